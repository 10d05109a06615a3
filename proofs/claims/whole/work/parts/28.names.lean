/-! NAMES of a law, laid by the class and by the reference -/
/-- a state with other rows of longs; and with another flag of errors -/
abbrev wB (σ : ST) (B : Nat → Nat → Nat → Nat → Int64) : ST := (σ.1, σ.2.1, σ.2.2.1, σ.2.2.2.1, B)
abbrev wE (τ : ST) (B : Nat → Nat → Nat → Nat → Int64) (e : Int32) : ST := (u3 τ.1 12 0 43 e, τ.2.1, τ.2.2.1, τ.2.2.2.1, B)
theorem wE_2 {τ : ST} {B B' : Nat → Nat → Nat → Nat → Int64} {e e' : Int32} : wE (wE τ B e) B' e' = wE τ B' e' := by
  show (u3 (u3 τ.1 12 0 43 e) 12 0 43 e', _) = _
  rw [u3_u]
theorem wE_i {τ : ST} {B : Nat → Nat → Nat → Nat → Int64} : wB τ B = wE τ B (gI τ 12 0 43) := by
  show _ = (u3 τ.1 12 0 43 (τ.1 12 0 43), τ.2.1, τ.2.2.1, τ.2.2.2.1, B)
  rw [u3_id]
theorem wE_0 {τ : ST} : τ = wE τ τ.2.2.2.2 (gI τ 12 0 43) := by
  have := wE_i (τ := τ) (B := τ.2.2.2.2)
  exact this
/-- the seven names -/
def nms (a0 a1 a2 a3 a4 a5 a6 : Int32) (j : Nat) : Int64 := (match j with
  | 0 => a0
  | 1 => a1
  | 2 => a2
  | 3 => a3
  | 4 => a4
  | 5 => a5
  | _ => a6).toInt64
theorem nms_bd (a0 a1 a2 a3 a4 a5 a6 : Int32) (j : Nat) : bd (nms a0 a1 a2 a3 a4 a5 a6 j) := bd_i _
theorem l7 {p : Nat → Prop} (h0 : p 0) (h1 : p 1) (h2 : p 2) (h3 : p 3) (h4 : p 4) (h5 : p 5) (h6 : p 6) : ∀ j, j < 7 → p j := by
  intro j hj
  have : j = 0 ∨ j = 1 ∨ j = 2 ∨ j = 3 ∨ j = 4 ∨ j = 5 ∨ j = 6 := by omega
  rcases this with rfl | rfl | rfl | rfl | rfl | rfl | rfl
  · exact h0
  · exact h1
  · exact h2
  · exact h3
  · exact h4
  · exact h5
  · exact h6
theorem cl0 : Int32.toNatClampNeg 0 = 0 := rfl
theorem cl1 : Int32.toNatClampNeg 1 = 1 := rfl
theorem cl2 : Int32.toNatClampNeg 2 = 2 := rfl
theorem cl3 : Int32.toNatClampNeg 3 = 3 := rfl
theorem cl4 : Int32.toNatClampNeg 4 = 4 := rfl
theorem cl5 : Int32.toNatClampNeg 5 = 5 := rfl
theorem cl6 : Int32.toNatClampNeg 6 = 6 := rfl
theorem up7 {f : Nat → Int64} {a0 a1 a2 a3 a4 a5 a6 : Int32} : ∀ j, j < 7 → vp_updL (vp_updL (vp_updL (vp_updL (vp_updL (vp_updL (vp_updL f 0 a0.toInt64) 1 a1.toInt64) 2 a2.toInt64) 3 a3.toInt64) 4 a4.toInt64) 5 a5.toInt64) 6 a6.toInt64 j = nms a0 a1 a2 a3 a4 a5 a6 j := l7 rfl rfl rfl rfl rfl rfl rfl
theorem e_tell (σ : ST) (o : Nat) {i j : Nat} (hi : i < 6) (hj : j < 6) (fa s : Int32) : ∃ B, den 12 [vR 0 o 0, vI (nI i), vI (nI j), vI fa, vI s] σ = some (none, wB σ B) ∧ ∀ k, k < 7 → B 0 o 2 k = nms (gA σ 5 o 2 j) (gA σ 5 o 2 i) (gA σ 0 o 1 i) fa (gA σ 5 o 3 j) s (gI σ 5 o 0) k := by
  have a1 := ob (i := i) (N := 6) hi (by decide)
  have a2 := ob (i := j) (N := 6) hj (by decide)
  have c1 : (nI i).toNatClampNeg = i := nI_clamp (by omega)
  have c2 : (nI j).toNatClampNeg = j := nI_clamp (by omega)
  rw [dX0_tell, bX0_tell_0]
  simp only [c1, c2, a1, a2, sBB, gB_s, cl0, cl1, cl2, cl3, cl4, cl5, cl6, ↓reduceIte]
  refine ⟨_, rfl, fun k hk => ?_⟩
  rw [u3_s]
  exact up7 k hk
theorem i6 (b j : Nat) : (6 : Int32) * nI b + nI j = nI (6 * b + j) := by
  show nI 6 * nI b + nI j = _
  rw [pk_mul, nI_add]
theorem i2 (b j : Nat) : (2 : Int32) * nI b + nI j = nI (2 * b + j) := by
  show nI 2 * nI b + nI j = _
  rw [pk_mul, nI_add]
/-- doubts and sights as they stand with the reference's switches -/
def dEff (τ : ST) (j : Nat) : Int32 := if gI τ 12 0 54 = 0 then (if nI j = gI τ 12 0 58 then gI τ 12 0 59 else gA τ 12 0 23 j) else 0
def sEff (τ : ST) (b j : Nat) : Int32 := (if gI τ 12 0 56 = 0 then gA τ 12 0 46 (6 * b + j) else (((1 : Int32) <<< (gI τ 12 0 12 &&& 31)) - (1 : Int32)) &&& (((1 : Int32) <<< (nI j &&& 31)) ^^^ (-1 : Int32))) &&& (gI τ 12 0 57 ^^^ (-1 : Int32))
theorem m_doubtIn (τ : ST) {j : Nat} (hj : j < 12) : den 213 [vR 12 0 0, vI (nI j)] τ = some (some (vI (dEff τ j)), τ) := by
  have a1 := ob (i := j) (N := 12) hj (by decide)
  have c1 : (nI j).toNatClampNeg = j := nI_clamp (by omega)
  rw [dX12_doubtIn, bX12_doubtIn_0]
  unfold dEff
  simp only [c1, a1, ↓reduceIte]
  by_cases h1 : gI τ 12 0 54 = 0
  · rw [if_pos h1, if_pos h1]
    by_cases h2 : nI j = gI τ 12 0 58
    · rw [if_pos h2, if_pos h2]
    · rw [if_neg h2, if_neg h2]
  · rw [if_neg h1, if_neg h1]
theorem m_seenBy (τ : ST) {b j : Nat} (hj : 6 * b + j < 12) : den 218 [vR 12 0 0, vI (nI b), vI (nI j)] τ = some (some (vI (sEff τ b j)), τ) := by
  have a1 := ob (i := 6 * b + j) (N := 12) hj (by decide)
  have c1 : (nI (6 * b + j)).toNatClampNeg = 6 * b + j := nI_clamp (by omega)
  rw [dX12_seenBy, bX12_seenBy_0]
  unfold sEff
  simp only [i6, c1, a1, ↓reduceIte]
  by_cases h1 : gI τ 12 0 56 = 0
  · rw [if_pos h1, if_pos h1]
  · rw [if_neg h1, if_neg h1]
/-- how far two places are -/
def apt (x y : Int32) : Int32 := if y < x then x - y else y - x
theorem m_apart (τ : ST) (x y : Int32) : den 212 [vI x, vI y] τ = some (some (vI (apt x y)), τ) := by
  rw [dX12_apart, bX12_apart_0]
  unfold apt
  by_cases h : y < x
  · rw [if_pos h, if_pos h]
  · rw [if_neg h, if_neg h]
theorem apt_self (x : Int32) : apt x x = 0 := by
  unfold apt
  by_cases h : x < x
  · rw [if_pos h, Int32.sub_self]
  · rw [if_neg h, Int32.sub_self]
theorem e_far (σ : ST) (G : Nat) {i j x y : Nat} (hi : i < 6) (hj : j < 6) (hx : x ≤ 99) (hy : y ≤ 99) (h1 : gA σ 2 G 8 i = nI x) (h2 : gA σ 2 G 8 j = nI y) : den 24 [vR 2 G 0, vI (nI i), vI (nI j)] σ = some (some (vI (apt (nI x) (nI y))), σ) := by
  have a1 := ob (i := i) (N := 6) hi (by decide)
  have a2 := ob (i := j) (N := 6) hj (by decide)
  have c1 : (nI i).toNatClampNeg = i := nI_clamp (by omega)
  have c2 : (nI j).toNatClampNeg = j := nI_clamp (by omega)
  rw [dX2_far, bX2_far_0]
  unfold apt
  simp only [c1, c2, a1, a2, h1, h2, ↓reduceIte]
  by_cases h : y < x
  · have l1 : ¬ nI x - nI y < 0 := by rw [pk_sub (by omega)]; exact nI_pos (by omega)
    rw [if_neg l1, if_pos (nI_lt h (by omega))]
  · rw [if_neg (nI_nlt (by omega) (by omega))]
    by_cases e : x = y
    · subst e
      have l1 : ¬ nI x - nI x < 0 := by rw [pk_sub (by omega)]; exact nI_pos (by omega)
      rw [if_neg l1]
    · have l1 : nI x - nI y < 0 := pk_sneg (by omega) (by omega)
      rw [if_pos l1, Int32.neg_sub]
theorem m_layNames (τ : ST) {b i j : Nat} (hb : b < 2) (hi : i < 6) (hj : j < 6) (s : Int32) : ∃ B, den 214 [vR 12 0 0, vI (nI b), vI (nI i), vI (nI j), vI s] τ = some (none, wB τ B) ∧ ∀ k, k < 7 → B 12 0 41 k = nms (gA τ 12 0 44 (6 * b + j)) (gA τ 12 0 44 (6 * b + i)) (dEff τ i) (apt (gA τ 12 0 24 i) (gA τ 12 0 24 j)) (gA τ 12 0 45 (6 * b + j)) s (gA τ 12 0 50 b) k := by
  have a1 := ob (i := 6 * b + i) (N := 12) (by omega) (by decide)
  have a2 := ob (i := 6 * b + j) (N := 12) (by omega) (by decide)
  have a3 := ob (i := i) (N := 12) (by omega) (by decide)
  have a4 := ob (i := j) (N := 12) (by omega) (by decide)
  have a5 := ob (i := b) (N := 2) (by omega) (by decide)
  have a6 : ¬ ((2 : Int32) < 0 ∨ 7 ≤ 2) := by decide
  have a7 : ¬ ((3 : Int32) < 0 ∨ 7 ≤ 3) := by decide
  have c1 : (nI (6 * b + i)).toNatClampNeg = 6 * b + i := nI_clamp (by omega)
  have c2 : (nI (6 * b + j)).toNatClampNeg = 6 * b + j := nI_clamp (by omega)
  have c3 : (nI i).toNatClampNeg = i := nI_clamp (by omega)
  have c4 : (nI j).toNatClampNeg = j := nI_clamp (by omega)
  have c5 : (nI b).toNatClampNeg = b := nI_clamp (by omega)
  rw [dX12_layNames, bX12_layNames_0]
  simp only [i6, c1, c2, a1, a2, sBB, gB_s, cl0, cl1, ↓reduceIte]
  rw [m_doubtIn _ (by omega), bnd_s, tl_s, bX12_layNames_32]
  simp only [c3, c4, a3, a4, a6, cl2, sBB, gB_s, ↓reduceIte, m_apart, bnd_s, tl_s]
  rw [bX12_layNames_46]
  simp only [i6, c2, c5, a2, a5, a7, cl3, cl4, cl5, cl6, sBB, gB_s, ↓reduceIte]
  refine ⟨_, rfl, fun k hk => ?_⟩
  rw [u3_s]
  exact up7 k hk
