/-! the reference's ringOf; Ring.prepare; ring -/
/-- the reference with other rows of longs, another flag, another row of steps -/
abbrev cmS (τ : ST) (B : Nat → Nat → Nat → Nat → Int64) (e : Int32) (f : Nat → Int32) : ST := sA (wE τ B e) 12 0 62 f
section ROF
variable {n b p : Nat} {τ : ST}
/-- what the reference says of who is esteemed how, and of who gives -/
def REh (τ : ST) (n b : Nat) (sc : Int32) (E : Nat → Nat → Int32) (V : Nat → Int32) : Prop :=
  (∀ (B : Nat → Nat → Nat → Nat → Int64) (e : Int32) (f : Nat → Int32) (i j : Nat), i < n → j < n → ∃ B2 e2, den 217 [vR 12 0 0, vI (nI b), vI (nI i), vI (nI j)] (cmS τ B e f) = some (some (vI (E i j)), cmS τ B2 e2 f)) ∧
  (∀ (B : Nat → Nat → Nat → Nat → Int64) (e : Int32) (f : Nat → Int32) (i : Nat), i < n → ∃ B2 e2, den 220 [vR 12 0 0, vI (nI b), vI (nI i), vI sc] (cmS τ B e f) = some (some (vI (V i)), cmS τ B2 e2 f))
theorem bo_loop (hn6 : n ≤ 6) (hn : gI τ 12 0 12 = nI n) {sc : Int32} {E : Nat → Nat → Int32} {V : Nat → Int32} (hR : REh τ n b sc E V) (f : Nat → Int32) {a : Nat} (ha : a < n) (s : Int32) : ∀ (m i : Nat), i + m = n → ∀ (bs v : Int32) (B : Nat → Nat → Nat → Nat → Int64) (e : Int32) (y7 : Option AV), ∃ B2 e2,
    run kX12_bestOf 11 [some (vR 12 0 0), some (vI (nI b)), some (vI (nI a)), some (vI s), some (vI bs), some (vI v), some (vI (nI i)), y7] [] (cmS τ B e f) = some (some (vI (bsP (E a) s m i bs v)), cmS τ B2 e2 f)
  | 0, i, hm, bs, v, B, e, y7 => by
    have hlt : ¬ nI i < nI n := nI_nlt (by omega) (by omega)
    have e1 : gI (cmS τ B e f) 12 0 12 = nI n := hn
    exact ⟨B, e, by rw [bX12_bestOf_11, e1, if_neg hlt]; rfl⟩
  | m + 1, i, hm, bs, v, B, e, y7 => by
    have hlt : nI i < nI n := nI_lt (by omega) (by omega)
    have e1 : gI (cmS τ B e f) 12 0 12 = nI n := hn
    obtain ⟨B2, e2, q⟩ := hR.1 B e f a i ha (by omega)
    rw [bX12_bestOf_11, e1, if_pos hlt, m_isOf, bnd_s, tl_s, bX12_bestOf_18, q, bnd_s, tl_s, bX12_bestOf_25]
    simp only [nI_S, bsP]
    by_cases h1 : bit s (nI i) = 0
    · rw [if_pos h1, if_pos h1]
      exact bo_loop hn6 hn hR f ha s m (i + 1) (by omega) _ _ _ _ _
    · rw [if_neg h1, if_neg h1]
      by_cases h2 : bs < 0
      · rw [if_pos h2, if_pos h2]
        exact bo_loop hn6 hn hR f ha s m (i + 1) (by omega) _ _ _ _ _
      · rw [if_neg h2, if_neg h2]
        by_cases h3 : v < E a i
        · rw [if_pos h3, if_pos h3]
          exact bo_loop hn6 hn hR f ha s m (i + 1) (by omega) _ _ _ _ _
        · rw [if_neg h3, if_neg h3]
          exact bo_loop hn6 hn hR f ha s m (i + 1) (by omega) _ _ _ _ _
theorem m_best (hn6 : n ≤ 6) (hn : gI τ 12 0 12 = nI n) (hb : b < 2) {sc : Int32} {E : Nat → Nat → Int32} {V : Nat → Int32} (hR : REh τ n b sc E V) (f : Nat → Int32) {a : Nat} (ha : a < n) (B : Nat → Nat → Nat → Nat → Int64) (e : Int32) : ∃ B2 e2,
    den 219 [vR 12 0 0, vI (nI b), vI (nI a)] (cmS τ B e f) = some (some (vI (bsP (E a) (sEff τ b a) n 0 (-2) 0)), cmS τ B2 e2 f) := by
  obtain ⟨B2, e2, q⟩ := bo_loop hn6 hn hR f ha (sEff τ b a) n 0 (by omega) (-2) 0 B e none
  rw [nI_0] at q
  have hs := m_seenBy (cmS τ B e f) (b := b) (j := a) (by omega)
  have hs' : den 218 [vR 12 0 0, vI (nI b), vI (nI a)] (cmS τ B e f) = some (some (vI (sEff τ b a)), cmS τ B e f) := hs
  exact ⟨B2, e2, by rw [dX12_bestOf, bX12_bestOf_0, hs', bnd_s, tl_s, bX12_bestOf_4, q]⟩
/-- the reference's members -/
theorem mb_loop (hn6 : n ≤ 6) {T : ST} (hn : gI T 12 0 12 = nI n) {f : Nat → Int32} (hf : gA T 12 0 62 = f) (X st : Int32) : ∀ (m i : Nat), i + m = n → ∀ (a : Int32) (y1 y2 y3 y5 : Option AV),
    run kX12_ringOf 28 [some (vR 12 0 0), y1, y2, y3, some (vI X), y5, some (vI (nI i))] [] (sI (sI T 12 0 60 st) 12 0 61 a) = some (some (vI 1), sI (sI T 12 0 60 st) 12 0 61 (mbP X f st m i a))
  | 0, i, hm, a, y1, y2, y3, y5 => by
    have hlt : ¬ nI i < nI n := nI_nlt (by omega) (by omega)
    have e1 : gI (sI (sI T 12 0 60 st) 12 0 61 a) 12 0 12 = nI n := hn
    rw [bX12_ringOf_28, e1, if_neg hlt]
    rfl
  | m + 1, i, hm, a, y1, y2, y3, y5 => by
    have hlt : nI i < nI n := nI_lt (by omega) (by omega)
    have e1 : gI (sI (sI T 12 0 60 st) 12 0 61 a) 12 0 12 = nI n := hn
    have e2 : gI (sI (sI T 12 0 60 st) 12 0 61 a) 12 0 61 = a := gI_s
    have e3 : gI (sI (sI T 12 0 60 st) 12 0 61 a) 12 0 60 = st := rfl
    have e4 : gA (sI (sI T 12 0 60 st) 12 0 61 a) 12 0 62 = f := hf
    have a1 := ob (i := i) (N := 6) (by omega) (by decide)
    have c1 : (nI i).toNatClampNeg = i := nI_clamp (by omega)
    rw [bX12_ringOf_28, e1, if_pos hlt, m_isOf, bnd_s, tl_s, e2, bX12_ringOf_38, e3, e4]
    simp only [c1, a1, ↓reduceIte, nI_S, mbP, sII]
    by_cases h1 : bit X (nI i) = 0
    · rw [if_pos h1, if_pos h1]
      exact mb_loop hn6 hn hf X st m (i + 1) (by omega) _ _ _ _ _
    · rw [if_neg h1, if_neg h1]
      by_cases h2 : f i < st
      · rw [if_pos h2, if_pos h2]
        exact mb_loop hn6 hn hf X st m (i + 1) (by omega) _ _ _ _ _
      · rw [if_neg h2, if_neg h2]
        exact mb_loop hn6 hn hf X st m (i + 1) (by omega) _ _ _ _ _
/-- the reference's state behind ringOf -/
def roS (τ : ST) (B : Nat → Nat → Nat → Nat → Int64) (e : Int32) (f : Nat → Int32) (q : Int32 × Int32 × Int32) : ST := sI (sI (cmS τ B e f) 12 0 60 q.2.1) 12 0 61 q.2.2
theorem ro_loop (hn6 : n ≤ 6) (hn : gI τ 12 0 12 = nI n) (hb : b < 2) (hp : p < 2) {E : Nat → Nat → Int32} {V : Nat → Int32} (hV : ∀ i, i < n → V i = 0 ∨ V i = 1) (hR : REh τ n b (gA τ 12 0 48 (2 * b + p)) E V) : ∀ (m t : Nat), t + m = n + 1 → ∀ (X a : Nat) (cm f : Nat → Int32) (B : Nat → Nat → Nat → Nat → Int64) (e : Int32) (y6 : Option AV), X < 2 ^ n → pop6 X = t → a < n → (∀ i, i < n → bit (nI X) (nI i) ≠ 0 → f i = cm i) → ∃ B2 e2 f',
    run kX12_ringOf 13 [some (vR 12 0 0), some (vI (nI b)), some (vI (nI p)), some (vI (nI a)), some (vI (nI X)), some (vI (nI t)), y6] [] (cmS τ B e f) = some (some (vI (rgP (nxP n E V (sEff τ b)) n m a X t cm).1), roS τ B2 e2 f' (rgP (nxP n E V (sEff τ b)) n m a X t cm))
  | 0, t, hm, X, a, cm, f, B, e, y6, hX, hpo, ha, hf => by
    have := (pt2 n (by omega) X (Nat.lt_of_lt_of_le hX (p2_64 hn6)) hX).1
    omega
  | m + 1, t, hm, X, a, cm, f, B, e, y6, hX, hpo, ha, hf => by
    have hX64 : X < 64 := Nat.lt_of_lt_of_le hX (p2_64 hn6)
    have a1 := ob (i := a) (N := 6) (by omega) (by decide)
    have c1 : (nI a).toNatClampNeg = a := nI_clamp (by omega)
    have a2 := ob (i := 2 * b + p) (N := 4) (by omega) (by decide)
    have c2 : (nI (2 * b + p)).toNatClampNeg = 2 * b + p := nI_clamp (by omega)
    have g3 : gA (cmS τ B e f) 12 0 62 = f := gA_s
    rw [bX12_ringOf_13, m_isOf, bnd_s, tl_s, bX12_ringOf_16, g3]
    simp only [c1, a1, ↓reduceIte, rgP]
    by_cases h1 : bit (nI X) (nI a) = 0
    · have hbt := (bit_iff hX64 (by omega)).mp h1
      obtain ⟨p1, p2⟩ := pt1 X hX64 a (by omega) hbt
      have p3 := (pt2 n (by omega) X hX64 hX).2 a ha hbt
      obtain ⟨B2, e2, q⟩ := m_best hn6 hn hb hR (upd f a (nI t)) ha B e
      obtain ⟨B3, e3, q3⟩ := hR.2 B2 e2 (upd f a (nI t)) a ha
      have g48 : gA (cmS τ B2 e2 (upd f a (nI t))) 12 0 48 = gA τ 12 0 48 := rfl
      rw [if_pos h1, if_pos h1, sAA, p1, q, bnd_s, tl_s, bX12_ringOf_72, i2, g48]
      simp only [c2, a2, ↓reduceIte]
      rw [q3, bnd_s, tl_s, bX12_ringOf_87]
      have hne : nxP n E V (sEff τ b) a = (if V a = 0 then -2 else bsP (E a) (sEff τ b a) n 0 (-2) 0) := rfl
      rw [hne]
      rcases bsP_r (n := n) (E := E a) (s := sEff τ b a) n 0 (-2) 0 (by omega) (Or.inl rfl) with h3 | ⟨k, hk, h3⟩
      · rw [h3, if_pos (show (-2 : Int32) < 0 by decide), ite_self, if_pos (show (-2 : Int32) < 0 by decide)]
        exact ⟨B2, e2, upd f a (nI t), rfl⟩
      · have l : ¬ nI k < 0 := nI_pos (by omega)
        rw [h3, if_neg l]
        rcases hV a ha with h2 | h2
        · rw [h2, if_pos rfl, if_pos rfl, if_pos (show (-2 : Int32) < 0 by decide)]
          exact ⟨B3, e3, upd f a (nI t), rfl⟩
        · rw [h2, if_neg i10, if_neg i10, if_neg l, nI_clamp (by omega), nI_S]
          refine ro_loop hn6 hn hb hp hV hR m (t + 1) (by omega) (X + 2 ^ a) k (upd cm a (nI t)) (upd f a (nI t)) B3 e3 _ p3 (by omega) hk (fun i hi hb' => ?_)
          by_cases e : i = a
          · rw [e, pk_us, pk_us]
          · have x64 : X + 2 ^ a < 64 := Nat.lt_of_lt_of_le p3 (p2_64 hn6)
            rw [upd_o e, upd_o e]
            apply hf i hi
            intro z
            apply hb'
            rw [bit_iff x64 (by omega), pt3 X hX64 a (by omega) hbt x64 i (by omega) e]
            exact (bit_iff hX64 (by omega)).mp z
    · rw [if_neg h1, if_neg h1]
      have hl := mb_loop hn6 (T := cmS τ B e f) hn g3 (nI X) (f a) n 0 (by omega) 0 (some (vI (nI b))) (some (vI (nI p))) (some (vI (nI a))) (some (vI (nI t)))
      rw [nI_0] at hl
      rw [hl, mbP_c (c1 := f) (c2 := cm) hf n 0 0 (by omega), hf a ha h1]
      exact ⟨B, e, f, rfl⟩
theorem m_ringOf (hn6 : n ≤ 6) (hn : gI τ 12 0 12 = nI n) (hb : b < 2) (hp : p < 2) {E : Nat → Nat → Int32} {V : Nat → Int32} (hV : ∀ i, i < n → V i = 0 ∨ V i = 1) (hR : REh τ n b (gA τ 12 0 48 (2 * b + p)) E V) {a : Nat} (ha : a < n) (h47 : gA τ 12 0 47 (2 * b + p) = nI a) : ∃ B2 e2 f',
    den 239 [vR 12 0 0, vI (nI b), vI (nI p)] τ = some (some (vI (rgP (nxP n E V (sEff τ b)) n (n + 1) a 0 0 (fun _ => 0)).1), roS τ B2 e2 f' (rgP (nxP n E V (sEff τ b)) n (n + 1) a 0 0 (fun _ => 0))) := by
  obtain ⟨B2, e2, f', h⟩ := ro_loop hn6 hn hb hp hV hR (n + 1) 0 (by omega) 0 a (fun _ => 0) (gA τ 12 0 62) τ.2.2.2.2 (gI τ 12 0 43) none (Nat.two_pow_pos n) rfl ha (fun i hi hb => absurd (by rw [nI_0]; exact bit_0 _) hb)
  have e0 : cmS τ τ.2.2.2.2 (gI τ 12 0 43) (gA τ 12 0 62) = τ := by
    show sA (wE τ τ.2.2.2.2 (gI τ 12 0 43)) 12 0 62 (gA τ 12 0 62) = τ
    rw [← wE_0, sA_id]
  have a2 := ob (i := 2 * b + p) (N := 4) (by omega) (by decide)
  have c2 : (nI (2 * b + p)).toNatClampNeg = 2 * b + p := nI_clamp (by omega)
  rw [nI_0, e0] at h
  refine ⟨B2, e2, f', ?_⟩
  rw [dX12_ringOf, bX12_ringOf_0, i2]
  simp only [c2, a2, ↓reduceIte, h47]
  exact h
end ROF
section PRE
variable {S : Nat → Prop} {G n r o b p : Nat} {σ τ : ST}
/-- the ring's rows, as they are being prepared -/
def prS (σ : ST) (B : Nat → Nat → Nat → Nat → Int64) (s v E : Nat → Int32) : ST := wB (sA (sA (sA σ 7 0 2 s) 7 0 1 v) 7 0 0 E) B
theorem prS_2 {B : Nat → Nat → Nat → Nat → Int64} {s v E s' : Nat → Int32} : sA (prS σ B s v E) 7 0 2 s' = prS σ B s' v E := by
  show wB (sA (sA (sA (sA σ 7 0 2 s) 7 0 1 v) 7 0 0 E) 7 0 2 s') B = wB (sA (sA (sA σ 7 0 2 s') 7 0 1 v) 7 0 0 E) B
  rw [sA_c (k := 0) (k' := 2) (by decide), sA_c (k := 1) (k' := 2) (by decide), sAA]
theorem prS_1 {B : Nat → Nat → Nat → Nat → Int64} {s v E v' : Nat → Int32} : sA (prS σ B s v E) 7 0 1 v' = prS σ B s v' E := by
  show wB (sA (sA (sA (sA σ 7 0 2 s) 7 0 1 v) 7 0 0 E) 7 0 1 v') B = wB (sA (sA (sA σ 7 0 2 s) 7 0 1 v') 7 0 0 E) B
  rw [sA_c (k := 0) (k' := 1) (by decide), sAA]
theorem prS_0 {B : Nat → Nat → Nat → Nat → Int64} {s v E E' : Nat → Int32} : sA (prS σ B s v E) 7 0 0 E' = prS σ B s v E' := by
  show wB (sA (sA (sA (sA σ 7 0 2 s) 7 0 1 v) 7 0 0 E) 7 0 0 E') B = wB (sA (sA (sA σ 7 0 2 s) 7 0 1 v) 7 0 0 E') B
  rw [sAA]
theorem prS_g0 {B : Nat → Nat → Nat → Nat → Int64} {s v E : Nat → Int32} : gA (prS σ B s v E) 7 0 0 = E := rfl
theorem prS_g1 {B : Nat → Nat → Nat → Nat → Int64} {s v E : Nat → Int32} : gA (prS σ B s v E) 7 0 1 = v := rfl
theorem prS_g2 {B : Nat → Nat → Nat → Nat → Int64} {s v E : Nat → Int32} : gA (prS σ B s v E) 7 0 2 = s := rfl
theorem nb01 {z : Int32} (h : z = 0 ∨ z = 1) : vp_nar .boolean z = z := by
  rcases h with rfl | rfl <;> decide
theorem pre_in (hn6 : n ≤ 6) (h4 : gI σ 7 0 4 = nI n) (hY : YQ S G n r σ o τ b) {E : Nat → Nat → Int32} (hE : ∀ i j, i < n → j < n → ∀ (σ' : ST) (S' : Nat → Prop), YQ S' G n r σ' o τ b → ∃ B, den 9 [vR 0 o 0, vI (nI i), vI (nI j)] σ' = some (some (vI (E i j)), wB σ' B)) (s v : Nat → Int32) {i : Nat} (hi : i < n) : ∀ (m j : Nat), j + m = n → ∀ (B : Nat → Nat → Nat → Nat → Int64) (T : Nat → Int32), ∃ B2 T2 y,
    run kX7_prepare 41 [some (vR 7 0 0), some (vR 0 o 0), some (vI (nI p)), some (vI (nI i)), some (vI (nI j))] [] (prS σ B s v T) = run kX7_prepare 14 [some (vR 7 0 0), some (vR 0 o 0), some (vI (nI p)), some (vI (nI (i + 1))), y] [] (prS σ B2 s v T2) ∧
    (∀ q, j ≤ q → q < n → bit (s i) (nI q) ≠ 0 → T2 (6 * i + q) = E i q) ∧ (∀ q, ¬ (6 * i + j ≤ q ∧ q < 6 * i + n) → T2 q = T q)
  | 0, j, hm, B, T => by
    have hlt : ¬ nI j < nI n := nI_nlt (by omega) (by omega)
    have e4 : gI (prS σ B s v T) 7 0 4 = nI n := h4
    exact ⟨B, T, some (vI (nI j)), by rw [bX7_prepare_41, e4, if_neg hlt, nI_S], fun q h1 h2 => by omega, fun _ _ => rfl⟩
  | m + 1, j, hm, B, T => by
    have hlt : nI j < nI n := nI_lt (by omega) (by omega)
    have e4 : gI (prS σ B s v T) 7 0 4 = nI n := h4
    have a1 := ob (i := i) (N := 6) (by omega) (by decide)
    have c1 : (nI i).toNatClampNeg = i := nI_clamp (by omega)
    have a2 := ob (i := 6 * i + j) (N := 36) (by omega) (by decide)
    have c2 : (nI (6 * i + j)).toNatClampNeg = 6 * i + j := nI_clamp (by omega)
    have e6 : nI i * 6 + nI j = nI (6 * i + j) := by
      have : nI i * 6 = nI (i * 6) := pk_mul i 6
      rw [this, nI_add, Nat.mul_comm]
    rw [bX7_prepare_41, e4, if_pos hlt, prS_g2]
    simp only [c1, a1, ↓reduceIte, e6]
    rw [e_has, bnd_s, tl_s, bX7_prepare_58]
    simp only [c2, a2, ↓reduceIte, nI_S, prS_g0, prS_0]
    by_cases h1 : bit (s i) (nI j) = 0
    · obtain ⟨B2, T2, y, f1, f2, f3⟩ := pre_in hn6 h4 hY hE s v hi m (j + 1) (by omega) B (upd T (6 * i + j) 0)
      rw [if_pos h1]
      refine ⟨B2, T2, y, f1, fun q h2 h3 hb => ?_, fun q h2 => ?_⟩
      · by_cases e : q = j
        · rw [e] at hb
          exact absurd h1 hb
        · exact f2 q (by omega) h3 hb
      · rw [f3 q (by omega), upd_o (by omega)]
    · obtain ⟨B1, q1⟩ := hE i j hi (by omega) (prS σ B s v T) S hY
      have w1 : wB (prS σ B s v T) B1 = prS σ B1 s v T := rfl
      obtain ⟨B2, T2, y, f1, f2, f3⟩ := pre_in hn6 h4 hY hE s v hi m (j + 1) (by omega) B1 (upd T (6 * i + j) (E i j))
      rw [if_neg h1, q1, w1, bnd_s, tl_s, bX7_prepare_63]
      simp only [c2, a2, ↓reduceIte, nI_S, prS_g0, prS_0]
      refine ⟨B2, T2, y, f1, fun q h2 h3 hb => ?_, fun q h2 => ?_⟩
      · by_cases e : q = j
        · rw [e, f3 (6 * i + j) (by omega), pk_us]
        · exact f2 q (by omega) h3 hb
      · rw [f3 q (by omega), upd_o (by omega)]
theorem pre_out (hn6 : n ≤ 6) (hp : p < 2) (h4 : gI σ 7 0 4 = nI n) (hY : YQ S G n r σ o τ b) {E : Nat → Nat → Int32} (hE : ∀ i j, i < n → j < n → ∀ (σ' : ST) (S' : Nat → Prop), YQ S' G n r σ' o τ b → ∃ B, den 9 [vR 0 o 0, vI (nI i), vI (nI j)] σ' = some (some (vI (E i j)), wB σ' B))
    {V : Nat → Int32} (hV : ∀ i, i < n → (V i = 0 ∨ V i = 1) ∧ ∀ (σ' : ST) (S' : Nat → Prop), YQ S' G n r σ' o τ b → ∃ B, den 8 [vR 0 o 0, vI (nI i), vI (gA σ 5 o 6 p)] σ' = some (some (vI (V i)), wB σ' B)) : ∀ (m i : Nat), i + m = n → ∀ (B : Nat → Nat → Nat → Nat → Int64) (s v T : Nat → Int32) (y : Option AV), ∃ B2 s2 v2 T2,
    run kX7_prepare 14 [some (vR 7 0 0), some (vR 0 o 0), some (vI (nI p)), some (vI (nI i)), y] [] (prS σ B s v T) = some (none, prS σ B2 s2 v2 T2) ∧
    (∀ k, i ≤ k → k < n → s2 k = gA σ 5 o 4 k ∧ v2 k = V k ∧ ∀ q, q < n → bit (gA σ 5 o 4 k) (nI q) ≠ 0 → T2 (6 * k + q) = E k q) ∧ (∀ k, k < i → s2 k = s k ∧ v2 k = v k ∧ ∀ q, q < n → T2 (6 * k + q) = T (6 * k + q))
  | 0, i, hm, B, s, v, T, y => by
    have hlt : ¬ nI i < nI n := nI_nlt (by omega) (by omega)
    have e4 : gI (prS σ B s v T) 7 0 4 = nI n := h4
    exact ⟨B, s, v, T, by rw [bX7_prepare_14, e4, if_neg hlt], fun k h1 h2 => by omega, fun _ _ => ⟨rfl, rfl, fun _ _ => rfl⟩⟩
  | m + 1, i, hm, B, s, v, T, y => by
    have hi : i < n := by omega
    have hlt : nI i < nI n := nI_lt (by omega) (by omega)
    have e4 : gI (prS σ B s v T) 7 0 4 = nI n := h4
    have a1 := ob (i := i) (N := 6) (by omega) (by decide)
    have c1 : (nI i).toNatClampNeg = i := nI_clamp (by omega)
    have a2 := ob (i := p) (N := 2) (by omega) (by decide)
    have c2 : (nI p).toNatClampNeg = p := nI_clamp (by omega)
    have g4 : gA (prS σ B s v T) 5 o 4 = gA σ 5 o 4 := rfl
    have g6 : gA (prS σ B s v T) 5 o 6 = gA σ 5 o 6 := rfl
    obtain ⟨B1, q1⟩ := (hV i hi).2 (prS σ B (upd s i (gA σ 5 o 4 i)) v T) S hY
    have w1 : wB (prS σ B (upd s i (gA σ 5 o 4 i)) v T) B1 = prS σ B1 (upd s i (gA σ 5 o 4 i)) v T := rfl
    obtain ⟨B2, T2, y2, f1, f2, f3⟩ := pre_in (p := p) hn6 h4 hY hE (upd s i (gA σ 5 o 4 i)) (upd v i (V i)) hi n 0 (by omega) B1 T
    obtain ⟨B3, s3, v3, T3, k1, k2, k3⟩ := pre_out hn6 hp h4 hY hE hV m (i + 1) (by omega) B2 (upd s i (gA σ 5 o 4 i)) (upd v i (V i)) T2 y2
    rw [nI_0] at f1
    refine ⟨B3, s3, v3, T3, ?_, fun k h1 h2 => ?_, fun k h1 => ?_⟩
    · rw [bX7_prepare_14, e4, if_pos hlt]
      simp only [c1, c2, a1, a2, ↓reduceIte, g4, g6, prS_g2, prS_2]
      rw [q1, w1, bnd_s, tl_s, bX7_prepare_38]
      simp only [c1, a1, ↓reduceIte, prS_g1, prS_1]
      rw [nb01 (hV i hi).1, f1, k1]
    · by_cases e : k = i
      · subst e
        obtain ⟨x1, x2, x3⟩ := k3 k (by omega)
        rw [pk_us] at x1 x2
        refine ⟨x1, x2, fun q hq hb => ?_⟩
        rw [x3 q hq]
        refine f2 q (Nat.zero_le _) hq ?_
        rw [pk_us]
        exact hb
      · exact k2 k (by omega) h2
    · obtain ⟨x1, x2, x3⟩ := k3 k (by omega)
      rw [upd_o (by omega)] at x1 x2
      refine ⟨x1, x2, fun q hq => ?_⟩
      rw [x3 q hq, f3 (6 * k + q) (by omega)]
/-- Ring.prepare -/
theorem e_prepare (hn6 : n ≤ 6) (hp : p < 2) (hY : YQ S G n r σ o τ b) {E : Nat → Nat → Int32} (hE : ∀ i j, i < n → j < n → ∀ (σ' : ST) (S' : Nat → Prop), YQ S' G n r σ' o τ b → ∃ B, den 9 [vR 0 o 0, vI (nI i), vI (nI j)] σ' = some (some (vI (E i j)), wB σ' B))
    {V : Nat → Int32} (hV : ∀ i, i < n → (V i = 0 ∨ V i = 1) ∧ ∀ (σ' : ST) (S' : Nat → Prop), YQ S' G n r σ' o τ b → ∃ B, den 8 [vR 0 o 0, vI (nI i), vI (gA σ 5 o 6 p)] σ' = some (some (vI (V i)), wB σ' B)) : ∃ B2 s2 v2 T2,
    den 76 [vR 7 0 0, vR 0 o 0, vI (nI p)] σ = some (none, prS (sI (sI σ 7 0 4 (nI n)) 7 0 5 (gA σ 5 o 5 p)) B2 s2 v2 T2) ∧
    (∀ k, k < n → s2 k = gA σ 5 o 4 k ∧ v2 k = V k ∧ ∀ q, q < n → bit (gA σ 5 o 4 k) (nI q) ≠ 0 → T2 (6 * k + q) = E k q) := by
  have a2 := ob (i := p) (N := 2) (by omega) (by decide)
  have c2 : (nI p).toNatClampNeg = p := nI_clamp (by omega)
  have hn : gI σ 2 (gR σ 0 o 4) 0 = nI n := by rw [hY.2.1]; exact hY.1.1.2.2.1.1
  have h4 : gI (sI (sI σ 7 0 4 (nI n)) 7 0 5 (gA σ 5 o 5 p)) 7 0 4 = nI n := rfl
  obtain ⟨B2, s2, v2, T2, f1, f2, _⟩ := pre_out (σ := sI (sI σ 7 0 4 (nI n)) 7 0 5 (gA σ 5 o 5 p)) hn6 hp h4 hY hE hV n 0 (by omega) σ.2.2.2.2 (gA σ 7 0 2) (gA σ 7 0 1) (gA σ 7 0 0) none
  have e0 : prS (sI (sI σ 7 0 4 (nI n)) 7 0 5 (gA σ 5 o 5 p)) σ.2.2.2.2 (gA σ 7 0 2) (gA σ 7 0 1) (gA σ 7 0 0) = sI (sI σ 7 0 4 (nI n)) 7 0 5 (gA σ 5 o 5 p) := by
    show wB (sA (sA (sA (sI (sI σ 7 0 4 (nI n)) 7 0 5 (gA σ 5 o 5 p)) 7 0 2 (gA (sI (sI σ 7 0 4 (nI n)) 7 0 5 (gA σ 5 o 5 p)) 7 0 2)) 7 0 1 (gA (sI (sI σ 7 0 4 (nI n)) 7 0 5 (gA σ 5 o 5 p)) 7 0 1)) 7 0 0 (gA (sI (sI σ 7 0 4 (nI n)) 7 0 5 (gA σ 5 o 5 p)) 7 0 0)) σ.2.2.2.2 = _
    rw [sA_id, sA_id, sA_id]
    rfl
  rw [e0, nI_0] at f1
  refine ⟨B2, s2, v2, T2, ?_, fun k hk => f2 k (Nat.zero_le _) hk⟩
  rw [dX7_prepare, bX7_prepare_0, hn]
  simp only [c2, a2, ↓reduceIte]
  exact f1
end PRE
section QRING
variable {G n r : Nat} {σ τ : ST}
theorem REh_of {S : Nat → Prop} {o b : Nat} (hY : YQ S G n r σ o τ b) {sc : Int32} {E : Nat → Nat → Int32} {V : Nat → Int32}
    (hE : ∀ i j, i < n → j < n → ∀ (τ' : ST) (S' : Nat → Prop), YQ S' G n r σ o τ' b → ∃ B e, den 217 [vR 12 0 0, vI (nI b), vI (nI i), vI (nI j)] τ' = some (some (vI (E i j)), wE τ' B e))
    (hV : ∀ i, i < n → ∀ (τ' : ST) (S' : Nat → Prop), YQ S' G n r σ o τ' b → ∃ B e, den 220 [vR 12 0 0, vI (nI b), vI (nI i), vI sc] τ' = some (some (vI (V i)), wE τ' B e)) : REh τ n b sc E V := by
  have w : ∀ (B B2 : Nat → Nat → Nat → Nat → Int64) (e e2 : Int32) (f : Nat → Int32), wE (cmS τ B e f) B2 e2 = cmS τ B2 e2 f := by
    intro B B2 e e2 f
    show ((u3 (u3 τ.1 12 0 43 e) 12 0 43 e2, τ.2.1, τ.2.2.1, u3 τ.2.2.2.1 12 0 62 f, B2) : ST) = (u3 τ.1 12 0 43 e2, τ.2.1, τ.2.2.1, u3 τ.2.2.2.1 12 0 62 f, B2)
    rw [u3_u]
  refine ⟨fun B e f i j hi hj => ?_, fun B e f i hi => ?_⟩
  · obtain ⟨B2, e2, q⟩ := hE i j hi hj (cmS τ B e f) S hY
    rw [w] at q
    exact ⟨B2, e2, q⟩
  · obtain ⟨B2, e2, q⟩ := hV i hi (cmS τ B e f) S hY
    rw [w] at q
    exact ⟨B2, e2, q⟩
theorem scC_prS {B : Nat → Nat → Nat → Nat → Int64} {s v E : Nat → Int32} : scC σ (prS σ B s v E) :=
  scC_t (scC_A (Or.inr (Or.inl rfl)) _) (scC_t (scC_A (Or.inr (Or.inl rfl)) _) (scC_t (scC_A (Or.inr (Or.inl rfl)) _) (scC_B B)))
theorem scC_fwS {f : Nat → Int32} {q : Int32 × Int32 × Int32} : scC σ (fwS σ f q) :=
  scC_t (scC_A (Or.inr (Or.inl rfl)) _) (scC_t (scC_I (Or.inr (Or.inl rfl)) _) (scC_t (scC_I (Or.inr (Or.inl rfl)) _) (scC_I (Or.inr (Or.inl rfl)) _)))
theorem scM_roS {B : Nat → Nat → Nat → Nat → Int64} {e : Int32} {f : Nat → Int32} {q : Int32 × Int32 × Int32} : scM τ (roS τ B e f q) :=
  scM_t (scM_E B e) (scM_t (scM_A (Or.inl rfl) _) (scM_t (scM_I (by omega) _) (scM_I (by omega) _)))
theorem fw_67 {f : Nat → Int32} {q : Int32 × Int32 × Int32} : gI (fwS σ f q) 7 0 6 = q.1 ∧ gI (fwS σ f q) 7 0 7 = q.2.1 ∧ gI (fwS σ f q) 7 0 8 = q.2.2 :=
  ⟨rfl, rfl, rfl⟩
theorem ro_60 {B : Nat → Nat → Nat → Nat → Int64} {e : Int32} {f : Nat → Int32} {q : Int32 × Int32 × Int32} : gI (roS τ B e f q) 12 0 60 = q.2.1 ∧ gI (roS τ B e f q) 12 0 61 = q.2.2 :=
  ⟨rfl, rfl⟩
theorem rgP_01 {nx : Nat → Int32} {n : Nat} : ∀ (m a X t : Nat) (cm : Nat → Int32), (rgP nx n m a X t cm).1 = 0 ∨ (rgP nx n m a X t cm).1 = 1
  | 0, _, _, _, _ => Or.inr rfl
  | m + 1, a, X, t, cm => by
    simp only [rgP]
    by_cases h1 : bit (nI X) (nI a) = 0
    · rw [if_pos h1]
      by_cases h2 : nx a < 0
      · rw [if_pos h2]; exact Or.inl rfl
      · rw [if_neg h2]; exact rgP_01 m _ _ _ _
    · rw [if_neg h1]; exact Or.inr rfl
theorem q_ring (hQ : RQ G n r σ τ) (x y : Int32) : ans σ τ (den 124 [vR 11 0 0, vI x, vI y] σ) (den 240 [vR 12 0 0, vI x, vI y] τ) := by
  have hr2 := hQ.1.1.r2
  have hn6 := hQ.1.1.n6
  have hs := scM_t (scM_th τ) (scM_plT _)
  have hQ1 := RQ_sc hQ scC_0 hs
  have hmr : gI (th0 τ) 12 0 13 = nI r := hQ.1.1.mr
  rw [dX11_ring, bX11_ring_0, e_isRibbon, hQ.1.1.cr, bnd_s, tl_s, bX11_ring_3, dX12_ring, bX12_ring_0, m_isRibbon, hmr, bnd_s, tl_s, bX12_ring_6]
  rcases isb_nI (g := x) (n := r) (by omega) with h | ⟨p, hp, rfl, h⟩
  · rw [h, if_pos rfl, if_pos rfl]
    exact ⟨-1, _, _, rfl, rfl, scC_0, scM_th τ⟩
  rw [h, if_neg i10, if_neg i10, e_isWithin, m_isIn, bnd_s, bnd_s, tl_s, bX11_ring_8, bX12_ring_11]
  by_cases h0 : inb y 0 2 = 0
  · rw [if_pos h0, if_pos h0]
    exact ⟨-1, _, _, rfl, rfl, scC_0, scM_th τ⟩
  have hY := YQ_real hQ1 (RF_plT _)
  obtain ⟨ho, a, ha, ho'⟩ := hY.2.2.2.2.2.2.1 p hp
  have hsi := hY.2.2.2.2.2.2.2.1 p hp
  obtain ⟨E, hE⟩ := est_val hY (by decide)
  obtain ⟨V, hV⟩ := giv_val hY (by decide) (gA σ 5 0 6 p)
  obtain ⟨B2, s2, v2, T2, f1, f2⟩ := e_prepare (p := p) hn6 (by omega) hY (fun i j hi hj => (hE i j hi hj).2.1) (fun i hi => ⟨(hV i hi).1, (hV i hi).2.1⟩)
  have h4 : gI (prS (sI (sI σ 7 0 4 (nI n)) 7 0 5 (gA σ 5 0 5 p)) B2 s2 v2 T2) 7 0 4 = nI n := rfl
  have h5 : gI (prS (sI (sI σ 7 0 4 (nI n)) 7 0 5 (gA σ 5 0 5 p)) B2 s2 v2 T2) 7 0 5 = nI a := ho'
  obtain ⟨f', g1⟩ := e_follow hn6 h4 (E := E) (fun i j hi hj hb => by
    rw [prS_g2, (f2 i hi).1] at hb
    rw [prS_g0]
    exact (f2 i hi).2.2 j hj hb) ha h5
  rw [prS_g1, prS_g2] at g1
  have hR := REh_of hY (fun i j hi hj => (hE i j hi hj).2.2) (fun i hi => (hV i hi).2.2)
  rw [hsi] at hR
  obtain ⟨B3, e3, f3, g2⟩ := m_ringOf (p := p) hn6 hQ1.1.1.mn (by decide) (by omega) (fun i hi => (hV i hi).1) hR ha (ho.symm.trans ho')
  have g2' : den 239 [vR 12 0 0, vI 0, vI (nI p)] (plT (th0 τ)) = _ := g2
  have hc : rgP (nxP n E v2 s2) n (n + 1) a 0 0 (fun _ => 0) = rgP (nxP n E V (sEff (plT (th0 τ)) 0)) n (n + 1) a 0 0 (fun _ => 0) := by
    refine rgP_c (fun i hi => ?_) (fun i _ => nxP_r i) hn6 _ _ _ _ _ ha
    unfold nxP
    rw [(f2 i hi).2.1, (f2 i hi).1, hY.2.2.2.2.2.1 i hi trivial]
  rw [hc] at g1
  rw [if_neg h0, if_neg h0, f1, m_plain, bnd_s, bnd_s, tl_n, bX11_ring_17, g1, bX12_ring_16, g2', bnd_s, bnd_s, tl_n, tl_s, bX11_ring_20, bX12_ring_20]
  have h01 := rgP_01 (nx := nxP n E V (sEff (plT (th0 τ)) 0)) (n := n) (n + 1) a 0 0 (fun _ => 0)
  generalize rgP (nxP n E V (sEff (plT (th0 τ)) 0)) n (n + 1) a 0 0 (fun _ => 0) = q at h01 ⊢
  have k1 : scC σ (fwS (prS (sI (sI σ 7 0 4 (nI n)) 7 0 5 (gA σ 5 0 5 p)) B2 s2 v2 T2) f' q) := scC_t (scC_t (scC_I (Or.inr (Or.inl rfl)) _) (scC_I (Or.inr (Or.inl rfl)) _)) (scC_t scC_prS scC_fwS)
  have k2 : scM τ (roS (plT (th0 τ)) B3 e3 f3 q) := scM_t hs scM_roS
  rw [fw_67.1, fw_67.2.1, fw_67.2.2, ro_60.1, ro_60.2]
  by_cases y0 : y = 0
  · rw [if_pos y0, if_pos y0]
    rcases h01 with h | h
    · rw [h, if_pos rfl]
      exact ⟨_, _, _, rfl, rfl, k1, k2⟩
    · rw [h, if_neg i10]
      exact ⟨_, _, _, rfl, rfl, k1, k2⟩
  · rw [if_neg y0, if_neg y0]
    by_cases y1 : y = 1
    · rw [if_pos y1, if_pos y1]
      exact ⟨_, _, _, rfl, rfl, k1, k2⟩
    · rw [if_neg y1, if_neg y1]
      exact ⟨_, _, _, rfl, rfl, k1, k2⟩
end QRING
