/-! READING A TEXT: laws; signs that wait, knots that grow -/
/-- a row as a pile, the last one first -/
def skA (F : Nat → Int32) (g : Nat → Int32) : List Nat → Prop
  | [] => True
  | k :: r => F r.length = g k ∧ skA F g r
theorem skA_c {F F' g : Nat → Int32} : ∀ (r : List Nat), (∀ j, j < r.length → F' j = F j) → skA F g r → skA F' g r
  | [], _, _ => trivial
  | k :: r, h, hs => ⟨(h r.length (by rw [List.length_cons]; omega)).trans hs.1, skA_c r (fun j hj => h j (by rw [List.length_cons]; omega)) hs.2⟩
theorem skA_p {F g : Nat → Int32} {r : List Nat} (h : skA F g r) (k : Nat) : skA (upd F r.length (g k)) g (k :: r) := ⟨pk_us, skA_c r (fun j hj => upd_o (by omega)) h⟩
def csg (k : Nat) : Nat := if k = 0 then 13 else if k = 2 then 2 else sg k
def rnk (k : Nat) : Nat := if 13 ≤ k then 6 else if 11 ≤ k then 5 else if 5 ≤ k then 4 else if k = 2 then 3 else if k = 3 then 2 else if k = 4 then 1 else 0
def okw (k : Nat) : Prop := k = 0 ∨ (2 ≤ k ∧ k ≤ 14)
def zc : List Nat → Nat
  | [] => 0
  | k :: r => zc r + (if k = 0 then 1 else 0)
def bc : List Nat → Nat
  | [] => 0
  | k :: r => bc r + (if 3 ≤ k then 1 else 0)
theorem bc_le : ∀ ws, bc ws ≤ ws.length
  | [] => Nat.le_refl _
  | k :: r => by
    have := bc_le r
    unfold bc
    rw [List.length_cons]
    split <;> omega
theorem wfS_c {K K' kn kn' pa pa' ot ot' : Nat → Int32} {f : Nat} : ∀ (i : Nat) (st : List Nat), (∀ j, j < i → K' j = K j) → (∀ j, j < f + i → kn' j = kn j ∧ pa' j = pa j ∧ ot' j = ot j) → wfS K kn pa ot f i st → wfS K' kn' pa' ot' f i st
  | 0, _, _, _, h => h
  | i + 1, st, h1, h2, h => by
    obtain ⟨st0, g0, g1⟩ := h
    refine ⟨st0, wfS_c i st0 (fun j hj => h1 j (by omega)) (fun j hj => h2 j (by omega)) g0, ?_⟩
    obtain ⟨e1, e2, e3⟩ := h2 (f + i) (by omega)
    unfold stp1 at g1 ⊢
    rw [h1 i (by omega), e1, e2, e3]
    exact g1
/-- what a law may change -/
def lxC (H o : Nat) (σ σ' : ST) : Prop := (∀ c' o' k, ¬ (c' = 9 ∧ (k = 3 ∨ k = 5 ∨ k = 6 ∨ k = 7)) → ¬ (c' = 6 ∧ (k = 2 ∨ k = 3)) → ¬ (c' = 2 ∧ o' = H ∧ k = 4) → ¬ (c' = 3 ∧ o' = o ∧ k = 1) → gI σ' c' o' k = gI σ c' o' k) ∧ gL σ' = gL σ ∧ gR σ' = gR σ ∧ ∀ c' o' k, ¬ (c' = 6 ∧ k = 1) → ¬ (c' = 3 ∧ o' = o ∧ k = 0) → gA σ' c' o' k = gA σ c' o' k
def lxK (k : Nat) : Prop := (7 ≤ k ∧ k ≤ 10) ∨ k = 17 ∨ (35 ≤ k ∧ k ≤ 40)
def lxM (f : Nat) (τ τ' : ST) : Prop := (∀ k, ¬ lxK k → gI τ' 12 0 k = gI τ 12 0 k) ∧ gL τ' = gL τ ∧ (∀ k, ¬ (30 ≤ k ∧ k ≤ 34) → gA τ' 12 0 k = gA τ 12 0 k) ∧ ∀ k j, 30 ≤ k → k ≤ 32 → j < 64 + f → gA τ' 12 0 k j = gA τ 12 0 k j
section EXF
variable {H o f : Nat} {σ σ' σ'' τ τ' τ'' : ST}
theorem lxC_0 : lxC H o σ σ := ⟨fun _ _ _ _ _ _ _ => rfl, rfl, rfl, fun _ _ _ _ _ => rfl⟩
theorem lxM_0 : lxM f τ τ := ⟨fun _ _ => rfl, rfl, fun _ _ => rfl, fun _ _ _ _ _ => rfl⟩
theorem lxC_t (h1 : lxC H o σ σ') (h2 : lxC H o σ' σ'') : lxC H o σ σ'' := ⟨fun c o' k a b d e => (h2.1 c o' k a b d e).trans (h1.1 c o' k a b d e), h2.2.1.trans h1.2.1, h2.2.2.1.trans h1.2.2.1, fun c o' k a b => (h2.2.2.2 c o' k a b).trans (h1.2.2.2 c o' k a b)⟩
theorem lxM_t (h1 : lxM f τ τ') (h2 : lxM f τ' τ'') : lxM f τ τ'' := ⟨fun k h => (h2.1 k h).trans (h1.1 k h), h2.2.1.trans h1.2.1, fun k h => (h2.2.2.1 k h).trans (h1.2.2.1 k h), fun k j a b d => (h2.2.2.2 k j a b d).trans (h1.2.2.2 k j a b d)⟩
theorem lxC_f (h : ftC σ σ') : lxC H o σ σ' := ⟨fun c o' k a _ _ _ => h.1 c o' k a, by show σ'.2.1 = σ.2.1; rw [h.2], by show σ'.2.2.1 = σ.2.2.1; rw [h.2], fun _ _ _ _ _ => by rw [ftC_A h]⟩
theorem lxM_f (h : ftM τ τ') : lxM f τ τ' := ⟨fun k a => h.1 12 0 k (fun z => a (Or.inl z.2)), by show τ'.2.1 = τ.2.1; rw [h.2], fun _ _ => by rw [ftM_A h], fun _ _ _ _ _ => by rw [ftM_A h]⟩
theorem lxC_I {c p k : Nat} (hk : (c = 6 ∧ (k = 2 ∨ k = 3)) ∨ (c = 2 ∧ p = H ∧ k = 4) ∨ (c = 3 ∧ p = o ∧ k = 1)) (v : Int32) : lxC H o σ (sI σ c p k v) := ⟨fun c' o' k' a b d e => by
  show u3 σ.1 c p k v c' o' k' = _
  unfold u3
  rw [if_neg]
  · rfl
  · rintro ⟨rfl, rfl, rfl⟩
    rcases hk with h | h | h
    · exact b h
    · exact d h
    · exact e h, rfl, rfl, fun _ _ _ _ _ => rfl⟩
theorem lxC_A {c p k : Nat} (hk : (c = 6 ∧ k = 1) ∨ (c = 3 ∧ p = o ∧ k = 0)) (v : Nat → Int32) : lxC H o σ (sA σ c p k v) := ⟨fun _ _ _ _ _ _ _ => rfl, rfl, rfl, fun c' o' k' a b => by
  show u3 σ.2.2.2.1 c p k v c' o' k' = _
  unfold u3
  rw [if_neg]
  · rfl
  · rintro ⟨rfl, rfl, rfl⟩
    rcases hk with h | h
    · exact a h
    · exact b h⟩
theorem lxM_I {k : Nat} (hk : lxK k) (v : Int32) : lxM f τ (sI τ 12 0 k v) := ⟨fun k' h => by
  show u3 τ.1 12 0 k v 12 0 k' = _
  unfold u3
  rw [if_neg (fun z => h (by rw [z.1]; exact hk))]
  rfl, rfl, fun _ _ => rfl, fun _ _ _ _ _ => rfl⟩
theorem lxM_A {k : Nat} (hk : 33 ≤ k ∧ k ≤ 34) (v : Nat → Int32) : lxM f τ (sA τ 12 0 k v) := ⟨fun _ _ => rfl, rfl, fun k' h => gA_n (by omega), fun k' j a b _ => by rw [gA_n (show k' ≠ k by omega)]⟩
theorem lxM_u {k i : Nat} (hk : 30 ≤ k ∧ k ≤ 32) (hi : 64 + f ≤ i) (v : Int32) : lxM f τ (sA τ 12 0 k (upd (gA τ 12 0 k) i v)) := ⟨fun _ _ => rfl, rfl, fun k' h => gA_n (by omega), fun k' j a b d => by
  by_cases e : k' = k
  · subst e
    rw [gA_s, upd_o (by omega)]
  · rw [gA_n e]⟩
end EXF
section PRI
variable {H o : Nat} {σ τ : ST}
theorem e_lawadd {i : Nat} (hi : i < 64) (h : gI σ 3 o 1 = nI i) (x : Int32) : den 28 [vR 3 o 0, vI x] σ = some (none, sI (sA σ 3 o 0 (upd (gA σ 3 o 0) i x)) 3 o 1 (nI (i + 1))) := by
  have a1 := ob (i := i) (N := 64) (by omega) (by decide)
  have c1 : (nI i).toNatClampNeg = i := nI_clamp (by omega)
  rw [dX3_add, bX3_add_0, h, if_pos (show nI i < 64 from nI_lt (b := 64) (by omega) (by decide))]
  simp only [c1, a1, ↓reduceIte, nI_S]
abbrev grM (τ : ST) (kr s : Nat) (k a b : Int32) : ST := sI (sI (sA (sA (sA (sA τ 12 0 30 (upd (gA τ 12 0 30) (64 + kr) k)) 12 0 31 (upd (gA τ 12 0 31) (64 + kr) a)) 12 0 32 (upd (gA τ 12 0 32) (64 + kr) b)) 12 0 34 (upd (gA τ 12 0 34) s (nI kr))) 12 0 36 (nI (s + 1))) 12 0 17 (nI (kr + 1))
theorem m_grown {kr s : Nat} (hk : kr < 64) (hs : s < 96) (h17 : gI τ 12 0 17 = nI kr) (h36 : gI τ 12 0 36 = nI s) (k a b : Int32) : den 192 [vR 12 0 0, vI k, vI a, vI b] τ = some (none, grM τ kr s k a b) := by
  have a1 := ob (i := 64 + kr) (N := 128) (by omega) (by decide)
  have c1 : (nI (64 + kr)).toNatClampNeg = 64 + kr := nI_clamp (by omega)
  have a2 := ob (i := s) (N := 96) (by omega) (by decide)
  have c2 : (nI s).toNatClampNeg = s := nI_clamp (by omega)
  have n1 : (64 : Int32) + nI kr = nI (64 + kr) := nI_add 64 kr
  rw [dX12_grown, bX12_grown_0, h17, h36, n1]
  simp only [c1, a1, c2, a2, ↓reduceIte, nI_S]
theorem m_drop {s : Nat} (hs : s < 96) (h36 : gI τ 12 0 36 = nI (s + 1)) : den 193 [vR 12 0 0] τ = some (some (vI (gA τ 12 0 34 s)), sI τ 12 0 36 (nI s)) := by
  have a2 := ob (i := s) (N := 96) (by omega) (by decide)
  have c2 : (nI s).toNatClampNeg = s := nI_clamp (by omega)
  have n1 : nI (s + 1) - (1 : Int32) = nI s := pk_sub (b := 1) (by omega)
  rw [dX12_dropHeld, bX12_dropHeld_0, h36, n1]
  simp only [c2, a2, ↓reduceIte]
theorem e_defer {W : Nat} (hW : W < 72) (h : gI σ 6 0 2 = nI W) (x : Int32) : den 68 [vR 6 0 0, vI x] σ = some (none, sI (sA σ 6 0 1 (upd (gA σ 6 0 1) W x)) 6 0 2 (nI (W + 1))) := by
  have a1 := ob (i := W) (N := 72) (by omega) (by decide)
  have c1 : (nI W).toNatClampNeg = W := nI_clamp (by omega)
  rw [dX6_defer, bX6_defer_0, h, if_pos (show nI W < 72 from nI_lt (b := 72) (by omega) (by decide))]
  simp only [c1, a1, ↓reduceIte, nI_S]
theorem m_waits {W : Nat} (hW : W < 96) (h : gI τ 12 0 35 = nI W) (x : Int32) : den 196 [vR 12 0 0, vI x] τ = some (none, sI (sA τ 12 0 33 (upd (gA τ 12 0 33) W x)) 12 0 35 (nI (W + 1))) := by
  have a1 := ob (i := W) (N := 96) (by omega) (by decide)
  have c1 : (nI W).toNatClampNeg = W := nI_clamp (by omega)
  rw [dX12_waitsFor, bX12_waitsFor_0, h]
  simp only [c1, a1, ↓reduceIte, nI_S]
theorem e_count {cnt : Nat} (hH : gR σ 6 0 4 = H) (h : gI σ 2 H 4 = nI cnt) (hc : cnt ≤ 64) : den 70 [vR 6 0 0] σ = some (some (vI (if cnt = 64 then 0 else 1)), sI σ 2 H 4 (nI (cnt + 1))) := by
  rw [dX6_countKnot, bX6_countKnot_0, hH, h, nI_S, gI_s]
  by_cases e : cnt = 64
  · rw [if_pos e, if_pos (show (64 : Int32) < nI (cnt + 1) by rw [e]; decide)]
  · rw [if_neg e, if_neg (show ¬ (64 : Int32) < nI (cnt + 1) from nI_nlt (a := 64) (by omega) (by omega))]
theorem m_count {cnt : Nat} (h : gI τ 12 0 38 = nI cnt) (hc : cnt ≤ 64) : den 195 [vR 12 0 0] τ = if cnt = 64 then some (some (vI 0), faM τ 2) else some (some (vI 1), sI τ 12 0 38 (nI (cnt + 1))) := by
  rw [dX12_isCounted, bX12_isCounted_0, h]
  by_cases e : cnt = 64
  · rw [if_pos e, if_pos (show nI cnt = 64 by rw [e]; rfl), m_wrong, bnd_s, tl_s, bX12_isCounted_7, if_pos i0or]
  · rw [if_neg e, if_neg (show ¬ nI cnt = 64 from fun z => e ((nI_eq (b := 64) (by omega) (by decide)).mp z)), nI_S]
def bdg (x : Int32) : Int32 := if 2 < x then (if 8 < x then (if 10 < x then 5 else 4) else 3) else x
def rkg (x : Int32) : Int32 := if x < 13 then (if x < 11 then (if x < 5 then (if x = 2 then 3 else if x = 3 then 2 else if x = 4 then 1 else 0) else 4) else 5) else 6
theorem e_binding (x : Int32) : den 29 [vI x] σ = some (some (vI (bdg x)), σ) := by
  rw [dX3_binding, bX3_binding_0]
  unfold bdg
  by_cases h1 : (2 : Int32) < x
  · rw [if_pos h1, if_pos h1]
    by_cases h2 : (8 : Int32) < x
    · rw [if_pos h2, if_pos h2]
      by_cases h3 : (10 : Int32) < x
      · rw [if_pos h3, if_pos h3]
      · rw [if_neg h3, if_neg h3]
    · rw [if_neg h2, if_neg h2]
  · rw [if_neg h1, if_neg h1]
theorem m_rank (x : Int32) : den 191 [vI x] τ = some (some (vI (rkg x)), τ) := by
  rw [dX12_rankOf, bX12_rankOf_0]
  unfold rkg
  by_cases h1 : x < 13
  · rw [if_pos h1, if_pos h1]
    by_cases h2 : x < 11
    · rw [if_pos h2, if_pos h2]
      by_cases h3 : x < 5
      · rw [if_pos h3, if_pos h3]
        by_cases h4 : x = 2
        · rw [if_pos h4, if_pos h4]
        · rw [if_neg h4, if_neg h4]
          by_cases h5 : x = 3
          · rw [if_pos h5, if_pos h5]
          · rw [if_neg h5, if_neg h5]
            by_cases h6 : x = 4
            · rw [if_pos h6, if_pos h6]
            · rw [if_neg h6, if_neg h6]
      · rw [if_neg h3, if_neg h3]
    · rw [if_neg h2, if_neg h2]
  · rw [if_neg h1, if_neg h1]
theorem bdg_t : ∀ k, k < 15 → 2 ≤ k → bdg (nI (csg k)) = nI (rnk k - 1) ∧ csg k < 13 := by decide
theorem rkg_t : ∀ k, k < 15 → rkg (nI k) = nI (rnk k) ∧ rnk k ≤ 6 ∧ (2 ≤ k → 1 ≤ rnk k) := by decide
end PRI
