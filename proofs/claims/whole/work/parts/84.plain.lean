/-! READING A TEXT: the reference's beginning and its copies -/
section PLN
variable {τ : ST}
theorem pl_2 : ∀ (m i : Nat), i + m = 2 → ∀ (τ : ST), ∃ A B, run kX12_plain 14 [some (vR 12 0 0), some (vI (nI i))] [] τ = run kX12_plain 33 [some (vR 12 0 0), some (vI 3)] [] (sA (sA τ 12 0 18 A) 12 0 19 B) ∧
    (∀ j, (i ≤ j → j < 2 → A j = 0 ∧ B (2 + j) = 0) ∧ (j < i → A j = gA τ 12 0 18 j ∧ B (2 + j) = gA τ 12 0 19 (2 + j))) ∧ ∀ j, j < 2 → B j = gA τ 12 0 19 j
  | 0, i, hm, τ => by
    have hi : i = 2 := by omega
    subst hi
    refine ⟨gA τ 12 0 18, gA τ 12 0 19, ?_, fun j => ⟨fun h h' => by omega, fun _ => ⟨rfl, rfl⟩⟩, fun _ _ => rfl⟩
    rw [bX12_plain_14, if_neg (show ¬ nI 2 < 2 by decide), sA_id, sA_id]
  | m + 1, i, hm, τ => by
    have hlt : nI i < 2 := nI_lt (b := 2) (by omega) (by decide)
    have a1 := ob (i := i) (N := 2) (by omega) (by decide)
    have c1 : (nI i).toNatClampNeg = i := nI_clamp (by omega)
    have a2 := ob (i := 2 + i) (N := 4) (by omega) (by decide)
    have c2 : (nI (2 + i)).toNatClampNeg = 2 + i := nI_clamp (by omega)
    have n2 : (2 : Int32) + nI i = nI (2 + i) := nI_add 2 i
    obtain ⟨A, B, f1, f2, f3⟩ := pl_2 m (i + 1) (by omega) (sA (sA τ 12 0 18 (upd (gA τ 12 0 18) i 0)) 12 0 19 (upd (gA τ 12 0 19) (2 + i) 0))
    have g2 : gA (sA (sA τ 12 0 18 (upd (gA τ 12 0 18) i 0)) 12 0 19 (upd (gA τ 12 0 19) (2 + i) 0)) 12 0 18 = upd (gA τ 12 0 18) i 0 := rfl
    have g3 : gA (sA (sA τ 12 0 18 (upd (gA τ 12 0 18) i 0)) 12 0 19 (upd (gA τ 12 0 19) (2 + i) 0)) 12 0 19 = upd (gA τ 12 0 19) (2 + i) 0 := rfl
    rw [g2, g3] at f2
    rw [g3] at f3
    refine ⟨A, B, ?_, fun j => ⟨fun h h' => ?_, fun h => ?_⟩, fun j hj => ?_⟩
    · rw [bX12_plain_14, if_pos hlt, n2]
      simp only [c1, a1, c2, a2, ↓reduceIte, nI_S]
      rw [show (vp_nar .boolean 0 : Int32) = 0 from rfl, f1, sA_c (k := 19) (k' := 18) (by decide), sAA, sAA]
    · by_cases e : j = i
      · subst e
        have := (f2 j).2 (by omega)
        rw [pk_us, pk_us] at this
        exact this
      · exact (f2 j).1 (by omega) h'
    · have := (f2 j).2 (by omega)
      rw [upd_o (show ¬ j = i by omega), upd_o (show ¬ 2 + j = 2 + i by omega)] at this
      exact this
    · rw [f3 j hj, upd_o (by omega)]
theorem pl_3 : ∀ (m i : Nat), i + m = 6 → ∀ (τ : ST), ∃ A, run kX12_plain 33 [some (vR 12 0 0), some (vI (nI i))] [] τ = run kX12_plain 45 [some (vR 12 0 0), some (vI 6)] [] (sA τ 12 0 27 A) ∧ (∀ j, (i ≤ j → j < 6 → A j = 0) ∧ (j < i → A j = gA τ 12 0 27 j))
  | 0, i, hm, τ => by
    have hi : i = 6 := by omega
    subst hi
    refine ⟨gA τ 12 0 27, ?_, fun j => ⟨fun h h' => by omega, fun _ => rfl⟩⟩
    rw [bX12_plain_33, if_neg (show ¬ nI 6 < 6 by decide), sA_id]
  | m + 1, i, hm, τ => by
    have hlt : nI i < 6 := nI_lt (b := 6) (by omega) (by decide)
    have a1 := ob (i := i) (N := 6) (by omega) (by decide)
    have c1 : (nI i).toNatClampNeg = i := nI_clamp (by omega)
    obtain ⟨A, f1, f2⟩ := pl_3 m (i + 1) (by omega) (sA τ 12 0 27 (upd (gA τ 12 0 27) i 0))
    have g2 : gA (sA τ 12 0 27 (upd (gA τ 12 0 27) i 0)) 12 0 27 = upd (gA τ 12 0 27) i 0 := rfl
    rw [g2] at f2
    refine ⟨A, ?_, fun j => ⟨fun h h' => ?_, fun h => ?_⟩⟩
    · rw [bX12_plain_33, if_pos hlt]
      simp only [c1, a1, ↓reduceIte, nI_S]
      rw [show (vp_nar .boolean 0 : Int32) = 0 from rfl, f1, sAA]
    · by_cases e : j = i
      · subst e
        have := (f2 j).2 (by omega)
        rw [pk_us] at this
        exact this
      · exact (f2 j).1 (by omega) h'
    · have := (f2 j).2 (by omega)
      rw [upd_o (show ¬ j = i by omega)] at this
      exact this
theorem pl_6 : ∀ (m i : Nat), i + m = 12 → ∀ (τ : ST), ∃ A, run kX12_plain 45 [some (vR 12 0 0), some (vI (nI i))] [] τ = some (none, sA τ 12 0 25 A) ∧ (∀ j, (i ≤ j → j < 12 → A j = 0) ∧ (j < i → A j = gA τ 12 0 25 j))
  | 0, i, hm, τ => by
    have hi : i = 12 := by omega
    subst hi
    refine ⟨gA τ 12 0 25, ?_, fun j => ⟨fun h h' => by omega, fun _ => rfl⟩⟩
    rw [bX12_plain_45, if_neg (show ¬ nI 12 < 12 by decide), sA_id]
  | m + 1, i, hm, τ => by
    have hlt : nI i < 12 := nI_lt (b := 12) (by omega) (by decide)
    have a1 := ob (i := i) (N := 12) (by omega) (by decide)
    have c1 : (nI i).toNatClampNeg = i := nI_clamp (by omega)
    obtain ⟨A, f1, f2⟩ := pl_6 m (i + 1) (by omega) (sA τ 12 0 25 (upd (gA τ 12 0 25) i 0))
    have g2 : gA (sA τ 12 0 25 (upd (gA τ 12 0 25) i 0)) 12 0 25 = upd (gA τ 12 0 25) i 0 := rfl
    rw [g2] at f2
    refine ⟨A, ?_, fun j => ⟨fun h h' => ?_, fun h => ?_⟩⟩
    · rw [bX12_plain_45, if_pos hlt]
      simp only [c1, a1, ↓reduceIte, nI_S]
      rw [f1, sAA]
    · by_cases e : j = i
      · subst e
        have := (f2 j).2 (by omega)
        rw [pk_us] at this
        exact this
      · exact (f2 j).1 (by omega) h'
    · have := (f2 j).2 (by omega)
      rw [upd_o (show ¬ j = i by omega)] at this
      exact this
/-- nothing told, in the reference -/
def clM (τ : ST) : Prop := gI τ 12 0 15 = 0 ∧ gI τ 12 0 16 = 0 ∧ gI τ 12 0 17 = 0 ∧ gI τ 12 0 38 = 0 ∧ (gA τ 12 0 18 0 = 0 ∧ gA τ 12 0 18 1 = 0 ∧ gA τ 12 0 19 2 = 0 ∧ gA τ 12 0 19 3 = 0) ∧ (∀ w, w < 3 → gA τ 12 0 27 (3 + w) = 0) ∧ ∀ j, j < 6 → gA τ 12 0 25 (6 + j) = 0
theorem m_clear (τ : ST) : ∃ τ', den 178 [vR 12 0 0] τ = some (none, τ') ∧ clM τ' ∧ rdM τ τ' ∧ (∀ k, ¬ (k = 15 ∨ k = 16 ∨ k = 17 ∨ k = 38) → gI τ' 12 0 k = gI τ 12 0 k) ∧ (∀ k, ¬ (k = 18 ∨ k = 19 ∨ k = 27 ∨ k = 25) → gA τ' 12 0 k = gA τ 12 0 k) := by
  obtain ⟨A, B, f1, f2, f3⟩ := pl_2 2 0 (by omega) (sI (sI (sI (sI τ 12 0 15 0) 12 0 16 0) 12 0 17 0) 12 0 38 0)
  obtain ⟨C, g1, g2⟩ := pl_3 3 3 (by omega) (sA (sA (sI (sI (sI (sI τ 12 0 15 0) 12 0 16 0) 12 0 17 0) 12 0 38 0) 12 0 18 A) 12 0 19 B)
  obtain ⟨D, h1, h2⟩ := pl_6 6 6 (by omega) (sA (sA (sA (sI (sI (sI (sI τ 12 0 15 0) 12 0 16 0) 12 0 17 0) 12 0 38 0) 12 0 18 A) 12 0 19 B) 12 0 27 C)
  rw [nI_0] at f1
  rw [show nI 3 = 3 from rfl] at g1
  rw [show nI 6 = 6 from rfl] at h1
  refine ⟨sA (sA (sA (sA (sI (sI (sI (sI τ 12 0 15 0) 12 0 16 0) 12 0 17 0) 12 0 38 0) 12 0 18 A) 12 0 19 B) 12 0 27 C) 12 0 25 D, ?_, ⟨rfl, rfl, rfl, rfl, ⟨((f2 0).1 (by omega) (by omega)).1, ((f2 1).1 (by omega) (by omega)).1, ((f2 0).1 (by omega) (by omega)).2, ((f2 1).1 (by omega) (by omega)).2⟩, fun w hw => (g2 (3 + w)).1 (by omega) (by omega), fun j hj => (h2 (6 + j)).1 (by omega) (by omega)⟩, ?_, fun k hk => ?_, fun k hk => ?_⟩
  · rw [dX12_plain, bX12_plain_0, f1, g1, h1]
  · have r0 : rdM τ (sI (sI (sI (sI τ 12 0 15 0) 12 0 16 0) 12 0 17 0) 12 0 38 0) := rdM_t (rdM_I (by omega) _) (rdM_t (rdM_I (by omega) _) (rdM_t (rdM_I (by omega) _) (rdM_I (by omega) _)))
    refine rdM_t r0 (rdM_t (rdM_A (k := 18) (by omega) (fun j hj => ?_)) (rdM_t (rdM_A (k := 19) (by omega) (fun j hj => ?_)) (rdM_t (rdM_A (k := 27) (by omega) (fun j hj => ?_)) (rdM_A (k := 25) (by omega) (fun j hj => ?_)))))
    · exact absurd hj (by decide +revert)
    · exact f3 j hj
    · exact (g2 j).2 hj
    · exact (h2 j).2 hj
  · show gI (sI (sI (sI (sI τ 12 0 15 0) 12 0 16 0) 12 0 17 0) 12 0 38 0) 12 0 k = _
    have e : ∀ (ρ : ST) (m : Nat) (v : Int32), k ≠ m → gI (sI ρ 12 0 m v) 12 0 k = gI ρ 12 0 k := fun ρ m v hm => u3_n (fun z => hm z.2.2)
    rw [e _ 38 _ (by omega), e _ 17 _ (by omega), e _ 16 _ (by omega), e _ 15 _ (by omega)]
  · rw [gA_n (show k ≠ 25 by omega), gA_n (show k ≠ 27 by omega), gA_n (show k ≠ 19 by omega), gA_n (show k ≠ 18 by omega)]
    rfl
/-- copies -/
theorem cp_loop (k n : Nat) (hk : ar 12 k = (0, 2 * n)) (hn : n ≤ 64) : ∀ (m i : Nat), i + m = n → ∀ (τ : ST), ∃ A, run kX12_copies 2 [some (vR 12 0 (k + 1)), some (vI (nI n)), some (vI (nI i))] [] τ = some (none, sA τ 12 0 k A) ∧ (∀ j, (i ≤ j → j < n → A j = gA τ 12 0 k (n + j)) ∧ (j < i ∨ n ≤ j → A j = gA τ 12 0 k j))
  | 0, i, hm, τ => by
    have hi : i = n := by omega
    subst hi
    refine ⟨gA τ 12 0 k, ?_, fun j => ⟨fun h h' => by omega, fun _ => rfl⟩⟩
    rw [bX12_copies_2, if_neg (nI_nlt (Nat.le_refl _) (by omega)), sA_id]
  | m + 1, i, hm, τ => by
    have hlt : nI i < nI n := nI_lt (by omega) (by omega)
    have a1 := ob (i := i) (N := 2 * n) (by omega) (by omega)
    have c1 : (nI i).toNatClampNeg = i := nI_clamp (by omega)
    have a2 := ob (i := n + i) (N := 2 * n) (by omega) (by omega)
    have c2 : (nI (n + i)).toNatClampNeg = n + i := nI_clamp (by omega)
    obtain ⟨A, f1, f2⟩ := cp_loop k n hk hn m (i + 1) (by omega) (sA τ 12 0 k (upd (gA τ 12 0 k) i (gA τ 12 0 k (n + i))))
    rw [gA_s] at f2
    refine ⟨A, ?_, fun j => ⟨fun h h' => ?_, fun h => ?_⟩⟩
    · rw [bX12_copies_2, if_pos hlt]
      simp only [hk, nI_add, c1, a1, c2, a2, ↓reduceIte, nI_S]
      rw [f1, sAA]
    · by_cases e : j = i
      · subst e
        have := (f2 j).2 (by omega)
        rw [pk_us] at this
        exact this
      · have := (f2 j).1 (by omega) h'
        rw [upd_o (by omega)] at this
        exact this
    · have := (f2 j).2 (by omega)
      rw [upd_o (show ¬ j = i by omega)] at this
      exact this
/-- so many fields have been copied -/
def kpT (m : Nat) (τ0 τ : ST) : Prop := (∀ k, gI τ 12 0 k = gI τ0 12 0 k) ∧ (∀ k, gL τ 12 0 k = gL τ0 12 0 k) ∧ (∀ k j, 19 ≤ k → k < m → j < hfk k → gA τ 12 0 k j = gA τ0 12 0 k (hfk k + j)) ∧ (∀ k, k < 19 ∨ m ≤ k → gA τ 12 0 k = gA τ0 12 0 k)
theorem kpT_s {m : Nat} {τ0 τ : ST} (h : kpT m τ0 τ) (hm : 19 ≤ m) (hk : ar 12 m = (0, 2 * hfk m)) (hn : hfk m ≤ 64) : ∃ τ', den 179 [vR 12 0 (m + 1), vI (nI (hfk m))] τ = some (none, τ') ∧ kpT (m + 1) τ0 τ' := by
  obtain ⟨A, f1, f2⟩ := cp_loop m (hfk m) hk hn (hfk m) 0 (by omega) τ
  rw [nI_0] at f1
  refine ⟨sA τ 12 0 m A, by rw [dX12_copies, bX12_copies_0, f1], h.1, h.2.1, fun k j h1 h2 h3 => ?_, fun k hk' => ?_⟩
  · by_cases e : k = m
    · subst e
      rw [gA_s, (f2 j).1 (Nat.zero_le _) h3, h.2.2.2 k (Or.inr (Nat.le_refl _))]
    · rw [gA_n e]
      exact h.2.2.1 k j h1 (by omega) h3
  · rw [gA_n (show k ≠ m by omega)]
    exact h.2.2.2 k (by omega)
end PLN
