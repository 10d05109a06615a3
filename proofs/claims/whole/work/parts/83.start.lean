/-! READING A TEXT: how it begins -/
section STA
variable {H : Nat} {σ τ : ST}
theorem cl_6 (o : Nat) : ∀ (m i : Nat), i + m = 6 → ∀ (σ : ST), ∃ A2 A3 A4, run kX5_clear 8 [some (vR 5 o 0), some (vI (nI i))] [] σ = run kX5_clear 30 [some (vR 5 o 0), some (vI 0)] [] (sA (sA (sA σ 5 o 2 A2) 5 o 3 A3) 5 o 4 A4) ∧
    ∀ j, (i ≤ j → j < 6 → A2 j = 0 ∧ A3 j = 0 ∧ A4 j = 0) ∧ (j < i → A2 j = gA σ 5 o 2 j ∧ A3 j = gA σ 5 o 3 j ∧ A4 j = gA σ 5 o 4 j)
  | 0, i, hm, σ => by
    have hi : i = 6 := by omega
    subst hi
    refine ⟨gA σ 5 o 2, gA σ 5 o 3, gA σ 5 o 4, ?_, fun j => ⟨fun h h' => by omega, fun _ => ⟨rfl, rfl, rfl⟩⟩⟩
    rw [bX5_clear_8, if_neg (show ¬ nI 6 < 6 by decide), sA_id, sA_id, sA_id]
  | m + 1, i, hm, σ => by
    have hlt : nI i < 6 := nI_lt (b := 6) (by omega) (by decide)
    have a1 := ob (i := i) (N := 6) (by omega) (by decide)
    have c1 : (nI i).toNatClampNeg = i := nI_clamp (by omega)
    obtain ⟨A2, A3, A4, f1, f2⟩ := cl_6 o m (i + 1) (by omega) (sA (sA (sA σ 5 o 2 (upd (gA σ 5 o 2) i 0)) 5 o 3 (upd (gA σ 5 o 3) i 0)) 5 o 4 (upd (gA σ 5 o 4) i 0))
    have g2 : gA (sA (sA (sA σ 5 o 2 (upd (gA σ 5 o 2) i 0)) 5 o 3 (upd (gA σ 5 o 3) i 0)) 5 o 4 (upd (gA σ 5 o 4) i 0)) 5 o 2 = upd (gA σ 5 o 2) i 0 := by rw [gA_n (by decide), gA_n (by decide), gA_s]
    have g3 : gA (sA (sA (sA σ 5 o 2 (upd (gA σ 5 o 2) i 0)) 5 o 3 (upd (gA σ 5 o 3) i 0)) 5 o 4 (upd (gA σ 5 o 4) i 0)) 5 o 3 = upd (gA σ 5 o 3) i 0 := by rw [gA_n (by decide), gA_s]
    have g4 : gA (sA (sA (sA σ 5 o 2 (upd (gA σ 5 o 2) i 0)) 5 o 3 (upd (gA σ 5 o 3) i 0)) 5 o 4 (upd (gA σ 5 o 4) i 0)) 5 o 4 = upd (gA σ 5 o 4) i 0 := gA_s
    rw [g2, g3, g4] at f2
    refine ⟨A2, A3, A4, ?_, fun j => ⟨fun h h' => ?_, fun h => ?_⟩⟩
    · rw [bX5_clear_8, if_pos hlt]
      simp only [c1, a1, ↓reduceIte, nI_S]
      rw [f1]
      have est : sA (sA (sA (sA (sA (sA σ 5 o 2 (upd (gA σ 5 o 2) i 0)) 5 o 3 (upd (gA σ 5 o 3) i 0)) 5 o 4 (upd (gA σ 5 o 4) i 0)) 5 o 2 A2) 5 o 3 A3) 5 o 4 A4 = sA (sA (sA σ 5 o 2 A2) 5 o 3 A3) 5 o 4 A4 := by
        rw [sA_c (k := 4) (k' := 2) (by decide), sA_c (k := 3) (k' := 2) (by decide), sAA, sA_c (k := 4) (k' := 3) (by decide), sAA, sAA]
      rw [est]
    · by_cases e : j = i
      · subst e
        have := (f2 j).2 (by omega)
        rw [pk_us, pk_us, pk_us] at this
        exact this
      · exact (f2 j).1 (by omega) h'
    · have := (f2 j).2 (by omega)
      rw [upd_o (show ¬ j = i by omega), upd_o (show ¬ j = i by omega), upd_o (show ¬ j = i by omega)] at this
      exact this
theorem cl_2 (o : Nat) : ∀ (m i : Nat), i + m = 2 → ∀ (σ : ST), ∃ A5 A6 A7, run kX5_clear 30 [some (vR 5 o 0), some (vI (nI i))] [] σ = some (none, sA (sA (sA σ 5 o 5 A5) 5 o 6 A6) 5 o 7 A7) ∧
    ∀ j, (i ≤ j → j < 2 → A5 j = 0 ∧ A6 j = 0 ∧ A7 j = 0) ∧ (j < i → A5 j = gA σ 5 o 5 j ∧ A6 j = gA σ 5 o 6 j ∧ A7 j = gA σ 5 o 7 j)
  | 0, i, hm, σ => by
    have hi : i = 2 := by omega
    subst hi
    refine ⟨gA σ 5 o 5, gA σ 5 o 6, gA σ 5 o 7, ?_, fun j => ⟨fun h h' => by omega, fun _ => ⟨rfl, rfl, rfl⟩⟩⟩
    rw [bX5_clear_30, if_neg (show ¬ nI 2 < 2 by decide), sA_id, sA_id, sA_id]
  | m + 1, i, hm, σ => by
    have hlt : nI i < 2 := nI_lt (b := 2) (by omega) (by decide)
    have a1 := ob (i := i) (N := 2) (by omega) (by decide)
    have c1 : (nI i).toNatClampNeg = i := nI_clamp (by omega)
    obtain ⟨A2, A3, A4, f1, f2⟩ := cl_2 o m (i + 1) (by omega) (sA (sA (sA σ 5 o 5 (upd (gA σ 5 o 5) i 0)) 5 o 6 (upd (gA σ 5 o 6) i 0)) 5 o 7 (upd (gA σ 5 o 7) i 0))
    have g2 : gA (sA (sA (sA σ 5 o 5 (upd (gA σ 5 o 5) i 0)) 5 o 6 (upd (gA σ 5 o 6) i 0)) 5 o 7 (upd (gA σ 5 o 7) i 0)) 5 o 5 = upd (gA σ 5 o 5) i 0 := by rw [gA_n (by decide), gA_n (by decide), gA_s]
    have g3 : gA (sA (sA (sA σ 5 o 5 (upd (gA σ 5 o 5) i 0)) 5 o 6 (upd (gA σ 5 o 6) i 0)) 5 o 7 (upd (gA σ 5 o 7) i 0)) 5 o 6 = upd (gA σ 5 o 6) i 0 := by rw [gA_n (by decide), gA_s]
    have g4 : gA (sA (sA (sA σ 5 o 5 (upd (gA σ 5 o 5) i 0)) 5 o 6 (upd (gA σ 5 o 6) i 0)) 5 o 7 (upd (gA σ 5 o 7) i 0)) 5 o 7 = upd (gA σ 5 o 7) i 0 := gA_s
    rw [g2, g3, g4] at f2
    refine ⟨A2, A3, A4, ?_, fun j => ⟨fun h h' => ?_, fun h => ?_⟩⟩
    · rw [bX5_clear_30, if_pos hlt]
      simp only [c1, a1, ↓reduceIte, nI_S]
      rw [f1]
      have est : sA (sA (sA (sA (sA (sA σ 5 o 5 (upd (gA σ 5 o 5) i 0)) 5 o 6 (upd (gA σ 5 o 6) i 0)) 5 o 7 (upd (gA σ 5 o 7) i 0)) 5 o 5 A2) 5 o 6 A3) 5 o 7 A4 = sA (sA (sA σ 5 o 5 A2) 5 o 6 A3) 5 o 7 A4 := by
        rw [sA_c (k := 7) (k' := 5) (by decide), sA_c (k := 6) (k' := 5) (by decide), sAA, sA_c (k := 7) (k' := 6) (by decide), sAA, sAA]
      rw [est]
    · by_cases e : j = i
      · subst e
        have := (f2 j).2 (by omega)
        rw [pk_us, pk_us, pk_us] at this
        exact this
      · exact (f2 j).1 (by omega) h'
    · have := (f2 j).2 (by omega)
      rw [upd_o (show ¬ j = i by omega), upd_o (show ¬ j = i by omega), upd_o (show ¬ j = i by omega)] at this
      exact this
/-- a plot that is clear -/
def cleP (σ : ST) (o : Nat) : Prop := gI σ 5 o 0 = 0 ∧ (∀ j, j < 6 → gA σ 5 o 2 j = 0 ∧ gA σ 5 o 3 j = 0 ∧ gA σ 5 o 4 j = 0) ∧ ∀ j, j < 2 → gA σ 5 o 5 j = 0 ∧ gA σ 5 o 6 j = 0 ∧ gA σ 5 o 7 j = 0
theorem e_plotclear (o : Nat) (σ : ST) : ∃ σ', den 45 [vR 5 o 0] σ = some (none, σ') ∧ cleP σ' o ∧ smC (fun c p => c = 5 ∧ p = o) σ σ' ∧ gR σ' = gR σ := by
  obtain ⟨A2, A3, A4, f1, f2⟩ := cl_6 o 6 0 (by omega) (sL (sI σ 5 o 0 0) 5 o 1 0)
  obtain ⟨A5, A6, A7, h1, h2⟩ := cl_2 o 2 0 (by omega) (sA (sA (sA (sL (sI σ 5 o 0 0) 5 o 1 0) 5 o 2 A2) 5 o 3 A3) 5 o 4 A4)
  rw [nI_0] at f1 h1
  refine ⟨sA (sA (sA (sA (sA (sA (sL (sI σ 5 o 0 0) 5 o 1 0) 5 o 2 A2) 5 o 3 A3) 5 o 4 A4) 5 o 5 A5) 5 o 6 A6) 5 o 7 A7, by rw [dX5_clear, bX5_clear_0, f1, h1], ⟨?_, fun j hj => ?_, fun j hj => ?_⟩, ?_, rfl⟩
  · show gI (sI σ 5 o 0 0) 5 o 0 = 0
    exact gI_s
  · rw [gA_n (show 2 ≠ 7 by decide), gA_n (show 2 ≠ 6 by decide), gA_n (show 2 ≠ 5 by decide), gA_n (show 2 ≠ 4 by decide), gA_n (show 2 ≠ 3 by decide), gA_s, gA_n (show 3 ≠ 7 by decide), gA_n (show 3 ≠ 6 by decide), gA_n (show 3 ≠ 5 by decide), gA_n (show 3 ≠ 4 by decide), gA_s, gA_n (show 4 ≠ 7 by decide), gA_n (show 4 ≠ 6 by decide), gA_n (show 4 ≠ 5 by decide), gA_s]
    exact (f2 j).1 (Nat.zero_le _) hj
  · rw [gA_n (show 5 ≠ 7 by decide), gA_n (show 5 ≠ 6 by decide), gA_s, gA_n (show 6 ≠ 7 by decide), gA_s, gA_s]
    exact (h2 j).1 (Nat.zero_le _) hj
  · have s : (fun c p => c = 5 ∧ p = o) 5 o := ⟨rfl, rfl⟩
    exact smC_t (smC_I s _) (smC_t (smC_L s _) (smC_t (smC_A s _) (smC_t (smC_A s _) (smC_t (smC_A s _) (smC_t (smC_A s _) (smC_t (smC_A s _) (smC_A s _)))))))
/-- a garden that is clear -/
def cleG (σ : ST) (H : Nat) : Prop := (∀ k, k < 5 → gI σ 2 H k = 0) ∧ (∀ w, w < 3 → gI σ 3 (3 * H + w) 1 = 0) ∧ cleP σ (3 + H)
abbrev SG (H : Nat) : Nat → Nat → Prop := fun c o => (c = 2 ∧ o = H) ∨ (c = 5 ∧ o = 3 + H) ∨ (c = 3 ∧ 3 * H ≤ o ∧ o < 3 * H + 3)
theorem e_gardenclear (H : Nat) (σ : ST) : ∃ σ', den 22 [vR 2 H 0] σ = some (none, σ') ∧ cleG σ' H ∧ smC (SG H) σ σ' ∧ gR σ' = gR σ := by
  have c0 : Int32.toNatClampNeg 0 = 0 := by decide
  have c1 : Int32.toNatClampNeg (0 + 1) = 1 := by decide
  have c2 : Int32.toNatClampNeg (0 + 1 + 1) = 2 := by decide
  have d0 : ¬ ((0 : Int32) < 0 ∨ 3 ≤ 0) := by decide
  have d1 : ¬ ((0 + 1 : Int32) < 0 ∨ 3 ≤ 1) := by decide
  have d2 : ¬ ((0 + 1 + 1 : Int32) < 0 ∨ 3 ≤ 2) := by decide
  rw [dX2_clear, bX2_clear_0, bX2_clear_17, if_pos (by decide), c0, if_neg d0, dX3_clear, bX3_clear_0, bnd_s, tl_n, bX2_clear_25, bX2_clear_17, if_pos (by decide), c1, if_neg d1, dX3_clear, bX3_clear_0, bnd_s, tl_n, bX2_clear_25, bX2_clear_17, if_pos (by decide), c2, if_neg d2, dX3_clear, bX3_clear_0, bnd_s, tl_n, bX2_clear_25, bX2_clear_17, if_neg (by decide)]
  obtain ⟨σ', h1, h2, h3, h4⟩ := e_plotclear (3 + H) (sI (sI (sI (sI (sI (sI (sI (sI σ 2 H 0 0) 2 H 1 0) 2 H 2 0) 2 H 3 0) 2 H 4 0) 3 (3 * H + 0) 1 0) 3 (3 * H + 1) 1 0) 3 (3 * H + 2) 1 0)
  rw [h1, bnd_s, tl_n, bX2_clear_30]
  have s2 : SG H 2 H := Or.inl ⟨rfl, rfl⟩
  refine ⟨σ', rfl, ⟨fun k hk => ?_, fun w hw => ?_, h2⟩, ?_, h4⟩
  · rw [(h3 2 H (fun z => absurd z.1 (by decide))).1]
    have hk' : k = 0 ∨ k = 1 ∨ k = 2 ∨ k = 3 ∨ k = 4 := by omega
    rcases hk' with rfl | rfl | rfl | rfl | rfl <;> simp [gII]
  · rw [(h3 3 (3 * H + w) (fun z => absurd z.1 (by decide))).1]
    have hw' : w = 0 ∨ w = 1 ∨ w = 2 := by omega
    rcases hw' with rfl | rfl | rfl <;> simp [gII]
  · have s3 : ∀ w, w < 3 → SG H 3 (3 * H + w) := fun w hw => Or.inr (Or.inr ⟨rfl, by omega, by omega⟩)
    exact smC_t (smC_I s2 _) (smC_t (smC_I s2 _) (smC_t (smC_I s2 _) (smC_t (smC_I s2 _) (smC_t (smC_I s2 _) (smC_t (smC_I (s3 0 (by decide)) _) (smC_t (smC_I (s3 1 (by decide)) _) (smC_t (smC_I (s3 2 (by decide)) _) (smC_w h3 (fun c o z => Or.inr (Or.inl z))))))))))
end STA
