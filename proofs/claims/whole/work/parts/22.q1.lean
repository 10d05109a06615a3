/-! QUERIES over the growers: the class's and the reference's loops side by side -/
theorem nI_S (i : Nat) : nI i + (1 : Int32) = nI (i + 1) := nI_1 i
theorem i_a0 (x : Int32) : x + (0 : Int32) = x := by simp
theorem ob {i N : Nat} (h : i < N) (hN : N < 2 ^ 31) : ¬ (nI i < 0 ∨ N ≤ i) := by
  rintro (z | z)
  · exact nI_pos (by omega) z
  · omega
section Q1
variable {σ τ : ST} {n : Nat}
theorem rank_loop (hn6 : n ≤ 6) (hn1 : gI σ 2 (gR σ 11 0 2) 0 = nI n) (hn2 : gI τ 12 0 12 = nI n) (hw : ∀ j, j < n → gA σ 5 0 2 j = gA τ 12 0 44 j) {g : Nat} (hg : g < n) : ∀ (m i : Nat), i + m = n → ∀ (acc : Int32) (y5 : Option AV), ∃ res : Int32,
    run kX11_rank 17 [some (vR 11 0 0), some (vI (nI g)), some (vI acc), some (vI (gA τ 12 0 44 g)), some (vI (nI i)), y5] [] σ = some (some (vI res), σ) ∧
    run kX12_rank 13 [some (vR 12 0 0), some (vI (nI g)), some (vI acc), some (vI (nI i))] [] τ = some (some (vI res), τ)
  | 0, i, hm, acc, y5 => by
    have hlt : ¬ nI i < nI n := nI_nlt (by omega) (by omega)
    refine ⟨acc, ?_, ?_⟩
    · rw [bX11_rank_17, hn1, if_neg hlt]
    · rw [bX12_rank_13, hn2, if_neg hlt]
  | m + 1, i, hm, acc, y5 => by
    have hi : i < n := by omega
    have hlt : nI i < nI n := nI_lt hi (by omega)
    have a1 := ob (i := i) (N := 6) (by omega) (by decide)
    have a2 := ob (i := i) (N := 12) (by omega) (by decide)
    have a3 := ob (i := g) (N := 12) (by omega) (by decide)
    have c1 : (nI i).toNatClampNeg = i := nI_clamp (by omega)
    have c2 : (nI g).toNatClampNeg = g := nI_clamp (by omega)
    rw [bX11_rank_17, bX12_rank_13]
    simp only [hn1, hn2, hlt, a1, a2, a3, c1, c2, hw i hi, nI_S, i_a0, ↓reduceIte]
    by_cases h1 : gA τ 12 0 44 g < gA τ 12 0 44 i
    · simp only [h1, ↓reduceIte]
      exact rank_loop hn6 hn1 hn2 hw hg m (i + 1) (by omega) _ _
    · simp only [h1, ↓reduceIte]
      by_cases h2 : gA τ 12 0 44 i = gA τ 12 0 44 g
      · simp only [h2, ↓reduceIte]
        by_cases h3 : nI i < nI g
        · simp only [h3, ↓reduceIte]
          exact rank_loop hn6 hn1 hn2 hw hg m (i + 1) (by omega) _ _
        · simp only [h3, ↓reduceIte]
          exact rank_loop hn6 hn1 hn2 hw hg m (i + 1) (by omega) _ _
      · simp only [h2, ↓reduceIte]
        exact rank_loop hn6 hn1 hn2 hw hg m (i + 1) (by omega) _ _
end Q1
