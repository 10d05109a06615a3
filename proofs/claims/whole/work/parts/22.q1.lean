/-! QUERIES over the growers: the class's and the reference's loops side by side -/
theorem nI_S (i : Nat) : nI i + (1 : Int32) = nI (i + 1) := nI_1 i
theorem i_a0 (x : Int32) : x + (0 : Int32) = x := by simp
theorem ob {i N : Nat} (h : i < N) (hN : N < 2 ^ 31) : ¬ (nI i < 0 ∨ N ≤ i) := by
  rintro (z | z)
  · exact nI_pos (by omega) z
  · omega
section Q1
variable {σ τ : ST} {n : Nat}
theorem rank_loop (hn6 : n ≤ 6) (hn1 : gI σ 2 (gR σ 11 0 2) 0 = nI n) (hn2 : gI τ 12 0 12 = nI n) (hw : ∀ j, j < n → gA σ 5 0 2 j = gA τ 12 0 44 j) {g : Nat} (hg : g < n) : ∀ (m i : Nat), i + m = n → ∀ (acc : Int32) (y5 : Option AV), ∃ res : Int32,
    run kX11_rank 17 [some (vR 11 0 0), some (vI (nI g)), some (vI acc), some (vI (gA τ 12 0 44 g)), some (vI (nI i)), y5] [] σ = some (some (vI res), σ) ∧
    run kX12_rank 13 [some (vR 12 0 0), some (vI (nI g)), some (vI acc), some (vI (nI i))] [] τ = some (some (vI res), τ)
  | 0, i, hm, acc, y5 => by
    have hlt : ¬ nI i < nI n := nI_nlt (by omega) (by omega)
    refine ⟨acc, ?_, ?_⟩
    · rw [bX11_rank_17, hn1, if_neg hlt]
    · rw [bX12_rank_13, hn2, if_neg hlt]
  | m + 1, i, hm, acc, y5 => by
    have hi : i < n := by omega
    have hlt : nI i < nI n := nI_lt hi (by omega)
    have a1 := ob (i := i) (N := 6) (by omega) (by decide)
    have a2 := ob (i := i) (N := 12) (by omega) (by decide)
    have a3 := ob (i := g) (N := 12) (by omega) (by decide)
    have c1 : (nI i).toNatClampNeg = i := nI_clamp (by omega)
    have c2 : (nI g).toNatClampNeg = g := nI_clamp (by omega)
    rw [bX11_rank_17, bX12_rank_13]
    simp only [hn1, hn2, hlt, a1, a2, a3, c1, c2, hw i hi, nI_S, i_a0, ↓reduceIte]
    by_cases h1 : gA τ 12 0 44 g < gA τ 12 0 44 i
    · simp only [h1, ↓reduceIte]
      exact rank_loop hn6 hn1 hn2 hw hg m (i + 1) (by omega) _ _
    · simp only [h1, ↓reduceIte]
      by_cases h2 : gA τ 12 0 44 i = gA τ 12 0 44 g
      · simp only [h2, ↓reduceIte]
        by_cases h3 : nI i < nI g
        · simp only [h3, ↓reduceIte]
          exact rank_loop hn6 hn1 hn2 hw hg m (i + 1) (by omega) _ _
        · simp only [h3, ↓reduceIte]
          exact rank_loop hn6 hn1 hn2 hw hg m (i + 1) (by omega) _ _
      · simp only [h2, ↓reduceIte]
        exact rank_loop hn6 hn1 hn2 hw hg m (i + 1) (by omega) _ _
theorem des_loop (hn6 : n ≤ 6) (hn1 : gI σ 2 (gR σ 11 0 2) 0 = nI n) (hn2 : gI τ 12 0 12 = nI n) (hw : ∀ j, j < n → gA σ 5 0 2 j = gA τ 12 0 44 j) : ∀ (m i : Nat), i + m = n → ∀ x : Int32, (x = -1 ∨ ∃ j, j < i ∧ x = nI j) → ∃ res : Int32,
    run kX11_deserves 4 [some (vR 11 0 0), some (vI x), some (vI (nI i))] [] σ = some (some (vI res), σ) ∧
    run kX12_deserves 7 [some (vR 12 0 0), some (vI x), some (vI (nI i))] [] τ = some (some (vI res), τ)
  | 0, i, hm, x, hx => by
    have hlt : ¬ nI i < nI n := nI_nlt (by omega) (by omega)
    refine ⟨x, ?_, ?_⟩
    · rw [bX11_deserves_4, hn1, if_neg hlt]
    · rw [bX12_deserves_7, hn2, if_neg hlt]
  | m + 1, i, hm, x, hx => by
    have hi : i < n := by omega
    have hlt : nI i < nI n := nI_lt hi (by omega)
    have a1 := ob (i := i) (N := 6) (by omega) (by decide)
    have a2 := ob (i := i) (N := 12) (by omega) (by decide)
    have c1 : (nI i).toNatClampNeg = i := nI_clamp (by omega)
    rw [bX11_deserves_4, bX12_deserves_7]
    rcases hx with rfl | ⟨j, hj, rfl⟩
    · have hneg : (-1 : Int32) < 0 := by decide
      simp only [hn1, hn2, hlt, hneg, nI_S, ↓reduceIte]
      exact des_loop hn6 hn1 hn2 hw m (i + 1) (by omega) _ (Or.inr ⟨i, by omega, rfl⟩)
    · have hpos : ¬ nI j < 0 := nI_pos (by omega)
      have a3 := ob (i := j) (N := 6) (by omega) (by decide)
      have a4 := ob (i := j) (N := 12) (by omega) (by decide)
      have c2 : (nI j).toNatClampNeg = j := nI_clamp (by omega)
      simp only [hn1, hn2, hlt, hpos, c1, c2, a1, a2, a3, a4, hw i hi, hw j (by omega), nI_S, ↓reduceIte, false_or, show ¬ 6 ≤ j by omega, show ¬ 12 ≤ j by omega]
      by_cases h1 : gA τ 12 0 44 j < gA τ 12 0 44 i
      · simp only [h1, ↓reduceIte]
        exact des_loop hn6 hn1 hn2 hw m (i + 1) (by omega) _ (Or.inr ⟨i, by omega, rfl⟩)
      · simp only [h1, ↓reduceIte]
        exact des_loop hn6 hn1 hn2 hw m (i + 1) (by omega) _ (Or.inr ⟨j, by omega, rfl⟩)
theorem lon_loop (hn6 : n ≤ 6) (hn1 : gI σ 2 (gR σ 11 0 2) 0 = nI n) (hn2 : gI τ 12 0 12 = nI n) (hs : ∀ j, j < n → gA σ 5 0 4 j = gA τ 12 0 46 j) : ∀ (m i : Nat), i + m = n → ∀ x : Int32, ∃ res : Int32,
    run kX11_lonely 4 [some (vR 11 0 0), some (vI x), some (vI (nI i))] [] σ = some (some (vI res), σ) ∧
    run kX12_lonely 7 [some (vR 12 0 0), some (vI x), some (vI (nI i))] [] τ = some (some (vI res), τ)
  | 0, i, hm, x => by
    have hlt : ¬ nI i < nI n := nI_nlt (by omega) (by omega)
    refine ⟨x, ?_, ?_⟩
    · rw [bX11_lonely_4, hn1, if_neg hlt]
    · rw [bX12_lonely_7, hn2, if_neg hlt]
  | m + 1, i, hm, x => by
    have hi : i < n := by omega
    have hlt : nI i < nI n := nI_lt hi (by omega)
    have a1 := ob (i := i) (N := 6) (by omega) (by decide)
    have a2 := ob (i := i) (N := 12) (by omega) (by decide)
    have c1 : (nI i).toNatClampNeg = i := nI_clamp (by omega)
    rw [bX11_lonely_4, bX12_lonely_7]
    simp only [hn1, hn2, hlt, c1, a1, a2, hs i hi, nI_S, ↓reduceIte]
    by_cases h1 : gA τ 12 0 46 i = 0
    · simp only [h1, ↓reduceIte]
      exact lon_loop hn6 hn1 hn2 hs m (i + 1) (by omega) _
    · simp only [h1, ↓reduceIte]
      exact lon_loop hn6 hn1 hn2 hs m (i + 1) (by omega) _
/-- Plot.isSeen -/
theorem e_isSeen (σ : ST) (o : Nat) {i : Nat} (hi : i < 6) (k : Int32) : den 47 [vR 5 o 0, vI (nI i), vI k] σ = some (some (vI (bit (gA σ 5 o 4 i) k)), σ) := by
  have a1 := ob (i := i) (N := 6) (by omega) (by decide)
  have c1 : (nI i).toNatClampNeg = i := nI_clamp (by omega)
  rw [dX5_isSeen, bX5_isSeen_0]
  simp only [c1, a1, ↓reduceIte]
  rw [e_has, bnd_s, tl_s, bX5_isSeen_6, if_pos (bit_01 _ _)]
theorem mut_in (hn6 : n ≤ 6) (hn1 : gI σ 2 (gR σ 11 0 2) 0 = nI n) (hn2 : gI τ 12 0 12 = nI n) (hs : ∀ j, j < n → gA σ 5 0 4 j = gA τ 12 0 46 j) {i : Nat} (hi : i < n) : ∀ (m j : Nat), j + m = n → ∀ x : Int32, ∃ x' : Int32,
    run kX11_mutual 13 [some (vR 11 0 0), some (vI x), some (vI (nI i)), some (vI (nI j))] [] σ = run kX11_mutual 4 [some (vR 11 0 0), some (vI x'), some (vI (nI (i + 1))), some (vI (nI n))] [] σ ∧
    run kX12_mutual 15 [some (vR 12 0 0), some (vI x), some (vI (nI i)), some (vI (nI j))] [] τ = run kX12_mutual 7 [some (vR 12 0 0), some (vI x'), some (vI (nI (i + 1))), some (vI (nI n))] [] τ
  | 0, j, hm, x => by
    have hlt : ¬ nI j < nI n := nI_nlt (by omega) (by omega)
    have e : j = n := by omega
    subst e
    refine ⟨x, ?_, ?_⟩
    · rw [bX11_mutual_13, hn1, if_neg hlt, nI_S]
    · rw [bX12_mutual_15, hn2, if_neg hlt, nI_S]
  | m + 1, j, hm, x => by
    have hj : j < n := by omega
    have hlt : nI j < nI n := nI_lt hj (by omega)
    have a1 := ob (i := i) (N := 12) (by omega) (by decide)
    have a2 := ob (i := j) (N := 12) (by omega) (by decide)
    have c1 : (nI i).toNatClampNeg = i := nI_clamp (by omega)
    have c2 : (nI j).toNatClampNeg = j := nI_clamp (by omega)
    rw [bX11_mutual_13, bX12_mutual_15, e_isSeen σ 0 (show i < 6 by omega)]
    simp only [hn1, hn2, hlt, c1, a1, ↓reduceIte, m_isOf, bnd_s, tl_s]
    rw [bX11_mutual_25, bX12_mutual_26, e_isSeen σ 0 (show j < 6 by omega)]
    simp only [c2, a2, ↓reduceIte, m_isOf, bnd_s, tl_s, hs i hi, hs j hj, nI_S]
    by_cases h1 : bit (gA τ 12 0 46 i) (nI j) = 0
    · simp only [h1, ↓reduceIte]
      exact mut_in hn6 hn1 hn2 hs hi m (j + 1) (by omega) _
    · simp only [h1, ↓reduceIte]
      rw [bX11_mutual_32, bX12_mutual_33]
      by_cases h2 : bit (gA τ 12 0 46 j) (nI i) = 0
      · simp only [h2, ↓reduceIte, nI_S]
        exact mut_in hn6 hn1 hn2 hs hi m (j + 1) (by omega) _
      · simp only [h2, ↓reduceIte, nI_S]
        exact mut_in hn6 hn1 hn2 hs hi m (j + 1) (by omega) _
theorem mut_out (hn6 : n ≤ 6) (hn1 : gI σ 2 (gR σ 11 0 2) 0 = nI n) (hn2 : gI τ 12 0 12 = nI n) (hs : ∀ j, j < n → gA σ 5 0 4 j = gA τ 12 0 46 j) : ∀ (m i : Nat), i + m = n → ∀ (x : Int32) (y y' : Option AV), ∃ res : Int32,
    run kX11_mutual 4 [some (vR 11 0 0), some (vI x), some (vI (nI i)), y] [] σ = some (some (vI res), σ) ∧
    run kX12_mutual 7 [some (vR 12 0 0), some (vI x), some (vI (nI i)), y'] [] τ = some (some (vI res), τ)
  | 0, i, hm, x, y, y' => by
    have hlt : ¬ nI i < nI n := nI_nlt (by omega) (by omega)
    refine ⟨x, ?_, ?_⟩
    · rw [bX11_mutual_4, hn1, if_neg hlt]
    · rw [bX12_mutual_7, hn2, if_neg hlt]
  | m + 1, i, hm, x, y, y' => by
    have hi : i < n := by omega
    have hlt : nI i < nI n := nI_lt hi (by omega)
    obtain ⟨x', e1, e2⟩ := mut_in hn6 hn1 hn2 hs hi m (i + 1) (by omega) x
    obtain ⟨res, f1, f2⟩ := mut_out hn6 hn1 hn2 hs m (i + 1) (by omega) x' (some (vI (nI n))) (some (vI (nI n)))
    refine ⟨res, ?_, ?_⟩
    · rw [bX11_mutual_4, hn1, if_pos hlt, nI_S, e1, f1]
    · rw [bX12_mutual_7, hn2, if_pos hlt, nI_S, e2, f2]
theorem pop_in (hn6 : n ≤ 6) (hn1 : gI σ 2 (gR σ 11 0 2) 0 = nI n) (hn2 : gI τ 12 0 12 = nI n) (hs : ∀ j, j < n → gA σ 5 0 4 j = gA τ 12 0 46 j) {i : Nat} (hi : i < n) (b w : Int32) : ∀ (m j : Nat), j + m = n → ∀ x : Int32, ∃ b' w' x' : Int32,
    run kX11_popular 15 [some (vR 11 0 0), some (vI w), some (vI b), some (vI (nI i)), some (vI x), some (vI (nI j))] [] σ = run kX11_popular 6 [some (vR 11 0 0), some (vI w'), some (vI b'), some (vI (nI (i + 1))), some (vI x'), some (vI (nI n))] [] σ ∧
    run kX12_popular 17 [some (vR 12 0 0), some (vI b), some (vI w), some (vI (nI i)), some (vI x), some (vI (nI j))] [] τ = run kX12_popular 9 [some (vR 12 0 0), some (vI b'), some (vI w'), some (vI (nI (i + 1))), some (vI x'), some (vI (nI n))] [] τ
  | 0, j, hm, x => by
    have hlt : ¬ nI j < nI n := nI_nlt (by omega) (by omega)
    have e : j = n := by omega
    subst e
    rw [bX11_popular_15, bX12_popular_17, hn1, hn2, if_neg hlt, if_neg hlt, nI_S]
    by_cases h : w < x
    · rw [if_pos h, if_pos h]
      exact ⟨_, _, _, rfl, rfl⟩
    · rw [if_neg h, if_neg h]
      exact ⟨_, _, _, rfl, rfl⟩
  | m + 1, j, hm, x => by
    have hj : j < n := by omega
    have hlt : nI j < nI n := nI_lt hj (by omega)
    have a2 := ob (i := j) (N := 12) (by omega) (by decide)
    have c2 : (nI j).toNatClampNeg = j := nI_clamp (by omega)
    rw [bX11_popular_15, bX12_popular_17, e_isSeen σ 0 (show j < 6 by omega)]
    simp only [hn1, hn2, hlt, c2, a2, ↓reduceIte, bnd_s, tl_s]
    rw [bX11_popular_27]
    obtain ⟨b', w', x', e1, e2⟩ := pop_in hn6 hn1 hn2 hs hi b w m (j + 1) (by omega) (x + bit (gA τ 12 0 46 j) (nI i))
    refine ⟨b', w', x', ?_, ?_⟩
    · rw [hs j hj]
      rcases bit_01 (gA τ 12 0 46 j) (nI i) with h | h
      · rw [h] at e1 ⊢
        rw [if_pos rfl, nI_S]
        exact e1
      · rw [h] at e1 ⊢
        rw [if_neg i10, nI_S]
        exact e1
    · rw [nI_S]
      exact e2
theorem pop_out (hn6 : n ≤ 6) (hn1 : gI σ 2 (gR σ 11 0 2) 0 = nI n) (hn2 : gI τ 12 0 12 = nI n) (hs : ∀ j, j < n → gA σ 5 0 4 j = gA τ 12 0 46 j) : ∀ (m i : Nat), i + m = n → ∀ (b w : Int32) (y z y' z' : Option AV), ∃ res : Int32,
    run kX11_popular 6 [some (vR 11 0 0), some (vI w), some (vI b), some (vI (nI i)), y, z] [] σ = some (some (vI res), σ) ∧
    run kX12_popular 9 [some (vR 12 0 0), some (vI b), some (vI w), some (vI (nI i)), y', z'] [] τ = some (some (vI res), τ)
  | 0, i, hm, b, w, y, z, y', z' => by
    have hlt : ¬ nI i < nI n := nI_nlt (by omega) (by omega)
    refine ⟨b, ?_, ?_⟩
    · rw [bX11_popular_6, hn1, if_neg hlt]
    · rw [bX12_popular_9, hn2, if_neg hlt]
  | m + 1, i, hm, b, w, y, z, y', z' => by
    have hi : i < n := by omega
    have hlt : nI i < nI n := nI_lt hi (by omega)
    obtain ⟨b', w', x', e1, e2⟩ := pop_in hn6 hn1 hn2 hs hi b w n 0 (by omega) 0
    obtain ⟨res, f1, f2⟩ := pop_out hn6 hn1 hn2 hs m (i + 1) (by omega) b' w' (some (vI x')) (some (vI (nI n))) (some (vI x')) (some (vI (nI n)))
    rw [nI_0] at e1 e2
    refine ⟨res, ?_, ?_⟩
    · rw [bX11_popular_6, hn1, if_pos hlt, e1, f1]
    · rw [bX12_popular_9, hn2, if_pos hlt, e2, f2]
end Q1
section CALLS1
variable {G n r : Nat} {σ τ : ST}
theorem PRb.w (h : PRb n r σ 0 τ 0) : ∀ j, j < n → gA σ 5 0 2 j = gA τ 12 0 44 j := fun j hj => by
  have := (h.1.1 j hj).1
  simpa using this
theorem PRb.s (h : PRb n r σ 0 τ 0) (hn : n ≤ 6) : ∀ j, j < n → gA σ 5 0 4 j = gA τ 12 0 46 j := fun j hj => by
  have := (h.1.2.2.1 j (by omega)).1
  simpa using this
/-- the reference's state with 'thrown' laid back -/
abbrev th0 (τ : ST) : ST := sI τ 12 0 2 (0 : Int32)
theorem q_rank (hG : RG G n r σ τ) (hP : PRb n r σ 0 τ 0) (g : Int32) : ∃ v : Int32, den 136 [vR 11 0 0, vI g] σ = some (some (vI v), σ) ∧ den 257 [vR 12 0 0, vI g] τ = some (some (vI v), th0 τ) := by
  have hn6 := hG.n6
  have hm : gI (th0 τ) 12 0 12 = nI n := hG.mn
  rw [dX11_rank, bX11_rank_0, e_isGrower, hG.cn, bnd_s, tl_s, bX11_rank_3]
  rw [dX12_rank, bX12_rank_0, m_isGrower, hm, bnd_s, tl_s, bX12_rank_6]
  rcases isb_nI (g := g) (n := n) (by omega) with h0 | ⟨j, hj, rfl, h1⟩
  · rw [h0, if_pos rfl, if_pos rfl]
    exact ⟨-1, rfl, rfl⟩
  · have a1 := ob (i := j) (N := 6) (by omega) (by decide)
    have c1 : (nI j).toNatClampNeg = j := nI_clamp (by omega)
    rw [h1, if_neg i10, if_neg i10]
    simp only [c1, a1, ↓reduceIte]
    rw [hP.w j hj]
    exact rank_loop (τ := th0 τ) hn6 hG.cn hm hP.w hj n 0 (by omega) 0 none
theorem q_deserves (hG : RG G n r σ τ) (hP : PRb n r σ 0 τ 0) : ∃ v : Int32, den 130 [vR 11 0 0] σ = some (some (vI v), σ) ∧ den 253 [vR 12 0 0] τ = some (some (vI v), th0 τ) := by
  have hm : gI (th0 τ) 12 0 12 = nI n := hG.mn
  rw [dX11_deserves, bX11_deserves_0, dX12_deserves, bX12_deserves_0]
  exact des_loop (τ := th0 τ) hG.n6 hG.cn hm hP.w n 0 (by omega) _ (Or.inl rfl)
theorem q_lonely (hG : RG G n r σ τ) (hP : PRb n r σ 0 τ 0) : ∃ v : Int32, den 141 [vR 11 0 0] σ = some (some (vI v), σ) ∧ den 262 [vR 12 0 0] τ = some (some (vI v), th0 τ) := by
  have hm : gI (th0 τ) 12 0 12 = nI n := hG.mn
  rw [dX11_lonely, bX11_lonely_0, dX12_lonely, bX12_lonely_0]
  exact lon_loop (τ := th0 τ) hG.n6 hG.cn hm (hP.s hG.n6) n 0 (by omega) _
theorem q_mutual (hG : RG G n r σ τ) (hP : PRb n r σ 0 τ 0) : ∃ v : Int32, den 140 [vR 11 0 0] σ = some (some (vI v), σ) ∧ den 261 [vR 12 0 0] τ = some (some (vI v), th0 τ) := by
  have hm : gI (th0 τ) 12 0 12 = nI n := hG.mn
  rw [dX11_mutual, bX11_mutual_0, dX12_mutual, bX12_mutual_0]
  exact mut_out (τ := th0 τ) hG.n6 hG.cn hm (hP.s hG.n6) n 0 (by omega) _ _ _
theorem q_popular (hG : RG G n r σ τ) (hP : PRb n r σ 0 τ 0) : ∃ v : Int32, den 139 [vR 11 0 0] σ = some (some (vI v), σ) ∧ den 260 [vR 12 0 0] τ = some (some (vI v), th0 τ) := by
  have hm : gI (th0 τ) 12 0 12 = nI n := hG.mn
  rw [dX11_popular, bX11_popular_0, dX12_popular, bX12_popular_0]
  exact pop_out (τ := th0 τ) hG.n6 hG.cn hm (hP.s hG.n6) n 0 (by omega) _ _ _ _ _ _
end CALLS1
