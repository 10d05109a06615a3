/-! fault, ribbon, named, rests, rest -/
section Q2
variable {G n r : Nat} {σ τ : ST}
theorem q_fault (h1 : gI σ 6 0 8 = gI τ 12 0 4) (h2 : gI σ 6 0 9 = gI τ 12 0 5) (x : Int32) : ∃ v : Int32, den 113 [vR 11 0 0, vI x] σ = some (some (vI v), σ) ∧ den 189 [vR 12 0 0, vI x] τ = some (some (vI v), th0 τ) := by
  rw [dX11_fault, bX11_fault_0, dX12_fault, bX12_fault_0, h1, h2]
  by_cases a : x = 0
  · simp only [a, ↓reduceIte]
    exact ⟨_, rfl, rfl⟩
  · simp only [a, ↓reduceIte]
    by_cases b : x = 1
    · simp only [b, ↓reduceIte]
      exact ⟨_, rfl, rfl⟩
    · simp only [b, ↓reduceIte]
      exact ⟨_, rfl, rfl⟩
theorem q_ribbon (hG : RG G n r σ τ) (hP : PRb n r σ 0 τ 0) (x y : Int32) : ∃ v : Int32, den 115 [vR 11 0 0, vI x, vI y] σ = some (some (vI v), σ) ∧ den 229 [vR 12 0 0, vI x, vI y] τ = some (some (vI v), th0 τ) := by
  have hr2 := hG.r2
  have hm : gI (th0 τ) 12 0 13 = nI r := hG.mr
  rw [dX11_ribbon, bX11_ribbon_0, e_isRibbon, hG.cr, bnd_s, tl_s, bX11_ribbon_3]
  rw [dX12_ribbon, bX12_ribbon_0, m_isRibbon, hm, bnd_s, tl_s, bX12_ribbon_6]
  rcases isb_nI (g := x) (n := r) (by omega) with h0 | ⟨j, hj, rfl, h1⟩
  · rw [h0, if_pos rfl, if_pos rfl]
    exact ⟨-1, rfl, rfl⟩
  · have a1 := ob (i := j) (N := 2) (by omega) (by decide)
    have a2 := ob (i := j) (N := 4) (by omega) (by decide)
    have c1 : (nI j).toNatClampNeg = j := nI_clamp (by omega)
    have e1 : gA σ 5 0 5 j = gA τ 12 0 47 j := by have := (hP.1.2.2.2.1 j hj).1; simpa using this
    have e2 : gA σ 5 0 6 j = gA τ 12 0 48 j := by have := hP.1.2.2.2.2.1 j hj; simpa using this
    have e3 : gA σ 5 0 7 j = gA τ 12 0 49 j := by have := hP.1.2.2.2.2.2.1 j hj; simpa using this
    rw [h1, if_neg i10, if_neg i10]
    simp only [c1, a1, a2, ↓reduceIte, e1, e2, e3]
    by_cases b0 : y = 0
    · simp only [b0, ↓reduceIte]
      exact ⟨_, rfl, rfl⟩
    · simp only [b0, ↓reduceIte]
      by_cases b1 : y = 1
      · simp only [b1, ↓reduceIte]
        exact ⟨_, rfl, rfl⟩
      · simp only [b1, ↓reduceIte]
        by_cases b2 : y = 2
        · simp only [b2, ↓reduceIte]
          exact ⟨_, rfl, rfl⟩
        · simp only [b2, ↓reduceIte]
          exact ⟨_, rfl, rfl⟩
/-- where a name stands in a row -/
def fnd (f : Nat → Int32) (x : Int32) : Nat → Nat → Int32
  | 0, _ => -1
  | m + 1, i => if f i = x then nI i else fnd f x m (i + 1)
theorem e_num (o : Nat) (n : Nat) (hn6 : n ≤ 6) (hn : gI σ 2 o 0 = nI n) (x : Int32) : ∀ (m i : Nat), i + m = n → run kX2_numberOf 2 [some (vR 2 o 0), some (vI x), some (vI (nI i))] [] σ = some (some (vI (fnd (gA σ 2 o 5) x m i)), σ)
  | 0, i, hm => by
    have hlt : ¬ nI i < nI n := nI_nlt (by omega) (by omega)
    rw [bX2_numberOf_2, hn, if_neg hlt]
    rfl
  | m + 1, i, hm => by
    have hlt : nI i < nI n := nI_lt (by omega) (by omega)
    have a1 := ob (i := i) (N := 6) (by omega) (by decide)
    have c1 : (nI i).toNatClampNeg = i := nI_clamp (by omega)
    rw [bX2_numberOf_2]
    simp only [hn, hlt, c1, a1, ↓reduceIte, nI_S, fnd]
    by_cases h : gA σ 2 o 5 i = x
    · simp only [h, ↓reduceIte]
    · simp only [h, ↓reduceIte]
      exact e_num o n hn6 hn x m (i + 1) (by omega)
theorem e_numberOf (o : Nat) {n : Nat} (hn6 : n ≤ 6) (hn : gI σ 2 o 0 = nI n) (x : Int32) : den 23 [vR 2 o 0, vI x] σ = some (some (vI (fnd (gA σ 2 o 5) x n 0)), σ) := by
  rw [dX2_numberOf, bX2_numberOf_0]
  exact e_num o n hn6 hn x n 0 (by omega)
theorem m_fnd (k N : Nat) (hk : ar 12 k = (0, N)) (hN : N < 1000) (a n : Nat) (hn : a + n ≤ N) (x : Int32) : ∀ (m i : Nat), i + m = n → run kX12_find 2 [some (vR 12 0 (k + 1)), some (vI (nI a)), some (vI (nI n)), some (vI x), some (vI (nI i))] [] τ = some (some (vI (fnd (fun j => gA τ 12 0 k (a + j)) x m i)), τ)
  | 0, i, hm => by
    have hlt : ¬ nI i < nI n := nI_nlt (by omega) (by omega)
    rw [bX12_find_2, if_neg hlt]
    rfl
  | m + 1, i, hm => by
    have hlt : nI i < nI n := nI_lt (by omega) (by omega)
    have a1 := ob (i := a + i) (N := N) (by omega) (by omega)
    have c1 : (nI (a + i)).toNatClampNeg = a + i := nI_clamp (by omega)
    rw [bX12_find_2]
    simp only [hlt, hk, nI_add, c1, a1, ↓reduceIte, nI_S, fnd]
    by_cases h : gA τ 12 0 k (a + i) = x
    · simp only [h, ↓reduceIte]
    · simp only [h, ↓reduceIte]
      exact m_fnd k N hk hN a n hn x m (i + 1) (by omega)
theorem fnd_eq {f g : Nat → Int32} (x : Int32) : ∀ (m i : Nat), (∀ j, i ≤ j → j < i + m → f j = g j) → fnd f x m i = fnd g x m i
  | 0, _, _ => rfl
  | m + 1, i, h => by
    unfold fnd
    rw [h i (Nat.le_refl i) (by omega), fnd_eq x m (i + 1) (fun j h1 h2 => h j (by omega) (by omega))]
theorem q_named (hG : RG G n r σ τ) (x : Int32) : ∃ v : Int32, den 114 [vR 11 0 0, vI x] σ = some (some (vI v), σ) ∧ den 190 [vR 12 0 0, vI x] τ = some (some (vI v), th0 τ) := by
  have hn6 := hG.n6
  rw [dX11_named, bX11_named_0, hG.g, e_numberOf G hn6 hG.2.2.1.1, bnd_s, tl_s, bX11_named_4]
  rw [dX12_named, bX12_named_0, hG.mn, dX12_find, bX12_find_0]
  have e := m_fnd (τ := th0 τ) 20 12 rfl (by decide) 0 n (by omega) x n 0 (by omega)
  rw [nI_0] at e
  rw [e, bnd_s, tl_s, bX12_named_10]
  refine ⟨_, rfl, ?_⟩
  rw [fnd_eq (f := gA σ 2 G 5) (g := fun j => gA (th0 τ) 12 0 20 (0 + j)) x n 0 (fun j _ hj => by
    have := hG.2.2.2.2.2.2.1 j (by omega)
    rw [this, Nat.zero_add]
    rfl)]
/-- the game: what one has -/
def shv (wo wt dt mine its : Int32) : Int32 := if mine = 1 then (if its = 1 then wt / 2 else 0) else if its = 1 then wo - 5 * dt else wo / 4
theorem e_share {i j : Nat} (hi : i < 6) (hj : j < 6) (a b : Int32) : den 161 [vR 11 0 0, vI (nI i), vI (nI j), vI a, vI b] σ = some (some (vI (shv (gA σ 5 0 2 i) (gA σ 5 0 2 j) (gA σ 2 (gR σ 11 0 2) 7 j) a b)), σ) := by
  have a1 := ob (i := i) (N := 6) hi (by decide)
  have a2 := ob (i := j) (N := 6) hj (by decide)
  have c1 : (nI i).toNatClampNeg = i := nI_clamp (by omega)
  have c2 : (nI j).toNatClampNeg = j := nI_clamp (by omega)
  rw [dX11_share, bX11_share_0]
  simp only [c1, c2, a1, a2, ↓reduceIte, shv]
  by_cases h1 : a = 1 <;> by_cases h2 : b = 1 <;> simp only [h1, h2, ↓reduceIte]
theorem m_hasBy {i j : Nat} (hi : i < 6) (hj : j < 6) (a b : Int32) : den 263 [vR 12 0 0, vI (nI i), vI (nI j), vI a, vI b] τ = some (some (vI (shv (gA τ 12 0 44 i) (gA τ 12 0 44 j) (gA τ 12 0 23 j) a b)), τ) := by
  have a1 := ob (i := i) (N := 12) (by omega) (by decide)
  have a2 := ob (i := j) (N := 12) (by omega) (by decide)
  have c1 : (nI i).toNatClampNeg = i := nI_clamp (by omega)
  have c2 : (nI j).toNatClampNeg = j := nI_clamp (by omega)
  rw [dX12_hasBy, bX12_hasBy_0]
  simp only [c1, c2, a1, a2, ↓reduceIte, shv]
  by_cases h1 : a = 1 <;> by_cases h2 : b = 1 <;> simp only [h1, h2, ↓reduceIte]
theorem way4 : ∀ w, w < 4 → nI w >>> ((1 : Int32) &&& 31) = nI w / 2 ∧ nI w &&& 1 = nI w - nI w / 2 * 2 := by decide
/-- whether a way is a rest -/
def rsb (f g : Int32 → Int32 → Int32) (x y : Int32) : Int32 := if f x y < f (1 - x) y then 0 else if g y x < g (1 - y) x then 0 else 1
theorem e_isRest {i j w : Nat} (hi : i < 6) (hj : j < 6) (hw : w < 4) : den 160 [vR 11 0 0, vI (nI i), vI (nI j), vI (nI w)] σ = some (some (vI (rsb (shv (gA σ 5 0 2 i) (gA σ 5 0 2 j) (gA σ 2 (gR σ 11 0 2) 7 j)) (shv (gA σ 5 0 2 j) (gA σ 5 0 2 i) (gA σ 2 (gR σ 11 0 2) 7 i)) (nI w / 2) (nI w - nI w / 2 * 2))), σ) := by
  obtain ⟨e1, e2⟩ := way4 w hw
  rw [dX11_isRest, bX11_isRest_0, e1, e2, e_share hi hj, bnd_s, tl_s, bX11_isRest_14, e_share hi hj, bnd_s, tl_s, bX11_isRest_22, e_share hj hi, bnd_s, tl_s, bX11_isRest_29, e_share hj hi, bnd_s, tl_s, bX11_isRest_37]
  unfold rsb
  by_cases h1 : shv (gA σ 5 0 2 i) (gA σ 5 0 2 j) (gA σ 2 (gR σ 11 0 2) 7 j) (nI w / 2) (nI w - nI w / 2 * 2) < shv (gA σ 5 0 2 i) (gA σ 5 0 2 j) (gA σ 2 (gR σ 11 0 2) 7 j) (1 - nI w / 2) (nI w - nI w / 2 * 2)
  · rw [if_pos h1, if_pos h1]
  · rw [if_neg h1, if_neg h1]
    by_cases h2 : shv (gA σ 5 0 2 j) (gA σ 5 0 2 i) (gA σ 2 (gR σ 11 0 2) 7 i) (nI w - nI w / 2 * 2) (nI w / 2) < shv (gA σ 5 0 2 j) (gA σ 5 0 2 i) (gA σ 2 (gR σ 11 0 2) 7 i) (1 - (nI w - nI w / 2 * 2)) (nI w / 2)
    · rw [if_pos h2, if_pos h2]
    · rw [if_neg h2, if_neg h2]
/-- one turn of the reference's loop -/
theorem m_restAt {i j w : Nat} (hi : i < 6) (hj : j < 6) (hw : w < 4) (x3 x4 : Int32) (y6 y7 : Option AV) : ∃ y y' : Option AV, run kX12_restAt 4 [some (vR 12 0 0), some (vI (nI i)), some (vI (nI j)), some (vI x3), some (vI x4), some (vI (nI w)), y6, y7] [] τ =
    if rsb (shv (gA τ 12 0 44 i) (gA τ 12 0 44 j) (gA τ 12 0 23 j)) (shv (gA τ 12 0 44 j) (gA τ 12 0 44 i) (gA τ 12 0 23 i)) (nI w / 2) (nI w - nI w / 2 * 2) = 0 then run kX12_restAt 4 [some (vR 12 0 0), some (vI (nI i)), some (vI (nI j)), some (vI x3), some (vI x4), some (vI (nI (w + 1))), y, y'] [] τ
    else if x4 = x3 then some (some (vI (10 * (nI w / 2) + (nI w - nI w / 2 * 2))), τ) else run kX12_restAt 4 [some (vR 12 0 0), some (vI (nI i)), some (vI (nI j)), some (vI x3), some (vI (x4 + 1)), some (vI (nI (w + 1))), y, y'] [] τ := by
  have hlt : nI w < (4 : Int32) := nI_lt (b := 4) hw (by decide)
  refine ⟨some (vI (nI w / 2)), some (vI (nI w - nI w / 2 * 2)), ?_⟩
  rw [bX12_restAt_4, if_pos hlt, m_hasBy hi hj, bnd_s, tl_s, bX12_restAt_23, m_hasBy hi hj, bnd_s, tl_s, bX12_restAt_29, m_hasBy hj hi, bnd_s, tl_s, bX12_restAt_38, m_hasBy hj hi, bnd_s, tl_s, bX12_restAt_44, nI_S]
  unfold rsb
  by_cases h1 : shv (gA τ 12 0 44 i) (gA τ 12 0 44 j) (gA τ 12 0 23 j) (nI w / 2) (nI w - nI w / 2 * 2) < shv (gA τ 12 0 44 i) (gA τ 12 0 44 j) (gA τ 12 0 23 j) (1 - nI w / 2) (nI w - nI w / 2 * 2)
  · rw [if_pos h1, if_pos h1, if_pos rfl]
  · rw [if_neg h1, if_neg h1]
    by_cases h2 : shv (gA τ 12 0 44 j) (gA τ 12 0 44 i) (gA τ 12 0 23 i) (nI w - nI w / 2 * 2) (nI w / 2) < shv (gA τ 12 0 44 j) (gA τ 12 0 44 i) (gA τ 12 0 23 i) (1 - (nI w - nI w / 2 * 2)) (nI w / 2)
    · rw [if_pos h2, if_pos h2, if_pos rfl]
    · rw [if_neg h2, if_neg h2, if_neg i10]
theorem rest_loop {i j : Nat} (hi : i < n) (hj : j < n) (hn6 : n ≤ 6) (hw : ∀ j, j < n → gA σ 5 0 2 j = gA τ 12 0 44 j) (hd : ∀ j, j < n → gA σ 2 (gR σ 11 0 2) 7 j = gA τ 12 0 23 j) (x3 : Int32) (h3 : ¬ x3 < 0) : ∀ (m w : Nat), w + m = 4 → ∀ (x4 : Int32) (y6 y7 : Option AV), ∃ res : Int32,
    run kX11_rest 13 [some (vR 11 0 0), some (vI (nI i)), some (vI (nI j)), some (vI x3), some (vI x4), some (vI (nI w))] [] σ = some (some (vI res), σ) ∧
    run kX12_restAt 4 [some (vR 12 0 0), some (vI (nI i)), some (vI (nI j)), some (vI x3), some (vI x4), some (vI (nI w)), y6, y7] [] τ = some (some (vI res), τ)
  | 0, w, hm, x4, y6, y7 => by
    have e : w = 4 := by omega
    subst e
    have hlt : ¬ nI 4 < (4 : Int32) := by decide
    refine ⟨-2, ?_, ?_⟩
    · rw [bX11_rest_13, if_neg hlt]
    · rw [bX12_restAt_4, if_neg hlt, if_neg h3]
  | m + 1, w, hm, x4, y6, y7 => by
    have hlt : nI w < (4 : Int32) := nI_lt (b := 4) (by omega) (by decide)
    obtain ⟨e1, e2⟩ := way4 w (by omega)
    obtain ⟨y, y', e⟩ := m_restAt (τ := τ) (show i < 6 by omega) (show j < 6 by omega) (show w < 4 by omega) x3 x4 y6 y7
    rw [bX11_rest_13, if_pos hlt, e_isRest (show i < 6 by omega) (show j < 6 by omega) (show w < 4 by omega), bnd_s, tl_s, bX11_rest_21, e, hw i hi, hw j hj, hd i hi, hd j hj, nI_S, e1, e2]
    by_cases h : rsb (shv (gA τ 12 0 44 i) (gA τ 12 0 44 j) (gA τ 12 0 23 j)) (shv (gA τ 12 0 44 j) (gA τ 12 0 44 i) (gA τ 12 0 23 i)) (nI w / 2) (nI w - nI w / 2 * 2) = 0
    · rw [if_pos h, if_pos h]
      exact rest_loop hi hj hn6 hw hd x3 h3 m (w + 1) (by omega) _ _ _
    · rw [if_neg h, if_neg h]
      by_cases h4 : x4 = x3
      · rw [if_pos h4, if_pos h4]
        exact ⟨_, rfl, rfl⟩
      · rw [if_neg h4, if_neg h4]
        exact rest_loop hi hj hn6 hw hd x3 h3 m (w + 1) (by omega) _ _ _
theorem rests_loop {i j : Nat} (hi : i < n) (hj : j < n) (hn6 : n ≤ 6) (hw : ∀ j, j < n → gA σ 5 0 2 j = gA τ 12 0 44 j) (hd : ∀ j, j < n → gA σ 2 (gR σ 11 0 2) 7 j = gA τ 12 0 23 j) : ∀ (m w : Nat), w + m = 4 → ∀ (c : Nat), c ≤ w → ∀ (y6 y7 : Option AV), ∃ res : Int32,
    run kX11_rests 11 [some (vR 11 0 0), some (vI (nI i)), some (vI (nI j)), some (vI (nI c)), some (vI (nI w))] [] σ = some (some (vI res), σ) ∧
    run kX12_restAt 4 [some (vR 12 0 0), some (vI (nI i)), some (vI (nI j)), some (vI (-1 : Int32)), some (vI (nI c)), some (vI (nI w)), y6, y7] [] τ = some (some (vI res), τ)
  | 0, w, hm, c, hc, y6, y7 => by
    have e : w = 4 := by omega
    subst e
    have hlt : ¬ nI 4 < (4 : Int32) := by decide
    have hm1 : (-1 : Int32) < 0 := by decide
    refine ⟨nI c, ?_, ?_⟩
    · rw [bX11_rests_11, if_neg hlt]
    · rw [bX12_restAt_4, if_neg hlt, if_pos hm1]
  | m + 1, w, hm, c, hc, y6, y7 => by
    have hlt : nI w < (4 : Int32) := nI_lt (b := 4) (by omega) (by decide)
    have hne : ¬ nI c = (-1 : Int32) := fun z => by
      have := nI_pos (n := c) (by omega)
      rw [z] at this
      exact this (by decide)
    obtain ⟨y, y', e⟩ := m_restAt (τ := τ) (show i < 6 by omega) (show j < 6 by omega) (show w < 4 by omega) (-1) (nI c) y6 y7
    rw [bX11_rests_11, if_pos hlt, e_isRest (show i < 6 by omega) (show j < 6 by omega) (show w < 4 by omega), bnd_s, tl_s, bX11_rests_20, e, hw i hi, hw j hj, hd i hi, hd j hj, nI_S, nI_S, i_a0]
    by_cases h : rsb (shv (gA τ 12 0 44 i) (gA τ 12 0 44 j) (gA τ 12 0 23 j)) (shv (gA τ 12 0 44 j) (gA τ 12 0 44 i) (gA τ 12 0 23 i)) (nI w / 2) (nI w - nI w / 2 * 2) = 0
    · rw [if_pos h, if_pos h]
      exact rests_loop hi hj hn6 hw hd m (w + 1) (by omega) c (by omega) _ _
    · rw [if_neg h, if_neg h, if_neg hne]
      exact rests_loop hi hj hn6 hw hd m (w + 1) (by omega) (c + 1) (by omega) _ _
theorem RG.d (hG : RG G n r σ τ) : ∀ j, j < n → gA σ 2 (gR σ 11 0 2) 7 j = gA τ 12 0 23 j := fun j hj => by
  rw [hG.g]
  exact (hG.2.2.2.2.2.2.2.2.1 j hj).1
theorem q_rests (hG : RG G n r σ τ) (hP : PRb n r σ 0 τ 0) (a c : Int32) : ∃ v : Int32, den 132 [vR 11 0 0, vI a, vI c] σ = some (some (vI v), σ) ∧ den 265 [vR 12 0 0, vI a, vI c] τ = some (some (vI v), th0 τ) := by
  have hn6 := hG.n6
  have hm : gI (th0 τ) 12 0 12 = nI n := hG.mn
  rw [dX11_rests, bX11_rests_0, e_areTwo, hG.cn, bnd_s, tl_s, bX11_rests_4]
  rw [dX12_rests, bX12_rests_0, m_areTwo, hm, bnd_s, tl_s, bX12_rests_7]
  rcases twb_nI (a := a) (c := c) (n := n) (by omega) with h0 | ⟨i, j, hi, hj, hne, rfl, rfl, h1⟩
  · rw [h0, if_pos rfl, if_pos rfl]
    exact ⟨-1, rfl, rfl⟩
  · rw [h1, if_neg i10, if_neg i10, dX12_restAt, bX12_restAt_0]
    obtain ⟨res, e1, e2⟩ := rests_loop (τ := th0 τ) hi hj hn6 hP.w hG.d 4 0 (by omega) 0 (Nat.le_refl 0) none none
    rw [nI_0] at e1 e2
    refine ⟨res, e1, ?_⟩
    rw [e2, bnd_s, tl_s, bX12_rests_13]
theorem q_rest (hG : RG G n r σ τ) (hP : PRb n r σ 0 τ 0) (a c x : Int32) : ∃ v : Int32, den 133 [vR 11 0 0, vI a, vI c, vI x] σ = some (some (vI v), σ) ∧ den 266 [vR 12 0 0, vI a, vI c, vI x] τ = some (some (vI v), th0 τ) := by
  have hn6 := hG.n6
  have hm : gI (th0 τ) 12 0 12 = nI n := hG.mn
  rw [dX11_rest, bX11_rest_0, e_areTwo, hG.cn, bnd_s, tl_s, bX11_rest_4]
  rw [dX12_rest, bX12_rest_0, m_areTwo, hm, bnd_s, tl_s, bX12_rest_7]
  rcases twb_nI (a := a) (c := c) (n := n) (by omega) with h0 | ⟨i, j, hi, hj, hne, rfl, rfl, h1⟩
  · rw [h0, if_pos rfl, if_pos rfl]
    exact ⟨-1, rfl, rfl⟩
  · rw [h1, if_neg i10, if_neg i10]
    by_cases hx : x < 0
    · rw [if_pos hx, if_pos hx]
      exact ⟨-1, rfl, rfl⟩
    · rw [if_neg hx, if_neg hx, dX12_restAt, bX12_restAt_0]
      obtain ⟨res, e1, e2⟩ := rest_loop (τ := th0 τ) hi hj hn6 hP.w hG.d x hx 4 0 (by omega) 0 none none
      rw [nI_0] at e1 e2
      refine ⟨res, e1, ?_⟩
      rw [e2, bnd_s, tl_s, bX12_rest_15]
end Q2
