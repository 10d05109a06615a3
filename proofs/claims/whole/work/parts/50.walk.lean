/-! WALK: the shortest walk by all -/
section WLK
variable {σ τ : ST} {n L : Nat}
/-- those there are, but one -/
def elN (w j : Nat) : Nat := if j < w then j else j + 1
def lnN (w i : Nat) : Nat := if i ≤ w then i else i - 1
theorem bg_loop (hn6 : n ≤ 6) {w : Nat} {w' : Int32} (hw : ∀ i, i < n → (nI i = w' ↔ i = w)) : ∀ (m i : Nat), i + m = n → ∀ (A : Nat → Int32), (∀ j, j < lnN w i → A j = nI (elN w j)) → ∃ A2,
    run kX8_begin 5 [some (vR 8 0 0), some (vI (nI n)), some (vI w'), some (vI (nI i))] [] (sI (sA σ 8 0 0 A) 8 0 2 (nI (lnN w i))) = some (none, sI (sA σ 8 0 0 A2) 8 0 2 (nI (lnN w n))) ∧ ∀ j, j < lnN w n → A2 j = nI (elN w j)
  | 0, i, hm, A, hA => by
    have hi : i = n := by omega
    subst hi
    have hlt : ¬ nI i < nI i := nI_nlt (by omega) (by omega)
    exact ⟨A, by rw [bX8_begin_5, if_neg hlt], hA⟩
  | m + 1, i, hm, A, hA => by
    have hlt : nI i < nI n := nI_lt (by omega) (by omega)
    have e2 : gI (sI (sA σ 8 0 0 A) 8 0 2 (nI (lnN w i))) 8 0 2 = nI (lnN w i) := gI_s
    have e0 : gA (sI (sA σ 8 0 0 A) 8 0 2 (nI (lnN w i))) 8 0 0 = A := rfl
    have hl : lnN w i ≤ i := by unfold lnN; split <;> omega
    have a1 := ob (i := lnN w i) (N := 6) (by omega) (by decide)
    have c1 : (nI (lnN w i)).toNatClampNeg = lnN w i := nI_clamp (by omega)
    rw [bX8_begin_5, if_pos hlt, e2, e0]
    simp only [c1, a1, ↓reduceIte, nI_S]
    by_cases h : i = w
    · rw [if_pos ((hw i (by omega)).mpr h)]
      have el : lnN w (i + 1) = lnN w i := by
        unfold lnN
        rw [if_neg (by omega), if_pos (by omega)]
        omega
      rw [← el]
      exact bg_loop hn6 hw m (i + 1) (by omega) A (by rw [el]; exact hA)
    · rw [if_neg (fun z => h ((hw i (by omega)).mp z))]
      have el : lnN w (i + 1) = lnN w i + 1 := by
        unfold lnN
        by_cases h2 : i ≤ w
        · rw [if_pos h2, if_pos (by omega)]
        · rw [if_neg h2, if_neg (by omega)]
          omega
      have ee : elN w (lnN w i) = i := by
        unfold elN lnN
        by_cases h2 : i ≤ w
        · rw [if_pos h2, if_pos (by omega)]
        · rw [if_neg h2, if_neg (by omega)]
          omega
      have est : sI (sA (sI (sA σ 8 0 0 A) 8 0 2 (nI (lnN w i))) 8 0 0 (upd A (lnN w i) (nI i))) 8 0 2 (nI (lnN w i + 1)) = sI (sA σ 8 0 0 (upd A (lnN w i) (nI i))) 8 0 2 (nI (lnN w (i + 1))) := by
        show sI (sI (sA (sA σ 8 0 0 A) 8 0 0 (upd A (lnN w i) (nI i))) 8 0 2 (nI (lnN w i))) 8 0 2 (nI (lnN w i + 1)) = _
        rw [sAA, sII, el]
      rw [est]
      refine bg_loop hn6 hw m (i + 1) (by omega) _ (fun j hj => ?_)
      rw [el] at hj
      by_cases e : j = lnN w i
      · rw [e, pk_us, ee]
      · rw [upd_o e]
        exact hA j (by omega)
/-- Rows.begin -/
theorem e_rbegin (hn6 : n ≤ 6) {w : Nat} {w' : Int32} (hw : ∀ i, i < n → (nI i = w' ↔ i = w)) : ∃ A, den 85 [vR 8 0 0, vI (nI n), vI w'] σ = some (none, sI (sA σ 8 0 0 A) 8 0 2 (nI (lnN w n))) ∧ ∀ j, j < lnN w n → A j = nI (elN w j) := by
  obtain ⟨A, h1, h2⟩ := bg_loop (σ := σ) hn6 hw n 0 (by omega) (gA σ 8 0 0) (fun j hj => by
    have : lnN w 0 = 0 := by unfold lnN; split <;> omega
    omega)
  have l0 : lnN w 0 = 0 := by unfold lnN; split <;> omega
  rw [l0, sA_id, nI_0] at h1
  exact ⟨A, by rw [dX8_begin, bX8_begin_0, h1], h2⟩
/-- the rows' state -/
def wkS (σ : ST) (A C : Nat → Int32) (l : Int32) : ST := sI (sA (sA σ 8 0 0 A) 8 0 1 C) 8 0 3 l
theorem wkS_0 {A C A' : Nat → Int32} {l : Int32} : sA (wkS σ A C l) 8 0 0 A' = wkS σ A' C l := by
  show sI (sA (sA (sA σ 8 0 0 A) 8 0 1 C) 8 0 0 A') 8 0 3 l = _
  rw [sA_c (k := 1) (k' := 0) (by decide), sAA]
  rfl
theorem wkS_1 {A C C' : Nat → Int32} {l l' : Int32} : sA (sI (wkS σ A C l) 8 0 3 l') 8 0 1 C' = wkS σ A C' l' := by
  show sI (sI (sA (sA (sA σ 8 0 0 A) 8 0 1 C) 8 0 1 C') 8 0 3 l) 8 0 3 l' = _
  rw [sAA, sII]
  rfl
theorem wkS_g0 {A C : Nat → Int32} {l : Int32} : gA (wkS σ A C l) 8 0 0 = A := rfl
theorem wkS_g1 {A C : Nat → Int32} {l : Int32} : gA (wkS σ A C l) 8 0 1 = C := rfl
theorem wkS_g3 {A C : Nat → Int32} {l : Int32} : gI (wkS σ A C l) 8 0 3 = l := rfl
theorem scC_wkS {A C : Nat → Int32} {l : Int32} : scC σ (wkS σ A C l) := scC_t (scC_A (Or.inr (Or.inr (Or.inl rfl))) _) (scC_t (scC_A (Or.inr (Or.inr (Or.inl rfl))) _) (scC_I (Or.inr (Or.inr (Or.inl rfl))) _))
/-- Rows.take -/
theorem e_rtake (hL : L ≤ 6) (h2 : gI σ 8 0 2 = nI L) (A C : Nat → Int32) (l : Int32) (c : Int32) (cost : Int32) : ∃ C' l', den 86 [vR 8 0 0, vI c, vI cost] (wkS σ A C l) = some (none, wkS σ A C' l') ∧
    (((c = 0 ∨ cost < l) ∧ l' = cost ∧ ∀ j, j < L → C' j = A j) ∨ (¬ (c = 0 ∨ cost < l) ∧ l' = l ∧ C' = C)) := by
  have e2 : gI (wkS σ A C l) 8 0 2 = nI L := h2
  have cl : (nI L).toNatClampNeg = L := nI_clamp (by omega)
  have n1 : ¬ ((0 : Int32) < 0 ∨ (0 : Int32) < 0 ∨ nI L < 0 ∨ 6 < 0 + L ∨ 6 < 0 + L) := by
    have := nI_pos (n := L) (by omega)
    rintro (h | h | h | h | h)
    · exact absurd h (by decide)
    · exact absurd h (by decide)
    · exact this h
    · omega
    · omega
  rw [dX8_take, bX8_take_0, e2, wkS_g3, wkS_g0, wkS_g1, cl, cl0]
  simp only [if_neg n1]
  rw [wkS_1]
  have hcp : ∀ j, j < L → va_cpy A C 0 0 L j = A j := fun j hj => by
    rw [pk_cpy_in (Nat.zero_le _) (by omega)]
    simp
  by_cases h0 : c = 0
  · rw [if_pos h0]
    exact ⟨_, _, rfl, Or.inl ⟨Or.inl h0, rfl, hcp⟩⟩
  · rw [if_neg h0]
    by_cases h1 : cost < l
    · rw [if_pos h1]
      exact ⟨_, _, rfl, Or.inl ⟨Or.inr h1, rfl, hcp⟩⟩
    · rw [if_neg h1]
      exact ⟨_, _, rfl, Or.inr ⟨fun z => z.elim h0 h1, rfl, rfl⟩⟩
/-- how long a walk is -/
def wyP (P f : Nat → Nat) : Nat → Nat → Nat → Int32 → Int32
  | 0, _, _, a => a
  | m + 1, j, at1, a => wyP P f m (j + 1) (f j) (a + apt (nI (P at1)) (nI (P (f j))))
theorem wc_in {G : Nat} (hn6 : n ≤ 6) (hL : L ≤ 6) (h2 : gI σ 8 0 2 = nI L) {P : Nat → Nat} (hP : ∀ j, j < n → P j ≤ 99 ∧ gA σ 2 G 8 j = nI (P j)) {f : Nat → Nat} (hf : ∀ j, j < L → gA σ 8 0 0 j = nI (f j) ∧ f j < n) (x2 x3 : Int32) : ∀ (m j at1 : Nat) (a : Int32), j + m = L → at1 < n → ∃ y5,
    run kX8_seekWalk 16 [some (vR 8 0 0), some (vR 2 G 0), some (vI x2), some (vI x3), some (vI a), some (vI (nI at1)), some (vI (nI j))] [] σ = (bnd (den 86 [vR 8 0 0, vI x3, vI (wyP P f m j at1 a)] σ) fun v τ => run kX8_seekWalk 41 [some (vR 8 0 0), some (vR 2 G 0), some (vI x2), some (vI x3), some (vI (wyP P f m j at1 a)), y5, some (vI (nI L))] (v.toList ++ []) τ)
  | 0, j, at1, a, hm, ha => by
    have hj : j = L := by omega
    subst hj
    have hlt : ¬ nI j < nI j := nI_nlt (by omega) (by omega)
    exact ⟨_, by rw [bX8_seekWalk_16, h2, if_neg hlt]; rfl⟩
  | m + 1, j, at1, a, hm, ha => by
    have hlt : nI j < nI L := nI_lt (by omega) (by omega)
    have a1 := ob (i := j) (N := 6) (by omega) (by decide)
    have c1 : (nI j).toNatClampNeg = j := nI_clamp (by omega)
    obtain ⟨f1, f2⟩ := hf j (by omega)
    obtain ⟨p1, p2⟩ := hP at1 ha
    obtain ⟨q1, q2⟩ := hP (f j) f2
    rw [bX8_seekWalk_16, h2, if_pos hlt]
    simp only [c1, a1, ↓reduceIte, f1]
    rw [e_far σ G (show at1 < 6 by omega) (show f j < 6 by omega) p1 q1 p2 q2, bnd_s, tl_s, bX8_seekWalk_28]
    simp only [c1, a1, ↓reduceIte, f1, nI_S]
    exact wc_in hn6 hL h2 hP hf x2 x3 m (j + 1) (f j) _ (by omega) f2
theorem wm_in (hn6 : n ≤ 6) (hL : L ≤ 6) {P : Nat → Nat} (hP : ∀ j, j < n → P j ≤ 99 ∧ gA τ 12 0 24 j = nI (P j)) {f : Nat → Nat} (hf : ∀ j, j < L → gA τ 12 0 66 j = nI (f j) ∧ f j < n) (x2 x4 x5 x6 x7 : Int32) (y1 : Option AV) : ∀ (m j at1 : Nat) (a : Int32), j + m = L → at1 < n → ∃ y9,
    run kX12_walk 58 [some (vR 12 0 0), y1, some (vI x2), some (vI (nI L)), some (vI x4), some (vI x5), some (vI x6), some (vI x7), some (vI a), some (vI (nI (P at1))), some (vI (nI j))] [] τ =
    (if x5 < 0 then run kX12_walk 38 [some (vR 12 0 0), y1, some (vI x2), some (vI (nI L)), some (vI x4), some (vI x7), some (vI (wyP P f m j at1 a)), some (vI (x7 + 1)), some (vI (wyP P f m j at1 a)), y9, some (vI (nI L))] [] τ else if wyP P f m j at1 a < x6 then run kX12_walk 38 [some (vR 12 0 0), y1, some (vI x2), some (vI (nI L)), some (vI x4), some (vI x7), some (vI (wyP P f m j at1 a)), some (vI (x7 + 1)), some (vI (wyP P f m j at1 a)), y9, some (vI (nI L))] [] τ else run kX12_walk 38 [some (vR 12 0 0), y1, some (vI x2), some (vI (nI L)), some (vI x4), some (vI x5), some (vI x6), some (vI (x7 + 1)), some (vI (wyP P f m j at1 a)), y9, some (vI (nI L))] [] τ)
  | 0, j, at1, a, hm, ha => by
    have hj : j = L := by omega
    subst hj
    have hlt : ¬ nI j < nI j := nI_nlt (by omega) (by omega)
    exact ⟨_, by rw [bX12_walk_58, if_neg hlt]; rfl⟩
  | m + 1, j, at1, a, hm, ha => by
    have hlt : nI j < nI L := nI_lt (by omega) (by omega)
    have a1 := ob (i := j) (N := 6) (by omega) (by decide)
    have c1 : (nI j).toNatClampNeg = j := nI_clamp (by omega)
    obtain ⟨f1, f2⟩ := hf j (by omega)
    have a2 := ob (i := f j) (N := 12) (by omega) (by decide)
    have c2 : (nI (f j)).toNatClampNeg = f j := nI_clamp (by omega)
    obtain ⟨p1, p2⟩ := hP at1 ha
    obtain ⟨q1, q2⟩ := hP (f j) f2
    rw [bX12_walk_58, if_pos hlt]
    simp only [c1, a1, ↓reduceIte, f1, c2, a2, q2]
    rw [m_apart, bnd_s, tl_s, bX12_walk_71]
    simp only [c1, a1, ↓reduceIte, f1, c2, a2, q2, nI_S]
    exact wm_in hn6 hL hP hf x2 x4 x5 x6 x7 y1 m (j + 1) (f j) _ (by omega) f2
/-- what the tables say of a row -/
theorem ch_st {out c : Nat} (h : chR L n out = true) (hc : c < facN L) : okRow L out c = true ∧ (∀ j, j < L → rwP L out c j < n ∧ out / 2 ^ rwP L out c j % 2 = 0 ∧ ∀ k, k < L → k ≠ j → rwP L out c k ≠ rwP L out c j) ∧
    (c + 1 < facN L → (adF L (rwP L out c)).1 = true ∧ ∀ j, j < L → (adF L (rwP L out c)).2 j = rwP L out (c + 1) j) ∧ (¬ c + 1 < facN L → (adF L (rwP L out c)).1 = false) := by
  have h1 := alB_i h c hc
  simp only [stR, vlR, Bool.and_eq_true] at h1
  obtain ⟨⟨k1, k2⟩, k3⟩ := h1
  refine ⟨k1, fun j hj => ?_, fun hc2 => ?_, fun hc2 => ?_⟩
  · have := alB_i k3 j hj
    simp only [Bool.and_eq_true, decide_eq_true_eq] at this
    refine ⟨this.1, this.2.1, fun k hk hne => ?_⟩
    have h3 := alB_i this.2.2 k hk
    simp only [Bool.or_eq_true, decide_eq_true_eq] at h3
    rcases h3 with h3 | h3
    · exact absurd h3 hne
    · exact h3
  · rw [if_pos hc2] at k2
    simp only [Bool.and_eq_true] at k2
    refine ⟨k2.1, fun j hj => ?_⟩
    have h3 := alB_i k2.2 j hj
    exact of_decide_eq_true h3
  · rw [if_neg hc2] at k2
    simp only [Bool.not_eq_true'] at k2
    exact k2
theorem wk_main {G : Nat} (hn6 : n ≤ 6) (hL : L ≤ 6) {out : Nat} (ho : out < 64) (hch : chR L n out = true) (h2 : gI σ 8 0 2 = nI L) {P : Nat → Nat} (hP : ∀ j, j < n → P j ≤ 99 ∧ gA σ 2 G 8 j = nI (P j)) (hP2 : ∀ j, j < n → P j ≤ 99 ∧ gA τ 12 0 24 j = nI (P j)) {a : Nat} (ha : a < n) (hout : (1 : Int32) <<< (nI a &&& 31) = nI out) (x2 : Int32) : ∀ (m c : Nat), c + m + 1 = facN L → ∀ (A C R : Nat → Int32) (l bst lst : Int32) (y4 y5 y6 y1 y8 y9 y10 : Option AV), (∀ j, j < L → A j = nI (rwP L out c j)) → ((c = 0 ∧ bst = -1) ∨ (0 < c ∧ lst = l ∧ ∃ b, b < facN L ∧ bst = nI b ∧ ∀ j, j < L → C j = nI (rwP L out b j))) → ∃ A' C' R' l' b z8 z9 z10, b < facN L ∧ (∀ j, j < L → C' j = nI (rwP L out b j)) ∧
    run kX8_seekWalk 7 [some (vR 8 0 0), some (vR 2 G 0), some (vI (nI a)), some (vI (nI c)), y4, y5, y6] [] (wkS σ A C l) = some (none, wkS σ A' C' l') ∧
    run kX12_walk 38 [some (vR 12 0 0), y1, some (vI x2), some (vI (nI L)), some (vI (nI a)), some (vI bst), some (vI lst), some (vI (nI c)), y8, y9, y10] [] (sA τ 12 0 66 R) = run kX12_walk 38 [some (vR 12 0 0), y1, some (vI x2), some (vI (nI L)), some (vI (nI a)), some (vI (nI b)), some (vI l'), some (vI (nI (facN L))), z8, z9, z10] [] (sA τ 12 0 66 R')
  | m, c, hm, A, C, R, l, bst, lst, y4, y5, y6, y1, y8, y9, y10, hA, hb => by
    have hc : c < facN L := by omega
    obtain ⟨f0, f7⟩ := facN_p L (by omega)
    obtain ⟨s1, s2, s3, s4⟩ := ch_st hch hc
    have hcl : nI c < (720 : Int32) := nI_lt (b := 720) (by omega) (by decide)
    have hcf : nI c < nI (facN L) := nI_lt hc (by omega)
    have a1 := ob (i := a) (N := 12) (by omega) (by decide)
    have c1 : (nI a).toNatClampNeg = a := nI_clamp (by omega)
    -- the class: the way of this row
    have e2 : gI (wkS σ A C l) 8 0 2 = nI L := h2
    obtain ⟨w5, g1⟩ := wc_in (σ := wkS σ A C l) (G := G) hn6 hL e2 (P := P) hP (f := rwP L out c) (fun j hj => ⟨hA j hj, (s2 j hj).1⟩) (nI a) (nI c) L 0 a 0 (by omega) ha
    rw [nI_0] at g1
    obtain ⟨C1, l1, g2, g3⟩ := e_rtake hL h2 A C l (nI c) (wyP P (rwP L out c) L 0 a 0)
    have hA2 : rwA L (gA (wkS σ A C1 l1) 8 0 0) (rwP L out c) := fun j hj => ⟨hA j hj, by have := (s2 j hj).1; omega⟩
    obtain ⟨A3, g4, g5⟩ := e_advance (σ := wkS σ A C1 l1) hL h2 hA2
    rw [wkS_0] at g4
    -- the reference: the same row
    obtain ⟨F, r1, r2⟩ := m_layRow (τ := sA τ 12 0 66 R) hL ho (c := c) (by omega) s1
    rw [sAA] at r1
    have hF : gA (sA τ 12 0 66 F) 12 0 66 = F := gA_s
    obtain ⟨z9, r3⟩ := wm_in (τ := sA τ 12 0 66 F) hn6 hL (P := P) hP2 (f := rwP L out c) (fun j hj => ⟨(congrFun hF j).trans (r2 j hj), (s2 j hj).1⟩) x2 (nI a) bst lst (nI c) y1 L 0 a 0 (by omega) ha
    rw [nI_0] at r3
    have p24 : gA (sA τ 12 0 66 F) 12 0 24 a = nI (P a) := (hP2 a ha).2
    -- what is best behind this row, on both sides
    obtain ⟨b2, hb2, hC1, z8', z9', z10', hr⟩ : ∃ b2, b2 < facN L ∧ (∀ j, j < L → C1 j = nI (rwP L out b2 j)) ∧ ∃ z8' z9' z10', run kX12_walk 38 [some (vR 12 0 0), y1, some (vI x2), some (vI (nI L)), some (vI (nI a)), some (vI bst), some (vI lst), some (vI (nI c)), y8, y9, y10] [] (sA τ 12 0 66 R) = run kX12_walk 38 [some (vR 12 0 0), y1, some (vI x2), some (vI (nI L)), some (vI (nI a)), some (vI (nI b2)), some (vI l1), some (vI (nI (c + 1))), z8', z9', z10'] [] (sA τ 12 0 66 F) := by
      have base : run kX12_walk 38 [some (vR 12 0 0), y1, some (vI x2), some (vI (nI L)), some (vI (nI a)), some (vI bst), some (vI lst), some (vI (nI c)), y8, y9, y10] [] (sA τ 12 0 66 R) = run kX12_walk 58 [some (vR 12 0 0), y1, some (vI x2), some (vI (nI L)), some (vI (nI a)), some (vI bst), some (vI lst), some (vI (nI c)), some (vI 0), some (vI (nI (P a))), some (vI 0)] [] (sA τ 12 0 66 F) := by
        rw [bX12_walk_38, m_rowsOf _ L (by omega), bnd_s, tl_s, bX12_walk_41, if_pos hcf, hout, r1, bnd_s, tl_n, bX12_walk_49]
        simp only [c1, a1, ↓reduceIte, p24]
      rw [base, r3, nI_S]
      rcases hb with ⟨h0, h1⟩ | ⟨h0, h1, b, b1, b3, b4⟩
      · have t1 : (nI c = 0 ∨ wyP P (rwP L out c) L 0 a 0 < l) := Or.inl (by rw [h0]; rfl)
        rcases g3 with ⟨_, k2, k3⟩ | ⟨k1, _, _⟩
        · rw [if_pos (show bst < 0 by rw [h1]; decide), k2]
          exact ⟨c, hc, fun j hj => (k3 j hj).trans (hA j hj), _, _, _, rfl⟩
        · exact absurd t1 k1
      · have nb : ¬ bst < 0 := by rw [b3]; exact nI_pos (by omega)
        have nc : ¬ nI c = 0 := nI_ne0 h0 (by omega)
        rw [if_neg nb, h1]
        rcases g3 with ⟨k1, k2, k3⟩ | ⟨k1, k2, k3⟩
        · rw [if_pos (k1.resolve_left nc), k2]
          exact ⟨c, hc, fun j hj => (k3 j hj).trans (hA j hj), _, _, _, rfl⟩
        · rw [if_neg (fun z => k1 (Or.inr z)), k2, b3, k3]
          exact ⟨b, b1, b4, _, _, _, rfl⟩
    have cls : run kX8_seekWalk 7 [some (vR 8 0 0), some (vR 2 G 0), some (vI (nI a)), some (vI (nI c)), y4, y5, y6] [] (wkS σ A C l) = (if bI (adF L (rwP L out c)).1 = 0 then some (none, wkS σ A3 C1 l1) else run kX8_seekWalk 7 [some (vR 8 0 0), some (vR 2 G 0), some (vI (nI a)), some (vI (nI (c + 1))), some (vI (wyP P (rwP L out c) L 0 a 0)), w5, some (vI (nI L))] [] (wkS σ A3 C1 l1)) := by
      rw [bX8_seekWalk_7, if_pos hcl, g1, g2, bnd_s, tl_n, bX8_seekWalk_41, g4, bnd_s, tl_s, bX8_seekWalk_43, nI_S]
    rw [cls, hr]
    match m, hm with
    | 0, hm =>
      rw [bI_f (s4 (by omega)), if_pos rfl, show facN L = c + 1 by omega]
      exact ⟨A3, C1, F, l1, b2, z8', z9', z10', by omega, hC1, rfl, rfl⟩
    | m + 1, hm =>
      obtain ⟨u1, u2⟩ := s3 (by omega)
      rw [bI_t u1, if_neg i10]
      exact wk_main hn6 hL ho hch h2 hP hP2 ha hout x2 m (c + 1) (by omega) A3 C1 F l1 (nI b2) l1 _ _ _ _ _ _ _ (fun j hj => by rw [(g5 j hj).1, u2 j hj]) (Or.inr ⟨by omega, rfl, b2, hb2, rfl, hC1⟩)
  termination_by m => m
/-- the first row -/
theorem row0W : ∀ n, n < 7 → ∀ f, f < n → ∀ j, j < n - 1 → rwP (n - 1) (2 ^ f) 0 j = elN f j := by decide +kernel
/-- Rows.at -/
theorem e_at (hL : L ≤ 6) (h2 : gI σ 8 0 2 = nI L) (k : Nat) (hk : k < 2 ^ 31) : den 82 [vR 8 0 0, vI (nI k)] σ = some (some (vI (if k < L then gA σ 8 0 1 k else -2)), σ) := by
  have c1 : (nI k).toNatClampNeg = k := nI_clamp hk
  rw [dX8_at, bX8_at_0, if_neg (nI_pos hk), h2]
  by_cases h : k < L
  · have a1 := ob (i := k) (N := 6) (by omega) (by decide)
    rw [if_pos (nI_lt h (by omega)), if_pos h]
    simp only [c1, a1, ↓reduceIte]
  · rw [if_neg (nI_nlt (by omega) hk), if_neg h]
theorem q_walk {G r : Nat} (hQ : RQ G n r σ τ) (x y : Int32) : ans σ τ (den 127 [vR 11 0 0, vI x, vI y] σ) (den 250 [vR 12 0 0, vI x, vI y] τ) := by
  have hr2 := hQ.1.1.r2
  have hn6 := hQ.1.1.n6
  have hQ1 := RQ_sc hQ scC_0 (scM_th τ)
  have hmr : gI (th0 τ) 12 0 13 = nI r := hQ.1.1.mr
  have hm : gI (th0 τ) 12 0 12 = nI n := hQ.1.1.mn
  rw [dX11_walk, bX11_walk_0, e_isRibbon, hQ.1.1.cr, bnd_s, tl_s, bX11_walk_3, dX12_walk, bX12_walk_0, m_isRibbon, hmr, bnd_s, tl_s, bX12_walk_6]
  rcases isb_nI (g := x) (n := r) (by omega) with h | ⟨p, hp, rfl, h⟩
  · rw [h, if_pos rfl, if_pos rfl]
    exact ⟨-1, _, _, rfl, rfl, scC_0, scM_th τ⟩
  rw [h, if_neg i10, if_neg i10, e_isWithin, m_isIn, bnd_s, bnd_s, tl_s, bX11_walk_8, bX12_walk_11]
  rcases inb_l (x := y) (a' := 0) (M' := 5) 0 5 rfl rfl (by decide) (by decide) with h | ⟨k, _, hk, rfl, h⟩
  · rw [h, if_pos rfl, if_pos rfl]
    exact ⟨-1, _, _, rfl, rfl, scC_0, scM_th τ⟩
  obtain ⟨ho, a, ha, ho'⟩ := hQ1.2.1.1.2.2.2.1 p hp
  simp only [Nat.mul_zero, Nat.zero_add] at ho
  obtain ⟨P, hP⟩ := placeN hQ1.1.1
  have a1 := ob (i := p) (N := 2) (by omega) (by decide)
  have a2 := ob (i := p) (N := 4) (by omega) (by decide)
  have c1 : (nI p).toNatClampNeg = p := nI_clamp (by omega)
  have em : nI n - 1 = nI (n - 1) := pk_sub (a := n) (b := 1) (by omega)
  have hl : lnN a n = n - 1 := by
    unfold lnN
    rw [if_neg (by omega)]
  -- the class's side
  obtain ⟨A0, b1, b2⟩ := e_rbegin (σ := σ) hn6 (w := a) (w' := nI a) (fun i hi => nI_eq (by omega) (by omega))
  rw [hl] at b1 b2
  have hch := tbW n (by omega) a ha
  have hout := sh2 a (by omega)
  have ho64 : 2 ^ a < 64 := Nat.lt_of_lt_of_le (Nat.pow_lt_pow_right (by decide) ha) (p2_64 hn6)
  obtain ⟨f0, f7⟩ := facN_p (n - 1) (by omega)
  have hw0 : sI (sA σ 8 0 0 A0) 8 0 2 (nI (n - 1)) = wkS (sI σ 8 0 2 (nI (n - 1))) A0 (gA σ 8 0 1) (gI σ 8 0 3) := by
    have e1 : sA (sI (sA σ 8 0 0 A0) 8 0 2 (nI (n - 1))) 8 0 1 (gA (sI (sA σ 8 0 0 A0) 8 0 2 (nI (n - 1))) 8 0 1) = _ := sA_id
    have e3 : sI (sI (sA σ 8 0 0 A0) 8 0 2 (nI (n - 1))) 8 0 3 (gI (sI (sA σ 8 0 0 A0) 8 0 2 (nI (n - 1))) 8 0 3) = _ := sI_id
    show _ = sI (sA (sI (sA σ 8 0 0 A0) 8 0 2 (nI (n - 1))) 8 0 1 (gA (sI (sA σ 8 0 0 A0) 8 0 2 (nI (n - 1))) 8 0 1)) 8 0 3 (gI (sI (sA σ 8 0 0 A0) 8 0 2 (nI (n - 1))) 8 0 3)
    rw [e1, e3]
  have fin : ∀ (y1 : Option AV), ∃ A' C' R' l' b z8 z9 z10, b < facN (n - 1) ∧ (∀ j, j < n - 1 → C' j = nI (rwP (n - 1) (2 ^ a) b j)) ∧
      den 83 [vR 8 0 0, vR 2 G 0, vI (nI a)] σ = some (none, wkS (sI σ 8 0 2 (nI (n - 1))) A' C' l') ∧
      run kX12_walk 38 [some (vR 12 0 0), y1, some (vI (nI k)), some (vI (nI (n - 1))), some (vI (nI a)), some (vI (-1)), some (vI 0), some (vI 0), none, none, none] [] (th0 τ) = run kX12_walk 38 [some (vR 12 0 0), y1, some (vI (nI k)), some (vI (nI (n - 1))), some (vI (nI a)), some (vI (nI b)), some (vI l'), some (vI (nI (facN (n - 1)))), z8, z9, z10] [] (sA (th0 τ) 12 0 66 R') := by
    intro y1
    have hh2 : gI (sI σ 8 0 2 (nI (n - 1))) 8 0 2 = nI (n - 1) := gI_s
    obtain ⟨A', C', R', l', b, z8, z9, z10, k1, k2, k3, k4⟩ := wk_main (σ := sI σ 8 0 2 (nI (n - 1))) (τ := th0 τ) (G := G) hn6 (show n - 1 ≤ 6 by omega) ho64 hch hh2 (P := P) (fun j hj => ⟨(hP j hj).1, (hP j hj).2.1⟩) (fun j hj => ⟨(hP j hj).1, (hP j hj).2.2⟩) ha hout (nI k) (facN (n - 1) - 1) 0 (by omega) A0 (gA σ 8 0 1) (gA (th0 τ) 12 0 66) (gI σ 8 0 3) (-1) 0 none none none y1 none none none (fun j hj => by rw [b2 j hj, row0W n (by omega) a ha j hj]) (Or.inl ⟨rfl, rfl⟩)
    rw [nI_0] at k3 k4
    rw [sA_id] at k4
    have hn : gI σ 2 G 0 = nI n := hQ.1.1.2.2.1.1
    exact ⟨A', C', R', l', b, z8, z9, z10, k1, k2, by rw [dX8_seekWalk, bX8_seekWalk_0, hn, b1, bnd_s, tl_n, bX8_seekWalk_5, hw0, k3], k4⟩
  obtain ⟨A', C', R', l', b, z8, z9, z10, k1, k2, k3, k4⟩ := fin (some (vI (nI p)))
  have hcn : scC σ (wkS (sI σ 8 0 2 (nI (n - 1))) A' C' l') := scC_t (scC_I (Or.inr (Or.inr (Or.inl rfl))) _) scC_wkS
  have hh2 : gI (wkS (sI σ 8 0 2 (nI (n - 1))) A' C' l') 8 0 2 = nI (n - 1) := rfl
  -- the reference's end
  obtain ⟨F, r1, r2⟩ := m_layRow (τ := sA (th0 τ) 12 0 66 R') (L := n - 1) (by omega) ho64 (c := b) (by omega) (ch_st hch k1).1
  rw [sAA] at r1
  have hF : gA (sA (th0 τ) 12 0 66 F) 12 0 66 = F := gA_s
  have hmn : scM τ (sA (th0 τ) 12 0 66 F) := scM_t (scM_th τ) (scM_A (Or.inr (Or.inl rfl)) _)
  have e66 : run kX12_walk 38 [some (vR 12 0 0), some (vI (nI p)), some (vI (nI k)), some (vI (nI (n - 1))), some (vI (nI a)), some (vI (nI b)), some (vI l'), some (vI (nI (facN (n - 1)))), z8, z9, z10] [] (sA (th0 τ) 12 0 66 R') = (if nI k = 5 then some (some (vI l'), sA (th0 τ) 12 0 66 F) else if nI k < 0 ∨ 6 ≤ (nI k).toNatClampNeg then none else some (some (vI (F (nI k).toNatClampNeg)), sA (th0 τ) 12 0 66 F)) := by
    have nl : ¬ nI (facN (n - 1)) < nI (facN (n - 1)) := nI_nlt (by omega) (by omega)
    rw [bX12_walk_38, m_rowsOf _ (n - 1) (by omega), bnd_s, tl_s, bX12_walk_41, if_neg nl, hout, r1, bnd_s, tl_n, bX12_walk_102, hF]
  have hcls : ∀ z0 : Option AV, (bnd (den 83 [vR 8 0 0, vR 2 (gR σ 11 0 2) 0, vI (nI a)] σ) fun v τ => run kX11_walk 22 [some (vR 11 0 0), some (vI (nI p)), some (vI (nI k))] (v.toList ++ []) τ) = some (some (vI (if nI k = 5 then l' else if k < n - 1 then C' k else -2)), wkS (sI σ 8 0 2 (nI (n - 1))) A' C' l') := by
    intro _
    rw [hQ.1.1.g, k3, bnd_s, tl_n, bX11_walk_22]
    by_cases h5 : nI k = 5
    · rw [if_pos h5, if_pos h5, bX11_walk_33]
      rfl
    · rw [if_neg h5, if_neg h5, e_at (by omega) hh2 k (by omega), bnd_s, tl_s, bX11_walk_33]
      rfl
  rw [h, if_neg i10, if_neg i10]
  have e47 : gA (th0 τ) 12 0 47 p = nI a := ho.symm.trans ho'
  simp only [c1, a1, a2, ↓reduceIte, hm, em, e47]
  have e5 : gA σ 5 0 5 p = nI a := ho'
  rw [e5, hcls none]
  have a6 := fun (hk6 : k < 6) => ob (i := k) (N := 6) hk6 (by decide)
  have ck : (nI k).toNatClampNeg = k := nI_clamp (by omega)
  by_cases h5 : k = 5
  · subst h5
    rw [if_pos (show nI 5 = 5 from rfl), if_neg (show ¬ nI 5 < 5 by decide), k4, e66, if_pos (show nI 5 = 5 from rfl)]
    exact ⟨l', _, _, rfl, rfl, hcn, hmn⟩
  · have n5 : ¬ nI k = 5 := fun z => h5 ((nI_eq (a := k) (b := 5) (by omega) (by decide)).mp z)
    rw [if_neg n5, if_pos (show nI k < 5 from nI_lt (b := 5) (by omega) (by decide))]
    by_cases hkn : k < n - 1
    · rw [if_pos hkn, if_pos (nI_lt hkn (by omega)), k4, e66, if_neg n5]
      simp only [ck, a6 (by omega), ↓reduceIte]
      rw [r2 k hkn, k2 k hkn]
      exact ⟨_, _, _, rfl, rfl, hcn, hmn⟩
    · rw [if_neg hkn, if_neg (nI_nlt (by omega) (by omega))]
      exact ⟨-2, _, _, rfl, rfl, hcn, scM_th τ⟩
end WLK
