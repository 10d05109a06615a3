/-! ORDER: the two together -/
def vcN (C F s st : Nat → Int32) (n i : Nat) : Nat := if ¬ C i = 0 ∧ F (5 * i) = 0 ∧ anB (stB s st (F (5 * i + 1)).toNatClampNeg (F (5 * i + 2)).toNatClampNeg) n 0 = true then 1 else 0
theorem clash_eq {k e n r : Nat} {k0 k1 k2 k3 k4 F A C s s' st : Nat → Int32} {row : Nat → Nat} (he : e ≤ k) (hk : k ≤ 24) (hn6 : n ≤ 6) (hE : ∀ i, i < k → EN n r k0 k1 k2 k3 k4 F i) (hR : knR e A C) (hS : ∀ a, a < n → ∃ X, X < 64 ∧ s a = nI X ∧ s' a = nI X)
    (hrow : ∀ j, j < n → row j < n) (hinj : ∀ i j, i < n → j < n → row i = row j → i = j) (hsur : ∀ g, g < n → ∃ j, j < n ∧ row j = g) (hst : ∀ q, q < n → st (row q) = nI q) :
    smN (fun j => smN (hcN k0 k1 k2 A s (nI (row j)) (nI (ahN row j))) k) n = smN (vcN C F s' st n) e := by
  have e1 : smN (fun j => smN (hcN k0 k1 k2 A s (nI (row j)) (nI (ahN row j))) k) n = smN (fun i => smN (fun j => hcN k0 k1 k2 A s (nI (row j)) (nI (ahN row j)) i) n) k := smN_x (w := fun i j => hcN k0 k1 k2 A s (nI (row j)) (nI (ahN row j)) i) n
  rw [e1]
  have e2 : smN (fun i => smN (fun j => hcN k0 k1 k2 A s (nI (row j)) (nI (ahN row j)) i) n) k = smN (fun i => smN (fun j => hcN k0 k1 k2 A s (nI (row j)) (nI (ahN row j)) i) n) e := by
    have := smN_n (f := fun i => smN (fun j => hcN k0 k1 k2 A s (nI (row j)) (nI (ahN row j)) i) n) (e := e) (k - e) (fun i h1 h2 => smN_0 n (fun j _ => if_neg (fun z => z.1 (hR.2 i h1 (by omega)))))
    rw [show e + (k - e) = k by omega] at this
    exact this
  rw [e2]
  refine smN_c e (fun i hi => ?_)
  obtain ⟨r1, _⟩ := hR.1 i hi
  by_cases hA : A i = 0
  · have hC : C i = 0 := r1.symm.trans hA
    have hv : vcN C F s' st n i = 0 := if_neg (fun z => z.1 hC)
    rw [hv]
    exact smN_0 n (fun j _ => if_neg (fun z => z.1 hA))
  have hC : ¬ C i = 0 := fun z => hA (r1.trans z)
  rcases hE i (by omega) with ⟨p0, p1, a, b, ha, hb, p2, p3, p4, p5⟩ | ⟨p0, p1, _⟩ | ⟨p0, p1, _⟩
  · obtain ⟨j0, hj0, ej⟩ := hsur b hb
    obtain ⟨X, hX, x1, x2⟩ := hS a ha
    have ca : (nI a).toNatClampNeg = a := nI_clamp (by omega)
    have cb : (nI b).toNatClampNeg = b := nI_clamp (by omega)
    have hz : smN (fun j => hcN k0 k1 k2 A s (nI (row j)) (nI (ahN row j)) i) n = hcN k0 k1 k2 A s (nI (row j0)) (nI (ahN row j0)) i := smN_1 n hj0 (fun j hj hne => if_neg (fun z => by
      have h1 : nI b = nI (row j) := p4.symm.trans z.2.2.1
      have h2 : b = row j := (nI_eq (by omega) (by have := hrow j hj; omega)).mp h1
      exact hne (hinj j j0 hj hj0 (h2.symm.trans ej.symm))))
    rw [hz]
    obtain ⟨w1, w2⟩ := ahN_64 (n := n) (row := row) (fun j hj => by have := hrow j hj; omega) j0 (by omega)
    have key : (¬ s a &&& nI (ahN row j0) = 0) ↔ anB (stB s' st a b) n 0 = true := by
      rw [x1, and_t hX w1, anB_i (N := n) n 0 (by omega)]
      constructor
      · rintro ⟨g, hg, h1, h2⟩
        obtain ⟨q, hq, eq⟩ := (w2 g hg).mp h2
        refine ⟨g, Nat.zero_le _, by rw [← eq]; exact hrow q (by omega), ?_⟩
        unfold stB
        rw [decide_eq_true (p := ¬ g = b) (fun z => by
          have := hinj q j0 (by omega) hj0 (eq.trans (z.trans ej.symm))
          omega), x2, decide_eq_true h1, decide_eq_true (p := st g < st b) (by
          rw [← eq, ← ej, hst q (by omega), hst j0 hj0]
          exact nI_lt hq (by omega))]
        rfl
      · rintro ⟨g, _, hg, h1⟩
        unfold stB at h1
        rw [Bool.and_eq_true, Bool.and_eq_true, decide_eq_true_eq, decide_eq_true_eq, decide_eq_true_eq] at h1
        obtain ⟨_, h2, h3⟩ := h1
        obtain ⟨q, hq, eq⟩ := hsur g hg
        rw [← eq, ← ej, hst q hq, hst j0 hj0] at h3
        rw [x2] at h2
        exact ⟨g, by omega, h2, (w2 g (by omega)).mpr ⟨q, (nI_ltI (by omega) (by omega)).mp h3, eq⟩⟩
    unfold hcN vcN
    rw [p3, p5, p2, ca, cb]
    by_cases h : anB (stB s' st a b) n 0 = true
    · rw [if_pos ⟨hA, p0, by rw [p4, ej], key.mpr h⟩, if_pos ⟨hC, p1, h⟩]
    · rw [if_neg (fun z => h (key.mp z.2.2.2)), if_neg (fun z => h z.2.2)]
  · have hv : vcN C F s' st n i = 0 := if_neg (fun z => by have := z.2.1; rw [p1] at this; exact absurd this (by decide))
    rw [hv]
    exact smN_0 n (fun j _ => if_neg (fun z => by have := z.2.1; rw [p0] at this; exact absurd this (by decide)))
  · have hv : vcN C F s' st n i = 0 := if_neg (fun z => by have := z.2.1; rw [p1] at this; exact absurd this (by decide))
    rw [hv]
    exact smN_0 n (fun j _ => if_neg (fun z => by have := z.2.1; rw [p0] at this; exact absurd this (by decide)))
section ORD
variable {n r : Nat} {σ τ : ST}
theorem cs_1 (hn6 : n ≤ 6) (hn : gI τ 12 0 12 = nI n) {row : Nat → Nat} (hr : ∀ j, j < n → gA τ 12 0 66 j = nI (row j) ∧ row j < n) (hinj : ∀ i j, i < n → j < n → row i = row j → i = j) : ∀ (m j : Nat), j + m = n → ∀ (F : Nat → Int32) (y2 y3 y4 y5 y6 : Option AV), (∀ q, q < j → F (row q) = nI q) → ∃ F',
    run kX12_clashesOf 2 [some (vR 12 0 0), some (vI (nI j)), y2, y3, y4, y5, y6] [] (sA τ 12 0 71 F) = run kX12_clashesOf 20 [some (vR 12 0 0), some (vI 0), some (vI 0), y3, y4, y5, y6] [] (sA τ 12 0 71 F') ∧ ∀ q, q < n → F' (row q) = nI q
  | 0, j, hm, F, y2, y3, y4, y5, y6, hF => by
    have hj : j = n := by omega
    subst hj
    have hlt : ¬ nI j < nI j := nI_nlt (by omega) (by omega)
    have e1 : gI (sA τ 12 0 71 F) 12 0 12 = nI j := hn
    exact ⟨F, by rw [bX12_clashesOf_2, e1, if_neg hlt], hF⟩
  | m + 1, j, hm, F, y2, y3, y4, y5, y6, hF => by
    have hlt : nI j < nI n := nI_lt (by omega) (by omega)
    have e1 : gI (sA τ 12 0 71 F) 12 0 12 = nI n := hn
    have e2 : gA (sA τ 12 0 71 F) 12 0 66 = gA τ 12 0 66 := rfl
    have e3 : gA (sA τ 12 0 71 F) 12 0 71 = F := gA_s
    obtain ⟨r1, r2⟩ := hr j (by omega)
    have a1 := ob (i := j) (N := 6) (by omega) (by decide)
    have c1 : (nI j).toNatClampNeg = j := nI_clamp (by omega)
    have a2 := ob (i := row j) (N := 6) (by omega) (by decide)
    have c2 : (nI (row j)).toNatClampNeg = row j := nI_clamp (by omega)
    rw [bX12_clashesOf_2, e1, if_pos hlt, e2, e3]
    simp only [c1, a1, ↓reduceIte, r1, c2, a2, sAA, nI_S]
    refine cs_1 hn6 hn hr hinj m (j + 1) (by omega) (upd F (row j) (nI j)) _ _ _ _ _ (fun q hq => ?_)
    by_cases e : q = j
    · rw [e, pk_us]
    · rw [upd_o (fun z => e (hinj q j (by omega) (by omega) z))]
      exact hF q (by omega)
theorem cs_2 {k e : Nat} (hk : k ≤ 24) (he : e ≤ k) (hn6 : n ≤ 6) (hn : gI τ 12 0 12 = nI n) (hkb : den 272 [vR 12 0 0] τ = some (some (vI (nI e)), τ)) (hE : ∀ i, i < e → ¬ gA τ 12 0 70 i = 0 → gA τ 12 0 69 (5 * i) = 0 → ∃ a b, a < n ∧ b < n ∧ gA τ 12 0 69 (5 * i + 1) = nI a ∧ gA τ 12 0 69 (5 * i + 2) = nI b) : ∀ (m i : Nat), i + m = e → ∀ (y3 y4 y5 y6 : Option AV),
    run kX12_clashesOf 20 [some (vR 12 0 0), some (vI (nI (smN (vcN (gA τ 12 0 70) (gA τ 12 0 69) (gA τ 12 0 46) (gA τ 12 0 71) n) i))), some (vI (nI i)), y3, y4, y5, y6] [] τ = some (some (vI (nI (smN (vcN (gA τ 12 0 70) (gA τ 12 0 69) (gA τ 12 0 46) (gA τ 12 0 71) n) e))), τ)
  | 0, i, hm, y3, y4, y5, y6 => by
    have hi : i = e := by omega
    subst hi
    have hlt : ¬ nI i < nI i := nI_nlt (by omega) (by omega)
    rw [bX12_clashesOf_20, hkb, bnd_s, tl_s, bX12_clashesOf_23, if_neg hlt]
  | m + 1, i, hm, y3, y4, y5, y6 => by
    have hlt : nI i < nI e := nI_lt (by omega) (by omega)
    have a1 := ob (i := i) (N := 24) (by omega) (by decide)
    have c1 : (nI i).toNatClampNeg = i := nI_clamp (by omega)
    have b0 := ob (i := 5 * i) (N := 120) (by omega) (by decide)
    have b1 := ob (i := 5 * i + 1) (N := 120) (by omega) (by decide)
    have b2 := ob (i := 5 * i + 2) (N := 120) (by omega) (by decide)
    have d0 : (nI (5 * i)).toNatClampNeg = 5 * i := nI_clamp (by omega)
    have d1 : (nI (5 * i + 1)).toNatClampNeg = 5 * i + 1 := nI_clamp (by omega)
    have d2 : (nI (5 * i + 2)).toNatClampNeg = 5 * i + 2 := nI_clamp (by omega)
    have s1 : nI (5 * i) + 1 = nI (5 * i + 1) := i5a i 1
    have s2 : nI (5 * i) + 2 = nI (5 * i + 2) := i5a i 2
    have ih := fun y3 y4 y5 y6 => cs_2 hk he hn6 hn hkb hE m (i + 1) (by omega) y3 y4 y5 y6
    have hs : smN (vcN (gA τ 12 0 70) (gA τ 12 0 69) (gA τ 12 0 46) (gA τ 12 0 71) n) (i + 1) = smN (vcN (gA τ 12 0 70) (gA τ 12 0 69) (gA τ 12 0 46) (gA τ 12 0 71) n) i + vcN (gA τ 12 0 70) (gA τ 12 0 69) (gA τ 12 0 46) (gA τ 12 0 71) n i := rfl
    rw [hs] at ih
    rw [bX12_clashesOf_20, hkb, bnd_s, tl_s, bX12_clashesOf_23, if_pos hlt]
    simp only [i5, s1, s2, c1, a1, b0, b1, b2, d0, d1, d2, ↓reduceIte, nI_S]
    by_cases h0 : gA τ 12 0 70 i = 0
    · have hz : vcN (gA τ 12 0 70) (gA τ 12 0 69) (gA τ 12 0 46) (gA τ 12 0 71) n i = 0 := if_neg (fun z => z.1 h0)
      rw [hz, Nat.add_zero] at ih
      rw [if_pos h0]
      exact ih _ _ _ _
    · rw [if_neg h0]
      by_cases h1 : gA τ 12 0 69 (5 * i) = 0
      · obtain ⟨a, b, ha, hb, ea, eb⟩ := hE i (by omega) h0 h1
        obtain ⟨z, hc⟩ := cm_0 hn6 hn (nI (smN (vcN (gA τ 12 0 70) (gA τ 12 0 69) (gA τ 12 0 46) (gA τ 12 0 71) n) i)) (nI i) ha hb n 0 (by omega)
        rw [nI_0] at hc
        have ca : (nI a).toNatClampNeg = a := nI_clamp (by omega)
        have cb : (nI b).toNatClampNeg = b := nI_clamp (by omega)
        rw [if_pos h1, ea, eb, hc, nI_S]
        by_cases h2 : anB (stB (gA τ 12 0 46) (gA τ 12 0 71) a b) n 0 = true
        · have hz : vcN (gA τ 12 0 70) (gA τ 12 0 69) (gA τ 12 0 46) (gA τ 12 0 71) n i = 1 := if_pos ⟨h0, h1, by rw [ea, eb, ca, cb]; exact h2⟩
          rw [hz] at ih
          rw [bI_t h2, nI_S]
          exact ih _ _ _ _
        · have hz : vcN (gA τ 12 0 70) (gA τ 12 0 69) (gA τ 12 0 46) (gA τ 12 0 71) n i = 0 := if_neg (fun z => h2 (by have := z.2.2; rw [ea, eb, ca, cb] at this; exact this))
          rw [hz, Nat.add_zero] at ih
          rw [bI_f (Bool.eq_false_iff.mpr h2), i_a0]
          exact ih _ _ _ _
      · have hz : vcN (gA τ 12 0 70) (gA τ 12 0 69) (gA τ 12 0 46) (gA τ 12 0 71) n i = 0 := if_neg (fun z => h1 z.2.1)
        rw [hz, Nat.add_zero] at ih
        rw [if_neg h1]
        exact ih _ _ _ _
/-- the class's clashes of a row -/
theorem so_in {k : Nat} (hk : k ≤ 24) (hn6 : n ≤ 6) (h2 : gI σ 8 0 2 = nI n) (h6 : gI σ 10 0 6 = nI k) (hE : ∀ i, i < k → ¬ gA σ 10 0 5 i = 0 → gA σ 10 0 0 i = 0 → ∃ a, a < n ∧ gA σ 10 0 1 i = nI a) {row : Nat → Nat} (hr : ∀ j, j < n → gA σ 8 0 0 j = nI (row j) ∧ row j < n) (x4 : Int32) (y1 : Option AV) : ∀ (m j : Nat), j + m = n → ∃ y5 y6 y7,
    run kX8_seekOrder 15 [some (vR 8 0 0), y1, some (vR 10 0 0), some (vR 5 0 0), some (vI x4), some (vI (nI (smN (fun j => smN (hcN (gA σ 10 0 0) (gA σ 10 0 1) (gA σ 10 0 2) (gA σ 10 0 5) (gA σ 5 0 4) (nI (row j)) (nI (ahN row j))) k) j))), some (vI (nI (ahN row j))), some (vI (nI j))] [] σ =
    (bnd (den 86 [vR 8 0 0, vI x4, vI (nI (smN (fun j => smN (hcN (gA σ 10 0 0) (gA σ 10 0 1) (gA σ 10 0 2) (gA σ 10 0 5) (gA σ 5 0 4) (nI (row j)) (nI (ahN row j))) k) n))] σ) fun v τ => run kX8_seekOrder 45 [some (vR 8 0 0), y1, some (vR 10 0 0), some (vR 5 0 0), some (vI x4), y5, y6, y7] (v.toList ++ []) τ)
  | 0, j, hm => by
    have hj : j = n := by omega
    subst hj
    have hlt : ¬ nI j < nI j := nI_nlt (by omega) (by omega)
    exact ⟨_, _, _, by rw [bX8_seekOrder_15, h2, if_neg hlt]⟩
  | m + 1, j, hm => by
    have hlt : nI j < nI n := nI_lt (by omega) (by omega)
    have a1 := ob (i := j) (N := 6) (by omega) (by decide)
    have c1 : (nI j).toNatClampNeg = j := nI_clamp (by omega)
    obtain ⟨r1, r2⟩ := hr j (by omega)
    obtain ⟨w1, _⟩ := ahN_64 (n := n) (row := row) (fun j hj => by have := (hr j hj).2; omega) j (by omega)
    have ih := so_in hk hn6 h2 h6 hE hr x4 y1 m (j + 1) (by omega)
    rw [bX8_seekOrder_15, h2, if_pos hlt]
    simp only [c1, a1, ↓reduceIte, r1]
    rw [e_clashes hk hn6 h6 hE, bnd_s, tl_s, bX8_seekOrder_28]
    simp only [c1, a1, ↓reduceIte, r1, nI_S]
    rw [nI_add, (hs1 _ w1 _ (show row j < 6 by omega)).1]
    exact ih
/-- the reference's rows, behind what counts -/
def orS (τ : ST) (R F : Nat → Int32) : ST := sA (sA τ 12 0 66 R) 12 0 71 F
theorem orS_66 {R F R' : Nat → Int32} : sA (orS τ R F) 12 0 66 R' = orS τ R' F := by
  unfold orS
  rw [sA_c (k := 71) (k' := 66) (by decide), sAA]
theorem orS_71 {R F F' : Nat → Int32} : sA (orS τ R F) 12 0 71 F' = orS τ R F' := by
  unfold orS
  rw [sAA]
theorem or_main {k e : Nat} (hk : k ≤ 24) (he : e ≤ k) (hn6 : n ≤ 6) (h2 : gI σ 8 0 2 = nI n) (h6 : gI σ 10 0 6 = nI k) (hmn : gI τ 12 0 12 = nI n)
    (hkb : ∀ τ', gI τ' 12 0 67 = gI τ 12 0 67 → gI τ' 12 0 68 = gI τ 12 0 68 → den 272 [vR 12 0 0] τ' = some (some (vI (nI e)), τ'))
    (hE : ∀ i, i < k → EN n r (gA σ 10 0 0) (gA σ 10 0 1) (gA σ 10 0 2) (gA σ 10 0 3) (gA σ 10 0 4) (gA τ 12 0 69) i) (hR : knR e (gA σ 10 0 5) (gA τ 12 0 70)) (hS : ∀ a, a < n → ∃ X, X < 64 ∧ gA σ 5 0 4 a = nI X ∧ gA τ 12 0 46 a = nI X) (x1 : Int32) : ∀ (m c : Nat), c + m + 1 = facN n → ∀ (A C R F : Nat → Int32) (l bst lst : Int32) (y1 y5 y6 y7 z5 : Option AV), (∀ j, j < n → A j = nI (rwP n 0 c j)) → ((c = 0 ∧ bst = -1) ∨ (0 < c ∧ lst = l ∧ ∃ b, b < facN n ∧ bst = nI b ∧ ∀ j, j < n → C j = nI (rwP n 0 b j))) → ∃ A' C' R' F' l' b z5', b < facN n ∧ (∀ j, j < n → C' j = nI (rwP n 0 b j)) ∧
    run kX8_seekOrder 6 [some (vR 8 0 0), y1, some (vR 10 0 0), some (vR 5 0 0), some (vI (nI c)), y5, y6, y7] [] (wkS σ A C l) = some (none, wkS σ A' C' l') ∧
    run kX12_order 27 [some (vR 12 0 0), some (vI x1), some (vI bst), some (vI lst), some (vI (nI c)), z5] [] (orS τ R F) = run kX12_order 27 [some (vR 12 0 0), some (vI x1), some (vI (nI b)), some (vI l'), some (vI (nI (facN n))), z5'] [] (orS τ R' F')
  | m, c, hm, A, C, R, F, l, bst, lst, y1, y5, y6, y7, z5, hA, hb => by
    have hc : c < facN n := by omega
    obtain ⟨f0, f7⟩ := facN_p n (by omega)
    have hch := tbO n (by omega)
    obtain ⟨s1, s2, s3, s4⟩ := ch_st hch hc
    have hcl : nI c < (720 : Int32) := nI_lt (b := 720) (by omega) (by decide)
    have hcf : nI c < nI (facN n) := nI_lt hc (by omega)
    have hinj : ∀ i j, i < n → j < n → rwP n 0 c i = rwP n 0 c j → i = j := fun i j hi hj h => Classical.byContradiction (fun hne => (s2 j hj).2.2 i hi hne h)
    have hEc : ∀ i, i < k → ¬ gA σ 10 0 5 i = 0 → gA σ 10 0 0 i = 0 → ∃ a, a < n ∧ gA σ 10 0 1 i = nI a := fun i hi _ h0 => by
      rcases hE i hi with ⟨_, _, a, b, ha, _, p2, _⟩ | ⟨p0, _⟩ | ⟨p0, _⟩
      · exact ⟨a, ha, p2⟩
      · rw [p0] at h0; exact absurd h0 (by decide)
      · rw [p0] at h0; exact absurd h0 (by decide)
    have hEm : ∀ i, i < e → gA τ 12 0 69 (5 * i) = 0 → ∃ a b, a < n ∧ b < n ∧ gA τ 12 0 69 (5 * i + 1) = nI a ∧ gA τ 12 0 69 (5 * i + 2) = nI b := fun i hi h0 => by
      rcases hE i (by omega) with ⟨_, _, a, b, ha, hb', _, p3, _, p5⟩ | ⟨_, p1, _⟩ | ⟨_, p1, _⟩
      · exact ⟨a, b, ha, hb', p3, p5⟩
      · rw [p1] at h0; exact absurd h0 (by decide)
      · rw [p1] at h0; exact absurd h0 (by decide)
    -- the class: the clashes of this row
    have e2 : gI (wkS σ A C l) 8 0 2 = nI n := h2
    obtain ⟨w5, w6, w7, g1⟩ := so_in (σ := wkS σ A C l) hk hn6 e2 h6 hEc (row := rwP n 0 c) (fun j hj => ⟨hA j hj, (s2 j hj).1⟩) (nI c) y1 n 0 (by omega)
    have g1' : run kX8_seekOrder 15 [some (vR 8 0 0), y1, some (vR 10 0 0), some (vR 5 0 0), some (vI (nI c)), some (vI 0), some (vI 0), some (vI 0)] [] (wkS σ A C l) = _ := g1
    -- the reference: the same row
    obtain ⟨R1, r1, r2⟩ := m_layRow (τ := orS τ R F) hn6 (show (0 : Nat) < 64 by decide) (c := c) (by omega) s1
    rw [orS_66, nI_0] at r1
    have eR : gA (orS τ R1 F) 12 0 66 = R1 := rfl
    have mn1 : gI (orS τ R1 F) 12 0 12 = nI n := hmn
    have mn0 : gI (orS τ R F) 12 0 12 = nI n := hmn
    obtain ⟨F1, q1, q2⟩ := cs_1 (τ := orS τ R1 F) hn6 mn1 (row := rwP n 0 c) (fun j hj => ⟨r2 j hj, (s2 j hj).1⟩) hinj n 0 (by omega) F none none none none none (fun q hq => absurd hq (Nat.not_lt_zero _))
    have hFF : sA (orS τ R1 F) 12 0 71 F = orS τ R1 F := orS_71
    rw [orS_71, orS_71, nI_0] at q1
    have q3 := cs_2 (τ := orS τ R1 F1) hk he hn6 hmn (hkb _ rfl rfl) (fun i hi _ h0 => hEm i hi h0) e 0 (by omega) none none none none
    have ecl : smN (fun j => smN (hcN (gA σ 10 0 0) (gA σ 10 0 1) (gA σ 10 0 2) (gA σ 10 0 5) (gA σ 5 0 4) (nI (rwP n 0 c j)) (nI (ahN (rwP n 0 c) j))) k) n = smN (vcN (gA τ 12 0 70) (gA τ 12 0 69) (gA τ 12 0 46) F1 n) e :=
      clash_eq he hk hn6 hE hR hS (fun j hj => (s2 j hj).1) hinj (fun g hg => row_sj (by omega) hc hg) q2
    have q3' : run kX12_clashesOf 20 [some (vR 12 0 0), some (vI 0), some (vI 0), none, none, none, none] [] (orS τ R1 F1) = some (some (vI (nI (smN (vcN (gA τ 12 0 70) (gA τ 12 0 69) (gA τ 12 0 46) F1 n) e))), orS τ R1 F1) := q3
    have hcof : den 274 [vR 12 0 0] (orS τ R1 F) = some (some (vI (nI (smN (vcN (gA τ 12 0 70) (gA τ 12 0 69) (gA τ 12 0 46) F1 n) e))), orS τ R1 F1) := by
      rw [dX12_clashesOf, bX12_clashesOf_0, q1, q3']
    have g1'' : run kX8_seekOrder 15 [some (vR 8 0 0), y1, some (vR 10 0 0), some (vR 5 0 0), some (vI (nI c)), some (vI 0), some (vI 0), some (vI 0)] [] (wkS σ A C l) = (bnd (den 86 [vR 8 0 0, vI (nI c), vI (nI (smN (vcN (gA τ 12 0 70) (gA τ 12 0 69) (gA τ 12 0 46) F1 n) e))] (wkS σ A C l)) fun v τ => run kX8_seekOrder 45 [some (vR 8 0 0), y1, some (vR 10 0 0), some (vR 5 0 0), some (vI (nI c)), w5, w6, w7] (v.toList ++ []) τ) := by
      rw [← ecl]
      exact g1'
    generalize smN (vcN (gA τ 12 0 70) (gA τ 12 0 69) (gA τ 12 0 46) F1 n) e = V at hcof g1''
    obtain ⟨C1, l1, g2, g3⟩ := e_rtake hn6 h2 A C l (nI c) (nI V)
    have hA2 : rwA n (gA (wkS σ A C1 l1) 8 0 0) (rwP n 0 c) := fun j hj => ⟨hA j hj, by have := (s2 j hj).1; omega⟩
    obtain ⟨A3, g4, g5⟩ := e_advance (σ := wkS σ A C1 l1) hn6 h2 hA2
    rw [wkS_0] at g4
    obtain ⟨b2, hb2, hC1, z5', hr⟩ : ∃ b2, b2 < facN n ∧ (∀ j, j < n → C1 j = nI (rwP n 0 b2 j)) ∧ ∃ z5', run kX12_order 27 [some (vR 12 0 0), some (vI x1), some (vI bst), some (vI lst), some (vI (nI c)), z5] [] (orS τ R F) = run kX12_order 27 [some (vR 12 0 0), some (vI x1), some (vI (nI b2)), some (vI l1), some (vI (nI (c + 1))), z5'] [] (orS τ R1 F1) := by
      have base : run kX12_order 27 [some (vR 12 0 0), some (vI x1), some (vI bst), some (vI lst), some (vI (nI c)), z5] [] (orS τ R F) = run kX12_order 40 [some (vR 12 0 0), some (vI x1), some (vI bst), some (vI lst), some (vI (nI c)), z5] [vI (nI V)] (orS τ R1 F1) := by
        rw [bX12_order_27, mn0, m_rowsOf _ n (by omega), bnd_s, tl_s, bX12_order_31, if_pos hcf, mn0, r1, bnd_s, tl_n, bX12_order_38, hcof, bnd_s, tl_s]
      rw [base, bX12_order_40, nI_S]
      rcases hb with ⟨h0, h1⟩ | ⟨h0, h1, b, b1, b3, b4⟩
      · have t1 : (nI c = 0 ∨ nI V < l) := Or.inl (by rw [h0]; rfl)
        rcases g3 with ⟨_, k2, k3⟩ | ⟨k1, _, _⟩
        · rw [if_pos (show bst < 0 by rw [h1]; decide), k2]
          exact ⟨c, hc, fun j hj => (k3 j hj).trans (hA j hj), _, rfl⟩
        · exact absurd t1 k1
      · have nb : ¬ bst < 0 := by rw [b3]; exact nI_pos (by omega)
        have nc : ¬ nI c = 0 := nI_ne0 h0 (by omega)
        rw [if_neg nb, h1]
        rcases g3 with ⟨k1, k2, k3⟩ | ⟨k1, k2, k3⟩
        · rw [if_pos (k1.resolve_left nc), k2]
          exact ⟨c, hc, fun j hj => (k3 j hj).trans (hA j hj), _, rfl⟩
        · rw [if_neg (fun z => k1 (Or.inr z)), k2, b3, k3]
          exact ⟨b, b1, b4, _, rfl⟩
    have cls : run kX8_seekOrder 6 [some (vR 8 0 0), y1, some (vR 10 0 0), some (vR 5 0 0), some (vI (nI c)), y5, y6, y7] [] (wkS σ A C l) = (if bI (adF n (rwP n 0 c)).1 = 0 then some (none, wkS σ A3 C1 l1) else run kX8_seekOrder 6 [some (vR 8 0 0), y1, some (vR 10 0 0), some (vR 5 0 0), some (vI (nI (c + 1))), w5, w6, w7] [] (wkS σ A3 C1 l1)) := by
      rw [bX8_seekOrder_6, if_pos hcl, g1'', g2, bnd_s, tl_n, bX8_seekOrder_45, g4, bnd_s, tl_s, bX8_seekOrder_47, nI_S]
    rw [cls, hr]
    match m, hm with
    | 0, hm =>
      rw [bI_f (s4 (by omega)), if_pos rfl, show facN n = c + 1 by omega]
      exact ⟨A3, C1, R1, F1, l1, b2, z5', by omega, hC1, rfl, rfl⟩
    | m + 1, hm =>
      obtain ⟨u1, u2⟩ := s3 (by omega)
      rw [bI_t u1, if_neg i10]
      exact or_main hk he hn6 h2 h6 hmn hkb hE hR hS x1 m (c + 1) (by omega) A3 C1 R1 F1 l1 (nI b2) l1 _ _ _ _ _ (fun j hj => by rw [(g5 j hj).1, u2 j hj]) (Or.inr ⟨by omega, rfl, b2, hb2, rfl, hC1⟩)
  termination_by m => m
theorem row0O : ∀ n, n < 7 → ∀ j, j < n → rwP n 0 0 j = j := by decide +kernel
theorem q_order {G : Nat} (hQ : RQ G n r σ τ) (hT : TD n r σ τ) (x : Int32) : ans σ τ (den 131 [vR 11 0 0, vI x] σ) (den 275 [vR 12 0 0, vI x] τ) := by
  have hn6 := hQ.1.1.n6
  have hQ1 := RQ_sc hQ scC_0 (scM_th τ)
  have hm : gI (th0 τ) 12 0 12 = nI n := hQ.1.1.mn
  rw [dX11_order, bX11_order_0, e_isWithin, bnd_s, tl_s, bX11_order_4, dX12_order, bX12_order_0, m_isIn, bnd_s, tl_s, bX12_order_7, hm]
  rcases inb_l (x := x) (a' := 0) (M' := 6) 0 6 rfl rfl (by decide) (by decide) with h | ⟨p, _, hp, rfl, h⟩
  · rw [h, if_pos rfl, if_pos rfl]
    exact ⟨-1, _, _, rfl, rfl, scC_0, scM_th τ⟩
  obtain ⟨k, e, A, C, hk, he, h6, d1, d2, hR, hkb, hE⟩ := mark_pair (TD_th hT)
  obtain ⟨S, hS⟩ := seenN hQ1
  obtain ⟨f0, f7⟩ := facN_p n (by omega)
  -- the class's side
  obtain ⟨A0, b1, b2⟩ := e_rbegin (σ := sA σ 10 0 5 A) hn6 (w := 9) (w' := -1) (fun i hi => ⟨fun z => by
    have := nI_pos (n := i) (by omega)
    rw [z] at this
    exact absurd (by decide) this, fun z => by omega⟩)
  have hl : lnN 9 n = n := by
    unfold lnN
    rw [if_pos (by omega)]
  rw [hl] at b1 b2
  have hw0 : sI (sA (sA σ 10 0 5 A) 8 0 0 A0) 8 0 2 (nI n) = wkS (sI (sA σ 10 0 5 A) 8 0 2 (nI n)) A0 (gA σ 8 0 1) (gI σ 8 0 3) := by
    have e1 : sA (sI (sA (sA σ 10 0 5 A) 8 0 0 A0) 8 0 2 (nI n)) 8 0 1 (gA (sI (sA (sA σ 10 0 5 A) 8 0 0 A0) 8 0 2 (nI n)) 8 0 1) = _ := sA_id
    have e3 : sI (sI (sA (sA σ 10 0 5 A) 8 0 0 A0) 8 0 2 (nI n)) 8 0 3 (gI (sI (sA (sA σ 10 0 5 A) 8 0 0 A0) 8 0 2 (nI n)) 8 0 3) = _ := sI_id
    show _ = sI (sA (sI (sA (sA σ 10 0 5 A) 8 0 0 A0) 8 0 2 (nI n)) 8 0 1 (gA (sI (sA (sA σ 10 0 5 A) 8 0 0 A0) 8 0 2 (nI n)) 8 0 1)) 8 0 3 (gI (sI (sA (sA σ 10 0 5 A) 8 0 0 A0) 8 0 2 (nI n)) 8 0 3)
    rw [e1, e3]
  have hh2 : gI (sI (sA σ 10 0 5 A) 8 0 2 (nI n)) 8 0 2 = nI n := gI_s
  have hA5 : gA (sI (sA σ 10 0 5 A) 8 0 2 (nI n)) 10 0 5 = A := rfl
  have hC5 : gA (sA (th0 τ) 12 0 70 C) 12 0 70 = C := gA_s
  have o0 : sA (th0 τ) 12 0 70 C = orS (sA (th0 τ) 12 0 70 C) (gA (sA (th0 τ) 12 0 70 C) 12 0 66) (gA (sA (th0 τ) 12 0 70 C) 12 0 71) := by
    unfold orS
    have t1 : sA (sA (th0 τ) 12 0 70 C) 12 0 66 (gA (sA (th0 τ) 12 0 70 C) 12 0 66) = sA (th0 τ) 12 0 70 C := sA_id
    rw [t1, sA_id]
  obtain ⟨A', C', R', F', l', b, z5, k1, k2, k3, k4⟩ := or_main (σ := sI (sA σ 10 0 5 A) 8 0 2 (nI n)) (τ := sA (th0 τ) 12 0 70 C) (r := r) hk he hn6 hh2 h6 hm hkb hE (by rw [hA5, hC5]; exact hR) (fun a ha => ⟨S a, Nat.lt_of_lt_of_le (hS a (by omega)).1 (p2_64 hn6), (hS a (by omega)).2.1, (hS a (by omega)).2.2.1⟩) (nI p) (facN n - 1) 0 (by omega) A0 (gA σ 8 0 1) (gA (sA (th0 τ) 12 0 70 C) 12 0 66) (gA (sA (th0 τ) 12 0 70 C) 12 0 71) (gI σ 8 0 3) (-1) 0 (some (vI (nI n))) none none none none (fun j hj => by
    rw [b2 j hj, row0O n (by omega) j hj]
    unfold elN
    rw [if_pos (by omega)]) (Or.inl ⟨rfl, rfl⟩)
  rw [nI_0] at k3 k4
  rw [← o0] at k4
  have hcn : scC σ (wkS (sI (sA σ 10 0 5 A) 8 0 2 (nI n)) A' C' l') := scC_t (scC_A (Or.inr (Or.inr (Or.inr (Or.inr (Or.inr ⟨rfl, rfl⟩))))) _) (scC_t (scC_I (Or.inr (Or.inr (Or.inl rfl))) _) scC_wkS)
  have hw2 : gI (wkS (sI (sA σ 10 0 5 A) 8 0 2 (nI n)) A' C' l') 8 0 2 = nI n := rfl
  have cn0 : gI (sA σ 10 0 5 A) 2 (gR (sA σ 10 0 5 A) 11 0 2) 0 = nI n := hQ.1.1.cn
  have hcls : (bnd (den 107 [vR 10 0 0] σ) fun v τ => run kX11_order 10 [some (vR 11 0 0), some (vI (nI p))] (v.toList ++ []) τ) = some (some (vI (if nI p = 6 then l' else if p < n then C' p else -2)), wkS (sI (sA σ 10 0 5 A) 8 0 2 (nI n)) A' C' l') := by
    rw [d1, bnd_s, tl_n, bX11_order_10, cn0, dX8_seekOrder, bX8_seekOrder_0, b1, bnd_s, tl_n, bX8_seekOrder_4, hw0, k3, bnd_s, tl_n, bX11_order_21]
    by_cases h5 : nI p = 6
    · rw [if_pos h5, if_pos h5, bX11_order_32]
      rfl
    · rw [if_neg h5, if_neg h5, e_at hn6 hw2 p (by omega), bnd_s, tl_s, bX11_order_32]
      rfl
  -- the reference's end
  obtain ⟨R2, r1, r2⟩ := m_layRow (τ := orS (sA (th0 τ) 12 0 70 C) R' F') (L := n) (out := 0) hn6 (by decide) (c := b) (by omega) (ch_st (tbO n (by omega)) k1).1
  rw [orS_66, nI_0] at r1
  have mnE : gI (orS (sA (th0 τ) 12 0 70 C) R' F') 12 0 12 = nI n := hm
  have hmM : scM τ (orS (sA (th0 τ) 12 0 70 C) R2 F') := scM_t (scM_th τ) (scM_t (scM_A (Or.inr (Or.inr (Or.inl rfl))) _) (scM_t (scM_A (Or.inr (Or.inl rfl)) _) (scM_A (Or.inr (Or.inr (Or.inr rfl))) _)))
  have href : (bnd (den 273 [vR 12 0 0] (th0 τ)) fun v τ => run kX12_order 21 [some (vR 12 0 0), some (vI (nI p)), none, none, none, none] (v.toList ++ []) τ) = (if nI p = 6 then some (some (vI l'), orS (sA (th0 τ) 12 0 70 C) R2 F') else if nI p < 0 ∨ 6 ≤ (nI p).toNatClampNeg then none else some (some (vI (R2 (nI p).toNatClampNeg)), orS (sA (th0 τ) 12 0 70 C) R2 F')) := by
    have nl : ¬ nI (facN n) < nI (facN n) := nI_nlt (by omega) (by omega)
    have k4' : run kX12_order 27 [some (vR 12 0 0), some (vI (nI p)), some (vI (-1)), some (vI 0), some (vI 0), none] [] (sA (th0 τ) 12 0 70 C) = _ := k4
    rw [d2, bnd_s, tl_n, bX12_order_21, k4', bX12_order_27, mnE, m_rowsOf _ n (by omega), bnd_s, tl_s, bX12_order_31, if_neg nl, mnE, r1, bnd_s, tl_n, bX12_order_59]
    rfl
  rw [h, if_neg i10, if_neg i10, hcls, href]
  have ck : (nI p).toNatClampNeg = p := nI_clamp (by omega)
  by_cases h6p : p = 6
  · subst h6p
    rw [if_pos (show nI 6 = 6 from rfl), if_neg (show ¬ nI 6 < 6 by decide), if_pos (show nI 6 = 6 from rfl)]
    exact ⟨l', _, _, rfl, rfl, hcn, hmM⟩
  · have n6 : ¬ nI p = 6 := fun z => h6p ((nI_eq (a := p) (b := 6) (by omega) (by decide)).mp z)
    have a6 := ob (i := p) (N := 6) (by omega) (by decide)
    rw [if_neg n6, if_pos (show nI p < 6 from nI_lt (b := 6) (by omega) (by decide)), if_neg n6]
    simp only [ck, a6, ↓reduceIte]
    by_cases hpn : p < n
    · rw [if_pos hpn, if_pos (nI_lt hpn (by omega)), r2 p hpn, k2 p hpn]
      exact ⟨_, _, _, rfl, rfl, hcn, hmM⟩
    · rw [if_neg hpn, if_neg (nI_nlt (by omega) (by omega))]
      exact ⟨-2, _, _, rfl, rfl, hcn, scM_th τ⟩
end ORD
