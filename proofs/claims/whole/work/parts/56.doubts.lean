/-! DOUBTS: by where a ribbon was seen -/
section SOS
variable {n r k e : Nat} {σ τ : ST}
/-- what sights rest on -/
def TF (n r k e : Nat) (σ τ : ST) : Prop := k ≤ 24 ∧ e ≤ k ∧ r ≤ 2 ∧ n ≤ 6 ∧ gI σ 10 0 6 = nI k ∧ knR e (gA σ 10 0 5) (gA τ 12 0 70) ∧ (∀ i, i < k → EN n r (gA σ 10 0 0) (gA σ 10 0 1) (gA σ 10 0 2) (gA σ 10 0 3) (gA σ 10 0 4) (gA τ 12 0 69) i) ∧
  (∀ τ', gI τ' 12 0 67 = gI τ 12 0 67 → gI τ' 12 0 68 = gI τ 12 0 68 → den 272 [vR 12 0 0] τ' = some (some (vI (nI e)), τ'))
theorem TF_c {σ' τ' : ST} (h : TF n r k e σ τ) (h1 : gI σ' 10 = gI σ 10) (h2 : gA σ' 10 = gA σ 10) (h3 : gA τ' 12 0 69 = gA τ 12 0 69) (h4 : gA τ' 12 0 70 = gA τ 12 0 70) (h5 : gI τ' 12 0 67 = gI τ 12 0 67) (h6 : gI τ' 12 0 68 = gI τ 12 0 68) : TF n r k e σ' τ' := by
  unfold TF at h ⊢
  rw [h1, h2, h3, h4, h5, h6]
  exact h
/-- the class behind what is known -/
theorem so_tail (hF : TF n r k e σ τ) (y : Int32) : ∀ (m i : Nat), i + m = k → e ≤ i → ∀ y4 : Option AV, run kX10_isSo 2 [some (vR 10 0 0), some (vI y), some (vR 5 1 0), some (vI (nI i)), y4] [] σ = some (some (vI 1), σ)
  | 0, i, hm, hi, y4 => by
    obtain ⟨hk, he, _, _, h6, _⟩ := hF
    have hlt : ¬ nI i < nI k := nI_nlt (by omega) (by omega)
    rw [bX10_isSo_2, h6, if_neg hlt]
  | m + 1, i, hm, hi, y4 => by
    obtain ⟨hk, he, _, _, h6, hR, _⟩ := id hF
    have hlt : nI i < nI k := nI_lt (by omega) (by omega)
    have a1 := ob (i := i) (N := 24) (by omega) (by decide)
    have c1 : (nI i).toNatClampNeg = i := nI_clamp (by omega)
    rw [bX10_isSo_2, h6, if_pos hlt]
    simp only [c1, a1, ↓reduceIte, hR.2 i hi (by omega), bX10_isSo_25, nI_S]
    exact so_tail hF y m (i + 1) (by omega) (by omega) _
theorem so_lock (hF : TF n r k e σ τ) (hh : ∀ q, q < r → gA σ 5 1 5 q = gA τ 12 0 47 (2 + q)) {Y : Nat} (hY : Y < 2 ^ 31) : ∀ (m i : Nat), i + m = e → ∀ (y4 y3 : Option AV), ∃ v : Int32, (v = 0 ∨ v = 1) ∧
    run kX10_isSo 2 [some (vR 10 0 0), some (vI (nI Y)), some (vR 5 1 0), some (vI (nI i)), y4] [] σ = some (some (vI v), σ) ∧
    run kX12_isSo 2 [some (vR 12 0 0), some (vI (nI Y)), some (vI (nI i)), y3] [] τ = some (some (vI v), τ) ∧
    ((∀ q, i ≤ q → q < e → ¬ gA σ 10 0 5 q = 0 → gA σ 10 0 0 q = 1 → ¬ gA σ 10 0 3 q = nI Y) → v = 1)
  | 0, i, hm, y4, y3 => by
    have hi : i = e := by omega
    subst hi
    obtain ⟨hk, he, _, _, h6, _, _, hkb⟩ := id hF
    have hlt : ¬ nI i < nI i := nI_nlt (by omega) (by omega)
    refine ⟨1, Or.inr rfl, so_tail hF (nI Y) (k - i) i (by omega) (Nat.le_refl _) y4, ?_, fun _ => rfl⟩
    rw [bX12_isSo_2, hkb τ rfl rfl, bnd_s, tl_s, bX12_isSo_5, if_neg hlt]
  | m + 1, i, hm, y4, y3 => by
    obtain ⟨hk, he, hr2, hn6, h6, hR, hE, hkb⟩ := id hF
    have hlt : nI i < nI k := nI_lt (by omega) (by omega)
    have hlt2 : nI i < nI e := nI_lt (by omega) (by omega)
    have a1 := ob (i := i) (N := 24) (by omega) (by decide)
    have c1 : (nI i).toNatClampNeg = i := nI_clamp (by omega)
    have b0 := ob (i := 5 * i) (N := 120) (by omega) (by decide)
    have b1 := ob (i := 5 * i + 1) (N := 120) (by omega) (by decide)
    have b2 := ob (i := 5 * i + 2) (N := 120) (by omega) (by decide)
    have b3 := ob (i := 5 * i + 3) (N := 120) (by omega) (by decide)
    have b4 := ob (i := 5 * i + 4) (N := 120) (by omega) (by decide)
    have d0 : (nI (5 * i)).toNatClampNeg = 5 * i := nI_clamp (by omega)
    have d1 : (nI (5 * i + 1)).toNatClampNeg = 5 * i + 1 := nI_clamp (by omega)
    have d2 : (nI (5 * i + 2)).toNatClampNeg = 5 * i + 2 := nI_clamp (by omega)
    have d3 : (nI (5 * i + 3)).toNatClampNeg = 5 * i + 3 := nI_clamp (by omega)
    have d4 : (nI (5 * i + 4)).toNatClampNeg = 5 * i + 4 := nI_clamp (by omega)
    have s1 : nI (5 * i) + 1 = nI (5 * i + 1) := i5a i 1
    have s2 : nI (5 * i) + 2 = nI (5 * i + 2) := i5a i 2
    have s3 : nI (5 * i) + 3 = nI (5 * i + 3) := i5a i 3
    have s4 : nI (5 * i) + 4 = nI (5 * i + 4) := i5a i 4
    obtain ⟨r1, _⟩ := hR.1 i (by omega)
    have ih : ∀ y4 y3, ∃ v : Int32, (v = 0 ∨ v = 1) ∧
        run kX10_isSo 2 [some (vR 10 0 0), some (vI (nI Y)), some (vR 5 1 0), some (vI (nI (i + 1))), y4] [] σ = some (some (vI v), σ) ∧
        run kX12_isSo 2 [some (vR 12 0 0), some (vI (nI Y)), some (vI (nI (i + 1))), y3] [] τ = some (some (vI v), τ) ∧
        ((∀ q, i ≤ q → q < e → ¬ gA σ 10 0 5 q = 0 → gA σ 10 0 0 q = 1 → ¬ gA σ 10 0 3 q = nI Y) → v = 1) := fun y4 y3 => by
      obtain ⟨v, v1, v2, v3, v4⟩ := so_lock hF hh hY m (i + 1) (by omega) y4 y3
      exact ⟨v, v1, v2, v3, fun h => v4 (fun q h1 h2 => h q (by omega) h2)⟩
    rw [bX10_isSo_2, h6, if_pos hlt, bX12_isSo_2, hkb τ rfl rfl, bnd_s, tl_s, bX12_isSo_5, if_pos hlt2]
    simp only [i5, s1, s2, s3, s4, c1, a1, b0, b1, b2, b3, b4, d0, d1, d2, d3, d4, ↓reduceIte, nI_S, bX10_isSo_25, bX12_isSo_51]
    rw [← r1]
    by_cases h0 : gA σ 10 0 5 i = 0
    · rw [if_pos h0, if_pos h0]
      exact ih _ _
    · rw [if_neg h0, if_neg h0]
      rcases hE i (by omega) with ⟨p0, p1, _⟩ | ⟨p0, p1, yy, q, g, z, y1, y60, hq, hg, hz, e3, f1, e1, f2, e2, f3, e4, f4⟩ | ⟨p0, p1, _⟩
      · rw [p0, p1, if_neg (by decide), if_neg (by decide)]
        exact ih _ _
      · rw [p0, p1, if_pos rfl, if_pos rfl, e3, f1]
        by_cases hy : nI yy = nI Y
        · have a2 := ob (i := q) (N := 2) (by omega) (by decide)
          have c2 : (nI q).toNatClampNeg = q := nI_clamp (by omega)
          have a3 := ob (i := 2 + q) (N := 4) (by omega) (by decide)
          have c3 : (nI (2 + q)).toNatClampNeg = 2 + q := nI_clamp (by omega)
          rw [if_pos hy, if_pos hy, e1, f2, e2, f3, e4, f4]
          simp only [i2a, c2, a2, c3, a3, ↓reduceIte, hh q hq]
          rw [if_neg i10]
          have bad : ¬ (∀ q, i ≤ q → q < e → ¬ gA σ 10 0 5 q = 0 → gA σ 10 0 0 q = 1 → ¬ gA σ 10 0 3 q = nI Y) := fun h => h i (Nat.le_refl _) (by omega) h0 p0 (e3.trans hy)
          have fail : ∃ v : Int32, (v = 0 ∨ v = 1) ∧ (some (some (vI 0), σ) : RS) = some (some (vI v), σ) ∧ (some (some (vI 0), τ) : RS) = some (some (vI v), τ) ∧ ((∀ q, i ≤ q → q < e → ¬ gA σ 10 0 5 q = 0 → gA σ 10 0 0 q = 1 → ¬ gA σ 10 0 3 q = nI Y) → v = 1) := ⟨0, Or.inl rfl, rfl, rfl, fun h => absurd h bad⟩
          by_cases hw : gA τ 12 0 47 (2 + q) = nI g
          · rw [if_pos hw, if_pos hw]
            rcases hz with rfl | rfl
            · rw [if_neg i10, if_neg (by decide), if_neg i10]
              exact fail
            · rw [if_pos rfl, if_pos rfl]
              exact ih _ _
          · rw [if_neg hw, if_neg hw]
            rcases hz with rfl | rfl
            · rw [if_pos rfl, if_neg (by decide)]
              exact ih _ _
            · rw [if_neg (by decide), if_pos rfl, if_neg (by decide)]
              exact fail
        · rw [if_neg hy, if_neg hy]
          exact ih _ _
      · rw [p0, p1, if_neg (by decide), if_neg (by decide)]
        exact ih _ _
theorem isSo_pair (hF : TF n r k e σ τ) (hh : ∀ q, q < r → gA σ 5 1 5 q = gA τ 12 0 47 (2 + q)) {Y : Nat} (hY : Y < 2 ^ 31) : ∃ v : Int32, (v = 0 ∨ v = 1) ∧ den 110 [vR 10 0 0, vI (nI Y), vR 5 1 0] σ = some (some (vI v), σ) ∧ den 276 [vR 12 0 0, vI (nI Y)] τ = some (some (vI v), τ) ∧
    ((∀ q, q < e → ¬ gA σ 10 0 5 q = 0 → gA σ 10 0 0 q = 1 → ¬ gA σ 10 0 3 q = nI Y) → v = 1) := by
  obtain ⟨v, h1, h2, h3, h4⟩ := so_lock hF hh hY e 0 (by omega) none none
  rw [nI_0] at h2 h3
  exact ⟨v, h1, by rw [dX10_isSo, bX10_isSo_0, h2], by rw [dX12_isSo, bX12_isSo_0, h3], fun h => h4 (fun q _ => h q)⟩
/-- Told.lastYear -/
theorem ly_loop (hF : TF n r k e σ τ) : ∀ (m i : Nat), i + m = k → ∀ l, l ≤ 60 → ∃ l', l ≤ l' ∧ l' ≤ 60 ∧ run kX10_lastYear 4 [some (vR 10 0 0), some (vI (nI l)), some (vI (nI i))] [] σ = some (some (vI (nI l')), σ) ∧ ∀ q, i ≤ q → q < k → ¬ gA σ 10 0 5 q = 0 → gA σ 10 0 0 q = 1 → ∃ y, y ≤ l' ∧ gA σ 10 0 3 q = nI y
  | 0, i, hm, l, hl => by
    obtain ⟨hk, he, hr2, hn6, h6, hR, hE, hkb⟩ := id hF
    have hlt : ¬ nI i < nI k := nI_nlt (by omega) (by omega)
    exact ⟨l, Nat.le_refl _, hl, by rw [bX10_lastYear_4, h6, if_neg hlt], fun q h1 h2 => by omega⟩
  | m + 1, i, hm, l, hl => by
    obtain ⟨hk, he, hr2, hn6, h6, hR, hE, hkb⟩ := id hF
    have hlt : nI i < nI k := nI_lt (by omega) (by omega)
    have a1 := ob (i := i) (N := 24) (by omega) (by decide)
    have c1 : (nI i).toNatClampNeg = i := nI_clamp (by omega)
    have ih := ly_loop hF m (i + 1) (by omega)
    rw [bX10_lastYear_4, h6, if_pos hlt]
    simp only [c1, a1, ↓reduceIte, nI_S]
    have skip : (¬ gA σ 10 0 5 i = 0 → gA σ 10 0 0 i = 1 → ∃ y, y ≤ l ∧ gA σ 10 0 3 i = nI y) → ∃ l', l ≤ l' ∧ l' ≤ 60 ∧ run kX10_lastYear 4 [some (vR 10 0 0), some (vI (nI l)), some (vI (nI (i + 1)))] [] σ = some (some (vI (nI l')), σ) ∧ ∀ q, i ≤ q → q < k → ¬ gA σ 10 0 5 q = 0 → gA σ 10 0 0 q = 1 → ∃ y, y ≤ l' ∧ gA σ 10 0 3 q = nI y := by
      intro hs
      obtain ⟨l', q1, q2, q3, q4⟩ := ih l hl
      refine ⟨l', q1, q2, q3, fun q h1 h2 h3 h4 => ?_⟩
      by_cases e1 : q = i
      · subst e1
        obtain ⟨y, y1, y2⟩ := hs h3 h4
        exact ⟨y, by omega, y2⟩
      · exact q4 q (by omega) h2 h3 h4
    by_cases h0 : gA σ 10 0 5 i = 0
    · rw [if_pos h0]
      exact skip (fun h => absurd h0 h)
    · rw [if_neg h0]
      rcases hE i (by omega) with ⟨p0, _⟩ | ⟨p0, _, yy, q, g, z, y1, y60, _, _, _, e3, _⟩ | ⟨p0, _⟩
      · rw [p0, if_neg (by decide)]
        exact skip (fun _ h => by rw [p0] at h; exact absurd h (by decide))
      · rw [p0, if_pos rfl, e3]
        by_cases hy : l < yy
        · rw [if_pos (nI_lt hy (by omega))]
          obtain ⟨l', q1, q2, q3, q4⟩ := ih yy y60
          refine ⟨l', by omega, q2, q3, fun q h1 h2 h3 h4 => ?_⟩
          by_cases e1 : q = i
          · subst e1
            exact ⟨yy, q1, e3⟩
          · exact q4 q (by omega) h2 h3 h4
        · rw [if_neg (nI_nlt (by omega) (by omega))]
          exact skip (fun _ _ => ⟨yy, by omega, e3⟩)
      · rw [p0, if_neg (by decide)]
        exact skip (fun _ h => by rw [p0] at h; exact absurd h (by decide))
end SOS
section DOU
variable {G n r k e : Nat} {σ τ σ0 τ0 : ST}
theorem TF_Z (hF : TF n r k e σ0 τ0) (hZ : YZ SA G n r 1 1 σ0 τ0 σ τ) : TF n r k e σ τ :=
  TF_c hF (hZ.2.1.1 10 (by decide)).1 (hZ.2.1.1 10 (by decide)).2.1 (hZ.2.2.2.1 69 (by omega)) (hZ.2.2.2.1 70 (by omega)) (hZ.2.2.1 67 (by decide)) (hZ.2.2.1 68 (by decide))
/-- the reference behind the last year of a sight -/
theorem dt_tail (hF : TF n r k e σ0 τ0) {ly : Nat} (hl : ∀ q, q < k → ¬ gA σ0 10 0 5 q = 0 → gA σ0 10 0 0 q = 1 → ∃ y, y ≤ ly ∧ gA σ0 10 0 3 q = nI y) (hl60 : ly ≤ 60) : ∀ (m Y : Nat), Y + m = 61 → ly < Y → ∀ (σ τ : ST), YZ SA G n r 1 1 σ0 τ0 σ τ → ∀ (y1 y2 : Option AV), ∃ τ',
    run kX12_fits 13 [some (vR 12 0 0), y1, y2, some (vI (nI Y))] [] τ = some (some (vI 1), τ') ∧ frM 1 τ0 τ'
  | 0, Y, hm, hY, σ, τ, hZ, y1, y2 => by
    have hY61 : Y = 61 := by omega
    subst hY61
    exact ⟨τ, by rw [bX12_fits_13, if_pos (show (60 : Int32) < nI 61 by decide)], hZ.2.2⟩
  | m + 1, Y, hm, hY, σ, τ, hZ, y1, y2 => by
    have hlt : ¬ (60 : Int32) < nI Y := nI_nlt (a := 60) (by omega) (by decide)
    obtain ⟨σ1, τ1, f1, f2, f3⟩ := year_pair hZ (by decide) (fun _ _ _ _ _ => trivial)
    have f2' : den 224 [vR 12 0 0, vI 1] τ = some (none, τ1) := f2
    obtain ⟨v, _, _, g2, g3⟩ := isSo_pair (TF_Z hF f3) (fun q hq => (YZ_h f3 hq).1) (Y := Y) (by omega)
    have hv : v = 1 := g3 (fun q hq h1 h2 h3 => by
      have e10 := (f3.2.1.1 10 (by decide)).2.1
      rw [e10] at h1 h2 h3
      obtain ⟨y, hy, ey⟩ := hl q (by have := hF.2.1; omega) h1 h2
      have := (nI_eq (by omega) (by omega)).mp (ey.symm.trans h3)
      omega)
    obtain ⟨τ', k1, k2⟩ := dt_tail hF hl hl60 m (Y + 1) (by omega) (by omega) σ1 τ1 f3 y1 (klf y2)
    exact ⟨τ', by rw [bX12_fits_13, if_neg hlt, f2', bnd_s, tl_n, bX12_fits_19, g2, bnd_s, tl_s, bX12_fits_22, hv, if_neg i10, nI_S, k1], k2⟩
theorem dt_loop (hF : TF n r k e σ0 τ0) {ly : Nat} (hl : ∀ q, q < k → ¬ gA σ0 10 0 5 q = 0 → gA σ0 10 0 0 q = 1 → ∃ y, y ≤ ly ∧ gA σ0 10 0 3 q = nI y) (hl60 : ly ≤ 60) : ∀ (m Y : Nat), Y + m = 61 → ∀ (σ τ : ST), YZ SA G n r 1 1 σ0 τ0 σ τ → ∀ (y1 y2 : Option AV), ∃ (v : Int32) (σ' τ' : ST),
    run kX11_areSightsSo 6 [some (vR 11 0 0), some (vI (nI ly)), some (vI (nI Y))] [] σ = some (some (vI v), σ') ∧ run kX12_fits 13 [some (vR 12 0 0), y1, y2, some (vI (nI Y))] [] τ = some (some (vI v), τ') ∧ frC 1 σ0 σ' ∧ frM 1 τ0 τ'
  | 0, Y, hm, σ, τ, hZ, y1, y2 => by
    have hY61 : Y = 61 := by omega
    subst hY61
    exact ⟨1, σ, τ, by rw [bX11_areSightsSo_6, if_pos (nI_lt (by omega) (by decide))], by rw [bX12_fits_13, if_pos (show (60 : Int32) < nI 61 by decide)], hZ.2.1, hZ.2.2⟩
  | m + 1, Y, hm, σ, τ, hZ, y1, y2 => by
    by_cases hY : ly < Y
    · obtain ⟨τ', k1, k2⟩ := dt_tail hF hl hl60 (m + 1) Y hm hY σ τ hZ y1 y2
      exact ⟨1, σ, τ', by rw [bX11_areSightsSo_6, if_pos (nI_lt hY (by omega))], k1, hZ.2.1, k2⟩
    · have hlt : ¬ (60 : Int32) < nI Y := nI_nlt (a := 60) (by omega) (by decide)
      have hlt2 : ¬ nI ly < nI Y := nI_nlt (by omega) (by omega)
      obtain ⟨σ1, τ1, f1, f2, f3⟩ := year_pair hZ (by decide) (fun _ _ _ _ _ => trivial)
      have f2' : den 224 [vR 12 0 0, vI 1] τ = some (none, τ1) := f2
      obtain ⟨v, hv, g1, g2, _⟩ := isSo_pair (TF_Z hF f3) (fun q hq => (YZ_h f3 hq).1) (Y := Y) (by omega)
      rw [bX11_areSightsSo_6, if_neg hlt2, f1, bnd_s, tl_n, bX11_areSightsSo_12, g1, bnd_s, tl_s, bX11_areSightsSo_19, bX12_fits_13, if_neg hlt, f2', bnd_s, tl_n, bX12_fits_19, g2, bnd_s, tl_s, bX12_fits_22, nI_S]
      rcases hv with rfl | rfl
      · rw [if_pos rfl, if_pos rfl]
        exact ⟨0, σ1, τ1, rfl, rfl, f3.2.1, f3.2.2⟩
      · rw [if_neg i10, if_neg i10]
        exact dt_loop hF hl hl60 m (Y + 1) (by omega) σ1 τ1 f3 y1 (klf y2)
theorem FP_sc {σ' τ' : ST} (h : FP G n r σ τ) (hc : scC σ σ') (hm : scM τ τ') : FP G n r σ' τ' := by
  obtain ⟨_, _, c1, _, c2⟩ := hc.2.1 (3 + G) (by omega)
  unfold FP at h ⊢
  rw [c1, c2, hm.2.1 21 (by omega) (by decide) (by decide) (by decide) (by decide), hm.2.1 25 (by omega) (by decide) (by decide) (by decide) (by decide), hm.2.1 26 (by omega) (by decide) (by decide) (by decide) (by decide)]
  exact h
/-- the trial begins as the text tells, with another doubt -/
theorem first_pair (hT : RT G n r σ τ) (hP : FP G n r σ τ) {g : Nat} (hg : g < n) (d : Int32) : ∃ τ1, den 206 [vR 12 0 0, vI 1] τ = some (none, τ1) ∧
    YZ SA G n r 1 1 (sA (bgS σ 1 G (3 + G)) 0 1 1 (upd (gA (bgS σ 1 G (3 + G)) 0 1 1) g d)) (sI (sI (plT τ1) 12 0 58 (nI g)) 12 0 59 d) (sA (bgS σ 1 G (3 + G)) 0 1 1 (upd (gA (bgS σ 1 G (3 + G)) 0 1 1) g d)) (sI (sI (plT τ1) 12 0 58 (nI g)) 12 0 59 d) ∧
    scC σ (sA (bgS σ 1 G (3 + G)) 0 1 1 (upd (gA (bgS σ 1 G (3 + G)) 0 1 1) g d)) ∧ scM τ (sI (sI (plT τ1) 12 0 58 (nI g)) 12 0 59 d) ∧ (∀ k, k < 44 ∨ 50 < k → gA τ1 12 0 k = gA τ 12 0 k) ∧ (∀ k, gI τ1 12 0 k = gI τ 12 0 k) := by
  have hn6 := hT.1.n6
  have hr2 := hT.1.r2
  obtain ⟨p1, p2, p3, p4, p5, p6⟩ := hP
  obtain ⟨τ1, f1, f2, f3, f4, f5, f6, f7, f8, f9, f10⟩ := m_atFirst (τ := τ) (b := 1) (n := n) (r := r) (by decide) hr2 hn6 hT.1.mr (fun q hq => by
    obtain ⟨q1, x, hx, q2⟩ := p4 q hq
    exact ⟨x, hx, q1.symm.trans q2⟩)
  have f1' : den 206 [vR 12 0 0, vI 1] τ = some (none, τ1) := f1
  have hb := bgS_C σ 1 G (3 + G)
  have s1 : scC σ (sA (bgS σ 1 G (3 + G)) 0 1 1 (upd (gA (bgS σ 1 G (3 + G)) 0 1 1) g d)) := scC_t (bgS_sc σ G (3 + G)) (scC_A (Or.inr (Or.inr (Or.inr (Or.inl ⟨rfl, rfl⟩)))) _)
  have s2 : scM τ τ1 := ⟨fun k _ _ _ => f5 k, fun k hk _ _ _ _ => f7 k hk, fun j hj => f8 j (by omega), fun j hj => f9 j (by omega), f10 0 (by decide), f6⟩
  have s3 : scM τ (sI (sI (plT τ1) 12 0 58 (nI g)) 12 0 59 d) := scM_t s2 (scM_t (scM_plT τ1) (scM_t (scM_I (by omega) _) (scM_I (by omega) _)))
  have hT2 := RT_sc hT s1 s3
  have hF := RF_plT τ1
  refine ⟨τ1, f1', ⟨⟨⟨hT2, hb.1, fun j hj => ?_, fun j hj => ?_, fun j hj => ?_, fun j hj _ => ?_, fun q hq => ?_, fun q hq => ?_, fun q hq => ?_, ?_⟩, ?_, ?_, ?_⟩, frC_0, frM_0⟩, s1, s3, f7, f5⟩
  · have e1 : gA (sA (bgS σ 1 G (3 + G)) 0 1 1 (upd (gA (bgS σ 1 G (3 + G)) 0 1 1) g d)) 0 1 1 = upd (gA (bgS σ 1 G (3 + G)) 0 1 1) g d := gA_s
    rw [e1]
    show _ = if (0 : Int32) = 0 then (if nI j = nI g then d else gA τ1 12 0 23 j) else 0
    rw [if_pos rfl]
    by_cases e : j = g
    · rw [e, pk_us, if_pos rfl]
    · rw [upd_o e, if_neg (fun z => e ((nI_eq (by omega) (by omega)).mp z)), f7 23 (by omega), hb.2.2.2.2.2.1 j (by omega)]
      exact (hT.1.2.2.2.2.2.2.2.2.1 j hj).1
  · show gA (bgS σ 1 G (3 + G)) 5 1 2 j = gA τ1 12 0 44 (6 * 1 + j) ∧ _
    rw [(f2 j (by omega)).1]
    have e1 : gA (bgS σ 1 G (3 + G)) 5 1 2 j = gA σ 5 (3 + G) 2 j := (hb.2.1 j (by omega)).1
    show gA (bgS σ 1 G (3 + G)) 5 1 2 j = _ ∧ ∃ x, x ≤ 999 ∧ gA (bgS σ 1 G (3 + G)) 5 1 2 j = nI x
    rw [e1]
    exact p1 j hj
  · show gA (bgS σ 1 G (3 + G)) 5 1 3 j = gA τ1 12 0 45 (6 * 1 + j)
    rw [(f2 j (by omega)).2.1, (hb.2.1 j (by omega)).2.1]
    exact p2 j hj
  · show gA (bgS σ 1 G (3 + G)) 5 1 4 j = (gA τ1 12 0 46 (6 * 1 + j)) &&& ((0 : Int32) ^^^ -1)
    rw [and_m1, (f2 j (by omega)).2.2, (hb.2.1 j (by omega)).2.2]
    exact (p3 j (by omega)).1
  · show gA (bgS σ 1 G (3 + G)) 5 1 5 q = gA τ1 12 0 47 (2 * 1 + q) ∧ ∃ x, x < n ∧ gA (bgS σ 1 G (3 + G)) 5 1 5 q = nI x
    rw [(f3 q (by omega)).1, (hb.2.2.1 q (by omega)).1]
    exact p4 q hq
  · show gA (bgS σ 1 G (3 + G)) 5 1 6 q = gA τ1 12 0 48 (2 * 1 + q)
    rw [(f3 q (by omega)).2.1, (hb.2.2.1 q (by omega)).2.1]
    exact (p5 q (by omega)).1
  · show gA (bgS σ 1 G (3 + G)) 5 1 7 q = gA τ1 12 0 49 (2 * 1 + q)
    rw [(f3 q (by omega)).2.2, (hb.2.2.1 q (by omega)).2.2]
    exact (p5 q (by omega)).2
  · show gI (bgS σ 1 G (3 + G)) 5 1 0 = gA τ1 12 0 50 1
    rw [f4, hb.2.2.2.1]
    exact p6
  · exact hb.2.2.2.2.2.2.2
  · obtain ⟨b0, hb0, k1, k2⟩ := hT.1.2.2.2.2.1
    have e19 : gA (plT τ1) 12 0 19 0 = nI b0 := by
      show gA τ1 12 0 19 0 = _
      rw [f7 19 (by omega)]
      exact k2
    have e5 : gI (sA (bgS σ 1 G (3 + G)) 0 1 1 (upd (gA (bgS σ 1 G (3 + G)) 0 1 1) g d)) 0 1 5 = (if gI σ 2 G 2 < 50 then 0 else 1) := hb.2.2.2.2.2.2.1
    have eb : blE (sI (sI (plT τ1) 12 0 58 (nI g)) 12 0 59 d) = blE (plT τ1) := rfl
    rw [e5, k1, eb, blE_RF hF hb0 e19]
  · exact fun h => absurd rfl h
theorem bg10 {q : Nat} {f : Nat → Int32} : gA (sA (bgS σ 1 G q) 0 1 1 f) 10 = gA σ 10 := by
  show u3 (u3 (u3 (u3 (u3 (u3 (u3 (u3 σ.2.2.2.1 5 1 2 (va_cpy (gA σ 5 q 2) (gA σ 5 1 2) 0 0 6)) 5 1 3 (va_cpy (gA σ 5 q 3) (gA σ 5 1 3) 0 0 6)) 5 1 4 (va_cpy (gA σ 5 q 4) (gA σ 5 1 4) 0 0 6)) 5 1 5 (va_cpy (gA σ 5 q 5) (gA σ 5 1 5) 0 0 2)) 5 1 6 (va_cpy (gA σ 5 q 6) (gA σ 5 1 6) 0 0 2)) 5 1 7 (va_cpy (gA σ 5 q 7) (gA σ 5 1 7) 0 0 2)) 0 1 1 (va_cpy (gA σ 2 G 7) (gA σ 0 1 1) 0 0 6)) 0 1 1 f 10 = _
  rw [u3_nc (by decide), u3_nc (by decide), u3_nc (by decide), u3_nc (by decide), u3_nc (by decide), u3_nc (by decide), u3_nc (by decide), u3_nc (by decide)]
  rfl
theorem q_doubts (hQ : RQ G n r σ τ) (hP : FP G n r σ τ) (hT : TD n r σ τ) (x : Int32) : ans σ τ (den 146 [vR 11 0 0, vI x] σ) (den 278 [vR 12 0 0, vI x] τ) := by
  have hn6 := hQ.1.1.n6
  have hr2 := hQ.1.1.r2
  have hm : gI (th0 τ) 12 0 12 = nI n := hQ.1.1.mn
  rw [dX11_doubts, bX11_doubts_0, e_isGrower, hQ.1.1.cn, bnd_s, tl_s, bX11_doubts_3, dX12_doubts, bX12_doubts_0, m_isGrower, hm, bnd_s, tl_s, bX12_doubts_6]
  rcases isb_nI (g := x) (n := n) (by omega) with h | ⟨g, hg, rfl, h⟩
  · rw [h, if_pos rfl, if_pos rfl]
    exact ⟨-1, _, _, rfl, rfl, scC_0, scM_th τ⟩
  obtain ⟨k, e, A, C, hk, he, h6, d1, d2, hR, hkb, hE⟩ := mark_pair (TD_th hT)
  have hC5 : gA (sA (th0 τ) 12 0 70 C) 12 0 70 = C := gA_s
  have hA5 : gA (sA σ 10 0 5 A) 10 0 5 = A := gA_s
  have hF0 : TF n r k e (sA σ 10 0 5 A) (sA (th0 τ) 12 0 70 C) := ⟨hk, he, hr2, hn6, h6, by rw [hC5, hA5]; exact hR, hE, hkb⟩
  have s0 : scC σ (sA σ 10 0 5 A) := scC_A (Or.inr (Or.inr (Or.inr (Or.inr (Or.inr ⟨rfl, rfl⟩))))) _
  have t0 : scM τ (sA (th0 τ) 12 0 70 C) := scM_t (scM_th τ) (scM_A (Or.inr (Or.inr (Or.inl rfl))) _)
  have a1 := ob (i := g) (N := 6) (by omega) (by decide)
  have c1 : (nI g).toNatClampNeg = g := nI_clamp (by omega)
  -- the ten doubts
  have loop : ∀ (m d : Nat), d + m = 10 → ∀ (σc τc : ST) (b : Int32), scC σ σc → scM τ τc → TF n r k e σc τc → ∃ (v : Int32) (σ' τ' : ST),
      run kX11_doubts 13 [some (vR 11 0 0), some (vI (nI g)), some (vI b), some (vI (nI d))] [] σc = some (some (vI v), σ') ∧ run kX12_doubts 15 [some (vR 12 0 0), some (vI (nI g)), some (vI b), some (vI (nI d))] [] τc = some (some (vI v), τ') ∧ scC σ σ' ∧ scM τ τ' := by
    intro m
    induction m with
    | zero =>
      intro d hd σc τc b sc tc hF
      have hd10 : d = 10 := by omega
      subst hd10
      refine ⟨b, σc, plT τc, ?_, ?_, sc, scM_t tc (scM_plT _)⟩
      · rw [bX11_doubts_13, if_pos (show (9 : Int32) < nI 10 by decide)]
      · rw [bX12_doubts_15, if_neg (show ¬ nI 10 < 10 by decide), m_plain, bnd_s, tl_n, bX12_doubts_35]
    | succ m ih =>
      intro d hd σc τc b sc tc hF
      have l1 : ¬ (9 : Int32) < nI d := nI_nlt (a := 9) (by omega) (by decide)
      have l2 : nI d < (10 : Int32) := nI_lt (b := 10) (by omega) (by decide)
      have hQc := RQ_sc hQ sc tc
      obtain ⟨τ1, p1, hZ, p3, p4, p5, p6⟩ := first_pair hQc.1 (FP_sc hP sc tc) hg (nI d)
      have hF1 : TF n r k e (sA (bgS σc 1 G (3 + G)) 0 1 1 (upd (gA (bgS σc 1 G (3 + G)) 0 1 1) g (nI d))) (sI (sI (plT τ1) 12 0 58 (nI g)) 12 0 59 (nI d))   := TF_c hF (p3.1 10 (by decide) (by decide) (by decide) (by decide) (by decide)).1 bg10 (p5 69 (by omega)) (p5 70 (by omega)) (p6 67) (p6 68)
      obtain ⟨ly, _, ly60, y1, y2⟩ := ly_loop hF1 k 0 (by omega) 0 (by decide)
      obtain ⟨v, σ2, τ2, g1, g2, g3, g4⟩ := dt_loop (G := G) hF1 (fun q hq => y2 q (Nat.zero_le _) hq) ly60 60 1 (by decide) _ _ hZ (some (vI (nI g))) (some (vI (nI d)))
      have g1' : run kX11_areSightsSo 6 [some (vR 11 0 0), some (vI (nI ly)), some (vI 1)] [] (sA (bgS σc 1 G (3 + G)) 0 1 1 (upd (gA (bgS σc 1 G (3 + G)) 0 1 1) g (nI d))) = some (some (vI v), σ2) := g1
      have g2' : run kX12_fits 13 [some (vR 12 0 0), some (vI (nI g)), some (vI (nI d)), some (vI 1)] [] (sI (sI (plT τ1) 12 0 58 (nI g)) 12 0 59 (nI d)) = some (some (vI v), τ2) := g2
      rw [nI_0] at y1
      have hsight : den 162 [vR 11 0 0] (sA (bgS σc 1 G (3 + G)) 0 1 1 (upd (gA (bgS σc 1 G (3 + G)) 0 1 1) g (nI d))) = some (some (vI v), σ2) := by
        rw [dX11_areSightsSo, bX11_areSightsSo_0, dX10_lastYear, bX10_lastYear_0, y1, bnd_s, tl_s, bX11_areSightsSo_3, g1']
      have hfits : den 277 [vR 12 0 0, vI (nI g), vI (nI d)] τc = some (some (vI v), τ2) := by
        rw [dX12_fits, bX12_fits_0, p1, bnd_s, tl_n, bX12_fits_3, m_plain, bnd_s, tl_n, bX12_fits_5, g2']
      have sc2 : scC σ σ2 := scC_t sc (scC_t p3 (scC_fr g3))
      have tc2 : scM τ τ2 := scM_t tc (scM_t p4 (scM_fr g4 rfl))
      have hF2 : TF n r k e σ2 τ2 := TF_c hF1 (g3.1 10 (by decide)).1 (g3.1 10 (by decide)).2.1 (g4.2.1 69 (by omega)) (g4.2.1 70 (by omega)) (g4.1 67 (by decide)) (g4.1 68 (by decide))
      have hgG : gR σc 11 0 2 = G := hQc.1.1.g
      rw [bX11_doubts_13, if_neg l1, hgG, e_begin, bnd_s, tl_n, bX11_doubts_24]
      simp only [c1, a1, ↓reduceIte]
      rw [hsight, bnd_s, tl_s, bX11_doubts_33, bX12_doubts_15, if_pos l2, hfits, bnd_s, tl_s, bX12_doubts_23, nI_S]
      by_cases hv : v = 0
      · rw [if_pos hv, if_pos hv]
        exact ih (d + 1) (by omega) σ2 τ2 _ sc2 tc2 hF2
      · rw [if_neg hv, if_neg hv]
        exact ih (d + 1) (by omega) σ2 τ2 _ sc2 tc2 hF2
  obtain ⟨v, σ', τ', g1, g2, g3, g4⟩ := loop 10 0 (by decide) _ _ 0 s0 t0 hF0
  rw [nI_0] at g1 g2
  rw [h, if_neg i10, if_neg i10, d1, d2, bnd_s, bnd_s, tl_n, bX11_doubts_9, bX12_doubts_11]
  exact ⟨v, σ', τ', g1, g2, g3, g4⟩
end DOU
