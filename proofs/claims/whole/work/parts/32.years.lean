/-! RIBBONS IN A YEAR; years -/
theorem e_retain (σ : ST) (o : Nat) {p : Nat} (hp : p < 2) : den 53 [vR 5 o 0, vI (nI p)] σ = some (none, sA σ 5 o 6 (upd (gA σ 5 o 6) p (if gA σ 5 o 6 p < 999 then gA σ 5 o 6 p + 1 else 999))) := by
  have a1 := ob (i := p) (N := 2) hp (by decide)
  have c1 : (nI p).toNatClampNeg = p := nI_clamp (by omega)
  rw [dX5_retain, bX5_retain_0]
  simp only [c1, a1, ↓reduceIte]
  by_cases h : gA σ 5 o 6 p < 999
  · simp only [h, ↓reduceIte]
  · simp only [h, ↓reduceIte]
theorem e_pass (σ : ST) (o : Nat) {p g : Nat} (hp : p < 2) (hg : g < 6) : den 52 [vR 5 o 0, vI (nI p), vI (nI g)] σ = some (none, sA (sA (sA (sA σ 5 o 5 (upd (gA σ 5 o 5) p (nI g))) 5 o 6 (upd (gA σ 5 o 6) p 0)) 5 o 7 (upd (gA σ 5 o 7) p (gA σ 5 o 7 p + 1))) 5 o 3 (upd (gA σ 5 o 3) g (if gA σ 5 o 3 g < 999 then gA σ 5 o 3 g + 1 else 999))) := by
  have a1 := ob (i := p) (N := 2) hp (by decide)
  have a2 := ob (i := g) (N := 6) hg (by decide)
  have c1 : (nI p).toNatClampNeg = p := nI_clamp (by omega)
  have c2 : (nI g).toNatClampNeg = g := nI_clamp (by omega)
  rw [dX5_pass, bX5_pass_0]
  simp only [c1, c2, a1, a2, ↓reduceIte]
  by_cases h : gA σ 5 o 3 g < 999
  · simp only [h, ↓reduceIte]
  · simp only [h, ↓reduceIte]
theorem m_hands (τ : ST) {b p g : Nat} (hp : 2 * b + p < 4) (hg : 6 * b + g < 12) : den 223 [vR 12 0 0, vI (nI b), vI (nI p), vI (nI g)] τ = some (none, sA (sA (sA (sA τ 12 0 47 (upd (gA τ 12 0 47) (2 * b + p) (nI g))) 12 0 45 (upd (gA τ 12 0 45) (6 * b + g) (if gA τ 12 0 45 (6 * b + g) < 999 then gA τ 12 0 45 (6 * b + g) + 1 else 999))) 12 0 48 (upd (gA τ 12 0 48) (2 * b + p) 0)) 12 0 49 (upd (gA τ 12 0 49) (2 * b + p) (gA τ 12 0 49 (2 * b + p) + 1))) := by
  have a1 := ob (i := 2 * b + p) (N := 4) hp (by decide)
  have a2 := ob (i := 6 * b + g) (N := 12) hg (by decide)
  have c1 : (nI (2 * b + p)).toNatClampNeg = 2 * b + p := nI_clamp (by omega)
  have c2 : (nI (6 * b + g)).toNatClampNeg = 6 * b + g := nI_clamp (by omega)
  rw [dX12_hands, bX12_hands_0]
  simp only [i2, i6, c1, c2, a1, a2, ↓reduceIte]
  by_cases h : gA τ 12 0 45 (6 * b + g) < 999
  · simp only [h, ↓reduceIte]
  · simp only [h, ↓reduceIte]
theorem u3_c {α : Type} {f : Nat → Nat → Nat → α} {c o k c' o' k' : Nat} {v w : α} (h : k ≠ k') : u3 (u3 f c o k v) c' o' k' w = u3 (u3 f c' o' k' w) c o k v := by
  funext a b d
  unfold u3
  by_cases h1 : d = k' ∧ a = c' ∧ b = o'
  · rw [if_pos h1, if_neg (fun z => h (z.1.symm.trans h1.1)), if_pos h1]
  · rw [if_neg h1]
    by_cases h2 : d = k ∧ a = c ∧ b = o
    · rw [if_pos h2, if_pos h2]
    · rw [if_neg h2, if_neg h2, if_neg h1]
theorem sA_c {σ : ST} {c o k c' o' k' : Nat} {v w : Nat → Int32} (h : k ≠ k') : sA (sA σ c o k v) c' o' k' w = sA (sA σ c' o' k' w) c o k v := by
  unfold sA
  dsimp only
  rw [u3_c h]
section YRB
variable {S : Nat → Prop} {G n r o b : Nat} {σ0 τ0 : ST}
/-- a ribbon goes from hand to hand on both sides -/
theorem pass_pair {σ τ : ST} (hZ : YZ S G n r o b σ0 τ0 σ τ) (hb : b < 2) {p g : Nat} (hp : p < r) (hg : g < n) : ∃ σ' τ', den 52 [vR 5 o 0, vI (nI p), vI (nI g)] σ = some (none, σ') ∧ den 223 [vR 12 0 0, vI (nI b), vI (nI p), vI (nI g)] τ = some (none, τ') ∧ YZ S G n r o b σ0 τ0 σ' τ' ∧ gA σ' 5 o 5 = upd (gA σ 5 o 5) p (nI g) := by
  have hn6 := hZ.n6
  have hr2 := hZ.r2
  refine ⟨_, _, e_pass σ o (by omega) (by omega), m_hands τ (by omega) (by omega), ?_, ?_⟩
  · have e1 := hZ.1.1.2.2.2.2.1 g hg
    have e2 := hZ.1.1.2.2.2.2.2.2.2.2.1 p hp
    rw [← e1, ← e2]
    have z1 := hZ.holder hp hg
    have z2 := z1.since hp 0
    have z3 := z2.handed hp (gA σ 5 o 7 p + 1)
    have z4 := z3.had hg (if gA σ 5 o 3 g < 999 then gA σ 5 o 3 g + 1 else 999)
    rw [sA_c (σ := sA τ 12 0 47 _) (k := 45) (k' := 48) (by decide), sA_c (k := 45) (k' := 49) (by decide)]
    exact z4
  · show gA (sA σ 5 o 5 (upd (gA σ 5 o 5) p (nI g))) 5 o 5 = _
    exact gA_s
theorem rib_loop : ∀ (m i : Nat), i + m = r → ∀ (σ τ : ST), YZ S G n r o b σ0 τ0 σ τ → b < 2 → (∀ p, i ≤ p → p < r → ∀ x, x < n → gA σ 5 o 5 p = nI x → S x) → ∀ (y2 y3 z3 z4 : Option AV), ∃ (σ' τ' : ST),
    run kX0_year 12 [some (vR 0 o 0), some (vI (nI i)), y2, y3] [] σ = some (none, σ') ∧
    run kX12_yearGoes 97 [some (vR 12 0 0), some (vI (nI b)), some (vI (nI i)), z3, z4] [] τ = some (none, τ') ∧ YZ S G n r o b σ0 τ0 σ' τ'
  | 0, i, hm, σ, τ, hZ, hb, hS, y2, y3, z3, z4 => by
    have hr2 := hZ.r2
    have hlt : ¬ nI i < nI r := nI_nlt (by omega) (by omega)
    have a1 := ob (i := b) (N := 2) hb (by decide)
    have c1 : (nI b).toNatClampNeg = b := nI_clamp (by omega)
    refine ⟨_, _, ?_, ?_, hZ.year⟩
    · rw [bX0_year_12, hZ.cr, if_neg hlt]
    · rw [bX12_yearGoes_97, hZ.mr, if_neg hlt]
      simp only [c1, a1, ↓reduceIte]
  | m + 1, i, hm, σ, τ, hZ, hb, hS, y2, y3, z3, z4 => by
    have hn6 := hZ.n6
    have hr2 := hZ.r2
    have hi : i < r := by omega
    have hlt : nI i < nI r := nI_lt hi (by omega)
    obtain ⟨eh, x, hx, ex⟩ := hZ.1.1.2.2.2.2.2.2.1 i hi
    obtain ⟨z, B, B', e, zc, q1, q2⟩ := best_pair hZ.q hb hx (hS i (Nat.le_refl i) hi x hx ex)
    have hZ1 := hZ.e B B' e
    have a1 := ob (i := i) (N := 2) (by omega) (by decide)
    have c1 : (nI i).toNatClampNeg = i := nI_clamp (by omega)
    have a2 := ob (i := 2 * b + i) (N := 4) (by omega) (by decide)
    have c2 : (nI (2 * b + i)).toNatClampNeg = 2 * b + i := nI_clamp (by omega)
    rw [bX0_year_12, hZ.cr, if_pos hlt, bX12_yearGoes_97, hZ.mr, if_pos hlt]
    simp only [i2, c1, c2, a1, a2, ↓reduceIte]
    rw [← eh, ex, q1, q2, bnd_s, bnd_s, tl_s, bX0_year_26, bX12_yearGoes_114]
    have es : gA (wB σ B) 5 o 6 i = gA (wE τ B' e) 12 0 48 (2 * b + i) := hZ.1.1.2.2.2.2.2.2.2.1 i hi
    have eh' : gA (wE τ B' e) 12 0 47 (2 * b + i) = nI x := by
      show gA τ 12 0 47 (2 * b + i) = nI x
      rw [← eh, ex]
    have hS' : ∀ p, i + 1 ≤ p → p < r → ∀ x, x < n → gA (wB σ B) 5 o 5 p = nI x → S x := fun p h1 h2 => hS p (by omega) h2
    -- the ribbon stays
    have stay : ∀ (σ1 τ1 : ST), YZ S G n r o b σ0 τ0 σ1 τ1 → gA σ1 5 o 5 = gA σ 5 o 5 → ∀ (y2 y3 z3 z4 : Option AV), ∃ (σ' τ' : ST), (bnd (den 53 [vR 5 o 0, vI (nI i)] σ1) fun v τ => run kX0_year 48 [some (vR 0 o 0), some (vI (nI i)), y2, y3] (v.toList ++ []) τ) = some (none, σ') ∧ (if gA τ1 12 0 48 (2 * b + i) < 999 then run kX12_yearGoes 97 [some (vR 12 0 0), some (vI (nI b)), some (vI (nI (i + 1))), z3, z4] [] (sA τ1 12 0 48 (upd (gA τ1 12 0 48) (2 * b + i) (gA τ1 12 0 48 (2 * b + i) + 1))) else run kX12_yearGoes 97 [some (vR 12 0 0), some (vI (nI b)), some (vI (nI (i + 1))), z3, z4] [] (sA τ1 12 0 48 (upd (gA τ1 12 0 48) (2 * b + i) 999))) = some (none, τ') ∧ YZ S G n r o b σ0 τ0 σ' τ' := by
      intro σ1 τ1 hZ1 hh y2 y3 z3 z4
      have es1 := hZ1.1.1.2.2.2.2.2.2.2.1 i hi
      rw [e_retain σ1 o (by omega), bnd_s, tl_n, bX0_year_48, nI_S, ← es1]
      by_cases h : gA σ1 5 o 6 i < 999
      · rw [if_pos h, if_pos h]
        exact rib_loop m (i + 1) (by omega) _ _ (hZ1.since hi _) hb (fun p h1 h2 x hx ex => hS p (by omega) h2 x hx (by rw [← hh]; exact ex)) _ _ _ _
      · rw [if_neg h, if_neg h]
        exact rib_loop m (i + 1) (by omega) _ _ (hZ1.since hi _) hb (fun p h1 h2 x hx ex => hS p (by omega) h2 x hx (by rw [← hh]; exact ex)) _ _ _ _
    rcases zc with rfl | ⟨k, hk, rfl⟩
    · have ng : (-2 : Int32) < 0 := by decide
      simp only [i2, c2, a2, ng, nI_S, ↓reduceIte]
      exact stay _ _ hZ1 rfl _ _ _ _
    · have np : ¬ nI k < 0 := nI_pos (by omega)
      obtain ⟨z, B3, B3', e3, zc, q3, q4⟩ := gives_pair hZ1.q hb hx (gA (wB σ B) 5 o 6 i)
      have hZ2 := hZ1.e B3 B3' e3
      simp only [i2, c1, c2, a1, a2, np, nI_S, ↓reduceIte, q3, eh', ← es, q4, bnd_s, tl_s]
      rw [bX0_year_37, bX12_yearGoes_128]
      by_cases h0 : z = 0
      · simp only [h0, c2, a2, ↓reduceIte, nI_S]
        exact stay _ _ hZ2 rfl _ _ _ _
      · simp only [h0, ↓reduceIte]
        obtain ⟨σ2, τ2, p1, p2, p3, p4⟩ := pass_pair hZ2 hb hi hk
        rw [p1, p2, bnd_s, bnd_s, tl_n, bX0_year_43, bX0_year_48, bX12_yearGoes_134, nI_S]
        refine rib_loop m (i + 1) (by omega) _ _ p3 hb (fun p h1 h2 x hx ex => hS p (by omega) h2 x hx ?_) _ _ _ _
        rw [p4, upd_o (by omega)] at ex
        exact ex
theorem year_pair {σ τ : ST} (hZ : YZ S G n r o b σ0 τ0 σ τ) (hb : b < 2) (hS : ∀ p, p < r → ∀ x, x < n → gA σ 5 o 5 p = nI x → S x) : ∃ (σ' τ' : ST), den 4 [vR 0 o 0] σ = some (none, σ') ∧ den 224 [vR 12 0 0, vI (nI b)] τ = some (none, τ') ∧ YZ S G n r o b σ0 τ0 σ' τ' := by
  have hn6 := hZ.n6
  -- behind growing
  have grown : ∃ (σ1 τ1 : ST) (y1 y2 y3 z3 z4 : Option AV), den 4 [vR 0 o 0] σ = run kX0_year 5 [some (vR 0 o 0), y1, y2, y3] [] σ1 ∧ den 224 [vR 12 0 0, vI (nI b)] τ = run kX12_yearGoes 56 [some (vR 12 0 0), some (vI (nI b)), some (vI (nI 0)), z3, z4] [] τ1 ∧ YZ S G n r o b σ0 τ0 σ1 τ1 ∧ gA σ1 5 o 5 = gA σ 5 o 5 := by
    rw [dX0_year, bX0_year_0, dX12_yearGoes, bX12_yearGoes_0]
    by_cases hg : gI τ 12 0 55 = 0
    · have h6 : ¬ gI σ 0 o 6 = 0 := by rw [hZ.1.2.1, if_pos hg]; decide
      obtain ⟨σ1, τ1, z3', f1, f2, f3, f4⟩ := grow_loop n 0 (by omega) σ τ hZ hb hg none none none none
      rw [nI_0] at f1 f2
      rw [if_neg h6, dX0_growAll, bX0_growAll_0, f1, bnd_s, tl_n]
      exact ⟨σ1, τ1, none, none, none, z3', none, rfl, f2, f3, f4⟩
    · have h6 : gI σ 0 o 6 = 0 := by rw [hZ.1.2.1, if_neg hg]
      rw [if_pos h6]
      refine ⟨σ, τ, none, none, none, none, none, rfl, ?_, hZ, rfl⟩
      rw [bX12_yearGoes_2, if_neg hg]
      by_cases h : (0 : Int32) < gI τ 12 0 12
      · rw [if_pos h]; rfl
      · rw [if_neg h]; rfl
  obtain ⟨σ1, τ1, y1, y2, y3, z3, z4, e1, e2, hZ1, hh⟩ := grown
  rw [e1, e2, bX0_year_5]
  have fin : ∀ (σ2 τ2 : ST), YZ S G n r o b σ0 τ0 σ2 τ2 → gA σ2 5 o 5 = gA σ 5 o 5 → ∀ y1 : Option AV, ∃ (σ' τ' : ST), run kX0_year 10 [some (vR 0 o 0), y1, y2, y3] [] σ2 = some (none, σ') ∧ run kX12_yearGoes 97 [some (vR 12 0 0), some (vI (nI b)), some (vI 0), z3, z4] [] τ2 = some (none, τ') ∧ YZ S G n r o b σ0 τ0 σ' τ' := by
    intro σ2 τ2 hZ2 hh2 y1
    obtain ⟨σ', τ', f1, f2, f3⟩ := rib_loop r 0 (by omega) σ2 τ2 hZ2 hb (fun p _ h2 x hx ex => hS p h2 x hx (by rw [← hh2]; exact ex)) y2 y3 z3 z4
    rw [nI_0] at f1 f2
    rw [bX0_year_10]
    exact ⟨σ', τ', f1, f2, f3⟩
  by_cases hbl : blE τ1 = 0
  · have h5 : gI σ1 0 o 5 = 0 := by rw [hZ1.1.2.2.1, hbl]
    rw [if_pos h5, blight_none hn6 hZ1.mn hbl n 0 (by omega)]
    exact fin σ1 τ1 hZ1 hh y1
  · have h5 : ¬ gI σ1 0 o 5 = 0 := by rw [hZ1.1.2.2.1]; exact hbl
    obtain ⟨σ2, τ2, f1, f2, f3, f4⟩ := blight_loop n 0 (by omega) σ1 τ1 hZ1 hb hbl z3 z4
    rw [nI_0] at f1
    rw [if_neg h5, dX0_blightAll, bX0_blightAll_0, f1, bnd_s, tl_n, f2]
    exact fin σ2 τ2 f3 (f4.trans hh) y1
/-- all are in S -/
abbrev SA : Nat → Prop := fun _ => True
theorem years_loop {N : Nat} (hN : N < 2 ^ 31) : ∀ (m i : Nat), i + m = N → ∀ (σ τ : ST), YZ SA G n r o 1 σ0 τ0 σ τ → ∃ (σ' τ' : ST),
    run kX0_years 2 [some (vR 0 o 0), some (vI (nI N)), some (vI (nI i))] [] σ = some (none, σ') ∧
    run kX12_goMany 2 [some (vR 12 0 0), some (vI (nI N)), some (vI (nI i))] [] τ = some (none, τ') ∧ YZ SA G n r o 1 σ0 τ0 σ' τ'
  | 0, i, hm, σ, τ, hZ => by
    have hlt : ¬ nI i < nI N := nI_nlt (by omega) (by omega)
    exact ⟨σ, τ, by rw [bX0_years_2, if_neg hlt], by rw [bX12_goMany_2, if_neg hlt], hZ⟩
  | m + 1, i, hm, σ, τ, hZ => by
    have hlt : nI i < nI N := nI_lt (by omega) hN
    obtain ⟨σ1, τ1, f1, f2, f3⟩ := year_pair hZ (by decide) (fun _ _ _ _ _ => trivial)
    have f2' : den 224 [vR 12 0 0, vI 1] τ = some (none, τ1) := f2
    obtain ⟨σ', τ', g1, g2, g3⟩ := years_loop hN m (i + 1) (by omega) σ1 τ1 f3
    refine ⟨σ', τ', ?_, ?_, g3⟩
    · rw [bX0_years_2, if_pos hlt, f1, bnd_s, tl_n, bX0_years_7, nI_S, g1]
    · rw [bX12_goMany_2, if_pos hlt, f2', bnd_s, tl_n, bX12_goMany_8, nI_S, g2]
theorem years_pair {N : Nat} (hN : N < 2 ^ 31) {σ τ : ST} (hZ : YZ SA G n r o 1 σ0 τ0 σ τ) : ∃ (σ' τ' : ST), den 3 [vR 0 o 0, vI (nI N)] σ = some (none, σ') ∧ den 225 [vR 12 0 0, vI (nI N)] τ = some (none, τ') ∧ YZ SA G n r o 1 σ0 τ0 σ' τ' := by
  obtain ⟨σ', τ', f1, f2, f3⟩ := years_loop hN N 0 (by omega) σ τ hZ
  rw [nI_0] at f1 f2
  exact ⟨σ', τ', by rw [dX0_years, bX0_years_0, f1], by rw [dX12_goMany, bX12_goMany_0, f2], f3⟩
end YRB
