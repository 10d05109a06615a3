/-! READING A TEXT: ribbons, what is told once -/
section RIB
variable {L : Nat} {t : Nat → Nat} {H p q n r c : Nat} {σ τ : ST}
abbrev rwC (σ : ST) (H r j : Nat) : ST := sI (sA (sA σ 5 (3 + H) 5 (upd (gA σ 5 (3 + H) 5) r (nI j))) 5 (3 + H) 3 (upd (gA σ 5 (3 + H) 3) j (gA σ 5 (3 + H) 3 j + 1))) 2 H 1 (nI (r + 1))
abbrev rwM (τ : ST) (r j : Nat) : ST := sI (sA τ 12 0 26 (upd (gA τ 12 0 26) (2 + r) (nI j))) 12 0 16 (nI (r + 1))
theorem rw_RD (hR : RD H n r c σ τ) (hr : r < 2) {j : Nat} (hj : j < n) : RD H n (r + 1) c (rwC σ H r j) (rwM τ r j) := by
  obtain ⟨⟨a1, a2, a3, a4⟩, ⟨b1, b2, b3, b4, b5, b6⟩, hO, hG, hS, ⟨hH1, hH2⟩, hZ, hY⟩ := hR
  have k5 : gA (rwC σ H r j) 5 (3 + H) 5 = upd (gA σ 5 (3 + H) 5) r (nI j) := by simp [gAA, gAI]
  have k3 : gA (rwC σ H r j) 5 (3 + H) 3 = upd (gA σ 5 (3 + H) 3) j (gA σ 5 (3 + H) 3 j + 1) := by simp [gAA, gAI]
  have m26 : gA (rwM τ r j) 12 0 26 = upd (gA τ 12 0 26) (2 + r) (nI j) := rfl
  have lo : ∀ i, i < r → upd (gA τ 12 0 26) (2 + r) (nI j) (2 + i) = gA τ 12 0 26 (2 + i) := fun i hi => upd_o (by omega)
  refine ⟨⟨a1, by omega, a3, fun _ => by omega⟩, ⟨b1, b2, gI_s, rfl, b5, b6⟩, hO, hG, hS, ⟨?_, ?_⟩, hZ, hY⟩
  · intro i hi
    rw [k3, m26]
    have hs : hadP (fun p => upd (gA τ 12 0 26) (2 + r) (nI j) (2 + p)) (r + 1) i = if upd (gA τ 12 0 26) (2 + r) (nI j) (2 + r) = nI i then hadP (fun p => upd (gA τ 12 0 26) (2 + r) (nI j) (2 + p)) r i + 1 else hadP (fun p => upd (gA τ 12 0 26) (2 + r) (nI j) (2 + p)) r i := rfl
    have hw : upd (gA τ 12 0 26) (2 + r) (nI j) (2 + r) = nI j := pk_us
    have hl : hadP (fun p => upd (gA τ 12 0 26) (2 + r) (nI j) (2 + p)) r i = gA σ 5 (3 + H) 3 i := Eq.trans (hadP_c (w' := fun p => gA τ 12 0 26 (2 + p)) r i lo) (hH1 i hi).symm
    by_cases e : i = j
    · subst e
      rw [pk_us, hs, if_pos hw, hl]
    · rw [upd_o e, hs, if_neg (fun z => e ((nI_eq (by omega) (by omega)).mp (Eq.trans hw.symm z)).symm), hl]
  · intro i hi
    rw [k5, m26]
    by_cases e : i = r
    · subst e
      rw [pk_us, pk_us]
      exact ⟨rfl, j, hj, rfl⟩
    · rw [upd_o e, lo i (by omega)]
      exact hH2 i (by omega)
theorem ribbon_line (hB : RB L t H σ τ) (hK : TKS L σ τ p q) (hpq : p < q) (hR : RD H n r c σ τ) (hL : LW H c σ τ) (hQ : FTQ σ τ) : lout L t H p σ τ (den 60 [vR 6 0 0] σ) (den 185 [vR 12 0 0] τ) := by
  have hn6 := hR.1.1
  have hr2 := hR.1.2.1
  have e1 : gI σ 2 H 1 = nI r := hR.2.1.2.2.1
  have e16 : gI τ 12 0 16 = nI r := hR.2.1.2.2.2.1
  have s2 : SH H 2 H := Or.inr (Or.inr (Or.inl ⟨rfl, rfl⟩))
  have s5 : SH H 5 (3 + H) := Or.inr (Or.inr (Or.inr (Or.inl ⟨rfl, rfl⟩)))
  rw [dX6_readRibbon, bX6_readRibbon_0, hB.2.2.1, e1, dX12_ribbonLine, bX12_ribbonLine_0, e16]
  by_cases hr : r = 2
  · rw [if_neg (show ¬ nI r < 2 by rw [hr]; decide), if_pos (show nI r = 2 by rw [hr]; rfl), e_fail, bnd_s, tl_s, bX6_readRibbon_8, if_pos i0or, m_wrong, bnd_s, tl_s, bX12_ribbonLine_7, if_pos i0or]
    exact lo_f hB hK FR_0 2
  have hr' : r < 2 := by omega
  obtain ⟨p1, q1, σ1, τ1, u1, u2, u3', u4, u5, u6, _, _⟩ := tok_pair hB hK
  have hB1 := RB_f hB u4 u5
  have hR1 := RD_f hR u4 u5
  rw [if_pos (show nI r < 2 from nI_lt (b := 2) (by omega) (by decide)), if_neg (show ¬ nI r = 2 from fun z => hr ((nI_eq (b := 2) (by omega) (by decide)).mp z)), u2, bnd_s, tl_n, bX6_readRibbon_12, u3', bnd_s, tl_n, bX12_ribbonLine_10]
  rcases told_pair hB1 u6 hR1 with ⟨x, f1, f2⟩ | ⟨j, hj, hpq1, f1, f2⟩
  · rw [f1, f2, bnd_s, bnd_s, tl_s, bX6_readRibbon_14, tl_s, bX12_ribbonLine_12, if_pos (by decide), if_pos rfl]
    exact lo_f hB1 u6 (FR_f u4 u5) x
  have a2 := ob (i := r) (N := 2) (by omega) (by decide)
  have c2 : (nI r).toNatClampNeg = r := nI_clamp (by omega)
  have a6 := ob (i := j) (N := 6) (by omega) (by decide)
  have c6 : (nI j).toNatClampNeg = j := nI_clamp (by omega)
  have a4 := ob (i := 2 + r) (N := 4) (by omega) (by decide)
  have c4 : (nI (2 + r)).toNatClampNeg = 2 + r := nI_clamp (by omega)
  have n2 : (2 : Int32) + nI r = nI (2 + r) := nI_add 2 r
  obtain ⟨p3, q3, σ3, τ3, y1, y2, y3, y4, y5, y6, _, _⟩ := tok_pair (σ := rwC σ1 H r j) (τ := τ1) (t := t) (H := H) hB1 (TKS_s u6 rfl rfl rfl rfl rfl rfl rfl rfl)
  have y5' := fuM_t y5 (fuM_I (k := 11) (by decide) (nI j))
  have w3 : fuM (rwM τ r j) (sI (sA (sI τ3 12 0 11 (nI j)) 12 0 26 (upd (gA (sI τ3 12 0 11 (nI j)) 12 0 26) (2 + r) (nI j))) 12 0 16 (nI (r + 1))) := by
    have := fuM_t u5 y5'
    rw [fuM_A this]
    exact fuM_sI (fuM_sA this)
  have v3 : fuC (rwC σ H r j) σ3 := by
    have : fuC (rwC σ H r j) (rwC σ1 H r j) := by
      unfold rwC
      rw [fuC_A u4]
      exact fuC_sI (fuC_sA (fuC_sA u4))
    exact fuC_t this y4
  have z1 : gI σ1 2 H 1 = nI r := hR1.2.1.2.2.1
  have z16 : gI (sI τ3 12 0 11 (nI j)) 12 0 16 = nI r := Eq.trans (y5'.1 12 0 16 (by omega)) hR1.2.1.2.2.2.1
  rw [f1, bnd_s, tl_s, bX6_readRibbon_14, if_neg (show ¬ nI j < 0 from nI_nlt (b := 0) (by omega) (by omega)), hB1.2.2.1, z1, f2 _ y3, bnd_s, tl_s, bX12_ribbonLine_12, if_neg i10, z16, n2]
  simp only [c2, a2, c6, a6, c4, a4, ↓reduceIte, nI_S]
  rw [y2, bnd_s, tl_n, bX6_readRibbon_48]
  refine ⟨_, _, FR_t (show FR H σ τ (rwC σ H r j) (rwM τ r j) from ⟨smC_t (smC_A s5 _) (smC_t (smC_A s5 _) (smC_I s2 _)), rdM_t (rdM_u (k := 26) (i := 2 + r) (by omega) (by unfold hfk; rw [if_pos (by omega)]; omega) _) (rdM_I (by omega) _)⟩) (FR_f v3 w3), RB_f (show RB L t H (rwC σ H r j) (rwM τ r j) from hB) v3 w3, FTQ_f (show FTQ (rwC σ H r j) (rwM τ r j) from hQ) v3 w3, Or.inr ⟨rfl, rfl, p3, q3, n, r + 1, c, by omega, TKS_s y6 rfl rfl rfl rfl rfl rfl rfl rfl, RD_f (rw_RD hR hr' hj) v3 w3, LW_f (show LW H c (rwC σ H r j) (rwM τ r j) from hL) v3 w3⟩⟩
/-- blight -/
abbrev bwC (σ : ST) (H : Nat) (x : Int32) : ST := sI (sI σ 6 0 5 1) 2 H 2 x
abbrev bwM (τ : ST) (x : Int32) : ST := sA (sA τ 12 0 18 (upd (gA τ 12 0 18) 0 1)) 12 0 19 (upd (gA τ 12 0 19) 2 x)
abbrev dwC (σ : ST) (H : Nat) (x : Int32) : ST := sI (sI σ 6 0 6 1) 2 H 3 x
abbrev dwM (τ : ST) (x : Int32) : ST := sA (sA τ 12 0 18 (upd (gA τ 12 0 18) 1 1)) 12 0 19 (upd (gA τ 12 0 19) 3 x)
theorem bw_RD (hR : RD H n r c σ τ) {x : Nat} (hx : x ≤ 100) : RD H n r c (bwC σ H (nI x)) (bwM τ (nI x)) := by
  obtain ⟨h1, ⟨b1, b2, b3, b4, b5, b6⟩, ⟨o1, o2, o3, o4⟩, hG, hS, hH, hZ, hY⟩ := hR
  exact ⟨h1, ⟨b1, b2, b3, b4, b5, b6⟩, ⟨⟨x, hx, gI_s, rfl⟩, o2, rfl, o4⟩, hG, hS, hH, hZ, hY⟩
theorem dw_RD (hR : RD H n r c σ τ) {x : Nat} (hx : x ≤ 99999) : RD H n r c (dwC σ H (nI x)) (dwM τ (nI x)) := by
  obtain ⟨h1, ⟨b1, b2, b3, b4, b5, b6⟩, ⟨o1, o2, o3, o4⟩, hG, hS, hH, hZ, hY⟩ := hR
  exact ⟨h1, ⟨b1, b2, b3, b4, b5, b6⟩, ⟨o1, ⟨x, hx, gI_s, rfl⟩, o3, rfl⟩, hG, hS, hH, hZ, hY⟩
theorem blight_line (hB : RB L t H σ τ) (hK : TKS L σ τ p q) (hpq : p < q) (hR : RD H n r c σ τ) (hL : LW H c σ τ) (hQ : FTQ σ τ) : lout L t H p σ τ (den 61 [vR 6 0 0] σ) (den 186 [vR 12 0 0, vI 0, vI 100] τ) := by
  have s2 : SH H 2 H := Or.inr (Or.inr (Or.inl ⟨rfl, rfl⟩))
  have e5 : gI σ 6 0 5 = gA τ 12 0 18 0 := hR.2.2.1.2.2.1
  have z0 : ¬ ((0 : Int32) < 0 ∨ 2 ≤ Int32.toNatClampNeg 0) := by decide
  rw [dX6_readBlight, bX6_readBlight_0, e5, dX12_onceLine, bX12_onceLine_0, if_neg z0]
  have c0 : Int32.toNatClampNeg 0 = 0 := by decide
  rw [c0]
  by_cases h : ¬ gA τ 12 0 18 0 = 0
  · rw [if_neg h, if_neg h, e_fail, bnd_s, tl_s, bX6_readBlight_6, if_pos i0or, m_wrong, bnd_s, tl_s, bX12_onceLine_8, if_pos i0or]
    exact lo_f hB hK FR_0 3
  have h : gA τ 12 0 18 0 = 0 := Classical.byContradiction h
  have F1 : FR H σ τ (sI σ 6 0 5 1) (sA τ 12 0 18 (upd (gA τ 12 0 18) 0 1)) := ⟨smC_I (Or.inr (Or.inl rfl)) _, rdM_u (k := 18) (by omega) (by decide) _⟩
  obtain ⟨p1, q1, σ1, τ1, u1, u2, u3', u4, u5, u6, _, _⟩ := tok_pair (σ := sI σ 6 0 5 1) (τ := sA τ 12 0 18 (upd (gA τ 12 0 18) 0 1)) (t := t) (H := H) hB (TKS_s hK rfl rfl rfl rfl rfl rfl rfl rfl)
  have hB1 : RB L t H σ1 τ1 := RB_f (show RB L t H (sI σ 6 0 5 1) (sA τ 12 0 18 (upd (gA τ 12 0 18) 0 1)) from hB) u4 u5
  rw [if_pos h, if_pos h, if_neg (show ¬ ((0 : Int32) < 0 ∨ 2 ≤ 0) by decide), u2, bnd_s, tl_n, bX6_readBlight_13, show (vp_nar .boolean 1 : Int32) = 1 from rfl, u3', bnd_s, tl_n, bX12_onceLine_16]
  have tn := take_pair (M := 100) hB1 u6 (by decide)
  rw [show nI 100 = 100 from rfl] at tn
  rcases tn with ⟨y, d1, d2⟩ | ⟨σ3, τ3, x, p3, q3, d1, d2, d3, d4, d5, d6, d7, d8, d9⟩
  · rw [d1, d2, bnd_s, bnd_s, tl_s, bX6_readBlight_16, bX12_onceLine_20, if_pos rfl, if_pos rfl]
    exact lo_f hB1 u6 (FR_t F1 (FR_f u4 u5)) y
  have hB3 := RB_f hB1 d3 d4
  have z2 : ¬ ((2 + 0 : Int32) < 0 ∨ 4 ≤ Int32.toNatClampNeg (2 + 0)) := by decide
  have c2 : Int32.toNatClampNeg (2 + 0) = 2 := by decide
  rw [d1, d2, bnd_s, bnd_s, tl_s, bX6_readBlight_16, bX12_onceLine_20, if_neg i10, if_neg i10, if_neg z2, c2, hB3.2.2.1, d8, d9]
  have v3 : fuC (bwC σ H (nI x)) (sI σ3 2 H 2 (nI x)) := fuC_sI (fuC_t u4 d3)
  have w3 : fuM (bwM τ (nI x)) (sA τ3 12 0 19 (upd (gA τ3 12 0 19) 2 (nI x))) := by
    have := fuM_t u5 d4
    rw [fuM_A this]
    exact fuM_sA this
  refine ⟨_, _, FR_t (FR_t F1 (show FR H _ _ (bwC σ H (nI x)) (bwM τ (nI x)) from ⟨smC_I s2 _, rdM_u (k := 19) (i := 2) (by omega) (by decide) _⟩)) (FR_f v3 w3), RB_f (show RB L t H (bwC σ H (nI x)) (bwM τ (nI x)) from hB) v3 w3, FTQ_f (show FTQ (bwC σ H (nI x)) (bwM τ (nI x)) from hQ) v3 w3, Or.inr ⟨rfl, rfl, p3, q3, n, r, c, by omega, TKS_s d6 rfl rfl rfl rfl rfl rfl rfl rfl, RD_f (bw_RD hR d7) v3 w3, LW_f (show LW H c (bwC σ H (nI x)) (bwM τ (nI x)) from hL) v3 w3⟩⟩
theorem seed_line (hB : RB L t H σ τ) (hK : TKS L σ τ p q) (hpq : p < q) (hR : RD H n r c σ τ) (hL : LW H c σ τ) (hQ : FTQ σ τ) : lout L t H p σ τ (den 62 [vR 6 0 0] σ) (den 186 [vR 12 0 0, vI 1, vI 99999] τ) := by
  have s2 : SH H 2 H := Or.inr (Or.inr (Or.inl ⟨rfl, rfl⟩))
  have e5 : gI σ 6 0 6 = gA τ 12 0 18 1 := hR.2.2.1.2.2.2
  have z0 : ¬ ((1 : Int32) < 0 ∨ 2 ≤ Int32.toNatClampNeg 1) := by decide
  rw [dX6_readSeed, bX6_readSeed_0, e5, dX12_onceLine, bX12_onceLine_0, if_neg z0]
  have c0 : Int32.toNatClampNeg 1 = 1 := by decide
  rw [c0]
  by_cases h : ¬ gA τ 12 0 18 1 = 0
  · rw [if_neg h, if_neg h, e_fail, bnd_s, tl_s, bX6_readSeed_6, if_pos i0or, m_wrong, bnd_s, tl_s, bX12_onceLine_8, if_pos i0or]
    exact lo_f hB hK FR_0 3
  have h : gA τ 12 0 18 1 = 0 := Classical.byContradiction h
  have F1 : FR H σ τ (sI σ 6 0 6 1) (sA τ 12 0 18 (upd (gA τ 12 0 18) 1 1)) := ⟨smC_I (Or.inr (Or.inl rfl)) _, rdM_u (k := 18) (by omega) (by decide) _⟩
  obtain ⟨p1, q1, σ1, τ1, u1, u2, u3', u4, u5, u6, _, _⟩ := tok_pair (σ := sI σ 6 0 6 1) (τ := sA τ 12 0 18 (upd (gA τ 12 0 18) 1 1)) (t := t) (H := H) hB (TKS_s hK rfl rfl rfl rfl rfl rfl rfl rfl)
  have hB1 : RB L t H σ1 τ1 := RB_f (show RB L t H (sI σ 6 0 6 1) (sA τ 12 0 18 (upd (gA τ 12 0 18) 1 1)) from hB) u4 u5
  rw [if_pos h, if_pos h, if_neg (show ¬ ((1 : Int32) < 0 ∨ 2 ≤ 1) by decide), u2, bnd_s, tl_n, bX6_readSeed_13, show (vp_nar .boolean 1 : Int32) = 1 from rfl, u3', bnd_s, tl_n, bX12_onceLine_16]
  have tn := take_pair (M := 99999) hB1 u6 (by decide)
  rw [show nI 99999 = 99999 from rfl] at tn
  rcases tn with ⟨y, d1, d2⟩ | ⟨σ3, τ3, x, p3, q3, d1, d2, d3, d4, d5, d6, d7, d8, d9⟩
  · rw [d1, d2, bnd_s, bnd_s, tl_s, bX6_readSeed_16, bX12_onceLine_20, if_pos rfl, if_pos rfl]
    exact lo_f hB1 u6 (FR_t F1 (FR_f u4 u5)) y
  have hB3 := RB_f hB1 d3 d4
  have z2 : ¬ ((2 + 1 : Int32) < 0 ∨ 4 ≤ Int32.toNatClampNeg (2 + 1)) := by decide
  have c2 : Int32.toNatClampNeg (2 + 1) = 3 := by decide
  rw [d1, d2, bnd_s, bnd_s, tl_s, bX6_readSeed_16, bX12_onceLine_20, if_neg i10, if_neg i10, if_neg z2, c2, hB3.2.2.1, d8, d9]
  have v3 : fuC (dwC σ H (nI x)) (sI σ3 2 H 3 (nI x)) := fuC_sI (fuC_t u4 d3)
  have w3 : fuM (dwM τ (nI x)) (sA τ3 12 0 19 (upd (gA τ3 12 0 19) 3 (nI x))) := by
    have := fuM_t u5 d4
    rw [fuM_A this]
    exact fuM_sA this
  refine ⟨_, _, FR_t (FR_t F1 (show FR H _ _ (dwC σ H (nI x)) (dwM τ (nI x)) from ⟨smC_I s2 _, rdM_u (k := 19) (i := 3) (by omega) (by decide) _⟩)) (FR_f v3 w3), RB_f (show RB L t H (dwC σ H (nI x)) (dwM τ (nI x)) from hB) v3 w3, FTQ_f (show FTQ (dwC σ H (nI x)) (dwM τ (nI x)) from hQ) v3 w3, Or.inr ⟨rfl, rfl, p3, q3, n, r, c, by omega, TKS_s d6 rfl rfl rfl rfl rfl rfl rfl rfl, RD_f (dw_RD hR d7) v3 w3, LW_f (show LW H c (dwC σ H (nI x)) (dwM τ (nI x)) from hL) v3 w3⟩⟩
end RIB
