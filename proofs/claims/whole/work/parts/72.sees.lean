/-! READING A TEXT: sights, ribbons, what is told once -/
section SEE
variable {L : Nat} {t : Nat → Nat} {H p q n r c : Nat} {σ τ : ST}
theorem told_pair (hB : RB L t H σ τ) (hK : TKS L σ τ p q) (hR : RD H n r c σ τ) : (∃ x, den 71 [vR 6 0 0] σ = some (some (vI (-1)), faC σ x) ∧ den 182 [vR 12 0 0] τ = some (some (vI 0), faM τ x)) ∨
    ∃ j, j < n ∧ p < q ∧ den 71 [vR 6 0 0] σ = some (some (vI (nI j)), σ) ∧ ∀ τ', den 171 [vR 12 0 0] τ = some (none, τ') → den 182 [vR 12 0 0] τ = some (some (vI 1), sI τ' 12 0 11 (nI j)) := by
  have hn6 := hR.1.1
  rw [dX6_toldGrower, bX6_toldGrower_0, dX12_growerThere, bX12_growerThere_0, hB.2.2.1, hR.2.1.2.1]
  rcases nam_i hK with ⟨k1, k2, k3⟩ | ⟨k1, k2⟩
  · rw [if_pos k1, if_pos k2, k3]
    rcases find_pair hR (gI σ 9 0 6) with ⟨f1, f2⟩ | ⟨j, hj, f1, f2⟩
    · refine Or.inl ⟨4, ?_, ?_⟩
      · rw [f1, bnd_s, tl_s, bX6_toldGrower_11, if_pos rfl, if_pos k1, e_fail, bnd_s, tl_s, bX6_toldGrower_27]
      · rw [f2, bnd_s, tl_s, bX12_growerThere_16, if_pos (by decide), m_wrong, bnd_s, tl_s, bX12_growerThere_22, if_pos i0or]
    · refine Or.inr ⟨j, hj, TKS_p hK (by rw [k1]; decide), ?_, fun τ' hτ => ?_⟩
      · rw [f1, bnd_s, tl_s, bX6_toldGrower_11, if_neg (nIm1 (by omega))]
      · rw [f2, bnd_s, tl_s, bX12_growerThere_16, if_neg (show ¬ nI j < 0 from nI_nlt (b := 0) (by omega) (by omega)), hτ, bnd_s, tl_n, bX12_growerThere_25]
  · refine Or.inl ⟨1, ?_, ?_⟩
    · rw [if_neg k1, if_pos rfl, if_neg k1, e_fail, bnd_s, tl_s, bX6_toldGrower_27]
    · rw [if_neg k2, m_wrong, bnd_s, tl_s, bX12_growerThere_7, if_pos i0or]
theorem sw_RD (hR : RD H n r c σ τ) {i j X : Nat} (hi : i < n) (hj : j < n) (hij : ¬ i = j) (hX : X < 2 ^ n) (eX : gA σ 5 (3 + H) 4 i = nI X) (hb : bit (nI X) (nI j) = 0) : RD H n r c (sA σ 5 (3 + H) 4 (upd (gA σ 5 (3 + H) 4) i (nI (X + 2 ^ j)))) (sA τ 12 0 25 (upd (gA τ 12 0 25) (6 + i) (nI (X + 2 ^ j)))) := by
  have hn6 := hR.1.1
  have hX64 : X < 64 := Nat.lt_of_lt_of_le hX (Nat.le_trans (Nat.pow_le_pow_right (by decide) hn6) (by decide))
  obtain ⟨h1, h2, hO, hG, hS, ⟨hH1, hH2⟩, hZ, hY⟩ := hR
  have k4 : gA (sA σ 5 (3 + H) 4 (upd (gA σ 5 (3 + H) 4) i (nI (X + 2 ^ j)))) 5 (3 + H) 4 = upd (gA σ 5 (3 + H) 4) i (nI (X + 2 ^ j)) := gA_s
  refine ⟨h1, h2, hO, hG, ?_, ⟨hH1, hH2⟩, hZ, hY⟩
  intro m hm
  rw [k4]
  show upd (gA σ 5 (3 + H) 4) i (nI (X + 2 ^ j)) m = upd (gA τ 12 0 25) (6 + i) (nI (X + 2 ^ j)) (6 + m) ∧ _
  obtain ⟨g1, y, g2, g3, g4, g5⟩ := hS m hm
  by_cases e : m = i
  · subst e
    rw [pk_us, pk_us]
    have hy : nI X = nI y := by rw [← eX, g4]
    refine ⟨rfl, X + 2 ^ j, (pt2 n (by omega) X hX64 hX).2 j hj ((bit_iff hX64 (by omega)).mp hb), fun h => by omega, rfl, ?_⟩
    exact lo2 X hX64 j (by omega) hb m (by omega) hij (by rw [hy]; exact g5)
  · rw [upd_o e, upd_o (show ¬ 6 + m = 6 + i by omega)]
    exact ⟨g1, y, g2, g3, g4, g5⟩
theorem sees_line (hB : RB L t H σ τ) (hK : TKS L σ τ p q) (hpq : p < q) (hR : RD H n r c σ τ) (hL : LW H c σ τ) (hQ : FTQ σ τ) : lout L t H p σ τ (den 59 [vR 6 0 0] σ) (den 184 [vR 12 0 0] τ) := by
  have hn6 := hR.1.1
  have s5 : SH H 5 (3 + H) := Or.inr (Or.inr (Or.inr (Or.inl ⟨rfl, rfl⟩)))
  obtain ⟨p1, q1, σ1, τ1, u1, u2, u3', u4, u5, u6, _, _⟩ := tok_pair hB hK
  have hB1 := RB_f hB u4 u5
  have hR1 := RD_f hR u4 u5
  rw [dX6_readSees, bX6_readSees_0, u2, bnd_s, tl_n, bX6_readSees_3, dX12_seesLine, bX12_seesLine_0, u3', bnd_s, tl_n, bX12_seesLine_2]
  rcases told_pair hB1 u6 hR1 with ⟨x, f1, f2⟩ | ⟨i, hi, hpq1, f1, f2⟩
  · rw [f1, f2, bnd_s, bnd_s, tl_s, bX6_readSees_5, tl_s, bX12_seesLine_4, if_pos (by decide), if_pos rfl]
    exact lo_f hB1 u6 (FR_f u4 u5) x
  obtain ⟨p2, q2, σ2, τ2, t1, t2, t3, t4, t5, t6, _, _⟩ := tok_pair hB1 u6
  have t5' := fuM_t t5 (fuM_I (k := 11) (by decide) (nI i))
  have hB2 := RB_f hB1 t4 t5'
  have hR2 := RD_f hR1 t4 t5'
  have K2 : TKS L σ2 (sI τ2 12 0 11 (nI i)) p2 q2 := TKS_s t6 rfl rfl rfl rfl rfl rfl rfl rfl
  have g11 : gI (sI τ2 12 0 11 (nI i)) 12 0 11 = nI i := rfl
  have g10 : gI (sI τ2 12 0 11 (nI i)) 12 0 10 = nI p2 := K2.2.2.2.1
  rw [f1, f2 _ t3, bnd_s, bnd_s, tl_s, bX6_readSees_5, tl_s, bX12_seesLine_4, if_neg (show ¬ nI i < 0 from nI_nlt (b := 0) (by omega) (by omega)), if_neg i10, t2, bnd_s, tl_n, bX6_readSees_13, g11, g10]
  have v2 := fuC_t u4 t4
  have w2 := fuM_t u5 t5'
  generalize sI τ2 12 0 11 (nI i) = τ2' at hB2 hR2 K2 w2 ⊢
  rcases told_pair hB2 K2 hR2 with ⟨x, f1, f2⟩ | ⟨j, hj, hpq2, f1, f2⟩
  · rw [f1, f2, bnd_s, bnd_s, tl_s, bX6_readSees_15, tl_s, bX12_seesLine_15, if_pos (by decide), if_pos rfl]
    exact lo_f hB2 K2 (FR_f v2 w2) x
  have a6 := ob (i := i) (N := 6) (by omega) (by decide)
  have c6 : (nI i).toNatClampNeg = i := nI_clamp (by omega)
  have a12 := ob (i := 6 + i) (N := 12) (by omega) (by decide)
  have c12 : (nI (6 + i)).toNatClampNeg = 6 + i := nI_clamp (by omega)
  have n6 : (6 : Int32) + nI i = nI (6 + i) := nI_add 6 i
  obtain ⟨eS, X, hX, _, eX, hself⟩ := hR2.2.2.2.2.1 i (by omega)
  have hX64 : X < 64 := Nat.lt_of_lt_of_le hX (Nat.le_trans (Nat.pow_le_pow_right (by decide) hn6) (by decide))
  -- failing at the second name
  have bad : ∀ (τ3 : ST) (x : Int32), fuM τ τ3 → RB L t H σ2 τ3 → lout L t H p σ τ (some (some (vI 0), faC σ2 x)) (some (some (vI 0), faM (sI τ3 12 0 10 (nI p2)) x)) := by
    intro τ3 x hm hb
    refine ⟨_, _, FR_t (FR_f v2 (fuM_t hm (fuM_I (k := 10) (by decide) (nI p2)))) (FR_fa x), hb, ⟨rfl, ?_⟩, Or.inl ⟨rfl, rfl⟩⟩
    exact K2.2.2.1
  rw [f1, bnd_s, tl_s, bX6_readSees_15, if_neg (show ¬ nI j < 0 from nI_nlt (b := 0) (by omega) (by omega)), hB2.2.2.1, e_isSeen σ2 (3 + H) (by omega), bnd_s, tl_s, bX6_readSees_26, eX]
  by_cases hij : i = j
  · obtain ⟨p3, q3, σ3, τ3, y1, y2, y3, y4, y5, y6, _, _⟩ := tok_pair hB2 K2
    have y5' := fuM_t y5 (fuM_I (k := 11) (by decide) (nI j))
    subst hij
    rw [hself, if_pos rfl, if_pos rfl, e_fail, bnd_s, tl_s, bX6_readSees_37, if_pos i0or, f2 _ y3, bnd_s, tl_s, bX12_seesLine_15, if_neg i10, if_pos (show nI i = gI (sI τ3 12 0 11 (nI i)) 12 0 11 from rfl), if_pos (show nI i = gI (sI τ3 12 0 11 (nI i)) 12 0 11 from rfl), m_wrong, bnd_s, tl_s, bX12_seesLine_44, if_pos i0or]
    exact bad _ 5 (fuM_t w2 y5') (RB_f hB2 fuC_0 y5')
  have nij : ¬ nI i = nI j := fun z => hij ((nI_eq (by omega) (by omega)).mp z)
  by_cases hb : bit (nI X) (nI j) = 0
  · obtain ⟨p3, q3, σ3, τ3, y1, y2, y3, y4, y5, y6, _, _⟩ := tok_pair (σ := sA σ2 5 (3 + H) 4 (upd (gA σ2 5 (3 + H) 4) i (nI (X + 2 ^ j)))) (τ := τ2') (t := t) (H := H) hB2 (TKS_s K2 rfl rfl rfl rfl rfl rfl rfl rfl)
    have y5' := fuM_t y5 (fuM_I (k := 11) (by decide) (nI j))
    have l1 := lo1 X hX64 j (by omega) hb
    have hset : den 48 [vR 5 (3 + H) 0, vI (nI i), vI (nI j), vI 1] σ2 = some (none, sA σ2 5 (3 + H) 4 (upd (gA σ2 5 (3 + H) 4) i (nI (X + 2 ^ j)))) := by
      rw [dX5_setSeen, bX5_setSeen_0, if_neg i10]
      simp only [c6, a6, ↓reduceIte]
      rw [eX, l1.1, l1.2.1]
    have m3 : gA (sI τ3 12 0 11 (nI j)) 12 0 25 (6 + i) = nI X := by
      rw [fuM_A y5', ← eX]
      exact eS.symm
    rw [hb, if_pos rfl, if_neg nij, hB2.2.2.1, hset, bnd_s, tl_n, bX6_readSees_45, y2, bnd_s, tl_n, bX6_readSees_48, f2 _ y3, bnd_s, tl_s, bX12_seesLine_15, if_neg i10, if_neg (show ¬ nI i = gI (sI τ3 12 0 11 (nI j)) 12 0 11 from nij), n6]
    simp only [c12, a12, ↓reduceIte]
    rw [m3, show gI (sI τ3 12 0 11 (nI j)) 12 0 11 = nI j from rfl, m_isOf, bnd_s, tl_s, bX12_seesLine_31, hb, if_pos rfl, n6]
    simp only [c12, a12, ↓reduceIte]
    rw [m3, show gI (sI τ3 12 0 11 (nI j)) 12 0 11 = nI j from rfl, l1.1, l1.2.1]
    have v3 : fuC (sA σ 5 (3 + H) 4 (upd (gA σ 5 (3 + H) 4) i (nI (X + 2 ^ j)))) σ3 := by
      have : fuC (sA σ 5 (3 + H) 4 (upd (gA σ 5 (3 + H) 4) i (nI (X + 2 ^ j)))) (sA σ2 5 (3 + H) 4 (upd (gA σ2 5 (3 + H) 4) i (nI (X + 2 ^ j)))) := by
        rw [fuC_A v2]
        exact fuC_sA v2
      exact fuC_t this y4
    have w3 : fuM (sA τ 12 0 25 (upd (gA τ 12 0 25) (6 + i) (nI (X + 2 ^ j)))) (sA (sI τ3 12 0 11 (nI j)) 12 0 25 (upd (gA (sI τ3 12 0 11 (nI j)) 12 0 25) (6 + i) (nI (X + 2 ^ j)))) := by
      have := fuM_t w2 y5'
      rw [fuM_A this]
      exact fuM_sA this
    have eX0 : gA σ 5 (3 + H) 4 i = nI X := by rw [← fuC_A v2]; exact eX
    refine ⟨_, _, FR_t ⟨smC_A s5 _, rdM_u (k := 25) (i := 6 + i) (by omega) (by unfold hfk; rw [if_neg (by omega), if_pos (by omega)]; omega) _⟩ (FR_f v3 w3), RB_f (show RB L t H (sA σ 5 (3 + H) 4 (upd (gA σ 5 (3 + H) 4) i (nI (X + 2 ^ j)))) (sA τ 12 0 25 (upd (gA τ 12 0 25) (6 + i) (nI (X + 2 ^ j)))) from hB) v3 w3, FTQ_f (show FTQ (sA σ 5 (3 + H) 4 (upd (gA σ 5 (3 + H) 4) i (nI (X + 2 ^ j)))) (sA τ 12 0 25 (upd (gA τ 12 0 25) (6 + i) (nI (X + 2 ^ j)))) from hQ) v3 w3, Or.inr ⟨rfl, rfl, p3, q3, n, r, c, by omega, TKS_s y6 rfl rfl rfl rfl rfl rfl rfl rfl, RD_f (sw_RD hR hi hj hij hX eX0 hb) v3 w3, LW_f (show LW H c (sA σ 5 (3 + H) 4 (upd (gA σ 5 (3 + H) 4) i (nI (X + 2 ^ j)))) (sA τ 12 0 25 (upd (gA τ 12 0 25) (6 + i) (nI (X + 2 ^ j)))) from hL) v3 w3⟩⟩
  · obtain ⟨p3, q3, σ3, τ3, y1, y2, y3, y4, y5, y6, _, _⟩ := tok_pair hB2 K2
    have y5' := fuM_t y5 (fuM_I (k := 11) (by decide) (nI j))
    have m3 : gA (sI τ3 12 0 11 (nI j)) 12 0 25 (6 + i) = nI X := by
      rw [fuM_A y5', ← eX]
      exact eS.symm
    rw [if_neg hb, e_fail, bnd_s, tl_s, bX6_readSees_30, if_pos i0or, f2 _ y3, bnd_s, tl_s, bX12_seesLine_15, if_neg i10, if_neg (show ¬ nI i = gI (sI τ3 12 0 11 (nI j)) 12 0 11 from nij), n6]
    simp only [c12, a12, ↓reduceIte]
    rw [m3, show gI (sI τ3 12 0 11 (nI j)) 12 0 11 = nI j from rfl, m_isOf, bnd_s, tl_s, bX12_seesLine_31, if_neg hb, if_neg (show ¬ nI i = gI (sI τ3 12 0 11 (nI j)) 12 0 11 from nij), m_wrong, bnd_s, tl_s, bX12_seesLine_44, if_pos i0or]
    exact bad _ 3 (fuM_t w2 y5') (RB_f hB2 fuC_0 y5')
end SEE
