/-! READING A TEXT: a grower's line -/
section GRO
variable {L : Nat} {t : Nat → Nat} {H p q n r c : Nat} {σ τ : ST}
/-- a grower more, in both -/
abbrev gwC (σ : ST) (H n : Nat) (x w g d l : Int32) : ST := sI (sA (sA (sA (sA (sA σ 2 H 5 (upd (gA σ 2 H 5) n x)) 5 (3 + H) 2 (upd (gA σ 5 (3 + H) 2) n w)) 2 H 6 (upd (gA σ 2 H 6) n g)) 2 H 7 (upd (gA σ 2 H 7) n d)) 2 H 8 (upd (gA σ 2 H 8) n l)) 2 H 0 (nI (n + 1))
abbrev gwM (τ : ST) (n : Nat) (x w g d l : Int32) : ST := sI (sA (sA (sA (sA (sA (sA τ 12 0 20 (upd (gA τ 12 0 20) (6 + n) x)) 12 0 25 (upd (gA τ 12 0 25) (6 + n) 0)) 12 0 21 (upd (gA τ 12 0 21) (6 + n) w)) 12 0 22 (upd (gA τ 12 0 22) (6 + n) g)) 12 0 23 (upd (gA τ 12 0 23) (6 + n) d)) 12 0 24 (upd (gA τ 12 0 24) (6 + n) l)) 12 0 15 (nI (n + 1))
theorem nIm1 {j : Nat} (h : j < 2 ^ 31) : ¬ nI j = -1 := fun z => by
  have h0 : ¬ nI j < 0 := nI_nlt (b := 0) (by omega) (by omega)
  rw [z] at h0
  exact h0 (by decide)
theorem gr_rng : ∀ x, x < 10 → (-9 ≤ (nI x).toInt ∧ (nI x).toInt ≤ 9) ∧ (-9 ≤ (-(nI x)).toInt ∧ (-(nI x)).toInt ≤ 9) := by decide
theorem pw_S {x : Nat} (h : x < 2 ^ n) : x < 2 ^ (n + 1) := Nat.lt_of_lt_of_le h (Nat.pow_le_pow_right (by decide) (Nat.le_succ n))
theorem gw_RD (hR : RD H n r c σ τ) (hn : n < 6) {x g : Int32} {w d l : Nat} (hw : w ≤ 99) (hg : -9 ≤ g.toInt ∧ g.toInt ≤ 9) (hd : d ≤ 9) (hl : l ≤ 99) : RD H (n + 1) r c (gwC σ H n x (nI w) g (nI d) (nI l)) (gwM τ n x (nI w) g (nI d) (nI l)) := by
  obtain ⟨⟨a1, a2, a3, a4⟩, ⟨b1, b2, b3, b4, b5, b6⟩, hO, hG, hS, ⟨hH1, hH2⟩, hZ, hY⟩ := hR
  have e25 : gA (gwM τ n x (nI w) g (nI d) (nI l)) 12 0 25 = upd (gA τ 12 0 25) (6 + n) 0 := rfl
  have s54 : gA (gwC σ H n x (nI w) g (nI d) (nI l)) 5 (3 + H) 4 = gA σ 5 (3 + H) 4 := rfl
  have k5 : gA (gwC σ H n x (nI w) g (nI d) (nI l)) 2 H 5 = upd (gA σ 2 H 5) n x := by simp [gAA, gAI]
  have k6 : gA (gwC σ H n x (nI w) g (nI d) (nI l)) 2 H 6 = upd (gA σ 2 H 6) n g := by simp [gAA, gAI]
  have k7 : gA (gwC σ H n x (nI w) g (nI d) (nI l)) 2 H 7 = upd (gA σ 2 H 7) n (nI d) := by simp [gAA, gAI]
  have k8 : gA (gwC σ H n x (nI w) g (nI d) (nI l)) 2 H 8 = upd (gA σ 2 H 8) n (nI l) := by simp [gAA, gAI]
  have k2 : gA (gwC σ H n x (nI w) g (nI d) (nI l)) 5 (3 + H) 2 = upd (gA σ 5 (3 + H) 2) n (nI w) := by simp [gAA, gAI]
  refine ⟨⟨by omega, a2, a3, fun _ => by omega⟩, ⟨gI_s, rfl, b3, b4, b5, b6⟩, hO, ?_, ?_, ⟨hH1, fun p hp => ⟨(hH2 p hp).1, ?_⟩⟩, hZ, hY⟩
  · intro j hj
    rw [k5, k6, k7, k8, k2]
    show upd (gA σ 2 H 5) n x j = upd (gA τ 12 0 20) (6 + n) x (6 + j) ∧ (upd (gA σ 5 (3 + H) 2) n (nI w) j = upd (gA τ 12 0 21) (6 + n) (nI w) (6 + j) ∧ _) ∧ (upd (gA σ 2 H 6) n g j = upd (gA τ 12 0 22) (6 + n) g (6 + j) ∧ _) ∧ (upd (gA σ 2 H 7) n (nI d) j = upd (gA τ 12 0 23) (6 + n) (nI d) (6 + j) ∧ _) ∧ (upd (gA σ 2 H 8) n (nI l) j = upd (gA τ 12 0 24) (6 + n) (nI l) (6 + j) ∧ _)
    by_cases e : j = n
    · subst e
      rw [pk_us, pk_us, pk_us, pk_us, pk_us, pk_us, pk_us, pk_us, pk_us, pk_us]
      exact ⟨rfl, ⟨rfl, w, hw, rfl⟩, ⟨rfl, hg⟩, ⟨rfl, d, hd, rfl⟩, rfl, l, hl, rfl⟩
    · simp only [upd_o e, upd_o (show ¬ 6 + j = 6 + n by omega)]
      exact hG j (by omega)
  · intro j hj
    rw [e25, s54]
    obtain ⟨h1, y, h2, h3, h4, h5⟩ := hS j hj
    by_cases e : j = n
    · subst e
      rw [pk_us]
      have hy : y = 0 := h3 (Nat.le_refl _)
      subst hy
      exact ⟨h4, 0, Nat.lt_of_lt_of_le (by decide) (Nat.one_le_two_pow), fun _ => rfl, h4, h5⟩
    · rw [upd_o (show ¬ 6 + j = 6 + n by omega)]
      exact ⟨h1, y, pw_S h2, fun h => h3 (by omega), h4, h5⟩
  · obtain ⟨y, hy, e⟩ := (hH2 p hp).2
    exact ⟨y, by omega, e⟩
theorem gw_LW (hL : LW H c σ τ) (x w g d l : Int32) : LW H c (gwC σ H n x w g d l) (gwM τ n x w g d l) := hL
theorem gw_FR (hn : n < 6) (x w g d l : Int32) : FR H σ τ (gwC σ H n x w g d l) (gwM τ n x w g d l) := by
  have s2 : SH H 2 H := Or.inr (Or.inr (Or.inl ⟨rfl, rfl⟩))
  have s5 : SH H 5 (3 + H) := Or.inr (Or.inr (Or.inr (Or.inl ⟨rfl, rfl⟩)))
  have hk : ∀ k, 20 ≤ k → k ≤ 25 → hfk k ≤ 6 + n := fun k h1 h2 => by
    unfold hfk
    rw [if_neg (by omega), if_pos ⟨h1, h2⟩]
    omega
  refine ⟨smC_t (smC_A s2 _) (smC_t (smC_A s5 _) (smC_t (smC_A s2 _) (smC_t (smC_A s2 _) (smC_t (smC_A s2 _) (smC_I s2 _))))), ?_⟩
  exact rdM_t (rdM_u (by omega) (hk 20 (by omega) (by omega)) _) (rdM_t (rdM_u (k := 25) (by omega) (hk 25 (by omega) (by omega)) _) (rdM_t (rdM_u (k := 21) (by omega) (hk 21 (by omega) (by omega)) _) (rdM_t (rdM_u (k := 22) (by omega) (hk 22 (by omega) (by omega)) _) (rdM_t (rdM_u (k := 23) (by omega) (hk 23 (by omega) (by omega)) _) (rdM_t (rdM_u (k := 24) (by omega) (hk 24 (by omega) (by omega)) _) (rdM_I (by omega) _))))))
theorem grower_line (hB : RB L t H σ τ) (hK : TKS L σ τ p q) (hpq : p < q) (hR : RD H n r c σ τ) (hL : LW H c σ τ) (hQ : FTQ σ τ) : lout L t H p σ τ (den 58 [vR 6 0 0] σ) (den 183 [vR 12 0 0] τ) := by
  have hn6 := hR.1.1
  have e0 : gI σ 2 H 0 = nI n := hR.2.1.1
  have e15 : gI τ 12 0 15 = nI n := hR.2.1.2.1
  have s2 : SH H 2 H := Or.inr (Or.inr (Or.inl ⟨rfl, rfl⟩))
  have s5 : SH H 5 (3 + H) := Or.inr (Or.inr (Or.inr (Or.inl ⟨rfl, rfl⟩)))
  rw [dX6_readGrower, bX6_readGrower_0, hB.2.2.1, e0, dX12_growerLine, bX12_growerLine_0, e15]
  by_cases hn : n = 6
  · rw [if_neg (show ¬ nI n < 6 by rw [hn]; decide), if_pos (show nI n = 6 by rw [hn]; rfl), e_fail, bnd_s, tl_s, bX6_readGrower_10, if_pos i0or, m_wrong, bnd_s, tl_s, bX12_growerLine_7, if_pos i0or]
    exact lo_f hB hK FR_0 2
  have hn' : n < 6 := by omega
  have hk : ∀ k, 20 ≤ k → k ≤ 25 → hfk k ≤ 6 + n := fun k h1 h2 => by
    unfold hfk
    rw [if_neg (by omega), if_pos ⟨h1, h2⟩]
    omega
  have a6 := ob (i := n) (N := 6) (by omega) (by decide)
  have c6 : (nI n).toNatClampNeg = n := nI_clamp (by omega)
  have a12 := ob (i := 6 + n) (N := 12) (by omega) (by decide)
  have c12 : (nI (6 + n)).toNatClampNeg = 6 + n := nI_clamp (by omega)
  have n6 : (6 : Int32) + nI n = nI (6 + n) := nI_add 6 n
  obtain ⟨p1, q1, σ1, τ1, u1, u2, u3', u4, u5, u6, u7, u8⟩ := tok_pair hB hK
  have hB1 := RB_f hB u4 u5
  have hR1 := RD_f hR u4 u5
  rw [if_pos (show nI n < 6 from nI_lt (b := 6) (by omega) (by decide)), if_neg (show ¬ nI n = 6 from fun z => hn ((nI_eq (b := 6) (by omega) (by decide)).mp z)), u2, bnd_s, tl_n, bX6_readGrower_14, u3', bnd_s, tl_n, bX12_growerLine_10, hB1.2.2.1, hR1.2.1.2.1]
  rcases nam_i u6 with ⟨k1, k2, k3⟩ | ⟨k1, k2⟩
  rotate_left
  · rw [if_neg k1, if_neg k2, e_fail, bnd_s, tl_s, bX6_readGrower_22, if_pos i0or, m_wrong, bnd_s, tl_s, bX12_growerLine_17, if_pos i0or]
    exact lo_f hB1 u6 (FR_f u4 u5) 1
  rw [if_pos k1, if_pos k2, k3]
  rcases find_pair hR1 (gI σ1 9 0 6) with ⟨f1, f2⟩ | ⟨j, hj, f1, f2⟩
  rotate_left
  · rw [f1, f2, bnd_s, bnd_s, tl_s, bX6_readGrower_29, bX12_growerLine_26, if_neg (nIm1 (by omega)), if_neg (show ¬ nI j < 0 from nI_nlt (b := 0) (by omega) (by omega)), e_fail, bnd_s, tl_s, bX6_readGrower_34, if_pos i0or, m_wrong, bnd_s, tl_s, bX12_growerLine_30, if_pos i0or]
    exact lo_f hB1 u6 (FR_f u4 u5) 3
  rw [f1, f2, bnd_s, bnd_s, tl_s, bX6_readGrower_29, bX12_growerLine_26, if_pos rfl, if_pos (show (-1 : Int32) < 0 by decide), hB1.2.2.1, hR1.2.1.2.1, k3]
  simp only [c6, a6, n6, c12, a12, ↓reduceIte]
  -- the name is laid down
  have v1 : fuC (sA σ 2 H 5 (upd (gA σ 2 H 5) n (gI σ1 9 0 6))) (sA σ1 2 H 5 (upd (gA σ1 2 H 5) n (gI σ1 9 0 6))) := by
    rw [fuC_A u4]
    exact fuC_sA u4
  have w1 : fuM (sA (sA τ 12 0 20 (upd (gA τ 12 0 20) (6 + n) (gI σ1 9 0 6))) 12 0 25 (upd (gA τ 12 0 25) (6 + n) 0)) (sA (sA τ1 12 0 20 (upd (gA τ1 12 0 20) (6 + n) (gI σ1 9 0 6))) 12 0 25 (upd (gA τ1 12 0 25) (6 + n) 0)) := by
    rw [fuM_A u5]
    exact fuM_sA (fuM_sA u5)
  have F1 : FR H σ τ (sA σ 2 H 5 (upd (gA σ 2 H 5) n (gI σ1 9 0 6))) (sA (sA τ 12 0 20 (upd (gA τ 12 0 20) (6 + n) (gI σ1 9 0 6))) 12 0 25 (upd (gA τ 12 0 25) (6 + n) 0)) := ⟨smC_A s2 _, rdM_t (rdM_u (by omega) (hk 20 (by omega) (by omega)) _) (rdM_u (k := 25) (by omega) (hk 25 (by omega) (by omega)) _)⟩
  obtain ⟨p2, q2, σ2, τ2, t1, t2, t3, t4, t5, t6, _, _⟩ := tok_pair (σ := sA σ1 2 H 5 (upd (gA σ1 2 H 5) n (gI σ1 9 0 6))) (τ := sA (sA τ1 12 0 20 (upd (gA τ1 12 0 20) (6 + n) (gI σ1 9 0 6))) 12 0 25 (upd (gA τ1 12 0 25) (6 + n) 0)) (t := t) (H := H) hB1 (TKS_s u6 rfl rfl rfl rfl rfl rfl rfl rfl)
  have v2 := fuC_t v1 t4
  have w2 := fuM_t w1 t5
  have hB2 : RB L t H σ2 τ2 := RB_f (show RB L t H (sA σ1 2 H 5 (upd (gA σ1 2 H 5) n (gI σ1 9 0 6))) (sA (sA τ1 12 0 20 (upd (gA τ1 12 0 20) (6 + n) (gI σ1 9 0 6))) 12 0 25 (upd (gA τ1 12 0 25) (6 + n) 0)) from hB1) t4 t5
  rw [t2, bnd_s, tl_n, bX6_readGrower_46, t3, bnd_s, tl_n, bX12_growerLine_49]
  have hx : ∃ x, x = gI σ1 9 0 6 := ⟨_, rfl⟩
  obtain ⟨x, hx⟩ := hx
  rw [← hx] at v2 w2 F1
  -- worth
  have tn := take_pair (M := 99) hB2 t6 (by decide)
  rw [show nI 99 = 99 from rfl] at tn
  rcases tn with ⟨y, d1, d2⟩ | ⟨σ3, τ3, w, p3, q3, d1, d2, d3, d4, d5, d6, d7, d8, d9⟩
  · rw [d1, d2, bnd_s, bnd_s, tl_s, bX6_readGrower_49, bX12_growerLine_53, if_pos rfl, if_pos rfl]
    exact lo_f hB2 t6 (FR_t F1 (FR_f v2 w2)) y
  have hB3 := RB_f hB2 d3 d4
  rw [d1, d2, bnd_s, bnd_s, tl_s, bX6_readGrower_49, bX12_growerLine_53, if_neg i10, if_neg i10, hB3.2.2.1, d8, d9]
  simp only [c6, a6, c12, a12, ↓reduceIte]
  have F2 := FR_t F1 (show FR H _ _ (sA (sA σ 2 H 5 (upd (gA σ 2 H 5) n x)) 5 (3 + H) 2 (upd (gA σ 5 (3 + H) 2) n (nI w))) (sA (sA (sA τ 12 0 20 (upd (gA τ 12 0 20) (6 + n) x)) 12 0 25 (upd (gA τ 12 0 25) (6 + n) 0)) 12 0 21 (upd (gA τ 12 0 21) (6 + n) (nI w))) from ⟨smC_A s5 _, rdM_u (k := 21) (by omega) (hk 21 (by omega) (by omega)) _⟩)
  have v3 : fuC (sA (sA σ 2 H 5 (upd (gA σ 2 H 5) n x)) 5 (3 + H) 2 (upd (gA σ 5 (3 + H) 2) n (nI w))) (sA σ3 5 (3 + H) 2 (upd (gA σ3 5 (3 + H) 2) n (nI w))) := by
    rw [fuC_A (fuC_t v2 d3)]
    exact fuC_sA (fuC_t v2 d3)
  have w3 : fuM (sA (sA (sA τ 12 0 20 (upd (gA τ 12 0 20) (6 + n) x)) 12 0 25 (upd (gA τ 12 0 25) (6 + n) 0)) 12 0 21 (upd (gA τ 12 0 21) (6 + n) (nI w))) (sA τ3 12 0 21 (upd (gA τ3 12 0 21) (6 + n) (nI w))) := by
    rw [fuM_A (fuM_t w2 d4)]
    exact fuM_sA (fuM_t w2 d4)
  have hB3' : RB L t H (sA σ3 5 (3 + H) 2 (upd (gA σ3 5 (3 + H) 2) n (nI w))) (sA τ3 12 0 21 (upd (gA τ3 12 0 21) (6 + n) (nI w))) := hB3
  have K3 : TKS L (sA σ3 5 (3 + H) 2 (upd (gA σ3 5 (3 + H) 2) n (nI w))) (sA τ3 12 0 21 (upd (gA τ3 12 0 21) (6 + n) (nI w))) p3 q3 := TKS_s d6 rfl rfl rfl rfl rfl rfl rfl rfl
  generalize sA σ3 5 (3 + H) 2 (upd (gA σ3 5 (3 + H) 2) n (nI w)) = σ3a at v3 hB3' K3 ⊢
  generalize sA τ3 12 0 21 (upd (gA τ3 12 0 21) (6 + n) (nI w)) = τ3a at w3 hB3' K3 ⊢
  -- the sign
  obtain ⟨b, b1, b2, b3⟩ : ∃ b : Bool, den 94 [vR 9 0 0, vI 10] σ3a = some (some (vI (bI b)), σ3a) ∧ den 175 [vR 12 0 0, vI 45] τ3a = some (some (vI (bI b)), τ3a) ∧ (b = true → gI σ3a 9 0 5 = 4) := sign_b (k := 1) K3 (by decide)
  obtain ⟨σ4, τ4, p4, q4, s1, s2', s3, s4, s5', s6⟩ : ∃ σ4 τ4 p4 q4, run kX6_readGrower 64 [some (vR 6 0 0), some (vI (nI n)), none] [vI (bI b)] σ3a = run kX6_readGrower 70 [some (vR 6 0 0), some (vI (nI n)), some (vI (bI b))] [] σ4 ∧ run kX12_signed 3 [some (vR 12 0 0), some (vI 9), none] [vI (bI b)] τ3a = run kX12_signed 8 [some (vR 12 0 0), some (vI 9), some (vI (bI b))] [] τ4 ∧ fuC σ3a σ4 ∧ fuM τ3a τ4 ∧ p3 ≤ p4 ∧ TKS L σ4 τ4 p4 q4 := by
    rw [bX6_readGrower_64, bX12_signed_3]
    cases b
    · exact ⟨σ3a, τ3a, p3, q3, if_pos rfl, if_pos rfl, fuC_0, fuM_0, Nat.le_refl _, K3⟩
    · obtain ⟨p4, q4, σ4, τ4, y1, y2, y3, y4, y5, y6, _, _⟩ := tok_pair hB3' K3
      have : p3 < q3 := TKS_p K3 (by rw [b3 rfl]; decide)
      refine ⟨σ4, τ4, p4, q4, ?_, ?_, y4, y5, by omega, y6⟩
      · rw [bI_t rfl, if_neg i10, y2, bnd_s, tl_n]
      · rw [bI_t rfl, if_neg i10, y3, bnd_s, tl_n]
  rw [b1, bnd_s, tl_s, s1, bX6_readGrower_70, dX12_signed, bX12_signed_0, b2, bnd_s, tl_s, s2', bX12_signed_8]
  have hB4 := RB_f hB3' s3 s4
  have v4 := fuC_t v3 s3
  have w4 := fuM_t w3 s4
  have tn := take_pair (M := 9) hB4 s6 (by decide)
  rw [show nI 9 = 9 from rfl] at tn
  rcases tn with ⟨y, d1', d2'⟩ | ⟨σ5, τ5, g, p5, q5, g1, g2, g3, g4, g5, g6, g7, g8, g9⟩
  · rw [d1', d2', bnd_s, bnd_s, tl_s, bX6_readGrower_73, bX12_signed_12, if_pos rfl, if_pos rfl, bnd_s, tl_s, bX12_growerLine_65, if_pos rfl]
    exact lo_f hB4 s6 (FR_t F2 (FR_f v4 w4)) y
  have hB5 := RB_f hB4 g3 g4
  obtain ⟨gg, hgg, cg, mg⟩ : ∃ gg : Int32, (-9 ≤ gg.toInt ∧ gg.toInt ≤ 9) ∧ run kX6_readGrower 73 [some (vR 6 0 0), some (vI (nI n)), some (vI (bI b))] [vI 1] σ5 = (bnd (den 72 [vR 6 0 0, vI 9] (sA σ5 2 H 6 (upd (gA σ5 2 H 6) n gg))) fun v τ => run kX6_readGrower 92 [some (vR 6 0 0), some (vI (nI n)), some (vI (bI b))] (v.toList ++ []) τ) ∧ run kX12_signed 12 [some (vR 12 0 0), some (vI 9), some (vI (bI b))] [vI 1] τ5 = some (some (vI 1), sI τ5 12 0 11 gg) := by
    have rg := gr_rng g (by omega)
    rw [bX6_readGrower_73, bX12_signed_12, if_neg i10, if_neg i10, hB5.2.2.1, g8, g9]
    simp only [c6, a6, ↓reduceIte]
    cases b
    · exact ⟨nI g, rg.1, if_pos rfl, if_pos rfl⟩
    · exact ⟨-(nI g), rg.2, if_neg i10, if_neg i10⟩
  rw [g1, g2, bnd_s, bnd_s, tl_s, cg, mg, bnd_s, tl_s, bX12_growerLine_65, if_neg i10]
  simp only [c12, a12, ↓reduceIte]
  rw [show gI (sI τ5 12 0 11 gg) 12 0 11 = gg from rfl]
  have F3 := FR_t F2 (show FR H _ _ (sA (sA (sA σ 2 H 5 (upd (gA σ 2 H 5) n x)) 5 (3 + H) 2 (upd (gA σ 5 (3 + H) 2) n (nI w))) 2 H 6 (upd (gA σ 2 H 6) n gg)) (sA (sA (sA (sA τ 12 0 20 (upd (gA τ 12 0 20) (6 + n) x)) 12 0 25 (upd (gA τ 12 0 25) (6 + n) 0)) 12 0 21 (upd (gA τ 12 0 21) (6 + n) (nI w))) 12 0 22 (upd (gA τ 12 0 22) (6 + n) gg)) from ⟨smC_A s2 _, rdM_u (k := 22) (by omega) (hk 22 (by omega) (by omega)) _⟩)
  have v5 : fuC (sA (sA (sA σ 2 H 5 (upd (gA σ 2 H 5) n x)) 5 (3 + H) 2 (upd (gA σ 5 (3 + H) 2) n (nI w))) 2 H 6 (upd (gA σ 2 H 6) n gg)) (sA σ5 2 H 6 (upd (gA σ5 2 H 6) n gg)) := by
    rw [fuC_A (fuC_t v4 g3)]
    exact fuC_sA (fuC_t v4 g3)
  have w5 : fuM (sA (sA (sA (sA τ 12 0 20 (upd (gA τ 12 0 20) (6 + n) x)) 12 0 25 (upd (gA τ 12 0 25) (6 + n) 0)) 12 0 21 (upd (gA τ 12 0 21) (6 + n) (nI w))) 12 0 22 (upd (gA τ 12 0 22) (6 + n) gg)) (sA (sI τ5 12 0 11 gg) 12 0 22 (upd (gA (sI τ5 12 0 11 gg) 12 0 22) (6 + n) gg)) := by
    have := fuM_t (fuM_t w4 g4) (fuM_I (k := 11) (by decide) gg)
    rw [fuM_A this]
    exact fuM_sA this
  have hB5' : RB L t H (sA σ5 2 H 6 (upd (gA σ5 2 H 6) n gg)) (sA (sI τ5 12 0 11 gg) 12 0 22 (upd (gA (sI τ5 12 0 11 gg) 12 0 22) (6 + n) gg)) := hB5
  have K5 : TKS L (sA σ5 2 H 6 (upd (gA σ5 2 H 6) n gg)) (sA (sI τ5 12 0 11 gg) 12 0 22 (upd (gA (sI τ5 12 0 11 gg) 12 0 22) (6 + n) gg)) p5 q5 := TKS_s g6 rfl rfl rfl rfl rfl rfl rfl rfl
  generalize sA σ5 2 H 6 (upd (gA σ5 2 H 6) n gg) = σ5a at v5 hB5' K5 ⊢
  generalize sA (sI τ5 12 0 11 gg) 12 0 22 (upd (gA (sI τ5 12 0 11 gg) 12 0 22) (6 + n) gg) = τ5a at w5 hB5' K5 ⊢
  have tn := take_pair (M := 9) hB5' K5 (by decide)
  rw [show nI 9 = 9 from rfl] at tn
  rcases tn with ⟨y, d1', d2'⟩ | ⟨σ6, τ6, d, p6, q6, h1, h2, h3, h4, h5, h6, h7, h8, h9⟩
  · rw [d1', d2', bnd_s, bnd_s, tl_s, bX6_readGrower_92, bX12_growerLine_78, if_pos rfl, if_pos rfl]
    exact lo_f hB5' K5 (FR_t F3 (FR_f v5 w5)) y
  have hB6 := RB_f hB5' h3 h4
  rw [h1, h2, bnd_s, bnd_s, tl_s, bX6_readGrower_92, bX12_growerLine_78, if_neg i10, if_neg i10, hB6.2.2.1, h8, h9]
  simp only [c6, a6, c12, a12, ↓reduceIte]
  have F4 := FR_t F3 (show FR H _ _ (sA (sA (sA (sA σ 2 H 5 (upd (gA σ 2 H 5) n x)) 5 (3 + H) 2 (upd (gA σ 5 (3 + H) 2) n (nI w))) 2 H 6 (upd (gA σ 2 H 6) n gg)) 2 H 7 (upd (gA σ 2 H 7) n (nI d))) (sA (sA (sA (sA (sA τ 12 0 20 (upd (gA τ 12 0 20) (6 + n) x)) 12 0 25 (upd (gA τ 12 0 25) (6 + n) 0)) 12 0 21 (upd (gA τ 12 0 21) (6 + n) (nI w))) 12 0 22 (upd (gA τ 12 0 22) (6 + n) gg)) 12 0 23 (upd (gA τ 12 0 23) (6 + n) (nI d))) from ⟨smC_A s2 _, rdM_u (k := 23) (by omega) (hk 23 (by omega) (by omega)) _⟩)
  have v6 : fuC (sA (sA (sA (sA σ 2 H 5 (upd (gA σ 2 H 5) n x)) 5 (3 + H) 2 (upd (gA σ 5 (3 + H) 2) n (nI w))) 2 H 6 (upd (gA σ 2 H 6) n gg)) 2 H 7 (upd (gA σ 2 H 7) n (nI d))) (sA σ6 2 H 7 (upd (gA σ6 2 H 7) n (nI d))) := by
    rw [fuC_A (fuC_t v5 h3)]
    exact fuC_sA (fuC_t v5 h3)
  have w6 : fuM (sA (sA (sA (sA (sA τ 12 0 20 (upd (gA τ 12 0 20) (6 + n) x)) 12 0 25 (upd (gA τ 12 0 25) (6 + n) 0)) 12 0 21 (upd (gA τ 12 0 21) (6 + n) (nI w))) 12 0 22 (upd (gA τ 12 0 22) (6 + n) gg)) 12 0 23 (upd (gA τ 12 0 23) (6 + n) (nI d))) (sA τ6 12 0 23 (upd (gA τ6 12 0 23) (6 + n) (nI d))) := by
    rw [fuM_A (fuM_t w5 h4)]
    exact fuM_sA (fuM_t w5 h4)
  have hB6' : RB L t H (sA σ6 2 H 7 (upd (gA σ6 2 H 7) n (nI d))) (sA τ6 12 0 23 (upd (gA τ6 12 0 23) (6 + n) (nI d))) := hB6
  have K6 : TKS L (sA σ6 2 H 7 (upd (gA σ6 2 H 7) n (nI d))) (sA τ6 12 0 23 (upd (gA τ6 12 0 23) (6 + n) (nI d))) p6 q6 := TKS_s h6 rfl rfl rfl rfl rfl rfl rfl rfl
  generalize sA σ6 2 H 7 (upd (gA σ6 2 H 7) n (nI d)) = σ6a at v6 hB6' K6 ⊢
  generalize sA τ6 12 0 23 (upd (gA τ6 12 0 23) (6 + n) (nI d)) = τ6a at w6 hB6' K6 ⊢
  have tn := take_pair (M := 99) hB6' K6 (by decide)
  rw [show nI 99 = 99 from rfl] at tn
  rcases tn with ⟨y, d1', d2'⟩ | ⟨σ7, τ7, l, p7, q7, l1, l2, l3, l4, l5, l6, l7, l8, l9⟩
  · rw [d1', d2', bnd_s, bnd_s, tl_s, bX6_readGrower_105, bX12_growerLine_91, if_pos rfl, if_pos rfl]
    exact lo_f hB6' K6 (FR_t F4 (FR_f v6 w6)) y
  have hB7 := RB_f hB6' l3 l4
  have v7 := fuC_t v6 l3
  have w7 := fuM_t w6 l4
  have z0 : gI σ7 2 H 0 = nI n := Eq.trans (v7.1 2 H 0 (by omega) (by omega)) e0
  have z15 : gI τ7 12 0 15 = nI n := Eq.trans (w7.1 12 0 15 (by omega)) e15
  rw [l1, l2, bnd_s, bnd_s, tl_s, bX6_readGrower_105, bX12_growerLine_91, if_neg i10, if_neg i10, hB7.2.2.1, l8, l9, z0, z15]
  simp only [c6, a6, c12, a12, ↓reduceIte, nI_S]
  have v8 : fuC (gwC σ H n x (nI w) gg (nI d) (nI l)) (sI (sA σ7 2 H 8 (upd (gA σ7 2 H 8) n (nI l))) 2 H 0 (nI (n + 1))) := by
    rw [fuC_A v7]
    exact fuC_sI (fuC_sA v7)
  have w8 : fuM (gwM τ n x (nI w) gg (nI d) (nI l)) (sI (sA τ7 12 0 24 (upd (gA τ7 12 0 24) (6 + n) (nI l))) 12 0 15 (nI (n + 1))) := by
    rw [fuM_A w7]
    exact fuM_sI (fuM_sA w7)
  have hq1 : p < p1 := by omega
  have hq2 : p1 < q1 := TKS_p u6 (by rw [k1]; decide)
  refine ⟨_, _, FR_t (gw_FR hn' x (nI w) gg (nI d) (nI l)) (FR_f v8 w8), RB_f (show RB L t H (gwC σ H n x (nI w) gg (nI d) (nI l)) (gwM τ n x (nI w) gg (nI d) (nI l)) from hB) v8 w8, FTQ_f (show FTQ (gwC σ H n x (nI w) gg (nI d) (nI l)) (gwM τ n x (nI w) gg (nI d) (nI l)) from hQ) v8 w8, Or.inr ⟨rfl, rfl, p7, q7, n + 1, r, c, by omega, TKS_s l6 rfl rfl rfl rfl rfl rfl rfl rfl, RD_f (gw_RD hR hn' d7 hgg h7 l7) v8 w8, LW_f (gw_LW hL _ _ _ _ _) v8 w8⟩⟩
end GRO
