/-! READING A TEXT: a line, all lines -/
section LI2
variable {L : Nat} {t : Nat → Nat} {H p q n r c : Nat} {σ τ σ0 τ0 : ST}
theorem lo_2 {ca cm : RS} (K K' : Nat) (h : lout L t H p σ0 τ0 ca cm) (g : ∀ (z : Int32) (ρ : ST), run kX12_lineRead K [some (vR 12 0 0), none, none] [vI z] ρ = if z = 0 then some (some (vI 0), ρ) else bnd (den 175 [vR 12 0 0, vI 59] ρ) fun v τ => run kX12_lineRead 102 [some (vR 12 0 0), some (vI z), none] (v.toList ++ []) τ) (g' : ∀ (z : Int32) (ρ : ST), run kX6_readLine K' [some (vR 6 0 0)] [vI z] ρ = if z = 0 ∨ z = 1 then some (some (vI z), ρ) else none) : lou2 L t H p σ0 τ0 (bnd ca fun v τ => run kX6_readLine K' [some (vR 6 0 0)] (v.toList ++ []) τ) (bnd cm fun v τ => run kX12_lineRead K [some (vR 12 0 0), none, none] (v.toList ++ []) τ) := by
  obtain ⟨σ, τ, h1, h2, h3, h4⟩ := h
  rcases h4 with ⟨e1, e2⟩ | ⟨e1, e2, h5⟩
  · refine ⟨σ, τ, h1, h2, h3, Or.inl ⟨?_, ?_⟩⟩
    · rw [e1, bnd_s, tl_s, g', if_pos i0or]
    · rw [e2, bnd_s, tl_s, g, if_pos rfl]
  · refine ⟨σ, τ, h1, h2, h3, Or.inr ⟨?_, ⟨some (vI 1), none, ?_⟩, h5⟩⟩
    · rw [e1, bnd_s, tl_s, g', if_pos i1or]
    · rw [e2, bnd_s, tl_s, g, if_neg i10]
theorem wsw_6 : ∀ j, j < 19 → (j < 6 → wsw j = j) ∧ (¬ j < 6 → ¬ wsw j < 6) ∧ wsw j < 19 := by decide
theorem line_1 (hB : RB L t H σ τ) (hK : TKS L σ τ p q) (hR : RD H n r c σ τ) (hL : LW H c σ τ) (hQ : FTQ σ τ) : lou2 L t H p σ τ (den 57 [vR 6 0 0] σ) (den 187 [vR 12 0 0] τ) := by
  rw [dX6_readLine, bX6_readLine_0, dX12_lineRead, bX12_lineRead_0]
  have cb : (bnd (den 74 [vR 6 0 0, vI 1] σ) fun v τ => run kX6_readLine 8 [some (vR 6 0 0)] (v.toList ++ []) τ) = some (some (vI 0), faC σ 1) := by
    rw [e_fail, bnd_s, tl_s, bX6_readLine_8, if_pos i0or]
  have cb' : (bnd (den 74 [vR 6 0 0, vI 1] σ) fun v τ => run kX6_readLine 34 [some (vR 6 0 0)] (v.toList ++ []) τ) = some (some (vI 0), faC σ 1) := by
    rw [e_fail, bnd_s, tl_s, bX6_readLine_34, if_pos i0or]
  have mb : (bnd (den 167 [vR 12 0 0, vI 1] τ) fun v τ => run kX12_lineRead 11 [some (vR 12 0 0), none, none] (v.toList ++ []) τ) = some (some (vI 0), faM τ 1) := by
    rw [m_wrong, bnd_s, tl_s, bX12_lineRead_11, if_pos i0or]
  have hbad := lo2_f (L := L) (t := t) (H := H) (p := p) (σ0 := σ) (τ0 := τ) hB hK FR_0 1
  rw [cb, cb', mb]
  have nw : (¬ gI σ 9 0 5 = 3 ∧ ¬ gI τ 12 0 8 = 1) ∨ (gI σ 9 0 5 = 3 ∧ gI τ 12 0 8 = 1 ∧ ∃ j, j < 19 ∧ gI σ 9 0 6 = nI (wsw j) ∧ gI τ 12 0 9 = nI j) := by
    rcases kin_i hK with ⟨k1, k2, _⟩ | h | ⟨_, k1, _, k2⟩
    · exact Or.inl (by rw [k1, k2]; decide)
    · exact Or.inr h
    · exact Or.inl ⟨k1, k2⟩
  rcases nw with ⟨k1, k2⟩ | ⟨k1, k2, j, hj, ka, kb⟩
  · rw [if_neg k1, if_neg k2]
    exact hbad
  have hpq : p < q := TKS_p hK (by rw [k1]; decide)
  obtain ⟨w1, w2, w3⟩ := wsw_6 j hj
  rw [if_pos k1, if_pos k2, ka, kb]
  by_cases h6 : j < 6
  · rw [w1 h6, if_neg (show ¬ (5 : Int32) < nI j from nI_nlt (a := 5) (by omega) (by omega))]
    have h6' : j = 0 ∨ j = 1 ∨ j = 2 ∨ j = 3 ∨ j = 4 ∨ j = 5 := by omega
    rcases h6' with rfl | rfl | rfl | rfl | rfl | rfl
    · rw [if_pos (show nI 0 = 0 from rfl), if_pos (show nI 0 = 0 from rfl)]
      exact lo_2 17 15 (grower_line hB hK hpq hR hL hQ) (fun z ρ => bX12_lineRead_17 _ _ _ _) (fun z ρ => bX6_readLine_15 _ _ _)
    · rw [if_neg (show ¬ nI 1 = 0 by decide), if_neg (show ¬ nI 1 = 0 by decide), if_pos (show nI 1 = 1 from rfl), if_pos (show nI 1 = 1 from rfl)]
      exact lo_2 21 18 (sees_line hB hK hpq hR hL hQ) (fun z ρ => bX12_lineRead_21 _ _ _ _) (fun z ρ => bX6_readLine_18 _ _ _)
    · rw [if_neg (show ¬ nI 2 = 0 by decide), if_neg (show ¬ nI 2 = 0 by decide), if_neg (show ¬ nI 2 = 1 by decide), if_neg (show ¬ nI 2 = 1 by decide), if_pos (show nI 2 = 2 from rfl), if_pos (show nI 2 = 2 from rfl)]
      exact lo_2 25 21 (ribbon_line hB hK hpq hR hL hQ) (fun z ρ => bX12_lineRead_25 _ _ _ _) (fun z ρ => bX6_readLine_21 _ _ _)
    · rw [if_neg (show ¬ nI 3 = 0 by decide), if_neg (show ¬ nI 3 = 0 by decide), if_neg (show ¬ nI 3 = 1 by decide), if_neg (show ¬ nI 3 = 1 by decide), if_neg (show ¬ nI 3 = 2 by decide), if_neg (show ¬ nI 3 = 2 by decide), if_pos (show nI 3 = 3 from rfl), if_pos (show nI 3 = 3 from rfl)]
      exact lo_2 31 24 (blight_line hB hK hpq hR hL hQ) (fun z ρ => bX12_lineRead_31 _ _ _ _) (fun z ρ => bX6_readLine_24 _ _ _)
    · rw [if_neg (show ¬ nI 4 = 0 by decide), if_neg (show ¬ nI 4 = 0 by decide), if_neg (show ¬ nI 4 = 1 by decide), if_neg (show ¬ nI 4 = 1 by decide), if_neg (show ¬ nI 4 = 2 by decide), if_neg (show ¬ nI 4 = 2 by decide), if_neg (show ¬ nI 4 = 3 by decide), if_neg (show ¬ nI 4 = 3 by decide), if_pos (show nI 4 = 4 from rfl), if_pos (show nI 4 = 4 from rfl)]
      exact lo_2 37 27 (seed_line hB hK hpq hR hL hQ) (fun z ρ => bX12_lineRead_37 _ _ _ _) (fun z ρ => bX6_readLine_27 _ _ _)
    · rw [if_neg (show ¬ nI 5 = 0 by decide), if_neg (show ¬ nI 5 = 0 by decide), if_neg (show ¬ nI 5 = 1 by decide), if_neg (show ¬ nI 5 = 1 by decide), if_neg (show ¬ nI 5 = 2 by decide), if_neg (show ¬ nI 5 = 2 by decide), if_neg (show ¬ nI 5 = 3 by decide), if_neg (show ¬ nI 5 = 3 by decide), if_neg (show ¬ nI 5 = 4 by decide), if_neg (show ¬ nI 5 = 4 by decide), if_pos (show nI 5 = 5 from rfl)]
      obtain ⟨σ', τ', g1, g2, g3, g4⟩ := law_line hB hK hpq hR hL hQ none none
      refine ⟨σ', τ', g1, g2, g3, ?_⟩
      rcases g4 with ⟨e1, e2⟩ | ⟨e1, e2, g5⟩
      · exact Or.inl ⟨by rw [e1, bnd_s, tl_s, bX6_readLine_30, if_pos i0or], e2⟩
      · exact Or.inr ⟨by rw [e1, bnd_s, tl_s, bX6_readLine_30, if_pos i1or], e2, g5⟩
  · have w6 := w2 h6
    have nk : ∀ k, k < 6 → ¬ nI (wsw j) = nI k := fun k hk z => by have := (nI_eq (by omega) (by omega)).mp z; omega
    rw [if_neg (show ¬ nI (wsw j) = 0 from nk 0 (by decide)), if_neg (show ¬ nI (wsw j) = 1 from nk 1 (by decide)), if_neg (show ¬ nI (wsw j) = 2 from nk 2 (by decide)), if_neg (show ¬ nI (wsw j) = 3 from nk 3 (by decide)), if_neg (show ¬ nI (wsw j) = 4 from nk 4 (by decide)), if_neg (show ¬ nI (wsw j) = 5 from nk 5 (by decide)), if_pos (show (5 : Int32) < nI j from nI_lt (a := 5) (by omega) (by omega))]
    exact hbad
/-- a line with its end -/
theorem line_pair (hB : RB L t H σ τ) (hK : TKS L σ τ p q) (hR : RD H n r c σ τ) (hL : LW H c σ τ) (hQ : FTQ σ τ) (x1 x2 : Int32) : ∃ σ' τ', FR H σ τ σ' τ' ∧ RB L t H σ' τ' ∧ FTQ σ' τ' ∧
    (((bnd (den 57 [vR 6 0 0] σ) fun v τ => run kX6_read 30 [some (vR 6 0 0), some (vI x1), some (vI x2)] (v.toList ++ []) τ) = some (some (vI (-1)), σ') ∧ den 187 [vR 12 0 0] τ = some (some (vI 0), τ')) ∨
    ((bnd (den 57 [vR 6 0 0] σ) fun v τ => run kX6_read 30 [some (vR 6 0 0), some (vI x1), some (vI x2)] (v.toList ++ []) τ) = run kX6_read 21 [some (vR 6 0 0), some (vI x1), some (vI (x2 + 1))] [] σ' ∧ den 187 [vR 12 0 0] τ = some (some (vI 1), τ') ∧ ∃ p' q' n r c, p < p' ∧ TKS L σ' τ' p' q' ∧ RD H n r c σ' τ' ∧ LW H c σ' τ')) := by
  obtain ⟨σ1, τ1, h1, h2, h3, h4⟩ := line_1 hB hK hR hL hQ
  rcases h4 with ⟨e1, e2⟩ | ⟨e1, ⟨y1, y2, e2⟩, p1, q1, n', r', c', hp, hK1, hR1, hL1⟩
  · refine ⟨σ1, τ1, h1, h2, h3, Or.inl ⟨?_, e2⟩⟩
    rw [e1, bnd_s, tl_s, bX6_read_30, if_pos rfl]
  · rw [e1, bnd_s, tl_s, bX6_read_30, if_neg i10, e2, dX6_takeSign, bX6_takeSign_0]
    obtain ⟨b, s1, s2, s3⟩ : ∃ b : Bool, den 94 [vR 9 0 0, vI 15] σ1 = some (some (vI (bI b)), σ1) ∧ den 175 [vR 12 0 0, vI 59] τ1 = some (some (vI (bI b)), τ1) ∧ (b = true → gI σ1 9 0 5 = 4) := sign_b (k := 6) hK1 (by decide)
    rw [s1, s2, bnd_s, bnd_s, tl_s, bX6_takeSign_4, bX12_lineRead_102]
    cases b with
    | false =>
      rw [bI_f rfl, if_pos rfl, if_pos rfl, e_fail, bnd_s, tl_s, bX6_takeSign_8, if_pos i0or, bnd_s, tl_s, bX6_read_34, if_pos rfl, m_wrong, bnd_s, tl_s, bX12_lineRead_106, if_pos i0or]
      exact ⟨faC σ1 1, faM τ1 1, FR_t h1 (FR_fa 1), h2, fl_q hK1 1, Or.inl ⟨rfl, rfl⟩⟩
    | true =>
      obtain ⟨p2, q2, σ2, τ2, t1, t2, t3, t4, t5, t6, _, _⟩ := tok_pair h2 hK1
      have := TKS_p hK1 (by rw [s3 rfl]; decide)
      rw [bI_t rfl, if_neg i10, if_neg i10, t2, bnd_s, tl_n, bX6_takeSign_12, bnd_s, tl_s, bX6_read_34, if_neg i10, t3, bnd_s, tl_n, bX12_lineRead_109]
      exact ⟨σ2, τ2, FR_t h1 (FR_f t4 t5), RB_f h2 t4 t5, FTQ_f h3 t4 t5, Or.inr ⟨rfl, rfl, p2, q2, n', r', c', by omega, t6, RD_f hR1 t4 t5, LW_f hL1 t4 t5⟩⟩
/-- all lines -/
theorem lines_loop : ∀ (N p q x2 : Nat) (σ τ : ST) (n r c : Nat), L - p < N → x2 ≤ p → RB L t H σ τ → TKS L σ τ p q → RD H n r c σ τ → LW H c σ τ → FTQ σ τ → ∀ y1 : Option AV, klf y1 = y1 → ∃ σ' τ', FR H σ τ σ' τ' ∧ RB L t H σ' τ' ∧ FTQ σ' τ' ∧
    ((run kX6_read 21 [some (vR 6 0 0), some (vI (nI L)), some (vI (nI x2))] [] σ = some (some (vI (-1)), σ') ∧ run kX12_text 32 [some (vR 12 0 0), y1, some (vI (nI x2))] [] τ = some (some (vI (-1)), τ')) ∨
    ∃ k n r c, k ≤ L ∧ run kX6_read 21 [some (vR 6 0 0), some (vI (nI L)), some (vI (nI x2))] [] σ = some (some (vI (nI k)), sL σ' 5 (3 + H) 1 (Int32.toInt64 (gI σ' 2 H 3))) ∧ run kX12_text 32 [some (vR 12 0 0), y1, some (vI (nI x2))] [] τ = (bnd (den 180 [vR 12 0 0] τ') fun v τ => run kX12_text 44 [some (vR 12 0 0), y1, some (vI (nI k))] (v.toList ++ []) τ) ∧ RD H n r c σ' τ' ∧ LW H c σ' τ')
  | 0, p, q, x2, σ, τ, n, r, c, hN, hx, hB, hK, hR, hL, hQ, y1, hy => absurd hN (Nat.not_lt_zero _)
  | N + 1, p, q, x2, σ, τ, n, r, c, hN, hx, hB, hK, hR, hL, hQ, y1, hy => by
    have hL7 : L ≤ 700 := hB.1.1
    have hqL : q ≤ L := hK.2.2.2.2.2.1
    have hpq0 : p ≤ q := hK.2.2.2.2.1
    rw [bX6_read_21, if_neg (show ¬ nI L < nI x2 from nI_nlt (by omega) (by omega)), bX12_text_32, hB.2.2.1]
    have k0 : (gI σ 9 0 5 = 0 ∧ gI τ 12 0 8 = 0) ∨ (¬ gI σ 9 0 5 = 0 ∧ ¬ gI τ 12 0 8 = 0) := by
      rcases TKS_n hK with ⟨e, e'⟩ | ⟨e, e', _⟩ | ⟨e, e', _⟩ | ⟨e, e', _⟩ | ⟨e, ⟨e', _⟩ | ⟨e', _⟩⟩ | ⟨e, e' | ⟨e', _⟩⟩
      · exact Or.inl ⟨e, e'⟩
      all_goals exact Or.inr (by rw [e, e']; decide)
    rcases k0 with ⟨e, e'⟩ | ⟨e, e'⟩
    · rw [if_pos e, if_pos e']
      exact ⟨σ, τ, FR_0, hB, hQ, Or.inr ⟨x2, n, r, c, by omega, rfl, rfl, hR, hL⟩⟩
    · rw [if_neg e, if_neg e']
      obtain ⟨σ1, τ1, h1, h2, h3, h4⟩ := line_pair hB hK hR hL hQ (nI L) (nI x2)
      rcases h4 with ⟨e1, e2⟩ | ⟨e1, e2, p1, q1, n1, r1, c1, hp, hK1, hR1, hL1⟩
      · rw [e1, e2, bnd_s, tl_s, bX12_text_37, if_pos rfl]
        exact ⟨σ1, τ1, h1, h2, h3, Or.inl ⟨rfl, rfl⟩⟩
      · rw [e1, e2, bnd_s, tl_s, bX12_text_37, if_neg i10, nI_S, hy]
        have z1 := hK1.2.2.2.2.1
        have z2 := hK1.2.2.2.2.2.1
        obtain ⟨σ2, τ2, g1, g2, g3, g4⟩ := lines_loop N p1 q1 (x2 + 1) σ1 τ1 n1 r1 c1 (by omega) (by omega) h2 hK1 hR1 hL1 h3 y1 hy
        exact ⟨σ2, τ2, FR_t h1 g1, g2, g3, g4⟩
end LI2
