/-! READING A TEXT: laws, a whole one -/
section EXL
variable {L : Nat} {t : Nat → Nat} {H o f : Nat}
theorem lx_tok {i B cnt p q : Nat} {ws st : List Nat} {σ τ : ST} (hB : RB L t H σ τ) (hK : TKS L σ τ p q) (hE : EX H o f i B cnt ws st σ τ) : ∃ p' q' σ' τ', q ≤ p' ∧ den 92 [vR 9 0 0] σ = some (none, σ') ∧ den 171 [vR 12 0 0] τ = some (none, τ') ∧ ftM τ τ' ∧ LX H o f σ τ σ' τ' ∧ EX H o f i B cnt ws st σ' τ' ∧ TKS L σ' τ' p' q' := by
  obtain ⟨p', q', σ', τ', h1, h2, h3, h4, h5, h6⟩ := token_pair hB.1 hB.2.1 hK.2.2.2.2.2.1 hK.1 hK.2.1
  exact ⟨p', q', σ', τ', h1, h2, h3, h5, ⟨lxC_f h4, lxM_f h5⟩, EX_f hE h4 h5, h6⟩
/-- how a law ends -/
def xout (L H o f p : Nat) (σ τ : ST) (ca cm : RS) : Prop :=
  (∃ x σ' τ' p' q', ca = some (some (vI 0), faC σ' x) ∧ cm = some (some (vI 0), faM τ' x) ∧ LX H o f σ τ σ' τ' ∧ TKS L σ' τ' p' q') ∨
  ∃ i cnt x σ' τ' p' q', p ≤ p' ∧ ca = some (some (vI 1), σ') ∧ cm = some (some (vI 1), τ') ∧ EX H o f i 0 cnt [] [x] σ' τ' ∧ LX H o f σ τ σ' τ' ∧ TKS L σ' τ' p' q'
theorem expr_loop : ∀ (N p q m i B cnt x3 : Nat) (ws st : List Nat) (σ τ : ST), L - p < N → x3 ≤ p → m < 3 → RB L t H σ τ → TKS L σ τ p q → EX H o f i B cnt ws st σ τ → MD m τ → st.length = bc ws + (if m = 2 then 1 else 0) →
    xout L H o f p σ τ (run kX6_readExpression 10 [some (vR 6 0 0), some (vR 3 o 0), some (vI (nI m)), some (vI (nI x3))] [] σ) (run kX12_sumRead 15 [some (vR 12 0 0)] [] τ)
  | 0, p, q, m, i, B, cnt, x3, ws, st, σ, τ, hN, hx, hm, hB, hK, hE, hM, hl => absurd hN (Nat.not_lt_zero _)
  | N + 1, p, q, m, i, B, cnt, x3, ws, st, σ, τ, hN, hx, hm, hB, hK, hE, hM, hl => by
    have hL : L ≤ 700 := hB.1.1
    have hqL : q ≤ L := hK.2.2.2.2.2.1
    have hpq0 : p ≤ q := hK.2.2.2.2.1
    have n7 : ¬ (700 : Int32) < nI x3 := nI_nlt (a := 700) (by omega) (by omega)
    -- a round that doesn't end the law
    have go : ∀ (ca cm : RS) (y2 : Option AV), rnd L H o f p q σ τ ca cm → xout L H o f p σ τ (bnd ca fun v τ => run kX6_readExpression 28 [some (vR 6 0 0), some (vR 3 o 0), y2, some (vI (nI x3))] (v.toList ++ []) τ) (bnd cm fun v τ => run kX12_sumRead 30 [some (vR 12 0 0)] (v.toList ++ []) τ) := by
      intro ca cm y2 hr
      rcases hr with ⟨x, σ', τ', r1, r2, r3, r4⟩ | ⟨m', i', B', cnt', ws', st', σ', τ', r1, r2, r3, r4, r5, r6, r7, r8, r9⟩
      · rw [r1, r2, bnd_s, tl_s, bX6_readExpression_28, if_neg (by decide), if_pos rfl, if_neg (by decide), bnd_s, tl_s, bX12_sumRead_30, if_pos rfl]
        exact Or.inl ⟨x, σ', τ', p, q, rfl, rfl, r3, r4⟩
      · obtain ⟨p2, q2, σ2, τ2, t1, t2, t3, t4, t5, t6, t7⟩ := lx_tok (RB_x hB r7) r8 r4
        have hm3 : ¬ nI m' = 3 := fun z => by have := (nI_eq (b := 3) (by omega) (by decide)).mp z; omega
        have hm4 : ¬ nI m' = 4 := fun z => by have := (nI_eq (b := 4) (by omega) (by decide)).mp z; omega
        rw [r2, bnd_s, tl_s, bX6_readExpression_28, if_neg hm3, if_neg hm4, t2, bnd_s, tl_n, bX6_readExpression_45, nI_S, r3 _ t3, bnd_s, tl_s, bX12_sumRead_30, if_neg i10]
        have X := LX_t r7 t5
        rcases expr_loop N p2 q2 m' i' B' cnt' (x3 + 1) ws' st' σ2 τ2 (by omega) (by omega) r1 (RB_x hB X) t7 t6 (MD_f r5 t4) r6 with ⟨x, σ3, τ3, p3, q3, g1, g2, g3, g4⟩ | ⟨i3, cnt3, x, σ3, τ3, p3, q3, g0, g1, g2, g3, g4, g5⟩
        · exact Or.inl ⟨x, σ3, τ3, p3, q3, g1, g2, LX_t X g3, g4⟩
        · exact Or.inr ⟨i3, cnt3, x, σ3, τ3, p3, q3, by omega, g1, g2, g3, LX_t X g4, g5⟩
    have s34 : ∀ (z : Int32) (ρ : ST), run kX12_sumRead 34 [some (vR 12 0 0)] [vI z] ρ = run kX12_sumRead 30 [some (vR 12 0 0)] [vI z] ρ := fun z ρ => by rw [bX12_sumRead_34, bX12_sumRead_30]
    have s19 : ∀ (z : Int32) (ρ : ST) (y : Option AV), run kX6_readExpression 19 [some (vR 6 0 0), some (vR 3 o 0), y, some (vI (nI x3))] [vI z] ρ = run kX6_readExpression 28 [some (vR 6 0 0), some (vR 3 o 0), y, some (vI (nI x3))] [vI z] ρ := fun z ρ y => bX6_readExpression_19 _ _ _ _ _
    by_cases hm2 : m = 2
    · subst hm2
      have z39 : gI τ 12 0 39 = 0 := by
        rcases hM with ⟨h, _⟩ | ⟨h, _⟩ | ⟨_, h⟩
        · omega
        · omega
        · exact h
      rw [if_pos rfl] at hl
      rw [bX6_readExpression_10, if_neg n7, if_pos (show nI 2 = 2 from rfl), bX12_sumRead_15]
      rcases behind_pair hB hK hE hM hl with ⟨i', x, σ', τ', d0, d1, d2, d3, d4, d5, d6⟩ | ⟨b, d1, d2, d3⟩
      · rw [d1, bnd_s, tl_s, s19, bX6_readExpression_28, if_pos rfl, if_pos rfl, d2, bnd_s, tl_s, d3]
        exact Or.inr ⟨i', cnt, x, σ', τ', p, q, Nat.le_refl _, rfl, rfl, d4, d5, d6⟩
      · have h199 : run kX12_sumRead 18 [some (vR 12 0 0)] [vI (bI b)] τ = bnd (den 199 [vR 12 0 0] τ) fun v τ => run kX12_sumRead 34 [some (vR 12 0 0)] (v.toList ++ []) τ := by
          rw [bX12_sumRead_18]
          cases b with
          | false => rw [bI_f rfl, if_pos rfl, if_pos z39]
          | true =>
            have hE37 : gI τ 12 0 37 = nI B := hE.2.2.1.2
            have hB8 := hE.1.2.2.2.1
            rw [bI_t rfl, if_neg i10, if_pos z39, hE37, if_pos (show (0 : Int32) < nI B from nI_lt (a := 0) (d2 rfl) (by omega)), if_pos z39]
        rw [d1, bnd_s, tl_s, h199]
        have gg := go _ _ (some (vI (nI 2))) d3
        have c1 : (bnd (den 66 [vR 6 0 0, vR 3 o 0] σ) fun v τ => run kX6_readExpression 19 [some (vR 6 0 0), some (vR 3 o 0), some (vI (nI 2)), some (vI (nI x3))] (v.toList ++ []) τ) = (bnd (den 66 [vR 6 0 0, vR 3 o 0] σ) fun v τ => run kX6_readExpression 28 [some (vR 6 0 0), some (vR 3 o 0), some (vI (nI 2)), some (vI (nI x3))] (v.toList ++ []) τ) := by
          rcases d3 with ⟨x, σ', τ', r1, _⟩ | ⟨m', i', B', cnt', ws', st', σ', τ', _, r2, _⟩
          · rw [r1, bnd_s, bnd_s, tl_s, s19]
          · rw [r2, bnd_s, bnd_s, tl_s, s19]
        have c2 : (bnd (den 199 [vR 12 0 0] τ) fun v τ => run kX12_sumRead 34 [some (vR 12 0 0)] (v.toList ++ []) τ) = (bnd (den 199 [vR 12 0 0] τ) fun v τ => run kX12_sumRead 30 [some (vR 12 0 0)] (v.toList ++ []) τ) := by
          rcases d3 with ⟨x, σ', τ', _, r1, _⟩ | ⟨m', i', B', cnt', ws', st', σ', τ', _, r2, r3, r4, _, _, r7, r8, _⟩
          · rw [r1, bnd_s, bnd_s, tl_s, s34]
          · obtain ⟨p2, q2, σ2, τ2, t1, t2, t3, _⟩ := lx_tok (RB_x hB r7) r8 r4
            rw [r3 _ t3, bnd_s, bnd_s, tl_s, s34]
        rw [c1, c2]
        exact gg
    · have z39 : gI τ 12 0 39 = 1 := by
        rcases hM with ⟨_, h, _⟩ | ⟨_, h, _⟩ | ⟨h, _⟩
        · exact h
        · exact h
        · omega
      rw [if_neg hm2] at hl
      have n39 : ¬ gI τ 12 0 39 = 0 := by rw [z39]; decide
      have vp := value_pair hB hK hE (show m < 2 by omega) hM hl
      obtain ⟨b, s1, s2, s3⟩ : ∃ b : Bool, den 94 [vR 9 0 0, vI 15] σ = some (some (vI (bI b)), σ) ∧ den 175 [vR 12 0 0, vI 59] τ = some (some (vI (bI b)), τ) ∧ (b = true → gI σ 9 0 5 = 4) := sign_b (k := 6) hK (by decide)
      have h198 : run kX12_sumRead 18 [some (vR 12 0 0)] [vI (bI b)] τ = bnd (den 198 [vR 12 0 0] τ) fun v τ => run kX12_sumRead 30 [some (vR 12 0 0)] (v.toList ++ []) τ := by
        rw [bX12_sumRead_18]
        cases b with
        | false => rw [bI_f rfl, if_pos rfl, if_neg n39]
        | true => rw [bI_t rfl, if_neg i10, if_neg n39, if_neg n39]
      rw [bX6_readExpression_10, if_neg n7, if_neg (show ¬ nI m = 2 from fun z => hm2 ((nI_eq (b := 2) (by omega) (by decide)).mp z)), bX12_sumRead_15, s2, bnd_s, tl_s, h198]
      by_cases h0 : m = 0
      · rw [if_pos h0] at vp
        rw [if_pos (show nI m = 0 by rw [h0]; rfl)]
        exact go _ _ _ vp
      · rw [if_neg h0] at vp
        rw [if_neg (show ¬ nI m = 0 from fun z => h0 ((nI_eq (b := 0) (by omega) (by decide)).mp z))]
        exact go _ _ _ vp
theorem wfS_top {K kn pa ot : Nat → Int32} {f i x : Nat} (h : wfS K kn pa ot f i [x]) : 0 < i ∧ x = f + i - 1 := by
  cases i with
  | zero => cases h
  | succ i =>
    obtain ⟨st0, h0, h1⟩ := h
    refine ⟨by omega, ?_⟩
    rcases h1 with ⟨_, _, _, _, _, e⟩ | ⟨_, _, _, _, _, e⟩ | ⟨_, _, _, _, _, _, e⟩ | ⟨_, _, _, _, _, _, _, _, _, _, _, e⟩
    all_goals
      injection e with e1 e2
theorem expr_pair {p q c : Nat} {σ τ : ST} (hB : RB L t H σ τ) (hK : TKS L σ τ p q) (hc : c ≤ 64) (h4 : gI σ 2 H 4 = nI c) (h38 : gI τ 12 0 38 = nI c) (h17 : gI τ 12 0 17 = nI c) (h1 : gI σ 3 o 1 = 0) : xout L H o c p σ τ (den 64 [vR 6 0 0, vR 3 o 0] σ) (den 200 [vR 12 0 0] τ) := by
  have X : LX H o c σ τ (sI (sI σ 6 0 2 0) 6 0 3 0) (sI (sI (sI (sI (sI τ 12 0 35 0) 12 0 36 0) 12 0 37 0) 12 0 39 1) 12 0 40 1) := ⟨lxC_t (lxC_I (Or.inl ⟨rfl, Or.inl rfl⟩) _) (lxC_I (Or.inl ⟨rfl, Or.inr rfl⟩) _), lxM_t (lxM_I (Or.inr (Or.inr (by omega))) _) (lxM_t (lxM_I (Or.inr (Or.inr (by omega))) _) (lxM_t (lxM_I (Or.inr (Or.inr (by omega))) _) (lxM_t (lxM_I (Or.inr (Or.inr (by omega))) _) (lxM_I (Or.inr (Or.inr (by omega))) _))))⟩
  have E : EX H o c 0 0 c [] [] (sI (sI σ 6 0 2 0) 6 0 3 0) (sI (sI (sI (sI (sI τ 12 0 35 0) 12 0 36 0) 12 0 37 0) 12 0 39 1) 12 0 40 1) := ⟨⟨fun k hk => absurd hk (List.not_mem_nil), rfl, rfl, by omega, hc⟩, ⟨rfl, rfl⟩, ⟨rfl, rfl⟩, ⟨h4, h38⟩, ⟨h1, h17⟩, rfl, trivial, trivial, trivial, rfl⟩
  rw [dX6_readExpression, bX6_readExpression_0, dX12_sumRead, bX12_sumRead_0]
  rcases expr_loop (L + 1) p q 0 0 0 c 0 [] [] _ _ (by omega) (by omega) (by omega) (RB_x hB X) (TKS_s hK rfl rfl rfl rfl rfl rfl rfl rfl) E (Or.inl ⟨rfl, rfl, rfl⟩) rfl with ⟨x, σ3, τ3, p3, q3, g1, g2, g3, g4⟩ | ⟨i3, cnt3, x, σ3, τ3, p3, q3, g0, g1, g2, g3, g4, g5⟩
  · exact Or.inl ⟨x, σ3, τ3, p3, q3, g1, g2, LX_t X g3, g4⟩
  · exact Or.inr ⟨i3, cnt3, x, σ3, τ3, p3, q3, g0, g1, g2, g3, LX_t X g4, g5⟩
end EXL
