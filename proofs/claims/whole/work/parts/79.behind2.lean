/-! READING A TEXT: laws; behind a value -/
section BE2
variable {L : Nat} {t : Nat → Nat} {H o f i B cnt p q : Nat} {ws st : List Nat} {σ τ : ST}
/-- a bracket closes -/
abbrev csC (σ : ST) (B W : Nat) : ST := sI (sI σ 6 0 2 (nI W)) 6 0 3 (nI B)
abbrev csM (τ : ST) (B W : Nat) : ST := sI (sI τ 12 0 35 (nI W)) 12 0 37 (nI B)
theorem EX_cls {r : List Nat} (h : EX H o f i (B + 1) cnt (0 :: r) st σ τ) : EX H o f i B cnt r st (csC σ B r.length) (csM τ B r.length) := by
  obtain ⟨⟨p1, p2, p3, p4, p5⟩, h1, h3, h4, h5, h7, h8, h9, h10, h11⟩ := h
  rw [List.length_cons] at p3
  rw [zc, if_pos rfl] at p2
  exact ⟨⟨fun k' hk' => p1 k' (List.mem_cons_of_mem _ hk'), by omega, by omega, by omega, p5⟩, ⟨rfl, rfl⟩, ⟨rfl, rfl⟩, h4, h5, h7, h8.2, h9.2, h10, h11⟩
/-- where release stops at least 0 -/
theorem stop_0 (hE : EX H o f i B cnt ws st σ τ) (h : ws = [] ∨ ∃ k r, ws = k :: r ∧ rnk k < 0 + 1) : (B = 0 ∧ ws = []) ∨ ∃ B' r, B = B' + 1 ∧ ws = 0 :: r := by
  obtain ⟨⟨p1, p2, p3, p4, p5⟩, _⟩ := hE
  rcases h with e | ⟨k, r, e, hk⟩
  · rw [e] at p2
    exact Or.inl ⟨p2.symm, e⟩
  · rw [e] at p1 p2
    rcases p1 k (List.mem_cons_self) with h0 | h0
    · subst h0
      rw [zc, if_pos rfl] at p2
      exact Or.inr ⟨zc r, r, p2.symm, e⟩
    · have := (rkg_t k (by omega)).2.2 h0.1
      omega
theorem rnk_t : ∀ k, k < 15 → 3 ≤ k → rnk k - 1 ≤ 5 ∧ (rnk k = 4 ↔ bdg (nI (csg k)) = 3) ∧ (rkg (nI k) = 4 ↔ rnk k = 4) ∧ (rnk k < 3 ↔ (k = 3 ∨ k = 4)) ∧ csg k < 13 ∧ (csg k = 0 ↔ k = 4) ∧ (csg k = 1 ↔ k = 3) ∧ 1 ≤ rnk k := by decide
theorem top_t : ∀ k, k < 15 → (bdg (nI (csg k)) = 3 ↔ (k ≠ 1 ∧ rnk k = 4)) ∨ k = 1 := by decide
theorem rk4_t : ∀ k, k < 15 → (rkg (nI k) = 4 ↔ rnk k = 4) := by decide
/-- both at the end of a sign: counted, it waits -/
theorem sgn_end (hB : RB L t H σ τ) (hK : TKS L σ τ p q) (hpq : p < q) (hE : EX H o f i B cnt ws st σ τ) (hl : st.length = bc ws + 1) {k : Nat} (hk : 3 ≤ k ∧ k ≤ 14) (y1 y3 y4 : Option AV) {σ0 τ0 : ST} (hx : LX H o f σ0 τ0 σ τ) :
    rnd L H o f p q σ0 τ0 (bnd (den 70 [vR 6 0 0] σ) fun v τ => run kX6_readBehind 91 [some (vR 6 0 0), y1, some (vI (nI (csg k))), y3, y4] (v.toList ++ []) τ) (bnd (den 195 [vR 12 0 0] τ) fun v τ => run kX12_signs 112 [some (vR 12 0 0), some (vI (nI k))] (v.toList ++ []) τ) := by
  obtain ⟨b1, b2, b3, b4⟩ := EX_b hE
  obtain ⟨⟨p1, p2, p3, p4, p5⟩, ⟨h1, h2⟩, ⟨h3, h3'⟩, ⟨h4, h4'⟩, ⟨h5, h6⟩, h7, h8, h9, h10, h11⟩ := id hE
  obtain ⟨r1, r2, r3, r4, r5, r6, r7, r8⟩ := rnk_t k (by omega) hk.1
  rw [e_count hB.2.2.1 h4 p5, bnd_s, tl_s, bX6_readBehind_91, m_count h4' p5]
  by_cases e : cnt = 64
  · have K1 : TKS L (sI σ 2 H 4 (nI (cnt + 1))) τ p q := TKS_s hK rfl rfl rfl rfl rfl rfl rfl rfl
    have x1 : LX H o f σ τ (sI σ 2 H 4 (nI (cnt + 1))) τ := ⟨lxC_I (Or.inr (Or.inl ⟨rfl, rfl, rfl⟩)) _, lxM_0⟩
    rw [if_pos e, if_pos rfl, e_failed, bnd_s, tl_s, bX6_readBehind_95, if_pos e, bnd_s, tl_s, bX12_signs_112, if_pos rfl]
    exact rnd_f (LX_t hx x1) K1 2
  · have e1 : gI (sI σ 2 H 4 (nI (cnt + 1))) 6 0 2 = nI ws.length := h1
    have e2 : gI (sI τ 12 0 38 (nI (cnt + 1))) 12 0 35 = nI ws.length := h2
    have E' := EX_def hE (by omega) (k := k) (by omega)
    have hlen : st.length = bc (k :: ws) + 0 := by
      rw [bc, if_pos hk.1]
      omega
    rw [if_neg e, if_neg i10, e_defer (by omega) e1, bnd_s, tl_n, bX6_readBehind_99, if_neg e, bnd_s, tl_s, bX12_signs_112, if_neg i10, m_waits (by omega) e2, bnd_s, tl_n, bX12_signs_118, m_rank, bnd_s, tl_s, bX12_signs_124, (rkg_t k (by omega)).1]
    by_cases h34 : k = 3 ∨ k = 4
    · have z : (if nI (csg k) = (0 : Int32) then some (some (vI (0 : Int32)), dfC σ H cnt ws.length (nI (csg k))) else if nI (csg k) = (1 : Int32) then some (some (vI (0 : Int32)), dfC σ H cnt ws.length (nI (csg k))) else some (some (vI (1 : Int32)), dfC σ H cnt ws.length (nI (csg k)))) = some (some (vI (0 : Int32)), dfC σ H cnt ws.length (nI (csg k))) := by
        rcases h34 with rfl | rfl
        · rw [if_neg (by decide), if_pos (by decide)]
        · rw [if_pos (by decide)]
      refine Or.inr ⟨0, i, B, cnt + 1, k :: ws, st, dfC σ H cnt ws.length (nI (csg k)), sI (sI (dfM τ cnt ws.length (nI k)) 12 0 39 1) 12 0 40 1, by omega, z, ?_, E', Or.inl ⟨rfl, rfl, rfl⟩, hlen, LX_t hx (LX_t (df_x ws.length (nI (csg k)) (nI k)) ⟨lxC_0, lxM_t (lxM_I (Or.inr (Or.inr (by omega))) _) (lxM_I (Or.inr (Or.inr (by omega))) _)⟩), TKS_s hK rfl rfl rfl rfl rfl rfl rfl rfl, hpq⟩
      intro τ'' h
      rw [if_pos (show nI (rnk k) < 3 from nI_lt (b := 3) (r4.mpr h34) (by decide)), h, bnd_s, tl_n, bX12_signs_132]
    · have z : (if nI (csg k) = (0 : Int32) then some (some (vI (0 : Int32)), dfC σ H cnt ws.length (nI (csg k))) else if nI (csg k) = (1 : Int32) then some (some (vI (0 : Int32)), dfC σ H cnt ws.length (nI (csg k))) else some (some (vI (1 : Int32)), dfC σ H cnt ws.length (nI (csg k)))) = some (some (vI (1 : Int32)), dfC σ H cnt ws.length (nI (csg k))) := by
        rw [if_neg (show ¬ nI (csg k) = 0 from fun z => h34 (Or.inr (r6.mp ((nI_eq (b := 0) (by omega) (by decide)).mp z)))), if_neg (show ¬ nI (csg k) = 1 from fun z => h34 (Or.inl (r7.mp ((nI_eq (b := 1) (by omega) (by decide)).mp z))))]
      refine Or.inr ⟨1, i, B, cnt + 1, k :: ws, st, dfC σ H cnt ws.length (nI (csg k)), sI (sI (dfM τ cnt ws.length (nI k)) 12 0 39 1) 12 0 40 0, by omega, z, ?_, E', Or.inr (Or.inl ⟨rfl, rfl, rfl⟩), hlen, LX_t hx (LX_t (df_x ws.length (nI (csg k)) (nI k)) ⟨lxC_0, lxM_t (lxM_I (Or.inr (Or.inr (by omega))) _) (lxM_I (Or.inr (Or.inr (by omega))) _)⟩), TKS_s hK rfl rfl rfl rfl rfl rfl rfl rfl, hpq⟩
      intro τ'' h
      rw [if_neg (show ¬ nI (rnk k) < 3 from nI_nlt (b := 3) (by have := fun z => h34 (r4.mp z); omega) (by have := (rkg_t k (by omega)).2.1; omega)), h, bnd_s, tl_n, bX12_signs_132]
theorem behind_pair (hB : RB L t H σ τ) (hK : TKS L σ τ p q) (hE : EX H o f i B cnt ws st σ τ) (hM : MD 2 τ) (hl : st.length = bc ws + 1) : (∃ i' x σ' τ', B = 0 ∧ den 66 [vR 6 0 0, vR 3 o 0] σ = some (some (vI 3), σ') ∧ den 175 [vR 12 0 0, vI 59] τ = some (some (vI 1), τ) ∧ run kX12_sumRead 18 [some (vR 12 0 0)] [vI 1] τ = some (some (vI 1), τ') ∧ EX H o f i' 0 cnt [] [x] σ' τ' ∧ LX H o f σ τ σ' τ' ∧ TKS L σ' τ' p q) ∨
    (∃ b : Bool, den 175 [vR 12 0 0, vI 59] τ = some (some (vI (bI b)), τ) ∧ (b = true → 0 < B) ∧ rnd L H o f p q σ τ (den 66 [vR 6 0 0, vR 3 o 0] σ) (den 199 [vR 12 0 0] τ)) := by
  obtain ⟨b1, b2, b3, b4⟩ := EX_b hE
  obtain ⟨⟨p1, p2, p3, p4, p5⟩, ⟨h1, h2⟩, ⟨h3, h3'⟩, ⟨h4, h4'⟩, ⟨h5, h6⟩, h7, h8, h9, h10, h11⟩ := id hE
  have z39 : gI τ 12 0 39 = 0 := by
    rcases hM with ⟨h, _⟩ | ⟨h, _⟩ | ⟨_, h⟩
    · omega
    · omega
    · exact h
  obtain ⟨b, s1, s2, s3⟩ : ∃ b : Bool, den 94 [vR 9 0 0, vI 15] σ = some (some (vI (bI b)), σ) ∧ den 175 [vR 12 0 0, vI 59] τ = some (some (vI (bI b)), τ) ∧ (b = true → gI σ 9 0 5 = 4) := sign_b (k := 6) hK (by decide)
  obtain ⟨c, c1, c2, c3⟩ : ∃ b : Bool, den 94 [vR 9 0 0, vI 14] σ = some (some (vI (bI b)), σ) ∧ den 175 [vR 12 0 0, vI 41] τ = some (some (vI (bI b)), τ) ∧ (b = true → gI σ 9 0 5 = 4) := sign_b (k := 5) hK (by decide)
  have nB : ¬ nI B < 0 := nI_nlt (b := 0) (by omega) (by omega)
  by_cases hd : b = true ∧ B = 0
  · left
    obtain ⟨hb1, hB0⟩ := hd
    subst hb1 hB0
    obtain ⟨i', ws', st', σ', τ', q1, q2, q3, q4, q5, q6, q7, q8⟩ := bind_pair (l := 0) (by omega) ws st i σ τ none none none hE hl
    rcases stop_0 q3 q5 with ⟨_, e⟩ | ⟨B', r, e, _⟩
    · subst e
      obtain ⟨x, hx⟩ : ∃ x, st' = [x] := by
        rw [bc] at q4
        exact List.length_eq_one_iff.mp q4
      subst hx
      refine ⟨i', x, σ', τ', rfl, ?_, s2, ?_, q3, ⟨q6, q7⟩, tkE_s hK q8⟩
      · rw [dX6_readBehind, bX6_readBehind_0, s1, bnd_s, tl_s, bX6_readBehind_4, bI_t rfl, if_neg i10, h3, if_pos (show nI 0 = 0 from rfl), dX6_release, show (0 : Int32) = nI 0 from rfl, q1, bnd_s, tl_n, bX6_readBehind_12]
      · rw [bX12_sumRead_18, if_neg i10, if_pos z39, h3', if_neg (show ¬ (0 : Int32) < nI 0 by decide), dX12_bind, show (1 : Int32) = nI (0 + 1) from rfl, q2, bnd_s, tl_n, bX12_sumRead_40]
        rfl
    · omega
  right
  refine ⟨b, s2, fun h => by have : ¬ B = 0 := fun z => hd ⟨h, z⟩
                             omega, ?_⟩
  have st4 : run kX6_readBehind 4 [some (vR 6 0 0), some (vR 3 o 0), none, none, none] [vI (bI b)] σ = run kX6_readBehind 18 [some (vR 6 0 0), some (vR 3 o 0), none, none, none] [vI (bI c)] σ := by
    rw [bX6_readBehind_4]
    cases b with
    | false => rw [bI_f rfl, if_pos rfl, c1, bnd_s, tl_s]
    | true =>
      rw [bI_t rfl, if_neg i10, h3, if_neg (show ¬ nI B = 0 from fun z => hd ⟨rfl, (nI_eq (b := 0) (by omega) (by decide)).mp z⟩), c1, bnd_s, tl_s]
  rw [dX6_readBehind, bX6_readBehind_0, s1, bnd_s, tl_s, st4, bX6_readBehind_18, dX12_signs, bX12_signs_0, c2, bnd_s, tl_s, bX12_signs_3]
  by_cases hc : c = true ∧ 0 < B
  · obtain ⟨hc1, hB0⟩ := hc
    subst hc1
    have hpq : p < q := TKS_p hK (by rw [c3 rfl]; decide)
    obtain ⟨i', ws', st', σ', τ', q1, q2, q3, q4, q5, q6, q7, q8⟩ := bind_pair (l := 0) (by omega) ws st i σ τ none none none hE hl
    rcases stop_0 q3 q5 with ⟨e, _⟩ | ⟨B', r, e, e'⟩
    · omega
    · subst e e'
      have E' := EX_cls q3
      have w1 : gI σ' 6 0 2 = nI (r.length + 1) := q3.2.1.1
      have w2 : gI τ' 12 0 35 = nI (r.length + 1) := q3.2.1.2
      have w3 : gI σ' 6 0 3 = nI (B' + 1) := q3.2.2.1.1
      have w4 : gI τ' 12 0 37 = nI (B' + 1) := q3.2.2.1.2
      have n1 : nI (r.length + 1) - (1 : Int32) = nI r.length := pk_sub (b := 1) (by omega)
      have n2 : nI (B' + 1) - (1 : Int32) = nI B' := pk_sub (b := 1) (by omega)
      have pos : (0 : Int32) < nI (B' + 1) := nI_lt (a := 0) (by omega) (by omega)
      have cc : (if bI true = (0 : Int32) then (bnd (den 67 [vR 6 0 0] σ) fun v τ => run kX6_readBehind 42 [some (vR 6 0 0), some (vR 3 o 0), none, none, none] (v.toList ++ []) τ) else (if (0 : Int32) < gI σ 6 0 3 then (bnd (den 69 [vR 6 0 0, vR 3 o 0, vI (0 : Int32)] σ) fun v τ => run kX6_readBehind 26 [some (vR 6 0 0), some (vR 3 o 0), none, none, none] (v.toList ++ []) τ) else (bnd (den 67 [vR 6 0 0] σ) fun v τ => run kX6_readBehind 42 [some (vR 6 0 0), some (vR 3 o 0), none, none, none] (v.toList ++ []) τ))) = some (some (vI 2), csC σ' B' r.length) := by
        rw [bI_t rfl, if_neg i10, h3, if_pos pos, dX6_release, show (0 : Int32) = nI 0 from rfl, q1, bnd_s, tl_n, bX6_readBehind_26, w1, n1, w3, n2]
      rw [cc, bI_t rfl, if_neg i10, h3', if_pos pos, dX12_bind, show (1 : Int32) = nI (0 + 1) from rfl, q2, bnd_s, tl_n, bX12_signs_10, w2]
      refine Or.inr ⟨2, i', B', cnt, r, st', csC σ' B' r.length, csM τ' B' r.length, by omega, rfl, ?_, E', Or.inr (Or.inr ⟨rfl, ?_⟩), ?_, LX_t ⟨q6, q7⟩ ⟨lxC_t (lxC_I (Or.inl ⟨rfl, Or.inl rfl⟩) _) (lxC_I (Or.inl ⟨rfl, Or.inr rfl⟩) _), lxM_t (lxM_I (Or.inr (Or.inr (by omega))) _) (lxM_I (Or.inr (Or.inr (by omega))) _)⟩, TKS_s (tkE_s hK q8) rfl rfl rfl rfl rfl rfl rfl rfl, hpq⟩
      · intro τ'' h
        rw [n1, w4, n2, h, bnd_s, tl_n, bX12_signs_24]
      · exact Eq.trans (q8.2 39 (by decide)) z39
      · rw [bc, if_neg (by omega)] at q4
        exact q4
  -- a sign
  have cc : (if bI c = (0 : Int32) then (bnd (den 67 [vR 6 0 0] σ) fun v τ => run kX6_readBehind 42 [some (vR 6 0 0), some (vR 3 o 0), none, none, none] (v.toList ++ []) τ) else (if (0 : Int32) < gI σ 6 0 3 then (bnd (den 69 [vR 6 0 0, vR 3 o 0, vI (0 : Int32)] σ) fun v τ => run kX6_readBehind 26 [some (vR 6 0 0), some (vR 3 o 0), none, none, none] (v.toList ++ []) τ) else (bnd (den 67 [vR 6 0 0] σ) fun v τ => run kX6_readBehind 42 [some (vR 6 0 0), some (vR 3 o 0), none, none, none] (v.toList ++ []) τ))) = (bnd (den 67 [vR 6 0 0] σ) fun v τ => run kX6_readBehind 42 [some (vR 6 0 0), some (vR 3 o 0), none, none, none] (v.toList ++ []) τ) := by
    cases c with
    | false => rw [bI_f rfl, if_pos rfl]
    | true =>
      have hB0 : ¬ 0 < B := fun z => hc ⟨rfl, z⟩
      rw [bI_t rfl, if_neg i10, h3, if_neg (show ¬ (0 : Int32) < nI B from nI_nlt (a := 0) (by omega) (by omega))]
  have mm : (if bI c = (0 : Int32) then (bnd (den 174 [vR 12 0 0, vI 9] τ) fun v τ => run kX12_signs 29 [some (vR 12 0 0), none] (v.toList ++ []) τ) else (if (0 : Int32) < gI τ 12 0 37 then (bnd (den 194 [vR 12 0 0, vI 1] τ) fun v τ => run kX12_signs 10 [some (vR 12 0 0), none] (v.toList ++ []) τ) else (bnd (den 174 [vR 12 0 0, vI 9] τ) fun v τ => run kX12_signs 29 [some (vR 12 0 0), none] (v.toList ++ []) τ))) = sgnR τ := by
    cases c with
    | false => rw [bI_f rfl, if_pos rfl]
    | true =>
      have hB0 : ¬ 0 < B := fun z => hc ⟨rfl, z⟩
      rw [bI_t rfl, if_neg i10, h3', if_neg (show ¬ (0 : Int32) < nI B from nI_nlt (a := 0) (by omega) (by omega))]
  rw [cc, mm]
  rcases join_pair hK with ⟨j1, j2⟩ | ⟨k, k3, k14, j1, j2, hpq⟩
  · rw [j1, bnd_s, tl_s, bX6_readBehind_42, if_pos rfl, e_failed, bnd_s, tl_s, bX6_readBehind_49, j2]
    exact rnd_f LX_0 hK 1
  obtain ⟨r1, r2, r3, r4, r5, r6, r7, r8⟩ := rnk_t k (by omega) k3
  have t1 := (bdg_t k (by omega) (by omega)).1
  have t2 := rkg_t k (by omega)
  rw [j1, bnd_s, tl_s, bX6_readBehind_42, if_neg (nIm1 (by omega)), e_binding, bnd_s, tl_s, bX6_readBehind_52, j2, bX12_signs_82, m_rank, bnd_s, tl_s]
  by_cases h4k : rnk k = 4
  · -- it compares
    have b3' : bdg (nI (csg k)) = 3 := r2.mp h4k
    obtain ⟨i', ws', st', σ', τ', q1, q2, q3, q4, q5, q6, q7, q8⟩ := bind_pair (l := 4) (by omega) ws st i σ τ none none none hE hl
    have hB' := RB_x hB ⟨q6, q7⟩
    have K' := tkE_s hK q8
    obtain ⟨u1, u2, u3', u4⟩ := EX_b q3
    rw [b3', if_pos rfl, if_neg i10, dX6_release, show (3 : Int32) + 1 = nI 4 from rfl, q1, bnd_s, tl_n, bX6_readBehind_70, if_neg i10, if_pos (show nI (rnk k) = 4 by rw [h4k]; rfl), bX12_signs_88, dX12_bind, show (5 : Int32) = nI (4 + 1) from rfl, q2, bnd_s, tl_n, bX12_signs_89, m_rank, bnd_s, tl_s, bX12_signs_91, if_pos (show rkg (nI k) = 4 from r3.mpr h4k), q3.2.1.1, q3.2.1.2]
    cases ws' with
    | nil =>
      rw [if_neg (show ¬ (0 : Int32) < nI ([] : List Nat).length by decide), if_neg (show ¬ (0 : Int32) < nI ([] : List Nat).length by decide)]
      exact sgn_end hB' K' hpq q3 q4 ⟨k3, k14⟩ _ _ _ ⟨q6, q7⟩
    | cons k' r' =>
      have hlen : (k' :: r').length = r'.length + 1 := List.length_cons
      rw [hlen] at u2
      have a1 := ob (i := r'.length) (N := 72) (by omega) (by decide)
      have a2 := ob (i := r'.length) (N := 96) (by omega) (by decide)
      have c1' : (nI r'.length).toNatClampNeg = r'.length := nI_clamp (by omega)
      have n1 : nI (r'.length + 1) - (1 : Int32) = nI r'.length := pk_sub (b := 1) (by omega)
      have pos : (0 : Int32) < nI (r'.length + 1) := nI_lt (a := 0) (by omega) (by omega)
      have e1 : gA σ' 6 0 1 r'.length = nI (csg k') := q3.2.2.2.2.2.2.1.1
      have e2 : gA τ' 12 0 33 r'.length = nI k' := q3.2.2.2.2.2.2.2.1.1
      have hk' : k' < 15 ∧ k' ≠ 1 := by
        rcases q3.1.1 k' (List.mem_cons_self) with h | h
        · omega
        · omega
      have tt := (top_t k' hk'.1).resolve_right hk'.2
      have rr := rk4_t k' hk'.1
      rw [hlen, if_pos pos, if_pos pos, n1]
      simp only [c1', a1, a2, ↓reduceIte]
      rw [e1, e2, e_binding, bnd_s, tl_s, bX6_readBehind_83, m_rank, bnd_s, tl_s, bX12_signs_104]
      by_cases h4' : rnk k' = 4
      · rw [if_pos (tt.mpr ⟨hk'.2, h4'⟩), e_failed, bnd_s, tl_s, bX6_readBehind_88, if_pos (rr.mpr h4'), m_wrong, bnd_s, tl_s, bX12_signs_109, if_pos i0or]
        exact rnd_f ⟨q6, q7⟩ K' 1
      · rw [if_neg (fun z => h4' (tt.mp z).2), if_neg (fun z => h4' (rr.mp z))]
        exact sgn_end hB' K' hpq q3 q4 ⟨k3, k14⟩ _ _ _ ⟨q6, q7⟩
  · have b3' : ¬ bdg (nI (csg k)) = 3 := fun z => h4k (r2.mpr z)
    obtain ⟨i', ws', st', σ', τ', q1, q2, q3, q4, q5, q6, q7, q8⟩ := bind_pair (l := rnk k - 1) r1 ws st i σ τ none none none hE hl
    have hB' := RB_x hB ⟨q6, q7⟩
    have K' := tkE_s hK q8
    rw [show rnk k - 1 + 1 = rnk k by omega] at q2
    rw [if_neg b3', if_pos rfl, t1, dX6_release, q1, bnd_s, tl_n, bX6_readBehind_70, if_pos rfl, if_neg (show ¬ nI (rnk k) = 4 from fun z => h4k ((nI_eq (b := 4) (by omega) (by decide)).mp z)), bX12_signs_88, t2.1, dX12_bind, q2, bnd_s, tl_n, bX12_signs_89, m_rank, bnd_s, tl_s, bX12_signs_91, if_neg (show ¬ rkg (nI k) = 4 from fun z => h4k (r3.mp z))]
    exact sgn_end hB' K' hpq q3 q4 ⟨k3, k14⟩ _ _ _ ⟨q6, q7⟩
end BE2
