/-! chance, tried -/
theorem sLL {σ : ST} {c o k : Nat} {f g : Int64} : sL (sL σ c o k f) c o k g = sL σ c o k g := by
  show (σ.1, u3 (u3 σ.2.1 c o k f) c o k g, σ.2.2) = (σ.1, u3 σ.2.1 c o k g, σ.2.2)
  rw [u3_u]
theorem sL_id {σ : ST} {c o k : Nat} : sL σ c o k (gL σ c o k) = σ := by
  show (σ.1, u3 σ.2.1 c o k (σ.2.1 c o k), σ.2.2) = σ
  rw [u3_id]
theorem gL_s {σ : ST} {c o k : Nat} {f : Int64} : gL (sL σ c o k f) c o k = f := u3_s
section CHA
variable {G n r : Nat} {σ τ σ0 τ0 : ST}
theorem scM_w {τ' : ST} (h : scM τ τ') (w : Int64) : scM (sL τ 12 0 51 w) (sL τ' 12 0 51 w) :=
  ⟨h.1, h.2.1, h.2.2.1, h.2.2.2.1, h.2.2.2.2.1, fun k => by
    by_cases e : k = 51
    · rw [e, gL_s, gL_s]
    · show u3 _ _ _ _ _ _ _ k = u3 _ _ _ _ _ _ _ k
      rw [u3_nk e, u3_nk e]
      exact h.2.2.2.2.2 k⟩
theorem scM_frL {τ' : ST} (h : frM 1 τ τ') : scM (sL τ 12 0 51 (gL τ' 12 0 51)) τ' :=
  ⟨fun k _ h43 _ => h.1 k h43, fun k hk _ _ _ _ => h.2.1 k (by omega), fun j hj => ⟨(h.2.2.1 j (by omega)).1, (h.2.2.1 j (by omega)).2, congrFun (h.2.1 46 (by omega)) j⟩,
   fun j hj => h.2.2.2.1 j (by omega), h.2.2.2.2.1 0 (by decide), fun k => by
    by_cases e : k = 51
    · rw [e, gL_s]
    · show _ = u3 _ _ _ _ _ _ _ k
      rw [u3_nk e]
      exact h.2.2.2.2.2.1 k e⟩
/-- drawBlight and a number of one's own -/
def dbS (σ : ST) (w : Int64) (v : Int32) : ST := sL (sI σ 0 1 5 v) 5 1 1 w
theorem chance_begin {b0 : Nat} (hb0 : b0 ≤ 100) (k1 : gI σ 2 G 2 = nI b0) (k2 : gA τ 12 0 19 0 = nI b0) (hZ : YZ SA G n r 1 1 σ τ σ τ) (hF : RF τ) {w : Int64} (hw : gL τ 12 0 51 = w) :
    den 1 [vR 0 1 0] σ = some (none, sI σ 0 1 5 (if nI b0 = 0 then 0 else if nI b0 = 100 then 1 else 2)) ∧ YZ SA G n r 1 1 (dbS σ w (if nI b0 = 0 then 0 else if nI b0 = 100 then 1 else 2)) (sI τ 12 0 52 1) (dbS σ w (if nI b0 = 0 then 0 else if nI b0 = 100 then 1 else 2)) (sI τ 12 0 52 1) := by
  constructor
  · rw [dX0_drawBlight, bX0_drawBlight_0, hZ.1.1.2.1, k1]
    by_cases h0 : nI b0 = 0
    · rw [if_pos h0, if_pos h0]
    · rw [if_neg h0, if_neg h0]
      by_cases h1 : nI b0 = 100
      · rw [if_pos h1, if_pos h1]
      · rw [if_neg h1, if_neg h1]
  · refine ⟨⟨hZ.1.1, hZ.1.2.1, ?_, fun _ => ?_⟩, frC_0, frM_0⟩
    · have e1 : gI (dbS σ w (if nI b0 = 0 then 0 else if nI b0 = 100 then 1 else 2)) 0 1 5 = (if nI b0 = 0 then 0 else if nI b0 = 100 then 1 else 2) := rfl
      have e2 : gI (sI τ 12 0 52 1) 12 0 52 = 1 := gI_s
      have e3 : gI (sI τ 12 0 52 1) 12 0 53 = 0 := hF.2.1
      have e4 : gA (sI τ 12 0 52 1) 12 0 19 0 = nI b0 := k2
      rw [e1]
      unfold blE
      rw [e3, if_pos rfl, e4, e2, if_neg i10]
    · exact hw.symm
theorem chance_loop (hQ : RQ G n r σ0 τ0) {p N : Nat} (hp : p < r) (hN : N < 2 ^ 31) (g : Int32) : ∀ (m i : Nat), i + m = 10 → ∀ (σ τ : ST) (w : Int64), scC σ0 σ → scM (sL τ0 12 0 51 w) τ → ∀ (c : Int32) (y1 y7 y1' y6 : Option AV), ∃ (v : Int32) (σ' τ' : ST),
    run kX11_chance 24 [some (vR 11 0 0), y1, some (vI (nI N)), some (vI (nI p)), some (vI g), some (vI c), some (vL w), y7, some (vI (nI i))] [] σ = some (some (vI v), σ') ∧
    run kX12_chance 31 [some (vR 12 0 0), y1', some (vI (nI N)), some (vI (nI p)), some (vI g), some (vL (gL τ0 12 0 51)), y6, some (vI c), some (vI (nI i))] [] τ = some (some (vI v), τ') ∧ scC σ0 σ' ∧ scM τ0 τ'
  | 0, i, hm, σ, τ, w, hc, hs, c, y1, y7, y1', y6 => by
    have hi : i = 10 := by omega
    subst hi
    have hlt : ¬ nI 10 < (10 : Int32) := by decide
    refine ⟨c, σ, sI (sL τ 12 0 51 (gL τ0 12 0 51)) 12 0 52 0, by rw [bX11_chance_24, if_neg hlt], by rw [bX12_chance_31, if_neg hlt]; rfl, hc, ?_⟩
    have := scM_w hs (gL τ0 12 0 51)
    rw [sLL, sL_id] at this
    exact scM_t this (scM_I (by omega) 0)
  | m + 1, i, hm, σ, τ, w, hc, hs, c, y1, y7, y1', y6 => by
    have hr2 := hQ.1.1.r2
    have hlt : nI i < (10 : Int32) := nI_lt (b := 10) (by omega) (by decide)
    have hQ1 : RQ G n r σ τ := RQ_sc (τ := sL τ0 12 0 51 w) hQ hc hs
    have hw : gL τ 12 0 51 = w := by
      have := hs.2.2.2.2.2 51
      rw [gL_s] at this
      exact this
    obtain ⟨σ1, τ1, f1, f2, hZ, s1, s2, hF, _, _⟩ := begin_pair hQ1
    have hw1 : gL τ1 12 0 51 = w := by rw [s2.2.2.2.2.2 51, hw]
    obtain ⟨b0, hb0, k1, k2⟩ := hZ.1.1.1.1.2.2.2.2.1
    obtain ⟨d1, d2⟩ := chance_begin hb0 k1 k2 hZ hF hw1
    obtain ⟨σ2, τ2, g1, g2, hZ2⟩ := years_pair hN d2
    have a1 := ob (i := p) (N := 2) (by omega) (by decide)
    have a3 := ob (i := 2 + p) (N := 4) (by omega) (by decide)
    have c1 : (nI p).toNatClampNeg = p := nI_clamp (by omega)
    have c2 : (nI (2 + p)).toNatClampNeg = 2 + p := nI_clamp (by omega)
    have q1 := (YZ_h hZ2 hp).1
    have d52 : gI τ2 12 0 52 ≠ 0 := by
      rw [hZ2.2.2.1 52 (by decide)]
      exact i10
    have hw2 := hZ2.1.2.2.2 d52
    have t1 : scC σ0 σ2 := scC_t hc (scC_t s1 (scC_t (scC_t (scC_I (Or.inr (Or.inr (Or.inr (Or.inl ⟨rfl, rfl⟩)))) _) (scC_L _)) (scC_fr hZ2.2.1)))
    have t2 : scM (sL τ0 12 0 51 (gL σ2 5 1 1)) τ2 := by
      rw [hw2]
      have u1 := scM_w hs (gL τ2 12 0 51)
      rw [sLL] at u1
      exact scM_t u1 (scM_t (scM_w s2 (gL τ2 12 0 51)) (scM_t (scM_w (scM_I (k := 52) (τ := τ1) (by omega) 1) (gL τ2 12 0 51)) (scM_frL hZ2.2.2)))
    rw [bX11_chance_24, if_pos hlt, hQ1.1.1.g, f1, bnd_s, tl_n, bX11_chance_35, d1, bnd_s, tl_n, bX11_chance_38, bX12_chance_31, if_pos hlt, f2, bnd_s, tl_n, bX12_chance_36]
    have g1' : den 3 [vR 0 1 0, vI (nI N)] (sL (sI σ1 0 1 5 (if nI b0 = 0 then 0 else if nI b0 = 100 then 1 else 2)) 5 1 1 w) = some (none, σ2) := g1
    rw [g1', g2, bnd_s, bnd_s, tl_n, bX11_chance_47, bX12_chance_42]
    simp only [i2a, c1, c2, a1, a3, ↓reduceIte, q1, nI_S]
    by_cases he : gA τ2 12 0 47 (2 + p) = g
    · rw [if_pos he, if_pos he]
      exact chance_loop hQ hp hN g m (i + 1) (by omega) σ2 τ2 _ t1 t2 _ _ _ _ _
    · rw [if_neg he, if_neg he]
      exact chance_loop hQ hp hN g m (i + 1) (by omega) σ2 τ2 _ t1 t2 _ _ _ _ _
theorem q_chance (hQ : RQ G n r σ τ) (x y z u : Int32) : ans σ τ (den 147 [vR 11 0 0, vI x, vI y, vI z, vI u] σ) (den 279 [vR 12 0 0, vI x, vI y, vI z, vI u] τ) := by
  have hr2 := hQ.1.1.r2
  have hn6 := hQ.1.1.n6
  have hQ1 := RQ_sc hQ scC_0 (scM_th τ)
  have hmr : gI (th0 τ) 12 0 13 = nI r := hQ.1.1.mr
  have hm : gI (th0 τ) 12 0 12 = nI n := hQ.1.1.mn
  rw [dX11_chance, bX11_chance_0, dX12_chance, bX12_chance_0]
  by_cases h0 : x < 0
  · rw [if_pos h0, if_pos h0]
    exact ⟨-1, _, _, rfl, rfl, scC_0, scM_th τ⟩
  rw [if_neg h0, if_neg h0, e_isWithin, m_isIn, bnd_s, bnd_s, tl_s, bX11_chance_6, bX12_chance_9]
  rcases inb_l (x := y) (a' := 1) (M' := 99) 1 99 rfl rfl (by decide) (by decide) with h | ⟨N, _, hN, rfl, h⟩
  · rw [h, if_pos rfl, if_pos rfl]
    exact ⟨-1, _, _, rfl, rfl, scC_0, scM_th τ⟩
  rw [h, if_neg i10, if_neg i10, e_isRibbon, hQ.1.1.cr, m_isRibbon, hmr, bnd_s, bnd_s, tl_s, bX11_chance_10, bX12_chance_13]
  rcases isb_nI (g := z) (n := r) (by omega) with h | ⟨p, hp, rfl, h⟩
  · rw [h, if_pos rfl, if_pos rfl]
    exact ⟨-1, _, _, rfl, rfl, scC_0, scM_th τ⟩
  rw [h, if_neg i10, if_neg i10, e_isGrower, hQ.1.1.cn, m_isGrower, hm, bnd_s, bnd_s, tl_s, bX11_chance_14, bX12_chance_17]
  by_cases h1 : isb u (nI n) = 0
  · rw [if_pos h1, if_pos h1]
    exact ⟨-1, _, _, rfl, rfl, scC_0, scM_th τ⟩
  rw [if_neg h1, if_neg h1]
  obtain ⟨v, σ', τ', g1, g2, g3, g4⟩ := chance_loop hQ1 hp (N := N) (by omega) u 10 0 (by decide) σ (sL (th0 τ) 12 0 51 x.toInt64) x.toInt64 scC_0 scM_0 0 (some (vI x)) none (some (vI x)) none
  rw [nI_0] at g1 g2
  exact ⟨v, σ', τ', g1, g2, g3, scM_t (scM_th τ) g4⟩
/-- the reference's switches for what is tried -/
def tfS (τ : ST) (k : Nat) (g : Int32) : ST := sI (sI (sI (sI (sI τ 12 0 53 (if k = 0 then 1 else 0)) 12 0 54 (if k = 1 then 1 else 0)) 12 0 57 (if k = 2 then 1 <<< (g &&& 31) else 0)) 12 0 56 (if k = 3 then 1 else 0)) 12 0 55 (if k = 4 then 1 else 0)
theorem m_tf (τ : ST) {k : Nat} (hk : k ≤ 4) (g x3 : Int32) : run kX12_tried 30 [some (vR 12 0 0), some (vI (nI k)), some (vI g), some (vI x3)] [] τ = (bnd (den 225 [vR 12 0 0, vI x3] (tfS τ k g)) fun v τ => run kX12_tried 74 [some (vR 12 0 0), some (vI (nI k)), some (vI g), some (vI x3)] (v.toList ++ []) τ) := by
  have : k = 0 ∨ k = 1 ∨ k = 2 ∨ k = 3 ∨ k = 4 := by omega
  rcases this with rfl | rfl | rfl | rfl | rfl
  all_goals
    rw [bX12_tried_30]
    simp (decide := true) only [bX12_tried_36, bX12_tried_44, tfS, ↓reduceIte]
theorem oth_loop (hn6 : n ≤ 6) (k : Nat) (hk : k ≤ 4) (g : Int32) : ∀ (m i : Nat), i + m = n → ∀ (d s : Nat → Int32), gI σ 2 (gR σ 0 1 4) 0 = nI n → ∃ d' s' : Nat → Int32,
    run kX0_otherwise 15 [some (vR 0 1 0), some (vI (nI k)), some (vI g), some (vI (nI i))] [] (sA (sA σ 0 1 1 d) 5 1 4 s) = some (none, sA (sA σ 0 1 1 d') 5 1 4 s') ∧
    (∀ j, j < n → (i ≤ j → d' j = (if k = 1 then 0 else d j) ∧ s' j = (if k = 2 then s j &&& ((1 <<< (g &&& 31)) ^^^ -1) else if k = 3 then (((1 : Int32) <<< (nI n &&& 31)) - (1 : Int32)) &&& ((1 <<< (nI j &&& 31)) ^^^ -1) else s j)) ∧ (j < i → d' j = d j ∧ s' j = s j))
  | 0, i, hm, d, s, hn => by
    have hlt : ¬ nI i < nI n := nI_nlt (by omega) (by omega)
    have e1 : gI (sA (sA σ 0 1 1 d) 5 1 4 s) 2 (gR (sA (sA σ 0 1 1 d) 5 1 4 s) 0 1 4) 0 = nI n := hn
    exact ⟨d, s, by rw [bX0_otherwise_15, e1, if_neg hlt], fun j hj => ⟨fun h => by omega, fun _ => ⟨rfl, rfl⟩⟩⟩
  | m + 1, i, hm, d, s, hn => by
    have hlt : nI i < nI n := nI_lt (by omega) (by omega)
    have e1 : gI (sA (sA σ 0 1 1 d) 5 1 4 s) 2 (gR (sA (sA σ 0 1 1 d) 5 1 4 s) 0 1 4) 0 = nI n := hn
    have e2 : gA (sA (sA σ 0 1 1 d) 5 1 4 s) 0 1 1 = d := by rw [gA_n (by decide), gA_s]
    have e3 : gA (sA (sA σ 0 1 1 d) 5 1 4 s) 5 1 4 = s := gA_s
    have a1 := ob (i := i) (N := 6) (by omega) (by decide)
    have c1 : (nI i).toNatClampNeg = i := nI_clamp (by omega)
    rw [bX0_otherwise_15, e1, if_pos hlt, dX5_setSeen, bX5_setSeen_0, if_pos (rfl : (0 : Int32) = 0), e2, e3]
    simp only [c1, a1, ↓reduceIte, nI_S]
    by_cases k1 : k = 1
    · subst k1
      obtain ⟨d', s', f1, f2⟩ := oth_loop hn6 1 hk g m (i + 1) (by omega) (upd d i 0) s hn
      refine ⟨d', s', ?_, fun j hj => ⟨fun h => ?_, fun h => ?_⟩⟩
      · rw [if_pos (show nI 1 = 1 from rfl), sA_c (by decide), sAA]
        exact f1
      · by_cases e : j = i
        · subst e
          obtain ⟨x1, x2⟩ := (f2 j hj).2 (by omega)
          rw [x1, x2, pk_us]
          exact ⟨rfl, rfl⟩
        · obtain ⟨x1, x2⟩ := (f2 j hj).1 (by omega)
          rw [x1, x2]
          exact ⟨rfl, rfl⟩
      · obtain ⟨x1, x2⟩ := (f2 j hj).2 (by omega)
        rw [x1, x2, upd_o (by omega)]
        exact ⟨rfl, rfl⟩
    · have n1 : ¬ nI k = 1 := fun e => k1 ((nI_eq (a := k) (b := 1) (by omega) (by decide)).mp e)
      rw [if_neg n1]
      by_cases k2 : k = 2
      · subst k2
        obtain ⟨d', s', f1, f2⟩ := oth_loop hn6 2 hk g m (i + 1) (by omega) d (upd s i (s i &&& ((1 <<< (g &&& 31)) ^^^ -1))) hn
        refine ⟨d', s', ?_, fun j hj => ⟨fun h => ?_, fun h => ?_⟩⟩
        · rw [if_pos (show nI 2 = 2 from rfl), bnd_s, tl_n, bX0_otherwise_38, nI_S, sAA]
          exact f1
        · by_cases e : j = i
          · subst e
            obtain ⟨x1, x2⟩ := (f2 j hj).2 (by omega)
            rw [x1, x2, pk_us]
            exact ⟨rfl, rfl⟩
          · obtain ⟨x1, x2⟩ := (f2 j hj).1 (by omega)
            rw [x1, x2, upd_o e]
            exact ⟨rfl, rfl⟩
        · obtain ⟨x1, x2⟩ := (f2 j hj).2 (by omega)
          rw [x1, x2, upd_o (by omega)]
          exact ⟨rfl, rfl⟩
      · have n2 : ¬ nI k = 2 := fun e => k2 ((nI_eq (a := k) (b := 2) (by omega) (by decide)).mp e)
        rw [if_neg n2]
        by_cases k3 : k = 3
        · subst k3
          obtain ⟨d', s', f1, f2⟩ := oth_loop hn6 3 hk g m (i + 1) (by omega) d (upd s i ((((1 : Int32) <<< (nI n &&& 31)) - (1 : Int32)) &&& ((1 <<< (nI i &&& 31)) ^^^ -1))) hn
          refine ⟨d', s', ?_, fun j hj => ⟨fun h => ?_, fun h => ?_⟩⟩
          · rw [if_pos (show nI 3 = 3 from rfl), sAA]
            exact f1
          · by_cases e : j = i
            · subst e
              obtain ⟨x1, x2⟩ := (f2 j hj).2 (by omega)
              rw [x1, x2, pk_us]
              exact ⟨rfl, rfl⟩
            · obtain ⟨x1, x2⟩ := (f2 j hj).1 (by omega)
              rw [x1, x2]
              exact ⟨rfl, rfl⟩
          · obtain ⟨x1, x2⟩ := (f2 j hj).2 (by omega)
            rw [x1, x2, upd_o (by omega)]
            exact ⟨rfl, rfl⟩
        · have n3 : ¬ nI k = 3 := fun e => k3 ((nI_eq (a := k) (b := 3) (by omega) (by decide)).mp e)
          obtain ⟨d', s', f1, f2⟩ := oth_loop hn6 k hk g m (i + 1) (by omega) d s hn
          refine ⟨d', s', ?_, fun j hj => ⟨fun h => ?_, fun h => (f2 j hj).2 (by omega)⟩⟩
          · rw [if_neg n3]
            exact f1
          · by_cases e : j = i
            · subst e
              obtain ⟨x1, x2⟩ := (f2 j hj).2 (by omega)
              rw [x1, x2, if_neg k1, if_neg k2, if_neg k3]
              exact ⟨rfl, rfl⟩
            · exact (f2 j hj).1 (by omega)
/-- what the class tries -/
theorem e_other (hn6 : n ≤ 6) {k : Nat} (hk : k ≤ 4) (g : Int32) (hn : gI σ 2 (gR σ 0 1 4) 0 = nI n) : ∃ d' s' : Nat → Int32,
    den 2 [vR 0 1 0, vI (nI k), vI g] σ = some (none, sA (sA (sI (sI σ 0 1 5 (if k = 0 then 0 else gI σ 0 1 5)) 0 1 6 (if k = 4 then 0 else 1)) 0 1 1 d') 5 1 4 s') ∧
    (∀ j, j < n → d' j = (if k = 1 then 0 else gA σ 0 1 1 j) ∧ s' j = (if k = 2 then gA σ 5 1 4 j &&& ((1 <<< (g &&& 31)) ^^^ -1) else if k = 3 then (((1 : Int32) <<< (nI n &&& 31)) - (1 : Int32)) &&& ((1 <<< (nI j &&& 31)) ^^^ -1) else gA σ 5 1 4 j)) := by
  obtain ⟨d', s', f1, f2⟩ := oth_loop (σ := sI (sI σ 0 1 5 (if k = 0 then 0 else gI σ 0 1 5)) 0 1 6 (if k = 4 then 0 else 1)) hn6 k hk g n 0 (by omega) (gA σ 0 1 1) (gA σ 5 1 4) hn
  have e1 : sA (sI (sI σ 0 1 5 (if k = 0 then 0 else gI σ 0 1 5)) 0 1 6 (if k = 4 then 0 else 1)) 0 1 1 (gA σ 0 1 1) = sI (sI σ 0 1 5 (if k = 0 then 0 else gI σ 0 1 5)) 0 1 6 (if k = 4 then 0 else 1) := sA_id
  have e2 : sA (sI (sI σ 0 1 5 (if k = 0 then 0 else gI σ 0 1 5)) 0 1 6 (if k = 4 then 0 else 1)) 5 1 4 (gA σ 5 1 4) = sI (sI σ 0 1 5 (if k = 0 then 0 else gI σ 0 1 5)) 0 1 6 (if k = 4 then 0 else 1) := sA_id
  rw [e1, e2, nI_0] at f1
  refine ⟨d', s', ?_, fun j hj => (f2 j hj).1 (Nat.zero_le _)⟩
  rw [← f1, dX0_otherwise, bX0_otherwise_0]
  have : k = 0 ∨ k = 1 ∨ k = 2 ∨ k = 3 ∨ k = 4 := by omega
  rcases this with rfl | rfl | rfl | rfl | rfl
  all_goals simp (decide := true) only [↓reduceIte, sI_id]
theorem tried_begin (hZ : YZ SA G n r 1 1 σ τ σ τ) (hF : RF τ) {k : Nat} (hk : k ≤ 4) {g : Int32} {d s : Nat → Int32}
    (hd : ∀ j, j < n → d j = (if k = 1 then 0 else gA σ 0 1 1 j) ∧ s j = (if k = 2 then gA σ 5 1 4 j &&& ((1 <<< (g &&& 31)) ^^^ -1) else if k = 3 then (((1 : Int32) <<< (nI n &&& 31)) - (1 : Int32)) &&& ((1 <<< (nI j &&& 31)) ^^^ -1) else gA σ 5 1 4 j)) :
    YZ SA G n r 1 1 (sA (sA (sI (sI σ 0 1 5 (if k = 0 then 0 else gI σ 0 1 5)) 0 1 6 (if k = 4 then 0 else 1)) 0 1 1 d) 5 1 4 s) (tfS τ k g) (sA (sA (sI (sI σ 0 1 5 (if k = 0 then 0 else gI σ 0 1 5)) 0 1 6 (if k = 4 then 0 else 1)) 0 1 1 d) 5 1 4 s) (tfS τ k g) := by
  have hn6 := hZ.n6
  have t53 : gI (tfS τ k g) 12 0 53 = (if k = 0 then 1 else 0) := rfl
  have t54 : gI (tfS τ k g) 12 0 54 = (if k = 1 then 1 else 0) := rfl
  have t57 : gI (tfS τ k g) 12 0 57 = (if k = 2 then 1 <<< (g &&& 31) else 0) := rfl
  have t56 : gI (tfS τ k g) 12 0 56 = (if k = 3 then 1 else 0) := rfl
  have t55 : gI (tfS τ k g) 12 0 55 = (if k = 4 then 1 else 0) := rfl
  have c5 : gI (sA (sA (sI (sI σ 0 1 5 (if k = 0 then 0 else gI σ 0 1 5)) 0 1 6 (if k = 4 then 0 else 1)) 0 1 1 d) 5 1 4 s) 0 1 5 = (if k = 0 then 0 else gI σ 0 1 5) := rfl
  have c6 : gI (sA (sA (sI (sI σ 0 1 5 (if k = 0 then 0 else gI σ 0 1 5)) 0 1 6 (if k = 4 then 0 else 1)) 0 1 1 d) 5 1 4 s) 0 1 6 = (if k = 4 then 0 else 1) := rfl
  have c1 : gA (sA (sA (sI (sI σ 0 1 5 (if k = 0 then 0 else gI σ 0 1 5)) 0 1 6 (if k = 4 then 0 else 1)) 0 1 1 d) 5 1 4 s) 0 1 1 = d := by rw [gA_n (by decide), gA_s]
  have c4 : gA (sA (sA (sI (sI σ 0 1 5 (if k = 0 then 0 else gI σ 0 1 5)) 0 1 6 (if k = 4 then 0 else 1)) 0 1 1 d) 5 1 4 s) 5 1 4 = s := gA_s
  obtain ⟨⟨hT, hg, h1, hw, hh, hs, ho, hsi, hhd, hy⟩, y6, y5, yn⟩ := hZ.1
  refine ⟨⟨⟨hT, hg, fun j hj => ?_, hw, hh, fun j hj hS => ?_, ho, hsi, hhd, hy⟩, ?_, ?_, ?_⟩, frC_0, frM_0⟩
  · rw [c1, (hd j hj).1]
    have h23 : gA (tfS τ k g) 12 0 23 = gA τ 12 0 23 := rfl
    have h58 : gI (tfS τ k g) 12 0 58 = gI τ 12 0 58 := rfl
    have h59 : gI (tfS τ k g) 12 0 59 = gI τ 12 0 59 := rfl
    have hx := h1 j hj
    unfold dEff at hx ⊢
    rw [if_pos hF.2.2.1] at hx
    rw [t54, h58, h59, h23]
    by_cases k1 : k = 1
    · rw [if_pos k1, if_pos k1, if_neg i10]
    · rw [if_neg k1, if_neg k1, if_pos rfl, hx]
  · rw [c4, (hd j hj).2]
    have h46 : gA (tfS τ k g) 12 0 46 = gA τ 12 0 46 := rfl
    have h12 : gI (tfS τ k g) 12 0 12 = gI τ 12 0 12 := rfl
    have hx := hs j hj hS
    rw [sEff_RF hF] at hx
    unfold sEff
    rw [t56, t57, h46, h12, hZ.mn, ← hx]
    by_cases k2 : k = 2
    · have k3 : ¬ k = 3 := by omega
      rw [if_pos k2, if_pos k2, if_neg k3, if_pos rfl]
    · rw [if_neg k2, if_neg k2, and_m1]
      by_cases k3 : k = 3
      · rw [if_pos k3, if_pos k3, if_neg i10]
      · rw [if_neg k3, if_neg k3, if_pos rfl]
  · rw [c6, t55]
    by_cases k4 : k = 4
    · rw [if_pos k4, if_pos k4, if_neg i10]
    · rw [if_neg k4, if_neg k4, if_pos rfl]
  · have h19 : gA (tfS τ k g) 12 0 19 = gA τ 12 0 19 := rfl
    have h52 : gI (tfS τ k g) 12 0 52 = gI τ 12 0 52 := rfl
    unfold blE at y5 ⊢
    rw [if_pos hF.2.1] at y5
    rw [c5, t53, h19, h52]
    by_cases k0 : k = 0
    · rw [if_pos k0, if_pos k0, if_neg i10]
    · rw [if_neg k0, if_neg k0, if_pos rfl, y5]
  · exact yn
theorem q_tried (hQ : RQ G n r σ τ) (x y z : Int32) : ans σ τ (den 148 [vR 11 0 0, vI x, vI y, vI z] σ) (den 280 [vR 12 0 0, vI x, vI y, vI z] τ) := by
  have hr2 := hQ.1.1.r2
  have hn6 := hQ.1.1.n6
  have hQ1 := RQ_sc hQ scC_0 (scM_th τ)
  have hmr : gI (th0 τ) 12 0 13 = nI r := hQ.1.1.mr
  have hm : gI (th0 τ) 12 0 12 = nI n := hQ.1.1.mn
  -- whether the second argument may be
  have cls : ∀ (y4 : Option AV) , den 148 [vR 11 0 0, vI x, vI y, vI z] σ = den 148 [vR 11 0 0, vI x, vI y, vI z] σ := fun _ => rfl
  obtain ⟨okv, hok, hC, hM⟩ : ∃ okv : Int32, (okv = 0 ∨ okv = 1) ∧ (∀ (hx : okv = 0), den 148 [vR 11 0 0, vI x, vI y, vI z] σ = some (some (vI (-1)), σ)) ∧ (okv = 1 → den 148 [vR 11 0 0, vI x, vI y, vI z] σ = (bnd (den 156 [vI x, vI 0, vI 4] σ) fun v τ => run kX11_tried 19 [some (vR 11 0 0), some (vI x), some (vI y), some (vI z), some (vI okv)] (v.toList ++ []) τ)) ∧ okv = (if x = 2 then isb y (nI n) else if y = 0 then 1 else 0) := by
    have : (if x = 2 then isb y (nI n) else if y = 0 then (1 : Int32) else 0) = 0 ∨ (if x = 2 then isb y (nI n) else if y = 0 then (1 : Int32) else 0) = 1 := by
      by_cases h2 : x = 2
      · rw [if_pos h2]
        rcases isb_nI (g := y) (n := n) (by omega) with h | ⟨_, _, _, h⟩
        · exact Or.inl h
        · exact Or.inr h
      · rw [if_neg h2]
        by_cases h0 : y = 0
        · rw [if_pos h0]; exact Or.inr rfl
        · rw [if_neg h0]; exact Or.inl rfl
    refine ⟨_, this, fun hx => ?_, fun hx => ?_, rfl⟩
    · rw [dX11_tried, bX11_tried_0, e_isGrower, hQ.1.1.cn, bnd_s, tl_s, bX11_tried_6]
      by_cases h2 : x = 2
      · rw [if_pos h2] at hx
        rw [if_pos h2, if_pos hx]
      · rw [if_neg h2] at hx
        by_cases h0 : y = 0
        · rw [if_pos h0] at hx
          exact absurd hx i10
        · rw [if_neg h2, if_neg h0, if_pos rfl]
    · rw [dX11_tried, bX11_tried_0, e_isGrower, hQ.1.1.cn, bnd_s, tl_s, bX11_tried_6]
      by_cases h2 : x = 2
      · rw [if_pos h2] at hx
        have n0 : ¬ isb y (nI n) = 0 := by rw [hx]; exact i10
        rw [if_pos h2, if_pos h2, if_neg n0]
      · rw [if_neg h2] at hx
        by_cases h0 : y = 0
        · rw [if_neg h2, if_neg h2, if_pos h0, if_pos h0, if_neg i10]
        · rw [if_neg h0] at hx
          exact absurd hx (by decide)
  rw [dX12_tried, bX12_tried_0, m_isIn, bnd_s, tl_s, bX12_tried_7]
  rcases inb_l (x := x) (a' := 0) (M' := 4) 0 4 rfl rfl (by decide) (by decide) with h | ⟨k, _, hk, rfl, h⟩
  · rw [h, if_pos rfl]
    refine ⟨-1, σ, _, ?_, rfl, scC_0, scM_th τ⟩
    rcases hok with h0 | h1
    · exact hC h0
    · rw [hM.1 h1, e_isWithin, h, bnd_s, tl_s, bX11_tried_19, if_pos rfl]
  rw [h, if_neg i10, m_isIn, bnd_s, tl_s, bX12_tried_12]
  rcases inb_l (x := z) (a' := 0) (M' := 99) 0 99 rfl rfl (by decide) (by decide) with h' | ⟨N, _, hN, rfl, h'⟩
  · rw [h', if_pos rfl]
    refine ⟨-1, σ, _, ?_, rfl, scC_0, scM_th τ⟩
    rcases hok with h0 | h1
    · exact hC h0
    · rw [hM.1 h1, e_isWithin, h, bnd_s, tl_s, bX11_tried_19, if_neg i10, e_isWithin, h', bnd_s, tl_s, bX11_tried_24, if_pos rfl]
  rw [h', if_neg i10, m_isGrower, hm, hmr, bnd_s, tl_s, bX12_tried_19, hmr]
  have hcol : (if nI k = 2 then (if isb y (nI n) = 0 then (some (some (vI (-1)), th0 τ) : RS) else if nI r = 0 then some (some (vI (-1)), th0 τ) else bnd (den 208 [vR 12 0 0] (th0 τ)) fun v τ => run kX12_tried 30 [some (vR 12 0 0), some (vI (nI k)), some (vI y), some (vI (nI N))] (v.toList ++ []) τ) else if y = 0 then (if nI r = 0 then some (some (vI (-1)), th0 τ) else bnd (den 208 [vR 12 0 0] (th0 τ)) fun v τ => run kX12_tried 30 [some (vR 12 0 0), some (vI (nI k)), some (vI y), some (vI (nI N))] (v.toList ++ []) τ) else some (some (vI (-1)), th0 τ)) = if okv = 0 then some (some (vI (-1)), th0 τ) else if nI r = 0 then some (some (vI (-1)), th0 τ) else bnd (den 208 [vR 12 0 0] (th0 τ)) fun v τ => run kX12_tried 30 [some (vR 12 0 0), some (vI (nI k)), some (vI y), some (vI (nI N))] (v.toList ++ []) τ := by
    rw [hM.2]
    by_cases h2 : nI k = 2
    · rw [if_pos h2, if_pos h2]
    · rw [if_neg h2, if_neg h2]
      by_cases h0 : y = 0
      · rw [if_pos h0, if_pos h0, if_neg i10]
      · rw [if_neg h0, if_neg h0, if_pos rfl]
  rw [hcol]
  rcases hok with h0 | h1
  · rw [if_pos h0]
    exact ⟨-1, σ, _, hC h0, rfl, scC_0, scM_th τ⟩
  have n0 : ¬ okv = 0 := by rw [h1]; exact i10
  rw [if_neg n0, hM.1 h1, e_isWithin, h, bnd_s, tl_s, bX11_tried_19, if_neg i10, e_isWithin, h', bnd_s, tl_s, bX11_tried_24, if_neg i10, hQ.1.1.cr]
  by_cases hr : nI r = 0
  · rw [if_pos hr, if_pos hr]
    exact ⟨-1, _, _, rfl, rfl, scC_0, scM_th τ⟩
  have hr1 : 0 < r := by
    rcases Nat.eq_zero_or_pos r with e | e
    · rw [e] at hr
      exact absurd rfl hr
    · exact e
  obtain ⟨σ1, τ1, f1, f2, hZ, s1, s2, hF, _, _⟩ := begin_pair hQ1
  obtain ⟨d, s, o1, o2⟩ := e_other (σ := σ1) hn6 hk y hZ.cn
  have hZ1 := tried_begin hZ hF hk o2
  obtain ⟨σ2, τ2, g1, g2, hZ2⟩ := years_pair (N := N) (by omega) hZ1
  rw [if_neg hr, if_neg hr, hQ.1.1.g, f1, f2, bnd_s, bnd_s, tl_n, bX11_tried_39, m_tf τ1 hk, o1, g2, bnd_s, bnd_s, tl_n, bX11_tried_44, g1, bX12_tried_74, m_plain, bnd_s, bnd_s, tl_n, bX11_tried_48, bX12_tried_76, cl0, cl2, (YZ_h hZ2 hr1).1]
  refine ⟨_, σ2, plT τ2, rfl, rfl, scC_t s1 (scC_t (scC_t (scC_t (scC_t (scC_I (Or.inr (Or.inr (Or.inr (Or.inl ⟨rfl, rfl⟩)))) _) (scC_I (Or.inr (Or.inr (Or.inr (Or.inl ⟨rfl, rfl⟩)))) _)) (scC_A (Or.inr (Or.inr (Or.inr (Or.inl ⟨rfl, rfl⟩)))) _)) (scC_A (Or.inr (Or.inr (Or.inr (Or.inr (Or.inl ⟨rfl, rfl⟩))))) _)) (scC_fr hZ2.2.1)), ?_⟩
  have t1 : scM τ1 (tfS τ1 k y) := scM_t (scM_I (by omega) _) (scM_t (scM_I (by omega) _) (scM_t (scM_I (by omega) _) (scM_t (scM_I (by omega) _) (scM_I (by omega) _))))
  exact scM_t (scM_th τ) (scM_t s2 (scM_t t1 (scM_t (scM_fr hZ2.2.2 hF.1) (scM_plT τ2))))
end CHA
