/-! QUESTIONS over a trial: meet, ahead, hosts, comesTo, chance -/
section MEET
variable {G n r : Nat} {σ τ σ0 τ0 : ST}
theorem YZ_ans {σ' τ' : ST} (hs : scC σ σ0) (hm : scM τ τ0) (hF : RF τ0) (hZ : YZ SA G n r 1 1 σ0 τ0 σ' τ') : scC σ σ' ∧ scM τ τ' :=
  ⟨scC_t hs (scC_fr hZ.2.1), scM_t hm (scM_fr hZ.2.2 hF.1)⟩
theorem YZ_h (hZ : YZ SA G n r 1 1 σ0 τ0 σ τ) {p : Nat} (hp : p < r) : gA σ 5 1 5 p = gA τ 12 0 47 (2 + p) ∧ ∃ x, x < n ∧ gA σ 5 1 5 p = nI x := hZ.1.1.2.2.2.2.2.2.1 p hp
theorem meet_loop (hr : r = 2) : ∀ (m i : Nat), i + m = 100 → ∀ (σ τ : ST), YZ SA G n r 1 1 σ0 τ0 σ τ → ∃ (v : Int32) (σ' τ' : ST),
    run kX11_meet 17 [some (vR 11 0 0), some (vI (nI i))] [] σ = some (some (vI v), σ') ∧
    run kX12_meet 13 [some (vR 12 0 0), some (vI (nI i))] [] τ = some (some (vI v), τ') ∧ YZ SA G n r 1 1 σ0 τ0 σ' τ'
  | 0, i, hm, σ, τ, hZ => by
    have hi : i = 100 := by omega
    subst hi
    have hlt : (99 : Int32) < nI 100 := by decide
    exact ⟨-2, σ, τ, by rw [bX11_meet_17, if_pos hlt], by rw [bX12_meet_13, if_pos hlt], hZ⟩
  | m + 1, i, hm, σ, τ, hZ => by
    have hlt : ¬ (99 : Int32) < nI i := nI_nlt (a := 99) (b := i) (by omega) (by omega)
    have h0 : gA σ 5 1 5 0 = gA τ 12 0 47 2 := (YZ_h hZ (p := 0) (by omega)).1
    have h1 : gA σ 5 1 5 1 = gA τ 12 0 47 3 := (YZ_h hZ (p := 1) (by omega)).1
    rw [bX11_meet_17, if_neg hlt, bX12_meet_13, if_neg hlt, cl0, cl1, cl2, cl3, h0, h1]
    by_cases he : gA τ 12 0 47 2 = gA τ 12 0 47 3
    · rw [if_pos he, if_pos he]
      exact ⟨_, σ, τ, rfl, rfl, hZ⟩
    · obtain ⟨σ1, τ1, f1, f2, f3⟩ := year_pair hZ (by decide) (fun _ _ _ _ _ => trivial)
      have f2' : den 224 [vR 12 0 0, vI 1] τ = some (none, τ1) := f2
      rw [if_neg he, if_neg he, f1, f2', bnd_s, bnd_s, tl_n, bX11_meet_38, bX12_meet_30, nI_S]
      exact meet_loop hr m (i + 1) (by omega) σ1 τ1 f3
theorem q_meet (hQ : RQ G n r σ τ) : ans σ τ (den 128 [vR 11 0 0] σ) (den 251 [vR 12 0 0] τ) := by
  have hr2 := hQ.1.1.r2
  have hQ1 := RQ_sc hQ scC_0 (scM_th τ)
  rw [dX11_meet, bX11_meet_0, hQ.1.1.cr, dX12_meet, bX12_meet_0, hQ.1.1.mr]
  by_cases h : nI r < 2
  · rw [if_pos h, if_pos h]
    exact ⟨-1, _, _, rfl, rfl, scC_0, scM_th τ⟩
  · have hr : r = 2 := by
      have : ¬ r < 2 := fun z => h (nI_lt (b := 2) z (by decide))
      omega
    obtain ⟨σ1, τ1, f1, f2, hZ, s1, s2, hF, _, _⟩ := begin_pair hQ1
    obtain ⟨v, σ2, τ2, g1, g2, hZ2⟩ := meet_loop hr 100 0 (by decide) σ1 τ1 hZ
    rw [nI_0] at g1 g2
    obtain ⟨x1, x2⟩ := YZ_ans s1 (scM_t (scM_th τ) s2) hF hZ2
    rw [if_neg h, if_neg h, hQ.1.1.g, f1, f2, bnd_s, bnd_s, tl_n, bX11_meet_15, bX12_meet_11]
    exact ⟨v, σ2, τ2, g1, g2, x1, x2⟩
theorem q_ahead (hQ : RQ G n r σ τ) (x y z : Int32) : ans σ τ (den 123 [vR 11 0 0, vI x, vI y, vI z] σ) (den 238 [vR 12 0 0, vI x, vI y, vI z] τ) := by
  have hn6 := hQ.1.1.n6
  have hr2 := hQ.1.1.r2
  have hQ1 := RQ_sc hQ scC_0 (scM_th τ)
  have hm : gI (th0 τ) 12 0 12 = nI n := hQ.1.1.mn
  have hmr : gI (th0 τ) 12 0 13 = nI r := hQ.1.1.mr
  obtain ⟨σ1, τ1, f1, f2, hZ, s1, s2, hF, _, _⟩ := begin_pair hQ1
  rw [dX11_ahead, bX11_ahead_0, dX12_ahead, bX12_ahead_0, m_isIn, bnd_s, tl_s, bX12_ahead_7]
  -- the class's first test, then the two others, whatever the first said
  have cls : ∀ z0 : Int32, (run kX11_ahead 12 [some (vR 11 0 0), some (vI x), some (vI y), some (vI z), none] [vI z0] σ) = if z0 = 0 then some (some (vI (-1)), σ) else if inb x 0 99 = 0 then some (some (vI (-1)), σ) else if inb y 0 3 = 0 then some (some (vI (-1)), σ) else (bnd (den 0 [vR 0 1 0, vR 2 (gR σ 11 0 2) 0, vR 5 0 0] σ) fun v τ => run kX11_ahead 35 [some (vR 11 0 0), some (vI x), some (vI y), some (vI z), some (vI z0)] (v.toList ++ []) τ) := by
    intro z0
    rw [bX11_ahead_12, e_isWithin, bnd_s, tl_s, bX11_ahead_19, e_isWithin, bnd_s, tl_s, bX11_ahead_24]
  have cl1' : (if y = 0 then (bnd (den 154 [vR 11 0 0, vI z] σ) fun v τ => run kX11_ahead 8 [some (vR 11 0 0), some (vI x), some (vI y), some (vI z), none] (v.toList ++ []) τ) else (if y = 1 then (bnd (den 154 [vR 11 0 0, vI z] σ) fun v τ => run kX11_ahead 8 [some (vR 11 0 0), some (vI x), some (vI y), some (vI z), none] (v.toList ++ []) τ) else (bnd (den 153 [vR 11 0 0, vI z] σ) fun v τ => run kX11_ahead 12 [some (vR 11 0 0), some (vI x), some (vI y), some (vI z), none] (v.toList ++ []) τ))) = run kX11_ahead 12 [some (vR 11 0 0), some (vI x), some (vI y), some (vI z), none] [vI (if y = 0 then isb z (nI r) else if y = 1 then isb z (nI r) else isb z (nI n))] σ := by
    rw [e_isRibbon, e_isGrower, hQ.1.1.cr, hQ.1.1.cn, bnd_s, bnd_s, tl_s, tl_s, bX11_ahead_8]
    by_cases y0 : y = 0
    · rw [if_pos y0, if_pos y0]
    · rw [if_neg y0, if_neg y0]
      by_cases y1 : y = 1
      · rw [if_pos y1, if_pos y1]
      · rw [if_neg y1, if_neg y1]
  rw [cl1', cls]
  rcases inb_l (x := x) (a' := 0) (M' := 99) 0 99 rfl rfl (by decide) (by decide) with h | ⟨N, _, hN, rfl, h⟩
  · rw [h, if_pos rfl, if_pos rfl, ite_self]
    exact ⟨-1, _, _, rfl, rfl, scC_0, scM_th τ⟩
  rw [h, if_neg i10, if_neg i10, m_isIn, bnd_s, tl_s, bX12_ahead_12]
  rcases inb_l (x := y) (a' := 0) (M' := 3) 0 3 rfl rfl (by decide) (by decide) with h | ⟨k, _, hk, rfl, h⟩
  · rw [h, if_pos rfl, if_pos rfl, ite_self]
    exact ⟨-1, _, _, rfl, rfl, scC_0, scM_th τ⟩
  obtain ⟨σ2, τ2, g1, g2, hZ2⟩ := years_pair (N := N) (by omega) hZ
  obtain ⟨x1, x2⟩ := YZ_ans s1 (scM_t (scM_th τ) s2) hF hZ2
  rw [h, if_neg i10, if_neg i10, m_isRibbon, m_isGrower, hm, hmr, bnd_s, bnd_s, tl_s, tl_s, bX12_ahead_19, bX12_ahead_26, f2, bnd_s, tl_n, bX12_ahead_31, g2, bnd_s, tl_n, hQ.1.1.g, f1, bnd_s, tl_n, bX11_ahead_35, g1, bnd_s, tl_n, bX11_ahead_39, bX12_ahead_34]
  by_cases hk2 : k < 2
  · have e1 : (if nI k = 0 then isb z (nI r) else if nI k = 1 then isb z (nI r) else isb z (nI n)) = isb z (nI r) := by
      have : k = 0 ∨ k = 1 := by omega
      rcases this with rfl | rfl
      · exact if_pos rfl
      · rw [if_neg (by decide)]
        exact if_pos rfl
    have l1 : nI k < 2 := nI_lt (b := 2) hk2 (by decide)
    have l2 : ¬ (1 : Int32) < nI k := nI_nlt (a := 1) (by omega) (by omega)
    rw [e1, if_pos l1, if_neg l2]
    rcases isb_nI (g := z) (n := r) (by omega) with h | ⟨p, hp, rfl, h⟩
    · rw [h, if_pos rfl, if_pos rfl]
      exact ⟨-1, _, _, rfl, rfl, scC_0, scM_th τ⟩
    · have a1 := ob (i := p) (N := 2) (by omega) (by decide)
      have a2 := ob (i := p) (N := 4) (by omega) (by decide)
      have a3 := ob (i := 2 + p) (N := 4) (by omega) (by decide)
      have c1 : (nI p).toNatClampNeg = p := nI_clamp (by omega)
      have c2 : (nI (2 + p)).toNatClampNeg = 2 + p := nI_clamp (by omega)
      have q1 := (YZ_h hZ2 hp).1
      have q2 : gA σ2 5 1 7 p = gA τ2 12 0 49 (2 + p) := hZ2.1.1.2.2.2.2.2.2.2.2.1 p hp
      have q3 : gA σ2 5 0 7 p = gA τ2 12 0 49 p := by
        have := (RQ_sc hQ x1 x2).2.1.1.2.2.2.2.2.1 p hp
        simp only [Nat.mul_zero, Nat.zero_add] at this
        exact this
      rw [h, if_neg i10, if_neg i10]
      simp only [i2a, c1, c2, a1, a2, a3, ↓reduceIte, q1, q2, q3]
      have : k = 0 ∨ k = 1 := by omega
      rcases this with rfl | rfl
      · rw [if_pos nI_0, if_pos nI_0]
        exact ⟨_, σ2, τ2, rfl, rfl, x1, x2⟩
      · rw [if_neg (show ¬ nI 1 = 0 by decide), if_pos (show nI 1 = 1 from rfl), if_neg (show ¬ nI 1 = 0 by decide), if_pos (show nI 1 = 1 from rfl)]
        exact ⟨_, σ2, τ2, rfl, rfl, x1, x2⟩
  · have n0 : ¬ nI k = 0 := nI_ne0 (by omega) (by omega)
    have n1 : ¬ nI k = 1 := fun e => absurd ((nI_eq (a := k) (b := 1) (by omega) (by decide)).mp e) (by omega)
    have l1 : ¬ nI k < 2 := nI_nlt (a := k) (b := 2) (by omega) (by omega)
    have l2 : (1 : Int32) < nI k := nI_lt (a := 1) (by omega) (by omega)
    rw [if_neg l1, if_pos l2, if_neg n0, if_neg n1]
    rcases isb_nI (g := z) (n := n) (by omega) with h | ⟨j, hj, rfl, h⟩
    · rw [h, if_pos rfl, if_pos rfl]
      exact ⟨-1, _, _, rfl, rfl, scC_0, scM_th τ⟩
    · have a1 := ob (i := j) (N := 6) (by omega) (by decide)
      have a3 := ob (i := 6 + j) (N := 12) (by omega) (by decide)
      have c1 : (nI j).toNatClampNeg = j := nI_clamp (by omega)
      have c2 : (nI (6 + j)).toNatClampNeg = 6 + j := nI_clamp (by omega)
      have q1 : gA σ2 5 1 2 j = gA τ2 12 0 44 (6 + j) := (hZ2.1.1.2.2.2.1 j hj).1
      have q2 : gA σ2 5 1 3 j = gA τ2 12 0 45 (6 + j) := hZ2.1.1.2.2.2.2.1 j hj
      rw [h, if_neg i10, if_neg i10, if_neg n0, if_neg n1, if_neg n0, if_neg n1]
      simp only [i6a, c1, c2, a1, a3, ↓reduceIte, q1, q2]
      by_cases e2 : nI k = 2
      · rw [if_pos e2, if_pos e2]
        exact ⟨_, σ2, τ2, rfl, rfl, x1, x2⟩
      · rw [if_neg e2, if_neg e2]
        exact ⟨_, σ2, τ2, rfl, rfl, x1, x2⟩
theorem hosts_loop {p N : Nat} (hp : p < r) (hN : N < 2 ^ 31) : ∀ (m i : Nat), i + m = N → ∀ (σ τ : ST), YZ SA G n r 1 1 σ0 τ0 σ τ → ∀ x : Int32, ∃ (v : Int32) (σ' τ' : ST),
    run kX11_hosts 30 [some (vR 11 0 0), some (vI (nI p)), some (vI (nI N)), some (vI x), some (vI (nI i))] [] σ = some (some (vI v), σ') ∧
    run kX12_hosts 27 [some (vR 12 0 0), some (vI (nI p)), some (vI (nI N)), some (vI x), some (vI (nI i))] [] τ = some (some (vI v), τ') ∧ YZ SA G n r 1 1 σ0 τ0 σ' τ'
  | 0, i, hm, σ, τ, hZ, x => by
    have hlt : ¬ nI i < nI N := nI_nlt (by omega) (by omega)
    exact ⟨x, σ, τ, by rw [bX11_hosts_30, if_neg hlt], by rw [bX12_hosts_27, if_neg hlt], hZ⟩
  | m + 1, i, hm, σ, τ, hZ, x => by
    have hr2 := hZ.r2
    have hlt : nI i < nI N := nI_lt (by omega) hN
    obtain ⟨σ1, τ1, f1, f2, f3⟩ := year_pair hZ (by decide) (fun _ _ _ _ _ => trivial)
    have f2' : den 224 [vR 12 0 0, vI 1] τ = some (none, τ1) := f2
    have a1 := ob (i := p) (N := 2) (by omega) (by decide)
    have a3 := ob (i := 2 + p) (N := 4) (by omega) (by decide)
    have c1 : (nI p).toNatClampNeg = p := nI_clamp (by omega)
    have c2 : (nI (2 + p)).toNatClampNeg = 2 + p := nI_clamp (by omega)
    have q1 := (YZ_h f3 hp).1
    rw [bX11_hosts_30, if_pos hlt, bX12_hosts_27, if_pos hlt, f1, f2', bnd_s, bnd_s, tl_n, bX11_hosts_36, bX12_hosts_33]
    simp only [i2a, c1, c2, a1, a3, ↓reduceIte, q1, nI_S]
    exact hosts_loop hp hN m (i + 1) (by omega) σ1 τ1 f3 _
theorem q_hosts (hQ : RQ G n r σ τ) (x y : Int32) : ans σ τ (den 135 [vR 11 0 0, vI x, vI y] σ) (den 256 [vR 12 0 0, vI x, vI y] τ) := by
  have hr2 := hQ.1.1.r2
  have hQ1 := RQ_sc hQ scC_0 (scM_th τ)
  have hmr : gI (th0 τ) 12 0 13 = nI r := hQ.1.1.mr
  rw [dX11_hosts, bX11_hosts_0, e_isRibbon, hQ.1.1.cr, bnd_s, tl_s, bX11_hosts_3, dX12_hosts, bX12_hosts_0, m_isRibbon, hmr, bnd_s, tl_s, bX12_hosts_6]
  rcases isb_nI (g := x) (n := r) (by omega) with h | ⟨p, hp, rfl, h⟩
  · rw [h, if_pos rfl, if_pos rfl]
    exact ⟨-1, _, _, rfl, rfl, scC_0, scM_th τ⟩
  rw [h, if_neg i10, if_neg i10, e_isWithin, m_isIn, bnd_s, bnd_s, tl_s, bX11_hosts_8, bX12_hosts_11]
  rcases inb_l (x := y) (a' := 0) (M' := 99) 0 99 rfl rfl (by decide) (by decide) with h | ⟨N, _, hN, rfl, h⟩
  · rw [h, if_pos rfl, if_pos rfl]
    exact ⟨-1, _, _, rfl, rfl, scC_0, scM_th τ⟩
  obtain ⟨σ1, τ1, f1, f2, hZ, s1, s2, hF, _, _⟩ := begin_pair hQ1
  have a1 := ob (i := p) (N := 2) (by omega) (by decide)
  have a3 := ob (i := 2 + p) (N := 4) (by omega) (by decide)
  have c1 : (nI p).toNatClampNeg = p := nI_clamp (by omega)
  have c2 : (nI (2 + p)).toNatClampNeg = 2 + p := nI_clamp (by omega)
  have q1 := (YZ_h hZ hp).1
  obtain ⟨v, σ2, τ2, g1, g2, hZ2⟩ := hosts_loop hp (N := N) (by omega) N 0 (by omega) σ1 τ1 hZ (1 <<< (gA τ1 12 0 47 (2 + p) &&& 31))
  rw [nI_0] at g1 g2
  obtain ⟨x1, x2⟩ := YZ_ans s1 (scM_t (scM_th τ) s2) hF hZ2
  rw [h, if_neg i10, if_neg i10, hQ.1.1.g, f1, f2, bnd_s, bnd_s, tl_n, bX11_hosts_19, bX12_hosts_16]
  simp only [i2a, c1, c2, a1, a3, ↓reduceIte, q1]
  exact ⟨v, σ2, τ2, g1, g2, x1, x2⟩
theorem comes_loop {p : Nat} (hp : p < r) (g : Int32) : ∀ (m i : Nat), i + m = 100 → ∀ (σ τ : ST), YZ SA G n r 1 1 σ0 τ0 σ τ → ∃ (v : Int32) (σ' τ' : ST),
    run kX11_comesTo 20 [some (vR 11 0 0), some (vI (nI p)), some (vI g), some (vI (nI i))] [] σ = some (some (vI v), σ') ∧
    run kX12_comesTo 17 [some (vR 12 0 0), some (vI (nI p)), some (vI g), some (vI (nI i))] [] τ = some (some (vI v), τ') ∧ YZ SA G n r 1 1 σ0 τ0 σ' τ'
  | 0, i, hm, σ, τ, hZ => by
    have hi : i = 100 := by omega
    subst hi
    have hlt : (99 : Int32) < nI 100 := by decide
    exact ⟨-2, σ, τ, by rw [bX11_comesTo_20, if_pos hlt], by rw [bX12_comesTo_17, if_pos hlt], hZ⟩
  | m + 1, i, hm, σ, τ, hZ => by
    have hr2 := hZ.r2
    have hlt : ¬ (99 : Int32) < nI i := nI_nlt (a := 99) (b := i) (by omega) (by omega)
    have a1 := ob (i := p) (N := 2) (by omega) (by decide)
    have a3 := ob (i := 2 + p) (N := 4) (by omega) (by decide)
    have c1 : (nI p).toNatClampNeg = p := nI_clamp (by omega)
    have c2 : (nI (2 + p)).toNatClampNeg = 2 + p := nI_clamp (by omega)
    have q1 := (YZ_h hZ hp).1
    rw [bX11_comesTo_20, if_neg hlt, bX12_comesTo_17, if_neg hlt]
    simp only [i2a, c1, c2, a1, a3, ↓reduceIte, q1]
    by_cases he : gA τ 12 0 47 (2 + p) = g
    · rw [if_pos he, if_pos he]
      exact ⟨_, σ, τ, rfl, rfl, hZ⟩
    · obtain ⟨σ1, τ1, f1, f2, f3⟩ := year_pair hZ (by decide) (fun _ _ _ _ _ => trivial)
      have f2' : den 224 [vR 12 0 0, vI 1] τ = some (none, τ1) := f2
      rw [if_neg he, if_neg he, f1, f2', bnd_s, bnd_s, tl_n, bX11_comesTo_36, bX12_comesTo_33, nI_S]
      exact comes_loop hp g m (i + 1) (by omega) σ1 τ1 f3
theorem q_comesTo (hQ : RQ G n r σ τ) (x y : Int32) : ans σ τ (den 138 [vR 11 0 0, vI x, vI y] σ) (den 259 [vR 12 0 0, vI x, vI y] τ) := by
  have hr2 := hQ.1.1.r2
  have hn6 := hQ.1.1.n6
  have hQ1 := RQ_sc hQ scC_0 (scM_th τ)
  have hmr : gI (th0 τ) 12 0 13 = nI r := hQ.1.1.mr
  have hm : gI (th0 τ) 12 0 12 = nI n := hQ.1.1.mn
  rw [dX11_comesTo, bX11_comesTo_0, e_isRibbon, hQ.1.1.cr, bnd_s, tl_s, bX11_comesTo_3, dX12_comesTo, bX12_comesTo_0, m_isRibbon, hmr, bnd_s, tl_s, bX12_comesTo_6]
  rcases isb_nI (g := x) (n := r) (by omega) with h | ⟨p, hp, rfl, h⟩
  · rw [h, if_pos rfl, if_pos rfl]
    exact ⟨-1, _, _, rfl, rfl, scC_0, scM_th τ⟩
  rw [h, if_neg i10, if_neg i10, e_isGrower, hQ.1.1.cn, m_isGrower, hm, bnd_s, bnd_s, tl_s, bX11_comesTo_7, bX12_comesTo_10]
  by_cases h0 : isb y (nI n) = 0
  · rw [if_pos h0, if_pos h0]
    exact ⟨-1, _, _, rfl, rfl, scC_0, scM_th τ⟩
  obtain ⟨σ1, τ1, f1, f2, hZ, s1, s2, hF, _, _⟩ := begin_pair hQ1
  obtain ⟨v, σ2, τ2, g1, g2, hZ2⟩ := comes_loop hp y 100 0 (by omega) σ1 τ1 hZ
  rw [nI_0] at g1 g2
  obtain ⟨x1, x2⟩ := YZ_ans s1 (scM_t (scM_th τ) s2) hF hZ2
  rw [if_neg h0, if_neg h0, hQ.1.1.g, f1, f2, bnd_s, bnd_s, tl_n, bX11_comesTo_18, bX12_comesTo_15]
  exact ⟨v, σ2, τ2, g1, g2, x1, x2⟩
end MEET
