/-! QUESTIONS over the real course: judged, best, law, keepers -/
/-- a question's answer is the same, and nothing lasting changed -/
def ans (σ τ : ST) (ca cm : RS) : Prop := ∃ (v : Int32) (σ' τ' : ST), ca = some (some (vI v), σ') ∧ cm = some (some (vI v), τ') ∧ scC σ σ' ∧ scM τ τ'
def ansL (σ τ : ST) (ca cm : RS) : Prop := ∃ (v : Int64) (σ' τ' : ST), ca = some (some (vL v), σ') ∧ cm = some (some (vL v), τ') ∧ scC σ σ' ∧ scM τ τ'
theorem scM_th (τ : ST) : scM τ (th0 τ) := scM_I (Or.inl rfl) 0
theorem ans_t {σ τ τ1 : ST} {ca cm : RS} (h : scM τ τ1) (h2 : ans σ τ1 ca cm) : ans σ τ ca cm := by
  obtain ⟨v, σ', τ', a, b, c, d⟩ := h2
  exact ⟨v, σ', τ', a, b, c, scM_t h d⟩
theorem ansL_t {σ τ τ1 : ST} {ca cm : RS} (h : scM τ τ1) (h2 : ansL σ τ1 ca cm) : ansL σ τ ca cm := by
  obtain ⟨v, σ', τ', a, b, c, d⟩ := h2
  exact ⟨v, σ', τ', a, b, c, scM_t h d⟩
theorem inb_nI {x : Int32} {a M : Nat} (ha : a ≤ M) (hM : M < 2 ^ 31) : inb x (nI a) (nI M) = 0 ∨ ∃ j, a ≤ j ∧ j ≤ M ∧ x = nI j ∧ inb x (nI a) (nI M) = 1 := by
  unfold inb
  by_cases h1 : x < nI a
  · exact Or.inl (if_pos h1)
  · rw [if_neg h1]
    by_cases h2 : nI M < x
    · exact Or.inl (if_pos h2)
    · rw [if_neg h2]
      have h0 : ¬ x < 0 := by
        intro z
        apply h1
        rw [Int32.lt_iff_toInt_lt] at z ⊢
        rw [nI_toInt (by omega)]
        have : (0 : Int32).toInt = 0 := rfl
        omega
      obtain ⟨j, hj, rfl⟩ := nI_of h0
      have l1 : ¬ j < a := fun z => h1 (nI_lt z (by omega))
      have l2 : ¬ M < j := fun z => h2 (nI_lt z hj)
      exact Or.inr ⟨j, by omega, by omega, rfl, rfl⟩
theorem inb_l {x a' M' : Int32} (a M : Nat) (h1 : a' = nI a) (h2 : M' = nI M) (ha : a ≤ M) (hM : M < 2 ^ 31) : inb x a' M' = 0 ∨ ∃ j, a ≤ j ∧ j ≤ M ∧ x = nI j ∧ inb x a' M' = 1 := by
  subst h1 h2
  exact inb_nI ha hM
section REAL
variable {G n r : Nat} {σ τ : ST}
theorem q_judged (hQ : RQ G n r σ τ) (x y : Int32) : ans σ τ (den 116 [vR 11 0 0, vI x, vI y] σ) (den 230 [vR 12 0 0, vI x, vI y] τ) := by
  have hn6 := hQ.1.1.n6
  have hs := scM_t (scM_th τ) (scM_plT _)
  have hQ1 := RQ_sc hQ scC_0 hs
  have hm : gI (plT (th0 τ)) 12 0 12 = nI n := hQ.1.1.mn
  rw [dX11_judged, bX11_judged_0, e_areTwo, hQ.1.1.cn, bnd_s, tl_s, bX11_judged_4, dX12_judged, bX12_judged_0, m_plain, bnd_s, tl_n, bX12_judged_5, m_areTwo, hm, bnd_s, tl_s, bX12_judged_9]
  rcases twb_nI (a := x) (c := y) (n := n) (by omega) with h | ⟨i, j, hi, hj, _, rfl, rfl, h⟩
  · rw [h, if_pos rfl, if_pos rfl]
    exact ⟨-1, _, _, rfl, rfl, scC_0, hs⟩
  · rw [h, if_neg i10, if_neg i10]
    obtain ⟨z, B, B', e, _, q1, q2⟩ := esteem_pair (YQ_real hQ1 (RF_plT _)) (by decide) hi hj
    have q2' : den 217 [vR 12 0 0, vI 0, vI (nI i), vI (nI j)] (plT (th0 τ)) = some (some (vI z), wE (plT (th0 τ)) B' e) := q2
    rw [q1, q2', bnd_s, bnd_s, tl_s, bX11_judged_10, bX12_judged_15]
    exact ⟨z, _, _, rfl, rfl, scC_B B, scM_t hs (scM_E B' e)⟩
theorem q_best (hQ : RQ G n r σ τ) (x : Int32) : ans σ τ (den 117 [vR 11 0 0, vI x] σ) (den 231 [vR 12 0 0, vI x] τ) := by
  have hn6 := hQ.1.1.n6
  have hs := scM_t (scM_th τ) (scM_plT _)
  have hQ1 := RQ_sc hQ scC_0 hs
  have hm : gI (plT (th0 τ)) 12 0 12 = nI n := hQ.1.1.mn
  rw [dX11_best, bX11_best_0, e_isGrower, hQ.1.1.cn, bnd_s, tl_s, bX11_best_3, dX12_best, bX12_best_0, m_plain, bnd_s, tl_n, bX12_best_5, m_isGrower, hm, bnd_s, tl_s, bX12_best_8]
  rcases isb_nI (g := x) (n := n) (by omega) with h | ⟨i, hi, rfl, h⟩
  · rw [h, if_pos rfl, if_pos rfl]
    exact ⟨-1, _, _, rfl, rfl, scC_0, hs⟩
  · rw [h, if_neg i10, if_neg i10]
    obtain ⟨z, B, B', e, _, q1, q2⟩ := best_pair (YQ_real hQ1 (RF_plT _)) (by decide) hi trivial
    have q2' : den 219 [vR 12 0 0, vI 0, vI (nI i)] (plT (th0 τ)) = some (some (vI z), wE (plT (th0 τ)) B' e) := q2
    rw [q1, q2', bnd_s, bnd_s, tl_s, bX11_best_8, bX12_best_13]
    exact ⟨z, _, _, rfl, rfl, scC_B B, scM_t hs (scM_E B' e)⟩
/-- Course.judgeLaw -/
theorem e_judge {S : Nat → Prop} {o b : Nat} (hY : YQ S G n r σ o τ b) (hb : b < 2) {i j : Nat} (hi : i < n) (hj : j < n) : ∃ (v : Int64) (B B1 : Nat → Nat → Nat → Nat → Int64),
    den 10 [vR 0 o 0, vI (nI i), vI (nI j)] σ = some (some (vL v), wB σ B) ∧
    den 214 [vR 12 0 0, vI (nI b), vI (nI i), vI (nI j), vI 0] τ = some (none, wB τ B1) ∧
    ((gA τ 12 0 27 0 = 0 ∧ v = eER) ∨ (gA τ 12 0 27 0 = 1 ∧ ∃ (x : Int64) (B : Nat → Nat → Nat → Nat → Int64) (e : Int32), den 215 [vR 12 0 0, vI (nI 0)] (wB τ B1) = some (some (vL x), wE τ B e) ∧ ((e = 0 ∧ x = v ∧ bd x) ∨ (e = 1 ∧ v = eER)))) := by
  have hn6 := hY.n6
  obtain ⟨v, B1, p1, p2, p3⟩ := law_pair hY hb (w := 0) (by decide) hi hj 0
  obtain ⟨⟨hG, hL⟩, hg, hd, hP⟩ := hY
  obtain ⟨w5, x5, b5, y5⟩ := hG.2.2.2.2.2.2.2.2.2 i hi
  obtain ⟨w6, x6, b6, y6⟩ := hG.2.2.2.2.2.2.2.2.2 j hj
  obtain ⟨B0, t1, t2⟩ := e_tell σ o (show i < 6 by omega) (show j < 6 by omega) (apt (nI x5) (nI x6)) 0
  rw [y5, y6] at p1
  obtain ⟨B2, q⟩ := p1 B0 t2
  have hg0 : gR (wB σ B0) 0 o 4 = G := hg
  have q' : den 30 [vR 3 (3 * G) 0, vR 0 o 3, vR 0 o 4] (wB σ B0) = some (some (vL v), wB σ B2) := q
  refine ⟨v, B2, B1, ?_, p2, p3⟩
  rw [dX0_judgeLaw, bX0_judgeLaw_0, hg, e_far σ G (show i < 6 by omega) (show j < 6 by omega) b5 b6 y5 y6, bnd_s, tl_s, bX0_judgeLaw_8, t1, bnd_s, tl_n, bX0_judgeLaw_10, hg0, cl0, Nat.add_zero, q', bnd_s, tl_s, bX0_judgeLaw_20]
theorem q_law (hQ : RQ G n r σ τ) (w x y : Int32) : ansL σ τ (den 118 [vR 11 0 0, vI w, vI x, vI y] σ) (den 232 [vR 12 0 0, vI w, vI x, vI y] τ) := by
  have hn6 := hQ.1.1.n6
  have hs := scM_t (scM_th τ) (scM_plT _)
  have hQ1 := RQ_sc hQ scC_0 hs
  have hY := YQ_real hQ1 (RF_plT _)
  have hm0 : gI (th0 τ) 12 0 12 = nI n := hQ.1.1.mn
  have hm : gI (plT (th0 τ)) 12 0 12 = nI n := hQ.1.1.mn
  rw [dX11_law, bX11_law_0, dX12_law, bX12_law_0, m_isIn, bnd_s, tl_s, bX12_law_7]
  -- the reference's end
  have fin : ∀ (k : Nat) (v : Int64) (B B1 : Nat → Nat → Nat → Nat → Int64), k < 3 → ¬ gA τ 12 0 27 k = 0 → ((gA (plT (th0 τ)) 12 0 27 k = 0 ∧ v = eER) ∨ (gA (plT (th0 τ)) 12 0 27 k = 1 ∧ ∃ (x : Int64) (B : Nat → Nat → Nat → Nat → Int64) (e : Int32), den 215 [vR 12 0 0, vI (nI k)] (wB (plT (th0 τ)) B1) = some (some (vL x), wE (plT (th0 τ)) B e) ∧ ((e = 0 ∧ x = v ∧ bd x) ∨ (e = 1 ∧ v = eER)))) → ∀ y2 y3 y4 y5 : Option AV, ansL σ τ (some (some (vL v), wB σ B)) (run kX12_law 38 [some (vR 12 0 0), some (vI (nI k)), y2, y3, y4, y5] [] (wB (plT (th0 τ)) B1)) := by
    intro k v B B1 hk ht hp y2 y3 y4 y5
    rw [bX12_law_38]
    rcases hp with ⟨h1, _⟩ | ⟨h1, x, B3, e, h2, h3⟩
    · exact absurd h1 ht
    · have he : gI (wE (plT (th0 τ)) B3 e) 12 0 43 = e := gwE
      rw [h2, bnd_s, tl_s, bX12_law_41, he]
      rcases h3 with ⟨h3, h4, _⟩ | ⟨h3, h4⟩
      · rw [if_pos h3, h4]
        exact ⟨v, _, _, rfl, rfl, scC_B B, scM_t hs (scM_E B3 e)⟩
      · have n1 : ¬ e = 0 := by rw [h3]; decide
        rw [if_neg n1, h4]
        exact ⟨eER, _, _, rfl, rfl, scC_B B, scM_t hs (scM_E B3 e)⟩
  rcases inb_l (x := w) (a' := 0) (M' := 2) 0 2 rfl rfl (by decide) (by decide) with h | ⟨k, _, hk, rfl, h⟩
  · -- no such law
    have n0 : ¬ w = 0 := fun z => by rw [z] at h; exact absurd h (by decide)
    have n1 : ¬ w = 1 := fun z => by rw [z] at h; exact absurd h (by decide)
    have n2 : ¬ w = 2 := fun z => by rw [z] at h; exact absurd h (by decide)
    rw [if_neg n0, h, if_pos rfl, e_isGrower, bnd_s, tl_s, bX11_law_18, if_neg n1, if_neg n2]
    by_cases hz : isb x (gI σ 2 (gR σ 11 0 2) 0) = 0
    · rw [if_pos hz]
      exact ⟨eER, _, _, rfl, rfl, scC_0, scM_th τ⟩
    · rw [if_neg hz]
      exact ⟨eER, _, _, rfl, rfl, scC_0, scM_th τ⟩
  · have h' : inb (nI k) 0 2 = 1 := h
    have a1 := ob (i := k) (N := 6) (by omega) (by decide)
    have c1 : (nI k).toNatClampNeg = k := nI_clamp (by omega)
    have t27 : gA (th0 τ) 12 0 27 = gA τ 12 0 27 := rfl
    rw [h', if_neg i10]
    simp only [c1, a1, t27, ↓reduceIte]
    by_cases k0 : k = 0
    · subst k0
      rw [if_pos nI_0, e_areTwo, hQ.1.1.cn, bnd_s, tl_s, bX11_law_6]
      rcases twb_nI (a := x) (c := y) (n := n) (by omega) with h | ⟨i, j, hi, hj, hij, rfl, rfl, h⟩
      · rw [h, if_pos rfl]
        by_cases ht : gA τ 12 0 27 0 = 0
        · rw [if_pos ht]
          exact ⟨eER, _, _, rfl, rfl, scC_0, scM_th τ⟩
        · rw [if_neg ht, m_isGrower, hm0, bnd_s, tl_s, bX12_law_16]
          by_cases hz : isb x (nI n) = 0
          · rw [if_pos hz]
            exact ⟨eER, _, _, rfl, rfl, scC_0, scM_th τ⟩
          · rw [if_neg hz, if_pos nI_0, m_areTwo, hm0, h, bnd_s, tl_s, bX12_law_23, if_pos rfl]
            exact ⟨eER, _, _, rfl, rfl, scC_0, scM_th τ⟩
      · rw [h, if_neg i10]
        obtain ⟨v, B, B1, p1, p2, p3⟩ := e_judge hY (by decide) hi hj
        have p2' : den 214 [vR 12 0 0, vI 0, vI (nI i), vI (nI j), vI 0] (plT (th0 τ)) = some (none, wB (plT (th0 τ)) B1) := p2
        rw [p1, bnd_s, tl_s, bX11_law_12]
        by_cases ht : gA τ 12 0 27 0 = 0
        · rw [if_pos ht]
          rcases p3 with ⟨_, hv⟩ | ⟨h1, _⟩
          · rw [hv]
            exact ⟨eER, _, _, rfl, rfl, scC_B B, scM_th τ⟩
          · have h1' : gA τ 12 0 27 0 = 1 := h1
            rw [ht] at h1'
            exact absurd h1' (by decide)
        · have hgi : isb (nI i) (nI n) = 1 := isb_1 ⟨nI_pos (by omega), nI_lt hi (by omega)⟩
          rw [if_neg ht, m_isGrower, hm0, hgi, bnd_s, tl_s, bX12_law_16, if_neg i10, if_pos nI_0, m_areTwo, hm0, h, bnd_s, tl_s, bX12_law_23, if_neg i10, m_plain, bnd_s, tl_n, bX12_law_28, if_pos nI_0, p2', bnd_s, tl_n]
          exact fin 0 v B B1 (by decide) ht p3 _ _ _ _
    · have n0 : ¬ nI k = 0 := nI_ne0 (by omega) (by omega)
      rw [if_neg n0, e_isGrower, hQ.1.1.cn, bnd_s, tl_s, bX11_law_18]
      rcases isb_nI (g := x) (n := n) (by omega) with h | ⟨i, hi, rfl, h⟩
      · rw [h, if_pos rfl]
        by_cases ht : gA τ 12 0 27 k = 0
        · rw [if_pos ht]
          exact ⟨eER, _, _, rfl, rfl, scC_0, scM_th τ⟩
        · rw [if_neg ht, m_isGrower, hm0, h, bnd_s, tl_s, bX12_law_16, if_pos rfl]
          exact ⟨eER, _, _, rfl, rfl, scC_0, scM_th τ⟩
      · obtain ⟨v, B, B1, p1, p2, p3⟩ := e_own hY (by decide) (w := k) (by omega) hi 0
        have p2' : den 214 [vR 12 0 0, vI 0, vI (nI i), vI (nI i), vI 0] (plT (th0 τ)) = some (none, wB (plT (th0 τ)) B1) := p2
        rw [h, if_neg i10, p1, bnd_s, tl_s, bX11_law_33]
        have hc : (if nI k = 1 then (some (some (vL v), wB σ B) : RS) else if nI k = 2 then some (some (vL v), wB σ B) else some (some (vL (-9223372036854775808)), σ)) = some (some (vL v), wB σ B) := by
          have : k = 1 ∨ k = 2 := by omega
          rcases this with rfl | rfl
          · exact if_pos rfl
          · rw [if_neg (by decide)]
            exact if_pos rfl
        rw [hc]
        by_cases ht : gA τ 12 0 27 k = 0
        · rw [if_pos ht]
          rcases p3 with ⟨_, hv⟩ | ⟨h1, _⟩
          · rw [hv]
            exact ⟨eER, _, _, rfl, rfl, scC_B B, scM_th τ⟩
          · have h1' : gA τ 12 0 27 k = 1 := h1
            rw [ht] at h1'
            exact absurd h1' (by decide)
        · rw [if_neg ht, m_isGrower, hm0, h, bnd_s, tl_s, bX12_law_16, if_neg i10, if_neg n0, m_plain, bnd_s, tl_n, bX12_law_28, if_neg n0, p2', bnd_s, tl_n]
          exact fin k v B B1 (by omega) ht p3 _ _ _ _
theorem bit_tab : ∀ X, X < 64 → ∀ c, c < 6 → bit (nI X) (nI c) = nI (X / 2 ^ c % 2) := by decide +kernel
theorem bits_0 : ∀ X, X < 64 → ∀ n, n < 7 → X < 2 ^ n → (∀ c, c < n → X / 2 ^ c % 2 = 0) → X = 0 := by decide +kernel
theorem bit_0 (c : Int32) : bit 0 c = 0 := by
  unfold bit
  have : (0 : Int32) >>> (c &&& 31) = 0 := Int32.zero_shiftRight
  rw [this]
  decide
theorem p2_64 {n : Nat} (h : n ≤ 6) : 2 ^ n ≤ 64 := Nat.pow_le_pow_right (by decide) h
theorem keep_loop (hQ : RQ G n r σ τ) (hF : RF τ) : ∀ (m i : Nat), i + m = n → ∀ (x : Int32) (B B' : Nat → Nat → Nat → Nat → Int64) (e : Int32), ∃ (v : Int32) (B2 B2' : Nat → Nat → Nat → Nat → Int64) (e2 : Int32),
    run kX11_keepers 4 [some (vR 11 0 0), some (vI x), some (vI (nI i))] [] (wB σ B) = some (some (vI v), wB σ B2) ∧
    run kX12_keepers 9 [some (vR 12 0 0), some (vI x), some (vI (nI i))] [] (wE τ B' e) = some (some (vI v), wE τ B2' e2)
  | 0, i, hm, x, B, B', e => by
    have hn6 := hQ.1.1.n6
    have hlt : ¬ nI i < nI n := nI_nlt (by omega) (by omega)
    have e1 : gI (wB σ B) 2 (gR (wB σ B) 11 0 2) 0 = nI n := hQ.1.1.cn
    have e2 : gI (wE τ B' e) 12 0 12 = nI n := hQ.1.1.mn
    exact ⟨x, B, B', e, by rw [bX11_keepers_4, e1, if_neg hlt], by rw [bX12_keepers_9, e2, if_neg hlt]⟩
  | m + 1, i, hm, x, B, B', e => by
    have hn6 := hQ.1.1.n6
    have hi : i < n := by omega
    have hlt : nI i < nI n := nI_lt hi (by omega)
    have e1 : gI (wB σ B) 2 (gR (wB σ B) 11 0 2) 0 = nI n := hQ.1.1.cn
    have e2 : gI (wE τ B' e) 12 0 12 = nI n := hQ.1.1.mn
    have a1 := ob (i := i) (N := 12) (by omega) (by decide)
    have c1 : (nI i).toNatClampNeg = i := nI_clamp (by omega)
    have hY := (YQ_real hQ hF).w B B' e
    obtain ⟨z, B2, B2', e3, zc, zz, q1, _⟩ := best_pair' hY (by decide) hi trivial
    obtain ⟨g, B3, B3', e4, gc, q3, q4⟩ := gives_pair hY (by decide) hi 0
    obtain ⟨g', B5, B5', e5, _, q5, q6⟩ := gives_pair (hY.w B2 B' e) (by decide) hi 0
    have s1 := sEff_RF (τ := wE τ B' e) hF (b := 0) (j := i)
    rw [Nat.mul_zero, Nat.zero_add] at s1
    rw [s1] at zz
    obtain ⟨sx, X, hX, _, eX⟩ := hQ.2.1.1.2.2.1 i (by omega)
    have sx' : gA σ 5 0 4 i = gA (wE τ B' e) 12 0 46 i := by
      have : gA σ 5 0 4 i = gA τ 12 0 46 (6 * 0 + i) := sx
      rw [Nat.mul_zero, Nat.zero_add] at this
      exact this
    rw [← sx', eX] at zz
    have hX64 : X < 64 := Nat.lt_of_lt_of_le hX (p2_64 hn6)
    have key : z = -2 ↔ nI X = 0 := by
      constructor
      · intro h
        have hb := zz.mp h
        have : X = 0 := bits_0 X hX64 n (by omega) hX (fun c hc => by
          have := hb c hc
          rw [bit_tab X hX64 c (by omega)] at this
          exact (nI_eq (a := X / 2 ^ c % 2) (b := 0) (by omega) (by decide)).mp this)
        rw [this]; rfl
      · intro h
        exact zz.mpr (fun c hc => by rw [h]; exact bit_0 _)
    rw [bX11_keepers_4, e1, if_pos hlt, q1, bnd_s, tl_s, bX11_keepers_14, bX12_keepers_9, e2, if_pos hlt]
    simp only [c1, a1, ↓reduceIte, ← sx', eX]
    by_cases h0 : nI X = 0
    · rw [key.mpr h0, if_pos (by decide), if_pos h0, nI_S]
      exact keep_loop hQ hF m (i + 1) (by omega) _ _ _ _
    · have hz : ¬ z < 0 := by
        rcases zc with h | ⟨k, hk, rfl⟩
        · exact absurd (key.mp h) h0
        · exact nI_pos (by omega)
      have w1 : wB (wB (wB σ B) B2) B5 = wB σ B5 := rfl
      have q6' : den 220 [vR 12 0 0, vI 0, vI (nI i), vI 0] (wE τ B' e) = some (some (vI g'), wE τ B5' e5) := by
        have := q6
        rw [wE_2, wE_2] at this
        exact this
      rw [if_neg hz, if_neg h0, q5, q6', bnd_s, bnd_s, tl_s, bX11_keepers_20, bX12_keepers_24, nI_S]
      by_cases hg : g' = 0
      · rw [if_pos hg, if_pos hg]
        exact keep_loop hQ hF m (i + 1) (by omega) _ _ _ _
      · rw [if_neg hg, if_neg hg]
        exact keep_loop hQ hF m (i + 1) (by omega) _ _ _ _
theorem q_keepers (hQ : RQ G n r σ τ) : ans σ τ (den 137 [vR 11 0 0] σ) (den 258 [vR 12 0 0] τ) := by
  have hs := scM_t (scM_th τ) (scM_plT _)
  have hQ1 := RQ_sc hQ scC_0 hs
  obtain ⟨v, B, B', e, q1, q2⟩ := keep_loop hQ1 (RF_plT _) n 0 (by omega) 0 σ.2.2.2.2 (plT (th0 τ)).2.2.2.2 (gI (plT (th0 τ)) 12 0 43)
  rw [nI_0] at q1 q2
  rw [← wE_0] at q2
  rw [dX11_keepers, bX11_keepers_0, dX12_keepers, bX12_keepers_0, m_plain, bnd_s, tl_n, bX12_keepers_5]
  exact ⟨v, _, _, q1, q2, scC_B B, scM_t hs (scM_E B' e)⟩
end REAL
