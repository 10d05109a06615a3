/-! count -/
section CNT
variable {G n r : Nat} {σ τ : ST}
theorem ct_c {S : Nat → Nat} (hS : ∀ i, i < 6 → S i < 64 ∧ gA σ 5 0 4 i = nI (S i)) : ∀ (m i : Nat), i + m = 6 → run kX5_countSeen 4 [some (vR 5 0 0), some (vI (nI (smN (fun i => pop6 (S i)) i))), some (vI (nI i))] [] σ = some (some (vI (nI (smN (fun i => pop6 (S i)) 6))), σ)
  | 0, i, hm => by
    have hi : i = 6 := by omega
    subst hi
    rw [bX5_countSeen_4, if_neg (show ¬ nI 6 < 6 by decide)]
  | m + 1, i, hm => by
    have hlt : nI i < 6 := nI_lt (b := 6) (by omega) (by decide)
    have a1 := ob (i := i) (N := 6) (by omega) (by decide)
    have c1 : (nI i).toNatClampNeg = i := nI_clamp (by omega)
    obtain ⟨s1, s2⟩ := hS i (by omega)
    rw [bX5_countSeen_4, if_pos hlt]
    simp only [c1, a1, ↓reduceIte, s2]
    rw [e_bitc σ s1, bnd_s, tl_s, bX5_countSeen_13, nI_add, nI_S]
    exact ct_c hS m (i + 1) (by omega)
theorem ct_m {S : Nat → Nat} (hS : ∀ i, i < 6 → S i < 64 ∧ gA τ 12 0 46 i = nI (S i)) : ∀ (m c : Nat), c + m = 36 → ∀ y1 : Option AV, run kX12_count 12 [some (vR 12 0 0), y1, some (vI (nI (smN (fun c => S (c / 6) / 2 ^ (c % 6) % 2) c))), some (vI (nI c))] [] τ = some (some (vI (nI (smN (fun c => S (c / 6) / 2 ^ (c % 6) % 2) 36))), τ)
  | 0, c, hm, y1 => by
    have hc : c = 36 := by omega
    subst hc
    rw [bX12_count_12, if_neg (show ¬ nI 36 < 36 by decide)]
  | m + 1, c, hm, y1 => by
    have hlt : nI c < 36 := nI_lt (b := 36) (by omega) (by decide)
    obtain ⟨d1, d2⟩ := cd6 (c := c) (by omega)
    have a1 := ob (i := c / 6) (N := 12) (by omega) (by decide)
    have c1 : (nI (c / 6)).toNatClampNeg = c / 6 := nI_clamp (by omega)
    obtain ⟨s1, s2⟩ := hS (c / 6) (by omega)
    have hb : (nI (S (c / 6)) >>> (nI (c % 6) &&& 31)) &&& 1 = nI (S (c / 6) / 2 ^ (c % 6) % 2) := bit_tab (S (c / 6)) s1 (c % 6) (by omega)
    rw [bX12_count_12, if_pos hlt, d2, d1]
    simp only [c1, a1, ↓reduceIte, s2]
    rw [hb, nI_add, nI_S]
    exact ct_m hS m (c + 1) (by omega) _
theorem pop_sum (S : Nat → Nat) : smN (fun i => pop6 (S i)) 6 = smN (fun c => S (c / 6) / 2 ^ (c % 6) % 2) 36 := by
  simp only [smN, pop6, Nat.reduceDiv, Nat.reduceMod, Nat.reducePow, Nat.div_one]
  omega
theorem ct_6 (hn6 : n ≤ 6) (hn : gI τ 12 0 12 = nI n) : ∀ (m i : Nat), i + m = n → ∀ (a : Int32) (y1 : Option AV), ∃ v : Int32, run kX12_count 51 [some (vR 12 0 0), y1, some (vI a), some (vI (nI i))] [] τ = some (some (vI v), τ) ∧ v = wsP (gA τ 12 0 44) (nI (2 ^ n - 1)) m i a
  | 0, i, hm, a, y1 => by
    have hi : i = n := by omega
    subst hi
    have hlt : ¬ nI i < nI i := nI_nlt (by omega) (by omega)
    exact ⟨a, by rw [bX12_count_51, hn, if_neg hlt], rfl⟩
  | m + 1, i, hm, a, y1 => by
    have hlt : nI i < nI n := nI_lt (by omega) (by omega)
    have a1 := ob (i := i) (N := 12) (by omega) (by decide)
    have c1 : (nI i).toNatClampNeg = i := nI_clamp (by omega)
    have all : ∀ n, n < 7 → ∀ i, i < n → ¬ bit (nI (2 ^ n - 1)) (nI i) = 0 := by decide +kernel
    rw [bX12_count_51, hn, if_pos hlt]
    simp only [c1, a1, ↓reduceIte, nI_S]
    rw [wsP_s1 (all n (by omega) i (by omega))]
    exact ct_6 hn6 hn m (i + 1) (by omega) _ _
theorem q_count (hQ : RQ G n r σ τ) (hT : TD n r σ τ) (hU : UD n r σ τ) (x : Int32) : ans σ τ (den 152 [vR 11 0 0, vI x] σ) (den 287 [vR 12 0 0, vI x] τ) := by
  have hn6 := hQ.1.1.n6
  have hr2 := hQ.1.1.r2
  have hQ1 := RQ_sc hQ scC_0 (scM_th τ)
  obtain ⟨S, hS⟩ := seenN hQ
  obtain ⟨⟨pw, ph, ps, po, pi, phd, p0⟩, py⟩ := hQ.2.1
  simp only [Nat.mul_zero, Nat.zero_add] at pw ph ps po pi phd py
  have gG := hQ.1.1.g
  have K : ∀ v : Int32, ans σ τ (some (some (vI v), σ)) (some (some (vI v), th0 τ)) := fun v => ⟨v, σ, th0 τ, rfl, rfl, scC_0, scM_th τ⟩
  rw [dX11_count, bX11_count_0, dX12_count, bX12_count_0, gG]
  by_cases x0 : x = 0
  · rw [if_pos x0, if_pos x0, hQ.1.1.2.2.1.1, hQ.1.1.mn]
    exact K _
  rw [if_neg x0, if_neg x0]
  by_cases x1 : x = 1
  · have e1 := ct_c (S := S) (fun i hi => ⟨Nat.lt_of_lt_of_le (hS i hi).1 (p2_64 hn6), (hS i hi).2.1⟩) 6 0 (by decide)
    have e2 := ct_m (τ := th0 τ) (S := S) (fun i hi => ⟨Nat.lt_of_lt_of_le (hS i hi).1 (p2_64 hn6), (hS i hi).2.2.1⟩) 36 0 (by decide) (some (vI x))
    have e1' : run kX5_countSeen 4 [some (vR 5 0 0), some (vI 0), some (vI 0)] [] σ = _ := e1
    have e2' : run kX12_count 12 [some (vR 12 0 0), some (vI x), some (vI 0), some (vI 0)] [] (th0 τ) = _ := e2
    rw [if_pos x1, if_pos x1, dX5_countSeen, bX5_countSeen_0, e1', bnd_s, tl_s, bX11_count_10, e2', ← pop_sum]
    exact K _
  rw [if_neg x1, if_neg x1]
  by_cases x2 : x = 2
  · rw [if_pos x2, if_pos x2, hQ.1.1.2.2.1.2.2.1, hQ.1.1.mr]
    exact K _
  rw [if_neg x2, if_neg x2]
  by_cases x3 : x = 3
  · rw [if_pos x3, if_pos x3, hQ.1.1.2.2.2.1]
    exact K _
  rw [if_neg x3, if_neg x3]
  by_cases x4 : x = 4
  · rw [if_pos x4, if_pos x4, cl0, py]
    exact K _
  rw [if_neg x4, if_neg x4]
  by_cases x5 : x = 5
  · rw [if_pos x5, if_pos x5, cl0, cl1]
    have hmr : gI (th0 τ) 12 0 13 = nI r := hQ.1.1.mr
    have h0 : ∀ p, r ≤ p → p < 2 → gA σ 5 0 7 p = 0 := p0
    have hp : ∀ p, p < r → gA (th0 τ) 12 0 49 p = gA σ 5 0 7 p := fun p hp => (phd p hp).symm
    have z2 : ∀ k : Nat, (2 : Int32) * 0 + nI k = nI k := fun k => by
      have : (2 : Int32) * 0 = 0 := by decide
      rw [this]
      have := nI_add 0 k
      rw [nI_0, Nat.zero_add] at this
      exact this
    have step : ∀ (k : Nat) (a : Int32), k < r → run kX12_handedAll 4 [some (vR 12 0 0), some (vI 0), some (vI a), some (vI (nI k))] [] (th0 τ) = run kX12_handedAll 4 [some (vR 12 0 0), some (vI 0), some (vI (a + gA σ 5 0 7 k)), some (vI (nI (k + 1)))] [] (th0 τ) := by
      intro k a hk
      have a1 := ob (i := k) (N := 4) (by omega) (by decide)
      have c1 : (nI k).toNatClampNeg = k := nI_clamp (by omega)
      rw [bX12_handedAll_4, hmr, if_pos (nI_lt hk (by omega)), z2]
      simp only [c1, a1, ↓reduceIte, nI_S]
      rw [hp k hk]
    have stop : ∀ (a : Int32), run kX12_handedAll 4 [some (vR 12 0 0), some (vI 0), some (vI a), some (vI (nI r))] [] (th0 τ) = some (some (vI a), th0 τ) := by
      intro a
      rw [bX12_handedAll_4, hmr, if_neg (nI_nlt (Nat.le_refl _) (by omega))]
    have hall : den 237 [vR 12 0 0, vI 0] (th0 τ) = some (some (vI (gA σ 5 0 7 0 + gA σ 5 0 7 1)), th0 τ) := by
      rw [dX12_handedAll, bX12_handedAll_0]
      have : r = 0 ∨ r = 1 ∨ r = 2 := by omega
      rcases this with rfl | rfl | rfl
      · have := stop 0
        rw [nI_0] at this
        rw [this, h0 0 (by decide) (by decide), h0 1 (by decide) (by decide)]
        rfl
      · have s1 := step 0 0 (by decide)
        rw [nI_0] at s1
        rw [s1, stop, h0 1 (by decide) (by decide), Int32.zero_add, i_a0]
      · have s1 := step 0 0 (by decide)
        have s2 := step 1 (0 + gA σ 5 0 7 0) (by decide)
        rw [nI_0] at s1
        rw [s1, s2, stop, Int32.zero_add]
    rw [hall, bnd_s, tl_s, bX12_count_48]
    exact K _
  rw [if_neg x5, if_neg x5]
  by_cases x6 : x = 6
  · have hall : ((1 : Int32) <<< (nI n &&& 31)) - 1 = nI (2 ^ n - 1) := by
      rw [sh2 n (by omega)]
      exact pk_sub (a := 2 ^ n) (b := 1) (Nat.two_pow_pos n)
    have hlt : 2 ^ n - 1 < 2 ^ n := by have := Nat.two_pow_pos n; omega
    obtain ⟨v, v1, v2⟩ := ct_6 (τ := th0 τ) hn6 hQ.1.1.mn n 0 (by omega) 0 (some (vI x))
    rw [nI_0] at v1
    have ew : wsP (gA σ 5 0 2) (nI (2 ^ n - 1)) 6 0 0 = v := by
      have h1 := wsP_n (w := gA σ 5 0 2) hn6 (hi_bit hn6 hlt) n 0 0 (by omega)
      rw [show n + (6 - n) = 6 by omega] at h1
      rw [h1, v2]
      exact wsP_c (fun i hi => (pw i hi).1) n 0 0 (by omega)
    rw [if_pos x6, if_pos x6, hQ.1.1.2.2.1.1, hall, e_worthOf, bnd_s, tl_s, bX11_count_49, v1, ew]
    exact K _
  rw [if_neg x6, if_neg x6]
  obtain ⟨k, hk, t1, t2, _⟩ := id hT
  by_cases x7 : x = 7
  · rw [if_pos x7, if_pos x7, t1, t2]
    exact K _
  rw [if_neg x7, if_neg x7]
  by_cases x8 : x = 8
  · obtain ⟨k', e, _, _, _, e1, e2, _⟩ := end_pair hT
    rw [if_pos x8, if_pos x8, e1, bnd_s, tl_s, bX11_count_57, e2 (th0 τ) rfl rfl, bnd_s, tl_s, bX12_count_71]
    exact K _
  rw [if_neg x8, if_neg x8]
  by_cases x9 : x = 9
  · obtain ⟨u, _, u1, u2, _⟩ := hU
    rw [if_pos x9, if_pos x9, dX1_many, bX1_many_0, bnd_s, tl_s, bX11_count_61, u1, u2]
    exact K _
  rw [if_neg x9, if_neg x9]
  exact K _
end CNT
