/-! reach, visit -/
def rdI (S : Nat → Nat) : Nat → Nat → Nat → Nat
  | 0, _, X => X
  | m + 1, i, X => if X / 2 ^ i % 2 = 0 then rdI S m (i + 1) X else rdI S m (i + 1) (X ||| S i)
theorem or_t1 : ∀ X, X < 64 → ∀ Y, Y < 64 → nI X ||| nI Y = nI (X ||| Y) ∧ (X ||| Y = X ∨ pop6 X < pop6 (X ||| Y)) := by decide +kernel
theorem or_0 (x : Int32) : x ||| (0 : Int32) = x := Int32.or_zero
theorem rdI_lt {S : Nat → Nat} {n : Nat} (hS : ∀ i, i < n → S i < 2 ^ n) : ∀ (m i X : Nat), i + m = n → X < 2 ^ n → rdI S m i X < 2 ^ n
  | 0, _, _, _, h => h
  | m + 1, i, X, hm, h => by
    simp only [rdI]
    by_cases h1 : X / 2 ^ i % 2 = 0
    · rw [if_pos h1]; exact rdI_lt hS m (i + 1) X (by omega) h
    · rw [if_neg h1]; exact rdI_lt hS m (i + 1) _ (by omega) (Nat.or_lt_two_pow h (hS i (by omega)))
theorem rdI_pop {S : Nat → Nat} {n : Nat} (hn : n ≤ 6) (hS : ∀ i, i < n → S i < 2 ^ n) : ∀ (m i X : Nat), i + m = n → X < 2 ^ n → rdI S m i X = X ∨ pop6 X < pop6 (rdI S m i X)
  | 0, _, _, _, _ => Or.inl rfl
  | m + 1, i, X, hm, h => by
    simp only [rdI]
    by_cases h1 : X / 2 ^ i % 2 = 0
    · rw [if_pos h1]; exact rdI_pop hn hS m (i + 1) X (by omega) h
    · rw [if_neg h1]
      have h64 : X < 64 := Nat.lt_of_lt_of_le h (p2_64 hn)
      have s64 : S i < 64 := Nat.lt_of_lt_of_le (hS i (by omega)) (p2_64 hn)
      rcases (or_t1 X h64 (S i) s64).2 with h2 | h2
      · rw [h2]; exact rdI_pop hn hS m (i + 1) X (by omega) h
      · rcases rdI_pop hn hS m (i + 1) (X ||| S i) (by omega) (Nat.or_lt_two_pow h (hS i (by omega))) with h3 | h3
        · rw [h3]; exact Or.inr h2
        · exact Or.inr (Nat.lt_trans h2 h3)
def itR (S : Nat → Nat) (n : Nat) : Nat → Nat → Nat
  | 0, X => X
  | k + 1, X => itR S n k (rdI S n 0 X)
theorem itR_fix {S : Nat → Nat} {n X : Nat} (h : rdI S n 0 X = X) : ∀ k, itR S n k X = X
  | 0 => rfl
  | k + 1 => by
    simp only [itR]
    rw [h]
    exact itR_fix h k
theorem itR_end {S : Nat → Nat} {n : Nat} (hn : n ≤ 6) (hS : ∀ i, i < n → S i < 2 ^ n) : ∀ (k X : Nat), X < 2 ^ n → n ≤ pop6 X + k → ∀ j, itR S n (k + j) X = itR S n k X
  | 0, X, hX, hp, j => by
    have hf : rdI S n 0 X = X := by
      rcases rdI_pop hn hS n 0 X (by omega) hX with h | h
      · exact h
      · have hl := rdI_lt hS n 0 X (by omega) hX
        have := (pt2 n (by omega) _ (Nat.lt_of_lt_of_le hl (p2_64 hn)) hl).1
        omega
    rw [Nat.zero_add, itR_fix hf j]
    rfl
  | k + 1, X, hX, hp, j => by
    have e : k + 1 + j = (k + j) + 1 := by omega
    rw [e]
    simp only [itR]
    rcases rdI_pop hn hS n 0 X (by omega) hX with h | h
    · rw [h, itR_fix h, itR_fix h]
    · exact itR_end hn hS k _ (rdI_lt hS n 0 X (by omega) hX) (by omega) j
section REA
variable {G n r : Nat} {σ τ : ST} {S : Nat → Nat}
theorem rc_in (hn6 : n ≤ 6) (hn : gI σ 2 (gR σ 11 0 2) 0 = nI n) (hS : ∀ i, i < n → S i < 2 ^ n ∧ gA σ 5 0 4 i = nI (S i)) (x3 : Int32) : ∀ (m i X : Nat), i + m = n → X < 2 ^ n → ∀ y1 : Option AV, ∃ y1' y4',
    run kX11_reach 19 [some (vR 11 0 0), y1, some (vI (nI X)), some (vI x3), some (vI (nI i))] [] σ = run kX11_reach 12 [some (vR 11 0 0), y1', some (vI (nI (rdI S m i X))), some (vI (x3 + 1)), y4'] [] σ
  | 0, i, X, hm, hX, y1 => by
    have hlt : ¬ nI i < nI n := nI_nlt (by omega) (by omega)
    exact ⟨y1, some (vI (nI i)), by rw [bX11_reach_19, hn, if_neg hlt]; rfl⟩
  | m + 1, i, X, hm, hX, y1 => by
    have hlt : nI i < nI n := nI_lt (by omega) (by omega)
    have h64 : X < 64 := Nat.lt_of_lt_of_le hX (p2_64 hn6)
    have a1 := ob (i := i) (N := 6) (by omega) (by decide)
    have c1 : (nI i).toNatClampNeg = i := nI_clamp (by omega)
    obtain ⟨s1, s2⟩ := hS i (by omega)
    rw [bX11_reach_19, hn, if_pos hlt, e_has, bnd_s, tl_s, bX11_reach_28, nI_S]
    simp only [c1, a1, ↓reduceIte, rdI, s2]
    by_cases h1 : bit (nI X) (nI i) = 0
    · rw [if_pos h1, if_pos ((bit_iff h64 (by omega)).mp h1), or_0]
      exact rc_in hn6 hn hS x3 m (i + 1) X (by omega) hX _
    · rw [if_neg h1, if_neg (fun z => h1 ((bit_iff h64 (by omega)).mpr z)), (or_t1 X h64 (S i) (Nat.lt_of_lt_of_le s1 (p2_64 hn6))).1]
      exact rc_in hn6 hn hS x3 m (i + 1) _ (by omega) (Nat.or_lt_two_pow hX s1) _
theorem rc_out (hn6 : n ≤ 6) (hn : gI σ 2 (gR σ 11 0 2) 0 = nI n) (hS : ∀ i, i < n → S i < 2 ^ n ∧ gA σ 5 0 4 i = nI (S i)) : ∀ (k t X : Nat), t + k = n → X < 2 ^ n → ∀ y1 y4 : Option AV,
    run kX11_reach 12 [some (vR 11 0 0), y1, some (vI (nI X)), some (vI (nI t)), y4] [] σ = some (some (vI (nI (itR S n k X))), σ)
  | 0, t, X, hm, hX, y1, y4 => by
    have hlt : ¬ nI t < nI n := nI_nlt (by omega) (by omega)
    rw [bX11_reach_12, hn, if_neg hlt]
    rfl
  | k + 1, t, X, hm, hX, y1, y4 => by
    have hlt : nI t < nI n := nI_lt (by omega) (by omega)
    obtain ⟨y1', y4', h⟩ := rc_in hn6 hn hS (nI t) n 0 X (by omega) hX y1
    rw [nI_0] at h
    rw [bX11_reach_12, hn, if_pos hlt, h, nI_S]
    exact rc_out hn6 hn hS k (t + 1) _ (by omega) (rdI_lt (fun i hi => (hS i hi).1) n 0 X (by omega) hX) _ _
theorem rm_in (hn6 : n ≤ 6) (hn : gI τ 12 0 12 = nI n) (hS : ∀ i, i < n → S i < 2 ^ n ∧ gA τ 12 0 46 i = nI (S i)) (x3 : Int32) : ∀ (m i X : Nat), i + m = n → X < 2 ^ n → ∀ y1 : Option AV, ∃ y1' y4',
    run kX12_reach 20 [some (vR 12 0 0), y1, some (vI (nI X)), some (vI x3), some (vI (nI i))] [] τ = run kX12_reach 15 [some (vR 12 0 0), y1', some (vI (nI (rdI S m i X))), some (vI (x3 + 1)), y4'] [] τ
  | 0, i, X, hm, hX, y1 => by
    have hlt : ¬ nI i < nI n := nI_nlt (by omega) (by omega)
    exact ⟨y1, some (vI (nI i)), by rw [bX12_reach_20, hn, if_neg hlt]; rfl⟩
  | m + 1, i, X, hm, hX, y1 => by
    have hlt : nI i < nI n := nI_lt (by omega) (by omega)
    have h64 : X < 64 := Nat.lt_of_lt_of_le hX (p2_64 hn6)
    have a1 := ob (i := i) (N := 12) (by omega) (by decide)
    have c1 : (nI i).toNatClampNeg = i := nI_clamp (by omega)
    obtain ⟨s1, s2⟩ := hS i (by omega)
    rw [bX12_reach_20, hn, if_pos hlt, m_isOf, bnd_s, tl_s, bX12_reach_28, nI_S]
    simp only [c1, a1, ↓reduceIte, rdI, s2]
    by_cases h1 : bit (nI X) (nI i) = 0
    · rw [if_pos h1, if_pos ((bit_iff h64 (by omega)).mp h1), or_0]
      exact rm_in hn6 hn hS x3 m (i + 1) X (by omega) hX _
    · rw [if_neg h1, if_neg (fun z => h1 ((bit_iff h64 (by omega)).mpr z)), (or_t1 X h64 (S i) (Nat.lt_of_lt_of_le s1 (p2_64 hn6))).1]
      exact rm_in hn6 hn hS x3 m (i + 1) _ (by omega) (Nat.or_lt_two_pow hX s1) _
theorem rm_out (hn6 : n ≤ 6) (hn : gI τ 12 0 12 = nI n) (hS : ∀ i, i < n → S i < 2 ^ n ∧ gA τ 12 0 46 i = nI (S i)) : ∀ (k t X : Nat), t + k = 6 → X < 2 ^ n → ∀ y1 y4 : Option AV,
    run kX12_reach 15 [some (vR 12 0 0), y1, some (vI (nI X)), some (vI (nI t)), y4] [] τ = some (some (vI (nI (itR S n k X))), τ)
  | 0, t, X, hm, hX, y1, y4 => by
    have ht : t = 6 := by omega
    subst ht
    rw [bX12_reach_15, if_neg (show ¬ nI 6 < 6 by decide)]
    rfl
  | k + 1, t, X, hm, hX, y1, y4 => by
    have hlt : nI t < 6 := nI_lt (b := 6) (by omega) (by decide)
    obtain ⟨y1', y4', h⟩ := rm_in hn6 hn hS (nI t) n 0 X (by omega) hX y1
    rw [nI_0] at h
    rw [bX12_reach_15, if_pos hlt, h, nI_S]
    exact rm_out hn6 hn hS k (t + 1) _ (by omega) (rdI_lt (fun i hi => (hS i hi).1) n 0 X (by omega) hX) _ _
theorem sh1 : ∀ j, j < 6 → (1 : Int32) <<< (nI j &&& 31) = nI (2 ^ j) ∧ 0 < pop6 (2 ^ j) := by decide +kernel
/-- sights as numbers -/
theorem seenN (hQ : RQ G n r σ τ) : ∃ S : Nat → Nat, ∀ i, i < 6 → S i < 2 ^ n ∧ gA σ 5 0 4 i = nI (S i) ∧ gA τ 12 0 46 i = nI (S i) ∧ (n ≤ i → S i = 0) := by
  have : ∀ i : Nat, ∃ x : Nat, i < 6 → x < 2 ^ n ∧ gA σ 5 0 4 i = nI x ∧ gA τ 12 0 46 i = nI x ∧ (n ≤ i → x = 0) := by
    intro i
    by_cases hi : i < 6
    · obtain ⟨h1, x, h2, h3, h4⟩ := hQ.2.1.1.2.2.1 i hi
      simp only [Nat.mul_zero, Nat.zero_add] at h1
      exact ⟨x, fun _ => ⟨h2, h4, h1.symm.trans h4, h3⟩⟩
    · exact ⟨0, fun h => absurd h hi⟩
  exact ⟨fun i => Classical.choose (this i), fun i => Classical.choose_spec (this i)⟩
theorem q_reach (hQ : RQ G n r σ τ) (x : Int32) : ans σ τ (den 129 [vR 11 0 0, vI x] σ) (den 252 [vR 12 0 0, vI x] τ) := by
  have hn6 := hQ.1.1.n6
  have hm : gI (th0 τ) 12 0 12 = nI n := hQ.1.1.mn
  rw [dX11_reach, bX11_reach_0, e_isGrower, hQ.1.1.cn, bnd_s, tl_s, bX11_reach_3, dX12_reach, bX12_reach_0, m_isGrower, hm, bnd_s, tl_s, bX12_reach_6]
  rcases isb_nI (g := x) (n := n) (by omega) with h | ⟨j, hj, rfl, h⟩
  · rw [h, if_pos rfl, if_pos rfl]
    exact ⟨-1, _, _, rfl, rfl, scC_0, scM_th τ⟩
  obtain ⟨S, hS⟩ := seenN hQ
  obtain ⟨s1, s2⟩ := sh1 j (by omega)
  have hX : 2 ^ j < 2 ^ n := Nat.pow_lt_pow_right (by decide) hj
  have e1 := rc_out (S := S) hn6 hQ.1.1.cn (fun i hi => ⟨(hS i (by omega)).1, (hS i (by omega)).2.1⟩) n 0 (2 ^ j) (by omega) hX (some (vI (nI j))) none
  have e2 := rm_out (τ := th0 τ) (S := S) hn6 hm (fun i hi => ⟨(hS i (by omega)).1, (hS i (by omega)).2.2.1⟩) 6 0 (2 ^ j) (by omega) hX (some (vI (nI j))) none
  have e3 : itR S n 6 (2 ^ j) = itR S n n (2 ^ j) := by
    have := itR_end hn6 (fun i hi => (hS i (by omega)).1) n (2 ^ j) hX (by omega) (6 - n)
    rw [show n + (6 - n) = 6 by omega] at this
    exact this
  rw [nI_0] at e1 e2
  rw [h, if_neg i10, if_neg i10, s1, e1, e2, e3]
  exact ⟨_, _, _, rfl, rfl, scC_0, scM_th τ⟩
end REA
