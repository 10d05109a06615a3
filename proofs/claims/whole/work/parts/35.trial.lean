/-! TRIALS: the trial course begins as the real one stands -/
theorem i2a (j : Nat) : (2 : Int32) + nI j = nI (2 + j) := nI_add 2 j
theorem i6a (j : Nat) : (6 : Int32) + nI j = nI (6 + j) := nI_add 6 j
section LAY
theorem lay_6 : ∀ (m i : Nat), i + m = 6 → ∀ (τ : ST), ∃ τ', run kX12_layTried 2 [some (vR 12 0 0), some (vI (nI i))] [] τ = run kX12_layTried 39 [some (vR 12 0 0), some (vI 0)] [] τ' ∧ scM τ τ' ∧
    (∀ k, k ≠ 44 → k ≠ 45 → k ≠ 46 → gA τ' 12 0 k = gA τ 12 0 k) ∧ (∀ k, gI τ' 12 0 k = gI τ 12 0 k) ∧
    (∀ j, j < 6 → (i ≤ j → gA τ' 12 0 44 (6 + j) = gA τ 12 0 44 j ∧ gA τ' 12 0 45 (6 + j) = gA τ 12 0 45 j ∧ gA τ' 12 0 46 (6 + j) = gA τ 12 0 46 j) ∧
      (j < i → gA τ' 12 0 44 (6 + j) = gA τ 12 0 44 (6 + j) ∧ gA τ' 12 0 45 (6 + j) = gA τ 12 0 45 (6 + j) ∧ gA τ' 12 0 46 (6 + j) = gA τ 12 0 46 (6 + j)))
  | 0, i, hm, τ => by
    have hi : i = 6 := by omega
    subst hi
    refine ⟨τ, ?_, scM_0, fun _ _ _ _ => rfl, fun _ => rfl, fun j hj => ⟨fun h => by omega, fun _ => ⟨rfl, rfl, rfl⟩⟩⟩
    rw [bX12_layTried_2, if_neg (show ¬ nI 6 < 6 by decide)]
  | m + 1, i, hm, τ => by
    have hi : i < 6 := by omega
    have a1 := ob (i := i) (N := 12) (by omega) (by decide)
    have a2 := ob (i := 6 + i) (N := 12) (by omega) (by decide)
    have c1 : (nI i).toNatClampNeg = i := nI_clamp (by omega)
    have c2 : (nI (6 + i)).toNatClampNeg = 6 + i := nI_clamp (by omega)
    have hlt : nI i < 6 := nI_lt (b := 6) hi (by decide)
    obtain ⟨τ', f1, f2, f3, f4, f5⟩ := lay_6 m (i + 1) (by omega) (sA (sA (sA τ 12 0 44 (upd (gA τ 12 0 44) (6 + i) (gA τ 12 0 44 i))) 12 0 45 (upd (gA τ 12 0 45) (6 + i) (gA τ 12 0 45 i))) 12 0 46 (upd (gA τ 12 0 46) (6 + i) (gA τ 12 0 46 i)))
    have s1 : scM τ (sA (sA (sA τ 12 0 44 (upd (gA τ 12 0 44) (6 + i) (gA τ 12 0 44 i))) 12 0 45 (upd (gA τ 12 0 45) (6 + i) (gA τ 12 0 45 i))) 12 0 46 (upd (gA τ 12 0 46) (6 + i) (gA τ 12 0 46 i))) :=
      scM_t (scM_6 (Or.inl rfl) (by omega) _) (scM_t (scM_6 (τ := sA τ 12 0 44 _) (k := 45) (Or.inr (Or.inl rfl)) (by omega) _) (scM_6 (τ := sA (sA τ 12 0 44 _) 12 0 45 _) (k := 46) (Or.inr (Or.inr rfl)) (by omega) _))
    have g4 : gA (sA (sA (sA τ 12 0 44 (upd (gA τ 12 0 44) (6 + i) (gA τ 12 0 44 i))) 12 0 45 (upd (gA τ 12 0 45) (6 + i) (gA τ 12 0 45 i))) 12 0 46 (upd (gA τ 12 0 46) (6 + i) (gA τ 12 0 46 i))) 12 0 44 = upd (gA τ 12 0 44) (6 + i) (gA τ 12 0 44 i) := by
      rw [gA_n (by decide), gA_n (by decide), gA_s]
    have g5 : gA (sA (sA (sA τ 12 0 44 (upd (gA τ 12 0 44) (6 + i) (gA τ 12 0 44 i))) 12 0 45 (upd (gA τ 12 0 45) (6 + i) (gA τ 12 0 45 i))) 12 0 46 (upd (gA τ 12 0 46) (6 + i) (gA τ 12 0 46 i))) 12 0 45 = upd (gA τ 12 0 45) (6 + i) (gA τ 12 0 45 i) := by
      rw [gA_n (by decide), gA_s]
    have g6 : gA (sA (sA (sA τ 12 0 44 (upd (gA τ 12 0 44) (6 + i) (gA τ 12 0 44 i))) 12 0 45 (upd (gA τ 12 0 45) (6 + i) (gA τ 12 0 45 i))) 12 0 46 (upd (gA τ 12 0 46) (6 + i) (gA τ 12 0 46 i))) 12 0 46 = upd (gA τ 12 0 46) (6 + i) (gA τ 12 0 46 i) := gA_s
    rw [g4, g5, g6] at f5
    refine ⟨τ', ?_, scM_t s1 f2, fun k h1 h2 h3 => ?_, fun k => f4 k, fun j hj => ⟨fun h => ?_, fun h => ?_⟩⟩
    · rw [bX12_layTried_2]
      simp only [i6a, c1, c2, a1, a2, hlt, nI_S, ↓reduceIte]
      exact f1
    · rw [f3 k h1 h2 h3, gA_n h3, gA_n h2, gA_n h1]
    · by_cases e : j = i
      · subst e
        obtain ⟨x1, x2, x3⟩ := (f5 j hj).2 (by omega)
        rw [x1, x2, x3, pk_us, pk_us, pk_us]
        exact ⟨rfl, rfl, rfl⟩
      · obtain ⟨x1, x2, x3⟩ := (f5 j hj).1 (by omega)
        rw [x1, x2, x3, upd_o (by omega), upd_o (by omega), upd_o (by omega)]
        exact ⟨rfl, rfl, rfl⟩
    · obtain ⟨x1, x2, x3⟩ := (f5 j hj).2 (by omega)
      rw [x1, x2, x3, upd_o (by omega), upd_o (by omega), upd_o (by omega)]
      exact ⟨rfl, rfl, rfl⟩
theorem lay_2 : ∀ (m i : Nat), i + m = 2 → ∀ (τ : ST), ∃ τ' y, run kX12_layTried 39 [some (vR 12 0 0), some (vI (nI i))] [] τ = (bnd (den 207 [vR 12 0 0] (sA τ' 12 0 50 (upd (gA τ' 12 0 50) 1 (gA τ' 12 0 50 0)))) fun v τ => run kX12_layTried 84 [some (vR 12 0 0), y] (v.toList ++ []) τ) ∧ scM τ τ' ∧
    (∀ k, k ≠ 47 → k ≠ 48 → k ≠ 49 → gA τ' 12 0 k = gA τ 12 0 k) ∧ (∀ k, gI τ' 12 0 k = gI τ 12 0 k) ∧
    (∀ j, j < 2 → (i ≤ j → gA τ' 12 0 47 (2 + j) = gA τ 12 0 47 j ∧ gA τ' 12 0 48 (2 + j) = gA τ 12 0 48 j ∧ gA τ' 12 0 49 (2 + j) = gA τ 12 0 49 j) ∧
      (j < i → gA τ' 12 0 47 (2 + j) = gA τ 12 0 47 (2 + j) ∧ gA τ' 12 0 48 (2 + j) = gA τ 12 0 48 (2 + j) ∧ gA τ' 12 0 49 (2 + j) = gA τ 12 0 49 (2 + j)))
  | 0, i, hm, τ => by
    have hi : i = 2 := by omega
    subst hi
    refine ⟨τ, some (vI (nI 2)), ?_, scM_0, fun _ _ _ _ => rfl, fun _ => rfl, fun j hj => ⟨fun h => by omega, fun _ => ⟨rfl, rfl, rfl⟩⟩⟩
    rw [bX12_layTried_39, if_neg (show ¬ nI 2 < 2 by decide)]
    rfl
  | m + 1, i, hm, τ => by
    have hi : i < 2 := by omega
    have a1 := ob (i := i) (N := 4) (by omega) (by decide)
    have a2 := ob (i := 2 + i) (N := 4) (by omega) (by decide)
    have c1 : (nI i).toNatClampNeg = i := nI_clamp (by omega)
    have c2 : (nI (2 + i)).toNatClampNeg = 2 + i := nI_clamp (by omega)
    have hlt : nI i < 2 := nI_lt (b := 2) hi (by decide)
    obtain ⟨τ', y, f1, f2, f3, f4, f5⟩ := lay_2 m (i + 1) (by omega) (sA (sA (sA τ 12 0 47 (upd (gA τ 12 0 47) (2 + i) (gA τ 12 0 47 i))) 12 0 48 (upd (gA τ 12 0 48) (2 + i) (gA τ 12 0 48 i))) 12 0 49 (upd (gA τ 12 0 49) (2 + i) (gA τ 12 0 49 i)))
    have s1 : scM τ (sA (sA (sA τ 12 0 47 (upd (gA τ 12 0 47) (2 + i) (gA τ 12 0 47 i))) 12 0 48 (upd (gA τ 12 0 48) (2 + i) (gA τ 12 0 48 i))) 12 0 49 (upd (gA τ 12 0 49) (2 + i) (gA τ 12 0 49 i))) :=
      scM_t (scM_2 (Or.inl rfl) (by omega) _) (scM_t (scM_2 (τ := sA τ 12 0 47 _) (k := 48) (Or.inr (Or.inl rfl)) (by omega) _) (scM_2 (τ := sA (sA τ 12 0 47 _) 12 0 48 _) (k := 49) (Or.inr (Or.inr rfl)) (by omega) _))
    have g4 : gA (sA (sA (sA τ 12 0 47 (upd (gA τ 12 0 47) (2 + i) (gA τ 12 0 47 i))) 12 0 48 (upd (gA τ 12 0 48) (2 + i) (gA τ 12 0 48 i))) 12 0 49 (upd (gA τ 12 0 49) (2 + i) (gA τ 12 0 49 i))) 12 0 47 = upd (gA τ 12 0 47) (2 + i) (gA τ 12 0 47 i) := by
      rw [gA_n (by decide), gA_n (by decide), gA_s]
    have g5 : gA (sA (sA (sA τ 12 0 47 (upd (gA τ 12 0 47) (2 + i) (gA τ 12 0 47 i))) 12 0 48 (upd (gA τ 12 0 48) (2 + i) (gA τ 12 0 48 i))) 12 0 49 (upd (gA τ 12 0 49) (2 + i) (gA τ 12 0 49 i))) 12 0 48 = upd (gA τ 12 0 48) (2 + i) (gA τ 12 0 48 i) := by
      rw [gA_n (by decide), gA_s]
    have g6 : gA (sA (sA (sA τ 12 0 47 (upd (gA τ 12 0 47) (2 + i) (gA τ 12 0 47 i))) 12 0 48 (upd (gA τ 12 0 48) (2 + i) (gA τ 12 0 48 i))) 12 0 49 (upd (gA τ 12 0 49) (2 + i) (gA τ 12 0 49 i))) 12 0 49 = upd (gA τ 12 0 49) (2 + i) (gA τ 12 0 49 i) := gA_s
    rw [g4, g5, g6] at f5
    refine ⟨τ', y, ?_, scM_t s1 f2, fun k h1 h2 h3 => ?_, fun k => f4 k, fun j hj => ⟨fun h => ?_, fun h => ?_⟩⟩
    · rw [bX12_layTried_39]
      simp only [i2a, c1, c2, a1, a2, hlt, nI_S, ↓reduceIte]
      exact f1
    · rw [f3 k h1 h2 h3, gA_n h3, gA_n h2, gA_n h1]
    · by_cases e : j = i
      · subst e
        obtain ⟨x1, x2, x3⟩ := (f5 j hj).2 (by omega)
        rw [x1, x2, x3, pk_us, pk_us, pk_us]
        exact ⟨rfl, rfl, rfl⟩
      · obtain ⟨x1, x2, x3⟩ := (f5 j hj).1 (by omega)
        rw [x1, x2, x3, upd_o (by omega), upd_o (by omega), upd_o (by omega)]
        exact ⟨rfl, rfl, rfl⟩
    · obtain ⟨x1, x2, x3⟩ := (f5 j hj).2 (by omega)
      rw [x1, x2, x3, upd_o (by omega), upd_o (by omega), upd_o (by omega)]
      exact ⟨rfl, rfl, rfl⟩
theorem m_lay (τ : ST) : ∃ τ', den 208 [vR 12 0 0] τ = some (none, τ') ∧ scM τ τ' ∧ RF τ' ∧ (∀ j, j < 6 → gA τ' 12 0 44 (6 + j) = gA τ 12 0 44 j ∧ gA τ' 12 0 45 (6 + j) = gA τ 12 0 45 j ∧ gA τ' 12 0 46 (6 + j) = gA τ 12 0 46 j) ∧
    (∀ j, j < 2 → gA τ' 12 0 47 (2 + j) = gA τ 12 0 47 j ∧ gA τ' 12 0 48 (2 + j) = gA τ 12 0 48 j ∧ gA τ' 12 0 49 (2 + j) = gA τ 12 0 49 j) ∧ gA τ' 12 0 50 1 = gA τ 12 0 50 0 := by
  obtain ⟨τ1, f1, f2, f3, f4, f5⟩ := lay_6 6 0 (by decide) τ
  obtain ⟨τ2, y, g1, g2, g3, g4, g5⟩ := lay_2 2 0 (by decide) τ1
  rw [nI_0] at f1 g1
  refine ⟨plT (sA τ2 12 0 50 (upd (gA τ2 12 0 50) 1 (gA τ2 12 0 50 0))), ?_, scM_t f2 (scM_t g2 (scM_t (scM_y _) (scM_plT _))), RF_plT _, fun j hj => ?_, fun j hj => ?_, ?_⟩
  · rw [dX12_layTried, bX12_layTried_0, f1, g1, m_plain, bnd_s, tl_n, bX12_layTried_84]
  · obtain ⟨x1, x2, x3⟩ := (f5 j hj).1 (Nat.zero_le _)
    refine ⟨?_, ?_, ?_⟩
    · show gA τ2 12 0 44 (6 + j) = _
      rw [g3 44 (by decide) (by decide) (by decide), x1]
    · show gA τ2 12 0 45 (6 + j) = _
      rw [g3 45 (by decide) (by decide) (by decide), x2]
    · show gA τ2 12 0 46 (6 + j) = _
      rw [g3 46 (by decide) (by decide) (by decide), x3]
  · obtain ⟨x1, x2, x3⟩ := (g5 j hj).1 (Nat.zero_le _)
    rw [f3 47 (by decide) (by decide) (by decide)] at x1
    rw [f3 48 (by decide) (by decide) (by decide)] at x2
    rw [f3 49 (by decide) (by decide) (by decide)] at x3
    exact ⟨x1, x2, x3⟩
  · show gA (sA τ2 12 0 50 (upd (gA τ2 12 0 50) 1 (gA τ2 12 0 50 0))) 12 0 50 1 = _
    rw [gA_s, pk_us, g3 50 (by decide) (by decide) (by decide), f3 50 (by decide) (by decide) (by decide)]
end LAY
/-- a course stands as a plot stands -/
def bgC (σ σ' : ST) (o G q : Nat) : Prop := gR σ' 0 o 4 = G ∧ (∀ j, j < 6 → gA σ' 5 o 2 j = gA σ 5 q 2 j ∧ gA σ' 5 o 3 j = gA σ 5 q 3 j ∧ gA σ' 5 o 4 j = gA σ 5 q 4 j) ∧ (∀ j, j < 2 → gA σ' 5 o 5 j = gA σ 5 q 5 j ∧ gA σ' 5 o 6 j = gA σ 5 q 6 j ∧ gA σ' 5 o 7 j = gA σ 5 q 7 j) ∧
  gI σ' 5 o 0 = gI σ 5 q 0 ∧ gL σ' 5 o 1 = gL σ 5 q 1 ∧ (∀ j, j < 6 → gA σ' 0 o 1 j = gA σ 2 G 7 j) ∧ gI σ' 0 o 5 = (if gI σ 2 G 2 < 50 then 0 else 1) ∧ gI σ' 0 o 6 = 1
theorem cpy6 {f g : Nat → Int32} {j : Nat} (h : j < 6) : va_cpy f g 0 0 6 j = f j := by
  rw [pk_cpy_in (Nat.zero_le _) (by omega)]
  simp
theorem cpy2 {f g : Nat → Int32} {j : Nat} (h : j < 2) : va_cpy f g 0 0 2 j = f j := by
  rw [pk_cpy_in (Nat.zero_le _) (by omega)]
  simp
/-- the state behind Plot.become -/
def bcS (σ : ST) (o q : Nat) : ST := sA (sA (sA (sA (sA (sA (sL (sI σ 5 o 0 (gI σ 5 q 0)) 5 o 1 (gL σ 5 q 1)) 5 o 2 (va_cpy (gA σ 5 q 2) (gA σ 5 o 2) 0 0 6)) 5 o 3 (va_cpy (gA σ 5 q 3) (gA σ 5 o 3) 0 0 6)) 5 o 4 (va_cpy (gA σ 5 q 4) (gA σ 5 o 4) 0 0 6)) 5 o 5 (va_cpy (gA σ 5 q 5) (gA σ 5 o 5) 0 0 2)) 5 o 6 (va_cpy (gA σ 5 q 6) (gA σ 5 o 6) 0 0 2)) 5 o 7 (va_cpy (gA σ 5 q 7) (gA σ 5 o 7) 0 0 2)
theorem e_become (σ : ST) (o q : Nat) : den 46 [vR 5 o 0, vR 5 q 0] σ = some (none, bcS σ o q) := by
  rw [dX5_become, bX5_become_0]
  rfl
theorem bcS_2 {σ : ST} {o q : Nat} : gA (bcS σ o q) 5 o 2 = va_cpy (gA σ 5 q 2) (gA σ 5 o 2) 0 0 6 := by
  unfold bcS
  rw [gA_n (by decide), gA_n (by decide), gA_n (by decide), gA_n (by decide), gA_n (by decide), gA_s]
theorem bcS_3 {σ : ST} {o q : Nat} : gA (bcS σ o q) 5 o 3 = va_cpy (gA σ 5 q 3) (gA σ 5 o 3) 0 0 6 := by
  unfold bcS
  rw [gA_n (by decide), gA_n (by decide), gA_n (by decide), gA_n (by decide), gA_s]
theorem bcS_4 {σ : ST} {o q : Nat} : gA (bcS σ o q) 5 o 4 = va_cpy (gA σ 5 q 4) (gA σ 5 o 4) 0 0 6 := by
  unfold bcS
  rw [gA_n (by decide), gA_n (by decide), gA_n (by decide), gA_s]
theorem bcS_5 {σ : ST} {o q : Nat} : gA (bcS σ o q) 5 o 5 = va_cpy (gA σ 5 q 5) (gA σ 5 o 5) 0 0 2 := by
  unfold bcS
  rw [gA_n (by decide), gA_n (by decide), gA_s]
theorem bcS_6 {σ : ST} {o q : Nat} : gA (bcS σ o q) 5 o 6 = va_cpy (gA σ 5 q 6) (gA σ 5 o 6) 0 0 2 := by
  unfold bcS
  rw [gA_n (by decide), gA_s]
theorem bcS_7 {σ : ST} {o q : Nat} : gA (bcS σ o q) 5 o 7 = va_cpy (gA σ 5 q 7) (gA σ 5 o 7) 0 0 2 := by
  unfold bcS
  rw [gA_s]
theorem bcS_0 {σ : ST} {o q : Nat} : gI (bcS σ o q) 5 o 0 = gI σ 5 q 0 := by
  show u3 σ.1 5 o 0 (gI σ 5 q 0) 5 o 0 = _
  rw [u3_s]
theorem bcS_1 {σ : ST} {o q : Nat} : gL (bcS σ o q) 5 o 1 = gL σ 5 q 1 := by
  show u3 σ.2.1 5 o 1 (gL σ 5 q 1) 5 o 1 = _
  rw [u3_s]
/-- the state behind Course.begin -/
def bgS (σ : ST) (o G q : Nat) : ST := sI (sI (sA (bcS (sR σ 0 o 4 G) o q) 0 o 1 (va_cpy (gA σ 2 G 7) (gA σ 0 o 1) 0 0 6)) 0 o 5 (if gI σ 2 G 2 < 50 then 0 else 1)) 0 o 6 1
theorem e_begin (σ : ST) (o G q : Nat) : den 0 [vR 0 o 0, vR 2 G 0, vR 5 q 0] σ = some (none, bgS σ o G q) := by
  rw [dX0_begin, bX0_begin_0, e_become, bnd_s, tl_n, bX0_begin_7]
  have e1 : gI (bcS (sR σ 0 o 4 G) o q) 2 G 2 = gI σ 2 G 2 := rfl
  have e2 : gA (bcS (sR σ 0 o 4 G) o q) 2 G 7 = gA σ 2 G 7 := rfl
  have e3 : gA (bcS (sR σ 0 o 4 G) o q) 0 o 1 = gA σ 0 o 1 := rfl
  unfold bgS
  rw [e1, e2, e3]
  by_cases h : gI σ 2 G 2 < 50
  · rw [if_pos h, if_pos h]; rfl
  · rw [if_neg h, if_neg h]; rfl
theorem bgS_C (σ : ST) (o G q : Nat) : bgC σ (bgS σ o G q) o G q := by
  have k2 : gA (bgS σ o G q) 5 o 2 = _ := bcS_2 (σ := sR σ 0 o 4 G) (o := o) (q := q)
  have k3 : gA (bgS σ o G q) 5 o 3 = _ := bcS_3 (σ := sR σ 0 o 4 G) (o := o) (q := q)
  have k4 : gA (bgS σ o G q) 5 o 4 = _ := bcS_4 (σ := sR σ 0 o 4 G) (o := o) (q := q)
  have k5 : gA (bgS σ o G q) 5 o 5 = _ := bcS_5 (σ := sR σ 0 o 4 G) (o := o) (q := q)
  have k6 : gA (bgS σ o G q) 5 o 6 = _ := bcS_6 (σ := sR σ 0 o 4 G) (o := o) (q := q)
  have k7 : gA (bgS σ o G q) 5 o 7 = _ := bcS_7 (σ := sR σ 0 o 4 G) (o := o) (q := q)
  refine ⟨?_, fun j hj => ?_, fun j hj => ?_, ?_, ?_, fun j hj => ?_, ?_, ?_⟩
  · show u3 σ.2.2.1 0 o 4 G 0 o 4 = G
    exact u3_s
  · rw [k2, k3, k4, cpy6 hj, cpy6 hj, cpy6 hj]
    exact ⟨rfl, rfl, rfl⟩
  · rw [k5, k6, k7, cpy2 hj, cpy2 hj, cpy2 hj]
    exact ⟨rfl, rfl, rfl⟩
  · exact bcS_0 (σ := sR σ 0 o 4 G)
  · exact bcS_1 (σ := sR σ 0 o 4 G)
  · show gA (sA (bcS (sR σ 0 o 4 G) o q) 0 o 1 (va_cpy (gA σ 2 G 7) (gA σ 0 o 1) 0 0 6)) 0 o 1 j = _
    rw [gA_s, cpy6 hj]
  · show u3 (u3 _ 0 o 5 _) 0 o 6 1 0 o 5 = _
    rw [u3_nk (by decide), u3_s]
  · unfold bgS
    exact gI_s
theorem bcS_sc (σ : ST) (q : Nat) : scC σ (bcS σ 1 q) :=
  scC_t (scC_I (Or.inr (Or.inr (Or.inr (Or.inr ⟨rfl, rfl⟩)))) _) (scC_t (scC_L _) (scC_t (scC_A (Or.inr (Or.inr (Or.inr (Or.inr (Or.inl ⟨rfl, rfl⟩))))) _) (scC_t (scC_A (Or.inr (Or.inr (Or.inr (Or.inr (Or.inl ⟨rfl, rfl⟩))))) _) (scC_t (scC_A (Or.inr (Or.inr (Or.inr (Or.inr (Or.inl ⟨rfl, rfl⟩))))) _) (scC_t (scC_A (Or.inr (Or.inr (Or.inr (Or.inr (Or.inl ⟨rfl, rfl⟩))))) _) (scC_t (scC_A (Or.inr (Or.inr (Or.inr (Or.inr (Or.inl ⟨rfl, rfl⟩))))) _) (scC_A (Or.inr (Or.inr (Or.inr (Or.inr (Or.inl ⟨rfl, rfl⟩))))) _)))))))
theorem bgS_sc (σ : ST) (G q : Nat) : scC σ (bgS σ 1 G q) :=
  scC_t scC_R (scC_t (bcS_sc _ q) (scC_t (scC_A (Or.inr (Or.inr (Or.inr (Or.inl ⟨rfl, rfl⟩)))) _) (scC_t (scC_I (Or.inr (Or.inr (Or.inr (Or.inl ⟨rfl, rfl⟩)))) _) (scC_I (Or.inr (Or.inr (Or.inr (Or.inl ⟨rfl, rfl⟩)))) _))))
theorem blE_RF {τ : ST} (h : RF τ) {b0 : Nat} (hb : b0 ≤ 100) (h19 : gA τ 12 0 19 0 = nI b0) : blE τ = (if nI b0 < 50 then 0 else 1) := by
  unfold blE
  rw [if_pos h.2.1, h19, if_pos h.1]
  by_cases h0 : b0 = 0
  · subst h0; decide
  · rw [if_neg (nI_ne0 (by omega) (by omega))]
    by_cases h1 : b0 = 100
    · subst h1; decide
    · rw [if_neg (show ¬ nI b0 = 100 from fun z => h1 ((nI_eq (a := b0) (b := 100) (by omega) (by decide)).mp z))]
section TRI
variable {G n r : Nat} {σ τ : ST}
/-- the trial begins where the real course stands -/
theorem begin_pair (hQ : RQ G n r σ τ) : ∃ σ' τ', den 0 [vR 0 1 0, vR 2 G 0, vR 5 0 0] σ = some (none, σ') ∧ den 208 [vR 12 0 0] τ = some (none, τ') ∧ YZ SA G n r 1 1 σ' τ' σ' τ' ∧ scC σ σ' ∧ scM τ τ' ∧ RF τ' ∧ bgC σ σ' 1 G 0 ∧ (∀ j, j < 6 → gA τ' 12 0 46 (6 + j) = gA τ 12 0 46 j) := by
  have hn6 := hQ.1.1.n6
  have hr2 := hQ.1.1.r2
  obtain ⟨τ', f1, f2, f3, f4, f5, f6⟩ := m_lay τ
  have hb := bgS_C σ 1 G 0
  have hs := bgS_sc σ G 0
  have hT := RT_sc hQ.1 hs f2
  refine ⟨_, τ', e_begin σ 1 G 0, f1, ⟨⟨⟨hT, hb.1, ?_, ?_, ?_, ?_, ?_, ?_, ?_, ?_⟩, ?_, ?_, ?_⟩, frC_0, frM_0⟩, hs, f2, f3, hb, fun j hj => (f4 j hj).2.2⟩
  · intro j hj
    rw [hb.2.2.2.2.2.1 j (by omega), dEff_RF f3 (by omega), (hQ.1.1.2.2.2.2.2.2.2.2.1 j hj).1]
    exact (congrFun (f2.2.1 23 (by omega) (by decide) (by decide) (by decide) (by decide)) j).symm
  · intro j hj
    obtain ⟨x1, x2⟩ := hQ.2.1.1.1 j hj
    rw [(hb.2.1 j (by omega)).1]
    refine ⟨?_, x2⟩
    rw [x1]
    show gA τ 12 0 44 (6 * 0 + j) = gA τ' 12 0 44 (6 + j)
    rw [(f4 j (by omega)).1, Nat.mul_zero, Nat.zero_add]
  · intro j hj
    have x1 := hQ.2.1.1.2.1 j hj
    rw [(hb.2.1 j (by omega)).2.1, x1]
    show gA τ 12 0 45 (6 * 0 + j) = gA τ' 12 0 45 (6 + j)
    rw [(f4 j (by omega)).2.1, Nat.mul_zero, Nat.zero_add]
  · intro j hj _
    have x1 := (hQ.2.1.1.2.2.1 j (by omega)).1
    rw [sEff_RF f3, (hb.2.1 j (by omega)).2.2, x1]
    show gA τ 12 0 46 (6 * 0 + j) = gA τ' 12 0 46 (6 + j)
    rw [(f4 j (by omega)).2.2, Nat.mul_zero, Nat.zero_add]
  · intro p hp
    obtain ⟨x1, x2⟩ := hQ.2.1.1.2.2.2.1 p hp
    rw [(hb.2.2.1 p (by omega)).1]
    refine ⟨?_, x2⟩
    rw [x1]
    show gA τ 12 0 47 (2 * 0 + p) = gA τ' 12 0 47 (2 + p)
    rw [(f5 p (by omega)).1, Nat.mul_zero, Nat.zero_add]
  · intro p hp
    have x1 := hQ.2.1.1.2.2.2.2.1 p hp
    rw [(hb.2.2.1 p (by omega)).2.1, x1]
    show gA τ 12 0 48 (2 * 0 + p) = gA τ' 12 0 48 (2 + p)
    rw [(f5 p (by omega)).2.1, Nat.mul_zero, Nat.zero_add]
  · intro p hp
    have x1 := hQ.2.1.1.2.2.2.2.2.1 p hp
    rw [(hb.2.2.1 p (by omega)).2.2, x1]
    show gA τ 12 0 49 (2 * 0 + p) = gA τ' 12 0 49 (2 + p)
    rw [(f5 p (by omega)).2.2, Nat.mul_zero, Nat.zero_add]
  · rw [hb.2.2.2.1, hQ.2.1.2, f6]
  · rw [hb.2.2.2.2.2.2.2, if_pos f3.2.2.2.1]
  · obtain ⟨b0, hb0, k1, k2⟩ := hQ.1.1.2.2.2.2.1
    rw [hb.2.2.2.2.2.2.1, k1, blE_RF f3 hb0]
    rw [f2.2.1 19 (by omega) (by decide) (by decide) (by decide) (by decide)]
    exact k2
  · exact fun h => absurd f3.1 h
end TRI
