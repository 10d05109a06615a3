/-! what is known; ORDER -/
theorem sub1 (t : Nat) : nI t + -1 = nI t - 1 := (Int32.sub_eq_add_neg (nI t) 1).symm
section KNW
variable {G n r : Nat} {σ τ : ST}
/-- up to where things told are known -/
theorem end_pair (hT : TD n r σ τ) : ∃ k e, k ≤ 24 ∧ e ≤ k ∧ gI σ 10 0 6 = nI k ∧ den 102 [vR 10 0 0] σ = some (some (vI (nI e)), σ) ∧ (∀ τ', gI τ' 12 0 67 = gI τ 12 0 67 → gI τ' 12 0 68 = gI τ 12 0 68 → den 272 [vR 12 0 0] τ' = some (some (vI (nI e)), τ')) ∧
    ∀ i, i < k → EN n r (gA σ 10 0 0) (gA σ 10 0 1) (gA σ 10 0 2) (gA σ 10 0 3) (gA σ 10 0 4) (gA τ 12 0 69) i := by
  obtain ⟨k, hk, h1, h2, h3, h4, h5⟩ := hT
  rcases h4 with h4 | ⟨b, hb, h4⟩
  · refine ⟨k, k, hk, Nat.le_refl _, h1, ?_, fun τ' e1 e2 => ?_, h5⟩
    · rw [dX10_end, bX10_end_0, h4, if_pos rfl, h1]
    · rw [dX12_knownBy, bX12_knownBy_0, e1, e2, ← h3, h4, if_pos (by decide), h2]
  · have nb : ¬ nI b = -1 := fun z => by
      have := nI_pos (n := b) (by omega)
      rw [z] at this
      exact this (by decide)
    refine ⟨k, b, hk, hb, h1, ?_, fun τ' e1 e2 => ?_, h5⟩
    · rw [dX10_end, bX10_end_0, h4, if_neg nb]
    · rw [dX12_knownBy, bX12_knownBy_0, e1, e2, ← h3, h4, if_neg (nI_pos (by omega))]
def knR (e : Nat) (A C : Nat → Int32) : Prop := (∀ i, i < e → A i = C i ∧ (A i = 0 ∨ A i = 1)) ∧ ∀ i, e ≤ i → i < 24 → A i = 0
theorem nb0 : vp_nar .boolean (0 : Int32) = 0 := nb01 (Or.inl rfl)
theorem nb1 : vp_nar .boolean (1 : Int32) = 1 := nb01 (Or.inr rfl)
theorem mk_1 {e : Nat} (he : e ≤ 24) : ∀ (m i : Nat), i + m = 24 → ∀ (A : Nat → Int32), ∃ A',
    run kX10_mark 5 [some (vR 10 0 0), some (vI (nI e)), some (vI (nI i))] [] (sA σ 10 0 5 A) = run kX10_mark 24 [some (vR 10 0 0), some (vI (nI e)), some (vI (nI e - 1))] [] (sA σ 10 0 5 A') ∧ ∀ j, j < 24 → (i ≤ j → A' j = if j < e then 1 else 0) ∧ (j < i → A' j = A j)
  | 0, i, hm, A => by
    have hi : i = 24 := by omega
    subst hi
    exact ⟨A, by rw [bX10_mark_5, if_neg (show ¬ nI 24 < 24 by decide)], fun j hj => ⟨fun h => by omega, fun _ => rfl⟩⟩
  | m + 1, i, hm, A => by
    have hlt : nI i < 24 := nI_lt (b := 24) (by omega) (by decide)
    have a1 := ob (i := i) (N := 24) (by omega) (by decide)
    have c1 : (nI i).toNatClampNeg = i := nI_clamp (by omega)
    have eA : gA (sA σ 10 0 5 A) 10 0 5 = A := gA_s
    rw [bX10_mark_5, if_pos hlt, eA]
    simp only [c1, a1, ↓reduceIte, nb0, nb1, sAA, nI_S]
    by_cases h : i < e
    · obtain ⟨A', f1, f2⟩ := mk_1 he m (i + 1) (by omega) (upd A i 1)
      rw [if_pos (nI_lt h (by omega))]
      refine ⟨A', f1, fun j hj => ⟨fun h1 => ?_, fun h1 => ?_⟩⟩
      · by_cases e1 : j = i
        · rw [e1, (f2 i (by omega)).2 (by omega), pk_us, if_pos h]
        · exact (f2 j hj).1 (by omega)
      · rw [(f2 j hj).2 (by omega), upd_o (by omega)]
    · obtain ⟨A', f1, f2⟩ := mk_1 he m (i + 1) (by omega) (upd A i 0)
      rw [if_neg (nI_nlt (by omega) (by omega))]
      refine ⟨A', f1, fun j hj => ⟨fun h1 => ?_, fun h1 => ?_⟩⟩
      · by_cases e1 : j = i
        · rw [e1, (f2 i (by omega)).2 (by omega), pk_us, if_neg h]
        · exact (f2 j hj).1 (by omega)
      · rw [(f2 j hj).2 (by omega), upd_o (by omega)]
theorem lc_1 {e : Nat} (he : e ≤ 24) (hk : ∀ τ', gI τ' 12 0 67 = gI τ 12 0 67 → gI τ' 12 0 68 = gI τ 12 0 68 → den 272 [vR 12 0 0] τ' = some (some (vI (nI e)), τ')) : ∀ (m i : Nat), i + m = e → ∀ (C : Nat → Int32), ∃ C',
    run kX12_layCounts 2 [some (vR 12 0 0), some (vI (nI i))] [] (sA τ 12 0 70 C) = run kX12_layCounts 18 [some (vR 12 0 0), some (vI (nI e - 1))] [] (sA τ 12 0 70 C') ∧ ∀ j, j < e → (i ≤ j → C' j = 1) ∧ (j < i → C' j = C j)
  | 0, i, hm, C => by
    have hi : i = e := by omega
    subst hi
    have hlt : ¬ nI i < nI i := nI_nlt (by omega) (by omega)
    exact ⟨C, by rw [bX12_layCounts_2, hk (sA τ 12 0 70 C) rfl rfl, bnd_s, tl_s, bX12_layCounts_5, if_neg hlt, hk (sA τ 12 0 70 C) rfl rfl, bnd_s, tl_s, bX12_layCounts_15], fun j hj => ⟨fun h => by omega, fun _ => rfl⟩⟩
  | m + 1, i, hm, C => by
    have hlt : nI i < nI e := nI_lt (by omega) (by omega)
    have a1 := ob (i := i) (N := 24) (by omega) (by decide)
    have c1 : (nI i).toNatClampNeg = i := nI_clamp (by omega)
    have eC : gA (sA τ 12 0 70 C) 12 0 70 = C := gA_s
    obtain ⟨C', f1, f2⟩ := lc_1 he hk m (i + 1) (by omega) (upd C i 1)
    refine ⟨C', ?_, fun j hj => ⟨fun h1 => ?_, fun h1 => ?_⟩⟩
    · rw [bX12_layCounts_2, hk (sA τ 12 0 70 C) rfl rfl, bnd_s, tl_s, bX12_layCounts_5, if_pos hlt, eC]
      simp only [c1, a1, ↓reduceIte, nb1, sAA, nI_S]
      exact f1
    · by_cases e1 : j = i
      · rw [e1, (f2 i (by omega)).2 (by omega), pk_us]
      · exact (f2 j hj).1 (by omega)
    · rw [(f2 j hj).2 (by omega), upd_o (by omega)]
theorem mk_2 {e : Nat} (he : e ≤ 24) (hE : ∀ i, i < e → EN n r (gA σ 10 0 0) (gA σ 10 0 1) (gA σ 10 0 2) (gA σ 10 0 3) (gA σ 10 0 4) (gA τ 12 0 69) i) : ∀ (t : Nat), t ≤ e → ∀ (A C : Nat → Int32) (y1 : Option AV), knR e A C → ∃ A' C',
    run kX10_mark 24 [some (vR 10 0 0), y1, some (vI (nI t - 1))] [] (sA σ 10 0 5 A) = some (none, sA σ 10 0 5 A') ∧ run kX12_layCounts 18 [some (vR 12 0 0), some (vI (nI t - 1))] [] (sA τ 12 0 70 C) = some (none, sA τ 12 0 70 C') ∧ knR e A' C'
  | 0, _, A, C, y1, hR => by
    have l : nI 0 - 1 < 0 := by decide
    exact ⟨A, C, by rw [bX10_mark_24, if_pos l], by rw [bX12_layCounts_18, if_pos l], hR⟩
  | t + 1, ht, A, C, y1, hR => by
    have em : nI (t + 1) - 1 = nI t := nI_pred t
    have a1 := ob (i := t) (N := 24) (by omega) (by decide)
    have c1 : (nI t).toNatClampNeg = t := nI_clamp (by omega)
    have b0 := ob (i := 5 * t) (N := 120) (by omega) (by decide)
    have b1 := ob (i := 5 * t + 1) (N := 120) (by omega) (by decide)
    have d0 : (nI (5 * t)).toNatClampNeg = 5 * t := nI_clamp (by omega)
    have d1 : (nI (5 * t + 1)).toNatClampNeg = 5 * t + 1 := nI_clamp (by omega)
    have s1 : nI (5 * t) + 1 = nI (5 * t + 1) := i5a t 1
    have eA : gA (sA σ 10 0 5 A) 10 0 5 = A := gA_s
    have eC : gA (sA τ 12 0 70 C) 12 0 70 = C := gA_s
    have e0 : gA (sA σ 10 0 5 A) 10 0 0 = gA σ 10 0 0 := rfl
    have e1 : gA (sA σ 10 0 5 A) 10 0 1 = gA σ 10 0 1 := rfl
    have e9 : gA (sA τ 12 0 70 C) 12 0 69 = gA τ 12 0 69 := rfl
    obtain ⟨r1, r2⟩ := hR.1 t (by omega)
    have ih := fun A C y1 hR => mk_2 he hE t (by omega) A C y1 hR
    rw [em, bX10_mark_24, if_neg (nI_pos (by omega)), bX12_layCounts_18, if_neg (nI_pos (by omega)), eA, eC, e0, e1, e9, sub1]
    simp only [i5, s1, c1, a1, b0, b1, d0, d1, ↓reduceIte, nb0, sAA]
    rw [← r1]
    by_cases h0 : A t = 0
    · rw [if_pos h0, if_pos h0]
      exact ih A C _ hR
    · rw [if_neg h0, if_neg h0]
      rcases hE t (by omega) with ⟨p0, p1, _⟩ | ⟨p0, p1, _⟩ | ⟨p0, p1, m, hm, p2, p3⟩
      · rw [p0, p1, if_neg (by decide), if_neg (by decide)]
        exact ih A C _ hR
      · rw [p0, p1, if_neg (by decide), if_neg (by decide)]
        exact ih A C _ hR
      · have a2 := ob (i := m) (N := 24) (by omega) (by decide)
        have c2 : (nI m).toNatClampNeg = m := nI_clamp (by omega)
        rw [p0, p1, if_pos rfl, if_pos rfl, p2, p3]
        simp only [c2, a2, ↓reduceIte]
        refine ih (upd A m 0) (upd C m 0) _ ⟨fun i hi => ?_, fun i h1 h2 => ?_⟩
        · by_cases e2 : i = m
          · rw [e2, pk_us, pk_us]
            exact ⟨rfl, Or.inl rfl⟩
          · rw [upd_o e2, upd_o e2]
            exact hR.1 i hi
        · rw [upd_o (by omega)]
          exact hR.2 i h1 h2
/-- Told.mark and layCounts -/
theorem mark_pair (hT : TD n r σ τ) : ∃ k e A C, k ≤ 24 ∧ e ≤ k ∧ gI σ 10 0 6 = nI k ∧ den 107 [vR 10 0 0] σ = some (none, sA σ 10 0 5 A) ∧ den 273 [vR 12 0 0] τ = some (none, sA τ 12 0 70 C) ∧ knR e A C ∧
    (∀ τ', gI τ' 12 0 67 = gI τ 12 0 67 → gI τ' 12 0 68 = gI τ 12 0 68 → den 272 [vR 12 0 0] τ' = some (some (vI (nI e)), τ')) ∧
    ∀ i, i < k → EN n r (gA σ 10 0 0) (gA σ 10 0 1) (gA σ 10 0 2) (gA σ 10 0 3) (gA σ 10 0 4) (gA τ 12 0 69) i := by
  obtain ⟨k, e, hk, he, h6, h1, h2, h3⟩ := end_pair hT
  obtain ⟨A1, f1, f2⟩ := mk_1 (σ := σ) (e := e) (by omega) 24 0 (by decide) (gA σ 10 0 5)
  obtain ⟨C1, g1, g2⟩ := lc_1 (e := e) (by omega) h2 e 0 (by omega) (gA τ 12 0 70)
  rw [sA_id, nI_0] at f1 g1
  obtain ⟨A, C, k1, k2, k3⟩ := mk_2 (σ := σ) (τ := τ) (by omega) (fun i hi => h3 i (by omega)) e (Nat.le_refl _) A1 C1 (some (vI (nI e))) ⟨fun i hi => by
    rw [(f2 i (by omega)).1 (Nat.zero_le _), (g2 i hi).1 (Nat.zero_le _), if_pos hi]
    exact ⟨rfl, Or.inr rfl⟩, fun i h4 h5 => by rw [(f2 i h5).1 (Nat.zero_le _), if_neg (by omega)]⟩
  refine ⟨k, e, A, C, hk, he, h6, ?_, ?_, k3, h2, h3⟩
  · rw [dX10_mark, bX10_mark_0, h1, bnd_s, tl_s, bX10_mark_2, f1, k1]
  · rw [dX12_layCounts, bX12_layCounts_0, g1, k2]
end KNW
/-- sums -/
def smN (f : Nat → Nat) : Nat → Nat
  | 0 => 0
  | m + 1 => smN f m + f m
theorem smN_a {f g : Nat → Nat} : ∀ m, smN (fun i => f i + g i) m = smN f m + smN g m
  | 0 => rfl
  | m + 1 => by
    simp only [smN]
    rw [smN_a m]
    omega
theorem smN_c {f g : Nat → Nat} : ∀ m, (∀ i, i < m → f i = g i) → smN f m = smN g m
  | 0, _ => rfl
  | m + 1, h => by
    simp only [smN]
    rw [smN_c m (fun i hi => h i (by omega)), h m (by omega)]
theorem smN_0 {f : Nat → Nat} : ∀ m, (∀ i, i < m → f i = 0) → smN f m = 0
  | 0, _ => rfl
  | m + 1, h => by
    simp only [smN]
    rw [smN_0 m (fun i hi => h i (by omega)), h m (by omega)]
theorem smN_x {w : Nat → Nat → Nat} {a : Nat} : ∀ b, smN (fun j => smN (fun i => w i j) a) b = smN (fun i => smN (fun j => w i j) b) a
  | 0 => (smN_0 a (fun _ _ => rfl)).symm
  | b + 1 => by
    have e1 : smN (fun j => smN (fun i => w i j) a) (b + 1) = smN (fun j => smN (fun i => w i j) a) b + smN (fun i => w i b) a := rfl
    rw [e1, smN_x b, ← smN_a]
    rfl
theorem smN_1 {f : Nat → Nat} {j : Nat} : ∀ m, j < m → (∀ i, i < m → i ≠ j → f i = 0) → smN f m = f j
  | 0, h, _ => absurd h (Nat.not_lt_zero _)
  | m + 1, h, h0 => by
    simp only [smN]
    by_cases e : j = m
    · rw [smN_0 m (fun i hi => h0 i (by omega) (by omega)), e, Nat.zero_add]
    · rw [smN_1 m (by omega) (fun i hi hn => h0 i (by omega) hn), h0 m (by omega) (fun z => e z.symm), Nat.add_zero]
theorem smN_n {f : Nat → Nat} {e : Nat} : ∀ m, (∀ i, e ≤ i → i < e + m → f i = 0) → smN f (e + m) = smN f e
  | 0, _ => rfl
  | m + 1, h => by
    rw [show e + (m + 1) = (e + m) + 1 by omega]
    simp only [smN]
    rw [smN_n m (fun i h1 h2 => h i h1 (by omega)), h (e + m) (by omega) (by omega), Nat.add_zero]
theorem smN_le {f : Nat → Nat} : ∀ m, (∀ i, i < m → f i ≤ 1) → smN f m ≤ m
  | 0, _ => Nat.le_refl _
  | m + 1, h => by
    simp only [smN]
    have := smN_le m (fun i hi => h i (by omega))
    have := h m (by omega)
    omega
