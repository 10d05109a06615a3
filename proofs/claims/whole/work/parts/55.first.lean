/-! THE FIRST PLOT, and the reference's atFirst -/
/-- how many ribbons one has at first -/
def hadP (who : Nat → Int32) : Nat → Nat → Int32
  | 0, _ => 0
  | q + 1, j => if who q = nI j then hadP who q j + 1 else hadP who q j
theorem hadP_c {w w' : Nat → Int32} : ∀ (q j : Nat), (∀ i, i < q → w i = w' i) → hadP w q j = hadP w' q j
  | 0, _, _ => rfl
  | q + 1, j, h => by
    simp only [hadP]
    rw [h q (by omega), hadP_c q j (fun i hi => h i (by omega))]
/-- the text's first plot -/
def FP (G n r : Nat) (σ τ : ST) : Prop :=
  (∀ j, j < n → gA σ 5 (3 + G) 2 j = gA τ 12 0 21 j ∧ ∃ x, x ≤ 999 ∧ gA σ 5 (3 + G) 2 j = nI x) ∧ (∀ j, j < n → gA σ 5 (3 + G) 3 j = hadP (gA τ 12 0 26) r j) ∧
  (∀ j, j < 6 → gA σ 5 (3 + G) 4 j = gA τ 12 0 25 j ∧ ∃ x, x < 2 ^ n ∧ (n ≤ j → x = 0) ∧ gA σ 5 (3 + G) 4 j = nI x) ∧
  (∀ p, p < r → gA σ 5 (3 + G) 5 p = gA τ 12 0 26 p ∧ ∃ x, x < n ∧ gA σ 5 (3 + G) 5 p = nI x) ∧ (∀ p, p < 2 → gA σ 5 (3 + G) 6 p = 0 ∧ gA σ 5 (3 + G) 7 p = 0) ∧ gI σ 5 (3 + G) 0 = 0
section FST
variable {n r b : Nat} {τ : ST}
/-- half b as it stands behind so many -/
theorem af_6 (hb : b < 2) : ∀ (m i : Nat), i + m = 6 → ∀ (τ : ST), ∃ A4 A5 A6, run kX12_atFirst 2 [some (vR 12 0 0), some (vI (nI b)), some (vI (nI i))] [] τ = run kX12_atFirst 42 [some (vR 12 0 0), some (vI (nI b)), some (vI 0)] [] (sA (sA (sA τ 12 0 44 A4) 12 0 45 A5) 12 0 46 A6) ∧
    (∀ j, j < 6 → (i ≤ j → A4 (6 * b + j) = gA τ 12 0 21 j ∧ A5 (6 * b + j) = 0 ∧ A6 (6 * b + j) = gA τ 12 0 25 j) ∧ (j < i → A4 (6 * b + j) = gA τ 12 0 44 (6 * b + j) ∧ A5 (6 * b + j) = gA τ 12 0 45 (6 * b + j) ∧ A6 (6 * b + j) = gA τ 12 0 46 (6 * b + j))) ∧
    (∀ j, (j < 6 * b ∨ 6 * b + 6 ≤ j) → A4 j = gA τ 12 0 44 j ∧ A5 j = gA τ 12 0 45 j ∧ A6 j = gA τ 12 0 46 j)
  | 0, i, hm, τ => by
    have hi : i = 6 := by omega
    subst hi
    refine ⟨gA τ 12 0 44, gA τ 12 0 45, gA τ 12 0 46, ?_, fun j hj => ⟨fun h => by omega, fun _ => ⟨rfl, rfl, rfl⟩⟩, fun _ _ => ⟨rfl, rfl, rfl⟩⟩
    rw [bX12_atFirst_2, if_neg (show ¬ nI 6 < 6 by decide), sA_id, sA_id, sA_id]
  | m + 1, i, hm, τ => by
    have hlt : nI i < 6 := nI_lt (b := 6) (by omega) (by decide)
    have a1 := ob (i := i) (N := 12) (by omega) (by decide)
    have c1 : (nI i).toNatClampNeg = i := nI_clamp (by omega)
    have a2 := ob (i := 6 * b + i) (N := 12) (by omega) (by decide)
    have c2 : (nI (6 * b + i)).toNatClampNeg = 6 * b + i := nI_clamp (by omega)
    obtain ⟨A4, A5, A6, f1, f2, f3⟩ := af_6 hb m (i + 1) (by omega) (sA (sA (sA τ 12 0 44 (upd (gA τ 12 0 44) (6 * b + i) (gA τ 12 0 21 i))) 12 0 45 (upd (gA τ 12 0 45) (6 * b + i) 0)) 12 0 46 (upd (gA τ 12 0 46) (6 * b + i) (gA τ 12 0 25 i)))
    have g4 : gA (sA (sA (sA τ 12 0 44 (upd (gA τ 12 0 44) (6 * b + i) (gA τ 12 0 21 i))) 12 0 45 (upd (gA τ 12 0 45) (6 * b + i) 0)) 12 0 46 (upd (gA τ 12 0 46) (6 * b + i) (gA τ 12 0 25 i))) 12 0 44 = upd (gA τ 12 0 44) (6 * b + i) (gA τ 12 0 21 i) := rfl
    have g5 : gA (sA (sA (sA τ 12 0 44 (upd (gA τ 12 0 44) (6 * b + i) (gA τ 12 0 21 i))) 12 0 45 (upd (gA τ 12 0 45) (6 * b + i) 0)) 12 0 46 (upd (gA τ 12 0 46) (6 * b + i) (gA τ 12 0 25 i))) 12 0 45 = upd (gA τ 12 0 45) (6 * b + i) 0 := rfl
    have g6 : gA (sA (sA (sA τ 12 0 44 (upd (gA τ 12 0 44) (6 * b + i) (gA τ 12 0 21 i))) 12 0 45 (upd (gA τ 12 0 45) (6 * b + i) 0)) 12 0 46 (upd (gA τ 12 0 46) (6 * b + i) (gA τ 12 0 25 i))) 12 0 46 = upd (gA τ 12 0 46) (6 * b + i) (gA τ 12 0 25 i) := rfl
    have g21 : gA (sA (sA (sA τ 12 0 44 (upd (gA τ 12 0 44) (6 * b + i) (gA τ 12 0 21 i))) 12 0 45 (upd (gA τ 12 0 45) (6 * b + i) 0)) 12 0 46 (upd (gA τ 12 0 46) (6 * b + i) (gA τ 12 0 25 i))) 12 0 21 = gA τ 12 0 21 := rfl
    have g25 : gA (sA (sA (sA τ 12 0 44 (upd (gA τ 12 0 44) (6 * b + i) (gA τ 12 0 21 i))) 12 0 45 (upd (gA τ 12 0 45) (6 * b + i) 0)) 12 0 46 (upd (gA τ 12 0 46) (6 * b + i) (gA τ 12 0 25 i))) 12 0 25 = gA τ 12 0 25 := rfl
    rw [g4, g5, g6, g21, g25] at f2
    rw [g4, g5, g6] at f3
    have est : sA (sA (sA (sA (sA (sA τ 12 0 44 (upd (gA τ 12 0 44) (6 * b + i) (gA τ 12 0 21 i))) 12 0 45 (upd (gA τ 12 0 45) (6 * b + i) 0)) 12 0 46 (upd (gA τ 12 0 46) (6 * b + i) (gA τ 12 0 25 i))) 12 0 44 A4) 12 0 45 A5) 12 0 46 A6 = sA (sA (sA τ 12 0 44 A4) 12 0 45 A5) 12 0 46 A6 := by
      rw [sA_c (k := 46) (k' := 44) (by decide), sA_c (k := 45) (k' := 44) (by decide), sAA, sA_c (k := 46) (k' := 45) (by decide), sAA, sAA]
    rw [est] at f1
    refine ⟨A4, A5, A6, ?_, fun j hj => ⟨fun h => ?_, fun h => ?_⟩, fun j hj => ?_⟩
    · rw [bX12_atFirst_2, if_pos hlt, i6]
      simp only [c1, c2, a1, a2, ↓reduceIte, nI_S]
      exact f1
    · by_cases e : j = i
      · subst e
        obtain ⟨x1, x2, x3⟩ := (f2 j hj).2 (by omega)
        rw [x1, x2, x3, pk_us, pk_us, pk_us]
        exact ⟨rfl, rfl, rfl⟩
      · exact (f2 j hj).1 (by omega)
    · obtain ⟨x1, x2, x3⟩ := (f2 j hj).2 (by omega)
      rw [x1, x2, x3, upd_o (by omega), upd_o (by omega), upd_o (by omega)]
      exact ⟨rfl, rfl, rfl⟩
    · obtain ⟨x1, x2, x3⟩ := f3 j hj
      rw [x1, x2, x3, upd_o (by omega), upd_o (by omega), upd_o (by omega)]
      exact ⟨rfl, rfl, rfl⟩
theorem af_2 (hb : b < 2) (hr : r ≤ 2) (hn6 : n ≤ 6) : ∀ (m i : Nat), i + m = 2 → ∀ (τ : ST), gI τ 12 0 13 = nI r → (∀ q, q < r → ∃ x, x < n ∧ gA τ 12 0 26 q = nI x) → (∀ j, j < 6 → gA τ 12 0 45 (6 * b + j) = hadP (gA τ 12 0 26) (min i r) j) → ∃ A5 A7 A8 A9, run kX12_atFirst 42 [some (vR 12 0 0), some (vI (nI b)), some (vI (nI i))] [] τ = some (none, sA (sA (sA (sA (sA τ 12 0 47 A7) 12 0 48 A8) 12 0 49 A9) 12 0 45 A5) 12 0 50 (upd (gA τ 12 0 50) b 0)) ∧
    (∀ j, j < 2 → (i ≤ j → A7 (2 * b + j) = gA τ 12 0 26 j ∧ A8 (2 * b + j) = 0 ∧ A9 (2 * b + j) = 0) ∧ (j < i → A7 (2 * b + j) = gA τ 12 0 47 (2 * b + j) ∧ A8 (2 * b + j) = gA τ 12 0 48 (2 * b + j) ∧ A9 (2 * b + j) = gA τ 12 0 49 (2 * b + j))) ∧
    (∀ j, (j < 2 * b ∨ 2 * b + 2 ≤ j) → A7 j = gA τ 12 0 47 j ∧ A8 j = gA τ 12 0 48 j ∧ A9 j = gA τ 12 0 49 j) ∧ (∀ j, j < 6 → A5 (6 * b + j) = hadP (gA τ 12 0 26) r j) ∧ (∀ j, (j < 6 * b ∨ 6 * b + 6 ≤ j) → A5 j = gA τ 12 0 45 j)
  | 0, i, hm, τ, h13, h26, h45 => by
    have hi : i = 2 := by omega
    subst hi
    have a1 := ob (i := b) (N := 2) (by omega) (by decide)
    have c1 : (nI b).toNatClampNeg = b := nI_clamp (by omega)
    refine ⟨gA τ 12 0 45, gA τ 12 0 47, gA τ 12 0 48, gA τ 12 0 49, ?_, fun j hj => ⟨fun h => by omega, fun _ => ⟨rfl, rfl, rfl⟩⟩, fun _ _ => ⟨rfl, rfl, rfl⟩, fun j hj => ?_, fun _ _ => rfl⟩
    · rw [bX12_atFirst_42, if_neg (show ¬ nI 2 < 2 by decide)]
      simp only [c1, a1, ↓reduceIte]
      rw [sA_id, sA_id, sA_id, sA_id]
    · rw [h45 j hj, show min 2 r = r by omega]
  | m + 1, i, hm, τ, h13, h26, h45 => by
    have hlt : nI i < 2 := nI_lt (b := 2) (by omega) (by decide)
    have a1 := ob (i := i) (N := 4) (by omega) (by decide)
    have c1 : (nI i).toNatClampNeg = i := nI_clamp (by omega)
    have a2 := ob (i := 2 * b + i) (N := 4) (by omega) (by decide)
    have c2 : (nI (2 * b + i)).toNatClampNeg = 2 * b + i := nI_clamp (by omega)
    rw [bX12_atFirst_42, if_pos hlt, i2, h13]
    simp only [c1, c2, a1, a2, ↓reduceIte, nI_S]
    have fin : ∀ (τ' : ST) (N5 : Nat → Int32), τ' = sA (sA (sA (sA τ 12 0 47 (upd (gA τ 12 0 47) (2 * b + i) (gA τ 12 0 26 i))) 12 0 48 (upd (gA τ 12 0 48) (2 * b + i) 0)) 12 0 49 (upd (gA τ 12 0 49) (2 * b + i) 0)) 12 0 45 N5 → (∀ j, j < 6 → N5 (6 * b + j) = hadP (gA τ 12 0 26) (min (i + 1) r) j) → (∀ j, (j < 6 * b ∨ 6 * b + 6 ≤ j) → N5 j = gA τ 12 0 45 j) → ∃ A5 A7 A8 A9, run kX12_atFirst 42 [some (vR 12 0 0), some (vI (nI b)), some (vI (nI (i + 1)))] [] τ' = some (none, sA (sA (sA (sA (sA τ 12 0 47 A7) 12 0 48 A8) 12 0 49 A9) 12 0 45 A5) 12 0 50 (upd (gA τ 12 0 50) b 0)) ∧
        (∀ j, j < 2 → (i ≤ j → A7 (2 * b + j) = gA τ 12 0 26 j ∧ A8 (2 * b + j) = 0 ∧ A9 (2 * b + j) = 0) ∧ (j < i → A7 (2 * b + j) = gA τ 12 0 47 (2 * b + j) ∧ A8 (2 * b + j) = gA τ 12 0 48 (2 * b + j) ∧ A9 (2 * b + j) = gA τ 12 0 49 (2 * b + j))) ∧
        (∀ j, (j < 2 * b ∨ 2 * b + 2 ≤ j) → A7 j = gA τ 12 0 47 j ∧ A8 j = gA τ 12 0 48 j ∧ A9 j = gA τ 12 0 49 j) ∧ (∀ j, j < 6 → A5 (6 * b + j) = hadP (gA τ 12 0 26) r j) ∧ (∀ j, (j < 6 * b ∨ 6 * b + 6 ≤ j) → A5 j = gA τ 12 0 45 j) := by
      intro τ' N5 et hN hN2
      subst et
      obtain ⟨A5, A7, A8, A9, f1, f2, f3, f4, f5⟩ := af_2 hb hr hn6 m (i + 1) (by omega) (sA (sA (sA (sA τ 12 0 47 (upd (gA τ 12 0 47) (2 * b + i) (gA τ 12 0 26 i))) 12 0 48 (upd (gA τ 12 0 48) (2 * b + i) 0)) 12 0 49 (upd (gA τ 12 0 49) (2 * b + i) 0)) 12 0 45 N5) h13 h26 hN
      have g7 : gA (sA (sA (sA (sA τ 12 0 47 (upd (gA τ 12 0 47) (2 * b + i) (gA τ 12 0 26 i))) 12 0 48 (upd (gA τ 12 0 48) (2 * b + i) 0)) 12 0 49 (upd (gA τ 12 0 49) (2 * b + i) 0)) 12 0 45 N5) 12 0 47 = upd (gA τ 12 0 47) (2 * b + i) (gA τ 12 0 26 i) := rfl
      have g8 : gA (sA (sA (sA (sA τ 12 0 47 (upd (gA τ 12 0 47) (2 * b + i) (gA τ 12 0 26 i))) 12 0 48 (upd (gA τ 12 0 48) (2 * b + i) 0)) 12 0 49 (upd (gA τ 12 0 49) (2 * b + i) 0)) 12 0 45 N5) 12 0 48 = upd (gA τ 12 0 48) (2 * b + i) 0 := rfl
      have g9 : gA (sA (sA (sA (sA τ 12 0 47 (upd (gA τ 12 0 47) (2 * b + i) (gA τ 12 0 26 i))) 12 0 48 (upd (gA τ 12 0 48) (2 * b + i) 0)) 12 0 49 (upd (gA τ 12 0 49) (2 * b + i) 0)) 12 0 45 N5) 12 0 49 = upd (gA τ 12 0 49) (2 * b + i) 0 := rfl
      have g5 : gA (sA (sA (sA (sA τ 12 0 47 (upd (gA τ 12 0 47) (2 * b + i) (gA τ 12 0 26 i))) 12 0 48 (upd (gA τ 12 0 48) (2 * b + i) 0)) 12 0 49 (upd (gA τ 12 0 49) (2 * b + i) 0)) 12 0 45 N5) 12 0 45 = N5 := rfl
      have g50 : gA (sA (sA (sA (sA τ 12 0 47 (upd (gA τ 12 0 47) (2 * b + i) (gA τ 12 0 26 i))) 12 0 48 (upd (gA τ 12 0 48) (2 * b + i) 0)) 12 0 49 (upd (gA τ 12 0 49) (2 * b + i) 0)) 12 0 45 N5) 12 0 50 = gA τ 12 0 50 := rfl
      have g26 : gA (sA (sA (sA (sA τ 12 0 47 (upd (gA τ 12 0 47) (2 * b + i) (gA τ 12 0 26 i))) 12 0 48 (upd (gA τ 12 0 48) (2 * b + i) 0)) 12 0 49 (upd (gA τ 12 0 49) (2 * b + i) 0)) 12 0 45 N5) 12 0 26 = gA τ 12 0 26 := rfl
      rw [g7, g8, g9, g26] at f2
      rw [g7, g8, g9] at f3
      rw [g26] at f4
      rw [g5] at f5
      rw [g50] at f1
      refine ⟨A5, A7, A8, A9, ?_, fun j hj => ⟨fun h => ?_, fun h => ?_⟩, fun j hj => ?_, f4, fun j hj => (f5 j hj).trans (hN2 j hj)⟩
      · rw [f1, sA_c (k := 45) (k' := 47) (by decide), sA_c (k := 49) (k' := 47) (by decide), sA_c (k := 48) (k' := 47) (by decide), sAA, sA_c (k := 45) (k' := 48) (by decide), sA_c (k := 49) (k' := 48) (by decide), sAA, sA_c (k := 45) (k' := 49) (by decide), sAA, sAA]
      · by_cases e : j = i
        · subst e
          obtain ⟨x1, x2, x3⟩ := (f2 j hj).2 (by omega)
          rw [x1, x2, x3, pk_us, pk_us, pk_us]
          exact ⟨rfl, rfl, rfl⟩
        · exact (f2 j hj).1 (by omega)
      · obtain ⟨x1, x2, x3⟩ := (f2 j hj).2 (by omega)
        rw [x1, x2, x3, upd_o (by omega), upd_o (by omega), upd_o (by omega)]
        exact ⟨rfl, rfl, rfl⟩
      · obtain ⟨x1, x2, x3⟩ := f3 j hj
        rw [x1, x2, x3, upd_o (by omega), upd_o (by omega), upd_o (by omega)]
        exact ⟨rfl, rfl, rfl⟩
    by_cases hir : i < r
    · obtain ⟨x, hx, ex⟩ := h26 i hir
      have a3 := ob (i := 6 * b + x) (N := 12) (by omega) (by decide)
      have c3 : (nI (6 * b + x)).toNatClampNeg = 6 * b + x := nI_clamp (by omega)
      rw [if_pos (nI_lt hir (by omega))]
      simp only [ex, i6, c3, a3, ↓reduceIte]
      refine fin _ (upd (gA τ 12 0 45) (6 * b + x) (gA τ 12 0 45 (6 * b + x) + 1)) (by rw [ex]) (fun j hj => ?_) (fun j hj => upd_o (by omega))
      rw [show min (i + 1) r = i + 1 by omega]
      simp only [hadP]
      rw [show min i r = i by omega] at h45
      by_cases e : j = x
      · rw [e, pk_us, h45 x (by omega), if_pos ex]
      · rw [upd_o (by omega), h45 j hj, if_neg (fun z => e ((nI_eq (by omega) (by omega)).mp (z.symm.trans ex)))]
    · rw [if_neg (nI_nlt (by omega) (by omega))]
      have e45 : gA (sA (sA (sA τ 12 0 47 (upd (gA τ 12 0 47) (2 * b + i) (gA τ 12 0 26 i))) 12 0 48 (upd (gA τ 12 0 48) (2 * b + i) 0)) 12 0 49 (upd (gA τ 12 0 49) (2 * b + i) 0)) 12 0 45 = gA τ 12 0 45 := rfl
      refine fin _ (gA τ 12 0 45) (by rw [← e45, sA_id]) (fun j hj => ?_) (fun j hj => rfl)
      rw [h45 j hj, show min (i + 1) r = min i r by omega]
/-- what atFirst leaves of half b, and what it leaves alone -/
theorem m_atFirst (hb : b < 2) (hr : r ≤ 2) (hn6 : n ≤ 6) (h13 : gI τ 12 0 13 = nI r) (h26 : ∀ q, q < r → ∃ x, x < n ∧ gA τ 12 0 26 q = nI x) : ∃ τ', den 206 [vR 12 0 0, vI (nI b)] τ = some (none, τ') ∧
    (∀ j, j < 6 → gA τ' 12 0 44 (6 * b + j) = gA τ 12 0 21 j ∧ gA τ' 12 0 45 (6 * b + j) = hadP (gA τ 12 0 26) r j ∧ gA τ' 12 0 46 (6 * b + j) = gA τ 12 0 25 j) ∧
    (∀ j, j < 2 → gA τ' 12 0 47 (2 * b + j) = gA τ 12 0 26 j ∧ gA τ' 12 0 48 (2 * b + j) = 0 ∧ gA τ' 12 0 49 (2 * b + j) = 0) ∧ gA τ' 12 0 50 b = 0 ∧
    (∀ k, gI τ' 12 0 k = gI τ 12 0 k) ∧ (∀ k, gL τ' 12 0 k = gL τ 12 0 k) ∧ (∀ k, k < 44 ∨ 50 < k → gA τ' 12 0 k = gA τ 12 0 k) ∧
    (∀ j, (j < 6 * b ∨ 6 * b + 6 ≤ j) → gA τ' 12 0 44 j = gA τ 12 0 44 j ∧ gA τ' 12 0 45 j = gA τ 12 0 45 j ∧ gA τ' 12 0 46 j = gA τ 12 0 46 j) ∧
    (∀ j, (j < 2 * b ∨ 2 * b + 2 ≤ j) → gA τ' 12 0 47 j = gA τ 12 0 47 j ∧ gA τ' 12 0 48 j = gA τ 12 0 48 j ∧ gA τ' 12 0 49 j = gA τ 12 0 49 j) ∧ (∀ j, j ≠ b → gA τ' 12 0 50 j = gA τ 12 0 50 j) := by
  obtain ⟨A4, A5, A6, f1, f2, f3⟩ := af_6 hb 6 0 (by decide) τ
  obtain ⟨B5, A7, A8, A9, g1, g2, g3, g4, g5⟩ := af_2 (n := n) hb hr hn6 2 0 (by decide) (sA (sA (sA τ 12 0 44 A4) 12 0 45 A5) 12 0 46 A6) h13 h26 (fun j hj => by
    rw [show min 0 r = 0 by omega]
    exact ((f2 j hj).1 (Nat.zero_le _)).2.1)
  rw [nI_0] at f1 g1
  have c50 : gA (sA (sA (sA τ 12 0 44 A4) 12 0 45 A5) 12 0 46 A6) 12 0 50 = gA τ 12 0 50 := rfl
  rw [c50] at g1
  refine ⟨sA (sA (sA (sA (sA (sA (sA (sA τ 12 0 44 A4) 12 0 45 A5) 12 0 46 A6) 12 0 47 A7) 12 0 48 A8) 12 0 49 A9) 12 0 45 B5) 12 0 50 (upd (gA τ 12 0 50) b 0), by rw [dX12_atFirst, bX12_atFirst_0, f1, g1], fun j hj => ⟨((f2 j hj).1 (Nat.zero_le _)).1, g4 j hj, ((f2 j hj).1 (Nat.zero_le _)).2.2⟩, fun j hj => (g2 j hj).1 (Nat.zero_le _), ?_, fun _ => rfl, fun _ => rfl, fun k hk => ?_, fun j hj => ⟨(f3 j hj).1, (g5 j hj).trans (f3 j hj).2.1, (f3 j hj).2.2⟩, fun j hj => g3 j hj, fun j hj => ?_⟩
  · show upd (gA τ 12 0 50) b 0 b = 0
    rw [pk_us]
  · rw [gA_n (by omega), gA_n (by omega), gA_n (by omega), gA_n (by omega), gA_n (by omega), gA_n (by omega), gA_n (by omega), gA_n (by omega)]
  · show upd (gA τ 12 0 50) b 0 j = _
    rw [upd_o hj]
end FST
