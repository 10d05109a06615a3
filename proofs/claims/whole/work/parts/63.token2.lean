/-! TOKENS: numbers, signs -/
/-- a token as both have it -/
def wsw (j : Nat) : Nat := if j = 9 then 10 else if j = 10 then 9 else j
def sgc (k : Nat) : Nat := if k = 0 then 43 else if k = 1 then 45 else if k = 2 then 42 else if k = 3 then 47 else if k = 4 then 40 else if k = 5 then 41 else 59
def TKN (ck cv mk mw : Int32) : Prop :=
  (ck = 0 ∧ mk = 0) ∨
  (ck = 1 ∧ mk = 3 ∧ ∃ a b, a ≤ 1000000 ∧ b ≤ 999999 ∧ cv = nI a ∧ mw = nI b ∧ (a = b ∨ (99999 < a ∧ 99999 < b))) ∨
  (ck = 2 ∧ mk = 2 ∧ cv = mw) ∨ (ck = 3 ∧ mk = 1 ∧ ∃ j, j < 19 ∧ cv = nI (wsw j) ∧ mw = nI j) ∨
  (ck = 4 ∧ ((mk = 5 ∧ ∃ c, c < 6 ∧ cv = nI (3 + c) ∧ mw = nI c) ∨ (mk = 4 ∧ ∃ k, k < 7 ∧ cv = nI (9 + k) ∧ mw = nI (sgc k)))) ∨
  (ck = 5 ∧ (mk = 6 ∨ (mk = 4 ∧ mw = 37)))
theorem sb_lo : ∀ b, b < 128 → sbB b = nI b := by decide +kernel
section TK2
variable {L : Nat} {t : Nat → Nat}
theorem num_pair : ∀ (m q : Nat), q + m = L → ∀ (σ τ : ST) (a b : Nat) (y1 : Option AV), TZ L t σ τ → gI σ 9 0 3 = nI q → gI τ 12 0 7 = nI q → a ≤ 1000000 → b ≤ 999999 → gI σ 9 0 6 = nI a → gI τ 12 0 9 = nI b → (a = b ∨ (99999 < a ∧ 99999 < b)) → ∃ q' σ' τ' a' b', q ≤ q' ∧ q' ≤ L ∧ run kX9_readNumber 3 [some (vR 9 0 0), y1] [] σ = some (none, σ') ∧ run kX12_token 105 [some (vR 12 0 0)] [] τ = some (none, τ') ∧ ftC σ σ' ∧ ftM τ τ' ∧
    gI σ' 9 0 3 = nI q' ∧ gI τ' 12 0 7 = nI q' ∧ gI σ' 9 0 5 = gI σ 9 0 5 ∧ gI τ' 12 0 8 = gI τ 12 0 8 ∧ gI σ' 9 0 7 = gI σ 9 0 7 ∧ gI τ' 12 0 10 = gI τ 12 0 10 ∧ a' ≤ 1000000 ∧ b' ≤ 999999 ∧ gI σ' 9 0 6 = nI a' ∧ gI τ' 12 0 9 = nI b' ∧ (a' = b' ∨ (99999 < a' ∧ 99999 < b'))
  | 0, q, hm, σ, τ, a, b, y1, hT, h3, h7, ha, hb, h6, h9, hab => by
    obtain ⟨hL, k1, k2, k3⟩ := id hT
    have hlt : ¬ nI q < nI L := nI_nlt (by omega) (by omega)
    have hd : atB dgB L t q = false := by
      unfold atB
      rw [decide_eq_false (show ¬ q < L by omega), Bool.false_and]
    refine ⟨q, σ, τ, a, b, Nat.le_refl _, by omega, ?_, ?_, ftC_0, ftM_0, h3, h7, rfl, rfl, rfl, rfl, ha, hb, h6, h9, hab⟩
    · rw [bX9_readNumber_3, h3, k1, if_neg hlt]
    · rw [bX12_token_105, h7, m_digit hT (by omega), bnd_s, tl_s, bX12_token_109, bI_f hd, if_pos rfl, bX12_token_140]
  | m + 1, q, hm, σ, τ, a, b, y1, hT, h3, h7, ha, hb, h6, h9, hab => by
    obtain ⟨hL, k1, k2, k3⟩ := id hT
    have hlt : nI q < nI L := nI_lt (by omega) (by omega)
    have a1 := ob (i := q) (N := 700) (by omega) (by decide)
    have c1 : (nI q).toNatClampNeg = q := nI_clamp (by omega)
    obtain ⟨b1, b2, b3⟩ := k3 q (by omega)
    have ed : atB dgB L t q = dgB (t q) := by
      unfold atB
      rw [decide_eq_true (show q < L by omega), Bool.true_and]
    rw [bX9_readNumber_3, h3, k1, if_pos hlt, e_digit hT (by omega), bnd_s, tl_s, bX9_readNumber_12, bX12_token_105, h7, m_digit hT (by omega), bnd_s, tl_s, bX12_token_109, ed]
    by_cases hd : dgB (t q) = true
    · have hd' := hd
      rw [dgB, Bool.and_eq_true, decide_eq_true_eq, decide_eq_true_eq] at hd'
      have es : gA σ 9 0 1 q = nI (t q) := b3.trans (sb_lo _ (by omega))
      have ec : nI a * 10 + nI (t q) - 48 = nI (10 * a + (t q - 48)) := by
        have e1 : nI a * 10 = nI (a * 10) := pk_mul a 10
        have e2 : nI (a * 10 + t q) - 48 = nI (a * 10 + t q - 48) := pk_sub (b := 48) (by omega)
        rw [e1, nI_add, e2, show a * 10 + t q - 48 = 10 * a + (t q - 48) by omega]
      have em : (10 : Int32) * nI b + nI (t q) - 48 = nI (10 * b + (t q - 48)) := by
        have e1 : (10 : Int32) * nI b = nI (10 * b) := pk_mul 10 b
        have e2 : nI (10 * b + t q) - 48 = nI (10 * b + t q - 48) := pk_sub (b := 48) (by omega)
        rw [e1, nI_add, e2, show 10 * b + t q - 48 = 10 * b + (t q - 48) by omega]
      rw [bI_t hd, if_neg i10, if_neg i10, h3, h6, h9, h7]
      simp only [c1, a1, ↓reduceIte, es, b2, ec, em, nI_S]
      -- both go on
      have go : ∀ (a' b' : Nat) (y : Option AV), a' ≤ 1000000 → b' ≤ 999999 → (a' = b' ∨ (99999 < a' ∧ 99999 < b')) → ∃ q' σ' τ' a'' b'', q ≤ q' ∧ q' ≤ L ∧ run kX9_readNumber 3 [some (vR 9 0 0), y] [] (sI (sI σ 9 0 6 (nI a')) 9 0 3 (nI (q + 1))) = some (none, σ') ∧ run kX12_token 105 [some (vR 12 0 0)] [] (sI (sI τ 12 0 9 (nI b')) 12 0 7 (nI (q + 1))) = some (none, τ') ∧ ftC σ σ' ∧ ftM τ τ' ∧
          gI σ' 9 0 3 = nI q' ∧ gI τ' 12 0 7 = nI q' ∧ gI σ' 9 0 5 = gI σ 9 0 5 ∧ gI τ' 12 0 8 = gI τ 12 0 8 ∧ gI σ' 9 0 7 = gI σ 9 0 7 ∧ gI τ' 12 0 10 = gI τ 12 0 10 ∧ a'' ≤ 1000000 ∧ b'' ≤ 999999 ∧ gI σ' 9 0 6 = nI a'' ∧ gI τ' 12 0 9 = nI b'' ∧ (a'' = b'' ∨ (99999 < a'' ∧ 99999 < b'')) := by
        intro a' b' y ha' hb' hab'
        have f1 : ftC σ (sI (sI σ 9 0 6 (nI a')) 9 0 3 (nI (q + 1))) := ftC_t (ftC_I (by omega) _) (ftC_I (by omega) _)
        have f2 : ftM τ (sI (sI τ 12 0 9 (nI b')) 12 0 7 (nI (q + 1))) := ftM_t (ftM_I (by omega) _) (ftM_I (by omega) _)
        obtain ⟨q', σ', τ', a'', b'', g1, g2, g3, g4, g5, g6, g7, g8, g9, g10, g11, g12, g13⟩ := num_pair m (q + 1) (by omega) _ _ a' b' y (TZ_f hT f1 f2) rfl rfl ha' hb' rfl rfl hab'
        exact ⟨q', σ', τ', a'', b'', by omega, g2, g3, g4, ftC_t f1 g5, ftM_t f2 g6, g7, g8, g9, g10, g11, g12, g13⟩
      by_cases hb9 : 99999 < b
      · have lb : (99999 : Int32) < nI b := nI_lt (a := 99999) hb9 (by omega)
        have la : ¬ nI (10 * a + (t q - 48)) < 1000000 := nI_nlt (b := 1000000) (by omega) (by omega)
        rw [if_neg la, if_pos lb]
        exact go 1000000 b _ (Nat.le_refl _) hb (Or.inr ⟨by omega, hb9⟩)
      · have lb : ¬ (99999 : Int32) < nI b := nI_nlt (a := 99999) (by omega) (by decide)
        have eab : a = b := by omega
        have la : nI (10 * a + (t q - 48)) < 1000000 := nI_lt (b := 1000000) (by omega) (by decide)
        rw [if_pos la, if_neg lb]
        exact go (10 * a + (t q - 48)) (10 * b + (t q - 48)) _ (by omega) (by omega) (Or.inl (by rw [eab]))
    · have hd' : dgB (t q) = false := Bool.eq_false_iff.mpr hd
      rw [bI_f hd', if_pos rfl, if_pos rfl, bX12_token_140]
      exact ⟨q, σ, τ, a, b, Nat.le_refl _, by omega, rfl, rfl, ftC_0, ftM_0, h3, h7, rfl, rfl, rfl, rfl, ha, hb, h6, h9, hab⟩
/-- Tape.signOf -/
def sgO (x : Int32) : Int32 := (if (x : Int32) = (40 : Int32) then (13 : Int32) else (if (x : Int32) = (41 : Int32) then (14 : Int32) else (if (x : Int32) = (42 : Int32) then (11 : Int32) else (if (x : Int32) = (43 : Int32) then (9 : Int32) else (if (x : Int32) = (44 : Int32) then (-1 : Int32) else (if (x : Int32) = (45 : Int32) then (10 : Int32) else (if (x : Int32) = (46 : Int32) then (-1 : Int32) else (if (x : Int32) = (47 : Int32) then (12 : Int32) else (if (x : Int32) = (48 : Int32) then (-1 : Int32) else (if (x : Int32) = (49 : Int32) then (-1 : Int32) else (if (x : Int32) = (50 : Int32) then (-1 : Int32) else (if (x : Int32) = (51 : Int32) then (-1 : Int32) else (if (x : Int32) = (52 : Int32) then (-1 : Int32) else (if (x : Int32) = (53 : Int32) then (-1 : Int32) else (if (x : Int32) = (54 : Int32) then (-1 : Int32) else (if (x : Int32) = (55 : Int32) then (-1 : Int32) else (if (x : Int32) = (56 : Int32) then (-1 : Int32) else (if (x : Int32) = (57 : Int32) then (-1 : Int32) else (if (x : Int32) = (58 : Int32) then (-1 : Int32) else (if (x : Int32) = (59 : Int32) then (15 : Int32) else (if (x : Int32) = (60 : Int32) then (3 : Int32) else (if (x : Int32) = (61 : Int32) then (5 : Int32) else (if (x : Int32) = (62 : Int32) then (8 : Int32) else (-1 : Int32))))))))))))))))))))))))
theorem e_signOf (σ : ST) (x : Int32) : den 100 [vI x] σ = some (some (vI (sgO x)), σ) := by
  rw [dX9_signOf, bX9_signOf_0]
  unfold sgO
  by_cases h40 : x = 40
  · rw [if_pos h40, if_pos h40]
  rw [if_neg h40, if_neg h40]
  by_cases h41 : x = 41
  · rw [if_pos h41, if_pos h41]
  rw [if_neg h41, if_neg h41]
  by_cases h42 : x = 42
  · rw [if_pos h42, if_pos h42]
  rw [if_neg h42, if_neg h42]
  by_cases h43 : x = 43
  · rw [if_pos h43, if_pos h43]
  rw [if_neg h43, if_neg h43]
  by_cases h44 : x = 44
  · rw [if_pos h44, if_pos h44]
  rw [if_neg h44, if_neg h44]
  by_cases h45 : x = 45
  · rw [if_pos h45, if_pos h45]
  rw [if_neg h45, if_neg h45]
  by_cases h46 : x = 46
  · rw [if_pos h46, if_pos h46]
  rw [if_neg h46, if_neg h46]
  by_cases h47 : x = 47
  · rw [if_pos h47, if_pos h47]
  rw [if_neg h47, if_neg h47]
  by_cases h48 : x = 48
  · rw [if_pos h48, if_pos h48]
  rw [if_neg h48, if_neg h48]
  by_cases h49 : x = 49
  · rw [if_pos h49, if_pos h49]
  rw [if_neg h49, if_neg h49]
  by_cases h50 : x = 50
  · rw [if_pos h50, if_pos h50]
  rw [if_neg h50, if_neg h50]
  by_cases h51 : x = 51
  · rw [if_pos h51, if_pos h51]
  rw [if_neg h51, if_neg h51]
  by_cases h52 : x = 52
  · rw [if_pos h52, if_pos h52]
  rw [if_neg h52, if_neg h52]
  by_cases h53 : x = 53
  · rw [if_pos h53, if_pos h53]
  rw [if_neg h53, if_neg h53]
  by_cases h54 : x = 54
  · rw [if_pos h54, if_pos h54]
  rw [if_neg h54, if_neg h54]
  by_cases h55 : x = 55
  · rw [if_pos h55, if_pos h55]
  rw [if_neg h55, if_neg h55]
  by_cases h56 : x = 56
  · rw [if_pos h56, if_pos h56]
  rw [if_neg h56, if_neg h56]
  by_cases h57 : x = 57
  · rw [if_pos h57, if_pos h57]
  rw [if_neg h57, if_neg h57]
  by_cases h58 : x = 58
  · rw [if_pos h58, if_pos h58]
  rw [if_neg h58, if_neg h58]
  by_cases h59 : x = 59
  · rw [if_pos h59, if_pos h59]
  rw [if_neg h59, if_neg h59]
  by_cases h60 : x = 60
  · rw [if_pos h60, if_pos h60]
  rw [if_neg h60, if_neg h60]
  by_cases h61 : x = 61
  · rw [if_pos h61, if_pos h61]
  rw [if_neg h61, if_neg h61]
  by_cases h62 : x = 62
  · rw [if_pos h62, if_pos h62]
  rw [if_neg h62, if_neg h62]
theorem sgO_t : ∀ b, b < 256 → sgO (sbB b) = if b = 60 then 3 else if b = 62 then 8 else if b = 61 then 5 else if b = 43 then 9 else if b = 45 then 10 else if b = 42 then 11 else if b = 47 then 12 else if b = 40 then 13 else if b = 41 then 14 else if b = 59 then 15 else -1 := by decide +kernel
end TK2
