/-! TOKENS: words -/
def wltL : List Nat := [103, 114, 111, 119, 101, 114, 32, 115, 101, 101, 115, 32, 114, 105, 98, 98, 111, 110, 32, 98, 108, 105, 103, 104, 116, 32, 115, 101, 101, 100, 32, 108, 97, 119, 32, 106, 117, 100, 103, 101, 32, 103, 114, 111, 119, 32, 103, 105, 118, 101, 32, 97, 110, 100, 32, 111, 114, 32, 110, 111, 116, 32, 119, 111, 114, 116, 104, 32, 111, 119, 110, 32, 100, 111, 117, 98, 116, 32, 102, 97, 114, 32, 104, 97, 100, 32, 115, 105, 110, 99, 101, 32, 121, 101, 97, 114, 32]
def wpkL : List Nat := [254270642, 642960384, 613485038, 79994132, 642945024, 404455424, 357702816, 254270464, 245044224, 522190848, 48365568, 486146048, 788091136, 527892480, 150637184, 202964992, 269615104, 647433376, 844154880]
def frmL : List Nat := [0, 7, 12, 19, 26, 31, 35, 41, 46, 51, 55, 58, 62, 68, 72, 78, 82, 86, 92, 97]
def nlnL : List Nat := [6, 4, 6, 6, 4, 3, 5, 4, 4, 3, 2, 3, 5, 3, 5, 3, 3, 5, 4]
def wlt (j : Nat) : Nat := wltL.getD j 0
def wpk (i : Nat) : Nat := wpkL.getD i 0
def frm (k : Nat) : Nat := frmL.getD k 0
def nln (k : Nat) : Nat := nlnL.getD k 0
/-- the words of both -/
def WD (σ τ : ST) : Prop := (∀ i, i < 19 → gA σ 9 0 0 i = nI (wpk i)) ∧ ∀ j, j < 97 → gA τ 12 0 3 j = nI (wlt j)
theorem wd_1 : ∀ k, k < 19 → 0 < nln k ∧ nln k ≤ 6 ∧ frm (k + 1) = frm k + nln k + 1 ∧ frm k + nln k < 97 ∧ wlt (frm k + nln k) = 32 := by decide +kernel
theorem wd_2 : ∀ k, k < 19 → ∀ i, i < nln k → 97 ≤ wlt (frm k + i) ∧ wlt (frm k + i) ≤ 122 := by decide +kernel
theorem wd_3 : ∀ k, k < 19 → wpk (wsw k) < 2 ^ 30 ∧ wsw k < 19 ∧ wsw (wsw k) = k := by decide +kernel
theorem wd_4 : ∀ k, k < 19 → ∀ i, i < 6 → wpk (wsw k) / 32 ^ (5 - i) % 32 = if i < nln k then wlt (frm k + i) - 96 else 0 := by decide +kernel
theorem wd_5 : ∀ i, i < 19 → ∀ j, j < 19 → wpk i = wpk j → i = j := by decide +kernel
theorem nI_or {a b : Nat} (ha : a < 2 ^ 32) (hb : b < 2 ^ 32) : nI a ||| nI b = nI (a ||| b) := by
  apply Int32.toBitVec_inj.mp
  apply BitVec.eq_of_toNat_eq
  rw [Int32.toBitVec_or, BitVec.toNat_or, pk_tn ha, pk_tn hb, pk_tn (Nat.or_lt_two_pow ha hb)]
theorem or_add {P c : Nat} (hc : c < 32) : P * 32 ||| c = P * 32 + c := by
  have := Nat.shiftLeft_add_eq_or_of_lt (i := 5) hc P
  rw [Nat.shiftLeft_eq] at this
  exact this.symm
/-- letters packed -/
def pkN (t : Nat → Nat) (q : Nat) : Nat → Nat
  | 0 => 0
  | k + 1 => pkN t q k * 32 + (t (q + k) - 96)
theorem pkN_lt {t : Nat → Nat} {q : Nat} : ∀ k, (∀ i, i < k → t (q + i) ≤ 122) → pkN t q k < 32 ^ k
  | 0, _ => (by decide : (0 : Nat) < 32 ^ 0)
  | k + 1, h => by
    have h1 := pkN_lt k (fun i hi => h i (by omega))
    have h2 := h k (by omega)
    simp only [pkN]
    rw [Nat.pow_succ]
    omega
/-- where a word ends -/
def weN (t : Nat → Nat) : Nat → Nat → Nat
  | 0, j => j
  | m + 1, j => if smB (t j) = true then weN t m (j + 1) else j
theorem smB_i {b : Nat} : smB b = true ↔ 97 ≤ b ∧ b ≤ 122 := by
  unfold smB
  rw [Bool.and_eq_true, decide_eq_true_eq, decide_eq_true_eq]
theorem weN_p {t : Nat → Nat} {L : Nat} : ∀ (m j : Nat), j + m = L → j ≤ weN t m j ∧ weN t m j ≤ L ∧ ∀ i, j ≤ i → i < weN t m j → 97 ≤ t i ∧ t i ≤ 122
  | 0, j, hm => ⟨Nat.le_refl _, by show j ≤ L; omega, fun i h1 h2 => by have : i < j := h2; omega⟩
  | m + 1, j, hm => by
    simp only [weN]
    by_cases h : smB (t j) = true
    · rw [if_pos h]
      obtain ⟨h1, h2, h3⟩ := weN_p (t := t) (L := L) m (j + 1) (by omega)
      refine ⟨by omega, h2, fun i g1 g2 => ?_⟩
      by_cases e : i = j
      · rw [e]; exact smB_i.mp h
      · exact h3 i (by omega) g2
    · rw [if_neg h]
      exact ⟨Nat.le_refl _, by omega, fun i g1 g2 => by omega⟩
section WRD
variable {L : Nat} {t : Nat → Nat}
/-- Tape.readWord, to the word's end -/
theorem rw_c {q : Nat} : ∀ (m j : Nat), j + m = L → q ≤ j → ∀ (σ τ : ST) (x : Int32) (y2 y3 : Option AV), TZ L t σ τ → gI σ 9 0 3 = nI j → (∀ i, q ≤ i → i < j → 97 ≤ t i ∧ t i ≤ 122) → (j - q ≤ 6 → x = nI (pkN t q (j - q))) → ∃ σ' x', ftC σ σ' ∧ gI σ' 9 0 3 = nI (weN t m j) ∧ gI σ' 9 0 7 = gI σ 9 0 7 ∧ (weN t m j - q ≤ 6 → x' = nI (pkN t q (weN t m j - q))) ∧
    run kX9_readWord 2 [some (vR 9 0 0), some (vI x), y2, y3] [] σ = (if (6 : Int32) < nI (weN t m j) - gI σ 9 0 7 then some (none, sI σ' 9 0 5 5) else run kX9_readWord 60 [some (vR 9 0 0), some (vI x'), some (vI (nI (weN t m j) - gI σ 9 0 7)), some (vI 0)] [] (sI (sI σ' 9 0 5 2) 9 0 6 (x' <<< ((5 * (6 - (nI (weN t m j) - gI σ 9 0 7))) &&& 31))))
  | 0, j, hm, hq, σ, τ, x, y2, y3, hT, h3, hl, hx => by
    obtain ⟨hL, k1, k2, k3⟩ := id hT
    have hlt : ¬ nI j < nI L := nI_nlt (by omega) (by omega)
    refine ⟨σ, x, ftC_0, h3, rfl, hx, ?_⟩
    rw [bX9_readWord_2, h3, k1, if_neg hlt]
    rfl
  | m + 1, j, hm, hq, σ, τ, x, y2, y3, hT, h3, hl, hx => by
    obtain ⟨hL, k1, k2, k3⟩ := id hT
    have hlt : nI j < nI L := nI_lt (by omega) (by omega)
    have a1 := ob (i := j) (N := 700) (by omega) (by decide)
    have c1 : (nI j).toNatClampNeg = j := nI_clamp (by omega)
    obtain ⟨b1, b2, b3⟩ := k3 j (by omega)
    have ed : atB smB L t j = smB (t j) := by
      unfold atB
      rw [decide_eq_true (show j < L by omega), Bool.true_and]
    rw [bX9_readWord_2, h3, k1, if_pos hlt, e_letter hT (by omega), bnd_s, tl_s, bX9_readWord_11, ed, h3]
    simp only [c1, a1, ↓reduceIte, nI_S]
    by_cases h : smB (t j) = true
    · have hw : weN t (m + 1) j = weN t m (j + 1) := by
        simp only [weN]
        rw [if_pos h]
      have hb := smB_i.mp h
      have f1 : ftC σ (sI σ 9 0 3 (nI (j + 1))) := ftC_I (by omega) _
      rw [bI_t h, if_neg i10, hw]
      obtain ⟨σ', x', g1, g2, g3, g4, g5⟩ := rw_c (q := q) m (j + 1) (by omega) (by omega) (sI σ 9 0 3 (nI (j + 1))) τ (x <<< ((5 : Int32) &&& 31) ||| (gA σ 9 0 1 j - 97 + 1)) y2 y3 (TZ_f hT f1 ftM_0) rfl (fun i h1 h2 => by
        by_cases e : i = j
        · rw [e]; exact hb
        · exact hl i h1 (by omega)) (fun hle => by
        have hx' := hx (by omega)
        have e1 : gA σ 9 0 1 j - 97 + 1 = nI (t j - 96) := by
          rw [b3, sb_lo _ (by omega)]
          have : nI (t j) - 97 = nI (t j - 97) := pk_sub (b := 97) hb.1
          rw [this, nI_S, show t j - 97 + 1 = t j - 96 by omega]
        have hP := pkN_lt (t := t) (q := q) (j - q) (fun i hi => (hl (q + i) (by omega) (by omega)).2)
        have hP25 : pkN t q (j - q) < 2 ^ 25 := Nat.lt_of_lt_of_le hP (by
          have : 32 ^ (j - q) ≤ 32 ^ 5 := Nat.pow_le_pow_right (by decide) (by omega)
          exact this)
        have e2 : nI (pkN t q (j - q)) <<< ((5 : Int32) &&& 31) = nI (pkN t q (j - q) * 32) := pk_shlN _ 5 (by decide) (by omega)
        rw [hx', e1, e2, nI_or (by omega) (by omega), or_add (by omega), show j + 1 - q = (j - q) + 1 by omega]
        simp only [pkN]
        rw [show q + (j - q) = j by omega])
      exact ⟨σ', x', ftC_t f1 g1, g2, g3, g4, g5⟩
    · have hw : weN t (m + 1) j = j := by
        simp only [weN]
        rw [if_neg h]
      rw [bI_f (Bool.eq_false_iff.mpr h), if_pos rfl, hw]
      exact ⟨σ, x, ftC_0, h3, rfl, hx, rfl⟩
/-- the reference, to the word's end -/
theorem rw_m : ∀ (m j : Nat), j + m = L → ∀ (σ τ : ST), TZ L t σ τ → gI τ 12 0 7 = nI j → ∃ τ', ftM τ τ' ∧ gI τ' 12 0 7 = nI (weN t m j) ∧ gI τ' 12 0 10 = gI τ 12 0 10 ∧ run kX12_token 44 [some (vR 12 0 0)] [] τ = (bnd (den 168 [vR 12 0 0, vI (gI τ' 12 0 10), vI (gI τ' 12 0 7)] τ') fun v τ => run kX12_token 63 [some (vR 12 0 0)] (v.toList ++ [vR 12 0 0]) τ)
  | 0, j, hm, σ, τ, hT, h7 => by
    obtain ⟨hL, k1, k2, k3⟩ := id hT
    have hd : atB smB L t j = false := by
      unfold atB
      rw [decide_eq_false (show ¬ j < L by omega), Bool.false_and]
    refine ⟨τ, ftM_0, h7, rfl, ?_⟩
    rw [bX12_token_44, h7, m_letter hT (by omega), bnd_s, tl_s, bX12_token_48, bI_f hd, if_pos rfl, h7]
  | m + 1, j, hm, σ, τ, hT, h7 => by
    obtain ⟨hL, k1, k2, k3⟩ := id hT
    have ed : atB smB L t j = smB (t j) := by
      unfold atB
      rw [decide_eq_true (show j < L by omega), Bool.true_and]
    rw [bX12_token_44, h7, m_letter hT (by omega), bnd_s, tl_s, bX12_token_48, ed, h7]
    by_cases h : smB (t j) = true
    · have hw : weN t (m + 1) j = weN t m (j + 1) := by
        simp only [weN]
        rw [if_pos h]
      have f1 : ftM τ (sI τ 12 0 7 (nI (j + 1))) := ftM_I (by omega) _
      obtain ⟨τ', g1, g2, g3, g4⟩ := rw_m m (j + 1) (by omega) σ _ (TZ_f hT ftC_0 f1) rfl
      rw [bI_t h, if_neg i10, hw, nI_S]
      exact ⟨τ', ftM_t f1 g1, g2, g3, g4⟩
    · have hw : weN t (m + 1) j = j := by
        simp only [weN]
        rw [if_neg h]
      rw [bI_f (Bool.eq_false_iff.mpr h), if_pos rfl, hw]
      exact ⟨τ, ftM_0, h7, rfl, by rw [h7]⟩
end WRD
