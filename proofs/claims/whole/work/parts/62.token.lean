/-! TOKENS -/
/-- what a token may change -/
def ftC (σ σ' : ST) : Prop := (∀ c o k, ¬ (c = 9 ∧ (k = 3 ∨ k = 5 ∨ k = 6 ∨ k = 7)) → gI σ' c o k = gI σ c o k) ∧ σ'.2 = σ.2
def ftM (τ τ' : ST) : Prop := (∀ c o k, ¬ (c = 12 ∧ 7 ≤ k ∧ k ≤ 10) → gI τ' c o k = gI τ c o k) ∧ τ'.2 = τ.2
section FT
variable {σ σ' σ'' τ τ' τ'' : ST}
theorem ftC_0 : ftC σ σ := ⟨fun _ _ _ _ => rfl, rfl⟩
theorem ftC_t (h1 : ftC σ σ') (h2 : ftC σ' σ'') : ftC σ σ'' := ⟨fun c o k h => (h2.1 c o k h).trans (h1.1 c o k h), h2.2.trans h1.2⟩
theorem ftC_I {k : Nat} (hk : k = 3 ∨ k = 5 ∨ k = 6 ∨ k = 7) (v : Int32) : ftC σ (sI σ 9 0 k v) := ⟨fun c o k' h => by
  show u3 σ.1 9 0 k v c o k' = _
  unfold u3
  rw [if_neg (fun z => h ⟨z.2.1, by rw [z.1]; exact hk⟩)]
  rfl, rfl⟩
theorem ftM_0 : ftM τ τ := ⟨fun _ _ _ _ => rfl, rfl⟩
theorem ftM_t (h1 : ftM τ τ') (h2 : ftM τ' τ'') : ftM τ τ'' := ⟨fun c o k h => (h2.1 c o k h).trans (h1.1 c o k h), h2.2.trans h1.2⟩
theorem ftM_I {k : Nat} (hk : 7 ≤ k ∧ k ≤ 10) (v : Int32) : ftM τ (sI τ 12 0 k v) := ⟨fun c o k' h => by
  show u3 τ.1 12 0 k v c o k' = _
  unfold u3
  rw [if_neg (fun z => h ⟨z.2.1, by rw [z.1]; exact hk⟩)]
  rfl, rfl⟩
theorem ftC_A (h : ftC σ σ') : gA σ' = gA σ := by
  show σ'.2.2.2.1 = σ.2.2.2.1
  rw [h.2]
theorem ftM_A (h : ftM τ τ') : gA τ' = gA τ := by
  show τ'.2.2.2.1 = τ.2.2.2.1
  rw [h.2]
end FT
/-- the tape that is read: so long, these bytes -/
def TZ (L : Nat) (t : Nat → Nat) (σ τ : ST) : Prop := L ≤ 700 ∧ gI σ 9 0 2 = nI L ∧ gI τ 12 0 6 = nI L ∧ ∀ j, j < L → t j < 256 ∧ gA τ 12 0 0 j = nI (t j) ∧ gA σ 9 0 1 j = sbB (t j)
theorem TZ_f {L : Nat} {t : Nat → Nat} {σ σ' τ τ' : ST} (h : TZ L t σ τ) (hc : ftC σ σ') (hm : ftM τ τ') : TZ L t σ' τ' := by
  refine ⟨h.1, (hc.1 9 0 2 (by decide)).trans h.2.1, (hm.1 12 0 6 (by decide)).trans h.2.2.1, ?_⟩
  rw [ftC_A hc, ftM_A hm]
  exact h.2.2.2
def smB (b : Nat) : Bool := decide (97 ≤ b) && decide (b ≤ 122)
def dgB (b : Nat) : Bool := decide (48 ≤ b) && decide (b ≤ 57)
def wsB (b : Nat) : Bool := decide (b = 10) || decide (b = 32)
theorem by_1 : ∀ b, b < 256 → ((sbB b = 10 ↔ b = 10) ∧ (sbB b = 32 ↔ b = 32)) ∧ ((nI b = 10 ↔ b = 10) ∧ (nI b = 32 ↔ b = 32)) := by decide +kernel
theorem by_2 : ∀ b, b < 256 → (if sbB b < 97 then (0 : Int32) else if 122 < sbB b then 0 else 1) = bI (smB b) ∧ (if nI b < 97 then (0 : Int32) else if 122 < nI b then 0 else 1) = bI (smB b) := by decide +kernel
theorem by_3 : ∀ b, b < 256 → (if sbB b < 48 then (0 : Int32) else if 57 < sbB b then 0 else 1) = bI (dgB b) ∧ (if nI b < 48 then (0 : Int32) else if 57 < nI b then 0 else 1) = bI (dgB b) := by decide +kernel
/-- of those up to the end -/
def atB (p : Nat → Bool) (L : Nat) (t : Nat → Nat) (j : Nat) : Bool := decide (j < L) && p (t j)
section TOK
variable {L : Nat} {t : Nat → Nat} {σ τ : ST}
theorem e_letter (h : TZ L t σ τ) {j : Nat} (hj : j ≤ 700) : den 95 [vR 9 0 0, vI (nI j)] σ = some (some (vI (bI (atB smB L t j))), σ) := by
  obtain ⟨hL, h1, _, h2⟩ := h
  rw [dX9_isLetter, bX9_isLetter_0, h1]
  unfold atB
  by_cases hl : j < L
  · obtain ⟨b1, _, b3⟩ := h2 j hl
    have a1 := ob (i := j) (N := 700) (by omega) (by decide)
    have c1 : (nI j).toNatClampNeg = j := nI_clamp (by omega)
    rw [if_pos (nI_lt hl (by omega)), decide_eq_true hl, Bool.true_and, ← (by_2 (t j) b1).1]
    simp only [c1, a1, ↓reduceIte, b3]
    split
    · rfl
    · split <;> rfl
  · rw [if_neg (nI_nlt (by omega) (by omega)), decide_eq_false hl, Bool.false_and]
    rfl
theorem e_digit (h : TZ L t σ τ) {j : Nat} (hj : j ≤ 700) : den 96 [vR 9 0 0, vI (nI j)] σ = some (some (vI (bI (atB dgB L t j))), σ) := by
  obtain ⟨hL, h1, _, h2⟩ := h
  rw [dX9_isDigit, bX9_isDigit_0, h1]
  unfold atB
  by_cases hl : j < L
  · obtain ⟨b1, _, b3⟩ := h2 j hl
    have a1 := ob (i := j) (N := 700) (by omega) (by decide)
    have c1 : (nI j).toNatClampNeg = j := nI_clamp (by omega)
    rw [if_pos (nI_lt hl (by omega)), decide_eq_true hl, Bool.true_and, ← (by_3 (t j) b1).1]
    simp only [c1, a1, ↓reduceIte, b3]
    split
    · rfl
    · split <;> rfl
  · rw [if_neg (nI_nlt (by omega) (by omega)), decide_eq_false hl, Bool.false_and]
    rfl
theorem m_letter (h : TZ L t σ τ) {j : Nat} (hj : j ≤ 700) : den 169 [vR 12 0 0, vI (nI j)] τ = some (some (vI (bI (atB smB L t j))), τ) := by
  obtain ⟨hL, _, h1, h2⟩ := h
  rw [dX12_isSmall, bX12_isSmall_0, h1]
  unfold atB
  by_cases hl : j < L
  · obtain ⟨b1, b2, _⟩ := h2 j hl
    have a1 := ob (i := j) (N := 700) (by omega) (by decide)
    have c1 : (nI j).toNatClampNeg = j := nI_clamp (by omega)
    rw [if_pos (nI_lt hl (by omega)), decide_eq_true hl, Bool.true_and, ← (by_2 (t j) b1).2]
    simp only [c1, a1, ↓reduceIte, b2]
    split
    · rfl
    · split <;> rfl
  · rw [if_neg (nI_nlt (by omega) (by omega)), decide_eq_false hl, Bool.false_and]
    rfl
theorem m_digit (h : TZ L t σ τ) {j : Nat} (hj : j ≤ 700) : den 170 [vR 12 0 0, vI (nI j)] τ = some (some (vI (bI (atB dgB L t j))), τ) := by
  obtain ⟨hL, _, h1, h2⟩ := h
  rw [dX12_isDigit, bX12_isDigit_0, h1]
  unfold atB
  by_cases hl : j < L
  · obtain ⟨b1, b2, _⟩ := h2 j hl
    have a1 := ob (i := j) (N := 700) (by omega) (by decide)
    have c1 : (nI j).toNatClampNeg = j := nI_clamp (by omega)
    rw [if_pos (nI_lt hl (by omega)), decide_eq_true hl, Bool.true_and, ← (by_3 (t j) b1).2]
    simp only [c1, a1, ↓reduceIte, b2]
    split
    · rfl
    · split <;> rfl
  · rw [if_neg (nI_nlt (by omega) (by omega)), decide_eq_false hl, Bool.false_and]
    rfl
/-- blanks are skipped, in both -/
theorem skip_pair : ∀ (m q : Nat), q + m = L → ∀ (σ τ : ST), TZ L t σ τ → gI σ 9 0 3 = nI q → gI τ 12 0 7 = nI q → ∃ q' σ' τ', q ≤ q' ∧ q' ≤ L ∧ (q' = L ∨ wsB (t q') = false) ∧ run kX9_advance 0 [some (vR 9 0 0)] [] σ = run kX9_advance 0 [some (vR 9 0 0)] [] σ' ∧ run kX12_token 0 [some (vR 12 0 0)] [] τ = run kX12_token 0 [some (vR 12 0 0)] [] τ' ∧ ftC σ σ' ∧ ftM τ τ' ∧ gI σ' 9 0 3 = nI q' ∧ gI τ' 12 0 7 = nI q'
  | 0, q, hm, σ, τ, hT, h3, h7 => ⟨q, σ, τ, Nat.le_refl _, by omega, Or.inl (by omega), rfl, rfl, ftC_0, ftM_0, h3, h7⟩
  | m + 1, q, hm, σ, τ, hT, h3, h7 => by
    obtain ⟨hL, k1, k2, k3⟩ := id hT
    obtain ⟨b1, b2, b3⟩ := k3 q (by omega)
    have hlt : nI q < nI L := nI_lt (by omega) (by omega)
    have a1 := ob (i := q) (N := 700) (by omega) (by decide)
    have c1 : (nI q).toNatClampNeg = q := nI_clamp (by omega)
    obtain ⟨⟨t1, t2⟩, t3, t4⟩ := by_1 (t q) b1
    by_cases hw : wsB (t q) = true
    · have hc : run kX9_advance 0 [some (vR 9 0 0)] [] σ = run kX9_advance 0 [some (vR 9 0 0)] [] (sI σ 9 0 3 (nI (q + 1))) := by
        rw [bX9_advance_0, h3, k1, if_pos hlt]
        simp only [c1, a1, ↓reduceIte, b3, nI_S]
        rw [wsB, Bool.or_eq_true, decide_eq_true_eq, decide_eq_true_eq] at hw
        by_cases e : t q = 10
        · rw [if_pos (t1.mpr e)]
        · rw [if_neg (fun z => e (t1.mp z)), if_pos (t2.mpr (hw.resolve_left e))]
      have hm2 : run kX12_token 0 [some (vR 12 0 0)] [] τ = run kX12_token 0 [some (vR 12 0 0)] [] (sI τ 12 0 7 (nI (q + 1))) := by
        rw [bX12_token_0, h7, k2, if_pos hlt]
        simp only [c1, a1, ↓reduceIte, b2, nI_S]
        rw [wsB, Bool.or_eq_true, decide_eq_true_eq, decide_eq_true_eq] at hw
        by_cases e : t q = 10
        · rw [if_pos (t3.mpr e)]
        · rw [if_neg (fun z => e (t3.mp z)), if_pos (t4.mpr (hw.resolve_left e))]
      have f1 : ftC σ (sI σ 9 0 3 (nI (q + 1))) := ftC_I (Or.inl rfl) _
      have f2 : ftM τ (sI τ 12 0 7 (nI (q + 1))) := ftM_I (by omega) _
      obtain ⟨q', σ', τ', g1, g2, g3, g4, g5, g6, g7, g8, g9⟩ := skip_pair m (q + 1) (by omega) _ _ (TZ_f hT f1 f2) gI_s gI_s
      exact ⟨q', σ', τ', by omega, g2, g3, hc.trans g4, hm2.trans g5, ftC_t f1 g6, ftM_t f2 g7, g8, g9⟩
    · exact ⟨q, σ, τ, Nat.le_refl _, by omega, Or.inr (Bool.eq_false_iff.mpr hw), rfl, rfl, ftC_0, ftM_0, h3, h7⟩
/-- behind the blanks, the class -/
theorem adv_c (h : TZ L t σ τ) {q : Nat} (hq : q ≤ L) (hw : q = L ∨ wsB (t q) = false) (h3 : gI σ 9 0 3 = nI q) : run kX9_advance 0 [some (vR 9 0 0)] [] σ = if q = L then some (none, sI (sI (sI σ 9 0 7 (nI q)) 9 0 6 0) 9 0 5 0) else run kX9_advance 46 [some (vR 9 0 0)] [vI (bI (smB (t q)))] (sI (sI σ 9 0 7 (nI q)) 9 0 6 0) := by
  obtain ⟨hL, k1, k2, k3⟩ := id h
  rw [bX9_advance_0, h3, k1]
  by_cases e : q = L
  · have hlt : ¬ nI q < nI L := nI_nlt (by omega) (by omega)
    rw [if_pos e, if_neg hlt, if_neg hlt, bX9_advance_65]
  · obtain ⟨b1, b2, b3⟩ := k3 q (by omega)
    have hlt : nI q < nI L := nI_lt (by omega) (by omega)
    have a1 := ob (i := q) (N := 700) (by omega) (by decide)
    have c1 : (nI q).toNatClampNeg = q := nI_clamp (by omega)
    obtain ⟨⟨t1, t2⟩, _, _⟩ := by_1 (t q) b1
    have hw' := hw.resolve_left e
    rw [wsB, Bool.or_eq_false_iff, decide_eq_false_iff_not, decide_eq_false_iff_not] at hw'
    have hT : TZ L t (sI (sI σ 9 0 7 (nI q)) 9 0 6 0) τ := TZ_f h (ftC_t (ftC_I (by omega) _) (ftC_I (by omega) _)) ftM_0
    rw [if_neg e, if_pos hlt]
    simp only [c1, a1, ↓reduceIte, b3]
    rw [if_neg (fun z => hw'.1 (t1.mp z)), if_neg (fun z => hw'.2 (t2.mp z)), e_letter hT (by omega), bnd_s, tl_s]
    unfold atB
    rw [decide_eq_true (show q < L by omega), Bool.true_and, if_pos hlt]
theorem adv_m (h : TZ L t σ τ) {q : Nat} (hq : q ≤ L) (hw : q = L ∨ wsB (t q) = false) (h7 : gI τ 12 0 7 = nI q) : run kX12_token 0 [some (vR 12 0 0)] [] τ = if q = L then some (none, sI (sI τ 12 0 10 (nI q)) 12 0 8 0) else run kX12_token 43 [some (vR 12 0 0)] [vI (bI (smB (t q)))] (sI τ 12 0 10 (nI q)) := by
  obtain ⟨hL, k1, k2, k3⟩ := id h
  rw [bX12_token_0, h7, k2]
  by_cases e : q = L
  · have hlt : ¬ nI q < nI L := nI_nlt (by omega) (by omega)
    rw [if_pos e, if_neg hlt, if_pos (by rw [e]), bX12_token_140]
  · obtain ⟨b1, b2, b3⟩ := k3 q (by omega)
    have hlt : nI q < nI L := nI_lt (by omega) (by omega)
    have a1 := ob (i := q) (N := 700) (by omega) (by decide)
    have c1 : (nI q).toNatClampNeg = q := nI_clamp (by omega)
    obtain ⟨_, t1, t2⟩ := by_1 (t q) b1
    have hw' := hw.resolve_left e
    rw [wsB, Bool.or_eq_false_iff, decide_eq_false_iff_not, decide_eq_false_iff_not] at hw'
    have hT : TZ L t σ (sI τ 12 0 10 (nI q)) := TZ_f h ftC_0 (ftM_I (by omega) _)
    have ne : ¬ nI q = nI L := fun z => e ((nI_eq (by omega) (by omega)).mp z)
    rw [if_neg e, if_pos hlt]
    simp only [c1, a1, ↓reduceIte, b2]
    rw [if_neg (fun z => hw'.1 (t1.mp z)), if_neg (fun z => hw'.2 (t2.mp z)), if_neg ne, m_letter hT (by omega), bnd_s, tl_s]
    unfold atB
    rw [decide_eq_true (show q < L by omega), Bool.true_and]
end TOK
