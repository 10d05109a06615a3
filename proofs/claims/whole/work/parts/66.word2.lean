/-! TOKENS: which word -/
/-- the letters of word k stand there -/
def alE (f g : Nat → Nat) : Nat → Nat → Bool
  | 0, _ => true
  | m + 1, i => if f i = g i then alE f g m (i + 1) else false
theorem alE_i {f g : Nat → Nat} {N : Nat} : ∀ (m i : Nat), i + m = N → (alE f g m i = true ↔ ∀ j, i ≤ j → j < N → f j = g j)
  | 0, i, hm => ⟨fun _ j h1 h2 => by omega, fun _ => rfl⟩
  | m + 1, i, hm => by
    simp only [alE]
    by_cases h : f i = g i
    · rw [if_pos h, alE_i (N := N) m (i + 1) (by omega)]
      constructor
      · intro hh j h1 h2
        by_cases e : j = i
        · rw [e]; exact h
        · exact hh j (by omega) h2
      · intro hh j h1 h2
        exact hh j (by omega) h2
    · rw [if_neg h]
      exact ⟨fun z => (ffT z).elim, fun hh => absurd (hh i (Nat.le_refl _) (by omega)) h⟩
def mtB (t : Nat → Nat) (q l k : Nat) : Bool := decide (nln k = l) && alE (fun i => wlt (frm k + i)) (fun i => t (q + i)) (nln k) 0
section WR2
variable {L : Nat} {t : Nat → Nat} {σ τ : ST}
theorem wa_32 (hT : TZ L t σ τ) (hW : WD σ τ) {q e k : Nat} (hk : k < 19) (he : e ≤ L) (hq : q ≤ e) : ∀ (m i : Nat), i + m = nln k → nln k = e - q → ∃ y5 y6 y7, run kX12_wordAt 32 [some (vR 12 0 0), some (vI (nI q)), some (vI (nI e)), some (vI (nI k)), some (vI (nI (frm k))), some (vI (nI (nln k))), some (vI 1), some (vI (nI i))] [] τ =
    (if alE (fun i => wlt (frm k + i)) (fun i => t (q + i)) m i = true then some (some (vI (nI k)), τ) else run kX12_wordAt 4 [some (vR 12 0 0), some (vI (nI q)), some (vI (nI e)), some (vI (nI (k + 1))), some (vI (nI (frm (k + 1)))), y5, y6, y7] [] τ)
  | 0, i, hm, hl => by
    obtain ⟨w1, w2, w3, w4, w5⟩ := wd_1 k hk
    have hlt : ¬ nI i < nI (nln k) := nI_nlt (by omega) (by omega)
    exact ⟨none, none, none, by rw [bX12_wordAt_32, if_neg hlt, if_neg i10]; rfl⟩
  | m + 1, i, hm, hl => by
    obtain ⟨hL, k1, k2, k3⟩ := id hT
    obtain ⟨w1, w2, w3, w4, w5⟩ := wd_1 k hk
    have hlt : nI i < nI (nln k) := nI_lt (by omega) (by omega)
    have a1 := ob (i := frm k + i) (N := 97) (by omega) (by decide)
    have c1 : (nI (frm k + i)).toNatClampNeg = frm k + i := nI_clamp (by omega)
    have a2 := ob (i := q + i) (N := 700) (by omega) (by decide)
    have c2 : (nI (q + i)).toNatClampNeg = q + i := nI_clamp (by omega)
    obtain ⟨b1, b2, _⟩ := k3 (q + i) (by omega)
    have hwl := (wd_2 k hk i (by omega)).2
    rw [bX12_wordAt_32, if_pos hlt, if_neg i10, nI_add, nI_add]
    simp only [c1, a1, c2, a2, ↓reduceIte, hW.2 (frm k + i) (by omega), b2, nI_S]
    by_cases h : wlt (frm k + i) = t (q + i)
    · have ea : alE (fun i => wlt (frm k + i)) (fun i => t (q + i)) (m + 1) i = alE (fun i => wlt (frm k + i)) (fun i => t (q + i)) m (i + 1) := by
        simp only [alE]
        rw [if_pos h]
      rw [if_pos (by rw [h]), ea]
      exact wa_32 hT hW hk he hq m (i + 1) (by omega) hl
    · have ea : ¬ alE (fun i => wlt (frm k + i)) (fun i => t (q + i)) (m + 1) i = true := by
        simp only [alE]
        rw [if_neg h]
        exact ffT
      rw [if_neg (fun z => h ((nI_eq (by omega) (by omega)).mp z))]
      simp only [if_neg ea]
      rw [bX12_wordAt_32, if_pos rfl, if_pos rfl, nI_S]
      have e1 : nI (frm k) + nI (nln k + 1) = nI (frm (k + 1)) := by rw [nI_add, w3]; rfl
      rw [nI_S, e1, ite_self]
      exact ⟨_, _, _, rfl⟩
theorem wa_11 (hT : TZ L t σ τ) (hW : WD σ τ) {q e k : Nat} (hk : k < 19) (he : e ≤ L) (hq : q ≤ e) (y6 y7 : Option AV) : ∀ (m i : Nat), i + m = nln k → run kX12_wordAt 11 [some (vR 12 0 0), some (vI (nI q)), some (vI (nI e)), some (vI (nI k)), some (vI (nI (frm k))), some (vI (nI i)), y6, y7] [] τ =
    (if nln k = e - q then run kX12_wordAt 32 [some (vR 12 0 0), some (vI (nI q)), some (vI (nI e)), some (vI (nI k)), some (vI (nI (frm k))), some (vI (nI (nln k))), some (vI 1), some (vI 0)] [] τ else run kX12_wordAt 32 [some (vR 12 0 0), some (vI (nI q)), some (vI (nI e)), some (vI (nI k)), some (vI (nI (frm k))), some (vI (nI (nln k))), some (vI 0), some (vI 0)] [] τ)
  | 0, i, hm => by
    obtain ⟨hL, _⟩ := id hT
    obtain ⟨w1, w2, w3, w4, w5⟩ := wd_1 k hk
    have hi : i = nln k := by omega
    subst hi
    have a1 := ob (i := frm k + nln k) (N := 97) (by omega) (by decide)
    have c1 : (nI (frm k + nln k)).toNatClampNeg = frm k + nln k := nI_clamp (by omega)
    have e2 : nI e - nI q = nI (e - q) := pk_sub hq
    rw [bX12_wordAt_11, nI_add, e2]
    simp only [c1, a1, ↓reduceIte, hW.2 (frm k + nln k) w4, w5]
    rw [if_pos (show nI 32 = 32 from rfl)]
    by_cases h : nln k = e - q
    · rw [if_pos h, if_pos (by rw [h])]
    · rw [if_neg h, if_neg (fun z => h ((nI_eq (by omega) (by omega)).mp z))]
  | m + 1, i, hm => by
    obtain ⟨w1, w2, w3, w4, w5⟩ := wd_1 k hk
    have a1 := ob (i := frm k + i) (N := 97) (by omega) (by decide)
    have c1 : (nI (frm k + i)).toNatClampNeg = frm k + i := nI_clamp (by omega)
    obtain ⟨v1, v2⟩ := wd_2 k hk i (by omega)
    have n32 : ¬ nI (wlt (frm k + i)) = 32 := fun z => by
      have := (nI_eq (a := wlt (frm k + i)) (b := 32) (by omega) (by decide)).mp z
      omega
    rw [bX12_wordAt_11, nI_add]
    simp only [c1, a1, ↓reduceIte, hW.2 (frm k + i) (by omega), nI_S]
    rw [if_neg n32]
    exact wa_11 hT hW hk he hq y6 y7 m (i + 1) (by omega)
theorem wa_4 (hT : TZ L t σ τ) (hW : WD σ τ) {q e : Nat} (he : e ≤ L) (hq : q ≤ e) : ∀ (m k : Nat), k + m = 19 → ∀ (y5 y6 y7 : Option AV), run kX12_wordAt 4 [some (vR 12 0 0), some (vI (nI q)), some (vI (nI e)), some (vI (nI k)), some (vI (nI (frm k))), y5, y6, y7] [] τ = some (some (vI (match fs1 (mtB t q (e - q)) m k with
      | some j => nI j
      | none => -1)), τ)
  | 0, k, hm, y5, y6, y7 => by
    have hk : k = 19 := by omega
    subst hk
    rw [bX12_wordAt_4, if_neg (show ¬ nI (frm 19) < 97 by decide)]
    rfl
  | m + 1, k, hm, y5, y6, y7 => by
    have hk : k < 19 := by omega
    obtain ⟨w1, w2, w3, w4, w5⟩ := wd_1 k hk
    have hlt : nI (frm k) < 97 := nI_lt (b := 97) (by omega) (by decide)
    have h11 := wa_11 hT hW hk he hq y6 y7 (nln k) 0 (by omega)
    rw [nI_0] at h11
    rw [bX12_wordAt_4, if_pos hlt, h11]
    simp only [fs1]
    by_cases h : nln k = e - q
    · obtain ⟨z5, z6, z7, h32⟩ := wa_32 hT hW hk he hq (nln k) 0 (by omega) h
      rw [nI_0] at h32
      rw [if_pos h, h32]
      have em : mtB t q (e - q) k = alE (fun i => wlt (frm k + i)) (fun i => t (q + i)) (nln k) 0 := by
        unfold mtB
        rw [decide_eq_true h, Bool.true_and]
      by_cases ha : alE (fun i => wlt (frm k + i)) (fun i => t (q + i)) (nln k) 0 = true
      · rw [if_pos ha, if_pos (em.trans ha)]
      · rw [if_neg ha, if_neg (fun z => ha (em.symm.trans z))]
        exact wa_4 hT hW he hq m (k + 1) (by omega) _ _ _
    · have em : ¬ mtB t q (e - q) k = true := by
        unfold mtB
        rw [decide_eq_false h, Bool.false_and]
        exact ffT
      have e1 : nI (frm k) + nI (nln k + 1) = nI (frm (k + 1)) := by rw [nI_add, w3]; rfl
      rw [if_neg h, if_neg em, bX12_wordAt_32, if_pos rfl, if_pos rfl, nI_S, nI_S, e1, ite_self]
      exact wa_4 hT hW he hq m (k + 1) (by omega) _ _ _
theorem m_wordAt (hT : TZ L t σ τ) (hW : WD σ τ) {q e : Nat} (he : e ≤ L) (hq : q ≤ e) : den 168 [vR 12 0 0, vI (nI q), vI (nI e)] τ = some (some (vI (match fs1 (mtB t q (e - q)) 19 0 with
      | some j => nI j
      | none => -1)), τ) := by
  have := wa_4 hT hW he hq 19 0 (by decide) none none none
  rw [dX12_wordAt, bX12_wordAt_0]
  exact this
/-- the class's words -/
theorem tb_loop (hW : WD σ τ) : ∀ (m i : Nat), i + m = 19 → ∀ (S : ST) (V : Int32) (y1 y2 : Option AV), gA S 9 0 0 = gA σ 9 0 0 → gI S 9 0 5 = 2 → gI S 9 0 6 = V → ∃ S', run kX9_readWord 60 [some (vR 9 0 0), y1, y2, some (vI (nI i))] [] S = some (none, S') ∧ ftC S S' ∧ gI S' 9 0 3 = gI S 9 0 3 ∧ gI S' 9 0 7 = gI S 9 0 7 ∧
    (match fs1 (fun i => decide (nI (wpk i) = V)) m i with
      | some j => gI S' 9 0 5 = 3 ∧ gI S' 9 0 6 = nI j
      | none => gI S' 9 0 5 = 2 ∧ gI S' 9 0 6 = V)
  | 0, i, hm, S, V, y1, y2, hA, h5, h6 => by
    have hi : i = 19 := by omega
    subst hi
    exact ⟨S, by rw [bX9_readWord_60, if_neg (show ¬ nI 19 < 19 by decide)], ftC_0, rfl, rfl, h5, h6⟩
  | m + 1, i, hm, S, V, y1, y2, hA, h5, h6 => by
    have hlt : nI i < 19 := nI_lt (b := 19) (by omega) (by decide)
    have a1 := ob (i := i) (N := 19) (by omega) (by decide)
    have c1 : (nI i).toNatClampNeg = i := nI_clamp (by omega)
    -- behind a word nothing is found any more
    have rest : ∀ (m i : Nat), i + m = 19 → ∀ (S : ST) (y1 y2 : Option AV), gI S 9 0 5 = 3 → run kX9_readWord 60 [some (vR 9 0 0), y1, y2, some (vI (nI i))] [] S = some (none, S) := by
      intro m
      induction m with
      | zero =>
        intro i hi S y1 y2 h
        have hi : i = 19 := by omega
        subst hi
        rw [bX9_readWord_60, if_neg (show ¬ nI 19 < 19 by decide)]
      | succ m ih =>
        intro i hi S y1 y2 h
        rw [bX9_readWord_60, if_pos (show nI i < 19 from nI_lt (b := 19) (by omega) (by decide)), h, if_neg (by decide), nI_S]
        exact ih (i + 1) (by omega) S _ _ h
    rw [bX9_readWord_60, if_pos hlt, h5, if_pos rfl, hA, h6]
    simp only [c1, a1, ↓reduceIte, hW.1 i (by omega), nI_S, fs1]
    by_cases h : nI (wpk i) = V
    · have hd : decide (nI (wpk i) = V) = true := decide_eq_true h
      rw [if_pos h, if_pos hd, rest m (i + 1) (by omega) _ _ _ rfl]
      exact ⟨_, rfl, ftC_t (ftC_I (by omega) _) (ftC_I (by omega) _), rfl, rfl, rfl, rfl⟩
    · have hd : ¬ decide (nI (wpk i) = V) = true := fun z => h (of_decide_eq_true z)
      rw [if_neg h, if_neg hd]
      exact tb_loop hW m (i + 1) (by omega) S V _ _ hA h5 h6
/-- packed letters, and the word that they are -/
theorem dig_6 {t : Nat → Nat} {q l : Nat} (hl : l ≤ 6) (h : ∀ i, i < l → 97 ≤ t (q + i) ∧ t (q + i) ≤ 122) : pkN t q l * 32 ^ (6 - l) < 2 ^ 30 ∧ ∀ i, i < 6 → pkN t q l * 32 ^ (6 - l) / 32 ^ (5 - i) % 32 = if i < l then t (q + i) - 96 else 0 := by
  have h0 := fun (hh : 0 < l) => h 0 hh
  have h1 := fun (hh : 1 < l) => h 1 hh
  have h2 := fun (hh : 2 < l) => h 2 hh
  have h3 := fun (hh : 3 < l) => h 3 hh
  have h4 := fun (hh : 4 < l) => h 4 hh
  have h5 := fun (hh : 5 < l) => h 5 hh
  have hl' : l = 0 ∨ l = 1 ∨ l = 2 ∨ l = 3 ∨ l = 4 ∨ l = 5 ∨ l = 6 := by omega
  have i6 : ∀ i, i < 6 → i = 0 ∨ i = 1 ∨ i = 2 ∨ i = 3 ∨ i = 4 ∨ i = 5 := fun i hi => by omega
  rcases hl' with rfl | rfl | rfl | rfl | rfl | rfl | rfl
  all_goals
    simp only [pkN, Nat.reduceSub, Nat.reducePow]
    refine ⟨by omega, fun i hi => ?_⟩
    rcases i6 i hi with rfl | rfl | rfl | rfl | rfl | rfl
  all_goals
    simp (decide := true) only [Nat.reduceSub, Nat.reducePow, ↓reduceIte]
    try omega
end WR2
