/-! TOKENS: signs -/
section SGN
variable {L : Nat} {t : Nat → Nat} {σ τ : ST}
theorem by_c : ∀ b, b < 256 → ((sbB b = 61 ↔ b = 61) ∧ (sbB b = 62 ↔ b = 62)) ∧ ((nI b = 61 ↔ b = 61) ∧ (nI b = 62 ↔ b = 62)) := by decide +kernel
/-- what stands behind -/
def bhC (L : Nat) (t : Nat → Nat) (q : Nat) : Int32 := if q + 1 < L then sbB (t (q + 1)) else -1
def bhM (L : Nat) (t : Nat → Nat) (q : Nat) : Int32 := if q + 1 < L then nI (t (q + 1)) else 0
theorem rs_c (hT : TZ L t σ τ) {q : Nat} (hq : q < L) (h3 : gI σ 9 0 3 = nI q) {z : Int32} (hz : sgO (sbB (t q)) = z) : den 99 [vR 9 0 0, vI (sbB (t q))] σ = run kX9_readSign 31 [some (vR 9 0 0), some (vI (sbB (t q))), none] [vI (bhC L t q)] (sI (sI (sI σ 9 0 3 (nI (q + 1))) 9 0 6 z) 9 0 5 (if z = -1 then 5 else 4)) := by
  obtain ⟨hL, k1, k2, k3⟩ := id hT
  rw [dX9_readSign, bX9_readSign_0, h3, nI_S, e_signOf, hz, bnd_s, tl_s, bX9_readSign_9]
  have e3 : gI (sI (sI σ 9 0 3 (nI (q + 1))) 9 0 6 z) 9 0 3 = nI (q + 1) := rfl
  have e2 : gI (sI (sI σ 9 0 3 (nI (q + 1))) 9 0 6 z) 9 0 2 = nI L := k1
  have e1 : gA (sI (sI σ 9 0 3 (nI (q + 1))) 9 0 6 z) 9 0 1 = gA σ 9 0 1 := rfl
  have key : ∀ kd : Int32, run kX9_readSign 18 [some (vR 9 0 0), some (vI (sbB (t q))), none] [vI kd, vR 9 0 0] (sI (sI σ 9 0 3 (nI (q + 1))) 9 0 6 z) = run kX9_readSign 31 [some (vR 9 0 0), some (vI (sbB (t q))), none] [vI (bhC L t q)] (sI (sI (sI σ 9 0 3 (nI (q + 1))) 9 0 6 z) 9 0 5 kd) := by
    intro kd
    rw [bX9_readSign_18, e3, e2, e1]
    unfold bhC
    by_cases hl : q + 1 < L
    · have a1 := ob (i := q + 1) (N := 700) (by omega) (by decide)
      have c1 : (nI (q + 1)).toNatClampNeg = q + 1 := nI_clamp (by omega)
      rw [if_pos hl, if_pos (nI_lt hl (by omega))]
      simp only [c1, a1, ↓reduceIte]
      rw [(k3 (q + 1) hl).2.2]
    · rw [if_neg hl, if_neg (nI_nlt (by omega) (by omega))]
  by_cases e : z = -1
  · rw [if_pos e, if_pos e, key]
  · rw [if_neg e, if_neg e, key]
/-- a sign that nothing may follow in -/
theorem rs_s {S : ST} {z w : Int32} {y1 y2 : Option AV} (h6 : gI S 9 0 6 = z) (n3 : ¬ z = 3) (n8 : ¬ z = 8) : run kX9_readSign 31 [some (vR 9 0 0), y1, y2] [vI w] S = some (none, S) := by
  rw [bX9_readSign_31, h6, if_neg n3, bX9_readSign_49, h6, if_neg n3, if_neg n8]
/-- the reference at a sign that compares -/
theorem sm_25 (hT : TZ L t σ τ) {q : Nat} (hq : q < L) (h7 : gI τ 12 0 7 = nI (q + 1)) (y1 y2 y3 : Option AV) : run kX12_signToken 25 [some (vR 12 0 0), y1, y2, y3] [] τ = run kX12_signToken 37 [some (vR 12 0 0), y1, y2, y3] [vI (bhM L t q)] τ := by
  obtain ⟨hL, k1, k2, k3⟩ := id hT
  rw [bX12_signToken_25, h7, k2]
  unfold bhM
  by_cases hl : q + 1 < L
  · have a1 := ob (i := q + 1) (N := 700) (by omega) (by decide)
    have c1 : (nI (q + 1)).toNatClampNeg = q + 1 := nI_clamp (by omega)
    rw [if_pos hl, if_pos (nI_lt hl (by omega))]
    simp only [c1, a1, ↓reduceIte]
    rw [(k3 (q + 1) hl).2.1]
  · rw [if_neg hl, if_neg (nI_nlt (by omega) (by omega))]
/-- behind a sign: the same in both -/
theorem bh_e (hT : TZ L t σ τ) (q : Nat) : (bhC L t q = 61 ↔ bhM L t q = 61) ∧ (bhC L t q = 62 ↔ bhM L t q = 62) ∧ (bhM L t q = 61 → q + 1 < L) ∧ (bhM L t q = 62 → q + 1 < L) := by
  obtain ⟨hL, k1, k2, k3⟩ := id hT
  unfold bhC bhM
  by_cases hl : q + 1 < L
  · rw [if_pos hl, if_pos hl]
    obtain ⟨⟨t1, t2⟩, t3, t4⟩ := by_c (t (q + 1)) (k3 (q + 1) hl).1
    exact ⟨t1.trans t3.symm, t2.trans t4.symm, fun _ => hl, fun _ => hl⟩
  · rw [if_neg hl, if_neg hl]
    exact ⟨by decide, by decide, fun h => absurd h (by decide), fun h => absurd h (by decide)⟩
def sgR (L : Nat) (t : Nat → Nat) (σ τ : ST) (q : Nat) : Prop := ∃ q' σ' τ', q < q' ∧ q' ≤ L ∧ den 99 [vR 9 0 0, vI (sbB (t q))] σ = some (none, σ') ∧ den 172 [vR 12 0 0] τ = some (none, τ') ∧ ftC σ σ' ∧ ftM τ τ' ∧ gI σ' 9 0 3 = nI q' ∧ gI τ' 12 0 7 = nI q' ∧ gI σ' 9 0 7 = gI σ 9 0 7 ∧ gI τ' 12 0 10 = gI τ 12 0 10 ∧ TKN (gI σ' 9 0 5) (gI σ' 9 0 6) (gI τ' 12 0 8) (gI τ' 12 0 9)
theorem fcS (x y z : Int32) : ftC σ (sI (sI (sI σ 9 0 3 x) 9 0 6 y) 9 0 5 z) := ftC_t (ftC_I (by omega) _) (ftC_t (ftC_I (by omega) _) (ftC_I (by omega) _))
theorem fwS2 (x y z w v : Int32) : ftC σ (sI (sI (sI (sI (sI σ 9 0 3 x) 9 0 6 y) 9 0 5 z) 9 0 6 w) 9 0 3 v) := ftC_t (fcS x y z) (ftC_t (ftC_I (by omega) _) (ftC_I (by omega) _))
theorem fwT (x y z : Int32) : ftM τ (sI (sI (sI τ 12 0 9 x) 12 0 7 y) 12 0 8 z) := ftM_t (ftM_I (by omega) _) (ftM_t (ftM_I (by omega) _) (ftM_I (by omega) _))
theorem fwT2 (x y z w : Int32) : ftM τ (sI (sI (sI (sI τ 12 0 9 x) 12 0 7 y) 12 0 8 z) 12 0 9 w) := ftM_t (fwT x y z) (ftM_I (by omega) _)
theorem fwT3 (x y z w v : Int32) : ftM τ (sI (sI (sI (sI (sI τ 12 0 9 x) 12 0 7 y) 12 0 7 z) 12 0 8 w) 12 0 9 v) := ftM_t (ftM_I (by omega) _) (ftM_t (ftM_I (by omega) _) (ftM_t (ftM_I (by omega) _) (ftM_t (ftM_I (by omega) _) (ftM_I (by omega) _))))
theorem sg_43 (hT : TZ L t σ τ) {q : Nat} (hq : q < L) (h3 : gI σ 9 0 3 = nI q) (h7 : gI τ 12 0 7 = nI q) (hb : t q = 43) : sgR L t σ τ q := by
  obtain ⟨hL, k1, k2, k3⟩ := id hT
  have a1 := ob (i := q) (N := 700) (by omega) (by decide)
  have c1 : (nI q).toNatClampNeg = q := nI_clamp (by omega)
  have e0 : gA τ 12 0 0 q = nI 43 := by rw [(k3 q hq).2.1, hb]
  refine ⟨q + 1, sI (sI (sI σ 9 0 3 (nI (q + 1))) 9 0 6 9) 9 0 5 4, sI (sI (sI τ 12 0 9 (nI 43)) 12 0 7 (nI (q + 1))) 12 0 8 4, by omega, by omega, ?_, ?_, fcS _ _ _, fwT _ _ _, rfl, rfl, rfl, rfl, Or.inr (Or.inr (Or.inr (Or.inr (Or.inl ⟨rfl, Or.inr ⟨rfl, 0, by decide, rfl, rfl⟩⟩))))⟩
  · rw [rs_c hT hq h3 (z := 9) (by rw [hb]; decide)]
    exact rs_s (z := 9) rfl (by decide) (by decide)
  · rw [dX12_signToken, bX12_signToken_0, h7]
    simp only [c1, a1, ↓reduceIte, e0, nI_S]
    simp (decide := true) only [↓reduceIte, bX12_signToken_133, bX12_signToken_136, bX12_signToken_143, bX12_signToken_144]
theorem sg_45 (hT : TZ L t σ τ) {q : Nat} (hq : q < L) (h3 : gI σ 9 0 3 = nI q) (h7 : gI τ 12 0 7 = nI q) (hb : t q = 45) : sgR L t σ τ q := by
  obtain ⟨hL, k1, k2, k3⟩ := id hT
  have a1 := ob (i := q) (N := 700) (by omega) (by decide)
  have c1 : (nI q).toNatClampNeg = q := nI_clamp (by omega)
  have e0 : gA τ 12 0 0 q = nI 45 := by rw [(k3 q hq).2.1, hb]
  refine ⟨q + 1, sI (sI (sI σ 9 0 3 (nI (q + 1))) 9 0 6 10) 9 0 5 4, sI (sI (sI τ 12 0 9 (nI 45)) 12 0 7 (nI (q + 1))) 12 0 8 4, by omega, by omega, ?_, ?_, fcS _ _ _, fwT _ _ _, rfl, rfl, rfl, rfl, Or.inr (Or.inr (Or.inr (Or.inr (Or.inl ⟨rfl, Or.inr ⟨rfl, 1, by decide, rfl, rfl⟩⟩))))⟩
  · rw [rs_c hT hq h3 (z := 10) (by rw [hb]; decide)]
    exact rs_s (z := 10) rfl (by decide) (by decide)
  · rw [dX12_signToken, bX12_signToken_0, h7]
    simp only [c1, a1, ↓reduceIte, e0, nI_S]
    simp (decide := true) only [↓reduceIte, bX12_signToken_133, bX12_signToken_136, bX12_signToken_143, bX12_signToken_144]
theorem sg_42 (hT : TZ L t σ τ) {q : Nat} (hq : q < L) (h3 : gI σ 9 0 3 = nI q) (h7 : gI τ 12 0 7 = nI q) (hb : t q = 42) : sgR L t σ τ q := by
  obtain ⟨hL, k1, k2, k3⟩ := id hT
  have a1 := ob (i := q) (N := 700) (by omega) (by decide)
  have c1 : (nI q).toNatClampNeg = q := nI_clamp (by omega)
  have e0 : gA τ 12 0 0 q = nI 42 := by rw [(k3 q hq).2.1, hb]
  refine ⟨q + 1, sI (sI (sI σ 9 0 3 (nI (q + 1))) 9 0 6 11) 9 0 5 4, sI (sI (sI τ 12 0 9 (nI 42)) 12 0 7 (nI (q + 1))) 12 0 8 4, by omega, by omega, ?_, ?_, fcS _ _ _, fwT _ _ _, rfl, rfl, rfl, rfl, Or.inr (Or.inr (Or.inr (Or.inr (Or.inl ⟨rfl, Or.inr ⟨rfl, 2, by decide, rfl, rfl⟩⟩))))⟩
  · rw [rs_c hT hq h3 (z := 11) (by rw [hb]; decide)]
    exact rs_s (z := 11) rfl (by decide) (by decide)
  · rw [dX12_signToken, bX12_signToken_0, h7]
    simp only [c1, a1, ↓reduceIte, e0, nI_S]
    simp (decide := true) only [↓reduceIte, bX12_signToken_133, bX12_signToken_136, bX12_signToken_143, bX12_signToken_144]
theorem sg_47 (hT : TZ L t σ τ) {q : Nat} (hq : q < L) (h3 : gI σ 9 0 3 = nI q) (h7 : gI τ 12 0 7 = nI q) (hb : t q = 47) : sgR L t σ τ q := by
  obtain ⟨hL, k1, k2, k3⟩ := id hT
  have a1 := ob (i := q) (N := 700) (by omega) (by decide)
  have c1 : (nI q).toNatClampNeg = q := nI_clamp (by omega)
  have e0 : gA τ 12 0 0 q = nI 47 := by rw [(k3 q hq).2.1, hb]
  refine ⟨q + 1, sI (sI (sI σ 9 0 3 (nI (q + 1))) 9 0 6 12) 9 0 5 4, sI (sI (sI τ 12 0 9 (nI 47)) 12 0 7 (nI (q + 1))) 12 0 8 4, by omega, by omega, ?_, ?_, fcS _ _ _, fwT _ _ _, rfl, rfl, rfl, rfl, Or.inr (Or.inr (Or.inr (Or.inr (Or.inl ⟨rfl, Or.inr ⟨rfl, 3, by decide, rfl, rfl⟩⟩))))⟩
  · rw [rs_c hT hq h3 (z := 12) (by rw [hb]; decide)]
    exact rs_s (z := 12) rfl (by decide) (by decide)
  · rw [dX12_signToken, bX12_signToken_0, h7]
    simp only [c1, a1, ↓reduceIte, e0, nI_S]
    simp (decide := true) only [↓reduceIte, bX12_signToken_133, bX12_signToken_136, bX12_signToken_143, bX12_signToken_144]
theorem sg_40 (hT : TZ L t σ τ) {q : Nat} (hq : q < L) (h3 : gI σ 9 0 3 = nI q) (h7 : gI τ 12 0 7 = nI q) (hb : t q = 40) : sgR L t σ τ q := by
  obtain ⟨hL, k1, k2, k3⟩ := id hT
  have a1 := ob (i := q) (N := 700) (by omega) (by decide)
  have c1 : (nI q).toNatClampNeg = q := nI_clamp (by omega)
  have e0 : gA τ 12 0 0 q = nI 40 := by rw [(k3 q hq).2.1, hb]
  refine ⟨q + 1, sI (sI (sI σ 9 0 3 (nI (q + 1))) 9 0 6 13) 9 0 5 4, sI (sI (sI τ 12 0 9 (nI 40)) 12 0 7 (nI (q + 1))) 12 0 8 4, by omega, by omega, ?_, ?_, fcS _ _ _, fwT _ _ _, rfl, rfl, rfl, rfl, Or.inr (Or.inr (Or.inr (Or.inr (Or.inl ⟨rfl, Or.inr ⟨rfl, 4, by decide, rfl, rfl⟩⟩))))⟩
  · rw [rs_c hT hq h3 (z := 13) (by rw [hb]; decide)]
    exact rs_s (z := 13) rfl (by decide) (by decide)
  · rw [dX12_signToken, bX12_signToken_0, h7]
    simp only [c1, a1, ↓reduceIte, e0, nI_S]
    simp (decide := true) only [↓reduceIte, bX12_signToken_133, bX12_signToken_136, bX12_signToken_143, bX12_signToken_144]
theorem sg_41 (hT : TZ L t σ τ) {q : Nat} (hq : q < L) (h3 : gI σ 9 0 3 = nI q) (h7 : gI τ 12 0 7 = nI q) (hb : t q = 41) : sgR L t σ τ q := by
  obtain ⟨hL, k1, k2, k3⟩ := id hT
  have a1 := ob (i := q) (N := 700) (by omega) (by decide)
  have c1 : (nI q).toNatClampNeg = q := nI_clamp (by omega)
  have e0 : gA τ 12 0 0 q = nI 41 := by rw [(k3 q hq).2.1, hb]
  refine ⟨q + 1, sI (sI (sI σ 9 0 3 (nI (q + 1))) 9 0 6 14) 9 0 5 4, sI (sI (sI τ 12 0 9 (nI 41)) 12 0 7 (nI (q + 1))) 12 0 8 4, by omega, by omega, ?_, ?_, fcS _ _ _, fwT _ _ _, rfl, rfl, rfl, rfl, Or.inr (Or.inr (Or.inr (Or.inr (Or.inl ⟨rfl, Or.inr ⟨rfl, 5, by decide, rfl, rfl⟩⟩))))⟩
  · rw [rs_c hT hq h3 (z := 14) (by rw [hb]; decide)]
    exact rs_s (z := 14) rfl (by decide) (by decide)
  · rw [dX12_signToken, bX12_signToken_0, h7]
    simp only [c1, a1, ↓reduceIte, e0, nI_S]
    simp (decide := true) only [↓reduceIte, bX12_signToken_133, bX12_signToken_136, bX12_signToken_143, bX12_signToken_144]
theorem sg_59 (hT : TZ L t σ τ) {q : Nat} (hq : q < L) (h3 : gI σ 9 0 3 = nI q) (h7 : gI τ 12 0 7 = nI q) (hb : t q = 59) : sgR L t σ τ q := by
  obtain ⟨hL, k1, k2, k3⟩ := id hT
  have a1 := ob (i := q) (N := 700) (by omega) (by decide)
  have c1 : (nI q).toNatClampNeg = q := nI_clamp (by omega)
  have e0 : gA τ 12 0 0 q = nI 59 := by rw [(k3 q hq).2.1, hb]
  refine ⟨q + 1, sI (sI (sI σ 9 0 3 (nI (q + 1))) 9 0 6 15) 9 0 5 4, sI (sI (sI τ 12 0 9 (nI 59)) 12 0 7 (nI (q + 1))) 12 0 8 4, by omega, by omega, ?_, ?_, fcS _ _ _, fwT _ _ _, rfl, rfl, rfl, rfl, Or.inr (Or.inr (Or.inr (Or.inr (Or.inl ⟨rfl, Or.inr ⟨rfl, 6, by decide, rfl, rfl⟩⟩))))⟩
  · rw [rs_c hT hq h3 (z := 15) (by rw [hb]; decide)]
    exact rs_s (z := 15) rfl (by decide) (by decide)
  · rw [dX12_signToken, bX12_signToken_0, h7]
    simp only [c1, a1, ↓reduceIte, e0, nI_S]
    simp (decide := true) only [↓reduceIte, bX12_signToken_133, bX12_signToken_136, bX12_signToken_143, bX12_signToken_144]
theorem sg_37 (hT : TZ L t σ τ) {q : Nat} (hq : q < L) (h3 : gI σ 9 0 3 = nI q) (h7 : gI τ 12 0 7 = nI q) (hb : t q = 37) : sgR L t σ τ q := by
  obtain ⟨hL, k1, k2, k3⟩ := id hT
  have a1 := ob (i := q) (N := 700) (by omega) (by decide)
  have c1 : (nI q).toNatClampNeg = q := nI_clamp (by omega)
  have e0 : gA τ 12 0 0 q = nI 37 := by rw [(k3 q hq).2.1, hb]
  refine ⟨q + 1, sI (sI (sI σ 9 0 3 (nI (q + 1))) 9 0 6 (-1)) 9 0 5 5, sI (sI (sI τ 12 0 9 (nI 37)) 12 0 7 (nI (q + 1))) 12 0 8 4, by omega, by omega, ?_, ?_, fcS _ _ _, fwT _ _ _, rfl, rfl, rfl, rfl, Or.inr (Or.inr (Or.inr (Or.inr (Or.inr ⟨rfl, Or.inr ⟨rfl, rfl⟩⟩))))⟩
  · rw [rs_c hT hq h3 (z := -1) (by rw [hb]; decide)]
    exact rs_s (z := -1) rfl (by decide) (by decide)
  · rw [dX12_signToken, bX12_signToken_0, h7]
    simp only [c1, a1, ↓reduceIte, e0, nI_S]
    simp (decide := true) only [↓reduceIte, bX12_signToken_133, bX12_signToken_136, bX12_signToken_143, bX12_signToken_144]
theorem sg_no (hT : TZ L t σ τ) {q : Nat} (hq : q < L) (h3 : gI σ 9 0 3 = nI q) (h7 : gI τ 12 0 7 = nI q) (hb : t q ≠ 60 ∧ t q ≠ 62 ∧ t q ≠ 61 ∧ t q ≠ 59 ∧ t q ≠ 40 ∧ t q ≠ 41 ∧ t q ≠ 43 ∧ t q ≠ 45 ∧ t q ≠ 42 ∧ t q ≠ 47 ∧ t q ≠ 37) : sgR L t σ τ q := by
  obtain ⟨hL, k1, k2, k3⟩ := id hT
  obtain ⟨n1, n2, n3, n4, n5, n6, n7, n8, n9, n10, n11⟩ := hb
  have a1 := ob (i := q) (N := 700) (by omega) (by decide)
  have c1 : (nI q).toNatClampNeg = q := nI_clamp (by omega)
  obtain ⟨hb1, e0, _⟩ := k3 q hq
  have ne : ∀ k : Nat, k < 256 → t q ≠ k → ¬ nI (t q) = nI k := fun k hk h z => h ((nI_eq (by omega) (by omega)).mp z)
  have hz : sgO (sbB (t q)) = -1 := by
    rw [sgO_t (t q) hb1, if_neg n1, if_neg n2, if_neg n3, if_neg n7, if_neg n8, if_neg n9, if_neg n10, if_neg n5, if_neg n6, if_neg n4]
  refine ⟨q + 1, sI (sI (sI σ 9 0 3 (nI (q + 1))) 9 0 6 (-1)) 9 0 5 5, sI (sI (sI τ 12 0 9 (nI (t q))) 12 0 7 (nI (q + 1))) 12 0 8 6, by omega, by omega, ?_, ?_, fcS _ _ _, fwT _ _ _, rfl, rfl, rfl, rfl, Or.inr (Or.inr (Or.inr (Or.inr (Or.inr ⟨rfl, Or.inl rfl⟩))))⟩
  · rw [rs_c hT hq h3 (z := -1) hz]
    exact rs_s (z := -1) rfl (by decide) (by decide)
  · rw [dX12_signToken, bX12_signToken_0, h7]
    simp only [c1, a1, ↓reduceIte, e0, nI_S]
    rw [if_neg (show ¬ nI (t q) = 60 from ne 60 (by decide) n1), if_neg (show ¬ nI (t q) = 62 from ne 62 (by decide) n2), if_neg (show ¬ nI (t q) = 61 from ne 61 (by decide) n3), if_neg (show ¬ nI (t q) = 59 from ne 59 (by decide) n4), if_neg (show ¬ nI (t q) = 40 from ne 40 (by decide) n5), if_neg (show ¬ nI (t q) = 41 from ne 41 (by decide) n6), if_neg (show ¬ nI (t q) = 43 from ne 43 (by decide) n7), if_neg (show ¬ nI (t q) = 45 from ne 45 (by decide) n8), if_neg (show ¬ nI (t q) = 42 from ne 42 (by decide) n9), if_neg (show ¬ nI (t q) = 47 from ne 47 (by decide) n10), if_neg (show ¬ nI (t q) = 37 from ne 37 (by decide) n11), bX12_signToken_136, if_pos rfl, bX12_signToken_143, bX12_signToken_144]
theorem sg_60 (hT : TZ L t σ τ) {q : Nat} (hq : q < L) (h3 : gI σ 9 0 3 = nI q) (h7 : gI τ 12 0 7 = nI q) (hb : t q = 60) : sgR L t σ τ q := by
  obtain ⟨hL, k1, k2, k3⟩ := id hT
  have a1 := ob (i := q) (N := 700) (by omega) (by decide)
  have c1 : (nI q).toNatClampNeg = q := nI_clamp (by omega)
  have e0 : gA τ 12 0 0 q = nI 60 := by rw [(k3 q hq).2.1, hb]
  have hT2 : TZ L t σ (sI (sI τ 12 0 9 (nI 60)) 12 0 7 (nI (q + 1))) := TZ_f hT ftC_0 (ftM_t (ftM_I (by omega) _) (ftM_I (by omega) _))
  obtain ⟨e61, e62, l61, l62⟩ := bh_e hT q
  have hcl := rs_c hT hq h3 (z := 3) (by rw [hb]; decide)
  have hre : den 172 [vR 12 0 0] τ = run kX12_signToken 37 [some (vR 12 0 0), none, none, none] [vI (bhM L t q)] (sI (sI τ 12 0 9 (nI 60)) 12 0 7 (nI (q + 1))) := by
    rw [← sm_25 hT2 hq rfl, dX12_signToken, bX12_signToken_0, h7]
    simp only [c1, a1, ↓reduceIte, e0, nI_S]
    simp (decide := true) only [↓reduceIte]
  have w9 : gI (sI (sI τ 12 0 9 (nI 60)) 12 0 7 (nI (q + 1))) 12 0 9 = nI 60 := rfl
  have w7 : gI (sI (sI τ 12 0 9 (nI 60)) 12 0 7 (nI (q + 1))) 12 0 7 = nI (q + 1) := rfl
  have v6 : gI (sI (sI (sI σ 9 0 3 (nI (q + 1))) 9 0 6 3) 9 0 5 (if (3 : Int32) = -1 then 5 else 4)) 9 0 6 = 3 := rfl
  have v3 : gI (sI (sI (sI σ 9 0 3 (nI (q + 1))) 9 0 6 3) 9 0 5 (if (3 : Int32) = -1 then 5 else 4)) 9 0 3 = nI (q + 1) := rfl
  rw [bX9_readSign_31, bX9_readSign_49, v6, v3, nI_S] at hcl
  rw [bX12_signToken_37, w9] at hre
  simp (decide := true) only [↓reduceIte, bX12_signToken_47, bX12_signToken_48, bX12_signToken_58, bX12_signToken_59, bX12_signToken_64, bX12_signToken_70, bX12_signToken_99, bX12_signToken_144, w9, w7, nI_S] at hre hcl
  have x9 : gI (sI (sI (sI τ 12 0 9 (nI 60)) 12 0 7 (nI (q + 1))) 12 0 7 (nI (q + 1 + 1))) 12 0 9 = nI 60 := rfl
  simp (decide := true) only [↓reduceIte, x9] at hre
  by_cases b61 : bhM L t q = 61
  · have := l61 b61
    rw [if_pos (e61.mpr b61)] at hcl
    rw [b61] at hre
    simp (decide := true) only [↓reduceIte] at hre
    exact ⟨q + 2, _, _, by omega, by omega, hcl, hre, fwS2 _ _ _ _ _, fwT3 _ _ _ _ _, rfl, rfl, rfl, rfl, Or.inr (Or.inr (Or.inr (Or.inr (Or.inl ⟨rfl, Or.inl ⟨rfl, 1, by decide, rfl, rfl⟩⟩))))⟩
  · rw [if_neg (fun z => b61 (e61.mp z))] at hcl
    rw [if_neg b61] at hre
    by_cases b62 : bhM L t q = 62
    · have := l62 b62
      rw [if_pos (e62.mpr b62)] at hcl
      rw [if_pos b62] at hre
      exact ⟨q + 2, _, _, by omega, by omega, hcl, hre, fwS2 _ _ _ _ _, fwT3 _ _ _ _ _, rfl, rfl, rfl, rfl, Or.inr (Or.inr (Or.inr (Or.inr (Or.inl ⟨rfl, Or.inl ⟨rfl, 3, by decide, rfl, rfl⟩⟩))))⟩
    · rw [if_neg (fun z => b62 (e62.mp z))] at hcl
      rw [if_neg b62] at hre
      exact ⟨q + 1, _, _, by omega, by omega, hcl, hre, fcS _ _ _, fwT2 _ _ _ _, rfl, rfl, rfl, rfl, Or.inr (Or.inr (Or.inr (Or.inr (Or.inl ⟨rfl, Or.inl ⟨rfl, 0, by decide, rfl, rfl⟩⟩))))⟩
theorem sg_62 (hT : TZ L t σ τ) {q : Nat} (hq : q < L) (h3 : gI σ 9 0 3 = nI q) (h7 : gI τ 12 0 7 = nI q) (hb : t q = 62) : sgR L t σ τ q := by
  obtain ⟨hL, k1, k2, k3⟩ := id hT
  have a1 := ob (i := q) (N := 700) (by omega) (by decide)
  have c1 : (nI q).toNatClampNeg = q := nI_clamp (by omega)
  have e0 : gA τ 12 0 0 q = nI 62 := by rw [(k3 q hq).2.1, hb]
  have hT2 : TZ L t σ (sI (sI τ 12 0 9 (nI 62)) 12 0 7 (nI (q + 1))) := TZ_f hT ftC_0 (ftM_t (ftM_I (by omega) _) (ftM_I (by omega) _))
  obtain ⟨e61, e62, l61, l62⟩ := bh_e hT q
  have hcl := rs_c hT hq h3 (z := 8) (by rw [hb]; decide)
  have hre : den 172 [vR 12 0 0] τ = run kX12_signToken 37 [some (vR 12 0 0), none, none, none] [vI (bhM L t q)] (sI (sI τ 12 0 9 (nI 62)) 12 0 7 (nI (q + 1))) := by
    rw [← sm_25 hT2 hq rfl, dX12_signToken, bX12_signToken_0, h7]
    simp only [c1, a1, ↓reduceIte, e0, nI_S]
    simp (decide := true) only [↓reduceIte]
  have w9 : gI (sI (sI τ 12 0 9 (nI 62)) 12 0 7 (nI (q + 1))) 12 0 9 = nI 62 := rfl
  have w7 : gI (sI (sI τ 12 0 9 (nI 62)) 12 0 7 (nI (q + 1))) 12 0 7 = nI (q + 1) := rfl
  have v6 : gI (sI (sI (sI σ 9 0 3 (nI (q + 1))) 9 0 6 8) 9 0 5 (if (8 : Int32) = -1 then 5 else 4)) 9 0 6 = 8 := rfl
  have v3 : gI (sI (sI (sI σ 9 0 3 (nI (q + 1))) 9 0 6 8) 9 0 5 (if (8 : Int32) = -1 then 5 else 4)) 9 0 3 = nI (q + 1) := rfl
  rw [bX9_readSign_31, bX9_readSign_49, v6, v3, nI_S] at hcl
  rw [bX12_signToken_37, w9] at hre
  simp (decide := true) only [↓reduceIte, bX12_signToken_47, bX12_signToken_48, bX12_signToken_58, bX12_signToken_59, bX12_signToken_64, bX12_signToken_70, bX12_signToken_99, bX12_signToken_144, w9, w7, nI_S] at hre hcl
  have x9 : gI (sI (sI (sI τ 12 0 9 (nI 62)) 12 0 7 (nI (q + 1))) 12 0 7 (nI (q + 1 + 1))) 12 0 9 = nI 62 := rfl
  simp (decide := true) only [↓reduceIte, x9] at hre
  by_cases b61 : bhM L t q = 61
  · have := l61 b61
    rw [if_pos (e61.mpr b61)] at hcl
    rw [if_pos b61] at hre
    exact ⟨q + 2, _, _, by omega, by omega, hcl, hre, fwS2 _ _ _ _ _, fwT3 _ _ _ _ _, rfl, rfl, rfl, rfl, Or.inr (Or.inr (Or.inr (Or.inr (Or.inl ⟨rfl, Or.inl ⟨rfl, 4, by decide, rfl, rfl⟩⟩))))⟩
  · rw [if_neg (fun z => b61 (e61.mp z))] at hcl
    rw [if_neg b61] at hre
    exact ⟨q + 1, _, _, by omega, by omega, hcl, hre, fcS _ _ _, fwT2 _ _ _ _, rfl, rfl, rfl, rfl, Or.inr (Or.inr (Or.inr (Or.inr (Or.inl ⟨rfl, Or.inl ⟨rfl, 5, by decide, rfl, rfl⟩⟩))))⟩
theorem sg_61 (hT : TZ L t σ τ) {q : Nat} (hq : q < L) (h3 : gI σ 9 0 3 = nI q) (h7 : gI τ 12 0 7 = nI q) (hb : t q = 61) : sgR L t σ τ q := by
  obtain ⟨hL, k1, k2, k3⟩ := id hT
  have a1 := ob (i := q) (N := 700) (by omega) (by decide)
  have c1 : (nI q).toNatClampNeg = q := nI_clamp (by omega)
  have e0 : gA τ 12 0 0 q = nI 61 := by rw [(k3 q hq).2.1, hb]
  have hT2 : TZ L t σ (sI (sI τ 12 0 9 (nI 61)) 12 0 7 (nI (q + 1))) := TZ_f hT ftC_0 (ftM_t (ftM_I (by omega) _) (ftM_I (by omega) _))
  obtain ⟨e61, e62, l61, l62⟩ := bh_e hT q
  have hcl := rs_c hT hq h3 (z := 5) (by rw [hb]; decide)
  have hre : den 172 [vR 12 0 0] τ = run kX12_signToken 37 [some (vR 12 0 0), none, none, none] [vI (bhM L t q)] (sI (sI τ 12 0 9 (nI 61)) 12 0 7 (nI (q + 1))) := by
    rw [← sm_25 hT2 hq rfl, dX12_signToken, bX12_signToken_0, h7]
    simp only [c1, a1, ↓reduceIte, e0, nI_S]
    simp (decide := true) only [↓reduceIte]
  have w9 : gI (sI (sI τ 12 0 9 (nI 61)) 12 0 7 (nI (q + 1))) 12 0 9 = nI 61 := rfl
  have w7 : gI (sI (sI τ 12 0 9 (nI 61)) 12 0 7 (nI (q + 1))) 12 0 7 = nI (q + 1) := rfl
  have v6 : gI (sI (sI (sI σ 9 0 3 (nI (q + 1))) 9 0 6 5) 9 0 5 (if (5 : Int32) = -1 then 5 else 4)) 9 0 6 = 5 := rfl
  have v3 : gI (sI (sI (sI σ 9 0 3 (nI (q + 1))) 9 0 6 5) 9 0 5 (if (5 : Int32) = -1 then 5 else 4)) 9 0 3 = nI (q + 1) := rfl
  rw [bX9_readSign_31, bX9_readSign_49, v6, v3, nI_S] at hcl
  rw [bX12_signToken_37, w9] at hre
  simp (decide := true) only [↓reduceIte, bX12_signToken_47, bX12_signToken_48, bX12_signToken_58, bX12_signToken_59, bX12_signToken_64, bX12_signToken_70, bX12_signToken_99, bX12_signToken_144, w9, w7, nI_S] at hre hcl
  exact ⟨q + 1, _, _, by omega, by omega, hcl, hre, fcS _ _ _, fwT2 _ _ _ _, rfl, rfl, rfl, rfl, Or.inr (Or.inr (Or.inr (Or.inr (Or.inl ⟨rfl, Or.inl ⟨rfl, 2, by decide, rfl, rfl⟩⟩))))⟩
/-- a sign, in both -/
theorem sign_pair (hT : TZ L t σ τ) {q : Nat} (hq : q < L) (h3 : gI σ 9 0 3 = nI q) (h7 : gI τ 12 0 7 = nI q) : sgR L t σ τ q := by
  by_cases b60 : t q = 60
  · exact sg_60 hT hq h3 h7 b60
  by_cases b62 : t q = 62
  · exact sg_62 hT hq h3 h7 b62
  by_cases b61 : t q = 61
  · exact sg_61 hT hq h3 h7 b61
  by_cases b59 : t q = 59
  · exact sg_59 hT hq h3 h7 b59
  by_cases b40 : t q = 40
  · exact sg_40 hT hq h3 h7 b40
  by_cases b41 : t q = 41
  · exact sg_41 hT hq h3 h7 b41
  by_cases b43 : t q = 43
  · exact sg_43 hT hq h3 h7 b43
  by_cases b45 : t q = 45
  · exact sg_45 hT hq h3 h7 b45
  by_cases b42 : t q = 42
  · exact sg_42 hT hq h3 h7 b42
  by_cases b47 : t q = 47
  · exact sg_47 hT hq h3 h7 b47
  by_cases b37 : t q = 37
  · exact sg_37 hT hq h3 h7 b37
  exact sg_no hT hq h3 h7 ⟨b60, b62, b61, b59, b40, b41, b43, b45, b42, b47, b37⟩
end SGN
