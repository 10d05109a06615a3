/-! TOKENS: all kinds together -/
theorem fs1_p {P : Nat → Bool} : ∀ (m i j : Nat), fs1 P m i = some j → P j = true
  | 0, _, _, h => by simp only [fs1] at h; cases h
  | m + 1, i, j, h => by
    simp only [fs1] at h
    by_cases hp : P i = true
    · rw [if_pos hp] at h
      injection h with h
      rw [← h]; exact hp
    · rw [if_neg hp] at h
      exact fs1_p m (i + 1) j h
section TKA
variable {L : Nat} {t : Nat → Nat} {σ τ : ST}
/-- a word's letters say the same as its number -/
theorem mt_w {q l k : Nat} (hl : l ≤ 6) (h : ∀ i, i < l → 97 ≤ t (q + i) ∧ t (q + i) ≤ 122) (hk : k < 19) : mtB t q l k = true ↔ wpk (wsw k) = pkN t q l * 32 ^ (6 - l) := by
  obtain ⟨d1, d2⟩ := dig_6 hl h
  obtain ⟨v1, _, _⟩ := wd_3 k hk
  have v4 := wd_4 k hk
  obtain ⟨w1, w2, _⟩ := wd_1 k hk
  have w6 := wd_2 k hk
  generalize hW : pkN t q l * 32 ^ (6 - l) = W at d1 d2
  generalize hV : wpk (wsw k) = V at v1 v4
  have same : V = W ↔ ∀ i, i < 6 → V / 32 ^ (5 - i) % 32 = W / 32 ^ (5 - i) % 32 := by
    constructor
    · intro e i _
      rw [e]
    · intro hh
      have h0 := hh 0 (by decide)
      have h1 := hh 1 (by decide)
      have h2 := hh 2 (by decide)
      have h3 := hh 3 (by decide)
      have h4 := hh 4 (by decide)
      have h5 := hh 5 (by decide)
      simp only [Nat.reduceSub, Nat.reducePow, Nat.div_one] at h0 h1 h2 h3 h4 h5
      omega
  rw [same]
  unfold mtB
  rw [Bool.and_eq_true, decide_eq_true_eq, alE_i (N := nln k) (nln k) 0 (by omega)]
  constructor
  · rintro ⟨e, hh⟩ i hi
    rw [v4 i hi, d2 i hi, e]
    by_cases hil : i < l
    · rw [if_pos hil, if_pos hil, hh i (Nat.zero_le _) (by omega)]
    · rw [if_neg hil, if_neg hil]
  · intro hh
    have hd : ∀ i, i < 6 → (if i < nln k then wlt (frm k + i) - 96 else 0) = if i < l then t (q + i) - 96 else 0 := fun i hi => by
      rw [← v4 i hi, ← d2 i hi]
      exact hh i hi
    have e : nln k = l := by
      rcases Nat.lt_trichotomy (nln k) l with g | g | g
      · have := hd (nln k) (by omega)
        rw [if_neg (Nat.lt_irrefl _), if_pos g] at this
        have := h (nln k) g
        omega
      · exact g
      · have := hd l (by omega)
        rw [if_pos g, if_neg (Nat.lt_irrefl _)] at this
        have := w6 l g
        omega
    refine ⟨e, fun j _ hj => ?_⟩
    have := hd j (by omega)
    rw [if_pos hj, if_pos (by omega)] at this
    have g1 := w6 j hj
    have g2 := h j (by omega)
    omega
/-- the reference packs a name -/
theorem pck_loop (hT : TZ L t σ τ) {q e : Nat} (he : e ≤ L) (hq : q ≤ e) (hle : e - q ≤ 6) (hl : ∀ i, i < e - q → 97 ≤ t (q + i) ∧ t (q + i) ≤ 122) : ∀ (m k : Nat), k + m = 6 → run kX12_packed 4 [some (vR 12 0 0), some (vI (nI q)), some (vI (nI e)), some (vI (nI (if k ≤ e - q then pkN t q k else pkN t q (e - q) * 32 ^ (k - (e - q))))), some (vI (nI (q + k)))] [] τ = some (some (vI (nI (pkN t q (e - q) * 32 ^ (6 - (e - q))))), τ)
  | 0, k, hm => by
    obtain ⟨hL, _⟩ := id hT
    have hk : k = 6 := by omega
    subst hk
    have e6 : nI q + 6 = nI (q + 6) := nI_add q 6
    have hlt : ¬ nI (q + 6) < nI (q + 6) := nI_nlt (Nat.le_refl _) (by omega)
    rw [bX12_packed_4, e6, if_neg hlt]
    by_cases h : 6 ≤ e - q
    · have : e - q = 6 := by omega
      rw [if_pos h, this]
      simp
    · rw [if_neg h]
  | m + 1, k, hm => by
    obtain ⟨hL, k1, k2, k3⟩ := id hT
    have e6 : nI q + 6 = nI (q + 6) := nI_add q 6
    have hlt : nI (q + k) < nI (q + 6) := nI_lt (by omega) (by omega)
    have ih := pck_loop hT he hq hle hl m (k + 1) (by omega)
    rw [bX12_packed_4, e6, if_pos hlt, nI_S]
    by_cases h : k < e - q
    · have a1 := ob (i := q + k) (N := 700) (by omega) (by decide)
      have c1 : (nI (q + k)).toNatClampNeg = q + k := nI_clamp (by omega)
      obtain ⟨b1, b2, _⟩ := k3 (q + k) (by omega)
      have hb := hl k h
      have hP := pkN_lt (t := t) (q := q) k (fun i hi => (hl i (by omega)).2)
      have hP25 : pkN t q k < 2 ^ 25 := Nat.lt_of_lt_of_le hP (by
        have : 32 ^ k ≤ 32 ^ 5 := Nat.pow_le_pow_right (by decide) (by omega)
        exact this)
      have e2 : nI (pkN t q k) <<< ((5 : Int32) &&& 31) = nI (pkN t q k * 32) := pk_shlN _ 5 (by decide) (by omega)
      have e3 : nI (t (q + k)) - 96 = nI (t (q + k) - 96) := pk_sub (b := 96) (by omega)
      rw [if_pos (show k ≤ e - q by omega), if_pos (nI_lt (show q + k < e by omega) (by omega))]
      simp only [c1, a1, ↓reduceIte, b2]
      rw [e2, e3, nI_or (by omega) (by omega), or_add (by omega)]
      rw [if_pos (show k + 1 ≤ e - q by omega)] at ih
      exact ih
    · have hP := pkN_lt (t := t) (q := q) (e - q) (fun i hi => (hl i hi).2)
      have hP25 : pkN t q (e - q) * 32 ^ (k - (e - q)) < 2 ^ 25 := by
        have h1 : pkN t q (e - q) * 32 ^ (k - (e - q)) < 32 ^ (e - q) * 32 ^ (k - (e - q)) := Nat.mul_lt_mul_of_pos_right hP (Nat.pow_pos (by decide))
        rw [← Nat.pow_add, show e - q + (k - (e - q)) = k by omega] at h1
        have h2 : 32 ^ k ≤ 32 ^ 5 := Nat.pow_le_pow_right (by decide) (by omega)
        exact Nat.lt_of_lt_of_le h1 h2
      have ev : (if k ≤ e - q then pkN t q k else pkN t q (e - q) * 32 ^ (k - (e - q))) = pkN t q (e - q) * 32 ^ (k - (e - q)) := by
        by_cases g : k ≤ e - q
        · have : k = e - q := by omega
          rw [if_pos g, this]
          simp
        · rw [if_neg g]
      have e2 : nI (pkN t q (e - q) * 32 ^ (k - (e - q))) <<< ((5 : Int32) &&& 31) = nI (pkN t q (e - q) * 32 ^ (k - (e - q)) * 32) := pk_shlN _ 5 (by decide) (by omega)
      rw [ev, if_neg (nI_nlt (show e ≤ q + k by omega) (by omega)), or_0, e2]
      rw [if_neg (show ¬ k + 1 ≤ e - q by omega), show k + 1 - (e - q) = (k - (e - q)) + 1 by omega, Nat.pow_succ, ← Nat.mul_assoc] at ih
      exact ih
theorem m_packed (hT : TZ L t σ τ) {q e : Nat} (he : e ≤ L) (hq : q ≤ e) (hle : e - q ≤ 6) (hl : ∀ i, i < e - q → 97 ≤ t (q + i) ∧ t (q + i) ≤ 122) : den 173 [vR 12 0 0, vI (nI q), vI (nI e)] τ = some (some (vI (nI (pkN t q (e - q) * 32 ^ (6 - (e - q))))), τ) := by
  have := pck_loop hT he hq hle hl 6 0 (by decide)
  rw [if_pos (Nat.zero_le _)] at this
  rw [dX12_packed, bX12_packed_0]
  exact this
theorem sh_6 : ∀ l, l < 7 → ((5 : Int32) * (6 - nI l) &&& 31).toBitVec.smod 32 = BitVec.ofNat 32 (5 * (6 - l)) := by decide
/-- a word or a name, in both -/
theorem word_pair (hT : TZ L t σ τ) (hW : WD σ τ) {q : Nat} (hq : q < L) (hs : smB (t q) = true) (h3 : gI σ 9 0 3 = nI q) (h7c : gI σ 9 0 7 = nI q) (h7 : gI τ 12 0 7 = nI q) (h10 : gI τ 12 0 10 = nI q) : ∃ q' σ' τ', q < q' ∧ q' ≤ L ∧ den 97 [vR 9 0 0] σ = some (none, σ') ∧ run kX12_token 44 [some (vR 12 0 0)] [] τ = some (none, τ') ∧ ftC σ σ' ∧ ftM τ τ' ∧ gI σ' 9 0 3 = nI q' ∧ gI τ' 12 0 7 = nI q' ∧ gI σ' 9 0 7 = nI q ∧ gI τ' 12 0 10 = nI q ∧ TKN (gI σ' 9 0 5) (gI σ' 9 0 6) (gI τ' 12 0 8) (gI τ' 12 0 9) ∧ gI σ' 9 0 5 ≠ 0 := by
  obtain ⟨hL, k1, k2, k3⟩ := id hT
  obtain ⟨p1, p2, p3⟩ := weN_p (t := t) (L := L) (L - q) q (by omega)
  have hgt : q < weN t (L - q) q := by
    have e1 : L - q = (L - q - 1) + 1 := by omega
    rw [e1]
    simp only [weN]
    rw [if_pos hs]
    have := (weN_p (t := t) (L := L) (L - q - 1) (q + 1) (by omega)).1
    omega
  obtain ⟨σ1, x', c1, c2, c3, c4, c5⟩ := rw_c (L := L) (t := t) (q := q) (L - q) q (by omega) (Nat.le_refl _) σ τ 0 none none hT h3 (fun i h1 h2 => by omega) (fun _ => by rw [Nat.sub_self]; rfl)
  obtain ⟨τ1, m1, m2, m3, m4⟩ := rw_m (L := L) (t := t) (L - q) q (by omega) σ τ hT h7
  generalize weN t (L - q) q = e at *
  have hT1 := TZ_f hT c1 m1
  have hW1 : WD σ1 τ1 := by
    unfold WD
    rw [ftC_A c1, ftM_A m1]
    exact hW
  have hl : ∀ i, i < e - q → 97 ≤ t (q + i) ∧ t (q + i) ≤ 122 := fun i hi => p3 (q + i) (by omega) (by omega)
  have es : nI e - nI q = nI (e - q) := pk_sub (by omega)
  rw [h7c, es] at c5
  rw [m3, h10, m2, m_wordAt hT1 hW1 p2 p1, bnd_s, tl_s, bX12_token_63, m3, h10, m2, es] at m4
  have z10 : gI τ1 12 0 10 = nI q := m3.trans h10
  by_cases h6 : 6 < e - q
  · -- too long
    have l6 : (6 : Int32) < nI (e - q) := nI_lt (a := 6) h6 (by omega)
    have hno : fs1 (mtB t q (e - q)) 19 0 = none := by
      cases hf : fs1 (mtB t q (e - q)) 19 0 with
      | none => rfl
      | some k =>
        have hk := fs1_lt (N := 19) 19 0 (by decide) k hf
        have := fs1_p 19 0 k hf
        unfold mtB at this
        rw [Bool.and_eq_true, decide_eq_true_eq] at this
        have := wd_1 k hk
        omega
    rw [hno] at m4
    rw [if_pos l6] at c5
    have m4' : run kX12_token 44 [some (vR 12 0 0)] [] τ = some (none, sI (sI τ1 12 0 9 (-1)) 12 0 8 6) := by
      rw [m4]
      show (if (-1 : Int32) < 0 then _ else _) = _
      rw [if_pos (by decide), if_pos l6, if_neg (by decide), bX12_token_140]
    refine ⟨e, sI σ1 9 0 5 5, sI (sI τ1 12 0 9 (-1)) 12 0 8 6, hgt, p2, ?_, m4', ftC_t c1 (ftC_I (by omega) _), ftM_t m1 (ftM_t (ftM_I (by omega) _) (ftM_I (by omega) _)), c2, m2, c3.trans h7c, z10, Or.inr (Or.inr (Or.inr (Or.inr (Or.inr ⟨rfl, Or.inl rfl⟩)))), by show (5 : Int32) ≠ 0; decide⟩
    rw [dX9_readWord, bX9_readWord_0, c5]
  · have h6' : e - q ≤ 6 := by omega
    have l6 : ¬ (6 : Int32) < nI (e - q) := nI_nlt (a := 6) h6' (by decide)
    obtain ⟨d1, _⟩ := dig_6 h6' hl
    have hV : x' <<< ((5 * (6 - nI (e - q))) &&& 31) = nI (pkN t q (e - q) * 32 ^ (6 - (e - q))) := by
      rw [c4 h6', show (32 : Nat) ^ (6 - (e - q)) = 2 ^ (5 * (6 - (e - q))) by rw [Nat.pow_mul]]
      refine pk_shlN _ (5 * (6 - (e - q))) ?_ ?_
      · rw [sh_6 (e - q) (by omega)]
        show (5 * (6 - (e - q))) % 2 ^ 32 = _
        omega
      · rw [show (2 : Nat) ^ (5 * (6 - (e - q))) = 32 ^ (6 - (e - q)) by rw [Nat.pow_mul]]
        omega
    rw [if_neg l6, hV] at c5
    obtain ⟨S', s1, s2, s3, s4, s5⟩ := tb_loop (σ := σ1) (τ := τ1) hW1 19 0 (by decide) (sI (sI σ1 9 0 5 2) 9 0 6 (nI (pkN t q (e - q) * 32 ^ (6 - (e - q))))) (nI (pkN t q (e - q) * 32 ^ (6 - (e - q)))) (some (vI x')) (some (vI (nI (e - q)))) rfl rfl rfl
    rw [nI_0] at s1
    have hcl : den 97 [vR 9 0 0] σ = some (none, S') := by
      rw [dX9_readWord, bX9_readWord_0, c5, s1]
    have hcf : ftC σ S' := ftC_t c1 (ftC_t (ftC_t (ftC_I (by omega) _) (ftC_I (by omega) _)) s2)
    have hc3 : gI S' 9 0 3 = nI e := s3.trans c2
    have hc7 : gI S' 9 0 7 = nI q := s4.trans (c3.trans h7c)
    have wlt30 : ∀ i, i < 19 → wpk i < 2 ^ 30 := by decide +kernel
    cases hf : fs1 (mtB t q (e - q)) 19 0 with
    | some k =>
      have hk := fs1_lt (N := 19) 19 0 (by decide) k hf
      have hm := (mt_w h6' hl hk).mp (fs1_p 19 0 k hf)
      obtain ⟨_, ws, _⟩ := wd_3 k hk
      have hfc : fs1 (fun i => decide (nI (wpk i) = nI (pkN t q (e - q) * 32 ^ (6 - (e - q))))) 19 0 = some (wsw k) := by
        cases hg : fs1 (fun i => decide (nI (wpk i) = nI (pkN t q (e - q) * 32 ^ (6 - (e - q))))) 19 0 with
        | none =>
          have := fs1_none (N := 19) 19 0 (by decide) hg (wsw k) (Nat.zero_le _) ws
          have h9 : decide (nI (wpk (wsw k)) = nI (pkN t q (e - q) * 32 ^ (6 - (e - q)))) = true := decide_eq_true (by rw [hm])
          rw [h9] at this
          cases this
        | some j =>
          have hj := fs1_lt (N := 19) 19 0 (by decide) j hg
          have hp := of_decide_eq_true (fs1_p 19 0 j hg)
          have e1 : wpk j = pkN t q (e - q) * 32 ^ (6 - (e - q)) := (nI_eq (by have := wlt30 j hj; omega) (by omega)).mp hp
          rw [wd_5 j hj (wsw k) ws (e1.trans hm.symm)]
      rw [hfc] at s5
      rw [hf] at m4
      have m4' : run kX12_token 44 [some (vR 12 0 0)] [] τ = some (none, sI (sI τ1 12 0 9 (nI k)) 12 0 8 1) := by
        rw [m4]
        show (if nI k < 0 then _ else _) = _
        rw [if_neg (nI_pos (by omega)), if_neg (by decide), bX12_token_140]
      refine ⟨e, S', sI (sI τ1 12 0 9 (nI k)) 12 0 8 1, hgt, p2, hcl, m4', hcf, ftM_t m1 (ftM_t (ftM_I (by omega) _) (ftM_I (by omega) _)), hc3, m2, hc7, z10, Or.inr (Or.inr (Or.inr (Or.inl ⟨s5.1, rfl, k, hk, s5.2, rfl⟩))), by rw [s5.1]; decide⟩
    | none =>
      have hno := fs1_none (N := 19) 19 0 (by decide) hf
      have hfc : fs1 (fun i => decide (nI (wpk i) = nI (pkN t q (e - q) * 32 ^ (6 - (e - q))))) 19 0 = none := by
        cases hg : fs1 (fun i => decide (nI (wpk i) = nI (pkN t q (e - q) * 32 ^ (6 - (e - q))))) 19 0 with
        | none => rfl
        | some j =>
          have hj := fs1_lt (N := 19) 19 0 (by decide) j hg
          have hp := of_decide_eq_true (fs1_p 19 0 j hg)
          have e1 : wpk j = pkN t q (e - q) * 32 ^ (6 - (e - q)) := (nI_eq (by have := wlt30 j hj; omega) (by omega)).mp hp
          obtain ⟨_, ws, ww⟩ := wd_3 j hj
          have := (mt_w (k := wsw j) h6' hl ws).mpr (by rw [ww]; exact e1)
          rw [hno (wsw j) (Nat.zero_le _) ws] at this
          cases this
      rw [hfc] at s5
      rw [hf] at m4
      have hT2 : TZ L t σ1 (sI (sI τ1 12 0 9 (-1)) 12 0 8 2) := TZ_f hT1 ftC_0 (ftM_t (ftM_I (by omega) _) (ftM_I (by omega) _))
      have m4' : run kX12_token 44 [some (vR 12 0 0)] [] τ = some (none, sI (sI (sI τ1 12 0 9 (-1)) 12 0 8 2) 12 0 9 (nI (pkN t q (e - q) * 32 ^ (6 - (e - q))))) := by
        rw [m4]
        show (if (-1 : Int32) < 0 then _ else _) = _
        rw [if_pos (by decide), if_neg l6, if_pos rfl, m_packed hT2 p2 p1 h6' hl, bnd_s, tl_s, bX12_token_92, bX12_token_140]
      refine ⟨e, S', _, hgt, p2, hcl, m4', hcf, ftM_t m1 (ftM_t (ftM_I (by omega) _) (ftM_t (ftM_I (by omega) _) (ftM_I (by omega) _))), hc3, m2, hc7, z10, Or.inr (Or.inr (Or.inl ⟨s5.1, rfl, s5.2⟩)), by rw [s5.1]; decide⟩
end TKA
