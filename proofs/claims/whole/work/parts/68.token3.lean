/-! TOKENS: the next one -/
/-- where both stand: the token begins at p, the rest at q -/
def TKS (L : Nat) (σ τ : ST) (p q : Nat) : Prop := gI σ 9 0 3 = nI q ∧ gI τ 12 0 7 = nI q ∧ gI σ 9 0 7 = nI p ∧ gI τ 12 0 10 = nI p ∧ p ≤ q ∧ q ≤ L ∧ TKN (gI σ 9 0 5) (gI σ 9 0 6) (gI τ 12 0 8) (gI τ 12 0 9) ∧ (gI σ 9 0 5 ≠ 0 → p < q)
theorem token_pair {L : Nat} {t : Nat → Nat} {σ τ : ST} (hT : TZ L t σ τ) (hW : WD σ τ) {q : Nat} (hq : q ≤ L) (h3 : gI σ 9 0 3 = nI q) (h7 : gI τ 12 0 7 = nI q) : ∃ p q' σ' τ', q ≤ p ∧ den 92 [vR 9 0 0] σ = some (none, σ') ∧ den 171 [vR 12 0 0] τ = some (none, τ') ∧ ftC σ σ' ∧ ftM τ τ' ∧ TKS L σ' τ' p q' := by
  obtain ⟨p, σ1, τ1, g1, g2, g3, g4, g5, g6, g7, g8, g9⟩ := skip_pair (L - q) q (by omega) σ τ hT h3 h7
  have hT1 := TZ_f hT g6 g7
  have hW1 : WD σ1 τ1 := by
    unfold WD
    rw [ftC_A g6, ftM_A g7]
    exact hW
  have ac := adv_c hT1 g2 g3 g8
  have am := adv_m hT1 g2 g3 g9
  obtain ⟨hL, k1, k2, k3⟩ := id hT1
  rw [dX9_advance, g4, ac, dX12_token, g5, am]
  by_cases e : p = L
  · rw [if_pos e, if_pos e]
    exact ⟨p, p, _, _, g1, rfl, rfl, ftC_t g6 (ftC_t (ftC_I (by omega) _) (ftC_t (ftC_I (by omega) _) (ftC_I (by omega) _))), ftM_t g7 (ftM_t (ftM_I (by omega) _) (ftM_I (by omega) _)), g8, g9, rfl, rfl, Nat.le_refl _, g2, Or.inl ⟨rfl, rfl⟩, fun h => absurd rfl h⟩
  have hp : p < L := by omega
  rw [if_neg e, if_neg e, bX9_advance_46, bX12_token_43]
  have fC : ftC σ1 (sI (sI σ1 9 0 7 (nI p)) 9 0 6 0) := ftC_t (ftC_I (by omega) _) (ftC_I (by omega) _)
  have fM : ftM τ1 (sI τ1 12 0 10 (nI p)) := ftM_I (by omega) _
  have hT2 := TZ_f hT1 fC fM
  have e3 : gI (sI (sI σ1 9 0 7 (nI p)) 9 0 6 0) 9 0 3 = nI p := g8
  have e7 : gI (sI τ1 12 0 10 (nI p)) 12 0 7 = nI p := g9
  by_cases hs : smB (t p) = true
  · obtain ⟨q', σ', τ', w1, w2, w3, w4, w5, w6, w7, w8, w9, w10, w11, w12⟩ := word_pair hT2 hW1 hp hs e3 rfl e7 rfl
    rw [bI_t hs, if_neg i10, if_neg i10, w3, bnd_s, tl_n, bX9_advance_49, bX9_advance_65, w4]
    exact ⟨p, q', σ', τ', g1, rfl, rfl, ftC_t g6 (ftC_t fC w5), ftM_t g7 (ftM_t fM w6), w7, w8, w9, w10, by omega, w2, w11, fun _ => w1⟩
  · rw [bI_f (Bool.eq_false_iff.mpr hs), if_pos rfl, if_pos rfl, e3, e7, e_digit hT2 (by omega), m_digit hT2 (by omega), bnd_s, bnd_s, tl_s, bX9_advance_54, bX12_token_98]
    have ed : atB dgB L t p = dgB (t p) := by
      unfold atB
      rw [decide_eq_true hp, Bool.true_and]
    rw [ed]
    by_cases hd : dgB (t p) = true
    · have fC2 : ftC σ1 (sI (sI (sI σ1 9 0 7 (nI p)) 9 0 6 0) 9 0 5 1) := ftC_t fC (ftC_I (by omega) _)
      have fM2 : ftM τ1 (sI (sI (sI τ1 12 0 10 (nI p)) 12 0 8 3) 12 0 9 0) := ftM_t fM (ftM_t (ftM_I (by omega) _) (ftM_I (by omega) _))
      obtain ⟨q', σ', τ', a', b', n1, n2, n3, n4, n5, n6, n7, n8, n9, n10, n11, n12, n13, n14, n15, n16, n17⟩ := num_pair (L - p) p (by omega) _ _ 0 0 none (TZ_f hT1 fC2 fM2) g8 g9 (by decide) (by decide) rfl rfl (Or.inl rfl)
      -- at least one digit goes
      have hpos : p < q' := by
        rcases Nat.lt_or_ge p q' with h | h
        · exact h
        · exfalso
          have hq' : q' = p := by omega
          subst hq'
          have hlt : nI q' < nI L := nI_lt (by omega) (by omega)
          have a1 := ob (i := q') (N := 700) (by omega) (by decide)
          have c1 : (nI q').toNatClampNeg = q' := nI_clamp (by omega)
          have hT3 := TZ_f hT1 fC2 fM2
          have e3' : gI (sI (sI (sI σ1 9 0 7 (nI q')) 9 0 6 0) 9 0 5 1) 9 0 3 = nI q' := g8
          have e2' : gI (sI (sI (sI σ1 9 0 7 (nI q')) 9 0 6 0) 9 0 5 1) 9 0 2 = nI L := k1
          have hd' := hd
          rw [dgB, Bool.and_eq_true, decide_eq_true_eq, decide_eq_true_eq] at hd'
          obtain ⟨b1, b2, b3⟩ := k3 q' hp
          have e1' : gA (sI (sI (sI σ1 9 0 7 (nI q')) 9 0 6 0) 9 0 5 1) 9 0 1 q' = nI (t q') := b3.trans (sb_lo _ (by omega))
          have e6' : gI (sI (sI (sI σ1 9 0 7 (nI q')) 9 0 6 0) 9 0 5 1) 9 0 6 = 0 := rfl
          -- the class's own next round, once more
          have ec : (0 : Int32) * 10 + nI (t q') - 48 = nI (t q' - 48) := by
            have z : (0 : Int32) * 10 = 0 := by decide
            have z2 : nI (t q') - 48 = nI (t q' - 48) := pk_sub (b := 48) hd'.1
            rw [z, Int32.zero_add, z2]
          have la : nI (t q' - 48) < 1000000 := nI_lt (b := 1000000) (by omega) (by decide)
          rw [bX9_readNumber_3, e3', e2', if_pos hlt, e_digit hT3 (by omega), bnd_s, tl_s, bX9_readNumber_12, ed, bI_t hd, if_neg i10, e3', e6'] at n3
          simp only [c1, a1, ↓reduceIte, e1', ec, la, nI_S] at n3
          have fC3 : ftC σ1 (sI (sI (sI (sI (sI σ1 9 0 7 (nI q')) 9 0 6 0) 9 0 5 1) 9 0 6 (nI (t q' - 48))) 9 0 3 (nI (q' + 1))) := ftC_t fC2 (ftC_t (ftC_I (by omega) _) (ftC_I (by omega) _))
          have fM3 : ftM τ1 (sI (sI (sI (sI (sI τ1 12 0 10 (nI q')) 12 0 8 3) 12 0 9 0) 12 0 9 (nI (t q' - 48))) 12 0 7 (nI (q' + 1))) := ftM_t fM2 (ftM_t (ftM_I (by omega) _) (ftM_I (by omega) _))
          obtain ⟨r', σr, τr, a'', b'', r1, _, r3, _, _, _, r7, _⟩ := num_pair (L := L) (t := t) (L - (q' + 1)) (q' + 1) (by omega) _ _ (t q' - 48) (t q' - 48) (some (vI (nI (t q' - 48)))) (TZ_f hT1 fC3 fM3) rfl rfl (by omega) (by omega) rfl rfl (Or.inl rfl)
          rw [n3] at r3
          injection r3 with r3
          injection r3 with _ r3
          rw [← r3, n7] at r7
          have := (nI_eq (by omega) (by omega)).mp r7
          omega
      have hck : gI σ' 9 0 5 = 1 := n9
      rw [bI_t hd, if_neg i10, if_neg i10, dX9_readNumber, bX9_readNumber_0, n3, bnd_s, tl_n, bX9_advance_57, bX9_advance_65, n4]
      exact ⟨p, q', σ', τ', g1, rfl, rfl, ftC_t g6 (ftC_t fC2 n5), ftM_t g7 (ftM_t fM2 n6), n7, n8, n11, n12, n1, n2, Or.inr (Or.inl ⟨hck, n10, a', b', n13, n14, n15, n16, n17⟩), fun _ => hpos⟩
    · obtain ⟨q', σ', τ', s1, s2, s3, s4, s5, s6, s7, s8, s9, s10, s11⟩ := sign_pair hT2 hp e3 e7
      have a1 := ob (i := p) (N := 700) (by omega) (by decide)
      have c1 : (nI p).toNatClampNeg = p := nI_clamp (by omega)
      have e1 : gA (sI (sI σ1 9 0 7 (nI p)) 9 0 6 0) 9 0 1 p = sbB (t p) := (k3 p hp).2.2
      rw [bI_f (Bool.eq_false_iff.mpr hd), if_pos rfl, if_pos rfl, e3]
      simp only [c1, a1, ↓reduceIte]
      rw [e1, s3, bnd_s, tl_n, bX9_advance_65, s4, bnd_s, tl_n, bX12_token_140]
      exact ⟨p, q', σ', τ', g1, rfl, rfl, ftC_t g6 (ftC_t fC s5), ftM_t g7 (ftM_t fM s6), s7, s8, s9, s10, by omega, s2, s11, fun _ => s1⟩
