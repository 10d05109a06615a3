/-! TEXT: kept, or new -/
section TX2
variable {G n r : Nat} {σ τ : ST} {L : Nat} {t : Nat → Nat}
theorem text_kept {x : Int32} {σ' τ' : ST} (h : RELs G n r σ τ) (hc : smC (SH (1 - G)) σ σ') (hm : rdM (txM τ x) τ') (hB : RB L t (1 - G) σ' τ') (hQ' : FTQ σ' τ') : RELs G n r σ' τ' := by
  obtain ⟨hT, hR, hC, hF, hD, hI, hP, hW, hQ⟩ := h
  have n6 := hT.1.n6
  have r2 := hT.1.r2
  have g2 : G < 2 := hT.1.1.1
  have C : ∀ c o, ¬ (c = 9 ∨ c = 6 ∨ (c = 2 ∧ o = 1 - G) ∨ (c = 5 ∧ o = 3 + (1 - G)) ∨ (c = 3 ∧ 3 * (1 - G) ≤ o ∧ o < 3 * (1 - G) + 3)) → gI σ' c o = gI σ c o ∧ gL σ' c o = gL σ c o ∧ gR σ' c o = gR σ c o ∧ gA σ' c o = gA σ c o := fun c o z => hc c o z
  have M : ∀ k, ¬ ((4 ≤ k ∧ k ≤ 5) ∨ (7 ≤ k ∧ k ≤ 11) ∨ (15 ≤ k ∧ k ≤ 40)) → gI τ' 12 0 k = gI (txM τ x) 12 0 k ∧ gL τ' 12 0 k = gL τ 12 0 k ∧ gA τ' 12 0 k = gA τ 12 0 k := fun k z => hm.1 k z
  have mA : ∀ k j, j < hfk k → gA τ' 12 0 k j = gA τ 12 0 k j := hm.2
  have c2 := C 2 G (by omega)
  refine ⟨RT_k hT c2.1 c2.2.2.2 (fun w hw => ⟨(C 3 (3 * G + w) (by omega)).1, (C 3 (3 * G + w) (by omega)).2.2.2⟩) ⟨?_, ?_, ?_⟩ (M 12 (by omega)).1 (M 13 (by omega)).1 (M 14 (by omega)).1 mA, RC_k hR (C 0 0 (by omega)).1 (C 0 0 (by omega)).2.2.2 c2.1 c2.2.2.2, CU_k n6 r2 hC (C 5 0 (by omega)).2.2.2 (C 5 0 (by omega)).1 (C 5 0 (by omega)).2.1 (C 1 0 (by omega)).1 (C 1 0 (by omega)).2.2.2 (plM_e (fun k _ _ => (M k (by omega)).2.2)) ?_ (M 51 (by omega)).2.1 (M 72 (by omega)).1 (M 73 (by omega)).2.2, FP_k n6 r2 hF (C 5 (3 + G) (by omega)).2.2.2 (C 5 (3 + G) (by omega)).1 mA, TD_k hD (C 10 0 (by omega)).1 (fun k _ => ?_) (M 67 (by omega)).1 (M 68 (by omega)).1 (M 69 (by omega)).2.2, IM_k hI ?_ (C 5 2 (by omega)).2.2.2 (C 5 2 (by omega)).1 (C 5 2 (by omega)).2.1 (M 74 (by omega)).1 (M 75 (by omega)).2.2 (M 76 (by omega)).1 (M 77 (by omega)).2.1, ⟨0, by decide, hB.2.2.2.2.1, hB.2.2.2.2.2, fun j hj => absurd hj (Nat.not_lt_zero _)⟩, hB.2.1, hQ'⟩
  · rw [(C 11 0 (by omega)).2.2.1]
  · rw [hB.2.2.1]
    exact hT.1.2.1.2.1.symm
  · rw [(C 0 0 (by omega)).2.2.1]
  · rw [(M 50 (by omega)).2.2]
  · rw [(C 10 0 (by omega)).2.2.2]
  · rw [(C 11 0 (by omega)).1]
theorem text_new {H c : Nat} (hH2 : H < 2) (g1 : gR σ 11 0 2 = 1 - H) (hB : RB L t H σ τ) (hR : RD H n r c σ τ) (hL : LW H c σ τ) (hQ : FTQ σ τ) : ∃ σ' τ', den 158 [vR 11 0 0] (sL σ 5 (3 + H) 1 (Int32.toInt64 (gI σ 2 H 3))) = some (none, σ') ∧ den 180 [vR 12 0 0] τ = some (none, τ') ∧ RELs H n r σ' τ' := by
  obtain ⟨⟨n6, r2, c64, rn⟩, ⟨i0, m15, i1, m16, i4, m38⟩, ⟨⟨b, b1, b2, b3⟩, ⟨s, s1, s2, s3⟩, o3, o4⟩, hGr, hS, ⟨hH1, hHo⟩, hZ, hY⟩ := hR
  obtain ⟨m17, hLw⟩ := hL
  obtain ⟨σE, e1, ⟨q1, q2, q3⟩, ⟨p1, p2, p3⟩, ⟨c6, c5, cd⟩, ⟨w1, w2, w3, w4⟩, hSm, h6⟩ := e_beginAnew (σ := sL σ 5 (3 + H) 1 (Int32.toInt64 (gI σ 2 H 3))) (G := 1 - H) (H := H) g1 hB.2.2.1
  have hw : ∀ w, w < 3 → gA τ 12 0 27 (3 + w) = 0 ∨ gA τ 12 0 27 (3 + w) = 1 := fun w hw => by
    obtain ⟨len, _, _, l3⟩ := hLw w hw
    rcases l3 with ⟨_, h⟩ | ⟨_, h, _⟩
    · exact Or.inl h
    · exact Or.inr h
  obtain ⟨τE, d1, ⟨m12, m13, m14⟩, mH, mP, mQ, m50, m51, _, ⟨m67, m68, m72, m74⟩, mI, mA⟩ := m_keep n6 r2 m16 hw (fun q hq => by
    have := hHo q hq
    rw [← this.1]
    exact this.2)
  have C : ∀ c o, ¬ (c = 0 ∨ c = 1 ∨ (c = 5 ∧ o = 0) ∨ c = 6 ∨ c = 10 ∨ c = 11) → gI σE c o = gI σ c o ∧ gA σE c o = gA σ c o := fun c o z => ⟨(hSm c o z).1, (hSm c o z).2.2.2⟩
  have c2 := C 2 H (by omega)
  have c5' := C 5 (3 + H) (by omega)
  have H20 : ∀ j, j < 6 → gA τE 12 0 20 j = gA τ 12 0 20 (6 + j) := fun j hj => mH 20 j (by omega) (by omega) hj
  have H21 : ∀ j, j < 6 → gA τE 12 0 21 j = gA τ 12 0 21 (6 + j) := fun j hj => mH 21 j (by omega) (by omega) hj
  have H22 : ∀ j, j < 6 → gA τE 12 0 22 j = gA τ 12 0 22 (6 + j) := fun j hj => mH 22 j (by omega) (by omega) hj
  have H23 : ∀ j, j < 6 → gA τE 12 0 23 j = gA τ 12 0 23 (6 + j) := fun j hj => mH 23 j (by omega) (by omega) hj
  have H24 : ∀ j, j < 6 → gA τE 12 0 24 j = gA τ 12 0 24 (6 + j) := fun j hj => mH 24 j (by omega) (by omega) hj
  have H25 : ∀ j, j < 6 → gA τE 12 0 25 j = gA τ 12 0 25 (6 + j) := fun j hj => mH 25 j (by omega) (by omega) hj
  have H26 : ∀ j, j < 2 → gA τE 12 0 26 j = gA τ 12 0 26 (2 + j) := fun j hj => mH 26 j (by omega) (by omega) hj
  have H27 : ∀ j, j < 3 → gA τE 12 0 27 j = gA τ 12 0 27 (3 + j) := fun j hj => mH 27 j (by omega) (by omega) hj
  have H28 : ∀ j, j < 3 → gA τE 12 0 28 j = gA τ 12 0 28 (3 + j) := fun j hj => mH 28 j (by omega) (by omega) hj
  have H29 : ∀ j, j < 3 → gA τE 12 0 29 j = gA τ 12 0 29 (3 + j) := fun j hj => mH 29 j (by omega) (by omega) hj
  have H30 : ∀ j, j < 64 → gA τE 12 0 30 j = gA τ 12 0 30 (64 + j) := fun j hj => mH 30 j (by omega) (by omega) hj
  have H31 : ∀ j, j < 64 → gA τE 12 0 31 j = gA τ 12 0 31 (64 + j) := fun j hj => mH 31 j (by omega) (by omega) hj
  have H32 : ∀ j, j < 64 → gA τE 12 0 32 j = gA τ 12 0 32 (64 + j) := fun j hj => mH 32 j (by omega) (by omega) hj
  have H190 : gA τE 12 0 19 0 = gA τ 12 0 19 2 := mH 19 0 (by omega) (by omega) (by decide)
  have H191 : gA τE 12 0 19 1 = gA τ 12 0 19 3 := mH 19 1 (by omega) (by omega) (by decide)
  have hT : RT H n r σE τE := by
    refine ⟨⟨⟨hH2, n6, r2, rn⟩, ⟨q1, q2, q3⟩, ?_, ?_, ⟨b, b1, ?_, H190.trans b3⟩, ⟨s, s1, ?_, H191.trans s3⟩, fun j hj => ?_, fun j hj => ?_, fun j hj => ?_, fun j hj => ?_⟩, fun w hw => ?_⟩
    · rw [c2.1]; exact ⟨i0, m12.trans m15, i1, m13.trans m16⟩
    · rw [c2.1, m14, m17]; exact i4
    · rw [c2.1]; exact b2
    · rw [c2.1]; exact s2
    · rw [c2.2, H20 j (by omega)]; exact (hGr j hj).1
    · rw [c2.2, H22 j (by omega)]; exact (hGr j hj).2.2.1
    · rw [c2.2, H23 j (by omega)]; exact (hGr j hj).2.2.2.1
    · rw [c2.2, H24 j (by omega)]; exact (hGr j hj).2.2.2.2
    · obtain ⟨len, l1, l2, l3⟩ := hLw w hw
      have c3 := C 3 (3 * H + w) (by omega)
      unfold LQ
      rw [c3.1, c3.2, H27 w hw, H28 w hw, H29 w hw]
      refine ⟨len, l1, l2, ?_⟩
      rcases l3 with h | ⟨h1, h2, f', h3, h4, h5, h6⟩
      · exact Or.inl h
      · exact Or.inr ⟨h1, h2, f', by omega, h4, h5, wfS_c len _ (fun _ _ => rfl) (fun j hj => ⟨H30 j (by omega), H31 j (by omega), H32 j (by omega)⟩) h6⟩
  have hC : CU n r σE τE := by
    refine ⟨PN_p n6 r2 (P := plC σ (3 + H)) ⟨⟨fun j hj => ?_, fun j hj => ?_, fun j hj => ?_, fun p hp => ?_, fun p hp => ?_, fun p hp => ?_, fun p _ hp => (hZ p hp).2⟩, fun j hj => ?_⟩ p1, p2.trans (Eq.trans hY m50.symm), ?_, 0, by decide, w3, m72, trivial⟩
    · obtain ⟨z1, x, z2, z3⟩ := (hGr j hj).2.1
      exact ⟨Eq.trans z1 (mP j (by omega)).1.symm, x, by omega, z3⟩
    · exact Eq.trans (hH1 j (by omega)) (mP j (by omega)).2.1.symm
    · obtain ⟨z1, x, z2, z3, z4, _⟩ := hS j hj
      exact ⟨Eq.trans z1 (mP j hj).2.2.symm, x, z2, z3, z4⟩
    · obtain ⟨z1, z2⟩ := hHo p hp
      exact ⟨Eq.trans z1 (mQ p (by omega)).1.symm, z2⟩
    · exact Eq.trans (hZ p (by omega)).1 (mQ p (by omega)).2.1.symm
    · exact Eq.trans (hZ p (by omega)).2 (mQ p (by omega)).2.2.symm
    · obtain ⟨_, x, _, _, z4, z5⟩ := hS j (by omega)
      show bit (gA σ 5 (3 + H) 4 j) (nI j) = 0
      rw [z4]
      exact z5
    · refine Eq.trans p3 (Eq.trans (b := Int32.toInt64 (gI σ 2 H 3)) u3_s ?_)
      rw [m51, s2, s3]
  have hF : FP H n r σE τE := by
    unfold FP
    rw [c5'.1, c5'.2]
    refine ⟨fun j hj => ?_, fun j hj => ?_, fun j hj => ?_, fun p hp => ?_, hZ, hY⟩
    · obtain ⟨z1, x, z2, z3⟩ := (hGr j hj).2.1
      exact ⟨Eq.trans z1 (H21 j (by omega)).symm, x, by omega, z3⟩
    · exact Eq.trans (hH1 j (by omega)) (hadP_c r j (fun i hi => (H26 i (by omega)).symm))
    · obtain ⟨z1, x, z2, z3, z4, _⟩ := hS j hj
      exact ⟨Eq.trans z1 (H25 j hj).symm, x, z2, z3, z4⟩
    · obtain ⟨z1, z2⟩ := hHo p hp
      exact ⟨Eq.trans z1 (H26 p (by omega)).symm, z2⟩
  refine ⟨σE, τE, e1, d1, hT, ⟨c6, ?_, fun j hj => ?_⟩, hC, hF, ⟨0, by decide, w1, m67, w2.trans m68.symm, Or.inl w2, fun i hi => absurd hi (Nat.not_lt_zero _)⟩, ⟨w4.trans m74.symm, fun z => absurd w4 z⟩, ⟨0, by decide, ?_, Eq.trans (mI 1 (by omega)) hB.2.2.2.2.2, fun j hj => absurd hj (Nat.not_lt_zero _)⟩, WD_k hB.2.1 ?_ (mA 3 (by omega)), FTQ_k hQ ?_ (mI 4 (by omega)) (mI 5 (by omega))⟩
  · rw [c2.1]; exact c5
  · rw [c2.2]; exact cd j (by omega)
  · rw [(C 9 0 (by omega)).1]; exact hB.2.2.2.2.1
  · rw [(C 9 0 (by omega)).2]
  · rw [h6]; rfl
theorem c_text (h : REL σ τ) (x : Int32) : rans (den 112 [vR 11 0 0, vI x] σ) (den 188 [vR 12 0 0, vI x] τ) := by
  obtain ⟨G, n, r, hs⟩ := id h
  obtain ⟨hT, hR, hC, hF, hD, hI, hP, hW, hQ⟩ := id hs
  obtain ⟨k, k7, t1, t2, t3⟩ := id hP
  have g1 : gR σ 11 0 2 = G := hT.1.2.1.1
  have g2 : gR σ 6 0 4 = 1 - G := hT.1.2.1.2.1
  have hG2 : G < 2 := hT.1.1.1
  rw [dX11_text, bX11_text_0, dX12_text, bX12_text_0, t1, t2]
  by_cases h0 : x < 0
  · rw [if_pos h0, if_pos h0]
    exact ⟨-2, σ, th0 τ, rfl, rfl, REL_sc h scC_0 (scM_th τ)⟩
  by_cases h1 : nI k < x
  · rw [if_neg h0, if_neg h0, if_pos h1, if_pos h1]
    exact ⟨-2, σ, th0 τ, rfl, rfl, REL_sc h scC_0 (scM_th τ)⟩
  obtain ⟨L, hL, rfl⟩ := nI_of h0
  have hLk : L ≤ k := by
    rcases Nat.lt_or_ge k L with z | z
    · exact absurd (nI_lt z hL) h1
    · exact z
  obtain ⟨σ1, τ1, p, q, t, e1, e2, f1, f2, hB, hK, hRD, hLW, hQ1⟩ := text_start (H := 1 - G) (L := L) g2 (by omega) hLk k7 t3 hW
  rw [if_neg h0, if_neg h0, if_neg h1, if_neg h1, e1, e2]
  obtain ⟨σ2, τ2, z1, z2, z3, z4⟩ := lines_loop (L + 1) p q 0 σ1 τ1 0 0 0 (by omega) (Nat.zero_le _) hB hK hRD hLW hQ1 (some (vI (nI L))) rfl
  rw [nI_0] at z4
  have kC : smC (SH (1 - G)) σ σ2 := smC_t f1 z1.1
  have kM : rdM (txM τ (nI L)) τ2 := rdM_t f2 z1.2
  rcases z4 with ⟨y1, y2⟩ | ⟨k', n', r', c', hk', y1, y2, hRD', hLW'⟩
  · rw [y1, y2, bnd_s, tl_s, bX11_text_13, if_pos (by decide), bX11_text_18]
    exact ⟨-1, σ2, τ2, rfl, rfl, G, n, r, text_kept hs kC kM z2 z3⟩
  · have hL7 : L ≤ 700 := by omega
    have g3 : gR σ2 11 0 2 = 1 - (1 - G) := by
      rw [(kC 11 0 (by omega)).2.2.1, g1]
      omega
    obtain ⟨σ', τ', d1, d2, d3⟩ := text_new (by omega) g3 z2 hRD' hLW' z3
    rw [y1, y2, bnd_s, tl_s, bX11_text_13, if_neg (show ¬ nI k' < 0 from nI_nlt (b := 0) (by omega) (by omega)), d1, d2, bnd_s, tl_n, bX11_text_18, bnd_s, tl_n, bX12_text_44]
    exact ⟨nI k', σ', τ', rfl, rfl, _, _, _, d3⟩
end TX2
