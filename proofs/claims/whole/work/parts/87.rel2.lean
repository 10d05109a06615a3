/-! THE WHOLE RELATION, and what keeps it -/
section KPT
variable {G n r : Nat} {σ σ' τ τ' : ST}
theorem RT_k (h : RT G n r σ τ) (e2 : gI σ' 2 G = gI σ 2 G) (a2 : gA σ' 2 G = gA σ 2 G) (e3 : ∀ w, w < 3 → gI σ' 3 (3 * G + w) = gI σ 3 (3 * G + w) ∧ gA σ' 3 (3 * G + w) = gA σ 3 (3 * G + w)) (hR : gR σ' 11 0 2 = gR σ 11 0 2 ∧ gR σ' 6 0 4 = gR σ 6 0 4 ∧ gR σ' 0 0 4 = gR σ 0 0 4) (m12 : gI τ' 12 0 12 = gI τ 12 0 12) (m13 : gI τ' 12 0 13 = gI τ 12 0 13) (m14 : gI τ' 12 0 14 = gI τ 12 0 14) (mA : ∀ k j, j < hfk k → gA τ' 12 0 k j = gA τ 12 0 k j) : RT G n r σ' τ' := by
  obtain ⟨⟨⟨g2, n6, r2, rn⟩, ⟨q1, q2, q3⟩, ⟨i0, j12, i1, j13⟩, i4, ⟨b, b1, b2, b3⟩, ⟨s, s1, s2, s3⟩, hn, hg, hd, hp⟩, hL⟩ := h
  refine ⟨⟨⟨g2, n6, r2, rn⟩, ⟨hR.1.trans q1, hR.2.1.trans q2, hR.2.2.trans q3⟩, ?_, ?_, ⟨b, b1, ?_, Eq.trans (mA 19 0 (by decide)) b3⟩, ⟨s, s1, ?_, Eq.trans (mA 19 1 (by decide)) s3⟩, fun j hj => ?_, fun j hj => ?_, fun j hj => ?_, fun j hj => ?_⟩, fun w hw => ?_⟩
  · rw [e2, m12, m13]; exact ⟨i0, j12, i1, j13⟩
  · rw [e2, m14]; exact i4
  · rw [e2]; exact b2
  · rw [e2]; exact s2
  · have h6 : j < 6 := by omega
    rw [a2, mA 20 j h6]; exact hn j hj
  · have h6 : j < 6 := by omega
    rw [a2, mA 22 j h6]; exact hg j hj
  · have h6 : j < 6 := by omega
    rw [a2, mA 23 j h6]; exact hd j hj
  · have h6 : j < 6 := by omega
    rw [a2, mA 24 j h6]; exact hp j hj
  · obtain ⟨len, l1, l2, l3⟩ := hL w hw
    unfold LQ
    rw [(e3 w hw).1, (e3 w hw).2, mA 27 w hw, mA 28 w hw, mA 29 w hw]
    refine ⟨len, l1, l2, ?_⟩
    rcases l3 with h | ⟨h1, h2, f', h3, h4, h5, h6⟩
    · exact Or.inl h
    · refine Or.inr ⟨h1, h2, f', h3, h4, h5, wfS_c len _ (fun _ _ => rfl) (fun j hj => ?_) h6⟩
      have h64 : j < 64 := by omega
      exact ⟨mA 30 j h64, mA 31 j h64, mA 32 j h64⟩
theorem RC_k (h : RC G n σ) (e0 : gI σ' 0 0 = gI σ 0 0) (a0 : gA σ' 0 0 = gA σ 0 0) (e2 : gI σ' 2 G = gI σ 2 G) (a2 : gA σ' 2 G = gA σ 2 G) : RC G n σ' := by
  unfold RC at h ⊢
  rw [e0, a0, e2, a2]
  exact h
theorem CU_k (hn : n ≤ 6) (hr : r ≤ 2) (h : CU n r σ τ) (a5 : gA σ' 5 0 = gA σ 5 0) (i5 : gI σ' 5 0 = gI σ 5 0) (l5 : gL σ' 5 0 = gL σ 5 0) (i1 : gI σ' 1 0 = gI σ 1 0) (a1 : gA σ' 1 0 = gA σ 1 0) (hm : plE (plM τ') (plM τ)) (m50 : gA τ' 12 0 50 0 = gA τ 12 0 50 0) (m51 : gL τ' 12 0 51 = gL τ 12 0 51) (m72 : gI τ' 12 0 72 = gI τ 12 0 72) (m73 : gA τ' 12 0 73 = gA τ 12 0 73) : CU n r σ' τ' := by
  obtain ⟨c1, c2, c3, u, u1, u2, u3', u4⟩ := h
  have ep : plC σ' 0 = plC σ 0 := by unfold plC; rw [a5]
  have ed : dlC σ' = dlC σ := by unfold dlC; rw [a1]
  refine ⟨?_, ?_, ?_, u, u1, ?_, m72.trans u3', ?_⟩
  · rw [ep]; exact PN_q hn hr c1 hm
  · rw [i5, m50]; exact c2
  · rw [l5, m51]; exact c3
  · rw [i1]; exact u2
  · rw [ed, ep, m73]; exact u4
theorem FP_k (hn : n ≤ 6) (hr : r ≤ 2) (h : FP G n r σ τ) (a5 : gA σ' 5 (3 + G) = gA σ 5 (3 + G)) (i5 : gI σ' 5 (3 + G) = gI σ 5 (3 + G)) (mA : ∀ k j, j < hfk k → gA τ' 12 0 k j = gA τ 12 0 k j) : FP G n r σ' τ' := by
  obtain ⟨f1, f2, f3, f4, f5, f6⟩ := h
  unfold FP
  rw [a5, i5]
  refine ⟨fun j hj => ?_, fun j hj => ?_, fun j hj => ?_, fun p hp => ?_, f5, f6⟩
  · have h6 : j < 6 := by omega
    rw [mA 21 j h6]; exact f1 j hj
  · rw [f2 j hj]
    refine hadP_c r j (fun i hi => ?_)
    have h2 : i < 2 := by omega
    exact (mA 26 i h2).symm
  · rw [mA 25 j hj]; exact f3 j hj
  · have h2 : p < 2 := by omega
    rw [mA 26 p h2]; exact f4 p hp
theorem TD_k (h : TD n r σ τ) (i : gI σ' 10 0 = gI σ 10 0) (a : ∀ k, k < 5 → gA σ' 10 0 k = gA σ 10 0 k) (m67 : gI τ' 12 0 67 = gI τ 12 0 67) (m68 : gI τ' 12 0 68 = gI τ 12 0 68) (m69 : gA τ' 12 0 69 = gA τ 12 0 69) : TD n r σ' τ' := by
  unfold TD at h ⊢
  rw [i, a 0 (by decide), a 1 (by decide), a 2 (by decide), a 3 (by decide), a 4 (by decide), m67, m68, m69]
  exact h
theorem IM_k (h : IM n r σ τ) (i : gI σ' 11 0 6 = gI σ 11 0 6) (a5 : gA σ' 5 2 = gA σ 5 2) (i5 : gI σ' 5 2 = gI σ 5 2) (l5 : gL σ' 5 2 = gL σ 5 2) (m74 : gI τ' 12 0 74 = gI τ 12 0 74) (m75 : gA τ' 12 0 75 = gA τ 12 0 75) (m76 : gI τ' 12 0 76 = gI τ 12 0 76) (m77 : gL τ' 12 0 77 = gL τ 12 0 77) : IM n r σ' τ' := by
  have ep : plC σ' 2 = plC σ 2 := by unfold plC; rw [a5]
  unfold IM at h ⊢
  rw [i, ep, i5, l5, m74, m75, m76, m77]
  exact h
theorem TP_k (h : TP σ τ) (i : gI σ' 9 0 = gI σ 9 0) (a : gA σ' 9 0 = gA σ 9 0) (m1 : gI τ' 12 0 1 = gI τ 12 0 1) (m0 : gA τ' 12 0 0 = gA τ 12 0 0) : TP σ' τ' := by
  unfold TP TPE at h ⊢
  rw [i, a, m1, m0]
  exact h
theorem WD_k (h : WD σ τ) (a : gA σ' 9 0 0 = gA σ 9 0 0) (m : gA τ' 12 0 3 = gA τ 12 0 3) : WD σ' τ' := by
  unfold WD at h ⊢
  rw [a, m]
  exact h
theorem FTQ_k (h : FTQ σ τ) (i : gI σ' 6 0 = gI σ 6 0) (m4 : gI τ' 12 0 4 = gI τ 12 0 4) (m5 : gI τ' 12 0 5 = gI τ 12 0 5) : FTQ σ' τ' := by
  unfold FTQ at h ⊢
  rw [i, m4, m5]
  exact h
end KPT
/-- all that stands in both -/
def RELs (G n r : Nat) (σ τ : ST) : Prop := RT G n r σ τ ∧ RC G n σ ∧ CU n r σ τ ∧ FP G n r σ τ ∧ TD n r σ τ ∧ IM n r σ τ ∧ TP σ τ ∧ WD σ τ ∧ FTQ σ τ
def REL (σ τ : ST) : Prop := ∃ G n r, RELs G n r σ τ
/-- a call answered alike -/
def rans (ca cm : RS) : Prop := ∃ (v : Int32) (σ' τ' : ST), ca = some (some (vI v), σ') ∧ cm = some (some (vI v), τ') ∧ REL σ' τ'
def ransL (ca cm : RS) : Prop := ∃ (v : Int64) (σ' τ' : ST), ca = some (some (vL v), σ') ∧ cm = some (some (vL v), τ') ∧ REL σ' τ'
section RLK
variable {G n r : Nat} {σ σ' τ τ' : ST} {ca cm : RS}
theorem REL_sc (h : REL σ τ) (hc : scC σ σ') (hm : scM τ τ') : REL σ' τ' := by
  obtain ⟨G, n, r, hT, hR, hC, hF, hD, hI, hP, hW, hQ⟩ := h
  have n6 := hT.1.n6
  have r2 := hT.1.r2
  have cI : ∀ c, c ≠ 0 → c ≠ 4 → c ≠ 5 → c ≠ 7 → c ≠ 8 → gI σ' c = gI σ c := fun c a b d e f => (hc.1 c a b d e f).1
  have cA : ∀ c, c ≠ 0 → c ≠ 4 → c ≠ 5 → c ≠ 7 → c ≠ 8 → c ≠ 10 → gA σ' c = gA σ c := fun c a b d e f g => (hc.1 c a b d e f).2.2 g
  have mI : ∀ k, k ≠ 2 → k ≠ 43 → (k < 52 ∨ 65 < k) → gI τ' 12 0 k = gI τ 12 0 k := hm.1
  have mA : ∀ k, (k < 44 ∨ 50 < k) → k ≠ 62 → k ≠ 66 → k ≠ 70 → k ≠ 71 → gA τ' 12 0 k = gA τ 12 0 k := hm.2.1
  have mL := hm.2.2.2.2.2
  obtain ⟨_, _, p0, p1, p2⟩ := hc.2.1 0 (by decide)
  obtain ⟨_, _, q0, q1, q2⟩ := hc.2.1 2 (by decide)
  refine ⟨G, n, r, RT_sc hT hc hm, RC_sc hR hc, CU_k n6 r2 hC p2 p0 p1 ?_ ?_ ⟨hm.2.2.1, hm.2.2.2.1⟩ hm.2.2.2.2.1 (mL 51) (mI 72 (by omega) (by omega) (by omega)) (mA 73 (by omega) (by omega) (by omega) (by omega) (by omega)), FP_sc hF hc hm, TD_k hD ?_ (fun k hk => hc.2.2.1 0 k (by omega)) (mI 67 (by omega) (by omega) (by omega)) (mI 68 (by omega) (by omega) (by omega)) (mA 69 (by omega) (by omega) (by omega) (by omega) (by omega)), IM_k hI ?_ q2 q0 q1 (mI 74 (by omega) (by omega) (by omega)) (mA 75 (by omega) (by omega) (by omega) (by omega) (by omega)) (mI 76 (by omega) (by omega) (by omega)) (mL 77), TP_k hP ?_ ?_ (mI 1 (by omega) (by omega) (by omega)) (mA 0 (by omega) (by omega) (by omega) (by omega) (by omega)), WD_k hW ?_ (mA 3 (by omega) (by omega) (by omega) (by omega) (by omega)), FTQ_k hQ ?_ (mI 4 (by omega) (by omega) (by omega)) (mI 5 (by omega) (by omega) (by omega))⟩
  · rw [cI 1 (by decide) (by decide) (by decide) (by decide) (by decide)]
  · rw [cA 1 (by decide) (by decide) (by decide) (by decide) (by decide) (by decide)]
  · rw [cI 10 (by decide) (by decide) (by decide) (by decide) (by decide)]
  · rw [cI 11 (by decide) (by decide) (by decide) (by decide) (by decide)]
  · rw [cI 9 (by decide) (by decide) (by decide) (by decide) (by decide)]
  · rw [cA 9 (by decide) (by decide) (by decide) (by decide) (by decide) (by decide)]
  · rw [cA 9 (by decide) (by decide) (by decide) (by decide) (by decide) (by decide)]
  · rw [cI 6 (by decide) (by decide) (by decide) (by decide) (by decide)]
theorem plM_e (h : ∀ k, 44 ≤ k → k ≤ 49 → gA τ' 12 0 k = gA τ 12 0 k) : plE (plM τ') (plM τ) := by
  have : plM τ' = plM τ := by
    unfold plM
    rw [h 44 (by omega) (by omega), h 45 (by omega) (by omega), h 46 (by omega) (by omega), h 47 (by omega) (by omega), h 48 (by omega) (by omega), h 49 (by omega) (by omega)]
  rw [this]
  exact ⟨fun _ _ => ⟨rfl, rfl, rfl⟩, fun _ _ => ⟨rfl, rfl, rfl⟩⟩
theorem rans_q (h : REL σ τ) (ha : ans σ τ ca cm) : rans ca cm := by
  obtain ⟨v, σ', τ', e1, e2, hc, hm⟩ := ha
  exact ⟨v, σ', τ', e1, e2, REL_sc h hc hm⟩
theorem rans_l (h : REL σ τ) (ha : ansL σ τ ca cm) : ransL ca cm := by
  obtain ⟨v, σ', τ', e1, e2, hc, hm⟩ := ha
  exact ⟨v, σ', τ', e1, e2, REL_sc h hc hm⟩
theorem rans_t (h : RELs G n r σ τ) (ha : tans n r σ τ ca cm) : rans ca cm := by
  obtain ⟨v, σ', τ', e1, e2, hc, hm, hD'⟩ := ha
  obtain ⟨hT, hR, hC, hF, hD, hI, hP, hW, hQ⟩ := h
  have n6 := hT.1.n6
  have r2 := hT.1.r2
  have C : ∀ c o, c ≠ 10 → gI σ' c o = gI σ c o ∧ gL σ' c o = gL σ c o ∧ gR σ' c o = gR σ c o ∧ gA σ' c o = gA σ c o := fun c o z => hc c o z
  have M : ∀ k, ¬ (k = 2 ∨ k = 67 ∨ k = 68 ∨ k = 69) → gI τ' 12 0 k = gI τ 12 0 k ∧ gL τ' 12 0 k = gL τ 12 0 k ∧ gA τ' 12 0 k = gA τ 12 0 k := fun k z => hm k z
  have mA : ∀ k j, j < hfk k → gA τ' 12 0 k j = gA τ 12 0 k j := fun k j hj => by
    by_cases e : k = 2 ∨ k = 67 ∨ k = 68 ∨ k = 69
    · exfalso
      rcases e with rfl | rfl | rfl | rfl <;> exact absurd hj (Nat.not_lt_zero _)
    · rw [(M k e).2.2]
  refine ⟨v, σ', τ', e1, e2, G, n, r, RT_k hT (C 2 G (by decide)).1 (C 2 G (by decide)).2.2.2 (fun w _ => ⟨(C 3 _ (by decide)).1, (C 3 _ (by decide)).2.2.2⟩) ⟨?_, ?_, ?_⟩ (M 12 (by omega)).1 (M 13 (by omega)).1 (M 14 (by omega)).1 mA, RC_k hR (C 0 0 (by decide)).1 (C 0 0 (by decide)).2.2.2 (C 2 G (by decide)).1 (C 2 G (by decide)).2.2.2, CU_k n6 r2 hC (C 5 0 (by decide)).2.2.2 (C 5 0 (by decide)).1 (C 5 0 (by decide)).2.1 (C 1 0 (by decide)).1 (C 1 0 (by decide)).2.2.2 (plM_e (fun k _ _ => (M k (by omega)).2.2)) ?_ (M 51 (by omega)).2.1 (M 72 (by omega)).1 (M 73 (by omega)).2.2, FP_k n6 r2 hF (C 5 _ (by decide)).2.2.2 (C 5 _ (by decide)).1 mA, hD', IM_k hI ?_ (C 5 2 (by decide)).2.2.2 (C 5 2 (by decide)).1 (C 5 2 (by decide)).2.1 (M 74 (by omega)).1 (M 75 (by omega)).2.2 (M 76 (by omega)).1 (M 77 (by omega)).2.1, TP_k hP (C 9 0 (by decide)).1 (C 9 0 (by decide)).2.2.2 (M 1 (by omega)).1 (M 0 (by omega)).2.2, WD_k hW ?_ (M 3 (by omega)).2.2, FTQ_k hQ (C 6 0 (by decide)).1 (M 4 (by omega)).1 (M 5 (by omega)).1⟩
  · rw [(C 11 0 (by decide)).2.2.1]
  · rw [(C 6 0 (by decide)).2.2.1]
  · rw [(C 0 0 (by decide)).2.2.1]
  · rw [(M 50 (by omega)).2.2]
  · rw [(C 11 0 (by decide)).1]
  · rw [(C 9 0 (by decide)).2.2.2]
theorem rans_d (h : RELs G n r σ τ) (ha : dans n r σ τ ca cm) : rans ca cm := by
  obtain ⟨v, σ', τ', e1, e2, hc, hm, hC'⟩ := ha
  obtain ⟨hT, hR, hC, hF, hD, hI, hP, hW, hQ⟩ := h
  have n6 := hT.1.n6
  have r2 := hT.1.r2
  have C : ∀ c o, ¬ (c = 1 ∨ (c = 5 ∧ o = 0)) → gI σ' c o = gI σ c o ∧ gL σ' c o = gL σ c o ∧ gR σ' c o = gR σ c o ∧ gA σ' c o = gA σ c o := fun c o z => hc c o z
  have M : ∀ k, ¬ (k = 2 ∨ (43 ≤ k ∧ k ≤ 59) ∨ k = 72 ∨ k = 73) → gI τ' 12 0 k = gI τ 12 0 k ∧ gL τ' 12 0 k = gL τ 12 0 k ∧ gA τ' 12 0 k = gA τ 12 0 k := fun k z => hm k z
  have mA : ∀ k j, j < hfk k → gA τ' 12 0 k j = gA τ 12 0 k j := fun k j hj => by
    by_cases e : k < 33 ∧ 19 ≤ k
    · rw [(M k (by omega)).2.2]
    · exfalso
      unfold hfk at hj
      rw [if_neg (by omega), if_neg (by omega), if_neg (by omega), if_neg (by omega)] at hj
      omega
  refine ⟨v, σ', τ', e1, e2, G, n, r, RT_k hT (C 2 G (by omega)).1 (C 2 G (by omega)).2.2.2 (fun w _ => ⟨(C 3 _ (by omega)).1, (C 3 _ (by omega)).2.2.2⟩) ⟨?_, ?_, ?_⟩ (M 12 (by omega)).1 (M 13 (by omega)).1 (M 14 (by omega)).1 mA, RC_k hR (C 0 0 (by omega)).1 (C 0 0 (by omega)).2.2.2 (C 2 G (by omega)).1 (C 2 G (by omega)).2.2.2, hC', FP_k n6 r2 hF (C 5 (3 + G) (by omega)).2.2.2 (C 5 (3 + G) (by omega)).1 mA, TD_k hD (C 10 0 (by omega)).1 (fun k _ => ?_) (M 67 (by omega)).1 (M 68 (by omega)).1 (M 69 (by omega)).2.2, IM_k hI ?_ (C 5 2 (by omega)).2.2.2 (C 5 2 (by omega)).1 (C 5 2 (by omega)).2.1 (M 74 (by omega)).1 (M 75 (by omega)).2.2 (M 76 (by omega)).1 (M 77 (by omega)).2.1, TP_k hP (C 9 0 (by omega)).1 (C 9 0 (by omega)).2.2.2 (M 1 (by omega)).1 (M 0 (by omega)).2.2, WD_k hW ?_ (M 3 (by omega)).2.2, FTQ_k hQ (C 6 0 (by omega)).1 (M 4 (by omega)).1 (M 5 (by omega)).1⟩
  · rw [(C 11 0 (by omega)).2.2.1]
  · rw [(C 6 0 (by omega)).2.2.1]
  · rw [(C 0 0 (by omega)).2.2.1]
  · rw [(C 10 0 (by omega)).2.2.2]
  · rw [(C 11 0 (by omega)).1]
  · rw [(C 9 0 (by omega)).2.2.2]
theorem r_keep (h : RELs G n r σ τ) : rans (den 150 [vR 11 0 0] σ) (den 285 [vR 12 0 0] τ) := by
  obtain ⟨hT, hR, hC, hF, hD, hI, hP, hW, hQ⟩ := h
  obtain ⟨v, σ', τ', e1, e2, hc, hr, hm, hI'⟩ := c_keep hT.1 hC
  have n6 := hT.1.n6
  have r2 := hT.1.r2
  have C : ∀ c o, ¬ ((c = 5 ∧ o = 2) ∨ c = 11) → gI σ' c o = gI σ c o ∧ gL σ' c o = gL σ c o ∧ gR σ' c o = gR σ c o ∧ gA σ' c o = gA σ c o := fun c o z => hc c o z
  have M : ∀ k, ¬ (k = 2 ∨ 74 ≤ k) → gI τ' 12 0 k = gI τ 12 0 k ∧ gL τ' 12 0 k = gL τ 12 0 k ∧ gA τ' 12 0 k = gA τ 12 0 k := fun k z => hm k z
  have mA : ∀ k j, j < hfk k → gA τ' 12 0 k j = gA τ 12 0 k j := fun k j hj => by
    by_cases e : k < 33 ∧ 19 ≤ k
    · rw [(M k (by omega)).2.2]
    · exfalso
      unfold hfk at hj
      rw [if_neg (by omega), if_neg (by omega), if_neg (by omega), if_neg (by omega)] at hj
      omega
  refine ⟨v, σ', τ', e1, e2, G, n, r, RT_k hT (C 2 G (by omega)).1 (C 2 G (by omega)).2.2.2 (fun w _ => ⟨(C 3 _ (by omega)).1, (C 3 _ (by omega)).2.2.2⟩) ⟨?_, ?_, ?_⟩ (M 12 (by omega)).1 (M 13 (by omega)).1 (M 14 (by omega)).1 mA, RC_k hR (C 0 0 (by omega)).1 (C 0 0 (by omega)).2.2.2 (C 2 G (by omega)).1 (C 2 G (by omega)).2.2.2, CU_k n6 r2 hC (C 5 0 (by omega)).2.2.2 (C 5 0 (by omega)).1 (C 5 0 (by omega)).2.1 (C 1 0 (by omega)).1 (C 1 0 (by omega)).2.2.2 (plM_e (fun k _ _ => (M k (by omega)).2.2)) ?_ (M 51 (by omega)).2.1 (M 72 (by omega)).1 (M 73 (by omega)).2.2, FP_k n6 r2 hF (C 5 (3 + G) (by omega)).2.2.2 (C 5 (3 + G) (by omega)).1 mA, TD_k hD (C 10 0 (by omega)).1 (fun k _ => ?_) (M 67 (by omega)).1 (M 68 (by omega)).1 (M 69 (by omega)).2.2, hI', TP_k hP (C 9 0 (by omega)).1 (C 9 0 (by omega)).2.2.2 (M 1 (by omega)).1 (M 0 (by omega)).2.2, WD_k hW ?_ (M 3 (by omega)).2.2, FTQ_k hQ (C 6 0 (by omega)).1 (M 4 (by omega)).1 (M 5 (by omega)).1⟩
  · rw [hr]
  · rw [hr]
  · rw [hr]
  · rw [(M 50 (by omega)).2.2]
  · rw [(C 10 0 (by omega)).2.2.2]
  · rw [(C 9 0 (by omega)).2.2.2]
theorem r_feed (h : RELs G n r σ τ) (x1 x2 x3 x4 x5 : Int32) : rans (den 111 [vR 11 0 0, vI x1, vI x2, vI x3, vI x4, vI x5] σ) (den 164 [vR 12 0 0, vI x1, vI x2, vI x3, vI x4, vI x5] τ) := by
  obtain ⟨hT, hR, hC, hF, hD, hI, hP, hW, hQ⟩ := h
  obtain ⟨v, σ', τ', e1, e2, hc, h9, hm, hP'⟩ := c_feed hP x1 x2 x3 x4 x5
  have n6 := hT.1.n6
  have r2 := hT.1.r2
  have C : ∀ c o, ¬ (c = 9) → gI σ' c o = gI σ c o ∧ gL σ' c o = gL σ c o ∧ gR σ' c o = gR σ c o ∧ gA σ' c o = gA σ c o := fun c o z => hc c o z
  have M : ∀ k, ¬ (k < 3) → gI τ' 12 0 k = gI τ 12 0 k ∧ gL τ' 12 0 k = gL τ 12 0 k ∧ gA τ' 12 0 k = gA τ 12 0 k := fun k z => hm k z
  have mA : ∀ k j, j < hfk k → gA τ' 12 0 k j = gA τ 12 0 k j := fun k j hj => by
    by_cases e : k < 33 ∧ 19 ≤ k
    · rw [(M k (by omega)).2.2]
    · exfalso
      unfold hfk at hj
      rw [if_neg (by omega), if_neg (by omega), if_neg (by omega), if_neg (by omega)] at hj
      omega
  refine ⟨v, σ', τ', e1, e2, G, n, r, RT_k hT (C 2 G (by omega)).1 (C 2 G (by omega)).2.2.2 (fun w _ => ⟨(C 3 _ (by omega)).1, (C 3 _ (by omega)).2.2.2⟩) ⟨?_, ?_, ?_⟩ (M 12 (by omega)).1 (M 13 (by omega)).1 (M 14 (by omega)).1 mA, RC_k hR (C 0 0 (by omega)).1 (C 0 0 (by omega)).2.2.2 (C 2 G (by omega)).1 (C 2 G (by omega)).2.2.2, CU_k n6 r2 hC (C 5 0 (by omega)).2.2.2 (C 5 0 (by omega)).1 (C 5 0 (by omega)).2.1 (C 1 0 (by omega)).1 (C 1 0 (by omega)).2.2.2 (plM_e (fun k _ _ => (M k (by omega)).2.2)) ?_ (M 51 (by omega)).2.1 (M 72 (by omega)).1 (M 73 (by omega)).2.2, FP_k n6 r2 hF (C 5 (3 + G) (by omega)).2.2.2 (C 5 (3 + G) (by omega)).1 mA, TD_k hD (C 10 0 (by omega)).1 (fun k _ => ?_) (M 67 (by omega)).1 (M 68 (by omega)).1 (M 69 (by omega)).2.2, IM_k hI ?_ (C 5 2 (by omega)).2.2.2 (C 5 2 (by omega)).1 (C 5 2 (by omega)).2.1 (M 74 (by omega)).1 (M 75 (by omega)).2.2 (M 76 (by omega)).1 (M 77 (by omega)).2.1, hP', WD_k hW h9 (M 3 (by omega)).2.2, FTQ_k hQ (C 6 0 (by omega)).1 (M 4 (by omega)).1 (M 5 (by omega)).1⟩
  · rw [(C 11 0 (by omega)).2.2.1]
  · rw [(C 6 0 (by omega)).2.2.1]
  · rw [(C 0 0 (by omega)).2.2.1]
  · rw [(M 50 (by omega)).2.2]
  · rw [(C 10 0 (by omega)).2.2.2]
  · rw [(C 11 0 (by omega)).1]
end RLK
