/-! WHAT A QUESTION MAY CHANGE: the trial course, the class's helpers; the reference's second halves and switches -/
def scC (σ σ' : ST) : Prop :=
  (∀ c, c ≠ 0 → c ≠ 4 → c ≠ 5 → c ≠ 7 → c ≠ 8 → gI σ' c = gI σ c ∧ gL σ' c = gL σ c ∧ (c ≠ 10 → gA σ' c = gA σ c)) ∧
  (∀ p, p ≠ 1 → gI σ' 0 p = gI σ 0 p ∧ gA σ' 0 p = gA σ 0 p ∧ gI σ' 5 p = gI σ 5 p ∧ gL σ' 5 p = gL σ 5 p ∧ gA σ' 5 p = gA σ 5 p) ∧
  (∀ p k, k ≠ 5 → gA σ' 10 p k = gA σ 10 p k) ∧ (∀ c p k, ¬ (c = 0 ∧ p = 1) → gR σ' c p k = gR σ c p k)
def scM (τ τ' : ST) : Prop :=
  (∀ k, k ≠ 2 → k ≠ 43 → (k < 52 ∨ 65 < k) → gI τ' 12 0 k = gI τ 12 0 k) ∧ (∀ k, (k < 44 ∨ 50 < k) → k ≠ 62 → k ≠ 66 → k ≠ 70 → k ≠ 71 → gA τ' 12 0 k = gA τ 12 0 k) ∧
  (∀ j, j < 6 → gA τ' 12 0 44 j = gA τ 12 0 44 j ∧ gA τ' 12 0 45 j = gA τ 12 0 45 j ∧ gA τ' 12 0 46 j = gA τ 12 0 46 j) ∧
  (∀ j, j < 2 → gA τ' 12 0 47 j = gA τ 12 0 47 j ∧ gA τ' 12 0 48 j = gA τ 12 0 48 j ∧ gA τ' 12 0 49 j = gA τ 12 0 49 j) ∧
  gA τ' 12 0 50 0 = gA τ 12 0 50 0 ∧ ∀ k, gL τ' 12 0 k = gL τ 12 0 k
section SC
variable {σ σ' σ'' τ τ' τ'' : ST}
theorem scC_0 : scC σ σ := ⟨fun _ _ _ _ _ _ => ⟨rfl, rfl, fun _ => rfl⟩, fun _ _ => ⟨rfl, rfl, rfl, rfl, rfl⟩, fun _ _ _ => rfl, fun _ _ _ _ => rfl⟩
theorem scC_t (h1 : scC σ σ') (h2 : scC σ' σ'') : scC σ σ'' := by
  refine ⟨fun c a b d e f => ?_, fun p hp => ?_, fun p k hk => (h2.2.2.1 p k hk).trans (h1.2.2.1 p k hk), fun c p k hk => (h2.2.2.2 c p k hk).trans (h1.2.2.2 c p k hk)⟩
  · obtain ⟨x1, x2, x3⟩ := h1.1 c a b d e f
    obtain ⟨y1, y2, y3⟩ := h2.1 c a b d e f
    exact ⟨y1.trans x1, y2.trans x2, fun h => (y3 h).trans (x3 h)⟩
  · obtain ⟨x1, x2, x3, x4, x5⟩ := h1.2.1 p hp
    obtain ⟨y1, y2, y3, y4, y5⟩ := h2.2.1 p hp
    exact ⟨y1.trans x1, y2.trans x2, y3.trans x3, y4.trans x4, y5.trans x5⟩
theorem scM_0 : scM τ τ := ⟨fun _ _ _ _ => rfl, fun _ _ _ _ _ _ => rfl, fun _ _ => ⟨rfl, rfl, rfl⟩, fun _ _ => ⟨rfl, rfl, rfl⟩, rfl, fun _ => rfl⟩
theorem scM_t (h1 : scM τ τ') (h2 : scM τ' τ'') : scM τ τ'' := by
  refine ⟨fun k a b c => (h2.1 k a b c).trans (h1.1 k a b c), fun k a b c d e => (h2.2.1 k a b c d e).trans (h1.2.1 k a b c d e), fun j hj => ?_, fun j hj => ?_, h2.2.2.2.2.1.trans h1.2.2.2.2.1, fun k => (h2.2.2.2.2.2 k).trans (h1.2.2.2.2.2 k)⟩
  · obtain ⟨x1, x2, x3⟩ := h1.2.2.1 j hj
    obtain ⟨y1, y2, y3⟩ := h2.2.2.1 j hj
    exact ⟨y1.trans x1, y2.trans x2, y3.trans x3⟩
  · obtain ⟨x1, x2, x3⟩ := h1.2.2.2.1 j hj
    obtain ⟨y1, y2, y3⟩ := h2.2.2.2.1 j hj
    exact ⟨y1.trans x1, y2.trans x2, y3.trans x3⟩
theorem scC_fr (h : frC 1 σ σ') : scC σ σ' :=
  ⟨fun c _ _ h5 _ _ => ⟨(h.1 c h5).1, (h.1 c h5).2.2, fun _ => (h.1 c h5).2.1⟩,
   fun p hp => ⟨congrFun (h.1 0 (by decide)).1 p, congrFun (h.1 0 (by decide)).2.1 p, (h.2.1 p hp).1, (h.2.1 p hp).2.2, (h.2.1 p hp).2.1⟩,
   fun p k _ => congrFun (congrFun (h.1 10 (by decide)).2.1 p) k, fun c p k _ => congrFun (congrFun (congrFun h.2.2.1 c) p) k⟩
theorem scM_fr (h : frM 1 τ τ') (hd : gI τ 12 0 52 = 0) : scM τ τ' :=
  ⟨fun k _ h43 _ => h.1 k h43, fun k hk _ _ _ _ => h.2.1 k (by omega), fun j hj => ⟨(h.2.2.1 j (by omega)).1, (h.2.2.1 j (by omega)).2, congrFun (h.2.1 46 (by omega)) j⟩,
   fun j hj => h.2.2.2.1 j (by omega), h.2.2.2.2.1 0 (by decide), fun k => by
    by_cases e : k = 51
    · rw [e]; exact h.2.2.2.2.2.2 hd
    · exact h.2.2.2.2.2.1 k e⟩
theorem scC_B (B : Nat → Nat → Nat → Nat → Int64) : scC σ (wB σ B) := scC_0
theorem scM_E (B : Nat → Nat → Nat → Nat → Int64) (e : Int32) : scM τ (wE τ B e) :=
  ⟨fun _ _ h43 _ => u3_nk h43, fun _ _ _ _ _ _ => rfl, fun _ _ => ⟨rfl, rfl, rfl⟩, fun _ _ => ⟨rfl, rfl, rfl⟩, rfl, fun _ => rfl⟩
theorem scM_I {k : Nat} (hk : k = 2 ∨ k = 43 ∨ 52 ≤ k ∧ k ≤ 65) (v : Int32) : scM τ (sI τ 12 0 k v) :=
  ⟨fun _ _ _ _ => u3_nk (by omega), fun _ _ _ _ _ _ => rfl, fun _ _ => ⟨rfl, rfl, rfl⟩, fun _ _ => ⟨rfl, rfl, rfl⟩, rfl, fun _ => rfl⟩
theorem scM_A {k : Nat} (hk : k = 62 ∨ k = 66 ∨ k = 70 ∨ k = 71) (f : Nat → Int32) : scM τ (sA τ 12 0 k f) :=
  ⟨fun _ _ _ _ => rfl, fun _ _ _ _ _ _ => u3_nk (by omega), fun _ _ => ⟨by rw [gA_n (by omega)], by rw [gA_n (by omega)], by rw [gA_n (by omega)]⟩, fun _ _ => ⟨by rw [gA_n (by omega)], by rw [gA_n (by omega)], by rw [gA_n (by omega)]⟩, by rw [gA_n (by omega)], fun _ => rfl⟩
theorem scM_6 {k i : Nat} (hk : k = 44 ∨ k = 45 ∨ k = 46) (hi : 6 ≤ i) (v : Int32) : scM τ (sA τ 12 0 k (upd (gA τ 12 0 k) i v)) := by
  refine ⟨fun _ _ _ _ => rfl, fun _ _ _ _ _ _ => u3_nk (by omega), fun j hj => ?_, fun _ _ => ⟨by rw [gA_n (by omega)], by rw [gA_n (by omega)], by rw [gA_n (by omega)]⟩, by rw [gA_n (by omega)], fun _ => rfl⟩
  rcases hk with rfl | rfl | rfl
  · exact ⟨by rw [gA_s, upd_o (by omega)], by rw [gA_n (by decide)], by rw [gA_n (by decide)]⟩
  · exact ⟨by rw [gA_n (by decide)], by rw [gA_s, upd_o (by omega)], by rw [gA_n (by decide)]⟩
  · exact ⟨by rw [gA_n (by decide)], by rw [gA_n (by decide)], by rw [gA_s, upd_o (by omega)]⟩
theorem scM_2 {k i : Nat} (hk : k = 47 ∨ k = 48 ∨ k = 49) (hi : 2 ≤ i) (v : Int32) : scM τ (sA τ 12 0 k (upd (gA τ 12 0 k) i v)) := by
  refine ⟨fun _ _ _ _ => rfl, fun _ _ _ _ _ _ => u3_nk (by omega), fun _ _ => ⟨by rw [gA_n (by omega)], by rw [gA_n (by omega)], by rw [gA_n (by omega)]⟩, fun j hj => ?_, by rw [gA_n (by omega)], fun _ => rfl⟩
  rcases hk with rfl | rfl | rfl
  · exact ⟨by rw [gA_s, upd_o (by omega)], by rw [gA_n (by decide)], by rw [gA_n (by decide)]⟩
  · exact ⟨by rw [gA_n (by decide)], by rw [gA_s, upd_o (by omega)], by rw [gA_n (by decide)]⟩
  · exact ⟨by rw [gA_n (by decide)], by rw [gA_n (by decide)], by rw [gA_s, upd_o (by omega)]⟩
theorem scM_y (v : Int32) : scM τ (sA τ 12 0 50 (upd (gA τ 12 0 50) 1 v)) :=
  ⟨fun _ _ _ _ => rfl, fun _ _ _ _ _ _ => u3_nk (by omega), fun _ _ => ⟨by rw [gA_n (by decide)], by rw [gA_n (by decide)], by rw [gA_n (by decide)]⟩, fun _ _ => ⟨by rw [gA_n (by decide)], by rw [gA_n (by decide)], by rw [gA_n (by decide)]⟩, by rw [gA_s, upd_o (by decide)], fun _ => rfl⟩
/-- writes of the class that a question may do -/
theorem scC_A {c p k : Nat} (h : c = 4 ∨ c = 7 ∨ c = 8 ∨ (c = 0 ∧ p = 1) ∨ (c = 5 ∧ p = 1) ∨ (c = 10 ∧ k = 5)) (f : Nat → Int32) : scC σ (sA σ c p k f) := by
  refine ⟨fun c' h0 h4 h5 h7 h8 => ⟨rfl, rfl, fun h10 => u3_nc (by omega)⟩, fun p' hp => ⟨rfl, ?_, rfl, rfl, ?_⟩, fun p' k' hk => ?_, fun _ _ _ _ => rfl⟩
  · by_cases e : c = 0
    · exact u3_no (by omega)
    · funext d
      show u3 _ _ _ _ _ 0 p' d = _
      rw [u3_nc (fun z => e z.symm)]
      rfl
  · by_cases e : c = 5
    · exact u3_no (by omega)
    · funext d
      show u3 _ _ _ _ _ 5 p' d = _
      rw [u3_nc (fun z => e z.symm)]
      rfl
  · by_cases e : c = 10
    · exact u3_nk (by omega)
    · show u3 _ _ _ _ _ 10 p' k' = _
      rw [u3_nc (fun z => e z.symm)]
      rfl
theorem scC_I {c p k : Nat} (h : c = 4 ∨ c = 7 ∨ c = 8 ∨ (c = 0 ∧ p = 1) ∨ (c = 5 ∧ p = 1)) (v : Int32) : scC σ (sI σ c p k v) := by
  refine ⟨fun c' h0 h4 h5 h7 h8 => ⟨u3_nc (by omega), rfl, fun _ => rfl⟩, fun p' hp => ⟨?_, rfl, ?_, rfl, rfl⟩, fun _ _ _ => rfl, fun _ _ _ _ => rfl⟩
  · by_cases e : c = 0
    · exact u3_no (by omega)
    · funext d
      show u3 _ _ _ _ _ 0 p' d = _
      rw [u3_nc (fun z => e z.symm)]
      rfl
  · by_cases e : c = 5
    · exact u3_no (by omega)
    · funext d
      show u3 _ _ _ _ _ 5 p' d = _
      rw [u3_nc (fun z => e z.symm)]
      rfl
theorem scC_L {k : Nat} (v : Int64) : scC σ (sL σ 5 1 k v) :=
  ⟨fun _ _ _ h5 _ _ => ⟨rfl, u3_nc h5, fun _ => rfl⟩, fun _ hp => ⟨rfl, rfl, rfl, u3_no hp, rfl⟩, fun _ _ _ => rfl, fun _ _ _ _ => rfl⟩
theorem scC_R {k v : Nat} : scC σ (sR σ 0 1 k v) :=
  ⟨fun _ _ _ _ _ _ => ⟨rfl, rfl, fun _ => rfl⟩, fun _ _ => ⟨rfl, rfl, rfl, rfl, rfl⟩, fun _ _ _ => rfl, fun c p k' h => by
    show u3 _ _ _ _ _ c p k' = _
    unfold u3
    rw [if_neg (fun z => h ⟨z.2.1, z.2.2⟩)]
    rfl⟩
end SC
/-- what the questions rest on -/
def RQ (G n r : Nat) (σ τ : ST) : Prop := RT G n r σ τ ∧ PRb n r σ 0 τ 0 ∧ RC G n σ
section RQS
variable {G n r : Nat} {σ σ' τ τ' : ST}
theorem RT_fr (h : RT G n r σ τ) (hG : gI σ' 2 = gI σ 2) (hL : gI σ' 3 = gI σ 3) (hA : gA σ' 2 = gA σ 2) (hK : gA σ' 3 = gA σ 3) (hR : gR σ' 11 0 2 = gR σ 11 0 2 ∧ gR σ' 6 0 4 = gR σ 6 0 4 ∧ gR σ' 0 0 4 = gR σ 0 0 4)
    (hm : ∀ k, 12 ≤ k → k ≤ 32 → gI τ' 12 0 k = gI τ 12 0 k ∧ gA τ' 12 0 k = gA τ 12 0 k) : RT G n r σ' τ' := by
  unfold RT RG LQ at h ⊢
  rw [hG, hA, hL, hK, hR.1, hR.2.1, hR.2.2, (hm 12 (by omega) (by omega)).1, (hm 13 (by omega) (by omega)).1, (hm 14 (by omega) (by omega)).1, (hm 19 (by omega) (by omega)).2, (hm 20 (by omega) (by omega)).2, (hm 22 (by omega) (by omega)).2, (hm 23 (by omega) (by omega)).2, (hm 24 (by omega) (by omega)).2, (hm 27 (by omega) (by omega)).2, (hm 28 (by omega) (by omega)).2, (hm 29 (by omega) (by omega)).2, (hm 30 (by omega) (by omega)).2, (hm 31 (by omega) (by omega)).2, (hm 32 (by omega) (by omega)).2]
  exact h
theorem RT_sc (h : RT G n r σ τ) (hc : scC σ σ') (hm : scM τ τ') : RT G n r σ' τ' := by
  refine RT_fr h (hc.1 2 (by decide) (by decide) (by decide) (by decide) (by decide)).1 (hc.1 3 (by decide) (by decide) (by decide) (by decide) (by decide)).1 ((hc.1 2 (by decide) (by decide) (by decide) (by decide) (by decide)).2.2 (by decide)) ((hc.1 3 (by decide) (by decide) (by decide) (by decide) (by decide)).2.2 (by decide)) ⟨hc.2.2.2 _ _ _ (by decide), hc.2.2.2 _ _ _ (by decide), hc.2.2.2 _ _ _ (by decide)⟩ (fun k h1 h2 => ⟨hm.1 k (by omega) (by omega) (by omega), hm.2.1 k (by omega) (by omega) (by omega) (by omega) (by omega)⟩)
theorem PRb_sc (hn6 : n ≤ 6) (hr2 : r ≤ 2) (h : PRb n r σ 0 τ 0) (hc : scC σ σ') (hm : scM τ τ') : PRb n r σ' 0 τ' 0 := by
  obtain ⟨_, _, c1, _, c2⟩ := hc.2.1 0 (by decide)
  obtain ⟨⟨w, hd, sn, ho, si, hn, h0⟩, y⟩ := h
  unfold PRb PRf
  rw [c1, c2]
  simp only [Nat.mul_zero, Nat.zero_add] at w hd sn ho si hn y ⊢
  refine ⟨⟨fun j hj => ?_, fun j hj => ?_, fun j hj => ?_, fun p hp => ?_, fun p hp => ?_, fun p hp => ?_, h0⟩, ?_⟩
  · rw [(hm.2.2.1 j (by omega)).1]; exact w j hj
  · rw [(hm.2.2.1 j (by omega)).2.1]; exact hd j hj
  · rw [(hm.2.2.1 j (by omega)).2.2]; exact sn j hj
  · rw [(hm.2.2.2.1 p (by omega)).1]; exact ho p hp
  · rw [(hm.2.2.2.1 p (by omega)).2.1]; exact si p hp
  · rw [(hm.2.2.2.1 p (by omega)).2.2]; exact hn p hp
  · rw [hm.2.2.2.2.1]; exact y
theorem RC_sc (h : RC G n σ) (hc : scC σ σ') : RC G n σ' := by
  unfold RC at h ⊢
  rw [(hc.1 2 (by decide) (by decide) (by decide) (by decide) (by decide)).1, (hc.1 2 (by decide) (by decide) (by decide) (by decide) (by decide)).2.2 (by decide), (hc.2.1 0 (by decide)).1, (hc.2.1 0 (by decide)).2.1]
  exact h
theorem RQ_sc (h : RQ G n r σ τ) (hc : scC σ σ') (hm : scM τ τ') : RQ G n r σ' τ' := ⟨RT_sc h.1 hc hm, PRb_sc h.1.1.n6 h.1.1.r2 h.2.1 hc hm, RC_sc h.2.2 hc⟩
end RQS
/-- the reference's switches laid back -/
def plT (τ : ST) : ST := sI (sI (sI (sI (sI (sI (sI (sI τ 12 0 52 0) 12 0 53 0) 12 0 54 0) 12 0 55 0) 12 0 56 0) 12 0 57 0) 12 0 58 (-1)) 12 0 59 0
theorem m_plain (τ : ST) : den 207 [vR 12 0 0] τ = some (none, plT τ) := by
  rw [dX12_plainTried, bX12_plainTried_0]
  rfl
theorem scM_plT (τ : ST) : scM τ (plT τ) :=
  scM_t (scM_I (by omega) _) (scM_t (scM_I (by omega) _) (scM_t (scM_I (by omega) _) (scM_t (scM_I (by omega) _) (scM_t (scM_I (by omega) _) (scM_t (scM_I (by omega) _) (scM_t (scM_I (by omega) _) (scM_I (by omega) _)))))))
theorem RF_plT (τ : ST) : RF (plT τ) := ⟨rfl, rfl, rfl, rfl, rfl, rfl, rfl, rfl⟩
theorem and_m1 (x : Int32) : x &&& ((0 : Int32) ^^^ -1) = x := by
  have : (0 : Int32) ^^^ -1 = -1 := by decide
  rw [this]
  exact Int32.and_neg_one
theorem dEff_RF {τ : ST} (h : RF τ) {j : Nat} (hj : j < 6) : dEff τ j = gA τ 12 0 23 j := by
  unfold dEff
  rw [if_pos h.2.2.1, h.2.2.2.2.2.2.1, if_neg]
  intro z
  have : ¬ nI j < 0 := nI_pos (by omega)
  rw [z] at this
  exact this (by decide)
theorem sEff_RF {τ : ST} (h : RF τ) {b j : Nat} : sEff τ b j = gA τ 12 0 46 (6 * b + j) := by
  unfold sEff
  rw [if_pos h.2.2.2.2.1, h.2.2.2.2.2.1, and_m1]
/-- judging by the real course -/
theorem YQ_real {G n r : Nat} {σ τ : ST} (hQ : RQ G n r σ τ) (hF : RF τ) : YQ SA G n r σ 0 τ 0 := by
  have hn6 := hQ.1.1.n6
  obtain ⟨hT, ⟨⟨w, hd, sn, ho, si, hn, h0⟩, y⟩, hC⟩ := hQ
  refine ⟨hT, hT.1.2.1.2.2, fun j hj => ?_, w, hd, fun j hj _ => ?_, ho, si, hn, y⟩
  · rw [dEff_RF hF (by omega), hC.2.2 j hj]
    exact (hT.1.2.2.2.2.2.2.2.2.1 j hj).1
  · rw [sEff_RF hF]
    exact (sn j (by omega)).1
