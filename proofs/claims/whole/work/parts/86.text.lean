/-! TEXT: the beginning -/
section TXT
variable {G n r : Nat} {σ τ : ST}
/-- the reference behind its first words -/
abbrev txM (τ : ST) (x : Int32) : ST := sI (sI (sI (sI (sI (sI τ 12 0 2 0) 12 0 6 x) 12 0 1 0) 12 0 4 0) 12 0 5 (-1)) 12 0 7 0
theorem text_start {H L k : Nat} (hH : gR σ 6 0 4 = H) (hH2 : H < 2) (hLk : L ≤ k) (hk : k ≤ 700) (hT : ∀ j, j < k → TPE σ τ j) (hW : WD σ τ) : ∃ σ1 τ1 p q t,
    den 56 [vR 6 0 0, vI (nI L)] σ = run kX6_read 21 [some (vR 6 0 0), some (vI (nI L)), some (vI 0)] [] σ1 ∧
    (bnd (den 178 [vR 12 0 0] (txM τ (nI L))) fun v τ => run kX12_text 28 [some (vR 12 0 0), some (vI (nI L)), none] (v.toList ++ []) τ) = run kX12_text 32 [some (vR 12 0 0), some (vI (nI L)), some (vI 0)] [] τ1 ∧
    smC (SH H) σ σ1 ∧ rdM (txM τ (nI L)) τ1 ∧ RB L t H σ1 τ1 ∧ TKS L σ1 τ1 p q ∧ RD H 0 0 0 σ1 τ1 ∧ LW H 0 σ1 τ1 ∧ FTQ σ1 τ1 := by
  obtain ⟨σa, a1, a2, a3, a4⟩ := e_gardenclear H σ
  obtain ⟨τa, b1, b2, b3, b4, b5⟩ := m_clear (txM τ (nI L))
  have kA9 : gA σa 9 0 = gA σ 9 0 := (a3 9 0 (fun z => by omega)).2.2.2
  have kA0 : gA τa 12 0 0 = gA τ 12 0 0 := b5 0 (by omega)
  have kA3 : gA τa 12 0 3 = gA τ 12 0 3 := b5 3 (by omega)
  generalize hσc : sI (sI (sI (sI (sI (sI (sI σa 6 0 5 0) 6 0 6 0) 6 0 8 0) 6 0 9 (-1)) 9 0 2 (nI L)) 9 0 3 0) 9 0 4 0 = σc
  have cA : gA σc = gA σa := by rw [← hσc]; rfl
  have c2g : ∀ k, k < 5 → gI σc 2 H k = 0 := fun k hk => by
    rw [← a2.1 k hk, ← hσc]
    have e : ∀ (ρ : ST) (c m : Nat) (v : Int32), c ≠ 2 → gI (sI ρ c 0 m v) 2 H k = gI ρ 2 H k := fun ρ c m v hm => u3_n (fun z => hm z.1.symm)
    rw [e _ 9 4 _ (by decide), e _ 9 3 _ (by decide), e _ 9 2 _ (by decide), e _ 6 9 _ (by decide), e _ 6 8 _ (by decide), e _ 6 6 _ (by decide), e _ 6 5 _ (by decide)]
  have c3g : ∀ w, w < 3 → gI σc 3 (3 * H + w) 1 = 0 := fun w hw => by
    rw [← a2.2.1 w hw, ← hσc]
    rfl
  have c5g : gI σc 5 (3 + H) 0 = 0 := by
    rw [← a2.2.2.1, ← hσc]
    rfl
  have hTZ : TZ L (fun j => (gA τ 12 0 0 j).toNatClampNeg) σc τa := by
    refine ⟨by omega, by rw [← hσc]; rfl, Eq.trans (b4 6 (by omega)) rfl, fun j hj => ?_⟩
    obtain ⟨b, h1, h2, h3⟩ := hT j (by omega)
    have hc : (gA τ 12 0 0 j).toNatClampNeg = b := by
      rw [h2]
      exact nI_clamp (by omega)
    show (gA τ 12 0 0 j).toNatClampNeg < 256 ∧ gA τa 12 0 0 j = nI (gA τ 12 0 0 j).toNatClampNeg ∧ gA σc 9 0 1 j = sbB (gA τ 12 0 0 j).toNatClampNeg
    rw [hc, kA0, cA, kA9]
    exact ⟨h1, h2, h3⟩
  have hWD : WD σc τa := by
    unfold WD
    rw [cA, kA9, kA3]
    exact hW
  have h93 : gI σc 9 0 3 = nI 0 := by rw [← hσc]; rfl
  obtain ⟨p, q, σ1, τ1, _, d1, d2, d3, d4, d5⟩ := token_pair hTZ hWD (q := 0) (Nat.zero_le _) h93 (Eq.trans (b4 7 (by omega)) rfl)
  have u3' := fuC_w d3
  have u4' := fuM_w d4
  have hR0 : RD H 0 0 0 σc τa := by
    obtain ⟨m15, m16, m17, m38, ⟨m1, m2, m3, m4⟩, m27, m25⟩ := b2
    have e4 : ∀ j, j < 6 → gA σc 5 (3 + H) 4 j = 0 := fun j hj => by rw [cA]; exact (a2.2.2.2.1 j hj).2.2
    refine ⟨⟨by decide, by decide, by decide, fun z => absurd rfl z⟩, ⟨c2g 0 (by decide), m15, c2g 1 (by decide), m16, c2g 4 (by decide), m38⟩, ⟨⟨0, by decide, c2g 2 (by decide), m3⟩, ⟨0, by decide, c2g 3 (by decide), m4⟩, ?_, ?_⟩, fun j hj => absurd hj (Nat.not_lt_zero _), fun j hj => ⟨Eq.trans (e4 j hj) (m25 j hj).symm, 0, by decide, fun _ => rfl, e4 j hj, bit_0 _⟩, ⟨fun j hj => ?_, fun p hp => absurd hp (Nat.not_lt_zero _)⟩, fun p hp => ?_, c5g⟩
    · rw [m1, ← hσc]; rfl
    · rw [m2, ← hσc]; rfl
    · rw [cA]; exact (a2.2.2.2.1 j hj).2.1
    · rw [cA]; exact (a2.2.2.2.2 p hp).2
  have hL0 : LW H 0 σc τa := ⟨b2.2.2.1, fun w hw => ⟨0, by decide, c3g w hw, Or.inl ⟨rfl, b2.2.2.2.2.2.1 w hw⟩⟩⟩
  have hQ0 : FTQ σc τa := ⟨Eq.trans (by rw [← hσc]; rfl : gI σc 6 0 8 = 0) (b4 4 (by omega)).symm, Eq.trans (by rw [← hσc]; rfl : gI σc 6 0 9 = -1) (b4 5 (by omega)).symm⟩
  have hB0 : RB L (fun j => (gA τ 12 0 0 j).toNatClampNeg) H σc τa := by
    refine ⟨hTZ, hWD, ?_, hH2, by rw [← hσc]; rfl, Eq.trans (b4 1 (by omega)) rfl⟩
    rw [← hH, ← a4, ← hσc]
    rfl
  refine ⟨σ1, τ1, p, q, fun j => (gA τ 12 0 0 j).toNatClampNeg, ?_, ?_, ?_, rdM_t b3 (rdM_f u4'), RB_f hB0 u3' u4', d5, RD_f hR0 u3' u4', LW_f hL0 u3' u4', FTQ_f hQ0 u3' u4'⟩
  · rw [dX6_read, bX6_read_0, hH, a1, bnd_s, tl_n, bX6_read_3, dX9_begin, bX9_begin_0]
    by_cases h7 : L < 700
    · rw [if_pos (show nI L < 700 from nI_lt (b := 700) h7 (by decide)), hσc, d1, bnd_s, tl_n, bX9_begin_16, bnd_s, tl_n, bX6_read_19]
    · have e7 : L = 700 := by omega
      subst e7
      rw [if_neg (show ¬ nI 700 < 700 by decide), show (700 : Int32) = nI 700 from rfl, hσc, d1, bnd_s, tl_n, bX9_begin_16, bnd_s, tl_n, bX6_read_19]
  · rw [b1, bnd_s, tl_n, bX12_text_28, d2, bnd_s, tl_n, bX12_text_30]
    rfl
  · have s6 : SH H 6 0 := Or.inr (Or.inl rfl)
    have s9 : SH H 9 0 := Or.inl rfl
    have : smC (SH H) σa σc := by
      rw [← hσc]
      exact smC_t (smC_I s6 _) (smC_t (smC_I s6 _) (smC_t (smC_I s6 _) (smC_t (smC_I s6 _) (smC_t (smC_I s9 _) (smC_t (smC_I s9 _) (smC_I s9 _))))))
    exact smC_t (smC_w a3 (fun c o z => Or.inr (Or.inr z))) (smC_t this (smC_f u3'))
/-- what beginAnew may change -/
abbrev SBA : Nat → Nat → Prop := fun c o => c = 0 ∨ c = 1 ∨ (c = 5 ∧ o = 0) ∨ c = 6 ∨ c = 10 ∨ c = 11
abbrev SBN : Nat → Nat → Prop := fun c o => c = 0 ∨ c = 1 ∨ (c = 5 ∧ o = 0) ∨ c = 10 ∨ c = 11
theorem e_beginAnew {H : Nat} (hG : gR σ 11 0 2 = G) (hH : gR σ 6 0 4 = H) : ∃ σE, den 158 [vR 11 0 0] σ = some (none, σE) ∧ (gR σE 11 0 2 = H ∧ gR σE 6 0 4 = G ∧ gR σE 0 0 4 = H) ∧ (plE (plC σE 0) (plC σ (3 + H)) ∧ gI σE 5 0 0 = gI σ 5 (3 + H) 0 ∧ gL σE 5 0 1 = gL σ 5 (3 + H) 1) ∧
    (gI σE 0 0 6 = 1 ∧ gI σE 0 0 5 = (if gI σ 2 H 2 = 0 then 0 else if gI σ 2 H 2 = 100 then 1 else 2) ∧ ∀ j, j < 6 → gA σE 0 0 1 j = gA σ 2 H 7 j) ∧ (gI σE 10 0 6 = 0 ∧ gI σE 10 0 7 = -1 ∧ gI σE 1 0 6 = 0 ∧ gI σE 11 0 6 = 0) ∧ smC SBA σ σE ∧ gI σE 6 = gI σ 6 := by
  have hif : ∀ (x : Int32) (s : ST), (if x = 0 then (some (none, sI s 0 0 5 0) : RS) else if x = 100 then some (none, sI s 0 0 5 1) else some (none, sI s 0 0 5 2)) = some (none, sI s 0 0 5 (if x = 0 then 0 else if x = 100 then 1 else 2)) := by
    intro x s
    by_cases h : x = 0
    · rw [if_pos h, if_pos h]
    · rw [if_neg h, if_neg h]
      by_cases h' : x = 100
      · rw [if_pos h', if_pos h']
      · rw [if_neg h', if_neg h']
  have hC := bgS_C (sR (sR σ 6 0 4 G) 11 0 2 H) 0 H (3 + H)
  have hS : smC SBN (sR (sR σ 6 0 4 G) 11 0 2 H) (bgS (sR (sR σ 6 0 4 G) 11 0 2 H) 0 H (3 + H)) := by
    have s0 : SBN 0 0 := Or.inl rfl
    unfold bgS
    exact smC_t (smC_R s0 _) (smC_t (bc_sm (S := SBN) (Or.inr (Or.inr (Or.inl ⟨rfl, rfl⟩)))) (smC_t (smC_A s0 _) (smC_t (smC_I s0 _) (smC_I s0 _))))
  have h2 : gI (bgS (sR (sR σ 6 0 4 G) 11 0 2 H) 0 H (3 + H)) 2 H 2 = gI σ 2 H 2 := rfl
  have hr1 : gR (bgS (sR (sR σ 6 0 4 G) 11 0 2 H) 0 H (3 + H)) 11 0 2 = H := rfl
  have hr2 : gR (bgS (sR (sR σ 6 0 4 G) 11 0 2 H) 0 H (3 + H)) 6 0 4 = G := rfl
  have hd := e_begin (sR (sR σ 6 0 4 G) 11 0 2 H) 0 H (3 + H)
  generalize bgS (sR (sR σ 6 0 4 G) 11 0 2 H) 0 H (3 + H) = σb at hC hS h2 hr1 hr2 hd
  obtain ⟨k1, k2, k3, k4, k5, k6, k7, k8⟩ := hC
  have s10 : SBN 10 0 := Or.inr (Or.inr (Or.inr (Or.inl rfl)))
  have hE : smC SBN (sR (sR σ 6 0 4 G) 11 0 2 H) (sI (sI (sI (sI (sI σb 0 0 5 (if gI σ 2 H 2 = 0 then 0 else if gI σ 2 H 2 = 100 then 1 else 2)) 10 0 6 0) 10 0 7 (-1)) 1 0 6 0) 11 0 6 0) :=
    smC_t hS (smC_t (smC_I (S := SBN) (c := 0) (o := 0) (Or.inl rfl) _) (smC_t (smC_I s10 _) (smC_t (smC_I s10 _) (smC_t (smC_I (S := SBN) (c := 1) (o := 0) (Or.inr (Or.inl rfl)) _) (smC_I (S := SBN) (c := 11) (o := 0) (Or.inr (Or.inr (Or.inr (Or.inr rfl)))) _)))))
  refine ⟨sI (sI (sI (sI (sI σb 0 0 5 (if gI σ 2 H 2 = 0 then 0 else if gI σ 2 H 2 = 100 then 1 else 2)) 10 0 6 0) 10 0 7 (-1)) 1 0 6 0) 11 0 6 0, ?_, ⟨hr1, hr2, k1⟩, ⟨⟨k2, k3⟩, k4, k5⟩, ⟨k8, rfl, k6⟩, ⟨rfl, rfl, rfl, rfl⟩, ?_, funext (fun o => (hE 6 o (fun z => by omega)).1)⟩
  · rw [dX11_beginAnew, bX11_beginAnew_0, hG, dX6_exchange, bX6_exchange_0, hH, bnd_s, tl_s, bX11_beginAnew_6, hd, bnd_s, tl_n, bX11_beginAnew_15, dX0_drawBlight, bX0_drawBlight_0, k1, h2, hif, bnd_s, tl_n, bX11_beginAnew_18, dX10_forget, bX10_forget_0, bnd_s, tl_n, bX11_beginAnew_21, dX1_forget, bX1_forget_0, bnd_s, tl_n, bX11_beginAnew_24]
  · have t0 : smC SBA σ (sR (sR σ 6 0 4 G) 11 0 2 H) := smC_t (smC_R (S := SBA) (c := 6) (o := 0) (Or.inr (Or.inr (Or.inr (Or.inl rfl)))) _) (smC_R (S := SBA) (c := 11) (o := 0) (Or.inr (Or.inr (Or.inr (Or.inr (Or.inr rfl))))) _)
    exact smC_t t0 (smC_w hE (fun c o z => by omega))
end TXT
