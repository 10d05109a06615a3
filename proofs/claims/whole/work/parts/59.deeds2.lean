/-! hand, undo, keep, back, go, count -/
section DE2
variable {G n r : Nat} {σ τ : ST}
theorem c_hand (hG : RG G n r σ τ) (hC : CU n r σ τ) (x y : Int32) : dans n r σ τ (den 121 [vR 11 0 0, vI x, vI y] σ) (den 235 [vR 12 0 0, vI x, vI y] τ) := by
  have hn6 := hG.n6
  have hr2 := hG.r2
  have hm : gI (th0 τ) 12 0 12 = nI n := hG.mn
  have hmr : gI (th0 τ) 12 0 13 = nI r := hG.mr
  have s0 : smM KD τ (th0 τ) := smM_I (Or.inl rfl) 0
  have hC0 : CU n r σ (th0 τ) := hC
  rw [dX11_hand, bX11_hand_0, e_isRibbon, hG.cr, bnd_s, tl_s, bX11_hand_3, dX12_hand, bX12_hand_0, m_isRibbon, hmr, bnd_s, tl_s, bX12_hand_6]
  rcases isb_nI (g := x) (n := r) (by omega) with h | ⟨q, hq, rfl, h⟩
  · rw [h, if_pos rfl, if_pos rfl]
    exact ⟨0, _, _, rfl, rfl, smC_0, s0, hC⟩
  rw [h, if_neg i10, if_neg i10, e_isGrower, hG.cn, m_isGrower, hm, bnd_s, bnd_s, tl_s, bX11_hand_7, bX12_hand_10]
  rcases isb_nI (g := y) (n := n) (by omega) with h | ⟨g, hg, rfl, h⟩
  · rw [h, if_pos rfl, if_pos rfl]
    exact ⟨0, _, _, rfl, rfl, smC_0, s0, hC⟩
  have a1 := ob (i := q) (N := 2) (by omega) (by decide)
  have a2 := ob (i := q) (N := 4) (by omega) (by decide)
  have c1 : (nI q).toNatClampNeg = q := nI_clamp (by omega)
  have a3 := ob (i := g) (N := 6) (by omega) (by decide)
  have c3 : (nI g).toNatClampNeg = g := nI_clamp (by omega)
  obtain ⟨eh, H, hH, eH⟩ := hC.1.1.2.2.2.1 q hq
  have eh' : gA (th0 τ) 12 0 47 q = gA σ 5 0 5 q := eh.symm
  rw [h, if_neg i10, if_neg i10]
  simp only [c1, a1, a2, ↓reduceIte, eh']
  by_cases he : gA σ 5 0 5 q = nI g
  · rw [if_pos he, if_pos he]
    exact ⟨0, _, _, rfl, rfl, smC_0, s0, hC⟩
  obtain ⟨σ1, F, v, d1, d2, d3, d4, d5, d6, d7, d8, d9, d10⟩ := deed_pair hn6 hr2 hC0 2 (nI g) (gA σ 5 0 3 g)
  obtain ⟨p1, p2, p3⟩ := sm1_pl d3 0
  have em : nI (v + 1) - 1 = nI v := nI_pred v
  have a4 := ob (i := v) (N := 20) (by omega) (by decide)
  have c4 : (nI v).toNatClampNeg = v := nI_clamp (by omega)
  have hnote : den 18 [vR 1 0 0, vI (nI q), vI (nI g), vR 5 0 0] σ = some (none, sA (sA (sA σ1 1 0 3 (upd (gA σ1 1 0 3) v (nI q))) 1 0 4 (upd (gA σ1 1 0 4) v (gA σ 5 0 5 q))) 1 0 5 (upd (gA σ1 1 0 5) v (gA σ 5 0 6 q))) := by
    rw [dX1_noteHand, bX1_noteHand_0]
    simp only [c3, a3, ↓reduceIte]
    rw [d1, bnd_s, tl_n, bX1_noteHand_8, d5, em]
    simp only [c4, a4, c1, a1, ↓reduceIte]
    rw [p1]
  have hst : ∀ k, gA (sA (sA (sA σ1 1 0 3 (upd (gA σ1 1 0 3) v (nI q))) 1 0 4 (upd (gA σ1 1 0 4) v (gA σ 5 0 5 q))) 1 0 5 (upd (gA σ1 1 0 5) v (gA σ 5 0 6 q))) 5 0 k = gA σ 5 0 k := fun k => by
    have e : gA (sA (sA (sA σ1 1 0 3 (upd (gA σ1 1 0 3) v (nI q))) 1 0 4 (upd (gA σ1 1 0 4) v (gA σ 5 0 5 q))) 1 0 5 (upd (gA σ1 1 0 5) v (gA σ 5 0 6 q))) 5 = gA σ1 5 := by
      show u3 (u3 (u3 σ1.2.2.2.1 1 0 3 _) 1 0 4 _) 1 0 5 _ 5 = _
      rw [u3_nc (by decide), u3_nc (by decide), u3_nc (by decide)]
      rfl
    rw [e]
    exact congrFun p1 k
  have hpass := e_pass (sA (sA (sA σ1 1 0 3 (upd (gA σ1 1 0 3) v (nI q))) 1 0 4 (upd (gA σ1 1 0 4) v (gA σ 5 0 5 q))) 1 0 5 (upd (gA σ1 1 0 5) v (gA σ 5 0 6 q))) 0 (p := q) (g := g) (by omega) (by omega)
  rw [hst 5, hst 6, hst 7, hst 3] at hpass
  have hhand := m_hands (sI (sA (th0 τ) 12 0 73 F) 12 0 72 (nI (v + 1))) (b := 0) (p := q) (g := g) (by omega) (by omega)
  simp only [Nat.mul_zero, Nat.zero_add] at hhand
  have hhand' : den 223 [vR 12 0 0, vI 0, vI (nI q), vI (nI g)] (sI (sA (th0 τ) 12 0 73 F) 12 0 72 (nI (v + 1))) = _ := hhand
  rw [if_neg he, if_neg he, hnote, bnd_s, tl_n, bX11_hand_26, hpass, bnd_s, tl_n, bX11_hand_32, d2, bnd_s, tl_n, bX12_hand_21, hhand', bnd_s, tl_n, bX12_hand_26]
  have smD : smC SD σ σ1 := smC_w d3 (fun c o hc => Or.inl hc)
  have ehd : gA τ 12 0 45 g = gA σ 5 0 3 g := (hC.1.1.2.1 g hg).symm
  have ehq : gA τ 12 0 49 q = gA σ 5 0 7 q := (hC.1.1.2.2.2.2.2.1 q hq).symm
  refine ⟨1, _, _, rfl, rfl, smC_t smD (smC_t (smC_t (dA1 _ _) (smC_t (dA1 _ _) (dA1 _ _))) (smC_t (dA5 _ _) (smC_t (dA5 _ _) (smC_t (dA5 _ _) (dA5 _ _))))), smM_t s0 (smM_t (smM_t (smM_A (by omega) _) (smM_I (by omega) _)) (smM_t (smM_A (by omega) _) (smM_t (smM_A (by omega) _) (smM_t (smM_A (by omega) _) (smM_A (by omega) _))))), ⟨⟨?_, ?_, ?_, ?_, ?_, ?_, ?_⟩, ?_⟩, ?_, ?_, ⟨v + 1, by omega, ?_, rfl, ?_⟩⟩
  · exact fun j hj => by
      show gA σ1 5 0 2 j = _ ∧ ∃ x, x ≤ 999 ∧ gA σ1 5 0 2 j = nI x
      rw [p1]
      exact hC.1.1.1 j hj
  · intro j hj
    show upd (gA σ 5 0 3) g (if gA σ 5 0 3 g < 999 then gA σ 5 0 3 g + 1 else 999) j = upd (gA τ 12 0 45) g (if gA τ 12 0 45 g < 999 then gA τ 12 0 45 g + 1 else 999) j
    rw [ehd]
    by_cases e : j = g
    · rw [e, pk_us, pk_us]
    · rw [upd_o e, upd_o e]
      exact hC.1.1.2.1 j hj
  · exact fun j hj => by
      show gA σ1 5 0 4 j = _ ∧ ∃ x, x < 2 ^ n ∧ (n ≤ j → x = 0) ∧ gA σ1 5 0 4 j = nI x
      rw [p1]
      exact hC.1.1.2.2.1 j hj
  · intro j hj
    show upd (gA σ 5 0 5) q (nI g) j = upd (gA τ 12 0 47) q (nI g) j ∧ ∃ x, x < n ∧ upd (gA σ 5 0 5) q (nI g) j = nI x
    by_cases e : j = q
    · rw [e, pk_us, pk_us]
      exact ⟨rfl, g, hg, rfl⟩
    · rw [upd_o e, upd_o e]
      exact hC.1.1.2.2.2.1 j hj
  · intro j hj
    show upd (gA σ 5 0 6) q 0 j = upd (gA τ 12 0 48) q 0 j
    by_cases e : j = q
    · rw [e, pk_us, pk_us]
    · rw [upd_o e, upd_o e]
      exact hC.1.1.2.2.2.2.1 j hj
  · intro j hj
    show upd (gA σ 5 0 7) q (gA σ 5 0 7 q + 1) j = upd (gA τ 12 0 49) q (gA τ 12 0 49 q + 1) j
    rw [ehq]
    by_cases e : j = q
    · rw [e, pk_us, pk_us]
    · rw [upd_o e, upd_o e]
      exact hC.1.1.2.2.2.2.2.1 j hj
  · intro j h1 h2
    show upd (gA σ 5 0 7) q (gA σ 5 0 7 q + 1) j = 0
    rw [upd_o (by omega)]
    exact hC.1.1.2.2.2.2.2.2 j h1 h2
  · exact fun j hj => by
      show bit (gA σ1 5 0 4 j) (nI j) = 0
      rw [p1]
      exact hC.1.2 j hj
  · show gI σ1 5 0 0 = _
    rw [p2]
    exact hC.2.1
  · show gL σ1 5 0 1 = _
    rw [p3]
    exact hC.2.2.1
  · exact d5
  · have tb : tbP (gA σ1 1 0 0 v) (gA σ1 1 0 1 v) (gA σ1 1 0 2 v) (upd (gA σ1 1 0 3) v (nI q) v) (upd (gA σ1 1 0 4) v (gA σ 5 0 5 q) v) (upd (gA σ1 1 0 5) v (gA σ 5 0 6 q) v) (gA σ1 5 0 2, upd (gA σ 5 0 3) g (if gA σ 5 0 3 g < 999 then gA σ 5 0 3 g + 1 else 999), gA σ1 5 0 4, upd (gA σ 5 0 5) q (nI g), upd (gA σ 5 0 6) q 0, upd (gA σ 5 0 7) q (gA σ 5 0 7 q + 1)) = plC σ 0 := by
      rw [d6, d7, d8, p1, pk_us, pk_us, pk_us]
      unfold tbP
      rw [if_neg (by decide), if_neg (by decide), c1, c3]
      show (gA σ 5 0 2, upd (upd (gA σ 5 0 3) g (if gA σ 5 0 3 g < 999 then gA σ 5 0 3 g + 1 else 999)) g (gA σ 5 0 3 g), gA σ 5 0 4, upd (upd (gA σ 5 0 5) q (nI g)) q (gA σ 5 0 5 q), upd (upd (gA σ 5 0 6) q 0) q (gA σ 5 0 6 q), upd (upd (gA σ 5 0 7) q (gA σ 5 0 7 q + 1)) q (upd (gA σ 5 0 7) q (gA σ 5 0 7 q + 1) q - 1)) = plC σ 0
      rw [upd_b, upd_b, upd_b, pk_us, Int32.add_sub_cancel, upd_b]
      rfl
    refine ⟨⟨⟨g, hg, d7⟩, Or.inr (Or.inr ⟨d6, q, hq, ?_⟩)⟩, ?_, ?_⟩
    · show upd (gA σ1 1 0 3) v (nI q) v = nI q
      rw [pk_us]
    · show PN n r (tbP (gA σ1 1 0 0 v) (gA σ1 1 0 1 v) (gA σ1 1 0 2 v) (upd (gA σ1 1 0 3) v (nI q) v) (upd (gA σ1 1 0 4) v (gA σ 5 0 5 q) v) (upd (gA σ1 1 0 5) v (gA σ 5 0 6 q) v) (gA σ1 5 0 2, upd (gA σ 5 0 3) g (if gA σ 5 0 3 g < 999 then gA σ 5 0 3 g + 1 else 999), gA σ1 5 0 4, upd (gA σ 5 0 5) q (nI g), upd (gA σ 5 0 6) q 0, upd (gA σ 5 0 7) q (gA σ 5 0 7 q + 1))) (plS F (24 * v))
      rw [tb]
      exact d9
    · show UDc n r (gA σ1 1 0 0, gA σ1 1 0 1, gA σ1 1 0 2, upd (gA σ1 1 0 3) v (nI q), upd (gA σ1 1 0 4) v (gA σ 5 0 5 q), upd (gA σ1 1 0 5) v (gA σ 5 0 6 q)) F v (tbP (gA σ1 1 0 0 v) (gA σ1 1 0 1 v) (gA σ1 1 0 2 v) (upd (gA σ1 1 0 3) v (nI q) v) (upd (gA σ1 1 0 4) v (gA σ 5 0 5 q) v) (upd (gA σ1 1 0 5) v (gA σ 5 0 6 q) v) (gA σ1 5 0 2, upd (gA σ 5 0 3) g (if gA σ 5 0 3 g < 999 then gA σ 5 0 3 g + 1 else 999), gA σ1 5 0 4, upd (gA σ 5 0 5) q (nI g), upd (gA σ 5 0 6) q 0, upd (gA σ 5 0 7) q (gA σ 5 0 7 q + 1)))
      rw [tb]
      exact d10 _ (fun i hi => ⟨rfl, rfl, rfl, upd_o (by omega), upd_o (by omega), upd_o (by omega)⟩)
theorem c_undo (hG : RG G n r σ τ) (hC : CU n r σ τ) : dans n r σ τ (den 149 [vR 11 0 0] σ) (den 284 [vR 12 0 0] τ) := by
  have hn6 := hG.n6
  have hr2 := hG.r2
  have s0 : smM KD τ (th0 τ) := smM_I (Or.inl rfl) 0
  obtain ⟨hP, hy, hl, u, hu, u1, u2, u3⟩ := id hC
  rw [dX11_undo, bX11_undo_0, dX1_isEmpty, bX1_isEmpty_0, u1, dX12_undo, bX12_undo_0, u2]
  match u, hu, u1, u2, u3 with
  | 0, _, _, _, _ =>
    rw [if_pos (show nI 0 = 0 from rfl), bnd_s, tl_s, bX11_undo_3, if_neg i10, bX11_undo_12, if_pos (show nI 0 = 0 from rfl)]
    exact ⟨-1, _, _, rfl, rfl, smC_0, s0, hC⟩
  | u + 1, hu, u1, u2, u3 =>
    obtain ⟨⟨⟨g, hg, e1⟩, hk⟩, k2, k3⟩ := u3
    have nz : ¬ nI (u + 1) = 0 := nI_ne0 (by omega) (by omega)
    have em : nI (u + 1) - 1 = nI u := nI_pred u
    have a4 := ob (i := u) (N := 20) (by omega) (by decide)
    have c4 : (nI u).toNatClampNeg = u := nI_clamp (by omega)
    have a3 := ob (i := g) (N := 6) (by omega) (by decide)
    have c3 : (nI g).toNatClampNeg = g := nI_clamp (by omega)
    have h24 : (24 : Int32) * nI u = nI (24 * u) := pk_mul 24 u
    have hx : ar 12 73 = (0, 480) := rfl
    obtain ⟨A4, A5, A6, A7, A8, A9, t1, t2⟩ := m_take (τ := sI (th0 τ) 12 0 72 (nI u)) (a := 24 * u) hx (by decide) (by omega) (by decide)
    have t1' : den 282 [vR 12 0 0, vR 12 0 74, vI (nI (24 * u))] (sI (th0 τ) 12 0 72 (nI u)) = some (none, sA (sA (sA (sA (sA (sA (sI (th0 τ) 12 0 72 (nI u)) 12 0 44 A4) 12 0 45 A5) 12 0 46 A6) 12 0 47 A7) 12 0 48 A8) 12 0 49 A9) := t1
    have e1' : gA σ 1 0 1 u = nI g := e1
    -- the class takes it back
    obtain ⟨σ', b1, b2, b3, b4, b5⟩ : ∃ σ', den 21 [vR 1 0 0, vR 5 0 0] σ = some (some (vI (nI u)), σ') ∧ smC SD σ σ' ∧ plC σ' 0 = tbD (dlC σ) u (plC σ 0) ∧ (gI σ' 1 0 6 = nI u ∧ dlC σ' = dlC σ) ∧ gI σ' 5 0 0 = gI σ 5 0 0 ∧ gL σ' 5 0 1 = gL σ 5 0 1 := by
      rw [dX1_takeBack, bX1_takeBack_0, u1, if_neg nz, em]
      simp only [c4, a4, ↓reduceIte, e1', c3, a3]
      rcases hk with h0 | h0 | ⟨h0, q, hq, e3⟩
      · have h0' : gA σ 1 0 0 u = 0 := h0
        rw [if_pos h0']
        refine ⟨_, rfl, smC_t (dI1 _ _) (dA5 _ _), ?_, ⟨rfl, rfl⟩, rfl, rfl⟩
        show _ = tbP (gA σ 1 0 0 u) (gA σ 1 0 1 u) _ _ _ _ _
        unfold tbP
        rw [if_pos h0', e1', c3]
        rfl
      · have h0' : gA σ 1 0 0 u = 1 := h0
        rw [h0', if_neg i10, if_pos rfl]
        refine ⟨_, rfl, smC_t (dI1 _ _) (dA5 _ _), ?_, ⟨rfl, rfl⟩, rfl, rfl⟩
        show _ = tbP (gA σ 1 0 0 u) (gA σ 1 0 1 u) _ _ _ _ _
        unfold tbP
        rw [h0', if_neg i10, if_pos rfl, e1', c3]
        rfl
      · have h0' : gA σ 1 0 0 u = 2 := h0
        have e3' : gA σ 1 0 3 u = nI q := e3
        have a1 := ob (i := q) (N := 2) (by omega) (by decide)
        have c1 : (nI q).toNatClampNeg = q := nI_clamp (by omega)
        rw [h0', if_neg (by decide), if_neg (by decide), e3']
        simp only [c1, a1, ↓reduceIte]
        refine ⟨_, rfl, smC_t (dI1 _ _) (smC_t (dA5 _ _) (smC_t (dA5 _ _) (smC_t (dA5 _ _) (dA5 _ _)))), ?_, ⟨rfl, rfl⟩, rfl, rfl⟩
        show _ = tbP (gA σ 1 0 0 u) (gA σ 1 0 1 u) _ (gA σ 1 0 3 u) _ _ _
        unfold tbP
        rw [h0', if_neg (by decide), if_neg (by decide), e1', c3, e3', c1]
        rfl
    rw [if_neg nz, bnd_s, tl_s, bX11_undo_3, if_pos rfl, b1, bnd_s, tl_s, bX11_undo_12, if_neg nz, em, h24, t1', bnd_s, tl_n, bX12_undo_22]
    refine ⟨nI u, σ', _, rfl, rfl, b2, smM_t s0 (smM_t (smM_I (by omega) _) (smM_t (smM_A (by omega) _) (smM_t (smM_A (by omega) _) (smM_t (smM_A (by omega) _) (smM_t (smM_A (by omega) _) (smM_t (smM_A (by omega) _) (smM_A (by omega) _))))))), ?_, b5.1.trans hy, b5.2.trans hl, u, by omega, b4.1, rfl, ?_⟩
    · rw [b3]
      exact PN_q hn6 hr2 k2 t2
    · rw [b3, b4.2]
      exact k3
/-- the image -/
def IM (n r : Nat) (σ τ : ST) : Prop := gI σ 11 0 6 = gI τ 12 0 74 ∧ (gI σ 11 0 6 ≠ 0 → PN n r (plC σ 2) (plS (gA τ 12 0 75) 0) ∧ gI σ 5 2 0 = gI τ 12 0 76 ∧ gL σ 5 2 1 = gL τ 12 0 77)
abbrev SI : Nat → Nat → Prop := fun c o => (c = 5 ∧ o = 2) ∨ c = 11
abbrev KI : Nat → Prop := fun k => k = 2 ∨ 74 ≤ k
theorem bc_sm {S : Nat → Nat → Prop} {o q : Nat} (h : S 5 o) : smC S σ (bcS σ o q) :=
  smC_t (smC_I h _) (smC_t (smC_L h _) (smC_t (smC_A h _) (smC_t (smC_A h _) (smC_t (smC_A h _) (smC_t (smC_A h _) (smC_t (smC_A h _) (smC_A h _)))))))
theorem bc_pl {o q : Nat} : plE (plC (bcS σ o q) o) (plC σ q) := by
  refine ⟨fun j hj => ⟨?_, ?_, ?_⟩, fun p hp => ⟨?_, ?_, ?_⟩⟩
  · show gA (bcS σ o q) 5 o 2 j = _
    rw [bcS_2, cpy6 hj]; rfl
  · show gA (bcS σ o q) 5 o 3 j = _
    rw [bcS_3, cpy6 hj]; rfl
  · show gA (bcS σ o q) 5 o 4 j = _
    rw [bcS_4, cpy6 hj]; rfl
  · show gA (bcS σ o q) 5 o 5 p = _
    rw [bcS_5, cpy2 hp]; rfl
  · show gA (bcS σ o q) 5 o 6 p = _
    rw [bcS_6, cpy2 hp]; rfl
  · show gA (bcS σ o q) 5 o 7 p = _
    rw [bcS_7, cpy2 hp]; rfl
theorem c_keep (hG : RG G n r σ τ) (hC : CU n r σ τ) : ∃ (v : Int32) (σ' τ' : ST), den 150 [vR 11 0 0] σ = some (some (vI v), σ') ∧ den 285 [vR 12 0 0] τ = some (some (vI v), τ') ∧ smC SI σ σ' ∧ gR σ' = gR σ ∧ smM KI τ τ' ∧ IM n r σ' τ' := by
  have hn6 := hG.n6
  have hr2 := hG.r2
  have hx : ar 12 75 = (0, 24) := rfl
  obtain ⟨F, f1, f2, _⟩ := m_put (τ := sI (th0 τ) 12 0 74 1) (a := 0) hx (by decide) (by decide) (by decide)
  have f1' : den 281 [vR 12 0 0, vR 12 0 76, vI 0] (sI (th0 τ) 12 0 74 1) = some (none, sA (sI (th0 τ) 12 0 74 1) 12 0 75 F) := f1
  rw [dX11_keep, bX11_keep_0, e_become, bnd_s, tl_n, bX11_keep_6, dX12_keep, bX12_keep_0, f1', bnd_s, tl_n, bX12_keep_11, cl0]
  have ey : gI (bcS σ 2 0) 5 2 0 = gA τ 12 0 50 0 := bcS_0.trans hC.2.1
  have ey' : gA (sA (sI (th0 τ) 12 0 74 1) 12 0 75 F) 12 0 50 0 = gA τ 12 0 50 0 := rfl
  rw [ey, ey']
  refine ⟨gA τ 12 0 50 0, _, _, rfl, rfl, smC_t (bc_sm (S := SI) (Or.inl ⟨rfl, rfl⟩)) (smC_I (S := SI) (c := 11) (o := 0) (Or.inr rfl) _), rfl, smM_t (smM_I (by omega) 0) (smM_t (smM_I (by omega) _) (smM_t (smM_A (by omega) _) (smM_t (smM_I (by omega) _) (smM_L (by omega) _)))), rfl, fun _ => ⟨?_, ey, ?_⟩⟩
  · exact PN_q hn6 hr2 (PN_p hn6 hr2 hC.1 bc_pl) f2
  · show gL (bcS σ 2 0) 5 2 1 = gL τ 12 0 51
    rw [bcS_1]
    exact hC.2.2.1
theorem c_back (hG : RG G n r σ τ) (hC : CU n r σ τ) (hI : IM n r σ τ) : dans n r σ τ (den 151 [vR 11 0 0] σ) (den 286 [vR 12 0 0] τ) := by
  have hn6 := hG.n6
  have hr2 := hG.r2
  have s0 : smM KD τ (th0 τ) := smM_I (Or.inl rfl) 0
  rw [dX11_back, bX11_back_0, dX12_back, bX12_back_0, ← hI.1]
  by_cases h0 : gI σ 11 0 6 = 0
  · rw [if_pos h0, if_pos h0]
    exact ⟨-1, _, _, rfl, rfl, smC_0, s0, hC⟩
  obtain ⟨i1, i2', i3⟩ := hI.2 h0
  have hx : ar 12 75 = (0, 24) := rfl
  obtain ⟨A4, A5, A6, A7, A8, A9, t1, t2⟩ := m_take (τ := th0 τ) (a := 0) hx (by decide) (by decide) (by decide)
  have t1' : den 282 [vR 12 0 0, vR 12 0 76, vI 0] (th0 τ) = some (none, sA (sA (sA (sA (sA (sA (th0 τ) 12 0 44 A4) 12 0 45 A5) 12 0 46 A6) 12 0 47 A7) 12 0 48 A8) 12 0 49 A9) := t1
  rw [if_neg h0, if_neg h0, e_become, bnd_s, tl_n, bX11_back_11, dX1_forget, bX1_forget_0, bnd_s, tl_n, bX11_back_14, t1', bnd_s, tl_n, bX12_back_13, cl0, pk_us]
  have ey : gI (sI (bcS σ 0 2) 1 0 6 0) 5 0 0 = gI τ 12 0 76 := (bcS_0 (σ := σ) (o := 0) (q := 2)).trans i2'
  have ey' : gI (sA (sA (sA (sA (sA (sA (th0 τ) 12 0 44 A4) 12 0 45 A5) 12 0 46 A6) 12 0 47 A7) 12 0 48 A8) 12 0 49 A9) 12 0 76 = gI τ 12 0 76 := rfl
  rw [ey, ey']
  refine ⟨gI τ 12 0 76, _, _, rfl, rfl, smC_t (bc_sm (S := SD) (Or.inr ⟨rfl, rfl⟩)) (dI1 _ _), smM_t s0 (smM_t (smM_t (smM_A (by omega) _) (smM_t (smM_A (by omega) _) (smM_t (smM_A (by omega) _) (smM_t (smM_A (by omega) _) (smM_t (smM_A (by omega) _) (smM_A (by omega) _)))))) (smM_t (smM_A (by omega) _) (smM_t (smM_L (by omega) _) (smM_I (by omega) _)))), ?_, ?_, ?_, 0, by decide, rfl, rfl, trivial⟩
  · exact PN_q hn6 hr2 (PN_p hn6 hr2 i1 bc_pl) t2
  · rw [ey]
    show _ = upd (gA τ 12 0 50) 0 (gI τ 12 0 76) 0
    rw [pk_us]
  · show gL (bcS σ 0 2) 5 0 1 = gL τ 12 0 77
    rw [bcS_1]
    exact i3
/-- the real plot in both, from the years' relation -/
theorem PRb_of (h : PN n r (plC σ 0) (plM τ)) (hy : gI σ 5 0 0 = gA τ 12 0 50 0) : PRb n r σ 0 τ 0 := by
  refine ⟨?_, hy⟩
  simp only [Nat.mul_zero, Nat.zero_add]
  exact h.1
theorem go_loop {N : Nat} (hN : N < 2 ^ 31) {σ0 τ0 : ST} : ∀ (m i : Nat), i + m = N → ∀ (σ τ : ST), YZ SA G n r 0 0 σ0 τ0 σ τ → ∃ σ' τ', run kX0_years 2 [some (vR 0 0 0), some (vI (nI N)), some (vI (nI i))] [] σ = some (none, σ') ∧
    run kX12_go 25 [some (vR 12 0 0), some (vI (nI N)), some (vI (nI i))] [] τ = run kX12_go 25 [some (vR 12 0 0), some (vI (nI N)), some (vI (nI N))] [] τ' ∧ YZ SA G n r 0 0 σ0 τ0 σ' τ'
  | 0, i, hm, σ, τ, hZ => by
    have hi : i = N := by omega
    subst hi
    have hlt : ¬ nI i < nI i := nI_nlt (by omega) (by omega)
    exact ⟨σ, τ, by rw [bX0_years_2, if_neg hlt], rfl, hZ⟩
  | m + 1, i, hm, σ, τ, hZ => by
    have hlt : nI i < nI N := nI_lt (by omega) hN
    obtain ⟨σ1, τ1, f1, f2, f3⟩ := year_pair hZ (by decide) (fun _ _ _ _ _ => trivial)
    have f2' : den 224 [vR 12 0 0, vI 0] τ = some (none, τ1) := f2
    obtain ⟨σ', τ', g1, g2, g3⟩ := go_loop hN m (i + 1) (by omega) σ1 τ1 f3
    exact ⟨σ', τ', by rw [bX0_years_2, if_pos hlt, f1, bnd_s, tl_n, bX0_years_7, nI_S, g1], by rw [bX12_go_25, if_pos hlt, f2', bnd_s, tl_n, bX12_go_31, nI_S, g2], g3⟩
theorem c_go (hT : RT G n r σ τ) (hR : RC G n σ) (hC : CU n r σ τ) (x : Int32) : dans n r σ τ (den 122 [vR 11 0 0, vI x] σ) (den 236 [vR 12 0 0, vI x] τ) := by
  have hn6 := hT.1.n6
  have hr2 := hT.1.r2
  have s0 : smM KD τ (th0 τ) := smM_I (Or.inl rfl) 0
  rw [dX11_go, bX11_go_0, e_isWithin, bnd_s, tl_s, bX11_go_4, dX12_go, bX12_go_0, m_isIn, bnd_s, tl_s, bX12_go_7, cl0]
  rcases inb_l (x := x) (a' := 0) (M' := 99) 0 99 rfl rfl (by decide) (by decide) with h | ⟨N, _, hN, rfl, h⟩
  · rw [h, if_pos rfl, if_pos rfl]
    exact ⟨-1, _, _, rfl, rfl, smC_0, s0, hC⟩
  have ey : gA (th0 τ) 12 0 50 0 = gI σ 5 0 0 := hC.2.1.symm
  rw [h, if_neg i10, if_neg i10, ey]
  by_cases h9 : (9000 : Int32) < gI σ 5 0 0 + nI N
  · rw [if_pos h9, if_pos h9]
    exact ⟨-1, _, _, rfl, rfl, smC_0, s0, hC⟩
  rw [if_neg h9, if_neg h9, dX0_years, bX0_years_0, m_plain, bnd_s, tl_n, bX12_go_20]
  -- the years' relation at the beginning
  have hPb := PRb_of hC.1 hC.2.1
  have sP : scM τ (plT (th0 τ)) := scM_t (scM_th τ) (scM_plT _)
  have hQ1 : RQ G n r σ (plT (th0 τ)) := RQ_sc (τ := τ) ⟨hT, hPb, hR⟩ scC_0 sP
  have hY := YQ_real hQ1 (RF_plT _)
  obtain ⟨b0, hb0, k1, k2⟩ := hT.1.2.2.2.2.1
  have hZ : YZ SA G n r 0 0 σ (sI (plT (th0 τ)) 12 0 52 1) σ (sI (plT (th0 τ)) 12 0 52 1) := by
    refine ⟨⟨hY, hR.1, ?_, fun _ => hC.2.2.1⟩, frC_0, frM_0⟩
    rw [hR.2.1, k1]
    unfold blE
    have e2 : gI (sI (plT (th0 τ)) 12 0 52 1) 12 0 52 = 1 := rfl
    have e3 : gI (sI (plT (th0 τ)) 12 0 52 1) 12 0 53 = 0 := rfl
    have e4 : gA (sI (plT (th0 τ)) 12 0 52 1) 12 0 19 0 = nI b0 := k2
    rw [e3, if_pos rfl, e4, e2, if_neg i10]
  obtain ⟨σ', τ', g1, g2, g3⟩ := go_loop (N := N) (by omega) N 0 (by omega) σ _ hZ
  rw [nI_0] at g1 g2
  have hlt : ¬ nI N < nI N := nI_nlt (by omega) (by omega)
  have kp : smM KD τ (sI (plT (th0 τ)) 12 0 52 1) := smM_t s0 (smM_t (smM_t (smM_I (by omega) _) (smM_t (smM_I (by omega) _) (smM_t (smM_I (by omega) _) (smM_t (smM_I (by omega) _) (smM_t (smM_I (by omega) _) (smM_t (smM_I (by omega) _) (smM_t (smM_I (by omega) _) (smM_I (by omega) _)))))))) (smM_I (by omega) _))
  rcases Nat.eq_zero_or_pos N with e0 | hpos
  · subst e0
    have hl0 : ¬ nI 0 < nI 0 := by decide
    have h0 : ¬ (0 : Int32) < nI 0 := by decide
    rw [← nI_0, bX0_years_2, if_neg hl0, bnd_s, tl_n, bX11_go_19, nI_0, if_neg (show ¬ (0 : Int32) < 0 by decide), bX11_go_24, bX12_go_25, if_neg (show ¬ (0 : Int32) < 0 by decide), if_neg (show ¬ (0 : Int32) < 0 by decide), cl0]
    have ey2 : gA (sI (plT (th0 τ)) 12 0 52 1) 12 0 50 0 = gI σ 5 0 0 := ey
    rw [ey2]
    exact ⟨gI σ 5 0 0, _, _, rfl, rfl, smC_0, smM_t kp (smM_t (smM_I (by omega) _) (smM_I (by omega) _)), hC⟩
  · have h0 : (0 : Int32) < nI N := nI_lt (a := 0) hpos (by omega)
    obtain ⟨⟨hYq, _, _, hnum⟩, hfC, hfM⟩ := g3
    have d52 : gI τ' 12 0 52 ≠ 0 := by
      rw [hfM.1 52 (by decide)]
      exact i10
    rw [g1, bnd_s, tl_n, bX11_go_19, if_pos h0, dX1_forget, bX1_forget_0, bnd_s, tl_n, bX11_go_24, g2, bX12_go_25, if_neg hlt, if_pos h0, cl0]
    have eyr : gA τ' 12 0 50 0 = gI σ' 5 0 0 := hYq.2.2.2.2.2.2.2.2.2.symm
    rw [eyr]
    have smc : smC SD σ (sI σ' 1 0 6 0) := by
      refine smC_t (fun c o hn => ?_) (dI1 _ _)
      by_cases e5 : c = 5
      · subst e5
        have ho : o ≠ 0 := fun z => hn (Or.inr ⟨rfl, z⟩)
        exact ⟨(hfC.2.1 o ho).1, (hfC.2.1 o ho).2.2, congrFun (congrFun hfC.2.2.1 5) o, (hfC.2.1 o ho).2.1⟩
      · exact ⟨congrFun (hfC.1 c e5).1 o, congrFun (hfC.1 c e5).2.2 o, congrFun (congrFun hfC.2.2.1 c) o, congrFun (hfC.1 c e5).2.1 o⟩
    have smm : smM KD (sI (plT (th0 τ)) 12 0 52 1) τ' := fun k hn => by
      refine ⟨hfM.1 k (fun z => hn (by omega)), hfM.2.2.2.2.2.1 k (fun z => hn (by omega)), hfM.2.1 k ?_⟩
      have : ¬ (43 ≤ k ∧ k ≤ 59) := fun z => hn (Or.inr (Or.inl z))
      omega
    refine ⟨gI σ' 5 0 0, _, _, rfl, rfl, smc, smM_t kp (smM_t smm (smM_t (smM_I (by omega) _) (smM_I (by omega) _))), ⟨⟨?_, ?_, ?_, ?_, ?_, ?_, ?_⟩, ?_⟩, eyr.symm, hnum d52, 0, by decide, rfl, rfl, trivial⟩
    · intro j hj
      have := hYq.2.2.2.1 j hj
      rw [Nat.mul_zero, Nat.zero_add] at this
      exact this
    · intro j hj
      have := hYq.2.2.2.2.1 j hj
      rw [Nat.mul_zero, Nat.zero_add] at this
      exact this
    · intro j hj
      show gA σ' 5 0 4 j = gA τ' 12 0 46 j ∧ ∃ x, x < 2 ^ n ∧ (n ≤ j → x = 0) ∧ gA σ' 5 0 4 j = nI x
      rw [hfC.2.2.2.1, hfM.2.1 46 (by omega)]
      exact hC.1.1.2.2.1 j hj
    · intro p hp
      have := hYq.2.2.2.2.2.2.1 p hp
      rw [Nat.mul_zero, Nat.zero_add] at this
      exact this
    · intro p hp
      have := hYq.2.2.2.2.2.2.2.1 p hp
      rw [Nat.mul_zero, Nat.zero_add] at this
      exact this
    · intro p hp
      have := hYq.2.2.2.2.2.2.2.2.1 p hp
      rw [Nat.mul_zero, Nat.zero_add] at this
      exact this
    · intro p h1 h2
      show gA σ' 5 0 7 p = 0
      have hcr : gI σ 2 (gR σ 0 0 4) 1 = nI r := by rw [hT.1.2.1.2.2]; exact hT.1.2.2.1.2.2.1
      rw [hfC.2.2.2.2 p (by rw [hcr]; exact nI_nlt h1 (by omega)) h2]
      exact hC.1.1.2.2.2.2.2.2 p h1 h2
    · intro j hj
      show bit (gA σ' 5 0 4 j) (nI j) = 0
      rw [hfC.2.2.2.1]
      exact hC.1.2 j hj
/-- Integer.bitCount -/
def bcF (x : Int32) : Int32 := ((((((((x - (((Int32.toUInt32 x >>> (Int32.toUInt32 (1 : Int32) &&& Int32.toUInt32 31)).toInt32) &&& (1431655765 : Int32))) &&& (858993459 : Int32)) + (((Int32.toUInt32 (x - (((Int32.toUInt32 x >>> (Int32.toUInt32 (1 : Int32) &&& Int32.toUInt32 31)).toInt32) &&& (1431655765 : Int32))) >>> (Int32.toUInt32 (2 : Int32) &&& Int32.toUInt32 31)).toInt32) &&& (858993459 : Int32))) + ((Int32.toUInt32 (((x - (((Int32.toUInt32 x >>> (Int32.toUInt32 (1 : Int32) &&& Int32.toUInt32 31)).toInt32) &&& (1431655765 : Int32))) &&& (858993459 : Int32)) + (((Int32.toUInt32 (x - (((Int32.toUInt32 x >>> (Int32.toUInt32 (1 : Int32) &&& Int32.toUInt32 31)).toInt32) &&& (1431655765 : Int32))) >>> (Int32.toUInt32 (2 : Int32) &&& Int32.toUInt32 31)).toInt32) &&& (858993459 : Int32))) >>> (Int32.toUInt32 (4 : Int32) &&& Int32.toUInt32 31)).toInt32)) &&& (252645135 : Int32)) + ((Int32.toUInt32 (((((x - (((Int32.toUInt32 x >>> (Int32.toUInt32 (1 : Int32) &&& Int32.toUInt32 31)).toInt32) &&& (1431655765 : Int32))) &&& (858993459 : Int32)) + (((Int32.toUInt32 (x - (((Int32.toUInt32 x >>> (Int32.toUInt32 (1 : Int32) &&& Int32.toUInt32 31)).toInt32) &&& (1431655765 : Int32))) >>> (Int32.toUInt32 (2 : Int32) &&& Int32.toUInt32 31)).toInt32) &&& (858993459 : Int32))) + ((Int32.toUInt32 (((x - (((Int32.toUInt32 x >>> (Int32.toUInt32 (1 : Int32) &&& Int32.toUInt32 31)).toInt32) &&& (1431655765 : Int32))) &&& (858993459 : Int32)) + (((Int32.toUInt32 (x - (((Int32.toUInt32 x >>> (Int32.toUInt32 (1 : Int32) &&& Int32.toUInt32 31)).toInt32) &&& (1431655765 : Int32))) >>> (Int32.toUInt32 (2 : Int32) &&& Int32.toUInt32 31)).toInt32) &&& (858993459 : Int32))) >>> (Int32.toUInt32 (4 : Int32) &&& Int32.toUInt32 31)).toInt32)) &&& (252645135 : Int32)) >>> (Int32.toUInt32 (8 : Int32) &&& Int32.toUInt32 31)).toInt32)) + ((Int32.toUInt32 ((((((x - (((Int32.toUInt32 x >>> (Int32.toUInt32 (1 : Int32) &&& Int32.toUInt32 31)).toInt32) &&& (1431655765 : Int32))) &&& (858993459 : Int32)) + (((Int32.toUInt32 (x - (((Int32.toUInt32 x >>> (Int32.toUInt32 (1 : Int32) &&& Int32.toUInt32 31)).toInt32) &&& (1431655765 : Int32))) >>> (Int32.toUInt32 (2 : Int32) &&& Int32.toUInt32 31)).toInt32) &&& (858993459 : Int32))) + ((Int32.toUInt32 (((x - (((Int32.toUInt32 x >>> (Int32.toUInt32 (1 : Int32) &&& Int32.toUInt32 31)).toInt32) &&& (1431655765 : Int32))) &&& (858993459 : Int32)) + (((Int32.toUInt32 (x - (((Int32.toUInt32 x >>> (Int32.toUInt32 (1 : Int32) &&& Int32.toUInt32 31)).toInt32) &&& (1431655765 : Int32))) >>> (Int32.toUInt32 (2 : Int32) &&& Int32.toUInt32 31)).toInt32) &&& (858993459 : Int32))) >>> (Int32.toUInt32 (4 : Int32) &&& Int32.toUInt32 31)).toInt32)) &&& (252645135 : Int32)) + ((Int32.toUInt32 (((((x - (((Int32.toUInt32 x >>> (Int32.toUInt32 (1 : Int32) &&& Int32.toUInt32 31)).toInt32) &&& (1431655765 : Int32))) &&& (858993459 : Int32)) + (((Int32.toUInt32 (x - (((Int32.toUInt32 x >>> (Int32.toUInt32 (1 : Int32) &&& Int32.toUInt32 31)).toInt32) &&& (1431655765 : Int32))) >>> (Int32.toUInt32 (2 : Int32) &&& Int32.toUInt32 31)).toInt32) &&& (858993459 : Int32))) + ((Int32.toUInt32 (((x - (((Int32.toUInt32 x >>> (Int32.toUInt32 (1 : Int32) &&& Int32.toUInt32 31)).toInt32) &&& (1431655765 : Int32))) &&& (858993459 : Int32)) + (((Int32.toUInt32 (x - (((Int32.toUInt32 x >>> (Int32.toUInt32 (1 : Int32) &&& Int32.toUInt32 31)).toInt32) &&& (1431655765 : Int32))) >>> (Int32.toUInt32 (2 : Int32) &&& Int32.toUInt32 31)).toInt32) &&& (858993459 : Int32))) >>> (Int32.toUInt32 (4 : Int32) &&& Int32.toUInt32 31)).toInt32)) &&& (252645135 : Int32)) >>> (Int32.toUInt32 (8 : Int32) &&& Int32.toUInt32 31)).toInt32)) >>> (Int32.toUInt32 (16 : Int32) &&& Int32.toUInt32 31)).toInt32)) &&& (63 : Int32))
theorem bcF_t : ∀ X, X < 64 → bcF (nI X) = nI (pop6 X) := by decide +kernel
theorem e_bitc (σ : ST) {X : Nat} (hX : X < 64) : den 288 [vI (nI X)] σ = some (some (vI (nI (pop6 X))), σ) := by
  rw [dJ6_bitCount_0f7a4, bJ6_bitCount_0f7a4_0]
  show some (some (vI (bcF (nI X))), σ) = _
  rw [bcF_t X hX]
end DE2
