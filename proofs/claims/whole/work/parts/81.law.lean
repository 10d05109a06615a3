/-! READING A TEXT: a law's line -/
section LAL
variable {L : Nat} {t : Nat → Nat} {H p q n r c : Nat} {σ τ : ST}
theorem FR_x {w f : Nat} {σ' τ' : ST} (hw : w < 3) (h : LX H (3 * H + w) f σ τ σ' τ') : FR H σ τ σ' τ' := by
  obtain ⟨c1, c2, c3, c4⟩ := h.1
  obtain ⟨m1, m2, m3, m4⟩ := h.2
  refine ⟨fun a b hn => ⟨funext (fun k => c1 a b k (fun z => hn (Or.inl z.1)) (fun z => hn (Or.inr (Or.inl z.1))) (fun z => hn (Or.inr (Or.inr (Or.inl ⟨z.1, z.2.1⟩)))) (fun z => hn (Or.inr (Or.inr (Or.inr (Or.inr ⟨z.1, by omega, by omega⟩)))))), by rw [c2], by rw [c3], funext (fun k => c4 a b k (fun z => hn (Or.inr (Or.inl z.1))) (fun z => hn (Or.inr (Or.inr (Or.inr (Or.inr ⟨z.1, by omega, by omega⟩))))))⟩, ⟨fun k hk => ⟨m1 k (fun z => hk (by unfold lxK at z; omega)), by rw [m2], m3 k (fun z => hk (by omega))⟩, fun k j hj => ?_⟩⟩
  by_cases hk : 30 ≤ k ∧ k ≤ 34
  · by_cases hk2 : k ≤ 32
    · have : hfk k = 64 := by unfold hfk; rw [if_neg (by omega), if_neg (by omega), if_neg (by omega), if_pos (by omega)]
      exact m4 k j hk.1 hk2 (by omega)
    · have : hfk k = 0 := by unfold hfk; rw [if_neg (by omega), if_neg (by omega), if_neg (by omega), if_neg (by omega)]
      omega
  · rw [m3 k hk]
theorem RD_l {c' : Nat} {σ' τ' : ST} (h : RD H n r c σ τ) (hc : c' ≤ 64) (e2 : ∀ k, k < 4 → gI σ' 2 H k = gI σ 2 H k) (e4 : gI σ' 2 H 4 = nI c') (a2 : gA σ' 2 H = gA σ 2 H) (y5 : gI σ' 5 (3 + H) 0 = gI σ 5 (3 + H) 0) (a5 : gA σ' 5 (3 + H) = gA σ 5 (3 + H)) (b5 : gI σ' 6 0 5 = gI σ 6 0 5) (b6 : gI σ' 6 0 6 = gI σ 6 0 6) (m15 : gI τ' 12 0 15 = gI τ 12 0 15) (m16 : gI τ' 12 0 16 = gI τ 12 0 16) (m38 : gI τ' 12 0 38 = nI c') (mA : ∀ k, 18 ≤ k → k ≤ 26 → gA τ' 12 0 k = gA τ 12 0 k) : RD H n r c' σ' τ' := by
  obtain ⟨⟨a1, a2', a3, a4⟩, ⟨b1, b2, b3, b4, _, _⟩, ⟨o1, o2, o3, o4⟩, hG, hS, ⟨hH1, hH2⟩, hZ, hY⟩ := h
  unfold RD
  rw [a2, y5, a5, b5, b6, m15, m16, m38]
  refine ⟨⟨a1, a2', hc, a4⟩, ⟨(e2 0 (by decide)).trans b1, b2, (e2 1 (by decide)).trans b3, b4, e4, rfl⟩, ?_, ?_, ?_, ?_, hZ, hY⟩
  · rw [e2 2 (by decide), e2 3 (by decide), mA 19 (by decide) (by decide), mA 18 (by decide) (by decide)]
    exact ⟨o1, o2, o3, o4⟩
  · rw [mA 20 (by decide) (by decide), mA 21 (by decide) (by decide), mA 22 (by decide) (by decide), mA 23 (by decide) (by decide), mA 24 (by decide) (by decide)]
    exact hG
  · rw [mA 25 (by decide) (by decide)]
    exact hS
  · rw [mA 26 (by decide) (by decide)]
    exact ⟨hH1, hH2⟩
/-- the law behind its line -/
abbrev lwM (τ : ST) (w c d : Nat) : ST := sA (sA (sA τ 12 0 27 (upd (gA τ 12 0 27) (3 + w) 1)) 12 0 28 (upd (gA τ 12 0 28) (3 + w) (nI c))) 12 0 29 (upd (gA τ 12 0 29) (3 + w) (nI d))
/-- how a line ends ahead of its end -/
def lou2 (L : Nat) (t : Nat → Nat) (H p : Nat) (σ0 τ0 : ST) (ca cm : RS) : Prop := ∃ σ τ, FR H σ0 τ0 σ τ ∧ RB L t H σ τ ∧ FTQ σ τ ∧ ((ca = some (some (vI 0), σ) ∧ cm = some (some (vI 0), τ)) ∨ (ca = some (some (vI 1), σ) ∧ (∃ y1 y2, cm = bnd (den 175 [vR 12 0 0, vI 59] τ) fun v τ => run kX12_lineRead 102 [some (vR 12 0 0), y1, y2] (v.toList ++ []) τ) ∧ ∃ p' q' n r c, p < p' ∧ TKS L σ τ p' q' ∧ RD H n r c σ τ ∧ LW H c σ τ))
theorem lo2_f {σ0 τ0 : ST} {p1 : Nat} (hB : RB L t H σ τ) (hK : TKS L σ τ p1 q) (hF : FR H σ0 τ0 σ τ) (x : Int32) : lou2 L t H p σ0 τ0 (some (some (vI 0), faC σ x)) (some (some (vI 0), faM τ x)) := ⟨faC σ x, faM τ x, FR_t hF (FR_fa x), hB, fl_q hK x, Or.inl ⟨rfl, rfl⟩⟩
def LE (H kr : Nat) (σ τ : ST) (w : Nat) : Prop := ∃ len, len ≤ 64 ∧ gI σ 3 (3 * H + w) 1 = nI len ∧ ((len = 0 ∧ gA τ 12 0 27 (3 + w) = 0) ∨ (0 < len ∧ gA τ 12 0 27 (3 + w) = 1 ∧ ∃ f, f + len ≤ kr ∧ gA τ 12 0 28 (3 + w) = nI f ∧ gA τ 12 0 29 (3 + w) = nI (f + len) ∧ wfS (gA σ 3 (3 * H + w) 0) (fun i => gA τ 12 0 30 (64 + i)) (fun i => gA τ 12 0 31 (64 + i)) (fun i => gA τ 12 0 32 (64 + i)) f len [f + len - 1]))
theorem LE_c {v kr kr' : Nat} {σ' τ' : ST} (h : LE H kr σ τ v) (hk : kr ≤ kr') (e1 : gI σ' 3 (3 * H + v) 1 = gI σ 3 (3 * H + v) 1) (e2 : gA σ' 3 (3 * H + v) 0 = gA σ 3 (3 * H + v) 0) (m27 : gA τ' 12 0 27 (3 + v) = gA τ 12 0 27 (3 + v)) (m28 : gA τ' 12 0 28 (3 + v) = gA τ 12 0 28 (3 + v)) (m29 : gA τ' 12 0 29 (3 + v) = gA τ 12 0 29 (3 + v)) (m30 : ∀ k j, 30 ≤ k → k ≤ 32 → j < 64 + kr → gA τ' 12 0 k j = gA τ 12 0 k j) : LE H kr' σ' τ' v := by
  obtain ⟨len, l1, l2, l3⟩ := h
  refine ⟨len, l1, e1.trans l2, ?_⟩
  rw [m27, m28, m29, e2]
  rcases l3 with h | ⟨h1, h2, f', h3, h4, h5, h6⟩
  · exact Or.inl h
  · exact Or.inr ⟨h1, h2, f', by omega, h4, h5, wfS_c len _ (fun j hj => rfl) (fun j hj => ⟨m30 30 (64 + j) (by omega) (by omega) (by omega), m30 31 (64 + j) (by omega) (by omega) (by omega), m30 32 (64 + j) (by omega) (by omega) (by omega)⟩) h6⟩
theorem law_line (hB : RB L t H σ τ) (hK : TKS L σ τ p q) (hpq : p < q) (hR : RD H n r c σ τ) (hL : LW H c σ τ) (hQ : FTQ σ τ) (y1 y2 : Option AV) : lou2 L t H p σ τ (den 63 [vR 6 0 0] σ) (bnd (den 171 [vR 12 0 0] τ) fun v τ => run kX12_lineRead 41 [some (vR 12 0 0), y1, y2] (v.toList ++ []) τ) := by
  obtain ⟨p1, q1, σ1, τ1, u1, u2, u3', u4, u5, u6, _, _⟩ := tok_pair hB hK
  have hB1 := RB_f hB u4 u5
  have hR1 := RD_f hR u4 u5
  have hL1 := LW_f hL u4 u5
  rw [dX6_readLaw, bX6_readLaw_0, u2, bnd_s, tl_n, bX6_readLaw_3, u3', bnd_s, tl_n, bX12_lineRead_41]
  -- no law's name
  have bad : ∀ x1 : Int32, inb x1 0 2 = 0 → (bnd (den 156 [vI x1, vI 0, vI 2] σ1) fun v τ => run kX6_readLaw 20 [some (vR 6 0 0), some (vI x1), none] (v.toList ++ []) τ) = some (some (vI 0), faC σ1 1) := by
    intro x1 h
    rw [e_isWithin, bnd_s, tl_s, bX6_readLaw_20, h, if_pos rfl, e_fail, bnd_s, tl_s, bX6_readLaw_24, if_pos i0or]
  have badm : (bnd (den 167 [vR 12 0 0, vI 1] τ1) fun v τ => run kX12_lineRead 56 [some (vR 12 0 0), y1, y2] (v.toList ++ []) τ) = some (some (vI 0), faM τ1 1) := by
    rw [m_wrong, bnd_s, tl_s, bX12_lineRead_56, if_pos i0or]
  have hbad := lo2_f (L := L) (t := t) (H := H) (p := p) (σ0 := σ) (τ0 := τ) hB1 u6 (FR_f u4 u5) 1
  rw [badm]
  have nw : (¬ gI σ1 9 0 5 = 3 ∧ ¬ gI τ1 12 0 8 = 1) ∨ (gI σ1 9 0 5 = 3 ∧ gI τ1 12 0 8 = 1 ∧ ∃ j, j < 19 ∧ gI σ1 9 0 6 = nI (wsw j) ∧ gI τ1 12 0 9 = nI j) := by
    rcases kin_i u6 with ⟨k1, k2, _⟩ | h | ⟨_, k1, _, k2⟩
    · exact Or.inl (by rw [k1, k2]; decide)
    · exact Or.inr h
    · exact Or.inl ⟨k1, k2⟩
  rcases nw with ⟨k1, k2⟩ | ⟨k1, k2, j, hj, ka, kb⟩
  · rw [if_neg k1, if_neg k2, bad (-1) (by decide)]
    exact hbad
  rw [if_pos k1, if_pos k2, ka, kb]
  by_cases hj6 : j < 6
  · have hin : ∀ j, j < 6 → inb (nI (wsw j) - 6) 0 2 = 0 := by decide
    rw [bad _ (hin j hj6), if_pos (show nI j < 6 from nI_lt (b := 6) hj6 (by decide))]
    exact hbad
  by_cases hj8 : 8 < j
  · have hin : ∀ j, j < 19 → 8 < j → inb (nI (wsw j) - 6) 0 2 = 0 := by decide
    rw [bad _ (hin j hj hj8), if_neg (show ¬ nI j < 6 from nI_nlt (b := 6) (by omega) (by omega)), if_pos (show (8 : Int32) < nI j from nI_lt (a := 8) hj8 (by omega))]
    exact hbad
  obtain ⟨w, hw, hjw⟩ : ∃ w, w < 3 ∧ j = 6 + w := ⟨j - 6, by omega, by omega⟩
  subst hjw
  have hws : ∀ w, w < 3 → wsw (6 + w) = 6 + w := by decide
  have n6 : nI (6 + w) - 6 = nI w := by
    have := pk_sub (a := 6 + w) (b := 6) (by omega)
    rw [show 6 + w - 6 = w by omega] at this
    exact this
  have n3 : (3 : Int32) + nI (6 + w) - 6 = nI (3 + w) := by
    have t1 : (3 : Int32) + nI (6 + w) = nI (3 + (6 + w)) := nI_add 3 (6 + w)
    have t2 := pk_sub (a := 3 + (6 + w)) (b := 6) (by omega)
    rw [show 3 + (6 + w) - 6 = 3 + w by omega] at t2
    rw [t1]
    exact t2
  have hin : inb (nI w) 0 2 = 1 := by
    unfold inb
    rw [if_neg (show ¬ nI w < 0 from nI_nlt (b := 0) (by omega) (by omega)), if_neg (show ¬ (2 : Int32) < nI w from nI_nlt (a := 2) (by omega) (by omega))]
  have a3 := ob (i := w) (N := 3) (by omega) (by decide)
  have c3 : (nI w).toNatClampNeg = w := nI_clamp (by omega)
  have a6 := ob (i := 3 + w) (N := 6) (by omega) (by decide)
  have c6 : (nI (3 + w)).toNatClampNeg = 3 + w := nI_clamp (by omega)
  obtain ⟨len, l1, l2, l3⟩ := hL1.2 w hw
  have l2' : gI σ1 3 (3 * H + w) 1 = nI len := l2
  have isT : den 27 [vR 3 (3 * H + w) 0] σ1 = some (some (vI (if len = 0 then 0 else 1)), σ1) := by
    rw [dX3_isTold, bX3_isTold_0, l2']
    by_cases e : len = 0
    · rw [if_pos e, if_neg (show ¬ (0 : Int32) < nI len by rw [e]; decide)]
    · rw [if_neg e, if_pos (show (0 : Int32) < nI len from nI_lt (a := 0) (by omega) (by omega))]
  rw [hws w hw, n6, e_isWithin, bnd_s, tl_s, bX6_readLaw_20, hin, if_neg i10, hB1.2.2.1, if_neg (show ¬ nI (6 + w) < 6 from nI_nlt (b := 6) (by omega) (by omega)), if_neg (show ¬ (8 : Int32) < nI (6 + w) from nI_nlt (a := 8) (by omega) (by omega)), n3]
  simp only [c3, a3, c6, a6, ↓reduceIte]
  rw [isT, bnd_s, tl_s, bX6_readLaw_33]
  rcases l3 with ⟨e0, e27⟩ | ⟨e0, e27, _⟩
  rotate_left
  · rw [if_neg (show ¬ len = 0 by omega), if_neg i10, e_fail, bnd_s, tl_s, bX6_readLaw_37, if_pos i0or, e27, if_neg i10, m_wrong, bnd_s, tl_s, bX12_lineRead_72, if_pos i0or]
    exact lo2_f hB1 u6 (FR_f u4 u5) 3
  -- a law that is new
  subst e0
  have K1 : TKS L σ1 (sA τ1 12 0 27 (upd (gA τ1 12 0 27) (3 + w) 1)) p1 q1 := TKS_s u6 rfl rfl rfl rfl rfl rfl rfl rfl
  obtain ⟨p2, q2, σ2, τ2, t1, t2, t3, t4, t5, t6, _, _⟩ := tok_pair (t := t) (H := H) (show RB L t H σ1 (sA τ1 12 0 27 (upd (gA τ1 12 0 27) (3 + w) 1)) from hB1) K1
  have hB2 : RB L t H σ2 τ2 := RB_f (show RB L t H σ1 (sA τ1 12 0 27 (upd (gA τ1 12 0 27) (3 + w) 1)) from hB1) t4 t5
  have z17 : gI τ2 12 0 17 = nI c := Eq.trans (t5.1 12 0 17 (by omega)) hL1.1
  have z38 : gI τ2 12 0 38 = nI c := Eq.trans (t5.1 12 0 38 (by omega)) hR1.2.1.2.2.2.2.2
  have z4 : gI σ2 2 H 4 = nI c := Eq.trans (t4.1 2 H 4 (by omega) (by omega)) hR1.2.1.2.2.2.2.1
  have z1 : gI σ2 3 (3 * H + w) 1 = 0 := Eq.trans (t4.1 3 (3 * H + w) 1 (by omega) (by omega)) l2'
  have hfk27 : hfk 27 = 3 := by decide
  have hfk28 : hfk 28 = 3 := by decide
  have hfk29 : hfk 29 = 3 := by decide
  rw [if_pos rfl, if_pos rfl, t2, bnd_s, tl_n, bX6_readLaw_41, e27, if_pos rfl, show (vp_nar .boolean 1 : Int32) = 1 from rfl, t3, bnd_s, tl_n, bX12_lineRead_80, z17]
  simp only [c6, a6, ↓reduceIte]
  have v2 := fuC_t u4 t4
  have w2 : fuM (sA τ 12 0 27 (upd (gA τ 12 0 27) (3 + w) 1)) τ2 := by
    have : fuM (sA τ 12 0 27 (upd (gA τ 12 0 27) (3 + w) 1)) (sA τ1 12 0 27 (upd (gA τ1 12 0 27) (3 + w) 1)) := by
      rw [fuM_A u5]
      exact fuM_sA u5
    exact fuM_t this t5
  have w3 : fuM (sA (sA τ 12 0 27 (upd (gA τ 12 0 27) (3 + w) 1)) 12 0 28 (upd (gA τ 12 0 28) (3 + w) (nI c))) (sA τ2 12 0 28 (upd (gA τ2 12 0 28) (3 + w) (nI c))) := by
    rw [fuM_A w2]
    exact fuM_sA w2
  have F2 : FR H σ τ σ2 (sA τ2 12 0 28 (upd (gA τ2 12 0 28) (3 + w) (nI c))) := FR_t (show FR H σ τ σ (sA (sA τ 12 0 27 (upd (gA τ 12 0 27) (3 + w) 1)) 12 0 28 (upd (gA τ 12 0 28) (3 + w) (nI c))) from ⟨smC_0, rdM_t (rdM_u (k := 27) (by omega) (by omega) _) (rdM_u (k := 28) (by omega) (by omega) _)⟩) (FR_f v2 w3)
  have ex := expr_pair (o := 3 * H + w) (σ := σ2) (τ := sA τ2 12 0 28 (upd (gA τ2 12 0 28) (3 + w) (nI c))) hB2 (TKS_s t6 rfl rfl rfl rfl rfl rfl rfl rfl) hR.1.2.2.1 z4 z38 z17 z1
  rcases ex with ⟨x, σ3, τ3, p3, q3, g1, g2, g3, g4⟩ | ⟨i3, cnt3, x, σ3, τ3, p3, q3, g0, g1, g2, g3, g4, g5⟩
  · rw [g1, bnd_s, tl_s, bX6_readLaw_44, if_pos i0or, g2, bnd_s, tl_s, bX12_lineRead_88]
    simp only [c6, a6, ↓reduceIte]
    refine ⟨faC σ3 x, _, FR_t F2 (FR_t (FR_x hw g3) (FR_t (FR_fa x) ⟨smC_0, rdM_u (k := 29) (by omega) (by omega) _⟩)), (RB_x (show RB L t H σ2 (sA τ2 12 0 28 (upd (gA τ2 12 0 28) (3 + w) (nI c))) from hB2) g3 : RB L t H σ3 τ3), (fl_q g4 x : FTQ (faC σ3 x) (faM τ3 x)), Or.inl ⟨rfl, rfl⟩⟩
  · have hB3 := RB_x (show RB L t H σ2 (sA τ2 12 0 28 (upd (gA τ2 12 0 28) (3 + w) (nI c))) from hB2) g4
    obtain ⟨⟨_, _, e3, _, e64⟩, _, _, ⟨e4, e38⟩, ⟨e1, e17⟩, _, _, _, _, ewf⟩ := g3
    rw [List.length_nil] at e3
    obtain ⟨i0, ix⟩ := wfS_top ewf
    subst ix
    have hcn : cnt3 = c + i3 := by omega
    subst hcn
    rw [g1, bnd_s, tl_s, bX6_readLaw_44, if_pos i1or, g2, bnd_s, tl_s, bX12_lineRead_88, if_neg i10, e17]
    simp only [c6, a6, ↓reduceIte]
    obtain ⟨x1, x2, x3, x4⟩ := g4.1
    obtain ⟨y1', y2', y3, y4⟩ := g4.2
    have g27 : gA τ3 12 0 27 = upd (gA τ 12 0 27) (3 + w) 1 := Eq.trans (y3 27 (by omega)) (show gA τ2 12 0 27 = _ by rw [fuM_A w2]; rfl)
    have g28 : gA τ3 12 0 28 = upd (gA τ 12 0 28) (3 + w) (nI c) := Eq.trans (y3 28 (by omega)) (show upd (gA τ2 12 0 28) (3 + w) (nI c) = _ by rw [fuM_A w2]; rfl)
    have g29 : gA τ3 12 0 29 = gA τ 12 0 29 := Eq.trans (y3 29 (by omega)) (show gA τ2 12 0 29 = _ by rw [fuM_A w2]; rfl)
    have g30 : ∀ k j, 30 ≤ k → k ≤ 32 → j < 64 + c → gA τ3 12 0 k j = gA τ 12 0 k j := by
      intro k j h1 h2 h3
      refine Eq.trans (y4 k j h1 h2 h3) ?_
      rw [gA_n (show k ≠ 28 by omega), fuM_A w2, gA_n (show k ≠ 27 by omega)]
    have gRD : ∀ k, 18 ≤ k → k ≤ 26 → gA τ3 12 0 k = gA τ 12 0 k := by
      intro k h1 h2
      refine Eq.trans (y3 k (by omega)) ?_
      rw [gA_n (show k ≠ 28 by omega), fuM_A w2, gA_n (show k ≠ 27 by omega)]
    have nk : ∀ k, (k = 15 ∨ k = 16 ∨ k = 4 ∨ k = 5) → gI τ3 12 0 k = gI τ 12 0 k := by
      intro k hk
      refine Eq.trans (y1' k (by unfold lxK; omega)) ?_
      show gI τ2 12 0 k = _
      exact w2.1 12 0 k (by omega)
    have cI : ∀ a b k, ¬ (a = 9) → ¬ (a = 6 ∧ (k = 2 ∨ k = 3 ∨ k = 7)) → ¬ (a = 2 ∧ b = H ∧ k = 4) → ¬ (a = 3 ∧ b = 3 * H + w ∧ k = 1) → gI σ3 a b k = gI σ a b k := fun a b k n1 n2 n3 n4 => Eq.trans (x1 a b k (by omega) (by omega) n3 n4) (v2.1 a b k (by omega) (by omega))
    have cA : ∀ a b k, ¬ (a = 6 ∧ k = 1) → ¬ (a = 3 ∧ b = 3 * H + w ∧ k = 0) → gA σ3 a b k = gA σ a b k := fun a b k n1 n2 => Eq.trans (x4 a b k n1 n2) (by rw [fuC_A v2])
    refine ⟨σ3, _, FR_t F2 (FR_t (FR_x hw g4) ⟨smC_0, rdM_u (k := 29) (i := 3 + w) (by omega) (by omega) (nI (c + i3))⟩), hB3, ⟨?_, ?_⟩, Or.inr ⟨rfl, ⟨_, _, rfl⟩, p3, q3, n, r, c + i3, ?_, TKS_s g5 rfl rfl rfl rfl rfl rfl rfl rfl, ?_, e17, fun v hv => ?_⟩⟩
    · rw [cI 6 0 8 (by omega) (by omega) (by omega) (by omega)]
      show _ = gI τ3 12 0 4
      rw [nk 4 (by omega)]
      exact hQ.1
    · rw [cI 6 0 9 (by omega) (by omega) (by omega) (by omega)]
      show _ = gI τ3 12 0 5
      rw [nk 5 (by omega)]
      exact hQ.2
    · have := TKS_p u6 (by rw [k1]; decide)
      omega
    · refine RD_l hR (by omega) (fun k hk => cI 2 H k (by omega) (by omega) (by omega) (by omega)) e4 (funext (fun k => cA 2 H k (by omega) (by omega))) (cI 5 (3 + H) 0 (by omega) (by omega) (by omega) (by omega)) (funext (fun k => cA 5 (3 + H) k (by omega) (by omega))) (cI 6 0 5 (by omega) (by omega) (by omega) (by omega)) (cI 6 0 6 (by omega) (by omega) (by omega) (by omega)) (nk 15 (by omega)) (nk 16 (by omega)) e38 (fun k h1 h2 => ?_)
      rw [gA_n (show k ≠ 29 by omega)]
      exact gRD k h1 h2
    · have e29 : gA (sA τ3 12 0 29 (upd (gA τ3 12 0 29) (3 + w) (nI (c + i3)))) 12 0 29 = upd (gA τ3 12 0 29) (3 + w) (nI (c + i3)) := rfl
      by_cases e : v = w
      · subst e
        refine ⟨i3, by omega, e1, Or.inr ⟨i0, ?_, c, Nat.le_refl _, ?_, ?_, ewf⟩⟩
        · show gA τ3 12 0 27 (3 + v) = 1
          rw [g27, pk_us]
        · show gA τ3 12 0 28 (3 + v) = nI c
          rw [g28, pk_us]
        · rw [e29, pk_us]
      · have nv : ¬ 3 + v = 3 + w := by omega
        refine LE_c (kr := c) (σ := σ) (τ := τ) (hL.2 v hv) (by omega) (cI 3 (3 * H + v) 1 (by omega) (by omega) (by omega) (by omega)) (cA 3 (3 * H + v) 0 (by omega) (by omega)) ?_ ?_ ?_ ?_
        · show gA τ3 12 0 27 (3 + v) = _
          rw [g27, upd_o nv]
        · show gA τ3 12 0 28 (3 + v) = _
          rw [g28, upd_o nv]
        · rw [e29, upd_o nv, g29]
        · intro k j h1 h2 h3
          rw [gA_n (show k ≠ 29 by omega)]
          exact g30 k j h1 h2 h3
end LAL
