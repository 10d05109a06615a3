/-! free: the reference's side, and the two together -/
theorem m_layK {τ τ' : ST} (h : den 208 [vR 12 0 0] τ = some (none, τ')) : ∀ k, 60 ≤ k → gI τ' 12 0 k = gI τ 12 0 k := by
  obtain ⟨τ1, f1, f2, f3, f4, f5⟩ := lay_6 6 0 (by decide) τ
  obtain ⟨τ2, y, g1, g2, g3, g4, g5⟩ := lay_2 2 0 (by decide) τ1
  rw [nI_0] at f1 g1
  rw [dX12_layTried, bX12_layTried_0, f1, g1, m_plain, bnd_s, tl_n, bX12_layTried_84] at h
  injection h with h
  injection h with _ h
  intro k hk
  rw [← h]
  show u3 (u3 (u3 (u3 (u3 (u3 (u3 (u3 τ2.1 12 0 52 0) 12 0 53 0) 12 0 54 0) 12 0 55 0) 12 0 56 0) 12 0 57 0) 12 0 58 (-1)) 12 0 59 0 12 0 k = _
  rw [u3_nk (by omega), u3_nk (by omega), u3_nk (by omega), u3_nk (by omega), u3_nk (by omega), u3_nk (by omega), u3_nk (by omega), u3_nk (by omega)]
  exact (g4 k).trans (f4 k)
abbrev SN : Nat → Prop := fun _ => False
section FR2
variable {G n r p a : Nat} {σ τ : ST}
/-- judging in the second half as in the real course -/
theorem lay_F (hQ : RQ G n r σ τ) : ∃ τ1, den 208 [vR 12 0 0] τ = some (none, τ1) ∧ scM τ τ1 ∧ RF τ1 ∧ YQ SN G n r σ 0 τ1 1 ∧ (∀ j, j < 6 → gA τ1 12 0 46 (6 + j) = gA τ 12 0 46 j) ∧ ∀ k, 60 ≤ k → gI τ1 12 0 k = gI τ 12 0 k := by
  have hn6 := hQ.1.1.n6
  have hr2 := hQ.1.1.r2
  obtain ⟨τ1, f1, f2, f3, f4, f5, f6⟩ := m_lay τ
  have hT := RT_sc hQ.1 (scC_0 (σ := σ)) f2
  obtain ⟨⟨w, hd, sn, ho, si, hn, h0⟩, y⟩ := hQ.2.1
  simp only [Nat.mul_zero, Nat.zero_add] at w hd sn ho si hn y
  refine ⟨τ1, f1, f2, f3, ⟨hT, hT.1.2.1.2.2, fun j hj => ?_, fun j hj => ?_, fun j hj => ?_, fun _ _ h => h.elim, fun q hq => ?_, fun q hq => ?_, fun q hq => ?_, ?_⟩, fun j hj => (f4 j hj).2.2, m_layK f1⟩
  · rw [dEff_RF f3 (by omega), hQ.2.2.2.2 j hj]
    exact (hT.1.2.2.2.2.2.2.2.2.1 j hj).1
  · show _ = gA τ1 12 0 44 (6 + j) ∧ _
    rw [(f4 j (by omega)).1]
    exact w j hj
  · show _ = gA τ1 12 0 45 (6 + j)
    rw [(f4 j (by omega)).2.1]
    exact hd j hj
  · show _ = gA τ1 12 0 47 (2 + q) ∧ _
    rw [(f5 q (by omega)).1]
    exact ho q hq
  · show _ = gA τ1 12 0 48 (2 + q)
    rw [(f5 q (by omega)).2.1]
    exact si q hq
  · show _ = gA τ1 12 0 49 (2 + q)
    rw [(f5 q (by omega)).2.2]
    exact hn q hq
  · rw [f6]
    exact y
/-- one sight turned in the second half -/
def tnM (τ : ST) (c : Nat) : ST := sA τ 12 0 46 (upd (gA τ 12 0 46) (6 + c / 6) (gA τ 12 0 46 (6 + c / 6) ^^^ ((1 : Int32) <<< (nI (c % 6) &&& 31))))
theorem m_turn {c : Nat} (hc : c < 36) : den 241 [vR 12 0 0, vI (nI c)] τ = some (none, tnM τ c) := by
  have a1 := ob (i := 6 + c / 6) (N := 12) (by omega) (by decide)
  have c1 : (nI (6 + c / 6)).toNatClampNeg = 6 + c / 6 := nI_clamp (by omega)
  obtain ⟨d1, d2⟩ := cd6 hc
  rw [dX12_turns, bX12_turns_0, if_neg (nI_pos (by omega)), d2, d1, i6a]
  simp only [c1, a1, ↓reduceIte]
  rfl
theorem m_turn0 : den 241 [vR 12 0 0, vI (-1)] τ = some (none, τ) := by
  rw [dX12_turns, bX12_turns_0, if_pos (by decide)]
theorem tnM_g {c i : Nat} : gA (tnM τ c) 12 0 46 (6 + i) = tnS (fun k => gA τ 12 0 46 (6 + k)) c i := by
  have h : gA (tnM τ c) 12 0 46 = upd (gA τ 12 0 46) (6 + c / 6) (gA τ 12 0 46 (6 + c / 6) ^^^ ((1 : Int32) <<< (nI (c % 6) &&& 31))) := gA_s
  rw [h]
  by_cases e : i = c / 6
  · rw [e, pk_us]
    unfold tnS tnX
    rw [if_pos rfl]
  · rw [upd_o (by omega), tnS_n e]
theorem tnM_sc (c : Nat) : scM τ (tnM τ c) := scM_6 (Or.inr (Or.inr rfl)) (by omega) _
theorem tnM_Y {c : Nat} (h : YQ SN G n r σ 0 τ 1) : YQ SN G n r σ 0 (tnM τ c) 1 :=
  ⟨h.1, h.2.1, h.2.2.1, h.2.2.2.1, h.2.2.2.2.1, fun _ _ z => z.elim, h.2.2.2.2.2.2.1, h.2.2.2.2.2.2.2.1, h.2.2.2.2.2.2.2.2.1, h.2.2.2.2.2.2.2.2.2⟩
/-- esteem and giving in the reference's second half -/
def EVh (G n r : Nat) (σ : ST) (p : Nat) (E : Nat → Nat → Int32) (V : Nat → Int32) : Prop :=
  (∀ i j, i < n → j < n → ∀ (τ' : ST) (S' : Nat → Prop), YQ S' G n r σ 0 τ' 1 → ∃ B e, den 217 [vR 12 0 0, vI (nI 1), vI (nI i), vI (nI j)] τ' = some (some (vI (E i j)), wE τ' B e)) ∧
  (∀ i, i < n → (V i = 0 ∨ V i = 1) ∧ ∀ (τ' : ST) (S' : Nat → Prop), YQ S' G n r σ 0 τ' 1 → ∃ B e, den 220 [vR 12 0 0, vI (nI 1), vI (nI i), vI (gA σ 5 0 6 p)] τ' = some (some (vI (V i)), wE τ' B e))
theorem m_so8 {E : Nat → Nat → Int32} {V s : Nat → Int32} (hEV : EVh G n r σ p E V) (hp : p < r) (ha : a < n) (ho : gA σ 5 0 5 p = nI a) (hY : YQ SN G n r σ 0 τ 1) (hF : RF τ) (hs : ∀ i, i < n → gA τ 12 0 46 (6 + i) = s i) (g : Int32) (y2 y3 : Option AV) : ∃ τ',
    run kX12_isSoBy 8 [some (vR 12 0 0), some (vI (nI p)), y2, y3, some (vI g), some (vI 0)] [] τ = some (some (vI (bI (fr1 (RDP n a E V s)))), τ') ∧ scM τ τ' ∧ ∀ k, 62 < k → gI τ' 12 0 k = gI τ 12 0 k := by
  have hn6 := hY.n6
  have hr2 := hY.1.1.r2
  have hR := REh_of hY (fun i j hi hj => hEV.1 i j hi hj) (fun i hi => (hEV.2 i hi).2)
  rw [hY.2.2.2.2.2.2.2.1 p hp] at hR
  obtain ⟨h47, _⟩ := hY.2.2.2.2.2.2.1 p hp
  obtain ⟨B, e, f, q⟩ := m_ringOf (p := p) hn6 hY.1.1.mn (by decide) (by omega) (fun i hi => (hEV.2 i hi).1) hR ha (h47.symm.trans ho)
  have hc : rgP (nxP n E V (sEff τ 1)) n (n + 1) a 0 0 (fun _ => 0) = RDP n a E V s := by
    refine rgP_c (fun i hi => ?_) (fun i _ => nxP_r i) hn6 _ _ _ _ _ ha
    unfold nxP
    have : sEff τ 1 i = s i := (sEff_RF hF).trans (hs i hi)
    rw [this]
  rw [hc] at q
  have q' : den 239 [vR 12 0 0, vI 1, vI (nI p)] τ = some (some (vI (RDP n a E V s).1), roS τ B e f (RDP n a E V s)) := q
  refine ⟨roS τ B e f (RDP n a E V s), ?_, scM_roS, fun k hk => ?_⟩
  · rw [bX12_isSoBy_8, if_pos rfl, q', bnd_s, tl_s, bX12_isSoBy_14]
    rcases rgP_01 (nx := nxP n E V s) (n := n) (n + 1) a 0 0 (fun _ => 0) with h | h
    · have h' : (RDP n a E V s).1 = 0 := h
      rw [bI_t (show fr1 _ = true from decide_eq_true h'), h', if_neg (by decide)]
    · have h' : (RDP n a E V s).1 = 1 := h
      have h0 : ¬ (RDP n a E V s).1 = 0 := by rw [h']; exact i10
      rw [bI_f (show fr1 _ = false from decide_eq_false h0), h', if_pos rfl]
  · show u3 (u3 (u3 τ.1 12 0 43 e) 12 0 60 _) 12 0 61 _ 12 0 k = _
    rw [u3_nk (by omega), u3_nk (by omega), u3_nk (by omega)]
    rfl
/-- isSoBy, of rings -/
theorem m_so0 {E : Nat → Nat → Int32} {V s : Nat → Int32} (hEV : EVh G n r σ p E V) (hp : p < r) (ha : a < n) (ho : gA σ 5 0 5 p = nI a) (hQ : RQ G n r σ τ) (hs : ∀ i, i < n → gA τ 12 0 46 i = s i) (g : Int32) : ∃ τ',
    den 243 [vR 12 0 0, vI (nI p), vI (-1), vI (-1), vI g, vI 0] τ = some (some (vI (bI (fr1 (RDP n a E V s)))), τ') ∧ scM τ τ' ∧ ∀ k, 62 < k → gI τ' 12 0 k = gI τ 12 0 k := by
  have hn6 := hQ.1.1.n6
  obtain ⟨τ1, f1, f2, f3, f4, f5, f6⟩ := lay_F hQ
  obtain ⟨τ', q1, q2, q3⟩ := m_so8 (s := s) hEV hp ha ho f4 f3 (fun i hi => (f5 i (by omega)).trans (hs i hi)) g (some (vI (-1))) (some (vI (-1)))
  refine ⟨τ', ?_, scM_t f2 q2, fun k hk => (q3 k hk).trans (f6 k (by omega))⟩
  rw [dX12_isSoBy, bX12_isSoBy_0, f1, bnd_s, tl_n, bX12_isSoBy_2, m_turn0, bnd_s, tl_n, bX12_isSoBy_5, m_turn0, bnd_s, tl_n, q1]
theorem m_so1 {E : Nat → Nat → Int32} {V s : Nat → Int32} (hEV : EVh G n r σ p E V) (hp : p < r) (ha : a < n) (ho : gA σ 5 0 5 p = nI a) (hQ : RQ G n r σ τ) (hs : ∀ i, i < n → gA τ 12 0 46 i = s i) (g : Int32) {c : Nat} (hc : c < 36) : ∃ τ',
    den 243 [vR 12 0 0, vI (nI p), vI (nI c), vI (-1), vI g, vI 0] τ = some (some (vI (bI (fr1 (RDP n a E V (tnS s c))))), τ') ∧ scM τ τ' ∧ ∀ k, 62 < k → gI τ' 12 0 k = gI τ 12 0 k := by
  have hn6 := hQ.1.1.n6
  obtain ⟨τ1, f1, f2, f3, f4, f5, f6⟩ := lay_F hQ
  obtain ⟨τ', q1, q2, q3⟩ := m_so8 (τ := tnM τ1 c) (s := tnS s c) hEV hp ha ho (tnM_Y f4) f3 (fun i hi => by
    rw [tnM_g]
    show gA τ1 12 0 46 (6 + i) ^^^ tnX c i = s i ^^^ tnX c i
    rw [f5 i (by omega), hs i hi]) g (some (vI (nI c))) (some (vI (-1)))
  refine ⟨τ', ?_, scM_t f2 (scM_t (tnM_sc c) q2), fun k hk => (q3 k hk).trans (f6 k (by omega))⟩
  rw [dX12_isSoBy, bX12_isSoBy_0, f1, bnd_s, tl_n, bX12_isSoBy_2, m_turn hc, bnd_s, tl_n, bX12_isSoBy_5, m_turn0, bnd_s, tl_n, q1]
theorem m_so2 {E : Nat → Nat → Int32} {V s : Nat → Int32} (hEV : EVh G n r σ p E V) (hp : p < r) (ha : a < n) (ho : gA σ 5 0 5 p = nI a) (hQ : RQ G n r σ τ) (hs : ∀ i, i < n → gA τ 12 0 46 i = s i) (g : Int32) {c d : Nat} (hc : c < 36) (hd : d < 36) : ∃ τ',
    den 243 [vR 12 0 0, vI (nI p), vI (nI c), vI (nI d), vI g, vI 0] τ = some (some (vI (bI (fr1 (RDP n a E V (tnS (tnS s c) d))))), τ') ∧ scM τ τ' ∧ ∀ k, 62 < k → gI τ' 12 0 k = gI τ 12 0 k := by
  have hn6 := hQ.1.1.n6
  obtain ⟨τ1, f1, f2, f3, f4, f5, f6⟩ := lay_F hQ
  obtain ⟨τ', q1, q2, q3⟩ := m_so8 (τ := tnM (tnM τ1 c) d) (s := tnS (tnS s c) d) hEV hp ha ho (tnM_Y (tnM_Y f4)) f3 (fun i hi => by
    rw [tnM_g]
    show gA (tnM τ1 c) 12 0 46 (6 + i) ^^^ tnX d i = (s i ^^^ tnX c i) ^^^ tnX d i
    rw [tnM_g]
    show (gA τ1 12 0 46 (6 + i) ^^^ tnX c i) ^^^ tnX d i = (s i ^^^ tnX c i) ^^^ tnX d i
    rw [f5 i (by omega), hs i hi]) g (some (vI (nI c))) (some (vI (nI d)))
  refine ⟨τ', ?_, scM_t f2 (scM_t (tnM_sc c) (scM_t (tnM_sc d) q2)), fun k hk => (q3 k hk).trans (f6 k (by omega))⟩
  rw [dX12_isSoBy, bX12_isSoBy_0, f1, bnd_s, tl_n, bX12_isSoBy_2, m_turn hc, bnd_s, tl_n, bX12_isSoBy_5, m_turn hd, bnd_s, tl_n, q1]
/-- whether a sight may be turned -/
def okB (n : Nat) (s : Nat → Int32) (fl : Int32) (c : Nat) : Bool := decide (c / 6 < n ∧ c % 6 < n ∧ ¬ c / 6 = c % 6 ∧ bit (s (c / 6)) (nI (c % 6)) = fl)
theorem m_mayTurn (hn6 : n ≤ 6) (hn : gI τ 12 0 12 = nI n) {s : Nat → Int32} (hs : ∀ i, i < n → gA τ 12 0 46 i = s i) (fl : Int32) {c : Nat} (hc : c < 36) : den 242 [vR 12 0 0, vI (nI c), vI fl] τ = some (some (vI (bI (okB n s fl c))), τ) := by
  obtain ⟨d1, d2⟩ := cd6 hc
  have a1 := ob (i := c / 6) (N := 12) (by omega) (by decide)
  have c1 : (nI (c / 6)).toNatClampNeg = c / 6 := nI_clamp (by omega)
  rw [dX12_mayTurn, bX12_mayTurn_0, d2, d1, m_areTwo, hn, bnd_s, tl_s, bX12_mayTurn_8, d2, d1]
  simp only [c1, a1, ↓reduceIte]
  by_cases h1 : c / 6 < n
  · have b1 : isb (nI (c / 6)) (nI n) = 1 := isb_1 ⟨nI_pos (by omega), nI_lt h1 (by omega)⟩
    by_cases h2 : c % 6 < n
    · have b2 : isb (nI (c % 6)) (nI n) = 1 := isb_1 ⟨nI_pos (by omega), nI_lt h2 (by omega)⟩
      by_cases h3 : c / 6 = c % 6
      · have : twb (nI (c / 6)) (nI (c % 6)) (nI n) = 0 := by
          unfold twb
          rw [b1, b2, if_neg i10, if_neg i10, if_pos (by rw [h3])]
        rw [this, if_pos rfl, bI_f (show okB n s fl c = false from decide_eq_false (fun z => z.2.2.1 h3))]
      · have : twb (nI (c / 6)) (nI (c % 6)) (nI n) = 1 := by
          unfold twb
          rw [b1, b2, if_neg i10, if_neg i10, if_neg (fun z => h3 ((nI_eq (by omega) (by omega)).mp z))]
        rw [this, if_neg i10, m_isOf, bnd_s, tl_s, bX12_mayTurn_19, hs (c / 6) h1]
        by_cases h4 : bit (s (c / 6)) (nI (c % 6)) = fl
        · rw [if_pos h4, bI_t (show okB n s fl c = true from decide_eq_true ⟨h1, h2, h3, h4⟩)]
        · rw [if_neg h4, bI_f (show okB n s fl c = false from decide_eq_false (fun z => h4 z.2.2.2))]
    · have b2 : isb (nI (c % 6)) (nI n) = 0 := isb_0 (fun z => h2 ((nI_ltI (by omega) (by omega)).mp z.2))
      have : twb (nI (c / 6)) (nI (c % 6)) (nI n) = 0 := by
        unfold twb
        rw [b1, b2, if_neg i10, if_pos rfl]
      rw [this, if_pos rfl, bI_f (show okB n s fl c = false from decide_eq_false (fun z => h2 z.2.1))]
  · have b1 : isb (nI (c / 6)) (nI n) = 0 := isb_0 (fun z => h1 ((nI_ltI (by omega) (by omega)).mp z.2))
    have : twb (nI (c / 6)) (nI (c % 6)) (nI n) = 0 := by
      unfold twb
      rw [b1, if_pos rfl]
    rw [this, if_pos rfl, bI_f (show okB n s fl c = false from decide_eq_false (fun z => h1 z.1))]
/-- both searches find the same: the class also turns sights of those who aren't -/
theorem free_same {E : Nat → Nat → Int32} {V V' s s' : Nat → Int32} (hn6 : n ≤ 6) (ha : a < n) (hV : ∀ i, i < n → V' i = V i) (hs : ∀ i, i < n → s' i = s i) (hX : ∀ i, i < n → ∃ X, X < 2 ^ n ∧ s i = nI X) (hD : ∀ i, i < n → bit (s i) (nI i) = 0) :
    pkP (fr1 (RDP n a E V' s')) (fun c => snB s' c && fr1 (RDP n a E V' (tnS s' c))) (fun c d => snB s' c && (snB s' d && fr1 (RDP n a E V' (tnS (tnS s' c) d)))) =
    pkP (fr1 (RDP n a E V s)) (fun c => okB n s 1 c && fr1 (RDP n a E V (tnS s c))) (fun c d => okB n s 1 c && (okB n s 1 d && fr1 (RDP n a E V (tnS (tnS s c) d)))) := by
  have hr : ∀ x y : Nat → Int32, (∀ i, i < n → x i = y i) → RDP n a E V' x = RDP n a E V y := by
    intro x y h
    refine rgP_c (fun i hi => ?_) (fun i _ => nxP_r i) hn6 _ _ _ _ _ ha
    unfold nxP
    rw [hV i hi, h i hi]
  have t1 : ∀ (x y : Nat → Int32) (c : Nat), (∀ i, i < n → x i = y i) → ∀ i, i < n → tnS x c i = tnS y c i := by
    intro x y c h i hi
    unfold tnS
    rw [h i hi]
  have t2 : ∀ (x : Nat → Int32) (c : Nat), n ≤ c / 6 → ∀ i, i < n → tnS x c i = x i := fun x c h i hi => tnS_n (by omega)
  -- a sight of one who is: the same test
  have ok1 : ∀ c, c < 36 → c / 6 < n → snB s' c = okB n s 1 c := by
    intro c hc h1
    obtain ⟨X, x1, x2⟩ := hX (c / 6) h1
    have hX64 : X < 64 := Nat.lt_of_lt_of_le x1 (p2_64 hn6)
    by_cases hb : bit (s (c / 6)) (nI (c % 6)) = 0
    · rw [snB_f (by rw [hs _ h1]; exact hb)]
      exact (decide_eq_false (fun z => by have := z.2.2.2; rw [hb] at this; exact absurd this (by decide))).symm
    · have hb1 : bit (s (c / 6)) (nI (c % 6)) = 1 := (bit_01 _ _).resolve_left hb
      rw [snB_t (by rw [hs _ h1]; exact hb)]
      refine (decide_eq_true ⟨h1, ?_, fun z => ?_, hb1⟩).symm
      · refine Classical.byContradiction (fun h2 => hb ?_)
        rw [x2, bit_iff hX64 (by omega)]
        have : 2 ^ n ≤ 2 ^ (c % 6) := Nat.pow_le_pow_right (by decide) (by omega)
        rw [Nat.div_eq_of_lt (by omega)]
      · rw [← z] at hb
        exact hb (hD _ h1)
  have ok0 : ∀ c, ¬ c / 6 < n → okB n s 1 c = false := fun c h => decide_eq_false (fun z => h z.1)
  rw [hr s' s hs]
  cases hP : fr1 (RDP n a E V s) with
  | true => rw [pkP_0, pkP_0]
  | false =>
    have p1 : ∀ c, c < 36 → (snB s' c && fr1 (RDP n a E V' (tnS s' c))) = (okB n s 1 c && fr1 (RDP n a E V (tnS s c))) := by
      intro c hc
      by_cases h1 : c / 6 < n
      · rw [ok1 c hc h1, hr _ _ (t1 s' s c hs)]
      · have : RDP n a E V' (tnS s' c) = RDP n a E V s := hr _ _ (fun i hi => (t2 s' c (by omega) i hi).trans (hs i hi))
        rw [ok0 c h1, this, hP, Bool.and_false, Bool.false_and]
    have q1 := fs1_c (N := 36) p1 36 0 (by decide)
    cases hf : fs1 (fun c => okB n s 1 c && fr1 (RDP n a E V (tnS s c))) 36 0 with
    | some j => rw [pkP_1 (q1.trans hf), pkP_1 hf]
    | none =>
      have hno := fs1_none (N := 36) 36 0 (by decide) hf
      have p2 : ∀ c d, c < d → d < 36 → (snB s' c && (snB s' d && fr1 (RDP n a E V' (tnS (tnS s' c) d)))) = (okB n s 1 c && (okB n s 1 d && fr1 (RDP n a E V (tnS (tnS s c) d)))) := by
        intro c d hcd hd
        by_cases h1 : c / 6 < n
        · rw [ok1 c (by omega) h1]
          by_cases h2 : d / 6 < n
          · rw [ok1 d hd h2, hr _ _ (t1 _ _ d (t1 s' s c hs))]
          · have e : RDP n a E V' (tnS (tnS s' c) d) = RDP n a E V (tnS s c) := hr _ _ (fun i hi => (t2 _ d (by omega) i hi).trans (t1 s' s c hs i hi))
            have hc := hno c (Nat.zero_le _) (by omega)
            rw [e, ok0 d h2]
            have hc2 : (okB n s 1 c && fr1 (RDP n a E V (tnS s c))) = false := hc
            cases ho : okB n s 1 c with
            | false => rw [Bool.false_and, Bool.false_and]
            | true =>
              rw [ho, Bool.true_and] at hc2
              rw [hc2, Bool.and_false, Bool.false_and]
        · have e : RDP n a E V' (tnS (tnS s' c) d) = RDP n a E V s := hr _ _ (fun i hi => (t2 _ d (by omega) i hi).trans ((t2 s' c (by omega) i hi).trans (hs i hi)))
          rw [e, hP, ok0 c h1, Bool.and_false, Bool.and_false, Bool.false_and]
      have q2 := fs2_c (N := 36) p2 36 0 (by decide)
      cases hg : fs2 (fun c d => okB n s 1 c && (okB n s 1 d && fr1 (RDP n a E V (tnS (tnS s c) d)))) 36 0 with
      | some j => rw [pkP_2 (q1.trans hf) (q2.trans hg), pkP_2 hf hg]
      | none => rw [pkP_3 (q1.trans hf) (q2.trans hg), pkP_3 hf hg]
theorem q_free (hQ : RQ G n r σ τ) (hD : ∀ j, j < n → bit (gA σ 5 0 4 j) (nI j) = 0) (x y : Int32) : ans σ τ (den 125 [vR 11 0 0, vI x, vI y] σ) (den 246 [vR 12 0 0, vI x, vI y] τ) := by
  have hr2 := hQ.1.1.r2
  have hn6 := hQ.1.1.n6
  have hQ1 := RQ_sc hQ scC_0 (scM_th τ)
  have hmr : gI (th0 τ) 12 0 13 = nI r := hQ.1.1.mr
  rw [dX11_free, bX11_free_0, e_isRibbon, hQ.1.1.cr, bnd_s, tl_s, bX11_free_3, dX12_free, bX12_free_0, m_isRibbon, hmr, bnd_s, tl_s, bX12_free_6]
  rcases isb_nI (g := x) (n := r) (by omega) with h | ⟨p, hp, rfl, h⟩
  · rw [h, if_pos rfl, if_pos rfl]
    exact ⟨-1, _, _, rfl, rfl, scC_0, scM_th τ⟩
  rw [h, if_neg i10, if_neg i10, e_isWithin, m_isIn, bnd_s, bnd_s, tl_s, bX11_free_8, bX12_free_11]
  rcases inb_l (x := y) (a' := 0) (M' := 2) 0 2 rfl rfl (by decide) (by decide) with h | ⟨k, _, hk, rfl, h⟩
  · rw [h, if_pos rfl, if_pos rfl]
    exact ⟨-1, _, _, rfl, rfl, scC_0, scM_th τ⟩
  rw [h, if_neg i10, if_neg i10]
  obtain ⟨τ1, _, _, _, hY, _, _⟩ := lay_F hQ1
  obtain ⟨_, a, ha, ho⟩ := hY.2.2.2.2.2.2.1 p hp
  obtain ⟨E, hE⟩ := est_val hY (by decide)
  obtain ⟨V, hV⟩ := giv_val hY (by decide) (gA σ 5 0 6 p)
  have hEV : EVh G n r σ p E V := ⟨fun i j hi hj => (hE i j hi hj).2.2, fun i hi => ⟨(hV i hi).1, (hV i hi).2.2⟩⟩
  obtain ⟨B2, s2, v2, T2, f1, f2⟩ := e_prepare (p := p) hn6 (by omega) hY (fun i j hi hj => (hE i j hi hj).2.1) (fun i hi => ⟨(hV i hi).1, (hV i hi).2.1⟩)
  have hXn : ∀ i, i < n → ∃ X, X < 2 ^ n ∧ gA σ 5 0 4 i = nI X := fun i hi => by
    obtain ⟨_, X, h1, _, h2⟩ := hQ.2.1.1.2.2.1 i (by omega)
    exact ⟨X, h1, h2⟩
  have hT : TBL (prS (sI (sI σ 7 0 4 (nI n)) 7 0 5 (gA σ 5 0 5 p)) B2 s2 v2 T2) n a E (gA (prS (sI (sI σ 7 0 4 (nI n)) 7 0 5 (gA σ 5 0 5 p)) B2 s2 v2 T2) 7 0 2) := by
    refine ⟨rfl, ho, ha, fun i j hi hj hb => ?_⟩
    rw [prS_g2, (f2 i hi).1] at hb
    rw [prS_g0]
    exact (f2 i hi).2.2 j hj hb
  obtain ⟨σ2, g1, g2, g3⟩ := e_seekFree hn6 hT (fun i hi => by
    rw [prS_g2, (f2 i hi).1]
    obtain ⟨X, h1, h2⟩ := hXn i hi
    exact ⟨X, Nat.lt_of_lt_of_le h1 (p2_64 hn6), h2⟩)
  rw [prS_g1, prS_g2, free_same hn6 ha (fun i hi => (f2 i hi).2.1) (fun i hi => (f2 i hi).1) hXn hD] at g3
  -- the reference
  have hs : ∀ τ', scM (th0 τ) τ' → ∀ i, i < n → gA τ' 12 0 46 i = gA σ 5 0 4 i := fun τ' h i hi => ((RQ_sc hQ1 scC_0 h).2.1.s hn6 i hi).symm
  obtain ⟨τ2, k1, k2⟩ := m_changes (τ := th0 τ) (x1 := nI p) (x2 := -1) (x3 := 0) (fl := 1) (P0 := fr1 (RDP n a E V (gA σ 5 0 4))) (ok := okB n (gA σ 5 0 4) 1) (so1 := fun c => fr1 (RDP n a E V (tnS (gA σ 5 0 4) c))) (so2 := fun c d => fr1 (RDP n a E V (tnS (tnS (gA σ 5 0 4) c) d)))
    (K := fun τ' => scM (th0 τ) τ' ∧ gI τ' 12 0 63 = 0 ∧ gI τ' 12 0 64 = -1 ∧ gI τ' 12 0 65 = -1) rfl (fun τ' h => h.2)
    (by
      have s0 : scM (th0 τ) (sI (sI (sI (th0 τ) 12 0 63 0) 12 0 64 (-1)) 12 0 65 (-1)) := scM_t (scM_I (by omega) _) (scM_t (scM_I (by omega) _) (scM_I (by omega) _))
      obtain ⟨τ', q1, q2, q3⟩ := m_so0 (s := gA σ 5 0 4) hEV hp ha ho (RQ_sc hQ1 scC_0 s0) (hs _ s0) (-1)
      exact ⟨τ', q1, scM_t s0 q2, q3 63 (by decide), q3 64 (by decide), q3 65 (by decide)⟩)
    (fun c hc τ' hK => m_mayTurn hn6 (RQ_sc hQ1 scC_0 hK.1).1.1.mn (hs _ hK.1) 1 hc)
    (fun c hc _ τ' hK => by
      obtain ⟨τ'', q1, q2, q3⟩ := m_so1 (s := gA σ 5 0 4) hEV hp ha ho (RQ_sc hQ1 scC_0 hK.1) (hs _ hK.1) (-1) hc
      exact ⟨τ'', q1, scM_t hK.1 q2, (q3 63 (by decide)).trans hK.2.1, (q3 64 (by decide)).trans hK.2.2.1, (q3 65 (by decide)).trans hK.2.2.2⟩)
    (fun c d hcd hd _ _ τ' hK => by
      obtain ⟨τ'', q1, q2, q3⟩ := m_so2 (s := gA σ 5 0 4) hEV hp ha ho (RQ_sc hQ1 scC_0 hK.1) (hs _ hK.1) (-1) (c := c) (d := d) (by omega) hd
      exact ⟨τ'', q1, scM_t hK.1 q2, (q3 63 (by decide)).trans hK.2.1, (q3 64 (by decide)).trans hK.2.2.1, (q3 65 (by decide)).trans hK.2.2.2⟩)
  have c1 : scC σ σ2 := scC_t (scC_t (scC_I (Or.inr (Or.inl rfl)) _) (scC_I (Or.inr (Or.inl rfl)) _)) (scC_t scC_prS g2)
  rw [f1, bnd_s, tl_n, bX11_free_17, g1, bnd_s, tl_n, bX11_free_22, k2, bnd_s, tl_s, bX12_free_19]
  generalize hR : srP (fr1 (RDP n a E V (gA σ 5 0 4))) (fun c => okB n (gA σ 5 0 4) 1 c && fr1 (RDP n a E V (tnS (gA σ 5 0 4) c))) (fun c d => okB n (gA σ 5 0 4) 1 c && (okB n (gA σ 5 0 4) 1 d && fr1 (RDP n a E V (tnS (tnS (gA σ 5 0 4) c) d)))) = R
  have m1 : scM τ (sI (sI (sI τ2 12 0 63 R.2.1) 12 0 64 R.2.2.1) 12 0 65 R.2.2.2) := scM_t (scM_th τ) (scM_t k1.1 (scM_t (scM_I (by omega) _) (scM_t (scM_I (by omega) _) (scM_I (by omega) _))))
  obtain ⟨v, t1, t2⟩ := told_same (σ := σ2) (τ := sI (sI (sI τ2 12 0 63 R.2.1) 12 0 64 R.2.2.1) 12 0 65 R.2.2.2) hk g3.1 g3.2.1 g3.2.2 (by rw [hR]; rfl) (by rw [hR]; rfl) (by rw [hR]; rfl)
  rw [hR] at t2
  rw [t1, bnd_s, tl_s, bX11_free_26]
  by_cases h0 : R.1 = 0
  · rw [if_pos h0] at t2
    rw [if_pos h0, t2]
    exact ⟨-2, _, _, rfl, rfl, c1, m1⟩
  · rw [if_neg h0] at t2
    rw [if_neg h0, t2, bnd_s, tl_s, bX12_free_23]
    exact ⟨v, _, _, rfl, rfl, c1, m1⟩
end FR2
