theorem lt_sub {a b c : Nat} (ha : a < 2 ^ 30) (hb : b < 2 ^ 30) (hc : c < 2 ^ 30) : nI a < nI b - nI c ↔ a + c < b := by
  rw [Int32.lt_iff_toInt_lt, nI_toInt (by omega), pk_sub_toInt hb hc]
  omega
theorem neg_sub32 (a b : Int32) : -(a - b) = b - a := Int32.neg_sub
/-- worths of a group -/
def wsP (w : Nat → Int32) (X : Int32) : Nat → Nat → Int32 → Int32
  | 0, _, a => a
  | m + 1, i, a => if bit X (nI i) = 0 then wsP w X m (i + 1) (a + 0) else wsP w X m (i + 1) (a + w i)
theorem wsP_s0 {w : Nat → Int32} {X : Int32} {m i : Nat} {a : Int32} (h : bit X (nI i) = 0) : wsP w X (m + 1) i a = wsP w X m (i + 1) (a + 0) := by
  simp only [wsP]
  rw [if_pos h]
theorem wsP_s1 {w : Nat → Int32} {X : Int32} {m i : Nat} {a : Int32} (h : ¬ bit X (nI i) = 0) : wsP w X (m + 1) i a = wsP w X m (i + 1) (a + w i) := by
  simp only [wsP]
  rw [if_neg h]
theorem wsP_c {w w' : Nat → Int32} {X : Int32} {n : Nat} (h : ∀ i, i < n → w i = w' i) : ∀ (m i : Nat) (a : Int32), i + m = n → wsP w X m i a = wsP w' X m i a
  | 0, _, _, _ => rfl
  | m + 1, i, a, hm => by
    simp only [wsP]
    rw [h i (by omega), wsP_c h m (i + 1) _ (by omega), wsP_c h m (i + 1) _ (by omega)]
theorem wsP_0 {w : Nat → Int32} {X : Int32} {n : Nat} (h : ∀ i, n ≤ i → i < 6 → bit X (nI i) = 0) : ∀ (m i : Nat) (a : Int32), i + m = 6 → n ≤ i → wsP w X m i a = a
  | 0, _, _, _, _ => rfl
  | m + 1, i, a, hm, hi => by
    simp only [wsP]
    rw [if_pos (h i hi (by omega)), i_a0]
    exact wsP_0 h m (i + 1) a (by omega) (by omega)
theorem wsP_n {w : Nat → Int32} {X : Int32} {n : Nat} (hn : n ≤ 6) (h : ∀ i, n ≤ i → i < 6 → bit X (nI i) = 0) : ∀ (m i : Nat) (a : Int32), i + m = n → wsP w X (m + (6 - n)) i a = wsP w X m i a
  | 0, i, a, hm => by
    rw [Nat.zero_add]
    exact wsP_0 h (6 - n) i a (by omega) (by omega)
  | m + 1, i, a, hm => by
    rw [show m + 1 + (6 - n) = (m + (6 - n)) + 1 by omega]
    simp only [wsP]
    rw [wsP_n hn h m (i + 1) _ (by omega), wsP_n hn h m (i + 1) _ (by omega)]
theorem hi_bit {n X : Nat} (hn : n ≤ 6) (hX : X < 2 ^ n) : ∀ i, n ≤ i → i < 6 → bit (nI X) (nI i) = 0 := by
  intro i h1 h2
  have h64 : X < 64 := Nat.lt_of_lt_of_le hX (p2_64 hn)
  rw [bit_iff h64 h2]
  have : 2 ^ n ≤ 2 ^ i := Nat.pow_le_pow_right (by decide) h1
  rw [Nat.div_eq_of_lt (by omega)]
section VIS
variable {G n r : Nat} {σ τ : ST}
/-- Plot.worthOf -/
theorem wo_loop (o : Nat) (X : Int32) : ∀ (m i : Nat) (a : Int32), i + m = 6 → run kX5_worthOf 4 [some (vR 5 o 0), some (vI X), some (vI a), some (vI (nI i))] [] σ = some (some (vI (wsP (gA σ 5 o 2) X m i a)), σ)
  | 0, i, a, hm => by
    have hi : i = 6 := by omega
    subst hi
    rw [bX5_worthOf_4, if_neg (show ¬ nI 6 < 6 by decide)]
    rfl
  | m + 1, i, a, hm => by
    have hlt : nI i < 6 := nI_lt (b := 6) (by omega) (by decide)
    have a1 := ob (i := i) (N := 6) (by omega) (by decide)
    have c1 : (nI i).toNatClampNeg = i := nI_clamp (by omega)
    rw [bX5_worthOf_4, if_pos hlt, e_has, bnd_s, tl_s, bX5_worthOf_11, nI_S]
    simp only [c1, a1, ↓reduceIte, wsP]
    by_cases h1 : bit X (nI i) = 0
    · rw [if_pos h1, if_pos h1]
      exact wo_loop o X m (i + 1) _ (by omega)
    · rw [if_neg h1, if_neg h1]
      exact wo_loop o X m (i + 1) _ (by omega)
theorem e_worthOf (o : Nat) (X : Int32) : den 51 [vR 5 o 0, vI X] σ = some (some (vI (wsP (gA σ 5 o 2) X 6 0 0)), σ) := by
  have := wo_loop (σ := σ) o X 6 0 0 (by decide)
  rw [nI_0] at this
  rw [dX5_worthOf, bX5_worthOf_0, this]
/-- how far one walks -/
theorem way_loop (hn6 : n ≤ 6) (hn : gI σ 2 G 0 = nI n) (hm' : gI τ 12 0 12 = nI n) {P : Nat → Nat} (hP : ∀ j, j < n → P j ≤ 99 ∧ gA σ 2 G 8 j = nI (P j) ∧ gA τ 12 0 24 j = nI (P j)) {g : Nat} (hg : g < n) (X : Int32) : ∀ (m i l h : Nat), i + m = n → l ≤ P g → h ≤ 99 → ∀ (y y' : Option AV), ∃ v : Int32,
    run kX2_wayFrom 6 [some (vR 2 G 0), some (vI (nI g)), some (vI X), some (vI (nI l)), some (vI (nI h)), some (vI (nI i)), y] [] σ = some (some (vI v), σ) ∧
    run kX12_wayBy 6 [some (vR 12 0 0), some (vI (nI (P g))), some (vI X), some (vI (nI (P g - l))), some (vI (nI (P g + h))), some (vI (nI i)), y'] [] τ = some (some (vI v), τ)
  | 0, i, l, h, hm, hl, hh, y, y' => by
    have hlt : ¬ nI i < nI n := nI_nlt (by omega) (by omega)
    have h99 := (hP g hg).1
    have e1 : nI (P g) - nI (P g - l) = nI l := by rw [pk_sub (by omega), show P g - (P g - l) = l by omega]
    have e2 : nI (P g + h) - nI (P g) = nI h := by rw [pk_sub (by omega), show P g + h - P g = h by omega]
    rw [bX2_wayFrom_6, hn, if_neg hlt, bX12_wayBy_6, hm', if_neg hlt, e1, e2]
    have two : ∀ x : Nat, (2 : Int32) * nI x = nI (2 * x) := fun x => pk_mul 2 x
    by_cases hc : nI l < nI h
    · rw [if_pos hc, if_pos hc, two, nI_add, nI_add, nI_add]
      exact ⟨_, rfl, by rw [show 2 * l + h = l + h + l by omega]⟩
    · rw [if_neg hc, if_neg hc, two, nI_add, nI_add, nI_add]
      exact ⟨_, rfl, by rw [show l + 2 * h = l + h + h by omega]⟩
  | m + 1, i, l, h, hm, hl, hh, y, y' => by
    have hlt : nI i < nI n := nI_lt (by omega) (by omega)
    have h99 := (hP g hg).1
    obtain ⟨p1, p2, p3⟩ := hP i (by omega)
    obtain ⟨_, g2, _⟩ := hP g hg
    have a1 := ob (i := i) (N := 6) (by omega) (by decide)
    have a2 := ob (i := g) (N := 6) (by omega) (by decide)
    have a3 := ob (i := i) (N := 12) (by omega) (by decide)
    have c1 : (nI i).toNatClampNeg = i := nI_clamp (by omega)
    have c2 : (nI g).toNatClampNeg = g := nI_clamp (by omega)
    rw [bX2_wayFrom_6, hn, if_pos hlt, e_has, bnd_s, tl_s, bX2_wayFrom_13, bX12_wayBy_6, hm', if_pos hlt, m_isOf, bnd_s, tl_s, bX12_wayBy_13, nI_S]
    simp only [c1, c2, a1, a2, a3, ↓reduceIte, p2, p3, g2, neg_sub32]
    by_cases hb : bit X (nI i) = 0
    · have n1 : ¬ nI l < (-0 : Int32) := by
        have : (-0 : Int32) = 0 := by decide
        rw [this]
        exact nI_pos (by omega)
      have n2 : ¬ nI h < (0 : Int32) := nI_pos (by omega)
      rw [if_pos hb, if_pos hb, if_neg n1, if_neg n2]
      exact way_loop hn6 hn hm' hP hg X m (i + 1) l h (by omega) hl hh _ _
    · rw [if_neg hb, if_neg hb]
      have i1 : (nI l < nI (P g) - nI (P i)) ↔ l + P i < P g := lt_sub (by omega) (by omega) (by omega)
      have i2' : (nI h < nI (P i) - nI (P g)) ↔ h + P g < P i := lt_sub (by omega) (by omega) (by omega)
      have j1 : (nI (P i) < nI (P g - l)) ↔ P i < P g - l := nI_ltI (by omega) (by omega)
      have j2 : (nI (P g + h) < nI (P i)) ↔ P g + h < P i := nI_ltI (by omega) (by omega)
      by_cases h1 : l + P i < P g
      · have n2 : ¬ nI h < nI (P i) - nI (P g) := fun z => by have := i2'.mp z; omega
        have n2' : ¬ nI (P g + h) < nI (P i) := fun z => by have := j2.mp z; omega
        have v1 : nI (P g) - nI (P i) = nI (P g - P i) := pk_sub (by omega)
        rw [if_pos (i1.mpr h1), if_neg n2, if_pos (j1.mpr (by omega)), if_neg n2', v1]
        have := way_loop hn6 hn hm' hP hg X m (i + 1) (P g - P i) h (by omega) (by omega) hh (some (vI (nI (P i) - nI (P g)))) y'
        rw [show P g - (P g - P i) = P i by omega] at this
        exact this
      · have n1 : ¬ nI l < nI (P g) - nI (P i) := fun z => h1 (i1.mp z)
        have n1' : ¬ nI (P i) < nI (P g - l) := fun z => by have := j1.mp z; omega
        rw [if_neg n1, if_neg n1']
        by_cases h2 : h + P g < P i
        · have v1 : nI (P i) - nI (P g) = nI (P i - P g) := pk_sub (by omega)
          rw [if_pos (i2'.mpr h2), if_pos (j2.mpr (by omega)), v1]
          have := way_loop hn6 hn hm' hP hg X m (i + 1) l (P i - P g) (by omega) hl (by omega) (some (vI (nI (P i - P g)))) y'
          rw [show P g + (P i - P g) = P i by omega] at this
          exact this
        · have n2 : ¬ nI h < nI (P i) - nI (P g) := fun z => h2 (i2'.mp z)
          have n2' : ¬ nI (P g + h) < nI (P i) := fun z => by have := j2.mp z; omega
          rw [if_neg n2, if_neg n2']
          exact way_loop hn6 hn hm' hP hg X m (i + 1) l h (by omega) hl hh _ _
/-- places as numbers -/
theorem placeN (hG : RG G n r σ τ) : ∃ P : Nat → Nat, ∀ j, j < n → P j ≤ 99 ∧ gA σ 2 G 8 j = nI (P j) ∧ gA τ 12 0 24 j = nI (P j) := by
  have : ∀ i : Nat, ∃ x : Nat, i < n → x ≤ 99 ∧ gA σ 2 G 8 i = nI x ∧ gA τ 12 0 24 i = nI x := by
    intro i
    by_cases hi : i < n
    · obtain ⟨h1, x, h2, h3⟩ := hG.2.2.2.2.2.2.2.2.2 i hi
      exact ⟨x, fun _ => ⟨h2, h3, h1.symm.trans h3⟩⟩
    · exact ⟨0, fun h => absurd h hi⟩
  exact ⟨fun i => Classical.choose (this i), fun i => Classical.choose_spec (this i)⟩
theorem way_pair (hG : RG G n r σ τ) {P : Nat → Nat} (hP : ∀ j, j < n → P j ≤ 99 ∧ gA σ 2 G 8 j = nI (P j) ∧ gA τ 12 0 24 j = nI (P j)) {g : Nat} (hg : g < n) (X : Int32) : ∃ v : Int32,
    den 25 [vR 2 G 0, vI (nI g), vI X] σ = some (some (vI v), σ) ∧ den 254 [vR 12 0 0, vI (nI (P g)), vI X] τ = some (some (vI v), τ) := by
  obtain ⟨v, h1, h2⟩ := way_loop hG.n6 hG.2.2.1.1 hG.mn hP hg X n 0 0 0 (by omega) (Nat.zero_le _) (by omega) none none
  rw [nI_0] at h1 h2
  rw [Nat.sub_zero, Nat.add_zero] at h2
  exact ⟨v, by rw [dX2_wayFrom, bX2_wayFrom_0, h1], by rw [dX12_wayBy, bX12_wayBy_0, h2]⟩
theorem vs_in (hn6 : n ≤ 6) (hn : gI τ 12 0 12 = nI n) (x1 x2 x3 x4 x5 X : Int32) : ∀ (m i : Nat) (a : Int32), i + m = n → run kX12_visit 49 [some (vR 12 0 0), some (vI x1), some (vI x2), some (vI x3), some (vI x4), some (vI x5), some (vI X), some (vI a), some (vI (nI i))] [] τ =
    (if x5 < wsP (gA τ 12 0 44) X m i a then run kX12_visit 25 [some (vR 12 0 0), some (vI x1), some (vI x2), some (vI x3), some (vI X), some (vI (wsP (gA τ 12 0 44) X m i a)), some (vI (X + 1)), some (vI (wsP (gA τ 12 0 44) X m i a)), some (vI (nI n))] [] τ else run kX12_visit 25 [some (vR 12 0 0), some (vI x1), some (vI x2), some (vI x3), some (vI x4), some (vI x5), some (vI (X + 1)), some (vI (wsP (gA τ 12 0 44) X m i a)), some (vI (nI n))] [] τ)
  | 0, i, a, hm => by
    have hi : i = n := by omega
    subst hi
    have hlt : ¬ nI i < nI i := nI_nlt (by omega) (by omega)
    rw [bX12_visit_49, hn, if_neg hlt]
    rfl
  | m + 1, i, a, hm => by
    have hlt : nI i < nI n := nI_lt (by omega) (by omega)
    have a1 := ob (i := i) (N := 12) (by omega) (by decide)
    have c1 : (nI i).toNatClampNeg = i := nI_clamp (by omega)
    rw [bX12_visit_49, hn, if_pos hlt, m_isOf, bnd_s, tl_s, bX12_visit_57, nI_S]
    simp only [c1, a1, ↓reduceIte]
    by_cases h1 : bit X (nI i) = 0
    · rw [if_pos h1, wsP_s0 h1]
      exact vs_in hn6 hn x1 x2 x3 x4 x5 X m (i + 1) _ (by omega)
    · rw [if_neg h1, wsP_s1 h1]
      exact vs_in hn6 hn x1 x2 x3 x4 x5 X m (i + 1) _ (by omega)
theorem sh2 : ∀ j, j < 7 → (1 : Int32) <<< (nI j &&& 31) = nI (2 ^ j) := by decide +kernel
theorem vis_loop (hG : RG G n r σ τ) (hP : PRb n r σ 0 τ 0) {P : Nat → Nat} (hPl : ∀ j, j < n → P j ≤ 99 ∧ gA σ 2 G 8 j = nI (P j) ∧ gA τ 12 0 24 j = nI (P j)) {g : Nat} (hg : g < n) (x2 x3 : Int32) : ∀ (m X : Nat), X + m = 2 ^ n → ∀ (x4 x5 : Int32) (y7 z7 z8 : Option AV), ∃ v : Int32,
    run kX11_visit 22 [some (vR 11 0 0), some (vI (nI g)), some (vI x2), some (vI x3), some (vI x4), some (vI x5), some (vI (nI X)), y7] [] σ = some (some (vI v), σ) ∧
    run kX12_visit 25 [some (vR 12 0 0), some (vI (nI g)), some (vI x2), some (vI x3), some (vI x4), some (vI x5), some (vI (nI X)), z7, z8] [] τ = some (some (vI v), τ)
  | 0, X, hm, x4, x5, y7, z7, z8 => by
    have hn6 := hG.n6
    have p64 := p2_64 hn6
    have hlt : ¬ nI X < nI (2 ^ n) := nI_nlt (by omega) (by omega)
    rw [bX11_visit_22, hG.cn, bX12_visit_25, hG.mn, sh2 n (by omega), if_neg hlt, if_neg hlt]
    by_cases h : x3 = 0
    · rw [if_pos h, if_pos h]; exact ⟨_, rfl, rfl⟩
    · rw [if_neg h, if_neg h]; exact ⟨_, rfl, rfl⟩
  | m + 1, X, hm, x4, x5, y7, z7, z8 => by
    have hn6 := hG.n6
    have p64 := p2_64 hn6
    have hX : X < 2 ^ n := by omega
    have hlt : nI X < nI (2 ^ n) := nI_lt hX (by omega)
    have a1 := ob (i := g) (N := 12) (by omega) (by decide)
    have c1 : (nI g).toNatClampNeg = g := nI_clamp (by omega)
    obtain ⟨w, w1, w2⟩ := way_pair hG hPl hg (nI X)
    have ew : wsP (gA σ 5 0 2) (nI X) 6 0 0 = wsP (gA τ 12 0 44) (nI X) n 0 0 := by
      have h1 := wsP_n (w := gA σ 5 0 2) hn6 (hi_bit hn6 hX) n 0 0 (by omega)
      rw [show n + (6 - n) = 6 by omega] at h1
      rw [h1]
      exact wsP_c hP.w n 0 0 (by omega)
    have hin := fun x4 x5 => vs_in (τ := τ) hn6 hG.mn (nI g) x2 x3 x4 x5 (nI X) n 0 0 (by omega)
    rw [nI_0] at hin
    have ih := fun x4 x5 y7 z7 z8 => vis_loop hG hP hPl hg x2 x3 m (X + 1) (by omega) x4 x5 y7 z7 z8
    have hgG := hG.g
    rw [bX11_visit_22, hG.cn, bX12_visit_25, hG.mn, sh2 n (by omega), if_pos hlt, if_pos hlt, e_worthOf, bnd_s, tl_s, bX11_visit_34, e_has, bnd_s, tl_s, bX11_visit_41, hgG, w1, bnd_s, tl_s, bX11_visit_47, m_isOf, bnd_s, tl_s, bX12_visit_34]
    simp only [c1, a1, ↓reduceIte, nI_S]
    rw [(hPl g hg).2.2, w2, bnd_s, tl_s, bX12_visit_42, hin, ew, nI_S]
    by_cases hb : bit (nI X) (nI g) = 0
    · rw [if_pos hb, if_pos hb]
      by_cases hw : x2 < w
      · rw [if_pos hw, if_pos hw]
        by_cases h5 : x5 < wsP (gA τ 12 0 44) (nI X) n 0 0
        · rw [if_pos h5]; exact ih _ _ _ _ _
        · rw [if_neg h5]; exact ih _ _ _ _ _
      · rw [if_neg hw, if_neg hw]
        by_cases h5 : x5 < wsP (gA τ 12 0 44) (nI X) n 0 0
        · rw [if_pos h5, if_pos h5]; exact ih _ _ _ _ _
        · rw [if_neg h5, if_neg h5]; exact ih _ _ _ _ _
    · rw [if_neg hb, if_neg hb]
      by_cases h5 : x5 < wsP (gA τ 12 0 44) (nI X) n 0 0
      · rw [if_pos h5]; exact ih _ _ _ _ _
      · rw [if_neg h5]; exact ih _ _ _ _ _
/-- the class begins with the empty group, which is worth nothing -/
theorem vis_0 (hn6 : n ≤ 6) (hn : gI σ 2 (gR σ 11 0 2) 0 = nI n) (x1 x2 x3 : Int32) (y7 : Option AV) : ∃ y, run kX11_visit 22 [some (vR 11 0 0), some (vI x1), some (vI x2), some (vI x3), some (vI 0), some (vI 0), some (vI 0), y7] [] σ = run kX11_visit 22 [some (vR 11 0 0), some (vI x1), some (vI x2), some (vI x3), some (vI 0), some (vI 0), some (vI (nI 1)), y] [] σ := by
  have p64 := p2_64 hn6
  have h1 : (0 : Int32) < nI (2 ^ n) := nI_lt (a := 0) (Nat.two_pow_pos n) (by omega)
  have e0 : wsP (gA σ 5 0 2) 0 6 0 0 = 0 := wsP_0 (n := 0) (fun i _ _ => bit_0 _) 6 0 0 (by decide) (Nat.zero_le _)
  refine ⟨some (vI 0), ?_⟩
  rw [bX11_visit_22, hn, sh2 n (by omega), if_pos h1, e_worthOf, e0, bnd_s, tl_s, bX11_visit_34, if_neg (by decide)]
  rfl
theorem q_visit (hQ : RQ G n r σ τ) (x y z : Int32) : ans σ τ (den 134 [vR 11 0 0, vI x, vI y, vI z] σ) (den 255 [vR 12 0 0, vI x, vI y, vI z] τ) := by
  have hn6 := hQ.1.1.n6
  have hm : gI (th0 τ) 12 0 12 = nI n := hQ.1.1.mn
  have hQ1 := RQ_sc hQ scC_0 (scM_th τ)
  rw [dX11_visit, bX11_visit_0, e_isGrower, hQ.1.1.cn, bnd_s, tl_s, bX11_visit_3, dX12_visit, bX12_visit_0, m_isGrower, hm, bnd_s, tl_s, bX12_visit_6]
  rcases isb_nI (g := x) (n := n) (by omega) with h | ⟨g, hg, rfl, h⟩
  · rw [h, if_pos rfl, if_pos rfl]
    exact ⟨-1, _, _, rfl, rfl, scC_0, scM_th τ⟩
  rw [h, if_neg i10, if_neg i10, e_isWithin, m_isIn, bnd_s, bnd_s, tl_s, bX11_visit_8, bX12_visit_11]
  by_cases h1 : inb y 0 999 = 0
  · rw [if_pos h1, if_pos h1]
    exact ⟨-1, _, _, rfl, rfl, scC_0, scM_th τ⟩
  rw [if_neg h1, if_neg h1, e_isWithin, m_isIn, bnd_s, bnd_s, tl_s, bX11_visit_13, bX12_visit_16]
  by_cases h2 : inb z 0 1 = 0
  · rw [if_pos h2, if_pos h2]
    exact ⟨-1, _, _, rfl, rfl, scC_0, scM_th τ⟩
  obtain ⟨P, hP⟩ := placeN hQ1.1.1
  obtain ⟨y', e0⟩ := vis_0 hn6 hQ.1.1.cn (nI g) y z none
  have p1 := Nat.two_pow_pos n
  obtain ⟨v, v1, v2⟩ := vis_loop hQ1.1.1 hQ1.2.1 hP hg y z (2 ^ n - 1) 1 (by omega) 0 0 y' none none
  rw [if_neg h2, if_neg h2, e0, v1]
  have v2' : run kX12_visit 25 [some (vR 12 0 0), some (vI (nI g)), some (vI y), some (vI z), some (vI 0), some (vI 0), some (vI 1), none, none] [] (th0 τ) = some (some (vI v), th0 τ) := v2
  rw [v2']
  exact ⟨v, _, _, rfl, rfl, scC_0, scM_th τ⟩
end VIS
