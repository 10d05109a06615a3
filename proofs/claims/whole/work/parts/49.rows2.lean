/-! ROWS: what the methods do -/
theorem m_rowsOf (τ : ST) : ∀ k, k < 7 → den 248 [vI (nI k)] τ = some (some (vI (nI (facN k))), τ) := by
  intro k hk
  have : k = 0 ∨ k = 1 ∨ k = 2 ∨ k = 3 ∨ k = 4 ∨ k = 5 ∨ k = 6 := by omega
  rcases this with rfl | rfl | rfl | rfl | rfl | rfl | rfl
  all_goals
    rw [dX12_rowsOf, bX12_rowsOf_0]
    simp (decide := true) only [bX12_rowsOf_4, ↓reduceIte]
    rfl
theorem facN_p : ∀ k, k < 7 → 0 < facN k ∧ facN k ≤ 720 := by decide
theorem pkG_ge {had : Nat} : ∀ (m nth g : Nat), g ≤ pkG m had nth g
  | 0, _, _ => Nat.le_refl _
  | m + 1, nth, g => by
    simp only [pkG]
    by_cases h1 : had / 2 ^ g % 2 = 0
    · rw [if_pos h1]
      by_cases h2 : 0 < nth
      · rw [if_pos h2]; have := pkG_ge (had := had) m (nth - 1) (g + 1); omega
      · rw [if_neg h2]; exact Nat.le_refl _
    · rw [if_neg h1]; have := pkG_ge (had := had) m nth (g + 1); omega
section ROW
variable {τ : ST}
theorem sub_0 (x : Int32) : x - (0 : Int32) = x := Int32.sub_zero x
theorem lr_pick {had : Nat} (hh : had < 64) (x2 x5 : Int32) {k : Nat} (hk : k < 6) : ∀ (m g nth : Nat), g + m = 7 → nth < 2 ^ 31 → pkG m had nth g < 6 → ∀ (y1 y3 y7 : Option AV), ∃ y3' y7' y8 y9,
    run kX12_layRow 26 [some (vR 12 0 0), y1, some (vI x2), y3, some (vI (nI had)), some (vI x5), some (vI (nI k)), y7, some (vI (nI nth)), some (vI (nI g))] [] τ =
    run kX12_layRow 6 [some (vR 12 0 0), y1, some (vI x2), y3', some (vI (nI had ||| ((1 : Int32) <<< (nI (pkG m had nth g) &&& 31)))), some (vI x5), some (vI (nI (k + 1))), y7', y8, y9] [] (sA τ 12 0 66 (upd (gA τ 12 0 66) k (nI (pkG m had nth g))))
  | 0, g, nth, hm, hn, hr, y1, y3, y7 => by
    simp only [pkG] at hr
    omega
  | m + 1, g, nth, hm, hn, hr, y1, y3, y7 => by
    have hg := pkG_ge (had := had) (m + 1) nth g
    have hg6 : g < 6 := by omega
    have a1 := ob (i := k) (N := 6) (by omega) (by decide)
    have c1 : (nI k).toNatClampNeg = k := nI_clamp (by omega)
    rw [bX12_layRow_26, m_isOf, bnd_s, tl_s, bX12_layRow_29, m_isOf, bnd_s, tl_s, bX12_layRow_36]
    simp only [c1, a1, ↓reduceIte, nI_S, sub_0]
    simp only [pkG] at hr ⊢
    by_cases h1 : bit (nI had) (nI g) = 0
    · have h1' := (bit_iff hh hg6).mp h1
      rw [if_pos h1] at *
      rw [if_pos h1'] at hr ⊢
      by_cases h2 : 0 < nth
      · have l : (0 : Int32) < nI nth := nI_lt (a := 0) h2 hn
        have e1 : nI nth - 1 = nI (nth - 1) := pk_sub (a := nth) (b := 1) h2
        rw [if_pos h2] at hr ⊢
        rw [if_pos l, if_pos h1, e1]
        exact lr_pick hh x2 x5 hk m (g + 1) (nth - 1) (by omega) (by omega) hr _ _ _
      · have l : ¬ (0 : Int32) < nI nth := nI_nlt (a := 0) (by omega) (by decide)
        rw [if_neg h2] at hr ⊢
        rw [if_neg l]
        exact ⟨_, _, _, _, rfl⟩
    · have h1' : ¬ had / 2 ^ g % 2 = 0 := fun z => h1 ((bit_iff hh hg6).mpr z)
      rw [if_neg h1'] at hr ⊢
      rw [if_neg h1, if_neg h1]
      exact lr_pick hh x2 x5 hk m (g + 1) nth (by omega) hn hr _ _ _
theorem lr_loop {L : Nat} (hL : L ≤ 6) : ∀ (m k had left : Nat), k + m = L → had < 64 → left < 2 ^ 31 → okRow m had left = true → ∀ (τ : ST) (y1 y3 y7 y8 y9 : Option AV), ∃ F : Nat → Int32,
    run kX12_layRow 6 [some (vR 12 0 0), y1, some (vI (nI L)), y3, some (vI (nI had)), some (vI (nI left)), some (vI (nI k)), y7, y8, y9] [] τ = some (none, sA τ 12 0 66 F) ∧ (∀ j, j < m → F (k + j) = nI ((rwLs m had left).getD j 0)) ∧ ∀ j, j < k → F j = gA τ 12 0 66 j
  | 0, k, had, left, hm, hh, hl, ho, τ, y1, y3, y7, y8, y9 => by
    have hlt : ¬ nI k < nI L := nI_nlt (by omega) (by omega)
    exact ⟨gA τ 12 0 66, by rw [bX12_layRow_6, if_neg hlt, sA_id], fun j hj => by omega, fun _ _ => rfl⟩
  | m + 1, k, had, left, hm, hh, hl, ho, τ, y1, y3, y7, y8, y9 => by
    have hlt : nI k < nI L := nI_lt (by omega) (by omega)
    obtain ⟨f0, f1⟩ := facN_p m (by omega)
    have e1 : nI L - 1 - nI k = nI m := by
      have : nI L - 1 = nI (L - 1) := pk_sub (a := L) (b := 1) (by omega)
      rw [this, pk_sub (by omega), show L - 1 - k = m by omega]
    have nz : ¬ nI (facN m) = 0 := nI_ne0 f0 (by omega)
    simp only [okRow, Bool.and_eq_true, decide_eq_true_eq] at ho
    obtain ⟨o1, o2, o3, o4⟩ := ho
    have hq : left / facN m < 2 ^ 31 := Nat.lt_of_le_of_lt (Nat.div_le_self _ _) hl
    obtain ⟨y3', y7', y8', y9', h⟩ := lr_pick (τ := τ) hh (nI L) (nI (left % facN m)) (k := k) (by omega) 7 0 (left / facN m) (by decide) hq o1 y1 y3 (some (vI (nI (facN m))))
    rw [nI_0] at h
    have hh2 := (pt1 had hh _ o1 o2).1
    obtain ⟨F, g1, g2, g3⟩ := lr_loop hL m (k + 1) (had + 2 ^ pkG 7 had (left / facN m) 0) (left % facN m) (by omega) o3 (Nat.lt_of_lt_of_le (Nat.mod_lt _ f0) (by omega)) o4 (sA τ 12 0 66 (upd (gA τ 12 0 66) k (nI (pkG 7 had (left / facN m) 0)))) y1 y3' y7' y8' y9'
    rw [sAA] at g1
    have ek : gA (sA τ 12 0 66 (upd (gA τ 12 0 66) k (nI (pkG 7 had (left / facN m) 0)))) 12 0 66 = upd (gA τ 12 0 66) k (nI (pkG 7 had (left / facN m) 0)) := gA_s
    rw [ek] at g3
    refine ⟨F, ?_, fun j hj => ?_, fun j hj => ?_⟩
    · rw [bX12_layRow_6, if_pos hlt, e1, m_rowsOf τ m (by omega), bnd_s, tl_s, bX12_layRow_15, if_neg nz, if_neg nz, pk_rem hl f0 (by omega), pk_div hl f0 (by omega), h, hh2, g1]
    · rcases Nat.eq_zero_or_pos j with rfl | hj0
      · rw [Nat.add_zero, g3 k (by omega), pk_us]
        rfl
      · have := g2 (j - 1) (by omega)
        rw [show k + 1 + (j - 1) = k + j by omega] at this
        rw [this]
        obtain ⟨i, rfl⟩ : ∃ i, j = i + 1 := ⟨j - 1, by omega⟩
        rfl
    · rw [g3 j (by omega), upd_o (by omega)]
/-- the reference lays the row of that number -/
theorem m_layRow {L out c : Nat} (hL : L ≤ 6) (ho : out < 64) (hc : c < 2 ^ 31) (hok : okRow L out c = true) : ∃ F : Nat → Int32, den 249 [vR 12 0 0, vI (nI c), vI (nI L), vI (nI out)] τ = some (none, sA τ 12 0 66 F) ∧ ∀ j, j < L → F j = nI (rwP L out c j) := by
  obtain ⟨F, g1, g2, _⟩ := lr_loop hL L 0 out c (by omega) ho hc hok τ (some (vI (nI c))) (some (vI (nI out))) none none none
  rw [nI_0] at g1
  refine ⟨F, by rw [dX12_layRow, bX12_layRow_0, g1], fun j hj => ?_⟩
  have := g2 j hj
  rw [Nat.zero_add] at this
  exact this
end ROW
section ADV
variable {σ : ST} {L : Nat}
def ri (x : Nat) : Int32 := if x = 9 then -1 else nI x
/-- the row as numbers -/
def rwA (L : Nat) (A : Nat → Int32) (f : Nat → Nat) : Prop := ∀ j, j < L → A j = nI (f j) ∧ f j < 6
theorem e_swap {f : Nat → Nat} (hL : L ≤ 6) (h : rwA L (gA σ 8 0 0) f) {i j : Nat} (hi : i < L) (hj : j < L) : ∃ A, den 88 [vR 8 0 0, vI (nI i), vI (nI j)] σ = some (none, sA σ 8 0 0 A) ∧ rwA L A (swN f i j) := by
  have a1 := ob (i := i) (N := 6) (by omega) (by decide)
  have a2 := ob (i := j) (N := 6) (by omega) (by decide)
  have c1 : (nI i).toNatClampNeg = i := nI_clamp (by omega)
  have c2 : (nI j).toNatClampNeg = j := nI_clamp (by omega)
  refine ⟨upd (upd (gA σ 8 0 0) i (gA σ 8 0 0 j)) j (gA σ 8 0 0 i), ?_, fun k hk => ?_⟩
  · rw [dX8_swap, bX8_swap_0]
    simp only [c1, c2, a1, a2, ↓reduceIte, sAA]
  · unfold swN
    by_cases e : k = j
    · rw [if_pos e, e, pk_us]
      exact h i hi
    · rw [if_neg e, upd_o e]
      by_cases e2 : k = i
      · rw [if_pos e2, e2, pk_us]
        exact h j hj
      · rw [if_neg e2, upd_o e2]
        exact h k hk
theorem rsP_r {f : Nat → Nat} : ∀ (m i x : Nat), (x = 9 ∨ x < i) → (rsP f m i x = 9 ∨ rsP f m i x < i + m)
  | 0, i, x, h => by
    simp only [rsP]
    omega
  | m + 1, i, x, h => by
    simp only [rsP]
    have := rsP_r (f := f) m (i + 1) (if f i < f (i + 1) then i else x) (by
      by_cases hc : f i < f (i + 1)
      · rw [if_pos hc]; omega
      · rw [if_neg hc]; omega)
    omega
theorem ad_rise (hL : L ≤ 6) {f : Nat → Nat} (h2 : gI σ 8 0 2 = nI L) (h : rwA L (gA σ 8 0 0) f) : ∀ (m i x : Nat), i + m = L - 1 → ∀ (y3 y4 : Option AV),
    run kX8_advance 4 [some (vR 8 0 0), some (vI (ri x)), some (vI (nI i)), y3, y4] [] σ = (if ri (rsP f m i x) = -1 then some (some (vI 0), σ) else run kX8_advance 40 [some (vR 8 0 0), some (vI (ri (rsP f m i x))), some (vI (ri (rsP f m i x) + 1)), some (vI (ri (rsP f m i x) + 1)), y4] [] σ)
  | 0, i, x, hm, y3, y4 => by
    have hlt : ¬ nI (i + 1) < nI L := nI_nlt (by omega) (by omega)
    rw [bX8_advance_4, h2, nI_S, if_neg hlt]
    rfl
  | m + 1, i, x, hm, y3, y4 => by
    have hlt : nI (i + 1) < nI L := nI_lt (by omega) (by omega)
    have a1 := ob (i := i) (N := 6) (by omega) (by decide)
    have a2 := ob (i := i + 1) (N := 6) (by omega) (by decide)
    have c1 : (nI i).toNatClampNeg = i := nI_clamp (by omega)
    have c2 : (nI (i + 1)).toNatClampNeg = i + 1 := nI_clamp (by omega)
    obtain ⟨p1, q1⟩ := h i (by omega)
    obtain ⟨p2, q2⟩ := h (i + 1) (by omega)
    rw [bX8_advance_4, h2, nI_S, if_pos hlt]
    simp only [c1, c2, a1, a2, ↓reduceIte, p1, p2]
    by_cases hc : f i < f (i + 1)
    · have ex : nI i = ri i := by
        unfold ri
        rw [if_neg (by omega)]
      have er : rsP f (m + 1) i x = rsP f m (i + 1) i := by
        simp only [rsP]
        rw [if_pos hc]
      rw [if_pos (nI_lt hc (by omega)), er]
      have := ad_rise hL h2 h m (i + 1) i (by omega) y3 y4
      rw [← ex] at this
      exact this
    · have er : rsP f (m + 1) i x = rsP f m (i + 1) x := by
        simp only [rsP]
        rw [if_neg hc]
      rw [if_neg (nI_nlt (by omega) (by omega)), er]
      exact ad_rise hL h2 h m (i + 1) x (by omega) y3 y4
theorem grP_r {f : Nat → Nat} {rs : Nat} : ∀ (m i x : Nat), x < i + m → 0 < m ∨ x < i → rs < x ∧ rs < i → rs < grP f rs m i x ∧ grP f rs m i x < i + m
  | 0, i, x, h, h0, h1 => ⟨h1.1, h⟩
  | m + 1, i, x, h, h0, h1 => by
    simp only [grP]
    have := grP_r (f := f) (rs := rs) m (i + 1) (if f rs < f i then i else x) (by
      by_cases hc : f rs < f i
      · rw [if_pos hc]; omega
      · rw [if_neg hc]; omega) (by
      by_cases hc : f rs < f i
      · rw [if_pos hc]; omega
      · rw [if_neg hc]; omega) (by
      by_cases hc : f rs < f i
      · rw [if_pos hc]; omega
      · rw [if_neg hc]; omega)
    omega
theorem ad_gr (hL : L ≤ 6) {f : Nat → Nat} (h2 : gI σ 8 0 2 = nI L) (h : rwA L (gA σ 8 0 0) f) {rs : Nat} (hr : rs < L) : ∀ (m i x : Nat), i + m = L → ∀ (y4 : Option AV), ∃ y3,
    run kX8_advance 40 [some (vR 8 0 0), some (vI (nI rs)), some (vI (nI x)), some (vI (nI i)), y4] [] σ = (bnd (den 88 [vR 8 0 0, vI (nI rs), vI (nI (grP f rs m i x))] σ) fun v τ => run kX8_advance 63 [some (vR 8 0 0), some (vI (nI rs)), some (vI (nI (grP f rs m i x))), y3, y4] (v.toList ++ []) τ)
  | 0, i, x, hm, y4 => by
    have hlt : ¬ nI i < nI L := nI_nlt (by omega) (by omega)
    exact ⟨some (vI (nI i)), by rw [bX8_advance_40, h2, if_neg hlt]; rfl⟩
  | m + 1, i, x, hm, y4 => by
    have hlt : nI i < nI L := nI_lt (by omega) (by omega)
    have a1 := ob (i := i) (N := 6) (by omega) (by decide)
    have a2 := ob (i := rs) (N := 6) (by omega) (by decide)
    have c1 : (nI i).toNatClampNeg = i := nI_clamp (by omega)
    have c2 : (nI rs).toNatClampNeg = rs := nI_clamp (by omega)
    obtain ⟨p1, q1⟩ := h i (by omega)
    obtain ⟨p2, q2⟩ := h rs hr
    rw [bX8_advance_40, h2, if_pos hlt]
    simp only [c1, c2, a1, a2, ↓reduceIte, p1, p2, grP, nI_S]
    by_cases hc : f rs < f i
    · rw [if_pos (nI_lt hc (by omega)), if_pos hc]
      exact ad_gr hL h2 h hr m (i + 1) i (by omega) y4
    · rw [if_neg (nI_nlt (by omega) (by omega)), if_neg hc]
      exact ad_gr hL h2 h hr m (i + 1) x (by omega) y4
theorem ad_rev (hL : L ≤ 6) : ∀ (m i j : Nat) (f : Nat → Nat), j < i + m + m → i ≤ L → j < L ∨ L = 0 → ∀ (σ : ST), rwA L (gA σ 8 0 0) f → ∀ (y1 y2 : Option AV), (j < L) → ∃ A,
    run kX8_advance 72 [some (vR 8 0 0), y1, y2, some (vI (nI i)), some (vI (nI j))] [] σ = some (some (vI 1), sA σ 8 0 0 A) ∧ rwA L A (rvP m i j f)
  | 0, i, j, f, hm, hi, hj, σ, h, y1, y2, hjL => by
    have hlt : ¬ nI i < nI j := nI_nlt (by omega) (by omega)
    refine ⟨gA σ 8 0 0, by rw [bX8_advance_72, if_neg hlt, sA_id], ?_⟩
    exact h
  | m + 1, i, j, f, hm, hi, hj, σ, h, y1, y2, hjL => by
    by_cases hc : i < j
    · have hlt : nI i < nI j := nI_lt hc (by omega)
      obtain ⟨A, s1, s2⟩ := e_swap hL h (i := i) (j := j) (by omega) hjL
      have e1 : nI j + -1 = nI (j - 1) := by
        obtain ⟨k, rfl⟩ : ∃ k, j = k + 1 := ⟨j - 1, by omega⟩
        exact pk_m1 k
      have hA : gA (sA σ 8 0 0 A) 8 0 0 = A := gA_s
      obtain ⟨A2, g1, g2⟩ := ad_rev hL m (i + 1) (j - 1) (swN f i j) (by omega) (by omega) (by omega) (sA σ 8 0 0 A) (by rw [hA]; exact s2) y1 (klf y2) (by omega)
      rw [sAA] at g1
      refine ⟨A2, by rw [bX8_advance_72, if_pos hlt, s1, bnd_s, tl_n, bX8_advance_79, nI_S, e1, g1], ?_⟩
      simp only [rvP]
      rw [if_pos hc]
      exact g2
    · have hlt : ¬ nI i < nI j := nI_nlt (by omega) (by omega)
      refine ⟨gA σ 8 0 0, by rw [bX8_advance_72, if_neg hlt, sA_id], ?_⟩
      simp only [rvP]
      rw [if_neg hc]
      exact h
/-- Rows.advance -/
theorem e_advance (hL : L ≤ 6) {f : Nat → Nat} (h2 : gI σ 8 0 2 = nI L) (h : rwA L (gA σ 8 0 0) f) : ∃ A, den 87 [vR 8 0 0] σ = some (some (vI (bI (adF L f).1)), sA σ 8 0 0 A) ∧ rwA L A (adF L f).2 := by
  have h1 := ad_rise hL h2 h (L - 1) 0 9 (by omega) none none
  have e9 : ri 9 = -1 := rfl
  rw [e9, nI_0] at h1
  rw [dX8_advance, bX8_advance_0, h1]
  unfold adF
  have hr := rsP_r (f := f) (L - 1) 0 9 (Or.inl rfl)
  generalize rsP f (L - 1) 0 9 = rs at hr ⊢
  by_cases e : rs = 9
  · rw [if_pos e, e, e9, if_pos rfl]
    exact ⟨gA σ 8 0 0, by rw [sA_id]; rfl, h⟩
  · have er : ri rs = nI rs := if_neg e
    have hrs : rs < L - 1 := by omega
    have nm : ¬ nI rs = -1 := fun z => by
      have := nI_pos (n := rs) (by omega)
      rw [z] at this
      exact this (by decide)
    obtain ⟨y3, g1⟩ := ad_gr hL h2 h (rs := rs) (by omega) (L - 1 - rs) (rs + 1) (rs + 1) (by omega) none
    have hgr := grP_r (f := f) (rs := rs) (L - 1 - rs) (rs + 1) (rs + 1) (by omega) (by omega) (by omega)
    rw [er, if_neg nm, nI_S, g1]
    generalize grP f rs (L - 1 - rs) (rs + 1) (rs + 1) = q at hgr ⊢
    obtain ⟨A, s1, s2⟩ := e_swap hL h (i := rs) (j := q) (by omega) (by omega)
    have hA : gA (sA σ 8 0 0 A) 8 0 0 = A := gA_s
    have hl : gI (sA σ 8 0 0 A) 8 0 2 = nI L := h2
    have em : nI L - 1 = nI (L - 1) := pk_sub (a := L) (b := 1) (by omega)
    obtain ⟨A2, k1, k2⟩ := ad_rev hL 6 (rs + 1) (L - 1) (swN f rs q) (by omega) (by omega) (by omega) (sA σ 8 0 0 A) (by rw [hA]; exact s2) (some (vI (nI rs))) (klf (some (vI (nI q)))) (by omega)
    rw [sAA] at k1
    rw [s1, bnd_s, tl_n, bX8_advance_63, hl, nI_S, em, k1, if_neg e]
    exact ⟨A2, rfl, k2⟩
end ADV
