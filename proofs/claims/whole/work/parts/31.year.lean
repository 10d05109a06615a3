/-! A YEAR, by the class and by the reference -/
/-- a worth, clipped -/
def clp (s : Int32) : Int32 := if s < 0 then 0 else if 999 < s then 999 else s
theorem clp_nI (s : Int32) : ∃ x, x ≤ 999 ∧ clp s = nI x := by
  unfold clp
  by_cases h1 : s < 0
  · exact ⟨0, by omega, if_pos h1⟩
  · rw [if_neg h1]
    by_cases h2 : 999 < s
    · exact ⟨999, by omega, if_pos h2⟩
    · rw [if_neg h2]
      obtain ⟨k, hk, rfl⟩ := nI_of h1
      have : ¬ 999 < k := fun z => h2 ((nI_ltI (a := 999) (b := k) (by decide) hk).mpr z)
      exact ⟨k, by omega, rfl⟩
theorem clp_5 {x : Nat} (hx : x ≤ 999) : clp (nI x + (-5)) = if 5 < nI x then nI x - 5 else 0 := by
  unfold clp
  have e : nI x + (-5 : Int32) = nI x - nI 5 := by rw [Int32.sub_eq_add_neg]; rfl
  rw [e]
  by_cases h : 5 < x
  · rw [pk_sub (by omega), if_neg (nI_pos (by omega)), if_neg (show ¬ (999 : Int32) < nI (x - 5) from nI_nlt (a := 999) (b := x - 5) (by omega) (by omega)), if_pos (show (5 : Int32) < nI x from nI_lt (a := 5) h (by omega)), ← pk_sub (by omega)]
    rfl
  · rw [if_neg (show ¬ (5 : Int32) < nI x from nI_nlt (a := 5) (by omega) (by omega))]
    by_cases h5 : x = 5
    · subst h5
      rfl
    · rw [if_pos (pk_sneg (by decide) (by omega))]
theorem e_addWorth (σ : ST) (o : Nat) {j : Nat} (hj : j < 6) (d : Int32) : den 50 [vR 5 o 0, vI (nI j), vI d] σ = some (none, sA σ 5 o 2 (upd (gA σ 5 o 2) j (clp (gA σ 5 o 2 j + d)))) := by
  have a1 := ob (i := j) (N := 6) hj (by decide)
  have c1 : (nI j).toNatClampNeg = j := nI_clamp (by omega)
  rw [dX5_addWorth, bX5_addWorth_0]
  unfold clp
  simp only [c1, a1, ↓reduceIte]
  by_cases h1 : gA σ 5 o 2 j + d < 0
  · simp only [h1, ↓reduceIte]
  · simp only [h1, ↓reduceIte]
    by_cases h2 : 999 < gA σ 5 o 2 j + d
    · simp only [h2, ↓reduceIte]
    · simp only [h2, ↓reduceIte]
section YG
variable {S : Nat → Prop} {G n r o b : Nat} {σ0 τ0 : ST}
/-- a law's value between bounds -/
def bdl (v : Int64) (Q lo hi : Int32) : Int32 := if v = eER then Q else if v < lo.toInt64 then lo else if hi.toInt64 < v then hi else v.toInt32
theorem m_bound {τ : ST} {B1 : Nat → Nat → Nat → Nat → Int64} {v : Int64} {w : Nat} (hw : w < 3)
    (p3 : (gA τ 12 0 27 w = 0 ∧ v = eER) ∨ (gA τ 12 0 27 w = 1 ∧ ∃ (x : Int64) (B : Nat → Nat → Nat → Nat → Int64) (e : Int32), den 215 [vR 12 0 0, vI (nI w)] (wB τ B1) = some (some (vL x), wE τ B e) ∧ ((e = 0 ∧ x = v ∧ bd x) ∨ (e = 1 ∧ v = eER)))) (Q lo hi : Int32) :
    ∃ (B' : Nat → Nat → Nat → Nat → Int64) (e : Int32), den 216 [vR 12 0 0, vI (nI w), vI Q, vI lo, vI hi] (wB τ B1) = some (some (vI (bdl v Q lo hi)), wE τ B' e) := by
  have a1 := ob (i := w) (N := 6) (by omega) (by decide)
  have c1 : (nI w).toNatClampNeg = w := nI_clamp (by omega)
  have t0 : gA (wB τ B1) 12 0 27 w = gA τ 12 0 27 w := rfl
  rw [dX12_boundLaw, bX12_boundLaw_0]
  simp only [c1, a1, t0, ↓reduceIte]
  unfold bdl
  rcases p3 with ⟨h1, h2⟩ | ⟨h1, x, B3, e, h2, h3⟩
  · rw [if_pos h1, if_pos h2]
    exact ⟨B1, gI τ 12 0 43, congrArg (fun t => some (some (vI Q), t)) wE_i⟩
  · have n27 : ¬ gA τ 12 0 27 w = 0 := by rw [h1]; decide
    have he : gI (wE τ B3 e) 12 0 43 = e := gwE
    rw [if_neg n27, h2, bnd_s, tl_s, bX12_boundLaw_10]
    simp only [he, lc_lt, lc_gt]
    rcases h3 with ⟨h3, h4, h5⟩ | ⟨h3, h4⟩
    · rw [if_pos h3, h4, if_neg (show ¬ v = eER by rw [← h4]; exact bd_ne h5)]
      by_cases v1 : v < lo.toInt64
      · rw [if_pos v1, if_pos v1]
        exact ⟨B3, e, rfl⟩
      · rw [if_neg v1, if_neg v1]
        by_cases v2 : hi.toInt64 < v
        · rw [if_pos v2, if_pos v2]
          exact ⟨B3, e, rfl⟩
        · rw [if_neg v2, if_neg v2]
          exact ⟨B3, e, rfl⟩
    · have n1 : ¬ e = 0 := by rw [h3]; decide
      rw [if_neg n1, if_pos h4]
      exact ⟨B3, e, rfl⟩
theorem l_lt9 {x : Int32} (h1 : -9 ≤ x.toInt) (h2 : x.toInt ≤ 9) : ¬ x.toInt64 < -9 ∧ ¬ (9 : Int64) < x.toInt64 ∧ x.toInt64.toInt32 = x := by
  refine ⟨fun z => ?_, fun z => ?_, ?_⟩
  · have := Int64.lt_iff_toInt_lt.mp z
    rw [Int32.toInt_toInt64] at this
    have e : (-9 : Int64).toInt = -9 := rfl
    omega
  · have := Int64.lt_iff_toInt_lt.mp z
    rw [Int32.toInt_toInt64] at this
    have e : (9 : Int64).toInt = 9 := rfl
    omega
  · exact Int32.toInt32_toInt64 x
theorem grow_loop : ∀ (m i : Nat), i + m = n → ∀ (σ τ : ST), YZ S G n r o b σ0 τ0 σ τ → b < 2 → gI τ 12 0 55 = 0 → ∀ (y2 y3 z3 z4 : Option AV), ∃ (σ' τ' : ST) (z3' : Option AV),
    run kX0_growAll 2 [some (vR 0 o 0), some (vI (nI i)), y2, y3] [] σ = some (none, σ') ∧
    run kX12_yearGoes 2 [some (vR 12 0 0), some (vI (nI b)), some (vI (nI i)), z3, z4] [] τ = run kX12_yearGoes 56 [some (vR 12 0 0), some (vI (nI b)), some (vI 0), z3', z4] [] τ' ∧ YZ S G n r o b σ0 τ0 σ' τ' ∧ gA σ' 5 o 5 = gA σ 5 o 5
  | 0, i, hm, σ, τ, hZ, hb, hg, y2, y3, z3, z4 => by
    have hn6 := hZ.n6
    have hlt : ¬ nI i < nI n := nI_nlt (by omega) (by omega)
    refine ⟨σ, τ, z3, ?_, ?_, hZ, rfl⟩
    · rw [bX0_growAll_2, hZ.cn, if_neg hlt]
    · rw [bX12_yearGoes_2, hZ.mn, if_neg hlt]
  | m + 1, i, hm, σ, τ, hZ, hb, hg, y2, y3, z3, z4 => by
    have hn6 := hZ.n6
    have hi : i < n := by omega
    have hlt : nI i < nI n := nI_lt hi (by omega)
    obtain ⟨v, B, B1, p1, p2, p3⟩ := e_own hZ.q hb (w := 1) (by decide) hi 0
    have p1' : den 11 [vR 0 o 0, vI 1, vI (nI i), vI 0] σ = some (some (vL v), wB σ B) := p1
    obtain ⟨q1, q2, q3⟩ := hZ.1.1.1.1.2.2.2.2.2.2.2.1 i hi
    obtain ⟨B', e, p4⟩ := m_bound (w := 1) (by decide) p3 (gA τ 12 0 22 i) (-9) 9
    have p4' : den 216 [vR 12 0 0, vI 1, vI (gA τ 12 0 22 i), vI (-9), vI 9] (wB τ B1) = some (some (vI (bdl v (gA τ 12 0 22 i) (-9) 9)), wE τ B' e) := p4
    have hZ1 := hZ.e B B' e
    have a1 := ob (i := i) (N := 6) (by omega) (by decide)
    have a2 := ob (i := i) (N := 12) (by omega) (by decide)
    have a3 := ob (i := 6 * b + i) (N := 12) (by omega) (by decide)
    have c1 : (nI i).toNatClampNeg = i := nI_clamp (by omega)
    have c3 : (nI (6 * b + i)).toNatClampNeg = 6 * b + i := nI_clamp (by omega)
    have hw : gA (wB σ B) 5 o 2 i = gA τ 12 0 44 (6 * b + i) := (hZ.1.1.2.2.2.1 i hi).1
    have hgr : gA (wB σ B) 2 (gR (wB σ B) 0 o 4) 6 i = gA τ 12 0 22 i := by
      show gA σ 2 (gR σ 0 o 4) 6 i = gA τ 12 0 22 i
      rw [hZ.1.1.2.1]; exact q1
    rw [q1] at q2 q3
    -- the class adds the same
    have hc : ∃ y2' y3' : Option AV, run kX0_growAll 2 [some (vR 0 o 0), some (vI (nI i)), y2, y3] [] σ = run kX0_growAll 2 [some (vR 0 o 0), some (vI (nI (i + 1))), y2', y3'] [] (sA (wB σ B) 5 o 2 (upd (gA (wB σ B) 5 o 2) i (clp (gA τ 12 0 44 (6 * b + i) + bdl v (gA τ 12 0 22 i) (-9) 9)))) := by
      rw [bX0_growAll_2, hZ.cn, if_pos hlt, p1', bnd_s, tl_s, bX0_growAll_12]
      simp only [c1, a1, hgr, lc_eq, lc_lt, lc_gt, ↓reduceIte]
      have fin : ∀ (d : Int32) (y z : Option AV), (bnd (den 50 [vR 5 o 0, vI (nI i), vI d] (wB σ B)) fun v τ => run kX0_growAll 46 [some (vR 0 o 0), some (vI (nI i)), y, z] (v.toList ++ []) τ) = run kX0_growAll 2 [some (vR 0 o 0), some (vI (nI (i + 1))), y, z] [] (sA (wB σ B) 5 o 2 (upd (gA (wB σ B) 5 o 2) i (clp (gA τ 12 0 44 (6 * b + i) + d)))) := by
        intro d y z
        rw [e_addWorth _ o (show i < 6 by omega), bnd_s, tl_n, bX0_growAll_46, nI_S, hw]
      simp only [fin]
      unfold bdl
      have m9 : Int32.toInt64 (-9) = -9 := rfl
      have p9 : Int32.toInt64 9 = 9 := rfl
      have m9' : Int64.toInt32 (-9) = -9 := rfl
      have p9' : Int64.toInt32 9 = 9 := rfl
      rw [m9, p9, m9', p9']
      obtain ⟨l1, l2, l3⟩ := l_lt9 q2 q3
      by_cases hv : v = eER
      · simp only [hv, l1, l2, l3, ↓reduceIte]
        exact ⟨_, _, rfl⟩
      · simp only [hv, ↓reduceIte]
        by_cases v1 : v < -9
        · simp only [v1, ↓reduceIte]
          exact ⟨_, _, rfl⟩
        · simp only [v1, ↓reduceIte]
          by_cases v2 : 9 < v
          · simp only [v2, ↓reduceIte]
            exact ⟨_, _, rfl⟩
          · simp only [v2, ↓reduceIte]
            exact ⟨_, _, rfl⟩
    have hr : ∃ z3' : Option AV, run kX12_yearGoes 2 [some (vR 12 0 0), some (vI (nI b)), some (vI (nI i)), z3, z4] [] τ = run kX12_yearGoes 2 [some (vR 12 0 0), some (vI (nI b)), some (vI (nI (i + 1))), z3', z4] [] (sA (wE τ B' e) 12 0 44 (upd (gA (wE τ B' e) 12 0 44) (6 * b + i) (clp (gA τ 12 0 44 (6 * b + i) + bdl v (gA τ 12 0 22 i) (-9) 9)))) := by
      rw [bX12_yearGoes_2, hZ.mn, if_pos hlt, if_pos hg, p2, bnd_s, tl_n, bX12_yearGoes_15]
      have g22 : gA (wB τ B1) 12 0 22 i = gA τ 12 0 22 i := rfl
      have g44 : gA (wB τ B1) 12 0 44 (6 * b + i) = gA τ 12 0 44 (6 * b + i) := rfl
      simp only [i6, c1, c3, a2, a3, g22, g44, p4', bnd_s, tl_s, ↓reduceIte]
      rw [bX12_yearGoes_32]
      simp only [i6, c3, a3, nI_S, ↓reduceIte]
      generalize gA τ 12 0 44 (6 * b + i) + bdl v (gA τ 12 0 22 i) (-9) 9 = s
      unfold clp
      by_cases s1 : s < 0
      · simp only [s1, ↓reduceIte]
        exact ⟨_, rfl⟩
      · simp only [s1, ↓reduceIte]
        by_cases s2 : 999 < s
        · simp only [s2, ↓reduceIte]
          exact ⟨_, rfl⟩
        · simp only [s2, ↓reduceIte]
          exact ⟨_, rfl⟩
    obtain ⟨y2', y3', hc⟩ := hc
    obtain ⟨z3', hr⟩ := hr
    obtain ⟨x, hx, ex⟩ := clp_nI (gA τ 12 0 44 (6 * b + i) + bdl v (gA τ 12 0 22 i) (-9) 9)
    rw [ex] at hc hr
    obtain ⟨σ', τ', z3'', f1, f2, f3, f4⟩ := grow_loop m (i + 1) (by omega) _ _ (hZ1.worth hi hx) hb hg y2' y3' z3' z4
    exact ⟨σ', τ', z3'', by rw [hc, f1], by rw [hr, f2], f3, f4⟩
/-- the next number, and what is drawn by it -/
def nxt (x : Int64) : Int64 := x * 1103515245 + 12345 &&& 2147483647
theorem nxt_lN (x : Int64) : ∃ k, k < 2 ^ 31 ∧ nxt x = lN k := by
  refine ⟨(x * 1103515245 + 12345).toBitVec.toNat % 2 ^ 31, Nat.mod_lt _ (by decide), ?_⟩
  unfold nxt
  generalize x * 1103515245 + 12345 = y
  apply Int64.toBitVec_inj.mp
  apply BitVec.eq_of_toNat_eq
  show (y.toBitVec &&& (2147483647 : Int64).toBitVec).toNat = (BitVec.ofNat 64 (y.toBitVec.toNat % 2 ^ 31)).toNat
  have e1 : (2147483647 : Int64).toBitVec.toNat = 2 ^ 31 - 1 := by decide
  rw [BitVec.toNat_and, e1, Nat.and_two_pow_sub_one_eq_mod, BitVec.toNat_ofNat]
  have := Nat.mod_lt y.toBitVec.toNat (show 2 ^ 31 > 0 by decide)
  rw [Nat.mod_eq_of_lt (a := y.toBitVec.toNat % 2 ^ 31) (b := 2 ^ 64) (by omega)]
theorem drw (x : Int64) : (nxt x / 65536).toInt32 - (nxt x / 65536).toInt32 / 100 * 100 = (nxt x / 65536 - nxt x / 65536 / Int32.toInt64 100 * Int32.toInt64 100).toInt32 := by
  obtain ⟨k, hk, e⟩ := nxt_lN x
  have h1 : lN k / (65536 : Int64) = lN (k / 65536) := pk_lDiv (b := 65536) (by omega) (by decide) (by decide)
  have h2 : lN (k / 65536) - lN (k / 65536) / Int32.toInt64 100 * Int32.toInt64 100 = lN (k / 65536 % 100) := pk_lRem (b := 100) (by omega) (by decide) (by decide)
  rw [e, h1, h2, lN_i, lN_i]
  exact pk_rem (d := 100) (by omega) (by decide) (by decide)
theorem e_draw (σ : ST) (o : Nat) : den 54 [vR 5 o 0] σ = some (some (vI (nxt (gL σ 5 o 1) / 65536).toInt32), sL σ 5 o 1 (nxt (gL σ 5 o 1))) := by
  rw [dX5_draw, bX5_draw_0]
  have e : gL (sL σ 5 o 1 (nxt (gL σ 5 o 1))) 5 o 1 = nxt (gL σ 5 o 1) := u3_s
  show some (some (vI (gL (sL σ 5 o 1 (nxt (gL σ 5 o 1))) 5 o 1 / 65536).toInt32), sL σ 5 o 1 (nxt (gL σ 5 o 1))) = _
  rw [e]
theorem m_number1 (τ : ST) : den 221 [vR 12 0 0, vI 100] τ = some (some (vI (nxt (gL τ 12 0 51) / 65536 - nxt (gL τ 12 0 51) / 65536 / Int32.toInt64 100 * Int32.toInt64 100).toInt32), sL τ 12 0 51 (nxt (gL τ 12 0 51))) := by
  rw [dX12_number1, bX12_number1_0, if_neg (show ¬ Int32.toInt64 100 = 0 by decide)]
  rfl
/-- the worth at i goes down by five -/
theorem blight_ref {τ : ST} (hb : b < 2) {i x : Nat} (hi : i < 6) (hx : x ≤ 999) (hw : gA τ 12 0 44 (6 * b + i) = nI x) (z3 z4 : Option AV) : run kX12_yearGoes 62 [some (vR 12 0 0), some (vI (nI b)), some (vI (nI i)), z3, z4] [vI 1] τ = run kX12_yearGoes 56 [some (vR 12 0 0), some (vI (nI b)), some (vI (nI (i + 1))), z3, z4] [] (sA τ 12 0 44 (upd (gA τ 12 0 44) (6 * b + i) (clp (nI x + (-5))))) := by
  have a3 := ob (i := 6 * b + i) (N := 12) (by omega) (by decide)
  have c3 : (nI (6 * b + i)).toNatClampNeg = 6 * b + i := nI_clamp (by omega)
  rw [bX12_yearGoes_62, if_neg i10, clp_5 hx]
  simp only [i6, c3, a3, hw, nI_S, ↓reduceIte]
  by_cases h : 5 < nI x
  · simp only [h, ↓reduceIte]
  · simp only [h, ↓reduceIte]
theorem blight_loop : ∀ (m i : Nat), i + m = n → ∀ (σ τ : ST), YZ S G n r o b σ0 τ0 σ τ → b < 2 → blE τ ≠ 0 → ∀ (z3 z4 : Option AV), ∃ (σ' τ' : ST),
    run kX0_blightAll 2 [some (vR 0 o 0), some (vI (nI i))] [] σ = some (none, σ') ∧
    run kX12_yearGoes 56 [some (vR 12 0 0), some (vI (nI b)), some (vI (nI i)), z3, z4] [] τ = run kX12_yearGoes 97 [some (vR 12 0 0), some (vI (nI b)), some (vI 0), z3, z4] [] τ' ∧ YZ S G n r o b σ0 τ0 σ' τ' ∧ gA σ' 5 o 5 = gA σ 5 o 5
  | 0, i, hm, σ, τ, hZ, hb, hg, z3, z4 => by
    have hn6 := hZ.n6
    have hlt : ¬ nI i < nI n := nI_nlt (by omega) (by omega)
    refine ⟨σ, τ, ?_, ?_, hZ, rfl⟩
    · rw [bX0_blightAll_2, hZ.cn, if_neg hlt]
    · rw [bX12_yearGoes_56, hZ.mn, if_neg hlt]
  | m + 1, i, hm, σ, τ, hZ, hb, hg, z3, z4 => by
    have hn6 := hZ.n6
    have hi : i < n := by omega
    have hlt : nI i < nI n := nI_lt hi (by omega)
    have hbl : gI σ 0 o 5 = blE τ := hZ.1.2.2.1
    obtain ⟨hw, x, hx, ex⟩ := hZ.1.1.2.2.2.1 i hi
    obtain ⟨x', hx', ex'⟩ := clp_nI (nI x + (-5))
    rw [bX0_blightAll_2, hZ.cn, if_pos hlt, bX12_yearGoes_56, hZ.mn, if_pos hlt, dX12_isBlight, bX12_isBlight_0, cl0, hbl]
    have h53 : gI τ 12 0 53 = 0 := Classical.byContradiction fun z => hg (by unfold blE; rw [if_neg z])
    have hB0 : ¬ gA τ 12 0 19 0 = 0 := fun z => hg (by unfold blE; rw [if_pos h53, if_pos z])
    rw [if_pos h53, if_neg hB0]
    -- both take five off
    have both : ∃ (σ' τ' : ST), (bnd (den 50 [vR 5 o 0, vI (nI i), vI (-5)] σ) fun v τ => run kX0_blightAll 25 [some (vR 0 o 0), some (vI (nI i))] (v.toList ++ []) τ) = some (none, σ') ∧ run kX12_yearGoes 62 [some (vR 12 0 0), some (vI (nI b)), some (vI (nI i)), z3, z4] [vI 1] τ = run kX12_yearGoes 97 [some (vR 12 0 0), some (vI (nI b)), some (vI 0), z3, z4] [] τ' ∧ YZ S G n r o b σ0 τ0 σ' τ' ∧ gA σ' 5 o 5 = gA σ 5 o 5 := by
      obtain ⟨σ', τ', f1, f2, f3, f4⟩ := blight_loop m (i + 1) (by omega) _ _ (hZ.worth hi hx') hb hg z3 z4
      refine ⟨σ', τ', ?_, ?_, f3, f4⟩
      · rw [e_addWorth _ o (show i < 6 by omega), bnd_s, tl_n, bX0_blightAll_25, nI_S, ex, ex', f1]
      · rw [blight_ref hb (show i < 6 by omega) hx (by rw [← hw, ex]), ex', f2]
    by_cases h100 : gA τ 12 0 19 0 = 100
    · have e1 : blE τ = 1 := by unfold blE; rw [if_pos h53, if_neg hB0, if_pos h100]
      rw [if_pos h100, if_pos e1, bnd_s, tl_s]
      exact both
    · rw [if_neg h100]
      by_cases h52 : gI τ 12 0 52 = 0
      · rw [if_pos h52]
        have h50 : ¬ gA τ 12 0 19 0 < 50 := fun z => hg (by unfold blE; rw [if_pos h53, if_neg hB0, if_neg h100, if_pos h52, if_pos z])
        have e1 : blE τ = 1 := by unfold blE; rw [if_pos h53, if_neg hB0, if_neg h100, if_pos h52, if_neg h50]
        rw [if_pos e1, if_neg h50, bnd_s, tl_s]
        exact both
      · have e2 : blE τ = 2 := by unfold blE; rw [if_pos h53, if_neg hB0, if_neg h100, if_neg h52]
        rw [if_neg h52, if_neg (by rw [e2]; decide), e_draw, bnd_s, tl_s, bX0_blightAll_14, m_number1, bnd_s, tl_s, bX12_isBlight_24, cl0]
        have hnum := hZ.1.2.2.2 h52
        have hZn := hZ.num h52 (nxt (gL τ 12 0 51))
        obtain ⟨b0, hb0, k1, k2⟩ := hZ.1.1.1.1.2.2.2.2.1
        have g1 : gI (sL σ 5 o 1 (nxt (gL σ 5 o 1))) 2 (gR (sL σ 5 o 1 (nxt (gL σ 5 o 1))) 0 o 4) 2 = nI b0 := by
          show gI σ 2 (gR σ 0 o 4) 2 = nI b0
          rw [hZ.1.1.2.1]; exact k1
        have g2 : gA (sL τ 12 0 51 (nxt (gL τ 12 0 51))) 12 0 19 0 = nI b0 := k2
        rw [g1, g2, drw, hnum]
        by_cases hd : (nxt (gL τ 12 0 51) / 65536 - nxt (gL τ 12 0 51) / 65536 / Int32.toInt64 100 * Int32.toInt64 100).toInt32 < nI b0
        · rw [if_pos hd, if_pos hd, bnd_s, tl_s]
          obtain ⟨σ', τ', f1, f2, f3, f4⟩ := blight_loop m (i + 1) (by omega) _ _ (hZn.worth hi hx') hb hg z3 z4
          refine ⟨σ', τ', ?_, ?_, f3, f4⟩
          · have ex2 : gA (sL σ 5 o 1 (nxt (gL τ 12 0 51))) 5 o 2 i = nI x := ex
            rw [e_addWorth _ o (show i < 6 by omega), bnd_s, tl_n, bX0_blightAll_25, nI_S, ex2, ex', f1]
          · rw [blight_ref hb (show i < 6 by omega) hx (by show gA τ 12 0 44 (6 * b + i) = nI x; rw [← hw, ex]), ex', f2]
        · rw [if_neg hd, if_neg hd, bnd_s, tl_s, bX0_blightAll_25, bX12_yearGoes_62, if_pos rfl, nI_S]
          exact blight_loop m (i + 1) (by omega) _ _ hZn hb hg z3 z4
/-- where there is no blight the reference's loop does nothing -/
theorem blight_none {τ : ST} (hn6 : n ≤ 6) (hn : gI τ 12 0 12 = nI n) (hg : blE τ = 0) : ∀ (m i : Nat), i + m = n → ∀ (z3 z4 : Option AV),
    run kX12_yearGoes 56 [some (vR 12 0 0), some (vI (nI b)), some (vI (nI i)), z3, z4] [] τ = run kX12_yearGoes 97 [some (vR 12 0 0), some (vI (nI b)), some (vI 0), z3, z4] [] τ
  | 0, i, hm, z3, z4 => by
    rw [bX12_yearGoes_56, hn, if_neg (nI_nlt (by omega) (by omega))]
  | m + 1, i, hm, z3, z4 => by
    have hi : den 222 [vR 12 0 0] τ = some (some (vI 0), τ) := by
      rw [dX12_isBlight, bX12_isBlight_0, cl0]
      unfold blE at hg
      by_cases h53 : gI τ 12 0 53 = 0
      · rw [if_pos h53] at hg ⊢
        by_cases h0 : gA τ 12 0 19 0 = 0
        · rw [if_pos h0]
        · rw [if_neg h0] at hg ⊢
          by_cases h1 : gA τ 12 0 19 0 = 100
          · rw [if_pos h1] at hg
            exact absurd hg (by decide)
          · rw [if_neg h1] at hg ⊢
            by_cases h2 : gI τ 12 0 52 = 0
            · rw [if_pos h2] at hg ⊢
              by_cases h3 : gA τ 12 0 19 0 < 50
              · rw [if_pos h3]
              · rw [if_neg h3] at hg
                exact absurd hg (by decide)
            · rw [if_neg h2] at hg
              exact absurd hg (by decide)
      · rw [if_neg h53]
    rw [bX12_yearGoes_56, hn, if_pos (nI_lt (by omega) (by omega)), hi, bnd_s, tl_s, bX12_yearGoes_62, if_pos rfl, nI_S]
    exact blight_none hn6 hn hg m (i + 1) (by omega) z3 z4
end YG
