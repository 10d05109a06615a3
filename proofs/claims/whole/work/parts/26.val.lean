/-! LAWS: how the reference works out a knot -/
def bd (v : Int64) : Prop := -1000000000000 ≤ v.toInt ∧ v.toInt ≤ 1000000000000
theorem t_bm {x : Int} (h1 : -9223372036854775808 ≤ x) (h2 : x < 9223372036854775808) : x.bmod (2 ^ 64) = x := Int.bmod_eq_of_le (by omega) (by omega)
theorem t_neg {a : Int64} (h : bd a) : (-a).toInt = -a.toInt := by
  unfold bd at h
  rw [Int64.toInt_neg]
  exact t_bm (by omega) (by omega)
theorem t_0 : (0 : Int64).toInt = 0 := rfl
theorem t_MV : eMV.toInt = 1000000000000 := rfl
theorem t_nMV : (-eMV).toInt = -1000000000000 := rfl
theorem t_abs {a : Int64} (h : bd a) : (if a < 0 then -a else a).toInt = (a.toInt.natAbs : Int) := by
  by_cases h0 : a < 0
  · rw [if_pos h0, t_neg h]
    have := Int64.lt_iff_toInt_lt.mp h0
    rw [t_0] at this
    omega
  · rw [if_neg h0]
    have : ¬ a.toInt < (0 : Int64).toInt := fun z => h0 (Int64.lt_iff_toInt_lt.mpr z)
    rw [t_0] at this
    omega
theorem bd_of {v : Int64} (h1 : ¬ eMV < v) (h2 : ¬ v < -eMV) : bd v := by
  have a1 : ¬ eMV.toInt < v.toInt := fun z => h1 (Int64.lt_iff_toInt_lt.mpr z)
  have a2 : ¬ v.toInt < (-eMV).toInt := fun z => h2 (Int64.lt_iff_toInt_lt.mpr z)
  rw [t_MV] at a1
  rw [t_nMV] at a2
  exact ⟨by omega, by omega⟩
theorem bd_no {v : Int64} (h : bd v) : ¬ eMV < v ∧ ¬ v < -eMV := by
  constructor
  · intro z
    have := Int64.lt_iff_toInt_lt.mp z
    rw [t_MV] at this
    have := h.2
    omega
  · intro z
    have := Int64.lt_iff_toInt_lt.mp z
    rw [t_nMV] at this
    have := h.1
    omega
theorem bd_0 : bd 0 := ⟨by rw [t_0]; omega, by rw [t_0]; omega⟩
theorem bd_1 : bd 1 := ⟨by show -1000000000000 ≤ (1 : Int); omega, by show (1 : Int) ≤ 1000000000000; omega⟩
theorem bd_i (x : Int32) : bd x.toInt64 := by
  have h1 := Int32.toInt_lt x
  have h2 := Int32.le_toInt x
  unfold bd
  rw [Int32.toInt_toInt64]
  constructor <;> omega
theorem bd_ne {v : Int64} (h : bd v) : v ≠ eER := by
  rintro rfl
  have h1 := h.1
  have : eER.toInt = -9223372036854775808 := rfl
  rw [this] at h1
  omega
theorem j_mul {a b : Int64} (ha : bd a) (hb : bd b) (h0 : ¬ (if a < 0 then -a else a) = 0) (h : ¬ eMV / (if a < 0 then -a else a) < (if b < 0 then -b else b)) : bd (a * b) := by
  have eA := t_abs ha
  have eB := t_abs hb
  generalize (if a < 0 then -a else a) = A at eA h0 h
  generalize (if b < 0 then -b else b) = B at eB h
  have hX : a.toInt.natAbs ≠ 0 := fun z => h0 (Int64.toInt_inj.mp (by rw [eA, z]; rfl))
  have hd : (eMV / A).toInt = ((1000000000000 / a.toInt.natAbs : Nat) : Int) := by
    rw [Int64.toInt_div, eA, t_MV]
    have e : (1000000000000 : Int).tdiv (a.toInt.natAbs : Int) = ((1000000000000 / a.toInt.natAbs : Nat) : Int) := rfl
    rw [e]
    have hq : 1000000000000 / a.toInt.natAbs ≤ 1000000000000 := Nat.div_le_self _ _
    generalize 1000000000000 / a.toInt.natAbs = q at hq ⊢
    exact t_bm (by omega) (by omega)
  have h2 : ¬ (eMV / A).toInt < B.toInt := fun z => h (Int64.lt_iff_toInt_lt.mpr z)
  rw [hd, eB] at h2
  have h3 : b.toInt.natAbs ≤ 1000000000000 / a.toInt.natAbs := by
    generalize 1000000000000 / a.toInt.natAbs = q at h2 ⊢
    omega
  have h4 : b.toInt.natAbs * a.toInt.natAbs ≤ 1000000000000 := (Nat.le_div_iff_mul_le (by omega)).mp h3
  have h5 : (a.toInt * b.toInt).natAbs ≤ 1000000000000 := by rw [Int.natAbs_mul, Nat.mul_comm]; exact h4
  unfold bd
  rw [Int64.toInt_mul, t_bm (by omega) (by omega)]
  omega
theorem j_div {a b : Int64} (ha : bd a) : bd (a / b) := by
  have h := Int.natAbs_tdiv_le_natAbs a.toInt b.toInt
  unfold bd at ha ⊢
  rw [Int64.toInt_div, t_bm (by omega) (by omega)]
  omega
/-- a value and the flag behind it -/
def chk (e : Int32) (j v : Int64) (e' : Int32) : Prop := bd v ∧ (e ≠ 0 ∧ e' = 1 ∨ e = 0 ∧ (e' = 1 ∧ (eMV < j ∨ j < -eMV) ∨ e' = 0 ∧ v = j))
theorem m_bounded (τ : ST) (n : Int64) : ∃ v e', den 201 [vR 12 0 0, vL n] τ = some (some (vL v), sI τ 12 0 43 e') ∧ chk (gI τ 12 0 43) n v e' := by
  rw [dX12_bounded, bX12_bounded_0]
  simp only [lc_lt, lc_gt]
  by_cases h0 : gI τ 12 0 43 = 0
  · rw [if_pos h0]
    by_cases h1 : eMV < n
    · rw [if_pos h1, if_neg i10]
      exact ⟨_, _, rfl, bd_0, Or.inr ⟨h0, Or.inl ⟨rfl, Or.inl h1⟩⟩⟩
    · rw [if_neg h1]
      by_cases h2 : n < -eMV
      · rw [if_pos h2, if_neg i10]
        exact ⟨_, _, rfl, bd_0, Or.inr ⟨h0, Or.inl ⟨rfl, Or.inr h2⟩⟩⟩
      · rw [if_neg h2, if_pos trivial]
        exact ⟨_, _, rfl, bd_of h1 h2, Or.inr ⟨h0, Or.inr ⟨rfl, rfl⟩⟩⟩
  · rw [if_neg h0, if_neg i10]
    exact ⟨_, _, rfl, bd_0, Or.inl ⟨h0, rfl⟩⟩
theorem abs_0 {a : Int64} : (if a < 0 then -a else a) = 0 ↔ a = 0 := by
  by_cases h : a < 0
  · rw [if_pos h]
    constructor
    · intro z
      have : a = -(-a) := by simp
      rw [this, z]
      rfl
    · intro z
      rw [z]
      rfl
  · rw [if_neg h]
theorem m_times (τ : ST) {a b : Int64} (ha : bd a) (hb : bd b) : ∃ v e', den 203 [vR 12 0 0, vL a, vL b] τ = some (some (vL v), sI τ 12 0 43 e') ∧ chk (gI τ 12 0 43) (jop 11 a b) v e' := by
  have ej : jop 11 a b = (if (if a < 0 then -a else a) = 0 then a * b else if eMV / (if a < 0 then -a else a) < (if b < 0 then -b else b) then eER else a * b) := rfl
  -- the end without a fault of its own
  have fin : ∀ (y2 y4 y5 : Option AV), bd (a * b) → jop 11 a b = a * b → ∃ v e', run kX12_times 30 [some (vR 12 0 0), some (vL a), y2, some (vL b), y4, y5] [] τ = some (some (vL v), sI τ 12 0 43 e') ∧ chk (gI τ 12 0 43) (jop 11 a b) v e' := by
    intro y2 y4 y5 hbd hj
    rw [bX12_times_30]
    by_cases h0 : gI τ 12 0 43 = 0
    · simp only [h0, ↓reduceIte]
      exact ⟨_, _, rfl, hbd, Or.inr ⟨rfl, Or.inr ⟨rfl, hj.symm⟩⟩⟩
    · simp only [h0, i10, ↓reduceIte]
      exact ⟨_, _, rfl, bd_0, Or.inl ⟨h0, rfl⟩⟩
  rw [dX12_times, bX12_times_0]
  simp only [lc_eq, lc_lt]
  by_cases h1 : a = 0
  · rw [if_pos h1]
    refine fin _ _ _ ?_ ?_
    · rw [h1, Int64.zero_mul]; exact bd_0
    · rw [ej, if_pos (abs_0.mpr h1)]
  rw [if_neg h1]
  have hA : ¬ (if a < 0 then -a else a) = 0 := fun z => h1 (abs_0.mp z)
  by_cases h2 : b = 0
  · rw [if_pos h2]
    refine fin _ _ _ ?_ ?_
    · rw [h2, Int64.mul_zero]; exact bd_0
    · rw [ej, if_neg hA]
      by_cases hz : eMV / (if a < 0 then -a else a) < (if b < 0 then -b else b)
      · exfalso
        have eA := t_abs ha
        have hz' := Int64.lt_iff_toInt_lt.mp hz
        rw [t_abs hb, h2, Int64.toInt_div, eA, t_MV] at hz'
        have e : (1000000000000 : Int).tdiv (a.toInt.natAbs : Int) = ((1000000000000 / a.toInt.natAbs : Nat) : Int) := rfl
        have hq : 1000000000000 / a.toInt.natAbs ≤ 1000000000000 := Nat.div_le_self _ _
        rw [e] at hz'
        generalize 1000000000000 / a.toInt.natAbs = q at hq hz'
        rw [t_bm (by omega) (by omega), t_0] at hz'
        omega
      · rw [if_neg hz]
  rw [if_neg h2]
  have key : ∀ (y2 y4 y5 : Option AV), ∃ v e', run kX12_times 25 [some (vR 12 0 0), some (vL a), y2, some (vL b), y4, y5] [vL (if a < 0 then -a else a), vL (1000000000000 : Int64), vL (if b < 0 then -b else b)] τ = some (some (vL v), sI τ 12 0 43 e') ∧ chk (gI τ 12 0 43) (jop 11 a b) v e' := by
    intro y2 y4 y5
    rw [bX12_times_25, if_neg hA]
    simp only [lc_gt]
    by_cases hz : eMV / (if a < 0 then -a else a) < (if b < 0 then -b else b)
    · rw [if_pos hz]
      have hj : jop 11 a b = eER := by rw [ej, if_neg hA, if_pos hz]
      by_cases h0 : gI τ 12 0 43 = 0
      · simp only [h0, i10, ↓reduceIte]
        exact ⟨_, _, rfl, bd_0, Or.inr ⟨rfl, Or.inl ⟨rfl, Or.inr (by rw [hj]; decide)⟩⟩⟩
      · simp only [h0, i10, ↓reduceIte]
        exact ⟨_, _, rfl, bd_0, Or.inl ⟨h0, rfl⟩⟩
    · rw [if_neg hz]
      exact fin _ _ _ (j_mul ha hb hA hz) (by rw [ej, if_neg hA, if_neg hz])
  have k16 : ∀ (z : Int64) (y2 y4 y5 : Option AV), z = (if b < 0 then -b else b) → ∃ v e', run kX12_times 16 [some (vR 12 0 0), some (vL a), y2, some (vL b), y4, y5] [vL z] τ = some (some (vL v), sI τ 12 0 43 e') ∧ chk (gI τ 12 0 43) (jop 11 a b) v e' := by
    intro z y2 y4 y5 hz
    have k := key y2 y4 y5
    rw [bX12_times_16, hz]
    simp only [lc_lt]
    by_cases h : a < 0
    · simp only [h, ↓reduceIte] at k ⊢
      exact k
    · simp only [h, ↓reduceIte] at k ⊢
      exact k
  by_cases h : b < 0
  · rw [if_pos h]
    exact k16 _ _ _ _ (by rw [if_pos h])
  · rw [if_neg h]
    exact k16 _ _ _ _ (by rw [if_neg h])
theorem m_compares (τ : ST) (a b : Int64) : ∀ k, 5 ≤ k → k ≤ 10 → ∃ v : Int32, den 202 [vI (nI k), vL a, vL b] τ = some (some (vI v), τ) ∧ (if v = 0 then (0 : Int64) else 1) = jop (nI (k - 2)) a b := by
  intro k h5 h10
  have hk : k = 5 ∨ k = 6 ∨ k = 7 ∨ k = 8 ∨ k = 9 ∨ k = 10 := by omega
  rw [dX12_compares, bX12_compares_0]
  simp only [lc_lt, lc_gt, lc_eq]
  rcases hk with rfl | rfl | rfl | rfl | rfl | rfl
  · have ej : jop (nI (5 - 2)) a b = (if a < b then 1 else 0) := rfl
    rw [if_pos (by decide), ej]
    by_cases h : a < b
    · rw [if_pos h, if_pos h, bX12_compares_9]
      exact ⟨1, rfl, rfl⟩
    · rw [if_neg h, if_neg h, bX12_compares_9]
      exact ⟨0, rfl, rfl⟩
  · have ej : jop (nI (6 - 2)) a b = (if b < a then 0 else 1) := rfl
    rw [if_neg (by decide), if_pos (by decide), ej]
    by_cases h : b < a
    · rw [if_pos h, if_pos h, bX12_compares_17]
      exact ⟨0, rfl, rfl⟩
    · rw [if_neg h, if_neg h, bX12_compares_17]
      exact ⟨1, rfl, rfl⟩
  · have ej : jop (nI (7 - 2)) a b = (if a = b then 1 else 0) := rfl
    rw [if_neg (by decide), if_neg (by decide), if_pos (by decide), ej]
    by_cases h : a = b
    · rw [if_pos h, if_pos h, bX12_compares_25]
      exact ⟨1, rfl, rfl⟩
    · rw [if_neg h, if_neg h, bX12_compares_25]
      exact ⟨0, rfl, rfl⟩
  · have ej : jop (nI (8 - 2)) a b = (if a = b then 0 else 1) := rfl
    rw [if_neg (by decide), if_neg (by decide), if_neg (by decide), if_pos (by decide), ej]
    by_cases h : a = b
    · rw [if_pos h, if_pos h, bX12_compares_33]
      exact ⟨0, rfl, rfl⟩
    · rw [if_neg h, if_neg h, bX12_compares_33]
      exact ⟨1, rfl, rfl⟩
  · have ej : jop (nI (9 - 2)) a b = (if a < b then 0 else 1) := rfl
    rw [if_neg (by decide), if_neg (by decide), if_neg (by decide), if_neg (by decide), if_pos (by decide), ej]
    by_cases h : a < b
    · rw [if_pos h, if_pos h, bX12_compares_41]
      exact ⟨0, rfl, rfl⟩
    · rw [if_neg h, if_neg h, bX12_compares_41]
      exact ⟨1, rfl, rfl⟩
  · have ej : jop (nI (10 - 2)) a b = (if b < a then 1 else 0) := rfl
    rw [if_neg (by decide), if_neg (by decide), if_neg (by decide), if_neg (by decide), if_neg (by decide), ej]
    by_cases h : b < a
    · rw [if_pos h, if_pos h, bX12_compares_49]
      exact ⟨1, rfl, rfl⟩
    · rw [if_neg h, if_neg h, bX12_compares_49]
      exact ⟨0, rfl, rfl⟩
/-- the class's sign of a reference's knot -/
def sg (k : Nat) : Nat := if k = 3 then 1 else if k = 4 then 0 else k - 2
section VO
variable {τ : ST} {k : Nat}
theorem m_v0 (hk : k < 64) {x : Int32} (h1 : gA τ 12 0 30 k = 0) (h2 : gA τ 12 0 31 k = x) : den 204 [vR 12 0 0, vI (nI k)] τ = some (some (vL x.toInt64), τ) := by
  have a1 := ob (i := k) (N := 128) (by omega) (by decide)
  have c1 : (nI k).toNatClampNeg = k := nI_clamp (by omega)
  rw [dX12_valueOf, bX12_valueOf_0]
  simp only [c1, a1, h1, h2, ↓reduceIte]
theorem m_v1 (hk : k < 64) {a : Nat} (ha : a < 7) (h1 : gA τ 12 0 30 k = 1) (h2 : gA τ 12 0 31 k = nI a) : den 204 [vR 12 0 0, vI (nI k)] τ = some (some (vL (gB τ 12 0 41 a)), τ) := by
  have a1 := ob (i := k) (N := 128) (by omega) (by decide)
  have a2 := ob (i := a) (N := 7) (by omega) (by decide)
  have c1 : (nI k).toNatClampNeg = k := nI_clamp (by omega)
  have c2 : (nI a).toNatClampNeg = a := nI_clamp (by omega)
  rw [dX12_valueOf, bX12_valueOf_0]
  simp only [c1, c2, a1, a2, h1, h2, i10, ↓reduceIte]
theorem m_v2 (hk : k < 64) {a : Nat} (ha : a < 64) (h1 : gA τ 12 0 30 k = 2) (h2 : gA τ 12 0 31 k = nI a) : den 204 [vR 12 0 0, vI (nI k)] τ = some (some (vL (if gB τ 12 0 42 a = 0 then 1 else 0)), τ) := by
  have a1 := ob (i := k) (N := 128) (by omega) (by decide)
  have a2 := ob (i := a) (N := 64) (by omega) (by decide)
  have c1 : (nI k).toNatClampNeg = k := nI_clamp (by omega)
  have c2 : (nI a).toNatClampNeg = a := nI_clamp (by omega)
  rw [dX12_valueOf, bX12_valueOf_0]
  simp only [c1, c2, a1, a2, h1, h2, lc_eq, show ¬ (2 : Int32) = 0 by decide, show ¬ (2 : Int32) = 1 by decide, ↓reduceIte]
  by_cases h : gB τ 12 0 42 a = 0
  · simp only [h, ↓reduceIte, bX12_valueOf_46]
  · simp only [h, ↓reduceIte, bX12_valueOf_46]
theorem jop_01 (s : Int32) (hs : s = 0 ∨ s = 1) (a b : Int64) : jop s a b = 0 ∨ jop s a b = 1 := by
  rcases hs with rfl | rfl
  · show (if a = 0 then (if b = 0 then (0 : Int64) else 1) else 1) = 0 ∨ (if a = 0 then (if b = 0 then (0 : Int64) else 1) else 1) = 1
    by_cases h1 : a = 0 <;> by_cases h2 : b = 0 <;> simp only [h1, h2, ↓reduceIte] <;> decide
  · show (if a = 0 then (0 : Int64) else if b = 0 then 0 else 1) = 0 ∨ (if a = 0 then (0 : Int64) else if b = 0 then 0 else 1) = 1
    by_cases h1 : a = 0 <;> by_cases h2 : b = 0 <;> simp only [h1, h2, ↓reduceIte] <;> decide
theorem m_vb (hk : k < 64) {a b kk : Nat} (ha : a < 64) (hb : b < 64) (k3 : 3 ≤ kk) (k14 : kk ≤ 14) (h1 : gA τ 12 0 30 k = nI kk) (h2 : gA τ 12 0 31 k = nI a) (h3 : gA τ 12 0 32 k = nI b)
    (ba : bd (gB τ 12 0 42 a)) (bb : bd (gB τ 12 0 42 b)) (he : gI τ 12 0 43 = 0 ∨ gI τ 12 0 43 = 1) :
    ∃ v e', den 204 [vR 12 0 0, vI (nI k)] τ = some (some (vL v), sI τ 12 0 43 e') ∧ chk (gI τ 12 0 43) (jop (nI (sg kk)) (gB τ 12 0 42 a) (gB τ 12 0 42 b)) v e' := by
  have a1 := ob (i := k) (N := 128) (by omega) (by decide)
  have a2 := ob (i := a) (N := 64) (by omega) (by decide)
  have a3 := ob (i := b) (N := 64) (by omega) (by decide)
  have c1 : (nI k).toNatClampNeg = k := nI_clamp (by omega)
  have c2 : (nI a).toNatClampNeg = a := nI_clamp (by omega)
  have c3 : (nI b).toNatClampNeg = b := nI_clamp (by omega)
  have pl : ∀ (j : Int64), (j = 0 ∨ j = 1) → chk (gI τ 12 0 43) j j (gI τ 12 0 43) := by
    intro j hj
    refine ⟨?_, ?_⟩
    · rcases hj with rfl | rfl
      · exact bd_0
      · exact bd_1
    · rcases he with h | h
      · exact Or.inr ⟨h, Or.inr ⟨h, rfl⟩⟩
      · exact Or.inl ⟨by rw [h]; decide, h⟩
  rw [dX12_valueOf, bX12_valueOf_0]
  have hd : kk = 3 ∨ kk = 4 ∨ (5 ≤ kk ∧ kk ≤ 10) ∨ kk = 11 ∨ kk = 12 ∨ kk = 13 ∨ kk = 14 := by omega
  rcases hd with rfl | rfl | hc | rfl | rfl | rfl | rfl
  · have e : nI 3 = (3 : Int32) := rfl
    have ej : jop (nI (sg 3)) (gB τ 12 0 42 a) (gB τ 12 0 42 b) = (if gB τ 12 0 42 a = 0 then 0 else if gB τ 12 0 42 b = 0 then 0 else 1) := rfl
    have p := pl _ (jop_01 (nI (sg 3)) (Or.inr rfl) (gB τ 12 0 42 a) (gB τ 12 0 42 b))
    rw [ej] at p ⊢
    simp only [c1, c2, c3, a1, a2, a3, h1, h2, h3, e, lc_eq, show ¬ (3 : Int32) = 0 by decide, show ¬ (3 : Int32) = 1 by decide, show ¬ (3 : Int32) = 2 by decide, ↓reduceIte]
    refine ⟨_, _, ?_, p⟩
    rw [sI_id]
    by_cases h : gB τ 12 0 42 a = 0 <;> by_cases h' : gB τ 12 0 42 b = 0 <;> simp only [h, h', ↓reduceIte, bX12_valueOf_70, bX12_valueOf_71]
  · have e : nI 4 = (4 : Int32) := rfl
    have ej : jop (nI (sg 4)) (gB τ 12 0 42 a) (gB τ 12 0 42 b) = (if gB τ 12 0 42 a = 0 then (if gB τ 12 0 42 b = 0 then 0 else 1) else 1) := rfl
    have p := pl _ (jop_01 (nI (sg 4)) (Or.inl rfl) (gB τ 12 0 42 a) (gB τ 12 0 42 b))
    rw [ej] at p ⊢
    simp only [c1, c2, c3, a1, a2, a3, h1, h2, h3, e, lc_eq, show ¬ (4 : Int32) = 0 by decide, show ¬ (4 : Int32) = 1 by decide, show ¬ (4 : Int32) = 2 by decide, show ¬ (4 : Int32) = 3 by decide, ↓reduceIte]
    refine ⟨_, _, ?_, p⟩
    rw [sI_id]
    by_cases h : gB τ 12 0 42 a = 0 <;> by_cases h' : gB τ 12 0 42 b = 0 <;> simp only [h, h', ↓reduceIte, bX12_valueOf_80, bX12_valueOf_83]
  · obtain ⟨v, e1, e2⟩ := m_compares τ (gB τ 12 0 42 a) (gB τ 12 0 42 b) kk hc.1 hc.2
    have es : sg kk = kk - 2 := by
      unfold sg
      rw [if_neg (by omega), if_neg (by omega)]
    have p : chk (gI τ 12 0 43) (jop (nI (sg kk)) (gB τ 12 0 42 a) (gB τ 12 0 42 b)) (if v = 0 then (0 : Int64) else 1) (gI τ 12 0 43) := by
      rw [es, ← e2]
      apply pl
      by_cases h : v = 0
      · exact Or.inl (if_pos h)
      · exact Or.inr (if_neg h)
    have n0 : ¬ nI kk = 0 := nI_ne0 (by omega) (by omega)
    have nn : ∀ j, j < 5 → ¬ nI kk = nI j := fun j hj z => by
      have := (nI_eq (a := kk) (b := j) (by omega) (by omega)).mp z
      omega
    have n1 : ¬ nI kk = 1 := nn 1 (by omega)
    have n2 : ¬ nI kk = 2 := nn 2 (by omega)
    have n3 : ¬ nI kk = 3 := nn 3 (by omega)
    have n4 : ¬ nI kk = 4 := nn 4 (by omega)
    have fin : ∀ y2 y3 y4 y5 : Option AV, run kX12_valueOf 129 [some (vR 12 0 0), some (vI (nI k)), y2, y3, y4, y5] [vI v] τ = some (some (vL (if v = 0 then (0 : Int64) else 1)), τ) := by
      intro y2 y3 y4 y5
      rw [bX12_valueOf_129]
      by_cases h : v = 0
      · rw [if_pos h, if_pos h, bX12_valueOf_133]
      · rw [if_neg h, if_neg h, bX12_valueOf_133]
    refine ⟨_, _, ?_, p⟩
    rw [sI_id]
    simp only [c1, c2, c3, a1, a2, a3, h1, h2, h3, n0, n1, n2, n3, n4, e1, bnd_s, tl_s, fin, ↓reduceIte]
    have hx : kk = 5 ∨ kk = 6 ∨ kk = 7 ∨ kk = 8 ∨ kk = 9 ∨ kk = 10 := by omega
    rcases hx with rfl | rfl | rfl | rfl | rfl | rfl
    · rw [if_pos (by decide)]
    · rw [if_neg (by decide), if_pos (by decide)]
    · rw [if_neg (by decide), if_neg (by decide), if_pos (by decide)]
    · rw [if_neg (by decide), if_neg (by decide), if_neg (by decide), if_pos (by decide)]
    · rw [if_neg (by decide), if_neg (by decide), if_neg (by decide), if_neg (by decide), if_pos (by decide)]
    · rw [if_neg (by decide), if_neg (by decide), if_neg (by decide), if_neg (by decide), if_neg (by decide), if_pos (by decide)]
  · have e : nI 11 = (11 : Int32) := rfl
    have ej : jop (nI (sg 11)) (gB τ 12 0 42 a) (gB τ 12 0 42 b) = gB τ 12 0 42 a + gB τ 12 0 42 b := rfl
    obtain ⟨v, e', q1, q2⟩ := m_bounded τ (gB τ 12 0 42 a + gB τ 12 0 42 b)
    rw [ej]
    refine ⟨v, e', ?_, q2⟩
    simp only [c1, c2, c3, a1, a2, a3, h1, h2, h3, e, q1, bnd_s, tl_s, bX12_valueOf_89, show ¬ (11 : Int32) = 0 by decide, show ¬ (11 : Int32) = 1 by decide, show ¬ (11 : Int32) = 2 by decide, show ¬ (11 : Int32) = 3 by decide, show ¬ (11 : Int32) = 4 by decide, show ¬ (11 : Int32) = 5 by decide, show ¬ (11 : Int32) = 6 by decide, show ¬ (11 : Int32) = 7 by decide, show ¬ (11 : Int32) = 8 by decide, show ¬ (11 : Int32) = 9 by decide, show ¬ (11 : Int32) = 10 by decide, ↓reduceIte]
  · have e : nI 12 = (12 : Int32) := rfl
    have ej : jop (nI (sg 12)) (gB τ 12 0 42 a) (gB τ 12 0 42 b) = gB τ 12 0 42 a - gB τ 12 0 42 b := rfl
    obtain ⟨v, e', q1, q2⟩ := m_bounded τ (gB τ 12 0 42 a - gB τ 12 0 42 b)
    rw [ej]
    refine ⟨v, e', ?_, q2⟩
    simp only [c1, c2, c3, a1, a2, a3, h1, h2, h3, e, q1, bnd_s, tl_s, bX12_valueOf_95, show ¬ (12 : Int32) = 0 by decide, show ¬ (12 : Int32) = 1 by decide, show ¬ (12 : Int32) = 2 by decide, show ¬ (12 : Int32) = 3 by decide, show ¬ (12 : Int32) = 4 by decide, show ¬ (12 : Int32) = 5 by decide, show ¬ (12 : Int32) = 6 by decide, show ¬ (12 : Int32) = 7 by decide, show ¬ (12 : Int32) = 8 by decide, show ¬ (12 : Int32) = 9 by decide, show ¬ (12 : Int32) = 10 by decide, show ¬ (12 : Int32) = 11 by decide, ↓reduceIte]
  · have e : nI 13 = (13 : Int32) := rfl
    obtain ⟨v, e', q1, q2⟩ := m_times τ ba bb
    refine ⟨v, e', ?_, q2⟩
    simp only [c1, c2, c3, a1, a2, a3, h1, h2, h3, e, q1, bnd_s, tl_s, bX12_valueOf_100, show ¬ (13 : Int32) = 0 by decide, show ¬ (13 : Int32) = 1 by decide, show ¬ (13 : Int32) = 2 by decide, show ¬ (13 : Int32) = 3 by decide, show ¬ (13 : Int32) = 4 by decide, show ¬ (13 : Int32) = 5 by decide, show ¬ (13 : Int32) = 6 by decide, show ¬ (13 : Int32) = 7 by decide, show ¬ (13 : Int32) = 8 by decide, show ¬ (13 : Int32) = 9 by decide, show ¬ (13 : Int32) = 10 by decide, show ¬ (13 : Int32) = 11 by decide, show ¬ (13 : Int32) = 12 by decide, ↓reduceIte]
  · have e : nI 14 = (14 : Int32) := rfl
    have ej : jop (nI (sg 14)) (gB τ 12 0 42 a) (gB τ 12 0 42 b) = (if gB τ 12 0 42 b = 0 then eER else gB τ 12 0 42 a / gB τ 12 0 42 b) := rfl
    rw [ej]
    simp only [c1, c2, c3, a1, a2, a3, h1, h2, h3, e, lc_eq, show ¬ (14 : Int32) = 0 by decide, show ¬ (14 : Int32) = 1 by decide, show ¬ (14 : Int32) = 2 by decide, show ¬ (14 : Int32) = 3 by decide, show ¬ (14 : Int32) = 4 by decide, show ¬ (14 : Int32) = 5 by decide, show ¬ (14 : Int32) = 6 by decide, show ¬ (14 : Int32) = 7 by decide, show ¬ (14 : Int32) = 8 by decide, show ¬ (14 : Int32) = 9 by decide, show ¬ (14 : Int32) = 10 by decide, show ¬ (14 : Int32) = 11 by decide, show ¬ (14 : Int32) = 12 by decide, show ¬ (14 : Int32) = 13 by decide, ↓reduceIte]
    by_cases h0 : gI τ 12 0 43 = 0
    · rw [if_pos h0]
      by_cases hz : gB τ 12 0 42 b = 0
      · simp only [hz, ↓reduceIte]
        rw [bX12_valueOf_109, bX12_valueOf_112, if_pos (Or.inr rfl), if_neg i10, bX12_valueOf_121]
        exact ⟨_, _, rfl, bd_0, Or.inr ⟨h0, Or.inl ⟨rfl, Or.inr (by decide)⟩⟩⟩
      · simp only [hz, ↓reduceIte]
        rw [bX12_valueOf_112, if_pos (Or.inl rfl), if_pos rfl, if_neg hz, bX12_valueOf_121]
        exact ⟨_, _, rfl, j_div ba, Or.inr ⟨h0, Or.inr ⟨rfl, rfl⟩⟩⟩
    · rw [if_neg h0, bX12_valueOf_109, bX12_valueOf_112, if_pos (Or.inr rfl), if_neg i10, bX12_valueOf_121]
      exact ⟨_, _, rfl, bd_0, Or.inl ⟨h0, rfl⟩⟩
end VO
