/-! LAWS: how the class works out a row of knots -/
theorem lc_lt (x y : Int64) : (lg_cmp x y < 0) ↔ x < y := by
  unfold lg_cmp
  by_cases h1 : x > y
  · rw [if_pos h1]
    exact ⟨fun z => absurd z (by decide), fun z => absurd z (Int64.not_lt.mpr (Int64.le_of_lt h1))⟩
  · rw [if_neg h1]
    by_cases h2 : x = y
    · rw [if_pos h2]
      exact ⟨fun z => absurd z (by decide), fun z => absurd h2 (Int64.ne_of_lt z)⟩
    · rw [if_neg h2]
      exact ⟨fun _ => Int64.lt_of_le_of_ne (Int64.not_lt.mp h1) h2, fun _ => by decide⟩
theorem lc_gt (x y : Int64) : (0 < lg_cmp x y) ↔ y < x := by
  unfold lg_cmp
  by_cases h1 : x > y
  · rw [if_pos h1]
    exact ⟨fun _ => h1, fun _ => by decide⟩
  · rw [if_neg h1]
    by_cases h2 : x = y
    · rw [if_pos h2]
      exact ⟨fun z => absurd z (by decide), fun z => absurd z h1⟩
    · rw [if_neg h2]
      exact ⟨fun z => absurd z (by decide), fun z => absurd z h1⟩
theorem lc_eq (x y : Int64) : (lg_cmp x y = 0) ↔ x = y := by
  unfold lg_cmp
  by_cases h1 : x > y
  · rw [if_pos h1]
    exact ⟨fun z => absurd z (by decide), fun z => absurd h1 (by rw [z]; exact Int64.lt_irrefl)⟩
  · rw [if_neg h1]
    by_cases h2 : x = y
    · rw [if_pos h2]
      exact ⟨fun _ => h2, fun _ => rfl⟩
    · rw [if_neg h2]
      exact ⟨fun z => absurd z (by decide), fun z => absurd z h2⟩
abbrev eER : Int64 := -9223372036854775808
abbrev eMV : Int64 := 1000000000000
/-- a sign between two values -/
def jop (s : Int32) (a b : Int64) : Int64 :=
  if s = 0 then (if a = 0 then (if b = 0 then 0 else 1) else 1)
  else if s = 1 then (if a = 0 then 0 else if b = 0 then 0 else 1)
  else if s = 2 then eER
  else if s = 3 then (if a < b then 1 else 0)
  else if s = 4 then (if b < a then 0 else 1)
  else if s = 5 then (if a = b then 1 else 0)
  else if s = 6 then (if a = b then 0 else 1)
  else if s = 7 then (if a < b then 0 else 1)
  else if s = 8 then (if b < a then 1 else 0)
  else if s = 9 then a + b
  else if s = 10 then a - b
  else if s = 11 then (if (if a < 0 then -a else a) = 0 then a * b else if eMV / (if a < 0 then -a else a) < (if b < 0 then -b else b) then eER else a * b)
  else if s = 12 then (if b = 0 then eER else a / b)
  else eER
theorem e_joined (σ : ST) (s : Int32) (a b : Int64) : den 31 [vI s, vL a, vL b] σ = some (some (vL (jop s a b)), σ) := by
  rw [dX3_joined, bX3_joined_0]
  unfold jop
  simp only [lc_lt, lc_gt, lc_eq]
  by_cases h0 : s = 0
  · rw [if_pos h0, if_pos h0]
    by_cases ha : a = 0 <;> by_cases hb : b = 0 <;> simp only [ha, hb, ↓reduceIte, bX3_joined_10, bX3_joined_13]
  rw [if_neg h0, if_neg h0]
  by_cases h1 : s = 1
  · rw [if_pos h1, if_pos h1]
    by_cases ha : a = 0 <;> by_cases hb : b = 0 <;> simp only [ha, hb, ↓reduceIte, bX3_joined_24, bX3_joined_25]
  rw [if_neg h1, if_neg h1]
  by_cases h2 : s = 2
  · rw [if_pos h2, if_pos h2]
  rw [if_neg h2, if_neg h2]
  by_cases h3 : s = 3
  · rw [if_pos h3, if_pos h3]
    by_cases h : a < b <;> simp only [h, ↓reduceIte, bX3_joined_33]
  rw [if_neg h3, if_neg h3]
  by_cases h4 : s = 4
  · rw [if_pos h4, if_pos h4]
    by_cases h : b < a <;> simp only [h, ↓reduceIte, bX3_joined_41]
  rw [if_neg h4, if_neg h4]
  by_cases h5 : s = 5
  · rw [if_pos h5, if_pos h5]
    by_cases h : a = b <;> simp only [h, ↓reduceIte, bX3_joined_49]
  rw [if_neg h5, if_neg h5]
  by_cases h6 : s = 6
  · rw [if_pos h6, if_pos h6]
    by_cases h : a = b <;> simp only [h, ↓reduceIte, bX3_joined_57]
  rw [if_neg h6, if_neg h6]
  by_cases h7 : s = 7
  · rw [if_pos h7, if_pos h7]
    by_cases h : a < b <;> simp only [h, ↓reduceIte, bX3_joined_65]
  rw [if_neg h7, if_neg h7]
  by_cases h8 : s = 8
  · rw [if_pos h8, if_pos h8]
    by_cases h : b < a <;> simp only [h, ↓reduceIte, bX3_joined_73]
  rw [if_neg h8, if_neg h8]
  by_cases h9 : s = 9
  · rw [if_pos h9, if_pos h9]
  rw [if_neg h9, if_neg h9]
  by_cases h10 : s = 10
  · rw [if_pos h10, if_pos h10]
  rw [if_neg h10, if_neg h10]
  by_cases h11 : s = 11
  · rw [if_pos h11, if_pos h11]
    have key : ∀ (x : Int64) (y5 y6 y7 y8 y4 y2 y0 : Option AV), run kX3_joined 90 [y0, some (vL a), y2, some (vL b), y4, y5, y6, y7, y8] [vL x] σ = some (some (vL (if x = 0 then a * b else if eMV / x < (if b < 0 then -b else b) then eER else a * b)), σ) := by
      intro x y5 y6 y7 y8 y4 y2 y0
      have k2 : ∀ (z : Int64) (y5 y6 y7 y8 y4 y2 y0 : Option AV), run kX3_joined 99 [y0, some (vL a), y2, some (vL b), y4, some (vL x), y6, y7, y8] [vL z] σ = some (some (vL (if x = 0 then a * b else if eMV / x < z then eER else a * b)), σ) := by
        intro z y5 y6 y7 y8 y4 y2 y0
        rw [bX3_joined_99]
        simp only [lc_gt, lc_eq]
        by_cases hx : x = 0
        · rw [if_pos hx, if_pos hx, bX3_joined_112, bX3_joined_115]
        · rw [if_neg hx, if_neg hx, if_neg hx]
          by_cases hz : eMV / x < z
          · rw [if_pos hz, if_pos hz, bX3_joined_115]
          · rw [if_neg hz, if_neg hz, bX3_joined_112, bX3_joined_115]
      rw [bX3_joined_90]
      simp only [lc_lt]
      by_cases hb : b < 0
      · rw [if_pos hb, if_pos hb]; exact k2 _ none _ _ _ _ _ _
      · rw [if_neg hb, if_neg hb]; exact k2 _ none _ _ _ _ _ _
    by_cases ha : a < 0
    · rw [if_pos ha, if_pos ha]; exact key _ _ _ _ _ _ _ _
    · rw [if_neg ha, if_neg ha]; exact key _ _ _ _ _ _ _ _
  rw [if_neg h11, if_neg h11]
  by_cases h12 : s = 12
  · rw [if_pos h12, if_pos h12]
    by_cases h : b = 0
    · simp only [h, ↓reduceIte, bX3_joined_125]
    · simp only [h, ↓reduceIte, bX3_joined_125]
  rw [if_neg h12, if_neg h12]
