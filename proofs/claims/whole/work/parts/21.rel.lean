/-! THE RELATION between the class's state σ and the reference's state τ: G which garden is the text's, n growers, r ribbons -/
/-- two plots: worth, had, seen, holder, since, handed -/
def PRf (n r : Nat) (w h s ho si hd w' h' s' ho' si' hd' : Nat → Int32) : Prop :=
  (∀ j, j < n → w j = w' j ∧ ∃ x, x ≤ 999 ∧ w j = nI x) ∧ (∀ j, j < n → h j = h' j) ∧
  (∀ j, j < 6 → s j = s' j ∧ ∃ x, x < 2 ^ n ∧ (n ≤ j → x = 0) ∧ s j = nI x) ∧
  (∀ p, p < r → ho p = ho' p ∧ ∃ x, x < n ∧ ho p = nI x) ∧ (∀ p, p < r → si p = si' p) ∧ (∀ p, p < r → hd p = hd' p) ∧ ∀ p, r ≤ p → p < 2 → hd p = 0
/-- plot o of the class, half b of the reference's rows -/
def PRb (n r : Nat) (σ : ST) (o : Nat) (τ : ST) (b : Nat) : Prop :=
  PRf n r (gA σ 5 o 2) (gA σ 5 o 3) (gA σ 5 o 4) (gA σ 5 o 5) (gA σ 5 o 6) (gA σ 5 o 7)
    (fun j => gA τ 12 0 44 (6 * b + j)) (fun j => gA τ 12 0 45 (6 * b + j)) (fun j => gA τ 12 0 46 (6 * b + j)) (fun p => gA τ 12 0 47 (2 * b + p)) (fun p => gA τ 12 0 48 (2 * b + p)) (fun p => gA τ 12 0 49 (2 * b + p)) ∧
  gI σ 5 o 0 = gA τ 12 0 50 b
/-- what the text tells -/
def RG (G n r : Nat) (σ τ : ST) : Prop :=
  (G < 2 ∧ n ≤ 6 ∧ r ≤ 2 ∧ (r ≠ 0 → n ≠ 0)) ∧ (gR σ 11 0 2 = G ∧ gR σ 6 0 4 = 1 - G ∧ gR σ 0 0 4 = G) ∧
  (gI σ 2 G 0 = nI n ∧ gI τ 12 0 12 = nI n ∧ gI σ 2 G 1 = nI r ∧ gI τ 12 0 13 = nI r) ∧ gI σ 2 G 4 = gI τ 12 0 14 ∧
  (∃ b, b ≤ 100 ∧ gI σ 2 G 2 = nI b ∧ gA τ 12 0 19 0 = nI b) ∧ (∃ b, b ≤ 99999 ∧ gI σ 2 G 3 = nI b ∧ gA τ 12 0 19 1 = nI b) ∧
  (∀ j, j < n → gA σ 2 G 5 j = gA τ 12 0 20 j) ∧ (∀ j, j < n → gA σ 2 G 6 j = gA τ 12 0 22 j ∧ -9 ≤ (gA σ 2 G 6 j).toInt ∧ (gA σ 2 G 6 j).toInt ≤ 9) ∧
  (∀ j, j < n → gA σ 2 G 7 j = gA τ 12 0 23 j ∧ ∃ x, x ≤ 9 ∧ gA σ 2 G 7 j = nI x) ∧ ∀ j, j < n → gA σ 2 G 8 j = gA τ 12 0 24 j ∧ ∃ x, x ≤ 99 ∧ gA σ 2 G 8 j = nI x
/-- the reference's switches stand as at first -/
def RF (τ : ST) : Prop := gI τ 12 0 52 = 0 ∧ gI τ 12 0 53 = 0 ∧ gI τ 12 0 54 = 0 ∧ gI τ 12 0 55 = 0 ∧ gI τ 12 0 56 = 0 ∧ gI τ 12 0 57 = 0 ∧ gI τ 12 0 58 = -1 ∧ gI τ 12 0 59 = 0
/-- the real course's switches -/
def RC (G n : Nat) (σ : ST) : Prop := gI σ 0 0 6 = 1 ∧ gI σ 0 0 5 = (if gI σ 2 G 2 = 0 then 0 else if gI σ 2 G 2 = 100 then 1 else 2) ∧ ∀ j, j < n → gA σ 0 0 1 j = gA σ 2 G 7 j
section RGA
variable {G n r : Nat} {σ τ : ST}
theorem RG.n6 (h : RG G n r σ τ) : n ≤ 6 := h.1.2.1
theorem RG.r2 (h : RG G n r σ τ) : r ≤ 2 := h.1.2.2.1
theorem RG.g (h : RG G n r σ τ) : gR σ 11 0 2 = G := h.2.1.1
theorem RG.cn (h : RG G n r σ τ) : gI σ 2 (gR σ 11 0 2) 0 = nI n := by rw [h.g]; exact h.2.2.1.1
theorem RG.mn (h : RG G n r σ τ) : gI τ 12 0 12 = nI n := h.2.2.1.2.1
theorem RG.cr (h : RG G n r σ τ) : gI σ 2 (gR σ 11 0 2) 1 = nI r := by rw [h.g]; exact h.2.2.1.2.2.1
theorem RG.mr (h : RG G n r σ τ) : gI τ 12 0 13 = nI r := h.2.2.1.2.2.2
end RGA
/-- an int that is one of so many, or isn't -/
theorem isb_nI {g : Int32} {n : Nat} (hn : n < 2 ^ 31) : (isb g (nI n) = 0) ∨ ∃ j, j < n ∧ g = nI j ∧ isb g (nI n) = 1 := by
  by_cases h : isN g (nI n)
  · obtain ⟨j, hj, e⟩ := nI_of h.1
    refine Or.inr ⟨j, ?_, e, isb_1 h⟩
    have := h.2
    rw [e] at this
    exact (nI_ltI hj hn).mp this
  · exact Or.inl (isb_0 h)
theorem twb_nI {a c : Int32} {n : Nat} (hn : n < 2 ^ 31) : twb a c (nI n) = 0 ∨ ∃ i j, i < n ∧ j < n ∧ i ≠ j ∧ a = nI i ∧ c = nI j ∧ twb a c (nI n) = 1 := by
  unfold twb
  rcases isb_nI (g := a) hn with h | ⟨i, hi, e, h⟩
  · exact Or.inl (if_pos h)
  · rw [if_neg (by rw [h]; decide)]
    rcases isb_nI (g := c) hn with h' | ⟨j, hj, e', h'⟩
    · exact Or.inl (if_pos h')
    · rw [if_neg (by rw [h']; decide)]
      by_cases hac : a = c
      · exact Or.inl (if_pos hac)
      · rw [if_neg hac]
        exact Or.inr ⟨i, j, hi, hj, fun z => hac (by rw [e, e', z]), e, e', rfl⟩
