/-! PURE: reads behind writes, small methods -/
theorem gII {σ : ST} {c o k a b d : Nat} {v : Int32} : gI (sI σ c o k v) a b d = if d = k ∧ a = c ∧ b = o then v else gI σ a b d := rfl
theorem gIL {σ : ST} {c o k a b d : Nat} {v : Int64} : gI (sL σ c o k v) a b d = gI σ a b d := rfl
theorem gIR {σ : ST} {c o k a b d : Nat} {v : Nat} : gI (sR σ c o k v) a b d = gI σ a b d := rfl
theorem gIA {σ : ST} {c o k a b d : Nat} {v : Nat → Int32} : gI (sA σ c o k v) a b d = gI σ a b d := rfl
theorem gIB {σ : ST} {c o k a b d : Nat} {v : Nat → Int64} : gI (sB σ c o k v) a b d = gI σ a b d := rfl
theorem gLI {σ : ST} {c o k a b d : Nat} {v : Int32} : gL (sI σ c o k v) a b d = gL σ a b d := rfl
theorem gLL {σ : ST} {c o k a b d : Nat} {v : Int64} : gL (sL σ c o k v) a b d = if d = k ∧ a = c ∧ b = o then v else gL σ a b d := rfl
theorem gLR {σ : ST} {c o k a b d : Nat} {v : Nat} : gL (sR σ c o k v) a b d = gL σ a b d := rfl
theorem gLA {σ : ST} {c o k a b d : Nat} {v : Nat → Int32} : gL (sA σ c o k v) a b d = gL σ a b d := rfl
theorem gLB {σ : ST} {c o k a b d : Nat} {v : Nat → Int64} : gL (sB σ c o k v) a b d = gL σ a b d := rfl
theorem gRI {σ : ST} {c o k a b d : Nat} {v : Int32} : gR (sI σ c o k v) a b d = gR σ a b d := rfl
theorem gRL {σ : ST} {c o k a b d : Nat} {v : Int64} : gR (sL σ c o k v) a b d = gR σ a b d := rfl
theorem gRR {σ : ST} {c o k a b d : Nat} {v : Nat} : gR (sR σ c o k v) a b d = if d = k ∧ a = c ∧ b = o then v else gR σ a b d := rfl
theorem gRA {σ : ST} {c o k a b d : Nat} {v : Nat → Int32} : gR (sA σ c o k v) a b d = gR σ a b d := rfl
theorem gRB {σ : ST} {c o k a b d : Nat} {v : Nat → Int64} : gR (sB σ c o k v) a b d = gR σ a b d := rfl
theorem gAI {σ : ST} {c o k a b d : Nat} {v : Int32} : gA (sI σ c o k v) a b d = gA σ a b d := rfl
theorem gAL {σ : ST} {c o k a b d : Nat} {v : Int64} : gA (sL σ c o k v) a b d = gA σ a b d := rfl
theorem gAR {σ : ST} {c o k a b d : Nat} {v : Nat} : gA (sR σ c o k v) a b d = gA σ a b d := rfl
theorem gAA {σ : ST} {c o k a b d : Nat} {v : Nat → Int32} : gA (sA σ c o k v) a b d = if d = k ∧ a = c ∧ b = o then v else gA σ a b d := rfl
theorem gAB {σ : ST} {c o k a b d : Nat} {v : Nat → Int64} : gA (sB σ c o k v) a b d = gA σ a b d := rfl
theorem gBI {σ : ST} {c o k a b d : Nat} {v : Int32} : gB (sI σ c o k v) a b d = gB σ a b d := rfl
theorem gBL {σ : ST} {c o k a b d : Nat} {v : Int64} : gB (sL σ c o k v) a b d = gB σ a b d := rfl
theorem gBR {σ : ST} {c o k a b d : Nat} {v : Nat} : gB (sR σ c o k v) a b d = gB σ a b d := rfl
theorem gBA {σ : ST} {c o k a b d : Nat} {v : Nat → Int32} : gB (sA σ c o k v) a b d = gB σ a b d := rfl
theorem gBB {σ : ST} {c o k a b d : Nat} {v : Nat → Int64} : gB (sB σ c o k v) a b d = if d = k ∧ a = c ∧ b = o then v else gB σ a b d := rfl
theorem bnd_s {v : Option AV} {τ : ST} {f : Option AV → ST → RS} : bnd (some (v, τ)) f = f v τ := rfl
theorem tl_s {x : AV} {r : List AV} : (some x).toList ++ r = x :: r := rfl
theorem tl_n {r : List AV} : (none : Option AV).toList ++ r = r := rfl
def b2i (p : Prop) [Decidable p] : Int32 := if p then 1 else 0
theorem b2i_t {p : Prop} [Decidable p] (h : p) : b2i p = 1 := if_pos h
theorem b2i_f {p : Prop} [Decidable p] (h : ¬ p) : b2i p = 0 := if_neg h
theorem i10 : ¬ (1 : Int32) = 0 := by decide
theorem i00 : (0 : Int32) = 0 := rfl
theorem b2i_0 {p : Prop} [Decidable p] : b2i p = 0 ↔ ¬ p := by
  by_cases h : p
  · rw [b2i_t h]; exact ⟨fun z => absurd z i10, fun z => absurd h z⟩
  · rw [b2i_f h]; exact ⟨fun _ => h, fun _ => rfl⟩
/-- whether there is such a one of so many -/
def isN (g n : Int32) : Prop := ¬ g < 0 ∧ g < n
theorem isN_dec (g n : Int32) : (isN g n ∨ ¬ isN g n) := Classical.em _
def isb (g n : Int32) : Int32 := if g < 0 then 0 else if g < n then 1 else 0
theorem isb_1 {g n : Int32} (h : isN g n) : isb g n = 1 := by
  unfold isb
  rw [if_neg h.1, if_pos h.2]
theorem isb_0 {g n : Int32} (h : ¬ isN g n) : isb g n = 0 := by
  unfold isb
  by_cases h1 : g < 0
  · rw [if_pos h1]
  · rw [if_neg h1, if_neg (fun z => h ⟨h1, z⟩)]
theorem e_isGrower (σ : ST) (g : Int32) : den 153 [vR 11 0 0, vI g] σ = some (some (vI (isb g (gI σ 2 (gR σ 11 0 2) 0))), σ) := by
  rw [dX11_isGrower, bX11_isGrower_0]
  unfold isb
  by_cases h1 : g < 0
  · rw [if_pos h1, if_pos h1]
  · rw [if_neg h1, if_neg h1]
    by_cases h2 : g < gI σ 2 (gR σ 11 0 2) 0
    · rw [if_pos h2, if_pos h2]
    · rw [if_neg h2, if_neg h2]
theorem e_isRibbon (σ : ST) (g : Int32) : den 154 [vR 11 0 0, vI g] σ = some (some (vI (isb g (gI σ 2 (gR σ 11 0 2) 1))), σ) := by
  rw [dX11_isRibbon, bX11_isRibbon_0]
  unfold isb
  by_cases h1 : g < 0
  · rw [if_pos h1, if_pos h1]
  · rw [if_neg h1, if_neg h1]
    by_cases h2 : g < gI σ 2 (gR σ 11 0 2) 1
    · rw [if_pos h2, if_pos h2]
    · rw [if_neg h2, if_neg h2]
theorem m_isGrower (σ : ST) (g : Int32) : den 209 [vR 12 0 0, vI g] σ = some (some (vI (isb g (gI σ 12 0 12))), σ) := by
  rw [dX12_isGrower, bX12_isGrower_0]
  unfold isb
  by_cases h1 : g < 0
  · rw [if_pos h1, if_pos h1]
  · rw [if_neg h1, if_neg h1]
    by_cases h2 : g < gI σ 12 0 12
    · rw [if_pos h2, if_pos h2]
    · rw [if_neg h2, if_neg h2]
theorem m_isRibbon (σ : ST) (g : Int32) : den 210 [vR 12 0 0, vI g] σ = some (some (vI (isb g (gI σ 12 0 13))), σ) := by
  rw [dX12_isRibbon, bX12_isRibbon_0]
  unfold isb
  by_cases h1 : g < 0
  · rw [if_pos h1, if_pos h1]
  · rw [if_neg h1, if_neg h1]
    by_cases h2 : g < gI σ 12 0 13
    · rw [if_pos h2, if_pos h2]
    · rw [if_neg h2, if_neg h2]
def twb (a c n : Int32) : Int32 := if isb a n = 0 then 0 else if isb c n = 0 then 0 else if a = c then 0 else 1
theorem e_areTwo (σ : ST) (a c : Int32) : den 155 [vR 11 0 0, vI a, vI c] σ = some (some (vI (twb a c (gI σ 2 (gR σ 11 0 2) 0))), σ) := by
  rw [dX11_areTwo, bX11_areTwo_0, e_isGrower, bnd_s, tl_s, bX11_areTwo_3]
  unfold twb
  by_cases h1 : isb a (gI σ 2 (gR σ 11 0 2) 0) = 0
  · rw [if_pos h1, if_pos h1]
  · rw [if_neg h1, if_neg h1, e_isGrower, bnd_s, tl_s, bX11_areTwo_7]
    by_cases h2 : isb c (gI σ 2 (gR σ 11 0 2) 0) = 0
    · rw [if_pos h2, if_pos h2]
    · rw [if_neg h2, if_neg h2]
      by_cases h3 : a = c
      · rw [if_pos h3, if_pos h3]
      · rw [if_neg h3, if_neg h3]
theorem m_areTwo (σ : ST) (a c : Int32) : den 211 [vR 12 0 0, vI a, vI c] σ = some (some (vI (twb a c (gI σ 12 0 12))), σ) := by
  rw [dX12_areTwo, bX12_areTwo_0, m_isGrower, bnd_s, tl_s, bX12_areTwo_3]
  unfold twb
  by_cases h1 : isb a (gI σ 12 0 12) = 0
  · rw [if_pos h1, if_pos h1]
  · rw [if_neg h1, if_neg h1, m_isGrower, bnd_s, tl_s, bX12_areTwo_7]
    by_cases h2 : isb c (gI σ 12 0 12) = 0
    · rw [if_pos h2, if_pos h2]
    · rw [if_neg h2, if_neg h2]
      by_cases h3 : a = c
      · rw [if_pos h3, if_pos h3]
      · rw [if_neg h3, if_neg h3]
/-- between -/
def inb (x a b : Int32) : Int32 := if x < a then 0 else if b < x then 0 else 1
theorem e_isWithin (σ : ST) (x a b : Int32) : den 156 [vI x, vI a, vI b] σ = some (some (vI (inb x a b)), σ) := by
  rw [dX11_isWithin, bX11_isWithin_0]
  unfold inb
  by_cases h1 : x < a
  · rw [if_pos h1, if_pos h1]
  · rw [if_neg h1, if_neg h1]
    by_cases h2 : b < x
    · rw [if_pos h2, if_pos h2]
    · rw [if_neg h2, if_neg h2]
theorem m_isIn (σ : ST) (x a b : Int32) : den 165 [vI x, vI a, vI b] σ = some (some (vI (inb x a b)), σ) := by
  rw [dX12_isIn, bX12_isIn_0]
  unfold inb
  by_cases h1 : x < a
  · rw [if_pos h1, if_pos h1]
  · rw [if_neg h1, if_neg h1]
    by_cases h2 : b < x
    · rw [if_pos h2, if_pos h2]
    · rw [if_neg h2, if_neg h2]
/-- a bit -/
def bit (x k : Int32) : Int32 := x >>> (k &&& 31) &&& 1
theorem bit_01 (x k : Int32) : bit x k = 0 ∨ bit x k = 1 := by
  unfold bit
  obtain ⟨j, hj, e⟩ := pk_andE (x >>> (k &&& 31)) (m := 1) 1 (by decide)
  rw [e]
  have : j = 0 ∨ j = 1 := by omega
  rcases this with rfl | rfl
  · exact Or.inl (by decide)
  · exact Or.inr (by decide)
theorem e_has (σ : ST) (x k : Int32) : den 157 [vI x, vI k] σ = some (some (vI (bit x k)), σ) := by
  rw [dX11_has, bX11_has_0]
  show (if bit x k = 0 then _ else _) = _
  rcases bit_01 x k with h | h <;> rw [h]
  · rw [if_pos rfl]
  · rw [if_neg i10]
theorem m_isOf (σ : ST) (x k : Int32) : den 166 [vI x, vI k] σ = some (some (vI (bit x k)), σ) := by
  rw [dX12_isOf, bX12_isOf_0]
  show (if bit x k = 1 then _ else _) = _
  rcases bit_01 x k with h | h <;> rw [h]
  · rw [if_neg (by decide)]
  · rw [if_pos rfl]
