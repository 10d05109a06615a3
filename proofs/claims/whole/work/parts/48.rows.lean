/-! ROWS: all rows of some growers, by number and one behind the other -/
def facN : Nat → Nat
  | 0 => 1
  | k + 1 => (k + 1) * facN k
def pkG : Nat → Nat → Nat → Nat → Nat
  | 0, _, _, g => g
  | m + 1, had, nth, g => if had / 2 ^ g % 2 = 0 then (if 0 < nth then pkG m had (nth - 1) (g + 1) else g) else pkG m had nth (g + 1)
/-- the row by its number -/
def rwLs : Nat → Nat → Nat → List Nat
  | 0, _, _ => []
  | m + 1, had, left => pkG 7 had (left / facN m) 0 :: rwLs m (had + 2 ^ pkG 7 had (left / facN m) 0) (left % facN m)
def rwP (L out c j : Nat) : Nat := (rwLs L out c).getD j 0
def okRow : Nat → Nat → Nat → Bool
  | 0, _, _ => true
  | m + 1, had, left => decide (pkG 7 had (left / facN m) 0 < 6) && (decide (had / 2 ^ pkG 7 had (left / facN m) 0 % 2 = 0) && (decide (had + 2 ^ pkG 7 had (left / facN m) 0 < 64) && okRow m (had + 2 ^ pkG 7 had (left / facN m) 0) (left % facN m)))
def rsP (f : Nat → Nat) : Nat → Nat → Nat → Nat
  | 0, _, x => x
  | m + 1, i, x => rsP f m (i + 1) (if f i < f (i + 1) then i else x)
def grP (f : Nat → Nat) (rs : Nat) : Nat → Nat → Nat → Nat
  | 0, _, x => x
  | m + 1, i, x => grP f rs m (i + 1) (if f rs < f i then i else x)
def swN (f : Nat → Nat) (i j : Nat) : Nat → Nat := fun k => if k = j then f i else if k = i then f j else f k
def rvP : Nat → Nat → Nat → (Nat → Nat) → Nat → Nat
  | 0, _, _, f => f
  | m + 1, i, j, f => if i < j then rvP m (i + 1) (j - 1) (swN f i j) else f
def adF (L : Nat) (f : Nat → Nat) : Bool × (Nat → Nat) := if rsP f (L - 1) 0 9 = 9 then (false, f) else (true, rvP 6 (rsP f (L - 1) 0 9 + 1) (L - 1) (swN f (rsP f (L - 1) 0 9) (grP f (rsP f (L - 1) 0 9) (L - 1 - rsP f (L - 1) 0 9) (rsP f (L - 1) 0 9 + 1) (rsP f (L - 1) 0 9 + 1))))
def alB : Nat → (Nat → Bool) → Bool
  | 0, _ => true
  | n + 1, p => if p n = true then alB n p else false
theorem alB_i {p : Nat → Bool} : ∀ {n : Nat}, alB n p = true → ∀ i, i < n → p i = true
  | 0, _, _, hi => absurd hi (Nat.not_lt_zero _)
  | n + 1, h, i, hi => by
    simp only [alB] at h
    by_cases hp : p n = true
    · rw [if_pos hp] at h
      by_cases e : i = n
      · rw [e]; exact hp
      · exact alB_i h i (by omega)
    · rw [if_neg hp] at h
      cases h
def eqL (L : Nat) (f g : Nat → Nat) : Bool := alB L (fun j => decide (f j = g j))
/-- one row and the next -/
def stR (L out c : Nat) : Bool := okRow L out c && (if c + 1 < facN L then (adF L (rwP L out c)).1 && eqL L (adF L (rwP L out c)).2 (rwP L out (c + 1)) else ! (adF L (rwP L out c)).1)
/-- values, all different, none of them left out; each one is there -/
def vlR (L n out c : Nat) : Bool := alB L (fun j => decide (rwP L out c j < n) && (decide (out / 2 ^ rwP L out c j % 2 = 0) && alB L (fun k => decide (k = j) || decide (¬ rwP L out c k = rwP L out c j))))
def chR (L n out : Nat) : Bool := alB (facN L) (fun c => stR L out c && vlR L n out c)
theorem tbW : ∀ n, n < 7 → ∀ f, f < n → chR (n - 1) n (2 ^ f) = true := by decide +kernel
theorem tbO : ∀ n, n < 7 → chR n n 0 = true := by decide +kernel
