/-! THE ABSTRACT MACHINE: the class's and the reference's methods as a program over numbered objects. A cell is (class, number, 0) for an object, (class, number, k + 1) for the array that its field k holds. -/
abbrev AV : Type := Int32 ⊕ (Int64 ⊕ (Nat × Nat × Nat))
abbrev ST : Type := (Nat → Nat → Nat → Int32) × (Nat → Nat → Nat → Int64) × (Nat → Nat → Nat → Nat) × (Nat → Nat → Nat → Nat → Int32) × (Nat → Nat → Nat → Nat → Int64)
abbrev LV : Type := List (Option AV)
abbrev RS : Type := Option (Option AV × ST)
abbrev KT : Type := Nat → LV → List AV → ST → RS
abbrev CT : Type := Nat → List AV → ST → RS
abbrev vI (x : Int32) : AV := .inl x
abbrev vL (x : Int64) : AV := .inr (.inl x)
abbrev vR (c o k : Nat) : AV := .inr (.inr (c, o, k))
def gI (σ : ST) (c o k : Nat) : Int32 := σ.1 c o k
def gL (σ : ST) (c o k : Nat) : Int64 := σ.2.1 c o k
def gR (σ : ST) (c o k : Nat) : Nat := σ.2.2.1 c o k
def gA (σ : ST) (c o k : Nat) : Nat → Int32 := σ.2.2.2.1 c o k
def gB (σ : ST) (c o k : Nat) : Nat → Int64 := σ.2.2.2.2 c o k
def u3 {α : Type} (f : Nat → Nat → Nat → α) (c o k : Nat) (v : α) : Nat → Nat → Nat → α := fun a b d => if d = k ∧ a = c ∧ b = o then v else f a b d
def sI (σ : ST) (c o k : Nat) (v : Int32) : ST := (u3 σ.1 c o k v, σ.2)
def sL (σ : ST) (c o k : Nat) (v : Int64) : ST := (σ.1, u3 σ.2.1 c o k v, σ.2.2)
def sR (σ : ST) (c o k : Nat) (v : Nat) : ST := (σ.1, σ.2.1, u3 σ.2.2.1 c o k v, σ.2.2.2)
def sA (σ : ST) (c o k : Nat) (v : Nat → Int32) : ST := (σ.1, σ.2.1, σ.2.2.1, u3 σ.2.2.2.1 c o k v, σ.2.2.2.2)
def sB (σ : ST) (c o k : Nat) (v : Nat → Int64) : ST := (σ.1, σ.2.1, σ.2.2.1, σ.2.2.2.1, u3 σ.2.2.2.2 c o k v)
/-- arrays by class and field: kind (0 int, 1 long, 2 byte, 3 boolean, 4 laws) and length -/
def arT : List (List (Nat × Nat)) := [[(9, 0), (0, 6), (1, 7), (1, 64), (9, 0), (9, 0), (9, 0)], [(0, 20), (0, 20), (0, 20), (0, 20), (0, 20), (0, 20), (9, 0)], [(9, 0), (9, 0), (9, 0), (9, 0), (9, 0), (0, 6), (0, 6), (0, 6), (0, 6), (4, 3), (9, 0)], [(0, 64), (9, 0)], [(0, 36), (9, 0), (9, 0), (9, 0), (9, 0), (9, 0), (9, 0), (9, 0)], [(9, 0), (9, 0), (0, 6), (0, 6), (0, 6), (0, 2), (0, 2), (0, 2)], [(9, 0), (0, 72), (9, 0), (9, 0), (9, 0), (9, 0), (9, 0), (9, 0), (9, 0), (9, 0)], [(0, 36), (3, 6), (0, 6), (0, 6), (9, 0), (9, 0), (9, 0), (9, 0), (9, 0)], [(0, 6), (0, 6), (9, 0), (9, 0)], [(0, 19), (2, 700), (9, 0), (9, 0), (9, 0), (9, 0), (9, 0), (9, 0)], [(0, 24), (0, 24), (0, 24), (0, 24), (3, 24), (3, 24), (9, 0), (9, 0)], [(9, 0), (9, 0), (9, 0), (9, 0), (9, 0), (9, 0), (9, 0), (9, 0), (9, 0), (9, 0), (9, 0), (9, 0)], [(0, 700), (9, 0), (9, 0), (0, 97), (9, 0), (9, 0), (9, 0), (9, 0), (9, 0), (9, 0), (9, 0), (9, 0), (9, 0), (9, 0), (9, 0), (9, 0), (9, 0), (9, 0), (3, 2), (0, 4), (0, 12), (0, 12), (0, 12), (0, 12), (0, 12), (0, 12), (0, 4), (3, 6), (0, 6), (0, 6), (0, 128), (0, 128), (0, 128), (0, 96), (0, 96), (9, 0), (9, 0), (9, 0), (9, 0), (9, 0), (9, 0), (1, 7), (1, 64), (9, 0), (0, 12), (0, 12), (0, 12), (0, 4), (0, 4), (0, 4), (0, 2), (9, 0), (9, 0), (9, 0), (9, 0), (9, 0), (9, 0), (9, 0), (9, 0), (9, 0), (9, 0), (9, 0), (0, 6), (9, 0), (9, 0), (9, 0), (0, 6), (9, 0), (9, 0), (0, 120), (3, 24), (0, 6), (9, 0), (0, 480), (9, 0), (0, 24), (9, 0), (9, 0)]]
def ar (c k : Nat) : Nat × Nat := (arT.getD c []).getD k (9, 0)
/-- objects that final fields hold -/
def sub (c o k : Nat) : Nat × Nat × Nat := match c, k with
  | 0, 0 => (5, o, 0)
  | 2, 10 => (5, 3 + o, 0)
  | 6, 0 => (9, 0, 0)
  | 11, 0 => (9, 0, 0)
  | 11, 1 => (6, 0, 0)
  | 11, 3 => (0, 0, 0)
  | 11, 4 => (0, 1, 0)
  | 11, 5 => (5, 2, 0)
  | 11, 7 => (1, 0, 0)
  | 11, 8 => (10, 0, 0)
  | 11, 9 => (7, 0, 0)
  | 11, 10 => (4, 0, 0)
  | 11, 11 => (8, 0, 0)
  | _, _ => (99, 0, 0)
def klf : Option AV → Option AV
  | some (.inr (.inl _)) => none
  | x => x
def sto : LV → Nat → AV → LV
  | [], _, _ => []
  | _ :: r, 0, v => some v :: r
  | x :: r, 1, v => klf x :: sto r 0 v
  | x :: r, i + 2, v => x :: sto r (i + 1) v
def stoL : LV → Nat → Int64 → LV
  | [], _, _ => []
  | _ :: [], 0, _ => [none]
  | _ :: _ :: r, 0, v => some (vL v) :: none :: r
  | x :: r, 1, v => klf x :: stoL r 0 v
  | x :: r, i + 2, v => x :: stoL r (i + 1) v
def catV : AV → Nat
  | .inr (.inl _) => 2
  | _ => 1
def catS : List AV → Nat
  | [] => 0
  | v :: r => catV v + catS r
def spl : Nat → List AV → List AV → Option (List AV × List AV)
  | 0, st, acc => some (acc, st)
  | n + 1, v :: st, acc => spl n st (v :: acc)
  | _ + 1, [], _ => none
def ent1 : List AV → LV
  | [] => []
  | .inr (.inl x) :: r => some (vL x) :: none :: ent1 r
  | v :: r => some v :: ent1 r
def ent (M : Nat) (as : List AV) : LV := ent1 as ++ List.replicate (mL M - (ent1 as).length) none
/-- the top of the stack -/
def aI (st : List AV) (f : Int32 → List AV → RS) : RS := match st with
  | .inl x :: r => f x r
  | _ => none
def aL (st : List AV) (f : Int64 → List AV → RS) : RS := match st with
  | .inr (.inl x) :: r => f x r
  | _ => none
def aR (st : List AV) (f : Nat × Nat × Nat → List AV → RS) : RS := match st with
  | .inr (.inr t) :: r => f t r
  | _ => none
def aO (st : List AV) (f : Nat → Nat → List AV → RS) : RS := match st with
  | .inr (.inr (c, o, 0)) :: r => f c o r
  | _ => none
def aX (st : List AV) (f : Nat → Nat → Nat → List AV → RS) : RS := match st with
  | .inr (.inr (c, o, j + 1)) :: r => f c o j r
  | _ => none
def a1 (st : List AV) (f : AV → List AV → RS) : RS := match st with
  | .inl x :: r => f (.inl x) r
  | .inr (.inr t) :: r => f (.inr (.inr t)) r
  | _ => none
def lI (lv : LV) (a : Nat) (f : Int32 → RS) : RS := match lv[a]? with
  | some (some (.inl x)) => f x
  | _ => none
def lL (lv : LV) (a : Nat) (f : Int64 → RS) : RS := match lv[a]? with
  | some (some (.inr (.inl x))) => f x
  | _ => none
def lR (lv : LV) (a : Nat) (f : Nat × Nat × Nat → RS) : RS := match lv[a]? with
  | some (some (.inr (.inr t))) => f t
  | _ => none
/-- constants, locals -/
def st0 (k : KT) (i s : Nat) (im : Int) (a : Nat) (lv : LV) (st : List AV) (σ : ST) : RS := match s with
  | 0 => k (i + 1) lv (vI (Int32.ofInt im) :: st) σ
  | 1 => k (i + 1) lv (vL (Int64.ofInt im) :: st) σ
  | 2 => lI lv a fun x => k (i + 1) lv (vI x :: st) σ
  | 3 => lL lv a fun x => k (i + 1) lv (vL x :: st) σ
  | 4 => lR lv a fun t => k (i + 1) lv (.inr (.inr t) :: st) σ
  | 5 => aI st fun x r => k (i + 1) (sto lv a (vI x)) r σ
  | 6 => aL st fun x r => k (i + 1) (stoL lv a x) r σ
  | 7 => aR st fun t r => k (i + 1) (sto lv a (.inr (.inr t))) r σ
  | 8 => lI lv a fun x => k (i + 1) (sto lv a (vI (x + Int32.ofInt im))) st σ
  | _ => none
/-- numbers of 32 bits; conversions -/
def st1 (k : KT) (i s : Nat) (lv : LV) (st : List AV) (σ : ST) : RS := match s with
  | 0 => aI st fun y r => aI r fun x r => k (i + 1) lv (vI (x + y) :: r) σ
  | 1 => aI st fun y r => aI r fun x r => k (i + 1) lv (vI (x - y) :: r) σ
  | 2 => aI st fun y r => aI r fun x r => k (i + 1) lv (vI (x * y) :: r) σ
  | 3 => aI st fun y r => aI r fun x r => k (i + 1) lv (vI (x &&& y) :: r) σ
  | 4 => aI st fun y r => aI r fun x r => k (i + 1) lv (vI (x ||| y) :: r) σ
  | 5 => aI st fun y r => aI r fun x r => k (i + 1) lv (vI (x ^^^ y) :: r) σ
  | 6 => aI st fun y r => aI r fun x r => k (i + 1) lv (vI (x <<< (y &&& 31)) :: r) σ
  | 7 => aI st fun y r => aI r fun x r => k (i + 1) lv (vI (x >>> (y &&& 31)) :: r) σ
  | 8 => aI st fun y r => aI r fun x r => k (i + 1) lv (vI ((x.toUInt32 >>> (y.toUInt32 &&& Int32.toUInt32 31)).toInt32) :: r) σ
  | 9 => aI st fun y r => aI r fun x r => if y = 0 then none else k (i + 1) lv (vI (x / y) :: r) σ
  | 10 => aI st fun y r => aI r fun x r => if y = 0 then none else k (i + 1) lv (vI (x - x / y * y) :: r) σ
  | 11 => aI st fun x r => k (i + 1) lv (vI (-x) :: r) σ
  | 12 => aI st fun x r => k (i + 1) lv (vL x.toInt64 :: r) σ
  | 13 => aL st fun x r => k (i + 1) lv (vI x.toInt32 :: r) σ
  | 14 => aI st fun x r => k (i + 1) lv (vI x.toInt8.toInt32 :: r) σ
  | _ => none
/-- numbers of 64 bits -/
def st2 (k : KT) (i s : Nat) (lv : LV) (st : List AV) (σ : ST) : RS := match s with
  | 0 => aL st fun y r => aL r fun x r => k (i + 1) lv (vL (x + y) :: r) σ
  | 1 => aL st fun y r => aL r fun x r => k (i + 1) lv (vL (x - y) :: r) σ
  | 2 => aL st fun y r => aL r fun x r => k (i + 1) lv (vL (x * y) :: r) σ
  | 3 => aL st fun y r => aL r fun x r => k (i + 1) lv (vL (x &&& y) :: r) σ
  | 4 => aL st fun y r => aL r fun x r => if y = 0 then none else k (i + 1) lv (vL (x / y) :: r) σ
  | 5 => aL st fun y r => aL r fun x r => if y = 0 then none else k (i + 1) lv (vL (x - x / y * y) :: r) σ
  | 6 => aL st fun x r => k (i + 1) lv (vL (-x) :: r) σ
  | 7 => aL st fun y r => aL r fun x r => k (i + 1) lv (vI (lg_cmp x y) :: r) σ
  | _ => none
def st3 (k : KT) (i s : Nat) (lv : LV) (st : List AV) (σ : ST) : RS := match s with
  | 0 => a1 st fun v r => k (i + 1) lv (v :: v :: r) σ
  | 1 => a1 st fun v r => a1 r fun w r => k (i + 1) lv (v :: w :: v :: w :: r) σ
  | 2 => a1 st fun _ r => k (i + 1) lv r σ
  | _ => none
def tsw (k : KT) (lv : LV) (st : List AV) (σ : ST) (x : Int32) (d : Nat) : List Nat → Int → RS
  | [], _ => k d lv st σ
  | t :: r, n => if x = Int32.ofInt n then k t lv st σ else tsw k lv st σ x d r (n + 1)
/-- branches -/
def st4 (k : KT) (i s : Nat) (im : Int) (a b : Nat) (lv : LV) (st : List AV) (σ : ST) : RS := match s with
  | 0 => aI st fun x r => if x = 0 then k a lv r σ else k (i + 1) lv r σ
  | 1 => aI st fun x r => if x = 0 then k (i + 1) lv r σ else k a lv r σ
  | 2 => aI st fun x r => if x < 0 then k a lv r σ else k (i + 1) lv r σ
  | 3 => aI st fun x r => if x < 0 then k (i + 1) lv r σ else k a lv r σ
  | 4 => aI st fun x r => if 0 < x then k a lv r σ else k (i + 1) lv r σ
  | 5 => aI st fun x r => if 0 < x then k (i + 1) lv r σ else k a lv r σ
  | 6 => aI st fun y r => aI r fun x r => if x = y then k a lv r σ else k (i + 1) lv r σ
  | 7 => aI st fun y r => aI r fun x r => if x = y then k (i + 1) lv r σ else k a lv r σ
  | 8 => aI st fun y r => aI r fun x r => if x < y then k a lv r σ else k (i + 1) lv r σ
  | 9 => aI st fun y r => aI r fun x r => if x < y then k (i + 1) lv r σ else k a lv r σ
  | 10 => aI st fun y r => aI r fun x r => if y < x then k a lv r σ else k (i + 1) lv r σ
  | 11 => aI st fun y r => aI r fun x r => if y < x then k (i + 1) lv r σ else k a lv r σ
  | 12 => k a lv st σ
  | 13 => aI st fun x r => tsw k lv r σ x a (sw b).1 im
  | _ => none
/-- arrays -/
def st5 (k : KT) (i s : Nat) (lv : LV) (st : List AV) (σ : ST) : RS := match s with
  | 0 => aI st fun x r => aX r fun c o j r => if (ar c j).1 = 0 then (if x < 0 ∨ (ar c j).2 ≤ x.toNatClampNeg then none else k (i + 1) lv (vI (gA σ c o j x.toNatClampNeg) :: r) σ) else none
  | 1 => aI st fun x r => aX r fun c o j r => if (ar c j).1 = 2 ∨ (ar c j).1 = 3 then (if x < 0 ∨ (ar c j).2 ≤ x.toNatClampNeg then none else k (i + 1) lv (vI (gA σ c o j x.toNatClampNeg) :: r) σ) else none
  | 2 => aI st fun x r => aX r fun c o j r => if (ar c j).1 = 1 then (if x < 0 ∨ (ar c j).2 ≤ x.toNatClampNeg then none else k (i + 1) lv (vL (gB σ c o j x.toNatClampNeg) :: r) σ) else none
  | 3 => aI st fun x r => aX r fun c o j r => if (ar c j).1 = 4 then (if x < 0 ∨ (ar c j).2 ≤ x.toNatClampNeg then none else k (i + 1) lv (vR 3 (3 * o + x.toNatClampNeg) 0 :: r) σ) else none
  | 4 => aI st fun v r => aI r fun x r => aX r fun c o j r => if (ar c j).1 = 0 then (if x < 0 ∨ (ar c j).2 ≤ x.toNatClampNeg then none else k (i + 1) lv r (sA σ c o j (upd (gA σ c o j) x.toNatClampNeg v))) else none
  | 5 => aI st fun v r => aI r fun x r => aX r fun c o j r => if (ar c j).1 = 2 then (if x < 0 ∨ (ar c j).2 ≤ x.toNatClampNeg then none else k (i + 1) lv r (sA σ c o j (upd (gA σ c o j) x.toNatClampNeg (vp_nar .byte v)))) else if (ar c j).1 = 3 then (if x < 0 ∨ (ar c j).2 ≤ x.toNatClampNeg then none else k (i + 1) lv r (sA σ c o j (upd (gA σ c o j) x.toNatClampNeg (vp_nar .boolean v)))) else none
  | 6 => aL st fun v r => aI r fun x r => aX r fun c o j r => if (ar c j).1 = 1 then (if x < 0 ∨ (ar c j).2 ≤ x.toNatClampNeg then none else k (i + 1) lv r (sB σ c o j (vp_updL (gB σ c o j) x.toNatClampNeg v))) else none
  | 7 => aX st fun c _ j r => if (ar c j).1 < 5 then k (i + 1) lv (vI (Int32.ofNat (ar c j).2) :: r) σ else none
  | _ => none
/-- fields -/
def st6 (k : KT) (i s a b : Nat) (lv : LV) (st : List AV) (σ : ST) : RS := aO st fun c o r => if c = a then (match s % 10 with
    | 0 => k (i + 1) lv (vI (gI σ a o b) :: r) σ
    | 1 => k (i + 1) lv (vI (gI σ a o b) :: r) σ
    | 2 => k (i + 1) lv (vR a o (b + 1) :: r) σ
    | 3 => k (i + 1) lv (.inr (.inr (sub a o b)) :: r) σ
    | 4 => k (i + 1) lv (vR 2 (gR σ a o b) 0 :: r) σ
    | 5 => k (i + 1) lv (vL (gL σ a o b) :: r) σ
    | _ => none) else none
def st7 (k : KT) (i s a b : Nat) (lv : LV) (st : List AV) (σ : ST) : RS := match s with
  | 0 => aI st fun v r => aO r fun c o r => if c = a then k (i + 1) lv r (sI σ a o b v) else none
  | 1 => aI st fun v r => aO r fun c o r => if c = a then (if v = 0 ∨ v = 1 then k (i + 1) lv r (sI σ a o b v) else none) else none
  | 4 => aO st fun d g r => aO r fun c o r => if c = a then (if d = 2 then k (i + 1) lv r (sR σ a o b g) else none) else none
  | 5 => aL st fun v r => aO r fun c o r => if c = a then k (i + 1) lv r (sL σ a o b v) else none
  | _ => none
/-- System.arraycopy of ints -/
def cpo (k : KT) (i : Nat) (lv : LV) (st : List AV) (σ : ST) : RS := aI st fun n r => aI r fun dp r => aX r fun c o j r => aI r fun sp r => aX r fun c0 o0 j0 r =>
    if (ar c j).1 = 0 ∧ (ar c0 j0).1 = 0 ∧ catS r ≤ 8 then
      (if sp < 0 ∨ dp < 0 ∨ n < 0 ∨ (ar c0 j0).2 < sp.toNatClampNeg + n.toNatClampNeg ∨ (ar c j).2 < dp.toNatClampNeg + n.toNatClampNeg then none
       else k (i + 1) lv r (sA σ c o j (va_cpy (gA σ c0 o0 j0) (gA σ c o j) sp.toNatClampNeg dp.toNatClampNeg n.toNatClampNeg))) else none
/-- calls: a receiver is of the method's own class -/
def rcv (s a : Nat) (as : List AV) : Bool := match s, as with
  | 0, .inr (.inr (c, _, 0)) :: _ => decide (c = mO a)
  | 0, _ => false
  | _, _ => true
def st8 (cal : CT) (k : KT) (i s a b : Nat) (lv : LV) (st : List AV) (σ : ST) : RS := if s = 4 then cpo k i lv st σ else match spl b st [] with
  | none => none
  | some (as, r) => if rcv s a as = true ∧ catS r ≤ 8 then (match cal a as σ with
    | none => none
    | some (v, σ') => k (i + 1) lv (v.toList ++ r) σ') else none
def aE (st : List AV) (x : RS) : RS := match st with
  | [] => x
  | _ => none
def st9 (s : Nat) (st : List AV) (σ : ST) : RS := match s with
  | 0 => aI st fun x r => aE r (some (some (vI x), σ))
  | 1 => aI st fun x r => aE r (if x = 0 ∨ x = 1 then some (some (vI x), σ) else none)
  | 2 => aL st fun x r => aE r (some (some (vL x), σ))
  | 3 => aR st fun t r => aE r (some (some (.inr (.inr t)), σ))
  | 4 => aE st (some (none, σ))
  | _ => none
/-- one step, then k -/
def stp (cal : CT) (k : KT) (i : Nat) (op : OP) (lv : LV) (st : List AV) (σ : ST) : RS := match op with
  | (0, s, _, im, a, _) => st0 k i s im a lv st σ
  | (1, s, _, _, _, _) => st1 k i s lv st σ
  | (2, s, _, _, _, _) => st2 k i s lv st σ
  | (3, s, _, _, _, _) => st3 k i s lv st σ
  | (4, s, _, im, a, b) => st4 k i s im a b lv st σ
  | (5, s, _, _, _, _) => st5 k i s lv st σ
  | (6, s, _, _, a, b) => st6 k i s a b lv st σ
  | (7, s, _, _, a, b) => st7 k i s a b lv st σ
  | (8, s, _, _, a, b) => st8 cal k i s a b lv st σ
  | (9, s, _, _, _, _) => st9 s st σ
  | _ => none
def ex (cal : CT) (C : List OP) : Nat → KT
  | 0 => fun _ _ _ _ => none
  | f + 1 => fun i lv st σ => match C[i]? with
    | none => none
    | some op => stp cal (ex cal C f) i op lv st σ
/-- a method, by fuel -/
def exM : Nat → CT
  | 0 => fun _ _ _ => none
  | f + 1 => fun M as σ => if (ent1 as).length ≤ mL M then ex (exM f) (cod M) (f + 1) 0 (ent M as) [] σ else none
