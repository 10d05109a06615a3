/-! ONE STEP OF A METHOD, AS AN EQUATION -/
theorem itc {c : Prop} [Decidable c] {A A' B B' : RS} (h1 : A = A') (h2 : B = B') : (if c then A else B) = (if c then A' else B') := by rw [h1, h2]
section STEPS
variable {C : List OP} {i pc a b : Nat} {im : Int} {lv : LV} {r : List AV} {σ : ST}
theorem r_at {op : OP} {st : List AV} (h : C[i]? = some op) : run C i lv st σ = stp den (run C) i op lv st σ := by rw [run_eq, h]
theorem r_ic {v : Int32} {st : List AV} (h : C[i]? = some (0, 0, pc, im, a, b)) (hv : Int32.ofInt im = v) : run C i lv st σ = run C (i + 1) lv (vI v :: st) σ := by subst hv; exact (r_at h).trans rfl
theorem r_lc {v : Int64} {st : List AV} (h : C[i]? = some (0, 1, pc, im, a, b)) (hv : Int64.ofInt im = v) : run C i lv st σ = run C (i + 1) lv (vL v :: st) σ := by subst hv; exact (r_at h).trans rfl
theorem r_il {x : Int32} {st : List AV} (h : C[i]? = some (0, 2, pc, im, a, b)) (hx : lv[a]? = some (some (vI x))) : run C i lv st σ = run C (i + 1) lv (vI x :: st) σ := by
  rw [r_at h]
  show lI lv a _ = _
  unfold lI
  rw [hx]
theorem r_ll {x : Int64} {st : List AV} (h : C[i]? = some (0, 3, pc, im, a, b)) (hx : lv[a]? = some (some (vL x))) : run C i lv st σ = run C (i + 1) lv (vL x :: st) σ := by
  rw [r_at h]
  show lL lv a _ = _
  unfold lL
  rw [hx]
theorem r_al {x : Nat × Nat × Nat} {st : List AV} (h : C[i]? = some (0, 4, pc, im, a, b)) (hx : lv[a]? = some (some (.inr (.inr x)))) : run C i lv st σ = run C (i + 1) lv (.inr (.inr x) :: st) σ := by
  rw [r_at h]
  show lR lv a _ = _
  unfold lR
  rw [hx]
theorem r_is {x : Int32} {lv' : LV} (h : C[i]? = some (0, 5, pc, im, a, b)) (hl : sto lv a (vI x) = lv') : run C i lv (vI x :: r) σ = run C (i + 1) lv' r σ := by subst hl; exact (r_at h).trans rfl
theorem r_ls {x : Int64} {lv' : LV} (h : C[i]? = some (0, 6, pc, im, a, b)) (hl : stoL lv a x = lv') : run C i lv (vL x :: r) σ = run C (i + 1) lv' r σ := by subst hl; exact (r_at h).trans rfl
theorem r_as {x : Nat × Nat × Nat} {lv' : LV} (h : C[i]? = some (0, 7, pc, im, a, b)) (hl : sto lv a (.inr (.inr x)) = lv') : run C i lv (.inr (.inr x) :: r) σ = run C (i + 1) lv' r σ := by subst hl; exact (r_at h).trans rfl
theorem r_ii {x v : Int32} {lv' : LV} {st : List AV} (h : C[i]? = some (0, 8, pc, im, a, b)) (hv : Int32.ofInt im = v) (hx : lv[a]? = some (some (vI x))) (hl : sto lv a (vI (x + v)) = lv') : run C i lv st σ = run C (i + 1) lv' st σ := by
  subst hv; subst hl
  rw [r_at h]
  show lI lv a _ = _
  unfold lI
  rw [hx]
theorem r_iadd {x y : Int32} (h : C[i]? = some (1, 0, pc, im, a, b))  : run C i lv (vI y :: vI x :: r) σ = run C (i + 1) lv (vI (x + y) :: r) σ := (r_at h).trans rfl
theorem r_isub {x y : Int32} (h : C[i]? = some (1, 1, pc, im, a, b))  : run C i lv (vI y :: vI x :: r) σ = run C (i + 1) lv (vI (x - y) :: r) σ := (r_at h).trans rfl
theorem r_imul {x y : Int32} (h : C[i]? = some (1, 2, pc, im, a, b))  : run C i lv (vI y :: vI x :: r) σ = run C (i + 1) lv (vI (x * y) :: r) σ := (r_at h).trans rfl
theorem r_iand {x y : Int32} (h : C[i]? = some (1, 3, pc, im, a, b))  : run C i lv (vI y :: vI x :: r) σ = run C (i + 1) lv (vI (x &&& y) :: r) σ := (r_at h).trans rfl
theorem r_ior {x y : Int32} (h : C[i]? = some (1, 4, pc, im, a, b))  : run C i lv (vI y :: vI x :: r) σ = run C (i + 1) lv (vI (x ||| y) :: r) σ := (r_at h).trans rfl
theorem r_ixor {x y : Int32} (h : C[i]? = some (1, 5, pc, im, a, b))  : run C i lv (vI y :: vI x :: r) σ = run C (i + 1) lv (vI (x ^^^ y) :: r) σ := (r_at h).trans rfl
theorem r_ishl {x y : Int32} (h : C[i]? = some (1, 6, pc, im, a, b))  : run C i lv (vI y :: vI x :: r) σ = run C (i + 1) lv (vI (x <<< (y &&& 31)) :: r) σ := (r_at h).trans rfl
theorem r_ishr {x y : Int32} (h : C[i]? = some (1, 7, pc, im, a, b))  : run C i lv (vI y :: vI x :: r) σ = run C (i + 1) lv (vI (x >>> (y &&& 31)) :: r) σ := (r_at h).trans rfl
theorem r_iushr {x y : Int32} (h : C[i]? = some (1, 8, pc, im, a, b))  : run C i lv (vI y :: vI x :: r) σ = run C (i + 1) lv (vI ((x.toUInt32 >>> (y.toUInt32 &&& Int32.toUInt32 31)).toInt32) :: r) σ := (r_at h).trans rfl
theorem r_idiv {x y : Int32} (h : C[i]? = some (1, 9, pc, im, a, b))  : run C i lv (vI y :: vI x :: r) σ = if y = 0 then none else run C (i + 1) lv (vI (x / y) :: r) σ := (r_at h).trans rfl
theorem r_irem {x y : Int32} (h : C[i]? = some (1, 10, pc, im, a, b))  : run C i lv (vI y :: vI x :: r) σ = if y = 0 then none else run C (i + 1) lv (vI (x - x / y * y) :: r) σ := (r_at h).trans rfl
theorem r_ineg {x : Int32} (h : C[i]? = some (1, 11, pc, im, a, b))  : run C i lv (vI x :: r) σ = run C (i + 1) lv (vI (-x) :: r) σ := (r_at h).trans rfl
theorem r_i2l {x : Int32} (h : C[i]? = some (1, 12, pc, im, a, b))  : run C i lv (vI x :: r) σ = run C (i + 1) lv (vL x.toInt64 :: r) σ := (r_at h).trans rfl
theorem r_l2i {x : Int64} (h : C[i]? = some (1, 13, pc, im, a, b))  : run C i lv (vL x :: r) σ = run C (i + 1) lv (vI x.toInt32 :: r) σ := (r_at h).trans rfl
theorem r_i2b {x : Int32} (h : C[i]? = some (1, 14, pc, im, a, b))  : run C i lv (vI x :: r) σ = run C (i + 1) lv (vI x.toInt8.toInt32 :: r) σ := (r_at h).trans rfl
theorem r_ladd {x y : Int64} (h : C[i]? = some (2, 0, pc, im, a, b))  : run C i lv (vL y :: vL x :: r) σ = run C (i + 1) lv (vL (x + y) :: r) σ := (r_at h).trans rfl
theorem r_lsub {x y : Int64} (h : C[i]? = some (2, 1, pc, im, a, b))  : run C i lv (vL y :: vL x :: r) σ = run C (i + 1) lv (vL (x - y) :: r) σ := (r_at h).trans rfl
theorem r_lmul {x y : Int64} (h : C[i]? = some (2, 2, pc, im, a, b))  : run C i lv (vL y :: vL x :: r) σ = run C (i + 1) lv (vL (x * y) :: r) σ := (r_at h).trans rfl
theorem r_land {x y : Int64} (h : C[i]? = some (2, 3, pc, im, a, b))  : run C i lv (vL y :: vL x :: r) σ = run C (i + 1) lv (vL (x &&& y) :: r) σ := (r_at h).trans rfl
theorem r_ldiv {x y : Int64} (h : C[i]? = some (2, 4, pc, im, a, b))  : run C i lv (vL y :: vL x :: r) σ = if y = 0 then none else run C (i + 1) lv (vL (x / y) :: r) σ := (r_at h).trans rfl
theorem r_lrem {x y : Int64} (h : C[i]? = some (2, 5, pc, im, a, b))  : run C i lv (vL y :: vL x :: r) σ = if y = 0 then none else run C (i + 1) lv (vL (x - x / y * y) :: r) σ := (r_at h).trans rfl
theorem r_lneg {x : Int64} (h : C[i]? = some (2, 6, pc, im, a, b))  : run C i lv (vL x :: r) σ = run C (i + 1) lv (vL (-x) :: r) σ := (r_at h).trans rfl
theorem r_lcmp {x y : Int64} (h : C[i]? = some (2, 7, pc, im, a, b))  : run C i lv (vL y :: vL x :: r) σ = run C (i + 1) lv (vI (lg_cmp x y) :: r) σ := (r_at h).trans rfl
theorem r_dupi {x : Int32} (h : C[i]? = some (3, 0, pc, im, a, b))  : run C i lv (vI x :: r) σ = run C (i + 1) lv (vI x :: vI x :: r) σ := (r_at h).trans rfl
theorem r_dupr {x : Nat × Nat × Nat} (h : C[i]? = some (3, 0, pc, im, a, b))  : run C i lv (.inr (.inr x) :: r) σ = run C (i + 1) lv (.inr (.inr x) :: .inr (.inr x) :: r) σ := (r_at h).trans rfl
theorem r_dup2 {x : Int32} {t : Nat × Nat × Nat} (h : C[i]? = some (3, 1, pc, im, a, b))  : run C i lv (vI x :: .inr (.inr t) :: r) σ = run C (i + 1) lv (vI x :: .inr (.inr t) :: vI x :: .inr (.inr t) :: r) σ := (r_at h).trans rfl
theorem r_popi {x : Int32} (h : C[i]? = some (3, 2, pc, im, a, b))  : run C i lv (vI x :: r) σ = run C (i + 1) lv r σ := (r_at h).trans rfl
theorem r_ifeq {x : Int32} (h : C[i]? = some (4, 0, pc, im, a, b))  : run C i lv (vI x :: r) σ = if x = 0 then run C a lv r σ else run C (i + 1) lv r σ := (r_at h).trans rfl
theorem r_ifne {x : Int32} (h : C[i]? = some (4, 1, pc, im, a, b))  : run C i lv (vI x :: r) σ = if x = 0 then run C (i + 1) lv r σ else run C a lv r σ := (r_at h).trans rfl
theorem r_iflt {x : Int32} (h : C[i]? = some (4, 2, pc, im, a, b))  : run C i lv (vI x :: r) σ = if x < 0 then run C a lv r σ else run C (i + 1) lv r σ := (r_at h).trans rfl
theorem r_ifge {x : Int32} (h : C[i]? = some (4, 3, pc, im, a, b))  : run C i lv (vI x :: r) σ = if x < 0 then run C (i + 1) lv r σ else run C a lv r σ := (r_at h).trans rfl
theorem r_ifgt {x : Int32} (h : C[i]? = some (4, 4, pc, im, a, b))  : run C i lv (vI x :: r) σ = if 0 < x then run C a lv r σ else run C (i + 1) lv r σ := (r_at h).trans rfl
theorem r_ifle {x : Int32} (h : C[i]? = some (4, 5, pc, im, a, b))  : run C i lv (vI x :: r) σ = if 0 < x then run C (i + 1) lv r σ else run C a lv r σ := (r_at h).trans rfl
theorem r_iceq {x y : Int32} (h : C[i]? = some (4, 6, pc, im, a, b))  : run C i lv (vI y :: vI x :: r) σ = if x = y then run C a lv r σ else run C (i + 1) lv r σ := (r_at h).trans rfl
theorem r_icne {x y : Int32} (h : C[i]? = some (4, 7, pc, im, a, b))  : run C i lv (vI y :: vI x :: r) σ = if x = y then run C (i + 1) lv r σ else run C a lv r σ := (r_at h).trans rfl
theorem r_iclt {x y : Int32} (h : C[i]? = some (4, 8, pc, im, a, b))  : run C i lv (vI y :: vI x :: r) σ = if x < y then run C a lv r σ else run C (i + 1) lv r σ := (r_at h).trans rfl
theorem r_icge {x y : Int32} (h : C[i]? = some (4, 9, pc, im, a, b))  : run C i lv (vI y :: vI x :: r) σ = if x < y then run C (i + 1) lv r σ else run C a lv r σ := (r_at h).trans rfl
theorem r_icgt {x y : Int32} (h : C[i]? = some (4, 10, pc, im, a, b))  : run C i lv (vI y :: vI x :: r) σ = if y < x then run C a lv r σ else run C (i + 1) lv r σ := (r_at h).trans rfl
theorem r_icle {x y : Int32} (h : C[i]? = some (4, 11, pc, im, a, b))  : run C i lv (vI y :: vI x :: r) σ = if y < x then run C (i + 1) lv r σ else run C a lv r σ := (r_at h).trans rfl
theorem r_go {st : List AV} (h : C[i]? = some (4, 12, pc, im, a, b))  : run C i lv st σ = run C a lv st σ := (r_at h).trans rfl
theorem r_sw {x : Int32} {ts : List Nat} (h : C[i]? = some (4, 13, pc, im, a, b)) (ht : (sw b).1 = ts) : run C i lv (vI x :: r) σ = tsw (run C) lv r σ x a ts im := by subst ht; exact (r_at h).trans rfl
theorem r_sn {lv : LV} {st : List AV} {σ : ST} {x : Int32} {d : Nat} {n : Int} : tsw (run C) lv st σ x d [] n = run C d lv st σ := rfl
theorem r_sc {lv : LV} {st : List AV} {σ : ST} {x v : Int32} {d t : Nat} {ts : List Nat} {n : Int} (hv : Int32.ofInt n = v) : tsw (run C) lv st σ x d (t :: ts) n = if x = v then run C t lv st σ else tsw (run C) lv st σ x d ts (n + 1) := by subst hv; rfl
theorem r_iald {x : Int32} {c o j n : Nat}  (h : C[i]? = some (5, 0, pc, im, a, b)) (ha : ar c j = (0, n)) : run C i lv (vI x :: vR c o (j + 1) :: r) σ = if x < 0 ∨ n ≤ x.toNatClampNeg then none else run C (i + 1) lv (vI (gA σ c o j x.toNatClampNeg) :: r) σ := by
  have h1 : (ar c j).1 = 0 := by rw [ha]
  have h2 : (ar c j).2 = n := by rw [ha]
  subst h2
  rw [r_at h]
  exact if_pos h1
theorem r_bald {x : Int32} {c o j n : Nat}  (h : C[i]? = some (5, 1, pc, im, a, b)) (ha : ar c j = (2, n)) : run C i lv (vI x :: vR c o (j + 1) :: r) σ = if x < 0 ∨ n ≤ x.toNatClampNeg then none else run C (i + 1) lv (vI (gA σ c o j x.toNatClampNeg) :: r) σ := by
  have h1 : (ar c j).1 = 2 := by rw [ha]
  have h2 : (ar c j).2 = n := by rw [ha]
  subst h2
  rw [r_at h]
  exact if_pos (Or.inl h1)
theorem r_zald {x : Int32} {c o j n : Nat}  (h : C[i]? = some (5, 1, pc, im, a, b)) (ha : ar c j = (3, n)) : run C i lv (vI x :: vR c o (j + 1) :: r) σ = if x < 0 ∨ n ≤ x.toNatClampNeg then none else run C (i + 1) lv (vI (gA σ c o j x.toNatClampNeg) :: r) σ := by
  have h1 : (ar c j).1 = 3 := by rw [ha]
  have h2 : (ar c j).2 = n := by rw [ha]
  subst h2
  rw [r_at h]
  exact if_pos (Or.inr h1)
theorem r_lald {x : Int32} {c o j n : Nat}  (h : C[i]? = some (5, 2, pc, im, a, b)) (ha : ar c j = (1, n)) : run C i lv (vI x :: vR c o (j + 1) :: r) σ = if x < 0 ∨ n ≤ x.toNatClampNeg then none else run C (i + 1) lv (vL (gB σ c o j x.toNatClampNeg) :: r) σ := by
  have h1 : (ar c j).1 = 1 := by rw [ha]
  have h2 : (ar c j).2 = n := by rw [ha]
  subst h2
  rw [r_at h]
  exact if_pos h1
theorem r_aald {x : Int32} {c o j n : Nat}  (h : C[i]? = some (5, 3, pc, im, a, b)) (ha : ar c j = (4, n)) : run C i lv (vI x :: vR c o (j + 1) :: r) σ = if x < 0 ∨ n ≤ x.toNatClampNeg then none else run C (i + 1) lv (vR 3 (3 * o + x.toNatClampNeg) 0 :: r) σ := by
  have h1 : (ar c j).1 = 4 := by rw [ha]
  have h2 : (ar c j).2 = n := by rw [ha]
  subst h2
  rw [r_at h]
  exact if_pos h1
theorem r_iast {x : Int32} {c o j n : Nat} {v : Int32} (h : C[i]? = some (5, 4, pc, im, a, b)) (ha : ar c j = (0, n)) : run C i lv (vI v :: vI x :: vR c o (j + 1) :: r) σ = if x < 0 ∨ n ≤ x.toNatClampNeg then none else run C (i + 1) lv r (sA σ c o j (upd (gA σ c o j) x.toNatClampNeg v)) := by
  have h1 : (ar c j).1 = 0 := by rw [ha]
  have h2 : (ar c j).2 = n := by rw [ha]
  subst h2
  rw [r_at h]
  exact if_pos h1
theorem r_bast {x : Int32} {c o j n : Nat} {v : Int32} (h : C[i]? = some (5, 5, pc, im, a, b)) (ha : ar c j = (2, n)) : run C i lv (vI v :: vI x :: vR c o (j + 1) :: r) σ = if x < 0 ∨ n ≤ x.toNatClampNeg then none else run C (i + 1) lv r (sA σ c o j (upd (gA σ c o j) x.toNatClampNeg (vp_nar .byte v))) := by
  have h1 : (ar c j).1 = 2 := by rw [ha]
  have h2 : (ar c j).2 = n := by rw [ha]
  subst h2
  rw [r_at h]
  exact if_pos h1
theorem r_zast {x : Int32} {c o j n : Nat} {v : Int32} (h : C[i]? = some (5, 5, pc, im, a, b)) (ha : ar c j = (3, n)) : run C i lv (vI v :: vI x :: vR c o (j + 1) :: r) σ = if x < 0 ∨ n ≤ x.toNatClampNeg then none else run C (i + 1) lv r (sA σ c o j (upd (gA σ c o j) x.toNatClampNeg (vp_nar .boolean v))) := by
  have h1 : (ar c j).1 = 3 := by rw [ha]
  have h2 : (ar c j).2 = n := by rw [ha]
  subst h2
  rw [r_at h]
  exact (if_neg (by rw [h1]; decide)).trans (if_pos h1)
theorem r_last {x : Int32} {c o j n : Nat} {v : Int64} (h : C[i]? = some (5, 6, pc, im, a, b)) (ha : ar c j = (1, n)) : run C i lv (vL v :: vI x :: vR c o (j + 1) :: r) σ = if x < 0 ∨ n ≤ x.toNatClampNeg then none else run C (i + 1) lv r (sB σ c o j (vp_updL (gB σ c o j) x.toNatClampNeg v)) := by
  have h1 : (ar c j).1 = 1 := by rw [ha]
  have h2 : (ar c j).2 = n := by rw [ha]
  subst h2
  rw [r_at h]
  exact if_pos h1
theorem r_ialdv {x : Int32} {c o j : Nat} (h : C[i]? = some (5, 0, pc, im, a, b))  : run C i lv (vI x :: vR c o (j + 1) :: r) σ = if (ar c j).1 = 0 then (if x < 0 ∨ (ar c j).2 ≤ x.toNatClampNeg then none else run C (i + 1) lv (vI (gA σ c o j x.toNatClampNeg) :: r) σ) else none := (r_at h).trans rfl
theorem r_iastv {x v : Int32} {c o j : Nat} (h : C[i]? = some (5, 4, pc, im, a, b))  : run C i lv (vI v :: vI x :: vR c o (j + 1) :: r) σ = if (ar c j).1 = 0 then (if x < 0 ∨ (ar c j).2 ≤ x.toNatClampNeg then none else run C (i + 1) lv r (sA σ c o j (upd (gA σ c o j) x.toNatClampNeg v))) else none := (r_at h).trans rfl
theorem r_alen {c o j n : Nat} {v : Int32} {d : Nat} (h : C[i]? = some (5, 7, pc, im, a, b)) (ha : ar c j = (d, n)) (hd : d < 5) (hv : Int32.ofNat n = v) : run C i lv (vR c o (j + 1) :: r) σ = run C (i + 1) lv (vI v :: r) σ := by
  have h1 : (ar c j).1 = d := by rw [ha]
  have h2 : (ar c j).2 = n := by rw [ha]
  subst hv
  subst h2
  rw [r_at h]
  exact if_pos (by rw [h1]; exact hd)
theorem r_gi {o : Nat} (h : C[i]? = some (6, 0, pc, im, a, b))  : run C i lv (vR a o 0 :: r) σ = run C (i + 1) lv (vI (gI σ a o b) :: r) σ := (r_at h).trans (if_pos rfl)
theorem r_gz {o : Nat} (h : C[i]? = some (6, 1, pc, im, a, b))  : run C i lv (vR a o 0 :: r) σ = run C (i + 1) lv (vI (gI σ a o b) :: r) σ := (r_at h).trans (if_pos rfl)
theorem r_ga {o : Nat} (h : C[i]? = some (6, 2, pc, im, a, b))  : run C i lv (vR a o 0 :: r) σ = run C (i + 1) lv (vR a o (b + 1) :: r) σ := (r_at h).trans (if_pos rfl)
theorem r_gs {o : Nat} {t : Nat × Nat × Nat} (h : C[i]? = some (6, 3, pc, im, a, b)) (ht : sub a o b = t) : run C i lv (vR a o 0 :: r) σ = run C (i + 1) lv (.inr (.inr t) :: r) σ := by subst ht; exact (r_at h).trans (if_pos rfl)
theorem r_gg {o : Nat} (h : C[i]? = some (6, 4, pc, im, a, b))  : run C i lv (vR a o 0 :: r) σ = run C (i + 1) lv (vR 2 (gR σ a o b) 0 :: r) σ := (r_at h).trans (if_pos rfl)
theorem r_ggn {o : Nat} (h : C[i]? = some (6, 14, pc, im, a, b))  : run C i lv (vR a o 0 :: r) σ = run C (i + 1) lv (vR 2 (gR σ a o b) 0 :: r) σ := (r_at h).trans (if_pos rfl)
theorem r_gl {o : Nat} (h : C[i]? = some (6, 5, pc, im, a, b))  : run C i lv (vR a o 0 :: r) σ = run C (i + 1) lv (vL (gL σ a o b) :: r) σ := (r_at h).trans (if_pos rfl)
theorem r_pi {v : Int32} {o : Nat} (h : C[i]? = some (7, 0, pc, im, a, b))  : run C i lv (vI v :: vR a o 0 :: r) σ = run C (i + 1) lv r (sI σ a o b v) := (r_at h).trans (if_pos rfl)
theorem r_pz {v : Int32} {o : Nat} (h : C[i]? = some (7, 1, pc, im, a, b))  : run C i lv (vI v :: vR a o 0 :: r) σ = if v = 0 ∨ v = 1 then run C (i + 1) lv r (sI σ a o b v) else none := (r_at h).trans (if_pos rfl)
theorem r_pg {g o : Nat} (h : C[i]? = some (7, 4, pc, im, a, b))  : run C i lv (vR 2 g 0 :: vR a o 0 :: r) σ = run C (i + 1) lv r (sR σ a o b g) := (r_at h).trans ((if_pos rfl).trans (if_pos rfl))
theorem r_pl {v : Int64} {o : Nat} (h : C[i]? = some (7, 5, pc, im, a, b))  : run C i lv (vL v :: vR a o 0 :: r) σ = run C (i + 1) lv r (sL σ a o b v) := (r_at h).trans (if_pos rfl)
theorem r_cp {n dp sp : Int32} {c o j c0 o0 j0 m m0 : Nat} (h : C[i]? = some (8, 4, pc, im, a, b)) (h1 : ar c j = (0, m)) (h0 : ar c0 j0 = (0, m0)) (hc : catS r ≤ 8) : run C i lv (vI n :: vI dp :: vR c o (j + 1) :: vI sp :: vR c0 o0 (j0 + 1) :: r) σ = if sp < 0 ∨ dp < 0 ∨ n < 0 ∨ m0 < sp.toNatClampNeg + n.toNatClampNeg ∨ m < dp.toNatClampNeg + n.toNatClampNeg then none else run C (i + 1) lv r (sA σ c o j (va_cpy (gA σ c0 o0 j0) (gA σ c o j) sp.toNatClampNeg dp.toNatClampNeg n.toNatClampNeg)) := by
  have e1 : (ar c j).2 = m := by rw [h1]
  have e2 : (ar c0 j0).2 = m0 := by rw [h0]
  subst e1
  subst e2
  rw [r_at h]
  exact if_pos ⟨by rw [h1], by rw [h0], hc⟩
theorem r_call {s : Nat} {st as : List AV} (h : C[i]? = some (8, s, pc, im, a, b)) (hs : s ≠ 4) (hsp : spl b st [] = some (as, r)) (hr : rcv s a as = true) (hc : catS r ≤ 8) : run C i lv st σ = bnd (den a as σ) fun v τ => run C (i + 1) lv (v.toList ++ r) τ := by
  rw [r_at h]
  show (if s = 4 then cpo (run C) i lv st σ else match spl b st [] with
    | none => none
    | some (as, r) => if rcv s a as = true ∧ catS r ≤ 8 then (match den a as σ with
      | none => none
      | some (v, σ') => run C (i + 1) lv (v.toList ++ r) σ') else none) = _
  rw [if_neg hs, hsp]
  exact if_pos ⟨hr, hc⟩
theorem r_c0 {st as : List AV} (h : C[i]? = some (8, 0, pc, im, a, b)) (hsp : spl b st [] = some (as, r)) (hr : rcv 0 a as = true) (hc : Nat.ble (catS r) 8 = true) : run C i lv st σ = bnd (den a as σ) fun v τ => run C (i + 1) lv (v.toList ++ r) τ := r_call h (by decide) hsp hr (Nat.le_of_ble_eq_true hc)
theorem r_c1 {st as : List AV} (h : C[i]? = some (8, 1, pc, im, a, b)) (hsp : spl b st [] = some (as, r)) (hr : rcv 1 a as = true) (hc : Nat.ble (catS r) 8 = true) : run C i lv st σ = bnd (den a as σ) fun v τ => run C (i + 1) lv (v.toList ++ r) τ := r_call h (by decide) hsp hr (Nat.le_of_ble_eq_true hc)
theorem r_c3 {st as : List AV} (h : C[i]? = some (8, 3, pc, im, a, b)) (hsp : spl b st [] = some (as, r)) (hr : rcv 3 a as = true) (hc : Nat.ble (catS r) 8 = true) : run C i lv st σ = bnd (den a as σ) fun v τ => run C (i + 1) lv (v.toList ++ r) τ := r_call h (by decide) hsp hr (Nat.le_of_ble_eq_true hc)
theorem r_ri {x : Int32} (h : C[i]? = some (9, 0, pc, im, a, b))  : run C i lv [vI x] σ = some (some (vI x), σ) := (r_at h).trans rfl
theorem r_rz {x : Int32} (h : C[i]? = some (9, 1, pc, im, a, b))  : run C i lv [vI x] σ = if x = 0 ∨ x = 1 then some (some (vI x), σ) else none := (r_at h).trans rfl
theorem r_rl {x : Int64} (h : C[i]? = some (9, 2, pc, im, a, b))  : run C i lv [vL x] σ = some (some (vL x), σ) := (r_at h).trans rfl
theorem r_ra {t : Nat × Nat × Nat} (h : C[i]? = some (9, 3, pc, im, a, b))  : run C i lv [.inr (.inr t)] σ = some (some (.inr (.inr t)), σ) := (r_at h).trans rfl
theorem r_rv  (h : C[i]? = some (9, 4, pc, im, a, b))  : run C i lv [] σ = some (none, σ) := (r_at h).trans rfl
end STEPS
theorem ci_m99 : Int32.ofInt (-99) = (-99) := by decide
theorem ci_m9 : Int32.ofInt (-9) = (-9) := by decide
theorem ci_m8 : Int32.ofInt (-8) = (-8) := by decide
theorem ci_m5 : Int32.ofInt (-5) = (-5) := by decide
theorem ci_m2 : Int32.ofInt (-2) = (-2) := by decide
theorem ci_m1 : Int32.ofInt (-1) = (-1) := by decide
theorem ci_0 : Int32.ofInt (0) = 0 := by decide
theorem ci_1 : Int32.ofInt (1) = 1 := by decide
theorem ci_2 : Int32.ofInt (2) = 2 := by decide
theorem ci_3 : Int32.ofInt (3) = 3 := by decide
theorem ci_4 : Int32.ofInt (4) = 4 := by decide
theorem ci_5 : Int32.ofInt (5) = 5 := by decide
theorem ci_6 : Int32.ofInt (6) = 6 := by decide
theorem ci_7 : Int32.ofInt (7) = 7 := by decide
theorem ci_8 : Int32.ofInt (8) = 8 := by decide
theorem ci_9 : Int32.ofInt (9) = 9 := by decide
theorem ci_10 : Int32.ofInt (10) = 10 := by decide
theorem ci_11 : Int32.ofInt (11) = 11 := by decide
theorem ci_12 : Int32.ofInt (12) = 12 := by decide
theorem ci_13 : Int32.ofInt (13) = 13 := by decide
theorem ci_14 : Int32.ofInt (14) = 14 := by decide
theorem ci_15 : Int32.ofInt (15) = 15 := by decide
theorem ci_16 : Int32.ofInt (16) = 16 := by decide
theorem ci_17 : Int32.ofInt (17) = 17 := by decide
theorem ci_18 : Int32.ofInt (18) = 18 := by decide
theorem ci_19 : Int32.ofInt (19) = 19 := by decide
theorem ci_20 : Int32.ofInt (20) = 20 := by decide
theorem ci_21 : Int32.ofInt (21) = 21 := by decide
theorem ci_22 : Int32.ofInt (22) = 22 := by decide
theorem ci_23 : Int32.ofInt (23) = 23 := by decide
theorem ci_24 : Int32.ofInt (24) = 24 := by decide
theorem ci_25 : Int32.ofInt (25) = 25 := by decide
theorem ci_26 : Int32.ofInt (26) = 26 := by decide
theorem ci_27 : Int32.ofInt (27) = 27 := by decide
theorem ci_28 : Int32.ofInt (28) = 28 := by decide
theorem ci_29 : Int32.ofInt (29) = 29 := by decide
theorem ci_30 : Int32.ofInt (30) = 30 := by decide
theorem ci_31 : Int32.ofInt (31) = 31 := by decide
theorem ci_32 : Int32.ofInt (32) = 32 := by decide
theorem ci_33 : Int32.ofInt (33) = 33 := by decide
theorem ci_34 : Int32.ofInt (34) = 34 := by decide
theorem ci_35 : Int32.ofInt (35) = 35 := by decide
theorem ci_36 : Int32.ofInt (36) = 36 := by decide
theorem ci_37 : Int32.ofInt (37) = 37 := by decide
theorem ci_38 : Int32.ofInt (38) = 38 := by decide
theorem ci_39 : Int32.ofInt (39) = 39 := by decide
theorem ci_40 : Int32.ofInt (40) = 40 := by decide
theorem ci_41 : Int32.ofInt (41) = 41 := by decide
theorem ci_42 : Int32.ofInt (42) = 42 := by decide
theorem ci_43 : Int32.ofInt (43) = 43 := by decide
theorem ci_44 : Int32.ofInt (44) = 44 := by decide
theorem ci_45 : Int32.ofInt (45) = 45 := by decide
theorem ci_46 : Int32.ofInt (46) = 46 := by decide
theorem ci_47 : Int32.ofInt (47) = 47 := by decide
theorem ci_48 : Int32.ofInt (48) = 48 := by decide
theorem ci_49 : Int32.ofInt (49) = 49 := by decide
theorem ci_50 : Int32.ofInt (50) = 50 := by decide
theorem ci_51 : Int32.ofInt (51) = 51 := by decide
theorem ci_52 : Int32.ofInt (52) = 52 := by decide
theorem ci_53 : Int32.ofInt (53) = 53 := by decide
theorem ci_54 : Int32.ofInt (54) = 54 := by decide
theorem ci_55 : Int32.ofInt (55) = 55 := by decide
theorem ci_56 : Int32.ofInt (56) = 56 := by decide
theorem ci_57 : Int32.ofInt (57) = 57 := by decide
theorem ci_58 : Int32.ofInt (58) = 58 := by decide
theorem ci_59 : Int32.ofInt (59) = 59 := by decide
theorem ci_60 : Int32.ofInt (60) = 60 := by decide
theorem ci_61 : Int32.ofInt (61) = 61 := by decide
theorem ci_62 : Int32.ofInt (62) = 62 := by decide
theorem ci_63 : Int32.ofInt (63) = 63 := by decide
theorem ci_64 : Int32.ofInt (64) = 64 := by decide
theorem ci_65 : Int32.ofInt (65) = 65 := by decide
theorem ci_66 : Int32.ofInt (66) = 66 := by decide
theorem ci_67 : Int32.ofInt (67) = 67 := by decide
theorem ci_68 : Int32.ofInt (68) = 68 := by decide
theorem ci_69 : Int32.ofInt (69) = 69 := by decide
theorem ci_70 : Int32.ofInt (70) = 70 := by decide
theorem ci_71 : Int32.ofInt (71) = 71 := by decide
theorem ci_72 : Int32.ofInt (72) = 72 := by decide
theorem ci_73 : Int32.ofInt (73) = 73 := by decide
theorem ci_74 : Int32.ofInt (74) = 74 := by decide
theorem ci_75 : Int32.ofInt (75) = 75 := by decide
theorem ci_76 : Int32.ofInt (76) = 76 := by decide
theorem ci_77 : Int32.ofInt (77) = 77 := by decide
theorem ci_78 : Int32.ofInt (78) = 78 := by decide
theorem ci_79 : Int32.ofInt (79) = 79 := by decide
theorem ci_80 : Int32.ofInt (80) = 80 := by decide
theorem ci_81 : Int32.ofInt (81) = 81 := by decide
theorem ci_82 : Int32.ofInt (82) = 82 := by decide
theorem ci_83 : Int32.ofInt (83) = 83 := by decide
theorem ci_84 : Int32.ofInt (84) = 84 := by decide
theorem ci_85 : Int32.ofInt (85) = 85 := by decide
theorem ci_86 : Int32.ofInt (86) = 86 := by decide
theorem ci_87 : Int32.ofInt (87) = 87 := by decide
theorem ci_88 : Int32.ofInt (88) = 88 := by decide
theorem ci_89 : Int32.ofInt (89) = 89 := by decide
theorem ci_90 : Int32.ofInt (90) = 90 := by decide
theorem ci_91 : Int32.ofInt (91) = 91 := by decide
theorem ci_92 : Int32.ofInt (92) = 92 := by decide
theorem ci_93 : Int32.ofInt (93) = 93 := by decide
theorem ci_94 : Int32.ofInt (94) = 94 := by decide
theorem ci_95 : Int32.ofInt (95) = 95 := by decide
theorem ci_96 : Int32.ofInt (96) = 96 := by decide
theorem ci_97 : Int32.ofInt (97) = 97 := by decide
theorem ci_98 : Int32.ofInt (98) = 98 := by decide
theorem ci_99 : Int32.ofInt (99) = 99 := by decide
theorem ci_100 : Int32.ofInt (100) = 100 := by decide
theorem ci_101 : Int32.ofInt (101) = 101 := by decide
theorem ci_102 : Int32.ofInt (102) = 102 := by decide
theorem ci_103 : Int32.ofInt (103) = 103 := by decide
theorem ci_104 : Int32.ofInt (104) = 104 := by decide
theorem ci_105 : Int32.ofInt (105) = 105 := by decide
theorem ci_106 : Int32.ofInt (106) = 106 := by decide
theorem ci_107 : Int32.ofInt (107) = 107 := by decide
theorem ci_108 : Int32.ofInt (108) = 108 := by decide
theorem ci_109 : Int32.ofInt (109) = 109 := by decide
theorem ci_110 : Int32.ofInt (110) = 110 := by decide
theorem ci_111 : Int32.ofInt (111) = 111 := by decide
theorem ci_112 : Int32.ofInt (112) = 112 := by decide
theorem ci_113 : Int32.ofInt (113) = 113 := by decide
theorem ci_114 : Int32.ofInt (114) = 114 := by decide
theorem ci_115 : Int32.ofInt (115) = 115 := by decide
theorem ci_116 : Int32.ofInt (116) = 116 := by decide
theorem ci_117 : Int32.ofInt (117) = 117 := by decide
theorem ci_118 : Int32.ofInt (118) = 118 := by decide
theorem ci_119 : Int32.ofInt (119) = 119 := by decide
theorem ci_120 : Int32.ofInt (120) = 120 := by decide
theorem ci_121 : Int32.ofInt (121) = 121 := by decide
theorem ci_122 : Int32.ofInt (122) = 122 := by decide
theorem ci_123 : Int32.ofInt (123) = 123 := by decide
theorem ci_124 : Int32.ofInt (124) = 124 := by decide
theorem ci_125 : Int32.ofInt (125) = 125 := by decide
theorem ci_126 : Int32.ofInt (126) = 126 := by decide
theorem ci_127 : Int32.ofInt (127) = 127 := by decide
theorem ci_128 : Int32.ofInt (128) = 128 := by decide
theorem ci_129 : Int32.ofInt (129) = 129 := by decide
theorem ci_255 : Int32.ofInt (255) = 255 := by decide
theorem ci_456 : Int32.ofInt (456) = 456 := by decide
theorem ci_700 : Int32.ofInt (700) = 700 := by decide
theorem ci_720 : Int32.ofInt (720) = 720 := by decide
theorem ci_999 : Int32.ofInt (999) = 999 := by decide
theorem ci_9000 : Int32.ofInt (9000) = 9000 := by decide
theorem ci_9999 : Int32.ofInt (9999) = 9999 := by decide
theorem ci_10000 : Int32.ofInt (10000) = 10000 := by decide
theorem ci_20000 : Int32.ofInt (20000) = 20000 := by decide
theorem ci_20002 : Int32.ofInt (20002) = 20002 := by decide
theorem ci_99999 : Int32.ofInt (99999) = 99999 := by decide
theorem ci_1000000 : Int32.ofInt (1000000) = 1000000 := by decide
theorem ci_252645135 : Int32.ofInt (252645135) = 252645135 := by decide
theorem ci_858993459 : Int32.ofInt (858993459) = 858993459 := by decide
theorem ci_1431655765 : Int32.ofInt (1431655765) = 1431655765 := by decide
theorem cj_m9223372036854775808 : Int64.ofInt (-9223372036854775808) = (-9223372036854775808) := by decide
theorem cj_m1000000000000 : Int64.ofInt (-1000000000000) = (-1000000000000) := by decide
theorem cj_m9 : Int64.ofInt (-9) = (-9) := by decide
theorem cj_0 : Int64.ofInt (0) = 0 := by decide
theorem cj_1 : Int64.ofInt (1) = 1 := by decide
theorem cj_9 : Int64.ofInt (9) = 9 := by decide
theorem cj_9999 : Int64.ofInt (9999) = 9999 := by decide
theorem cj_12345 : Int64.ofInt (12345) = 12345 := by decide
theorem cj_65536 : Int64.ofInt (65536) = 65536 := by decide
theorem cj_1103515245 : Int64.ofInt (1103515245) = 1103515245 := by decide
theorem cj_2147483647 : Int64.ofInt (2147483647) = 2147483647 := by decide
theorem cj_1000000000000 : Int64.ofInt (1000000000000) = 1000000000000 := by decide
