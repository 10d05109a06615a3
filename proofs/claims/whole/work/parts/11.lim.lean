/-! THE LIMIT: methods as functions without fuel, and their equations -/
def Lim (x : Nat → RS) (y : RS) : Prop := (∀ n r, x n = some r → y = some r) ∧ ∀ r, y = some r → ∃ n, ∀ m, n ≤ m → x m = some r
theorem Lim.c (y : RS) : Lim (fun _ => y) y := ⟨fun _ _ h => h, fun _ h => ⟨0, fun _ _ => h⟩⟩
theorem Lim.i {c : Prop} [Decidable c] {x x' : Nat → RS} {y y' : RS} (h : Lim x y) (h' : Lim x' y') : Lim (fun n => if c then x n else x' n) (if c then y else y') := by
  by_cases hc : c
  · simp only [if_pos hc]; exact h
  · simp only [if_neg hc]; exact h'
theorem Lim.aI {st : List AV} {f : Nat → Int32 → List AV → RS} {g : Int32 → List AV → RS} (h : ∀ x r, Lim (fun n => f n x r) (g x r)) : Lim (fun n => aI st (f n)) (aI st g) := by
  match st with
  | .inl x :: r => exact h x r
  | [] => exact Lim.c none
  | .inr _ :: _ => exact Lim.c none
theorem Lim.aL {st : List AV} {f : Nat → Int64 → List AV → RS} {g : Int64 → List AV → RS} (h : ∀ x r, Lim (fun n => f n x r) (g x r)) : Lim (fun n => aL st (f n)) (aL st g) := by
  match st with
  | .inr (.inl x) :: r => exact h x r
  | [] => exact Lim.c none
  | .inl _ :: _ => exact Lim.c none
  | .inr (.inr _) :: _ => exact Lim.c none
theorem Lim.aR {st : List AV} {f : Nat → Nat × Nat × Nat → List AV → RS} {g : Nat × Nat × Nat → List AV → RS} (h : ∀ x r, Lim (fun n => f n x r) (g x r)) : Lim (fun n => aR st (f n)) (aR st g) := by
  match st with
  | .inr (.inr x) :: r => exact h x r
  | [] => exact Lim.c none
  | .inl _ :: _ => exact Lim.c none
  | .inr (.inl _) :: _ => exact Lim.c none
theorem Lim.aO {st : List AV} {f : Nat → Nat → Nat → List AV → RS} {g : Nat → Nat → List AV → RS} (h : ∀ c o r, Lim (fun n => f n c o r) (g c o r)) : Lim (fun n => aO st (f n)) (aO st g) := by
  match st with
  | .inr (.inr (c, o, 0)) :: r => exact h c o r
  | .inr (.inr (_, _, _ + 1)) :: _ => exact Lim.c none
  | [] => exact Lim.c none
  | .inl _ :: _ => exact Lim.c none
  | .inr (.inl _) :: _ => exact Lim.c none
theorem Lim.aX {st : List AV} {f : Nat → Nat → Nat → Nat → List AV → RS} {g : Nat → Nat → Nat → List AV → RS} (h : ∀ c o j r, Lim (fun n => f n c o j r) (g c o j r)) : Lim (fun n => aX st (f n)) (aX st g) := by
  match st with
  | .inr (.inr (c, o, j + 1)) :: r => exact h c o j r
  | .inr (.inr (_, _, 0)) :: _ => exact Lim.c none
  | [] => exact Lim.c none
  | .inl _ :: _ => exact Lim.c none
  | .inr (.inl _) :: _ => exact Lim.c none
theorem Lim.a1 {st : List AV} {f : Nat → AV → List AV → RS} {g : AV → List AV → RS} (h : ∀ x r, Lim (fun n => f n x r) (g x r)) : Lim (fun n => a1 st (f n)) (a1 st g) := by
  match st with
  | .inr (.inr x) :: r => exact h _ r
  | .inl x :: r => exact h _ r
  | [] => exact Lim.c none
  | .inr (.inl _) :: _ => exact Lim.c none
theorem Lim.lI {lv : LV} {a : Nat} {f : Nat → Int32 → RS} {g : Int32 → RS} (h : ∀ x, Lim (fun n => f n x) (g x)) : Lim (fun n => lI lv a (f n)) (lI lv a g) := by
  show Lim (fun n => match lv[a]? with
    | some (some (.inl x)) => f n x
    | _ => none) (match lv[a]? with
    | some (some (.inl x)) => g x
    | _ => none)
  split
  · exact h _
  · exact Lim.c none
theorem Lim.lL {lv : LV} {a : Nat} {f : Nat → Int64 → RS} {g : Int64 → RS} (h : ∀ x, Lim (fun n => f n x) (g x)) : Lim (fun n => lL lv a (f n)) (lL lv a g) := by
  show Lim (fun n => match lv[a]? with
    | some (some (.inr (.inl x))) => f n x
    | _ => none) (match lv[a]? with
    | some (some (.inr (.inl x))) => g x
    | _ => none)
  split
  · exact h _
  · exact Lim.c none
theorem Lim.lR {lv : LV} {a : Nat} {f : Nat → Nat × Nat × Nat → RS} {g : Nat × Nat × Nat → RS} (h : ∀ x, Lim (fun n => f n x) (g x)) : Lim (fun n => lR lv a (f n)) (lR lv a g) := by
  show Lim (fun n => match lv[a]? with
    | some (some (.inr (.inr x))) => f n x
    | _ => none) (match lv[a]? with
    | some (some (.inr (.inr x))) => g x
    | _ => none)
  split
  · exact h _
  · exact Lim.c none
def bnd (x : RS) (f : Option AV → ST → RS) : RS := match x with
  | none => none
  | some (v, σ) => f v σ
theorem Lim.b {x : Nat → RS} {y : RS} {f : Nat → Option AV → ST → RS} {g : Option AV → ST → RS} (hx : Lim x y) (hf : ∀ v σ, Lim (fun n => f n v σ) (g v σ)) : Lim (fun n => bnd (x n) (f n)) (bnd y g) := by
  refine ⟨fun n r h => ?_, fun r h => ?_⟩
  · replace h : bnd (x n) (f n) = some r := h
    cases hn : x n with
    | none => rw [hn] at h; cases h
    | some z =>
      obtain ⟨v, τ⟩ := z
      rw [hn] at h
      rw [hx.1 n _ hn]
      exact (hf v τ).1 n r h
  · cases hy : y with
    | none => rw [hy] at h; cases h
    | some z =>
      obtain ⟨v, τ⟩ := z
      rw [hy] at h
      obtain ⟨n1, h1⟩ := hx.2 _ hy
      obtain ⟨n2, h2⟩ := (hf v τ).2 r h
      refine ⟨n1 + n2, fun m hm => ?_⟩
      show bnd (x m) (f m) = some r
      rw [h1 m (by omega)]
      exact h2 m (by omega)
section STL
variable {cal : Nat → CT} {cal' : CT} {k : Nat → KT} {k' : KT} {i s a b : Nat} {im : Int} {lv : LV} {st : List AV} {σ : ST}
theorem st0_lim (hk : ∀ i lv st σ, Lim (fun n => k n i lv st σ) (k' i lv st σ)) : ∀ s, Lim (fun n => st0 (k n) i s im a lv st σ) (st0 k' i s im a lv st σ)
  | 0 => hk _ _ _ _
  | 1 => hk _ _ _ _
  | 2 => Lim.lI fun _ => hk _ _ _ _
  | 3 => Lim.lL fun _ => hk _ _ _ _
  | 4 => Lim.lR fun _ => hk _ _ _ _
  | 5 => Lim.aI fun _ _ => hk _ _ _ _
  | 6 => Lim.aL fun _ _ => hk _ _ _ _
  | 7 => Lim.aR fun _ _ => hk _ _ _ _
  | 8 => Lim.lI fun _ => hk _ _ _ _
  | _ + 9 => Lim.c none
theorem st1_lim (hk : ∀ i lv st σ, Lim (fun n => k n i lv st σ) (k' i lv st σ)) : ∀ s, Lim (fun n => st1 (k n) i s lv st σ) (st1 k' i s lv st σ)
  | 0 => Lim.aI fun _ _ => Lim.aI fun _ _ => hk _ _ _ _
  | 1 => Lim.aI fun _ _ => Lim.aI fun _ _ => hk _ _ _ _
  | 2 => Lim.aI fun _ _ => Lim.aI fun _ _ => hk _ _ _ _
  | 3 => Lim.aI fun _ _ => Lim.aI fun _ _ => hk _ _ _ _
  | 4 => Lim.aI fun _ _ => Lim.aI fun _ _ => hk _ _ _ _
  | 5 => Lim.aI fun _ _ => Lim.aI fun _ _ => hk _ _ _ _
  | 6 => Lim.aI fun _ _ => Lim.aI fun _ _ => hk _ _ _ _
  | 7 => Lim.aI fun _ _ => Lim.aI fun _ _ => hk _ _ _ _
  | 8 => Lim.aI fun _ _ => Lim.aI fun _ _ => hk _ _ _ _
  | 9 => Lim.aI fun _ _ => Lim.aI fun _ _ => Lim.i (Lim.c none) (hk _ _ _ _)
  | 10 => Lim.aI fun _ _ => Lim.aI fun _ _ => Lim.i (Lim.c none) (hk _ _ _ _)
  | 11 => Lim.aI fun _ _ => hk _ _ _ _
  | 12 => Lim.aI fun _ _ => hk _ _ _ _
  | 13 => Lim.aL fun _ _ => hk _ _ _ _
  | 14 => Lim.aI fun _ _ => hk _ _ _ _
  | _ + 15 => Lim.c none
theorem st2_lim (hk : ∀ i lv st σ, Lim (fun n => k n i lv st σ) (k' i lv st σ)) : ∀ s, Lim (fun n => st2 (k n) i s lv st σ) (st2 k' i s lv st σ)
  | 0 => Lim.aL fun _ _ => Lim.aL fun _ _ => hk _ _ _ _
  | 1 => Lim.aL fun _ _ => Lim.aL fun _ _ => hk _ _ _ _
  | 2 => Lim.aL fun _ _ => Lim.aL fun _ _ => hk _ _ _ _
  | 3 => Lim.aL fun _ _ => Lim.aL fun _ _ => hk _ _ _ _
  | 4 => Lim.aL fun _ _ => Lim.aL fun _ _ => Lim.i (Lim.c none) (hk _ _ _ _)
  | 5 => Lim.aL fun _ _ => Lim.aL fun _ _ => Lim.i (Lim.c none) (hk _ _ _ _)
  | 6 => Lim.aL fun _ _ => hk _ _ _ _
  | 7 => Lim.aL fun _ _ => Lim.aL fun _ _ => hk _ _ _ _
  | _ + 8 => Lim.c none
theorem st3_lim (hk : ∀ i lv st σ, Lim (fun n => k n i lv st σ) (k' i lv st σ)) : ∀ s, Lim (fun n => st3 (k n) i s lv st σ) (st3 k' i s lv st σ)
  | 0 => Lim.a1 (st := st) (f := fun n v r => k n (i + 1) lv (v :: v :: r) σ) (g := fun v r => k' (i + 1) lv (v :: v :: r) σ) fun _ _ => hk _ _ _ _
  | 1 => Lim.a1 (st := st) (f := fun n v r => a1 r fun w r => k n (i + 1) lv (v :: w :: v :: w :: r) σ) (g := fun v r => a1 r fun w r => k' (i + 1) lv (v :: w :: v :: w :: r) σ) fun v r => Lim.a1 (st := r) (f := fun n w r => k n (i + 1) lv (v :: w :: v :: w :: r) σ) (g := fun w r => k' (i + 1) lv (v :: w :: v :: w :: r) σ) fun _ _ => hk _ _ _ _
  | 2 => Lim.a1 (st := st) (f := fun n _ r => k n (i + 1) lv r σ) (g := fun _ r => k' (i + 1) lv r σ) fun _ _ => hk _ _ _ _
  | _ + 3 => Lim.c none
theorem tsw_lim (hk : ∀ i lv st σ, Lim (fun n => k n i lv st σ) (k' i lv st σ)) (x : Int32) (d : Nat) : ∀ (ts : List Nat) (lo : Int), Lim (fun n => tsw (k n) lv st σ x d ts lo) (tsw k' lv st σ x d ts lo)
  | [], _ => hk _ _ _ _
  | _ :: ts, lo => Lim.i (hk _ _ _ _) (tsw_lim hk x d ts (lo + 1))
theorem st4_lim (hk : ∀ i lv st σ, Lim (fun n => k n i lv st σ) (k' i lv st σ)) : ∀ s, Lim (fun n => st4 (k n) i s im a b lv st σ) (st4 k' i s im a b lv st σ)
  | 0 => Lim.aI fun _ _ => Lim.i (hk _ _ _ _) (hk _ _ _ _)
  | 1 => Lim.aI fun _ _ => Lim.i (hk _ _ _ _) (hk _ _ _ _)
  | 2 => Lim.aI fun _ _ => Lim.i (hk _ _ _ _) (hk _ _ _ _)
  | 3 => Lim.aI fun _ _ => Lim.i (hk _ _ _ _) (hk _ _ _ _)
  | 4 => Lim.aI fun _ _ => Lim.i (hk _ _ _ _) (hk _ _ _ _)
  | 5 => Lim.aI fun _ _ => Lim.i (hk _ _ _ _) (hk _ _ _ _)
  | 6 => Lim.aI fun _ _ => Lim.aI fun _ _ => Lim.i (hk _ _ _ _) (hk _ _ _ _)
  | 7 => Lim.aI fun _ _ => Lim.aI fun _ _ => Lim.i (hk _ _ _ _) (hk _ _ _ _)
  | 8 => Lim.aI fun _ _ => Lim.aI fun _ _ => Lim.i (hk _ _ _ _) (hk _ _ _ _)
  | 9 => Lim.aI fun _ _ => Lim.aI fun _ _ => Lim.i (hk _ _ _ _) (hk _ _ _ _)
  | 10 => Lim.aI fun _ _ => Lim.aI fun _ _ => Lim.i (hk _ _ _ _) (hk _ _ _ _)
  | 11 => Lim.aI fun _ _ => Lim.aI fun _ _ => Lim.i (hk _ _ _ _) (hk _ _ _ _)
  | 12 => hk _ _ _ _
  | 13 => Lim.aI fun _ _ => tsw_lim hk _ _ _ _
  | _ + 14 => Lim.c none
theorem st5_lim (hk : ∀ i lv st σ, Lim (fun n => k n i lv st σ) (k' i lv st σ)) : ∀ s, Lim (fun n => st5 (k n) i s lv st σ) (st5 k' i s lv st σ)
  | 0 => Lim.aI fun _ _ => Lim.aX fun _ _ _ _ => Lim.i (Lim.i (Lim.c none) (hk _ _ _ _)) (Lim.c none)
  | 1 => Lim.aI fun _ _ => Lim.aX fun _ _ _ _ => Lim.i (Lim.i (Lim.c none) (hk _ _ _ _)) (Lim.c none)
  | 2 => Lim.aI fun _ _ => Lim.aX fun _ _ _ _ => Lim.i (Lim.i (Lim.c none) (hk _ _ _ _)) (Lim.c none)
  | 3 => Lim.aI fun _ _ => Lim.aX fun _ _ _ _ => Lim.i (Lim.i (Lim.c none) (hk _ _ _ _)) (Lim.c none)
  | 4 => Lim.aI fun _ _ => Lim.aI fun _ _ => Lim.aX fun _ _ _ _ => Lim.i (Lim.i (Lim.c none) (hk _ _ _ _)) (Lim.c none)
  | 5 => Lim.aI fun _ _ => Lim.aI fun _ _ => Lim.aX fun _ _ _ _ => Lim.i (Lim.i (Lim.c none) (hk _ _ _ _)) (Lim.i (Lim.i (Lim.c none) (hk _ _ _ _)) (Lim.c none))
  | 6 => Lim.aL fun _ _ => Lim.aI fun _ _ => Lim.aX fun _ _ _ _ => Lim.i (Lim.i (Lim.c none) (hk _ _ _ _)) (Lim.c none)
  | 7 => Lim.aX fun _ _ _ _ => Lim.i (hk _ _ _ _) (Lim.c none)
  | _ + 8 => Lim.c none
theorem st6_lim (hk : ∀ i lv st σ, Lim (fun n => k n i lv st σ) (k' i lv st σ)) (s : Nat) : Lim (fun n => st6 (k n) i s a b lv st σ) (st6 k' i s a b lv st σ) := by
  unfold st6
  refine Lim.aO fun c o r => Lim.i ?_ (Lim.c none)
  generalize s % 10 = z
  match z with
  | 0 => exact hk _ _ _ _
  | 1 => exact hk _ _ _ _
  | 2 => exact hk _ _ _ _
  | 3 => exact hk _ _ _ _
  | 4 => exact hk _ _ _ _
  | 5 => exact hk _ _ _ _
  | _ + 6 => exact Lim.c none
theorem st7_lim (hk : ∀ i lv st σ, Lim (fun n => k n i lv st σ) (k' i lv st σ)) : ∀ s, Lim (fun n => st7 (k n) i s a b lv st σ) (st7 k' i s a b lv st σ)
  | 0 => Lim.aI fun _ _ => Lim.aO fun _ _ _ => Lim.i (hk _ _ _ _) (Lim.c none)
  | 1 => Lim.aI fun _ _ => Lim.aO fun _ _ _ => Lim.i (Lim.i (hk _ _ _ _) (Lim.c none)) (Lim.c none)
  | 2 => Lim.c none
  | 3 => Lim.c none
  | 4 => Lim.aO fun _ _ _ => Lim.aO fun _ _ _ => Lim.i (Lim.i (hk _ _ _ _) (Lim.c none)) (Lim.c none)
  | 5 => Lim.aL fun _ _ => Lim.aO fun _ _ _ => Lim.i (hk _ _ _ _) (Lim.c none)
  | _ + 6 => Lim.c none
theorem cpo_lim (hk : ∀ i lv st σ, Lim (fun n => k n i lv st σ) (k' i lv st σ)) : Lim (fun n => cpo (k n) i lv st σ) (cpo k' i lv st σ) :=
  Lim.aI fun _ _ => Lim.aI fun _ _ => Lim.aX fun _ _ _ _ => Lim.aI fun _ _ => Lim.aX fun _ _ _ _ => Lim.i (Lim.i (Lim.c none) (hk _ _ _ _)) (Lim.c none)
theorem st8_lim (hc : ∀ a as σ, Lim (fun n => cal n a as σ) (cal' a as σ)) (hk : ∀ i lv st σ, Lim (fun n => k n i lv st σ) (k' i lv st σ)) (s : Nat) : Lim (fun n => st8 (cal n) (k n) i s a b lv st σ) (st8 cal' k' i s a b lv st σ) := by
  refine Lim.i (cpo_lim hk) ?_
  cases spl b st [] with
  | none => exact Lim.c none
  | some z =>
    obtain ⟨as, r⟩ := z
    refine Lim.i ?_ (Lim.c none)
    exact Lim.b (hc a as σ) (fun v τ => hk (i + 1) lv (v.toList ++ r) τ)
theorem stp_lim (hc : ∀ a as σ, Lim (fun n => cal n a as σ) (cal' a as σ)) (hk : ∀ i lv st σ, Lim (fun n => k n i lv st σ) (k' i lv st σ)) (op : OP) : Lim (fun n => stp (cal n) (k n) i op lv st σ) (stp cal' k' i op lv st σ) := by
  obtain ⟨g, s, pc, im, a, b⟩ := op
  match g with
  | 0 => exact st0_lim hk s
  | 1 => exact st1_lim hk s
  | 2 => exact st2_lim hk s
  | 3 => exact st3_lim hk s
  | 4 => exact st4_lim hk s
  | 5 => exact st5_lim hk s
  | 6 => exact st6_lim hk s
  | 7 => exact st7_lim hk s
  | 8 => exact st8_lim hc hk s
  | 9 => exact Lim.c _
  | _ + 10 => exact Lim.c none
end STL
def Mo (x y : RS) : Prop := ∀ r, x = some r → y = some r
theorem Mo.lim {x y : RS} (h : Mo x y) : Lim (fun n => if n = 0 then x else y) y := ⟨fun n r hn => by
  replace hn : (if n = 0 then x else y) = some r := hn
  by_cases h0 : n = 0
  · rw [if_pos h0] at hn; exact h r hn
  · rw [if_neg h0] at hn; exact hn, fun r hr => ⟨1, fun m hm => by
    show (if m = 0 then x else y) = some r
    rw [if_neg (by omega)]; exact hr⟩⟩
theorem stp_mo {cal cal' : CT} {k k' : KT} {i : Nat} {op : OP} {lv : LV} {st : List AV} {σ : ST} (hc : ∀ a as σ, Mo (cal a as σ) (cal' a as σ)) (hk : ∀ i lv st σ, Mo (k i lv st σ) (k' i lv st σ)) : Mo (stp cal k i op lv st σ) (stp cal' k' i op lv st σ) := by
  have h := stp_lim (cal := fun n a as σ => if n = 0 then cal a as σ else cal' a as σ) (cal' := cal') (k := fun n i lv st σ => if n = 0 then k i lv st σ else k' i lv st σ) (k' := k') (i := i) (lv := lv) (st := st) (σ := σ) (fun a as σ => (hc a as σ).lim) (fun i lv st σ => (hk i lv st σ).lim) op
  exact fun r hr => h.1 0 r hr
theorem ex_mo {cal cal' : CT} (hc : ∀ a as σ, Mo (cal a as σ) (cal' a as σ)) (C : List OP) : ∀ (f f' : Nat), f ≤ f' → ∀ i lv st σ, Mo (ex cal C f i lv st σ) (ex cal' C f' i lv st σ)
  | 0, _, _, _, _, _, _ => fun _ h => by cases h
  | f + 1, 0, hf, _, _, _, _ => absurd hf (by omega)
  | f + 1, f' + 1, hf, i, lv, st, σ => by
    show Mo (match C[i]? with
      | none => none
      | some op => stp cal (ex cal C f) i op lv st σ) (match C[i]? with
      | none => none
      | some op => stp cal' (ex cal' C f') i op lv st σ)
    cases C[i]? with
    | none => exact fun _ h => h
    | some op => exact stp_mo hc (fun i lv st σ => ex_mo hc C f f' (by omega) i lv st σ)
theorem exM_mo : ∀ (f f' : Nat), f ≤ f' → ∀ a as σ, Mo (exM f a as σ) (exM f' a as σ)
  | 0, _, _, _, _, _ => fun _ h => by cases h
  | f + 1, 0, hf, _, _, _ => absurd hf (by omega)
  | f + 1, f' + 1, hf, a, as, σ => by
    show Mo (if (ent1 as).length ≤ mL a then _ else none) (if (ent1 as).length ≤ mL a then _ else none)
    by_cases hc : (ent1 as).length ≤ mL a
    · rw [if_pos hc, if_pos hc]
      exact ex_mo (fun a as σ => exM_mo f f' (by omega) a as σ) _ _ _ hf _ _ _ _
    · rw [if_neg hc, if_neg hc]
      exact fun _ h => h
noncomputable def lim (x : Nat → RS) : RS := by
  classical exact if h : ∃ n, (x n).isSome = true then x h.choose else none
theorem lim_ok {x : Nat → RS} (hm : ∀ n m, n ≤ m → Mo (x n) (x m)) : Lim x (lim x) := by
  refine ⟨fun n r h => ?_, fun r h => ?_⟩
  · have he : ∃ n, (x n).isSome = true := ⟨n, by rw [h]; rfl⟩
    unfold lim
    rw [dif_pos he]
    obtain ⟨r', hr'⟩ := Option.isSome_iff_exists.mp he.choose_spec
    rw [hr']
    rcases Nat.le_total n he.choose with hle | hle
    · rw [hm _ _ hle r h] at hr'
      exact hr'.symm
    · have := hm _ _ hle r' hr'
      rw [h] at this
      exact this.symm
  · unfold lim at h
    by_cases he : ∃ n, (x n).isSome = true
    · rw [dif_pos he] at h
      exact ⟨he.choose, fun m hle => hm _ _ hle r h⟩
    · rw [dif_neg he] at h
      cases h
theorem Lim.uniq {x x' : Nat → RS} {y y' : RS} (h : Lim x y) (h' : Lim x' y') (h1 : ∀ n, ∃ m, Mo (x n) (x' m)) (h2 : ∀ n, ∃ m, Mo (x' n) (x m)) : y = y' := by
  cases hy : y with
  | some r =>
    obtain ⟨n, hn⟩ := h.2 r hy
    obtain ⟨m, hm⟩ := h1 n
    exact (h'.1 m r (hm r (hn n (Nat.le_refl n)))).symm
  | none =>
    cases hy' : y' with
    | none => rfl
    | some r =>
      obtain ⟨n, hn⟩ := h'.2 r hy'
      obtain ⟨m, hm⟩ := h2 n
      have := h.1 m r (hm r (hn n (Nat.le_refl n)))
      rw [hy] at this
      cases this
/-- a method's answer, and the answer from a place in a method's code -/
noncomputable def den : CT := fun a as σ => lim (fun n => exM n a as σ)
noncomputable def run (C : List OP) : KT := fun i lv st σ => lim (fun n => ex (exM n) C n i lv st σ)
theorem den_lim (a : Nat) (as : List AV) (σ : ST) : Lim (fun n => exM n a as σ) (den a as σ) := lim_ok fun n m h => exM_mo n m h a as σ
theorem run_lim (C : List OP) (i : Nat) (lv : LV) (st : List AV) (σ : ST) : Lim (fun n => ex (exM n) C n i lv st σ) (run C i lv st σ) := lim_ok fun n m h => ex_mo (fun a as σ => exM_mo n m h a as σ) C n m h i lv st σ
theorem run_eq (C : List OP) (i : Nat) (lv : LV) (st : List AV) (σ : ST) : run C i lv st σ = match C[i]? with
    | none => none
    | some op => stp den (run C) i op lv st σ := by
  cases hop : C[i]? with
  | none =>
    refine Lim.uniq (run_lim C i lv st σ) (Lim.c none) (fun n => ⟨0, fun r h => ?_⟩) (fun n => ⟨0, fun r h => by cases h⟩)
    cases n with
    | zero => cases h
    | succ n =>
      have h : (match C[i]? with
        | none => none
        | some op => stp (exM (n + 1)) (ex (exM (n + 1)) C n) i op lv st σ) = some r := h
      rw [hop] at h
      exact h
  | some op =>
    refine Lim.uniq (run_lim C i lv st σ) (stp_lim (cal := exM) (k := fun n => ex (exM n) C n) den_lim (run_lim C) op) (fun n => ?_) (fun n => ⟨n + 1, fun r h => ?_⟩)
    · cases n with
      | zero => exact ⟨0, fun r h => by cases h⟩
      | succ n =>
        refine ⟨n + 1, fun r h => ?_⟩
        have h : (match C[i]? with
          | none => none
          | some op => stp (exM (n + 1)) (ex (exM (n + 1)) C n) i op lv st σ) = some r := h
        rw [hop] at h
        exact stp_mo (fun _ _ _ _ h => h) (fun i lv st σ => ex_mo (fun _ _ _ _ h => h) C n (n + 1) (by omega) i lv st σ) r h
    · show (match C[i]? with
          | none => none
          | some op => stp (exM (n + 1)) (ex (exM (n + 1)) C n) i op lv st σ) = some r
      rw [hop]
      exact stp_mo (fun a as σ => exM_mo n (n + 1) (by omega) a as σ) (fun i lv st σ => ex_mo (fun a as σ => exM_mo n (n + 1) (by omega) a as σ) C n n (Nat.le_refl n) i lv st σ) r h
theorem den_eq (a : Nat) (as : List AV) (σ : ST) : den a as σ = if (ent1 as).length ≤ mL a then run (cod a) 0 (ent a as) [] σ else none := by
  by_cases hc : (ent1 as).length ≤ mL a
  · rw [if_pos hc]
    refine Lim.uniq (den_lim a as σ) (run_lim (cod a) 0 (ent a as) [] σ) (fun n => ?_) (fun n => ⟨n + 1, fun r h => ?_⟩)
    · cases n with
      | zero => exact ⟨0, fun r h => by cases h⟩
      | succ n =>
        refine ⟨n + 1, fun r h => ?_⟩
        have h : (if (ent1 as).length ≤ mL a then ex (exM n) (cod a) (n + 1) 0 (ent a as) [] σ else none) = some r := h
        rw [if_pos hc] at h
        exact ex_mo (fun a as σ => exM_mo n (n + 1) (by omega) a as σ) _ _ _ (Nat.le_refl _) _ _ _ _ r h
    · show (if (ent1 as).length ≤ mL a then ex (exM n) (cod a) (n + 1) 0 (ent a as) [] σ else none) = some r
      rw [if_pos hc]
      exact ex_mo (fun _ _ _ _ h => h) _ _ _ (by omega) _ _ _ _ r h
  · rw [if_neg hc]
    refine Lim.uniq (den_lim a as σ) (Lim.c none) (fun n => ⟨0, fun r h => ?_⟩) (fun n => ⟨0, fun r h => by cases h⟩)
    cases n with
    | zero => cases h
    | succ n =>
      have h : (if (ent1 as).length ≤ mL a then ex (exM n) (cod a) (n + 1) 0 (ent a as) [] σ else none) = some r := h
      rw [if_neg hc] at h
      cases h
/-- the same, up to places where it stops -/
noncomputable def rc (C : List OP) (cuts : List Nat) : Nat → KT
  | 0 => run C
  | n + 1 => fun i lv st σ => match C[i]? with
    | none => none
    | some op => stp den (fun i lv st σ => if cuts.contains i = true then run C i lv st σ else rc C cuts n i lv st σ) i op lv st σ
theorem rc_eq (C : List OP) (cuts : List Nat) : ∀ n : Nat, rc C cuts n = run C
  | 0 => rfl
  | n + 1 => by
    funext i lv st σ
    have e : (fun i lv st σ => if cuts.contains i = true then run C i lv st σ else rc C cuts n i lv st σ) = run C := by
      funext i lv st σ
      rw [rc_eq C cuts n]
      by_cases h : cuts.contains i = true
      · rw [if_pos h]
      · rw [if_neg h]
    rw [run_eq C i lv st σ]
    show (match C[i]? with
      | none => none
      | some op => stp den (fun i lv st σ => if cuts.contains i = true then run C i lv st σ else rc C cuts n i lv st σ) i op lv st σ) = _
    rw [e]
/-- what the limit answers, the machine answers -/
theorem den_met (l : Launch) (D : va_G) (q : Nat → ClassId) (ρ : Nat × Nat × Nat → Nat) {a : Nat} {as : List AV} {σ σ' : ST} {v : Option AV} (ha : a < nM) (h : den a as σ = some (v, σ')) (hok : ∀ w ∈ as, okv w) (hR : okR σ) (sz : Nat) : Met l (mY a) (wsM a) (rmM a) (PcM D q ρ as σ sz) (QcM D q ρ (Aw ρ sz) (v, σ')) 0 0 (Aw ρ sz) := by
  obtain ⟨n, hn⟩ := (den_lim a as σ).2 _ h
  exact snd_met l D q ρ n a as σ v σ' ha (hn n (Nat.le_refl n)) hok hR sz
