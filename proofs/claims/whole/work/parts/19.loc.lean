/-! LOCALITY: a method that is given objects of classes in S reads and writes objects of S alone -/
def mrg (S : Nat → Bool) (σ τ : ST) : ST := (fun c o k => if S c = true then σ.1 c o k else τ.1 c o k, fun c o k => if S c = true then σ.2.1 c o k else τ.2.1 c o k, fun c o k => if S c = true then σ.2.2.1 c o k else τ.2.2.1 c o k, fun c o k => if S c = true then σ.2.2.2.1 c o k else τ.2.2.2.1 c o k, fun c o k => if S c = true then σ.2.2.2.2 c o k else τ.2.2.2.2 c o k)
def inS (S : Nat → Bool) : AV → Prop
  | .inr (.inr t) => S t.1 = true
  | _ => True
def mgr (S : Nat → Bool) (τ : ST) (x : Option AV × ST) : Option AV × ST := (x.1, mrg S x.2 τ)
def okO (S : Nat → Bool) (v : Option AV) : Prop := ∀ w, v = some w → inS S w
def Rl (S : Nat → Bool) (τ : ST) (x y : RS) : Prop := x = y.map (mgr S τ) ∧ ∀ v σ', y = some (v, σ') → okO S v
section LOC
variable {S : Nat → Bool} {τ σ : ST} {c o k : Nat}
theorem m_gI (h : S c = true) : gI (mrg S σ τ) c o k = gI σ c o k := if_pos h
theorem m_gL (h : S c = true) : gL (mrg S σ τ) c o k = gL σ c o k := if_pos h
theorem m_gR (h : S c = true) : gR (mrg S σ τ) c o k = gR σ c o k := if_pos h
theorem m_gA (h : S c = true) : gA (mrg S σ τ) c o k = gA σ c o k := if_pos h
theorem m_gB (h : S c = true) : gB (mrg S σ τ) c o k = gB σ c o k := if_pos h
theorem u3_m {α : Type} {f g : Nat → Nat → Nat → α} {v : α} (h : S c = true) : u3 (fun a b d => if S a = true then f a b d else g a b d) c o k v = fun a b d => if S a = true then u3 f c o k v a b d else g a b d := by
  funext a b d
  unfold u3
  by_cases z : d = k ∧ a = c ∧ b = o
  · rw [if_pos z, if_pos z, if_pos (by rw [z.2.1]; exact h)]
  · rw [if_neg z, if_neg z]
theorem m_sI {v : Int32} (h : S c = true) : sI (mrg S σ τ) c o k v = mrg S (sI σ c o k v) τ := by
  unfold sI mrg
  dsimp only
  rw [u3_m h]
theorem m_sL {v : Int64} (h : S c = true) : sL (mrg S σ τ) c o k v = mrg S (sL σ c o k v) τ := by
  unfold sL mrg
  dsimp only
  rw [u3_m h]
theorem m_sR {v : Nat} (h : S c = true) : sR (mrg S σ τ) c o k v = mrg S (sR σ c o k v) τ := by
  unfold sR mrg
  dsimp only
  rw [u3_m h]
theorem m_sA {v : Nat → Int32} (h : S c = true) : sA (mrg S σ τ) c o k v = mrg S (sA σ c o k v) τ := by
  unfold sA mrg
  dsimp only
  rw [u3_m h]
theorem m_sB {v : Nat → Int64} (h : S c = true) : sB (mrg S σ τ) c o k v = mrg S (sB σ c o k v) τ := by
  unfold sB mrg
  dsimp only
  rw [u3_m h]
theorem Rl.n : Rl S τ none none := ⟨rfl, fun _ _ h => by cases h⟩
theorem Rl.i {p : Prop} [Decidable p] {x x' y y' : RS} (h : Rl S τ x y) (h' : Rl S τ x' y') : Rl S τ (if p then x else x') (if p then y else y') := by
  by_cases hp : p
  · rw [if_pos hp, if_pos hp]; exact h
  · rw [if_neg hp, if_neg hp]; exact h'
theorem iok_c {P : AV → Prop} {a : AV} {r : List AV} (h0 : P a) (h : ∀ v ∈ r, P v) : ∀ v ∈ a :: r, P v := fun v hv => by
  rcases List.mem_cons.mp hv with rfl | hv
  · exact h0
  · exact h v hv
theorem iok_t {P : AV → Prop} {a : AV} {r : List AV} (h : ∀ v ∈ a :: r, P v) : ∀ v ∈ r, P v := fun v hv => h v (List.mem_cons_of_mem _ hv)
abbrev oS (S : Nat → Bool) (r : List AV) : Prop := ∀ v ∈ r, inS S v
abbrev oL (S : Nat → Bool) (lv : LV) : Prop := ∀ v, some v ∈ lv → inS S v
theorem Rl.aI {f g : Int32 → List AV → RS} : ∀ {st : List AV}, oS S st → (∀ x r, oS S r → Rl S τ (f x r) (g x r)) → Rl S τ (aI st f) (aI st g)
  | .inl x :: r, hs, h => h x r (iok_t hs)
  | [], _, _ => Rl.n
  | .inr _ :: _, _, _ => Rl.n
theorem Rl.aL {f g : Int64 → List AV → RS} : ∀ {st : List AV}, oS S st → (∀ x r, oS S r → Rl S τ (f x r) (g x r)) → Rl S τ (aL st f) (aL st g)
  | .inr (.inl x) :: r, hs, h => h x r (iok_t hs)
  | [], _, _ => Rl.n
  | .inl _ :: _, _, _ => Rl.n
  | .inr (.inr _) :: _, _, _ => Rl.n
theorem Rl.aR {f g : Nat × Nat × Nat → List AV → RS} : ∀ {st : List AV}, oS S st → (∀ x r, S x.1 = true → oS S r → Rl S τ (f x r) (g x r)) → Rl S τ (aR st f) (aR st g)
  | .inr (.inr x) :: r, hs, h => h x r (hs _ List.mem_cons_self) (iok_t hs)
  | [], _, _ => Rl.n
  | .inl _ :: _, _, _ => Rl.n
  | .inr (.inl _) :: _, _, _ => Rl.n
theorem Rl.aO {f g : Nat → Nat → List AV → RS} : ∀ {st : List AV}, oS S st → (∀ c o r, S c = true → oS S r → Rl S τ (f c o r) (g c o r)) → Rl S τ (aO st f) (aO st g)
  | .inr (.inr (c, o, 0)) :: r, hs, h => h c o r (hs _ List.mem_cons_self) (iok_t hs)
  | .inr (.inr (_, _, _ + 1)) :: _, _, _ => Rl.n
  | [], _, _ => Rl.n
  | .inl _ :: _, _, _ => Rl.n
  | .inr (.inl _) :: _, _, _ => Rl.n
theorem Rl.aX {f g : Nat → Nat → Nat → List AV → RS} : ∀ {st : List AV}, oS S st → (∀ c o j r, S c = true → oS S r → Rl S τ (f c o j r) (g c o j r)) → Rl S τ (aX st f) (aX st g)
  | .inr (.inr (c, o, j + 1)) :: r, hs, h => h c o j r (hs _ List.mem_cons_self) (iok_t hs)
  | .inr (.inr (_, _, 0)) :: _, _, _ => Rl.n
  | [], _, _ => Rl.n
  | .inl _ :: _, _, _ => Rl.n
  | .inr (.inl _) :: _, _, _ => Rl.n
theorem Rl.a1 {f g : AV → List AV → RS} : ∀ {st : List AV}, oS S st → (∀ x r, inS S x → oS S r → Rl S τ (f x r) (g x r)) → Rl S τ (a1 st f) (a1 st g)
  | .inr (.inr x) :: r, hs, h => h _ r (hs _ List.mem_cons_self) (iok_t hs)
  | .inl x :: r, hs, h => h _ r trivial (iok_t hs)
  | [], _, _ => Rl.n
  | .inr (.inl _) :: _, _, _ => Rl.n
theorem Rl.lI {lv : LV} {a : Nat} {f g : Int32 → RS} (h : ∀ x, Rl S τ (f x) (g x)) : Rl S τ (lI lv a f) (lI lv a g) := by
  show Rl S τ (match lv[a]? with
    | some (some (.inl x)) => f x
    | _ => none) (match lv[a]? with
    | some (some (.inl x)) => g x
    | _ => none)
  split
  · exact h _
  · exact Rl.n
theorem Rl.lL {lv : LV} {a : Nat} {f g : Int64 → RS} (h : ∀ x, Rl S τ (f x) (g x)) : Rl S τ (lL lv a f) (lL lv a g) := by
  show Rl S τ (match lv[a]? with
    | some (some (.inr (.inl x))) => f x
    | _ => none) (match lv[a]? with
    | some (some (.inr (.inl x))) => g x
    | _ => none)
  split
  · exact h _
  · exact Rl.n
theorem Rl.lR {lv : LV} {a : Nat} {f g : Nat × Nat × Nat → RS} (hl : oL S lv) (h : ∀ x, S x.1 = true → Rl S τ (f x) (g x)) : Rl S τ (lR lv a f) (lR lv a g) := by
  show Rl S τ (match lv[a]? with
    | some (some (.inr (.inr x))) => f x
    | _ => none) (match lv[a]? with
    | some (some (.inr (.inr x))) => g x
    | _ => none)
  split
  next x hx => exact h _ (hl _ (List.mem_of_getElem? hx))
  next => exact Rl.n
theorem Rl.b {x y : RS} {f g : Option AV → ST → RS} (hx : Rl S τ x y) (hf : ∀ v σ', okO S v → Rl S τ (f v (mrg S σ' τ)) (g v σ')) : Rl S τ (bnd x f) (bnd y g) := by
  obtain ⟨h1, h2⟩ := hx
  cases hy : y with
  | none => rw [h1, hy]; exact Rl.n
  | some z =>
    obtain ⟨v, σ'⟩ := z
    rw [h1, hy]
    exact hf v σ' (h2 v σ' hy)
end LOC
def LK (S : Nat → Bool) (τ : ST) (k : KT) : Prop := ∀ i lv st σ, oL S lv → oS S st → Rl S τ (k i lv st (mrg S σ τ)) (k i lv st σ)
def LC (S : Nat → Bool) (τ : ST) (cal : CT) : Prop := ∀ a as σ, oS S as → Rl S τ (cal a as (mrg S σ τ)) (cal a as σ)
/-- what S must be closed under, and what the code must not do outside the tables -/
def Scl (S : Nat → Bool) : Prop := (∀ a o b, S a = true → fty a b = 3 → S (sub a o b).1 = true) ∧ (∀ a b, S a = true → fty a b = 4 → S 2 = true) ∧ (∀ c j, S c = true → (ar c j).1 = 4 → S 3 = true)
def opq (op : OP) : Bool := match op with
  | (6, s, _, _, a, b) => decide (s % 10 = fty a b)
  | _ => true
section LST
variable {S : Nat → Bool} {τ : ST} {k : KT} {cal : CT} {i a b : Nat} {im : Int} {lv : LV} {st : List AV} {σ : ST}
theorem iok_sto {lv : LV} {i : Nat} {v : AV} (h0 : inS S v) (h : oL S lv) : oL S (sto lv i v) := fun w hw => by
  obtain ⟨j, hj⟩ := List.getElem?_of_mem hw
  rcases sto_get lv i v j w hj with ⟨-, rfl⟩ | ⟨-, h2, -⟩
  · exact h0
  · exact h w (List.mem_of_getElem? h2)
theorem iok_stoL {lv : LV} {i : Nat} {v : Int64} (h : oL S lv) : oL S (stoL lv i v) := fun w hw => by
  obtain ⟨j, hj⟩ := List.getElem?_of_mem hw
  rcases stoL_get lv i v j w hj with ⟨-, rfl⟩ | ⟨-, -, h2, -⟩
  · exact trivial
  · exact h w (List.mem_of_getElem? h2)
theorem loc0 (hk : LK S τ k) (hl : oL S lv) (hs : oS S st) : ∀ s, Rl S τ (st0 k i s im a lv st (mrg S σ τ)) (st0 k i s im a lv st σ)
  | 0 => hk _ _ _ _ hl (iok_c trivial hs)
  | 1 => hk _ _ _ _ hl (iok_c trivial hs)
  | 2 => Rl.lI fun _ => hk _ _ _ _ hl (iok_c trivial hs)
  | 3 => Rl.lL fun _ => hk _ _ _ _ hl (iok_c trivial hs)
  | 4 => Rl.lR hl fun x hx => hk _ _ _ _ hl (iok_c (show inS S (.inr (.inr x)) from hx) hs)
  | 5 => Rl.aI hs fun _ _ hr => hk _ _ _ _ (iok_sto trivial hl) hr
  | 6 => Rl.aL hs fun _ _ hr => hk _ _ _ _ (iok_stoL hl) hr
  | 7 => Rl.aR hs fun x _ hx hr => hk _ _ _ _ (iok_sto (show inS S (.inr (.inr x)) from hx) hl) hr
  | 8 => Rl.lI fun _ => hk _ _ _ _ (iok_sto trivial hl) hs
  | _ + 9 => Rl.n
theorem loc1 (hk : LK S τ k) (hl : oL S lv) (hs : oS S st) : ∀ s, Rl S τ (st1 k i s lv st (mrg S σ τ)) (st1 k i s lv st σ)
  | 0 => Rl.aI hs fun _ _ hr => Rl.aI hr fun _ _ hr => hk _ _ _ _ hl (iok_c trivial hr)
  | 1 => Rl.aI hs fun _ _ hr => Rl.aI hr fun _ _ hr => hk _ _ _ _ hl (iok_c trivial hr)
  | 2 => Rl.aI hs fun _ _ hr => Rl.aI hr fun _ _ hr => hk _ _ _ _ hl (iok_c trivial hr)
  | 3 => Rl.aI hs fun _ _ hr => Rl.aI hr fun _ _ hr => hk _ _ _ _ hl (iok_c trivial hr)
  | 4 => Rl.aI hs fun _ _ hr => Rl.aI hr fun _ _ hr => hk _ _ _ _ hl (iok_c trivial hr)
  | 5 => Rl.aI hs fun _ _ hr => Rl.aI hr fun _ _ hr => hk _ _ _ _ hl (iok_c trivial hr)
  | 6 => Rl.aI hs fun _ _ hr => Rl.aI hr fun _ _ hr => hk _ _ _ _ hl (iok_c trivial hr)
  | 7 => Rl.aI hs fun _ _ hr => Rl.aI hr fun _ _ hr => hk _ _ _ _ hl (iok_c trivial hr)
  | 8 => Rl.aI hs fun _ _ hr => Rl.aI hr fun _ _ hr => hk _ _ _ _ hl (iok_c trivial hr)
  | 9 => Rl.aI hs fun _ _ hr => Rl.aI hr fun _ _ hr => Rl.i Rl.n (hk _ _ _ _ hl (iok_c trivial hr))
  | 10 => Rl.aI hs fun _ _ hr => Rl.aI hr fun _ _ hr => Rl.i Rl.n (hk _ _ _ _ hl (iok_c trivial hr))
  | 11 => Rl.aI hs fun _ _ hr => hk _ _ _ _ hl (iok_c trivial hr)
  | 12 => Rl.aI hs fun _ _ hr => hk _ _ _ _ hl (iok_c trivial hr)
  | 13 => Rl.aL hs fun _ _ hr => hk _ _ _ _ hl (iok_c trivial hr)
  | 14 => Rl.aI hs fun _ _ hr => hk _ _ _ _ hl (iok_c trivial hr)
  | _ + 15 => Rl.n
theorem loc2 (hk : LK S τ k) (hl : oL S lv) (hs : oS S st) : ∀ s, Rl S τ (st2 k i s lv st (mrg S σ τ)) (st2 k i s lv st σ)
  | 0 => Rl.aL hs fun _ _ hr => Rl.aL hr fun _ _ hr => hk _ _ _ _ hl (iok_c trivial hr)
  | 1 => Rl.aL hs fun _ _ hr => Rl.aL hr fun _ _ hr => hk _ _ _ _ hl (iok_c trivial hr)
  | 2 => Rl.aL hs fun _ _ hr => Rl.aL hr fun _ _ hr => hk _ _ _ _ hl (iok_c trivial hr)
  | 3 => Rl.aL hs fun _ _ hr => Rl.aL hr fun _ _ hr => hk _ _ _ _ hl (iok_c trivial hr)
  | 4 => Rl.aL hs fun _ _ hr => Rl.aL hr fun _ _ hr => Rl.i Rl.n (hk _ _ _ _ hl (iok_c trivial hr))
  | 5 => Rl.aL hs fun _ _ hr => Rl.aL hr fun _ _ hr => Rl.i Rl.n (hk _ _ _ _ hl (iok_c trivial hr))
  | 6 => Rl.aL hs fun _ _ hr => hk _ _ _ _ hl (iok_c trivial hr)
  | 7 => Rl.aL hs fun _ _ hr => Rl.aL hr fun _ _ hr => hk _ _ _ _ hl (iok_c trivial hr)
  | _ + 8 => Rl.n
theorem loc3 (hk : LK S τ k) (hl : oL S lv) (hs : oS S st) : ∀ s, Rl S τ (st3 k i s lv st (mrg S σ τ)) (st3 k i s lv st σ)
  | 0 => Rl.a1 (f := fun v r => k (i + 1) lv (v :: v :: r) (mrg S σ τ)) (g := fun v r => k (i + 1) lv (v :: v :: r) σ) hs fun _ _ hx hr => hk _ _ _ _ hl (iok_c hx (iok_c hx hr))
  | 1 => Rl.a1 (f := fun v r => a1 r fun w r => k (i + 1) lv (v :: w :: v :: w :: r) (mrg S σ τ)) (g := fun v r => a1 r fun w r => k (i + 1) lv (v :: w :: v :: w :: r) σ) hs fun v r hx hr => Rl.a1 (f := fun w r => k (i + 1) lv (v :: w :: v :: w :: r) (mrg S σ τ)) (g := fun w r => k (i + 1) lv (v :: w :: v :: w :: r) σ) hr fun _ _ hy hr => hk _ _ _ _ hl (iok_c hx (iok_c hy (iok_c hx (iok_c hy hr))))
  | 2 => Rl.a1 (f := fun _ r => k (i + 1) lv r (mrg S σ τ)) (g := fun _ r => k (i + 1) lv r σ) hs fun _ _ _ hr => hk _ _ _ _ hl hr
  | _ + 3 => Rl.n
theorem locT (hk : LK S τ k) (hl : oL S lv) (hs : oS S st) (x : Int32) (d : Nat) : ∀ (ts : List Nat) (lo : Int), Rl S τ (tsw k lv st (mrg S σ τ) x d ts lo) (tsw k lv st σ x d ts lo)
  | [], _ => hk _ _ _ _ hl hs
  | _ :: ts, lo => Rl.i (hk _ _ _ _ hl hs) (locT hk hl hs x d ts (lo + 1))
theorem loc4 (hk : LK S τ k) (hl : oL S lv) (hs : oS S st) : ∀ s, Rl S τ (st4 k i s im a b lv st (mrg S σ τ)) (st4 k i s im a b lv st σ)
  | 0 => Rl.aI hs fun _ _ hr => Rl.i (hk _ _ _ _ hl hr) (hk _ _ _ _ hl hr)
  | 1 => Rl.aI hs fun _ _ hr => Rl.i (hk _ _ _ _ hl hr) (hk _ _ _ _ hl hr)
  | 2 => Rl.aI hs fun _ _ hr => Rl.i (hk _ _ _ _ hl hr) (hk _ _ _ _ hl hr)
  | 3 => Rl.aI hs fun _ _ hr => Rl.i (hk _ _ _ _ hl hr) (hk _ _ _ _ hl hr)
  | 4 => Rl.aI hs fun _ _ hr => Rl.i (hk _ _ _ _ hl hr) (hk _ _ _ _ hl hr)
  | 5 => Rl.aI hs fun _ _ hr => Rl.i (hk _ _ _ _ hl hr) (hk _ _ _ _ hl hr)
  | 6 => Rl.aI hs fun _ _ hr => Rl.aI hr fun _ _ hr => Rl.i (hk _ _ _ _ hl hr) (hk _ _ _ _ hl hr)
  | 7 => Rl.aI hs fun _ _ hr => Rl.aI hr fun _ _ hr => Rl.i (hk _ _ _ _ hl hr) (hk _ _ _ _ hl hr)
  | 8 => Rl.aI hs fun _ _ hr => Rl.aI hr fun _ _ hr => Rl.i (hk _ _ _ _ hl hr) (hk _ _ _ _ hl hr)
  | 9 => Rl.aI hs fun _ _ hr => Rl.aI hr fun _ _ hr => Rl.i (hk _ _ _ _ hl hr) (hk _ _ _ _ hl hr)
  | 10 => Rl.aI hs fun _ _ hr => Rl.aI hr fun _ _ hr => Rl.i (hk _ _ _ _ hl hr) (hk _ _ _ _ hl hr)
  | 11 => Rl.aI hs fun _ _ hr => Rl.aI hr fun _ _ hr => Rl.i (hk _ _ _ _ hl hr) (hk _ _ _ _ hl hr)
  | 12 => hk _ _ _ _ hl hs
  | 13 => Rl.aI hs fun _ _ hr => locT hk hl hr _ _ _ _
  | _ + 14 => Rl.n
theorem loc5 (hS : Scl S) (hk : LK S τ k) (hl : oL S lv) (hs : oS S st) : ∀ s, Rl S τ (st5 k i s lv st (mrg S σ τ)) (st5 k i s lv st σ)
  | 0 => Rl.aI hs fun _ _ hr => Rl.aX hr fun c o j r hc hr => by rw [m_gA hc]; exact Rl.i (Rl.i Rl.n (hk _ _ _ _ hl (iok_c trivial hr))) Rl.n
  | 1 => Rl.aI hs fun _ _ hr => Rl.aX hr fun c o j r hc hr => by rw [m_gA hc]; exact Rl.i (Rl.i Rl.n (hk _ _ _ _ hl (iok_c trivial hr))) Rl.n
  | 2 => Rl.aI hs fun _ _ hr => Rl.aX hr fun c o j r hc hr => by rw [m_gB hc]; exact Rl.i (Rl.i Rl.n (hk _ _ _ _ hl (iok_c trivial hr))) Rl.n
  | 3 => Rl.aI hs fun x _ hr => Rl.aX hr fun c o j r hc hr => by
    by_cases h4 : (ar c j).1 = 4
    · exact Rl.i (Rl.i Rl.n (hk _ _ _ _ hl (iok_c (show inS S (vR 3 (3 * o + x.toNatClampNeg) 0) from hS.2.2 c j hc h4) hr))) Rl.n
    · rw [if_neg h4, if_neg h4]; exact Rl.n
  | 4 => Rl.aI hs fun _ _ hr => Rl.aI hr fun _ _ hr => Rl.aX hr fun c o j r hc hr => by rw [m_gA hc, m_sA hc]; exact Rl.i (Rl.i Rl.n (hk _ _ _ _ hl hr)) Rl.n
  | 5 => Rl.aI hs fun _ _ hr => Rl.aI hr fun _ _ hr => Rl.aX hr fun c o j r hc hr => by rw [m_gA hc, m_sA hc, m_sA hc]; exact Rl.i (Rl.i Rl.n (hk _ _ _ _ hl hr)) (Rl.i (Rl.i Rl.n (hk _ _ _ _ hl hr)) Rl.n)
  | 6 => Rl.aL hs fun _ _ hr => Rl.aI hr fun _ _ hr => Rl.aX hr fun c o j r hc hr => by rw [m_gB hc, m_sB hc]; exact Rl.i (Rl.i Rl.n (hk _ _ _ _ hl hr)) Rl.n
  | 7 => Rl.aX hs fun c o j r hc hr => Rl.i (hk _ _ _ _ hl (iok_c trivial hr)) Rl.n
  | _ + 8 => Rl.n
theorem loc6 (hS : Scl S) (hk : LK S τ k) (hl : oL S lv) (hs : oS S st) (s : Nat) (hf : s % 10 = fty a b) : Rl S τ (st6 k i s a b lv st (mrg S σ τ)) (st6 k i s a b lv st σ) := by
  unfold st6
  refine Rl.aO hs fun c o r hc hr => ?_
  by_cases hca : c = a
  · rw [if_pos hca, if_pos hca]
    subst hca
    generalize s % 10 = z at hf
    match z, hf with
    | 0, hf => rw [m_gI hc]; exact hk _ _ _ _ hl (iok_c trivial hr)
    | 1, hf => rw [m_gI hc]; exact hk _ _ _ _ hl (iok_c trivial hr)
    | 2, hf => exact hk _ _ _ _ hl (iok_c (show inS S (vR c o (b + 1)) from hc) hr)
    | 3, hf => exact hk _ _ _ _ hl (iok_c (show inS S (.inr (.inr (sub c o b))) from hS.1 c o b hc hf.symm) hr)
    | 4, hf => rw [m_gR hc]; exact hk _ _ _ _ hl (iok_c (show inS S (vR 2 (gR σ c o b) 0) from hS.2.1 c b hc hf.symm) hr)
    | 5, hf => rw [m_gL hc]; exact hk _ _ _ _ hl (iok_c trivial hr)
    | _ + 6, _ => exact Rl.n
  · rw [if_neg hca, if_neg hca]
    exact Rl.n
theorem loc7 (hk : LK S τ k) (hl : oL S lv) (hs : oS S st) : ∀ s, Rl S τ (st7 k i s a b lv st (mrg S σ τ)) (st7 k i s a b lv st σ)
  | 0 => Rl.aI hs fun v _ hr => Rl.aO hr fun c o r hc hr => by
    by_cases hca : c = a
    · subst hca; rw [m_sI hc]; exact Rl.i (hk _ _ _ _ hl hr) Rl.n
    · rw [if_neg hca, if_neg hca]; exact Rl.n
  | 1 => Rl.aI hs fun v _ hr => Rl.aO hr fun c o r hc hr => by
    by_cases hca : c = a
    · subst hca; rw [m_sI hc]; exact Rl.i (Rl.i (hk _ _ _ _ hl hr) Rl.n) Rl.n
    · rw [if_neg hca, if_neg hca]; exact Rl.n
  | 2 => Rl.n
  | 3 => Rl.n
  | 4 => Rl.aO hs fun d g _ _ hr => Rl.aO hr fun c o r hc hr => by
    by_cases hca : c = a
    · subst hca; rw [m_sR hc]; exact Rl.i (Rl.i (hk _ _ _ _ hl hr) Rl.n) Rl.n
    · rw [if_neg hca, if_neg hca]; exact Rl.n
  | 5 => Rl.aL hs fun v _ hr => Rl.aO hr fun c o r hc hr => by
    by_cases hca : c = a
    · subst hca; rw [m_sL hc]; exact Rl.i (hk _ _ _ _ hl hr) Rl.n
    · rw [if_neg hca, if_neg hca]; exact Rl.n
  | _ + 6 => Rl.n
theorem locC (hk : LK S τ k) (hl : oL S lv) (hs : oS S st) : Rl S τ (cpo k i lv st (mrg S σ τ)) (cpo k i lv st σ) :=
  Rl.aI hs fun _ _ hr => Rl.aI hr fun _ _ hr => Rl.aX hr fun c o j r hc hr => Rl.aI hr fun _ _ hr => Rl.aX hr fun c0 o0 j0 r hc0 hr => by
    rw [m_gA hc, m_gA hc0, m_sA hc]
    exact Rl.i (Rl.i Rl.n (hk _ _ _ _ hl hr)) Rl.n
theorem loc8 (hc : LC S τ cal) (hk : LK S τ k) (hl : oL S lv) (hs : oS S st) (s : Nat) : Rl S τ (st8 cal k i s a b lv st (mrg S σ τ)) (st8 cal k i s a b lv st σ) := by
  refine Rl.i (locC hk hl hs) ?_
  cases hsp : spl b st [] with
  | none => exact Rl.n
  | some z =>
    obtain ⟨as, r⟩ := z
    obtain ⟨lst, g1, g2, g3⟩ := spl_eq _ _ _ _ _ hsp
    have h1 : oS S as := fun w hw => hs w (by rw [g2]; refine List.mem_append_left _ ?_; rw [g3, List.append_nil] at hw; exact List.mem_reverse.mp hw)
    have h2 : oS S r := fun w hw => hs w (by rw [g2]; exact List.mem_append_right _ hw)
    refine Rl.i ?_ Rl.n
    refine Rl.b (f := fun v σ' => k (i + 1) lv (v.toList ++ r) σ') (g := fun v σ' => k (i + 1) lv (v.toList ++ r) σ') (hc a as σ h1) (fun v σ' hv => hk _ _ _ _ hl (fun w hw => ?_))
    rcases List.mem_append.mp hw with z | z
    · cases v with
      | none => cases z
      | some y => rw [List.mem_singleton.mp z]; exact hv y rfl
    · exact h2 w z
theorem Rl.s {v : Option AV} (hv : okO S v) : Rl S τ (some (v, mrg S σ τ)) (some (v, σ)) := ⟨rfl, fun v' σ' h => by cases h; exact hv⟩
theorem Rl.e {x y : RS} (h : Rl S τ x y) : ∀ st : List AV, Rl S τ (aE st x) (aE st y)
  | [] => h
  | _ :: _ => Rl.n
theorem loc9 (hs : oS S st) : ∀ s, Rl S τ (st9 s st (mrg S σ τ)) (st9 s st σ)
  | 0 => Rl.aI hs fun _ r _ => Rl.e (Rl.s fun w h => by cases h; trivial) r
  | 1 => Rl.aI hs fun _ r _ => Rl.e (Rl.i (Rl.s fun w h => by cases h; trivial) Rl.n) r
  | 2 => Rl.aL hs fun _ r _ => Rl.e (Rl.s fun w h => by cases h; trivial) r
  | 3 => Rl.aR hs fun x r hx _ => Rl.e (Rl.s fun w h => by cases h; exact hx) r
  | 4 => Rl.e (Rl.s fun w h => by cases h) st
  | _ + 5 => Rl.n
theorem loc_stp (hS : Scl S) (hc : LC S τ cal) (hk : LK S τ k) (hl : oL S lv) (hs : oS S st) (op : OP) (hq : opq op = true) : Rl S τ (stp cal k i op lv st (mrg S σ τ)) (stp cal k i op lv st σ) := by
  obtain ⟨g, s, pc, im, a, b⟩ := op
  match g, hq with
  | 0, _ => exact loc0 hk hl hs s
  | 1, _ => exact loc1 hk hl hs s
  | 2, _ => exact loc2 hk hl hs s
  | 3, _ => exact loc3 hk hl hs s
  | 4, _ => exact loc4 hk hl hs s
  | 5, _ => exact loc5 hS hk hl hs s
  | 6, hq => exact loc6 hS hk hl hs s (of_decide_eq_true hq)
  | 7, _ => exact loc7 hk hl hs s
  | 8, _ => exact loc8 hc hk hl hs s
  | 9, _ => exact loc9 hs s
  | _ + 10, _ => exact Rl.n
theorem loc_ex (hS : Scl S) (hc : LC S τ cal) (C : List OP) (hC : C.all opq = true) : ∀ f, LK S τ (ex cal C f)
  | 0 => fun _ _ _ _ _ _ => Rl.n
  | f + 1 => fun i lv st σ hl hs => by
    have ih := loc_ex hS hc C hC f
    show Rl S τ (match C[i]? with
      | none => none
      | some op => stp cal (ex cal C f) i op lv st (mrg S σ τ)) (match C[i]? with
      | none => none
      | some op => stp cal (ex cal C f) i op lv st σ)
    cases hop : C[i]? with
    | none => exact Rl.n
    | some op => exact loc_stp hS hc ih hl hs op (List.all_eq_true.mp hC op (List.mem_of_getElem? hop))
end LST
theorem gd_out {α : Type} {l : List α} {n : Nat} {d : α} (h : l.length ≤ n) : l.getD n d = d := by
  rw [List.getD_eq_getElem?_getD, List.getElem?_eq_none h]
  rfl
theorem gd_in {α : Type} {l : List α} {n : Nat} {d : α} (h : n < l.length) : l.getD n d ∈ l := by
  rw [List.getD_eq_getElem?_getD, List.getElem?_eq_getElem h]
  exact List.getElem_mem h
theorem opq_all : ∀ a, (cod a).all opq = true := by
  have h : ∀ a ∈ List.range nM, (cod a).all opq = true := List.all_eq_true.mp (by decide +kernel)
  intro a
  by_cases ha : a < nM
  · exact h a (List.mem_range.mpr ha)
  · have hlen : codT.length = nM := by decide +kernel
    have e : cod a = [] := gd_out (by rw [hlen]; exact Nat.le_of_not_lt ha)
    rw [e]
    rfl
theorem loc_M {S : Nat → Bool} {τ : ST} (hS : Scl S) : ∀ f, LC S τ (exM f)
  | 0 => fun _ _ _ _ => Rl.n
  | f + 1 => fun a as σ hs => by
    have ih := loc_M (τ := τ) hS f
    show Rl S τ (if (ent1 as).length ≤ mL a then ex (exM f) (cod a) (f + 1) 0 (ent a as) [] (mrg S σ τ) else none) (if (ent1 as).length ≤ mL a then ex (exM f) (cod a) (f + 1) 0 (ent a as) [] σ else none)
    refine Rl.i (loc_ex hS ih _ (opq_all a) _ _ _ _ _ (fun w hw => ?_) (fun w hw => by cases hw)) Rl.n
    rw [ent] at hw
    rcases List.mem_append.mp hw with z | z
    · exact hs w (ent1_mem as w z)
    · have := List.eq_of_mem_replicate z
      cases this
/-- LOCALITY of a method -/
theorem den_loc {S : Nat → Bool} (hS : Scl S) {a : Nat} {as : List AV} {σ σ' : ST} {v : Option AV} (h : den a as σ = some (v, σ')) (hs : oS S as) (τ : ST) : den a as (mrg S σ τ) = some (v, mrg S σ' τ) := by
  obtain ⟨n, hn⟩ := (den_lim a as σ).2 _ h
  have h1 := (loc_M (τ := τ) hS n a as σ hs).1
  have hn1 : exM n a as σ = some (v, σ') := hn n (Nat.le_refl n)
  rw [hn1] at h1
  exact (den_lim a as (mrg S σ τ)).1 n _ h1
def sC (c : Nat) : Bool := decide (c < 12)
def sM (c : Nat) : Bool := decide (c = 12)
theorem fty_of {a b z : Nat} (h : fty a b = z) (hz : z < 9) : a < 13 ∧ b < cNn a := by
  have hq : ∀ a, a < 13 → (ftT.getD a []).length = cNn a := by decide
  have hl : ftT.length = 13 := rfl
  unfold fty at h
  by_cases ha : a < 13
  · refine ⟨ha, ?_⟩
    rw [← hq a ha]
    by_cases hb : b < (ftT.getD a []).length
    · exact hb
    · rw [gd_out (Nat.le_of_not_lt hb)] at h
      omega
  · rw [gd_out (l := ftT) (by rw [hl]; omega)] at h
    have : ([] : List Nat).getD b 9 = 9 := rfl
    rw [this] at h
    omega
def sclq (S : Nat → Bool) : Bool := (List.range 13).all fun a => (List.range (cNn a)).all fun b => !S a || ((decide (fty a b ≠ 3) || S (sub a 0 b).1) && (decide (fty a b ≠ 4) || S 2))
theorem sub_1 (a o b : Nat) : (sub a o b).1 = (sub a 0 b).1 := by
  unfold sub
  split <;> rfl
theorem ar4 {c j : Nat} (h : (ar c j).1 = 4) : c = 2 := by
  have hq : ∀ c, c < 13 → c ≠ 2 → ∀ x ∈ arT.getD c [], x.1 ≠ 4 := by decide +kernel
  have hl : arT.length = 13 := rfl
  by_cases hc : c < 13
  · by_cases h2 : c = 2
    · exact h2
    · unfold ar at h
      by_cases hj : j < (arT.getD c []).length
      · exact absurd h (hq c hc h2 _ (gd_in hj))
      · rw [gd_out (Nat.le_of_not_lt hj)] at h
        exact absurd h (by decide)
  · unfold ar at h
    rw [gd_out (l := arT) (by rw [hl]; omega)] at h
    exact absurd h (by show ¬ (9 : Nat) = 4; decide)
theorem scl_of {S : Nat → Bool} (h : sclq S = true) (h4 : S 2 = true → S 3 = true) : Scl S := by
  have key : ∀ a b z, fty a b = z → z < 9 → S a = true → (z = 3 → S (sub a 0 b).1 = true) ∧ (z = 4 → S 2 = true) := by
    intro a b z hz hlt ha
    obtain ⟨h1, h2⟩ := fty_of hz hlt
    have h3 := List.all_eq_true.mp (List.all_eq_true.mp h a (List.mem_range.mpr h1)) b (List.mem_range.mpr h2)
    rw [hz, ha] at h3
    simp only [Bool.not_true, Bool.false_or, Bool.and_eq_true, Bool.or_eq_true, decide_eq_true_eq] at h3
    refine ⟨fun e => ?_, fun e => ?_⟩
    · rcases h3.1 with z | z
      · exact absurd e z
      · exact z
    · rcases h3.2 with z | z
      · exact absurd e z
      · exact z
  refine ⟨fun a o b ha hf => ?_, fun a b ha hf => ?_, fun c j hc hj => ?_⟩
  · rw [sub_1]
    exact (key a b 3 hf (by decide) ha).1 rfl
  · exact (key a b 4 hf (by decide) ha).2 rfl
  · have := ar4 hj
    subst this
    exact h4 hc
theorem sclC : Scl sC := scl_of (by decide +kernel) (fun _ => rfl)
theorem sclM : Scl sM := scl_of (by decide +kernel) (fun h => by cases h)
