/-! SOUNDNESS: what the abstract machine answers, the machine answers -/
section INV
variable {res : Option AV × ST}
theorem aI_inv : ∀ {st : List AV} {f : Int32 → List AV → RS}, aI st f = some res → ∃ x r, st = vI x :: r ∧ f x r = some res
  | .inl x :: r, _, h => ⟨x, r, rfl, h⟩
  | [], _, h => by simp [aI] at h
  | .inr _ :: _, _, h => by simp [aI] at h
theorem aL_inv : ∀ {st : List AV} {f : Int64 → List AV → RS}, aL st f = some res → ∃ x r, st = vL x :: r ∧ f x r = some res
  | .inr (.inl x) :: r, _, h => ⟨x, r, rfl, h⟩
  | [], _, h => by simp [aL] at h
  | .inl _ :: _, _, h => by simp [aL] at h
  | .inr (.inr _) :: _, _, h => by simp [aL] at h
theorem aR_inv : ∀ {st : List AV} {f : Nat × Nat × Nat → List AV → RS}, aR st f = some res → ∃ t r, st = .inr (.inr t) :: r ∧ f t r = some res
  | .inr (.inr t) :: r, _, h => ⟨t, r, rfl, h⟩
  | [], _, h => by simp [aR] at h
  | .inl _ :: _, _, h => by simp [aR] at h
  | .inr (.inl _) :: _, _, h => by simp [aR] at h
theorem aO_inv : ∀ {st : List AV} {f : Nat → Nat → List AV → RS}, aO st f = some res → ∃ c o r, st = vR c o 0 :: r ∧ f c o r = some res
  | .inr (.inr (c, o, 0)) :: r, _, h => ⟨c, o, r, rfl, h⟩
  | .inr (.inr (_, _, _ + 1)) :: r, _, h => by simp [aO] at h
  | [], _, h => by simp [aO] at h
  | .inl _ :: _, _, h => by simp [aO] at h
  | .inr (.inl _) :: _, _, h => by simp [aO] at h
theorem aX_inv : ∀ {st : List AV} {f : Nat → Nat → Nat → List AV → RS}, aX st f = some res → ∃ c o j r, st = vR c o (j + 1) :: r ∧ f c o j r = some res
  | .inr (.inr (c, o, j + 1)) :: r, _, h => ⟨c, o, j, r, rfl, h⟩
  | .inr (.inr (_, _, 0)) :: r, _, h => by simp [aX] at h
  | [], _, h => by simp [aX] at h
  | .inl _ :: _, _, h => by simp [aX] at h
  | .inr (.inl _) :: _, _, h => by simp [aX] at h
theorem a1_inv : ∀ {st : List AV} {f : AV → List AV → RS}, a1 st f = some res → ∃ v r, st = v :: r ∧ catV v = 1 ∧ f v r = some res
  | .inl x :: r, _, h => ⟨_, r, rfl, rfl, h⟩
  | .inr (.inr t) :: r, _, h => ⟨_, r, rfl, rfl, h⟩
  | [], _, h => by simp [a1] at h
  | .inr (.inl _) :: _, _, h => by simp [a1] at h
theorem aE_inv : ∀ {st : List AV} {x : RS}, aE st x = some res → st = [] ∧ x = some res
  | [], _, h => ⟨rfl, h⟩
  | _ :: _, _, h => by simp [aE] at h
theorem lI_inv {lv : LV} {a : Nat} {f : Int32 → RS} (h : lI lv a f = some res) : ∃ x, lv[a]? = some (some (vI x)) ∧ f x = some res := by
  unfold lI at h
  split at h
  next x hx => exact ⟨x, hx, h⟩
  next => cases h
theorem lL_inv {lv : LV} {a : Nat} {f : Int64 → RS} (h : lL lv a f = some res) : ∃ x, lv[a]? = some (some (vL x)) ∧ f x = some res := by
  unfold lL at h
  split at h
  next x hx => exact ⟨x, hx, h⟩
  next => cases h
theorem lR_inv {lv : LV} {a : Nat} {f : Nat × Nat × Nat → RS} (h : lR lv a f = some res) : ∃ t, lv[a]? = some (some (.inr (.inr t))) ∧ f t = some res := by
  unfold lR at h
  split at h
  next x hx => exact ⟨x, hx, h⟩
  next => cases h
theorem iN {c : Prop} [Decidable c] {X : RS} (h : (if c then none else X) = some res) : ¬ c ∧ X = some res := by
  by_cases hc : c
  · rw [if_pos hc] at h; cases h
  · rw [if_neg hc] at h; exact ⟨hc, h⟩
theorem iS {c : Prop} [Decidable c] {X : RS} (h : (if c then X else none) = some res) : c ∧ X = some res := by
  by_cases hc : c
  · rw [if_pos hc] at h; exact ⟨hc, h⟩
  · rw [if_neg hc] at h; cases h
theorem ok_t {a : AV} {r : List AV} (h : ∀ v ∈ a :: r, okv v) : ∀ v ∈ r, okv v := fun v hv => h v (List.mem_cons_of_mem _ hv)
theorem ok_c {a : AV} {r : List AV} (h0 : okv a) (h : ∀ v ∈ r, okv v) : ∀ v ∈ a :: r, okv v := fun v hv => by
  rcases List.mem_cons.mp hv with rfl | hv
  · exact h0
  · exact h v hv
theorem ok_h {a : AV} {r : List AV} (h : ∀ v ∈ a :: r, okv v) : okv a := h a List.mem_cons_self
theorem ok_sto {lv : LV} {i : Nat} {v : AV} (h0 : okv v) (h : ∀ w, some w ∈ lv → okv w) : ∀ w, some w ∈ sto lv i v → okv w := fun w hw => by
  obtain ⟨j, hj⟩ := List.getElem?_of_mem hw
  rcases sto_get lv i v j w hj with ⟨-, rfl⟩ | ⟨-, h2, -⟩
  · exact h0
  · exact h w (List.mem_of_getElem? h2)
theorem ok_stoL {lv : LV} {i : Nat} {v : Int64} (h : ∀ w, some w ∈ lv → okv w) : ∀ w, some w ∈ stoL lv i v → okv w := fun w hw => by
  obtain ⟨j, hj⟩ := List.getElem?_of_mem hw
  rcases stoL_get lv i v j w hj with ⟨-, rfl⟩ | ⟨-, -, h2, -⟩
  · exact trivial
  · exact h w (List.mem_of_getElem? h2)
end INV
def QcM (D : va_G) (q : Nat → ClassId) (ρ : Nat × Nat × Nat → Nat) (A : Nat → Prop) (res : Option AV × ST) : Array Value → State → Outcome → State → Prop := fun _ st oc t => oc = .returned (res.1.map (conc ρ)) ∧ (∀ w, res.1 = some w → okv w) ∧ okR res.2 ∧ va_P D cl13 (wld ρ q res.2) t.heap ∧ va_F A st t
def CX (p : Program) (R : Room) (s : State) (m : MethodId) (args : Array Value) (meth : Method) (c : Code) (D : va_G) (q : Nat → ClassId) (ρ : Nat × Nat × Nat → Nat) (A : Nat → Prop) (M : Nat) : Prop :=
  p.tables.exec = Jvm.exec ∧ c.code = mC M ∧ c.maxLocals = mL M ∧ s.vm.findClass (cnm (mO M)) = some m.cls ∧ (∀ w ∈ tbG, w.before args s = true) ∧ NW s ∧ va_K D cl13 (tyq q) s ∧ (∀ σ, va_D A (wld ρ q σ)) ∧ (∀ x, s.heap.size ≤ x → A x) ∧ R = { frames := mF M, cells := 0, slots := 0, locals := mQ M } ∧ meth.sig.returnType = mR M ∧ meth.locks = false
def OKS (lv : LV) (st : List AV) (σ : ST) : Prop := (∀ v, some v ∈ lv → okv v) ∧ (∀ v ∈ st, okv v) ∧ okR σ
section SND
variable {p : Program} {l : Launch} {e : Env} {R : Room} {s : State} {m : MethodId} {args : Array Value} {below : List Frame} {meth : Method} {c : Code} {D : va_G} {q : Nat → ClassId} {ρ : Nat × Nat × Nat → Nat} {A : Nat → Prop} {M : Nat} {res : Option AV × ST}
abbrev WW (p : Program) (l : Launch) (e : Env) (R : Room) (s : State) (m : MethodId) (args : Array Value) (below : List Frame) (meth : Method) (c : Code) (D : va_G) (q : Nat → ClassId) (ρ : Nat × Nat × Nat → Nat) (A : Nat → Prop) (res : Option AV × ST) (H : Heap) (locs : List Loc) (g : JFrame) : Prop := W p l e R s m args below meth c H locs 0 0 (MQ below (QcM D q ρ A res) args s 0 0 A) g
/-- from where k answers res, the machine comes there -/
def GK (p : Program) (l : Launch) (e : Env) (R : Room) (s : State) (m : MethodId) (args : Array Value) (below : List Frame) (meth : Method) (c : Code) (D : va_G) (q : Nat → ClassId) (ρ : Nat × Nat × Nat → Nat) (A : Nat → Prop) (M : Nat) (k : KT) (res : Option AV × ST) : Prop :=
  ∀ i lv st σ H locs ls, k i lv st σ = some res → LR ρ (mL M) ls lv → OKS lv st σ → va_P D cl13 (wld ρ q σ) H → va_S A s.heap H locs → WW p l e R s m args below meth c D q ρ A res H locs (F0 m (pcO (cod M) i) ls (st.map (conc ρ)))
variable {k : KT} {i im_ a b pc : Nat} {im : Int} {lv : LV} {st : List AV} {σ : ST} {H : Heap} {locs : List Loc} {ls : Array Slot}
theorem snd0 (X : CX p R s m args meth c D q ρ A M) (hk : GK p l e R s m args below meth c D q ρ A M k res) (hl : LR ρ (mL M) ls lv) (ho : OKS lv st σ) (hP : va_P D cl13 (wld ρ q σ) H) (hS : va_S A s.heap H locs) :
    ∀ s' : Nat, ft0 (mC M) pc (pcO (cod M) (i + 1)) (mO M) (mL M) s' im a b = true → st0 k i s' im a lv st σ = some res → WW p l e R s m args below meth c D q ρ A res H locs (F0 m pc ls (st.map (conc ρ))) := by
  obtain ⟨hx, hb, hml, hown, hts, -⟩ := X
  obtain ⟨o1, o2, o3⟩ := ho
  intro s' hf h
  match s', hf, h with
  | 0, hf, h =>
    have hn := hk _ _ _ _ H locs ls h hl ⟨o1, ok_c trivial o2, o3⟩ hP hS
    simp only [ft0] at hf
    split at hf <;> try simp only [Bool.and_eq_true, decide_eq_true_eq] at hf
    · rw [hf.2] at hn
      exact lv_iconst hx hb (dq_ok hf.1) rfl hn
    · rw [hf.1.2] at hn
      exact lv_bipush hx hb (dq_ok hf.1.1) hf.2 hn
    · rw [hf.1.2] at hn
      exact lv_sipush hx hb (dq_ok hf.1.1) hf.2 hn
    · rw [hf.1.2] at hn
      exact lv_ldc hx hb hown (hts _ (ki_in _ hf.2)) (dq_ok hf.1.1) hn
    · rw [hf.1.2] at hn
      exact lv_ldcw hx hb hown (hts _ (ki_in _ hf.2)) (dq_ok hf.1.1) hn
    · cases hf
  | 1, hf, h =>
    have hn := hk _ _ _ _ H locs ls h hl ⟨o1, ok_c trivial o2, o3⟩ hP hS
    simp only [ft0] at hf
    split at hf <;> try simp only [Bool.and_eq_true, decide_eq_true_eq] at hf
    · obtain ⟨⟨h1, h2⟩, rfl⟩ := hf
      rw [h2] at hn
      exact lv_lconst hx hb (dq_ok h1) rfl hn
    · obtain ⟨⟨h1, h2⟩, rfl⟩ := hf
      rw [h2] at hn
      exact lv_lconst hx hb (dq_ok h1) rfl hn
    · rw [hf.1.2] at hn
      exact lv_ldc2 hx hb hown (hts _ (kl_in _ hf.2)) (dq_ok hf.1.1) hn
    · cases hf
  | 2, hf, h =>
    obtain ⟨x, hx0, h⟩ := lI_inv h
    have hn := hk _ _ _ _ H locs ls h hl ⟨o1, ok_c trivial o2, o3⟩ hP hS
    have hg := hl.2.2.2 a _ hx0
    simp only [ft0, lq] at hf
    split at hf <;> try simp only [Bool.and_eq_true, decide_eq_true_eq] at hf
    · obtain ⟨⟨h1, h2⟩, h3⟩ := hf
      rw [h2] at hn
      exact lv_iload_n hx hb (dq_ok h1) h3.symm hg hn
    · rw [hf.2] at hn
      exact lv_iload hx hb (dq_ok hf.1) hg hn
  | 3, hf, h =>
    obtain ⟨x, hx0, h⟩ := lL_inv h
    have hn := hk _ _ _ _ H locs ls h hl ⟨o1, ok_c trivial o2, o3⟩ hP hS
    have hg := hl.2.2.2 a _ hx0
    simp only [ft0, lq] at hf
    split at hf <;> try simp only [Bool.and_eq_true, decide_eq_true_eq] at hf
    · obtain ⟨⟨h1, h2⟩, h3⟩ := hf
      rw [h2] at hn
      exact lv_lload_n hx hb (dq_ok h1) h3.symm hg hn
    · rw [hf.2] at hn
      exact lv_lload hx hb (dq_ok hf.1) hg hn
  | 4, hf, h =>
    obtain ⟨x, hx0, h⟩ := lR_inv h
    have hn := hk _ _ _ _ H locs ls h hl ⟨o1, ok_c (o1 _ (List.mem_of_getElem? hx0)) o2, o3⟩ hP hS
    have hg := hl.2.2.2 a _ hx0
    simp only [ft0, lq] at hf
    split at hf <;> try simp only [Bool.and_eq_true, decide_eq_true_eq] at hf
    · obtain ⟨⟨h1, h2⟩, h3⟩ := hf
      rw [h2] at hn
      exact lv_aload_n hx hb (dq_ok h1) h3.symm hg hn
    · rw [hf.2] at hn
      exact lv_aload hx hb (dq_ok hf.1) hg hn
  | 5, hf, h =>
    obtain ⟨x, r, rfl, h⟩ := aI_inv h
    simp only [ft0, lq] at hf
    split at hf <;> try simp only [Bool.and_eq_true, decide_eq_true_eq] at hf
    · obtain ⟨⟨⟨h1, h2⟩, h3⟩, h4⟩ := hf
      refine lv_istore_n hx hb (dq_ok h1) h3.symm hl.has h4 rfl (fun ls' h' => ?_)
      have hn := hk _ _ _ _ H locs ls' h (hl.sto (v := vI x) h') ⟨ok_sto trivial o1, ok_t o2, o3⟩ hP hS
      rw [h2] at hn
      exact hn
    · obtain ⟨⟨h1, h2⟩, h4⟩ := hf
      refine lv_istore hx hb (dq_ok h1) hl.has h4 rfl (fun ls' h' => ?_)
      have hn := hk _ _ _ _ H locs ls' h (hl.sto (v := vI x) h') ⟨ok_sto trivial o1, ok_t o2, o3⟩ hP hS
      rw [h2] at hn
      exact hn
  | 6, hf, h =>
    obtain ⟨x, r, rfl, h⟩ := aL_inv h
    simp only [ft0, lq] at hf
    split at hf <;> try simp only [Bool.and_eq_true, decide_eq_true_eq] at hf
    · obtain ⟨⟨⟨h1, h2⟩, h3⟩, h4⟩ := hf
      refine lv_lstore_n hx hb (dq_ok h1) h3.symm hl.has h4 rfl (fun ls' h' => ?_)
      have hn := hk _ _ _ _ H locs ls' h (hl.stoL h') ⟨ok_stoL o1, ok_t o2, o3⟩ hP hS
      rw [h2] at hn
      exact hn
    · obtain ⟨⟨h1, h2⟩, h4⟩ := hf
      refine lv_lstore hx hb (dq_ok h1) hl.has h4 rfl (fun ls' h' => ?_)
      have hn := hk _ _ _ _ H locs ls' h (hl.stoL h') ⟨ok_stoL o1, ok_t o2, o3⟩ hP hS
      rw [h2] at hn
      exact hn
  | 7, hf, h =>
    obtain ⟨x, r, rfl, h⟩ := aR_inv h
    simp only [ft0, lq] at hf
    split at hf <;> try simp only [Bool.and_eq_true, decide_eq_true_eq] at hf
    · obtain ⟨⟨⟨h1, h2⟩, h3⟩, h4⟩ := hf
      refine lv_astore_n hx hb (dq_ok h1) h3.symm hl.has h4 rfl (fun ls' h' => ?_)
      have hn := hk _ _ _ _ H locs ls' h (hl.sto (v := .inr (.inr x)) h') ⟨ok_sto (ok_h o2) o1, ok_t o2, o3⟩ hP hS
      rw [h2] at hn
      exact hn
    · obtain ⟨⟨h1, h2⟩, h4⟩ := hf
      refine lv_astore hx hb (dq_ok h1) hl.has h4 rfl (fun ls' h' => ?_)
      have hn := hk _ _ _ _ H locs ls' h (hl.sto (v := .inr (.inr x)) h') ⟨ok_sto (ok_h o2) o1, ok_t o2, o3⟩ hP hS
      rw [h2] at hn
      exact hn
  | 8, hf, h =>
    obtain ⟨x, hx0, h⟩ := lI_inv h
    simp only [ft0, Bool.and_eq_true, decide_eq_true_eq] at hf
    obtain ⟨⟨h1, h2⟩, h4⟩ := hf
    obtain ⟨kk, hkk⟩ := List.getElem?_of_mem ((prs_mem (ρ := ρ) lv 0 (a, .int x)).mpr ⟨a, vI x, hx0, by rw [Nat.zero_add]; rfl⟩)
    refine lv_iinc hx hb (dq_ok h1) hl.has (k := kk) hkk rfl h4 rfl (fun ls' h' => ?_)
    have hn := hk _ _ _ _ H locs ls' h (hl.sto (v := vI (x + Int32.ofInt im)) h') ⟨ok_sto trivial o1, o2, o3⟩ hP hS
    rw [h2] at hn
    exact hn
  | _ + 9, hf, _ => exact absurd (show false = true from hf) Bool.false_ne_true
theorem snd1 (X : CX p R s m args meth c D q ρ A M) (hk : GK p l e R s m args below meth c D q ρ A M k res) (hl : LR ρ (mL M) ls lv) (ho : OKS lv st σ) (hP : va_P D cl13 (wld ρ q σ) H) (hS : va_S A s.heap H locs) :
    ∀ s' : Nat, ft1 (mC M) pc (pcO (cod M) (i + 1)) s' = true → st1 k i s' lv st σ = some res → WW p l e R s m args below meth c D q ρ A res H locs (F0 m pc ls (st.map (conc ρ))) := by
  obtain ⟨hx, hb, -⟩ := X
  obtain ⟨o1, o2, o3⟩ := ho
  intro s' hf h
  match s', hf, h with
  | 0, hf, h =>
    obtain ⟨y, r, rfl, h⟩ := aI_inv h
    obtain ⟨x, r, rfl, h⟩ := aI_inv h
    simp only [ft1, Bool.and_eq_true, decide_eq_true_eq] at hf
    have hn := hk _ _ _ _ H locs ls h hl ⟨o1, ok_c trivial (ok_t (ok_t o2)), o3⟩ hP hS
    rw [hf.2] at hn
    exact lv_iadd hx hb (dq_ok hf.1) hn
  | 1, hf, h =>
    obtain ⟨y, r, rfl, h⟩ := aI_inv h
    obtain ⟨x, r, rfl, h⟩ := aI_inv h
    simp only [ft1, Bool.and_eq_true, decide_eq_true_eq] at hf
    have hn := hk _ _ _ _ H locs ls h hl ⟨o1, ok_c trivial (ok_t (ok_t o2)), o3⟩ hP hS
    rw [hf.2] at hn
    exact lv_isub hx hb (dq_ok hf.1) hn
  | 2, hf, h =>
    obtain ⟨y, r, rfl, h⟩ := aI_inv h
    obtain ⟨x, r, rfl, h⟩ := aI_inv h
    simp only [ft1, Bool.and_eq_true, decide_eq_true_eq] at hf
    have hn := hk _ _ _ _ H locs ls h hl ⟨o1, ok_c trivial (ok_t (ok_t o2)), o3⟩ hP hS
    rw [hf.2] at hn
    exact lv_imul hx hb (dq_ok hf.1) hn
  | 3, hf, h =>
    obtain ⟨y, r, rfl, h⟩ := aI_inv h
    obtain ⟨x, r, rfl, h⟩ := aI_inv h
    simp only [ft1, Bool.and_eq_true, decide_eq_true_eq] at hf
    have hn := hk _ _ _ _ H locs ls h hl ⟨o1, ok_c trivial (ok_t (ok_t o2)), o3⟩ hP hS
    rw [hf.2] at hn
    exact lv_iand hx hb (dq_ok hf.1) hn
  | 4, hf, h =>
    obtain ⟨y, r, rfl, h⟩ := aI_inv h
    obtain ⟨x, r, rfl, h⟩ := aI_inv h
    simp only [ft1, Bool.and_eq_true, decide_eq_true_eq] at hf
    have hn := hk _ _ _ _ H locs ls h hl ⟨o1, ok_c trivial (ok_t (ok_t o2)), o3⟩ hP hS
    rw [hf.2] at hn
    exact lv_ior hx hb (dq_ok hf.1) hn
  | 5, hf, h =>
    obtain ⟨y, r, rfl, h⟩ := aI_inv h
    obtain ⟨x, r, rfl, h⟩ := aI_inv h
    simp only [ft1, Bool.and_eq_true, decide_eq_true_eq] at hf
    have hn := hk _ _ _ _ H locs ls h hl ⟨o1, ok_c trivial (ok_t (ok_t o2)), o3⟩ hP hS
    rw [hf.2] at hn
    exact lv_ixor hx hb (dq_ok hf.1) hn
  | 6, hf, h =>
    obtain ⟨y, r, rfl, h⟩ := aI_inv h
    obtain ⟨x, r, rfl, h⟩ := aI_inv h
    simp only [ft1, Bool.and_eq_true, decide_eq_true_eq] at hf
    have hn := hk _ _ _ _ H locs ls h hl ⟨o1, ok_c trivial (ok_t (ok_t o2)), o3⟩ hP hS
    rw [hf.2] at hn
    exact lv_ishl hx hb (dq_ok hf.1) hn
  | 7, hf, h =>
    obtain ⟨y, r, rfl, h⟩ := aI_inv h
    obtain ⟨x, r, rfl, h⟩ := aI_inv h
    simp only [ft1, Bool.and_eq_true, decide_eq_true_eq] at hf
    have hn := hk _ _ _ _ H locs ls h hl ⟨o1, ok_c trivial (ok_t (ok_t o2)), o3⟩ hP hS
    rw [hf.2] at hn
    exact lv_ishr hx hb (dq_ok hf.1) hn
  | 8, hf, h =>
    obtain ⟨y, r, rfl, h⟩ := aI_inv h
    obtain ⟨x, r, rfl, h⟩ := aI_inv h
    simp only [ft1, Bool.and_eq_true, decide_eq_true_eq] at hf
    have hn := hk _ _ _ _ H locs ls h hl ⟨o1, ok_c trivial (ok_t (ok_t o2)), o3⟩ hP hS
    rw [hf.2] at hn
    exact lv_iushr hx hb (dq_ok hf.1) rfl hn
  | 9, hf, h =>
    obtain ⟨y, r, rfl, h⟩ := aI_inv h
    obtain ⟨x, r, rfl, h⟩ := aI_inv h
    obtain ⟨h0, h⟩ := iN h
    simp only [ft1, Bool.and_eq_true, decide_eq_true_eq] at hf
    have hn := hk _ _ _ _ H locs ls h hl ⟨o1, ok_c trivial (ok_t (ok_t o2)), o3⟩ hP hS
    rw [hf.2] at hn
    exact lv_idiv hx hb (dq_ok hf.1) h0 hn
  | 10, hf, h =>
    obtain ⟨y, r, rfl, h⟩ := aI_inv h
    obtain ⟨x, r, rfl, h⟩ := aI_inv h
    obtain ⟨h0, h⟩ := iN h
    simp only [ft1, Bool.and_eq_true, decide_eq_true_eq] at hf
    have hn := hk _ _ _ _ H locs ls h hl ⟨o1, ok_c trivial (ok_t (ok_t o2)), o3⟩ hP hS
    rw [hf.2] at hn
    exact lv_irem hx hb (dq_ok hf.1) h0 hn
  | 11, hf, h =>
    obtain ⟨x, r, rfl, h⟩ := aI_inv h
    simp only [ft1, Bool.and_eq_true, decide_eq_true_eq] at hf
    have hn := hk _ _ _ _ H locs ls h hl ⟨o1, ok_c trivial (ok_t o2), o3⟩ hP hS
    rw [hf.2] at hn
    exact lv_ineg hx hb (dq_ok hf.1) hn
  | 12, hf, h =>
    obtain ⟨x, r, rfl, h⟩ := aI_inv h
    simp only [ft1, Bool.and_eq_true, decide_eq_true_eq] at hf
    have hn := hk _ _ _ _ H locs ls h hl ⟨o1, ok_c trivial (ok_t o2), o3⟩ hP hS
    rw [hf.2] at hn
    exact lv_i2l hx hb (dq_ok hf.1) rfl hn
  | 13, hf, h =>
    obtain ⟨x, r, rfl, h⟩ := aL_inv h
    simp only [ft1, Bool.and_eq_true, decide_eq_true_eq] at hf
    have hn := hk _ _ _ _ H locs ls h hl ⟨o1, ok_c trivial (ok_t o2), o3⟩ hP hS
    rw [hf.2] at hn
    exact lv_l2i hx hb (dq_ok hf.1) rfl hn
  | 14, hf, h =>
    obtain ⟨x, r, rfl, h⟩ := aI_inv h
    simp only [ft1, Bool.and_eq_true, decide_eq_true_eq] at hf
    have hn := hk _ _ _ _ H locs ls h hl ⟨o1, ok_c trivial (ok_t o2), o3⟩ hP hS
    rw [hf.2] at hn
    exact lv_i2b hx hb (dq_ok hf.1) rfl hn
  | _ + 15, hf, _ => exact absurd (show false = true from hf) Bool.false_ne_true
theorem snd2 (X : CX p R s m args meth c D q ρ A M) (hk : GK p l e R s m args below meth c D q ρ A M k res) (hl : LR ρ (mL M) ls lv) (ho : OKS lv st σ) (hP : va_P D cl13 (wld ρ q σ) H) (hS : va_S A s.heap H locs) :
    ∀ s' : Nat, ft2 (mC M) pc (pcO (cod M) (i + 1)) s' = true → st2 k i s' lv st σ = some res → WW p l e R s m args below meth c D q ρ A res H locs (F0 m pc ls (st.map (conc ρ))) := by
  obtain ⟨hx, hb, -⟩ := X
  obtain ⟨o1, o2, o3⟩ := ho
  intro s' hf h
  match s', hf, h with
  | 0, hf, h =>
    obtain ⟨y, r, rfl, h⟩ := aL_inv h
    obtain ⟨x, r, rfl, h⟩ := aL_inv h
    simp only [ft2, Bool.and_eq_true, decide_eq_true_eq] at hf
    have hn := hk _ _ _ _ H locs ls h hl ⟨o1, ok_c trivial (ok_t (ok_t o2)), o3⟩ hP hS
    rw [hf.2] at hn
    exact lv_ladd hx hb (dq_ok hf.1) hn
  | 1, hf, h =>
    obtain ⟨y, r, rfl, h⟩ := aL_inv h
    obtain ⟨x, r, rfl, h⟩ := aL_inv h
    simp only [ft2, Bool.and_eq_true, decide_eq_true_eq] at hf
    have hn := hk _ _ _ _ H locs ls h hl ⟨o1, ok_c trivial (ok_t (ok_t o2)), o3⟩ hP hS
    rw [hf.2] at hn
    exact lv_lsub hx hb (dq_ok hf.1) hn
  | 2, hf, h =>
    obtain ⟨y, r, rfl, h⟩ := aL_inv h
    obtain ⟨x, r, rfl, h⟩ := aL_inv h
    simp only [ft2, Bool.and_eq_true, decide_eq_true_eq] at hf
    have hn := hk _ _ _ _ H locs ls h hl ⟨o1, ok_c trivial (ok_t (ok_t o2)), o3⟩ hP hS
    rw [hf.2] at hn
    exact lv_lmul hx hb (dq_ok hf.1) hn
  | 3, hf, h =>
    obtain ⟨y, r, rfl, h⟩ := aL_inv h
    obtain ⟨x, r, rfl, h⟩ := aL_inv h
    simp only [ft2, Bool.and_eq_true, decide_eq_true_eq] at hf
    have hn := hk _ _ _ _ H locs ls h hl ⟨o1, ok_c trivial (ok_t (ok_t o2)), o3⟩ hP hS
    rw [hf.2] at hn
    exact lv_land hx hb (dq_ok hf.1) hn
  | 4, hf, h =>
    obtain ⟨y, r, rfl, h⟩ := aL_inv h
    obtain ⟨x, r, rfl, h⟩ := aL_inv h
    obtain ⟨h0, h⟩ := iN h
    simp only [ft2, Bool.and_eq_true, decide_eq_true_eq] at hf
    have hn := hk _ _ _ _ H locs ls h hl ⟨o1, ok_c trivial (ok_t (ok_t o2)), o3⟩ hP hS
    rw [hf.2] at hn
    exact lv_ldiv hx hb (dq_ok hf.1) h0 hn
  | 5, hf, h =>
    obtain ⟨y, r, rfl, h⟩ := aL_inv h
    obtain ⟨x, r, rfl, h⟩ := aL_inv h
    obtain ⟨h0, h⟩ := iN h
    simp only [ft2, Bool.and_eq_true, decide_eq_true_eq] at hf
    have hn := hk _ _ _ _ H locs ls h hl ⟨o1, ok_c trivial (ok_t (ok_t o2)), o3⟩ hP hS
    rw [hf.2] at hn
    exact lv_lrem hx hb (dq_ok hf.1) h0 hn
  | 6, hf, h =>
    obtain ⟨x, r, rfl, h⟩ := aL_inv h
    simp only [ft2, Bool.and_eq_true, decide_eq_true_eq] at hf
    have hn := hk _ _ _ _ H locs ls h hl ⟨o1, ok_c trivial (ok_t o2), o3⟩ hP hS
    rw [hf.2] at hn
    exact lv_lneg hx hb (dq_ok hf.1) hn
  | 7, hf, h =>
    obtain ⟨y, r, rfl, h⟩ := aL_inv h
    obtain ⟨x, r, rfl, h⟩ := aL_inv h
    simp only [ft2, Bool.and_eq_true, decide_eq_true_eq] at hf
    have hn := hk _ _ _ _ H locs ls h hl ⟨o1, ok_c trivial (ok_t (ok_t o2)), o3⟩ hP hS
    rw [hf.2] at hn
    exact W.lcmp hx hb (dq_ok hf.1) hn
  | _ + 8, hf, _ => exact absurd (show false = true from hf) Bool.false_ne_true
theorem snd3 (X : CX p R s m args meth c D q ρ A M) (hk : GK p l e R s m args below meth c D q ρ A M k res) (hl : LR ρ (mL M) ls lv) (ho : OKS lv st σ) (hP : va_P D cl13 (wld ρ q σ) H) (hS : va_S A s.heap H locs) :
    ∀ s' : Nat, ft3 (mC M) pc (pcO (cod M) (i + 1)) s' = true → st3 k i s' lv st σ = some res → WW p l e R s m args below meth c D q ρ A res H locs (F0 m pc ls (st.map (conc ρ))) := by
  obtain ⟨hx, hb, -⟩ := X
  obtain ⟨o1, o2, o3⟩ := ho
  intro s' hf h
  match s', hf, h with
  | 0, hf, h =>
    replace h : a1 st (fun v r => k (i + 1) lv (v :: v :: r) σ) = some res := h
    obtain ⟨v, r, rfl, hv, h⟩ := a1_inv h
    simp only [ft3, Bool.and_eq_true, decide_eq_true_eq] at hf
    have hn := hk _ _ _ _ H locs ls h hl ⟨o1, ok_c (ok_h o2) o2, o3⟩ hP hS
    rw [hf.2] at hn
    exact lv_dup hx hb (dq_ok hf.1) ((conc_cat v).trans hv) hn
  | 1, hf, h =>
    replace h : a1 st (fun v r => a1 r fun w r => k (i + 1) lv (v :: w :: v :: w :: r) σ) = some res := h
    obtain ⟨v, r, rfl, hv, h⟩ := a1_inv h
    obtain ⟨w, r, rfl, hw, h⟩ := a1_inv h
    simp only [ft3, Bool.and_eq_true, decide_eq_true_eq] at hf
    have hn := hk _ _ _ _ H locs ls h hl ⟨o1, ok_c (ok_h o2) (ok_c (ok_h (ok_t o2)) o2), o3⟩ hP hS
    rw [hf.2] at hn
    exact lv_dup2_11 hx hb (dq_ok hf.1) ((conc_cat v).trans hv) ((conc_cat w).trans hw) hn
  | 2, hf, h =>
    replace h : a1 st (fun _ r => k (i + 1) lv r σ) = some res := h
    obtain ⟨v, r, rfl, hv, h⟩ := a1_inv h
    simp only [ft3, Bool.and_eq_true, decide_eq_true_eq] at hf
    have hn := hk _ _ _ _ H locs ls h hl ⟨o1, ok_t o2, o3⟩ hP hS
    rw [hf.2] at hn
    exact lv_pop hx hb (dq_ok hf.1) ((conc_cat v).trans hv) hn
  | _ + 3, hf, _ => exact absurd (show false = true from hf) Bool.false_ne_true
/-- a switch, row by row -/
theorem tsw_inv (C : List OP) (pc : Nat) (x : Int32) (d : Nat) (lv : LV) (st : List AV) (σ : ST) : ∀ (ts : List Nat) (os : List Int) (lo : Int), swq C pc lo ts os = true → tsw k lv st σ x d ts lo = some res →
    (∃ (j t : Nat) (o : Int), os[j]? = some o ∧ x.toInt = lo + j ∧ (pc : Int) + o = (pcO C t : Int) ∧ k t lv st σ = some res) ∨ ((∀ j : Nat, j < ts.length → x.toInt ≠ lo + j) ∧ k d lv st σ = some res)
  | [], [], lo, _, h => Or.inr ⟨fun j hj => absurd hj (Nat.not_lt_zero _), h⟩
  | t :: ts, o :: os, lo, hq, h => by
    simp only [swq, Bool.and_eq_true, decide_eq_true_eq] at hq
    obtain ⟨⟨h1, h2⟩, h3⟩ := hq
    rw [tsw] at h
    by_cases hx : x = Int32.ofInt lo
    · rw [if_pos hx] at h
      exact Or.inl ⟨0, t, o, rfl, by rw [hx, h2]; simp, h1, h⟩
    · rw [if_neg hx] at h
      rcases tsw_inv C pc x d lv st σ ts os (lo + 1) h3 h with ⟨j, t', o', e1, e2, e3, e4⟩ | ⟨e1, e2⟩
      · exact Or.inl ⟨j + 1, t', o', by rw [List.getElem?_cons_succ]; exact e1, by rw [e2]; simp only [Int.natCast_add, Int.natCast_one]; omega, e3, e4⟩
      · refine Or.inr ⟨fun j hj => ?_, e2⟩
        cases j with
        | zero =>
          intro z
          exact hx (Int32.toInt_inj.mp (by rw [z, h2]; simp))
        | succ j =>
          intro z
          refine e1 j (by simpa using hj) ?_
          rw [z]
          simp only [Int.natCast_add, Int.natCast_one]
          omega
  | [], _ :: _, _, hq, _ => by simp [swq] at hq
  | _ :: _, [], _, hq, _ => by simp [swq] at hq
theorem snd4 (X : CX p R s m args meth c D q ρ A M) (hk : GK p l e R s m args below meth c D q ρ A M k res) (hl : LR ρ (mL M) ls lv) (ho : OKS lv st σ) (hP : va_P D cl13 (wld ρ q σ) H) (hS : va_S A s.heap H locs) :
    ∀ s' : Nat, ft4 (cod M) (mC M) pc (pcO (cod M) (i + 1)) s' im a b = true → st4 k i s' im a b lv st σ = some res → WW p l e R s m args below meth c D q ρ A res H locs (F0 m pc ls (st.map (conc ρ))) := by
  obtain ⟨hx, hb, -⟩ := X
  obtain ⟨o1, o2, o3⟩ := ho
  intro s' hf h
  match s', hf, h with
  | 0, hf, h =>
    obtain ⟨x, r, rfl, h⟩ := aI_inv h
    replace h : (if x = 0 then k a lv r σ else k (i + 1) lv r σ) = some res := h
    simp only [ft4, Bool.and_eq_true, decide_eq_true_eq] at hf
    refine lv_if_eq hx hb (dq_ok hf.1.1) hf.2 (fun c1 => ?_) (fun c1 => ?_)
    · rw [if_pos c1] at h
      exact hk _ _ _ _ H locs ls h hl ⟨o1, ok_t o2, o3⟩ hP hS
    · rw [if_neg c1] at h
      have hn := hk _ _ _ _ H locs ls h hl ⟨o1, ok_t o2, o3⟩ hP hS
      rw [hf.1.2] at hn
      exact hn
  | 1, hf, h =>
    obtain ⟨x, r, rfl, h⟩ := aI_inv h
    replace h : (if x = 0 then k (i + 1) lv r σ else k a lv r σ) = some res := h
    simp only [ft4, Bool.and_eq_true, decide_eq_true_eq] at hf
    refine lv_if_ne hx hb (dq_ok hf.1.1) hf.2 (fun c1 => ?_) (fun c1 => ?_)
    · rw [if_neg c1] at h
      exact hk _ _ _ _ H locs ls h hl ⟨o1, ok_t o2, o3⟩ hP hS
    · rw [if_pos c1] at h
      have hn := hk _ _ _ _ H locs ls h hl ⟨o1, ok_t o2, o3⟩ hP hS
      rw [hf.1.2] at hn
      exact hn
  | 2, hf, h =>
    obtain ⟨x, r, rfl, h⟩ := aI_inv h
    replace h : (if x < 0 then k a lv r σ else k (i + 1) lv r σ) = some res := h
    simp only [ft4, Bool.and_eq_true, decide_eq_true_eq] at hf
    refine lv_if_lt hx hb (dq_ok hf.1.1) hf.2 (fun c1 => ?_) (fun c1 => ?_)
    · rw [if_pos c1] at h
      exact hk _ _ _ _ H locs ls h hl ⟨o1, ok_t o2, o3⟩ hP hS
    · rw [if_neg c1] at h
      have hn := hk _ _ _ _ H locs ls h hl ⟨o1, ok_t o2, o3⟩ hP hS
      rw [hf.1.2] at hn
      exact hn
  | 3, hf, h =>
    obtain ⟨x, r, rfl, h⟩ := aI_inv h
    replace h : (if x < 0 then k (i + 1) lv r σ else k a lv r σ) = some res := h
    simp only [ft4, Bool.and_eq_true, decide_eq_true_eq] at hf
    refine lv_if_ge hx hb (dq_ok hf.1.1) hf.2 (fun c1 => ?_) (fun c1 => ?_)
    · rw [if_neg (Int32.not_lt.mpr c1)] at h
      exact hk _ _ _ _ H locs ls h hl ⟨o1, ok_t o2, o3⟩ hP hS
    · rw [if_pos (Int32.not_le.mp c1)] at h
      have hn := hk _ _ _ _ H locs ls h hl ⟨o1, ok_t o2, o3⟩ hP hS
      rw [hf.1.2] at hn
      exact hn
  | 4, hf, h =>
    obtain ⟨x, r, rfl, h⟩ := aI_inv h
    replace h : (if 0 < x then k a lv r σ else k (i + 1) lv r σ) = some res := h
    simp only [ft4, Bool.and_eq_true, decide_eq_true_eq] at hf
    refine lv_if_gt hx hb (dq_ok hf.1.1) hf.2 (fun c1 => ?_) (fun c1 => ?_)
    · rw [if_pos c1] at h
      exact hk _ _ _ _ H locs ls h hl ⟨o1, ok_t o2, o3⟩ hP hS
    · rw [if_neg c1] at h
      have hn := hk _ _ _ _ H locs ls h hl ⟨o1, ok_t o2, o3⟩ hP hS
      rw [hf.1.2] at hn
      exact hn
  | 5, hf, h =>
    obtain ⟨x, r, rfl, h⟩ := aI_inv h
    replace h : (if 0 < x then k (i + 1) lv r σ else k a lv r σ) = some res := h
    simp only [ft4, Bool.and_eq_true, decide_eq_true_eq] at hf
    refine lv_if_le hx hb (dq_ok hf.1.1) hf.2 (fun c1 => ?_) (fun c1 => ?_)
    · rw [if_neg (Int32.not_lt.mpr c1)] at h
      exact hk _ _ _ _ H locs ls h hl ⟨o1, ok_t o2, o3⟩ hP hS
    · rw [if_pos (Int32.not_le.mp c1)] at h
      have hn := hk _ _ _ _ H locs ls h hl ⟨o1, ok_t o2, o3⟩ hP hS
      rw [hf.1.2] at hn
      exact hn
  | 6, hf, h =>
    obtain ⟨y, r, rfl, h⟩ := aI_inv h
    obtain ⟨x, r, rfl, h⟩ := aI_inv h
    replace h : (if x = y then k a lv r σ else k (i + 1) lv r σ) = some res := h
    simp only [ft4, Bool.and_eq_true, decide_eq_true_eq] at hf
    refine lv_icmp_eq hx hb (dq_ok hf.1.1) hf.2 (fun c1 => ?_) (fun c1 => ?_)
    · rw [if_pos c1] at h
      exact hk _ _ _ _ H locs ls h hl ⟨o1, ok_t (ok_t o2), o3⟩ hP hS
    · rw [if_neg c1] at h
      have hn := hk _ _ _ _ H locs ls h hl ⟨o1, ok_t (ok_t o2), o3⟩ hP hS
      rw [hf.1.2] at hn
      exact hn
  | 7, hf, h =>
    obtain ⟨y, r, rfl, h⟩ := aI_inv h
    obtain ⟨x, r, rfl, h⟩ := aI_inv h
    replace h : (if x = y then k (i + 1) lv r σ else k a lv r σ) = some res := h
    simp only [ft4, Bool.and_eq_true, decide_eq_true_eq] at hf
    refine lv_icmp_ne hx hb (dq_ok hf.1.1) hf.2 (fun c1 => ?_) (fun c1 => ?_)
    · rw [if_neg c1] at h
      exact hk _ _ _ _ H locs ls h hl ⟨o1, ok_t (ok_t o2), o3⟩ hP hS
    · rw [if_pos c1] at h
      have hn := hk _ _ _ _ H locs ls h hl ⟨o1, ok_t (ok_t o2), o3⟩ hP hS
      rw [hf.1.2] at hn
      exact hn
  | 8, hf, h =>
    obtain ⟨y, r, rfl, h⟩ := aI_inv h
    obtain ⟨x, r, rfl, h⟩ := aI_inv h
    replace h : (if x < y then k a lv r σ else k (i + 1) lv r σ) = some res := h
    simp only [ft4, Bool.and_eq_true, decide_eq_true_eq] at hf
    refine lv_icmp_lt hx hb (dq_ok hf.1.1) hf.2 (fun c1 => ?_) (fun c1 => ?_)
    · rw [if_pos c1] at h
      exact hk _ _ _ _ H locs ls h hl ⟨o1, ok_t (ok_t o2), o3⟩ hP hS
    · rw [if_neg c1] at h
      have hn := hk _ _ _ _ H locs ls h hl ⟨o1, ok_t (ok_t o2), o3⟩ hP hS
      rw [hf.1.2] at hn
      exact hn
  | 9, hf, h =>
    obtain ⟨y, r, rfl, h⟩ := aI_inv h
    obtain ⟨x, r, rfl, h⟩ := aI_inv h
    replace h : (if x < y then k (i + 1) lv r σ else k a lv r σ) = some res := h
    simp only [ft4, Bool.and_eq_true, decide_eq_true_eq] at hf
    refine lv_icmp_ge hx hb (dq_ok hf.1.1) hf.2 (fun c1 => ?_) (fun c1 => ?_)
    · rw [if_neg (Int32.not_lt.mpr c1)] at h
      exact hk _ _ _ _ H locs ls h hl ⟨o1, ok_t (ok_t o2), o3⟩ hP hS
    · rw [if_pos (Int32.not_le.mp c1)] at h
      have hn := hk _ _ _ _ H locs ls h hl ⟨o1, ok_t (ok_t o2), o3⟩ hP hS
      rw [hf.1.2] at hn
      exact hn
  | 10, hf, h =>
    obtain ⟨y, r, rfl, h⟩ := aI_inv h
    obtain ⟨x, r, rfl, h⟩ := aI_inv h
    replace h : (if y < x then k a lv r σ else k (i + 1) lv r σ) = some res := h
    simp only [ft4, Bool.and_eq_true, decide_eq_true_eq] at hf
    refine lv_icmp_gt hx hb (dq_ok hf.1.1) hf.2 (fun c1 => ?_) (fun c1 => ?_)
    · rw [if_pos c1] at h
      exact hk _ _ _ _ H locs ls h hl ⟨o1, ok_t (ok_t o2), o3⟩ hP hS
    · rw [if_neg c1] at h
      have hn := hk _ _ _ _ H locs ls h hl ⟨o1, ok_t (ok_t o2), o3⟩ hP hS
      rw [hf.1.2] at hn
      exact hn
  | 11, hf, h =>
    obtain ⟨y, r, rfl, h⟩ := aI_inv h
    obtain ⟨x, r, rfl, h⟩ := aI_inv h
    replace h : (if y < x then k (i + 1) lv r σ else k a lv r σ) = some res := h
    simp only [ft4, Bool.and_eq_true, decide_eq_true_eq] at hf
    refine lv_icmp_le hx hb (dq_ok hf.1.1) hf.2 (fun c1 => ?_) (fun c1 => ?_)
    · rw [if_neg (Int32.not_lt.mpr c1)] at h
      exact hk _ _ _ _ H locs ls h hl ⟨o1, ok_t (ok_t o2), o3⟩ hP hS
    · rw [if_pos (Int32.not_le.mp c1)] at h
      have hn := hk _ _ _ _ H locs ls h hl ⟨o1, ok_t (ok_t o2), o3⟩ hP hS
      rw [hf.1.2] at hn
      exact hn
  | 12, hf, h =>
    simp only [ft4, Bool.and_eq_true, decide_eq_true_eq] at hf
    exact lv_goto hx hb (dq_ok hf.1) hf.2 (hk _ _ _ _ H locs ls h hl ⟨o1, o2, o3⟩ hP hS)
  | 13, hf, h =>
    obtain ⟨x, r, rfl, h⟩ := aI_inv h
    simp only [ft4, Bool.and_eq_true, decide_eq_true_eq] at hf
    obtain ⟨⟨⟨h1, h2⟩, h3⟩, h4⟩ := hf
    have hlen : ∀ (C : List OP) (pc : Nat) (ts : List Nat) (os : List Int) (lo : Int), swq C pc lo ts os = true → ts.length = os.length := by
      intro C pc ts
      induction ts with
      | nil => intro os lo h; cases os with
        | nil => rfl
        | cons => simp [swq] at h
      | cons t ts ih => intro os lo h; cases os with
        | nil => simp [swq] at h
        | cons o os =>
          simp only [swq, Bool.and_eq_true] at h
          simp [ih os (lo + 1) h.2]
    have hle := hlen _ _ _ _ _ h3
    rcases tsw_inv (cod M) pc x a lv r σ _ _ _ h3 h with ⟨j, t, o, e1, e2, e3, e4⟩ | ⟨e1, e2⟩
    · have hj : j < (sw b).1.length := by rw [hle]; exact (List.getElem?_eq_some_iff.mp e1).1
      refine lv_tableIn hx hb (dq_ok h1) (by omega) (by rw [h4]; omega) (off := o) ?_ e3 (hk _ _ _ _ H locs ls e4 hl ⟨o1, ok_t o2, o3⟩ hP hS)
      rw [e2, show (im + (j : Int) - im).toNat = j by omega, ← Array.getElem?_toList]
      exact e1
    · refine lv_tableOut hx hb (dq_ok h1) ?_ h2 (hk _ _ _ _ H locs ls e2 hl ⟨o1, ok_t o2, o3⟩ hP hS)
      rw [h4]
      by_cases hlt : x.toInt < im
      · exact Or.inl hlt
      · right
        have := e1 (x.toInt - im).toNat
        omega
  | _ + 14, hf, _ => exact absurd (show false = true from hf) Bool.false_ne_true
theorem tyq_at : ∀ z : Nat, z < 5 → ∃ ty, (tyq q)[z]? = some (q z, ty)
  | 0, _ => ⟨_, rfl⟩
  | 1, _ => ⟨_, rfl⟩
  | 2, _ => ⟨_, rfl⟩
  | 3, _ => ⟨_, rfl⟩
  | 4, _ => ⟨_, rfl⟩
  | _ + 5, h => absurd h (by omega)
theorem snd5 (X : CX p R s m args meth c D q ρ A M) (hk : GK p l e R s m args below meth c D q ρ A M k res) (hl : LR ρ (mL M) ls lv) (ho : OKS lv st σ) (hP : va_P D cl13 (wld ρ q σ) H) (hS : va_S A s.heap H locs) :
    ∀ s' : Nat, ft5 (mC M) pc (pcO (cod M) (i + 1)) s' = true → st5 k i s' lv st σ = some res → WW p l e R s m args below meth c D q ρ A res H locs (F0 m pc ls (st.map (conc ρ))) := by
  obtain ⟨hx, hb, hml, hown, hts, hN, hK, hD, -⟩ := X
  have hD := hD σ
  obtain ⟨o1, o2, o3⟩ := ho
  intro s' hf h
  match s', hf, h with
  | 0, hf, h =>
    obtain ⟨x, r, rfl, h⟩ := aI_inv h
    obtain ⟨c1, o, j, r, rfl, h⟩ := aX_inv h
    obtain ⟨h0, h⟩ := iS h
    obtain ⟨h1, h⟩ := iN h
    simp only [ft5, Bool.and_eq_true, decide_eq_true_eq] at hf
    have hn := hk _ _ _ _ H locs ls h hl ⟨o1, ok_c trivial (ok_t (ok_t o2)), o3⟩ hP hS
    rw [hf.2] at hn
    obtain ⟨n, hn1, hn2⟩ := wld_get (ρ := ρ) (q := q) (σ := σ) (show (c1, o, j + 1) ∈ cts from ok_h (ok_t o2))
    rw [cel_a (Or.inl h0), h0] at hn2
    exact va_iald hx hb hK hP n 0 hn2 rfl h1 (dq_ok hf.1) hn
  | 1, hf, h =>
    obtain ⟨x, r, rfl, h⟩ := aI_inv h
    obtain ⟨c1, o, j, r, rfl, h⟩ := aX_inv h
    obtain ⟨h0, h⟩ := iS h
    obtain ⟨h1, h⟩ := iN h
    simp only [ft5, Bool.and_eq_true, decide_eq_true_eq] at hf
    have hn := hk _ _ _ _ H locs ls h hl ⟨o1, ok_c trivial (ok_t (ok_t o2)), o3⟩ hP hS
    rw [hf.2] at hn
    obtain ⟨n, hn1, hn2⟩ := wld_get (ρ := ρ) (q := q) (σ := σ) (show (c1, o, j + 1) ∈ cts from ok_h (ok_t o2))
    rcases h0 with h0 | h0
    · rw [cel_a (Or.inr (Or.inl h0)), h0] at hn2
      exact va_bald hx hb hK hP n 2 hn2 rfl h1 (dq_ok hf.1) hn
    · rw [cel_a (Or.inr (Or.inr h0)), h0] at hn2
      exact va_zald hx hb hK hP n 3 hn2 rfl h1 (dq_ok hf.1) hn
  | 2, hf, h =>
    obtain ⟨x, r, rfl, h⟩ := aI_inv h
    obtain ⟨c1, o, j, r, rfl, h⟩ := aX_inv h
    obtain ⟨h0, h⟩ := iS h
    obtain ⟨h1, h⟩ := iN h
    simp only [ft5, Bool.and_eq_true, decide_eq_true_eq] at hf
    have hn := hk _ _ _ _ H locs ls h hl ⟨o1, ok_c trivial (ok_t (ok_t o2)), o3⟩ hP hS
    rw [hf.2] at hn
    obtain ⟨n, hn1, hn2⟩ := wld_get (ρ := ρ) (q := q) (σ := σ) (show (c1, o, j + 1) ∈ cts from ok_h (ok_t o2))
    rw [cel_b h0, h0] at hn2
    exact va_lald hx hb hK hP n 1 hn2 rfl h1 (dq_ok hf.1) hn
  | 3, hf, h =>
    obtain ⟨x, r, rfl, h⟩ := aI_inv h
    obtain ⟨c1, o, j, r, rfl, h⟩ := aX_inv h
    obtain ⟨h0, h⟩ := iS h
    obtain ⟨h1, h⟩ := iN h
    simp only [ft5, Bool.and_eq_true, decide_eq_true_eq] at hf
    have ht : (c1, o, j + 1) ∈ cts := ok_h (ok_t o2)
    have hn := hk _ _ _ _ H locs ls h hl ⟨o1, ok_c (ct_law ht h0 (Nat.not_le.mp fun z => h1 (Or.inr z))) (ok_t (ok_t o2)), o3⟩ hP hS
    rw [hf.2] at hn
    obtain ⟨n, hn1, hn2⟩ := wld_get (ρ := ρ) (q := q) (σ := σ) ht
    rw [cel_q h0, h0] at hn2
    exact va_aldq hx hb hK hP n 4 hn2 rfl h1 (dq_ok hf.1) hn
  | 4, hf, h =>
    obtain ⟨v, r, rfl, h⟩ := aI_inv h
    obtain ⟨x, r, rfl, h⟩ := aI_inv h
    obtain ⟨c1, o, j, r, rfl, h⟩ := aX_inv h
    obtain ⟨h0, h⟩ := iS h
    obtain ⟨h1, h⟩ := iN h
    simp only [ft5, Bool.and_eq_true, decide_eq_true_eq] at hf
    obtain ⟨n, hn1, hn2⟩ := wld_get (ρ := ρ) (q := q) (σ := σ) (show (c1, o, j + 1) ∈ cts from ok_h (ok_t (ok_t o2)))
    have hn2' := hn2
    rw [cel_a (Or.inl h0), h0] at hn2
    refine va_iast hx hb hK hP hD hS n 0 hn2 rfl h1 (dq_ok hf.1) (fun H1 locs1 hP1 hD1 hS1 => ?_)
    have hc : cel ρ q (sA σ c1 o j (upd (gA σ c1 o j) x.toNatClampNeg v)) (c1, o, j + 1) = .inl (q 0, (ar c1 j).2, .inl (upd (gA σ c1 o j) x.toNatClampNeg v)) := by rw [cel_sA' (Or.inl h0), h0]
    rw [← hc, wld_set hn1 (fun t' h => cel_sA h)] at hP1
    have hn := hk _ _ _ _ H1 locs1 ls h hl ⟨o1, ok_t (ok_t (ok_t o2)), fun a b d z1 z2 => o3 a b d z1 z2⟩ hP1 hS1
    rw [hf.2] at hn
    exact hn
  | 5, hf, h =>
    obtain ⟨v, r, rfl, h⟩ := aI_inv h
    obtain ⟨x, r, rfl, h⟩ := aI_inv h
    obtain ⟨c1, o, j, r, rfl, h⟩ := aX_inv h
    simp only [ft5, Bool.and_eq_true, decide_eq_true_eq] at hf
    obtain ⟨n, hn1, hn2⟩ := wld_get (ρ := ρ) (q := q) (σ := σ) (show (c1, o, j + 1) ∈ cts from ok_h (ok_t (ok_t o2)))
    replace h : (if (ar c1 j).1 = 2 then (if x < 0 ∨ (ar c1 j).2 ≤ x.toNatClampNeg then none else k (i + 1) lv r (sA σ c1 o j (upd (gA σ c1 o j) x.toNatClampNeg (vp_nar .byte v)))) else if (ar c1 j).1 = 3 then (if x < 0 ∨ (ar c1 j).2 ≤ x.toNatClampNeg then none else k (i + 1) lv r (sA σ c1 o j (upd (gA σ c1 o j) x.toNatClampNeg (vp_nar .boolean v)))) else none) = some res := h
    by_cases h0 : (ar c1 j).1 = 2
    · rw [if_pos h0] at h
      obtain ⟨h1, h⟩ := iN h
      rw [cel_a (Or.inr (Or.inl h0)), h0] at hn2
      refine va_bast hx hb hK hP hD hS n 2 hn2 rfl h1 (dq_ok hf.1) (fun H1 locs1 hP1 hD1 hS1 => ?_)
      have hc : cel ρ q (sA σ c1 o j (upd (gA σ c1 o j) x.toNatClampNeg (vp_nar .byte v))) (c1, o, j + 1) = .inl (q 2, (ar c1 j).2, .inl (upd (gA σ c1 o j) x.toNatClampNeg (vp_nar .byte v))) := by rw [cel_sA' (Or.inr (Or.inl h0)), h0]
      rw [← hc, wld_set hn1 (fun t' h => cel_sA h)] at hP1
      have hn := hk _ _ _ _ H1 locs1 ls h hl ⟨o1, ok_t (ok_t (ok_t o2)), fun a b d z1 z2 => o3 a b d z1 z2⟩ hP1 hS1
      rw [hf.2] at hn
      exact hn
    · rw [if_neg h0] at h
      obtain ⟨h0, h⟩ := iS h
      obtain ⟨h1, h⟩ := iN h
      rw [cel_a (Or.inr (Or.inr h0)), h0] at hn2
      refine va_zast hx hb hK hP hD hS n 3 hn2 rfl h1 (dq_ok hf.1) (fun H1 locs1 hP1 hD1 hS1 => ?_)
      have hc : cel ρ q (sA σ c1 o j (upd (gA σ c1 o j) x.toNatClampNeg (vp_nar .boolean v))) (c1, o, j + 1) = .inl (q 3, (ar c1 j).2, .inl (upd (gA σ c1 o j) x.toNatClampNeg (vp_nar .boolean v))) := by rw [cel_sA' (Or.inr (Or.inr h0)), h0]
      rw [← hc, wld_set hn1 (fun t' h => cel_sA h)] at hP1
      have hn := hk _ _ _ _ H1 locs1 ls h hl ⟨o1, ok_t (ok_t (ok_t o2)), fun a b d z1 z2 => o3 a b d z1 z2⟩ hP1 hS1
      rw [hf.2] at hn
      exact hn
  | 6, hf, h =>
    obtain ⟨v, r, rfl, h⟩ := aL_inv h
    obtain ⟨x, r, rfl, h⟩ := aI_inv h
    obtain ⟨c1, o, j, r, rfl, h⟩ := aX_inv h
    obtain ⟨h0, h⟩ := iS h
    obtain ⟨h1, h⟩ := iN h
    simp only [ft5, Bool.and_eq_true, decide_eq_true_eq] at hf
    obtain ⟨n, hn1, hn2⟩ := wld_get (ρ := ρ) (q := q) (σ := σ) (show (c1, o, j + 1) ∈ cts from ok_h (ok_t (ok_t o2)))
    rw [cel_b h0, h0] at hn2
    refine va_last hx hb hK hP hD hS n 1 hn2 rfl h1 (dq_ok hf.1) (fun H1 locs1 hP1 hD1 hS1 => ?_)
    have hc : cel ρ q (sB σ c1 o j (vp_updL (gB σ c1 o j) x.toNatClampNeg v)) (c1, o, j + 1) = .inl (q 1, (ar c1 j).2, .inr (.inl (vp_updL (gB σ c1 o j) x.toNatClampNeg v))) := by rw [cel_sB' h0, h0]
    rw [← hc, wld_set hn1 (fun t' h => cel_sB h)] at hP1
    have hn := hk _ _ _ _ H1 locs1 ls h hl ⟨o1, ok_t (ok_t (ok_t o2)), fun a b d z1 z2 => o3 a b d z1 z2⟩ hP1 hS1
    rw [hf.2] at hn
    exact hn
  | 7, hf, h =>
    obtain ⟨c1, o, j, r, rfl, h⟩ := aX_inv h
    obtain ⟨h0, h⟩ := iS h
    simp only [ft5, Bool.and_eq_true, decide_eq_true_eq] at hf
    have hn := hk _ _ _ _ H locs ls h hl ⟨o1, ok_c trivial (ok_t o2), o3⟩ hP hS
    rw [hf.2] at hn
    obtain ⟨n, hn1, hn2⟩ := wld_get (ρ := ρ) (q := q) (σ := σ) (show (c1, o, j + 1) ∈ cts from ok_h o2)
    obtain ⟨ty, hty⟩ := tyq_at (q := q) _ h0
    exact va_alen hx hb hK hP n _ (show (wld ρ q σ)[n]? = some (ρ (c1, o, j + 1), .inl (q (ar c1 j).1, (ar c1 j).2, aco ρ σ c1 o j)) from hn2) hty rfl (dq_ok hf.1) hn
  | _ + 8, hf, _ => exact absurd (show false = true from hf) Bool.false_ne_true
theorem snd6 (X : CX p R s m args meth c D q ρ A M) (hk : GK p l e R s m args below meth c D q ρ A M k res) (hl : LR ρ (mL M) ls lv) (ho : OKS lv st σ) (hP : va_P D cl13 (wld ρ q σ) H) (hS : va_S A s.heap H locs) {s' : Nat}
    (hf : ft6 (mC M) pc (pcO (cod M) (i + 1)) (mO M) s' im a b = true) (h : st6 k i s' a b lv st σ = some res) : WW p l e R s m args below meth c D q ρ A res H locs (F0 m pc ls (st.map (conc ρ))) := by
  obtain ⟨hx, hb, hml, hown, hts, hN, hK, hD, -⟩ := X
  obtain ⟨o1, o2, o3⟩ := ho
  unfold st6 at h
  obtain ⟨c1, o, r, rfl, h⟩ := aO_inv h
  obtain ⟨rfl, h⟩ := iS h
  simp only [ft6, Bool.and_eq_true, decide_eq_true_eq] at hf
  obtain ⟨⟨⟨⟨⟨h1, h2⟩, h3⟩, h4⟩, h5⟩, h6⟩ := hf
  have ht : (c1, o, 0) ∈ cts := ok_h o2
  obtain ⟨n, hn1, hn2⟩ := wld_get (ρ := ρ) (q := q) (σ := σ) ht
  have row : W p l e R s m args below meth c H locs 0 0 (MQ below (QcM D q ρ A res) args s 0 0 A) (F0 m (pc + 3) ls (fldV ρ σ c1 o b :: r.map (conc ρ))) → W p l e R s m args below meth c H locs 0 0 (MQ below (QcM D q ρ A res) args s 0 0 A) (F0 m pc ls (.ref (ρ (c1, o, 0)) :: r.map (conc ρ))) := by
    intro kk
    by_cases hs : s' < 10
    · rw [if_pos hs] at h6
      have hlk : (Cond.fieldLink (cnm (mO M)) im.toNat (cTt c1 b).1 (cTt c1 b).2.1 (cTt c1 b).2.2.1).before args s = true := hts (flC (mO M, im.toNat, c1, b)) (fl_in _ (of_decide_eq_true h6))
      exact va_get (D := D) (ci := c1) (v := fldV ρ σ c1 o b) (C := cnm c1) (T := cTt c1) (N := cNn c1) hx hb hts (cl_in c1 h3) hown hK hP n hn2 (cl_at c1 h3) b h4 hlk (fun _ h9 => h9) (fs_at h4) (dq_ok h1) kk
    · rw [if_neg hs] at h6
      have hlk : (Cond.fieldLinkNest (cnm (mO M)) im.toNat (cTt c1 b).1 (cTt c1 b).2.1 (cTt c1 b).2.2.1 "RibbonRun").before args s = true := va_Nw.use (w := Cond.fieldLinkNest (cnm (mO M)) im.toNat (cTt c1 b).1 (cTt c1 b).2.1 (cTt c1 b).2.2.1 "RibbonRun") rfl (hN.1 (mO M, im.toNat, c1, b) (of_decide_eq_true h6))
      exact va_getN (D := D) (ci := c1) (v := fldV ρ σ c1 o b) (C := cnm c1) (T := cTt c1) (N := cNn c1) hx hb hts (cl_in c1 h3) hown hK hP n hn2 (cl_at c1 h3) b h4 hlk (fun _ h9 => h9) (fs_at h4) (dq_ok h1) kk
  refine row ?_
  generalize hz : s' % 10 = z at h h5
  match z, h, h5 with
  | 0, h, h5 =>
    have hv : fldV ρ σ c1 o b = .int (gI σ c1 o b) := by unfold fldV; rw [← h5]; rfl
    have hn := hk _ _ _ _ H locs ls h hl ⟨o1, ok_c trivial (ok_t o2), o3⟩ hP hS
    rw [h2] at hn
    rw [hv]
    exact hn
  | 1, h, h5 =>
    have hv : fldV ρ σ c1 o b = .int (gI σ c1 o b) := by unfold fldV; rw [← h5]; rfl
    have hn := hk _ _ _ _ H locs ls h hl ⟨o1, ok_c trivial (ok_t o2), o3⟩ hP hS
    rw [h2] at hn
    rw [hv]
    exact hn
  | 2, h, h5 =>
    have hv : fldV ρ σ c1 o b = .ref (ρ (c1, o, b + 1)) := by unfold fldV; rw [← h5]; rfl
    have hn := hk _ _ _ _ H locs ls h hl ⟨o1, ok_c (ct_arr ht h4 h5.symm) (ok_t o2), o3⟩ hP hS
    rw [h2] at hn
    rw [hv]
    exact hn
  | 3, h, h5 =>
    have hv : fldV ρ σ c1 o b = .ref (ρ (sub c1 o b)) := by unfold fldV; rw [← h5]; rfl
    have hn := hk _ _ _ _ H locs ls h hl ⟨o1, ok_c (ct_sub ht h4 h5.symm) (ok_t o2), o3⟩ hP hS
    rw [h2] at hn
    rw [hv]
    exact hn
  | 4, h, h5 =>
    have hv : fldV ρ σ c1 o b = .ref (ρ (2, gR σ c1 o b, 0)) := by unfold fldV; rw [← h5]; rfl
    have hn := hk _ _ _ _ H locs ls h hl ⟨o1, ok_c (o3 c1 o b h5.symm ht) (ok_t o2), o3⟩ hP hS
    rw [h2] at hn
    rw [hv]
    exact hn
  | 5, h, h5 =>
    have hv : fldV ρ σ c1 o b = .long (gL σ c1 o b) := by unfold fldV; rw [← h5]; rfl
    have hn := hk _ _ _ _ H locs ls h hl ⟨o1, ok_c trivial (ok_t o2), o3⟩ hP hS
    rw [h2] at hn
    rw [hv]
    exact hn
  | _ + 6, h, _ => exact absurd (show none = some res from h) (by simp)
theorem snd7 (X : CX p R s m args meth c D q ρ A M) (hk : GK p l e R s m args below meth c D q ρ A M k res) (hl : LR ρ (mL M) ls lv) (ho : OKS lv st σ) (hP : va_P D cl13 (wld ρ q σ) H) (hS : va_S A s.heap H locs) :
    ∀ s' : Nat, ft7 (mC M) pc (pcO (cod M) (i + 1)) (mO M) s' im a b = true → st7 k i s' a b lv st σ = some res → WW p l e R s m args below meth c D q ρ A res H locs (F0 m pc ls (st.map (conc ρ))) := by
  obtain ⟨hx, hb, hml, hown, hts, hN, hK, hD, -⟩ := X
  have hD := hD σ
  obtain ⟨o1, o2, o3⟩ := ho
  intro s' hf h
  simp only [ft7, Bool.and_eq_true, decide_eq_true_eq] at hf
  obtain ⟨⟨⟨⟨⟨⟨⟨h1, h2⟩, h3⟩, h4⟩, h5⟩, h6⟩, h7⟩, h8⟩ := hf
  have hlk : (Cond.fieldLink (cnm (mO M)) im.toNat (cTt a b).1 (cTt a b).2.1 (cTt a b).2.2.1).before args s = true := hts (flC (mO M, im.toNat, a, b)) (fl_in _ h6)
  match s', h5, h8, h with
  | 0, h5, h8, h =>
    obtain ⟨v, r, rfl, h⟩ := aI_inv h
    obtain ⟨c1, o, r, rfl, h⟩ := aO_inv h
    obtain ⟨rfl, h⟩ := iS h
    obtain ⟨n, hn1, hn2⟩ := wld_get (ρ := ρ) (q := q) (σ := σ) (show (c1, o, 0) ∈ cts from ok_h (ok_t o2))
    refine va_put (D := D) (ci := c1) (v := .int v) (ty := .int) (C := cnm c1) (T := cTt c1) (N := cNn c1) hx hb hts (cl_in c1 h3) (cTy c1) (cl_ty c1 h3) (cl_nm c1 h3) hown hK hP hD hS n hn2 (cl_at c1 h3) b h4 hlk (fun _ h9 => h9) h7 ((cl_ty c1 h3 b h4).trans (congrArg some (of_decide_eq_true h8))) rfl rfl (by simpa using h4) (dq_ok h1) (fun H1 locs1 hP1 hD1 hS1 => ?_)
    rw [cel_sI' (ρ := ρ) (q := q) h4 (Or.inl h5.symm), wld_set hn1 (fun t' h => cel_sI h)] at hP1
    have hn := hk _ _ _ _ H1 locs1 ls h hl ⟨o1, ok_t (ok_t o2), fun a b d z1 z2 => o3 a b d z1 z2⟩ hP1 hS1
    rw [h2] at hn
    exact hn
  | 1, h5, h8, h =>
    obtain ⟨v, r, rfl, h⟩ := aI_inv h
    obtain ⟨c1, o, r, rfl, h⟩ := aO_inv h
    obtain ⟨rfl, h⟩ := iS h
    obtain ⟨hv, h⟩ := iS h
    obtain ⟨n, hn1, hn2⟩ := wld_get (ρ := ρ) (q := q) (σ := σ) (show (c1, o, 0) ∈ cts from ok_h (ok_t o2))
    refine va_put (D := D) (ci := c1) (v := .int v) (ty := .boolean) (C := cnm c1) (T := cTt c1) (N := cNn c1) hx hb hts (cl_in c1 h3) (cTy c1) (cl_ty c1 h3) (cl_nm c1 h3) hown hK hP hD hS n hn2 (cl_at c1 h3) b h4 hlk (fun _ h9 => h9) h7 ((cl_ty c1 h3 b h4).trans (congrArg some (of_decide_eq_true h8))) (by rcases hv with rfl | rfl <;> rfl) (by rcases hv with rfl | rfl <;> rfl) (by simpa using h4) (dq_ok h1) (fun H1 locs1 hP1 hD1 hS1 => ?_)
    rw [cel_sI' (ρ := ρ) (q := q) h4 (Or.inr h5.symm), wld_set hn1 (fun t' h => cel_sI h)] at hP1
    have hn := hk _ _ _ _ H1 locs1 ls h hl ⟨o1, ok_t (ok_t o2), fun a b d z1 z2 => o3 a b d z1 z2⟩ hP1 hS1
    rw [h2] at hn
    exact hn
  | 4, h5, h8, h =>
    obtain ⟨d, g, r, rfl, h⟩ := aO_inv h
    obtain ⟨c1, o, r, rfl, h⟩ := aO_inv h
    obtain ⟨rfl, h⟩ := iS h
    obtain ⟨rfl, h⟩ := iS h
    obtain ⟨n, hn1, hn2⟩ := wld_get (ρ := ρ) (q := q) (σ := σ) (show (c1, o, 0) ∈ cts from ok_h (ok_t o2))
    refine va_put (D := D) (ci := c1) (v := .ref (ρ (2, g, 0))) (ty := .object "RibbonRun$Garden") (C := cnm c1) (T := cTt c1) (N := cNn c1) hx hb hts (cl_in c1 h3) (cTy c1) (cl_ty c1 h3) (cl_nm c1 h3) hown hK hP hD hS n hn2 (cl_at c1 h3) b h4 hlk (fun _ h9 => h9) h7 ((cl_ty c1 h3 b h4).trans (congrArg some (of_decide_eq_true h8))) rfl rfl (by simpa using h4) (dq_ok h1) (fun H1 locs1 hP1 hD1 hS1 => ?_)
    rw [cel_sR' (ρ := ρ) (q := q) h4 h5.symm, wld_set hn1 (fun t' h => cel_sR h)] at hP1
    have hg : (2, g, 0) ∈ cts := ok_h o2
    have hn := hk _ _ _ _ H1 locs1 ls h hl ⟨o1, ok_t (ok_t o2), fun a' b' d' z1 z2 => by
      by_cases hz : a' = c1 ∧ b' = o ∧ d' = b
      · rw [show gR (sR σ c1 o b g) a' b' d' = g from by rw [hz.1, hz.2.1, hz.2.2]; exact u3_s]
        exact hg
      · rw [show gR (sR σ c1 o b g) a' b' d' = gR σ a' b' d' from u3_n hz]
        exact o3 a' b' d' z1 z2⟩ hP1 hS1
    rw [h2] at hn
    exact hn
  | 5, h5, h8, h =>
    obtain ⟨v, r, rfl, h⟩ := aL_inv h
    obtain ⟨c1, o, r, rfl, h⟩ := aO_inv h
    obtain ⟨rfl, h⟩ := iS h
    obtain ⟨n, hn1, hn2⟩ := wld_get (ρ := ρ) (q := q) (σ := σ) (show (c1, o, 0) ∈ cts from ok_h (ok_t o2))
    refine va_put (D := D) (ci := c1) (v := .long v) (ty := .long) (C := cnm c1) (T := cTt c1) (N := cNn c1) hx hb hts (cl_in c1 h3) (cTy c1) (cl_ty c1 h3) (cl_nm c1 h3) hown hK hP hD hS n hn2 (cl_at c1 h3) b h4 hlk (fun _ h9 => h9) h7 ((cl_ty c1 h3 b h4).trans (congrArg some (of_decide_eq_true h8))) rfl rfl (by simpa using h4) (dq_ok h1) (fun H1 locs1 hP1 hD1 hS1 => ?_)
    rw [cel_sL' (ρ := ρ) (q := q) h4 h5.symm, wld_set hn1 (fun t' h => cel_sL h)] at hP1
    have hn := hk _ _ _ _ H1 locs1 ls h hl ⟨o1, ok_t (ok_t o2), fun a b d z1 z2 => o3 a b d z1 z2⟩ hP1 hS1
    rw [h2] at hn
    exact hn
  | 2, _, h8, _ => exact absurd (show false = true from h8) Bool.false_ne_true
  | 3, _, h8, _ => exact absurd (show false = true from h8) Bool.false_ne_true
  | _ + 6, _, h8, _ => exact absurd (show false = true from h8) Bool.false_ne_true
theorem snd9 (X : CX p R s m args meth c D q ρ A M) (ho : OKS lv st σ) (hP : va_P D cl13 (wld ρ q σ) H) (hS : va_S A s.heap H locs) :
    ∀ s' : Nat, ft9 (mC M) pc s' (mR M) = true → st9 s' st σ = some res → WW p l e R s m args below meth c D q ρ A res H locs (F0 m pc ls (st.map (conc ρ))) := by
  obtain ⟨hx, hb, hml, hown, hts, hN, hK, hD, -, -, hr, hlocks⟩ := X
  obtain ⟨o1, o2, o3⟩ := ho
  intro s' hf h
  match s', hf, h with
  | 0, hf, h =>
    obtain ⟨x, r, rfl, h⟩ := aI_inv h
    obtain ⟨rfl, h⟩ := aE_inv h
    cases h
    simp only [ft9, Bool.and_eq_true, decide_eq_true_eq] at hf
    exact W.iret (v := x) hx hb (hr.trans hf.2) (fun t ht hW => ⟨rfl, fun w hw => by cases hw; trivial, o3, by rw [ht]; exact hP, hS.F ht⟩) hS.2.2 (dq_ok hf.1) hlocks
  | 1, hf, h =>
    obtain ⟨x, r, rfl, h⟩ := aI_inv h
    obtain ⟨rfl, h⟩ := aE_inv h
    obtain ⟨hv, h⟩ := iS h
    cases h
    simp only [ft9, Bool.and_eq_true, decide_eq_true_eq] at hf
    exact W.zret (v := x) hx hb (hr.trans hf.2) (by rcases hv with rfl | rfl <;> rfl) (fun t ht hW => ⟨rfl, fun w hw => by cases hw; trivial, o3, by rw [ht]; exact hP, hS.F ht⟩) hS.2.2 (dq_ok hf.1) hlocks
  | 2, hf, h =>
    obtain ⟨x, r, rfl, h⟩ := aL_inv h
    obtain ⟨rfl, h⟩ := aE_inv h
    cases h
    simp only [ft9, Bool.and_eq_true, decide_eq_true_eq] at hf
    exact W.lret (v := x) hx hb (hr.trans hf.2) (fun t ht hW => ⟨rfl, fun w hw => by cases hw; trivial, o3, by rw [ht]; exact hP, hS.F ht⟩) hS.2.2 (dq_ok hf.1) hlocks
  | 3, hf, h =>
    obtain ⟨x, r, rfl, h⟩ := aR_inv h
    obtain ⟨rfl, h⟩ := aE_inv h
    cases h
    simp only [ft9, Bool.and_eq_true, decide_eq_true_eq] at hf
    exact W.aret (v := .ref (ρ x)) hx hb (hr.trans hf.2) (Or.inl ⟨_, rfl⟩) (Or.inr ⟨_, rfl⟩) (fun t ht hW => ⟨rfl, fun w hw => by cases hw; exact ok_h o2, o3, by rw [ht]; exact hP, hS.F ht⟩) hS.2.2 (dq_ok hf.1) hlocks
  | 4, hf, h =>
    obtain ⟨rfl, h⟩ := aE_inv h
    cases h
    simp only [ft9, Bool.and_eq_true, decide_eq_true_eq] at hf
    exact W.vret hx hb (hr.trans hf.2) (fun t ht hW => ⟨rfl, fun w hw => (by cases hw), o3, by rw [ht]; exact hP, hS.F ht⟩) hS.2.2 (dq_ok hf.1) hlocks
  | _ + 5, hf, _ => exact absurd (show false = true from hf) Bool.false_ne_true
/-- calls: what the callee's contract is -/
def wsM (M : Nat) : List Cond := Cond.code (mY M) (mC M) (mL M) (mR M) :: tbG
def rmM (M : Nat) : Room := { frames := mF M, cells := 0, slots := 0, locals := mQ M }
def PcM (D : va_G) (q : Nat → ClassId) (ρ : Nat × Nat × Nat → Nat) (as : List AV) (σ : ST) (sz : Nat) : Array Value → State → Prop := va_Pc (as.map (conc ρ)) (fun U => U.heap.size = sz ∧ va_P D cl13 (wld ρ q σ) U.heap ∧ va_K D cl13 (tyq q) U ∧ NW U ∧ va_D (fun _ => True) (wld ρ q σ))
def HC (l : Launch) (D : va_G) (q : Nat → ClassId) (ρ : Nat × Nat × Nat → Nat) (cal : CT) : Prop := ∀ (a : Nat) (as : List AV) (σ : ST) (v : Option AV) (σ' : ST), a < nM → cal a as σ = some (v, σ') → (∀ w ∈ as, okv w) → okR σ → ∀ sz : Nat, Met l (mY a) (wsM a) (rmM a) (PcM D q ρ as σ sz) (QcM D q ρ (Aw ρ sz) (v, σ')) 0 0 (Aw ρ sz)
theorem good_G {ws : List Cond} (h : ∀ w ∈ ws, w ∈ tbG) : GoodIn tbG ws := fun w hw => ⟨h w hw, good_of_word (tbG_good (h w hw))⟩
theorem wsM_in {a : Nat} (ha : a < nM) : ∀ w ∈ wsM a, w ∈ tbG := fun w hw => by
  rcases List.mem_cons.mp hw with rfl | hw
  · exact mc_all a (List.mem_range.mpr ha)
  · exact hw
theorem pl_ok {a : Nat} (ha : a < nM) : (mY a).cls = cnm (mO a) ∧ (mY a).cls ≠ "java/lang/invoke/MethodHandle" ∧ (mY a).cls ≠ "java/lang/invoke/VarHandle" ∧ (parseMethodDescriptor (mY a).desc).map (fun d => d.parameters.length) = some (mP a) ∧ Jvm.plainName (mY a).cls = true ∧ (mO a < 13 ∨ mS a = true) ∧ (if mS a = true then a ∈ stT else a ∈ nsT) := by
  have h := mPl_ok a (List.mem_range.mpr ha)
  simp only [mPl, Bool.and_eq_true, decide_eq_true_eq] at h
  obtain ⟨⟨⟨⟨⟨⟨h1, h2⟩, h3⟩, h4⟩, h5⟩, h6⟩, h7⟩ := h
  exact ⟨h1, h2, h3, h4, h5, h6, h7⟩
theorem pre_blind (as : List AV) (σ : ST) (sz : Nat) : FrameBlind (PcM D q ρ as σ sz) := fun a U g mk z => by
  obtain ⟨q0, q1, qP, qK, qN, qD⟩ := z
  exact ⟨q0, q1, qP, va_K.moved (u := U) (U := U.calling g mk a) (Vm.Alike.refl U.vm) qK, NW.same rfl qN, qD⟩
theorem snd_call {ls : Array Slot} {st0 : List Value} {rest : List AV} {v : Option AV} {σ' : ST} {av : Array Value} (hS : va_S A s.heap H locs) (hAA : ∀ x, Aw ρ H.size x → A x)
    (hr : va_Run p l e R s m args below meth c H locs 0 0 0 0 (F0 m pc ls st0) (rest.map (conc ρ)) (QcM D q ρ (Aw ρ H.size) (v, σ') av) (Aw ρ H.size))
    (kk : ∀ (H1 : Heap) (locs1 : List Loc), (∀ w, v = some w → okv w) → okR σ' → va_P D cl13 (wld ρ q σ') H1 → va_S A s.heap H1 locs1 → WW p l e R s m args below meth c D q ρ A res H1 locs1 (F0 m (pc + 3) ls ((v.toList ++ rest).map (conc ρ)))) : WW p l e R s m args below meth c D q ρ A res H locs (F0 m pc ls st0) := by
  intro T hT X
  obtain ⟨v', st₀, t, T', L, h0, X', hL, e1, e2, ⟨hv, ho, hR', hP', hz, hkp⟩, st⟩ := hr T hT X
  have hv' : v' = v.map (conc ρ) := by
    injection hv
  subst hv'
  rw [h0] at hz hkp
  obtain ⟨t2, a1, b1⟩ := kk T'.heap (locs ++ L) ho hR' (by rw [e1]; exact hP') ⟨Nat.le_trans hS.1 (by rw [e1]; exact hz), fun x h1 h2 => by rw [e1, hkp x (Nat.lt_of_lt_of_le h1 hS.1) (fun z => h2 (hAA x z))]; exact hS.2.1 x h1 h2, fun x hx => by
      rcases List.mem_append.mp hx with h | h
      · exact hS.2.2 x h
      · exact hAA _ (hL x h)⟩ T' rfl X'
  refine ⟨t2, st t2 ?_, b1⟩
  have e3 : ((v.toList ++ rest).map (conc ρ)) = (v.map (conc ρ)).toList ++ rest.map (conc ρ) := by cases v <;> rfl
  rw [e3] at a1
  exact a1
theorem rcv_inv {a : Nat} : ∀ {as : List AV}, rcv 0 a as = true → ∃ (o : Nat) (as' : List AV), as = vR (mO a) o 0 :: as'
  | .inr (.inr (c, o, 0)) :: r, h => by
    have := of_decide_eq_true (show decide (c = mO a) = true from h)
    subst this
    exact ⟨o, r, rfl⟩
  | .inr (.inr (_, _, _ + 1)) :: r, h => by simp [rcv] at h
  | [], h => by simp [rcv] at h
  | .inl _ :: _, h => by simp [rcv] at h
  | .inr (.inl _) :: _, h => by simp [rcv] at h
theorem snd8 (X : CX p R s m args meth c D q ρ A M) {cal : CT} (hc : HC l D q ρ cal) (hk : GK p l e R s m args below meth c D q ρ A M k res) (hl : LR ρ (mL M) ls lv) (ho : OKS lv st σ) (hP : va_P D cl13 (wld ρ q σ) H) (hS : va_S A s.heap H locs) :
    ∀ s' : Nat, ft8 (mC M) pc (pcO (cod M) (i + 1)) (mO M) (mF M) (mQ M) s' im a b = true → st8 cal k i s' a b lv st σ = some res → WW p l e R s m args below meth c D q ρ A res H locs (F0 m pc ls (st.map (conc ρ))) := by
  obtain ⟨hx, hb, hml, hown, hts, hN, hK, hD, hA, hR, hr, hlocks⟩ := X
  obtain ⟨o1, o2, o3⟩ := ho
  subst hR
  have hAA : ∀ x, Aw ρ H.size x → A x := fun x hx => by
    rcases hx with ⟨t, ht, rfl⟩ | hx
    · exact wld_DA (hD σ) t ht
    · exact hA x (Nat.le_trans hS.1 hx)
  have hDT : va_D (fun _ => True) (wld ρ q σ) := (hD σ).weaken (fun _ _ _ _ => trivial)
  -- what every call shares
  have key : ∀ s', s' ≠ 4 → st8 cal k i s' a b lv st σ = some res → ∃ (as r : List AV) (v : Option AV) (σ' : ST), st = as.reverse ++ r ∧ as.length = b ∧ rcv s' a as = true ∧ catS r ≤ 8 ∧ cal a as σ = some (v, σ') ∧ k (i + 1) lv (v.toList ++ r) σ' = some res ∧ (∀ w ∈ as, okv w) ∧ ∀ w ∈ r, okv w := by
    intro s' hs h
    unfold st8 at h
    rw [if_neg hs] at h
    cases hsp : spl b st [] with
    | none => rw [hsp] at h; cases h
    | some z =>
      obtain ⟨as, r⟩ := z
      rw [hsp] at h
      obtain ⟨⟨h1, h2⟩, h⟩ := iS h
      cases hcl : cal a as σ with
      | none => rw [hcl] at h; cases h
      | some y =>
        obtain ⟨v, σ'⟩ := y
        rw [hcl] at h
        obtain ⟨lst, g1, g2, g3⟩ := spl_eq _ _ _ _ _ hsp
        have g4 : lst = as.reverse := by rw [g3, List.append_nil, List.reverse_reverse]
        refine ⟨as, r, v, σ', by rw [← g4]; exact g2, by rw [g3]; simpa using g1, h1, h2, hcl, h, fun w hw => o2 w ?_, fun w hw => o2 w ?_⟩
        · rw [g2, g4]
          exact List.mem_append_left _ (List.mem_reverse.mpr hw)
        · rw [g2]
          exact List.mem_append_right _ hw
  intro s' hf h
  match s', hf, h with
  | 0, hf, h =>
    simp only [ft8, Bool.and_eq_true, decide_eq_true_eq] at hf
    obtain ⟨⟨⟨⟨⟨⟨⟨h1, h2⟩, h3⟩, h4⟩, h5⟩, h6⟩, h7⟩, h8⟩ := hf
    obtain ⟨as, r, v, σ', rfl, g2, g3, g4, g5, g6, g7, g8⟩ := key 0 (by decide) h
    obtain ⟨o, as', rfl⟩ := rcv_inv g3
    obtain ⟨p1, p2, p3, p4, p5, p6, p7⟩ := pl_ok h4
    rw [h5] at p6 p7
    have p7 : a ∈ nsT := by simpa using p7
    have p6 : mO a < 13 := by rcases p6 with z | z; exact z; cases z
    obtain ⟨n, hn1, hn2⟩ := wld_get (ρ := ρ) (q := q) (σ := σ) (show (mO a, o, 0) ∈ cts from ok_h g7)
    have hini : (Cond.initialized (mY a).cls).before args s = true := by rw [p1]; exact hts _ (mn_in a (List.mem_range.mpr h4))
    have hlk : (Cond.methodLink (cnm (mO M)) im.toNat (mY a)).before args s = true := hts (mlC (mO M, im.toNat, a)) (ml_in _ h3)
    have cw : CallW ({ frames := mF M, cells := 0, slots := 0, locals := mQ M } : Room) s args (cnm (mO M)) (cnm (mO a)) im.toNat (mY a) (mC a) (mL a) (mR a) (wsM a) (rmM a) 0 0 (mP a) := ⟨callB_of (mP a) hts (good_G (wsM_in h4)) rfl rfl rfl hini hlk ⟨p2, p3, p4⟩ ⟨h7, h8⟩, hts _ (mi_in a p7), hts _ (mse_in a p7)⟩
    have hn : as'.length = mP a := by simp at g2; omega
    have hrun := va_runV (p := p) (l := l) (e := e) (m := m) (below := below) (meth := meth) (c := c) (locs := locs) (cells := 0) (slots := 0) (As := as'.map (conc ρ)) (rest := r.map (conc ρ)) (b := ρ (mO a, o, 0)) (g := F0 m pc ls (((vR (mO a) o 0 :: as').reverse ++ r).map (conc ρ))) ⟨hx, hb, hml, hown, hts⟩ (hc a (vR (mO a) o 0 :: as') σ v σ' h4 g5 g7 o3 H.size) cw ⟨pre_blind _ _ _, va_recv hK hP (cl_at _ p6) hn2, fun U hU hW => ⟨rfl, by rw [hU], by rw [hU]; exact hP, va_K.moved hW.alike hK, NW.warm hW hN, hDT⟩⟩ rfl (by rw [List.length_map]; exact hn) hl.2.1 (by simp [conc]) (lv_room (by rw [catS_ok]; exact g4)) (dq_ok h1) ⟨Nat.le_refl _, Nat.le_refl _⟩
    refine snd_call hS hAA hrun (fun H1 locs1 w1 w2 hP1 hS1 => ?_)
    have hn := hk _ _ _ _ H1 locs1 ls g6 hl ⟨o1, fun w hw => by
      rcases List.mem_append.mp hw with z | z
      · exact w1 w (by cases v with
          | none => cases z
          | some y => rw [List.mem_singleton.mp z])
      · exact g8 w z, w2⟩ hP1 hS1
    rw [h2] at hn
    exact hn
  | 1, hf, h =>
    simp only [ft8, Bool.and_eq_true, decide_eq_true_eq] at hf
    obtain ⟨⟨⟨⟨⟨⟨⟨h1, h2⟩, h3⟩, h4⟩, h5⟩, h6⟩, h7⟩, h8⟩ := hf
    obtain ⟨as, r, v, σ', rfl, g2, g3, g4, g5, g6, g7, g8⟩ := key 1 (by decide) h
    obtain ⟨p1, p2, p3, p4, p5, p6, p7⟩ := pl_ok h4
    rw [h5] at p7
    have p7 : a ∈ stT := by simpa using p7
    have hini : (Cond.initialized (mY a).cls).before args s = true := by rw [p1]; exact hts _ (mn_in a (List.mem_range.mpr h4))
    have hlk : (Cond.methodLink (cnm (mO M)) im.toNat (mY a)).before args s = true := hts (mlC (mO M, im.toNat, a)) (ml_in _ h3)
    have cw : CallB ({ frames := mF M, cells := 0, slots := 0, locals := mQ M } : Room) s args (cnm (mO M)) im.toNat (mY a) (mC a) (mL a) (mR a) (wsM a) (rmM a) 0 0 (mP a) := callB_of (mP a) hts (good_G (wsM_in h4)) rfl rfl rfl hini hlk ⟨p2, p3, p4⟩ ⟨h7, h8⟩
    have hn : as.length = mP a := by omega
    have hrun := va_runS (p := p) (l := l) (e := e) (m := m) (below := below) (meth := meth) (c := c) (locs := locs) (cells := 0) (slots := 0) (As := as.map (conc ρ)) (rest := r.map (conc ρ)) (g := F0 m pc ls ((as.reverse ++ r).map (conc ρ))) ⟨hx, hb, hml, hown, hts⟩ (hc a as σ v σ' h4 g5 g7 o3 H.size) ⟨cw, hts _ (mt_in a p7)⟩ ⟨pre_blind _ _ _, fun U hU hW => ⟨rfl, by rw [hU], by rw [hU]; exact hP, va_K.moved hW.alike hK, NW.warm hW hN, hDT⟩⟩ rfl (by rw [List.length_map]; exact hn) hl.2.1 (by simp) (lv_room (by rw [catS_ok]; exact g4)) (dq_ok h1) ⟨Nat.le_refl _, Nat.le_refl _⟩
    refine snd_call hS hAA hrun (fun H1 locs1 w1 w2 hP1 hS1 => ?_)
    have hn := hk _ _ _ _ H1 locs1 ls g6 hl ⟨o1, fun w hw => by
      rcases List.mem_append.mp hw with z | z
      · exact w1 w (by cases v with
          | none => cases z
          | some y => rw [List.mem_singleton.mp z])
      · exact g8 w z, w2⟩ hP1 hS1
    rw [h2] at hn
    exact hn
  | 3, hf, h =>
    simp only [ft8, Bool.and_eq_true, decide_eq_true_eq] at hf
    obtain ⟨⟨⟨⟨⟨⟨⟨h1, h2⟩, h3⟩, h4⟩, h5⟩, h6⟩, h7⟩, h8⟩ := hf
    obtain ⟨as, r, v, σ', rfl, g2, g3, g4, g5, g6, g7, g8⟩ := key 3 (by decide) h
    obtain ⟨p1, p2, p3, p4, p5, p6, p7⟩ := pl_ok h4
    rw [h5] at p7
    have p7 : a ∈ stT := by simpa using p7
    have hini : (Cond.initialized (mY a).cls).before args s = true := by rw [p1]; exact hts _ (mn_in a (List.mem_range.mpr h4))
    have hlk : va_Nw (Cond.methodLinkNest (cnm (mO M)) im.toNat (mY a) "RibbonRun") s := hN.2 (mO M, im.toNat, a) h3
    have cw : va_CN ({ frames := mF M, cells := 0, slots := 0, locals := mQ M } : Room) s args (cnm (mO M)) im.toNat (mY a) "RibbonRun" (mC a) (mL a) (mR a) (wsM a) (rmM a) 0 0 (mP a) := va_cnB (mP a) hts (good_G (wsM_in h4)) rfl rfl rfl hlk hini ⟨p2, p3, p4⟩ ⟨h7, h8⟩
    have hn : as.length = mP a := by omega
    have hrun := va_runSN (p := p) (l := l) (e := e) (m := m) (below := below) (meth := meth) (c := c) (locs := locs) (cells := 0) (slots := 0) (As := as.map (conc ρ)) (rest := r.map (conc ρ)) (g := F0 m pc ls ((as.reverse ++ r).map (conc ρ))) ⟨hx, hb, hml, hown, hts⟩ (hc a as σ v σ' h4 g5 g7 o3 H.size) ⟨cw, hts _ (mt_in a p7), trivial⟩ ⟨pre_blind _ _ _, fun U hU hW => ⟨rfl, by rw [hU], by rw [hU]; exact hP, va_K.moved hW.alike hK, NW.warm hW hN, hDT⟩⟩ rfl (by rw [List.length_map]; exact hn) hl.2.1 (by simp) (lv_room (by rw [catS_ok]; exact g4)) (dq_ok h1) ⟨Nat.le_refl _, Nat.le_refl _⟩
    refine snd_call hS hAA hrun (fun H1 locs1 w1 w2 hP1 hS1 => ?_)
    have hn := hk _ _ _ _ H1 locs1 ls g6 hl ⟨o1, fun w hw => by
      rcases List.mem_append.mp hw with z | z
      · exact w1 w (by cases v with
          | none => cases z
          | some y => rw [List.mem_singleton.mp z])
      · exact g8 w z, w2⟩ hP1 hS1
    rw [h2] at hn
    exact hn
  | 4, hf, h =>
    simp only [ft8, Bool.and_eq_true, decide_eq_true_eq] at hf
    obtain ⟨⟨⟨⟨h1, h2⟩, h3⟩, h4⟩, h5⟩ := hf
    replace h : cpo k i lv st σ = some res := h
    unfold cpo at h
    obtain ⟨n, r1, e1, h⟩ := aI_inv h
    obtain ⟨dp, r2, e2, h⟩ := aI_inv h
    obtain ⟨c1, o, j, r3, e3, h⟩ := aX_inv h
    obtain ⟨sp, r4, e4, h⟩ := aI_inv h
    obtain ⟨c0, o0, j0, r, e5, h⟩ := aX_inv h
    subst e5
    subst e4
    subst e3
    subst e2
    subst e1
    obtain ⟨⟨g1, g2, g3⟩, h⟩ := iS h
    obtain ⟨g4, h⟩ := iN h
    obtain ⟨n1, hn1, hn2⟩ := wld_get (ρ := ρ) (q := q) (σ := σ) (show (c1, o, j + 1) ∈ cts from ok_h (ok_t (ok_t o2)))
    obtain ⟨n0, hm1, hm2⟩ := wld_get (ρ := ρ) (q := q) (σ := σ) (show (c0, o0, j0 + 1) ∈ cts from ok_h (ok_t (ok_t (ok_t (ok_t o2)))))
    rw [cel_a (Or.inl g1), g1] at hn2
    rw [cel_a (Or.inl g2), g2] at hm2
    have hlk : (Cond.methodLink (cnm (mO M)) im.toNat acN).before args s = true := hts (cpC (mO M, im.toNat)) (cp_in _ h3)
    refine va_copyi hx hb (hml.trans hl.2.1.symm) hown hlk (hts _ (cp_w _ (List.mem_of_getElem? (i := 0) rfl))) (hts _ (cp_w _ (List.mem_of_getElem? (i := 1) rfl))) (hts _ (cp_w _ (List.mem_of_getElem? (i := 2) rfl))) hK hP (hD σ) hS n0 n1 0 0 hm2 hn2 rfl rfl rfl (fun z => g4 (Or.inl z)) (fun z => g4 (Or.inr (Or.inl z))) (fun z => g4 (Or.inr (Or.inr (Or.inl z)))) (Nat.not_lt.mp fun z => g4 (Or.inr (Or.inr (Or.inr (Or.inl z))))) (Nat.not_lt.mp fun z => g4 (Or.inr (Or.inr (Or.inr (Or.inr z))))) (fun _ _ => rfl) h4 (by rw [catS_ok]; exact Nat.le_trans (Nat.add_le_add_right g3 _) h5) (dq_ok h1) (fun H1 locs1 hP1 hD1 hS1 => ?_)
    have hcc : cel ρ q (sA σ c1 o j (va_cpy (gA σ c0 o0 j0) (gA σ c1 o j) sp.toNatClampNeg dp.toNatClampNeg n.toNatClampNeg)) (c1, o, j + 1) = .inl (q 0, (ar c1 j).2, .inl (va_cpy (gA σ c0 o0 j0) (gA σ c1 o j) sp.toNatClampNeg dp.toNatClampNeg n.toNatClampNeg)) := by rw [cel_sA' (Or.inl g1), g1]
    rw [← hcc, wld_set hn1 (fun t' h => cel_sA h)] at hP1
    have hn := hk _ _ _ _ H1 locs1 ls h hl ⟨o1, ok_t (ok_t (ok_t (ok_t (ok_t o2)))), fun a b d z1 z2 => o3 a b d z1 z2⟩ hP1 hS1
    rw [h2] at hn
    exact hn
  | 2, hf, _ => exact absurd (show false = true from hf) Bool.false_ne_true
  | _ + 5, hf, _ => exact absurd (show false = true from hf) Bool.false_ne_true
/-- a method's body -/
theorem snd_ex (X : CX p R s m args meth c D q ρ A M) (hM : M < nM) {cal : CT} (hc : HC l D q ρ cal) : ∀ f : Nat, GK p l e R s m args below meth c D q ρ A M (ex cal (cod M) f) res
  | 0 => fun i lv st σ H locs ls h => by cases h
  | f + 1 => fun i lv st σ H locs ls h hl ho hP hS => by
    have hfit := (fit_all M (List.mem_range.mpr hM)).2
    have ih := snd_ex X hM hc f
    replace h : (match (cod M)[i]? with
      | none => none
      | some op => stp cal (ex cal (cod M) f) i op lv st σ) = some res := h
    cases hop : (cod M)[i]? with
    | none => rw [hop] at h; cases h
    | some op =>
      rw [hop] at h
      have ho1 := fitL_at _ _ _ _ _ _ _ _ _ hfit i op hop
      rw [Nat.zero_add] at ho1
      obtain ⟨g, s', pc, im, a, b⟩ := op
      have hpc : pcO (cod M) i = pc := by rw [pcO, hop]
      rw [hpc]
      match g, ho1, h with
      | 0, ho1, h => exact snd0 X ih hl ho hP hS s' ho1 h
      | 1, ho1, h => exact snd1 X ih hl ho hP hS s' ho1 h
      | 2, ho1, h => exact snd2 X ih hl ho hP hS s' ho1 h
      | 3, ho1, h => exact snd3 X ih hl ho hP hS s' ho1 h
      | 4, ho1, h => exact snd4 X ih hl ho hP hS s' ho1 h
      | 5, ho1, h => exact snd5 X ih hl ho hP hS s' ho1 h
      | 6, ho1, h => exact snd6 X ih hl ho hP hS ho1 h
      | 7, ho1, h => exact snd7 X ih hl ho hP hS s' ho1 h
      | 8, ho1, h => exact snd8 X hc ih hl ho hP hS s' ho1 h
      | 9, ho1, h => exact snd9 X ho hP hS s' ho1 h
      | _ + 10, ho1, _ => exact absurd (show false = true from ho1) Bool.false_ne_true
end SND
theorem ent1_mem : ∀ (as : List AV) (w : AV), some w ∈ ent1 as → w ∈ as
  | [], w, h => by simp [ent1] at h
  | .inl x :: r, w, h => by
    rw [ent1] at h
    · rcases List.mem_cons.mp h with h | h
      · cases h; exact List.mem_cons_self
      · exact List.mem_cons_of_mem _ (ent1_mem r w h)
    · rintro y z; cases z
  | .inr (.inr x) :: r, w, h => by
    rw [ent1] at h
    · rcases List.mem_cons.mp h with h | h
      · cases h; exact List.mem_cons_self
      · exact List.mem_cons_of_mem _ (ent1_mem r w h)
    · rintro y z; cases z
  | .inr (.inl x) :: r, w, h => by
    rw [ent1] at h
    rcases List.mem_cons.mp h with h | h
    · cases h; exact List.mem_cons_self
    · rcases List.mem_cons.mp h with h | h
      · cases h
      · exact List.mem_cons_of_mem _ (ent1_mem r w h)
set_option maxHeartbeats 4000000 in
/-- EVERY METHOD OF THE TABLE: what it answers abstractly, it answers -/
theorem snd_met (l : Launch) (D : va_G) (q : Nat → ClassId) (ρ : Nat × Nat × Nat → Nat) : ∀ f : Nat, HC l D q ρ (exM f)
  | 0 => fun a as σ v σ' ha h => by cases h
  | f + 1 => fun a as σ v σ' ha h hok hoR sz => by
    have ih := snd_met l D q ρ f
    obtain ⟨hle, h⟩ := iS (show (if (ent1 as).length ≤ mL a then ex (exM f) (cod a) (f + 1) 0 (ent a as) [] σ else none) = some (v, σ') from h)
    obtain ⟨p1, p2, p3, p4, p5, p6, p7⟩ := pl_ok ha
    refine Met.ofW (cc := mC a) (maxL := mL a) (ret := mR a) p5 rfl ?_
    intro p e s m args below meth c s₁ B hml hv
    obtain ⟨rfl, hsz, hP, hK, hN, hD0⟩ := hv
    have hx := B.exec
    have hb := B.bytes
    have hr := B.returns
    have hts0 := atoms_spec (ws := wsM a) B.pre
    have hts : ∀ w ∈ tbG, w.before (as.map (conc ρ)).toArray s = true := fun w hw => hts0 w (List.mem_cons_of_mem _ hw)
    have hown : s.vm.findClass (cnm (mO a)) = some m.cls := by rw [← p1]; exact findClass_of_methodNamed B.named
    have hlocks := B.notSynchronized
    subst hsz
    have hl := lv_entry (as.map (conc ρ)) (n := mL a) (by rw [ent1_len]; exact hle)
    rw [lg_entry_eq]
    generalize (lg_sl (as.map (conc ρ)) ++ List.replicate (mL a - (lg_sl (as.map (conc ρ))).length) Slot.unset).toArray = ls at hl ⊢
    have hLR : LR ρ (mL a) ls (ent a as) := by
      refine LR.of ?_ hl fun j w hj => ?_
      · rw [ent, List.length_append, List.length_replicate]
        omega
      · have hj2 : (ent1 as)[j]? = some (some w) := by
          by_cases hlt : j < (ent1 as).length
          · rw [ent, List.getElem?_append_left hlt] at hj
            exact hj
          · rw [ent, List.getElem?_append_right (by omega)] at hj
            have := List.eq_of_mem_replicate (List.mem_of_getElem? hj)
            cases this
        have := ent1_args (ρ := ρ) as 0 j w hj2
        rwa [Nat.zero_add] at this
    have hoL : ∀ w, some w ∈ ent a as → okv w := fun w hw => by
      rw [ent] at hw
      rcases List.mem_append.mp hw with z | z
      · exact hok w (ent1_mem as w z)
      · have := List.eq_of_mem_replicate z
        cases this
    have X : CX p (headSpec (wsM a) (rmM a)).room s m (as.map (conc ρ)).toArray meth c D q ρ (Aw ρ s.heap.size) a := ⟨hx, hb, hml, hown, hts, hN, hK, fun σ' => wld_D hD0 (fun t ht => Or.inl ⟨t, ht, rfl⟩), fun x hx => Or.inr hx, rfl, hr, hlocks⟩
    have := snd_ex (l := l) (e := e) (below := below) (res := (v, σ')) X ha ih (f + 1) 0 (ent a as) [] σ s.heap [] ls h hLR ⟨hoL, fun w hw => (by cases hw), hoR⟩ hP va_S.rf
    rw [(fit_all a (List.mem_range.mpr ha)).1] at this
    exact this
