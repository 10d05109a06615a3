/-! THE WORLD: the machine's cells as the abstract state says -/
def cts : List (Nat × Nat × Nat) := [(0, 0, 0), (0, 0, 2), (0, 0, 3), (0, 0, 4), (0, 1, 0), (0, 1, 2), (0, 1, 3), (0, 1, 4), (1, 0, 0), (1, 0, 1), (1, 0, 2), (1, 0, 3), (1, 0, 4), (1, 0, 5), (1, 0, 6), (2, 0, 0), (2, 0, 6), (2, 0, 7), (2, 0, 8), (2, 0, 9), (2, 0, 10), (2, 1, 0), (2, 1, 6), (2, 1, 7), (2, 1, 8), (2, 1, 9), (2, 1, 10), (3, 0, 0), (3, 0, 1), (3, 1, 0), (3, 1, 1), (3, 2, 0), (3, 2, 1), (3, 3, 0), (3, 3, 1), (3, 4, 0), (3, 4, 1), (3, 5, 0), (3, 5, 1), (4, 0, 0), (4, 0, 1), (5, 0, 0), (5, 0, 3), (5, 0, 4), (5, 0, 5), (5, 0, 6), (5, 0, 7), (5, 0, 8), (5, 1, 0), (5, 1, 3), (5, 1, 4), (5, 1, 5), (5, 1, 6), (5, 1, 7), (5, 1, 8), (5, 2, 0), (5, 2, 3), (5, 2, 4), (5, 2, 5), (5, 2, 6), (5, 2, 7), (5, 2, 8), (5, 3, 0), (5, 3, 3), (5, 3, 4), (5, 3, 5), (5, 3, 6), (5, 3, 7), (5, 3, 8), (5, 4, 0), (5, 4, 3), (5, 4, 4), (5, 4, 5), (5, 4, 6), (5, 4, 7), (5, 4, 8), (6, 0, 0), (6, 0, 2), (7, 0, 0), (7, 0, 1), (7, 0, 2), (7, 0, 3), (7, 0, 4), (8, 0, 0), (8, 0, 1), (8, 0, 2), (9, 0, 0), (9, 0, 1), (9, 0, 2), (10, 0, 0), (10, 0, 1), (10, 0, 2), (10, 0, 3), (10, 0, 4), (10, 0, 5), (10, 0, 6), (11, 0, 0), (12, 0, 0), (12, 0, 1), (12, 0, 4), (12, 0, 19), (12, 0, 20), (12, 0, 21), (12, 0, 22), (12, 0, 23), (12, 0, 24), (12, 0, 25), (12, 0, 26), (12, 0, 27), (12, 0, 28), (12, 0, 29), (12, 0, 30), (12, 0, 31), (12, 0, 32), (12, 0, 33), (12, 0, 34), (12, 0, 35), (12, 0, 42), (12, 0, 43), (12, 0, 45), (12, 0, 46), (12, 0, 47), (12, 0, 48), (12, 0, 49), (12, 0, 50), (12, 0, 51), (12, 0, 63), (12, 0, 67), (12, 0, 70), (12, 0, 71), (12, 0, 72), (12, 0, 74), (12, 0, 76)]
def conc (ρ : Nat × Nat × Nat → Nat) : AV → Value
  | .inl x => .int x
  | .inr (.inl x) => .long x
  | .inr (.inr t) => .ref (ρ t)
def fldV (ρ : Nat × Nat × Nat → Nat) (σ : ST) (c o k : Nat) : Value := match fty c k with
  | 0 => .int (gI σ c o k)
  | 1 => .int (gI σ c o k)
  | 5 => .long (gL σ c o k)
  | 2 => .ref (ρ (c, o, k + 1))
  | 3 => .ref (ρ (sub c o k))
  | _ => .ref (ρ (2, gR σ c o k, 0))
def aco (ρ : Nat × Nat × Nat → Nat) (σ : ST) (c o j : Nat) : (Nat → Int32) ⊕ (Nat → Int64) ⊕ (Nat → UInt32) ⊕ (Nat → UInt64) ⊕ (Nat → Option Nat) := match (ar c j).1 with
  | 1 => .inr (.inl (gB σ c o j))
  | 4 => .inr (.inr (.inr (.inr (fun i => some (ρ (3, 3 * o + i, 0))))))
  | _ => .inl (gA σ c o j)
def cel (ρ : Nat × Nat × Nat → Nat) (q : Nat → ClassId) (σ : ST) (t : Nat × Nat × Nat) : va_E := match t with
  | (c, o, 0) => .inr (c, (List.range (cNn c)).map (fldV ρ σ c o))
  | (c, o, j + 1) => .inl (q (ar c j).1, (ar c j).2, aco ρ σ c o j)
def wld (ρ : Nat × Nat × Nat → Nat) (q : Nat → ClassId) (σ : ST) : va_W := cts.map (fun t => (ρ t, cel ρ q σ t))
abbrev tyq (q : Nat → ClassId) : List (ClassId × FieldType) := [(q 0, .int), (q 1, .long), (q 2, .byte), (q 3, .boolean), (q 4, .object "RibbonRun$Law")]
def okv : AV → Prop
  | .inr (.inr t) => t ∈ cts
  | _ => True
def okR (σ : ST) : Prop := ∀ c o k, fty c k = 4 → (c, o, 0) ∈ cts → (2, gR σ c o k, 0) ∈ cts
def Aw (ρ : Nat × Nat × Nat → Nat) (sz : Nat) : Nat → Prop := fun x => (∃ t ∈ cts, ρ t = x) ∨ sz ≤ x
theorem cts_nd : cts.Nodup := by decide +kernel
theorem cts_inj {i j : Nat} {t : Nat × Nat × Nat} (hi : cts[i]? = some t) (hj : cts[j]? = some t) : i = j := by
  have hl := (List.getElem?_eq_some_iff.mp hi).1
  exact (List.getElem?_inj hl cts_nd).mp (hi.trans hj.symm)
section WLD
variable {ρ : Nat × Nat × Nat → Nat} {q : Nat → ClassId} {σ : ST}
theorem wld_at {t : Nat × Nat × Nat} {n : Nat} (h : cts[n]? = some t) : (wld ρ q σ)[n]? = some (ρ t, cel ρ q σ t) := by
  rw [wld, List.getElem?_map, h]
  rfl
theorem wld_of {n : Nat} {x : Nat × va_E} (h : (wld ρ q σ)[n]? = some x) : ∃ t, cts[n]? = some t ∧ x = (ρ t, cel ρ q σ t) := by
  rw [wld, List.getElem?_map] at h
  cases hm : cts[n]? with
  | none => rw [hm] at h; cases h
  | some t => rw [hm] at h; cases h; exact ⟨t, rfl, rfl⟩
theorem wld_get {t : Nat × Nat × Nat} (h : t ∈ cts) : ∃ n : Nat, cts[n]? = some t ∧ (wld ρ q σ)[n]? = some (ρ t, cel ρ q σ t) := by
  obtain ⟨n, hn⟩ := List.getElem?_of_mem h
  exact ⟨n, hn, wld_at hn⟩
theorem wld_set {σ' : ST} {n : Nat} {t : Nat × Nat × Nat} (h : cts[n]? = some t) (hc : ∀ t', t' ≠ t → cel ρ q σ' t' = cel ρ q σ t') : (wld ρ q σ).set n (ρ t, cel ρ q σ' t) = wld ρ q σ' := by
  have hl : n < (wld ρ q σ).length := (List.getElem?_eq_some_iff.mp (wld_at (ρ := ρ) (q := q) (σ := σ) h)).1
  apply List.ext_getElem?
  intro m
  by_cases hm : m = n
  · subst hm
    rw [List.getElem?_set_self hl, wld_at h]
  · rw [List.getElem?_set_ne (Ne.symm hm)]
    cases hx : cts[m]? with
    | none => rw [wld, wld, List.getElem?_map, List.getElem?_map, hx]; rfl
    | some t' =>
      rw [wld_at hx, wld_at hx, hc t' (fun z => hm (cts_inj (z ▸ hx) h))]
theorem wld_D {σ' : ST} {A B : Nat → Prop} (h : va_D A (wld ρ q σ)) (hB : ∀ t ∈ cts, B (ρ t)) : va_D B (wld ρ q σ') := by
  refine ⟨fun i j x y hi hj hxy => ?_, fun k x hk => ?_⟩
  · obtain ⟨t, h1, rfl⟩ := wld_of hi
    obtain ⟨u, h2, rfl⟩ := wld_of hj
    exact h.1 i j _ _ (wld_at h1) (wld_at h2) hxy
  · obtain ⟨t, h1, rfl⟩ := wld_of hk
    exact hB t (List.mem_of_getElem? h1)
theorem wld_DA {A : Nat → Prop} (h : va_D A (wld ρ q σ)) : ∀ t ∈ cts, A (ρ t) := fun t ht => by
  obtain ⟨n, h1, h2⟩ := wld_get (ρ := ρ) (q := q) (σ := σ) ht
  exact h.2 n _ h2
end WLD
theorem u3_s {α : Type} {f : Nat → Nat → Nat → α} {c o k : Nat} {v : α} : u3 f c o k v c o k = v := by simp [u3]
theorem u3_n {α : Type} {f : Nat → Nat → Nat → α} {c o k a b d : Nat} {v : α} (h : ¬ (a = c ∧ b = o ∧ d = k)) : u3 f c o k v a b d = f a b d := by
  unfold u3
  rw [if_neg (fun z => h ⟨z.2.1, z.2.2, z.1⟩)]
section CEL
variable {ρ : Nat × Nat × Nat → Nat} {q : Nat → ClassId} {σ : ST} {c o k : Nat}
theorem fs_set {f g : Nat → Value} {N : Nat} {v : Value} (hk : k < N) (hv : g k = v) (hg : ∀ j, j ≠ k → g j = f j) : ((List.range N).map f).set k v = (List.range N).map g := by
  apply List.ext_getElem?
  intro m
  by_cases hm : m = k
  · subst hm
    rw [List.getElem?_set_self (by simpa using hk), List.getElem?_map, List.getElem?_range hk]
    rw [← hv]; rfl
  · rw [List.getElem?_set_ne (Ne.symm hm), List.getElem?_map, List.getElem?_map]
    cases hx : (List.range N)[m]? with
    | none => rfl
    | some z =>
      have hz : z = m := by
        have h2 := List.getElem?_eq_some_iff.mp hx
        obtain ⟨h3, h4⟩ := h2
        rw [List.getElem_range] at h4
        exact h4.symm
      subst hz
      show some (f z) = some (g z)
      rw [hg z hm]
theorem fs_at {f : Nat → Value} {N : Nat} (hk : k < N) : ((List.range N).map f)[k]? = some (f k) := by
  rw [List.getElem?_map, List.getElem?_range hk]; rfl
theorem cel_sI {v : Int32} {t : Nat × Nat × Nat} (h : t ≠ (c, o, 0)) : cel ρ q (sI σ c o k v) t = cel ρ q σ t := by
  obtain ⟨a, b, d⟩ := t
  cases d with
  | zero =>
    have e : ∀ j, fldV ρ (sI σ c o k v) a b j = fldV ρ σ a b j := fun j => by
      have e1 : gI (sI σ c o k v) a b j = gI σ a b j := u3_n (fun z => h (by rw [z.1, z.2.1]))
      unfold fldV
      rw [e1]
      rfl
    show (Sum.inr (a, _) : va_E) = .inr (a, _)
    congr 2
    exact List.map_congr_left fun j _ => e j
  | succ d => rfl
theorem cel_sI' {v : Int32} (hk : k < cNn c) (hf : fty c k = 0 ∨ fty c k = 1) : (Sum.inr (c, ((List.range (cNn c)).map (fldV ρ σ c o)).set k (.int v)) : va_E) = cel ρ q (sI σ c o k v) (c, o, 0) := by
  show _ = (Sum.inr (c, (List.range (cNn c)).map (fldV ρ (sI σ c o k v) c o)) : va_E)
  congr 2
  refine fs_set hk ?_ (fun j hj => ?_)
  · have e1 : gI (sI σ c o k v) c o k = v := u3_s
    unfold fldV
    rcases hf with h | h <;> rw [h] <;> exact congrArg Value.int e1
  · have e1 : gI (sI σ c o k v) c o j = gI σ c o j := u3_n (fun z => hj z.2.2)
    unfold fldV
    rw [e1]
    rfl
theorem cel_sL {v : Int64} {t : Nat × Nat × Nat} (h : t ≠ (c, o, 0)) : cel ρ q (sL σ c o k v) t = cel ρ q σ t := by
  obtain ⟨a, b, d⟩ := t
  cases d with
  | zero =>
    have e : ∀ j, fldV ρ (sL σ c o k v) a b j = fldV ρ σ a b j := fun j => by
      have e1 : gL (sL σ c o k v) a b j = gL σ a b j := u3_n (fun z => h (by rw [z.1, z.2.1]))
      unfold fldV
      rw [e1]
      rfl
    show (Sum.inr (a, _) : va_E) = .inr (a, _)
    congr 2
    exact List.map_congr_left fun j _ => e j
  | succ d => rfl
theorem cel_sL' {v : Int64} (hk : k < cNn c) (hf : fty c k = 5) : (Sum.inr (c, ((List.range (cNn c)).map (fldV ρ σ c o)).set k (.long v)) : va_E) = cel ρ q (sL σ c o k v) (c, o, 0) := by
  show _ = (Sum.inr (c, (List.range (cNn c)).map (fldV ρ (sL σ c o k v) c o)) : va_E)
  congr 2
  refine fs_set hk ?_ (fun j hj => ?_)
  · have e1 : gL (sL σ c o k v) c o k = v := u3_s
    unfold fldV
    rw [hf]
    exact congrArg Value.long e1
  · have e1 : gL (sL σ c o k v) c o j = gL σ c o j := u3_n (fun z => hj z.2.2)
    unfold fldV
    rw [e1]
    rfl
theorem cel_sR {v : Nat} {t : Nat × Nat × Nat} (h : t ≠ (c, o, 0)) : cel ρ q (sR σ c o k v) t = cel ρ q σ t := by
  obtain ⟨a, b, d⟩ := t
  cases d with
  | zero =>
    have e : ∀ j, fldV ρ (sR σ c o k v) a b j = fldV ρ σ a b j := fun j => by
      have e1 : gR (sR σ c o k v) a b j = gR σ a b j := u3_n (fun z => h (by rw [z.1, z.2.1]))
      unfold fldV
      rw [e1]
      rfl
    show (Sum.inr (a, _) : va_E) = .inr (a, _)
    congr 2
    exact List.map_congr_left fun j _ => e j
  | succ d => rfl
theorem cel_sR' {v : Nat} (hk : k < cNn c) (hf : fty c k = 4) : (Sum.inr (c, ((List.range (cNn c)).map (fldV ρ σ c o)).set k (.ref (ρ (2, v, 0)))) : va_E) = cel ρ q (sR σ c o k v) (c, o, 0) := by
  show _ = (Sum.inr (c, (List.range (cNn c)).map (fldV ρ (sR σ c o k v) c o)) : va_E)
  congr 2
  refine fs_set hk ?_ (fun j hj => ?_)
  · have e1 : gR (sR σ c o k v) c o k = v := u3_s
    unfold fldV
    rw [hf]
    show Value.ref (ρ (2, gR (sR σ c o k v) c o k, 0)) = _
    rw [e1]
  · have e1 : gR (sR σ c o k v) c o j = gR σ c o j := u3_n (fun z => hj z.2.2)
    unfold fldV
    rw [e1]
    rfl
theorem cel_sA {v : Nat → Int32} {t : Nat × Nat × Nat} (h : t ≠ (c, o, k + 1)) : cel ρ q (sA σ c o k v) t = cel ρ q σ t := by
  obtain ⟨a, b, d⟩ := t
  cases d with
  | zero => rfl
  | succ d =>
    have e1 : gA (sA σ c o k v) a b d = gA σ a b d := u3_n (fun z => h (by rw [z.1, z.2.1, z.2.2]))
    show (Sum.inl (_, _, aco ρ (sA σ c o k v) a b d) : va_E) = .inl (_, _, aco ρ σ a b d)
    unfold aco
    rw [e1]
    rfl
theorem cel_sB {v : Nat → Int64} {t : Nat × Nat × Nat} (h : t ≠ (c, o, k + 1)) : cel ρ q (sB σ c o k v) t = cel ρ q σ t := by
  obtain ⟨a, b, d⟩ := t
  cases d with
  | zero => rfl
  | succ d =>
    have e1 : gB (sB σ c o k v) a b d = gB σ a b d := u3_n (fun z => h (by rw [z.1, z.2.1, z.2.2]))
    show (Sum.inl (_, _, aco ρ (sB σ c o k v) a b d) : va_E) = .inl (_, _, aco ρ σ a b d)
    unfold aco
    rw [e1]
    rfl
theorem cel_a (h : (ar c k).1 = 0 ∨ (ar c k).1 = 2 ∨ (ar c k).1 = 3) : cel ρ q σ (c, o, k + 1) = .inl (q (ar c k).1, (ar c k).2, .inl (gA σ c o k)) := by
  show (Sum.inl (_, _, aco ρ σ c o k) : va_E) = _
  unfold aco
  rcases h with h | h | h <;> rw [h] <;> rfl
theorem cel_b (h : (ar c k).1 = 1) : cel ρ q σ (c, o, k + 1) = .inl (q (ar c k).1, (ar c k).2, .inr (.inl (gB σ c o k))) := by
  show (Sum.inl (_, _, aco ρ σ c o k) : va_E) = _
  unfold aco
  rw [h]
  rfl
theorem cel_q (h : (ar c k).1 = 4) : cel ρ q σ (c, o, k + 1) = .inl (q (ar c k).1, (ar c k).2, .inr (.inr (.inr (.inr (fun i => some (ρ (3, 3 * o + i, 0))))))) := by
  show (Sum.inl (_, _, aco ρ σ c o k) : va_E) = _
  unfold aco
  rw [h]
  rfl
theorem cel_sA' {v : Nat → Int32} (h : (ar c k).1 = 0 ∨ (ar c k).1 = 2 ∨ (ar c k).1 = 3) : cel ρ q (sA σ c o k v) (c, o, k + 1) = .inl (q (ar c k).1, (ar c k).2, .inl v) := by
  rw [cel_a h, show gA (sA σ c o k v) c o k = v from u3_s]
theorem cel_sB' {v : Nat → Int64} (h : (ar c k).1 = 1) : cel ρ q (sB σ c o k v) (c, o, k + 1) = .inl (q (ar c k).1, (ar c k).2, .inr (.inl v)) := by
  rw [cel_b h, show gB (sB σ c o k v) c o k = v from u3_s]
end CEL
/-- what a cell names is a cell -/
def ctq (t : Nat × Nat × Nat) : Bool := decide (t.1 < 13) && (match t.2.2 with
  | 0 => (List.range (cNn t.1)).all (fun k => match fty t.1 k with
    | 2 => decide ((t.1, t.2.1, k + 1) ∈ cts)
    | 3 => decide (sub t.1 t.2.1 k ∈ cts)
    | _ => true)
  | j + 1 => decide ((t.1, t.2.1, 0) ∈ cts) && decide ((ar t.1 j).1 < 5) && (match (ar t.1 j).1 with
    | 4 => (List.range (ar t.1 j).2).all (fun i => decide ((3, 3 * t.2.1 + i, 0) ∈ cts))
    | _ => true))
theorem ctq_ok : ∀ t ∈ cts, ctq t = true := List.all_eq_true.mp (by decide +kernel)
theorem ct_cls {c o k : Nat} (h : (c, o, k) ∈ cts) : c < 13 := by
  have := ctq_ok _ h
  simp only [ctq, Bool.and_eq_true, decide_eq_true_eq] at this
  exact this.1
theorem ct_arr {c o k : Nat} (h : (c, o, 0) ∈ cts) (hk : k < cNn c) (hf : fty c k = 2) : (c, o, k + 1) ∈ cts := by
  have := ctq_ok _ h
  simp only [ctq, Bool.and_eq_true, List.all_eq_true] at this
  have h2 := this.2 k (List.mem_range.mpr hk)
  rw [hf] at h2
  exact of_decide_eq_true h2
theorem ct_sub {c o k : Nat} (h : (c, o, 0) ∈ cts) (hk : k < cNn c) (hf : fty c k = 3) : sub c o k ∈ cts := by
  have := ctq_ok _ h
  simp only [ctq, Bool.and_eq_true, List.all_eq_true] at this
  have h2 := this.2 k (List.mem_range.mpr hk)
  rw [hf] at h2
  exact of_decide_eq_true h2
theorem ct_law {c o j i : Nat} (h : (c, o, j + 1) ∈ cts) (ha : (ar c j).1 = 4) (hi : i < (ar c j).2) : (3, 3 * o + i, 0) ∈ cts := by
  have := ctq_ok _ h
  simp only [ctq, Bool.and_eq_true] at this
  have h2 := this.2.2
  rw [ha] at h2
  exact of_decide_eq_true (List.all_eq_true.mp h2 i (List.mem_range.mpr hi))
/-- the locals -/
def LR (ρ : Nat × Nat × Nat → Nat) (nL : Nat) (ls : Array Slot) (lv : LV) : Prop := lv.length = nL ∧ ls.size = nL ∧ lv_wf ls ∧ ∀ (i : Nat) (v : AV), lv[i]? = some (some v) → ls[i]? = some (.val (conc ρ v))
def prs (ρ : Nat × Nat × Nat → Nat) : Nat → LV → List (Nat × Value)
  | _, [] => []
  | n, some v :: r => (n, conc ρ v) :: prs ρ (n + 1) r
  | n, none :: r => prs ρ (n + 1) r
theorem prs_mem {ρ : Nat × Nat × Nat → Nat} : ∀ (lv : LV) (n : Nat) (x : Nat × Value), x ∈ prs ρ n lv ↔ ∃ (j : Nat) (v : AV), lv[j]? = some (some v) ∧ x = (n + j, conc ρ v)
  | [], n, x => by simp [prs]
  | some w :: r, n, x => by
    rw [prs, List.mem_cons, prs_mem r (n + 1) x]
    constructor
    · rintro (rfl | ⟨j, v, h1, rfl⟩)
      · exact ⟨0, w, rfl, rfl⟩
      · exact ⟨j + 1, v, by rw [List.getElem?_cons_succ]; exact h1, by rw [Nat.add_assoc, Nat.add_comm 1 j]⟩
    · rintro ⟨j, v, h1, rfl⟩
      cases j with
      | zero => rw [List.getElem?_cons_zero] at h1; cases h1; exact Or.inl rfl
      | succ j => rw [List.getElem?_cons_succ] at h1; exact Or.inr ⟨j, v, h1, by rw [Nat.add_assoc, Nat.add_comm 1 j]⟩
  | none :: r, n, x => by
    rw [prs, prs_mem r (n + 1) x]
    constructor
    · rintro ⟨j, v, h1, rfl⟩
      exact ⟨j + 1, v, by rw [List.getElem?_cons_succ]; exact h1, by rw [Nat.add_assoc, Nat.add_comm 1 j]⟩
    · rintro ⟨j, v, h1, rfl⟩
      cases j with
      | zero => rw [List.getElem?_cons_zero] at h1; cases h1
      | succ j => rw [List.getElem?_cons_succ] at h1; exact ⟨j, v, h1, by rw [Nat.add_assoc, Nat.add_comm 1 j]⟩
theorem LR.has {ρ : Nat × Nat × Nat → Nat} {nL : Nat} {ls : Array Slot} {lv : LV} (h : LR ρ nL ls lv) : lv_has ls nL (prs ρ 0 lv) := by
  refine ⟨h.2.1, h.2.2.1, fun x hx => ?_⟩
  obtain ⟨j, v, h1, rfl⟩ := (prs_mem lv 0 x).mp hx
  rw [Nat.zero_add]
  exact h.2.2.2 j v h1
theorem LR.of {ρ : Nat × Nat × Nat → Nat} {nL : Nat} {ls : Array Slot} {lv : LV} {l : List (Nat × Value)} (hn : lv.length = nL) (h : lv_has ls nL l) (hm : ∀ (j : Nat) (v : AV), lv[j]? = some (some v) → (j, conc ρ v) ∈ l) : LR ρ nL ls lv := ⟨hn, h.1, h.2.1, fun i v hv => h.2.2 (i, conc ρ v) (hm i v hv)⟩
theorem conc_cat {ρ : Nat × Nat × Nat → Nat} : ∀ v : AV, (conc ρ v).category = catV v
  | .inl _ => rfl
  | .inr (.inl _) => rfl
  | .inr (.inr _) => rfl
theorem catS_ok {ρ : Nat × Nat × Nat → Nat} : ∀ r : List AV, ((r.map (conc ρ)).map fun v => v.category).sum = catS r
  | [] => rfl
  | v :: r => by
    show (conc ρ v).category + ((r.map (conc ρ)).map fun v => v.category).sum = catV v + catS r
    rw [conc_cat, catS_ok r]
theorem klf_some {x : Option AV} {v : AV} (h : klf x = some v) : x = some v ∧ catV v = 1 := by
  match x, h with
  | some (.inl a), h => cases h; exact ⟨rfl, rfl⟩
  | some (.inr (.inr a)), h => cases h; exact ⟨rfl, rfl⟩
theorem sto_len : ∀ (lv : LV) (i : Nat) (v : AV), (sto lv i v).length = lv.length
  | [], _, _ => rfl
  | _ :: _, 0, _ => rfl
  | x :: r, 1, v => by rw [sto, List.length_cons, List.length_cons, sto_len r 0 v]
  | x :: r, i + 2, v => by rw [sto, List.length_cons, List.length_cons, sto_len r (i + 1) v]
theorem sto_get : ∀ (lv : LV) (i : Nat) (v : AV) (j : Nat) (w : AV), (sto lv i v)[j]? = some (some w) → (j = i ∧ w = v) ∨ (j ≠ i ∧ lv[j]? = some (some w) ∧ (j + 1 = i → catV w = 1))
  | [], _, _, _, _, h => by simp [sto] at h
  | x :: r, 0, v, 0, w, h => by
    rw [sto, List.getElem?_cons_zero] at h
    cases h
    exact Or.inl ⟨rfl, rfl⟩
  | x :: r, 0, v, j + 1, w, h => by
    rw [sto, List.getElem?_cons_succ] at h
    exact Or.inr ⟨by omega, by rw [List.getElem?_cons_succ]; exact h, fun z => by omega⟩
  | x :: r, 1, v, 0, w, h => by
    rw [sto, List.getElem?_cons_zero] at h
    obtain ⟨h1, h2⟩ := klf_some (Option.some.inj h)
    exact Or.inr ⟨by omega, by rw [List.getElem?_cons_zero, h1], fun _ => h2⟩
  | x :: r, 1, v, j + 1, w, h => by
    rw [sto, List.getElem?_cons_succ] at h
    rcases sto_get r 0 v j w h with ⟨h1, h2⟩ | ⟨h1, h2, h3⟩
    · exact Or.inl ⟨by omega, h2⟩
    · exact Or.inr ⟨by omega, by rw [List.getElem?_cons_succ]; exact h2, fun z => by omega⟩
  | x :: r, i + 2, v, 0, w, h => by
    rw [sto, List.getElem?_cons_zero] at h
    exact Or.inr ⟨by omega, by rw [List.getElem?_cons_zero]; exact h, fun z => by omega⟩
  | x :: r, i + 2, v, j + 1, w, h => by
    rw [sto, List.getElem?_cons_succ] at h
    rcases sto_get r (i + 1) v j w h with ⟨h1, h2⟩ | ⟨h1, h2, h3⟩
    · exact Or.inl ⟨by omega, h2⟩
    · exact Or.inr ⟨by omega, by rw [List.getElem?_cons_succ]; exact h2, fun z => h3 (by omega)⟩
theorem stoL_len : ∀ (lv : LV) (i : Nat) (v : Int64), (stoL lv i v).length = lv.length
  | [], _, _ => rfl
  | _ :: [], 0, _ => rfl
  | _ :: _ :: _, 0, _ => rfl
  | x :: r, 1, v => by rw [stoL, List.length_cons, List.length_cons, stoL_len r 0 v]
  | x :: r, i + 2, v => by rw [stoL, List.length_cons, List.length_cons, stoL_len r (i + 1) v]
theorem stoL_get : ∀ (lv : LV) (i : Nat) (v : Int64) (j : Nat) (w : AV), (stoL lv i v)[j]? = some (some w) → (j = i ∧ w = vL v) ∨ (j ≠ i ∧ j ≠ i + 1 ∧ lv[j]? = some (some w) ∧ (j + 1 = i → catV w = 1))
  | [], _, _, _, _, h => by simp [stoL] at h
  | x :: [], 0, v, 0, w, h => by simp [stoL] at h
  | x :: [], 0, v, j + 1, w, h => by simp [stoL] at h
  | x :: y :: r, 0, v, 0, w, h => by
    rw [stoL, List.getElem?_cons_zero] at h
    cases h
    exact Or.inl ⟨rfl, rfl⟩
  | x :: y :: r, 0, v, 1, w, h => by
    rw [stoL, List.getElem?_cons_succ, List.getElem?_cons_zero] at h
    cases h
  | x :: y :: r, 0, v, j + 2, w, h => by
    rw [stoL, List.getElem?_cons_succ, List.getElem?_cons_succ] at h
    exact Or.inr ⟨by omega, by omega, by rw [List.getElem?_cons_succ, List.getElem?_cons_succ]; exact h, fun z => by omega⟩
  | x :: r, 1, v, 0, w, h => by
    rw [stoL, List.getElem?_cons_zero] at h
    obtain ⟨h1, h2⟩ := klf_some (Option.some.inj h)
    exact Or.inr ⟨by omega, by omega, by rw [List.getElem?_cons_zero, h1], fun _ => h2⟩
  | x :: r, 1, v, j + 1, w, h => by
    rw [stoL, List.getElem?_cons_succ] at h
    rcases stoL_get r 0 v j w h with ⟨h1, h2⟩ | ⟨h1, h2, h3, h4⟩
    · exact Or.inl ⟨by omega, h2⟩
    · exact Or.inr ⟨by omega, by omega, by rw [List.getElem?_cons_succ]; exact h3, fun z => by omega⟩
  | x :: r, i + 2, v, 0, w, h => by
    rw [stoL, List.getElem?_cons_zero] at h
    exact Or.inr ⟨by omega, by omega, by rw [List.getElem?_cons_zero]; exact h, fun z => by omega⟩
  | x :: r, i + 2, v, j + 1, w, h => by
    rw [stoL, List.getElem?_cons_succ] at h
    rcases stoL_get r (i + 1) v j w h with ⟨h1, h2⟩ | ⟨h1, h2, h3, h4⟩
    · exact Or.inl ⟨by omega, h2⟩
    · exact Or.inr ⟨by omega, by omega, by rw [List.getElem?_cons_succ]; exact h3, fun z => h4 (by omega)⟩
theorem LR.sto {ρ : Nat × Nat × Nat → Nat} {nL i : Nat} {ls ls' : Array Slot} {lv : LV} {v : AV} (h : LR ρ nL ls lv) (h' : lv_has ls' nL ((i, conc ρ v) :: (prs ρ 0 lv).filter (fun q => !(q.1 == i) && !(q.1 + 1 == i && q.2.category == 2)))) : LR ρ nL ls' (sto lv i v) := by
  refine LR.of ((sto_len lv i v).trans h.1) h' fun j w hj => ?_
  rcases sto_get lv i v j w hj with ⟨rfl, rfl⟩ | ⟨h1, h2, h3⟩
  · exact List.mem_cons_self
  · refine List.mem_cons_of_mem _ (List.mem_filter.mpr ⟨(prs_mem lv 0 _).mpr ⟨j, w, h2, by rw [Nat.zero_add]⟩, ?_⟩)
    simp only [Bool.and_eq_true, Bool.not_eq_true', beq_eq_false_iff_ne, ne_eq, Bool.and_eq_false_iff]
    refine ⟨h1, ?_⟩
    by_cases hji : j + 1 = i
    · exact Or.inr (by rw [conc_cat, h3 hji]; decide)
    · exact Or.inl hji
theorem LR.stoL {ρ : Nat × Nat × Nat → Nat} {nL i : Nat} {ls ls' : Array Slot} {lv : LV} {v : Int64} (h : LR ρ nL ls lv) (h' : lv_has ls' nL ((i, Value.long v) :: (prs ρ 0 lv).filter (fun q => !(q.1 == i) && (!(q.1 == i + 1) && !(q.1 + 1 == i && q.2.category == 2))))) : LR ρ nL ls' (stoL lv i v) := by
  refine LR.of ((stoL_len lv i v).trans h.1) h' fun j w hj => ?_
  rcases stoL_get lv i v j w hj with ⟨rfl, rfl⟩ | ⟨h1, h1', h2, h3⟩
  · exact List.mem_cons_self
  · refine List.mem_cons_of_mem _ (List.mem_filter.mpr ⟨(prs_mem lv 0 _).mpr ⟨j, w, h2, by rw [Nat.zero_add]⟩, ?_⟩)
    simp only [Bool.and_eq_true, Bool.not_eq_true', beq_eq_false_iff_ne, ne_eq, Bool.and_eq_false_iff]
    refine ⟨h1, h1', ?_⟩
    by_cases hji : j + 1 = i
    · exact Or.inr (by rw [conc_cat, h3 hji]; decide)
    · exact Or.inl hji
theorem ent1_args {ρ : Nat × Nat × Nat → Nat} : ∀ (as : List AV) (n j : Nat) (v : AV), (ent1 as)[j]? = some (some v) → (n + j, conc ρ v) ∈ lv_args n (as.map (conc ρ))
  | [], _, _, _, h => by simp [ent1] at h
  | .inl x :: r, n, 0, v, h => by
    rw [ent1, List.getElem?_cons_zero] at h
    · cases h
      exact List.mem_cons_self
    · rintro y z; cases z
  | .inl x :: r, n, j + 1, v, h => by
    rw [ent1, List.getElem?_cons_succ] at h
    · have := ent1_args (ρ := ρ) r (n + 1) j v h
      rw [Nat.add_assoc, Nat.add_comm 1 j] at this
      exact List.mem_cons_of_mem _ this
    · rintro y z; cases z
  | .inr (.inr x) :: r, n, 0, v, h => by
    rw [ent1, List.getElem?_cons_zero] at h
    · cases h
      exact List.mem_cons_self
    · rintro y z; cases z
  | .inr (.inr x) :: r, n, j + 1, v, h => by
    rw [ent1, List.getElem?_cons_succ] at h
    · have := ent1_args (ρ := ρ) r (n + 1) j v h
      rw [Nat.add_assoc, Nat.add_comm 1 j] at this
      exact List.mem_cons_of_mem _ this
    · rintro y z; cases z
  | .inr (.inl x) :: r, n, 0, v, h => by
    rw [ent1, List.getElem?_cons_zero] at h
    cases h
    exact List.mem_cons_self
  | .inr (.inl x) :: r, n, 1, v, h => by
    rw [ent1, List.getElem?_cons_succ, List.getElem?_cons_zero] at h
    cases h
  | .inr (.inl x) :: r, n, j + 2, v, h => by
    rw [ent1, List.getElem?_cons_succ, List.getElem?_cons_succ] at h
    have := ent1_args (ρ := ρ) r (n + 2) j v h
    rw [Nat.add_assoc, Nat.add_comm 2 j] at this
    exact List.mem_cons_of_mem _ this
theorem ent1_len {ρ : Nat × Nat × Nat → Nat} : ∀ as : List AV, (lg_sl (as.map (conc ρ))).length = (ent1 as).length
  | [] => rfl
  | .inl x :: r => by
    have h := ent1_len (ρ := ρ) r
    rw [ent1, List.length_cons, ← h]
    · simp [lg_sl, conc, Value.category]
    · rintro y z; cases z
  | .inr (.inr x) :: r => by
    have h := ent1_len (ρ := ρ) r
    rw [ent1, List.length_cons, ← h]
    · simp [lg_sl, conc, Value.category]
    · rintro y z; cases z
  | .inr (.inl x) :: r => by
    have h := ent1_len (ρ := ρ) r
    rw [ent1, List.length_cons, List.length_cons, ← h]
    simp [lg_sl, conc, Value.category]
theorem spl_eq : ∀ (n : Nat) (st acc as r : List AV), spl n st acc = some (as, r) → ∃ l, l.length = n ∧ st = l ++ r ∧ as = l.reverse ++ acc
  | 0, st, acc, as, r, h => by
    rw [spl] at h
    cases h
    exact ⟨[], rfl, rfl, rfl⟩
  | n + 1, v :: st, acc, as, r, h => by
    rw [spl] at h
    obtain ⟨l, h1, h2, h3⟩ := spl_eq n st (v :: acc) as r h
    exact ⟨v :: l, by simp [h1], by simp [h2], by simp [h3]⟩
  | n + 1, [], acc, as, r, h => by
    rw [spl] at h
    cases h
