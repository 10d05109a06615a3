/-! THE LAW'S OWN grower: it catches what grower throws -/
abbrev rL : String := "RibbonRunLaw"
def yW : MethodName := ⟨rL, "grower", "(LRibbonRun;II[J)I"⟩
abbrev cW : ByteArray := method_3_code
abbrev hhW : List (Nat × Nat × Nat × Nat) := [(0, 10, 13, 13), (0, 10, 17, 15)]
theorem gW_in : Cond.codeWith yW cW 5 (some .int) hhW ∈ tbG := tbG_in (List.mem_append_right _ (List.mem_append_right _ (List.mem_append_right _ (List.mem_append_right _ (List.mem_append_right _ (List.mem_append_right _ (List.mem_append_left _ (List.mem_of_getElem? (i := 25) rfl)))))))) rfl
def wW : List Cond := Cond.codeWith yW cW 5 (some .int) hhW :: tbG
theorem met_ofWH {l : Launch} {y : MethodName} {ws ws' : List Cond} {rm : Room} {Pc : Array Value → State → Prop} {Qc : Array Value → State → Outcome → State → Prop} {mc ms : Nat} {free : Addr → Prop} {cc : ByteArray} {maxL : Nat} {ret : Option FieldType} {hh : List (Nat × Nat × Nat × Nat)}
    (hy : plainName y.cls = true) (hw : ws = Cond.codeWith y cc maxL ret hh :: ws')
    (body : ∀ p e s m args below meth c s₁, BodyLoose p l y (headSpec ws rm) cc maxL ret e s m args below meth c s₁ → c.maxLocals = maxL → Pc args s →
      W p l e (headSpec ws rm).room s m args below meth c s.heap [] 0 0 (MQ below Qc args s mc ms free) (entryFrame m args maxL)) : Met l y ws rm Pc Qc mc ms free := by
  refine MetFree.of_bodyS (code := cc) (maxLocals := maxL) (ret := ret) hy ?_ ?_
  · intro args s m h hn
    obtain ⟨m9, meth, c, hn9, h1, h2, h3, h4, -, h5, h6, -⟩ := Cond.codeWith_spec (atoms_spec (ws := ws) h _ (by rw [hw]; exact List.mem_cons_self))
    cases hn.symm.trans hn9
    exact ⟨meth, c, h1, h2, h3, h4, h5, h6⟩
  · intro p e s m args below meth c s₁ B hml hP _
    have hh0 : s₁.heap = s.heap := by rw [B.state]; rfl
    obtain ⟨t, a1, o, b1, b2, b3⟩ := body p e s m args below meth c s₁ B hml hP s₁ hh0 (Stand.of_body B)
    exact ⟨t, o, a1, b1, b2, ⟨b3.1, b3.2⟩⟩
def rmW : Room := { frames := 7, cells := 1, slots := 6, locals := 103 }
abbrev oaE (q : Nat → ClassId) (F : Nat → Int64) : va_E := .inl (q 1, 1, .inr (.inl F))
abbrev w4 (ρ : Nat × Nat × Nat → Nat) (q : Nat → ClassId) (Z : ST) (oa : Nat) (F : Nat → Int64) : va_W := wld ρ q Z ++ [(oa, oaE q F)]
def Ax (ρ : Nat × Nat × Nat → Nat) (oa sz : Nat) : Nat → Prop := fun z => Aw ρ sz z ∨ z = oa
def PcW (D : va_G) (q : Nat → ClassId) (ρ : Nat × Nat × Nat → Nat) (Z : ST) (oa : Nat) (F : Nat → Int64) (x y : Int32) (sz : Nat) : Array Value → State → Prop := va_Pc [.ref (ρ (11, 0, 0)), .int x, .int y, .ref oa] (fun U => U.heap.size = sz ∧ va_P D cl13 (w4 ρ q Z oa F) U.heap ∧ va_K D cl13 (tyq q) U ∧ NW U ∧ XW (Ax ρ oa sz) U U.heap ∧ va_D (fun _ => True) (w4 ρ q Z oa F))
def QcW (D : va_G) (q : Nat → ClassId) (ρ : Nat × Nat × Nat → Nat) (Z : ST) (oa : Nat) (k : Nat) (v : Int32) (sz : Nat) : Array Value → State → Outcome → State → Prop := va_Qi (fun r (F' : Nat → Int64) => r = nI k ∧ (k = 0 → F' 0 = Int32.toInt64 v)) (fun F' t => va_P D cl13 (w4 ρ q Z oa F') t.heap) (Ax ρ oa sz)
theorem preW_blind (D : va_G) (q : Nat → ClassId) (ρ : Nat × Nat × Nat → Nat) (Z : ST) (oa : Nat) (F : Nat → Int64) (x y : Int32) (sz : Nat) : FrameBlind (PcW D q ρ Z oa F x y sz) := fun a U g mk z => by
  obtain ⟨q0, q1, qP, qK, qN, qX, qD⟩ := z
  exact ⟨q0, q1, qP, va_K.moved (u := U) (U := U.calling g mk a) (Vm.Alike.refl U.vm) qK, NW.same rfl qN, XW.same (s := U) (U := U.calling g mk a) (H := U.heap) rfl qX, qD⟩
theorem wld_len (ρ : Nat × Nat × Nat → Nat) (q : Nat → ClassId) (Z : ST) : (wld ρ q Z).length = 133 := by
  unfold wld
  rw [List.length_map]
  rfl
theorem w4_at (ρ : Nat × Nat × Nat → Nat) (q : Nat → ClassId) (Z : ST) (oa : Nat) (F : Nat → Int64) : (w4 ρ q Z oa F)[133]? = some (oa, oaE q F) := by
  rw [List.getElem?_append_right (by rw [wld_len]; exact Nat.le_refl _), wld_len]
  rfl
theorem w4_l {ρ : Nat × Nat × Nat → Nat} {q : Nat → ClassId} {Z : ST} {oa : Nat} {F : Nat → Int64} {k : Nat} {z : Nat × va_E} (h : (wld ρ q Z)[k]? = some z) : (w4 ρ q Z oa F)[k]? = some z := by
  rw [List.getElem?_append_left (List.getElem?_eq_some_iff.mp h).1]
  exact h
theorem w4_set (ρ : Nat × Nat × Nat → Nat) (q : Nat → ClassId) (Z : ST) (oa : Nat) (F F' : Nat → Int64) : (w4 ρ q Z oa F).set 133 (oa, oaE q F') = w4 ρ q Z oa F' := by
  rw [List.set_append_right _ _ (by rw [wld_len]; exact Nat.le_refl _), wld_len]
  rfl
theorem w4_no {A : Nat → Prop} {ρ : Nat × Nat × Nat → Nat} {q : Nat → ClassId} {Z : ST} {oa : Nat} {F : Nat → Int64} {D : va_G} {H : Heap} (hD : va_D A (w4 ρ q Z oa F)) (hP : va_P D cl13 (w4 ρ q Z oa F) H) : ¬ Aw ρ H.size oa := fun h => by
  rcases h with ⟨t, ht, e⟩ | h
  · obtain ⟨n, hn1, hn2⟩ := wld_get (ρ := ρ) (q := q) (σ := Z) ht
    have := hD.1 n 133 _ _ (w4_l hn2) (w4_at ρ q Z oa F) e
    have hl := (List.getElem?_eq_some_iff.mp hn2).1
    rw [wld_len] at hl
    omega
  · have := (hP 133 _ (w4_at ρ q Z oa F)).lt
    exact absurd this (Nat.not_lt.mpr h)
theorem w4_Ax {A : Nat → Prop} {ρ : Nat × Nat × Nat → Nat} {q : Nat → ClassId} {Z : ST} {oa sz : Nat} {F : Nat → Int64} (hD : va_D A (w4 ρ q Z oa F)) : va_D (Ax ρ oa sz) (w4 ρ q Z oa F) := ⟨hD.1, fun k z hk => by
  by_cases hl : k < 133
  · rw [List.getElem?_append_left (by rw [wld_len]; exact hl)] at hk
    obtain ⟨t, h1, rfl⟩ := wld_of hk
    exact Or.inl (Or.inl ⟨t, List.mem_of_getElem? h1, rfl⟩)
  · have h2 := (List.getElem?_eq_some_iff.mp hk).1
    rw [List.length_append, wld_len] at h2
    have : k = 133 := by simp at h2; omega
    subst this
    rw [w4_at] at hk
    have := Option.some.inj hk
    rw [← this]
    exact Or.inr rfl⟩
