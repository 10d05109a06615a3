/-! THE CATCH, over the rounds' own library: one row of a handler table asked, a table gone down, the step into the handler -/
section CTR
variable {e : Env} {f : JFrame} {q : Addr} {s : State} {ce : Cell}
/-- one row that covers the place: her class is linked, and the answer is whether the thrown object's class goes into it -/
theorem ct_row {S : State} {x : ExceptionTableEntry} {t : List ExceptionTableEntry} {k : ClassId} (hW : s.WarmedH S.vm) (hx : covers x f.pc = true) (h0 : x.catchType ≠ 0) (hl : s.vm.ClassLinks e.platform f.method.cls x.catchType k) (hq : S.heap[q]? = some ce) (hv : ce.vm = .none) (hc : ∃ z, s.vm.classes[ce.cls]? = some z) :
    ∃ vm', s.WarmedH vm' ∧ ∀ (Q : Handler → Pre) (E : CtlPost) (d : Bool) (acts : List Action), wp (findHandler.go f q (x :: t)) Q E e d acts S ↔ if s.vm.assignable ce.cls k = true then Q (.found x.handlerPc) d acts (S.setVm vm') else wp (findHandler.go f q t) Q E e d acts (S.setVm vm') := by
  obtain ⟨_, _, _, _, hd, _, _, _, _, hkt, _, hopen⟩ := hl.here
  have hW2 := hW.noted hd hopen (State.rightAt_cls hl)
  refine ⟨_, hW2, fun Q E d acts => ?_⟩
  obtain ⟨z, hz⟩ := hc
  obtain ⟨z1, hz1, -⟩ := hW2.alike.2.2 _ _ hz
  obtain ⟨z2, hz2, -⟩ := hW2.alike.2.2 _ _ hkt
  obtain ⟨ha, ht⟩ := (resolveClass_links e.toSetting (hW.classLinks hl)).op (op := VmOp.resolveClass f.method.cls x.catchType) rfl
  simp only [covers] at hx
  rw [← hW2.alike.assignable ce.cls k]
  split
  · next h => simp [findHandler.go, hx, h0, ha, ht, hq, hv, hz1, hz2, h, VmOp.dirties, VmOp.acts]
  · next h => simp [findHandler.go, hx, h0, ha, ht, hq, hv, hz1, hz2, h, VmOp.dirties, VmOp.acts]
/-- the rows before pass, the row takes -/
theorem ct_down {x : ExceptionTableEntry} {suf : List ExceptionTableEntry} {k : ClassId} (hv : ce.vm = .none) (hc : ∃ z, s.vm.classes[ce.cls]? = some z) (hx : covers x f.pc = true) (h0 : x.catchType ≠ 0) (hl : s.vm.ClassLinks e.platform f.method.cls x.catchType k) (hk : s.vm.assignable ce.cls k = true) (pre : List ExceptionTableEntry)
    (hp : ∀ z ∈ pre, covers z f.pc = false ∨ (z.catchType ≠ 0 ∧ ∃ k', s.vm.ClassLinks e.platform f.method.cls z.catchType k' ∧ s.vm.assignable ce.cls k' = false)) :
    ∀ S : State, s.WarmedH S.vm → S.heap[q]? = some ce → ∃ vm', s.WarmedH vm' ∧ ∀ (Q : Handler → Pre) (E : CtlPost) (d : Bool) (acts : List Action), wp (findHandler.go f q (pre ++ x :: suf)) Q E e d acts S ↔ Q (.found x.handlerPc) d acts (S.setVm vm') := by
  induction pre with
  | nil =>
    intro S hW hq
    obtain ⟨vm', h1, h2⟩ := ct_row (t := suf) hW hx h0 hl hq hv hc
    exact ⟨vm', h1, fun Q E d acts => (h2 Q E d acts).trans (by rw [if_pos hk])⟩
  | cons y ys ih =>
    intro S hW hq
    have ih := ih (fun z hz => hp z (List.mem_cons_of_mem _ hz))
    cases hy : covers y f.pc with
    | false =>
      obtain ⟨vm', h1, h2⟩ := ih S hW hq
      exact ⟨vm', h1, fun Q E d acts => (W.findHandler_go_skip hy).trans (h2 Q E d acts)⟩
    | true =>
      rcases hp y List.mem_cons_self with h | ⟨hy0, k', hl', hk'⟩
      · exact absurd (hy.symm.trans h) (by decide)
      · obtain ⟨vm1, h1, h2⟩ := ct_row (t := ys ++ x :: suf) hW hy hy0 hl' hq hv hc
        obtain ⟨vm2, h3, h4⟩ := ih (S.setVm vm1) h1 hq
        exact ⟨vm2, h3, fun Q E d acts => ((h2 Q E d acts).trans (by rw [if_neg (by rw [hk']; decide)])).trans (h4 Q E d acts)⟩
/-- the step into the handler, the tables warmer behind it -/
theorem ct_step {tb : Tables} {T target : State} {c : Code} {below : List Frame} {n : Nat} {vm' : Vm} (h : At T f.method c below)
    (hf : ∀ (Q : Handler → Pre) (E : CtlPost) (d : Bool) (acts : List Action), wp (findHandler f q) Q E e d acts ((T.setTop f).pushFrame (.throwing q)) ↔ Q (.found n) d acts (((T.setTop f).pushFrame (.throwing q)).setVm vm'))
    (hr : Steps tb e below ((T.setVm vm').setTop { f with pc := n, stack := [.ref q] }) target) : Steps tb e below ((T.setTop f).pushFrame (.throwing q)) target := by
  obtain ⟨hgo, hin⟩ := h.throwing q
  refine Steps.head hgo hin ?_
  obtain ⟨g0, hg0⟩ := Option.isSome_iff_exists.mp h.top
  obtain ⟨r0, hr0⟩ := State.topJava?_eq_some.mp hg0
  have key : (stepThrowing e ((T.setTop f).pushFrame (.throwing q)) q (.java f :: T.frames.tail)).1 = (T.setVm vm').setTop { f with pc := n, stack := [.ref q] } := by
    simp only [stepThrowing, searchFrame, vmDo]
    generalize hw : Sem.go _ e false [] ((T.setTop f).pushFrame (.throwing q)) = res
    obtain ⟨as, rfl, -⟩ := Sem.eq_ok_of hw (a := Handler.found n) (s' := ((T.setTop f).pushFrame (.throwing q)).setVm vm') (acts' := []) (by simp [hf _ _ _ _])
    have hr1 : (T.setVm vm').frames = .java g0 :: r0 := hr0
    rw [State.setTop_of_frames _ hr1, hr0]
    show ((((T.setTop f).pushFrame (.throwing q)).setVm vm').setFrames _) = _
    rw [State.pushFrame, State.setTop_of_frames _ hr0]
    show (((T.setFrames _).setFrames _).setFrames _).setVm vm' = _
    rw [State.setFrames_setFrames, State.setFrames_setFrames]
    rfl
  rw [stepThread_throwing (frames_entered h.top _), key]
  exact hr
end CTR
section CTC
variable {p : Program} {l : Launch} {e : Env} {R : Room} {s : State} {m : MethodId} {args : Array Value} {below : List Frame} {meth : Method} {c : Code} {H : Heap} {locs : List Loc} {cells slots : Nat} {Q : State → Prop} {pc : Nat} {ls : Array Slot} {rest : List Value}
theorem vx_catch {own name : String} {E : String} {ce : Cell} {q : Addr} (hown : s.vm.findClass own = some m.cls) (pre : List ExceptionTableEntry) (x : ExceptionTableEntry) (suf : List ExceptionTableEntry) (hsplit : c.exceptionTable.toList = pre ++ x :: suf)
    (hpass : ∀ z ∈ pre, covers z pc = false ∨ (z.catchType ≠ 0 ∧ ∃ nm : String, (Cond.classLink own z.catchType nm).before args s = true ∧ va_Nc E nm s)) (hx : covers x pc = true) (h0 : x.catchType ≠ 0)
    (hlink : (Cond.classLink own x.catchType name).before args s = true) (hcast : (Cond.castable E name).before args s = true) (hcell : H[q]? = some ce) (hv : ce.vm = .none) (hcl : s.vm.findClass E = some ce.cls)
    (kk : W p l e R s m args below meth c H locs cells slots Q (F0 m x.handlerPc ls [.ref q])) : vx_W p l e R s m args below meth c H locs cells slots Q (F0 m pc ls rest) q := by
  intro T hT X
  have hpl : e.platform.magicAccessors = ({} : Platform).magicAccessors := by rw [X.admits.platform]
  obtain ⟨c3, c4, hc3, hc4, hasg⟩ := Cond.castable_spec hcast
  cases Option.some.inj (hc3.symm.trans hcl)
  obtain ⟨c5, hc5, hcl5⟩ := Cond.classLink_spec hown hlink e.platform hpl
  cases Option.some.inj (hc4.symm.trans hc5)
  obtain ⟨vm', hW', hf⟩ := ct_down (e := e) (f := F0 m pc ls rest) (q := q) (s := s) (suf := suf) hv (by obtain ⟨k9, h9, -⟩ := Vm.findClass_spec hcl; exact ⟨k9, h9⟩) hx h0 hcl5 hasg pre
    (fun z hz => by
      rcases hpass z hz with h | ⟨hz0, nm, hl1, hn1⟩
      · exact Or.inl h
      · obtain ⟨c6, hc6, hcl6⟩ := Cond.classLink_spec hown hl1 e.platform hpl
        obtain ⟨a8, b8, h1, h2, h3⟩ := hn1
        cases Option.some.inj (h1.symm.trans hcl)
        cases Option.some.inj (h2.symm.trans hc6)
        exact Or.inr ⟨hz0, _, hcl6, h3⟩) ((T.setTop (F0 m pc ls rest)).pushFrame (.throwing q)) X.warmed (by show T.heap[q]? = some ce; rw [hT]; exact hcell)
  obtain ⟨t, a1, b1⟩ := kk (T.setVm vm') hT (X.noted hW')
  refine ⟨t, ct_step (f := F0 m pc ls rest) (n := x.handlerPc) (vm' := vm') X.here (fun Q' E' d acts => ?_) a1, b1⟩
  rw [W.findHandler_eq (s := (T.setTop (F0 m pc ls rest)).pushFrame (.throwing q)) (f := F0 m pc ls rest) X.method' X.code, hsplit]
  exact hf Q' E' d acts
end CTC
