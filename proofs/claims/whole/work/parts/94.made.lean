/-! CONSTRUCTORS: a contract out of a walk -/
theorem ent_I {c h b : Nat} (hL : iArg c + 1 ≤ iL c) : ∃ ls : Array Slot, (lg_sl (avI c h b) ++ List.replicate (iL c - (lg_sl (avI c h b)).length) Slot.unset).toArray = ls ∧ ls.size = iL c ∧ lv_wf ls ∧ ls[0]? = some (.val (.ref h)) ∧ (decide (iArg c = 1) = true → ls[1]? = some (.val (.ref b))) := by
  refine ⟨_, rfl, ?_⟩
  by_cases h1 : iArg c = 1
  · have e : avI c h b = [.ref h, .ref b] := if_pos h1
    rw [e]
    have hl := lv_entry [Value.ref h, Value.ref b] (n := iL c) (by show 2 ≤ _; omega)
    exact ⟨hl.1, hl.2.1, lv_at hl 0 rfl, fun _ => lv_at hl 1 rfl⟩
  · have e : avI c h b = [.ref h] := if_neg h1
    rw [e]
    have hl := lv_entry [Value.ref h] (n := iL c) (by show 1 ≤ _; omega)
    exact ⟨hl.1, hl.2.1, lv_at hl 0 rfl, fun z => absurd (of_decide_eq_true z) h1⟩
def endI (q : Nat → ClassId) (c h b : Nat) : CNT := fun ws st cl sl => st = [] ∧ cl = ccT c ∧ sl = csT c ∧ ∃ u, ws = cwT q c h b u
theorem w1D (A : Nat → Prop) (c h : Nat) (hA : A h) : va_D A (w1I c h) := ⟨fun i j x y hx hy _ => by
    have h1 : i < 1 := (List.getElem?_eq_some_iff.mp hx).1
    have h2 : j < 1 := (List.getElem?_eq_some_iff.mp hy).1
    omega, fun i x hx => by
    have h1 : i < 1 := (List.getElem?_eq_some_iff.mp hx).1
    have : i = 0 := by omega
    subst this
    have := Option.some.inj hx
    rw [← this]
    exact hA⟩
theorem mt_of (l : Launch) (D : va_G) (q : Nat → ClassId) {c : Nat} (hc : c < 13) {is : List INS} {cs : List Nat} (hM : ∀ k ∈ cs, MtI l D q k) (hck : ckL (iC c) c (decide (iArg c = 1)) (iF c) (iQ c) iF iQ cs 0 is = true) (hret : decode (iC c) (pcE 0 is) = .ok (.return_, 1)) (hL : iArg c + 1 ≤ iL c)
    (hw : ∀ h b, cwp q (ccT c) (csT c) b (cwT q) ccT csT (endI q c h b) is (w1I c h) [] 0 0) : MtI l D q c := by
  intro h b sz
  obtain ⟨p1, p2, p3, p4, p5, p6⟩ := ipl hc
  refine Met.ofW (cc := iC c) (maxL := iL c) (ret := none) p5 rfl ?_
  intro p e s m args below meth co s₁ B hml hv
  obtain ⟨rfl, hsz, hP, hK, hN, hI, hT, hD0⟩ := hv
  have hx := B.exec
  have hb := B.bytes
  have hr := B.returns
  have hts0 := atoms_spec (ws := wsI c) B.pre
  have hts : ∀ w ∈ tbG, w.before (avI c h b).toArray s = true := fun w hw => hts0 w (List.mem_cons_of_mem _ hw)
  have hown : s.vm.findClass (cnm c) = some m.cls := by rw [← p1]; exact findClass_of_methodNamed B.named
  have hlocks := B.notSynchronized
  have hin : meth.name = "<init>" := Eq.trans (name_of_methodNamed B.named B.method).1 p6
  subst hsz
  rw [lg_entry_eq]
  obtain ⟨ls, e0, l1, l2, l3, l4⟩ := ent_I (c := c) (h := h) (b := b) hL
  rw [e0]
  have X : CI p s m (avI c h b).toArray meth co D q (va_A (w1I c h) s.heap.size) c (iC c) (iL c) := ⟨hx, hb, hml, hown, hts, hN, hI, hT, hK, fun x hx => Or.inr hx, hin⟩
  have fin : GC p l e (headSpec (wsI c) (rmI c)).room s m (avI c h b).toArray below meth co D (va_A (w1I c h) s.heap.size) ls h (MQ below (QcI D q c h b s.heap.size) (avI c h b).toArray s (ccT c) (csT c) (va_A (w1I c h) s.heap.size)) (endI q c h b) (pcE 0 is) := by
    intro ws st cl sl H locs hE hl0 hw0 hst hP hD hS
    obtain ⟨rfl, rfl, rfl, u, rfl⟩ := hE
    exact W.vret hx hb hr (fun t ht hW => ⟨⟨u, rfl, trivial, by rw [ht]; exact hP, hD⟩, hS.F ht⟩) hS.2.2 hret
  have key := snd_cwp (R := (headSpec (wsI c) (rmI c)).room) (fr := iF c) (lo := iQ c) (mc := ccT c) (ms := csT c) (cs := cs) (nA := decide (iArg c = 1)) (ar1 := b) X (Nat.le_refl _) (Nat.le_refl _) (Nat.le_refl _) (Nat.le_refl _) hM l1 l3 l4 is 0 fin hck
  exact key (w1I c h) [] 0 0 s.heap [] (hw h b) (by show 0 < 1; decide) rfl (fun x hx => absurd hx List.not_mem_nil) hP (w1D _ c h (Or.inl ⟨0, _, rfl⟩)) va_S.rf
