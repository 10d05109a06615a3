/-! THE CLAIM OUT OF ONE WALK OF THE LAW'S BODY. Your part is whole_start (and what it stands on); all else here is the same for every law, but numbers. -/
def R_law : String := "RibbonRunLaw"
def lw_P (b : Addr) (xs : List Int32) (args : Array Value) (s : State) : Prop := args = #[.ref b] ∧ s.IntsAt b xs ∧ xs.length ≤ 3072 ∧ (Jvm.Cond.and given_1 narrow_1).before args s = true
def lw_Q (_ : Array Value) (s : State) (o : Outcome) (t : State) : Prop := o = .returned (some (.int 1)) ∧ Framed s o t [] 1160 12566
def lw_Z (below : List Frame) (a : Array Value) (s : State) : State → Prop := fun t => ∃ o, t.status = .running ∧ Ended t below o ∧ lw_Q a s o t
/-- the law's own end, with 1 on the stack, nothing written that was there before, its room as the claim has it -/
theorem lw_ret {p : Program} {l : Launch} {e : Env} {s : State} {m : MethodId} {below : List Frame} {meth : Method} {c : Code} {b : Nat} (hx : p.tables.exec = Jvm.exec) (hb : c.code = code) (hr : meth.sig.returnType = ret) (hlocks : meth.locks = false) {pc : Nat} {H : Heap} {ls : Array Slot} (hdg : decode code pc = .ok (.ireturn, 1)) : W p l e room_1 s m #[Value.ref b] below meth c H [] 1160 12566 (lw_Z below #[Value.ref b] s) (F0 m pc ls [.int 1]) := by
  intro T hT X
  obtain ⟨fs, hret, hrun, hended, hW, hframe⟩ := X.leave (v := some (.int 1)) (hlocks := hlocks) (fun h => by rw [hr] at h; cases h)
  have hmeth' : T.vm.method? m = some meth := X.method'
  refine ⟨T.setFrames fs, ?_, .returned (some (.int 1)), hrun, hended, rfl, ⟨_, rfl⟩, hW, hframe⟩
  jvm_step X.here [X.here.top, hx, hb, hdg, hmeth', hr, ret, narrow_b1]
  (try refine ⟨rfl, ?_⟩); (try refine ⟨rfl, ?_⟩)
  first | (intro acts; rw [hret _ acts rfl rfl rfl]) | rw [hret _ _ rfl rfl rfl]
  exact Steps.refl _
/-- what holds at the law's entry: the machine, the code, the tables' words (any of lw_tbl by 'hts w (by decide +kernel)'), the script of L ints xs at the cell b, what the Statement gives of the start (any of its parts by flat_of_before) -/
def lw_At (p : Program) (s : State) (m : MethodId) (meth : Method) (c : Code) (b L : Nat) (xs : Nat → Int32) : Prop :=
  p.tables.exec = Jvm.exec ∧ c.code = code ∧ meth.sig.returnType = ret ∧ c.maxLocals = 7 ∧ s.vm.findClass R_law = some m.cls ∧ (∀ w ∈ lw_tbl, w.before #[Value.ref b] s = true) ∧ va_X b L xs s s.heap ∧ b < s.heap.size ∧ meth.locks = false ∧ (Jvm.Cond.and given_1 narrow_1).before #[Value.ref b] s = true
/-! THE LAW: its loop, row by row -/
def nz (x : Int32) : Int32 := if x = 0 then 0 else 1
theorem nz_01 (x : Int32) : nz x = 0 ∨ nz x = 1 := by
  unfold nz
  by_cases h : x = 0
  · exact Or.inl (if_pos h)
  · exact Or.inr (if_neg h)
def agq (pc j : Nat) : Bool := dq code pc (.aload_n 0) 1 && dq code (pc + 1) (.iload 4) 2 && dq code (pc + 3) (.iconst (j : Int)) 1 && dq code (pc + 4) .iadd 1 && dq code (pc + 5) .iaload 1 && decide (j < 6) && decide (Int32.ofInt (j : Int) = nI j)
def agL : Nat → List Nat → Bool
  | _, [] => true
  | pc, j :: js => agq pc j && agL (pc + 6) js
def bgq (pc : Nat) : Bool := dq code pc (.ifCond .eq 7) 3 && dq code (pc + 3) (.iconst 1) 1 && dq code (pc + 4) (.goto 4) 3 && dq code (pc + 7) (.iconst 0) 1
/-- what the loop stands on -/
def LX9 (p : Program) (s : State) (m : MethodId) (meth : Method) (c : Code) (b L : Nat) (xs : Nat → Int32) (D : va_G) (q : Nat → ClassId) : Prop :=
  p.tables.exec = Jvm.exec ∧ c.code = code ∧ c.maxLocals = 7 ∧ s.vm.findClass rL = some m.cls ∧ (∀ w ∈ tbG, w.before #[Value.ref b] s = true) ∧ NW s ∧ va_K D cl13 (tyq q) s ∧ XW (fun x => s.heap.size ≤ x) s s.heap ∧ va_X b L xs s s.heap ∧ b < s.heap.size ∧ L ≤ 3072
abbrev LVL (ρ : Nat × Nat × Nat → Nat) (b oa k : Nat) : List (Nat × Value) := [(0, .ref b), (1, .ref (ρ (11, 0, 0))), (2, .ref (ρ (12, 0, 0))), (3, .ref oa), (4, .int (nI (6 * k)))]
/-- the world between two calls -/
def INV (s : State) (D : va_G) (q : Nat → ClassId) (ρ : Nat × Nat × Nat → Nat) (oa : Nat) (H : Heap) (locs : List Loc) (Z : ST) (F : Nat → Int64) : Prop :=
  va_P D cl13 (w4 ρ q Z oa F) H ∧ va_D (fun x => s.heap.size ≤ x) (w4 ρ q Z oa F) ∧ va_S (fun x => s.heap.size ≤ x) s.heap H locs ∧ okR Z ∧ REL Z Z
section LAWR
variable {p : Program} {l : Launch} {e : Env} {s : State} {m : MethodId} {below : List Frame} {meth : Method} {c : Code} {D : va_G} {q : Nat → ClassId} {ρ : Nat × Nat × Nat → Nat} {b L oa k : Nat} {xs : Nat → Int32} {H : Heap} {locs : List Loc} {ls : Array Slot} {cl sl pc : Nat} {rest : List Value} {Q : State → Prop} {Z : ST} {F : Nat → Int64}
theorem arg_row (X : LX9 p s m meth c b L xs D q) (hl : lv_has ls 7 (LVL ρ b oa k)) (hS : va_S (fun x => s.heap.size ≤ x) s.heap H locs) {j : Nat} (h : agq pc j = true) (hj : 6 * k + j < L) (kk : W p l e room_1 s m #[Value.ref b] below meth c H locs cl sl Q (F0 m (pc + 6) ls (.int (xs (6 * k + j)) :: rest))) : W p l e room_1 s m #[Value.ref b] below meth c H locs cl sl Q (F0 m pc ls rest) := by
  obtain ⟨hx, hb, hml, hown, hts, hN, hK, hXW, hX, hbl, hL⟩ := X
  simp only [agq, Bool.and_eq_true, decide_eq_true_eq] at h
  obtain ⟨⟨⟨⟨⟨⟨h1, h2⟩, h3⟩, h4⟩, h5⟩, h6⟩, h7⟩ := h
  refine lv_aload_n hx hb (dq_ok h1) rfl (lv_at hl 0 rfl) ?_
  refine lv_iload hx hb (dq_ok h2) (lv_at hl 4 rfl) ?_
  refine lv_iconst (v := nI j) hx hb (dq_ok h3) h7 ?_
  refine lv_iadd hx hb (dq_ok h4) ?_
  rw [nI_add]
  have hc : (nI (6 * k + j)).toNatClampNeg = 6 * k + j := nI_clamp (by omega)
  refine va_sld (A := fun x => s.heap.size ≤ x) hx hb hX hbl (Nat.not_le.mpr hbl) hS (fun z => ?_) (dq_ok h5) (by rw [hc]; exact kk)
  rw [hc] at z
  rcases z with z | z
  · exact absurd z (nI_nlt (b := 0) (by omega) (by omega))
  · omega
theorem args_row (X : LX9 p s m meth c b L xs D q) (hl : lv_has ls 7 (LVL ρ b oa k)) (hS : va_S (fun x => s.heap.size ≤ x) s.heap H locs) : ∀ (js : List Nat) (pc : Nat) (rest : List Value), agL pc js = true → (∀ j ∈ js, 6 * k + j < L) → W p l e room_1 s m #[Value.ref b] below meth c H locs cl sl Q (F0 m (pc + 6 * js.length) ls ((js.map (fun j => Value.int (xs (6 * k + j)))).reverse ++ rest)) → W p l e room_1 s m #[Value.ref b] below meth c H locs cl sl Q (F0 m pc ls rest) := by
  intro js
  induction js with
  | nil =>
    intro pc rest _ _ kk
    rw [List.length_nil, Nat.mul_zero, Nat.add_zero, List.map_nil, List.reverse_nil, List.nil_append] at kk
    exact kk
  | cons j js ih =>
    intro pc rest h hj kk
    simp only [agL, Bool.and_eq_true] at h
    refine arg_row X hl hS h.1 (hj j List.mem_cons_self) (ih (pc + 6) _ h.2 (fun i hi => hj i (List.mem_cons_of_mem _ hi)) ?_)
    rw [List.map_cons, List.reverse_cons, List.append_assoc, List.length_cons, show pc + 6 * (js.length + 1) = pc + 6 + 6 * js.length by omega] at kk
    exact kk
theorem bool_row (X : LX9 p s m meth c b L xs D q) {x : Int32} (h : bgq pc = true) (kk : W p l e room_1 s m #[Value.ref b] below meth c H locs cl sl Q (F0 m (pc + 8) ls (.int (nz x) :: rest))) : W p l e room_1 s m #[Value.ref b] below meth c H locs cl sl Q (F0 m pc ls (.int x :: rest)) := by
  obtain ⟨hx, hb, -⟩ := X
  simp only [bgq, Bool.and_eq_true] at h
  obtain ⟨⟨⟨h1, h2⟩, h3⟩, h4⟩ := h
  refine lv_if_eq (off := 7) hx hb (dq_ok h1) (tgt := pc + 7) rfl (fun h0 => ?_) (fun h0 => ?_)
  · refine lv_iconst (v := 0) hx hb (dq_ok h4) rfl ?_
    rw [show nz x = 0 from if_pos h0] at kk
    exact kk
  · refine lv_iconst (v := 1) hx hb (dq_ok h2) rfl ?_
    refine lv_goto (off := 4) hx hb (dq_ok h3) (tgt := pc + 8) (by omega) ?_
    rw [show nz x = 1 from if_neg h0] at kk
    exact kk
/-- a method of one side is called -/
theorem one_call (X : LX9 p s m meth c b L xs D q) (hl : lv_has ls 7 (LVL ρ b oa k)) (hI : va_P D cl13 (w4 ρ q Z oa F) H ∧ va_D (fun x => s.heap.size ≤ x) (w4 ρ q Z oa F) ∧ va_S (fun x => s.heap.size ≤ x) s.heap H locs ∧ okR Z) {a i : Nat} {as : List AV} {v : AV} {Z' : ST} (ha : a < nM) (hns : mS a = false) (hmo : mO a = 11 ∨ mO a = 12) (hlk : Cond.methodLink rL i (mY a) ∈ tbG) (hden : den a (vR (mO a) 0 0 :: as) Z = some (some v, Z')) (hi : ints as) (hnp : as.length = mP a) (hf : mF a + 1 ≤ 13) (hq : 8 + (mL a + 11) + mQ a ≤ 542) (hcl : cl ≤ 1160) (hsl : sl ≤ 12566) (hcat : (rest.map fun v => v.category).sum ≤ 8) (hdg : decode code pc = .ok (.invokevirtual i, 3))
    (kk : ∀ (H1 : Heap) (locs1 : List Loc), va_P D cl13 (w4 ρ q Z' oa F) H1 → va_D (fun x => s.heap.size ≤ x) (w4 ρ q Z' oa F) → va_S (fun x => s.heap.size ≤ x) s.heap H1 locs1 → okR Z' → W p l e room_1 s m #[Value.ref b] below meth c H1 locs1 cl sl Q (F0 m (pc + 3) ls (conc ρ v :: rest))) : W p l e room_1 s m #[Value.ref b] below meth c H locs cl sl Q (F0 m pc ls ((as.map (conc ρ)).reverse ++ .ref (ρ (mO a, 0, 0)) :: rest)) := by
  obtain ⟨hx, hb, hml, hown, hts, hN, hK, hXW, hX, hbl, hL⟩ := X
  obtain ⟨hP, hD, hS, hR⟩ := hI
  have hPw : va_P D cl13 (wld ρ q Z) H := fun i z hi => hP i z (w4_l hi)
  have hDw : va_D (fun x => s.heap.size ≤ x) (wld ρ q Z) := ⟨fun i j a b ha hb hab => hD.1 i j a b (w4_l ha) (w4_l hb) hab, fun i z hi => hD.2 i z (w4_l hi)⟩
  have hno := w4_no hD hP
  have h133 := hP 133 _ (w4_at ρ q Z oa F)
  have hoa := hD.2 133 _ (w4_at ρ q Z oa F)
  have hok : ∀ w ∈ (vR (mO a) 0 0 :: as : List AV), okv w := fun w hw => by
    rcases List.mem_cons.mp hw with rfl | hw
    · rcases hmo with z | z
      · rw [z]; exact List.mem_of_getElem? (i := 96) rfl
      · rw [z]; exact List.mem_of_getElem? (i := 97) rfl
    · obtain ⟨y, rfl⟩ := hi w hw
      exact trivial
  refine callD (ρ := ρ) (H0 := s.heap) hx hb hml hown hts hN hK hDw (fun x hx => hx) ha hns hlk hden hok hR hnp hf hq hl.1 hcl hsl hcat hPw hS hdg (fun H1 locs1 hR1 hP1 hD1 hS1 hk1 hz1 => ?_)
  have hP2 : va_P D cl13 (w4 ρ q Z' oa F) H1 := hP1.app (fun i z hi => by
    have hi0 : i < 1 := (List.getElem?_eq_some_iff.mp hi).1
    have : i = 0 := by omega
    subst this
    have hz := Option.some.inj hi
    rw [← hz]
    exact h133.kept (hk1 oa h133.lt hno))
  have hD2 : va_D (fun x => s.heap.size ≤ x) (w4 ρ q Z' oa F) := va_D.app hD1 ⟨fun i j x y hx hy _ => by
      have h1 : i < 1 := (List.getElem?_eq_some_iff.mp hx).1
      have h2 : j < 1 := (List.getElem?_eq_some_iff.mp hy).1
      omega, fun i z hi => by
      have hi0 : i < 1 := (List.getElem?_eq_some_iff.mp hi).1
      have : i = 0 := by omega
      subst this
      rw [← Option.some.inj hi]
      exact hoa⟩ (fun i j x y hx hy hxy => by
      obtain ⟨t, h1, rfl⟩ := wld_of hx
      have hj0 : j < 1 := (List.getElem?_eq_some_iff.mp hy).1
      have : j = 0 := by omega
      subst this
      rw [← Option.some.inj hy] at hxy
      exact hno (Or.inl ⟨t, List.mem_of_getElem? h1, hxy⟩))
  exact kk H1 locs1 hP2 hD2 hS1 hR1
/-- what a case's code must be -/
def csq (p0 : Nat) (js : List Nat) (a b i1 i2 q1 q2 : Nat) : Bool := dq code p0 (.aload_n 1) 1 && agL (p0 + 1) js && dq code (p0 + 1 + 6 * js.length) (.invokevirtual i1) 3 && dq code (p0 + 1 + 6 * js.length + 3) (.aload_n 2) 1 && agL (p0 + 1 + 6 * js.length + 3 + 1) js && dq code (p0 + 1 + 6 * js.length + 3 + 1 + 6 * js.length) (.invokevirtual i2) 3 &&
  decide (a < nM) && decide (b < nM) && decide (mS a = false) && decide (mS b = false) && decide (mO a = 11) && decide (mO b = 12) && wdq q1 (.methodLink rL i1 (mY a)) && wdq q2 (.methodLink rL i2 (mY b)) && decide (mP a = js.length) && decide (mP b = js.length) && decide (mF a + 1 ≤ 13) && decide (8 + (mL a + 11) + mQ a ≤ 542) && decide (mF b + 1 ≤ 13) && decide (8 + (mL b + 11) + mQ b ≤ 542)
theorem ints_j (js : List Nat) : ints (js.map (fun j => vI (xs (6 * k + j)))) := fun w hw => by
  obtain ⟨j, _, rfl⟩ := List.mem_map.mp hw
  exact ⟨_, rfl⟩
theorem conc_j (js : List Nat) : (js.map (fun j => vI (xs (6 * k + j)))).map (conc ρ) = js.map (fun j => Value.int (xs (6 * k + j))) := by
  rw [List.map_map]
  rfl
/-- both sides are called, with the same ints -/
theorem both_row (X : LX9 p s m meth c b L xs D q) (hl : lv_has ls 7 (LVL ρ b oa k)) (hI : INV s D q ρ oa H locs Z F) {p0 a b' i1 i2 q1 q2 : Nat} {js : List Nat} (hck : csq p0 js a b' i1 i2 q1 q2 = true) (hjs : ∀ j ∈ js, 6 * k + j < L) (hcl : cl ≤ 1160) (hsl : sl ≤ 12566) {v : AV} {Z1 Z2 : ST} (hcv : (conc ρ v).category ≤ 8) (hd1 : den a (vR 11 0 0 :: js.map (fun j => vI (xs (6 * k + j)))) Z = some (some v, Z1)) (hd2 : den b' (vR 12 0 0 :: js.map (fun j => vI (xs (6 * k + j)))) Z1 = some (some v, Z2)) (hrel : REL Z2 Z2)
    (kk : ∀ (H1 : Heap) (locs1 : List Loc), INV s D q ρ oa H1 locs1 Z2 F → W p l e room_1 s m #[Value.ref b] below meth c H1 locs1 cl sl Q (F0 m (p0 + 1 + 6 * js.length + 3 + 1 + 6 * js.length + 3) ls [conc ρ v, conc ρ v])) : W p l e room_1 s m #[Value.ref b] below meth c H locs cl sl Q (F0 m p0 ls []) := by
  simp only [csq, Bool.and_eq_true, decide_eq_true_eq] at hck
  obtain ⟨⟨⟨⟨⟨⟨⟨⟨⟨⟨⟨⟨⟨⟨⟨⟨⟨⟨⟨h1, h2⟩, h3⟩, h4⟩, h5⟩, h6⟩, h7⟩, h8⟩, h9⟩, h10⟩, h11⟩, h12⟩, h13⟩, h14⟩, h15⟩, h16⟩, h17⟩, h18⟩, h19⟩, h20⟩ := hck
  obtain ⟨hP, hD, hS, hR, hZ⟩ := hI
  refine lv_aload_n X.1 X.2.1 (dq_ok h1) rfl (lv_at hl 1 rfl) ?_
  refine args_row X hl hS js _ _ h2 hjs ?_
  have c1 := one_call (e := e) (l := l) (below := below) (cl := cl) (sl := sl) (Q := Q) (rest := []) X hl ⟨hP, hD, hS, hR⟩ h7 h9 (Or.inl h11) (wdq_in h13) (by rw [h11]; exact hd1) (ints_j js) (by rw [List.length_map]; exact h15.symm) h17 h18 hcl hsl (by decide) (dq_ok h3) (fun H1 locs1 hP1 hD1 hS1 hR1 => ?_)
  · rw [conc_j, h11] at c1
    exact c1
  refine lv_aload_n X.1 X.2.1 (dq_ok h4) rfl (lv_at hl 2 rfl) ?_
  refine args_row X hl hS1 js _ _ h5 hjs ?_
  have c2 := one_call (e := e) (l := l) (below := below) (cl := cl) (sl := sl) (Q := Q) (rest := [conc ρ v]) X hl ⟨hP1, hD1, hS1, hR1⟩ h8 h10 (Or.inr h12) (wdq_in h14) (by rw [h12]; exact hd2) (ints_j js) (by rw [List.length_map]; exact h16.symm) h19 h20 hcl hsl (by rw [List.map_cons, List.map_nil, List.sum_cons, List.sum_nil]; omega) (dq_ok h6) (fun H2 locs2 hP2 hD2 hS2 hR2 => kk H2 locs2 ⟨hP2, hD2, hS2, hR2, hrel⟩)
  rw [conc_j, h12] at c2
  exact c2
theorem case_row (X : LX9 p s m meth c b L xs D q) (hl : lv_has ls 7 (LVL ρ b oa k)) (hI : INV s D q ρ oa H locs Z F) {p0 a b' i1 i2 q1 q2 : Nat} {js : List Nat} (hck : csq p0 js a b' i1 i2 q1 q2 = true) (hC : CALL a b' (js.map (fun j => vI (xs (6 * k + j))))) (hjs : ∀ j ∈ js, 6 * k + j < L) (hcl : cl ≤ 1160) (hsl : sl ≤ 12566) {off : Int} (hoff : ((p0 + 1 + 6 * js.length + 3 + 1 + 6 * js.length + 3 : Nat) : Int) + off = (1703 : Nat)) (hdg : decode code (p0 + 1 + 6 * js.length + 3 + 1 + 6 * js.length + 3) = .ok (.if_icmp .eq off, 3))
    (kk : ∀ (H1 : Heap) (locs1 : List Loc) (Z1 : ST), INV s D q ρ oa H1 locs1 Z1 F → W p l e room_1 s m #[Value.ref b] below meth c H1 locs1 cl sl Q (F0 m 1703 ls [])) : W p l e room_1 s m #[Value.ref b] below meth c H locs cl sl Q (F0 m p0 ls []) := by
  obtain ⟨v, Z1, Z2, d1, d2, h2⟩ := both hC (ints_j js) hI.2.2.2.2
  exact both_row (v := vI v) X hl hI hck hjs hcl hsl (show (1 : Nat) ≤ 8 by decide) d1 d2 h2 (fun H1 locs1 hI1 => lv_icmp_eq X.1 X.2.1 hdg hoff (fun _ => kk H1 locs1 Z2 hI1) (fun z => absurd rfl z))
theorem case_rowL (X : LX9 p s m meth c b L xs D q) (hl : lv_has ls 7 (LVL ρ b oa k)) (hI : INV s D q ρ oa H locs Z F) {p0 a b' i1 i2 q1 q2 : Nat} {js : List Nat} (hck : csq p0 js a b' i1 i2 q1 q2 = true) (hC : CALLL a b' (js.map (fun j => vI (xs (6 * k + j))))) (hjs : ∀ j ∈ js, 6 * k + j < L) (hcl : cl ≤ 1160) (hsl : sl ≤ 12566) (hdl : decode code (p0 + 1 + 6 * js.length + 3 + 1 + 6 * js.length + 3) = .ok (.lcmp, 1)) {off : Int} (hoff : ((p0 + 1 + 6 * js.length + 3 + 1 + 6 * js.length + 3 + 1 : Nat) : Int) + off = (1703 : Nat)) (hdg : decode code (p0 + 1 + 6 * js.length + 3 + 1 + 6 * js.length + 3 + 1) = .ok (.ifCond .eq off, 3))
    (kk : ∀ (H1 : Heap) (locs1 : List Loc) (Z1 : ST), INV s D q ρ oa H1 locs1 Z1 F → W p l e room_1 s m #[Value.ref b] below meth c H1 locs1 cl sl Q (F0 m 1703 ls [])) : W p l e room_1 s m #[Value.ref b] below meth c H locs cl sl Q (F0 m p0 ls []) := by
  obtain ⟨v, Z1, Z2, d1, d2, h2⟩ := bothL hC (ints_j js) hI.2.2.2.2
  have hv : lg_cmp v v = 0 := by
    unfold lg_cmp
    simp
  exact both_row (v := vL v) X hl hI hck hjs hcl hsl (show (2 : Nat) ≤ 8 by decide) d1 d2 h2 (fun H1 locs1 hI1 => W.lcmp X.1 X.2.1 hdl (lv_if_eq X.1 X.2.1 hdg hoff (fun _ => kk H1 locs1 Z2 hI1) (fun z => absurd hv z)))
end LAWR
