/-! THE LAW'S OWN grower: it catches what grower throws -/
abbrev rL : String := "RibbonRunLaw"
def yW : MethodName := ⟨rL, "grower", "(LRibbonRun;II[J)I"⟩
abbrev cW : ByteArray := method_3_code
abbrev hhW : List (Nat × Nat × Nat × Nat) := [(0, 10, 13, 13), (0, 10, 17, 15)]
theorem gW_in : Cond.codeWith yW cW 5 (some .int) hhW ∈ tbG := tbG_in (List.mem_append_right _ (List.mem_append_right _ (List.mem_append_right _ (List.mem_append_right _ (List.mem_append_right _ (List.mem_append_right _ (List.mem_append_left _ (List.mem_of_getElem? (i := 25) rfl)))))))) rfl
def wW : List Cond := Cond.codeWith yW cW 5 (some .int) hhW :: tbG
theorem met_ofWH {l : Launch} {y : MethodName} {ws ws' : List Cond} {rm : Room} {Pc : Array Value → State → Prop} {Qc : Array Value → State → Outcome → State → Prop} {mc ms : Nat} {free : Addr → Prop} {cc : ByteArray} {maxL : Nat} {ret : Option FieldType} {hh : List (Nat × Nat × Nat × Nat)}
    (hy : plainName y.cls = true) (hw : ws = Cond.codeWith y cc maxL ret hh :: ws')
    (body : ∀ p e s m args below meth c s₁, BodyLoose p l y (headSpec ws rm) cc maxL ret e s m args below meth c s₁ → c.maxLocals = maxL → Pc args s →
      W p l e (headSpec ws rm).room s m args below meth c s.heap [] 0 0 (MQ below Qc args s mc ms free) (entryFrame m args maxL)) : Met l y ws rm Pc Qc mc ms free := by
  refine MetFree.of_bodyS (code := cc) (maxLocals := maxL) (ret := ret) hy ?_ ?_
  · intro args s m h hn
    obtain ⟨m9, meth, c, hn9, h1, h2, h3, h4, -, h5, h6, -⟩ := Cond.codeWith_spec (atoms_spec (ws := ws) h _ (by rw [hw]; exact List.mem_cons_self))
    cases hn.symm.trans hn9
    exact ⟨meth, c, h1, h2, h3, h4, h5, h6⟩
  · intro p e s m args below meth c s₁ B hml hP _
    have hh0 : s₁.heap = s.heap := by rw [B.state]; rfl
    obtain ⟨t, a1, o, b1, b2, b3⟩ := body p e s m args below meth c s₁ B hml hP s₁ hh0 (Stand.of_body B)
    exact ⟨t, o, a1, b1, b2, ⟨b3.1, b3.2⟩⟩
def rmW : Room := { frames := 7, cells := 1, slots := 6, locals := 103 }
abbrev oaE (q : Nat → ClassId) (F : Nat → Int64) : va_E := .inl (q 1, 1, .inr (.inl F))
abbrev w4 (ρ : Nat × Nat × Nat → Nat) (q : Nat → ClassId) (Z : ST) (oa : Nat) (F : Nat → Int64) : va_W := wld ρ q Z ++ [(oa, oaE q F)]
def Ax (ρ : Nat × Nat × Nat → Nat) (oa sz : Nat) : Nat → Prop := fun z => Aw ρ sz z ∨ z = oa
def PcW (D : va_G) (q : Nat → ClassId) (ρ : Nat × Nat × Nat → Nat) (Z : ST) (oa : Nat) (F : Nat → Int64) (x y : Int32) (sz : Nat) : Array Value → State → Prop := va_Pc [.ref (ρ (11, 0, 0)), .int x, .int y, .ref oa] (fun U => U.heap.size = sz ∧ va_P D cl13 (w4 ρ q Z oa F) U.heap ∧ va_K D cl13 (tyq q) U ∧ NW U ∧ XW (Ax ρ oa sz) U U.heap ∧ va_D (fun _ => True) (w4 ρ q Z oa F))
def QcW (D : va_G) (q : Nat → ClassId) (ρ : Nat × Nat × Nat → Nat) (Z : ST) (oa : Nat) (k : Nat) (v : Int32) (sz : Nat) : Array Value → State → Outcome → State → Prop := va_Qi (fun r (F' : Nat → Int64) => r = nI k ∧ (k = 0 → F' 0 = Int32.toInt64 v)) (fun F' t => va_P D cl13 (w4 ρ q Z oa F') t.heap) (Ax ρ oa sz)
theorem preW_blind (D : va_G) (q : Nat → ClassId) (ρ : Nat × Nat × Nat → Nat) (Z : ST) (oa : Nat) (F : Nat → Int64) (x y : Int32) (sz : Nat) : FrameBlind (PcW D q ρ Z oa F x y sz) := fun a U g mk z => by
  obtain ⟨q0, q1, qP, qK, qN, qX, qD⟩ := z
  exact ⟨q0, q1, qP, va_K.moved (u := U) (U := U.calling g mk a) (Vm.Alike.refl U.vm) qK, NW.same rfl qN, XW.same (s := U) (U := U.calling g mk a) (H := U.heap) rfl qX, qD⟩
theorem wld_len (ρ : Nat × Nat × Nat → Nat) (q : Nat → ClassId) (Z : ST) : (wld ρ q Z).length = 133 := by
  unfold wld
  rw [List.length_map]
  rfl
theorem w4_at (ρ : Nat × Nat × Nat → Nat) (q : Nat → ClassId) (Z : ST) (oa : Nat) (F : Nat → Int64) : (w4 ρ q Z oa F)[133]? = some (oa, oaE q F) := by
  rw [List.getElem?_append_right (by rw [wld_len]; exact Nat.le_refl _), wld_len]
  rfl
theorem w4_l {ρ : Nat × Nat × Nat → Nat} {q : Nat → ClassId} {Z : ST} {oa : Nat} {F : Nat → Int64} {k : Nat} {z : Nat × va_E} (h : (wld ρ q Z)[k]? = some z) : (w4 ρ q Z oa F)[k]? = some z := by
  rw [List.getElem?_append_left (List.getElem?_eq_some_iff.mp h).1]
  exact h
theorem w4_set (ρ : Nat × Nat × Nat → Nat) (q : Nat → ClassId) (Z : ST) (oa : Nat) (F F' : Nat → Int64) : (w4 ρ q Z oa F).set 133 (oa, oaE q F') = w4 ρ q Z oa F' := by
  rw [List.set_append_right _ _ (by rw [wld_len]; exact Nat.le_refl _), wld_len]
  rfl
theorem w4_no {A : Nat → Prop} {ρ : Nat × Nat × Nat → Nat} {q : Nat → ClassId} {Z : ST} {oa : Nat} {F : Nat → Int64} {D : va_G} {H : Heap} (hD : va_D A (w4 ρ q Z oa F)) (hP : va_P D cl13 (w4 ρ q Z oa F) H) : ¬ Aw ρ H.size oa := fun h => by
  rcases h with ⟨t, ht, e⟩ | h
  · obtain ⟨n, hn1, hn2⟩ := wld_get (ρ := ρ) (q := q) (σ := Z) ht
    have := hD.1 n 133 _ _ (w4_l hn2) (w4_at ρ q Z oa F) e
    have hl := (List.getElem?_eq_some_iff.mp hn2).1
    rw [wld_len] at hl
    omega
  · have := (hP 133 _ (w4_at ρ q Z oa F)).lt
    exact absurd this (Nat.not_lt.mpr h)
theorem w4_Ax {A : Nat → Prop} {ρ : Nat × Nat × Nat → Nat} {q : Nat → ClassId} {Z : ST} {oa sz : Nat} {F : Nat → Int64} (hD : va_D A (w4 ρ q Z oa F)) : va_D (Ax ρ oa sz) (w4 ρ q Z oa F) := ⟨hD.1, fun k z hk => by
  by_cases hl : k < 133
  · rw [List.getElem?_append_left (by rw [wld_len]; exact hl)] at hk
    obtain ⟨t, h1, rfl⟩ := wld_of hk
    exact Or.inl (Or.inl ⟨t, List.mem_of_getElem? h1, rfl⟩)
  · have h2 := (List.getElem?_eq_some_iff.mp hk).1
    rw [List.length_append, wld_len] at h2
    have : k = 133 := by simp at h2; omega
    subst this
    rw [w4_at] at hk
    have := Option.some.inj hk
    rw [← this]
    exact Or.inr rfl⟩
theorem mt_W {l : Launch} (hlt : l.stackTraces = false) (D : va_G) (q : Nat → ClassId) (ρ : Nat × Nat × Nat → Nat) {Z : ST} {x y v : Int32} {k : Nat} (hR : okR Z) (hg : GRO Z x y k v) (oa : Nat) (F : Nat → Int64) (sz : Nat) : Met l yW wW rmW (PcW D q ρ Z oa F x y sz) (QcW D q ρ Z oa k v sz) 1 6 (Ax ρ oa sz) := by
  refine met_ofWH (cc := cW) (maxL := 5) (ret := some .int) (hh := hhW) (by decide) rfl ?_
  intro p e s m args below meth c s₁ B hml hv
  obtain ⟨rfl, hsz, hP, hK, hN, hX, hD0⟩ := hv
  have hx := B.exec
  have hb := B.bytes
  have hr := B.returns
  have hts0 := atoms_spec (ws := wW) B.pre
  have hts : ∀ w ∈ tbG, w.before (List.toArray [Value.ref (ρ (11, 0, 0)), .int x, .int y, .ref oa]) s = true := fun w hw => hts0 w (List.mem_cons_of_mem _ hw)
  have htab : c.exceptionTable.toList = [⟨0, 10, 13, 13⟩, ⟨0, 10, 17, 15⟩] := vx_table (x := yW) B (hts0 _ List.mem_cons_self)
  have hown : s.vm.findClass rL = some m.cls := findClass_of_methodNamed B.named
  have hlocks := B.notSynchronized
  subst hsz
  have hD : va_D (Ax ρ oa s.heap.size) (w4 ρ q Z oa F) := w4_Ax hD0
  have hS : va_S (Ax ρ oa s.heap.size) s.heap s.heap [] := va_S.rf
  have hPw : va_P D cl13 (wld ρ q Z) s.heap := fun i z hi => hP i z (w4_l hi)
  have hDw : va_D (fun _ => True) (wld ρ q Z) := ⟨fun i j a b ha hb hab => hD0.1 i j a b (w4_l ha) (w4_l hb) hab, fun _ _ _ => trivial⟩
  have hno := w4_no hD0 hP
  have hl := lv_entry [Value.ref (ρ (11, 0, 0)), .int x, .int y, .ref oa] (n := 5) (Nat.le_of_ble_eq_true rfl)
  rw [lg_entry_eq]
  generalize (lg_sl [Value.ref (ρ (11, 0, 0)), .int x, .int y, .ref oa] ++ List.replicate (5 - (lg_sl [Value.ref (ρ (11, 0, 0)), .int x, .int y, .ref oa]).length) Slot.unset).toArray = ls at hl ⊢
  have hl : lv_has ls 5 [(0, .ref (ρ (11, 0, 0))), (1, .int x), (2, .int y), (3, .ref oa)] := hl
  obtain ⟨n11, hn1, hn2⟩ := wld_get (ρ := ρ) (q := q) (σ := Z) (t := (11, 0, 0)) (List.mem_of_getElem? (i := 96) rfl)
  have hAA : ∀ z, Aw ρ s.heap.size z → Ax ρ oa s.heap.size z := fun z hz => Or.inl hz
  have kept : ∀ (H1 : Heap) (t : State), t.heap = H1 → va_P D cl13 (wld ρ q Z) t.heap → (∀ z : Nat, z < s.heap.size → ¬ Aw ρ s.heap.size z → H1[z]? = s.heap[z]?) → va_P D cl13 (w4 ρ q Z oa F) H1 := fun H1 t ht hPt hk => by
    rw [ht] at hPt
    refine hPt.app (fun i z hi => ?_)
    have hi0 : i < 1 := (List.getElem?_eq_some_iff.mp hi).1
    have : i = 0 := by omega
    subst this
    have h133 := hP 133 _ (w4_at ρ q Z oa F)
    have hz := Option.some.inj hi
    rw [← hz]
    exact h133.kept (hk oa h133.lt hno)
  refine lv_aload_n (k := 3) hx hb (show decode cW 0 = .ok (.aload_n 3, 1) from dq_ok (by decide +kernel)) rfl (lv_at hl 3 rfl) ?_
  refine lv_iconst (n := 0) (v := 0) hx hb (show decode cW 1 = .ok (.iconst 0, 1) from dq_ok (by decide +kernel)) rfl ?_
  refine lv_aload_n (k := 0) hx hb (show decode cW 2 = .ok (.aload_n 0, 1) from dq_ok (by decide +kernel)) rfl (lv_at hl 0 rfl) ?_
  refine lv_iload_n (k := 1) hx hb (show decode cW 3 = .ok (.iload_n 1, 1) from dq_ok (by decide +kernel)) rfl (lv_at hl 1 rfl) ?_
  refine lv_iload_n (k := 2) hx hb (show decode cW 4 = .ok (.iload_n 2, 1) from dq_ok (by decide +kernel)) rfl (lv_at hl 2 rfl) ?_
  have cw : CallW (headSpec wW rmW).room s (List.toArray [Value.ref (ρ (11, 0, 0)), .int x, .int y, .ref oa]) rL RX11 7 yG cG 3 (some .int) wG rmG 1 6 2 := ⟨callB_of 2 hts gG rfl rfl rfl (hts _ (ii_in 11 (by decide))) (hts _ (wdq_in (p := 1349) (w := .methodLink rL 7 yG) (by decide +kernel))) ⟨by decide +kernel, by decide +kernel, by decide +kernel⟩ ⟨Nat.le_of_ble_eq_true rfl, Nat.le_of_ble_eq_true rfl⟩, hts _ (wdq_in (p := 1350) (w := .instanceMethod yG) (by decide +kernel)), hts _ (wdq_in (p := 1351) (w := .selects RX11 yG yG) (by decide +kernel))⟩
  refine vx_calli (vx_runV (As := [.int x, .int y]) (rest := [.int 0, .ref oa]) ⟨hx, hb, hml, hown, hts⟩ (mt_G hlt D q ρ hR hg s.heap.size) cw ⟨preG_blind _ _ _ _ _ _ _, va_recv hK hPw (cl_at 11 (by decide)) hn2, fun U hU hW => ⟨rfl, by rw [hU], by rw [hU]; exact hPw, va_K.moved hW.alike hK, NW.warm hW hN, by rw [hU]; exact XW.warm hW (XW.kept hX (fun _ _ _ => rfl) hAA), hDw⟩⟩ rfl rfl hl.1 rfl (lv_room (Nat.le_of_ble_eq_true rfl)) (show decode cW 5 = .ok (.invokevirtual 7, 3) from dq_ok (by decide +kernel)) ⟨Nat.le_refl _, Nat.le_refl _⟩) hS (fun z _ h => hAA z h) hAA (fun z _ h => hAA z h) (fun E ce q9 u t H1 locs1 ht hal _ hE hz1 hk1 hS1 hcell hvm hcl => ?_) (fun r u t H1 locs1 ht hal hp hPt hz1 hk1 hS1 => ?_)
  · obtain ⟨hE, hPt⟩ := hE
    have hP1 := kept H1 t ht hPt hk1
    rcases hE with ⟨hk, rfl⟩ | ⟨hk, rfl⟩
    · refine vx_catch hown [] ⟨0, 10, 13, 13⟩ [⟨0, 10, 17, 15⟩] htab (fun z hz => absurd hz List.not_mem_nil) (by decide) (by decide) (name := xIO) (hts _ (wdq_in (p := 1347) (w := .classLink rL 13 xIO) (by decide +kernel))) (va_Nw.use (w := .castable xIO xIO) rfl (hX.1 _ (by decide +kernel))) hcell hvm hcl ?_
      refine lv_astore hx hb (show decode cW 13 = .ok (.astore 4, 2) from dq_ok (by decide +kernel)) hl (by decide) rfl (fun ls hl => ?_)
      refine lv_iconst (n := 1) (v := 1) hx hb (show decode cW 15 = .ok (.iconst 1, 1) from dq_ok (by decide +kernel)) rfl ?_
      exact W.iret (v := 1) hx hb hr (fun t ht hW => ⟨⟨1, F, rfl, ⟨by rw [hk]; rfl, fun z => absurd (hk.symm.trans z) (by decide)⟩, by show va_P D cl13 (w4 ρ q Z oa F) t.heap; rw [ht]; exact hP1⟩, hS1.F ht⟩) hS1.2.2 (show decode cW 16 = .ok (.ireturn, 1) from dq_ok (by decide +kernel))
    · refine vx_catch hown [⟨0, 10, 13, 13⟩] ⟨0, 10, 17, 15⟩ [] htab (fun z hz => Or.inr (by
        have := List.mem_singleton.mp hz
        subst this
        exact ⟨by decide, xIO, hts _ (wdq_in (p := 1347) (w := .classLink rL 13 xIO) (by decide +kernel)), hX.2.1⟩)) (by decide) (by decide) (name := xNS) (hts _ (wdq_in (p := 1348) (w := .classLink rL 15 xNS) (by decide +kernel))) (va_Nw.use (w := .castable xNS xNS) rfl (hX.1 _ (by decide +kernel))) hcell hvm hcl ?_
      refine lv_astore hx hb (show decode cW 17 = .ok (.astore 4, 2) from dq_ok (by decide +kernel)) hl (by decide) rfl (fun ls hl => ?_)
      refine lv_iconst (n := 2) (v := 2) hx hb (show decode cW 19 = .ok (.iconst 2, 1) from dq_ok (by decide +kernel)) rfl ?_
      exact W.iret (v := 2) hx hb hr (fun t ht hW => ⟨⟨2, F, rfl, ⟨by rw [hk]; rfl, fun z => absurd (hk.symm.trans z) (by decide)⟩, by show va_P D cl13 (w4 ρ q Z oa F) t.heap; rw [ht]; exact hP1⟩, hS1.F ht⟩) hS1.2.2 (show decode cW 20 = .ok (.ireturn, 1) from dq_ok (by decide +kernel))
  · obtain ⟨hk, rfl⟩ := hp
    have hP1 := kept H1 t ht hPt hk1
    refine lv_i2l (v := Int32.toInt64 r) hx hb (show decode cW 8 = .ok (.i2l, 1) from dq_ok (by decide +kernel)) rfl ?_
    refine va_last hx hb hK hP1 hD hS1 133 1 (w4_at ρ q Z oa F) rfl (by unfold vp_in; decide) (show decode cW 9 = .ok (.lastore, 1) from dq_ok (by decide +kernel)) (fun H2 locs2 hP2 hD2 hS2 => ?_)
    rw [w4_set] at hP2
    refine lv_goto (off := 11) hx hb (show decode cW 10 = .ok (.goto 11, 3) from dq_ok (by decide +kernel)) (tgt := 21) rfl ?_
    refine lv_iconst (n := 0) (v := 0) hx hb (show decode cW 21 = .ok (.iconst 0, 1) from dq_ok (by decide +kernel)) rfl ?_
    exact W.iret (v := 0) hx hb hr (fun t ht hW => ⟨⟨0, _, rfl, ⟨by rw [hk]; rfl, fun _ => rfl⟩, by show va_P D cl13 (w4 ρ q Z oa _) t.heap; rw [ht]; exact hP2⟩, hS2.F ht⟩) hS2.2.2 (show decode cW 22 = .ok (.ireturn, 1) from dq_ok (by decide +kernel))
