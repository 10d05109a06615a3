/-! THE JDK'S OWN: length and charAt of the one text -/
def tpB (j : Nat) : Int32 := nI (tpL.getD j 0)
abbrev jS : String := "java/lang/String"
abbrev jP : String := "jdk/internal/util/Preconditions"
def SW (a v : Nat) (A : Nat → Prop) (U : State) (H : Heap) : Prop := va_O jS a A U H ∧ va_OF jS "coder" "B" (.int 0) a A U H ∧ va_OF jS "value" "[B" (.ref v) a A U H ∧ va_T .byte v 97 (fun j => .int (tpB j)) A U H ∧ va_Z jS "COMPACT_STRINGS" "Z" (.int 1) A U H ∧ va_Zq jP "SIOOBE_FORMATTER" "Ljava/util/function/BiFunction;" A U H
theorem SW.moved {a v : Nat} {A : Nat → Prop} {u U : State} {H : Heap} (hvm : u.vm.Alike U.vm) (h : SW a v A u H) : SW a v A U H := ⟨va_O.moved hvm h.1, va_OF.moved hvm h.2.1, va_OF.moved hvm h.2.2.1, va_T.moved hvm h.2.2.2.1, va_Z.moved hvm h.2.2.2.2.1, va_Zq.moved hvm h.2.2.2.2.2⟩
theorem SW.kept {a v : Nat} {A : Nat → Prop} {U : State} {H H1 : Heap} (h : SW a v A U H) (hq : ∀ x : Nat, x < H.size → ¬ A x → H1[x]? = H[x]?) : SW a v A U H1 := ⟨h.1.kept hq, h.2.1.kept hq, h.2.2.1.kept hq, h.2.2.2.1.kept hq, h.2.2.2.2.1.kept hq, h.2.2.2.2.2.kept hq⟩
theorem SW.narrow {a v : Nat} {A B : Nat → Prop} {U : State} {H : Heap} (h : SW a v A U H) (hAB : ∀ x, B x → A x) : SW a v B U H := ⟨h.1.narrow hAB, h.2.1.narrow hAB, h.2.2.1.narrow hAB, h.2.2.2.1.narrow hAB, h.2.2.2.2.1.narrow hAB, h.2.2.2.2.2.narrow hAB⟩
def PcJ (as : List Value) (a v sz : Nat) : Array Value → State → Prop := va_Pc as (fun U => U.heap.size = sz ∧ SW a v (va_A [] sz) U U.heap)
def QcJ (r : Int32) (sz : Nat) : Array Value → State → Outcome → State → Prop := va_Qi (fun x (_ : Unit) => x = r) (fun _ _ => True) (va_A [] sz)
def QcJv (sz : Nat) : Array Value → State → Outcome → State → Prop := va_Qv (fun (_ : Unit) => True) (fun _ _ => True) (va_A [] sz)
theorem preJ_blind (as : List Value) (a v sz : Nat) : FrameBlind (PcJ as a v sz) := fun a' U g mk z => ⟨z.1, z.2.1, SW.moved (Vm.Alike.refl U.vm) z.2.2⟩
def rmJ (f q : Nat) : Room := { frames := f, cells := 0, slots := 0, locals := q }
def yjC : MethodName := ⟨"java/lang/String", "coder", "()B"⟩
abbrev cjC : ByteArray := prog_22_method_152_code
theorem jcC : Cond.code yjC cjC 1 (some .byte) ∈ tbG := tbG_in (List.mem_append_right _ (List.mem_append_left _ (List.mem_of_getElem? (i := 47) rfl))) rfl
def wjC : List Cond := Cond.code yjC cjC 1 (some .byte) :: tbG
theorem gjC : GoodIn tbG wjC := good_G (fun w hw => by
  rcases List.mem_cons.mp hw with rfl | hw
  · exact jcC
  · exact hw)
def yjL : MethodName := ⟨"java/lang/String", "length", "()I"⟩
abbrev cjL : ByteArray := prog_22_method_54_code
theorem jcL : Cond.code yjL cjL 1 (some .int) ∈ tbG := tbG_in (List.mem_append_right _ (List.mem_append_left _ (List.mem_of_getElem? (i := 43) rfl))) rfl
def wjL : List Cond := Cond.code yjL cjL 1 (some .int) :: tbG
theorem gjL : GoodIn tbG wjL := good_G (fun w hw => by
  rcases List.mem_cons.mp hw with rfl | hw
  · exact jcL
  · exact hw)
def yjA : MethodName := ⟨"java/lang/String", "charAt", "(I)C"⟩
abbrev cjA : ByteArray := prog_22_method_56_code
theorem jcA : Cond.code yjA cjA 2 (some .char) ∈ tbG := tbG_in (List.mem_append_right _ (List.mem_append_left _ (List.mem_of_getElem? (i := 53) rfl))) rfl
def wjA : List Cond := Cond.code yjA cjA 2 (some .char) :: tbG
theorem gjA : GoodIn tbG wjA := good_G (fun w hw => by
  rcases List.mem_cons.mp hw with rfl | hw
  · exact jcA
  · exact hw)
def yjI : MethodName := ⟨"java/lang/String", "isLatin1", "()Z"⟩
abbrev cjI : ByteArray := prog_22_method_154_code
theorem jcI : Cond.code yjI cjI 1 (some .boolean) ∈ tbG := tbG_in (List.mem_append_right _ (List.mem_append_left _ (List.mem_of_getElem? (i := 57) rfl))) rfl
def wjI : List Cond := Cond.code yjI cjI 1 (some .boolean) :: tbG
theorem gjI : GoodIn tbG wjI := good_G (fun w hw => by
  rcases List.mem_cons.mp hw with rfl | hw
  · exact jcI
  · exact hw)
def yjT : MethodName := ⟨"java/lang/StringLatin1", "charAt", "([BI)C"⟩
abbrev cjT : ByteArray := prog_23_method_2_code
theorem jcT : Cond.code yjT cjT 2 (some .char) ∈ tbG := tbG_in (List.mem_append_right _ (List.mem_append_left _ (List.mem_of_getElem? (i := 60) rfl))) rfl
def wjT : List Cond := Cond.code yjT cjT 2 (some .char) :: tbG
theorem gjT : GoodIn tbG wjT := good_G (fun w hw => by
  rcases List.mem_cons.mp hw with rfl | hw
  · exact jcT
  · exact hw)
def yjX : MethodName := ⟨"java/lang/String", "checkIndex", "(II)V"⟩
abbrev cjX : ByteArray := prog_22_method_155_code
theorem jcX : Cond.code yjX cjX 2 none ∈ tbG := tbG_in (List.mem_append_right _ (List.mem_append_left _ (List.mem_of_getElem? (i := 63) rfl))) rfl
def wjX : List Cond := Cond.code yjX cjX 2 none :: tbG
theorem gjX : GoodIn tbG wjX := good_G (fun w hw => by
  rcases List.mem_cons.mp hw with rfl | hw
  · exact jcX
  · exact hw)
def yjP : MethodName := ⟨"jdk/internal/util/Preconditions", "checkIndex", "(IILjava/util/function/BiFunction;)I"⟩
abbrev cjP : ByteArray := prog_30_method_11_code
theorem jcP : Cond.code yjP cjP 3 (some .int) ∈ tbG := tbG_in (List.mem_append_right _ (List.mem_append_left _ (List.mem_of_getElem? (i := 68) rfl))) rfl
def wjP : List Cond := Cond.code yjP cjP 3 (some .int) :: tbG
theorem gjP : GoodIn tbG wjP := good_G (fun w hw => by
  rcases List.mem_cons.mp hw with rfl | hw
  · exact jcP
  · exact hw)
theorem tp_c : ∀ k, k < 97 → (((tpB k &&& 255).toUInt32 % 65536).toInt32 = tpB k ∧ narrow .char (.int (tpB k)) = .int (tpB k)) := by decide +kernel
theorem j_C (l : Launch) (a v sz : Nat) : Met l yjC wjC (rmJ 0 0) (PcJ [Value.ref a] a v sz) (QcJ 0 sz) 0 0 (va_A [] sz) := by
  refine Met.ofW (cc := cjC) (maxL := 1) (ret := (some .byte)) (by decide) rfl ?_
  intro p e s m args below meth c s₁ B hml hv
  obtain ⟨rfl, hsz, hW⟩ := hv
  have hx := B.exec
  have hb := B.bytes
  have hr := B.returns
  have hts0 := atoms_spec (ws := wjC) B.pre
  have hts : ∀ w ∈ tbG, w.before (List.toArray [Value.ref a]) s = true := fun w hw => hts0 w (List.mem_cons_of_mem _ hw)
  have hown : s.vm.findClass "java/lang/String" = some m.cls := findClass_of_methodNamed B.named
  have hlocks := B.notSynchronized
  subst hsz
  obtain ⟨w1, w2, w3, w4, w5, w6⟩ := id hW
  have hS : va_S (va_A [] s.heap.size) s.heap s.heap [] := va_S.rf
  have hAn : ∀ x, va_A [] s.heap.size x → va_A [] s.heap.size x := fun x h => h
  have hl := lv_entry ([Value.ref a]) (n := 1) (Nat.le_of_ble_eq_true rfl)
  rw [lg_entry_eq]
  generalize (lg_sl ([Value.ref a]) ++ List.replicate (1 - (lg_sl ([Value.ref a])).length) Slot.unset).toArray = ls at hl ⊢
  have hl : lv_has ls 1 [(0, .ref a)] := hl
  refine va_gets hx hb w5 hS hown (hts _ (wdq_in (p := 169) (w := .fieldLink "java/lang/String" 38 "java/lang/String" "COMPACT_STRINGS" "Z") (by decide +kernel))) (fun _ h => h) (dq_ok (by decide +kernel)) ?_
  refine lv_if_eq (off := 10) hx hb (dq_ok (by decide +kernel)) (tgt := 13) rfl (fun h => absurd h (by decide)) (fun _ => ?_)
  refine lv_aload_n (k := 0) hx hb (dq_ok (by decide +kernel)) rfl (lv_at hl 0 rfl) ?_
  refine vk_getf hx hb w2 hS hown (hts _ (wdq_in (p := 2194) (w := .fieldLink "java/lang/String" 15 "java/lang/String" "coder" "B") (by decide +kernel))) (fun _ h => h) (dq_ok (by decide +kernel)) ?_
  refine lv_goto (off := 4) hx hb (dq_ok (by decide +kernel)) (tgt := 14) rfl ?_
  exact W.zret (v := 0) hx hb hr rfl (fun t ht hW => ⟨⟨0, (), rfl, rfl, trivial⟩, hS.F ht⟩) hS.2.2 (dq_ok (by decide +kernel))
theorem j_I (l : Launch) (a v sz : Nat) : Met l yjI wjI (rmJ 0 0) (PcJ [Value.ref a] a v sz) (QcJ 1 sz) 0 0 (va_A [] sz) := by
  refine Met.ofW (cc := cjI) (maxL := 1) (ret := (some .boolean)) (by decide) rfl ?_
  intro p e s m args below meth c s₁ B hml hv
  obtain ⟨rfl, hsz, hW⟩ := hv
  have hx := B.exec
  have hb := B.bytes
  have hr := B.returns
  have hts0 := atoms_spec (ws := wjI) B.pre
  have hts : ∀ w ∈ tbG, w.before (List.toArray [Value.ref a]) s = true := fun w hw => hts0 w (List.mem_cons_of_mem _ hw)
  have hown : s.vm.findClass "java/lang/String" = some m.cls := findClass_of_methodNamed B.named
  have hlocks := B.notSynchronized
  subst hsz
  obtain ⟨w1, w2, w3, w4, w5, w6⟩ := id hW
  have hS : va_S (va_A [] s.heap.size) s.heap s.heap [] := va_S.rf
  have hAn : ∀ x, va_A [] s.heap.size x → va_A [] s.heap.size x := fun x h => h
  have hl := lv_entry ([Value.ref a]) (n := 1) (Nat.le_of_ble_eq_true rfl)
  rw [lg_entry_eq]
  generalize (lg_sl ([Value.ref a]) ++ List.replicate (1 - (lg_sl ([Value.ref a])).length) Slot.unset).toArray = ls at hl ⊢
  have hl : lv_has ls 1 [(0, .ref a)] := hl
  refine va_gets hx hb w5 hS hown (hts _ (wdq_in (p := 169) (w := .fieldLink "java/lang/String" 38 "java/lang/String" "COMPACT_STRINGS" "Z") (by decide +kernel))) (fun _ h => h) (dq_ok (by decide +kernel)) ?_
  refine lv_if_eq (off := 14) hx hb (dq_ok (by decide +kernel)) (tgt := 17) rfl (fun h => absurd h (by decide)) (fun _ => ?_)
  refine lv_aload_n (k := 0) hx hb (dq_ok (by decide +kernel)) rfl (lv_at hl 0 rfl) ?_
  refine vk_getf hx hb w2 hS hown (hts _ (wdq_in (p := 2194) (w := .fieldLink "java/lang/String" 15 "java/lang/String" "coder" "B") (by decide +kernel))) (fun _ h => h) (dq_ok (by decide +kernel)) ?_
  refine lv_if_ne (off := 7) hx hb (dq_ok (by decide +kernel)) (tgt := 17) rfl (fun h => absurd rfl h) (fun _ => ?_)
  refine lv_iconst (n := 1) (v := 1) hx hb (dq_ok (by decide +kernel)) rfl ?_
  refine lv_goto (off := 4) hx hb (dq_ok (by decide +kernel)) (tgt := 18) rfl ?_
  exact W.zret (v := 1) hx hb hr rfl (fun t ht hW => ⟨⟨1, (), rfl, rfl, trivial⟩, hS.F ht⟩) hS.2.2 (dq_ok (by decide +kernel))
theorem j_P (l : Launch) (a v sz : Nat) (g : Nat) {k : Nat} (hk : k < 97) : Met l yjP wjP (rmJ 0 0) (PcJ [Value.int (nI k), Value.int 97, Value.ref g] a v sz) (QcJ (nI k) sz) 0 0 (va_A [] sz) := by
  refine Met.ofW (cc := cjP) (maxL := 3) (ret := (some .int)) (by decide) rfl ?_
  intro p e s m args below meth c s₁ B hml hv
  obtain ⟨rfl, hsz, hW⟩ := hv
  have hx := B.exec
  have hb := B.bytes
  have hr := B.returns
  have hts0 := atoms_spec (ws := wjP) B.pre
  have hts : ∀ w ∈ tbG, w.before (List.toArray [Value.int (nI k), Value.int 97, Value.ref g]) s = true := fun w hw => hts0 w (List.mem_cons_of_mem _ hw)
  have hown : s.vm.findClass "jdk/internal/util/Preconditions" = some m.cls := findClass_of_methodNamed B.named
  have hlocks := B.notSynchronized
  subst hsz
  obtain ⟨w1, w2, w3, w4, w5, w6⟩ := id hW
  have hS : va_S (va_A [] s.heap.size) s.heap s.heap [] := va_S.rf
  have hAn : ∀ x, va_A [] s.heap.size x → va_A [] s.heap.size x := fun x h => h
  have hl := lv_entry ([Value.int (nI k), Value.int 97, Value.ref g]) (n := 3) (Nat.le_of_ble_eq_true rfl)
  rw [lg_entry_eq]
  generalize (lg_sl ([Value.int (nI k), Value.int 97, Value.ref g]) ++ List.replicate (3 - (lg_sl ([Value.int (nI k), Value.int 97, Value.ref g])).length) Slot.unset).toArray = ls at hl ⊢
  have hl : lv_has ls 3 [(0, .int (nI k)), (1, .int 97), (2, .ref g)] := hl
  refine lv_iload_n (k := 0) hx hb (dq_ok (by decide +kernel)) rfl (lv_at hl 0 rfl) ?_
  refine lv_if_lt (off := 8) hx hb (dq_ok (by decide +kernel)) (tgt := 9) rfl (fun h => absurd h (nI_nlt (b := 0) (by omega) (by omega))) (fun _ => ?_)
  refine lv_iload_n (k := 0) hx hb (dq_ok (by decide +kernel)) rfl (lv_at hl 0 rfl) ?_
  refine lv_iload_n (k := 1) hx hb (dq_ok (by decide +kernel)) rfl (lv_at hl 1 rfl) ?_
  refine lv_icmp_lt (off := 10) hx hb (dq_ok (by decide +kernel)) (tgt := 16) rfl (fun _ => ?_) (fun h => absurd (nI_lt (b := 97) hk (by decide)) h)
  refine lv_iload_n (k := 0) hx hb (dq_ok (by decide +kernel)) rfl (lv_at hl 0 rfl) ?_
  exact W.iret (v := nI k) hx hb hr (fun t ht hW => ⟨⟨nI k, (), rfl, rfl, trivial⟩, hS.F ht⟩) hS.2.2 (dq_ok (by decide +kernel))
theorem j_Q (l : Launch) (a v sz : Nat) (g : Nat) {k : Nat} (hk : k < 97) : Met l yjP wjP (rmJ 0 0) (PcJ [Value.int (nI k), Value.int 97, Value.null] a v sz) (QcJ (nI k) sz) 0 0 (va_A [] sz) := by
  refine Met.ofW (cc := cjP) (maxL := 3) (ret := (some .int)) (by decide) rfl ?_
  intro p e s m args below meth c s₁ B hml hv
  obtain ⟨rfl, hsz, hW⟩ := hv
  have hx := B.exec
  have hb := B.bytes
  have hr := B.returns
  have hts0 := atoms_spec (ws := wjP) B.pre
  have hts : ∀ w ∈ tbG, w.before (List.toArray [Value.int (nI k), Value.int 97, Value.null]) s = true := fun w hw => hts0 w (List.mem_cons_of_mem _ hw)
  have hown : s.vm.findClass "jdk/internal/util/Preconditions" = some m.cls := findClass_of_methodNamed B.named
  have hlocks := B.notSynchronized
  subst hsz
  obtain ⟨w1, w2, w3, w4, w5, w6⟩ := id hW
  have hS : va_S (va_A [] s.heap.size) s.heap s.heap [] := va_S.rf
  have hAn : ∀ x, va_A [] s.heap.size x → va_A [] s.heap.size x := fun x h => h
  have hl := lv_entry ([Value.int (nI k), Value.int 97, Value.null]) (n := 3) (Nat.le_of_ble_eq_true rfl)
  rw [lg_entry_eq]
  generalize (lg_sl ([Value.int (nI k), Value.int 97, Value.null]) ++ List.replicate (3 - (lg_sl ([Value.int (nI k), Value.int 97, Value.null])).length) Slot.unset).toArray = ls at hl ⊢
  have hl : lv_has ls 3 [(0, .int (nI k)), (1, .int 97), (2, .null)] := hl
  refine lv_iload_n (k := 0) hx hb (dq_ok (by decide +kernel)) rfl (lv_at hl 0 rfl) ?_
  refine lv_if_lt (off := 8) hx hb (dq_ok (by decide +kernel)) (tgt := 9) rfl (fun h => absurd h (nI_nlt (b := 0) (by omega) (by omega))) (fun _ => ?_)
  refine lv_iload_n (k := 0) hx hb (dq_ok (by decide +kernel)) rfl (lv_at hl 0 rfl) ?_
  refine lv_iload_n (k := 1) hx hb (dq_ok (by decide +kernel)) rfl (lv_at hl 1 rfl) ?_
  refine lv_icmp_lt (off := 10) hx hb (dq_ok (by decide +kernel)) (tgt := 16) rfl (fun _ => ?_) (fun h => absurd (nI_lt (b := 97) hk (by decide)) h)
  refine lv_iload_n (k := 0) hx hb (dq_ok (by decide +kernel)) rfl (lv_at hl 0 rfl) ?_
  exact W.iret (v := nI k) hx hb hr (fun t ht hW => ⟨⟨nI k, (), rfl, rfl, trivial⟩, hS.F ht⟩) hS.2.2 (dq_ok (by decide +kernel))
theorem j_L (l : Launch) (a v sz : Nat) : Met l yjL wjL (rmJ 1 20) (PcJ [Value.ref a] a v sz) (QcJ 97 sz) 0 0 (va_A [] sz) := by
  refine Met.ofW (cc := cjL) (maxL := 1) (ret := (some .int)) (by decide) rfl ?_
  intro p e s m args below meth c s₁ B hml hv
  obtain ⟨rfl, hsz, hW⟩ := hv
  have hx := B.exec
  have hb := B.bytes
  have hr := B.returns
  have hts0 := atoms_spec (ws := wjL) B.pre
  have hts : ∀ w ∈ tbG, w.before (List.toArray [Value.ref a]) s = true := fun w hw => hts0 w (List.mem_cons_of_mem _ hw)
  have hown : s.vm.findClass "java/lang/String" = some m.cls := findClass_of_methodNamed B.named
  have hlocks := B.notSynchronized
  subst hsz
  obtain ⟨w1, w2, w3, w4, w5, w6⟩ := id hW
  have hS : va_S (va_A [] s.heap.size) s.heap s.heap [] := va_S.rf
  have hAn : ∀ x, va_A [] s.heap.size x → va_A [] s.heap.size x := fun x h => h
  have hl := lv_entry ([Value.ref a]) (n := 1) (Nat.le_of_ble_eq_true rfl)
  rw [lg_entry_eq]
  generalize (lg_sl ([Value.ref a]) ++ List.replicate (1 - (lg_sl ([Value.ref a])).length) Slot.unset).toArray = ls at hl ⊢
  have hl : lv_has ls 1 [(0, .ref a)] := hl
  refine lv_aload_n (k := 0) hx hb (dq_ok (by decide +kernel)) rfl (lv_at hl 0 rfl) ?_
  refine vk_getf hx hb w3 hS hown (hts _ (wdq_in (p := 2193) (w := .fieldLink "java/lang/String" 9 "java/lang/String" "value" "[B") (by decide +kernel))) (fun _ h => h) (dq_ok (by decide +kernel)) ?_
  refine va_tlen hx hb w4 hS (v := 97) rfl (dq_ok (by decide +kernel)) ?_
  refine lv_aload_n (k := 0) hx hb (dq_ok (by decide +kernel)) rfl (lv_at hl 0 rfl) ?_
  refine va_calli (va_runV (As := []) (rest := [.int 97]) (C := jS) ⟨hx, hb, hml, hown, hts⟩ (j_C l a v s.heap.size) ⟨callB_of 0 hts gjC rfl rfl rfl (hts _ (wdq_in (p := 124) (w := .initialized "java/lang/String") (by decide +kernel))) (hts _ (wdq_in (p := 165) (w := .methodLink "java/lang/String" 335 yjC) (by decide +kernel))) ⟨by decide +kernel, by decide +kernel, by decide +kernel⟩ ⟨Nat.le_of_ble_eq_true rfl, Nat.le_of_ble_eq_true rfl⟩, (hts _ (wdq_in (p := 166) (w := .instanceMethod yjC) (by decide +kernel))), (hts _ (wdq_in (p := 167) (w := .selects jS yjC yjC) (by decide +kernel)))⟩ ⟨preJ_blind _ _ _ _, ⟨w1.choose, w1.choose_spec.1, w1.choose_spec.2.1, w1.choose_spec.2.2.1⟩, fun U hU hW0 => ⟨rfl, by rw [hU], by rw [hU]; exact SW.moved hW0.alike hW⟩⟩ rfl rfl hl.1 rfl (lv_room (by decide)) (show decode cjL 6 = .ok (.invokevirtual 335, 3) from dq_ok (by decide +kernel)) ⟨Nat.le_refl _, Nat.le_refl _⟩) hS (fun x _ h => h) hAn (fun r u t H1 locs1 ht hvm hp _ hz1 hk1 hS => ?_)
  subst hp
  refine lv_ishr hx hb (dq_ok (by decide +kernel)) ?_
  exact W.iret (v := 97) hx hb hr (fun t ht hW => ⟨⟨97, (), rfl, rfl, trivial⟩, hS.F ht⟩) hS.2.2 (dq_ok (by decide +kernel))
theorem j_X (l : Launch) (a v sz : Nat) {k : Nat} (hk : k < 97) : Met l yjX wjX (rmJ 1 22) (PcJ [Value.int (nI k), Value.int 97] a v sz) (QcJv sz) 0 0 (va_A [] sz) := by
  refine Met.ofW (cc := cjX) (maxL := 2) (ret := none) (by decide) rfl ?_
  intro p e s m args below meth c s₁ B hml hv
  obtain ⟨rfl, hsz, hW⟩ := hv
  have hx := B.exec
  have hb := B.bytes
  have hr := B.returns
  have hts0 := atoms_spec (ws := wjX) B.pre
  have hts : ∀ w ∈ tbG, w.before (List.toArray [Value.int (nI k), Value.int 97]) s = true := fun w hw => hts0 w (List.mem_cons_of_mem _ hw)
  have hown : s.vm.findClass "java/lang/String" = some m.cls := findClass_of_methodNamed B.named
  have hlocks := B.notSynchronized
  subst hsz
  obtain ⟨w1, w2, w3, w4, w5, w6⟩ := id hW
  have hS : va_S (va_A [] s.heap.size) s.heap s.heap [] := va_S.rf
  have hAn : ∀ x, va_A [] s.heap.size x → va_A [] s.heap.size x := fun x h => h
  have hl := lv_entry ([Value.int (nI k), Value.int 97]) (n := 2) (Nat.le_of_ble_eq_true rfl)
  rw [lg_entry_eq]
  generalize (lg_sl ([Value.int (nI k), Value.int 97]) ++ List.replicate (2 - (lg_sl ([Value.int (nI k), Value.int 97])).length) Slot.unset).toArray = ls at hl ⊢
  have hl : lv_has ls 2 [(0, .int (nI k)), (1, .int 97)] := hl
  refine lv_iload_n (k := 0) hx hb (dq_ok (by decide +kernel)) rfl (lv_at hl 0 rfl) ?_
  refine lv_iload_n (k := 1) hx hb (dq_ok (by decide +kernel)) rfl (lv_at hl 1 rfl) ?_
  rcases w6 with w6 | ⟨g, w6⟩
  · refine va_gets hx hb w6 hS hown (hts _ (wdq_in (p := 185) (w := .fieldLink "java/lang/String" 1053 "jdk/internal/util/Preconditions" "SIOOBE_FORMATTER" "Ljava/util/function/BiFunction;") (by decide +kernel))) (fun _ h => h) (dq_ok (by decide +kernel)) ?_
    refine va_calli (va_runS (As := [.int (nI k), .int 97, .null]) (rest := []) ⟨hx, hb, hml, hown, hts⟩ (j_Q l a v s.heap.size 0 hk) ⟨callB_of 3 hts gjP rfl rfl rfl (hts _ (wdq_in (p := 126) (w := .initialized "jdk/internal/util/Preconditions") (by decide +kernel))) (hts _ (wdq_in (p := 187) (w := .methodLink "java/lang/String" 1059 yjP) (by decide +kernel))) ⟨by decide +kernel, by decide +kernel, by decide +kernel⟩ ⟨Nat.le_of_ble_eq_true rfl, Nat.le_of_ble_eq_true rfl⟩, (hts _ (wdq_in (p := 188) (w := .static yjP) (by decide +kernel)))⟩ ⟨preJ_blind _ _ _ _, fun U hU hW0 => ⟨rfl, by rw [hU], by rw [hU]; exact SW.moved hW0.alike hW⟩⟩ rfl rfl hl.1 rfl (lv_room (by decide)) (show decode cjX 5 = .ok (.invokestatic 1059, 3) from dq_ok (by decide +kernel)) ⟨Nat.le_refl _, Nat.le_refl _⟩) hS (fun x _ h => h) hAn (fun r u t H1 locs1 ht hvm hp _ hz1 hk1 hS => ?_)
    refine lv_pop hx hb (dq_ok (by decide +kernel)) rfl ?_
    exact W.vret hx hb hr (fun t ht hW => ⟨⟨(), rfl, trivial, trivial⟩, hS.F ht⟩) hS.2.2 (dq_ok (by decide +kernel))
  · refine va_gets hx hb w6 hS hown (hts _ (wdq_in (p := 185) (w := .fieldLink "java/lang/String" 1053 "jdk/internal/util/Preconditions" "SIOOBE_FORMATTER" "Ljava/util/function/BiFunction;") (by decide +kernel))) (fun _ h => h) (dq_ok (by decide +kernel)) ?_
    refine va_calli (va_runS (As := [.int (nI k), .int 97, .ref g]) (rest := []) ⟨hx, hb, hml, hown, hts⟩ (j_P l a v s.heap.size g hk) ⟨callB_of 3 hts gjP rfl rfl rfl (hts _ (wdq_in (p := 126) (w := .initialized "jdk/internal/util/Preconditions") (by decide +kernel))) (hts _ (wdq_in (p := 187) (w := .methodLink "java/lang/String" 1059 yjP) (by decide +kernel))) ⟨by decide +kernel, by decide +kernel, by decide +kernel⟩ ⟨Nat.le_of_ble_eq_true rfl, Nat.le_of_ble_eq_true rfl⟩, (hts _ (wdq_in (p := 188) (w := .static yjP) (by decide +kernel)))⟩ ⟨preJ_blind _ _ _ _, fun U hU hW0 => ⟨rfl, by rw [hU], by rw [hU]; exact SW.moved hW0.alike hW⟩⟩ rfl rfl hl.1 rfl (lv_room (by decide)) (show decode cjX 5 = .ok (.invokestatic 1059, 3) from dq_ok (by decide +kernel)) ⟨Nat.le_refl _, Nat.le_refl _⟩) hS (fun x _ h => h) hAn (fun r u t H1 locs1 ht hvm hp _ hz1 hk1 hS => ?_)
    refine lv_pop hx hb (dq_ok (by decide +kernel)) rfl ?_
    exact W.vret hx hb hr (fun t ht hW => ⟨⟨(), rfl, trivial, trivial⟩, hS.F ht⟩) hS.2.2 (dq_ok (by decide +kernel))
theorem j_T (l : Launch) (a v sz : Nat) {k : Nat} (hk : k < 97) : Met l yjT wjT (rmJ 2 43) (PcJ [Value.ref v, Value.int (nI k)] a v sz) (QcJ (tpB k) sz) 0 0 (va_A [] sz) := by
  refine Met.ofW (cc := cjT) (maxL := 2) (ret := (some .char)) (by decide) rfl ?_
  intro p e s m args below meth c s₁ B hml hv
  obtain ⟨rfl, hsz, hW⟩ := hv
  have hx := B.exec
  have hb := B.bytes
  have hr := B.returns
  have hts0 := atoms_spec (ws := wjT) B.pre
  have hts : ∀ w ∈ tbG, w.before (List.toArray [Value.ref v, Value.int (nI k)]) s = true := fun w hw => hts0 w (List.mem_cons_of_mem _ hw)
  have hown : s.vm.findClass "java/lang/StringLatin1" = some m.cls := findClass_of_methodNamed B.named
  have hlocks := B.notSynchronized
  subst hsz
  obtain ⟨w1, w2, w3, w4, w5, w6⟩ := id hW
  have hS : va_S (va_A [] s.heap.size) s.heap s.heap [] := va_S.rf
  have hAn : ∀ x, va_A [] s.heap.size x → va_A [] s.heap.size x := fun x h => h
  have hl := lv_entry ([Value.ref v, Value.int (nI k)]) (n := 2) (Nat.le_of_ble_eq_true rfl)
  rw [lg_entry_eq]
  generalize (lg_sl ([Value.ref v, Value.int (nI k)]) ++ List.replicate (2 - (lg_sl ([Value.ref v, Value.int (nI k)])).length) Slot.unset).toArray = ls at hl ⊢
  have hl : lv_has ls 2 [(0, .ref v), (1, .int (nI k))] := hl
  refine lv_iload_n (k := 1) hx hb (dq_ok (by decide +kernel)) rfl (lv_at hl 1 rfl) ?_
  refine lv_aload_n (k := 0) hx hb (dq_ok (by decide +kernel)) rfl (lv_at hl 0 rfl) ?_
  refine va_tlen hx hb w4 hS (v := 97) rfl (dq_ok (by decide +kernel)) ?_
  refine va_callv (va_runS (As := [.int (nI k), .int 97]) (rest := []) ⟨hx, hb, hml, hown, hts⟩ (j_X l a v s.heap.size hk) ⟨callB_of 2 hts gjX rfl rfl rfl (hts _ (wdq_in (p := 124) (w := .initialized "java/lang/String") (by decide +kernel))) (hts _ (wdq_in (p := 182) (w := .methodLink "java/lang/StringLatin1" 9 yjX) (by decide +kernel))) ⟨by decide +kernel, by decide +kernel, by decide +kernel⟩ ⟨Nat.le_of_ble_eq_true rfl, Nat.le_of_ble_eq_true rfl⟩, (hts _ (wdq_in (p := 183) (w := .static yjX) (by decide +kernel)))⟩ ⟨preJ_blind _ _ _ _, fun U hU hW0 => ⟨rfl, by rw [hU], by rw [hU]; exact SW.moved hW0.alike hW⟩⟩ rfl rfl hl.1 rfl (lv_room (by decide)) (show decode cjT 3 = .ok (.invokestatic 9, 3) from dq_ok (by decide +kernel)) ⟨Nat.le_refl _, Nat.le_refl _⟩) hS (fun x _ h => h) hAn (fun u t H1 locs1 ht hvm _ _ hz1 hk1 hS => ?_)
  refine lv_aload_n (k := 0) hx hb (dq_ok (by decide +kernel)) rfl (lv_at hl 0 rfl) ?_
  refine lv_iload_n (k := 1) hx hb (dq_ok (by decide +kernel)) rfl (lv_at hl 1 rfl) ?_
  refine va_tb hx hb w4 hS (i := nI k) (v := .int (tpB k)) (fun z => by
    rw [nI_clamp (by omega)] at z
    rcases z with z | z
    · exact absurd z (nI_nlt (b := 0) (by omega) (by omega))
    · omega) (by rw [nI_clamp (by omega)]) (dq_ok (by decide +kernel)) ?_
  refine lv_sipush (n := 255) (v := 255) hx hb (dq_ok (by decide +kernel)) (by decide) ?_
  refine lv_iand hx hb (dq_ok (by decide +kernel)) ?_
  refine lv_i2c (v := tpB k) hx hb (dq_ok (by decide +kernel)) (tp_c k hk).1 ?_
  exact W.zret (v := tpB k) hx hb hr (tp_c k hk).2 (fun t ht hW => ⟨⟨tpB k, (), rfl, rfl, trivial⟩, hS.F ht⟩) hS.2.2 (dq_ok (by decide +kernel))
theorem j_A (l : Launch) (a v sz : Nat) {k : Nat} (hk : k < 97) : Met l yjA wjA (rmJ 3 64) (PcJ [Value.ref a, Value.int (nI k)] a v sz) (QcJ (tpB k) sz) 0 0 (va_A [] sz) := by
  refine Met.ofW (cc := cjA) (maxL := 2) (ret := (some .char)) (by decide) rfl ?_
  intro p e s m args below meth c s₁ B hml hv
  obtain ⟨rfl, hsz, hW⟩ := hv
  have hx := B.exec
  have hb := B.bytes
  have hr := B.returns
  have hts0 := atoms_spec (ws := wjA) B.pre
  have hts : ∀ w ∈ tbG, w.before (List.toArray [Value.ref a, Value.int (nI k)]) s = true := fun w hw => hts0 w (List.mem_cons_of_mem _ hw)
  have hown : s.vm.findClass "java/lang/String" = some m.cls := findClass_of_methodNamed B.named
  have hlocks := B.notSynchronized
  subst hsz
  obtain ⟨w1, w2, w3, w4, w5, w6⟩ := id hW
  have hS : va_S (va_A [] s.heap.size) s.heap s.heap [] := va_S.rf
  have hAn : ∀ x, va_A [] s.heap.size x → va_A [] s.heap.size x := fun x h => h
  have hl := lv_entry ([Value.ref a, Value.int (nI k)]) (n := 2) (Nat.le_of_ble_eq_true rfl)
  rw [lg_entry_eq]
  generalize (lg_sl ([Value.ref a, Value.int (nI k)]) ++ List.replicate (2 - (lg_sl ([Value.ref a, Value.int (nI k)])).length) Slot.unset).toArray = ls at hl ⊢
  have hl : lv_has ls 2 [(0, .ref a), (1, .int (nI k))] := hl
  refine lv_aload_n (k := 0) hx hb (dq_ok (by decide +kernel)) rfl (lv_at hl 0 rfl) ?_
  refine va_calli (va_runV (As := []) (rest := []) (C := jS) ⟨hx, hb, hml, hown, hts⟩ (j_I l a v s.heap.size) ⟨callB_of 0 hts gjI rfl rfl rfl (hts _ (wdq_in (p := 124) (w := .initialized "java/lang/String") (by decide +kernel))) (hts _ (wdq_in (p := 175) (w := .methodLink "java/lang/String" 492 yjI) (by decide +kernel))) ⟨by decide +kernel, by decide +kernel, by decide +kernel⟩ ⟨Nat.le_of_ble_eq_true rfl, Nat.le_of_ble_eq_true rfl⟩, (hts _ (wdq_in (p := 176) (w := .instanceMethod yjI) (by decide +kernel))), (hts _ (wdq_in (p := 177) (w := .selects jS yjI yjI) (by decide +kernel)))⟩ ⟨preJ_blind _ _ _ _, ⟨w1.choose, w1.choose_spec.1, w1.choose_spec.2.1, w1.choose_spec.2.2.1⟩, fun U hU hW0 => ⟨rfl, by rw [hU], by rw [hU]; exact SW.moved hW0.alike hW⟩⟩ rfl rfl hl.1 rfl (lv_room (by decide)) (show decode cjA 1 = .ok (.invokevirtual 492, 3) from dq_ok (by decide +kernel)) ⟨Nat.le_refl _, Nat.le_refl _⟩) hS (fun x _ h => h) hAn (fun r u t H1 locs1 ht hvm hp _ hz1 hk1 hS => ?_)
  subst hp
  refine lv_if_eq (off := 12) hx hb (dq_ok (by decide +kernel)) (tgt := 16) rfl (fun h => absurd h (by decide)) (fun _ => ?_)
  refine lv_aload_n (k := 0) hx hb (dq_ok (by decide +kernel)) rfl (lv_at hl 0 rfl) ?_
  refine vk_getf hx hb w3 hS hown (hts _ (wdq_in (p := 2193) (w := .fieldLink "java/lang/String" 9 "java/lang/String" "value" "[B") (by decide +kernel))) (fun _ h => h) (dq_ok (by decide +kernel)) ?_
  refine lv_iload_n (k := 1) hx hb (dq_ok (by decide +kernel)) rfl (lv_at hl 1 rfl) ?_
  have hW1 : SW a v (va_A [] H1.size) s H1 := (hW.kept (fun x h1 h2 => hS.2.1 x h1 h2)).narrow (fun x h => by
    rcases h with ⟨j, e1, hj⟩ | h
    · cases hj
    · exact Or.inr (Nat.le_trans hz1 h))
  refine va_calli (va_runS (As := [.ref v, .int (nI k)]) (rest := []) ⟨hx, hb, hml, hown, hts⟩ (j_T l a v H1.size hk) ⟨callB_of 2 hts gjT rfl rfl rfl (hts _ (wdq_in (p := 125) (w := .initialized "java/lang/StringLatin1") (by decide +kernel))) (hts _ (wdq_in (p := 179) (w := .methodLink "java/lang/String" 495 yjT) (by decide +kernel))) ⟨by decide +kernel, by decide +kernel, by decide +kernel⟩ ⟨Nat.le_of_ble_eq_true rfl, Nat.le_of_ble_eq_true rfl⟩, (hts _ (wdq_in (p := 180) (w := .static yjT) (by decide +kernel)))⟩ ⟨preJ_blind _ _ _ _, fun U hU hW0 => ⟨rfl, by rw [hU], by rw [hU]; exact SW.moved hW0.alike hW1⟩⟩ rfl rfl hl.1 rfl (lv_room (by decide)) (show decode cjA 12 = .ok (.invokestatic 495, 3) from dq_ok (by decide +kernel)) ⟨Nat.le_refl _, Nat.le_refl _⟩) hS (fun x _ h => by
    rcases h with ⟨j, e1, hj⟩ | h
    · cases hj
    · exact Or.inr (Nat.le_trans hz1 h)) (fun x h => by
    rcases h with ⟨j, e1, hj⟩ | h
    · cases hj
    · exact Or.inr (Nat.le_trans hz1 h)) (fun r u t H2 locs2 ht hvm hp _ hz2 hk2 hS => ?_)
  subst hp
  exact W.zret (v := tpB k) hx hb hr (tp_c k hk).2 (fun t ht hW => ⟨⟨tpB k, (), rfl, rfl, trivial⟩, hS.F ht⟩) hS.2.2 (dq_ok (by decide +kernel))
