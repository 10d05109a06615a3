/-! RibbonRun.grower: by contract, returning or throwing -/
def yG : MethodName := ⟨RX11, "grower", "(II)I"⟩
abbrev cG : ByteArray := prog_1_method_6_code
theorem gG_in : Cond.code yG cG 3 (some .int) ∈ tbG := tbG_in (List.mem_append_right _ (List.mem_append_right _ (List.mem_append_right _ (List.mem_append_right _ (List.mem_append_right _ (List.mem_append_right _ (List.mem_append_left _ (List.mem_of_getElem? (i := 31) rfl)))))))) rfl
def wG : List Cond := Cond.code yG cG 3 (some .int) :: tbG
theorem gG : GoodIn tbG wG := good_G (fun w hw => by
  rcases List.mem_cons.mp hw with rfl | hw
  · exact gG_in
  · exact hw)
def rmG : Room := { frames := 6, cells := 1, slots := 6, locals := 81 }
def GRO (Z : ST) (x y : Int32) (k : Nat) (v : Int32) : Prop := ∃ G n r, RELs G n r Z Z ∧ ((k = 1 ∧ isb x (nI n) = 0) ∨ ∃ j, j < n ∧ x = nI j ∧ isb x (nI n) = 1 ∧ ((k = 2 ∧ ∀ m, m < 7 → y ≠ nI m) ∨ (k = 0 ∧ ∃ m, m < 6 ∧ y = nI m ∧ v = gvC Z G m j) ∨ (k = 0 ∧ y = nI 6 ∧ den 159 [vR 11 0 0, vI x] Z = some (some (vI v), Z))))
theorem gro_ref {Z : ST} (h : REL Z Z) (x y : Int32) : ∃ k v w Z', k ≤ 2 ∧ GRO Z x y k v ∧ den 228 [vR 12 0 0, vI x, vI y] Z = some (some (vI w), Z') ∧ gI Z' 12 0 2 = nI k ∧ (k = 0 → w = v) ∧ REL Z' Z' := by
  obtain ⟨G, n, r, hs⟩ := id h
  have fin : ∀ (w : Int32) (Z' : ST), den 228 [vR 12 0 0, vI x, vI y] Z = some (some (vI w), Z') → scM Z Z' → REL Z' Z' := fun w Z' hd hm => by
    have e := ref_own hd (fun w hw => by
      rcases List.mem_cons.mp hw with rfl | hw
      · exact trivial
      · rw [List.mem_singleton.mp hw]; exact trivial)
    rw [e]
    exact REL_mrg (REL_sc h scC_0 hm)
  have s1 : ∀ z : Int32, scM Z (thk Z z) := fun z => scM_t (scM_th Z) (scM_I (Or.inl rfl) z)
  rcases q_grower hs.1.1 (RQ_of hs).2.1 x y with ⟨h0, w, hd⟩ | ⟨j, hj, hx, h1, ⟨hy, w, hd⟩ | ⟨m, hm, hy, hd⟩ | ⟨hy, w, hd1, hd⟩⟩
  · exact ⟨1, 0, w, _, by decide, ⟨G, n, r, hs, Or.inl ⟨rfl, h0⟩⟩, hd, rfl, fun z => absurd z (by decide), fin w _ hd (s1 1)⟩
  · exact ⟨2, 0, w, _, by decide, ⟨G, n, r, hs, Or.inr ⟨j, hj, hx, h1, Or.inl ⟨rfl, hy⟩⟩⟩, hd, rfl, fun z => absurd z (by decide), fin w _ hd (s1 2)⟩
  · exact ⟨0, _, _, _, by decide, ⟨G, n, r, hs, Or.inr ⟨j, hj, hx, h1, Or.inr (Or.inl ⟨rfl, m, hm, hy, rfl⟩)⟩⟩, hd, rfl, fun _ => rfl, fin _ _ hd (scM_th Z)⟩
  · exact ⟨0, w, w, _, by decide, ⟨G, n, r, hs, Or.inr ⟨j, hj, hx, h1, Or.inr (Or.inr ⟨rfl, hy, hd1⟩)⟩⟩, hd, rfl, fun _ => rfl, fin w _ hd (scM_th Z)⟩
def PcG (D : va_G) (q : Nat → ClassId) (ρ : Nat × Nat × Nat → Nat) (Z : ST) (x y : Int32) (sz : Nat) : Array Value → State → Prop := va_Pc [.ref (ρ (11, 0, 0)), .int x, .int y] (fun U => U.heap.size = sz ∧ va_P D cl13 (wld ρ q Z) U.heap ∧ va_K D cl13 (tyq q) U ∧ NW U ∧ XW (Aw ρ sz) U U.heap ∧ va_D (fun _ => True) (wld ρ q Z))
def QcG (D : va_G) (q : Nat → ClassId) (ρ : Nat × Nat × Nat → Nat) (Z : ST) (k : Nat) (v : Int32) (sz : Nat) : Array Value → State → Outcome → State → Prop := va_Qi (fun r (_ : Unit) => k = 0 ∧ r = v) (fun _ t => va_P D cl13 (wld ρ q Z) t.heap) (Aw ρ sz)
def XcG (D : va_G) (q : Nat → ClassId) (ρ : Nat × Nat × Nat → Nat) (Z : ST) (k : Nat) (sz : Nat) : String → State → State → Prop := vx_X (fun (_ : Unit) => True) (fun E _ t => ((k = 1 ∧ E = xIO) ∨ (k = 2 ∧ E = xNS)) ∧ va_P D cl13 (wld ρ q Z) t.heap) (Aw ρ sz)
theorem preG_blind (D : va_G) (q : Nat → ClassId) (ρ : Nat × Nat × Nat → Nat) (Z : ST) (x y : Int32) (sz : Nat) : FrameBlind (PcG D q ρ Z x y sz) := fun a U g mk z => by
  obtain ⟨q0, q1, qP, qK, qN, qX, qD⟩ := z
  exact ⟨q0, q1, qP, va_K.moved (u := U) (U := U.calling g mk a) (Vm.Alike.refl U.vm) qK, NW.same rfl qN, XW.same (s := U) (U := U.calling g mk a) (H := U.heap) rfl qX, qD⟩
theorem out7 {y : Int32} (h : ∀ m, m < 7 → y ≠ nI m) : y.toInt < 0 ∨ 6 < y.toInt := by
  rcases Int.lt_or_le y.toInt 0 with z | z
  · exact Or.inl z
  · right
    rcases Int.lt_or_le 6 y.toInt with w | w
    · exact w
    · exfalso
      have e : y = nI y.toInt.toNat := by
        have h1 : y.toNatClampNeg = y.toInt.toNat := rfl
        have hlt : ¬ y < 0 := fun c => by
          have := Int32.lt_iff_toInt_lt.mp c
          have h0 : (0 : Int32).toInt = 0 := by decide
          omega
        obtain ⟨j, hj, ej⟩ := nI_of hlt
        have : y.toNatClampNeg = j := by rw [ej]; exact nI_clamp (by omega)
        rw [← h1, this]
        exact ej
      exact h y.toInt.toNat (by omega) e
section GRW
variable {p : Program} {l : Launch} {e : Env} {R : Room} {s : State} {m : MethodId} {args : Array Value} {below : List Frame} {meth : Method} {c : Code} {D : va_G} {q : Nat → ClassId} {ρ : Nat × Nat × Nat → Nat} {Z : ST} {H : Heap} {locs : List Loc} {ls : Array Slot} {cl sl pc : Nat} {rest : List Value} {Q : State → Prop}
theorem get_row {o idx cn k : Nat} (hx : p.tables.exec = Jvm.exec) (hb : c.code = cG) (hown : s.vm.findClass RX11 = some m.cls) (hts : ∀ w ∈ tbG, w.before args s = true) (hK : va_K D cl13 (tyq q) s) (hP : va_P D cl13 (wld ρ q Z) H) (ht : (cn, o, 0) ∈ cts) (hc : cn < 13) (hk : k < cNn cn) (hlk : flC (11, idx, cn, k) ∈ tbG) (hdg : decode cG pc = .ok (.getfield idx, 3)) (kk : W p l e R s m args below meth c H locs cl sl Q (F0 m (pc + 3) ls (fldV ρ Z cn o k :: rest))) : W p l e R s m args below meth c H locs cl sl Q (F0 m pc ls (.ref (ρ (cn, o, 0)) :: rest)) := by
  obtain ⟨n, hn1, hn2⟩ := wld_get (ρ := ρ) (q := q) (σ := Z) ht
  exact va_get (D := D) (ci := cn) (v := fldV ρ Z cn o k) (C := cnm cn) (T := cTt cn) (N := cNn cn) hx hb hts (cl_in cn hc) hown hK hP n hn2 (cl_at cn hc) k hk (hts _ hlk) (fun _ h9 => h9) (fs_at hk) hdg kk
theorem ald_row {o cn k j N : Nat} {f : Nat → Int32} (hx : p.tables.exec = Jvm.exec) (hb : c.code = cG) (hK : va_K D cl13 (tyq q) s) (hP : va_P D cl13 (wld ρ q Z) H) (ht : (cn, o, k + 1) ∈ cts) (hcel : cel ρ q Z (cn, o, k + 1) = .inl (q 0, N, .inl f)) (hj : j < N) (hN : N < 1000) (hdg : decode cG pc = .ok (.iaload, 1)) (kk : W p l e R s m args below meth c H locs cl sl Q (F0 m (pc + 1) ls (.int (f j) :: rest))) : W p l e R s m args below meth c H locs cl sl Q (F0 m pc ls (.int (nI j) :: .ref (ρ (cn, o, k + 1)) :: rest)) := by
  obtain ⟨n, hn1, hn2⟩ := wld_get (ρ := ρ) (q := q) (σ := Z) ht
  rw [hcel] at hn2
  have hc : (nI j).toNatClampNeg = j := nI_clamp (by omega)
  refine va_iald hx hb hK hP n 0 hn2 rfl (fun z => ?_) hdg (by rw [hc]; exact kk)
  rw [hc] at z
  rcases z with z | z
  · exact absurd z (nI_nlt (b := 0) (by omega) (by omega))
  · omega
end GRW
theorem mt_G {l : Launch} (hlt : l.stackTraces = false) (D : va_G) (q : Nat → ClassId) (ρ : Nat × Nat × Nat → Nat) {Z : ST} {x y v : Int32} {k : Nat} (hR : okR Z) (hg : GRO Z x y k v) (sz : Nat) : vx_Met l yG wG rmG (PcG D q ρ Z x y sz) (QcG D q ρ Z k v sz) (XcG D q ρ Z k sz) 1 6 (Aw ρ sz) := by
  refine vx_ofW (cc := cG) (maxL := 3) (ret := some .int) (by decide) rfl ?_
  intro p e s m args below meth c s₁ B hml hnt hv
  obtain ⟨rfl, hsz, hP, hK, hN, hX, hD0⟩ := hv
  have hx := B.exec
  have hb := B.bytes
  have hr := B.returns
  have hts0 := atoms_spec (ws := wG) B.pre
  have hts : ∀ w ∈ tbG, w.before (List.toArray [Value.ref (ρ (11, 0, 0)), .int x, .int y]) s = true := fun w hw => hts0 w (List.mem_cons_of_mem _ hw)
  have hown : s.vm.findClass RX11 = some m.cls := findClass_of_methodNamed B.named
  have hlocks := B.notSynchronized
  subst hsz
  have hD : va_D (Aw ρ s.heap.size) (wld ρ q Z) := wld_D hD0 (fun t ht => Or.inl ⟨t, ht, rfl⟩)
  have hA : ∀ z, s.heap.size ≤ z → Aw ρ s.heap.size z := fun z hz => Or.inr hz
  have hS : va_S (Aw ρ s.heap.size) s.heap s.heap [] := va_S.rf
  have hl := lv_entry [Value.ref (ρ (11, 0, 0)), .int x, .int y] (n := 3) (Nat.le_of_ble_eq_true rfl)
  rw [lg_entry_eq]
  generalize (lg_sl [Value.ref (ρ (11, 0, 0)), .int x, .int y] ++ List.replicate (3 - (lg_sl [Value.ref (ρ (11, 0, 0)), .int x, .int y]).length) Slot.unset).toArray = ls at hl ⊢
  have hl : lv_has ls 3 [(0, .ref (ρ (11, 0, 0))), (1, .int x), (2, .int y)] := hl
  have ct11 : (11, 0, 0) ∈ cts := List.mem_of_getElem? (i := 96) rfl
  have ct0 : (0, 0, 0) ∈ cts := List.mem_of_getElem? (i := 0) rfl
  have ct5 : (5, 0, 0) ∈ cts := List.mem_of_getElem? (i := 41) rfl
  have hok : ∀ w ∈ ([vR 11 0 0, vI x] : List AV), okv w := fun w hw => by
    rcases List.mem_cons.mp hw with rfl | hw
    · exact ct11
    · rw [List.mem_singleton.mp hw]; exact trivial
  obtain ⟨G, n, r, hs, hcase⟩ := hg
  have hg2 : gR Z 11 0 2 = G := hs.1.1.g
  have hG2 : G < 2 := hs.1.1.1.1
  have n6 : n ≤ 6 := hs.1.1.n6
  have ct2 : (2, G, 0) ∈ cts := by
    have : G = 0 ∨ G = 1 := by omega
    rcases this with rfl | rfl
    · exact List.mem_of_getElem? (i := 15) rfl
    · exact List.mem_of_getElem? (i := 21) rfl
  have ctg : ∀ z, 5 ≤ z → z < 9 → (2, G, z + 1) ∈ cts := fun z h1 h2 => by
    have : G = 0 ∨ G = 1 := by omega
    have hz : z = 5 ∨ z = 6 ∨ z = 7 ∨ z = 8 := by omega
    rcases this with rfl | rfl
    · rcases hz with rfl | rfl | rfl | rfl
      · exact List.mem_of_getElem? (i := 16) rfl
      · exact List.mem_of_getElem? (i := 17) rfl
      · exact List.mem_of_getElem? (i := 18) rfl
      · exact List.mem_of_getElem? (i := 19) rfl
    · rcases hz with rfl | rfl | rfl | rfl
      · exact List.mem_of_getElem? (i := 22) rfl
      · exact List.mem_of_getElem? (i := 23) rfl
      · exact List.mem_of_getElem? (i := 24) rfl
      · exact List.mem_of_getElem? (i := 25) rfl
  have hisb : den 153 [vR 11 0 0, vI x] Z = some (some (vI (isb x (nI n))), Z) := by
    rw [e_isGrower, hs.1.1.cn]
  refine lv_aload_n (k := 0) hx hb (show decode cG 0 = .ok (.aload_n 0, 1) from dq_ok (by decide +kernel)) rfl (lv_at hl 0 rfl) ?_
  refine lv_iload_n (k := 1) hx hb (show decode cG 1 = .ok (.iload_n 1, 1) from dq_ok (by decide +kernel)) rfl (lv_at hl 1 rfl) ?_
  refine callD (ρ := ρ) (idx := 120) (a := 153) (o := 0) (as := [vI x]) (σ := Z) (σ' := Z) (v := some (vI (isb x (nI n)))) (rest := []) hx hb hml hown hts hN hK hD hA (by decide +kernel) (by decide +kernel) (wdq_in (p := 887) (w := Cond.methodLink RX11 120 (mY 153)) (by decide +kernel)) hisb hok hR rfl (by decide +kernel) (by decide +kernel) hl.1 (by decide) (by decide) (by decide) hP hS (show decode cG 2 = .ok (.invokevirtual 120, 3) from dq_ok (by decide +kernel)) (fun H1 locs1 _ hP1 _ hS1 _ hz1 => ?_)
  -- throwing
  have thr : ∀ (E : String) (t : State), ((k = 1 ∧ E = xIO) ∨ (k = 2 ∧ E = xNS)) → H1.size ≤ t.heap.size → (∀ z : Nat, z < H1.size → t.heap[z]? = H1[z]?) → XcG D q ρ Z k s.heap.size E s t := fun E t hE h1 h2 => ⟨(), trivial, ⟨hE, hP1.kept (fun i z hi => h2 z.1 (hP1 i z hi).lt)⟩, Nat.le_trans hS1.1 h1, fun z h3 h4 => Eq.trans (h2 z (Nat.lt_of_lt_of_le h3 hS1.1)) (hS1.2.1 z h3 h4)⟩
  have hout : ∀ z ∈ c.exceptionTable.toList, ∀ pc, covers z pc = false := fun z hz _ => absurd (hnt z hz) id
  rcases hcase with ⟨hk, h0⟩ | ⟨j, hj, rfl, h1, hcase⟩
  · rw [h0]
    refine lv_if_ne (off := 11) hx hb (show decode cG 5 = .ok (.ifCond .ne 11, 3) from dq_ok (by decide +kernel)) (tgt := 16) rfl (fun z => absurd rfl z) (fun _ => ?_)
    exact vx_throw0 (A := Aw ρ s.heap.size) hx hb hlt hown x_ftI x_ftn (hts _ (wdq_in (p := 1353) (w := .classLink RX11 124 xIO) (by decide +kernel))) (hts _ (wdq_in (p := 143) (w := .initialized xIO) (by decide +kernel))) (x_atI hts hX) x_gdI hX.2.2.1 hX.2.2.2 hS1 (by rw [hml]; exact hl.1) (show decode cG 8 = .ok (.new 124, 3) from dq_ok (by decide +kernel)) (show decode cG 11 = .ok (.dup, 1) from dq_ok (by decide +kernel)) (show decode cG 12 = .ok (.invokespecial 126, 3) from dq_ok (by decide +kernel)) (show decode cG 15 = .ok (.athrow, 1) from dq_ok (by decide +kernel)) (fun z hz => hout z hz _) (by decide) (by decide) (by decide) (by decide) hlocks (fun t _ h1 h2 => thr xIO t (Or.inl ⟨hk, rfl⟩) h1 h2) hS1.2.2 (by decide) (by decide)
  rw [h1]
  refine lv_if_ne (off := 11) hx hb (show decode cG 5 = .ok (.ifCond .ne 11, 3) from dq_ok (by decide +kernel)) (tgt := 16) rfl (fun _ => ?_) (fun z => absurd z (by decide))
  refine lv_iload_n (k := 2) hx hb (show decode cG 16 = .ok (.iload_n 2, 1) from dq_ok (by decide +kernel)) rfl (lv_at hl 2 rfl) ?_
  have hsw := (show decode cG 17 = .ok (.tableswitch 118 0 6 #[43, 56, 66, 76, 86, 99, 112], 43) from dq_ok (by decide +kernel))
  rcases hcase with ⟨hk, hy⟩ | ⟨hk, m', hm', rfl, rfl⟩ | ⟨hk, rfl, hden⟩
  · refine lv_tableOut hx hb hsw (out7 hy) (tgt := 135) rfl ?_
    exact vx_throw0 (A := Aw ρ s.heap.size) hx hb hlt hown x_ftN x_ftn (hts _ (wdq_in (p := 1419) (w := .classLink RX11 152 xNS) (by decide +kernel))) (hts _ (wdq_in (p := 144) (w := .initialized xNS) (by decide +kernel))) (x_atN hts hX) x_gdN hX.2.2.1 hX.2.2.2 hS1 (by rw [hml]; exact hl.1) (show decode cG 135 = .ok (.new 152, 3) from dq_ok (by decide +kernel)) (show decode cG 138 = .ok (.dup, 1) from dq_ok (by decide +kernel)) (show decode cG 139 = .ok (.invokespecial 154, 3) from dq_ok (by decide +kernel)) (show decode cG 142 = .ok (.athrow, 1) from dq_ok (by decide +kernel)) (fun z hz => hout z hz _) (by decide) (by decide) (by decide) (by decide) hlocks (fun t _ h1 h2 => thr xNS t (Or.inr ⟨hk, rfl⟩) h1 h2) hS1.2.2 (by decide) (by decide)
  · have ret : ∀ (w : Int32) {pc : Nat}, decode cG pc = .ok (.ireturn, 1) → w = gvC Z G m' j → W p l e (headSpec wG rmG).room s m (List.toArray [Value.ref (ρ (11, 0, 0)), .int (nI j), .int (nI m')]) below meth c H1 locs1 0 0 (vx_MQ below (QcG D q ρ Z k (gvC Z G m' j) s.heap.size) (XcG D q ρ Z k s.heap.size) (List.toArray [Value.ref (ρ (11, 0, 0)), .int (nI j), .int (nI m')]) s 1 6 (Aw ρ s.heap.size)) (F0 m pc ls [.int w]) := fun w pc hd hw => vx_ret (W.widen (k := 1) (n := 6) (by decide) (by decide) (W.iret (v := w) hx hb hr (fun t ht hW => ⟨⟨w, (), rfl, ⟨hk, hw⟩, by show va_P D cl13 (wld ρ q Z) t.heap; rw [ht]; exact hP1⟩, hS1.F ht⟩) hS1.2.2 hd))
    have hm6 : m' = 0 ∨ m' = 1 ∨ m' = 2 ∨ m' = 3 ∨ m' = 4 ∨ m' = 5 := by omega
    rcases hm6 with rfl | rfl | rfl | rfl | rfl | rfl
    · -- 0
      refine lv_tableIn hx hb hsw (x := nI 0) (by decide) (by decide) (off := 43) rfl (tgt := 60) rfl ?_
      refine lv_aload_n (k := 0) hx hb (show decode cG 60 = .ok (.aload_n 0, 1) from dq_ok (by decide +kernel)) rfl (lv_at hl 0 rfl) ?_
      refine get_row hx hb hown hts hK hP1 (cn := 11) (o := 0) (k := 3) (idx := 39) ct11 (by decide) (by decide) (wdq_in (p := 617) (w := flC (11, 39, 11, 3)) (by decide +kernel)) (show decode cG 61 = .ok (.getfield 39, 3) from dq_ok (by decide +kernel)) ?_
      refine get_row hx hb hown hts hK hP1 (cn := 0) (o := 0) (k := 0) (idx := 127) ct0 (by decide) (by decide) (wdq_in (p := 434) (w := flC (11, 127, 0, 0)) (by decide +kernel)) (show decode cG 64 = .ok (.getfield 127, 3) from dq_ok (by decide +kernel)) ?_
      refine get_row hx hb hown hts hK hP1 (cn := 5) (o := 0) (k := 2) (idx := 130) ct5 (by decide) (by decide) (wdq_in (p := 280) (w := flC (11, 130, 5, 2)) (by decide +kernel)) (show decode cG 67 = .ok (.getfield 130, 3) from dq_ok (by decide +kernel)) ?_
      refine lv_iload_n (k := 1) hx hb (show decode cG 70 = .ok (.iload_n 1, 1) from dq_ok (by decide +kernel)) rfl (lv_at hl 1 rfl) ?_
      refine ald_row hx hb hK hP1 (cn := 5) (o := 0) (k := 2) (N := 6) (f := gA Z 5 0 2) (List.mem_of_getElem? (i := 42) rfl) rfl (by omega) (by decide) (show decode cG 71 = .ok (.iaload, 1) from dq_ok (by decide +kernel)) ?_
      exact ret _ (show decode cG 72 = .ok (.ireturn, 1) from dq_ok (by decide +kernel)) rfl
    · -- 1
      refine lv_tableIn hx hb hsw (x := nI 1) (by decide) (by decide) (off := 56) rfl (tgt := 73) rfl ?_
      refine lv_aload_n (k := 0) hx hb (show decode cG 73 = .ok (.aload_n 0, 1) from dq_ok (by decide +kernel)) rfl (lv_at hl 0 rfl) ?_
      refine get_row hx hb hown hts hK hP1 (cn := 11) (o := 0) (k := 2) (idx := 30) ct11 (by decide) (by decide) (wdq_in (p := 616) (w := flC (11, 30, 11, 2)) (by decide +kernel)) (show decode cG 74 = .ok (.getfield 30, 3) from dq_ok (by decide +kernel)) ?_
      rw [show fldV ρ Z 11 0 2 = .ref (ρ (2, gR Z 11 0 2, 0)) from rfl, hg2]
      refine get_row hx hb hown hts hK hP1 (cn := 2) (o := G) (k := 6) (idx := 134) ct2 (by decide) (by decide) (wdq_in (p := 351) (w := flC (11, 134, 2, 6)) (by decide +kernel)) (show decode cG 77 = .ok (.getfield 134, 3) from dq_ok (by decide +kernel)) ?_
      refine lv_iload_n (k := 1) hx hb (show decode cG 80 = .ok (.iload_n 1, 1) from dq_ok (by decide +kernel)) rfl (lv_at hl 1 rfl) ?_
      refine ald_row hx hb hK hP1 (cn := 2) (o := G) (k := 6) (N := 6) (f := gA Z 2 G 6) (ctg 6 (by decide) (by decide)) rfl (by omega) (by decide) (show decode cG 81 = .ok (.iaload, 1) from dq_ok (by decide +kernel)) ?_
      exact ret _ (show decode cG 82 = .ok (.ireturn, 1) from dq_ok (by decide +kernel)) rfl
    · -- 2
      refine lv_tableIn hx hb hsw (x := nI 2) (by decide) (by decide) (off := 66) rfl (tgt := 83) rfl ?_
      refine lv_aload_n (k := 0) hx hb (show decode cG 83 = .ok (.aload_n 0, 1) from dq_ok (by decide +kernel)) rfl (lv_at hl 0 rfl) ?_
      refine get_row hx hb hown hts hK hP1 (cn := 11) (o := 0) (k := 2) (idx := 30) ct11 (by decide) (by decide) (wdq_in (p := 616) (w := flC (11, 30, 11, 2)) (by decide +kernel)) (show decode cG 84 = .ok (.getfield 30, 3) from dq_ok (by decide +kernel)) ?_
      rw [show fldV ρ Z 11 0 2 = .ref (ρ (2, gR Z 11 0 2, 0)) from rfl, hg2]
      refine get_row hx hb hown hts hK hP1 (cn := 2) (o := G) (k := 7) (idx := 137) ct2 (by decide) (by decide) (wdq_in (p := 356) (w := flC (11, 137, 2, 7)) (by decide +kernel)) (show decode cG 87 = .ok (.getfield 137, 3) from dq_ok (by decide +kernel)) ?_
      refine lv_iload_n (k := 1) hx hb (show decode cG 90 = .ok (.iload_n 1, 1) from dq_ok (by decide +kernel)) rfl (lv_at hl 1 rfl) ?_
      refine ald_row hx hb hK hP1 (cn := 2) (o := G) (k := 7) (N := 6) (f := gA Z 2 G 7) (ctg 7 (by decide) (by decide)) rfl (by omega) (by decide) (show decode cG 91 = .ok (.iaload, 1) from dq_ok (by decide +kernel)) ?_
      exact ret _ (show decode cG 92 = .ok (.ireturn, 1) from dq_ok (by decide +kernel)) rfl
    · -- 3
      refine lv_tableIn hx hb hsw (x := nI 3) (by decide) (by decide) (off := 76) rfl (tgt := 93) rfl ?_
      refine lv_aload_n (k := 0) hx hb (show decode cG 93 = .ok (.aload_n 0, 1) from dq_ok (by decide +kernel)) rfl (lv_at hl 0 rfl) ?_
      refine get_row hx hb hown hts hK hP1 (cn := 11) (o := 0) (k := 2) (idx := 30) ct11 (by decide) (by decide) (wdq_in (p := 616) (w := flC (11, 30, 11, 2)) (by decide +kernel)) (show decode cG 94 = .ok (.getfield 30, 3) from dq_ok (by decide +kernel)) ?_
      rw [show fldV ρ Z 11 0 2 = .ref (ρ (2, gR Z 11 0 2, 0)) from rfl, hg2]
      refine get_row hx hb hown hts hK hP1 (cn := 2) (o := G) (k := 8) (idx := 140) ct2 (by decide) (by decide) (wdq_in (p := 359) (w := flC (11, 140, 2, 8)) (by decide +kernel)) (show decode cG 97 = .ok (.getfield 140, 3) from dq_ok (by decide +kernel)) ?_
      refine lv_iload_n (k := 1) hx hb (show decode cG 100 = .ok (.iload_n 1, 1) from dq_ok (by decide +kernel)) rfl (lv_at hl 1 rfl) ?_
      refine ald_row hx hb hK hP1 (cn := 2) (o := G) (k := 8) (N := 6) (f := gA Z 2 G 8) (ctg 8 (by decide) (by decide)) rfl (by omega) (by decide) (show decode cG 101 = .ok (.iaload, 1) from dq_ok (by decide +kernel)) ?_
      exact ret _ (show decode cG 102 = .ok (.ireturn, 1) from dq_ok (by decide +kernel)) rfl
    · -- 4
      refine lv_tableIn hx hb hsw (x := nI 4) (by decide) (by decide) (off := 86) rfl (tgt := 103) rfl ?_
      refine lv_aload_n (k := 0) hx hb (show decode cG 103 = .ok (.aload_n 0, 1) from dq_ok (by decide +kernel)) rfl (lv_at hl 0 rfl) ?_
      refine get_row hx hb hown hts hK hP1 (cn := 11) (o := 0) (k := 3) (idx := 39) ct11 (by decide) (by decide) (wdq_in (p := 617) (w := flC (11, 39, 11, 3)) (by decide +kernel)) (show decode cG 104 = .ok (.getfield 39, 3) from dq_ok (by decide +kernel)) ?_
      refine get_row hx hb hown hts hK hP1 (cn := 0) (o := 0) (k := 0) (idx := 127) ct0 (by decide) (by decide) (wdq_in (p := 434) (w := flC (11, 127, 0, 0)) (by decide +kernel)) (show decode cG 107 = .ok (.getfield 127, 3) from dq_ok (by decide +kernel)) ?_
      refine get_row hx hb hown hts hK hP1 (cn := 5) (o := 0) (k := 3) (idx := 143) ct5 (by decide) (by decide) (wdq_in (p := 284) (w := flC (11, 143, 5, 3)) (by decide +kernel)) (show decode cG 110 = .ok (.getfield 143, 3) from dq_ok (by decide +kernel)) ?_
      refine lv_iload_n (k := 1) hx hb (show decode cG 113 = .ok (.iload_n 1, 1) from dq_ok (by decide +kernel)) rfl (lv_at hl 1 rfl) ?_
      refine ald_row hx hb hK hP1 (cn := 5) (o := 0) (k := 3) (N := 6) (f := gA Z 5 0 3) (List.mem_of_getElem? (i := 43) rfl) rfl (by omega) (by decide) (show decode cG 114 = .ok (.iaload, 1) from dq_ok (by decide +kernel)) ?_
      exact ret _ (show decode cG 115 = .ok (.ireturn, 1) from dq_ok (by decide +kernel)) rfl
    · -- 5
      refine lv_tableIn hx hb hsw (x := nI 5) (by decide) (by decide) (off := 99) rfl (tgt := 116) rfl ?_
      refine lv_aload_n (k := 0) hx hb (show decode cG 116 = .ok (.aload_n 0, 1) from dq_ok (by decide +kernel)) rfl (lv_at hl 0 rfl) ?_
      refine get_row hx hb hown hts hK hP1 (cn := 11) (o := 0) (k := 3) (idx := 39) ct11 (by decide) (by decide) (wdq_in (p := 617) (w := flC (11, 39, 11, 3)) (by decide +kernel)) (show decode cG 117 = .ok (.getfield 39, 3) from dq_ok (by decide +kernel)) ?_
      refine get_row hx hb hown hts hK hP1 (cn := 0) (o := 0) (k := 0) (idx := 127) ct0 (by decide) (by decide) (wdq_in (p := 434) (w := flC (11, 127, 0, 0)) (by decide +kernel)) (show decode cG 120 = .ok (.getfield 127, 3) from dq_ok (by decide +kernel)) ?_
      refine get_row hx hb hown hts hK hP1 (cn := 5) (o := 0) (k := 4) (idx := 146) ct5 (by decide) (by decide) (wdq_in (p := 291) (w := flC (11, 146, 5, 4)) (by decide +kernel)) (show decode cG 123 = .ok (.getfield 146, 3) from dq_ok (by decide +kernel)) ?_
      refine lv_iload_n (k := 1) hx hb (show decode cG 126 = .ok (.iload_n 1, 1) from dq_ok (by decide +kernel)) rfl (lv_at hl 1 rfl) ?_
      refine ald_row hx hb hK hP1 (cn := 5) (o := 0) (k := 4) (N := 6) (f := gA Z 5 0 4) (List.mem_of_getElem? (i := 44) rfl) rfl (by omega) (by decide) (show decode cG 127 = .ok (.iaload, 1) from dq_ok (by decide +kernel)) ?_
      exact ret _ (show decode cG 128 = .ok (.ireturn, 1) from dq_ok (by decide +kernel)) rfl
  · refine lv_tableIn hx hb hsw (x := nI 6) (by decide) (by decide) (off := 112) rfl (tgt := 129) rfl ?_
    refine lv_aload_n (k := 0) hx hb (show decode cG 129 = .ok (.aload_n 0, 1) from dq_ok (by decide +kernel)) rfl (lv_at hl 0 rfl) ?_
    refine lv_iload_n (k := 1) hx hb (show decode cG 130 = .ok (.iload_n 1, 1) from dq_ok (by decide +kernel)) rfl (lv_at hl 1 rfl) ?_
    refine callD (ρ := ρ) (idx := 149) (a := 159) (o := 0) (as := [vI (nI j)]) (σ := Z) (σ' := Z) (v := some (vI v)) (rest := []) hx hb hml hown hts hN hK hD hA (by decide +kernel) (by decide +kernel) (wdq_in (p := 1415) (w := Cond.methodLink RX11 149 (mY 159)) (by decide +kernel)) hden hok hR rfl (by decide +kernel) (by decide +kernel) hl.1 (by decide) (by decide) (by decide) hP1 hS1 (show decode cG 131 = .ok (.invokevirtual 149, 3) from dq_ok (by decide +kernel)) (fun H2 locs2 _ hP2 _ hS2 _ hz2 => ?_)
    exact vx_ret (W.widen (k := 1) (n := 6) (by decide) (by decide) (W.iret (v := v) hx hb hr (fun t ht hW => ⟨⟨v, (), rfl, ⟨hk, rfl⟩, by show va_P D cl13 (wld ρ q Z) t.heap; rw [ht]; exact hP2⟩, hS2.F ht⟩) hS2.2.2 (show decode cG 134 = .ok (.ireturn, 1) from dq_ok (by decide +kernel))))
