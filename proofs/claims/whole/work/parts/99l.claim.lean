/-! THE LAW GROWER, THE LOOP, THE START, THE CLAIM -/
theorem mt_W {l : Launch} (hlt : l.stackTraces = false) (D : va_G) (q : Nat → ClassId) (ρ : Nat × Nat × Nat → Nat) {Z : ST} {x y v : Int32} {k : Nat} (hR : okR Z) (hg : GRO Z x y k v) (oa : Nat) (F : Nat → Int64) (sz : Nat) : Met l yW wW rmW (PcW D q ρ Z oa F x y sz) (QcW D q ρ Z oa k v sz) 1 6 (Ax ρ oa sz) := by
  refine met_ofWH (cc := cW) (maxL := 5) (ret := some .int) (hh := hhW) (by decide) rfl ?_
  intro p e s m args below meth c s₁ B hml hv
  obtain ⟨rfl, hsz, hP, hK, hN, hX, hD0⟩ := hv
  have hx := B.exec
  have hb := B.bytes
  have hr := B.returns
  have hts0 := atoms_spec (ws := wW) B.pre
  have hts : ∀ w ∈ tbG, w.before (List.toArray [Value.ref (ρ (11, 0, 0)), .int x, .int y, .ref oa]) s = true := fun w hw => hts0 w (List.mem_cons_of_mem _ hw)
  have htab : c.exceptionTable.toList = [⟨0, 10, 13, 13⟩, ⟨0, 10, 17, 15⟩] := vx_table (x := yW) B (hts0 _ List.mem_cons_self)
  have hown : s.vm.findClass rL = some m.cls := findClass_of_methodNamed B.named
  have hlocks := B.notSynchronized
  subst hsz
  have hD : va_D (Ax ρ oa s.heap.size) (w4 ρ q Z oa F) := w4_Ax hD0
  have hS : va_S (Ax ρ oa s.heap.size) s.heap s.heap [] := va_S.rf
  have hPw : va_P D cl13 (wld ρ q Z) s.heap := fun i z hi => hP i z (w4_l hi)
  have hDw : va_D (fun _ => True) (wld ρ q Z) := ⟨fun i j a b ha hb hab => hD0.1 i j a b (w4_l ha) (w4_l hb) hab, fun _ _ _ => trivial⟩
  have hno := w4_no hD0 hP
  have hl := lv_entry [Value.ref (ρ (11, 0, 0)), .int x, .int y, .ref oa] (n := 5) (Nat.le_of_ble_eq_true rfl)
  rw [lg_entry_eq]
  generalize (lg_sl [Value.ref (ρ (11, 0, 0)), .int x, .int y, .ref oa] ++ List.replicate (5 - (lg_sl [Value.ref (ρ (11, 0, 0)), .int x, .int y, .ref oa]).length) Slot.unset).toArray = ls at hl ⊢
  have hl : lv_has ls 5 [(0, .ref (ρ (11, 0, 0))), (1, .int x), (2, .int y), (3, .ref oa)] := hl
  obtain ⟨n11, hn1, hn2⟩ := wld_get (ρ := ρ) (q := q) (σ := Z) (t := (11, 0, 0)) (List.mem_of_getElem? (i := 96) rfl)
  have hAA : ∀ z, Aw ρ s.heap.size z → Ax ρ oa s.heap.size z := fun z hz => Or.inl hz
  have kept : ∀ (H1 : Heap) (t : State), t.heap = H1 → va_P D cl13 (wld ρ q Z) t.heap → (∀ z : Nat, z < s.heap.size → ¬ Aw ρ s.heap.size z → H1[z]? = s.heap[z]?) → va_P D cl13 (w4 ρ q Z oa F) H1 := fun H1 t ht hPt hk => by
    rw [ht] at hPt
    refine hPt.app (fun i z hi => ?_)
    have hi0 : i < 1 := (List.getElem?_eq_some_iff.mp hi).1
    have : i = 0 := by omega
    subst this
    have h133 := hP 133 _ (w4_at ρ q Z oa F)
    have hz := Option.some.inj hi
    rw [← hz]
    exact h133.kept (hk oa h133.lt hno)
  refine lv_aload_n (k := 3) hx hb (show decode cW 0 = .ok (.aload_n 3, 1) from dq_ok (by decide +kernel)) rfl (lv_at hl 3 rfl) ?_
  refine lv_iconst (n := 0) (v := 0) hx hb (show decode cW 1 = .ok (.iconst 0, 1) from dq_ok (by decide +kernel)) rfl ?_
  refine lv_aload_n (k := 0) hx hb (show decode cW 2 = .ok (.aload_n 0, 1) from dq_ok (by decide +kernel)) rfl (lv_at hl 0 rfl) ?_
  refine lv_iload_n (k := 1) hx hb (show decode cW 3 = .ok (.iload_n 1, 1) from dq_ok (by decide +kernel)) rfl (lv_at hl 1 rfl) ?_
  refine lv_iload_n (k := 2) hx hb (show decode cW 4 = .ok (.iload_n 2, 1) from dq_ok (by decide +kernel)) rfl (lv_at hl 2 rfl) ?_
  have cw : CallW (headSpec wW rmW).room s (List.toArray [Value.ref (ρ (11, 0, 0)), .int x, .int y, .ref oa]) rL RX11 7 yG cG 3 (some .int) wG rmG 1 6 2 := ⟨callB_of 2 hts gG rfl rfl rfl (hts _ (ii_in 11 (by decide))) (hts _ (wdq_in (p := 1349) (w := .methodLink rL 7 yG) (by decide +kernel))) ⟨by decide +kernel, by decide +kernel, by decide +kernel⟩ ⟨Nat.le_of_ble_eq_true rfl, Nat.le_of_ble_eq_true rfl⟩, hts _ (wdq_in (p := 1350) (w := .instanceMethod yG) (by decide +kernel)), hts _ (wdq_in (p := 1351) (w := .selects RX11 yG yG) (by decide +kernel))⟩
  refine vx_calli (vx_runV (As := [.int x, .int y]) (rest := [.int 0, .ref oa]) ⟨hx, hb, hml, hown, hts⟩ (mt_G hlt D q ρ hR hg s.heap.size) cw ⟨preG_blind _ _ _ _ _ _ _, va_recv hK hPw (cl_at 11 (by decide)) hn2, fun U hU hW => ⟨rfl, by rw [hU], by rw [hU]; exact hPw, va_K.moved hW.alike hK, NW.warm hW hN, by rw [hU]; exact XW.warm hW (XW.kept hX (fun _ _ _ => rfl) hAA), hDw⟩⟩ rfl rfl hl.1 rfl (lv_room (Nat.le_of_ble_eq_true rfl)) (show decode cW 5 = .ok (.invokevirtual 7, 3) from dq_ok (by decide +kernel)) ⟨Nat.le_refl _, Nat.le_refl _⟩) hS (fun z _ h => hAA z h) hAA (fun z _ h => hAA z h) (fun E ce q9 u t H1 locs1 ht hal _ hE hz1 hk1 hS1 hcell hvm hcl => ?_) (fun r u t H1 locs1 ht hal hp hPt hz1 hk1 hS1 => ?_)
  · obtain ⟨hE, hPt⟩ := hE
    have hP1 := kept H1 t ht hPt hk1
    rcases hE with ⟨hk, rfl⟩ | ⟨hk, rfl⟩
    · refine vx_catch hown [] ⟨0, 10, 13, 13⟩ [⟨0, 10, 17, 15⟩] htab (fun z hz => absurd hz List.not_mem_nil) (by decide) (by decide) (name := xIO) (hts _ (wdq_in (p := 1347) (w := .classLink rL 13 xIO) (by decide +kernel))) (va_Nw.use (w := .castable xIO xIO) rfl (hX.1 _ (by decide +kernel))) hcell hvm hcl ?_
      refine lv_astore hx hb (show decode cW 13 = .ok (.astore 4, 2) from dq_ok (by decide +kernel)) hl (by decide) rfl (fun ls hl => ?_)
      refine lv_iconst (n := 1) (v := 1) hx hb (show decode cW 15 = .ok (.iconst 1, 1) from dq_ok (by decide +kernel)) rfl ?_
      exact W.iret (v := 1) hx hb hr (fun t ht hW => ⟨⟨1, F, rfl, ⟨by rw [hk]; rfl, fun z => absurd (hk.symm.trans z) (by decide)⟩, by show va_P D cl13 (w4 ρ q Z oa F) t.heap; rw [ht]; exact hP1⟩, hS1.F ht⟩) hS1.2.2 (show decode cW 16 = .ok (.ireturn, 1) from dq_ok (by decide +kernel))
    · refine vx_catch hown [⟨0, 10, 13, 13⟩] ⟨0, 10, 17, 15⟩ [] htab (fun z hz => Or.inr (by
        have := List.mem_singleton.mp hz
        subst this
        exact ⟨by decide, xIO, hts _ (wdq_in (p := 1347) (w := .classLink rL 13 xIO) (by decide +kernel)), hX.2.1⟩)) (by decide) (by decide) (name := xNS) (hts _ (wdq_in (p := 1348) (w := .classLink rL 15 xNS) (by decide +kernel))) (va_Nw.use (w := .castable xNS xNS) rfl (hX.1 _ (by decide +kernel))) hcell hvm hcl ?_
      refine lv_astore hx hb (show decode cW 17 = .ok (.astore 4, 2) from dq_ok (by decide +kernel)) hl (by decide) rfl (fun ls hl => ?_)
      refine lv_iconst (n := 2) (v := 2) hx hb (show decode cW 19 = .ok (.iconst 2, 1) from dq_ok (by decide +kernel)) rfl ?_
      exact W.iret (v := 2) hx hb hr (fun t ht hW => ⟨⟨2, F, rfl, ⟨by rw [hk]; rfl, fun z => absurd (hk.symm.trans z) (by decide)⟩, by show va_P D cl13 (w4 ρ q Z oa F) t.heap; rw [ht]; exact hP1⟩, hS1.F ht⟩) hS1.2.2 (show decode cW 20 = .ok (.ireturn, 1) from dq_ok (by decide +kernel))
  · obtain ⟨hk, rfl⟩ := hp
    have hP1 := kept H1 t ht hPt hk1
    refine lv_i2l (v := Int32.toInt64 r) hx hb (show decode cW 8 = .ok (.i2l, 1) from dq_ok (by decide +kernel)) rfl ?_
    refine va_last hx hb hK hP1 hD hS1 133 1 (w4_at ρ q Z oa F) rfl (by unfold vp_in; decide) (show decode cW 9 = .ok (.lastore, 1) from dq_ok (by decide +kernel)) (fun H2 locs2 hP2 hD2 hS2 => ?_)
    rw [w4_set] at hP2
    refine lv_goto (off := 11) hx hb (show decode cW 10 = .ok (.goto 11, 3) from dq_ok (by decide +kernel)) (tgt := 21) rfl ?_
    refine lv_iconst (n := 0) (v := 0) hx hb (show decode cW 21 = .ok (.iconst 0, 1) from dq_ok (by decide +kernel)) rfl ?_
    exact W.iret (v := 0) hx hb hr (fun t ht hW => ⟨⟨0, _, rfl, ⟨by rw [hk]; rfl, fun _ => rfl⟩, by show va_P D cl13 (w4 ρ q Z oa _) t.heap; rw [ht]; exact hP2⟩, hS2.F ht⟩) hS2.2.2 (show decode cW 22 = .ok (.ireturn, 1) from dq_ok (by decide +kernel))
section LAWC
variable {p : Program} {l : Launch} {e : Env} {s : State} {m : MethodId} {below : List Frame} {meth : Method} {c : Code} {D : va_G} {q : Nat → ClassId} {ρ : Nat × Nat × Nat → Nat} {b L oa k : Nat} {xs : Nat → Int32} {H : Heap} {locs : List Loc} {ls : Array Slot} {cl sl pc : Nat} {rest : List Value} {Q : State → Prop} {Z : ST} {F : Nat → Int64}
theorem case_grower (hlt : l.stackTraces = false) (X : LX9 p s m meth c b L xs D q) (hl : lv_has ls 7 (LVL ρ b oa k)) (hI : INV s D q ρ oa H locs Z F) (h1 : 6 * k + 1 < L) (h2 : 6 * k + 2 < L) (hcl : cl + 1 ≤ 1160) (hsl : sl + 6 ≤ 12566)
    (kk : ∀ (H1 : Heap) (locs1 : List Loc) (Z1 : ST) (F1 : Nat → Int64) (ls1 : Array Slot), lv_has ls1 7 (LVL ρ b oa k) → INV s D q ρ oa H1 locs1 Z1 F1 → W p l e room_1 s m #[Value.ref b] below meth c H1 locs1 (cl + 1) (sl + 6) Q (F0 m 1703 ls1 [])) : W p l e room_1 s m #[Value.ref b] below meth c H locs cl sl Q (F0 m 376 ls []) := by
  obtain ⟨hP, hD, hS, hR, hZ⟩ := id hI
  obtain ⟨hx, hb, hml, hown, hts, hN, hK, hXW, hX, hbl, hL⟩ := id X
  obtain ⟨k9, v9, w9, Z', hk2, hg, hden, hth, hkv, hrel⟩ := gro_ref hZ (xs (6 * k + 1)) (xs (6 * k + 2))
  have hoa := hD.2 133 _ (w4_at ρ q Z oa F)
  have hDw : ∀ t ∈ cts, s.heap.size ≤ ρ t := fun t ht => by
    obtain ⟨n, hn1, hn2⟩ := wld_get (ρ := ρ) (q := q) (σ := Z) ht
    exact hD.2 n _ (w4_l hn2)
  have hAx : ∀ z, Ax ρ oa H.size z → s.heap.size ≤ z := fun z hz => by
    rcases hz with (⟨t, ht, rfl⟩ | hz) | rfl
    · exact hDw t ht
    · exact Nat.le_trans hS.1 hz
    · exact hoa
  refine lv_aload_n (k := 1) hx hb (show decode code 376 = .ok (.aload_n 1, 1) from dq_ok (by decide +kernel)) rfl (lv_at hl 1 rfl) ?_
  refine arg_row X hl hS (j := 1) (by decide +kernel) h1 ?_
  refine arg_row X hl hS (j := 2) (by decide +kernel) h2 ?_
  refine lv_aload_n (k := 3) hx hb (show decode code 389 = .ok (.aload_n 3, 1) from dq_ok (by decide +kernel)) rfl (lv_at hl 3 rfl) ?_
  refine va_calli (vx_runSW (hh := hhW) (As := [.ref (ρ (11, 0, 0)), .int (xs (6 * k + 1)), .int (xs (6 * k + 2)), .ref oa]) (rest := []) ⟨hx, hb, hml, hown, hts⟩ (mt_W hlt D q ρ hR hg oa F H.size) (vx_cwSW 4 hts gW_all rfl rfl rfl ⟨by decide +kernel, by decide +kernel, by decide +kernel⟩ ⟨Nat.le_of_ble_eq_true rfl, Nat.le_of_ble_eq_true rfl⟩) ⟨preW_blind _ _ _ _ _ _ _ _ _, fun U hU hW => ⟨rfl, by rw [hU], by rw [hU]; exact hP, va_K.moved hW.alike hK, NW.warm hW hN, by rw [hU]; exact XW.warm hW (XW.kept hXW hS.2.1 hAx), hD.weaken (fun _ _ _ _ => trivial)⟩⟩ rfl rfl hl.1 rfl (lv_room (by decide)) (show decode code 390 = .ok (.invokestatic 39, 3) from dq_ok (by decide +kernel)) ⟨hcl, hsl⟩) hS (fun z _ h => hAx z h) hAx (fun r F' t H1 locs1 ht hal hp hB hz1 hk1 hS1 => ?_)
  obtain ⟨rfl, hF0⟩ := hp
  have hP1 : va_P D cl13 (w4 ρ q Z oa F') H1 := by rw [← ht]; exact hB
  have hD1 : va_D (fun x => s.heap.size ≤ x) (w4 ρ q Z oa F') := by rw [← w4_set ρ q Z oa F F']; exact va_D.set hD (w4_at ρ q Z oa F)
  refine lv_istore hx hb (show decode code 393 = .ok (.istore 5, 2) from dq_ok (by decide +kernel)) hl (by decide) (lv' := (5, .int (nI k9)) :: LVL ρ b oa k) rfl (fun ls hl5 => ?_)
  have hl : lv_has ls 7 (LVL ρ b oa k) := lv_sub hl5 [1, 2, 3, 4, 5] rfl
  refine lv_aload_n (k := 2) hx hb (show decode code 395 = .ok (.aload_n 2, 1) from dq_ok (by decide +kernel)) rfl (lv_at hl 2 rfl) ?_
  refine arg_row X hl hS1 (j := 1) (by decide +kernel) h1 ?_
  refine arg_row X hl hS1 (j := 2) (by decide +kernel) h2 ?_
  have i2 : ints [vI (xs (6 * k + 1)), vI (xs (6 * k + 2))] := fun w hw => by
    rcases List.mem_cons.mp hw with rfl | hw
    · exact ⟨_, rfl⟩
    · exact ⟨_, List.mem_singleton.mp hw⟩
  refine one_call (a := 228) (i := 44) (as := [vI (xs (6 * k + 1)), vI (xs (6 * k + 2))]) (v := vI w9) (Z' := Z') (rest := []) X hl ⟨hP1, hD1, hS1, hR⟩ (by decide +kernel) (by decide +kernel) (Or.inr (by decide +kernel)) (wdq_in (p := 1835) (w := .methodLink rL 44 (mY 228)) (by decide +kernel)) hden i2 rfl (by decide +kernel) (by decide +kernel) hcl hsl (by decide) (show decode code 408 = .ok (.invokevirtual 44, 3) from dq_ok (by decide +kernel)) (fun H2 locs2 hP2 hD2 hS2 hR2 => ?_)
  refine lv_istore hx hb (show decode code 411 = .ok (.istore 6, 2) from dq_ok (by decide +kernel)) hl5 (by decide) (lv' := (6, .int w9) :: (5, .int (nI k9)) :: LVL ρ b oa k) rfl (fun ls hl6 => ?_)
  have hl : lv_has ls 7 (LVL ρ b oa k) := lv_sub hl6 [2, 3, 4, 5, 6] rfl
  refine lv_aload_n (k := 2) hx hb (show decode code 413 = .ok (.aload_n 2, 1) from dq_ok (by decide +kernel)) rfl (lv_at hl 2 rfl) ?_
  refine one_call (a := 163) (i := 45) (as := []) (v := vI (gI Z' 12 0 2)) (Z' := Z') (rest := []) X hl ⟨hP2, hD2, hS2, hR2⟩ (by decide +kernel) (by decide +kernel) (Or.inr (by decide +kernel)) (wdq_in (p := 1698) (w := .methodLink rL 45 (mY 163)) (by decide +kernel)) (m_thrown Z') (fun w hw => absurd hw List.not_mem_nil) rfl (by decide +kernel) (by decide +kernel) hcl hsl (by decide) (show decode code 414 = .ok (.invokevirtual 45, 3) from dq_ok (by decide +kernel)) (fun H3 locs3 hP3 hD3 hS3 hR3 => ?_)
  rw [show conc ρ (vI (gI Z' 12 0 2)) = .int (gI Z' 12 0 2) from rfl, hth]
  have hI3 : INV s D q ρ oa H3 locs3 Z' F' := ⟨hP3, hD3, hS3, hR3, hrel⟩
  refine lv_iload hx hb (show decode code 417 = .ok (.iload 5, 2) from dq_ok (by decide +kernel)) (lv_at hl6 1 rfl) ?_
  refine lv_icmp_eq (off := 5) hx hb (show decode code 419 = .ok (.if_icmp .eq 5, 3) from dq_ok (by decide +kernel)) (tgt := 424) rfl (fun _ => ?_) (fun z => absurd rfl z)
  refine lv_iload hx hb (show decode code 424 = .ok (.iload 5, 2) from dq_ok (by decide +kernel)) (lv_at hl6 1 rfl) ?_
  have out : W p l e room_1 s m #[Value.ref b] below meth c H3 locs3 (cl + 1) (sl + 6) Q (F0 m 441 ls []) := lv_goto (off := 1262) hx hb (show decode code 441 = .ok (.goto 1262, 3) from dq_ok (by decide +kernel)) (tgt := 1703) rfl (kk H3 locs3 Z' F' ls hl hI3)
  refine lv_if_ne (off := 15) hx hb (show decode code 426 = .ok (.ifCond .ne 15, 3) from dq_ok (by decide +kernel)) (tgt := 441) rfl (fun _ => out) (fun h0 => ?_)
  have hk0 : k9 = 0 := (nI_eq (a := k9) (b := 0) (by omega) (by decide)).mp h0
  refine lv_aload_n (k := 3) hx hb (show decode code 429 = .ok (.aload_n 3, 1) from dq_ok (by decide +kernel)) rfl (lv_at hl 3 rfl) ?_
  refine lv_iconst (n := 0) (v := 0) hx hb (show decode code 430 = .ok (.iconst 0, 1) from dq_ok (by decide +kernel)) rfl ?_
  refine va_lald hx hb hK hP3 133 1 (w4_at ρ q Z' oa F') rfl (by unfold vp_in; decide) (show decode code 431 = .ok (.laload, 1) from dq_ok (by decide +kernel)) ?_
  refine lv_iload hx hb (show decode code 432 = .ok (.iload 6, 2) from dq_ok (by decide +kernel)) (lv_at hl6 0 rfl) ?_
  refine lv_i2l (v := Int32.toInt64 w9) hx hb (show decode code 434 = .ok (.i2l, 1) from dq_ok (by decide +kernel)) rfl ?_
  refine W.lcmp hx hb (show decode code 435 = .ok (.lcmp, 1) from dq_ok (by decide +kernel)) ?_
  have hc0 : lg_cmp (F' (Int32.toNatClampNeg 0)) (Int32.toInt64 w9) = 0 := by
    rw [show Int32.toNatClampNeg 0 = 0 from rfl, hF0 hk0, hkv hk0]
    unfold lg_cmp
    simp
  exact lv_if_eq (off := 5) hx hb (show decode code 436 = .ok (.ifCond .eq 5, 3) from dq_ok (by decide +kernel)) (tgt := 441) rfl (fun _ => out) (fun z => absurd hc0 z)
end LAWC
section LAWD
variable {p : Program} {l : Launch} {e : Env} {s : State} {m : MethodId} {below : List Frame} {meth : Method} {c : Code} {D : va_G} {q : Nat → ClassId} {ρ : Nat × Nat × Nat → Nat} {b L oa k : Nat} {xs : Nat → Int32} {H : Heap} {locs : List Loc} {ls : Array Slot} {cl sl : Nat} {Q : State → Prop} {Z : ST} {F : Nat → Int64}
theorem cy9_4 (hlt : l.stackTraces = false) (X : LX9 p s m meth c b L xs D q) (hl : lv_has ls 7 (LVL ρ b oa k)) (hI : INV s D q ρ oa H locs Z F) (h6 : 6 * k + 6 ≤ L) (hcl : cl + 1 ≤ 1160) (hsl : sl + 6 ≤ 12566) (kk : ∀ (H1 : Heap) (locs1 : List Loc) (Z1 : ST) (F1 : Nat → Int64) (ls1 : Array Slot), lv_has ls1 7 (LVL ρ b oa k) → INV s D q ρ oa H1 locs1 Z1 F1 → W p l e room_1 s m #[Value.ref b] below meth c H1 locs1 (cl + 1) (sl + 6) Q (F0 m 1703 ls1 [])) : W p l e room_1 s m #[Value.ref b] below meth c H locs cl sl Q (F0 m 376 ls []) := case_grower hlt X hl hI (by omega) (by omega) hcl hsl kk
end LAWD
section LAWJ
variable {p : Program} {l : Launch} {e : Env} {s : State} {m : MethodId} {below : List Frame} {meth : Method} {c : Code} {D : va_G} {q : Nat → ClassId} {ρ : Nat × Nat × Nat → Nat} {b L oa k : Nat} {xs : Nat → Int32} {H : Heap} {locs : List Loc} {ls : Array Slot} {cl sl : Nat} {Q : State → Prop} {Z : ST} {F : Nat → Int64}
theorem law_body (hlt : l.stackTraces = false) (X : LX9 p s m meth c b L xs D q) (hl : lv_has ls 7 (LVL ρ b oa k)) (hI : INV s D q ρ oa H locs Z F) (h6 : 6 * k + 6 ≤ L) (hcl : cl + 1 ≤ 1160) (hsl : sl + 6 ≤ 12566) (kk : ∀ (H1 : Heap) (locs1 : List Loc) (Z1 : ST) (F1 : Nat → Int64) (ls1 : Array Slot), lv_has ls1 7 (LVL ρ b oa k) → INV s D q ρ oa H1 locs1 Z1 F1 → W p l e room_1 s m #[Value.ref b] below meth c H1 locs1 (cl + 1) (sl + 6) Q (F0 m 1703 ls1 [])) : W p l e room_1 s m #[Value.ref b] below meth c H locs cl sl Q (F0 m 33 ls []) := by
  obtain ⟨hx, hb, hml, hown, hts, hN, hK, hXW, hX, hbl, hL⟩ := id X
  have hS := hI.2.2.1
  have hc : (nI (6 * k)).toNatClampNeg = 6 * k := nI_clamp (by omega)
  refine lv_aload_n (k := 0) hx hb (show decode code 33 = .ok (.aload_n 0, 1) from dq_ok (by decide +kernel)) rfl (lv_at hl 0 rfl) ?_
  refine lv_iload hx hb (show decode code 34 = .ok (.iload 4, 2) from dq_ok (by decide +kernel)) (lv_at hl 4 rfl) ?_
  refine va_sld (A := fun x => s.heap.size ≤ x) hx hb hX hbl (Nat.not_le.mpr hbl) hS (fun z => ?_) (show decode code 36 = .ok (.iaload, 1) from dq_ok (by decide +kernel)) ?_
  · rw [hc] at z
    rcases z with z | z
    · exact absurd z (nI_nlt (b := 0) (by omega) (by omega))
    · omega
  refine lv_bipush (n := 63) (v := 63) hx hb (show decode code 37 = .ok (.bipush 63, 2) from dq_ok (by decide +kernel)) (by decide) ?_
  refine lv_iand hx hb (show decode code 39 = .ok (.iand, 1) from dq_ok (by decide +kernel)) ?_
  obtain ⟨w, hw, ew⟩ := pk_andE (xs (nI (6 * k)).toNatClampNeg) (m := 63) 6 (by decide)
  rw [ew]
  have hsw := (show decode code 40 = .ok (.tableswitch 1663 0 42 #[188, 261, 286, 311, 336, 404, 441, 478, 503, 553, 618, 655, 692, 717, 766, 803, 840, 901, 938, 951, 976, 989, 1014, 1051, 1100, 1149, 1186, 1211, 1224, 1261, 1274, 1287, 1300, 1337, 1414, 1439, 1464, 1489, 1550, 1599, 1612, 1625, 1638], 188) from dq_ok (by decide +kernel))
  have hti : (nI w).toInt = (w : Int) := nI_toInt (by omega)
  rcases Nat.lt_or_ge w 43 with h43 | h43
  · have hw' : w = 0 ∨ w = 1 ∨ w = 2 ∨ w = 3 ∨ w = 4 ∨ w = 5 ∨ w = 6 ∨ w = 7 ∨ w = 8 ∨ w = 9 ∨ w = 10 ∨ w = 11 ∨ w = 12 ∨ w = 13 ∨ w = 14 ∨ w = 15 ∨ w = 16 ∨ w = 17 ∨ w = 18 ∨ w = 19 ∨ w = 20 ∨ w = 21 ∨ w = 22 ∨ w = 23 ∨ w = 24 ∨ w = 25 ∨ w = 26 ∨ w = 27 ∨ w = 28 ∨ w = 29 ∨ w = 30 ∨ w = 31 ∨ w = 32 ∨ w = 33 ∨ w = 34 ∨ w = 35 ∨ w = 36 ∨ w = 37 ∨ w = 38 ∨ w = 39 ∨ w = 40 ∨ w = 41 ∨ w = 42 := by omega
    rcases hw' with rfl | rfl | rfl | rfl | rfl | rfl | rfl | rfl | rfl | rfl | rfl | rfl | rfl | rfl | rfl | rfl | rfl | rfl | rfl | rfl | rfl | rfl | rfl | rfl | rfl | rfl | rfl | rfl | rfl | rfl | rfl | rfl | rfl | rfl | rfl | rfl | rfl | rfl | rfl | rfl | rfl | rfl | rfl
    · exact lv_tableIn hx hb hsw (x := nI 0) (by decide) (by decide) (off := 188) rfl (tgt := 228) rfl (cy9_0 X hl hI h6 hcl hsl kk)
    · exact lv_tableIn hx hb hsw (x := nI 1) (by decide) (by decide) (off := 261) rfl (tgt := 301) rfl (cy9_1 X hl hI h6 hcl hsl kk)
    · exact lv_tableIn hx hb hsw (x := nI 2) (by decide) (by decide) (off := 286) rfl (tgt := 326) rfl (cy9_2 X hl hI h6 hcl hsl kk)
    · exact lv_tableIn hx hb hsw (x := nI 3) (by decide) (by decide) (off := 311) rfl (tgt := 351) rfl (cy9_3 X hl hI h6 hcl hsl kk)
    · exact lv_tableIn hx hb hsw (x := nI 4) (by decide) (by decide) (off := 336) rfl (tgt := 376) rfl (cy9_4 hlt X hl hI h6 hcl hsl kk)
    · exact lv_tableIn hx hb hsw (x := nI 5) (by decide) (by decide) (off := 404) rfl (tgt := 444) rfl (cy9_5 X hl hI h6 hcl hsl kk)
    · exact lv_tableIn hx hb hsw (x := nI 6) (by decide) (by decide) (off := 441) rfl (tgt := 481) rfl (cy9_6 X hl hI h6 hcl hsl kk)
    · exact lv_tableIn hx hb hsw (x := nI 7) (by decide) (by decide) (off := 478) rfl (tgt := 518) rfl (cy9_7 X hl hI h6 hcl hsl kk)
    · exact lv_tableIn hx hb hsw (x := nI 8) (by decide) (by decide) (off := 503) rfl (tgt := 543) rfl (cy9_8 X hl hI h6 hcl hsl kk)
    · exact lv_tableIn hx hb hsw (x := nI 9) (by decide) (by decide) (off := 553) rfl (tgt := 593) rfl (cy9_9 X hl hI h6 hcl hsl kk)
    · exact lv_tableIn hx hb hsw (x := nI 10) (by decide) (by decide) (off := 618) rfl (tgt := 658) rfl (cy9_10 X hl hI h6 hcl hsl kk)
    · exact lv_tableIn hx hb hsw (x := nI 11) (by decide) (by decide) (off := 655) rfl (tgt := 695) rfl (cy9_11 X hl hI h6 hcl hsl kk)
    · exact lv_tableIn hx hb hsw (x := nI 12) (by decide) (by decide) (off := 692) rfl (tgt := 732) rfl (cy9_12 X hl hI h6 hcl hsl kk)
    · exact lv_tableIn hx hb hsw (x := nI 13) (by decide) (by decide) (off := 717) rfl (tgt := 757) rfl (cy9_13 X hl hI h6 hcl hsl kk)
    · exact lv_tableIn hx hb hsw (x := nI 14) (by decide) (by decide) (off := 766) rfl (tgt := 806) rfl (cy9_14 X hl hI h6 hcl hsl kk)
    · exact lv_tableIn hx hb hsw (x := nI 15) (by decide) (by decide) (off := 803) rfl (tgt := 843) rfl (cy9_15 X hl hI h6 hcl hsl kk)
    · exact lv_tableIn hx hb hsw (x := nI 16) (by decide) (by decide) (off := 840) rfl (tgt := 880) rfl (cy9_16 X hl hI h6 hcl hsl kk)
    · exact lv_tableIn hx hb hsw (x := nI 17) (by decide) (by decide) (off := 901) rfl (tgt := 941) rfl (cy9_17 X hl hI h6 hcl hsl kk)
    · exact lv_tableIn hx hb hsw (x := nI 18) (by decide) (by decide) (off := 938) rfl (tgt := 978) rfl (cy9_18 X hl hI h6 hcl hsl kk)
    · exact lv_tableIn hx hb hsw (x := nI 19) (by decide) (by decide) (off := 951) rfl (tgt := 991) rfl (cy9_19 X hl hI h6 hcl hsl kk)
    · exact lv_tableIn hx hb hsw (x := nI 20) (by decide) (by decide) (off := 976) rfl (tgt := 1016) rfl (cy9_20 X hl hI h6 hcl hsl kk)
    · exact lv_tableIn hx hb hsw (x := nI 21) (by decide) (by decide) (off := 989) rfl (tgt := 1029) rfl (cy9_21 X hl hI h6 hcl hsl kk)
    · exact lv_tableIn hx hb hsw (x := nI 22) (by decide) (by decide) (off := 1014) rfl (tgt := 1054) rfl (cy9_22 X hl hI h6 hcl hsl kk)
    · exact lv_tableIn hx hb hsw (x := nI 23) (by decide) (by decide) (off := 1051) rfl (tgt := 1091) rfl (cy9_23 X hl hI h6 hcl hsl kk)
    · exact lv_tableIn hx hb hsw (x := nI 24) (by decide) (by decide) (off := 1100) rfl (tgt := 1140) rfl (cy9_24 X hl hI h6 hcl hsl kk)
    · exact lv_tableIn hx hb hsw (x := nI 25) (by decide) (by decide) (off := 1149) rfl (tgt := 1189) rfl (cy9_25 X hl hI h6 hcl hsl kk)
    · exact lv_tableIn hx hb hsw (x := nI 26) (by decide) (by decide) (off := 1186) rfl (tgt := 1226) rfl (cy9_26 X hl hI h6 hcl hsl kk)
    · exact lv_tableIn hx hb hsw (x := nI 27) (by decide) (by decide) (off := 1211) rfl (tgt := 1251) rfl (cy9_27 X hl hI h6 hcl hsl kk)
    · exact lv_tableIn hx hb hsw (x := nI 28) (by decide) (by decide) (off := 1224) rfl (tgt := 1264) rfl (cy9_28 X hl hI h6 hcl hsl kk)
    · exact lv_tableIn hx hb hsw (x := nI 29) (by decide) (by decide) (off := 1261) rfl (tgt := 1301) rfl (cy9_29 X hl hI h6 hcl hsl kk)
    · exact lv_tableIn hx hb hsw (x := nI 30) (by decide) (by decide) (off := 1274) rfl (tgt := 1314) rfl (cy9_30 X hl hI h6 hcl hsl kk)
    · exact lv_tableIn hx hb hsw (x := nI 31) (by decide) (by decide) (off := 1287) rfl (tgt := 1327) rfl (cy9_31 X hl hI h6 hcl hsl kk)
    · exact lv_tableIn hx hb hsw (x := nI 32) (by decide) (by decide) (off := 1300) rfl (tgt := 1340) rfl (cy9_32 X hl hI h6 hcl hsl kk)
    · exact lv_tableIn hx hb hsw (x := nI 33) (by decide) (by decide) (off := 1337) rfl (tgt := 1377) rfl (cy9_33 X hl hI h6 hcl hsl kk)
    · exact lv_tableIn hx hb hsw (x := nI 34) (by decide) (by decide) (off := 1414) rfl (tgt := 1454) rfl (cy9_34 X hl hI h6 hcl hsl kk)
    · exact lv_tableIn hx hb hsw (x := nI 35) (by decide) (by decide) (off := 1439) rfl (tgt := 1479) rfl (cy9_35 X hl hI h6 hcl hsl kk)
    · exact lv_tableIn hx hb hsw (x := nI 36) (by decide) (by decide) (off := 1464) rfl (tgt := 1504) rfl (cy9_36 X hl hI h6 hcl hsl kk)
    · exact lv_tableIn hx hb hsw (x := nI 37) (by decide) (by decide) (off := 1489) rfl (tgt := 1529) rfl (cy9_37 X hl hI h6 hcl hsl kk)
    · exact lv_tableIn hx hb hsw (x := nI 38) (by decide) (by decide) (off := 1550) rfl (tgt := 1590) rfl (cy9_38 X hl hI h6 hcl hsl kk)
    · exact lv_tableIn hx hb hsw (x := nI 39) (by decide) (by decide) (off := 1599) rfl (tgt := 1639) rfl (cy9_39 X hl hI h6 hcl hsl kk)
    · exact lv_tableIn hx hb hsw (x := nI 40) (by decide) (by decide) (off := 1612) rfl (tgt := 1652) rfl (cy9_40 X hl hI h6 hcl hsl kk)
    · exact lv_tableIn hx hb hsw (x := nI 41) (by decide) (by decide) (off := 1625) rfl (tgt := 1665) rfl (cy9_41 X hl hI h6 hcl hsl kk)
    · exact lv_tableIn hx hb hsw (x := nI 42) (by decide) (by decide) (off := 1638) rfl (tgt := 1678) rfl (cy9_42 X hl hI h6 hcl hsl kk)
  · refine lv_tableOut hx hb hsw (Or.inr (by rw [hti]; omega)) (tgt := 1703) rfl ?_
    exact W.widen (k := cl + 1) (n := sl + 6) (by omega) (by omega) (kk H locs Z F ls hl hI)
theorem lawx_loop (hlt : l.stackTraces = false) (X : LX9 p s m meth c b L xs D q) (hr : meth.sig.returnType = ret) (hlocks : meth.locks = false) : ∀ (n k : Nat), k + n = 513 → ∀ (H : Heap) (locs : List Loc) (ls : Array Slot) (Z : ST) (F : Nat → Int64), lv_has ls 7 (LVL ρ b oa k) → INV s D q ρ oa H locs Z F → W p l e room_1 s m #[Value.ref b] below meth c H locs (134 + k) (4362 + 6 * k) (lw_Z below #[Value.ref b] s) (F0 m 23 ls []) := by
  obtain ⟨hx, hb, hml, hown, hts, hN, hK, hXW, hX, hbl, hL⟩ := id X
  intro n
  induction n with
  | zero =>
    intro k hk H locs ls Z F hl hI
    refine lv_iload hx hb (show decode code 23 = .ok (.iload 4, 2) from dq_ok (by decide +kernel)) (lv_at hl 4 rfl) ?_
    refine lv_aload_n (k := 0) hx hb (show decode code 25 = .ok (.aload_n 0, 1) from dq_ok (by decide +kernel)) rfl (lv_at hl 0 rfl) ?_
    refine va_slen (A := fun x => s.heap.size ≤ x) hx hb hX hbl (Nat.not_le.mpr hbl) hI.2.2.1 (show decode code 26 = .ok (.arraylength, 1) from dq_ok (by decide +kernel)) ?_
    refine lv_bipush (n := 6) (v := 6) hx hb (show decode code 27 = .ok (.bipush 6, 2) from dq_ok (by decide +kernel)) (by decide) ?_
    refine lv_isub hx hb (show decode code 29 = .ok (.isub, 1) from dq_ok (by decide +kernel)) ?_
    refine lv_icmp_gt (off := 1679) hx hb (show decode code 30 = .ok (.if_icmp .gt 1679, 3) from dq_ok (by decide +kernel)) (tgt := 1709) rfl (fun _ => ?_) (fun h => absurd (len_6 hL (by omega) h) (by omega))
    refine lv_iconst (n := 1) (v := 1) hx hb (show decode code 1709 = .ok (.iconst 1, 1) from dq_ok (by decide +kernel)) rfl ?_
    exact va_forget (fun z hz => hI.2.2.1.2.2 z hz) (W.widen (k := 1160) (n := 12566) (by omega) (by omega) (lw_ret hx hb hr hlocks (show decode code 1710 = .ok (.ireturn, 1) from dq_ok (by decide +kernel))))
  | succ n ih =>
    intro k hk H locs ls Z F hl hI
    refine lv_iload hx hb (show decode code 23 = .ok (.iload 4, 2) from dq_ok (by decide +kernel)) (lv_at hl 4 rfl) ?_
    refine lv_aload_n (k := 0) hx hb (show decode code 25 = .ok (.aload_n 0, 1) from dq_ok (by decide +kernel)) rfl (lv_at hl 0 rfl) ?_
    refine va_slen (A := fun x => s.heap.size ≤ x) hx hb hX hbl (Nat.not_le.mpr hbl) hI.2.2.1 (show decode code 26 = .ok (.arraylength, 1) from dq_ok (by decide +kernel)) ?_
    refine lv_bipush (n := 6) (v := 6) hx hb (show decode code 27 = .ok (.bipush 6, 2) from dq_ok (by decide +kernel)) (by decide) ?_
    refine lv_isub hx hb (show decode code 29 = .ok (.isub, 1) from dq_ok (by decide +kernel)) ?_
    refine lv_icmp_gt (off := 1679) hx hb (show decode code 30 = .ok (.if_icmp .gt 1679, 3) from dq_ok (by decide +kernel)) (tgt := 1709) rfl (fun _ => ?_) (fun h => ?_)
    · refine lv_iconst (n := 1) (v := 1) hx hb (show decode code 1709 = .ok (.iconst 1, 1) from dq_ok (by decide +kernel)) rfl ?_
      exact va_forget (fun z hz => hI.2.2.1.2.2 z hz) (W.widen (k := 1160) (n := 12566) (by omega) (by omega) (lw_ret hx hb hr hlocks (show decode code 1710 = .ok (.ireturn, 1) from dq_ok (by decide +kernel))))
    · have h6 := len_6 hL (by omega) h
      refine law_body hlt X hl hI h6 (by omega) (by omega) (fun H1 locs1 Z1 F1 ls1 hl1 hI1 => ?_)
      refine lv_iinc (k := 4) (v := nI (6 * (k + 1))) hx hb (show decode code 1703 = .ok (.iinc 4 6, 3) from dq_ok (by decide +kernel)) hl1 rfl (by rw [show Int32.ofInt 6 = nI 6 from rfl, nI_add, show 6 * k + 6 = 6 * (k + 1) by omega]) (by decide) (lv' := [(4, .int (nI (6 * (k + 1)))), (0, .ref b), (1, .ref (ρ (11, 0, 0))), (2, .ref (ρ (12, 0, 0))), (3, .ref oa)]) rfl (fun ls2 hl2 => ?_)
      refine lv_goto (off := -1683) hx hb (show decode code 1706 = .ok (.goto (-1683), 3) from dq_ok (by decide +kernel)) (tgt := 23) rfl ?_
      have := ih (k + 1) (by omega) H1 locs1 ls2 Z1 F1 (lv_sub hl2 [1, 2, 3, 4, 0] rfl) hI1
      rw [show 134 + (k + 1) = 134 + k + 1 by omega, show 4362 + 6 * (k + 1) = 4362 + 6 * k + 6 by omega] at this
      exact this
end LAWJ
/-! THE START, and the claim -/
theorem df_ok {cn : Nat} : ∀ j, j < cNn cn → defaultValue (cTy cn j) = vp_V (dfl cn) j := fun j hj => by
  unfold vp_V dfl
  rw [List.getD_eq_getElem?_getD, fs_at hj]
  rfl
theorem whole_start {p : Program} {e : Env} {s : State} {m : MethodId} {below : List Frame} {meth : Method} {c : Code} (l : Launch) (hflags : l.flags = flags0) {b L : Nat} {xs : Nat → Int32} (hL : L ≤ 3072) (C0 : lw_At p s m meth c b L xs) : W p l e room_1 s m #[Value.ref b] below meth c s.heap [] 0 0 (lw_Z below #[Value.ref b] s) (entryFrame m ([Value.ref b] : List Value).toArray 7) := by
  obtain ⟨hx, hb, hr, hml, hown, hts, hX, hbl, hlocks, hgv⟩ := id C0
  have hlt : l.stackTraces = false := by
    unfold Launch.stackTraces
    rw [hflags]
    decide
  have htsG : ∀ w ∈ tbG, w.before #[Value.ref b] s = true := fun w hw => hts w (List.mem_filter.mp hw).1
  have hown : s.vm.findClass rL = some m.cls := hown
  have hN := nw_start hts
  have hI := ni_start hts
  have hNS := ns_start hts hgv
  have hXW := xw_start hts hgv
  obtain ⟨D, q, hK⟩ := k_start hts
  have X : LX9 p s m meth c b L xs D q := ⟨hx, hb, hml, hown, htsG, hN, hK, hXW, hX, hbl, hL⟩
  have hA : ∀ z : Nat, s.heap.size ≤ z → (fun z : Nat => s.heap.size ≤ z) z := fun _ h => h
  have hS : va_S (fun z : Nat => s.heap.size ≤ z) s.heap s.heap [] := va_S.rf
  have hP : va_P D cl13 [] s.heap := fun k z h => by simp at h
  have hD : va_D (fun z : Nat => s.heap.size ≤ z) [] := ⟨fun i j y z h => by simp at h, fun k z h => by simp at h⟩
  have hl := lv_entry ([Value.ref b]) (n := 7) (Nat.le_of_ble_eq_true rfl)
  rw [lg_entry_eq]
  generalize (lg_sl ([Value.ref b]) ++ List.replicate (7 - (lg_sl ([Value.ref b])).length) Slot.unset).toArray = ls at hl ⊢
  have hl : lv_has ls 7 [(0, .ref b)] := hl
  refine va_new (D := D) (ci := 11) (fs := dfl 11) (C := cnm 11) (T := cTt 11) (N := cNn 11) hx hb htsG (cl_in 11 (by decide)) (cTy 11) (cl_ty 11 (by decide)) hown (htsG _ (wdq_in (p := 146) (w := .classLink rL 8 (cnm 11)) (by decide +kernel))) (htsG _ (in_in 11 (by decide))) (htsG _ (ii_in 11 (by decide))) hK hP hD hS hA (cl_at 11 (by decide)) df_ok (by decide) (by decide) (show decode code 0 = .ok (.new 8, 3) from dq_ok (by decide +kernel)) (fun x H hP hD hS => ?_)
  refine lv_dup hx hb (show decode code 3 = .ok (.dup, 1) from dq_ok (by decide +kernel)) rfl ?_
  obtain ⟨p1, p2, p3, p4, p5, p6⟩ := ipl (show 11 < 13 by decide)
  obtain ⟨r1, r2, r3, r4, r5, r6⟩ := ipl (show 12 < 13 by decide)
  have hP : va_P D cl13 ([] ++ w1I 11 x) H := hP
  have hD : va_D (fun z : Nat => s.heap.size ≤ z) ([] ++ w1I 11 x) := hD
  have hFc : ∀ z, va_A (w1I 11 x) H.size z → s.heap.size ≤ z := va_free (wc := w1I 11 x) hD hS hA [0] rfl
  have hT1 : va_D (fun _ => True) (w1I 11 x) := w1D _ 11 x trivial
  refine va_callv (va_runI (As := []) (rest := [.ref x]) ⟨hx, hb, hml, hown, htsG⟩ (mt_11 l D q x 0 H.size) ⟨callB_of 0 htsG (good_G (wsI_in (show 11 < 13 by decide))) rfl rfl rfl (htsG _ (ii_in 11 (by decide))) (htsG _ (wdq_in (p := 148) (w := .methodLink rL 17 (iY 11)) (by decide +kernel))) ⟨p2, p3, p4⟩ ⟨Nat.le_of_ble_eq_true rfl, Nat.le_of_ble_eq_true rfl⟩, p6, htsG _ (im_in 11 (by decide))⟩ ⟨preI_blind _ _ _ _ _ _, fun U hU hW => ⟨rfl, by rw [hU], by rw [hU]; exact hP, va_K.moved hW.alike hK, NW.warm hW hN, NI.warm hW hI, by rw [hU]; exact NS.warm hW (NS.kept hNS hS.2.1 hFc), hT1⟩⟩ rfl rfl hl.1 rfl (lv_room (Nat.le_of_ble_eq_true rfl)) (show decode code 4 = .ok (.invokespecial 17, 3) from dq_ok (by decide +kernel)) ⟨by decide, by decide⟩) hS (fun z _ h => hFc z h) hFc (fun u t H1 locs1 ht hvm _ hB hz1 hk1 hS1 => ?_)
  obtain ⟨hP1, hD1⟩ := hB
  rw [ht] at hP1
  have hP1 : va_P D cl13 (cw11 q x 0 u) H1 := hP1
  have hD1 : va_D (fun z : Nat => s.heap.size ≤ z) (cw11 q x 0 u) := hD1.weaken (fun _ _ _ h => hFc _ h)
  refine lv_astore_n (k := 1) (lv' := [(1, .ref x), (0, .ref b)]) hx hb (show decode code 7 = .ok (.astore_n 1, 1) from dq_ok (by decide +kernel)) rfl hl (by decide) rfl (fun ls hl => ?_)
  refine va_new (D := D) (ci := 12) (fs := dfl 12) (C := cnm 12) (T := cTt 12) (N := cNn 12) hx hb htsG (cl_in 12 (by decide)) (cTy 12) (cl_ty 12 (by decide)) hown (htsG _ (wdq_in (p := 1434) (w := .classLink rL 18 (cnm 12)) (by decide +kernel))) (htsG _ (in_in 12 (by decide))) (htsG _ (ii_in 12 (by decide))) hK hP1 hD1 hS1 hA (cl_at 12 (by decide)) df_ok (by decide) (by decide) (show decode code 8 = .ok (.new 18, 3) from dq_ok (by decide +kernel)) (fun h H2 hP2 hD2 hS2 => ?_)
  refine lv_dup hx hb (show decode code 11 = .ok (.dup, 1) from dq_ok (by decide +kernel)) rfl ?_
  have hP2 : va_P D cl13 (w2Q q x u h) H2 := hP2
  have hD2 : va_D (fun z : Nat => s.heap.size ≤ z) (w2Q q x u h) := hD2
  have hF2 : ∀ z, va_A (w2Q q x u h) H2.size z → s.heap.size ≤ z := fun z hz => by
    rcases hz with ⟨k, e1, hk⟩ | hz
    · exact hD2.2 k _ hk
    · exact Nat.le_trans hS2.1 hz
  refine va_callv (va_runI (As := []) (rest := [.ref h]) ⟨hx, hb, hml, hown, htsG⟩ (mt_12 l D q x u h H2.size) ⟨callB_of 0 htsG (good_G (wsI_in (show 12 < 13 by decide))) rfl rfl rfl (htsG _ (ii_in 12 (by decide))) (htsG _ (wdq_in (p := 1436) (w := .methodLink rL 20 (iY 12)) (by decide +kernel))) ⟨r2, r3, r4⟩ ⟨Nat.le_of_ble_eq_true rfl, Nat.le_of_ble_eq_true rfl⟩, r6, htsG _ (im_in 12 (by decide))⟩ ⟨preQ_blind _ _ _ _ _ _, fun U hU hW => ⟨rfl, by rw [hU], by rw [hU]; exact hP2, va_K.moved hW.alike hK, NW.warm hW hN, NI.warm hW hI, by rw [hU]; exact NS.warm hW (NS.kept hNS hS2.2.1 hF2), hD2.weaken (fun _ _ _ _ => trivial)⟩⟩ rfl rfl hl.1 rfl (lv_room (Nat.le_of_ble_eq_true rfl)) (show decode code 12 = .ok (.invokespecial 20, 3) from dq_ok (by decide +kernel)) ⟨by decide, by decide⟩) hS2 (fun z _ h => hF2 z h) hF2 (fun z t H3 locs3 ht hvm _ hB hz3 hk3 hS3 => ?_)
  obtain ⟨f, Z⟩ := z
  obtain ⟨hP3, hD3, hR3, hrel⟩ := hB
  rw [ht] at hP3
  have hP3 : va_P D cl13 (wld (rho x u h f) q Z) H3 := hP3
  have hD3 : va_D (fun z : Nat => s.heap.size ≤ z) (wld (rho x u h f) q Z) := hD3.weaken (fun _ _ _ h => hF2 _ h)
  refine lv_astore_n (k := 2) (lv' := [(2, .ref h), (1, .ref x), (0, .ref b)]) hx hb (show decode code 15 = .ok (.astore_n 2, 1) from dq_ok (by decide +kernel)) rfl hl (by decide) rfl (fun ls hl => ?_)
  refine lv_iconst (n := 1) (v := nI 1) hx hb (show decode code 16 = .ok (.iconst 1, 1) from dq_ok (by decide +kernel)) rfl ?_
  refine na_row (q := q) (kd := 1) (k := 1) hx hb htsG hK hP3 hD3 hS3 hA (by decide) (by decide) (by decide) (by decide) (show decode code 17 = .ok (.newarray .long, 2) from dq_ok (by decide +kernel)) (fun oa H4 hP4 hD4 hS4 => ?_)
  refine lv_astore_n (k := 3) (lv' := [(3, .ref oa), (2, .ref h), (1, .ref x), (0, .ref b)]) hx hb (show decode code 19 = .ok (.astore_n 3, 1) from dq_ok (by decide +kernel)) rfl hl (by decide) rfl (fun ls hl => ?_)
  refine lv_iconst (n := 0) (v := 0) hx hb (show decode code 20 = .ok (.iconst 0, 1) from dq_ok (by decide +kernel)) rfl ?_
  refine lv_istore (lv' := [(4, .int 0), (3, .ref oa), (2, .ref h), (1, .ref x), (0, .ref b)]) hx hb (show decode code 21 = .ok (.istore 4, 2) from dq_ok (by decide +kernel)) hl (by decide) rfl (fun ls hl => ?_)
  refine W.widen (k := 134 + 0) (n := 4362 + 6 * 0) (by decide) (by decide) ?_
  exact lawx_loop (ρ := rho x u h f) (oa := oa) hlt X hr hlocks 513 0 rfl H4 locs3 ls Z (fun _ => 0) (lv_sub hl [4, 3, 2, 1, 0] rfl) ⟨hP4, hD4, hS4, hR3, hrel⟩
set_option maxHeartbeats 4000000 in
theorem lw_walk (l : Launch) (hflags : l.flags = flags0) (b : Addr) (xs : List Int32) : MetFree l x (headSpec (Jvm.Cond.code x code maxLocals ret :: tables_1) room_1) (lw_P b xs) (fun _ _ _ _ _ => True) lw_Q := by
  refine MetFree.of_bodyS (code := code) (maxLocals := maxLocals) (ret := ret) (by decide) ?_ ?_
  · intro args s m h hn
    obtain ⟨meth, c, h1, h2, h3, h4, h5, h6, -, -⟩ := Cond.code_spec hn (atoms_spec (ws := Jvm.Cond.code x code maxLocals ret :: tables_1) h _ List.mem_cons_self)
    exact ⟨meth, c, h1, h2, h3, h4, h5, h6⟩
  · intro p e s m args below meth c s₁ B hml0 hP _
    obtain ⟨rfl, hx, hbd, hgv⟩ := hP
    obtain ⟨scr, harrAt, hlist, hof, hsmall⟩ := hx
    obtain ⟨hcb, hkn, -, -⟩ := State.arrayAt?_spec harrAt
    have hown : s.vm.findClass R_law = some m.cls := findClass_of_methodNamed B.named
    have hts0 : ∀ c ∈ (Jvm.Cond.code x code maxLocals ret :: tables_1), c.before #[Value.ref b] s = true := atoms_spec (ws := Jvm.Cond.code x code maxLocals ret :: tables_1) B.pre
    have hts : ∀ w ∈ lw_tbl, w.before #[Value.ref b] s = true := k2_hts_sels lw_privs (fun w hw => hts0 w (List.mem_cons_of_mem _ hw)) lw_privs_ok
    have hml : c.maxLocals = 7 := B.maxLocals_eq (hts0 _ List.mem_cons_self)
    have X₀ : Stand p l e room_1 s m #[Value.ref b] below meth c s₁ [] 0 0 := Stand.of_body B
    have hh0 : s₁.heap = s.heap := by rw [B.state]; rfl
    have hsz : scr.slots.size = xs.length := by rw [← Array.length_toList, hlist, List.length_map]
    have hval : ∀ j : Nat, j < xs.length → scr.slots[j]? = some (.int (xs.getD j 0)) := fun j hj => by
      rw [← Array.getElem?_toList, hlist]
      simp [hj]
    have hbl : b < s.heap.size := (Array.getElem?_eq_some_iff.mp hcb).1
    have hX : va_X b xs.length (fun j => xs.getD j 0) s s.heap := ⟨scr, hcb, hof, hkn, hsz, hval⟩
    have K : W p l e room_1 s m #[Value.ref b] below meth c s₁.heap [] 0 0 (lw_Z below #[Value.ref b] s) (entryFrame m ([Value.ref b] : List Value).toArray 7) := by
      rw [hh0]
      exact whole_start l hflags hbd ⟨B.exec, B.bytes, B.returns, hml, hown, hts, hX, hbl, B.notSynchronized, hgv⟩
    obtain ⟨t, a1, o, b1, b2, b3⟩ := K s₁ rfl X₀
    exact ⟨t, o, a1, b1, b2, b3⟩
theorem lw_pre_spec {args : Array Value} {s : State} (h : (Jvm.Cond.and given_1 narrow_1).before args s = true) (hr : rest_1_c.before args s = true) : ∃ (b : Addr) (xs : List Int32), lw_P b xs args s := by
  have hs := flat_of_before _ h
  have hq := flat_of_before _ hr
  have hc : (Cond.count 1).before args s = true := hs _ (by decide +kernel)
  have harr : (Cond.arrayOf (.arg 0) .int).before args s = true := hs _ (by decide +kernel)
  have hle : (Cond.le (.length (.arg 0)) (.int 3072)).before args s = true := hs _ (by decide +kernel)
  have hlen : (Cond.isInt (.length (.arg 0))).before args s = true := hq _ (by decide +kernel)
  have hall : (Cond.all (.arg 0) (.isInt (.elem (.arg 0) (.index 0)))).before args s = true := hq _ (by decide +kernel)
  obtain ⟨b, xs, hb, hx⟩ := State.ints_of_pre rfl harr hlen hall
  have hsm : xs.length < 2 ^ 31 := hx.choose_spec.2.2.2
  have hev : (Term.length (.arg 0)).eval args s none [] s = some (.int xs.length.toInt32) := hx.length_eval hb
  have hv := Cond.le_ints hev (show (Term.int 3072).eval args s none [] s = some (.int 3072) from rfl)
  have hd : xs.length.toInt32 ≤ 3072 := by
    simpa [Cond.before, Cond.holds, hv] using hle
  have hN : xs.length ≤ 3072 := (Int32.ofNat_le_ofNat hsm (by decide)).mp (show Int32.ofNat xs.length ≤ Int32.ofNat 3072 from hd)
  exact ⟨b, xs, Cond.one_arg hc (show args[0]? = some (.ref b) from hb), hx, hN, h⟩
theorem lw_comes (l : Launch) (hflags : l.flags = flags0) : Comes l x (Jvm.Cond.code x code maxLocals ret :: tables_1) room_1 (fun tb e args s => Calls_1 tb e args s ∧ rest_1 tb e args s ∧ Pre_1 tb e args s)
    (fun _ _ args s o t => lw_Q args s o t) := by
  intro p e ha hc hk s m args below hf hfit hheap happ hpre
  obtain ⟨b, xs, hP⟩ := lw_pre_spec hpre.2.2 hpre.2.1
  obtain ⟨k, o, h1, h2, h3, hQ⟩ := lw_walk l hflags b xs p e ha hc hk s m args below hf ((Spec.applies_iff_loose hf).mp happ).1 hP trivial
  exact ⟨k, o, h1, h2, h3, hQ⟩
theorem lw_frame {s t : State} {o : Outcome} {args : Array Value} (h : Framed s o t [] 1160 12566) :
    Framed s o t (fieldLocs frame_1_writes args s ++ arrayLocs frame_1_arrays args s ++ staticLocs frame_1_statics s) 1160 12566 := h
theorem lw_limb (L : Cond) (hL : ∀ (args : Array Value) (s t : State), L.after args s (.returned (some (.int 1))) t = true) :
    ArmFor flags0 classFile x code maxLocals ret World_1 tables_1 room_1 Calls_1 rest_1 Pre_1
      (fun tb e a s o t => postC L tb e a s o t ∧ Framed s o t (fieldLocs frame_1_writes a s ++ arrayLocs frame_1_arrays a s ++ staticLocs frame_1_statics s) 1160 12566) := by
  intro l hflags _ _ p e ha hc hk s m args below hf hfit hheap happ hpre
  obtain ⟨k, o, h1, h2, h3, rfl, hF⟩ := lw_comes l hflags p e ha hc hk s m args below hf hfit hheap happ hpre
  exact ⟨k, _, h1, h2, h3, hL args s _, lw_frame hF⟩
theorem i_vc : Claimed_1_1 ∧ Claimed_1_2 := ⟨lw_limb limb_1_1 (fun args s t => by simp [limb_1_1, Cond.after, Cond.holds, Cond.value]), lw_limb limb_1_2 (fun args s t => Cond.after_iff.mpr (by
  first | (rw [show limb_1_2 = Cond.eq .result (.int 1) from rfl, Cond.eq_ints (x := 1) (y := 1) rfl rfl]; simp; done) | (simp [limb_1_2, Cond.value, Term.eval]; done)))⟩
