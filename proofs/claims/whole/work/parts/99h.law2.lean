/-! THE LAW: cases with a truth value; grower -/
def csqB (p0 : Nat) (js : List Nat) (jb a b i1 i2 q1 q2 : Nat) : Bool := dq code p0 (.aload_n 1) 1 && agL (p0 + 1) js && agq (p0 + 1 + 6 * js.length) jb && bgq (p0 + 1 + 6 * js.length + 6) && dq code (p0 + 1 + 6 * js.length + 6 + 8) (.invokevirtual i1) 3 && dq code (p0 + 1 + 6 * js.length + 6 + 8 + 3) (.aload_n 2) 1 && agL (p0 + 1 + 6 * js.length + 6 + 8 + 3 + 1) js && agq (p0 + 1 + 6 * js.length + 6 + 8 + 3 + 1 + 6 * js.length) jb && bgq (p0 + 1 + 6 * js.length + 6 + 8 + 3 + 1 + 6 * js.length + 6) && dq code (p0 + 1 + 6 * js.length + 6 + 8 + 3 + 1 + 6 * js.length + 6 + 8) (.invokevirtual i2) 3 &&
  decide (a < nM) && decide (b < nM) && decide (mS a = false) && decide (mS b = false) && decide (mO a = 11) && decide (mO b = 12) && wdq q1 (.methodLink rL i1 (mY a)) && wdq q2 (.methodLink rL i2 (mY b)) && decide (mP a = js.length + 1) && decide (mP b = js.length + 1) && decide (mF a + 1 ≤ 13) && decide (8 + (mL a + 11) + mQ a ≤ 542) && decide (mF b + 1 ≤ 13) && decide (8 + (mL b + 11) + mQ b ≤ 542)
section LAWB
variable {p : Program} {l : Launch} {e : Env} {s : State} {m : MethodId} {below : List Frame} {meth : Method} {c : Code} {D : va_G} {q : Nat → ClassId} {ρ : Nat × Nat × Nat → Nat} {b L oa k : Nat} {xs : Nat → Int32} {H : Heap} {locs : List Loc} {ls : Array Slot} {cl sl pc : Nat} {rest : List Value} {Q : State → Prop} {Z : ST} {F : Nat → Int64}
theorem ints_b (js : List Nat) (y : Int32) : ints (js.map (fun j => vI (xs (6 * k + j))) ++ [vI y]) := fun w hw => by
  rcases List.mem_append.mp hw with hw | hw
  · exact ints_j js w hw
  · exact ⟨y, List.mem_singleton.mp hw⟩
theorem conc_b (js : List Nat) (y : Int32) : ((js.map (fun j => vI (xs (6 * k + j))) ++ [vI y]).map (conc ρ)).reverse = .int y :: (js.map (fun j => Value.int (xs (6 * k + j)))).reverse := by
  rw [List.map_append, conc_j, List.reverse_append]
  rfl
theorem case_rowB (X : LX9 p s m meth c b L xs D q) (hl : lv_has ls 7 (LVL ρ b oa k)) (hI : INV s D q ρ oa H locs Z F) {p0 a b' i1 i2 q1 q2 jb : Nat} {js : List Nat} (hck : csqB p0 js jb a b' i1 i2 q1 q2 = true) (hC : CALL a b' (js.map (fun j => vI (xs (6 * k + j))) ++ [vI (nz (xs (6 * k + jb)))])) (hjs : ∀ j ∈ js, 6 * k + j < L) (hjb : 6 * k + jb < L) (hcl : cl ≤ 1160) (hsl : sl ≤ 12566) {off : Int} (hoff : ((p0 + 1 + 6 * js.length + 6 + 8 + 3 + 1 + 6 * js.length + 6 + 8 + 3 : Nat) : Int) + off = (1703 : Nat)) (hdg : decode code (p0 + 1 + 6 * js.length + 6 + 8 + 3 + 1 + 6 * js.length + 6 + 8 + 3) = .ok (.if_icmp .eq off, 3))
    (kk : ∀ (H1 : Heap) (locs1 : List Loc) (Z1 : ST), INV s D q ρ oa H1 locs1 Z1 F → W p l e room_1 s m #[Value.ref b] below meth c H1 locs1 cl sl Q (F0 m 1703 ls [])) : W p l e room_1 s m #[Value.ref b] below meth c H locs cl sl Q (F0 m p0 ls []) := by
  obtain ⟨v, Z1, Z2, hd1, hd2, hrel⟩ := both hC (ints_b js _) hI.2.2.2.2
  simp only [csqB, Bool.and_eq_true, decide_eq_true_eq] at hck
  obtain ⟨⟨⟨⟨⟨⟨⟨⟨⟨⟨⟨⟨⟨⟨⟨⟨⟨⟨⟨⟨⟨⟨⟨h1, h2⟩, h2a⟩, h2b⟩, h3⟩, h4⟩, h5⟩, h5a⟩, h5b⟩, h6⟩, h7⟩, h8⟩, h9⟩, h10⟩, h11⟩, h12⟩, h13⟩, h14⟩, h15⟩, h16⟩, h17⟩, h18⟩, h19⟩, h20⟩ := hck
  obtain ⟨hP, hD, hS, hR, hZ⟩ := hI
  refine lv_aload_n X.1 X.2.1 (dq_ok h1) rfl (lv_at hl 1 rfl) ?_
  refine args_row X hl hS js _ _ h2 hjs ?_
  refine arg_row X hl hS h2a hjb ?_
  refine bool_row X h2b ?_
  have c1 := one_call (e := e) (l := l) (below := below) (cl := cl) (sl := sl) (Q := Q) (rest := []) (v := vI v) X hl ⟨hP, hD, hS, hR⟩ h7 h9 (Or.inl h11) (wdq_in h13) (by rw [h11]; exact hd1) (ints_b js _) (by rw [List.length_append, List.length_map]; exact h15.symm) h17 h18 hcl hsl (by decide) (dq_ok h3) (fun H1 locs1 hP1 hD1 hS1 hR1 => ?_)
  · rw [conc_b, h11] at c1
    exact c1
  refine lv_aload_n X.1 X.2.1 (dq_ok h4) rfl (lv_at hl 2 rfl) ?_
  refine args_row X hl hS1 js _ _ h5 hjs ?_
  refine arg_row X hl hS1 h5a hjb ?_
  refine bool_row X h5b ?_
  have c2 := one_call (e := e) (l := l) (below := below) (cl := cl) (sl := sl) (Q := Q) (rest := [.int v]) (v := vI v) X hl ⟨hP1, hD1, hS1, hR1⟩ h8 h10 (Or.inr h12) (wdq_in h14) (by rw [h12]; exact hd2) (ints_b js _) (by rw [List.length_append, List.length_map]; exact h16.symm) h19 h20 hcl hsl (show (1 : Nat) ≤ 8 by decide) (dq_ok h6) (fun H2 locs2 hP2 hD2 hS2 hR2 => lv_icmp_eq X.1 X.2.1 hdg hoff (fun _ => kk H2 locs2 Z2 ⟨hP2, hD2, hS2, hR2, hrel⟩) (fun z => absurd rfl z))
  rw [conc_b, h12] at c2
  exact c2
theorem gW_all : GoodIn tbG (va_wsS rL 39 yW wW) := good_G (fun w hw => by
  have hw : w ∈ ([.methodLink rL 39 yW, .static yW, .initialized rL] : List Cond) ++ wW := hw
  rcases List.mem_append.mp hw with hw | hw
  · have hm : w = .methodLink rL 39 yW ∨ w = .static yW ∨ w = .initialized rL := by simpa using hw
    rcases hm with rfl | rfl | rfl
    · exact wdq_in (p := 1344) (by decide +kernel)
    · exact wdq_in (p := 1345) (by decide +kernel)
    · exact wdq_in (p := 121) (by decide +kernel)
  · rcases List.mem_cons.mp hw with rfl | hw
    · exact gW_in
    · exact hw)
theorem m_thrown (Z : ST) : den 163 [vR 12 0 0] Z = some (some (vI (gI Z 12 0 2)), Z) := by rw [dX12_thrown, bX12_thrown_0]
theorem case_grower (hlt : l.stackTraces = false) (X : LX9 p s m meth c b L xs D q) (hl : lv_has ls 7 (LVL ρ b oa k)) (hI : INV s D q ρ oa H locs Z F) (h1 : 6 * k + 1 < L) (h2 : 6 * k + 2 < L) (hcl : cl + 1 ≤ 1160) (hsl : sl + 6 ≤ 12566)
    (kk : ∀ (H1 : Heap) (locs1 : List Loc) (Z1 : ST) (F1 : Nat → Int64) (ls1 : Array Slot), lv_has ls1 7 (LVL ρ b oa k) → INV s D q ρ oa H1 locs1 Z1 F1 → W p l e room_1 s m #[Value.ref b] below meth c H1 locs1 (cl + 1) (sl + 6) Q (F0 m 1703 ls1 [])) : W p l e room_1 s m #[Value.ref b] below meth c H locs cl sl Q (F0 m 376 ls []) := by
  obtain ⟨hP, hD, hS, hR, hZ⟩ := id hI
  obtain ⟨hx, hb, hml, hown, hts, hN, hK, hXW, hX, hbl, hL⟩ := id X
  obtain ⟨k9, v9, w9, Z', hk2, hg, hden, hth, hkv, hrel⟩ := gro_ref hZ (xs (6 * k + 1)) (xs (6 * k + 2))
  have hoa := hD.2 133 _ (w4_at ρ q Z oa F)
  have hDw : ∀ t ∈ cts, s.heap.size ≤ ρ t := fun t ht => by
    obtain ⟨n, hn1, hn2⟩ := wld_get (ρ := ρ) (q := q) (σ := Z) ht
    exact hD.2 n _ (w4_l hn2)
  have hAx : ∀ z, Ax ρ oa H.size z → s.heap.size ≤ z := fun z hz => by
    rcases hz with (⟨t, ht, rfl⟩ | hz) | rfl
    · exact hDw t ht
    · exact Nat.le_trans hS.1 hz
    · exact hoa
  refine lv_aload_n (k := 1) hx hb (show decode code 376 = .ok (.aload_n 1, 1) from dq_ok (by decide +kernel)) rfl (lv_at hl 1 rfl) ?_
  refine arg_row X hl hS (j := 1) (by decide +kernel) h1 ?_
  refine arg_row X hl hS (j := 2) (by decide +kernel) h2 ?_
  refine lv_aload_n (k := 3) hx hb (show decode code 389 = .ok (.aload_n 3, 1) from dq_ok (by decide +kernel)) rfl (lv_at hl 3 rfl) ?_
  refine va_calli (vx_runSW (hh := hhW) (As := [.ref (ρ (11, 0, 0)), .int (xs (6 * k + 1)), .int (xs (6 * k + 2)), .ref oa]) (rest := []) ⟨hx, hb, hml, hown, hts⟩ (mt_W hlt D q ρ hR hg oa F H.size) (vx_cwSW 4 hts gW_all rfl rfl rfl ⟨by decide +kernel, by decide +kernel, by decide +kernel⟩ ⟨Nat.le_of_ble_eq_true rfl, Nat.le_of_ble_eq_true rfl⟩) ⟨preW_blind _ _ _ _ _ _ _ _ _, fun U hU hW => ⟨rfl, by rw [hU], by rw [hU]; exact hP, va_K.moved hW.alike hK, NW.warm hW hN, by rw [hU]; exact XW.warm hW (XW.kept hXW hS.2.1 hAx), hD.weaken (fun _ _ _ _ => trivial)⟩⟩ rfl rfl hl.1 rfl (lv_room (by decide)) (show decode code 390 = .ok (.invokestatic 39, 3) from dq_ok (by decide +kernel)) ⟨hcl, hsl⟩) hS (fun z _ h => hAx z h) hAx (fun r F' t H1 locs1 ht hal hp hB hz1 hk1 hS1 => ?_)
  obtain ⟨rfl, hF0⟩ := hp
  have hP1 : va_P D cl13 (w4 ρ q Z oa F') H1 := by rw [← ht]; exact hB
  have hD1 : va_D (fun x => s.heap.size ≤ x) (w4 ρ q Z oa F') := by rw [← w4_set ρ q Z oa F F']; exact va_D.set hD (w4_at ρ q Z oa F)
  refine lv_istore hx hb (show decode code 393 = .ok (.istore 5, 2) from dq_ok (by decide +kernel)) hl (by decide) (lv' := (5, .int (nI k9)) :: LVL ρ b oa k) rfl (fun ls hl5 => ?_)
  have hl : lv_has ls 7 (LVL ρ b oa k) := lv_sub hl5 [1, 2, 3, 4, 5] rfl
  refine lv_aload_n (k := 2) hx hb (show decode code 395 = .ok (.aload_n 2, 1) from dq_ok (by decide +kernel)) rfl (lv_at hl 2 rfl) ?_
  refine arg_row X hl hS1 (j := 1) (by decide +kernel) h1 ?_
  refine arg_row X hl hS1 (j := 2) (by decide +kernel) h2 ?_
  have i2 : ints [vI (xs (6 * k + 1)), vI (xs (6 * k + 2))] := fun w hw => by
    rcases List.mem_cons.mp hw with rfl | hw
    · exact ⟨_, rfl⟩
    · exact ⟨_, List.mem_singleton.mp hw⟩
  refine one_call (a := 228) (i := 44) (as := [vI (xs (6 * k + 1)), vI (xs (6 * k + 2))]) (v := vI w9) (Z' := Z') (rest := []) X hl ⟨hP1, hD1, hS1, hR⟩ (by decide +kernel) (by decide +kernel) (Or.inr (by decide +kernel)) (wdq_in (p := 1835) (w := .methodLink rL 44 (mY 228)) (by decide +kernel)) hden i2 rfl (by decide +kernel) (by decide +kernel) hcl hsl (by decide) (show decode code 408 = .ok (.invokevirtual 44, 3) from dq_ok (by decide +kernel)) (fun H2 locs2 hP2 hD2 hS2 hR2 => ?_)
  refine lv_istore hx hb (show decode code 411 = .ok (.istore 6, 2) from dq_ok (by decide +kernel)) hl5 (by decide) (lv' := (6, .int w9) :: (5, .int (nI k9)) :: LVL ρ b oa k) rfl (fun ls hl6 => ?_)
  have hl : lv_has ls 7 (LVL ρ b oa k) := lv_sub hl6 [2, 3, 4, 5, 6] rfl
  refine lv_aload_n (k := 2) hx hb (show decode code 413 = .ok (.aload_n 2, 1) from dq_ok (by decide +kernel)) rfl (lv_at hl 2 rfl) ?_
  refine one_call (a := 163) (i := 45) (as := []) (v := vI (gI Z' 12 0 2)) (Z' := Z') (rest := []) X hl ⟨hP2, hD2, hS2, hR2⟩ (by decide +kernel) (by decide +kernel) (Or.inr (by decide +kernel)) (wdq_in (p := 1698) (w := .methodLink rL 45 (mY 163)) (by decide +kernel)) (m_thrown Z') (fun w hw => absurd hw List.not_mem_nil) rfl (by decide +kernel) (by decide +kernel) hcl hsl (by decide) (show decode code 414 = .ok (.invokevirtual 45, 3) from dq_ok (by decide +kernel)) (fun H3 locs3 hP3 hD3 hS3 hR3 => ?_)
  rw [show conc ρ (vI (gI Z' 12 0 2)) = .int (gI Z' 12 0 2) from rfl, hth]
  have hI3 : INV s D q ρ oa H3 locs3 Z' F' := ⟨hP3, hD3, hS3, hR3, hrel⟩
  refine lv_iload hx hb (show decode code 417 = .ok (.iload 5, 2) from dq_ok (by decide +kernel)) (lv_at hl6 1 rfl) ?_
  refine lv_icmp_eq (off := 5) hx hb (show decode code 419 = .ok (.if_icmp .eq 5, 3) from dq_ok (by decide +kernel)) (tgt := 424) rfl (fun _ => ?_) (fun z => absurd rfl z)
  refine lv_iload hx hb (show decode code 424 = .ok (.iload 5, 2) from dq_ok (by decide +kernel)) (lv_at hl6 1 rfl) ?_
  have out : W p l e room_1 s m #[Value.ref b] below meth c H3 locs3 (cl + 1) (sl + 6) Q (F0 m 441 ls []) := lv_goto (off := 1262) hx hb (show decode code 441 = .ok (.goto 1262, 3) from dq_ok (by decide +kernel)) (tgt := 1703) rfl (kk H3 locs3 Z' F' ls hl hI3)
  refine lv_if_ne (off := 15) hx hb (show decode code 426 = .ok (.ifCond .ne 15, 3) from dq_ok (by decide +kernel)) (tgt := 441) rfl (fun _ => out) (fun h0 => ?_)
  have hk0 : k9 = 0 := (nI_eq (a := k9) (b := 0) (by omega) (by decide)).mp h0
  refine lv_aload_n (k := 3) hx hb (show decode code 429 = .ok (.aload_n 3, 1) from dq_ok (by decide +kernel)) rfl (lv_at hl 3 rfl) ?_
  refine lv_iconst (n := 0) (v := 0) hx hb (show decode code 430 = .ok (.iconst 0, 1) from dq_ok (by decide +kernel)) rfl ?_
  refine va_lald hx hb hK hP3 133 1 (w4_at ρ q Z' oa F') rfl (by unfold vp_in; decide) (show decode code 431 = .ok (.laload, 1) from dq_ok (by decide +kernel)) ?_
  refine lv_iload hx hb (show decode code 432 = .ok (.iload 6, 2) from dq_ok (by decide +kernel)) (lv_at hl6 0 rfl) ?_
  refine lv_i2l (v := Int32.toInt64 w9) hx hb (show decode code 434 = .ok (.i2l, 1) from dq_ok (by decide +kernel)) rfl ?_
  refine W.lcmp hx hb (show decode code 435 = .ok (.lcmp, 1) from dq_ok (by decide +kernel)) ?_
  have hc0 : lg_cmp (F' (Int32.toNatClampNeg 0)) (Int32.toInt64 w9) = 0 := by
    rw [show Int32.toNatClampNeg 0 = 0 from rfl, hF0 hk0, hkv hk0]
    unfold lg_cmp
    simp
  exact lv_if_eq (off := 5) hx hb (show decode code 436 = .ok (.ifCond .eq 5, 3) from dq_ok (by decide +kernel)) (tgt := 441) rfl (fun _ => out) (fun z => absurd hc0 z)
end LAWB
