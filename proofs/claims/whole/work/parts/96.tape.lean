/-! CONSTRUCTORS: the tape, which learns its words -/
def kc_9_0 : List INS := [(0, 0, 0, 0, 0, 0), (14, 3, 0, 0, 159, 0)]
def kc_9_1 : List INS := [(0, 0, 0, 0, 0, 0), (5, 0, 0, 19, 0, 1), (6, 11, 9, 0, 209, 0)]
def kc_9_2 : List INS := [(0, 0, 0, 0, 0, 0), (5, 0, 2, 700, 0, 2), (6, 15, 9, 1, 210, 0)]
def kc_9_3 : List INS := [(0, 0, 0, 0, 0, 0), (1, 0, 0, 0, 0, 0), (6, 19, 9, 2, 211, 0)]
def kc_9_4 : List INS := [(0, 0, 0, 0, 0, 0), (1, 0, 0, 0, 0, 0), (6, 23, 9, 3, 212, 0)]
def kc_9_5 : List INS := [(0, 0, 0, 0, 0, 0), (1, 0, 0, 0, 0, 0), (6, 26, 9, 4, 213, 0)]
def kc_9_6 : List INS := [(0, 0, 0, 0, 0, 0), (1, 0, 0, 0, 0, 0), (6, 29, 9, 5, 215, 0)]
def kc_9_7 : List INS := [(0, 0, 0, 0, 0, 0), (1, 0, 0, 0, 0, 0), (6, 32, 9, 6, 217, 0)]
def kc_9_8 : List INS := [(0, 0, 0, 0, 0, 0), (1, 0, 0, 0, 0, 0), (6, 35, 9, 7, 219, 0)]
def kj9 : List (List INS) := [kc_9_0, kc_9_1, kc_9_2, kc_9_3, kc_9_4, kc_9_5, kc_9_6, kc_9_7, kc_9_8]
theorem ch_9_0 (q : Nat → ClassId) (h b : Nat)  (K : CNT) (hk : K [(h, .inr (9, [.null, .null, .int 0, .int 0, .int 0, .int 0, .int 0, .int 0]))] [] 0 0) : cwp q 2 719 b (cwT q) ccT csT K kc_9_0 (w1I 9 h) [] 0 0 := hk
theorem ch_9_1 (q : Nat → ClassId) (h b : Nat)  (K : CNT) (hk : ∀ (a0 : Nat), K [(h, .inr (9, [.ref a0, .null, .int 0, .int 0, .int 0, .int 0, .int 0, .int 0])), (a0, .inl (q 0, 19, .inl (fun _ => 0)))] [] 1 19) : cwp q 2 719 b (cwT q) ccT csT K kc_9_1 [(h, .inr (9, [.null, .null, .int 0, .int 0, .int 0, .int 0, .int 0, .int 0]))] [] 0 0 := fun a0 => hk a0
theorem ch_9_2 (q : Nat → ClassId) (h b : Nat) (a0 : Nat) (K : CNT) (hk : ∀ (a1 : Nat), K [(h, .inr (9, [.ref a0, .ref a1, .int 0, .int 0, .int 0, .int 0, .int 0, .int 0])), (a0, .inl (q 0, 19, .inl (fun _ => 0))), (a1, .inl (q 2, 700, .inl (fun _ => 0)))] [] 2 719) : cwp q 2 719 b (cwT q) ccT csT K kc_9_2 [(h, .inr (9, [.ref a0, .null, .int 0, .int 0, .int 0, .int 0, .int 0, .int 0])), (a0, .inl (q 0, 19, .inl (fun _ => 0)))] [] 1 19 := fun a1 => hk a1
theorem ch_9_3 (q : Nat → ClassId) (h b : Nat) (a0 : Nat) (a1 : Nat) (K : CNT) (hk : K [(h, .inr (9, [.ref a0, .ref a1, .int (0), .int 0, .int 0, .int 0, .int 0, .int 0])), (a0, .inl (q 0, 19, .inl (fun _ => 0))), (a1, .inl (q 2, 700, .inl (fun _ => 0)))] [] 2 719) : cwp q 2 719 b (cwT q) ccT csT K kc_9_3 [(h, .inr (9, [.ref a0, .ref a1, .int 0, .int 0, .int 0, .int 0, .int 0, .int 0])), (a0, .inl (q 0, 19, .inl (fun _ => 0))), (a1, .inl (q 2, 700, .inl (fun _ => 0)))] [] 2 719 := hk
theorem ch_9_4 (q : Nat → ClassId) (h b : Nat) (a0 : Nat) (a1 : Nat) (K : CNT) (hk : K [(h, .inr (9, [.ref a0, .ref a1, .int (0), .int (0), .int 0, .int 0, .int 0, .int 0])), (a0, .inl (q 0, 19, .inl (fun _ => 0))), (a1, .inl (q 2, 700, .inl (fun _ => 0)))] [] 2 719) : cwp q 2 719 b (cwT q) ccT csT K kc_9_4 [(h, .inr (9, [.ref a0, .ref a1, .int (0), .int 0, .int 0, .int 0, .int 0, .int 0])), (a0, .inl (q 0, 19, .inl (fun _ => 0))), (a1, .inl (q 2, 700, .inl (fun _ => 0)))] [] 2 719 := hk
theorem ch_9_5 (q : Nat → ClassId) (h b : Nat) (a0 : Nat) (a1 : Nat) (K : CNT) (hk : K [(h, .inr (9, [.ref a0, .ref a1, .int (0), .int (0), .int (0), .int 0, .int 0, .int 0])), (a0, .inl (q 0, 19, .inl (fun _ => 0))), (a1, .inl (q 2, 700, .inl (fun _ => 0)))] [] 2 719) : cwp q 2 719 b (cwT q) ccT csT K kc_9_5 [(h, .inr (9, [.ref a0, .ref a1, .int (0), .int (0), .int 0, .int 0, .int 0, .int 0])), (a0, .inl (q 0, 19, .inl (fun _ => 0))), (a1, .inl (q 2, 700, .inl (fun _ => 0)))] [] 2 719 := hk
theorem ch_9_6 (q : Nat → ClassId) (h b : Nat) (a0 : Nat) (a1 : Nat) (K : CNT) (hk : K [(h, .inr (9, [.ref a0, .ref a1, .int (0), .int (0), .int (0), .int (0), .int 0, .int 0])), (a0, .inl (q 0, 19, .inl (fun _ => 0))), (a1, .inl (q 2, 700, .inl (fun _ => 0)))] [] 2 719) : cwp q 2 719 b (cwT q) ccT csT K kc_9_6 [(h, .inr (9, [.ref a0, .ref a1, .int (0), .int (0), .int (0), .int 0, .int 0, .int 0])), (a0, .inl (q 0, 19, .inl (fun _ => 0))), (a1, .inl (q 2, 700, .inl (fun _ => 0)))] [] 2 719 := hk
theorem ch_9_7 (q : Nat → ClassId) (h b : Nat) (a0 : Nat) (a1 : Nat) (K : CNT) (hk : K [(h, .inr (9, [.ref a0, .ref a1, .int (0), .int (0), .int (0), .int (0), .int (0), .int 0])), (a0, .inl (q 0, 19, .inl (fun _ => 0))), (a1, .inl (q 2, 700, .inl (fun _ => 0)))] [] 2 719) : cwp q 2 719 b (cwT q) ccT csT K kc_9_7 [(h, .inr (9, [.ref a0, .ref a1, .int (0), .int (0), .int (0), .int (0), .int 0, .int 0])), (a0, .inl (q 0, 19, .inl (fun _ => 0))), (a1, .inl (q 2, 700, .inl (fun _ => 0)))] [] 2 719 := hk
theorem ch_9_8 (q : Nat → ClassId) (h b : Nat) (a0 : Nat) (a1 : Nat) (K : CNT) (hk : K [(h, .inr (9, [.ref a0, .ref a1, .int (0), .int (0), .int (0), .int (0), .int (0), .int (0)])), (a0, .inl (q 0, 19, .inl (fun _ => 0))), (a1, .inl (q 2, 700, .inl (fun _ => 0)))] [] 2 719) : cwp q 2 719 b (cwT q) ccT csT K kc_9_8 [(h, .inr (9, [.ref a0, .ref a1, .int (0), .int (0), .int (0), .int (0), .int (0), .int 0])), (a0, .inl (q 0, 19, .inl (fun _ => 0))), (a1, .inl (q 2, 700, .inl (fun _ => 0)))] [] 2 719 := hk
theorem tpZ_s : ∀ i, i < 97 → tpZ (i + 1) = tpS (tpZ i) (tpL.getD i 0) := fun i hi => by
  have hl : tpL.length = 97 := rfl
  have h1 : tpL[i]? = some (tpL.getD i 0) := by
    rw [List.getD_eq_getElem?_getD, List.getElem?_eq_getElem (by omega)]
    rfl
  unfold tpZ
  rw [List.take_add_one, h1, List.foldl_append]
  rfl
theorem tp_w : ∀ i, i < 97 → (tpZ i).1 < 19 := by decide +kernel
theorem tp_32 : ∀ i, i < 97 → (tpB i = 32 ↔ tpL.getD i 0 = 32) ∧ tpL.getD i 0 < 200 := by decide +kernel
def tpWs (q : Nat → ClassId) (h : Nat) (u : Nat → Nat) (F : Nat → Int32) : va_W := [(h, .inr (9, [.ref (u 0), .ref (u 1), .int 0, .int 0, .int 0, .int 0, .int 0, .int 0])), (u 0, .inl (q 0, 19, .inl F)), (u 1, .inl (q 2, 700, .inl (fun _ => 0)))]
def endT (q : Nat → ClassId) (h : Nat) : CNT := fun ws st cl sl => st = [] ∧ cl = 2 ∧ sl = 719 ∧ ∃ u, ws = tpWs q h u (fun _ => 0)
theorem wk_9 (q : Nat → ClassId) (h b : Nat) : cwp q 2 719 b (cwT q) ccT csT (endT q h) kj9.flatten (w1I 9 h) [] 0 0 := by
  rw [cwp_flat]
  unfold kj9
  refine cwf_c (ch_9_0 q h b  _ ?_)
  refine cwf_c (ch_9_1 q h b  _ ?_)
  intro a0
  refine cwf_c (ch_9_2 q h b a0 _ ?_)
  intro a1
  refine cwf_c (ch_9_3 q h b a0 a1 _ ?_)
  refine cwf_c (ch_9_4 q h b a0 a1 _ ?_)
  refine cwf_c (ch_9_5 q h b a0 a1 _ ?_)
  refine cwf_c (ch_9_6 q h b a0 a1 _ ?_)
  refine cwf_c (ch_9_7 q h b a0 a1 _ ?_)
  refine cwf_c (ch_9_8 q h b a0 a1 _ ?_)
  exact ⟨rfl, rfl, rfl, (fun i => [a0, a1].getD i 0), rfl⟩
theorem ck_9 : ckL (iC 9) 9 (decide (iArg 9 = 1)) (iF 9) (iQ 9) iF iQ [] 0 kj9.flatten = true := by decide +kernel
section TPL
variable {p : Program} {l : Launch} {e : Env} {s : State} {m : MethodId} {args : Array Value} {below : List Frame} {meth : Method} {c : Code} {D : va_G} {q : Nat → ClassId} {A : Nat → Prop} {h b sz : Nat} {u : Nat → Nat}
theorem tape_loop (X : CI p s m args meth c D q A 9 (iC 9) (iL 9)) (hr : meth.sig.returnType = none) (hlocks : meth.locks = false) {Q : State → Prop} (fin : ∀ (H : Heap) (locs : List Loc) (ls : Array Slot), va_P D cl13 (tpWs q h u (tpZ 97).2.2.2) H → va_D A (tpWs q h u (tpZ 97).2.2.2) → va_S A s.heap H locs → W p l e (rmI 9) s m args below meth c H locs 2 719 Q (F0 m 137 ls [])) :
    ∀ (n i : Nat), i + n = 97 → ∀ (H : Heap) (locs : List Loc) (ls : Array Slot), lv_has ls 6 [(0, .ref h), (1, .int (nI (tpZ i).1)), (2, .int (nI (tpZ i).2.1)), (3, .int (tpZ i).2.2.1), (4, .int (nI i))] → va_P D cl13 (tpWs q h u (tpZ i).2.2.2) H → va_D A (tpWs q h u (tpZ i).2.2.2) → va_S A s.heap H locs → W p l e (rmI 9) s m args below meth c H locs 2 719 Q (F0 m 60 ls []) := by
  obtain ⟨hx, hb, hml, hown, hts, hN, hI, ⟨a, v, hR, hSW⟩, hK, hA, hin⟩ := X
  have hAn : ∀ (H : Heap) (locs : List Loc), va_S A s.heap H locs → ∀ x, va_A [] H.size x → A x := fun H locs hS x hx => by
    rcases hx with ⟨j, e1, hj⟩ | hx
    · cases hj
    · exact hA x (Nat.le_trans hS.1 hx)
  have hkp : ∀ (H H1 : Heap), (∀ x : Nat, x < H.size → ¬ va_A [] H.size x → H1[x]? = H[x]?) → ∀ ws : va_W, va_P D cl13 ws H → va_P D cl13 ws H1 := fun H H1 hk ws hP => hP.kept (fun k x hx => hk x.1 (hP k x hx).lt (fun z => by
    rcases z with ⟨j, e1, hj⟩ | z
    · cases hj
    · have := (hP k x hx).lt
      omega))
  have hpre : ∀ (H : Heap) (locs : List Loc), va_S A s.heap H locs → ∀ U : State, U.heap = H → s.WarmedH U.vm → SW a v (va_A [] H.size) U U.heap := fun H locs hS U hU hW => by
    rw [hU]
    exact SW.moved hW.alike ((hSW.kept hS.2.1).narrow (hAn H locs hS))
  intro n
  induction n with
  | zero =>
    intro i hi H locs ls hl hP hD hS
    have hi : i = 97 := by omega
    subst hi
    refine lv_iload hx hb (show decode (iC 9) 60 = .ok (.iload 4, 2) from dq_ok (by decide +kernel)) (lv_at hl 4 rfl) ?_
    refine va_ldcS hx hb hown hR (show decode (iC 9) 62 = .ok (.ldc 38, 2) from dq_ok (by decide +kernel)) ?_
    refine va_calli (va_runV (As := []) (rest := [.int (nI 97)]) (C := jS) ⟨hx, hb, hml, hown, hts⟩ (j_L l a v H.size) ⟨callB_of 0 hts gjL rfl rfl rfl (hts _ (wdq_in (p := 124) (w := .initialized "java/lang/String") (by decide +kernel))) (hts _ (wdq_in (p := 161) (w := .methodLink RX9 40 yjL) (by decide +kernel))) ⟨by decide +kernel, by decide +kernel, by decide +kernel⟩ ⟨Nat.le_of_ble_eq_true rfl, Nat.le_of_ble_eq_true rfl⟩, (hts _ (wdq_in (p := 162) (w := .instanceMethod yjL) (by decide +kernel))), (hts _ (wdq_in (p := 163) (w := .selects jS yjL yjL) (by decide +kernel)))⟩ ⟨preJ_blind _ _ _ _, ⟨hSW.1.choose, by rw [hS.2.1 a (Array.getElem?_eq_some_iff.mp hSW.1.choose_spec.1).1 hSW.1.choose_spec.2.2.2]; exact hSW.1.choose_spec.1, hSW.1.choose_spec.2.1, hSW.1.choose_spec.2.2.1⟩, fun U hU hW => ⟨rfl, by rw [hU], hpre H locs hS U hU hW⟩⟩ rfl rfl hl.1 rfl (lv_room (by decide)) (show decode (iC 9) 64 = .ok (.invokevirtual 40, 3) from dq_ok (by decide +kernel)) ⟨Nat.le_refl _, Nat.le_refl _⟩) hS (fun x _ z => hAn H locs hS x z) (hAn H locs hS) (fun r u1 t H1 locs1 ht hvm hp _ hz1 hk1 hS1 => ?_)
    subst hp
    exact lv_icmp_ge (off := 70) hx hb (show decode (iC 9) 67 = .ok (.if_icmp .ge 70, 3) from dq_ok (by decide +kernel)) (tgt := 137) rfl (fun _ => fin H1 locs1 ls (hkp H H1 hk1 _ hP) hD hS1) (fun z => absurd (Int32.not_lt.mp (show ¬ nI 97 < 97 by decide)) z)
  | succ n ih =>
    intro i hi H locs ls hl hP hD hS
    have hi97 : i < 97 := by omega
    have hw := tp_w i hi97
    obtain ⟨h32, hx2⟩ := tp_32 i hi97
    have hs := tpZ_s i hi97
    refine lv_iload hx hb (show decode (iC 9) 60 = .ok (.iload 4, 2) from dq_ok (by decide +kernel)) (lv_at hl 4 rfl) ?_
    refine va_ldcS hx hb hown hR (show decode (iC 9) 62 = .ok (.ldc 38, 2) from dq_ok (by decide +kernel)) ?_
    refine va_calli (va_runV (As := []) (rest := [.int (nI i)]) (C := jS) ⟨hx, hb, hml, hown, hts⟩ (j_L l a v H.size) ⟨callB_of 0 hts gjL rfl rfl rfl (hts _ (wdq_in (p := 124) (w := .initialized "java/lang/String") (by decide +kernel))) (hts _ (wdq_in (p := 161) (w := .methodLink RX9 40 yjL) (by decide +kernel))) ⟨by decide +kernel, by decide +kernel, by decide +kernel⟩ ⟨Nat.le_of_ble_eq_true rfl, Nat.le_of_ble_eq_true rfl⟩, (hts _ (wdq_in (p := 162) (w := .instanceMethod yjL) (by decide +kernel))), (hts _ (wdq_in (p := 163) (w := .selects jS yjL yjL) (by decide +kernel)))⟩ ⟨preJ_blind _ _ _ _, ⟨hSW.1.choose, by rw [hS.2.1 a (Array.getElem?_eq_some_iff.mp hSW.1.choose_spec.1).1 hSW.1.choose_spec.2.2.2]; exact hSW.1.choose_spec.1, hSW.1.choose_spec.2.1, hSW.1.choose_spec.2.2.1⟩, fun U hU hW => ⟨rfl, by rw [hU], hpre H locs hS U hU hW⟩⟩ rfl rfl hl.1 rfl (lv_room (Nat.le_of_ble_eq_true rfl)) (show decode (iC 9) 64 = .ok (.invokevirtual 40, 3) from dq_ok (by decide +kernel)) ⟨Nat.le_refl _, Nat.le_refl _⟩) hS (fun x _ z => hAn H locs hS x z) (hAn H locs hS) (fun r u1 t H1 locs1 ht hvm hp _ hz1 hk1 hS1 => ?_)
    subst hp
    refine lv_icmp_ge (off := 70) hx hb (show decode (iC 9) 67 = .ok (.if_icmp .ge 70, 3) from dq_ok (by decide +kernel)) (tgt := 137) rfl (fun z => absurd (nI_lt (b := 97) hi97 (by decide)) (Int32.not_lt.mpr z)) (fun _ => ?_)
    refine lv_iload_n (k := 1) hx hb (dq_ok (by decide +kernel)) rfl (lv_at hl 1 rfl) ?_
    refine lv_bipush (n := 19) (v := 19) hx hb (dq_ok (by decide +kernel)) (by decide) ?_
    refine lv_icmp_ge (off := 64) hx hb (dq_ok (by decide +kernel)) (tgt := 137) rfl (fun z => absurd (nI_lt (b := 19) hw (by decide)) (Int32.not_lt.mpr z)) (fun _ => ?_)
    refine va_ldcS hx hb hown hR (show decode (iC 9) 76 = .ok (.ldc 38, 2) from dq_ok (by decide +kernel)) ?_
    refine lv_iload hx hb (show decode (iC 9) 78 = .ok (.iload 4, 2) from dq_ok (by decide +kernel)) (lv_at hl 4 rfl) ?_
    have hP1 := hkp H H1 hk1 _ hP
    refine va_calli (va_runV (As := [.int (nI i)]) (rest := []) (C := jS) ⟨hx, hb, hml, hown, hts⟩ (j_A l a v H1.size hi97) ⟨callB_of 1 hts gjA rfl rfl rfl (hts _ (wdq_in (p := 124) (w := .initialized "java/lang/String") (by decide +kernel))) (hts _ (wdq_in (p := 171) (w := .methodLink RX9 45 yjA) (by decide +kernel))) ⟨by decide +kernel, by decide +kernel, by decide +kernel⟩ ⟨Nat.le_of_ble_eq_true rfl, Nat.le_of_ble_eq_true rfl⟩, (hts _ (wdq_in (p := 172) (w := .instanceMethod yjA) (by decide +kernel))), (hts _ (wdq_in (p := 173) (w := .selects jS yjA yjA) (by decide +kernel)))⟩ ⟨preJ_blind _ _ _ _, ⟨hSW.1.choose, by rw [hS1.2.1 a (Array.getElem?_eq_some_iff.mp hSW.1.choose_spec.1).1 hSW.1.choose_spec.2.2.2]; exact hSW.1.choose_spec.1, hSW.1.choose_spec.2.1, hSW.1.choose_spec.2.2.1⟩, fun U hU hW => ⟨rfl, by rw [hU], hpre H1 locs1 hS1 U hU hW⟩⟩ rfl rfl hl.1 rfl (lv_room (by decide)) (show decode (iC 9) 80 = .ok (.invokevirtual 45, 3) from dq_ok (by decide +kernel)) ⟨Nat.le_refl _, Nat.le_refl _⟩) hS1 (fun x _ z => hAn H1 locs1 hS1 x z) (hAn H1 locs1 hS1) (fun r u2 t2 H2 locs2 ht2 hvm2 hp2 _ hz2 hk2 hS2 => ?_)
    subst hp2
    have hP2 := hkp H1 H2 hk2 _ hP1
    refine lv_istore hx hb (show decode (iC 9) 83 = .ok (.istore 5, 2) from dq_ok (by decide +kernel)) hl (by decide) (lv' := (5, .int (tpB i)) :: [(0, .ref h), (1, .int (nI (tpZ i).1)), (2, .int (nI (tpZ i).2.1)), (3, .int (tpZ i).2.2.1), (4, .int (nI i))]) rfl (fun ls hl => ?_)
    refine lv_iload hx hb (show decode (iC 9) 85 = .ok (.iload 5, 2) from dq_ok (by decide +kernel)) (lv_at hl 0 rfl) ?_
    refine lv_bipush (n := 32) (v := 32) hx hb (dq_ok (by decide +kernel)) (by decide) ?_
    refine lv_icmp_ne (off := 27) hx hb (dq_ok (by decide +kernel)) (tgt := 116) rfl (fun hne => ?_) (fun heq => ?_)
    · have hn32 : ¬ tpL.getD i 0 = 32 := fun z => hne (h32.mpr z)
      have e1 : tpZ (i + 1) = ((tpZ i).1, (tpZ i).2.1 + 1, (tpZ i).2.2.1 <<< ((5 : Int32) &&& 31) ||| (tpB i - 97 + 1), (tpZ i).2.2.2) := by
        rw [hs]
        unfold tpS
        rw [if_neg hn32]
        rfl
      refine lv_iload_n (k := 3) hx hb (show decode (iC 9) 116 = .ok (.iload_n 3, 1) from dq_ok (by decide +kernel)) rfl (lv_at hl 4 rfl) ?_
      refine lv_iconst (n := 5) (v := 5) hx hb (show decode (iC 9) 117 = .ok (.iconst 5, 1) from dq_ok (by decide +kernel)) rfl ?_
      refine lv_ishl hx hb (dq_ok (by decide +kernel)) ?_
      refine lv_iload hx hb (show decode (iC 9) 119 = .ok (.iload 5, 2) from dq_ok (by decide +kernel)) (lv_at hl 0 rfl) ?_
      refine lv_bipush (n := 97) (v := 97) hx hb (show decode (iC 9) 121 = .ok (.bipush 97, 2) from dq_ok (by decide +kernel)) (by decide) ?_
      refine lv_isub hx hb (dq_ok (by decide +kernel)) ?_
      refine lv_iconst (n := 1) (v := 1) hx hb (show decode (iC 9) 124 = .ok (.iconst 1, 1) from dq_ok (by decide +kernel)) rfl ?_
      refine lv_iadd hx hb (dq_ok (by decide +kernel)) ?_
      refine lv_ior hx hb (dq_ok (by decide +kernel)) ?_
      refine lv_istore_n (k := 3) hx hb (show decode (iC 9) 127 = .ok (.istore_n 3, 1) from dq_ok (by decide +kernel)) rfl hl (by decide) (lv' := [(3, .int ((tpZ i).2.2.1 <<< ((5 : Int32) &&& 31) ||| (tpB i - 97 + 1))), (5, .int (tpB i)), (0, .ref h), (1, .int (nI (tpZ i).1)), (2, .int (nI (tpZ i).2.1)), (4, .int (nI i))]) rfl (fun ls hl => ?_)
      refine lv_iinc (k := 4) (v := nI ((tpZ i).2.1 + 1)) hx hb (show decode (iC 9) 128 = .ok (.iinc 2 1, 3) from dq_ok (by decide +kernel)) hl rfl (by rw [show Int32.ofInt 1 = 1 from rfl, nI_S]) (by decide) (lv' := [(2, .int (nI ((tpZ i).2.1 + 1))), (3, .int ((tpZ i).2.2.1 <<< ((5 : Int32) &&& 31) ||| (tpB i - 97 + 1))), (5, .int (tpB i)), (0, .ref h), (1, .int (nI (tpZ i).1)), (4, .int (nI i))]) rfl (fun ls hl => ?_)
      refine lv_iinc (k := 5) (v := nI (i + 1)) hx hb (show decode (iC 9) 131 = .ok (.iinc 4 1, 3) from dq_ok (by decide +kernel)) hl rfl (by rw [show Int32.ofInt 1 = 1 from rfl, nI_S]) (by decide) (lv' := [(4, .int (nI (i + 1))), (2, .int (nI ((tpZ i).2.1 + 1))), (3, .int ((tpZ i).2.2.1 <<< ((5 : Int32) &&& 31) ||| (tpB i - 97 + 1))), (5, .int (tpB i)), (0, .ref h), (1, .int (nI (tpZ i).1))]) rfl (fun ls hl => ?_)
      refine lv_goto (off := -74) hx hb (show decode (iC 9) 134 = .ok (.goto (-74), 3) from dq_ok (by decide +kernel)) (tgt := 60) rfl ?_
      refine ih (i + 1) (by omega) H2 locs2 ls ?_ (by rw [e1]; exact hP2) (by rw [e1]; exact hD) hS2
      rw [e1]
      exact lv_sub hl [4, 5, 1, 2, 0] rfl
    · have h32' : tpL.getD i 0 = 32 := h32.mp heq
      have e1 : tpZ (i + 1) = ((tpZ i).1 + 1, 0, 0, upd (tpZ i).2.2.2 (tpZ i).1 ((tpZ i).2.2.1 <<< ((5 * (6 - nI (tpZ i).2.1) : Int32) &&& 31))) := by
        rw [hs]
        unfold tpS
        rw [if_pos h32']
      have hin' : vp_in (nI (tpZ i).1) 19 := fun z => by
        rw [nI_clamp (by omega)] at z
        rcases z with z | z
        · exact absurd z (nI_nlt (b := 0) (by omega) (by omega))
        · omega
      refine lv_aload_n (k := 0) hx hb (show decode (iC 9) 92 = .ok (.aload_n 0, 1) from dq_ok (by decide +kernel)) rfl (lv_at hl 1 rfl) ?_
      refine va_get (D := D) (ci := 9) (v := .ref (u 0)) (C := RX9) (T := TX9) (N := 8) hx hb hts (cl_in 9 (by decide)) hown hK hP2 0 rfl rfl 0 (by decide) (hts _ (wdq_in (p := 209) (w := .fieldLink RX9 11 RX9 "words" "[I") (by decide +kernel))) (fun _ h9 => h9) rfl (show decode (iC 9) 93 = .ok (.getfield 11, 3) from dq_ok (by decide +kernel)) ?_
      refine lv_iload_n (k := 1) hx hb (show decode (iC 9) 96 = .ok (.iload_n 1, 1) from dq_ok (by decide +kernel)) rfl (lv_at hl 2 rfl) ?_
      refine lv_iload_n (k := 3) hx hb (show decode (iC 9) 97 = .ok (.iload_n 3, 1) from dq_ok (by decide +kernel)) rfl (lv_at hl 4 rfl) ?_
      refine lv_iconst (n := 5) (v := 5) hx hb (show decode (iC 9) 98 = .ok (.iconst 5, 1) from dq_ok (by decide +kernel)) rfl ?_
      refine lv_bipush (n := 6) (v := 6) hx hb (show decode (iC 9) 99 = .ok (.bipush 6, 2) from dq_ok (by decide +kernel)) (by decide) ?_
      refine lv_iload_n (k := 2) hx hb (show decode (iC 9) 101 = .ok (.iload_n 2, 1) from dq_ok (by decide +kernel)) rfl (lv_at hl 3 rfl) ?_
      refine lv_isub hx hb (dq_ok (by decide +kernel)) ?_
      refine lv_imul hx hb (dq_ok (by decide +kernel)) ?_
      refine lv_ishl hx hb (dq_ok (by decide +kernel)) ?_
      refine va_iast hx hb hK hP2 hD hS2 1 0 rfl rfl hin' (dq_ok (by decide +kernel)) (fun H3 locs3 hP3 hD3 hS3 => ?_)
      rw [nI_clamp (by omega)] at hP3 hD3
      refine lv_iinc (k := 2) (v := nI ((tpZ i).1 + 1)) hx hb (show decode (iC 9) 106 = .ok (.iinc 1 1, 3) from dq_ok (by decide +kernel)) hl rfl (by rw [show Int32.ofInt 1 = 1 from rfl, nI_S]) (by decide) (lv' := [(1, .int (nI ((tpZ i).1 + 1))), (5, .int (tpB i)), (0, .ref h), (2, .int (nI (tpZ i).2.1)), (3, .int (tpZ i).2.2.1), (4, .int (nI i))]) rfl (fun ls hl => ?_)
      refine lv_iconst (n := 0) (v := 0) hx hb (show decode (iC 9) 109 = .ok (.iconst 0, 1) from dq_ok (by decide +kernel)) rfl ?_
      refine lv_istore_n (k := 2) hx hb (show decode (iC 9) 110 = .ok (.istore_n 2, 1) from dq_ok (by decide +kernel)) rfl hl (by decide) (lv' := [(2, .int 0), (1, .int (nI ((tpZ i).1 + 1))), (5, .int (tpB i)), (0, .ref h), (3, .int (tpZ i).2.2.1), (4, .int (nI i))]) rfl (fun ls hl => ?_)
      refine lv_iconst (n := 0) (v := 0) hx hb (show decode (iC 9) 111 = .ok (.iconst 0, 1) from dq_ok (by decide +kernel)) rfl ?_
      refine lv_istore_n (k := 3) hx hb (show decode (iC 9) 112 = .ok (.istore_n 3, 1) from dq_ok (by decide +kernel)) rfl hl (by decide) (lv' := [(3, .int 0), (2, .int 0), (1, .int (nI ((tpZ i).1 + 1))), (5, .int (tpB i)), (0, .ref h), (4, .int (nI i))]) rfl (fun ls hl => ?_)
      refine lv_goto (off := 18) hx hb (show decode (iC 9) 113 = .ok (.goto 18, 3) from dq_ok (by decide +kernel)) (tgt := 131) rfl ?_
      refine lv_iinc (k := 5) (v := nI (i + 1)) hx hb (show decode (iC 9) 131 = .ok (.iinc 4 1, 3) from dq_ok (by decide +kernel)) hl rfl (by rw [show Int32.ofInt 1 = 1 from rfl, nI_S]) (by decide) (lv' := [(4, .int (nI (i + 1))), (3, .int 0), (2, .int 0), (1, .int (nI ((tpZ i).1 + 1))), (5, .int (tpB i)), (0, .ref h)]) rfl (fun ls hl => ?_)
      refine lv_goto (off := -74) hx hb (show decode (iC 9) 134 = .ok (.goto (-74), 3) from dq_ok (by decide +kernel)) (tgt := 60) rfl ?_
      refine ih (i + 1) (by omega) H3 locs3 ls ?_ (by rw [e1]; exact hP3) (by rw [e1]; exact hD3) hS3
      rw [e1]
      exact lv_sub hl [5, 3, 2, 1, 0] rfl
end TPL
theorem mt_9 (l : Launch) (D : va_G) (q : Nat → ClassId) : MtI l D q 9 := by
  intro h b sz
  obtain ⟨p1, p2, p3, p4, p5, p6⟩ := ipl (show 9 < 13 by decide)
  refine Met.ofW (cc := iC 9) (maxL := iL 9) (ret := none) p5 rfl ?_
  intro p e s m args below meth co s₁ B hml hv
  obtain ⟨rfl, hsz, hP, hK, hN, hI, hT, hD0⟩ := hv
  have hx := B.exec
  have hb := B.bytes
  have hr := B.returns
  have hts0 := atoms_spec (ws := wsI 9) B.pre
  have hts : ∀ w ∈ tbG, w.before (avI 9 h b).toArray s = true := fun w hw => hts0 w (List.mem_cons_of_mem _ hw)
  have hown : s.vm.findClass (cnm 9) = some m.cls := by rw [← p1]; exact findClass_of_methodNamed B.named
  have hlocks := B.notSynchronized
  have hin : meth.name = "<init>" := Eq.trans (name_of_methodNamed B.named B.method).1 p6
  subst hsz
  rw [lg_entry_eq]
  obtain ⟨ls, e0, l1, l2, l3, l4⟩ := ent_I (c := 9) (h := h) (b := b) (by decide)
  rw [e0]
  have X : CI p s m (avI 9 h b).toArray meth co D q (va_A (w1I 9 h) s.heap.size) 9 (iC 9) (iL 9) := ⟨hx, hb, hml, hown, hts, hN, hI, hT, hK, fun x hx => Or.inr hx, hin⟩
  have fin : GC p l e (headSpec (wsI 9) (rmI 9)).room s m (avI 9 h b).toArray below meth co D (va_A (w1I 9 h) s.heap.size) ls h (MQ below (QcI D q 9 h b s.heap.size) (avI 9 h b).toArray s (ccT 9) (csT 9) (va_A (w1I 9 h) s.heap.size)) (endT q h) (pcE 0 kj9.flatten) := by
    intro ws st cl sl H locs hE hl0 hw0 hst hP hD hS
    obtain ⟨rfl, rfl, rfl, u, rfl⟩ := hE
    have hl : lv_has ls 6 [(0, .ref h)] := ⟨l1, l2, fun x hx => by
      have := List.mem_singleton.mp hx
      subst this
      exact l3⟩
    rw [show pcE 0 kj9.flatten = 51 from rfl]
    refine lv_iconst (n := 0) (v := 0) hx hb (show decode (iC 9) 51 = .ok (.iconst 0, 1) from dq_ok (by decide +kernel)) rfl ?_
    refine lv_istore_n (k := 1) hx hb (show decode (iC 9) 52 = .ok (.istore_n 1, 1) from dq_ok (by decide +kernel)) rfl hl (by decide) (lv' := [(1, .int 0), (0, .ref h)]) rfl (fun ls hl => ?_)
    refine lv_iconst (n := 0) (v := 0) hx hb (show decode (iC 9) 53 = .ok (.iconst 0, 1) from dq_ok (by decide +kernel)) rfl ?_
    refine lv_istore_n (k := 2) hx hb (show decode (iC 9) 54 = .ok (.istore_n 2, 1) from dq_ok (by decide +kernel)) rfl hl (by decide) (lv' := [(2, .int 0), (1, .int 0), (0, .ref h)]) rfl (fun ls hl => ?_)
    refine lv_iconst (n := 0) (v := 0) hx hb (show decode (iC 9) 55 = .ok (.iconst 0, 1) from dq_ok (by decide +kernel)) rfl ?_
    refine lv_istore_n (k := 3) hx hb (show decode (iC 9) 56 = .ok (.istore_n 3, 1) from dq_ok (by decide +kernel)) rfl hl (by decide) (lv' := [(3, .int 0), (2, .int 0), (1, .int 0), (0, .ref h)]) rfl (fun ls hl => ?_)
    refine lv_iconst (n := 0) (v := 0) hx hb (show decode (iC 9) 57 = .ok (.iconst 0, 1) from dq_ok (by decide +kernel)) rfl ?_
    refine lv_istore hx hb (show decode (iC 9) 58 = .ok (.istore 4, 2) from dq_ok (by decide +kernel)) hl (by decide) (lv' := [(4, .int 0), (3, .int 0), (2, .int 0), (1, .int 0), (0, .ref h)]) rfl (fun ls hl => ?_)
    refine tape_loop (u := u) X hr hlocks (fun H locs ls hP hD hS => ?_) 97 0 rfl H locs ls (lv_sub hl [4, 3, 2, 1, 0] rfl) hP hD hS
    exact W.vret hx hb hr (fun t ht hW => ⟨⟨u, rfl, trivial, by rw [ht]; exact hP, hD⟩, hS.F ht⟩) hS.2.2 (show decode (iC 9) 137 = .ok (.return_, 1) from dq_ok (by decide +kernel))
  have key := snd_cwp (R := (headSpec (wsI 9) (rmI 9)).room) (fr := iF 9) (lo := iQ 9) (mc := 2) (ms := 719) (cs := []) (nA := decide (iArg 9 = 1)) (ar1 := b) X (Nat.le_refl _) (Nat.le_refl _) (Nat.le_refl _) (Nat.le_refl _) (fun k hk => absurd hk List.not_mem_nil) l1 l3 l4 kj9.flatten 0 fin ck_9
  exact key (w1I 9 h) [] 0 0 s.heap [] (wk_9 q h b) (by show 0 < 1; decide) rfl (fun x hx => absurd hx List.not_mem_nil) hP (w1D _ 9 h (Or.inl ⟨0, _, rfl⟩)) va_S.rf
