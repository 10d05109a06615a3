/-! THE START: what the statement gives, as the walk wants it -/
abbrev stF : Term := .field (.string RX9 38) "java/lang/String" "value" "[B"
theorem st_el : ∀ j, j < 97 → Cond.eq (.elem stF (.int (Int32.ofNat j))) (.int ((tpL.map nI).getD j 0)) ∈ flatC (Jvm.Cond.and given_1 narrow_1) := by decide +kernel
theorem st_1 : Cond.exactly (.string RX9 38) "java/lang/String" ∈ flatC (Jvm.Cond.and given_1 narrow_1) := by decide +kernel
theorem st_2 : Cond.eq (.field (.string RX9 38) "java/lang/String" "coder" "B") (.int 0) ∈ flatC (Jvm.Cond.and given_1 narrow_1) := by decide +kernel
theorem st_3 : Cond.arrayOf stF .byte ∈ flatC (Jvm.Cond.and given_1 narrow_1) := by decide +kernel
theorem st_4 : Cond.eq (.length stF) (.int (Int32.ofNat 97)) ∈ flatC (Jvm.Cond.and given_1 narrow_1) := by decide +kernel
theorem st_5 : Cond.eq (.static jS "COMPACT_STRINGS" "Z") (.int 1) ∈ flatC (Jvm.Cond.and given_1 narrow_1) := by decide +kernel
theorem st_6 : Cond.isRef (.static jP "SIOOBE_FORMATTER" "Ljava/util/function/BiFunction;") ∈ flatC (Jvm.Cond.and given_1 narrow_1) := by decide +kernel
theorem st_7 : Cond.isRef (.static Bundle.tN "UNASSIGNED_STACK" Bundle.steD) ∈ flatC (Jvm.Cond.and given_1 narrow_1) := by decide +kernel
theorem st_8 : Cond.isRef (.static Bundle.tN "SUPPRESSED_SENTINEL" Bundle.listD) ∈ flatC (Jvm.Cond.and given_1 narrow_1) := by decide +kernel
theorem st_9 : Cond.not (.castable xNS xIO) ∈ flatC (Jvm.Cond.and given_1 narrow_1) := by decide +kernel
theorem tb_at {i : Nat} {w : Cond} (h : lw_tbl[i]? = some w) : w ∈ lw_tbl := List.mem_of_getElem? h
section STA9
variable {s : State} {b : Nat}
theorem ns_start (hts : ∀ w ∈ lw_tbl, w.before #[Value.ref b] s = true) (hgv : (Jvm.Cond.and given_1 narrow_1).before #[Value.ref b] s = true) : NS (fun x => s.heap.size ≤ x) s s.heap := by
  have hs := flat_of_before _ hgv
  have hA : ∀ a : Nat, a < s.heap.size → ¬ s.heap.size ≤ a := fun a ha => Nat.not_le.mpr ha
  obtain ⟨adK, adV, hS, he⟩ := vk_Sof (args := #[Value.ref b]) (s := s) (N := 1) (tm := fun _ => .string RX9 38) (len := [97]) (byt := [tpL.map nI]) (A := fun x => s.heap.size ≤ x)
    (fun i hi => by
      have : i = 0 := by omega
      subst this
      decide)
    (fun i hi => hs _ st_1) (fun i hi => hs _ st_2) (fun i hi => hs _ st_3)
    (fun i hi => by
      have : i = 0 := by omega
      subst this
      exact hs _ st_4)
    (fun i hi j hj => by
      have : i = 0 := by omega
      subst this
      exact hs _ (st_el j hj))
    (fun i j hi hj hij => absurd (show i = j by omega) hij) hA
  obtain ⟨h1, h2, h3, h4⟩ := hS.1 0 (by decide)
  have e : (fun j => Value.int (([tpL.map nI].getD 0 []).getD j 0)) = fun j => Value.int (tpB j) := funext fun j => by
    unfold tpB
    show Value.int ((tpL.map nI).getD j (nI 0)) = _
    rw [List.getD_eq_getElem?_getD, List.getD_eq_getElem?_getD, List.getElem?_map]
    cases tpL[j]? <;> rfl
  rw [e] at h4
  refine ⟨adK 0, adV 0, vk_R.of (hts _ (tb_at (i := 160) (by decide +kernel))) (he 0 (by decide)), h1, h2, h3, h4, va_Zof (hts _ (tb_at (i := 170) (by decide +kernel))) (hts _ (tb_at (i := 124) (by decide +kernel))) (va_eqt (hs _ st_5)) hA, va_Zqof (hts _ (tb_at (i := 186) (by decide +kernel))) (hts _ (tb_at (i := 126) (by decide +kernel))) (hs _ st_6) hA⟩
theorem xw_in : ∀ w ∈ xwL, w ∈ lw_tbl := by decide +kernel
theorem xw_start (hts : ∀ w ∈ lw_tbl, w.before #[Value.ref b] s = true) (hgv : (Jvm.Cond.and given_1 narrow_1).before #[Value.ref b] s = true) : XW (fun x => s.heap.size ≤ x) s s.heap := by
  have hs := flat_of_before _ hgv
  have hA : ∀ a : Nat, a < s.heap.size → ¬ s.heap.size ≤ a := fun a ha => Nat.not_le.mpr ha
  have hot : ∀ w ∈ xwL, w.onTables = true := List.all_eq_true.mp (by decide +kernel : xwL.all (fun w => w.onTables) = true)
  exact ⟨fun w hw => va_Nw.of (hot w hw) (hts w (xw_in w hw)), va_Nc.of (hs _ st_9), vx_Zqof (hts _ (tb_at (i := 1380) (by decide +kernel))) (hts _ (tb_at (i := 140) (by decide +kernel))) (hs _ st_7) hA, vx_Zqof (hts _ (tb_at (i := 1382) (by decide +kernel))) (hts _ (tb_at (i := 140) (by decide +kernel))) (hs _ st_8) hA⟩
theorem fn_in : ∀ z ∈ fnT, fnC z ∈ lw_tbl := by decide +kernel
theorem mn_in9 : ∀ z ∈ mnT, mnC z ∈ lw_tbl := by decide +kernel
theorem ni_in : ∀ z ∈ niT, Cond.methodLinkNest (cnm z.1) z.2.1 (iY z.2.2) "RibbonRun" ∈ lw_tbl := by decide +kernel
theorem nw_start (hts : ∀ w ∈ lw_tbl, w.before #[Value.ref b] s = true) : NW s := ⟨fun z hz => va_Nw.of rfl (hts _ (fn_in z hz)), fun z hz => va_Nw.of rfl (hts _ (mn_in9 z hz))⟩
theorem ni_start (hts : ∀ w ∈ lw_tbl, w.before #[Value.ref b] s = true) : NI s := ⟨va_AO.of (hts _ (tb_at (i := 253) (by decide +kernel))), fun z hz => va_Nw.of rfl (hts _ (ni_in z hz))⟩
theorem arr_c {args : Array Value} {ty : FieldType} (h : (Cond.arrayClass ty).before args s = true) : ∃ cA, ArrOfT s cA ty ∧ s.vm.findClass ("[" ++ ty.toString) = some cA := by
  obtain ⟨c, k, comp, h1, h2, h3⟩ := Cond.arrayClass_spec h
  exact ⟨c, fun n z => ⟨fun k h => (by cases h), k, h2, comp, h3⟩, h1⟩
theorem k_start (hts : ∀ w ∈ lw_tbl, w.before #[Value.ref b] s = true) : ∃ (D : va_G) (q : Nat → ClassId), va_K D cl13 (tyq q) s := by
  have htsG : ∀ w ∈ tbG, w.before #[Value.ref b] s = true := fun w hw => hts w (List.mem_filter.mp hw).1
  have h0 : ∀ c : Nat, ∃ z : ClassId × (Nat → Nat), c < 13 → u_Kn s (cnm c) (cTt c) (cNn c) z.1 z.2 := fun c => by
    by_cases hc : c < 13
    · obtain ⟨a, i, h⟩ := u_known (C := cnm c) (T := cTt c) (N := cNn c) (n := cNn c) htsG (cl_in c hc) (htsG _ (in_in c (List.mem_range.mpr hc)))
      exact ⟨(a, i), fun _ => h⟩
    · exact ⟨(0, fun _ => 0), fun h => absurd h hc⟩
  obtain ⟨f, hf⟩ := Classical.axiomOfChoice h0
  obtain ⟨c0, a0, r0⟩ := arr_c (ty := .int) (htsG _ (ac_in 0 (by decide)))
  obtain ⟨c1, a1, r1⟩ := arr_c (ty := .long) (htsG _ (ac_in 1 (by decide)))
  obtain ⟨c2, a2, r2⟩ := arr_c (ty := .byte) (htsG _ (ac_in 2 (by decide)))
  obtain ⟨c3, a3, r3⟩ := arr_c (ty := .boolean) (htsG _ (ac_in 3 (by decide)))
  obtain ⟨comp, c4, k4, g1, g2, g3, g4, g5⟩ := Cond.arrayOver_spec (va_AO.use (A := #[]) (ni_start hts).1)
  refine ⟨(fun c => (f c).1, fun c => (f c).2), fun i => [c0, c1, c2, c3, c4].getD i c0, fun k z hz => ?_, fun k z hz => ?_⟩
  · have hk : k < 13 := (List.getElem?_eq_some_iff.mp hz).1
    rw [cl_at k hk] at hz
    have := Option.some.inj hz
    subst this
    exact hf k hk
  · have hk : k < 5 := (List.getElem?_eq_some_iff.mp hz).1
    match k, hk, hz with
    | 0, _, hz => cases hz; exact ⟨a0, r0⟩
    | 1, _, hz => cases hz; exact ⟨a1, r1⟩
    | 2, _, hz => cases hz; exact ⟨a2, r2⟩
    | 3, _, hz => cases hz; exact ⟨a3, r3⟩
    | 4, _, hz => cases hz; exact ⟨fun n z => ⟨fun k h => (by cases h), k4, g3, comp, g4⟩, ⟨k4, comp, g3, g4, g1, g5⟩⟩
    | _ + 5, h, _ => exact absurd h (by omega)
end STA9
