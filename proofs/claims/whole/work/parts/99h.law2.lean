/-! THE LAW: cases with a truth value; grower -/
def csqB (p0 : Nat) (js : List Nat) (jb a b i1 i2 q1 q2 : Nat) : Bool := dq code p0 (.aload_n 1) 1 && agL (p0 + 1) js && agq (p0 + 1 + 6 * js.length) jb && bgq (p0 + 1 + 6 * js.length + 6) && dq code (p0 + 1 + 6 * js.length + 6 + 8) (.invokevirtual i1) 3 && dq code (p0 + 1 + 6 * js.length + 6 + 8 + 3) (.aload_n 2) 1 && agL (p0 + 1 + 6 * js.length + 6 + 8 + 3 + 1) js && agq (p0 + 1 + 6 * js.length + 6 + 8 + 3 + 1 + 6 * js.length) jb && bgq (p0 + 1 + 6 * js.length + 6 + 8 + 3 + 1 + 6 * js.length + 6) && dq code (p0 + 1 + 6 * js.length + 6 + 8 + 3 + 1 + 6 * js.length + 6 + 8) (.invokevirtual i2) 3 &&
  decide (a < nM) && decide (b < nM) && decide (mS a = false) && decide (mS b = false) && decide (mO a = 11) && decide (mO b = 12) && wdq q1 (.methodLink rL i1 (mY a)) && wdq q2 (.methodLink rL i2 (mY b)) && decide (mP a = js.length + 1) && decide (mP b = js.length + 1) && decide (mF a + 1 ≤ 13) && decide (8 + (mL a + 11) + mQ a ≤ 542) && decide (mF b + 1 ≤ 13) && decide (8 + (mL b + 11) + mQ b ≤ 542)
section LAWB
variable {p : Program} {l : Launch} {e : Env} {s : State} {m : MethodId} {below : List Frame} {meth : Method} {c : Code} {D : va_G} {q : Nat → ClassId} {ρ : Nat × Nat × Nat → Nat} {b L oa k : Nat} {xs : Nat → Int32} {H : Heap} {locs : List Loc} {ls : Array Slot} {cl sl pc : Nat} {rest : List Value} {Q : State → Prop} {Z : ST} {F : Nat → Int64}
theorem ints_b (js : List Nat) (y : Int32) : ints (js.map (fun j => vI (xs (6 * k + j))) ++ [vI y]) := fun w hw => by
  rcases List.mem_append.mp hw with hw | hw
  · exact ints_j js w hw
  · exact ⟨y, List.mem_singleton.mp hw⟩
theorem conc_b (js : List Nat) (y : Int32) : ((js.map (fun j => vI (xs (6 * k + j))) ++ [vI y]).map (conc ρ)).reverse = .int y :: (js.map (fun j => Value.int (xs (6 * k + j)))).reverse := by
  rw [List.map_append, conc_j, List.reverse_append]
  rfl
theorem case_rowB (X : LX9 p s m meth c b L xs D q) (hl : lv_has ls 7 (LVL ρ b oa k)) (hI : INV s D q ρ oa H locs Z F) {p0 a b' i1 i2 q1 q2 jb : Nat} {js : List Nat} (hck : csqB p0 js jb a b' i1 i2 q1 q2 = true) (hC : CALL a b' (js.map (fun j => vI (xs (6 * k + j))) ++ [vI (nz (xs (6 * k + jb)))])) (hjs : ∀ j ∈ js, 6 * k + j < L) (hjb : 6 * k + jb < L) (hcl : cl ≤ 1160) (hsl : sl ≤ 12566) {off : Int} (hoff : ((p0 + 1 + 6 * js.length + 6 + 8 + 3 + 1 + 6 * js.length + 6 + 8 + 3 : Nat) : Int) + off = (1703 : Nat)) (hdg : decode code (p0 + 1 + 6 * js.length + 6 + 8 + 3 + 1 + 6 * js.length + 6 + 8 + 3) = .ok (.if_icmp .eq off, 3))
    (kk : ∀ (H1 : Heap) (locs1 : List Loc) (Z1 : ST), INV s D q ρ oa H1 locs1 Z1 F → W p l e room_1 s m #[Value.ref b] below meth c H1 locs1 cl sl Q (F0 m 1703 ls [])) : W p l e room_1 s m #[Value.ref b] below meth c H locs cl sl Q (F0 m p0 ls []) := by
  obtain ⟨v, Z1, Z2, hd1, hd2, hrel⟩ := both hC (ints_b js _) hI.2.2.2.2
  simp only [csqB, Bool.and_eq_true, decide_eq_true_eq] at hck
  obtain ⟨⟨⟨⟨⟨⟨⟨⟨⟨⟨⟨⟨⟨⟨⟨⟨⟨⟨⟨⟨⟨⟨⟨h1, h2⟩, h2a⟩, h2b⟩, h3⟩, h4⟩, h5⟩, h5a⟩, h5b⟩, h6⟩, h7⟩, h8⟩, h9⟩, h10⟩, h11⟩, h12⟩, h13⟩, h14⟩, h15⟩, h16⟩, h17⟩, h18⟩, h19⟩, h20⟩ := hck
  obtain ⟨hP, hD, hS, hR, hZ⟩ := hI
  refine lv_aload_n X.1 X.2.1 (dq_ok h1) rfl (lv_at hl 1 rfl) ?_
  refine args_row X hl hS js _ _ h2 hjs ?_
  refine arg_row X hl hS h2a hjb ?_
  refine bool_row X h2b ?_
  have c1 := one_call (e := e) (l := l) (below := below) (cl := cl) (sl := sl) (Q := Q) (rest := []) (v := vI v) X hl ⟨hP, hD, hS, hR⟩ h7 h9 (Or.inl h11) (wdq_in h13) (by rw [h11]; exact hd1) (ints_b js _) (by rw [List.length_append, List.length_map]; exact h15.symm) h17 h18 hcl hsl (by decide) (dq_ok h3) (fun H1 locs1 hP1 hD1 hS1 hR1 => ?_)
  · rw [conc_b, h11] at c1
    exact c1
  refine lv_aload_n X.1 X.2.1 (dq_ok h4) rfl (lv_at hl 2 rfl) ?_
  refine args_row X hl hS1 js _ _ h5 hjs ?_
  refine arg_row X hl hS1 h5a hjb ?_
  refine bool_row X h5b ?_
  have c2 := one_call (e := e) (l := l) (below := below) (cl := cl) (sl := sl) (Q := Q) (rest := [.int v]) (v := vI v) X hl ⟨hP1, hD1, hS1, hR1⟩ h8 h10 (Or.inr h12) (wdq_in h14) (by rw [h12]; exact hd2) (ints_b js _) (by rw [List.length_append, List.length_map]; exact h16.symm) h19 h20 hcl hsl (show (1 : Nat) ≤ 8 by decide) (dq_ok h6) (fun H2 locs2 hP2 hD2 hS2 hR2 => lv_icmp_eq X.1 X.2.1 hdg hoff (fun _ => kk H2 locs2 Z2 ⟨hP2, hD2, hS2, hR2, hrel⟩) (fun z => absurd rfl z))
  rw [conc_b, h12] at c2
  exact c2
theorem gW_all : GoodIn tbG (va_wsS rL 39 yW wW) := good_G (fun w hw => by
  have hw : w ∈ ([.methodLink rL 39 yW, .static yW, .initialized rL] : List Cond) ++ wW := hw
  rcases List.mem_append.mp hw with hw | hw
  · have hm : w = .methodLink rL 39 yW ∨ w = .static yW ∨ w = .initialized rL := by simpa using hw
    rcases hm with rfl | rfl | rfl
    · exact wdq_in (p := 1344) (by decide +kernel)
    · exact wdq_in (p := 1345) (by decide +kernel)
    · exact wdq_in (p := 121) (by decide +kernel)
  · rcases List.mem_cons.mp hw with rfl | hw
    · exact gW_in
    · exact hw)
theorem m_thrown (Z : ST) : den 163 [vR 12 0 0] Z = some (some (vI (gI Z 12 0 2)), Z) := by rw [dX12_thrown, bX12_thrown_0]
end LAWB
