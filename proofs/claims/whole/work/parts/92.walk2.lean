/-! CONSTRUCTORS: contracts, and one step -/
def tpX : String := "grower sees ribbon blight seed law judge grow give or and not worth own doubt far had since year "
/-- the text stands there -/
def NS (A : Nat → Prop) (U : State) (H : Heap) : Prop := ∃ a v, vk_R RX9 38 tpX a U ∧ SW a v A U H
theorem NS.warm {A : Nat → Prop} {s U : State} {H : Heap} (hW : s.WarmedH U.vm) (h : NS A s H) : NS A U H := by
  obtain ⟨a, v, h1, h2⟩ := h
  exact ⟨a, v, vk_R.warm hW h1, SW.moved hW.alike h2⟩
theorem NS.same {A : Nat → Prop} {s U : State} {H : Heap} (e : U.vm = s.vm) (h : NS A s H) : NS A U H := by
  obtain ⟨a, v, h1, h2⟩ := h
  exact ⟨a, v, vk_R.same e h1, SW.moved (by rw [e]; exact Vm.Alike.refl _) h2⟩
theorem NS.kept {A B : Nat → Prop} {U : State} {H H1 : Heap} (h : NS A U H) (hq : ∀ x : Nat, x < H.size → ¬ A x → H1[x]? = H[x]?) (hAB : ∀ x, B x → A x) : NS B U H1 := by
  obtain ⟨a, v, h1, h2⟩ := h
  exact ⟨a, v, h1, (h2.kept hq).narrow hAB⟩
def avI (c h b : Nat) : List Value := if iArg c = 1 then [.ref h, .ref b] else [.ref h]
abbrev w1I (c h : Nat) : va_W := [(h, .inr (c, dfl c))]
def PcI (D : va_G) (q : Nat → ClassId) (c h b sz : Nat) : Array Value → State → Prop := va_Pc (avI c h b) (fun U => U.heap.size = sz ∧ va_P D cl13 (w1I c h) U.heap ∧ va_K D cl13 (tyq q) U ∧ NW U ∧ NI U ∧ NS (va_A (w1I c h) sz) U U.heap ∧ va_D (fun _ => True) (w1I c h))
def QcI (D : va_G) (q : Nat → ClassId) (c h b sz : Nat) : Array Value → State → Outcome → State → Prop := va_Qv (fun (_ : Nat → Nat) => True) (fun u t => va_P D cl13 (cwT q c h b u) t.heap ∧ va_D (va_A (w1I c h) sz) (cwT q c h b u)) (va_A (w1I c h) sz)
def wsI (c : Nat) : List Cond := Cond.code (iY c) (iC c) (iL c) none :: tbG
def rmI (c : Nat) : Room := { frames := iF c, cells := ccT c, slots := csT c, locals := iQ c }
def MtI (l : Launch) (D : va_G) (q : Nat → ClassId) (c : Nat) : Prop := ∀ h b sz, Met l (iY c) (wsI c) (rmI c) (PcI D q c h b sz) (QcI D q c h b sz) (ccT c) (csT c) (va_A (w1I c h) sz)
theorem wsI_in {c : Nat} (hc : c < 13) : ∀ w ∈ wsI c, w ∈ tbG := fun w hw => by
  rcases List.mem_cons.mp hw with rfl | hw
  · exact ic_all c hc
  · exact hw
def iPl (c : Nat) : Bool := decide ((iY c).cls = cnm c) && decide ((iY c).cls ≠ "java/lang/invoke/MethodHandle") && decide ((iY c).cls ≠ "java/lang/invoke/VarHandle") && decide ((parseMethodDescriptor (iY c).desc).map (fun d => d.parameters.length) = some (iArg c)) && Jvm.plainName (iY c).cls && decide ((iY c).name = "<init>")
theorem iPl_ok : ∀ c ∈ List.range 13, iPl c = true := List.all_eq_true.mp (by decide +kernel)
theorem ipl {c : Nat} (hc : c < 13) : (iY c).cls = cnm c ∧ (iY c).cls ≠ "java/lang/invoke/MethodHandle" ∧ (iY c).cls ≠ "java/lang/invoke/VarHandle" ∧ (parseMethodDescriptor (iY c).desc).map (fun d => d.parameters.length) = some (iArg c) ∧ Jvm.plainName (iY c).cls = true ∧ (iY c).name = "<init>" := by
  have h := iPl_ok c (List.mem_range.mpr hc)
  simp only [iPl, Bool.and_eq_true, decide_eq_true_eq] at h
  obtain ⟨⟨⟨⟨⟨h1, h2⟩, h3⟩, h4⟩, h5⟩, h6⟩ := h
  exact ⟨h1, h2, h3, h4, h5, h6⟩
theorem preI_blind (D : va_G) (q : Nat → ClassId) (c h b sz : Nat) : FrameBlind (PcI D q c h b sz) := fun a U g mk z => by
  obtain ⟨q0, q1, qP, qK, qN, qI, qT, qD⟩ := z
  exact ⟨q0, q1, qP, va_K.moved (u := U) (U := U.calling g mk a) (Vm.Alike.refl U.vm) qK, NW.same rfl qN, NI.same rfl qI, NS.same rfl qT, qD⟩
def CI (p : Program) (s : State) (m : MethodId) (args : Array Value) (meth : Method) (c : Code) (D : va_G) (q : Nat → ClassId) (A : Nat → Prop) (own : Nat) (cc : ByteArray) (nL : Nat) : Prop :=
  p.tables.exec = Jvm.exec ∧ c.code = cc ∧ c.maxLocals = nL ∧ s.vm.findClass (cnm own) = some m.cls ∧ (∀ w ∈ tbG, w.before args s = true) ∧ NW s ∧ NI s ∧ NS A s s.heap ∧ va_K D cl13 (tyq q) s ∧ (∀ x, s.heap.size ≤ x → A x) ∧ meth.name = "<init>"
section SNC2
variable {p : Program} {l : Launch} {e : Env} {R : Room} {s : State} {m : MethodId} {args : Array Value} {below : List Frame} {meth : Method} {c : Code} {D : va_G} {q : Nat → ClassId} {A : Nat → Prop} {own : Nat} {cc : ByteArray} {nL : Nat} {H H0 : Heap} {locs : List Loc} {ls : Array Slot} {cl sl pc i cn k pl : Nat} {v : Int} {rest : List Value} {Q : State → Prop} {ws : va_W}
theorem take_last {α : Type} {ws : List α} {i : Nat} {x : α} (hi : i + 1 = ws.length) (hx : ws[i]? = some x) : ws = ws.take i ++ [x] := by
  have hlt : i < ws.length := by omega
  have h1 := (List.getElem?_eq_some_iff.mp hx).2
  have h2 : ws.drop i = [x] := by
    rw [List.drop_eq_getElem_cons hlt, h1, List.drop_eq_nil_of_le (by omega)]
  calc ws = ws.take i ++ ws.drop i := (List.take_append_drop i ws).symm
    _ = ws.take i ++ [x] := by rw [h2]
/-- behind a call the addresses stand as before -/
theorem wad_call {i a : Nat} {e0 : va_E} {w1 : va_W} (hi : i + 1 = ws.length) (hx : ws[i]? = some (a, e0)) (hw : ∃ e1 t, w1 = (a, e1) :: t) : ws.length ≤ (ws.take i ++ w1).length ∧ ∀ j, j < ws.length → wad (ws.take i ++ w1) j = wad ws j := by
  obtain ⟨e1, t, rfl⟩ := hw
  have hl : (ws.take i).length = i := by rw [List.length_take]; omega
  refine ⟨by rw [List.length_append, hl, List.length_cons]; omega, fun j hj => ?_⟩
  by_cases hji : j < i
  · unfold wad
    rw [List.getElem?_append_left (by omega), List.getElem?_take_of_lt hji]
  · have : j = i := by omega
    subst this
    unfold wad
    rw [List.getElem?_append_right (by omega), hl, Nat.sub_self, hx]
    rfl
theorem svC_call {w w' : va_W} {n : Nat} {x : SV} (hx : svk n x) (h : ∀ j, j < n → wad w' j = wad w j) : svC w' x = svC w x := by
  match x, hx with
  | .inl _, _ => rfl
  | .inr (.inl _), _ => rfl
  | .inr (.inr (.inl i)), hx => exact congrArg Value.ref (h i hx)
  | .inr (.inr (.inr _)), _ => rfl
theorem map_call {w w' : va_W} {n : Nat} {st : List SV} (hx : ∀ x ∈ st, svk n x) (h : ∀ j, j < n → wad w' j = wad w j) : st.map (svC w') = st.map (svC w) := List.map_congr_left (fun x hv => svC_call (hx x hv) h)
/-- a constructor is called on the last cell -/
theorem call_row (X : CI p s m args meth c D q A own cc nL) {fr lo : Nat} (hfr : fr ≤ R.frames) (hlo : lo ≤ R.locals) {wr : va_W} {a b : Nat} (hcn : cn < 13) (hM : MtI l D q cn) (hlk : (own, i, cn) ∈ niT ∨ Cond.methodLink (cnm own) i (iY cn) ∈ tbG) (hf : iF cn + 1 ≤ fr) (hq : 8 + (iL cn + 11) + iQ cn ≤ lo) (hls : ls.size = nL) (hcl : cl + ccT cn ≤ R.cells) (hsl : sl + csT cn ≤ R.slots)
    (hP : va_P D cl13 (wr ++ w1I cn a) H) (hD : va_D A (wr ++ w1I cn a)) (hS : va_S A s.heap H locs) {As : List Value} (hAs : .ref a :: As = avI cn a b) (hcat : (rest.map fun v => v.category).sum ≤ 8) (hdg : decode cc pc = .ok (.invokespecial i, 3))
    (kk : ∀ (u : Nat → Nat) (H1 : Heap) (locs1 : List Loc), va_P D cl13 (wr ++ cwT q cn a b u) H1 → va_D A (wr ++ cwT q cn a b u) → va_S A s.heap H1 locs1 → W p l e R s m args below meth c H1 locs1 (cl + ccT cn) (sl + csT cn) Q (F0 m (pc + 3) ls rest)) : W p l e R s m args below meth c H locs cl sl Q (F0 m pc ls (As.reverse ++ .ref a :: rest)) := by
  obtain ⟨hx, hb, hml, hown, hts, hN, hI, hT, hK, hA, hin⟩ := X
  obtain ⟨p1, p2, p3, p4, p5, p6⟩ := ipl hcn
  have hlast : (wr ++ w1I cn a)[wr.length]? = some (a, .inr (cn, dfl cn)) := by
    rw [List.getElem?_append_right (Nat.le_refl _), Nat.sub_self]
    rfl
  have hFc : ∀ x, va_A (w1I cn a) H.size x → A x := va_free (wc := w1I cn a) hD hS hA [wr.length] (by rw [List.map_cons, hlast]; rfl)
  have hPc : va_P D cl13 (w1I cn a) H := hP.sub [wr.length] (by rw [List.filterMap_cons, hlast]; rfl)
  have hDc : va_D (fun _ => True) (w1I cn a) := ⟨fun i j x y hx hy _ => by
    have h1 : i < 1 := (List.getElem?_eq_some_iff.mp hx).1
    have h2 : j < 1 := (List.getElem?_eq_some_iff.mp hy).1
    omega, fun _ _ _ => trivial⟩
  have hn : As.length = iArg cn := by
    have h1 : As.length + 1 = (avI cn a b).length := by rw [← hAs]; rfl
    have h2 : (avI cn a b).length = iArg cn + 1 := by
      unfold avI
      have : iArg cn = 0 ∨ iArg cn = 1 := by
        unfold iArg
        by_cases z : cn = 0 ∨ cn = 6
        · exact Or.inr (if_pos z)
        · exact Or.inl (if_neg z)
      rcases this with z | z
      · rw [z]; rfl
      · rw [z]; rfl
    omega
  have hini : (Cond.initialized (iY cn).cls).before args s = true := by rw [p1]; exact hts _ (ii_in cn (List.mem_range.mpr hcn))
  have hpre : PreS s H (PcI D q cn a b H.size) (.ref a :: As) := ⟨preI_blind _ _ _ _ _ _, fun U hU hW => ⟨by rw [hAs], by rw [hU], by rw [hU]; exact hPc, va_K.moved hW.alike hK, NW.warm hW hN, NI.warm hW hI, by rw [hU]; exact NS.warm hW (NS.kept hT hS.2.1 hFc), hDc⟩⟩
  have hrun : va_Run p l e R s m args below meth c H locs cl sl (ccT cn) (csT cn) (F0 m pc ls (As.reverse ++ .ref a :: rest)) rest (QcI D q cn a b H.size (Value.ref a :: As).toArray) (va_A (w1I cn a) H.size) := by
    rcases hlk with z | z
    · exact va_runIN (As := As) (rest := rest) ⟨hx, hb, hml, hown, hts⟩ (hM a b H.size) ⟨va_cnB (iArg cn) hts (good_G (wsI_in hcn)) rfl rfl rfl (hI.2 (own, i, cn) z) hini ⟨p2, p3, p4⟩ ⟨Nat.le_trans hf hfr, Nat.le_trans hq hlo⟩, p6, hts _ (im_in cn (List.mem_range.mpr hcn))⟩ hpre rfl hn hls rfl (lv_room hcat) hdg ⟨hcl, hsl⟩
    · exact va_runI (As := As) (rest := rest) ⟨hx, hb, hml, hown, hts⟩ (hM a b H.size) ⟨callB_of (iArg cn) hts (good_G (wsI_in hcn)) rfl rfl rfl hini (hts _ z) ⟨p2, p3, p4⟩ ⟨Nat.le_trans hf hfr, Nat.le_trans hq hlo⟩, p6, hts _ (im_in cn (List.mem_range.mpr hcn))⟩ hpre rfl hn hls rfl (lv_room hcat) hdg ⟨hcl, hsl⟩
  refine va_callv hrun hS (fun x _ h => hFc x h) hFc (fun u t H1 locs1 ht hvm _ hB hz1 hk1 hS1 => ?_)
  obtain ⟨hP1, hD1⟩ := hB
  rw [ht] at hP1
  obtain ⟨hP2, hD2⟩ := vz_last hP hD hk1 hFc hP1 hD1
  exact kk u H1 locs1 hP2 hD2 hS1
end SNC2
