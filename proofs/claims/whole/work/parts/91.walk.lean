/-! CONSTRUCTORS: what the walk says, the machine does -/
section SNC
theorem wad_of {ws : va_W} {i : Nat} {x : Nat × va_E} (h : ws[i]? = some x) : wad ws i = x.1 := by
  unfold wad
  rw [h]
theorem wad_app {ws w : va_W} {i : Nat} (h : i < ws.length) : wad (ws ++ w) i = wad ws i := by
  unfold wad
  rw [List.getElem?_append_left h]
theorem wad_set {ws : va_W} {i j a : Nat} {e0 e : va_E} (h : ws[i]? = some (a, e0)) : wad (ws.set i (a, e)) j = wad ws j := by
  unfold wad
  by_cases hj : i = j
  · subst hj
    have hl := (List.getElem?_eq_some_iff.mp h).1
    rw [List.getElem?_set_self hl, h]
  · rw [List.getElem?_set_ne hj]
theorem svC_app {ws w : va_W} {v : SV} (h : svk ws.length v) : svC (ws ++ w) v = svC ws v := by
  match v, h with
  | .inl _, _ => rfl
  | .inr (.inl _), _ => rfl
  | .inr (.inr (.inl i)), h => exact congrArg Value.ref (wad_app h)
  | .inr (.inr (.inr _)), _ => rfl
theorem svC_set {ws : va_W} {i a : Nat} {e0 e : va_E} {v : SV} (h : ws[i]? = some (a, e0)) : svC (ws.set i (a, e)) v = svC ws v := by
  match v with
  | .inl _ => rfl
  | .inr (.inl _) => rfl
  | .inr (.inr (.inl i)) => exact congrArg Value.ref (wad_set h)
  | .inr (.inr (.inr _)) => rfl
theorem svk_mono {n m : Nat} {v : SV} (h : svk n v) (hm : n ≤ m) : svk m v := by
  match v, h with
  | .inl _, _ => trivial
  | .inr (.inl _), _ => trivial
  | .inr (.inr (.inl i)), h => exact Nat.lt_of_lt_of_le h hm
  | .inr (.inr (.inr _)), _ => trivial
theorem map_app {ws w : va_W} {st : List SV} (h : ∀ v ∈ st, svk ws.length v) : st.map (svC (ws ++ w)) = st.map (svC ws) := List.map_congr_left (fun v hv => svC_app (h v hv))
theorem map_set {ws : va_W} {i a : Nat} {e0 e : va_E} {st : List SV} (h : ws[i]? = some (a, e0)) : st.map (svC (ws.set i (a, e))) = st.map (svC ws) := List.map_congr_left (fun v _ => svC_set h)
theorem svf_ok {ty : FieldType} {x : SV} (ws : va_W) (h : svf ty x = true) : narrow ty (svC ws x) = svC ws x ∧ fits ty (svC ws x) = true := by
  match ty, x, h with
  | .int, .inl _, _ => exact ⟨rfl, rfl⟩
  | .boolean, .inl v, h =>
    have : v = 0 ∨ v = 1 := by simpa [svf] using h
    rcases this with rfl | rfl
    · exact ⟨rfl, rfl⟩
    · exact ⟨rfl, rfl⟩
  | .long, .inr (.inl _), _ => exact ⟨rfl, rfl⟩
  | .object _, .inr (.inr (.inl _)), _ => exact ⟨rfl, rfl⟩
  | .object _, .inr (.inr (.inr _)), _ => exact ⟨rfl, rfl⟩
  | .array _, .inr (.inr (.inl _)), _ => exact ⟨rfl, rfl⟩
  | .array _, .inr (.inr (.inr _)), _ => exact ⟨rfl, rfl⟩
theorem svs_cat (ws : va_W) : ∀ st : List SV, ((st.map (svC ws)).map fun v => v.category).sum = svs st
  | [] => rfl
  | .inl _ :: r => by
    rw [List.map_cons, List.map_cons, List.sum_cons, svs_cat ws r]
    rfl
  | .inr (.inl _) :: r => by
    rw [List.map_cons, List.map_cons, List.sum_cons, svs_cat ws r]
    rfl
  | .inr (.inr (.inl _)) :: r => by
    rw [List.map_cons, List.map_cons, List.sum_cons, svs_cat ws r]
    rfl
  | .inr (.inr (.inr _)) :: r => by
    rw [List.map_cons, List.map_cons, List.sum_cons, svs_cat ws r]
    rfl
theorem RA_eq {s : State} {c1 c2 : ClassId} {ty : FieldType} (h1 : va_RA s c1 ty) (h2 : va_RA s c2 ty) : c1 = c2 := by
  cases ty with
  | object C =>
    obtain ⟨_, _, _, _, _, e1⟩ := h1
    obtain ⟨_, _, _, _, _, e2⟩ := h2
    exact Option.some.inj (e1.symm.trans e2)
  | _ => exact Option.some.inj (Eq.trans (Eq.symm h1) h2)
variable {p : Program} {l : Launch} {e : Env} {R : Room} {s : State} {m : MethodId} {args : Array Value} {below : List Frame} {meth : Method} {c : Code} {D : va_G} {q : Nat → ClassId} {A : Nat → Prop} {own : Nat} {cc : ByteArray} {nL : Nat} {H H0 : Heap} {locs : List Loc} {ls : Array Slot} {cl sl pc k : Nat} {rest : List Value} {Q : State → Prop} {ws : va_W}
theorem psh_row (hx : p.tables.exec = Jvm.exec) (hb : c.code = cc) {v : Int} (h : pshq cc pc k v = true) (kk : W p l e R s m args below meth c H locs cl sl Q (F0 m (pc + (if v = 0 then 1 else if v = 1 then 2 else 3)) ls (.int (nI k) :: rest))) : W p l e R s m args below meth c H locs cl sl Q (F0 m pc ls rest) := by
  unfold pshq at h
  by_cases h0 : v = 0
  · rw [if_pos h0] at h kk
    rw [Bool.and_eq_true, decide_eq_true_eq] at h
    exact lv_iconst hx hb (dq_ok h.1) h.2 kk
  · rw [if_neg h0] at h kk
    by_cases h1 : v = 1
    · rw [if_pos h1] at h kk
      rw [Bool.and_eq_true, decide_eq_true_eq] at h
      exact lv_bipush hx hb (dq_ok h.1) h.2 kk
    · rw [if_neg h1] at h kk
      rw [Bool.and_eq_true, decide_eq_true_eq] at h
      exact lv_sipush hx hb (dq_ok h.1) h.2 kk
theorem na_row (hx : p.tables.exec = Jvm.exec) (hb : c.code = cc) (hts : ∀ w ∈ tbG, w.before args s = true) (hK : va_K D cl13 (tyq q) s) (hP : va_P D cl13 ws H) (hD : va_D A ws) (hS : va_S A H0 H locs) (hA : ∀ x, H0.size ≤ x → A x) {kd : Nat} (hkd : kd < 4) (hk : k < 1000) (hc : cl + 1 ≤ R.cells) (hs : sl + k ≤ R.slots) (hdg : decode cc pc = .ok (.newarray (aAty kd), 2))
    (kk : ∀ (a : Nat) (H1 : Heap), va_P D cl13 (ws ++ [(a, .inl (q kd, k, zrA kd))]) H1 → va_D A (ws ++ [(a, .inl (q kd, k, zrA kd))]) → va_S A H0 H1 locs → W p l e R s m args below meth c H1 locs (cl + 1) (sl + k) Q (F0 m (pc + 2) ls (.ref a :: rest))) : W p l e R s m args below meth c H locs cl sl Q (F0 m pc ls (.int (nI k) :: rest)) := by
  have hn : ¬ nI k < 0 := nI_nlt (b := 0) (by omega) (by omega)
  have hN : (nI k).toNatClampNeg = k := nI_clamp (by omega)
  have harr := hts _ (ac_in kd (List.mem_range.mpr hkd))
  match kd, hkd, hdg, harr, kk with
  | 0, _, hdg, harr, kk =>
    refine va_newa (atype := .int) (ty := .int) (a0 := (k, zrA 0)) hx hb harr rfl hK hP hD hS hA (fun _ => rfl) hn hN (by show k * 4 ≤ _; omega) hc hs hdg (fun a cA H1 hK1 hP1 hD1 hS1 => ?_)
    have e : cA = q 0 := RA_eq (hK1.2 5 (cA, .int) rfl).2 (hK.2 0 _ rfl).2
    subst e
    exact kk a H1 hP1 hD1 hS1
  | 1, _, hdg, harr, kk =>
    refine va_newa (atype := .long) (ty := .long) (a0 := (k, zrA 1)) hx hb harr rfl hK hP hD hS hA (fun _ => rfl) hn hN (by show k * 8 ≤ _; omega) hc hs hdg (fun a cA H1 hK1 hP1 hD1 hS1 => ?_)
    have e : cA = q 1 := RA_eq (hK1.2 5 (cA, .long) rfl).2 (hK.2 1 _ rfl).2
    subst e
    exact kk a H1 hP1 hD1 hS1
  | 2, _, hdg, harr, kk =>
    refine va_newa (atype := .byte) (ty := .byte) (a0 := (k, zrA 2)) hx hb harr rfl hK hP hD hS hA (fun _ => rfl) hn hN (by show k * 1 ≤ _; omega) hc hs hdg (fun a cA H1 hK1 hP1 hD1 hS1 => ?_)
    have e : cA = q 2 := RA_eq (hK1.2 5 (cA, .byte) rfl).2 (hK.2 2 _ rfl).2
    subst e
    exact kk a H1 hP1 hD1 hS1
  | 3, _, hdg, harr, kk =>
    refine va_newa (atype := .boolean) (ty := .boolean) (a0 := (k, zrA 3)) hx hb harr rfl hK hP hD hS hA (fun _ => rfl) hn hN (by show k * 1 ≤ _; omega) hc hs hdg (fun a cA H1 hK1 hP1 hD1 hS1 => ?_)
    have e : cA = q 3 := RA_eq (hK1.2 5 (cA, .boolean) rfl).2 (hK.2 3 _ rfl).2
    subst e
    exact kk a H1 hP1 hD1 hS1
  | _ + 4, h, _, _, _ => exact absurd h (by omega)
/-- a world's last cell gone over to another's -/
theorem vz_last {wr w1 : va_W} {a : Nat} {e0 : va_E} {A0 : Nat → Prop} {H1 : Heap} (hP : va_P D cl13 (wr ++ [(a, e0)]) H) (hD : va_D A0 (wr ++ [(a, e0)])) (hk : ∀ x : Nat, x < H.size → ¬ va_A [(a, e0)] H.size x → H1[x]? = H[x]?) (hF : ∀ x, va_A [(a, e0)] H.size x → A0 x) (hP1 : va_P D cl13 w1 H1) (hD1 : va_D (va_A [(a, e0)] H.size) w1) : va_P D cl13 (wr ++ w1) H1 ∧ va_D A0 (wr ++ w1) := by
  have hl : ∀ (i : Nat) (x : Nat × va_E), wr[i]? = some x → (wr ++ [(a, e0)])[i]? = some x := fun i x hx => by
    rw [List.getElem?_append_left (List.getElem?_eq_some_iff.mp hx).1]
    exact hx
  have hlast : (wr ++ [(a, e0)])[wr.length]? = some (a, e0) := by
    rw [List.getElem?_append_right (Nat.le_refl _), Nat.sub_self]
    rfl
  have hne : ∀ (i : Nat) (x : Nat × va_E), wr[i]? = some x → x.1 ≠ a := fun i x hx z => by
    have h1 := hD.1 i wr.length x (a, e0) (hl i x hx) hlast z
    have h2 := (List.getElem?_eq_some_iff.mp hx).1
    omega
  have hlt : ∀ (i : Nat) (x : Nat × va_E), wr[i]? = some x → x.1 < H.size := fun i x hx => (hP i x (hl i x hx)).lt
  have hno : ∀ (i : Nat) (x : Nat × va_E), wr[i]? = some x → ¬ va_A [(a, e0)] H.size x.1 := fun i x hx z => by
    rcases z with ⟨j, e1, hj⟩ | hz
    · have hj0 : j < 1 := (List.getElem?_eq_some_iff.mp hj).1
      have : j = 0 := by omega
      subst this
      have hz := Option.some.inj hj
      exact hne i x hx (congrArg Prod.fst hz).symm
    · have := hlt i x hx
      omega
  refine ⟨va_P.app (fun i x hx => (hP i x (hl i x hx)).kept (hk x.1 (hlt i x hx) (hno i x hx))) hP1, va_D.app ⟨fun i j x y hx hy hz => hD.1 i j x y (hl i x hx) (hl j y hy) hz, fun i x hx => hD.2 i x (hl i x hx)⟩ ⟨hD1.1, fun i x hx => hF _ (hD1.2 i x hx)⟩ (fun i j x y hx hy hz => ?_)⟩
  have := hD1.2 j y hy
  rw [← hz] at this
  exact hno i x hx this
end SNC
