/-! THE BEGINNING: calls from outside, the world, the relation -/
section CLD
variable {p : Program} {l : Launch} {e : Env} {R : Room} {s : State} {m : MethodId} {args : Array Value} {below : List Frame} {meth : Method} {c : Code} {D : va_G} {q : Nat → ClassId} {ρ : Nat × Nat × Nat → Nat} {A : Nat → Prop} {cc : ByteArray} {nL : Nat} {H H0 : Heap} {locs : List Loc} {ls : Array Slot} {cl sl pc : Nat} {Q : State → Prop}
/-- a method of either side is called on an object -/
theorem callD {own : String} {idx a o : Nat} {as : List AV} {v : Option AV} {σ σ' : ST} {rest : List Value} (hx : p.tables.exec = Jvm.exec) (hb : c.code = cc) (hml : c.maxLocals = nL) (hown : s.vm.findClass own = some m.cls) (hts : ∀ w ∈ tbG, w.before args s = true) (hN : NW s) (hK : va_K D cl13 (tyq q) s) (hD : va_D A (wld ρ q σ)) (hA : ∀ x, H0.size ≤ x → A x)
    (ha : a < nM) (hns : mS a = false) (hlk : Cond.methodLink own idx (mY a) ∈ tbG) (hden : den a (vR (mO a) o 0 :: as) σ = some (v, σ')) (hok : ∀ w ∈ (vR (mO a) o 0 :: as : List AV), okv w) (hoR : okR σ) (hnp : as.length = mP a) (hf : mF a + 1 ≤ R.frames) (hq : 8 + (mL a + 11) + mQ a ≤ R.locals) (hls : ls.size = nL) (hcl : cl ≤ R.cells) (hsl : sl ≤ R.slots) (hcat : (rest.map fun v => v.category).sum ≤ 8)
    (hP : va_P D cl13 (wld ρ q σ) H) (hS : va_S A H0 H locs) (hdg : decode cc pc = .ok (.invokevirtual idx, 3))
    (kk : ∀ (H1 : Heap) (locs1 : List Loc), okR σ' → va_P D cl13 (wld ρ q σ') H1 → va_D A (wld ρ q σ') → va_S A H0 H1 locs1 → (∀ x : Nat, x < H.size → ¬ Aw ρ H.size x → H1[x]? = H[x]?) → H.size ≤ H1.size → W p l e R s m args below meth c H1 locs1 cl sl Q (F0 m (pc + 3) ls ((v.map (conc ρ)).toList ++ rest))) :
    W p l e R s m args below meth c H locs cl sl Q (F0 m pc ls ((as.map (conc ρ)).reverse ++ .ref (ρ (mO a, o, 0)) :: rest)) := by
  obtain ⟨p1, p2, p3, p4, p5, p6, p7⟩ := pl_ok ha
  rw [hns] at p6 p7
  have p7 : a ∈ nsT := by simpa using p7
  have p6 : mO a < 13 := by rcases p6 with z | z; exact z; cases z
  obtain ⟨n, hn1, hn2⟩ := wld_get (ρ := ρ) (q := q) (σ := σ) (show (mO a, o, 0) ∈ cts from ok_h hok)
  have hini : (Cond.initialized (mY a).cls).before args s = true := by rw [p1]; exact hts _ (mn_in a (List.mem_range.mpr ha))
  have cw : CallW R s args own (cnm (mO a)) idx (mY a) (mC a) (mL a) (mR a) (wsM a) (rmM a) 0 0 (mP a) := ⟨callB_of (mP a) hts (good_G (wsM_in ha)) rfl rfl rfl hini (hts _ hlk) ⟨p2, p3, p4⟩ ⟨hf, hq⟩, hts _ (mi_in a p7), hts _ (mse_in a p7)⟩
  have hDT : va_D (fun _ => True) (wld ρ q σ) := hD.weaken (fun _ _ _ _ => trivial)
  have hAA : ∀ x, Aw ρ H.size x → A x := fun x hx => by
    rcases hx with ⟨t, ht, rfl⟩ | hx
    · exact wld_DA hD t ht
    · exact hA x (Nat.le_trans hS.1 hx)
  have hM := den_met l D q ρ ha hden hok hoR H.size
  have hrun := va_runV (p := p) (l := l) (e := e) (m := m) (below := below) (meth := meth) (c := c) (locs := locs) (cells := cl) (slots := sl) (As := as.map (conc ρ)) (rest := rest) (b := ρ (mO a, o, 0)) (g := F0 m pc ls ((as.map (conc ρ)).reverse ++ .ref (ρ (mO a, o, 0)) :: rest)) ⟨hx, hb, hml, hown, hts⟩ hM cw ⟨pre_blind _ _ _, va_recv hK hP (cl_at _ p6) hn2, fun U hU hW => ⟨rfl, by rw [hU], by rw [hU]; exact hP, va_K.moved hW.alike hK, NW.warm hW hN, hDT⟩⟩ rfl (by rw [List.length_map]; exact hnp) hls rfl (lv_room hcat) hdg ⟨by show cl + 0 ≤ _; omega, by show sl + 0 ≤ _; omega⟩
  intro T hT X
  obtain ⟨v', st₀, t, T', L, h0, X', hL, e1, e2, ⟨hv, ho, hR', hP', hz, hkp⟩, st⟩ := hrun T hT X
  have hv' : v' = v.map (conc ρ) := by
    injection hv
  subst hv'
  rw [h0] at hz hkp
  obtain ⟨t2, a1, b1⟩ := kk T'.heap (locs ++ L) hR' (by rw [e1]; exact hP') (wld_D hD (fun t ht => wld_DA hD t ht)) ⟨Nat.le_trans hS.1 (by rw [e1]; exact hz), fun x h1 h2 => by rw [e1, hkp x (Nat.lt_of_lt_of_le h1 hS.1) (fun z => h2 (hAA x z))]; exact hS.2.1 x h1 h2, fun x hx => by
      rcases List.mem_append.mp hx with h | h
      · exact hS.2.2 x h
      · exact hAA _ (hL x h)⟩ (fun x h1 h2 => by rw [e1]; exact hkp x h1 h2) (by rw [e1]; exact hz) T' rfl X'
  exact ⟨t2, st t2 a1, b1⟩
end CLD
/-- arrays alike as far as they go -/
theorem va_P_same {D : va_G} {cl : List vw_C} {ws : va_W} {H : Heap} {i a : Nat} {cA : ClassId} {x x' : vp_A} (h : va_P D cl ws H) (hi : ws[i]? = some (a, .inl (cA, x))) (he : vp_cell cA x = vp_cell cA x') : va_P D cl (ws.set i (a, .inl (cA, x'))) H := fun k z hk => by
  by_cases e : i = k
  · subst e
    rw [List.getElem?_set_self (List.getElem?_eq_some_iff.mp hi).1] at hk
    cases hk
    have := h i _ hi
    show H[a]? = some (vp_cell cA x')
    rw [← he]
    exact this
  · rw [List.getElem?_set_ne e] at hk
    exact h k z hk
theorem fm_some {α : Type} {ws : List α} : ∀ l : List Nat, (∀ i ∈ l, i < ws.length) → l.map (fun i => ws[i]?) = (l.filterMap (fun i => ws[i]?)).map some
  | [], _ => rfl
  | i :: l, h => by
    have h1 : ws[i]? = some (ws[i]'(h i List.mem_cons_self)) := List.getElem?_eq_getElem _
    rw [List.map_cons, List.filterMap_cons, h1, fm_some l (fun j hj => h j (List.mem_cons_of_mem _ hj))]
    rfl
theorem plW_nd : va_nd plW = true := by decide +kernel
theorem plW_lt : ∀ i ∈ plW, i < 133 := List.all_eq_true.mp (by decide +kernel : plW.all (fun i => decide (i < 133)) = true) |> fun h i hi => of_decide_eq_true (h i hi)
set_option maxRecDepth 100000 in
set_option maxHeartbeats 8000000 in
theorem w_begin2 {D : va_G} {q : Nat → ClassId} {A : Nat → Prop} {x : Nat} {u : Nat → Nat} {h b b' : Nat} {f : Nat → Nat} {H : Heap} (hP : va_P D cl13 (cw11 q x b u ++ cw12 q h b' f) H) (hD : va_D A (cw11 q x b u ++ cw12 q h b' f)) : va_P D cl13 (wld (rho x u h f) q Z0) H ∧ va_D A (wld (rho x u h f) q Z0) := by
  have hP1 := hP.sub plW rfl
  have hD1 := hD.sub (ws' := plW.filterMap (fun i => (cw11 q x b u ++ cw12 q h b' f)[i]?)) plW plW_nd (fm_some plW (fun i hi => plW_lt i hi))
  rw [← w_begin q x u h b b' f]
  have g0 : (plW.filterMap (fun i => (cw11 q x b u ++ cw12 q h b' f)[i]?))[20]? = some (rho x u h f (2, 0, 10), .inl (q 4, 3, .inr (.inr (.inr (.inr (va_up (va_up (va_up (fun _ => none) 0 (some (rho x u h f (3, 0, 0)))) 1 (some (rho x u h f (3, 1, 0)))) 2 (some (rho x u h f (3, 2, 0))))))))) := rfl
  have g1 : (plW.filterMap (fun i => (cw11 q x b u ++ cw12 q h b' f)[i]?))[26]? = some (rho x u h f (2, 1, 10), .inl (q 4, 3, .inr (.inr (.inr (.inr (va_up (va_up (va_up (fun _ => none) 0 (some (rho x u h f (3, 3, 0)))) 1 (some (rho x u h f (3, 4, 0)))) 2 (some (rho x u h f (3, 5, 0))))))))) := rfl
  generalize plW.filterMap (fun i => (cw11 q x b u ++ cw12 q h b' f)[i]?) = L1 at hP1 hD1 g0 g1
  have hP2 := va_P_same (x' := (3, .inr (.inr (.inr (.inr (fun i => some (rho x u h f (3, 3 * 0 + i, 0)))))))) hP1 g0 rfl
  have g1' : (L1.set 20 (rho x u h f (2, 0, 10), lwR q x u h f 0))[26]? = _ := Eq.trans (List.getElem?_set_ne (by decide)) g1
  refine ⟨va_P_same (x' := (3, .inr (.inr (.inr (.inr (fun i => some (rho x u h f (3, 3 * 1 + i, 0)))))))) hP2 g1' rfl, ?_⟩
  exact va_D.set (va_D.set hD1 g0) g1'
