/-! CONSTRUCTORS: the walk is sound -/
section SNC3
variable {p : Program} {l : Launch} {e : Env} {R : Room} {s : State} {m : MethodId} {args : Array Value} {below : List Frame} {meth : Method} {c : Code} {D : va_G} {q : Nat → ClassId} {A : Nat → Prop} {own : Nat} {cc : ByteArray} {nL : Nat} {H H0 : Heap} {locs : List Loc} {ls : Array Slot} {cl sl pc i cn k pl mc ms ar1 h0 fr lo : Nat} {nA : Bool} {cs : List Nat} {v : Int} {Q : State → Prop} {ws : va_W} {st : List SV}
/-- from where K holds, the machine goes on -/
def GC (p : Program) (l : Launch) (e : Env) (R : Room) (s : State) (m : MethodId) (args : Array Value) (below : List Frame) (meth : Method) (c : Code) (D : va_G) (A : Nat → Prop) (ls : Array Slot) (h0 : Nat) (Q : State → Prop) (K : CNT) (pc : Nat) : Prop :=
  ∀ (ws : va_W) (st : List SV) (cl sl : Nat) (H : Heap) (locs : List Loc), K ws st cl sl → 0 < ws.length → wad ws 0 = h0 → (∀ x ∈ st, svk ws.length x) → va_P D cl13 ws H → va_D A ws → va_S A s.heap H locs → W p l e R s m args below meth c H locs cl sl Q (F0 m pc ls (st.map (svC ws)))
theorem sk_c {n : Nat} {x : SV} (h : svk n x) (hs : ∀ y ∈ st, svk n y) : ∀ y ∈ x :: st, svk n y := fun y hy => by
  rcases List.mem_cons.mp hy with rfl | hy
  · exact h
  · exact hs y hy
theorem sk_t {n : Nat} {x : SV} (h : ∀ y ∈ x :: st, svk n y) : ∀ y ∈ st, svk n y := fun y hy => h y (List.mem_cons_of_mem _ hy)
theorem sk_m {n n' : Nat} (h : ∀ y ∈ st, svk n y) (hn : n ≤ n') : ∀ y ∈ st, svk n' y := fun y hy => svk_mono (h y hy) hn
theorem snd_cst {K : CNT} {op : Nat} (X : CI p s m args meth c D q A own cc nL) (hfr : fr ≤ R.frames) (hlo : lo ≤ R.locals) (hmc : mc ≤ R.cells) (hms : ms ≤ R.slots) (hM : ∀ k ∈ cs, MtI l D q k) (hls : ls.size = nL) (hL0 : ls[0]? = some (.val (.ref h0))) (hL1 : nA = true → ls[1]? = some (.val (.ref ar1)))
    (kk : GC p l e R s m args below meth c D A ls h0 Q K (pc + lnI op k v)) (hck : ckq cc own nA fr lo iF iQ cs pc op i cn k pl v = true) (hcs : cst q mc ms ar1 (cwT q) ccT csT op cn k v K ws st cl sl) (hl0 : 0 < ws.length) (hw0 : wad ws 0 = h0) (hst : ∀ x ∈ st, svk ws.length x) (hP : va_P D cl13 ws H) (hD : va_D A ws) (hS : va_S A s.heap H locs) : W p l e R s m args below meth c H locs cl sl Q (F0 m pc ls (st.map (svC ws))) := by
  obtain ⟨hx, hb, hml, hown, hts, hN, hI, hT, hK, hA, hin⟩ := id X
  match op, kk, hck, hcs with
  | 0, kk, hck, hcs =>
    simp only [ckq] at hck
    simp only [cst] at hcs
    by_cases hc : cn = 0
    · rw [if_pos hc] at hck hcs
      have := kk _ _ _ _ H locs hcs hl0 hw0 (sk_c hl0 hst) hP hD hS
      rw [List.map_cons] at this
      have e1 : svC ws (xW 0) = .ref h0 := by rw [← hw0]; rfl
      rw [e1] at this
      exact lv_aload_n hx hb (dq_ok hck) rfl hL0 this
    · rw [if_neg hc] at hck hcs
      rw [Bool.and_eq_true] at hck
      have := kk _ _ _ _ H locs hcs hl0 hw0 (sk_c trivial hst) hP hD hS
      exact lv_aload_n hx hb (dq_ok hck.1) rfl (hL1 hck.2) this
  | 1, kk, hck, hcs => exact lv_iconst hx hb (dq_ok hck) rfl (kk _ _ _ _ H locs hcs hl0 hw0 (sk_c trivial hst) hP hD hS)
  | 2, kk, hck, hcs =>
    simp only [ckq, Bool.and_eq_true, decide_eq_true_eq] at hck
    exact lv_bipush hx hb (dq_ok hck.1) hck.2 (kk _ _ _ _ H locs hcs hl0 hw0 (sk_c trivial hst) hP hD hS)
  | 4, kk, hck, hcs => exact lv_lconst hx hb (dq_ok hck) rfl (kk _ _ _ _ H locs hcs hl0 hw0 (sk_c trivial hst) hP hD hS)
  | 5, kk, hck, hcs =>
    simp only [ckq, Bool.and_eq_true, decide_eq_true_eq] at hck
    obtain ⟨⟨⟨h1, h2⟩, h3⟩, h4⟩ := hck
    simp only [cst] at hcs
    split at hcs
    · rename_i hb'
      refine psh_row hx hb h1 (na_row hx hb hts hK hP hD hS hA h3 h4 (by omega) (by omega) (dq_ok h2) (fun a H1 hP1 hD1 hS1 => ?_))
      have hl : (ws ++ [(a, (.inl (q cn, k, zrA cn) : va_E))]).length = ws.length + 1 := by rw [List.length_append]; rfl
      have := kk _ _ _ _ H1 locs (hcs a) (by omega) (by rw [wad_app hl0]; exact hw0) (sk_c (show ws.length < _ by omega) (sk_m hst (by omega))) hP1 hD1 hS1
      rw [List.map_cons, map_app hst] at this
      have e1 : svC (ws ++ [(a, (.inl (q cn, k, zrA cn) : va_E))]) (xW ws.length) = .ref a := by
        show Value.ref (wad _ _) = _
        rw [wad_of (x := (a, (.inl (q cn, k, zrA cn) : va_E))) (by rw [List.getElem?_append_right (Nat.le_refl _), Nat.sub_self]; rfl)]
      rw [e1, show lnI 5 k v = (if v = 0 then 1 else if v = 1 then 2 else 3) + 2 from rfl, ← Nat.add_assoc] at this
      exact this
    · exact hcs.elim
  | 6, kk, hck, hcs =>
    simp only [ckq, Bool.and_eq_true, decide_eq_true_eq] at hck
    obtain ⟨⟨⟨⟨h1, h2⟩, h3⟩, h4⟩, h5⟩ := hck
    simp only [cst] at hcs
    split at hcs
    · rename_i x j r zz
      split at hcs
      · rename_i a c' fs hw
        split at hcs
        · rename_i hz
          obtain ⟨rfl, hz2, hz3⟩ := hz
          have hlk : (Cond.fieldLink (cnm own) i (cTt c' k).1 (cTt c' k).2.1 (cTt c' k).2.2.1).before args s = true := hts _ (wdq_in h4)
          obtain ⟨n1, n2⟩ := svf_ok ws hz3
          have go : ∀ (H1 : Heap) (locs1 : List Loc), va_P D cl13 (ws.set j (a, .inr (c', fs.set k (svC ws x)))) H1 → va_D A (ws.set j (a, .inr (c', fs.set k (svC ws x)))) → va_S A s.heap H1 locs1 → W p l e R s m args below meth c H1 locs1 cl sl Q (F0 m (pc + 3) ls (r.map (svC ws))) := fun H1 locs1 hP1 hD1 hS1 => by
            have := kk _ _ _ _ H1 locs1 hcs (by rw [List.length_set]; exact hl0) (by rw [wad_set hw]; exact hw0) (by rw [List.length_set]; exact sk_t (sk_t hst)) hP1 hD1 hS1
            rw [map_set hw] at this
            exact this
          have e1 : (x :: xW j :: r).map (svC ws) = svC ws x :: .ref a :: r.map (svC ws) := by
            rw [List.map_cons, List.map_cons, show svC ws (xW j) = .ref (wad ws j) from rfl, wad_of hw]
          rw [e1]
          by_cases hf : (cTt c' k).2.2.2 = true
          · rw [hf, Bool.not_true, Bool.false_or, decide_eq_true_eq] at h5
            exact va_putF (D := D) (ci := c') (v := svC ws x) (ty := cTy c' k) (C := cnm c') (T := cTt c') (N := cNn c') hx hb hts (cl_in c' h2) (cTy c') (cl_ty c' h2) (cl_nm c' h2) hown hK hP hD hS j hw (cl_at c' h2) k h3 hlk (fun _ h9 => h9) hf hin h5 (cl_ty c' h2 k h3) n1 n2 hz2 (dq_ok h1) go
          · exact va_put (D := D) (ci := c') (v := svC ws x) (ty := cTy c' k) (C := cnm c') (T := cTt c') (N := cNn c') hx hb hts (cl_in c' h2) (cTy c') (cl_ty c' h2) (cl_nm c' h2) hown hK hP hD hS j hw (cl_at c' h2) k h3 hlk (fun _ h9 => h9) (by simpa using hf) (cl_ty c' h2 k h3) n1 n2 hz2 (dq_ok h1) go
        · exact hcs.elim
      · exact hcs.elim
    · exact hcs.elim
  | 8, kk, hck, hcs =>
    simp only [ckq, Bool.and_eq_true, decide_eq_true_eq] at hck
    obtain ⟨⟨h1, h2⟩, h3⟩ := hck
    simp only [cst] at hcs
    split at hcs
    · rename_i hb'
      have hdf : ∀ j, j < cNn cn → defaultValue (cTy cn j) = vp_V (dfl cn) j := fun j hj => by
        unfold vp_V dfl
        rw [List.getD_eq_getElem?_getD, fs_at hj]
        rfl
      refine va_new (ci := cn) (fs := dfl cn) (C := cnm cn) (T := cTt cn) (N := cNn cn) hx hb hts (cl_in cn h2) (cTy cn) (cl_ty cn h2) hown (hts _ (wdq_in h3)) (hts _ (in_in cn (List.mem_range.mpr h2))) (hts _ (ii_in cn (List.mem_range.mpr h2))) hK hP hD hS hA (cl_at cn h2) hdf (by omega) (by omega) (dq_ok h1) (fun a H1 hP1 hD1 hS1 => ?_)
      have hl : (ws ++ [(a, (.inr (cn, dfl cn) : va_E))]).length = ws.length + 1 := by rw [List.length_append]; rfl
      have := kk _ _ _ _ H1 locs (hcs a) (by omega) (by rw [wad_app hl0]; exact hw0) (sk_c (show ws.length < _ by omega) (sk_m hst (by omega))) hP1 hD1 hS1
      rw [List.map_cons, map_app hst] at this
      have e1 : svC (ws ++ [(a, (.inr (cn, dfl cn) : va_E))]) (xW ws.length) = .ref a := by
        show Value.ref (wad _ _) = _
        rw [wad_of (x := (a, (.inr (cn, dfl cn) : va_E))) (by rw [List.getElem?_append_right (Nat.le_refl _), Nat.sub_self]; rfl)]
      rw [e1] at this
      exact this
    · exact hcs.elim
  | 9, kk, hck, hcs =>
    simp only [cst] at hcs
    split at hcs
    · rename_i y r hst
      have := kk _ _ _ _ H locs hcs hl0 hw0 (sk_c (hst _ List.mem_cons_self) hst) hP hD hS
      have hcat : (svC ws (.inr (.inr y))).category = 1 := by cases y <;> rfl
      exact lv_dup hx hb (dq_ok hck) hcat this
    · exact hcs.elim
  | 10, kk, hck, hcs =>
    simp only [ckq, Bool.and_eq_true, Bool.or_eq_true, decide_eq_true_eq] at hck
    obtain ⟨⟨⟨⟨⟨⟨h1, h2⟩, h3⟩, h4⟩, h5⟩, h6⟩, h7⟩ := hck
    simp only [cst] at hcs
    split at hcs
    · rename_i j r hst
      split at hcs
      · rename_i a e0 hw
        split at hcs
        · rename_i hz
          obtain ⟨z1, z2, z3, z4⟩ := hz
          obtain ⟨rfl, hcs⟩ := hcs
          have hws := take_last z1 hw
          have e1 : (xW j :: r).map (svC ws) = ([] : List Value).reverse ++ .ref a :: r.map (svC ws) := by
            rw [List.map_cons, show svC ws (xW j) = .ref (wad ws j) from rfl, wad_of hw]
            rfl
          rw [e1]
          refine call_row (q := q) (wr := ws.take j) (b := 0) X hfr hlo h2 (hM cn h5) (h4.imp id (fun z => wdq_in z)) h6 h7 hls (by omega) (by omega) (by rw [← hws]; exact hP) (by rw [← hws]; exact hD) hS (by unfold avI; rw [h3]; rfl) (by rw [svs_cat]; exact z2) (dq_ok h1) (fun u H1 locs1 hP1 hD1 hS1 => ?_)
          obtain ⟨g1, g2⟩ := wad_call z1 hw (cwT_h q cn a 0 u)
          have := kk _ _ _ _ H1 locs1 (hcs u) (by omega) (by rw [g2 0 hl0]; exact hw0) (sk_m (sk_t hst) g1) hP1 hD1 hS1
          rw [map_call (sk_t hst) g2] at this
          exact this
        · exact hcs.elim
      · exact hcs.elim
    · exact hcs.elim
  | 16, kk, hck, hcs =>
    simp only [ckq, Bool.and_eq_true, decide_eq_true_eq] at hck
    obtain ⟨⟨⟨⟨⟨⟨h1, h2⟩, h3⟩, h4⟩, h5⟩, h6⟩, h7⟩ := hck
    simp only [cst] at hcs
    split at hcs
    · rename_i b j r hst
      split at hcs
      · rename_i a e0 hw
        split at hcs
        · rename_i hz
          obtain ⟨z1, z2, z3, z4⟩ := hz
          obtain ⟨rfl, hcs⟩ := hcs
          have hws := take_last z1 hw
          have e1 : (xX b :: xW j :: r).map (svC ws) = [Value.ref b].reverse ++ .ref a :: r.map (svC ws) := by
            rw [List.map_cons, List.map_cons, show svC ws (xW j) = .ref (wad ws j) from rfl, wad_of hw]
            rfl
          rw [e1]
          refine call_row (q := q) (wr := ws.take j) (b := b) X hfr hlo h2 (hM cn h5) (Or.inr (wdq_in h4)) h6 h7 hls (by omega) (by omega) (by rw [← hws]; exact hP) (by rw [← hws]; exact hD) hS (by unfold avI; rw [h3]; rfl) (by rw [svs_cat]; exact z2) (dq_ok h1) (fun u H1 locs1 hP1 hD1 hS1 => ?_)
          obtain ⟨g1, g2⟩ := wad_call z1 hw (cwT_h q cn a b u)
          have := kk _ _ _ _ H1 locs1 (hcs u) (by omega) (by rw [g2 0 hl0]; exact hw0) (sk_m (sk_t (sk_t hst)) g1) hP1 hD1 hS1
          rw [map_call (sk_t (sk_t hst)) g2] at this
          exact this
        · exact hcs.elim
      · exact hcs.elim
    · exact hcs.elim
  | 11, kk, hck, hcs =>
    simp only [ckq, Bool.and_eq_true, decide_eq_true_eq] at hck
    obtain ⟨⟨⟨h1, h2⟩, h3⟩, h4⟩ := hck
    simp only [cst] at hcs
    split at hcs
    · rename_i j r zz
      split at hcs
      · rename_i a c' fs hw
        split at hcs
        · rename_i hz
          subst hz
          split at hcs
          · rename_i b hfk
            have := kk _ _ _ _ H locs hcs hl0 hw0 (sk_c trivial (sk_t hst)) hP hD hS
            have e1 : (xW j :: r).map (svC ws) = .ref a :: r.map (svC ws) := by
              rw [List.map_cons, show svC ws (xW j) = .ref (wad ws j) from rfl, wad_of hw]
            rw [e1]
            exact va_get (D := D) (ci := c') (v := .ref b) (C := cnm c') (T := cTt c') (N := cNn c') hx hb hts (cl_in c' h2) hown hK hP j hw (cl_at c' h2) k h3 (hts _ (wdq_in h4)) (fun _ h9 => h9) hfk (dq_ok h1) this
          · exact hcs.elim
        · exact hcs.elim
      · exact hcs.elim
    · exact hcs.elim
  | 12, kk, hck, hcs =>
    simp only [ckq, Bool.and_eq_true, decide_eq_true_eq] at hck
    obtain ⟨⟨⟨⟨h1, h2⟩, h3⟩, h4⟩, h5⟩ := hck
    simp only [cst] at hcs
    split at hcs
    · rename_i hb'
      have hn : ¬ nI k < 0 := nI_nlt (b := 0) (by omega) (by omega)
      have hN' : (nI k).toNatClampNeg = k := nI_clamp (by omega)
      refine lv_iconst hx hb (dq_ok h1) h2 (va_newq hx hb hown (hts _ (wdq_in h4)) hI.1 hK hP hD hS hA hn hN' (by omega) (by omega) (by omega) (dq_ok h3) (fun a cA H1 hK1 hP1 hD1 hS1 => ?_))
      have e4 : cA = q 4 := RA_eq (hK1.2 5 (cA, .object "RibbonRun$Law") rfl).2 (hK.2 4 _ rfl).2
      subst e4
      have hl : (ws ++ [(a, (.inl (q 4, k, .inr (.inr (.inr (.inr (fun _ => none))))) : va_E))]).length = ws.length + 1 := by rw [List.length_append]; rfl
      have := kk _ _ _ _ H1 locs (hcs a) (by omega) (by rw [wad_app hl0]; exact hw0) (sk_c (show ws.length < _ by omega) (sk_m hst (by omega))) hP1 hD1 hS1
      rw [List.map_cons, map_app hst] at this
      have e1 : svC (ws ++ [(a, (.inl (q 4, k, .inr (.inr (.inr (.inr (fun _ => none))))) : va_E))]) (xW ws.length) = .ref a := by
        show Value.ref (wad _ _) = _
        rw [wad_of (x := (a, (.inl (q 4, k, .inr (.inr (.inr (.inr (fun _ => none))))) : va_E))) (by rw [List.getElem?_append_right (Nat.le_refl _), Nat.sub_self]; rfl)]
      rw [e1] at this
      exact this
    · exact hcs.elim
  | 13, kk, hck, hcs =>
    simp only [cst] at hcs
    split at hcs
    · rename_i j n i' r hst
      split at hcs
      · rename_i a c' N f b d fs hw1 hw2
        split at hcs
        · rename_i hz
          obtain ⟨rfl, z2, z3, rfl⟩ := hz
          obtain ⟨rfl, hcs⟩ := hcs
          have hin' : vp_in (nI k) N := by
            unfold vp_in
            rw [nI_clamp (by omega)]
            intro z
            rcases z with z | z
            · exact absurd z (nI_nlt (b := 0) (by omega) (by omega))
            · omega
          have e1 : (xW j :: xI (nI k) :: xW i' :: r).map (svC ws) = .ref b :: .int (nI k) :: .ref a :: r.map (svC ws) := by
            rw [List.map_cons, List.map_cons, List.map_cons, show svC ws (xW j) = .ref (wad ws j) from rfl, wad_of hw2, show svC ws (xW i') = .ref (wad ws i') from rfl, wad_of hw1]
            rfl
          rw [e1]
          refine va_astq hx hb hK hP hD hS i' 4 j 3 hw1 (r := (RX3, TX3, 2)) rfl hw2 rfl hin' (dq_ok hck) (fun H1 locs1 hP1 hD1 hS1 => ?_)
          rw [nI_clamp (by omega)] at hP1 hD1
          have := kk _ _ _ _ H1 locs1 hcs (by rw [List.length_set]; exact hl0) (by rw [wad_set hw1]; exact hw0) (by rw [List.length_set]; exact sk_t (sk_t (sk_t hst))) hP1 hD1 hS1
          rw [map_set hw1] at this
          exact this
        · exact hcs.elim
      · exact hcs.elim
    · exact hcs.elim
  | 14, kk, hck, hcs =>
    simp only [ckq, Bool.and_eq_true, decide_eq_true_eq] at hck
    obtain ⟨⟨⟨h1, h2⟩, h3⟩, h4⟩ := hck
    simp only [cst] at hcs
    split at hcs
    · rename_i j r hst
      split at hcs
      · rename_i hz
        have := kk _ _ _ _ H locs hcs hl0 hw0 (sk_t hst) hP hD hS
        refine W.objInit hx hb hown (hts _ (wdq_in h2)) (hts _ (oi_in _ List.mem_cons_self)) (hts _ oc_in) rfl (by rw [hml]; exact hls) rfl (dq_ok h1) (Nat.le_trans h3 hfr) ?_ this
        show 2 * 0 + _ + 12 ≤ R.locals
        rw [svs_cat, hz]
        omega
      · exact hcs.elim
    · exact hcs.elim
  | 15, kk, hck, hcs =>
    simp only [ckq, Bool.and_eq_true, decide_eq_true_eq] at hck
    obtain ⟨⟨⟨⟨⟨h1, h2⟩, h3⟩, h4⟩, h5⟩, h6⟩ := hck
    simp only [cst] at hcs
    split at hcs
    · rename_i j r hst
      split at hcs
      · rename_i a c' N f hw
        split at hcs
        · rename_i hz
          obtain ⟨rfl, hcs⟩ := hcs
          have hin' : vp_in (nI k) N := by
            unfold vp_in
            rw [nI_clamp (by omega)]
            intro z
            rcases z with z | z
            · exact absurd z (nI_nlt (b := 0) (by omega) (by omega))
            · omega
          have e1 : (xW j :: r).map (svC ws) = .ref a :: r.map (svC ws) := by
            rw [List.map_cons, show svC ws (xW j) = .ref (wad ws j) from rfl, wad_of hw]
          rw [e1]
          have pl : (if (if k ≤ 5 then (0 : Int) else 1) = 0 then 1 else if (if k ≤ 5 then (0 : Int) else 1) = 1 then 2 else 3) = if k ≤ 5 then 1 else 2 := by
            by_cases z : k ≤ 5
            · rw [if_pos z, if_pos z]; rfl
            · rw [if_neg z, if_neg z]; rfl
          refine lv_dup hx hb (dq_ok h1) rfl (psh_row hx hb h2 ?_)
          rw [pl]
          refine lv_bipush hx hb (dq_ok h3) h4 ?_
          rw [show pc + 1 + (if k ≤ 5 then 1 else 2) + 2 = pc + (if k ≤ 5 then 1 else 2) + 3 by omega]
          refine va_iast hx hb hK hP hD hS j 0 hw rfl hin' (dq_ok h5) (fun H1 locs1 hP1 hD1 hS1 => ?_)
          rw [nI_clamp (by omega)] at hP1 hD1
          have := kk _ _ _ _ H1 locs1 hcs (by rw [List.length_set]; exact hl0) (by rw [wad_set hw]; exact hw0) (by rw [List.length_set]; exact hst) hP1 hD1 hS1
          rw [map_set hw, e1, show pc + lnI 15 k v = pc + (if k ≤ 5 then 1 else 2) + 3 + 1 by show pc + ((if k ≤ 5 then 1 else 2) + 4) = _; omega] at this
          exact this
        · exact hcs.elim
      · exact hcs.elim
    · exact hcs.elim
  | 3, _, _, hcs => exact hcs.elim
  | 7, _, _, hcs => exact hcs.elim
  | _ + 17, _, _, hcs => exact hcs.elim
theorem snd_cwp {K : CNT} (X : CI p s m args meth c D q A own cc nL) (hfr : fr ≤ R.frames) (hlo : lo ≤ R.locals) (hmc : mc ≤ R.cells) (hms : ms ≤ R.slots) (hM : ∀ k ∈ cs, MtI l D q k) (hls : ls.size = nL) (hL0 : ls[0]? = some (.val (.ref h0))) (hL1 : nA = true → ls[1]? = some (.val (.ref ar1))) :
    ∀ (is : List INS) (pc : Nat), GC p l e R s m args below meth c D A ls h0 Q K (pcE pc is) → ckL cc own nA fr lo iF iQ cs pc is = true → GC p l e R s m args below meth c D A ls h0 Q (cwp q mc ms ar1 (cwT q) ccT csT K is) pc
  | [], pc, kk, _ => kk
  | (op, i, cn, k, pl, v) :: is, pc, kk, hck => by
    simp only [ckL, Bool.and_eq_true] at hck
    have ih := snd_cwp X hfr hlo hmc hms hM hls hL0 hL1 is (pc + lnI op k v) kk hck.2
    exact fun ws st cl sl H locs hcs hl0 hw0 hst hP hD hS => snd_cst X hfr hlo hmc hms hM hls hL0 hL1 ih hck.1 hcs hl0 hw0 hst hP hD hS
end SNC3
