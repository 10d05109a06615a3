/-! THE BEGINNING: both sides alike; the reference's constructor -/
theorem tpW_ok : ∀ i, i < 19 → tpW i = nI (wpk i) := by decide +kernel
theorem mdW_ok : ∀ j, j < 97 → mdW j = nI (wlt j) := by decide +kernel
theorem ref_own {b : Nat} {as : List AV} {Z τ' : ST} {v : Option AV} (h : den b (vR 12 0 0 :: as) Z = some (v, τ')) (has : oS sM as) : τ' = mrg sM τ' Z := by
  have h1 := den_loc sclM h (fun w hw => by
    rcases List.mem_cons.mp hw with rfl | hw
    · exact (rfl : sM 12 = true)
    · exact has w hw) Z
  rw [mrg_self] at h1
  exact congrArg Prod.snd (Option.some.inj (h.symm.trans h1))
theorem rel_begin : ∃ Z1 Z2, den 178 [vR 12 0 0] Z0 = some (none, Z1) ∧ den 180 [vR 12 0 0] Z1 = some (none, Z2) ∧ REL Z2 Z2 := by
  obtain ⟨τ1, b1, b2, b3, b4, b5⟩ := m_clear Z0
  obtain ⟨m15, m16, m17, m38, ⟨m1, m2, m3, m4⟩, m27, m25⟩ := b2
  obtain ⟨τ2, d1, ⟨e12, e13, e14⟩, mH, mP, mQ, m50, m51, _, ⟨m67, m68, m72, m74⟩, mI, mA⟩ := m_keep (τ := τ1) (n := 0) (r := 0) (by decide) (by decide) m16 (fun w hw => Or.inl (m27 w hw)) (fun q hq => absurd hq (Nat.not_lt_zero _))
  refine ⟨τ1, τ2, b1, d1, ?_⟩
  have n0 : oS sM ([] : List AV) := fun w hw => absurd hw List.not_mem_nil
  have k1 := ref_own b1 n0
  have k2 := ref_own d1 n0
  have e : τ2 = mrg sM τ2 Z0 := by
    have h1 : mrg sM τ2 τ1 = mrg sM τ2 Z0 := by
      rw [k1]
      unfold mrg
      refine Prod.ext (funext fun c => ?_) (Prod.ext (funext fun c => ?_) (Prod.ext (funext fun c => ?_) (Prod.ext (funext fun c => ?_) (funext fun c => ?_))))
      all_goals
        funext o k
        dsimp only
        by_cases z : sM c = true
        · rw [if_pos z, if_pos z]
        · rw [if_neg z, if_neg z, if_neg z]
    exact Eq.trans k2 h1
  have k0 : ∀ k, k < 12 → gI τ2 12 0 k = gI Z0 12 0 k := fun k hk => Eq.trans (mI k hk) (b4 k (by omega))
  have ka : ∀ k, k < 18 → gA τ2 12 0 k = gA Z0 12 0 k := fun k hk => Eq.trans (mA k (by omega)) (b5 k (by omega))
  have h25 : ∀ j, j < 6 → gA τ2 12 0 25 j = 0 := fun j hj => Eq.trans (mH 25 j (by omega) (by omega) hj) (m25 j hj)
  have h46 : ∀ j, j < 6 → gA τ2 12 0 46 j = 0 := fun j hj => Eq.trans (mP j hj).2.2 (m25 j hj)
  have key : REL Z0 τ2 := by
    refine ⟨0, 0, 0, ⟨⟨⟨by decide, by decide, by decide, fun z => absurd rfl z⟩, ⟨rfl, rfl, rfl⟩, ⟨rfl, Eq.trans e12 m15, rfl, Eq.trans e13 m16⟩, Eq.symm (Eq.trans e14 m17), ⟨0, by decide, rfl, Eq.trans (mH 19 0 (by omega) (by omega) (by decide)) m3⟩, ⟨0, by decide, rfl, Eq.trans (mH 19 1 (by omega) (by omega) (by decide)) m4⟩, fun j hj => absurd hj (Nat.not_lt_zero _), fun j hj => absurd hj (Nat.not_lt_zero _), fun j hj => absurd hj (Nat.not_lt_zero _), fun j hj => absurd hj (Nat.not_lt_zero _)⟩, fun w hw => ⟨0, by decide, rfl, Or.inl ⟨rfl, Eq.trans (mH 27 w (by omega) (by omega) hw) (m27 w hw)⟩⟩⟩, ⟨rfl, rfl, fun j hj => absurd hj (Nat.not_lt_zero _)⟩, ⟨⟨⟨fun j hj => absurd hj (Nat.not_lt_zero _), fun j hj => absurd hj (Nat.not_lt_zero _), fun j hj => ⟨Eq.symm (h46 j hj), 0, by decide, fun _ => rfl, rfl⟩, fun p hp => absurd hp (Nat.not_lt_zero _), fun p hp => absurd hp (Nat.not_lt_zero _), fun p hp => absurd hp (Nat.not_lt_zero _), fun p _ _ => rfl⟩, fun j hj => absurd hj (Nat.not_lt_zero _)⟩, Eq.symm m50, ?_, 0, by decide, rfl, m72, trivial⟩, ⟨fun j hj => absurd hj (Nat.not_lt_zero _), fun j hj => absurd hj (Nat.not_lt_zero _), fun j hj => ⟨Eq.symm (h25 j hj), 0, by decide, fun _ => rfl, rfl⟩, fun p hp => absurd hp (Nat.not_lt_zero _), fun p _ => ⟨rfl, rfl⟩, rfl⟩, ⟨0, by decide, rfl, m67, Eq.symm m68, Or.inl rfl, fun i hi => absurd hi (Nat.not_lt_zero _)⟩, ⟨Eq.symm m74, fun z => absurd rfl z⟩, ⟨0, by decide, rfl, k0 1 (by decide), fun j hj => absurd hj (Nat.not_lt_zero _)⟩, ⟨fun i hi => tpW_ok i hi, fun j hj => ?_⟩, ⟨Eq.symm (k0 4 (by decide)), Eq.symm (k0 5 (by decide))⟩⟩
    · rw [m51, m4]
      rfl
    · rw [ka 3 (by decide)]
      exact mdW_ok j hj
  rw [e]
  exact REL_mrg key
theorem okR_Z0 : okR Z0 := fun c o k _ _ => by
  show (2, (if c = 6 then 1 else 0), 0) ∈ cts
  by_cases h : c = 6
  · rw [if_pos h]
    exact List.mem_of_getElem? (i := 21) rfl
  · rw [if_neg h]
    exact List.mem_of_getElem? (i := 15) rfl
/-- the reference is made beside the first -/
abbrev w2Q (q : Nat → ClassId) (x : Nat) (u : Nat → Nat) (h : Nat) : va_W := cw11 q x 0 u ++ w1I 12 h
def PcQ (D : va_G) (q : Nat → ClassId) (x : Nat) (u : Nat → Nat) (h sz : Nat) : Array Value → State → Prop := va_Pc [.ref h] (fun U => U.heap.size = sz ∧ va_P D cl13 (w2Q q x u h) U.heap ∧ va_K D cl13 (tyq q) U ∧ NW U ∧ NI U ∧ NS (va_A (w2Q q x u h) sz) U U.heap ∧ va_D (fun _ => True) (w2Q q x u h))
def QcQ (D : va_G) (q : Nat → ClassId) (x : Nat) (u : Nat → Nat) (h sz : Nat) : Array Value → State → Outcome → State → Prop := va_Qv (fun (_ : (Nat → Nat) × ST) => True) (fun z t => va_P D cl13 (wld (rho x u h z.1) q z.2) t.heap ∧ va_D (va_A (w2Q q x u h) sz) (wld (rho x u h z.1) q z.2) ∧ okR z.2 ∧ REL z.2 z.2) (va_A (w2Q q x u h) sz)
theorem preQ_blind (D : va_G) (q : Nat → ClassId) (x : Nat) (u : Nat → Nat) (h sz : Nat) : FrameBlind (PcQ D q x u h sz) := fun a U g mk z => by
  obtain ⟨q0, q1, qP, qK, qN, qI, qT, qD⟩ := z
  exact ⟨q0, q1, qP, va_K.moved (u := U) (U := U.calling g mk a) (Vm.Alike.refl U.vm) qK, NW.same rfl qN, NI.same rfl qI, NS.same rfl qT, qD⟩
theorem mt_12 (l : Launch) (D : va_G) (q : Nat → ClassId) (x : Nat) (u : Nat → Nat) (h sz : Nat) : Met l (iY 12) (wsI 12) (rmI 12) (PcQ D q x u h sz) (QcQ D q x u h sz) (ccT 12) (csT 12) (va_A (w2Q q x u h) sz) := by
  obtain ⟨p1, p2, p3, p4, p5, p6⟩ := ipl (show 12 < 13 by decide)
  refine Met.ofW (cc := iC 12) (maxL := iL 12) (ret := none) p5 rfl ?_
  intro p e s m args below meth co s₁ B hml hv
  obtain ⟨rfl, hsz, hP, hK, hN, hI, hT, hD0⟩ := hv
  have hx := B.exec
  have hb := B.bytes
  have hr := B.returns
  have hts0 := atoms_spec (ws := wsI 12) B.pre
  have hts : ∀ w ∈ tbG, w.before (avI 12 h 0).toArray s = true := fun w hw => hts0 w (List.mem_cons_of_mem _ hw)
  have hown : s.vm.findClass (cnm 12) = some m.cls := by rw [← p1]; exact findClass_of_methodNamed B.named
  have hlocks := B.notSynchronized
  have hin : meth.name = "<init>" := Eq.trans (name_of_methodNamed B.named B.method).1 p6
  subst hsz
  rw [lg_entry_eq]
  obtain ⟨ls, e0, l1, l2, l3, l4⟩ := ent_I (c := 12) (h := h) (b := 0) (by decide)
  show W p l e (headSpec (wsI 12) (rmI 12)).room s m (avI 12 h 0).toArray below meth co s.heap [] 0 0 _ (F0 m 0 ((lg_sl (avI 12 h 0) ++ List.replicate (iL 12 - (lg_sl (avI 12 h 0)).length) Slot.unset).toArray) [])
  rw [e0]
  have hA1 : ∀ z, va_A (w1I 12 h) s.heap.size z → va_A (w2Q q x u h) s.heap.size z := fun z hz => by
    rcases hz with ⟨j, e1, hj⟩ | hz
    · refine Or.inl ⟨97 + j, e1, ?_⟩
      have hj0 : j < 1 := (List.getElem?_eq_some_iff.mp hj).1
      have : j = 0 := by omega
      subst this
      exact hj
    · exact Or.inr hz
  have hPo : va_P D cl13 (w1I 12 h) s.heap := hP.sub [97] rfl
  have hPx : va_P D cl13 (cw11 q x 0 u) s.heap := fun k z hk => hP k z (by rw [List.getElem?_append_left (List.getElem?_eq_some_iff.mp hk).1]; exact hk)
  have X : CI p s m (avI 12 h 0).toArray meth co D q (va_A (w1I 12 h) s.heap.size) 12 (iC 12) (iL 12) := ⟨hx, hb, hml, hown, hts, hN, hI, NS.kept hT (fun _ _ _ => rfl) hA1, hK, fun x hx => Or.inr hx, hin⟩
  have fin : GC p l e (headSpec (wsI 12) (rmI 12)).room s m (avI 12 h 0).toArray below meth co D (va_A (w1I 12 h) s.heap.size) ls h (MQ below (QcQ D q x u h s.heap.size) (avI 12 h 0).toArray s (ccT 12) (csT 12) (va_A (w2Q q x u h) s.heap.size)) (endI q 12 h 0) (pcE 0 kf12) := by
    intro ws st cl sl H locs hE hl0 hw0 hst hPw hDw hSw
    obtain ⟨rfl, rfl, rfl, f, rfl⟩ := hE
    rw [pc_12]
    -- what was there stands
    have hne : ∀ (k : Nat) (z : Nat × va_E), (cw11 q x 0 u)[k]? = some z → ¬ va_A (w1I 12 h) s.heap.size z.1 := fun k z hk hz => by
      rcases hz with ⟨j, e1, hj⟩ | hz
      · have hj0 : j < 1 := (List.getElem?_eq_some_iff.mp hj).1
        have : j = 0 := by omega
        subst this
        have hz1 := congrArg Prod.fst (Option.some.inj hj)
        have hkl := (List.getElem?_eq_some_iff.mp hk).1
        have h97 : (w2Q q x u h)[97]? = some (h, .inr (12, dfl 12)) := rfl
        have := hD0.1 k 97 z (h, .inr (12, dfl 12)) (by rw [List.getElem?_append_left hkl]; exact hk) h97 hz1.symm
        have hl97 : (cw11 q x 0 u).length = 97 := rfl
        omega
      · have := (hPx k z hk).lt
        omega
    have hPx1 : va_P D cl13 (cw11 q x 0 u) H := hPx.kept (fun k z hk => hSw.2.1 z.1 (hPx k z hk).lt (hne k z hk))
    have hPall : va_P D cl13 (cw11 q x 0 u ++ cw12 q h 0 f) H := hPx1.app hPw
    have hS2 : va_S (va_A (w2Q q x u h) s.heap.size) s.heap H locs := ⟨hSw.1, fun z h1 h2 => hSw.2.1 z h1 (fun h3 => h2 (hA1 z h3)), fun z hz => hA1 _ (hSw.2.2 z hz)⟩
    have hDx : va_D (va_A (w2Q q x u h) s.heap.size) (cw11 q x 0 u) := ⟨fun i j y z hy hz hyz => hD0.1 i j y z (by rw [List.getElem?_append_left (List.getElem?_eq_some_iff.mp hy).1]; exact hy) (by rw [List.getElem?_append_left (List.getElem?_eq_some_iff.mp hz).1]; exact hz) hyz, fun k z hk => Or.inl ⟨k, z.2, by rw [List.getElem?_append_left (List.getElem?_eq_some_iff.mp hk).1]; exact hk⟩⟩
    have hDall : va_D (va_A (w2Q q x u h) s.heap.size) (cw11 q x 0 u ++ cw12 q h 0 f) := va_D.app hDx ⟨hDw.1, fun k z hk => hA1 _ (hDw.2 k z hk)⟩ (fun i j y z hy hz hyz => hne i y hy (by rw [hyz]; exact hDw.2 j z hz))
    obtain ⟨hPw2, hDw2⟩ := w_begin2 hPall hDall
    obtain ⟨Z1, Z2, d1, d2, hrel⟩ := rel_begin
    have hok : ∀ w ∈ ([vR 12 0 0] : List AV), okv w := fun w hw => by
      have := List.mem_singleton.mp hw
      subst this
      exact List.mem_of_getElem? (i := 97) rfl
    have hA2 : ∀ z, s.heap.size ≤ z → va_A (w2Q q x u h) s.heap.size z := fun z hz => Or.inr hz
    refine lv_aload_n (k := 0) hx hb (show decode (iC 12) 868 = .ok (.aload_n 0, 1) from dq_ok (by decide +kernel)) rfl l3 ?_
    refine callD (ρ := rho x u h f) (idx := 124) (a := 178) (o := 0) (as := []) (σ := Z0) (σ' := Z1) (v := none) (rest := []) hx hb hml hown hts hN hK hDw2 hA2 (by decide +kernel) (by decide +kernel) (ml_in (12, 124, 178) (by decide +kernel)) d1 hok okR_Z0 (by decide +kernel) (by decide +kernel) (by decide +kernel) l1 (Nat.le_refl _) (Nat.le_refl _) (by decide) hPw2 hS2 (show decode (iC 12) 869 = .ok (.invokevirtual 124, 3) from dq_ok (by decide +kernel)) (fun H1 locs1 hR1 hP1 hD1 hS1 _ _ => ?_)
    refine lv_aload_n (k := 0) hx hb (show decode (iC 12) 872 = .ok (.aload_n 0, 1) from dq_ok (by decide +kernel)) rfl l3 ?_
    refine callD (ρ := rho x u h f) (idx := 127) (a := 180) (o := 0) (as := []) (σ := Z1) (σ' := Z2) (v := none) (rest := []) hx hb hml hown hts hN hK hD1 hA2 (by decide +kernel) (by decide +kernel) (ml_in (12, 127, 180) (by decide +kernel)) d2 hok hR1 (by decide +kernel) (by decide +kernel) (by decide +kernel) l1 (Nat.le_refl _) (Nat.le_refl _) (by decide) hP1 hS1 (show decode (iC 12) 873 = .ok (.invokevirtual 127, 3) from dq_ok (by decide +kernel)) (fun H2 locs2 hR2 hP2 hD2 hS2 _ _ => ?_)
    exact W.vret hx hb hr (fun t ht hW => ⟨⟨(f, Z2), rfl, trivial, by rw [ht]; exact hP2, hD2, hR2, hrel⟩, hS2.F ht⟩) hS2.2.2 (show decode (iC 12) 876 = .ok (.return_, 1) from dq_ok (by decide +kernel))
  have key := snd_cwp (R := (headSpec (wsI 12) (rmI 12)).room) (fr := iF 12) (lo := iQ 12) (mc := 35) (ms := 2260) (cs := []) (nA := decide (iArg 12 = 1)) (ar1 := 0) X (Nat.le_refl _) (Nat.le_refl _) (Nat.le_refl _) (Nat.le_refl _) (fun k hk => absurd hk List.not_mem_nil) l1 l3 l4 kf12 0 fin ck_12
  exact key (w1I 12 h) [] 0 0 s.heap [] (by rw [← kf_eq]; exact wk_12 q h 0) (by show 0 < 1; decide) rfl (fun x hx => absurd hx List.not_mem_nil) hPo (w1D _ 12 h (Or.inl ⟨0, _, rfl⟩)) va_S.rf
