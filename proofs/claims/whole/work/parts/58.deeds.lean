/-! DEEDS: what was done, and what was there -/
def dlC (σ : ST) : PL := (gA σ 1 0 0, gA σ 1 0 1, gA σ 1 0 2, gA σ 1 0 3, gA σ 1 0 4, gA σ 1 0 5)
def dEq (D : PL) (i : Nat) (D' : PL) (i' : Nat) : Prop := D.1 i = D'.1 i' ∧ D.2.1 i = D'.2.1 i' ∧ D.2.2.1 i = D'.2.2.1 i' ∧ D.2.2.2.1 i = D'.2.2.2.1 i' ∧ D.2.2.2.2.1 i = D'.2.2.2.2.1 i' ∧ D.2.2.2.2.2 i = D'.2.2.2.2.2 i'
/-- one deed taken back -/
def tbP (k g w q h s : Int32) (P : PL) : PL :=
  if k = 0 then (P.1, P.2.1, upd P.2.2.1 g.toNatClampNeg w, P.2.2.2.1, P.2.2.2.2.1, P.2.2.2.2.2)
  else if k = 1 then (upd P.1 g.toNatClampNeg w, P.2.1, P.2.2.1, P.2.2.2.1, P.2.2.2.2.1, P.2.2.2.2.2)
  else (P.1, upd P.2.1 g.toNatClampNeg w, P.2.2.1, upd P.2.2.2.1 q.toNatClampNeg h, upd P.2.2.2.2.1 q.toNatClampNeg s, upd P.2.2.2.2.2 q.toNatClampNeg (P.2.2.2.2.2 q.toNatClampNeg - 1))
def tbD (D : PL) (i : Nat) (P : PL) : PL := tbP (D.1 i) (D.2.1 i) (D.2.2.1 i) (D.2.2.2.1 i) (D.2.2.2.2.1 i) (D.2.2.2.2.2 i) P
theorem tbD_c {D D' : PL} {i i' : Nat} (h : dEq D i D' i') (P : PL) : tbD D i P = tbD D' i' P := by
  unfold tbD
  rw [h.1, h.2.1, h.2.2.1, h.2.2.2.1, h.2.2.2.2.1, h.2.2.2.2.2]
def dvD (n r : Nat) (D : PL) (i : Nat) : Prop := (∃ g, g < n ∧ D.2.1 i = nI g) ∧ (D.1 i = 0 ∨ D.1 i = 1 ∨ (D.1 i = 2 ∧ ∃ q, q < r ∧ D.2.2.2.1 i = nI q))
theorem dvD_c {n r : Nat} {D D' : PL} {i i' : Nat} (h : dEq D i D' i') (hd : dvD n r D' i') : dvD n r D i := by
  unfold dvD at hd ⊢
  rw [h.1, h.2.1, h.2.2.2.1]
  exact hd
/-- the chain of what was there -/
def UDc (n r : Nat) (D : PL) (F : Nat → Int32) : Nat → PL → Prop
  | 0, _ => True
  | u + 1, P => dvD n r D u ∧ PN n r (tbD D u P) (plS F (24 * u)) ∧ UDc n r D F u (tbD D u P)
def UD (n r : Nat) (σ τ : ST) : Prop := ∃ u, u ≤ 20 ∧ gI σ 1 0 6 = nI u ∧ gI τ 12 0 72 = nI u ∧ UDc n r (dlC σ) (gA τ 12 0 73) u (plC σ 0)
section UDL
variable {n r : Nat}
theorem plS_c {F F' : Nat → Int32} {a a' : Nat} (h : ∀ j, j < 24 → F (a + j) = F' (a' + j)) : plE (plS F a) (plS F' a') := by
  refine ⟨fun j hj => ⟨h j (by omega), ?_, ?_⟩, fun q hq => ⟨?_, ?_, ?_⟩⟩
  · have := h (6 + j) (by omega)
    rw [← Nat.add_assoc, ← Nat.add_assoc] at this
    exact this
  · have := h (12 + j) (by omega)
    rw [← Nat.add_assoc, ← Nat.add_assoc] at this
    exact this
  · have := h (18 + q) (by omega)
    rw [← Nat.add_assoc, ← Nat.add_assoc] at this
    exact this
  · have := h (20 + q) (by omega)
    rw [← Nat.add_assoc, ← Nat.add_assoc] at this
    exact this
  · have := h (22 + q) (by omega)
    rw [← Nat.add_assoc, ← Nat.add_assoc] at this
    exact this
theorem UDc_c (hn : n ≤ 6) (hr : r ≤ 2) {D D' : PL} {F F' : Nat → Int32} : ∀ (u : Nat) (P : PL), (∀ i, i < u → dEq D' i D i) → (∀ j, j < 24 * u → F' j = F j) → UDc n r D F u P → UDc n r D' F' u P
  | 0, _, _, _, _ => trivial
  | u + 1, P, hD, hF, h => by
    obtain ⟨h1, h2, h3⟩ := h
    have e := hD u (by omega)
    have e2 := tbD_c e P
    refine ⟨dvD_c e h1, ?_, ?_⟩
    · rw [e2]
      exact PN_q hn hr h2 (plS_c (fun j hj => hF _ (by omega)))
    · rw [e2]
      exact UDc_c hn hr u _ (fun i hi => hD i (by omega)) (fun j hj => hF j (by omega)) h3
/-- the oldest goes -/
theorem UDc_s (hn : n ≤ 6) (hr : r ≤ 2) {D D' : PL} {F F' : Nat → Int32} : ∀ (u : Nat) (P : PL), (∀ i, i < u → dEq D' i D (i + 1)) → (∀ j, j < 24 * u → F' j = F (j + 24)) → UDc n r D F (u + 1) P → UDc n r D' F' u P
  | 0, _, _, _, _ => trivial
  | u + 1, P, hD, hF, h => by
    obtain ⟨h1, h2, h3⟩ := h
    have e := hD u (by omega)
    have e2 := tbD_c e P
    refine ⟨dvD_c e h1, ?_, ?_⟩
    · rw [e2]
      refine PN_q hn hr h2 (plS_c (fun j hj => ?_))
      rw [hF (24 * u + j) (by omega), show 24 * u + j + 24 = 24 * (u + 1) + j by omega]
    · rw [e2]
      exact UDc_s hn hr u _ (fun i hi => hD i (by omega)) (fun j hj => hF j (by omega)) h3
end UDL
abbrev SD : Nat → Nat → Prop := fun c o => c = 1 ∨ (c = 5 ∧ o = 0)
abbrev KD : Nat → Prop := fun k => k = 2 ∨ (43 ≤ k ∧ k ≤ 59) ∨ k = 72 ∨ k = 73
/-- the real course as it stands, and what may be undone -/
def CU (n r : Nat) (σ τ : ST) : Prop := PN n r (plC σ 0) (plM τ) ∧ gI σ 5 0 0 = gA τ 12 0 50 0 ∧ gL σ 5 0 1 = gL τ 12 0 51 ∧ UD n r σ τ
/-- a call that changes the real course -/
def dans (n r : Nat) (σ τ : ST) (ca cm : RS) : Prop := ∃ (v : Int32) (σ' τ' : ST), ca = some (some (vI v), σ') ∧ cm = some (some (vI v), τ') ∧ smC SD σ σ' ∧ smM KD τ τ' ∧ CU n r σ' τ'
section DED
variable {G n r : Nat} {σ τ : ST}
theorem dA1 (k : Nat) (f : Nat → Int32) : smC SD σ (sA σ 1 0 k f) := smC_A (S := SD) (c := 1) (o := 0) (Or.inl rfl) f
theorem dI1 (k : Nat) (v : Int32) : smC SD σ (sI σ 1 0 k v) := smC_I (S := SD) (c := 1) (o := 0) (Or.inl rfl) v
theorem dA5 (k : Nat) (f : Nat → Int32) : smC SD σ (sA σ 5 0 k f) := smC_A (S := SD) (c := 5) (o := 0) (Or.inr ⟨rfl, rfl⟩) f
/-- Deeds.add -/
theorem e_deed {u : Nat} (hu : u ≤ 20) (h6 : gI σ 1 0 6 = nI u) (k g w : Int32) : ∃ σ' v, den 19 [vR 1 0 0, vI k, vI g, vI w] σ = some (none, σ') ∧ smC (fun c _ => c = 1) σ σ' ∧ v < 20 ∧ gI σ' 1 0 6 = nI (v + 1) ∧ gA σ' 1 0 0 v = k ∧ gA σ' 1 0 1 v = g ∧ gA σ' 1 0 2 v = w ∧
    ((u < 20 ∧ v = u ∧ ∀ i, i < v → dEq (dlC σ') i (dlC σ) i) ∨ (u = 20 ∧ v = 19 ∧ ∀ i, i < v → dEq (dlC σ') i (dlC σ) (i + 1))) := by
  have A1 : ∀ (σ : ST) (k : Nat) (f : Nat → Int32), smC (fun c _ => c = 1) σ (sA σ 1 0 k f) := fun σ k f => smC_A (S := fun c _ => c = 1) (c := 1) (o := 0) rfl f
  have I1 : ∀ (σ : ST) (k : Nat) (v : Int32), smC (fun c _ => c = 1) σ (sI σ 1 0 k v) := fun σ k v => smC_I (S := fun c _ => c = 1) (c := 1) (o := 0) rfl v
  -- behind the test for room
  have put : ∀ (σ : ST) (v : Nat), v < 20 → gI σ 1 0 6 = nI v → run kX1_add 6 [some (vR 1 0 0), some (vI k), some (vI g), some (vI w)] [] σ = some (none, sI (sA (sA (sA σ 1 0 0 (upd (gA σ 1 0 0) v k)) 1 0 1 (upd (gA σ 1 0 1) v g)) 1 0 2 (upd (gA σ 1 0 2) v w)) 1 0 6 (nI (v + 1))) := by
    intro σ v hv hs
    have a1 := ob (i := v) (N := 20) (by omega) (by decide)
    have c1 : (nI v).toNatClampNeg = v := nI_clamp (by omega)
    rw [bX1_add_6, hs]
    simp only [c1, a1, ↓reduceIte, nI_S]
  by_cases e : u = 20
  · subst e
    have cpy : ∀ (f : Nat → Int32) (i : Nat), i < 19 → va_cpy f f 1 0 19 i = f (i + 1) := fun f i hi => by
      rw [pk_cpy_in (Nat.zero_le _) (by omega), Nat.sub_zero, Nat.add_comm]
    have c19 : Int32.toNatClampNeg 19 = 19 := rfl
    let σ1 : ST := sI (sA (sA (sA (sA (sA (sA σ 1 0 0 (va_cpy (gA σ 1 0 0) (gA σ 1 0 0) 1 0 19)) 1 0 1 (va_cpy (gA σ 1 0 1) (gA σ 1 0 1) 1 0 19)) 1 0 2 (va_cpy (gA σ 1 0 2) (gA σ 1 0 2) 1 0 19)) 1 0 3 (va_cpy (gA σ 1 0 3) (gA σ 1 0 3) 1 0 19)) 1 0 4 (va_cpy (gA σ 1 0 4) (gA σ 1 0 4) 1 0 19)) 1 0 5 (va_cpy (gA σ 1 0 5) (gA σ 1 0 5) 1 0 19)) 1 0 6 19
    have hd : den 20 [vR 1 0 0] σ = some (none, σ1) := by
      rw [dX1_dropFirst, bX1_dropFirst_0]
      rfl
    have hs1 : gI σ1 1 0 6 = nI 19 := rfl
    refine ⟨sI (sA (sA (sA σ1 1 0 0 (upd (gA σ1 1 0 0) 19 k)) 1 0 1 (upd (gA σ1 1 0 1) 19 g)) 1 0 2 (upd (gA σ1 1 0 2) 19 w)) 1 0 6 (nI 20), 19, ?_, ?_, by decide, rfl, ?_, ?_, ?_, Or.inr ⟨rfl, rfl, fun i hi => ⟨?_, ?_, ?_, ?_, ?_, ?_⟩⟩⟩
    · rw [dX1_add, bX1_add_0, h6, if_neg (show ¬ nI 20 < 20 by decide), hd, bnd_s, tl_n, put σ1 19 (by decide) hs1]
    · exact smC_t (smC_t (A1 _ _ _) (smC_t (A1 _ _ _) (smC_t (A1 _ _ _) (smC_t (A1 _ _ _) (smC_t (A1 _ _ _) (smC_t (A1 _ _ _) (I1 _ _ _))))))) (smC_t (A1 _ _ _) (smC_t (A1 _ _ _) (smC_t (A1 _ _ _) (I1 _ _ _))))
    · show upd (va_cpy (gA σ 1 0 0) (gA σ 1 0 0) 1 0 19) 19 k 19 = k
      rw [pk_us]
    · show upd (va_cpy (gA σ 1 0 1) (gA σ 1 0 1) 1 0 19) 19 g 19 = g
      rw [pk_us]
    · show upd (va_cpy (gA σ 1 0 2) (gA σ 1 0 2) 1 0 19) 19 w 19 = w
      rw [pk_us]
    · show upd (va_cpy (gA σ 1 0 0) (gA σ 1 0 0) 1 0 19) 19 k i = gA σ 1 0 0 (i + 1)
      rw [upd_o (by omega), cpy _ i (by omega)]
    · show upd (va_cpy (gA σ 1 0 1) (gA σ 1 0 1) 1 0 19) 19 g i = gA σ 1 0 1 (i + 1)
      rw [upd_o (by omega), cpy _ i (by omega)]
    · show upd (va_cpy (gA σ 1 0 2) (gA σ 1 0 2) 1 0 19) 19 w i = gA σ 1 0 2 (i + 1)
      rw [upd_o (by omega), cpy _ i (by omega)]
    · show va_cpy (gA σ 1 0 3) (gA σ 1 0 3) 1 0 19 i = gA σ 1 0 3 (i + 1)
      rw [cpy _ i (by omega)]
    · show va_cpy (gA σ 1 0 4) (gA σ 1 0 4) 1 0 19 i = gA σ 1 0 4 (i + 1)
      rw [cpy _ i (by omega)]
    · show va_cpy (gA σ 1 0 5) (gA σ 1 0 5) 1 0 19 i = gA σ 1 0 5 (i + 1)
      rw [cpy _ i (by omega)]
  · have hu' : u < 20 := by omega
    refine ⟨sI (sA (sA (sA σ 1 0 0 (upd (gA σ 1 0 0) u k)) 1 0 1 (upd (gA σ 1 0 1) u g)) 1 0 2 (upd (gA σ 1 0 2) u w)) 1 0 6 (nI (u + 1)), u, ?_, smC_t (A1 _ _ _) (smC_t (A1 _ _ _) (smC_t (A1 _ _ _) (I1 _ _ _))), hu', rfl, ?_, ?_, ?_, Or.inl ⟨hu', rfl, fun i hi => ⟨?_, ?_, ?_, rfl, rfl, rfl⟩⟩⟩
    · rw [dX1_add, bX1_add_0, h6, if_pos (show nI u < 20 from nI_lt (b := 20) hu' (by decide)), put σ u hu' h6]
    · show upd (gA σ 1 0 0) u k u = k
      rw [pk_us]
    · show upd (gA σ 1 0 1) u g u = g
      rw [pk_us]
    · show upd (gA σ 1 0 2) u w u = w
      rw [pk_us]
    · show upd (gA σ 1 0 0) u k i = gA σ 1 0 0 i
      rw [upd_o (by omega)]
    · show upd (gA σ 1 0 1) u g i = gA σ 1 0 1 i
      rw [upd_o (by omega)]
    · show upd (gA σ 1 0 2) u w i = gA σ 1 0 2 i
      rw [upd_o (by omega)]
theorem upd_b {f : Nat → Int32} {i : Nat} {x : Int32} : upd (upd f i x) i (f i) = f := by
  funext j
  by_cases e : j = i
  · rw [e, pk_us]
  · rw [upd_o e, upd_o e]
/-- a deed noted on both sides: what was undone by it is the plot as it stood -/
theorem deed_pair (hn : n ≤ 6) (hr : r ≤ 2) (hC : CU n r σ τ) (k g w : Int32) : ∃ σ' F v, den 19 [vR 1 0 0, vI k, vI g, vI w] σ = some (none, σ') ∧ den 283 [vR 12 0 0] τ = some (none, sI (sA τ 12 0 73 F) 12 0 72 (nI (v + 1))) ∧ smC (fun c _ => c = 1) σ σ' ∧ v < 20 ∧ gI σ' 1 0 6 = nI (v + 1) ∧ gA σ' 1 0 0 v = k ∧ gA σ' 1 0 1 v = g ∧ gA σ' 1 0 2 v = w ∧
    PN n r (plC σ 0) (plS F (24 * v)) ∧ ∀ D', (∀ i, i < v → dEq D' i (dlC σ') i) → UDc n r D' F v (plC σ 0) := by
  obtain ⟨hP, _, _, u, hu, u1, u2, u3⟩ := hC
  obtain ⟨σ', v, d1, d2, d3, d4, d5, d6, d7, d8⟩ := e_deed hu u1 k g w
  obtain ⟨F, v', m1, m2, m3, m4⟩ := m_remember hu u2
  have ev : v' = v := by
    rcases d8 with ⟨h1, h2, _⟩ | ⟨h1, h2, _⟩ <;> rcases m4 with ⟨h3, h4, _⟩ | ⟨h3, h4, _⟩ <;> omega
  subst ev
  refine ⟨σ', F, v', d1, m1, d2, d3, d4, d5, d6, d7, PN_q hn hr hP m3, fun D' hD => ?_⟩
  rcases d8 with ⟨h1, h2, h3⟩ | ⟨h1, h2, h3⟩
  · rcases m4 with ⟨_, _, h5⟩ | ⟨h4, _, _⟩
    · subst h2
      exact UDc_c hn hr v' _ (fun i hi => by
        obtain ⟨a1, a2, a3, a4, a5, a6⟩ := hD i hi
        obtain ⟨b1, b2, b3, b4, b5, b6⟩ := h3 i hi
        exact ⟨a1.trans b1, a2.trans b2, a3.trans b3, a4.trans b4, a5.trans b5, a6.trans b6⟩) h5 u3
    · omega
  · rcases m4 with ⟨h4, _, _⟩ | ⟨_, _, h5⟩
    · omega
    · subst h1 h2
      exact UDc_s hn hr 19 _ (fun i hi => by
        obtain ⟨a1, a2, a3, a4, a5, a6⟩ := hD i hi
        obtain ⟨b1, b2, b3, b4, b5, b6⟩ := h3 i hi
        exact ⟨a1.trans b1, a2.trans b2, a3.trans b3, a4.trans b4, a5.trans b5, a6.trans b6⟩) h5 u3
theorem dI_0 (i : Nat) (D : PL) : dEq D i D i := ⟨rfl, rfl, rfl, rfl, rfl, rfl⟩
/-- the class's plot isn't touched by a note -/
theorem sm1_pl {σ' : ST} (h : smC (fun c _ => c = 1) σ σ') (o : Nat) : gA σ' 5 o = gA σ 5 o ∧ gI σ' 5 o = gI σ 5 o ∧ gL σ' 5 o = gL σ 5 o := by
  have h5 := h 5 o (show ¬ (5 : Nat) = 1 by decide)
  exact ⟨h5.2.2.2, h5.1, h5.2.1⟩
theorem c_show (hG : RG G n r σ τ) (hC : CU n r σ τ) (x y : Int32) {z : Int32} (hz : z = 0 ∨ z = 1) : dans n r σ τ (den 119 [vR 11 0 0, vI x, vI y, vI z] σ) (den 233 [vR 12 0 0, vI x, vI y, vI z] τ) := by
  have hn6 := hG.n6
  have hr2 := hG.r2
  have hm : gI (th0 τ) 12 0 12 = nI n := hG.mn
  have s0 : smM KD τ (th0 τ) := smM_I (Or.inl rfl) 0
  have hC0 : CU n r σ (th0 τ) := hC
  rw [dX11_show, bX11_show_0, e_areTwo, hG.cn, bnd_s, tl_s, bX11_show_4, dX12_show, bX12_show_0, m_areTwo, hm, bnd_s, tl_s, bX12_show_7]
  rcases twb_nI (a := x) (c := y) (n := n) (by omega) with h | ⟨i, j, hi, hj, hij, rfl, rfl, h⟩
  · rw [h, if_pos rfl, if_pos rfl]
    exact ⟨0, _, _, rfl, rfl, smC_0, s0, hC⟩
  have a1 := ob (i := i) (N := 6) (by omega) (by decide)
  have a2 := ob (i := i) (N := 12) (by omega) (by decide)
  have c1 : (nI i).toNatClampNeg = i := nI_clamp (by omega)
  obtain ⟨es, X, hX, _, eX⟩ := hC.1.1.2.2.1 i (by omega)
  have hX64 : X < 64 := Nat.lt_of_lt_of_le hX (p2_64 hn6)
  have es' : gA (th0 τ) 12 0 46 i = nI X := es.symm.trans eX
  have eX' : gA σ 5 0 4 i = nI X := eX
  rw [h, if_neg i10, if_neg i10, e_isSeen σ 0 (by omega), bnd_s, tl_s, bX11_show_11]
  simp only [c1, a1, a2, ↓reduceIte]
  rw [m_isOf, bnd_s, tl_s, bX12_show_14, es', eX']
  by_cases hb : bit (nI X) (nI j) = z
  · rw [if_pos hb, if_pos hb]
    exact ⟨0, _, _, rfl, rfl, smC_0, s0, hC⟩
  obtain ⟨σ1, F, v, d1, d2, d3, d4, d5, d6, d7, d8, d9, d10⟩ := deed_pair hn6 hr2 hC0 0 (nI i) (nI X)
  obtain ⟨p1, p2, p3⟩ := sm1_pl d3 0
  -- the sights of that one, turned
  obtain ⟨Y, hY, y1, y2, y3⟩ : ∃ Y, Y < 2 ^ n ∧ (if z = 0 then nI X &&& (((1 : Int32) <<< (nI j &&& 31)) ^^^ -1) else nI X ||| ((1 : Int32) <<< (nI j &&& 31))) = nI Y ∧ nI X ^^^ ((1 : Int32) <<< (nI j &&& 31)) = nI Y ∧ bit (nI Y) (nI i) = 0 := by
    have hself : bit (nI X) (nI i) = 0 := by
      have := hC.1.2 i hi
      have e : (plC σ 0).2.2.1 i = nI X := eX
      rw [e] at this
      exact this
    rcases hz with rfl | rfl
    · have ta := tta X hX64 j (by omega) hb
      refine ⟨X - 2 ^ j, Nat.lt_of_le_of_lt (Nat.sub_le _ _) hX, ?_, ta, ?_⟩
      · rw [if_pos rfl]
        have : ∀ X, X < 64 → ∀ j, j < 6 → ¬ bit (nI X) (nI j) = 0 → nI X &&& (((1 : Int32) <<< (nI j &&& 31)) ^^^ -1) = nI (X - 2 ^ j) := by decide +kernel
        exact this X hX64 j (by omega) hb
      · refine Classical.byContradiction (fun hc => ?_)
        exact ttb X hX64 j (by omega) i (by omega) ⟨hb, hc⟩ hself
    · have hb0 : bit (nI X) (nI j) = 0 := (bit_01 _ _).resolve_right hb
      obtain ⟨l1, l2, l3⟩ := lo1 X hX64 j (by omega) hb0
      refine ⟨X + 2 ^ j, (pt2 n (by omega) X hX64 hX).2 j hj ((bit_iff hX64 (by omega)).mp hb0), ?_, l2, lo2 X hX64 j (by omega) hb0 i (by omega) hij hself⟩
      rw [if_neg i10, l1, l2]
  have es1 : gA σ1 5 0 4 i = nI X := by rw [p1]; exact eX
  have hset : den 48 [vR 5 0 0, vI (nI i), vI (nI j), vI z] σ1 = some (none, sA σ1 5 0 4 (upd (gA σ1 5 0 4) i (nI Y))) := by
    rw [dX5_setSeen, bX5_setSeen_0]
    simp only [c1, a1, ↓reduceIte]
    rw [es1]
    rcases hz with rfl | rfl
    · rw [if_pos rfl] at y1 ⊢
      rw [y1]
    · rw [if_neg i10] at y1 ⊢
      rw [y1]
  have e46 : gA (sI (sA (th0 τ) 12 0 73 F) 12 0 72 (nI (v + 1))) 12 0 46 = gA τ 12 0 46 := rfl
  have es46 : gA τ 12 0 46 i = nI X := es'
  rw [if_neg hb, if_neg hb, dX1_noteShow, bX1_noteShow_0, d1, bnd_s, tl_n, bX1_noteShow_5, bnd_s, tl_n, bX11_show_25, hset, bnd_s, tl_n, bX11_show_32, d2, bnd_s, tl_n, bX12_show_20, e46]
  simp only [c1, a2, ↓reduceIte]
  rw [es46, y2]
  have smD : smC SD σ σ1 := smC_w d3 (fun c o hc => Or.inl hc)
  refine ⟨1, _, _, rfl, rfl, smC_t smD (dA5 _ _), smM_t s0 (smM_t (smM_A (by omega) _) (smM_t (smM_I (by omega) _) (smM_A (by omega) _))), ⟨⟨?_, ?_, ?_, ?_, ?_, ?_, ?_⟩, ?_⟩, ?_, ?_, ⟨v + 1, by omega, ?_, rfl, ?_⟩⟩
  · exact fun q hq => by
      show gA σ1 5 0 2 q = _ ∧ ∃ x, x ≤ 999 ∧ gA σ1 5 0 2 q = nI x
      rw [p1]
      exact hC.1.1.1 q hq
  · exact fun q hq => by
      show gA σ1 5 0 3 q = _
      rw [p1]
      exact hC.1.1.2.1 q hq
  · intro q hq
    show upd (gA σ1 5 0 4) i (nI Y) q = upd (gA τ 12 0 46) i (nI Y) q ∧ ∃ x, x < 2 ^ n ∧ (n ≤ q → x = 0) ∧ upd (gA σ1 5 0 4) i (nI Y) q = nI x
    by_cases e : q = i
    · rw [e, pk_us, pk_us]
      exact ⟨rfl, Y, hY, fun hh => by omega, rfl⟩
    · rw [upd_o e, upd_o e, p1]
      exact hC.1.1.2.2.1 q hq
  · exact fun q hq => by
      show gA σ1 5 0 5 q = _ ∧ ∃ x, x < n ∧ gA σ1 5 0 5 q = nI x
      rw [p1]
      exact hC.1.1.2.2.2.1 q hq
  · exact fun q hq => by
      show gA σ1 5 0 6 q = _
      rw [p1]
      exact hC.1.1.2.2.2.2.1 q hq
  · exact fun q hq => by
      show gA σ1 5 0 7 q = _
      rw [p1]
      exact hC.1.1.2.2.2.2.2.1 q hq
  · exact fun q h1 h2 => by
      show gA σ1 5 0 7 q = _
      rw [p1]
      exact hC.1.1.2.2.2.2.2.2 q h1 h2
  · intro q hq
    show bit (upd (gA σ1 5 0 4) i (nI Y) q) (nI q) = 0
    by_cases e : q = i
    · rw [e, pk_us]
      exact y3
    · rw [upd_o e, p1]
      exact hC.1.2 q hq
  · show gI σ1 5 0 0 = _
    rw [p2]
    exact hC.2.1
  · show gL σ1 5 0 1 = _
    rw [p3]
    exact hC.2.2.1
  · exact d5
  · have tb : tbD (dlC (sA σ1 5 0 4 (upd (gA σ1 5 0 4) i (nI Y)))) v (plC (sA σ1 5 0 4 (upd (gA σ1 5 0 4) i (nI Y))) 0) = plC σ 0 := by
      show tbP (gA σ1 1 0 0 v) (gA σ1 1 0 1 v) (gA σ1 1 0 2 v) (gA σ1 1 0 3 v) (gA σ1 1 0 4 v) (gA σ1 1 0 5 v) (gA σ1 5 0 2, gA σ1 5 0 3, upd (gA σ1 5 0 4) i (nI Y), gA σ1 5 0 5, gA σ1 5 0 6, gA σ1 5 0 7) = plC σ 0
      rw [d6, d7, d8, p1]
      unfold tbP
      rw [if_pos rfl, c1]
      show (gA σ 5 0 2, gA σ 5 0 3, upd (upd (gA σ 5 0 4) i (nI Y)) i (nI X), gA σ 5 0 5, gA σ 5 0 6, gA σ 5 0 7) = plC σ 0
      rw [← eX', upd_b]
      rfl
    refine ⟨⟨⟨i, hi, d7⟩, Or.inl d6⟩, ?_, ?_⟩
    · rw [tb]
      exact d9
    · rw [tb]
      exact d10 _ (fun i _ => dI_0 i _)
theorem c_raise (hG : RG G n r σ τ) (hC : CU n r σ τ) (x y : Int32) : dans n r σ τ (den 120 [vR 11 0 0, vI x, vI y] σ) (den 234 [vR 12 0 0, vI x, vI y] τ) := by
  have hn6 := hG.n6
  have hr2 := hG.r2
  have hm : gI (th0 τ) 12 0 12 = nI n := hG.mn
  have s0 : smM KD τ (th0 τ) := smM_I (Or.inl rfl) 0
  have hC0 : CU n r σ (th0 τ) := hC
  rw [dX11_raise, bX11_raise_0, e_isGrower, hG.cn, bnd_s, tl_s, bX11_raise_3, dX12_raise, bX12_raise_0, m_isGrower, hm, bnd_s, tl_s, bX12_raise_6]
  rcases isb_nI (g := x) (n := n) (by omega) with h | ⟨i, hi, rfl, h⟩
  · rw [h, if_pos rfl, if_pos rfl]
    exact ⟨-1, _, _, rfl, rfl, smC_0, s0, hC⟩
  rw [h, if_neg i10, if_neg i10]
  by_cases y0 : y = 0
  · rw [if_pos y0, if_pos y0]
    exact ⟨-1, _, _, rfl, rfl, smC_0, s0, hC⟩
  rw [if_neg y0, if_neg y0, e_isWithin, m_isIn, bnd_s, bnd_s, tl_s, bX11_raise_10, bX12_raise_13]
  by_cases h1 : inb y (-99) 99 = 0
  · rw [if_pos h1, if_pos h1]
    exact ⟨-1, _, _, rfl, rfl, smC_0, s0, hC⟩
  have a1 := ob (i := i) (N := 6) (by omega) (by decide)
  have a2 := ob (i := i) (N := 12) (by omega) (by decide)
  have c1 : (nI i).toNatClampNeg = i := nI_clamp (by omega)
  obtain ⟨ew, W, hW, eW⟩ := hC.1.1.1 i hi
  have eW' : gA σ 5 0 2 i = nI W := eW
  have ew' : gA τ 12 0 44 i = nI W := ew.symm.trans eW
  obtain ⟨σ1, F, v, d1, d2, d3, d4, d5, d6, d7, d8, d9, d10⟩ := deed_pair hn6 hr2 hC0 1 (nI i) (nI W)
  obtain ⟨p1, p2, p3⟩ := sm1_pl d3 0
  obtain ⟨Z, hZ, eZ⟩ := clp_nI (nI W + y)
  have hadd : den 50 [vR 5 0 0, vI (nI i), vI y] σ1 = some (none, sA σ1 5 0 2 (upd (gA σ1 5 0 2) i (nI Z))) := by
    rw [e_addWorth σ1 0 (by omega), p1, eW', eZ]
  have e44 : gA (sI (sA (th0 τ) 12 0 73 F) 12 0 72 (nI (v + 1))) 12 0 44 = gA τ 12 0 44 := rfl
  have hcls : (if (gA τ 12 0 44 i + y) < 0 then (some (some (vI (upd (gA τ 12 0 44) i 0 i)), sA (sI (sA (th0 τ) 12 0 73 F) 12 0 72 (nI (v + 1))) 12 0 44 (upd (gA τ 12 0 44) i 0)) : RS) else if (999 : Int32) < gA τ 12 0 44 i + y then some (some (vI (upd (gA τ 12 0 44) i 999 i)), sA (sI (sA (th0 τ) 12 0 73 F) 12 0 72 (nI (v + 1))) 12 0 44 (upd (gA τ 12 0 44) i 999)) else some (some (vI (upd (gA τ 12 0 44) i (gA τ 12 0 44 i + y) i)), sA (sI (sA (th0 τ) 12 0 73 F) 12 0 72 (nI (v + 1))) 12 0 44 (upd (gA τ 12 0 44) i (gA τ 12 0 44 i + y)))) = some (some (vI (nI Z)), sA (sI (sA (th0 τ) 12 0 73 F) 12 0 72 (nI (v + 1))) 12 0 44 (upd (gA τ 12 0 44) i (nI Z))) := by
    rw [ew', ← eZ]
    unfold clp
    by_cases k1 : nI W + y < 0
    · rw [if_pos k1, if_pos k1, pk_us]
    · rw [if_neg k1, if_neg k1]
      by_cases k2 : (999 : Int32) < nI W + y
      · rw [if_pos k2, if_pos k2, pk_us]
      · rw [if_neg k2, if_neg k2, pk_us]
  have hres : gA (sA σ1 5 0 2 (upd (gA σ1 5 0 2) i (nI Z))) 5 0 2 i = nI Z := by
    rw [gA_s, pk_us]
  rw [if_neg h1, if_neg h1]
  simp only [c1, a1, ↓reduceIte]
  rw [eW', dX1_noteRaise, bX1_noteRaise_0, d1, bnd_s, tl_n, bX1_noteRaise_5, bnd_s, tl_n, bX11_raise_23, hadd, bnd_s, tl_n, bX11_raise_29, d2, bnd_s, tl_n, bX12_raise_18, e44]
  simp only [c1, a1, a2, ↓reduceIte]
  rw [hcls, hres]
  have smD : smC SD σ σ1 := smC_w d3 (fun c o hc => Or.inl hc)
  refine ⟨nI Z, _, _, rfl, rfl, smC_t smD (dA5 _ _), smM_t s0 (smM_t (smM_A (by omega) _) (smM_t (smM_I (by omega) _) (smM_A (by omega) _))), ⟨⟨?_, ?_, ?_, ?_, ?_, ?_, ?_⟩, ?_⟩, ?_, ?_, ⟨v + 1, by omega, ?_, rfl, ?_⟩⟩
  · intro q hq
    show upd (gA σ1 5 0 2) i (nI Z) q = upd (gA τ 12 0 44) i (nI Z) q ∧ ∃ x, x ≤ 999 ∧ upd (gA σ1 5 0 2) i (nI Z) q = nI x
    by_cases e : q = i
    · rw [e, pk_us, pk_us]
      exact ⟨rfl, Z, hZ, rfl⟩
    · rw [upd_o e, upd_o e, p1]
      exact hC.1.1.1 q hq
  · exact fun q hq => by
      show gA σ1 5 0 3 q = _
      rw [p1]
      exact hC.1.1.2.1 q hq
  · exact fun q hq => by
      show gA σ1 5 0 4 q = _ ∧ ∃ x, x < 2 ^ n ∧ (n ≤ q → x = 0) ∧ gA σ1 5 0 4 q = nI x
      rw [p1]
      exact hC.1.1.2.2.1 q hq
  · exact fun q hq => by
      show gA σ1 5 0 5 q = _ ∧ ∃ x, x < n ∧ gA σ1 5 0 5 q = nI x
      rw [p1]
      exact hC.1.1.2.2.2.1 q hq
  · exact fun q hq => by
      show gA σ1 5 0 6 q = _
      rw [p1]
      exact hC.1.1.2.2.2.2.1 q hq
  · exact fun q hq => by
      show gA σ1 5 0 7 q = _
      rw [p1]
      exact hC.1.1.2.2.2.2.2.1 q hq
  · exact fun q h1 h2 => by
      show gA σ1 5 0 7 q = _
      rw [p1]
      exact hC.1.1.2.2.2.2.2.2 q h1 h2
  · exact fun q hq => by
      show bit (gA σ1 5 0 4 q) (nI q) = 0
      rw [p1]
      exact hC.1.2 q hq
  · show gI σ1 5 0 0 = _
    rw [p2]
    exact hC.2.1
  · show gL σ1 5 0 1 = _
    rw [p3]
    exact hC.2.2.1
  · exact d5
  · have tb : tbD (dlC (sA σ1 5 0 2 (upd (gA σ1 5 0 2) i (nI Z)))) v (plC (sA σ1 5 0 2 (upd (gA σ1 5 0 2) i (nI Z))) 0) = plC σ 0 := by
      show tbP (gA σ1 1 0 0 v) (gA σ1 1 0 1 v) (gA σ1 1 0 2 v) (gA σ1 1 0 3 v) (gA σ1 1 0 4 v) (gA σ1 1 0 5 v) (upd (gA σ1 5 0 2) i (nI Z), gA σ1 5 0 3, gA σ1 5 0 4, gA σ1 5 0 5, gA σ1 5 0 6, gA σ1 5 0 7) = plC σ 0
      rw [d6, d7, d8, p1]
      unfold tbP
      rw [if_neg i10, if_pos rfl, c1]
      show (upd (upd (gA σ 5 0 2) i (nI Z)) i (nI W), gA σ 5 0 3, gA σ 5 0 4, gA σ 5 0 5, gA σ 5 0 6, gA σ 5 0 7) = plC σ 0
      rw [← eW', upd_b]
      rfl
    refine ⟨⟨⟨i, hi, d7⟩, Or.inr (Or.inl d6)⟩, ?_, ?_⟩
    · rw [tb]
      exact d9
    · rw [tb]
      exact d10 _ (fun i _ => dI_0 i _)
end DED
