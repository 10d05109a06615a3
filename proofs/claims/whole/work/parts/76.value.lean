/-! READING A TEXT: laws; values -/
def LX (H o f : Nat) (σ τ σ' τ' : ST) : Prop := lxC H o σ σ' ∧ lxM f τ τ'
theorem LX_t {H o f : Nat} {σ τ σ' τ' σ'' τ'' : ST} (h1 : LX H o f σ τ σ' τ') (h2 : LX H o f σ' τ' σ'' τ'') : LX H o f σ τ σ'' τ'' := ⟨lxC_t h1.1 h2.1, lxM_t h1.2 h2.2⟩
theorem LX_0 {H o f : Nat} {σ τ : ST} : LX H o f σ τ σ τ := ⟨lxC_0, lxM_0⟩
def MD (m : Nat) (τ : ST) : Prop := (m = 0 ∧ gI τ 12 0 39 = 1 ∧ gI τ 12 0 40 = 1) ∨ (m = 1 ∧ gI τ 12 0 39 = 1 ∧ gI τ 12 0 40 = 0) ∨ (m = 2 ∧ gI τ 12 0 39 = 0)
section VAL
variable {L : Nat} {t : Nat → Nat} {H o f i B cnt p q m : Nat} {ws st : List Nat} {σ σ' τ τ' : ST}
theorem RB_x (h : RB L t H σ τ) (hx : LX H o f σ τ σ' τ') : RB L t H σ' τ' := by
  obtain ⟨h1, h2, h3, h4, h5, h6⟩ := h
  obtain ⟨c1, c2, c3, c4⟩ := hx.1
  obtain ⟨m1, m2, m3, m4⟩ := hx.2
  have nk : ∀ k, k < 7 → ¬ lxK k := fun k hk => by unfold lxK; omega
  refine ⟨⟨h1.1, (c1 9 0 2 (by omega) (by omega) (by omega) (by omega)).trans h1.2.1, (m1 6 (nk 6 (by omega))).trans h1.2.2.1, ?_⟩, ?_, ?_, h4, (c1 9 0 4 (by omega) (by omega) (by omega) (by omega)).trans h5, (m1 1 (nk 1 (by omega))).trans h6⟩
  · rw [c4 9 0 1 (by omega) (by omega), m3 0 (by omega)]
    exact h1.2.2.2
  · unfold WD
    rw [c4 9 0 0 (by omega) (by omega), m3 3 (by omega)]
    exact h2
  · rw [c3]
    exact h3
theorem FTQ_x (h : FTQ σ τ) (hx : LX H o f σ τ σ' τ') : FTQ σ' τ' := by
  obtain ⟨c1, c2, c3, c4⟩ := hx.1
  obtain ⟨m1, m2, m3, m4⟩ := hx.2
  have nk : ∀ k, k < 7 → ¬ lxK k := fun k hk => by unfold lxK; omega
  unfold FTQ
  rw [c1 6 0 8 (by omega) (by omega) (by omega) (by omega), c1 6 0 9 (by omega) (by omega) (by omega) (by omega), m1 4 (nk 4 (by omega)), m1 5 (nk 5 (by omega))]
  exact h
theorem EX_f (h : EX H o f i B cnt ws st σ τ) (hc : ftC σ σ') (hm : ftM τ τ') : EX H o f i B cnt ws st σ' τ' := by
  unfold EX
  rw [hc.1 6 0 2 (by omega), hm.1 12 0 35 (by omega), hc.1 6 0 3 (by omega), hm.1 12 0 37 (by omega), hc.1 2 H 4 (by omega), hm.1 12 0 38 (by omega), hc.1 3 o 1 (by omega), hm.1 12 0 17 (by omega), hm.1 12 0 36 (by omega), ftC_A hc, ftM_A hm]
  exact h
theorem MD_f (h : MD m τ) (hm : ftM τ τ') : MD m τ' := by
  unfold MD
  rw [hm.1 12 0 39 (by omega), hm.1 12 0 40 (by omega)]
  exact h
/-- bounds -/
theorem EX_b (h : EX H o f i B cnt ws st σ τ) : f + i ≤ cnt ∧ ws.length ≤ cnt + B ∧ cnt ≤ 64 ∧ B ≤ 8 := by
  obtain ⟨⟨p1, p2, p3, p4, p5⟩, _⟩ := h
  have := zc_le ws
  omega
/-- a leaf more -/
abbrev lfC (σ : ST) (H o i cnt : Nat) (x : Int32) : ST := sI (sA (sI σ 2 H 4 (nI (cnt + 1))) 3 o 0 (upd (gA (sI σ 2 H 4 (nI (cnt + 1))) 3 o 0) i x)) 3 o 1 (nI (i + 1))
abbrev lfM (τ : ST) (cnt kr s : Nat) (k a : Int32) : ST := sI (grM (sI τ 12 0 38 (nI (cnt + 1))) kr s k a 0) 12 0 39 0
theorem EX_leaf (h : EX H o f i B cnt ws st σ τ) (hc : cnt < 64) {x k a : Int32} (hst : stp1 (upd (gA σ 3 o 0) i x) (fun j => upd (gA τ 12 0 30) (64 + (f + i)) k (64 + j)) (fun j => upd (gA τ 12 0 31) (64 + (f + i)) a (64 + j)) (fun j => upd (gA τ 12 0 32) (64 + (f + i)) 0 (64 + j)) f i st ((f + i) :: st)) : EX H o f (i + 1) B (cnt + 1) ws ((f + i) :: st) (lfC σ H o i cnt x) (lfM τ cnt (f + i) st.length k a) := by
  obtain ⟨⟨p1, p2, p3, p4, p5⟩, h1, h3, h4, ⟨h5, h6⟩, h7, h8, h9, h10, h11⟩ := h
  refine ⟨⟨p1, p2, by omega, p4, by omega⟩, h1, h3, ⟨?_, rfl⟩, ⟨?_, rfl⟩, rfl, h8, h9, ?_, ?_⟩
  · show gI (sI σ 2 H 4 (nI (cnt + 1))) 2 H 4 = _
    exact gI_s
  · exact gI_s
  · exact skA_p h10 (f + i)
  · have e : gA (lfC σ H o i cnt x) 3 o 0 = upd (gA σ 3 o 0) i x := gA_s
    rw [e]
    refine ⟨st, wfS_c i st (fun j hj => upd_o (by omega)) (fun j hj => ?_) h11, hst⟩
    have hj' : ¬ 64 + j = 64 + (f + i) := by omega
    exact ⟨upd_o hj', upd_o hj', upd_o hj'⟩
/-- a sign more that waits -/
abbrev dfC (σ : ST) (H cnt W : Nat) (x : Int32) : ST := sI (sA (sI σ 2 H 4 (nI (cnt + 1))) 6 0 1 (upd (gA (sI σ 2 H 4 (nI (cnt + 1))) 6 0 1) W x)) 6 0 2 (nI (W + 1))
abbrev dfM (τ : ST) (cnt W : Nat) (x : Int32) : ST := sI (sA (sI τ 12 0 38 (nI (cnt + 1))) 12 0 33 (upd (gA (sI τ 12 0 38 (nI (cnt + 1))) 12 0 33) W x)) 12 0 35 (nI (W + 1))
theorem EX_def (h : EX H o f i B cnt ws st σ τ) (hc : cnt < 64) {k : Nat} (hk : 2 ≤ k ∧ k ≤ 14) : EX H o f i B (cnt + 1) (k :: ws) st (dfC σ H cnt ws.length (nI (csg k))) (dfM τ cnt ws.length (nI k)) := by
  obtain ⟨⟨p1, p2, p3, p4, p5⟩, h1, h3, h4, h5, h7, h8, h9, h10, h11⟩ := h
  refine ⟨⟨fun k' hk' => ?_, ?_, by rw [List.length_cons]; omega, p4, by omega⟩, ⟨rfl, rfl⟩, h3, ⟨?_, rfl⟩, h5, h7, ?_, ?_, h10, h11⟩
  · rcases List.mem_cons.mp hk' with e | e
    · rw [e]; exact Or.inr hk
    · exact p1 k' e
  · rw [zc, if_neg (by omega)]
    exact p2
  · show gI (sI σ 2 H 4 (nI (cnt + 1))) 2 H 4 = _
    exact gI_s
  · exact skA_p (g := fun k => nI (csg k)) h8 k
  · exact skA_p h9 k
abbrev opC (σ : ST) (B W : Nat) : ST := sI (sA (sI σ 6 0 3 (nI (B + 1))) 6 0 1 (upd (gA (sI σ 6 0 3 (nI (B + 1))) 6 0 1) W 13)) 6 0 2 (nI (W + 1))
abbrev opM (τ : ST) (B W : Nat) : ST := sI (sA (sI τ 12 0 37 (nI (B + 1))) 12 0 33 (upd (gA (sI τ 12 0 37 (nI (B + 1))) 12 0 33) W 0)) 12 0 35 (nI (W + 1))
theorem EX_opn (h : EX H o f i B cnt ws st σ τ) (hB : B < 8) : EX H o f i (B + 1) cnt (0 :: ws) st (opC σ B ws.length) (opM τ B ws.length) := by
  obtain ⟨⟨p1, p2, p3, p4, p5⟩, h1, h3, h4, h5, h7, h8, h9, h10, h11⟩ := h
  refine ⟨⟨fun k' hk' => ?_, ?_, by rw [List.length_cons]; omega, by omega, p5⟩, ⟨rfl, rfl⟩, ⟨rfl, rfl⟩, h4, h5, h7, ?_, ?_, h10, h11⟩
  · rcases List.mem_cons.mp hk' with e | e
    · rw [e]; exact Or.inl rfl
    · exact p1 k' e
  · rw [zc, if_pos rfl, p2]
  · exact skA_p (g := fun k => nI (csg k)) h8 0
  · exact skA_p h9 0
theorem lf_x {s : Nat} (hf : f ≤ f + i) (x k a : Int32) : LX H o f σ τ (lfC σ H o i cnt x) (lfM τ cnt (f + i) s k a) := ⟨lxC_t (lxC_I (Or.inr (Or.inl ⟨rfl, rfl, rfl⟩)) _) (lxC_t (lxC_A (Or.inr ⟨rfl, rfl, rfl⟩) _) (lxC_I (Or.inr (Or.inr ⟨rfl, rfl, rfl⟩)) _)), lxM_t (lxM_I (Or.inr (Or.inr (by omega))) _) (lxM_t (gr_fM hf k a 0) (lxM_I (Or.inr (Or.inr (by omega))) _))⟩
theorem df_x (W : Nat) (x y : Int32) : LX H o f σ τ (dfC σ H cnt W x) (dfM τ cnt W y) := ⟨lxC_t (lxC_I (Or.inr (Or.inl ⟨rfl, rfl, rfl⟩)) _) (lxC_t (lxC_A (Or.inl ⟨rfl, rfl⟩) _) (lxC_I (Or.inl ⟨rfl, Or.inl rfl⟩) _)), lxM_t (lxM_I (Or.inr (Or.inr (by omega))) _) (lxM_t (lxM_A (by omega) _) (lxM_I (Or.inr (Or.inr (by omega))) _))⟩
theorem op_x (W : Nat) : LX H o f σ τ (opC σ B W) (opM τ B W) := ⟨lxC_t (lxC_I (Or.inl ⟨rfl, Or.inr rfl⟩) _) (lxC_t (lxC_A (Or.inl ⟨rfl, rfl⟩) _) (lxC_I (Or.inl ⟨rfl, Or.inl rfl⟩) _)), lxM_t (lxM_I (Or.inr (Or.inr (by omega))) _) (lxM_t (lxM_A (by omega) _) (lxM_I (Or.inr (Or.inr (by omega))) _))⟩
/-- one round: it fails, or goes on behind the token -/
def rnd (L H o f p q : Nat) (σ τ : ST) (ca cm : RS) : Prop :=
  (∃ x σ' τ', ca = some (some (vI 4), faC σ' x) ∧ cm = some (some (vI 0), faM τ' x) ∧ LX H o f σ τ σ' τ' ∧ TKS L σ' τ' p q) ∨
  ∃ m i B cnt ws st σ' τ', m < 3 ∧ ca = some (some (vI (nI m)), σ') ∧ (∀ τ'', den 171 [vR 12 0 0] τ' = some (none, τ'') → cm = some (some (vI 1), τ'')) ∧ EX H o f i B cnt ws st σ' τ' ∧ MD m τ' ∧ st.length = bc ws + (if m = 2 then 1 else 0) ∧ LX H o f σ τ σ' τ' ∧ TKS L σ' τ' p q ∧ p < q
theorem rnd_f (hx : LX H o f σ τ σ' τ') (hK : TKS L σ' τ' p q) (x : Int32) : rnd L H o f p q σ τ (some (some (vI 4), faC σ' x)) (some (some (vI 0), faM τ' x)) := Or.inl ⟨x, σ', τ', rfl, rfl, hx, hK⟩
end VAL
