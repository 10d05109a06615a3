/-! READING A TEXT: laws; the signs that wait go into the law -/
/-- how far a law has been read: i knots from f on, B brackets, cnt counted, ws waiting, st what is held -/
def EX (H o f i B cnt : Nat) (ws st : List Nat) (σ τ : ST) : Prop :=
  ((∀ k, k ∈ ws → okw k) ∧ zc ws = B ∧ f + i + ws.length = cnt + B ∧ B ≤ 8 ∧ cnt ≤ 64) ∧
  (gI σ 6 0 2 = nI ws.length ∧ gI τ 12 0 35 = nI ws.length) ∧ (gI σ 6 0 3 = nI B ∧ gI τ 12 0 37 = nI B) ∧ (gI σ 2 H 4 = nI cnt ∧ gI τ 12 0 38 = nI cnt) ∧ (gI σ 3 o 1 = nI i ∧ gI τ 12 0 17 = nI (f + i)) ∧ gI τ 12 0 36 = nI st.length ∧
  skA (gA σ 6 0 1) (fun k => nI (csg k)) ws ∧ skA (gA τ 12 0 33) nI ws ∧ skA (gA τ 12 0 34) nI st ∧ wfS (gA σ 3 o 0) (fun j => gA τ 12 0 30 (64 + j)) (fun j => gA τ 12 0 31 (64 + j)) (fun j => gA τ 12 0 32 (64 + j)) f i st
theorem zc_le : ∀ ws, zc ws ≤ ws.length
  | [] => Nat.le_refl _
  | k :: r => by
    have := zc_le r
    unfold zc
    rw [List.length_cons]
    split <;> omega
/-- tokens stand -/
def tkE (σ τ σ' τ' : ST) : Prop := (∀ k, gI σ' 9 0 k = gI σ 9 0 k) ∧ ∀ k, ((7 ≤ k ∧ k ≤ 10) ∨ (39 ≤ k ∧ k ≤ 40)) → gI τ' 12 0 k = gI τ 12 0 k
theorem tkE_t {σ τ σ' τ' σ'' τ'' : ST} (h1 : tkE σ τ σ' τ') (h2 : tkE σ' τ' σ'' τ'') : tkE σ τ σ'' τ'' := ⟨fun k => (h2.1 k).trans (h1.1 k), fun k a => (h2.2 k a).trans (h1.2 k a)⟩
theorem tkE_s {L p q : Nat} {σ τ σ' τ' : ST} (hK : TKS L σ τ p q) (h : tkE σ τ σ' τ') : TKS L σ' τ' p q := TKS_s hK (h.1 3) (h.1 5) (h.1 6) (h.1 7) (h.2 7 (by decide)) (h.2 8 (by decide)) (h.2 9 (by decide)) (h.2 10 (by decide))
section BIND
variable {H o f i B cnt : Nat} {ws st : List Nat} {σ τ : ST}
/-- a knot grows -/
abbrev gnC (σ : ST) (o i W : Nat) (x : Int32) : ST := sI (sI (sA σ 3 o 0 (upd (gA σ 3 o 0) i x)) 3 o 1 (nI (i + 1))) 6 0 2 (nI W)
abbrev gnM (τ : ST) (W s kr : Nat) (k a b : Int32) : ST := grM (sI (sI τ 12 0 35 (nI W)) 12 0 36 (nI s)) kr s k a b
theorem EX_gn (h : EX H o f i B cnt ws st σ τ) {k : Nat} {r r' : List Nat} (hws : ws = k :: r) (hk : 2 ≤ k) (hs : skA (gA τ 12 0 34) nI r') {x kk a b : Int32} (hst : stp1 (upd (gA σ 3 o 0) i x) (fun j => upd (gA τ 12 0 30) (64 + (f + i)) kk (64 + j)) (fun j => upd (gA τ 12 0 31) (64 + (f + i)) a (64 + j)) (fun j => upd (gA τ 12 0 32) (64 + (f + i)) b (64 + j)) f i st ((f + i) :: r')) : EX H o f (i + 1) B cnt r ((f + i) :: r') (gnC σ o i r.length x) (gnM τ r.length r'.length (f + i) kk a b) := by
  subst hws
  obtain ⟨⟨p1, p2, p3, p4, p5⟩, ⟨h1, h2⟩, h3, h4, ⟨h5, h6⟩, h7, h8, h9, h10, h11⟩ := h
  rw [List.length_cons] at p3
  refine ⟨⟨fun k' hk' => p1 k' (List.mem_cons_of_mem _ hk'), ?_, by omega, p4, p5⟩, ⟨rfl, rfl⟩, h3, h4, ⟨?_, rfl⟩, rfl, h8.2, h9.2, ?_, ?_⟩
  · rw [zc, if_neg (by omega)] at p2
    exact p2
  · show gI (sI (sA σ 3 o 0 (upd (gA σ 3 o 0) i x)) 3 o 1 (nI (i + 1))) 3 o 1 = nI (i + 1)
    exact gI_s
  · exact skA_p hs (f + i)
  · have e : gA (gnC σ o i r.length x) 3 o 0 = upd (gA σ 3 o 0) i x := gA_s
    rw [e]
    refine ⟨st, wfS_c i st (fun j hj => upd_o (by omega)) (fun j hj => ?_) h11, hst⟩
    have hj' : ¬ 64 + j = 64 + (f + i) := by omega
    exact ⟨upd_o hj', upd_o hj', upd_o hj'⟩
theorem gn_fC (W : Nat) (x : Int32) : lxC H o σ (gnC σ o i W x) := lxC_t (lxC_A (Or.inr ⟨rfl, rfl, rfl⟩) _) (lxC_t (lxC_I (Or.inr (Or.inr ⟨rfl, rfl, rfl⟩)) _) (lxC_I (Or.inl ⟨rfl, Or.inl rfl⟩) _))
theorem gr_fM {kr s : Nat} (hk : f ≤ kr) (k a b : Int32) : lxM f τ (grM τ kr s k a b) := lxM_t (lxM_u (k := 30) (by omega) (by omega) _) (lxM_t (lxM_u (k := 31) (by omega) (by omega) _) (lxM_t (lxM_u (k := 32) (by omega) (by omega) _) (lxM_t (lxM_A (k := 34) (by omega) _) (lxM_t (lxM_I (Or.inr (Or.inr (by omega))) _) (lxM_I (Or.inr (Or.inl rfl)) _)))))
theorem gn_fM {kr W s : Nat} (hk : f ≤ kr) (k a b : Int32) : lxM f τ (gnM τ W s kr k a b) := lxM_t (lxM_I (Or.inr (Or.inr (by omega))) _) (lxM_t (lxM_I (Or.inr (Or.inr (by omega))) _) (gr_fM hk k a b))
theorem gn_tk {kr W W' s : Nat} (x k a b : Int32) : tkE σ τ (gnC σ o i W x) (gnM τ W' s kr k a b) := by
  refine ⟨fun k' => ?_, fun k' h1 => ?_⟩
  · show u3 (u3 σ.1 3 o 1 (nI (i + 1))) 6 0 2 (nI W) 9 0 k' = _
    rw [u3_nc (by decide), u3_nc (by decide)]
    rfl
  · have e : ∀ (ρ : ST) (m : Nat) (v : Int32), k' ≠ m → gI (sI ρ 12 0 m v) 12 0 k' = gI ρ 12 0 k' := fun ρ m v hm => u3_n (fun z => hm z.2.2)
    show gI (sI (sI _ 12 0 36 _) 12 0 17 _) 12 0 k' = _
    rw [e _ 17 _ (by omega), e _ 36 _ (by omega)]
    show gI (sI (sI τ 12 0 35 _) 12 0 36 _) 12 0 k' = _
    rw [e _ 36 _ (by omega), e _ 35 _ (by omega)]
theorem sg_lo : ∀ k, k < 15 → 3 ≤ k → csg k = sg k ∧ sg k < 13 := by decide
theorem bind_step {k : Nat} {r : List Nat} (h : EX H o f i B cnt (k :: r) st σ τ) (hk : 2 ≤ k) (hb : st.length = bc (k :: r) + 1) {z l z' l' : Int32} (hz : ¬ z < l) (hz' : ¬ z' < l') (y2 y3 y4 : Option AV) : ∃ σ' τ' r' y2' y3' y4',
    run kX6_release 20 [some (vR 6 0 0), some (vR 3 o 0), some (vI l)] [vI z] σ = run kX6_release 0 [some (vR 6 0 0), some (vR 3 o 0), some (vI l)] [] σ' ∧
    run kX12_bind 11 [some (vR 12 0 0), some (vI l'), y2, y3, y4] [vI z'] τ = run kX12_bind 0 [some (vR 12 0 0), some (vI l'), y2', y3', y4'] [] τ' ∧
    EX H o f (i + 1) B cnt r ((f + i) :: r') σ' τ' ∧ ((f + i) :: r').length = bc r + 1 ∧ lxC H o σ σ' ∧ lxM f τ τ' ∧ tkE σ τ σ' τ' := by
  have h' := h
  obtain ⟨⟨p1, p2, p3, p4, p5⟩, ⟨h1, h2⟩, h3, h4, ⟨h5, h6⟩, h7, h8, h9, h10, h11⟩ := h'
  rw [List.length_cons] at p3 h1 h2
  have hok : 2 ≤ k ∧ k ≤ 14 := (p1 k (List.mem_cons_self)).resolve_left (by omega)
  have hz0 := zc_le (k :: r)
  rw [zc, if_neg (by omega)] at p2
  have hzr := zc_le r
  have hbl := bc_le r
  have hki : f + i < 64 := by omega
  have a1 := ob (i := r.length) (N := 72) (by omega) (by decide)
  have a2 := ob (i := r.length) (N := 96) (by omega) (by decide)
  have c1 : (nI r.length).toNatClampNeg = r.length := nI_clamp (by omega)
  have n1 : nI (r.length + 1) - (1 : Int32) = nI r.length := pk_sub (b := 1) (by omega)
  have e1 : gA σ 6 0 1 r.length = nI (csg k) := h8.1
  have e2 : gA τ 12 0 33 r.length = nI k := h9.1
  have n2 : (20000 : Int32) + nI (csg k) = nI (20000 + csg k) := nI_add 20000 (csg k)
  -- the class
  have hc : run kX6_release 20 [some (vR 6 0 0), some (vR 3 o 0), some (vI l)] [vI z] σ = run kX6_release 0 [some (vR 6 0 0), some (vR 3 o 0), some (vI l)] [] (gnC σ o i r.length (nI (20000 + csg k))) := by
    rw [bX6_release_20, if_neg hz, h1, n1]
    simp only [c1, a1, ↓reduceIte]
    rw [e1, n2, e_lawadd (by omega) h5, bnd_s, tl_n, bX6_release_33]
    have e : gI (sI (sA σ 3 o 0 (upd (gA σ 3 o 0) i (nI (20000 + csg k)))) 3 o 1 (nI (i + 1))) 6 0 2 = nI (r.length + 1) := h1
    rw [e, n1]
  rw [bX12_bind_11, if_neg hz', h2, n1]
  simp only [c1, a2, ↓reduceIte]
  rw [e2]
  by_cases hk2 : k = 2
  · subst hk2
    rw [bc, if_neg (by omega)] at hb
    obtain ⟨a0, r', hst⟩ : ∃ a0 r', st = a0 :: r' := by
      cases st with
      | nil => rw [List.length_nil] at hb; omega
      | cons x y => exact ⟨x, y, rfl⟩
    subst hst
    rw [List.length_cons] at h7 hb
    have e3 : gA τ 12 0 34 r'.length = nI a0 := h10.1
    have hm : (if nI 2 = (2 : Int32) then run kX12_bind 32 [some (vR 12 0 0), some (vI l'), some (vI (nI 2)), y3, y4] [vI (-1)] (sI τ 12 0 35 (nI r.length)) else (bnd (den 193 [vR 12 0 0] (sI τ 12 0 35 (nI r.length))) fun v τ => run kX12_bind 32 [some (vR 12 0 0), some (vI l'), some (vI (nI 2)), y3, y4] (v.toList ++ []) τ)) = run kX12_bind 0 [some (vR 12 0 0), some (vI l'), some (vI (nI 2)), some (vI (-1)), some (vI (nI a0))] [] (gnM τ r.length r'.length (f + i) (nI 2) (nI a0) (-1)) := by
      rw [if_pos (show nI 2 = (2 : Int32) from rfl), bX12_bind_32, m_drop (τ := sI τ 12 0 35 (nI r.length)) (s := r'.length) (by omega) h7, bnd_s, tl_s, bX12_bind_35]
      rw [show gA (sI τ 12 0 35 (nI r.length)) 12 0 34 r'.length = nI a0 from e3, m_grown (τ := sI (sI τ 12 0 35 (nI r.length)) 12 0 36 (nI r'.length)) (kr := f + i) (s := r'.length) hki (by omega) h6 rfl, bnd_s, tl_n, bX12_bind_41]
    refine ⟨_, _, r', _, _, _, hc, hm, EX_gn h rfl (by omega) h10.2 ?_, ?_, gn_fC _ _, gn_fM (by omega) _ _ _, gn_tk _ _ _ _⟩
    · exact Or.inr (Or.inr (Or.inl ⟨a0, r', rfl, pk_us, pk_us, pk_us, rfl⟩))
    · rw [List.length_cons]
      omega
  · have hk3 : 3 ≤ k := by omega
    rw [bc, if_pos hk3] at hb
    obtain ⟨b0, a0, r', hst⟩ : ∃ b0 a0 r', st = b0 :: a0 :: r' := by
      cases st with
      | nil => rw [List.length_nil] at hb; omega
      | cons x y =>
        cases y with
        | nil => rw [List.length_cons, List.length_nil] at hb; omega
        | cons y z => exact ⟨x, y, z, rfl⟩
    subst hst
    rw [List.length_cons, List.length_cons] at h7 hb
    have e3 : gA τ 12 0 34 (r'.length + 1) = nI b0 := h10.1
    have e4 : gA τ 12 0 34 r'.length = nI a0 := h10.2.1
    have nk : ¬ nI k = (2 : Int32) := fun z => hk2 ((nI_eq (b := 2) (by omega) (by decide)).mp z)
    have hm : (if nI k = (2 : Int32) then run kX12_bind 32 [some (vR 12 0 0), some (vI l'), some (vI (nI k)), y3, y4] [vI (-1)] (sI τ 12 0 35 (nI r.length)) else (bnd (den 193 [vR 12 0 0] (sI τ 12 0 35 (nI r.length))) fun v τ => run kX12_bind 32 [some (vR 12 0 0), some (vI l'), some (vI (nI k)), y3, y4] (v.toList ++ []) τ)) = run kX12_bind 0 [some (vR 12 0 0), some (vI l'), some (vI (nI k)), some (vI (nI b0)), some (vI (nI a0))] [] (gnM τ r.length r'.length (f + i) (nI k) (nI a0) (nI b0)) := by
      rw [if_neg nk, m_drop (τ := sI τ 12 0 35 (nI r.length)) (s := r'.length + 1) (by omega) h7, bnd_s, tl_s, bX12_bind_32, m_drop (τ := sI (sI τ 12 0 35 (nI r.length)) 12 0 36 (nI (r'.length + 1))) (s := r'.length) (by omega) rfl, bnd_s, tl_s, bX12_bind_35]
      rw [show gA (sI τ 12 0 35 (nI r.length)) 12 0 34 (r'.length + 1) = nI b0 from e3, show gA (sI (sI τ 12 0 35 (nI r.length)) 12 0 36 (nI (r'.length + 1))) 12 0 34 r'.length = nI a0 from e4, sII, m_grown (τ := sI (sI τ 12 0 35 (nI r.length)) 12 0 36 (nI r'.length)) (kr := f + i) (s := r'.length) hki (by omega) h6 rfl, bnd_s, tl_n, bX12_bind_41]
    obtain ⟨g1, g2⟩ := sg_lo k (by omega) hk3
    refine ⟨_, _, r', _, _, _, hc, hm, EX_gn h rfl (by omega) h10.2.2 ?_, ?_, gn_fC _ _, gn_fM (by omega) _ _ _, gn_tk _ _ _ _⟩
    · rw [g1]
      exact Or.inr (Or.inr (Or.inr ⟨a0, b0, r', k, rfl, hk3, hok.2, pk_us, pk_us, pk_us, pk_us, rfl⟩))
    · rw [List.length_cons]
      omega
theorem bind_pair {l : Nat} (hl : l ≤ 5) : ∀ (ws st : List Nat) (i : Nat) (σ τ : ST) (y2 y3 y4 : Option AV), EX H o f i B cnt ws st σ τ → st.length = bc ws + 1 → ∃ i' ws' st' σ' τ',
    run kX6_release 0 [some (vR 6 0 0), some (vR 3 o 0), some (vI (nI l))] [] σ = some (none, σ') ∧ run kX12_bind 0 [some (vR 12 0 0), some (vI (nI (l + 1))), y2, y3, y4] [] τ = some (none, τ') ∧
    EX H o f i' B cnt ws' st' σ' τ' ∧ st'.length = bc ws' + 1 ∧ (ws' = [] ∨ ∃ k r, ws' = k :: r ∧ rnk k < l + 1) ∧ lxC H o σ σ' ∧ lxM f τ τ' ∧ tkE σ τ σ' τ'
  | [], st, i, σ, τ, y2, y3, y4, h, hb => by
    refine ⟨i, [], st, σ, τ, ?_, ?_, h, hb, Or.inl rfl, lxC_0, lxM_0, fun _ => rfl, fun _ _ => rfl⟩
    · rw [bX6_release_0, h.2.1.1, if_neg (by decide)]
    · rw [bX12_bind_0, h.2.1.2, if_neg (by decide)]
  | k :: r, st, i, σ, τ, y2, y3, y4, h, hb => by
    have h' := h
    obtain ⟨⟨p1, p2, p3, p4, p5⟩, ⟨h1, h2⟩, _, _, _, _, h8, h9, _, _⟩ := h'
    rw [List.length_cons] at p3 h1 h2
    have hzr := zc_le (k :: r)
    rw [List.length_cons] at hzr
    have a1 := ob (i := r.length) (N := 72) (by omega) (by decide)
    have a2 := ob (i := r.length) (N := 96) (by omega) (by decide)
    have c1 : (nI r.length).toNatClampNeg = r.length := nI_clamp (by omega)
    have n1 : nI (r.length + 1) - (1 : Int32) = nI r.length := pk_sub (b := 1) (by omega)
    have e1 : gA σ 6 0 1 r.length = nI (csg k) := h8.1
    have e2 : gA τ 12 0 33 r.length = nI k := h9.1
    have pos : (0 : Int32) < nI (r.length + 1) := nI_lt (a := 0) (by omega) (by omega)
    rw [bX6_release_0, h1, if_pos pos, n1, bX12_bind_0, h2, if_pos pos, n1]
    simp only [c1, a1, a2, ↓reduceIte]
    rw [e1, e2, m_rank, bnd_s, tl_s]
    rcases p1 k (List.mem_cons_self) with hk | hk
    · subst hk
      refine ⟨i, 0 :: r, st, σ, τ, if_pos rfl, ?_, h, hb, Or.inr ⟨0, r, rfl, Nat.succ_pos l⟩, lxC_0, lxM_0, fun _ => rfl, fun _ _ => rfl⟩
      rw [bX12_bind_11, if_pos]
      show nI 0 < nI (l + 1)
      exact nI_lt (by omega) (by omega)
    · have t1 := bdg_t k (by omega) hk.1
      have t2 := rkg_t k (by omega)
      have n13 : ¬ nI (csg k) = 13 := fun z => by have := (nI_eq (b := 13) (by omega) (by decide)).mp z; omega
      rw [if_neg n13, e_binding, bnd_s, tl_s, t1.1, t2.1]
      have r1 := t2.2.2 hk.1
      by_cases hr : rnk k < l + 1
      · refine ⟨i, k :: r, st, σ, τ, ?_, ?_, h, hb, Or.inr ⟨k, r, rfl, hr⟩, lxC_0, lxM_0, fun _ => rfl, fun _ _ => rfl⟩
        · rw [bX6_release_20, if_pos (nI_lt (by omega) (by omega))]
        · rw [bX12_bind_11, if_pos (nI_lt (by omega) (by omega))]
      · obtain ⟨σ1, τ1, r', y2', y3', y4', s1, s2, s3, s4, s5, s6, s7⟩ := bind_step h hk.1 hb (z := nI (rnk k - 1)) (l := nI l) (z' := nI (rnk k)) (l' := nI (l + 1)) (nI_nlt (by omega) (by omega)) (nI_nlt (by omega) (by omega)) y2 y3 y4
        obtain ⟨i', ws', st', σ', τ', q1, q2, q3, q4, q5, q6, q7, q8⟩ := bind_pair hl r ((f + i) :: r') (i + 1) σ1 τ1 y2' y3' y4' s3 s4
        rw [s1, s2]
        exact ⟨i', ws', st', σ', τ', q1, q2, q3, q4, q5, lxC_t s5 q6, lxM_t s6 q7, tkE_t s7 q8⟩
end BIND
