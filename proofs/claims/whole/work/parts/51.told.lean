/-! WHAT CHANGES: objects of the class, fields of the reference -/
def smC (S : Nat → Nat → Prop) (σ σ' : ST) : Prop := ∀ c o, ¬ S c o → gI σ' c o = gI σ c o ∧ gL σ' c o = gL σ c o ∧ gR σ' c o = gR σ c o ∧ gA σ' c o = gA σ c o
def smM (K : Nat → Prop) (τ τ' : ST) : Prop := ∀ k, ¬ K k → gI τ' 12 0 k = gI τ 12 0 k ∧ gL τ' 12 0 k = gL τ 12 0 k ∧ gA τ' 12 0 k = gA τ 12 0 k
section SM
variable {S : Nat → Nat → Prop} {K : Nat → Prop} {σ σ' σ'' τ τ' τ'' : ST}
theorem smC_0 : smC S σ σ := fun _ _ _ => ⟨rfl, rfl, rfl, rfl⟩
theorem smC_t (h1 : smC S σ σ') (h2 : smC S σ' σ'') : smC S σ σ'' := fun c o h => ⟨(h2 c o h).1.trans (h1 c o h).1, (h2 c o h).2.1.trans (h1 c o h).2.1, (h2 c o h).2.2.1.trans (h1 c o h).2.2.1, (h2 c o h).2.2.2.trans (h1 c o h).2.2.2⟩
theorem u3_nco {α : Type} {f : Nat → Nat → Nat → α} {c o k c' o' : Nat} {v : α} (h : ¬ (c' = c ∧ o' = o)) : u3 f c o k v c' o' = f c' o' := by
  funext d
  unfold u3
  rw [if_neg (fun z => h z.2)]
theorem smC_A {c o k : Nat} (h : S c o) (f : Nat → Int32) : smC S σ (sA σ c o k f) := fun c' o' hn => ⟨rfl, rfl, rfl, u3_nco (fun z => hn (by rw [z.1, z.2]; exact h))⟩
theorem smC_I {c o k : Nat} (h : S c o) (v : Int32) : smC S σ (sI σ c o k v) := fun c' o' hn => ⟨u3_nco (fun z => hn (by rw [z.1, z.2]; exact h)), rfl, rfl, rfl⟩
theorem smC_L {c o k : Nat} (h : S c o) (v : Int64) : smC S σ (sL σ c o k v) := fun c' o' hn => ⟨rfl, u3_nco (fun z => hn (by rw [z.1, z.2]; exact h)), rfl, rfl⟩
theorem smC_R {c o k : Nat} (h : S c o) (v : Nat) : smC S σ (sR σ c o k v) := fun c' o' hn => ⟨rfl, rfl, u3_nco (fun z => hn (by rw [z.1, z.2]; exact h)), rfl⟩
theorem smC_B (B : Nat → Nat → Nat → Nat → Int64) : smC S σ (wB σ B) := smC_0
theorem smC_w {S' : Nat → Nat → Prop} (h : smC S σ σ') (hs : ∀ c o, S c o → S' c o) : smC S' σ σ' := fun c o hn => h c o (fun z => hn (hs c o z))
theorem smM_0 : smM K τ τ := fun _ _ => ⟨rfl, rfl, rfl⟩
theorem smM_t (h1 : smM K τ τ') (h2 : smM K τ' τ'') : smM K τ τ'' := fun k h => ⟨(h2 k h).1.trans (h1 k h).1, (h2 k h).2.1.trans (h1 k h).2.1, (h2 k h).2.2.trans (h1 k h).2.2⟩
theorem smM_A {k : Nat} (h : K k) (f : Nat → Int32) : smM K τ (sA τ 12 0 k f) := fun k' hn => ⟨rfl, rfl, u3_nk (fun z => hn (by rw [z]; exact h))⟩
theorem smM_I {k : Nat} (h : K k) (v : Int32) : smM K τ (sI τ 12 0 k v) := fun k' hn => ⟨u3_nk (fun z => hn (by rw [z]; exact h)), rfl, rfl⟩
theorem smM_L {k : Nat} (h : K k) (v : Int64) : smM K τ (sL τ 12 0 k v) := fun k' hn => ⟨rfl, u3_nk (fun z => hn (by rw [z]; exact h)), rfl⟩
theorem smM_w {K' : Nat → Prop} (h : smM K τ τ') (hs : ∀ k, K k → K' k) : smM K' τ τ' := fun k hn => h k (fun z => hn (hs k z))
end SM
/-! TOLD: handings, sights, strikes -/
/-- one thing told, in both -/
def EN (n r : Nat) (k0 k1 k2 k3 k4 F : Nat → Int32) (i : Nat) : Prop :=
  (k0 i = 0 ∧ F (5 * i) = 0 ∧ ∃ a b, a < n ∧ b < n ∧ k1 i = nI a ∧ F (5 * i + 1) = nI a ∧ k2 i = nI b ∧ F (5 * i + 2) = nI b) ∨
  (k0 i = 1 ∧ F (5 * i) = 1 ∧ ∃ y q g z, 1 ≤ y ∧ y ≤ 60 ∧ q < r ∧ g < n ∧ (z = (0 : Int32) ∨ z = 1) ∧ k3 i = nI y ∧ F (5 * i + 1) = nI y ∧ k1 i = nI q ∧ F (5 * i + 2) = nI q ∧ k2 i = nI g ∧ F (5 * i + 3) = nI g ∧ k4 i = z ∧ F (5 * i + 4) = z) ∨
  (k0 i = 2 ∧ F (5 * i) = 2 ∧ ∃ m, m < i ∧ k1 i = nI m ∧ F (5 * i + 1) = nI m)
def TD (n r : Nat) (σ τ : ST) : Prop := ∃ k, k ≤ 24 ∧ gI σ 10 0 6 = nI k ∧ gI τ 12 0 67 = nI k ∧ gI σ 10 0 7 = gI τ 12 0 68 ∧ (gI σ 10 0 7 = -1 ∨ ∃ b, b ≤ k ∧ gI σ 10 0 7 = nI b) ∧
  ∀ i, i < k → EN n r (gA σ 10 0 0) (gA σ 10 0 1) (gA σ 10 0 2) (gA σ 10 0 3) (gA σ 10 0 4) (gA τ 12 0 69) i
/-- entries hang on their own places -/
theorem EN_c {n r : Nat} {k0 k1 k2 k3 k4 F k0' k1' k2' k3' k4' F' : Nat → Int32} {i : Nat} (h : EN n r k0 k1 k2 k3 k4 F i) (h0 : k0' i = k0 i) (h1 : k1' i = k1 i) (h2 : k2' i = k2 i) (h3 : k3' i = k3 i) (h4 : k4' i = k4 i) (hF : ∀ j, j < 5 → F' (5 * i + j) = F (5 * i + j)) : EN n r k0' k1' k2' k3' k4' F' i := by
  have e0 : F' (5 * i) = F (5 * i) := hF 0 (by decide)
  unfold EN at h ⊢
  rw [h0, h1, h2, h3, h4, e0, hF 1 (by decide), hF 2 (by decide), hF 3 (by decide), hF 4 (by decide)]
  exact h
abbrev SCT : Nat → Nat → Prop := fun c _ => c = 10
abbrev SMT : Nat → Prop := fun k => k = 2 ∨ k = 67 ∨ k = 68 ∨ k = 69
section TLD
variable {G n r : Nat} {σ τ : ST}
theorem tA (k : Nat) (f : Nat → Int32) : smC SCT σ (sA σ 10 0 k f) := smC_A (S := SCT) (c := 10) (o := 0) rfl f
theorem tI (k : Nat) (v : Int32) : smC SCT σ (sI σ 10 0 k v) := smC_I (S := SCT) (c := 10) (o := 0) rfl v
theorem i5 (k : Nat) : (5 : Int32) * nI k = nI (5 * k) := pk_mul 5 k
theorem i5a (k j : Nat) : nI (5 * k) + nI j = nI (5 * k + j) := nI_add _ _
/-- what was told in answer to a call that notes -/
def tans (n r : Nat) (σ τ : ST) (ca cm : RS) : Prop := ∃ (v : Int32) (σ' τ' : ST), ca = some (some (vI v), σ') ∧ cm = some (some (vI v), τ') ∧ smC SCT σ σ' ∧ smM SMT τ τ' ∧ TD n r σ' τ'
/-- one more is told -/
theorem td_add (hT : TD n r σ τ) (x1 x2 x3 : Int32) (w1 w2 w3 w4 : Int32) : ∃ k, k ≤ 24 ∧ gI σ 10 0 6 = nI k ∧
    ((k = 24 ∧ den 106 [vR 10 0 0, vI x1, vI x2, vI x3] σ = some (some (vI (-1)), σ) ∧ den 267 [vR 12 0 0, vI x1, vI w1, vI w2, vI w3, vI w4] τ = some (some (vI (-1)), τ)) ∨
     (k < 24 ∧ ∃ F, den 106 [vR 10 0 0, vI x1, vI x2, vI x3] σ = some (some (vI (nI k)), sI (sA (sA (sA σ 10 0 0 (upd (gA σ 10 0 0) k x1)) 10 0 1 (upd (gA σ 10 0 1) k x2)) 10 0 2 (upd (gA σ 10 0 2) k x3)) 10 0 6 (nI (k + 1))) ∧ den 267 [vR 12 0 0, vI x1, vI w1, vI w2, vI w3, vI w4] τ = some (some (vI (nI k)), sI (sA τ 12 0 69 F) 12 0 67 (nI (k + 1))) ∧
      F (5 * k) = x1 ∧ F (5 * k + 1) = w1 ∧ F (5 * k + 2) = w2 ∧ F (5 * k + 3) = w3 ∧ F (5 * k + 4) = w4 ∧ ∀ j, j < 5 * k → F j = gA τ 12 0 69 j)) := by
  obtain ⟨k, hk, h1, h2, _⟩ := hT
  refine ⟨k, hk, h1, ?_⟩
  rw [dX10_add, bX10_add_0, h1, dX12_lays, bX12_lays_0, h2]
  by_cases e : k = 24
  · subst e
    rw [if_neg (show ¬ nI 24 < 24 by decide), if_pos (show nI 24 = 24 from rfl)]
    exact Or.inl ⟨rfl, rfl, rfl⟩
  · have hk' : k < 24 := by omega
    have n24 : ¬ nI k = 24 := fun z => e ((nI_eq (a := k) (b := 24) (by omega) (by decide)).mp z)
    have a1 := ob (i := k) (N := 24) (by omega) (by decide)
    have c1 : (nI k).toNatClampNeg = k := nI_clamp (by omega)
    have b0 := ob (i := 5 * k) (N := 120) (by omega) (by decide)
    have b1 := ob (i := 5 * k + 1) (N := 120) (by omega) (by decide)
    have b2 := ob (i := 5 * k + 2) (N := 120) (by omega) (by decide)
    have b3 := ob (i := 5 * k + 3) (N := 120) (by omega) (by decide)
    have b4 := ob (i := 5 * k + 4) (N := 120) (by omega) (by decide)
    have d0 : (nI (5 * k)).toNatClampNeg = 5 * k := nI_clamp (by omega)
    have d1 : (nI (5 * k + 1)).toNatClampNeg = 5 * k + 1 := nI_clamp (by omega)
    have d2 : (nI (5 * k + 2)).toNatClampNeg = 5 * k + 2 := nI_clamp (by omega)
    have d3 : (nI (5 * k + 3)).toNatClampNeg = 5 * k + 3 := nI_clamp (by omega)
    have d4 : (nI (5 * k + 4)).toNatClampNeg = 5 * k + 4 := nI_clamp (by omega)
    have s1 : nI (5 * k) + 1 = nI (5 * k + 1) := i5a k 1
    have s2 : nI (5 * k) + 2 = nI (5 * k + 2) := i5a k 2
    have s3 : nI (5 * k) + 3 = nI (5 * k + 3) := i5a k 3
    have s4 : nI (5 * k) + 4 = nI (5 * k + 4) := i5a k 4
    have em : nI (k + 1) - 1 = nI k := nI_pred k
    rw [if_pos (show nI k < 24 from nI_lt (b := 24) hk' (by decide)), if_neg n24]
    refine Or.inr ⟨hk', upd (upd (upd (upd (upd (gA τ 12 0 69) (5 * k) x1) (5 * k + 1) w1) (5 * k + 2) w2) (5 * k + 3) w3) (5 * k + 4) w4, ?_, ?_, ?_, ?_, ?_, ?_, ?_, fun j hj => ?_⟩
    · simp only [c1, a1, ↓reduceIte, nI_S, em]
    · simp only [i5, s1, s2, s3, s4, b0, b1, b2, b3, b4, d0, d1, d2, d3, d4, ↓reduceIte, nI_S, em, sAA]
    · rw [upd_o (by omega), upd_o (by omega), upd_o (by omega), upd_o (by omega), pk_us]
    · rw [upd_o (by omega), upd_o (by omega), upd_o (by omega), pk_us]
    · rw [upd_o (by omega), upd_o (by omega), pk_us]
    · rw [upd_o (by omega), pk_us]
    · rw [pk_us]
    · rw [upd_o (by omega), upd_o (by omega), upd_o (by omega), upd_o (by omega), upd_o (by omega)]
theorem TD_th (h : TD n r σ τ) : TD n r σ (th0 τ) := h
/-- the entries behind one more -/
theorem TD_s (hT : TD n r σ τ) {k : Nat} (hk : gI σ 10 0 6 = nI k) (hk24 : k < 24) {σ' τ' : ST} (e6 : gI σ' 10 0 6 = nI (k + 1)) (e67 : gI τ' 12 0 67 = nI (k + 1)) (e7 : gI σ' 10 0 7 = gI σ 10 0 7) (e68 : gI τ' 12 0 68 = gI τ 12 0 68)
    (h0 : ∀ i, i < k → gA σ' 10 0 0 i = gA σ 10 0 0 i ∧ gA σ' 10 0 1 i = gA σ 10 0 1 i ∧ gA σ' 10 0 2 i = gA σ 10 0 2 i ∧ gA σ' 10 0 3 i = gA σ 10 0 3 i ∧ gA σ' 10 0 4 i = gA σ 10 0 4 i) (hF : ∀ j, j < 5 * k → gA τ' 12 0 69 j = gA τ 12 0 69 j)
    (hn : EN n r (gA σ' 10 0 0) (gA σ' 10 0 1) (gA σ' 10 0 2) (gA σ' 10 0 3) (gA σ' 10 0 4) (gA τ' 12 0 69) k) : TD n r σ' τ' := by
  obtain ⟨k', hk', h1, h2, h3, h4, h5⟩ := hT
  have : k' = k := (nI_eq (by omega) (by omega)).mp (h1.symm.trans hk)
  subst this
  refine ⟨k' + 1, by omega, e6, e67, ?_, ?_, fun i hi => ?_⟩
  · rw [e7, e68, h3]
  · rw [e7]
    rcases h4 with h4 | ⟨b, hb, h4⟩
    · exact Or.inl h4
    · exact Or.inr ⟨b, by omega, h4⟩
  · by_cases e : i = k'
    · rw [e]; exact hn
    · obtain ⟨x0, x1, x2, x3, x4⟩ := h0 i (by omega)
      exact EN_c (h5 i (by omega)) x0 x1 x2 x3 x4 (fun j hj => hF _ (by omega))
theorem c_note (hQ : RG G n r σ τ) (hT : TD n r σ τ) (x y : Int32) : tans n r σ τ (den 142 [vR 11 0 0, vI x, vI y] σ) (den 268 [vR 12 0 0, vI x, vI y] τ) := by
  have hn6 := hQ.n6
  have hm : gI (th0 τ) 12 0 12 = nI n := hQ.mn
  have s0 : smM SMT τ (th0 τ) := smM_I (Or.inl rfl) 0
  rw [dX11_note, bX11_note_0, e_areTwo, hQ.cn, bnd_s, tl_s, bX11_note_4, dX12_note, bX12_note_0, m_areTwo, hm, bnd_s, tl_s, bX12_note_7]
  rcases twb_nI (a := x) (c := y) (n := n) (by omega) with h | ⟨i, j, hi, hj, _, rfl, rfl, h⟩
  · rw [h, if_pos rfl, if_pos rfl]
    exact ⟨-1, _, _, rfl, rfl, smC_0, s0, hT⟩
  rw [h, if_neg i10, if_neg i10, dX10_addHanding, bX10_addHanding_0]
  obtain ⟨k, hk, h6, hc⟩ := td_add (TD_th hT) 0 (nI i) (nI j) (nI i) (nI j) 0 0
  rcases hc with ⟨_, p1, p2⟩ | ⟨k24, F, p1, p2, f0, f1, f2, f3, f4, f5⟩
  · rw [p1, bnd_s, tl_s, bX10_addHanding_5, bnd_s, tl_s, bX11_note_10, p2, bnd_s, tl_s, bX12_note_15]
    exact ⟨-1, _, _, rfl, rfl, smC_0, s0, hT⟩
  · rw [p1, bnd_s, tl_s, bX10_addHanding_5, bnd_s, tl_s, bX11_note_10, p2, bnd_s, tl_s, bX12_note_15]
    refine ⟨nI k, _, _, rfl, rfl, smC_t (tA _ _) (smC_t (tA _ _) (smC_t (tA _ _) (tI _ _))), smM_t s0 (smM_t (smM_A (by omega) _) (smM_I (by omega) _)), ?_⟩
    refine TD_s hT h6 k24 rfl rfl rfl rfl (fun i' hi' => ?_) (fun q hq => f5 q hq) (Or.inl ?_)
    · show upd (gA σ 10 0 0) k 0 i' = _ ∧ upd (gA σ 10 0 1) k (nI i) i' = _ ∧ upd (gA σ 10 0 2) k (nI j) i' = _ ∧ _ ∧ _
      rw [upd_o (by omega), upd_o (by omega), upd_o (by omega)]
      exact ⟨rfl, rfl, rfl, rfl, rfl⟩
    · show upd (gA σ 10 0 0) k 0 k = 0 ∧ F (5 * k) = 0 ∧ ∃ a b, a < n ∧ b < n ∧ upd (gA σ 10 0 1) k (nI i) k = nI a ∧ F (5 * k + 1) = nI a ∧ upd (gA σ 10 0 2) k (nI j) k = nI b ∧ F (5 * k + 2) = nI b
      rw [pk_us, pk_us, pk_us]
      exact ⟨rfl, f0, i, j, hi, hj, rfl, f1, rfl, f2⟩
theorem c_see (hQ : RG G n r σ τ) (hT : TD n r σ τ) (x y z : Int32) {w : Int32} (hw : w = 0 ∨ w = 1) : tans n r σ τ (den 143 [vR 11 0 0, vI x, vI y, vI z, vI w] σ) (den 269 [vR 12 0 0, vI x, vI y, vI z, vI w] τ) := by
  have hn6 := hQ.n6
  have hr2 := hQ.r2
  have hm : gI (th0 τ) 12 0 12 = nI n := hQ.mn
  have hmr : gI (th0 τ) 12 0 13 = nI r := hQ.mr
  have s0 : smM SMT τ (th0 τ) := smM_I (Or.inl rfl) 0
  rw [dX11_see, bX11_see_0, e_isWithin, bnd_s, tl_s, bX11_see_4, dX12_see, bX12_see_0, m_isIn, bnd_s, tl_s, bX12_see_7]
  rcases inb_l (x := x) (a' := 1) (M' := 60) 1 60 rfl rfl (by decide) (by decide) with h | ⟨N, hN1, hN, rfl, h⟩
  · rw [h, if_pos rfl, if_pos rfl]
    exact ⟨-1, _, _, rfl, rfl, smC_0, s0, hT⟩
  rw [h, if_neg i10, if_neg i10, e_isRibbon, hQ.cr, m_isRibbon, hmr, bnd_s, bnd_s, tl_s, bX11_see_8, bX12_see_11]
  rcases isb_nI (g := y) (n := r) (by omega) with h | ⟨p, hp, rfl, h⟩
  · rw [h, if_pos rfl, if_pos rfl]
    exact ⟨-1, _, _, rfl, rfl, smC_0, s0, hT⟩
  rw [h, if_neg i10, if_neg i10, e_isGrower, hQ.cn, m_isGrower, hm, bnd_s, bnd_s, tl_s, bX11_see_12, bX12_see_15]
  rcases isb_nI (g := z) (n := n) (by omega) with h | ⟨g, hg, rfl, h⟩
  · rw [h, if_pos rfl, if_pos rfl]
    exact ⟨-1, _, _, rfl, rfl, smC_0, s0, hT⟩
  have hcol : (if w = 0 then (bnd (den 267 [vR 12 0 0, vI 1, vI (nI N), vI (nI p), vI (nI g), vI 0] (th0 τ)) fun v τ => run kX12_see 27 [some (vR 12 0 0), some (vI (nI N)), some (vI (nI p)), some (vI (nI g)), some (vI w)] (v.toList ++ []) τ) else (bnd (den 267 [vR 12 0 0, vI 1, vI (nI N), vI (nI p), vI (nI g), vI 1] (th0 τ)) fun v τ => run kX12_see 27 [some (vR 12 0 0), some (vI (nI N)), some (vI (nI p)), some (vI (nI g)), some (vI w)] (v.toList ++ []) τ)) = (bnd (den 267 [vR 12 0 0, vI 1, vI (nI N), vI (nI p), vI (nI g), vI w] (th0 τ)) fun v τ => run kX12_see 27 [some (vR 12 0 0), some (vI (nI N)), some (vI (nI p)), some (vI (nI g)), some (vI w)] (v.toList ++ []) τ) := by
    rcases hw with rfl | rfl
    · rw [if_pos rfl]
    · rw [if_neg i10]
  rw [h, if_neg i10, if_neg i10, hcol, dX10_addSight, bX10_addSight_0]
  obtain ⟨k, hk, h6, hc⟩ := td_add (TD_th hT) 1 (nI p) (nI g) (nI N) (nI p) (nI g) w
  rcases hc with ⟨_, p1, p2⟩ | ⟨k24, F, p1, p2, f0, f1, f2, f3, f4, f5⟩
  · rw [p1, bnd_s, tl_s, bX10_addSight_5, if_pos (by decide), bnd_s, tl_s, bX11_see_22, p2, bnd_s, tl_s, bX12_see_27]
    exact ⟨-1, _, _, rfl, rfl, smC_0, s0, hT⟩
  · have a1 := ob (i := k) (N := 24) (by omega) (by decide)
    have c1 : (nI k).toNatClampNeg = k := nI_clamp (by omega)
    rw [p1, bnd_s, tl_s, bX10_addSight_5, if_neg (nI_pos (by omega)), p2, bnd_s, tl_s, bX12_see_27]
    simp only [c1, a1, ↓reduceIte]
    rw [bnd_s, tl_s, bX11_see_22, nb01 hw]
    refine ⟨nI k, _, _, rfl, rfl, smC_t (tA _ _) (smC_t (tA _ _) (smC_t (tA _ _) (smC_t (tI _ _) (smC_t (tA _ _) (tA _ _))))), smM_t s0 (smM_t (smM_A (by omega) _) (smM_I (by omega) _)), ?_⟩
    refine TD_s hT h6 k24 rfl rfl rfl rfl (fun i' hi' => ?_) (fun q hq => f5 q hq) (Or.inr (Or.inl ?_))
    · show upd (gA σ 10 0 0) k 1 i' = _ ∧ upd (gA σ 10 0 1) k (nI p) i' = _ ∧ upd (gA σ 10 0 2) k (nI g) i' = _ ∧ upd (gA σ 10 0 3) k (nI N) i' = _ ∧ upd (gA σ 10 0 4) k w i' = _
      rw [upd_o (by omega), upd_o (by omega), upd_o (by omega), upd_o (by omega), upd_o (by omega)]
      exact ⟨rfl, rfl, rfl, rfl, rfl⟩
    · show upd (gA σ 10 0 0) k 1 k = 1 ∧ F (5 * k) = 1 ∧ ∃ y q g' z, 1 ≤ y ∧ y ≤ 60 ∧ q < r ∧ g' < n ∧ (z = (0 : Int32) ∨ z = 1) ∧ upd (gA σ 10 0 3) k (nI N) k = nI y ∧ F (5 * k + 1) = nI y ∧ upd (gA σ 10 0 1) k (nI p) k = nI q ∧ F (5 * k + 2) = nI q ∧ upd (gA σ 10 0 2) k (nI g) k = nI g' ∧ F (5 * k + 3) = nI g' ∧ upd (gA σ 10 0 4) k w k = z ∧ F (5 * k + 4) = z
      rw [pk_us, pk_us, pk_us, pk_us, pk_us]
      exact ⟨rfl, f0, N, p, g, w, hN1, hN, hp, hg, hw, rfl, f1, rfl, f2, rfl, f3, rfl, f4⟩
theorem c_strike (hT : TD n r σ τ) (x : Int32) : tans n r σ τ (den 144 [vR 11 0 0, vI x] σ) (den 270 [vR 12 0 0, vI x] τ) := by
  have s0 : smM SMT τ (th0 τ) := smM_I (Or.inl rfl) 0
  obtain ⟨k, hk, h1, h2, hr⟩ := id hT
  have h2' : gI (th0 τ) 12 0 67 = nI k := h2
  rw [dX11_strike, bX11_strike_0, e_isWithin, bnd_s, tl_s, bX11_strike_8, h1, dX12_strike, bX12_strike_0, h2]
  -- whether there is such a one
  have key : (inb x 0 (nI k - 1) = 0 ∧ (x < 0 ∨ (¬ x < 0 ∧ ¬ x < nI k))) ∨ (inb x 0 (nI k - 1) = 1 ∧ ∃ m, m < k ∧ x = nI m) := by
    unfold inb
    by_cases x0 : x < 0
    · rw [if_pos x0]; exact Or.inl ⟨rfl, Or.inl x0⟩
    · obtain ⟨m, hm, rfl⟩ := nI_of x0
      rw [if_neg x0]
      by_cases hmk : m < k
      · have e1 : nI k - 1 = nI (k - 1) := pk_sub (a := k) (b := 1) (by omega)
        rw [e1, if_neg (nI_nlt (by omega) (by omega))]
        exact Or.inr ⟨rfl, m, hmk, rfl⟩
      · have l1 : nI k - 1 < nI m := by
          rcases Nat.eq_zero_or_pos k with e | e
          · subst e
            rw [Int32.lt_iff_toInt_lt, nI_toInt hm]
            have : (nI 0 - 1).toInt = -1 := by decide
            omega
          · have e1 : nI k - 1 = nI (k - 1) := pk_sub (a := k) (b := 1) (by omega)
            rw [e1]
            exact nI_lt (by omega) hm
        rw [if_pos l1]
        exact Or.inl ⟨rfl, Or.inr ⟨x0, nI_nlt (by omega) hm⟩⟩
  rcases key with ⟨h, hx⟩ | ⟨h, m, hm, rfl⟩
  · rw [h, if_pos rfl]
    rcases hx with hx | ⟨hx, hx2⟩
    · rw [if_pos hx, bX12_strike_18]
      exact ⟨-1, _, _, rfl, rfl, smC_0, s0, hT⟩
    · rw [if_neg hx, if_neg hx2, bX12_strike_18]
      exact ⟨-1, _, _, rfl, rfl, smC_0, s0, hT⟩
  rw [h, if_neg i10, if_neg (nI_pos (by omega)), if_pos (nI_lt hm (by omega)), dX10_addStrike, bX10_addStrike_0]
  obtain ⟨k', hk', h6, hc⟩ := td_add (TD_th hT) 2 (nI m) 0 (nI m) 0 0 0
  have ek : k' = k := (nI_eq (by omega) (by omega)).mp (h6.symm.trans h1)
  subst ek
  rcases hc with ⟨_, p1, p2⟩ | ⟨k24, F, p1, p2, f0, f1, f2, f3, f4, f5⟩
  · rw [p1, bnd_s, tl_s, bX10_addStrike_5, bnd_s, tl_s, bX11_strike_13, p2, bnd_s, tl_s, bX12_strike_18]
    exact ⟨-1, _, _, rfl, rfl, smC_0, s0, hT⟩
  · rw [p1, bnd_s, tl_s, bX10_addStrike_5, bnd_s, tl_s, bX11_strike_13, p2, bnd_s, tl_s, bX12_strike_18]
    refine ⟨nI k', _, _, rfl, rfl, smC_t (tA _ _) (smC_t (tA _ _) (smC_t (tA _ _) (tI _ _))), smM_t s0 (smM_t (smM_A (by omega) _) (smM_I (by omega) _)), ?_⟩
    refine TD_s hT h6 k24 rfl rfl rfl rfl (fun i' hi' => ?_) (fun q hq => f5 q hq) (Or.inr (Or.inr ?_))
    · show upd (gA σ 10 0 0) k' 2 i' = _ ∧ upd (gA σ 10 0 1) k' (nI m) i' = _ ∧ upd (gA σ 10 0 2) k' 0 i' = _ ∧ _ ∧ _
      rw [upd_o (by omega), upd_o (by omega), upd_o (by omega)]
      exact ⟨rfl, rfl, rfl, rfl, rfl⟩
    · show upd (gA σ 10 0 0) k' 2 k' = 2 ∧ F (5 * k') = 2 ∧ ∃ q, q < k' ∧ upd (gA σ 10 0 1) k' (nI m) k' = nI q ∧ F (5 * k' + 1) = nI q
      rw [pk_us, pk_us]
      exact ⟨rfl, f0, m, hm, rfl, f1⟩
theorem c_known (hT : TD n r σ τ) (x : Int32) : tans n r σ τ (den 145 [vR 11 0 0, vI x] σ) (den 271 [vR 12 0 0, vI x] τ) := by
  have s0 : smM SMT τ (th0 τ) := smM_I (Or.inl rfl) 0
  obtain ⟨k, hk, h1, h2, h3, h4, h5⟩ := id hT
  rw [dX11_known, bX11_known_0, e_isWithin, h1, bnd_s, tl_s, bX11_known_6, dX12_known, bX12_known_0, m_isIn, h2, bnd_s, tl_s, bX12_known_8]
  by_cases h : inb x (-1) (nI k) = 0
  · rw [if_pos h, if_pos h]
    exact ⟨0, _, _, rfl, rfl, smC_0, s0, hT⟩
  · rw [if_neg h, if_neg h]
    refine ⟨1, _, _, rfl, rfl, tI _ _, smM_t s0 (smM_I (by omega) _), k, hk, h1, h2, rfl, ?_, h5⟩
    show x = -1 ∨ ∃ b, b ≤ k ∧ x = nI b
    unfold inb at h
    by_cases l1 : x < -1
    · rw [if_pos l1] at h
      exact absurd rfl h
    · rw [if_neg l1] at h
      by_cases l2 : nI k < x
      · rw [if_pos l2] at h
        exact absurd rfl h
      · by_cases l0 : x < 0
        · left
          rw [Int32.lt_iff_toInt_lt] at l0 l1
          have e1 : (-1 : Int32).toInt = -1 := rfl
          have e0 : (0 : Int32).toInt = 0 := rfl
          apply Int32.toInt_inj.mp
          omega
        · obtain ⟨m, hm, rfl⟩ := nI_of l0
          have : ¬ k < m := fun z => l2 (nI_lt z hm)
          exact Or.inr ⟨m, by omega, rfl⟩
end TLD
