/-! CALLS: both sides answer alike, in one state -/
section CAL
variable {G n r : Nat} {σ τ : ST} {ca cm : RS}
theorem RQ_of (h : RELs G n r σ τ) : RQ G n r σ τ := ⟨h.1, PRb_of h.2.2.1.1 h.2.2.1.2.1, h.2.1⟩
theorem rans_e (h : REL σ τ) (ha : ∃ v : Int32, ca = some (some (vI v), σ) ∧ cm = some (some (vI v), th0 τ)) : rans ca cm := by
  obtain ⟨v, e1, e2⟩ := ha
  exact ⟨v, σ, th0 τ, e1, e2, REL_sc h scC_0 (scM_th τ)⟩
def CALL (a b : Nat) (as : List AV) : Prop := ∀ σ τ, REL σ τ → rans (den a (vR 11 0 0 :: as) σ) (den b (vR 12 0 0 :: as) τ)
def CALLL (a b : Nat) (as : List AV) : Prop := ∀ σ τ, REL σ τ → ransL (den a (vR 11 0 0 :: as) σ) (den b (vR 12 0 0 :: as) τ)
theorem k_feed (a b c d e : Int32) : CALL 111 164 [vI a, vI b, vI c, vI d, vI e] := fun σ τ h => by
  obtain ⟨G, n, r, hs⟩ := h
  exact r_feed hs a b c d e
theorem k_text (a : Int32) : CALL 112 188 [vI a] := fun σ τ h => c_text h a
theorem k_fault (a : Int32) : CALL 113 189 [vI a] := fun σ τ h => by
  obtain ⟨G, n, r, hs⟩ := id h
  exact rans_e h (q_fault hs.2.2.2.2.2.2.2.2.1 hs.2.2.2.2.2.2.2.2.2 a)
theorem k_named (a : Int32) : CALL 114 190 [vI a] := fun σ τ h => by
  obtain ⟨G, n, r, hs⟩ := id h
  exact rans_e h (q_named hs.1.1 a)
theorem k_ribbon (a b : Int32) : CALL 115 229 [vI a, vI b] := fun σ τ h => by
  obtain ⟨G, n, r, hs⟩ := id h
  exact rans_e h (q_ribbon hs.1.1 (RQ_of hs).2.1 a b)
theorem k_judged (a b : Int32) : CALL 116 230 [vI a, vI b] := fun σ τ h => by
  obtain ⟨G, n, r, hs⟩ := id h
  exact rans_q h (q_judged (RQ_of hs) a b)
theorem k_best (a : Int32) : CALL 117 231 [vI a] := fun σ τ h => by
  obtain ⟨G, n, r, hs⟩ := id h
  exact rans_q h (q_best (RQ_of hs) a)
theorem k_law (a b c : Int32) : CALLL 118 232 [vI a, vI b, vI c] := fun σ τ h => by
  obtain ⟨G, n, r, hs⟩ := id h
  exact rans_l h (q_law (RQ_of hs) a b c)
theorem k_show (a b : Int32) {c : Int32} (hc : c = 0 ∨ c = 1) : CALL 119 233 [vI a, vI b, vI c] := fun σ τ h => by
  obtain ⟨G, n, r, hs⟩ := id h
  exact rans_d hs (c_show hs.1.1 hs.2.2.1 a b hc)
theorem k_raise (a b : Int32) : CALL 120 234 [vI a, vI b] := fun σ τ h => by
  obtain ⟨G, n, r, hs⟩ := id h
  exact rans_d hs (c_raise hs.1.1 hs.2.2.1 a b)
theorem k_hand (a b : Int32) : CALL 121 235 [vI a, vI b] := fun σ τ h => by
  obtain ⟨G, n, r, hs⟩ := id h
  exact rans_d hs (c_hand hs.1.1 hs.2.2.1 a b)
theorem k_go (a : Int32) : CALL 122 236 [vI a] := fun σ τ h => by
  obtain ⟨G, n, r, hs⟩ := id h
  exact rans_d hs (c_go hs.1 hs.2.1 hs.2.2.1 a)
theorem k_ahead (a b c : Int32) : CALL 123 238 [vI a, vI b, vI c] := fun σ τ h => by
  obtain ⟨G, n, r, hs⟩ := id h
  exact rans_q h (q_ahead (RQ_of hs) a b c)
theorem k_ring (a b : Int32) : CALL 124 240 [vI a, vI b] := fun σ τ h => by
  obtain ⟨G, n, r, hs⟩ := id h
  exact rans_q h (q_ring (RQ_of hs) a b)
theorem k_free (a b : Int32) : CALL 125 246 [vI a, vI b] := fun σ τ h => by
  obtain ⟨G, n, r, hs⟩ := id h
  exact rans_q h (q_free (RQ_of hs) hs.2.2.1.1.2 a b)
theorem k_lead (a b c d : Int32) : CALL 126 247 [vI a, vI b, vI c, vI d] := fun σ τ h => by
  obtain ⟨G, n, r, hs⟩ := id h
  exact rans_q h (q_lead (RQ_of hs) a b c d)
theorem k_walk (a b : Int32) : CALL 127 250 [vI a, vI b] := fun σ τ h => by
  obtain ⟨G, n, r, hs⟩ := id h
  exact rans_q h (q_walk (RQ_of hs) a b)
theorem k_meet : CALL 128 251 [] := fun σ τ h => by
  obtain ⟨G, n, r, hs⟩ := id h
  exact rans_q h (q_meet (RQ_of hs))
theorem k_reach (a : Int32) : CALL 129 252 [vI a] := fun σ τ h => by
  obtain ⟨G, n, r, hs⟩ := id h
  exact rans_q h (q_reach (RQ_of hs) a)
theorem k_deserves : CALL 130 253 [] := fun σ τ h => by
  obtain ⟨G, n, r, hs⟩ := id h
  exact rans_e h (q_deserves hs.1.1 (RQ_of hs).2.1)
theorem k_order (a : Int32) : CALL 131 275 [vI a] := fun σ τ h => by
  obtain ⟨G, n, r, hs⟩ := id h
  exact rans_q h (q_order (RQ_of hs) hs.2.2.2.2.1 a)
theorem k_rests (a b : Int32) : CALL 132 265 [vI a, vI b] := fun σ τ h => by
  obtain ⟨G, n, r, hs⟩ := id h
  exact rans_e h (q_rests hs.1.1 (RQ_of hs).2.1 a b)
theorem k_rest (a b c : Int32) : CALL 133 266 [vI a, vI b, vI c] := fun σ τ h => by
  obtain ⟨G, n, r, hs⟩ := id h
  exact rans_e h (q_rest hs.1.1 (RQ_of hs).2.1 a b c)
theorem k_visit (a b c : Int32) : CALL 134 255 [vI a, vI b, vI c] := fun σ τ h => by
  obtain ⟨G, n, r, hs⟩ := id h
  exact rans_q h (q_visit (RQ_of hs) a b c)
theorem k_hosts (a b : Int32) : CALL 135 256 [vI a, vI b] := fun σ τ h => by
  obtain ⟨G, n, r, hs⟩ := id h
  exact rans_q h (q_hosts (RQ_of hs) a b)
theorem k_rank (a : Int32) : CALL 136 257 [vI a] := fun σ τ h => by
  obtain ⟨G, n, r, hs⟩ := id h
  exact rans_e h (q_rank hs.1.1 (RQ_of hs).2.1 a)
theorem k_keepers : CALL 137 258 [] := fun σ τ h => by
  obtain ⟨G, n, r, hs⟩ := id h
  exact rans_q h (q_keepers (RQ_of hs))
theorem k_comesTo (a b : Int32) : CALL 138 259 [vI a, vI b] := fun σ τ h => by
  obtain ⟨G, n, r, hs⟩ := id h
  exact rans_q h (q_comesTo (RQ_of hs) a b)
theorem k_popular : CALL 139 260 [] := fun σ τ h => by
  obtain ⟨G, n, r, hs⟩ := id h
  exact rans_e h (q_popular hs.1.1 (RQ_of hs).2.1)
theorem k_mutual : CALL 140 261 [] := fun σ τ h => by
  obtain ⟨G, n, r, hs⟩ := id h
  exact rans_e h (q_mutual hs.1.1 (RQ_of hs).2.1)
theorem k_lonely : CALL 141 262 [] := fun σ τ h => by
  obtain ⟨G, n, r, hs⟩ := id h
  exact rans_e h (q_lonely hs.1.1 (RQ_of hs).2.1)
theorem k_note (a b : Int32) : CALL 142 268 [vI a, vI b] := fun σ τ h => by
  obtain ⟨G, n, r, hs⟩ := id h
  exact rans_t hs (c_note hs.1.1 hs.2.2.2.2.1 a b)
theorem k_see (a b c : Int32) {d : Int32} (hd : d = 0 ∨ d = 1) : CALL 143 269 [vI a, vI b, vI c, vI d] := fun σ τ h => by
  obtain ⟨G, n, r, hs⟩ := id h
  exact rans_t hs (c_see hs.1.1 hs.2.2.2.2.1 a b c hd)
theorem k_strike (a : Int32) : CALL 144 270 [vI a] := fun σ τ h => by
  obtain ⟨G, n, r, hs⟩ := id h
  exact rans_t hs (c_strike hs.2.2.2.2.1 a)
theorem k_known (a : Int32) : CALL 145 271 [vI a] := fun σ τ h => by
  obtain ⟨G, n, r, hs⟩ := id h
  exact rans_t hs (c_known hs.2.2.2.2.1 a)
theorem k_doubts (a : Int32) : CALL 146 278 [vI a] := fun σ τ h => by
  obtain ⟨G, n, r, hs⟩ := id h
  exact rans_q h (q_doubts (RQ_of hs) hs.2.2.2.1 hs.2.2.2.2.1 a)
theorem k_chance (a b c d : Int32) : CALL 147 279 [vI a, vI b, vI c, vI d] := fun σ τ h => by
  obtain ⟨G, n, r, hs⟩ := id h
  exact rans_q h (q_chance (RQ_of hs) a b c d)
theorem k_tried (a b c : Int32) : CALL 148 280 [vI a, vI b, vI c] := fun σ τ h => by
  obtain ⟨G, n, r, hs⟩ := id h
  exact rans_q h (q_tried (RQ_of hs) a b c)
theorem k_undo : CALL 149 284 [] := fun σ τ h => by
  obtain ⟨G, n, r, hs⟩ := id h
  exact rans_d hs (c_undo hs.1.1 hs.2.2.1)
theorem k_keep : CALL 150 285 [] := fun σ τ h => by
  obtain ⟨G, n, r, hs⟩ := id h
  exact r_keep hs
theorem k_back : CALL 151 286 [] := fun σ τ h => by
  obtain ⟨G, n, r, hs⟩ := id h
  exact rans_d hs (c_back hs.1.1 hs.2.2.1 hs.2.2.2.2.2.1)
theorem k_count (a : Int32) : CALL 152 287 [vI a] := fun σ τ h => by
  obtain ⟨G, n, r, hs⟩ := id h
  exact rans_q h (q_count (RQ_of hs) hs.2.2.2.2.1 hs.2.2.1.2.2.2 a)
/-- one state for both -/
theorem mrg_self (S : Nat → Bool) (σ : ST) : mrg S σ σ = σ := by
  unfold mrg
  simp only [ite_self]
theorem mrg_own {Z σ' : ST} (h : σ' = mrg sC σ' Z) : σ' = mrg sM Z σ' := by
  have key : ∀ {α : Type} (f g : Nat → Nat → Nat → α), (∀ c o k, f c o k = if sC c = true then f c o k else g c o k) → ∀ c o k, f c o k = if sM c = true then g c o k else f c o k := by
    intro α f g hf c o k
    by_cases e : c = 12
    · subst e
      rw [if_pos (by decide)]
      have := hf 12 o k
      rw [if_neg (by decide)] at this
      exact this
    · rw [if_neg (by unfold sM; simpa using e)]
  have h1 : ∀ c o k, σ'.1 c o k = if sC c = true then σ'.1 c o k else Z.1 c o k := fun c o k => congrFun (congrFun (congrFun (congrArg (fun x : ST => x.1) h) c) o) k
  have h2 : ∀ c o k, σ'.2.1 c o k = if sC c = true then σ'.2.1 c o k else Z.2.1 c o k := fun c o k => congrFun (congrFun (congrFun (congrArg (fun x : ST => x.2.1) h) c) o) k
  have h3 : ∀ c o k, σ'.2.2.1 c o k = if sC c = true then σ'.2.2.1 c o k else Z.2.2.1 c o k := fun c o k => congrFun (congrFun (congrFun (congrArg (fun x : ST => x.2.2.1) h) c) o) k
  have h4 : ∀ c o k, σ'.2.2.2.1 c o k = if sC c = true then σ'.2.2.2.1 c o k else Z.2.2.2.1 c o k := fun c o k => congrFun (congrFun (congrFun (congrArg (fun x : ST => x.2.2.2.1) h) c) o) k
  have h5 : ∀ c o k, σ'.2.2.2.2 c o k = if sC c = true then σ'.2.2.2.2 c o k else Z.2.2.2.2 c o k := fun c o k => congrFun (congrFun (congrFun (congrArg (fun x : ST => x.2.2.2.2) h) c) o) k
  unfold mrg
  refine Prod.ext (funext fun c => funext fun o => funext fun k => key _ _ h1 c o k) (Prod.ext (funext fun c => funext fun o => funext fun k => key _ _ h2 c o k) (Prod.ext (funext fun c => funext fun o => funext fun k => key _ _ h3 c o k) (Prod.ext (funext fun c => funext fun o => funext fun k => key _ _ h4 c o k) (funext fun c => funext fun o => funext fun k => key _ _ h5 c o k))))
theorem REL_mrg {σ' τ' : ST} (h : REL σ' τ') : REL (mrg sM τ' σ') (mrg sM τ' σ') := h
theorem own_state {a : Nat} {as : List AV} {Z σ' : ST} {v : Option AV} (h : den a (vR 11 0 0 :: as) Z = some (v, σ')) (has : oS sC as) : σ' = mrg sM Z σ' := by
  have h1 := den_loc sclC h (fun w hw => by
    rcases List.mem_cons.mp hw with rfl | hw
    · exact (rfl : sC 11 = true)
    · exact has w hw) Z
  rw [mrg_self] at h1
  exact mrg_own (congrArg Prod.snd (Option.some.inj (h.symm.trans h1)))
theorem ref_state {b : Nat} {as : List AV} {Z σ' τ' : ST} {v : Option AV} (h : den b (vR 12 0 0 :: as) Z = some (v, τ')) (has : oS sM as) (e : σ' = mrg sM Z σ') : den b (vR 12 0 0 :: as) σ' = some (v, mrg sM τ' σ') := by
  have h1 := den_loc sclM h (fun w hw => by
    rcases List.mem_cons.mp hw with rfl | hw
    · exact (rfl : sM 12 = true)
    · exact has w hw) σ'
  rw [← e] at h1
  exact h1
def ints (as : List AV) : Prop := ∀ w ∈ as, ∃ x, w = vI x
theorem ints_S {S : Nat → Bool} {as : List AV} (h : ints as) : oS S as := fun w hw => by
  obtain ⟨x, rfl⟩ := h w hw
  exact trivial
theorem both {a b : Nat} {as : List AV} {Z : ST} (hc : CALL a b as) (hi : ints as) (h : REL Z Z) : ∃ v Z1 Z2, den a (vR 11 0 0 :: as) Z = some (some (vI v), Z1) ∧ den b (vR 12 0 0 :: as) Z1 = some (some (vI v), Z2) ∧ REL Z2 Z2 := by
  obtain ⟨v, σ', τ', e1, e2, h'⟩ := hc Z Z h
  have e3 := own_state e1 (ints_S hi)
  exact ⟨v, σ', mrg sM τ' σ', e1, ref_state e2 (ints_S hi) e3, REL_mrg h'⟩
theorem bothL {a b : Nat} {as : List AV} {Z : ST} (hc : CALLL a b as) (hi : ints as) (h : REL Z Z) : ∃ v Z1 Z2, den a (vR 11 0 0 :: as) Z = some (some (vL v), Z1) ∧ den b (vR 12 0 0 :: as) Z1 = some (some (vL v), Z2) ∧ REL Z2 Z2 := by
  obtain ⟨v, σ', τ', e1, e2, h'⟩ := hc Z Z h
  have e3 := own_state e1 (ints_S hi)
  exact ⟨v, σ', mrg sM τ' σ', e1, ref_state e2 (ints_S hi) e3, REL_mrg h'⟩
/-- grower: whose ribbons -/
theorem ribs_loop (hG : RG G n r σ τ) (hP : PRb n r σ 0 τ 0) (y : Int32) : ∀ (m i : Nat), i + m = r → ∀ x : Int32, ∃ v, run kX11_ribbonsOf 4 [some (vR 11 0 0), some (vI y), some (vI x), some (vI (nI i))] [] σ = some (some (vI v), σ) ∧ run kX12_ribbonsOf 4 [some (vR 12 0 0), some (vI 0), some (vI y), some (vI x), some (vI (nI i))] [] τ = some (some (vI v), τ)
  | 0, i, hm, x => by
    have hr2 := hG.r2
    have hlt : ¬ nI i < nI r := nI_nlt (by omega) (by omega)
    rw [bX11_ribbonsOf_4, hG.cr, if_neg hlt, bX12_ribbonsOf_4, hG.mr, if_neg hlt]
    exact ⟨x, rfl, rfl⟩
  | m + 1, i, hm, x => by
    have hr2 := hG.r2
    have hlt : nI i < nI r := nI_lt (by omega) (by omega)
    have a1 := ob (i := i) (N := 2) (by omega) (by decide)
    have a2 := ob (i := i) (N := 4) (by omega) (by decide)
    have c1 : (nI i).toNatClampNeg = i := nI_clamp (by omega)
    have e0 : (2 : Int32) * 0 + nI i = nI i := by rw [show (2 : Int32) * 0 = 0 from rfl, Int32.zero_add]
    have e1 : gA σ 5 0 5 i = gA τ 12 0 47 i := by have := (hP.1.2.2.2.1 i (by omega)).1; simpa using this
    rw [bX11_ribbonsOf_4, hG.cr, if_pos hlt, bX12_ribbonsOf_4, hG.mr, if_pos hlt, e0]
    simp only [c1, a1, a2, ↓reduceIte, e1, nI_S]
    by_cases h : gA τ 12 0 47 i = y
    · rw [if_pos h, if_pos h]
      exact ribs_loop hG hP y m (i + 1) (by omega) _
    · rw [if_neg h, if_neg h]
      exact ribs_loop hG hP y m (i + 1) (by omega) _
def gvC (σ : ST) (G k j : Nat) : Int32 := if k = 0 then gA σ 5 0 2 j else if k = 1 then gA σ 2 G 6 j else if k = 2 then gA σ 2 G 7 j else if k = 3 then gA σ 2 G 8 j else if k = 4 then gA σ 5 0 3 j else gA σ 5 0 4 j
abbrev thk (τ : ST) (x : Int32) : ST := sI (th0 τ) 12 0 2 x
theorem q_grower (hG : RG G n r σ τ) (hP : PRb n r σ 0 τ 0) (x y : Int32) :
    (isb x (nI n) = 0 ∧ ∃ v, den 228 [vR 12 0 0, vI x, vI y] τ = some (some (vI v), thk τ 1)) ∨
    ∃ j, j < n ∧ x = nI j ∧ isb x (nI n) = 1 ∧ (((∀ k, k < 7 → y ≠ nI k) ∧ ∃ v, den 228 [vR 12 0 0, vI x, vI y] τ = some (some (vI v), thk τ 2)) ∨
      (∃ k, k < 6 ∧ y = nI k ∧ den 228 [vR 12 0 0, vI x, vI y] τ = some (some (vI (gvC σ G k j)), th0 τ)) ∨
      (y = nI 6 ∧ ∃ v, den 159 [vR 11 0 0, vI x] σ = some (some (vI v), σ) ∧ den 228 [vR 12 0 0, vI x, vI y] τ = some (some (vI v), th0 τ))) := by
  have hn6 := hG.n6
  have hm : gI (th0 τ) 12 0 12 = nI n := hG.mn
  rw [dX12_grower, bX12_grower_0, m_isGrower, hm, bnd_s, tl_s, bX12_grower_6]
  rcases isb_nI (g := x) (n := n) (by omega) with h0 | ⟨j, hj, rfl, h1⟩
  · rw [h0, if_pos rfl, dX12_fails, bX12_fails_0, bnd_s, tl_s, bX12_grower_10]
    exact Or.inl ⟨rfl, _, rfl⟩
  · refine Or.inr ⟨j, hj, rfl, h1, ?_⟩
    have a1 := ob (i := j) (N := 12) (by omega) (by decide)
    have c1 : (nI j).toNatClampNeg = j := nI_clamp (by omega)
    rw [h1, if_neg i10]
    simp only [c1, a1, ↓reduceIte]
    have e0 : gA σ 5 0 2 j = gA τ 12 0 44 j := by have := (hP.1.1 j hj).1; simpa using this
    have e4 : gA σ 5 0 3 j = gA τ 12 0 45 j := by have := hP.1.2.1 j hj; simpa using this
    have e5 : gA σ 5 0 4 j = gA τ 12 0 46 j := by have := (hP.1.2.2.1 j (by omega)).1; simpa using this
    have e1 := (hG.2.2.2.2.2.2.2.1 j hj).1
    have e2 := (hG.2.2.2.2.2.2.2.2.1 j hj).1
    have e3 := (hG.2.2.2.2.2.2.2.2.2 j hj).1
    by_cases y0 : y = 0
    · rw [if_pos y0]
      exact Or.inr (Or.inl ⟨0, by decide, y0, by rw [show gvC σ G 0 j = gA σ 5 0 2 j from rfl, e0]; rfl⟩)
    rw [if_neg y0]
    by_cases y1 : y = 1
    · rw [if_pos y1]
      exact Or.inr (Or.inl ⟨1, by decide, y1, by rw [show gvC σ G 1 j = gA σ 2 G 6 j from rfl, e1]; rfl⟩)
    rw [if_neg y1]
    by_cases y2 : y = 2
    · rw [if_pos y2]
      exact Or.inr (Or.inl ⟨2, by decide, y2, by rw [show gvC σ G 2 j = gA σ 2 G 7 j from rfl, e2]; rfl⟩)
    rw [if_neg y2]
    by_cases y3 : y = 3
    · rw [if_pos y3]
      exact Or.inr (Or.inl ⟨3, by decide, y3, by rw [show gvC σ G 3 j = gA σ 2 G 8 j from rfl, e3]; rfl⟩)
    rw [if_neg y3]
    by_cases y4 : y = 4
    · rw [if_pos y4]
      exact Or.inr (Or.inl ⟨4, by decide, y4, by rw [show gvC σ G 4 j = gA σ 5 0 3 j from rfl, e4]; rfl⟩)
    rw [if_neg y4]
    by_cases y5 : y = 5
    · rw [if_pos y5]
      exact Or.inr (Or.inl ⟨5, by decide, y5, by rw [show gvC σ G 5 j = gA σ 5 0 4 j from rfl, e5]; rfl⟩)
    rw [if_neg y5]
    by_cases y6 : y = 6
    · rw [if_pos y6]
      have hG' : RG G n r σ (th0 τ) := hG
      have hP' : PRb n r σ 0 (th0 τ) 0 := hP
      obtain ⟨v, w1, w2⟩ := ribs_loop hG' hP' (nI j) r 0 (by omega) 0
      rw [nI_0] at w1 w2
      refine Or.inr (Or.inr ⟨y6, v, ?_, ?_⟩)
      · rw [dX11_ribbonsOf, bX11_ribbonsOf_0, w1]
      · rw [dX12_ribbonsOf, bX12_ribbonsOf_0, w2, bnd_s, tl_s, bX12_grower_47]
    · rw [if_neg y6, dX12_fails, bX12_fails_0, bnd_s, tl_s, bX12_grower_51]
      refine Or.inl ⟨fun k hk => ?_, _, rfl⟩
      have : k = 0 ∨ k = 1 ∨ k = 2 ∨ k = 3 ∨ k = 4 ∨ k = 5 ∨ k = 6 := by omega
      rcases this with rfl | rfl | rfl | rfl | rfl | rfl | rfl
      · exact y0
      · exact y1
      · exact y2
      · exact y3
      · exact y4
      · exact y5
      · exact y6
end CAL
