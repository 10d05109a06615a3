/-! a law's row of knots, worked out over a stack -/
theorem u3_u {α : Type} {f : Nat → Nat → Nat → α} {c o k : Nat} {v w : α} : u3 (u3 f c o k v) c o k w = u3 f c o k w := by
  funext a b d
  unfold u3
  by_cases h : d = k ∧ a = c ∧ b = o
  · rw [if_pos h, if_pos h]
  · rw [if_neg h, if_neg h, if_neg h]
theorem sBB {σ : ST} {c o k : Nat} {f g : Nat → Int64} : sB (sB σ c o k f) c o k g = sB σ c o k g := by
  unfold sB
  dsimp only
  rw [u3_u]
theorem sAA {σ : ST} {c o k : Nat} {f g : Nat → Int32} : sA (sA σ c o k f) c o k g = sA σ c o k g := by
  unfold sA
  dsimp only
  rw [u3_u]
theorem sII {σ : ST} {c o k : Nat} {f g : Int32} : sI (sI σ c o k f) c o k g = sI σ c o k g := by
  unfold sI
  dsimp only
  rw [u3_u]
theorem u3_id {α : Type} {f : Nat → Nat → Nat → α} {c o k : Nat} : u3 f c o k (f c o k) = f := by
  funext a b d
  unfold u3
  by_cases h : d = k ∧ a = c ∧ b = o
  · rw [if_pos h, h.1, h.2.1, h.2.2]
  · rw [if_neg h]
theorem sB_id {σ : ST} {c o k : Nat} : sB σ c o k (gB σ c o k) = σ := by
  show (σ.1, σ.2.1, σ.2.2.1, σ.2.2.2.1, u3 σ.2.2.2.2 c o k (σ.2.2.2.2 c o k)) = σ
  rw [u3_id]
theorem sA_id {σ : ST} {c o k : Nat} : sA σ c o k (gA σ c o k) = σ := by
  show (σ.1, σ.2.1, σ.2.2.1, u3 σ.2.2.2.1 c o k (σ.2.2.2.1 c o k), σ.2.2.2.2) = σ
  rw [u3_id]
theorem sI_id {σ : ST} {c o k : Nat} : sI σ c o k (gI σ c o k) = σ := by
  show (u3 σ.1 c o k (σ.1 c o k), σ.2) = σ
  rw [u3_id]
theorem gB_s {σ : ST} {c o k : Nat} {f : Nat → Int64} : gB (sB σ c o k f) c o k = f := u3_s
theorem gA_s {σ : ST} {c o k : Nat} {f : Nat → Int32} : gA (sA σ c o k f) c o k = f := u3_s
theorem gI_s {σ : ST} {c o k : Nat} {f : Int32} : gI (sI σ c o k f) c o k = f := u3_s
/-- what an operand's knot is worth -/
def opv (k : Int32) (nm : Nat → Int64) : Int64 := if k - 10000 < 0 then k.toInt64 else if k - 10000 < 7 then nm (k - 10000).toNatClampNeg else k.toInt64
/-- a row of knots over a stack, the last one first -/
def evS (K : Nat → Int32) (nm : Nat → Int64) : Nat → Nat → List Int64 → Int64
  | 0, _, st => match st with
    | [v] => v
    | _ => eER
  | m + 1, i, st => if K i < 20000 then evS K nm m (i + 1) (opv (K i) nm :: st)
    else if K i = 20002 then (match st with
      | v :: r => evS K nm m (i + 1) ((if v = 0 then 1 else 0) :: r)
      | [] => eER)
    else match st with
      | b :: a :: r => if eMV < jop (K i - 20000) a b then eER else if jop (K i - 20000) a b < -eMV then eER else evS K nm m (i + 1) (jop (K i - 20000) a b :: r)
      | _ => eER
/-- the row of values holds the stack -/
def stk (f : Nat → Int64) (st : List Int64) : Prop := ∀ (j : Nat) (v : Int64), st[j]? = some v → f (st.length - 1 - j) = v
theorem stk_push {f : Nat → Int64} {st : List Int64} (h : stk f st) (v : Int64) : stk (vp_updL f st.length v) (v :: st) := by
  intro j w hj
  cases j with
  | zero =>
    rw [List.getElem?_cons_zero] at hj
    cases hj
    show vp_updL f st.length v (st.length + 1 - 1 - 0) = v
    rw [show st.length + 1 - 1 - 0 = st.length by omega]
    exact pk_uLs
  | succ j =>
    rw [List.getElem?_cons_succ] at hj
    have hl := (List.getElem?_eq_some_iff.mp hj).1
    have e : (v :: st).length - 1 - (j + 1) = st.length - 1 - j := by
      rw [List.length_cons]
      omega
    rw [e, pk_uLn (by omega)]
    exact h j w hj
theorem stk_tail {f : Nat → Int64} {v : Int64} {st : List Int64} (h : stk f (v :: st)) : stk f st := by
  intro j w hj
  have hl := (List.getElem?_eq_some_iff.mp hj).1
  have := h (j + 1) w (by rw [List.getElem?_cons_succ]; exact hj)
  have e : (v :: st).length - 1 - (j + 1) = st.length - 1 - j := by
    rw [List.length_cons]
    omega
  rwa [e] at this
theorem stk_head {f : Nat → Int64} {v : Int64} {st : List Int64} (h : stk f (v :: st)) : f st.length = v := by
  have := h 0 v rfl
  rwa [show (v :: st).length - 1 - 0 = st.length by rw [List.length_cons]; omega] at this
theorem stk_un {f : Nat → Int64} {st : List Int64} (h : stk f st) {k : Nat} (hk : st.length ≤ k) (v : Int64) : stk (vp_updL f k v) st := by
  intro j w hj
  have hl := (List.getElem?_eq_some_iff.mp hj).1
  rw [pk_uLn (by omega)]
  exact h j w hj
section WK
variable {σ : ST} {o p : Nat}
theorem wk_loop {len : Nat} (hlen : len ≤ 64) (hL : gI σ 3 p 1 = nI len) : ∀ (m i : Nat), i + m = len → ∀ (st : List Int64), st.length ≤ i → ∀ (f : Nat → Int64), stk f st → ∀ (y5 y6 y7 : Option AV), ∃ f' : Nat → Int64,
    run kX3_worked 4 [some (vR 3 p 0), some (vR 0 o 3), some (vR 0 o 4), some (vI (nI st.length)), some (vI (nI i)), y5, y6, y7] [] (sB σ 0 o 3 f) = some (some (vL (evS (gA σ 3 p 0) (gB σ 0 o 2) m i st)), sB σ 0 o 3 f')
  | 0, i, hm, st, hst, f, hf, y5, y6, y7 => by
    have hlt : ¬ nI i < nI len := nI_nlt (by omega) (by omega)
    have hL' : gI (sB σ 0 o 3 f) 3 p 1 = nI len := hL
    rw [bX3_worked_4, hL', if_neg hlt]
    refine ⟨f, ?_⟩
    match st, hst, hf with
    | [], _, _ =>
      rw [if_neg (by decide), bX3_worked_113]
      rfl
    | [v], _, hf =>
      have e : f 0 = v := stk_head hf
      rw [if_pos (show nI [v].length = (1 : Int32) from (by decide : nI 1 = (1 : Int32))), bX3_worked_113, gB_s]
      show some (some (vL (f 0)), _) = some (some (vL v), _)
      rw [e]
    | a :: b :: r, hst, _ =>
      have hne : ¬ nI (a :: b :: r).length = (1 : Int32) := fun z => by
        have := (nI_eq (a := (a :: b :: r).length) (b := 1) (by omega) (by decide)).mp z
        simp at this
      rw [if_neg hne, bX3_worked_113]
      rfl
  | m + 1, i, hm, st, hst, f, hf, y5, y6, y7 => by
    have hlt : nI i < nI len := nI_lt (by omega) (by omega)
    have hL' : gI (sB σ 0 o 3 f) 3 p 1 = nI len := hL
    have a1 := ob (i := i) (N := 64) (by omega) (by decide)
    have c1 : (nI i).toNatClampNeg = i := nI_clamp (by omega)
    have eK : gA (sB σ 0 o 3 f) 3 p 0 = gA σ 3 p 0 := rfl
    have eN : gB (sB σ 0 o 3 f) 0 o 2 = gB σ 0 o 2 := rfl
    rw [bX3_worked_4]
    simp only [hL', hlt, c1, a1, eK, eN, gB_s, ↓reduceIte]
    by_cases h1 : gA σ 3 p 0 i < 20000
    · -- an operand
      have hs64 : nI st.length < (64 : Int32) := nI_lt (b := 64) (by omega) (by decide)
      have b1 := ob (i := st.length) (N := 64) (by omega) (by decide)
      have c2 : (nI st.length).toNatClampNeg = st.length := nI_clamp (by omega)
      have go : ∀ (v : Int64) (y5 y6 y7 : Option AV), ∃ f' : Nat → Int64, run kX3_worked 40 [some (vR 3 p 0), some (vR 0 o 3), some (vR 0 o 4), some (vI (nI st.length)), some (vI (nI i)), y5, y6, y7] [vL v, vI (nI st.length), vR 0 o 4] (sB σ 0 o 3 f) = some (some (vL (evS (gA σ 3 p 0) (gB σ 0 o 2) m (i + 1) (v :: st))), sB σ 0 o 3 f') := by
        intro v y5 y6 y7
        rw [bX3_worked_40]
        simp only [c2, b1, ↓reduceIte, gB_s, sBB, nI_S]
        rw [bX3_worked_103, nI_S]
        exact wk_loop hlen hL m (i + 1) (by omega) (v :: st) (by rw [List.length_cons]; omega) _ (stk_push hf v) _ _ _
      simp only [h1, hs64, ↓reduceIte, evS]
      unfold opv
      by_cases h2 : gA σ 3 p 0 i - 10000 < 0
      · simp only [h2, ↓reduceIte, bX3_worked_38]
        exact go _ _ _ _
      · simp only [h2, ↓reduceIte]
        by_cases h3 : gA σ 3 p 0 i - 10000 < 7
        · have b2 : ¬ (7 ≤ (gA σ 3 p 0 i - 10000).toNatClampNeg) := by
            obtain ⟨j, hj, e⟩ := nI_of h2
            rw [e] at h3 ⊢
            rw [nI_clamp hj]
            have := (nI_ltI (a := j) (b := 7) hj (by decide)).mp h3
            omega
          simp only [h3, b2, ↓reduceIte, false_or]
          exact go _ _ _ _
        · simp only [h3, ↓reduceIte, bX3_worked_38]
          exact go _ _ _ _
    · simp only [h1, ↓reduceIte, evS]
      by_cases h2 : gA σ 3 p 0 i = 20002
      · -- not
        simp only [h2, ↓reduceIte]
        match st, hst, hf with
        | [], _, _ =>
          rw [if_pos (by decide)]
          exact ⟨f, rfl⟩
        | v :: r, hst, hf =>
          have hl : (v :: r).length = r.length + 1 := List.length_cons
          have e1 : nI (v :: r).length - 1 = nI r.length := by rw [hl]; exact nI_pred _
          have b1 := ob (i := r.length) (N := 64) (by rw [hl] at hst; omega) (by decide)
          have c2 : (nI r.length).toNatClampNeg = r.length := nI_clamp (by rw [hl] at hst; omega)
          have hn1 : ¬ nI (v :: r).length < (1 : Int32) := nI_nlt (a := (v :: r).length) (b := 1) (by rw [hl]; omega) (by rw [hl]; rw [hl] at hst; omega)
          have ev : f r.length = v := stk_head hf
          rw [if_neg hn1]
          simp only [e1, c2, b1, ↓reduceIte, ev, lc_eq]
          have go : ∀ (w : Int64) (y5 y6 y7 : Option AV), ∃ f' : Nat → Int64, run kX3_worked 66 [some (vR 3 p 0), some (vR 0 o 3), some (vR 0 o 4), some (vI (nI (v :: r).length)), some (vI (nI i)), y5, y6, y7] [vL w, vI (nI r.length), vR 0 o 4] (sB σ 0 o 3 f) = some (some (vL (evS (gA σ 3 p 0) (gB σ 0 o 2) m (i + 1) (w :: r))), sB σ 0 o 3 f') := by
            intro w y5 y6 y7
            rw [bX3_worked_66]
            simp only [c2, b1, ↓reduceIte, gB_s, sBB]
            rw [bX3_worked_103, nI_S]
            exact wk_loop hlen hL m (i + 1) (by omega) (w :: r) (by rw [List.length_cons]; rw [hl] at hst; omega) _ (stk_push (stk_tail hf) w) _ _ _
          by_cases hv : v = 0
          · simp only [hv, ↓reduceIte]
            have := go 1 (some (vI 20002)) y6 y7
            rw [hv] at this
            exact this
          · simp only [hv, ↓reduceIte]
            exact go 0 _ _ _
      · -- a sign between two
        simp only [h2, ↓reduceIte]
        match st, hst, hf with
        | [], _, _ =>
          rw [if_pos (by decide)]
          exact ⟨f, rfl⟩
        | [v], _, _ =>
          rw [if_pos (show nI [v].length < (2 : Int32) from (by decide : nI 1 < (2 : Int32)))]
          exact ⟨f, rfl⟩
        | b :: a :: r, hst, hf =>
          have hl : (b :: a :: r).length = r.length + 1 + 1 := by rw [List.length_cons, List.length_cons]
          have e1 : nI (b :: a :: r).length + (-1 : Int32) = nI (r.length + 1) := by rw [hl]; exact pk_m1 _
          have e2 : nI (r.length + 1) - 1 = nI r.length := nI_pred _
          have hn2 : ¬ nI (b :: a :: r).length < (2 : Int32) := nI_nlt (a := (b :: a :: r).length) (b := 2) (by rw [hl]; omega) (by rw [hl]; rw [hl] at hst; omega)
          have b1 := ob (i := r.length) (N := 64) (by rw [hl] at hst; omega) (by decide)
          have b2 := ob (i := r.length + 1) (N := 64) (by rw [hl] at hst; omega) (by decide)
          have c2 : (nI r.length).toNatClampNeg = r.length := nI_clamp (by rw [hl] at hst; omega)
          have c3 : (nI (r.length + 1)).toNatClampNeg = r.length + 1 := nI_clamp (by rw [hl] at hst; omega)
          have eb : f (r.length + 1) = b := by have := stk_head hf; rwa [List.length_cons] at this
          have ea : f r.length = a := stk_head (stk_tail hf)
          rw [if_neg hn2]
          simp only [e1, e2, c2, c3, b1, b2, ↓reduceIte, ea, eb, e_joined, bnd_s, tl_s]
          rw [bX3_worked_86]
          simp only [lc_gt, lc_lt]
          by_cases hg : eMV < jop (gA σ 3 p 0 i - 20000) a b
          · rw [if_pos hg, if_pos hg, bX3_worked_95]
            exact ⟨f, rfl⟩
          · rw [if_neg hg, if_neg hg]
            by_cases hs : jop (gA σ 3 p 0 i - 20000) a b < -eMV
            · rw [if_pos hs, if_pos hs, bX3_worked_95]
              exact ⟨f, rfl⟩
            · rw [if_neg hs, if_neg hs]
              simp only [e2, c2, b1, ↓reduceIte, gB_s, sBB]
              rw [bX3_worked_103, nI_S]
              have hlr : (jop (gA σ 3 p 0 i - 20000) a b :: r).length = r.length + 1 := List.length_cons
              have := wk_loop hlen hL m (i + 1) (by omega) (jop (gA σ 3 p 0 i - 20000) a b :: r) (by rw [hlr]; rw [hl] at hst; omega) _ (stk_push (stk_tail (stk_tail hf)) (jop (gA σ 3 p 0 i - 20000) a b)) (klf (some (vI (gA σ 3 p 0 i)))) (some (vL (jop (gA σ 3 p 0 i - 20000) a b))) none
              rw [hlr] at this
              exact this
/-- Law.worked -/
theorem e_worked {len : Nat} (hlen : len ≤ 64) (hL : gI σ 3 p 1 = nI len) : ∃ f' : Nat → Int64, den 30 [vR 3 p 0, vR 0 o 3, vR 0 o 4] σ = some (some (vL (evS (gA σ 3 p 0) (gB σ 0 o 2) len 0 [])), sB σ 0 o 3 f') := by
  rw [dX3_worked, bX3_worked_0]
  have h := wk_loop (o := o) hlen hL len 0 (by omega) [] (Nat.le_refl 0) (gB σ 0 o 3) (fun j v hj => by simp at hj) none none none
  rw [sB_id] at h
  exact h
end WK
