/-! LAWS: the class's row of knots and the reference's knots work out alike -/
section WF
variable (K kn pa ot : Nat → Int32) (f : Nat)
/-- one knot more: st holds the places of the values that wait, the last one first -/
def stp1 (i : Nat) (st0 st : List Nat) : Prop :=
  (∃ x, x ≤ 9999 ∧ K i = nI x ∧ kn (f + i) = 0 ∧ pa (f + i) = nI x ∧ st = (f + i) :: st0) ∨
  (∃ a, a < 7 ∧ K i = nI (10000 + a) ∧ kn (f + i) = 1 ∧ pa (f + i) = nI a ∧ st = (f + i) :: st0) ∨
  (∃ a r, st0 = a :: r ∧ K i = 20002 ∧ kn (f + i) = 2 ∧ pa (f + i) = nI a ∧ st = (f + i) :: r) ∨
  (∃ a b r k, st0 = b :: a :: r ∧ 3 ≤ k ∧ k ≤ 14 ∧ K i = nI (20000 + sg k) ∧ kn (f + i) = nI k ∧ pa (f + i) = nI a ∧ ot (f + i) = nI b ∧ st = (f + i) :: r)
def wfS : Nat → List Nat → Prop
  | 0, st => st = []
  | i + 1, st => ∃ st0, wfS i st0 ∧ stp1 K kn pa ot f i st0 st
end WF
section WF2
variable {K kn pa ot : Nat → Int32} {f : Nat}
theorem wfS_lt : ∀ {i : Nat} {st : List Nat}, wfS K kn pa ot f i st → ∀ p, p ∈ st → p < f + i
  | 0, st, h, p, hp => by
    cases h
    cases hp
  | i + 1, st, h, p, hp => by
    obtain ⟨st0, h0, h1⟩ := h
    have ih := wfS_lt h0
    have key : ∀ r : List Nat, (∀ q, q ∈ r → q ∈ st0) → st = (f + i) :: r → p < f + (i + 1) := by
      intro r hr e
      subst e
      rcases List.mem_cons.mp hp with e | e
      · omega
      · have := ih p (hr p e)
        omega
    rcases h1 with ⟨x, _, _, _, _, e⟩ | ⟨a, _, _, _, _, e⟩ | ⟨a, r, e0, _, _, _, e⟩ | ⟨a, b, r, k, e0, _, _, _, _, _, _, e⟩
    · exact key st0 (fun q hq => hq) e
    · exact key st0 (fun q hq => hq) e
    · exact key r (fun q hq => by rw [e0]; exact List.mem_cons_of_mem _ hq) e
    · exact key r (fun q hq => by rw [e0]; exact List.mem_cons_of_mem _ (List.mem_cons_of_mem _ hq)) e
/-- how far the class and the reference are behind i knots -/
def wfI (K : Nat → Int32) (nm : Nat → Int64) (i : Nat) (st : List Nat) (v : Nat → Int64) (e : Int32) : Prop :=
  (∀ p, p ∈ st → bd (v p)) ∧ ((e = 0 ∧ ∀ m, evS K nm (i + m) 0 [] = evS K nm m i (st.map v)) ∨ (e = 1 ∧ ∀ m, evS K nm (i + m) 0 [] = eER))
theorem evS_op {K : Nat → Int32} {nm : Nat → Int64} {m i : Nat} {st : List Int64} (h : K i < 20000) : evS K nm (m + 1) i st = evS K nm m (i + 1) (opv (K i) nm :: st) := by
  simp only [evS, h, ↓reduceIte]
theorem evS_not {K : Nat → Int32} {nm : Nat → Int64} {m i : Nat} {v : Int64} {r : List Int64} (h : K i = 20002) : evS K nm (m + 1) i (v :: r) = evS K nm m (i + 1) ((if v = 0 then 1 else 0) :: r) := by
  have h' : ¬ K i < 20000 := by rw [h]; decide
  simp only [evS, h, show ¬ (20002 : Int32) < 20000 by decide, ↓reduceIte]
theorem evS_bin {K : Nat → Int32} {nm : Nat → Int64} {m i : Nat} {a b : Int64} {r : List Int64} (h1 : ¬ K i < 20000) (h2 : ¬ K i = 20002) : evS K nm (m + 1) i (b :: a :: r) = if eMV < jop (K i - 20000) a b then eER else if jop (K i - 20000) a b < -eMV then eER else evS K nm m (i + 1) (jop (K i - 20000) a b :: r) := by
  simp only [evS, h1, h2, ↓reduceIte]
theorem sg_lt {k : Nat} (h3 : 3 ≤ k) (h : k ≤ 14) : sg k ≤ 12 ∧ sg k ≠ 2 := by
  unfold sg
  by_cases a : k = 3
  · rw [if_pos a]; omega
  · rw [if_neg a]
    by_cases b : k = 4
    · rw [if_pos b]; omega
    · rw [if_neg b]; omega
theorem map_ne {v : Nat → Int64} {p : Nat} {x : Int64} {st : List Nat} (h : ∀ q, q ∈ st → q < p) : st.map (vp_updL v p x) = st.map v := List.map_congr_left (fun q hq => pk_uLn (by have := h q hq; omega))
/-- the reference at the i-th knot of a law -/
abbrev lwS (τ : ST) (v : Nat → Int64) (e : Int32) : ST := sI (sB τ 12 0 42 v) 12 0 43 e
theorem lwS_2 {τ : ST} {v w : Nat → Int64} {e e' : Int32} : sB (sI (lwS τ v e) 12 0 43 e') 12 0 42 w = lwS τ w e' := by
  show sB (sI (sI (sB τ 12 0 42 v) 12 0 43 e) 12 0 43 e') 12 0 42 w = sI (sB τ 12 0 42 w) 12 0 43 e'
  rw [sII]
  show sI (sB (sB τ 12 0 42 v) 12 0 42 w) 12 0 43 e' = _
  rw [sBB]
theorem lwS_3 {τ : ST} {v w : Nat → Int64} {e : Int32} : sB (lwS τ v e) 12 0 42 w = lwS τ w e := by
  show sI (sB (sB τ 12 0 42 v) 12 0 42 w) 12 0 43 e = _
  rw [sBB]
theorem law_step {τ : ST} (hkn : gA τ 12 0 30 = kn) (hpa : gA τ 12 0 31 = pa) (hot : gA τ 12 0 32 = ot) {nm : Nat → Int64} (hnm : gB τ 12 0 41 = nm) (hb : ∀ j, j < 7 → bd (nm j))
    {w len i : Nat} (hw : w < 3) (hl : gA τ 12 0 29 w = nI (f + len)) (h64 : f + len ≤ 64) (hi : i < len) {st0 st : List Nat} (hst : ∀ p, p ∈ st0 → p < f + i) (hs : stp1 K kn pa ot f i st0 st) {v : Nat → Int64} {e : Int32} (hI : wfI K nm i st0 v e) :
    ∃ v' e', run kX12_lawOf 8 [some (vR 12 0 0), some (vI (nI w)), some (vI (nI (f + i)))] [] (lwS τ v e) = run kX12_lawOf 8 [some (vR 12 0 0), some (vI (nI w)), some (vI (nI (f + i + 1)))] [] (lwS τ v' e') ∧ wfI K nm (i + 1) st v' e' := by
  have a1 := ob (i := w) (N := 6) (by omega) (by decide)
  have a2 := ob (i := f + i) (N := 64) (by omega) (by decide)
  have c1 : (nI w).toNatClampNeg = w := nI_clamp (by omega)
  have c2 : (nI (f + i)).toNatClampNeg = f + i := nI_clamp (by omega)
  have hlt : nI (f + i) < nI (f + len) := nI_lt (by omega) (by omega)
  have hl' : gA (lwS τ v e) 12 0 29 w = nI (f + len) := hl
  have hk1 : gA (lwS τ v e) 12 0 30 = kn := hkn
  have hp1 : gA (lwS τ v e) 12 0 31 = pa := hpa
  have ho1 : gA (lwS τ v e) 12 0 32 = ot := hot
  have hn1 : gB (lwS τ v e) 12 0 41 = nm := hnm
  have hv1 : gB (lwS τ v e) 12 0 42 = v := gB_s
  have he1 : gI (lwS τ v e) 12 0 43 = e := gI_s
  have fin : ∀ (x : Int64) (e' : Int32), den 204 [vR 12 0 0, vI (nI (f + i))] (lwS τ v e) = some (some (vL x), sI (lwS τ v e) 12 0 43 e') → run kX12_lawOf 8 [some (vR 12 0 0), some (vI (nI w)), some (vI (nI (f + i)))] [] (lwS τ v e) = run kX12_lawOf 8 [some (vR 12 0 0), some (vI (nI w)), some (vI (nI (f + i + 1)))] [] (lwS τ (vp_updL v (f + i) x) e') := by
    intro x e' hd
    rw [bX12_lawOf_8]
    simp only [c1, a1, hl', hlt, hd, bnd_s, tl_s, ↓reduceIte]
    rw [bX12_lawOf_20]
    simp only [c2, a2, nI_S, ↓reduceIte]
    have hv2 : gB (sI (lwS τ v e) 12 0 43 e') 12 0 42 = v := gB_s
    rw [hv2, lwS_2]
  have fin0 : ∀ (x : Int64), den 204 [vR 12 0 0, vI (nI (f + i))] (lwS τ v e) = some (some (vL x), lwS τ v e) → run kX12_lawOf 8 [some (vR 12 0 0), some (vI (nI w)), some (vI (nI (f + i)))] [] (lwS τ v e) = run kX12_lawOf 8 [some (vR 12 0 0), some (vI (nI w)), some (vI (nI (f + i + 1)))] [] (lwS τ (vp_updL v (f + i) x) e) := by
    intro x hd
    refine fin x e ?_
    rw [hd]
    show _ = some (some (vL x), sI (sI (sB τ 12 0 42 v) 12 0 43 e) 12 0 43 e)
    rw [sII]
  obtain ⟨hbd, hcase⟩ := hI
  have bdn : ∀ (x : Int64) (r : List Nat), bd x → (∀ q, q ∈ r → q ∈ st0) → ∀ p, p ∈ (f + i) :: r → bd (vp_updL v (f + i) x p) := by
    intro x r hx hr p hp
    rcases List.mem_cons.mp hp with h | h
    · rw [h, pk_uLs]; exact hx
    · rw [pk_uLn (by have := hst p (hr p h); omega)]
      exact hbd p (hr p h)
  have mp : ∀ (x : Int64) (r : List Nat), (∀ q, q ∈ r → q ∈ st0) → ((f + i) :: r).map (vp_updL v (f + i) x) = x :: r.map v := by
    intro x r hr
    rw [List.map_cons, pk_uLs, map_ne (fun q hq => hst q (hr q hq))]
  have err : e = 1 ∧ (∀ m, evS K nm (i + m) 0 [] = eER) → ∀ m, evS K nm (i + 1 + m) 0 [] = eER := fun h m => by
    have := h.2 (m + 1)
    rwa [show i + (m + 1) = i + 1 + m by omega] at this
  rcases hs with ⟨x, hx, hK, hn, hp, e1⟩ | ⟨a, ha, hK, hn, hp, e1⟩ | ⟨a, r, e0, hK, hn, hp, e1⟩ | ⟨a, b, r, k, e0, k3, k14, hK, hn, hp, ho, e1⟩
  · -- a number
    have hd := m_v0 (τ := lwS τ v e) (k := f + i) (x := nI x) (by omega) (by rw [hk1]; exact hn) (by rw [hp1]; exact hp)
    refine ⟨_, _, fin0 _ hd, ?_⟩
    rw [e1]
    refine ⟨bdn _ st0 (bd_i _) (fun _ h => h), ?_⟩
    rcases hcase with ⟨h0, h⟩ | h
    · refine Or.inl ⟨h0, fun m => ?_⟩
      have h1 : K i < 20000 := by rw [hK]; exact nI_lt (b := 20000) (by omega) (by decide)
      have ho : opv (K i) nm = (nI x).toInt64 := by
        unfold opv
        rw [hK, if_pos (show nI x - 10000 < 0 from pk_sneg (a := x) (b := 10000) (by decide) (by omega))]
      have := h (m + 1)
      rw [evS_op h1, ho] at this
      rw [mp _ st0 (fun _ h => h), show i + 1 + m = i + (m + 1) by omega, this]
    · exact Or.inr ⟨h.1, err h⟩
  · -- a name
    have hd := m_v1 (τ := lwS τ v e) (k := f + i) (by omega) ha (by rw [hk1]; exact hn) (by rw [hp1]; exact hp)
    rw [hn1] at hd
    refine ⟨_, _, fin0 _ hd, ?_⟩
    rw [e1]
    refine ⟨bdn _ st0 (hb a ha) (fun _ h => h), ?_⟩
    rcases hcase with ⟨h0, h⟩ | h
    · refine Or.inl ⟨h0, fun m => ?_⟩
      have h1 : K i < 20000 := by rw [hK]; exact nI_lt (b := 20000) (by omega) (by decide)
      have es : K i - 10000 = nI a := by
        rw [hK]
        have := pk_sub (a := 10000 + a) (b := 10000) (by omega)
        rw [show 10000 + a - 10000 = a by omega] at this
        exact this
      have ho : opv (K i) nm = nm a := by
        unfold opv
        rw [es, if_neg (nI_pos (by omega)), if_pos (show nI a < 7 from nI_lt (b := 7) ha (by decide)), nI_clamp (by omega)]
      have := h (m + 1)
      rw [evS_op h1, ho] at this
      rw [mp _ st0 (fun _ h => h), show i + 1 + m = i + (m + 1) by omega, this]
    · exact Or.inr ⟨h.1, err h⟩
  · -- not
    have ham : a ∈ st0 := by rw [e0]; exact List.mem_cons_self
    have hd := m_v2 (τ := lwS τ v e) (k := f + i) (by omega) (a := a) (by have := hst a ham; omega) (by rw [hk1]; exact hn) (by rw [hp1]; exact hp)
    rw [hv1] at hd
    have hr : ∀ q, q ∈ r → q ∈ st0 := fun q hq => by rw [e0]; exact List.mem_cons_of_mem _ hq
    refine ⟨_, _, fin0 _ hd, ?_⟩
    rw [e1]
    refine ⟨bdn _ r (by by_cases h : v a = 0 <;> simp only [h, ↓reduceIte] <;> first | exact bd_0 | exact bd_1) hr, ?_⟩
    rcases hcase with ⟨h0, h⟩ | h
    · refine Or.inl ⟨h0, fun m => ?_⟩
      have := h (m + 1)
      rw [e0, List.map_cons, evS_not hK] at this
      rw [mp _ r hr, show i + 1 + m = i + (m + 1) by omega, this]
    · exact Or.inr ⟨h.1, err h⟩
  · -- a sign between two
    have ham : a ∈ st0 := by rw [e0]; exact List.mem_cons_of_mem _ List.mem_cons_self
    have hbm : b ∈ st0 := by rw [e0]; exact List.mem_cons_self
    have hr : ∀ q, q ∈ r → q ∈ st0 := fun q hq => by rw [e0]; exact List.mem_cons_of_mem _ (List.mem_cons_of_mem _ hq)
    have he : gI (lwS τ v e) 12 0 43 = 0 ∨ gI (lwS τ v e) 12 0 43 = 1 := by
      rw [he1]
      rcases hcase with h | h
      · exact Or.inl h.1
      · exact Or.inr h.1
    obtain ⟨x, e', hd, hc⟩ := m_vb (τ := lwS τ v e) (k := f + i) (by omega) (a := a) (b := b) (by have := hst a ham; omega) (by have := hst b hbm; omega) k3 k14 (by rw [hk1]; exact hn) (by rw [hp1]; exact hp) (by rw [ho1]; exact ho) (by rw [hv1]; exact hbd a ham) (by rw [hv1]; exact hbd b hbm) he
    rw [hv1, he1] at hc
    refine ⟨_, _, fin _ _ hd, ?_⟩
    rw [e1]
    refine ⟨bdn _ r hc.1 hr, ?_⟩
    obtain ⟨s12, s2⟩ := sg_lt k3 k14
    have h1 : ¬ K i < 20000 := by rw [hK]; exact nI_nlt (b := 20000) (by omega) (by omega)
    have h2 : ¬ K i = 20002 := by
      rw [hK]
      intro z
      have := (nI_eq (a := 20000 + sg k) (b := 20002) (by omega) (by decide)).mp z
      omega
    have es : K i - 20000 = nI (sg k) := by
      rw [hK]
      have := pk_sub (a := 20000 + sg k) (b := 20000) (by omega)
      rw [show 20000 + sg k - 20000 = sg k by omega] at this
      exact this
    rcases hcase with ⟨h0, h⟩ | h
    · have hm : ∀ m, evS K nm (i + 1 + m) 0 [] = if eMV < jop (nI (sg k)) (v a) (v b) then eER else if jop (nI (sg k)) (v a) (v b) < -eMV then eER else evS K nm m (i + 1) (jop (nI (sg k)) (v a) (v b) :: r.map v) := by
        intro m
        have := h (m + 1)
        rw [e0, List.map_cons, List.map_cons, evS_bin h1 h2, es] at this
        rw [show i + 1 + m = i + (m + 1) by omega, this]
      rcases hc.2 with ⟨q, _⟩ | ⟨_, ⟨q1, q2⟩ | ⟨q1, q2⟩⟩
      · exact absurd h0 q
      · refine Or.inr ⟨q1, fun m => ?_⟩
        rw [hm m]
        by_cases z : eMV < jop (nI (sg k)) (v a) (v b)
        · rw [if_pos z]
        · rw [if_neg z, if_pos (q2.resolve_left z)]
      · refine Or.inl ⟨q1, fun m => ?_⟩
        have hx := hc.1
        rw [q2] at hx
        rw [hm m, if_neg (bd_no hx).1, if_neg (bd_no hx).2, mp _ r hr, q2]
    · rcases hc.2 with ⟨_, q⟩ | ⟨q, _⟩
      · exact Or.inr ⟨q, err h⟩
      · exact absurd h.1 (by rw [q]; decide)
theorem law_loop {τ : ST} (hkn : gA τ 12 0 30 = kn) (hpa : gA τ 12 0 31 = pa) (hot : gA τ 12 0 32 = ot) {nm : Nat → Int64} (hnm : gB τ 12 0 41 = nm) (hb : ∀ j, j < 7 → bd (nm j))
    {w len : Nat} (hw : w < 3) (hl : gA τ 12 0 29 w = nI (f + len)) (h64 : f + len ≤ 64) : ∀ (i : Nat), i ≤ len → ∀ (st : List Nat), wfS K kn pa ot f i st → ∀ v0 : Nat → Int64,
    ∃ v' e', run kX12_lawOf 8 [some (vR 12 0 0), some (vI (nI w)), some (vI (nI f))] [] (lwS τ v0 0) = run kX12_lawOf 8 [some (vR 12 0 0), some (vI (nI w)), some (vI (nI (f + i)))] [] (lwS τ v' e') ∧ wfI K nm i st v' e'
  | 0, _, st, h, v0 => by
    cases h
    refine ⟨v0, 0, rfl, fun p hp => (by cases hp), Or.inl ⟨rfl, fun m => ?_⟩⟩
    rw [Nat.zero_add]
    rfl
  | i + 1, hi, st, h, v0 => by
    obtain ⟨st0, h0, h1⟩ := h
    obtain ⟨v1, e1, q1, q2⟩ := law_loop hkn hpa hot hnm hb hw hl h64 i (by omega) st0 h0 v0
    obtain ⟨v2, e2, q3, q4⟩ := law_step hkn hpa hot hnm hb hw hl h64 (by omega) (wfS_lt h0) h1 q2
    exact ⟨v2, e2, by rw [q1, q3]; rfl, q4⟩
/-- lawOf, where the law is told -/
theorem m_lawOf {τ : ST} (hkn : gA τ 12 0 30 = kn) (hpa : gA τ 12 0 31 = pa) (hot : gA τ 12 0 32 = ot) {nm : Nat → Int64} (hnm : gB τ 12 0 41 = nm) (hb : ∀ j, j < 7 → bd (nm j))
    {w len : Nat} (hw : w < 3) (hf : gA τ 12 0 28 w = nI f) (hl : gA τ 12 0 29 w = nI (f + len)) (h64 : f + len ≤ 64) (h0 : 0 < len) (hwf : wfS K kn pa ot f len [f + len - 1]) :
    ∃ (x : Int64) (v' : Nat → Int64) (e' : Int32), den 215 [vR 12 0 0, vI (nI w)] τ = some (some (vL x), lwS τ v' e') ∧ ((e' = 0 ∧ x = evS K nm len 0 [] ∧ bd x) ∨ (e' = 1 ∧ evS K nm len 0 [] = eER)) := by
  have a1 := ob (i := w) (N := 6) (by omega) (by decide)
  have c1 : (nI w).toNatClampNeg = w := nI_clamp (by omega)
  obtain ⟨v', e', q1, q2, q3⟩ := law_loop hkn hpa hot hnm hb hw hl h64 len (Nat.le_refl len) _ hwf (gB τ 12 0 42)
  have hl' : gA (lwS τ v' e') 12 0 29 w = nI (f + len) := hl
  have he' : gI (lwS τ v' e') 12 0 43 = e' := gI_s
  have hv' : gB (lwS τ v' e') 12 0 42 = v' := gB_s
  have hlt : ¬ nI (f + len) < nI (f + len) := nI_nlt (Nat.le_refl _) (by omega)
  have e1 : nI (f + len) - 1 = nI (f + len - 1) := by
    have := nI_pred (f + len - 1)
    rwa [show f + len - 1 + 1 = f + len by omega] at this
  have a2 := ob (i := f + len - 1) (N := 64) (by omega) (by decide)
  have c2 : (nI (f + len - 1)).toNatClampNeg = f + len - 1 := nI_clamp (by omega)
  have e0 : sI τ 12 0 43 0 = lwS τ (gB τ 12 0 42) 0 := by
    show _ = sI (sB τ 12 0 42 (gB τ 12 0 42)) 12 0 43 0
    rw [sB_id]
  rw [dX12_lawOf, bX12_lawOf_0]
  simp only [c1, a1, hf, e0, ↓reduceIte]
  rw [q1, bX12_lawOf_8]
  simp only [c1, a1, hl', hlt, he', hv', e1, c2, a2, ↓reduceIte]
  rcases q3 with ⟨h1, h2⟩ | ⟨h1, h2⟩
  · rw [if_pos h1]
    have := h2 0
    refine ⟨_, _, _, rfl, Or.inl ⟨h1, ?_, q2 _ List.mem_cons_self⟩⟩
    rw [Nat.add_zero] at this
    rw [this]
    rfl
  · rw [if_neg (by rw [h1]; decide)]
    have := h2 0
    rw [Nat.add_zero] at this
    exact ⟨_, _, _, rfl, Or.inr ⟨h1, this⟩⟩
end WF2
/-- names matter below seven alone -/
theorem opv_congr {k : Int32} {n1 n2 : Nat → Int64} (h : ∀ j, j < 7 → n1 j = n2 j) : opv k n1 = opv k n2 := by
  unfold opv
  by_cases h1 : k - 10000 < 0
  · rw [if_pos h1, if_pos h1]
  · rw [if_neg h1, if_neg h1]
    by_cases h2 : k - 10000 < 7
    · rw [if_pos h2, if_pos h2]
      obtain ⟨j, hj, e⟩ := nI_of h1
      rw [e] at h2 ⊢
      rw [nI_clamp hj]
      exact h j ((nI_ltI (a := j) (b := 7) hj (by decide)).mp h2)
    · rw [if_neg h2, if_neg h2]
theorem evS_congr {K : Nat → Int32} {n1 n2 : Nat → Int64} (h : ∀ j, j < 7 → n1 j = n2 j) : ∀ (m i : Nat) (st : List Int64), evS K n1 m i st = evS K n2 m i st
  | 0, i, st => rfl
  | m + 1, i, st => by
    by_cases h1 : K i < 20000
    · rw [evS_op h1, evS_op h1, opv_congr h, evS_congr h m (i + 1)]
    · by_cases h2 : K i = 20002
      · match st with
        | [] => simp only [evS, h2, show ¬ (20002 : Int32) < 20000 by decide, ↓reduceIte]
        | v :: r => rw [evS_not h2, evS_not h2, evS_congr h m (i + 1)]
      · match st with
        | [] => simp only [evS, h1, h2, ↓reduceIte]
        | [v] => simp only [evS, h1, h2, ↓reduceIte]
        | b :: a :: r => rw [evS_bin h1 h2, evS_bin h1 h2, evS_congr h m (i + 1)]
