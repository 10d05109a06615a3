/-! JUDGING: what is esteemed, who is best, who gives -/
/-- a law as the class has it and as the reference has it -/
def LQ (σ τ : ST) (G w : Nat) : Prop := ∃ len, len ≤ 64 ∧ gI σ 3 (3 * G + w) 1 = nI len ∧ ((len = 0 ∧ gA τ 12 0 27 w = 0) ∨ (0 < len ∧ gA τ 12 0 27 w = 1 ∧ ∃ f, f + len ≤ 64 ∧ gA τ 12 0 28 w = nI f ∧ gA τ 12 0 29 w = nI (f + len) ∧ wfS (gA σ 3 (3 * G + w) 0) (gA τ 12 0 30) (gA τ 12 0 31) (gA τ 12 0 32) f len [f + len - 1]))
def RT (G n r : Nat) (σ τ : ST) : Prop := RG G n r σ τ ∧ ∀ w, w < 3 → LQ σ τ G w
/-- a plot and half of the reference's rows, sights compared for those in S alone, as the switches stand -/
def YP (S : Nat → Prop) (n r : Nat) (σ : ST) (o : Nat) (τ : ST) (b : Nat) : Prop :=
  (∀ j, j < n → gA σ 5 o 2 j = gA τ 12 0 44 (6 * b + j) ∧ ∃ x, x ≤ 999 ∧ gA σ 5 o 2 j = nI x) ∧ (∀ j, j < n → gA σ 5 o 3 j = gA τ 12 0 45 (6 * b + j)) ∧
  (∀ j, j < n → S j → gA σ 5 o 4 j = sEff τ b j) ∧
  (∀ p, p < r → gA σ 5 o 5 p = gA τ 12 0 47 (2 * b + p) ∧ ∃ x, x < n ∧ gA σ 5 o 5 p = nI x) ∧ (∀ p, p < r → gA σ 5 o 6 p = gA τ 12 0 48 (2 * b + p)) ∧ (∀ p, p < r → gA σ 5 o 7 p = gA τ 12 0 49 (2 * b + p)) ∧
  gI σ 5 o 0 = gA τ 12 0 50 b
/-- what judging rests on -/
def YQ (S : Nat → Prop) (G n r : Nat) (σ : ST) (o : Nat) (τ : ST) (b : Nat) : Prop :=
  RT G n r σ τ ∧ gR σ 0 o 4 = G ∧ (∀ j, j < n → gA σ 0 o 1 j = dEff τ j) ∧ YP S n r σ o τ b
theorem gwE {τ : ST} {B : Nat → Nat → Nat → Nat → Int64} {e : Int32} : gI (wE τ B e) 12 0 43 = e := by
  show u3 τ.1 12 0 43 e 12 0 43 = e
  exact u3_s
section JU
variable {S : Nat → Prop} {G n r o b : Nat} {σ τ : ST}
theorem YQ.w (h : YQ S G n r σ o τ b) (B B' : Nat → Nat → Nat → Nat → Int64) (e : Int32) : YQ S G n r (wB σ B) o (wE τ B' e) b := h
theorem YQ.n6 (h : YQ S G n r σ o τ b) : n ≤ 6 := h.1.1.n6
theorem law_pair (hY : YQ S G n r σ o τ b) (hb : b < 2) {w i j : Nat} (hw : w < 3) (hi : i < n) (hj : j < n) (s : Int32) : ∃ (v : Int64) (B1 : Nat → Nat → Nat → Nat → Int64),
    (∀ B' : Nat → Nat → Nat → Nat → Int64, (∀ k, k < 7 → B' 0 o 2 k = nms (gA σ 5 o 2 j) (gA σ 5 o 2 i) (gA σ 0 o 1 i) (apt (gA σ 2 G 8 i) (gA σ 2 G 8 j)) (gA σ 5 o 3 j) s (gI σ 5 o 0) k) → ∃ B'', den 30 [vR 3 (3 * G + w) 0, vR 0 o 3, vR 0 o 4] (wB σ B') = some (some (vL v), wB σ B'')) ∧
    den 214 [vR 12 0 0, vI (nI b), vI (nI i), vI (nI j), vI s] τ = some (none, wB τ B1) ∧
    ((gA τ 12 0 27 w = 0 ∧ v = eER) ∨ (gA τ 12 0 27 w = 1 ∧ ∃ (x : Int64) (B : Nat → Nat → Nat → Nat → Int64) (e : Int32), den 215 [vR 12 0 0, vI (nI w)] (wB τ B1) = some (some (vL x), wE τ B e) ∧ ((e = 0 ∧ x = v ∧ bd x) ∨ (e = 1 ∧ v = eER)))) := by
  have hn6 := hY.n6
  obtain ⟨⟨hG, hL⟩, _, hd, hP⟩ := hY
  obtain ⟨len, l64, hlen, hcase⟩ := hL w hw
  have w1 := (hP.1 i hi).1
  have w2 := (hP.1 j hj).1
  have w3 := hP.2.1 j hj
  have w4 := hd i hi
  have w5 := (hG.2.2.2.2.2.2.2.2.2 i hi).1
  have w6 := (hG.2.2.2.2.2.2.2.2.2 j hj).1
  have w7 := hP.2.2.2.2.2.2
  obtain ⟨B1, d1, d2⟩ := m_layNames τ hb (show i < 6 by omega) (show j < 6 by omega) s
  rw [← w1, ← w2, ← w3, ← w4, ← w5, ← w6, ← w7] at d2
  refine ⟨evS (gA σ 3 (3 * G + w) 0) (nms (gA σ 5 o 2 j) (gA σ 5 o 2 i) (gA σ 0 o 1 i) (apt (gA σ 2 G 8 i) (gA σ 2 G 8 j)) (gA σ 5 o 3 j) s (gI σ 5 o 0)) len 0 [], B1, ?_, d1, ?_⟩
  · intro B' hB'
    obtain ⟨f', hf⟩ := e_worked (σ := wB σ B') (o := o) (p := 3 * G + w) l64 hlen
    rw [evS_congr (n1 := gB (wB σ B') 0 o 2) hB'] at hf
    exact ⟨(sB (wB σ B') 0 o 3 f').2.2.2.2, hf⟩
  · rcases hcase with ⟨h0, ht⟩ | ⟨h0, ht, f, hf64, hf, hl, hwf⟩
    · refine Or.inl ⟨ht, ?_⟩
      rw [h0]
      rfl
    · refine Or.inr ⟨ht, ?_⟩
      obtain ⟨x, v', e', q1, q2⟩ := m_lawOf (τ := wB τ B1) (K := gA σ 3 (3 * G + w) 0) rfl rfl rfl rfl (fun k hk => by
        show bd (B1 12 0 41 k)
        rw [d2 k hk]
        exact nms_bd _ _ _ _ _ _ _ k) hw hf hl hf64 h0 hwf
      rw [evS_congr (n1 := gB (wB τ B1) 12 0 41) d2] at q2
      exact ⟨x, _, e', q1, q2⟩
theorem e_own (hY : YQ S G n r σ o τ b) (hb : b < 2) {w i : Nat} (hw : w < 3) (hi : i < n) (s : Int32) : ∃ (v : Int64) (B B1 : Nat → Nat → Nat → Nat → Int64),
    den 11 [vR 0 o 0, vI (nI w), vI (nI i), vI s] σ = some (some (vL v), wB σ B) ∧
    den 214 [vR 12 0 0, vI (nI b), vI (nI i), vI (nI i), vI s] τ = some (none, wB τ B1) ∧
    ((gA τ 12 0 27 w = 0 ∧ v = eER) ∨ (gA τ 12 0 27 w = 1 ∧ ∃ (x : Int64) (B : Nat → Nat → Nat → Nat → Int64) (e : Int32), den 215 [vR 12 0 0, vI (nI w)] (wB τ B1) = some (some (vL x), wE τ B e) ∧ ((e = 0 ∧ x = v ∧ bd x) ∨ (e = 1 ∧ v = eER)))) := by
  have hn6 := hY.n6
  obtain ⟨v, B1, p1, p2, p3⟩ := law_pair hY hb hw hi hi s
  obtain ⟨B0, t1, t2⟩ := e_tell σ o (show i < 6 by omega) (show i < 6 by omega) 0 s
  rw [apt_self] at p1
  obtain ⟨B2, q⟩ := p1 B0 t2
  have a1 := ob (i := w) (N := 3) (by omega) (by decide)
  have c1 : (nI w).toNatClampNeg = w := nI_clamp (by omega)
  have hg : gR (wB σ B0) 0 o 4 = G := hY.2.1
  refine ⟨v, B2, B1, ?_, p2, p3⟩
  rw [dX0_ownLaw, bX0_ownLaw_0, t1, bnd_s, tl_n, bX0_ownLaw_6]
  simp only [c1, a1, hg, ↓reduceIte]
  rw [q, bnd_s, tl_s, bX0_ownLaw_16]
theorem gives_pair (hY : YQ S G n r σ o τ b) (hb : b < 2) {i : Nat} (hi : i < n) (s : Int32) : ∃ (z : Int32) (B B' : Nat → Nat → Nat → Nat → Int64) (e : Int32), (z = 0 ∨ z = 1) ∧
    den 8 [vR 0 o 0, vI (nI i), vI s] σ = some (some (vI z), wB σ B) ∧ den 220 [vR 12 0 0, vI (nI b), vI (nI i), vI s] τ = some (some (vI z), wE τ B' e) := by
  obtain ⟨v, B, B1, p1, p2, p3⟩ := e_own hY hb (w := 2) (by decide) hi s
  have p1' : den 11 [vR 0 o 0, vI 2, vI (nI i), vI s] σ = some (some (vL v), wB σ B) := p1
  have c2 : Int32.toNatClampNeg 2 = 2 := rfl
  rw [dX0_gives, bX0_gives_0, p1', bnd_s, tl_s, bX0_gives_5, dX12_gives, bX12_gives_0, c2]
  simp only [lc_eq]
  rcases p3 with ⟨h1, h2⟩ | ⟨h1, x, B2, e, h2, h3⟩
  · have n2 : ¬ v = 0 := by rw [h2]; decide
    rw [if_pos h1, if_neg n2]
    refine ⟨1, B, τ.2.2.2.2, gI τ 12 0 43, Or.inr rfl, rfl, ?_⟩
    exact congrArg (fun t => some (some (vI 1), t)) wE_0
  · have n27 : ¬ gA τ 12 0 27 2 = 0 := by rw [h1]; decide
    rw [if_neg n27, p2, bnd_s, tl_n, bX12_gives_13]
    have h2' : den 215 [vR 12 0 0, vI 2] (wB τ B1) = some (some (vL x), wE τ B2 e) := h2
    rw [h2', bnd_s, tl_s, bX12_gives_16]
    have he : gI (wE τ B2 e) 12 0 43 = e := gwE
    simp only [lc_eq, he]
    rcases h3 with ⟨h3, h4, _⟩ | ⟨h3, h4⟩
    · rw [if_pos h3, h4]
      by_cases hv : v = 0
      · rw [if_pos hv, if_pos hv]
        exact ⟨0, B, B2, e, Or.inl rfl, rfl, rfl⟩
      · rw [if_neg hv, if_neg hv]
        exact ⟨1, B, B2, e, Or.inr rfl, rfl, rfl⟩
    · have n1 : ¬ e = 0 := by rw [h3]; decide
      have n2 : ¬ v = 0 := by rw [h4]; decide
      rw [if_neg n1, if_neg n2]
      exact ⟨1, B, B2, e, Or.inr rfl, rfl, rfl⟩
theorem esteem_pair (hY : YQ S G n r σ o τ b) (hb : b < 2) {i j : Nat} (hi : i < n) (hj : j < n) : ∃ (z : Int32) (B B' : Nat → Nat → Nat → Nat → Int64) (e : Int32), ¬ z < 0 ∧
    den 9 [vR 0 o 0, vI (nI i), vI (nI j)] σ = some (some (vI z), wB σ B) ∧ den 217 [vR 12 0 0, vI (nI b), vI (nI i), vI (nI j)] τ = some (some (vI z), wE τ B' e) := by
  have hn6 := hY.n6
  obtain ⟨v, B1, p1, p2, p3⟩ := law_pair hY hb (w := 0) (by decide) hi hj 0
  obtain ⟨⟨hG, hL⟩, hg, hd, hP⟩ := hY
  obtain ⟨w5, x5, b5, y5⟩ := hG.2.2.2.2.2.2.2.2.2 i hi
  obtain ⟨w6, x6, b6, y6⟩ := hG.2.2.2.2.2.2.2.2.2 j hj
  obtain ⟨B0, t1, t2⟩ := e_tell σ o (show i < 6 by omega) (show j < 6 by omega) (apt (nI x5) (nI x6)) 0
  rw [y5, y6] at p1
  obtain ⟨B2, q⟩ := p1 B0 t2
  have a1 := ob (i := i) (N := 6) (by omega) (by decide)
  have a2 := ob (i := j) (N := 6) (by omega) (by decide)
  have a3 := ob (i := 6 * b + j) (N := 12) (by omega) (by decide)
  have c1 : (nI i).toNatClampNeg = i := nI_clamp (by omega)
  have c2 : (nI j).toNatClampNeg = j := nI_clamp (by omega)
  have c3 : (nI (6 * b + j)).toNatClampNeg = 6 * b + j := nI_clamp (by omega)
  have hg0 : gR (wB σ B0) 0 o 4 = G := hg
  have q' : den 30 [vR 3 (3 * G) 0, vR 0 o 3, vR 0 o 4] (wB σ B0) = some (some (vL v), wB σ B2) := q
  have k1 : gA (wB σ B2) 5 o 2 j = gA τ 12 0 44 (6 * b + j) := (hP.1 j hj).1
  have k2 : gA (wB σ B2) 0 o 1 i = dEff τ i := hd i hi
  have k3 : gA (wB σ B2) 5 o 3 j = gA τ 12 0 45 (6 * b + j) := hP.2.1 j hj
  have m1 : gA (wB τ B1) 12 0 44 = gA τ 12 0 44 := rfl
  have m2 : gA (wB τ B1) 12 0 45 = gA τ 12 0 45 := rfl
  have m3 : dEff (wB τ B1) i = dEff τ i := rfl
  rw [dX0_esteem, bX0_esteem_0, hg, e_far σ G (show i < 6 by omega) (show j < 6 by omega) b5 b6 y5 y6, bnd_s, tl_s, bX0_esteem_8, t1, bnd_s, tl_n, bX0_esteem_10, hg0, cl0, Nat.add_zero, q', bnd_s, tl_s, bX0_esteem_20]
  rw [dX12_judgedBy, bX12_judgedBy_0, p2, bnd_s, tl_n, bX12_judgedBy_6]
  simp only [i6, c1, c2, c3, a1, a2, a3, k1, k2, k3, m1, ↓reduceIte, lc_eq, lc_lt, lc_gt]
  rw [m_doubtIn _ (show i < 12 by omega), bnd_s, tl_s, bX12_judgedBy_17]
  simp only [i6, c3, a3, m2, m3, ↓reduceIte]
  -- the plain value is P, clipped at 0
  generalize gA τ 12 0 44 (6 * b + j) - dEff τ i * gA τ 12 0 45 (6 * b + j) = P
  have key : ∀ (Q : Int32) (y1 y2 y3 y4 : Option AV), ¬ Q < 0 → ∃ (z : Int32) (B' : Nat → Nat → Nat → Nat → Int64) (e : Int32), ¬ z < 0 ∧
      (if v = eER then some (some (vI Q), wB σ B2) else (if v < 0 then some (some (vI (0 : Int32)), wB σ B2) else if 9999 < v then some (some (vI (9999 : Int32)), wB σ B2) else some (some (vI v.toInt32), wB σ B2))) = some (some (vI z), wB σ B2) ∧
      (bnd (den 216 [vR 12 0 0, vI 0, vI Q, vI 0, vI 9999] (wB τ B1)) fun v τ => run kX12_judgedBy 38 [some (vR 12 0 0), y1, y2, y3, y4] (v.toList ++ []) τ) = some (some (vI z), wE τ B' e) := by
    intro Q y1 y2 y3 y4 hQ
    rw [dX12_boundLaw, bX12_boundLaw_0, cl0, if_neg (show ¬ ((0 : Int32) < 0 ∨ 6 ≤ 0) by decide)]
    have t0 : gA (wB τ B1) 12 0 27 0 = gA τ 12 0 27 0 := rfl
    rw [t0]
    rcases p3 with ⟨h1, h2⟩ | ⟨h1, x, B3, e, h2, h3⟩
    · rw [if_pos h1, if_pos h2, bnd_s, tl_s, bX12_judgedBy_38]
      refine ⟨Q, B1, gI τ 12 0 43, hQ, rfl, ?_⟩
      exact congrArg (fun t => some (some (vI Q), t)) wE_i
    · have h2' : den 215 [vR 12 0 0, vI 0] (wB τ B1) = some (some (vL x), wE τ B3 e) := h2
      have n27 : ¬ gA τ 12 0 27 0 = 0 := by rw [h1]; decide
      rw [if_neg n27, h2', bnd_s, tl_s, bX12_boundLaw_10]
      have he : gI (wE τ B3 e) 12 0 43 = e := gwE
      simp only [he, lc_lt, lc_gt]
      rcases h3 with ⟨h3, h4, h5⟩ | ⟨h3, h4⟩
      · rw [if_pos h3, h4, if_neg (show ¬ v = eER by rw [← h4]; exact bd_ne h5)]
        have z0 : Int32.toInt64 0 = 0 := rfl
        have z9 : Int32.toInt64 9999 = 9999 := rfl
        rw [z0, z9]
        by_cases v1 : v < 0
        · rw [if_pos v1, if_pos v1, bnd_s, tl_s, bX12_judgedBy_38]
          exact ⟨0, B3, e, by decide, rfl, rfl⟩
        · rw [if_neg v1, if_neg v1]
          by_cases v2 : 9999 < v
          · rw [if_pos v2, if_pos v2, bnd_s, tl_s, bX12_judgedBy_38]
            exact ⟨9999, B3, e, by decide, rfl, rfl⟩
          · rw [if_neg v2, if_neg v2, bnd_s, tl_s, bX12_judgedBy_38]
            refine ⟨v.toInt32, B3, e, ?_, rfl, rfl⟩
            obtain ⟨k, hk, rfl⟩ := pk_lOf v1
            have : k ≤ 9999 := by
              have : ¬ 9999 < k := fun z => v2 ((pk_lLT (a := 9999) (b := k) (by decide) hk).mpr z)
              omega
            rw [lN_i]
            exact nI_pos (by omega)
      · have n1 : ¬ e = 0 := by rw [h3]; decide
        rw [if_neg n1, if_pos h4, bnd_s, tl_s, bX12_judgedBy_38]
        exact ⟨Q, B3, e, hQ, rfl, rfl⟩
  by_cases hp : P < 0
  · simp only [hp, ↓reduceIte]
    obtain ⟨z, B', e, z1, z2, z3⟩ := key 0 (some (vI (nI b))) (some (vI (nI i))) (some (vI (nI j))) (some (vI P)) (by decide)
    exact ⟨z, B2, B', e, z1, z2, z3⟩
  · simp only [hp, ↓reduceIte]
    obtain ⟨z, B', e, z1, z2, z3⟩ := key P (some (vI (nI b))) (some (vI (nI i))) (some (vI (nI j))) (some (vI P)) hp
    exact ⟨z, B2, B', e, z1, z2, z3⟩
theorem best_loop (hY : YQ S G n r σ o τ b) (hb : b < 2) {i : Nat} (hi : i < n) (hS : S i) : ∀ (m c : Nat), c + m = n → ∀ (bst mo mo' : Int32), ((bst = -2 ∧ mo = -1) ∨ ((∃ k, k < n ∧ bst = nI k) ∧ mo = mo')) → ∀ (B B' : Nat → Nat → Nat → Nat → Int64) (e : Int32) (y y' : Option AV), ∃ (z : Int32) (B2 B2' : Nat → Nat → Nat → Nat → Int64) (e2 : Int32), (z = -2 ∨ ∃ k, k < n ∧ z = nI k) ∧ (z = -2 ↔ (bst = -2 ∧ ∀ c', c ≤ c' → c' < n → bit (sEff τ b i) (nI c') = 0)) ∧
    run kX0_bestFor 6 [some (vR 0 o 0), some (vI (nI i)), some (vI bst), some (vI mo), some (vI (nI c)), y] [] (wB σ B) = some (some (vI z), wB σ B2) ∧
    run kX12_bestOf 11 [some (vR 12 0 0), some (vI (nI b)), some (vI (nI i)), some (vI (sEff τ b i)), some (vI bst), some (vI mo'), some (vI (nI c)), y'] [] (wE τ B' e) = some (some (vI z), wE τ B2' e2)
  | 0, c, hm, bst, mo, mo', inv, B, B', e, y, y' => by
    have hn6 := hY.n6
    have hlt : ¬ nI c < nI n := nI_nlt (by omega) (by omega)
    have e1 : gI (wB σ B) 2 (gR (wB σ B) 0 o 4) 0 = nI n := by
      show gI σ 2 (gR σ 0 o 4) 0 = nI n
      rw [hY.2.1]; exact hY.1.1.2.2.1.1
    have e2 : gI (wE τ B' e) 12 0 12 = nI n := hY.1.1.mn
    refine ⟨bst, B, B', e, ?_, ⟨fun h => ⟨h, fun c' h1 h2 => by omega⟩, fun h => h.1⟩, ?_, ?_⟩
    · rcases inv with h | h
      · exact Or.inl h.1
      · exact Or.inr h.1
    · rw [bX0_bestFor_6, e1, if_neg hlt]
    · rw [bX12_bestOf_11, e2, if_neg hlt]
  | m + 1, c, hm, bst, mo, mo', inv, B, B', e, y, y' => by
    have hn6 := hY.n6
    have hc : c < n := by omega
    have hlt : nI c < nI n := nI_lt hc (by omega)
    have e1 : gI (wB σ B) 2 (gR (wB σ B) 0 o 4) 0 = nI n := by
      show gI σ 2 (gR σ 0 o 4) 0 = nI n
      rw [hY.2.1]; exact hY.1.1.2.2.1.1
    have e2 : gI (wE τ B' e) 12 0 12 = nI n := hY.1.1.mn
    have es : gA (wB σ B) 5 o 4 i = sEff τ b i := hY.2.2.2.2.2.1 i hi hS
    rw [bX0_bestFor_6, e1, if_pos hlt, e_isSeen _ o (show i < 6 by omega), es, bnd_s, tl_s, bX0_bestFor_16]
    rw [bX12_bestOf_11, e2, if_pos hlt, m_isOf, bnd_s, tl_s, bX12_bestOf_18]
    by_cases h0 : bit (sEff τ b i) (nI c) = 0
    · rw [if_pos h0, if_pos h0, nI_S]
      obtain ⟨z, B2, B2', e2, f1, f2, f3⟩ := best_loop hY hb hi hS m (c + 1) (by omega) bst mo mo' inv B B' e y y'
      refine ⟨z, B2, B2', e2, f1, ⟨fun h => ⟨(f2.mp h).1, fun c' h1 h2 => ?_⟩, fun h => f2.mpr ⟨h.1, fun c' h1 h2 => h.2 c' (by omega) h2⟩⟩, f3⟩
      by_cases q : c' = c
      · rw [q]; exact h0
      · exact (f2.mp h).2 c' (by omega) h2
    · rw [if_neg h0, if_neg h0]
      obtain ⟨z, B3, B3', e3, z0, z1, z2⟩ := esteem_pair (hY.w B B' e) hb hi hc
      rw [z1, z2, bnd_s, bnd_s, tl_s, bX0_bestFor_21, bX12_bestOf_25, nI_S]
      have w1 : ∀ B : Nat → Nat → Nat → Nat → Int64, wB (wB σ B) B3 = wB σ B3 := fun _ => rfl
      rw [w1, wE_2]
      have cl : ∀ (k : Nat), k < n → ∀ (z : Int32) (B2 B2' : Nat → Nat → Nat → Nat → Int64) (e2 : Int32) (P Q : Prop), ((z = -2 ∨ ∃ k, k < n ∧ z = nI k) ∧ (z = -2 ↔ (nI k = -2 ∧ ∀ c', c + 1 ≤ c' → c' < n → bit (sEff τ b i) (nI c') = 0)) ∧ P ∧ Q) → ((z = -2 ∨ ∃ k, k < n ∧ z = nI k) ∧ (z = -2 ↔ (bst = -2 ∧ ∀ c', c ≤ c' → c' < n → bit (sEff τ b i) (nI c') = 0)) ∧ P ∧ Q) := by
        intro k hk z B2 B2' e2 P Q h
        refine ⟨h.1, ⟨fun q => ?_, fun q => absurd (q.2 c (Nat.le_refl c) hc) h0⟩, h.2.2⟩
        have := (h.2.1.mp q).1
        exact absurd (show nI k < 0 by rw [this]; decide) (nI_pos (by omega))
      rcases inv with ⟨hb1, hm1⟩ | ⟨⟨k, hk, hb1⟩, hm1⟩
      · have l1 : mo < z := by
          rw [hm1]
          obtain ⟨k, hk, rfl⟩ := nI_of z0
          show nI 0 - nI 1 < nI k
          rw [Int32.lt_iff_toInt_lt, pk_sub_toInt (by decide) (by decide), nI_toInt hk]
          omega
        rw [if_pos l1, if_pos (by rw [hb1]; decide)]
        obtain ⟨z, B2, B2', e2, h⟩ := best_loop hY hb hi hS m (c + 1) (by omega) (nI c) z z (Or.inr ⟨⟨c, hc, rfl⟩, rfl⟩) B3 B3' e3 (some (vI z)) (some (vI z))
        exact ⟨z, B2, B2', e2, cl c hc z B2 B2' e2 _ _ h⟩
      · have l1 : ¬ bst < 0 := by rw [hb1]; exact nI_pos (by omega)
        rw [if_neg l1, hm1]
        by_cases h : mo' < z
        · rw [if_pos h, if_pos h]
          obtain ⟨z, B2, B2', e2, h⟩ := best_loop hY hb hi hS m (c + 1) (by omega) (nI c) z z (Or.inr ⟨⟨c, hc, rfl⟩, rfl⟩) B3 B3' e3 (some (vI z)) (some (vI z))
          exact ⟨z, B2, B2', e2, cl c hc z B2 B2' e2 _ _ h⟩
        · rw [if_neg h, if_neg h]
          obtain ⟨z', B2, B2', e2, h⟩ := best_loop hY hb hi hS m (c + 1) (by omega) bst mo' mo' (Or.inr ⟨⟨k, hk, hb1⟩, rfl⟩) B3 B3' e3 (some (vI z)) (some (vI z))
          refine ⟨z', B2, B2', e2, cl k hk z' B2 B2' e2 _ _ ?_⟩
          rw [← hb1]
          exact h
theorem best_pair' (hY : YQ S G n r σ o τ b) (hb : b < 2) {i : Nat} (hi : i < n) (hS : S i) : ∃ (z : Int32) (B B' : Nat → Nat → Nat → Nat → Int64) (e : Int32), (z = -2 ∨ ∃ k, k < n ∧ z = nI k) ∧ (z = -2 ↔ ∀ c', c' < n → bit (sEff τ b i) (nI c') = 0) ∧
    den 7 [vR 0 o 0, vI (nI i)] σ = some (some (vI z), wB σ B) ∧ den 219 [vR 12 0 0, vI (nI b), vI (nI i)] τ = some (some (vI z), wE τ B' e) := by
  have hn6 := hY.n6
  obtain ⟨z, B2, B2', e2, q0, qz, q1, q2⟩ := best_loop hY hb hi hS n 0 (by omega) (-2) (-1) 0 (Or.inl ⟨rfl, rfl⟩) σ.2.2.2.2 τ.2.2.2.2 (gI τ 12 0 43) none none
  refine ⟨z, B2, B2', e2, q0, ⟨fun h c' hc => (qz.mp h).2 c' (Nat.zero_le _) hc, fun h => qz.mpr ⟨rfl, fun c' _ hc => h c' hc⟩⟩, ?_, ?_⟩
  · rw [dX0_bestFor, bX0_bestFor_0]
    exact q1
  · rw [dX12_bestOf, bX12_bestOf_0, m_seenBy τ (by omega), bnd_s, tl_s, bX12_bestOf_4]
    rw [← wE_0] at q2
    exact q2
theorem best_pair (hY : YQ S G n r σ o τ b) (hb : b < 2) {i : Nat} (hi : i < n) (hS : S i) : ∃ (z : Int32) (B B' : Nat → Nat → Nat → Nat → Int64) (e : Int32), (z = -2 ∨ ∃ k, k < n ∧ z = nI k) ∧
    den 7 [vR 0 o 0, vI (nI i)] σ = some (some (vI z), wB σ B) ∧ den 219 [vR 12 0 0, vI (nI b), vI (nI i)] τ = some (some (vI z), wE τ B' e) := by
  obtain ⟨z, B, B', e, h1, _, h2⟩ := best_pair' hY hb hi hS
  exact ⟨z, B, B', e, h1, h2⟩
end JU
