/-! RING: where a ribbon goes -/
theorem vIj {a b : Int32} {s t : ST} (h : (some (some (vI a), s) : RS) = some (some (vI b), t)) : a = b := by
  injection h with h1
  injection h1 with h2
  injection h2 with h3
  injection h3
section RNG
variable {S : Nat → Prop} {G n r o b : Nat} {σ τ : ST}
/-- what one is esteemed doesn't hang on helpers' rows -/
def esQ (G n r : Nat) (σ : ST) (o : Nat) (τ : ST) (b i j : Nat) (z : Int32) : Prop := i < n → j < n → ¬ z < 0 ∧
    (∀ (σ' : ST) (S' : Nat → Prop), YQ S' G n r σ' o τ b → ∃ B, den 9 [vR 0 o 0, vI (nI i), vI (nI j)] σ' = some (some (vI z), wB σ' B)) ∧
    (∀ (τ' : ST) (S' : Nat → Prop), YQ S' G n r σ o τ' b → ∃ B e, den 217 [vR 12 0 0, vI (nI b), vI (nI i), vI (nI j)] τ' = some (some (vI z), wE τ' B e))
def gvQ (G n r : Nat) (σ : ST) (o : Nat) (τ : ST) (b : Nat) (s : Int32) (i : Nat) (z : Int32) : Prop := i < n → (z = 0 ∨ z = 1) ∧
    (∀ (σ' : ST) (S' : Nat → Prop), YQ S' G n r σ' o τ b → ∃ B, den 8 [vR 0 o 0, vI (nI i), vI s] σ' = some (some (vI z), wB σ' B)) ∧
    (∀ (τ' : ST) (S' : Nat → Prop), YQ S' G n r σ o τ' b → ∃ B e, den 220 [vR 12 0 0, vI (nI b), vI (nI i), vI s] τ' = some (some (vI z), wE τ' B e))
theorem skN {p : Nat → Int32 → Prop} (h : ∀ x, ∃ y, p x y) : ∃ f : Nat → Int32, ∀ x, p x (f x) := ⟨fun x => Classical.choose (h x), fun x => Classical.choose_spec (h x)⟩
theorem est_val (hY : YQ S G n r σ o τ b) (hb : b < 2) : ∃ E : Nat → Nat → Int32, ∀ i j, esQ G n r σ o τ b i j (E i j) := by
  have key : ∀ i : Nat, ∃ f : Nat → Int32, ∀ j, esQ G n r σ o τ b i j (f j) := by
    intro i
    refine skN (p := esQ G n r σ o τ b i) (fun j => ?_)
    by_cases hi : i < n
    · by_cases hj : j < n
      · obtain ⟨z, B, B', e, z0, q1, q2⟩ := esteem_pair hY hb hi hj
        refine ⟨z, fun _ _ => ⟨z0, fun σ' S' h => ?_, fun τ' S' h => ?_⟩⟩
        · obtain ⟨z', B2, B2', e', _, p1, p2⟩ := esteem_pair h hb hi hj
          have : z' = z := vIj (p2.symm.trans q2)
          rw [this] at p1
          exact ⟨B2, p1⟩
        · obtain ⟨z', B2, B2', e', _, p1, p2⟩ := esteem_pair h hb hi hj
          have : z' = z := vIj (p1.symm.trans q1)
          rw [this] at p2
          exact ⟨B2', e', p2⟩
      · exact ⟨0, fun _ h => absurd h hj⟩
    · exact ⟨0, fun h => absurd h hi⟩
  exact ⟨fun i => Classical.choose (key i), fun i => Classical.choose_spec (key i)⟩
theorem giv_val (hY : YQ S G n r σ o τ b) (hb : b < 2) (s : Int32) : ∃ V : Nat → Int32, ∀ i, gvQ G n r σ o τ b s i (V i) := by
  refine skN (p := gvQ G n r σ o τ b s) (fun i => ?_)
  by_cases hi : i < n
  · obtain ⟨z, B, B', e, z0, q1, q2⟩ := gives_pair hY hb hi s
    refine ⟨z, fun _ => ⟨z0, fun σ' S' h => ?_, fun τ' S' h => ?_⟩⟩
    · obtain ⟨z', B2, B2', e', _, p1, p2⟩ := gives_pair h hb hi s
      have : z' = z := vIj (p2.symm.trans q2)
      rw [this] at p1
      exact ⟨B2, p1⟩
    · obtain ⟨z', B2, B2', e', _, p1, p2⟩ := gives_pair h hb hi s
      have : z' = z := vIj (p1.symm.trans q1)
      rw [this] at p2
      exact ⟨B2', e', p2⟩
  · exact ⟨0, fun h => absurd h hi⟩
end RNG
/-- the best of those seen -/
def bsP (E : Nat → Int32) (s : Int32) : Nat → Nat → Int32 → Int32 → Int32
  | 0, _, b, _ => b
  | m + 1, i, b, v => if bit s (nI i) = 0 then bsP E s m (i + 1) b v else if b < 0 then bsP E s m (i + 1) (nI i) (E i) else if v < E i then bsP E s m (i + 1) (nI i) (E i) else bsP E s m (i + 1) b v
theorem bsP_r {E : Nat → Int32} {s : Int32} {n : Nat} : ∀ (m i : Nat) (b v : Int32), i + m = n → (b = -2 ∨ ∃ k, k < n ∧ b = nI k) → bsP E s m i b v = -2 ∨ ∃ k, k < n ∧ bsP E s m i b v = nI k
  | 0, _, _, _, _, h => h
  | m + 1, i, b, v, hm, h => by
    simp only [bsP]
    by_cases h1 : bit s (nI i) = 0
    · rw [if_pos h1]; exact bsP_r m (i + 1) b v (by omega) h
    · rw [if_neg h1]
      have hi : nI i = -2 ∨ ∃ k, k < n ∧ nI i = nI k := Or.inr ⟨i, by omega, rfl⟩
      by_cases h2 : b < 0
      · rw [if_pos h2]; exact bsP_r m (i + 1) _ _ (by omega) hi
      · rw [if_neg h2]
        by_cases h3 : v < E i
        · rw [if_pos h3]; exact bsP_r m (i + 1) _ _ (by omega) hi
        · rw [if_neg h3]; exact bsP_r m (i + 1) _ _ (by omega) h
/-- those of the way that came since a step -/
def mbP (X : Int32) (cm : Nat → Int32) (st : Int32) : Nat → Nat → Int32 → Int32
  | 0, _, a => a
  | m + 1, i, a => if bit X (nI i) = 0 then mbP X cm st m (i + 1) (a ||| 0) else if cm i < st then mbP X cm st m (i + 1) (a ||| 0) else mbP X cm st m (i + 1) (a ||| (1 <<< (nI i &&& 31)))
theorem mbP_c {X : Int32} {c1 c2 : Nat → Int32} {st : Int32} {n : Nat} (h : ∀ i, i < n → bit X (nI i) ≠ 0 → c1 i = c2 i) : ∀ (m i : Nat) (a : Int32), i + m = n → mbP X c1 st m i a = mbP X c2 st m i a
  | 0, _, _, _ => rfl
  | m + 1, i, a, hm => by
    simp only [mbP]
    by_cases h1 : bit X (nI i) = 0
    · rw [if_pos h1, if_pos h1]; exact mbP_c h m (i + 1) _ (by omega)
    · rw [if_neg h1, if_neg h1, h i (by omega) h1]
      by_cases h2 : c2 i < st
      · rw [if_pos h2, if_pos h2]; exact mbP_c h m (i + 1) _ (by omega)
      · rw [if_neg h2, if_neg h2]; exact mbP_c h m (i + 1) _ (by omega)
/-- the way of a ribbon by who is next: whether it goes round, the steps, the members -/
def rgP (nx : Nat → Int32) (n : Nat) : Nat → Nat → Nat → Nat → (Nat → Int32) → Int32 × Int32 × Int32
  | 0, _, _, _, _ => (1, 0, 0)
  | m + 1, a, X, t, cm => if bit (nI X) (nI a) = 0 then (if nx a < 0 then (0, nI t, 1 <<< (nI a &&& 31)) else rgP nx n m (nx a).toNatClampNeg (X + 2 ^ a) (t + 1) (upd cm a (nI t))) else (1, cm a, mbP (nI X) cm (cm a) n 0 0)
def pop6 (X : Nat) : Nat := X % 2 + X / 2 % 2 + X / 4 % 2 + X / 8 % 2 + X / 16 % 2 + X / 32 % 2
theorem pt1 : ∀ X, X < 64 → ∀ a, a < 6 → X / 2 ^ a % 2 = 0 → nI X ||| ((1 : Int32) <<< (nI a &&& 31)) = nI (X + 2 ^ a) ∧ pop6 (X + 2 ^ a) = pop6 X + 1 := by decide +kernel
theorem pt2 : ∀ n, n < 7 → ∀ X, X < 64 → X < 2 ^ n → pop6 X ≤ n ∧ ∀ a, a < n → X / 2 ^ a % 2 = 0 → X + 2 ^ a < 2 ^ n := by decide +kernel
theorem pt3' : ∀ X, X < 64 → ∀ a, a < 6 → ∀ i, i < 6 → (X / 2 ^ a % 2 = 0 ∧ X + 2 ^ a < 64 ∧ ¬ i = a) → (X + 2 ^ a) / 2 ^ i % 2 = X / 2 ^ i % 2 := by decide +kernel
theorem pt3 (X : Nat) (hX : X < 64) (a : Nat) (ha : a < 6) (h : X / 2 ^ a % 2 = 0) (h2 : X + 2 ^ a < 64) (i : Nat) (hi : i < 6) (hn : i ≠ a) : (X + 2 ^ a) / 2 ^ i % 2 = X / 2 ^ i % 2 := pt3' X hX a ha i hi ⟨h, h2, hn⟩
theorem bit_iff {X c : Nat} (hX : X < 64) (hc : c < 6) : bit (nI X) (nI c) = 0 ↔ X / 2 ^ c % 2 = 0 := by
  rw [bit_tab X hX c hc]
  exact (nI_eq (a := X / 2 ^ c % 2) (b := 0) (by omega) (by decide))
/-- the way hangs on who is next of those there are alone -/
theorem rgP_c {n1 n2 : Nat → Int32} {n : Nat} (h : ∀ i, i < n → n1 i = n2 i) (hr : ∀ i, i < n → n1 i = -2 ∨ ∃ k, k < n ∧ n1 i = nI k) (hn : n ≤ 6) : ∀ (m a X t : Nat) (cm : Nat → Int32), a < n → rgP n1 n m a X t cm = rgP n2 n m a X t cm
  | 0, _, _, _, _, _ => rfl
  | m + 1, a, X, t, cm, ha => by
    simp only [rgP]
    rw [← h a ha]
    by_cases h1 : bit (nI X) (nI a) = 0
    · rw [if_pos h1, if_pos h1]
      by_cases h2 : n1 a < 0
      · rw [if_pos h2, if_pos h2]
      · rw [if_neg h2, if_neg h2]
        rcases hr a ha with h3 | ⟨k, hk, h3⟩
        · rw [h3] at h2
          exact absurd (by decide) h2
        · rw [h3, nI_clamp (by omega)]
          exact rgP_c h hr hn m k _ _ _ hk
    · rw [if_neg h1, if_neg h1]
section FOL
variable {n : Nat} {σ : ST}
/-- Ring.bestFor -/
theorem rb_loop (hn6 : n ≤ 6) (h4 : gI σ 7 0 4 = nI n) {a : Nat} (ha : a < n) {E : Nat → Int32} (hE : ∀ j, j < n → bit (gA σ 7 0 2 a) (nI j) ≠ 0 → gA σ 7 0 0 (6 * a + j) = E j) : ∀ (m i : Nat), i + m = n → ∀ (b v : Int32), (b = -2 ∨ ∃ k, k < n ∧ b = nI k ∧ bit (gA σ 7 0 2 a) (nI k) ≠ 0 ∧ v = E k) → ∀ y4 : Option AV,
    run kX7_bestFor 4 [some (vR 7 0 0), some (vI (nI a)), some (vI b), some (vI (nI i)), y4] [] σ = some (some (vI (bsP E (gA σ 7 0 2 a) m i b v)), σ)
  | 0, i, hm, b, v, hb, y4 => by
    have hlt : ¬ nI i < nI n := nI_nlt (by omega) (by omega)
    rw [bX7_bestFor_4, h4, if_neg hlt]
    rfl
  | m + 1, i, hm, b, v, hb, y4 => by
    have hlt : nI i < nI n := nI_lt (by omega) (by omega)
    have a1 := ob (i := a) (N := 6) (by omega) (by decide)
    have c1 : (nI a).toNatClampNeg = a := nI_clamp (by omega)
    have e6 : nI a * 6 = nI (6 * a) := by rw [Nat.mul_comm 6 a]; exact pk_mul a 6
    have e7 : ∀ k, nI (6 * a) + nI k = nI (6 * a + k) := fun k => nI_add _ _
    rw [bX7_bestFor_4, h4, if_pos hlt]
    simp only [c1, a1, ↓reduceIte, e6]
    rw [e_has, bnd_s, tl_s, bX7_bestFor_18]
    simp only [nI_S, bsP, e7]
    by_cases h1 : bit (gA σ 7 0 2 a) (nI i) = 0
    · rw [if_pos h1, if_pos h1]
      exact rb_loop hn6 h4 ha hE m (i + 1) (by omega) b v hb _
    · rw [if_neg h1, if_neg h1]
      have hi : nI i = -2 ∨ ∃ k, k < n ∧ nI i = nI k ∧ bit (gA σ 7 0 2 a) (nI k) ≠ 0 ∧ E i = E k := Or.inr ⟨i, by omega, rfl, h1, rfl⟩
      rcases hb with h2 | ⟨k, hk, h2, h3, h4'⟩
      · have l : b < 0 := by rw [h2]; decide
        rw [if_pos l, if_pos l]
        exact rb_loop hn6 h4 ha hE m (i + 1) (by omega) _ _ hi _
      · have l : ¬ b < 0 := by rw [h2]; exact nI_pos (by omega)
        have a2 := ob (i := 6 * a + i) (N := 36) (by omega) (by decide)
        have a3 := ob (i := 6 * a + k) (N := 36) (by omega) (by decide)
        have c2 : (nI (6 * a + i)).toNatClampNeg = 6 * a + i := nI_clamp (by omega)
        have c3 : (nI (6 * a + k)).toNatClampNeg = 6 * a + k := nI_clamp (by omega)
        rw [if_neg l, if_neg l, h2, e7]
        simp only [c2, c3, a2, a3, ↓reduceIte]
        rw [hE i (by omega) h1, hE k hk h3, h4']
        by_cases h5 : E k < E i
        · rw [if_pos h5, if_pos h5]
          exact rb_loop hn6 h4 ha hE m (i + 1) (by omega) _ _ hi _
        · rw [if_neg h5, if_neg h5]
          exact rb_loop hn6 h4 ha hE m (i + 1) (by omega) _ _ (Or.inr ⟨k, hk, rfl, h3, rfl⟩) _
theorem e_rbest (hn6 : n ≤ 6) (h4 : gI σ 7 0 4 = nI n) {a : Nat} (ha : a < n) {E : Nat → Int32} (hE : ∀ j, j < n → bit (gA σ 7 0 2 a) (nI j) ≠ 0 → gA σ 7 0 0 (6 * a + j) = E j) : den 81 [vR 7 0 0, vI (nI a)] σ = some (some (vI (bsP E (gA σ 7 0 2 a) n 0 (-2) 0)), σ) := by
  have := rb_loop hn6 h4 ha hE n 0 (by omega) (-2) 0 (Or.inl rfl) none
  rw [nI_0] at this
  rw [dX7_bestFor, bX7_bestFor_0, this]
/-- Ring.since -/
theorem sn_loop (hn6 : n ≤ 6) (h4 : gI σ 7 0 4 = nI n) (X st : Int32) : ∀ (m i : Nat), i + m = n → ∀ (a : Int32),
    run kX7_since 4 [some (vR 7 0 0), some (vI st), some (vI X), some (vI a), some (vI (nI i))] [] σ = some (some (vI (mbP X (gA σ 7 0 3) st m i a)), σ)
  | 0, i, hm, a => by
    have hlt : ¬ nI i < nI n := nI_nlt (by omega) (by omega)
    rw [bX7_since_4, h4, if_neg hlt]
    rfl
  | m + 1, i, hm, a => by
    have hlt : nI i < nI n := nI_lt (by omega) (by omega)
    have a1 := ob (i := i) (N := 6) (by omega) (by decide)
    have c1 : (nI i).toNatClampNeg = i := nI_clamp (by omega)
    rw [bX7_since_4, h4, if_pos hlt, e_has, bnd_s, tl_s, bX7_since_12]
    simp only [c1, a1, ↓reduceIte, nI_S, mbP]
    by_cases h1 : bit X (nI i) = 0
    · rw [if_pos h1, if_pos h1]
      exact sn_loop hn6 h4 X st m (i + 1) (by omega) _
    · rw [if_neg h1, if_neg h1]
      by_cases h2 : gA σ 7 0 3 i < st
      · rw [if_pos h2, if_pos h2]
        exact sn_loop hn6 h4 X st m (i + 1) (by omega) _
      · rw [if_neg h2, if_neg h2]
        exact sn_loop hn6 h4 X st m (i + 1) (by omega) _
theorem e_since (hn6 : n ≤ 6) (h4 : gI σ 7 0 4 = nI n) (X st : Int32) : den 80 [vR 7 0 0, vI st, vI X] σ = some (some (vI (mbP X (gA σ 7 0 3) st n 0 0)), σ) := by
  have := sn_loop hn6 h4 X st n 0 (by omega) 0
  rw [nI_0] at this
  rw [dX7_since, bX7_since_0, this]
/-- the state behind Ring.follow -/
def fwS (σ : ST) (f : Nat → Int32) (q : Int32 × Int32 × Int32) : ST := sI (sI (sI (sA σ 7 0 3 f) 7 0 6 q.1) 7 0 7 q.2.1) 7 0 8 q.2.2
/-- who is next -/
def nxP (n : Nat) (E : Nat → Nat → Int32) (V s : Nat → Int32) (i : Nat) : Int32 := if V i = 0 then -2 else bsP (E i) (s i) n 0 (-2) 0
theorem nxP_r {n : Nat} {E : Nat → Nat → Int32} {V s : Nat → Int32} (i : Nat) : nxP n E V s i = -2 ∨ ∃ k, k < n ∧ nxP n E V s i = nI k := by
  unfold nxP
  by_cases h : V i = 0
  · rw [if_pos h]; exact Or.inl rfl
  · rw [if_neg h]; exact bsP_r n 0 (-2) 0 (by omega) (Or.inl rfl)
theorem fol_loop (hn6 : n ≤ 6) (h4 : gI σ 7 0 4 = nI n) {E : Nat → Nat → Int32} (hE : ∀ i j, i < n → j < n → bit (gA σ 7 0 2 i) (nI j) ≠ 0 → gA σ 7 0 0 (6 * i + j) = E i j) : ∀ (m t : Nat), t + m = n + 1 → ∀ (X a : Nat) (cm f : Nat → Int32) (y4 : Option AV), X < 2 ^ n → pop6 X = t → a < n → (∀ i, i < n → bit (nI X) (nI i) ≠ 0 → f i = cm i) → ∃ f' : Nat → Int32,
    run kX7_follow 7 [some (vR 7 0 0), some (vI (nI a)), some (vI (nI X)), some (vI (nI t)), y4] [] (sA σ 7 0 3 f) = some (none, fwS σ f' (rgP (nxP n E (gA σ 7 0 1) (gA σ 7 0 2)) n m a X t cm))
  | 0, t, hm, X, a, cm, f, y4, hX, hp, ha, hf => by
    have := (pt2 n (by omega) X (Nat.lt_of_lt_of_le hX (p2_64 hn6)) hX).1
    omega
  | m + 1, t, hm, X, a, cm, f, y4, hX, hp, ha, hf => by
    have hX64 : X < 64 := Nat.lt_of_lt_of_le hX (p2_64 hn6)
    have e4 : gI (sA σ 7 0 3 f) 7 0 4 = nI n := h4
    have hlt : ¬ nI n < nI t := nI_nlt (by omega) (by omega)
    have a1 := ob (i := a) (N := 6) (by omega) (by decide)
    have c1 : (nI a).toNatClampNeg = a := nI_clamp (by omega)
    have g3 : gA (sA σ 7 0 3 f) 7 0 3 = f := gA_s
    have g1 : gA (sA σ 7 0 3 f) 7 0 1 = gA σ 7 0 1 := rfl
    rw [bX7_follow_7, e4, if_neg hlt, e_has, bnd_s, tl_s, bX7_follow_14, g3, g1]
    simp only [c1, a1, ↓reduceIte, nI_S, rgP]
    by_cases h1 : bit (nI X) (nI a) = 0
    · have hb := (bit_iff hX64 (by omega)).mp h1
      obtain ⟨p1, p2⟩ := pt1 X hX64 a (by omega) hb
      have p3 := (pt2 n (by omega) X hX64 hX).2 a ha hb
      rw [if_pos h1, if_pos h1, sAA, p1]
      have hne : nxP n E (gA σ 7 0 1) (gA σ 7 0 2) a = (if gA σ 7 0 1 a = 0 then -2 else bsP (E a) (gA σ 7 0 2 a) n 0 (-2) 0) := rfl
      rw [hne]
      by_cases h2 : gA σ 7 0 1 a = 0
      · rw [if_pos h2, if_pos (show (-2 : Int32) < 0 by decide), if_pos h2, if_pos (show (-2 : Int32) < 0 by decide)]
        exact ⟨upd f a (nI t), rfl⟩
      · have hE' : ∀ j, j < n → bit (gA (sA σ 7 0 3 (upd f a (nI t))) 7 0 2 a) (nI j) ≠ 0 → gA (sA σ 7 0 3 (upd f a (nI t))) 7 0 0 (6 * a + j) = E a j := fun j hj hb => hE a j ha hj hb
        rw [if_neg h2, if_neg h2, e_rbest (σ := sA σ 7 0 3 (upd f a (nI t))) hn6 h4 ha hE', bnd_s, tl_s, bX7_follow_51]
        have hs : gA (sA σ 7 0 3 (upd f a (nI t))) 7 0 2 a = gA σ 7 0 2 a := rfl
        rw [hs]
        rcases bsP_r (n := n) (E := E a) (s := gA σ 7 0 2 a) n 0 (-2) 0 (by omega) (Or.inl rfl) with h3 | ⟨k, hk, h3⟩
        · rw [h3, if_pos (show (-2 : Int32) < 0 by decide), if_pos (show (-2 : Int32) < 0 by decide)]
          exact ⟨upd f a (nI t), rfl⟩
        · have l : ¬ nI k < 0 := nI_pos (by omega)
          rw [h3, if_neg l, if_neg l, nI_clamp (by omega), nI_S]
          refine fol_loop hn6 h4 hE m (t + 1) (by omega) (X + 2 ^ a) k (upd cm a (nI t)) (upd f a (nI t)) _ p3 (by omega) hk (fun i hi hb' => ?_)
          by_cases e : i = a
          · rw [e, pk_us, pk_us]
          · have x64 : X + 2 ^ a < 64 := Nat.lt_of_lt_of_le p3 (p2_64 hn6)
            rw [upd_o e, upd_o e]
            apply hf i hi
            intro z
            apply hb'
            rw [bit_iff x64 (by omega), pt3 X hX64 a (by omega) hb x64 i (by omega) e]
            exact (bit_iff hX64 (by omega)).mp z
    · rw [if_neg h1, if_neg h1, e_since (σ := sI (sI (sA σ 7 0 3 f) 7 0 6 1) 7 0 7 (f a)) hn6 h4, bnd_s, tl_s, bX7_follow_30]
      have g3' : gA (sI (sI (sA σ 7 0 3 f) 7 0 6 1) 7 0 7 (f a)) 7 0 3 = f := g3
      rw [g3', hf a ha h1, mbP_c (c1 := f) (c2 := cm) hf n 0 0 (by omega)]
      exact ⟨f, rfl⟩
theorem e_follow (hn6 : n ≤ 6) (h4 : gI σ 7 0 4 = nI n) {E : Nat → Nat → Int32} (hE : ∀ i j, i < n → j < n → bit (gA σ 7 0 2 i) (nI j) ≠ 0 → gA σ 7 0 0 (6 * i + j) = E i j) {a : Nat} (ha : a < n) (h5 : gI σ 7 0 5 = nI a) : ∃ f' : Nat → Int32,
    den 79 [vR 7 0 0] σ = some (none, fwS σ f' (rgP (nxP n E (gA σ 7 0 1) (gA σ 7 0 2)) n (n + 1) a 0 0 (fun _ => 0))) := by
  obtain ⟨f', h⟩ := fol_loop hn6 h4 hE (n + 1) 0 (by omega) 0 a (fun _ => 0) (gA σ 7 0 3) none (Nat.two_pow_pos n) rfl ha (fun i hi hb => absurd (by rw [nI_0]; exact bit_0 _) hb)
  rw [nI_0, sA_id] at h
  exact ⟨f', by rw [dX7_follow, bX7_follow_0, h5, h]⟩
end FOL
