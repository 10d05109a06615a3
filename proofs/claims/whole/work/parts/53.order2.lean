/-! ORDER: clashes -/
def hs3B (h x g : Nat) : Bool := decide (¬ bit (nI (h ||| 2 ^ x)) (nI g) = 0) == (decide (g = x) || decide (¬ bit (nI h) (nI g) = 0))
theorem hs3' : ∀ h, h < 64 → ∀ x, x < 6 → ∀ g, g < 6 → hs3B h x g = true := by decide +kernel
theorem hs3 {h x g : Nat} (h1 : h < 64) (h2 : x < 6) (h3 : g < 6) : ¬ bit (nI (h ||| 2 ^ x)) (nI g) = 0 ↔ g = x ∨ ¬ bit (nI h) (nI g) = 0 := by
  have := hs3' h h1 x h2 g h3
  unfold hs3B at this
  rw [beq_iff_eq] at this
  constructor
  · intro hb
    rw [decide_eq_true hb] at this
    have := this.symm
    rw [Bool.or_eq_true, decide_eq_true_eq, decide_eq_true_eq] at this
    exact this
  · intro hb
    have e : (decide (g = x) || decide (¬ bit (nI h) (nI g) = 0)) = true := by
      rw [Bool.or_eq_true, decide_eq_true_eq, decide_eq_true_eq]
      exact hb
    rw [e] at this
    exact of_decide_eq_true this
def andB (X Y : Nat) : Bool := decide (nI X &&& nI Y = 0) == alB 6 (fun g => decide (bit (nI X) (nI g) = 0) || decide (bit (nI Y) (nI g) = 0))
theorem and_t' : ∀ X, X < 64 → alB 64 (fun Y => andB X Y) = true := by decide +kernel
theorem alB_b {p : Nat → Bool} : ∀ (n : Nat), (∀ i, i < n → p i = true) → alB n p = true
  | 0, _ => rfl
  | n + 1, h => by
    simp only [alB]
    rw [if_pos (h n (by omega))]
    exact alB_b n (fun i hi => h i (by omega))
theorem and_t {X Y : Nat} (hX : X < 64) (hY : Y < 64) : ¬ nI X &&& nI Y = 0 ↔ ∃ g, g < 6 ∧ ¬ bit (nI X) (nI g) = 0 ∧ ¬ bit (nI Y) (nI g) = 0 := by
  have := alB_i (and_t' X hX) Y hY
  unfold andB at this
  rw [beq_iff_eq] at this
  constructor
  · intro h
    refine Classical.byContradiction (fun hn => ?_)
    have : alB 6 (fun g => decide (bit (nI X) (nI g) = 0) || decide (bit (nI Y) (nI g) = 0)) = true := alB_b 6 (fun g hg => by
      rw [Bool.or_eq_true, decide_eq_true_eq, decide_eq_true_eq]
      refine Classical.byContradiction (fun hc => hn ⟨g, hg, fun z => hc (Or.inl z), fun z => hc (Or.inr z)⟩))
    rename_i h0
    rw [this] at h0
    exact h (of_decide_eq_true h0)
  · rintro ⟨g, hg, h1, h2⟩ hz
    rw [decide_eq_true hz] at this
    have h3 := alB_i this.symm g hg
    rw [Bool.or_eq_true, decide_eq_true_eq, decide_eq_true_eq] at h3
    exact h3.elim h1 h2
/-- each one is in a row -/
def sjR (n : Nat) : Bool := alB (facN n) (fun c => alB n (fun g => ! alB n (fun j => decide (¬ rwP n 0 c j = g))))
theorem tbS : ∀ n, n < 7 → sjR n = true := by decide +kernel
theorem row_sj {n c g : Nat} (hn : n < 7) (hc : c < facN n) (hg : g < n) : ∃ j, j < n ∧ rwP n 0 c j = g := by
  have h1 := alB_i (alB_i (tbS n hn) c hc) g hg
  refine Classical.byContradiction (fun hn' => ?_)
  have : alB n (fun j => decide (¬ rwP n 0 c j = g)) = true := alB_b n (fun j hj => decide_eq_true (fun z => hn' ⟨j, hj, z⟩))
  rw [this] at h1
  cases h1
def ahN (row : Nat → Nat) : Nat → Nat
  | 0 => 0
  | j + 1 => ahN row j ||| 2 ^ row j
theorem ahN_64 {row : Nat → Nat} {n : Nat} (hr : ∀ j, j < n → row j < 6) : ∀ j, j ≤ n → ahN row j < 64 ∧ ∀ g, g < 6 → (¬ bit (nI (ahN row j)) (nI g) = 0 ↔ ∃ q, q < j ∧ row q = g)
  | 0, _ => ⟨(by decide : 0 < 64), fun g hg => ⟨fun h => absurd (by show bit (nI 0) (nI g) = 0; rw [nI_0]; exact bit_0 _) h, fun ⟨q, hq, _⟩ => absurd hq (Nat.not_lt_zero _)⟩⟩
  | j + 1, h => by
    obtain ⟨i1, i2⟩ := ahN_64 hr j (by omega)
    have hx := hr j (by omega)
    refine ⟨(hs1 _ i1 _ hx).2.1, fun g hg => ?_⟩
    show ¬ bit (nI (ahN row j ||| 2 ^ row j)) (nI g) = 0 ↔ _
    rw [hs3 i1 hx hg, i2 g hg]
    constructor
    · rintro (h | ⟨q, hq, h⟩)
      · exact ⟨j, by omega, h.symm⟩
      · exact ⟨q, by omega, h⟩
    · rintro ⟨q, hq, h⟩
      by_cases e : q = j
      · left; rw [← h, e]
      · exact Or.inr ⟨q, by omega, h⟩
def hcN (k0 k1 k2 A s : Nat → Int32) (t ah : Int32) (i : Nat) : Nat := if ¬ A i = 0 ∧ k0 i = 0 ∧ k2 i = t ∧ ¬ s (k1 i).toNatClampNeg &&& ah = 0 then 1 else 0
section CLA
variable {n r : Nat} {σ τ : ST}
theorem cl_loop {k : Nat} (hk : k ≤ 24) (hn6 : n ≤ 6) (h6 : gI σ 10 0 6 = nI k) (hE : ∀ i, i < k → ¬ gA σ 10 0 5 i = 0 → gA σ 10 0 0 i = 0 → ∃ a, a < n ∧ gA σ 10 0 1 i = nI a) (t ah : Int32) : ∀ (m i : Nat), i + m = k → ∀ y6 : Option AV,
    run kX10_clashes 4 [some (vR 10 0 0), some (vI t), some (vI ah), some (vR 5 0 0), some (vI (nI (smN (hcN (gA σ 10 0 0) (gA σ 10 0 1) (gA σ 10 0 2) (gA σ 10 0 5) (gA σ 5 0 4) t ah) i))), some (vI (nI i)), y6] [] σ = some (some (vI (nI (smN (hcN (gA σ 10 0 0) (gA σ 10 0 1) (gA σ 10 0 2) (gA σ 10 0 5) (gA σ 5 0 4) t ah) k))), σ)
  | 0, i, hm, y6 => by
    have hi : i = k := by omega
    subst hi
    have hlt : ¬ nI i < nI i := nI_nlt (by omega) (by omega)
    rw [bX10_clashes_4, h6, if_neg hlt]
  | m + 1, i, hm, y6 => by
    have hlt : nI i < nI k := nI_lt (by omega) (by omega)
    have a1 := ob (i := i) (N := 24) (by omega) (by decide)
    have c1 : (nI i).toNatClampNeg = i := nI_clamp (by omega)
    have ih := fun y6 => cl_loop hk hn6 h6 hE t ah m (i + 1) (by omega) y6
    have hs : smN (hcN (gA σ 10 0 0) (gA σ 10 0 1) (gA σ 10 0 2) (gA σ 10 0 5) (gA σ 5 0 4) t ah) (i + 1) = smN (hcN (gA σ 10 0 0) (gA σ 10 0 1) (gA σ 10 0 2) (gA σ 10 0 5) (gA σ 5 0 4) t ah) i + hcN (gA σ 10 0 0) (gA σ 10 0 1) (gA σ 10 0 2) (gA σ 10 0 5) (gA σ 5 0 4) t ah i := rfl
    rw [hs] at ih
    rw [bX10_clashes_4, h6, if_pos hlt]
    simp only [c1, a1, ↓reduceIte, bX10_clashes_26, nI_S, i_a0]
    by_cases h0 : gA σ 10 0 5 i = 0
    · have hz : hcN (gA σ 10 0 0) (gA σ 10 0 1) (gA σ 10 0 2) (gA σ 10 0 5) (gA σ 5 0 4) t ah i = 0 := if_neg (fun z => z.1 h0)
      rw [hz, Nat.add_zero] at ih
      rw [if_pos h0]
      exact ih _
    · rw [if_neg h0]
      by_cases h1 : gA σ 10 0 0 i = 0
      · rw [if_pos h1]
        by_cases h2 : gA σ 10 0 2 i = t
        · obtain ⟨a, ha, ea⟩ := hE i (by omega) h0 h1
          have a2 := ob (i := a) (N := 6) (by omega) (by decide)
          have c2 : (nI a).toNatClampNeg = a := nI_clamp (by omega)
          rw [if_pos h2, if_neg i10, ea]
          simp only [c2, a2, ↓reduceIte]
          by_cases h3 : gA σ 5 0 4 a &&& ah = 0
          · have hz : hcN (gA σ 10 0 0) (gA σ 10 0 1) (gA σ 10 0 2) (gA σ 10 0 5) (gA σ 5 0 4) t ah i = 0 := if_neg (fun z => z.2.2.2 (by rw [ea, c2]; exact h3))
            rw [hz, Nat.add_zero] at ih
            rw [if_pos h3]
            exact ih _
          · have hz : hcN (gA σ 10 0 0) (gA σ 10 0 1) (gA σ 10 0 2) (gA σ 10 0 5) (gA σ 5 0 4) t ah i = 1 := if_pos ⟨h0, h1, h2, by rw [ea, c2]; exact h3⟩
            rw [hz] at ih
            rw [if_neg h3]
            exact ih _
        · have hz : hcN (gA σ 10 0 0) (gA σ 10 0 1) (gA σ 10 0 2) (gA σ 10 0 5) (gA σ 5 0 4) t ah i = 0 := if_neg (fun z => h2 z.2.2.1)
          rw [hz, Nat.add_zero] at ih
          rw [if_neg h2]
          exact ih _
      · have hz : hcN (gA σ 10 0 0) (gA σ 10 0 1) (gA σ 10 0 2) (gA σ 10 0 5) (gA σ 5 0 4) t ah i = 0 := if_neg (fun z => h1 z.2.1)
        rw [hz, Nat.add_zero] at ih
        rw [if_neg h1]
        exact ih _
theorem e_clashes {k : Nat} (hk : k ≤ 24) (hn6 : n ≤ 6) (h6 : gI σ 10 0 6 = nI k) (hE : ∀ i, i < k → ¬ gA σ 10 0 5 i = 0 → gA σ 10 0 0 i = 0 → ∃ a, a < n ∧ gA σ 10 0 1 i = nI a) (t ah : Int32) : den 108 [vR 10 0 0, vI t, vI ah, vR 5 0 0] σ = some (some (vI (nI (smN (hcN (gA σ 10 0 0) (gA σ 10 0 1) (gA σ 10 0 2) (gA σ 10 0 5) (gA σ 5 0 4) t ah) k))), σ) := by
  have := cl_loop hk hn6 h6 hE t ah k 0 (by omega) none
  rw [dX10_clashes, bX10_clashes_0]
  rw [nI_0] at this
  exact this
/-- the reference: whether one who is seen stands ahead -/
def anB (P : Nat → Bool) : Nat → Nat → Bool
  | 0, _ => false
  | m + 1, g => if P g = true then true else anB P m (g + 1)
theorem anB_i {P : Nat → Bool} {N : Nat} : ∀ (m g : Nat), g + m = N → (anB P m g = true ↔ ∃ q, g ≤ q ∧ q < N ∧ P q = true)
  | 0, g, hm => ⟨fun h => (ffT h).elim, fun ⟨q, h1, h2, _⟩ => by omega⟩
  | m + 1, g, hm => by
    simp only [anB]
    by_cases hp : P g = true
    · rw [if_pos hp]
      exact ⟨fun _ => ⟨g, Nat.le_refl _, by omega, hp⟩, fun _ => rfl⟩
    · rw [if_neg hp, anB_i (N := N) m (g + 1) (by omega)]
      constructor
      · rintro ⟨q, h1, h2, h3⟩
        exact ⟨q, by omega, h2, h3⟩
      · rintro ⟨q, h1, h2, h3⟩
        by_cases e : q = g
        · rw [e] at h3
          exact absurd h3 hp
        · exact ⟨q, by omega, h2, h3⟩
def stB (s st : Nat → Int32) (a b g : Nat) : Bool := decide (¬ g = b) && (decide (¬ bit (s a) (nI g) = 0) && decide (st g < st b))
theorem cm_1 (hn6 : n ≤ 6) (hn : gI τ 12 0 12 = nI n) (x1 x2 x3 x4 : Int32) : ∀ (m g : Nat), g + m = n → run kX12_clashesOf 59 [some (vR 12 0 0), some (vI x1), some (vI x2), some (vI x3), some (vI x4), some (vI 1), some (vI (nI g))] [] τ = run kX12_clashesOf 20 [some (vR 12 0 0), some (vI (x1 + 1)), some (vI (x2 + 1)), some (vI x3), some (vI x4), some (vI 1), some (vI (nI n))] [] τ
  | 0, g, hm => by
    have hg : g = n := by omega
    subst hg
    have hlt : ¬ nI g < nI g := nI_nlt (by omega) (by omega)
    rw [bX12_clashesOf_59, hn, if_neg hlt, if_neg i10]
  | m + 1, g, hm => by
    have hlt : nI g < nI n := nI_lt (by omega) (by omega)
    rw [bX12_clashesOf_59, hn, if_pos hlt, if_neg i10, nI_S]
    exact cm_1 hn6 hn x1 x2 x3 x4 m (g + 1) (by omega)
theorem cm_0 (hn6 : n ≤ 6) (hn : gI τ 12 0 12 = nI n) (x1 x2 : Int32) {a b : Nat} (ha : a < n) (hb : b < n) : ∀ (m g : Nat), g + m = n → ∃ z, run kX12_clashesOf 59 [some (vR 12 0 0), some (vI x1), some (vI x2), some (vI (nI a)), some (vI (nI b)), some (vI 0), some (vI (nI g))] [] τ = run kX12_clashesOf 20 [some (vR 12 0 0), some (vI (x1 + bI (anB (stB (gA τ 12 0 46) (gA τ 12 0 71) a b) m g))), some (vI (x2 + 1)), some (vI (nI a)), some (vI (nI b)), z, some (vI (nI n))] [] τ
  | 0, g, hm => by
    have hg : g = n := by omega
    subst hg
    have hlt : ¬ nI g < nI g := nI_nlt (by omega) (by omega)
    exact ⟨_, by rw [bX12_clashesOf_59, hn, if_neg hlt, if_pos rfl]; rfl⟩
  | m + 1, g, hm => by
    have hlt : nI g < nI n := nI_lt (by omega) (by omega)
    have a1 := ob (i := a) (N := 12) (by omega) (by decide)
    have c1 : (nI a).toNatClampNeg = a := nI_clamp (by omega)
    have a2 := ob (i := b) (N := 6) (by omega) (by decide)
    have c2 : (nI b).toNatClampNeg = b := nI_clamp (by omega)
    have a3 := ob (i := g) (N := 6) (by omega) (by decide)
    have c3 : (nI g).toNatClampNeg = g := nI_clamp (by omega)
    have ih := cm_0 hn6 hn x1 x2 ha hb m (g + 1) (by omega)
    have no : stB (gA τ 12 0 46) (gA τ 12 0 71) a b g = false → anB (stB (gA τ 12 0 46) (gA τ 12 0 71) a b) (m + 1) g = anB (stB (gA τ 12 0 46) (gA τ 12 0 71) a b) m (g + 1) := fun h => by
      simp only [anB]
      rw [if_neg (by rw [h]; exact ffT)]
    rw [bX12_clashesOf_59, hn, if_pos hlt, if_pos rfl]
    simp only [c1, a1, ↓reduceIte]
    rw [m_isOf, bnd_s, tl_s, bX12_clashesOf_74]
    simp only [c2, a2, c3, a3, ↓reduceIte, nI_S]
    by_cases h1 : g = b
    · have hz : stB (gA τ 12 0 46) (gA τ 12 0 71) a b g = false := by
        unfold stB
        rw [decide_eq_false (fun z => z h1), Bool.false_and]
      rw [if_pos (by rw [h1]), no hz]
      exact ih
    · rw [if_neg (fun z => h1 ((nI_eq (by omega) (by omega)).mp z))]
      by_cases h2 : bit (gA τ 12 0 46 a) (nI g) = 0
      · have hz : stB (gA τ 12 0 46) (gA τ 12 0 71) a b g = false := by
          unfold stB
          rw [decide_eq_false (p := ¬ bit (gA τ 12 0 46 a) (nI g) = 0) (fun z => z h2), Bool.false_and, Bool.and_false]
        rw [if_pos h2, no hz]
        exact ih
      · rw [if_neg h2]
        by_cases h3 : gA τ 12 0 71 g < gA τ 12 0 71 b
        · have hz : stB (gA τ 12 0 46) (gA τ 12 0 71) a b g = true := by
            unfold stB
            rw [decide_eq_true h1, decide_eq_true h2, decide_eq_true h3]
            rfl
          have hy : anB (stB (gA τ 12 0 46) (gA τ 12 0 71) a b) (m + 1) g = true := by
            simp only [anB]
            rw [if_pos hz]
          rw [if_pos h3, hy, cm_1 hn6 hn x1 x2 (nI a) (nI b) m (g + 1) (by omega), bI_t rfl]
          exact ⟨_, rfl⟩
        · have hz : stB (gA τ 12 0 46) (gA τ 12 0 71) a b g = false := by
            unfold stB
            rw [decide_eq_false h3, Bool.and_false, Bool.and_false]
          rw [if_neg h3, no hz]
          exact ih
end CLA
