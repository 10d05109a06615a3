/-! READING A TEXT: what has been read, in both; what a line may change -/
abbrev SH (H : Nat) : Nat → Nat → Prop := fun c o => c = 9 ∨ c = 6 ∨ (c = 2 ∧ o = H) ∨ (c = 5 ∧ o = 3 + H) ∨ (c = 3 ∧ 3 * H ≤ o ∧ o < 3 * H + 3)
abbrev KR : Nat → Prop := fun k => (4 ≤ k ∧ k ≤ 5) ∨ (7 ≤ k ∧ k ≤ 11) ∨ (15 ≤ k ∧ k ≤ 40)
def hfk (k : Nat) : Nat := if k = 19 ∨ k = 26 then 2 else if 20 ≤ k ∧ k ≤ 25 then 6 else if 27 ≤ k ∧ k ≤ 29 then 3 else if 30 ≤ k ∧ k ≤ 32 then 64 else 0
def rdM (τ τ' : ST) : Prop := smM KR τ τ' ∧ ∀ k j, j < hfk k → gA τ' 12 0 k j = gA τ 12 0 k j
section RDM
variable {H : Nat} {σ σ' τ τ' τ'' : ST}
theorem rdM_0 : rdM τ τ := ⟨smM_0, fun _ _ _ => rfl⟩
theorem rdM_t (h1 : rdM τ τ') (h2 : rdM τ' τ'') : rdM τ τ'' := ⟨smM_t h1.1 h2.1, fun k j h => (h2.2 k j h).trans (h1.2 k j h)⟩
theorem rdM_f (h : fuM τ τ') : rdM τ τ' := by
  refine ⟨fun k hk => ⟨h.1 12 0 k (fun z => hk (Or.inr (Or.inl ⟨z.2.1, z.2.2⟩))), ?_, ?_⟩, fun k j _ => ?_⟩
  · rw [fuM_L h]
  · rw [fuM_A h]
  · rw [fuM_A h]
theorem rdM_A {k : Nat} (hk : KR k) {f : Nat → Int32} (hf : ∀ j, j < hfk k → f j = gA τ 12 0 k j) : rdM τ (sA τ 12 0 k f) := ⟨smM_A hk f, fun k' j hj => by
  by_cases e : k' = k
  · subst e
    rw [gA_s]
    exact hf j hj
  · rw [gA_n e]⟩
theorem rdM_u {k i : Nat} (hk : KR k) (hi : hfk k ≤ i) (v : Int32) : rdM τ (sA τ 12 0 k (upd (gA τ 12 0 k) i v)) := rdM_A hk (fun j hj => upd_o (by omega))
theorem rdM_I {k : Nat} (hk : KR k) (v : Int32) : rdM τ (sI τ 12 0 k v) := ⟨smM_I hk v, fun _ _ _ => rfl⟩
theorem smC_f (h : fuC σ σ') : smC (SH H) σ σ' := fun c o hn => ⟨funext (fun k => h.1 c o k (fun z => hn (Or.inl z.1)) (fun z => hn (Or.inr (Or.inl z.1)))), by rw [fuC_L h], by rw [fuC_R h], by rw [fuC_A h]⟩
end RDM
def FR (H : Nat) (σ0 τ0 σ τ : ST) : Prop := smC (SH H) σ0 σ ∧ rdM τ0 τ
theorem FR_0 {H : Nat} {σ τ : ST} : FR H σ τ σ τ := ⟨smC_0, rdM_0⟩
theorem FR_t {H : Nat} {σ σ' σ'' τ τ' τ'' : ST} (h1 : FR H σ τ σ' τ') (h2 : FR H σ' τ' σ'' τ'') : FR H σ τ σ'' τ'' := ⟨smC_t h1.1 h2.1, rdM_t h1.2 h2.2⟩
theorem FR_f {H : Nat} {σ σ' τ τ' : ST} (h1 : fuC σ σ') (h2 : fuM τ τ') : FR H σ τ σ' τ' := ⟨smC_f h1, rdM_f h2⟩
/-- what has been read -/
def RDp (n r c : Nat) (i2 : Nat → Int32) (a2 : Nat → Nat → Int32) (y5 : Int32) (a5 : Nat → Nat → Int32) (b5 b6 m15 m16 m38 : Int32) (A : Nat → Nat → Int32) : Prop :=
  (n ≤ 6 ∧ r ≤ 2 ∧ c ≤ 64 ∧ (r ≠ 0 → n ≠ 0)) ∧ (i2 0 = nI n ∧ m15 = nI n ∧ i2 1 = nI r ∧ m16 = nI r ∧ i2 4 = nI c ∧ m38 = nI c) ∧
  ((∃ b, b ≤ 100 ∧ i2 2 = nI b ∧ A 19 2 = nI b) ∧ (∃ b, b ≤ 99999 ∧ i2 3 = nI b ∧ A 19 3 = nI b) ∧ b5 = A 18 0 ∧ b6 = A 18 1) ∧
  (∀ j, j < n → a2 5 j = A 20 (6 + j) ∧ (a5 2 j = A 21 (6 + j) ∧ ∃ x, x ≤ 99 ∧ a5 2 j = nI x) ∧ (a2 6 j = A 22 (6 + j) ∧ -9 ≤ (a2 6 j).toInt ∧ (a2 6 j).toInt ≤ 9) ∧ (a2 7 j = A 23 (6 + j) ∧ ∃ x, x ≤ 9 ∧ a2 7 j = nI x) ∧ (a2 8 j = A 24 (6 + j) ∧ ∃ x, x ≤ 99 ∧ a2 8 j = nI x)) ∧
  (∀ j, j < 6 → a5 4 j = A 25 (6 + j) ∧ ∃ x, x < 2 ^ n ∧ (n ≤ j → x = 0) ∧ a5 4 j = nI x ∧ bit (nI x) (nI j) = 0) ∧
  ((∀ j, j < 6 → a5 3 j = hadP (fun p => A 26 (2 + p)) r j) ∧ (∀ p, p < r → a5 5 p = A 26 (2 + p) ∧ ∃ x, x < n ∧ a5 5 p = nI x)) ∧ (∀ p, p < 2 → a5 6 p = 0 ∧ a5 7 p = 0) ∧ y5 = 0
def RD (H n r c : Nat) (σ τ : ST) : Prop := RDp n r c (gI σ 2 H) (gA σ 2 H) (gI σ 5 (3 + H) 0) (gA σ 5 (3 + H)) (gI σ 6 0 5) (gI σ 6 0 6) (gI τ 12 0 15) (gI τ 12 0 16) (gI τ 12 0 38) (gA τ 12 0)
/-- the laws that have been read, kr knots in all -/
def LWp (kr : Nat) (l1 : Nat → Int32) (K : Nat → Nat → Int32) (A : Nat → Nat → Int32) : Prop := ∀ w, w < 3 → ∃ len, len ≤ 64 ∧ l1 w = nI len ∧ ((len = 0 ∧ A 27 (3 + w) = 0) ∨ (0 < len ∧ A 27 (3 + w) = 1 ∧ ∃ f, f + len ≤ kr ∧ A 28 (3 + w) = nI f ∧ A 29 (3 + w) = nI (f + len) ∧ wfS (K w) (fun i => A 30 (64 + i)) (fun i => A 31 (64 + i)) (fun i => A 32 (64 + i)) f len [f + len - 1]))
def LW (H kr : Nat) (σ τ : ST) : Prop := gI τ 12 0 17 = nI kr ∧ LWp kr (fun w => gI σ 3 (3 * H + w) 1) (fun w => gA σ 3 (3 * H + w) 0) (gA τ 12 0)
section RDF
variable {H n r c kr : Nat} {σ σ' τ τ' : ST}
theorem RD_f (h : RD H n r c σ τ) (hc : fuC σ σ') (hm : fuM τ τ') : RD H n r c σ' τ' := by
  have e2 : gI σ' 2 H = gI σ 2 H := funext (fun k => hc.1 2 H k (by omega) (by omega))
  unfold RD
  rw [e2, hc.1 5 (3 + H) 0 (by omega) (by omega), hc.1 6 0 5 (by omega) (by omega), hc.1 6 0 6 (by omega) (by omega), hm.1 12 0 15 (by omega), hm.1 12 0 16 (by omega), hm.1 12 0 38 (by omega), fuC_A hc, fuM_A hm]
  exact h
theorem LW_f (h : LW H kr σ τ) (hc : fuC σ σ') (hm : fuM τ τ') : LW H kr σ' τ' := by
  have e2 : (fun w => gI σ' 3 (3 * H + w) 1) = (fun w => gI σ 3 (3 * H + w) 1) := funext (fun w => hc.1 3 (3 * H + w) 1 (by omega) (by omega))
  unfold LW
  rw [e2, hm.1 12 0 17 (by omega), fuC_A hc, fuM_A hm]
  exact h
end RDF
/-- how a line ends -/
def lout (L : Nat) (t : Nat → Nat) (H p : Nat) (σ0 τ0 : ST) (ca cm : RS) : Prop := ∃ σ τ, FR H σ0 τ0 σ τ ∧ RB L t H σ τ ∧ FTQ σ τ ∧ ((ca = some (some (vI 0), σ) ∧ cm = some (some (vI 0), τ)) ∨ (ca = some (some (vI 1), σ) ∧ cm = some (some (vI 1), τ) ∧ ∃ p' q' n r c, p < p' ∧ TKS L σ τ p' q' ∧ RD H n r c σ τ ∧ LW H c σ τ))
section LO
variable {L : Nat} {t : Nat → Nat} {H p p1 q : Nat} {σ τ σ0 τ0 : ST}
theorem FR_fa (x : Int32) : FR H σ τ (faC σ x) (faM τ x) := ⟨smC_t (smC_I (Or.inr (Or.inl rfl)) _) (smC_I (Or.inr (Or.inl rfl)) _), rdM_t (rdM_I (by omega) _) (rdM_I (by omega) _)⟩
theorem lo_f (hB : RB L t H σ τ) (hK : TKS L σ τ p1 q) (hF : FR H σ0 τ0 σ τ) (x : Int32) : lout L t H p σ0 τ0 (some (some (vI 0), faC σ x)) (some (some (vI 0), faM τ x)) := ⟨faC σ x, faM τ x, FR_t hF (FR_fa x), hB, fl_q hK x, Or.inl ⟨rfl, rfl⟩⟩
/-- names -/
theorem nam_i (hK : TKS L σ τ p q) : (gI σ 9 0 5 = 2 ∧ gI τ 12 0 8 = 2 ∧ gI τ 12 0 9 = gI σ 9 0 6) ∨ (¬ gI σ 9 0 5 = 2 ∧ ¬ gI τ 12 0 8 = 2) := by
  rcases TKS_n hK with ⟨e, e'⟩ | ⟨e, e', _⟩ | ⟨e, e', e6⟩ | ⟨e, e', _⟩ | ⟨e, ⟨e', _⟩ | ⟨e', _⟩⟩ | ⟨e, e' | ⟨e', _⟩⟩
  · exact Or.inr (by rw [e, e']; decide)
  · exact Or.inr (by rw [e, e']; decide)
  · exact Or.inl ⟨e, e', e6.symm⟩
  · exact Or.inr (by rw [e, e']; decide)
  · exact Or.inr (by rw [e, e']; decide)
  · exact Or.inr (by rw [e, e']; decide)
  · exact Or.inr (by rw [e, e']; decide)
  · exact Or.inr (by rw [e, e']; decide)
theorem fnd_or (f : Nat → Int32) (x : Int32) : ∀ (m i : Nat), fnd f x m i = -1 ∨ ∃ j, i ≤ j ∧ j < i + m ∧ fnd f x m i = nI j
  | 0, _ => Or.inl rfl
  | m + 1, i => by
    unfold fnd
    by_cases h : f i = x
    · rw [if_pos h]
      exact Or.inr ⟨i, Nat.le_refl _, by omega, rfl⟩
    · rw [if_neg h]
      rcases fnd_or f x m (i + 1) with e | ⟨j, h1, h2, e⟩
      · exact Or.inl e
      · exact Or.inr ⟨j, by omega, by omega, e⟩
theorem m_find6 {n : Nat} (hn : n ≤ 6) (x : Int32) : den 181 [vR 12 0 21, vI 6, vI (nI n), vI x] τ = some (some (vI (fnd (fun j => gA τ 12 0 20 (6 + j)) x n 0)), τ) := by
  rw [dX12_find, bX12_find_0]
  exact m_fnd (τ := τ) 20 12 rfl (by decide) 6 n (by omega) x n 0 (by omega)
theorem find_pair {n r c : Nat} (hR : RD H n r c σ τ) (x : Int32) : (den 23 [vR 2 H 0, vI x] σ = some (some (vI (-1)), σ) ∧ den 181 [vR 12 0 21, vI 6, vI (nI n), vI x] τ = some (some (vI (-1)), τ)) ∨ ∃ j, j < n ∧ den 23 [vR 2 H 0, vI x] σ = some (some (vI (nI j)), σ) ∧ den 181 [vR 12 0 21, vI 6, vI (nI n), vI x] τ = some (some (vI (nI j)), τ) := by
  have hn6 := hR.1.1
  rw [e_numberOf H hn6 hR.2.1.1, m_find6 hn6, ← fnd_eq (f := gA σ 2 H 5) x n 0 (fun j _ hj => (hR.2.2.2.1 j (by omega)).1)]
  rcases fnd_or (gA σ 2 H 5) x n 0 with e | ⟨j, _, h2, e⟩
  · rw [e]
    exact Or.inl ⟨rfl, rfl⟩
  · rw [e]
    exact Or.inr ⟨j, by omega, rfl, rfl⟩
end LO
