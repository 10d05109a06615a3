/-! READING A TEXT: frames, failing, numbers, growers that are told -/
/-- what tokens and numbers may change -/
def fuC (σ σ' : ST) : Prop := (∀ c o k, ¬ (c = 9 ∧ (k = 3 ∨ k = 5 ∨ k = 6 ∨ k = 7)) → ¬ (c = 6 ∧ k = 7) → gI σ' c o k = gI σ c o k) ∧ σ'.2 = σ.2
def fuM (τ τ' : ST) : Prop := (∀ c o k, ¬ (c = 12 ∧ 7 ≤ k ∧ k ≤ 11) → gI τ' c o k = gI τ c o k) ∧ τ'.2 = τ.2
section FU
variable {σ σ' σ'' τ τ' τ'' : ST}
theorem fuC_0 : fuC σ σ := ⟨fun _ _ _ _ _ => rfl, rfl⟩
theorem fuM_0 : fuM τ τ := ⟨fun _ _ _ _ => rfl, rfl⟩
theorem fuC_t (h1 : fuC σ σ') (h2 : fuC σ' σ'') : fuC σ σ'' := ⟨fun c o k h g => (h2.1 c o k h g).trans (h1.1 c o k h g), h2.2.trans h1.2⟩
theorem fuM_t (h1 : fuM τ τ') (h2 : fuM τ' τ'') : fuM τ τ'' := ⟨fun c o k h => (h2.1 c o k h).trans (h1.1 c o k h), h2.2.trans h1.2⟩
theorem fuC_w (h : ftC σ σ') : fuC σ σ' := ⟨fun c o k n _ => h.1 c o k n, h.2⟩
theorem fuM_w (h : ftM τ τ') : fuM τ τ' := ⟨fun c o k n => h.1 c o k (fun z => n ⟨z.1, z.2.1, by omega⟩), h.2⟩
theorem fuC_I (v : Int32) : fuC σ (sI σ 6 0 7 v) := ⟨fun c o k' _ h => by
  show u3 σ.1 6 0 7 v c o k' = _
  unfold u3
  rw [if_neg (fun z => h ⟨z.2.1, z.1⟩)]
  rfl, rfl⟩
theorem fuM_I {k : Nat} (hk : 7 ≤ k ∧ k ≤ 11) (v : Int32) : fuM τ (sI τ 12 0 k v) := ⟨fun c o k' h => by
  show u3 τ.1 12 0 k v c o k' = _
  unfold u3
  rw [if_neg (fun z => h ⟨z.2.1, by rw [z.1]; exact hk⟩)]
  rfl, rfl⟩
theorem fuC_A (h : fuC σ σ') : gA σ' = gA σ := by
  show σ'.2.2.2.1 = σ.2.2.2.1
  rw [h.2]
theorem fuM_A (h : fuM τ τ') : gA τ' = gA τ := by
  show τ'.2.2.2.1 = τ.2.2.2.1
  rw [h.2]
theorem fuC_R (h : fuC σ σ') : gR σ' = gR σ := by
  show σ'.2.2.1 = σ.2.2.1
  rw [h.2]
theorem fuC_L (h : fuC σ σ') : gL σ' = gL σ := by
  show σ'.2.1 = σ.2.1
  rw [h.2]
theorem fuM_L (h : fuM τ τ') : gL τ' = gL τ := by
  show τ'.2.1 = τ.2.1
  rw [h.2]
theorem fuC_sA {c o k : Nat} {f : Nat → Int32} (h : fuC σ σ') : fuC (sA σ c o k f) (sA σ' c o k f) := ⟨h.1, by
  show (σ'.2.1, σ'.2.2.1, u3 σ'.2.2.2.1 c o k f, σ'.2.2.2.2) = (σ.2.1, σ.2.2.1, u3 σ.2.2.2.1 c o k f, σ.2.2.2.2)
  rw [h.2]⟩
theorem fuM_sA {c o k : Nat} {f : Nat → Int32} (h : fuM τ τ') : fuM (sA τ c o k f) (sA τ' c o k f) := ⟨h.1, by
  show (τ'.2.1, τ'.2.2.1, u3 τ'.2.2.2.1 c o k f, τ'.2.2.2.2) = (τ.2.1, τ.2.2.1, u3 τ.2.2.2.1 c o k f, τ.2.2.2.2)
  rw [h.2]⟩
theorem fuC_sI {c o k : Nat} {v : Int32} (h : fuC σ σ') : fuC (sI σ c o k v) (sI σ' c o k v) := ⟨fun a b d n1 n2 => by
  show u3 σ'.1 c o k v a b d = u3 σ.1 c o k v a b d
  have := h.1 a b d n1 n2
  unfold u3
  split
  · rfl
  · exact this, h.2⟩
theorem fuM_sI {c o k : Nat} {v : Int32} (h : fuM τ τ') : fuM (sI τ c o k v) (sI τ' c o k v) := ⟨fun a b d n1 => by
  show u3 τ'.1 c o k v a b d = u3 τ.1 c o k v a b d
  have := h.1 a b d n1
  unfold u3
  split
  · rfl
  · exact this, h.2⟩
end FU
/-- the tape, the words, the garden that is read into -/
def RB (L : Nat) (t : Nat → Nat) (H : Nat) (σ τ : ST) : Prop := TZ L t σ τ ∧ WD σ τ ∧ gR σ 6 0 4 = H ∧ H < 2 ∧ gI σ 9 0 4 = 0 ∧ gI τ 12 0 1 = 0
/-- the fault, in both -/
def FTQ (σ τ : ST) : Prop := gI σ 6 0 8 = gI τ 12 0 4 ∧ gI σ 6 0 9 = gI τ 12 0 5
theorem FTQ_f {σ σ' τ τ' : ST} (h : FTQ σ τ) (hc : fuC σ σ') (hm : fuM τ τ') : FTQ σ' τ' := by
  refine ⟨?_, ?_⟩
  · rw [hc.1 6 0 8 (by decide) (by decide), hm.1 12 0 4 (by decide)]
    exact h.1
  · rw [hc.1 6 0 9 (by decide) (by decide), hm.1 12 0 5 (by decide)]
    exact h.2
theorem RB_f {L : Nat} {t : Nat → Nat} {H : Nat} {σ σ' τ τ' : ST} (h : RB L t H σ τ) (hc : fuC σ σ') (hm : fuM τ τ') : RB L t H σ' τ' := by
  obtain ⟨h1, h2, h3, h4, h5, h6⟩ := h
  refine ⟨⟨h1.1, (hc.1 9 0 2 (by decide) (by decide)).trans h1.2.1, (hm.1 12 0 6 (by decide)).trans h1.2.2.1, ?_⟩, ?_, ?_, h4, (hc.1 9 0 4 (by decide) (by decide)).trans h5, (hm.1 12 0 1 (by decide)).trans h6⟩
  · rw [fuC_A hc, fuM_A hm]
    exact h1.2.2.2
  · unfold WD
    rw [fuC_A hc, fuM_A hm]
    exact h2
  · rw [fuC_R hc]
    exact h3
/-- failing -/
abbrev faC (σ : ST) (x : Int32) : ST := sI (sI σ 6 0 8 x) 6 0 9 (gI σ 9 0 7)
abbrev faM (τ : ST) (x : Int32) : ST := sI (sI τ 12 0 4 x) 12 0 5 (gI τ 12 0 10)
theorem e_fail (σ : ST) (x : Int32) : den 74 [vR 6 0 0, vI x] σ = some (some (vI 0), faC σ x) := by rw [dX6_fail, bX6_fail_0]
theorem e_failed (σ : ST) (x : Int32) : den 75 [vR 6 0 0, vI x] σ = some (some (vI 4), faC σ x) := by rw [dX6_failed, bX6_failed_0, e_fail, bnd_s, tl_s, bX6_failed_3]
theorem m_wrong (τ : ST) (x : Int32) : den 167 [vR 12 0 0, vI x] τ = some (some (vI 0), faM τ x) := by rw [dX12_wrong, bX12_wrong_0]
theorem fl_q {L p q : Nat} {σ τ : ST} (h : TKS L σ τ p q) (x : Int32) : FTQ (faC σ x) (faM τ x) := ⟨rfl, h.2.2.1.trans h.2.2.2.1.symm⟩
theorem i0or : (0 : Int32) = 0 ∨ (0 : Int32) = 1 := Or.inl rfl
theorem i1or : (1 : Int32) = 0 ∨ (1 : Int32) = 1 := Or.inr rfl
section TAKE
variable {L : Nat} {t : Nat → Nat} {H p q : Nat} {σ τ : ST}
/-- the next token -/
theorem tok_pair (hB : RB L t H σ τ) (hK : TKS L σ τ p q) : ∃ p' q' σ' τ', q ≤ p' ∧ den 92 [vR 9 0 0] σ = some (none, σ') ∧ den 171 [vR 12 0 0] τ = some (none, τ') ∧ fuC σ σ' ∧ fuM τ τ' ∧ TKS L σ' τ' p' q' ∧ gI σ' 6 0 7 = gI σ 6 0 7 ∧ gI τ' 12 0 11 = gI τ 12 0 11 := by
  obtain ⟨p', q', σ', τ', h1, h2, h3, h4, h5, h6⟩ := token_pair hB.1 hB.2.1 hK.2.2.2.2.2.1 hK.1 hK.2.1
  exact ⟨p', q', σ', τ', h1, h2, h3, fuC_w h4, fuM_w h5, h6, h4.1 6 0 7 (by decide), h5.1 12 0 11 (by decide)⟩
theorem TKS_n (hK : TKS L σ τ p q) : TKN (gI σ 9 0 5) (gI σ 9 0 6) (gI τ 12 0 8) (gI τ 12 0 9) := hK.2.2.2.2.2.2.1
theorem TKS_p (hK : TKS L σ τ p q) (h : gI σ 9 0 5 ≠ 0) : p < q := hK.2.2.2.2.2.2.2 h
theorem TKS_s (hK : TKS L σ τ p q) {σ' τ' : ST} (h3 : gI σ' 9 0 3 = gI σ 9 0 3) (h5 : gI σ' 9 0 5 = gI σ 9 0 5) (h6 : gI σ' 9 0 6 = gI σ 9 0 6) (h7 : gI σ' 9 0 7 = gI σ 9 0 7) (m7 : gI τ' 12 0 7 = gI τ 12 0 7) (m8 : gI τ' 12 0 8 = gI τ 12 0 8) (m9 : gI τ' 12 0 9 = gI τ 12 0 9) (m10 : gI τ' 12 0 10 = gI τ 12 0 10) : TKS L σ' τ' p q := by
  unfold TKS
  rw [h3, h5, h6, h7, m7, m8, m9, m10]
  exact hK
/-- numbers -/
theorem take_pair (hB : RB L t H σ τ) (hK : TKS L σ τ p q) {M : Nat} (hM : M ≤ 99999) : (∃ x, den 72 [vR 6 0 0, vI (nI M)] σ = some (some (vI 0), faC σ x) ∧ den 176 [vR 12 0 0, vI 0, vI (nI M)] τ = some (some (vI 0), faM τ x)) ∨
    ∃ σ' τ' x p' q', den 72 [vR 6 0 0, vI (nI M)] σ = some (some (vI 1), σ') ∧ den 176 [vR 12 0 0, vI 0, vI (nI M)] τ = some (some (vI 1), τ') ∧ fuC σ σ' ∧ fuM τ τ' ∧ p < p' ∧ TKS L σ' τ' p' q' ∧ x ≤ M ∧ gI σ' 6 0 7 = nI x ∧ gI τ' 12 0 11 = nI x := by
  have hN := TKS_n hK
  by_cases h1 : gI σ 9 0 5 = 1
  · rcases hN with ⟨e, _⟩ | ⟨_, e8, a, b, ha, hb, e6, e9, hab⟩ | ⟨e, _⟩ | ⟨e, _⟩ | ⟨e, _⟩ | ⟨e, _⟩
    · rw [e] at h1; exact absurd h1 (by decide)
    · rw [dX6_takeNumber, bX6_takeNumber_0, if_pos h1, e6, dX12_number, bX12_number_0, if_pos e8, e9, m_isIn, bnd_s, tl_s, bX12_number_13]
      by_cases hl : a ≤ M
      · have hab' : a = b := by omega
        subst hab'
        have e0 : inb (nI a) 0 (nI M) = 1 := by
          unfold inb
          rw [if_neg (show ¬ nI a < 0 from nI_nlt (b := 0) (by omega) (by omega)), if_neg (nI_nlt (by omega) (by omega))]
        rw [if_neg (nI_nlt (a := M) (b := a) (by omega) (by omega)), e0, if_neg i10]
        obtain ⟨p', q', σ', τ', g1, g2, g3, g4, g5, g6, g7, g8⟩ := tok_pair (σ := sI σ 6 0 7 (nI a)) (τ := sI τ 12 0 11 (nI a)) (RB_f hB (fuC_I _) (fuM_I (by decide) _)) (TKS_s hK rfl rfl rfl rfl rfl rfl rfl rfl)
        have hq : p < q := TKS_p hK (by rw [h1]; decide)
        refine Or.inr ⟨σ', τ', a, p', q', ?_, ?_, fuC_t (fuC_I _) g4, fuM_t (fuM_I (by decide) _) g5, by omega, g6, hl, g7, g8⟩
        · rw [g2, bnd_s, tl_n, bX6_takeNumber_26]
        · rw [e9, g3, bnd_s, tl_n, bX12_number_24]
      · have e0 : inb (nI b) 0 (nI M) = 0 := by
          unfold inb
          rw [if_neg (show ¬ nI b < 0 from nI_nlt (b := 0) (by omega) (by omega)), if_pos (nI_lt (by omega) (by omega))]
        rw [if_pos (nI_lt (a := M) (b := a) (by omega) (by omega)), e0, if_pos rfl]
        refine Or.inl ⟨2, ?_, ?_⟩
        · rw [e_fail, bnd_s, tl_s, bX6_takeNumber_17, if_pos i0or]
        · rw [m_wrong, bnd_s, tl_s, bX12_number_17, if_pos i0or]
    · rw [e] at h1; exact absurd h1 (by decide)
    · rw [e] at h1; exact absurd h1 (by decide)
    · rw [e] at h1; exact absurd h1 (by decide)
    · rw [e] at h1; exact absurd h1 (by decide)
  · have h8 : ¬ gI τ 12 0 8 = 3 := by
      intro z
      rw [z] at hN
      rcases hN with ⟨_, e⟩ | ⟨e, _⟩ | ⟨_, e, _⟩ | ⟨_, e, _⟩ | ⟨_, ⟨e, _⟩ | ⟨e, _⟩⟩ | ⟨_, e | ⟨e, _⟩⟩
      · exact absurd e (by decide)
      · exact h1 e
      all_goals exact absurd e (by decide)
    refine Or.inl ⟨1, ?_, ?_⟩
    · rw [dX6_takeNumber, bX6_takeNumber_0, if_neg h1, e_fail, bnd_s, tl_s, bX6_takeNumber_8, if_pos i0or]
    · rw [dX12_number, bX12_number_0, if_neg h8, m_wrong, bnd_s, tl_s, bX12_number_7, if_pos i0or]
/-- signs -/
theorem sgc_i : ∀ a, a < 7 → ∀ b, b < 7 → sgc a = sgc b → a = b := by decide
theorem sign_b (hK : TKS L σ τ p q) {k : Nat} (hk : k < 7) : ∃ b : Bool, den 94 [vR 9 0 0, vI (nI (9 + k))] σ = some (some (vI (bI b)), σ) ∧ den 175 [vR 12 0 0, vI (nI (sgc k))] τ = some (some (vI (bI b)), τ) ∧ (b = true → gI σ 9 0 5 = 4) := by
  have hs : ∀ j, j < 7 → sgc j < 60 ∧ sgc j ≠ 37 := by decide
  rw [dX9_isSign, bX9_isSign_0, dX12_isSign, bX12_isSign_0]
  rcases TKS_n hK with ⟨e, e'⟩ | ⟨e, e', _⟩ | ⟨e, e', _⟩ | ⟨e, e', _⟩ | ⟨e, ⟨e', c, hc, e6, _⟩ | ⟨e', k', hk', e6, e9⟩⟩ | ⟨e, e' | ⟨e', e9⟩⟩
  · rw [e, e', if_neg (by decide), if_neg (by decide)]
    exact ⟨false, rfl, rfl, fun z => absurd z (by decide)⟩
  · rw [e, e', if_neg (by decide), if_neg (by decide)]
    exact ⟨false, rfl, rfl, fun z => absurd z (by decide)⟩
  · rw [e, e', if_neg (by decide), if_neg (by decide)]
    exact ⟨false, rfl, rfl, fun z => absurd z (by decide)⟩
  · rw [e, e', if_neg (by decide), if_neg (by decide)]
    exact ⟨false, rfl, rfl, fun z => absurd z (by decide)⟩
  · rw [e, e', if_pos rfl, e6, if_neg (fun z => by have := (nI_eq (a := 3 + c) (b := 9 + k) (by omega) (by omega)).mp z; omega), if_neg (by decide)]
    exact ⟨false, rfl, rfl, fun z => absurd z (by decide)⟩
  · rw [e, e', if_pos rfl, if_pos rfl, e6, e9]
    by_cases h : k' = k
    · subst h
      rw [if_pos rfl, if_pos rfl]
      exact ⟨true, rfl, rfl, fun _ => rfl⟩
    · have h1 := hs k hk
      have h2 := hs k' hk'
      rw [if_neg (fun z => by have := (nI_eq (a := 9 + k') (b := 9 + k) (by omega) (by omega)).mp z; omega), if_neg (fun z => h (sgc_i k' hk' k hk ((nI_eq (by omega) (by omega)).mp z)))]
      exact ⟨false, rfl, rfl, fun z => absurd z (by decide)⟩
  · rw [e, e', if_neg (by decide), if_neg (by decide)]
    exact ⟨false, rfl, rfl, fun z => absurd z (by decide)⟩
  · have h1 := hs k hk
    rw [e, e', if_neg (by decide), if_pos rfl, e9, if_neg (fun z => by have := (nI_eq (a := 37) (b := sgc k) (by omega) (by omega)).mp z; omega)]
    exact ⟨false, rfl, rfl, fun z => absurd z (by decide)⟩
end TAKE
