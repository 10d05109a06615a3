/-! READING A TEXT: laws; what stands behind a value -/
section BEH
variable {L : Nat} {t : Nat → Nat} {H o f i B cnt p q : Nat} {ws st : List Nat} {σ τ : ST}
theorem m_isSign0 (h : ¬ gI τ 12 0 8 = 4) (x : Int32) : den 175 [vR 12 0 0, vI x] τ = some (some (vI 0), τ) := by
  rw [dX12_isSign, bX12_isSign_0, if_neg h]
theorem m_isSign1 {j : Nat} (h : gI τ 12 0 8 = 4) (h9 : gI τ 12 0 9 = nI j) {k : Nat} (hk : k < 100) (hj : j < 100) : den 175 [vR 12 0 0, vI (nI k)] τ = some (some (vI (if j = k then 1 else 0)), τ) := by
  rw [dX12_isSign, bX12_isSign_0, if_pos h, h9]
  by_cases e : j = k
  · rw [if_pos e, if_pos (by rw [e])]
  · rw [if_neg e, if_neg (fun z => e ((nI_eq (by omega) (by omega)).mp z))]
/-- the reference finds a sign -/
noncomputable abbrev sgnR (τ : ST) : RS := bnd (den 174 [vR 12 0 0, vI 9] τ) fun v τ => run kX12_signs 29 [some (vR 12 0 0), none] (v.toList ++ []) τ
theorem sgn_50 (h : ∀ x, x = 43 ∨ x = 45 ∨ x = 42 ∨ x = 47 → den 175 [vR 12 0 0, vI x] τ = some (some (vI 0), τ)) : (bnd (den 175 [vR 12 0 0, vI 43] τ) fun v τ => run kX12_signs 50 [some (vR 12 0 0), none] (v.toList ++ []) τ) = some (some (vI 0), faM τ 1) := by
  rw [h 43 (by decide), bnd_s, tl_s, bX12_signs_50, if_pos rfl, h 45 (by decide), bnd_s, tl_s, bX12_signs_56, if_pos rfl, h 42 (by decide), bnd_s, tl_s, bX12_signs_62, if_pos rfl, h 47 (by decide), bnd_s, tl_s, bX12_signs_68, if_pos rfl, if_pos rfl, m_wrong, bnd_s, tl_s, bX12_signs_78, if_pos i0or]
theorem sgn_0 (h9 : den 174 [vR 12 0 0, vI 9] τ = some (some (vI 0), τ)) (h10 : den 174 [vR 12 0 0, vI 10] τ = some (some (vI 0), τ)) (h5 : ¬ gI τ 12 0 8 = 5) : sgnR τ = bnd (den 175 [vR 12 0 0, vI 43] τ) fun v τ => run kX12_signs 50 [some (vR 12 0 0), none] (v.toList ++ []) τ := by
  unfold sgnR
  rw [h9, bnd_s, tl_s, bX12_signs_29, if_pos rfl, h10, bnd_s, tl_s, bX12_signs_35, if_pos rfl, if_neg h5]
theorem sgn_k {k : Nat} (hk : 3 ≤ k ∧ k ≤ 14) : (bnd (den 191 [vI (nI k)] τ) fun v τ => run kX12_signs 82 [some (vR 12 0 0), some (vI (nI k))] (v.toList ++ [vR 12 0 0]) τ) = run kX12_signs 82 [some (vR 12 0 0), some (vI (nI k))] [vI (nI (rnk k)), vR 12 0 0] τ := by
  rw [m_rank, bnd_s, tl_s, (rkg_t k (by omega)).1]
theorem sg_w : ∀ j, j < 19 → (wsw j = 9 ↔ j = 10) ∧ (wsw j = 10 ↔ j = 9) ∧ wsw j < 100 := by decide
theorem join_pair (hK : TKS L σ τ p q) : (den 67 [vR 6 0 0] σ = some (some (vI (-1)), σ) ∧ sgnR τ = some (some (vI 0), faM τ 1)) ∨ ∃ k, 3 ≤ k ∧ k ≤ 14 ∧ den 67 [vR 6 0 0] σ = some (some (vI (nI (csg k))), σ) ∧ sgnR τ = run kX12_signs 82 [some (vR 12 0 0), some (vI (nI k))] [vI (nI (rnk k)), vR 12 0 0] τ ∧ p < q := by
  rw [dX6_joiningSign, bX6_joiningSign_0]
  rcases TKS_n hK with ⟨e, e'⟩ | ⟨e, e', h⟩ | ⟨e, e', _⟩ | ⟨e, e', j, hj, ka, kb⟩ | ⟨e, ⟨e', c, hc, ka, kb⟩ | ⟨e', k, hk, ka, kb⟩⟩ | ⟨e, e' | ⟨e', kb⟩⟩
  · have n3 : ¬ gI σ 9 0 5 = 3 := by rw [e]; decide
    have m1 : ¬ gI τ 12 0 8 = 1 := by rw [e']; decide
    rw [e_isWord0 n3, bnd_s, tl_s, bX6_joiningSign_4, if_pos rfl, e_isWord0 n3, bnd_s, tl_s, bX6_joiningSign_11, if_pos rfl, if_neg (by rw [e]; decide), sgn_0 (m_isKey0 m1 _) (m_isKey0 m1 _) (by rw [e']; decide), sgn_50 (fun x _ => m_isSign0 (by rw [e']; decide) x)]
    exact Or.inl ⟨rfl, rfl⟩
  · have n3 : ¬ gI σ 9 0 5 = 3 := by rw [e]; decide
    have m1 : ¬ gI τ 12 0 8 = 1 := by rw [e']; decide
    rw [e_isWord0 n3, bnd_s, tl_s, bX6_joiningSign_4, if_pos rfl, e_isWord0 n3, bnd_s, tl_s, bX6_joiningSign_11, if_pos rfl, if_neg (by rw [e]; decide), sgn_0 (m_isKey0 m1 _) (m_isKey0 m1 _) (by rw [e']; decide), sgn_50 (fun x _ => m_isSign0 (by rw [e']; decide) x)]
    exact Or.inl ⟨rfl, rfl⟩
  · have n3 : ¬ gI σ 9 0 5 = 3 := by rw [e]; decide
    have m1 : ¬ gI τ 12 0 8 = 1 := by rw [e']; decide
    rw [e_isWord0 n3, bnd_s, tl_s, bX6_joiningSign_4, if_pos rfl, e_isWord0 n3, bnd_s, tl_s, bX6_joiningSign_11, if_pos rfl, if_neg (by rw [e]; decide), sgn_0 (m_isKey0 m1 _) (m_isKey0 m1 _) (by rw [e']; decide), sgn_50 (fun x _ => m_isSign0 (by rw [e']; decide) x)]
    exact Or.inl ⟨rfl, rfl⟩
  · -- a word
    obtain ⟨w1, w2, w3⟩ := sg_w j hj
    have hpq : p < q := TKS_p hK (by rw [e]; decide)
    have i9 : den 93 [vR 9 0 0, vI 9] σ = some (some (vI (if wsw j = 9 then 1 else 0)), σ) := e_isWord1 (k := 9) e ka (by decide) w3
    have i10' : den 93 [vR 9 0 0, vI 10] σ = some (some (vI (if wsw j = 10 then 1 else 0)), σ) := e_isWord1 (k := 10) e ka (by decide) w3
    have k9 : den 174 [vR 12 0 0, vI 9] τ = some (some (vI (if j = 9 then 1 else 0)), τ) := m_isKey1 (k := 9) e' kb (by decide) (by omega)
    have k10 : den 174 [vR 12 0 0, vI 10] τ = some (some (vI (if j = 10 then 1 else 0)), τ) := m_isKey1 (k := 10) e' kb (by decide) (by omega)
    by_cases h10 : j = 10
    · refine Or.inr ⟨4, by decide, by decide, ?_, ?_, hpq⟩
      · rw [i9, bnd_s, tl_s, bX6_joiningSign_4, if_pos (w1.mpr h10), if_neg i10]
        rfl
      · unfold sgnR
        rw [k9, bnd_s, tl_s, bX12_signs_29, if_neg (show ¬ j = 9 by omega), if_pos rfl, k10, bnd_s, tl_s, bX12_signs_35, if_pos h10, if_neg i10, if_neg (by decide)]
        exact sgn_k (k := 4) (by decide)
    by_cases h9 : j = 9
    · refine Or.inr ⟨3, by decide, by decide, ?_, ?_, hpq⟩
      · rw [i9, bnd_s, tl_s, bX6_joiningSign_4, if_neg (show ¬ wsw j = 9 from fun z => h10 (w1.mp z)), if_pos rfl, i10', bnd_s, tl_s, bX6_joiningSign_11, if_pos (w2.mpr h9), if_neg i10]
        rfl
      · unfold sgnR
        rw [k9, bnd_s, tl_s, bX12_signs_29, if_pos h9, if_neg i10, if_neg (by decide)]
        exact sgn_k (k := 3) (by decide)
    rw [if_neg h9] at k9
    rw [if_neg h10] at k10
    rw [i9, bnd_s, tl_s, bX6_joiningSign_4, if_neg (show ¬ wsw j = 9 from fun z => h10 (w1.mp z)), if_pos rfl, i10', bnd_s, tl_s, bX6_joiningSign_11, if_neg (show ¬ wsw j = 10 from fun z => h9 (w2.mp z)), if_pos rfl, if_neg (by rw [e]; decide), sgn_0 k9 k10 (by rw [e']; decide), sgn_50 (fun x _ => m_isSign0 (by rw [e']; decide) x)]
    exact Or.inl ⟨rfl, rfl⟩
  · -- it compares
    have n3 : ¬ gI σ 9 0 5 = 3 := by rw [e]; decide
    have m1 : ¬ gI τ 12 0 8 = 1 := by rw [e']; decide
    have hpq : p < q := TKS_p hK (by rw [e]; decide)
    have n5 : (5 : Int32) + nI c = nI (5 + c) := nI_add 5 c
    have hin : inb (nI (3 + c)) 3 12 = 1 := by
      unfold inb
      rw [if_neg (show ¬ nI (3 + c) < 3 from nI_nlt (b := 3) (by omega) (by omega)), if_neg (show ¬ (12 : Int32) < nI (3 + c) from nI_nlt (a := 12) (by omega) (by omega))]
    have hcs : csg (5 + c) = 3 + c := by
      have : ∀ c, c < 6 → csg (5 + c) = 3 + c := by decide
      exact this c hc
    refine Or.inr ⟨5 + c, by omega, by omega, ?_, ?_, hpq⟩
    · rw [e_isWord0 n3, bnd_s, tl_s, bX6_joiningSign_4, if_pos rfl, e_isWord0 n3, bnd_s, tl_s, bX6_joiningSign_11, if_pos rfl, if_pos e, ka, e_isWithin, bnd_s, tl_s, bX6_joiningSign_25, hin, if_neg i10, ka, hcs]
    · unfold sgnR
      rw [m_isKey0 m1, bnd_s, tl_s, bX12_signs_29, if_pos rfl, m_isKey0 m1, bnd_s, tl_s, bX12_signs_35, if_pos rfl, if_pos e', kb, n5, if_neg (show ¬ nI (5 + c) = 0 from fun z => by have := (nI_eq (b := 0) (by omega) (by decide)).mp z; omega)]
      exact sgn_k (by omega)
  · -- another sign
    have n3 : ¬ gI σ 9 0 5 = 3 := by rw [e]; decide
    have m1 : ¬ gI τ 12 0 8 = 1 := by rw [e']; decide
    have m5 : ¬ gI τ 12 0 8 = 5 := by rw [e']; decide
    have hpq : p < q := TKS_p hK (by rw [e]; decide)
    have hsl : ∀ j, j < 7 → sgc j < 100 := by decide
    have s43 : den 175 [vR 12 0 0, vI 43] τ = some (some (vI (if sgc k = 43 then 1 else 0)), τ) := m_isSign1 (k := 43) e' kb (by decide) (hsl k hk)
    have s45 : den 175 [vR 12 0 0, vI 45] τ = some (some (vI (if sgc k = 45 then 1 else 0)), τ) := m_isSign1 (k := 45) e' kb (by decide) (hsl k hk)
    have s42 : den 175 [vR 12 0 0, vI 42] τ = some (some (vI (if sgc k = 42 then 1 else 0)), τ) := m_isSign1 (k := 42) e' kb (by decide) (hsl k hk)
    have s47 : den 175 [vR 12 0 0, vI 47] τ = some (some (vI (if sgc k = 47 then 1 else 0)), τ) := m_isSign1 (k := 47) e' kb (by decide) (hsl k hk)
    rw [e_isWord0 n3, bnd_s, tl_s, bX6_joiningSign_4, if_pos rfl, e_isWord0 n3, bnd_s, tl_s, bX6_joiningSign_11, if_pos rfl, if_pos e, ka, e_isWithin, bnd_s, tl_s, bX6_joiningSign_25, ka, sgn_0 (m_isKey0 m1 _) (m_isKey0 m1 _) m5]
    by_cases h4 : k < 4
    · have hin : inb (nI (9 + k)) 3 12 = 1 := by
        unfold inb
        rw [if_neg (show ¬ nI (9 + k) < 3 from nI_nlt (b := 3) (by omega) (by omega)), if_neg (show ¬ (12 : Int32) < nI (9 + k) from nI_nlt (a := 12) (by omega) (by omega))]
      have hcs : csg (11 + k) = 9 + k := by
        have : ∀ k, k < 4 → csg (11 + k) = 9 + k := by decide
        exact this k h4
      rw [hin, if_neg i10]
      refine Or.inr ⟨11 + k, by omega, by omega, by rw [hcs], ?_, hpq⟩
      have hk4 : k = 0 ∨ k = 1 ∨ k = 2 ∨ k = 3 := by omega
      rcases hk4 with rfl | rfl | rfl | rfl
      · rw [s43, bnd_s, tl_s, bX12_signs_50, if_pos (show sgc 0 = 43 by decide), if_neg i10, if_neg (by decide)]
        exact sgn_k (k := 11) (by decide)
      · rw [s43, bnd_s, tl_s, bX12_signs_50, if_neg (show ¬ sgc 1 = 43 by decide), if_pos rfl, s45, bnd_s, tl_s, bX12_signs_56, if_pos (show sgc 1 = 45 by decide), if_neg i10, if_neg (by decide)]
        exact sgn_k (k := 12) (by decide)
      · rw [s43, bnd_s, tl_s, bX12_signs_50, if_neg (show ¬ sgc 2 = 43 by decide), if_pos rfl, s45, bnd_s, tl_s, bX12_signs_56, if_neg (show ¬ sgc 2 = 45 by decide), if_pos rfl, s42, bnd_s, tl_s, bX12_signs_62, if_pos (show sgc 2 = 42 by decide), if_neg i10, if_neg (by decide)]
        exact sgn_k (k := 13) (by decide)
      · rw [s43, bnd_s, tl_s, bX12_signs_50, if_neg (show ¬ sgc 3 = 43 by decide), if_pos rfl, s45, bnd_s, tl_s, bX12_signs_56, if_neg (show ¬ sgc 3 = 45 by decide), if_pos rfl, s42, bnd_s, tl_s, bX12_signs_62, if_neg (show ¬ sgc 3 = 42 by decide), if_pos rfl, s47, bnd_s, tl_s, bX12_signs_68, if_pos (show sgc 3 = 47 by decide), if_neg i10, if_neg (by decide)]
        exact sgn_k (k := 14) (by decide)
    · have hin : inb (nI (9 + k)) 3 12 = 0 := by
        unfold inb
        rw [if_neg (show ¬ nI (9 + k) < 3 from nI_nlt (b := 3) (by omega) (by omega)), if_pos (show (12 : Int32) < nI (9 + k) from nI_lt (a := 12) (by omega) (by omega))]
      have hs : ∀ j, j < 7 → 4 ≤ j → ¬ sgc j = 43 ∧ ¬ sgc j = 45 ∧ ¬ sgc j = 42 ∧ ¬ sgc j = 47 := by decide
      obtain ⟨v1, v2, v3, v4⟩ := hs k hk (by omega)
      rw [if_neg v1] at s43
      rw [if_neg v2] at s45
      rw [if_neg v3] at s42
      rw [if_neg v4] at s47
      rw [hin, if_pos rfl, sgn_50 (fun x hx => by
        rcases hx with rfl | rfl | rfl | rfl
        · exact s43
        · exact s45
        · exact s42
        · exact s47)]
      exact Or.inl ⟨rfl, rfl⟩
  · have n3 : ¬ gI σ 9 0 5 = 3 := by rw [e]; decide
    have m1 : ¬ gI τ 12 0 8 = 1 := by rw [e']; decide
    rw [e_isWord0 n3, bnd_s, tl_s, bX6_joiningSign_4, if_pos rfl, e_isWord0 n3, bnd_s, tl_s, bX6_joiningSign_11, if_pos rfl, if_neg (by rw [e]; decide), sgn_0 (m_isKey0 m1 _) (m_isKey0 m1 _) (by rw [e']; decide), sgn_50 (fun x _ => m_isSign0 (by rw [e']; decide) x)]
    exact Or.inl ⟨rfl, rfl⟩
  · have n3 : ¬ gI σ 9 0 5 = 3 := by rw [e]; decide
    have m1 : ¬ gI τ 12 0 8 = 1 := by rw [e']; decide
    rw [e_isWord0 n3, bnd_s, tl_s, bX6_joiningSign_4, if_pos rfl, e_isWord0 n3, bnd_s, tl_s, bX6_joiningSign_11, if_pos rfl, if_neg (by rw [e]; decide), sgn_0 (m_isKey0 m1 _) (m_isKey0 m1 _) (by rw [e']; decide), sgn_50 (fun x hx => by
        rcases hx with rfl | rfl | rfl | rfl
        · exact m_isSign1 (k := 43) (j := 37) e' kb (by decide) (by decide)
        · exact m_isSign1 (k := 45) (j := 37) e' kb (by decide) (by decide)
        · exact m_isSign1 (k := 42) (j := 37) e' kb (by decide) (by decide)
        · exact m_isSign1 (k := 47) (j := 37) e' kb (by decide) (by decide))]
    exact Or.inl ⟨rfl, rfl⟩
end BEH
