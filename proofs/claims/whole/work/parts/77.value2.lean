/-! READING A TEXT: laws; a value's token -/
section VA2
variable {L : Nat} {t : Nat → Nat} {H o f i B cnt p q m : Nat} {ws st : List Nat} {σ τ : ST}
theorem wsw_t : ∀ j, j < 19 → (12 ≤ j → wsw j = j) ∧ (j = 11 → wsw j = 11) ∧ (j < 12 → wsw j < 12) ∧ (j < 11 → wsw j < 11) := by decide
theorem vt_0 (y1 y2 : Option AV) : run kX6_readValue 75 [some (vR 6 0 0), y1, y2] [vI 0] σ = some (some (vI 4), faC σ 1) := by
  rw [bX6_readValue_75, if_pos rfl, e_failed, bnd_s, tl_s, bX6_readValue_98]
theorem lft_0 (z : Int32) (h : ¬ gI τ 12 0 8 = 3) (hz : z < 0) (y1 : Option AV) : run kX12_leafRead 49 [some (vR 12 0 0), y1] [vI z] τ = some (some (vI 0), faM τ 1) := by
  rw [bX12_leafRead_49, if_pos hz, if_neg h, m_wrong, bnd_s, tl_s, bX12_leafRead_59, if_pos i0or]
theorem m_nameMet0 (h : ¬ gI τ 12 0 8 = 1) : den 197 [vR 12 0 0] τ = some (some (vI (-1)), τ) := by
  rw [dX12_nameMet, bX12_nameMet_0, if_neg h]
theorem m_isKey0 (h : ¬ gI τ 12 0 8 = 1) (x : Int32) : den 174 [vR 12 0 0, vI x] τ = some (some (vI 0), τ) := by
  rw [dX12_isKey, bX12_isKey_0, if_neg h]
theorem m_isKey1 {j : Nat} (h : gI τ 12 0 8 = 1) (h9 : gI τ 12 0 9 = nI j) {k : Nat} (hk : k < 100) (hj : j < 100) : den 174 [vR 12 0 0, vI (nI k)] τ = some (some (vI (if j = k then 1 else 0)), τ) := by
  rw [dX12_isKey, bX12_isKey_0, if_pos h, h9]
  by_cases e : j = k
  · rw [if_pos e, if_pos (by rw [e])]
  · rw [if_neg e, if_neg (fun z => e ((nI_eq (by omega) (by omega)).mp z))]
theorem e_isWord0 (h : ¬ gI σ 9 0 5 = 3) (x : Int32) : den 93 [vR 9 0 0, vI x] σ = some (some (vI 0), σ) := by
  rw [dX9_isWord, bX9_isWord_0, if_neg h]
theorem e_isWord1 {j : Nat} (h : gI σ 9 0 5 = 3) (h6 : gI σ 9 0 6 = nI j) {k : Nat} (hk : k < 100) (hj : j < 100) : den 93 [vR 9 0 0, vI (nI k)] σ = some (some (vI (if j = k then 1 else 0)), σ) := by
  rw [dX9_isWord, bX9_isWord_0, if_pos h, h6]
  by_cases e : j = k
  · rw [if_pos e, if_pos (by rw [e])]
  · rw [if_neg e, if_neg (fun z => e ((nI_eq (by omega) (by omega)).mp z))]
/-- which kind of token it is, in both -/
theorem kin_i (hK : TKS L σ τ p q) : (gI σ 9 0 5 = 1 ∧ gI τ 12 0 8 = 3 ∧ ∃ a b, a ≤ 1000000 ∧ b ≤ 999999 ∧ gI σ 9 0 6 = nI a ∧ gI τ 12 0 9 = nI b ∧ (a = b ∨ (99999 < a ∧ 99999 < b))) ∨ (gI σ 9 0 5 = 3 ∧ gI τ 12 0 8 = 1 ∧ ∃ j, j < 19 ∧ gI σ 9 0 6 = nI (wsw j) ∧ gI τ 12 0 9 = nI j) ∨ (¬ gI σ 9 0 5 = 1 ∧ ¬ gI σ 9 0 5 = 3 ∧ ¬ gI τ 12 0 8 = 3 ∧ ¬ gI τ 12 0 8 = 1) := by
  rcases TKS_n hK with ⟨e, e'⟩ | ⟨e, e', h⟩ | ⟨e, e', _⟩ | ⟨e, e', h⟩ | ⟨e, ⟨e', _⟩ | ⟨e', _⟩⟩ | ⟨e, e' | ⟨e', _⟩⟩
  · exact Or.inr (Or.inr (by rw [e, e']; decide))
  · exact Or.inl ⟨e, e', h⟩
  · exact Or.inr (Or.inr (by rw [e, e']; decide))
  · exact Or.inr (Or.inl ⟨e, e', h⟩)
  · exact Or.inr (Or.inr (by rw [e, e']; decide))
  · exact Or.inr (Or.inr (by rw [e, e']; decide))
  · exact Or.inr (Or.inr (by rw [e, e']; decide))
  · exact Or.inr (Or.inr (by rw [e, e']; decide))
theorem value_pair (hB : RB L t H σ τ) (hK : TKS L σ τ p q) (hE : EX H o f i B cnt ws st σ τ) (hm : m < 2) (hM : MD m τ) (hl : st.length = bc ws) : rnd L H o f p q σ τ (den 65 [vR 6 0 0, vR 3 o 0, vI (if m = 0 then 1 else 0)] σ) (den 198 [vR 12 0 0] τ) := by
  obtain ⟨b1, b2, b3, b4⟩ := EX_b hE
  have hbl := bc_le ws
  obtain ⟨⟨p1, p2, p3, p4, p5⟩, ⟨h1, h2⟩, ⟨h3, h3'⟩, ⟨h4, h4'⟩, ⟨h5, h6⟩, h7, h8, h9, h10, h11⟩ := id hE
  have z39 : gI τ 12 0 39 = 1 := by
    rcases hM with ⟨_, h, _⟩ | ⟨_, h, _⟩ | ⟨h, _⟩
    · exact h
    · exact h
    · omega
  obtain ⟨b, s1, s2, s3⟩ : ∃ b : Bool, den 94 [vR 9 0 0, vI 13] σ = some (some (vI (bI b)), σ) ∧ den 175 [vR 12 0 0, vI 40] τ = some (some (vI (bI b)), τ) ∧ (b = true → gI σ 9 0 5 = 4) := sign_b (k := 4) hK (by decide)
  rw [dX6_readValue, bX6_readValue_0, dX12_leafRead, bX12_leafRead_0, s2, bnd_s, tl_s, bX12_leafRead_3]
  cases b with
  | true =>
    -- a bracket opens
    have k4 := s3 rfl
    have hpq : p < q := TKS_p hK (by rw [k4]; decide)
    have n1 : ¬ gI σ 9 0 5 = 1 := by rw [k4]; decide
    have n3 : ¬ gI σ 9 0 5 = 3 := by rw [k4]; decide
    have fin : (if (if m = 0 then (1 : Int32) else 0) = 0 then (bnd (den 94 [vR 9 0 0, vI 13] σ) fun v τ => run kX6_readValue 75 [some (vR 6 0 0), some (vR 3 o 0), some (vI (if m = 0 then 1 else 0))] (v.toList ++ []) τ) else (bnd (den 93 [vR 9 0 0, vI 11] σ) fun v τ => run kX6_readValue 58 [some (vR 6 0 0), some (vR 3 o 0), some (vI (if m = 0 then 1 else 0))] (v.toList ++ []) τ)) = run kX6_readValue 75 [some (vR 6 0 0), some (vR 3 o 0), some (vI (if m = 0 then 1 else 0))] [vI 1] σ := by
      by_cases e : m = 0
      · simp only [if_pos e]
        rw [if_neg i10, e_isWord0 n3, bnd_s, tl_s, bX6_readValue_58, if_pos rfl, s1, bnd_s, tl_s]
        rfl
      · simp only [if_neg e, ↓reduceIte]
        rw [s1, bnd_s, tl_s]
        rfl
    rw [if_neg n1, if_neg n3, fin, bX6_readValue_75, if_neg i10, bI_t rfl, if_neg i10, h3, h3']
    by_cases hB8 : B = 8
    · rw [if_neg (show ¬ nI B < 8 by rw [hB8]; decide), if_pos (show nI B = 8 by rw [hB8]; rfl), e_failed, bnd_s, tl_s, bX6_readValue_83, m_wrong, bnd_s, tl_s, bX12_leafRead_11, if_pos i0or]
      exact rnd_f LX_0 hK 2
    · have e1 : gI (sI σ 6 0 3 (nI (B + 1))) 6 0 2 = nI ws.length := h1
      have e2 : gI (sI τ 12 0 37 (nI (B + 1))) 12 0 35 = nI ws.length := h2
      rw [if_pos (show nI B < 8 from nI_lt (b := 8) (by omega) (by decide)), if_neg (show ¬ nI B = 8 from fun z => hB8 ((nI_eq (b := 8) (by omega) (by decide)).mp z)), nI_S, e_defer (by omega) e1, bnd_s, tl_n, bX6_readValue_93, m_waits (by omega) e2, bnd_s, tl_n, bX12_leafRead_21]
      refine Or.inr ⟨0, i, B + 1, cnt, 0 :: ws, st, opC σ B ws.length, sI (opM τ B ws.length) 12 0 40 1, by omega, rfl, ?_, (EX_opn (σ := σ) (τ := τ) hE (by omega) : EX H o f i (B + 1) cnt (0 :: ws) st (opC σ B ws.length) (opM τ B ws.length)), Or.inl ⟨rfl, z39, rfl⟩, ?_, LX_t (op_x ws.length) ⟨lxC_0, lxM_I (Or.inr (Or.inr (by omega))) _⟩, TKS_s hK rfl rfl rfl rfl rfl rfl rfl rfl, hpq⟩
      · intro τ'' h
        rw [h, bnd_s, tl_n, bX12_leafRead_26]
      · rw [bc, if_neg (by omega), if_neg (by omega)]
        omega
  | false =>
    rw [bI_f rfl, if_pos rfl]
    -- what fails
    have cl : ∀ z : Int32, (z = 0 ∨ z = 1) → (z = 1 → den 93 [vR 9 0 0, vI 11] σ = some (some (vI 0), σ)) → (if z = 0 then (bnd (den 94 [vR 9 0 0, vI 13] σ) fun v τ => run kX6_readValue 75 [some (vR 6 0 0), some (vR 3 o 0), some (vI z)] (v.toList ++ []) τ) else (bnd (den 93 [vR 9 0 0, vI 11] σ) fun v τ => run kX6_readValue 58 [some (vR 6 0 0), some (vR 3 o 0), some (vI z)] (v.toList ++ []) τ)) = some (some (vI 4), faC σ 1) := by
      intro z hz hw
      rcases hz with e | e
      · rw [if_pos e, s1, bnd_s, tl_s]
        exact vt_0 _ _
      · rw [if_neg (by rw [e]; decide), hw e, bnd_s, tl_s, bX6_readValue_58, if_pos rfl, s1, bnd_s, tl_s]
        exact vt_0 _ _
    have z01 : (if m = 0 then (1 : Int32) else 0) = 0 ∨ (if m = 0 then (1 : Int32) else 0) = 1 := by
      by_cases e : m = 0
      · rw [if_pos e]; exact Or.inr rfl
      · rw [if_neg e]; exact Or.inl rfl
    rcases kin_i hK with ⟨k1, k2, a, b, ha, hb, ka, kb, hab⟩ | ⟨k1, k2, j, hj, ka, kb⟩ | ⟨k1, k2, k3, k4⟩
    · -- a number
      have hpq : p < q := TKS_p hK (by rw [k1]; decide)
      have m1 : ¬ gI τ 12 0 8 = 1 := by rw [k2]; decide
      have e6 : gI (sI σ 2 H 4 (nI (cnt + 1))) 9 0 6 = nI a := ka
      have K1 : TKS L (sI σ 2 H 4 (nI (cnt + 1))) τ p q := TKS_s hK rfl rfl rfl rfl rfl rfl rfl rfl
      have x1 : LX H o f σ τ (sI σ 2 H 4 (nI (cnt + 1))) τ := ⟨lxC_I (Or.inr (Or.inl ⟨rfl, rfl, rfl⟩)) _, lxM_0⟩
      rw [if_pos k1, e_count hB.2.2.1 h4 p5, bnd_s, tl_s, bX6_readValue_7, e6, m_isKey0 m1, bnd_s, tl_s, bX12_leafRead_31, if_pos rfl, m_nameMet0 m1, bnd_s, tl_s, bX12_leafRead_49, if_pos (show (-1 : Int32) < 0 by decide), if_pos k2, if_pos (show (-1 : Int32) < 0 by decide), kb]
      by_cases h99 : 9999 < a
      · rw [if_pos (show (9999 : Int32) < nI b from nI_lt (a := 9999) (by omega) (by omega)), m_wrong, bnd_s, tl_s, bX12_leafRead_69, if_pos i0or]
        by_cases e : cnt = 64
        · rw [if_pos e, if_pos rfl, e_failed, bnd_s, tl_s, bX6_readValue_16]
          exact rnd_f x1 K1 2
        · rw [if_neg e, if_neg i10, if_pos (show (9999 : Int32) < nI a from nI_lt (a := 9999) (by omega) (by omega)), e_failed, bnd_s, tl_s, bX6_readValue_16]
          exact rnd_f x1 K1 2
      · have hab' : a = b := by omega
        subst hab'
        rw [if_neg (show ¬ (9999 : Int32) < nI a from nI_nlt (a := 9999) (by omega) (by omega)), if_neg (show ¬ (9999 : Int32) < nI a from nI_nlt (a := 9999) (by omega) (by omega)), m_count h4' p5]
        by_cases e : cnt = 64
        · rw [if_pos e, if_pos rfl, e_failed, bnd_s, tl_s, bX6_readValue_16, if_pos e, bnd_s, tl_s, bX12_leafRead_72, if_pos rfl]
          exact rnd_f x1 K1 2
        · have e5 : gI (sI σ 2 H 4 (nI (cnt + 1))) 3 o 1 = nI i := h5
          have e17 : gI (sI τ 12 0 38 (nI (cnt + 1))) 12 0 17 = nI (f + i) := h6
          have e36 : gI (sI τ 12 0 38 (nI (cnt + 1))) 12 0 36 = nI st.length := h7
          have e9 : gI (sI τ 12 0 38 (nI (cnt + 1))) 12 0 9 = nI a := kb
          rw [if_neg e, if_neg i10, e_lawadd (by omega) e5, bnd_s, tl_n, bX6_readValue_22, if_neg e, bnd_s, tl_s, bX12_leafRead_72, if_neg i10, if_pos (show (-1 : Int32) < 0 by decide), if_pos (show (-1 : Int32) < 0 by decide), e9, m_grown (kr := f + i) (s := st.length) (by omega) (by omega) e17 e36, bnd_s, tl_n, bX12_leafRead_89]
          refine Or.inr ⟨2, i + 1, B, cnt + 1, ws, (f + i) :: st, lfC σ H o i cnt (nI a), lfM τ cnt (f + i) st.length 0 (nI a), by omega, rfl, ?_, EX_leaf hE (by omega) ?_, Or.inr (Or.inr ⟨rfl, rfl⟩), ?_, lf_x (by omega) _ _ _, TKS_s hK rfl rfl rfl rfl rfl rfl rfl rfl, hpq⟩
          · intro τ'' h
            rw [h, bnd_s, tl_n, bX12_leafRead_94]
          · exact Or.inl ⟨a, by omega, pk_us, pk_us, pk_us, rfl⟩
          · rw [List.length_cons, if_pos rfl]
            omega
    · -- a word
      have hpq : p < q := TKS_p hK (by rw [k1]; decide)
      have n1 : ¬ gI σ 9 0 5 = 1 := by rw [k1]; decide
      have m3 : ¬ gI τ 12 0 8 = 3 := by rw [k2]; decide
      obtain ⟨w1, w2, w3, w4⟩ := wsw_t j hj
      have K1 : TKS L (sI σ 2 H 4 (nI (cnt + 1))) τ p q := TKS_s hK rfl rfl rfl rfl rfl rfl rfl rfl
      have x1 : LX H o f σ τ (sI σ 2 H 4 (nI (cnt + 1))) τ := ⟨lxC_I (Or.inr (Or.inl ⟨rfl, rfl, rfl⟩)) _, lxM_0⟩
      have ik : den 174 [vR 12 0 0, vI 11] τ = some (some (vI (if j = 11 then 1 else 0)), τ) := m_isKey1 (k := 11) k2 kb (by decide) (by omega)
      have iw : ∀ j', gI σ 9 0 6 = nI j' → j' < 100 → den 93 [vR 9 0 0, vI 11] σ = some (some (vI (if j' = 11 then 1 else 0)), σ) := fun j' h hj' => e_isWord1 (k := 11) k1 h (by decide) hj'
      rw [if_neg n1, if_pos k1, ik, bnd_s, tl_s, bX12_leafRead_31]
      by_cases h12 : 12 ≤ j
      · have e6 : gI σ 9 0 6 = nI j := by rw [ka, w1 h12]
        have e6' : gI (sI σ 2 H 4 (nI (cnt + 1))) 9 0 6 = nI j := e6
        have nm : den 197 [vR 12 0 0] τ = some (some (vI (nI (j - 12))), τ) := by
          rw [dX12_nameMet, bX12_nameMet_0, if_pos k2, kb, if_neg (show ¬ nI j < 12 from nI_nlt (b := 12) (by omega) (by omega)), show nI j - 12 = nI (j - 12) from pk_sub (b := 12) h12]
        have nz : ¬ nI (j - 12) < 0 := nI_nlt (b := 0) (by omega) (by omega)
        have nv : (10000 : Int32) + nI j - 12 = nI (10000 + (j - 12)) := by
          have t1 : (10000 : Int32) + nI j = nI (10000 + j) := nI_add 10000 j
          have t2 : nI (10000 + j) - 12 = nI (10000 + j - 12) := pk_sub (b := 12) (by omega)
          rw [t1, t2, show 10000 + j - 12 = 10000 + (j - 12) by omega]
        rw [e6, if_neg (show ¬ nI j < 12 from nI_nlt (b := 12) (by omega) (by omega)), e_count hB.2.2.1 h4 p5, bnd_s, tl_s, bX6_readValue_36, e6', nv, if_neg (show ¬ j = 11 by omega), if_pos rfl, nm, bnd_s, tl_s, bX12_leafRead_49, if_neg nz, if_neg nz, m_count h4' p5]
        by_cases e : cnt = 64
        · rw [if_pos e, if_pos rfl, e_failed, bnd_s, tl_s, bX6_readValue_40, if_pos e, bnd_s, tl_s, bX12_leafRead_72, if_pos rfl]
          exact rnd_f x1 K1 2
        · have e5 : gI (sI σ 2 H 4 (nI (cnt + 1))) 3 o 1 = nI i := h5
          have e17 : gI (sI τ 12 0 38 (nI (cnt + 1))) 12 0 17 = nI (f + i) := h6
          have e36 : gI (sI τ 12 0 38 (nI (cnt + 1))) 12 0 36 = nI st.length := h7
          rw [if_neg e, if_neg i10, e_lawadd (by omega) e5, bnd_s, tl_n, bX6_readValue_50, if_neg e, bnd_s, tl_s, bX12_leafRead_72, if_neg i10, if_neg nz, if_neg nz, m_grown (kr := f + i) (s := st.length) (by omega) (by omega) e17 e36, bnd_s, tl_n, bX12_leafRead_89]
          refine Or.inr ⟨2, i + 1, B, cnt + 1, ws, (f + i) :: st, lfC σ H o i cnt (nI (10000 + (j - 12))), lfM τ cnt (f + i) st.length 1 (nI (j - 12)), by omega, rfl, ?_, EX_leaf hE (by omega) ?_, Or.inr (Or.inr ⟨rfl, rfl⟩), ?_, lf_x (by omega) _ _ _, TKS_s hK rfl rfl rfl rfl rfl rfl rfl rfl, hpq⟩
          · intro τ'' h
            rw [h, bnd_s, tl_n, bX12_leafRead_94]
          · exact Or.inr (Or.inl ⟨j - 12, by omega, pk_us, pk_us, pk_us, rfl⟩)
          · rw [List.length_cons, if_pos rfl]
            omega
      · have nm : den 197 [vR 12 0 0] τ = some (some (vI (-1)), τ) := by
          rw [dX12_nameMet, bX12_nameMet_0, if_pos k2, kb, if_pos (show nI j < 12 from nI_lt (b := 12) (by omega) (by decide))]
        rw [if_pos (show gI σ 9 0 6 < 12 by rw [ka]; exact nI_lt (b := 12) (w3 (by omega)) (by decide))]
        by_cases h11 : j = 11
        · by_cases hm0 : m = 0
          · -- not
            have z40 : gI τ 12 0 40 = 1 := by
              rcases hM with ⟨_, _, h⟩ | ⟨h, _⟩ | ⟨h, _⟩
              · exact h
              · omega
              · omega
            have e6 : gI σ 9 0 6 = nI 11 := by rw [ka, w2 h11]
            rw [if_neg (show ¬ (if m = 0 then (1 : Int32) else 0) = 0 by rw [if_pos hm0]; decide), iw 11 e6 (by decide), bnd_s, tl_s, bX6_readValue_58, if_pos (rfl : 11 = 11), if_neg i10, e_count hB.2.2.1 h4 p5, bnd_s, tl_s, bX6_readValue_61, if_pos h11, if_neg i10, if_neg (show ¬ gI τ 12 0 40 = 0 by rw [z40]; decide), m_count h4' p5]
            by_cases e : cnt = 64
            · rw [if_pos e, if_pos rfl, e_failed, bnd_s, tl_s, bX6_readValue_65, if_pos e, bnd_s, tl_s, bX12_leafRead_37, if_pos rfl]
              exact rnd_f x1 K1 2
            · have e1 : gI (sI σ 2 H 4 (nI (cnt + 1))) 6 0 2 = nI ws.length := h1
              have e2 : gI (sI τ 12 0 38 (nI (cnt + 1))) 12 0 35 = nI ws.length := h2
              rw [if_neg e, if_neg i10, e_defer (by omega) e1, bnd_s, tl_n, bX6_readValue_69, if_neg e, bnd_s, tl_s, bX12_leafRead_37, if_neg i10, m_waits (by omega) e2, bnd_s, tl_n, bX12_leafRead_43]
              refine Or.inr ⟨0, i, B, cnt + 1, 2 :: ws, st, dfC σ H cnt ws.length 2, dfM τ cnt ws.length 2, by omega, rfl, ?_, EX_def hE (by omega) (k := 2) (by decide), Or.inl ⟨rfl, z39, z40⟩, ?_, df_x ws.length _ _, TKS_s hK rfl rfl rfl rfl rfl rfl rfl rfl, hpq⟩
              · intro τ'' h
                rw [h, bnd_s, tl_n, bX12_leafRead_45]
              · rw [bc, if_neg (by omega), if_neg (by omega)]
                omega
          · have z40 : gI τ 12 0 40 = 0 := by
              rcases hM with ⟨h, _⟩ | ⟨_, _, h⟩ | ⟨h, _⟩
              · omega
              · exact h
              · omega
            rw [cl _ z01 (fun h => by rw [if_neg hm0] at h; exact absurd h (by decide)), if_pos h11, if_neg i10, if_pos z40, nm, bnd_s, tl_s, lft_0 _ m3 (by decide)]
            exact rnd_f LX_0 hK 1
        · have e6 : ¬ wsw j = 11 := by have := w4 (by omega); omega
          rw [cl _ z01 (fun _ => by have := iw (wsw j) ka (by have := w3 (by omega); omega); rw [if_neg e6] at this; exact this), if_neg h11, if_pos rfl, nm, bnd_s, tl_s, lft_0 _ m3 (by decide)]
          exact rnd_f LX_0 hK 1
    · rw [if_neg k1, if_neg k2, cl _ z01 (fun _ => e_isWord0 k2 _), m_isKey0 k4, bnd_s, tl_s, bX12_leafRead_31, if_pos rfl, m_nameMet0 k4, bnd_s, tl_s, lft_0 _ k3 (by decide)]
      exact rnd_f LX_0 hK 1
end VA2
