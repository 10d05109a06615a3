section LE3
variable {G n r p N : Nat} {g : Int32} {σ τ τ1 : ST}
def maB (A : Nat → Int32) (c d : Nat) : Bool := decide (¬ bit (A c) (nI (d / 6)) = 0) && decide (¬ bit (A d) (nI (c / 6)) = 0)
/-- Picks.matter -/
theorem e_matter {c d : Nat} (hc : c < 36) (hd : d < 36) : den 41 [vR 4 0 0, vI (nI c), vI (nI d)] σ = some (some (vI (bI (maB (gA σ 4 0 0) c d))), σ) := by
  have a1 := ob (i := c) (N := 36) (by omega) (by decide)
  have c1 : (nI c).toNatClampNeg = c := nI_clamp (by omega)
  have a2 := ob (i := d) (N := 36) (by omega) (by decide)
  have c2 : (nI d).toNatClampNeg = d := nI_clamp (by omega)
  rw [dX4_matter, bX4_matter_0, (cd6 hd).1]
  simp only [c1, a1, ↓reduceIte]
  rw [e_has, bnd_s, tl_s, bX4_matter_8, (cd6 hc).1]
  simp only [c2, a2, ↓reduceIte]
  rw [e_has, bnd_s, tl_s, bX4_matter_17]
  unfold maB
  by_cases h1 : bit (gA σ 4 0 0 c) (nI (d / 6)) = 0
  · rw [if_pos h1, bI_f (by rw [decide_eq_false (fun z => z h1)]; rfl)]
  · rw [if_neg h1]
    by_cases h2 : bit (gA σ 4 0 0 d) (nI (c / 6)) = 0
    · rw [if_pos h2, bI_f (by rw [decide_eq_false (p := ¬ bit (gA σ 4 0 0 d) (nI (c / 6)) = 0) (fun z => z h2), Bool.and_false])]
    · rw [if_neg h2, bI_t (by rw [decide_eq_true h1, decide_eq_true h2]; rfl)]
theorem tl_in (hp : p < r) (hN : N < 2 ^ 31) (hQ : RQ G n r σ τ) (h8 : den 208 [vR 12 0 0] τ = some (none, τ1)) {A : Nat → Int32} {c : Nat} (hc : c < 36) (hoc : okB n (gA σ 5 0 4) 0 c = true) : ∀ (m i : Nat), i + m = 36 → c < i → ∀ σ', KC σ p N g σ' → gA σ' 4 0 0 = A → ∃ σ'' y, KC σ p N g σ'' ∧ gA σ'' 4 0 0 = A ∧
    run kX4_seekTwoLeads 15 [some (vR 4 0 0), some (vR 0 1 0), some (vR 2 G 0), some (vR 5 0 0), some (vI (nI c)), some (vI (nI i))] [] σ' = (match fs1 (fun d => okB n (gA σ 5 0 4) 0 c && (okB n (gA σ 5 0 4) 0 d && (maB A c d && soS τ1 p N g (tnS (tnS (gA σ 5 0 4) c) d)))) m i with
      | some j => some (none, tkS σ'' (2, nI c, nI j))
      | none => run kX4_seekTwoLeads 2 [some (vR 4 0 0), some (vR 0 1 0), some (vR 2 G 0), some (vR 5 0 0), some (vI (nI (c + 1))), y] [] σ'')
  | 0, i, hm, hci, σ', hK, hA => by
    have hi : i = 36 := by omega
    subst hi
    exact ⟨σ', some (vI (nI 36)), hK, hA, by rw [bX4_seekTwoLeads_15, if_neg (show ¬ nI 36 < 36 by decide), nI_S]; rfl⟩
  | m + 1, i, hm, hci, σ', hK, hA => by
    have hn6 := hQ.1.1.n6
    have hlt : nI i < 36 := nI_lt (b := 36) (by omega) (by decide)
    have hQ1 := RQ_sc hQ hK.1 (scM_0 (τ := τ))
    have ep : gA σ' 5 0 = gA σ 5 0 := (hK.1.2.1 0 (by decide)).2.2.2.2
    rw [bX4_seekTwoLeads_15, if_pos hlt, e_missing (s := gA σ 5 0 4) hn6 hQ1.1.1.2.2.1.1 (fun j _ => by rw [ep]) (by omega), bnd_s, tl_s, bX4_seekTwoLeads_22, nI_S]
    simp only [fs1]
    by_cases ho : okB n (gA σ 5 0 4) 0 i = true
    · rw [bI_t ho, if_neg i10, e_matter hc (by omega), hA, bnd_s, tl_s, bX4_seekTwoLeads_27, nI_S]
      by_cases hm' : maB A c i = true
      · obtain ⟨σ1, σ2, σ3, q1, q2, q3, q4, q5⟩ := run2 hp hN hQ h8 hK hci (by omega) hoc ho
        rw [bI_t hm', if_neg i10, e_begin, bnd_s, tl_n, bX4_seekTwoLeads_32, q1, bnd_s, tl_n, bX4_seekTwoLeads_35, q2, bnd_s, tl_n, bX4_seekTwoLeads_38, q3, bnd_s, tl_s, bX4_seekTwoLeads_41, nI_S]
        by_cases hs : soS τ1 p N g (tnS (tnS (gA σ 5 0 4) c) i) = true
        · have hc' : (okB n (gA σ 5 0 4) 0 c && (okB n (gA σ 5 0 4) 0 i && (maB A c i && soS τ1 p N g (tnS (tnS (gA σ 5 0 4) c) i)))) = true := by rw [hoc, ho, hm', hs]; rfl
          rw [bI_t hs, if_neg i10, if_pos hc', e_take, bnd_s, tl_n, bX4_seekTwoLeads_47]
          exact ⟨σ3, none, q4, q5.trans hA, rfl⟩
        · have hc' : ¬ (okB n (gA σ 5 0 4) 0 c && (okB n (gA σ 5 0 4) 0 i && (maB A c i && soS τ1 p N g (tnS (tnS (gA σ 5 0 4) c) i)))) = true := by rw [hoc, ho, hm', Bool.true_and, Bool.true_and, Bool.true_and]; exact hs
          rw [bI_f (Bool.eq_false_iff.mpr hs), if_pos rfl, if_neg hc']
          exact tl_in hp hN hQ h8 hc hoc m (i + 1) (by omega) (by omega) σ3 q4 (q5.trans hA)
      · have hm2 : maB A c i = false := Bool.eq_false_iff.mpr hm'
        have hc' : ¬ (okB n (gA σ 5 0 4) 0 c && (okB n (gA σ 5 0 4) 0 i && (maB A c i && soS τ1 p N g (tnS (tnS (gA σ 5 0 4) c) i)))) = true := by rw [hm2, Bool.false_and, Bool.and_false, Bool.and_false]; exact ffT
        rw [bI_f hm2, if_pos rfl, if_neg hc']
        exact tl_in hp hN hQ h8 hc hoc m (i + 1) (by omega) (by omega) σ' hK hA
    · have ho' : okB n (gA σ 5 0 4) 0 i = false := Bool.eq_false_iff.mpr ho
      have hc' : ¬ (okB n (gA σ 5 0 4) 0 c && (okB n (gA σ 5 0 4) 0 i && (maB A c i && soS τ1 p N g (tnS (tnS (gA σ 5 0 4) c) i)))) = true := by rw [ho', Bool.false_and, Bool.and_false]; exact ffT
      rw [bI_f ho', if_pos rfl, if_neg hc']
      exact tl_in hp hN hQ h8 hc hoc m (i + 1) (by omega) (by omega) σ' hK hA
theorem fs1_ff : ∀ (m k : Nat), fs1 (fun _ => false) m k = none
  | 0, _ => rfl
  | m + 1, k => by
    simp only [fs1]
    rw [if_neg ffT]
    exact fs1_ff m (k + 1)
theorem tl_out (hp : p < r) (hN : N < 2 ^ 31) (hQ : RQ G n r σ τ) (h8 : den 208 [vR 12 0 0] τ = some (none, τ1)) {A : Nat → Int32} : ∀ (m i : Nat), i + m = 36 → ∀ σ' (y : Option AV), KC σ p N g σ' → gA σ' 4 0 0 = A → ∃ σ'', KC σ p N g σ'' ∧
    run kX4_seekTwoLeads 2 [some (vR 4 0 0), some (vR 0 1 0), some (vR 2 G 0), some (vR 5 0 0), some (vI (nI i)), y] [] σ' = (match fs2 (fun c d => okB n (gA σ 5 0 4) 0 c && (okB n (gA σ 5 0 4) 0 d && (maB A c d && soS τ1 p N g (tnS (tnS (gA σ 5 0 4) c) d)))) m i with
      | some j => some (none, tkS σ'' (2, nI j.1, nI j.2))
      | none => some (none, σ''))
  | 0, i, hm, σ', y, hK, hA => by
    have hi : i = 36 := by omega
    subst hi
    exact ⟨σ', hK, by rw [bX4_seekTwoLeads_2, if_neg (show ¬ nI 36 < 36 by decide)]; rfl⟩
  | m + 1, i, hm, σ', y, hK, hA => by
    have hn6 := hQ.1.1.n6
    have hlt : nI i < 36 := nI_lt (b := 36) (by omega) (by decide)
    have hQ1 := RQ_sc hQ hK.1 (scM_0 (τ := τ))
    have ep : gA σ' 5 0 = gA σ 5 0 := (hK.1.2.1 0 (by decide)).2.2.2.2
    rw [bX4_seekTwoLeads_2, if_pos hlt, e_missing (s := gA σ 5 0 4) hn6 hQ1.1.1.2.2.1.1 (fun j _ => by rw [ep]) (by omega), bnd_s, tl_s, bX4_seekTwoLeads_9, nI_S]
    simp only [fs2]
    by_cases ho : okB n (gA σ 5 0 4) 0 i = true
    · obtain ⟨σ'', y', q1, q2, q3⟩ := tl_in (A := A) hp hN hQ h8 (c := i) (by omega) ho m (i + 1) (by omega) (by omega) σ' hK hA
      rw [bI_t ho, if_neg i10, q3]
      cases hf : fs1 (fun d => okB n (gA σ 5 0 4) 0 i && (okB n (gA σ 5 0 4) 0 d && (maB A i d && soS τ1 p N g (tnS (tnS (gA σ 5 0 4) i) d)))) m (i + 1) with
      | some j => exact ⟨σ'', q1, rfl⟩
      | none => exact tl_out hp hN hQ h8 m (i + 1) (by omega) σ'' y' q1 q2
    · have ho' : okB n (gA σ 5 0 4) 0 i = false := Bool.eq_false_iff.mpr ho
      have e1 : (fun d => okB n (gA σ 5 0 4) 0 i && (okB n (gA σ 5 0 4) 0 d && (maB A i d && soS τ1 p N g (tnS (tnS (gA σ 5 0 4) i) d)))) = fun _ => false := by
        funext d
        rw [ho', Bool.false_and]
      rw [bI_f ho', if_pos rfl, e1, fs1_ff]
      exact tl_out hp hN hQ h8 m (i + 1) (by omega) σ' y hK hA
/-- what isn't tried would go as without it -/
theorem lead_same {s A : Nat → Int32} {h0 : Nat} (hP0 : PRs τ1 n p N g s h0) (hA : AP τ1 n p N g s 36 A ∨ fs1 (fun c => okB n s 0 c && soS τ1 p N g (tnS s c)) 36 0 ≠ none ∨ soS τ1 p N g s = true) :
    pkP (soS τ1 p N g s) (fun c => okB n s 0 c && (hbB h0 c && soS τ1 p N g (tnS s c))) (fun c d => okB n s 0 c && (okB n s 0 d && (maB A c d && soS τ1 p N g (tnS (tnS s c) d)))) =
    pkP (soS τ1 p N g s) (fun c => okB n s 0 c && soS τ1 p N g (tnS s c)) (fun c d => okB n s 0 c && (okB n s 0 d && soS τ1 p N g (tnS (tnS s c) d))) ∧
    (soS τ1 p N g s = false → fs1 (fun c => okB n s 0 c && (hbB h0 c && soS τ1 p N g (tnS s c))) 36 0 = fs1 (fun c => okB n s 0 c && soS τ1 p N g (tnS s c)) 36 0) := by
  cases hs : soS τ1 p N g s with
  | true => exact ⟨by rw [pkP_0, pkP_0], fun z => by cases z⟩
  | false =>
    have p1 : ∀ c, c < 36 → (okB n s 0 c && (hbB h0 c && soS τ1 p N g (tnS s c))) = (okB n s 0 c && soS τ1 p N g (tnS s c)) := by
      intro c hc
      cases hb : hbB h0 c with
      | true => rw [Bool.true_and]
      | false =>
        have hb' : bit (nI h0) (nI (c / 6)) = 0 := Classical.byContradiction (fun z => by
          have : hbB h0 c = true := decide_eq_true z
          rw [this] at hb
          cases hb)
        rw [(PRs_off hP0 hb').2, hs, Bool.false_and]
    have q1 := fs1_c (N := 36) p1 36 0 (by decide)
    refine ⟨?_, fun _ => q1⟩
    cases hf : fs1 (fun c => okB n s 0 c && soS τ1 p N g (tnS s c)) 36 0 with
    | some j => rw [pkP_1 (q1.trans hf), pkP_1 hf]
    | none =>
      have hno := fs1_none (N := 36) 36 0 (by decide) hf
      have hA' : AP τ1 n p N g s 36 A := by
        rcases hA with h | h | h
        · exact h
        · exact absurd hf h
        · rw [hs] at h
          cases h
      have p2 : ∀ c d, c < d → d < 36 → (okB n s 0 c && (okB n s 0 d && (maB A c d && soS τ1 p N g (tnS (tnS s c) d)))) = (okB n s 0 c && (okB n s 0 d && soS τ1 p N g (tnS (tnS s c) d))) := by
        intro c d hcd hd
        cases hoc : okB n s 0 c with
        | false => rw [Bool.false_and, Bool.false_and]
        | true =>
          cases hod : okB n s 0 d with
          | false => rw [Bool.false_and, Bool.false_and]
          | true =>
            cases hm : maB A c d with
            | true => rw [Bool.true_and]
            | false =>
              have nc : soS τ1 p N g (tnS s c) = false := by
                have h1 : (okB n s 0 c && soS τ1 p N g (tnS s c)) = false := hno c (Nat.zero_le _) (by omega)
                rw [hoc, Bool.true_and] at h1
                exact h1
              have nd : soS τ1 p N g (tnS s d) = false := by
                have h1 : (okB n s 0 d && soS τ1 p N g (tnS s d)) = false := hno d (Nat.zero_le _) (by omega)
                rw [hod, Bool.true_and] at h1
                exact h1
              have key : soS τ1 p N g (tnS (tnS s c) d) = false := by
                obtain ⟨h1, _, e1, P1⟩ := hA' c (by omega)
                obtain ⟨h2, _, e2, P2⟩ := hA' d hd
                by_cases b1 : bit (A c) (nI (d / 6)) = 0
                · rw [e1] at b1
                  rw [(PRs_off (P1 hoc) b1).2]
                  exact nc
                · by_cases b2 : bit (A d) (nI (c / 6)) = 0
                  · rw [e2] at b2
                    rw [P2 hod (tnS (tnS s c) d) (fun j hj hbj => by
                      have hne : ¬ j = c / 6 := fun z => hbj (by rw [z]; exact b2)
                      unfold tnS
                      rw [show tnX c j = 0 from if_neg hne, Int32.xor_zero])]
                    exact nd
                  · have : maB A c d = true := by
                      unfold maB
                      rw [decide_eq_true b1, decide_eq_true b2]
                      rfl
                    rw [this] at hm
                    cases hm
              rw [key, Bool.and_false]
      have q2 := fs2_c (N := 36) p2 36 0 (by decide)
      cases hg : fs2 (fun c d => okB n s 0 c && (okB n s 0 d && soS τ1 p N g (tnS (tnS s c) d))) 36 0 with
      | some j => rw [pkP_2 (q1.trans hf) (q2.trans hg), pkP_2 hf hg]
      | none => rw [pkP_3 (q1.trans hf) (q2.trans hg), pkP_3 hf hg]
/-- isSoBy, of years -/
theorem m_sl8 (hp : p < r) (hN : N < 2 ^ 31) (hN0 : 0 < N) (hY : YR SN G n r σ 1 τ 1) (hF : RF τ) (h4 : gI σ 4 0 4 = nI p) (h5 : gI σ 4 0 5 = g) (h6 : gI σ 4 0 6 = nI N) {τt : ST} (hY1 : YR SN G n r σ 1 τt 1) (hFt : RF τt) {s : Nat → Int32} (hs : ∀ j, j < n → gA τt 12 0 46 (6 + j) = s j) (y2 y3 : Option AV) : ∃ τ',
    run kX12_isSoBy 8 [some (vR 12 0 0), some (vI (nI p)), y2, y3, some (vI g), some (vI (nI N))] [] τt = some (some (vI (bI (soS τ p N g s))), τ') ∧ scM τt τ' ∧ ∀ k, 62 < k → gI τ' 12 0 k = gI τt 12 0 k := by
  have hr2 := hY.1.1.1.r2
  obtain ⟨τ', q1, q2, q3⟩ := so_any hp hN hY hF h4 h5 h6 s hY1 (fun j hj => (sEff_RF hFt).trans (hs j hj))
  have a2 := ob (i := 2 + p) (N := 4) (by omega) (by decide)
  have c2 : (nI (2 + p)).toNatClampNeg = 2 + p := nI_clamp (by omega)
  refine ⟨τ', ?_, scM_fr q2 hFt.1, fun k hk => q2.1 k (by omega)⟩
  rw [bX12_isSoBy_8, if_neg (nI_ne0 hN0 hN), q1, bnd_s, tl_n, bX12_isSoBy_23, q3, i2a]
  simp only [c2, a2, ↓reduceIte]
  by_cases e : gA τ' 12 0 47 (2 + p) = g
  · rw [if_pos e, bI_t (decide_eq_true e)]
  · rw [if_neg e, bI_f (decide_eq_false e)]
theorem q_lead (hQ : RQ G n r σ τ) (x y z w : Int32) : ans σ τ (den 126 [vR 11 0 0, vI x, vI y, vI z, vI w] σ) (den 247 [vR 12 0 0, vI x, vI y, vI z, vI w] τ) := by
  have hr2 := hQ.1.1.r2
  have hn6 := hQ.1.1.n6
  have hQ1 := RQ_sc hQ scC_0 (scM_th τ)
  have hmr : gI (th0 τ) 12 0 13 = nI r := hQ.1.1.mr
  have hm : gI (th0 τ) 12 0 12 = nI n := hQ.1.1.mn
  rw [dX11_lead, bX11_lead_0, e_isRibbon, hQ.1.1.cr, bnd_s, tl_s, bX11_lead_3, dX12_lead, bX12_lead_0, m_isRibbon, hmr, bnd_s, tl_s, bX12_lead_6]
  rcases isb_nI (g := x) (n := r) (by omega) with h | ⟨p, hp, rfl, h⟩
  · rw [h, if_pos rfl, if_pos rfl]
    exact ⟨-1, _, _, rfl, rfl, scC_0, scM_th τ⟩
  rw [h, if_neg i10, if_neg i10, e_isGrower, hQ.1.1.cn, m_isGrower, hm, bnd_s, bnd_s, tl_s, bX11_lead_7, bX12_lead_10]
  by_cases hg0 : isb y (nI n) = 0
  · rw [if_pos hg0, if_pos hg0]
    exact ⟨-1, _, _, rfl, rfl, scC_0, scM_th τ⟩
  rw [if_neg hg0, if_neg hg0, e_isWithin, m_isIn, bnd_s, bnd_s, tl_s, bX11_lead_12, bX12_lead_15]
  rcases inb_l (x := z) (a' := 1) (M' := 20) 1 20 rfl rfl (by decide) (by decide) with h | ⟨N, hN1, hN, rfl, h⟩
  · rw [h, if_pos rfl, if_pos rfl]
    exact ⟨-1, _, _, rfl, rfl, scC_0, scM_th τ⟩
  rw [h, if_neg i10, if_neg i10, e_isWithin, m_isIn, bnd_s, bnd_s, tl_s, bX11_lead_17, bX12_lead_20]
  rcases inb_l (x := w) (a' := 0) (M' := 2) 0 2 rfl rfl (by decide) (by decide) with h | ⟨k, _, hk, rfl, h⟩
  · rw [h, if_pos rfl, if_pos rfl]
    exact ⟨-1, _, _, rfl, rfl, scC_0, scM_th τ⟩
  rw [h, if_neg i10, if_neg i10]
  have hNb : N < 2 ^ 31 := by omega
  obtain ⟨τ1, h8, _, _, _, _, _⟩ := lay_F hQ1
  -- the class, aimed
  have ai : den 37 [vR 4 0 0, vI (nI p), vI y, vI (nI N)] σ = some (none, sI (sI (sI σ 4 0 4 (nI p)) 4 0 5 y) 4 0 6 (nI N)) := by
    rw [dX4_aim, bX4_aim_0]
  have hKa : KC σ p N y (tkS (sI (sI (sI σ 4 0 4 (nI p)) 4 0 5 y) 4 0 6 (nI N)) (-2, 0, 0)) :=
    ⟨scC_t (scC_I (Or.inl rfl) _) (scC_t (scC_I (Or.inl rfl) _) (scC_t (scC_I (Or.inl rfl) _) (scC_t (scC_I (Or.inl rfl) _) (scC_t (scC_I (Or.inl rfl) _) (scC_I (Or.inl rfl) _))))), rfl, rfl, rfl, rfl, rfl, rfl⟩
  have hg : gR (sI (sI (sI σ 4 0 4 (nI p)) 4 0 5 y) 4 0 6 (nI N)) 11 0 2 = G := hQ.1.1.g
  have tkf : ∀ (σ' : ST) (q : Int32 × Int32 × Int32), scC σ' (tkS σ' q) := fun σ' q => scC_t (scC_I (Or.inl rfl) _) (scC_t (scC_I (Or.inl rfl) _) (scC_I (Or.inl rfl) _))
  obtain ⟨σ2, h0, k1, k2, k3, k4, k5, k6⟩ := run0 hp hNb hQ1 h8 hKa
  -- what the class has in the end
  have hcls : ∃ σ3, (bnd (den 38 [vR 4 0 0, vR 0 1 0, vR 2 G 0, vR 5 0 0] (sI (sI (sI σ 4 0 4 (nI p)) 4 0 5 y) 4 0 6 (nI N))) fun v τ => run kX11_lead 36 [some (vR 11 0 0), some (vI (nI p)), some (vI y), some (vI (nI N)), some (vI (nI k))] (v.toList ++ []) τ) = run kX11_lead 50 [some (vR 11 0 0), some (vI (nI p)), some (vI y), some (vI (nI N)), some (vI (nI k))] [] σ3 ∧ scC σ σ3 ∧
      (let q := pkP (soS τ1 p N y (gA σ 5 0 4)) (fun c => okB n (gA σ 5 0 4) 0 c && soS τ1 p N y (tnS (gA σ 5 0 4) c)) (fun c d => okB n (gA σ 5 0 4) 0 c && (okB n (gA σ 5 0 4) 0 d && soS τ1 p N y (tnS (tnS (gA σ 5 0 4) c) d)));
      gI σ3 4 0 1 = q.1 ∧ gI σ3 4 0 2 = q.2.1 ∧ gI σ3 4 0 3 = q.2.2) := by
    have ef : ∀ (σ' : ST) (v : Int32), ¬ v < 0 → gI σ' 4 0 1 = v → (bnd (den 39 [vR 4 0 0] σ') fun v τ => run kX11_lead 39 [some (vR 11 0 0), some (vI (nI p)), some (vI y), some (vI (nI N)), some (vI (nI k))] (v.toList ++ []) τ) = run kX11_lead 50 [some (vR 11 0 0), some (vI (nI p)), some (vI y), some (vI (nI N)), some (vI (nI k))] [] σ' := by
      intro σ' v hv e1
      rw [dX4_areFound, bX4_areFound_0, e1, if_neg hv, bnd_s, tl_s, bX11_lead_39, if_neg i10]
    rw [dX4_seekLead, bX4_seekLead_0, e_take, bnd_s, tl_n, bX4_seekLead_5, e_begin, bnd_s, tl_n, bX4_seekLead_9, k2, bnd_s, tl_s, bX4_seekLead_12]
    by_cases hs : soS τ1 p N y (gA σ 5 0 4) = true
    · rw [bI_t hs, if_neg i10, e_take, bnd_s, tl_n, bX4_seekLead_18, bnd_s, tl_n, bX11_lead_36, ef _ 0 (by decide) rfl, hs, pkP_0]
      exact ⟨_, rfl, scC_t k4.1 (tkf _ _), rfl, rfl, rfl⟩
    · have hs' : soS τ1 p N y (gA σ 5 0 4) = false := Bool.eq_false_iff.mpr hs
      obtain ⟨σ4, l1, l2, l3⟩ := sl_loop hp hNb hQ1 h8 k1 k6 36 0 (by decide) σ2 k4 (fun c hc => absurd hc (Nat.not_lt_zero c))
      rw [nI_0] at l2
      rw [bI_f hs', if_pos rfl, k3, l2]
      have hfs := (lead_same (A := gA σ4 4 0 0) k6 (by
        cases hf : fs1 (fun c => okB n (gA σ 5 0 4) 0 c && (hbB h0 c && soS τ1 p N y (tnS (gA σ 5 0 4) c))) 36 0 with
        | none => exact Or.inl (l3 hf)
        | some j =>
          refine Or.inr (Or.inl (fun z => ?_))
          have hz := fs1_none (N := 36) 36 0 (by decide) z
          have hj := fs1_lt (N := 36) 36 0 (by decide) j hf
          have : ∀ c, c < 36 → (okB n (gA σ 5 0 4) 0 c && (hbB h0 c && soS τ1 p N y (tnS (gA σ 5 0 4) c))) = false := fun c hc => by
            have h1 : (okB n (gA σ 5 0 4) 0 c && soS τ1 p N y (tnS (gA σ 5 0 4) c)) = false := hz c (Nat.zero_le _) hc
            cases ho : okB n (gA σ 5 0 4) 0 c with
            | false => rw [Bool.false_and]
            | true =>
              rw [ho, Bool.true_and] at h1
              rw [h1, Bool.and_false, Bool.and_false]
          have e2 := fs1_c (N := 36) (P := fun c => okB n (gA σ 5 0 4) 0 c && (hbB h0 c && soS τ1 p N y (tnS (gA σ 5 0 4) c))) (Q := fun _ => false) this 36 0 (by decide)
          rw [hf, fs1_ff] at e2
          cases e2))
      rw [← hfs.1]
      cases hf : fs1 (fun c => okB n (gA σ 5 0 4) 0 c && (hbB h0 c && soS τ1 p N y (tnS (gA σ 5 0 4) c))) 36 0 with
      | some j =>
        rw [hs', pkP_1 hf]
        show ∃ σ3, (bnd (some (none, tkS σ4 (1, nI j, 0))) _) = _ ∧ _
        rw [bnd_s, tl_n, bX11_lead_36, ef _ 1 (by decide) rfl]
        exact ⟨_, rfl, scC_t l1.1 (tkf _ _), rfl, rfl, rfl⟩
      | none =>
        have hA := l3 hf
        obtain ⟨σ5, m1, m2⟩ := tl_out (A := gA σ4 4 0 0) hp hNb hQ1 h8 36 0 (by decide) σ4 none l1 rfl
        rw [nI_0] at m2
        have hg4 : gR σ4 11 0 2 = G := (RQ_sc hQ l1.1 (scM_0 (τ := τ))).1.1.g
        show ∃ σ3, (bnd (some (none, σ4)) _) = _ ∧ _
        rw [bnd_s, tl_n, bX11_lead_36, dX4_areFound, bX4_areFound_0, l1.2.2.2.2.1, if_pos (by decide), bnd_s, tl_s, bX11_lead_39, if_pos rfl, hg4, dX4_seekTwoLeads, bX4_seekTwoLeads_0, m2]
        cases hf2 : fs2 (fun c d => okB n (gA σ 5 0 4) 0 c && (okB n (gA σ 5 0 4) 0 d && (maB (gA σ4 4 0 0) c d && soS τ1 p N y (tnS (tnS (gA σ 5 0 4) c) d)))) 36 0 with
        | some j =>
          rw [hs', pkP_2 hf hf2]
          show ∃ σ3, (bnd (some (none, tkS σ5 (2, nI j.1, nI j.2))) _) = _ ∧ _
          rw [bnd_s, tl_n]
          exact ⟨_, rfl, scC_t m1.1 (tkf _ _), rfl, rfl, rfl⟩
        | none =>
          rw [hs', pkP_3 hf hf2]
          show ∃ σ3, (bnd (some (none, σ5)) _) = _ ∧ _
          rw [bnd_s, tl_n]
          exact ⟨_, rfl, m1.1, m1.2.2.2.2.1, m1.2.2.2.2.2.1, m1.2.2.2.2.2.2⟩
  obtain ⟨σ3, g1, g2, g3⟩ := hcls
  -- the reference
  obtain ⟨b1, b2, _, _⟩ := begin_YR (RQ_sc hQ1 hKa.1 scM_0) h8
  have hs : ∀ τ', scM (th0 τ) τ' → ∀ i, i < n → gA τ' 12 0 46 i = gA σ 5 0 4 i := fun τ' h i hi => ((RQ_sc hQ1 scC_0 h).2.1.s hn6 i hi).symm
  obtain ⟨τ2, j1, j2⟩ := m_changes (τ := th0 τ) (x1 := nI p) (x2 := y) (x3 := nI N) (fl := 0) (P0 := soS τ1 p N y (gA σ 5 0 4)) (ok := okB n (gA σ 5 0 4) 0) (so1 := fun c => soS τ1 p N y (tnS (gA σ 5 0 4) c)) (so2 := fun c d => soS τ1 p N y (tnS (tnS (gA σ 5 0 4) c) d))
    (K := fun τ' => scM (th0 τ) τ' ∧ gI τ' 12 0 63 = 0 ∧ gI τ' 12 0 64 = -1 ∧ gI τ' 12 0 65 = -1) (if_neg (nI_ne0 (by omega) hNb)).symm (fun τ' h => h.2)
    (by
      have s0 : scM (th0 τ) (sI (sI (sI (th0 τ) 12 0 63 0) 12 0 64 (-1)) 12 0 65 (-1)) := scM_t (scM_I (by omega) _) (scM_t (scM_I (by omega) _) (scM_I (by omega) _))
      obtain ⟨τl, f1, f2, _, _, f5, f6⟩ := lay_F (RQ_sc hQ1 scC_0 s0)
      obtain ⟨u1, u2, _, _, u5⟩ := begin_YR (RQ_sc (RQ_sc hQ1 scC_0 s0) hKa.1 scM_0) f1
      obtain ⟨τ', q1, q2, q3⟩ := m_sl8 (s := gA σ 5 0 4) hp hNb (by omega) b1 b2 hKa.2.1 hKa.2.2.1 hKa.2.2.2.1 u1 u2 (fun j hj => (f5 j (by omega)).trans (hs _ s0 j hj)) (some (vI (-1))) (some (vI (-1)))
      refine ⟨τ', ?_, scM_t s0 (scM_t f2 q2), (q3 63 (by decide)).trans (f6 63 (by decide)), (q3 64 (by decide)).trans (f6 64 (by decide)), (q3 65 (by decide)).trans (f6 65 (by decide))⟩
      rw [dX12_isSoBy, bX12_isSoBy_0, f1, bnd_s, tl_n, bX12_isSoBy_2, m_turn0, bnd_s, tl_n, bX12_isSoBy_5, m_turn0, bnd_s, tl_n, q1])
    (fun c hc τ' hK => m_mayTurn hn6 (RQ_sc hQ1 scC_0 hK.1).1.1.mn (hs _ hK.1) 0 hc)
    (fun c hc _ τ' hK => by
      obtain ⟨τl, f1, f2, _, _, f5, f6⟩ := lay_F (RQ_sc hQ1 scC_0 hK.1)
      obtain ⟨u1, u2, _, _, u5⟩ := begin_YR (RQ_sc (RQ_sc hQ1 scC_0 hK.1) hKa.1 scM_0) f1
      obtain ⟨τ'', q1, q2, q3⟩ := m_sl8 (τt := tnM τl c) (s := tnS (gA σ 5 0 4) c) hp hNb (by omega) b1 b2 hKa.2.1 hKa.2.2.1 hKa.2.2.2.1 (YR_ms u1 _) u2 (fun i hi => by
        rw [tnM_g]
        show gA τl 12 0 46 (6 + i) ^^^ tnX c i = gA σ 5 0 4 i ^^^ tnX c i
        rw [f5 i (by omega), hs _ hK.1 i hi]) (some (vI (nI c))) (some (vI (-1)))
      refine ⟨τ'', ?_, scM_t hK.1 (scM_t f2 (scM_t (tnM_sc c) q2)), ((q3 63 (by decide)).trans (f6 63 (by decide))).trans hK.2.1, ((q3 64 (by decide)).trans (f6 64 (by decide))).trans hK.2.2.1, ((q3 65 (by decide)).trans (f6 65 (by decide))).trans hK.2.2.2⟩
      rw [dX12_isSoBy, bX12_isSoBy_0, f1, bnd_s, tl_n, bX12_isSoBy_2, m_turn hc, bnd_s, tl_n, bX12_isSoBy_5, m_turn0, bnd_s, tl_n, q1])
    (fun c d hcd hd _ _ τ' hK => by
      obtain ⟨τl, f1, f2, _, _, f5, f6⟩ := lay_F (RQ_sc hQ1 scC_0 hK.1)
      obtain ⟨u1, u2, _, _, u5⟩ := begin_YR (RQ_sc (RQ_sc hQ1 scC_0 hK.1) hKa.1 scM_0) f1
      obtain ⟨τ'', q1, q2, q3⟩ := m_sl8 (τt := tnM (tnM τl c) d) (s := tnS (tnS (gA σ 5 0 4) c) d) hp hNb (by omega) b1 b2 hKa.2.1 hKa.2.2.1 hKa.2.2.2.1 (YR_ms (YR_ms u1 _) _) u2 (fun i hi => by
        rw [tnM_g]
        show gA (tnM τl c) 12 0 46 (6 + i) ^^^ tnX d i = (gA σ 5 0 4 i ^^^ tnX c i) ^^^ tnX d i
        rw [tnM_g]
        show (gA τl 12 0 46 (6 + i) ^^^ tnX c i) ^^^ tnX d i = (gA σ 5 0 4 i ^^^ tnX c i) ^^^ tnX d i
        rw [f5 i (by omega), hs _ hK.1 i hi]) (some (vI (nI c))) (some (vI (nI d)))
      refine ⟨τ'', ?_, scM_t hK.1 (scM_t f2 (scM_t (tnM_sc c) (scM_t (tnM_sc d) q2))), ((q3 63 (by decide)).trans (f6 63 (by decide))).trans hK.2.1, ((q3 64 (by decide)).trans (f6 64 (by decide))).trans hK.2.2.1, ((q3 65 (by decide)).trans (f6 65 (by decide))).trans hK.2.2.2⟩
      rw [dX12_isSoBy, bX12_isSoBy_0, f1, bnd_s, tl_n, bX12_isSoBy_2, m_turn (show c < 36 by omega), bnd_s, tl_n, bX12_isSoBy_5, m_turn hd, bnd_s, tl_n, q1])
  rw [ai, bnd_s, tl_n, bX11_lead_26, hg, g1, bX11_lead_50, j2, bnd_s, tl_s, bX12_lead_28]
  generalize hR : srP (soS τ1 p N y (gA σ 5 0 4)) (fun c => okB n (gA σ 5 0 4) 0 c && soS τ1 p N y (tnS (gA σ 5 0 4) c)) (fun c d => okB n (gA σ 5 0 4) 0 c && (okB n (gA σ 5 0 4) 0 d && soS τ1 p N y (tnS (tnS (gA σ 5 0 4) c) d))) = R
  have m1 : scM τ (sI (sI (sI τ2 12 0 63 R.2.1) 12 0 64 R.2.2.1) 12 0 65 R.2.2.2) := scM_t (scM_th τ) (scM_t j1.1 (scM_t (scM_I (by omega) _) (scM_t (scM_I (by omega) _) (scM_I (by omega) _))))
  obtain ⟨v, t1, t2⟩ := told_same (σ := σ3) (τ := sI (sI (sI τ2 12 0 63 R.2.1) 12 0 64 R.2.2.1) 12 0 65 R.2.2.2) hk g3.1 g3.2.1 g3.2.2 (by rw [hR]; rfl) (by rw [hR]; rfl) (by rw [hR]; rfl)
  rw [hR] at t2
  rw [t1, bnd_s, tl_s, bX11_lead_54]
  by_cases h0' : R.1 = 0
  · rw [if_pos h0'] at t2
    rw [if_pos h0', t2]
    exact ⟨-2, _, _, rfl, rfl, g2, m1⟩
  · rw [if_neg h0'] at t2
    rw [if_neg h0', t2, bnd_s, tl_s, bX12_lead_32]
    exact ⟨v, _, _, rfl, rfl, g2, m1⟩
end LE3
