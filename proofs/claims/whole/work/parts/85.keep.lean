/-! READING A TEXT: the reference keeps it -/
section KEE
variable {τ : ST}
theorem kp_27 : ∀ (m i : Nat), i + m = 3 → ∀ (τ : ST), (∀ w, w < 3 → gA τ 12 0 27 (3 + w) = 0 ∨ gA τ 12 0 27 (3 + w) = 1) → ∃ A, run kX12_keepText 46 [some (vR 12 0 0), some (vI (nI i))] [] τ = run kX12_keepText 46 [some (vR 12 0 0), some (vI (nI 3))] [] (sA τ 12 0 27 A) ∧ (∀ j, (i ≤ j → j < 3 → A j = gA τ 12 0 27 (3 + j)) ∧ (j < i ∨ 3 ≤ j → A j = gA τ 12 0 27 j))
  | 0, i, hm, τ, hw => by
    have hi : i = 3 := by omega
    subst hi
    refine ⟨gA τ 12 0 27, ?_, fun j => ⟨fun h h' => by omega, fun _ => rfl⟩⟩
    rw [sA_id]
  | m + 1, i, hm, τ, hw => by
    have hlt : nI i < 3 := nI_lt (b := 3) (by omega) (by decide)
    have a1 := ob (i := i) (N := 6) (by omega) (by decide)
    have c1 : (nI i).toNatClampNeg = i := nI_clamp (by omega)
    have a2 := ob (i := 3 + i) (N := 6) (by omega) (by decide)
    have c2 : (nI (3 + i)).toNatClampNeg = 3 + i := nI_clamp (by omega)
    have n2 : (3 : Int32) + nI i = nI (3 + i) := nI_add 3 i
    have nar : vp_nar .boolean (gA τ 12 0 27 (3 + i)) = gA τ 12 0 27 (3 + i) := by
      rcases hw i (by omega) with e | e
      · rw [e]; rfl
      · rw [e]; rfl
    have g2 : gA (sA τ 12 0 27 (upd (gA τ 12 0 27) i (gA τ 12 0 27 (3 + i)))) 12 0 27 = upd (gA τ 12 0 27) i (gA τ 12 0 27 (3 + i)) := rfl
    obtain ⟨A, f1, f2⟩ := kp_27 m (i + 1) (by omega) (sA τ 12 0 27 (upd (gA τ 12 0 27) i (gA τ 12 0 27 (3 + i)))) (fun w h => by
      rw [g2, upd_o (by omega)]
      exact hw w h)
    rw [g2] at f2
    refine ⟨A, ?_, fun j => ⟨fun h h' => ?_, fun h => ?_⟩⟩
    · rw [bX12_keepText_46, if_pos hlt, n2]
      simp only [c1, a1, c2, a2, ↓reduceIte, nI_S]
      rw [nar, f1, sAA]
    · by_cases e : j = i
      · subst e
        have := (f2 j).2 (by omega)
        rw [pk_us] at this
        exact this
      · have := (f2 j).1 (by omega) h'
        rw [upd_o (by omega)] at this
        exact this
    · have := (f2 j).2 (by omega)
      rw [upd_o (show ¬ j = i by omega)] at this
      exact this
theorem m_keep {n r : Nat} (hn6 : n ≤ 6) (hr : r ≤ 2) (h16 : gI τ 12 0 16 = nI r) (hw : ∀ w, w < 3 → gA τ 12 0 27 (3 + w) = 0 ∨ gA τ 12 0 27 (3 + w) = 1) (h26 : ∀ q, q < r → ∃ x, x < n ∧ gA τ 12 0 26 (2 + q) = nI x) : ∃ τ', den 180 [vR 12 0 0] τ = some (none, τ') ∧
    (gI τ' 12 0 12 = gI τ 12 0 15 ∧ gI τ' 12 0 13 = gI τ 12 0 16 ∧ gI τ' 12 0 14 = gI τ 12 0 17) ∧ (∀ k j, 19 ≤ k → k < 33 → j < hfk k → gA τ' 12 0 k j = gA τ 12 0 k (hfk k + j)) ∧
    (∀ j, j < 6 → gA τ' 12 0 44 j = gA τ 12 0 21 (6 + j) ∧ gA τ' 12 0 45 j = hadP (fun p => gA τ 12 0 26 (2 + p)) r j ∧ gA τ' 12 0 46 j = gA τ 12 0 25 (6 + j)) ∧ (∀ j, j < 2 → gA τ' 12 0 47 j = gA τ 12 0 26 (2 + j) ∧ gA τ' 12 0 48 j = 0 ∧ gA τ' 12 0 49 j = 0) ∧ gA τ' 12 0 50 0 = 0 ∧
    gL τ' 12 0 51 = Int32.toInt64 (gA τ 12 0 19 3) ∧ RF τ' ∧ (gI τ' 12 0 67 = 0 ∧ gI τ' 12 0 68 = -1 ∧ gI τ' 12 0 72 = 0 ∧ gI τ' 12 0 74 = 0) ∧
    (∀ k, k < 12 → gI τ' 12 0 k = gI τ 12 0 k) ∧ (∀ k, k < 19 → gA τ' 12 0 k = gA τ 12 0 k) := by
  have k19 : kpT 19 (sI (sI (sI τ 12 0 12 (gI τ 12 0 15)) 12 0 13 (gI τ 12 0 16)) 12 0 14 (gI τ 12 0 17)) (sI (sI (sI τ 12 0 12 (gI τ 12 0 15)) 12 0 13 (gI τ 12 0 16)) 12 0 14 (gI τ 12 0 17)) := ⟨fun _ => rfl, fun _ => rfl, fun k j h1 h2 _ => absurd h1 (by omega), fun _ _ => rfl⟩
  generalize hτ0 : sI (sI (sI τ 12 0 12 (gI τ 12 0 15)) 12 0 13 (gI τ 12 0 16)) 12 0 14 (gI τ 12 0 17) = τ0 at k19
  have A0 : ∀ k, gA τ0 12 0 k = gA τ 12 0 k := fun k => by rw [← hτ0]; rfl
  obtain ⟨t1, e1, k20⟩ := kpT_s k19 (by decide) rfl (by decide)
  obtain ⟨t2, e2, k21⟩ := kpT_s k20 (by decide) rfl (by decide)
  obtain ⟨t3, e3, k22⟩ := kpT_s k21 (by decide) rfl (by decide)
  obtain ⟨t4, e4, k23⟩ := kpT_s k22 (by decide) rfl (by decide)
  obtain ⟨t5, e5, k24⟩ := kpT_s k23 (by decide) rfl (by decide)
  obtain ⟨t6, e6, k25⟩ := kpT_s k24 (by decide) rfl (by decide)
  obtain ⟨t7, e7, k26⟩ := kpT_s k25 (by decide) rfl (by decide)
  obtain ⟨t8, e8, k27⟩ := kpT_s k26 (by decide) rfl (by decide)
  have w27 : gA t8 12 0 27 = gA τ 12 0 27 := Eq.trans (k27.2.2.2 27 (by omega)) (A0 27)
  obtain ⟨A, f1, f2⟩ := kp_27 3 0 (by omega) t8 (fun w h => by rw [w27]; exact hw w h)
  have k28 : kpT 28 τ0 (sA t8 12 0 27 A) := by
    refine ⟨k27.1, k27.2.1, fun k j h1 h2 h3 => ?_, fun k hk => ?_⟩
    · by_cases e : k = 27
      · subst e
        show A j = _
        rw [(f2 j).1 (Nat.zero_le _) h3, k27.2.2.2 27 (by omega)]
        rfl
      · rw [gA_n e]
        exact k27.2.2.1 k j h1 (by omega) h3
    · rw [gA_n (show k ≠ 27 by omega)]
      exact k27.2.2.2 k (by omega)
  obtain ⟨t10, e10, k29⟩ := kpT_s k28 (by decide) rfl (by decide)
  obtain ⟨t11, e11, k30⟩ := kpT_s k29 (by decide) rfl (by decide)
  obtain ⟨t12, e12, k31⟩ := kpT_s k30 (by decide) rfl (by decide)
  obtain ⟨t13, e13, k32⟩ := kpT_s k31 (by decide) rfl (by decide)
  obtain ⟨t14, e14, k33⟩ := kpT_s k32 (by decide) rfl (by decide)
  have g13 : gI t14 12 0 13 = nI r := Eq.trans (k33.1 13) (by rw [← hτ0]; exact h16)
  have g26 : ∀ q, q < 2 → gA t14 12 0 26 q = gA τ 12 0 26 (2 + q) := fun q hq => Eq.trans (k33.2.2.1 26 q (by omega) (by omega) hq) (by rw [A0]; rfl)
  obtain ⟨τ', a1, a2, a3, a4, a5, a6, a7, _, _, _⟩ := m_atFirst (b := 0) (n := n) (r := r) (by decide) hr hn6 g13 (fun q hq => by
    rw [g26 q (by omega)]
    exact h26 q hq)
  rw [nI_0] at a1
  have hkeep : den 180 [vR 12 0 0] τ = some (none, sI (sI (sI (sI (plT (sL τ' 12 0 51 (Int32.toInt64 (gA τ' 12 0 19 1)))) 12 0 67 0) 12 0 68 (-1)) 12 0 72 0) 12 0 74 0) := by
    rw [dX12_keepText, bX12_keepText_0, hτ0]
    rw [show (2 : Int32) = nI (hfk 19) from rfl, e1, bnd_s, tl_n, bX12_keepText_16, show (6 : Int32) = nI (hfk 20) from rfl, e2, bnd_s, tl_n, bX12_keepText_20]
    rw [show (6 : Int32) = nI (hfk 21) from rfl, e3, bnd_s, tl_n, bX12_keepText_24]
    rw [show (6 : Int32) = nI (hfk 22) from rfl, e4, bnd_s, tl_n, bX12_keepText_28]
    rw [show (6 : Int32) = nI (hfk 23) from rfl, e5, bnd_s, tl_n, bX12_keepText_32]
    rw [show (6 : Int32) = nI (hfk 24) from rfl, e6, bnd_s, tl_n, bX12_keepText_36]
    rw [show (6 : Int32) = nI (hfk 25) from rfl, e7, bnd_s, tl_n, bX12_keepText_40]
    rw [show (2 : Int32) = nI (hfk 26) from rfl, e8, bnd_s, tl_n, bX12_keepText_44]
    rw [show (0 : Int32) = nI 0 from rfl, f1, bX12_keepText_46, if_neg (show ¬ nI 3 < 3 by decide)]
    rw [show (3 : Int32) = nI (hfk 28) from rfl, e10, bnd_s, tl_n, bX12_keepText_65]
    rw [show (3 : Int32) = nI (hfk 29) from rfl, e11, bnd_s, tl_n, bX12_keepText_69]
    rw [show (64 : Int32) = nI (hfk 30) from rfl, e12, bnd_s, tl_n, bX12_keepText_73]
    rw [show (64 : Int32) = nI (hfk 31) from rfl, e13, bnd_s, tl_n, bX12_keepText_77]
    rw [show (64 : Int32) = nI (hfk 32) from rfl, e14, bnd_s, tl_n, bX12_keepText_81]
    rw [dX12_begin, bX12_begin_0, a1, bnd_s, tl_n, bX12_begin_3, m_plain, bnd_s, tl_n, bX12_begin_12, bnd_s, tl_n, bX12_keepText_83]
    rfl
  have gAk : ∀ k, k < 44 → gA τ' 12 0 k = gA t14 12 0 k := fun k hk => a7 k (Or.inl hk)
  refine ⟨_, hkeep, ⟨?_, ?_, ?_⟩, fun k j h1 h2 h3 => ?_, fun j hj => ?_, fun j hj => ?_, a4, ?_, ⟨rfl, rfl, rfl, rfl, rfl, rfl, rfl, rfl⟩, ⟨rfl, rfl, rfl, rfl⟩, fun k hk => ?_, fun k hk => ?_⟩
  · exact Eq.trans (a5 12) (Eq.trans (k33.1 12) (by rw [← hτ0]; rfl))
  · exact Eq.trans (a5 13) (Eq.trans (k33.1 13) (by rw [← hτ0]; rfl))
  · exact Eq.trans (a5 14) (Eq.trans (k33.1 14) (by rw [← hτ0]; rfl))
  · show gA τ' 12 0 k j = _
    rw [gAk k (by omega), k33.2.2.1 k j h1 h2 h3, A0]
  · obtain ⟨b1, b2, b3⟩ := a2 j hj
    rw [show 6 * 0 + j = j by omega] at b1 b2 b3
    refine ⟨Eq.trans b1 (Eq.trans (k33.2.2.1 21 j (by omega) (by omega) hj) (by rw [A0]; rfl)), Eq.trans b2 (hadP_c r j (fun q hq => g26 q (by omega))), Eq.trans b3 (Eq.trans (k33.2.2.1 25 j (by omega) (by omega) hj) (by rw [A0]; rfl))⟩
  · obtain ⟨b1, b2, b3⟩ := a3 j hj
    rw [show 2 * 0 + j = j by omega] at b1 b2 b3
    exact ⟨Eq.trans b1 (g26 j hj), b2, b3⟩
  · show Int32.toInt64 (gA τ' 12 0 19 1) = _
    rw [gAk 19 (by omega), k33.2.2.1 19 1 (by omega) (by omega) (by decide), A0]
    rfl
  · have e : ∀ (ρ : ST) (m : Nat) (v : Int32), k ≠ m → gI (sI ρ 12 0 m v) 12 0 k = gI ρ 12 0 k := fun ρ m v hm => u3_n (fun z => hm z.2.2)
    have : gI τ' 12 0 k = gI τ 12 0 k := by
      rw [a5 k, k33.1 k, ← hτ0, e _ 14 _ (by omega), e _ 13 _ (by omega), e _ 12 _ (by omega)]
    rw [e _ 74 _ (by omega), e _ 72 _ (by omega), e _ 68 _ (by omega), e _ 67 _ (by omega)]
    unfold plT
    rw [e _ 59 _ (by omega), e _ 58 _ (by omega), e _ 57 _ (by omega), e _ 56 _ (by omega), e _ 55 _ (by omega), e _ 54 _ (by omega), e _ 53 _ (by omega), e _ 52 _ (by omega)]
    exact this
  · show gA τ' 12 0 k = _
    rw [gAk k (by omega), k33.2.2.2 k (by omega), A0]
end KEE
