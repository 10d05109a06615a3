/-! THE TAPE: feed -/
/-- a byte as the class has it -/
def sbB (b : Nat) : Int32 := (nI b).toInt8.toInt32
theorem and255 (y : Int32) : ∃ b, b < 256 ∧ y &&& 255 = nI b ∧ y.toInt8.toInt32 = sbB b := by
  obtain ⟨b, hb, e⟩ := pk_andE y (m := 255) 8 (by decide)
  refine ⟨b, hb, e, ?_⟩
  unfold sbB
  rw [← e, Int32.toInt8_and]
  have : (255 : Int32).toInt8 = -1 := by decide
  rw [this, Int8.and_neg_one]
/-- what is fed, in both -/
def TPE (σ τ : ST) (j : Nat) : Prop := ∃ b, b < 256 ∧ gA τ 12 0 0 j = nI b ∧ gA σ 9 0 1 j = sbB b
def TP (σ τ : ST) : Prop := ∃ k, k ≤ 700 ∧ gI σ 9 0 4 = nI k ∧ gI τ 12 0 1 = nI k ∧ ∀ j, j < k → TPE σ τ j
/-- byte j of a word -/
def btW (x : Int32) (j : Nat) : Int32 := x >>> (nI (24 - 8 * j) &&& 31)
theorem e_tadd {σ : ST} {k : Nat} (hk : k + 4 ≤ 700) (h : gI σ 9 0 4 = nI k) (x : Int32) : ∃ F, den 90 [vR 9 0 0, vI x] σ = some (none, sI (sA σ 9 0 1 F) 9 0 4 (nI (k + 4))) ∧ (∀ j, j < 4 → F (k + j) = (btW x j).toInt8.toInt32) ∧ ∀ j, j < k → F j = gA σ 9 0 1 j := by
  have step : ∀ (σ : ST) (q : Nat) (s : Int32), q < 700 → gI σ 9 0 4 = nI q → ¬ s < 0 → run kX9_add 2 [some (vR 9 0 0), some (vI x), some (vI s)] [] σ = run kX9_add 2 [some (vR 9 0 0), some (vI x), some (vI (s + -8))] [] (sI (sA σ 9 0 1 (upd (gA σ 9 0 1) q ((x >>> (s &&& 31)).toInt8.toInt32))) 9 0 4 (nI (q + 1))) := by
    intro σ q s hq h4 hs
    have a1 := ob (i := q) (N := 700) (by omega) (by decide)
    have c1 : (nI q).toNatClampNeg = q := nI_clamp (by omega)
    rw [bX9_add_2, if_neg hs, h4, if_pos (show nI q < 700 from nI_lt (b := 700) hq (by decide))]
    simp only [c1, a1, ↓reduceIte, pk_vb, nI_S]
  have e1 := step σ k 24 (by omega) h (by decide)
  have est : ∀ (f g : Nat → Int32) (u v : Int32), sI (sA (sI (sA σ 9 0 1 f) 9 0 4 u) 9 0 1 g) 9 0 4 v = sI (sA σ 9 0 1 g) 9 0 4 v := by
    intro f g u v
    show sI (sI (sA (sA σ 9 0 1 f) 9 0 1 g) 9 0 4 u) 9 0 4 v = _
    rw [sAA, sII]
  have ga : ∀ (f : Nat → Int32) (v : Int32), gA (sI (sA σ 9 0 1 f) 9 0 4 v) 9 0 1 = f := fun f v => gA_s (σ := σ)
  have e2 := step _ (k + 1) (24 + -8) (by omega) (gI_s (σ := sA σ 9 0 1 (upd (gA σ 9 0 1) k ((x >>> ((24 : Int32) &&& 31)).toInt8.toInt32)))) (by decide)
  rw [ga, est] at e2
  have e3 := step _ (k + 1 + 1) (24 + -8 + -8) (by omega) (gI_s (σ := sA σ 9 0 1 (upd (upd (gA σ 9 0 1) k ((x >>> ((24 : Int32) &&& 31)).toInt8.toInt32)) (k + 1) ((x >>> ((24 + -8 : Int32) &&& 31)).toInt8.toInt32)))) (by decide)
  rw [ga, est] at e3
  have e4 := step _ (k + 1 + 1 + 1) (24 + -8 + -8 + -8) (by omega) (gI_s (σ := sA σ 9 0 1 (upd (upd (upd (gA σ 9 0 1) k ((x >>> ((24 : Int32) &&& 31)).toInt8.toInt32)) (k + 1) ((x >>> ((24 + -8 : Int32) &&& 31)).toInt8.toInt32)) (k + 1 + 1) ((x >>> ((24 + -8 + -8 : Int32) &&& 31)).toInt8.toInt32)))) (by decide)
  rw [ga, est] at e4
  refine ⟨upd (upd (upd (upd (gA σ 9 0 1) k ((x >>> ((24 : Int32) &&& 31)).toInt8.toInt32)) (k + 1) ((x >>> ((24 + -8 : Int32) &&& 31)).toInt8.toInt32)) (k + 1 + 1) ((x >>> ((24 + -8 + -8 : Int32) &&& 31)).toInt8.toInt32)) (k + 1 + 1 + 1) ((x >>> ((24 + -8 + -8 + -8 : Int32) &&& 31)).toInt8.toInt32), ?_, fun j hj => ?_, fun j hj => ?_⟩
  · rw [dX9_add, bX9_add_0, e1, e2, e3, e4, bX9_add_2, if_pos (by decide)]
  · have : j = 0 ∨ j = 1 ∨ j = 2 ∨ j = 3 := by omega
    rcases this with rfl | rfl | rfl | rfl
    · rw [upd_o (by omega), upd_o (by omega), upd_o (by omega), Nat.add_zero, pk_us]
      rfl
    · rw [upd_o (by omega), upd_o (by omega), pk_us]
      rfl
    · rw [upd_o (by omega), show k + 2 = k + 1 + 1 from rfl, pk_us]
      rfl
    · rw [show k + 3 = k + 1 + 1 + 1 from rfl, pk_us]
      rfl
  · rw [upd_o (by omega), upd_o (by omega), upd_o (by omega), upd_o (by omega)]
/-- the word that byte i is of -/
def wdS (x1 x2 x3 x4 x5 : Int32) (i : Nat) : Int32 := if i < 4 then x1 else if i < 8 then x2 else if i < 12 then x3 else if i < 16 then x4 else x5
theorem sh20 : ∀ i, i < 20 → (24 : Int32) - 8 * (nI i - nI i / 4 * 4) = nI (24 - 8 * (i % 4)) := by decide
theorem fd_loop {τ : ST} {k : Nat} (hk : k + 20 ≤ 700) (h1 : gI τ 12 0 1 = nI k) (x1 x2 x3 x4 x5 : Int32) : ∀ (m i : Nat), i + m = 20 → ∀ (F : Nat → Int32) (y : Option AV), ∃ F', run kX12_feed 13 [some (vR 12 0 0), some (vI x1), some (vI x2), some (vI x3), some (vI x4), some (vI x5), some (vI (nI i)), y] [] (sA τ 12 0 0 F) = some (some (vI (nI (k + 20))), sI (sA τ 12 0 0 F') 12 0 1 (nI (k + 20))) ∧ (∀ j, i ≤ j → j < 20 → F' (k + j) = btW (wdS x1 x2 x3 x4 x5 j) (j % 4) &&& 255) ∧ ∀ j, j < k + i → F' j = F j
  | 0, i, hm, F, y => by
    have hi : i = 20 := by omega
    subst hi
    have e1 : gI (sA τ 12 0 0 F) 12 0 1 = nI k := h1
    have e2 : nI k + 20 = nI (k + 20) := nI_add k 20
    exact ⟨F, by rw [bX12_feed_13, if_neg (show ¬ nI 20 < 20 by decide), e1, e2], fun j h1 h2 => by omega, fun _ _ => rfl⟩
  | m + 1, i, hm, F, y => by
    have hlt : nI i < 20 := nI_lt (b := 20) (by omega) (by decide)
    have e1 : gI (sA τ 12 0 0 F) 12 0 1 = nI k := h1
    have eF : gA (sA τ 12 0 0 F) 12 0 0 = F := gA_s
    have e2 : nI k + nI i = nI (k + i) := nI_add k i
    have a1 := ob (i := k + i) (N := 700) (by omega) (by decide)
    have c1 : (nI (k + i)).toNatClampNeg = k + i := nI_clamp (by omega)
    have l4 : (nI i < 4) ↔ i < 4 := nI_ltI (a := i) (b := 4) (by omega) (by decide)
    have l8 : (nI i < 8) ↔ i < 8 := nI_ltI (a := i) (b := 8) (by omega) (by decide)
    have l12 : (nI i < 12) ↔ i < 12 := nI_ltI (a := i) (b := 12) (by omega) (by decide)
    have l16 : (nI i < 16) ↔ i < 16 := nI_ltI (a := i) (b := 16) (by omega) (by decide)
    have go : ∀ (w : Int32), w = wdS x1 x2 x3 x4 x5 i → ∀ y, ∃ F', run kX12_feed 13 [some (vR 12 0 0), some (vI x1), some (vI x2), some (vI x3), some (vI x4), some (vI x5), some (vI (nI (i + 1))), y] [] (sA τ 12 0 0 (upd F (k + i) ((w >>> (nI (24 - 8 * (i % 4)) &&& 31)) &&& 255))) = some (some (vI (nI (k + 20))), sI (sA τ 12 0 0 F') 12 0 1 (nI (k + 20))) ∧ (∀ j, i ≤ j → j < 20 → F' (k + j) = btW (wdS x1 x2 x3 x4 x5 j) (j % 4) &&& 255) ∧ ∀ j, j < k + i → F' j = F j := by
      intro w hw y
      obtain ⟨F', f1, f2, f3⟩ := fd_loop hk h1 x1 x2 x3 x4 x5 m (i + 1) (by omega) (upd F (k + i) ((w >>> (nI (24 - 8 * (i % 4)) &&& 31)) &&& 255)) y
      refine ⟨F', f1, fun j h2 h3 => ?_, fun j h2 => ?_⟩
      · by_cases e : j = i
        · rw [e, f3 (k + i) (by omega), pk_us, hw]
          rfl
        · exact f2 j (by omega) h3
      · rw [f3 j (by omega), upd_o (by omega)]
    rw [bX12_feed_13, if_pos hlt, e1, eF, e2, sh20 i (by omega)]
    simp only [c1, a1, ↓reduceIte, sAA, nI_S]
    by_cases i4 : i < 4
    · rw [if_pos (l4.mpr i4)]
      exact go x1 (if_pos i4).symm _
    · rw [if_neg (fun z => i4 (l4.mp z))]
      by_cases i8 : i < 8
      · rw [if_pos (l8.mpr i8)]
        exact go x2 (by unfold wdS; rw [if_neg i4, if_pos i8]) _
      · rw [if_neg (fun z => i8 (l8.mp z))]
        by_cases i12 : i < 12
        · rw [if_pos (l12.mpr i12)]
          exact go x3 (by unfold wdS; rw [if_neg i4, if_neg i8, if_pos i12]) _
        · rw [if_neg (fun z => i12 (l12.mp z))]
          by_cases i16 : i < 16
          · rw [if_pos (l16.mpr i16)]
            exact go x4 (by unfold wdS; rw [if_neg i4, if_neg i8, if_neg i12, if_pos i16]) _
          · rw [if_neg (fun z => i16 (l16.mp z))]
            exact go x5 (by unfold wdS; rw [if_neg i4, if_neg i8, if_neg i12, if_neg i16]) _
theorem c_feed {σ τ : ST} (hT : TP σ τ) (x1 x2 x3 x4 x5 : Int32) : ∃ (v : Int32) (σ' τ' : ST), den 111 [vR 11 0 0, vI x1, vI x2, vI x3, vI x4, vI x5] σ = some (some (vI v), σ') ∧ den 164 [vR 12 0 0, vI x1, vI x2, vI x3, vI x4, vI x5] τ = some (some (vI v), τ') ∧
    smC (fun c _ => c = 9) σ σ' ∧ gA σ' 9 0 0 = gA σ 9 0 0 ∧ smM (fun k => k < 3) τ τ' ∧ TP σ' τ' := by
  obtain ⟨k, hk, h4, h1, hb⟩ := id hT
  have e20 : nI k + 20 = nI (k + 20) := nI_add k 20
  rw [dX11_feed, bX11_feed_0, dX9_hasRoom, bX9_hasRoom_0, h4, e20, dX12_feed, bX12_feed_0, h1, e20]
  by_cases hr : 700 < k + 20
  · have l : (700 : Int32) < nI (k + 20) := nI_lt (a := 700) hr (by omega)
    rw [if_pos l, if_pos l, bnd_s, tl_s, bX11_feed_3, if_pos rfl]
    exact ⟨-1, _, _, rfl, rfl, smC_0, rfl, smM_I (by decide) 0, hT⟩
  have l : ¬ (700 : Int32) < nI (k + 20) := nI_nlt (a := 700) (by omega) (by decide)
  have est : ∀ (f g : Nat → Int32) (u v : Int32), sI (sA (sI (sA σ 9 0 1 f) 9 0 4 u) 9 0 1 g) 9 0 4 v = sI (sA σ 9 0 1 g) 9 0 4 v := by
    intro f g u v
    show sI (sI (sA (sA σ 9 0 1 f) 9 0 1 g) 9 0 4 u) 9 0 4 v = _
    rw [sAA, sII]
  have ga : ∀ (f : Nat → Int32) (v : Int32), gA (sI (sA σ 9 0 1 f) 9 0 4 v) 9 0 1 = f := fun f v => gA_s (σ := σ)
  obtain ⟨F1, a1, b1, c1⟩ := e_tadd (σ := σ) (k := k) (by omega) h4 x1
  obtain ⟨F2, a2, b2, c2⟩ := e_tadd (σ := sI (sA σ 9 0 1 F1) 9 0 4 (nI (k + 4))) (k := k + 4) (by omega) gI_s x2
  obtain ⟨F3, a3, b3, c3⟩ := e_tadd (σ := sI (sA σ 9 0 1 F2) 9 0 4 (nI (k + 4 + 4))) (k := k + 4 + 4) (by omega) gI_s x3
  obtain ⟨F4, a4, b4, c4⟩ := e_tadd (σ := sI (sA σ 9 0 1 F3) 9 0 4 (nI (k + 4 + 4 + 4))) (k := k + 4 + 4 + 4) (by omega) gI_s x4
  obtain ⟨F5, a5, b5, c5⟩ := e_tadd (σ := sI (sA σ 9 0 1 F4) 9 0 4 (nI (k + 4 + 4 + 4 + 4))) (k := k + 4 + 4 + 4 + 4) (by omega) gI_s x5
  rw [est] at a2 a3 a4 a5
  rw [ga] at c2 c3 c4 c5
  obtain ⟨F', f1, f2, f3⟩ := fd_loop (τ := th0 τ) (k := k) (by omega) h1 x1 x2 x3 x4 x5 20 0 (by decide) (gA τ 12 0 0) none
  have id0 : sA (th0 τ) 12 0 0 (gA τ 12 0 0) = th0 τ := sA_id (σ := th0 τ)
  rw [id0, nI_0] at f1
  rw [if_neg l, if_neg l, bnd_s, tl_s, bX11_feed_3, if_neg i10, a1, bnd_s, tl_n, bX11_feed_10, a2, bnd_s, tl_n, bX11_feed_14, a3, bnd_s, tl_n, bX11_feed_18, a4, bnd_s, tl_n, bX11_feed_22, a5, bnd_s, tl_n, bX11_feed_26, f1, gI_s]
  refine ⟨nI (k + 20), _, _, rfl, rfl, smC_t (smC_A (S := fun c _ => c = 9) (c := 9) (o := 0) rfl _) (smC_I (S := fun c _ => c = 9) (c := 9) (o := 0) rfl _), rfl, smM_t (smM_I (by decide) 0) (smM_t (smM_A (by decide) _) (smM_I (by decide) _)), k + 20, by omega, rfl, rfl, fun j hj => ?_⟩
  show ∃ b, b < 256 ∧ F' j = nI b ∧ F5 j = sbB b
  by_cases hjk : j < k
  · rw [f3 j (by omega), c5 j (by omega), c4 j (by omega), c3 j (by omega), c2 j (by omega), c1 j hjk]
    exact hb j hjk
  · obtain ⟨i, rfl⟩ : ∃ i, j = k + i := ⟨j - k, by omega⟩
    have hi : i < 20 := by omega
    obtain ⟨b, hb', eb, es⟩ := and255 (btW (wdS x1 x2 x3 x4 x5 i) (i % 4))
    refine ⟨b, hb', (f2 i (Nat.zero_le _) hi).trans eb, ?_⟩
    rw [← es]
    unfold wdS
    by_cases i4 : i < 4
    · rw [if_pos i4, c5 _ (by omega), c4 _ (by omega), c3 _ (by omega), c2 _ (by omega), b1 i i4, Nat.mod_eq_of_lt i4]
    · rw [if_neg i4]
      by_cases i8 : i < 8
      · rw [if_pos i8, c5 _ (by omega), c4 _ (by omega), c3 _ (by omega), show k + i = k + 4 + (i - 4) by omega, b2 (i - 4) (by omega), show i % 4 = i - 4 by omega]
      · rw [if_neg i8]
        by_cases i12 : i < 12
        · rw [if_pos i12, c5 _ (by omega), c4 _ (by omega), show k + i = k + 4 + 4 + (i - 8) by omega, b3 (i - 8) (by omega), show i % 4 = i - 8 by omega]
        · rw [if_neg i12]
          by_cases i16 : i < 16
          · rw [if_pos i16, c5 _ (by omega), show k + i = k + 4 + 4 + 4 + (i - 12) by omega, b4 (i - 12) (by omega), show i % 4 = i - 12 by omega]
          · rw [if_neg i16, show k + i = k + 4 + 4 + 4 + 4 + (i - 16) by omega, b5 (i - 16) (by omega), show i % 4 = i - 16 by omega]
