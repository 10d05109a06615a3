/-! PLOTS as rows; put, take, remember -/
abbrev PL : Type := (Nat → Int32) × (Nat → Int32) × (Nat → Int32) × (Nat → Int32) × (Nat → Int32) × (Nat → Int32)
/-- two plots alike, and no one sees oneself -/
def PN (n r : Nat) (P Q : PL) : Prop := PRf n r P.1 P.2.1 P.2.2.1 P.2.2.2.1 P.2.2.2.2.1 P.2.2.2.2.2 Q.1 Q.2.1 Q.2.2.1 Q.2.2.2.1 Q.2.2.2.2.1 Q.2.2.2.2.2 ∧ ∀ j, j < n → bit (P.2.2.1 j) (nI j) = 0
def plC (σ : ST) (o : Nat) : PL := (gA σ 5 o 2, gA σ 5 o 3, gA σ 5 o 4, gA σ 5 o 5, gA σ 5 o 6, gA σ 5 o 7)
def plM (τ : ST) : PL := (gA τ 12 0 44, gA τ 12 0 45, gA τ 12 0 46, gA τ 12 0 47, gA τ 12 0 48, gA τ 12 0 49)
def plS (F : Nat → Int32) (a : Nat) : PL := (fun j => F (a + j), fun j => F (a + 6 + j), fun j => F (a + 12 + j), fun j => F (a + 18 + j), fun j => F (a + 20 + j), fun j => F (a + 22 + j))
/-- alike where it matters -/
def plE (P Q : PL) : Prop := (∀ j, j < 6 → P.1 j = Q.1 j ∧ P.2.1 j = Q.2.1 j ∧ P.2.2.1 j = Q.2.2.1 j) ∧ ∀ q, q < 2 → P.2.2.2.1 q = Q.2.2.2.1 q ∧ P.2.2.2.2.1 q = Q.2.2.2.2.1 q ∧ P.2.2.2.2.2 q = Q.2.2.2.2.2 q
theorem PN_q {n r : Nat} (hn : n ≤ 6) (hr : r ≤ 2) {P Q Q' : PL} (h : PN n r P Q) (e : plE Q' Q) : PN n r P Q' := by
  obtain ⟨⟨a, b, c, d, f, g, i⟩, k⟩ := h
  refine ⟨⟨fun j hj => ⟨(a j hj).1.trans (e.1 j (by omega)).1.symm, (a j hj).2⟩, fun j hj => (b j hj).trans (e.1 j (by omega)).2.1.symm, fun j hj => ⟨(c j hj).1.trans (e.1 j hj).2.2.symm, (c j hj).2⟩, fun p hp => ⟨(d p hp).1.trans (e.2 p (by omega)).1.symm, (d p hp).2⟩, fun p hp => (f p hp).trans (e.2 p (by omega)).2.1.symm, fun p hp => (g p hp).trans (e.2 p (by omega)).2.2.symm, i⟩, k⟩
theorem PN_p {n r : Nat} (hn : n ≤ 6) (hr : r ≤ 2) {P P' Q : PL} (h : PN n r P Q) (e : plE P' P) : PN n r P' Q := by
  obtain ⟨⟨a, b, c, d, f, g, i⟩, k⟩ := h
  refine ⟨⟨fun j hj => ?_, fun j hj => ?_, fun j hj => ?_, fun p hp => ?_, fun p hp => ?_, fun p hp => ?_, fun p h1 h2 => ?_⟩, fun j hj => ?_⟩
  · rw [(e.1 j (by omega)).1]; exact a j hj
  · rw [(e.1 j (by omega)).2.1]; exact b j hj
  · rw [(e.1 j hj).2.2]; exact c j hj
  · rw [(e.2 p (by omega)).1]; exact d p hp
  · rw [(e.2 p (by omega)).2.1]; exact f p hp
  · rw [(e.2 p (by omega)).2.2]; exact g p hp
  · rw [(e.2 p h2).2.2]; exact i p h1 h2
  · rw [(e.1 j (by omega)).2.2]; exact k j hj
section PUT
variable {x a N : Nat} {τ : ST}
theorem pu_6 (hx : ar 12 x = (0, N)) (hN : N < 1000) (ha : a + 24 ≤ N) (h4 : 49 < x) : ∀ (m i : Nat), i + m = 6 → ∀ (τ : ST), ∃ F, run kX12_put 2 [some (vR 12 0 0), some (vR 12 0 (x + 1)), some (vI (nI a)), some (vI (nI i))] [] τ = run kX12_put 40 [some (vR 12 0 0), some (vR 12 0 (x + 1)), some (vI (nI a)), some (vI 0)] [] (sA τ 12 0 x F) ∧
    (∀ j, i ≤ j → j < 6 → F (a + j) = gA τ 12 0 44 j ∧ F (a + 6 + j) = gA τ 12 0 45 j ∧ F (a + 12 + j) = gA τ 12 0 46 j) ∧ (∀ q, ¬ (a + i ≤ q ∧ q < a + 6) → ¬ (a + 6 + i ≤ q ∧ q < a + 12) → ¬ (a + 12 + i ≤ q ∧ q < a + 18) → F q = gA τ 12 0 x q)
  | 0, i, hm, τ => by
    have hi : i = 6 := by omega
    subst hi
    exact ⟨gA τ 12 0 x, by rw [bX12_put_2, if_neg (show ¬ nI 6 < 6 by decide), sA_id], fun j h1 h2 => by omega, fun _ _ _ _ => rfl⟩
  | m + 1, i, hm, τ => by
    have hlt : nI i < 6 := nI_lt (b := 6) (by omega) (by decide)
    have a1 := ob (i := i) (N := 12) (by omega) (by decide)
    have c1 : (nI i).toNatClampNeg = i := nI_clamp (by omega)
    have b0 := ob (i := a + i) (N := N) (by omega) (by omega)
    have b1 := ob (i := a + 6 + i) (N := N) (by omega) (by omega)
    have b2 := ob (i := a + 12 + i) (N := N) (by omega) (by omega)
    have d0 : (nI (a + i)).toNatClampNeg = a + i := nI_clamp (by omega)
    have d1 : (nI (a + 6 + i)).toNatClampNeg = a + 6 + i := nI_clamp (by omega)
    have d2 : (nI (a + 12 + i)).toNatClampNeg = a + 12 + i := nI_clamp (by omega)
    have s0 : nI a + nI i = nI (a + i) := nI_add _ _
    have s1 : nI a + 6 + nI i = nI (a + 6 + i) := by
      have : nI a + 6 = nI (a + 6) := nI_add a 6
      rw [this, nI_add]
    have s2 : nI a + 12 + nI i = nI (a + 12 + i) := by
      have : nI a + 12 = nI (a + 12) := nI_add a 12
      rw [this, nI_add]
    have g5 : ∀ f : Nat → Int32, gA (sA τ 12 0 x f) 12 0 45 = gA τ 12 0 45 := fun f => gA_n (by omega)
    have g6 : ∀ f : Nat → Int32, gA (sA τ 12 0 x f) 12 0 46 = gA τ 12 0 46 := fun f => gA_n (by omega)
    obtain ⟨F, f1, f2, f3⟩ := pu_6 hx hN ha h4 m (i + 1) (by omega) (sA τ 12 0 x (upd (upd (upd (gA τ 12 0 x) (a + i) (gA τ 12 0 44 i)) (a + 6 + i) (gA τ 12 0 45 i)) (a + 12 + i) (gA τ 12 0 46 i)))
    have g4 : gA (sA τ 12 0 x (upd (upd (upd (gA τ 12 0 x) (a + i) (gA τ 12 0 44 i)) (a + 6 + i) (gA τ 12 0 45 i)) (a + 12 + i) (gA τ 12 0 46 i))) 12 0 44 = gA τ 12 0 44 := gA_n (by omega)
    rw [sAA] at f1
    rw [g4, g5, g6] at f2
    rw [gA_s] at f3
    refine ⟨F, ?_, fun j h1 h2 => ?_, fun q h1 h2 h3 => ?_⟩
    · rw [bX12_put_2, if_pos hlt]
      simp only [hx, s0, s1, s2, c1, a1, b0, b1, b2, d0, d1, d2, ↓reduceIte, gA_s, g5, g6, sAA, nI_S]
      exact f1
    · by_cases e : j = i
      · subst e
        rw [f3 (a + j) (by omega) (by omega) (by omega), f3 (a + 6 + j) (by omega) (by omega) (by omega), f3 (a + 12 + j) (by omega) (by omega) (by omega), upd_o (by omega), upd_o (by omega), pk_us, upd_o (by omega), pk_us, pk_us]
        exact ⟨rfl, rfl, rfl⟩
      · exact f2 j (by omega) h2
    · rw [f3 q (by omega) (by omega) (by omega), upd_o (by omega), upd_o (by omega), upd_o (by omega)]
theorem pu_2 (hx : ar 12 x = (0, N)) (hN : N < 1000) (ha : a + 24 ≤ N) (h4 : 49 < x) : ∀ (m i : Nat), i + m = 2 → ∀ (τ : ST), ∃ F, run kX12_put 40 [some (vR 12 0 0), some (vR 12 0 (x + 1)), some (vI (nI a)), some (vI (nI i))] [] τ = some (none, sA τ 12 0 x F) ∧
    (∀ j, i ≤ j → j < 2 → F (a + 18 + j) = gA τ 12 0 47 j ∧ F (a + 20 + j) = gA τ 12 0 48 j ∧ F (a + 22 + j) = gA τ 12 0 49 j) ∧ (∀ q, (q < a + 18 ∨ a + 24 ≤ q ∨ (q < a + 20 ∧ q < a + 18 + i) ∨ (a + 20 ≤ q ∧ q < a + 20 + i) ∨ (a + 22 ≤ q ∧ q < a + 22 + i)) → F q = gA τ 12 0 x q)
  | 0, i, hm, τ => by
    have hi : i = 2 := by omega
    subst hi
    exact ⟨gA τ 12 0 x, by rw [bX12_put_40, if_neg (show ¬ nI 2 < 2 by decide), sA_id], fun j h1 h2 => by omega, fun _ _ => rfl⟩
  | m + 1, i, hm, τ => by
    have hlt : nI i < 2 := nI_lt (b := 2) (by omega) (by decide)
    have a1 := ob (i := i) (N := 4) (by omega) (by decide)
    have c1 : (nI i).toNatClampNeg = i := nI_clamp (by omega)
    have b0 := ob (i := a + 18 + i) (N := N) (by omega) (by omega)
    have b1 := ob (i := a + 20 + i) (N := N) (by omega) (by omega)
    have b2 := ob (i := a + 22 + i) (N := N) (by omega) (by omega)
    have d0 : (nI (a + 18 + i)).toNatClampNeg = a + 18 + i := nI_clamp (by omega)
    have d1 : (nI (a + 20 + i)).toNatClampNeg = a + 20 + i := nI_clamp (by omega)
    have d2 : (nI (a + 22 + i)).toNatClampNeg = a + 22 + i := nI_clamp (by omega)
    have s0 : nI a + 18 + nI i = nI (a + 18 + i) := by
      have : nI a + 18 = nI (a + 18) := nI_add a 18
      rw [this, nI_add]
    have s1 : nI a + 20 + nI i = nI (a + 20 + i) := by
      have : nI a + 20 = nI (a + 20) := nI_add a 20
      rw [this, nI_add]
    have s2 : nI a + 22 + nI i = nI (a + 22 + i) := by
      have : nI a + 22 = nI (a + 22) := nI_add a 22
      rw [this, nI_add]
    have g8 : ∀ f : Nat → Int32, gA (sA τ 12 0 x f) 12 0 48 = gA τ 12 0 48 := fun f => gA_n (by omega)
    have g9 : ∀ f : Nat → Int32, gA (sA τ 12 0 x f) 12 0 49 = gA τ 12 0 49 := fun f => gA_n (by omega)
    obtain ⟨F, f1, f2, f3⟩ := pu_2 hx hN ha h4 m (i + 1) (by omega) (sA τ 12 0 x (upd (upd (upd (gA τ 12 0 x) (a + 18 + i) (gA τ 12 0 47 i)) (a + 20 + i) (gA τ 12 0 48 i)) (a + 22 + i) (gA τ 12 0 49 i)))
    have g7 : gA (sA τ 12 0 x (upd (upd (upd (gA τ 12 0 x) (a + 18 + i) (gA τ 12 0 47 i)) (a + 20 + i) (gA τ 12 0 48 i)) (a + 22 + i) (gA τ 12 0 49 i))) 12 0 47 = gA τ 12 0 47 := gA_n (by omega)
    rw [sAA] at f1
    rw [g7, g8, g9] at f2
    rw [gA_s] at f3
    refine ⟨F, ?_, fun j h1 h2 => ?_, fun q h1 => ?_⟩
    · rw [bX12_put_40, if_pos hlt]
      simp only [hx, s0, s1, s2, c1, a1, b0, b1, b2, d0, d1, d2, ↓reduceIte, gA_s, g8, g9, sAA, nI_S]
      exact f1
    · by_cases e : j = i
      · subst e
        rw [f3 (a + 18 + j) (by omega), f3 (a + 20 + j) (by omega), f3 (a + 22 + j) (by omega), upd_o (by omega), upd_o (by omega), pk_us, upd_o (by omega), pk_us, pk_us]
        exact ⟨rfl, rfl, rfl⟩
      · exact f2 j (by omega) h2
    · rw [f3 q (by omega), upd_o (by omega), upd_o (by omega), upd_o (by omega)]
/-- put -/
theorem m_put (hx : ar 12 x = (0, N)) (hN : N < 1000) (ha : a + 24 ≤ N) (h4 : 49 < x) : ∃ F, den 281 [vR 12 0 0, vR 12 0 (x + 1), vI (nI a)] τ = some (none, sA τ 12 0 x F) ∧ plE (plS F a) (plM τ) ∧ ∀ q, (q < a ∨ a + 24 ≤ q) → F q = gA τ 12 0 x q := by
  obtain ⟨F, f1, f2, f3⟩ := pu_6 hx hN ha h4 6 0 (by decide) τ
  obtain ⟨F2, g1, g2, g3⟩ := pu_2 hx hN ha h4 2 0 (by decide) (sA τ 12 0 x F)
  have e7 : gA (sA τ 12 0 x F) 12 0 47 = gA τ 12 0 47 := gA_n (by omega)
  have e8 : gA (sA τ 12 0 x F) 12 0 48 = gA τ 12 0 48 := gA_n (by omega)
  have e9 : gA (sA τ 12 0 x F) 12 0 49 = gA τ 12 0 49 := gA_n (by omega)
  rw [sAA] at g1
  rw [e7, e8, e9] at g2
  rw [gA_s] at g3
  rw [nI_0] at f1 g1
  refine ⟨F2, by rw [dX12_put, bX12_put_0, f1, g1], ⟨fun j hj => ?_, fun q hq => g2 q (Nat.zero_le _) hq⟩, fun q hq => ?_⟩
  · obtain ⟨x1, x2, x3⟩ := f2 j (Nat.zero_le _) hj
    exact ⟨(g3 (a + j) (by omega)).trans x1, (g3 (a + 6 + j) (by omega)).trans x2, (g3 (a + 12 + j) (by omega)).trans x3⟩
  · rw [g3 q (by omega), f3 q (by omega) (by omega) (by omega)]
theorem ta_6 (hx : ar 12 x = (0, N)) (hN : N < 1000) (ha : a + 24 ≤ N) (h4 : 49 < x) : ∀ (m i : Nat), i + m = 6 → ∀ (τ : ST), ∃ A4 A5 A6, run kX12_take 2 [some (vR 12 0 0), some (vR 12 0 (x + 1)), some (vI (nI a)), some (vI (nI i))] [] τ = run kX12_take 40 [some (vR 12 0 0), some (vR 12 0 (x + 1)), some (vI (nI a)), some (vI 0)] [] (sA (sA (sA τ 12 0 44 A4) 12 0 45 A5) 12 0 46 A6) ∧
    (∀ j, i ≤ j → j < 6 → A4 j = gA τ 12 0 x (a + j) ∧ A5 j = gA τ 12 0 x (a + 6 + j) ∧ A6 j = gA τ 12 0 x (a + 12 + j)) ∧ (∀ q, (q < i ∨ 6 ≤ q) → A4 q = gA τ 12 0 44 q ∧ A5 q = gA τ 12 0 45 q ∧ A6 q = gA τ 12 0 46 q)
  | 0, i, hm, τ => by
    have hi : i = 6 := by omega
    subst hi
    exact ⟨gA τ 12 0 44, gA τ 12 0 45, gA τ 12 0 46, by rw [bX12_take_2, if_neg (show ¬ nI 6 < 6 by decide), sA_id, sA_id, sA_id], fun j h1 h2 => by omega, fun _ _ => ⟨rfl, rfl, rfl⟩⟩
  | m + 1, i, hm, τ => by
    have hlt : nI i < 6 := nI_lt (b := 6) (by omega) (by decide)
    have a1 := ob (i := i) (N := 12) (by omega) (by decide)
    have c1 : (nI i).toNatClampNeg = i := nI_clamp (by omega)
    have b0 := ob (i := a + i) (N := N) (by omega) (by omega)
    have b1 := ob (i := a + 6 + i) (N := N) (by omega) (by omega)
    have b2 := ob (i := a + 12 + i) (N := N) (by omega) (by omega)
    have d0 : (nI (a + i)).toNatClampNeg = a + i := nI_clamp (by omega)
    have d1 : (nI (a + 6 + i)).toNatClampNeg = a + 6 + i := nI_clamp (by omega)
    have d2 : (nI (a + 12 + i)).toNatClampNeg = a + 12 + i := nI_clamp (by omega)
    have s0 : nI a + nI i = nI (a + i) := nI_add _ _
    have s1 : nI a + 6 + nI i = nI (a + 6 + i) := by
      have : nI a + 6 = nI (a + 6) := nI_add a 6
      rw [this, nI_add]
    have s2 : nI a + 12 + nI i = nI (a + 12 + i) := by
      have : nI a + 12 = nI (a + 12) := nI_add a 12
      rw [this, nI_add]
    have g4 : ∀ f : Nat → Int32, gA (sA τ 12 0 44 f) 12 0 x = gA τ 12 0 x := fun f => gA_n (by omega)
    have g5 : ∀ f h : Nat → Int32, gA (sA (sA τ 12 0 44 f) 12 0 45 h) 12 0 x = gA τ 12 0 x := fun f h => by rw [gA_n (by omega), gA_n (by omega)]
    obtain ⟨A4, A5, A6, f1, f2, f3⟩ := ta_6 hx hN ha h4 m (i + 1) (by omega) (sA (sA (sA τ 12 0 44 (upd (gA τ 12 0 44) i (gA τ 12 0 x (a + i)))) 12 0 45 (upd (gA τ 12 0 45) i (gA τ 12 0 x (a + 6 + i)))) 12 0 46 (upd (gA τ 12 0 46) i (gA τ 12 0 x (a + 12 + i))))
    have gx : gA (sA (sA (sA τ 12 0 44 (upd (gA τ 12 0 44) i (gA τ 12 0 x (a + i)))) 12 0 45 (upd (gA τ 12 0 45) i (gA τ 12 0 x (a + 6 + i)))) 12 0 46 (upd (gA τ 12 0 46) i (gA τ 12 0 x (a + 12 + i)))) 12 0 x = gA τ 12 0 x := by rw [gA_n (by omega), gA_n (by omega), gA_n (by omega)]
    have k4 : gA (sA (sA (sA τ 12 0 44 (upd (gA τ 12 0 44) i (gA τ 12 0 x (a + i)))) 12 0 45 (upd (gA τ 12 0 45) i (gA τ 12 0 x (a + 6 + i)))) 12 0 46 (upd (gA τ 12 0 46) i (gA τ 12 0 x (a + 12 + i)))) 12 0 44 = upd (gA τ 12 0 44) i (gA τ 12 0 x (a + i)) := rfl
    have k5 : gA (sA (sA (sA τ 12 0 44 (upd (gA τ 12 0 44) i (gA τ 12 0 x (a + i)))) 12 0 45 (upd (gA τ 12 0 45) i (gA τ 12 0 x (a + 6 + i)))) 12 0 46 (upd (gA τ 12 0 46) i (gA τ 12 0 x (a + 12 + i)))) 12 0 45 = upd (gA τ 12 0 45) i (gA τ 12 0 x (a + 6 + i)) := rfl
    have k6 : gA (sA (sA (sA τ 12 0 44 (upd (gA τ 12 0 44) i (gA τ 12 0 x (a + i)))) 12 0 45 (upd (gA τ 12 0 45) i (gA τ 12 0 x (a + 6 + i)))) 12 0 46 (upd (gA τ 12 0 46) i (gA τ 12 0 x (a + 12 + i)))) 12 0 46 = upd (gA τ 12 0 46) i (gA τ 12 0 x (a + 12 + i)) := rfl
    rw [gx] at f2
    rw [k4, k5, k6] at f3
    have est : sA (sA (sA (sA (sA (sA τ 12 0 44 (upd (gA τ 12 0 44) i (gA τ 12 0 x (a + i)))) 12 0 45 (upd (gA τ 12 0 45) i (gA τ 12 0 x (a + 6 + i)))) 12 0 46 (upd (gA τ 12 0 46) i (gA τ 12 0 x (a + 12 + i)))) 12 0 44 A4) 12 0 45 A5) 12 0 46 A6 = sA (sA (sA τ 12 0 44 A4) 12 0 45 A5) 12 0 46 A6 := by
      rw [sA_c (k := 46) (k' := 44) (by decide), sA_c (k := 45) (k' := 44) (by decide), sAA, sA_c (k := 46) (k' := 45) (by decide), sAA, sAA]
    rw [est] at f1
    refine ⟨A4, A5, A6, ?_, fun j h1 h2 => ?_, fun q hq => ?_⟩
    · rw [bX12_take_2, if_pos hlt]
      simp only [hx, s0, s1, s2, c1, a1, b0, b1, b2, d0, d1, d2, ↓reduceIte, g4, g5, nI_S]
      exact f1
    · by_cases e : j = i
      · subst e
        obtain ⟨x1, x2, x3⟩ := f3 j (by omega)
        rw [x1, x2, x3, pk_us, pk_us, pk_us]
        exact ⟨rfl, rfl, rfl⟩
      · exact f2 j (by omega) h2
    · obtain ⟨x1, x2, x3⟩ := f3 q (by omega)
      rw [x1, x2, x3, upd_o (by omega), upd_o (by omega), upd_o (by omega)]
      exact ⟨rfl, rfl, rfl⟩
theorem ta_2 (hx : ar 12 x = (0, N)) (hN : N < 1000) (ha : a + 24 ≤ N) (h4 : 49 < x) : ∀ (m i : Nat), i + m = 2 → ∀ (τ : ST), ∃ A4 A5 A6, run kX12_take 40 [some (vR 12 0 0), some (vR 12 0 (x + 1)), some (vI (nI a)), some (vI (nI i))] [] τ = some (none, sA (sA (sA τ 12 0 47 A4) 12 0 48 A5) 12 0 49 A6) ∧
    (∀ j, i ≤ j → j < 2 → A4 j = gA τ 12 0 x (a + 18 + j) ∧ A5 j = gA τ 12 0 x (a + 20 + j) ∧ A6 j = gA τ 12 0 x (a + 22 + j)) ∧ (∀ q, (q < i ∨ 2 ≤ q) → A4 q = gA τ 12 0 47 q ∧ A5 q = gA τ 12 0 48 q ∧ A6 q = gA τ 12 0 49 q)
  | 0, i, hm, τ => by
    have hi : i = 2 := by omega
    subst hi
    exact ⟨gA τ 12 0 47, gA τ 12 0 48, gA τ 12 0 49, by rw [bX12_take_40, if_neg (show ¬ nI 2 < 2 by decide), sA_id, sA_id, sA_id], fun j h1 h2 => by omega, fun _ _ => ⟨rfl, rfl, rfl⟩⟩
  | m + 1, i, hm, τ => by
    have hlt : nI i < 2 := nI_lt (b := 2) (by omega) (by decide)
    have a1 := ob (i := i) (N := 4) (by omega) (by decide)
    have c1 : (nI i).toNatClampNeg = i := nI_clamp (by omega)
    have b0 := ob (i := a + 18 + i) (N := N) (by omega) (by omega)
    have b1 := ob (i := a + 20 + i) (N := N) (by omega) (by omega)
    have b2 := ob (i := a + 22 + i) (N := N) (by omega) (by omega)
    have d0 : (nI (a + 18 + i)).toNatClampNeg = a + 18 + i := nI_clamp (by omega)
    have d1 : (nI (a + 20 + i)).toNatClampNeg = a + 20 + i := nI_clamp (by omega)
    have d2 : (nI (a + 22 + i)).toNatClampNeg = a + 22 + i := nI_clamp (by omega)
    have s0 : nI a + 18 + nI i = nI (a + 18 + i) := by
      have : nI a + 18 = nI (a + 18) := nI_add a 18
      rw [this, nI_add]
    have s1 : nI a + 20 + nI i = nI (a + 20 + i) := by
      have : nI a + 20 = nI (a + 20) := nI_add a 20
      rw [this, nI_add]
    have s2 : nI a + 22 + nI i = nI (a + 22 + i) := by
      have : nI a + 22 = nI (a + 22) := nI_add a 22
      rw [this, nI_add]
    have g4 : ∀ f : Nat → Int32, gA (sA τ 12 0 47 f) 12 0 x = gA τ 12 0 x := fun f => gA_n (by omega)
    have g5 : ∀ f h : Nat → Int32, gA (sA (sA τ 12 0 47 f) 12 0 48 h) 12 0 x = gA τ 12 0 x := fun f h => by rw [gA_n (by omega), gA_n (by omega)]
    obtain ⟨A4, A5, A6, f1, f2, f3⟩ := ta_2 hx hN ha h4 m (i + 1) (by omega) (sA (sA (sA τ 12 0 47 (upd (gA τ 12 0 47) i (gA τ 12 0 x (a + 18 + i)))) 12 0 48 (upd (gA τ 12 0 48) i (gA τ 12 0 x (a + 20 + i)))) 12 0 49 (upd (gA τ 12 0 49) i (gA τ 12 0 x (a + 22 + i))))
    have gx : gA (sA (sA (sA τ 12 0 47 (upd (gA τ 12 0 47) i (gA τ 12 0 x (a + 18 + i)))) 12 0 48 (upd (gA τ 12 0 48) i (gA τ 12 0 x (a + 20 + i)))) 12 0 49 (upd (gA τ 12 0 49) i (gA τ 12 0 x (a + 22 + i)))) 12 0 x = gA τ 12 0 x := by rw [gA_n (by omega), gA_n (by omega), gA_n (by omega)]
    have k4 : gA (sA (sA (sA τ 12 0 47 (upd (gA τ 12 0 47) i (gA τ 12 0 x (a + 18 + i)))) 12 0 48 (upd (gA τ 12 0 48) i (gA τ 12 0 x (a + 20 + i)))) 12 0 49 (upd (gA τ 12 0 49) i (gA τ 12 0 x (a + 22 + i)))) 12 0 47 = upd (gA τ 12 0 47) i (gA τ 12 0 x (a + 18 + i)) := rfl
    have k5 : gA (sA (sA (sA τ 12 0 47 (upd (gA τ 12 0 47) i (gA τ 12 0 x (a + 18 + i)))) 12 0 48 (upd (gA τ 12 0 48) i (gA τ 12 0 x (a + 20 + i)))) 12 0 49 (upd (gA τ 12 0 49) i (gA τ 12 0 x (a + 22 + i)))) 12 0 48 = upd (gA τ 12 0 48) i (gA τ 12 0 x (a + 20 + i)) := rfl
    have k6 : gA (sA (sA (sA τ 12 0 47 (upd (gA τ 12 0 47) i (gA τ 12 0 x (a + 18 + i)))) 12 0 48 (upd (gA τ 12 0 48) i (gA τ 12 0 x (a + 20 + i)))) 12 0 49 (upd (gA τ 12 0 49) i (gA τ 12 0 x (a + 22 + i)))) 12 0 49 = upd (gA τ 12 0 49) i (gA τ 12 0 x (a + 22 + i)) := rfl
    rw [gx] at f2
    rw [k4, k5, k6] at f3
    have est : sA (sA (sA (sA (sA (sA τ 12 0 47 (upd (gA τ 12 0 47) i (gA τ 12 0 x (a + 18 + i)))) 12 0 48 (upd (gA τ 12 0 48) i (gA τ 12 0 x (a + 20 + i)))) 12 0 49 (upd (gA τ 12 0 49) i (gA τ 12 0 x (a + 22 + i)))) 12 0 47 A4) 12 0 48 A5) 12 0 49 A6 = sA (sA (sA τ 12 0 47 A4) 12 0 48 A5) 12 0 49 A6 := by
      rw [sA_c (k := 49) (k' := 47) (by decide), sA_c (k := 48) (k' := 47) (by decide), sAA, sA_c (k := 49) (k' := 48) (by decide), sAA, sAA]
    rw [est] at f1
    refine ⟨A4, A5, A6, ?_, fun j h1 h2 => ?_, fun q hq => ?_⟩
    · rw [bX12_take_40, if_pos hlt]
      simp only [hx, s0, s1, s2, c1, a1, b0, b1, b2, d0, d1, d2, ↓reduceIte, g4, g5, nI_S]
      exact f1
    · by_cases e : j = i
      · subst e
        obtain ⟨x1, x2, x3⟩ := f3 j (by omega)
        rw [x1, x2, x3, pk_us, pk_us, pk_us]
        exact ⟨rfl, rfl, rfl⟩
      · exact f2 j (by omega) h2
    · obtain ⟨x1, x2, x3⟩ := f3 q (by omega)
      rw [x1, x2, x3, upd_o (by omega), upd_o (by omega), upd_o (by omega)]
      exact ⟨rfl, rfl, rfl⟩
/-- take -/
theorem m_take (hx : ar 12 x = (0, N)) (hN : N < 1000) (ha : a + 24 ≤ N) (h4 : 49 < x) : ∃ A4 A5 A6 A7 A8 A9, den 282 [vR 12 0 0, vR 12 0 (x + 1), vI (nI a)] τ = some (none, sA (sA (sA (sA (sA (sA τ 12 0 44 A4) 12 0 45 A5) 12 0 46 A6) 12 0 47 A7) 12 0 48 A8) 12 0 49 A9) ∧ plE (A4, A5, A6, A7, A8, A9) (plS (gA τ 12 0 x) a) := by
  obtain ⟨A4, A5, A6, f1, f2, f3⟩ := ta_6 hx hN ha h4 6 0 (by decide) τ
  obtain ⟨A7, A8, A9, g1, g2, g3⟩ := ta_2 hx hN ha h4 2 0 (by decide) (sA (sA (sA τ 12 0 44 A4) 12 0 45 A5) 12 0 46 A6)
  have gx : gA (sA (sA (sA τ 12 0 44 A4) 12 0 45 A5) 12 0 46 A6) 12 0 x = gA τ 12 0 x := by rw [gA_n (by omega), gA_n (by omega), gA_n (by omega)]
  rw [gx] at g2
  rw [nI_0] at f1 g1
  exact ⟨A4, A5, A6, A7, A8, A9, by rw [dX12_take, bX12_take_0, f1, g1], fun j hj => f2 j (Nat.zero_le _) hj, fun q hq => g2 q (Nat.zero_le _) hq⟩
/-- the oldest goes -/
theorem rem_loop : ∀ (m i : Nat), i + m = 456 → ∀ (F : Nat → Int32), ∃ F', run kX12_remember 6 [some (vR 12 0 0), some (vI (nI i))] [] (sA τ 12 0 73 F) = (bnd (den 281 [vR 12 0 0, vR 12 0 74, vI (24 * (gI τ 12 0 72 - 1))] (sI (sA τ 12 0 73 F') 12 0 72 (gI τ 12 0 72 - 1))) fun v τ => run kX12_remember 35 [some (vR 12 0 0), some (vI (nI 456))] (v.toList ++ []) τ) ∧ (∀ j, i ≤ j → j < 456 → F' j = F (j + 24)) ∧ ∀ j, j < i → F' j = F j
  | 0, i, hm, F => by
    have hi : i = 456 := by omega
    subst hi
    exact ⟨F, by rw [bX12_remember_6, if_neg (show ¬ nI 456 < 456 by decide)]; rfl, fun j h1 h2 => by omega, fun _ _ => rfl⟩
  | m + 1, i, hm, F => by
    have hlt : nI i < 456 := nI_lt (b := 456) (by omega) (by decide)
    have a1 := ob (i := i) (N := 480) (by omega) (by decide)
    have c1 : (nI i).toNatClampNeg = i := nI_clamp (by omega)
    have a2 := ob (i := i + 24) (N := 480) (by omega) (by decide)
    have c2 : (nI (i + 24)).toNatClampNeg = i + 24 := nI_clamp (by omega)
    have s1 : nI i + 24 = nI (i + 24) := nI_add i 24
    have e1 : gA (sA τ 12 0 73 F) 12 0 73 = F := gA_s
    obtain ⟨F', f1, f2, f3⟩ := rem_loop m (i + 1) (by omega) (upd F i (F (i + 24)))
    refine ⟨F', ?_, fun j h1 h2 => ?_, fun j h1 => ?_⟩
    · rw [bX12_remember_6, if_pos hlt, e1, s1]
      simp only [c1, c2, a1, a2, ↓reduceIte, sAA, nI_S]
      exact f1
    · by_cases e : j = i
      · rw [e, f3 i (by omega), pk_us]
      · rw [f2 j (by omega) h2, upd_o (by omega)]
    · rw [f3 j (by omega), upd_o (by omega)]
/-- remember: v ones lie below, behind the dropping of the oldest -/
theorem m_remember {u : Nat} (hu : u ≤ 20) (h72 : gI τ 12 0 72 = nI u) : ∃ F v, den 283 [vR 12 0 0] τ = some (none, sI (sA τ 12 0 73 F) 12 0 72 (nI (v + 1))) ∧ v < 20 ∧ plE (plS F (24 * v)) (plM τ) ∧
    ((u < 20 ∧ v = u ∧ ∀ j, j < 24 * v → F j = gA τ 12 0 73 j) ∨ (u = 20 ∧ v = 19 ∧ ∀ j, j < 24 * v → F j = gA τ 12 0 73 (j + 24))) := by
  have h24 : ∀ v : Nat, (24 : Int32) * nI v = nI (24 * v) := fun v => pk_mul 24 v
  have hx : ar 12 73 = (0, 480) := rfl
  by_cases e : u = 20
  · subst e
    obtain ⟨F1, f1, f2, _⟩ := rem_loop (τ := τ) 456 0 (by decide) (gA τ 12 0 73)
    rw [sA_id, nI_0] at f1
    have e19 : gI τ 12 0 72 - 1 = nI 19 := by rw [h72]; decide
    rw [e19] at f1
    obtain ⟨F, g1, g2, g3⟩ := m_put (τ := sI (sA τ 12 0 73 F1) 12 0 72 (nI 19)) (a := 456) hx (by decide) (by decide) (by decide)
    have g1' : den 281 [vR 12 0 0, vR 12 0 74, vI (nI 456)] (sI (sA τ 12 0 73 F1) 12 0 72 (nI 19)) = some (none, sI (sA τ 12 0 73 F) 12 0 72 (nI 19)) := by
      have t : sA (sI (sA τ 12 0 73 F1) 12 0 72 (nI 19)) 12 0 73 F = sI (sA τ 12 0 73 F) 12 0 72 (nI 19) := by
        show sI (sA (sA τ 12 0 73 F1) 12 0 73 F) 12 0 72 (nI 19) = _
        rw [sAA]
      rw [← t]
      exact g1
    refine ⟨F, 19, ?_, by decide, g2, Or.inr ⟨rfl, rfl, fun j hj => ?_⟩⟩
    · rw [dX12_remember, bX12_remember_0, h72, if_pos (show nI 20 = 20 from rfl), f1, h24, g1', bnd_s, tl_n, bX12_remember_35, gI_s, nI_S, sII]
    · rw [g3 j (by omega)]
      exact f2 j (Nat.zero_le _) (by omega)
  · have n20 : ¬ nI u = 20 := fun z => e ((nI_eq (a := u) (b := 20) (by omega) (by decide)).mp z)
    obtain ⟨F, g1, g2, g3⟩ := m_put (τ := τ) (a := 24 * u) hx (by decide) (by omega) (by decide)
    have g1' : den 281 [vR 12 0 0, vR 12 0 74, vI (nI (24 * u))] τ = some (none, sA τ 12 0 73 F) := g1
    have h72' : gI (sA τ 12 0 73 F) 12 0 72 = nI u := h72
    refine ⟨F, u, ?_, by omega, g2, Or.inl ⟨by omega, rfl, fun j hj => g3 j (by omega)⟩⟩
    rw [dX12_remember, bX12_remember_0, h72, if_neg n20, h24, g1', bnd_s, tl_n, bX12_remember_35, h72', nI_S]
end PUT
