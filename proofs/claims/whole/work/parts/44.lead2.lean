theorem lo1 : ∀ X, X < 64 → ∀ k, k < 6 → bit (nI X) (nI k) = 0 → nI X ||| ((1 : Int32) <<< (nI k &&& 31)) = nI X ^^^ ((1 : Int32) <<< (nI k &&& 31)) ∧ nI X ^^^ ((1 : Int32) <<< (nI k &&& 31)) = nI (X + 2 ^ k) ∧ X + 2 ^ k < 64 := by decide +kernel
theorem lo2 (X : Nat) (hX : X < 64) (k : Nat) (hk : k < 6) (h : bit (nI X) (nI k) = 0) (j : Nat) (hj : j < 6) (hn : ¬ j = k) (hb : bit (nI X) (nI j) = 0) : bit (nI (X + 2 ^ k)) (nI j) = 0 := by
  have h64 := (lo1 X hX k hk h).2.2
  rw [bit_iff h64 hj, pt3 X hX k hk ((bit_iff hX hk).mp h) h64 j hj hn]
  exact (bit_iff hX hj).mp hb
section LE2
variable {G n r p N : Nat} {g : Int32} {σ τ τ1 : ST}
theorem begin_YR (hQ : RQ G n r σ τ) (h : den 208 [vR 12 0 0] τ = some (none, τ1)) : YR SN G n r (bgS σ 1 G 0) 1 τ1 1 ∧ RF τ1 ∧ (∀ j, j < 6 → gA (bgS σ 1 G 0) 5 1 4 j = gA σ 5 0 4 j) ∧ scM τ τ1 ∧ (∀ j, j < 6 → gA τ1 12 0 46 (6 + j) = gA τ 12 0 46 j) := by
  obtain ⟨σ', τ', f1, f2, f3, f4, f5, f6, f7, f8⟩ := begin_pair hQ
  rw [e_begin] at f1
  injection f1 with f1
  injection f1 with _ f1
  rw [h] at f2
  injection f2 with f2
  injection f2 with _ f2
  subst f1 f2
  exact ⟨YR_n f3.1, f6, fun j hj => (f7.2.1 j hj).2.2, f5, f8⟩
/-- the class's picks, aimed -/
def KC (σ : ST) (p N : Nat) (g : Int32) (σ' : ST) : Prop := scC σ σ' ∧ gI σ' 4 0 4 = nI p ∧ gI σ' 4 0 5 = g ∧ gI σ' 4 0 6 = nI N ∧ gI σ' 4 0 1 = -2 ∧ gI σ' 4 0 2 = 0 ∧ gI σ' 4 0 3 = 0
def PRs (τ1 : ST) (n p N : Nat) (g : Int32) (s1 : Nat → Int32) (h : Nat) : Prop := ∀ s', (∀ j, j < n → ¬ bit (nI h) (nI j) = 0 → s' j = s1 j) → soS τ1 p N g s' = soS τ1 p N g s1
theorem run_s (hp : p < r) (hN : N < 2 ^ 31) (hQ : RQ G n r σ τ) (h8 : den 208 [vR 12 0 0] τ = some (none, τ1)) {σ' : ST} (hK : KC σ p N g σ') {s1 sx : Nat → Int32} (hs : ∀ j, j < n → s1 j = sx j) : ∃ σ2 h, h < 64 ∧
    den 44 [vR 4 0 0, vR 0 1 0] (sA (bgS σ' 1 G 0) 5 1 4 s1) = some (some (vI (bI (soS τ1 p N g sx))), σ2) ∧ gI σ2 4 0 7 = nI h ∧ KC σ p N g σ2 ∧ gA σ2 4 0 0 = gA σ' 4 0 0 ∧ PRs τ1 n p N g sx h := by
  obtain ⟨b1, b2, _, _⟩ := begin_YR (RQ_sc hQ hK.1 scM_0) h8
  obtain ⟨σ2, h, q1, q2, q3, q4, q5, _⟩ := e_comes (σ := sA (bgS σ' 1 G 0) 5 1 4 s1) (g := g) hp hN (YR_cs b1 s1) b2 hK.2.1 hK.2.2.1 hK.2.2.2.1
  have es : gA (sA (bgS σ' 1 G 0) 5 1 4 s1) 5 1 4 = s1 := gA_s
  rw [es] at q2 q5
  have e0 : soS τ1 p N g sx = soS τ1 p N g s1 := q5 sx (fun j hj _ => (hs j hj).symm)
  rw [← e0] at q2
  refine ⟨σ2, h, q1, q2, q3, ⟨scC_t hK.1 (scC_t (bgS_sc _ _ _) (scC_t (scC_A (Or.inr (Or.inr (Or.inr (Or.inr (Or.inl ⟨rfl, rfl⟩))))) _) q4.2.2)), (q4.1 4 (by decide)).trans hK.2.1, (q4.1 5 (by decide)).trans hK.2.2.1, (q4.1 6 (by decide)).trans hK.2.2.2.1, (q4.1 1 (by decide)).trans hK.2.2.2.2.1, (q4.1 2 (by decide)).trans hK.2.2.2.2.2.1, (q4.1 3 (by decide)).trans hK.2.2.2.2.2.2⟩, congrFun (congrFun q4.2.1 0) 0, fun s' h' => ?_⟩
  rw [e0]
  exact q5 s' (fun j hj hb => (h' j hj hb).trans (hs j hj).symm)
/-- Picks.isMissing -/
theorem e_missing (hn6 : n ≤ 6) {s : Nat → Int32} (hn : gI σ 2 G 0 = nI n) (hs : ∀ i, i < n → gA σ 5 0 4 i = s i) {c : Nat} (hc : c < 36) : den 42 [vI (nI c), vR 2 G 0, vR 5 0 0] σ = some (some (vI (bI (okB n s 0 c))), σ) := by
  obtain ⟨d1, d2⟩ := cd6 hc
  rw [dX4_isMissing, bX4_isMissing_0, d2, d1, hn]
  by_cases h3 : c / 6 = c % 6
  · rw [if_pos (by rw [h3]), bI_f (show okB n s 0 c = false from decide_eq_false (fun z => z.2.2.1 h3))]
  · have n3 : ¬ nI (c / 6) = nI (c % 6) := fun z => h3 ((nI_eq (by omega) (by omega)).mp z)
    rw [if_neg n3]
    by_cases h1 : c / 6 < n
    · rw [if_pos (nI_lt h1 (by omega))]
      by_cases h2 : c % 6 < n
      · rw [if_pos (nI_lt h2 (by omega)), e_isSeen σ 0 (by omega), bnd_s, tl_s, bX4_isMissing_23, hs _ h1]
        by_cases h4 : bit (s (c / 6)) (nI (c % 6)) = 0
        · rw [if_pos h4, bI_t (show okB n s 0 c = true from decide_eq_true ⟨h1, h2, h3, h4⟩)]
        · rw [if_neg h4, bI_f (show okB n s 0 c = false from decide_eq_false (fun z => h4 z.2.2.2))]
      · rw [if_neg (nI_nlt (by omega) (by omega)), bI_f (show okB n s 0 c = false from decide_eq_false (fun z => h2 z.2.1))]
    · rw [if_neg (nI_nlt (by omega) (by omega)), bI_f (show okB n s 0 c = false from decide_eq_false (fun z => h1 z.1))]
/-- Picks.add -/
theorem e_add {c : Nat} (hc : c < 36) {X : Nat} (hX : X < 64) (h : gA σ 5 1 4 (c / 6) = nI X) (hb : bit (nI X) (nI (c % 6)) = 0) : den 43 [vR 0 1 0, vI (nI c)] σ = some (none, sA σ 5 1 4 (tnS (gA σ 5 1 4) c)) := by
  obtain ⟨d1, d2⟩ := cd6 hc
  have a1 := ob (i := c / 6) (N := 6) (by omega) (by decide)
  have c1 : (nI (c / 6)).toNatClampNeg = c / 6 := nI_clamp (by omega)
  rw [dX4_add, bX4_add_0, d2, d1, dX5_setSeen, bX5_setSeen_0, if_neg i10]
  simp only [c1, a1, ↓reduceIte]
  rw [bnd_s, tl_n, bX4_add_10, h, (lo1 X hX (c % 6) (by omega) hb).1, ← h, tnS_u]
theorem tn_eq {s1 s2 : Nat → Int32} (h : ∀ j, j < n → s1 j = s2 j) (c : Nat) : ∀ j, j < n → tnS s1 c j = tnS s2 c j := fun j hj => by
  unfold tnS
  rw [h j hj]
/-- the three runs of a trial -/
theorem run0 (hp : p < r) (hN : N < 2 ^ 31) (hQ : RQ G n r σ τ) (h8 : den 208 [vR 12 0 0] τ = some (none, τ1)) {σ' : ST} (hK : KC σ p N g σ') : ∃ σ2 h, h < 64 ∧
    den 44 [vR 4 0 0, vR 0 1 0] (bgS σ' 1 G 0) = some (some (vI (bI (soS τ1 p N g (gA σ 5 0 4)))), σ2) ∧ gI σ2 4 0 7 = nI h ∧ KC σ p N g σ2 ∧ gA σ2 4 0 0 = gA σ' 4 0 0 ∧ PRs τ1 n p N g (gA σ 5 0 4) h := by
  have hn6 := hQ.1.1.n6
  obtain ⟨_, _, b3, _⟩ := begin_YR (RQ_sc hQ hK.1 scM_0) h8
  have ep : gA σ' 5 0 = gA σ 5 0 := (hK.1.2.1 0 (by decide)).2.2.2.2
  rw [ep] at b3
  have := run_s (s1 := gA (bgS σ' 1 G 0) 5 1 4) (sx := gA σ 5 0 4) hp hN hQ h8 hK (fun j hj => b3 j (by omega))
  rw [sA_id] at this
  exact this
theorem ok_bit {s : Nat → Int32} {fl : Int32} {c : Nat} (h : okB n s fl c = true) : c / 6 < n ∧ c % 6 < n ∧ ¬ c / 6 = c % 6 ∧ bit (s (c / 6)) (nI (c % 6)) = fl := of_decide_eq_true h
theorem run1 (hp : p < r) (hN : N < 2 ^ 31) (hQ : RQ G n r σ τ) (h8 : den 208 [vR 12 0 0] τ = some (none, τ1)) {σ' : ST} (hK : KC σ p N g σ') {c : Nat} (hc : c < 36) (ho : okB n (gA σ 5 0 4) 0 c = true) : ∃ σ1 σ2 h, h < 64 ∧
    den 43 [vR 0 1 0, vI (nI c)] (bgS σ' 1 G 0) = some (none, σ1) ∧ den 44 [vR 4 0 0, vR 0 1 0] σ1 = some (some (vI (bI (soS τ1 p N g (tnS (gA σ 5 0 4) c)))), σ2) ∧ gI σ2 4 0 7 = nI h ∧ KC σ p N g σ2 ∧ gA σ2 4 0 0 = gA σ' 4 0 0 ∧ PRs τ1 n p N g (tnS (gA σ 5 0 4) c) h := by
  have hn6 := hQ.1.1.n6
  obtain ⟨_, _, b3, _⟩ := begin_YR (RQ_sc hQ hK.1 scM_0) h8
  have ep : gA σ' 5 0 = gA σ 5 0 := (hK.1.2.1 0 (by decide)).2.2.2.2
  rw [ep] at b3
  obtain ⟨o1, o2, o3, o4⟩ := ok_bit ho
  obtain ⟨_, X, x1, _, x2⟩ := hQ.2.1.1.2.2.1 (c / 6) (by omega)
  have hX64 : X < 64 := Nat.lt_of_lt_of_le x1 (p2_64 hn6)
  have h1 := e_add (σ := bgS σ' 1 G 0) hc hX64 ((b3 (c / 6) (by omega)).trans x2) (by rw [← x2]; exact o4)
  obtain ⟨σ2, h, q⟩ := run_s (s1 := tnS (gA (bgS σ' 1 G 0) 5 1 4) c) (sx := tnS (gA σ 5 0 4) c) hp hN hQ h8 hK (tn_eq (fun j hj => b3 j (by omega)) c)
  exact ⟨_, σ2, h, q.1, h1, q.2⟩
theorem run2 (hp : p < r) (hN : N < 2 ^ 31) (hQ : RQ G n r σ τ) (h8 : den 208 [vR 12 0 0] τ = some (none, τ1)) {σ' : ST} (hK : KC σ p N g σ') {c d : Nat} (hcd : c < d) (hd : d < 36) (ho : okB n (gA σ 5 0 4) 0 c = true) (ho2 : okB n (gA σ 5 0 4) 0 d = true) : ∃ σ1 σ1' σ2,
    den 43 [vR 0 1 0, vI (nI c)] (bgS σ' 1 G 0) = some (none, σ1) ∧ den 43 [vR 0 1 0, vI (nI d)] σ1 = some (none, σ1') ∧ den 44 [vR 4 0 0, vR 0 1 0] σ1' = some (some (vI (bI (soS τ1 p N g (tnS (tnS (gA σ 5 0 4) c) d)))), σ2) ∧ KC σ p N g σ2 ∧ gA σ2 4 0 0 = gA σ' 4 0 0 := by
  have hn6 := hQ.1.1.n6
  obtain ⟨_, _, b3, _⟩ := begin_YR (RQ_sc hQ hK.1 scM_0) h8
  have ep : gA σ' 5 0 = gA σ 5 0 := (hK.1.2.1 0 (by decide)).2.2.2.2
  rw [ep] at b3
  obtain ⟨o1, o2, o3, o4⟩ := ok_bit ho
  obtain ⟨u1, u2, u3, u4⟩ := ok_bit ho2
  obtain ⟨_, X, x1, _, x2⟩ := hQ.2.1.1.2.2.1 (c / 6) (by omega)
  have hX64 : X < 64 := Nat.lt_of_lt_of_le x1 (p2_64 hn6)
  have hbX : bit (nI X) (nI (c % 6)) = 0 := by rw [← x2]; exact o4
  have h1 := e_add (σ := bgS σ' 1 G 0) (c := c) (by omega) hX64 ((b3 (c / 6) (by omega)).trans x2) hbX
  -- the second one
  obtain ⟨Y, y1, y2, y3⟩ : ∃ Y, Y < 64 ∧ tnS (gA (bgS σ' 1 G 0) 5 1 4) c (d / 6) = nI Y ∧ bit (nI Y) (nI (d % 6)) = 0 := by
    by_cases e : d / 6 = c / 6
    · refine ⟨X + 2 ^ (c % 6), (lo1 X hX64 (c % 6) (by omega) hbX).2.2, ?_, lo2 X hX64 (c % 6) (by omega) hbX (d % 6) (by omega) (by omega) ?_⟩
      · unfold tnS tnX
        rw [if_pos e, e, b3 (c / 6) (by omega), x2]
        exact (lo1 X hX64 (c % 6) (by omega) hbX).2.1
      · rw [e, x2] at u4
        exact u4
    · obtain ⟨_, Y, y1, _, y2⟩ := hQ.2.1.1.2.2.1 (d / 6) (by omega)
      refine ⟨Y, Nat.lt_of_lt_of_le y1 (p2_64 hn6), ?_, by rw [← y2]; exact u4⟩
      rw [tnS_n e, b3 (d / 6) (by omega), y2]
  have es : gA (sA (bgS σ' 1 G 0) 5 1 4 (tnS (gA (bgS σ' 1 G 0) 5 1 4) c)) 5 1 4 = tnS (gA (bgS σ' 1 G 0) 5 1 4) c := gA_s
  have h2 := e_add (σ := sA (bgS σ' 1 G 0) 5 1 4 (tnS (gA (bgS σ' 1 G 0) 5 1 4) c)) hd y1 ((congrFun es _).trans y2) y3
  rw [es, sAA] at h2
  obtain ⟨σ2, h, q⟩ := run_s (s1 := tnS (tnS (gA (bgS σ' 1 G 0) 5 1 4) c) d) (sx := tnS (tnS (gA σ 5 0 4) c) d) hp hN hQ h8 hK (tn_eq (tn_eq (fun j hj => b3 j (by omega)) c) d)
  exact ⟨_, _, σ2, h1, h2, q.2.1, q.2.2.2.1, q.2.2.2.2.1⟩
def hbB (h c : Nat) : Bool := decide (¬ bit (nI h) (nI (c / 6)) = 0)
theorem KC_A (A : Nat → Int32) {σ' : ST} (hK : KC σ p N g σ') : KC σ p N g (sA σ' 4 0 0 A) := ⟨scC_t hK.1 (scC_A (Or.inl rfl) _), hK.2⟩
/-- hosts, as far as they are noted -/
def AP (τ1 : ST) (n p N : Nat) (g : Int32) (s : Nat → Int32) (i : Nat) (A : Nat → Int32) : Prop := ∀ c, c < i → ∃ h, h < 64 ∧ A c = nI h ∧ (okB n s 0 c = true → PRs τ1 n p N g (tnS s c) h)
theorem AP_s {s A : Nat → Int32} {i : Nat} (h : AP τ1 n p N g s i A) {v : Nat} (hv : v < 64) (hP : okB n s 0 i = true → PRs τ1 n p N g (tnS s i) v) : AP τ1 n p N g s (i + 1) (upd A i (nI v)) := by
  intro c hc
  by_cases e : c = i
  · subst e
    exact ⟨v, hv, pk_us, hP⟩
  · rw [upd_o e]
    exact h c (by omega)
theorem PRs_off {s : Nat → Int32} {h c : Nat} (hP : PRs τ1 n p N g s h) (hb : bit (nI h) (nI (c / 6)) = 0) : PRs τ1 n p N g (tnS s c) h ∧ soS τ1 p N g (tnS s c) = soS τ1 p N g s := by
  have hag : ∀ j, j < n → ¬ bit (nI h) (nI j) = 0 → tnS s c j = s j := fun j _ hbj => tnS_n (fun z => hbj (by rw [z]; exact hb))
  have e0 := hP _ hag
  exact ⟨fun s' hs' => (hP s' (fun j hj hbj => (hs' j hj hbj).trans (hag j hj hbj))).trans e0.symm, e0⟩
theorem sl_loop (hp : p < r) (hN : N < 2 ^ 31) (hQ : RQ G n r σ τ) (h8 : den 208 [vR 12 0 0] τ = some (none, τ1)) {h0 : Nat} (h64 : h0 < 64) (hP0 : PRs τ1 n p N g (gA σ 5 0 4) h0) : ∀ (m i : Nat), i + m = 36 → ∀ σ', KC σ p N g σ' → AP τ1 n p N g (gA σ 5 0 4) i (gA σ' 4 0 0) → ∃ σ'', KC σ p N g σ'' ∧
    run kX4_seekLead 24 [some (vR 4 0 0), some (vR 0 1 0), some (vR 2 G 0), some (vR 5 0 0), some (vI (nI h0)), some (vI (nI i))] [] σ' = (match fs1 (fun c => okB n (gA σ 5 0 4) 0 c && (hbB h0 c && soS τ1 p N g (tnS (gA σ 5 0 4) c))) m i with
      | some j => some (none, tkS σ'' (1, nI j, 0))
      | none => some (none, σ'')) ∧ (fs1 (fun c => okB n (gA σ 5 0 4) 0 c && (hbB h0 c && soS τ1 p N g (tnS (gA σ 5 0 4) c))) m i = none → AP τ1 n p N g (gA σ 5 0 4) 36 (gA σ'' 4 0 0))
  | 0, i, hm, σ', hK, hA => by
    have hi : i = 36 := by omega
    subst hi
    exact ⟨σ', hK, by rw [bX4_seekLead_24, if_neg (show ¬ nI 36 < 36 by decide)]; rfl, fun _ => hA⟩
  | m + 1, i, hm, σ', hK, hA => by
    have hn6 := hQ.1.1.n6
    have hlt : nI i < 36 := nI_lt (b := 36) (by omega) (by decide)
    have a1 := ob (i := i) (N := 36) (by omega) (by decide)
    have c1 : (nI i).toNatClampNeg = i := nI_clamp (by omega)
    have d1 := (cd6 (c := i) (by omega)).1
    have hK1 := KC_A (upd (gA σ' 4 0 0) i (nI h0)) hK
    have hQ1 := RQ_sc hQ hK1.1 (scM_0 (τ := τ))
    have ep : gA (sA σ' 4 0 0 (upd (gA σ' 4 0 0) i (nI h0))) 5 0 = gA σ 5 0 := (hK1.1.2.1 0 (by decide)).2.2.2.2
    have hmis := e_missing (σ := sA σ' 4 0 0 (upd (gA σ' 4 0 0) i (nI h0))) (s := gA σ 5 0 4) hn6 hQ1.1.1.2.2.1.1 (fun j _ => by rw [ep]) (c := i) (by omega)
    have eA : gA (sA σ' 4 0 0 (upd (gA σ' 4 0 0) i (nI h0))) 4 0 0 = upd (gA σ' 4 0 0) i (nI h0) := gA_s
    rw [bX4_seekLead_24, if_pos hlt]
    simp only [c1, a1, ↓reduceIte]
    rw [hmis, bnd_s, tl_s, bX4_seekLead_36, d1, nI_S]
    simp only [fs1]
    by_cases ho : okB n (gA σ 5 0 4) 0 i = true
    · rw [bI_t ho, if_neg i10, e_has, bnd_s, tl_s, bX4_seekLead_42, nI_S]
      by_cases hb : bit (nI h0) (nI (i / 6)) = 0
      · have hc : ¬ (okB n (gA σ 5 0 4) 0 i && (hbB h0 i && soS τ1 p N g (tnS (gA σ 5 0 4) i))) = true := by
          have : hbB h0 i = false := decide_eq_false (fun z => z hb)
          rw [this, Bool.false_and, Bool.and_false]
          exact ffT
        rw [if_pos hb, if_neg hc]
        exact sl_loop hp hN hQ h8 h64 hP0 m (i + 1) (by omega) _ hK1 (by rw [eA]; exact AP_s hA h64 (fun _ => (PRs_off hP0 hb).1))
      · have hbt : hbB h0 i = true := decide_eq_true hb
        obtain ⟨σ1, σ2, h, q1, q2, q3, q4, q5, q6, q7⟩ := run1 hp hN hQ h8 hK1 (c := i) (by omega) ho
        rw [if_neg hb, e_begin, bnd_s, tl_n, bX4_seekLead_47, q2, bnd_s, tl_n, bX4_seekLead_50, q3, bnd_s, tl_s, bX4_seekLead_53, q4, q6, eA, nI_S]
        simp only [c1, a1, ↓reduceIte]
        by_cases hs : soS τ1 p N g (tnS (gA σ 5 0 4) i) = true
        · have hc : (okB n (gA σ 5 0 4) 0 i && (hbB h0 i && soS τ1 p N g (tnS (gA σ 5 0 4) i))) = true := by rw [ho, hbt, hs]; rfl
          rw [bI_t hs, if_neg i10, if_pos hc, e_take, bnd_s, tl_n, bX4_seekLead_59]
          exact ⟨σ2, q5, rfl, fun z => by cases z⟩
        · have hc : ¬ (okB n (gA σ 5 0 4) 0 i && (hbB h0 i && soS τ1 p N g (tnS (gA σ 5 0 4) i))) = true := by rw [ho, hbt, Bool.true_and, Bool.true_and]; exact hs
          rw [bI_f (Bool.eq_false_iff.mpr hs), if_pos rfl, if_neg hc]
          refine sl_loop hp hN hQ h8 h64 hP0 m (i + 1) (by omega) _ (KC_A _ q5) ?_
          have eB : gA (sA σ2 4 0 0 (upd (upd (gA σ' 4 0 0) i (nI h0)) i (nI h))) 4 0 0 = upd (upd (gA σ' 4 0 0) i (nI h0)) i (nI h) := gA_s
          rw [eB]
          have hA' : AP τ1 n p N g (gA σ 5 0 4) i (upd (gA σ' 4 0 0) i (nI h0)) := fun c hc' => by
            rw [upd_o (by omega)]
            exact hA c hc'
          exact AP_s hA' q1 (fun _ => q7)
    · have ho' : okB n (gA σ 5 0 4) 0 i = false := Bool.eq_false_iff.mpr ho
      have hc : ¬ (okB n (gA σ 5 0 4) 0 i && (hbB h0 i && soS τ1 p N g (tnS (gA σ 5 0 4) i))) = true := by rw [ho', Bool.false_and]; exact ffT
      rw [bI_f ho', if_pos rfl, if_neg hc]
      exact sl_loop hp hN hQ h8 h64 hP0 m (i + 1) (by omega) _ hK1 (by rw [eA]; exact AP_s hA h64 (fun z => absurd z ho))
end LE2
