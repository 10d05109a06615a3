/-! LEAD: whom one must see that a ribbon comes to one -/
theorem hs1 : ∀ h, h < 64 → ∀ x, x < 6 → nI h ||| ((1 : Int32) <<< (nI x &&& 31)) = nI (h ||| 2 ^ x) ∧ h ||| 2 ^ x < 64 ∧ ¬ bit (nI (h ||| 2 ^ x)) (nI x) = 0 := by decide +kernel
theorem hs2 : ∀ h, h < 64 → ∀ x, x < 6 → ∀ j, j < 6 → ¬ bit (nI h) (nI j) = 0 → ¬ bit (nI (h ||| 2 ^ x)) (nI j) = 0 := by decide +kernel
def mno (h h' : Nat) : Prop := ∀ j, j < 6 → ¬ bit (nI h) (nI j) = 0 → ¬ bit (nI h') (nI j) = 0
section LE1
variable {G n r p N : Nat} {g : Int32} {S : Nat → Prop} {σ τ : ST}
/-- a run of the class: who has a ribbon as each year begins is in the set -/
def TR (p r : Nat) (g : Int32) : Nat → ST → Bool → Nat → Prop
  | 0, σ, v, _ => v = decide (gA σ 5 1 5 p = g)
  | m + 1, σ, v, h' => ∃ h σb, h < 64 ∧ (∀ q, q < r → ∀ x, x < 6 → gA σ 5 1 5 q = nI x → ¬ bit (nI h) (nI x) = 0) ∧ den 4 [vR 0 1 0] (sI σ 4 0 7 (nI h)) = some (none, σb) ∧ mno h h' ∧ TR p r g m σb v h'
theorem YR_n (h : YR S G n r σ 1 τ 1) : YR SN G n r σ 1 τ 1 :=
  ⟨⟨h.1.1, h.1.2.1, h.1.2.2.1, h.1.2.2.2.1, h.1.2.2.2.2.1, fun _ _ z => z.elim, h.1.2.2.2.2.2.2⟩, h.2⟩
theorem YR_S (h : YR SN G n r σ 1 τ 1) (hs : ∀ j, j < n → S j → gA σ 5 1 4 j = sEff τ 1 j) : YR S G n r σ 1 τ 1 :=
  ⟨⟨h.1.1, h.1.2.1, h.1.2.2.1, h.1.2.2.2.1, h.1.2.2.2.2.1, hs, h.1.2.2.2.2.2.2⟩, h.2⟩
theorem YR_cs (h : YR SN G n r σ 1 τ 1) (s : Nat → Int32) : YR SN G n r (sA σ 5 1 4 s) 1 τ 1 :=
  ⟨⟨h.1.1, h.1.2.1, h.1.2.2.1, h.1.2.2.2.1, h.1.2.2.2.2.1, fun _ _ z => z.elim, h.1.2.2.2.2.2.2⟩, h.2⟩
theorem YR_ms (h : YR SN G n r σ 1 τ 1) (s : Nat → Int32) : YR SN G n r σ 1 (sA τ 12 0 46 s) 1 :=
  ⟨⟨h.1.1, h.1.2.1, h.1.2.2.1, h.1.2.2.2.1, h.1.2.2.2.2.1, fun _ _ z => z.elim, h.1.2.2.2.2.2.2⟩, h.2⟩
theorem YR_4 (h : YR S G n r σ 1 τ 1) (v : Int32) : YR S G n r (sI σ 4 0 7 v) 1 τ 1 := h
/-- what stays of the picks -/
def p4 (σ σ' : ST) : Prop := (∀ k, k ≠ 7 → gI σ' 4 0 k = gI σ 4 0 k) ∧ gA σ' 4 = gA σ 4 ∧ scC σ σ'
theorem p4_0 : p4 σ σ := ⟨fun _ _ => rfl, rfl, scC_0⟩
theorem p4_t {σ' σ'' : ST} (h1 : p4 σ σ') (h2 : p4 σ' σ'') : p4 σ σ'' := ⟨fun k hk => (h2.1 k hk).trans (h1.1 k hk), h2.2.1.trans h1.2.1, scC_t h1.2.2 h2.2.2⟩
theorem p4_7 (v : Int32) : p4 σ (sI σ 4 0 7 v) := ⟨fun _ hk => u3_nk hk, rfl, scC_I (Or.inl rfl) _⟩
theorem p4_fr {σ' : ST} (h : frC 1 σ σ') : p4 σ σ' := ⟨fun k _ => congrFun (congrFun (h.1 4 (by decide)).1 0) k, (h.1 4 (by decide)).2.1, scC_fr h⟩
/-- who has one goes into the set -/
theorem cm_in (hr2 : r ≤ 2) (hn6 : n ≤ 6) (hr : gI σ 2 (gR σ 0 1 4) 1 = nI r) (hh : ∀ q, q < r → ∃ x, x < n ∧ gA σ 5 1 5 q = nI x) (x2 : Int32) : ∀ (m j : Nat), j + m = r → ∀ (h : Nat), h < 64 → ∃ h2, h2 < 64 ∧ mno h h2 ∧ (∀ q, j ≤ q → q < r → ∀ x, x < 6 → gA σ 5 1 5 q = nI x → ¬ bit (nI h2) (nI x) = 0) ∧
    run kX4_comes 11 [some (vR 4 0 0), some (vR 0 1 0), some (vI x2), some (vI (nI j))] [] (sI σ 4 0 7 (nI h)) = (bnd (den 4 [vR 0 1 0] (sI σ 4 0 7 (nI h2))) fun v τ => run kX4_comes 32 [some (vR 4 0 0), some (vR 0 1 0), some (vI x2), some (vI (nI r))] (v.toList ++ []) τ)
  | 0, j, hm, h, h64 => by
    have hj : j = r := by omega
    subst hj
    have hlt : ¬ nI j < nI j := nI_nlt (by omega) (by omega)
    have e1 : gI (sI σ 4 0 7 (nI h)) 2 (gR (sI σ 4 0 7 (nI h)) 0 1 4) 1 = nI j := hr
    exact ⟨h, h64, fun _ _ z => z, fun q h1 h2 => by omega, by rw [bX4_comes_11, e1, if_neg hlt]⟩
  | m + 1, j, hm, h, h64 => by
    have hlt : nI j < nI r := nI_lt (by omega) (by omega)
    have e1 : gI (sI σ 4 0 7 (nI h)) 2 (gR (sI σ 4 0 7 (nI h)) 0 1 4) 1 = nI r := hr
    have e2 : gI (sI σ 4 0 7 (nI h)) 4 0 7 = nI h := gI_s
    have e3 : gA (sI σ 4 0 7 (nI h)) 5 1 5 = gA σ 5 1 5 := rfl
    have a1 := ob (i := j) (N := 2) (by omega) (by decide)
    have c1 : (nI j).toNatClampNeg = j := nI_clamp (by omega)
    obtain ⟨x, hx, ex⟩ := hh j (by omega)
    obtain ⟨q1, q2, q3⟩ := hs1 h h64 x (by omega)
    obtain ⟨h2, k1, k2, k3, k4⟩ := cm_in hr2 hn6 hr hh x2 m (j + 1) (by omega) (h ||| 2 ^ x) q2
    refine ⟨h2, k1, fun i hi hb => k2 i hi (hs2 h h64 x (by omega) i hi hb), fun q h1 h3 y hy ey => ?_, ?_⟩
    · by_cases e : q = j
      · subst e
        have : y = x := (nI_eq (by omega) (by omega)).mp (ey.symm.trans ex)
        rw [this]
        exact k2 x (by omega) q3
      · exact k3 q (by omega) h3 y hy ey
    · rw [bX4_comes_11, e1, if_pos hlt, e2, e3]
      simp only [c1, a1, ↓reduceIte, nI_S, ex]
      rw [q1, sII]
      exact k4
/-- Picks.comes: the run -/
theorem cm_loop (hp : p < r) (hN : N < 2 ^ 31) : ∀ (m i : Nat), i + m = N → ∀ (σ τ : ST) (h : Nat) (y3 : Option AV), YR SA G n r σ 1 τ 1 → gI σ 4 0 4 = nI p → gI σ 4 0 5 = g → gI σ 4 0 6 = nI N → gI σ 4 0 7 = nI h → h < 64 → ∃ v σ' h', h' < 64 ∧ mno h h' ∧
    run kX4_comes 5 [some (vR 4 0 0), some (vR 0 1 0), some (vI (nI i)), y3] [] σ = some (some (vI (bI v)), σ') ∧ TR p r g m σ v h' ∧ gI σ' 4 0 7 = nI h' ∧ p4 σ σ'
  | 0, i, hm, σ, τ, h, y3, hY, h4, h5, h6, h7, h64 => by
    have hr2 := hY.1.1.1.r2
    have hlt : ¬ nI i < nI N := nI_nlt (by omega) (by omega)
    have a1 := ob (i := p) (N := 2) (by omega) (by decide)
    have c1 : (nI p).toNatClampNeg = p := nI_clamp (by omega)
    refine ⟨decide (gA σ 5 1 5 p = g), σ, h, h64, fun _ _ z => z, ?_, rfl, h7, p4_0⟩
    rw [bX4_comes_5, h6, if_neg hlt, h4, h5]
    simp only [c1, a1, ↓reduceIte]
    by_cases e : gA σ 5 1 5 p = g
    · rw [if_pos e, bI_t (decide_eq_true e)]
    · rw [if_neg e, bI_f (decide_eq_false e)]
  | m + 1, i, hm, σ, τ, h, y3, hY, h4, h5, h6, h7, h64 => by
    have hr2 := hY.1.1.1.r2
    have hn6 := hY.1.n6
    have hlt : nI i < nI N := nI_lt (by omega) hN
    have hcr : gI σ 2 (gR σ 0 1 4) 1 = nI r := by rw [hY.1.2.1]; exact hY.1.1.1.2.2.1.2.2.1
    obtain ⟨h2, k1, k2, k3, k4⟩ := cm_in hr2 hn6 hcr (fun q hq => (hY.1.2.2.2.2.2.2.1 q hq).2) (nI i) r 0 (by omega) h h64
    obtain ⟨σb, τb, f1, f2, f3⟩ := year_pair (σ0 := sI σ 4 0 7 (nI h2)) (τ0 := τ) (σ := sI σ 4 0 7 (nI h2)) (τ := τ) ⟨YR_4 hY (nI h2), frC_0, frM_0⟩ (by decide) (fun _ _ _ _ _ => trivial)
    have t4 := p4_t (p4_7 (σ := σ) (nI h2)) (p4_fr f3.2.1)
    have e7 : gI σb 4 0 7 = nI h2 := by
      rw [congrFun (congrFun (f3.2.1.1 4 (by decide)).1 0) 7]
      exact gI_s
    obtain ⟨v, σ', h', q1, q2, q3, q4, q5, q6⟩ := cm_loop hp hN m (i + 1) (by omega) σb τb h2 (some (vI (nI r))) f3.1 ((t4.1 4 (by decide)).trans h4) ((t4.1 5 (by decide)).trans h5) ((t4.1 6 (by decide)).trans h6) e7 k1
    refine ⟨v, σ', h', q1, fun j hj hb => q2 j hj (k2 j hj hb), ?_, ⟨h2, σb, k1, fun q hq => k3 q (Nat.zero_le _) hq, f1, q2, q4⟩, q5, p4_t t4 q6⟩
    have es : sI σ 4 0 7 (nI h) = σ := by rw [← h7]; exact sI_id
    rw [nI_0, es] at k4
    rw [bX4_comes_5, h6, if_pos hlt, k4, f1, bnd_s, tl_n, bX4_comes_32, nI_S, q3]
/-- the reference goes as such a run -/
theorem TR_ref (hN : N < 2 ^ 31) {h' : Nat} (hS : ∀ j, j < n → ¬ bit (nI h') (nI j) = 0 → S j) (hp : p < r) : ∀ (m i : Nat), i + m = N → ∀ (σ τ : ST) (v : Bool), YR S G n r σ 1 τ 1 → TR p r g m σ v h' → ∃ τ',
    run kX12_goMany 2 [some (vR 12 0 0), some (vI (nI N)), some (vI (nI i))] [] τ = some (none, τ') ∧ frM 1 τ τ' ∧ v = decide (gA τ' 12 0 47 (2 + p) = g)
  | 0, i, hm, σ, τ, v, hY, hT => by
    have hlt : ¬ nI i < nI N := nI_nlt (by omega) (by omega)
    refine ⟨τ, by rw [bX12_goMany_2, if_neg hlt], frM_0, ?_⟩
    have e : gA σ 5 1 5 p = gA τ 12 0 47 (2 + p) := (hY.1.2.2.2.2.2.2.1 p hp).1
    rw [← e]
    exact hT
  | m + 1, i, hm, σ, τ, v, hY, hT => by
    have hn6 := hY.1.n6
    have hlt : nI i < nI N := nI_lt (by omega) hN
    obtain ⟨h, σb, h64, hq, hd, hm', hT'⟩ := hT
    obtain ⟨σ2, τ2, f1, f2, f3⟩ := year_pair (σ0 := sI σ 4 0 7 (nI h)) (τ0 := τ) (σ := sI σ 4 0 7 (nI h)) (τ := τ) ⟨YR_4 hY (nI h), frC_0, frM_0⟩ (by decide) (fun q hq' x hx ex => hS x hx (hm' x (by omega) (hq q hq' x (by omega) ex)))
    have es : σ2 = σb := by
      rw [hd] at f1
      injection f1 with f1
      injection f1 with _ f1
      exact f1.symm
    rw [es] at f3
    have f2' : den 224 [vR 12 0 0, vI 1] τ = some (none, τ2) := f2
    obtain ⟨τ', q1, q2, q3⟩ := TR_ref hN hS hp m (i + 1) (by omega) σb τ2 v f3.1 hT'
    exact ⟨τ', by rw [bX12_goMany_2, if_pos hlt, f2', bnd_s, tl_n, bX12_goMany_8, nI_S, q1], frM_t f3.2.2 q2, q3⟩
theorem TR_go (hN : N < 2 ^ 31) {h' : Nat} (hS : ∀ j, j < n → ¬ bit (nI h') (nI j) = 0 → S j) (hp : p < r) {v : Bool} (hY : YR S G n r σ 1 τ 1) (hT : TR p r g N σ v h') : ∃ τ',
    den 225 [vR 12 0 0, vI (nI N)] τ = some (none, τ') ∧ frM 1 τ τ' ∧ v = decide (gA τ' 12 0 47 (2 + p) = g) := by
  obtain ⟨τ', q1, q2, q3⟩ := TR_ref hN hS hp N 0 (by omega) σ τ v hY hT
  rw [nI_0] at q1
  exact ⟨τ', by rw [dX12_goMany, bX12_goMany_0, q1], q2, q3⟩
/-- what comes of sights, by the reference -/
noncomputable def soS (τ : ST) (p N : Nat) (g : Int32) (s : Nat → Int32) : Bool := match den 225 [vR 12 0 0, vI (nI N)] (sA τ 12 0 46 (fun k => s (k - 6))) with
  | some q => decide (gA q.2 12 0 47 (2 + p) = g)
  | none => false
theorem sEff_ms (hF : RF τ) (s : Nat → Int32) (j : Nat) : sEff (sA τ 12 0 46 (fun k => s (k - 6))) 1 j = s j := by
  have hF' : RF (sA τ 12 0 46 (fun k => s (k - 6))) := hF
  rw [sEff_RF hF', gA_s]
  show s (6 * 1 + j - 6) = s j
  congr 1
  omega
/-- a run says what comes of all sights that are the same for those in its set -/
theorem so_of (hN : N < 2 ^ 31) {h' : Nat} (hp : p < r) {v : Bool} (hY : YR SN G n r σ 1 τ 1) (hF : RF τ) (hT : TR p r g N σ v h') (s : Nat → Int32) (hs : ∀ j, j < n → ¬ bit (nI h') (nI j) = 0 → s j = gA σ 5 1 4 j) : soS τ p N g s = v := by
  obtain ⟨τ', q1, _, q3⟩ := TR_go (S := fun j => ¬ bit (nI h') (nI j) = 0) (τ := sA τ 12 0 46 (fun k => s (k - 6))) hN (fun _ _ h => h) hp (YR_S (YR_ms hY _) (fun j hj hb => by rw [sEff_ms hF, hs j hj hb])) hT
  unfold soS
  rw [q1]
  exact q3.symm
/-- Picks.comes -/
theorem e_comes (hp : p < r) (hN : N < 2 ^ 31) (hY : YR SN G n r σ 1 τ 1) (hF : RF τ) (h4 : gI σ 4 0 4 = nI p) (h5 : gI σ 4 0 5 = g) (h6 : gI σ 4 0 6 = nI N) : ∃ σ' h', h' < 64 ∧
    den 44 [vR 4 0 0, vR 0 1 0] σ = some (some (vI (bI (soS τ p N g (gA σ 5 1 4)))), σ') ∧ gI σ' 4 0 7 = nI h' ∧ p4 σ σ' ∧ (∀ s, (∀ j, j < n → ¬ bit (nI h') (nI j) = 0 → s j = gA σ 5 1 4 j) → soS τ p N g s = soS τ p N g (gA σ 5 1 4)) ∧ TR p r g N (sI σ 4 0 7 0) (soS τ p N g (gA σ 5 1 4)) h' := by
  have hY1 : YR SA G n r (sI σ 4 0 7 (nI 0)) 1 (sA τ 12 0 46 (fun k => gA σ 5 1 4 (k - 6))) 1 := YR_S (YR_ms (YR_4 hY (nI 0)) _) (fun j _ _ => by rw [sEff_ms hF]; rfl)
  obtain ⟨v, σ', h', q1, _, q3, q4, q5, q6⟩ := cm_loop (g := g) hp hN N 0 (by omega) (sI σ 4 0 7 (nI 0)) _ 0 none hY1 h4 h5 h6 gI_s (by decide)
  have e0 := so_of hN hp (YR_4 hY (nI 0)) hF q4 (gA σ 5 1 4) (fun _ _ _ => rfl)
  have e1 : ∀ s, (∀ j, j < n → ¬ bit (nI h') (nI j) = 0 → s j = gA σ 5 1 4 j) → soS τ p N g s = v := fun s hs => so_of hN hp (YR_4 hY (nI 0)) hF q4 s hs
  rw [nI_0] at q3 q4 q6
  refine ⟨σ', h', q1, ?_, q5, p4_t (p4_7 0) q6, fun s hs => (e1 s hs).trans e0.symm, ?_⟩
  · rw [dX4_comes, bX4_comes_0, q3, e0]
  · rw [e0]
    exact q4
/-- the reference, at any state that is laid so -/
theorem so_any (hp : p < r) (hN : N < 2 ^ 31) {τ1 : ST} (hY : YR SN G n r σ 1 τ 1) (hF : RF τ) (h4 : gI σ 4 0 4 = nI p) (h5 : gI σ 4 0 5 = g) (h6 : gI σ 4 0 6 = nI N) (s : Nat → Int32) (hY1 : YR SN G n r σ 1 τ1 1) (hs : ∀ j, j < n → sEff τ1 1 j = s j) : ∃ τ',
    den 225 [vR 12 0 0, vI (nI N)] τ1 = some (none, τ') ∧ frM 1 τ1 τ' ∧ soS τ p N g s = decide (gA τ' 12 0 47 (2 + p) = g) := by
  have es : gA (sA σ 5 1 4 s) 5 1 4 = s := gA_s
  obtain ⟨σ', h', _, _, _, _, _, hT⟩ := e_comes (σ := sA σ 5 1 4 s) (g := g) hp hN (YR_cs hY s) hF h4 h5 h6
  rw [es] at hT
  exact TR_go (S := SA) hN (fun _ _ _ => trivial) hp (YR_S (YR_4 (YR_cs hY1 s) 0) (fun j hj _ => by
    rw [hs j hj]
    exact congrFun es j)) hT
end LE1
