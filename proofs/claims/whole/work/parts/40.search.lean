/-! SEARCH: the fewest changes -/
def bI (p : Bool) : Int32 := if p = true then 1 else 0
theorem bI_t {p : Bool} (h : p = true) : bI p = 1 := if_pos h
theorem bI_f {p : Bool} (h : p = false) : bI p = 0 := by rw [h]; rfl
def fs1 (P : Nat → Bool) : Nat → Nat → Option Nat
  | 0, _ => none
  | m + 1, i => if P i = true then some i else fs1 P m (i + 1)
def fs2 (P : Nat → Nat → Bool) : Nat → Nat → Option (Nat × Nat)
  | 0, _ => none
  | m + 1, i => match fs1 (P i) m (i + 1) with
    | some j => some (i, j)
    | none => fs2 P m (i + 1)
/-- found, how many, the first, the second -/
def srP (P0 : Bool) (P1 : Nat → Bool) (P2 : Nat → Nat → Bool) : Int32 × Int32 × Int32 × Int32 :=
  if P0 = true then (1, 0, -1, -1) else match fs1 P1 36 0 with
    | some i => (1, 1, nI i, -1)
    | none => match fs2 P2 36 0 with
      | some q => (1, 2, nI q.1, nI q.2)
      | none => (0, 0, -1, -1)
theorem ffT : ¬ (false = true) := Bool.false_ne_true
section SRE
variable {P1 : Nat → Bool} {P2 : Nat → Nat → Bool}
theorem srP_0 : srP true P1 P2 = (1, 0, -1, -1) := rfl
theorem srP_1 {i : Nat} (h : fs1 P1 36 0 = some i) : srP false P1 P2 = (1, 1, nI i, -1) := by
  unfold srP
  rw [if_neg ffT, h]
theorem srP_2 {q : Nat × Nat} (h : fs1 P1 36 0 = none) (h2 : fs2 P2 36 0 = some q) : srP false P1 P2 = (1, 2, nI q.1, nI q.2) := by
  unfold srP
  rw [if_neg ffT, h, h2]
theorem srP_3 (h : fs1 P1 36 0 = none) (h2 : fs2 P2 36 0 = none) : srP false P1 P2 = (0, 0, -1, -1) := by
  unfold srP
  rw [if_neg ffT, h, h2]
end SRE
theorem fs1_c {P Q : Nat → Bool} {N : Nat} (h : ∀ i, i < N → P i = Q i) : ∀ (m i : Nat), i + m = N → fs1 P m i = fs1 Q m i
  | 0, _, _ => rfl
  | m + 1, i, hm => by
    simp only [fs1]
    rw [h i (by omega), fs1_c h m (i + 1) (by omega)]
theorem fs2_c {P Q : Nat → Nat → Bool} {N : Nat} (h : ∀ i j, i < j → j < N → P i j = Q i j) : ∀ (m i : Nat), i + m = N → fs2 P m i = fs2 Q m i
  | 0, _, _ => rfl
  | m + 1, i, hm => by
    simp only [fs2]
    have : fs1 (P i) m (i + 1) = fs1 (Q i) m (i + 1) := by
      -- only places behind i are asked
      have aux : ∀ (m' k : Nat), k + m' = N → i < k → fs1 (P i) m' k = fs1 (Q i) m' k := by
        intro m'
        induction m' with
        | zero => intro k _ _; rfl
        | succ m' ih =>
          intro k hk hik
          simp only [fs1]
          rw [h i k hik (by omega), ih (k + 1) (by omega) (by omega)]
      exact aux m (i + 1) (by omega) (by omega)
    rw [this, fs2_c h m (i + 1) (by omega)]
theorem fs1_lt {P : Nat → Bool} {N : Nat} : ∀ (m i : Nat), i + m = N → ∀ j, fs1 P m i = some j → j < N
  | 0, _, _, j, h => by simp only [fs1] at h; cases h
  | m + 1, i, hm, j, h => by
    simp only [fs1] at h
    by_cases hp : P i = true
    · rw [if_pos hp] at h
      injection h with h
      omega
    · rw [if_neg hp] at h
      exact fs1_lt m (i + 1) (by omega) j h
theorem fs1_none {P : Nat → Bool} {N : Nat} : ∀ (m i : Nat), i + m = N → fs1 P m i = none → ∀ j, i ≤ j → j < N → P j = false
  | 0, _, _, _, j, h1, h2 => by omega
  | m + 1, i, hm, h, j, h1, h2 => by
    simp only [fs1] at h
    by_cases hp : P i = true
    · rw [if_pos hp] at h
      cases h
    · rw [if_neg hp] at h
      by_cases e : j = i
      · rw [e]
        exact Bool.eq_false_iff.mpr hp
      · exact fs1_none m (i + 1) (by omega) h j (by omega) h2
theorem fs2_lt {P : Nat → Nat → Bool} {N : Nat} : ∀ (m i : Nat), i + m = N → ∀ q, fs2 P m i = some q → q.1 < N ∧ q.2 < N
  | 0, _, _, q, h => by simp only [fs2] at h; cases h
  | m + 1, i, hm, q, h => by
    simp only [fs2] at h
    cases hf : fs1 (P i) m (i + 1) with
    | some j =>
      rw [hf] at h
      injection h with h
      rw [← h]
      exact ⟨by omega, fs1_lt m (i + 1) (by omega) j hf⟩
    | none =>
      rw [hf] at h
      exact fs2_lt m (i + 1) (by omega) q h
section CHG
variable {x1 x2 x3 fl : Int32} {P0 : Bool} {ok so1 : Nat → Bool} {so2 : Nat → Nat → Bool} {K : ST → Prop}
theorem chg_1 (hok : ∀ c, c < 36 → ∀ τ', K τ' → den 242 [vR 12 0 0, vI (nI c), vI fl] τ' = some (some (vI (bI (ok c))), τ'))
    (h1 : ∀ c, c < 36 → ok c = true → ∀ τ', K τ' → ∃ τ'', den 243 [vR 12 0 0, vI x1, vI (nI c), vI (-1), vI x2, vI x3] τ' = some (some (vI (bI (so1 c))), τ'') ∧ K τ'') : ∀ (m i : Nat), i + m = 36 → ∀ τ', K τ' → ∀ y6 : Option AV, ∃ τ'', K τ'' ∧
    run kX12_changes 27 [some (vR 12 0 0), some (vI x1), some (vI x2), some (vI x3), some (vI fl), some (vI (nI i)), y6] [] τ' = (match fs1 (fun c => ok c && so1 c) m i with
      | some j => some (some (vI 1), sI (sI τ'' 12 0 63 1) 12 0 64 (nI j))
      | none => run kX12_changes 56 [some (vR 12 0 0), some (vI x1), some (vI x2), some (vI x3), some (vI fl), some (vI 0), y6] [] τ'')
  | 0, i, hm, τ', hK, y6 => by
    have hi : i = 36 := by omega
    subst hi
    exact ⟨τ', hK, by rw [bX12_changes_27, if_neg (show ¬ nI 36 < 36 by decide)]; rfl⟩
  | m + 1, i, hm, τ', hK, y6 => by
    have hlt : nI i < 36 := nI_lt (b := 36) (by omega) (by decide)
    rw [bX12_changes_27, if_pos hlt, hok i (by omega) τ' hK, bnd_s, tl_s, bX12_changes_34, nI_S]
    simp only [fs1]
    by_cases ho : ok i = true
    · obtain ⟨τ'', q1, q2⟩ := h1 i (by omega) ho τ' hK
      rw [bI_t ho, if_neg i10, q1, bnd_s, tl_s, bX12_changes_42, nI_S]
      by_cases hs : so1 i = true
      · have hc : (ok i && so1 i) = true := by rw [ho, hs]; rfl
        rw [bI_t hs, if_neg i10, if_pos hc]
        exact ⟨τ'', q2, rfl⟩
      · have hc : ¬ (ok i && so1 i) = true := by rw [ho]; exact hs
        rw [bI_f (Bool.eq_false_iff.mpr hs), if_pos rfl, if_neg hc]
        exact chg_1 hok h1 m (i + 1) (by omega) τ'' q2 y6
    · have ho' : ok i = false := Bool.eq_false_iff.mpr ho
      have hc : ¬ (ok i && so1 i) = true := by rw [ho']; exact Bool.false_ne_true
      rw [bI_f ho', if_pos rfl, if_neg hc]
      exact chg_1 hok h1 m (i + 1) (by omega) τ' hK y6
theorem chg_in (hok : ∀ c, c < 36 → ∀ τ', K τ' → den 242 [vR 12 0 0, vI (nI c), vI fl] τ' = some (some (vI (bI (ok c))), τ')) {c : Nat} (hc : c < 36)
    (h2 : ∀ d, c < d → d < 36 → ok d = true → ∀ τ', K τ' → ∃ τ'', den 243 [vR 12 0 0, vI x1, vI (nI c), vI (nI d), vI x2, vI x3] τ' = some (some (vI (bI (so2 c d))), τ'') ∧ K τ'') : ∀ (m i : Nat), i + m = 36 → c < i → ∀ τ', K τ' → ∃ τ'', K τ'' ∧ ∃ y,
    run kX12_changes 69 [some (vR 12 0 0), some (vI x1), some (vI x2), some (vI x3), some (vI fl), some (vI (nI c)), some (vI (nI i))] [] τ' = (match fs1 (fun d => ok d && so2 c d) m i with
      | some j => some (some (vI 1), sI (sI (sI τ'' 12 0 63 2) 12 0 64 (nI c)) 12 0 65 (nI j))
      | none => run kX12_changes 56 [some (vR 12 0 0), some (vI x1), some (vI x2), some (vI x3), some (vI fl), some (vI (nI (c + 1))), y] [] τ'')
  | 0, i, hm, hci, τ', hK => by
    have hi : i = 36 := by omega
    subst hi
    exact ⟨τ', hK, some (vI (nI 36)), by rw [bX12_changes_69, if_neg (show ¬ nI 36 < 36 by decide), nI_S]; rfl⟩
  | m + 1, i, hm, hci, τ', hK => by
    have hlt : nI i < 36 := nI_lt (b := 36) (by omega) (by decide)
    rw [bX12_changes_69, if_pos hlt, hok i (by omega) τ' hK, bnd_s, tl_s, bX12_changes_76, nI_S]
    simp only [fs1]
    by_cases ho : ok i = true
    · obtain ⟨τ'', q1, q2⟩ := h2 i hci (by omega) ho τ' hK
      rw [bI_t ho, if_neg i10, q1, bnd_s, tl_s, bX12_changes_84, nI_S]
      by_cases hs : so2 c i = true
      · have hc' : (ok i && so2 c i) = true := by rw [ho, hs]; rfl
        rw [bI_t hs, if_neg i10, if_pos hc']
        exact ⟨τ'', q2, none, rfl⟩
      · have hc' : ¬ (ok i && so2 c i) = true := by rw [ho]; exact hs
        rw [bI_f (Bool.eq_false_iff.mpr hs), if_pos rfl, if_neg hc']
        exact chg_in hok hc h2 m (i + 1) (by omega) (by omega) τ'' q2
    · have ho' : ok i = false := Bool.eq_false_iff.mpr ho
      have hc' : ¬ (ok i && so2 c i) = true := by rw [ho']; exact Bool.false_ne_true
      rw [bI_f ho', if_pos rfl, if_neg hc']
      exact chg_in hok hc h2 m (i + 1) (by omega) (by omega) τ' hK
theorem chg_2 (hok : ∀ c, c < 36 → ∀ τ', K τ' → den 242 [vR 12 0 0, vI (nI c), vI fl] τ' = some (some (vI (bI (ok c))), τ'))
    (h2 : ∀ c d, c < d → d < 36 → ok c = true → ok d = true → ∀ τ', K τ' → ∃ τ'', den 243 [vR 12 0 0, vI x1, vI (nI c), vI (nI d), vI x2, vI x3] τ' = some (some (vI (bI (so2 c d))), τ'') ∧ K τ'') : ∀ (m i : Nat), i + m = 36 → ∀ τ', K τ' → ∀ y6 : Option AV, ∃ τ'', K τ'' ∧
    run kX12_changes 56 [some (vR 12 0 0), some (vI x1), some (vI x2), some (vI x3), some (vI fl), some (vI (nI i)), y6] [] τ' = (match fs2 (fun c d => ok c && (ok d && so2 c d)) m i with
      | some q => some (some (vI 1), sI (sI (sI τ'' 12 0 63 2) 12 0 64 (nI q.1)) 12 0 65 (nI q.2))
      | none => some (some (vI 0), τ''))
  | 0, i, hm, τ', hK, y6 => by
    have hi : i = 36 := by omega
    subst hi
    exact ⟨τ', hK, by rw [bX12_changes_56, if_neg (show ¬ nI 36 < 36 by decide)]; rfl⟩
  | m + 1, i, hm, τ', hK, y6 => by
    have hlt : nI i < 36 := nI_lt (b := 36) (by omega) (by decide)
    rw [bX12_changes_56, if_pos hlt, hok i (by omega) τ' hK, bnd_s, tl_s, bX12_changes_63, nI_S]
    simp only [fs2]
    by_cases ho : ok i = true
    · rw [bI_t ho, if_neg i10]
      obtain ⟨τ'', q1, y, q2⟩ := chg_in (c := i) hok (by omega) (fun d h1 h3 hd => h2 i d h1 h3 ho hd) m (i + 1) (by omega) (by omega) τ' hK
      have e1 : fs1 (fun d => ok i && (ok d && so2 i d)) m (i + 1) = fs1 (fun d => ok d && so2 i d) m (i + 1) := by
        rw [ho]
        rfl
      rw [q2, e1]
      cases hf : fs1 (fun d => ok d && so2 i d) m (i + 1) with
      | some j => exact ⟨τ'', q1, rfl⟩
      | none => exact chg_2 hok h2 m (i + 1) (by omega) τ'' q1 y
    · have ho' : ok i = false := Bool.eq_false_iff.mpr ho
      have e1 : fs1 (fun d => ok i && (ok d && so2 i d)) m (i + 1) = none := by
        rw [ho']
        have aux : ∀ (m' k : Nat), fs1 (fun _ => false) m' k = none := by
          intro m'
          induction m' with
          | zero => intro k; rfl
          | succ m' ih => intro k; simp only [fs1]; exact ih (k + 1)
        exact aux m (i + 1)
      rw [bI_f ho', if_pos rfl, e1]
      exact chg_2 hok h2 m (i + 1) (by omega) τ' hK y6
theorem m_changes {τ : ST} (hfl : fl = if x3 = 0 then 1 else 0) (hKf : ∀ τ', K τ' → gI τ' 12 0 63 = 0 ∧ gI τ' 12 0 64 = -1 ∧ gI τ' 12 0 65 = -1)
    (h0 : ∃ τ', den 243 [vR 12 0 0, vI x1, vI (-1), vI (-1), vI x2, vI x3] (sI (sI (sI τ 12 0 63 0) 12 0 64 (-1)) 12 0 65 (-1)) = some (some (vI (bI P0)), τ') ∧ K τ')
    (hok : ∀ c, c < 36 → ∀ τ', K τ' → den 242 [vR 12 0 0, vI (nI c), vI fl] τ' = some (some (vI (bI (ok c))), τ'))
    (h1 : ∀ c, c < 36 → ok c = true → ∀ τ', K τ' → ∃ τ'', den 243 [vR 12 0 0, vI x1, vI (nI c), vI (-1), vI x2, vI x3] τ' = some (some (vI (bI (so1 c))), τ'') ∧ K τ'')
    (h2 : ∀ c d, c < d → d < 36 → ok c = true → ok d = true → ∀ τ', K τ' → ∃ τ'', den 243 [vR 12 0 0, vI x1, vI (nI c), vI (nI d), vI x2, vI x3] τ' = some (some (vI (bI (so2 c d))), τ'') ∧ K τ'') : ∃ τ', K τ' ∧
    den 244 [vR 12 0 0, vI x1, vI x2, vI x3] τ = some (some (vI (srP P0 (fun c => ok c && so1 c) (fun c d => ok c && (ok d && so2 c d))).1), sI (sI (sI τ' 12 0 63 (srP P0 (fun c => ok c && so1 c) (fun c d => ok c && (ok d && so2 c d))).2.1) 12 0 64 (srP P0 (fun c => ok c && so1 c) (fun c d => ok c && (ok d && so2 c d))).2.2.1) 12 0 65 (srP P0 (fun c => ok c && so1 c) (fun c d => ok c && (ok d && so2 c d))).2.2.2) := by
  obtain ⟨τ1, q1, k1⟩ := h0
  have idt : ∀ τ', K τ' → sI (sI (sI τ' 12 0 63 0) 12 0 64 (-1)) 12 0 65 (-1) = τ' := by
    intro τ' hK
    obtain ⟨z1, z2, z3⟩ := hKf τ' hK
    have e1 : sI τ' 12 0 63 0 = τ' := by rw [← z1]; exact sI_id
    have e2 : sI τ' 12 0 64 (-1) = τ' := by rw [← z2]; exact sI_id
    have e3 : sI τ' 12 0 65 (-1) = τ' := by rw [← z3]; exact sI_id
    rw [e1, e2, e3]
  rw [dX12_changes, bX12_changes_0, q1, bnd_s, tl_s, bX12_changes_16]
  cases P0 with
  | true =>
    rw [bI_t rfl, if_neg i10, srP_0]
    refine ⟨τ1, k1, ?_⟩
    show _ = some (some (vI 1), sI (sI (sI τ1 12 0 63 0) 12 0 64 (-1)) 12 0 65 (-1))
    rw [idt τ1 k1]
  | false =>
    rw [bI_f rfl, if_pos rfl]
    have e0 : (if x3 = 0 then run kX12_changes 27 [some (vR 12 0 0), some (vI x1), some (vI x2), some (vI x3), some (vI 1), some (vI 0), none] [] τ1 else run kX12_changes 27 [some (vR 12 0 0), some (vI x1), some (vI x2), some (vI x3), some (vI 0), some (vI 0), none] [] τ1) = run kX12_changes 27 [some (vR 12 0 0), some (vI x1), some (vI x2), some (vI x3), some (vI fl), some (vI 0), none] [] τ1 := by
      rw [hfl]
      by_cases h : x3 = 0
      · rw [if_pos h, if_pos h]
      · rw [if_neg h, if_neg h]
    rw [e0]
    obtain ⟨τ2, k2, q2⟩ := chg_1 (so1 := so1) hok h1 36 0 (by decide) τ1 k1 none
    rw [nI_0] at q2
    rw [q2]
    cases hf : fs1 (fun c => ok c && so1 c) 36 0 with
    | some j =>
      rw [srP_1 hf]
      refine ⟨τ2, k2, ?_⟩
      show _ = some (some (vI 1), sI (sI (sI τ2 12 0 63 1) 12 0 64 (nI j)) 12 0 65 (-1))
      have e3 : gI (sI (sI τ2 12 0 63 1) 12 0 64 (nI j)) 12 0 65 = -1 := (hKf τ2 k2).2.2
      have : sI (sI (sI τ2 12 0 63 1) 12 0 64 (nI j)) 12 0 65 (-1) = sI (sI τ2 12 0 63 1) 12 0 64 (nI j) := by
        rw [← e3]; exact sI_id
      rw [this]
    | none =>
      obtain ⟨τ3, k3, q3⟩ := chg_2 (so2 := so2) hok h2 36 0 (by decide) τ2 k2 none
      rw [nI_0] at q3
      show ∃ τ', K τ' ∧ run kX12_changes 56 _ [] τ2 = _
      rw [q3]
      cases hg : fs2 (fun c d => ok c && (ok d && so2 c d)) 36 0 with
      | some q =>
        rw [srP_2 hf hg]
        exact ⟨τ3, k3, rfl⟩
      | none =>
        rw [srP_3 hf hg]
        refine ⟨τ3, k3, ?_⟩
        show _ = some (some (vI 0), sI (sI (sI τ3 12 0 63 0) 12 0 64 (-1)) 12 0 65 (-1))
        rw [idt τ3 k3]
end CHG
/-- what the class has behind its search -/
def pkP (P0 : Bool) (P1 : Nat → Bool) (P2 : Nat → Nat → Bool) : Int32 × Int32 × Int32 :=
  if P0 = true then (0, 0, 0) else match fs1 P1 36 0 with
    | some i => (1, nI i, 0)
    | none => match fs2 P2 36 0 with
      | some q => (2, nI q.1, nI q.2)
      | none => (-2, 0, 0)
section PKE
variable {P1 : Nat → Bool} {P2 : Nat → Nat → Bool}
theorem pkP_0 : pkP true P1 P2 = (0, 0, 0) := rfl
theorem pkP_1 {i : Nat} (h : fs1 P1 36 0 = some i) : pkP false P1 P2 = (1, nI i, 0) := by
  unfold pkP
  rw [if_neg ffT, h]
theorem pkP_2 {q : Nat × Nat} (h : fs1 P1 36 0 = none) (h2 : fs2 P2 36 0 = some q) : pkP false P1 P2 = (2, nI q.1, nI q.2) := by
  unfold pkP
  rw [if_neg ffT, h, h2]
theorem pkP_3 (h : fs1 P1 36 0 = none) (h2 : fs2 P2 36 0 = none) : pkP false P1 P2 = (-2, 0, 0) := by
  unfold pkP
  rw [if_neg ffT, h, h2]
end PKE
/-- told and changed say the same -/
theorem told_same {σ τ : ST} {P0 : Bool} {P1 : Nat → Bool} {P2 : Nat → Nat → Bool} {k : Nat} (hk : k ≤ 2)
    (h1 : gI σ 4 0 1 = (pkP P0 P1 P2).1) (h2 : gI σ 4 0 2 = (pkP P0 P1 P2).2.1) (h3 : gI σ 4 0 3 = (pkP P0 P1 P2).2.2)
    (t1 : gI τ 12 0 63 = (srP P0 P1 P2).2.1) (t2 : gI τ 12 0 64 = (srP P0 P1 P2).2.2.1) (t3 : gI τ 12 0 65 = (srP P0 P1 P2).2.2.2) : ∃ v : Int32,
    den 32 [vR 4 0 0, vI (nI k)] σ = some (some (vI v), σ) ∧ (if (srP P0 P1 P2).1 = 0 then v = -2 else den 245 [vR 12 0 0, vI (nI k)] τ = some (some (vI v), τ)) := by
  have cm : ∀ x : Nat, nI x / 6 * 10 + (nI x - nI x / 6 * 6) = 10 * (nI x / 6) + (nI x - nI x / 6 * 6) := fun x => by rw [Int32.mul_comm]
  have hk' : k = 0 ∨ k = 1 ∨ k = 2 := by omega
  have ne1 : ¬ nI 1 = 0 := by decide
  have ne2 : ¬ nI 2 = 0 := by decide
  have ne21 : ¬ nI 2 = 1 := by decide
  have e11 : nI 1 = 1 := rfl
  rw [dX4_told, bX4_told_0, dX12_changed, bX12_changed_0]
  cases P0 with
  | true =>
    rw [pkP_0] at h1 h2 h3
    rw [srP_0] at t1 t2 t3 ⊢
    dsimp only at h1 h2 h3 t1 t2 t3 ⊢
    rw [h1, h2, h3, t1, t2, t3]
    simp only [if_neg (show ¬ (1 : Int32) = 0 from i10)]
    rcases hk' with rfl | rfl | rfl
    · exact ⟨0, rfl, rfl⟩
    · exact ⟨-2, rfl, rfl⟩
    · exact ⟨-2, rfl, rfl⟩
  | false =>
    cases hf : fs1 P1 36 0 with
    | some i =>
      rw [pkP_1 hf] at h1 h2 h3
      rw [srP_1 hf] at t1 t2 t3 ⊢
      dsimp only at h1 h2 h3 t1 t2 t3 ⊢
      rw [h1, h2, h3, t1, t2, t3]
      simp only [if_neg (show ¬ (1 : Int32) = 0 from i10)]
      have hi := fs1_lt (N := 36) 36 0 (by decide) i hf
      have l : ¬ nI i < 0 := nI_pos (by omega)
      rcases hk' with rfl | rfl | rfl
      · exact ⟨1, rfl, rfl⟩
      · refine ⟨10 * (nI i / 6) + (nI i - nI i / 6 * 6), ?_, ?_⟩
        · rw [if_neg (show ¬ (1 : Int32) < nI 1 by decide), if_neg ne1, if_pos e11, cm i]
        · rw [if_neg ne1, if_pos e11, if_neg l]
      · exact ⟨-2, rfl, rfl⟩
    | none =>
      cases hg : fs2 P2 36 0 with
      | some q =>
        rw [pkP_2 hf hg] at h1 h2 h3
        rw [srP_2 hf hg] at t1 t2 t3 ⊢
        dsimp only at h1 h2 h3 t1 t2 t3 ⊢
        rw [h1, h2, h3, t1, t2, t3]
        simp only [if_neg (show ¬ (1 : Int32) = 0 from i10)]
        obtain ⟨l1, l2⟩ := fs2_lt (N := 36) 36 0 (by decide) q hg
        have n1 : ¬ nI q.1 < 0 := nI_pos (by omega)
        have n2 : ¬ nI q.2 < 0 := nI_pos (by omega)
        rcases hk' with rfl | rfl | rfl
        · exact ⟨2, rfl, rfl⟩
        · refine ⟨10 * (nI q.1 / 6) + (nI q.1 - nI q.1 / 6 * 6), ?_, ?_⟩
          · rw [if_neg (show ¬ (2 : Int32) < nI 1 by decide), if_neg ne1, if_pos e11, cm q.1]
          · rw [if_neg ne1, if_pos e11, if_neg n1]
        · refine ⟨10 * (nI q.2 / 6) + (nI q.2 - nI q.2 / 6 * 6), ?_, ?_⟩
          · rw [if_neg (show ¬ (2 : Int32) < nI 2 by decide), if_neg ne2, if_neg ne21, cm q.2]
          · rw [if_neg ne2, if_neg ne21, if_neg n2]
      | none =>
        rw [pkP_3 hf hg] at h1 h2 h3
        rw [srP_3 hf hg] at t1 t2 t3 ⊢
        dsimp only at h1 h2 h3 t1 t2 t3 ⊢
        rw [h1, h2, h3, t1, t2, t3]
        simp only [if_pos (show (0 : Int32) = 0 from rfl)]
        rcases hk' with rfl | rfl | rfl
        · exact ⟨-2, rfl, rfl⟩
        · exact ⟨-2, rfl, rfl⟩
        · exact ⟨-2, rfl, rfl⟩
