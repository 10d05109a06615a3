/-! WHAT A YEAR LEAVES ALONE, and what each of its writes keeps -/
def frC (o : Nat) (σ σ' : ST) : Prop :=
  (∀ c, c ≠ 5 → gI σ' c = gI σ c ∧ gA σ' c = gA σ c ∧ gL σ' c = gL σ c) ∧ (∀ p, p ≠ o → gI σ' 5 p = gI σ 5 p ∧ gA σ' 5 p = gA σ 5 p ∧ gL σ' 5 p = gL σ 5 p) ∧ gR σ' = gR σ ∧ gA σ' 5 o 4 = gA σ 5 o 4 ∧ ∀ p, ¬ nI p < gI σ 2 (gR σ 0 o 4) 1 → p < 2 → gA σ' 5 o 7 p = gA σ 5 o 7 p
def frM (b : Nat) (τ τ' : ST) : Prop :=
  (∀ k, k ≠ 43 → gI τ' 12 0 k = gI τ 12 0 k) ∧ (∀ k, k < 44 ∨ k = 46 ∨ 50 < k → gA τ' 12 0 k = gA τ 12 0 k) ∧
  (∀ j, (j < 6 * b ∨ 6 * b + 6 ≤ j) → gA τ' 12 0 44 j = gA τ 12 0 44 j ∧ gA τ' 12 0 45 j = gA τ 12 0 45 j) ∧
  (∀ j, (j < 2 * b ∨ 2 * b + 2 ≤ j) → gA τ' 12 0 47 j = gA τ 12 0 47 j ∧ gA τ' 12 0 48 j = gA τ 12 0 48 j ∧ gA τ' 12 0 49 j = gA τ 12 0 49 j) ∧
  (∀ j, j ≠ b → gA τ' 12 0 50 j = gA τ 12 0 50 j) ∧ (∀ k, k ≠ 51 → gL τ' 12 0 k = gL τ 12 0 k) ∧ (gI τ 12 0 52 = 0 → gL τ' 12 0 51 = gL τ 12 0 51)
section FR
variable {o b : Nat} {σ σ' σ'' τ τ' τ'' : ST}
theorem frC_0 : frC o σ σ := ⟨fun _ _ => ⟨rfl, rfl, rfl⟩, fun _ _ => ⟨rfl, rfl, rfl⟩, rfl, rfl, fun _ _ _ => rfl⟩
theorem frC_t (h1 : frC o σ σ') (h2 : frC o σ' σ'') : frC o σ σ'' :=
  ⟨fun c hc => ⟨(h2.1 c hc).1.trans (h1.1 c hc).1, (h2.1 c hc).2.1.trans (h1.1 c hc).2.1, (h2.1 c hc).2.2.trans (h1.1 c hc).2.2⟩,
   fun p hp => ⟨(h2.2.1 p hp).1.trans (h1.2.1 p hp).1, (h2.2.1 p hp).2.1.trans (h1.2.1 p hp).2.1, (h2.2.1 p hp).2.2.trans (h1.2.1 p hp).2.2⟩,
   h2.2.2.1.trans h1.2.2.1, h2.2.2.2.1.trans h1.2.2.2.1, fun p hp hl => (h2.2.2.2.2 p (by rw [(h1.1 2 (by decide)).1, h1.2.2.1]; exact hp) hl).trans (h1.2.2.2.2 p hp hl)⟩
theorem frM_0 : frM b τ τ := ⟨fun _ _ => rfl, fun _ _ => rfl, fun _ _ => ⟨rfl, rfl⟩, fun _ _ => ⟨rfl, rfl, rfl⟩, fun _ _ => rfl, fun _ _ => rfl, fun _ => rfl⟩
theorem frM_t (h1 : frM b τ τ') (h2 : frM b τ' τ'') : frM b τ τ'' :=
  ⟨fun k hk => (h2.1 k hk).trans (h1.1 k hk), fun k hk => (h2.2.1 k hk).trans (h1.2.1 k hk),
   fun j hj => ⟨(h2.2.2.1 j hj).1.trans (h1.2.2.1 j hj).1, (h2.2.2.1 j hj).2.trans (h1.2.2.1 j hj).2⟩,
   fun j hj => ⟨(h2.2.2.2.1 j hj).1.trans (h1.2.2.2.1 j hj).1, (h2.2.2.2.1 j hj).2.1.trans (h1.2.2.2.1 j hj).2.1, (h2.2.2.2.1 j hj).2.2.trans (h1.2.2.2.1 j hj).2.2⟩,
   fun j hj => (h2.2.2.2.2.1 j hj).trans (h1.2.2.2.2.1 j hj), fun k hk => (h2.2.2.2.2.2.1 k hk).trans (h1.2.2.2.2.2.1 k hk),
   fun hd => (h2.2.2.2.2.2.2 ((h1.1 52 (by decide)).trans hd)).trans (h1.2.2.2.2.2.2 hd)⟩
theorem u3_nc {α : Type} {f : Nat → Nat → Nat → α} {c o k c' : Nat} {v : α} (h : c' ≠ c) : u3 f c o k v c' = f c' := by
  funext p d
  unfold u3
  rw [if_neg (fun z => h z.2.1)]
theorem u3_no {α : Type} {f : Nat → Nat → Nat → α} {c o k c' o' : Nat} {v : α} (h : o' ≠ o) : u3 f c o k v c' o' = f c' o' := by
  funext d
  unfold u3
  rw [if_neg (fun z => h z.2.2)]
theorem u3_nk {α : Type} {f : Nat → Nat → Nat → α} {c o k c' o' k' : Nat} {v : α} (h : k' ≠ k) : u3 f c o k v c' o' k' = f c' o' k' := by
  unfold u3
  rw [if_neg (fun z => h z.1)]
theorem frC_A (k : Nat) (hk : k ≠ 4) (hk7 : k ≠ 7) (f : Nat → Int32) : frC o σ (sA σ 5 o k f) :=
  ⟨fun _ hc => ⟨rfl, u3_nc hc, rfl⟩, fun _ hp => ⟨rfl, u3_no hp, rfl⟩, rfl, u3_nk (fun z => hk z.symm), fun p _ _ => congrFun (u3_nk (fun z => hk7 z.symm)) p⟩
theorem frC_I (k : Nat) (v : Int32) : frC o σ (sI σ 5 o k v) :=
  ⟨fun _ hc => ⟨u3_nc hc, rfl, rfl⟩, fun _ hp => ⟨u3_no hp, rfl, rfl⟩, rfl, rfl, fun _ _ _ => rfl⟩
theorem frC_L (k : Nat) (v : Int64) : frC o σ (sL σ 5 o k v) :=
  ⟨fun _ hc => ⟨rfl, rfl, u3_nc hc⟩, fun _ hp => ⟨rfl, rfl, u3_no hp⟩, rfl, rfl, fun _ _ _ => rfl⟩
theorem frC_B (B : Nat → Nat → Nat → Nat → Int64) : frC o σ (wB σ B) := frC_0
theorem frM_E (B : Nat → Nat → Nat → Nat → Int64) (e : Int32) : frM b τ (wE τ B e) :=
  ⟨fun _ hk => u3_nk hk, fun _ _ => rfl, fun _ _ => ⟨rfl, rfl⟩, fun _ _ => ⟨rfl, rfl, rfl⟩, fun _ _ => rfl, fun _ _ => rfl, fun _ => rfl⟩
theorem frM_L (v : Int64) (hd : gI τ 12 0 52 ≠ 0) : frM b τ (sL τ 12 0 51 v) :=
  ⟨fun _ _ => rfl, fun _ _ => rfl, fun _ _ => ⟨rfl, rfl⟩, fun _ _ => ⟨rfl, rfl, rfl⟩, fun _ _ => rfl, fun _ hk => u3_nk hk, fun h => absurd h hd⟩
theorem gA_n {c p k c' p' k' : Nat} {f : Nat → Int32} (h : k' ≠ k) : gA (sA σ c p k f) c' p' k' = gA σ c' p' k' := u3_nk h
theorem upd_o {f : Nat → Int32} {i j : Nat} {v : Int32} (h : j ≠ i) : upd f i v j = f j := pk_un h
theorem frC_7 {p : Nat} (hp : nI p < gI σ 2 (gR σ 0 o 4) 1) (v : Int32) : frC o σ (sA σ 5 o 7 (upd (gA σ 5 o 7) p v)) :=
  ⟨fun _ hc => ⟨rfl, u3_nc hc, rfl⟩, fun _ hp => ⟨rfl, u3_no hp, rfl⟩, rfl, rfl, fun q hq _ => by
    have e : gA (sA σ 5 o 7 (upd (gA σ 5 o 7) p v)) 5 o 7 = upd (gA σ 5 o 7) p v := gA_s
    rw [e, upd_o (fun z => hq (by rw [z]; exact hp))]⟩
theorem frM_6 {k i : Nat} (hk : k = 44 ∨ k = 45) (hi : 6 * b ≤ i ∧ i < 6 * b + 6) (v : Int32) : frM b τ (sA τ 12 0 k (upd (gA τ 12 0 k) i v)) := by
  refine ⟨fun _ _ => rfl, fun q hq => gA_n (by omega), fun j hj => ?_, fun j _ => ⟨?_, ?_, ?_⟩, fun j _ => ?_, fun _ _ => rfl, fun _ => rfl⟩
  · rcases hk with rfl | rfl
    · exact ⟨by rw [gA_s, upd_o (by omega)], by rw [gA_n (by decide)]⟩
    · exact ⟨by rw [gA_n (by decide)], by rw [gA_s, upd_o (by omega)]⟩
  · rw [gA_n (by omega)]
  · rw [gA_n (by omega)]
  · rw [gA_n (by omega)]
  · rw [gA_n (by omega)]
theorem frM_2 {k i : Nat} (hk : k = 47 ∨ k = 48 ∨ k = 49) (hi : 2 * b ≤ i ∧ i < 2 * b + 2) (v : Int32) : frM b τ (sA τ 12 0 k (upd (gA τ 12 0 k) i v)) := by
  refine ⟨fun _ _ => rfl, fun q hq => gA_n (by omega), fun j hj => ⟨?_, ?_⟩, fun j hj => ?_, fun j _ => ?_, fun _ _ => rfl, fun _ => rfl⟩
  · rw [gA_n (by omega)]
  · rw [gA_n (by omega)]
  · rcases hk with rfl | rfl | rfl
    · exact ⟨by rw [gA_s, upd_o (by omega)], by rw [gA_n (by decide)], by rw [gA_n (by decide)]⟩
    · exact ⟨by rw [gA_n (by decide)], by rw [gA_s, upd_o (by omega)], by rw [gA_n (by decide)]⟩
    · exact ⟨by rw [gA_n (by decide)], by rw [gA_n (by decide)], by rw [gA_s, upd_o (by omega)]⟩
  · rw [gA_n (by omega)]
theorem frM_y (v : Int32) : frM b τ (sA τ 12 0 50 (upd (gA τ 12 0 50) b v)) := by
  refine ⟨fun _ _ => rfl, fun q hq => gA_n (by omega), fun j hj => ⟨?_, ?_⟩, fun j hj => ⟨?_, ?_, ?_⟩, fun j hj => ?_, fun _ _ => rfl, fun _ => rfl⟩
  · rw [gA_n (by decide)]
  · rw [gA_n (by decide)]
  · rw [gA_n (by decide)]
  · rw [gA_n (by decide)]
  · rw [gA_n (by decide)]
  · rw [gA_s, upd_o hj]
end FR
/-- blight as the class's switch has it -/
def blE (τ : ST) : Int32 := if gI τ 12 0 53 = 0 then (if gA τ 12 0 19 0 = 0 then 0 else if gA τ 12 0 19 0 = 100 then 1 else if gI τ 12 0 52 = 0 then (if gA τ 12 0 19 0 < 50 then 0 else 1) else 2) else 0
/-- what a year rests on -/
def YR (S : Nat → Prop) (G n r : Nat) (σ : ST) (o : Nat) (τ : ST) (b : Nat) : Prop :=
  YQ S G n r σ o τ b ∧ gI σ 0 o 6 = (if gI τ 12 0 55 = 0 then 1 else 0) ∧ gI σ 0 o 5 = blE τ ∧ (gI τ 12 0 52 ≠ 0 → gL σ 5 o 1 = gL τ 12 0 51)
def YZ (S : Nat → Prop) (G n r o b : Nat) (σ0 τ0 σ τ : ST) : Prop := YR S G n r σ o τ b ∧ frC o σ0 σ ∧ frM b τ0 τ
section YZS
variable {S : Nat → Prop} {G n r o b : Nat} {σ0 τ0 σ τ : ST}
theorem YZ.e (h : YZ S G n r o b σ0 τ0 σ τ) (B B' : Nat → Nat → Nat → Nat → Int64) (e : Int32) : YZ S G n r o b σ0 τ0 (wB σ B) (wE τ B' e) :=
  ⟨h.1, frC_t h.2.1 (frC_B B), frM_t h.2.2 (frM_E B' e)⟩
theorem YZ.q (h : YZ S G n r o b σ0 τ0 σ τ) : YQ S G n r σ o τ b := h.1.1
theorem YZ.n6 (h : YZ S G n r o b σ0 τ0 σ τ) : n ≤ 6 := h.1.1.n6
theorem YZ.r2 (h : YZ S G n r o b σ0 τ0 σ τ) : r ≤ 2 := h.1.1.1.1.r2
theorem YZ.cn (h : YZ S G n r o b σ0 τ0 σ τ) : gI σ 2 (gR σ 0 o 4) 0 = nI n := by rw [h.1.1.2.1]; exact h.1.1.1.1.2.2.1.1
theorem YZ.cr (h : YZ S G n r o b σ0 τ0 σ τ) : gI σ 2 (gR σ 0 o 4) 1 = nI r := by rw [h.1.1.2.1]; exact h.1.1.1.1.2.2.1.2.2.1
theorem YZ.mn (h : YZ S G n r o b σ0 τ0 σ τ) : gI τ 12 0 12 = nI n := h.1.1.1.1.mn
theorem YZ.mr (h : YZ S G n r o b σ0 τ0 σ τ) : gI τ 12 0 13 = nI r := h.1.1.1.1.mr
theorem YZ.worth (h : YZ S G n r o b σ0 τ0 σ τ) {j x : Nat} (hj : j < n) (hx : x ≤ 999) : YZ S G n r o b σ0 τ0 (sA σ 5 o 2 (upd (gA σ 5 o 2) j (nI x))) (sA τ 12 0 44 (upd (gA τ 12 0 44) (6 * b + j) (nI x))) := by
  have hn6 := h.n6
  refine ⟨⟨⟨h.1.1.1, h.1.1.2.1, h.1.1.2.2.1, ?_, h.1.1.2.2.2.2⟩, h.1.2⟩, frC_t h.2.1 (frC_A 2 (by decide) (by decide) _), frM_t h.2.2 (frM_6 (Or.inl rfl) (by omega) _)⟩
  intro i hi
  rw [gA_s, gA_s]
  by_cases e : i = j
  · subst e
    rw [pk_us, pk_us]
    exact ⟨rfl, x, hx, rfl⟩
  · rw [upd_o e, upd_o (by omega)]
    exact h.1.1.2.2.2.1 i hi
theorem YZ.since (h : YZ S G n r o b σ0 τ0 σ τ) {p : Nat} (hp : p < r) (v : Int32) : YZ S G n r o b σ0 τ0 (sA σ 5 o 6 (upd (gA σ 5 o 6) p v)) (sA τ 12 0 48 (upd (gA τ 12 0 48) (2 * b + p) v)) := by
  have hr2 := h.r2
  refine ⟨⟨⟨h.1.1.1, h.1.1.2.1, h.1.1.2.2.1, h.1.1.2.2.2.1, h.1.1.2.2.2.2.1, h.1.1.2.2.2.2.2.1, h.1.1.2.2.2.2.2.2.1, ?_, h.1.1.2.2.2.2.2.2.2.2⟩, h.1.2⟩, frC_t h.2.1 (frC_A 6 (by decide) (by decide) _), frM_t h.2.2 (frM_2 (Or.inr (Or.inl rfl)) (by omega) _)⟩
  intro i hi
  rw [gA_s, gA_s]
  by_cases e : i = p
  · subst e
    rw [pk_us, pk_us]
  · rw [upd_o e, upd_o (by omega)]
    exact h.1.1.2.2.2.2.2.2.2.1 i hi
theorem YZ.handed (h : YZ S G n r o b σ0 τ0 σ τ) {p : Nat} (hp : p < r) (v : Int32) : YZ S G n r o b σ0 τ0 (sA σ 5 o 7 (upd (gA σ 5 o 7) p v)) (sA τ 12 0 49 (upd (gA τ 12 0 49) (2 * b + p) v)) := by
  have hr2 := h.r2
  refine ⟨⟨⟨h.1.1.1, h.1.1.2.1, h.1.1.2.2.1, h.1.1.2.2.2.1, h.1.1.2.2.2.2.1, h.1.1.2.2.2.2.2.1, h.1.1.2.2.2.2.2.2.1, h.1.1.2.2.2.2.2.2.2.1, ?_, h.1.1.2.2.2.2.2.2.2.2.2⟩, h.1.2⟩, frC_t h.2.1 (frC_7 (by rw [h.cr]; exact nI_lt hp (by omega)) _), frM_t h.2.2 (frM_2 (Or.inr (Or.inr rfl)) (by omega) _)⟩
  intro i hi
  rw [gA_s, gA_s]
  by_cases e : i = p
  · subst e
    rw [pk_us, pk_us]
  · rw [upd_o e, upd_o (by omega)]
    exact h.1.1.2.2.2.2.2.2.2.2.1 i hi
theorem YZ.had (h : YZ S G n r o b σ0 τ0 σ τ) {j : Nat} (hj : j < n) (v : Int32) : YZ S G n r o b σ0 τ0 (sA σ 5 o 3 (upd (gA σ 5 o 3) j v)) (sA τ 12 0 45 (upd (gA τ 12 0 45) (6 * b + j) v)) := by
  have hn6 := h.n6
  refine ⟨⟨⟨h.1.1.1, h.1.1.2.1, h.1.1.2.2.1, h.1.1.2.2.2.1, ?_, h.1.1.2.2.2.2.2⟩, h.1.2⟩, frC_t h.2.1 (frC_A 3 (by decide) (by decide) _), frM_t h.2.2 (frM_6 (Or.inr rfl) (by omega) _)⟩
  intro i hi
  rw [gA_s, gA_s]
  by_cases e : i = j
  · subst e
    rw [pk_us, pk_us]
  · rw [upd_o e, upd_o (by omega)]
    exact h.1.1.2.2.2.2.1 i hi
theorem YZ.holder (h : YZ S G n r o b σ0 τ0 σ τ) {p x : Nat} (hp : p < r) (hx : x < n) : YZ S G n r o b σ0 τ0 (sA σ 5 o 5 (upd (gA σ 5 o 5) p (nI x))) (sA τ 12 0 47 (upd (gA τ 12 0 47) (2 * b + p) (nI x))) := by
  have hr2 := h.r2
  refine ⟨⟨⟨h.1.1.1, h.1.1.2.1, h.1.1.2.2.1, h.1.1.2.2.2.1, h.1.1.2.2.2.2.1, h.1.1.2.2.2.2.2.1, ?_, h.1.1.2.2.2.2.2.2.2⟩, h.1.2⟩, frC_t h.2.1 (frC_A 5 (by decide) (by decide) _), frM_t h.2.2 (frM_2 (Or.inl rfl) (by omega) _)⟩
  intro i hi
  rw [gA_s, gA_s]
  by_cases e : i = p
  · subst e
    rw [pk_us, pk_us]
    exact ⟨rfl, x, hx, rfl⟩
  · rw [upd_o e, upd_o (by omega)]
    exact h.1.1.2.2.2.2.2.2.1 i hi
theorem YZ.year (h : YZ S G n r o b σ0 τ0 σ τ) : YZ S G n r o b σ0 τ0 (sI σ 5 o 0 (gI σ 5 o 0 + 1)) (sA τ 12 0 50 (upd (gA τ 12 0 50) b (gA τ 12 0 50 b + 1))) := by
  refine ⟨⟨⟨h.1.1.1, h.1.1.2.1, h.1.1.2.2.1, h.1.1.2.2.2.1, h.1.1.2.2.2.2.1, h.1.1.2.2.2.2.2.1, h.1.1.2.2.2.2.2.2.1, h.1.1.2.2.2.2.2.2.2.1, h.1.1.2.2.2.2.2.2.2.2.1, ?_⟩, h.1.2⟩, frC_t h.2.1 (frC_I 0 _), frM_t h.2.2 (frM_y _)⟩
  rw [gI_s, gA_s, pk_us, h.1.1.2.2.2.2.2.2.2.2.2]
theorem YZ.num (h : YZ S G n r o b σ0 τ0 σ τ) (hd : gI τ 12 0 52 ≠ 0) (v : Int64) : YZ S G n r o b σ0 τ0 (sL σ 5 o 1 v) (sL τ 12 0 51 v) := by
  refine ⟨⟨h.1.1, h.1.2.1, h.1.2.2.1, fun _ => ?_⟩, frC_t h.2.1 (frC_L 1 _), frM_t h.2.2 (frM_L _ hd)⟩
  show u3 σ.2.1 5 o 1 v 5 o 1 = u3 τ.2.1 12 0 51 v 12 0 51
  rw [u3_s, u3_s]
end YZS
