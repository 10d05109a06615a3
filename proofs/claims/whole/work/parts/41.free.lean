/-! FREE: what to hide that a ribbon gets out of a ring -/
def tnX (c k : Nat) : Int32 := if k = c / 6 then (1 : Int32) <<< (nI (c % 6) &&& 31) else 0
/-- one sight turned -/
def tnS (s : Nat → Int32) (c : Nat) : Nat → Int32 := fun k => s k ^^^ tnX c k
theorem tnS_u (s : Nat → Int32) (c : Nat) : upd s (c / 6) (s (c / 6) ^^^ ((1 : Int32) <<< (nI (c % 6) &&& 31))) = tnS s c := by
  funext k
  by_cases h : k = c / 6
  · subst h
    rw [pk_us]
    unfold tnS tnX
    rw [if_pos rfl]
  · rw [upd_o h]
    unfold tnS tnX
    rw [if_neg h, Int32.xor_zero]
theorem tnS_n {s : Nat → Int32} {c k : Nat} (h : ¬ k = c / 6) : tnS s c k = s k := by
  unfold tnS tnX
  rw [if_neg h, Int32.xor_zero]
theorem tnS_2 (s : Nat → Int32) (c : Nat) : tnS (tnS s c) c = s := by
  funext k
  unfold tnS
  rw [Int32.xor_assoc, Int32.xor_self, Int32.xor_zero]
theorem tnS_4 (s : Nat → Int32) (c d : Nat) : tnS (tnS (tnS (tnS s c) d) c) d = s := by
  funext k
  unfold tnS
  rw [Int32.xor_assoc (s k ^^^ tnX c k) (tnX d k) (tnX c k), Int32.xor_comm (tnX d k) (tnX c k), ← Int32.xor_assoc (s k ^^^ tnX c k), Int32.xor_assoc (s k) (tnX c k) (tnX c k), Int32.xor_self, Int32.xor_zero, Int32.xor_assoc, Int32.xor_self, Int32.xor_zero]
theorem cd6 {c : Nat} (h : c < 36) : nI c / 6 = nI (c / 6) ∧ nI c - nI c / 6 * 6 = nI (c % 6) := ⟨pk_div (d := 6) (by omega) (by decide) (by decide), pk_rem (d := 6) (by omega) (by decide) (by decide)⟩
theorem tta : ∀ X, X < 64 → ∀ c, c < 6 → ¬ bit (nI X) (nI c) = 0 → nI X ^^^ ((1 : Int32) <<< (nI c &&& 31)) = nI (X - 2 ^ c) := by decide +kernel
theorem ttb : ∀ X, X < 64 → ∀ c, c < 6 → ∀ j, j < 6 → (¬ bit (nI X) (nI c) = 0 ∧ ¬ bit (nI (X - 2 ^ c)) (nI j) = 0) → ¬ bit (nI X) (nI j) = 0 := by decide +kernel
def ttcB (X c j : Nat) : Bool := decide (bit (nI X) (nI c) = 0) || decide (j = c) || decide (bit (nI X) (nI j) = 0) || decide (¬ bit (nI (X - 2 ^ c)) (nI j) = 0)
theorem ttc' : ∀ X, X < 64 → ∀ c, c < 6 → ∀ j, j < 6 → ttcB X c j = true := by decide +kernel
theorem ttc (X : Nat) (hX : X < 64) (c : Nat) (hc : c < 6) (j : Nat) (hj : j < 6) (h : ¬ bit (nI X) (nI c) = 0 ∧ ¬ j = c ∧ ¬ bit (nI X) (nI j) = 0) : ¬ bit (nI (X - 2 ^ c)) (nI j) = 0 := by
  have := ttc' X hX c hc j hj
  unfold ttcB at this
  rw [decide_eq_false h.1, decide_eq_false h.2.1, decide_eq_false h.2.2] at this
  exact of_decide_eq_true this
theorem tt1 : ∀ X, X < 64 → ∀ c, c < 6 → ¬ bit (nI X) (nI c) = 0 → ∃ Y, Y < 64 ∧ nI X ^^^ ((1 : Int32) <<< (nI c &&& 31)) = nI Y ∧ (∀ j, j < 6 → ¬ bit (nI Y) (nI j) = 0 → ¬ bit (nI X) (nI j) = 0) ∧ (∀ j, j < 6 → (¬ j = c ∧ ¬ bit (nI X) (nI j) = 0) → ¬ bit (nI Y) (nI j) = 0) :=
  fun X hX c hc h => ⟨X - 2 ^ c, Nat.lt_of_le_of_lt (Nat.sub_le _ _) hX, tta X hX c hc h, fun j hj hb => ttb X hX c hc j hj ⟨h, hb⟩, fun j hj hb => ttc X hX c hc j hj ⟨h, hb⟩⟩
/-- rows of sights below others -/
def sbS (n : Nat) (s s0 : Nat → Int32) : Prop := ∀ i, i < n → ∃ X, X < 64 ∧ s i = nI X ∧ ∀ j, j < 6 → ¬ bit (s i) (nI j) = 0 → ¬ bit (s0 i) (nI j) = 0
theorem sbS_0 {n : Nat} {s0 : Nat → Int32} (h : ∀ i, i < n → ∃ X, X < 64 ∧ s0 i = nI X) : sbS n s0 s0 := fun i hi => by
  obtain ⟨X, h1, h2⟩ := h i hi
  exact ⟨X, h1, h2, fun _ _ hb => hb⟩
theorem sbS_t {n : Nat} (hn6 : n ≤ 6) {s s0 : Nat → Int32} (h : sbS n s s0) {c : Nat} (hb : c / 6 < n → ¬ bit (s (c / 6)) (nI (c % 6)) = 0) : sbS n (tnS s c) s0 := by
  intro i hi
  obtain ⟨X, h1, h2, h3⟩ := h i hi
  by_cases e : i = c / 6
  · have hb' := hb (by omega)
    rw [← e, h2] at hb'
    obtain ⟨Y, y1, y2, y3, _⟩ := tt1 X h1 (c % 6) (by omega) hb'
    have e2 : tnS s c i = nI Y := by
      unfold tnS tnX
      rw [if_pos e, h2, y2]
    refine ⟨Y, y1, e2, fun j hj hbj => ?_⟩
    rw [e2] at hbj
    have := y3 j hj hbj
    rw [← h2] at this
    exact h3 j hj this
  · rw [tnS_n e]
    exact ⟨X, h1, h2, h3⟩
/-- another sight is still there -/
theorem tnS_b {n : Nat} {s : Nat → Int32} (h : ∀ i, i < n → ∃ X, X < 64 ∧ s i = nI X) {c d : Nat} (hcd : c ≠ d) (hd : d / 6 < n) (hb : c / 6 < n → ¬ bit (s (c / 6)) (nI (c % 6)) = 0) (hb2 : ¬ bit (s (d / 6)) (nI (d % 6)) = 0) : ¬ bit (tnS s c (d / 6)) (nI (d % 6)) = 0 := by
  by_cases e : d / 6 = c / 6
  · obtain ⟨X, h1, h2⟩ := h (d / 6) hd
    have hb' := hb (by omega)
    rw [← e, h2] at hb'
    obtain ⟨Y, y1, y2, _, y4⟩ := tt1 X h1 (c % 6) (by omega) hb'
    have e2 : tnS s c (d / 6) = nI Y := by
      unfold tnS tnX
      rw [if_pos e, h2, y2]
    rw [e2]
    rw [h2] at hb2
    exact y4 (d % 6) (by omega) ⟨by omega, hb2⟩
  · rw [tnS_n e]
    exact hb2
theorem sI_c {σ : ST} {c o k c' o' k' : Nat} {v w : Int32} (h : k ≠ k') : sI (sI σ c o k v) c' o' k' w = sI (sI σ c' o' k' w) c o k v := by
  show (u3 (u3 σ.1 c o k v) c' o' k' w, σ.2) = (u3 (u3 σ.1 c' o' k' w) c o k v, σ.2)
  rw [u3_c h]
section TS
variable {n : Nat} {σ : ST} {s s' f f' : Nat → Int32} {q q' : Int32 × Int32 × Int32}
/-- the ring with other sights -/
def tS (σ : ST) (s f : Nat → Int32) (q : Int32 × Int32 × Int32) : ST := fwS (sA σ 7 0 2 s) f q
theorem tS_2 : sA (tS σ s f q) 7 0 2 s' = tS σ s' f q := by
  show sI (sI (sI (sA (sA (sA σ 7 0 2 s) 7 0 3 f) 7 0 2 s') 7 0 6 q.1) 7 0 7 q.2.1) 7 0 8 q.2.2 = _
  rw [sA_c (k := 3) (k' := 2) (by decide), sAA]
  rfl
theorem tS_f : fwS (tS σ s f q) f' q' = tS σ s f' q' := by
  show sI (sI (sI (sI (sI (sI (sA (sA (sA σ 7 0 2 s) 7 0 3 f) 7 0 3 f') 7 0 6 q.1) 7 0 7 q.2.1) 7 0 8 q.2.2) 7 0 6 q'.1) 7 0 7 q'.2.1) 7 0 8 q'.2.2 = _
  rw [sAA, sI_c (k := 8) (k' := 6) (by decide), sI_c (k := 7) (k' := 6) (by decide), sII, sI_c (k := 8) (k' := 7) (by decide), sII, sII]
  rfl
theorem e_rseen {c : Nat} (hc : c < 36) : den 77 [vR 7 0 0, vI (nI c)] σ = some (some (vI (bit (gA σ 7 0 2 (c / 6)) (nI (c % 6)))), σ) := by
  have a1 := ob (i := c / 6) (N := 6) (by omega) (by decide)
  have c1 : (nI (c / 6)).toNatClampNeg = c / 6 := nI_clamp (by omega)
  obtain ⟨d1, d2⟩ := cd6 hc
  rw [dX7_isSeen, bX7_isSeen_0, d2, d1]
  simp only [c1, a1, ↓reduceIte]
  rw [e_has, bnd_s, tl_s, bX7_isSeen_10, if_pos (bit_01 _ _)]
theorem e_rturn {c : Nat} (hc : c < 36) : den 78 [vR 7 0 0, vI (nI c)] σ = some (none, sA σ 7 0 2 (tnS (gA σ 7 0 2) c)) := by
  have a1 := ob (i := c / 6) (N := 6) (by omega) (by decide)
  have c1 : (nI (c / 6)).toNatClampNeg = c / 6 := nI_clamp (by omega)
  obtain ⟨d1, d2⟩ := cd6 hc
  rw [dX7_turn, bX7_turn_0, d2, d1]
  simp only [c1, a1, ↓reduceIte]
  rw [tnS_u]
theorem tS_g : gA (tS σ s f q) 7 0 2 = s := rfl
/-- Picks.turn -/
theorem e_pt1 {c : Nat} (hc : c < 36) : den 36 [vR 7 0 0, vI (nI c), vI (-1)] (tS σ s f q) = some (none, tS σ (tnS s c) f q) := by
  rw [dX4_turn, bX4_turn_0, e_rturn hc, bnd_s, tl_n, bX4_turn_3, if_pos rfl, bX4_turn_9, tS_g, tS_2]
theorem e_pt2 {c d : Nat} (hc : c < 36) (hd : d < 36) : den 36 [vR 7 0 0, vI (nI c), vI (nI d)] (tS σ s f q) = some (none, tS σ (tnS (tnS s c) d) f q) := by
  have h : ¬ nI d = -1 := fun z => by
    have := nI_pos (n := d) (by omega)
    rw [z] at this
    exact this (by decide)
  rw [dX4_turn, bX4_turn_0, e_rturn hc, bnd_s, tl_n, bX4_turn_3, if_neg h, e_rturn hd, bnd_s, tl_n, bX4_turn_9, tS_g, tS_2, tS_g, tS_2]
/-- what the ring's rows tell -/
def TBL (σ : ST) (n a : Nat) (E : Nat → Nat → Int32) (s0 : Nat → Int32) : Prop :=
  gI σ 7 0 4 = nI n ∧ gI σ 7 0 5 = nI a ∧ a < n ∧ ∀ i j, i < n → j < n → bit (s0 i) (nI j) ≠ 0 → gA σ 7 0 0 (6 * i + j) = E i j
abbrev RDP (n a : Nat) (E : Nat → Nat → Int32) (V s : Nat → Int32) : Int32 × Int32 × Int32 := rgP (nxP n E V s) n (n + 1) a 0 0 (fun _ => 0)
theorem e_fol {a : Nat} {E : Nat → Nat → Int32} {s0 : Nat → Int32} (hn6 : n ≤ 6) (hT : TBL σ n a E s0) (hs : sbS n s s0) : ∃ f', den 79 [vR 7 0 0] (tS σ s f q) = some (none, tS σ s f' (RDP n a E (gA σ 7 0 1) s)) := by
  obtain ⟨f', h⟩ := e_follow (σ := tS σ s f q) hn6 hT.1 (E := E) (fun i j hi hj hb => hT.2.2.2 i j hi hj ((hs i hi).choose_spec.2.2 j (by omega) hb)) hT.2.2.1 hT.2.1
  rw [tS_f] at h
  exact ⟨f', h⟩
def fr1 (q : Int32 × Int32 × Int32) : Bool := decide (q.1 = 0)
theorem e_free1 {a c : Nat} {E : Nat → Nat → Int32} {s0 : Nat → Int32} (hn6 : n ≤ 6) (hT : TBL σ n a E s0) (hc : c < 36) (hs : sbS n (tnS s c) s0) : ∃ f' q', den 35 [vR 7 0 0, vI (nI c), vI (-1)] (tS σ s f q) = some (some (vI (bI (fr1 (RDP n a E (gA σ 7 0 1) (tnS s c))))), tS σ s f' q') := by
  obtain ⟨f', h⟩ := e_fol (f := f) (q := q) hn6 hT hs
  refine ⟨f', RDP n a E (gA σ 7 0 1) (tnS s c), ?_⟩
  rw [dX4_isFreed, bX4_isFreed_0, e_pt1 hc, bnd_s, tl_n, bX4_isFreed_4, h, bnd_s, tl_n, bX4_isFreed_6, e_pt1 hc, bnd_s, tl_n, tnS_2, bX4_isFreed_10]
  show (if (RDP n a E (gA σ 7 0 1) (tnS s c)).1 = 0 then _ else _) = _
  by_cases e : (RDP n a E (gA σ 7 0 1) (tnS s c)).1 = 0
  · rw [if_pos e, bI_t (show fr1 _ = true from decide_eq_true e)]
  · rw [if_neg e, bI_f (show fr1 _ = false from decide_eq_false e)]
theorem e_free2 {a c d : Nat} {E : Nat → Nat → Int32} {s0 : Nat → Int32} (hn6 : n ≤ 6) (hT : TBL σ n a E s0) (hc : c < 36) (hd : d < 36) (hs : sbS n (tnS (tnS s c) d) s0) : ∃ f' q', den 35 [vR 7 0 0, vI (nI c), vI (nI d)] (tS σ s f q) = some (some (vI (bI (fr1 (RDP n a E (gA σ 7 0 1) (tnS (tnS s c) d))))), tS σ s f' q') := by
  obtain ⟨f', h⟩ := e_fol (f := f) (q := q) hn6 hT hs
  refine ⟨f', RDP n a E (gA σ 7 0 1) (tnS (tnS s c) d), ?_⟩
  rw [dX4_isFreed, bX4_isFreed_0, e_pt2 hc hd, bnd_s, tl_n, bX4_isFreed_4, h, bnd_s, tl_n, bX4_isFreed_6, e_pt2 hc hd, bnd_s, tl_n, tnS_4, bX4_isFreed_10]
  show (if (RDP n a E (gA σ 7 0 1) (tnS (tnS s c) d)).1 = 0 then _ else _) = _
  by_cases e : (RDP n a E (gA σ 7 0 1) (tnS (tnS s c) d)).1 = 0
  · rw [if_pos e, bI_t (show fr1 _ = true from decide_eq_true e)]
  · rw [if_neg e, bI_f (show fr1 _ = false from decide_eq_false e)]
/-- Picks.take -/
def tkS (σ : ST) (p : Int32 × Int32 × Int32) : ST := sI (sI (sI σ 4 0 1 p.1) 4 0 2 p.2.1) 4 0 3 p.2.2
theorem e_take (σ : ST) (x y z : Int32) : den 33 [vR 4 0 0, vI x, vI y, vI z] σ = some (none, tkS σ (x, y, z)) := by
  rw [dX4_take, bX4_take_0]
  rfl
def snB (s : Nat → Int32) (c : Nat) : Bool := decide (¬ bit (s (c / 6)) (nI (c % 6)) = 0)
theorem snB_t {s : Nat → Int32} {c : Nat} (h : ¬ bit (s (c / 6)) (nI (c % 6)) = 0) : snB s c = true := decide_eq_true h
theorem snB_f {s : Nat → Int32} {c : Nat} (h : bit (s (c / 6)) (nI (c % 6)) = 0) : snB s c = false := decide_eq_false (fun z => z h)
theorem sf_1 {a : Nat} {E : Nat → Nat → Int32} (hn6 : n ≤ 6) (hT : TBL σ n a E s) (hX : ∀ i, i < n → ∃ X, X < 64 ∧ s i = nI X) : ∀ (m i : Nat), i + m = 36 → ∀ (f : Nat → Int32) (q : Int32 × Int32 × Int32) (y3 : Option AV), ∃ f' q',
    run kX4_seekFree 18 [some (vR 4 0 0), some (vR 7 0 0), some (vI (nI i)), y3] [] (tS σ s f q) = (match fs1 (fun c => snB s c && fr1 (RDP n a E (gA σ 7 0 1) (tnS s c))) m i with
      | some j => some (none, tkS (tS σ s f' q') (1, nI j, 0))
      | none => run kX4_seekFree 40 [some (vR 4 0 0), some (vR 7 0 0), some (vI 0), y3] [] (tS σ s f' q'))
  | 0, i, hm, f, q, y3 => by
    have hi : i = 36 := by omega
    subst hi
    exact ⟨f, q, by rw [bX4_seekFree_18, if_neg (show ¬ nI 36 < 36 by decide)]; rfl⟩
  | m + 1, i, hm, f, q, y3 => by
    have hlt : nI i < 36 := nI_lt (b := 36) (by omega) (by decide)
    rw [bX4_seekFree_18, if_pos hlt, e_rseen (by omega), bnd_s, tl_s, bX4_seekFree_24, tS_g, nI_S]
    simp only [fs1]
    by_cases h1 : bit (s (i / 6)) (nI (i % 6)) = 0
    · have hc : ¬ (snB s i && fr1 (RDP n a E (gA σ 7 0 1) (tnS s i))) = true := by rw [snB_f h1]; exact ffT
      rw [if_pos h1, if_neg hc]
      exact sf_1 hn6 hT hX m (i + 1) (by omega) _ _ _
    · obtain ⟨f1, q1, g⟩ := e_free1 (c := i) (f := f) (q := q) hn6 hT (by omega) (sbS_t hn6 (sbS_0 hX) (fun _ => h1))
      rw [if_neg h1, g, bnd_s, tl_s, bX4_seekFree_29, nI_S]
      by_cases h2 : fr1 (RDP n a E (gA σ 7 0 1) (tnS s i)) = true
      · have hc : (snB s i && fr1 (RDP n a E (gA σ 7 0 1) (tnS s i))) = true := by rw [snB_t h1, h2]; rfl
        rw [bI_t h2, if_neg i10, if_pos hc, e_take, bnd_s, tl_n, bX4_seekFree_35]
        exact ⟨f1, q1, rfl⟩
      · have hc : ¬ (snB s i && fr1 (RDP n a E (gA σ 7 0 1) (tnS s i))) = true := by rw [snB_t h1]; exact h2
        rw [bI_f (Bool.eq_false_iff.mpr h2), if_pos rfl, if_neg hc]
        exact sf_1 hn6 hT hX m (i + 1) (by omega) _ _ _
theorem sf_in {a c : Nat} (hc : c < 36) {E : Nat → Nat → Int32} (hn6 : n ≤ 6) (hT : TBL σ n a E s) (hX : ∀ i, i < n → ∃ X, X < 64 ∧ s i = nI X) : ∀ (m i : Nat), i + m = 36 → c < i → ∀ (f : Nat → Int32) (q : Int32 × Int32 × Int32), ∃ f' q' y,
    run kX4_seekFree 47 [some (vR 4 0 0), some (vR 7 0 0), some (vI (nI c)), some (vI (nI i))] [] (tS σ s f q) = (match fs1 (fun d => snB s c && (snB s d && fr1 (RDP n a E (gA σ 7 0 1) (tnS (tnS s c) d)))) m i with
      | some j => some (none, tkS (tS σ s f' q') (2, nI c, nI j))
      | none => run kX4_seekFree 40 [some (vR 4 0 0), some (vR 7 0 0), some (vI (nI (c + 1))), y] [] (tS σ s f' q'))
  | 0, i, hm, hci, f, q => by
    have hi : i = 36 := by omega
    subst hi
    exact ⟨f, q, some (vI (nI 36)), by rw [bX4_seekFree_47, if_neg (show ¬ nI 36 < 36 by decide), nI_S]; rfl⟩
  | m + 1, i, hm, hci, f, q => by
    have hlt : nI i < 36 := nI_lt (b := 36) (by omega) (by decide)
    rw [bX4_seekFree_47, if_pos hlt, e_rseen hc, bnd_s, tl_s, bX4_seekFree_53, e_rseen (by omega), bnd_s, tl_s, bX4_seekFree_57, tS_g, nI_S]
    simp only [fs1]
    by_cases h1 : bit (s (c / 6)) (nI (c % 6)) = 0
    · have hc' : ¬ (snB s c && (snB s i && fr1 (RDP n a E (gA σ 7 0 1) (tnS (tnS s c) i)))) = true := by rw [snB_f h1]; exact ffT
      rw [if_pos h1, if_neg hc']
      exact sf_in hc hn6 hT hX m (i + 1) (by omega) (by omega) _ _
    · rw [if_neg h1]
      by_cases h3 : bit (s (i / 6)) (nI (i % 6)) = 0
      · have hc' : ¬ (snB s c && (snB s i && fr1 (RDP n a E (gA σ 7 0 1) (tnS (tnS s c) i)))) = true := by rw [snB_t h1, snB_f h3]; exact ffT
        rw [if_pos h3, if_neg hc']
        exact sf_in hc hn6 hT hX m (i + 1) (by omega) (by omega) _ _
      · obtain ⟨f1, q1, g⟩ := e_free2 (c := c) (d := i) (f := f) (q := q) hn6 hT hc (by omega) (sbS_t hn6 (sbS_t hn6 (sbS_0 hX) (fun _ => h1)) (fun hd => tnS_b hX (by omega) hd (fun _ => h1) h3))
        rw [if_neg h3, g, bnd_s, tl_s, bX4_seekFree_62, nI_S]
        by_cases h2 : fr1 (RDP n a E (gA σ 7 0 1) (tnS (tnS s c) i)) = true
        · have hc' : (snB s c && (snB s i && fr1 (RDP n a E (gA σ 7 0 1) (tnS (tnS s c) i)))) = true := by rw [snB_t h1, snB_t h3, h2]; rfl
          rw [bI_t h2, if_neg i10, if_pos hc', e_take, bnd_s, tl_n, bX4_seekFree_68]
          exact ⟨f1, q1, none, rfl⟩
        · have hc' : ¬ (snB s c && (snB s i && fr1 (RDP n a E (gA σ 7 0 1) (tnS (tnS s c) i)))) = true := by rw [snB_t h1, snB_t h3]; exact h2
          rw [bI_f (Bool.eq_false_iff.mpr h2), if_pos rfl, if_neg hc']
          exact sf_in hc hn6 hT hX m (i + 1) (by omega) (by omega) _ _
theorem sf_2 {a : Nat} {E : Nat → Nat → Int32} (hn6 : n ≤ 6) (hT : TBL σ n a E s) (hX : ∀ i, i < n → ∃ X, X < 64 ∧ s i = nI X) : ∀ (m i : Nat), i + m = 36 → ∀ (f : Nat → Int32) (q : Int32 × Int32 × Int32) (y3 : Option AV), ∃ f' q',
    run kX4_seekFree 40 [some (vR 4 0 0), some (vR 7 0 0), some (vI (nI i)), y3] [] (tS σ s f q) = (match fs2 (fun c d => snB s c && (snB s d && fr1 (RDP n a E (gA σ 7 0 1) (tnS (tnS s c) d)))) m i with
      | some j => some (none, tkS (tS σ s f' q') (2, nI j.1, nI j.2))
      | none => some (none, tS σ s f' q'))
  | 0, i, hm, f, q, y3 => by
    have hi : i = 36 := by omega
    subst hi
    exact ⟨f, q, by rw [bX4_seekFree_40, if_neg (show ¬ nI 36 < 36 by decide)]; rfl⟩
  | m + 1, i, hm, f, q, y3 => by
    have hlt : nI i < 36 := nI_lt (b := 36) (by omega) (by decide)
    rw [bX4_seekFree_40, if_pos hlt, nI_S]
    simp only [fs2]
    obtain ⟨f1, q1, y, g⟩ := sf_in (c := i) (by omega) hn6 hT hX m (i + 1) (by omega) (by omega) f q
    rw [g]
    cases hf : fs1 (fun d => snB s i && (snB s d && fr1 (RDP n a E (gA σ 7 0 1) (tnS (tnS s i) d)))) m (i + 1) with
    | some j => exact ⟨f1, q1, rfl⟩
    | none => exact sf_2 hn6 hT hX m (i + 1) (by omega) f1 q1 y
/-- Picks.seekFree -/
theorem e_seekFree {a : Nat} {E : Nat → Nat → Int32} (hn6 : n ≤ 6) (hT : TBL σ n a E (gA σ 7 0 2)) (hX : ∀ i, i < n → ∃ X, X < 64 ∧ gA σ 7 0 2 i = nI X) : ∃ σ', den 34 [vR 4 0 0, vR 7 0 0] σ = some (none, σ') ∧ scC σ σ' ∧
    (let p := pkP (fr1 (RDP n a E (gA σ 7 0 1) (gA σ 7 0 2))) (fun c => snB (gA σ 7 0 2) c && fr1 (RDP n a E (gA σ 7 0 1) (tnS (gA σ 7 0 2) c))) (fun c d => snB (gA σ 7 0 2) c && (snB (gA σ 7 0 2) d && fr1 (RDP n a E (gA σ 7 0 1) (tnS (tnS (gA σ 7 0 2) c) d))));
      gI σ' 4 0 1 = p.1 ∧ gI σ' 4 0 2 = p.2.1 ∧ gI σ' 4 0 3 = p.2.2) := by
  have hk : ∀ (σ : ST) (p : Int32 × Int32 × Int32), scC σ (tkS σ p) := fun σ p => scC_t (scC_I (Or.inl rfl) _) (scC_t (scC_I (Or.inl rfl) _) (scC_I (Or.inl rfl) _))
  have ht : ∀ (σ : ST) (s f : Nat → Int32) (q : Int32 × Int32 × Int32), scC σ (tS σ s f q) := fun σ s f q => scC_t (scC_A (Or.inr (Or.inl rfl)) _) scC_fwS
  have e0 : tkS σ (-2, 0, 0) = sA (tkS σ (-2, 0, 0)) 7 0 2 (gA σ 7 0 2) := (sA_id (σ := tkS σ (-2, 0, 0)) (c := 7) (o := 0) (k := 2)).symm
  obtain ⟨f1, g1⟩ := e_follow (σ := tkS σ (-2, 0, 0)) hn6 hT.1 (E := E) (fun i j hi hj hb => hT.2.2.2 i j hi hj hb) hT.2.2.1 hT.2.1
  have g1' : den 79 [vR 7 0 0] (tkS σ (-2, 0, 0)) = some (none, tS (tkS σ (-2, 0, 0)) (gA σ 7 0 2) f1 (RDP n a E (gA σ 7 0 1) (gA σ 7 0 2))) := by
    rw [g1]
    show _ = some (none, fwS (sA (tkS σ (-2, 0, 0)) 7 0 2 (gA σ 7 0 2)) f1 _)
    rw [← e0]
    rfl
  have hT' : TBL (tkS σ (-2, 0, 0)) n a E (gA σ 7 0 2) := hT
  rw [dX4_seekFree, bX4_seekFree_0, e_take, bnd_s, tl_n, bX4_seekFree_5, g1', bnd_s, tl_n, bX4_seekFree_7]
  have hq : gI (tS (tkS σ (-2, 0, 0)) (gA σ 7 0 2) f1 (RDP n a E (gA σ 7 0 1) (gA σ 7 0 2))) 7 0 6 = (RDP n a E (gA σ 7 0 1) (gA σ 7 0 2)).1 := rfl
  rw [hq]
  by_cases h0 : (RDP n a E (gA σ 7 0 1) (gA σ 7 0 2)).1 = 0
  · have hp : fr1 (RDP n a E (gA σ 7 0 1) (gA σ 7 0 2)) = true := decide_eq_true h0
    rw [if_pos h0, e_take, bnd_s, tl_n, bX4_seekFree_15, hp, pkP_0]
    exact ⟨_, rfl, scC_t (hk _ _) (scC_t (ht _ _ _ _) (hk _ _)), rfl, rfl, rfl⟩
  · have hp : fr1 (RDP n a E (gA σ 7 0 1) (gA σ 7 0 2)) = false := decide_eq_false h0
    rw [if_neg h0, hp]
    obtain ⟨f2, q2, g2⟩ := sf_1 (σ := tkS σ (-2, 0, 0)) (s := gA σ 7 0 2) hn6 hT' hX 36 0 (by decide) f1 (RDP n a E (gA σ 7 0 1) (gA σ 7 0 2)) none
    rw [nI_0] at g2
    rw [g2]
    have hV : gA (tkS σ (-2, 0, 0)) 7 0 1 = gA σ 7 0 1 := rfl
    rw [hV]
    cases hf : fs1 (fun c => snB (gA σ 7 0 2) c && fr1 (RDP n a E (gA σ 7 0 1) (tnS (gA σ 7 0 2) c))) 36 0 with
    | some j =>
      rw [pkP_1 hf]
      exact ⟨_, rfl, scC_t (hk _ _) (scC_t (ht _ _ _ _) (hk _ _)), rfl, rfl, rfl⟩
    | none =>
      obtain ⟨f3, q3, g3⟩ := sf_2 (σ := tkS σ (-2, 0, 0)) (s := gA σ 7 0 2) hn6 hT' hX 36 0 (by decide) f2 q2 none
      rw [nI_0] at g3
      show ∃ σ', run kX4_seekFree 40 _ [] _ = _ ∧ _
      rw [g3, hV]
      cases hg : fs2 (fun c d => snB (gA σ 7 0 2) c && (snB (gA σ 7 0 2) d && fr1 (RDP n a E (gA σ 7 0 1) (tnS (tnS (gA σ 7 0 2) c) d)))) 36 0 with
      | some j =>
        rw [pkP_2 hf hg]
        exact ⟨_, rfl, scC_t (hk _ _) (scC_t (ht _ _ _ _) (hk _ _)), rfl, rfl, rfl⟩
      | none =>
        rw [pkP_3 hf hg]
        exact ⟨_, rfl, scC_t (hk _ _) (ht _ _ _ _), rfl, rfl, rfl⟩
end TS
