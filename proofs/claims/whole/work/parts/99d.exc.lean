/-! EXCEPTIONS: the two that grower throws -/
abbrev xIO : String := "java/lang/IndexOutOfBoundsException"
abbrev xNS : String := "java/util/NoSuchElementException"
abbrev xnm : List String := ["java/lang/RuntimeException", "java/lang/Exception"]
def xwL : List Cond := [.declares ⟨"java/lang/RuntimeException", "<init>", "()V"⟩, .declares ⟨"java/lang/Exception", "<init>", "()V"⟩, .declares ⟨"java/lang/Throwable", "<init>", "()V"⟩, .castable xIO xIO, .castable xNS xNS]
theorem x_ngI : ∀ w ∈ (vx_at0 RX11 126 xIO xnm).filter (fun w => !goodWord w), w ∈ xwL := by decide +kernel
theorem x_ngN : ∀ w ∈ (vx_at0 RX11 154 xNS xnm).filter (fun w => !goodWord w), w ∈ xwL := by decide +kernel
theorem x_inI : ∀ w ∈ (vx_at0 RX11 126 xIO xnm).filter goodWord, w ∈ lw_tbl := by decide +kernel
theorem x_inN : ∀ w ∈ (vx_at0 RX11 154 xNS xnm).filter goodWord, w ∈ lw_tbl := by decide +kernel
theorem x_gdI : ∀ w ∈ Cond.classLink RX11 124 xIO :: Cond.initialized xIO :: vx_at0 RX11 126 xIO xnm, vx_ot w = true := by decide +kernel
theorem x_gdN : ∀ w ∈ Cond.classLink RX11 152 xNS :: Cond.initialized xNS :: vx_at0 RX11 154 xNS xnm, vx_ot w = true := by decide +kernel
theorem x_ftI : Bundle.fit xIO = true := by decide +kernel
theorem x_ftN : Bundle.fit xNS = true := by decide +kernel
theorem x_ftn : ∀ n ∈ xnm, Bundle.fit n = true := by decide +kernel
/-- what throwing rests on -/
def XW (A : Nat → Prop) (U : State) (H : Heap) : Prop := (∀ w ∈ xwL, va_Nw w U) ∧ va_Nc xNS xIO U ∧ vx_Zq Bundle.tN "UNASSIGNED_STACK" Bundle.steD A U H ∧ vx_Zq Bundle.tN "SUPPRESSED_SENTINEL" Bundle.listD A U H
theorem XW.warm {A : Nat → Prop} {s U : State} {H : Heap} (hW : s.WarmedH U.vm) (h : XW A s H) : XW A U H := by
  refine ⟨fun w hw => ?_, h.2.1.moved hW.alike, h.2.2.1.moved hW.alike, h.2.2.2.moved hW.alike⟩
  have hz := h.1 w hw
  have hm : w = .declares ⟨"java/lang/RuntimeException", "<init>", "()V"⟩ ∨ w = .declares ⟨"java/lang/Exception", "<init>", "()V"⟩ ∨ w = .declares ⟨"java/lang/Throwable", "<init>", "()V"⟩ ∨ w = .castable xIO xIO ∨ w = .castable xNS xNS := by
    simpa [xwL] using hw
  rcases hm with rfl | rfl | rfl | rfl | rfl
  · exact va_Nw.warmD hW hz
  · exact va_Nw.warmD hW hz
  · exact va_Nw.warmD hW hz
  · exact va_Nw.warmC hW hz
  · exact va_Nw.warmC hW hz
theorem XW.same {A : Nat → Prop} {s U : State} {H : Heap} (e : s.vm = U.vm) (h : XW A s H) : XW A U H := by
  have hal : s.vm.Alike U.vm := by rw [e]; exact Vm.Alike.refl _
  refine ⟨fun w hw => ?_, h.2.1.moved hal, h.2.2.1.moved hal, h.2.2.2.moved hal⟩
  have ht : w.onTables = true := by
    have := List.all_eq_true.mp (by decide +kernel : xwL.all (fun w => w.onTables) = true) w hw
    exact this
  exact va_Nw.same ht e (h.1 w hw)
theorem XW.kept {A B : Nat → Prop} {U : State} {H H1 : Heap} (h : XW A U H) (hq : ∀ x : Nat, x < H.size → ¬ A x → H1[x]? = H[x]?) (hAB : ∀ x, B x → A x) : XW B U H1 := ⟨h.1, h.2.1, (h.2.2.1.kept hq).narrow hAB, (h.2.2.2.kept hq).narrow hAB⟩
theorem x_atI {args : Array Value} {s : State} {A : Nat → Prop} {H : Heap} (hts : ∀ w ∈ tbG, w.before args s = true) (h : XW A s H) : ∀ w ∈ vx_at0 RX11 126 xIO xnm, w.before args s = true :=
  vx_hat (B := xwL) (fun w hw => hts w (tbG_in (x_inI w hw) (List.mem_filter.mp hw).2)) x_ngI (fun w hw => va_Nw.use (List.all_eq_true.mp (by decide +kernel : xwL.all (fun w => w.onTables) = true) w hw) (h.1 w hw))
theorem x_atN {args : Array Value} {s : State} {A : Nat → Prop} {H : Heap} (hts : ∀ w ∈ tbG, w.before args s = true) (h : XW A s H) : ∀ w ∈ vx_at0 RX11 154 xNS xnm, w.before args s = true :=
  vx_hat (B := xwL) (fun w hw => hts w (tbG_in (x_inN w hw) (List.mem_filter.mp hw).2)) x_ngN (fun w hw => va_Nw.use (List.all_eq_true.mp (by decide +kernel : xwL.all (fun w => w.onTables) = true) w hw) (h.1 w hw))
