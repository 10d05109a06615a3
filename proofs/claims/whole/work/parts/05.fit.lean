/-- the kind of a field: 0 int, 1 boolean, 2 an array, 3 an object for good, 4 a garden, 5 long -/
def ftT : List (List Nat) := [[3, 2, 2, 2, 4, 0, 1], [2, 2, 2, 2, 2, 2, 0], [0, 0, 0, 0, 0, 2, 2, 2, 2, 2, 3], [2, 0], [2, 0, 0, 0, 0, 0, 0, 0], [0, 5, 2, 2, 2, 2, 2, 2], [3, 2, 0, 0, 4, 1, 1, 0, 0, 0], [2, 2, 2, 2, 0, 0, 1, 0, 0], [2, 2, 0, 0], [2, 2, 0, 0, 0, 0, 0, 0], [2, 2, 2, 2, 2, 2, 0, 0], [3, 3, 4, 3, 3, 3, 1, 3, 3, 3, 3, 3], [2, 0, 0, 2, 0, 0, 0, 0, 0, 0, 0, 0, 0, 0, 0, 0, 0, 0, 2, 2, 2, 2, 2, 2, 2, 2, 2, 2, 2, 2, 2, 2, 2, 2, 2, 0, 0, 0, 0, 1, 1, 2, 2, 1, 2, 2, 2, 2, 2, 2, 2, 5, 1, 1, 1, 1, 1, 0, 0, 0, 0, 0, 2, 0, 0, 0, 2, 0, 0, 2, 2, 2, 0, 2, 1, 2, 0, 5]]
def fty (c k : Nat) : Nat := (ftT.getD c []).getD k 9
def pcO (C : List OP) (i : Nat) : Nat := match C[i]? with
  | some op => op.2.2.1
  | none => 0
def dq (cc : ByteArray) (pc : Nat) (I : Instr) (n : Nat) : Bool := decide (decode cc pc = .ok (I, n))
theorem dq_ok {cc : ByteArray} {pc : Nat} {I : Instr} {n : Nat} (h : dq cc pc I n = true) : decode cc pc = .ok (I, n) := of_decide_eq_true h
def lq (cc : ByteArray) (pc nx a b : Nat) (f : Fin 4 → Instr) (g : Nat → Instr) : Bool := if h : b < 4 then dq cc pc (f ⟨b, h⟩) 1 && decide (nx = pc + 1) && decide (a = b) else dq cc pc (g a) 2 && decide (nx = pc + 2)
def ft0 (cc : ByteArray) (pc nx own ml s : Nat) (im : Int) (a b : Nat) : Bool := match s with
  | 0 => match b with
    | 0 => dq cc pc (.iconst im) 1 && decide (nx = pc + 1)
    | 1 => dq cc pc (.bipush im) 2 && decide (nx = pc + 2) && decide ((Int8.ofInt im).toInt32 = Int32.ofInt im)
    | 2 => dq cc pc (.sipush im) 3 && decide (nx = pc + 3) && decide ((Int16.ofInt im).toInt32 = Int32.ofInt im)
    | 3 => dq cc pc (.ldc a) 2 && decide (nx = pc + 2) && decide ((own, a, im) ∈ kiT)
    | 4 => dq cc pc (.ldc_w a) 3 && decide (nx = pc + 3) && decide ((own, a, im) ∈ kiT)
    | _ => false
  | 1 => match b with
    | 0 => dq cc pc (.lconst 0) 1 && decide (nx = pc + 1) && decide (im = 0)
    | 1 => dq cc pc (.lconst 1) 1 && decide (nx = pc + 1) && decide (im = 1)
    | 2 => dq cc pc (.ldc2_w a) 3 && decide (nx = pc + 3) && decide ((own, a, im) ∈ klT)
    | _ => false
  | 2 => lq cc pc nx a b .iload_n .iload
  | 3 => lq cc pc nx a b .lload_n .lload
  | 4 => lq cc pc nx a b .aload_n .aload
  | 5 => lq cc pc nx a b .istore_n .istore && decide (a < ml)
  | 6 => lq cc pc nx a b .lstore_n .lstore && decide (a + 1 < ml)
  | 7 => lq cc pc nx a b .astore_n .astore && decide (a < ml)
  | 8 => dq cc pc (.iinc a im) 3 && decide (nx = pc + 3) && decide (a < ml)
  | _ => false
def ft1 (cc : ByteArray) (pc nx s : Nat) : Bool := match s with
  | 0 => dq cc pc .iadd 1 && decide (nx = pc + 1)
  | 1 => dq cc pc .isub 1 && decide (nx = pc + 1)
  | 2 => dq cc pc .imul 1 && decide (nx = pc + 1)
  | 3 => dq cc pc .iand 1 && decide (nx = pc + 1)
  | 4 => dq cc pc .ior 1 && decide (nx = pc + 1)
  | 5 => dq cc pc .ixor 1 && decide (nx = pc + 1)
  | 6 => dq cc pc .ishl 1 && decide (nx = pc + 1)
  | 7 => dq cc pc .ishr 1 && decide (nx = pc + 1)
  | 8 => dq cc pc .iushr 1 && decide (nx = pc + 1)
  | 9 => dq cc pc .idiv 1 && decide (nx = pc + 1)
  | 10 => dq cc pc .irem 1 && decide (nx = pc + 1)
  | 11 => dq cc pc .ineg 1 && decide (nx = pc + 1)
  | 12 => dq cc pc .i2l 1 && decide (nx = pc + 1)
  | 13 => dq cc pc .l2i 1 && decide (nx = pc + 1)
  | 14 => dq cc pc .i2b 1 && decide (nx = pc + 1)
  | _ => false
def ft2 (cc : ByteArray) (pc nx s : Nat) : Bool := match s with
  | 0 => dq cc pc .ladd 1 && decide (nx = pc + 1)
  | 1 => dq cc pc .lsub 1 && decide (nx = pc + 1)
  | 2 => dq cc pc .lmul 1 && decide (nx = pc + 1)
  | 3 => dq cc pc .land 1 && decide (nx = pc + 1)
  | 4 => dq cc pc .ldiv 1 && decide (nx = pc + 1)
  | 5 => dq cc pc .lrem 1 && decide (nx = pc + 1)
  | 6 => dq cc pc .lneg 1 && decide (nx = pc + 1)
  | 7 => dq cc pc .lcmp 1 && decide (nx = pc + 1)
  | _ => false
def ft3 (cc : ByteArray) (pc nx s : Nat) : Bool := match s with
  | 0 => dq cc pc .dup 1 && decide (nx = pc + 1)
  | 1 => dq cc pc .dup2 1 && decide (nx = pc + 1)
  | 2 => dq cc pc .pop 1 && decide (nx = pc + 1)
  | _ => false
/-- a switch: its targets are its offsets' -/
def swq (C : List OP) (pc : Nat) (lo : Int) : List Nat → List Int → Bool
  | [], [] => true
  | t :: ts, o :: os => decide ((pc : Int) + o = (pcO C t : Int)) && decide ((Int32.ofInt lo).toInt = lo) && swq C pc (lo + 1) ts os
  | _, _ => false
def ft4 (C : List OP) (cc : ByteArray) (pc nx s : Nat) (im : Int) (a b : Nat) : Bool := match s with
  | 0 => dq cc pc (.ifCond .eq im) 3 && decide (nx = pc + 3) && decide ((pc : Int) + im = (pcO C a : Int))
  | 1 => dq cc pc (.ifCond .ne im) 3 && decide (nx = pc + 3) && decide ((pc : Int) + im = (pcO C a : Int))
  | 2 => dq cc pc (.ifCond .lt im) 3 && decide (nx = pc + 3) && decide ((pc : Int) + im = (pcO C a : Int))
  | 3 => dq cc pc (.ifCond .ge im) 3 && decide (nx = pc + 3) && decide ((pc : Int) + im = (pcO C a : Int))
  | 4 => dq cc pc (.ifCond .gt im) 3 && decide (nx = pc + 3) && decide ((pc : Int) + im = (pcO C a : Int))
  | 5 => dq cc pc (.ifCond .le im) 3 && decide (nx = pc + 3) && decide ((pc : Int) + im = (pcO C a : Int))
  | 6 => dq cc pc (.if_icmp .eq im) 3 && decide (nx = pc + 3) && decide ((pc : Int) + im = (pcO C a : Int))
  | 7 => dq cc pc (.if_icmp .ne im) 3 && decide (nx = pc + 3) && decide ((pc : Int) + im = (pcO C a : Int))
  | 8 => dq cc pc (.if_icmp .lt im) 3 && decide (nx = pc + 3) && decide ((pc : Int) + im = (pcO C a : Int))
  | 9 => dq cc pc (.if_icmp .ge im) 3 && decide (nx = pc + 3) && decide ((pc : Int) + im = (pcO C a : Int))
  | 10 => dq cc pc (.if_icmp .gt im) 3 && decide (nx = pc + 3) && decide ((pc : Int) + im = (pcO C a : Int))
  | 11 => dq cc pc (.if_icmp .le im) 3 && decide (nx = pc + 3) && decide ((pc : Int) + im = (pcO C a : Int))
  | 12 => dq cc pc (.goto im) 3 && decide ((pc : Int) + im = (pcO C a : Int))
  | 13 => dq cc pc (.tableswitch (sw b).2.2.1 im (sw b).2.2.2.1 (sw b).2.1) (sw b).2.2.2.2 && decide ((pc : Int) + (sw b).2.2.1 = (pcO C a : Int)) && swq C pc im (sw b).1 (sw b).2.1.toList && decide ((sw b).2.2.2.1 = im + ((sw b).1.length : Int) - 1)
  | _ => false
def ft5 (cc : ByteArray) (pc nx s : Nat) : Bool := match s with
  | 0 => dq cc pc .iaload 1 && decide (nx = pc + 1)
  | 1 => dq cc pc .baload 1 && decide (nx = pc + 1)
  | 2 => dq cc pc .laload 1 && decide (nx = pc + 1)
  | 3 => dq cc pc .aaload 1 && decide (nx = pc + 1)
  | 4 => dq cc pc .iastore 1 && decide (nx = pc + 1)
  | 5 => dq cc pc .bastore 1 && decide (nx = pc + 1)
  | 6 => dq cc pc .lastore 1 && decide (nx = pc + 1)
  | 7 => dq cc pc .arraylength 1 && decide (nx = pc + 1)
  | _ => false
def ft6 (cc : ByteArray) (pc nx own s : Nat) (im : Int) (a b : Nat) : Bool := dq cc pc (.getfield im.toNat) 3 && decide (nx = pc + 3) && decide (a < 13) && decide (b < cNn a) && decide (s % 10 = fty a b) && (if s < 10 then decide ((own, im.toNat, a, b) ∈ flT) else decide ((own, im.toNat, a, b) ∈ fnT))
def ft7 (cc : ByteArray) (pc nx own s : Nat) (im : Int) (a b : Nat) : Bool := dq cc pc (.putfield im.toNat) 3 && decide (nx = pc + 3) && decide (a < 13) && decide (b < cNn a) && decide (s = fty a b) && decide ((own, im.toNat, a, b) ∈ flT) && decide ((cTt a b).2.2.2 = false) && (match s with
  | 0 => decide (cTy a b = .int)
  | 1 => decide (cTy a b = .boolean)
  | 5 => decide (cTy a b = .long)
  | 4 => decide (cTy a b = .object "RibbonRun$Garden")
  | _ => false)
def ft8 (cc : ByteArray) (pc nx own fr lo s : Nat) (im : Int) (a b : Nat) : Bool := match s with
  | 0 => dq cc pc (.invokevirtual im.toNat) 3 && decide (nx = pc + 3) && decide ((own, im.toNat, a) ∈ mlT) && decide (a < nM) && decide (mS a = false) && decide (b = mP a + 1) && decide (mF a + 1 ≤ fr) && decide (8 + (mL a + 11) + mQ a ≤ lo)
  | 1 => dq cc pc (.invokestatic im.toNat) 3 && decide (nx = pc + 3) && decide ((own, im.toNat, a) ∈ mlT) && decide (a < nM) && decide (mS a = true) && decide (b = mP a) && decide (mF a + 1 ≤ fr) && decide (8 + (mL a + 11) + mQ a ≤ lo)
  | 3 => dq cc pc (.invokestatic im.toNat) 3 && decide (nx = pc + 3) && decide ((own, im.toNat, a) ∈ mnT) && decide (a < nM) && decide (mS a = true) && decide (b = mP a) && decide (mF a + 1 ≤ fr) && decide (8 + (mL a + 11) + mQ a ≤ lo)
  | 4 => dq cc pc (.invokestatic im.toNat) 3 && decide (nx = pc + 3) && decide ((own, im.toNat) ∈ cpT) && decide (1 ≤ fr) && decide (8 + (nativeFrameWords "java/lang/System" "arraycopy" 5 + 11) ≤ lo)
  | _ => false
def ft9 (cc : ByteArray) (pc s : Nat) (rt : Option FieldType) : Bool := match s with
  | 0 => dq cc pc .ireturn 1 && decide (rt = some .int)
  | 1 => dq cc pc .ireturn 1 && decide (rt = some .boolean)
  | 2 => dq cc pc .lreturn 1 && decide (rt = some .long)
  | 3 => dq cc pc .areturn 1 && decide (rt = some (.object "RibbonRun$Garden"))
  | 4 => dq cc pc .return_ 1 && decide (rt = none)
  | _ => false
def fitO (C : List OP) (cc : ByteArray) (own ml fr lo : Nat) (rt : Option FieldType) (i : Nat) (op : OP) : Bool := match op with
  | (0, s, pc, im, a, b) => ft0 cc pc (pcO C (i + 1)) own ml s im a b
  | (1, s, pc, _, _, _) => ft1 cc pc (pcO C (i + 1)) s
  | (2, s, pc, _, _, _) => ft2 cc pc (pcO C (i + 1)) s
  | (3, s, pc, _, _, _) => ft3 cc pc (pcO C (i + 1)) s
  | (4, s, pc, im, a, b) => ft4 C cc pc (pcO C (i + 1)) s im a b
  | (5, s, pc, _, _, _) => ft5 cc pc (pcO C (i + 1)) s
  | (6, s, pc, im, a, b) => ft6 cc pc (pcO C (i + 1)) own s im a b
  | (7, s, pc, im, a, b) => ft7 cc pc (pcO C (i + 1)) own s im a b
  | (8, s, pc, im, a, b) => ft8 cc pc (pcO C (i + 1)) own fr lo s im a b
  | (9, s, pc, _, _, _) => ft9 cc pc s rt
  | _ => false
def fitL (C : List OP) (cc : ByteArray) (own ml fr lo : Nat) (rt : Option FieldType) : Nat → List OP → Bool
  | _, [] => true
  | i, op :: r => fitO C cc own ml fr lo rt i op && fitL C cc own ml fr lo rt (i + 1) r
theorem fitL_at (C : List OP) (cc : ByteArray) (own ml fr lo : Nat) (rt : Option FieldType) : ∀ (r : List OP) (i : Nat), fitL C cc own ml fr lo rt i r = true → ∀ (j : Nat) (op : OP), r[j]? = some op → fitO C cc own ml fr lo rt (i + j) op = true
  | [], _, _, _, _, hj => by simp at hj
  | o :: r, i, h, j, op, hj => by
    rw [fitL, Bool.and_eq_true] at h
    cases j with
    | zero =>
      rw [List.getElem?_cons_zero] at hj
      cases hj
      exact h.1
    | succ j =>
      rw [List.getElem?_cons_succ] at hj
      have := fitL_at C cc own ml fr lo rt r (i + 1) h.2 j op hj
      rwa [Nat.add_assoc, Nat.add_comm 1 j] at this
def FIT (M : Nat) : Prop := pcO (cod M) 0 = 0 ∧ fitL (cod M) (mC M) (mO M) (mL M) (mF M) (mQ M) (mR M) 0 (cod M) = true
