/-! CONSTRUCTORS: straight walks that make cells -/
abbrev SV : Type := Int32 ⊕ (Int64 ⊕ (Nat ⊕ Nat))
/-- an instruction, or some at once: which, its index, what it is about, the place of its word, a number -/
abbrev INS : Type := Nat × Nat × Nat × Nat × Nat × Int
abbrev CNT : Type := va_W → List SV → Nat → Nat → Prop
abbrev xI (x : Int32) : SV := .inl x
abbrev xL (x : Int64) : SV := .inr (.inl x)
abbrev xW (i : Nat) : SV := .inr (.inr (.inl i))
abbrev xX (a : Nat) : SV := .inr (.inr (.inr a))
def wad (ws : va_W) (i : Nat) : Nat := match ws[i]? with
  | some x => x.1
  | none => 0
def svC (ws : va_W) : SV → Value
  | .inl x => .int x
  | .inr (.inl x) => .long x
  | .inr (.inr (.inl i)) => .ref (wad ws i)
  | .inr (.inr (.inr a)) => .ref a
def svk (n : Nat) : SV → Prop
  | .inr (.inr (.inl i)) => i < n
  | _ => True
def svf (ty : FieldType) (x : SV) : Bool := match ty with
  | .int => match x with
    | .inl _ => true
    | _ => false
  | .boolean => match x with
    | .inl v => decide (v = 0) || decide (v = 1)
    | _ => false
  | .long => match x with
    | .inr (.inl _) => true
    | _ => false
  | .object _ => match x with
    | .inr (.inr _) => true
    | _ => false
  | .array _ => match x with
    | .inr (.inr _) => true
    | _ => false
  | _ => false
def svs : List SV → Nat
  | [] => 0
  | .inr (.inl _) :: r => 2 + svs r
  | _ :: r => 1 + svs r
def zrA (c : Nat) : (Nat → Int32) ⊕ (Nat → Int64) ⊕ (Nat → UInt32) ⊕ (Nat → UInt64) ⊕ (Nat → Option Nat) := if c = 1 then .inr (.inl (fun _ => 0)) else .inl (fun _ => 0)
def aTyp (c : Nat) : FieldType := if c = 0 then .int else if c = 1 then .long else if c = 2 then .byte else .boolean
def aAty (c : Nat) : ArrayType := if c = 0 then .int else if c = 1 then .long else if c = 2 then .byte else .boolean
def dfl (c : Nat) : List Value := (List.range (cNn c)).map (fun k => defaultValue (cTy c k))
/-- one step -/
def cst (q : Nat → ClassId) (mc ms ar1 : Nat) (CW : Nat → Nat → Nat → (Nat → Nat) → va_W) (CC CS : Nat → Nat) (op c k : Nat) (v : Int) (K : CNT) (ws : va_W) (st : List SV) (cl sl : Nat) : Prop := match op with
  | 0 => K ws ((if c = 0 then xW 0 else xX ar1) :: st) cl sl
  | 1 => K ws (xI (Int32.ofInt v) :: st) cl sl
  | 2 => K ws (xI (Int32.ofInt v) :: st) cl sl
  | 4 => K ws (xL 0 :: st) cl sl
  | 5 => if cl + 1 ≤ mc ∧ sl + k ≤ ms then ∀ a, K (ws ++ [(a, .inl (q c, k, zrA c))]) (xW ws.length :: st) (cl + 1) (sl + k) else False
  | 6 => match st with
    | x :: .inr (.inr (.inl i)) :: r => match ws[i]? with
      | some (a, .inr (c', fs)) => if c' = c ∧ k < fs.length ∧ svf (cTy c k) x = true then K (ws.set i (a, .inr (c', fs.set k (svC ws x)))) r cl sl else False
      | _ => False
    | _ => False
  | 8 => if cl + 1 ≤ mc ∧ sl + cNn c ≤ ms then ∀ a, K (ws ++ [(a, .inr (c, dfl c))]) (xW ws.length :: st) (cl + 1) (sl + cNn c) else False
  | 9 => match st with
    | .inr (.inr y) :: r => K ws (.inr (.inr y) :: .inr (.inr y) :: r) cl sl
    | _ => False
  | 10 => match st with
    | .inr (.inr (.inl i)) :: r => match ws[i]? with
      | some (a, e) => if i + 1 = ws.length ∧ svs r ≤ 8 ∧ cl + CC c ≤ mc ∧ sl + CS c ≤ ms then e = .inr (c, dfl c) ∧ ∀ u, K (ws.take i ++ CW c a 0 u) r (cl + CC c) (sl + CS c) else False
      | none => False
    | _ => False
  | 16 => match st with
    | .inr (.inr (.inr b)) :: .inr (.inr (.inl i)) :: r => match ws[i]? with
      | some (a, e) => if i + 1 = ws.length ∧ svs r ≤ 8 ∧ cl + CC c ≤ mc ∧ sl + CS c ≤ ms then e = .inr (c, dfl c) ∧ ∀ u, K (ws.take i ++ CW c a b u) r (cl + CC c) (sl + CS c) else False
      | none => False
    | _ => False
  | 11 => match st with
    | .inr (.inr (.inl i)) :: r => match ws[i]? with
      | some (_, .inr (c', fs)) => if c' = c then (match fs[k]? with
        | some (.ref b) => K ws (xX b :: r) cl sl
        | _ => False) else False
      | _ => False
    | _ => False
  | 12 => if cl + 1 ≤ mc ∧ sl + k ≤ ms then ∀ a, K (ws ++ [(a, .inl (q 4, k, .inr (.inr (.inr (.inr (fun _ => none))))))]) (xW ws.length :: st) (cl + 1) (sl + k) else False
  | 13 => match st with
    | .inr (.inr (.inl j)) :: .inl n :: .inr (.inr (.inl i)) :: r => match ws[i]?, ws[j]? with
      | some (a, .inl (c', N, .inr (.inr (.inr (.inr f))))), some (b, .inr (d, _)) => if n = nI k ∧ k < N ∧ k < 9 ∧ d = 3 then c' = q 4 ∧ K (ws.set i (a, .inl (c', N, .inr (.inr (.inr (.inr (va_up f k (some b)))))))) r cl sl else False
      | _, _ => False
    | _ => False
  | 14 => match st with
    | .inr (.inr (.inl _)) :: r => if svs r = 0 then K ws r cl sl else False
    | _ => False
  | 15 => match st with
    | .inr (.inr (.inl i)) :: r => match ws[i]? with
      | some (a, .inl (c', N, .inl f)) => if k < N ∧ k < 1000 then c' = q 0 ∧ K (ws.set i (a, .inl (c', N, .inl (upd f k (Int32.ofInt v))))) (xW i :: r) cl sl else False
      | _ => False
    | _ => False
  | _ => False
def cwp (q : Nat → ClassId) (mc ms ar1 : Nat) (CW : Nat → Nat → Nat → (Nat → Nat) → va_W) (CC CS : Nat → Nat) (K : CNT) : List INS → CNT
  | [] => K
  | (op, _, c, k, _, v) :: is => cst q mc ms ar1 CW CC CS op c k v (cwp q mc ms ar1 CW CC CS K is)
/-- how long -/
def lnI (op k : Nat) (v : Int) : Nat := match op with
  | 0 => 1
  | 1 => 1
  | 2 => 2
  | 4 => 1
  | 5 => (if v = 0 then 1 else if v = 1 then 2 else 3) + 2
  | 9 => 1
  | 12 => 4
  | 13 => 1
  | 15 => (if k ≤ 5 then 1 else 2) + 4
  | _ => 3
def pcE : Nat → List INS → Nat
  | pc, [] => pc
  | pc, (op, _, _, k, _, v) :: is => pcE (pc + lnI op k v) is
def wdq (p : Nat) (w : Cond) : Bool := decide (lw_tbl[p]? = some w) && goodWord w
theorem wdq_in {p : Nat} {w : Cond} (h : wdq p w = true) : w ∈ tbG := by
  unfold wdq at h
  rw [Bool.and_eq_true, decide_eq_true_eq] at h
  exact tbG_in (List.mem_of_getElem? h.1) h.2
def pshq (cc : ByteArray) (pc k : Nat) (v : Int) : Bool := if v = 0 then dq cc pc (.iconst (k : Int)) 1 && decide (Int32.ofInt (k : Int) = nI k) else if v = 1 then dq cc pc (.bipush (k : Int)) 2 && decide ((Int8.ofInt (k : Int)).toInt32 = nI k) else dq cc pc (.sipush (k : Int)) 3 && decide ((Int16.ofInt (k : Int)).toInt32 = nI k)
/-- constructors by their number -/
abbrev cX0_init : ByteArray := prog_2_method_1_code
def yX0_init : MethodName := ⟨RX0, "<init>", "(LRibbonRun$Garden;)V"⟩
abbrev cX1_init : ByteArray := prog_3_method_1_code
def yX1_init : MethodName := ⟨RX1, "<init>", "()V"⟩
abbrev cX2_init : ByteArray := prog_4_method_1_code
def yX2_init : MethodName := ⟨RX2, "<init>", "()V"⟩
abbrev cX3_init : ByteArray := prog_5_method_1_code
def yX3_init : MethodName := ⟨RX3, "<init>", "()V"⟩
abbrev cX4_init : ByteArray := prog_6_method_1_code
def yX4_init : MethodName := ⟨RX4, "<init>", "()V"⟩
abbrev cX5_init : ByteArray := prog_7_method_1_code
def yX5_init : MethodName := ⟨RX5, "<init>", "()V"⟩
abbrev cX6_init : ByteArray := prog_8_method_1_code
def yX6_init : MethodName := ⟨RX6, "<init>", "(LRibbonRun$Tape;)V"⟩
abbrev cX7_init : ByteArray := prog_9_method_1_code
def yX7_init : MethodName := ⟨RX7, "<init>", "()V"⟩
abbrev cX8_init : ByteArray := prog_10_method_1_code
def yX8_init : MethodName := ⟨RX8, "<init>", "()V"⟩
abbrev cX9_init : ByteArray := prog_11_method_1_code
def yX9_init : MethodName := ⟨RX9, "<init>", "()V"⟩
abbrev cX10_init : ByteArray := prog_12_method_1_code
def yX10_init : MethodName := ⟨RX10, "<init>", "()V"⟩
abbrev cX11_init : ByteArray := prog_1_method_1_code
def yX11_init : MethodName := ⟨RX11, "<init>", "()V"⟩
abbrev cX12_init : ByteArray := prog_14_method_1_code
def yX12_init : MethodName := ⟨RX12, "<init>", "()V"⟩
def iYT : List MethodName := [yX0_init, yX1_init, yX2_init, yX3_init, yX4_init, yX5_init, yX6_init, yX7_init, yX8_init, yX9_init, yX10_init, yX11_init, yX12_init]
def iCT : List ByteArray := [cX0_init, cX1_init, cX2_init, cX3_init, cX4_init, cX5_init, cX6_init, cX7_init, cX8_init, cX9_init, cX10_init, cX11_init, cX12_init]
def iY (c : Nat) : MethodName := iYT.getD c yX12_init
def iC (c : Nat) : ByteArray := iCT.getD c cX12_init
def iLT : List Nat := [2, 1, 1, 1, 1, 1, 2, 1, 1, 6, 1, 1, 1]
def iL (c : Nat) : Nat := iLT.getD c 0
def iArg (c : Nat) : Nat := if c = 0 ∨ c = 6 then 1 else 0
def iFT : List Nat := [2, 1, 2, 1, 1, 1, 3, 1, 1, 4, 1, 5, 3]
def iF (c : Nat) : Nat := iFT.getD c 0
def iQT : List Nat := [32, 12, 32, 12, 12, 12, 52, 12, 12, 85, 12, 110, 63]
def iQ (c : Nat) : Nat := iQT.getD c 0
def niT : List (Nat × Nat × Nat) := [(6, 24, 2), (2, 42, 3), (2, 49, 5), (11, 29, 2), (0, 11, 5), (11, 48, 5), (11, 59, 1), (11, 66, 10), (11, 73, 7), (11, 80, 4), (11, 87, 8)]
def NI (U : State) : Prop := va_AO "RibbonRun$Law" U ∧ ∀ x ∈ niT, va_Nw (Cond.methodLinkNest (cnm x.1) x.2.1 (iY x.2.2) "RibbonRun") U
theorem NI.warm {s U : State} (hW : s.WarmedH U.vm) (h : NI s) : NI U := ⟨va_AO.moved hW.alike h.1, fun x hx => va_Nw.warmM hW (h.2 x hx)⟩
theorem NI.same {s U : State} (e : s.vm = U.vm) (h : NI s) : NI U := ⟨va_AO.moved (by rw [e]; exact Vm.Alike.refl _) h.1, fun x hx => va_Nw.same rfl e (h.2 x hx)⟩
def ckq (cc : ByteArray) (own : Nat) (nA : Bool) (fr lo : Nat) (CF CQ : Nat → Nat) (cs : List Nat) (pc op i c k p : Nat) (v : Int) : Bool := match op with
  | 0 => (if c = 0 then dq cc pc (.aload_n 0) 1 else dq cc pc (.aload_n 1) 1 && nA)
  | 1 => dq cc pc (.iconst v) 1
  | 2 => dq cc pc (.bipush v) 2 && decide ((Int8.ofInt v).toInt32 = Int32.ofInt v)
  | 4 => dq cc pc (.lconst 0) 1
  | 5 => pshq cc pc k v && dq cc (pc + (if v = 0 then 1 else if v = 1 then 2 else 3)) (.newarray (aAty c)) 2 && decide (c < 4) && decide (k < 1000)
  | 6 => dq cc pc (.putfield i) 3 && decide (c < 13) && decide (k < cNn c) && wdq p (flC (own, i, c, k)) && (!(cTt c k).2.2.2 || decide ((cTt c k).1 = cnm own))
  | 8 => dq cc pc (.new i) 3 && decide (c < 13) && wdq p (Cond.classLink (cnm own) i (cnm c))
  | 9 => dq cc pc .dup 1
  | 10 => dq cc pc (.invokespecial i) 3 && decide (c < 13) && decide (iArg c = 0) && (decide ((own, i, c) ∈ niT) || wdq p (Cond.methodLink (cnm own) i (iY c))) && decide (c ∈ cs) && decide (CF c + 1 ≤ fr) && decide (8 + (iL c + 11) + CQ c ≤ lo)
  | 16 => dq cc pc (.invokespecial i) 3 && decide (c < 13) && decide (iArg c = 1) && wdq p (Cond.methodLink (cnm own) i (iY c)) && decide (c ∈ cs) && decide (CF c + 1 ≤ fr) && decide (8 + (iL c + 11) + CQ c ≤ lo)
  | 11 => dq cc pc (.getfield i) 3 && decide (c < 13) && decide (k < cNn c) && wdq p (flC (own, i, c, k))
  | 12 => dq cc pc (.iconst (k : Int)) 1 && decide (Int32.ofInt (k : Int) = nI k) && dq cc (pc + 1) (.anewarray i) 3 && wdq p (Cond.classLink (cnm own) i "RibbonRun$Law") && decide (k < 1000)
  | 13 => dq cc pc .aastore 1
  | 14 => dq cc pc (.invokespecial i) 3 && wdq p (Cond.methodLink (cnm own) i Lib.objectInit) && decide (1 ≤ fr) && decide (12 ≤ lo)
  | 15 => dq cc pc .dup 1 && pshq cc (pc + 1) k (if k ≤ 5 then 0 else 1) && dq cc (pc + 1 + (if k ≤ 5 then 1 else 2)) (.bipush v) 2 && decide ((Int8.ofInt v).toInt32 = Int32.ofInt v) && dq cc (pc + (if k ≤ 5 then 1 else 2) + 3) .iastore 1 && decide (k < 1000)
  | _ => false
def ckL (cc : ByteArray) (own : Nat) (nA : Bool) (fr lo : Nat) (CF CQ : Nat → Nat) (cs : List Nat) : Nat → List INS → Bool
  | _, [] => true
  | pc, (op, i, c, k, p, v) :: is => ckq cc own nA fr lo CF CQ cs pc op i c k p v && ckL cc own nA fr lo CF CQ cs (pc + lnI op k v) is
/-- what the tape knows, letter by letter: which word, how many letters, the letters, the words -/
def tpL : List Nat := [103, 114, 111, 119, 101, 114, 32, 115, 101, 101, 115, 32, 114, 105, 98, 98, 111, 110, 32, 98, 108, 105, 103, 104, 116, 32, 115, 101, 101, 100, 32, 108, 97, 119, 32, 106, 117, 100, 103, 101, 32, 103, 114, 111, 119, 32, 103, 105, 118, 101, 32, 111, 114, 32, 97, 110, 100, 32, 110, 111, 116, 32, 119, 111, 114, 116, 104, 32, 111, 119, 110, 32, 100, 111, 117, 98, 116, 32, 102, 97, 114, 32, 104, 97, 100, 32, 115, 105, 110, 99, 101, 32, 121, 101, 97, 114, 32]
def tpS (z : Nat × Nat × Int32 × (Nat → Int32)) (x : Nat) : Nat × Nat × Int32 × (Nat → Int32) := if x = 32 then (z.1 + 1, 0, 0, upd z.2.2.2 z.1 (z.2.2.1 <<< ((5 * (6 - nI z.2.1) : Int32) &&& 31))) else (z.1, z.2.1 + 1, z.2.2.1 <<< ((5 : Int32) &&& 31) ||| (nI x - 97 + 1), z.2.2.2)
def tpZ (n : Nat) : Nat × Nat × Int32 × (Nat → Int32) := (tpL.take n).foldl tpS (0, 0, 0, fun _ => 0)
def tpW : Nat → Int32 := (tpZ 97).2.2.2
def mdL : List (Nat × Int) := [(0, 103), (1, 114), (2, 111), (3, 119), (4, 101), (5, 114), (6, 32), (7, 115), (8, 101), (9, 101), (10, 115), (11, 32), (12, 114), (13, 105), (14, 98), (15, 98), (16, 111), (17, 110), (18, 32), (19, 98), (20, 108), (21, 105), (22, 103), (23, 104), (24, 116), (25, 32), (26, 115), (27, 101), (28, 101), (29, 100), (30, 32), (31, 108), (32, 97), (33, 119), (34, 32), (35, 106), (36, 117), (37, 100), (38, 103), (39, 101), (40, 32), (41, 103), (42, 114), (43, 111), (44, 119), (45, 32), (46, 103), (47, 105), (48, 118), (49, 101), (50, 32), (51, 97), (52, 110), (53, 100), (54, 32), (55, 111), (56, 114), (57, 32), (58, 110), (59, 111), (60, 116), (61, 32), (62, 119), (63, 111), (64, 114), (65, 116), (66, 104), (67, 32), (68, 111), (69, 119), (70, 110), (71, 32), (72, 100), (73, 111), (74, 117), (75, 98), (76, 116), (77, 32), (78, 102), (79, 97), (80, 114), (81, 32), (82, 104), (83, 97), (84, 100), (85, 32), (86, 115), (87, 105), (88, 110), (89, 99), (90, 101), (91, 32), (92, 121), (93, 101), (94, 97), (95, 114), (96, 32)]
def mdW : Nat → Int32 := mdL.foldl (fun f x => upd f x.1 (Int32.ofInt x.2)) (fun _ => 0)
def cw0 (q : Nat → ClassId) (h b : Nat) (u : Nat → Nat) : va_W := [(h, .inr (0, [.ref (u 0), .ref (u 7), .ref (u 8), .ref (u 9), .ref (b), .int (0), .int (1)])), (u 0, .inr (5, [.int (0), .long 0, .ref (u 1), .ref (u 2), .ref (u 3), .ref (u 4), .ref (u 5), .ref (u 6)])), (u 1, .inl (q 0, 6, .inl (fun _ => 0))), (u 2, .inl (q 0, 6, .inl (fun _ => 0))), (u 3, .inl (q 0, 6, .inl (fun _ => 0))), (u 4, .inl (q 0, 2, .inl (fun _ => 0))), (u 5, .inl (q 0, 2, .inl (fun _ => 0))), (u 6, .inl (q 0, 2, .inl (fun _ => 0))), (u 7, .inl (q 0, 6, .inl (fun _ => 0))), (u 8, .inl (q 1, 7, .inr (.inl (fun _ => 0)))), (u 9, .inl (q 1, 64, .inr (.inl (fun _ => 0))))]
def cw1 (q : Nat → ClassId) (h b : Nat) (u : Nat → Nat) : va_W := [(h, .inr (1, [.ref (u 0), .ref (u 1), .ref (u 2), .ref (u 3), .ref (u 4), .ref (u 5), .int (0)])), (u 0, .inl (q 0, 20, .inl (fun _ => 0))), (u 1, .inl (q 0, 20, .inl (fun _ => 0))), (u 2, .inl (q 0, 20, .inl (fun _ => 0))), (u 3, .inl (q 0, 20, .inl (fun _ => 0))), (u 4, .inl (q 0, 20, .inl (fun _ => 0))), (u 5, .inl (q 0, 20, .inl (fun _ => 0)))]
def cw2 (q : Nat → ClassId) (h b : Nat) (u : Nat → Nat) : va_W := [(h, .inr (2, [.int (0), .int (0), .int (0), .int (0), .int (0), .ref (u 0), .ref (u 1), .ref (u 2), .ref (u 3), .ref (u 4), .ref (u 11)])), (u 0, .inl (q 0, 6, .inl (fun _ => 0))), (u 1, .inl (q 0, 6, .inl (fun _ => 0))), (u 2, .inl (q 0, 6, .inl (fun _ => 0))), (u 3, .inl (q 0, 6, .inl (fun _ => 0))), (u 4, .inl (q 4, 3, .inr (.inr (.inr (.inr (va_up (va_up (va_up (fun _ => none) 0 (some (u 5))) 1 (some (u 7))) 2 (some (u 9)))))))), (u 5, .inr (3, [.ref (u 6), .int (0)])), (u 6, .inl (q 0, 64, .inl (fun _ => 0))), (u 7, .inr (3, [.ref (u 8), .int (0)])), (u 8, .inl (q 0, 64, .inl (fun _ => 0))), (u 9, .inr (3, [.ref (u 10), .int (0)])), (u 10, .inl (q 0, 64, .inl (fun _ => 0))), (u 11, .inr (5, [.int (0), .long 0, .ref (u 12), .ref (u 13), .ref (u 14), .ref (u 15), .ref (u 16), .ref (u 17)])), (u 12, .inl (q 0, 6, .inl (fun _ => 0))), (u 13, .inl (q 0, 6, .inl (fun _ => 0))), (u 14, .inl (q 0, 6, .inl (fun _ => 0))), (u 15, .inl (q 0, 2, .inl (fun _ => 0))), (u 16, .inl (q 0, 2, .inl (fun _ => 0))), (u 17, .inl (q 0, 2, .inl (fun _ => 0)))]
def cw3 (q : Nat → ClassId) (h b : Nat) (u : Nat → Nat) : va_W := [(h, .inr (3, [.ref (u 0), .int (0)])), (u 0, .inl (q 0, 64, .inl (fun _ => 0)))]
def cw4 (q : Nat → ClassId) (h b : Nat) (u : Nat → Nat) : va_W := [(h, .inr (4, [.ref (u 0), .int (-2), .int (0), .int (0), .int (0), .int (0), .int (0), .int (0)])), (u 0, .inl (q 0, 36, .inl (fun _ => 0)))]
def cw5 (q : Nat → ClassId) (h b : Nat) (u : Nat → Nat) : va_W := [(h, .inr (5, [.int (0), .long 0, .ref (u 0), .ref (u 1), .ref (u 2), .ref (u 3), .ref (u 4), .ref (u 5)])), (u 0, .inl (q 0, 6, .inl (fun _ => 0))), (u 1, .inl (q 0, 6, .inl (fun _ => 0))), (u 2, .inl (q 0, 6, .inl (fun _ => 0))), (u 3, .inl (q 0, 2, .inl (fun _ => 0))), (u 4, .inl (q 0, 2, .inl (fun _ => 0))), (u 5, .inl (q 0, 2, .inl (fun _ => 0)))]
def cw6 (q : Nat → ClassId) (h b : Nat) (u : Nat → Nat) : va_W := [(h, .inr (6, [.ref (b), .ref (u 0), .int (0), .int (0), .ref (u 1), .int (0), .int (0), .int (0), .int (0), .int (-1)])), (u 0, .inl (q 0, 72, .inl (fun _ => 0))), (u 1, .inr (2, [.int (0), .int (0), .int (0), .int (0), .int (0), .ref (u 2), .ref (u 3), .ref (u 4), .ref (u 5), .ref (u 6), .ref (u 13)])), (u 2, .inl (q 0, 6, .inl (fun _ => 0))), (u 3, .inl (q 0, 6, .inl (fun _ => 0))), (u 4, .inl (q 0, 6, .inl (fun _ => 0))), (u 5, .inl (q 0, 6, .inl (fun _ => 0))), (u 6, .inl (q 4, 3, .inr (.inr (.inr (.inr (va_up (va_up (va_up (fun _ => none) 0 (some (u 7))) 1 (some (u 9))) 2 (some (u 11)))))))), (u 7, .inr (3, [.ref (u 8), .int (0)])), (u 8, .inl (q 0, 64, .inl (fun _ => 0))), (u 9, .inr (3, [.ref (u 10), .int (0)])), (u 10, .inl (q 0, 64, .inl (fun _ => 0))), (u 11, .inr (3, [.ref (u 12), .int (0)])), (u 12, .inl (q 0, 64, .inl (fun _ => 0))), (u 13, .inr (5, [.int (0), .long 0, .ref (u 14), .ref (u 15), .ref (u 16), .ref (u 17), .ref (u 18), .ref (u 19)])), (u 14, .inl (q 0, 6, .inl (fun _ => 0))), (u 15, .inl (q 0, 6, .inl (fun _ => 0))), (u 16, .inl (q 0, 6, .inl (fun _ => 0))), (u 17, .inl (q 0, 2, .inl (fun _ => 0))), (u 18, .inl (q 0, 2, .inl (fun _ => 0))), (u 19, .inl (q 0, 2, .inl (fun _ => 0)))]
def cw7 (q : Nat → ClassId) (h b : Nat) (u : Nat → Nat) : va_W := [(h, .inr (7, [.ref (u 0), .ref (u 1), .ref (u 2), .ref (u 3), .int (0), .int (0), .int (0), .int (0), .int (0)])), (u 0, .inl (q 0, 36, .inl (fun _ => 0))), (u 1, .inl (q 3, 6, .inl (fun _ => 0))), (u 2, .inl (q 0, 6, .inl (fun _ => 0))), (u 3, .inl (q 0, 6, .inl (fun _ => 0)))]
def cw8 (q : Nat → ClassId) (h b : Nat) (u : Nat → Nat) : va_W := [(h, .inr (8, [.ref (u 0), .ref (u 1), .int (0), .int (0)])), (u 0, .inl (q 0, 6, .inl (fun _ => 0))), (u 1, .inl (q 0, 6, .inl (fun _ => 0)))]
def cw9 (q : Nat → ClassId) (h b : Nat) (u : Nat → Nat) : va_W := [(h, .inr (9, [.ref (u 0), .ref (u 1), .int (0), .int (0), .int (0), .int (0), .int (0), .int (0)])), (u 0, .inl (q 0, 19, .inl tpW)), (u 1, .inl (q 2, 700, .inl (fun _ => 0)))]
def cw10 (q : Nat → ClassId) (h b : Nat) (u : Nat → Nat) : va_W := [(h, .inr (10, [.ref (u 0), .ref (u 1), .ref (u 2), .ref (u 3), .ref (u 4), .ref (u 5), .int (0), .int (-1)])), (u 0, .inl (q 0, 24, .inl (fun _ => 0))), (u 1, .inl (q 0, 24, .inl (fun _ => 0))), (u 2, .inl (q 0, 24, .inl (fun _ => 0))), (u 3, .inl (q 0, 24, .inl (fun _ => 0))), (u 4, .inl (q 3, 24, .inl (fun _ => 0))), (u 5, .inl (q 3, 24, .inl (fun _ => 0)))]
def cw11 (q : Nat → ClassId) (h b : Nat) (u : Nat → Nat) : va_W := [(h, .inr (11, [.ref (u 0), .ref (u 3), .ref (u 24), .ref (u 43), .ref (u 54), .ref (u 65), .int (0), .ref (u 72), .ref (u 79), .ref (u 86), .ref (u 91), .ref (u 93)])), (u 0, .inr (9, [.ref (u 1), .ref (u 2), .int (0), .int (0), .int (0), .int (0), .int (0), .int (0)])), (u 1, .inl (q 0, 19, .inl tpW)), (u 2, .inl (q 2, 700, .inl (fun _ => 0))), (u 3, .inr (6, [.ref (u 0), .ref (u 4), .int (0), .int (0), .ref (u 5), .int (0), .int (0), .int (0), .int (0), .int (-1)])), (u 4, .inl (q 0, 72, .inl (fun _ => 0))), (u 5, .inr (2, [.int (0), .int (0), .int (0), .int (0), .int (0), .ref (u 6), .ref (u 7), .ref (u 8), .ref (u 9), .ref (u 10), .ref (u 17)])), (u 6, .inl (q 0, 6, .inl (fun _ => 0))), (u 7, .inl (q 0, 6, .inl (fun _ => 0))), (u 8, .inl (q 0, 6, .inl (fun _ => 0))), (u 9, .inl (q 0, 6, .inl (fun _ => 0))), (u 10, .inl (q 4, 3, .inr (.inr (.inr (.inr (va_up (va_up (va_up (fun _ => none) 0 (some (u 11))) 1 (some (u 13))) 2 (some (u 15)))))))), (u 11, .inr (3, [.ref (u 12), .int (0)])), (u 12, .inl (q 0, 64, .inl (fun _ => 0))), (u 13, .inr (3, [.ref (u 14), .int (0)])), (u 14, .inl (q 0, 64, .inl (fun _ => 0))), (u 15, .inr (3, [.ref (u 16), .int (0)])), (u 16, .inl (q 0, 64, .inl (fun _ => 0))), (u 17, .inr (5, [.int (0), .long 0, .ref (u 18), .ref (u 19), .ref (u 20), .ref (u 21), .ref (u 22), .ref (u 23)])), (u 18, .inl (q 0, 6, .inl (fun _ => 0))), (u 19, .inl (q 0, 6, .inl (fun _ => 0))), (u 20, .inl (q 0, 6, .inl (fun _ => 0))), (u 21, .inl (q 0, 2, .inl (fun _ => 0))), (u 22, .inl (q 0, 2, .inl (fun _ => 0))), (u 23, .inl (q 0, 2, .inl (fun _ => 0))), (u 24, .inr (2, [.int (0), .int (0), .int (0), .int (0), .int (0), .ref (u 25), .ref (u 26), .ref (u 27), .ref (u 28), .ref (u 29), .ref (u 36)])), (u 25, .inl (q 0, 6, .inl (fun _ => 0))), (u 26, .inl (q 0, 6, .inl (fun _ => 0))), (u 27, .inl (q 0, 6, .inl (fun _ => 0))), (u 28, .inl (q 0, 6, .inl (fun _ => 0))), (u 29, .inl (q 4, 3, .inr (.inr (.inr (.inr (va_up (va_up (va_up (fun _ => none) 0 (some (u 30))) 1 (some (u 32))) 2 (some (u 34)))))))), (u 30, .inr (3, [.ref (u 31), .int (0)])), (u 31, .inl (q 0, 64, .inl (fun _ => 0))), (u 32, .inr (3, [.ref (u 33), .int (0)])), (u 33, .inl (q 0, 64, .inl (fun _ => 0))), (u 34, .inr (3, [.ref (u 35), .int (0)])), (u 35, .inl (q 0, 64, .inl (fun _ => 0))), (u 36, .inr (5, [.int (0), .long 0, .ref (u 37), .ref (u 38), .ref (u 39), .ref (u 40), .ref (u 41), .ref (u 42)])), (u 37, .inl (q 0, 6, .inl (fun _ => 0))), (u 38, .inl (q 0, 6, .inl (fun _ => 0))), (u 39, .inl (q 0, 6, .inl (fun _ => 0))), (u 40, .inl (q 0, 2, .inl (fun _ => 0))), (u 41, .inl (q 0, 2, .inl (fun _ => 0))), (u 42, .inl (q 0, 2, .inl (fun _ => 0))), (u 43, .inr (0, [.ref (u 44), .ref (u 51), .ref (u 52), .ref (u 53), .ref (u 24), .int (0), .int (1)])), (u 44, .inr (5, [.int (0), .long 0, .ref (u 45), .ref (u 46), .ref (u 47), .ref (u 48), .ref (u 49), .ref (u 50)])), (u 45, .inl (q 0, 6, .inl (fun _ => 0))), (u 46, .inl (q 0, 6, .inl (fun _ => 0))), (u 47, .inl (q 0, 6, .inl (fun _ => 0))), (u 48, .inl (q 0, 2, .inl (fun _ => 0))), (u 49, .inl (q 0, 2, .inl (fun _ => 0))), (u 50, .inl (q 0, 2, .inl (fun _ => 0))), (u 51, .inl (q 0, 6, .inl (fun _ => 0))), (u 52, .inl (q 1, 7, .inr (.inl (fun _ => 0)))), (u 53, .inl (q 1, 64, .inr (.inl (fun _ => 0)))), (u 54, .inr (0, [.ref (u 55), .ref (u 62), .ref (u 63), .ref (u 64), .ref (u 24), .int (0), .int (1)])), (u 55, .inr (5, [.int (0), .long 0, .ref (u 56), .ref (u 57), .ref (u 58), .ref (u 59), .ref (u 60), .ref (u 61)])), (u 56, .inl (q 0, 6, .inl (fun _ => 0))), (u 57, .inl (q 0, 6, .inl (fun _ => 0))), (u 58, .inl (q 0, 6, .inl (fun _ => 0))), (u 59, .inl (q 0, 2, .inl (fun _ => 0))), (u 60, .inl (q 0, 2, .inl (fun _ => 0))), (u 61, .inl (q 0, 2, .inl (fun _ => 0))), (u 62, .inl (q 0, 6, .inl (fun _ => 0))), (u 63, .inl (q 1, 7, .inr (.inl (fun _ => 0)))), (u 64, .inl (q 1, 64, .inr (.inl (fun _ => 0)))), (u 65, .inr (5, [.int (0), .long 0, .ref (u 66), .ref (u 67), .ref (u 68), .ref (u 69), .ref (u 70), .ref (u 71)])), (u 66, .inl (q 0, 6, .inl (fun _ => 0))), (u 67, .inl (q 0, 6, .inl (fun _ => 0))), (u 68, .inl (q 0, 6, .inl (fun _ => 0))), (u 69, .inl (q 0, 2, .inl (fun _ => 0))), (u 70, .inl (q 0, 2, .inl (fun _ => 0))), (u 71, .inl (q 0, 2, .inl (fun _ => 0))), (u 72, .inr (1, [.ref (u 73), .ref (u 74), .ref (u 75), .ref (u 76), .ref (u 77), .ref (u 78), .int (0)])), (u 73, .inl (q 0, 20, .inl (fun _ => 0))), (u 74, .inl (q 0, 20, .inl (fun _ => 0))), (u 75, .inl (q 0, 20, .inl (fun _ => 0))), (u 76, .inl (q 0, 20, .inl (fun _ => 0))), (u 77, .inl (q 0, 20, .inl (fun _ => 0))), (u 78, .inl (q 0, 20, .inl (fun _ => 0))), (u 79, .inr (10, [.ref (u 80), .ref (u 81), .ref (u 82), .ref (u 83), .ref (u 84), .ref (u 85), .int (0), .int (-1)])), (u 80, .inl (q 0, 24, .inl (fun _ => 0))), (u 81, .inl (q 0, 24, .inl (fun _ => 0))), (u 82, .inl (q 0, 24, .inl (fun _ => 0))), (u 83, .inl (q 0, 24, .inl (fun _ => 0))), (u 84, .inl (q 3, 24, .inl (fun _ => 0))), (u 85, .inl (q 3, 24, .inl (fun _ => 0))), (u 86, .inr (7, [.ref (u 87), .ref (u 88), .ref (u 89), .ref (u 90), .int (0), .int (0), .int (0), .int (0), .int (0)])), (u 87, .inl (q 0, 36, .inl (fun _ => 0))), (u 88, .inl (q 3, 6, .inl (fun _ => 0))), (u 89, .inl (q 0, 6, .inl (fun _ => 0))), (u 90, .inl (q 0, 6, .inl (fun _ => 0))), (u 91, .inr (4, [.ref (u 92), .int (-2), .int (0), .int (0), .int (0), .int (0), .int (0), .int (0)])), (u 92, .inl (q 0, 36, .inl (fun _ => 0))), (u 93, .inr (8, [.ref (u 94), .ref (u 95), .int (0), .int (0)])), (u 94, .inl (q 0, 6, .inl (fun _ => 0))), (u 95, .inl (q 0, 6, .inl (fun _ => 0)))]
def cw12 (q : Nat → ClassId) (h b : Nat) (u : Nat → Nat) : va_W := [(h, .inr (12, [.ref (u 0), .int 0, .int 0, .ref (u 1), .int 0, .int (-1), .int 0, .int 0, .int 0, .int 0, .int 0, .int 0, .int 0, .int 0, .int 0, .int 0, .int 0, .int 0, .ref (u 2), .ref (u 3), .ref (u 4), .ref (u 5), .ref (u 6), .ref (u 7), .ref (u 8), .ref (u 9), .ref (u 10), .ref (u 11), .ref (u 12), .ref (u 13), .ref (u 14), .ref (u 15), .ref (u 16), .ref (u 17), .ref (u 18), .int 0, .int 0, .int 0, .int 0, .int 0, .int 0, .ref (u 19), .ref (u 20), .int 0, .ref (u 21), .ref (u 22), .ref (u 23), .ref (u 24), .ref (u 25), .ref (u 26), .ref (u 27), .long 0, .int 0, .int 0, .int 0, .int 0, .int 0, .int 0, .int 0, .int 0, .int 0, .int 0, .ref (u 28), .int 0, .int 0, .int 0, .ref (u 29), .int 0, .int (-1), .ref (u 30), .ref (u 31), .ref (u 32), .int 0, .ref (u 33), .int 0, .ref (u 34), .int 0, .long 0])), (u 0, .inl (q 0, 700, .inl (fun _ => 0))), (u 1, .inl (q 0, 97, .inl mdW)), (u 2, .inl (q 3, 2, .inl (fun _ => 0))), (u 3, .inl (q 0, 4, .inl (fun _ => 0))), (u 4, .inl (q 0, 12, .inl (fun _ => 0))), (u 5, .inl (q 0, 12, .inl (fun _ => 0))), (u 6, .inl (q 0, 12, .inl (fun _ => 0))), (u 7, .inl (q 0, 12, .inl (fun _ => 0))), (u 8, .inl (q 0, 12, .inl (fun _ => 0))), (u 9, .inl (q 0, 12, .inl (fun _ => 0))), (u 10, .inl (q 0, 4, .inl (fun _ => 0))), (u 11, .inl (q 3, 6, .inl (fun _ => 0))), (u 12, .inl (q 0, 6, .inl (fun _ => 0))), (u 13, .inl (q 0, 6, .inl (fun _ => 0))), (u 14, .inl (q 0, 128, .inl (fun _ => 0))), (u 15, .inl (q 0, 128, .inl (fun _ => 0))), (u 16, .inl (q 0, 128, .inl (fun _ => 0))), (u 17, .inl (q 0, 96, .inl (fun _ => 0))), (u 18, .inl (q 0, 96, .inl (fun _ => 0))), (u 19, .inl (q 1, 7, .inr (.inl (fun _ => 0)))), (u 20, .inl (q 1, 64, .inr (.inl (fun _ => 0)))), (u 21, .inl (q 0, 12, .inl (fun _ => 0))), (u 22, .inl (q 0, 12, .inl (fun _ => 0))), (u 23, .inl (q 0, 12, .inl (fun _ => 0))), (u 24, .inl (q 0, 4, .inl (fun _ => 0))), (u 25, .inl (q 0, 4, .inl (fun _ => 0))), (u 26, .inl (q 0, 4, .inl (fun _ => 0))), (u 27, .inl (q 0, 2, .inl (fun _ => 0))), (u 28, .inl (q 0, 6, .inl (fun _ => 0))), (u 29, .inl (q 0, 6, .inl (fun _ => 0))), (u 30, .inl (q 0, 120, .inl (fun _ => 0))), (u 31, .inl (q 3, 24, .inl (fun _ => 0))), (u 32, .inl (q 0, 6, .inl (fun _ => 0))), (u 33, .inl (q 0, 480, .inl (fun _ => 0))), (u 34, .inl (q 0, 24, .inl (fun _ => 0)))]
def cwT (q : Nat → ClassId) (c h b : Nat) (u : Nat → Nat) : va_W := match c with
  | 0 => cw0 q h b u
  | 1 => cw1 q h b u
  | 2 => cw2 q h b u
  | 3 => cw3 q h b u
  | 4 => cw4 q h b u
  | 5 => cw5 q h b u
  | 6 => cw6 q h b u
  | 7 => cw7 q h b u
  | 8 => cw8 q h b u
  | 9 => cw9 q h b u
  | 10 => cw10 q h b u
  | 11 => cw11 q h b u
  | _ => cw12 q h b u
def ccT (c : Nat) : Nat := [10, 6, 18, 1, 1, 6, 20, 4, 2, 2, 6, 96, 35].getD c 0
def csT (c : Nat) : Nat := [109, 120, 257, 64, 36, 24, 340, 54, 12, 719, 144, 2011, 2260].getD c 0
theorem cwT_h (q : Nat → ClassId) (c h b : Nat) (u : Nat → Nat) : ∃ e t, cwT q c h b u = (h, e) :: t := match c with
  | 0 => ⟨_, _, rfl⟩
  | 1 => ⟨_, _, rfl⟩
  | 2 => ⟨_, _, rfl⟩
  | 3 => ⟨_, _, rfl⟩
  | 4 => ⟨_, _, rfl⟩
  | 5 => ⟨_, _, rfl⟩
  | 6 => ⟨_, _, rfl⟩
  | 7 => ⟨_, _, rfl⟩
  | 8 => ⟨_, _, rfl⟩
  | 9 => ⟨_, _, rfl⟩
  | 10 => ⟨_, _, rfl⟩
  | 11 => ⟨_, _, rfl⟩
  | _ + 12 => ⟨_, _, rfl⟩
def ki0 : List INS := [(0, 0, 0, 0, 0, 0), (14, 3, 0, 0, 429, 0), (0, 0, 0, 0, 0, 0), (8, 9, 5, 0, 430, 0), (9, 0, 0, 0, 0, 0), (10, 11, 5, 0, 0, 0), (6, 12, 0, 0, 432, 0), (0, 0, 0, 0, 0, 0), (5, 0, 0, 6, 0, 1), (6, 18, 0, 1, 436, 0), (0, 0, 0, 0, 0, 0), (5, 0, 1, 7, 0, 1), (6, 22, 0, 2, 438, 0), (0, 0, 0, 0, 0, 0), (5, 0, 1, 64, 0, 1), (6, 26, 0, 3, 439, 0), (0, 0, 0, 0, 0, 0), (1, 0, 0, 0, 0, 0), (6, 29, 0, 5, 443, 0), (0, 0, 0, 0, 0, 0), (1, 0, 0, 0, 0, 1), (6, 33, 0, 6, 444, 0), (0, 0, 0, 0, 0, 0), (0, 0, 1, 0, 0, 0), (6, 37, 0, 4, 440, 0)]
def ki1 : List INS := [(0, 0, 0, 0, 0, 0), (14, 3, 0, 0, 468, 0), (0, 0, 0, 0, 0, 0), (5, 0, 0, 20, 0, 1), (6, 11, 1, 0, 469, 0), (0, 0, 0, 0, 0, 0), (5, 0, 0, 20, 0, 1), (6, 15, 1, 1, 470, 0), (0, 0, 0, 0, 0, 0), (5, 0, 0, 20, 0, 1), (6, 18, 1, 2, 471, 0), (0, 0, 0, 0, 0, 0), (5, 0, 0, 20, 0, 1), (6, 21, 1, 3, 472, 0), (0, 0, 0, 0, 0, 0), (5, 0, 0, 20, 0, 1), (6, 24, 1, 4, 473, 0), (0, 0, 0, 0, 0, 0), (5, 0, 0, 20, 0, 1), (6, 27, 1, 5, 474, 0), (0, 0, 0, 0, 0, 0), (1, 0, 0, 0, 0, 0), (6, 30, 1, 6, 475, 0)]
def ki2 : List INS := [(0, 0, 0, 0, 0, 0), (14, 3, 0, 0, 251, 0), (0, 0, 0, 0, 0, 0), (1, 0, 0, 0, 0, 0), (6, 9, 2, 0, 327, 0), (0, 0, 0, 0, 0, 0), (1, 0, 0, 0, 0, 0), (6, 15, 2, 1, 334, 0), (0, 0, 0, 0, 0, 0), (1, 0, 0, 0, 0, 0), (6, 18, 2, 2, 339, 0), (0, 0, 0, 0, 0, 0), (1, 0, 0, 0, 0, 0), (6, 21, 2, 3, 342, 0), (0, 0, 0, 0, 0, 0), (1, 0, 0, 0, 0, 0), (6, 24, 2, 4, 344, 0), (0, 0, 0, 0, 0, 0), (5, 0, 0, 6, 0, 1), (6, 27, 2, 5, 347, 0), (0, 0, 0, 0, 0, 0), (5, 0, 0, 6, 0, 1), (6, 31, 2, 6, 349, 0), (0, 0, 0, 0, 0, 0), (5, 0, 0, 6, 0, 1), (6, 34, 2, 7, 353, 0), (0, 0, 0, 0, 0, 0), (5, 0, 0, 6, 0, 1), (6, 37, 2, 8, 357, 0), (0, 0, 0, 0, 0, 0), (12, 40, 0, 3, 252, 0), (9, 0, 0, 0, 0, 0), (1, 0, 0, 0, 0, 0), (8, 40, 3, 0, 252, 0), (9, 0, 0, 0, 0, 0), (10, 42, 3, 0, 0, 0), (13, 0, 0, 0, 0, 0), (9, 0, 0, 0, 0, 0), (1, 0, 0, 0, 0, 1), (8, 40, 3, 0, 252, 0), (9, 0, 0, 0, 0, 0), (10, 42, 3, 0, 0, 0), (13, 0, 0, 1, 0, 0), (9, 0, 0, 0, 0, 0), (1, 0, 0, 0, 0, 2), (8, 40, 3, 0, 252, 0), (9, 0, 0, 0, 0, 0), (10, 42, 3, 0, 0, 0), (13, 0, 0, 2, 0, 0), (6, 43, 2, 9, 360, 0), (0, 0, 0, 0, 0, 0), (8, 47, 5, 0, 266, 0), (9, 0, 0, 0, 0, 0), (10, 49, 5, 0, 0, 0), (6, 50, 2, 10, 363, 0)]
def ki3 : List INS := [(0, 0, 0, 0, 0, 0), (14, 3, 0, 0, 258, 0), (0, 0, 0, 0, 0, 0), (5, 0, 0, 64, 0, 1), (6, 9, 3, 0, 259, 0), (0, 0, 0, 0, 0, 0), (1, 0, 0, 0, 0, 0), (6, 15, 3, 1, 260, 0)]
def ki4 : List INS := [(0, 0, 0, 0, 0, 0), (14, 3, 0, 0, 568, 0), (0, 0, 0, 0, 0, 0), (5, 0, 0, 36, 0, 1), (6, 9, 4, 0, 569, 0), (0, 0, 0, 0, 0, 0), (2, 0, 0, 0, 0, -2), (6, 15, 4, 1, 570, 0), (0, 0, 0, 0, 0, 0), (1, 0, 0, 0, 0, 0), (6, 19, 4, 2, 571, 0), (0, 0, 0, 0, 0, 0), (1, 0, 0, 0, 0, 0), (6, 22, 4, 3, 572, 0), (0, 0, 0, 0, 0, 0), (1, 0, 0, 0, 0, 0), (6, 25, 4, 4, 573, 0), (0, 0, 0, 0, 0, 0), (1, 0, 0, 0, 0, 0), (6, 28, 4, 5, 574, 0), (0, 0, 0, 0, 0, 0), (1, 0, 0, 0, 0, 0), (6, 31, 4, 6, 575, 0), (0, 0, 0, 0, 0, 0), (1, 0, 0, 0, 0, 0), (6, 34, 4, 7, 576, 0)]
def ki5 : List INS := [(0, 0, 0, 0, 0, 0), (14, 3, 0, 0, 271, 0), (0, 0, 0, 0, 0, 0), (1, 0, 0, 0, 0, 0), (6, 9, 5, 0, 272, 0), (0, 0, 0, 0, 0, 0), (4, 0, 0, 0, 0, 0), (6, 15, 5, 1, 275, 0), (0, 0, 0, 0, 0, 0), (5, 0, 0, 6, 0, 1), (6, 19, 5, 2, 278, 0), (0, 0, 0, 0, 0, 0), (5, 0, 0, 6, 0, 1), (6, 23, 5, 3, 283, 0), (0, 0, 0, 0, 0, 0), (5, 0, 0, 6, 0, 1), (6, 26, 5, 4, 288, 0), (0, 0, 0, 0, 0, 0), (5, 0, 0, 2, 0, 0), (6, 29, 5, 5, 294, 0), (0, 0, 0, 0, 0, 0), (5, 0, 0, 2, 0, 0), (6, 32, 5, 6, 302, 0), (0, 0, 0, 0, 0, 0), (5, 0, 0, 2, 0, 0), (6, 35, 5, 7, 307, 0)]
def ki6 : List INS := [(0, 0, 0, 0, 0, 0), (14, 3, 0, 0, 245, 0), (0, 0, 0, 0, 0, 0), (5, 0, 0, 72, 0, 1), (6, 9, 6, 1, 390, 0), (0, 0, 0, 0, 0, 0), (1, 0, 0, 0, 0, 0), (6, 15, 6, 2, 391, 0), (0, 0, 0, 0, 0, 0), (1, 0, 0, 0, 0, 0), (6, 19, 6, 3, 392, 0), (0, 0, 0, 0, 0, 0), (8, 22, 2, 0, 246, 0), (9, 0, 0, 0, 0, 0), (10, 24, 2, 0, 0, 0), (6, 25, 6, 4, 393, 0), (0, 0, 0, 0, 0, 0), (1, 0, 0, 0, 0, 0), (6, 29, 6, 5, 394, 0), (0, 0, 0, 0, 0, 0), (1, 0, 0, 0, 0, 0), (6, 33, 6, 6, 395, 0), (0, 0, 0, 0, 0, 0), (1, 0, 0, 0, 0, 0), (6, 36, 6, 7, 396, 0), (0, 0, 0, 0, 0, 0), (1, 0, 0, 0, 0, 0), (6, 39, 6, 8, 397, 0), (0, 0, 0, 0, 0, 0), (1, 0, 0, 0, 0, -1), (6, 42, 6, 9, 399, 0), (0, 0, 0, 0, 0, 0), (0, 0, 1, 0, 0, 0), (6, 45, 6, 0, 389, 0)]
def ki7 : List INS := [(0, 0, 0, 0, 0, 0), (14, 3, 0, 0, 530, 0), (0, 0, 0, 0, 0, 0), (5, 0, 0, 36, 0, 1), (6, 9, 7, 0, 531, 0), (0, 0, 0, 0, 0, 0), (5, 0, 3, 6, 0, 1), (6, 15, 7, 1, 532, 0), (0, 0, 0, 0, 0, 0), (5, 0, 0, 6, 0, 1), (6, 19, 7, 2, 533, 0), (0, 0, 0, 0, 0, 0), (5, 0, 0, 6, 0, 1), (6, 22, 7, 3, 534, 0), (0, 0, 0, 0, 0, 0), (1, 0, 0, 0, 0, 0), (6, 25, 7, 4, 535, 0), (0, 0, 0, 0, 0, 0), (1, 0, 0, 0, 0, 0), (6, 29, 7, 5, 536, 0), (0, 0, 0, 0, 0, 0), (1, 0, 0, 0, 0, 0), (6, 32, 7, 6, 537, 0), (0, 0, 0, 0, 0, 0), (1, 0, 0, 0, 0, 0), (6, 36, 7, 7, 540, 0), (0, 0, 0, 0, 0, 0), (1, 0, 0, 0, 0, 0), (6, 39, 7, 8, 542, 0)]
def ki8 : List INS := [(0, 0, 0, 0, 0, 0), (14, 3, 0, 0, 599, 0), (0, 0, 0, 0, 0, 0), (5, 0, 0, 6, 0, 1), (6, 9, 8, 0, 600, 0), (0, 0, 0, 0, 0, 0), (5, 0, 0, 6, 0, 1), (6, 15, 8, 1, 601, 0), (0, 0, 0, 0, 0, 0), (1, 0, 0, 0, 0, 0), (6, 18, 8, 2, 602, 0), (0, 0, 0, 0, 0, 0), (1, 0, 0, 0, 0, 0), (6, 22, 8, 3, 603, 0)]
def ki9 : List INS := [(0, 0, 0, 0, 0, 0), (14, 3, 0, 0, 159, 0), (0, 0, 0, 0, 0, 0), (5, 0, 0, 19, 0, 1), (6, 11, 9, 0, 209, 0), (0, 0, 0, 0, 0, 0), (5, 0, 2, 700, 0, 2), (6, 15, 9, 1, 210, 0), (0, 0, 0, 0, 0, 0), (1, 0, 0, 0, 0, 0), (6, 19, 9, 2, 211, 0), (0, 0, 0, 0, 0, 0), (1, 0, 0, 0, 0, 0), (6, 23, 9, 3, 212, 0), (0, 0, 0, 0, 0, 0), (1, 0, 0, 0, 0, 0), (6, 26, 9, 4, 213, 0), (0, 0, 0, 0, 0, 0), (1, 0, 0, 0, 0, 0), (6, 29, 9, 5, 215, 0), (0, 0, 0, 0, 0, 0), (1, 0, 0, 0, 0, 0), (6, 32, 9, 6, 217, 0), (0, 0, 0, 0, 0, 0), (1, 0, 0, 0, 0, 0), (6, 35, 9, 7, 219, 0)]
def ki10 : List INS := [(0, 0, 0, 0, 0, 0), (14, 3, 0, 0, 496, 0), (0, 0, 0, 0, 0, 0), (5, 0, 0, 24, 0, 1), (6, 11, 10, 0, 497, 0), (0, 0, 0, 0, 0, 0), (5, 0, 0, 24, 0, 1), (6, 15, 10, 1, 498, 0), (0, 0, 0, 0, 0, 0), (5, 0, 0, 24, 0, 1), (6, 18, 10, 2, 499, 0), (0, 0, 0, 0, 0, 0), (5, 0, 0, 24, 0, 1), (6, 21, 10, 3, 500, 0), (0, 0, 0, 0, 0, 0), (5, 0, 3, 24, 0, 1), (6, 24, 10, 4, 501, 0), (0, 0, 0, 0, 0, 0), (5, 0, 3, 24, 0, 1), (6, 28, 10, 5, 502, 0), (0, 0, 0, 0, 0, 0), (1, 0, 0, 0, 0, 0), (6, 31, 10, 6, 503, 0), (0, 0, 0, 0, 0, 0), (1, 0, 0, 0, 0, -1), (6, 35, 10, 7, 505, 0)]
def ki11 : List INS := [(0, 0, 0, 0, 0, 0), (14, 5, 0, 0, 151, 0), (0, 0, 0, 0, 0, 0), (8, 11, 9, 0, 154, 0), (9, 0, 0, 0, 0, 0), (10, 13, 9, 0, 156, 0), (6, 14, 11, 0, 614, 0), (0, 0, 0, 0, 0, 0), (8, 18, 6, 0, 240, 0), (9, 0, 0, 0, 0, 0), (0, 0, 0, 0, 0, 0), (11, 14, 11, 0, 614, 0), (16, 20, 6, 0, 242, 0), (6, 23, 11, 1, 615, 0), (0, 0, 0, 0, 0, 0), (8, 27, 2, 0, 422, 0), (9, 0, 0, 0, 0, 0), (10, 29, 2, 0, 0, 0), (6, 30, 11, 2, 616, 0), (0, 0, 0, 0, 0, 0), (8, 34, 0, 0, 424, 0), (9, 0, 0, 0, 0, 0), (0, 0, 0, 0, 0, 0), (11, 30, 11, 2, 616, 0), (16, 36, 0, 0, 426, 0), (6, 39, 11, 3, 617, 0), (0, 0, 0, 0, 0, 0), (8, 34, 0, 0, 424, 0), (9, 0, 0, 0, 0, 0), (0, 0, 0, 0, 0, 0), (11, 30, 11, 2, 616, 0), (16, 36, 0, 0, 426, 0), (6, 43, 11, 4, 618, 0), (0, 0, 0, 0, 0, 0), (8, 46, 5, 0, 461, 0), (9, 0, 0, 0, 0, 0), (10, 48, 5, 0, 0, 0), (6, 49, 11, 5, 619, 0), (0, 0, 0, 0, 0, 0), (1, 0, 0, 0, 0, 0), (6, 53, 11, 6, 620, 0), (0, 0, 0, 0, 0, 0), (8, 57, 1, 0, 463, 0), (9, 0, 0, 0, 0, 0), (10, 59, 1, 0, 0, 0), (6, 60, 11, 7, 621, 0), (0, 0, 0, 0, 0, 0), (8, 64, 10, 0, 491, 0), (9, 0, 0, 0, 0, 0), (10, 66, 10, 0, 0, 0), (6, 67, 11, 8, 622, 0), (0, 0, 0, 0, 0, 0), (8, 71, 7, 0, 525, 0), (9, 0, 0, 0, 0, 0), (10, 73, 7, 0, 0, 0), (6, 74, 11, 9, 623, 0), (0, 0, 0, 0, 0, 0), (8, 78, 4, 0, 563, 0), (9, 0, 0, 0, 0, 0), (10, 80, 4, 0, 0, 0), (6, 81, 11, 10, 624, 0), (0, 0, 0, 0, 0, 0), (8, 85, 8, 0, 594, 0), (9, 0, 0, 0, 0, 0), (10, 87, 8, 0, 0, 0), (6, 88, 11, 11, 625, 0)]
def ki12 : List INS := [(0, 0, 0, 0, 0, 0), (14, 1, 0, 0, 1439, 0), (0, 0, 0, 0, 0, 0), (5, 0, 0, 700, 0, 2), (6, 7, 12, 0, 1463, 0), (0, 0, 0, 0, 0, 0), (5, 0, 0, 97, 0, 1), (15, 0, 0, 0, 0, 103), (15, 0, 0, 1, 0, 114), (15, 0, 0, 2, 0, 111), (15, 0, 0, 3, 0, 119), (15, 0, 0, 4, 0, 101), (15, 0, 0, 5, 0, 114), (15, 0, 0, 6, 0, 32), (15, 0, 0, 7, 0, 115), (15, 0, 0, 8, 0, 101), (15, 0, 0, 9, 0, 101), (15, 0, 0, 10, 0, 115), (15, 0, 0, 11, 0, 32), (15, 0, 0, 12, 0, 114), (15, 0, 0, 13, 0, 105), (15, 0, 0, 14, 0, 98), (15, 0, 0, 15, 0, 98), (15, 0, 0, 16, 0, 111), (15, 0, 0, 17, 0, 110), (15, 0, 0, 18, 0, 32), (15, 0, 0, 19, 0, 98), (15, 0, 0, 20, 0, 108), (15, 0, 0, 21, 0, 105), (15, 0, 0, 22, 0, 103), (15, 0, 0, 23, 0, 104), (15, 0, 0, 24, 0, 116), (15, 0, 0, 25, 0, 32), (15, 0, 0, 26, 0, 115), (15, 0, 0, 27, 0, 101), (15, 0, 0, 28, 0, 101), (15, 0, 0, 29, 0, 100), (15, 0, 0, 30, 0, 32), (15, 0, 0, 31, 0, 108), (15, 0, 0, 32, 0, 97), (15, 0, 0, 33, 0, 119), (15, 0, 0, 34, 0, 32), (15, 0, 0, 35, 0, 106), (15, 0, 0, 36, 0, 117), (15, 0, 0, 37, 0, 100), (15, 0, 0, 38, 0, 103), (15, 0, 0, 39, 0, 101), (15, 0, 0, 40, 0, 32), (15, 0, 0, 41, 0, 103), (15, 0, 0, 42, 0, 114), (15, 0, 0, 43, 0, 111), (15, 0, 0, 44, 0, 119), (15, 0, 0, 45, 0, 32), (15, 0, 0, 46, 0, 103), (15, 0, 0, 47, 0, 105), (15, 0, 0, 48, 0, 118), (15, 0, 0, 49, 0, 101), (15, 0, 0, 50, 0, 32), (15, 0, 0, 51, 0, 97), (15, 0, 0, 52, 0, 110), (15, 0, 0, 53, 0, 100), (15, 0, 0, 54, 0, 32), (15, 0, 0, 55, 0, 111), (15, 0, 0, 56, 0, 114), (15, 0, 0, 57, 0, 32), (15, 0, 0, 58, 0, 110), (15, 0, 0, 59, 0, 111), (15, 0, 0, 60, 0, 116), (15, 0, 0, 61, 0, 32), (15, 0, 0, 62, 0, 119), (15, 0, 0, 63, 0, 111), (15, 0, 0, 64, 0, 114), (15, 0, 0, 65, 0, 116), (15, 0, 0, 66, 0, 104), (15, 0, 0, 67, 0, 32), (15, 0, 0, 68, 0, 111), (15, 0, 0, 69, 0, 119), (15, 0, 0, 70, 0, 110), (15, 0, 0, 71, 0, 32), (15, 0, 0, 72, 0, 100), (15, 0, 0, 73, 0, 111), (15, 0, 0, 74, 0, 117), (15, 0, 0, 75, 0, 98), (15, 0, 0, 76, 0, 116), (15, 0, 0, 77, 0, 32), (15, 0, 0, 78, 0, 102), (15, 0, 0, 79, 0, 97), (15, 0, 0, 80, 0, 114), (15, 0, 0, 81, 0, 32), (15, 0, 0, 82, 0, 104), (15, 0, 0, 83, 0, 97), (15, 0, 0, 84, 0, 100), (15, 0, 0, 85, 0, 32), (15, 0, 0, 86, 0, 115), (15, 0, 0, 87, 0, 105), (15, 0, 0, 88, 0, 110), (15, 0, 0, 89, 0, 99), (15, 0, 0, 90, 0, 101), (15, 0, 0, 91, 0, 32), (15, 0, 0, 92, 0, 121), (15, 0, 0, 93, 0, 101), (15, 0, 0, 94, 0, 97), (15, 0, 0, 95, 0, 114), (15, 0, 0, 96, 0, 32), (6, 13, 12, 3, 1466, 0), (0, 0, 0, 0, 0, 0), (1, 0, 0, 0, 0, -1), (6, 16, 12, 5, 1468, 0), (0, 0, 0, 0, 0, 0), (5, 0, 3, 2, 0, 0), (6, 20, 12, 18, 1481, 0), (0, 0, 0, 0, 0, 0), (5, 0, 0, 4, 0, 0), (6, 24, 12, 19, 1482, 0), (0, 0, 0, 0, 0, 0), (5, 0, 0, 12, 0, 1), (6, 27, 12, 20, 1483, 0), (0, 0, 0, 0, 0, 0), (5, 0, 0, 12, 0, 1), (6, 30, 12, 21, 1484, 0), (0, 0, 0, 0, 0, 0), (5, 0, 0, 12, 0, 1), (6, 33, 12, 22, 1485, 0), (0, 0, 0, 0, 0, 0), (5, 0, 0, 12, 0, 1), (6, 36, 12, 23, 1486, 0), (0, 0, 0, 0, 0, 0), (5, 0, 0, 12, 0, 1), (6, 39, 12, 24, 1487, 0), (0, 0, 0, 0, 0, 0), (5, 0, 0, 12, 0, 1), (6, 42, 12, 25, 1488, 0), (0, 0, 0, 0, 0, 0), (5, 0, 0, 4, 0, 0), (6, 45, 12, 26, 1489, 0), (0, 0, 0, 0, 0, 0), (5, 0, 3, 6, 0, 1), (6, 48, 12, 27, 1490, 0), (0, 0, 0, 0, 0, 0), (5, 0, 0, 6, 0, 1), (6, 51, 12, 28, 1491, 0), (0, 0, 0, 0, 0, 0), (5, 0, 0, 6, 0, 1), (6, 54, 12, 29, 1492, 0), (0, 0, 0, 0, 0, 0), (5, 0, 0, 128, 0, 2), (6, 57, 12, 30, 1493, 0), (0, 0, 0, 0, 0, 0), (5, 0, 0, 128, 0, 2), (6, 60, 12, 31, 1494, 0), (0, 0, 0, 0, 0, 0), (5, 0, 0, 128, 0, 2), (6, 63, 12, 32, 1495, 0), (0, 0, 0, 0, 0, 0), (5, 0, 0, 96, 0, 1), (6, 66, 12, 33, 1496, 0), (0, 0, 0, 0, 0, 0), (5, 0, 0, 96, 0, 1), (6, 69, 12, 34, 1497, 0), (0, 0, 0, 0, 0, 0), (5, 0, 1, 7, 0, 1), (6, 72, 12, 41, 1504, 0), (0, 0, 0, 0, 0, 0), (5, 0, 1, 64, 0, 1), (6, 76, 12, 42, 1505, 0), (0, 0, 0, 0, 0, 0), (5, 0, 0, 12, 0, 1), (6, 79, 12, 44, 1507, 0), (0, 0, 0, 0, 0, 0), (5, 0, 0, 12, 0, 1), (6, 82, 12, 45, 1508, 0), (0, 0, 0, 0, 0, 0), (5, 0, 0, 12, 0, 1), (6, 85, 12, 46, 1509, 0), (0, 0, 0, 0, 0, 0), (5, 0, 0, 4, 0, 0), (6, 88, 12, 47, 1510, 0), (0, 0, 0, 0, 0, 0), (5, 0, 0, 4, 0, 0), (6, 91, 12, 48, 1511, 0), (0, 0, 0, 0, 0, 0), (5, 0, 0, 4, 0, 0), (6, 94, 12, 49, 1512, 0), (0, 0, 0, 0, 0, 0), (5, 0, 0, 2, 0, 0), (6, 97, 12, 50, 1513, 0), (0, 0, 0, 0, 0, 0), (5, 0, 0, 6, 0, 1), (6, 100, 12, 62, 1525, 0), (0, 0, 0, 0, 0, 0), (5, 0, 0, 6, 0, 1), (6, 103, 12, 66, 1529, 0), (0, 0, 0, 0, 0, 0), (1, 0, 0, 0, 0, -1), (6, 106, 12, 68, 1531, 0), (0, 0, 0, 0, 0, 0), (5, 0, 0, 120, 0, 1), (6, 109, 12, 69, 1532, 0), (0, 0, 0, 0, 0, 0), (5, 0, 3, 24, 0, 1), (6, 112, 12, 70, 1533, 0), (0, 0, 0, 0, 0, 0), (5, 0, 0, 6, 0, 1), (6, 115, 12, 71, 1534, 0), (0, 0, 0, 0, 0, 0), (5, 0, 0, 480, 0, 2), (6, 118, 12, 73, 1536, 0), (0, 0, 0, 0, 0, 0), (5, 0, 0, 24, 0, 1), (6, 121, 12, 75, 1538, 0)]
theorem ic_0 : Cond.code yX0_init cX0_init 2 none ∈ tables_1 := (List.mem_append_right _ (List.mem_append_left _ (List.mem_of_getElem? (i := 67) rfl)))
theorem ic_1 : Cond.code yX1_init cX1_init 1 none ∈ tables_1 := (List.mem_append_right _ (List.mem_append_left _ (List.mem_of_getElem? (i := 106) rfl)))
theorem ic_2 : Cond.code yX2_init cX2_init 1 none ∈ tables_1 := (List.mem_append_left _ (List.mem_of_getElem? (i := 129) rfl))
theorem ic_3 : Cond.code yX3_init cX3_init 1 none ∈ tables_1 := (List.mem_append_left _ (List.mem_of_getElem? (i := 136) rfl))
theorem ic_4 : Cond.code yX4_init cX4_init 1 none ∈ tables_1 := (List.mem_append_right _ (List.mem_append_left _ (List.mem_of_getElem? (i := 206) rfl)))
theorem ic_5 : Cond.code yX5_init cX5_init 1 none ∈ tables_1 := (List.mem_append_left _ (List.mem_of_getElem? (i := 149) rfl))
theorem ic_6 : Cond.code yX6_init cX6_init 2 none ∈ tables_1 := (List.mem_append_left _ (List.mem_of_getElem? (i := 123) rfl))
theorem ic_7 : Cond.code yX7_init cX7_init 1 none ∈ tables_1 := (List.mem_append_right _ (List.mem_append_left _ (List.mem_of_getElem? (i := 168) rfl)))
theorem ic_8 : Cond.code yX8_init cX8_init 1 none ∈ tables_1 := (List.mem_append_right _ (List.mem_append_left _ (List.mem_of_getElem? (i := 237) rfl)))
theorem ic_9 : Cond.code yX9_init cX9_init 6 none ∈ tables_1 := (List.mem_append_left _ (List.mem_of_getElem? (i := 37) rfl))
theorem ic_10 : Cond.code yX10_init cX10_init 1 none ∈ tables_1 := (List.mem_append_right _ (List.mem_append_left _ (List.mem_of_getElem? (i := 134) rfl)))
theorem ic_11 : Cond.code yX11_init cX11_init 1 none ∈ tables_1 := (List.mem_append_left _ (List.mem_of_getElem? (i := 29) rfl))
theorem ic_12 : Cond.code yX12_init cX12_init 1 none ∈ tables_1 := (List.mem_append_right _ (List.mem_append_right _ (List.mem_append_right _ (List.mem_append_right _ (List.mem_append_right _ (List.mem_append_left _ (List.mem_of_getElem? (i := 117) rfl)))))))
theorem ic_all : ∀ c, c < 13 → Cond.code (iY c) (iC c) (iL c) none ∈ tbG
  | 0, _ => tbG_in (List.mem_append_right _ ic_0) rfl
  | 1, _ => tbG_in (List.mem_append_right _ ic_1) rfl
  | 2, _ => tbG_in (List.mem_append_right _ ic_2) rfl
  | 3, _ => tbG_in (List.mem_append_right _ ic_3) rfl
  | 4, _ => tbG_in (List.mem_append_right _ ic_4) rfl
  | 5, _ => tbG_in (List.mem_append_right _ ic_5) rfl
  | 6, _ => tbG_in (List.mem_append_right _ ic_6) rfl
  | 7, _ => tbG_in (List.mem_append_right _ ic_7) rfl
  | 8, _ => tbG_in (List.mem_append_right _ ic_8) rfl
  | 9, _ => tbG_in (List.mem_append_right _ ic_9) rfl
  | 10, _ => tbG_in (List.mem_append_right _ ic_10) rfl
  | 11, _ => tbG_in (List.mem_append_right _ ic_11) rfl
  | 12, _ => tbG_in (List.mem_append_right _ ic_12) rfl
  | _ + 13, h => absurd h (by omega)
theorem ii_in : ∀ c ∈ List.range 13, Cond.initialized (cnm c) ∈ tbG := all_in (fun c => Cond.initialized (cnm c)) _ [132, 133, 129, 130, 136, 131, 128, 135, 137, 123, 134, 122, 138] (by decide +kernel) (by decide +kernel)
theorem in_in : ∀ c ∈ List.range 13, Cond.instantiable (cnm c) (cNn c) ∈ tbG := all_in (fun c => Cond.instantiable (cnm c) (cNn c)) _ [425, 464, 247, 254, 564, 267, 241, 526, 595, 155, 492, 147, 1435] (by decide +kernel) (by decide +kernel)
theorem im_in : ∀ c ∈ List.range 13, Cond.instanceMethod (iY c) ∈ tbG := all_in (fun c => Cond.instanceMethod (iY c)) _ [427, 466, 249, 256, 566, 269, 243, 528, 597, 157, 494, 149, 1437] (by decide +kernel) (by decide +kernel)
theorem oi_in : ∀ w ∈ [Cond.instanceMethod Lib.objectInit], w ∈ tbG := all_in id _ [152] (by decide +kernel) (by decide +kernel)
theorem oc_in : Cond.code Lib.objectInit ⟨#[0xb1]⟩ 1 none ∈ tbG := tbG_in (List.mem_append_right _ (List.mem_append_left _ (List.mem_of_getElem? (i := 32) rfl))) rfl
theorem ac_in : ∀ c ∈ List.range 4, Cond.arrayClass (aTyp c) ∈ tbG := all_in (fun c => Cond.arrayClass (aTyp c)) _ [238, 460, 239, 524] (by decide +kernel) (by decide +kernel)
