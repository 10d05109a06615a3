section
-- ===== PART A: goes FIRST, ahead of the names: the tables' words, and 'selects' of the private methods out of them =====
/-- a private method of a class that the tables say can be made, by its rows of tables_1 -/
def lw_okq (q : MethodName × Nat) : Prop := (q.1.cls ≠ "java/lang/invoke/MethodHandle" ∧ q.1.cls ≠ "java/lang/invoke/VarHandle") ∧ Cond.instantiable q.1.cls q.2 ∈ tables_1 ∧ Cond.privateMethod q.1 ∈ tables_1 ∧ Cond.instanceMethod q.1 ∈ tables_1
theorem lw_p0 : lw_okq (⟨"RibbonRun$Tape", "isLetter", "(I)Z"⟩, 8) := ⟨⟨by decide +kernel, by decide +kernel⟩, List.mem_of_getElem? (i := 34) (by decide +kernel), List.mem_of_getElem? (i := 571) (by decide +kernel), List.mem_of_getElem? (i := 572) (by decide +kernel)⟩
theorem lw_p1 : lw_okq (⟨"RibbonRun$Tape", "readWord", "()V"⟩, 8) := ⟨⟨by decide +kernel, by decide +kernel⟩, List.mem_of_getElem? (i := 34) (by decide +kernel), List.mem_of_getElem? (i := 575) (by decide +kernel), List.mem_of_getElem? (i := 576) (by decide +kernel)⟩
theorem lw_p2 : lw_okq (⟨"RibbonRun$Tape", "isDigit", "(I)Z"⟩, 8) := ⟨⟨by decide +kernel, by decide +kernel⟩, List.mem_of_getElem? (i := 34) (by decide +kernel), List.mem_of_getElem? (i := 579) (by decide +kernel), List.mem_of_getElem? (i := 580) (by decide +kernel)⟩
theorem lw_p3 : lw_okq (⟨"RibbonRun$Tape", "readNumber", "()V"⟩, 8) := ⟨⟨by decide +kernel, by decide +kernel⟩, List.mem_of_getElem? (i := 34) (by decide +kernel), List.mem_of_getElem? (i := 583) (by decide +kernel), List.mem_of_getElem? (i := 584) (by decide +kernel)⟩
theorem lw_p4 : lw_okq (⟨"RibbonRun$Tape", "readSign", "(I)V"⟩, 8) := ⟨⟨by decide +kernel, by decide +kernel⟩, List.mem_of_getElem? (i := 34) (by decide +kernel), List.mem_of_getElem? (i := 588) (by decide +kernel), List.mem_of_getElem? (i := 589) (by decide +kernel)⟩
theorem lw_p5 : lw_okq (⟨"RibbonRun$Reader", "readLine", "()Z"⟩, 10) := ⟨⟨by decide +kernel, by decide +kernel⟩, List.mem_of_getElem? (i := 120) (by decide +kernel), List.mem_of_getElem? (i := 595) (by decide +kernel), List.mem_of_getElem? (i := 596) (by decide +kernel)⟩
theorem lw_p6 : lw_okq (⟨"RibbonRun$Reader", "fail", "(I)Z"⟩, 10) := ⟨⟨by decide +kernel, by decide +kernel⟩, List.mem_of_getElem? (i := 120) (by decide +kernel), List.mem_of_getElem? (i := 599) (by decide +kernel), List.mem_of_getElem? (i := 600) (by decide +kernel)⟩
theorem lw_p7 : lw_okq (⟨"RibbonRun$Reader", "readGrower", "()Z"⟩, 10) := ⟨⟨by decide +kernel, by decide +kernel⟩, List.mem_of_getElem? (i := 120) (by decide +kernel), List.mem_of_getElem? (i := 603) (by decide +kernel), List.mem_of_getElem? (i := 604) (by decide +kernel)⟩
theorem lw_p8 : lw_okq (⟨"RibbonRun$Reader", "takeNumber", "(I)Z"⟩, 10) := ⟨⟨by decide +kernel, by decide +kernel⟩, List.mem_of_getElem? (i := 120) (by decide +kernel), List.mem_of_getElem? (i := 612) (by decide +kernel), List.mem_of_getElem? (i := 613) (by decide +kernel)⟩
theorem lw_p9 : lw_okq (⟨"RibbonRun$Reader", "readSees", "()Z"⟩, 10) := ⟨⟨by decide +kernel, by decide +kernel⟩, List.mem_of_getElem? (i := 120) (by decide +kernel), List.mem_of_getElem? (i := 620) (by decide +kernel), List.mem_of_getElem? (i := 621) (by decide +kernel)⟩
theorem lw_p10 : lw_okq (⟨"RibbonRun$Reader", "toldGrower", "()I"⟩, 10) := ⟨⟨by decide +kernel, by decide +kernel⟩, List.mem_of_getElem? (i := 120) (by decide +kernel), List.mem_of_getElem? (i := 624) (by decide +kernel), List.mem_of_getElem? (i := 625) (by decide +kernel)⟩
theorem lw_p11 : lw_okq (⟨"RibbonRun$Reader", "readRibbon", "()Z"⟩, 10) := ⟨⟨by decide +kernel, by decide +kernel⟩, List.mem_of_getElem? (i := 120) (by decide +kernel), List.mem_of_getElem? (i := 639) (by decide +kernel), List.mem_of_getElem? (i := 640) (by decide +kernel)⟩
theorem lw_p12 : lw_okq (⟨"RibbonRun$Reader", "readBlight", "()Z"⟩, 10) := ⟨⟨by decide +kernel, by decide +kernel⟩, List.mem_of_getElem? (i := 120) (by decide +kernel), List.mem_of_getElem? (i := 643) (by decide +kernel), List.mem_of_getElem? (i := 644) (by decide +kernel)⟩
theorem lw_p13 : lw_okq (⟨"RibbonRun$Reader", "readSeed", "()Z"⟩, 10) := ⟨⟨by decide +kernel, by decide +kernel⟩, List.mem_of_getElem? (i := 120) (by decide +kernel), List.mem_of_getElem? (i := 647) (by decide +kernel), List.mem_of_getElem? (i := 648) (by decide +kernel)⟩
theorem lw_p14 : lw_okq (⟨"RibbonRun$Reader", "readLaw", "()Z"⟩, 10) := ⟨⟨by decide +kernel, by decide +kernel⟩, List.mem_of_getElem? (i := 120) (by decide +kernel), List.mem_of_getElem? (i := 652) (by decide +kernel), List.mem_of_getElem? (i := 653) (by decide +kernel)⟩
theorem lw_p15 : lw_okq (⟨"RibbonRun$Reader", "readExpression", "(LRibbonRun$Law;)Z"⟩, 10) := ⟨⟨by decide +kernel, by decide +kernel⟩, List.mem_of_getElem? (i := 120) (by decide +kernel), List.mem_of_getElem? (i := 663) (by decide +kernel), List.mem_of_getElem? (i := 664) (by decide +kernel)⟩
def lw_privs_1 : List (MethodName × Nat) := [(⟨"RibbonRun$Tape", "isLetter", "(I)Z"⟩, 8), (⟨"RibbonRun$Tape", "readWord", "()V"⟩, 8), (⟨"RibbonRun$Tape", "isDigit", "(I)Z"⟩, 8), (⟨"RibbonRun$Tape", "readNumber", "()V"⟩, 8), (⟨"RibbonRun$Tape", "readSign", "(I)V"⟩, 8), (⟨"RibbonRun$Reader", "readLine", "()Z"⟩, 10), (⟨"RibbonRun$Reader", "fail", "(I)Z"⟩, 10), (⟨"RibbonRun$Reader", "readGrower", "()Z"⟩, 10), (⟨"RibbonRun$Reader", "takeNumber", "(I)Z"⟩, 10), (⟨"RibbonRun$Reader", "readSees", "()Z"⟩, 10), (⟨"RibbonRun$Reader", "toldGrower", "()I"⟩, 10), (⟨"RibbonRun$Reader", "readRibbon", "()Z"⟩, 10), (⟨"RibbonRun$Reader", "readBlight", "()Z"⟩, 10), (⟨"RibbonRun$Reader", "readSeed", "()Z"⟩, 10), (⟨"RibbonRun$Reader", "readLaw", "()Z"⟩, 10), (⟨"RibbonRun$Reader", "readExpression", "(LRibbonRun$Law;)Z"⟩, 10)]
theorem lw_r1 : ∀ q ∈ lw_privs_1, lw_okq q := List.forall_mem_cons.mpr ⟨lw_p0, List.forall_mem_cons.mpr ⟨lw_p1, List.forall_mem_cons.mpr ⟨lw_p2, List.forall_mem_cons.mpr ⟨lw_p3, List.forall_mem_cons.mpr ⟨lw_p4, List.forall_mem_cons.mpr ⟨lw_p5, List.forall_mem_cons.mpr ⟨lw_p6, List.forall_mem_cons.mpr ⟨lw_p7, List.forall_mem_cons.mpr ⟨lw_p8, List.forall_mem_cons.mpr ⟨lw_p9, List.forall_mem_cons.mpr ⟨lw_p10, List.forall_mem_cons.mpr ⟨lw_p11, List.forall_mem_cons.mpr ⟨lw_p12, List.forall_mem_cons.mpr ⟨lw_p13, List.forall_mem_cons.mpr ⟨lw_p14, List.forall_mem_cons.mpr ⟨lw_p15, fun _ h => absurd h List.not_mem_nil⟩⟩⟩⟩⟩⟩⟩⟩⟩⟩⟩⟩⟩⟩⟩⟩
theorem lw_p16 : lw_okq (⟨"RibbonRun$Reader", "readBehind", "(LRibbonRun$Law;)I"⟩, 10) := ⟨⟨by decide +kernel, by decide +kernel⟩, List.mem_of_getElem? (i := 120) (by decide +kernel), List.mem_of_getElem? (i := 667) (by decide +kernel), List.mem_of_getElem? (i := 668) (by decide +kernel)⟩
theorem lw_p17 : lw_okq (⟨"RibbonRun$Reader", "release", "(LRibbonRun$Law;I)V"⟩, 10) := ⟨⟨by decide +kernel, by decide +kernel⟩, List.mem_of_getElem? (i := 120) (by decide +kernel), List.mem_of_getElem? (i := 671) (by decide +kernel), List.mem_of_getElem? (i := 672) (by decide +kernel)⟩
theorem lw_p18 : lw_okq (⟨"RibbonRun$Reader", "joiningSign", "()I"⟩, 10) := ⟨⟨by decide +kernel, by decide +kernel⟩, List.mem_of_getElem? (i := 120) (by decide +kernel), List.mem_of_getElem? (i := 682) (by decide +kernel), List.mem_of_getElem? (i := 683) (by decide +kernel)⟩
theorem lw_p19 : lw_okq (⟨"RibbonRun$Reader", "failed", "(I)I"⟩, 10) := ⟨⟨by decide +kernel, by decide +kernel⟩, List.mem_of_getElem? (i := 120) (by decide +kernel), List.mem_of_getElem? (i := 690) (by decide +kernel), List.mem_of_getElem? (i := 691) (by decide +kernel)⟩
theorem lw_p20 : lw_okq (⟨"RibbonRun$Reader", "countKnot", "()Z"⟩, 10) := ⟨⟨by decide +kernel, by decide +kernel⟩, List.mem_of_getElem? (i := 120) (by decide +kernel), List.mem_of_getElem? (i := 694) (by decide +kernel), List.mem_of_getElem? (i := 695) (by decide +kernel)⟩
theorem lw_p21 : lw_okq (⟨"RibbonRun$Reader", "defer", "(I)V"⟩, 10) := ⟨⟨by decide +kernel, by decide +kernel⟩, List.mem_of_getElem? (i := 120) (by decide +kernel), List.mem_of_getElem? (i := 698) (by decide +kernel), List.mem_of_getElem? (i := 699) (by decide +kernel)⟩
theorem lw_p22 : lw_okq (⟨"RibbonRun$Reader", "readValue", "(LRibbonRun$Law;Z)I"⟩, 10) := ⟨⟨by decide +kernel, by decide +kernel⟩, List.mem_of_getElem? (i := 120) (by decide +kernel), List.mem_of_getElem? (i := 702) (by decide +kernel), List.mem_of_getElem? (i := 703) (by decide +kernel)⟩
theorem lw_p23 : lw_okq (⟨"RibbonRun$Reader", "takeSign", "(I)Z"⟩, 10) := ⟨⟨by decide +kernel, by decide +kernel⟩, List.mem_of_getElem? (i := 120) (by decide +kernel), List.mem_of_getElem? (i := 706) (by decide +kernel), List.mem_of_getElem? (i := 707) (by decide +kernel)⟩
theorem lw_p24 : lw_okq (⟨"RibbonRun", "beginAnew", "()V"⟩, 12) := ⟨⟨by decide +kernel, by decide +kernel⟩, List.mem_of_getElem? (i := 26) (by decide +kernel), List.mem_of_getElem? (i := 710) (by decide +kernel), List.mem_of_getElem? (i := 711) (by decide +kernel)⟩
theorem lw_p25 : lw_okq (⟨"RibbonRun", "isRibbon", "(I)Z"⟩, 12) := ⟨⟨by decide +kernel, by decide +kernel⟩, List.mem_of_getElem? (i := 26) (by decide +kernel), List.mem_of_getElem? (i := 755) (by decide +kernel), List.mem_of_getElem? (i := 756) (by decide +kernel)⟩
theorem lw_p26 : lw_okq (⟨"RibbonRun", "areTwo", "(II)Z"⟩, 12) := ⟨⟨by decide +kernel, by decide +kernel⟩, List.mem_of_getElem? (i := 26) (by decide +kernel), List.mem_of_getElem? (i := 763) (by decide +kernel), List.mem_of_getElem? (i := 764) (by decide +kernel)⟩
theorem lw_p27 : lw_okq (⟨"RibbonRun", "isGrower", "(I)Z"⟩, 12) := ⟨⟨by decide +kernel, by decide +kernel⟩, List.mem_of_getElem? (i := 26) (by decide +kernel), List.mem_of_getElem? (i := 767) (by decide +kernel), List.mem_of_getElem? (i := 768) (by decide +kernel)⟩
theorem lw_p28 : lw_okq (⟨"RibbonRun$Course", "tell", "(IIII)V"⟩, 7) := ⟨⟨by decide +kernel, by decide +kernel⟩, List.mem_of_getElem? (i := 304) (by decide +kernel), List.mem_of_getElem? (i := 779) (by decide +kernel), List.mem_of_getElem? (i := 780) (by decide +kernel)⟩
theorem lw_p29 : lw_okq (⟨"RibbonRun$Deeds", "add", "(III)V"⟩, 7) := ⟨⟨by decide +kernel, by decide +kernel⟩, List.mem_of_getElem? (i := 343) (by decide +kernel), List.mem_of_getElem? (i := 827) (by decide +kernel), List.mem_of_getElem? (i := 828) (by decide +kernel)⟩
theorem lw_p30 : lw_okq (⟨"RibbonRun$Deeds", "dropFirst", "()V"⟩, 7) := ⟨⟨by decide +kernel, by decide +kernel⟩, List.mem_of_getElem? (i := 343) (by decide +kernel), List.mem_of_getElem? (i := 831) (by decide +kernel), List.mem_of_getElem? (i := 832) (by decide +kernel)⟩
theorem lw_p31 : lw_okq (⟨"RibbonRun$Course", "growAll", "()V"⟩, 7) := ⟨⟨by decide +kernel, by decide +kernel⟩, List.mem_of_getElem? (i := 304) (by decide +kernel), List.mem_of_getElem? (i := 874) (by decide +kernel), List.mem_of_getElem? (i := 875) (by decide +kernel)⟩
def lw_privs_2 : List (MethodName × Nat) := [(⟨"RibbonRun$Reader", "readBehind", "(LRibbonRun$Law;)I"⟩, 10), (⟨"RibbonRun$Reader", "release", "(LRibbonRun$Law;I)V"⟩, 10), (⟨"RibbonRun$Reader", "joiningSign", "()I"⟩, 10), (⟨"RibbonRun$Reader", "failed", "(I)I"⟩, 10), (⟨"RibbonRun$Reader", "countKnot", "()Z"⟩, 10), (⟨"RibbonRun$Reader", "defer", "(I)V"⟩, 10), (⟨"RibbonRun$Reader", "readValue", "(LRibbonRun$Law;Z)I"⟩, 10), (⟨"RibbonRun$Reader", "takeSign", "(I)Z"⟩, 10), (⟨"RibbonRun", "beginAnew", "()V"⟩, 12), (⟨"RibbonRun", "isRibbon", "(I)Z"⟩, 12), (⟨"RibbonRun", "areTwo", "(II)Z"⟩, 12), (⟨"RibbonRun", "isGrower", "(I)Z"⟩, 12), (⟨"RibbonRun$Course", "tell", "(IIII)V"⟩, 7), (⟨"RibbonRun$Deeds", "add", "(III)V"⟩, 7), (⟨"RibbonRun$Deeds", "dropFirst", "()V"⟩, 7), (⟨"RibbonRun$Course", "growAll", "()V"⟩, 7)]
theorem lw_r2 : ∀ q ∈ lw_privs_2, lw_okq q := List.forall_mem_cons.mpr ⟨lw_p16, List.forall_mem_cons.mpr ⟨lw_p17, List.forall_mem_cons.mpr ⟨lw_p18, List.forall_mem_cons.mpr ⟨lw_p19, List.forall_mem_cons.mpr ⟨lw_p20, List.forall_mem_cons.mpr ⟨lw_p21, List.forall_mem_cons.mpr ⟨lw_p22, List.forall_mem_cons.mpr ⟨lw_p23, List.forall_mem_cons.mpr ⟨lw_p24, List.forall_mem_cons.mpr ⟨lw_p25, List.forall_mem_cons.mpr ⟨lw_p26, List.forall_mem_cons.mpr ⟨lw_p27, List.forall_mem_cons.mpr ⟨lw_p28, List.forall_mem_cons.mpr ⟨lw_p29, List.forall_mem_cons.mpr ⟨lw_p30, List.forall_mem_cons.mpr ⟨lw_p31, fun _ h => absurd h List.not_mem_nil⟩⟩⟩⟩⟩⟩⟩⟩⟩⟩⟩⟩⟩⟩⟩⟩
theorem lw_p32 : lw_okq (⟨"RibbonRun$Course", "blightAll", "()V"⟩, 7) := ⟨⟨by decide +kernel, by decide +kernel⟩, List.mem_of_getElem? (i := 304) (by decide +kernel), List.mem_of_getElem? (i := 882) (by decide +kernel), List.mem_of_getElem? (i := 883) (by decide +kernel)⟩
theorem lw_p33 : lw_okq (⟨"RibbonRun$Ring", "since", "(II)I"⟩, 9) := ⟨⟨by decide +kernel, by decide +kernel⟩, List.mem_of_getElem? (i := 405) (by decide +kernel), List.mem_of_getElem? (i := 923) (by decide +kernel), List.mem_of_getElem? (i := 924) (by decide +kernel)⟩
theorem lw_p34 : lw_okq (⟨"RibbonRun$Ring", "bestFor", "(I)I"⟩, 9) := ⟨⟨by decide +kernel, by decide +kernel⟩, List.mem_of_getElem? (i := 405) (by decide +kernel), List.mem_of_getElem? (i := 927) (by decide +kernel), List.mem_of_getElem? (i := 928) (by decide +kernel)⟩
theorem lw_p35 : lw_okq (⟨"RibbonRun$Picks", "take", "(III)V"⟩, 8) := ⟨⟨by decide +kernel, by decide +kernel⟩, List.mem_of_getElem? (i := 443) (by decide +kernel), List.mem_of_getElem? (i := 939) (by decide +kernel), List.mem_of_getElem? (i := 940) (by decide +kernel)⟩
theorem lw_p36 : lw_okq (⟨"RibbonRun$Picks", "comes", "(LRibbonRun$Course;)Z"⟩, 8) := ⟨⟨by decide +kernel, by decide +kernel⟩, List.mem_of_getElem? (i := 443) (by decide +kernel), List.mem_of_getElem? (i := 975) (by decide +kernel), List.mem_of_getElem? (i := 976) (by decide +kernel)⟩
theorem lw_p37 : lw_okq (⟨"RibbonRun$Picks", "matter", "(II)Z"⟩, 8) := ⟨⟨by decide +kernel, by decide +kernel⟩, List.mem_of_getElem? (i := 443) (by decide +kernel), List.mem_of_getElem? (i := 997) (by decide +kernel), List.mem_of_getElem? (i := 998) (by decide +kernel)⟩
theorem lw_p38 : lw_okq (⟨"RibbonRun$Rows", "begin", "(II)V"⟩, 4) := ⟨⟨by decide +kernel, by decide +kernel⟩, List.mem_of_getElem? (i := 474) (by decide +kernel), List.mem_of_getElem? (i := 1009) (by decide +kernel), List.mem_of_getElem? (i := 1010) (by decide +kernel)⟩
theorem lw_p39 : lw_okq (⟨"RibbonRun$Rows", "take", "(II)V"⟩, 4) := ⟨⟨by decide +kernel, by decide +kernel⟩, List.mem_of_getElem? (i := 474) (by decide +kernel), List.mem_of_getElem? (i := 1014) (by decide +kernel), List.mem_of_getElem? (i := 1015) (by decide +kernel)⟩
theorem lw_p40 : lw_okq (⟨"RibbonRun$Rows", "advance", "()Z"⟩, 4) := ⟨⟨by decide +kernel, by decide +kernel⟩, List.mem_of_getElem? (i := 474) (by decide +kernel), List.mem_of_getElem? (i := 1019) (by decide +kernel), List.mem_of_getElem? (i := 1020) (by decide +kernel)⟩
theorem lw_p41 : lw_okq (⟨"RibbonRun$Rows", "swap", "(II)V"⟩, 4) := ⟨⟨by decide +kernel, by decide +kernel⟩, List.mem_of_getElem? (i := 474) (by decide +kernel), List.mem_of_getElem? (i := 1023) (by decide +kernel), List.mem_of_getElem? (i := 1024) (by decide +kernel)⟩
theorem lw_p42 : lw_okq (⟨"RibbonRun", "isRest", "(III)Z"⟩, 12) := ⟨⟨by decide +kernel, by decide +kernel⟩, List.mem_of_getElem? (i := 26) (by decide +kernel), List.mem_of_getElem? (i := 1069) (by decide +kernel), List.mem_of_getElem? (i := 1070) (by decide +kernel)⟩
theorem lw_p43 : lw_okq (⟨"RibbonRun", "share", "(IIII)I"⟩, 12) := ⟨⟨by decide +kernel, by decide +kernel⟩, List.mem_of_getElem? (i := 26) (by decide +kernel), List.mem_of_getElem? (i := 1073) (by decide +kernel), List.mem_of_getElem? (i := 1074) (by decide +kernel)⟩
theorem lw_p44 : lw_okq (⟨"RibbonRun$Told", "add", "(III)I"⟩, 8) := ⟨⟨by decide +kernel, by decide +kernel⟩, List.mem_of_getElem? (i := 371) (by decide +kernel), List.mem_of_getElem? (i := 1131) (by decide +kernel), List.mem_of_getElem? (i := 1132) (by decide +kernel)⟩
theorem lw_p45 : lw_okq (⟨"RibbonRun", "areSightsSo", "()Z"⟩, 12) := ⟨⟨by decide +kernel, by decide +kernel⟩, List.mem_of_getElem? (i := 26) (by decide +kernel), List.mem_of_getElem? (i := 1159) (by decide +kernel), List.mem_of_getElem? (i := 1160) (by decide +kernel)⟩
theorem lw_p46 : lw_okq (⟨"java/lang/Throwable", "fillInStackTrace", "(I)Ljava/lang/Throwable;"⟩, 6) := ⟨⟨by decide +kernel, by decide +kernel⟩, List.mem_of_getElem? (i := 1270) (by decide +kernel), List.mem_of_getElem? (i := 1268) (by decide +kernel), List.mem_of_getElem? (i := 1269) (by decide +kernel)⟩
theorem lw_p47 : lw_okq (⟨"RibbonRun", "ribbonsOf", "(I)I"⟩, 12) := ⟨⟨by decide +kernel, by decide +kernel⟩, List.mem_of_getElem? (i := 26) (by decide +kernel), List.mem_of_getElem? (i := 1295) (by decide +kernel), List.mem_of_getElem? (i := 1296) (by decide +kernel)⟩
def lw_privs_3 : List (MethodName × Nat) := [(⟨"RibbonRun$Course", "blightAll", "()V"⟩, 7), (⟨"RibbonRun$Ring", "since", "(II)I"⟩, 9), (⟨"RibbonRun$Ring", "bestFor", "(I)I"⟩, 9), (⟨"RibbonRun$Picks", "take", "(III)V"⟩, 8), (⟨"RibbonRun$Picks", "comes", "(LRibbonRun$Course;)Z"⟩, 8), (⟨"RibbonRun$Picks", "matter", "(II)Z"⟩, 8), (⟨"RibbonRun$Rows", "begin", "(II)V"⟩, 4), (⟨"RibbonRun$Rows", "take", "(II)V"⟩, 4), (⟨"RibbonRun$Rows", "advance", "()Z"⟩, 4), (⟨"RibbonRun$Rows", "swap", "(II)V"⟩, 4), (⟨"RibbonRun", "isRest", "(III)Z"⟩, 12), (⟨"RibbonRun", "share", "(IIII)I"⟩, 12), (⟨"RibbonRun$Told", "add", "(III)I"⟩, 8), (⟨"RibbonRun", "areSightsSo", "()Z"⟩, 12), (⟨"java/lang/Throwable", "fillInStackTrace", "(I)Ljava/lang/Throwable;"⟩, 6), (⟨"RibbonRun", "ribbonsOf", "(I)I"⟩, 12)]
theorem lw_r3 : ∀ q ∈ lw_privs_3, lw_okq q := List.forall_mem_cons.mpr ⟨lw_p32, List.forall_mem_cons.mpr ⟨lw_p33, List.forall_mem_cons.mpr ⟨lw_p34, List.forall_mem_cons.mpr ⟨lw_p35, List.forall_mem_cons.mpr ⟨lw_p36, List.forall_mem_cons.mpr ⟨lw_p37, List.forall_mem_cons.mpr ⟨lw_p38, List.forall_mem_cons.mpr ⟨lw_p39, List.forall_mem_cons.mpr ⟨lw_p40, List.forall_mem_cons.mpr ⟨lw_p41, List.forall_mem_cons.mpr ⟨lw_p42, List.forall_mem_cons.mpr ⟨lw_p43, List.forall_mem_cons.mpr ⟨lw_p44, List.forall_mem_cons.mpr ⟨lw_p45, List.forall_mem_cons.mpr ⟨lw_p46, List.forall_mem_cons.mpr ⟨lw_p47, fun _ h => absurd h List.not_mem_nil⟩⟩⟩⟩⟩⟩⟩⟩⟩⟩⟩⟩⟩⟩⟩⟩
theorem lw_p48 : lw_okq (⟨"RibbonRunModel", "plain", "()V"⟩, 78) := ⟨⟨by decide +kernel, by decide +kernel⟩, List.mem_of_getElem? (i := 1314) (by decide +kernel), List.mem_of_getElem? (i := 1320) (by decide +kernel), List.mem_of_getElem? (i := 1321) (by decide +kernel)⟩
theorem lw_p49 : lw_okq (⟨"RibbonRunModel", "keepText", "()V"⟩, 78) := ⟨⟨by decide +kernel, by decide +kernel⟩, List.mem_of_getElem? (i := 1314) (by decide +kernel), List.mem_of_getElem? (i := 1324) (by decide +kernel), List.mem_of_getElem? (i := 1325) (by decide +kernel)⟩
theorem lw_p50 : lw_okq (⟨"RibbonRunModel", "begin", "()V"⟩, 78) := ⟨⟨by decide +kernel, by decide +kernel⟩, List.mem_of_getElem? (i := 1314) (by decide +kernel), List.mem_of_getElem? (i := 1331) (by decide +kernel), List.mem_of_getElem? (i := 1332) (by decide +kernel)⟩
theorem lw_p51 : lw_okq (⟨"RibbonRunModel", "atFirst", "(I)V"⟩, 78) := ⟨⟨by decide +kernel, by decide +kernel⟩, List.mem_of_getElem? (i := 1314) (by decide +kernel), List.mem_of_getElem? (i := 1335) (by decide +kernel), List.mem_of_getElem? (i := 1336) (by decide +kernel)⟩
theorem lw_p52 : lw_okq (⟨"RibbonRunModel", "plainTried", "()V"⟩, 78) := ⟨⟨by decide +kernel, by decide +kernel⟩, List.mem_of_getElem? (i := 1314) (by decide +kernel), List.mem_of_getElem? (i := 1339) (by decide +kernel), List.mem_of_getElem? (i := 1340) (by decide +kernel)⟩
theorem lw_p53 : lw_okq (⟨"RibbonRunModel", "token", "()V"⟩, 78) := ⟨⟨by decide +kernel, by decide +kernel⟩, List.mem_of_getElem? (i := 1314) (by decide +kernel), List.mem_of_getElem? (i := 1590) (by decide +kernel), List.mem_of_getElem? (i := 1591) (by decide +kernel)⟩
theorem lw_p54 : lw_okq (⟨"RibbonRunModel", "isSmall", "(I)Z"⟩, 78) := ⟨⟨by decide +kernel, by decide +kernel⟩, List.mem_of_getElem? (i := 1314) (by decide +kernel), List.mem_of_getElem? (i := 1594) (by decide +kernel), List.mem_of_getElem? (i := 1595) (by decide +kernel)⟩
theorem lw_p55 : lw_okq (⟨"RibbonRunModel", "wordAt", "(II)I"⟩, 78) := ⟨⟨by decide +kernel, by decide +kernel⟩, List.mem_of_getElem? (i := 1314) (by decide +kernel), List.mem_of_getElem? (i := 1598) (by decide +kernel), List.mem_of_getElem? (i := 1599) (by decide +kernel)⟩
theorem lw_p56 : lw_okq (⟨"RibbonRunModel", "packed", "(II)I"⟩, 78) := ⟨⟨by decide +kernel, by decide +kernel⟩, List.mem_of_getElem? (i := 1314) (by decide +kernel), List.mem_of_getElem? (i := 1602) (by decide +kernel), List.mem_of_getElem? (i := 1603) (by decide +kernel)⟩
theorem lw_p57 : lw_okq (⟨"RibbonRunModel", "isDigit", "(I)Z"⟩, 78) := ⟨⟨by decide +kernel, by decide +kernel⟩, List.mem_of_getElem? (i := 1314) (by decide +kernel), List.mem_of_getElem? (i := 1606) (by decide +kernel), List.mem_of_getElem? (i := 1607) (by decide +kernel)⟩
theorem lw_p58 : lw_okq (⟨"RibbonRunModel", "signToken", "()V"⟩, 78) := ⟨⟨by decide +kernel, by decide +kernel⟩, List.mem_of_getElem? (i := 1314) (by decide +kernel), List.mem_of_getElem? (i := 1611) (by decide +kernel), List.mem_of_getElem? (i := 1612) (by decide +kernel)⟩
theorem lw_p59 : lw_okq (⟨"RibbonRunModel", "lineRead", "()Z"⟩, 78) := ⟨⟨by decide +kernel, by decide +kernel⟩, List.mem_of_getElem? (i := 1314) (by decide +kernel), List.mem_of_getElem? (i := 1615) (by decide +kernel), List.mem_of_getElem? (i := 1616) (by decide +kernel)⟩
theorem lw_p60 : lw_okq (⟨"RibbonRunModel", "wrong", "(I)Z"⟩, 78) := ⟨⟨by decide +kernel, by decide +kernel⟩, List.mem_of_getElem? (i := 1314) (by decide +kernel), List.mem_of_getElem? (i := 1619) (by decide +kernel), List.mem_of_getElem? (i := 1620) (by decide +kernel)⟩
theorem lw_p61 : lw_okq (⟨"RibbonRunModel", "growerLine", "()Z"⟩, 78) := ⟨⟨by decide +kernel, by decide +kernel⟩, List.mem_of_getElem? (i := 1314) (by decide +kernel), List.mem_of_getElem? (i := 1623) (by decide +kernel), List.mem_of_getElem? (i := 1624) (by decide +kernel)⟩
theorem lw_p62 : lw_okq (⟨"RibbonRunModel", "number", "(II)Z"⟩, 78) := ⟨⟨by decide +kernel, by decide +kernel⟩, List.mem_of_getElem? (i := 1314) (by decide +kernel), List.mem_of_getElem? (i := 1630) (by decide +kernel), List.mem_of_getElem? (i := 1631) (by decide +kernel)⟩
theorem lw_p63 : lw_okq (⟨"RibbonRunModel", "signed", "(I)Z"⟩, 78) := ⟨⟨by decide +kernel, by decide +kernel⟩, List.mem_of_getElem? (i := 1314) (by decide +kernel), List.mem_of_getElem? (i := 1637) (by decide +kernel), List.mem_of_getElem? (i := 1638) (by decide +kernel)⟩
def lw_privs_4 : List (MethodName × Nat) := [(⟨"RibbonRunModel", "plain", "()V"⟩, 78), (⟨"RibbonRunModel", "keepText", "()V"⟩, 78), (⟨"RibbonRunModel", "begin", "()V"⟩, 78), (⟨"RibbonRunModel", "atFirst", "(I)V"⟩, 78), (⟨"RibbonRunModel", "plainTried", "()V"⟩, 78), (⟨"RibbonRunModel", "token", "()V"⟩, 78), (⟨"RibbonRunModel", "isSmall", "(I)Z"⟩, 78), (⟨"RibbonRunModel", "wordAt", "(II)I"⟩, 78), (⟨"RibbonRunModel", "packed", "(II)I"⟩, 78), (⟨"RibbonRunModel", "isDigit", "(I)Z"⟩, 78), (⟨"RibbonRunModel", "signToken", "()V"⟩, 78), (⟨"RibbonRunModel", "lineRead", "()Z"⟩, 78), (⟨"RibbonRunModel", "wrong", "(I)Z"⟩, 78), (⟨"RibbonRunModel", "growerLine", "()Z"⟩, 78), (⟨"RibbonRunModel", "number", "(II)Z"⟩, 78), (⟨"RibbonRunModel", "signed", "(I)Z"⟩, 78)]
theorem lw_r4 : ∀ q ∈ lw_privs_4, lw_okq q := List.forall_mem_cons.mpr ⟨lw_p48, List.forall_mem_cons.mpr ⟨lw_p49, List.forall_mem_cons.mpr ⟨lw_p50, List.forall_mem_cons.mpr ⟨lw_p51, List.forall_mem_cons.mpr ⟨lw_p52, List.forall_mem_cons.mpr ⟨lw_p53, List.forall_mem_cons.mpr ⟨lw_p54, List.forall_mem_cons.mpr ⟨lw_p55, List.forall_mem_cons.mpr ⟨lw_p56, List.forall_mem_cons.mpr ⟨lw_p57, List.forall_mem_cons.mpr ⟨lw_p58, List.forall_mem_cons.mpr ⟨lw_p59, List.forall_mem_cons.mpr ⟨lw_p60, List.forall_mem_cons.mpr ⟨lw_p61, List.forall_mem_cons.mpr ⟨lw_p62, List.forall_mem_cons.mpr ⟨lw_p63, fun _ h => absurd h List.not_mem_nil⟩⟩⟩⟩⟩⟩⟩⟩⟩⟩⟩⟩⟩⟩⟩⟩
theorem lw_p64 : lw_okq (⟨"RibbonRunModel", "isSign", "(I)Z"⟩, 78) := ⟨⟨by decide +kernel, by decide +kernel⟩, List.mem_of_getElem? (i := 1314) (by decide +kernel), List.mem_of_getElem? (i := 1641) (by decide +kernel), List.mem_of_getElem? (i := 1642) (by decide +kernel)⟩
theorem lw_p65 : lw_okq (⟨"RibbonRunModel", "seesLine", "()Z"⟩, 78) := ⟨⟨by decide +kernel, by decide +kernel⟩, List.mem_of_getElem? (i := 1314) (by decide +kernel), List.mem_of_getElem? (i := 1645) (by decide +kernel), List.mem_of_getElem? (i := 1646) (by decide +kernel)⟩
theorem lw_p66 : lw_okq (⟨"RibbonRunModel", "growerThere", "()Z"⟩, 78) := ⟨⟨by decide +kernel, by decide +kernel⟩, List.mem_of_getElem? (i := 1314) (by decide +kernel), List.mem_of_getElem? (i := 1649) (by decide +kernel), List.mem_of_getElem? (i := 1650) (by decide +kernel)⟩
theorem lw_p67 : lw_okq (⟨"RibbonRunModel", "ribbonLine", "()Z"⟩, 78) := ⟨⟨by decide +kernel, by decide +kernel⟩, List.mem_of_getElem? (i := 1314) (by decide +kernel), List.mem_of_getElem? (i := 1656) (by decide +kernel), List.mem_of_getElem? (i := 1657) (by decide +kernel)⟩
theorem lw_p68 : lw_okq (⟨"RibbonRunModel", "onceLine", "(II)Z"⟩, 78) := ⟨⟨by decide +kernel, by decide +kernel⟩, List.mem_of_getElem? (i := 1314) (by decide +kernel), List.mem_of_getElem? (i := 1660) (by decide +kernel), List.mem_of_getElem? (i := 1661) (by decide +kernel)⟩
theorem lw_p69 : lw_okq (⟨"RibbonRunModel", "sumRead", "()Z"⟩, 78) := ⟨⟨by decide +kernel, by decide +kernel⟩, List.mem_of_getElem? (i := 1314) (by decide +kernel), List.mem_of_getElem? (i := 1664) (by decide +kernel), List.mem_of_getElem? (i := 1665) (by decide +kernel)⟩
theorem lw_p70 : lw_okq (⟨"RibbonRunModel", "leafRead", "()Z"⟩, 78) := ⟨⟨by decide +kernel, by decide +kernel⟩, List.mem_of_getElem? (i := 1314) (by decide +kernel), List.mem_of_getElem? (i := 1668) (by decide +kernel), List.mem_of_getElem? (i := 1669) (by decide +kernel)⟩
theorem lw_p71 : lw_okq (⟨"RibbonRunModel", "waitsFor", "(I)V"⟩, 78) := ⟨⟨by decide +kernel, by decide +kernel⟩, List.mem_of_getElem? (i := 1314) (by decide +kernel), List.mem_of_getElem? (i := 1672) (by decide +kernel), List.mem_of_getElem? (i := 1673) (by decide +kernel)⟩
theorem lw_p72 : lw_okq (⟨"RibbonRunModel", "isKey", "(I)Z"⟩, 78) := ⟨⟨by decide +kernel, by decide +kernel⟩, List.mem_of_getElem? (i := 1314) (by decide +kernel), List.mem_of_getElem? (i := 1676) (by decide +kernel), List.mem_of_getElem? (i := 1677) (by decide +kernel)⟩
theorem lw_p73 : lw_okq (⟨"RibbonRunModel", "isCounted", "()Z"⟩, 78) := ⟨⟨by decide +kernel, by decide +kernel⟩, List.mem_of_getElem? (i := 1314) (by decide +kernel), List.mem_of_getElem? (i := 1680) (by decide +kernel), List.mem_of_getElem? (i := 1681) (by decide +kernel)⟩
theorem lw_p74 : lw_okq (⟨"RibbonRunModel", "nameMet", "()I"⟩, 78) := ⟨⟨by decide +kernel, by decide +kernel⟩, List.mem_of_getElem? (i := 1314) (by decide +kernel), List.mem_of_getElem? (i := 1684) (by decide +kernel), List.mem_of_getElem? (i := 1685) (by decide +kernel)⟩
theorem lw_p75 : lw_okq (⟨"RibbonRunModel", "grown", "(III)V"⟩, 78) := ⟨⟨by decide +kernel, by decide +kernel⟩, List.mem_of_getElem? (i := 1314) (by decide +kernel), List.mem_of_getElem? (i := 1688) (by decide +kernel), List.mem_of_getElem? (i := 1689) (by decide +kernel)⟩
theorem lw_p76 : lw_okq (⟨"RibbonRunModel", "signs", "()Z"⟩, 78) := ⟨⟨by decide +kernel, by decide +kernel⟩, List.mem_of_getElem? (i := 1314) (by decide +kernel), List.mem_of_getElem? (i := 1692) (by decide +kernel), List.mem_of_getElem? (i := 1693) (by decide +kernel)⟩
theorem lw_p77 : lw_okq (⟨"RibbonRunModel", "bind", "(I)V"⟩, 78) := ⟨⟨by decide +kernel, by decide +kernel⟩, List.mem_of_getElem? (i := 1314) (by decide +kernel), List.mem_of_getElem? (i := 1696) (by decide +kernel), List.mem_of_getElem? (i := 1697) (by decide +kernel)⟩
theorem lw_p78 : lw_okq (⟨"RibbonRunModel", "dropHeld", "()I"⟩, 78) := ⟨⟨by decide +kernel, by decide +kernel⟩, List.mem_of_getElem? (i := 1314) (by decide +kernel), List.mem_of_getElem? (i := 1703) (by decide +kernel), List.mem_of_getElem? (i := 1704) (by decide +kernel)⟩
theorem lw_p79 : lw_okq (⟨"RibbonRunModel", "isGrower", "(I)Z"⟩, 78) := ⟨⟨by decide +kernel, by decide +kernel⟩, List.mem_of_getElem? (i := 1314) (by decide +kernel), List.mem_of_getElem? (i := 1719) (by decide +kernel), List.mem_of_getElem? (i := 1720) (by decide +kernel)⟩
def lw_privs_5 : List (MethodName × Nat) := [(⟨"RibbonRunModel", "isSign", "(I)Z"⟩, 78), (⟨"RibbonRunModel", "seesLine", "()Z"⟩, 78), (⟨"RibbonRunModel", "growerThere", "()Z"⟩, 78), (⟨"RibbonRunModel", "ribbonLine", "()Z"⟩, 78), (⟨"RibbonRunModel", "onceLine", "(II)Z"⟩, 78), (⟨"RibbonRunModel", "sumRead", "()Z"⟩, 78), (⟨"RibbonRunModel", "leafRead", "()Z"⟩, 78), (⟨"RibbonRunModel", "waitsFor", "(I)V"⟩, 78), (⟨"RibbonRunModel", "isKey", "(I)Z"⟩, 78), (⟨"RibbonRunModel", "isCounted", "()Z"⟩, 78), (⟨"RibbonRunModel", "nameMet", "()I"⟩, 78), (⟨"RibbonRunModel", "grown", "(III)V"⟩, 78), (⟨"RibbonRunModel", "signs", "()Z"⟩, 78), (⟨"RibbonRunModel", "bind", "(I)V"⟩, 78), (⟨"RibbonRunModel", "dropHeld", "()I"⟩, 78), (⟨"RibbonRunModel", "isGrower", "(I)Z"⟩, 78)]
theorem lw_r5 : ∀ q ∈ lw_privs_5, lw_okq q := List.forall_mem_cons.mpr ⟨lw_p64, List.forall_mem_cons.mpr ⟨lw_p65, List.forall_mem_cons.mpr ⟨lw_p66, List.forall_mem_cons.mpr ⟨lw_p67, List.forall_mem_cons.mpr ⟨lw_p68, List.forall_mem_cons.mpr ⟨lw_p69, List.forall_mem_cons.mpr ⟨lw_p70, List.forall_mem_cons.mpr ⟨lw_p71, List.forall_mem_cons.mpr ⟨lw_p72, List.forall_mem_cons.mpr ⟨lw_p73, List.forall_mem_cons.mpr ⟨lw_p74, List.forall_mem_cons.mpr ⟨lw_p75, List.forall_mem_cons.mpr ⟨lw_p76, List.forall_mem_cons.mpr ⟨lw_p77, List.forall_mem_cons.mpr ⟨lw_p78, List.forall_mem_cons.mpr ⟨lw_p79, fun _ h => absurd h List.not_mem_nil⟩⟩⟩⟩⟩⟩⟩⟩⟩⟩⟩⟩⟩⟩⟩⟩
theorem lw_p80 : lw_okq (⟨"RibbonRunModel", "fails", "(I)I"⟩, 78) := ⟨⟨by decide +kernel, by decide +kernel⟩, List.mem_of_getElem? (i := 1314) (by decide +kernel), List.mem_of_getElem? (i := 1723) (by decide +kernel), List.mem_of_getElem? (i := 1724) (by decide +kernel)⟩
theorem lw_p81 : lw_okq (⟨"RibbonRunModel", "ribbonsOf", "(II)I"⟩, 78) := ⟨⟨by decide +kernel, by decide +kernel⟩, List.mem_of_getElem? (i := 1314) (by decide +kernel), List.mem_of_getElem? (i := 1727) (by decide +kernel), List.mem_of_getElem? (i := 1728) (by decide +kernel)⟩
theorem lw_p82 : lw_okq (⟨"RibbonRunModel", "isRibbon", "(I)Z"⟩, 78) := ⟨⟨by decide +kernel, by decide +kernel⟩, List.mem_of_getElem? (i := 1314) (by decide +kernel), List.mem_of_getElem? (i := 1735) (by decide +kernel), List.mem_of_getElem? (i := 1736) (by decide +kernel)⟩
theorem lw_p83 : lw_okq (⟨"RibbonRunModel", "areTwo", "(II)Z"⟩, 78) := ⟨⟨by decide +kernel, by decide +kernel⟩, List.mem_of_getElem? (i := 1314) (by decide +kernel), List.mem_of_getElem? (i := 1743) (by decide +kernel), List.mem_of_getElem? (i := 1744) (by decide +kernel)⟩
theorem lw_p84 : lw_okq (⟨"RibbonRunModel", "judgedBy", "(III)I"⟩, 78) := ⟨⟨by decide +kernel, by decide +kernel⟩, List.mem_of_getElem? (i := 1314) (by decide +kernel), List.mem_of_getElem? (i := 1747) (by decide +kernel), List.mem_of_getElem? (i := 1748) (by decide +kernel)⟩
theorem lw_p85 : lw_okq (⟨"RibbonRunModel", "layNames", "(IIII)V"⟩, 78) := ⟨⟨by decide +kernel, by decide +kernel⟩, List.mem_of_getElem? (i := 1314) (by decide +kernel), List.mem_of_getElem? (i := 1751) (by decide +kernel), List.mem_of_getElem? (i := 1752) (by decide +kernel)⟩
theorem lw_p86 : lw_okq (⟨"RibbonRunModel", "doubtIn", "(I)I"⟩, 78) := ⟨⟨by decide +kernel, by decide +kernel⟩, List.mem_of_getElem? (i := 1314) (by decide +kernel), List.mem_of_getElem? (i := 1755) (by decide +kernel), List.mem_of_getElem? (i := 1756) (by decide +kernel)⟩
theorem lw_p87 : lw_okq (⟨"RibbonRunModel", "boundLaw", "(IIII)I"⟩, 78) := ⟨⟨by decide +kernel, by decide +kernel⟩, List.mem_of_getElem? (i := 1314) (by decide +kernel), List.mem_of_getElem? (i := 1762) (by decide +kernel), List.mem_of_getElem? (i := 1763) (by decide +kernel)⟩
theorem lw_p88 : lw_okq (⟨"RibbonRunModel", "lawOf", "(I)J"⟩, 78) := ⟨⟨by decide +kernel, by decide +kernel⟩, List.mem_of_getElem? (i := 1314) (by decide +kernel), List.mem_of_getElem? (i := 1766) (by decide +kernel), List.mem_of_getElem? (i := 1767) (by decide +kernel)⟩
theorem lw_p89 : lw_okq (⟨"RibbonRunModel", "valueOf", "(I)J"⟩, 78) := ⟨⟨by decide +kernel, by decide +kernel⟩, List.mem_of_getElem? (i := 1314) (by decide +kernel), List.mem_of_getElem? (i := 1770) (by decide +kernel), List.mem_of_getElem? (i := 1771) (by decide +kernel)⟩
theorem lw_p90 : lw_okq (⟨"RibbonRunModel", "bounded", "(J)J"⟩, 78) := ⟨⟨by decide +kernel, by decide +kernel⟩, List.mem_of_getElem? (i := 1314) (by decide +kernel), List.mem_of_getElem? (i := 1774) (by decide +kernel), List.mem_of_getElem? (i := 1775) (by decide +kernel)⟩
theorem lw_p91 : lw_okq (⟨"RibbonRunModel", "times", "(JJ)J"⟩, 78) := ⟨⟨by decide +kernel, by decide +kernel⟩, List.mem_of_getElem? (i := 1314) (by decide +kernel), List.mem_of_getElem? (i := 1780) (by decide +kernel), List.mem_of_getElem? (i := 1781) (by decide +kernel)⟩
theorem lw_p92 : lw_okq (⟨"RibbonRunModel", "bestOf", "(II)I"⟩, 78) := ⟨⟨by decide +kernel, by decide +kernel⟩, List.mem_of_getElem? (i := 1314) (by decide +kernel), List.mem_of_getElem? (i := 1791) (by decide +kernel), List.mem_of_getElem? (i := 1792) (by decide +kernel)⟩
theorem lw_p93 : lw_okq (⟨"RibbonRunModel", "seenBy", "(II)I"⟩, 78) := ⟨⟨by decide +kernel, by decide +kernel⟩, List.mem_of_getElem? (i := 1314) (by decide +kernel), List.mem_of_getElem? (i := 1795) (by decide +kernel), List.mem_of_getElem? (i := 1796) (by decide +kernel)⟩
theorem lw_p94 : lw_okq (⟨"RibbonRunModel", "remember", "()V"⟩, 78) := ⟨⟨by decide +kernel, by decide +kernel⟩, List.mem_of_getElem? (i := 1314) (by decide +kernel), List.mem_of_getElem? (i := 1808) (by decide +kernel), List.mem_of_getElem? (i := 1809) (by decide +kernel)⟩
theorem lw_p95 : lw_okq (⟨"RibbonRunModel", "put", "([II)V"⟩, 78) := ⟨⟨by decide +kernel, by decide +kernel⟩, List.mem_of_getElem? (i := 1314) (by decide +kernel), List.mem_of_getElem? (i := 1812) (by decide +kernel), List.mem_of_getElem? (i := 1813) (by decide +kernel)⟩
def lw_privs_6 : List (MethodName × Nat) := [(⟨"RibbonRunModel", "fails", "(I)I"⟩, 78), (⟨"RibbonRunModel", "ribbonsOf", "(II)I"⟩, 78), (⟨"RibbonRunModel", "isRibbon", "(I)Z"⟩, 78), (⟨"RibbonRunModel", "areTwo", "(II)Z"⟩, 78), (⟨"RibbonRunModel", "judgedBy", "(III)I"⟩, 78), (⟨"RibbonRunModel", "layNames", "(IIII)V"⟩, 78), (⟨"RibbonRunModel", "doubtIn", "(I)I"⟩, 78), (⟨"RibbonRunModel", "boundLaw", "(IIII)I"⟩, 78), (⟨"RibbonRunModel", "lawOf", "(I)J"⟩, 78), (⟨"RibbonRunModel", "valueOf", "(I)J"⟩, 78), (⟨"RibbonRunModel", "bounded", "(J)J"⟩, 78), (⟨"RibbonRunModel", "times", "(JJ)J"⟩, 78), (⟨"RibbonRunModel", "bestOf", "(II)I"⟩, 78), (⟨"RibbonRunModel", "seenBy", "(II)I"⟩, 78), (⟨"RibbonRunModel", "remember", "()V"⟩, 78), (⟨"RibbonRunModel", "put", "([II)V"⟩, 78)]
theorem lw_r6 : ∀ q ∈ lw_privs_6, lw_okq q := List.forall_mem_cons.mpr ⟨lw_p80, List.forall_mem_cons.mpr ⟨lw_p81, List.forall_mem_cons.mpr ⟨lw_p82, List.forall_mem_cons.mpr ⟨lw_p83, List.forall_mem_cons.mpr ⟨lw_p84, List.forall_mem_cons.mpr ⟨lw_p85, List.forall_mem_cons.mpr ⟨lw_p86, List.forall_mem_cons.mpr ⟨lw_p87, List.forall_mem_cons.mpr ⟨lw_p88, List.forall_mem_cons.mpr ⟨lw_p89, List.forall_mem_cons.mpr ⟨lw_p90, List.forall_mem_cons.mpr ⟨lw_p91, List.forall_mem_cons.mpr ⟨lw_p92, List.forall_mem_cons.mpr ⟨lw_p93, List.forall_mem_cons.mpr ⟨lw_p94, List.forall_mem_cons.mpr ⟨lw_p95, fun _ h => absurd h List.not_mem_nil⟩⟩⟩⟩⟩⟩⟩⟩⟩⟩⟩⟩⟩⟩⟩⟩
theorem lw_p96 : lw_okq (⟨"RibbonRunModel", "hands", "(III)V"⟩, 78) := ⟨⟨by decide +kernel, by decide +kernel⟩, List.mem_of_getElem? (i := 1314) (by decide +kernel), List.mem_of_getElem? (i := 1824) (by decide +kernel), List.mem_of_getElem? (i := 1825) (by decide +kernel)⟩
theorem lw_p97 : lw_okq (⟨"RibbonRunModel", "yearGoes", "(I)V"⟩, 78) := ⟨⟨by decide +kernel, by decide +kernel⟩, List.mem_of_getElem? (i := 1314) (by decide +kernel), List.mem_of_getElem? (i := 1832) (by decide +kernel), List.mem_of_getElem? (i := 1833) (by decide +kernel)⟩
theorem lw_p98 : lw_okq (⟨"RibbonRunModel", "isBlight", "()Z"⟩, 78) := ⟨⟨by decide +kernel, by decide +kernel⟩, List.mem_of_getElem? (i := 1314) (by decide +kernel), List.mem_of_getElem? (i := 1836) (by decide +kernel), List.mem_of_getElem? (i := 1837) (by decide +kernel)⟩
theorem lw_p99 : lw_okq (⟨"RibbonRunModel", "number1", "(I)I"⟩, 78) := ⟨⟨by decide +kernel, by decide +kernel⟩, List.mem_of_getElem? (i := 1314) (by decide +kernel), List.mem_of_getElem? (i := 1840) (by decide +kernel), List.mem_of_getElem? (i := 1841) (by decide +kernel)⟩
theorem lw_p100 : lw_okq (⟨"RibbonRunModel", "gives", "(III)Z"⟩, 78) := ⟨⟨by decide +kernel, by decide +kernel⟩, List.mem_of_getElem? (i := 1314) (by decide +kernel), List.mem_of_getElem? (i := 1848) (by decide +kernel), List.mem_of_getElem? (i := 1849) (by decide +kernel)⟩
theorem lw_p101 : lw_okq (⟨"RibbonRunModel", "layTried", "()V"⟩, 78) := ⟨⟨by decide +kernel, by decide +kernel⟩, List.mem_of_getElem? (i := 1314) (by decide +kernel), List.mem_of_getElem? (i := 1856) (by decide +kernel), List.mem_of_getElem? (i := 1857) (by decide +kernel)⟩
theorem lw_p102 : lw_okq (⟨"RibbonRunModel", "goMany", "(I)V"⟩, 78) := ⟨⟨by decide +kernel, by decide +kernel⟩, List.mem_of_getElem? (i := 1314) (by decide +kernel), List.mem_of_getElem? (i := 1860) (by decide +kernel), List.mem_of_getElem? (i := 1861) (by decide +kernel)⟩
theorem lw_p103 : lw_okq (⟨"RibbonRunModel", "ringOf", "(II)I"⟩, 78) := ⟨⟨by decide +kernel, by decide +kernel⟩, List.mem_of_getElem? (i := 1314) (by decide +kernel), List.mem_of_getElem? (i := 1868) (by decide +kernel), List.mem_of_getElem? (i := 1869) (by decide +kernel)⟩
theorem lw_p104 : lw_okq (⟨"RibbonRunModel", "changes", "(III)Z"⟩, 78) := ⟨⟨by decide +kernel, by decide +kernel⟩, List.mem_of_getElem? (i := 1314) (by decide +kernel), List.mem_of_getElem? (i := 1876) (by decide +kernel), List.mem_of_getElem? (i := 1877) (by decide +kernel)⟩
theorem lw_p105 : lw_okq (⟨"RibbonRunModel", "isSoBy", "(IIIII)Z"⟩, 78) := ⟨⟨by decide +kernel, by decide +kernel⟩, List.mem_of_getElem? (i := 1314) (by decide +kernel), List.mem_of_getElem? (i := 1880) (by decide +kernel), List.mem_of_getElem? (i := 1881) (by decide +kernel)⟩
theorem lw_p106 : lw_okq (⟨"RibbonRunModel", "turns", "(I)V"⟩, 78) := ⟨⟨by decide +kernel, by decide +kernel⟩, List.mem_of_getElem? (i := 1314) (by decide +kernel), List.mem_of_getElem? (i := 1884) (by decide +kernel), List.mem_of_getElem? (i := 1885) (by decide +kernel)⟩
theorem lw_p107 : lw_okq (⟨"RibbonRunModel", "mayTurn", "(IZ)Z"⟩, 78) := ⟨⟨by decide +kernel, by decide +kernel⟩, List.mem_of_getElem? (i := 1314) (by decide +kernel), List.mem_of_getElem? (i := 1888) (by decide +kernel), List.mem_of_getElem? (i := 1889) (by decide +kernel)⟩
theorem lw_p108 : lw_okq (⟨"RibbonRunModel", "changed", "(I)I"⟩, 78) := ⟨⟨by decide +kernel, by decide +kernel⟩, List.mem_of_getElem? (i := 1314) (by decide +kernel), List.mem_of_getElem? (i := 1892) (by decide +kernel), List.mem_of_getElem? (i := 1893) (by decide +kernel)⟩
theorem lw_p109 : lw_okq (⟨"RibbonRunModel", "layRow", "(III)V"⟩, 78) := ⟨⟨by decide +kernel, by decide +kernel⟩, List.mem_of_getElem? (i := 1314) (by decide +kernel), List.mem_of_getElem? (i := 1907) (by decide +kernel), List.mem_of_getElem? (i := 1908) (by decide +kernel)⟩
theorem lw_p110 : lw_okq (⟨"RibbonRunModel", "wayBy", "(II)I"⟩, 78) := ⟨⟨by decide +kernel, by decide +kernel⟩, List.mem_of_getElem? (i := 1314) (by decide +kernel), List.mem_of_getElem? (i := 1927) (by decide +kernel), List.mem_of_getElem? (i := 1928) (by decide +kernel)⟩
theorem lw_p111 : lw_okq (⟨"RibbonRunModel", "restAt", "(III)I"⟩, 78) := ⟨⟨by decide +kernel, by decide +kernel⟩, List.mem_of_getElem? (i := 1314) (by decide +kernel), List.mem_of_getElem? (i := 1963) (by decide +kernel), List.mem_of_getElem? (i := 1964) (by decide +kernel)⟩
def lw_privs_7 : List (MethodName × Nat) := [(⟨"RibbonRunModel", "hands", "(III)V"⟩, 78), (⟨"RibbonRunModel", "yearGoes", "(I)V"⟩, 78), (⟨"RibbonRunModel", "isBlight", "()Z"⟩, 78), (⟨"RibbonRunModel", "number1", "(I)I"⟩, 78), (⟨"RibbonRunModel", "gives", "(III)Z"⟩, 78), (⟨"RibbonRunModel", "layTried", "()V"⟩, 78), (⟨"RibbonRunModel", "goMany", "(I)V"⟩, 78), (⟨"RibbonRunModel", "ringOf", "(II)I"⟩, 78), (⟨"RibbonRunModel", "changes", "(III)Z"⟩, 78), (⟨"RibbonRunModel", "isSoBy", "(IIIII)Z"⟩, 78), (⟨"RibbonRunModel", "turns", "(I)V"⟩, 78), (⟨"RibbonRunModel", "mayTurn", "(IZ)Z"⟩, 78), (⟨"RibbonRunModel", "changed", "(I)I"⟩, 78), (⟨"RibbonRunModel", "layRow", "(III)V"⟩, 78), (⟨"RibbonRunModel", "wayBy", "(II)I"⟩, 78), (⟨"RibbonRunModel", "restAt", "(III)I"⟩, 78)]
theorem lw_r7 : ∀ q ∈ lw_privs_7, lw_okq q := List.forall_mem_cons.mpr ⟨lw_p96, List.forall_mem_cons.mpr ⟨lw_p97, List.forall_mem_cons.mpr ⟨lw_p98, List.forall_mem_cons.mpr ⟨lw_p99, List.forall_mem_cons.mpr ⟨lw_p100, List.forall_mem_cons.mpr ⟨lw_p101, List.forall_mem_cons.mpr ⟨lw_p102, List.forall_mem_cons.mpr ⟨lw_p103, List.forall_mem_cons.mpr ⟨lw_p104, List.forall_mem_cons.mpr ⟨lw_p105, List.forall_mem_cons.mpr ⟨lw_p106, List.forall_mem_cons.mpr ⟨lw_p107, List.forall_mem_cons.mpr ⟨lw_p108, List.forall_mem_cons.mpr ⟨lw_p109, List.forall_mem_cons.mpr ⟨lw_p110, List.forall_mem_cons.mpr ⟨lw_p111, fun _ h => absurd h List.not_mem_nil⟩⟩⟩⟩⟩⟩⟩⟩⟩⟩⟩⟩⟩⟩⟩⟩
theorem lw_p112 : lw_okq (⟨"RibbonRunModel", "hasBy", "(IIII)I"⟩, 78) := ⟨⟨by decide +kernel, by decide +kernel⟩, List.mem_of_getElem? (i := 1314) (by decide +kernel), List.mem_of_getElem? (i := 1967) (by decide +kernel), List.mem_of_getElem? (i := 1968) (by decide +kernel)⟩
theorem lw_p113 : lw_okq (⟨"RibbonRunModel", "lays", "(IIIII)I"⟩, 78) := ⟨⟨by decide +kernel, by decide +kernel⟩, List.mem_of_getElem? (i := 1314) (by decide +kernel), List.mem_of_getElem? (i := 1979) (by decide +kernel), List.mem_of_getElem? (i := 1980) (by decide +kernel)⟩
theorem lw_p114 : lw_okq (⟨"RibbonRunModel", "layCounts", "()V"⟩, 78) := ⟨⟨by decide +kernel, by decide +kernel⟩, List.mem_of_getElem? (i := 1314) (by decide +kernel), List.mem_of_getElem? (i := 1999) (by decide +kernel), List.mem_of_getElem? (i := 2000) (by decide +kernel)⟩
theorem lw_p115 : lw_okq (⟨"RibbonRunModel", "knownBy", "()I"⟩, 78) := ⟨⟨by decide +kernel, by decide +kernel⟩, List.mem_of_getElem? (i := 1314) (by decide +kernel), List.mem_of_getElem? (i := 2003) (by decide +kernel), List.mem_of_getElem? (i := 2004) (by decide +kernel)⟩
theorem lw_p116 : lw_okq (⟨"RibbonRunModel", "clashesOf", "()I"⟩, 78) := ⟨⟨by decide +kernel, by decide +kernel⟩, List.mem_of_getElem? (i := 1314) (by decide +kernel), List.mem_of_getElem? (i := 2007) (by decide +kernel), List.mem_of_getElem? (i := 2008) (by decide +kernel)⟩
theorem lw_p117 : lw_okq (⟨"RibbonRunModel", "fits", "(II)Z"⟩, 78) := ⟨⟨by decide +kernel, by decide +kernel⟩, List.mem_of_getElem? (i := 1314) (by decide +kernel), List.mem_of_getElem? (i := 2015) (by decide +kernel), List.mem_of_getElem? (i := 2016) (by decide +kernel)⟩
theorem lw_p118 : lw_okq (⟨"RibbonRunModel", "isSo", "(I)Z"⟩, 78) := ⟨⟨by decide +kernel, by decide +kernel⟩, List.mem_of_getElem? (i := 1314) (by decide +kernel), List.mem_of_getElem? (i := 2019) (by decide +kernel), List.mem_of_getElem? (i := 2020) (by decide +kernel)⟩
theorem lw_p119 : lw_okq (⟨"RibbonRunModel", "take", "([II)V"⟩, 78) := ⟨⟨by decide +kernel, by decide +kernel⟩, List.mem_of_getElem? (i := 1314) (by decide +kernel), List.mem_of_getElem? (i := 2035) (by decide +kernel), List.mem_of_getElem? (i := 2036) (by decide +kernel)⟩
theorem lw_p120 : lw_okq (⟨"RibbonRunModel", "handedAll", "(I)I"⟩, 78) := ⟨⟨by decide +kernel, by decide +kernel⟩, List.mem_of_getElem? (i := 1314) (by decide +kernel), List.mem_of_getElem? (i := 2051) (by decide +kernel), List.mem_of_getElem? (i := 2052) (by decide +kernel)⟩
def lw_privs_8 : List (MethodName × Nat) := [(⟨"RibbonRunModel", "hasBy", "(IIII)I"⟩, 78), (⟨"RibbonRunModel", "lays", "(IIIII)I"⟩, 78), (⟨"RibbonRunModel", "layCounts", "()V"⟩, 78), (⟨"RibbonRunModel", "knownBy", "()I"⟩, 78), (⟨"RibbonRunModel", "clashesOf", "()I"⟩, 78), (⟨"RibbonRunModel", "fits", "(II)Z"⟩, 78), (⟨"RibbonRunModel", "isSo", "(I)Z"⟩, 78), (⟨"RibbonRunModel", "take", "([II)V"⟩, 78), (⟨"RibbonRunModel", "handedAll", "(I)I"⟩, 78)]
theorem lw_r8 : ∀ q ∈ lw_privs_8, lw_okq q := List.forall_mem_cons.mpr ⟨lw_p112, List.forall_mem_cons.mpr ⟨lw_p113, List.forall_mem_cons.mpr ⟨lw_p114, List.forall_mem_cons.mpr ⟨lw_p115, List.forall_mem_cons.mpr ⟨lw_p116, List.forall_mem_cons.mpr ⟨lw_p117, List.forall_mem_cons.mpr ⟨lw_p118, List.forall_mem_cons.mpr ⟨lw_p119, List.forall_mem_cons.mpr ⟨lw_p120, fun _ h => absurd h List.not_mem_nil⟩⟩⟩⟩⟩⟩⟩⟩⟩
def lw_privs : List (MethodName × Nat) := lw_privs_1 ++ (lw_privs_2 ++ (lw_privs_3 ++ (lw_privs_4 ++ (lw_privs_5 ++ (lw_privs_6 ++ (lw_privs_7 ++ (lw_privs_8)))))))
def lw_tbl : List Cond := k2_sels lw_privs ++ tables_1
theorem lw_privs_ok : ∀ q ∈ lw_privs, lw_okq q := by
  show ∀ q ∈ lw_privs_1 ++ (lw_privs_2 ++ (lw_privs_3 ++ (lw_privs_4 ++ (lw_privs_5 ++ (lw_privs_6 ++ (lw_privs_7 ++ (lw_privs_8))))))), lw_okq q
  exact List.forall_mem_append.mpr ⟨lw_r1, List.forall_mem_append.mpr ⟨lw_r2, List.forall_mem_append.mpr ⟨lw_r3, List.forall_mem_append.mpr ⟨lw_r4, List.forall_mem_append.mpr ⟨lw_r5, List.forall_mem_append.mpr ⟨lw_r6, List.forall_mem_append.mpr ⟨lw_r7, lw_r8⟩⟩⟩⟩⟩⟩⟩
end
section
def RX0 : String := "RibbonRun$Course"
def TX0 : u_T := fun k => match k with
  | 0 => ("RibbonRun$Course", "plot", "LRibbonRun$Plot;", true)
  | 1 => ("RibbonRun$Course", "doubts", "[I", true)
  | 2 => ("RibbonRun$Course", "names", "[J", true)
  | 3 => ("RibbonRun$Course", "values", "[J", true)
  | 4 => ("RibbonRun$Course", "garden", "LRibbonRun$Garden;", false)
  | 5 => ("RibbonRun$Course", "blights", "I", false)
  | _ => ("RibbonRun$Course", "isGrowing", "Z", false)
def tyX0 : Nat → FieldType := fun k => match k with
  | 0 => .object "RibbonRun$Plot"
  | 1 => .array .int
  | 2 => .array .long
  | 3 => .array .long
  | 4 => .object "RibbonRun$Garden"
  | 5 => .int
  | _ => .boolean
theorem nmX0 : ∀ a, a < 7 → ∀ b, b < 7 → a ≠ b → (TX0 a).2.1 ≠ (TX0 b).2.1 := by decide +kernel
theorem tyX0_ok : ∀ k, k < 7 → parseFieldDescriptor (TX0 k).2.2.1 = some (tyX0 k) := by decide +kernel
def RX1 : String := "RibbonRun$Deeds"
def TX1 : u_T := fun k => match k with
  | 0 => ("RibbonRun$Deeds", "kind", "[I", true)
  | 1 => ("RibbonRun$Deeds", "grower", "[I", true)
  | 2 => ("RibbonRun$Deeds", "was", "[I", true)
  | 3 => ("RibbonRun$Deeds", "ribbon", "[I", true)
  | 4 => ("RibbonRun$Deeds", "holder", "[I", true)
  | 5 => ("RibbonRun$Deeds", "since", "[I", true)
  | _ => ("RibbonRun$Deeds", "count", "I", false)
def tyX1 : Nat → FieldType := fun k => match k with
  | 0 => .array .int
  | 1 => .array .int
  | 2 => .array .int
  | 3 => .array .int
  | 4 => .array .int
  | 5 => .array .int
  | _ => .int
theorem nmX1 : ∀ a, a < 7 → ∀ b, b < 7 → a ≠ b → (TX1 a).2.1 ≠ (TX1 b).2.1 := by decide +kernel
theorem tyX1_ok : ∀ k, k < 7 → parseFieldDescriptor (TX1 k).2.2.1 = some (tyX1 k) := by decide +kernel
def RX2 : String := "RibbonRun$Garden"
def TX2 : u_T := fun k => match k with
  | 0 => ("RibbonRun$Garden", "growers", "I", false)
  | 1 => ("RibbonRun$Garden", "ribbons", "I", false)
  | 2 => ("RibbonRun$Garden", "blight", "I", false)
  | 3 => ("RibbonRun$Garden", "seed", "I", false)
  | 4 => ("RibbonRun$Garden", "knots", "I", false)
  | 5 => ("RibbonRun$Garden", "names", "[I", true)
  | 6 => ("RibbonRun$Garden", "grows", "[I", true)
  | 7 => ("RibbonRun$Garden", "doubts", "[I", true)
  | 8 => ("RibbonRun$Garden", "places", "[I", true)
  | 9 => ("RibbonRun$Garden", "laws", "[LRibbonRun$Law;", true)
  | _ => ("RibbonRun$Garden", "first", "LRibbonRun$Plot;", true)
def tyX2 : Nat → FieldType := fun k => match k with
  | 0 => .int
  | 1 => .int
  | 2 => .int
  | 3 => .int
  | 4 => .int
  | 5 => .array .int
  | 6 => .array .int
  | 7 => .array .int
  | 8 => .array .int
  | 9 => .array (.object "RibbonRun$Law")
  | _ => .object "RibbonRun$Plot"
theorem nmX2 : ∀ a, a < 11 → ∀ b, b < 11 → a ≠ b → (TX2 a).2.1 ≠ (TX2 b).2.1 := by decide +kernel
theorem tyX2_ok : ∀ k, k < 11 → parseFieldDescriptor (TX2 k).2.2.1 = some (tyX2 k) := by decide +kernel
def RX3 : String := "RibbonRun$Law"
def TX3 : u_T := fun k => match k with
  | 0 => ("RibbonRun$Law", "knots", "[I", true)
  | _ => ("RibbonRun$Law", "length", "I", false)
def tyX3 : Nat → FieldType := fun k => match k with
  | 0 => .array .int
  | _ => .int
theorem nmX3 : ∀ a, a < 2 → ∀ b, b < 2 → a ≠ b → (TX3 a).2.1 ≠ (TX3 b).2.1 := by decide +kernel
theorem tyX3_ok : ∀ k, k < 2 → parseFieldDescriptor (TX3 k).2.2.1 = some (tyX3 k) := by decide +kernel
def RX4 : String := "RibbonRun$Picks"
def TX4 : u_T := fun k => match k with
  | 0 => ("RibbonRun$Picks", "hosts", "[I", true)
  | 1 => ("RibbonRun$Picks", "many", "I", false)
  | 2 => ("RibbonRun$Picks", "first", "I", false)
  | 3 => ("RibbonRun$Picks", "second", "I", false)
  | 4 => ("RibbonRun$Picks", "ribbon", "I", false)
  | 5 => ("RibbonRun$Picks", "grower", "I", false)
  | 6 => ("RibbonRun$Picks", "years", "I", false)
  | _ => ("RibbonRun$Picks", "hosted", "I", false)
def tyX4 : Nat → FieldType := fun k => match k with
  | 0 => .array .int
  | 1 => .int
  | 2 => .int
  | 3 => .int
  | 4 => .int
  | 5 => .int
  | 6 => .int
  | _ => .int
theorem nmX4 : ∀ a, a < 8 → ∀ b, b < 8 → a ≠ b → (TX4 a).2.1 ≠ (TX4 b).2.1 := by decide +kernel
theorem tyX4_ok : ∀ k, k < 8 → parseFieldDescriptor (TX4 k).2.2.1 = some (tyX4 k) := by decide +kernel
def RX5 : String := "RibbonRun$Plot"
def TX5 : u_T := fun k => match k with
  | 0 => ("RibbonRun$Plot", "year", "I", false)
  | 1 => ("RibbonRun$Plot", "number", "J", false)
  | 2 => ("RibbonRun$Plot", "worth", "[I", true)
  | 3 => ("RibbonRun$Plot", "had", "[I", true)
  | 4 => ("RibbonRun$Plot", "seen", "[I", true)
  | 5 => ("RibbonRun$Plot", "holder", "[I", true)
  | 6 => ("RibbonRun$Plot", "since", "[I", true)
  | _ => ("RibbonRun$Plot", "handed", "[I", true)
def tyX5 : Nat → FieldType := fun k => match k with
  | 0 => .int
  | 1 => .long
  | 2 => .array .int
  | 3 => .array .int
  | 4 => .array .int
  | 5 => .array .int
  | 6 => .array .int
  | _ => .array .int
theorem nmX5 : ∀ a, a < 8 → ∀ b, b < 8 → a ≠ b → (TX5 a).2.1 ≠ (TX5 b).2.1 := by decide +kernel
theorem tyX5_ok : ∀ k, k < 8 → parseFieldDescriptor (TX5 k).2.2.1 = some (tyX5 k) := by decide +kernel
def RX6 : String := "RibbonRun$Reader"
def TX6 : u_T := fun k => match k with
  | 0 => ("RibbonRun$Reader", "token", "LRibbonRun$Tape;", true)
  | 1 => ("RibbonRun$Reader", "waiting", "[I", true)
  | 2 => ("RibbonRun$Reader", "waits", "I", false)
  | 3 => ("RibbonRun$Reader", "open", "I", false)
  | 4 => ("RibbonRun$Reader", "into", "LRibbonRun$Garden;", false)
  | 5 => ("RibbonRun$Reader", "isBlightTold", "Z", false)
  | 6 => ("RibbonRun$Reader", "isSeedTold", "Z", false)
  | 7 => ("RibbonRun$Reader", "taken", "I", false)
  | 8 => ("RibbonRun$Reader", "fault", "I", false)
  | _ => ("RibbonRun$Reader", "place", "I", false)
def tyX6 : Nat → FieldType := fun k => match k with
  | 0 => .object "RibbonRun$Tape"
  | 1 => .array .int
  | 2 => .int
  | 3 => .int
  | 4 => .object "RibbonRun$Garden"
  | 5 => .boolean
  | 6 => .boolean
  | 7 => .int
  | 8 => .int
  | _ => .int
theorem nmX6 : ∀ a, a < 10 → ∀ b, b < 10 → a ≠ b → (TX6 a).2.1 ≠ (TX6 b).2.1 := by decide +kernel
theorem tyX6_ok : ∀ k, k < 10 → parseFieldDescriptor (TX6 k).2.2.1 = some (tyX6 k) := by decide +kernel
def RX7 : String := "RibbonRun$Ring"
def TX7 : u_T := fun k => match k with
  | 0 => ("RibbonRun$Ring", "esteem", "[I", true)
  | 1 => ("RibbonRun$Ring", "gives", "[Z", true)
  | 2 => ("RibbonRun$Ring", "seen", "[I", true)
  | 3 => ("RibbonRun$Ring", "stepTo", "[I", true)
  | 4 => ("RibbonRun$Ring", "growers", "I", false)
  | 5 => ("RibbonRun$Ring", "from", "I", false)
  | 6 => ("RibbonRun$Ring", "isRound", "Z", false)
  | 7 => ("RibbonRun$Ring", "steps", "I", false)
  | _ => ("RibbonRun$Ring", "members", "I", false)
def tyX7 : Nat → FieldType := fun k => match k with
  | 0 => .array .int
  | 1 => .array .boolean
  | 2 => .array .int
  | 3 => .array .int
  | 4 => .int
  | 5 => .int
  | 6 => .boolean
  | 7 => .int
  | _ => .int
theorem nmX7 : ∀ a, a < 9 → ∀ b, b < 9 → a ≠ b → (TX7 a).2.1 ≠ (TX7 b).2.1 := by decide +kernel
theorem tyX7_ok : ∀ k, k < 9 → parseFieldDescriptor (TX7 k).2.2.1 = some (tyX7 k) := by decide +kernel
def RX8 : String := "RibbonRun$Rows"
def TX8 : u_T := fun k => match k with
  | 0 => ("RibbonRun$Rows", "row", "[I", true)
  | 1 => ("RibbonRun$Rows", "chosen", "[I", true)
  | 2 => ("RibbonRun$Rows", "length", "I", false)
  | _ => ("RibbonRun$Rows", "least", "I", false)
def tyX8 : Nat → FieldType := fun k => match k with
  | 0 => .array .int
  | 1 => .array .int
  | 2 => .int
  | _ => .int
theorem nmX8 : ∀ a, a < 4 → ∀ b, b < 4 → a ≠ b → (TX8 a).2.1 ≠ (TX8 b).2.1 := by decide +kernel
theorem tyX8_ok : ∀ k, k < 4 → parseFieldDescriptor (TX8 k).2.2.1 = some (tyX8 k) := by decide +kernel
def RX9 : String := "RibbonRun$Tape"
def TX9 : u_T := fun k => match k with
  | 0 => ("RibbonRun$Tape", "words", "[I", true)
  | 1 => ("RibbonRun$Tape", "bytes", "[B", true)
  | 2 => ("RibbonRun$Tape", "length", "I", false)
  | 3 => ("RibbonRun$Tape", "next", "I", false)
  | 4 => ("RibbonRun$Tape", "fed", "I", false)
  | 5 => ("RibbonRun$Tape", "kind", "I", false)
  | 6 => ("RibbonRun$Tape", "value", "I", false)
  | _ => ("RibbonRun$Tape", "start", "I", false)
def tyX9 : Nat → FieldType := fun k => match k with
  | 0 => .array .int
  | 1 => .array .byte
  | 2 => .int
  | 3 => .int
  | 4 => .int
  | 5 => .int
  | 6 => .int
  | _ => .int
theorem nmX9 : ∀ a, a < 8 → ∀ b, b < 8 → a ≠ b → (TX9 a).2.1 ≠ (TX9 b).2.1 := by decide +kernel
theorem tyX9_ok : ∀ k, k < 8 → parseFieldDescriptor (TX9 k).2.2.1 = some (tyX9 k) := by decide +kernel
def RX10 : String := "RibbonRun$Told"
def TX10 : u_T := fun k => match k with
  | 0 => ("RibbonRun$Told", "kind", "[I", true)
  | 1 => ("RibbonRun$Told", "one", "[I", true)
  | 2 => ("RibbonRun$Told", "other", "[I", true)
  | 3 => ("RibbonRun$Told", "years", "[I", true)
  | 4 => ("RibbonRun$Told", "is", "[Z", true)
  | 5 => ("RibbonRun$Told", "isKnown", "[Z", true)
  | 6 => ("RibbonRun$Told", "count", "I", false)
  | _ => ("RibbonRun$Told", "by", "I", false)
def tyX10 : Nat → FieldType := fun k => match k with
  | 0 => .array .int
  | 1 => .array .int
  | 2 => .array .int
  | 3 => .array .int
  | 4 => .array .boolean
  | 5 => .array .boolean
  | 6 => .int
  | _ => .int
theorem nmX10 : ∀ a, a < 8 → ∀ b, b < 8 → a ≠ b → (TX10 a).2.1 ≠ (TX10 b).2.1 := by decide +kernel
theorem tyX10_ok : ∀ k, k < 8 → parseFieldDescriptor (TX10 k).2.2.1 = some (tyX10 k) := by decide +kernel
def RX11 : String := "RibbonRun"
def TX11 : u_T := fun k => match k with
  | 0 => ("RibbonRun", "tape", "LRibbonRun$Tape;", true)
  | 1 => ("RibbonRun", "reader", "LRibbonRun$Reader;", true)
  | 2 => ("RibbonRun", "garden", "LRibbonRun$Garden;", false)
  | 3 => ("RibbonRun", "real", "LRibbonRun$Course;", true)
  | 4 => ("RibbonRun", "trial", "LRibbonRun$Course;", true)
  | 5 => ("RibbonRun", "image", "LRibbonRun$Plot;", true)
  | 6 => ("RibbonRun", "hasImage", "Z", false)
  | 7 => ("RibbonRun", "deeds", "LRibbonRun$Deeds;", true)
  | 8 => ("RibbonRun", "told", "LRibbonRun$Told;", true)
  | 9 => ("RibbonRun", "circle", "LRibbonRun$Ring;", true)
  | 10 => ("RibbonRun", "picks", "LRibbonRun$Picks;", true)
  | _ => ("RibbonRun", "rows", "LRibbonRun$Rows;", true)
def tyX11 : Nat → FieldType := fun k => match k with
  | 0 => .object "RibbonRun$Tape"
  | 1 => .object "RibbonRun$Reader"
  | 2 => .object "RibbonRun$Garden"
  | 3 => .object "RibbonRun$Course"
  | 4 => .object "RibbonRun$Course"
  | 5 => .object "RibbonRun$Plot"
  | 6 => .boolean
  | 7 => .object "RibbonRun$Deeds"
  | 8 => .object "RibbonRun$Told"
  | 9 => .object "RibbonRun$Ring"
  | 10 => .object "RibbonRun$Picks"
  | _ => .object "RibbonRun$Rows"
theorem nmX11 : ∀ a, a < 12 → ∀ b, b < 12 → a ≠ b → (TX11 a).2.1 ≠ (TX11 b).2.1 := by decide +kernel
theorem tyX11_ok : ∀ k, k < 12 → parseFieldDescriptor (TX11 k).2.2.1 = some (tyX11 k) := by decide +kernel
def RX12 : String := "RibbonRunModel"
def TX12 : u_T := fun k => match k with
  | 0 => ("RibbonRunModel", "tape", "[I", true)
  | 1 => ("RibbonRunModel", "tapeSize", "I", false)
  | 2 => ("RibbonRunModel", "thrown", "I", false)
  | 3 => ("RibbonRunModel", "words", "[I", true)
  | 4 => ("RibbonRunModel", "fault", "I", false)
  | 5 => ("RibbonRunModel", "faultPlace", "I", false)
  | 6 => ("RibbonRunModel", "stop", "I", false)
  | 7 => ("RibbonRunModel", "next", "I", false)
  | 8 => ("RibbonRunModel", "kind", "I", false)
  | 9 => ("RibbonRunModel", "which", "I", false)
  | 10 => ("RibbonRunModel", "at", "I", false)
  | 11 => ("RibbonRunModel", "got", "I", false)
  | 12 => ("RibbonRunModel", "growers", "I", false)
  | 13 => ("RibbonRunModel", "ribbons", "I", false)
  | 14 => ("RibbonRunModel", "knots", "I", false)
  | 15 => ("RibbonRunModel", "growersRead", "I", false)
  | 16 => ("RibbonRunModel", "ribbonsRead", "I", false)
  | 17 => ("RibbonRunModel", "knotsRead", "I", false)
  | 18 => ("RibbonRunModel", "onceTold", "[Z", true)
  | 19 => ("RibbonRunModel", "once", "[I", true)
  | 20 => ("RibbonRunModel", "growerName", "[I", true)
  | 21 => ("RibbonRunModel", "growerWorth", "[I", true)
  | 22 => ("RibbonRunModel", "growerGrows", "[I", true)
  | 23 => ("RibbonRunModel", "growerDoubt", "[I", true)
  | 24 => ("RibbonRunModel", "growerPlace", "[I", true)
  | 25 => ("RibbonRunModel", "growerSees", "[I", true)
  | 26 => ("RibbonRunModel", "ribbonWho", "[I", true)
  | 27 => ("RibbonRunModel", "lawTold", "[Z", true)
  | 28 => ("RibbonRunModel", "first", "[I", true)
  | 29 => ("RibbonRunModel", "last", "[I", true)
  | 30 => ("RibbonRunModel", "knot", "[I", true)
  | 31 => ("RibbonRunModel", "part", "[I", true)
  | 32 => ("RibbonRunModel", "other", "[I", true)
  | 33 => ("RibbonRunModel", "wait", "[I", true)
  | 34 => ("RibbonRunModel", "held", "[I", true)
  | 35 => ("RibbonRunModel", "waits", "I", false)
  | 36 => ("RibbonRunModel", "helds", "I", false)
  | 37 => ("RibbonRunModel", "brackets", "I", false)
  | 38 => ("RibbonRunModel", "counted", "I", false)
  | 39 => ("RibbonRunModel", "wants", "Z", false)
  | 40 => ("RibbonRunModel", "mayNot", "Z", false)
  | 41 => ("RibbonRunModel", "names", "[J", true)
  | 42 => ("RibbonRunModel", "value", "[J", true)
  | 43 => ("RibbonRunModel", "isError", "Z", false)
  | 44 => ("RibbonRunModel", "worth", "[I", true)
  | 45 => ("RibbonRunModel", "had", "[I", true)
  | 46 => ("RibbonRunModel", "sees", "[I", true)
  | 47 => ("RibbonRunModel", "holder", "[I", true)
  | 48 => ("RibbonRunModel", "since", "[I", true)
  | 49 => ("RibbonRunModel", "handed", "[I", true)
  | 50 => ("RibbonRunModel", "year", "[I", true)
  | 51 => ("RibbonRunModel", "drawn", "J", false)
  | 52 => ("RibbonRunModel", "draws", "Z", false)
  | 53 => ("RibbonRunModel", "noBlight", "Z", false)
  | 54 => ("RibbonRunModel", "noDoubt", "Z", false)
  | 55 => ("RibbonRunModel", "noGrow", "Z", false)
  | 56 => ("RibbonRunModel", "allSee", "Z", false)
  | 57 => ("RibbonRunModel", "unseen", "I", false)
  | 58 => ("RibbonRunModel", "doubtOf", "I", false)
  | 59 => ("RibbonRunModel", "doubtBy", "I", false)
  | 60 => ("RibbonRunModel", "ringSteps", "I", false)
  | 61 => ("RibbonRunModel", "ringBits", "I", false)
  | 62 => ("RibbonRunModel", "come", "[I", true)
  | 63 => ("RibbonRunModel", "changedMany", "I", false)
  | 64 => ("RibbonRunModel", "changedOne", "I", false)
  | 65 => ("RibbonRunModel", "changedTwo", "I", false)
  | 66 => ("RibbonRunModel", "row", "[I", true)
  | 67 => ("RibbonRunModel", "notedMany", "I", false)
  | 68 => ("RibbonRunModel", "knownTold", "I", false)
  | 69 => ("RibbonRunModel", "noted1", "[I", true)
  | 70 => ("RibbonRunModel", "counts", "[Z", true)
  | 71 => ("RibbonRunModel", "stands", "[I", true)
  | 72 => ("RibbonRunModel", "undos", "I", false)
  | 73 => ("RibbonRunModel", "undo", "[I", true)
  | 74 => ("RibbonRunModel", "hasImage", "Z", false)
  | 75 => ("RibbonRunModel", "image", "[I", true)
  | 76 => ("RibbonRunModel", "imageYear", "I", false)
  | _ => ("RibbonRunModel", "imageDrawn", "J", false)
def tyX12 : Nat → FieldType := fun k => match k with
  | 0 => .array .int
  | 1 => .int
  | 2 => .int
  | 3 => .array .int
  | 4 => .int
  | 5 => .int
  | 6 => .int
  | 7 => .int
  | 8 => .int
  | 9 => .int
  | 10 => .int
  | 11 => .int
  | 12 => .int
  | 13 => .int
  | 14 => .int
  | 15 => .int
  | 16 => .int
  | 17 => .int
  | 18 => .array .boolean
  | 19 => .array .int
  | 20 => .array .int
  | 21 => .array .int
  | 22 => .array .int
  | 23 => .array .int
  | 24 => .array .int
  | 25 => .array .int
  | 26 => .array .int
  | 27 => .array .boolean
  | 28 => .array .int
  | 29 => .array .int
  | 30 => .array .int
  | 31 => .array .int
  | 32 => .array .int
  | 33 => .array .int
  | 34 => .array .int
  | 35 => .int
  | 36 => .int
  | 37 => .int
  | 38 => .int
  | 39 => .boolean
  | 40 => .boolean
  | 41 => .array .long
  | 42 => .array .long
  | 43 => .boolean
  | 44 => .array .int
  | 45 => .array .int
  | 46 => .array .int
  | 47 => .array .int
  | 48 => .array .int
  | 49 => .array .int
  | 50 => .array .int
  | 51 => .long
  | 52 => .boolean
  | 53 => .boolean
  | 54 => .boolean
  | 55 => .boolean
  | 56 => .boolean
  | 57 => .int
  | 58 => .int
  | 59 => .int
  | 60 => .int
  | 61 => .int
  | 62 => .array .int
  | 63 => .int
  | 64 => .int
  | 65 => .int
  | 66 => .array .int
  | 67 => .int
  | 68 => .int
  | 69 => .array .int
  | 70 => .array .boolean
  | 71 => .array .int
  | 72 => .int
  | 73 => .array .int
  | 74 => .boolean
  | 75 => .array .int
  | 76 => .int
  | _ => .long
theorem nmX12 : ∀ a, a < 78 → ∀ b, b < 78 → a ≠ b → (TX12 a).2.1 ≠ (TX12 b).2.1 := by decide +kernel
theorem tyX12_ok : ∀ k, k < 78 → parseFieldDescriptor (TX12 k).2.2.1 = some (tyX12 k) := by decide +kernel
def RJ6 : String := "java/lang/Integer"
abbrev cX0_begin : ByteArray := prog_2_method_2_code
def yX0_begin : MethodName := ⟨RX0, "begin", "(LRibbonRun$Garden;LRibbonRun$Plot;)V"⟩
abbrev cX0_drawBlight : ByteArray := prog_2_method_3_code
def yX0_drawBlight : MethodName := ⟨RX0, "drawBlight", "()V"⟩
abbrev cX0_otherwise : ByteArray := prog_2_method_4_code
def yX0_otherwise : MethodName := ⟨RX0, "otherwise", "(II)V"⟩
abbrev cX0_years : ByteArray := prog_2_method_5_code
def yX0_years : MethodName := ⟨RX0, "years", "(I)V"⟩
abbrev cX0_year : ByteArray := prog_2_method_6_code
def yX0_year : MethodName := ⟨RX0, "year", "()V"⟩
abbrev cX0_growAll : ByteArray := prog_2_method_7_code
def yX0_growAll : MethodName := ⟨RX0, "growAll", "()V"⟩
abbrev cX0_blightAll : ByteArray := prog_2_method_8_code
def yX0_blightAll : MethodName := ⟨RX0, "blightAll", "()V"⟩
abbrev cX0_bestFor : ByteArray := prog_2_method_9_code
def yX0_bestFor : MethodName := ⟨RX0, "bestFor", "(I)I"⟩
abbrev cX0_gives : ByteArray := prog_2_method_10_code
def yX0_gives : MethodName := ⟨RX0, "gives", "(II)Z"⟩
abbrev cX0_esteem : ByteArray := prog_2_method_11_code
def yX0_esteem : MethodName := ⟨RX0, "esteem", "(II)I"⟩
abbrev cX0_judgeLaw : ByteArray := prog_2_method_12_code
def yX0_judgeLaw : MethodName := ⟨RX0, "judgeLaw", "(II)J"⟩
abbrev cX0_ownLaw : ByteArray := prog_2_method_13_code
def yX0_ownLaw : MethodName := ⟨RX0, "ownLaw", "(III)J"⟩
abbrev cX0_tell : ByteArray := prog_2_method_14_code
def yX0_tell : MethodName := ⟨RX0, "tell", "(IIII)V"⟩
abbrev cX1_isEmpty : ByteArray := prog_3_method_2_code
def yX1_isEmpty : MethodName := ⟨RX1, "isEmpty", "()Z"⟩
abbrev cX1_many : ByteArray := prog_3_method_3_code
def yX1_many : MethodName := ⟨RX1, "many", "()I"⟩
abbrev cX1_forget : ByteArray := prog_3_method_4_code
def yX1_forget : MethodName := ⟨RX1, "forget", "()V"⟩
abbrev cX1_noteShow : ByteArray := prog_3_method_5_code
def yX1_noteShow : MethodName := ⟨RX1, "noteShow", "(II)V"⟩
abbrev cX1_noteRaise : ByteArray := prog_3_method_6_code
def yX1_noteRaise : MethodName := ⟨RX1, "noteRaise", "(II)V"⟩
abbrev cX1_noteHand : ByteArray := prog_3_method_7_code
def yX1_noteHand : MethodName := ⟨RX1, "noteHand", "(IILRibbonRun$Plot;)V"⟩
abbrev cX1_add : ByteArray := prog_3_method_8_code
def yX1_add : MethodName := ⟨RX1, "add", "(III)V"⟩
abbrev cX1_dropFirst : ByteArray := prog_3_method_9_code
def yX1_dropFirst : MethodName := ⟨RX1, "dropFirst", "()V"⟩
abbrev cX1_takeBack : ByteArray := prog_3_method_10_code
def yX1_takeBack : MethodName := ⟨RX1, "takeBack", "(LRibbonRun$Plot;)I"⟩
abbrev cX2_clear : ByteArray := prog_4_method_2_code
def yX2_clear : MethodName := ⟨RX2, "clear", "()V"⟩
abbrev cX2_numberOf : ByteArray := prog_4_method_3_code
def yX2_numberOf : MethodName := ⟨RX2, "numberOf", "(I)I"⟩
abbrev cX2_far : ByteArray := prog_4_method_4_code
def yX2_far : MethodName := ⟨RX2, "far", "(II)I"⟩
abbrev cX2_wayFrom : ByteArray := prog_4_method_5_code
def yX2_wayFrom : MethodName := ⟨RX2, "wayFrom", "(II)I"⟩
abbrev cX3_clear : ByteArray := prog_5_method_2_code
def yX3_clear : MethodName := ⟨RX3, "clear", "()V"⟩
abbrev cX3_isTold : ByteArray := prog_5_method_3_code
def yX3_isTold : MethodName := ⟨RX3, "isTold", "()Z"⟩
abbrev cX3_add : ByteArray := prog_5_method_4_code
def yX3_add : MethodName := ⟨RX3, "add", "(I)V"⟩
abbrev cX3_binding : ByteArray := prog_5_method_5_code
def yX3_binding : MethodName := ⟨RX3, "binding", "(I)I"⟩
abbrev cX3_worked : ByteArray := prog_5_method_6_code
def yX3_worked : MethodName := ⟨RX3, "worked", "([J[J)J"⟩
abbrev cX3_joined : ByteArray := prog_5_method_7_code
def yX3_joined : MethodName := ⟨RX3, "joined", "(IJJ)J"⟩
abbrev cX4_told : ByteArray := prog_6_method_2_code
def yX4_told : MethodName := ⟨RX4, "told", "(I)I"⟩
abbrev cX4_take : ByteArray := prog_6_method_3_code
def yX4_take : MethodName := ⟨RX4, "take", "(III)V"⟩
abbrev cX4_seekFree : ByteArray := prog_6_method_4_code
def yX4_seekFree : MethodName := ⟨RX4, "seekFree", "(LRibbonRun$Ring;)V"⟩
abbrev cX4_isFreed : ByteArray := prog_6_method_5_code
def yX4_isFreed : MethodName := ⟨RX4, "isFreed", "(LRibbonRun$Ring;II)Z"⟩
abbrev cX4_turn : ByteArray := prog_6_method_6_code
def yX4_turn : MethodName := ⟨RX4, "turn", "(LRibbonRun$Ring;II)V"⟩
abbrev cX4_aim : ByteArray := prog_6_method_7_code
def yX4_aim : MethodName := ⟨RX4, "aim", "(III)V"⟩
abbrev cX4_seekLead : ByteArray := prog_6_method_8_code
def yX4_seekLead : MethodName := ⟨RX4, "seekLead", "(LRibbonRun$Course;LRibbonRun$Garden;LRibbonRun$Plot;)V"⟩
abbrev cX4_areFound : ByteArray := prog_6_method_9_code
def yX4_areFound : MethodName := ⟨RX4, "areFound", "()Z"⟩
abbrev cX4_seekTwoLeads : ByteArray := prog_6_method_10_code
def yX4_seekTwoLeads : MethodName := ⟨RX4, "seekTwoLeads", "(LRibbonRun$Course;LRibbonRun$Garden;LRibbonRun$Plot;)V"⟩
abbrev cX4_matter : ByteArray := prog_6_method_11_code
def yX4_matter : MethodName := ⟨RX4, "matter", "(II)Z"⟩
abbrev cX4_isMissing : ByteArray := prog_6_method_12_code
def yX4_isMissing : MethodName := ⟨RX4, "isMissing", "(ILRibbonRun$Garden;LRibbonRun$Plot;)Z"⟩
abbrev cX4_add : ByteArray := prog_6_method_13_code
def yX4_add : MethodName := ⟨RX4, "add", "(LRibbonRun$Course;I)V"⟩
abbrev cX4_comes : ByteArray := prog_6_method_14_code
def yX4_comes : MethodName := ⟨RX4, "comes", "(LRibbonRun$Course;)Z"⟩
abbrev cX5_clear : ByteArray := prog_7_method_2_code
def yX5_clear : MethodName := ⟨RX5, "clear", "()V"⟩
abbrev cX5_become : ByteArray := prog_7_method_3_code
def yX5_become : MethodName := ⟨RX5, "become", "(LRibbonRun$Plot;)V"⟩
abbrev cX5_isSeen : ByteArray := prog_7_method_4_code
def yX5_isSeen : MethodName := ⟨RX5, "isSeen", "(II)Z"⟩
abbrev cX5_setSeen : ByteArray := prog_7_method_5_code
def yX5_setSeen : MethodName := ⟨RX5, "setSeen", "(IIZ)V"⟩
abbrev cX5_countSeen : ByteArray := prog_7_method_6_code
def yX5_countSeen : MethodName := ⟨RX5, "countSeen", "()I"⟩
abbrev cX5_addWorth : ByteArray := prog_7_method_7_code
def yX5_addWorth : MethodName := ⟨RX5, "addWorth", "(II)V"⟩
abbrev cX5_worthOf : ByteArray := prog_7_method_8_code
def yX5_worthOf : MethodName := ⟨RX5, "worthOf", "(I)I"⟩
abbrev cX5_pass : ByteArray := prog_7_method_9_code
def yX5_pass : MethodName := ⟨RX5, "pass", "(II)V"⟩
abbrev cX5_retain : ByteArray := prog_7_method_10_code
def yX5_retain : MethodName := ⟨RX5, "retain", "(I)V"⟩
abbrev cX5_draw : ByteArray := prog_7_method_11_code
def yX5_draw : MethodName := ⟨RX5, "draw", "()I"⟩
abbrev cX6_exchange : ByteArray := prog_8_method_2_code
def yX6_exchange : MethodName := ⟨RX6, "exchange", "(LRibbonRun$Garden;)LRibbonRun$Garden;"⟩
abbrev cX6_read : ByteArray := prog_8_method_3_code
def yX6_read : MethodName := ⟨RX6, "read", "(I)I"⟩
abbrev cX6_readLine : ByteArray := prog_8_method_4_code
def yX6_readLine : MethodName := ⟨RX6, "readLine", "()Z"⟩
abbrev cX6_readGrower : ByteArray := prog_8_method_5_code
def yX6_readGrower : MethodName := ⟨RX6, "readGrower", "()Z"⟩
abbrev cX6_readSees : ByteArray := prog_8_method_6_code
def yX6_readSees : MethodName := ⟨RX6, "readSees", "()Z"⟩
abbrev cX6_readRibbon : ByteArray := prog_8_method_7_code
def yX6_readRibbon : MethodName := ⟨RX6, "readRibbon", "()Z"⟩
abbrev cX6_readBlight : ByteArray := prog_8_method_8_code
def yX6_readBlight : MethodName := ⟨RX6, "readBlight", "()Z"⟩
abbrev cX6_readSeed : ByteArray := prog_8_method_9_code
def yX6_readSeed : MethodName := ⟨RX6, "readSeed", "()Z"⟩
abbrev cX6_readLaw : ByteArray := prog_8_method_10_code
def yX6_readLaw : MethodName := ⟨RX6, "readLaw", "()Z"⟩
abbrev cX6_readExpression : ByteArray := prog_8_method_11_code
def yX6_readExpression : MethodName := ⟨RX6, "readExpression", "(LRibbonRun$Law;)Z"⟩
abbrev cX6_readValue : ByteArray := prog_8_method_12_code
def yX6_readValue : MethodName := ⟨RX6, "readValue", "(LRibbonRun$Law;Z)I"⟩
abbrev cX6_readBehind : ByteArray := prog_8_method_13_code
def yX6_readBehind : MethodName := ⟨RX6, "readBehind", "(LRibbonRun$Law;)I"⟩
abbrev cX6_joiningSign : ByteArray := prog_8_method_14_code
def yX6_joiningSign : MethodName := ⟨RX6, "joiningSign", "()I"⟩
abbrev cX6_defer : ByteArray := prog_8_method_15_code
def yX6_defer : MethodName := ⟨RX6, "defer", "(I)V"⟩
abbrev cX6_release : ByteArray := prog_8_method_16_code
def yX6_release : MethodName := ⟨RX6, "release", "(LRibbonRun$Law;I)V"⟩
abbrev cX6_countKnot : ByteArray := prog_8_method_17_code
def yX6_countKnot : MethodName := ⟨RX6, "countKnot", "()Z"⟩
abbrev cX6_toldGrower : ByteArray := prog_8_method_18_code
def yX6_toldGrower : MethodName := ⟨RX6, "toldGrower", "()I"⟩
abbrev cX6_takeNumber : ByteArray := prog_8_method_19_code
def yX6_takeNumber : MethodName := ⟨RX6, "takeNumber", "(I)Z"⟩
abbrev cX6_takeSign : ByteArray := prog_8_method_20_code
def yX6_takeSign : MethodName := ⟨RX6, "takeSign", "(I)Z"⟩
abbrev cX6_fail : ByteArray := prog_8_method_21_code
def yX6_fail : MethodName := ⟨RX6, "fail", "(I)Z"⟩
abbrev cX6_failed : ByteArray := prog_8_method_22_code
def yX6_failed : MethodName := ⟨RX6, "failed", "(I)I"⟩
abbrev cX7_prepare : ByteArray := prog_9_method_2_code
def yX7_prepare : MethodName := ⟨RX7, "prepare", "(LRibbonRun$Course;I)V"⟩
abbrev cX7_isSeen : ByteArray := prog_9_method_3_code
def yX7_isSeen : MethodName := ⟨RX7, "isSeen", "(I)Z"⟩
abbrev cX7_turn : ByteArray := prog_9_method_4_code
def yX7_turn : MethodName := ⟨RX7, "turn", "(I)V"⟩
abbrev cX7_follow : ByteArray := prog_9_method_5_code
def yX7_follow : MethodName := ⟨RX7, "follow", "()V"⟩
abbrev cX7_since : ByteArray := prog_9_method_6_code
def yX7_since : MethodName := ⟨RX7, "since", "(II)I"⟩
abbrev cX7_bestFor : ByteArray := prog_9_method_7_code
def yX7_bestFor : MethodName := ⟨RX7, "bestFor", "(I)I"⟩
abbrev cX8_at : ByteArray := prog_10_method_2_code
def yX8_at : MethodName := ⟨RX8, "at", "(I)I"⟩
abbrev cX8_seekWalk : ByteArray := prog_10_method_3_code
def yX8_seekWalk : MethodName := ⟨RX8, "seekWalk", "(LRibbonRun$Garden;I)V"⟩
abbrev cX8_seekOrder : ByteArray := prog_10_method_4_code
def yX8_seekOrder : MethodName := ⟨RX8, "seekOrder", "(ILRibbonRun$Told;LRibbonRun$Plot;)V"⟩
abbrev cX8_begin : ByteArray := prog_10_method_5_code
def yX8_begin : MethodName := ⟨RX8, "begin", "(II)V"⟩
abbrev cX8_take : ByteArray := prog_10_method_6_code
def yX8_take : MethodName := ⟨RX8, "take", "(II)V"⟩
abbrev cX8_advance : ByteArray := prog_10_method_7_code
def yX8_advance : MethodName := ⟨RX8, "advance", "()Z"⟩
abbrev cX8_swap : ByteArray := prog_10_method_8_code
def yX8_swap : MethodName := ⟨RX8, "swap", "(II)V"⟩
abbrev cX9_hasRoom : ByteArray := prog_11_method_2_code
def yX9_hasRoom : MethodName := ⟨RX9, "hasRoom", "()Z"⟩
abbrev cX9_add : ByteArray := prog_11_method_3_code
def yX9_add : MethodName := ⟨RX9, "add", "(I)V"⟩
abbrev cX9_begin : ByteArray := prog_11_method_4_code
def yX9_begin : MethodName := ⟨RX9, "begin", "(I)V"⟩
abbrev cX9_advance : ByteArray := prog_11_method_5_code
def yX9_advance : MethodName := ⟨RX9, "advance", "()V"⟩
abbrev cX9_isWord : ByteArray := prog_11_method_6_code
def yX9_isWord : MethodName := ⟨RX9, "isWord", "(I)Z"⟩
abbrev cX9_isSign : ByteArray := prog_11_method_7_code
def yX9_isSign : MethodName := ⟨RX9, "isSign", "(I)Z"⟩
abbrev cX9_isLetter : ByteArray := prog_11_method_8_code
def yX9_isLetter : MethodName := ⟨RX9, "isLetter", "(I)Z"⟩
abbrev cX9_isDigit : ByteArray := prog_11_method_9_code
def yX9_isDigit : MethodName := ⟨RX9, "isDigit", "(I)Z"⟩
abbrev cX9_readWord : ByteArray := prog_11_method_10_code
def yX9_readWord : MethodName := ⟨RX9, "readWord", "()V"⟩
abbrev cX9_readNumber : ByteArray := prog_11_method_11_code
def yX9_readNumber : MethodName := ⟨RX9, "readNumber", "()V"⟩
abbrev cX9_readSign : ByteArray := prog_11_method_12_code
def yX9_readSign : MethodName := ⟨RX9, "readSign", "(I)V"⟩
abbrev cX9_signOf : ByteArray := prog_11_method_13_code
def yX9_signOf : MethodName := ⟨RX9, "signOf", "(I)I"⟩
abbrev cX10_forget : ByteArray := prog_12_method_2_code
def yX10_forget : MethodName := ⟨RX10, "forget", "()V"⟩
abbrev cX10_end : ByteArray := prog_12_method_3_code
def yX10_end : MethodName := ⟨RX10, "end", "()I"⟩
abbrev cX10_addHanding : ByteArray := prog_12_method_4_code
def yX10_addHanding : MethodName := ⟨RX10, "addHanding", "(II)I"⟩
abbrev cX10_addSight : ByteArray := prog_12_method_5_code
def yX10_addSight : MethodName := ⟨RX10, "addSight", "(IIIZ)I"⟩
abbrev cX10_addStrike : ByteArray := prog_12_method_6_code
def yX10_addStrike : MethodName := ⟨RX10, "addStrike", "(I)I"⟩
abbrev cX10_add : ByteArray := prog_12_method_7_code
def yX10_add : MethodName := ⟨RX10, "add", "(III)I"⟩
abbrev cX10_mark : ByteArray := prog_12_method_8_code
def yX10_mark : MethodName := ⟨RX10, "mark", "()V"⟩
abbrev cX10_clashes : ByteArray := prog_12_method_9_code
def yX10_clashes : MethodName := ⟨RX10, "clashes", "(IILRibbonRun$Plot;)I"⟩
abbrev cX10_lastYear : ByteArray := prog_12_method_10_code
def yX10_lastYear : MethodName := ⟨RX10, "lastYear", "()I"⟩
abbrev cX10_isSo : ByteArray := prog_12_method_11_code
def yX10_isSo : MethodName := ⟨RX10, "isSo", "(ILRibbonRun$Plot;)Z"⟩
abbrev cX11_feed : ByteArray := prog_1_method_2_code
def yX11_feed : MethodName := ⟨RX11, "feed", "(IIIII)I"⟩
abbrev cX11_text : ByteArray := prog_1_method_3_code
def yX11_text : MethodName := ⟨RX11, "text", "(I)I"⟩
abbrev cX11_fault : ByteArray := prog_1_method_4_code
def yX11_fault : MethodName := ⟨RX11, "fault", "(I)I"⟩
abbrev cX11_named : ByteArray := prog_1_method_5_code
def yX11_named : MethodName := ⟨RX11, "named", "(I)I"⟩
abbrev cX11_ribbon : ByteArray := prog_1_method_7_code
def yX11_ribbon : MethodName := ⟨RX11, "ribbon", "(II)I"⟩
abbrev cX11_judged : ByteArray := prog_1_method_8_code
def yX11_judged : MethodName := ⟨RX11, "judged", "(II)I"⟩
abbrev cX11_best : ByteArray := prog_1_method_9_code
def yX11_best : MethodName := ⟨RX11, "best", "(I)I"⟩
abbrev cX11_law : ByteArray := prog_1_method_10_code
def yX11_law : MethodName := ⟨RX11, "law", "(III)J"⟩
abbrev cX11_show : ByteArray := prog_1_method_11_code
def yX11_show : MethodName := ⟨RX11, "show", "(IIZ)Z"⟩
abbrev cX11_raise : ByteArray := prog_1_method_12_code
def yX11_raise : MethodName := ⟨RX11, "raise", "(II)I"⟩
abbrev cX11_hand : ByteArray := prog_1_method_13_code
def yX11_hand : MethodName := ⟨RX11, "hand", "(II)Z"⟩
abbrev cX11_go : ByteArray := prog_1_method_14_code
def yX11_go : MethodName := ⟨RX11, "go", "(I)I"⟩
abbrev cX11_ahead : ByteArray := prog_1_method_15_code
def yX11_ahead : MethodName := ⟨RX11, "ahead", "(III)I"⟩
abbrev cX11_ring : ByteArray := prog_1_method_16_code
def yX11_ring : MethodName := ⟨RX11, "ring", "(II)I"⟩
abbrev cX11_free : ByteArray := prog_1_method_17_code
def yX11_free : MethodName := ⟨RX11, "free", "(II)I"⟩
abbrev cX11_lead : ByteArray := prog_1_method_18_code
def yX11_lead : MethodName := ⟨RX11, "lead", "(IIII)I"⟩
abbrev cX11_walk : ByteArray := prog_1_method_19_code
def yX11_walk : MethodName := ⟨RX11, "walk", "(II)I"⟩
abbrev cX11_meet : ByteArray := prog_1_method_20_code
def yX11_meet : MethodName := ⟨RX11, "meet", "()I"⟩
abbrev cX11_reach : ByteArray := prog_1_method_21_code
def yX11_reach : MethodName := ⟨RX11, "reach", "(I)I"⟩
abbrev cX11_deserves : ByteArray := prog_1_method_22_code
def yX11_deserves : MethodName := ⟨RX11, "deserves", "()I"⟩
abbrev cX11_order : ByteArray := prog_1_method_23_code
def yX11_order : MethodName := ⟨RX11, "order", "(I)I"⟩
abbrev cX11_rests : ByteArray := prog_1_method_24_code
def yX11_rests : MethodName := ⟨RX11, "rests", "(II)I"⟩
abbrev cX11_rest : ByteArray := prog_1_method_25_code
def yX11_rest : MethodName := ⟨RX11, "rest", "(III)I"⟩
abbrev cX11_visit : ByteArray := prog_1_method_26_code
def yX11_visit : MethodName := ⟨RX11, "visit", "(III)I"⟩
abbrev cX11_hosts : ByteArray := prog_1_method_27_code
def yX11_hosts : MethodName := ⟨RX11, "hosts", "(II)I"⟩
abbrev cX11_rank : ByteArray := prog_1_method_28_code
def yX11_rank : MethodName := ⟨RX11, "rank", "(I)I"⟩
abbrev cX11_keepers : ByteArray := prog_1_method_29_code
def yX11_keepers : MethodName := ⟨RX11, "keepers", "()I"⟩
abbrev cX11_comesTo : ByteArray := prog_1_method_30_code
def yX11_comesTo : MethodName := ⟨RX11, "comesTo", "(II)I"⟩
abbrev cX11_popular : ByteArray := prog_1_method_31_code
def yX11_popular : MethodName := ⟨RX11, "popular", "()I"⟩
abbrev cX11_mutual : ByteArray := prog_1_method_32_code
def yX11_mutual : MethodName := ⟨RX11, "mutual", "()I"⟩
abbrev cX11_lonely : ByteArray := prog_1_method_33_code
def yX11_lonely : MethodName := ⟨RX11, "lonely", "()I"⟩
abbrev cX11_note : ByteArray := prog_1_method_34_code
def yX11_note : MethodName := ⟨RX11, "note", "(II)I"⟩
abbrev cX11_see : ByteArray := prog_1_method_35_code
def yX11_see : MethodName := ⟨RX11, "see", "(IIIZ)I"⟩
abbrev cX11_strike : ByteArray := prog_1_method_36_code
def yX11_strike : MethodName := ⟨RX11, "strike", "(I)I"⟩
abbrev cX11_known : ByteArray := prog_1_method_37_code
def yX11_known : MethodName := ⟨RX11, "known", "(I)Z"⟩
abbrev cX11_doubts : ByteArray := prog_1_method_38_code
def yX11_doubts : MethodName := ⟨RX11, "doubts", "(I)I"⟩
abbrev cX11_chance : ByteArray := prog_1_method_39_code
def yX11_chance : MethodName := ⟨RX11, "chance", "(IIII)I"⟩
abbrev cX11_tried : ByteArray := prog_1_method_40_code
def yX11_tried : MethodName := ⟨RX11, "tried", "(III)I"⟩
abbrev cX11_undo : ByteArray := prog_1_method_41_code
def yX11_undo : MethodName := ⟨RX11, "undo", "()I"⟩
abbrev cX11_keep : ByteArray := prog_1_method_42_code
def yX11_keep : MethodName := ⟨RX11, "keep", "()I"⟩
abbrev cX11_back : ByteArray := prog_1_method_43_code
def yX11_back : MethodName := ⟨RX11, "back", "()I"⟩
abbrev cX11_count : ByteArray := prog_1_method_44_code
def yX11_count : MethodName := ⟨RX11, "count", "(I)I"⟩
abbrev cX11_isGrower : ByteArray := prog_1_method_45_code
def yX11_isGrower : MethodName := ⟨RX11, "isGrower", "(I)Z"⟩
abbrev cX11_isRibbon : ByteArray := prog_1_method_46_code
def yX11_isRibbon : MethodName := ⟨RX11, "isRibbon", "(I)Z"⟩
abbrev cX11_areTwo : ByteArray := prog_1_method_47_code
def yX11_areTwo : MethodName := ⟨RX11, "areTwo", "(II)Z"⟩
abbrev cX11_isWithin : ByteArray := prog_1_method_48_code
def yX11_isWithin : MethodName := ⟨RX11, "isWithin", "(III)Z"⟩
abbrev cX11_has : ByteArray := prog_1_method_49_code
def yX11_has : MethodName := ⟨RX11, "has", "(II)Z"⟩
abbrev cX11_beginAnew : ByteArray := prog_1_method_50_code
def yX11_beginAnew : MethodName := ⟨RX11, "beginAnew", "()V"⟩
abbrev cX11_ribbonsOf : ByteArray := prog_1_method_51_code
def yX11_ribbonsOf : MethodName := ⟨RX11, "ribbonsOf", "(I)I"⟩
abbrev cX11_isRest : ByteArray := prog_1_method_52_code
def yX11_isRest : MethodName := ⟨RX11, "isRest", "(III)Z"⟩
abbrev cX11_share : ByteArray := prog_1_method_53_code
def yX11_share : MethodName := ⟨RX11, "share", "(IIII)I"⟩
abbrev cX11_areSightsSo : ByteArray := prog_1_method_54_code
def yX11_areSightsSo : MethodName := ⟨RX11, "areSightsSo", "()Z"⟩
abbrev cX12_thrown : ByteArray := prog_14_method_2_code
def yX12_thrown : MethodName := ⟨RX12, "thrown", "()I"⟩
abbrev cX12_feed : ByteArray := prog_14_method_3_code
def yX12_feed : MethodName := ⟨RX12, "feed", "(IIIII)I"⟩
abbrev cX12_isIn : ByteArray := prog_14_method_4_code
def yX12_isIn : MethodName := ⟨RX12, "isIn", "(III)Z"⟩
abbrev cX12_isOf : ByteArray := prog_14_method_5_code
def yX12_isOf : MethodName := ⟨RX12, "isOf", "(II)Z"⟩
abbrev cX12_wrong : ByteArray := prog_14_method_6_code
def yX12_wrong : MethodName := ⟨RX12, "wrong", "(I)Z"⟩
abbrev cX12_wordAt : ByteArray := prog_14_method_7_code
def yX12_wordAt : MethodName := ⟨RX12, "wordAt", "(II)I"⟩
abbrev cX12_isSmall : ByteArray := prog_14_method_8_code
def yX12_isSmall : MethodName := ⟨RX12, "isSmall", "(I)Z"⟩
abbrev cX12_isDigit : ByteArray := prog_14_method_9_code
def yX12_isDigit : MethodName := ⟨RX12, "isDigit", "(I)Z"⟩
abbrev cX12_token : ByteArray := prog_14_method_10_code
def yX12_token : MethodName := ⟨RX12, "token", "()V"⟩
abbrev cX12_signToken : ByteArray := prog_14_method_11_code
def yX12_signToken : MethodName := ⟨RX12, "signToken", "()V"⟩
abbrev cX12_packed : ByteArray := prog_14_method_12_code
def yX12_packed : MethodName := ⟨RX12, "packed", "(II)I"⟩
abbrev cX12_isKey : ByteArray := prog_14_method_13_code
def yX12_isKey : MethodName := ⟨RX12, "isKey", "(I)Z"⟩
abbrev cX12_isSign : ByteArray := prog_14_method_14_code
def yX12_isSign : MethodName := ⟨RX12, "isSign", "(I)Z"⟩
abbrev cX12_number : ByteArray := prog_14_method_15_code
def yX12_number : MethodName := ⟨RX12, "number", "(II)Z"⟩
abbrev cX12_signed : ByteArray := prog_14_method_16_code
def yX12_signed : MethodName := ⟨RX12, "signed", "(I)Z"⟩
abbrev cX12_plain : ByteArray := prog_14_method_17_code
def yX12_plain : MethodName := ⟨RX12, "plain", "()V"⟩
abbrev cX12_copies : ByteArray := prog_14_method_18_code
def yX12_copies : MethodName := ⟨RX12, "copies", "([II)V"⟩
abbrev cX12_keepText : ByteArray := prog_14_method_19_code
def yX12_keepText : MethodName := ⟨RX12, "keepText", "()V"⟩
abbrev cX12_find : ByteArray := prog_14_method_20_code
def yX12_find : MethodName := ⟨RX12, "find", "([IIII)I"⟩
abbrev cX12_growerThere : ByteArray := prog_14_method_21_code
def yX12_growerThere : MethodName := ⟨RX12, "growerThere", "()Z"⟩
abbrev cX12_growerLine : ByteArray := prog_14_method_22_code
def yX12_growerLine : MethodName := ⟨RX12, "growerLine", "()Z"⟩
abbrev cX12_seesLine : ByteArray := prog_14_method_23_code
def yX12_seesLine : MethodName := ⟨RX12, "seesLine", "()Z"⟩
abbrev cX12_ribbonLine : ByteArray := prog_14_method_24_code
def yX12_ribbonLine : MethodName := ⟨RX12, "ribbonLine", "()Z"⟩
abbrev cX12_onceLine : ByteArray := prog_14_method_25_code
def yX12_onceLine : MethodName := ⟨RX12, "onceLine", "(II)Z"⟩
abbrev cX12_lineRead : ByteArray := prog_14_method_26_code
def yX12_lineRead : MethodName := ⟨RX12, "lineRead", "()Z"⟩
abbrev cX12_text : ByteArray := prog_14_method_27_code
def yX12_text : MethodName := ⟨RX12, "text", "(I)I"⟩
abbrev cX12_fault : ByteArray := prog_14_method_28_code
def yX12_fault : MethodName := ⟨RX12, "fault", "(I)I"⟩
abbrev cX12_named : ByteArray := prog_14_method_29_code
def yX12_named : MethodName := ⟨RX12, "named", "(I)I"⟩
abbrev cX12_rankOf : ByteArray := prog_14_method_30_code
def yX12_rankOf : MethodName := ⟨RX12, "rankOf", "(I)I"⟩
abbrev cX12_grown : ByteArray := prog_14_method_31_code
def yX12_grown : MethodName := ⟨RX12, "grown", "(III)V"⟩
abbrev cX12_dropHeld : ByteArray := prog_14_method_32_code
def yX12_dropHeld : MethodName := ⟨RX12, "dropHeld", "()I"⟩
abbrev cX12_bind : ByteArray := prog_14_method_33_code
def yX12_bind : MethodName := ⟨RX12, "bind", "(I)V"⟩
abbrev cX12_isCounted : ByteArray := prog_14_method_34_code
def yX12_isCounted : MethodName := ⟨RX12, "isCounted", "()Z"⟩
abbrev cX12_waitsFor : ByteArray := prog_14_method_35_code
def yX12_waitsFor : MethodName := ⟨RX12, "waitsFor", "(I)V"⟩
abbrev cX12_nameMet : ByteArray := prog_14_method_36_code
def yX12_nameMet : MethodName := ⟨RX12, "nameMet", "()I"⟩
abbrev cX12_leafRead : ByteArray := prog_14_method_37_code
def yX12_leafRead : MethodName := ⟨RX12, "leafRead", "()Z"⟩
abbrev cX12_signs : ByteArray := prog_14_method_38_code
def yX12_signs : MethodName := ⟨RX12, "signs", "()Z"⟩
abbrev cX12_sumRead : ByteArray := prog_14_method_39_code
def yX12_sumRead : MethodName := ⟨RX12, "sumRead", "()Z"⟩
abbrev cX12_bounded : ByteArray := prog_14_method_40_code
def yX12_bounded : MethodName := ⟨RX12, "bounded", "(J)J"⟩
abbrev cX12_compares : ByteArray := prog_14_method_41_code
def yX12_compares : MethodName := ⟨RX12, "compares", "(IJJ)Z"⟩
abbrev cX12_times : ByteArray := prog_14_method_42_code
def yX12_times : MethodName := ⟨RX12, "times", "(JJ)J"⟩
abbrev cX12_valueOf : ByteArray := prog_14_method_43_code
def yX12_valueOf : MethodName := ⟨RX12, "valueOf", "(I)J"⟩
abbrev cX12_begin : ByteArray := prog_14_method_44_code
def yX12_begin : MethodName := ⟨RX12, "begin", "()V"⟩
abbrev cX12_atFirst : ByteArray := prog_14_method_45_code
def yX12_atFirst : MethodName := ⟨RX12, "atFirst", "(I)V"⟩
abbrev cX12_plainTried : ByteArray := prog_14_method_46_code
def yX12_plainTried : MethodName := ⟨RX12, "plainTried", "()V"⟩
abbrev cX12_layTried : ByteArray := prog_14_method_47_code
def yX12_layTried : MethodName := ⟨RX12, "layTried", "()V"⟩
abbrev cX12_isGrower : ByteArray := prog_14_method_48_code
def yX12_isGrower : MethodName := ⟨RX12, "isGrower", "(I)Z"⟩
abbrev cX12_isRibbon : ByteArray := prog_14_method_49_code
def yX12_isRibbon : MethodName := ⟨RX12, "isRibbon", "(I)Z"⟩
abbrev cX12_areTwo : ByteArray := prog_14_method_50_code
def yX12_areTwo : MethodName := ⟨RX12, "areTwo", "(II)Z"⟩
abbrev cX12_apart : ByteArray := prog_14_method_51_code
def yX12_apart : MethodName := ⟨RX12, "apart", "(II)I"⟩
abbrev cX12_doubtIn : ByteArray := prog_14_method_52_code
def yX12_doubtIn : MethodName := ⟨RX12, "doubtIn", "(I)I"⟩
abbrev cX12_layNames : ByteArray := prog_14_method_53_code
def yX12_layNames : MethodName := ⟨RX12, "layNames", "(IIII)V"⟩
abbrev cX12_lawOf : ByteArray := prog_14_method_54_code
def yX12_lawOf : MethodName := ⟨RX12, "lawOf", "(I)J"⟩
abbrev cX12_boundLaw : ByteArray := prog_14_method_55_code
def yX12_boundLaw : MethodName := ⟨RX12, "boundLaw", "(IIII)I"⟩
abbrev cX12_judgedBy : ByteArray := prog_14_method_56_code
def yX12_judgedBy : MethodName := ⟨RX12, "judgedBy", "(III)I"⟩
abbrev cX12_seenBy : ByteArray := prog_14_method_57_code
def yX12_seenBy : MethodName := ⟨RX12, "seenBy", "(II)I"⟩
abbrev cX12_bestOf : ByteArray := prog_14_method_58_code
def yX12_bestOf : MethodName := ⟨RX12, "bestOf", "(II)I"⟩
abbrev cX12_gives : ByteArray := prog_14_method_59_code
def yX12_gives : MethodName := ⟨RX12, "gives", "(III)Z"⟩
abbrev cX12_number1 : ByteArray := prog_14_method_60_code
def yX12_number1 : MethodName := ⟨RX12, "number1", "(I)I"⟩
abbrev cX12_isBlight : ByteArray := prog_14_method_61_code
def yX12_isBlight : MethodName := ⟨RX12, "isBlight", "()Z"⟩
abbrev cX12_hands : ByteArray := prog_14_method_62_code
def yX12_hands : MethodName := ⟨RX12, "hands", "(III)V"⟩
abbrev cX12_yearGoes : ByteArray := prog_14_method_63_code
def yX12_yearGoes : MethodName := ⟨RX12, "yearGoes", "(I)V"⟩
abbrev cX12_goMany : ByteArray := prog_14_method_64_code
def yX12_goMany : MethodName := ⟨RX12, "goMany", "(I)V"⟩
abbrev cX12_fails : ByteArray := prog_14_method_65_code
def yX12_fails : MethodName := ⟨RX12, "fails", "(I)I"⟩
abbrev cX12_ribbonsOf : ByteArray := prog_14_method_66_code
def yX12_ribbonsOf : MethodName := ⟨RX12, "ribbonsOf", "(II)I"⟩
abbrev cX12_grower : ByteArray := prog_14_method_67_code
def yX12_grower : MethodName := ⟨RX12, "grower", "(II)I"⟩
abbrev cX12_ribbon : ByteArray := prog_14_method_68_code
def yX12_ribbon : MethodName := ⟨RX12, "ribbon", "(II)I"⟩
abbrev cX12_judged : ByteArray := prog_14_method_69_code
def yX12_judged : MethodName := ⟨RX12, "judged", "(II)I"⟩
abbrev cX12_best : ByteArray := prog_14_method_70_code
def yX12_best : MethodName := ⟨RX12, "best", "(I)I"⟩
abbrev cX12_law : ByteArray := prog_14_method_71_code
def yX12_law : MethodName := ⟨RX12, "law", "(III)J"⟩
abbrev cX12_show : ByteArray := prog_14_method_72_code
def yX12_show : MethodName := ⟨RX12, "show", "(IIZ)Z"⟩
abbrev cX12_raise : ByteArray := prog_14_method_73_code
def yX12_raise : MethodName := ⟨RX12, "raise", "(II)I"⟩
abbrev cX12_hand : ByteArray := prog_14_method_74_code
def yX12_hand : MethodName := ⟨RX12, "hand", "(II)Z"⟩
abbrev cX12_go : ByteArray := prog_14_method_75_code
def yX12_go : MethodName := ⟨RX12, "go", "(I)I"⟩
abbrev cX12_handedAll : ByteArray := prog_14_method_76_code
def yX12_handedAll : MethodName := ⟨RX12, "handedAll", "(I)I"⟩
abbrev cX12_ahead : ByteArray := prog_14_method_77_code
def yX12_ahead : MethodName := ⟨RX12, "ahead", "(III)I"⟩
abbrev cX12_ringOf : ByteArray := prog_14_method_78_code
def yX12_ringOf : MethodName := ⟨RX12, "ringOf", "(II)I"⟩
abbrev cX12_ring : ByteArray := prog_14_method_79_code
def yX12_ring : MethodName := ⟨RX12, "ring", "(II)I"⟩
abbrev cX12_turns : ByteArray := prog_14_method_80_code
def yX12_turns : MethodName := ⟨RX12, "turns", "(I)V"⟩
abbrev cX12_mayTurn : ByteArray := prog_14_method_81_code
def yX12_mayTurn : MethodName := ⟨RX12, "mayTurn", "(IZ)Z"⟩
abbrev cX12_isSoBy : ByteArray := prog_14_method_82_code
def yX12_isSoBy : MethodName := ⟨RX12, "isSoBy", "(IIIII)Z"⟩
abbrev cX12_changes : ByteArray := prog_14_method_83_code
def yX12_changes : MethodName := ⟨RX12, "changes", "(III)Z"⟩
abbrev cX12_changed : ByteArray := prog_14_method_84_code
def yX12_changed : MethodName := ⟨RX12, "changed", "(I)I"⟩
abbrev cX12_free : ByteArray := prog_14_method_85_code
def yX12_free : MethodName := ⟨RX12, "free", "(II)I"⟩
abbrev cX12_lead : ByteArray := prog_14_method_86_code
def yX12_lead : MethodName := ⟨RX12, "lead", "(IIII)I"⟩
abbrev cX12_rowsOf : ByteArray := prog_14_method_87_code
def yX12_rowsOf : MethodName := ⟨RX12, "rowsOf", "(I)I"⟩
abbrev cX12_layRow : ByteArray := prog_14_method_88_code
def yX12_layRow : MethodName := ⟨RX12, "layRow", "(III)V"⟩
abbrev cX12_walk : ByteArray := prog_14_method_89_code
def yX12_walk : MethodName := ⟨RX12, "walk", "(II)I"⟩
abbrev cX12_meet : ByteArray := prog_14_method_90_code
def yX12_meet : MethodName := ⟨RX12, "meet", "()I"⟩
abbrev cX12_reach : ByteArray := prog_14_method_91_code
def yX12_reach : MethodName := ⟨RX12, "reach", "(I)I"⟩
abbrev cX12_deserves : ByteArray := prog_14_method_92_code
def yX12_deserves : MethodName := ⟨RX12, "deserves", "()I"⟩
abbrev cX12_wayBy : ByteArray := prog_14_method_93_code
def yX12_wayBy : MethodName := ⟨RX12, "wayBy", "(II)I"⟩
abbrev cX12_visit : ByteArray := prog_14_method_94_code
def yX12_visit : MethodName := ⟨RX12, "visit", "(III)I"⟩
abbrev cX12_hosts : ByteArray := prog_14_method_95_code
def yX12_hosts : MethodName := ⟨RX12, "hosts", "(II)I"⟩
abbrev cX12_rank : ByteArray := prog_14_method_96_code
def yX12_rank : MethodName := ⟨RX12, "rank", "(I)I"⟩
abbrev cX12_keepers : ByteArray := prog_14_method_97_code
def yX12_keepers : MethodName := ⟨RX12, "keepers", "()I"⟩
abbrev cX12_comesTo : ByteArray := prog_14_method_98_code
def yX12_comesTo : MethodName := ⟨RX12, "comesTo", "(II)I"⟩
abbrev cX12_popular : ByteArray := prog_14_method_99_code
def yX12_popular : MethodName := ⟨RX12, "popular", "()I"⟩
abbrev cX12_mutual : ByteArray := prog_14_method_100_code
def yX12_mutual : MethodName := ⟨RX12, "mutual", "()I"⟩
abbrev cX12_lonely : ByteArray := prog_14_method_101_code
def yX12_lonely : MethodName := ⟨RX12, "lonely", "()I"⟩
abbrev cX12_hasBy : ByteArray := prog_14_method_102_code
def yX12_hasBy : MethodName := ⟨RX12, "hasBy", "(IIII)I"⟩
abbrev cX12_restAt : ByteArray := prog_14_method_103_code
def yX12_restAt : MethodName := ⟨RX12, "restAt", "(III)I"⟩
abbrev cX12_rests : ByteArray := prog_14_method_104_code
def yX12_rests : MethodName := ⟨RX12, "rests", "(II)I"⟩
abbrev cX12_rest : ByteArray := prog_14_method_105_code
def yX12_rest : MethodName := ⟨RX12, "rest", "(III)I"⟩
abbrev cX12_lays : ByteArray := prog_14_method_106_code
def yX12_lays : MethodName := ⟨RX12, "lays", "(IIIII)I"⟩
abbrev cX12_note : ByteArray := prog_14_method_107_code
def yX12_note : MethodName := ⟨RX12, "note", "(II)I"⟩
abbrev cX12_see : ByteArray := prog_14_method_108_code
def yX12_see : MethodName := ⟨RX12, "see", "(IIIZ)I"⟩
abbrev cX12_strike : ByteArray := prog_14_method_109_code
def yX12_strike : MethodName := ⟨RX12, "strike", "(I)I"⟩
abbrev cX12_known : ByteArray := prog_14_method_110_code
def yX12_known : MethodName := ⟨RX12, "known", "(I)Z"⟩
abbrev cX12_knownBy : ByteArray := prog_14_method_111_code
def yX12_knownBy : MethodName := ⟨RX12, "knownBy", "()I"⟩
abbrev cX12_layCounts : ByteArray := prog_14_method_112_code
def yX12_layCounts : MethodName := ⟨RX12, "layCounts", "()V"⟩
abbrev cX12_clashesOf : ByteArray := prog_14_method_113_code
def yX12_clashesOf : MethodName := ⟨RX12, "clashesOf", "()I"⟩
abbrev cX12_order : ByteArray := prog_14_method_114_code
def yX12_order : MethodName := ⟨RX12, "order", "(I)I"⟩
abbrev cX12_isSo : ByteArray := prog_14_method_115_code
def yX12_isSo : MethodName := ⟨RX12, "isSo", "(I)Z"⟩
abbrev cX12_fits : ByteArray := prog_14_method_116_code
def yX12_fits : MethodName := ⟨RX12, "fits", "(II)Z"⟩
abbrev cX12_doubts : ByteArray := prog_14_method_117_code
def yX12_doubts : MethodName := ⟨RX12, "doubts", "(I)I"⟩
abbrev cX12_chance : ByteArray := prog_14_method_118_code
def yX12_chance : MethodName := ⟨RX12, "chance", "(IIII)I"⟩
abbrev cX12_tried : ByteArray := prog_14_method_119_code
def yX12_tried : MethodName := ⟨RX12, "tried", "(III)I"⟩
abbrev cX12_put : ByteArray := prog_14_method_120_code
def yX12_put : MethodName := ⟨RX12, "put", "([II)V"⟩
abbrev cX12_take : ByteArray := prog_14_method_121_code
def yX12_take : MethodName := ⟨RX12, "take", "([II)V"⟩
abbrev cX12_remember : ByteArray := prog_14_method_122_code
def yX12_remember : MethodName := ⟨RX12, "remember", "()V"⟩
abbrev cX12_undo : ByteArray := prog_14_method_123_code
def yX12_undo : MethodName := ⟨RX12, "undo", "()I"⟩
abbrev cX12_keep : ByteArray := prog_14_method_124_code
def yX12_keep : MethodName := ⟨RX12, "keep", "()I"⟩
abbrev cX12_back : ByteArray := prog_14_method_125_code
def yX12_back : MethodName := ⟨RX12, "back", "()I"⟩
abbrev cX12_count : ByteArray := prog_14_method_126_code
def yX12_count : MethodName := ⟨RX12, "count", "(I)I"⟩
abbrev cJ6_bitCount_0f7a4 : ByteArray := prog_20_method_49_code
def yJ6_bitCount_0f7a4 : MethodName := ⟨RJ6, "bitCount", "(I)I"⟩
/-- the classes by their numbers -/
def cnm (c : Nat) : String := match c with
  | 0 => RX0
  | 1 => RX1
  | 2 => RX2
  | 3 => RX3
  | 4 => RX4
  | 5 => RX5
  | 6 => RX6
  | 7 => RX7
  | 8 => RX8
  | 9 => RX9
  | 10 => RX10
  | 11 => RX11
  | 12 => RX12
  | 13 => RJ6
  | _ => ""
def cTt (c : Nat) : u_T := match c with
  | 0 => TX0
  | 1 => TX1
  | 2 => TX2
  | 3 => TX3
  | 4 => TX4
  | 5 => TX5
  | 6 => TX6
  | 7 => TX7
  | 8 => TX8
  | 9 => TX9
  | 10 => TX10
  | 11 => TX11
  | 12 => TX12
  | _ => TX0
def cNn (c : Nat) : Nat := match c with
  | 0 => 7
  | 1 => 7
  | 2 => 11
  | 3 => 2
  | 4 => 8
  | 5 => 8
  | 6 => 10
  | 7 => 9
  | 8 => 4
  | 9 => 8
  | 10 => 8
  | 11 => 12
  | 12 => 78
  | _ => 0
def cTy (c : Nat) : Nat → FieldType := match c with
  | 0 => tyX0
  | 1 => tyX1
  | 2 => tyX2
  | 3 => tyX3
  | 4 => tyX4
  | 5 => tyX5
  | 6 => tyX6
  | 7 => tyX7
  | 8 => tyX8
  | 9 => tyX9
  | 10 => tyX10
  | 11 => tyX11
  | 12 => tyX12
  | _ => tyX0
abbrev cl13 : List vw_C := [(RX0, TX0, 7), (RX1, TX1, 7), (RX2, TX2, 11), (RX3, TX3, 2), (RX4, TX4, 8), (RX5, TX5, 8), (RX6, TX6, 10), (RX7, TX7, 9), (RX8, TX8, 4), (RX9, TX9, 8), (RX10, TX10, 8), (RX11, TX11, 12), (RX12, TX12, 78)]
theorem cl_at : ∀ c, c < 13 → cl13[c]? = some (cnm c, cTt c, cNn c)
  | 0, _ => rfl
  | 1, _ => rfl
  | 2, _ => rfl
  | 3, _ => rfl
  | 4, _ => rfl
  | 5, _ => rfl
  | 6, _ => rfl
  | 7, _ => rfl
  | 8, _ => rfl
  | 9, _ => rfl
  | 10, _ => rfl
  | 11, _ => rfl
  | 12, _ => rfl
  | _ + 13, h => absurd h (by omega)
theorem cl_nm : ∀ c, c < 13 → ∀ a, a < cNn c → ∀ b, b < cNn c → a ≠ b → (cTt c a).2.1 ≠ (cTt c b).2.1
  | 0, _ => nmX0
  | 1, _ => nmX1
  | 2, _ => nmX2
  | 3, _ => nmX3
  | 4, _ => nmX4
  | 5, _ => nmX5
  | 6, _ => nmX6
  | 7, _ => nmX7
  | 8, _ => nmX8
  | 9, _ => nmX9
  | 10, _ => nmX10
  | 11, _ => nmX11
  | 12, _ => nmX12
  | _ + 13, h => absurd h (by omega)
theorem cl_ty : ∀ c, c < 13 → ∀ k, k < cNn c → parseFieldDescriptor (cTt c k).2.2.1 = some (cTy c k)
  | 0, _ => tyX0_ok
  | 1, _ => tyX1_ok
  | 2, _ => tyX2_ok
  | 3, _ => tyX3_ok
  | 4, _ => tyX4_ok
  | 5, _ => tyX5_ok
  | 6, _ => tyX6_ok
  | 7, _ => tyX7_ok
  | 8, _ => tyX8_ok
  | 9, _ => tyX9_ok
  | 10, _ => tyX10_ok
  | 11, _ => tyX11_ok
  | 12, _ => tyX12_ok
  | _ + 13, h => absurd h (by omega)
end
section
/-- an instruction, resolved: group, which, byte pc, number, two more -/
abbrev OP : Type := Nat × Nat × Nat × Int × Nat × Nat
def kX0_begin : List OP := [(0, 4, 0, 0, 0, 0), (0, 4, 1, 0, 1, 1), (7, 4, 2, 37, 0, 4), (0, 4, 5, 0, 0, 0), (6, 3, 6, 12, 0, 0), (0, 4, 9, 0, 2, 2), (8, 0, 10, 41, 46, 2), (0, 4, 13, 0, 1, 1), (6, 2, 14, 45, 2, 7), (0, 0, 17, 0, 0, 0), (0, 4, 18, 0, 0, 0), (6, 2, 19, 18, 0, 1), (0, 0, 22, 0, 0, 0), (0, 0, 23, 6, 0, 1), (8, 4, 25, 48, 0, 5), (0, 4, 28, 0, 0, 0), (0, 4, 29, 0, 1, 1), (6, 0, 30, 54, 2, 2), (0, 0, 33, 50, 0, 1), (4, 8, 35, 7, 22, 0), (0, 0, 38, 1, 0, 0), (4, 12, 39, 4, 23, 0), (0, 0, 42, 0, 0, 0), (7, 0, 43, 29, 0, 5), (0, 4, 46, 0, 0, 0), (0, 0, 47, 1, 0, 0), (7, 1, 48, 33, 0, 6), (9, 4, 51, 0, 0, 0)]
def kX0_drawBlight : List OP := [(0, 4, 0, 0, 0, 0), (0, 4, 1, 0, 0, 0), (6, 4, 2, 37, 0, 4), (6, 0, 5, 54, 2, 2), (4, 1, 8, 7, 7, 0), (0, 0, 11, 0, 0, 0), (4, 12, 12, 20, 15, 0), (0, 4, 15, 0, 0, 0), (6, 4, 16, 37, 0, 4), (6, 0, 19, 54, 2, 2), (0, 0, 22, 100, 0, 1), (4, 7, 24, 7, 14, 0), (0, 0, 27, 1, 0, 0), (4, 12, 28, 4, 15, 0), (0, 0, 31, 2, 0, 0), (7, 0, 32, 29, 0, 5), (9, 4, 35, 0, 0, 0)]
def kX0_otherwise : List OP := [(0, 2, 0, 0, 1, 1), (4, 1, 1, 8, 5, 0), (0, 4, 4, 0, 0, 0), (0, 0, 5, 0, 0, 0), (7, 0, 6, 29, 0, 5), (0, 4, 9, 0, 0, 0), (0, 2, 10, 0, 1, 1), (0, 0, 11, 4, 0, 0), (4, 6, 12, 7, 11, 0), (0, 0, 15, 1, 0, 0), (4, 12, 16, 4, 12, 0), (0, 0, 19, 0, 0, 0), (7, 1, 20, 33, 0, 6), (0, 0, 23, 0, 0, 0), (0, 5, 24, 0, 3, 3), (0, 2, 25, 0, 3, 3), (0, 4, 26, 0, 0, 0), (6, 4, 27, 37, 0, 4), (6, 0, 30, 57, 2, 0), (4, 9, 33, 73, 62, 0), (0, 2, 36, 0, 1, 1), (0, 0, 37, 1, 0, 0), (4, 7, 38, 13, 29, 0), (0, 4, 41, 0, 0, 0), (6, 2, 42, 18, 0, 1), (0, 2, 45, 0, 3, 3), (0, 0, 46, 0, 0, 0), (5, 4, 47, 0, 0, 0), (4, 12, 48, 52, 60, 0), (0, 2, 51, 0, 1, 1), (0, 0, 52, 2, 0, 0), (4, 7, 53, 16, 39, 0), (0, 4, 56, 0, 0, 0), (6, 3, 57, 12, 0, 0), (0, 2, 60, 0, 3, 3), (0, 2, 61, 0, 2, 2), (0, 0, 62, 0, 0, 0), (8, 0, 63, 60, 48, 4), (4, 12, 66, 34, 60, 0), (0, 2, 69, 0, 1, 1), (0, 0, 70, 3, 0, 0), (4, 7, 71, 29, 60, 0), (0, 4, 74, 0, 0, 0), (6, 3, 75, 12, 0, 0), (6, 2, 78, 64, 5, 4), (0, 2, 81, 0, 3, 3), (0, 0, 82, 1, 0, 0), (0, 4, 83, 0, 0, 0), (6, 4, 84, 37, 0, 4), (6, 0, 87, 57, 2, 0), (1, 6, 90, 0, 0, 0), (0, 0, 91, 1, 0, 0), (1, 1, 92, 0, 0, 0), (0, 0, 93, 1, 0, 0), (0, 2, 94, 0, 3, 3), (1, 6, 95, 0, 0, 0), (0, 0, 96, -1, 0, 0), (1, 5, 97, 0, 0, 0), (1, 3, 98, 0, 0, 0), (5, 4, 99, 0, 0, 0), (0, 8, 100, 1, 3, 0), (4, 12, 103, -78, 15, 0), (9, 4, 106, 0, 0, 0)]
def kX0_years : List OP := [(0, 0, 0, 0, 0, 0), (0, 5, 1, 0, 2, 2), (0, 2, 2, 0, 2, 2), (0, 2, 3, 0, 1, 1), (4, 9, 4, 13, 9, 0), (0, 4, 7, 0, 0, 0), (8, 0, 8, 67, 4, 1), (0, 8, 11, 1, 2, 0), (4, 12, 14, -12, 2, 0), (9, 4, 17, 0, 0, 0)]
def kX0_year : List OP := [(0, 4, 0, 0, 0, 0), (6, 1, 1, 33, 0, 6), (4, 0, 4, 7, 5, 0), (0, 4, 7, 0, 0, 0), (8, 0, 8, 70, 5, 1), (0, 4, 11, 0, 0, 0), (6, 0, 12, 29, 0, 5), (4, 0, 15, 7, 10, 0), (0, 4, 18, 0, 0, 0), (8, 0, 19, 73, 6, 1), (0, 0, 22, 0, 0, 0), (0, 5, 23, 0, 1, 1), (0, 2, 24, 0, 1, 1), (0, 4, 25, 0, 0, 0), (6, 4, 26, 37, 0, 4), (6, 0, 29, 76, 2, 1), (4, 9, 32, 66, 50, 0), (0, 4, 35, 0, 0, 0), (6, 3, 36, 12, 0, 0), (6, 2, 39, 79, 5, 5), (0, 2, 42, 0, 1, 1), (5, 0, 43, 0, 0, 0), (0, 5, 44, 0, 2, 2), (0, 4, 45, 0, 0, 0), (0, 2, 46, 0, 2, 2), (8, 0, 47, 82, 7, 2), (0, 5, 50, 0, 3, 3), (0, 2, 51, 0, 3, 3), (4, 2, 52, 32, 44, 0), (0, 4, 55, 0, 0, 0), (0, 2, 56, 0, 2, 2), (0, 4, 57, 0, 0, 0), (6, 3, 58, 12, 0, 0), (6, 2, 61, 86, 5, 6), (0, 2, 64, 0, 1, 1), (5, 0, 65, 0, 0, 0), (8, 0, 66, 89, 8, 3), (4, 0, 69, 15, 44, 0), (0, 4, 72, 0, 0, 0), (6, 3, 73, 12, 0, 0), (0, 2, 76, 0, 1, 1), (0, 2, 77, 0, 3, 3), (8, 0, 78, 93, 52, 3), (4, 12, 81, 11, 48, 0), (0, 4, 84, 0, 0, 0), (6, 3, 85, 12, 0, 0), (0, 2, 88, 0, 1, 1), (8, 0, 89, 97, 53, 2), (0, 8, 92, 1, 1, 0), (4, 12, 95, -71, 12, 0), (0, 4, 98, 0, 0, 0), (6, 3, 99, 12, 0, 0), (3, 0, 102, 0, 0, 0), (6, 0, 103, 101, 5, 0), (0, 0, 106, 1, 0, 0), (1, 0, 107, 0, 0, 0), (7, 0, 108, 101, 5, 0), (9, 4, 111, 0, 0, 0)]
def kX0_growAll : List OP := [(0, 0, 0, 0, 0, 0), (0, 5, 1, 0, 1, 1), (0, 2, 2, 0, 1, 1), (0, 4, 3, 0, 0, 0), (6, 4, 4, 37, 0, 4), (6, 0, 7, 57, 2, 0), (4, 9, 10, 80, 48, 0), (0, 4, 13, 0, 0, 0), (0, 0, 14, 1, 0, 0), (0, 2, 15, 0, 1, 1), (0, 0, 16, 0, 0, 0), (8, 0, 17, 103, 11, 4), (0, 6, 20, 0, 2, 2), (0, 3, 21, 0, 2, 2), (0, 1, 22, -9223372036854775808, 107, 2), (2, 7, 25, 0, 0, 0), (4, 1, 26, 16, 24, 0), (0, 4, 29, 0, 0, 0), (6, 4, 30, 37, 0, 4), (6, 2, 33, 109, 2, 6), (0, 2, 36, 0, 1, 1), (5, 0, 37, 0, 0, 0), (1, 12, 38, 0, 0, 0), (4, 12, 39, 4, 25, 0), (0, 3, 42, 0, 2, 2), (0, 6, 43, 0, 2, 2), (0, 3, 44, 0, 2, 2), (0, 1, 45, -9, 112, 2), (2, 7, 48, 0, 0, 0), (4, 3, 49, 9, 32, 0), (0, 1, 52, -9, 112, 2), (4, 12, 55, 18, 39, 0), (0, 3, 58, 0, 2, 2), (0, 1, 59, 9, 114, 2), (2, 7, 62, 0, 0, 0), (4, 5, 63, 9, 38, 0), (0, 1, 66, 9, 114, 2), (4, 12, 69, 4, 39, 0), (0, 3, 72, 0, 2, 2), (0, 6, 73, 0, 2, 2), (0, 4, 74, 0, 0, 0), (6, 3, 75, 12, 0, 0), (0, 2, 78, 0, 1, 1), (0, 3, 79, 0, 2, 2), (1, 13, 80, 0, 0, 0), (8, 0, 81, 116, 50, 3), (0, 8, 84, 1, 1, 0), (4, 12, 87, -85, 2, 0), (9, 4, 90, 0, 0, 0)]
def kX0_blightAll : List OP := [(0, 0, 0, 0, 0, 0), (0, 5, 1, 0, 1, 1), (0, 2, 2, 0, 1, 1), (0, 4, 3, 0, 0, 0), (6, 4, 4, 37, 0, 4), (6, 0, 7, 57, 2, 0), (4, 9, 10, 47, 27, 0), (0, 4, 13, 0, 0, 0), (6, 0, 14, 29, 0, 5), (0, 0, 17, 1, 0, 0), (4, 6, 18, 23, 20, 0), (0, 4, 21, 0, 0, 0), (6, 3, 22, 12, 0, 0), (8, 0, 25, 119, 54, 1), (0, 0, 28, 100, 0, 1), (1, 10, 30, 0, 0, 0), (0, 4, 31, 0, 0, 0), (6, 4, 32, 37, 0, 4), (6, 0, 35, 54, 2, 2), (4, 9, 38, 13, 25, 0), (0, 4, 41, 0, 0, 0), (6, 3, 42, 12, 0, 0), (0, 2, 45, 0, 1, 1), (0, 0, 46, -5, 0, 1), (8, 0, 48, 116, 50, 3), (0, 8, 51, 1, 1, 0), (4, 12, 54, -52, 2, 0), (9, 4, 57, 0, 0, 0)]
def kX0_bestFor : List OP := [(0, 0, 0, -2, 0, 1), (0, 5, 2, 0, 2, 2), (0, 0, 3, -1, 0, 0), (0, 5, 4, 0, 3, 3), (0, 0, 5, 0, 0, 0), (0, 5, 6, 0, 4, 4), (0, 2, 8, 0, 4, 4), (0, 4, 10, 0, 0, 0), (6, 4, 11, 37, 0, 4), (6, 0, 14, 57, 2, 0), (4, 9, 17, 43, 31, 0), (0, 4, 20, 0, 0, 0), (6, 3, 21, 12, 0, 0), (0, 2, 24, 0, 1, 1), (0, 2, 25, 0, 4, 4), (8, 0, 27, 123, 47, 3), (4, 0, 30, 24, 29, 0), (0, 4, 33, 0, 0, 0), (0, 2, 34, 0, 1, 1), (0, 2, 35, 0, 4, 4), (8, 0, 37, 126, 9, 3), (0, 5, 40, 0, 5, 4), (0, 2, 42, 0, 5, 4), (0, 2, 44, 0, 3, 3), (4, 11, 45, 9, 29, 0), (0, 2, 48, 0, 5, 4), (0, 5, 50, 0, 3, 3), (0, 2, 51, 0, 4, 4), (0, 5, 53, 0, 2, 2), (0, 8, 54, 1, 4, 0), (4, 12, 57, -49, 6, 0), (0, 2, 60, 0, 2, 2), (9, 0, 61, 0, 0, 0)]
def kX0_gives : List OP := [(0, 4, 0, 0, 0, 0), (0, 0, 1, 2, 0, 0), (0, 2, 2, 0, 1, 1), (0, 2, 3, 0, 2, 2), (8, 0, 4, 103, 11, 4), (0, 1, 7, 0, 0, 0), (2, 7, 8, 0, 0, 0), (4, 0, 9, 7, 10, 0), (0, 0, 12, 1, 0, 0), (4, 12, 13, 4, 11, 0), (0, 0, 16, 0, 0, 0), (9, 1, 17, 0, 0, 0)]
def kX0_esteem : List OP := [(0, 4, 0, 0, 0, 0), (0, 2, 1, 0, 1, 1), (0, 2, 2, 0, 2, 2), (0, 4, 3, 0, 0, 0), (6, 4, 4, 37, 0, 4), (0, 2, 7, 0, 1, 1), (0, 2, 8, 0, 2, 2), (8, 0, 9, 130, 24, 3), (0, 0, 12, 0, 0, 0), (8, 0, 13, 133, 12, 5), (0, 4, 16, 0, 0, 0), (6, 4, 17, 37, 0, 4), (6, 2, 20, 137, 2, 9), (0, 0, 23, 0, 0, 0), (5, 3, 24, 0, 0, 0), (0, 4, 25, 0, 0, 0), (6, 2, 26, 22, 0, 2), (0, 4, 29, 0, 0, 0), (6, 2, 30, 26, 0, 3), (8, 0, 33, 141, 30, 3), (0, 6, 36, 0, 3, 3), (0, 3, 37, 0, 3, 3), (0, 1, 38, -9223372036854775808, 107, 2), (2, 7, 41, 0, 0, 0), (4, 1, 42, 43, 48, 0), (0, 4, 45, 0, 0, 0), (6, 3, 46, 12, 0, 0), (6, 2, 49, 147, 5, 2), (0, 2, 52, 0, 2, 2), (5, 0, 53, 0, 0, 0), (0, 4, 54, 0, 0, 0), (6, 2, 55, 18, 0, 1), (0, 2, 58, 0, 1, 1), (5, 0, 59, 0, 0, 0), (0, 4, 60, 0, 0, 0), (6, 3, 61, 12, 0, 0), (6, 2, 64, 150, 5, 3), (0, 2, 67, 0, 2, 2), (5, 0, 68, 0, 0, 0), (1, 2, 69, 0, 0, 0), (1, 1, 70, 0, 0, 0), (0, 5, 71, 0, 5, 4), (0, 2, 73, 0, 5, 4), (4, 3, 75, 7, 46, 0), (0, 0, 78, 0, 0, 0), (4, 12, 79, 5, 47, 0), (0, 2, 82, 0, 5, 4), (9, 0, 84, 0, 0, 0), (0, 3, 85, 0, 3, 3), (0, 1, 86, 0, 0, 0), (2, 7, 87, 0, 0, 0), (4, 3, 88, 7, 54, 0), (0, 0, 91, 0, 0, 0), (4, 12, 92, 19, 62, 0), (0, 3, 95, 0, 3, 3), (0, 1, 96, 9999, 153, 2), (2, 7, 99, 0, 0, 0), (4, 5, 100, 9, 60, 0), (0, 0, 103, 9999, 0, 2), (4, 12, 106, 5, 62, 0), (0, 3, 109, 0, 3, 3), (1, 13, 110, 0, 0, 0), (9, 0, 111, 0, 0, 0)]
def kX0_judgeLaw : List OP := [(0, 4, 0, 0, 0, 0), (0, 2, 1, 0, 1, 1), (0, 2, 2, 0, 2, 2), (0, 4, 3, 0, 0, 0), (6, 4, 4, 37, 0, 4), (0, 2, 7, 0, 1, 1), (0, 2, 8, 0, 2, 2), (8, 0, 9, 130, 24, 3), (0, 0, 12, 0, 0, 0), (8, 0, 13, 133, 12, 5), (0, 4, 16, 0, 0, 0), (6, 4, 17, 37, 0, 4), (6, 2, 20, 137, 2, 9), (0, 0, 23, 0, 0, 0), (5, 3, 24, 0, 0, 0), (0, 4, 25, 0, 0, 0), (6, 2, 26, 22, 0, 2), (0, 4, 29, 0, 0, 0), (6, 2, 30, 26, 0, 3), (8, 0, 33, 141, 30, 3), (9, 2, 36, 0, 0, 0)]
def kX0_ownLaw : List OP := [(0, 4, 0, 0, 0, 0), (0, 2, 1, 0, 2, 2), (0, 2, 2, 0, 2, 2), (0, 0, 3, 0, 0, 0), (0, 2, 4, 0, 3, 3), (8, 0, 5, 133, 12, 5), (0, 4, 8, 0, 0, 0), (6, 4, 9, 37, 0, 4), (6, 2, 12, 137, 2, 9), (0, 2, 15, 0, 1, 1), (5, 3, 16, 0, 0, 0), (0, 4, 17, 0, 0, 0), (6, 2, 18, 22, 0, 2), (0, 4, 21, 0, 0, 0), (6, 2, 22, 26, 0, 3), (8, 0, 25, 141, 30, 3), (9, 2, 28, 0, 0, 0)]
def kX0_tell : List OP := [(0, 4, 0, 0, 0, 0), (6, 2, 1, 22, 0, 2), (0, 0, 4, 0, 0, 0), (0, 4, 5, 0, 0, 0), (6, 3, 6, 12, 0, 0), (6, 2, 9, 147, 5, 2), (0, 2, 12, 0, 2, 2), (5, 0, 13, 0, 0, 0), (1, 12, 14, 0, 0, 0), (5, 6, 15, 0, 0, 0), (0, 4, 16, 0, 0, 0), (6, 2, 17, 22, 0, 2), (0, 0, 20, 1, 0, 0), (0, 4, 21, 0, 0, 0), (6, 3, 22, 12, 0, 0), (6, 2, 25, 147, 5, 2), (0, 2, 28, 0, 1, 1), (5, 0, 29, 0, 0, 0), (1, 12, 30, 0, 0, 0), (5, 6, 31, 0, 0, 0), (0, 4, 32, 0, 0, 0), (6, 2, 33, 22, 0, 2), (0, 0, 36, 2, 0, 0), (0, 4, 37, 0, 0, 0), (6, 2, 38, 18, 0, 1), (0, 2, 41, 0, 1, 1), (5, 0, 42, 0, 0, 0), (1, 12, 43, 0, 0, 0), (5, 6, 44, 0, 0, 0), (0, 4, 45, 0, 0, 0), (6, 2, 46, 22, 0, 2), (0, 0, 49, 3, 0, 0), (0, 2, 50, 0, 3, 3), (1, 12, 51, 0, 0, 0), (5, 6, 52, 0, 0, 0), (0, 4, 53, 0, 0, 0), (6, 2, 54, 22, 0, 2), (0, 0, 57, 4, 0, 0), (0, 4, 58, 0, 0, 0), (6, 3, 59, 12, 0, 0), (6, 2, 62, 150, 5, 3), (0, 2, 65, 0, 2, 2), (5, 0, 66, 0, 0, 0), (1, 12, 67, 0, 0, 0), (5, 6, 68, 0, 0, 0), (0, 4, 69, 0, 0, 0), (6, 2, 70, 22, 0, 2), (0, 0, 73, 5, 0, 0), (0, 2, 74, 0, 4, 4), (1, 12, 76, 0, 0, 0), (5, 6, 77, 0, 0, 0), (0, 4, 78, 0, 0, 0), (6, 2, 79, 22, 0, 2), (0, 0, 82, 6, 0, 1), (0, 4, 84, 0, 0, 0), (6, 3, 85, 12, 0, 0), (6, 0, 88, 101, 5, 0), (1, 12, 91, 0, 0, 0), (5, 6, 92, 0, 0, 0), (9, 4, 93, 0, 0, 0)]
def kX1_isEmpty : List OP := [(0, 4, 0, 0, 0, 0), (6, 0, 1, 30, 1, 6), (4, 1, 4, 7, 5, 0), (0, 0, 7, 1, 0, 0), (4, 12, 8, 4, 6, 0), (0, 0, 11, 0, 0, 0), (9, 1, 12, 0, 0, 0)]
def kX1_many : List OP := [(0, 4, 0, 0, 0, 0), (6, 0, 1, 30, 1, 6), (9, 0, 4, 0, 0, 0)]
def kX1_forget : List OP := [(0, 4, 0, 0, 0, 0), (0, 0, 1, 0, 0, 0), (7, 0, 2, 30, 1, 6), (9, 4, 5, 0, 0, 0)]
def kX1_noteShow : List OP := [(0, 4, 0, 0, 0, 0), (0, 0, 1, 0, 0, 0), (0, 2, 2, 0, 1, 1), (0, 2, 3, 0, 2, 2), (8, 0, 4, 34, 19, 4), (9, 4, 7, 0, 0, 0)]
def kX1_noteRaise : List OP := [(0, 4, 0, 0, 0, 0), (0, 0, 1, 1, 0, 0), (0, 2, 2, 0, 1, 1), (0, 2, 3, 0, 2, 2), (8, 0, 4, 34, 19, 4), (9, 4, 7, 0, 0, 0)]
def kX1_noteHand : List OP := [(0, 4, 0, 0, 0, 0), (0, 0, 1, 2, 0, 0), (0, 2, 2, 0, 2, 2), (0, 4, 3, 0, 3, 3), (6, 2, 4, 38, 5, 3), (0, 2, 7, 0, 2, 2), (5, 0, 8, 0, 0, 0), (8, 0, 9, 34, 19, 4), (0, 4, 12, 0, 0, 0), (6, 2, 13, 21, 1, 3), (0, 4, 16, 0, 0, 0), (6, 0, 17, 30, 1, 6), (0, 0, 20, 1, 0, 0), (1, 1, 21, 0, 0, 0), (0, 2, 22, 0, 1, 1), (5, 4, 23, 0, 0, 0), (0, 4, 24, 0, 0, 0), (6, 2, 25, 24, 1, 4), (0, 4, 28, 0, 0, 0), (6, 0, 29, 30, 1, 6), (0, 0, 32, 1, 0, 0), (1, 1, 33, 0, 0, 0), (0, 4, 34, 0, 3, 3), (6, 2, 35, 43, 5, 5), (0, 2, 38, 0, 1, 1), (5, 0, 39, 0, 0, 0), (5, 4, 40, 0, 0, 0), (0, 4, 41, 0, 0, 0), (6, 2, 42, 27, 1, 5), (0, 4, 45, 0, 0, 0), (6, 0, 46, 30, 1, 6), (0, 0, 49, 1, 0, 0), (1, 1, 50, 0, 0, 0), (0, 4, 51, 0, 3, 3), (6, 2, 52, 44, 5, 6), (0, 2, 55, 0, 1, 1), (5, 0, 56, 0, 0, 0), (5, 4, 57, 0, 0, 0), (9, 4, 58, 0, 0, 0)]
def kX1_add : List OP := [(0, 4, 0, 0, 0, 0), (6, 0, 1, 30, 1, 6), (0, 0, 4, 20, 0, 1), (4, 8, 6, 7, 6, 0), (0, 4, 9, 0, 0, 0), (8, 0, 10, 45, 20, 1), (0, 4, 13, 0, 0, 0), (6, 2, 14, 11, 1, 0), (0, 4, 17, 0, 0, 0), (6, 0, 18, 30, 1, 6), (0, 2, 21, 0, 1, 1), (5, 4, 22, 0, 0, 0), (0, 4, 23, 0, 0, 0), (6, 2, 24, 15, 1, 1), (0, 4, 27, 0, 0, 0), (6, 0, 28, 30, 1, 6), (0, 2, 31, 0, 2, 2), (5, 4, 32, 0, 0, 0), (0, 4, 33, 0, 0, 0), (6, 2, 34, 18, 1, 2), (0, 4, 37, 0, 0, 0), (6, 0, 38, 30, 1, 6), (0, 2, 41, 0, 3, 3), (5, 4, 42, 0, 0, 0), (0, 4, 43, 0, 0, 0), (3, 0, 44, 0, 0, 0), (6, 0, 45, 30, 1, 6), (0, 0, 48, 1, 0, 0), (1, 0, 49, 0, 0, 0), (7, 0, 50, 30, 1, 6), (9, 4, 53, 0, 0, 0)]
def kX1_dropFirst : List OP := [(0, 4, 0, 0, 0, 0), (6, 2, 1, 11, 1, 0), (0, 0, 4, 1, 0, 0), (0, 4, 5, 0, 0, 0), (6, 2, 6, 11, 1, 0), (0, 0, 9, 0, 0, 0), (0, 0, 10, 19, 0, 1), (8, 4, 12, 48, 0, 5), (0, 4, 15, 0, 0, 0), (6, 2, 16, 15, 1, 1), (0, 0, 19, 1, 0, 0), (0, 4, 20, 0, 0, 0), (6, 2, 21, 15, 1, 1), (0, 0, 24, 0, 0, 0), (0, 0, 25, 19, 0, 1), (8, 4, 27, 48, 0, 5), (0, 4, 30, 0, 0, 0), (6, 2, 31, 18, 1, 2), (0, 0, 34, 1, 0, 0), (0, 4, 35, 0, 0, 0), (6, 2, 36, 18, 1, 2), (0, 0, 39, 0, 0, 0), (0, 0, 40, 19, 0, 1), (8, 4, 42, 48, 0, 5), (0, 4, 45, 0, 0, 0), (6, 2, 46, 21, 1, 3), (0, 0, 49, 1, 0, 0), (0, 4, 50, 0, 0, 0), (6, 2, 51, 21, 1, 3), (0, 0, 54, 0, 0, 0), (0, 0, 55, 19, 0, 1), (8, 4, 57, 48, 0, 5), (0, 4, 60, 0, 0, 0), (6, 2, 61, 24, 1, 4), (0, 0, 64, 1, 0, 0), (0, 4, 65, 0, 0, 0), (6, 2, 66, 24, 1, 4), (0, 0, 69, 0, 0, 0), (0, 0, 70, 19, 0, 1), (8, 4, 72, 48, 0, 5), (0, 4, 75, 0, 0, 0), (6, 2, 76, 27, 1, 5), (0, 0, 79, 1, 0, 0), (0, 4, 80, 0, 0, 0), (6, 2, 81, 27, 1, 5), (0, 0, 84, 0, 0, 0), (0, 0, 85, 19, 0, 1), (8, 4, 87, 48, 0, 5), (0, 4, 90, 0, 0, 0), (0, 0, 91, 19, 0, 1), (7, 0, 93, 30, 1, 6), (9, 4, 96, 0, 0, 0)]
def kX1_takeBack : List OP := [(0, 4, 0, 0, 0, 0), (6, 0, 1, 30, 1, 6), (4, 1, 4, 5, 5, 0), (0, 0, 7, -1, 0, 0), (9, 0, 8, 0, 0, 0), (0, 4, 9, 0, 0, 0), (3, 0, 10, 0, 0, 0), (6, 0, 11, 30, 1, 6), (0, 0, 14, 1, 0, 0), (1, 1, 15, 0, 0, 0), (7, 0, 16, 30, 1, 6), (0, 4, 19, 0, 0, 0), (6, 2, 20, 15, 1, 1), (0, 4, 23, 0, 0, 0), (6, 0, 24, 30, 1, 6), (5, 0, 27, 0, 0, 0), (0, 5, 28, 0, 2, 2), (0, 4, 29, 0, 0, 0), (6, 2, 30, 11, 1, 0), (0, 4, 33, 0, 0, 0), (6, 0, 34, 30, 1, 6), (5, 0, 37, 0, 0, 0), (4, 1, 38, 21, 33, 0), (0, 4, 41, 0, 1, 1), (6, 2, 42, 54, 5, 4), (0, 2, 45, 0, 2, 2), (0, 4, 46, 0, 0, 0), (6, 2, 47, 18, 1, 2), (0, 4, 50, 0, 0, 0), (6, 0, 51, 30, 1, 6), (5, 0, 54, 0, 0, 0), (5, 4, 55, 0, 0, 0), (4, 12, 56, 113, 97, 0), (0, 4, 59, 0, 0, 0), (6, 2, 60, 11, 1, 0), (0, 4, 63, 0, 0, 0), (6, 0, 64, 30, 1, 6), (5, 0, 67, 0, 0, 0), (0, 0, 68, 1, 0, 0), (4, 7, 69, 21, 50, 0), (0, 4, 72, 0, 1, 1), (6, 2, 73, 57, 5, 2), (0, 2, 76, 0, 2, 2), (0, 4, 77, 0, 0, 0), (6, 2, 78, 18, 1, 2), (0, 4, 81, 0, 0, 0), (6, 0, 82, 30, 1, 6), (5, 0, 85, 0, 0, 0), (5, 4, 86, 0, 0, 0), (4, 12, 87, 82, 97, 0), (0, 4, 90, 0, 1, 1), (6, 2, 91, 38, 5, 3), (0, 2, 94, 0, 2, 2), (0, 4, 95, 0, 0, 0), (6, 2, 96, 18, 1, 2), (0, 4, 99, 0, 0, 0), (6, 0, 100, 30, 1, 6), (5, 0, 103, 0, 0, 0), (5, 4, 104, 0, 0, 0), (0, 4, 105, 0, 1, 1), (6, 2, 106, 43, 5, 5), (0, 4, 109, 0, 0, 0), (6, 2, 110, 21, 1, 3), (0, 4, 113, 0, 0, 0), (6, 0, 114, 30, 1, 6), (5, 0, 117, 0, 0, 0), (0, 4, 118, 0, 0, 0), (6, 2, 119, 24, 1, 4), (0, 4, 122, 0, 0, 0), (6, 0, 123, 30, 1, 6), (5, 0, 126, 0, 0, 0), (5, 4, 127, 0, 0, 0), (0, 4, 128, 0, 1, 1), (6, 2, 129, 44, 5, 6), (0, 4, 132, 0, 0, 0), (6, 2, 133, 21, 1, 3), (0, 4, 136, 0, 0, 0), (6, 0, 137, 30, 1, 6), (5, 0, 140, 0, 0, 0), (0, 4, 141, 0, 0, 0), (6, 2, 142, 27, 1, 5), (0, 4, 145, 0, 0, 0), (6, 0, 146, 30, 1, 6), (5, 0, 149, 0, 0, 0), (5, 4, 150, 0, 0, 0), (0, 4, 151, 0, 1, 1), (6, 2, 152, 60, 5, 7), (0, 4, 155, 0, 0, 0), (6, 2, 156, 21, 1, 3), (0, 4, 159, 0, 0, 0), (6, 0, 160, 30, 1, 6), (5, 0, 163, 0, 0, 0), (3, 1, 164, 0, 0, 0), (5, 0, 165, 0, 0, 0), (0, 0, 166, 1, 0, 0), (1, 1, 167, 0, 0, 0), (5, 4, 168, 0, 0, 0), (0, 4, 169, 0, 0, 0), (6, 0, 170, 30, 1, 6), (9, 0, 173, 0, 0, 0)]
def kX2_clear : List OP := [(0, 4, 0, 0, 0, 0), (0, 0, 1, 0, 0, 0), (7, 0, 2, 9, 2, 0), (0, 4, 5, 0, 0, 0), (0, 0, 6, 0, 0, 0), (7, 0, 7, 15, 2, 1), (0, 4, 10, 0, 0, 0), (0, 0, 11, 0, 0, 0), (7, 0, 12, 18, 2, 2), (0, 4, 15, 0, 0, 0), (0, 0, 16, 0, 0, 0), (7, 0, 17, 21, 2, 3), (0, 4, 20, 0, 0, 0), (0, 0, 21, 0, 0, 0), (7, 0, 22, 24, 2, 4), (0, 0, 25, 0, 0, 0), (0, 5, 26, 0, 1, 1), (0, 2, 27, 0, 1, 1), (0, 0, 28, 3, 0, 0), (4, 9, 29, 18, 27, 0), (0, 4, 32, 0, 0, 0), (6, 2, 33, 43, 2, 9), (0, 2, 36, 0, 1, 1), (5, 3, 37, 0, 0, 0), (8, 0, 38, 54, 26, 1), (0, 8, 41, 1, 1, 0), (4, 12, 44, -17, 17, 0), (0, 4, 47, 0, 0, 0), (6, 3, 48, 50, 2, 10), (8, 0, 51, 57, 45, 1), (9, 4, 54, 0, 0, 0)]
def kX2_numberOf : List OP := [(0, 0, 0, 0, 0, 0), (0, 5, 1, 0, 2, 2), (0, 2, 2, 0, 2, 2), (0, 4, 3, 0, 0, 0), (6, 0, 4, 9, 2, 0), (4, 9, 7, 21, 16, 0), (0, 4, 10, 0, 0, 0), (6, 2, 11, 27, 2, 5), (0, 2, 14, 0, 2, 2), (5, 0, 15, 0, 0, 0), (0, 2, 16, 0, 1, 1), (4, 7, 17, 5, 14, 0), (0, 2, 20, 0, 2, 2), (9, 0, 21, 0, 0, 0), (0, 8, 22, 1, 2, 0), (4, 12, 25, -23, 2, 0), (0, 0, 28, -1, 0, 0), (9, 0, 29, 0, 0, 0)]
def kX2_far : List OP := [(0, 4, 0, 0, 0, 0), (6, 2, 1, 37, 2, 8), (0, 2, 4, 0, 1, 1), (5, 0, 5, 0, 0, 0), (0, 4, 6, 0, 0, 0), (6, 2, 7, 37, 2, 8), (0, 2, 10, 0, 2, 2), (5, 0, 11, 0, 0, 0), (1, 1, 12, 0, 0, 0), (0, 5, 13, 0, 3, 3), (0, 2, 14, 0, 3, 3), (4, 3, 15, 8, 15, 0), (0, 2, 18, 0, 3, 3), (1, 11, 19, 0, 0, 0), (4, 12, 20, 4, 16, 0), (0, 2, 23, 0, 3, 3), (9, 0, 24, 0, 0, 0)]
def kX2_wayFrom : List OP := [(0, 0, 0, 0, 0, 0), (0, 5, 1, 0, 3, 3), (0, 0, 2, 0, 0, 0), (0, 5, 3, 0, 4, 4), (0, 0, 5, 0, 0, 0), (0, 5, 6, 0, 5, 4), (0, 2, 8, 0, 5, 4), (0, 4, 10, 0, 0, 0), (6, 0, 11, 9, 2, 0), (4, 9, 14, 69, 44, 0), (0, 2, 17, 0, 2, 2), (0, 2, 18, 0, 5, 4), (8, 3, 20, 58, 157, 2), (4, 0, 23, 20, 24, 0), (0, 4, 26, 0, 0, 0), (6, 2, 27, 37, 2, 8), (0, 2, 30, 0, 5, 4), (5, 0, 32, 0, 0, 0), (0, 4, 33, 0, 0, 0), (6, 2, 34, 37, 2, 8), (0, 2, 37, 0, 1, 1), (5, 0, 38, 0, 0, 0), (1, 1, 39, 0, 0, 0), (4, 12, 40, 4, 25, 0), (0, 0, 43, 0, 0, 0), (0, 5, 44, 0, 6, 4), (0, 2, 46, 0, 6, 4), (1, 11, 48, 0, 0, 0), (0, 2, 49, 0, 3, 3), (4, 11, 50, 9, 33, 0), (0, 2, 53, 0, 6, 4), (1, 11, 55, 0, 0, 0), (4, 12, 56, 4, 34, 0), (0, 2, 59, 0, 3, 3), (0, 5, 60, 0, 3, 3), (0, 2, 61, 0, 6, 4), (0, 2, 63, 0, 4, 4), (4, 11, 65, 8, 40, 0), (0, 2, 68, 0, 6, 4), (4, 12, 70, 5, 41, 0), (0, 2, 73, 0, 4, 4), (0, 5, 75, 0, 4, 4), (0, 8, 77, 1, 5, 0), (4, 12, 80, -72, 6, 0), (0, 2, 83, 0, 3, 3), (0, 2, 84, 0, 4, 4), (1, 0, 86, 0, 0, 0), (0, 2, 87, 0, 3, 3), (0, 2, 88, 0, 4, 4), (4, 9, 90, 7, 52, 0), (0, 2, 93, 0, 3, 3), (4, 12, 94, 5, 53, 0), (0, 2, 97, 0, 4, 4), (1, 0, 99, 0, 0, 0), (9, 0, 100, 0, 0, 0)]
def kX3_clear : List OP := [(0, 4, 0, 0, 0, 0), (0, 0, 1, 0, 0, 0), (7, 0, 2, 15, 3, 1), (9, 4, 5, 0, 0, 0)]
def kX3_isTold : List OP := [(0, 4, 0, 0, 0, 0), (6, 0, 1, 15, 3, 1), (4, 5, 4, 7, 5, 0), (0, 0, 7, 1, 0, 0), (4, 12, 8, 4, 6, 0), (0, 0, 11, 0, 0, 0), (9, 1, 12, 0, 0, 0)]
def kX3_add : List OP := [(0, 4, 0, 0, 0, 0), (6, 0, 1, 15, 3, 1), (0, 0, 4, 64, 0, 1), (4, 9, 6, 23, 16, 0), (0, 4, 9, 0, 0, 0), (6, 2, 10, 9, 3, 0), (0, 4, 13, 0, 0, 0), (6, 0, 14, 15, 3, 1), (0, 2, 17, 0, 1, 1), (5, 4, 18, 0, 0, 0), (0, 4, 19, 0, 0, 0), (3, 0, 20, 0, 0, 0), (6, 0, 21, 15, 3, 1), (0, 0, 24, 1, 0, 0), (1, 0, 25, 0, 0, 0), (7, 0, 26, 15, 3, 1), (9, 4, 29, 0, 0, 0)]
def kX3_binding : List OP := [(0, 2, 0, 0, 0, 0), (0, 0, 1, 2, 0, 0), (4, 10, 2, 5, 5, 0), (0, 2, 5, 0, 0, 0), (9, 0, 6, 0, 0, 0), (0, 2, 7, 0, 0, 0), (0, 0, 8, 8, 0, 1), (4, 10, 10, 5, 10, 0), (0, 0, 13, 3, 0, 0), (9, 0, 14, 0, 0, 0), (0, 2, 15, 0, 0, 0), (0, 0, 16, 10, 0, 1), (4, 10, 18, 7, 15, 0), (0, 0, 21, 4, 0, 0), (4, 12, 22, 4, 16, 0), (0, 0, 25, 5, 0, 0), (9, 0, 26, 0, 0, 0)]
def kX3_worked : List OP := [(0, 0, 0, 0, 0, 0), (0, 5, 1, 0, 3, 3), (0, 0, 2, 0, 0, 0), (0, 5, 3, 0, 4, 4), (0, 2, 5, 0, 4, 4), (0, 4, 7, 0, 0, 0), (6, 0, 8, 15, 3, 1), (4, 9, 11, 175, 105, 0), (0, 4, 14, 0, 0, 0), (6, 2, 15, 9, 3, 0), (0, 2, 18, 0, 4, 4), (5, 0, 20, 0, 0, 0), (0, 5, 21, 0, 5, 4), (0, 2, 23, 0, 5, 4), (0, 0, 25, 20000, 0, 2), (4, 9, 28, 52, 43, 0), (0, 2, 31, 0, 3, 3), (0, 4, 32, 0, 2, 2), (5, 7, 33, 0, 0, 0), (4, 8, 34, 7, 22, 0), (0, 1, 37, -9223372036854775808, 19, 2), (9, 2, 40, 0, 0, 0), (0, 2, 41, 0, 5, 4), (0, 0, 43, 10000, 0, 2), (1, 1, 46, 0, 0, 0), (0, 5, 47, 0, 6, 4), (0, 4, 49, 0, 2, 2), (0, 2, 50, 0, 3, 3), (0, 2, 51, 0, 6, 4), (4, 2, 53, 17, 38, 0), (0, 2, 56, 0, 6, 4), (0, 4, 58, 0, 1, 1), (5, 7, 59, 0, 0, 0), (4, 9, 60, 10, 38, 0), (0, 4, 63, 0, 1, 1), (0, 2, 64, 0, 6, 4), (5, 2, 66, 0, 0, 0), (4, 12, 67, 6, 40, 0), (0, 2, 70, 0, 5, 4), (1, 12, 72, 0, 0, 0), (5, 6, 73, 0, 0, 0), (0, 8, 74, 1, 3, 0), (4, 12, 77, 103, 103, 0), (0, 2, 80, 0, 5, 4), (0, 0, 82, 20002, 0, 2), (4, 7, 85, 35, 68, 0), (0, 2, 88, 0, 3, 3), (0, 0, 89, 1, 0, 0), (4, 9, 90, 7, 51, 0), (0, 1, 93, -9223372036854775808, 19, 2), (9, 2, 96, 0, 0, 0), (0, 4, 97, 0, 2, 2), (0, 2, 98, 0, 3, 3), (0, 0, 99, 1, 0, 0), (1, 1, 100, 0, 0, 0), (0, 4, 101, 0, 2, 2), (0, 2, 102, 0, 3, 3), (0, 0, 103, 1, 0, 0), (1, 1, 104, 0, 0, 0), (5, 2, 105, 0, 0, 0), (0, 1, 106, 0, 0, 0), (2, 7, 107, 0, 0, 0), (4, 1, 108, 7, 65, 0), (0, 1, 111, 1, 0, 1), (4, 12, 112, 4, 66, 0), (0, 1, 115, 0, 0, 0), (5, 6, 116, 0, 0, 0), (4, 12, 117, 63, 103, 0), (0, 2, 120, 0, 3, 3), (0, 0, 121, 2, 0, 0), (4, 9, 122, 7, 73, 0), (0, 1, 125, -9223372036854775808, 19, 2), (9, 2, 128, 0, 0, 0), (0, 8, 129, -1, 3, 0), (0, 2, 132, 0, 5, 4), (0, 0, 134, 20000, 0, 2), (1, 1, 137, 0, 0, 0), (0, 4, 138, 0, 2, 2), (0, 2, 139, 0, 3, 3), (0, 0, 140, 1, 0, 0), (1, 1, 141, 0, 0, 0), (5, 2, 142, 0, 0, 0), (0, 4, 143, 0, 2, 2), (0, 2, 144, 0, 3, 3), (5, 2, 145, 0, 0, 0), (8, 1, 146, 21, 31, 3), (0, 6, 149, 0, 6, 4), (0, 3, 151, 0, 6, 4), (0, 1, 153, 1000000000000, 25, 2), (2, 7, 156, 0, 0, 0), (4, 4, 157, 12, 95, 0), (0, 3, 160, 0, 6, 4), (0, 1, 162, -1000000000000, 27, 2), (2, 7, 165, 0, 0, 0), (4, 3, 166, 7, 97, 0), (0, 1, 169, -9223372036854775808, 19, 2), (9, 2, 172, 0, 0, 0), (0, 4, 173, 0, 2, 2), (0, 2, 174, 0, 3, 3), (0, 0, 175, 1, 0, 0), (1, 1, 176, 0, 0, 0), (0, 3, 177, 0, 6, 4), (5, 6, 179, 0, 0, 0), (0, 8, 180, 1, 4, 0), (4, 12, 183, -178, 4, 0), (0, 2, 186, 0, 3, 3), (0, 0, 187, 1, 0, 0), (4, 7, 188, 9, 112, 0), (0, 4, 191, 0, 2, 2), (0, 0, 192, 0, 0, 0), (5, 2, 193, 0, 0, 0), (4, 12, 194, 6, 113, 0), (0, 1, 197, -9223372036854775808, 19, 2), (9, 2, 200, 0, 0, 0)]
def kX3_joined : List OP := [(0, 2, 0, 0, 0, 0), (4, 13, 1, 0, 126, 0), (0, 3, 68, 0, 1, 1), (0, 1, 69, 0, 0, 0), (2, 7, 70, 0, 0, 0), (4, 1, 71, 9, 10, 0), (0, 3, 74, 0, 3, 3), (0, 1, 75, 0, 0, 0), (2, 7, 76, 0, 0, 0), (4, 0, 77, 7, 12, 0), (0, 1, 80, 1, 0, 1), (4, 12, 81, 4, 13, 0), (0, 1, 84, 0, 0, 0), (9, 2, 85, 0, 0, 0), (0, 3, 86, 0, 1, 1), (0, 1, 87, 0, 0, 0), (2, 7, 88, 0, 0, 0), (4, 0, 89, 13, 24, 0), (0, 3, 92, 0, 3, 3), (0, 1, 93, 0, 0, 0), (2, 7, 94, 0, 0, 0), (4, 0, 95, 7, 24, 0), (0, 1, 98, 1, 0, 1), (4, 12, 99, 4, 25, 0), (0, 1, 102, 0, 0, 0), (9, 2, 103, 0, 0, 0), (0, 3, 104, 0, 1, 1), (0, 3, 105, 0, 3, 3), (2, 7, 106, 0, 0, 0), (4, 3, 107, 7, 32, 0), (0, 1, 110, 1, 0, 1), (4, 12, 111, 4, 33, 0), (0, 1, 114, 0, 0, 0), (9, 2, 115, 0, 0, 0), (0, 3, 116, 0, 1, 1), (0, 3, 117, 0, 3, 3), (2, 7, 118, 0, 0, 0), (4, 4, 119, 7, 40, 0), (0, 1, 122, 1, 0, 1), (4, 12, 123, 4, 41, 0), (0, 1, 126, 0, 0, 0), (9, 2, 127, 0, 0, 0), (0, 3, 128, 0, 1, 1), (0, 3, 129, 0, 3, 3), (2, 7, 130, 0, 0, 0), (4, 1, 131, 7, 48, 0), (0, 1, 134, 1, 0, 1), (4, 12, 135, 4, 49, 0), (0, 1, 138, 0, 0, 0), (9, 2, 139, 0, 0, 0), (0, 3, 140, 0, 1, 1), (0, 3, 141, 0, 3, 3), (2, 7, 142, 0, 0, 0), (4, 0, 143, 7, 56, 0), (0, 1, 146, 1, 0, 1), (4, 12, 147, 4, 57, 0), (0, 1, 150, 0, 0, 0), (9, 2, 151, 0, 0, 0), (0, 3, 152, 0, 1, 1), (0, 3, 153, 0, 3, 3), (2, 7, 154, 0, 0, 0), (4, 2, 155, 7, 64, 0), (0, 1, 158, 1, 0, 1), (4, 12, 159, 4, 65, 0), (0, 1, 162, 0, 0, 0), (9, 2, 163, 0, 0, 0), (0, 3, 164, 0, 1, 1), (0, 3, 165, 0, 3, 3), (2, 7, 166, 0, 0, 0), (4, 5, 167, 7, 72, 0), (0, 1, 170, 1, 0, 1), (4, 12, 171, 4, 73, 0), (0, 1, 174, 0, 0, 0), (9, 2, 175, 0, 0, 0), (0, 3, 176, 0, 1, 1), (0, 3, 177, 0, 3, 3), (2, 0, 178, 0, 0, 0), (9, 2, 179, 0, 0, 0), (0, 3, 180, 0, 1, 1), (0, 3, 181, 0, 3, 3), (2, 1, 182, 0, 0, 0), (9, 2, 183, 0, 0, 0), (0, 3, 184, 0, 1, 1), (0, 1, 185, 0, 0, 0), (2, 7, 186, 0, 0, 0), (4, 3, 187, 8, 89, 0), (0, 3, 190, 0, 1, 1), (2, 6, 191, 0, 0, 0), (4, 12, 192, 4, 90, 0), (0, 3, 195, 0, 1, 1), (0, 6, 196, 0, 5, 4), (0, 3, 198, 0, 3, 3), (0, 1, 199, 0, 0, 0), (2, 7, 200, 0, 0, 0), (4, 3, 201, 8, 98, 0), (0, 3, 204, 0, 3, 3), (2, 6, 205, 0, 0, 0), (4, 12, 206, 4, 99, 0), (0, 3, 209, 0, 3, 3), (0, 6, 210, 0, 7, 4), (0, 3, 212, 0, 5, 4), (0, 1, 214, 0, 0, 0), (2, 7, 215, 0, 0, 0), (4, 0, 216, 21, 112, 0), (0, 3, 219, 0, 7, 4), (0, 1, 221, 1000000000000, 25, 2), (0, 3, 224, 0, 5, 4), (2, 4, 226, 0, 0, 0), (2, 7, 227, 0, 0, 0), (4, 5, 228, 9, 112, 0), (0, 1, 231, -9223372036854775808, 19, 2), (4, 12, 234, 6, 115, 0), (0, 3, 237, 0, 1, 1), (0, 3, 238, 0, 3, 3), (2, 2, 239, 0, 0, 0), (9, 2, 240, 0, 0, 0), (0, 3, 241, 0, 3, 3), (0, 1, 242, 0, 0, 0), (2, 7, 243, 0, 0, 0), (4, 1, 244, 9, 122, 0), (0, 1, 247, -9223372036854775808, 19, 2), (4, 12, 250, 6, 125, 0), (0, 3, 253, 0, 1, 1), (0, 3, 254, 0, 3, 3), (2, 4, 255, 0, 0, 0), (9, 2, 256, 0, 0, 0), (0, 1, 257, -9223372036854775808, 19, 2), (9, 2, 260, 0, 0, 0)]
def kX4_told : List OP := [(0, 4, 0, 0, 0, 0), (6, 0, 1, 15, 4, 1), (0, 2, 4, 0, 1, 1), (4, 9, 5, 6, 6, 0), (0, 0, 8, -2, 0, 1), (9, 0, 10, 0, 0, 0), (0, 2, 11, 0, 1, 1), (4, 1, 12, 8, 11, 0), (0, 4, 15, 0, 0, 0), (6, 0, 16, 15, 4, 1), (9, 0, 19, 0, 0, 0), (0, 2, 20, 0, 1, 1), (0, 0, 21, 1, 0, 0), (4, 7, 22, 10, 17, 0), (0, 4, 25, 0, 0, 0), (6, 0, 26, 19, 4, 2), (4, 12, 29, 7, 19, 0), (0, 4, 32, 0, 0, 0), (6, 0, 33, 22, 4, 3), (0, 5, 36, 0, 2, 2), (0, 2, 37, 0, 2, 2), (0, 0, 38, 6, 0, 1), (1, 9, 40, 0, 0, 0), (0, 0, 41, 10, 0, 1), (1, 2, 43, 0, 0, 0), (0, 2, 44, 0, 2, 2), (0, 0, 45, 6, 0, 1), (1, 10, 47, 0, 0, 0), (1, 0, 48, 0, 0, 0), (9, 0, 49, 0, 0, 0)]
def kX4_take : List OP := [(0, 4, 0, 0, 0, 0), (0, 2, 1, 0, 1, 1), (7, 0, 2, 15, 4, 1), (0, 4, 5, 0, 0, 0), (0, 2, 6, 0, 2, 2), (7, 0, 7, 19, 4, 2), (0, 4, 10, 0, 0, 0), (0, 2, 11, 0, 3, 3), (7, 0, 12, 22, 4, 3), (9, 4, 15, 0, 0, 0)]
def kX4_seekFree : List OP := [(0, 4, 0, 0, 0, 0), (0, 0, 1, -2, 0, 1), (0, 0, 3, 0, 0, 0), (0, 0, 4, 0, 0, 0), (8, 0, 5, 37, 33, 4), (0, 4, 8, 0, 1, 1), (8, 0, 9, 41, 79, 1), (0, 4, 12, 0, 1, 1), (6, 1, 13, 46, 7, 6), (4, 1, 16, 11, 16, 0), (0, 4, 19, 0, 0, 0), (0, 0, 20, 0, 0, 0), (0, 0, 21, 0, 0, 0), (0, 0, 22, 0, 0, 0), (8, 0, 23, 37, 33, 4), (9, 4, 26, 0, 0, 0), (0, 0, 27, 0, 0, 0), (0, 5, 28, 0, 2, 2), (0, 2, 29, 0, 2, 2), (0, 0, 30, 36, 0, 1), (4, 9, 32, 34, 38, 0), (0, 4, 35, 0, 1, 1), (0, 2, 36, 0, 2, 2), (8, 0, 37, 50, 77, 2), (4, 0, 40, 20, 36, 0), (0, 4, 43, 0, 1, 1), (0, 2, 44, 0, 2, 2), (0, 0, 45, -1, 0, 0), (8, 1, 46, 54, 35, 3), (4, 0, 49, 11, 36, 0), (0, 4, 52, 0, 0, 0), (0, 0, 53, 1, 0, 0), (0, 2, 54, 0, 2, 2), (0, 0, 55, 0, 0, 0), (8, 0, 56, 37, 33, 4), (9, 4, 59, 0, 0, 0), (0, 8, 60, 1, 2, 0), (4, 12, 63, -34, 18, 0), (0, 0, 66, 0, 0, 0), (0, 5, 67, 0, 2, 2), (0, 2, 68, 0, 2, 2), (0, 0, 69, 36, 0, 1), (4, 9, 71, 58, 73, 0), (0, 2, 74, 0, 2, 2), (0, 0, 75, 1, 0, 0), (1, 0, 76, 0, 0, 0), (0, 5, 77, 0, 3, 3), (0, 2, 78, 0, 3, 3), (0, 0, 79, 36, 0, 1), (4, 9, 81, 42, 71, 0), (0, 4, 84, 0, 1, 1), (0, 2, 85, 0, 2, 2), (8, 0, 86, 50, 77, 2), (4, 0, 89, 28, 69, 0), (0, 4, 92, 0, 1, 1), (0, 2, 93, 0, 3, 3), (8, 0, 94, 50, 77, 2), (4, 0, 97, 20, 69, 0), (0, 4, 100, 0, 1, 1), (0, 2, 101, 0, 2, 2), (0, 2, 102, 0, 3, 3), (8, 1, 103, 54, 35, 3), (4, 0, 106, 11, 69, 0), (0, 4, 109, 0, 0, 0), (0, 0, 110, 2, 0, 0), (0, 2, 111, 0, 2, 2), (0, 2, 112, 0, 3, 3), (8, 0, 113, 37, 33, 4), (9, 4, 116, 0, 0, 0), (0, 8, 117, 1, 3, 0), (4, 12, 120, -42, 47, 0), (0, 8, 123, 1, 2, 0), (4, 12, 126, -58, 40, 0), (9, 4, 129, 0, 0, 0)]
def kX4_isFreed : List OP := [(0, 4, 0, 0, 0, 0), (0, 2, 1, 0, 1, 1), (0, 2, 2, 0, 2, 2), (8, 1, 3, 58, 36, 3), (0, 4, 6, 0, 0, 0), (8, 0, 7, 41, 79, 1), (0, 4, 10, 0, 0, 0), (0, 2, 11, 0, 1, 1), (0, 2, 12, 0, 2, 2), (8, 1, 13, 58, 36, 3), (0, 4, 16, 0, 0, 0), (6, 1, 17, 46, 7, 6), (4, 1, 20, 7, 15, 0), (0, 0, 23, 1, 0, 0), (4, 12, 24, 4, 16, 0), (0, 0, 27, 0, 0, 0), (9, 1, 28, 0, 0, 0)]
def kX4_turn : List OP := [(0, 4, 0, 0, 0, 0), (0, 2, 1, 0, 1, 1), (8, 0, 2, 62, 78, 2), (0, 2, 5, 0, 2, 2), (0, 0, 6, -1, 0, 0), (4, 6, 7, 8, 9, 0), (0, 4, 10, 0, 0, 0), (0, 2, 11, 0, 2, 2), (8, 0, 12, 62, 78, 2), (9, 4, 15, 0, 0, 0)]
def kX4_aim : List OP := [(0, 4, 0, 0, 0, 0), (0, 2, 1, 0, 1, 1), (7, 0, 2, 25, 4, 4), (0, 4, 5, 0, 0, 0), (0, 2, 6, 0, 2, 2), (7, 0, 7, 28, 4, 5), (0, 4, 10, 0, 0, 0), (0, 2, 11, 0, 3, 3), (7, 0, 12, 31, 4, 6), (9, 4, 15, 0, 0, 0)]
def kX4_seekLead : List OP := [(0, 4, 0, 0, 0, 0), (0, 0, 1, -2, 0, 1), (0, 0, 3, 0, 0, 0), (0, 0, 4, 0, 0, 0), (8, 0, 5, 37, 33, 4), (0, 4, 8, 0, 1, 1), (0, 4, 9, 0, 2, 2), (0, 4, 10, 0, 3, 3), (8, 0, 11, 65, 0, 3), (0, 4, 14, 0, 0, 0), (0, 4, 15, 0, 1, 1), (8, 0, 16, 71, 44, 2), (4, 0, 19, 11, 19, 0), (0, 4, 22, 0, 0, 0), (0, 0, 23, 0, 0, 0), (0, 0, 24, 0, 0, 0), (0, 0, 25, 0, 0, 0), (8, 0, 26, 37, 33, 4), (9, 4, 29, 0, 0, 0), (0, 4, 30, 0, 0, 0), (6, 0, 31, 34, 4, 7), (0, 5, 34, 0, 4, 4), (0, 0, 36, 0, 0, 0), (0, 5, 37, 0, 5, 4), (0, 2, 39, 0, 5, 4), (0, 0, 41, 36, 0, 1), (4, 9, 43, 81, 68, 0), (0, 4, 46, 0, 0, 0), (6, 2, 47, 9, 4, 0), (0, 2, 50, 0, 5, 4), (0, 2, 52, 0, 4, 4), (5, 4, 54, 0, 0, 0), (0, 2, 55, 0, 5, 4), (0, 4, 57, 0, 2, 2), (0, 4, 58, 0, 3, 3), (8, 1, 59, 75, 42, 3), (4, 0, 62, 56, 66, 0), (0, 2, 65, 0, 4, 4), (0, 2, 67, 0, 5, 4), (0, 0, 69, 6, 0, 1), (1, 9, 71, 0, 0, 0), (8, 3, 72, 79, 157, 2), (4, 0, 75, 43, 66, 0), (0, 4, 78, 0, 1, 1), (0, 4, 79, 0, 2, 2), (0, 4, 80, 0, 3, 3), (8, 0, 81, 65, 0, 3), (0, 4, 84, 0, 1, 1), (0, 2, 85, 0, 5, 4), (8, 1, 87, 83, 43, 2), (0, 4, 90, 0, 0, 0), (0, 4, 91, 0, 1, 1), (8, 0, 92, 71, 44, 2), (4, 0, 95, 12, 60, 0), (0, 4, 98, 0, 0, 0), (0, 0, 99, 1, 0, 0), (0, 2, 100, 0, 5, 4), (0, 0, 102, 0, 0, 0), (8, 0, 103, 37, 33, 4), (9, 4, 106, 0, 0, 0), (0, 4, 107, 0, 0, 0), (6, 2, 108, 9, 4, 0), (0, 2, 111, 0, 5, 4), (0, 4, 113, 0, 0, 0), (6, 0, 114, 34, 4, 7), (5, 4, 117, 0, 0, 0), (0, 8, 118, 1, 5, 0), (4, 12, 121, -82, 24, 0), (9, 4, 124, 0, 0, 0)]
def kX4_areFound : List OP := [(0, 4, 0, 0, 0, 0), (6, 0, 1, 15, 4, 1), (4, 2, 4, 7, 5, 0), (0, 0, 7, 1, 0, 0), (4, 12, 8, 4, 6, 0), (0, 0, 11, 0, 0, 0), (9, 1, 12, 0, 0, 0)]
def kX4_seekTwoLeads : List OP := [(0, 0, 0, 0, 0, 0), (0, 5, 1, 0, 4, 4), (0, 2, 3, 0, 4, 4), (0, 0, 5, 36, 0, 1), (4, 9, 7, 98, 52, 0), (0, 2, 10, 0, 4, 4), (0, 4, 12, 0, 2, 2), (0, 4, 13, 0, 3, 3), (8, 1, 14, 75, 42, 3), (4, 1, 17, 6, 11, 0), (4, 12, 20, 79, 50, 0), (0, 2, 23, 0, 4, 4), (0, 0, 25, 1, 0, 0), (1, 0, 26, 0, 0, 0), (0, 5, 27, 0, 5, 4), (0, 2, 29, 0, 5, 4), (0, 0, 31, 36, 0, 1), (4, 9, 33, 66, 50, 0), (0, 2, 36, 0, 5, 4), (0, 4, 38, 0, 2, 2), (0, 4, 39, 0, 3, 3), (8, 1, 40, 75, 42, 3), (4, 0, 43, 50, 48, 0), (0, 4, 46, 0, 0, 0), (0, 2, 47, 0, 4, 4), (0, 2, 49, 0, 5, 4), (8, 0, 51, 87, 41, 3), (4, 0, 54, 39, 48, 0), (0, 4, 57, 0, 1, 1), (0, 4, 58, 0, 2, 2), (0, 4, 59, 0, 3, 3), (8, 0, 60, 65, 0, 3), (0, 4, 63, 0, 1, 1), (0, 2, 64, 0, 4, 4), (8, 1, 66, 83, 43, 2), (0, 4, 69, 0, 1, 1), (0, 2, 70, 0, 5, 4), (8, 1, 72, 83, 43, 2), (0, 4, 75, 0, 0, 0), (0, 4, 76, 0, 1, 1), (8, 0, 77, 71, 44, 2), (4, 0, 80, 13, 48, 0), (0, 4, 83, 0, 0, 0), (0, 0, 84, 2, 0, 0), (0, 2, 85, 0, 4, 4), (0, 2, 87, 0, 5, 4), (8, 0, 89, 37, 33, 4), (9, 4, 92, 0, 0, 0), (0, 8, 93, 1, 5, 0), (4, 12, 96, -67, 15, 0), (0, 8, 99, 1, 4, 0), (4, 12, 102, -99, 2, 0), (9, 4, 105, 0, 0, 0)]
def kX4_matter : List OP := [(0, 4, 0, 0, 0, 0), (6, 2, 1, 9, 4, 0), (0, 2, 4, 0, 1, 1), (5, 0, 5, 0, 0, 0), (0, 2, 6, 0, 2, 2), (0, 0, 7, 6, 0, 1), (1, 9, 9, 0, 0, 0), (8, 3, 10, 79, 157, 2), (4, 0, 13, 23, 20, 0), (0, 4, 16, 0, 0, 0), (6, 2, 17, 9, 4, 0), (0, 2, 20, 0, 2, 2), (5, 0, 21, 0, 0, 0), (0, 2, 22, 0, 1, 1), (0, 0, 23, 6, 0, 1), (1, 9, 25, 0, 0, 0), (8, 3, 26, 79, 157, 2), (4, 0, 29, 7, 20, 0), (0, 0, 32, 1, 0, 0), (4, 12, 33, 4, 21, 0), (0, 0, 36, 0, 0, 0), (9, 1, 37, 0, 0, 0)]
def kX4_isMissing : List OP := [(0, 2, 0, 0, 0, 0), (0, 0, 1, 6, 0, 1), (1, 9, 3, 0, 0, 0), (0, 5, 4, 0, 3, 3), (0, 2, 5, 0, 0, 0), (0, 0, 6, 6, 0, 1), (1, 10, 8, 0, 0, 0), (0, 5, 9, 0, 4, 4), (0, 2, 11, 0, 3, 3), (0, 2, 12, 0, 4, 4), (4, 6, 14, 34, 26, 0), (0, 2, 17, 0, 3, 3), (0, 4, 18, 0, 1, 1), (6, 0, 19, 90, 2, 0), (4, 9, 22, 26, 26, 0), (0, 2, 25, 0, 4, 4), (0, 4, 27, 0, 1, 1), (6, 0, 28, 90, 2, 0), (4, 9, 31, 17, 26, 0), (0, 4, 34, 0, 2, 2), (0, 2, 35, 0, 3, 3), (0, 2, 36, 0, 4, 4), (8, 0, 38, 95, 47, 3), (4, 1, 41, 7, 26, 0), (0, 0, 44, 1, 0, 0), (4, 12, 45, 4, 27, 0), (0, 0, 48, 0, 0, 0), (9, 1, 49, 0, 0, 0)]
def kX4_add : List OP := [(0, 4, 0, 0, 0, 0), (6, 3, 1, 99, 0, 0), (0, 2, 4, 0, 1, 1), (0, 0, 5, 6, 0, 1), (1, 9, 7, 0, 0, 0), (0, 2, 8, 0, 1, 1), (0, 0, 9, 6, 0, 1), (1, 10, 11, 0, 0, 0), (0, 0, 12, 1, 0, 0), (8, 0, 13, 103, 48, 4), (9, 4, 16, 0, 0, 0)]
def kX4_comes : List OP := [(0, 4, 0, 0, 0, 0), (0, 0, 1, 0, 0, 0), (7, 0, 2, 34, 4, 7), (0, 0, 5, 0, 0, 0), (0, 5, 6, 0, 2, 2), (0, 2, 7, 0, 2, 2), (0, 4, 8, 0, 0, 0), (6, 0, 9, 31, 4, 6), (4, 9, 12, 52, 34, 0), (0, 0, 15, 0, 0, 0), (0, 5, 16, 0, 3, 3), (0, 2, 17, 0, 3, 3), (0, 4, 18, 0, 1, 1), (6, 14, 19, 107, 0, 4), (6, 0, 22, 111, 2, 1), (4, 9, 25, 29, 30, 0), (0, 4, 28, 0, 0, 0), (3, 0, 29, 0, 0, 0), (6, 0, 30, 34, 4, 7), (0, 0, 33, 1, 0, 0), (0, 4, 34, 0, 1, 1), (6, 3, 35, 99, 0, 0), (6, 2, 38, 114, 5, 5), (0, 2, 41, 0, 3, 3), (5, 0, 42, 0, 0, 0), (1, 6, 43, 0, 0, 0), (1, 4, 44, 0, 0, 0), (7, 0, 45, 34, 4, 7), (0, 8, 48, 1, 3, 0), (4, 12, 51, -34, 11, 0), (0, 4, 54, 0, 1, 1), (8, 0, 55, 117, 4, 1), (0, 8, 58, 1, 2, 0), (4, 12, 61, -54, 5, 0), (0, 4, 64, 0, 1, 1), (6, 3, 65, 99, 0, 0), (6, 2, 68, 114, 5, 5), (0, 4, 71, 0, 0, 0), (6, 0, 72, 25, 4, 4), (5, 0, 75, 0, 0, 0), (0, 4, 76, 0, 0, 0), (6, 0, 77, 28, 4, 5), (4, 7, 80, 7, 45, 0), (0, 0, 83, 1, 0, 0), (4, 12, 84, 4, 46, 0), (0, 0, 87, 0, 0, 0), (9, 1, 88, 0, 0, 0)]
def kX5_clear : List OP := [(0, 4, 0, 0, 0, 0), (0, 0, 1, 0, 0, 0), (7, 0, 2, 9, 5, 0), (0, 4, 5, 0, 0, 0), (0, 1, 6, 0, 0, 0), (7, 5, 7, 15, 5, 1), (0, 0, 10, 0, 0, 0), (0, 5, 11, 0, 1, 1), (0, 2, 12, 0, 1, 1), (0, 0, 13, 6, 0, 1), (4, 9, 15, 30, 28, 0), (0, 4, 18, 0, 0, 0), (6, 2, 19, 19, 5, 2), (0, 2, 22, 0, 1, 1), (0, 0, 23, 0, 0, 0), (5, 4, 24, 0, 0, 0), (0, 4, 25, 0, 0, 0), (6, 2, 26, 23, 5, 3), (0, 2, 29, 0, 1, 1), (0, 0, 30, 0, 0, 0), (5, 4, 31, 0, 0, 0), (0, 4, 32, 0, 0, 0), (6, 2, 33, 26, 5, 4), (0, 2, 36, 0, 1, 1), (0, 0, 37, 0, 0, 0), (5, 4, 38, 0, 0, 0), (0, 8, 39, 1, 1, 0), (4, 12, 42, -30, 8, 0), (0, 0, 45, 0, 0, 0), (0, 5, 46, 0, 1, 1), (0, 2, 47, 0, 1, 1), (0, 0, 48, 2, 0, 0), (4, 9, 49, 30, 50, 0), (0, 4, 52, 0, 0, 0), (6, 2, 53, 29, 5, 5), (0, 2, 56, 0, 1, 1), (0, 0, 57, 0, 0, 0), (5, 4, 58, 0, 0, 0), (0, 4, 59, 0, 0, 0), (6, 2, 60, 32, 5, 6), (0, 2, 63, 0, 1, 1), (0, 0, 64, 0, 0, 0), (5, 4, 65, 0, 0, 0), (0, 4, 66, 0, 0, 0), (6, 2, 67, 35, 5, 7), (0, 2, 70, 0, 1, 1), (0, 0, 71, 0, 0, 0), (5, 4, 72, 0, 0, 0), (0, 8, 73, 1, 1, 0), (4, 12, 76, -29, 30, 0), (9, 4, 79, 0, 0, 0)]
def kX5_become : List OP := [(0, 4, 0, 0, 0, 0), (0, 4, 1, 0, 1, 1), (6, 0, 2, 9, 5, 0), (7, 0, 5, 9, 5, 0), (0, 4, 8, 0, 0, 0), (0, 4, 9, 0, 1, 1), (6, 5, 10, 15, 5, 1), (7, 5, 13, 15, 5, 1), (0, 4, 16, 0, 1, 1), (6, 2, 17, 19, 5, 2), (0, 0, 20, 0, 0, 0), (0, 4, 21, 0, 0, 0), (6, 2, 22, 19, 5, 2), (0, 0, 25, 0, 0, 0), (0, 0, 26, 6, 0, 1), (8, 4, 28, 38, 0, 5), (0, 4, 31, 0, 1, 1), (6, 2, 32, 23, 5, 3), (0, 0, 35, 0, 0, 0), (0, 4, 36, 0, 0, 0), (6, 2, 37, 23, 5, 3), (0, 0, 40, 0, 0, 0), (0, 0, 41, 6, 0, 1), (8, 4, 43, 38, 0, 5), (0, 4, 46, 0, 1, 1), (6, 2, 47, 26, 5, 4), (0, 0, 50, 0, 0, 0), (0, 4, 51, 0, 0, 0), (6, 2, 52, 26, 5, 4), (0, 0, 55, 0, 0, 0), (0, 0, 56, 6, 0, 1), (8, 4, 58, 38, 0, 5), (0, 4, 61, 0, 1, 1), (6, 2, 62, 29, 5, 5), (0, 0, 65, 0, 0, 0), (0, 4, 66, 0, 0, 0), (6, 2, 67, 29, 5, 5), (0, 0, 70, 0, 0, 0), (0, 0, 71, 2, 0, 0), (8, 4, 72, 38, 0, 5), (0, 4, 75, 0, 1, 1), (6, 2, 76, 32, 5, 6), (0, 0, 79, 0, 0, 0), (0, 4, 80, 0, 0, 0), (6, 2, 81, 32, 5, 6), (0, 0, 84, 0, 0, 0), (0, 0, 85, 2, 0, 0), (8, 4, 86, 38, 0, 5), (0, 4, 89, 0, 1, 1), (6, 2, 90, 35, 5, 7), (0, 0, 93, 0, 0, 0), (0, 4, 94, 0, 0, 0), (6, 2, 95, 35, 5, 7), (0, 0, 98, 0, 0, 0), (0, 0, 99, 2, 0, 0), (8, 4, 100, 38, 0, 5), (9, 4, 103, 0, 0, 0)]
def kX5_isSeen : List OP := [(0, 4, 0, 0, 0, 0), (6, 2, 1, 26, 5, 4), (0, 2, 4, 0, 1, 1), (5, 0, 5, 0, 0, 0), (0, 2, 6, 0, 2, 2), (8, 3, 7, 44, 157, 2), (9, 1, 10, 0, 0, 0)]
def kX5_setSeen : List OP := [(0, 4, 0, 0, 0, 0), (6, 2, 1, 26, 5, 4), (0, 2, 4, 0, 1, 1), (0, 2, 5, 0, 3, 3), (4, 0, 6, 16, 14, 0), (0, 4, 9, 0, 0, 0), (6, 2, 10, 26, 5, 4), (0, 2, 13, 0, 1, 1), (5, 0, 14, 0, 0, 0), (0, 0, 15, 1, 0, 0), (0, 2, 16, 0, 2, 2), (1, 6, 17, 0, 0, 0), (1, 4, 18, 0, 0, 0), (4, 12, 19, 15, 24, 0), (0, 4, 22, 0, 0, 0), (6, 2, 23, 26, 5, 4), (0, 2, 26, 0, 1, 1), (5, 0, 27, 0, 0, 0), (0, 0, 28, 1, 0, 0), (0, 2, 29, 0, 2, 2), (1, 6, 30, 0, 0, 0), (0, 0, 31, -1, 0, 0), (1, 5, 32, 0, 0, 0), (1, 3, 33, 0, 0, 0), (5, 4, 34, 0, 0, 0), (9, 4, 35, 0, 0, 0)]
def kX5_countSeen : List OP := [(0, 0, 0, 0, 0, 0), (0, 5, 1, 0, 1, 1), (0, 0, 2, 0, 0, 0), (0, 5, 3, 0, 2, 2), (0, 2, 4, 0, 2, 2), (0, 0, 5, 6, 0, 1), (4, 9, 7, 21, 17, 0), (0, 2, 10, 0, 1, 1), (0, 4, 11, 0, 0, 0), (6, 2, 12, 26, 5, 4), (0, 2, 15, 0, 2, 2), (5, 0, 16, 0, 0, 0), (8, 1, 17, 48, 288, 1), (1, 0, 20, 0, 0, 0), (0, 5, 21, 0, 1, 1), (0, 8, 22, 1, 2, 0), (4, 12, 25, -21, 4, 0), (0, 2, 28, 0, 1, 1), (9, 0, 29, 0, 0, 0)]
def kX5_addWorth : List OP := [(0, 4, 0, 0, 0, 0), (6, 2, 1, 19, 5, 2), (0, 2, 4, 0, 1, 1), (5, 0, 5, 0, 0, 0), (0, 2, 6, 0, 2, 2), (1, 0, 7, 0, 0, 0), (0, 5, 8, 0, 3, 3), (0, 4, 9, 0, 0, 0), (6, 2, 10, 19, 5, 2), (0, 2, 13, 0, 1, 1), (0, 2, 14, 0, 3, 3), (4, 3, 15, 7, 14, 0), (0, 0, 18, 0, 0, 0), (4, 12, 19, 17, 20, 0), (0, 2, 22, 0, 3, 3), (0, 0, 23, 999, 0, 2), (4, 11, 26, 9, 19, 0), (0, 0, 29, 999, 0, 2), (4, 12, 32, 4, 20, 0), (0, 2, 35, 0, 3, 3), (5, 4, 36, 0, 0, 0), (9, 4, 37, 0, 0, 0)]
def kX5_worthOf : List OP := [(0, 0, 0, 0, 0, 0), (0, 5, 1, 0, 2, 2), (0, 0, 2, 0, 0, 0), (0, 5, 3, 0, 3, 3), (0, 2, 4, 0, 3, 3), (0, 0, 5, 6, 0, 1), (4, 9, 7, 30, 22, 0), (0, 2, 10, 0, 2, 2), (0, 2, 11, 0, 1, 1), (0, 2, 12, 0, 3, 3), (8, 3, 13, 44, 157, 2), (4, 0, 16, 12, 17, 0), (0, 4, 19, 0, 0, 0), (6, 2, 20, 19, 5, 2), (0, 2, 23, 0, 3, 3), (5, 0, 24, 0, 0, 0), (4, 12, 25, 4, 18, 0), (0, 0, 28, 0, 0, 0), (1, 0, 29, 0, 0, 0), (0, 5, 30, 0, 2, 2), (0, 8, 31, 1, 3, 0), (4, 12, 34, -30, 4, 0), (0, 2, 37, 0, 2, 2), (9, 0, 38, 0, 0, 0)]
def kX5_pass : List OP := [(0, 4, 0, 0, 0, 0), (6, 2, 1, 29, 5, 5), (0, 2, 4, 0, 1, 1), (0, 2, 5, 0, 2, 2), (5, 4, 6, 0, 0, 0), (0, 4, 7, 0, 0, 0), (6, 2, 8, 32, 5, 6), (0, 2, 11, 0, 1, 1), (0, 0, 12, 0, 0, 0), (5, 4, 13, 0, 0, 0), (0, 4, 14, 0, 0, 0), (6, 2, 15, 35, 5, 7), (0, 2, 18, 0, 1, 1), (3, 1, 19, 0, 0, 0), (5, 0, 20, 0, 0, 0), (0, 0, 21, 1, 0, 0), (1, 0, 22, 0, 0, 0), (5, 4, 23, 0, 0, 0), (0, 4, 24, 0, 0, 0), (6, 2, 25, 23, 5, 3), (0, 2, 28, 0, 2, 2), (0, 4, 29, 0, 0, 0), (6, 2, 30, 23, 5, 3), (0, 2, 33, 0, 2, 2), (5, 0, 34, 0, 0, 0), (0, 0, 35, 999, 0, 2), (4, 9, 38, 14, 34, 0), (0, 4, 41, 0, 0, 0), (6, 2, 42, 23, 5, 3), (0, 2, 45, 0, 2, 2), (5, 0, 46, 0, 0, 0), (0, 0, 47, 1, 0, 0), (1, 0, 48, 0, 0, 0), (4, 12, 49, 6, 35, 0), (0, 0, 52, 999, 0, 2), (5, 4, 55, 0, 0, 0), (9, 4, 56, 0, 0, 0)]
def kX5_retain : List OP := [(0, 4, 0, 0, 0, 0), (6, 2, 1, 32, 5, 6), (0, 2, 4, 0, 1, 1), (0, 4, 5, 0, 0, 0), (6, 2, 6, 32, 5, 6), (0, 2, 9, 0, 1, 1), (5, 0, 10, 0, 0, 0), (0, 0, 11, 999, 0, 2), (4, 9, 14, 14, 16, 0), (0, 4, 17, 0, 0, 0), (6, 2, 18, 32, 5, 6), (0, 2, 21, 0, 1, 1), (5, 0, 22, 0, 0, 0), (0, 0, 23, 1, 0, 0), (1, 0, 24, 0, 0, 0), (4, 12, 25, 6, 17, 0), (0, 0, 28, 999, 0, 2), (5, 4, 31, 0, 0, 0), (9, 4, 32, 0, 0, 0)]
def kX5_draw : List OP := [(0, 4, 0, 0, 0, 0), (0, 4, 1, 0, 0, 0), (6, 5, 2, 15, 5, 1), (0, 1, 5, 1103515245, 54, 2), (2, 2, 8, 0, 0, 0), (0, 1, 9, 12345, 56, 2), (2, 0, 12, 0, 0, 0), (0, 1, 13, 2147483647, 58, 2), (2, 3, 16, 0, 0, 0), (7, 5, 17, 15, 5, 1), (0, 4, 20, 0, 0, 0), (6, 5, 21, 15, 5, 1), (0, 1, 24, 65536, 60, 2), (2, 4, 27, 0, 0, 0), (1, 13, 28, 0, 0, 0), (9, 0, 29, 0, 0, 0)]
def kX6_exchange : List OP := [(0, 4, 0, 0, 0, 0), (6, 4, 1, 25, 6, 4), (0, 7, 4, 0, 2, 2), (0, 4, 5, 0, 0, 0), (0, 4, 6, 0, 1, 1), (7, 4, 7, 25, 6, 4), (0, 4, 10, 0, 2, 2), (9, 3, 11, 0, 0, 0)]
def kX6_read : List OP := [(0, 4, 0, 0, 0, 0), (6, 4, 1, 25, 6, 4), (8, 0, 4, 49, 22, 1), (0, 4, 7, 0, 0, 0), (0, 0, 8, 0, 0, 0), (7, 1, 9, 29, 6, 5), (0, 4, 12, 0, 0, 0), (0, 0, 13, 0, 0, 0), (7, 1, 14, 33, 6, 6), (0, 4, 17, 0, 0, 0), (0, 0, 18, 0, 0, 0), (7, 0, 19, 39, 6, 8), (0, 4, 22, 0, 0, 0), (0, 0, 23, -1, 0, 0), (7, 0, 24, 42, 6, 9), (0, 4, 27, 0, 0, 0), (6, 3, 28, 45, 6, 0), (0, 2, 31, 0, 1, 1), (8, 0, 32, 52, 91, 2), (0, 0, 35, 0, 0, 0), (0, 5, 36, 0, 2, 2), (0, 2, 37, 0, 2, 2), (0, 2, 38, 0, 1, 1), (4, 10, 39, 37, 39, 0), (0, 4, 42, 0, 0, 0), (6, 3, 43, 45, 6, 0), (6, 0, 46, 58, 9, 5), (4, 0, 49, 27, 39, 0), (0, 4, 52, 0, 0, 0), (8, 0, 53, 61, 57, 1), (4, 0, 56, 12, 35, 0), (0, 4, 59, 0, 0, 0), (0, 0, 60, 15, 0, 1), (8, 0, 62, 65, 73, 2), (4, 1, 65, 5, 37, 0), (0, 0, 68, -1, 0, 0), (9, 0, 69, 0, 0, 0), (0, 8, 70, 1, 2, 0), (4, 12, 73, -36, 21, 0), (0, 4, 76, 0, 0, 0), (6, 4, 77, 25, 6, 4), (6, 3, 80, 69, 2, 10), (0, 4, 83, 0, 0, 0), (6, 4, 84, 25, 6, 4), (6, 0, 87, 73, 2, 3), (1, 12, 90, 0, 0, 0), (7, 5, 91, 76, 5, 1), (0, 2, 94, 0, 2, 2), (9, 0, 95, 0, 0, 0)]
def kX6_readLine : List OP := [(0, 4, 0, 0, 0, 0), (6, 3, 1, 45, 6, 0), (6, 0, 4, 58, 9, 5), (0, 0, 7, 3, 0, 0), (4, 6, 8, 9, 9, 0), (0, 4, 11, 0, 0, 0), (0, 0, 12, 1, 0, 0), (8, 0, 13, 82, 74, 2), (9, 1, 16, 0, 0, 0), (0, 4, 17, 0, 0, 0), (6, 3, 18, 45, 6, 0), (6, 0, 21, 85, 9, 6), (4, 13, 24, 0, 31, 1), (0, 4, 64, 0, 0, 0), (8, 0, 65, 88, 58, 1), (9, 1, 68, 0, 0, 0), (0, 4, 69, 0, 0, 0), (8, 0, 70, 91, 59, 1), (9, 1, 73, 0, 0, 0), (0, 4, 74, 0, 0, 0), (8, 0, 75, 94, 60, 1), (9, 1, 78, 0, 0, 0), (0, 4, 79, 0, 0, 0), (8, 0, 80, 97, 61, 1), (9, 1, 83, 0, 0, 0), (0, 4, 84, 0, 0, 0), (8, 0, 85, 100, 62, 1), (9, 1, 88, 0, 0, 0), (0, 4, 89, 0, 0, 0), (8, 0, 90, 103, 63, 1), (9, 1, 93, 0, 0, 0), (0, 4, 94, 0, 0, 0), (0, 0, 95, 1, 0, 0), (8, 0, 96, 82, 74, 2), (9, 1, 99, 0, 0, 0)]
def kX6_readGrower : List OP := [(0, 4, 0, 0, 0, 0), (6, 4, 1, 25, 6, 4), (6, 0, 4, 106, 2, 0), (0, 5, 7, 0, 1, 1), (0, 2, 8, 0, 1, 1), (0, 0, 9, 6, 0, 1), (4, 8, 11, 9, 11, 0), (0, 4, 14, 0, 0, 0), (0, 0, 15, 2, 0, 0), (8, 0, 16, 82, 74, 2), (9, 1, 19, 0, 0, 0), (0, 4, 20, 0, 0, 0), (6, 3, 21, 45, 6, 0), (8, 0, 24, 109, 92, 1), (0, 4, 27, 0, 0, 0), (6, 3, 28, 45, 6, 0), (6, 0, 31, 58, 9, 5), (0, 0, 34, 2, 0, 0), (4, 6, 35, 9, 23, 0), (0, 4, 38, 0, 0, 0), (0, 0, 39, 1, 0, 0), (8, 0, 40, 82, 74, 2), (9, 1, 43, 0, 0, 0), (0, 4, 44, 0, 0, 0), (6, 4, 45, 25, 6, 4), (0, 4, 48, 0, 0, 0), (6, 3, 49, 45, 6, 0), (6, 0, 52, 85, 9, 6), (8, 0, 55, 112, 23, 2), (0, 0, 58, -1, 0, 0), (4, 6, 59, 9, 35, 0), (0, 4, 62, 0, 0, 0), (0, 0, 63, 3, 0, 0), (8, 0, 64, 82, 74, 2), (9, 1, 67, 0, 0, 0), (0, 4, 68, 0, 0, 0), (6, 4, 69, 25, 6, 4), (6, 2, 72, 116, 2, 5), (0, 2, 75, 0, 1, 1), (0, 4, 76, 0, 0, 0), (6, 3, 77, 45, 6, 0), (6, 0, 80, 85, 9, 6), (5, 4, 83, 0, 0, 0), (0, 4, 84, 0, 0, 0), (6, 3, 85, 45, 6, 0), (8, 0, 88, 109, 92, 1), (0, 4, 91, 0, 0, 0), (0, 0, 92, 99, 0, 1), (8, 0, 94, 119, 72, 2), (4, 1, 97, 5, 52, 0), (0, 0, 100, 0, 0, 0), (9, 1, 101, 0, 0, 0), (0, 4, 102, 0, 0, 0), (6, 4, 103, 25, 6, 4), (6, 3, 106, 69, 2, 10), (6, 2, 109, 122, 5, 2), (0, 2, 112, 0, 1, 1), (0, 4, 113, 0, 0, 0), (6, 0, 114, 36, 6, 7), (5, 4, 117, 0, 0, 0), (0, 4, 118, 0, 0, 0), (6, 3, 119, 45, 6, 0), (0, 0, 122, 10, 0, 1), (8, 0, 124, 125, 94, 2), (0, 5, 127, 0, 2, 2), (0, 2, 128, 0, 2, 2), (4, 0, 129, 10, 70, 0), (0, 4, 132, 0, 0, 0), (6, 3, 133, 45, 6, 0), (8, 0, 136, 109, 92, 1), (0, 4, 139, 0, 0, 0), (0, 0, 140, 9, 0, 1), (8, 0, 142, 119, 72, 2), (4, 1, 145, 5, 76, 0), (0, 0, 148, 0, 0, 0), (9, 1, 149, 0, 0, 0), (0, 4, 150, 0, 0, 0), (6, 4, 151, 25, 6, 4), (6, 2, 154, 128, 2, 6), (0, 2, 157, 0, 1, 1), (0, 2, 158, 0, 2, 2), (4, 0, 159, 11, 86, 0), (0, 4, 162, 0, 0, 0), (6, 0, 163, 36, 6, 7), (1, 11, 166, 0, 0, 0), (4, 12, 167, 7, 88, 0), (0, 4, 170, 0, 0, 0), (6, 0, 171, 36, 6, 7), (5, 4, 174, 0, 0, 0), (0, 4, 175, 0, 0, 0), (0, 0, 176, 9, 0, 1), (8, 0, 178, 119, 72, 2), (4, 1, 181, 5, 95, 0), (0, 0, 184, 0, 0, 0), (9, 1, 185, 0, 0, 0), (0, 4, 186, 0, 0, 0), (6, 4, 187, 25, 6, 4), (6, 2, 190, 131, 2, 7), (0, 2, 193, 0, 1, 1), (0, 4, 194, 0, 0, 0), (6, 0, 195, 36, 6, 7), (5, 4, 198, 0, 0, 0), (0, 4, 199, 0, 0, 0), (0, 0, 200, 99, 0, 1), (8, 0, 202, 119, 72, 2), (4, 1, 205, 5, 108, 0), (0, 0, 208, 0, 0, 0), (9, 1, 209, 0, 0, 0), (0, 4, 210, 0, 0, 0), (6, 4, 211, 25, 6, 4), (6, 2, 214, 134, 2, 8), (0, 2, 217, 0, 1, 1), (0, 4, 218, 0, 0, 0), (6, 0, 219, 36, 6, 7), (5, 4, 222, 0, 0, 0), (0, 4, 223, 0, 0, 0), (6, 4, 224, 25, 6, 4), (3, 0, 227, 0, 0, 0), (6, 0, 228, 106, 2, 0), (0, 0, 231, 1, 0, 0), (1, 0, 232, 0, 0, 0), (7, 0, 233, 106, 2, 0), (0, 0, 236, 1, 0, 0), (9, 1, 237, 0, 0, 0)]
def kX6_readSees : List OP := [(0, 4, 0, 0, 0, 0), (6, 3, 1, 45, 6, 0), (8, 0, 4, 109, 92, 1), (0, 4, 7, 0, 0, 0), (8, 0, 8, 137, 71, 1), (0, 5, 11, 0, 1, 1), (0, 2, 12, 0, 1, 1), (4, 3, 13, 5, 10, 0), (0, 0, 16, 0, 0, 0), (9, 1, 17, 0, 0, 0), (0, 4, 18, 0, 0, 0), (6, 3, 19, 45, 6, 0), (8, 0, 22, 109, 92, 1), (0, 4, 25, 0, 0, 0), (8, 0, 26, 137, 71, 1), (0, 5, 29, 0, 2, 2), (0, 2, 30, 0, 2, 2), (4, 3, 31, 5, 20, 0), (0, 0, 34, 0, 0, 0), (9, 1, 35, 0, 0, 0), (0, 4, 36, 0, 0, 0), (6, 4, 37, 25, 6, 4), (6, 3, 40, 69, 2, 10), (0, 2, 43, 0, 1, 1), (0, 2, 44, 0, 2, 2), (8, 0, 45, 141, 47, 3), (4, 0, 48, 9, 31, 0), (0, 4, 51, 0, 0, 0), (0, 0, 52, 3, 0, 0), (8, 0, 53, 82, 74, 2), (9, 1, 56, 0, 0, 0), (0, 2, 57, 0, 1, 1), (0, 2, 58, 0, 2, 2), (4, 7, 59, 9, 38, 0), (0, 4, 62, 0, 0, 0), (0, 0, 63, 5, 0, 0), (8, 0, 64, 82, 74, 2), (9, 1, 67, 0, 0, 0), (0, 4, 68, 0, 0, 0), (6, 4, 69, 25, 6, 4), (6, 3, 72, 69, 2, 10), (0, 2, 75, 0, 1, 1), (0, 2, 76, 0, 2, 2), (0, 0, 77, 1, 0, 0), (8, 0, 78, 145, 48, 4), (0, 4, 81, 0, 0, 0), (6, 3, 82, 45, 6, 0), (8, 0, 85, 109, 92, 1), (0, 0, 88, 1, 0, 0), (9, 1, 89, 0, 0, 0)]
def kX6_readRibbon : List OP := [(0, 4, 0, 0, 0, 0), (6, 4, 1, 25, 6, 4), (6, 0, 4, 149, 2, 1), (0, 0, 7, 2, 0, 0), (4, 8, 8, 9, 9, 0), (0, 4, 11, 0, 0, 0), (0, 0, 12, 2, 0, 0), (8, 0, 13, 82, 74, 2), (9, 1, 16, 0, 0, 0), (0, 4, 17, 0, 0, 0), (6, 3, 18, 45, 6, 0), (8, 0, 21, 109, 92, 1), (0, 4, 24, 0, 0, 0), (8, 0, 25, 137, 71, 1), (0, 5, 28, 0, 1, 1), (0, 2, 29, 0, 1, 1), (4, 3, 30, 5, 19, 0), (0, 0, 33, 0, 0, 0), (9, 1, 34, 0, 0, 0), (0, 4, 35, 0, 0, 0), (6, 4, 36, 25, 6, 4), (6, 3, 39, 69, 2, 10), (6, 2, 42, 152, 5, 5), (0, 4, 45, 0, 0, 0), (6, 4, 46, 25, 6, 4), (6, 0, 49, 149, 2, 1), (0, 2, 52, 0, 1, 1), (5, 4, 53, 0, 0, 0), (0, 4, 54, 0, 0, 0), (6, 4, 55, 25, 6, 4), (6, 3, 58, 69, 2, 10), (6, 2, 61, 155, 5, 3), (0, 2, 64, 0, 1, 1), (3, 1, 65, 0, 0, 0), (5, 0, 66, 0, 0, 0), (0, 0, 67, 1, 0, 0), (1, 0, 68, 0, 0, 0), (5, 4, 69, 0, 0, 0), (0, 4, 70, 0, 0, 0), (6, 4, 71, 25, 6, 4), (3, 0, 74, 0, 0, 0), (6, 0, 75, 149, 2, 1), (0, 0, 78, 1, 0, 0), (1, 0, 79, 0, 0, 0), (7, 0, 80, 149, 2, 1), (0, 4, 83, 0, 0, 0), (6, 3, 84, 45, 6, 0), (8, 0, 87, 109, 92, 1), (0, 0, 90, 1, 0, 0), (9, 1, 91, 0, 0, 0)]
def kX6_readBlight : List OP := [(0, 4, 0, 0, 0, 0), (6, 1, 1, 29, 6, 5), (4, 0, 4, 9, 7, 0), (0, 4, 7, 0, 0, 0), (0, 0, 8, 3, 0, 0), (8, 0, 9, 82, 74, 2), (9, 1, 12, 0, 0, 0), (0, 4, 13, 0, 0, 0), (0, 0, 14, 1, 0, 0), (7, 1, 15, 29, 6, 5), (0, 4, 18, 0, 0, 0), (6, 3, 19, 45, 6, 0), (8, 0, 22, 109, 92, 1), (0, 4, 25, 0, 0, 0), (0, 0, 26, 100, 0, 1), (8, 0, 28, 119, 72, 2), (4, 1, 31, 5, 19, 0), (0, 0, 34, 0, 0, 0), (9, 1, 35, 0, 0, 0), (0, 4, 36, 0, 0, 0), (6, 4, 37, 25, 6, 4), (0, 4, 40, 0, 0, 0), (6, 0, 41, 36, 6, 7), (7, 0, 44, 158, 2, 2), (0, 0, 47, 1, 0, 0), (9, 1, 48, 0, 0, 0)]
def kX6_readSeed : List OP := [(0, 4, 0, 0, 0, 0), (6, 1, 1, 33, 6, 6), (4, 0, 4, 9, 7, 0), (0, 4, 7, 0, 0, 0), (0, 0, 8, 3, 0, 0), (8, 0, 9, 82, 74, 2), (9, 1, 12, 0, 0, 0), (0, 4, 13, 0, 0, 0), (0, 0, 14, 1, 0, 0), (7, 1, 15, 33, 6, 6), (0, 4, 18, 0, 0, 0), (6, 3, 19, 45, 6, 0), (8, 0, 22, 109, 92, 1), (0, 4, 25, 0, 0, 0), (0, 0, 26, 99999, 161, 3), (8, 0, 28, 119, 72, 2), (4, 1, 31, 5, 19, 0), (0, 0, 34, 0, 0, 0), (9, 1, 35, 0, 0, 0), (0, 4, 36, 0, 0, 0), (6, 4, 37, 25, 6, 4), (0, 4, 40, 0, 0, 0), (6, 0, 41, 36, 6, 7), (7, 0, 44, 73, 2, 3), (0, 0, 47, 1, 0, 0), (9, 1, 48, 0, 0, 0)]
def kX6_readLaw : List OP := [(0, 4, 0, 0, 0, 0), (6, 3, 1, 45, 6, 0), (8, 0, 4, 109, 92, 1), (0, 4, 7, 0, 0, 0), (6, 3, 8, 45, 6, 0), (6, 0, 11, 58, 9, 5), (0, 0, 14, 3, 0, 0), (4, 7, 15, 16, 14, 0), (0, 4, 18, 0, 0, 0), (6, 3, 19, 45, 6, 0), (6, 0, 22, 85, 9, 6), (0, 0, 25, 6, 0, 1), (1, 1, 27, 0, 0, 0), (4, 12, 28, 4, 15, 0), (0, 0, 31, -1, 0, 0), (0, 5, 32, 0, 1, 1), (0, 2, 33, 0, 1, 1), (0, 0, 34, 0, 0, 0), (0, 0, 35, 2, 0, 0), (8, 3, 36, 162, 156, 3), (4, 1, 39, 9, 25, 0), (0, 4, 42, 0, 0, 0), (0, 0, 43, 1, 0, 0), (8, 0, 44, 82, 74, 2), (9, 1, 47, 0, 0, 0), (0, 4, 48, 0, 0, 0), (6, 4, 49, 25, 6, 4), (6, 2, 52, 166, 2, 9), (0, 2, 55, 0, 1, 1), (5, 3, 56, 0, 0, 0), (0, 7, 57, 0, 2, 2), (0, 4, 58, 0, 2, 2), (8, 0, 59, 170, 27, 1), (4, 0, 62, 9, 38, 0), (0, 4, 65, 0, 0, 0), (0, 0, 66, 3, 0, 0), (8, 0, 67, 82, 74, 2), (9, 1, 70, 0, 0, 0), (0, 4, 71, 0, 0, 0), (6, 3, 72, 45, 6, 0), (8, 0, 75, 109, 92, 1), (0, 4, 78, 0, 0, 0), (0, 4, 79, 0, 2, 2), (8, 0, 80, 175, 64, 2), (9, 1, 83, 0, 0, 0)]
def kX6_readExpression : List OP := [(0, 4, 0, 0, 0, 0), (0, 0, 1, 0, 0, 0), (7, 0, 2, 15, 6, 2), (0, 4, 5, 0, 0, 0), (0, 0, 6, 0, 0, 0), (7, 0, 7, 19, 6, 3), (0, 0, 10, 0, 0, 0), (0, 5, 11, 0, 2, 2), (0, 0, 12, 0, 0, 0), (0, 5, 13, 0, 3, 3), (0, 2, 14, 0, 3, 3), (0, 0, 15, 700, 0, 2), (4, 10, 18, 65, 47, 0), (0, 2, 21, 0, 2, 2), (0, 0, 22, 2, 0, 0), (4, 7, 23, 11, 20, 0), (0, 4, 26, 0, 0, 0), (0, 4, 27, 0, 1, 1), (8, 0, 28, 179, 66, 2), (4, 12, 31, 17, 28, 0), (0, 4, 34, 0, 0, 0), (0, 4, 35, 0, 1, 1), (0, 2, 36, 0, 2, 2), (4, 1, 37, 7, 26, 0), (0, 0, 40, 1, 0, 0), (4, 12, 41, 4, 27, 0), (0, 0, 44, 0, 0, 0), (8, 0, 45, 183, 65, 3), (0, 5, 48, 0, 2, 2), (0, 2, 49, 0, 2, 2), (0, 0, 50, 3, 0, 0), (4, 6, 51, 8, 35, 0), (0, 2, 54, 0, 2, 2), (0, 0, 55, 4, 0, 0), (4, 7, 56, 14, 42, 0), (0, 2, 59, 0, 2, 2), (0, 0, 60, 3, 0, 0), (4, 7, 61, 7, 40, 0), (0, 0, 64, 1, 0, 0), (4, 12, 65, 4, 41, 0), (0, 0, 68, 0, 0, 0), (9, 1, 69, 0, 0, 0), (0, 4, 70, 0, 0, 0), (6, 3, 71, 45, 6, 0), (8, 0, 74, 109, 92, 1), (0, 8, 77, 1, 3, 0), (4, 12, 80, -66, 10, 0), (0, 4, 83, 0, 0, 0), (0, 0, 84, 1, 0, 0), (8, 0, 85, 82, 74, 2), (9, 1, 88, 0, 0, 0)]
def kX6_readValue : List OP := [(0, 4, 0, 0, 0, 0), (6, 3, 1, 45, 6, 0), (6, 0, 4, 58, 9, 5), (0, 0, 7, 1, 0, 0), (4, 7, 8, 42, 24, 0), (0, 4, 11, 0, 0, 0), (8, 0, 12, 187, 70, 1), (4, 0, 15, 16, 13, 0), (0, 4, 18, 0, 0, 0), (6, 3, 19, 45, 6, 0), (6, 0, 22, 85, 9, 6), (0, 0, 25, 9999, 0, 2), (4, 11, 28, 9, 17, 0), (0, 4, 31, 0, 0, 0), (0, 0, 32, 2, 0, 0), (8, 0, 33, 190, 75, 2), (9, 0, 36, 0, 0, 0), (0, 4, 37, 0, 1, 1), (0, 4, 38, 0, 0, 0), (6, 3, 39, 45, 6, 0), (6, 0, 42, 85, 9, 6), (8, 0, 45, 193, 28, 2), (0, 0, 48, 2, 0, 0), (9, 0, 49, 0, 0, 0), (0, 4, 50, 0, 0, 0), (6, 3, 51, 45, 6, 0), (6, 0, 54, 58, 9, 5), (0, 0, 57, 3, 0, 0), (4, 7, 58, 48, 52, 0), (0, 4, 61, 0, 0, 0), (6, 3, 62, 45, 6, 0), (6, 0, 65, 85, 9, 6), (0, 0, 68, 12, 0, 1), (4, 8, 70, 36, 52, 0), (0, 4, 73, 0, 0, 0), (8, 0, 74, 187, 70, 1), (4, 1, 77, 9, 41, 0), (0, 4, 80, 0, 0, 0), (0, 0, 81, 2, 0, 0), (8, 0, 82, 190, 75, 2), (9, 0, 85, 0, 0, 0), (0, 4, 86, 0, 1, 1), (0, 0, 87, 10000, 0, 2), (0, 4, 90, 0, 0, 0), (6, 3, 91, 45, 6, 0), (6, 0, 94, 85, 9, 6), (1, 0, 97, 0, 0, 0), (0, 0, 98, 12, 0, 1), (1, 1, 100, 0, 0, 0), (8, 0, 101, 193, 28, 2), (0, 0, 104, 2, 0, 0), (9, 0, 105, 0, 0, 0), (0, 2, 106, 0, 2, 2), (4, 0, 107, 35, 71, 0), (0, 4, 110, 0, 0, 0), (6, 3, 111, 45, 6, 0), (0, 0, 114, 11, 0, 1), (8, 0, 116, 196, 93, 2), (4, 0, 119, 23, 71, 0), (0, 4, 122, 0, 0, 0), (8, 0, 123, 187, 70, 1), (4, 1, 126, 9, 66, 0), (0, 4, 129, 0, 0, 0), (0, 0, 130, 2, 0, 0), (8, 0, 131, 190, 75, 2), (9, 0, 134, 0, 0, 0), (0, 4, 135, 0, 0, 0), (0, 0, 136, 2, 0, 0), (8, 0, 137, 199, 68, 2), (0, 0, 140, 0, 0, 0), (9, 0, 141, 0, 0, 0), (0, 4, 142, 0, 0, 0), (6, 3, 143, 45, 6, 0), (0, 0, 146, 13, 0, 1), (8, 0, 148, 125, 94, 2), (4, 0, 151, 36, 95, 0), (0, 4, 154, 0, 0, 0), (6, 0, 155, 19, 6, 3), (0, 0, 158, 8, 0, 1), (4, 8, 160, 9, 84, 0), (0, 4, 163, 0, 0, 0), (0, 0, 164, 2, 0, 0), (8, 0, 165, 190, 75, 2), (9, 0, 168, 0, 0, 0), (0, 4, 169, 0, 0, 0), (3, 0, 170, 0, 0, 0), (6, 0, 171, 19, 6, 3), (0, 0, 174, 1, 0, 0), (1, 0, 175, 0, 0, 0), (7, 0, 176, 19, 6, 3), (0, 4, 179, 0, 0, 0), (0, 0, 180, 13, 0, 1), (8, 0, 182, 199, 68, 2), (0, 0, 185, 0, 0, 0), (9, 0, 186, 0, 0, 0), (0, 4, 187, 0, 0, 0), (0, 0, 188, 1, 0, 0), (8, 0, 189, 190, 75, 2), (9, 0, 192, 0, 0, 0)]
def kX6_readBehind : List OP := [(0, 4, 0, 0, 0, 0), (6, 3, 1, 45, 6, 0), (0, 0, 4, 15, 0, 1), (8, 0, 6, 125, 94, 2), (4, 0, 9, 18, 14, 0), (0, 4, 12, 0, 0, 0), (6, 0, 13, 19, 6, 3), (4, 1, 16, 11, 14, 0), (0, 4, 19, 0, 0, 0), (0, 4, 20, 0, 1, 1), (0, 0, 21, 0, 0, 0), (8, 0, 22, 202, 69, 3), (0, 0, 25, 3, 0, 0), (9, 0, 26, 0, 0, 0), (0, 4, 27, 0, 0, 0), (6, 3, 28, 45, 6, 0), (0, 0, 31, 14, 0, 1), (8, 0, 33, 125, 94, 2), (4, 0, 36, 38, 40, 0), (0, 4, 39, 0, 0, 0), (6, 0, 40, 19, 6, 3), (4, 5, 43, 31, 40, 0), (0, 4, 46, 0, 0, 0), (0, 4, 47, 0, 1, 1), (0, 0, 48, 0, 0, 0), (8, 0, 49, 202, 69, 3), (0, 4, 52, 0, 0, 0), (3, 0, 53, 0, 0, 0), (6, 0, 54, 15, 6, 2), (0, 0, 57, 1, 0, 0), (1, 1, 58, 0, 0, 0), (7, 0, 59, 15, 6, 2), (0, 4, 62, 0, 0, 0), (3, 0, 63, 0, 0, 0), (6, 0, 64, 19, 6, 3), (0, 0, 67, 1, 0, 0), (1, 1, 68, 0, 0, 0), (7, 0, 69, 19, 6, 3), (0, 0, 72, 2, 0, 0), (9, 0, 73, 0, 0, 0), (0, 4, 74, 0, 0, 0), (8, 0, 75, 206, 67, 1), (0, 5, 78, 0, 2, 2), (0, 2, 79, 0, 2, 2), (0, 0, 80, -1, 0, 0), (4, 7, 81, 9, 50, 0), (0, 4, 84, 0, 0, 0), (0, 0, 85, 1, 0, 0), (8, 0, 86, 190, 75, 2), (9, 0, 89, 0, 0, 0), (0, 2, 90, 0, 2, 2), (8, 1, 91, 209, 29, 1), (0, 5, 94, 0, 3, 3), (0, 2, 95, 0, 3, 3), (0, 0, 96, 3, 0, 0), (4, 7, 97, 7, 58, 0), (0, 0, 100, 1, 0, 0), (4, 12, 101, 4, 59, 0), (0, 0, 104, 0, 0, 0), (0, 5, 105, 0, 4, 4), (0, 4, 107, 0, 0, 0), (0, 4, 108, 0, 1, 1), (0, 2, 109, 0, 4, 4), (4, 0, 111, 9, 68, 0), (0, 2, 114, 0, 3, 3), (0, 0, 115, 1, 0, 0), (1, 0, 116, 0, 0, 0), (4, 12, 117, 4, 69, 0), (0, 2, 120, 0, 3, 3), (8, 0, 121, 202, 69, 3), (0, 2, 124, 0, 4, 4), (4, 0, 126, 34, 89, 0), (0, 4, 129, 0, 0, 0), (6, 0, 130, 15, 6, 2), (4, 5, 133, 27, 89, 0), (0, 4, 136, 0, 0, 0), (6, 2, 137, 9, 6, 1), (0, 4, 140, 0, 0, 0), (6, 0, 141, 15, 6, 2), (0, 0, 144, 1, 0, 0), (1, 1, 145, 0, 0, 0), (5, 0, 146, 0, 0, 0), (8, 1, 147, 209, 29, 1), (0, 2, 150, 0, 3, 3), (4, 7, 151, 9, 89, 0), (0, 4, 154, 0, 0, 0), (0, 0, 155, 1, 0, 0), (8, 0, 156, 190, 75, 2), (9, 0, 159, 0, 0, 0), (0, 4, 160, 0, 0, 0), (8, 0, 161, 187, 70, 1), (4, 1, 164, 9, 96, 0), (0, 4, 167, 0, 0, 0), (0, 0, 168, 2, 0, 0), (8, 0, 169, 190, 75, 2), (9, 0, 172, 0, 0, 0), (0, 4, 173, 0, 0, 0), (0, 2, 174, 0, 2, 2), (8, 0, 175, 199, 68, 2), (0, 2, 178, 0, 2, 2), (4, 0, 179, 8, 104, 0), (0, 2, 182, 0, 2, 2), (0, 0, 183, 1, 0, 0), (4, 7, 184, 7, 106, 0), (0, 0, 187, 0, 0, 0), (4, 12, 188, 4, 107, 0), (0, 0, 191, 1, 0, 0), (9, 0, 192, 0, 0, 0)]
def kX6_joiningSign : List OP := [(0, 4, 0, 0, 0, 0), (6, 3, 1, 45, 6, 0), (0, 0, 4, 9, 0, 1), (8, 0, 6, 196, 93, 2), (4, 0, 9, 5, 7, 0), (0, 0, 12, 0, 0, 0), (9, 0, 13, 0, 0, 0), (0, 4, 14, 0, 0, 0), (6, 3, 15, 45, 6, 0), (0, 0, 18, 10, 0, 1), (8, 0, 20, 196, 93, 2), (4, 0, 23, 5, 14, 0), (0, 0, 26, 1, 0, 0), (9, 0, 27, 0, 0, 0), (0, 4, 28, 0, 0, 0), (6, 3, 29, 45, 6, 0), (6, 0, 32, 58, 9, 5), (0, 0, 35, 4, 0, 0), (4, 7, 36, 29, 30, 0), (0, 4, 39, 0, 0, 0), (6, 3, 40, 45, 6, 0), (6, 0, 43, 85, 9, 6), (0, 0, 46, 3, 0, 0), (0, 0, 47, 12, 0, 1), (8, 3, 49, 162, 156, 3), (4, 0, 52, 13, 30, 0), (0, 4, 55, 0, 0, 0), (6, 3, 56, 45, 6, 0), (6, 0, 59, 85, 9, 6), (4, 12, 62, 4, 31, 0), (0, 0, 65, -1, 0, 0), (9, 0, 66, 0, 0, 0)]
def kX6_defer : List OP := [(0, 4, 0, 0, 0, 0), (6, 0, 1, 15, 6, 2), (0, 4, 4, 0, 0, 0), (6, 2, 5, 9, 6, 1), (5, 7, 8, 0, 0, 0), (4, 9, 9, 23, 18, 0), (0, 4, 12, 0, 0, 0), (6, 2, 13, 9, 6, 1), (0, 4, 16, 0, 0, 0), (6, 0, 17, 15, 6, 2), (0, 2, 20, 0, 1, 1), (5, 4, 21, 0, 0, 0), (0, 4, 22, 0, 0, 0), (3, 0, 23, 0, 0, 0), (6, 0, 24, 15, 6, 2), (0, 0, 27, 1, 0, 0), (1, 0, 28, 0, 0, 0), (7, 0, 29, 15, 6, 2), (9, 4, 32, 0, 0, 0)]
def kX6_release : List OP := [(0, 4, 0, 0, 0, 0), (6, 0, 1, 15, 6, 2), (4, 5, 4, 69, 40, 0), (0, 4, 7, 0, 0, 0), (6, 2, 8, 9, 6, 1), (0, 4, 11, 0, 0, 0), (6, 0, 12, 15, 6, 2), (0, 0, 15, 1, 0, 0), (1, 1, 16, 0, 0, 0), (5, 0, 17, 0, 0, 0), (0, 0, 18, 13, 0, 1), (4, 6, 20, 53, 40, 0), (0, 4, 23, 0, 0, 0), (6, 2, 24, 9, 6, 1), (0, 4, 27, 0, 0, 0), (6, 0, 28, 15, 6, 2), (0, 0, 31, 1, 0, 0), (1, 1, 32, 0, 0, 0), (5, 0, 33, 0, 0, 0), (8, 1, 34, 209, 29, 1), (0, 2, 37, 0, 2, 2), (4, 8, 38, 35, 40, 0), (0, 4, 41, 0, 1, 1), (0, 0, 42, 20000, 0, 2), (0, 4, 45, 0, 0, 0), (6, 2, 46, 9, 6, 1), (0, 4, 49, 0, 0, 0), (6, 0, 50, 15, 6, 2), (0, 0, 53, 1, 0, 0), (1, 1, 54, 0, 0, 0), (5, 0, 55, 0, 0, 0), (1, 0, 56, 0, 0, 0), (8, 0, 57, 193, 28, 2), (0, 4, 60, 0, 0, 0), (3, 0, 61, 0, 0, 0), (6, 0, 62, 15, 6, 2), (0, 0, 65, 1, 0, 0), (1, 1, 66, 0, 0, 0), (7, 0, 67, 15, 6, 2), (4, 12, 70, -70, 0, 0), (9, 4, 73, 0, 0, 0)]
def kX6_countKnot : List OP := [(0, 4, 0, 0, 0, 0), (6, 4, 1, 25, 6, 4), (3, 0, 4, 0, 0, 0), (6, 0, 5, 212, 2, 4), (0, 0, 8, 1, 0, 0), (1, 0, 9, 0, 0, 0), (7, 0, 10, 212, 2, 4), (0, 4, 13, 0, 0, 0), (6, 4, 14, 25, 6, 4), (6, 0, 17, 212, 2, 4), (0, 0, 20, 64, 0, 1), (4, 10, 22, 7, 14, 0), (0, 0, 25, 1, 0, 0), (4, 12, 26, 4, 15, 0), (0, 0, 29, 0, 0, 0), (9, 1, 30, 0, 0, 0)]
def kX6_toldGrower : List OP := [(0, 4, 0, 0, 0, 0), (6, 3, 1, 45, 6, 0), (6, 0, 4, 58, 9, 5), (0, 0, 7, 2, 0, 0), (4, 7, 8, 20, 12, 0), (0, 4, 11, 0, 0, 0), (6, 4, 12, 25, 6, 4), (0, 4, 15, 0, 0, 0), (6, 3, 16, 45, 6, 0), (6, 0, 19, 85, 9, 6), (8, 0, 22, 112, 23, 2), (4, 12, 25, 4, 13, 0), (0, 0, 28, -1, 0, 0), (0, 5, 29, 0, 1, 1), (0, 2, 30, 0, 1, 1), (0, 0, 31, -1, 0, 0), (4, 7, 32, 24, 28, 0), (0, 4, 35, 0, 0, 0), (0, 4, 36, 0, 0, 0), (6, 3, 37, 45, 6, 0), (6, 0, 40, 58, 9, 5), (0, 0, 43, 2, 0, 0), (4, 7, 44, 7, 25, 0), (0, 0, 47, 4, 0, 0), (4, 12, 48, 4, 26, 0), (0, 0, 51, 1, 0, 0), (8, 0, 52, 82, 74, 2), (3, 2, 55, 0, 0, 0), (0, 2, 56, 0, 1, 1), (9, 0, 57, 0, 0, 0)]
def kX6_takeNumber : List OP := [(0, 4, 0, 0, 0, 0), (6, 3, 1, 45, 6, 0), (6, 0, 4, 58, 9, 5), (0, 0, 7, 1, 0, 0), (4, 6, 8, 9, 9, 0), (0, 4, 11, 0, 0, 0), (0, 0, 12, 1, 0, 0), (8, 0, 13, 82, 74, 2), (9, 1, 16, 0, 0, 0), (0, 4, 17, 0, 0, 0), (6, 3, 18, 45, 6, 0), (6, 0, 21, 85, 9, 6), (0, 2, 24, 0, 1, 1), (4, 11, 25, 9, 18, 0), (0, 4, 28, 0, 0, 0), (0, 0, 29, 2, 0, 0), (8, 0, 30, 82, 74, 2), (9, 1, 33, 0, 0, 0), (0, 4, 34, 0, 0, 0), (0, 4, 35, 0, 0, 0), (6, 3, 36, 45, 6, 0), (6, 0, 39, 85, 9, 6), (7, 0, 42, 36, 6, 7), (0, 4, 45, 0, 0, 0), (6, 3, 46, 45, 6, 0), (8, 0, 49, 109, 92, 1), (0, 0, 52, 1, 0, 0), (9, 1, 53, 0, 0, 0)]
def kX6_takeSign : List OP := [(0, 4, 0, 0, 0, 0), (6, 3, 1, 45, 6, 0), (0, 2, 4, 0, 1, 1), (8, 0, 5, 125, 94, 2), (4, 1, 8, 9, 9, 0), (0, 4, 11, 0, 0, 0), (0, 0, 12, 1, 0, 0), (8, 0, 13, 82, 74, 2), (9, 1, 16, 0, 0, 0), (0, 4, 17, 0, 0, 0), (6, 3, 18, 45, 6, 0), (8, 0, 21, 109, 92, 1), (0, 0, 24, 1, 0, 0), (9, 1, 25, 0, 0, 0)]
def kX6_fail : List OP := [(0, 4, 0, 0, 0, 0), (0, 2, 1, 0, 1, 1), (7, 0, 2, 39, 6, 8), (0, 4, 5, 0, 0, 0), (0, 4, 6, 0, 0, 0), (6, 3, 7, 45, 6, 0), (6, 0, 10, 215, 9, 7), (7, 0, 13, 42, 6, 9), (0, 0, 16, 0, 0, 0), (9, 1, 17, 0, 0, 0)]
def kX6_failed : List OP := [(0, 4, 0, 0, 0, 0), (0, 2, 1, 0, 1, 1), (8, 0, 2, 82, 74, 2), (3, 2, 5, 0, 0, 0), (0, 0, 6, 4, 0, 0), (9, 0, 7, 0, 0, 0)]
def kX7_prepare : List OP := [(0, 4, 0, 0, 0, 0), (0, 4, 1, 0, 1, 1), (6, 14, 2, 42, 0, 4), (6, 0, 5, 48, 2, 0), (7, 0, 8, 25, 7, 4), (0, 4, 11, 0, 0, 0), (0, 4, 12, 0, 1, 1), (6, 3, 13, 51, 0, 0), (6, 2, 16, 55, 5, 5), (0, 2, 19, 0, 2, 2), (5, 0, 20, 0, 0, 0), (7, 0, 21, 29, 7, 5), (0, 0, 24, 0, 0, 0), (0, 5, 25, 0, 3, 3), (0, 2, 26, 0, 3, 3), (0, 4, 27, 0, 0, 0), (6, 0, 28, 25, 7, 4), (4, 9, 31, 99, 70, 0), (0, 4, 34, 0, 0, 0), (6, 2, 35, 19, 7, 2), (0, 2, 38, 0, 3, 3), (0, 4, 39, 0, 1, 1), (6, 3, 40, 51, 0, 0), (6, 2, 43, 60, 5, 4), (0, 2, 46, 0, 3, 3), (5, 0, 47, 0, 0, 0), (5, 4, 48, 0, 0, 0), (0, 4, 49, 0, 0, 0), (6, 2, 50, 15, 7, 1), (0, 2, 53, 0, 3, 3), (0, 4, 54, 0, 1, 1), (0, 2, 55, 0, 3, 3), (0, 4, 56, 0, 1, 1), (6, 3, 57, 51, 0, 0), (6, 2, 60, 61, 5, 6), (0, 2, 63, 0, 2, 2), (5, 0, 64, 0, 0, 0), (8, 0, 65, 64, 8, 3), (5, 5, 68, 0, 0, 0), (0, 0, 69, 0, 0, 0), (0, 5, 70, 0, 4, 4), (0, 2, 72, 0, 4, 4), (0, 4, 74, 0, 0, 0), (6, 0, 75, 25, 7, 4), (4, 9, 78, 46, 68, 0), (0, 4, 81, 0, 0, 0), (6, 2, 82, 9, 7, 0), (0, 2, 85, 0, 3, 3), (0, 0, 86, 6, 0, 1), (1, 2, 88, 0, 0, 0), (0, 2, 89, 0, 4, 4), (1, 0, 91, 0, 0, 0), (0, 4, 92, 0, 0, 0), (6, 2, 93, 19, 7, 2), (0, 2, 96, 0, 3, 3), (5, 0, 97, 0, 0, 0), (0, 2, 98, 0, 4, 4), (8, 3, 100, 67, 157, 2), (4, 0, 103, 13, 64, 0), (0, 4, 106, 0, 1, 1), (0, 2, 107, 0, 3, 3), (0, 2, 108, 0, 4, 4), (8, 0, 110, 70, 9, 3), (4, 12, 113, 4, 65, 0), (0, 0, 116, 0, 0, 0), (5, 4, 117, 0, 0, 0), (0, 8, 118, 1, 4, 0), (4, 12, 121, -49, 41, 0), (0, 8, 124, 1, 3, 0), (4, 12, 127, -101, 14, 0), (9, 4, 130, 0, 0, 0)]
def kX7_isSeen : List OP := [(0, 4, 0, 0, 0, 0), (6, 2, 1, 19, 7, 2), (0, 2, 4, 0, 1, 1), (0, 0, 5, 6, 0, 1), (1, 9, 7, 0, 0, 0), (5, 0, 8, 0, 0, 0), (0, 2, 9, 0, 1, 1), (0, 0, 10, 6, 0, 1), (1, 10, 12, 0, 0, 0), (8, 3, 13, 67, 157, 2), (9, 1, 16, 0, 0, 0)]
def kX7_turn : List OP := [(0, 4, 0, 0, 0, 0), (6, 2, 1, 19, 7, 2), (0, 2, 4, 0, 1, 1), (0, 0, 5, 6, 0, 1), (1, 9, 7, 0, 0, 0), (3, 1, 8, 0, 0, 0), (5, 0, 9, 0, 0, 0), (0, 0, 10, 1, 0, 0), (0, 2, 11, 0, 1, 1), (0, 0, 12, 6, 0, 1), (1, 10, 14, 0, 0, 0), (1, 6, 15, 0, 0, 0), (1, 5, 16, 0, 0, 0), (5, 4, 17, 0, 0, 0), (9, 4, 18, 0, 0, 0)]
def kX7_follow : List OP := [(0, 4, 0, 0, 0, 0), (6, 0, 1, 29, 7, 5), (0, 5, 4, 0, 1, 1), (0, 0, 5, 0, 0, 0), (0, 5, 6, 0, 2, 2), (0, 0, 7, 0, 0, 0), (0, 5, 8, 0, 3, 3), (0, 2, 9, 0, 3, 3), (0, 4, 10, 0, 0, 0), (6, 0, 11, 25, 7, 4), (4, 10, 14, 106, 72, 0), (0, 2, 17, 0, 2, 2), (0, 2, 18, 0, 1, 1), (8, 3, 19, 67, 157, 2), (4, 0, 22, 32, 32, 0), (0, 4, 25, 0, 0, 0), (0, 0, 26, 1, 0, 0), (7, 1, 27, 32, 7, 6), (0, 4, 30, 0, 0, 0), (0, 4, 31, 0, 0, 0), (6, 2, 32, 22, 7, 3), (0, 2, 35, 0, 1, 1), (5, 0, 36, 0, 0, 0), (7, 0, 37, 36, 7, 7), (0, 4, 40, 0, 0, 0), (0, 4, 41, 0, 0, 0), (0, 4, 42, 0, 0, 0), (6, 0, 43, 36, 7, 7), (0, 2, 46, 0, 2, 2), (8, 0, 47, 73, 80, 3), (7, 0, 50, 39, 7, 8), (9, 4, 53, 0, 0, 0), (0, 2, 54, 0, 2, 2), (0, 0, 55, 1, 0, 0), (0, 2, 56, 0, 1, 1), (1, 6, 57, 0, 0, 0), (1, 4, 58, 0, 0, 0), (0, 5, 59, 0, 2, 2), (0, 4, 60, 0, 0, 0), (6, 2, 61, 22, 7, 3), (0, 2, 64, 0, 1, 1), (0, 2, 65, 0, 3, 3), (5, 4, 66, 0, 0, 0), (0, 4, 67, 0, 0, 0), (6, 2, 68, 15, 7, 1), (0, 2, 71, 0, 1, 1), (5, 1, 72, 0, 0, 0), (4, 0, 73, 11, 52, 0), (0, 4, 76, 0, 0, 0), (0, 2, 77, 0, 1, 1), (8, 0, 78, 75, 81, 2), (4, 12, 81, 5, 53, 0), (0, 0, 84, -2, 0, 1), (0, 5, 86, 0, 4, 4), (0, 2, 88, 0, 4, 4), (4, 3, 90, 21, 68, 0), (0, 4, 93, 0, 0, 0), (0, 0, 94, 0, 0, 0), (7, 1, 95, 32, 7, 6), (0, 4, 98, 0, 0, 0), (0, 2, 99, 0, 3, 3), (7, 0, 100, 36, 7, 7), (0, 4, 103, 0, 0, 0), (0, 0, 104, 1, 0, 0), (0, 2, 105, 0, 1, 1), (1, 6, 106, 0, 0, 0), (7, 0, 107, 39, 7, 8), (9, 4, 110, 0, 0, 0), (0, 2, 111, 0, 4, 4), (0, 5, 113, 0, 1, 1), (0, 8, 114, 1, 3, 0), (4, 12, 117, -108, 7, 0), (9, 4, 120, 0, 0, 0)]
def kX7_since : List OP := [(0, 0, 0, 0, 0, 0), (0, 5, 1, 0, 3, 3), (0, 0, 2, 0, 0, 0), (0, 5, 3, 0, 4, 4), (0, 2, 5, 0, 4, 4), (0, 4, 7, 0, 0, 0), (6, 0, 8, 25, 7, 4), (4, 9, 11, 40, 28, 0), (0, 2, 14, 0, 3, 3), (0, 2, 15, 0, 2, 2), (0, 2, 16, 0, 4, 4), (8, 3, 18, 67, 157, 2), (4, 0, 21, 21, 23, 0), (0, 4, 24, 0, 0, 0), (6, 2, 25, 22, 7, 3), (0, 2, 28, 0, 4, 4), (5, 0, 30, 0, 0, 0), (0, 2, 31, 0, 1, 1), (4, 8, 32, 10, 23, 0), (0, 0, 35, 1, 0, 0), (0, 2, 36, 0, 4, 4), (1, 6, 38, 0, 0, 0), (4, 12, 39, 4, 24, 0), (0, 0, 42, 0, 0, 0), (1, 4, 43, 0, 0, 0), (0, 5, 44, 0, 3, 3), (0, 8, 45, 1, 4, 0), (4, 12, 48, -43, 4, 0), (0, 2, 51, 0, 3, 3), (9, 0, 52, 0, 0, 0)]
def kX7_bestFor : List OP := [(0, 0, 0, -2, 0, 1), (0, 5, 2, 0, 2, 2), (0, 0, 3, 0, 0, 0), (0, 5, 4, 0, 3, 3), (0, 2, 5, 0, 3, 3), (0, 4, 6, 0, 0, 0), (6, 0, 7, 25, 7, 4), (4, 9, 10, 55, 38, 0), (0, 2, 13, 0, 1, 1), (0, 0, 14, 6, 0, 1), (1, 2, 16, 0, 0, 0), (0, 5, 17, 0, 4, 4), (0, 4, 19, 0, 0, 0), (6, 2, 20, 19, 7, 2), (0, 2, 23, 0, 1, 1), (5, 0, 24, 0, 0, 0), (0, 2, 25, 0, 3, 3), (8, 3, 26, 67, 157, 2), (4, 0, 29, 30, 36, 0), (0, 2, 32, 0, 2, 2), (4, 2, 33, 24, 34, 0), (0, 4, 36, 0, 0, 0), (6, 2, 37, 9, 7, 0), (0, 2, 40, 0, 4, 4), (0, 2, 42, 0, 3, 3), (1, 0, 43, 0, 0, 0), (5, 0, 44, 0, 0, 0), (0, 4, 45, 0, 0, 0), (6, 2, 46, 9, 7, 0), (0, 2, 49, 0, 4, 4), (0, 2, 51, 0, 2, 2), (1, 0, 52, 0, 0, 0), (5, 0, 53, 0, 0, 0), (4, 11, 54, 5, 36, 0), (0, 2, 57, 0, 3, 3), (0, 5, 58, 0, 2, 2), (0, 8, 59, 1, 3, 0), (4, 12, 62, -57, 4, 0), (0, 2, 65, 0, 2, 2), (9, 0, 66, 0, 0, 0)]
def kX8_at : List OP := [(0, 2, 0, 0, 1, 1), (4, 2, 1, 20, 11, 0), (0, 2, 4, 0, 1, 1), (0, 4, 5, 0, 0, 0), (6, 0, 6, 18, 8, 2), (4, 9, 9, 12, 11, 0), (0, 4, 12, 0, 0, 0), (6, 2, 13, 15, 8, 1), (0, 2, 16, 0, 1, 1), (5, 0, 17, 0, 0, 0), (4, 12, 18, 5, 12, 0), (0, 0, 21, -2, 0, 1), (9, 0, 23, 0, 0, 0)]
def kX8_seekWalk : List OP := [(0, 4, 0, 0, 0, 0), (0, 4, 1, 0, 1, 1), (6, 0, 2, 25, 2, 0), (0, 2, 5, 0, 2, 2), (8, 0, 6, 30, 85, 3), (0, 0, 9, 0, 0, 0), (0, 5, 10, 0, 3, 3), (0, 2, 11, 0, 3, 3), (0, 0, 12, 720, 0, 2), (4, 9, 15, 75, 47, 0), (0, 0, 18, 0, 0, 0), (0, 5, 19, 0, 4, 4), (0, 2, 21, 0, 2, 2), (0, 5, 22, 0, 5, 4), (0, 0, 24, 0, 0, 0), (0, 5, 25, 0, 6, 4), (0, 2, 27, 0, 6, 4), (0, 4, 29, 0, 0, 0), (6, 0, 30, 18, 8, 2), (4, 9, 33, 36, 37, 0), (0, 2, 36, 0, 4, 4), (0, 4, 38, 0, 1, 1), (0, 2, 39, 0, 5, 4), (0, 4, 41, 0, 0, 0), (6, 2, 42, 9, 8, 0), (0, 2, 45, 0, 6, 4), (5, 0, 47, 0, 0, 0), (8, 0, 48, 34, 24, 3), (1, 0, 51, 0, 0, 0), (0, 5, 52, 0, 4, 4), (0, 4, 54, 0, 0, 0), (6, 2, 55, 9, 8, 0), (0, 2, 58, 0, 6, 4), (5, 0, 60, 0, 0, 0), (0, 5, 61, 0, 5, 4), (0, 8, 63, 1, 6, 0), (4, 12, 66, -39, 16, 0), (0, 4, 69, 0, 0, 0), (0, 2, 70, 0, 3, 3), (0, 2, 71, 0, 4, 4), (8, 0, 73, 38, 86, 3), (0, 4, 76, 0, 0, 0), (8, 0, 77, 41, 87, 1), (4, 1, 80, 4, 45, 0), (9, 4, 83, 0, 0, 0), (0, 8, 84, 1, 3, 0), (4, 12, 87, -76, 7, 0), (9, 4, 90, 0, 0, 0)]
def kX8_seekOrder : List OP := [(0, 4, 0, 0, 0, 0), (0, 2, 1, 0, 1, 1), (0, 0, 2, -1, 0, 0), (8, 0, 3, 30, 85, 3), (0, 0, 6, 0, 0, 0), (0, 5, 7, 0, 4, 4), (0, 2, 9, 0, 4, 4), (0, 0, 11, 720, 0, 2), (4, 9, 14, 82, 51, 0), (0, 0, 17, 0, 0, 0), (0, 5, 18, 0, 5, 4), (0, 0, 20, 0, 0, 0), (0, 5, 21, 0, 6, 4), (0, 0, 23, 0, 0, 0), (0, 5, 24, 0, 7, 4), (0, 2, 26, 0, 7, 4), (0, 4, 28, 0, 0, 0), (6, 0, 29, 18, 8, 2), (4, 9, 32, 42, 41, 0), (0, 2, 35, 0, 5, 4), (0, 4, 37, 0, 2, 2), (0, 4, 38, 0, 0, 0), (6, 2, 39, 9, 8, 0), (0, 2, 42, 0, 7, 4), (5, 0, 44, 0, 0, 0), (0, 2, 45, 0, 6, 4), (0, 4, 47, 0, 3, 3), (8, 0, 48, 45, 108, 4), (1, 0, 51, 0, 0, 0), (0, 5, 52, 0, 5, 4), (0, 2, 54, 0, 6, 4), (0, 0, 56, 1, 0, 0), (0, 4, 57, 0, 0, 0), (6, 2, 58, 9, 8, 0), (0, 2, 61, 0, 7, 4), (5, 0, 63, 0, 0, 0), (1, 6, 64, 0, 0, 0), (1, 4, 65, 0, 0, 0), (0, 5, 66, 0, 6, 4), (0, 8, 68, 1, 7, 0), (4, 12, 71, -45, 15, 0), (0, 4, 74, 0, 0, 0), (0, 2, 75, 0, 4, 4), (0, 2, 77, 0, 5, 4), (8, 0, 79, 38, 86, 3), (0, 4, 82, 0, 0, 0), (8, 0, 83, 41, 87, 1), (4, 1, 86, 4, 49, 0), (9, 4, 89, 0, 0, 0), (0, 8, 90, 1, 4, 0), (4, 12, 93, -84, 6, 0), (9, 4, 96, 0, 0, 0)]
def kX8_begin : List OP := [(0, 4, 0, 0, 0, 0), (0, 0, 1, 0, 0, 0), (7, 0, 2, 18, 8, 2), (0, 0, 5, 0, 0, 0), (0, 5, 6, 0, 3, 3), (0, 2, 7, 0, 3, 3), (0, 2, 8, 0, 1, 1), (4, 9, 9, 34, 25, 0), (0, 2, 12, 0, 3, 3), (0, 2, 13, 0, 2, 2), (4, 6, 14, 23, 23, 0), (0, 4, 17, 0, 0, 0), (6, 2, 18, 9, 8, 0), (0, 4, 21, 0, 0, 0), (6, 0, 22, 18, 8, 2), (0, 2, 25, 0, 3, 3), (5, 4, 26, 0, 0, 0), (0, 4, 27, 0, 0, 0), (3, 0, 28, 0, 0, 0), (6, 0, 29, 18, 8, 2), (0, 0, 32, 1, 0, 0), (1, 0, 33, 0, 0, 0), (7, 0, 34, 18, 8, 2), (0, 8, 37, 1, 3, 0), (4, 12, 40, -33, 5, 0), (9, 4, 43, 0, 0, 0)]
def kX8_take : List OP := [(0, 2, 0, 0, 1, 1), (4, 0, 1, 11, 6, 0), (0, 2, 4, 0, 2, 2), (0, 4, 5, 0, 0, 0), (6, 0, 6, 22, 8, 3), (4, 9, 9, 25, 18, 0), (0, 4, 12, 0, 0, 0), (0, 2, 13, 0, 2, 2), (7, 0, 14, 22, 8, 3), (0, 4, 17, 0, 0, 0), (6, 2, 18, 9, 8, 0), (0, 0, 21, 0, 0, 0), (0, 4, 22, 0, 0, 0), (6, 2, 23, 15, 8, 1), (0, 0, 26, 0, 0, 0), (0, 4, 27, 0, 0, 0), (6, 0, 28, 18, 8, 2), (8, 4, 31, 51, 0, 5), (9, 4, 34, 0, 0, 0)]
def kX8_advance : List OP := [(0, 0, 0, -1, 0, 0), (0, 5, 1, 0, 1, 1), (0, 0, 2, 0, 0, 0), (0, 5, 3, 0, 2, 2), (0, 2, 4, 0, 2, 2), (0, 0, 5, 1, 0, 0), (1, 0, 6, 0, 0, 0), (0, 4, 7, 0, 0, 0), (6, 0, 8, 18, 8, 2), (4, 9, 11, 32, 27, 0), (0, 4, 14, 0, 0, 0), (6, 2, 15, 9, 8, 0), (0, 2, 18, 0, 2, 2), (5, 0, 19, 0, 0, 0), (0, 4, 20, 0, 0, 0), (6, 2, 21, 9, 8, 0), (0, 2, 24, 0, 2, 2), (0, 0, 25, 1, 0, 0), (1, 0, 26, 0, 0, 0), (5, 0, 27, 0, 0, 0), (4, 9, 28, 7, 23, 0), (0, 2, 31, 0, 2, 2), (4, 12, 32, 4, 24, 0), (0, 2, 35, 0, 1, 1), (0, 5, 36, 0, 1, 1), (0, 8, 37, 1, 2, 0), (4, 12, 40, -36, 4, 0), (0, 2, 43, 0, 1, 1), (0, 0, 44, -1, 0, 0), (4, 7, 45, 5, 32, 0), (0, 0, 48, 0, 0, 0), (9, 1, 49, 0, 0, 0), (0, 2, 50, 0, 1, 1), (0, 0, 51, 1, 0, 0), (1, 0, 52, 0, 0, 0), (0, 5, 53, 0, 2, 2), (0, 2, 54, 0, 1, 1), (0, 0, 55, 1, 0, 0), (1, 0, 56, 0, 0, 0), (0, 5, 57, 0, 3, 3), (0, 2, 58, 0, 3, 3), (0, 4, 59, 0, 0, 0), (6, 0, 60, 18, 8, 2), (4, 9, 63, 30, 59, 0), (0, 4, 66, 0, 0, 0), (6, 2, 67, 9, 8, 0), (0, 2, 70, 0, 3, 3), (5, 0, 71, 0, 0, 0), (0, 4, 72, 0, 0, 0), (6, 2, 73, 9, 8, 0), (0, 2, 76, 0, 1, 1), (5, 0, 77, 0, 0, 0), (4, 11, 78, 7, 55, 0), (0, 2, 81, 0, 3, 3), (4, 12, 82, 4, 56, 0), (0, 2, 85, 0, 2, 2), (0, 5, 86, 0, 2, 2), (0, 8, 87, 1, 3, 0), (4, 12, 90, -32, 40, 0), (0, 4, 93, 0, 0, 0), (0, 2, 94, 0, 1, 1), (0, 2, 95, 0, 2, 2), (8, 0, 96, 57, 88, 3), (0, 2, 99, 0, 1, 1), (0, 0, 100, 1, 0, 0), (1, 0, 101, 0, 0, 0), (0, 5, 102, 0, 3, 3), (0, 4, 103, 0, 0, 0), (6, 0, 104, 18, 8, 2), (0, 0, 107, 1, 0, 0), (1, 1, 108, 0, 0, 0), (0, 5, 109, 0, 4, 4), (0, 2, 111, 0, 3, 3), (0, 2, 112, 0, 4, 4), (4, 9, 114, 19, 82, 0), (0, 4, 117, 0, 0, 0), (0, 2, 118, 0, 3, 3), (0, 2, 119, 0, 4, 4), (8, 0, 121, 57, 88, 3), (0, 8, 124, 1, 3, 0), (0, 8, 127, -1, 4, 0), (4, 12, 130, -19, 72, 0), (0, 0, 133, 1, 0, 0), (9, 1, 134, 0, 0, 0)]
def kX8_swap : List OP := [(0, 4, 0, 0, 0, 0), (6, 2, 1, 9, 8, 0), (0, 2, 4, 0, 1, 1), (5, 0, 5, 0, 0, 0), (0, 5, 6, 0, 3, 3), (0, 4, 7, 0, 0, 0), (6, 2, 8, 9, 8, 0), (0, 2, 11, 0, 1, 1), (0, 4, 12, 0, 0, 0), (6, 2, 13, 9, 8, 0), (0, 2, 16, 0, 2, 2), (5, 0, 17, 0, 0, 0), (5, 4, 18, 0, 0, 0), (0, 4, 19, 0, 0, 0), (6, 2, 20, 9, 8, 0), (0, 2, 23, 0, 2, 2), (0, 2, 24, 0, 3, 3), (5, 4, 25, 0, 0, 0), (9, 4, 26, 0, 0, 0)]
def kX9_hasRoom : List OP := [(0, 4, 0, 0, 0, 0), (6, 0, 1, 26, 9, 4), (0, 0, 4, 20, 0, 1), (1, 0, 6, 0, 0, 0), (0, 0, 7, 700, 0, 2), (4, 10, 10, 7, 8, 0), (0, 0, 13, 1, 0, 0), (4, 12, 14, 4, 9, 0), (0, 0, 17, 0, 0, 0), (9, 1, 18, 0, 0, 0)]
def kX9_add : List OP := [(0, 0, 0, 24, 0, 1), (0, 5, 2, 0, 2, 2), (0, 2, 3, 0, 2, 2), (4, 2, 4, 42, 25, 0), (0, 4, 7, 0, 0, 0), (6, 0, 8, 26, 9, 4), (0, 0, 11, 700, 0, 2), (4, 9, 14, 32, 25, 0), (0, 4, 17, 0, 0, 0), (6, 2, 18, 15, 9, 1), (0, 4, 21, 0, 0, 0), (6, 0, 22, 26, 9, 4), (0, 2, 25, 0, 1, 1), (0, 2, 26, 0, 2, 2), (1, 7, 27, 0, 0, 0), (1, 14, 28, 0, 0, 0), (5, 5, 29, 0, 0, 0), (0, 4, 30, 0, 0, 0), (3, 0, 31, 0, 0, 0), (6, 0, 32, 26, 9, 4), (0, 0, 35, 1, 0, 0), (1, 0, 36, 0, 0, 0), (7, 0, 37, 26, 9, 4), (0, 8, 40, -8, 2, 0), (4, 12, 43, -40, 2, 0), (9, 4, 46, 0, 0, 0)]
def kX9_begin : List OP := [(0, 4, 0, 0, 0, 0), (0, 2, 1, 0, 1, 1), (0, 0, 2, 700, 0, 2), (4, 9, 5, 7, 6, 0), (0, 2, 8, 0, 1, 1), (4, 12, 9, 6, 7, 0), (0, 0, 12, 700, 0, 2), (7, 0, 15, 19, 9, 2), (0, 4, 18, 0, 0, 0), (0, 0, 19, 0, 0, 0), (7, 0, 20, 23, 9, 3), (0, 4, 23, 0, 0, 0), (0, 0, 24, 0, 0, 0), (7, 0, 25, 26, 9, 4), (0, 4, 28, 0, 0, 0), (8, 0, 29, 49, 92, 1), (9, 4, 32, 0, 0, 0)]
def kX9_advance : List OP := [(0, 4, 0, 0, 0, 0), (6, 0, 1, 23, 9, 3), (0, 4, 4, 0, 0, 0), (6, 0, 5, 19, 9, 2), (4, 9, 8, 44, 26, 0), (0, 4, 11, 0, 0, 0), (6, 2, 12, 15, 9, 1), (0, 4, 15, 0, 0, 0), (6, 0, 16, 23, 9, 3), (5, 1, 19, 0, 0, 0), (0, 0, 20, 10, 0, 1), (4, 6, 22, 17, 19, 0), (0, 4, 25, 0, 0, 0), (6, 2, 26, 15, 9, 1), (0, 4, 29, 0, 0, 0), (6, 0, 30, 23, 9, 3), (5, 1, 33, 0, 0, 0), (0, 0, 34, 32, 0, 1), (4, 7, 36, 16, 26, 0), (0, 4, 39, 0, 0, 0), (3, 0, 40, 0, 0, 0), (6, 0, 41, 23, 9, 3), (0, 0, 44, 1, 0, 0), (1, 0, 45, 0, 0, 0), (7, 0, 46, 23, 9, 3), (4, 12, 49, -49, 0, 0), (0, 4, 52, 0, 0, 0), (0, 4, 53, 0, 0, 0), (6, 0, 54, 23, 9, 3), (7, 0, 57, 35, 9, 7), (0, 4, 60, 0, 0, 0), (0, 0, 61, 0, 0, 0), (7, 0, 62, 32, 9, 6), (0, 4, 65, 0, 0, 0), (6, 0, 66, 23, 9, 3), (0, 4, 69, 0, 0, 0), (6, 0, 70, 19, 9, 2), (4, 8, 73, 11, 42, 0), (0, 4, 76, 0, 0, 0), (0, 0, 77, 0, 0, 0), (7, 0, 78, 29, 9, 5), (4, 12, 81, 52, 65, 0), (0, 4, 84, 0, 0, 0), (0, 4, 85, 0, 0, 0), (6, 0, 86, 23, 9, 3), (8, 0, 89, 52, 95, 2), (4, 0, 92, 10, 50, 0), (0, 4, 95, 0, 0, 0), (8, 0, 96, 56, 97, 1), (4, 12, 99, 34, 65, 0), (0, 4, 102, 0, 0, 0), (0, 4, 103, 0, 0, 0), (6, 0, 104, 23, 9, 3), (8, 0, 107, 59, 96, 2), (4, 0, 110, 10, 58, 0), (0, 4, 113, 0, 0, 0), (8, 0, 114, 62, 98, 1), (4, 12, 117, 16, 65, 0), (0, 4, 120, 0, 0, 0), (0, 4, 121, 0, 0, 0), (6, 2, 122, 15, 9, 1), (0, 4, 125, 0, 0, 0), (6, 0, 126, 23, 9, 3), (5, 1, 129, 0, 0, 0), (8, 0, 130, 65, 99, 2), (9, 4, 133, 0, 0, 0)]
def kX9_isWord : List OP := [(0, 4, 0, 0, 0, 0), (6, 0, 1, 29, 9, 5), (0, 0, 4, 3, 0, 0), (4, 7, 5, 15, 10, 0), (0, 4, 8, 0, 0, 0), (6, 0, 9, 32, 9, 6), (0, 2, 12, 0, 1, 1), (4, 7, 13, 7, 10, 0), (0, 0, 16, 1, 0, 0), (4, 12, 17, 4, 11, 0), (0, 0, 20, 0, 0, 0), (9, 1, 21, 0, 0, 0)]
def kX9_isSign : List OP := [(0, 4, 0, 0, 0, 0), (6, 0, 1, 29, 9, 5), (0, 0, 4, 4, 0, 0), (4, 7, 5, 15, 10, 0), (0, 4, 8, 0, 0, 0), (6, 0, 9, 32, 9, 6), (0, 2, 12, 0, 1, 1), (4, 7, 13, 7, 10, 0), (0, 0, 16, 1, 0, 0), (4, 12, 17, 4, 11, 0), (0, 0, 20, 0, 0, 0), (9, 1, 21, 0, 0, 0)]
def kX9_isLetter : List OP := [(0, 2, 0, 0, 1, 1), (0, 4, 1, 0, 0, 0), (6, 0, 2, 19, 9, 2), (4, 9, 5, 29, 18, 0), (0, 4, 8, 0, 0, 0), (6, 2, 9, 15, 9, 1), (0, 2, 12, 0, 1, 1), (5, 1, 13, 0, 0, 0), (0, 0, 14, 97, 0, 1), (4, 8, 16, 18, 18, 0), (0, 4, 19, 0, 0, 0), (6, 2, 20, 15, 9, 1), (0, 2, 23, 0, 1, 1), (5, 1, 24, 0, 0, 0), (0, 0, 25, 122, 0, 1), (4, 10, 27, 7, 18, 0), (0, 0, 30, 1, 0, 0), (4, 12, 31, 4, 19, 0), (0, 0, 34, 0, 0, 0), (9, 1, 35, 0, 0, 0)]
def kX9_isDigit : List OP := [(0, 2, 0, 0, 1, 1), (0, 4, 1, 0, 0, 0), (6, 0, 2, 19, 9, 2), (4, 9, 5, 29, 18, 0), (0, 4, 8, 0, 0, 0), (6, 2, 9, 15, 9, 1), (0, 2, 12, 0, 1, 1), (5, 1, 13, 0, 0, 0), (0, 0, 14, 48, 0, 1), (4, 8, 16, 18, 18, 0), (0, 4, 19, 0, 0, 0), (6, 2, 20, 15, 9, 1), (0, 2, 23, 0, 1, 1), (5, 1, 24, 0, 0, 0), (0, 0, 25, 57, 0, 1), (4, 10, 27, 7, 18, 0), (0, 0, 30, 1, 0, 0), (4, 12, 31, 4, 19, 0), (0, 0, 34, 0, 0, 0), (9, 1, 35, 0, 0, 0)]
def kX9_readWord : List OP := [(0, 0, 0, 0, 0, 0), (0, 5, 1, 0, 1, 1), (0, 4, 2, 0, 0, 0), (6, 0, 3, 23, 9, 3), (0, 4, 6, 0, 0, 0), (6, 0, 7, 19, 9, 2), (4, 9, 10, 46, 33, 0), (0, 4, 13, 0, 0, 0), (0, 4, 14, 0, 0, 0), (6, 0, 15, 23, 9, 3), (8, 0, 18, 52, 95, 2), (4, 0, 21, 35, 33, 0), (0, 2, 24, 0, 1, 1), (0, 0, 25, 5, 0, 0), (1, 6, 26, 0, 0, 0), (0, 4, 27, 0, 0, 0), (6, 2, 28, 15, 9, 1), (0, 4, 31, 0, 0, 0), (6, 0, 32, 23, 9, 3), (5, 1, 35, 0, 0, 0), (0, 0, 36, 97, 0, 1), (1, 1, 38, 0, 0, 0), (0, 0, 39, 1, 0, 0), (1, 0, 40, 0, 0, 0), (1, 4, 41, 0, 0, 0), (0, 5, 42, 0, 1, 1), (0, 4, 43, 0, 0, 0), (3, 0, 44, 0, 0, 0), (6, 0, 45, 23, 9, 3), (0, 0, 48, 1, 0, 0), (1, 0, 49, 0, 0, 0), (7, 0, 50, 23, 9, 3), (4, 12, 53, -51, 2, 0), (0, 4, 56, 0, 0, 0), (6, 0, 57, 23, 9, 3), (0, 4, 60, 0, 0, 0), (6, 0, 61, 35, 9, 7), (1, 1, 64, 0, 0, 0), (0, 5, 65, 0, 2, 2), (0, 2, 66, 0, 2, 2), (0, 0, 67, 6, 0, 1), (4, 11, 69, 9, 46, 0), (0, 4, 72, 0, 0, 0), (0, 0, 73, 5, 0, 0), (7, 0, 74, 29, 9, 5), (9, 4, 77, 0, 0, 0), (0, 4, 78, 0, 0, 0), (0, 0, 79, 2, 0, 0), (7, 0, 80, 29, 9, 5), (0, 4, 83, 0, 0, 0), (0, 2, 84, 0, 1, 1), (0, 0, 85, 5, 0, 0), (0, 0, 86, 6, 0, 1), (0, 2, 88, 0, 2, 2), (1, 1, 89, 0, 0, 0), (1, 2, 90, 0, 0, 0), (1, 6, 91, 0, 0, 0), (7, 0, 92, 32, 9, 6), (0, 0, 95, 0, 0, 0), (0, 5, 96, 0, 3, 3), (0, 2, 97, 0, 3, 3), (0, 0, 98, 19, 0, 1), (4, 9, 100, 40, 82, 0), (0, 4, 103, 0, 0, 0), (6, 0, 104, 29, 9, 5), (0, 0, 107, 2, 0, 0), (4, 7, 108, 26, 80, 0), (0, 4, 111, 0, 0, 0), (6, 2, 112, 11, 9, 0), (0, 2, 115, 0, 3, 3), (5, 0, 116, 0, 0, 0), (0, 4, 117, 0, 0, 0), (6, 0, 118, 32, 9, 6), (4, 7, 121, 13, 80, 0), (0, 4, 124, 0, 0, 0), (0, 0, 125, 3, 0, 0), (7, 0, 126, 29, 9, 5), (0, 4, 129, 0, 0, 0), (0, 2, 130, 0, 3, 3), (7, 0, 131, 32, 9, 6), (0, 8, 134, 1, 3, 0), (4, 12, 137, -40, 60, 0), (9, 4, 140, 0, 0, 0)]
def kX9_readNumber : List OP := [(0, 4, 0, 0, 0, 0), (0, 0, 1, 1, 0, 0), (7, 0, 2, 29, 9, 5), (0, 4, 5, 0, 0, 0), (6, 0, 6, 23, 9, 3), (0, 4, 9, 0, 0, 0), (6, 0, 10, 19, 9, 2), (4, 9, 13, 64, 41, 0), (0, 4, 16, 0, 0, 0), (0, 4, 17, 0, 0, 0), (6, 0, 18, 23, 9, 3), (8, 0, 21, 59, 96, 2), (4, 0, 24, 53, 41, 0), (0, 4, 27, 0, 0, 0), (6, 0, 28, 32, 9, 6), (0, 0, 31, 10, 0, 1), (1, 2, 33, 0, 0, 0), (0, 4, 34, 0, 0, 0), (6, 2, 35, 15, 9, 1), (0, 4, 38, 0, 0, 0), (6, 0, 39, 23, 9, 3), (5, 1, 42, 0, 0, 0), (1, 0, 43, 0, 0, 0), (0, 0, 44, 48, 0, 1), (1, 1, 46, 0, 0, 0), (0, 5, 47, 0, 1, 1), (0, 4, 48, 0, 0, 0), (0, 2, 49, 0, 1, 1), (0, 0, 50, 1000000, 69, 3), (4, 9, 52, 7, 32, 0), (0, 2, 55, 0, 1, 1), (4, 12, 56, 5, 33, 0), (0, 0, 59, 1000000, 69, 3), (7, 0, 61, 32, 9, 6), (0, 4, 64, 0, 0, 0), (3, 0, 65, 0, 0, 0), (6, 0, 66, 23, 9, 3), (0, 0, 69, 1, 0, 0), (1, 0, 70, 0, 0, 0), (7, 0, 71, 23, 9, 3), (4, 12, 74, -69, 3, 0), (9, 4, 77, 0, 0, 0)]
def kX9_readSign : List OP := [(0, 4, 0, 0, 0, 0), (3, 0, 1, 0, 0, 0), (6, 0, 2, 23, 9, 3), (0, 0, 5, 1, 0, 0), (1, 0, 6, 0, 0, 0), (7, 0, 7, 23, 9, 3), (0, 4, 10, 0, 0, 0), (0, 2, 11, 0, 1, 1), (8, 1, 12, 70, 100, 1), (7, 0, 15, 32, 9, 6), (0, 4, 18, 0, 0, 0), (0, 4, 19, 0, 0, 0), (6, 0, 20, 32, 9, 6), (0, 0, 23, -1, 0, 0), (4, 7, 24, 7, 17, 0), (0, 0, 27, 5, 0, 0), (4, 12, 28, 4, 18, 0), (0, 0, 31, 4, 0, 0), (7, 0, 32, 29, 9, 5), (0, 4, 35, 0, 0, 0), (6, 0, 36, 23, 9, 3), (0, 4, 39, 0, 0, 0), (6, 0, 40, 19, 9, 2), (4, 9, 43, 15, 30, 0), (0, 4, 46, 0, 0, 0), (6, 2, 47, 15, 9, 1), (0, 4, 50, 0, 0, 0), (6, 0, 51, 23, 9, 3), (5, 1, 54, 0, 0, 0), (4, 12, 55, 4, 31, 0), (0, 0, 58, -1, 0, 0), (0, 5, 59, 0, 2, 2), (0, 4, 60, 0, 0, 0), (6, 0, 61, 32, 9, 6), (0, 0, 64, 3, 0, 0), (4, 7, 65, 27, 49, 0), (0, 2, 68, 0, 2, 2), (0, 0, 69, 61, 0, 1), (4, 7, 71, 21, 49, 0), (0, 4, 74, 0, 0, 0), (0, 0, 75, 4, 0, 0), (7, 0, 76, 32, 9, 6), (0, 4, 79, 0, 0, 0), (3, 0, 80, 0, 0, 0), (6, 0, 81, 23, 9, 3), (0, 0, 84, 1, 0, 0), (1, 0, 85, 0, 0, 0), (7, 0, 86, 23, 9, 3), (4, 12, 89, 67, 82, 0), (0, 4, 92, 0, 0, 0), (6, 0, 93, 32, 9, 6), (0, 0, 96, 3, 0, 0), (4, 7, 97, 28, 66, 0), (0, 2, 100, 0, 2, 2), (0, 0, 101, 62, 0, 1), (4, 7, 103, 22, 66, 0), (0, 4, 106, 0, 0, 0), (0, 0, 107, 6, 0, 1), (7, 0, 109, 32, 9, 6), (0, 4, 112, 0, 0, 0), (3, 0, 113, 0, 0, 0), (6, 0, 114, 23, 9, 3), (0, 0, 117, 1, 0, 0), (1, 0, 118, 0, 0, 0), (7, 0, 119, 23, 9, 3), (4, 12, 122, 34, 82, 0), (0, 4, 125, 0, 0, 0), (6, 0, 126, 32, 9, 6), (0, 0, 129, 8, 0, 1), (4, 7, 131, 25, 82, 0), (0, 2, 134, 0, 2, 2), (0, 0, 135, 61, 0, 1), (4, 7, 137, 19, 82, 0), (0, 4, 140, 0, 0, 0), (0, 0, 141, 7, 0, 1), (7, 0, 143, 32, 9, 6), (0, 4, 146, 0, 0, 0), (3, 0, 147, 0, 0, 0), (6, 0, 148, 23, 9, 3), (0, 0, 151, 1, 0, 0), (1, 0, 152, 0, 0, 0), (7, 0, 153, 23, 9, 3), (9, 4, 156, 0, 0, 0)]
def kX9_signOf : List OP := [(0, 2, 0, 0, 0, 0), (4, 13, 1, 40, 22, 2), (0, 0, 108, 3, 0, 0), (9, 0, 109, 0, 0, 0), (0, 0, 110, 8, 0, 1), (9, 0, 112, 0, 0, 0), (0, 0, 113, 5, 0, 0), (9, 0, 114, 0, 0, 0), (0, 0, 115, 9, 0, 1), (9, 0, 117, 0, 0, 0), (0, 0, 118, 10, 0, 1), (9, 0, 120, 0, 0, 0), (0, 0, 121, 11, 0, 1), (9, 0, 123, 0, 0, 0), (0, 0, 124, 12, 0, 1), (9, 0, 126, 0, 0, 0), (0, 0, 127, 13, 0, 1), (9, 0, 129, 0, 0, 0), (0, 0, 130, 14, 0, 1), (9, 0, 132, 0, 0, 0), (0, 0, 133, 15, 0, 1), (9, 0, 135, 0, 0, 0), (0, 0, 136, -1, 0, 0), (9, 0, 137, 0, 0, 0)]
def kX10_forget : List OP := [(0, 4, 0, 0, 0, 0), (0, 0, 1, 0, 0, 0), (7, 0, 2, 31, 10, 6), (0, 4, 5, 0, 0, 0), (0, 0, 6, -1, 0, 0), (7, 0, 7, 35, 10, 7), (9, 4, 10, 0, 0, 0)]
def kX10_end : List OP := [(0, 4, 0, 0, 0, 0), (6, 0, 1, 35, 10, 7), (0, 0, 4, -1, 0, 0), (4, 7, 5, 10, 7, 0), (0, 4, 8, 0, 0, 0), (6, 0, 9, 31, 10, 6), (4, 12, 12, 7, 9, 0), (0, 4, 15, 0, 0, 0), (6, 0, 16, 35, 10, 7), (9, 0, 19, 0, 0, 0)]
def kX10_addHanding : List OP := [(0, 4, 0, 0, 0, 0), (0, 0, 1, 0, 0, 0), (0, 2, 2, 0, 1, 1), (0, 2, 3, 0, 2, 2), (8, 0, 4, 38, 106, 4), (9, 0, 7, 0, 0, 0)]
def kX10_addSight : List OP := [(0, 4, 0, 0, 0, 0), (0, 0, 1, 1, 0, 0), (0, 2, 2, 0, 2, 2), (0, 2, 3, 0, 3, 3), (8, 0, 4, 38, 106, 4), (0, 5, 7, 0, 5, 4), (0, 2, 9, 0, 5, 4), (4, 2, 11, 20, 18, 0), (0, 4, 14, 0, 0, 0), (6, 2, 15, 21, 10, 3), (0, 2, 18, 0, 5, 4), (0, 2, 20, 0, 1, 1), (5, 4, 21, 0, 0, 0), (0, 4, 22, 0, 0, 0), (6, 2, 23, 24, 10, 4), (0, 2, 26, 0, 5, 4), (0, 2, 28, 0, 4, 4), (5, 5, 30, 0, 0, 0), (0, 2, 31, 0, 5, 4), (9, 0, 33, 0, 0, 0)]
def kX10_addStrike : List OP := [(0, 4, 0, 0, 0, 0), (0, 0, 1, 2, 0, 0), (0, 2, 2, 0, 1, 1), (0, 0, 3, 0, 0, 0), (8, 0, 4, 38, 106, 4), (9, 0, 7, 0, 0, 0)]
def kX10_add : List OP := [(0, 4, 0, 0, 0, 0), (6, 0, 1, 31, 10, 6), (0, 0, 4, 24, 0, 1), (4, 8, 6, 5, 6, 0), (0, 0, 9, -1, 0, 0), (9, 0, 10, 0, 0, 0), (0, 4, 11, 0, 0, 0), (6, 2, 12, 11, 10, 0), (0, 4, 15, 0, 0, 0), (6, 0, 16, 31, 10, 6), (0, 2, 19, 0, 1, 1), (5, 4, 20, 0, 0, 0), (0, 4, 21, 0, 0, 0), (6, 2, 22, 15, 10, 1), (0, 4, 25, 0, 0, 0), (6, 0, 26, 31, 10, 6), (0, 2, 29, 0, 2, 2), (5, 4, 30, 0, 0, 0), (0, 4, 31, 0, 0, 0), (6, 2, 32, 18, 10, 2), (0, 4, 35, 0, 0, 0), (6, 0, 36, 31, 10, 6), (0, 2, 39, 0, 3, 3), (5, 4, 40, 0, 0, 0), (0, 4, 41, 0, 0, 0), (3, 0, 42, 0, 0, 0), (6, 0, 43, 31, 10, 6), (0, 0, 46, 1, 0, 0), (1, 0, 47, 0, 0, 0), (7, 0, 48, 31, 10, 6), (0, 4, 51, 0, 0, 0), (6, 0, 52, 31, 10, 6), (0, 0, 55, 1, 0, 0), (1, 1, 56, 0, 0, 0), (9, 0, 57, 0, 0, 0)]
def kX10_mark : List OP := [(0, 4, 0, 0, 0, 0), (8, 0, 1, 42, 102, 1), (0, 5, 4, 0, 1, 1), (0, 0, 5, 0, 0, 0), (0, 5, 6, 0, 2, 2), (0, 2, 7, 0, 2, 2), (0, 0, 8, 24, 0, 1), (4, 9, 10, 25, 20, 0), (0, 4, 13, 0, 0, 0), (6, 2, 14, 28, 10, 5), (0, 2, 17, 0, 2, 2), (0, 2, 18, 0, 2, 2), (0, 2, 19, 0, 1, 1), (4, 9, 20, 7, 16, 0), (0, 0, 23, 1, 0, 0), (4, 12, 24, 4, 17, 0), (0, 0, 27, 0, 0, 0), (5, 5, 28, 0, 0, 0), (0, 8, 29, 1, 2, 0), (4, 12, 32, -25, 5, 0), (0, 2, 35, 0, 1, 1), (0, 0, 36, 1, 0, 0), (1, 1, 37, 0, 0, 0), (0, 5, 38, 0, 2, 2), (0, 2, 39, 0, 2, 2), (4, 2, 40, 40, 47, 0), (0, 4, 43, 0, 0, 0), (6, 2, 44, 28, 10, 5), (0, 2, 47, 0, 2, 2), (5, 1, 48, 0, 0, 0), (4, 0, 49, 25, 45, 0), (0, 4, 52, 0, 0, 0), (6, 2, 53, 11, 10, 0), (0, 2, 56, 0, 2, 2), (5, 0, 57, 0, 0, 0), (0, 0, 58, 2, 0, 0), (4, 7, 59, 15, 45, 0), (0, 4, 62, 0, 0, 0), (6, 2, 63, 28, 10, 5), (0, 4, 66, 0, 0, 0), (6, 2, 67, 15, 10, 1), (0, 2, 70, 0, 2, 2), (5, 0, 71, 0, 0, 0), (0, 0, 72, 0, 0, 0), (5, 5, 73, 0, 0, 0), (0, 8, 74, -1, 2, 0), (4, 12, 77, -38, 24, 0), (9, 4, 80, 0, 0, 0)]
def kX10_clashes : List OP := [(0, 0, 0, 0, 0, 0), (0, 5, 1, 0, 4, 4), (0, 0, 3, 0, 0, 0), (0, 5, 4, 0, 5, 4), (0, 2, 6, 0, 5, 4), (0, 4, 8, 0, 0, 0), (6, 0, 9, 31, 10, 6), (4, 9, 12, 79, 48, 0), (0, 4, 15, 0, 0, 0), (6, 2, 16, 28, 10, 5), (0, 2, 19, 0, 5, 4), (5, 1, 21, 0, 0, 0), (4, 0, 22, 28, 26, 0), (0, 4, 25, 0, 0, 0), (6, 2, 26, 11, 10, 0), (0, 2, 29, 0, 5, 4), (5, 0, 31, 0, 0, 0), (4, 1, 32, 18, 26, 0), (0, 4, 35, 0, 0, 0), (6, 2, 36, 18, 10, 2), (0, 2, 39, 0, 5, 4), (5, 0, 41, 0, 0, 0), (0, 2, 42, 0, 1, 1), (4, 7, 43, 7, 26, 0), (0, 0, 46, 1, 0, 0), (4, 12, 47, 4, 27, 0), (0, 0, 50, 0, 0, 0), (0, 5, 51, 0, 6, 4), (0, 2, 53, 0, 4, 4), (0, 2, 55, 0, 6, 4), (4, 0, 57, 24, 43, 0), (0, 4, 60, 0, 3, 3), (6, 2, 61, 46, 5, 4), (0, 4, 64, 0, 0, 0), (6, 2, 65, 15, 10, 1), (0, 2, 68, 0, 5, 4), (5, 0, 70, 0, 0, 0), (5, 0, 71, 0, 0, 0), (0, 2, 72, 0, 2, 2), (1, 3, 73, 0, 0, 0), (4, 0, 74, 7, 43, 0), (0, 0, 77, 1, 0, 0), (4, 12, 78, 4, 44, 0), (0, 0, 81, 0, 0, 0), (1, 0, 82, 0, 0, 0), (0, 5, 83, 0, 4, 4), (0, 8, 85, 1, 5, 0), (4, 12, 88, -82, 4, 0), (0, 2, 91, 0, 4, 4), (9, 0, 93, 0, 0, 0)]
def kX10_lastYear : List OP := [(0, 0, 0, 0, 0, 0), (0, 5, 1, 0, 1, 1), (0, 0, 2, 0, 0, 0), (0, 5, 3, 0, 2, 2), (0, 2, 4, 0, 2, 2), (0, 4, 5, 0, 0, 0), (6, 0, 6, 31, 10, 6), (4, 9, 9, 45, 32, 0), (0, 4, 12, 0, 0, 0), (6, 2, 13, 28, 10, 5), (0, 2, 16, 0, 2, 2), (5, 1, 17, 0, 0, 0), (4, 0, 18, 30, 30, 0), (0, 4, 21, 0, 0, 0), (6, 2, 22, 11, 10, 0), (0, 2, 25, 0, 2, 2), (5, 0, 26, 0, 0, 0), (0, 0, 27, 1, 0, 0), (4, 7, 28, 20, 30, 0), (0, 4, 31, 0, 0, 0), (6, 2, 32, 21, 10, 3), (0, 2, 35, 0, 2, 2), (5, 0, 36, 0, 0, 0), (0, 2, 37, 0, 1, 1), (4, 11, 38, 10, 30, 0), (0, 4, 41, 0, 0, 0), (6, 2, 42, 21, 10, 3), (0, 2, 45, 0, 2, 2), (5, 0, 46, 0, 0, 0), (0, 5, 47, 0, 1, 1), (0, 8, 48, 1, 2, 0), (4, 12, 51, -47, 4, 0), (0, 2, 54, 0, 1, 1), (9, 0, 55, 0, 0, 0)]
def kX10_isSo : List OP := [(0, 0, 0, 0, 0, 0), (0, 5, 1, 0, 3, 3), (0, 2, 2, 0, 3, 3), (0, 4, 3, 0, 0, 0), (6, 0, 4, 31, 10, 6), (4, 9, 7, 86, 53, 0), (0, 4, 10, 0, 0, 0), (6, 2, 11, 28, 10, 5), (0, 2, 14, 0, 3, 3), (5, 1, 15, 0, 0, 0), (4, 0, 16, 27, 25, 0), (0, 4, 19, 0, 0, 0), (6, 2, 20, 11, 10, 0), (0, 2, 23, 0, 3, 3), (5, 0, 24, 0, 0, 0), (0, 0, 25, 1, 0, 0), (4, 7, 26, 17, 25, 0), (0, 4, 29, 0, 0, 0), (6, 2, 30, 21, 10, 3), (0, 2, 33, 0, 3, 3), (5, 0, 34, 0, 0, 0), (0, 2, 35, 0, 1, 1), (4, 7, 36, 7, 25, 0), (0, 0, 39, 1, 0, 0), (4, 12, 40, 4, 26, 0), (0, 0, 43, 0, 0, 0), (0, 5, 44, 0, 4, 4), (0, 2, 46, 0, 4, 4), (4, 0, 48, 39, 51, 0), (0, 4, 51, 0, 2, 2), (6, 2, 52, 51, 5, 5), (0, 4, 55, 0, 0, 0), (6, 2, 56, 15, 10, 1), (0, 2, 59, 0, 3, 3), (5, 0, 60, 0, 0, 0), (5, 0, 61, 0, 0, 0), (0, 4, 62, 0, 0, 0), (6, 2, 63, 18, 10, 2), (0, 2, 66, 0, 3, 3), (5, 0, 67, 0, 0, 0), (4, 7, 68, 7, 43, 0), (0, 0, 71, 1, 0, 0), (4, 12, 72, 4, 44, 0), (0, 0, 75, 0, 0, 0), (0, 4, 76, 0, 0, 0), (6, 2, 77, 24, 10, 4), (0, 2, 80, 0, 3, 3), (5, 1, 81, 0, 0, 0), (4, 6, 82, 5, 51, 0), (0, 0, 85, 0, 0, 0), (9, 1, 86, 0, 0, 0), (0, 8, 87, 1, 3, 0), (4, 12, 90, -88, 2, 0), (0, 0, 93, 1, 0, 0), (9, 1, 94, 0, 0, 0)]
def kX11_feed : List OP := [(0, 4, 0, 0, 0, 0), (6, 3, 1, 14, 11, 0), (8, 0, 4, 92, 89, 1), (4, 1, 7, 5, 6, 0), (0, 0, 10, -1, 0, 0), (9, 0, 11, 0, 0, 0), (0, 4, 12, 0, 0, 0), (6, 3, 13, 14, 11, 0), (0, 2, 16, 0, 1, 1), (8, 0, 17, 96, 90, 2), (0, 4, 20, 0, 0, 0), (6, 3, 21, 14, 11, 0), (0, 2, 24, 0, 2, 2), (8, 0, 25, 96, 90, 2), (0, 4, 28, 0, 0, 0), (6, 3, 29, 14, 11, 0), (0, 2, 32, 0, 3, 3), (8, 0, 33, 96, 90, 2), (0, 4, 36, 0, 0, 0), (6, 3, 37, 14, 11, 0), (0, 2, 40, 0, 4, 4), (8, 0, 42, 96, 90, 2), (0, 4, 45, 0, 0, 0), (6, 3, 46, 14, 11, 0), (0, 2, 49, 0, 5, 4), (8, 0, 51, 96, 90, 2), (0, 4, 54, 0, 0, 0), (6, 3, 55, 14, 11, 0), (6, 0, 58, 100, 9, 4), (9, 0, 61, 0, 0, 0)]
def kX11_text : List OP := [(0, 2, 0, 0, 1, 1), (4, 2, 1, 14, 7, 0), (0, 2, 4, 0, 1, 1), (0, 4, 5, 0, 0, 0), (6, 3, 6, 14, 11, 0), (6, 0, 9, 100, 9, 4), (4, 11, 12, 6, 9, 0), (0, 0, 15, -2, 0, 1), (9, 0, 17, 0, 0, 0), (0, 4, 18, 0, 0, 0), (6, 3, 19, 23, 11, 1), (0, 2, 22, 0, 1, 1), (8, 0, 23, 104, 56, 2), (0, 5, 26, 0, 2, 2), (0, 2, 27, 0, 2, 2), (4, 2, 28, 7, 18, 0), (0, 4, 31, 0, 0, 0), (8, 0, 32, 108, 158, 1), (0, 2, 35, 0, 2, 2), (9, 0, 36, 0, 0, 0)]
def kX11_fault : List OP := [(0, 2, 0, 0, 1, 1), (4, 1, 1, 11, 6, 0), (0, 4, 4, 0, 0, 0), (6, 3, 5, 23, 11, 1), (6, 0, 8, 111, 6, 8), (9, 0, 11, 0, 0, 0), (0, 2, 12, 0, 1, 1), (0, 0, 13, 1, 0, 0), (4, 7, 14, 13, 13, 0), (0, 4, 17, 0, 0, 0), (6, 3, 18, 23, 11, 1), (6, 0, 21, 114, 6, 9), (4, 12, 24, 4, 14, 0), (0, 0, 27, -1, 0, 0), (9, 0, 28, 0, 0, 0)]
def kX11_named : List OP := [(0, 4, 0, 0, 0, 0), (6, 4, 1, 30, 11, 2), (0, 2, 4, 0, 1, 1), (8, 0, 5, 117, 23, 2), (9, 0, 8, 0, 0, 0)]
def kX11_ribbon : List OP := [(0, 4, 0, 0, 0, 0), (0, 2, 1, 0, 1, 1), (8, 0, 2, 155, 154, 2), (4, 1, 5, 5, 6, 0), (0, 0, 8, -1, 0, 0), (9, 0, 9, 0, 0, 0), (0, 2, 10, 0, 2, 2), (4, 13, 11, 0, 29, 3), (0, 4, 36, 0, 0, 0), (6, 3, 37, 39, 11, 3), (6, 3, 40, 127, 0, 0), (6, 2, 43, 158, 5, 5), (0, 2, 46, 0, 1, 1), (5, 0, 47, 0, 0, 0), (9, 0, 48, 0, 0, 0), (0, 4, 49, 0, 0, 0), (6, 3, 50, 39, 11, 3), (6, 3, 53, 127, 0, 0), (6, 2, 56, 161, 5, 6), (0, 2, 59, 0, 1, 1), (5, 0, 60, 0, 0, 0), (9, 0, 61, 0, 0, 0), (0, 4, 62, 0, 0, 0), (6, 3, 63, 39, 11, 3), (6, 3, 66, 127, 0, 0), (6, 2, 69, 164, 5, 7), (0, 2, 72, 0, 1, 1), (5, 0, 73, 0, 0, 0), (9, 0, 74, 0, 0, 0), (0, 0, 75, -1, 0, 0), (9, 0, 76, 0, 0, 0)]
def kX11_judged : List OP := [(0, 4, 0, 0, 0, 0), (0, 2, 1, 0, 1, 1), (0, 2, 2, 0, 2, 2), (8, 0, 3, 167, 155, 3), (4, 0, 6, 15, 11, 0), (0, 4, 9, 0, 0, 0), (6, 3, 10, 39, 11, 3), (0, 2, 13, 0, 1, 1), (0, 2, 14, 0, 2, 2), (8, 0, 15, 171, 9, 3), (4, 12, 18, 4, 12, 0), (0, 0, 21, -1, 0, 0), (9, 0, 22, 0, 0, 0)]
def kX11_best : List OP := [(0, 4, 0, 0, 0, 0), (0, 2, 1, 0, 1, 1), (8, 0, 2, 120, 153, 2), (4, 0, 5, 14, 9, 0), (0, 4, 8, 0, 0, 0), (6, 3, 9, 39, 11, 3), (0, 2, 12, 0, 1, 1), (8, 0, 13, 175, 7, 2), (4, 12, 16, 4, 10, 0), (0, 0, 19, -1, 0, 0), (9, 0, 20, 0, 0, 0)]
def kX11_law : List OP := [(0, 2, 0, 0, 1, 1), (4, 1, 1, 28, 15, 0), (0, 4, 4, 0, 0, 0), (0, 2, 5, 0, 2, 2), (0, 2, 6, 0, 3, 3), (8, 0, 7, 167, 155, 3), (4, 0, 10, 15, 13, 0), (0, 4, 13, 0, 0, 0), (6, 3, 14, 39, 11, 3), (0, 2, 17, 0, 2, 2), (0, 2, 18, 0, 3, 3), (8, 0, 19, 178, 10, 3), (4, 12, 22, 6, 14, 0), (0, 1, 25, -9223372036854775808, 182, 2), (9, 2, 28, 0, 0, 0), (0, 4, 29, 0, 0, 0), (0, 2, 30, 0, 2, 2), (8, 0, 31, 120, 153, 2), (4, 1, 34, 7, 21, 0), (0, 1, 37, -9223372036854775808, 182, 2), (9, 2, 40, 0, 0, 0), (0, 2, 41, 0, 1, 1), (0, 0, 42, 1, 0, 0), (4, 6, 43, 8, 27, 0), (0, 2, 46, 0, 1, 1), (0, 0, 47, 2, 0, 0), (4, 7, 48, 16, 34, 0), (0, 4, 51, 0, 0, 0), (6, 3, 52, 39, 11, 3), (0, 2, 55, 0, 1, 1), (0, 2, 56, 0, 2, 2), (0, 0, 57, 0, 0, 0), (8, 0, 58, 184, 11, 4), (4, 12, 61, 6, 35, 0), (0, 1, 64, -9223372036854775808, 182, 2), (9, 2, 67, 0, 0, 0)]
def kX11_show : List OP := [(0, 4, 0, 0, 0, 0), (0, 2, 1, 0, 1, 1), (0, 2, 2, 0, 2, 2), (8, 0, 3, 167, 155, 3), (4, 0, 6, 19, 13, 0), (0, 4, 9, 0, 0, 0), (6, 3, 10, 39, 11, 3), (6, 3, 13, 127, 0, 0), (0, 2, 16, 0, 1, 1), (0, 2, 17, 0, 2, 2), (8, 0, 18, 188, 47, 3), (0, 2, 21, 0, 3, 3), (4, 7, 22, 5, 15, 0), (0, 0, 25, 0, 0, 0), (9, 1, 26, 0, 0, 0), (0, 4, 27, 0, 0, 0), (6, 3, 28, 60, 11, 7), (0, 2, 31, 0, 1, 1), (0, 4, 32, 0, 0, 0), (6, 3, 33, 39, 11, 3), (6, 3, 36, 127, 0, 0), (6, 2, 39, 146, 5, 4), (0, 2, 42, 0, 1, 1), (5, 0, 43, 0, 0, 0), (8, 0, 44, 191, 16, 3), (0, 4, 47, 0, 0, 0), (6, 3, 48, 39, 11, 3), (6, 3, 51, 127, 0, 0), (0, 2, 54, 0, 1, 1), (0, 2, 55, 0, 2, 2), (0, 2, 56, 0, 3, 3), (8, 0, 57, 195, 48, 4), (0, 0, 60, 1, 0, 0), (9, 1, 61, 0, 0, 0)]
def kX11_raise : List OP := [(0, 4, 0, 0, 0, 0), (0, 2, 1, 0, 1, 1), (8, 0, 2, 120, 153, 2), (4, 0, 5, 18, 11, 0), (0, 2, 8, 0, 2, 2), (4, 0, 9, 14, 11, 0), (0, 2, 12, 0, 2, 2), (0, 0, 13, -99, 0, 1), (0, 0, 15, 99, 0, 1), (8, 1, 17, 199, 156, 3), (4, 1, 20, 5, 13, 0), (0, 0, 23, -1, 0, 0), (9, 0, 24, 0, 0, 0), (0, 4, 25, 0, 0, 0), (6, 3, 26, 60, 11, 7), (0, 2, 29, 0, 1, 1), (0, 4, 30, 0, 0, 0), (6, 3, 31, 39, 11, 3), (6, 3, 34, 127, 0, 0), (6, 2, 37, 130, 5, 2), (0, 2, 40, 0, 1, 1), (5, 0, 41, 0, 0, 0), (8, 0, 42, 203, 17, 3), (0, 4, 45, 0, 0, 0), (6, 3, 46, 39, 11, 3), (6, 3, 49, 127, 0, 0), (0, 2, 52, 0, 1, 1), (0, 2, 53, 0, 2, 2), (8, 0, 54, 206, 50, 3), (0, 4, 57, 0, 0, 0), (6, 3, 58, 39, 11, 3), (6, 3, 61, 127, 0, 0), (6, 2, 64, 130, 5, 2), (0, 2, 67, 0, 1, 1), (5, 0, 68, 0, 0, 0), (9, 0, 69, 0, 0, 0)]
def kX11_hand : List OP := [(0, 4, 0, 0, 0, 0), (0, 2, 1, 0, 1, 1), (8, 0, 2, 155, 154, 2), (4, 0, 5, 27, 16, 0), (0, 4, 8, 0, 0, 0), (0, 2, 9, 0, 2, 2), (8, 0, 10, 120, 153, 2), (4, 0, 13, 19, 16, 0), (0, 4, 16, 0, 0, 0), (6, 3, 17, 39, 11, 3), (6, 3, 20, 127, 0, 0), (6, 2, 23, 158, 5, 5), (0, 2, 26, 0, 1, 1), (5, 0, 27, 0, 0, 0), (0, 2, 28, 0, 2, 2), (4, 7, 29, 5, 18, 0), (0, 0, 32, 0, 0, 0), (9, 1, 33, 0, 0, 0), (0, 4, 34, 0, 0, 0), (6, 3, 35, 60, 11, 7), (0, 2, 38, 0, 1, 1), (0, 2, 39, 0, 2, 2), (0, 4, 40, 0, 0, 0), (6, 3, 41, 39, 11, 3), (6, 3, 44, 127, 0, 0), (8, 0, 47, 209, 18, 4), (0, 4, 50, 0, 0, 0), (6, 3, 51, 39, 11, 3), (6, 3, 54, 127, 0, 0), (0, 2, 57, 0, 1, 1), (0, 2, 58, 0, 2, 2), (8, 0, 59, 213, 52, 3), (0, 0, 62, 1, 0, 0), (9, 1, 63, 0, 0, 0)]
def kX11_go : List OP := [(0, 2, 0, 0, 1, 1), (0, 0, 1, 0, 0, 0), (0, 0, 2, 99, 0, 1), (8, 1, 4, 199, 156, 3), (4, 0, 7, 21, 13, 0), (0, 4, 10, 0, 0, 0), (6, 3, 11, 39, 11, 3), (6, 3, 14, 127, 0, 0), (6, 0, 17, 216, 5, 0), (0, 2, 20, 0, 1, 1), (1, 0, 21, 0, 0, 0), (0, 0, 22, 9000, 0, 2), (4, 11, 25, 5, 15, 0), (0, 0, 28, -1, 0, 0), (9, 0, 29, 0, 0, 0), (0, 4, 30, 0, 0, 0), (6, 3, 31, 39, 11, 3), (0, 2, 34, 0, 1, 1), (8, 0, 35, 219, 3, 2), (0, 2, 38, 0, 1, 1), (4, 5, 39, 10, 24, 0), (0, 4, 42, 0, 0, 0), (6, 3, 43, 60, 11, 7), (8, 0, 46, 222, 15, 1), (0, 4, 49, 0, 0, 0), (6, 3, 50, 39, 11, 3), (6, 3, 53, 127, 0, 0), (6, 0, 56, 216, 5, 0), (9, 0, 59, 0, 0, 0)]
def kX11_ahead : List OP := [(0, 2, 0, 0, 2, 2), (4, 0, 1, 8, 5, 0), (0, 2, 4, 0, 2, 2), (0, 0, 5, 1, 0, 0), (4, 7, 6, 11, 9, 0), (0, 4, 9, 0, 0, 0), (0, 2, 10, 0, 3, 3), (8, 0, 11, 155, 154, 2), (4, 12, 14, 8, 12, 0), (0, 4, 17, 0, 0, 0), (0, 2, 18, 0, 3, 3), (8, 0, 19, 120, 153, 2), (0, 5, 22, 0, 4, 4), (0, 2, 24, 0, 4, 4), (4, 0, 26, 22, 25, 0), (0, 2, 29, 0, 1, 1), (0, 0, 30, 0, 0, 0), (0, 0, 31, 99, 0, 1), (8, 1, 33, 199, 156, 3), (4, 0, 36, 12, 25, 0), (0, 2, 39, 0, 2, 2), (0, 0, 40, 0, 0, 0), (0, 0, 41, 3, 0, 0), (8, 1, 42, 199, 156, 3), (4, 1, 45, 5, 27, 0), (0, 0, 48, -1, 0, 0), (9, 0, 49, 0, 0, 0), (0, 4, 50, 0, 0, 0), (6, 3, 51, 43, 11, 4), (0, 4, 54, 0, 0, 0), (6, 4, 55, 30, 11, 2), (0, 4, 58, 0, 0, 0), (6, 3, 59, 39, 11, 3), (6, 3, 62, 127, 0, 0), (8, 0, 65, 225, 0, 3), (0, 4, 68, 0, 0, 0), (6, 3, 69, 43, 11, 4), (0, 2, 72, 0, 1, 1), (8, 0, 73, 219, 3, 2), (0, 2, 76, 0, 2, 2), (4, 13, 77, 0, 69, 4), (0, 4, 104, 0, 0, 0), (6, 3, 105, 43, 11, 4), (6, 3, 108, 127, 0, 0), (6, 2, 111, 158, 5, 5), (0, 2, 114, 0, 3, 3), (5, 0, 115, 0, 0, 0), (9, 0, 116, 0, 0, 0), (0, 4, 117, 0, 0, 0), (6, 3, 118, 43, 11, 4), (6, 3, 121, 127, 0, 0), (6, 2, 124, 164, 5, 7), (0, 2, 127, 0, 3, 3), (5, 0, 128, 0, 0, 0), (0, 4, 129, 0, 0, 0), (6, 3, 130, 39, 11, 3), (6, 3, 133, 127, 0, 0), (6, 2, 136, 164, 5, 7), (0, 2, 139, 0, 3, 3), (5, 0, 140, 0, 0, 0), (1, 1, 141, 0, 0, 0), (9, 0, 142, 0, 0, 0), (0, 4, 143, 0, 0, 0), (6, 3, 144, 43, 11, 4), (6, 3, 147, 127, 0, 0), (6, 2, 150, 130, 5, 2), (0, 2, 153, 0, 3, 3), (5, 0, 154, 0, 0, 0), (9, 0, 155, 0, 0, 0), (0, 4, 156, 0, 0, 0), (6, 3, 157, 43, 11, 4), (6, 3, 160, 127, 0, 0), (6, 2, 163, 143, 5, 3), (0, 2, 166, 0, 3, 3), (5, 0, 167, 0, 0, 0), (9, 0, 168, 0, 0, 0)]
def kX11_ring : List OP := [(0, 4, 0, 0, 0, 0), (0, 2, 1, 0, 1, 1), (8, 0, 2, 155, 154, 2), (4, 0, 5, 12, 9, 0), (0, 2, 8, 0, 2, 2), (0, 0, 9, 0, 0, 0), (0, 0, 10, 2, 0, 0), (8, 1, 11, 199, 156, 3), (4, 1, 14, 5, 11, 0), (0, 0, 17, -1, 0, 0), (9, 0, 18, 0, 0, 0), (0, 4, 19, 0, 0, 0), (6, 3, 20, 74, 11, 9), (0, 4, 23, 0, 0, 0), (6, 3, 24, 39, 11, 3), (0, 2, 27, 0, 1, 1), (8, 0, 28, 229, 76, 3), (0, 4, 31, 0, 0, 0), (6, 3, 32, 74, 11, 9), (8, 0, 35, 233, 79, 1), (0, 2, 38, 0, 2, 2), (4, 1, 39, 19, 30, 0), (0, 4, 42, 0, 0, 0), (6, 3, 43, 74, 11, 9), (6, 1, 46, 236, 7, 6), (4, 0, 49, 7, 28, 0), (0, 0, 52, 1, 0, 0), (4, 12, 53, 4, 29, 0), (0, 0, 56, 0, 0, 0), (9, 0, 57, 0, 0, 0), (0, 2, 58, 0, 2, 2), (0, 0, 59, 1, 0, 0), (4, 7, 60, 13, 37, 0), (0, 4, 63, 0, 0, 0), (6, 3, 64, 74, 11, 9), (6, 0, 67, 239, 7, 7), (4, 12, 70, 10, 40, 0), (0, 4, 73, 0, 0, 0), (6, 3, 74, 74, 11, 9), (6, 0, 77, 242, 7, 8), (9, 0, 80, 0, 0, 0)]
def kX11_free : List OP := [(0, 4, 0, 0, 0, 0), (0, 2, 1, 0, 1, 1), (8, 0, 2, 155, 154, 2), (4, 0, 5, 12, 9, 0), (0, 2, 8, 0, 2, 2), (0, 0, 9, 0, 0, 0), (0, 0, 10, 2, 0, 0), (8, 1, 11, 199, 156, 3), (4, 1, 14, 5, 11, 0), (0, 0, 17, -1, 0, 0), (9, 0, 18, 0, 0, 0), (0, 4, 19, 0, 0, 0), (6, 3, 20, 74, 11, 9), (0, 4, 23, 0, 0, 0), (6, 3, 24, 39, 11, 3), (0, 2, 27, 0, 1, 1), (8, 0, 28, 229, 76, 3), (0, 4, 31, 0, 0, 0), (6, 3, 32, 81, 11, 10), (0, 4, 35, 0, 0, 0), (6, 3, 36, 74, 11, 9), (8, 0, 39, 245, 34, 2), (0, 4, 42, 0, 0, 0), (6, 3, 43, 81, 11, 10), (0, 2, 46, 0, 2, 2), (8, 0, 47, 249, 32, 2), (9, 0, 50, 0, 0, 0)]
def kX11_lead : List OP := [(0, 4, 0, 0, 0, 0), (0, 2, 1, 0, 1, 1), (8, 0, 2, 155, 154, 2), (4, 0, 5, 31, 18, 0), (0, 4, 8, 0, 0, 0), (0, 2, 9, 0, 2, 2), (8, 0, 10, 120, 153, 2), (4, 0, 13, 23, 18, 0), (0, 2, 16, 0, 3, 3), (0, 0, 17, 1, 0, 0), (0, 0, 18, 20, 0, 1), (8, 1, 20, 199, 156, 3), (4, 0, 23, 13, 18, 0), (0, 2, 26, 0, 4, 4), (0, 0, 28, 0, 0, 0), (0, 0, 29, 2, 0, 0), (8, 1, 30, 199, 156, 3), (4, 1, 33, 5, 20, 0), (0, 0, 36, -1, 0, 0), (9, 0, 37, 0, 0, 0), (0, 4, 38, 0, 0, 0), (6, 3, 39, 81, 11, 10), (0, 2, 42, 0, 1, 1), (0, 2, 43, 0, 2, 2), (0, 2, 44, 0, 3, 3), (8, 0, 45, 251, 37, 4), (0, 4, 48, 0, 0, 0), (6, 3, 49, 81, 11, 10), (0, 4, 52, 0, 0, 0), (6, 3, 53, 43, 11, 4), (0, 4, 56, 0, 0, 0), (6, 4, 57, 30, 11, 2), (0, 4, 60, 0, 0, 0), (6, 3, 61, 39, 11, 3), (6, 3, 64, 127, 0, 0), (8, 0, 67, 255, 38, 4), (0, 4, 70, 0, 0, 0), (6, 3, 71, 81, 11, 10), (8, 0, 74, 259, 39, 1), (4, 1, 77, 25, 50, 0), (0, 4, 80, 0, 0, 0), (6, 3, 81, 81, 11, 10), (0, 4, 84, 0, 0, 0), (6, 3, 85, 43, 11, 4), (0, 4, 88, 0, 0, 0), (6, 4, 89, 30, 11, 2), (0, 4, 92, 0, 0, 0), (6, 3, 93, 39, 11, 3), (6, 3, 96, 127, 0, 0), (8, 0, 99, 262, 40, 4), (0, 4, 102, 0, 0, 0), (6, 3, 103, 81, 11, 10), (0, 2, 106, 0, 4, 4), (8, 0, 108, 249, 32, 2), (9, 0, 111, 0, 0, 0)]
def kX11_walk : List OP := [(0, 4, 0, 0, 0, 0), (0, 2, 1, 0, 1, 1), (8, 0, 2, 155, 154, 2), (4, 0, 5, 12, 9, 0), (0, 2, 8, 0, 2, 2), (0, 0, 9, 0, 0, 0), (0, 0, 10, 5, 0, 0), (8, 1, 11, 199, 156, 3), (4, 1, 14, 5, 11, 0), (0, 0, 17, -1, 0, 0), (9, 0, 18, 0, 0, 0), (0, 4, 19, 0, 0, 0), (6, 3, 20, 88, 11, 11), (0, 4, 23, 0, 0, 0), (6, 4, 24, 30, 11, 2), (0, 4, 27, 0, 0, 0), (6, 3, 28, 39, 11, 3), (6, 3, 31, 127, 0, 0), (6, 2, 34, 158, 5, 5), (0, 2, 37, 0, 1, 1), (5, 0, 38, 0, 0, 0), (8, 0, 39, 265, 83, 3), (0, 2, 42, 0, 2, 2), (0, 0, 43, 5, 0, 0), (4, 7, 44, 13, 29, 0), (0, 4, 47, 0, 0, 0), (6, 3, 48, 88, 11, 11), (6, 0, 51, 269, 8, 3), (4, 12, 54, 11, 33, 0), (0, 4, 57, 0, 0, 0), (6, 3, 58, 88, 11, 11), (0, 2, 61, 0, 2, 2), (8, 0, 62, 272, 82, 2), (9, 0, 65, 0, 0, 0)]
def kX11_meet : List OP := [(0, 4, 0, 0, 0, 0), (6, 4, 1, 30, 11, 2), (6, 0, 4, 275, 2, 1), (0, 0, 7, 2, 0, 0), (4, 9, 8, 5, 7, 0), (0, 0, 11, -1, 0, 0), (9, 0, 12, 0, 0, 0), (0, 4, 13, 0, 0, 0), (6, 3, 14, 43, 11, 4), (0, 4, 17, 0, 0, 0), (6, 4, 18, 30, 11, 2), (0, 4, 21, 0, 0, 0), (6, 3, 22, 39, 11, 3), (6, 3, 25, 127, 0, 0), (8, 0, 28, 225, 0, 3), (0, 0, 31, 0, 0, 0), (0, 5, 32, 0, 1, 1), (0, 2, 33, 0, 1, 1), (0, 0, 34, 99, 0, 1), (4, 10, 36, 45, 40, 0), (0, 4, 39, 0, 0, 0), (6, 3, 40, 43, 11, 4), (6, 3, 43, 127, 0, 0), (6, 2, 46, 158, 5, 5), (0, 0, 49, 0, 0, 0), (5, 0, 50, 0, 0, 0), (0, 4, 51, 0, 0, 0), (6, 3, 52, 43, 11, 4), (6, 3, 55, 127, 0, 0), (6, 2, 58, 158, 5, 5), (0, 0, 61, 1, 0, 0), (5, 0, 62, 0, 0, 0), (4, 7, 63, 5, 35, 0), (0, 2, 66, 0, 1, 1), (9, 0, 67, 0, 0, 0), (0, 4, 68, 0, 0, 0), (6, 3, 69, 43, 11, 4), (8, 0, 72, 278, 4, 1), (0, 8, 75, 1, 1, 0), (4, 12, 78, -45, 17, 0), (0, 0, 81, -2, 0, 1), (9, 0, 83, 0, 0, 0)]
def kX11_reach : List OP := [(0, 4, 0, 0, 0, 0), (0, 2, 1, 0, 1, 1), (8, 0, 2, 120, 153, 2), (4, 1, 5, 5, 6, 0), (0, 0, 8, -1, 0, 0), (9, 0, 9, 0, 0, 0), (0, 0, 10, 1, 0, 0), (0, 2, 11, 0, 1, 1), (1, 6, 12, 0, 0, 0), (0, 5, 13, 0, 2, 2), (0, 0, 14, 0, 0, 0), (0, 5, 15, 0, 3, 3), (0, 2, 16, 0, 3, 3), (0, 4, 17, 0, 0, 0), (6, 4, 18, 30, 11, 2), (6, 0, 21, 280, 2, 0), (4, 9, 24, 59, 43, 0), (0, 0, 27, 0, 0, 0), (0, 5, 28, 0, 4, 4), (0, 2, 30, 0, 4, 4), (0, 4, 32, 0, 0, 0), (6, 4, 33, 30, 11, 2), (6, 0, 36, 280, 2, 0), (4, 9, 39, 38, 41, 0), (0, 2, 42, 0, 2, 2), (0, 2, 43, 0, 2, 2), (0, 2, 44, 0, 4, 4), (8, 1, 46, 283, 157, 2), (4, 0, 49, 19, 36, 0), (0, 4, 52, 0, 0, 0), (6, 3, 53, 39, 11, 3), (6, 3, 56, 127, 0, 0), (6, 2, 59, 146, 5, 4), (0, 2, 62, 0, 4, 4), (5, 0, 64, 0, 0, 0), (4, 12, 65, 4, 37, 0), (0, 0, 68, 0, 0, 0), (1, 4, 69, 0, 0, 0), (0, 5, 70, 0, 2, 2), (0, 8, 71, 1, 4, 0), (4, 12, 74, -44, 19, 0), (0, 8, 77, 1, 3, 0), (4, 12, 80, -64, 12, 0), (0, 2, 83, 0, 2, 2), (9, 0, 84, 0, 0, 0)]
def kX11_deserves : List OP := [(0, 0, 0, -1, 0, 0), (0, 5, 1, 0, 1, 1), (0, 0, 2, 0, 0, 0), (0, 5, 3, 0, 2, 2), (0, 2, 4, 0, 2, 2), (0, 4, 5, 0, 0, 0), (6, 4, 6, 30, 11, 2), (6, 0, 9, 280, 2, 0), (4, 9, 12, 42, 28, 0), (0, 2, 15, 0, 1, 1), (4, 2, 16, 30, 24, 0), (0, 4, 19, 0, 0, 0), (6, 3, 20, 39, 11, 3), (6, 3, 23, 127, 0, 0), (6, 2, 26, 130, 5, 2), (0, 2, 29, 0, 2, 2), (5, 0, 30, 0, 0, 0), (0, 4, 31, 0, 0, 0), (6, 3, 32, 39, 11, 3), (6, 3, 35, 127, 0, 0), (6, 2, 38, 130, 5, 2), (0, 2, 41, 0, 1, 1), (5, 0, 42, 0, 0, 0), (4, 11, 43, 5, 26, 0), (0, 2, 46, 0, 2, 2), (0, 5, 47, 0, 1, 1), (0, 8, 48, 1, 2, 0), (4, 12, 51, -47, 4, 0), (0, 2, 54, 0, 1, 1), (9, 0, 55, 0, 0, 0)]
def kX11_order : List OP := [(0, 2, 0, 0, 1, 1), (0, 0, 1, 0, 0, 0), (0, 0, 2, 6, 0, 1), (8, 1, 4, 199, 156, 3), (4, 1, 7, 5, 7, 0), (0, 0, 10, -1, 0, 0), (9, 0, 11, 0, 0, 0), (0, 4, 12, 0, 0, 0), (6, 3, 13, 67, 11, 8), (8, 0, 16, 286, 107, 1), (0, 4, 19, 0, 0, 0), (6, 3, 20, 88, 11, 11), (0, 4, 23, 0, 0, 0), (6, 4, 24, 30, 11, 2), (6, 0, 27, 280, 2, 0), (0, 4, 30, 0, 0, 0), (6, 3, 31, 67, 11, 8), (0, 4, 34, 0, 0, 0), (6, 3, 35, 39, 11, 3), (6, 3, 38, 127, 0, 0), (8, 0, 41, 289, 84, 4), (0, 2, 44, 0, 1, 1), (0, 0, 45, 6, 0, 1), (4, 7, 47, 13, 28, 0), (0, 4, 50, 0, 0, 0), (6, 3, 51, 88, 11, 11), (6, 0, 54, 269, 8, 3), (4, 12, 57, 11, 32, 0), (0, 4, 60, 0, 0, 0), (6, 3, 61, 88, 11, 11), (0, 2, 64, 0, 1, 1), (8, 0, 65, 272, 82, 2), (9, 0, 68, 0, 0, 0)]
def kX11_rests : List OP := [(0, 4, 0, 0, 0, 0), (0, 2, 1, 0, 1, 1), (0, 2, 2, 0, 2, 2), (8, 0, 3, 167, 155, 3), (4, 1, 6, 5, 7, 0), (0, 0, 9, -1, 0, 0), (9, 0, 10, 0, 0, 0), (0, 0, 11, 0, 0, 0), (0, 5, 12, 0, 3, 3), (0, 0, 13, 0, 0, 0), (0, 5, 14, 0, 4, 4), (0, 2, 16, 0, 4, 4), (0, 0, 18, 4, 0, 0), (4, 9, 19, 28, 28, 0), (0, 2, 22, 0, 3, 3), (0, 4, 23, 0, 0, 0), (0, 2, 24, 0, 1, 1), (0, 2, 25, 0, 2, 2), (0, 2, 26, 0, 4, 4), (8, 0, 28, 293, 160, 4), (4, 0, 31, 7, 23, 0), (0, 0, 34, 1, 0, 0), (4, 12, 35, 4, 24, 0), (0, 0, 38, 0, 0, 0), (1, 0, 39, 0, 0, 0), (0, 5, 40, 0, 3, 3), (0, 8, 41, 1, 4, 0), (4, 12, 44, -28, 11, 0), (0, 2, 47, 0, 3, 3), (9, 0, 48, 0, 0, 0)]
def kX11_rest : List OP := [(0, 4, 0, 0, 0, 0), (0, 2, 1, 0, 1, 1), (0, 2, 2, 0, 2, 2), (8, 0, 3, 167, 155, 3), (4, 0, 6, 7, 7, 0), (0, 2, 9, 0, 3, 3), (4, 3, 10, 5, 9, 0), (0, 0, 13, -1, 0, 0), (9, 0, 14, 0, 0, 0), (0, 0, 15, 0, 0, 0), (0, 5, 16, 0, 4, 4), (0, 0, 18, 0, 0, 0), (0, 5, 19, 0, 5, 4), (0, 2, 21, 0, 5, 4), (0, 0, 23, 4, 0, 0), (4, 9, 24, 42, 38, 0), (0, 4, 27, 0, 0, 0), (0, 2, 28, 0, 1, 1), (0, 2, 29, 0, 2, 2), (0, 2, 30, 0, 5, 4), (8, 0, 32, 293, 160, 4), (4, 0, 35, 25, 36, 0), (0, 2, 38, 0, 4, 4), (0, 2, 40, 0, 3, 3), (4, 7, 41, 16, 35, 0), (0, 0, 44, 10, 0, 1), (0, 2, 46, 0, 5, 4), (0, 0, 48, 1, 0, 0), (1, 7, 49, 0, 0, 0), (1, 2, 50, 0, 0, 0), (0, 2, 51, 0, 5, 4), (0, 0, 53, 1, 0, 0), (1, 3, 54, 0, 0, 0), (1, 0, 55, 0, 0, 0), (9, 0, 56, 0, 0, 0), (0, 8, 57, 1, 4, 0), (0, 8, 60, 1, 5, 0), (4, 12, 63, -42, 13, 0), (0, 0, 66, -2, 0, 1), (9, 0, 68, 0, 0, 0)]
def kX11_visit : List OP := [(0, 4, 0, 0, 0, 0), (0, 2, 1, 0, 1, 1), (8, 0, 2, 120, 153, 2), (4, 0, 5, 23, 14, 0), (0, 2, 8, 0, 2, 2), (0, 0, 9, 0, 0, 0), (0, 0, 10, 999, 0, 2), (8, 1, 13, 199, 156, 3), (4, 0, 16, 12, 14, 0), (0, 2, 19, 0, 3, 3), (0, 0, 20, 0, 0, 0), (0, 0, 21, 1, 0, 0), (8, 1, 22, 199, 156, 3), (4, 1, 25, 5, 16, 0), (0, 0, 28, -1, 0, 0), (9, 0, 29, 0, 0, 0), (0, 0, 30, 0, 0, 0), (0, 5, 31, 0, 4, 4), (0, 0, 33, 0, 0, 0), (0, 5, 34, 0, 5, 4), (0, 0, 36, 0, 0, 0), (0, 5, 37, 0, 6, 4), (0, 2, 39, 0, 6, 4), (0, 0, 41, 1, 0, 0), (0, 4, 42, 0, 0, 0), (6, 4, 43, 30, 11, 2), (6, 0, 46, 280, 2, 0), (1, 6, 49, 0, 0, 0), (4, 9, 50, 61, 55, 0), (0, 4, 53, 0, 0, 0), (6, 3, 54, 39, 11, 3), (6, 3, 57, 127, 0, 0), (0, 2, 60, 0, 6, 4), (8, 0, 62, 296, 51, 2), (0, 5, 65, 0, 7, 4), (0, 2, 67, 0, 7, 4), (0, 2, 69, 0, 5, 4), (4, 11, 71, 34, 53, 0), (0, 2, 74, 0, 6, 4), (0, 2, 76, 0, 1, 1), (8, 1, 77, 283, 157, 2), (4, 1, 80, 25, 53, 0), (0, 4, 83, 0, 0, 0), (6, 4, 84, 30, 11, 2), (0, 2, 87, 0, 1, 1), (0, 2, 88, 0, 6, 4), (8, 0, 90, 299, 25, 3), (0, 2, 93, 0, 2, 2), (4, 10, 94, 11, 53, 0), (0, 2, 97, 0, 6, 4), (0, 5, 99, 0, 4, 4), (0, 2, 101, 0, 7, 4), (0, 5, 103, 0, 5, 4), (0, 8, 105, 1, 6, 0), (4, 12, 108, -69, 22, 0), (0, 2, 111, 0, 3, 3), (4, 1, 112, 8, 59, 0), (0, 2, 115, 0, 4, 4), (4, 12, 117, 5, 60, 0), (0, 2, 120, 0, 5, 4), (9, 0, 122, 0, 0, 0)]
def kX11_hosts : List OP := [(0, 4, 0, 0, 0, 0), (0, 2, 1, 0, 1, 1), (8, 0, 2, 155, 154, 2), (4, 0, 5, 13, 9, 0), (0, 2, 8, 0, 2, 2), (0, 0, 9, 0, 0, 0), (0, 0, 10, 99, 0, 1), (8, 1, 12, 199, 156, 3), (4, 1, 15, 5, 11, 0), (0, 0, 18, -1, 0, 0), (9, 0, 19, 0, 0, 0), (0, 4, 20, 0, 0, 0), (6, 3, 21, 43, 11, 4), (0, 4, 24, 0, 0, 0), (6, 4, 25, 30, 11, 2), (0, 4, 28, 0, 0, 0), (6, 3, 29, 39, 11, 3), (6, 3, 32, 127, 0, 0), (8, 0, 35, 225, 0, 3), (0, 0, 38, 1, 0, 0), (0, 4, 39, 0, 0, 0), (6, 3, 40, 43, 11, 4), (6, 3, 43, 127, 0, 0), (6, 2, 46, 158, 5, 5), (0, 2, 49, 0, 1, 1), (5, 0, 50, 0, 0, 0), (1, 6, 51, 0, 0, 0), (0, 5, 52, 0, 3, 3), (0, 0, 53, 0, 0, 0), (0, 5, 54, 0, 4, 4), (0, 2, 56, 0, 4, 4), (0, 2, 58, 0, 2, 2), (4, 9, 59, 33, 49, 0), (0, 4, 62, 0, 0, 0), (6, 3, 63, 43, 11, 4), (8, 0, 66, 278, 4, 1), (0, 2, 69, 0, 3, 3), (0, 0, 70, 1, 0, 0), (0, 4, 71, 0, 0, 0), (6, 3, 72, 43, 11, 4), (6, 3, 75, 127, 0, 0), (6, 2, 78, 158, 5, 5), (0, 2, 81, 0, 1, 1), (5, 0, 82, 0, 0, 0), (1, 6, 83, 0, 0, 0), (1, 4, 84, 0, 0, 0), (0, 5, 85, 0, 3, 3), (0, 8, 86, 1, 4, 0), (4, 12, 89, -33, 30, 0), (0, 2, 92, 0, 3, 3), (9, 0, 93, 0, 0, 0)]
def kX11_rank : List OP := [(0, 4, 0, 0, 0, 0), (0, 2, 1, 0, 1, 1), (8, 0, 2, 120, 153, 2), (4, 1, 5, 5, 6, 0), (0, 0, 8, -1, 0, 0), (9, 0, 9, 0, 0, 0), (0, 0, 10, 0, 0, 0), (0, 5, 11, 0, 2, 2), (0, 4, 12, 0, 0, 0), (6, 3, 13, 39, 11, 3), (6, 3, 16, 127, 0, 0), (6, 2, 19, 130, 5, 2), (0, 2, 22, 0, 1, 1), (5, 0, 23, 0, 0, 0), (0, 5, 24, 0, 3, 3), (0, 0, 25, 0, 0, 0), (0, 5, 26, 0, 4, 4), (0, 2, 28, 0, 4, 4), (0, 4, 30, 0, 0, 0), (6, 4, 31, 30, 11, 2), (6, 0, 34, 280, 2, 0), (4, 9, 37, 50, 46, 0), (0, 4, 40, 0, 0, 0), (6, 3, 41, 39, 11, 3), (6, 3, 44, 127, 0, 0), (6, 2, 47, 130, 5, 2), (0, 2, 50, 0, 4, 4), (5, 0, 52, 0, 0, 0), (0, 5, 53, 0, 5, 4), (0, 2, 55, 0, 2, 2), (0, 2, 56, 0, 5, 4), (0, 2, 58, 0, 3, 3), (4, 10, 59, 15, 39, 0), (0, 2, 62, 0, 5, 4), (0, 2, 64, 0, 3, 3), (4, 7, 65, 13, 41, 0), (0, 2, 68, 0, 4, 4), (0, 2, 70, 0, 1, 1), (4, 9, 71, 7, 41, 0), (0, 0, 74, 1, 0, 0), (4, 12, 75, 4, 42, 0), (0, 0, 78, 0, 0, 0), (1, 0, 79, 0, 0, 0), (0, 5, 80, 0, 2, 2), (0, 8, 81, 1, 4, 0), (4, 12, 84, -56, 17, 0), (0, 2, 87, 0, 2, 2), (9, 0, 88, 0, 0, 0)]
def kX11_keepers : List OP := [(0, 0, 0, 0, 0, 0), (0, 5, 1, 0, 1, 1), (0, 0, 2, 0, 0, 0), (0, 5, 3, 0, 2, 2), (0, 2, 4, 0, 2, 2), (0, 4, 5, 0, 0, 0), (6, 4, 6, 30, 11, 2), (6, 0, 9, 280, 2, 0), (4, 9, 12, 42, 30, 0), (0, 2, 15, 0, 1, 1), (0, 4, 16, 0, 0, 0), (6, 3, 17, 39, 11, 3), (0, 2, 20, 0, 2, 2), (8, 0, 21, 175, 7, 2), (4, 2, 24, 19, 23, 0), (0, 4, 27, 0, 0, 0), (6, 3, 28, 39, 11, 3), (0, 2, 31, 0, 2, 2), (0, 0, 32, 0, 0, 0), (8, 0, 33, 302, 8, 3), (4, 0, 36, 7, 23, 0), (0, 0, 39, 0, 0, 0), (4, 12, 40, 6, 26, 0), (0, 0, 43, 1, 0, 0), (0, 2, 44, 0, 2, 2), (1, 6, 45, 0, 0, 0), (1, 4, 46, 0, 0, 0), (0, 5, 47, 0, 1, 1), (0, 8, 48, 1, 2, 0), (4, 12, 51, -47, 4, 0), (0, 2, 54, 0, 1, 1), (9, 0, 55, 0, 0, 0)]
def kX11_comesTo : List OP := [(0, 4, 0, 0, 0, 0), (0, 2, 1, 0, 1, 1), (8, 0, 2, 155, 154, 2), (4, 0, 5, 11, 8, 0), (0, 4, 8, 0, 0, 0), (0, 2, 9, 0, 2, 2), (8, 0, 10, 120, 153, 2), (4, 1, 13, 5, 10, 0), (0, 0, 16, -1, 0, 0), (9, 0, 17, 0, 0, 0), (0, 4, 18, 0, 0, 0), (6, 3, 19, 43, 11, 4), (0, 4, 22, 0, 0, 0), (6, 4, 23, 30, 11, 2), (0, 4, 26, 0, 0, 0), (6, 3, 27, 39, 11, 3), (6, 3, 30, 127, 0, 0), (8, 0, 33, 225, 0, 3), (0, 0, 36, 0, 0, 0), (0, 5, 37, 0, 3, 3), (0, 2, 38, 0, 3, 3), (0, 0, 39, 99, 0, 1), (4, 10, 41, 34, 38, 0), (0, 4, 44, 0, 0, 0), (6, 3, 45, 43, 11, 4), (6, 3, 48, 127, 0, 0), (6, 2, 51, 158, 5, 5), (0, 2, 54, 0, 1, 1), (5, 0, 55, 0, 0, 0), (0, 2, 56, 0, 2, 2), (4, 7, 57, 5, 33, 0), (0, 2, 60, 0, 3, 3), (9, 0, 61, 0, 0, 0), (0, 4, 62, 0, 0, 0), (6, 3, 63, 43, 11, 4), (8, 0, 66, 278, 4, 1), (0, 8, 69, 1, 3, 0), (4, 12, 72, -34, 20, 0), (0, 0, 75, -2, 0, 1), (9, 0, 77, 0, 0, 0)]
def kX11_popular : List OP := [(0, 0, 0, 0, 0, 0), (0, 5, 1, 0, 1, 1), (0, 0, 2, -2, 0, 1), (0, 5, 4, 0, 2, 2), (0, 0, 5, 0, 0, 0), (0, 5, 6, 0, 3, 3), (0, 2, 7, 0, 3, 3), (0, 4, 8, 0, 0, 0), (6, 4, 9, 30, 11, 2), (6, 0, 12, 280, 2, 0), (4, 9, 15, 70, 44, 0), (0, 0, 18, 0, 0, 0), (0, 5, 19, 0, 4, 4), (0, 0, 21, 0, 0, 0), (0, 5, 22, 0, 5, 4), (0, 2, 24, 0, 5, 4), (0, 4, 26, 0, 0, 0), (6, 4, 27, 30, 11, 2), (6, 0, 30, 280, 2, 0), (4, 9, 33, 35, 35, 0), (0, 2, 36, 0, 4, 4), (0, 4, 38, 0, 0, 0), (6, 3, 39, 39, 11, 3), (6, 3, 42, 127, 0, 0), (0, 2, 45, 0, 5, 4), (0, 2, 47, 0, 3, 3), (8, 0, 48, 188, 47, 3), (4, 0, 51, 7, 30, 0), (0, 0, 54, 1, 0, 0), (4, 12, 55, 4, 31, 0), (0, 0, 58, 0, 0, 0), (1, 0, 59, 0, 0, 0), (0, 5, 60, 0, 4, 4), (0, 8, 62, 1, 5, 0), (4, 12, 65, -41, 15, 0), (0, 2, 68, 0, 4, 4), (0, 2, 70, 0, 1, 1), (4, 11, 71, 8, 42, 0), (0, 2, 74, 0, 4, 4), (0, 5, 76, 0, 1, 1), (0, 2, 77, 0, 3, 3), (0, 5, 78, 0, 2, 2), (0, 8, 79, 1, 3, 0), (4, 12, 82, -75, 6, 0), (0, 2, 85, 0, 2, 2), (9, 0, 86, 0, 0, 0)]
def kX11_mutual : List OP := [(0, 0, 0, 0, 0, 0), (0, 5, 1, 0, 1, 1), (0, 0, 2, 0, 0, 0), (0, 5, 3, 0, 2, 2), (0, 2, 4, 0, 2, 2), (0, 4, 5, 0, 0, 0), (6, 4, 6, 30, 11, 2), (6, 0, 9, 280, 2, 0), (4, 9, 12, 68, 42, 0), (0, 2, 15, 0, 2, 2), (0, 0, 16, 1, 0, 0), (1, 0, 17, 0, 0, 0), (0, 5, 18, 0, 3, 3), (0, 2, 19, 0, 3, 3), (0, 4, 20, 0, 0, 0), (6, 4, 21, 30, 11, 2), (6, 0, 24, 280, 2, 0), (4, 9, 27, 47, 40, 0), (0, 2, 30, 0, 1, 1), (0, 4, 31, 0, 0, 0), (6, 3, 32, 39, 11, 3), (6, 3, 35, 127, 0, 0), (0, 2, 38, 0, 2, 2), (0, 2, 39, 0, 3, 3), (8, 0, 40, 188, 47, 3), (4, 0, 43, 22, 35, 0), (0, 4, 46, 0, 0, 0), (6, 3, 47, 39, 11, 3), (6, 3, 50, 127, 0, 0), (0, 2, 53, 0, 3, 3), (0, 2, 54, 0, 2, 2), (8, 0, 55, 188, 47, 3), (4, 0, 58, 7, 35, 0), (0, 0, 61, 1, 0, 0), (4, 12, 62, 4, 36, 0), (0, 0, 65, 0, 0, 0), (1, 0, 66, 0, 0, 0), (0, 5, 67, 0, 1, 1), (0, 8, 68, 1, 3, 0), (4, 12, 71, -52, 13, 0), (0, 8, 74, 1, 2, 0), (4, 12, 77, -73, 4, 0), (0, 2, 80, 0, 1, 1), (9, 0, 81, 0, 0, 0)]
def kX11_lonely : List OP := [(0, 0, 0, 0, 0, 0), (0, 5, 1, 0, 1, 1), (0, 0, 2, 0, 0, 0), (0, 5, 3, 0, 2, 2), (0, 2, 4, 0, 2, 2), (0, 4, 5, 0, 0, 0), (6, 4, 6, 30, 11, 2), (6, 0, 9, 280, 2, 0), (4, 9, 12, 34, 26, 0), (0, 2, 15, 0, 1, 1), (0, 4, 16, 0, 0, 0), (6, 3, 17, 39, 11, 3), (6, 3, 20, 127, 0, 0), (6, 2, 23, 146, 5, 4), (0, 2, 26, 0, 2, 2), (5, 0, 27, 0, 0, 0), (4, 1, 28, 9, 21, 0), (0, 0, 31, 1, 0, 0), (0, 2, 32, 0, 2, 2), (1, 6, 33, 0, 0, 0), (4, 12, 34, 4, 22, 0), (0, 0, 37, 0, 0, 0), (1, 4, 38, 0, 0, 0), (0, 5, 39, 0, 1, 1), (0, 8, 40, 1, 2, 0), (4, 12, 43, -39, 4, 0), (0, 2, 46, 0, 1, 1), (9, 0, 47, 0, 0, 0)]
def kX11_note : List OP := [(0, 4, 0, 0, 0, 0), (0, 2, 1, 0, 1, 1), (0, 2, 2, 0, 2, 2), (8, 0, 3, 167, 155, 3), (4, 0, 6, 15, 11, 0), (0, 4, 9, 0, 0, 0), (6, 3, 10, 67, 11, 8), (0, 2, 13, 0, 1, 1), (0, 2, 14, 0, 2, 2), (8, 0, 15, 305, 103, 3), (4, 12, 18, 4, 12, 0), (0, 0, 21, -1, 0, 0), (9, 0, 22, 0, 0, 0)]
def kX11_see : List OP := [(0, 2, 0, 0, 1, 1), (0, 0, 1, 1, 0, 0), (0, 0, 2, 60, 0, 1), (8, 1, 4, 199, 156, 3), (4, 0, 7, 19, 13, 0), (0, 4, 10, 0, 0, 0), (0, 2, 11, 0, 2, 2), (8, 0, 12, 155, 154, 2), (4, 0, 15, 11, 13, 0), (0, 4, 18, 0, 0, 0), (0, 2, 19, 0, 3, 3), (8, 0, 20, 120, 153, 2), (4, 1, 23, 5, 15, 0), (0, 0, 26, -1, 0, 0), (9, 0, 27, 0, 0, 0), (0, 4, 28, 0, 0, 0), (6, 3, 29, 67, 11, 8), (0, 2, 32, 0, 1, 1), (0, 2, 33, 0, 2, 2), (0, 2, 34, 0, 3, 3), (0, 2, 35, 0, 4, 4), (8, 0, 37, 308, 104, 5), (9, 0, 40, 0, 0, 0)]
def kX11_strike : List OP := [(0, 2, 0, 0, 1, 1), (0, 0, 1, 0, 0, 0), (0, 4, 2, 0, 0, 0), (6, 3, 3, 67, 11, 8), (6, 0, 6, 312, 10, 6), (0, 0, 9, 1, 0, 0), (1, 1, 10, 0, 0, 0), (8, 1, 11, 199, 156, 3), (4, 0, 14, 14, 14, 0), (0, 4, 17, 0, 0, 0), (6, 3, 18, 67, 11, 8), (0, 2, 21, 0, 1, 1), (8, 0, 22, 315, 105, 2), (4, 12, 25, 4, 15, 0), (0, 0, 28, -1, 0, 0), (9, 0, 29, 0, 0, 0)]
def kX11_known : List OP := [(0, 2, 0, 0, 1, 1), (0, 0, 1, -1, 0, 0), (0, 4, 2, 0, 0, 0), (6, 3, 3, 67, 11, 8), (6, 0, 6, 312, 10, 6), (8, 1, 9, 199, 156, 3), (4, 1, 12, 5, 9, 0), (0, 0, 15, 0, 0, 0), (9, 1, 16, 0, 0, 0), (0, 4, 17, 0, 0, 0), (6, 3, 18, 67, 11, 8), (0, 2, 21, 0, 1, 1), (7, 0, 22, 318, 10, 7), (0, 0, 25, 1, 0, 0), (9, 1, 26, 0, 0, 0)]
def kX11_doubts : List OP := [(0, 4, 0, 0, 0, 0), (0, 2, 1, 0, 1, 1), (8, 0, 2, 120, 153, 2), (4, 1, 5, 5, 6, 0), (0, 0, 8, -1, 0, 0), (9, 0, 9, 0, 0, 0), (0, 4, 10, 0, 0, 0), (6, 3, 11, 67, 11, 8), (8, 0, 14, 286, 107, 1), (0, 0, 17, 0, 0, 0), (0, 5, 18, 0, 2, 2), (0, 0, 19, 0, 0, 0), (0, 5, 20, 0, 3, 3), (0, 2, 21, 0, 3, 3), (0, 0, 22, 9, 0, 1), (4, 10, 24, 54, 43, 0), (0, 4, 27, 0, 0, 0), (6, 3, 28, 43, 11, 4), (0, 4, 31, 0, 0, 0), (6, 4, 32, 30, 11, 2), (0, 4, 35, 0, 0, 0), (6, 4, 36, 30, 11, 2), (6, 3, 39, 321, 2, 10), (8, 0, 42, 225, 0, 3), (0, 4, 45, 0, 0, 0), (6, 3, 46, 43, 11, 4), (6, 2, 49, 324, 0, 1), (0, 2, 52, 0, 1, 1), (0, 2, 53, 0, 3, 3), (5, 4, 54, 0, 0, 0), (0, 2, 55, 0, 2, 2), (0, 4, 56, 0, 0, 0), (8, 0, 57, 325, 162, 1), (4, 0, 60, 9, 38, 0), (0, 0, 63, 1, 0, 0), (0, 2, 64, 0, 3, 3), (1, 6, 65, 0, 0, 0), (4, 12, 66, 4, 39, 0), (0, 0, 69, 0, 0, 0), (1, 4, 70, 0, 0, 0), (0, 5, 71, 0, 2, 2), (0, 8, 72, 1, 3, 0), (4, 12, 75, -54, 13, 0), (0, 2, 78, 0, 2, 2), (9, 0, 79, 0, 0, 0)]
def kX11_chance : List OP := [(0, 2, 0, 0, 1, 1), (4, 2, 1, 30, 15, 0), (0, 2, 4, 0, 2, 2), (0, 0, 5, 1, 0, 0), (0, 0, 6, 99, 0, 1), (8, 1, 8, 199, 156, 3), (4, 0, 11, 20, 15, 0), (0, 4, 14, 0, 0, 0), (0, 2, 15, 0, 3, 3), (8, 0, 16, 155, 154, 2), (4, 0, 19, 12, 15, 0), (0, 4, 22, 0, 0, 0), (0, 2, 23, 0, 4, 4), (8, 0, 25, 120, 153, 2), (4, 1, 28, 5, 17, 0), (0, 0, 31, -1, 0, 0), (9, 0, 32, 0, 0, 0), (0, 0, 33, 0, 0, 0), (0, 5, 34, 0, 5, 4), (0, 2, 36, 0, 1, 1), (1, 12, 37, 0, 0, 0), (0, 6, 38, 0, 6, 4), (0, 0, 40, 0, 0, 0), (0, 5, 41, 0, 8, 4), (0, 2, 43, 0, 8, 4), (0, 0, 45, 10, 0, 1), (4, 9, 47, 93, 68, 0), (0, 4, 50, 0, 0, 0), (6, 3, 51, 43, 11, 4), (0, 4, 54, 0, 0, 0), (6, 4, 55, 30, 11, 2), (0, 4, 58, 0, 0, 0), (6, 3, 59, 39, 11, 3), (6, 3, 62, 127, 0, 0), (8, 0, 65, 225, 0, 3), (0, 4, 68, 0, 0, 0), (6, 3, 69, 43, 11, 4), (8, 0, 72, 328, 1, 1), (0, 4, 75, 0, 0, 0), (6, 3, 76, 43, 11, 4), (6, 3, 79, 127, 0, 0), (0, 3, 82, 0, 6, 4), (7, 5, 84, 331, 5, 1), (0, 4, 87, 0, 0, 0), (6, 3, 88, 43, 11, 4), (0, 2, 91, 0, 2, 2), (8, 0, 92, 219, 3, 2), (0, 4, 95, 0, 0, 0), (6, 3, 96, 43, 11, 4), (6, 3, 99, 127, 0, 0), (6, 5, 102, 331, 5, 1), (0, 6, 105, 0, 6, 4), (0, 2, 107, 0, 5, 4), (0, 4, 109, 0, 0, 0), (6, 3, 110, 43, 11, 4), (6, 3, 113, 127, 0, 0), (6, 2, 116, 158, 5, 5), (0, 2, 119, 0, 3, 3), (5, 0, 120, 0, 0, 0), (0, 2, 121, 0, 4, 4), (4, 7, 123, 7, 63, 0), (0, 0, 126, 1, 0, 0), (4, 12, 127, 4, 64, 0), (0, 0, 130, 0, 0, 0), (1, 0, 131, 0, 0, 0), (0, 5, 132, 0, 5, 4), (0, 8, 134, 1, 8, 0), (4, 12, 137, -94, 24, 0), (0, 2, 140, 0, 5, 4), (9, 0, 142, 0, 0, 0)]
def kX11_tried : List OP := [(0, 2, 0, 0, 1, 1), (0, 0, 1, 2, 0, 0), (4, 7, 2, 11, 7, 0), (0, 4, 5, 0, 0, 0), (0, 2, 6, 0, 2, 2), (8, 0, 7, 120, 153, 2), (4, 12, 10, 12, 12, 0), (0, 2, 13, 0, 2, 2), (4, 1, 14, 7, 11, 0), (0, 0, 17, 1, 0, 0), (4, 12, 18, 4, 12, 0), (0, 0, 21, 0, 0, 0), (0, 5, 22, 0, 4, 4), (0, 2, 24, 0, 4, 4), (4, 0, 26, 32, 29, 0), (0, 2, 29, 0, 1, 1), (0, 0, 30, 0, 0, 0), (0, 0, 31, 4, 0, 0), (8, 1, 32, 199, 156, 3), (4, 0, 35, 23, 29, 0), (0, 2, 38, 0, 3, 3), (0, 0, 39, 0, 0, 0), (0, 0, 40, 99, 0, 1), (8, 1, 42, 199, 156, 3), (4, 0, 45, 13, 29, 0), (0, 4, 48, 0, 0, 0), (6, 4, 49, 30, 11, 2), (6, 0, 52, 275, 2, 1), (4, 1, 55, 5, 31, 0), (0, 0, 58, -1, 0, 0), (9, 0, 59, 0, 0, 0), (0, 4, 60, 0, 0, 0), (6, 3, 61, 43, 11, 4), (0, 4, 64, 0, 0, 0), (6, 4, 65, 30, 11, 2), (0, 4, 68, 0, 0, 0), (6, 3, 69, 39, 11, 3), (6, 3, 72, 127, 0, 0), (8, 0, 75, 225, 0, 3), (0, 4, 78, 0, 0, 0), (6, 3, 79, 43, 11, 4), (0, 2, 82, 0, 1, 1), (0, 2, 83, 0, 2, 2), (8, 0, 84, 335, 2, 3), (0, 4, 87, 0, 0, 0), (6, 3, 88, 43, 11, 4), (0, 2, 91, 0, 3, 3), (8, 0, 92, 219, 3, 2), (0, 4, 95, 0, 0, 0), (6, 3, 96, 43, 11, 4), (6, 3, 99, 127, 0, 0), (6, 2, 102, 158, 5, 5), (0, 0, 105, 0, 0, 0), (5, 0, 106, 0, 0, 0), (9, 0, 107, 0, 0, 0)]
def kX11_undo : List OP := [(0, 4, 0, 0, 0, 0), (6, 3, 1, 60, 11, 7), (8, 0, 4, 338, 13, 1), (4, 0, 7, 7, 6, 0), (0, 0, 10, -1, 0, 0), (4, 12, 11, 17, 12, 0), (0, 4, 14, 0, 0, 0), (6, 3, 15, 60, 11, 7), (0, 4, 18, 0, 0, 0), (6, 3, 19, 39, 11, 3), (6, 3, 22, 127, 0, 0), (8, 0, 25, 341, 21, 2), (9, 0, 28, 0, 0, 0)]
def kX11_keep : List OP := [(0, 4, 0, 0, 0, 0), (6, 3, 1, 49, 11, 5), (0, 4, 4, 0, 0, 0), (6, 3, 5, 39, 11, 3), (6, 3, 8, 127, 0, 0), (8, 0, 11, 345, 46, 2), (0, 4, 14, 0, 0, 0), (0, 0, 15, 1, 0, 0), (7, 1, 16, 53, 11, 6), (0, 4, 19, 0, 0, 0), (6, 3, 20, 49, 11, 5), (6, 0, 23, 216, 5, 0), (9, 0, 26, 0, 0, 0)]
def kX11_back : List OP := [(0, 4, 0, 0, 0, 0), (6, 1, 1, 53, 11, 6), (4, 1, 4, 5, 5, 0), (0, 0, 7, -1, 0, 0), (9, 0, 8, 0, 0, 0), (0, 4, 9, 0, 0, 0), (6, 3, 10, 39, 11, 3), (6, 3, 13, 127, 0, 0), (0, 4, 16, 0, 0, 0), (6, 3, 17, 49, 11, 5), (8, 0, 20, 345, 46, 2), (0, 4, 23, 0, 0, 0), (6, 3, 24, 60, 11, 7), (8, 0, 27, 222, 15, 1), (0, 4, 30, 0, 0, 0), (6, 3, 31, 39, 11, 3), (6, 3, 34, 127, 0, 0), (6, 0, 37, 216, 5, 0), (9, 0, 40, 0, 0, 0)]
def kX11_count : List OP := [(0, 2, 0, 0, 1, 1), (4, 13, 1, 0, 62, 5), (0, 4, 56, 0, 0, 0), (6, 4, 57, 30, 11, 2), (6, 0, 60, 280, 2, 0), (9, 0, 63, 0, 0, 0), (0, 4, 64, 0, 0, 0), (6, 3, 65, 39, 11, 3), (6, 3, 68, 127, 0, 0), (8, 0, 71, 349, 49, 1), (9, 0, 74, 0, 0, 0), (0, 4, 75, 0, 0, 0), (6, 4, 76, 30, 11, 2), (6, 0, 79, 275, 2, 1), (9, 0, 82, 0, 0, 0), (0, 4, 83, 0, 0, 0), (6, 4, 84, 30, 11, 2), (6, 0, 87, 353, 2, 4), (9, 0, 90, 0, 0, 0), (0, 4, 91, 0, 0, 0), (6, 3, 92, 39, 11, 3), (6, 3, 95, 127, 0, 0), (6, 0, 98, 216, 5, 0), (9, 0, 101, 0, 0, 0), (0, 4, 102, 0, 0, 0), (6, 3, 103, 39, 11, 3), (6, 3, 106, 127, 0, 0), (6, 2, 109, 164, 5, 7), (0, 0, 112, 0, 0, 0), (5, 0, 113, 0, 0, 0), (0, 4, 114, 0, 0, 0), (6, 3, 115, 39, 11, 3), (6, 3, 118, 127, 0, 0), (6, 2, 121, 164, 5, 7), (0, 0, 124, 1, 0, 0), (5, 0, 125, 0, 0, 0), (1, 0, 126, 0, 0, 0), (9, 0, 127, 0, 0, 0), (0, 4, 128, 0, 0, 0), (6, 3, 129, 39, 11, 3), (6, 3, 132, 127, 0, 0), (0, 0, 135, 1, 0, 0), (0, 4, 136, 0, 0, 0), (6, 4, 137, 30, 11, 2), (6, 0, 140, 280, 2, 0), (1, 6, 143, 0, 0, 0), (0, 0, 144, 1, 0, 0), (1, 1, 145, 0, 0, 0), (8, 0, 146, 296, 51, 2), (9, 0, 149, 0, 0, 0), (0, 4, 150, 0, 0, 0), (6, 3, 151, 67, 11, 8), (6, 0, 154, 312, 10, 6), (9, 0, 157, 0, 0, 0), (0, 4, 158, 0, 0, 0), (6, 3, 159, 67, 11, 8), (8, 0, 162, 356, 102, 1), (9, 0, 165, 0, 0, 0), (0, 4, 166, 0, 0, 0), (6, 3, 167, 60, 11, 7), (8, 0, 170, 359, 14, 1), (9, 0, 173, 0, 0, 0), (0, 0, 174, -1, 0, 0), (9, 0, 175, 0, 0, 0)]
def kX11_isGrower : List OP := [(0, 2, 0, 0, 1, 1), (4, 2, 1, 18, 9, 0), (0, 2, 4, 0, 1, 1), (0, 4, 5, 0, 0, 0), (6, 4, 6, 30, 11, 2), (6, 0, 9, 280, 2, 0), (4, 9, 12, 7, 9, 0), (0, 0, 15, 1, 0, 0), (4, 12, 16, 4, 10, 0), (0, 0, 19, 0, 0, 0), (9, 1, 20, 0, 0, 0)]
def kX11_isRibbon : List OP := [(0, 2, 0, 0, 1, 1), (4, 2, 1, 18, 9, 0), (0, 2, 4, 0, 1, 1), (0, 4, 5, 0, 0, 0), (6, 4, 6, 30, 11, 2), (6, 0, 9, 275, 2, 1), (4, 9, 12, 7, 9, 0), (0, 0, 15, 1, 0, 0), (4, 12, 16, 4, 10, 0), (0, 0, 19, 0, 0, 0), (9, 1, 20, 0, 0, 0)]
def kX11_areTwo : List OP := [(0, 4, 0, 0, 0, 0), (0, 2, 1, 0, 1, 1), (8, 0, 2, 120, 153, 2), (4, 0, 5, 20, 13, 0), (0, 4, 8, 0, 0, 0), (0, 2, 9, 0, 2, 2), (8, 0, 10, 120, 153, 2), (4, 0, 13, 12, 13, 0), (0, 2, 16, 0, 1, 1), (0, 2, 17, 0, 2, 2), (4, 6, 18, 7, 13, 0), (0, 0, 21, 1, 0, 0), (4, 12, 22, 4, 14, 0), (0, 0, 25, 0, 0, 0), (9, 1, 26, 0, 0, 0)]
def kX11_isWithin : List OP := [(0, 2, 0, 0, 0, 0), (0, 2, 1, 0, 1, 1), (4, 8, 2, 12, 8, 0), (0, 2, 5, 0, 0, 0), (0, 2, 6, 0, 2, 2), (4, 10, 7, 7, 8, 0), (0, 0, 10, 1, 0, 0), (4, 12, 11, 4, 9, 0), (0, 0, 14, 0, 0, 0), (9, 1, 15, 0, 0, 0)]
def kX11_has : List OP := [(0, 2, 0, 0, 0, 0), (0, 2, 1, 0, 1, 1), (1, 7, 2, 0, 0, 0), (0, 0, 3, 1, 0, 0), (1, 3, 4, 0, 0, 0), (4, 0, 5, 7, 8, 0), (0, 0, 8, 1, 0, 0), (4, 12, 9, 4, 9, 0), (0, 0, 12, 0, 0, 0), (9, 1, 13, 0, 0, 0)]
def kX11_beginAnew : List OP := [(0, 4, 0, 0, 0, 0), (0, 4, 1, 0, 0, 0), (6, 3, 2, 23, 11, 1), (0, 4, 5, 0, 0, 0), (6, 4, 6, 30, 11, 2), (8, 0, 9, 362, 55, 2), (7, 4, 12, 30, 11, 2), (0, 4, 15, 0, 0, 0), (6, 3, 16, 39, 11, 3), (0, 4, 19, 0, 0, 0), (6, 4, 20, 30, 11, 2), (0, 4, 23, 0, 0, 0), (6, 4, 24, 30, 11, 2), (6, 3, 27, 321, 2, 10), (8, 0, 30, 225, 0, 3), (0, 4, 33, 0, 0, 0), (6, 3, 34, 39, 11, 3), (8, 0, 37, 328, 1, 1), (0, 4, 40, 0, 0, 0), (6, 3, 41, 67, 11, 8), (8, 0, 44, 366, 101, 1), (0, 4, 47, 0, 0, 0), (6, 3, 48, 60, 11, 7), (8, 0, 51, 222, 15, 1), (0, 4, 54, 0, 0, 0), (0, 0, 55, 0, 0, 0), (7, 1, 56, 53, 11, 6), (9, 4, 59, 0, 0, 0)]
def kX11_ribbonsOf : List OP := [(0, 0, 0, 0, 0, 0), (0, 5, 1, 0, 2, 2), (0, 0, 2, 0, 0, 0), (0, 5, 3, 0, 3, 3), (0, 2, 4, 0, 3, 3), (0, 4, 5, 0, 0, 0), (6, 4, 6, 30, 11, 2), (6, 0, 9, 275, 2, 1), (4, 9, 12, 35, 27, 0), (0, 2, 15, 0, 2, 2), (0, 4, 16, 0, 0, 0), (6, 3, 17, 39, 11, 3), (6, 3, 20, 127, 0, 0), (6, 2, 23, 158, 5, 5), (0, 2, 26, 0, 3, 3), (5, 0, 27, 0, 0, 0), (0, 2, 28, 0, 1, 1), (4, 7, 29, 9, 22, 0), (0, 0, 32, 1, 0, 0), (0, 2, 33, 0, 3, 3), (1, 6, 34, 0, 0, 0), (4, 12, 35, 4, 23, 0), (0, 0, 38, 0, 0, 0), (1, 4, 39, 0, 0, 0), (0, 5, 40, 0, 2, 2), (0, 8, 41, 1, 3, 0), (4, 12, 44, -40, 4, 0), (0, 2, 47, 0, 2, 2), (9, 0, 48, 0, 0, 0)]
def kX11_isRest : List OP := [(0, 2, 0, 0, 3, 3), (0, 0, 1, 1, 0, 0), (1, 7, 2, 0, 0, 0), (0, 5, 3, 0, 4, 4), (0, 2, 5, 0, 3, 3), (0, 0, 6, 1, 0, 0), (1, 3, 7, 0, 0, 0), (0, 5, 8, 0, 5, 4), (0, 4, 10, 0, 0, 0), (0, 2, 11, 0, 1, 1), (0, 2, 12, 0, 2, 2), (0, 2, 13, 0, 4, 4), (0, 2, 15, 0, 5, 4), (8, 0, 17, 367, 161, 5), (0, 4, 20, 0, 0, 0), (0, 2, 21, 0, 1, 1), (0, 2, 22, 0, 2, 2), (0, 0, 23, 1, 0, 0), (0, 2, 24, 0, 4, 4), (1, 1, 26, 0, 0, 0), (0, 2, 27, 0, 5, 4), (8, 0, 29, 367, 161, 5), (4, 8, 32, 32, 40, 0), (0, 4, 35, 0, 0, 0), (0, 2, 36, 0, 2, 2), (0, 2, 37, 0, 1, 1), (0, 2, 38, 0, 5, 4), (0, 2, 40, 0, 4, 4), (8, 0, 42, 367, 161, 5), (0, 4, 45, 0, 0, 0), (0, 2, 46, 0, 2, 2), (0, 2, 47, 0, 1, 1), (0, 0, 48, 1, 0, 0), (0, 2, 49, 0, 5, 4), (1, 1, 51, 0, 0, 0), (0, 2, 52, 0, 4, 4), (8, 0, 54, 367, 161, 5), (4, 8, 57, 7, 40, 0), (0, 0, 60, 1, 0, 0), (4, 12, 61, 4, 41, 0), (0, 0, 64, 0, 0, 0), (9, 1, 65, 0, 0, 0)]
def kX11_share : List OP := [(0, 4, 0, 0, 0, 0), (6, 3, 1, 39, 11, 3), (6, 3, 4, 127, 0, 0), (6, 2, 7, 130, 5, 2), (0, 2, 10, 0, 1, 1), (5, 0, 11, 0, 0, 0), (0, 5, 12, 0, 5, 4), (0, 2, 14, 0, 3, 3), (0, 0, 15, 1, 0, 0), (4, 7, 16, 28, 24, 0), (0, 2, 19, 0, 4, 4), (0, 0, 21, 1, 0, 0), (4, 7, 22, 20, 22, 0), (0, 4, 25, 0, 0, 0), (6, 3, 26, 39, 11, 3), (6, 3, 29, 127, 0, 0), (6, 2, 32, 130, 5, 2), (0, 2, 35, 0, 2, 2), (5, 0, 36, 0, 0, 0), (0, 0, 37, 2, 0, 0), (1, 9, 38, 0, 0, 0), (4, 12, 39, 4, 23, 0), (0, 0, 42, 0, 0, 0), (9, 0, 43, 0, 0, 0), (0, 2, 44, 0, 4, 4), (0, 0, 46, 1, 0, 0), (4, 7, 47, 20, 37, 0), (0, 2, 50, 0, 5, 4), (0, 0, 52, 5, 0, 0), (0, 4, 53, 0, 0, 0), (6, 4, 54, 30, 11, 2), (6, 2, 57, 137, 2, 7), (0, 2, 60, 0, 2, 2), (5, 0, 61, 0, 0, 0), (1, 2, 62, 0, 0, 0), (1, 1, 63, 0, 0, 0), (4, 12, 64, 7, 40, 0), (0, 2, 67, 0, 5, 4), (0, 0, 69, 4, 0, 0), (1, 9, 70, 0, 0, 0), (9, 0, 71, 0, 0, 0)]
def kX11_areSightsSo : List OP := [(0, 4, 0, 0, 0, 0), (6, 3, 1, 67, 11, 8), (8, 0, 4, 371, 109, 1), (0, 5, 7, 0, 1, 1), (0, 0, 8, 1, 0, 0), (0, 5, 9, 0, 2, 2), (0, 2, 10, 0, 2, 2), (0, 2, 11, 0, 1, 1), (4, 10, 12, 36, 24, 0), (0, 4, 15, 0, 0, 0), (6, 3, 16, 43, 11, 4), (8, 0, 19, 278, 4, 1), (0, 4, 22, 0, 0, 0), (6, 3, 23, 67, 11, 8), (0, 2, 26, 0, 2, 2), (0, 4, 27, 0, 0, 0), (6, 3, 28, 43, 11, 4), (6, 3, 31, 127, 0, 0), (8, 0, 34, 374, 110, 3), (4, 1, 37, 5, 22, 0), (0, 0, 40, 0, 0, 0), (9, 1, 41, 0, 0, 0), (0, 8, 42, 1, 2, 0), (4, 12, 45, -35, 6, 0), (0, 0, 48, 1, 0, 0), (9, 1, 49, 0, 0, 0)]
def kX12_thrown : List OP := [(0, 4, 0, 0, 0, 0), (6, 0, 1, 130, 12, 2), (9, 0, 4, 0, 0, 0)]
def kX12_feed : List OP := [(0, 4, 0, 0, 0, 0), (0, 0, 1, 0, 0, 0), (7, 0, 2, 130, 12, 2), (0, 4, 5, 0, 0, 0), (6, 0, 6, 133, 12, 1), (0, 0, 9, 20, 0, 1), (1, 0, 11, 0, 0, 0), (0, 0, 12, 700, 0, 2), (4, 11, 15, 5, 11, 0), (0, 0, 18, -1, 0, 0), (9, 0, 19, 0, 0, 0), (0, 0, 20, 0, 0, 0), (0, 5, 21, 0, 6, 4), (0, 2, 23, 0, 6, 4), (0, 0, 25, 20, 0, 1), (4, 9, 27, 86, 58, 0), (0, 2, 30, 0, 6, 4), (0, 0, 32, 4, 0, 0), (4, 9, 33, 7, 21, 0), (0, 2, 36, 0, 1, 1), (4, 12, 37, 39, 37, 0), (0, 2, 40, 0, 6, 4), (0, 0, 42, 8, 0, 1), (4, 9, 44, 7, 26, 0), (0, 2, 47, 0, 2, 2), (4, 12, 48, 28, 37, 0), (0, 2, 51, 0, 6, 4), (0, 0, 53, 12, 0, 1), (4, 9, 55, 7, 31, 0), (0, 2, 58, 0, 3, 3), (4, 12, 59, 17, 37, 0), (0, 2, 62, 0, 6, 4), (0, 0, 64, 16, 0, 1), (4, 9, 66, 8, 36, 0), (0, 2, 69, 0, 4, 4), (4, 12, 71, 5, 37, 0), (0, 2, 74, 0, 5, 4), (0, 5, 76, 0, 7, 4), (0, 4, 78, 0, 0, 0), (6, 2, 79, 7, 12, 0), (0, 4, 82, 0, 0, 0), (6, 0, 83, 133, 12, 1), (0, 2, 86, 0, 6, 4), (1, 0, 88, 0, 0, 0), (0, 2, 89, 0, 7, 4), (0, 0, 91, 24, 0, 1), (0, 0, 93, 8, 0, 1), (0, 2, 95, 0, 6, 4), (0, 0, 97, 4, 0, 0), (1, 10, 98, 0, 0, 0), (1, 2, 99, 0, 0, 0), (1, 1, 100, 0, 0, 0), (1, 7, 101, 0, 0, 0), (0, 0, 102, 255, 0, 2), (1, 3, 105, 0, 0, 0), (5, 4, 106, 0, 0, 0), (0, 8, 107, 1, 6, 0), (4, 12, 110, -87, 13, 0), (0, 4, 113, 0, 0, 0), (3, 0, 114, 0, 0, 0), (6, 0, 115, 133, 12, 1), (0, 0, 118, 20, 0, 1), (1, 0, 120, 0, 0, 0), (7, 0, 121, 133, 12, 1), (0, 4, 124, 0, 0, 0), (6, 0, 125, 133, 12, 1), (9, 0, 128, 0, 0, 0)]
def kX12_isIn : List OP := [(0, 2, 0, 0, 0, 0), (0, 2, 1, 0, 1, 1), (4, 8, 2, 12, 8, 0), (0, 2, 5, 0, 0, 0), (0, 2, 6, 0, 2, 2), (4, 10, 7, 7, 8, 0), (0, 0, 10, 1, 0, 0), (4, 12, 11, 4, 9, 0), (0, 0, 14, 0, 0, 0), (9, 1, 15, 0, 0, 0)]
def kX12_isOf : List OP := [(0, 2, 0, 0, 0, 0), (0, 2, 1, 0, 1, 1), (1, 7, 2, 0, 0, 0), (0, 0, 3, 1, 0, 0), (1, 3, 4, 0, 0, 0), (0, 0, 5, 1, 0, 0), (4, 7, 6, 7, 9, 0), (0, 0, 9, 1, 0, 0), (4, 12, 10, 4, 10, 0), (0, 0, 13, 0, 0, 0), (9, 1, 14, 0, 0, 0)]
def kX12_wrong : List OP := [(0, 4, 0, 0, 0, 0), (0, 2, 1, 0, 1, 1), (7, 0, 2, 136, 12, 4), (0, 4, 5, 0, 0, 0), (0, 4, 6, 0, 0, 0), (6, 0, 7, 139, 12, 10), (7, 0, 10, 16, 12, 5), (0, 0, 13, 0, 0, 0), (9, 1, 14, 0, 0, 0)]
def kX12_wordAt : List OP := [(0, 0, 0, 0, 0, 0), (0, 5, 1, 0, 3, 3), (0, 0, 2, 0, 0, 0), (0, 5, 3, 0, 4, 4), (0, 2, 5, 0, 4, 4), (0, 4, 7, 0, 0, 0), (6, 2, 8, 13, 12, 3), (5, 7, 11, 0, 0, 0), (4, 9, 12, 114, 68, 0), (0, 0, 15, 0, 0, 0), (0, 5, 16, 0, 5, 4), (0, 4, 18, 0, 0, 0), (6, 2, 19, 13, 12, 3), (0, 2, 22, 0, 4, 4), (0, 2, 24, 0, 5, 4), (1, 0, 26, 0, 0, 0), (5, 0, 27, 0, 0, 0), (0, 0, 28, 32, 0, 1), (4, 6, 30, 9, 21, 0), (0, 8, 33, 1, 5, 0), (4, 12, 36, -18, 11, 0), (0, 2, 39, 0, 5, 4), (0, 2, 41, 0, 2, 2), (0, 2, 42, 0, 1, 1), (1, 1, 43, 0, 0, 0), (4, 7, 44, 7, 28, 0), (0, 0, 47, 1, 0, 0), (4, 12, 48, 4, 29, 0), (0, 0, 51, 0, 0, 0), (0, 5, 52, 0, 6, 4), (0, 0, 54, 0, 0, 0), (0, 5, 55, 0, 7, 4), (0, 2, 57, 0, 7, 4), (0, 2, 59, 0, 5, 4), (4, 9, 61, 43, 56, 0), (0, 2, 64, 0, 6, 4), (4, 0, 66, 38, 56, 0), (0, 4, 69, 0, 0, 0), (6, 2, 70, 13, 12, 3), (0, 2, 73, 0, 4, 4), (0, 2, 75, 0, 7, 4), (1, 0, 77, 0, 0, 0), (5, 0, 78, 0, 0, 0), (0, 4, 79, 0, 0, 0), (6, 2, 80, 7, 12, 0), (0, 2, 83, 0, 1, 1), (0, 2, 84, 0, 7, 4), (1, 0, 86, 0, 0, 0), (5, 0, 87, 0, 0, 0), (4, 7, 88, 7, 52, 0), (0, 0, 91, 1, 0, 0), (4, 12, 92, 4, 53, 0), (0, 0, 95, 0, 0, 0), (0, 5, 96, 0, 6, 4), (0, 8, 98, 1, 7, 0), (4, 12, 101, -44, 32, 0), (0, 2, 104, 0, 6, 4), (4, 0, 106, 5, 60, 0), (0, 2, 109, 0, 3, 3), (9, 0, 110, 0, 0, 0), (0, 2, 111, 0, 4, 4), (0, 2, 113, 0, 5, 4), (0, 0, 115, 1, 0, 0), (1, 0, 116, 0, 0, 0), (1, 0, 117, 0, 0, 0), (0, 5, 118, 0, 4, 4), (0, 8, 120, 1, 3, 0), (4, 12, 123, -118, 4, 0), (0, 0, 126, -1, 0, 0), (9, 0, 127, 0, 0, 0)]
def kX12_isSmall : List OP := [(0, 2, 0, 0, 1, 1), (0, 4, 1, 0, 0, 0), (6, 0, 2, 142, 12, 6), (4, 9, 5, 29, 18, 0), (0, 4, 8, 0, 0, 0), (6, 2, 9, 7, 12, 0), (0, 2, 12, 0, 1, 1), (5, 0, 13, 0, 0, 0), (0, 0, 14, 97, 0, 1), (4, 8, 16, 18, 18, 0), (0, 4, 19, 0, 0, 0), (6, 2, 20, 7, 12, 0), (0, 2, 23, 0, 1, 1), (5, 0, 24, 0, 0, 0), (0, 0, 25, 122, 0, 1), (4, 10, 27, 7, 18, 0), (0, 0, 30, 1, 0, 0), (4, 12, 31, 4, 19, 0), (0, 0, 34, 0, 0, 0), (9, 1, 35, 0, 0, 0)]
def kX12_isDigit : List OP := [(0, 2, 0, 0, 1, 1), (0, 4, 1, 0, 0, 0), (6, 0, 2, 142, 12, 6), (4, 9, 5, 29, 18, 0), (0, 4, 8, 0, 0, 0), (6, 2, 9, 7, 12, 0), (0, 2, 12, 0, 1, 1), (5, 0, 13, 0, 0, 0), (0, 0, 14, 48, 0, 1), (4, 8, 16, 18, 18, 0), (0, 4, 19, 0, 0, 0), (6, 2, 20, 7, 12, 0), (0, 2, 23, 0, 1, 1), (5, 0, 24, 0, 0, 0), (0, 0, 25, 57, 0, 1), (4, 10, 27, 7, 18, 0), (0, 0, 30, 1, 0, 0), (4, 12, 31, 4, 19, 0), (0, 0, 34, 0, 0, 0), (9, 1, 35, 0, 0, 0)]
def kX12_token : List OP := [(0, 4, 0, 0, 0, 0), (6, 0, 1, 145, 12, 7), (0, 4, 4, 0, 0, 0), (6, 0, 5, 142, 12, 6), (4, 9, 8, 44, 26, 0), (0, 4, 11, 0, 0, 0), (6, 2, 12, 7, 12, 0), (0, 4, 15, 0, 0, 0), (6, 0, 16, 145, 12, 7), (5, 0, 19, 0, 0, 0), (0, 0, 20, 10, 0, 1), (4, 6, 22, 17, 19, 0), (0, 4, 25, 0, 0, 0), (6, 2, 26, 7, 12, 0), (0, 4, 29, 0, 0, 0), (6, 0, 30, 145, 12, 7), (5, 0, 33, 0, 0, 0), (0, 0, 34, 32, 0, 1), (4, 7, 36, 16, 26, 0), (0, 4, 39, 0, 0, 0), (3, 0, 40, 0, 0, 0), (6, 0, 41, 145, 12, 7), (0, 0, 44, 1, 0, 0), (1, 0, 45, 0, 0, 0), (7, 0, 46, 145, 12, 7), (4, 12, 49, -49, 0, 0), (0, 4, 52, 0, 0, 0), (0, 4, 53, 0, 0, 0), (6, 0, 54, 145, 12, 7), (7, 0, 57, 139, 12, 10), (0, 4, 60, 0, 0, 0), (6, 0, 61, 145, 12, 7), (0, 4, 64, 0, 0, 0), (6, 0, 65, 142, 12, 6), (4, 7, 68, 11, 39, 0), (0, 4, 71, 0, 0, 0), (0, 0, 72, 0, 0, 0), (7, 0, 73, 148, 12, 8), (4, 12, 76, 205, 140, 0), (0, 4, 79, 0, 0, 0), (0, 4, 80, 0, 0, 0), (6, 0, 81, 145, 12, 7), (8, 0, 84, 151, 169, 2), (4, 0, 87, 105, 94, 0), (0, 4, 90, 0, 0, 0), (0, 4, 91, 0, 0, 0), (6, 0, 92, 145, 12, 7), (8, 0, 95, 151, 169, 2), (4, 0, 98, 16, 56, 0), (0, 4, 101, 0, 0, 0), (3, 0, 102, 0, 0, 0), (6, 0, 103, 145, 12, 7), (0, 0, 106, 1, 0, 0), (1, 0, 107, 0, 0, 0), (7, 0, 108, 145, 12, 7), (4, 12, 111, -21, 44, 0), (0, 4, 114, 0, 0, 0), (0, 4, 115, 0, 0, 0), (0, 4, 116, 0, 0, 0), (6, 0, 117, 139, 12, 10), (0, 4, 120, 0, 0, 0), (6, 0, 121, 145, 12, 7), (8, 0, 124, 155, 168, 3), (7, 0, 127, 159, 12, 9), (0, 4, 130, 0, 0, 0), (0, 4, 131, 0, 0, 0), (6, 0, 132, 159, 12, 9), (4, 2, 135, 7, 70, 0), (0, 0, 138, 1, 0, 0), (4, 12, 139, 23, 80, 0), (0, 4, 142, 0, 0, 0), (6, 0, 143, 145, 12, 7), (0, 4, 146, 0, 0, 0), (6, 0, 147, 139, 12, 10), (1, 1, 150, 0, 0, 0), (0, 0, 151, 6, 0, 1), (4, 11, 153, 8, 79, 0), (0, 0, 156, 6, 0, 1), (4, 12, 158, 4, 80, 0), (0, 0, 161, 2, 0, 0), (7, 0, 162, 148, 12, 8), (0, 4, 165, 0, 0, 0), (6, 0, 166, 148, 12, 8), (0, 0, 169, 2, 0, 0), (4, 7, 170, 111, 140, 0), (0, 4, 173, 0, 0, 0), (0, 4, 174, 0, 0, 0), (0, 4, 175, 0, 0, 0), (6, 0, 176, 139, 12, 10), (0, 4, 179, 0, 0, 0), (6, 0, 180, 145, 12, 7), (8, 0, 183, 162, 173, 3), (7, 0, 186, 159, 12, 9), (4, 12, 189, 92, 140, 0), (0, 4, 192, 0, 0, 0), (0, 4, 193, 0, 0, 0), (6, 0, 194, 145, 12, 7), (8, 0, 197, 165, 170, 2), (4, 0, 200, 77, 138, 0), (0, 4, 203, 0, 0, 0), (0, 0, 204, 3, 0, 0), (7, 0, 205, 148, 12, 8), (0, 4, 208, 0, 0, 0), (0, 0, 209, 0, 0, 0), (7, 0, 210, 159, 12, 9), (0, 4, 213, 0, 0, 0), (0, 4, 214, 0, 0, 0), (6, 0, 215, 145, 12, 7), (8, 0, 218, 165, 170, 2), (4, 0, 221, 60, 140, 0), (0, 4, 224, 0, 0, 0), (0, 4, 225, 0, 0, 0), (6, 0, 226, 159, 12, 9), (0, 0, 229, 99999, 168, 3), (4, 11, 231, 10, 118, 0), (0, 4, 234, 0, 0, 0), (6, 0, 235, 159, 12, 9), (4, 12, 238, 23, 130, 0), (0, 0, 241, 10, 0, 1), (0, 4, 243, 0, 0, 0), (6, 0, 244, 159, 12, 9), (1, 2, 247, 0, 0, 0), (0, 4, 248, 0, 0, 0), (6, 2, 249, 7, 12, 0), (0, 4, 252, 0, 0, 0), (6, 0, 253, 145, 12, 7), (5, 0, 256, 0, 0, 0), (1, 0, 257, 0, 0, 0), (0, 0, 258, 48, 0, 1), (1, 1, 260, 0, 0, 0), (7, 0, 261, 159, 12, 9), (0, 4, 264, 0, 0, 0), (3, 0, 265, 0, 0, 0), (6, 0, 266, 145, 12, 7), (0, 0, 269, 1, 0, 0), (1, 0, 270, 0, 0, 0), (7, 0, 271, 145, 12, 7), (4, 12, 274, -61, 105, 0), (0, 4, 277, 0, 0, 0), (8, 0, 278, 169, 172, 1), (9, 4, 281, 0, 0, 0)]
def kX12_signToken : List OP := [(0, 4, 0, 0, 0, 0), (0, 4, 1, 0, 0, 0), (6, 2, 2, 7, 12, 0), (0, 4, 5, 0, 0, 0), (6, 0, 6, 145, 12, 7), (5, 0, 9, 0, 0, 0), (7, 0, 10, 159, 12, 9), (0, 4, 13, 0, 0, 0), (3, 0, 14, 0, 0, 0), (6, 0, 15, 145, 12, 7), (0, 0, 18, 1, 0, 0), (1, 0, 19, 0, 0, 0), (7, 0, 20, 145, 12, 7), (0, 4, 23, 0, 0, 0), (6, 0, 24, 159, 12, 9), (0, 0, 27, 60, 0, 1), (4, 6, 29, 21, 25, 0), (0, 4, 32, 0, 0, 0), (6, 0, 33, 159, 12, 9), (0, 0, 36, 62, 0, 1), (4, 6, 38, 12, 25, 0), (0, 4, 41, 0, 0, 0), (6, 0, 42, 159, 12, 9), (0, 0, 45, 61, 0, 1), (4, 7, 47, 151, 101, 0), (0, 4, 50, 0, 0, 0), (6, 0, 51, 145, 12, 7), (0, 4, 54, 0, 0, 0), (6, 0, 55, 142, 12, 6), (4, 9, 58, 15, 36, 0), (0, 4, 61, 0, 0, 0), (6, 2, 62, 7, 12, 0), (0, 4, 65, 0, 0, 0), (6, 0, 66, 145, 12, 7), (5, 0, 69, 0, 0, 0), (4, 12, 70, 4, 37, 0), (0, 0, 73, 0, 0, 0), (0, 5, 74, 0, 1, 1), (0, 4, 75, 0, 0, 0), (6, 0, 76, 159, 12, 9), (0, 0, 79, 61, 0, 1), (4, 6, 81, 13, 47, 0), (0, 2, 84, 0, 1, 1), (0, 0, 85, 61, 0, 1), (4, 7, 87, 7, 47, 0), (0, 0, 90, 1, 0, 0), (4, 12, 91, 4, 48, 0), (0, 0, 94, 0, 0, 0), (0, 5, 95, 0, 2, 2), (0, 4, 96, 0, 0, 0), (6, 0, 97, 159, 12, 9), (0, 0, 100, 60, 0, 1), (4, 7, 102, 13, 58, 0), (0, 2, 105, 0, 1, 1), (0, 0, 106, 62, 0, 1), (4, 7, 108, 7, 58, 0), (0, 0, 111, 1, 0, 0), (4, 12, 112, 4, 59, 0), (0, 0, 115, 0, 0, 0), (0, 5, 116, 0, 3, 3), (0, 2, 117, 0, 2, 2), (4, 1, 118, 7, 64, 0), (0, 2, 121, 0, 3, 3), (4, 0, 122, 13, 70, 0), (0, 4, 125, 0, 0, 0), (3, 0, 126, 0, 0, 0), (6, 0, 127, 145, 12, 7), (0, 0, 130, 1, 0, 0), (1, 0, 131, 0, 0, 0), (7, 0, 132, 145, 12, 7), (0, 4, 135, 0, 0, 0), (0, 0, 136, 5, 0, 0), (7, 0, 137, 148, 12, 8), (0, 4, 140, 0, 0, 0), (0, 4, 141, 0, 0, 0), (6, 0, 142, 159, 12, 9), (0, 0, 145, 61, 0, 1), (4, 7, 147, 7, 80, 0), (0, 0, 150, 2, 0, 0), (4, 12, 151, 41, 99, 0), (0, 4, 154, 0, 0, 0), (6, 0, 155, 159, 12, 9), (0, 0, 158, 60, 0, 1), (4, 7, 160, 23, 94, 0), (0, 2, 163, 0, 2, 2), (4, 0, 164, 7, 88, 0), (0, 0, 167, 1, 0, 0), (4, 12, 168, 24, 99, 0), (0, 2, 171, 0, 3, 3), (4, 0, 172, 7, 92, 0), (0, 0, 175, 3, 0, 0), (4, 12, 176, 16, 99, 0), (0, 0, 179, 0, 0, 0), (4, 12, 180, 12, 99, 0), (0, 2, 183, 0, 2, 2), (4, 0, 184, 7, 98, 0), (0, 0, 187, 4, 0, 0), (4, 12, 188, 4, 99, 0), (0, 0, 191, 5, 0, 0), (7, 0, 192, 159, 12, 9), (4, 12, 195, 95, 144, 0), (0, 4, 198, 0, 0, 0), (6, 0, 199, 159, 12, 9), (0, 0, 202, 59, 0, 1), (4, 6, 204, 66, 133, 0), (0, 4, 207, 0, 0, 0), (6, 0, 208, 159, 12, 9), (0, 0, 211, 40, 0, 1), (4, 6, 213, 57, 133, 0), (0, 4, 216, 0, 0, 0), (6, 0, 217, 159, 12, 9), (0, 0, 220, 41, 0, 1), (4, 6, 222, 48, 133, 0), (0, 4, 225, 0, 0, 0), (6, 0, 226, 159, 12, 9), (0, 0, 229, 43, 0, 1), (4, 6, 231, 39, 133, 0), (0, 4, 234, 0, 0, 0), (6, 0, 235, 159, 12, 9), (0, 0, 238, 45, 0, 1), (4, 6, 240, 30, 133, 0), (0, 4, 243, 0, 0, 0), (6, 0, 244, 159, 12, 9), (0, 0, 247, 42, 0, 1), (4, 6, 249, 21, 133, 0), (0, 4, 252, 0, 0, 0), (6, 0, 253, 159, 12, 9), (0, 0, 256, 47, 0, 1), (4, 6, 258, 12, 133, 0), (0, 4, 261, 0, 0, 0), (6, 0, 262, 159, 12, 9), (0, 0, 265, 37, 0, 1), (4, 7, 267, 7, 135, 0), (0, 0, 270, 1, 0, 0), (4, 12, 271, 4, 136, 0), (0, 0, 274, 0, 0, 0), (0, 5, 275, 0, 1, 1), (0, 4, 276, 0, 0, 0), (0, 2, 277, 0, 1, 1), (4, 0, 278, 7, 142, 0), (0, 0, 281, 4, 0, 0), (4, 12, 282, 5, 143, 0), (0, 0, 285, 6, 0, 1), (7, 0, 287, 148, 12, 8), (9, 4, 290, 0, 0, 0)]
def kX12_packed : List OP := [(0, 0, 0, 0, 0, 0), (0, 5, 1, 0, 3, 3), (0, 2, 2, 0, 1, 1), (0, 5, 3, 0, 4, 4), (0, 2, 5, 0, 4, 4), (0, 2, 7, 0, 1, 1), (0, 0, 8, 6, 0, 1), (1, 0, 10, 0, 0, 0), (4, 9, 11, 34, 27, 0), (0, 2, 14, 0, 3, 3), (0, 0, 15, 5, 0, 0), (1, 6, 16, 0, 0, 0), (0, 2, 17, 0, 4, 4), (0, 2, 19, 0, 2, 2), (4, 9, 20, 16, 22, 0), (0, 4, 23, 0, 0, 0), (6, 2, 24, 7, 12, 0), (0, 2, 27, 0, 4, 4), (5, 0, 29, 0, 0, 0), (0, 0, 30, 96, 0, 1), (1, 1, 32, 0, 0, 0), (4, 12, 33, 4, 23, 0), (0, 0, 36, 0, 0, 0), (1, 4, 37, 0, 0, 0), (0, 5, 38, 0, 3, 3), (0, 8, 39, 1, 4, 0), (4, 12, 42, -37, 4, 0), (0, 2, 45, 0, 3, 3), (9, 0, 46, 0, 0, 0)]
def kX12_isKey : List OP := [(0, 4, 0, 0, 0, 0), (6, 0, 1, 148, 12, 8), (0, 0, 4, 1, 0, 0), (4, 7, 5, 15, 10, 0), (0, 4, 8, 0, 0, 0), (6, 0, 9, 159, 12, 9), (0, 2, 12, 0, 1, 1), (4, 7, 13, 7, 10, 0), (0, 0, 16, 1, 0, 0), (4, 12, 17, 4, 11, 0), (0, 0, 20, 0, 0, 0), (9, 1, 21, 0, 0, 0)]
def kX12_isSign : List OP := [(0, 4, 0, 0, 0, 0), (6, 0, 1, 148, 12, 8), (0, 0, 4, 4, 0, 0), (4, 7, 5, 15, 10, 0), (0, 4, 8, 0, 0, 0), (6, 0, 9, 159, 12, 9), (0, 2, 12, 0, 1, 1), (4, 7, 13, 7, 10, 0), (0, 0, 16, 1, 0, 0), (4, 12, 17, 4, 11, 0), (0, 0, 20, 0, 0, 0), (9, 1, 21, 0, 0, 0)]
def kX12_number : List OP := [(0, 4, 0, 0, 0, 0), (6, 0, 1, 148, 12, 8), (0, 0, 4, 3, 0, 0), (4, 6, 5, 9, 8, 0), (0, 4, 8, 0, 0, 0), (0, 0, 9, 1, 0, 0), (8, 0, 10, 172, 167, 2), (9, 1, 13, 0, 0, 0), (0, 4, 14, 0, 0, 0), (6, 0, 15, 159, 12, 9), (0, 2, 18, 0, 1, 1), (0, 2, 19, 0, 2, 2), (8, 1, 20, 175, 165, 3), (4, 1, 23, 9, 18, 0), (0, 4, 26, 0, 0, 0), (0, 0, 27, 2, 0, 0), (8, 0, 28, 172, 167, 2), (9, 1, 31, 0, 0, 0), (0, 4, 32, 0, 0, 0), (0, 4, 33, 0, 0, 0), (6, 0, 34, 159, 12, 9), (7, 0, 37, 179, 12, 11), (0, 4, 40, 0, 0, 0), (8, 0, 41, 182, 171, 1), (0, 0, 44, 1, 0, 0), (9, 1, 45, 0, 0, 0)]
def kX12_signed : List OP := [(0, 4, 0, 0, 0, 0), (0, 0, 1, 45, 0, 1), (8, 0, 3, 185, 175, 2), (0, 5, 6, 0, 2, 2), (0, 2, 7, 0, 2, 2), (4, 0, 8, 7, 8, 0), (0, 4, 11, 0, 0, 0), (8, 0, 12, 182, 171, 1), (0, 4, 15, 0, 0, 0), (0, 0, 16, 0, 0, 0), (0, 2, 17, 0, 1, 1), (8, 0, 18, 188, 176, 3), (4, 1, 21, 5, 15, 0), (0, 0, 24, 0, 0, 0), (9, 1, 25, 0, 0, 0), (0, 4, 26, 0, 0, 0), (0, 2, 27, 0, 2, 2), (4, 0, 28, 11, 22, 0), (0, 4, 31, 0, 0, 0), (6, 0, 32, 179, 12, 11), (1, 11, 35, 0, 0, 0), (4, 12, 36, 7, 24, 0), (0, 4, 39, 0, 0, 0), (6, 0, 40, 179, 12, 11), (7, 0, 43, 179, 12, 11), (0, 0, 46, 1, 0, 0), (9, 1, 47, 0, 0, 0)]
def kX12_plain : List OP := [(0, 4, 0, 0, 0, 0), (0, 0, 1, 0, 0, 0), (7, 0, 2, 192, 12, 15), (0, 4, 5, 0, 0, 0), (0, 0, 6, 0, 0, 0), (7, 0, 7, 195, 12, 16), (0, 4, 10, 0, 0, 0), (0, 0, 11, 0, 0, 0), (7, 0, 12, 198, 12, 17), (0, 4, 15, 0, 0, 0), (0, 0, 16, 0, 0, 0), (7, 0, 17, 201, 12, 38), (0, 0, 20, 0, 0, 0), (0, 5, 21, 0, 1, 1), (0, 2, 22, 0, 1, 1), (0, 0, 23, 2, 0, 0), (4, 9, 24, 25, 31, 0), (0, 4, 27, 0, 0, 0), (6, 2, 28, 20, 12, 18), (0, 2, 31, 0, 1, 1), (0, 0, 32, 0, 0, 0), (5, 5, 33, 0, 0, 0), (0, 4, 34, 0, 0, 0), (6, 2, 35, 24, 12, 19), (0, 0, 38, 2, 0, 0), (0, 2, 39, 0, 1, 1), (1, 0, 40, 0, 0, 0), (0, 0, 41, 0, 0, 0), (5, 4, 42, 0, 0, 0), (0, 8, 43, 1, 1, 0), (4, 12, 46, -24, 14, 0), (0, 0, 49, 3, 0, 0), (0, 5, 50, 0, 1, 1), (0, 2, 51, 0, 1, 1), (0, 0, 52, 6, 0, 1), (4, 9, 54, 16, 43, 0), (0, 4, 57, 0, 0, 0), (6, 2, 58, 48, 12, 27), (0, 2, 61, 0, 1, 1), (0, 0, 62, 0, 0, 0), (5, 5, 63, 0, 0, 0), (0, 8, 64, 1, 1, 0), (4, 12, 67, -16, 33, 0), (0, 0, 70, 6, 0, 1), (0, 5, 72, 0, 1, 1), (0, 2, 73, 0, 1, 1), (0, 0, 74, 12, 0, 1), (4, 9, 76, 16, 55, 0), (0, 4, 79, 0, 0, 0), (6, 2, 80, 42, 12, 25), (0, 2, 83, 0, 1, 1), (0, 0, 84, 0, 0, 0), (5, 4, 85, 0, 0, 0), (0, 8, 86, 1, 1, 0), (4, 12, 89, -16, 45, 0), (9, 4, 92, 0, 0, 0)]
def kX12_copies : List OP := [(0, 0, 0, 0, 0, 0), (0, 5, 1, 0, 2, 2), (0, 2, 2, 0, 2, 2), (0, 2, 3, 0, 1, 1), (4, 9, 4, 17, 15, 0), (0, 4, 7, 0, 0, 0), (0, 2, 8, 0, 2, 2), (0, 4, 9, 0, 0, 0), (0, 2, 10, 0, 1, 1), (0, 2, 11, 0, 2, 2), (1, 0, 12, 0, 0, 0), (5, 0, 13, 0, 0, 0), (5, 4, 14, 0, 0, 0), (0, 8, 15, 1, 2, 0), (4, 12, 18, -16, 2, 0), (9, 4, 21, 0, 0, 0)]
def kX12_keepText : List OP := [(0, 4, 0, 0, 0, 0), (0, 4, 1, 0, 0, 0), (6, 0, 2, 192, 12, 15), (7, 0, 5, 204, 12, 12), (0, 4, 8, 0, 0, 0), (0, 4, 9, 0, 0, 0), (6, 0, 10, 195, 12, 16), (7, 0, 13, 207, 12, 13), (0, 4, 16, 0, 0, 0), (0, 4, 17, 0, 0, 0), (6, 0, 18, 198, 12, 17), (7, 0, 21, 210, 12, 14), (0, 4, 24, 0, 0, 0), (6, 2, 25, 24, 12, 19), (0, 0, 28, 2, 0, 0), (8, 1, 29, 213, 179, 2), (0, 4, 32, 0, 0, 0), (6, 2, 33, 27, 12, 20), (0, 0, 36, 6, 0, 1), (8, 1, 38, 213, 179, 2), (0, 4, 41, 0, 0, 0), (6, 2, 42, 30, 12, 21), (0, 0, 45, 6, 0, 1), (8, 1, 47, 213, 179, 2), (0, 4, 50, 0, 0, 0), (6, 2, 51, 33, 12, 22), (0, 0, 54, 6, 0, 1), (8, 1, 56, 213, 179, 2), (0, 4, 59, 0, 0, 0), (6, 2, 60, 36, 12, 23), (0, 0, 63, 6, 0, 1), (8, 1, 65, 213, 179, 2), (0, 4, 68, 0, 0, 0), (6, 2, 69, 39, 12, 24), (0, 0, 72, 6, 0, 1), (8, 1, 74, 213, 179, 2), (0, 4, 77, 0, 0, 0), (6, 2, 78, 42, 12, 25), (0, 0, 81, 6, 0, 1), (8, 1, 83, 213, 179, 2), (0, 4, 86, 0, 0, 0), (6, 2, 87, 45, 12, 26), (0, 0, 90, 2, 0, 0), (8, 1, 91, 213, 179, 2), (0, 0, 94, 0, 0, 0), (0, 5, 95, 0, 1, 1), (0, 2, 96, 0, 1, 1), (0, 0, 97, 3, 0, 0), (4, 9, 98, 23, 61, 0), (0, 4, 101, 0, 0, 0), (6, 2, 102, 48, 12, 27), (0, 2, 105, 0, 1, 1), (0, 4, 106, 0, 0, 0), (6, 2, 107, 48, 12, 27), (0, 0, 110, 3, 0, 0), (0, 2, 111, 0, 1, 1), (1, 0, 112, 0, 0, 0), (5, 1, 113, 0, 0, 0), (5, 5, 114, 0, 0, 0), (0, 8, 115, 1, 1, 0), (4, 12, 118, -22, 46, 0), (0, 4, 121, 0, 0, 0), (6, 2, 122, 51, 12, 28), (0, 0, 125, 3, 0, 0), (8, 1, 126, 213, 179, 2), (0, 4, 129, 0, 0, 0), (6, 2, 130, 54, 12, 29), (0, 0, 133, 3, 0, 0), (8, 1, 134, 213, 179, 2), (0, 4, 137, 0, 0, 0), (6, 2, 138, 57, 12, 30), (0, 0, 141, 64, 0, 1), (8, 1, 143, 213, 179, 2), (0, 4, 146, 0, 0, 0), (6, 2, 147, 60, 12, 31), (0, 0, 150, 64, 0, 1), (8, 1, 152, 213, 179, 2), (0, 4, 155, 0, 0, 0), (6, 2, 156, 63, 12, 32), (0, 0, 159, 64, 0, 1), (8, 1, 161, 213, 179, 2), (0, 4, 164, 0, 0, 0), (8, 0, 165, 217, 205, 1), (9, 4, 168, 0, 0, 0)]
def kX12_find : List OP := [(0, 0, 0, 0, 0, 0), (0, 5, 1, 0, 4, 4), (0, 2, 3, 0, 4, 4), (0, 2, 5, 0, 2, 2), (4, 9, 6, 22, 16, 0), (0, 4, 9, 0, 0, 0), (0, 2, 10, 0, 1, 1), (0, 2, 11, 0, 4, 4), (1, 0, 13, 0, 0, 0), (5, 0, 14, 0, 0, 0), (0, 2, 15, 0, 3, 3), (4, 7, 16, 6, 14, 0), (0, 2, 19, 0, 4, 4), (9, 0, 21, 0, 0, 0), (0, 8, 22, 1, 4, 0), (4, 12, 25, -22, 2, 0), (0, 0, 28, -1, 0, 0), (9, 0, 29, 0, 0, 0)]
def kX12_growerThere : List OP := [(0, 4, 0, 0, 0, 0), (6, 0, 1, 148, 12, 8), (0, 0, 4, 2, 0, 0), (4, 6, 5, 9, 8, 0), (0, 4, 8, 0, 0, 0), (0, 0, 9, 1, 0, 0), (8, 0, 10, 172, 167, 2), (9, 1, 13, 0, 0, 0), (0, 4, 14, 0, 0, 0), (6, 2, 15, 27, 12, 20), (0, 0, 18, 6, 0, 1), (0, 4, 20, 0, 0, 0), (6, 0, 21, 192, 12, 15), (0, 4, 24, 0, 0, 0), (6, 0, 25, 159, 12, 9), (8, 1, 28, 220, 181, 4), (0, 5, 31, 0, 1, 1), (0, 2, 32, 0, 1, 1), (4, 3, 33, 9, 23, 0), (0, 4, 36, 0, 0, 0), (0, 0, 37, 4, 0, 0), (8, 0, 38, 172, 167, 2), (9, 1, 41, 0, 0, 0), (0, 4, 42, 0, 0, 0), (8, 0, 43, 182, 171, 1), (0, 4, 46, 0, 0, 0), (0, 2, 47, 0, 1, 1), (7, 0, 48, 179, 12, 11), (0, 0, 51, 1, 0, 0), (9, 1, 52, 0, 0, 0)]
def kX12_growerLine : List OP := [(0, 4, 0, 0, 0, 0), (6, 0, 1, 192, 12, 15), (0, 0, 4, 6, 0, 1), (4, 7, 6, 9, 8, 0), (0, 4, 9, 0, 0, 0), (0, 0, 10, 2, 0, 0), (8, 0, 11, 172, 167, 2), (9, 1, 14, 0, 0, 0), (0, 4, 15, 0, 0, 0), (8, 0, 16, 182, 171, 1), (0, 4, 19, 0, 0, 0), (6, 0, 20, 148, 12, 8), (0, 0, 23, 2, 0, 0), (4, 6, 24, 9, 18, 0), (0, 4, 27, 0, 0, 0), (0, 0, 28, 1, 0, 0), (8, 0, 29, 172, 167, 2), (9, 1, 32, 0, 0, 0), (0, 4, 33, 0, 0, 0), (6, 2, 34, 27, 12, 20), (0, 0, 37, 6, 0, 1), (0, 4, 39, 0, 0, 0), (6, 0, 40, 192, 12, 15), (0, 4, 43, 0, 0, 0), (6, 0, 44, 159, 12, 9), (8, 1, 47, 220, 181, 4), (4, 2, 50, 9, 31, 0), (0, 4, 53, 0, 0, 0), (0, 0, 54, 3, 0, 0), (8, 0, 55, 172, 167, 2), (9, 1, 58, 0, 0, 0), (0, 0, 59, 6, 0, 1), (0, 4, 61, 0, 0, 0), (6, 0, 62, 192, 12, 15), (1, 0, 65, 0, 0, 0), (0, 5, 66, 0, 1, 1), (0, 4, 67, 0, 0, 0), (6, 2, 68, 27, 12, 20), (0, 2, 71, 0, 1, 1), (0, 4, 72, 0, 0, 0), (6, 0, 73, 159, 12, 9), (5, 4, 76, 0, 0, 0), (0, 4, 77, 0, 0, 0), (6, 2, 78, 42, 12, 25), (0, 2, 81, 0, 1, 1), (0, 0, 82, 0, 0, 0), (5, 4, 83, 0, 0, 0), (0, 4, 84, 0, 0, 0), (8, 0, 85, 182, 171, 1), (0, 4, 88, 0, 0, 0), (0, 0, 89, 0, 0, 0), (0, 0, 90, 99, 0, 1), (8, 0, 92, 188, 176, 3), (4, 1, 95, 5, 56, 0), (0, 0, 98, 0, 0, 0), (9, 1, 99, 0, 0, 0), (0, 4, 100, 0, 0, 0), (6, 2, 101, 30, 12, 21), (0, 2, 104, 0, 1, 1), (0, 4, 105, 0, 0, 0), (6, 0, 106, 179, 12, 11), (5, 4, 109, 0, 0, 0), (0, 4, 110, 0, 0, 0), (0, 0, 111, 9, 0, 1), (8, 0, 113, 224, 177, 2), (4, 1, 116, 5, 68, 0), (0, 0, 119, 0, 0, 0), (9, 1, 120, 0, 0, 0), (0, 4, 121, 0, 0, 0), (6, 2, 122, 33, 12, 22), (0, 2, 125, 0, 1, 1), (0, 4, 126, 0, 0, 0), (6, 0, 127, 179, 12, 11), (5, 4, 130, 0, 0, 0), (0, 4, 131, 0, 0, 0), (0, 0, 132, 0, 0, 0), (0, 0, 133, 9, 0, 1), (8, 0, 135, 188, 176, 3), (4, 1, 138, 5, 81, 0), (0, 0, 141, 0, 0, 0), (9, 1, 142, 0, 0, 0), (0, 4, 143, 0, 0, 0), (6, 2, 144, 36, 12, 23), (0, 2, 147, 0, 1, 1), (0, 4, 148, 0, 0, 0), (6, 0, 149, 179, 12, 11), (5, 4, 152, 0, 0, 0), (0, 4, 153, 0, 0, 0), (0, 0, 154, 0, 0, 0), (0, 0, 155, 99, 0, 1), (8, 0, 157, 188, 176, 3), (4, 1, 160, 5, 94, 0), (0, 0, 163, 0, 0, 0), (9, 1, 164, 0, 0, 0), (0, 4, 165, 0, 0, 0), (6, 2, 166, 39, 12, 24), (0, 2, 169, 0, 1, 1), (0, 4, 170, 0, 0, 0), (6, 0, 171, 179, 12, 11), (5, 4, 174, 0, 0, 0), (0, 4, 175, 0, 0, 0), (3, 0, 176, 0, 0, 0), (6, 0, 177, 192, 12, 15), (0, 0, 180, 1, 0, 0), (1, 0, 181, 0, 0, 0), (7, 0, 182, 192, 12, 15), (0, 0, 185, 1, 0, 0), (9, 1, 186, 0, 0, 0)]
def kX12_seesLine : List OP := [(0, 4, 0, 0, 0, 0), (8, 0, 1, 182, 171, 1), (0, 4, 4, 0, 0, 0), (8, 0, 5, 227, 182, 1), (4, 1, 8, 5, 7, 0), (0, 0, 11, 0, 0, 0), (9, 1, 12, 0, 0, 0), (0, 4, 13, 0, 0, 0), (6, 0, 14, 179, 12, 11), (0, 5, 17, 0, 1, 1), (0, 4, 18, 0, 0, 0), (6, 0, 19, 139, 12, 10), (0, 5, 22, 0, 2, 2), (0, 4, 23, 0, 0, 0), (8, 0, 24, 227, 182, 1), (4, 1, 27, 5, 18, 0), (0, 0, 30, 0, 0, 0), (9, 1, 31, 0, 0, 0), (0, 2, 32, 0, 1, 1), (0, 4, 33, 0, 0, 0), (6, 0, 34, 179, 12, 11), (4, 6, 37, 22, 32, 0), (0, 4, 40, 0, 0, 0), (6, 2, 41, 42, 12, 25), (0, 0, 44, 6, 0, 1), (0, 2, 46, 0, 1, 1), (1, 0, 47, 0, 0, 0), (5, 0, 48, 0, 0, 0), (0, 4, 49, 0, 0, 0), (6, 0, 50, 179, 12, 11), (8, 1, 53, 231, 166, 2), (4, 0, 56, 26, 45, 0), (0, 4, 59, 0, 0, 0), (0, 2, 60, 0, 2, 2), (7, 0, 61, 139, 12, 10), (0, 4, 64, 0, 0, 0), (0, 2, 65, 0, 1, 1), (0, 4, 66, 0, 0, 0), (6, 0, 67, 179, 12, 11), (4, 7, 70, 7, 42, 0), (0, 0, 73, 5, 0, 0), (4, 12, 74, 4, 43, 0), (0, 0, 77, 3, 0, 0), (8, 0, 78, 172, 167, 2), (9, 1, 81, 0, 0, 0), (0, 4, 82, 0, 0, 0), (6, 2, 83, 42, 12, 25), (0, 0, 86, 6, 0, 1), (0, 2, 88, 0, 1, 1), (1, 0, 89, 0, 0, 0), (3, 1, 90, 0, 0, 0), (5, 0, 91, 0, 0, 0), (0, 0, 92, 1, 0, 0), (0, 4, 93, 0, 0, 0), (6, 0, 94, 179, 12, 11), (1, 6, 97, 0, 0, 0), (1, 4, 98, 0, 0, 0), (5, 4, 99, 0, 0, 0), (0, 0, 100, 1, 0, 0), (9, 1, 101, 0, 0, 0)]
def kX12_ribbonLine : List OP := [(0, 4, 0, 0, 0, 0), (6, 0, 1, 195, 12, 16), (0, 0, 4, 2, 0, 0), (4, 7, 5, 9, 8, 0), (0, 4, 8, 0, 0, 0), (0, 0, 9, 2, 0, 0), (8, 0, 10, 172, 167, 2), (9, 1, 13, 0, 0, 0), (0, 4, 14, 0, 0, 0), (8, 0, 15, 182, 171, 1), (0, 4, 18, 0, 0, 0), (8, 0, 19, 227, 182, 1), (4, 1, 22, 5, 15, 0), (0, 0, 25, 0, 0, 0), (9, 1, 26, 0, 0, 0), (0, 4, 27, 0, 0, 0), (6, 2, 28, 45, 12, 26), (0, 0, 31, 2, 0, 0), (0, 4, 32, 0, 0, 0), (6, 0, 33, 195, 12, 16), (1, 0, 36, 0, 0, 0), (0, 4, 37, 0, 0, 0), (6, 0, 38, 179, 12, 11), (5, 4, 41, 0, 0, 0), (0, 4, 42, 0, 0, 0), (3, 0, 43, 0, 0, 0), (6, 0, 44, 195, 12, 16), (0, 0, 47, 1, 0, 0), (1, 0, 48, 0, 0, 0), (7, 0, 49, 195, 12, 16), (0, 0, 52, 1, 0, 0), (9, 1, 53, 0, 0, 0)]
def kX12_onceLine : List OP := [(0, 4, 0, 0, 0, 0), (6, 2, 1, 20, 12, 18), (0, 2, 4, 0, 1, 1), (5, 1, 5, 0, 0, 0), (4, 0, 6, 9, 9, 0), (0, 4, 9, 0, 0, 0), (0, 0, 10, 3, 0, 0), (8, 0, 11, 172, 167, 2), (9, 1, 14, 0, 0, 0), (0, 4, 15, 0, 0, 0), (6, 2, 16, 20, 12, 18), (0, 2, 19, 0, 1, 1), (0, 0, 20, 1, 0, 0), (5, 5, 21, 0, 0, 0), (0, 4, 22, 0, 0, 0), (8, 0, 23, 182, 171, 1), (0, 4, 26, 0, 0, 0), (0, 0, 27, 0, 0, 0), (0, 2, 28, 0, 2, 2), (8, 0, 29, 188, 176, 3), (4, 1, 32, 5, 23, 0), (0, 0, 35, 0, 0, 0), (9, 1, 36, 0, 0, 0), (0, 4, 37, 0, 0, 0), (6, 2, 38, 24, 12, 19), (0, 0, 41, 2, 0, 0), (0, 2, 42, 0, 1, 1), (1, 0, 43, 0, 0, 0), (0, 4, 44, 0, 0, 0), (6, 0, 45, 179, 12, 11), (5, 4, 48, 0, 0, 0), (0, 0, 49, 1, 0, 0), (9, 1, 50, 0, 0, 0)]
def kX12_lineRead : List OP := [(0, 4, 0, 0, 0, 0), (6, 0, 1, 148, 12, 8), (0, 0, 4, 1, 0, 0), (4, 7, 5, 11, 8, 0), (0, 4, 8, 0, 0, 0), (6, 0, 9, 159, 12, 9), (0, 0, 12, 5, 0, 0), (4, 11, 13, 9, 12, 0), (0, 4, 16, 0, 0, 0), (0, 0, 17, 1, 0, 0), (8, 0, 18, 172, 167, 2), (9, 1, 21, 0, 0, 0), (0, 4, 22, 0, 0, 0), (6, 0, 23, 159, 12, 9), (4, 13, 26, 0, 39, 6), (0, 4, 60, 0, 0, 0), (8, 0, 61, 234, 183, 1), (0, 5, 64, 0, 1, 1), (4, 12, 65, 138, 95, 0), (0, 4, 68, 0, 0, 0), (8, 0, 69, 237, 184, 1), (0, 5, 72, 0, 1, 1), (4, 12, 73, 130, 95, 0), (0, 4, 76, 0, 0, 0), (8, 0, 77, 240, 185, 1), (0, 5, 80, 0, 1, 1), (4, 12, 81, 122, 95, 0), (0, 4, 84, 0, 0, 0), (0, 0, 85, 0, 0, 0), (0, 0, 86, 100, 0, 1), (8, 0, 88, 243, 186, 3), (0, 5, 91, 0, 1, 1), (4, 12, 92, 111, 95, 0), (0, 4, 95, 0, 0, 0), (0, 0, 96, 1, 0, 0), (0, 0, 97, 99999, 168, 3), (8, 0, 99, 243, 186, 3), (0, 5, 102, 0, 1, 1), (4, 12, 103, 100, 95, 0), (0, 4, 106, 0, 0, 0), (8, 0, 107, 182, 171, 1), (0, 4, 110, 0, 0, 0), (6, 0, 111, 148, 12, 8), (0, 0, 114, 1, 0, 0), (4, 7, 115, 21, 53, 0), (0, 4, 118, 0, 0, 0), (6, 0, 119, 159, 12, 9), (0, 0, 122, 6, 0, 1), (4, 8, 124, 12, 53, 0), (0, 4, 127, 0, 0, 0), (6, 0, 128, 159, 12, 9), (0, 0, 131, 8, 0, 1), (4, 11, 133, 9, 57, 0), (0, 4, 136, 0, 0, 0), (0, 0, 137, 1, 0, 0), (8, 0, 138, 172, 167, 2), (9, 1, 141, 0, 0, 0), (0, 0, 142, 3, 0, 0), (0, 4, 143, 0, 0, 0), (6, 0, 144, 159, 12, 9), (1, 0, 147, 0, 0, 0), (0, 0, 148, 6, 0, 1), (1, 1, 150, 0, 0, 0), (0, 5, 151, 0, 2, 2), (0, 4, 152, 0, 0, 0), (6, 2, 153, 48, 12, 27), (0, 2, 156, 0, 2, 2), (5, 1, 157, 0, 0, 0), (4, 0, 158, 9, 73, 0), (0, 4, 161, 0, 0, 0), (0, 0, 162, 3, 0, 0), (8, 0, 163, 172, 167, 2), (9, 1, 166, 0, 0, 0), (0, 4, 167, 0, 0, 0), (6, 2, 168, 48, 12, 27), (0, 2, 171, 0, 2, 2), (0, 0, 172, 1, 0, 0), (5, 5, 173, 0, 0, 0), (0, 4, 174, 0, 0, 0), (8, 0, 175, 182, 171, 1), (0, 4, 178, 0, 0, 0), (6, 2, 179, 51, 12, 28), (0, 2, 182, 0, 2, 2), (0, 4, 183, 0, 0, 0), (6, 0, 184, 198, 12, 17), (5, 4, 187, 0, 0, 0), (0, 4, 188, 0, 0, 0), (8, 0, 189, 246, 200, 1), (0, 5, 192, 0, 1, 1), (0, 4, 193, 0, 0, 0), (6, 2, 194, 54, 12, 29), (0, 2, 197, 0, 2, 2), (0, 4, 198, 0, 0, 0), (6, 0, 199, 198, 12, 17), (5, 4, 202, 0, 0, 0), (0, 2, 203, 0, 1, 1), (4, 1, 204, 5, 99, 0), (0, 0, 207, 0, 0, 0), (9, 1, 208, 0, 0, 0), (0, 4, 209, 0, 0, 0), (0, 0, 210, 59, 0, 1), (8, 0, 212, 185, 175, 2), (4, 1, 215, 9, 107, 0), (0, 4, 218, 0, 0, 0), (0, 0, 219, 1, 0, 0), (8, 0, 220, 172, 167, 2), (9, 1, 223, 0, 0, 0), (0, 4, 224, 0, 0, 0), (8, 0, 225, 182, 171, 1), (0, 0, 228, 1, 0, 0), (9, 1, 229, 0, 0, 0)]
def kX12_text : List OP := [(0, 4, 0, 0, 0, 0), (0, 0, 1, 0, 0, 0), (7, 0, 2, 130, 12, 2), (0, 2, 5, 0, 1, 1), (4, 2, 6, 11, 9, 0), (0, 2, 9, 0, 1, 1), (0, 4, 10, 0, 0, 0), (6, 0, 11, 133, 12, 1), (4, 11, 14, 6, 11, 0), (0, 0, 17, -2, 0, 1), (9, 0, 19, 0, 0, 0), (0, 4, 20, 0, 0, 0), (0, 2, 21, 0, 1, 1), (7, 0, 22, 142, 12, 6), (0, 4, 25, 0, 0, 0), (0, 0, 26, 0, 0, 0), (7, 0, 27, 133, 12, 1), (0, 4, 30, 0, 0, 0), (0, 0, 31, 0, 0, 0), (7, 0, 32, 136, 12, 4), (0, 4, 35, 0, 0, 0), (0, 0, 36, -1, 0, 0), (7, 0, 37, 16, 12, 5), (0, 4, 40, 0, 0, 0), (0, 0, 41, 0, 0, 0), (7, 0, 42, 145, 12, 7), (0, 4, 45, 0, 0, 0), (8, 0, 46, 124, 178, 1), (0, 4, 49, 0, 0, 0), (8, 0, 50, 182, 171, 1), (0, 0, 53, 0, 0, 0), (0, 5, 54, 0, 2, 2), (0, 4, 55, 0, 0, 0), (6, 0, 56, 148, 12, 8), (4, 0, 59, 18, 42, 0), (0, 4, 62, 0, 0, 0), (8, 0, 63, 249, 187, 1), (4, 1, 66, 5, 40, 0), (0, 0, 69, -1, 0, 0), (9, 0, 70, 0, 0, 0), (0, 8, 71, 1, 2, 0), (4, 12, 74, -19, 32, 0), (0, 4, 77, 0, 0, 0), (8, 0, 78, 127, 180, 1), (0, 2, 81, 0, 2, 2), (9, 0, 82, 0, 0, 0)]
def kX12_fault : List OP := [(0, 4, 0, 0, 0, 0), (0, 0, 1, 0, 0, 0), (7, 0, 2, 130, 12, 2), (0, 2, 5, 0, 1, 1), (4, 1, 6, 10, 8, 0), (0, 4, 9, 0, 0, 0), (6, 0, 10, 136, 12, 4), (4, 12, 13, 16, 15, 0), (0, 2, 16, 0, 1, 1), (0, 0, 17, 1, 0, 0), (4, 7, 18, 10, 14, 0), (0, 4, 21, 0, 0, 0), (6, 0, 22, 16, 12, 5), (4, 12, 25, 4, 15, 0), (0, 0, 28, -1, 0, 0), (9, 0, 29, 0, 0, 0)]
def kX12_named : List OP := [(0, 4, 0, 0, 0, 0), (0, 0, 1, 0, 0, 0), (7, 0, 2, 130, 12, 2), (0, 4, 5, 0, 0, 0), (6, 2, 6, 27, 12, 20), (0, 0, 9, 0, 0, 0), (0, 4, 10, 0, 0, 0), (6, 0, 11, 204, 12, 12), (0, 2, 14, 0, 1, 1), (8, 1, 15, 220, 181, 4), (9, 0, 18, 0, 0, 0)]
def kX12_rankOf : List OP := [(0, 2, 0, 0, 0, 0), (0, 0, 1, 13, 0, 1), (4, 8, 3, 8, 5, 0), (0, 0, 6, 6, 0, 1), (4, 12, 8, 50, 31, 0), (0, 2, 11, 0, 0, 0), (0, 0, 12, 11, 0, 1), (4, 8, 14, 7, 10, 0), (0, 0, 17, 5, 0, 0), (4, 12, 18, 40, 31, 0), (0, 2, 21, 0, 0, 0), (0, 0, 22, 5, 0, 0), (4, 8, 23, 7, 15, 0), (0, 0, 26, 4, 0, 0), (4, 12, 27, 31, 31, 0), (0, 2, 30, 0, 0, 0), (0, 0, 31, 2, 0, 0), (4, 7, 32, 7, 20, 0), (0, 0, 35, 3, 0, 0), (4, 12, 36, 22, 31, 0), (0, 2, 39, 0, 0, 0), (0, 0, 40, 3, 0, 0), (4, 7, 41, 7, 25, 0), (0, 0, 44, 2, 0, 0), (4, 12, 45, 13, 31, 0), (0, 2, 48, 0, 0, 0), (0, 0, 49, 4, 0, 0), (4, 7, 50, 7, 30, 0), (0, 0, 53, 1, 0, 0), (4, 12, 54, 4, 31, 0), (0, 0, 57, 0, 0, 0), (9, 0, 58, 0, 0, 0)]
def kX12_grown : List OP := [(0, 4, 0, 0, 0, 0), (6, 2, 1, 57, 12, 30), (0, 0, 4, 64, 0, 1), (0, 4, 6, 0, 0, 0), (6, 0, 7, 198, 12, 17), (1, 0, 10, 0, 0, 0), (0, 2, 11, 0, 1, 1), (5, 4, 12, 0, 0, 0), (0, 4, 13, 0, 0, 0), (6, 2, 14, 60, 12, 31), (0, 0, 17, 64, 0, 1), (0, 4, 19, 0, 0, 0), (6, 0, 20, 198, 12, 17), (1, 0, 23, 0, 0, 0), (0, 2, 24, 0, 2, 2), (5, 4, 25, 0, 0, 0), (0, 4, 26, 0, 0, 0), (6, 2, 27, 63, 12, 32), (0, 0, 30, 64, 0, 1), (0, 4, 32, 0, 0, 0), (6, 0, 33, 198, 12, 17), (1, 0, 36, 0, 0, 0), (0, 2, 37, 0, 3, 3), (5, 4, 38, 0, 0, 0), (0, 4, 39, 0, 0, 0), (6, 2, 40, 69, 12, 34), (0, 4, 43, 0, 0, 0), (6, 0, 44, 252, 12, 36), (0, 4, 47, 0, 0, 0), (6, 0, 48, 198, 12, 17), (5, 4, 51, 0, 0, 0), (0, 4, 52, 0, 0, 0), (3, 0, 53, 0, 0, 0), (6, 0, 54, 252, 12, 36), (0, 0, 57, 1, 0, 0), (1, 0, 58, 0, 0, 0), (7, 0, 59, 252, 12, 36), (0, 4, 62, 0, 0, 0), (3, 0, 63, 0, 0, 0), (6, 0, 64, 198, 12, 17), (0, 0, 67, 1, 0, 0), (1, 0, 68, 0, 0, 0), (7, 0, 69, 198, 12, 17), (9, 4, 72, 0, 0, 0)]
def kX12_dropHeld : List OP := [(0, 4, 0, 0, 0, 0), (3, 0, 1, 0, 0, 0), (6, 0, 2, 252, 12, 36), (0, 0, 5, 1, 0, 0), (1, 1, 6, 0, 0, 0), (7, 0, 7, 252, 12, 36), (0, 4, 10, 0, 0, 0), (6, 2, 11, 69, 12, 34), (0, 4, 14, 0, 0, 0), (6, 0, 15, 252, 12, 36), (5, 0, 18, 0, 0, 0), (9, 0, 19, 0, 0, 0)]
def kX12_bind : List OP := [(0, 4, 0, 0, 0, 0), (6, 0, 1, 255, 12, 35), (4, 5, 4, 72, 42, 0), (0, 4, 7, 0, 0, 0), (6, 2, 8, 66, 12, 33), (0, 4, 11, 0, 0, 0), (6, 0, 12, 255, 12, 35), (0, 0, 15, 1, 0, 0), (1, 1, 16, 0, 0, 0), (5, 0, 17, 0, 0, 0), (8, 1, 18, 258, 191, 1), (0, 2, 21, 0, 1, 1), (4, 8, 22, 54, 42, 0), (0, 4, 25, 0, 0, 0), (3, 0, 26, 0, 0, 0), (6, 0, 27, 255, 12, 35), (0, 0, 30, 1, 0, 0), (1, 1, 31, 0, 0, 0), (7, 0, 32, 255, 12, 35), (0, 4, 35, 0, 0, 0), (6, 2, 36, 66, 12, 33), (0, 4, 39, 0, 0, 0), (6, 0, 40, 255, 12, 35), (5, 0, 43, 0, 0, 0), (0, 5, 44, 0, 2, 2), (0, 2, 45, 0, 2, 2), (0, 0, 46, 2, 0, 0), (4, 7, 47, 7, 30, 0), (0, 0, 50, -1, 0, 0), (4, 12, 51, 7, 32, 0), (0, 4, 54, 0, 0, 0), (8, 0, 55, 262, 193, 1), (0, 5, 58, 0, 3, 3), (0, 4, 59, 0, 0, 0), (8, 0, 60, 262, 193, 1), (0, 5, 63, 0, 4, 4), (0, 4, 65, 0, 0, 0), (0, 2, 66, 0, 2, 2), (0, 2, 67, 0, 4, 4), (0, 2, 69, 0, 3, 3), (8, 0, 70, 266, 192, 4), (4, 12, 73, -73, 0, 0), (9, 4, 76, 0, 0, 0)]
def kX12_isCounted : List OP := [(0, 4, 0, 0, 0, 0), (6, 0, 1, 201, 12, 38), (0, 0, 4, 64, 0, 1), (4, 7, 6, 9, 8, 0), (0, 4, 9, 0, 0, 0), (0, 0, 10, 2, 0, 0), (8, 0, 11, 172, 167, 2), (9, 1, 14, 0, 0, 0), (0, 4, 15, 0, 0, 0), (3, 0, 16, 0, 0, 0), (6, 0, 17, 201, 12, 38), (0, 0, 20, 1, 0, 0), (1, 0, 21, 0, 0, 0), (7, 0, 22, 201, 12, 38), (0, 0, 25, 1, 0, 0), (9, 1, 26, 0, 0, 0)]
def kX12_waitsFor : List OP := [(0, 4, 0, 0, 0, 0), (6, 2, 1, 66, 12, 33), (0, 4, 4, 0, 0, 0), (6, 0, 5, 255, 12, 35), (0, 2, 8, 0, 1, 1), (5, 4, 9, 0, 0, 0), (0, 4, 10, 0, 0, 0), (3, 0, 11, 0, 0, 0), (6, 0, 12, 255, 12, 35), (0, 0, 15, 1, 0, 0), (1, 0, 16, 0, 0, 0), (7, 0, 17, 255, 12, 35), (9, 4, 20, 0, 0, 0)]
def kX12_nameMet : List OP := [(0, 4, 0, 0, 0, 0), (6, 0, 1, 148, 12, 8), (0, 0, 4, 1, 0, 0), (4, 7, 5, 22, 13, 0), (0, 4, 8, 0, 0, 0), (6, 0, 9, 159, 12, 9), (0, 0, 12, 12, 0, 1), (4, 8, 14, 13, 13, 0), (0, 4, 17, 0, 0, 0), (6, 0, 18, 159, 12, 9), (0, 0, 21, 12, 0, 1), (1, 1, 23, 0, 0, 0), (4, 12, 24, 4, 14, 0), (0, 0, 27, -1, 0, 0), (9, 0, 28, 0, 0, 0)]
def kX12_leafRead : List OP := [(0, 4, 0, 0, 0, 0), (0, 0, 1, 40, 0, 1), (8, 0, 3, 185, 175, 2), (4, 0, 6, 44, 28, 0), (0, 4, 9, 0, 0, 0), (6, 0, 10, 270, 12, 37), (0, 0, 13, 8, 0, 1), (4, 7, 15, 9, 12, 0), (0, 4, 18, 0, 0, 0), (0, 0, 19, 2, 0, 0), (8, 0, 20, 172, 167, 2), (9, 1, 23, 0, 0, 0), (0, 4, 24, 0, 0, 0), (3, 0, 25, 0, 0, 0), (6, 0, 26, 270, 12, 37), (0, 0, 29, 1, 0, 0), (1, 0, 30, 0, 0, 0), (7, 0, 31, 270, 12, 37), (0, 4, 34, 0, 0, 0), (0, 0, 35, 0, 0, 0), (8, 0, 36, 273, 196, 2), (0, 4, 39, 0, 0, 0), (0, 0, 40, 1, 0, 0), (7, 1, 41, 277, 12, 40), (0, 4, 44, 0, 0, 0), (8, 0, 45, 182, 171, 1), (0, 0, 48, 1, 0, 0), (9, 1, 49, 0, 0, 0), (0, 4, 50, 0, 0, 0), (0, 0, 51, 11, 0, 1), (8, 0, 53, 281, 174, 2), (4, 0, 56, 30, 47, 0), (0, 4, 59, 0, 0, 0), (6, 1, 60, 277, 12, 40), (4, 0, 63, 23, 47, 0), (0, 4, 66, 0, 0, 0), (8, 0, 67, 284, 195, 1), (4, 1, 70, 5, 40, 0), (0, 0, 73, 0, 0, 0), (9, 1, 74, 0, 0, 0), (0, 4, 75, 0, 0, 0), (0, 0, 76, 2, 0, 0), (8, 0, 77, 273, 196, 2), (0, 4, 80, 0, 0, 0), (8, 0, 81, 182, 171, 1), (0, 0, 84, 1, 0, 0), (9, 1, 85, 0, 0, 0), (0, 4, 86, 0, 0, 0), (8, 0, 87, 287, 197, 1), (0, 5, 90, 0, 1, 1), (0, 2, 91, 0, 1, 1), (4, 3, 92, 17, 60, 0), (0, 4, 95, 0, 0, 0), (6, 0, 96, 148, 12, 8), (0, 0, 99, 3, 0, 0), (4, 6, 100, 9, 60, 0), (0, 4, 103, 0, 0, 0), (0, 0, 104, 1, 0, 0), (8, 0, 105, 172, 167, 2), (9, 1, 108, 0, 0, 0), (0, 2, 109, 0, 1, 1), (4, 3, 110, 19, 70, 0), (0, 4, 113, 0, 0, 0), (6, 0, 114, 159, 12, 9), (0, 0, 117, 9999, 0, 2), (4, 11, 120, 9, 70, 0), (0, 4, 123, 0, 0, 0), (0, 0, 124, 2, 0, 0), (8, 0, 125, 172, 167, 2), (9, 1, 128, 0, 0, 0), (0, 4, 129, 0, 0, 0), (8, 0, 130, 284, 195, 1), (4, 1, 133, 5, 75, 0), (0, 0, 136, 0, 0, 0), (9, 1, 137, 0, 0, 0), (0, 4, 138, 0, 0, 0), (0, 2, 139, 0, 1, 1), (4, 2, 140, 7, 80, 0), (0, 0, 143, 1, 0, 0), (4, 12, 144, 4, 81, 0), (0, 0, 147, 0, 0, 0), (0, 2, 148, 0, 1, 1), (4, 2, 149, 7, 85, 0), (0, 2, 152, 0, 1, 1), (4, 12, 153, 7, 87, 0), (0, 4, 156, 0, 0, 0), (6, 0, 157, 159, 12, 9), (0, 0, 160, 0, 0, 0), (8, 0, 161, 266, 192, 4), (0, 4, 164, 0, 0, 0), (0, 0, 165, 0, 0, 0), (7, 1, 166, 290, 12, 39), (0, 4, 169, 0, 0, 0), (8, 0, 170, 182, 171, 1), (0, 0, 173, 1, 0, 0), (9, 1, 174, 0, 0, 0)]
def kX12_signs : List OP := [(0, 4, 0, 0, 0, 0), (0, 0, 1, 41, 0, 1), (8, 0, 3, 185, 175, 2), (4, 0, 6, 41, 26, 0), (0, 4, 9, 0, 0, 0), (6, 0, 10, 270, 12, 37), (4, 5, 13, 34, 26, 0), (0, 4, 16, 0, 0, 0), (0, 0, 17, 1, 0, 0), (8, 0, 18, 293, 194, 2), (0, 4, 21, 0, 0, 0), (3, 0, 22, 0, 0, 0), (6, 0, 23, 255, 12, 35), (0, 0, 26, 1, 0, 0), (1, 1, 27, 0, 0, 0), (7, 0, 28, 255, 12, 35), (0, 4, 31, 0, 0, 0), (3, 0, 32, 0, 0, 0), (6, 0, 33, 270, 12, 37), (0, 0, 36, 1, 0, 0), (1, 1, 37, 0, 0, 0), (7, 0, 38, 270, 12, 37), (0, 4, 41, 0, 0, 0), (8, 0, 42, 182, 171, 1), (0, 0, 45, 1, 0, 0), (9, 1, 46, 0, 0, 0), (0, 4, 47, 0, 0, 0), (0, 0, 48, 9, 0, 1), (8, 0, 50, 281, 174, 2), (4, 0, 53, 7, 32, 0), (0, 0, 56, 3, 0, 0), (4, 12, 57, 90, 72, 0), (0, 4, 60, 0, 0, 0), (0, 0, 61, 10, 0, 1), (8, 0, 63, 281, 174, 2), (4, 0, 66, 7, 38, 0), (0, 0, 69, 4, 0, 0), (4, 12, 70, 77, 72, 0), (0, 4, 73, 0, 0, 0), (6, 0, 74, 148, 12, 8), (0, 0, 77, 5, 0, 0), (4, 7, 78, 12, 47, 0), (0, 0, 81, 5, 0, 0), (0, 4, 82, 0, 0, 0), (6, 0, 83, 159, 12, 9), (1, 0, 86, 0, 0, 0), (4, 12, 87, 60, 72, 0), (0, 4, 90, 0, 0, 0), (0, 0, 91, 43, 0, 1), (8, 0, 93, 185, 175, 2), (4, 0, 96, 8, 53, 0), (0, 0, 99, 11, 0, 1), (4, 12, 101, 46, 72, 0), (0, 4, 104, 0, 0, 0), (0, 0, 105, 45, 0, 1), (8, 0, 107, 185, 175, 2), (4, 0, 110, 8, 59, 0), (0, 0, 113, 12, 0, 1), (4, 12, 115, 32, 72, 0), (0, 4, 118, 0, 0, 0), (0, 0, 119, 42, 0, 1), (8, 0, 121, 185, 175, 2), (4, 0, 124, 8, 65, 0), (0, 0, 127, 13, 0, 1), (4, 12, 129, 18, 72, 0), (0, 4, 132, 0, 0, 0), (0, 0, 133, 47, 0, 1), (8, 0, 135, 185, 175, 2), (4, 0, 138, 8, 71, 0), (0, 0, 141, 14, 0, 1), (4, 12, 143, 4, 72, 0), (0, 0, 146, 0, 0, 0), (0, 5, 147, 0, 1, 1), (0, 2, 148, 0, 1, 1), (4, 1, 149, 9, 79, 0), (0, 4, 152, 0, 0, 0), (0, 0, 153, 1, 0, 0), (8, 0, 154, 172, 167, 2), (9, 1, 157, 0, 0, 0), (0, 4, 158, 0, 0, 0), (0, 2, 159, 0, 1, 1), (8, 1, 160, 258, 191, 1), (0, 0, 163, 4, 0, 0), (4, 7, 164, 7, 86, 0), (0, 0, 167, 5, 0, 0), (4, 12, 168, 7, 88, 0), (0, 2, 171, 0, 1, 1), (8, 1, 172, 258, 191, 1), (8, 0, 175, 293, 194, 2), (0, 2, 178, 0, 1, 1), (8, 1, 179, 258, 191, 1), (0, 0, 182, 4, 0, 0), (4, 7, 183, 34, 110, 0), (0, 4, 186, 0, 0, 0), (6, 0, 187, 255, 12, 35), (4, 5, 190, 27, 110, 0), (0, 4, 193, 0, 0, 0), (6, 2, 194, 66, 12, 33), (0, 4, 197, 0, 0, 0), (6, 0, 198, 255, 12, 35), (0, 0, 201, 1, 0, 0), (1, 1, 202, 0, 0, 0), (5, 0, 203, 0, 0, 0), (8, 1, 204, 258, 191, 1), (0, 0, 207, 4, 0, 0), (4, 7, 208, 9, 110, 0), (0, 4, 211, 0, 0, 0), (0, 0, 212, 1, 0, 0), (8, 0, 213, 172, 167, 2), (9, 1, 216, 0, 0, 0), (0, 4, 217, 0, 0, 0), (8, 0, 218, 284, 195, 1), (4, 1, 221, 5, 115, 0), (0, 0, 224, 0, 0, 0), (9, 1, 225, 0, 0, 0), (0, 4, 226, 0, 0, 0), (0, 2, 227, 0, 1, 1), (8, 0, 228, 273, 196, 2), (0, 4, 231, 0, 0, 0), (0, 0, 232, 1, 0, 0), (7, 1, 233, 290, 12, 39), (0, 4, 236, 0, 0, 0), (0, 2, 237, 0, 1, 1), (8, 1, 238, 258, 191, 1), (0, 0, 241, 3, 0, 0), (4, 9, 242, 7, 128, 0), (0, 0, 245, 1, 0, 0), (4, 12, 246, 4, 129, 0), (0, 0, 249, 0, 0, 0), (7, 1, 250, 277, 12, 40), (0, 4, 253, 0, 0, 0), (8, 0, 254, 182, 171, 1), (0, 0, 257, 1, 0, 0), (9, 1, 258, 0, 0, 0)]
def kX12_sumRead : List OP := [(0, 4, 0, 0, 0, 0), (0, 0, 1, 0, 0, 0), (7, 0, 2, 255, 12, 35), (0, 4, 5, 0, 0, 0), (0, 0, 6, 0, 0, 0), (7, 0, 7, 252, 12, 36), (0, 4, 10, 0, 0, 0), (0, 0, 11, 0, 0, 0), (7, 0, 12, 270, 12, 37), (0, 4, 15, 0, 0, 0), (0, 0, 16, 1, 0, 0), (7, 1, 17, 290, 12, 39), (0, 4, 20, 0, 0, 0), (0, 0, 21, 1, 0, 0), (7, 1, 22, 277, 12, 40), (0, 4, 25, 0, 0, 0), (0, 0, 26, 59, 0, 1), (8, 0, 28, 185, 175, 2), (4, 0, 31, 17, 25, 0), (0, 4, 34, 0, 0, 0), (6, 1, 35, 290, 12, 39), (4, 1, 38, 10, 25, 0), (0, 4, 41, 0, 0, 0), (6, 0, 42, 270, 12, 37), (4, 5, 45, 29, 37, 0), (0, 4, 48, 0, 0, 0), (6, 1, 49, 290, 12, 39), (4, 0, 52, 13, 32, 0), (0, 4, 55, 0, 0, 0), (8, 0, 56, 296, 198, 1), (4, 0, 59, 13, 35, 0), (4, 12, 62, -37, 15, 0), (0, 4, 65, 0, 0, 0), (8, 0, 66, 299, 199, 1), (4, 1, 69, -44, 15, 0), (0, 0, 72, 0, 0, 0), (9, 1, 73, 0, 0, 0), (0, 4, 74, 0, 0, 0), (0, 0, 75, 1, 0, 0), (8, 0, 76, 293, 194, 2), (0, 0, 79, 1, 0, 0), (9, 1, 80, 0, 0, 0)]
def kX12_bounded : List OP := [(0, 4, 0, 0, 0, 0), (0, 4, 1, 0, 0, 0), (6, 1, 2, 302, 12, 43), (4, 1, 5, 19, 12, 0), (0, 3, 8, 0, 1, 1), (0, 1, 9, 1000000000000, 305, 2), (2, 7, 12, 0, 0, 0), (4, 4, 13, 11, 12, 0), (0, 3, 16, 0, 1, 1), (0, 1, 17, -1000000000000, 307, 2), (2, 7, 20, 0, 0, 0), (4, 3, 21, 7, 14, 0), (0, 0, 24, 1, 0, 0), (4, 12, 25, 4, 15, 0), (0, 0, 28, 0, 0, 0), (7, 1, 29, 302, 12, 43), (0, 4, 32, 0, 0, 0), (6, 1, 33, 302, 12, 43), (4, 0, 36, 7, 21, 0), (0, 1, 39, 0, 0, 0), (4, 12, 40, 4, 22, 0), (0, 3, 43, 0, 1, 1), (9, 2, 44, 0, 0, 0)]
def kX12_compares : List OP := [(0, 2, 0, 0, 0, 0), (4, 13, 1, 5, 42, 7), (0, 3, 36, 0, 1, 1), (0, 3, 37, 0, 3, 3), (2, 7, 38, 0, 0, 0), (4, 3, 39, 7, 8, 0), (0, 0, 42, 1, 0, 0), (4, 12, 43, 4, 9, 0), (0, 0, 46, 0, 0, 0), (9, 1, 47, 0, 0, 0), (0, 3, 48, 0, 1, 1), (0, 3, 49, 0, 3, 3), (2, 7, 50, 0, 0, 0), (4, 4, 51, 7, 16, 0), (0, 0, 54, 1, 0, 0), (4, 12, 55, 4, 17, 0), (0, 0, 58, 0, 0, 0), (9, 1, 59, 0, 0, 0), (0, 3, 60, 0, 1, 1), (0, 3, 61, 0, 3, 3), (2, 7, 62, 0, 0, 0), (4, 1, 63, 7, 24, 0), (0, 0, 66, 1, 0, 0), (4, 12, 67, 4, 25, 0), (0, 0, 70, 0, 0, 0), (9, 1, 71, 0, 0, 0), (0, 3, 72, 0, 1, 1), (0, 3, 73, 0, 3, 3), (2, 7, 74, 0, 0, 0), (4, 0, 75, 7, 32, 0), (0, 0, 78, 1, 0, 0), (4, 12, 79, 4, 33, 0), (0, 0, 82, 0, 0, 0), (9, 1, 83, 0, 0, 0), (0, 3, 84, 0, 1, 1), (0, 3, 85, 0, 3, 3), (2, 7, 86, 0, 0, 0), (4, 2, 87, 7, 40, 0), (0, 0, 90, 1, 0, 0), (4, 12, 91, 4, 41, 0), (0, 0, 94, 0, 0, 0), (9, 1, 95, 0, 0, 0), (0, 3, 96, 0, 1, 1), (0, 3, 97, 0, 3, 3), (2, 7, 98, 0, 0, 0), (4, 5, 99, 7, 48, 0), (0, 0, 102, 1, 0, 0), (4, 12, 103, 4, 49, 0), (0, 0, 106, 0, 0, 0), (9, 1, 107, 0, 0, 0)]
def kX12_times : List OP := [(0, 3, 0, 0, 1, 1), (0, 1, 1, 0, 0, 0), (2, 7, 2, 0, 0, 0), (4, 0, 3, 45, 30, 0), (0, 3, 6, 0, 3, 3), (0, 1, 7, 0, 0, 0), (2, 7, 8, 0, 0, 0), (4, 0, 9, 39, 30, 0), (0, 3, 12, 0, 3, 3), (0, 1, 13, 0, 0, 0), (2, 7, 14, 0, 0, 0), (4, 3, 15, 8, 15, 0), (0, 3, 18, 0, 3, 3), (2, 6, 19, 0, 0, 0), (4, 12, 20, 4, 16, 0), (0, 3, 23, 0, 3, 3), (0, 1, 24, 1000000000000, 305, 2), (0, 3, 27, 0, 1, 1), (0, 1, 28, 0, 0, 0), (2, 7, 29, 0, 0, 0), (4, 3, 30, 8, 24, 0), (0, 3, 33, 0, 1, 1), (2, 6, 34, 0, 0, 0), (4, 12, 35, 4, 25, 0), (0, 3, 38, 0, 1, 1), (2, 4, 39, 0, 0, 0), (2, 7, 40, 0, 0, 0), (4, 5, 41, 7, 30, 0), (0, 0, 44, 1, 0, 0), (4, 12, 45, 4, 31, 0), (0, 0, 48, 0, 0, 0), (0, 5, 49, 0, 5, 4), (0, 4, 51, 0, 0, 0), (0, 4, 52, 0, 0, 0), (6, 1, 53, 302, 12, 43), (4, 1, 56, 8, 38, 0), (0, 2, 59, 0, 5, 4), (4, 0, 61, 7, 40, 0), (0, 0, 64, 1, 0, 0), (4, 12, 65, 4, 41, 0), (0, 0, 68, 0, 0, 0), (7, 1, 69, 302, 12, 43), (0, 4, 72, 0, 0, 0), (6, 1, 73, 302, 12, 43), (4, 0, 76, 7, 47, 0), (0, 1, 79, 0, 0, 0), (4, 12, 80, 6, 50, 0), (0, 3, 83, 0, 1, 1), (0, 3, 84, 0, 3, 3), (2, 2, 85, 0, 0, 0), (9, 2, 86, 0, 0, 0)]
def kX12_valueOf : List OP := [(0, 4, 0, 0, 0, 0), (6, 2, 1, 57, 12, 30), (0, 2, 4, 0, 1, 1), (5, 0, 5, 0, 0, 0), (4, 1, 6, 11, 11, 0), (0, 4, 9, 0, 0, 0), (6, 2, 10, 60, 12, 31), (0, 2, 13, 0, 1, 1), (5, 0, 14, 0, 0, 0), (1, 12, 15, 0, 0, 0), (9, 2, 16, 0, 0, 0), (0, 4, 17, 0, 0, 0), (6, 2, 18, 57, 12, 30), (0, 2, 21, 0, 1, 1), (5, 0, 22, 0, 0, 0), (0, 0, 23, 1, 0, 0), (4, 7, 24, 15, 25, 0), (0, 4, 27, 0, 0, 0), (6, 2, 28, 72, 12, 41), (0, 4, 31, 0, 0, 0), (6, 2, 32, 60, 12, 31), (0, 2, 35, 0, 1, 1), (5, 0, 36, 0, 0, 0), (5, 2, 37, 0, 0, 0), (9, 2, 38, 0, 0, 0), (0, 4, 39, 0, 0, 0), (6, 2, 40, 76, 12, 42), (0, 4, 43, 0, 0, 0), (6, 2, 44, 60, 12, 31), (0, 2, 47, 0, 1, 1), (5, 0, 48, 0, 0, 0), (5, 2, 49, 0, 0, 0), (0, 6, 50, 0, 2, 2), (0, 4, 51, 0, 0, 0), (6, 2, 52, 57, 12, 30), (0, 2, 55, 0, 1, 1), (5, 0, 56, 0, 0, 0), (0, 0, 57, 2, 0, 0), (4, 7, 58, 15, 47, 0), (0, 3, 61, 0, 2, 2), (0, 1, 62, 0, 0, 0), (2, 7, 63, 0, 0, 0), (4, 1, 64, 7, 45, 0), (0, 1, 67, 1, 0, 1), (4, 12, 68, 4, 46, 0), (0, 1, 71, 0, 0, 0), (9, 2, 72, 0, 0, 0), (0, 4, 73, 0, 0, 0), (6, 2, 74, 76, 12, 42), (0, 4, 77, 0, 0, 0), (6, 2, 78, 63, 12, 32), (0, 2, 81, 0, 1, 1), (5, 0, 82, 0, 0, 0), (5, 2, 83, 0, 0, 0), (0, 6, 84, 0, 4, 4), (0, 4, 86, 0, 0, 0), (6, 2, 87, 57, 12, 30), (0, 2, 90, 0, 1, 1), (5, 0, 91, 0, 0, 0), (4, 13, 92, 3, 122, 8), (0, 3, 156, 0, 2, 2), (0, 1, 157, 0, 0, 0), (2, 7, 158, 0, 0, 0), (4, 0, 159, 14, 70, 0), (0, 3, 162, 0, 4, 4), (0, 1, 164, 0, 0, 0), (2, 7, 165, 0, 0, 0), (4, 0, 166, 7, 70, 0), (0, 1, 169, 1, 0, 1), (4, 12, 170, 4, 71, 0), (0, 1, 173, 0, 0, 0), (9, 2, 174, 0, 0, 0), (0, 3, 175, 0, 2, 2), (0, 1, 176, 0, 0, 0), (2, 7, 177, 0, 0, 0), (4, 1, 178, 10, 80, 0), (0, 3, 181, 0, 4, 4), (0, 1, 183, 0, 0, 0), (2, 7, 184, 0, 0, 0), (4, 0, 185, 7, 82, 0), (0, 1, 188, 1, 0, 1), (4, 12, 189, 4, 83, 0), (0, 1, 192, 0, 0, 0), (9, 2, 193, 0, 0, 0), (0, 4, 194, 0, 0, 0), (0, 3, 195, 0, 2, 2), (0, 3, 196, 0, 4, 4), (2, 0, 198, 0, 0, 0), (8, 0, 199, 309, 201, 2), (9, 2, 202, 0, 0, 0), (0, 4, 203, 0, 0, 0), (0, 3, 204, 0, 2, 2), (0, 3, 205, 0, 4, 4), (2, 1, 207, 0, 0, 0), (8, 0, 208, 309, 201, 2), (9, 2, 211, 0, 0, 0), (0, 4, 212, 0, 0, 0), (0, 3, 213, 0, 2, 2), (0, 3, 214, 0, 4, 4), (8, 0, 216, 313, 203, 3), (9, 2, 219, 0, 0, 0), (0, 4, 220, 0, 0, 0), (0, 4, 221, 0, 0, 0), (6, 1, 222, 302, 12, 43), (4, 1, 225, 10, 109, 0), (0, 3, 228, 0, 4, 4), (0, 1, 230, 0, 0, 0), (2, 7, 231, 0, 0, 0), (4, 1, 232, 7, 111, 0), (0, 0, 235, 1, 0, 0), (4, 12, 236, 4, 112, 0), (0, 0, 239, 0, 0, 0), (7, 1, 240, 302, 12, 43), (0, 4, 243, 0, 0, 0), (6, 1, 244, 302, 12, 43), (4, 0, 247, 7, 118, 0), (0, 1, 250, 0, 0, 0), (4, 12, 251, 7, 121, 0), (0, 3, 254, 0, 2, 2), (0, 3, 255, 0, 4, 4), (2, 4, 257, 0, 0, 0), (9, 2, 258, 0, 0, 0), (0, 4, 259, 0, 0, 0), (6, 2, 260, 57, 12, 30), (0, 2, 263, 0, 1, 1), (5, 0, 264, 0, 0, 0), (0, 3, 265, 0, 2, 2), (0, 3, 266, 0, 4, 4), (8, 1, 268, 317, 202, 3), (4, 0, 271, 7, 132, 0), (0, 1, 274, 1, 0, 1), (4, 12, 275, 4, 133, 0), (0, 1, 278, 0, 0, 0), (9, 2, 279, 0, 0, 0)]
def kX12_begin : List OP := [(0, 4, 0, 0, 0, 0), (0, 0, 1, 0, 0, 0), (8, 0, 2, 321, 206, 2), (0, 4, 5, 0, 0, 0), (0, 4, 6, 0, 0, 0), (6, 2, 7, 24, 12, 19), (0, 0, 10, 1, 0, 0), (5, 0, 11, 0, 0, 0), (1, 12, 12, 0, 0, 0), (7, 5, 13, 324, 12, 51), (0, 4, 16, 0, 0, 0), (8, 0, 17, 328, 207, 1), (0, 4, 20, 0, 0, 0), (0, 0, 21, 0, 0, 0), (7, 0, 22, 331, 12, 67), (0, 4, 25, 0, 0, 0), (0, 0, 26, -1, 0, 0), (7, 0, 27, 106, 12, 68), (0, 4, 30, 0, 0, 0), (0, 0, 31, 0, 0, 0), (7, 0, 32, 334, 12, 72), (0, 4, 35, 0, 0, 0), (0, 0, 36, 0, 0, 0), (7, 1, 37, 337, 12, 74), (9, 4, 40, 0, 0, 0)]
def kX12_atFirst : List OP := [(0, 0, 0, 0, 0, 0), (0, 5, 1, 0, 2, 2), (0, 2, 2, 0, 2, 2), (0, 0, 3, 6, 0, 1), (4, 9, 5, 55, 40, 0), (0, 4, 8, 0, 0, 0), (6, 2, 9, 79, 12, 44), (0, 0, 12, 6, 0, 1), (0, 2, 14, 0, 1, 1), (1, 2, 15, 0, 0, 0), (0, 2, 16, 0, 2, 2), (1, 0, 17, 0, 0, 0), (0, 4, 18, 0, 0, 0), (6, 2, 19, 30, 12, 21), (0, 2, 22, 0, 2, 2), (5, 0, 23, 0, 0, 0), (5, 4, 24, 0, 0, 0), (0, 4, 25, 0, 0, 0), (6, 2, 26, 82, 12, 45), (0, 0, 29, 6, 0, 1), (0, 2, 31, 0, 1, 1), (1, 2, 32, 0, 0, 0), (0, 2, 33, 0, 2, 2), (1, 0, 34, 0, 0, 0), (0, 0, 35, 0, 0, 0), (5, 4, 36, 0, 0, 0), (0, 4, 37, 0, 0, 0), (6, 2, 38, 85, 12, 46), (0, 0, 41, 6, 0, 1), (0, 2, 43, 0, 1, 1), (1, 2, 44, 0, 0, 0), (0, 2, 45, 0, 2, 2), (1, 0, 46, 0, 0, 0), (0, 4, 47, 0, 0, 0), (6, 2, 48, 42, 12, 25), (0, 2, 51, 0, 2, 2), (5, 0, 52, 0, 0, 0), (5, 4, 53, 0, 0, 0), (0, 8, 54, 1, 2, 0), (4, 12, 57, -55, 2, 0), (0, 0, 60, 0, 0, 0), (0, 5, 61, 0, 2, 2), (0, 2, 62, 0, 2, 2), (0, 0, 63, 2, 0, 0), (4, 9, 64, 75, 96, 0), (0, 4, 67, 0, 0, 0), (6, 2, 68, 88, 12, 47), (0, 0, 71, 2, 0, 0), (0, 2, 72, 0, 1, 1), (1, 2, 73, 0, 0, 0), (0, 2, 74, 0, 2, 2), (1, 0, 75, 0, 0, 0), (0, 4, 76, 0, 0, 0), (6, 2, 77, 45, 12, 26), (0, 2, 80, 0, 2, 2), (5, 0, 81, 0, 0, 0), (5, 4, 82, 0, 0, 0), (0, 4, 83, 0, 0, 0), (6, 2, 84, 91, 12, 48), (0, 0, 87, 2, 0, 0), (0, 2, 88, 0, 1, 1), (1, 2, 89, 0, 0, 0), (0, 2, 90, 0, 2, 2), (1, 0, 91, 0, 0, 0), (0, 0, 92, 0, 0, 0), (5, 4, 93, 0, 0, 0), (0, 4, 94, 0, 0, 0), (6, 2, 95, 94, 12, 49), (0, 0, 98, 2, 0, 0), (0, 2, 99, 0, 1, 1), (1, 2, 100, 0, 0, 0), (0, 2, 101, 0, 2, 2), (1, 0, 102, 0, 0, 0), (0, 0, 103, 0, 0, 0), (5, 4, 104, 0, 0, 0), (0, 2, 105, 0, 2, 2), (0, 4, 106, 0, 0, 0), (6, 0, 107, 207, 12, 13), (4, 9, 110, 23, 94, 0), (0, 4, 113, 0, 0, 0), (6, 2, 114, 82, 12, 45), (0, 0, 117, 6, 0, 1), (0, 2, 119, 0, 1, 1), (1, 2, 120, 0, 0, 0), (0, 4, 121, 0, 0, 0), (6, 2, 122, 45, 12, 26), (0, 2, 125, 0, 2, 2), (5, 0, 126, 0, 0, 0), (1, 0, 127, 0, 0, 0), (3, 1, 128, 0, 0, 0), (5, 0, 129, 0, 0, 0), (0, 0, 130, 1, 0, 0), (1, 0, 131, 0, 0, 0), (5, 4, 132, 0, 0, 0), (0, 8, 133, 1, 2, 0), (4, 12, 136, -74, 42, 0), (0, 4, 139, 0, 0, 0), (6, 2, 140, 97, 12, 50), (0, 2, 143, 0, 1, 1), (0, 0, 144, 0, 0, 0), (5, 4, 145, 0, 0, 0), (9, 4, 146, 0, 0, 0)]
def kX12_plainTried : List OP := [(0, 4, 0, 0, 0, 0), (0, 0, 1, 0, 0, 0), (7, 1, 2, 340, 12, 52), (0, 4, 5, 0, 0, 0), (0, 0, 6, 0, 0, 0), (7, 1, 7, 343, 12, 53), (0, 4, 10, 0, 0, 0), (0, 0, 11, 0, 0, 0), (7, 1, 12, 346, 12, 54), (0, 4, 15, 0, 0, 0), (0, 0, 16, 0, 0, 0), (7, 1, 17, 349, 12, 55), (0, 4, 20, 0, 0, 0), (0, 0, 21, 0, 0, 0), (7, 1, 22, 352, 12, 56), (0, 4, 25, 0, 0, 0), (0, 0, 26, 0, 0, 0), (7, 0, 27, 355, 12, 57), (0, 4, 30, 0, 0, 0), (0, 0, 31, -1, 0, 0), (7, 0, 32, 358, 12, 58), (0, 4, 35, 0, 0, 0), (0, 0, 36, 0, 0, 0), (7, 0, 37, 361, 12, 59), (9, 4, 40, 0, 0, 0)]
def kX12_layTried : List OP := [(0, 0, 0, 0, 0, 0), (0, 5, 1, 0, 1, 1), (0, 2, 2, 0, 1, 1), (0, 0, 3, 6, 0, 1), (4, 9, 5, 54, 37, 0), (0, 4, 8, 0, 0, 0), (6, 2, 9, 79, 12, 44), (0, 0, 12, 6, 0, 1), (0, 2, 14, 0, 1, 1), (1, 0, 15, 0, 0, 0), (0, 4, 16, 0, 0, 0), (6, 2, 17, 79, 12, 44), (0, 2, 20, 0, 1, 1), (5, 0, 21, 0, 0, 0), (5, 4, 22, 0, 0, 0), (0, 4, 23, 0, 0, 0), (6, 2, 24, 82, 12, 45), (0, 0, 27, 6, 0, 1), (0, 2, 29, 0, 1, 1), (1, 0, 30, 0, 0, 0), (0, 4, 31, 0, 0, 0), (6, 2, 32, 82, 12, 45), (0, 2, 35, 0, 1, 1), (5, 0, 36, 0, 0, 0), (5, 4, 37, 0, 0, 0), (0, 4, 38, 0, 0, 0), (6, 2, 39, 85, 12, 46), (0, 0, 42, 6, 0, 1), (0, 2, 44, 0, 1, 1), (1, 0, 45, 0, 0, 0), (0, 4, 46, 0, 0, 0), (6, 2, 47, 85, 12, 46), (0, 2, 50, 0, 1, 1), (5, 0, 51, 0, 0, 0), (5, 4, 52, 0, 0, 0), (0, 8, 53, 1, 1, 0), (4, 12, 56, -54, 2, 0), (0, 0, 59, 0, 0, 0), (0, 5, 60, 0, 1, 1), (0, 2, 61, 0, 1, 1), (0, 0, 62, 2, 0, 0), (4, 9, 63, 51, 74, 0), (0, 4, 66, 0, 0, 0), (6, 2, 67, 88, 12, 47), (0, 0, 70, 2, 0, 0), (0, 2, 71, 0, 1, 1), (1, 0, 72, 0, 0, 0), (0, 4, 73, 0, 0, 0), (6, 2, 74, 88, 12, 47), (0, 2, 77, 0, 1, 1), (5, 0, 78, 0, 0, 0), (5, 4, 79, 0, 0, 0), (0, 4, 80, 0, 0, 0), (6, 2, 81, 91, 12, 48), (0, 0, 84, 2, 0, 0), (0, 2, 85, 0, 1, 1), (1, 0, 86, 0, 0, 0), (0, 4, 87, 0, 0, 0), (6, 2, 88, 91, 12, 48), (0, 2, 91, 0, 1, 1), (5, 0, 92, 0, 0, 0), (5, 4, 93, 0, 0, 0), (0, 4, 94, 0, 0, 0), (6, 2, 95, 94, 12, 49), (0, 0, 98, 2, 0, 0), (0, 2, 99, 0, 1, 1), (1, 0, 100, 0, 0, 0), (0, 4, 101, 0, 0, 0), (6, 2, 102, 94, 12, 49), (0, 2, 105, 0, 1, 1), (5, 0, 106, 0, 0, 0), (5, 4, 107, 0, 0, 0), (0, 8, 108, 1, 1, 0), (4, 12, 111, -50, 39, 0), (0, 4, 114, 0, 0, 0), (6, 2, 115, 97, 12, 50), (0, 0, 118, 1, 0, 0), (0, 4, 119, 0, 0, 0), (6, 2, 120, 97, 12, 50), (0, 0, 123, 0, 0, 0), (5, 0, 124, 0, 0, 0), (5, 4, 125, 0, 0, 0), (0, 4, 126, 0, 0, 0), (8, 0, 127, 328, 207, 1), (9, 4, 130, 0, 0, 0)]
def kX12_isGrower : List OP := [(0, 2, 0, 0, 1, 1), (4, 2, 1, 15, 8, 0), (0, 2, 4, 0, 1, 1), (0, 4, 5, 0, 0, 0), (6, 0, 6, 204, 12, 12), (4, 9, 9, 7, 8, 0), (0, 0, 12, 1, 0, 0), (4, 12, 13, 4, 9, 0), (0, 0, 16, 0, 0, 0), (9, 1, 17, 0, 0, 0)]
def kX12_isRibbon : List OP := [(0, 2, 0, 0, 1, 1), (4, 2, 1, 15, 8, 0), (0, 2, 4, 0, 1, 1), (0, 4, 5, 0, 0, 0), (6, 0, 6, 207, 12, 13), (4, 9, 9, 7, 8, 0), (0, 0, 12, 1, 0, 0), (4, 12, 13, 4, 9, 0), (0, 0, 16, 0, 0, 0), (9, 1, 17, 0, 0, 0)]
def kX12_areTwo : List OP := [(0, 4, 0, 0, 0, 0), (0, 2, 1, 0, 1, 1), (8, 0, 2, 364, 209, 2), (4, 0, 5, 20, 13, 0), (0, 4, 8, 0, 0, 0), (0, 2, 9, 0, 2, 2), (8, 0, 10, 364, 209, 2), (4, 0, 13, 12, 13, 0), (0, 2, 16, 0, 1, 1), (0, 2, 17, 0, 2, 2), (4, 6, 18, 7, 13, 0), (0, 0, 21, 1, 0, 0), (4, 12, 22, 4, 14, 0), (0, 0, 25, 0, 0, 0), (9, 1, 26, 0, 0, 0)]
def kX12_apart : List OP := [(0, 2, 0, 0, 0, 0), (0, 2, 1, 0, 1, 1), (4, 11, 2, 9, 7, 0), (0, 2, 5, 0, 0, 0), (0, 2, 6, 0, 1, 1), (1, 1, 7, 0, 0, 0), (4, 12, 8, 6, 10, 0), (0, 2, 11, 0, 1, 1), (0, 2, 12, 0, 0, 0), (1, 1, 13, 0, 0, 0), (9, 0, 14, 0, 0, 0)]
def kX12_doubtIn : List OP := [(0, 4, 0, 0, 0, 0), (6, 1, 1, 346, 12, 54), (4, 0, 4, 7, 5, 0), (0, 0, 7, 0, 0, 0), (4, 12, 8, 24, 16, 0), (0, 2, 11, 0, 1, 1), (0, 4, 12, 0, 0, 0), (6, 0, 13, 358, 12, 58), (4, 7, 16, 10, 12, 0), (0, 4, 19, 0, 0, 0), (6, 0, 20, 361, 12, 59), (4, 12, 23, 9, 16, 0), (0, 4, 26, 0, 0, 0), (6, 2, 27, 36, 12, 23), (0, 2, 30, 0, 1, 1), (5, 0, 31, 0, 0, 0), (9, 0, 32, 0, 0, 0)]
def kX12_layNames : List OP := [(0, 4, 0, 0, 0, 0), (6, 2, 1, 72, 12, 41), (0, 0, 4, 0, 0, 0), (0, 4, 5, 0, 0, 0), (6, 2, 6, 79, 12, 44), (0, 0, 9, 6, 0, 1), (0, 2, 11, 0, 1, 1), (1, 2, 12, 0, 0, 0), (0, 2, 13, 0, 3, 3), (1, 0, 14, 0, 0, 0), (5, 0, 15, 0, 0, 0), (1, 12, 16, 0, 0, 0), (5, 6, 17, 0, 0, 0), (0, 4, 18, 0, 0, 0), (6, 2, 19, 72, 12, 41), (0, 0, 22, 1, 0, 0), (0, 4, 23, 0, 0, 0), (6, 2, 24, 79, 12, 44), (0, 0, 27, 6, 0, 1), (0, 2, 29, 0, 1, 1), (1, 2, 30, 0, 0, 0), (0, 2, 31, 0, 2, 2), (1, 0, 32, 0, 0, 0), (5, 0, 33, 0, 0, 0), (1, 12, 34, 0, 0, 0), (5, 6, 35, 0, 0, 0), (0, 4, 36, 0, 0, 0), (6, 2, 37, 72, 12, 41), (0, 0, 40, 2, 0, 0), (0, 4, 41, 0, 0, 0), (0, 2, 42, 0, 2, 2), (8, 0, 43, 367, 213, 2), (1, 12, 46, 0, 0, 0), (5, 6, 47, 0, 0, 0), (0, 4, 48, 0, 0, 0), (6, 2, 49, 72, 12, 41), (0, 0, 52, 3, 0, 0), (0, 4, 53, 0, 0, 0), (6, 2, 54, 39, 12, 24), (0, 2, 57, 0, 2, 2), (5, 0, 58, 0, 0, 0), (0, 4, 59, 0, 0, 0), (6, 2, 60, 39, 12, 24), (0, 2, 63, 0, 3, 3), (5, 0, 64, 0, 0, 0), (8, 1, 65, 370, 212, 2), (1, 12, 68, 0, 0, 0), (5, 6, 69, 0, 0, 0), (0, 4, 70, 0, 0, 0), (6, 2, 71, 72, 12, 41), (0, 0, 74, 4, 0, 0), (0, 4, 75, 0, 0, 0), (6, 2, 76, 82, 12, 45), (0, 0, 79, 6, 0, 1), (0, 2, 81, 0, 1, 1), (1, 2, 82, 0, 0, 0), (0, 2, 83, 0, 3, 3), (1, 0, 84, 0, 0, 0), (5, 0, 85, 0, 0, 0), (1, 12, 86, 0, 0, 0), (5, 6, 87, 0, 0, 0), (0, 4, 88, 0, 0, 0), (6, 2, 89, 72, 12, 41), (0, 0, 92, 5, 0, 0), (0, 2, 93, 0, 4, 4), (1, 12, 95, 0, 0, 0), (5, 6, 96, 0, 0, 0), (0, 4, 97, 0, 0, 0), (6, 2, 98, 72, 12, 41), (0, 0, 101, 6, 0, 1), (0, 4, 103, 0, 0, 0), (6, 2, 104, 97, 12, 50), (0, 2, 107, 0, 1, 1), (5, 0, 108, 0, 0, 0), (1, 12, 109, 0, 0, 0), (5, 6, 110, 0, 0, 0), (9, 4, 111, 0, 0, 0)]
def kX12_lawOf : List OP := [(0, 4, 0, 0, 0, 0), (0, 0, 1, 0, 0, 0), (7, 1, 2, 302, 12, 43), (0, 4, 5, 0, 0, 0), (6, 2, 6, 51, 12, 28), (0, 2, 9, 0, 1, 1), (5, 0, 10, 0, 0, 0), (0, 5, 11, 0, 2, 2), (0, 2, 12, 0, 2, 2), (0, 4, 13, 0, 0, 0), (6, 2, 14, 54, 12, 29), (0, 2, 17, 0, 1, 1), (5, 0, 18, 0, 0, 0), (4, 9, 19, 20, 23, 0), (0, 4, 22, 0, 0, 0), (6, 2, 23, 76, 12, 42), (0, 2, 26, 0, 2, 2), (0, 4, 27, 0, 0, 0), (0, 2, 28, 0, 2, 2), (8, 0, 29, 373, 204, 2), (5, 6, 32, 0, 0, 0), (0, 8, 33, 1, 2, 0), (4, 12, 36, -24, 8, 0), (0, 4, 39, 0, 0, 0), (6, 1, 40, 302, 12, 43), (4, 0, 43, 7, 28, 0), (0, 1, 46, 0, 0, 0), (4, 12, 47, 16, 37, 0), (0, 4, 50, 0, 0, 0), (6, 2, 51, 76, 12, 42), (0, 4, 54, 0, 0, 0), (6, 2, 55, 54, 12, 29), (0, 2, 58, 0, 1, 1), (5, 0, 59, 0, 0, 0), (0, 0, 60, 1, 0, 0), (1, 1, 61, 0, 0, 0), (5, 2, 62, 0, 0, 0), (9, 2, 63, 0, 0, 0)]
def kX12_boundLaw : List OP := [(0, 4, 0, 0, 0, 0), (6, 2, 1, 48, 12, 27), (0, 2, 4, 0, 1, 1), (5, 1, 5, 0, 0, 0), (4, 1, 6, 5, 7, 0), (0, 2, 9, 0, 2, 2), (9, 0, 10, 0, 0, 0), (0, 4, 11, 0, 0, 0), (0, 2, 12, 0, 1, 1), (8, 0, 13, 377, 215, 2), (0, 6, 16, 0, 5, 4), (0, 4, 18, 0, 0, 0), (6, 1, 19, 302, 12, 43), (4, 0, 22, 5, 16, 0), (0, 2, 25, 0, 2, 2), (9, 0, 26, 0, 0, 0), (0, 3, 27, 0, 5, 4), (0, 2, 29, 0, 3, 3), (1, 12, 30, 0, 0, 0), (2, 7, 31, 0, 0, 0), (4, 3, 32, 7, 23, 0), (0, 2, 35, 0, 3, 3), (4, 12, 36, 20, 32, 0), (0, 3, 39, 0, 5, 4), (0, 2, 41, 0, 4, 4), (1, 12, 43, 0, 0, 0), (2, 7, 44, 0, 0, 0), (4, 5, 45, 8, 30, 0), (0, 2, 48, 0, 4, 4), (4, 12, 50, 6, 32, 0), (0, 3, 53, 0, 5, 4), (1, 13, 55, 0, 0, 0), (9, 0, 56, 0, 0, 0)]
def kX12_judgedBy : List OP := [(0, 4, 0, 0, 0, 0), (0, 2, 1, 0, 1, 1), (0, 2, 2, 0, 2, 2), (0, 2, 3, 0, 3, 3), (0, 0, 4, 0, 0, 0), (8, 0, 5, 380, 214, 5), (0, 4, 8, 0, 0, 0), (6, 2, 9, 79, 12, 44), (0, 0, 12, 6, 0, 1), (0, 2, 14, 0, 1, 1), (1, 2, 15, 0, 0, 0), (0, 2, 16, 0, 3, 3), (1, 0, 17, 0, 0, 0), (5, 0, 18, 0, 0, 0), (0, 4, 19, 0, 0, 0), (0, 2, 20, 0, 2, 2), (8, 0, 21, 367, 213, 2), (0, 4, 24, 0, 0, 0), (6, 2, 25, 82, 12, 45), (0, 0, 28, 6, 0, 1), (0, 2, 30, 0, 1, 1), (1, 2, 31, 0, 0, 0), (0, 2, 32, 0, 3, 3), (1, 0, 33, 0, 0, 0), (5, 0, 34, 0, 0, 0), (1, 2, 35, 0, 0, 0), (1, 1, 36, 0, 0, 0), (0, 5, 37, 0, 4, 4), (0, 4, 39, 0, 0, 0), (0, 0, 40, 0, 0, 0), (0, 2, 41, 0, 4, 4), (4, 3, 43, 7, 34, 0), (0, 0, 46, 0, 0, 0), (4, 12, 47, 5, 35, 0), (0, 2, 50, 0, 4, 4), (0, 0, 52, 0, 0, 0), (0, 0, 53, 9999, 0, 2), (8, 0, 56, 384, 216, 5), (9, 0, 59, 0, 0, 0)]
def kX12_seenBy : List OP := [(0, 4, 0, 0, 0, 0), (6, 1, 1, 352, 12, 56), (4, 0, 4, 20, 16, 0), (0, 0, 7, 1, 0, 0), (0, 4, 8, 0, 0, 0), (6, 0, 9, 204, 12, 12), (1, 6, 12, 0, 0, 0), (0, 0, 13, 1, 0, 0), (1, 1, 14, 0, 0, 0), (0, 0, 15, 1, 0, 0), (0, 2, 16, 0, 2, 2), (1, 6, 17, 0, 0, 0), (0, 0, 18, -1, 0, 0), (1, 5, 19, 0, 0, 0), (1, 3, 20, 0, 0, 0), (4, 12, 21, 14, 24, 0), (0, 4, 24, 0, 0, 0), (6, 2, 25, 85, 12, 46), (0, 0, 28, 6, 0, 1), (0, 2, 30, 0, 1, 1), (1, 2, 31, 0, 0, 0), (0, 2, 32, 0, 2, 2), (1, 0, 33, 0, 0, 0), (5, 0, 34, 0, 0, 0), (0, 5, 35, 0, 3, 3), (0, 2, 36, 0, 3, 3), (0, 4, 37, 0, 0, 0), (6, 0, 38, 355, 12, 57), (0, 0, 41, -1, 0, 0), (1, 5, 42, 0, 0, 0), (1, 3, 43, 0, 0, 0), (9, 0, 44, 0, 0, 0)]
def kX12_bestOf : List OP := [(0, 4, 0, 0, 0, 0), (0, 2, 1, 0, 1, 1), (0, 2, 2, 0, 2, 2), (8, 0, 3, 388, 218, 3), (0, 5, 6, 0, 3, 3), (0, 0, 7, -2, 0, 1), (0, 5, 9, 0, 4, 4), (0, 0, 11, 0, 0, 0), (0, 5, 12, 0, 5, 4), (0, 0, 14, 0, 0, 0), (0, 5, 15, 0, 6, 4), (0, 2, 17, 0, 6, 4), (0, 4, 19, 0, 0, 0), (6, 0, 20, 204, 12, 12), (4, 9, 23, 54, 38, 0), (0, 2, 26, 0, 3, 3), (0, 2, 27, 0, 6, 4), (8, 1, 29, 231, 166, 2), (4, 1, 32, 6, 20, 0), (4, 12, 35, 36, 36, 0), (0, 4, 38, 0, 0, 0), (0, 2, 39, 0, 1, 1), (0, 2, 40, 0, 2, 2), (0, 2, 41, 0, 6, 4), (8, 0, 43, 391, 217, 4), (0, 5, 46, 0, 7, 4), (0, 2, 48, 0, 4, 4), (4, 2, 50, 13, 32, 0), (0, 2, 53, 0, 7, 4), (0, 2, 55, 0, 5, 4), (4, 10, 57, 6, 32, 0), (4, 12, 60, 11, 36, 0), (0, 2, 63, 0, 6, 4), (0, 5, 65, 0, 4, 4), (0, 2, 67, 0, 7, 4), (0, 5, 69, 0, 5, 4), (0, 8, 71, 1, 6, 0), (4, 12, 74, -57, 11, 0), (0, 2, 77, 0, 4, 4), (9, 0, 79, 0, 0, 0)]
def kX12_gives : List OP := [(0, 4, 0, 0, 0, 0), (6, 2, 1, 48, 12, 27), (0, 0, 4, 2, 0, 0), (5, 1, 5, 0, 0, 0), (4, 1, 6, 5, 7, 0), (0, 0, 9, 1, 0, 0), (9, 1, 10, 0, 0, 0), (0, 4, 11, 0, 0, 0), (0, 2, 12, 0, 1, 1), (0, 2, 13, 0, 2, 2), (0, 2, 14, 0, 2, 2), (0, 2, 15, 0, 3, 3), (8, 0, 16, 380, 214, 5), (0, 4, 19, 0, 0, 0), (0, 0, 20, 2, 0, 0), (8, 0, 21, 377, 215, 2), (0, 6, 24, 0, 4, 4), (0, 4, 26, 0, 0, 0), (6, 1, 27, 302, 12, 43), (4, 1, 30, 10, 24, 0), (0, 3, 33, 0, 4, 4), (0, 1, 35, 0, 0, 0), (2, 7, 36, 0, 0, 0), (4, 0, 37, 7, 26, 0), (0, 0, 40, 1, 0, 0), (4, 12, 41, 4, 27, 0), (0, 0, 44, 0, 0, 0), (9, 1, 45, 0, 0, 0)]
def kX12_number1 : List OP := [(0, 4, 0, 0, 0, 0), (0, 4, 1, 0, 0, 0), (6, 5, 2, 324, 12, 51), (0, 1, 5, 1103515245, 395, 2), (2, 2, 8, 0, 0, 0), (0, 1, 9, 12345, 397, 2), (2, 0, 12, 0, 0, 0), (0, 1, 13, 2147483647, 399, 2), (2, 3, 16, 0, 0, 0), (7, 5, 17, 324, 12, 51), (0, 4, 20, 0, 0, 0), (6, 5, 21, 324, 12, 51), (0, 1, 24, 65536, 401, 2), (2, 4, 27, 0, 0, 0), (0, 2, 28, 0, 1, 1), (1, 12, 29, 0, 0, 0), (2, 5, 30, 0, 0, 0), (1, 13, 31, 0, 0, 0), (9, 0, 32, 0, 0, 0)]
def kX12_isBlight : List OP := [(0, 4, 0, 0, 0, 0), (6, 1, 1, 343, 12, 53), (4, 1, 4, 12, 8, 0), (0, 4, 7, 0, 0, 0), (6, 2, 8, 24, 12, 19), (0, 0, 11, 0, 0, 0), (5, 0, 12, 0, 0, 0), (4, 1, 13, 5, 10, 0), (0, 0, 16, 0, 0, 0), (9, 1, 17, 0, 0, 0), (0, 4, 18, 0, 0, 0), (6, 2, 19, 24, 12, 19), (0, 0, 22, 0, 0, 0), (5, 0, 23, 0, 0, 0), (0, 0, 24, 100, 0, 1), (4, 7, 26, 5, 18, 0), (0, 0, 29, 1, 0, 0), (9, 1, 30, 0, 0, 0), (0, 4, 31, 0, 0, 0), (6, 1, 32, 340, 12, 52), (4, 0, 35, 26, 33, 0), (0, 4, 38, 0, 0, 0), (0, 0, 39, 100, 0, 1), (8, 0, 41, 403, 221, 2), (0, 4, 44, 0, 0, 0), (6, 2, 45, 24, 12, 19), (0, 0, 48, 0, 0, 0), (5, 0, 49, 0, 0, 0), (4, 9, 50, 7, 31, 0), (0, 0, 53, 1, 0, 0), (4, 12, 54, 23, 42, 0), (0, 0, 57, 0, 0, 0), (4, 12, 58, 19, 42, 0), (0, 4, 61, 0, 0, 0), (6, 2, 62, 24, 12, 19), (0, 0, 65, 0, 0, 0), (5, 0, 66, 0, 0, 0), (0, 0, 67, 50, 0, 1), (4, 8, 69, 7, 41, 0), (0, 0, 72, 1, 0, 0), (4, 12, 73, 4, 42, 0), (0, 0, 76, 0, 0, 0), (9, 1, 77, 0, 0, 0)]
def kX12_hands : List OP := [(0, 4, 0, 0, 0, 0), (6, 2, 1, 88, 12, 47), (0, 0, 4, 2, 0, 0), (0, 2, 5, 0, 1, 1), (1, 2, 6, 0, 0, 0), (0, 2, 7, 0, 2, 2), (1, 0, 8, 0, 0, 0), (0, 2, 9, 0, 3, 3), (5, 4, 10, 0, 0, 0), (0, 4, 11, 0, 0, 0), (6, 2, 12, 82, 12, 45), (0, 0, 15, 6, 0, 1), (0, 2, 17, 0, 1, 1), (1, 2, 18, 0, 0, 0), (0, 2, 19, 0, 3, 3), (1, 0, 20, 0, 0, 0), (0, 4, 21, 0, 0, 0), (6, 2, 22, 82, 12, 45), (0, 0, 25, 6, 0, 1), (0, 2, 27, 0, 1, 1), (1, 2, 28, 0, 0, 0), (0, 2, 29, 0, 3, 3), (1, 0, 30, 0, 0, 0), (5, 0, 31, 0, 0, 0), (0, 0, 32, 999, 0, 2), (4, 9, 35, 19, 37, 0), (0, 4, 38, 0, 0, 0), (6, 2, 39, 82, 12, 45), (0, 0, 42, 6, 0, 1), (0, 2, 44, 0, 1, 1), (1, 2, 45, 0, 0, 0), (0, 2, 46, 0, 3, 3), (1, 0, 47, 0, 0, 0), (5, 0, 48, 0, 0, 0), (0, 0, 49, 1, 0, 0), (1, 0, 50, 0, 0, 0), (4, 12, 51, 6, 38, 0), (0, 0, 54, 999, 0, 2), (5, 4, 57, 0, 0, 0), (0, 4, 58, 0, 0, 0), (6, 2, 59, 91, 12, 48), (0, 0, 62, 2, 0, 0), (0, 2, 63, 0, 1, 1), (1, 2, 64, 0, 0, 0), (0, 2, 65, 0, 2, 2), (1, 0, 66, 0, 0, 0), (0, 0, 67, 0, 0, 0), (5, 4, 68, 0, 0, 0), (0, 4, 69, 0, 0, 0), (6, 2, 70, 94, 12, 49), (0, 0, 73, 2, 0, 0), (0, 2, 74, 0, 1, 1), (1, 2, 75, 0, 0, 0), (0, 2, 76, 0, 2, 2), (1, 0, 77, 0, 0, 0), (3, 1, 78, 0, 0, 0), (5, 0, 79, 0, 0, 0), (0, 0, 80, 1, 0, 0), (1, 0, 81, 0, 0, 0), (5, 4, 82, 0, 0, 0), (9, 4, 83, 0, 0, 0)]
def kX12_yearGoes : List OP := [(0, 0, 0, 0, 0, 0), (0, 5, 1, 0, 2, 2), (0, 2, 2, 0, 2, 2), (0, 4, 3, 0, 0, 0), (6, 0, 4, 204, 12, 12), (4, 9, 7, 85, 54, 0), (0, 4, 10, 0, 0, 0), (6, 1, 11, 349, 12, 55), (4, 1, 14, 78, 54, 0), (0, 4, 17, 0, 0, 0), (0, 2, 18, 0, 1, 1), (0, 2, 19, 0, 2, 2), (0, 2, 20, 0, 2, 2), (0, 0, 21, 0, 0, 0), (8, 0, 22, 380, 214, 5), (0, 4, 25, 0, 0, 0), (6, 2, 26, 79, 12, 44), (0, 0, 29, 6, 0, 1), (0, 2, 31, 0, 1, 1), (1, 2, 32, 0, 0, 0), (0, 2, 33, 0, 2, 2), (1, 0, 34, 0, 0, 0), (5, 0, 35, 0, 0, 0), (0, 4, 36, 0, 0, 0), (0, 0, 37, 1, 0, 0), (0, 4, 38, 0, 0, 0), (6, 2, 39, 33, 12, 22), (0, 2, 42, 0, 2, 2), (5, 0, 43, 0, 0, 0), (0, 0, 44, -9, 0, 1), (0, 0, 46, 9, 0, 1), (8, 0, 48, 384, 216, 5), (1, 0, 51, 0, 0, 0), (0, 5, 52, 0, 3, 3), (0, 4, 53, 0, 0, 0), (6, 2, 54, 79, 12, 44), (0, 0, 57, 6, 0, 1), (0, 2, 59, 0, 1, 1), (1, 2, 60, 0, 0, 0), (0, 2, 61, 0, 2, 2), (1, 0, 62, 0, 0, 0), (0, 2, 63, 0, 3, 3), (4, 3, 64, 7, 45, 0), (0, 0, 67, 0, 0, 0), (4, 12, 68, 17, 51, 0), (0, 2, 71, 0, 3, 3), (0, 0, 72, 999, 0, 2), (4, 11, 75, 9, 50, 0), (0, 0, 78, 999, 0, 2), (4, 12, 81, 4, 51, 0), (0, 2, 84, 0, 3, 3), (5, 4, 85, 0, 0, 0), (0, 8, 86, 1, 2, 0), (4, 12, 89, -87, 2, 0), (0, 0, 92, 0, 0, 0), (0, 5, 93, 0, 2, 2), (0, 2, 94, 0, 2, 2), (0, 4, 95, 0, 0, 0), (6, 0, 96, 204, 12, 12), (4, 9, 99, 59, 95, 0), (0, 4, 102, 0, 0, 0), (8, 0, 103, 406, 222, 1), (4, 0, 106, 46, 93, 0), (0, 4, 109, 0, 0, 0), (6, 2, 110, 79, 12, 44), (0, 0, 113, 6, 0, 1), (0, 2, 115, 0, 1, 1), (1, 2, 116, 0, 0, 0), (0, 2, 117, 0, 2, 2), (1, 0, 118, 0, 0, 0), (0, 4, 119, 0, 0, 0), (6, 2, 120, 79, 12, 44), (0, 0, 123, 6, 0, 1), (0, 2, 125, 0, 1, 1), (1, 2, 126, 0, 0, 0), (0, 2, 127, 0, 2, 2), (1, 0, 128, 0, 0, 0), (5, 0, 129, 0, 0, 0), (0, 0, 130, 5, 0, 0), (4, 11, 131, 19, 91, 0), (0, 4, 134, 0, 0, 0), (6, 2, 135, 79, 12, 44), (0, 0, 138, 6, 0, 1), (0, 2, 140, 0, 1, 1), (1, 2, 141, 0, 0, 0), (0, 2, 142, 0, 2, 2), (1, 0, 143, 0, 0, 0), (5, 0, 144, 0, 0, 0), (0, 0, 145, 5, 0, 0), (1, 1, 146, 0, 0, 0), (4, 12, 147, 4, 92, 0), (0, 0, 150, 0, 0, 0), (5, 4, 151, 0, 0, 0), (0, 8, 152, 1, 2, 0), (4, 12, 155, -61, 56, 0), (0, 0, 158, 0, 0, 0), (0, 5, 159, 0, 2, 2), (0, 2, 160, 0, 2, 2), (0, 4, 161, 0, 0, 0), (6, 0, 162, 207, 12, 13), (4, 9, 165, 96, 155, 0), (0, 0, 168, 2, 0, 0), (0, 2, 169, 0, 1, 1), (1, 2, 170, 0, 0, 0), (0, 2, 171, 0, 2, 2), (1, 0, 172, 0, 0, 0), (0, 5, 173, 0, 3, 3), (0, 4, 174, 0, 0, 0), (0, 2, 175, 0, 1, 1), (0, 4, 176, 0, 0, 0), (6, 2, 177, 88, 12, 47), (0, 2, 180, 0, 3, 3), (5, 0, 181, 0, 0, 0), (8, 0, 182, 409, 219, 3), (0, 5, 185, 0, 4, 4), (0, 2, 187, 0, 4, 4), (4, 2, 189, 34, 135, 0), (0, 4, 192, 0, 0, 0), (0, 2, 193, 0, 1, 1), (0, 4, 194, 0, 0, 0), (6, 2, 195, 88, 12, 47), (0, 2, 198, 0, 3, 3), (5, 0, 199, 0, 0, 0), (0, 4, 200, 0, 0, 0), (6, 2, 201, 91, 12, 48), (0, 2, 204, 0, 3, 3), (5, 0, 205, 0, 0, 0), (8, 0, 206, 412, 220, 4), (4, 0, 209, 14, 135, 0), (0, 4, 212, 0, 0, 0), (0, 2, 213, 0, 1, 1), (0, 2, 214, 0, 2, 2), (0, 2, 215, 0, 4, 4), (8, 0, 217, 415, 223, 4), (4, 12, 220, 35, 153, 0), (0, 4, 223, 0, 0, 0), (6, 2, 224, 91, 12, 48), (0, 2, 227, 0, 3, 3), (0, 4, 228, 0, 0, 0), (6, 2, 229, 91, 12, 48), (0, 2, 232, 0, 3, 3), (5, 0, 233, 0, 0, 0), (0, 0, 234, 999, 0, 2), (4, 9, 237, 14, 151, 0), (0, 4, 240, 0, 0, 0), (6, 2, 241, 91, 12, 48), (0, 2, 244, 0, 3, 3), (5, 0, 245, 0, 0, 0), (0, 0, 246, 1, 0, 0), (1, 0, 247, 0, 0, 0), (4, 12, 248, 6, 152, 0), (0, 0, 251, 999, 0, 2), (5, 4, 254, 0, 0, 0), (0, 8, 255, 1, 2, 0), (4, 12, 258, -98, 97, 0), (0, 4, 261, 0, 0, 0), (6, 2, 262, 97, 12, 50), (0, 2, 265, 0, 1, 1), (3, 1, 266, 0, 0, 0), (5, 0, 267, 0, 0, 0), (0, 0, 268, 1, 0, 0), (1, 0, 269, 0, 0, 0), (5, 4, 270, 0, 0, 0), (9, 4, 271, 0, 0, 0)]
def kX12_goMany : List OP := [(0, 0, 0, 0, 0, 0), (0, 5, 1, 0, 2, 2), (0, 2, 2, 0, 2, 2), (0, 2, 3, 0, 1, 1), (4, 9, 4, 14, 10, 0), (0, 4, 7, 0, 0, 0), (0, 0, 8, 1, 0, 0), (8, 0, 9, 418, 224, 2), (0, 8, 12, 1, 2, 0), (4, 12, 15, -13, 2, 0), (9, 4, 18, 0, 0, 0)]
def kX12_fails : List OP := [(0, 4, 0, 0, 0, 0), (0, 2, 1, 0, 1, 1), (7, 0, 2, 130, 12, 2), (0, 0, 5, 0, 0, 0), (9, 0, 6, 0, 0, 0)]
def kX12_ribbonsOf : List OP := [(0, 0, 0, 0, 0, 0), (0, 5, 1, 0, 3, 3), (0, 0, 2, 0, 0, 0), (0, 5, 3, 0, 4, 4), (0, 2, 5, 0, 4, 4), (0, 4, 7, 0, 0, 0), (6, 0, 8, 207, 12, 13), (4, 9, 11, 35, 28, 0), (0, 2, 14, 0, 3, 3), (0, 4, 15, 0, 0, 0), (6, 2, 16, 88, 12, 47), (0, 0, 19, 2, 0, 0), (0, 2, 20, 0, 1, 1), (1, 2, 21, 0, 0, 0), (0, 2, 22, 0, 4, 4), (1, 0, 24, 0, 0, 0), (5, 0, 25, 0, 0, 0), (0, 2, 26, 0, 2, 2), (4, 7, 27, 10, 23, 0), (0, 0, 30, 1, 0, 0), (0, 2, 31, 0, 4, 4), (1, 6, 33, 0, 0, 0), (4, 12, 34, 4, 24, 0), (0, 0, 37, 0, 0, 0), (1, 4, 38, 0, 0, 0), (0, 5, 39, 0, 3, 3), (0, 8, 40, 1, 4, 0), (4, 12, 43, -38, 4, 0), (0, 2, 46, 0, 3, 3), (9, 0, 47, 0, 0, 0)]
def kX12_grower : List OP := [(0, 4, 0, 0, 0, 0), (0, 0, 1, 0, 0, 0), (7, 0, 2, 130, 12, 2), (0, 4, 5, 0, 0, 0), (0, 2, 6, 0, 1, 1), (8, 0, 7, 364, 209, 2), (4, 1, 10, 9, 11, 0), (0, 4, 13, 0, 0, 0), (0, 0, 14, 1, 0, 0), (8, 0, 15, 421, 226, 2), (9, 0, 18, 0, 0, 0), (0, 2, 19, 0, 2, 2), (4, 13, 20, 0, 48, 9), (0, 4, 64, 0, 0, 0), (6, 2, 65, 79, 12, 44), (0, 2, 68, 0, 1, 1), (5, 0, 69, 0, 0, 0), (9, 0, 70, 0, 0, 0), (0, 4, 71, 0, 0, 0), (6, 2, 72, 33, 12, 22), (0, 2, 75, 0, 1, 1), (5, 0, 76, 0, 0, 0), (9, 0, 77, 0, 0, 0), (0, 4, 78, 0, 0, 0), (6, 2, 79, 36, 12, 23), (0, 2, 82, 0, 1, 1), (5, 0, 83, 0, 0, 0), (9, 0, 84, 0, 0, 0), (0, 4, 85, 0, 0, 0), (6, 2, 86, 39, 12, 24), (0, 2, 89, 0, 1, 1), (5, 0, 90, 0, 0, 0), (9, 0, 91, 0, 0, 0), (0, 4, 92, 0, 0, 0), (6, 2, 93, 82, 12, 45), (0, 2, 96, 0, 1, 1), (5, 0, 97, 0, 0, 0), (9, 0, 98, 0, 0, 0), (0, 4, 99, 0, 0, 0), (6, 2, 100, 85, 12, 46), (0, 2, 103, 0, 1, 1), (5, 0, 104, 0, 0, 0), (9, 0, 105, 0, 0, 0), (0, 4, 106, 0, 0, 0), (0, 0, 107, 0, 0, 0), (0, 2, 108, 0, 1, 1), (8, 0, 109, 424, 227, 3), (9, 0, 112, 0, 0, 0), (0, 4, 113, 0, 0, 0), (0, 0, 114, 2, 0, 0), (8, 0, 115, 421, 226, 2), (9, 0, 118, 0, 0, 0)]
def kX12_ribbon : List OP := [(0, 4, 0, 0, 0, 0), (0, 0, 1, 0, 0, 0), (7, 0, 2, 130, 12, 2), (0, 4, 5, 0, 0, 0), (0, 2, 6, 0, 1, 1), (8, 0, 7, 427, 210, 2), (4, 1, 10, 5, 9, 0), (0, 0, 13, -1, 0, 0), (9, 0, 14, 0, 0, 0), (0, 2, 15, 0, 2, 2), (4, 1, 16, 12, 16, 0), (0, 4, 19, 0, 0, 0), (6, 2, 20, 88, 12, 47), (0, 2, 23, 0, 1, 1), (5, 0, 24, 0, 0, 0), (4, 12, 25, 32, 33, 0), (0, 2, 28, 0, 2, 2), (0, 0, 29, 1, 0, 0), (4, 7, 30, 12, 24, 0), (0, 4, 33, 0, 0, 0), (6, 2, 34, 91, 12, 48), (0, 2, 37, 0, 1, 1), (5, 0, 38, 0, 0, 0), (4, 12, 39, 18, 33, 0), (0, 2, 42, 0, 2, 2), (0, 0, 43, 2, 0, 0), (4, 7, 44, 12, 32, 0), (0, 4, 47, 0, 0, 0), (6, 2, 48, 94, 12, 49), (0, 2, 51, 0, 1, 1), (5, 0, 52, 0, 0, 0), (4, 12, 53, 4, 33, 0), (0, 0, 56, -1, 0, 0), (9, 0, 57, 0, 0, 0)]
def kX12_judged : List OP := [(0, 4, 0, 0, 0, 0), (0, 0, 1, 0, 0, 0), (7, 0, 2, 130, 12, 2), (0, 4, 5, 0, 0, 0), (8, 0, 6, 328, 207, 1), (0, 4, 9, 0, 0, 0), (0, 2, 10, 0, 1, 1), (0, 2, 11, 0, 2, 2), (8, 0, 12, 430, 211, 3), (4, 0, 15, 13, 16, 0), (0, 4, 18, 0, 0, 0), (0, 0, 19, 0, 0, 0), (0, 2, 20, 0, 1, 1), (0, 2, 21, 0, 2, 2), (8, 0, 22, 391, 217, 4), (4, 12, 25, 4, 17, 0), (0, 0, 28, -1, 0, 0), (9, 0, 29, 0, 0, 0)]
def kX12_best : List OP := [(0, 4, 0, 0, 0, 0), (0, 0, 1, 0, 0, 0), (7, 0, 2, 130, 12, 2), (0, 4, 5, 0, 0, 0), (8, 0, 6, 328, 207, 1), (0, 4, 9, 0, 0, 0), (0, 2, 10, 0, 1, 1), (8, 0, 11, 364, 209, 2), (4, 0, 14, 12, 14, 0), (0, 4, 17, 0, 0, 0), (0, 0, 18, 0, 0, 0), (0, 2, 19, 0, 1, 1), (8, 0, 20, 409, 219, 3), (4, 12, 23, 4, 15, 0), (0, 0, 26, -1, 0, 0), (9, 0, 27, 0, 0, 0)]
def kX12_law : List OP := [(0, 4, 0, 0, 0, 0), (0, 0, 1, 0, 0, 0), (7, 0, 2, 130, 12, 2), (0, 2, 5, 0, 1, 1), (0, 0, 6, 0, 0, 0), (0, 0, 7, 2, 0, 0), (8, 1, 8, 175, 165, 3), (4, 0, 11, 33, 24, 0), (0, 4, 14, 0, 0, 0), (6, 2, 15, 48, 12, 27), (0, 2, 18, 0, 1, 1), (5, 1, 19, 0, 0, 0), (4, 0, 20, 24, 24, 0), (0, 4, 23, 0, 0, 0), (0, 2, 24, 0, 2, 2), (8, 0, 25, 364, 209, 2), (4, 0, 28, 16, 24, 0), (0, 2, 31, 0, 1, 1), (4, 1, 32, 16, 26, 0), (0, 4, 35, 0, 0, 0), (0, 2, 36, 0, 2, 2), (0, 2, 37, 0, 3, 3), (8, 0, 38, 430, 211, 3), (4, 1, 41, 7, 26, 0), (0, 1, 44, -9223372036854775808, 433, 2), (9, 2, 47, 0, 0, 0), (0, 4, 48, 0, 0, 0), (8, 0, 49, 328, 207, 1), (0, 4, 52, 0, 0, 0), (0, 0, 53, 0, 0, 0), (0, 2, 54, 0, 2, 2), (0, 2, 55, 0, 1, 1), (4, 1, 56, 7, 35, 0), (0, 2, 59, 0, 3, 3), (4, 12, 60, 4, 36, 0), (0, 2, 63, 0, 2, 2), (0, 0, 64, 0, 0, 0), (8, 0, 65, 380, 214, 5), (0, 4, 68, 0, 0, 0), (0, 2, 69, 0, 1, 1), (8, 0, 70, 377, 215, 2), (0, 6, 73, 0, 4, 4), (0, 4, 75, 0, 0, 0), (6, 1, 76, 302, 12, 43), (4, 0, 79, 9, 47, 0), (0, 1, 82, -9223372036854775808, 433, 2), (4, 12, 85, 5, 48, 0), (0, 3, 88, 0, 4, 4), (9, 2, 90, 0, 0, 0)]
def kX12_show : List OP := [(0, 4, 0, 0, 0, 0), (0, 0, 1, 0, 0, 0), (7, 0, 2, 130, 12, 2), (0, 4, 5, 0, 0, 0), (0, 2, 6, 0, 1, 1), (0, 2, 7, 0, 2, 2), (8, 0, 8, 430, 211, 3), (4, 0, 11, 17, 16, 0), (0, 4, 14, 0, 0, 0), (6, 2, 15, 85, 12, 46), (0, 2, 18, 0, 1, 1), (5, 0, 19, 0, 0, 0), (0, 2, 20, 0, 2, 2), (8, 1, 21, 231, 166, 2), (0, 2, 24, 0, 3, 3), (4, 7, 25, 5, 18, 0), (0, 0, 28, 0, 0, 0), (9, 1, 29, 0, 0, 0), (0, 4, 30, 0, 0, 0), (8, 0, 31, 435, 283, 1), (0, 4, 34, 0, 0, 0), (6, 2, 35, 85, 12, 46), (0, 2, 38, 0, 1, 1), (3, 1, 39, 0, 0, 0), (5, 0, 40, 0, 0, 0), (0, 0, 41, 1, 0, 0), (0, 2, 42, 0, 2, 2), (1, 6, 43, 0, 0, 0), (1, 5, 44, 0, 0, 0), (5, 4, 45, 0, 0, 0), (0, 0, 46, 1, 0, 0), (9, 1, 47, 0, 0, 0)]
def kX12_raise : List OP := [(0, 4, 0, 0, 0, 0), (0, 0, 1, 0, 0, 0), (7, 0, 2, 130, 12, 2), (0, 4, 5, 0, 0, 0), (0, 2, 6, 0, 1, 1), (8, 0, 7, 364, 209, 2), (4, 0, 10, 18, 14, 0), (0, 2, 13, 0, 2, 2), (4, 0, 14, 14, 14, 0), (0, 2, 17, 0, 2, 2), (0, 0, 18, -99, 0, 1), (0, 0, 20, 99, 0, 1), (8, 1, 22, 175, 165, 3), (4, 1, 25, 5, 16, 0), (0, 0, 28, -1, 0, 0), (9, 0, 29, 0, 0, 0), (0, 4, 30, 0, 0, 0), (8, 0, 31, 435, 283, 1), (0, 4, 34, 0, 0, 0), (6, 2, 35, 79, 12, 44), (0, 2, 38, 0, 1, 1), (5, 0, 39, 0, 0, 0), (0, 2, 40, 0, 2, 2), (1, 0, 41, 0, 0, 0), (0, 5, 42, 0, 3, 3), (0, 4, 43, 0, 0, 0), (6, 2, 44, 79, 12, 44), (0, 2, 47, 0, 1, 1), (0, 2, 48, 0, 3, 3), (4, 3, 49, 7, 32, 0), (0, 0, 52, 0, 0, 0), (4, 12, 53, 17, 38, 0), (0, 2, 56, 0, 3, 3), (0, 0, 57, 999, 0, 2), (4, 11, 60, 9, 37, 0), (0, 0, 63, 999, 0, 2), (4, 12, 66, 4, 38, 0), (0, 2, 69, 0, 3, 3), (5, 4, 70, 0, 0, 0), (0, 4, 71, 0, 0, 0), (6, 2, 72, 79, 12, 44), (0, 2, 75, 0, 1, 1), (5, 0, 76, 0, 0, 0), (9, 0, 77, 0, 0, 0)]
def kX12_hand : List OP := [(0, 4, 0, 0, 0, 0), (0, 0, 1, 0, 0, 0), (7, 0, 2, 130, 12, 2), (0, 4, 5, 0, 0, 0), (0, 2, 6, 0, 1, 1), (8, 0, 7, 427, 210, 2), (4, 0, 10, 21, 17, 0), (0, 4, 13, 0, 0, 0), (0, 2, 14, 0, 2, 2), (8, 0, 15, 364, 209, 2), (4, 0, 18, 13, 17, 0), (0, 4, 21, 0, 0, 0), (6, 2, 22, 88, 12, 47), (0, 2, 25, 0, 1, 1), (5, 0, 26, 0, 0, 0), (0, 2, 27, 0, 2, 2), (4, 7, 28, 5, 19, 0), (0, 0, 31, 0, 0, 0), (9, 1, 32, 0, 0, 0), (0, 4, 33, 0, 0, 0), (8, 0, 34, 435, 283, 1), (0, 4, 37, 0, 0, 0), (0, 0, 38, 0, 0, 0), (0, 2, 39, 0, 1, 1), (0, 2, 40, 0, 2, 2), (8, 0, 41, 415, 223, 4), (0, 0, 44, 1, 0, 0), (9, 1, 45, 0, 0, 0)]
def kX12_go : List OP := [(0, 4, 0, 0, 0, 0), (0, 0, 1, 0, 0, 0), (7, 0, 2, 130, 12, 2), (0, 2, 5, 0, 1, 1), (0, 0, 6, 0, 0, 0), (0, 0, 7, 99, 0, 1), (8, 1, 9, 175, 165, 3), (4, 0, 12, 17, 16, 0), (0, 4, 15, 0, 0, 0), (6, 2, 16, 97, 12, 50), (0, 0, 19, 0, 0, 0), (5, 0, 20, 0, 0, 0), (0, 2, 21, 0, 1, 1), (1, 0, 22, 0, 0, 0), (0, 0, 23, 9000, 0, 2), (4, 11, 26, 5, 18, 0), (0, 0, 29, -1, 0, 0), (9, 0, 30, 0, 0, 0), (0, 4, 31, 0, 0, 0), (8, 0, 32, 328, 207, 1), (0, 4, 35, 0, 0, 0), (0, 0, 36, 1, 0, 0), (7, 1, 37, 340, 12, 52), (0, 0, 40, 0, 0, 0), (0, 5, 41, 0, 2, 2), (0, 2, 42, 0, 2, 2), (0, 2, 43, 0, 1, 1), (4, 9, 44, 14, 33, 0), (0, 4, 47, 0, 0, 0), (0, 0, 48, 0, 0, 0), (8, 0, 49, 418, 224, 2), (0, 8, 52, 1, 2, 0), (4, 12, 55, -13, 25, 0), (0, 4, 58, 0, 0, 0), (0, 0, 59, 0, 0, 0), (7, 1, 60, 340, 12, 52), (0, 4, 63, 0, 0, 0), (0, 2, 64, 0, 1, 1), (4, 5, 65, 7, 41, 0), (0, 0, 68, 0, 0, 0), (4, 12, 69, 7, 43, 0), (0, 4, 72, 0, 0, 0), (6, 0, 73, 334, 12, 72), (7, 0, 76, 334, 12, 72), (0, 4, 79, 0, 0, 0), (6, 2, 80, 97, 12, 50), (0, 0, 83, 0, 0, 0), (5, 0, 84, 0, 0, 0), (9, 0, 85, 0, 0, 0)]
def kX12_handedAll : List OP := [(0, 0, 0, 0, 0, 0), (0, 5, 1, 0, 2, 2), (0, 0, 2, 0, 0, 0), (0, 5, 3, 0, 3, 3), (0, 2, 4, 0, 3, 3), (0, 4, 5, 0, 0, 0), (6, 0, 6, 207, 12, 13), (4, 9, 9, 22, 21, 0), (0, 2, 12, 0, 2, 2), (0, 4, 13, 0, 0, 0), (6, 2, 14, 94, 12, 49), (0, 0, 17, 2, 0, 0), (0, 2, 18, 0, 1, 1), (1, 2, 19, 0, 0, 0), (0, 2, 20, 0, 3, 3), (1, 0, 21, 0, 0, 0), (5, 0, 22, 0, 0, 0), (1, 0, 23, 0, 0, 0), (0, 5, 24, 0, 2, 2), (0, 8, 25, 1, 3, 0), (4, 12, 28, -24, 4, 0), (0, 2, 31, 0, 2, 2), (9, 0, 32, 0, 0, 0)]
def kX12_ahead : List OP := [(0, 4, 0, 0, 0, 0), (0, 0, 1, 0, 0, 0), (7, 0, 2, 130, 12, 2), (0, 2, 5, 0, 1, 1), (0, 0, 6, 0, 0, 0), (0, 0, 7, 99, 0, 1), (8, 1, 9, 175, 165, 3), (4, 0, 12, 38, 27, 0), (0, 2, 15, 0, 2, 2), (0, 0, 16, 0, 0, 0), (0, 0, 17, 3, 0, 0), (8, 1, 18, 175, 165, 3), (4, 0, 21, 29, 27, 0), (0, 2, 24, 0, 2, 2), (0, 0, 25, 2, 0, 0), (4, 9, 26, 11, 20, 0), (0, 4, 29, 0, 0, 0), (0, 2, 30, 0, 3, 3), (8, 0, 31, 427, 210, 2), (4, 0, 34, 16, 27, 0), (0, 2, 37, 0, 2, 2), (0, 0, 38, 1, 0, 0), (4, 11, 39, 13, 29, 0), (0, 4, 42, 0, 0, 0), (0, 2, 43, 0, 3, 3), (8, 0, 44, 364, 209, 2), (4, 1, 47, 5, 29, 0), (0, 0, 50, -1, 0, 0), (9, 0, 51, 0, 0, 0), (0, 4, 52, 0, 0, 0), (8, 0, 53, 438, 208, 1), (0, 4, 56, 0, 0, 0), (0, 2, 57, 0, 1, 1), (8, 0, 58, 441, 225, 2), (0, 2, 61, 0, 2, 2), (4, 13, 62, 0, 62, 10), (0, 4, 88, 0, 0, 0), (6, 2, 89, 88, 12, 47), (0, 0, 92, 2, 0, 0), (0, 2, 93, 0, 3, 3), (1, 0, 94, 0, 0, 0), (5, 0, 95, 0, 0, 0), (9, 0, 96, 0, 0, 0), (0, 4, 97, 0, 0, 0), (6, 2, 98, 94, 12, 49), (0, 0, 101, 2, 0, 0), (0, 2, 102, 0, 3, 3), (1, 0, 103, 0, 0, 0), (5, 0, 104, 0, 0, 0), (0, 4, 105, 0, 0, 0), (6, 2, 106, 94, 12, 49), (0, 2, 109, 0, 3, 3), (5, 0, 110, 0, 0, 0), (1, 1, 111, 0, 0, 0), (9, 0, 112, 0, 0, 0), (0, 4, 113, 0, 0, 0), (6, 2, 114, 79, 12, 44), (0, 0, 117, 6, 0, 1), (0, 2, 119, 0, 3, 3), (1, 0, 120, 0, 0, 0), (5, 0, 121, 0, 0, 0), (9, 0, 122, 0, 0, 0), (0, 4, 123, 0, 0, 0), (6, 2, 124, 82, 12, 45), (0, 0, 127, 6, 0, 1), (0, 2, 129, 0, 3, 3), (1, 0, 130, 0, 0, 0), (5, 0, 131, 0, 0, 0), (9, 0, 132, 0, 0, 0)]
def kX12_ringOf : List OP := [(0, 4, 0, 0, 0, 0), (6, 2, 1, 88, 12, 47), (0, 0, 4, 2, 0, 0), (0, 2, 5, 0, 1, 1), (1, 2, 6, 0, 0, 0), (0, 2, 7, 0, 2, 2), (1, 0, 8, 0, 0, 0), (5, 0, 9, 0, 0, 0), (0, 5, 10, 0, 3, 3), (0, 0, 11, 0, 0, 0), (0, 5, 12, 0, 4, 4), (0, 0, 14, 0, 0, 0), (0, 5, 15, 0, 5, 4), (0, 2, 17, 0, 4, 4), (0, 2, 19, 0, 3, 3), (8, 1, 20, 231, 166, 2), (4, 0, 23, 79, 57, 0), (0, 4, 26, 0, 0, 0), (0, 4, 27, 0, 0, 0), (6, 2, 28, 100, 12, 62), (0, 2, 31, 0, 3, 3), (5, 0, 32, 0, 0, 0), (7, 0, 33, 444, 12, 60), (0, 4, 36, 0, 0, 0), (0, 0, 37, 0, 0, 0), (7, 0, 38, 447, 12, 61), (0, 0, 41, 0, 0, 0), (0, 5, 42, 0, 6, 4), (0, 2, 44, 0, 6, 4), (0, 4, 46, 0, 0, 0), (6, 0, 47, 204, 12, 12), (4, 9, 50, 50, 55, 0), (0, 4, 53, 0, 0, 0), (3, 0, 54, 0, 0, 0), (6, 0, 55, 447, 12, 61), (0, 2, 58, 0, 4, 4), (0, 2, 60, 0, 6, 4), (8, 1, 62, 231, 166, 2), (4, 0, 65, 24, 50, 0), (0, 4, 68, 0, 0, 0), (6, 2, 69, 100, 12, 62), (0, 2, 72, 0, 6, 4), (5, 0, 74, 0, 0, 0), (0, 4, 75, 0, 0, 0), (6, 0, 76, 444, 12, 60), (4, 8, 79, 10, 50, 0), (0, 0, 82, 1, 0, 0), (0, 2, 83, 0, 6, 4), (1, 6, 85, 0, 0, 0), (4, 12, 86, 4, 51, 0), (0, 0, 89, 0, 0, 0), (1, 4, 90, 0, 0, 0), (7, 0, 91, 447, 12, 61), (0, 8, 94, 1, 6, 0), (4, 12, 97, -53, 28, 0), (0, 0, 100, 1, 0, 0), (9, 0, 101, 0, 0, 0), (0, 2, 102, 0, 4, 4), (0, 0, 104, 1, 0, 0), (0, 2, 105, 0, 3, 3), (1, 6, 106, 0, 0, 0), (1, 4, 107, 0, 0, 0), (0, 5, 108, 0, 4, 4), (0, 4, 110, 0, 0, 0), (6, 2, 111, 100, 12, 62), (0, 2, 114, 0, 3, 3), (0, 2, 115, 0, 5, 4), (5, 4, 117, 0, 0, 0), (0, 4, 118, 0, 0, 0), (0, 2, 119, 0, 1, 1), (0, 2, 120, 0, 3, 3), (8, 0, 121, 409, 219, 3), (0, 5, 124, 0, 6, 4), (0, 2, 126, 0, 6, 4), (4, 2, 128, 22, 88, 0), (0, 4, 131, 0, 0, 0), (0, 2, 132, 0, 1, 1), (0, 2, 133, 0, 3, 3), (0, 4, 134, 0, 0, 0), (6, 2, 135, 91, 12, 48), (0, 0, 138, 2, 0, 0), (0, 2, 139, 0, 1, 1), (1, 2, 140, 0, 0, 0), (0, 2, 141, 0, 2, 2), (1, 0, 142, 0, 0, 0), (5, 0, 143, 0, 0, 0), (8, 0, 144, 412, 220, 4), (4, 1, 147, 18, 98, 0), (0, 4, 150, 0, 0, 0), (0, 2, 151, 0, 5, 4), (7, 0, 153, 444, 12, 60), (0, 4, 156, 0, 0, 0), (0, 0, 157, 1, 0, 0), (0, 2, 158, 0, 3, 3), (1, 6, 159, 0, 0, 0), (7, 0, 160, 447, 12, 61), (0, 0, 163, 0, 0, 0), (9, 0, 164, 0, 0, 0), (0, 2, 165, 0, 6, 4), (0, 5, 167, 0, 3, 3), (0, 8, 168, 1, 5, 0), (4, 12, 171, -154, 13, 0)]
def kX12_ring : List OP := [(0, 4, 0, 0, 0, 0), (0, 0, 1, 0, 0, 0), (7, 0, 2, 130, 12, 2), (0, 4, 5, 0, 0, 0), (0, 2, 6, 0, 1, 1), (8, 0, 7, 427, 210, 2), (4, 0, 10, 12, 12, 0), (0, 2, 13, 0, 2, 2), (0, 0, 14, 0, 0, 0), (0, 0, 15, 2, 0, 0), (8, 1, 16, 175, 165, 3), (4, 1, 19, 5, 14, 0), (0, 0, 22, -1, 0, 0), (9, 0, 23, 0, 0, 0), (0, 4, 24, 0, 0, 0), (8, 0, 25, 328, 207, 1), (0, 4, 28, 0, 0, 0), (0, 0, 29, 0, 0, 0), (0, 2, 30, 0, 1, 1), (8, 0, 31, 450, 239, 3), (0, 5, 34, 0, 3, 3), (0, 2, 35, 0, 2, 2), (4, 1, 36, 7, 25, 0), (0, 2, 39, 0, 3, 3), (4, 12, 40, 19, 33, 0), (0, 2, 43, 0, 2, 2), (0, 0, 44, 1, 0, 0), (4, 7, 45, 10, 31, 0), (0, 4, 48, 0, 0, 0), (6, 0, 49, 444, 12, 60), (4, 12, 52, 7, 33, 0), (0, 4, 55, 0, 0, 0), (6, 0, 56, 447, 12, 61), (9, 0, 59, 0, 0, 0)]
def kX12_turns : List OP := [(0, 2, 0, 0, 1, 1), (4, 2, 1, 24, 18, 0), (0, 4, 4, 0, 0, 0), (6, 2, 5, 85, 12, 46), (0, 0, 8, 6, 0, 1), (0, 2, 10, 0, 1, 1), (0, 0, 11, 6, 0, 1), (1, 9, 13, 0, 0, 0), (1, 0, 14, 0, 0, 0), (3, 1, 15, 0, 0, 0), (5, 0, 16, 0, 0, 0), (0, 0, 17, 1, 0, 0), (0, 2, 18, 0, 1, 1), (0, 0, 19, 6, 0, 1), (1, 10, 21, 0, 0, 0), (1, 6, 22, 0, 0, 0), (1, 5, 23, 0, 0, 0), (5, 4, 24, 0, 0, 0), (9, 4, 25, 0, 0, 0)]
def kX12_mayTurn : List OP := [(0, 4, 0, 0, 0, 0), (0, 2, 1, 0, 1, 1), (0, 0, 2, 6, 0, 1), (1, 9, 4, 0, 0, 0), (0, 2, 5, 0, 1, 1), (0, 0, 6, 6, 0, 1), (1, 10, 8, 0, 0, 0), (8, 0, 9, 430, 211, 3), (4, 0, 12, 27, 23, 0), (0, 4, 15, 0, 0, 0), (6, 2, 16, 85, 12, 46), (0, 2, 19, 0, 1, 1), (0, 0, 20, 6, 0, 1), (1, 9, 22, 0, 0, 0), (5, 0, 23, 0, 0, 0), (0, 2, 24, 0, 1, 1), (0, 0, 25, 6, 0, 1), (1, 10, 27, 0, 0, 0), (8, 1, 28, 231, 166, 2), (0, 2, 31, 0, 2, 2), (4, 7, 32, 7, 23, 0), (0, 0, 35, 1, 0, 0), (4, 12, 36, 4, 24, 0), (0, 0, 39, 0, 0, 0), (9, 1, 40, 0, 0, 0)]
def kX12_isSoBy : List OP := [(0, 4, 0, 0, 0, 0), (8, 0, 1, 438, 208, 1), (0, 4, 4, 0, 0, 0), (0, 2, 5, 0, 2, 2), (8, 0, 6, 453, 241, 2), (0, 4, 9, 0, 0, 0), (0, 2, 10, 0, 3, 3), (8, 0, 11, 453, 241, 2), (0, 2, 14, 0, 5, 4), (4, 1, 16, 19, 20, 0), (0, 4, 19, 0, 0, 0), (0, 0, 20, 1, 0, 0), (0, 2, 21, 0, 1, 1), (8, 0, 22, 450, 239, 3), (0, 0, 25, 1, 0, 0), (4, 6, 26, 7, 18, 0), (0, 0, 29, 1, 0, 0), (4, 12, 30, 4, 19, 0), (0, 0, 33, 0, 0, 0), (9, 1, 34, 0, 0, 0), (0, 4, 35, 0, 0, 0), (0, 2, 36, 0, 5, 4), (8, 0, 38, 441, 225, 2), (0, 4, 41, 0, 0, 0), (6, 2, 42, 88, 12, 47), (0, 0, 45, 2, 0, 0), (0, 2, 46, 0, 1, 1), (1, 0, 47, 0, 0, 0), (5, 0, 48, 0, 0, 0), (0, 2, 49, 0, 4, 4), (4, 7, 51, 7, 33, 0), (0, 0, 54, 1, 0, 0), (4, 12, 55, 4, 34, 0), (0, 0, 58, 0, 0, 0), (9, 1, 59, 0, 0, 0)]
def kX12_changes : List OP := [(0, 4, 0, 0, 0, 0), (0, 0, 1, 0, 0, 0), (7, 0, 2, 456, 12, 63), (0, 4, 5, 0, 0, 0), (0, 0, 6, -1, 0, 0), (7, 0, 7, 459, 12, 64), (0, 4, 10, 0, 0, 0), (0, 0, 11, -1, 0, 0), (7, 0, 12, 462, 12, 65), (0, 4, 15, 0, 0, 0), (0, 2, 16, 0, 1, 1), (0, 0, 17, -1, 0, 0), (0, 0, 18, -1, 0, 0), (0, 2, 19, 0, 2, 2), (0, 2, 20, 0, 3, 3), (8, 0, 21, 465, 243, 6), (4, 0, 24, 5, 19, 0), (0, 0, 27, 1, 0, 0), (9, 1, 28, 0, 0, 0), (0, 2, 29, 0, 3, 3), (4, 1, 30, 7, 23, 0), (0, 0, 33, 1, 0, 0), (4, 12, 34, 4, 24, 0), (0, 0, 37, 0, 0, 0), (0, 5, 38, 0, 4, 4), (0, 0, 40, 0, 0, 0), (0, 5, 41, 0, 5, 4), (0, 2, 43, 0, 5, 4), (0, 0, 45, 36, 0, 1), (4, 9, 47, 49, 54, 0), (0, 4, 50, 0, 0, 0), (0, 2, 51, 0, 5, 4), (0, 2, 53, 0, 4, 4), (8, 0, 55, 469, 242, 3), (4, 0, 58, 32, 52, 0), (0, 4, 61, 0, 0, 0), (0, 2, 62, 0, 1, 1), (0, 2, 63, 0, 5, 4), (0, 0, 65, -1, 0, 0), (0, 2, 66, 0, 2, 2), (0, 2, 67, 0, 3, 3), (8, 0, 68, 465, 243, 6), (4, 1, 71, 6, 44, 0), (4, 12, 74, 16, 52, 0), (0, 4, 77, 0, 0, 0), (0, 0, 78, 1, 0, 0), (7, 0, 79, 456, 12, 63), (0, 4, 82, 0, 0, 0), (0, 2, 83, 0, 5, 4), (7, 0, 85, 459, 12, 64), (0, 0, 88, 1, 0, 0), (9, 1, 89, 0, 0, 0), (0, 8, 90, 1, 5, 0), (4, 12, 93, -50, 27, 0), (0, 0, 96, 0, 0, 0), (0, 5, 97, 0, 5, 4), (0, 2, 99, 0, 5, 4), (0, 0, 101, 36, 0, 1), (4, 9, 103, 89, 101, 0), (0, 4, 106, 0, 0, 0), (0, 2, 107, 0, 5, 4), (0, 2, 109, 0, 4, 4), (8, 0, 111, 469, 242, 3), (4, 1, 114, 6, 65, 0), (4, 12, 117, 69, 99, 0), (0, 2, 120, 0, 5, 4), (0, 0, 122, 1, 0, 0), (1, 0, 123, 0, 0, 0), (0, 5, 124, 0, 6, 4), (0, 2, 126, 0, 6, 4), (0, 0, 128, 36, 0, 1), (4, 9, 130, 56, 99, 0), (0, 4, 133, 0, 0, 0), (0, 2, 134, 0, 6, 4), (0, 2, 136, 0, 4, 4), (8, 0, 138, 469, 242, 3), (4, 0, 141, 39, 97, 0), (0, 4, 144, 0, 0, 0), (0, 2, 145, 0, 1, 1), (0, 2, 146, 0, 5, 4), (0, 2, 148, 0, 6, 4), (0, 2, 150, 0, 2, 2), (0, 2, 151, 0, 3, 3), (8, 0, 152, 465, 243, 6), (4, 1, 155, 6, 86, 0), (4, 12, 158, 22, 97, 0), (0, 4, 161, 0, 0, 0), (0, 0, 162, 2, 0, 0), (7, 0, 163, 456, 12, 63), (0, 4, 166, 0, 0, 0), (0, 2, 167, 0, 5, 4), (7, 0, 169, 459, 12, 64), (0, 4, 172, 0, 0, 0), (0, 2, 173, 0, 6, 4), (7, 0, 175, 462, 12, 65), (0, 0, 178, 1, 0, 0), (9, 1, 179, 0, 0, 0), (0, 8, 180, 1, 6, 0), (4, 12, 183, -57, 69, 0), (0, 8, 186, 1, 5, 0), (4, 12, 189, -90, 56, 0), (0, 0, 192, 0, 0, 0), (9, 1, 193, 0, 0, 0)]
def kX12_changed : List OP := [(0, 2, 0, 0, 1, 1), (4, 1, 1, 8, 5, 0), (0, 4, 4, 0, 0, 0), (6, 0, 5, 456, 12, 63), (9, 0, 8, 0, 0, 0), (0, 2, 9, 0, 1, 1), (0, 0, 10, 1, 0, 0), (4, 7, 11, 10, 11, 0), (0, 4, 14, 0, 0, 0), (6, 0, 15, 459, 12, 64), (4, 12, 18, 7, 13, 0), (0, 4, 21, 0, 0, 0), (6, 0, 22, 462, 12, 65), (0, 5, 25, 0, 2, 2), (0, 2, 26, 0, 2, 2), (4, 3, 27, 8, 18, 0), (0, 0, 30, -2, 0, 1), (4, 12, 32, 15, 27, 0), (0, 0, 35, 10, 0, 1), (0, 2, 37, 0, 2, 2), (0, 0, 38, 6, 0, 1), (1, 9, 40, 0, 0, 0), (1, 2, 41, 0, 0, 0), (0, 2, 42, 0, 2, 2), (0, 0, 43, 6, 0, 1), (1, 10, 45, 0, 0, 0), (1, 0, 46, 0, 0, 0), (9, 0, 47, 0, 0, 0)]
def kX12_free : List OP := [(0, 4, 0, 0, 0, 0), (0, 0, 1, 0, 0, 0), (7, 0, 2, 130, 12, 2), (0, 4, 5, 0, 0, 0), (0, 2, 6, 0, 1, 1), (8, 0, 7, 427, 210, 2), (4, 0, 10, 12, 12, 0), (0, 2, 13, 0, 2, 2), (0, 0, 14, 0, 0, 0), (0, 0, 15, 2, 0, 0), (8, 1, 16, 175, 165, 3), (4, 1, 19, 5, 14, 0), (0, 0, 22, -1, 0, 0), (9, 0, 23, 0, 0, 0), (0, 4, 24, 0, 0, 0), (0, 2, 25, 0, 1, 1), (0, 0, 26, -1, 0, 0), (0, 0, 27, 0, 0, 0), (8, 0, 28, 473, 244, 4), (4, 0, 31, 11, 24, 0), (0, 4, 34, 0, 0, 0), (0, 2, 35, 0, 2, 2), (8, 0, 36, 476, 245, 2), (4, 12, 39, 5, 25, 0), (0, 0, 42, -2, 0, 1), (9, 0, 44, 0, 0, 0)]
def kX12_lead : List OP := [(0, 4, 0, 0, 0, 0), (0, 0, 1, 0, 0, 0), (7, 0, 2, 130, 12, 2), (0, 4, 5, 0, 0, 0), (0, 2, 6, 0, 1, 1), (8, 0, 7, 427, 210, 2), (4, 0, 10, 31, 21, 0), (0, 4, 13, 0, 0, 0), (0, 2, 14, 0, 2, 2), (8, 0, 15, 364, 209, 2), (4, 0, 18, 23, 21, 0), (0, 2, 21, 0, 3, 3), (0, 0, 22, 1, 0, 0), (0, 0, 23, 20, 0, 1), (8, 1, 25, 175, 165, 3), (4, 0, 28, 13, 21, 0), (0, 2, 31, 0, 4, 4), (0, 0, 33, 0, 0, 0), (0, 0, 34, 2, 0, 0), (8, 1, 35, 175, 165, 3), (4, 1, 38, 5, 23, 0), (0, 0, 41, -1, 0, 0), (9, 0, 42, 0, 0, 0), (0, 4, 43, 0, 0, 0), (0, 2, 44, 0, 1, 1), (0, 2, 45, 0, 2, 2), (0, 2, 46, 0, 3, 3), (8, 0, 47, 473, 244, 4), (4, 0, 50, 12, 33, 0), (0, 4, 53, 0, 0, 0), (0, 2, 54, 0, 4, 4), (8, 0, 56, 476, 245, 2), (4, 12, 59, 5, 34, 0), (0, 0, 62, -2, 0, 1), (9, 0, 64, 0, 0, 0)]
def kX12_rowsOf : List OP := [(0, 0, 0, 1, 0, 0), (0, 5, 1, 0, 1, 1), (0, 0, 2, 2, 0, 0), (0, 5, 3, 0, 2, 2), (0, 2, 4, 0, 2, 2), (0, 2, 5, 0, 0, 0), (4, 10, 6, 13, 13, 0), (0, 2, 9, 0, 1, 1), (0, 2, 10, 0, 2, 2), (1, 2, 11, 0, 0, 0), (0, 5, 12, 0, 1, 1), (0, 8, 13, 1, 2, 0), (4, 12, 16, -12, 4, 0), (0, 2, 19, 0, 1, 1), (9, 0, 20, 0, 0, 0)]
def kX12_layRow : List OP := [(0, 2, 0, 0, 3, 3), (0, 5, 1, 0, 4, 4), (0, 2, 3, 0, 1, 1), (0, 5, 4, 0, 5, 4), (0, 0, 6, 0, 0, 0), (0, 5, 7, 0, 6, 4), (0, 2, 9, 0, 6, 4), (0, 2, 11, 0, 2, 2), (4, 9, 12, 96, 57, 0), (0, 2, 15, 0, 2, 2), (0, 0, 16, 1, 0, 0), (1, 1, 17, 0, 0, 0), (0, 2, 18, 0, 6, 4), (1, 1, 20, 0, 0, 0), (8, 1, 21, 479, 248, 1), (0, 5, 24, 0, 7, 4), (0, 2, 26, 0, 5, 4), (0, 2, 28, 0, 7, 4), (1, 9, 30, 0, 0, 0), (0, 5, 31, 0, 8, 4), (0, 2, 33, 0, 5, 4), (0, 2, 35, 0, 7, 4), (1, 10, 37, 0, 0, 0), (0, 5, 38, 0, 5, 4), (0, 0, 40, 0, 0, 0), (0, 5, 41, 0, 9, 4), (0, 2, 43, 0, 4, 4), (0, 2, 45, 0, 9, 4), (8, 1, 47, 231, 166, 2), (4, 1, 50, 8, 32, 0), (0, 2, 53, 0, 8, 4), (4, 5, 55, 29, 44, 0), (0, 2, 58, 0, 8, 4), (0, 2, 60, 0, 4, 4), (0, 2, 62, 0, 9, 4), (8, 1, 64, 231, 166, 2), (4, 0, 67, 7, 39, 0), (0, 0, 70, 0, 0, 0), (4, 12, 71, 4, 40, 0), (0, 0, 74, 1, 0, 0), (1, 1, 75, 0, 0, 0), (0, 5, 76, 0, 8, 4), (0, 8, 78, 1, 9, 0), (4, 12, 81, -38, 26, 0), (0, 4, 84, 0, 0, 0), (6, 2, 85, 103, 12, 66), (0, 2, 88, 0, 6, 4), (0, 2, 90, 0, 9, 4), (5, 4, 92, 0, 0, 0), (0, 2, 93, 0, 4, 4), (0, 0, 95, 1, 0, 0), (0, 2, 96, 0, 9, 4), (1, 6, 98, 0, 0, 0), (1, 4, 99, 0, 0, 0), (0, 5, 100, 0, 4, 4), (0, 8, 102, 1, 6, 0), (4, 12, 105, -96, 6, 0), (9, 4, 108, 0, 0, 0)]
def kX12_walk : List OP := [(0, 4, 0, 0, 0, 0), (0, 0, 1, 0, 0, 0), (7, 0, 2, 130, 12, 2), (0, 4, 5, 0, 0, 0), (0, 2, 6, 0, 1, 1), (8, 0, 7, 427, 210, 2), (4, 0, 10, 12, 12, 0), (0, 2, 13, 0, 2, 2), (0, 0, 14, 0, 0, 0), (0, 0, 15, 5, 0, 0), (8, 1, 16, 175, 165, 3), (4, 1, 19, 5, 14, 0), (0, 0, 22, -1, 0, 0), (9, 0, 23, 0, 0, 0), (0, 4, 24, 0, 0, 0), (6, 0, 25, 204, 12, 12), (0, 0, 28, 1, 0, 0), (1, 1, 29, 0, 0, 0), (0, 5, 30, 0, 3, 3), (0, 2, 31, 0, 2, 2), (0, 0, 32, 5, 0, 0), (4, 9, 33, 11, 27, 0), (0, 2, 36, 0, 2, 2), (0, 2, 37, 0, 3, 3), (4, 8, 38, 6, 27, 0), (0, 0, 41, -2, 0, 1), (9, 0, 43, 0, 0, 0), (0, 4, 44, 0, 0, 0), (6, 2, 45, 88, 12, 47), (0, 2, 48, 0, 1, 1), (5, 0, 49, 0, 0, 0), (0, 5, 50, 0, 4, 4), (0, 0, 52, -1, 0, 0), (0, 5, 53, 0, 5, 4), (0, 0, 55, 0, 0, 0), (0, 5, 56, 0, 6, 4), (0, 0, 58, 0, 0, 0), (0, 5, 59, 0, 7, 4), (0, 2, 61, 0, 7, 4), (0, 2, 63, 0, 3, 3), (8, 1, 64, 479, 248, 1), (4, 9, 67, 106, 95, 0), (0, 4, 70, 0, 0, 0), (0, 2, 71, 0, 7, 4), (0, 2, 73, 0, 3, 3), (0, 0, 74, 1, 0, 0), (0, 2, 75, 0, 4, 4), (1, 6, 77, 0, 0, 0), (8, 0, 78, 482, 249, 4), (0, 0, 81, 0, 0, 0), (0, 5, 82, 0, 8, 4), (0, 4, 84, 0, 0, 0), (6, 2, 85, 39, 12, 24), (0, 2, 88, 0, 4, 4), (5, 0, 90, 0, 0, 0), (0, 5, 91, 0, 9, 4), (0, 0, 93, 0, 0, 0), (0, 5, 94, 0, 10, 4), (0, 2, 96, 0, 10, 4), (0, 2, 98, 0, 3, 3), (4, 9, 99, 45, 83, 0), (0, 2, 102, 0, 8, 4), (0, 2, 104, 0, 9, 4), (0, 4, 106, 0, 0, 0), (6, 2, 107, 39, 12, 24), (0, 4, 110, 0, 0, 0), (6, 2, 111, 103, 12, 66), (0, 2, 114, 0, 10, 4), (5, 0, 116, 0, 0, 0), (5, 0, 117, 0, 0, 0), (8, 1, 118, 370, 212, 2), (1, 0, 121, 0, 0, 0), (0, 5, 122, 0, 8, 4), (0, 4, 124, 0, 0, 0), (6, 2, 125, 39, 12, 24), (0, 4, 128, 0, 0, 0), (6, 2, 129, 103, 12, 66), (0, 2, 132, 0, 10, 4), (5, 0, 134, 0, 0, 0), (5, 0, 135, 0, 0, 0), (0, 5, 136, 0, 9, 4), (0, 8, 138, 1, 10, 0), (4, 12, 141, -45, 58, 0), (0, 2, 144, 0, 5, 4), (4, 2, 146, 13, 89, 0), (0, 2, 149, 0, 8, 4), (0, 2, 151, 0, 6, 4), (4, 8, 153, 6, 89, 0), (4, 12, 156, 11, 93, 0), (0, 2, 159, 0, 7, 4), (0, 5, 161, 0, 5, 4), (0, 2, 163, 0, 8, 4), (0, 5, 165, 0, 6, 4), (0, 8, 167, 1, 7, 0), (4, 12, 170, -109, 38, 0), (0, 4, 173, 0, 0, 0), (0, 2, 174, 0, 5, 4), (0, 2, 176, 0, 3, 3), (0, 0, 177, 1, 0, 0), (0, 2, 178, 0, 4, 4), (1, 6, 180, 0, 0, 0), (8, 0, 181, 482, 249, 4), (0, 2, 184, 0, 2, 2), (0, 0, 185, 5, 0, 0), (4, 7, 186, 8, 107, 0), (0, 2, 189, 0, 6, 4), (4, 12, 191, 9, 111, 0), (0, 4, 194, 0, 0, 0), (6, 2, 195, 103, 12, 66), (0, 2, 198, 0, 2, 2), (5, 0, 199, 0, 0, 0), (9, 0, 200, 0, 0, 0)]
def kX12_meet : List OP := [(0, 4, 0, 0, 0, 0), (0, 0, 1, 0, 0, 0), (7, 0, 2, 130, 12, 2), (0, 4, 5, 0, 0, 0), (6, 0, 6, 207, 12, 13), (0, 0, 9, 2, 0, 0), (4, 9, 10, 5, 9, 0), (0, 0, 13, -1, 0, 0), (9, 0, 14, 0, 0, 0), (0, 4, 15, 0, 0, 0), (8, 0, 16, 438, 208, 1), (0, 0, 19, 0, 0, 0), (0, 5, 20, 0, 1, 1), (0, 2, 21, 0, 1, 1), (0, 0, 22, 99, 0, 1), (4, 10, 24, 31, 32, 0), (0, 4, 27, 0, 0, 0), (6, 2, 28, 88, 12, 47), (0, 0, 31, 2, 0, 0), (5, 0, 32, 0, 0, 0), (0, 4, 33, 0, 0, 0), (6, 2, 34, 88, 12, 47), (0, 0, 37, 3, 0, 0), (5, 0, 38, 0, 0, 0), (4, 7, 39, 5, 27, 0), (0, 2, 42, 0, 1, 1), (9, 0, 43, 0, 0, 0), (0, 4, 44, 0, 0, 0), (0, 0, 45, 1, 0, 0), (8, 0, 46, 418, 224, 2), (0, 8, 49, 1, 1, 0), (4, 12, 52, -31, 13, 0), (0, 0, 55, -2, 0, 1), (9, 0, 57, 0, 0, 0)]
def kX12_reach : List OP := [(0, 4, 0, 0, 0, 0), (0, 0, 1, 0, 0, 0), (7, 0, 2, 130, 12, 2), (0, 4, 5, 0, 0, 0), (0, 2, 6, 0, 1, 1), (8, 0, 7, 364, 209, 2), (4, 1, 10, 5, 9, 0), (0, 0, 13, -1, 0, 0), (9, 0, 14, 0, 0, 0), (0, 0, 15, 1, 0, 0), (0, 2, 16, 0, 1, 1), (1, 6, 17, 0, 0, 0), (0, 5, 18, 0, 2, 2), (0, 0, 19, 0, 0, 0), (0, 5, 20, 0, 3, 3), (0, 2, 21, 0, 3, 3), (0, 0, 22, 6, 0, 1), (4, 9, 24, 50, 41, 0), (0, 0, 27, 0, 0, 0), (0, 5, 28, 0, 4, 4), (0, 2, 30, 0, 4, 4), (0, 4, 32, 0, 0, 0), (6, 0, 33, 204, 12, 12), (4, 9, 36, 32, 39, 0), (0, 2, 39, 0, 2, 2), (0, 2, 40, 0, 2, 2), (0, 2, 41, 0, 4, 4), (8, 1, 43, 231, 166, 2), (4, 0, 46, 13, 34, 0), (0, 4, 49, 0, 0, 0), (6, 2, 50, 85, 12, 46), (0, 2, 53, 0, 4, 4), (5, 0, 55, 0, 0, 0), (4, 12, 56, 4, 35, 0), (0, 0, 59, 0, 0, 0), (1, 4, 60, 0, 0, 0), (0, 5, 61, 0, 2, 2), (0, 8, 62, 1, 4, 0), (4, 12, 65, -35, 20, 0), (0, 8, 68, 1, 3, 0), (4, 12, 71, -50, 15, 0), (0, 2, 74, 0, 2, 2), (9, 0, 75, 0, 0, 0)]
def kX12_deserves : List OP := [(0, 4, 0, 0, 0, 0), (0, 0, 1, 0, 0, 0), (7, 0, 2, 130, 12, 2), (0, 0, 5, -1, 0, 0), (0, 5, 6, 0, 1, 1), (0, 0, 7, 0, 0, 0), (0, 5, 8, 0, 2, 2), (0, 2, 9, 0, 2, 2), (0, 4, 10, 0, 0, 0), (6, 0, 11, 204, 12, 12), (4, 9, 14, 34, 28, 0), (0, 2, 17, 0, 1, 1), (4, 2, 18, 18, 22, 0), (0, 4, 21, 0, 0, 0), (6, 2, 22, 79, 12, 44), (0, 2, 25, 0, 2, 2), (5, 0, 26, 0, 0, 0), (0, 4, 27, 0, 0, 0), (6, 2, 28, 79, 12, 44), (0, 2, 31, 0, 1, 1), (5, 0, 32, 0, 0, 0), (4, 11, 33, 7, 24, 0), (0, 2, 36, 0, 2, 2), (4, 12, 37, 4, 25, 0), (0, 2, 40, 0, 1, 1), (0, 5, 41, 0, 1, 1), (0, 8, 42, 1, 2, 0), (4, 12, 45, -36, 7, 0), (0, 2, 48, 0, 1, 1), (9, 0, 49, 0, 0, 0)]
def kX12_wayBy : List OP := [(0, 2, 0, 0, 1, 1), (0, 5, 1, 0, 3, 3), (0, 2, 2, 0, 1, 1), (0, 5, 3, 0, 4, 4), (0, 0, 5, 0, 0, 0), (0, 5, 6, 0, 5, 4), (0, 2, 8, 0, 5, 4), (0, 4, 10, 0, 0, 0), (6, 0, 11, 204, 12, 12), (4, 9, 14, 70, 43, 0), (0, 2, 17, 0, 2, 2), (0, 2, 18, 0, 5, 4), (8, 1, 20, 231, 166, 2), (4, 1, 23, 6, 15, 0), (4, 12, 26, 52, 41, 0), (0, 4, 29, 0, 0, 0), (6, 2, 30, 39, 12, 24), (0, 2, 33, 0, 5, 4), (5, 0, 35, 0, 0, 0), (0, 2, 36, 0, 3, 3), (4, 9, 37, 13, 26, 0), (0, 4, 40, 0, 0, 0), (6, 2, 41, 39, 12, 24), (0, 2, 44, 0, 5, 4), (5, 0, 46, 0, 0, 0), (4, 12, 47, 4, 27, 0), (0, 2, 50, 0, 3, 3), (0, 5, 51, 0, 3, 3), (0, 4, 52, 0, 0, 0), (6, 2, 53, 39, 12, 24), (0, 2, 56, 0, 5, 4), (5, 0, 58, 0, 0, 0), (0, 2, 59, 0, 4, 4), (4, 11, 61, 13, 39, 0), (0, 4, 64, 0, 0, 0), (6, 2, 65, 39, 12, 24), (0, 2, 68, 0, 5, 4), (5, 0, 70, 0, 0, 0), (4, 12, 71, 5, 40, 0), (0, 2, 74, 0, 4, 4), (0, 5, 76, 0, 4, 4), (0, 8, 78, 1, 5, 0), (4, 12, 81, -73, 6, 0), (0, 2, 84, 0, 1, 1), (0, 2, 85, 0, 3, 3), (1, 1, 86, 0, 0, 0), (0, 5, 87, 0, 5, 4), (0, 2, 89, 0, 4, 4), (0, 2, 91, 0, 1, 1), (1, 1, 92, 0, 0, 0), (0, 5, 93, 0, 6, 4), (0, 2, 95, 0, 5, 4), (0, 2, 97, 0, 6, 4), (4, 9, 99, 13, 60, 0), (0, 0, 102, 2, 0, 0), (0, 2, 103, 0, 5, 4), (1, 2, 105, 0, 0, 0), (0, 2, 106, 0, 6, 4), (1, 0, 108, 0, 0, 0), (4, 12, 109, 10, 65, 0), (0, 2, 112, 0, 5, 4), (0, 0, 114, 2, 0, 0), (0, 2, 115, 0, 6, 4), (1, 2, 117, 0, 0, 0), (1, 0, 118, 0, 0, 0), (9, 0, 119, 0, 0, 0)]
def kX12_visit : List OP := [(0, 4, 0, 0, 0, 0), (0, 0, 1, 0, 0, 0), (7, 0, 2, 130, 12, 2), (0, 4, 5, 0, 0, 0), (0, 2, 6, 0, 1, 1), (8, 0, 7, 364, 209, 2), (4, 0, 10, 23, 17, 0), (0, 2, 13, 0, 2, 2), (0, 0, 14, 0, 0, 0), (0, 0, 15, 999, 0, 2), (8, 1, 18, 175, 165, 3), (4, 0, 21, 12, 17, 0), (0, 2, 24, 0, 3, 3), (0, 0, 25, 0, 0, 0), (0, 0, 26, 1, 0, 0), (8, 1, 27, 175, 165, 3), (4, 1, 30, 5, 19, 0), (0, 0, 33, -1, 0, 0), (9, 0, 34, 0, 0, 0), (0, 0, 35, 0, 0, 0), (0, 5, 36, 0, 4, 4), (0, 0, 38, 0, 0, 0), (0, 5, 39, 0, 5, 4), (0, 0, 41, 1, 0, 0), (0, 5, 42, 0, 6, 4), (0, 2, 44, 0, 6, 4), (0, 0, 46, 1, 0, 0), (0, 4, 47, 0, 0, 0), (6, 0, 48, 204, 12, 12), (1, 6, 51, 0, 0, 0), (4, 9, 52, 102, 78, 0), (0, 2, 55, 0, 6, 4), (0, 2, 57, 0, 1, 1), (8, 1, 58, 231, 166, 2), (4, 1, 61, 87, 76, 0), (0, 4, 64, 0, 0, 0), (0, 4, 65, 0, 0, 0), (6, 2, 66, 39, 12, 24), (0, 2, 69, 0, 1, 1), (5, 0, 70, 0, 0, 0), (0, 2, 71, 0, 6, 4), (8, 0, 73, 485, 254, 3), (0, 2, 76, 0, 2, 2), (4, 11, 77, 6, 45, 0), (4, 12, 80, 68, 76, 0), (0, 0, 83, 0, 0, 0), (0, 5, 84, 0, 7, 4), (0, 0, 86, 0, 0, 0), (0, 5, 87, 0, 8, 4), (0, 2, 89, 0, 8, 4), (0, 4, 91, 0, 0, 0), (6, 0, 92, 204, 12, 12), (4, 9, 95, 35, 68, 0), (0, 2, 98, 0, 7, 4), (0, 2, 100, 0, 6, 4), (0, 2, 102, 0, 8, 4), (8, 1, 104, 231, 166, 2), (4, 0, 107, 13, 63, 0), (0, 4, 110, 0, 0, 0), (6, 2, 111, 79, 12, 44), (0, 2, 114, 0, 8, 4), (5, 0, 116, 0, 0, 0), (4, 12, 117, 4, 64, 0), (0, 0, 120, 0, 0, 0), (1, 0, 121, 0, 0, 0), (0, 5, 122, 0, 7, 4), (0, 8, 124, 1, 8, 0), (4, 12, 127, -38, 49, 0), (0, 2, 130, 0, 7, 4), (0, 2, 132, 0, 5, 4), (4, 10, 134, 6, 72, 0), (4, 12, 137, 11, 76, 0), (0, 2, 140, 0, 6, 4), (0, 5, 142, 0, 4, 4), (0, 2, 144, 0, 7, 4), (0, 5, 146, 0, 5, 4), (0, 8, 148, 1, 6, 0), (4, 12, 151, -107, 25, 0), (0, 2, 154, 0, 3, 3), (4, 1, 155, 8, 82, 0), (0, 2, 158, 0, 4, 4), (4, 12, 160, 5, 83, 0), (0, 2, 163, 0, 5, 4), (9, 0, 165, 0, 0, 0)]
def kX12_hosts : List OP := [(0, 4, 0, 0, 0, 0), (0, 0, 1, 0, 0, 0), (7, 0, 2, 130, 12, 2), (0, 4, 5, 0, 0, 0), (0, 2, 6, 0, 1, 1), (8, 0, 7, 427, 210, 2), (4, 0, 10, 13, 12, 0), (0, 2, 13, 0, 2, 2), (0, 0, 14, 0, 0, 0), (0, 0, 15, 99, 0, 1), (8, 1, 17, 175, 165, 3), (4, 1, 20, 5, 14, 0), (0, 0, 23, -1, 0, 0), (9, 0, 24, 0, 0, 0), (0, 4, 25, 0, 0, 0), (8, 0, 26, 438, 208, 1), (0, 0, 29, 1, 0, 0), (0, 4, 30, 0, 0, 0), (6, 2, 31, 88, 12, 47), (0, 0, 34, 2, 0, 0), (0, 2, 35, 0, 1, 1), (1, 0, 36, 0, 0, 0), (5, 0, 37, 0, 0, 0), (1, 6, 38, 0, 0, 0), (0, 5, 39, 0, 3, 3), (0, 0, 40, 0, 0, 0), (0, 5, 41, 0, 4, 4), (0, 2, 43, 0, 4, 4), (0, 2, 45, 0, 2, 2), (4, 9, 46, 27, 46, 0), (0, 4, 49, 0, 0, 0), (0, 0, 50, 1, 0, 0), (8, 0, 51, 418, 224, 2), (0, 2, 54, 0, 3, 3), (0, 0, 55, 1, 0, 0), (0, 4, 56, 0, 0, 0), (6, 2, 57, 88, 12, 47), (0, 0, 60, 2, 0, 0), (0, 2, 61, 0, 1, 1), (1, 0, 62, 0, 0, 0), (5, 0, 63, 0, 0, 0), (1, 6, 64, 0, 0, 0), (1, 4, 65, 0, 0, 0), (0, 5, 66, 0, 3, 3), (0, 8, 67, 1, 4, 0), (4, 12, 70, -27, 27, 0), (0, 2, 73, 0, 3, 3), (9, 0, 74, 0, 0, 0)]
def kX12_rank : List OP := [(0, 4, 0, 0, 0, 0), (0, 0, 1, 0, 0, 0), (7, 0, 2, 130, 12, 2), (0, 4, 5, 0, 0, 0), (0, 2, 6, 0, 1, 1), (8, 0, 7, 364, 209, 2), (4, 1, 10, 5, 9, 0), (0, 0, 13, -1, 0, 0), (9, 0, 14, 0, 0, 0), (0, 0, 15, 0, 0, 0), (0, 5, 16, 0, 2, 2), (0, 0, 17, 0, 0, 0), (0, 5, 18, 0, 3, 3), (0, 2, 19, 0, 3, 3), (0, 4, 20, 0, 0, 0), (6, 0, 21, 204, 12, 12), (4, 9, 24, 52, 46, 0), (0, 2, 27, 0, 2, 2), (0, 4, 28, 0, 0, 0), (6, 2, 29, 79, 12, 44), (0, 2, 32, 0, 3, 3), (5, 0, 33, 0, 0, 0), (0, 4, 34, 0, 0, 0), (6, 2, 35, 79, 12, 44), (0, 2, 38, 0, 1, 1), (5, 0, 39, 0, 0, 0), (4, 10, 40, 23, 39, 0), (0, 4, 43, 0, 0, 0), (6, 2, 44, 79, 12, 44), (0, 2, 47, 0, 3, 3), (5, 0, 48, 0, 0, 0), (0, 4, 49, 0, 0, 0), (6, 2, 50, 79, 12, 44), (0, 2, 53, 0, 1, 1), (5, 0, 54, 0, 0, 0), (4, 7, 55, 12, 41, 0), (0, 2, 58, 0, 3, 3), (0, 2, 59, 0, 1, 1), (4, 9, 60, 7, 41, 0), (0, 0, 63, 1, 0, 0), (4, 12, 64, 4, 42, 0), (0, 0, 67, 0, 0, 0), (1, 0, 68, 0, 0, 0), (0, 5, 69, 0, 2, 2), (0, 8, 70, 1, 3, 0), (4, 12, 73, -54, 13, 0), (0, 2, 76, 0, 2, 2), (9, 0, 77, 0, 0, 0)]
def kX12_keepers : List OP := [(0, 4, 0, 0, 0, 0), (0, 0, 1, 0, 0, 0), (7, 0, 2, 130, 12, 2), (0, 4, 5, 0, 0, 0), (8, 0, 6, 328, 207, 1), (0, 0, 9, 0, 0, 0), (0, 5, 10, 0, 1, 1), (0, 0, 11, 0, 0, 0), (0, 5, 12, 0, 2, 2), (0, 2, 13, 0, 2, 2), (0, 4, 14, 0, 0, 0), (6, 0, 15, 204, 12, 12), (4, 9, 18, 38, 34, 0), (0, 2, 21, 0, 1, 1), (0, 4, 22, 0, 0, 0), (6, 2, 23, 85, 12, 46), (0, 2, 26, 0, 2, 2), (5, 0, 27, 0, 0, 0), (4, 0, 28, 13, 25, 0), (0, 4, 31, 0, 0, 0), (0, 0, 32, 0, 0, 0), (0, 2, 33, 0, 2, 2), (0, 0, 34, 0, 0, 0), (8, 0, 35, 412, 220, 4), (4, 1, 38, 9, 29, 0), (0, 0, 41, 1, 0, 0), (0, 2, 42, 0, 2, 2), (1, 6, 43, 0, 0, 0), (4, 12, 44, 4, 30, 0), (0, 0, 47, 0, 0, 0), (1, 4, 48, 0, 0, 0), (0, 5, 49, 0, 1, 1), (0, 8, 50, 1, 2, 0), (4, 12, 53, -40, 9, 0), (0, 2, 56, 0, 1, 1), (9, 0, 57, 0, 0, 0)]
def kX12_comesTo : List OP := [(0, 4, 0, 0, 0, 0), (0, 0, 1, 0, 0, 0), (7, 0, 2, 130, 12, 2), (0, 4, 5, 0, 0, 0), (0, 2, 6, 0, 1, 1), (8, 0, 7, 427, 210, 2), (4, 0, 10, 11, 11, 0), (0, 4, 13, 0, 0, 0), (0, 2, 14, 0, 2, 2), (8, 0, 15, 364, 209, 2), (4, 1, 18, 5, 13, 0), (0, 0, 21, -1, 0, 0), (9, 0, 22, 0, 0, 0), (0, 4, 23, 0, 0, 0), (8, 0, 24, 438, 208, 1), (0, 0, 27, 0, 0, 0), (0, 5, 28, 0, 3, 3), (0, 2, 29, 0, 3, 3), (0, 0, 30, 99, 0, 1), (4, 10, 32, 28, 35, 0), (0, 4, 35, 0, 0, 0), (6, 2, 36, 88, 12, 47), (0, 0, 39, 2, 0, 0), (0, 2, 40, 0, 1, 1), (1, 0, 41, 0, 0, 0), (5, 0, 42, 0, 0, 0), (0, 2, 43, 0, 2, 2), (4, 7, 44, 5, 30, 0), (0, 2, 47, 0, 3, 3), (9, 0, 48, 0, 0, 0), (0, 4, 49, 0, 0, 0), (0, 0, 50, 1, 0, 0), (8, 0, 51, 418, 224, 2), (0, 8, 54, 1, 3, 0), (4, 12, 57, -28, 17, 0), (0, 0, 60, -2, 0, 1), (9, 0, 62, 0, 0, 0)]
def kX12_popular : List OP := [(0, 4, 0, 0, 0, 0), (0, 0, 1, 0, 0, 0), (7, 0, 2, 130, 12, 2), (0, 0, 5, -2, 0, 1), (0, 5, 7, 0, 1, 1), (0, 0, 8, 0, 0, 0), (0, 5, 9, 0, 2, 2), (0, 0, 10, 0, 0, 0), (0, 5, 11, 0, 3, 3), (0, 2, 12, 0, 3, 3), (0, 4, 13, 0, 0, 0), (6, 0, 14, 204, 12, 12), (4, 9, 17, 60, 44, 0), (0, 0, 20, 0, 0, 0), (0, 5, 21, 0, 4, 4), (0, 0, 23, 0, 0, 0), (0, 5, 24, 0, 5, 4), (0, 2, 26, 0, 5, 4), (0, 4, 28, 0, 0, 0), (6, 0, 29, 204, 12, 12), (4, 9, 32, 25, 34, 0), (0, 2, 35, 0, 4, 4), (0, 4, 37, 0, 0, 0), (6, 2, 38, 85, 12, 46), (0, 2, 41, 0, 5, 4), (5, 0, 43, 0, 0, 0), (0, 2, 44, 0, 3, 3), (1, 7, 45, 0, 0, 0), (0, 0, 46, 1, 0, 0), (1, 3, 47, 0, 0, 0), (1, 0, 48, 0, 0, 0), (0, 5, 49, 0, 4, 4), (0, 8, 51, 1, 5, 0), (4, 12, 54, -28, 17, 0), (0, 2, 57, 0, 4, 4), (0, 2, 59, 0, 2, 2), (4, 10, 60, 6, 38, 0), (4, 12, 63, 8, 42, 0), (0, 2, 66, 0, 3, 3), (0, 5, 67, 0, 1, 1), (0, 2, 68, 0, 4, 4), (0, 5, 70, 0, 2, 2), (0, 8, 71, 1, 3, 0), (4, 12, 74, -62, 9, 0), (0, 2, 77, 0, 1, 1), (9, 0, 78, 0, 0, 0)]
def kX12_mutual : List OP := [(0, 4, 0, 0, 0, 0), (0, 0, 1, 0, 0, 0), (7, 0, 2, 130, 12, 2), (0, 0, 5, 0, 0, 0), (0, 5, 6, 0, 1, 1), (0, 0, 7, 0, 0, 0), (0, 5, 8, 0, 2, 2), (0, 2, 9, 0, 2, 2), (0, 4, 10, 0, 0, 0), (6, 0, 11, 204, 12, 12), (4, 9, 14, 61, 43, 0), (0, 2, 17, 0, 2, 2), (0, 0, 18, 1, 0, 0), (1, 0, 19, 0, 0, 0), (0, 5, 20, 0, 3, 3), (0, 2, 21, 0, 3, 3), (0, 4, 22, 0, 0, 0), (6, 0, 23, 204, 12, 12), (4, 9, 26, 43, 41, 0), (0, 2, 29, 0, 1, 1), (0, 4, 30, 0, 0, 0), (6, 2, 31, 85, 12, 46), (0, 2, 34, 0, 2, 2), (5, 0, 35, 0, 0, 0), (0, 2, 36, 0, 3, 3), (8, 1, 37, 231, 166, 2), (4, 0, 40, 20, 36, 0), (0, 4, 43, 0, 0, 0), (6, 2, 44, 85, 12, 46), (0, 2, 47, 0, 3, 3), (5, 0, 48, 0, 0, 0), (0, 2, 49, 0, 2, 2), (8, 1, 50, 231, 166, 2), (4, 0, 53, 7, 36, 0), (0, 0, 56, 1, 0, 0), (4, 12, 57, 4, 37, 0), (0, 0, 60, 0, 0, 0), (1, 0, 61, 0, 0, 0), (0, 5, 62, 0, 1, 1), (0, 8, 63, 1, 3, 0), (4, 12, 66, -45, 15, 0), (0, 8, 69, 1, 2, 0), (4, 12, 72, -63, 7, 0), (0, 2, 75, 0, 1, 1), (9, 0, 76, 0, 0, 0)]
def kX12_lonely : List OP := [(0, 4, 0, 0, 0, 0), (0, 0, 1, 0, 0, 0), (7, 0, 2, 130, 12, 2), (0, 0, 5, 0, 0, 0), (0, 5, 6, 0, 1, 1), (0, 0, 7, 0, 0, 0), (0, 5, 8, 0, 2, 2), (0, 2, 9, 0, 2, 2), (0, 4, 10, 0, 0, 0), (6, 0, 11, 204, 12, 12), (4, 9, 14, 28, 26, 0), (0, 2, 17, 0, 1, 1), (0, 4, 18, 0, 0, 0), (6, 2, 19, 85, 12, 46), (0, 2, 22, 0, 2, 2), (5, 0, 23, 0, 0, 0), (4, 1, 24, 9, 21, 0), (0, 0, 27, 1, 0, 0), (0, 2, 28, 0, 2, 2), (1, 6, 29, 0, 0, 0), (4, 12, 30, 4, 22, 0), (0, 0, 33, 0, 0, 0), (1, 4, 34, 0, 0, 0), (0, 5, 35, 0, 1, 1), (0, 8, 36, 1, 2, 0), (4, 12, 39, -30, 7, 0), (0, 2, 42, 0, 1, 1), (9, 0, 43, 0, 0, 0)]
def kX12_hasBy : List OP := [(0, 2, 0, 0, 3, 3), (0, 0, 1, 1, 0, 0), (4, 7, 2, 22, 15, 0), (0, 2, 5, 0, 4, 4), (0, 0, 7, 1, 0, 0), (4, 7, 8, 14, 13, 0), (0, 4, 11, 0, 0, 0), (6, 2, 12, 79, 12, 44), (0, 2, 15, 0, 2, 2), (5, 0, 16, 0, 0, 0), (0, 0, 17, 2, 0, 0), (1, 9, 18, 0, 0, 0), (4, 12, 19, 4, 14, 0), (0, 0, 22, 0, 0, 0), (9, 0, 23, 0, 0, 0), (0, 2, 24, 0, 4, 4), (0, 0, 26, 1, 0, 0), (4, 7, 27, 21, 30, 0), (0, 4, 30, 0, 0, 0), (6, 2, 31, 79, 12, 44), (0, 2, 34, 0, 1, 1), (5, 0, 35, 0, 0, 0), (0, 0, 36, 5, 0, 0), (0, 4, 37, 0, 0, 0), (6, 2, 38, 36, 12, 23), (0, 2, 41, 0, 2, 2), (5, 0, 42, 0, 0, 0), (1, 2, 43, 0, 0, 0), (1, 1, 44, 0, 0, 0), (4, 12, 45, 11, 36, 0), (0, 4, 48, 0, 0, 0), (6, 2, 49, 79, 12, 44), (0, 2, 52, 0, 1, 1), (5, 0, 53, 0, 0, 0), (0, 0, 54, 4, 0, 0), (1, 9, 55, 0, 0, 0), (9, 0, 56, 0, 0, 0)]
def kX12_restAt : List OP := [(0, 0, 0, 0, 0, 0), (0, 5, 1, 0, 4, 4), (0, 0, 3, 0, 0, 0), (0, 5, 4, 0, 5, 4), (0, 2, 6, 0, 5, 4), (0, 0, 8, 4, 0, 0), (4, 9, 9, 92, 58, 0), (0, 2, 12, 0, 5, 4), (0, 0, 14, 2, 0, 0), (1, 9, 15, 0, 0, 0), (0, 5, 16, 0, 6, 4), (0, 2, 18, 0, 5, 4), (0, 0, 20, 2, 0, 0), (1, 10, 21, 0, 0, 0), (0, 5, 22, 0, 7, 4), (0, 4, 24, 0, 0, 0), (0, 2, 25, 0, 1, 1), (0, 2, 26, 0, 2, 2), (0, 0, 27, 1, 0, 0), (0, 2, 28, 0, 6, 4), (1, 1, 30, 0, 0, 0), (0, 2, 31, 0, 7, 4), (8, 0, 33, 488, 263, 5), (0, 4, 36, 0, 0, 0), (0, 2, 37, 0, 1, 1), (0, 2, 38, 0, 2, 2), (0, 2, 39, 0, 6, 4), (0, 2, 41, 0, 7, 4), (8, 0, 43, 488, 263, 5), (4, 10, 46, 49, 56, 0), (0, 4, 49, 0, 0, 0), (0, 2, 50, 0, 2, 2), (0, 2, 51, 0, 1, 1), (0, 0, 52, 1, 0, 0), (0, 2, 53, 0, 7, 4), (1, 1, 55, 0, 0, 0), (0, 2, 56, 0, 6, 4), (8, 0, 58, 488, 263, 5), (0, 4, 61, 0, 0, 0), (0, 2, 62, 0, 2, 2), (0, 2, 63, 0, 1, 1), (0, 2, 64, 0, 7, 4), (0, 2, 66, 0, 6, 4), (8, 0, 68, 488, 263, 5), (4, 11, 71, 6, 46, 0), (4, 12, 74, 21, 56, 0), (0, 2, 77, 0, 4, 4), (0, 2, 79, 0, 3, 3), (4, 7, 80, 12, 55, 0), (0, 0, 83, 10, 0, 1), (0, 2, 85, 0, 6, 4), (1, 2, 87, 0, 0, 0), (0, 2, 88, 0, 7, 4), (1, 0, 90, 0, 0, 0), (9, 0, 91, 0, 0, 0), (0, 8, 92, 1, 4, 0), (0, 8, 95, 1, 5, 0), (4, 12, 98, -92, 4, 0), (0, 2, 101, 0, 3, 3), (4, 3, 102, 8, 62, 0), (0, 2, 105, 0, 4, 4), (4, 12, 107, 5, 63, 0), (0, 0, 110, -2, 0, 1), (9, 0, 112, 0, 0, 0)]
def kX12_rests : List OP := [(0, 4, 0, 0, 0, 0), (0, 0, 1, 0, 0, 0), (7, 0, 2, 130, 12, 2), (0, 4, 5, 0, 0, 0), (0, 2, 6, 0, 1, 1), (0, 2, 7, 0, 2, 2), (8, 0, 8, 430, 211, 3), (4, 0, 11, 13, 14, 0), (0, 4, 14, 0, 0, 0), (0, 2, 15, 0, 1, 1), (0, 2, 16, 0, 2, 2), (0, 0, 17, -1, 0, 0), (8, 0, 18, 491, 264, 4), (4, 12, 21, 4, 15, 0), (0, 0, 24, -1, 0, 0), (9, 0, 25, 0, 0, 0)]
def kX12_rest : List OP := [(0, 4, 0, 0, 0, 0), (0, 0, 1, 0, 0, 0), (7, 0, 2, 130, 12, 2), (0, 4, 5, 0, 0, 0), (0, 2, 6, 0, 1, 1), (0, 2, 7, 0, 2, 2), (8, 0, 8, 430, 211, 3), (4, 0, 11, 17, 16, 0), (0, 2, 14, 0, 3, 3), (4, 2, 15, 13, 16, 0), (0, 4, 18, 0, 0, 0), (0, 2, 19, 0, 1, 1), (0, 2, 20, 0, 2, 2), (0, 2, 21, 0, 3, 3), (8, 0, 22, 491, 264, 4), (4, 12, 25, 4, 17, 0), (0, 0, 28, -1, 0, 0), (9, 0, 29, 0, 0, 0)]
def kX12_lays : List OP := [(0, 4, 0, 0, 0, 0), (6, 0, 1, 331, 12, 67), (0, 0, 4, 24, 0, 1), (4, 7, 6, 5, 6, 0), (0, 0, 9, -1, 0, 0), (9, 0, 10, 0, 0, 0), (0, 0, 11, 5, 0, 0), (0, 4, 12, 0, 0, 0), (6, 0, 13, 331, 12, 67), (1, 2, 16, 0, 0, 0), (0, 5, 17, 0, 6, 4), (0, 4, 19, 0, 0, 0), (6, 2, 20, 109, 12, 69), (0, 2, 23, 0, 6, 4), (0, 2, 25, 0, 1, 1), (5, 4, 26, 0, 0, 0), (0, 4, 27, 0, 0, 0), (6, 2, 28, 109, 12, 69), (0, 2, 31, 0, 6, 4), (0, 0, 33, 1, 0, 0), (1, 0, 34, 0, 0, 0), (0, 2, 35, 0, 2, 2), (5, 4, 36, 0, 0, 0), (0, 4, 37, 0, 0, 0), (6, 2, 38, 109, 12, 69), (0, 2, 41, 0, 6, 4), (0, 0, 43, 2, 0, 0), (1, 0, 44, 0, 0, 0), (0, 2, 45, 0, 3, 3), (5, 4, 46, 0, 0, 0), (0, 4, 47, 0, 0, 0), (6, 2, 48, 109, 12, 69), (0, 2, 51, 0, 6, 4), (0, 0, 53, 3, 0, 0), (1, 0, 54, 0, 0, 0), (0, 2, 55, 0, 4, 4), (5, 4, 57, 0, 0, 0), (0, 4, 58, 0, 0, 0), (6, 2, 59, 109, 12, 69), (0, 2, 62, 0, 6, 4), (0, 0, 64, 4, 0, 0), (1, 0, 65, 0, 0, 0), (0, 2, 66, 0, 5, 4), (5, 4, 68, 0, 0, 0), (0, 4, 69, 0, 0, 0), (3, 0, 70, 0, 0, 0), (6, 0, 71, 331, 12, 67), (0, 0, 74, 1, 0, 0), (1, 0, 75, 0, 0, 0), (7, 0, 76, 331, 12, 67), (0, 4, 79, 0, 0, 0), (6, 0, 80, 331, 12, 67), (0, 0, 83, 1, 0, 0), (1, 1, 84, 0, 0, 0), (9, 0, 85, 0, 0, 0)]
def kX12_note : List OP := [(0, 4, 0, 0, 0, 0), (0, 0, 1, 0, 0, 0), (7, 0, 2, 130, 12, 2), (0, 4, 5, 0, 0, 0), (0, 2, 6, 0, 1, 1), (0, 2, 7, 0, 2, 2), (8, 0, 8, 430, 211, 3), (4, 0, 11, 15, 16, 0), (0, 4, 14, 0, 0, 0), (0, 0, 15, 0, 0, 0), (0, 2, 16, 0, 1, 1), (0, 2, 17, 0, 2, 2), (0, 0, 18, 0, 0, 0), (0, 0, 19, 0, 0, 0), (8, 0, 20, 494, 267, 6), (4, 12, 23, 4, 17, 0), (0, 0, 26, -1, 0, 0), (9, 0, 27, 0, 0, 0)]
def kX12_see : List OP := [(0, 4, 0, 0, 0, 0), (0, 0, 1, 0, 0, 0), (7, 0, 2, 130, 12, 2), (0, 2, 5, 0, 1, 1), (0, 0, 6, 1, 0, 0), (0, 0, 7, 60, 0, 1), (8, 1, 9, 175, 165, 3), (4, 0, 12, 40, 28, 0), (0, 4, 15, 0, 0, 0), (0, 2, 16, 0, 2, 2), (8, 0, 17, 427, 210, 2), (4, 0, 20, 32, 28, 0), (0, 4, 23, 0, 0, 0), (0, 2, 24, 0, 3, 3), (8, 0, 25, 364, 209, 2), (4, 0, 28, 24, 28, 0), (0, 4, 31, 0, 0, 0), (0, 0, 32, 1, 0, 0), (0, 2, 33, 0, 1, 1), (0, 2, 34, 0, 2, 2), (0, 2, 35, 0, 3, 3), (0, 2, 36, 0, 4, 4), (4, 0, 38, 7, 25, 0), (0, 0, 41, 1, 0, 0), (4, 12, 42, 4, 26, 0), (0, 0, 45, 0, 0, 0), (8, 0, 46, 494, 267, 6), (4, 12, 49, 4, 29, 0), (0, 0, 52, -1, 0, 0), (9, 0, 53, 0, 0, 0)]
def kX12_strike : List OP := [(0, 4, 0, 0, 0, 0), (0, 0, 1, 0, 0, 0), (7, 0, 2, 130, 12, 2), (0, 2, 5, 0, 1, 1), (4, 2, 6, 11, 9, 0), (0, 2, 9, 0, 1, 1), (0, 4, 10, 0, 0, 0), (6, 0, 11, 331, 12, 67), (4, 8, 14, 7, 11, 0), (0, 0, 17, -1, 0, 0), (4, 12, 18, 12, 18, 0), (0, 4, 21, 0, 0, 0), (0, 0, 22, 2, 0, 0), (0, 2, 23, 0, 1, 1), (0, 0, 24, 0, 0, 0), (0, 0, 25, 0, 0, 0), (0, 0, 26, 0, 0, 0), (8, 0, 27, 494, 267, 6), (9, 0, 30, 0, 0, 0)]
def kX12_known : List OP := [(0, 4, 0, 0, 0, 0), (0, 0, 1, 0, 0, 0), (7, 0, 2, 130, 12, 2), (0, 2, 5, 0, 1, 1), (0, 0, 6, -1, 0, 0), (0, 4, 7, 0, 0, 0), (6, 0, 8, 331, 12, 67), (8, 1, 11, 175, 165, 3), (4, 1, 14, 5, 11, 0), (0, 0, 17, 0, 0, 0), (9, 1, 18, 0, 0, 0), (0, 4, 19, 0, 0, 0), (0, 2, 20, 0, 1, 1), (7, 0, 21, 106, 12, 68), (0, 0, 24, 1, 0, 0), (9, 1, 25, 0, 0, 0)]
def kX12_knownBy : List OP := [(0, 4, 0, 0, 0, 0), (6, 0, 1, 106, 12, 68), (4, 3, 4, 10, 6, 0), (0, 4, 7, 0, 0, 0), (6, 0, 8, 331, 12, 67), (4, 12, 11, 7, 8, 0), (0, 4, 14, 0, 0, 0), (6, 0, 15, 106, 12, 68), (9, 0, 18, 0, 0, 0)]
def kX12_layCounts : List OP := [(0, 0, 0, 0, 0, 0), (0, 5, 1, 0, 1, 1), (0, 2, 2, 0, 1, 1), (0, 4, 3, 0, 0, 0), (8, 0, 4, 498, 272, 1), (4, 9, 7, 16, 13, 0), (0, 4, 10, 0, 0, 0), (6, 2, 11, 112, 12, 70), (0, 2, 14, 0, 1, 1), (0, 0, 15, 1, 0, 0), (5, 5, 16, 0, 0, 0), (0, 8, 17, 1, 1, 0), (4, 12, 20, -18, 2, 0), (0, 4, 23, 0, 0, 0), (8, 0, 24, 498, 272, 1), (0, 0, 27, 1, 0, 0), (1, 1, 28, 0, 0, 0), (0, 5, 29, 0, 1, 1), (0, 2, 30, 0, 1, 1), (4, 2, 31, 46, 47, 0), (0, 4, 34, 0, 0, 0), (6, 2, 35, 112, 12, 70), (0, 2, 38, 0, 1, 1), (5, 1, 39, 0, 0, 0), (4, 0, 40, 31, 45, 0), (0, 4, 43, 0, 0, 0), (6, 2, 44, 109, 12, 69), (0, 0, 47, 5, 0, 0), (0, 2, 48, 0, 1, 1), (1, 2, 49, 0, 0, 0), (5, 0, 50, 0, 0, 0), (0, 0, 51, 2, 0, 0), (4, 7, 52, 19, 45, 0), (0, 4, 55, 0, 0, 0), (6, 2, 56, 112, 12, 70), (0, 4, 59, 0, 0, 0), (6, 2, 60, 109, 12, 69), (0, 0, 63, 5, 0, 0), (0, 2, 64, 0, 1, 1), (1, 2, 65, 0, 0, 0), (0, 0, 66, 1, 0, 0), (1, 0, 67, 0, 0, 0), (5, 0, 68, 0, 0, 0), (0, 0, 69, 0, 0, 0), (5, 5, 70, 0, 0, 0), (0, 8, 71, -1, 1, 0), (4, 12, 74, -44, 18, 0), (9, 4, 77, 0, 0, 0)]
def kX12_clashesOf : List OP := [(0, 0, 0, 0, 0, 0), (0, 5, 1, 0, 1, 1), (0, 2, 2, 0, 1, 1), (0, 4, 3, 0, 0, 0), (6, 0, 4, 204, 12, 12), (4, 9, 7, 21, 16, 0), (0, 4, 10, 0, 0, 0), (6, 2, 11, 115, 12, 71), (0, 4, 14, 0, 0, 0), (6, 2, 15, 103, 12, 66), (0, 2, 18, 0, 1, 1), (5, 0, 19, 0, 0, 0), (0, 2, 20, 0, 1, 1), (5, 4, 21, 0, 0, 0), (0, 8, 22, 1, 1, 0), (4, 12, 25, -23, 2, 0), (0, 0, 28, 0, 0, 0), (0, 5, 29, 0, 1, 1), (0, 0, 30, 0, 0, 0), (0, 5, 31, 0, 2, 2), (0, 2, 32, 0, 2, 2), (0, 4, 33, 0, 0, 0), (8, 0, 34, 498, 272, 1), (4, 9, 37, 139, 100, 0), (0, 4, 40, 0, 0, 0), (6, 2, 41, 112, 12, 70), (0, 2, 44, 0, 2, 2), (5, 1, 45, 0, 0, 0), (4, 0, 46, 124, 98, 0), (0, 4, 49, 0, 0, 0), (6, 2, 50, 109, 12, 69), (0, 0, 53, 5, 0, 0), (0, 2, 54, 0, 2, 2), (1, 2, 55, 0, 0, 0), (5, 0, 56, 0, 0, 0), (4, 0, 57, 6, 37, 0), (4, 12, 60, 110, 98, 0), (0, 4, 63, 0, 0, 0), (6, 2, 64, 109, 12, 69), (0, 0, 67, 5, 0, 0), (0, 2, 68, 0, 2, 2), (1, 2, 69, 0, 0, 0), (0, 0, 70, 1, 0, 0), (1, 0, 71, 0, 0, 0), (5, 0, 72, 0, 0, 0), (0, 5, 73, 0, 3, 3), (0, 4, 74, 0, 0, 0), (6, 2, 75, 109, 12, 69), (0, 0, 78, 5, 0, 0), (0, 2, 79, 0, 2, 2), (1, 2, 80, 0, 0, 0), (0, 0, 81, 2, 0, 0), (1, 0, 82, 0, 0, 0), (5, 0, 83, 0, 0, 0), (0, 5, 84, 0, 4, 4), (0, 0, 86, 0, 0, 0), (0, 5, 87, 0, 5, 4), (0, 0, 89, 0, 0, 0), (0, 5, 90, 0, 6, 4), (0, 2, 92, 0, 6, 4), (0, 4, 94, 0, 0, 0), (6, 0, 95, 204, 12, 12), (4, 9, 98, 59, 90, 0), (0, 2, 101, 0, 5, 4), (4, 1, 103, 41, 84, 0), (0, 2, 106, 0, 6, 4), (0, 2, 108, 0, 4, 4), (4, 6, 110, 38, 86, 0), (0, 4, 113, 0, 0, 0), (6, 2, 114, 85, 12, 46), (0, 2, 117, 0, 3, 3), (5, 0, 118, 0, 0, 0), (0, 2, 119, 0, 6, 4), (8, 1, 121, 231, 166, 2), (4, 0, 124, 24, 86, 0), (0, 4, 127, 0, 0, 0), (6, 2, 128, 115, 12, 71), (0, 2, 131, 0, 6, 4), (5, 0, 133, 0, 0, 0), (0, 4, 134, 0, 0, 0), (6, 2, 135, 115, 12, 71), (0, 2, 138, 0, 4, 4), (5, 0, 140, 0, 0, 0), (4, 9, 141, 7, 86, 0), (0, 0, 144, 1, 0, 0), (4, 12, 145, 4, 87, 0), (0, 0, 148, 0, 0, 0), (0, 5, 149, 0, 5, 4), (0, 8, 151, 1, 6, 0), (4, 12, 154, -62, 59, 0), (0, 2, 157, 0, 1, 1), (0, 2, 158, 0, 5, 4), (4, 0, 160, 7, 95, 0), (0, 0, 163, 1, 0, 0), (4, 12, 164, 4, 96, 0), (0, 0, 167, 0, 0, 0), (1, 0, 168, 0, 0, 0), (0, 5, 169, 0, 1, 1), (0, 8, 170, 1, 2, 0), (4, 12, 173, -141, 20, 0), (0, 2, 176, 0, 1, 1), (9, 0, 177, 0, 0, 0)]
def kX12_order : List OP := [(0, 4, 0, 0, 0, 0), (0, 0, 1, 0, 0, 0), (7, 0, 2, 130, 12, 2), (0, 2, 5, 0, 1, 1), (0, 0, 6, 0, 0, 0), (0, 0, 7, 6, 0, 1), (8, 1, 9, 175, 165, 3), (4, 1, 12, 5, 10, 0), (0, 0, 15, -1, 0, 0), (9, 0, 16, 0, 0, 0), (0, 2, 17, 0, 1, 1), (0, 0, 18, 6, 0, 1), (4, 9, 20, 14, 19, 0), (0, 2, 23, 0, 1, 1), (0, 4, 24, 0, 0, 0), (6, 0, 25, 204, 12, 12), (4, 8, 28, 6, 19, 0), (0, 0, 31, -2, 0, 1), (9, 0, 33, 0, 0, 0), (0, 4, 34, 0, 0, 0), (8, 0, 35, 501, 273, 1), (0, 0, 38, -1, 0, 0), (0, 5, 39, 0, 2, 2), (0, 0, 40, 0, 0, 0), (0, 5, 41, 0, 3, 3), (0, 0, 42, 0, 0, 0), (0, 5, 43, 0, 4, 4), (0, 2, 45, 0, 4, 4), (0, 4, 47, 0, 0, 0), (6, 0, 48, 204, 12, 12), (8, 1, 51, 479, 248, 1), (4, 9, 54, 45, 53, 0), (0, 4, 57, 0, 0, 0), (0, 2, 58, 0, 4, 4), (0, 4, 60, 0, 0, 0), (6, 0, 61, 204, 12, 12), (0, 0, 64, 0, 0, 0), (8, 0, 65, 482, 249, 4), (0, 4, 68, 0, 0, 0), (8, 0, 69, 504, 274, 1), (0, 5, 72, 0, 5, 4), (0, 2, 74, 0, 2, 2), (4, 2, 75, 12, 47, 0), (0, 2, 78, 0, 5, 4), (0, 2, 80, 0, 3, 3), (4, 8, 81, 6, 47, 0), (4, 12, 84, 9, 51, 0), (0, 2, 87, 0, 4, 4), (0, 5, 89, 0, 2, 2), (0, 2, 90, 0, 5, 4), (0, 5, 92, 0, 3, 3), (0, 8, 93, 1, 4, 0), (4, 12, 96, -51, 27, 0), (0, 4, 99, 0, 0, 0), (0, 2, 100, 0, 2, 2), (0, 4, 101, 0, 0, 0), (6, 0, 102, 204, 12, 12), (0, 0, 105, 0, 0, 0), (8, 0, 106, 482, 249, 4), (0, 2, 109, 0, 1, 1), (0, 0, 110, 6, 0, 1), (4, 7, 112, 7, 64, 0), (0, 2, 115, 0, 3, 3), (4, 12, 116, 9, 68, 0), (0, 4, 119, 0, 0, 0), (6, 2, 120, 103, 12, 66), (0, 2, 123, 0, 1, 1), (5, 0, 124, 0, 0, 0), (9, 0, 125, 0, 0, 0)]
def kX12_isSo : List OP := [(0, 0, 0, 0, 0, 0), (0, 5, 1, 0, 2, 2), (0, 2, 2, 0, 2, 2), (0, 4, 3, 0, 0, 0), (8, 0, 4, 498, 272, 1), (4, 9, 7, 100, 67, 0), (0, 0, 10, 5, 0, 0), (0, 2, 11, 0, 2, 2), (1, 2, 12, 0, 0, 0), (0, 5, 13, 0, 3, 3), (0, 4, 14, 0, 0, 0), (6, 2, 15, 112, 12, 70), (0, 2, 18, 0, 2, 2), (5, 1, 19, 0, 0, 0), (4, 0, 20, 81, 65, 0), (0, 4, 23, 0, 0, 0), (6, 2, 24, 109, 12, 69), (0, 2, 27, 0, 3, 3), (5, 0, 28, 0, 0, 0), (0, 0, 29, 1, 0, 0), (4, 7, 30, 71, 65, 0), (0, 4, 33, 0, 0, 0), (6, 2, 34, 109, 12, 69), (0, 2, 37, 0, 3, 3), (0, 0, 38, 1, 0, 0), (1, 0, 39, 0, 0, 0), (5, 0, 40, 0, 0, 0), (0, 2, 41, 0, 1, 1), (4, 6, 42, 6, 30, 0), (4, 12, 45, 56, 65, 0), (0, 4, 48, 0, 0, 0), (6, 2, 49, 88, 12, 47), (0, 0, 52, 2, 0, 0), (0, 4, 53, 0, 0, 0), (6, 2, 54, 109, 12, 69), (0, 2, 57, 0, 3, 3), (0, 0, 58, 2, 0, 0), (1, 0, 59, 0, 0, 0), (5, 0, 60, 0, 0, 0), (1, 0, 61, 0, 0, 0), (5, 0, 62, 0, 0, 0), (0, 4, 63, 0, 0, 0), (6, 2, 64, 109, 12, 69), (0, 2, 67, 0, 3, 3), (0, 0, 68, 3, 0, 0), (1, 0, 69, 0, 0, 0), (5, 0, 70, 0, 0, 0), (4, 7, 71, 7, 50, 0), (0, 0, 74, 1, 0, 0), (4, 12, 75, 4, 51, 0), (0, 0, 78, 0, 0, 0), (0, 4, 79, 0, 0, 0), (6, 2, 80, 109, 12, 69), (0, 2, 83, 0, 3, 3), (0, 0, 84, 4, 0, 0), (1, 0, 85, 0, 0, 0), (5, 0, 86, 0, 0, 0), (0, 0, 87, 1, 0, 0), (4, 7, 88, 7, 61, 0), (0, 0, 91, 1, 0, 0), (4, 12, 92, 4, 62, 0), (0, 0, 95, 0, 0, 0), (4, 6, 96, 5, 65, 0), (0, 0, 99, 0, 0, 0), (9, 1, 100, 0, 0, 0), (0, 8, 101, 1, 2, 0), (4, 12, 104, -102, 2, 0), (0, 0, 107, 1, 0, 0), (9, 1, 108, 0, 0, 0)]
def kX12_fits : List OP := [(0, 4, 0, 0, 0, 0), (0, 0, 1, 1, 0, 0), (8, 0, 2, 321, 206, 2), (0, 4, 5, 0, 0, 0), (8, 0, 6, 328, 207, 1), (0, 4, 9, 0, 0, 0), (0, 2, 10, 0, 1, 1), (7, 0, 11, 358, 12, 58), (0, 4, 14, 0, 0, 0), (0, 2, 15, 0, 2, 2), (7, 0, 16, 361, 12, 59), (0, 0, 19, 1, 0, 0), (0, 5, 20, 0, 3, 3), (0, 2, 21, 0, 3, 3), (0, 0, 22, 60, 0, 1), (4, 10, 24, 24, 27, 0), (0, 4, 27, 0, 0, 0), (0, 0, 28, 1, 0, 0), (8, 0, 29, 418, 224, 2), (0, 4, 32, 0, 0, 0), (0, 2, 33, 0, 3, 3), (8, 0, 34, 507, 276, 2), (4, 1, 37, 5, 25, 0), (0, 0, 40, 0, 0, 0), (9, 1, 41, 0, 0, 0), (0, 8, 42, 1, 3, 0), (4, 12, 45, -24, 13, 0), (0, 0, 48, 1, 0, 0), (9, 1, 49, 0, 0, 0)]
def kX12_doubts : List OP := [(0, 4, 0, 0, 0, 0), (0, 0, 1, 0, 0, 0), (7, 0, 2, 130, 12, 2), (0, 4, 5, 0, 0, 0), (0, 2, 6, 0, 1, 1), (8, 0, 7, 364, 209, 2), (4, 1, 10, 5, 9, 0), (0, 0, 13, -1, 0, 0), (9, 0, 14, 0, 0, 0), (0, 4, 15, 0, 0, 0), (8, 0, 16, 501, 273, 1), (0, 0, 19, 0, 0, 0), (0, 5, 20, 0, 2, 2), (0, 0, 21, 0, 0, 0), (0, 5, 22, 0, 3, 3), (0, 2, 23, 0, 3, 3), (0, 0, 24, 10, 0, 1), (4, 9, 26, 28, 33, 0), (0, 2, 29, 0, 2, 2), (0, 4, 30, 0, 0, 0), (0, 2, 31, 0, 1, 1), (0, 2, 32, 0, 3, 3), (8, 0, 33, 510, 277, 3), (4, 0, 36, 9, 28, 0), (0, 0, 39, 1, 0, 0), (0, 2, 40, 0, 3, 3), (1, 6, 41, 0, 0, 0), (4, 12, 42, 4, 29, 0), (0, 0, 45, 0, 0, 0), (1, 4, 46, 0, 0, 0), (0, 5, 47, 0, 2, 2), (0, 8, 48, 1, 3, 0), (4, 12, 51, -28, 15, 0), (0, 4, 54, 0, 0, 0), (8, 0, 55, 328, 207, 1), (0, 2, 58, 0, 2, 2), (9, 0, 59, 0, 0, 0)]
def kX12_chance : List OP := [(0, 4, 0, 0, 0, 0), (0, 0, 1, 0, 0, 0), (7, 0, 2, 130, 12, 2), (0, 2, 5, 0, 1, 1), (4, 2, 6, 30, 18, 0), (0, 2, 9, 0, 2, 2), (0, 0, 10, 1, 0, 0), (0, 0, 11, 99, 0, 1), (8, 1, 13, 175, 165, 3), (4, 0, 16, 20, 18, 0), (0, 4, 19, 0, 0, 0), (0, 2, 20, 0, 3, 3), (8, 0, 21, 427, 210, 2), (4, 0, 24, 12, 18, 0), (0, 4, 27, 0, 0, 0), (0, 2, 28, 0, 4, 4), (8, 0, 30, 364, 209, 2), (4, 1, 33, 5, 20, 0), (0, 0, 36, -1, 0, 0), (9, 0, 37, 0, 0, 0), (0, 4, 38, 0, 0, 0), (6, 5, 39, 324, 12, 51), (0, 6, 42, 0, 5, 4), (0, 4, 44, 0, 0, 0), (0, 2, 45, 0, 1, 1), (1, 12, 46, 0, 0, 0), (7, 5, 47, 324, 12, 51), (0, 0, 50, 0, 0, 0), (0, 5, 51, 0, 7, 4), (0, 0, 53, 0, 0, 0), (0, 5, 54, 0, 8, 4), (0, 2, 56, 0, 8, 4), (0, 0, 58, 10, 0, 1), (4, 9, 60, 46, 58, 0), (0, 4, 63, 0, 0, 0), (8, 0, 64, 438, 208, 1), (0, 4, 67, 0, 0, 0), (0, 0, 68, 1, 0, 0), (7, 1, 69, 340, 12, 52), (0, 4, 72, 0, 0, 0), (0, 2, 73, 0, 2, 2), (8, 0, 74, 441, 225, 2), (0, 2, 77, 0, 7, 4), (0, 4, 79, 0, 0, 0), (6, 2, 80, 88, 12, 47), (0, 0, 83, 2, 0, 0), (0, 2, 84, 0, 3, 3), (1, 0, 85, 0, 0, 0), (5, 0, 86, 0, 0, 0), (0, 2, 87, 0, 4, 4), (4, 7, 89, 7, 53, 0), (0, 0, 92, 1, 0, 0), (4, 12, 93, 4, 54, 0), (0, 0, 96, 0, 0, 0), (1, 0, 97, 0, 0, 0), (0, 5, 98, 0, 7, 4), (0, 8, 100, 1, 8, 0), (4, 12, 103, -47, 31, 0), (0, 4, 106, 0, 0, 0), (0, 0, 107, 0, 0, 0), (7, 1, 108, 340, 12, 52), (0, 4, 111, 0, 0, 0), (0, 3, 112, 0, 5, 4), (7, 5, 114, 324, 12, 51), (0, 2, 117, 0, 7, 4), (9, 0, 119, 0, 0, 0)]
def kX12_tried : List OP := [(0, 4, 0, 0, 0, 0), (0, 0, 1, 0, 0, 0), (7, 0, 2, 130, 12, 2), (0, 2, 5, 0, 1, 1), (0, 0, 6, 0, 0, 0), (0, 0, 7, 4, 0, 0), (8, 1, 8, 175, 165, 3), (4, 0, 11, 40, 26, 0), (0, 2, 14, 0, 3, 3), (0, 0, 15, 0, 0, 0), (0, 0, 16, 99, 0, 1), (8, 1, 18, 175, 165, 3), (4, 0, 21, 30, 26, 0), (0, 2, 24, 0, 1, 1), (0, 0, 25, 2, 0, 0), (4, 7, 26, 14, 21, 0), (0, 4, 29, 0, 0, 0), (0, 2, 30, 0, 2, 2), (8, 0, 31, 364, 209, 2), (4, 1, 34, 10, 23, 0), (4, 12, 37, 14, 26, 0), (0, 2, 40, 0, 2, 2), (4, 1, 41, 10, 26, 0), (0, 4, 44, 0, 0, 0), (6, 0, 45, 207, 12, 13), (4, 1, 48, 5, 28, 0), (0, 0, 51, -1, 0, 0), (9, 0, 52, 0, 0, 0), (0, 4, 53, 0, 0, 0), (8, 0, 54, 438, 208, 1), (0, 4, 57, 0, 0, 0), (0, 2, 58, 0, 1, 1), (4, 1, 59, 7, 35, 0), (0, 0, 62, 1, 0, 0), (4, 12, 63, 4, 36, 0), (0, 0, 66, 0, 0, 0), (7, 1, 67, 343, 12, 53), (0, 4, 70, 0, 0, 0), (0, 2, 71, 0, 1, 1), (0, 0, 72, 1, 0, 0), (4, 7, 73, 7, 43, 0), (0, 0, 76, 1, 0, 0), (4, 12, 77, 4, 44, 0), (0, 0, 80, 0, 0, 0), (7, 1, 81, 346, 12, 54), (0, 4, 84, 0, 0, 0), (0, 2, 85, 0, 1, 1), (0, 0, 86, 2, 0, 0), (4, 7, 87, 9, 53, 0), (0, 0, 90, 1, 0, 0), (0, 2, 91, 0, 2, 2), (1, 6, 92, 0, 0, 0), (4, 12, 93, 4, 54, 0), (0, 0, 96, 0, 0, 0), (7, 0, 97, 355, 12, 57), (0, 4, 100, 0, 0, 0), (0, 2, 101, 0, 1, 1), (0, 0, 102, 3, 0, 0), (4, 7, 103, 7, 61, 0), (0, 0, 106, 1, 0, 0), (4, 12, 107, 4, 62, 0), (0, 0, 110, 0, 0, 0), (7, 1, 111, 352, 12, 56), (0, 4, 114, 0, 0, 0), (0, 2, 115, 0, 1, 1), (0, 0, 116, 4, 0, 0), (4, 7, 117, 7, 69, 0), (0, 0, 120, 1, 0, 0), (4, 12, 121, 4, 70, 0), (0, 0, 124, 0, 0, 0), (7, 1, 125, 349, 12, 55), (0, 4, 128, 0, 0, 0), (0, 2, 129, 0, 3, 3), (8, 0, 130, 441, 225, 2), (0, 4, 133, 0, 0, 0), (8, 0, 134, 328, 207, 1), (0, 4, 137, 0, 0, 0), (6, 2, 138, 88, 12, 47), (0, 0, 141, 2, 0, 0), (5, 0, 142, 0, 0, 0), (9, 0, 143, 0, 0, 0)]
def kX12_put : List OP := [(0, 0, 0, 0, 0, 0), (0, 5, 1, 0, 3, 3), (0, 2, 2, 0, 3, 3), (0, 0, 3, 6, 0, 1), (4, 9, 5, 48, 38, 0), (0, 4, 8, 0, 1, 1), (0, 2, 9, 0, 2, 2), (0, 2, 10, 0, 3, 3), (1, 0, 11, 0, 0, 0), (0, 4, 12, 0, 0, 0), (6, 2, 13, 79, 12, 44), (0, 2, 16, 0, 3, 3), (5, 0, 17, 0, 0, 0), (5, 4, 18, 0, 0, 0), (0, 4, 19, 0, 1, 1), (0, 2, 20, 0, 2, 2), (0, 0, 21, 6, 0, 1), (1, 0, 23, 0, 0, 0), (0, 2, 24, 0, 3, 3), (1, 0, 25, 0, 0, 0), (0, 4, 26, 0, 0, 0), (6, 2, 27, 82, 12, 45), (0, 2, 30, 0, 3, 3), (5, 0, 31, 0, 0, 0), (5, 4, 32, 0, 0, 0), (0, 4, 33, 0, 1, 1), (0, 2, 34, 0, 2, 2), (0, 0, 35, 12, 0, 1), (1, 0, 37, 0, 0, 0), (0, 2, 38, 0, 3, 3), (1, 0, 39, 0, 0, 0), (0, 4, 40, 0, 0, 0), (6, 2, 41, 85, 12, 46), (0, 2, 44, 0, 3, 3), (5, 0, 45, 0, 0, 0), (5, 4, 46, 0, 0, 0), (0, 8, 47, 1, 3, 0), (4, 12, 50, -48, 2, 0), (0, 0, 53, 0, 0, 0), (0, 5, 54, 0, 3, 3), (0, 2, 55, 0, 3, 3), (0, 0, 56, 2, 0, 0), (4, 9, 57, 51, 78, 0), (0, 4, 60, 0, 1, 1), (0, 2, 61, 0, 2, 2), (0, 0, 62, 18, 0, 1), (1, 0, 64, 0, 0, 0), (0, 2, 65, 0, 3, 3), (1, 0, 66, 0, 0, 0), (0, 4, 67, 0, 0, 0), (6, 2, 68, 88, 12, 47), (0, 2, 71, 0, 3, 3), (5, 0, 72, 0, 0, 0), (5, 4, 73, 0, 0, 0), (0, 4, 74, 0, 1, 1), (0, 2, 75, 0, 2, 2), (0, 0, 76, 20, 0, 1), (1, 0, 78, 0, 0, 0), (0, 2, 79, 0, 3, 3), (1, 0, 80, 0, 0, 0), (0, 4, 81, 0, 0, 0), (6, 2, 82, 91, 12, 48), (0, 2, 85, 0, 3, 3), (5, 0, 86, 0, 0, 0), (5, 4, 87, 0, 0, 0), (0, 4, 88, 0, 1, 1), (0, 2, 89, 0, 2, 2), (0, 0, 90, 22, 0, 1), (1, 0, 92, 0, 0, 0), (0, 2, 93, 0, 3, 3), (1, 0, 94, 0, 0, 0), (0, 4, 95, 0, 0, 0), (6, 2, 96, 94, 12, 49), (0, 2, 99, 0, 3, 3), (5, 0, 100, 0, 0, 0), (5, 4, 101, 0, 0, 0), (0, 8, 102, 1, 3, 0), (4, 12, 105, -50, 40, 0), (9, 4, 108, 0, 0, 0)]
def kX12_take : List OP := [(0, 0, 0, 0, 0, 0), (0, 5, 1, 0, 3, 3), (0, 2, 2, 0, 3, 3), (0, 0, 3, 6, 0, 1), (4, 9, 5, 48, 38, 0), (0, 4, 8, 0, 0, 0), (6, 2, 9, 79, 12, 44), (0, 2, 12, 0, 3, 3), (0, 4, 13, 0, 1, 1), (0, 2, 14, 0, 2, 2), (0, 2, 15, 0, 3, 3), (1, 0, 16, 0, 0, 0), (5, 0, 17, 0, 0, 0), (5, 4, 18, 0, 0, 0), (0, 4, 19, 0, 0, 0), (6, 2, 20, 82, 12, 45), (0, 2, 23, 0, 3, 3), (0, 4, 24, 0, 1, 1), (0, 2, 25, 0, 2, 2), (0, 0, 26, 6, 0, 1), (1, 0, 28, 0, 0, 0), (0, 2, 29, 0, 3, 3), (1, 0, 30, 0, 0, 0), (5, 0, 31, 0, 0, 0), (5, 4, 32, 0, 0, 0), (0, 4, 33, 0, 0, 0), (6, 2, 34, 85, 12, 46), (0, 2, 37, 0, 3, 3), (0, 4, 38, 0, 1, 1), (0, 2, 39, 0, 2, 2), (0, 0, 40, 12, 0, 1), (1, 0, 42, 0, 0, 0), (0, 2, 43, 0, 3, 3), (1, 0, 44, 0, 0, 0), (5, 0, 45, 0, 0, 0), (5, 4, 46, 0, 0, 0), (0, 8, 47, 1, 3, 0), (4, 12, 50, -48, 2, 0), (0, 0, 53, 0, 0, 0), (0, 5, 54, 0, 3, 3), (0, 2, 55, 0, 3, 3), (0, 0, 56, 2, 0, 0), (4, 9, 57, 51, 78, 0), (0, 4, 60, 0, 0, 0), (6, 2, 61, 88, 12, 47), (0, 2, 64, 0, 3, 3), (0, 4, 65, 0, 1, 1), (0, 2, 66, 0, 2, 2), (0, 0, 67, 18, 0, 1), (1, 0, 69, 0, 0, 0), (0, 2, 70, 0, 3, 3), (1, 0, 71, 0, 0, 0), (5, 0, 72, 0, 0, 0), (5, 4, 73, 0, 0, 0), (0, 4, 74, 0, 0, 0), (6, 2, 75, 91, 12, 48), (0, 2, 78, 0, 3, 3), (0, 4, 79, 0, 1, 1), (0, 2, 80, 0, 2, 2), (0, 0, 81, 20, 0, 1), (1, 0, 83, 0, 0, 0), (0, 2, 84, 0, 3, 3), (1, 0, 85, 0, 0, 0), (5, 0, 86, 0, 0, 0), (5, 4, 87, 0, 0, 0), (0, 4, 88, 0, 0, 0), (6, 2, 89, 94, 12, 49), (0, 2, 92, 0, 3, 3), (0, 4, 93, 0, 1, 1), (0, 2, 94, 0, 2, 2), (0, 0, 95, 22, 0, 1), (1, 0, 97, 0, 0, 0), (0, 2, 98, 0, 3, 3), (1, 0, 99, 0, 0, 0), (5, 0, 100, 0, 0, 0), (5, 4, 101, 0, 0, 0), (0, 8, 102, 1, 3, 0), (4, 12, 105, -50, 40, 0), (9, 4, 108, 0, 0, 0)]
def kX12_remember : List OP := [(0, 4, 0, 0, 0, 0), (6, 0, 1, 334, 12, 72), (0, 0, 4, 20, 0, 1), (4, 7, 6, 43, 27, 0), (0, 0, 9, 0, 0, 0), (0, 5, 10, 0, 1, 1), (0, 2, 11, 0, 1, 1), (0, 0, 12, 456, 0, 2), (4, 9, 15, 24, 21, 0), (0, 4, 18, 0, 0, 0), (6, 2, 19, 118, 12, 73), (0, 2, 22, 0, 1, 1), (0, 4, 23, 0, 0, 0), (6, 2, 24, 118, 12, 73), (0, 2, 27, 0, 1, 1), (0, 0, 28, 24, 0, 1), (1, 0, 30, 0, 0, 0), (5, 0, 31, 0, 0, 0), (5, 4, 32, 0, 0, 0), (0, 8, 33, 1, 1, 0), (4, 12, 36, -25, 6, 0), (0, 4, 39, 0, 0, 0), (3, 0, 40, 0, 0, 0), (6, 0, 41, 334, 12, 72), (0, 0, 44, 1, 0, 0), (1, 1, 45, 0, 0, 0), (7, 0, 46, 334, 12, 72), (0, 4, 49, 0, 0, 0), (0, 4, 50, 0, 0, 0), (6, 2, 51, 118, 12, 73), (0, 0, 54, 24, 0, 1), (0, 4, 56, 0, 0, 0), (6, 0, 57, 334, 12, 72), (1, 2, 60, 0, 0, 0), (8, 0, 61, 513, 281, 3), (0, 4, 64, 0, 0, 0), (3, 0, 65, 0, 0, 0), (6, 0, 66, 334, 12, 72), (0, 0, 69, 1, 0, 0), (1, 0, 70, 0, 0, 0), (7, 0, 71, 334, 12, 72), (9, 4, 74, 0, 0, 0)]
def kX12_undo : List OP := [(0, 4, 0, 0, 0, 0), (0, 0, 1, 0, 0, 0), (7, 0, 2, 130, 12, 2), (0, 4, 5, 0, 0, 0), (6, 0, 6, 334, 12, 72), (4, 1, 9, 5, 8, 0), (0, 0, 12, -1, 0, 0), (9, 0, 13, 0, 0, 0), (0, 4, 14, 0, 0, 0), (3, 0, 15, 0, 0, 0), (6, 0, 16, 334, 12, 72), (0, 0, 19, 1, 0, 0), (1, 1, 20, 0, 0, 0), (7, 0, 21, 334, 12, 72), (0, 4, 24, 0, 0, 0), (0, 4, 25, 0, 0, 0), (6, 2, 26, 118, 12, 73), (0, 0, 29, 24, 0, 1), (0, 4, 31, 0, 0, 0), (6, 0, 32, 334, 12, 72), (1, 2, 35, 0, 0, 0), (8, 0, 36, 516, 282, 3), (0, 4, 39, 0, 0, 0), (6, 0, 40, 334, 12, 72), (9, 0, 43, 0, 0, 0)]
def kX12_keep : List OP := [(0, 4, 0, 0, 0, 0), (0, 0, 1, 0, 0, 0), (7, 0, 2, 130, 12, 2), (0, 4, 5, 0, 0, 0), (0, 0, 6, 1, 0, 0), (7, 1, 7, 337, 12, 74), (0, 4, 10, 0, 0, 0), (0, 4, 11, 0, 0, 0), (6, 2, 12, 121, 12, 75), (0, 0, 15, 0, 0, 0), (8, 0, 16, 513, 281, 3), (0, 4, 19, 0, 0, 0), (0, 4, 20, 0, 0, 0), (6, 2, 21, 97, 12, 50), (0, 0, 24, 0, 0, 0), (5, 0, 25, 0, 0, 0), (7, 0, 26, 519, 12, 76), (0, 4, 29, 0, 0, 0), (0, 4, 30, 0, 0, 0), (6, 5, 31, 324, 12, 51), (7, 5, 34, 522, 12, 77), (0, 4, 37, 0, 0, 0), (6, 2, 38, 97, 12, 50), (0, 0, 41, 0, 0, 0), (5, 0, 42, 0, 0, 0), (9, 0, 43, 0, 0, 0)]
def kX12_back : List OP := [(0, 4, 0, 0, 0, 0), (0, 0, 1, 0, 0, 0), (7, 0, 2, 130, 12, 2), (0, 4, 5, 0, 0, 0), (6, 1, 6, 337, 12, 74), (4, 1, 9, 5, 8, 0), (0, 0, 12, -1, 0, 0), (9, 0, 13, 0, 0, 0), (0, 4, 14, 0, 0, 0), (0, 4, 15, 0, 0, 0), (6, 2, 16, 121, 12, 75), (0, 0, 19, 0, 0, 0), (8, 0, 20, 516, 282, 3), (0, 4, 23, 0, 0, 0), (6, 2, 24, 97, 12, 50), (0, 0, 27, 0, 0, 0), (0, 4, 28, 0, 0, 0), (6, 0, 29, 519, 12, 76), (5, 4, 32, 0, 0, 0), (0, 4, 33, 0, 0, 0), (0, 4, 34, 0, 0, 0), (6, 5, 35, 522, 12, 77), (7, 5, 38, 324, 12, 51), (0, 4, 41, 0, 0, 0), (0, 0, 42, 0, 0, 0), (7, 0, 43, 334, 12, 72), (0, 4, 46, 0, 0, 0), (6, 2, 47, 97, 12, 50), (0, 0, 50, 0, 0, 0), (5, 0, 51, 0, 0, 0), (9, 0, 52, 0, 0, 0)]
def kX12_count : List OP := [(0, 4, 0, 0, 0, 0), (0, 0, 1, 0, 0, 0), (7, 0, 2, 130, 12, 2), (0, 0, 5, 0, 0, 0), (0, 5, 6, 0, 2, 2), (0, 2, 7, 0, 1, 1), (4, 13, 8, 0, 75, 11), (0, 4, 64, 0, 0, 0), (6, 0, 65, 204, 12, 12), (9, 0, 68, 0, 0, 0), (0, 0, 69, 0, 0, 0), (0, 5, 70, 0, 3, 3), (0, 2, 71, 0, 3, 3), (0, 0, 72, 36, 0, 1), (4, 9, 74, 28, 32, 0), (0, 2, 77, 0, 2, 2), (0, 4, 78, 0, 0, 0), (6, 2, 79, 85, 12, 46), (0, 2, 82, 0, 3, 3), (0, 0, 83, 6, 0, 1), (1, 9, 85, 0, 0, 0), (5, 0, 86, 0, 0, 0), (0, 2, 87, 0, 3, 3), (0, 0, 88, 6, 0, 1), (1, 10, 90, 0, 0, 0), (1, 7, 91, 0, 0, 0), (0, 0, 92, 1, 0, 0), (1, 3, 93, 0, 0, 0), (1, 0, 94, 0, 0, 0), (0, 5, 95, 0, 2, 2), (0, 8, 96, 1, 3, 0), (4, 12, 99, -28, 12, 0), (0, 2, 102, 0, 2, 2), (9, 0, 103, 0, 0, 0), (0, 4, 104, 0, 0, 0), (6, 0, 105, 207, 12, 13), (9, 0, 108, 0, 0, 0), (0, 4, 109, 0, 0, 0), (6, 0, 110, 210, 12, 14), (9, 0, 113, 0, 0, 0), (0, 4, 114, 0, 0, 0), (6, 2, 115, 97, 12, 50), (0, 0, 118, 0, 0, 0), (5, 0, 119, 0, 0, 0), (9, 0, 120, 0, 0, 0), (0, 4, 121, 0, 0, 0), (0, 0, 122, 0, 0, 0), (8, 0, 123, 525, 237, 2), (9, 0, 126, 0, 0, 0), (0, 0, 127, 0, 0, 0), (0, 5, 128, 0, 3, 3), (0, 2, 129, 0, 3, 3), (0, 4, 130, 0, 0, 0), (6, 0, 131, 204, 12, 12), (4, 9, 134, 18, 64, 0), (0, 2, 137, 0, 2, 2), (0, 4, 138, 0, 0, 0), (6, 2, 139, 79, 12, 44), (0, 2, 142, 0, 3, 3), (5, 0, 143, 0, 0, 0), (1, 0, 144, 0, 0, 0), (0, 5, 145, 0, 2, 2), (0, 8, 146, 1, 3, 0), (4, 12, 149, -20, 51, 0), (0, 2, 152, 0, 2, 2), (9, 0, 153, 0, 0, 0), (0, 4, 154, 0, 0, 0), (6, 0, 155, 331, 12, 67), (9, 0, 158, 0, 0, 0), (0, 4, 159, 0, 0, 0), (8, 0, 160, 498, 272, 1), (9, 0, 163, 0, 0, 0), (0, 4, 164, 0, 0, 0), (6, 0, 165, 334, 12, 72), (9, 0, 168, 0, 0, 0), (0, 0, 169, -1, 0, 0), (9, 0, 170, 0, 0, 0)]
def kJ6_bitCount_0f7a4 : List OP := [(0, 2, 0, 0, 0, 0), (0, 2, 1, 0, 0, 0), (0, 0, 2, 1, 0, 0), (1, 8, 3, 0, 0, 0), (0, 0, 4, 1431655765, 265, 4), (1, 3, 7, 0, 0, 0), (1, 1, 8, 0, 0, 0), (0, 5, 9, 0, 0, 0), (0, 2, 10, 0, 0, 0), (0, 0, 11, 858993459, 266, 4), (1, 3, 14, 0, 0, 0), (0, 2, 15, 0, 0, 0), (0, 0, 16, 2, 0, 0), (1, 8, 17, 0, 0, 0), (0, 0, 18, 858993459, 266, 4), (1, 3, 21, 0, 0, 0), (1, 0, 22, 0, 0, 0), (0, 5, 23, 0, 0, 0), (0, 2, 24, 0, 0, 0), (0, 2, 25, 0, 0, 0), (0, 0, 26, 4, 0, 0), (1, 8, 27, 0, 0, 0), (1, 0, 28, 0, 0, 0), (0, 0, 29, 252645135, 267, 4), (1, 3, 32, 0, 0, 0), (0, 5, 33, 0, 0, 0), (0, 2, 34, 0, 0, 0), (0, 2, 35, 0, 0, 0), (0, 0, 36, 8, 0, 1), (1, 8, 38, 0, 0, 0), (1, 0, 39, 0, 0, 0), (0, 5, 40, 0, 0, 0), (0, 2, 41, 0, 0, 0), (0, 2, 42, 0, 0, 0), (0, 0, 43, 16, 0, 1), (1, 8, 45, 0, 0, 0), (1, 0, 46, 0, 0, 0), (0, 5, 47, 0, 0, 0), (0, 2, 48, 0, 0, 0), (0, 0, 49, 63, 0, 1), (1, 3, 51, 0, 0, 0), (9, 0, 52, 0, 0, 0)]
def codT : List (List OP) := [kX0_begin, kX0_drawBlight, kX0_otherwise, kX0_years, kX0_year, kX0_growAll, kX0_blightAll, kX0_bestFor, kX0_gives, kX0_esteem, kX0_judgeLaw, kX0_ownLaw, kX0_tell, kX1_isEmpty, kX1_many, kX1_forget, kX1_noteShow, kX1_noteRaise, kX1_noteHand, kX1_add, kX1_dropFirst, kX1_takeBack, kX2_clear, kX2_numberOf, kX2_far, kX2_wayFrom, kX3_clear, kX3_isTold, kX3_add, kX3_binding, kX3_worked, kX3_joined, kX4_told, kX4_take, kX4_seekFree, kX4_isFreed, kX4_turn, kX4_aim, kX4_seekLead, kX4_areFound, kX4_seekTwoLeads, kX4_matter, kX4_isMissing, kX4_add, kX4_comes, kX5_clear, kX5_become, kX5_isSeen, kX5_setSeen, kX5_countSeen, kX5_addWorth, kX5_worthOf, kX5_pass, kX5_retain, kX5_draw, kX6_exchange, kX6_read, kX6_readLine, kX6_readGrower, kX6_readSees, kX6_readRibbon, kX6_readBlight, kX6_readSeed, kX6_readLaw, kX6_readExpression, kX6_readValue, kX6_readBehind, kX6_joiningSign, kX6_defer, kX6_release, kX6_countKnot, kX6_toldGrower, kX6_takeNumber, kX6_takeSign, kX6_fail, kX6_failed, kX7_prepare, kX7_isSeen, kX7_turn, kX7_follow, kX7_since, kX7_bestFor, kX8_at, kX8_seekWalk, kX8_seekOrder, kX8_begin, kX8_take, kX8_advance, kX8_swap, kX9_hasRoom, kX9_add, kX9_begin, kX9_advance, kX9_isWord, kX9_isSign, kX9_isLetter, kX9_isDigit, kX9_readWord, kX9_readNumber, kX9_readSign, kX9_signOf, kX10_forget, kX10_end, kX10_addHanding, kX10_addSight, kX10_addStrike, kX10_add, kX10_mark, kX10_clashes, kX10_lastYear, kX10_isSo, kX11_feed, kX11_text, kX11_fault, kX11_named, kX11_ribbon, kX11_judged, kX11_best, kX11_law, kX11_show, kX11_raise, kX11_hand, kX11_go, kX11_ahead, kX11_ring, kX11_free, kX11_lead, kX11_walk, kX11_meet, kX11_reach, kX11_deserves, kX11_order, kX11_rests, kX11_rest, kX11_visit, kX11_hosts, kX11_rank, kX11_keepers, kX11_comesTo, kX11_popular, kX11_mutual, kX11_lonely, kX11_note, kX11_see, kX11_strike, kX11_known, kX11_doubts, kX11_chance, kX11_tried, kX11_undo, kX11_keep, kX11_back, kX11_count, kX11_isGrower, kX11_isRibbon, kX11_areTwo, kX11_isWithin, kX11_has, kX11_beginAnew, kX11_ribbonsOf, kX11_isRest, kX11_share, kX11_areSightsSo, kX12_thrown, kX12_feed, kX12_isIn, kX12_isOf, kX12_wrong, kX12_wordAt, kX12_isSmall, kX12_isDigit, kX12_token, kX12_signToken, kX12_packed, kX12_isKey, kX12_isSign, kX12_number, kX12_signed, kX12_plain, kX12_copies, kX12_keepText, kX12_find, kX12_growerThere, kX12_growerLine, kX12_seesLine, kX12_ribbonLine, kX12_onceLine, kX12_lineRead, kX12_text, kX12_fault, kX12_named, kX12_rankOf, kX12_grown, kX12_dropHeld, kX12_bind, kX12_isCounted, kX12_waitsFor, kX12_nameMet, kX12_leafRead, kX12_signs, kX12_sumRead, kX12_bounded, kX12_compares, kX12_times, kX12_valueOf, kX12_begin, kX12_atFirst, kX12_plainTried, kX12_layTried, kX12_isGrower, kX12_isRibbon, kX12_areTwo, kX12_apart, kX12_doubtIn, kX12_layNames, kX12_lawOf, kX12_boundLaw, kX12_judgedBy, kX12_seenBy, kX12_bestOf, kX12_gives, kX12_number1, kX12_isBlight, kX12_hands, kX12_yearGoes, kX12_goMany, kX12_fails, kX12_ribbonsOf, kX12_grower, kX12_ribbon, kX12_judged, kX12_best, kX12_law, kX12_show, kX12_raise, kX12_hand, kX12_go, kX12_handedAll, kX12_ahead, kX12_ringOf, kX12_ring, kX12_turns, kX12_mayTurn, kX12_isSoBy, kX12_changes, kX12_changed, kX12_free, kX12_lead, kX12_rowsOf, kX12_layRow, kX12_walk, kX12_meet, kX12_reach, kX12_deserves, kX12_wayBy, kX12_visit, kX12_hosts, kX12_rank, kX12_keepers, kX12_comesTo, kX12_popular, kX12_mutual, kX12_lonely, kX12_hasBy, kX12_restAt, kX12_rests, kX12_rest, kX12_lays, kX12_note, kX12_see, kX12_strike, kX12_known, kX12_knownBy, kX12_layCounts, kX12_clashesOf, kX12_order, kX12_isSo, kX12_fits, kX12_doubts, kX12_chance, kX12_tried, kX12_put, kX12_take, kX12_remember, kX12_undo, kX12_keep, kX12_back, kX12_count, kJ6_bitCount_0f7a4]
def mYT : List MethodName := [yX0_begin, yX0_drawBlight, yX0_otherwise, yX0_years, yX0_year, yX0_growAll, yX0_blightAll, yX0_bestFor, yX0_gives, yX0_esteem, yX0_judgeLaw, yX0_ownLaw, yX0_tell, yX1_isEmpty, yX1_many, yX1_forget, yX1_noteShow, yX1_noteRaise, yX1_noteHand, yX1_add, yX1_dropFirst, yX1_takeBack, yX2_clear, yX2_numberOf, yX2_far, yX2_wayFrom, yX3_clear, yX3_isTold, yX3_add, yX3_binding, yX3_worked, yX3_joined, yX4_told, yX4_take, yX4_seekFree, yX4_isFreed, yX4_turn, yX4_aim, yX4_seekLead, yX4_areFound, yX4_seekTwoLeads, yX4_matter, yX4_isMissing, yX4_add, yX4_comes, yX5_clear, yX5_become, yX5_isSeen, yX5_setSeen, yX5_countSeen, yX5_addWorth, yX5_worthOf, yX5_pass, yX5_retain, yX5_draw, yX6_exchange, yX6_read, yX6_readLine, yX6_readGrower, yX6_readSees, yX6_readRibbon, yX6_readBlight, yX6_readSeed, yX6_readLaw, yX6_readExpression, yX6_readValue, yX6_readBehind, yX6_joiningSign, yX6_defer, yX6_release, yX6_countKnot, yX6_toldGrower, yX6_takeNumber, yX6_takeSign, yX6_fail, yX6_failed, yX7_prepare, yX7_isSeen, yX7_turn, yX7_follow, yX7_since, yX7_bestFor, yX8_at, yX8_seekWalk, yX8_seekOrder, yX8_begin, yX8_take, yX8_advance, yX8_swap, yX9_hasRoom, yX9_add, yX9_begin, yX9_advance, yX9_isWord, yX9_isSign, yX9_isLetter, yX9_isDigit, yX9_readWord, yX9_readNumber, yX9_readSign, yX9_signOf, yX10_forget, yX10_end, yX10_addHanding, yX10_addSight, yX10_addStrike, yX10_add, yX10_mark, yX10_clashes, yX10_lastYear, yX10_isSo, yX11_feed, yX11_text, yX11_fault, yX11_named, yX11_ribbon, yX11_judged, yX11_best, yX11_law, yX11_show, yX11_raise, yX11_hand, yX11_go, yX11_ahead, yX11_ring, yX11_free, yX11_lead, yX11_walk, yX11_meet, yX11_reach, yX11_deserves, yX11_order, yX11_rests, yX11_rest, yX11_visit, yX11_hosts, yX11_rank, yX11_keepers, yX11_comesTo, yX11_popular, yX11_mutual, yX11_lonely, yX11_note, yX11_see, yX11_strike, yX11_known, yX11_doubts, yX11_chance, yX11_tried, yX11_undo, yX11_keep, yX11_back, yX11_count, yX11_isGrower, yX11_isRibbon, yX11_areTwo, yX11_isWithin, yX11_has, yX11_beginAnew, yX11_ribbonsOf, yX11_isRest, yX11_share, yX11_areSightsSo, yX12_thrown, yX12_feed, yX12_isIn, yX12_isOf, yX12_wrong, yX12_wordAt, yX12_isSmall, yX12_isDigit, yX12_token, yX12_signToken, yX12_packed, yX12_isKey, yX12_isSign, yX12_number, yX12_signed, yX12_plain, yX12_copies, yX12_keepText, yX12_find, yX12_growerThere, yX12_growerLine, yX12_seesLine, yX12_ribbonLine, yX12_onceLine, yX12_lineRead, yX12_text, yX12_fault, yX12_named, yX12_rankOf, yX12_grown, yX12_dropHeld, yX12_bind, yX12_isCounted, yX12_waitsFor, yX12_nameMet, yX12_leafRead, yX12_signs, yX12_sumRead, yX12_bounded, yX12_compares, yX12_times, yX12_valueOf, yX12_begin, yX12_atFirst, yX12_plainTried, yX12_layTried, yX12_isGrower, yX12_isRibbon, yX12_areTwo, yX12_apart, yX12_doubtIn, yX12_layNames, yX12_lawOf, yX12_boundLaw, yX12_judgedBy, yX12_seenBy, yX12_bestOf, yX12_gives, yX12_number1, yX12_isBlight, yX12_hands, yX12_yearGoes, yX12_goMany, yX12_fails, yX12_ribbonsOf, yX12_grower, yX12_ribbon, yX12_judged, yX12_best, yX12_law, yX12_show, yX12_raise, yX12_hand, yX12_go, yX12_handedAll, yX12_ahead, yX12_ringOf, yX12_ring, yX12_turns, yX12_mayTurn, yX12_isSoBy, yX12_changes, yX12_changed, yX12_free, yX12_lead, yX12_rowsOf, yX12_layRow, yX12_walk, yX12_meet, yX12_reach, yX12_deserves, yX12_wayBy, yX12_visit, yX12_hosts, yX12_rank, yX12_keepers, yX12_comesTo, yX12_popular, yX12_mutual, yX12_lonely, yX12_hasBy, yX12_restAt, yX12_rests, yX12_rest, yX12_lays, yX12_note, yX12_see, yX12_strike, yX12_known, yX12_knownBy, yX12_layCounts, yX12_clashesOf, yX12_order, yX12_isSo, yX12_fits, yX12_doubts, yX12_chance, yX12_tried, yX12_put, yX12_take, yX12_remember, yX12_undo, yX12_keep, yX12_back, yX12_count, yJ6_bitCount_0f7a4]
def mCT : List ByteArray := [cX0_begin, cX0_drawBlight, cX0_otherwise, cX0_years, cX0_year, cX0_growAll, cX0_blightAll, cX0_bestFor, cX0_gives, cX0_esteem, cX0_judgeLaw, cX0_ownLaw, cX0_tell, cX1_isEmpty, cX1_many, cX1_forget, cX1_noteShow, cX1_noteRaise, cX1_noteHand, cX1_add, cX1_dropFirst, cX1_takeBack, cX2_clear, cX2_numberOf, cX2_far, cX2_wayFrom, cX3_clear, cX3_isTold, cX3_add, cX3_binding, cX3_worked, cX3_joined, cX4_told, cX4_take, cX4_seekFree, cX4_isFreed, cX4_turn, cX4_aim, cX4_seekLead, cX4_areFound, cX4_seekTwoLeads, cX4_matter, cX4_isMissing, cX4_add, cX4_comes, cX5_clear, cX5_become, cX5_isSeen, cX5_setSeen, cX5_countSeen, cX5_addWorth, cX5_worthOf, cX5_pass, cX5_retain, cX5_draw, cX6_exchange, cX6_read, cX6_readLine, cX6_readGrower, cX6_readSees, cX6_readRibbon, cX6_readBlight, cX6_readSeed, cX6_readLaw, cX6_readExpression, cX6_readValue, cX6_readBehind, cX6_joiningSign, cX6_defer, cX6_release, cX6_countKnot, cX6_toldGrower, cX6_takeNumber, cX6_takeSign, cX6_fail, cX6_failed, cX7_prepare, cX7_isSeen, cX7_turn, cX7_follow, cX7_since, cX7_bestFor, cX8_at, cX8_seekWalk, cX8_seekOrder, cX8_begin, cX8_take, cX8_advance, cX8_swap, cX9_hasRoom, cX9_add, cX9_begin, cX9_advance, cX9_isWord, cX9_isSign, cX9_isLetter, cX9_isDigit, cX9_readWord, cX9_readNumber, cX9_readSign, cX9_signOf, cX10_forget, cX10_end, cX10_addHanding, cX10_addSight, cX10_addStrike, cX10_add, cX10_mark, cX10_clashes, cX10_lastYear, cX10_isSo, cX11_feed, cX11_text, cX11_fault, cX11_named, cX11_ribbon, cX11_judged, cX11_best, cX11_law, cX11_show, cX11_raise, cX11_hand, cX11_go, cX11_ahead, cX11_ring, cX11_free, cX11_lead, cX11_walk, cX11_meet, cX11_reach, cX11_deserves, cX11_order, cX11_rests, cX11_rest, cX11_visit, cX11_hosts, cX11_rank, cX11_keepers, cX11_comesTo, cX11_popular, cX11_mutual, cX11_lonely, cX11_note, cX11_see, cX11_strike, cX11_known, cX11_doubts, cX11_chance, cX11_tried, cX11_undo, cX11_keep, cX11_back, cX11_count, cX11_isGrower, cX11_isRibbon, cX11_areTwo, cX11_isWithin, cX11_has, cX11_beginAnew, cX11_ribbonsOf, cX11_isRest, cX11_share, cX11_areSightsSo, cX12_thrown, cX12_feed, cX12_isIn, cX12_isOf, cX12_wrong, cX12_wordAt, cX12_isSmall, cX12_isDigit, cX12_token, cX12_signToken, cX12_packed, cX12_isKey, cX12_isSign, cX12_number, cX12_signed, cX12_plain, cX12_copies, cX12_keepText, cX12_find, cX12_growerThere, cX12_growerLine, cX12_seesLine, cX12_ribbonLine, cX12_onceLine, cX12_lineRead, cX12_text, cX12_fault, cX12_named, cX12_rankOf, cX12_grown, cX12_dropHeld, cX12_bind, cX12_isCounted, cX12_waitsFor, cX12_nameMet, cX12_leafRead, cX12_signs, cX12_sumRead, cX12_bounded, cX12_compares, cX12_times, cX12_valueOf, cX12_begin, cX12_atFirst, cX12_plainTried, cX12_layTried, cX12_isGrower, cX12_isRibbon, cX12_areTwo, cX12_apart, cX12_doubtIn, cX12_layNames, cX12_lawOf, cX12_boundLaw, cX12_judgedBy, cX12_seenBy, cX12_bestOf, cX12_gives, cX12_number1, cX12_isBlight, cX12_hands, cX12_yearGoes, cX12_goMany, cX12_fails, cX12_ribbonsOf, cX12_grower, cX12_ribbon, cX12_judged, cX12_best, cX12_law, cX12_show, cX12_raise, cX12_hand, cX12_go, cX12_handedAll, cX12_ahead, cX12_ringOf, cX12_ring, cX12_turns, cX12_mayTurn, cX12_isSoBy, cX12_changes, cX12_changed, cX12_free, cX12_lead, cX12_rowsOf, cX12_layRow, cX12_walk, cX12_meet, cX12_reach, cX12_deserves, cX12_wayBy, cX12_visit, cX12_hosts, cX12_rank, cX12_keepers, cX12_comesTo, cX12_popular, cX12_mutual, cX12_lonely, cX12_hasBy, cX12_restAt, cX12_rests, cX12_rest, cX12_lays, cX12_note, cX12_see, cX12_strike, cX12_known, cX12_knownBy, cX12_layCounts, cX12_clashesOf, cX12_order, cX12_isSo, cX12_fits, cX12_doubts, cX12_chance, cX12_tried, cX12_put, cX12_take, cX12_remember, cX12_undo, cX12_keep, cX12_back, cX12_count, cJ6_bitCount_0f7a4]
def mLT : List Nat := [3, 1, 4, 3, 4, 4, 2, 6, 3, 6, 3, 4, 5, 1, 1, 1, 3, 3, 4, 4, 1, 3, 2, 3, 4, 7, 1, 1, 2, 1, 8, 9, 3, 4, 4, 3, 3, 4, 6, 1, 6, 3, 5, 2, 4, 2, 2, 3, 4, 3, 4, 4, 3, 2, 1, 3, 3, 1, 3, 3, 2, 1, 1, 3, 4, 3, 5, 1, 2, 3, 1, 2, 2, 2, 2, 2, 5, 2, 2, 5, 5, 5, 2, 7, 8, 4, 3, 5, 4, 1, 3, 2, 1, 2, 2, 2, 2, 4, 2, 3, 1, 1, 1, 3, 6, 2, 4, 3, 7, 3, 5, 6, 3, 2, 2, 3, 3, 2, 4, 4, 3, 3, 2, 5, 3, 3, 5, 3, 2, 5, 3, 2, 5, 6, 8, 5, 6, 3, 4, 6, 4, 3, 3, 5, 2, 2, 4, 9, 5, 1, 1, 1, 2, 2, 2, 3, 3, 2, 1, 4, 6, 6, 3, 1, 8, 3, 2, 2, 8, 2, 2, 1, 4, 5, 2, 2, 3, 3, 2, 3, 2, 5, 2, 2, 3, 1, 3, 3, 3, 2, 2, 1, 4, 1, 5, 1, 2, 1, 2, 2, 1, 3, 5, 6, 6, 1, 3, 1, 2, 2, 2, 3, 2, 2, 5, 3, 7, 5, 4, 8, 6, 2, 1, 4, 5, 3, 2, 5, 3, 3, 3, 2, 6, 4, 4, 3, 3, 4, 4, 7, 4, 2, 3, 6, 7, 3, 3, 5, 3, 10, 11, 2, 5, 3, 7, 9, 5, 4, 3, 4, 6, 4, 3, 5, 8, 3, 4, 7, 3, 5, 2, 2, 1, 2, 7, 6, 4, 4, 4, 9, 4, 4, 4, 2, 1, 1, 1, 4, 1]
def mRT : List (Option FieldType) := [none, none, none, none, none, none, none, (some (.int)), (some (.boolean)), (some (.int)), (some (.long)), (some (.long)), none, (some (.boolean)), (some (.int)), none, none, none, none, none, none, (some (.int)), none, (some (.int)), (some (.int)), (some (.int)), none, (some (.boolean)), none, (some (.int)), (some (.long)), (some (.long)), (some (.int)), none, none, (some (.boolean)), none, none, none, (some (.boolean)), none, (some (.boolean)), (some (.boolean)), none, (some (.boolean)), none, none, (some (.boolean)), none, (some (.int)), none, (some (.int)), none, none, (some (.int)), (some (.object "RibbonRun$Garden")), (some (.int)), (some (.boolean)), (some (.boolean)), (some (.boolean)), (some (.boolean)), (some (.boolean)), (some (.boolean)), (some (.boolean)), (some (.boolean)), (some (.int)), (some (.int)), (some (.int)), none, none, (some (.boolean)), (some (.int)), (some (.boolean)), (some (.boolean)), (some (.boolean)), (some (.int)), none, (some (.boolean)), none, none, (some (.int)), (some (.int)), (some (.int)), none, none, none, none, (some (.boolean)), none, (some (.boolean)), none, none, none, (some (.boolean)), (some (.boolean)), (some (.boolean)), (some (.boolean)), none, none, none, (some (.int)), none, (some (.int)), (some (.int)), (some (.int)), (some (.int)), (some (.int)), none, (some (.int)), (some (.int)), (some (.boolean)), (some (.int)), (some (.int)), (some (.int)), (some (.int)), (some (.int)), (some (.int)), (some (.int)), (some (.long)), (some (.boolean)), (some (.int)), (some (.boolean)), (some (.int)), (some (.int)), (some (.int)), (some (.int)), (some (.int)), (some (.int)), (some (.int)), (some (.int)), (some (.int)), (some (.int)), (some (.int)), (some (.int)), (some (.int)), (some (.int)), (some (.int)), (some (.int)), (some (.int)), (some (.int)), (some (.int)), (some (.int)), (some (.int)), (some (.int)), (some (.int)), (some (.boolean)), (some (.int)), (some (.int)), (some (.int)), (some (.int)), (some (.int)), (some (.int)), (some (.int)), (some (.boolean)), (some (.boolean)), (some (.boolean)), (some (.boolean)), (some (.boolean)), none, (some (.int)), (some (.boolean)), (some (.int)), (some (.boolean)), (some (.int)), (some (.int)), (some (.boolean)), (some (.boolean)), (some (.boolean)), (some (.int)), (some (.boolean)), (some (.boolean)), none, none, (some (.int)), (some (.boolean)), (some (.boolean)), (some (.boolean)), (some (.boolean)), none, none, none, (some (.int)), (some (.boolean)), (some (.boolean)), (some (.boolean)), (some (.boolean)), (some (.boolean)), (some (.boolean)), (some (.int)), (some (.int)), (some (.int)), (some (.int)), none, (some (.int)), none, (some (.boolean)), none, (some (.int)), (some (.boolean)), (some (.boolean)), (some (.boolean)), (some (.long)), (some (.boolean)), (some (.long)), (some (.long)), none, none, none, none, (some (.boolean)), (some (.boolean)), (some (.boolean)), (some (.int)), (some (.int)), none, (some (.long)), (some (.int)), (some (.int)), (some (.int)), (some (.int)), (some (.boolean)), (some (.int)), (some (.boolean)), none, none, none, (some (.int)), (some (.int)), (some (.int)), (some (.int)), (some (.int)), (some (.int)), (some (.long)), (some (.boolean)), (some (.int)), (some (.boolean)), (some (.int)), (some (.int)), (some (.int)), (some (.int)), (some (.int)), none, (some (.boolean)), (some (.boolean)), (some (.boolean)), (some (.int)), (some (.int)), (some (.int)), (some (.int)), none, (some (.int)), (some (.int)), (some (.int)), (some (.int)), (some (.int)), (some (.int)), (some (.int)), (some (.int)), (some (.int)), (some (.int)), (some (.int)), (some (.int)), (some (.int)), (some (.int)), (some (.int)), (some (.int)), (some (.int)), (some (.int)), (some (.int)), (some (.int)), (some (.int)), (some (.boolean)), (some (.int)), none, (some (.int)), (some (.int)), (some (.boolean)), (some (.boolean)), (some (.int)), (some (.int)), (some (.int)), none, none, none, (some (.int)), (some (.int)), (some (.int)), (some (.int)), (some (.int))]
def mOT : List Nat := [0, 0, 0, 0, 0, 0, 0, 0, 0, 0, 0, 0, 0, 1, 1, 1, 1, 1, 1, 1, 1, 1, 2, 2, 2, 2, 3, 3, 3, 3, 3, 3, 4, 4, 4, 4, 4, 4, 4, 4, 4, 4, 4, 4, 4, 5, 5, 5, 5, 5, 5, 5, 5, 5, 5, 6, 6, 6, 6, 6, 6, 6, 6, 6, 6, 6, 6, 6, 6, 6, 6, 6, 6, 6, 6, 6, 7, 7, 7, 7, 7, 7, 8, 8, 8, 8, 8, 8, 8, 9, 9, 9, 9, 9, 9, 9, 9, 9, 9, 9, 9, 10, 10, 10, 10, 10, 10, 10, 10, 10, 10, 11, 11, 11, 11, 11, 11, 11, 11, 11, 11, 11, 11, 11, 11, 11, 11, 11, 11, 11, 11, 11, 11, 11, 11, 11, 11, 11, 11, 11, 11, 11, 11, 11, 11, 11, 11, 11, 11, 11, 11, 11, 11, 11, 11, 11, 11, 11, 11, 11, 11, 11, 11, 12, 12, 12, 12, 12, 12, 12, 12, 12, 12, 12, 12, 12, 12, 12, 12, 12, 12, 12, 12, 12, 12, 12, 12, 12, 12, 12, 12, 12, 12, 12, 12, 12, 12, 12, 12, 12, 12, 12, 12, 12, 12, 12, 12, 12, 12, 12, 12, 12, 12, 12, 12, 12, 12, 12, 12, 12, 12, 12, 12, 12, 12, 12, 12, 12, 12, 12, 12, 12, 12, 12, 12, 12, 12, 12, 12, 12, 12, 12, 12, 12, 12, 12, 12, 12, 12, 12, 12, 12, 12, 12, 12, 12, 12, 12, 12, 12, 12, 12, 12, 12, 12, 12, 12, 12, 12, 12, 12, 12, 12, 12, 12, 12, 12, 12, 12, 12, 12, 12, 12, 12, 12, 12, 12, 12, 13]
def mST : List Bool := [false, false, false, false, false, false, false, false, false, false, false, false, false, false, false, false, false, false, false, false, false, false, false, false, false, false, false, false, false, true, false, true, false, false, false, true, true, false, false, false, false, false, true, true, false, false, false, false, false, false, false, false, false, false, false, false, false, false, false, false, false, false, false, false, false, false, false, false, false, false, false, false, false, false, false, false, false, false, false, false, false, false, false, false, false, false, false, false, false, false, false, false, false, false, false, false, false, false, false, false, true, false, false, false, false, false, false, false, false, false, false, false, false, false, false, false, false, false, false, false, false, false, false, false, false, false, false, false, false, false, false, false, false, false, false, false, false, false, false, false, false, false, false, false, false, false, false, false, false, false, false, false, false, false, false, false, true, true, false, false, false, false, false, false, false, true, true, false, false, false, false, false, false, false, false, false, false, false, false, true, false, true, false, false, false, false, false, false, false, false, false, true, false, false, false, false, false, false, false, false, false, false, true, false, false, false, false, false, false, false, false, false, true, false, false, false, false, false, false, false, false, false, false, false, false, false, false, false, false, false, false, false, false, false, false, false, false, false, false, false, false, false, false, false, false, false, false, false, true, false, false, false, false, false, false, false, false, false, false, false, false, false, false, false, false, false, false, false, false, false, false, false, false, false, false, false, false, false, false, false, false, false, false, false, false, false, false, false, true]
def mFT : List Nat := [2, 0, 1, 5, 4, 3, 1, 3, 3, 2, 2, 2, 0, 0, 0, 0, 3, 3, 3, 2, 1, 0, 1, 0, 0, 1, 0, 0, 0, 0, 1, 0, 0, 0, 4, 3, 1, 0, 6, 0, 6, 1, 2, 1, 5, 0, 1, 1, 0, 1, 0, 1, 0, 0, 0, 0, 6, 5, 4, 3, 3, 4, 4, 4, 3, 2, 2, 1, 0, 1, 0, 1, 3, 3, 0, 1, 4, 1, 0, 2, 1, 1, 0, 2, 2, 0, 1, 1, 0, 0, 0, 3, 2, 0, 0, 0, 0, 1, 1, 1, 0, 0, 0, 1, 1, 1, 0, 1, 0, 0, 0, 1, 7, 0, 1, 1, 3, 4, 3, 4, 4, 4, 6, 6, 5, 5, 7, 3, 5, 1, 0, 3, 2, 2, 2, 5, 1, 4, 5, 2, 2, 0, 2, 2, 2, 1, 6, 6, 6, 1, 2, 2, 2, 0, 0, 1, 0, 0, 3, 0, 1, 0, 5, 0, 0, 0, 0, 0, 0, 0, 0, 1, 0, 0, 0, 0, 2, 3, 0, 0, 2, 0, 2, 4, 3, 3, 3, 5, 6, 0, 1, 0, 0, 0, 1, 1, 0, 0, 2, 2, 3, 0, 0, 0, 1, 1, 0, 0, 1, 0, 0, 1, 0, 0, 1, 2, 3, 4, 0, 5, 3, 0, 1, 0, 6, 7, 0, 0, 1, 1, 5, 6, 3, 2, 2, 2, 7, 0, 8, 6, 7, 0, 2, 8, 9, 0, 10, 10, 0, 1, 2, 7, 1, 0, 1, 2, 7, 1, 4, 7, 0, 1, 0, 0, 1, 2, 2, 0, 2, 1, 1, 1, 0, 1, 1, 2, 1, 7, 8, 8, 8, 0, 0, 1, 1, 1, 1, 1, 0]
def mQT : List Nat := [69, 0, 23, 128, 105, 78, 23, 80, 78, 55, 55, 55, 0, 0, 0, 0, 91, 91, 91, 68, 48, 0, 21, 0, 0, 21, 0, 0, 0, 0, 28, 0, 0, 0, 91, 69, 21, 0, 151, 0, 151, 21, 43, 23, 128, 0, 48, 21, 0, 20, 0, 21, 0, 0, 0, 0, 132, 112, 85, 64, 64, 85, 85, 90, 67, 42, 43, 22, 0, 21, 0, 22, 64, 64, 0, 21, 100, 21, 0, 45, 21, 21, 0, 70, 70, 0, 48, 23, 0, 0, 0, 64, 44, 0, 0, 0, 0, 21, 21, 20, 0, 0, 0, 23, 23, 23, 0, 20, 0, 0, 0, 22, 154, 0, 22, 21, 80, 105, 78, 113, 113, 114, 150, 150, 124, 124, 176, 96, 128, 21, 0, 97, 50, 50, 47, 128, 21, 105, 128, 43, 43, 0, 45, 48, 44, 22, 150, 150, 150, 22, 69, 69, 44, 0, 0, 21, 0, 0, 91, 0, 25, 0, 128, 0, 0, 0, 0, 0, 0, 0, 0, 27, 0, 0, 0, 0, 47, 69, 0, 0, 42, 0, 47, 91, 68, 68, 69, 112, 134, 0, 24, 0, 0, 0, 23, 21, 0, 0, 47, 47, 68, 0, 0, 0, 25, 22, 0, 0, 20, 0, 0, 21, 0, 0, 21, 50, 72, 98, 0, 122, 72, 0, 21, 0, 149, 173, 0, 0, 24, 21, 122, 149, 72, 44, 44, 44, 173, 0, 195, 149, 175, 0, 43, 195, 220, 0, 246, 246, 0, 22, 51, 173, 21, 0, 21, 47, 173, 21, 97, 173, 0, 21, 0, 0, 24, 51, 51, 0, 43, 26, 26, 22, 0, 20, 21, 51, 20, 173, 196, 195, 195, 0, 0, 23, 23, 23, 23, 23, 0]
def mPT : List Nat := [2, 0, 2, 1, 0, 0, 0, 1, 2, 2, 2, 3, 4, 0, 0, 0, 2, 2, 3, 3, 0, 1, 0, 1, 2, 2, 0, 0, 1, 1, 2, 3, 1, 3, 1, 3, 3, 3, 3, 0, 3, 2, 3, 2, 1, 0, 1, 2, 3, 0, 2, 1, 2, 1, 0, 1, 1, 0, 0, 0, 0, 0, 0, 0, 1, 2, 1, 0, 1, 2, 0, 0, 1, 1, 1, 1, 2, 1, 1, 0, 2, 1, 1, 2, 3, 2, 2, 0, 2, 0, 1, 1, 0, 1, 1, 1, 1, 0, 0, 1, 1, 0, 0, 2, 4, 1, 3, 0, 3, 0, 2, 5, 1, 1, 1, 2, 2, 1, 3, 3, 2, 2, 1, 3, 2, 2, 4, 2, 0, 1, 0, 1, 2, 3, 3, 2, 1, 0, 2, 0, 0, 0, 2, 4, 1, 1, 1, 4, 3, 0, 0, 0, 1, 1, 1, 2, 3, 2, 0, 1, 3, 4, 0, 0, 5, 3, 2, 1, 2, 1, 1, 0, 0, 2, 1, 1, 2, 1, 0, 2, 0, 4, 0, 0, 0, 0, 2, 0, 1, 1, 1, 1, 3, 0, 1, 0, 1, 0, 0, 0, 0, 1, 3, 2, 1, 0, 1, 0, 0, 1, 1, 2, 2, 1, 4, 1, 4, 3, 2, 2, 3, 1, 0, 3, 1, 1, 1, 2, 2, 2, 2, 1, 3, 3, 2, 2, 1, 1, 3, 2, 2, 1, 2, 5, 3, 1, 2, 4, 1, 3, 2, 0, 1, 0, 2, 3, 2, 1, 0, 2, 0, 0, 0, 4, 3, 2, 3, 5, 2, 4, 1, 1, 0, 0, 0, 1, 1, 2, 1, 4, 3, 2, 2, 0, 0, 0, 0, 1, 1]
def nM : Nat := 289
def cod (M : Nat) : List OP := codT.getD M []
def mY (M : Nat) : MethodName := mYT.getD M ⟨"", "", ""⟩
def mC (M : Nat) : ByteArray := mCT.getD M ⟨#[]⟩
def mL (M : Nat) : Nat := mLT.getD M 0
def mR (M : Nat) : Option FieldType := mRT.getD M none
def mO (M : Nat) : Nat := mOT.getD M 99
def mS (M : Nat) : Bool := mST.getD M false
def mF (M : Nat) : Nat := mFT.getD M 0
def mQ (M : Nat) : Nat := mQT.getD M 0
def mP (M : Nat) : Nat := mPT.getD M 99
/-- switch tables: targets; offsets as they stand; the default's, the highest, the length -/
def swT : List (List Nat × Array Int × Int × Int × Nat) := [([2, 14, 126, 26, 34, 42, 50, 58, 66, 74, 78, 82, 116], #[67, 85, 256, 103, 115, 127, 139, 151, 163, 175, 179, 183, 240], 256, 12, 67), ([13, 16, 19, 22, 25, 28], #[40, 45, 50, 55, 60, 65], 70, 5, 40), ([16, 18, 12, 8, 22, 10, 22, 14, 22, 22, 22, 22, 22, 22, 22, 22, 22, 22, 22, 20, 2, 6, 4], #[126, 129, 120, 114, 135, 117, 135, 123, 135, 135, 135, 135, 135, 135, 135, 135, 135, 135, 135, 132, 107, 112, 109], 135, 62, 107), ([8, 15, 22], #[25, 38, 51], 64, 2, 25), ([41, 48, 62], #[27, 40, 66], 79, 2, 27), ([2, 6, 11, 15, 19, 24, 38, 50, 54, 58], #[55, 63, 74, 82, 90, 101, 127, 149, 157, 165], 173, 9, 55), ([15, 19, 23, 27, 33], #[34, 42, 50, 58, 69], 80, 4, 34), ([2, 10, 18, 26, 34], #[35, 47, 59, 71, 83], 95, 9, 35), ([60, 72, 122, 122, 122, 122, 122, 122, 84, 90, 96, 101], #[64, 83, 167, 167, 167, 167, 167, 167, 102, 111, 120, 128], 167, 14, 64), ([13, 18, 23, 28, 33, 38, 43], #[44, 51, 58, 65, 72, 79, 86], 93, 6, 44), ([36, 43, 55], #[26, 35, 51], 61, 2, 26), ([7, 10, 34, 37, 40, 45, 49, 66, 69, 72], #[56, 61, 96, 101, 106, 113, 119, 146, 151, 156], 161, 9, 56)]
def sw (b : Nat) : List Nat × Array Int × Int × Int × Nat := swT.getD b ([], #[], 0, 0, 0)
/-- links that are used: own class, entry, class and field or method; their places among the words -/
def flT : List (Nat × Nat × Nat × Nat) := [(0, 12, 0, 0), (0, 18, 0, 1), (0, 22, 0, 2), (0, 26, 0, 3), (0, 29, 0, 5), (0, 33, 0, 6), (0, 37, 0, 4), (0, 45, 2, 7), (0, 54, 2, 2), (0, 57, 2, 0), (0, 64, 5, 4), (0, 76, 2, 1), (0, 79, 5, 5), (0, 86, 5, 6), (0, 101, 5, 0), (0, 109, 2, 6), (0, 137, 2, 9), (0, 147, 5, 2), (0, 150, 5, 3), (1, 11, 1, 0), (1, 15, 1, 1), (1, 18, 1, 2), (1, 21, 1, 3), (1, 24, 1, 4), (1, 27, 1, 5), (1, 30, 1, 6), (1, 38, 5, 3), (1, 43, 5, 5), (1, 44, 5, 6), (1, 54, 5, 4), (1, 57, 5, 2), (1, 60, 5, 7), (2, 9, 2, 0), (2, 15, 2, 1), (2, 18, 2, 2), (2, 21, 2, 3), (2, 24, 2, 4), (2, 27, 2, 5), (2, 37, 2, 8), (2, 43, 2, 9), (2, 50, 2, 10), (3, 9, 3, 0), (3, 15, 3, 1), (4, 9, 4, 0), (4, 15, 4, 1), (4, 19, 4, 2), (4, 22, 4, 3), (4, 25, 4, 4), (4, 28, 4, 5), (4, 31, 4, 6), (4, 34, 4, 7), (4, 46, 7, 6), (4, 90, 2, 0), (4, 99, 0, 0), (4, 111, 2, 1), (4, 114, 5, 5), (5, 9, 5, 0), (5, 15, 5, 1), (5, 19, 5, 2), (5, 23, 5, 3), (5, 26, 5, 4), (5, 29, 5, 5), (5, 32, 5, 6), (5, 35, 5, 7), (6, 9, 6, 1), (6, 15, 6, 2), (6, 19, 6, 3), (6, 25, 6, 4), (6, 29, 6, 5), (6, 33, 6, 6), (6, 36, 6, 7), (6, 39, 6, 8), (6, 42, 6, 9), (6, 45, 6, 0), (6, 58, 9, 5), (6, 69, 2, 10), (6, 73, 2, 3), (6, 76, 5, 1), (6, 85, 9, 6), (6, 106, 2, 0), (6, 116, 2, 5), (6, 122, 5, 2), (6, 128, 2, 6), (6, 131, 2, 7), (6, 134, 2, 8), (6, 149, 2, 1), (6, 152, 5, 5), (6, 155, 5, 3), (6, 158, 2, 2), (6, 166, 2, 9), (6, 212, 2, 4), (6, 215, 9, 7), (7, 9, 7, 0), (7, 15, 7, 1), (7, 19, 7, 2), (7, 22, 7, 3), (7, 25, 7, 4), (7, 29, 7, 5), (7, 32, 7, 6), (7, 36, 7, 7), (7, 39, 7, 8), (7, 48, 2, 0), (7, 51, 0, 0), (7, 55, 5, 5), (7, 60, 5, 4), (7, 61, 5, 6), (8, 9, 8, 0), (8, 15, 8, 1), (8, 18, 8, 2), (8, 22, 8, 3), (8, 25, 2, 0), (9, 11, 9, 0), (9, 15, 9, 1), (9, 19, 9, 2), (9, 23, 9, 3), (9, 26, 9, 4), (9, 29, 9, 5), (9, 32, 9, 6), (9, 35, 9, 7), (10, 11, 10, 0), (10, 15, 10, 1), (10, 18, 10, 2), (10, 21, 10, 3), (10, 24, 10, 4), (10, 28, 10, 5), (10, 31, 10, 6), (10, 35, 10, 7), (10, 46, 5, 4), (10, 51, 5, 5), (11, 14, 11, 0), (11, 23, 11, 1), (11, 30, 11, 2), (11, 39, 11, 3), (11, 43, 11, 4), (11, 49, 11, 5), (11, 53, 11, 6), (11, 60, 11, 7), (11, 67, 11, 8), (11, 74, 11, 9), (11, 81, 11, 10), (11, 88, 11, 11), (11, 100, 9, 4), (11, 111, 6, 8), (11, 114, 6, 9), (11, 127, 0, 0), (11, 130, 5, 2), (11, 137, 2, 7), (11, 143, 5, 3), (11, 146, 5, 4), (11, 158, 5, 5), (11, 161, 5, 6), (11, 164, 5, 7), (11, 216, 5, 0), (11, 236, 7, 6), (11, 239, 7, 7), (11, 242, 7, 8), (11, 269, 8, 3), (11, 275, 2, 1), (11, 280, 2, 0), (11, 312, 10, 6), (11, 318, 10, 7), (11, 321, 2, 10), (11, 324, 0, 1), (11, 331, 5, 1), (11, 353, 2, 4), (12, 7, 12, 0), (12, 13, 12, 3), (12, 16, 12, 5), (12, 20, 12, 18), (12, 24, 12, 19), (12, 27, 12, 20), (12, 30, 12, 21), (12, 33, 12, 22), (12, 36, 12, 23), (12, 39, 12, 24), (12, 42, 12, 25), (12, 45, 12, 26), (12, 48, 12, 27), (12, 51, 12, 28), (12, 54, 12, 29), (12, 57, 12, 30), (12, 60, 12, 31), (12, 63, 12, 32), (12, 66, 12, 33), (12, 69, 12, 34), (12, 72, 12, 41), (12, 76, 12, 42), (12, 79, 12, 44), (12, 82, 12, 45), (12, 85, 12, 46), (12, 88, 12, 47), (12, 91, 12, 48), (12, 94, 12, 49), (12, 97, 12, 50), (12, 100, 12, 62), (12, 103, 12, 66), (12, 106, 12, 68), (12, 109, 12, 69), (12, 112, 12, 70), (12, 115, 12, 71), (12, 118, 12, 73), (12, 121, 12, 75), (12, 130, 12, 2), (12, 133, 12, 1), (12, 136, 12, 4), (12, 139, 12, 10), (12, 142, 12, 6), (12, 145, 12, 7), (12, 148, 12, 8), (12, 159, 12, 9), (12, 179, 12, 11), (12, 192, 12, 15), (12, 195, 12, 16), (12, 198, 12, 17), (12, 201, 12, 38), (12, 204, 12, 12), (12, 207, 12, 13), (12, 210, 12, 14), (12, 252, 12, 36), (12, 255, 12, 35), (12, 270, 12, 37), (12, 277, 12, 40), (12, 290, 12, 39), (12, 302, 12, 43), (12, 324, 12, 51), (12, 331, 12, 67), (12, 334, 12, 72), (12, 337, 12, 74), (12, 340, 12, 52), (12, 343, 12, 53), (12, 346, 12, 54), (12, 349, 12, 55), (12, 352, 12, 56), (12, 355, 12, 57), (12, 358, 12, 58), (12, 361, 12, 59), (12, 444, 12, 60), (12, 447, 12, 61), (12, 456, 12, 63), (12, 459, 12, 64), (12, 462, 12, 65), (12, 519, 12, 76), (12, 522, 12, 77)]
def flP : List Nat := [432, 436, 438, 439, 443, 444, 440, 354, 340, 330, 290, 335, 296, 304, 273, 352, 362, 282, 287, 469, 470, 471, 472, 473, 474, 475, 285, 297, 305, 293, 281, 309, 327, 334, 339, 342, 344, 347, 357, 360, 363, 259, 260, 569, 570, 571, 572, 573, 574, 575, 576, 538, 332, 435, 337, 301, 272, 275, 278, 283, 288, 294, 302, 307, 390, 391, 392, 393, 394, 395, 396, 397, 399, 389, 216, 364, 343, 276, 218, 331, 348, 279, 350, 355, 358, 336, 298, 286, 341, 361, 345, 220, 531, 532, 533, 534, 535, 536, 537, 540, 542, 328, 433, 295, 289, 303, 600, 601, 602, 603, 329, 209, 210, 211, 212, 213, 215, 217, 219, 497, 498, 499, 500, 501, 502, 503, 505, 292, 300, 614, 615, 616, 617, 618, 619, 620, 621, 622, 623, 624, 625, 214, 398, 400, 434, 280, 356, 284, 291, 299, 306, 308, 274, 539, 541, 543, 604, 338, 333, 504, 506, 365, 437, 277, 346, 1463, 1466, 1468, 1481, 1482, 1483, 1484, 1485, 1486, 1487, 1488, 1489, 1490, 1491, 1492, 1493, 1494, 1495, 1496, 1497, 1504, 1505, 1507, 1508, 1509, 1510, 1511, 1512, 1513, 1525, 1529, 1531, 1532, 1533, 1534, 1536, 1538, 1465, 1464, 1467, 1473, 1469, 1470, 1471, 1472, 1474, 1478, 1479, 1480, 1501, 1475, 1476, 1477, 1499, 1498, 1500, 1503, 1502, 1506, 1514, 1530, 1535, 1537, 1515, 1516, 1517, 1518, 1519, 1520, 1521, 1522, 1523, 1524, 1526, 1527, 1528, 1539, 1540]
def fnT : List (Nat × Nat × Nat × Nat) := [(4, 107, 0, 4), (7, 42, 0, 4)]
def mlT : List (Nat × Nat × Nat) := [(0, 41, 46), (0, 60, 48), (0, 67, 4), (0, 70, 5), (0, 73, 6), (0, 82, 7), (0, 89, 8), (0, 93, 52), (0, 97, 53), (0, 103, 11), (0, 116, 50), (0, 119, 54), (0, 123, 47), (0, 126, 9), (0, 130, 24), (0, 133, 12), (0, 141, 30), (1, 34, 19), (1, 45, 20), (2, 54, 26), (2, 57, 45), (3, 21, 31), (4, 37, 33), (4, 41, 79), (4, 50, 77), (4, 54, 35), (4, 58, 36), (4, 62, 78), (4, 65, 0), (4, 71, 44), (4, 75, 42), (4, 83, 43), (4, 87, 41), (4, 95, 47), (4, 103, 48), (4, 117, 4), (5, 48, 288), (6, 49, 22), (6, 52, 91), (6, 61, 57), (6, 65, 73), (6, 82, 74), (6, 88, 58), (6, 91, 59), (6, 94, 60), (6, 97, 61), (6, 100, 62), (6, 103, 63), (6, 109, 92), (6, 112, 23), (6, 119, 72), (6, 125, 94), (6, 137, 71), (6, 141, 47), (6, 145, 48), (6, 170, 27), (6, 175, 64), (6, 179, 66), (6, 183, 65), (6, 187, 70), (6, 190, 75), (6, 193, 28), (6, 196, 93), (6, 199, 68), (6, 202, 69), (6, 206, 67), (6, 209, 29), (7, 64, 8), (7, 70, 9), (7, 73, 80), (7, 75, 81), (8, 30, 85), (8, 34, 24), (8, 38, 86), (8, 41, 87), (8, 45, 108), (8, 57, 88), (9, 49, 92), (9, 52, 95), (9, 56, 97), (9, 59, 96), (9, 62, 98), (9, 65, 99), (9, 70, 100), (10, 38, 106), (10, 42, 102), (11, 92, 89), (11, 96, 90), (11, 104, 56), (11, 108, 158), (11, 117, 23), (11, 120, 153), (11, 155, 154), (11, 167, 155), (11, 171, 9), (11, 175, 7), (11, 178, 10), (11, 184, 11), (11, 188, 47), (11, 191, 16), (11, 195, 48), (11, 199, 156), (11, 203, 17), (11, 206, 50), (11, 209, 18), (11, 213, 52), (11, 219, 3), (11, 222, 15), (11, 225, 0), (11, 229, 76), (11, 233, 79), (11, 245, 34), (11, 249, 32), (11, 251, 37), (11, 255, 38), (11, 259, 39), (11, 262, 40), (11, 265, 83), (11, 272, 82), (11, 278, 4), (11, 283, 157), (11, 286, 107), (11, 289, 84), (11, 293, 160), (11, 296, 51), (11, 299, 25), (11, 302, 8), (11, 305, 103), (11, 308, 104), (11, 315, 105), (11, 325, 162), (11, 328, 1), (11, 335, 2), (11, 338, 13), (11, 341, 21), (11, 345, 46), (11, 349, 49), (11, 356, 102), (11, 359, 14), (11, 362, 55), (11, 366, 101), (11, 367, 161), (11, 371, 109), (11, 374, 110), (12, 124, 178), (12, 127, 180), (12, 151, 169), (12, 155, 168), (12, 162, 173), (12, 165, 170), (12, 169, 172), (12, 172, 167), (12, 175, 165), (12, 182, 171), (12, 185, 175), (12, 188, 176), (12, 213, 179), (12, 217, 205), (12, 220, 181), (12, 224, 177), (12, 227, 182), (12, 231, 166), (12, 234, 183), (12, 237, 184), (12, 240, 185), (12, 243, 186), (12, 246, 200), (12, 249, 187), (12, 258, 191), (12, 262, 193), (12, 266, 192), (12, 273, 196), (12, 281, 174), (12, 284, 195), (12, 287, 197), (12, 293, 194), (12, 296, 198), (12, 299, 199), (12, 309, 201), (12, 313, 203), (12, 317, 202), (12, 321, 206), (12, 328, 207), (12, 364, 209), (12, 367, 213), (12, 370, 212), (12, 373, 204), (12, 377, 215), (12, 380, 214), (12, 384, 216), (12, 388, 218), (12, 391, 217), (12, 403, 221), (12, 406, 222), (12, 409, 219), (12, 412, 220), (12, 415, 223), (12, 418, 224), (12, 421, 226), (12, 424, 227), (12, 427, 210), (12, 430, 211), (12, 435, 283), (12, 438, 208), (12, 441, 225), (12, 450, 239), (12, 453, 241), (12, 465, 243), (12, 469, 242), (12, 473, 244), (12, 476, 245), (12, 479, 248), (12, 482, 249), (12, 485, 254), (12, 488, 263), (12, 491, 264), (12, 494, 267), (12, 498, 272), (12, 501, 273), (12, 504, 274), (12, 507, 276), (12, 510, 277), (12, 513, 281), (12, 516, 282), (12, 525, 237)]
def mlP : List Nat := [842, 1303, 990, 994, 1002, 1014, 1015, 1019, 1020, 998, 1001, 1006, 923, 924, 895, 899, 903, 947, 951, 675, 679, 908, 1059, 1063, 1064, 1068, 1071, 1074, 1094, 1095, 1100, 1105, 1117, 1103, 1108, 1099, 1333, 671, 683, 715, 826, 719, 723, 740, 759, 763, 767, 772, 727, 728, 732, 736, 744, 748, 755, 779, 783, 787, 822, 814, 810, 798, 806, 818, 791, 802, 795, 1036, 1038, 1043, 1047, 1129, 1133, 1134, 1139, 1181, 1143, 687, 691, 695, 699, 703, 708, 712, 1251, 1173, 655, 659, 667, 830, 870, 887, 875, 883, 891, 919, 929, 934, 942, 943, 956, 961, 962, 966, 974, 978, 986, 858, 838, 1032, 1039, 1055, 1078, 1086, 1090, 1109, 1113, 1125, 1147, 1155, 1160, 1169, 1177, 1189, 1205, 1209, 1226, 1247, 1259, 1267, 1279, 850, 1299, 1308, 1312, 1320, 1329, 1339, 1340, 834, 854, 1193, 1283, 1287, 1440, 1444, 1714, 1718, 1722, 1726, 1731, 1739, 1754, 1710, 1761, 1750, 1448, 1451, 1747, 1757, 1769, 1773, 1743, 1765, 1776, 1780, 1784, 1735, 1820, 1823, 1808, 1792, 1796, 1800, 1804, 1816, 1788, 1812, 1894, 1900, 1904, 1455, 1459, 1839, 1875, 1879, 1890, 1886, 1871, 1882, 1915, 1867, 1960, 1956, 1911, 1968, 1944, 1952, 1843, 1847, 1855, 1863, 1928, 1976, 1980, 1988, 2004, 2000, 2008, 1996, 2012, 2024, 2027, 2047, 2087, 2083, 2099, 2123, 2119, 2127, 2139, 2135, 1932, 2155, 2171]
def mnT : List (Nat × Nat × Nat) := [(2, 58, 157), (4, 79, 157), (5, 44, 157), (6, 162, 156), (7, 67, 157)]
def kiT : List (Nat × Nat × Int) := [(6, 161, 99999), (9, 69, 1000000), (12, 168, 99999), (13, 265, 1431655765), (13, 266, 858993459), (13, 267, 252645135)]
def kiP : List Nat := [771, 707, 1730, 1336, 1337, 1338]
def klT : List (Nat × Nat × Int) := [(0, 107, -9223372036854775808), (0, 112, -9), (0, 114, 9), (0, 153, 9999), (3, 19, -9223372036854775808), (3, 25, 1000000000000), (3, 27, -1000000000000), (5, 54, 1103515245), (5, 56, 12345), (5, 58, 2147483647), (5, 60, 65536), (11, 182, -9223372036854775808), (12, 305, 1000000000000), (12, 307, -1000000000000), (12, 395, 1103515245), (12, 397, 12345), (12, 399, 2147483647), (12, 401, 65536), (12, 433, -9223372036854775808)]
def klP : List Nat := [913, 999, 1000, 914, 907, 911, 912, 1010, 1011, 1012, 1013, 933, 1898, 1899, 1964, 1965, 1966, 1967, 1923]
def cpT : List (Nat × Nat) := [(0, 48), (1, 48), (5, 38), (8, 51)]
def cpP : List Nat := [849, 955, 846, 1138]
def mWc : List Nat := [841, 853, 1302, 989, 993, 997, 1005, 922, 1018, 894, 932, 937, 902, 1311, 1343, 861, 946, 965, 977, 950, 954, 1315, 674, 731, 898, 1212, 678, 782, 801, 797, 906, 910, 1081, 1062, 1058, 1070, 1073, 1089, 1093, 1112, 1116, 1120, 1102, 1107, 1098, 682, 845, 751, 758, 1332, 969, 1208, 981, 1023, 1009, 837, 670, 718, 726, 743, 762, 766, 770, 775, 786, 825, 790, 805, 821, 794, 817, 747, 735, 829, 722, 813, 1035, 1067, 1077, 1042, 1046, 1050, 1150, 1128, 1180, 1132, 1137, 1142, 1146, 658, 662, 686, 690, 809, 739, 694, 702, 698, 706, 711, 714, 857, 1176, 1250, 1262, 1270, 1254, 1172, 1184, 1286, 1290, 654, 666, 865, 869, 874, 882, 918, 928, 941, 960, 973, 985, 1027, 1031, 1054, 1085, 1124, 1154, 1159, 1164, 1168, 1188, 1200, 1204, 1217, 1221, 1225, 1230, 1234, 1238, 1242, 1246, 1258, 1266, 1274, 1278, 1294, 1298, 1307, 1319, 1324, 1328, 890, 878, 886, 778, 754, 833, 1418, 1192, 1196, 1282, 1701, 1705, 1756, 1775, 1742, 1721, 1717, 1729, 1713, 1734, 1725, 1799, 1764, 1753, 1760, 1443, 1450, 1447, 1749, 1772, 1746, 1768, 1779, 1783, 1738, 1709, 1830, 1834, 1822, 1811, 1826, 1819, 1803, 1795, 1807, 1791, 1815, 1787, 1897, 1906, 1903, 1893, 1454, 1458, 1462, 1979, 1842, 1858, 1866, 1881, 1878, 1874, 1889, 1885, 1870, 1918, 1914, 1971, 1963, 1959, 1947, 1955, 1983, 1846, 1850, 1838, 1854, 1862, 1910, 1922, 1927, 1939, 1943, 1951, 2174, 1975, 1991, 1987, 2007, 2011, 2003, 1999, 2015, 1995, 2019, 2026, 2030, 2023, 2034, 2038, 2042, 2050, 2046, 2054, 2058, 2062, 2066, 2070, 2074, 2078, 2090, 2086, 2082, 2094, 2102, 2098, 2106, 2110, 2114, 2126, 2122, 2130, 2118, 2142, 2138, 2134, 2146, 2150, 1935, 2158, 1931, 2154, 2162, 2166, 2170, 1335]
def mWi : List Nat := [839, 851, 1300, 987, 991, 996, 1004, 920, 1016, 892, 930, 935, 901, 1309, 1341, 859, 944, 963, 975, 949, 953, 1313, 672, 729, 896, 1210, 676, 780, 799, 796, 904, 909, 1079, 1061, 1056, 1069, 1072, 1087, 1091, 1110, 1114, 1119, 1101, 1106, 1097, 680, 843, 749, 756, 1330, 967, 1206, 979, 1021, 1007, 835, 668, 717, 725, 742, 761, 765, 769, 774, 785, 824, 789, 804, 820, 793, 816, 746, 734, 828, 721, 812, 1033, 1065, 1075, 1040, 1045, 1049, 1148, 1126, 1178, 1131, 1136, 1141, 1145, 656, 660, 684, 688, 807, 737, 693, 701, 697, 705, 710, 713, 855, 1174, 1248, 1260, 1268, 1253, 1170, 1182, 1284, 1288, 652, 664, 863, 867, 872, 880, 916, 926, 939, 958, 971, 983, 1025, 1029, 1052, 1083, 1122, 1152, 1157, 1162, 1166, 1186, 1198, 1202, 1215, 1219, 1223, 1228, 1232, 1236, 1240, 1244, 1256, 1264, 1272, 1276, 1292, 1296, 1305, 1317, 1322, 1326, 889, 877, 885, 777, 753, 832, 1417, 1191, 1195, 1281, 1699, 1703, 1755, 1774, 1741, 1720, 1716, 1728, 1712, 1733, 1724, 1798, 1763, 1752, 1759, 1442, 1449, 1446, 1748, 1771, 1745, 1767, 1778, 1782, 1737, 1707, 1828, 1832, 1821, 1810, 1825, 1818, 1802, 1794, 1806, 1790, 1814, 1786, 1896, 1905, 1902, 1892, 1453, 1457, 1461, 1978, 1841, 1857, 1865, 1880, 1877, 1873, 1888, 1884, 1869, 1917, 1913, 1970, 1962, 1958, 1946, 1954, 1982, 1845, 1849, 1836, 1852, 1860, 1908, 1920, 1925, 1937, 1941, 1949, 2173, 1973, 1990, 1985, 2006, 2010, 2002, 1998, 2014, 1993, 2017, 2025, 2029, 2021, 2032, 2036, 2040, 2049, 2044, 2052, 2056, 2060, 2064, 2068, 2072, 2076, 2089, 2085, 2080, 2092, 2101, 2096, 2104, 2108, 2112, 2125, 2121, 2129, 2116, 2141, 2137, 2132, 2144, 2148, 1934, 2157, 1930, 2152, 2160, 2164, 2168, 1334]
def mWs : List Nat := [840, 852, 1301, 988, 992, 31, 32, 921, 1017, 893, 931, 936, 28, 1310, 1342, 860, 945, 964, 976, 29, 30, 1314, 673, 730, 897, 1211, 677, 781, 800, 0, 905, 0, 1080, 35, 1057, 0, 0, 1088, 1092, 1111, 1115, 37, 0, 0, 36, 681, 844, 750, 757, 1331, 968, 1207, 980, 1022, 1008, 836, 669, 5, 7, 9, 11, 12, 13, 14, 15, 22, 16, 18, 21, 17, 20, 10, 8, 23, 6, 19, 1034, 1066, 1076, 1041, 33, 34, 1149, 1127, 1179, 38, 39, 40, 41, 657, 661, 685, 689, 808, 738, 0, 2, 1, 3, 4, 0, 856, 1175, 1249, 1261, 1269, 44, 1171, 1183, 1285, 1289, 653, 665, 864, 868, 873, 881, 917, 927, 940, 959, 972, 984, 1026, 1030, 1053, 1084, 1123, 1153, 1158, 1163, 1167, 1187, 1199, 1203, 1216, 1220, 1224, 1229, 1233, 1237, 1241, 1245, 1257, 1265, 1273, 1277, 1293, 1297, 1306, 1318, 1323, 1327, 27, 25, 26, 0, 0, 24, 47, 42, 43, 45, 1700, 1704, 0, 0, 60, 55, 54, 57, 53, 58, 56, 72, 64, 62, 63, 48, 0, 49, 0, 66, 61, 65, 67, 68, 59, 1708, 1829, 1833, 0, 75, 78, 77, 73, 71, 74, 70, 76, 69, 90, 0, 91, 89, 50, 51, 52, 101, 79, 82, 83, 0, 86, 85, 88, 87, 84, 93, 92, 100, 99, 98, 96, 97, 102, 80, 81, 1837, 1853, 1861, 1909, 1921, 1926, 1938, 1942, 1950, 120, 1974, 103, 1986, 106, 107, 105, 104, 108, 1994, 2018, 0, 109, 2022, 2033, 2037, 2041, 110, 2045, 2053, 2057, 2061, 2065, 2069, 2073, 2077, 112, 111, 2081, 2093, 113, 2097, 2105, 2109, 2113, 115, 114, 116, 2117, 118, 117, 2133, 2145, 2149, 95, 119, 94, 2153, 2161, 2165, 2169, 0]
def mWn : List Nat := [132, 132, 132, 132, 132, 132, 132, 132, 132, 132, 132, 132, 132, 133, 133, 133, 133, 133, 133, 133, 133, 133, 129, 129, 129, 129, 130, 130, 130, 130, 130, 130, 136, 136, 136, 136, 136, 136, 136, 136, 136, 136, 136, 136, 136, 131, 131, 131, 131, 131, 131, 131, 131, 131, 131, 128, 128, 128, 128, 128, 128, 128, 128, 128, 128, 128, 128, 128, 128, 128, 128, 128, 128, 128, 128, 128, 135, 135, 135, 135, 135, 135, 137, 137, 137, 137, 137, 137, 137, 123, 123, 123, 123, 123, 123, 123, 123, 123, 123, 123, 123, 134, 134, 134, 134, 134, 134, 134, 134, 134, 134, 122, 122, 122, 122, 122, 122, 122, 122, 122, 122, 122, 122, 122, 122, 122, 122, 122, 122, 122, 122, 122, 122, 122, 122, 122, 122, 122, 122, 122, 122, 122, 122, 122, 122, 122, 122, 122, 122, 122, 122, 122, 122, 122, 122, 122, 122, 122, 122, 122, 122, 122, 122, 138, 138, 138, 138, 138, 138, 138, 138, 138, 138, 138, 138, 138, 138, 138, 138, 138, 138, 138, 138, 138, 138, 138, 138, 138, 138, 138, 138, 138, 138, 138, 138, 138, 138, 138, 138, 138, 138, 138, 138, 138, 138, 138, 138, 138, 138, 138, 138, 138, 138, 138, 138, 138, 138, 138, 138, 138, 138, 138, 138, 138, 138, 138, 138, 138, 138, 138, 138, 138, 138, 138, 138, 138, 138, 138, 138, 138, 138, 138, 138, 138, 138, 138, 138, 138, 138, 138, 138, 138, 138, 138, 138, 138, 138, 138, 138, 138, 138, 138, 138, 138, 138, 138, 138, 138, 138, 138, 138, 138, 138, 138, 138, 138, 138, 138, 138, 138, 138, 138, 138, 138, 138, 138, 138, 138, 145]
def clP : List (List Nat) := [[445, 447, 449, 451, 453, 455, 457], [476, 478, 480, 482, 484, 486, 488], [366, 368, 370, 372, 374, 376, 378, 380, 382, 384, 386], [261, 263], [577, 579, 581, 583, 585, 587, 589, 591], [310, 312, 314, 316, 318, 320, 322, 324], [401, 403, 405, 407, 409, 411, 413, 415, 417, 419], [544, 546, 548, 550, 552, 554, 556, 558, 560], [605, 607, 609, 611], [221, 223, 225, 227, 229, 231, 233, 235], [507, 509, 511, 513, 515, 517, 519, 521], [626, 628, 630, 632, 634, 636, 638, 640, 642, 644, 646, 648], [1541, 1543, 1545, 1547, 1549, 1551, 1553, 1555, 1557, 1559, 1561, 1563, 1565, 1567, 1569, 1571, 1573, 1575, 1577, 1579, 1581, 1583, 1585, 1587, 1589, 1591, 1593, 1595, 1597, 1599, 1601, 1603, 1605, 1607, 1609, 1611, 1613, 1615, 1617, 1619, 1621, 1623, 1625, 1627, 1629, 1631, 1633, 1635, 1637, 1639, 1641, 1643, 1645, 1647, 1649, 1651, 1653, 1655, 1657, 1659, 1661, 1663, 1665, 1667, 1669, 1671, 1673, 1675, 1677, 1679, 1681, 1683, 1685, 1687, 1689, 1691, 1693, 1695]]
end
section
/-! THE WORDS, AND THE CODE CHECKED: every instruction of the table is the one that stands in the class file, every link is among the words -/
def tbG : List Cond := lw_tbl.filter goodWord
theorem tbG_good {w : Cond} (h : w ∈ tbG) : goodWord w = true := (List.mem_filter.mp h).2
theorem tbG_in {w : Cond} (h : w ∈ lw_tbl) (g : goodWord w = true) : w ∈ tbG := List.mem_filter.mpr ⟨h, g⟩
theorem all_in {α : Type} (f : α → Cond) : ∀ (T : List α) (P : List Nat), T.length = P.length → (T.zip P).all (fun q => decide (lw_tbl[q.2]? = some (f q.1)) && goodWord (f q.1)) = true → ∀ q ∈ T, f q ∈ tbG
  | [], _, _, _, q, hq => absurd hq List.not_mem_nil
  | _ :: _, [], hl, _, _, _ => absurd hl (by simp)
  | a :: T, n :: P, hl, h, q, hq => by
    rw [List.zip_cons_cons, List.all_cons, Bool.and_eq_true, Bool.and_eq_true, decide_eq_true_eq] at h
    rcases List.mem_cons.mp hq with rfl | hq
    · exact tbG_in (List.mem_of_getElem? h.1.1) h.1.2
    · exact all_in f T P (by simpa using hl) h.2 q hq
def flC (q : Nat × Nat × Nat × Nat) : Cond := Cond.fieldLink (cnm q.1) q.2.1 (cTt q.2.2.1 q.2.2.2).1 (cTt q.2.2.1 q.2.2.2).2.1 (cTt q.2.2.1 q.2.2.2).2.2.1
theorem fl_in : ∀ q ∈ flT, flC q ∈ tbG := all_in flC flT flP (by decide +kernel) (by decide +kernel)
def mlC (q : Nat × Nat × Nat) : Cond := Cond.methodLink (cnm q.1) q.2.1 (mY q.2.2)
theorem ml_in : ∀ q ∈ mlT, mlC q ∈ tbG := all_in mlC mlT mlP (by decide +kernel) (by decide +kernel)
def kiC (q : Nat × Nat × Int) : Cond := Cond.constant (cnm q.1) q.2.1 (Int32.ofInt q.2.2)
theorem ki_in : ∀ q ∈ kiT, kiC q ∈ tbG := all_in kiC kiT kiP (by decide +kernel) (by decide +kernel)
def klC (q : Nat × Nat × Int) : Cond := Cond.constantLong (cnm q.1) q.2.1 (Int64.ofInt q.2.2)
theorem kl_in : ∀ q ∈ klT, klC q ∈ tbG := all_in klC klT klP (by decide +kernel) (by decide +kernel)
def acN : MethodName := ⟨"java/lang/System", "arraycopy", "(Ljava/lang/Object;ILjava/lang/Object;II)V"⟩
def cpC (q : Nat × Nat) : Cond := Cond.methodLink (cnm q.1) q.2 acN
theorem cp_in : ∀ q ∈ cpT, cpC q ∈ tbG := all_in cpC cpT cpP (by decide +kernel) (by decide +kernel)
theorem cp_w : ∀ w ∈ [Cond.native acN, Cond.static acN, Cond.initialized "java/lang/System"], w ∈ tbG := all_in id _ [848, 847, 139] (by decide +kernel) (by decide +kernel)
/-- nest mates: these words are carried beside the tables -/
def fnC (q : Nat × Nat × Nat × Nat) : Cond := Cond.fieldLinkNest (cnm q.1) q.2.1 (cTt q.2.2.1 q.2.2.2).1 (cTt q.2.2.1 q.2.2.2).2.1 (cTt q.2.2.1 q.2.2.2).2.2.1 "RibbonRun"
def mnC (q : Nat × Nat × Nat) : Cond := Cond.methodLinkNest (cnm q.1) q.2.1 (mY q.2.2) "RibbonRun"
def NW (U : State) : Prop := (∀ q ∈ fnT, va_Nw (fnC q) U) ∧ ∀ q ∈ mnT, va_Nw (mnC q) U
theorem NW.warm {s U : State} (hW : s.WarmedH U.vm) (h : NW s) : NW U := ⟨fun q hq => va_Nw.warmF hW (h.1 q hq), fun q hq => va_Nw.warmM hW (h.2 q hq)⟩
theorem NW.same {s U : State} (e : s.vm = U.vm) (h : NW s) : NW U := ⟨fun q hq => va_Nw.same rfl e (h.1 q hq), fun q hq => va_Nw.same rfl e (h.2 q hq)⟩
theorem cl_in : ∀ c, c < 13 → ∀ w ∈ u_ws (cnm c) (cTt c) (cNn c), w ∈ tbG
  | 0, _, w, hw => by
    obtain ⟨k, hk, rfl⟩ := List.mem_map.mp hw
    exact all_in (u_lay RX0 TX0) (List.range 7) (clP.getD 0 []) (by decide +kernel) (by decide +kernel) k hk
  | 1, _, w, hw => by
    obtain ⟨k, hk, rfl⟩ := List.mem_map.mp hw
    exact all_in (u_lay RX1 TX1) (List.range 7) (clP.getD 1 []) (by decide +kernel) (by decide +kernel) k hk
  | 2, _, w, hw => by
    obtain ⟨k, hk, rfl⟩ := List.mem_map.mp hw
    exact all_in (u_lay RX2 TX2) (List.range 11) (clP.getD 2 []) (by decide +kernel) (by decide +kernel) k hk
  | 3, _, w, hw => by
    obtain ⟨k, hk, rfl⟩ := List.mem_map.mp hw
    exact all_in (u_lay RX3 TX3) (List.range 2) (clP.getD 3 []) (by decide +kernel) (by decide +kernel) k hk
  | 4, _, w, hw => by
    obtain ⟨k, hk, rfl⟩ := List.mem_map.mp hw
    exact all_in (u_lay RX4 TX4) (List.range 8) (clP.getD 4 []) (by decide +kernel) (by decide +kernel) k hk
  | 5, _, w, hw => by
    obtain ⟨k, hk, rfl⟩ := List.mem_map.mp hw
    exact all_in (u_lay RX5 TX5) (List.range 8) (clP.getD 5 []) (by decide +kernel) (by decide +kernel) k hk
  | 6, _, w, hw => by
    obtain ⟨k, hk, rfl⟩ := List.mem_map.mp hw
    exact all_in (u_lay RX6 TX6) (List.range 10) (clP.getD 6 []) (by decide +kernel) (by decide +kernel) k hk
  | 7, _, w, hw => by
    obtain ⟨k, hk, rfl⟩ := List.mem_map.mp hw
    exact all_in (u_lay RX7 TX7) (List.range 9) (clP.getD 7 []) (by decide +kernel) (by decide +kernel) k hk
  | 8, _, w, hw => by
    obtain ⟨k, hk, rfl⟩ := List.mem_map.mp hw
    exact all_in (u_lay RX8 TX8) (List.range 4) (clP.getD 8 []) (by decide +kernel) (by decide +kernel) k hk
  | 9, _, w, hw => by
    obtain ⟨k, hk, rfl⟩ := List.mem_map.mp hw
    exact all_in (u_lay RX9 TX9) (List.range 8) (clP.getD 9 []) (by decide +kernel) (by decide +kernel) k hk
  | 10, _, w, hw => by
    obtain ⟨k, hk, rfl⟩ := List.mem_map.mp hw
    exact all_in (u_lay RX10 TX10) (List.range 8) (clP.getD 10 []) (by decide +kernel) (by decide +kernel) k hk
  | 11, _, w, hw => by
    obtain ⟨k, hk, rfl⟩ := List.mem_map.mp hw
    exact all_in (u_lay RX11 TX11) (List.range 12) (clP.getD 11 []) (by decide +kernel) (by decide +kernel) k hk
  | 12, _, w, hw => by
    obtain ⟨k, hk, rfl⟩ := List.mem_map.mp hw
    exact all_in (u_lay RX12 TX12) (List.range 78) (clP.getD 12 []) (by decide +kernel) (by decide +kernel) k hk
  | _ + 13, h, _, _ => absurd h (by omega)
def nsT : List Nat := [0, 1, 2, 3, 4, 5, 6, 7, 8, 9, 10, 11, 12, 13, 14, 15, 16, 17, 18, 19, 20, 21, 22, 23, 24, 25, 26, 27, 28, 30, 32, 33, 34, 37, 38, 39, 40, 41, 44, 45, 46, 47, 48, 49, 50, 51, 52, 53, 54, 55, 56, 57, 58, 59, 60, 61, 62, 63, 64, 65, 66, 67, 68, 69, 70, 71, 72, 73, 74, 75, 76, 77, 78, 79, 80, 81, 82, 83, 84, 85, 86, 87, 88, 89, 90, 91, 92, 93, 94, 95, 96, 97, 98, 99, 101, 102, 103, 104, 105, 106, 107, 108, 109, 110, 111, 112, 113, 114, 115, 116, 117, 118, 119, 120, 121, 122, 123, 124, 125, 126, 127, 128, 129, 130, 131, 132, 133, 134, 135, 136, 137, 138, 139, 140, 141, 142, 143, 144, 145, 146, 147, 148, 149, 150, 151, 152, 153, 154, 155, 158, 159, 160, 161, 162, 163, 164, 167, 168, 169, 170, 171, 172, 173, 174, 175, 176, 177, 178, 180, 182, 183, 184, 185, 186, 187, 188, 189, 190, 192, 193, 194, 195, 196, 197, 198, 199, 200, 201, 203, 204, 205, 206, 207, 208, 209, 210, 211, 213, 214, 215, 216, 217, 218, 219, 220, 221, 222, 223, 224, 225, 226, 227, 228, 229, 230, 231, 232, 233, 234, 235, 236, 237, 238, 239, 240, 241, 242, 243, 244, 245, 246, 247, 249, 250, 251, 252, 253, 254, 255, 256, 257, 258, 259, 260, 261, 262, 263, 264, 265, 266, 267, 268, 269, 270, 271, 272, 273, 274, 275, 276, 277, 278, 279, 280, 281, 282, 283, 284, 285, 286, 287]
def stT : List Nat := [29, 31, 35, 36, 42, 43, 100, 156, 157, 165, 166, 179, 181, 191, 202, 212, 248, 288]
theorem mi_in : ∀ a ∈ nsT, Cond.instanceMethod (mY a) ∈ tbG := all_in _ _ [839, 851, 1300, 987, 991, 996, 1004, 920, 1016, 892, 930, 935, 901, 1309, 1341, 859, 944, 963, 975, 949, 953, 1313, 672, 729, 896, 1210, 676, 780, 799, 904, 1079, 1061, 1056, 1087, 1091, 1110, 1114, 1119, 1097, 680, 843, 749, 756, 1330, 967, 1206, 979, 1021, 1007, 835, 668, 717, 725, 742, 761, 765, 769, 774, 785, 824, 789, 804, 820, 793, 816, 746, 734, 828, 721, 812, 1033, 1065, 1075, 1040, 1045, 1049, 1148, 1126, 1178, 1131, 1136, 1141, 1145, 656, 660, 684, 688, 807, 737, 693, 701, 697, 705, 710, 855, 1174, 1248, 1260, 1268, 1253, 1170, 1182, 1284, 1288, 652, 664, 863, 867, 872, 880, 916, 926, 939, 958, 971, 983, 1025, 1029, 1052, 1083, 1122, 1152, 1157, 1162, 1166, 1186, 1198, 1202, 1215, 1219, 1223, 1228, 1232, 1236, 1240, 1244, 1256, 1264, 1272, 1276, 1292, 1296, 1305, 1317, 1322, 1326, 889, 877, 885, 832, 1417, 1191, 1195, 1281, 1699, 1703, 1741, 1720, 1716, 1728, 1712, 1733, 1724, 1798, 1763, 1752, 1759, 1442, 1446, 1771, 1745, 1767, 1778, 1782, 1737, 1707, 1828, 1832, 1810, 1825, 1818, 1802, 1794, 1806, 1790, 1814, 1786, 1896, 1902, 1892, 1453, 1457, 1461, 1978, 1841, 1857, 1865, 1877, 1873, 1888, 1884, 1869, 1917, 1913, 1970, 1962, 1958, 1946, 1954, 1982, 1845, 1849, 1836, 1852, 1860, 1908, 1920, 1925, 1937, 1941, 1949, 2173, 1973, 1990, 1985, 2006, 2010, 2002, 1998, 2014, 1993, 2017, 2029, 2021, 2032, 2036, 2040, 2049, 2044, 2052, 2056, 2060, 2064, 2068, 2072, 2076, 2089, 2085, 2080, 2092, 2101, 2096, 2104, 2108, 2112, 2125, 2121, 2129, 2116, 2141, 2137, 2132, 2144, 2148, 1934, 2157, 1930, 2152, 2160, 2164, 2168] (by decide +kernel) (by decide +kernel)
theorem mse_in : ∀ a ∈ nsT, Cond.selects (cnm (mO a)) (mY a) (mY a) ∈ tbG := all_in (fun a => Cond.selects (cnm (mO a)) (mY a) (mY a)) _ [840, 852, 1301, 988, 992, 31, 32, 921, 1017, 893, 931, 936, 28, 1310, 1342, 860, 945, 964, 976, 29, 30, 1314, 673, 730, 897, 1211, 677, 781, 800, 905, 1080, 35, 1057, 1088, 1092, 1111, 1115, 37, 36, 681, 844, 750, 757, 1331, 968, 1207, 980, 1022, 1008, 836, 669, 5, 7, 9, 11, 12, 13, 14, 15, 22, 16, 18, 21, 17, 20, 10, 8, 23, 6, 19, 1034, 1066, 1076, 1041, 33, 34, 1149, 1127, 1179, 38, 39, 40, 41, 657, 661, 685, 689, 808, 738, 0, 2, 1, 3, 4, 856, 1175, 1249, 1261, 1269, 44, 1171, 1183, 1285, 1289, 653, 665, 864, 868, 873, 881, 917, 927, 940, 959, 972, 984, 1026, 1030, 1053, 1084, 1123, 1153, 1158, 1163, 1167, 1187, 1199, 1203, 1216, 1220, 1224, 1229, 1233, 1237, 1241, 1245, 1257, 1265, 1273, 1277, 1293, 1297, 1306, 1318, 1323, 1327, 27, 25, 26, 24, 47, 42, 43, 45, 1700, 1704, 60, 55, 54, 57, 53, 58, 56, 72, 64, 62, 63, 48, 49, 66, 61, 65, 67, 68, 59, 1708, 1829, 1833, 75, 78, 77, 73, 71, 74, 70, 76, 69, 90, 91, 89, 50, 51, 52, 101, 79, 82, 83, 86, 85, 88, 87, 84, 93, 92, 100, 99, 98, 96, 97, 102, 80, 81, 1837, 1853, 1861, 1909, 1921, 1926, 1938, 1942, 1950, 120, 1974, 103, 1986, 106, 107, 105, 104, 108, 1994, 2018, 109, 2022, 2033, 2037, 2041, 110, 2045, 2053, 2057, 2061, 2065, 2069, 2073, 2077, 112, 111, 2081, 2093, 113, 2097, 2105, 2109, 2113, 115, 114, 116, 2117, 118, 117, 2133, 2145, 2149, 95, 119, 94, 2153, 2161, 2165, 2169] (by decide +kernel) (by decide +kernel)
theorem mt_in : ∀ a ∈ stT, Cond.static (mY a) ∈ tbG := all_in _ _ [796, 909, 1069, 1072, 1101, 1106, 713, 777, 753, 1755, 1774, 1449, 1748, 1821, 1905, 1880, 2025, 1334] (by decide +kernel) (by decide +kernel)
theorem mn_in : ∀ a ∈ List.range 289, Cond.initialized (cnm (mO a)) ∈ tbG := all_in (fun a => Cond.initialized (cnm (mO a))) _ mWn (by decide +kernel) (by decide +kernel)
def mPl (a : Nat) : Bool := decide ((mY a).cls = cnm (mO a)) && decide ((mY a).cls ≠ "java/lang/invoke/MethodHandle") && decide ((mY a).cls ≠ "java/lang/invoke/VarHandle") && decide ((parseMethodDescriptor (mY a).desc).map (fun d => d.parameters.length) = some (mP a)) && Jvm.plainName (mY a).cls && decide (mO a < 13 ∨ mS a = true) && decide (if mS a = true then a ∈ stT else a ∈ nsT)
theorem mPl_ok : ∀ a ∈ List.range 289, mPl a = true := List.all_eq_true.mp (by decide +kernel)
theorem mc_0 : Cond.code yX0_begin cX0_begin 3 none ∈ tables_1 := (List.mem_append_right _ (List.mem_append_right _ (List.mem_append_right _ (List.mem_append_left _ (List.mem_of_getElem? (i := 0) rfl)))))
theorem mc_1 : Cond.code yX0_drawBlight cX0_drawBlight 1 none ∈ tables_1 := (List.mem_append_right _ (List.mem_append_right _ (List.mem_append_right _ (List.mem_append_left _ (List.mem_of_getElem? (i := 12) rfl)))))
theorem mc_2 : Cond.code yX0_otherwise cX0_otherwise 4 none ∈ tables_1 := (List.mem_append_right _ (List.mem_append_right _ (List.mem_append_right _ (List.mem_append_right _ (List.mem_append_left _ (List.mem_of_getElem? (i := 221) rfl))))))
theorem mc_3 : Cond.code yX0_years cX0_years 3 none ∈ tables_1 := (List.mem_append_right _ (List.mem_append_right _ (List.mem_append_right _ (List.mem_append_left _ (List.mem_of_getElem? (i := 148) rfl)))))
theorem mc_4 : Cond.code yX0_year cX0_year 4 none ∈ tables_1 := (List.mem_append_right _ (List.mem_append_right _ (List.mem_append_right _ (List.mem_append_left _ (List.mem_of_getElem? (i := 152) rfl)))))
theorem mc_5 : Cond.code yX0_growAll cX0_growAll 4 none ∈ tables_1 := (List.mem_append_right _ (List.mem_append_right _ (List.mem_append_right _ (List.mem_append_left _ (List.mem_of_getElem? (i := 156) rfl)))))
theorem mc_6 : Cond.code yX0_blightAll cX0_blightAll 2 none ∈ tables_1 := (List.mem_append_right _ (List.mem_append_right _ (List.mem_append_right _ (List.mem_append_left _ (List.mem_of_getElem? (i := 164) rfl)))))
theorem mc_7 : Cond.code yX0_bestFor cX0_bestFor 6 (some (.int)) ∈ tables_1 := (List.mem_append_right _ (List.mem_append_right _ (List.mem_append_right _ (List.mem_append_left _ (List.mem_of_getElem? (i := 81) rfl)))))
theorem mc_8 : Cond.code yX0_gives cX0_gives 3 (some (.boolean)) ∈ tables_1 := (List.mem_append_right _ (List.mem_append_right _ (List.mem_append_right _ (List.mem_append_left _ (List.mem_of_getElem? (i := 177) rfl)))))
theorem mc_9 : Cond.code yX0_esteem cX0_esteem 6 (some (.int)) ∈ tables_1 := (List.mem_append_right _ (List.mem_append_right _ (List.mem_append_right _ (List.mem_append_left _ (List.mem_of_getElem? (i := 53) rfl)))))
theorem mc_10 : Cond.code yX0_judgeLaw cX0_judgeLaw 3 (some (.long)) ∈ tables_1 := (List.mem_append_right _ (List.mem_append_right _ (List.mem_append_right _ (List.mem_append_left _ (List.mem_of_getElem? (i := 91) rfl)))))
theorem mc_11 : Cond.code yX0_ownLaw cX0_ownLaw 4 (some (.long)) ∈ tables_1 := (List.mem_append_right _ (List.mem_append_right _ (List.mem_append_right _ (List.mem_append_left _ (List.mem_of_getElem? (i := 96) rfl)))))
theorem mc_12 : Cond.code yX0_tell cX0_tell 5 none ∈ tables_1 := (List.mem_append_right _ (List.mem_append_right _ (List.mem_append_right _ (List.mem_append_left _ (List.mem_of_getElem? (i := 61) rfl)))))
theorem mc_13 : Cond.code yX1_isEmpty cX1_isEmpty 1 (some (.boolean)) ∈ tables_1 := (List.mem_append_right _ (List.mem_append_right _ (List.mem_append_right _ (List.mem_append_right _ (List.mem_append_left _ (List.mem_of_getElem? (i := 230) rfl))))))
theorem mc_14 : Cond.code yX1_many cX1_many 1 (some (.int)) ∈ tables_1 := (List.mem_append_right _ (List.mem_append_right _ (List.mem_append_right _ (List.mem_append_right _ (List.mem_append_right _ (List.mem_append_left _ (List.mem_of_getElem? (i := 22) rfl)))))))
theorem mc_15 : Cond.code yX1_forget cX1_forget 1 none ∈ tables_1 := (List.mem_append_right _ (List.mem_append_right _ (List.mem_append_right _ (List.mem_append_left _ (List.mem_of_getElem? (i := 20) rfl)))))
theorem mc_16 : Cond.code yX1_noteShow cX1_noteShow 3 none ∈ tables_1 := (List.mem_append_right _ (List.mem_append_right _ (List.mem_append_right _ (List.mem_append_left _ (List.mem_of_getElem? (i := 105) rfl)))))
theorem mc_17 : Cond.code yX1_noteRaise cX1_noteRaise 3 none ∈ tables_1 := (List.mem_append_right _ (List.mem_append_right _ (List.mem_append_right _ (List.mem_append_left _ (List.mem_of_getElem? (i := 124) rfl)))))
theorem mc_18 : Cond.code yX1_noteHand cX1_noteHand 4 none ∈ tables_1 := (List.mem_append_right _ (List.mem_append_right _ (List.mem_append_right _ (List.mem_append_left _ (List.mem_of_getElem? (i := 136) rfl)))))
theorem mc_19 : Cond.code yX1_add cX1_add 4 none ∈ tables_1 := (List.mem_append_right _ (List.mem_append_right _ (List.mem_append_right _ (List.mem_append_left _ (List.mem_of_getElem? (i := 109) rfl)))))
theorem mc_20 : Cond.code yX1_dropFirst cX1_dropFirst 1 none ∈ tables_1 := (List.mem_append_right _ (List.mem_append_right _ (List.mem_append_right _ (List.mem_append_left _ (List.mem_of_getElem? (i := 113) rfl)))))
theorem mc_21 : Cond.code yX1_takeBack cX1_takeBack 3 (some (.int)) ∈ tables_1 := (List.mem_append_right _ (List.mem_append_right _ (List.mem_append_right _ (List.mem_append_right _ (List.mem_append_left _ (List.mem_of_getElem? (i := 234) rfl))))))
theorem mc_22 : Cond.code yX2_clear cX2_clear 2 none ∈ tables_1 := (List.mem_append_right _ (List.mem_append_right _ (List.mem_append_left _ (List.mem_of_getElem? (i := 73) rfl))))
theorem mc_23 : Cond.code yX2_numberOf cX2_numberOf 3 (some (.int)) ∈ tables_1 := (List.mem_append_right _ (List.mem_append_right _ (List.mem_append_left _ (List.mem_of_getElem? (i := 130) rfl))))
theorem mc_24 : Cond.code yX2_far cX2_far 4 (some (.int)) ∈ tables_1 := (List.mem_append_right _ (List.mem_append_right _ (List.mem_append_right _ (List.mem_append_left _ (List.mem_of_getElem? (i := 57) rfl)))))
theorem mc_25 : Cond.code yX2_wayFrom cX2_wayFrom 7 (some (.int)) ∈ tables_1 := (List.mem_append_right _ (List.mem_append_right _ (List.mem_append_right _ (List.mem_append_right _ (List.mem_append_left _ (List.mem_of_getElem? (i := 131) rfl))))))
theorem mc_26 : Cond.code yX3_clear cX3_clear 1 none ∈ tables_1 := (List.mem_append_right _ (List.mem_append_right _ (List.mem_append_left _ (List.mem_of_getElem? (i := 77) rfl))))
theorem mc_27 : Cond.code yX3_isTold cX3_isTold 1 (some (.boolean)) ∈ tables_1 := (List.mem_append_right _ (List.mem_append_right _ (List.mem_append_left _ (List.mem_of_getElem? (i := 181) rfl))))
theorem mc_28 : Cond.code yX3_add cX3_add 2 none ∈ tables_1 := (List.mem_append_right _ (List.mem_append_right _ (List.mem_append_left _ (List.mem_of_getElem? (i := 200) rfl))))
theorem mc_29 : Cond.code yX3_binding cX3_binding 1 (some (.int)) ∈ tables_1 := (List.mem_append_right _ (List.mem_append_right _ (List.mem_append_left _ (List.mem_of_getElem? (i := 196) rfl))))
theorem mc_30 : Cond.code yX3_worked cX3_worked 8 (some (.long)) ∈ tables_1 := (List.mem_append_right _ (List.mem_append_right _ (List.mem_append_right _ (List.mem_append_left _ (List.mem_of_getElem? (i := 65) rfl)))))
theorem mc_31 : Cond.code yX3_joined cX3_joined 9 (some (.long)) ∈ tables_1 := (List.mem_append_right _ (List.mem_append_right _ (List.mem_append_right _ (List.mem_append_left _ (List.mem_of_getElem? (i := 69) rfl)))))
theorem mc_32 : Cond.code yX4_told cX4_told 3 (some (.int)) ∈ tables_1 := (List.mem_append_right _ (List.mem_append_right _ (List.mem_append_right _ (List.mem_append_right _ (List.mem_append_left _ (List.mem_of_getElem? (i := 0) rfl))))))
theorem mc_33 : Cond.code yX4_take cX4_take 4 none ∈ tables_1 := (List.mem_append_right _ (List.mem_append_right _ (List.mem_append_right _ (List.mem_append_left _ (List.mem_of_getElem? (i := 221) rfl)))))
theorem mc_34 : Cond.code yX4_seekFree cX4_seekFree 4 none ∈ tables_1 := (List.mem_append_right _ (List.mem_append_right _ (List.mem_append_right _ (List.mem_append_left _ (List.mem_of_getElem? (i := 217) rfl)))))
theorem mc_35 : Cond.code yX4_isFreed cX4_isFreed 3 (some (.boolean)) ∈ tables_1 := (List.mem_append_right _ (List.mem_append_right _ (List.mem_append_right _ (List.mem_append_left _ (List.mem_of_getElem? (i := 229) rfl)))))
theorem mc_36 : Cond.code yX4_turn cX4_turn 3 none ∈ tables_1 := (List.mem_append_right _ (List.mem_append_right _ (List.mem_append_right _ (List.mem_append_left _ (List.mem_of_getElem? (i := 232) rfl)))))
theorem mc_37 : Cond.code yX4_aim cX4_aim 4 none ∈ tables_1 := (List.mem_append_right _ (List.mem_append_right _ (List.mem_append_right _ (List.mem_append_right _ (List.mem_append_left _ (List.mem_of_getElem? (i := 8) rfl))))))
theorem mc_38 : Cond.code yX4_seekLead cX4_seekLead 6 none ∈ tables_1 := (List.mem_append_right _ (List.mem_append_right _ (List.mem_append_right _ (List.mem_append_right _ (List.mem_append_left _ (List.mem_of_getElem? (i := 12) rfl))))))
theorem mc_39 : Cond.code yX4_areFound cX4_areFound 1 (some (.boolean)) ∈ tables_1 := (List.mem_append_right _ (List.mem_append_right _ (List.mem_append_right _ (List.mem_append_right _ (List.mem_append_left _ (List.mem_of_getElem? (i := 31) rfl))))))
theorem mc_40 : Cond.code yX4_seekTwoLeads cX4_seekTwoLeads 6 none ∈ tables_1 := (List.mem_append_right _ (List.mem_append_right _ (List.mem_append_right _ (List.mem_append_right _ (List.mem_append_left _ (List.mem_of_getElem? (i := 35) rfl))))))
theorem mc_41 : Cond.code yX4_matter cX4_matter 3 (some (.boolean)) ∈ tables_1 := (List.mem_append_right _ (List.mem_append_right _ (List.mem_append_right _ (List.mem_append_right _ (List.mem_append_left _ (List.mem_of_getElem? (i := 39) rfl))))))
theorem mc_42 : Cond.code yX4_isMissing cX4_isMissing 5 (some (.boolean)) ∈ tables_1 := (List.mem_append_right _ (List.mem_append_right _ (List.mem_append_right _ (List.mem_append_right _ (List.mem_append_left _ (List.mem_of_getElem? (i := 21) rfl))))))
theorem mc_43 : Cond.code yX4_add cX4_add 2 none ∈ tables_1 := (List.mem_append_right _ (List.mem_append_right _ (List.mem_append_right _ (List.mem_append_right _ (List.mem_append_left _ (List.mem_of_getElem? (i := 26) rfl))))))
theorem mc_44 : Cond.code yX4_comes cX4_comes 4 (some (.boolean)) ∈ tables_1 := (List.mem_append_right _ (List.mem_append_right _ (List.mem_append_right _ (List.mem_append_right _ (List.mem_append_left _ (List.mem_of_getElem? (i := 17) rfl))))))
theorem mc_45 : Cond.code yX5_clear cX5_clear 2 none ∈ tables_1 := (List.mem_append_right _ (List.mem_append_right _ (List.mem_append_left _ (List.mem_of_getElem? (i := 81) rfl))))
theorem mc_46 : Cond.code yX5_become cX5_become 2 none ∈ tables_1 := (List.mem_append_right _ (List.mem_append_right _ (List.mem_append_right _ (List.mem_append_left _ (List.mem_of_getElem? (i := 4) rfl)))))
theorem mc_47 : Cond.code yX5_isSeen cX5_isSeen 3 (some (.boolean)) ∈ tables_1 := (List.mem_append_right _ (List.mem_append_right _ (List.mem_append_left _ (List.mem_of_getElem? (i := 150) rfl))))
theorem mc_48 : Cond.code yX5_setSeen cX5_setSeen 4 none ∈ tables_1 := (List.mem_append_right _ (List.mem_append_right _ (List.mem_append_left _ (List.mem_of_getElem? (i := 157) rfl))))
theorem mc_49 : Cond.code yX5_countSeen cX5_countSeen 3 (some (.int)) ∈ tables_1 := (List.mem_append_right _ (List.mem_append_right _ (List.mem_append_right _ (List.mem_append_right _ (List.mem_append_right _ (List.mem_append_left _ (List.mem_of_getElem? (i := 11) rfl)))))))
theorem mc_50 : Cond.code yX5_addWorth cX5_addWorth 4 none ∈ tables_1 := (List.mem_append_right _ (List.mem_append_right _ (List.mem_append_right _ (List.mem_append_left _ (List.mem_of_getElem? (i := 128) rfl)))))
theorem mc_51 : Cond.code yX5_worthOf cX5_worthOf 4 (some (.int)) ∈ tables_1 := (List.mem_append_right _ (List.mem_append_right _ (List.mem_append_right _ (List.mem_append_right _ (List.mem_append_left _ (List.mem_of_getElem? (i := 127) rfl))))))
theorem mc_52 : Cond.code yX5_pass cX5_pass 3 none ∈ tables_1 := (List.mem_append_right _ (List.mem_append_right _ (List.mem_append_right _ (List.mem_append_left _ (List.mem_of_getElem? (i := 140) rfl)))))
theorem mc_53 : Cond.code yX5_retain cX5_retain 2 none ∈ tables_1 := (List.mem_append_right _ (List.mem_append_right _ (List.mem_append_right _ (List.mem_append_left _ (List.mem_of_getElem? (i := 182) rfl)))))
theorem mc_54 : Cond.code yX5_draw cX5_draw 1 (some (.int)) ∈ tables_1 := (List.mem_append_right _ (List.mem_append_right _ (List.mem_append_right _ (List.mem_append_left _ (List.mem_of_getElem? (i := 168) rfl)))))
theorem mc_55 : Cond.code yX6_exchange cX6_exchange 3 (some (.object "RibbonRun$Garden")) ∈ tables_1 := (List.mem_append_right _ (List.mem_append_right _ (List.mem_append_left _ (List.mem_of_getElem? (i := 236) rfl))))
theorem mc_56 : Cond.code yX6_read cX6_read 3 (some (.int)) ∈ tables_1 := (List.mem_append_right _ (List.mem_append_right _ (List.mem_append_left _ (List.mem_of_getElem? (i := 69) rfl))))
theorem mc_57 : Cond.code yX6_readLine cX6_readLine 1 (some (.boolean)) ∈ tables_1 := (List.mem_append_right _ (List.mem_append_right _ (List.mem_append_left _ (List.mem_of_getElem? (i := 117) rfl))))
theorem mc_58 : Cond.code yX6_readGrower cX6_readGrower 3 (some (.boolean)) ∈ tables_1 := (List.mem_append_right _ (List.mem_append_right _ (List.mem_append_left _ (List.mem_of_getElem? (i := 125) rfl))))
theorem mc_59 : Cond.code yX6_readSees cX6_readSees 3 (some (.boolean)) ∈ tables_1 := (List.mem_append_right _ (List.mem_append_right _ (List.mem_append_left _ (List.mem_of_getElem? (i := 142) rfl))))
theorem mc_60 : Cond.code yX6_readRibbon cX6_readRibbon 2 (some (.boolean)) ∈ tables_1 := (List.mem_append_right _ (List.mem_append_right _ (List.mem_append_left _ (List.mem_of_getElem? (i := 161) rfl))))
theorem mc_61 : Cond.code yX6_readBlight cX6_readBlight 1 (some (.boolean)) ∈ tables_1 := (List.mem_append_right _ (List.mem_append_right _ (List.mem_append_left _ (List.mem_of_getElem? (i := 165) rfl))))
theorem mc_62 : Cond.code yX6_readSeed cX6_readSeed 1 (some (.boolean)) ∈ tables_1 := (List.mem_append_right _ (List.mem_append_right _ (List.mem_append_left _ (List.mem_of_getElem? (i := 169) rfl))))
theorem mc_63 : Cond.code yX6_readLaw cX6_readLaw 3 (some (.boolean)) ∈ tables_1 := (List.mem_append_right _ (List.mem_append_right _ (List.mem_append_left _ (List.mem_of_getElem? (i := 174) rfl))))
theorem mc_64 : Cond.code yX6_readExpression cX6_readExpression 4 (some (.boolean)) ∈ tables_1 := (List.mem_append_right _ (List.mem_append_right _ (List.mem_append_left _ (List.mem_of_getElem? (i := 185) rfl))))
theorem mc_65 : Cond.code yX6_readValue cX6_readValue 3 (some (.int)) ∈ tables_1 := (List.mem_append_right _ (List.mem_append_right _ (List.mem_append_left _ (List.mem_of_getElem? (i := 224) rfl))))
theorem mc_66 : Cond.code yX6_readBehind cX6_readBehind 5 (some (.int)) ∈ tables_1 := (List.mem_append_right _ (List.mem_append_right _ (List.mem_append_left _ (List.mem_of_getElem? (i := 189) rfl))))
theorem mc_67 : Cond.code yX6_joiningSign cX6_joiningSign 1 (some (.int)) ∈ tables_1 := (List.mem_append_right _ (List.mem_append_right _ (List.mem_append_left _ (List.mem_of_getElem? (i := 204) rfl))))
theorem mc_68 : Cond.code yX6_defer cX6_defer 2 none ∈ tables_1 := (List.mem_append_right _ (List.mem_append_right _ (List.mem_append_left _ (List.mem_of_getElem? (i := 220) rfl))))
theorem mc_69 : Cond.code yX6_release cX6_release 3 none ∈ tables_1 := (List.mem_append_right _ (List.mem_append_right _ (List.mem_append_left _ (List.mem_of_getElem? (i := 193) rfl))))
theorem mc_70 : Cond.code yX6_countKnot cX6_countKnot 1 (some (.boolean)) ∈ tables_1 := (List.mem_append_right _ (List.mem_append_right _ (List.mem_append_left _ (List.mem_of_getElem? (i := 216) rfl))))
theorem mc_71 : Cond.code yX6_toldGrower cX6_toldGrower 2 (some (.int)) ∈ tables_1 := (List.mem_append_right _ (List.mem_append_right _ (List.mem_append_left _ (List.mem_of_getElem? (i := 146) rfl))))
theorem mc_72 : Cond.code yX6_takeNumber cX6_takeNumber 2 (some (.boolean)) ∈ tables_1 := (List.mem_append_right _ (List.mem_append_right _ (List.mem_append_left _ (List.mem_of_getElem? (i := 134) rfl))))
theorem mc_73 : Cond.code yX6_takeSign cX6_takeSign 2 (some (.boolean)) ∈ tables_1 := (List.mem_append_right _ (List.mem_append_right _ (List.mem_append_left _ (List.mem_of_getElem? (i := 228) rfl))))
theorem mc_74 : Cond.code yX6_fail cX6_fail 2 (some (.boolean)) ∈ tables_1 := (List.mem_append_right _ (List.mem_append_right _ (List.mem_append_left _ (List.mem_of_getElem? (i := 121) rfl))))
theorem mc_75 : Cond.code yX6_failed cX6_failed 2 (some (.int)) ∈ tables_1 := (List.mem_append_right _ (List.mem_append_right _ (List.mem_append_left _ (List.mem_of_getElem? (i := 212) rfl))))
theorem mc_76 : Cond.code yX7_prepare cX7_prepare 5 none ∈ tables_1 := (List.mem_append_right _ (List.mem_append_right _ (List.mem_append_right _ (List.mem_append_left _ (List.mem_of_getElem? (i := 194) rfl)))))
theorem mc_77 : Cond.code yX7_isSeen cX7_isSeen 2 (some (.boolean)) ∈ tables_1 := (List.mem_append_right _ (List.mem_append_right _ (List.mem_append_right _ (List.mem_append_left _ (List.mem_of_getElem? (i := 226) rfl)))))
theorem mc_78 : Cond.code yX7_turn cX7_turn 2 none ∈ tables_1 := (List.mem_append_right _ (List.mem_append_right _ (List.mem_append_right _ (List.mem_append_left _ (List.mem_of_getElem? (i := 236) rfl)))))
theorem mc_79 : Cond.code yX7_follow cX7_follow 5 none ∈ tables_1 := (List.mem_append_right _ (List.mem_append_right _ (List.mem_append_right _ (List.mem_append_left _ (List.mem_of_getElem? (i := 201) rfl)))))
theorem mc_80 : Cond.code yX7_since cX7_since 5 (some (.int)) ∈ tables_1 := (List.mem_append_right _ (List.mem_append_right _ (List.mem_append_right _ (List.mem_append_left _ (List.mem_of_getElem? (i := 205) rfl)))))
theorem mc_81 : Cond.code yX7_bestFor cX7_bestFor 5 (some (.int)) ∈ tables_1 := (List.mem_append_right _ (List.mem_append_right _ (List.mem_append_right _ (List.mem_append_left _ (List.mem_of_getElem? (i := 209) rfl)))))
theorem mc_82 : Cond.code yX8_at cX8_at 2 (some (.int)) ∈ tables_1 := (List.mem_append_right _ (List.mem_append_right _ (List.mem_append_right _ (List.mem_append_right _ (List.mem_append_left _ (List.mem_of_getElem? (i := 69) rfl))))))
theorem mc_83 : Cond.code yX8_seekWalk cX8_seekWalk 7 none ∈ tables_1 := (List.mem_append_right _ (List.mem_append_right _ (List.mem_append_right _ (List.mem_append_right _ (List.mem_append_left _ (List.mem_of_getElem? (i := 47) rfl))))))
theorem mc_84 : Cond.code yX8_seekOrder cX8_seekOrder 8 none ∈ tables_1 := (List.mem_append_right _ (List.mem_append_right _ (List.mem_append_right _ (List.mem_append_right _ (List.mem_append_left _ (List.mem_of_getElem? (i := 99) rfl))))))
theorem mc_85 : Cond.code yX8_begin cX8_begin 4 none ∈ tables_1 := (List.mem_append_right _ (List.mem_append_right _ (List.mem_append_right _ (List.mem_append_right _ (List.mem_append_left _ (List.mem_of_getElem? (i := 51) rfl))))))
theorem mc_86 : Cond.code yX8_take cX8_take 3 none ∈ tables_1 := (List.mem_append_right _ (List.mem_append_right _ (List.mem_append_right _ (List.mem_append_right _ (List.mem_append_left _ (List.mem_of_getElem? (i := 56) rfl))))))
theorem mc_87 : Cond.code yX8_advance cX8_advance 5 (some (.boolean)) ∈ tables_1 := (List.mem_append_right _ (List.mem_append_right _ (List.mem_append_right _ (List.mem_append_right _ (List.mem_append_left _ (List.mem_of_getElem? (i := 61) rfl))))))
theorem mc_88 : Cond.code yX8_swap cX8_swap 4 none ∈ tables_1 := (List.mem_append_right _ (List.mem_append_right _ (List.mem_append_right _ (List.mem_append_right _ (List.mem_append_left _ (List.mem_of_getElem? (i := 65) rfl))))))
theorem mc_89 : Cond.code yX9_hasRoom cX9_hasRoom 1 (some (.boolean)) ∈ tables_1 := (List.mem_append_right _ (List.mem_append_right _ (List.mem_append_left _ (List.mem_of_getElem? (i := 57) rfl))))
theorem mc_90 : Cond.code yX9_add cX9_add 3 none ∈ tables_1 := (List.mem_append_right _ (List.mem_append_right _ (List.mem_append_left _ (List.mem_of_getElem? (i := 61) rfl))))
theorem mc_91 : Cond.code yX9_begin cX9_begin 2 none ∈ tables_1 := (List.mem_append_right _ (List.mem_append_right _ (List.mem_append_left _ (List.mem_of_getElem? (i := 85) rfl))))
theorem mc_92 : Cond.code yX9_advance cX9_advance 1 none ∈ tables_1 := (List.mem_append_right _ (List.mem_append_right _ (List.mem_append_left _ (List.mem_of_getElem? (i := 89) rfl))))
theorem mc_93 : Cond.code yX9_isWord cX9_isWord 2 (some (.boolean)) ∈ tables_1 := (List.mem_append_right _ (List.mem_append_right _ (List.mem_append_left _ (List.mem_of_getElem? (i := 208) rfl))))
theorem mc_94 : Cond.code yX9_isSign cX9_isSign 2 (some (.boolean)) ∈ tables_1 := (List.mem_append_right _ (List.mem_append_right _ (List.mem_append_left _ (List.mem_of_getElem? (i := 138) rfl))))
theorem mc_95 : Cond.code yX9_isLetter cX9_isLetter 2 (some (.boolean)) ∈ tables_1 := (List.mem_append_right _ (List.mem_append_right _ (List.mem_append_left _ (List.mem_of_getElem? (i := 93) rfl))))
theorem mc_96 : Cond.code yX9_isDigit cX9_isDigit 2 (some (.boolean)) ∈ tables_1 := (List.mem_append_right _ (List.mem_append_right _ (List.mem_append_left _ (List.mem_of_getElem? (i := 101) rfl))))
theorem mc_97 : Cond.code yX9_readWord cX9_readWord 4 none ∈ tables_1 := (List.mem_append_right _ (List.mem_append_right _ (List.mem_append_left _ (List.mem_of_getElem? (i := 97) rfl))))
theorem mc_98 : Cond.code yX9_readNumber cX9_readNumber 2 none ∈ tables_1 := (List.mem_append_right _ (List.mem_append_right _ (List.mem_append_left _ (List.mem_of_getElem? (i := 105) rfl))))
theorem mc_99 : Cond.code yX9_readSign cX9_readSign 3 none ∈ tables_1 := (List.mem_append_right _ (List.mem_append_right _ (List.mem_append_left _ (List.mem_of_getElem? (i := 110) rfl))))
theorem mc_100 : Cond.code yX9_signOf cX9_signOf 1 (some (.int)) ∈ tables_1 := (List.mem_append_right _ (List.mem_append_right _ (List.mem_append_left _ (List.mem_of_getElem? (i := 113) rfl))))
theorem mc_101 : Cond.code yX10_forget cX10_forget 1 none ∈ tables_1 := (List.mem_append_right _ (List.mem_append_right _ (List.mem_append_right _ (List.mem_append_left _ (List.mem_of_getElem? (i := 16) rfl)))))
theorem mc_102 : Cond.code yX10_end cX10_end 1 (some (.int)) ∈ tables_1 := (List.mem_append_right _ (List.mem_append_right _ (List.mem_append_right _ (List.mem_append_right _ (List.mem_append_left _ (List.mem_of_getElem? (i := 95) rfl))))))
theorem mc_103 : Cond.code yX10_addHanding cX10_addHanding 3 (some (.int)) ∈ tables_1 := (List.mem_append_right _ (List.mem_append_right _ (List.mem_append_right _ (List.mem_append_right _ (List.mem_append_left _ (List.mem_of_getElem? (i := 169) rfl))))))
theorem mc_104 : Cond.code yX10_addSight cX10_addSight 6 (some (.int)) ∈ tables_1 := (List.mem_append_right _ (List.mem_append_right _ (List.mem_append_right _ (List.mem_append_right _ (List.mem_append_left _ (List.mem_of_getElem? (i := 181) rfl))))))
theorem mc_105 : Cond.code yX10_addStrike cX10_addStrike 2 (some (.int)) ∈ tables_1 := (List.mem_append_right _ (List.mem_append_right _ (List.mem_append_right _ (List.mem_append_right _ (List.mem_append_left _ (List.mem_of_getElem? (i := 189) rfl))))))
theorem mc_106 : Cond.code yX10_add cX10_add 4 (some (.int)) ∈ tables_1 := (List.mem_append_right _ (List.mem_append_right _ (List.mem_append_right _ (List.mem_append_right _ (List.mem_append_left _ (List.mem_of_getElem? (i := 173) rfl))))))
theorem mc_107 : Cond.code yX10_mark cX10_mark 3 none ∈ tables_1 := (List.mem_append_right _ (List.mem_append_right _ (List.mem_append_right _ (List.mem_append_right _ (List.mem_append_left _ (List.mem_of_getElem? (i := 91) rfl))))))
theorem mc_108 : Cond.code yX10_clashes cX10_clashes 7 (some (.int)) ∈ tables_1 := (List.mem_append_right _ (List.mem_append_right _ (List.mem_append_right _ (List.mem_append_right _ (List.mem_append_left _ (List.mem_of_getElem? (i := 103) rfl))))))
theorem mc_109 : Cond.code yX10_lastYear cX10_lastYear 3 (some (.int)) ∈ tables_1 := (List.mem_append_right _ (List.mem_append_right _ (List.mem_append_right _ (List.mem_append_right _ (List.mem_append_left _ (List.mem_of_getElem? (i := 205) rfl))))))
theorem mc_110 : Cond.code yX10_isSo cX10_isSo 5 (some (.boolean)) ∈ tables_1 := (List.mem_append_right _ (List.mem_append_right _ (List.mem_append_right _ (List.mem_append_right _ (List.mem_append_left _ (List.mem_of_getElem? (i := 209) rfl))))))
theorem mc_111 : Cond.code yX11_feed cX11_feed 6 (some (.int)) ∈ tables_1 := (List.mem_append_right _ (List.mem_append_right _ (List.mem_append_left _ (List.mem_of_getElem? (i := 53) rfl))))
theorem mc_112 : Cond.code yX11_text cX11_text 3 (some (.int)) ∈ tables_1 := (List.mem_append_right _ (List.mem_append_right _ (List.mem_append_left _ (List.mem_of_getElem? (i := 65) rfl))))
theorem mc_113 : Cond.code yX11_fault cX11_fault 2 (some (.int)) ∈ tables_1 := (List.mem_append_right _ (List.mem_append_right _ (List.mem_append_right _ (List.mem_append_left _ (List.mem_of_getElem? (i := 24) rfl)))))
theorem mc_114 : Cond.code yX11_named cX11_named 2 (some (.int)) ∈ tables_1 := (List.mem_append_right _ (List.mem_append_right _ (List.mem_append_right _ (List.mem_append_left _ (List.mem_of_getElem? (i := 28) rfl)))))
theorem mc_115 : Cond.code yX11_ribbon cX11_ribbon 3 (some (.int)) ∈ tables_1 := (List.mem_append_right _ (List.mem_append_right _ (List.mem_append_right _ (List.mem_append_left _ (List.mem_of_getElem? (i := 33) rfl)))))
theorem mc_116 : Cond.code yX11_judged cX11_judged 3 (some (.int)) ∈ tables_1 := (List.mem_append_right _ (List.mem_append_right _ (List.mem_append_right _ (List.mem_append_left _ (List.mem_of_getElem? (i := 41) rfl)))))
theorem mc_117 : Cond.code yX11_best cX11_best 2 (some (.int)) ∈ tables_1 := (List.mem_append_right _ (List.mem_append_right _ (List.mem_append_right _ (List.mem_append_left _ (List.mem_of_getElem? (i := 77) rfl)))))
theorem mc_118 : Cond.code yX11_law cX11_law 4 (some (.long)) ∈ tables_1 := (List.mem_append_right _ (List.mem_append_right _ (List.mem_append_right _ (List.mem_append_left _ (List.mem_of_getElem? (i := 87) rfl)))))
theorem mc_119 : Cond.code yX11_show cX11_show 4 (some (.boolean)) ∈ tables_1 := (List.mem_append_right _ (List.mem_append_right _ (List.mem_append_right _ (List.mem_append_left _ (List.mem_of_getElem? (i := 100) rfl)))))
theorem mc_120 : Cond.code yX11_raise cX11_raise 3 (some (.int)) ∈ tables_1 := (List.mem_append_right _ (List.mem_append_right _ (List.mem_append_right _ (List.mem_append_left _ (List.mem_of_getElem? (i := 119) rfl)))))
theorem mc_121 : Cond.code yX11_hand cX11_hand 3 (some (.boolean)) ∈ tables_1 := (List.mem_append_right _ (List.mem_append_right _ (List.mem_append_right _ (List.mem_append_left _ (List.mem_of_getElem? (i := 132) rfl)))))
theorem mc_122 : Cond.code yX11_go cX11_go 2 (some (.int)) ∈ tables_1 := (List.mem_append_right _ (List.mem_append_right _ (List.mem_append_right _ (List.mem_append_left _ (List.mem_of_getElem? (i := 144) rfl)))))
theorem mc_123 : Cond.code yX11_ahead cX11_ahead 5 (some (.int)) ∈ tables_1 := (List.mem_append_right _ (List.mem_append_right _ (List.mem_append_right _ (List.mem_append_left _ (List.mem_of_getElem? (i := 186) rfl)))))
theorem mc_124 : Cond.code yX11_ring cX11_ring 3 (some (.int)) ∈ tables_1 := (List.mem_append_right _ (List.mem_append_right _ (List.mem_append_right _ (List.mem_append_left _ (List.mem_of_getElem? (i := 190) rfl)))))
theorem mc_125 : Cond.code yX11_free cX11_free 3 (some (.int)) ∈ tables_1 := (List.mem_append_right _ (List.mem_append_right _ (List.mem_append_right _ (List.mem_append_left _ (List.mem_of_getElem? (i := 213) rfl)))))
theorem mc_126 : Cond.code yX11_lead cX11_lead 5 (some (.int)) ∈ tables_1 := (List.mem_append_right _ (List.mem_append_right _ (List.mem_append_right _ (List.mem_append_right _ (List.mem_append_left _ (List.mem_of_getElem? (i := 4) rfl))))))
theorem mc_127 : Cond.code yX11_walk cX11_walk 3 (some (.int)) ∈ tables_1 := (List.mem_append_right _ (List.mem_append_right _ (List.mem_append_right _ (List.mem_append_right _ (List.mem_append_left _ (List.mem_of_getElem? (i := 43) rfl))))))
theorem mc_128 : Cond.code yX11_meet cX11_meet 2 (some (.int)) ∈ tables_1 := (List.mem_append_right _ (List.mem_append_right _ (List.mem_append_right _ (List.mem_append_right _ (List.mem_append_left _ (List.mem_of_getElem? (i := 73) rfl))))))
theorem mc_129 : Cond.code yX11_reach cX11_reach 5 (some (.int)) ∈ tables_1 := (List.mem_append_right _ (List.mem_append_right _ (List.mem_append_right _ (List.mem_append_right _ (List.mem_append_left _ (List.mem_of_getElem? (i := 78) rfl))))))
theorem mc_130 : Cond.code yX11_deserves cX11_deserves 3 (some (.int)) ∈ tables_1 := (List.mem_append_right _ (List.mem_append_right _ (List.mem_append_right _ (List.mem_append_right _ (List.mem_append_left _ (List.mem_of_getElem? (i := 83) rfl))))))
theorem mc_131 : Cond.code yX11_order cX11_order 2 (some (.int)) ∈ tables_1 := (List.mem_append_right _ (List.mem_append_right _ (List.mem_append_right _ (List.mem_append_right _ (List.mem_append_left _ (List.mem_of_getElem? (i := 87) rfl))))))
theorem mc_132 : Cond.code yX11_rests cX11_rests 5 (some (.int)) ∈ tables_1 := (List.mem_append_right _ (List.mem_append_right _ (List.mem_append_right _ (List.mem_append_right _ (List.mem_append_left _ (List.mem_of_getElem? (i := 107) rfl))))))
theorem mc_133 : Cond.code yX11_rest cX11_rest 6 (some (.int)) ∈ tables_1 := (List.mem_append_right _ (List.mem_append_right _ (List.mem_append_right _ (List.mem_append_right _ (List.mem_append_left _ (List.mem_of_getElem? (i := 119) rfl))))))
theorem mc_134 : Cond.code yX11_visit cX11_visit 8 (some (.int)) ∈ tables_1 := (List.mem_append_right _ (List.mem_append_right _ (List.mem_append_right _ (List.mem_append_right _ (List.mem_append_left _ (List.mem_of_getElem? (i := 123) rfl))))))
theorem mc_135 : Cond.code yX11_hosts cX11_hosts 5 (some (.int)) ∈ tables_1 := (List.mem_append_right _ (List.mem_append_right _ (List.mem_append_right _ (List.mem_append_right _ (List.mem_append_left _ (List.mem_of_getElem? (i := 136) rfl))))))
theorem mc_136 : Cond.code yX11_rank cX11_rank 6 (some (.int)) ∈ tables_1 := (List.mem_append_right _ (List.mem_append_right _ (List.mem_append_right _ (List.mem_append_right _ (List.mem_append_left _ (List.mem_of_getElem? (i := 140) rfl))))))
theorem mc_137 : Cond.code yX11_keepers cX11_keepers 3 (some (.int)) ∈ tables_1 := (List.mem_append_right _ (List.mem_append_right _ (List.mem_append_right _ (List.mem_append_right _ (List.mem_append_left _ (List.mem_of_getElem? (i := 144) rfl))))))
theorem mc_138 : Cond.code yX11_comesTo cX11_comesTo 4 (some (.int)) ∈ tables_1 := (List.mem_append_right _ (List.mem_append_right _ (List.mem_append_right _ (List.mem_append_right _ (List.mem_append_left _ (List.mem_of_getElem? (i := 149) rfl))))))
theorem mc_139 : Cond.code yX11_popular cX11_popular 6 (some (.int)) ∈ tables_1 := (List.mem_append_right _ (List.mem_append_right _ (List.mem_append_right _ (List.mem_append_right _ (List.mem_append_left _ (List.mem_of_getElem? (i := 153) rfl))))))
theorem mc_140 : Cond.code yX11_mutual cX11_mutual 4 (some (.int)) ∈ tables_1 := (List.mem_append_right _ (List.mem_append_right _ (List.mem_append_right _ (List.mem_append_right _ (List.mem_append_left _ (List.mem_of_getElem? (i := 157) rfl))))))
theorem mc_141 : Cond.code yX11_lonely cX11_lonely 3 (some (.int)) ∈ tables_1 := (List.mem_append_right _ (List.mem_append_right _ (List.mem_append_right _ (List.mem_append_right _ (List.mem_append_left _ (List.mem_of_getElem? (i := 161) rfl))))))
theorem mc_142 : Cond.code yX11_note cX11_note 3 (some (.int)) ∈ tables_1 := (List.mem_append_right _ (List.mem_append_right _ (List.mem_append_right _ (List.mem_append_right _ (List.mem_append_left _ (List.mem_of_getElem? (i := 165) rfl))))))
theorem mc_143 : Cond.code yX11_see cX11_see 5 (some (.int)) ∈ tables_1 := (List.mem_append_right _ (List.mem_append_right _ (List.mem_append_right _ (List.mem_append_right _ (List.mem_append_left _ (List.mem_of_getElem? (i := 177) rfl))))))
theorem mc_144 : Cond.code yX11_strike cX11_strike 2 (some (.int)) ∈ tables_1 := (List.mem_append_right _ (List.mem_append_right _ (List.mem_append_right _ (List.mem_append_right _ (List.mem_append_left _ (List.mem_of_getElem? (i := 185) rfl))))))
theorem mc_145 : Cond.code yX11_known cX11_known 2 (some (.boolean)) ∈ tables_1 := (List.mem_append_right _ (List.mem_append_right _ (List.mem_append_right _ (List.mem_append_right _ (List.mem_append_left _ (List.mem_of_getElem? (i := 193) rfl))))))
theorem mc_146 : Cond.code yX11_doubts cX11_doubts 4 (some (.int)) ∈ tables_1 := (List.mem_append_right _ (List.mem_append_right _ (List.mem_append_right _ (List.mem_append_right _ (List.mem_append_left _ (List.mem_of_getElem? (i := 197) rfl))))))
theorem mc_147 : Cond.code yX11_chance cX11_chance 9 (some (.int)) ∈ tables_1 := (List.mem_append_right _ (List.mem_append_right _ (List.mem_append_right _ (List.mem_append_right _ (List.mem_append_left _ (List.mem_of_getElem? (i := 213) rfl))))))
theorem mc_148 : Cond.code yX11_tried cX11_tried 5 (some (.int)) ∈ tables_1 := (List.mem_append_right _ (List.mem_append_right _ (List.mem_append_right _ (List.mem_append_right _ (List.mem_append_left _ (List.mem_of_getElem? (i := 217) rfl))))))
theorem mc_149 : Cond.code yX11_undo cX11_undo 1 (some (.int)) ∈ tables_1 := (List.mem_append_right _ (List.mem_append_right _ (List.mem_append_right _ (List.mem_append_right _ (List.mem_append_left _ (List.mem_of_getElem? (i := 226) rfl))))))
theorem mc_150 : Cond.code yX11_keep cX11_keep 1 (some (.int)) ∈ tables_1 := (List.mem_append_right _ (List.mem_append_right _ (List.mem_append_right _ (List.mem_append_right _ (List.mem_append_left _ (List.mem_of_getElem? (i := 238) rfl))))))
theorem mc_151 : Cond.code yX11_back cX11_back 1 (some (.int)) ∈ tables_1 := (List.mem_append_right _ (List.mem_append_right _ (List.mem_append_right _ (List.mem_append_right _ (List.mem_append_right _ (List.mem_append_left _ (List.mem_of_getElem? (i := 3) rfl)))))))
theorem mc_152 : Cond.code yX11_count cX11_count 2 (some (.int)) ∈ tables_1 := (List.mem_append_right _ (List.mem_append_right _ (List.mem_append_right _ (List.mem_append_right _ (List.mem_append_right _ (List.mem_append_left _ (List.mem_of_getElem? (i := 7) rfl)))))))
theorem mc_153 : Cond.code yX11_isGrower cX11_isGrower 2 (some (.boolean)) ∈ tables_1 := (List.mem_append_right _ (List.mem_append_right _ (List.mem_append_right _ (List.mem_append_left _ (List.mem_of_getElem? (i := 49) rfl)))))
theorem mc_154 : Cond.code yX11_isRibbon cX11_isRibbon 2 (some (.boolean)) ∈ tables_1 := (List.mem_append_right _ (List.mem_append_right _ (List.mem_append_right _ (List.mem_append_left _ (List.mem_of_getElem? (i := 37) rfl)))))
theorem mc_155 : Cond.code yX11_areTwo cX11_areTwo 3 (some (.boolean)) ∈ tables_1 := (List.mem_append_right _ (List.mem_append_right _ (List.mem_append_right _ (List.mem_append_left _ (List.mem_of_getElem? (i := 45) rfl)))))
theorem mc_156 : Cond.code yX11_isWithin cX11_isWithin 3 (some (.boolean)) ∈ tables_1 := (List.mem_append_right _ (List.mem_append_right _ (List.mem_append_left _ (List.mem_of_getElem? (i := 177) rfl))))
theorem mc_157 : Cond.code yX11_has cX11_has 2 (some (.boolean)) ∈ tables_1 := (List.mem_append_right _ (List.mem_append_right _ (List.mem_append_left _ (List.mem_of_getElem? (i := 153) rfl))))
theorem mc_158 : Cond.code yX11_beginAnew cX11_beginAnew 1 none ∈ tables_1 := (List.mem_append_right _ (List.mem_append_right _ (List.mem_append_left _ (List.mem_of_getElem? (i := 232) rfl))))
theorem mc_159 : Cond.code yX11_ribbonsOf cX11_ribbonsOf 4 (some (.int)) ∈ tables_1 := (List.mem_append_right _ (List.mem_append_right _ (List.mem_append_right _ (List.mem_append_right _ (List.mem_append_right _ (List.mem_append_left _ (List.mem_of_getElem? (i := 97) rfl)))))))
theorem mc_160 : Cond.code yX11_isRest cX11_isRest 6 (some (.boolean)) ∈ tables_1 := (List.mem_append_right _ (List.mem_append_right _ (List.mem_append_right _ (List.mem_append_right _ (List.mem_append_left _ (List.mem_of_getElem? (i := 111) rfl))))))
theorem mc_161 : Cond.code yX11_share cX11_share 6 (some (.int)) ∈ tables_1 := (List.mem_append_right _ (List.mem_append_right _ (List.mem_append_right _ (List.mem_append_right _ (List.mem_append_left _ (List.mem_of_getElem? (i := 115) rfl))))))
theorem mc_162 : Cond.code yX11_areSightsSo cX11_areSightsSo 3 (some (.boolean)) ∈ tables_1 := (List.mem_append_right _ (List.mem_append_right _ (List.mem_append_right _ (List.mem_append_right _ (List.mem_append_left _ (List.mem_of_getElem? (i := 201) rfl))))))
theorem mc_163 : Cond.code yX12_thrown cX12_thrown 1 (some (.int)) ∈ tables_1 := (List.mem_append_right _ (List.mem_append_right _ (List.mem_append_right _ (List.mem_append_right _ (List.mem_append_right _ (List.mem_append_right _ (List.mem_append_left _ (List.mem_of_getElem? (i := 140) rfl))))))))
theorem mc_164 : Cond.code yX12_feed cX12_feed 8 (some (.int)) ∈ tables_1 := (List.mem_append_right _ (List.mem_append_right _ (List.mem_append_right _ (List.mem_append_right _ (List.mem_append_right _ (List.mem_append_right _ (List.mem_append_left _ (List.mem_of_getElem? (i := 144) rfl))))))))
theorem mc_165 : Cond.code yX12_isIn cX12_isIn 3 (some (.boolean)) ∈ tables_1 := (List.mem_append_right _ (List.mem_append_right _ (List.mem_append_right _ (List.mem_append_right _ (List.mem_append_right _ (List.mem_append_right _ (List.mem_append_left _ (List.mem_of_getElem? (i := 195) rfl))))))))
theorem mc_166 : Cond.code yX12_isOf cX12_isOf 2 (some (.boolean)) ∈ tables_1 := (List.mem_append_right _ (List.mem_append_right _ (List.mem_append_right _ (List.mem_append_right _ (List.mem_append_right _ (List.mem_append_right _ (List.mem_append_left _ (List.mem_of_getElem? (i := 214) rfl))))))))
theorem mc_167 : Cond.code yX12_wrong cX12_wrong 2 (some (.boolean)) ∈ tables_1 := (List.mem_append_right _ (List.mem_append_right _ (List.mem_append_right _ (List.mem_append_right _ (List.mem_append_right _ (List.mem_append_right _ (List.mem_append_left _ (List.mem_of_getElem? (i := 181) rfl))))))))
theorem mc_168 : Cond.code yX12_wordAt cX12_wordAt 8 (some (.int)) ∈ tables_1 := (List.mem_append_right _ (List.mem_append_right _ (List.mem_append_right _ (List.mem_append_right _ (List.mem_append_right _ (List.mem_append_right _ (List.mem_append_left _ (List.mem_of_getElem? (i := 160) rfl))))))))
theorem mc_169 : Cond.code yX12_isSmall cX12_isSmall 2 (some (.boolean)) ∈ tables_1 := (List.mem_append_right _ (List.mem_append_right _ (List.mem_append_right _ (List.mem_append_right _ (List.mem_append_right _ (List.mem_append_right _ (List.mem_append_left _ (List.mem_of_getElem? (i := 156) rfl))))))))
theorem mc_170 : Cond.code yX12_isDigit cX12_isDigit 2 (some (.boolean)) ∈ tables_1 := (List.mem_append_right _ (List.mem_append_right _ (List.mem_append_right _ (List.mem_append_right _ (List.mem_append_right _ (List.mem_append_right _ (List.mem_append_left _ (List.mem_of_getElem? (i := 168) rfl))))))))
theorem mc_171 : Cond.code yX12_token cX12_token 1 none ∈ tables_1 := (List.mem_append_right _ (List.mem_append_right _ (List.mem_append_right _ (List.mem_append_right _ (List.mem_append_right _ (List.mem_append_right _ (List.mem_append_left _ (List.mem_of_getElem? (i := 152) rfl))))))))
theorem mc_172 : Cond.code yX12_signToken cX12_signToken 4 none ∈ tables_1 := (List.mem_append_right _ (List.mem_append_right _ (List.mem_append_right _ (List.mem_append_right _ (List.mem_append_right _ (List.mem_append_right _ (List.mem_append_left _ (List.mem_of_getElem? (i := 173) rfl))))))))
theorem mc_173 : Cond.code yX12_packed cX12_packed 5 (some (.int)) ∈ tables_1 := (List.mem_append_right _ (List.mem_append_right _ (List.mem_append_right _ (List.mem_append_right _ (List.mem_append_right _ (List.mem_append_right _ (List.mem_append_left _ (List.mem_of_getElem? (i := 164) rfl))))))))
theorem mc_174 : Cond.code yX12_isKey cX12_isKey 2 (some (.boolean)) ∈ tables_1 := (List.mem_append_right _ (List.mem_append_right _ (List.mem_append_right _ (List.mem_append_right _ (List.mem_append_right _ (List.mem_append_right _ (List.mem_append_left _ (List.mem_of_getElem? (i := 238) rfl))))))))
theorem mc_175 : Cond.code yX12_isSign cX12_isSign 2 (some (.boolean)) ∈ tables_1 := (List.mem_append_right _ (List.mem_append_right _ (List.mem_append_right _ (List.mem_append_right _ (List.mem_append_right _ (List.mem_append_right _ (List.mem_append_left _ (List.mem_of_getElem? (i := 203) rfl))))))))
theorem mc_176 : Cond.code yX12_number cX12_number 3 (some (.boolean)) ∈ tables_1 := (List.mem_append_right _ (List.mem_append_right _ (List.mem_append_right _ (List.mem_append_right _ (List.mem_append_right _ (List.mem_append_right _ (List.mem_append_left _ (List.mem_of_getElem? (i := 192) rfl))))))))
theorem mc_177 : Cond.code yX12_signed cX12_signed 3 (some (.boolean)) ∈ tables_1 := (List.mem_append_right _ (List.mem_append_right _ (List.mem_append_right _ (List.mem_append_right _ (List.mem_append_right _ (List.mem_append_right _ (List.mem_append_left _ (List.mem_of_getElem? (i := 199) rfl))))))))
theorem mc_178 : Cond.code yX12_plain cX12_plain 2 none ∈ tables_1 := (List.mem_append_right _ (List.mem_append_right _ (List.mem_append_right _ (List.mem_append_right _ (List.mem_append_right _ (List.mem_append_left _ (List.mem_of_getElem? (i := 122) rfl)))))))
theorem mc_179 : Cond.code yX12_copies cX12_copies 3 none ∈ tables_1 := (List.mem_append_right _ (List.mem_append_right _ (List.mem_append_right _ (List.mem_append_right _ (List.mem_append_right _ (List.mem_append_left _ (List.mem_of_getElem? (i := 129) rfl)))))))
theorem mc_180 : Cond.code yX12_keepText cX12_keepText 2 none ∈ tables_1 := (List.mem_append_right _ (List.mem_append_right _ (List.mem_append_right _ (List.mem_append_right _ (List.mem_append_right _ (List.mem_append_left _ (List.mem_of_getElem? (i := 126) rfl)))))))
theorem mc_181 : Cond.code yX12_find cX12_find 5 (some (.int)) ∈ tables_1 := (List.mem_append_right _ (List.mem_append_right _ (List.mem_append_right _ (List.mem_append_right _ (List.mem_append_right _ (List.mem_append_right _ (List.mem_append_left _ (List.mem_of_getElem? (i := 188) rfl))))))))
theorem mc_182 : Cond.code yX12_growerThere cX12_growerThere 2 (some (.boolean)) ∈ tables_1 := (List.mem_append_right _ (List.mem_append_right _ (List.mem_append_right _ (List.mem_append_right _ (List.mem_append_right _ (List.mem_append_right _ (List.mem_append_left _ (List.mem_of_getElem? (i := 211) rfl))))))))
theorem mc_183 : Cond.code yX12_growerLine cX12_growerLine 2 (some (.boolean)) ∈ tables_1 := (List.mem_append_right _ (List.mem_append_right _ (List.mem_append_right _ (List.mem_append_right _ (List.mem_append_right _ (List.mem_append_right _ (List.mem_append_left _ (List.mem_of_getElem? (i := 185) rfl))))))))
theorem mc_184 : Cond.code yX12_seesLine cX12_seesLine 3 (some (.boolean)) ∈ tables_1 := (List.mem_append_right _ (List.mem_append_right _ (List.mem_append_right _ (List.mem_append_right _ (List.mem_append_right _ (List.mem_append_right _ (List.mem_append_left _ (List.mem_of_getElem? (i := 207) rfl))))))))
theorem mc_185 : Cond.code yX12_ribbonLine cX12_ribbonLine 1 (some (.boolean)) ∈ tables_1 := (List.mem_append_right _ (List.mem_append_right _ (List.mem_append_right _ (List.mem_append_right _ (List.mem_append_right _ (List.mem_append_right _ (List.mem_append_left _ (List.mem_of_getElem? (i := 218) rfl))))))))
theorem mc_186 : Cond.code yX12_onceLine cX12_onceLine 3 (some (.boolean)) ∈ tables_1 := (List.mem_append_right _ (List.mem_append_right _ (List.mem_append_right _ (List.mem_append_right _ (List.mem_append_right _ (List.mem_append_right _ (List.mem_append_left _ (List.mem_of_getElem? (i := 222) rfl))))))))
theorem mc_187 : Cond.code yX12_lineRead cX12_lineRead 3 (some (.boolean)) ∈ tables_1 := (List.mem_append_right _ (List.mem_append_right _ (List.mem_append_right _ (List.mem_append_right _ (List.mem_append_right _ (List.mem_append_right _ (List.mem_append_left _ (List.mem_of_getElem? (i := 177) rfl))))))))
theorem mc_188 : Cond.code yX12_text cX12_text 3 (some (.int)) ∈ tables_1 := (List.mem_append_right _ (List.mem_append_right _ (List.mem_append_right _ (List.mem_append_right _ (List.mem_append_right _ (List.mem_append_right _ (List.mem_append_left _ (List.mem_of_getElem? (i := 148) rfl))))))))
theorem mc_189 : Cond.code yX12_fault cX12_fault 2 (some (.int)) ∈ tables_1 := (List.mem_append_right _ (List.mem_append_right _ (List.mem_append_right _ (List.mem_append_right _ (List.mem_append_right _ (List.mem_append_right _ (List.mem_append_right _ (List.mem_append_left _ (List.mem_of_getElem? (i := 29) rfl)))))))))
theorem mc_190 : Cond.code yX12_named cX12_named 2 (some (.int)) ∈ tables_1 := (List.mem_append_right _ (List.mem_append_right _ (List.mem_append_right _ (List.mem_append_right _ (List.mem_append_right _ (List.mem_append_right _ (List.mem_append_right _ (List.mem_append_left _ (List.mem_of_getElem? (i := 33) rfl)))))))))
theorem mc_191 : Cond.code yX12_rankOf cX12_rankOf 1 (some (.int)) ∈ tables_1 := (List.mem_append_right _ (List.mem_append_right _ (List.mem_append_right _ (List.mem_append_right _ (List.mem_append_right _ (List.mem_append_right _ (List.mem_append_right _ (List.mem_append_left _ (List.mem_of_getElem? (i := 21) rfl)))))))))
theorem mc_192 : Cond.code yX12_grown cX12_grown 4 none ∈ tables_1 := (List.mem_append_right _ (List.mem_append_right _ (List.mem_append_right _ (List.mem_append_right _ (List.mem_append_right _ (List.mem_append_right _ (List.mem_append_right _ (List.mem_append_left _ (List.mem_of_getElem? (i := 10) rfl)))))))))
theorem mc_193 : Cond.code yX12_dropHeld cX12_dropHeld 1 (some (.int)) ∈ tables_1 := (List.mem_append_right _ (List.mem_append_right _ (List.mem_append_right _ (List.mem_append_right _ (List.mem_append_right _ (List.mem_append_right _ (List.mem_append_right _ (List.mem_append_left _ (List.mem_of_getElem? (i := 25) rfl)))))))))
theorem mc_194 : Cond.code yX12_bind cX12_bind 5 none ∈ tables_1 := (List.mem_append_right _ (List.mem_append_right _ (List.mem_append_right _ (List.mem_append_right _ (List.mem_append_right _ (List.mem_append_right _ (List.mem_append_right _ (List.mem_append_left _ (List.mem_of_getElem? (i := 18) rfl)))))))))
theorem mc_195 : Cond.code yX12_isCounted cX12_isCounted 1 (some (.boolean)) ∈ tables_1 := (List.mem_append_right _ (List.mem_append_right _ (List.mem_append_right _ (List.mem_append_right _ (List.mem_append_right _ (List.mem_append_right _ (List.mem_append_right _ (List.mem_append_left _ (List.mem_of_getElem? (i := 2) rfl)))))))))
theorem mc_196 : Cond.code yX12_waitsFor cX12_waitsFor 2 none ∈ tables_1 := (List.mem_append_right _ (List.mem_append_right _ (List.mem_append_right _ (List.mem_append_right _ (List.mem_append_right _ (List.mem_append_right _ (List.mem_append_left _ (List.mem_of_getElem? (i := 234) rfl))))))))
theorem mc_197 : Cond.code yX12_nameMet cX12_nameMet 1 (some (.int)) ∈ tables_1 := (List.mem_append_right _ (List.mem_append_right _ (List.mem_append_right _ (List.mem_append_right _ (List.mem_append_right _ (List.mem_append_right _ (List.mem_append_right _ (List.mem_append_left _ (List.mem_of_getElem? (i := 6) rfl)))))))))
theorem mc_198 : Cond.code yX12_leafRead cX12_leafRead 2 (some (.boolean)) ∈ tables_1 := (List.mem_append_right _ (List.mem_append_right _ (List.mem_append_right _ (List.mem_append_right _ (List.mem_append_right _ (List.mem_append_right _ (List.mem_append_left _ (List.mem_of_getElem? (i := 230) rfl))))))))
theorem mc_199 : Cond.code yX12_signs cX12_signs 2 (some (.boolean)) ∈ tables_1 := (List.mem_append_right _ (List.mem_append_right _ (List.mem_append_right _ (List.mem_append_right _ (List.mem_append_right _ (List.mem_append_right _ (List.mem_append_right _ (List.mem_append_left _ (List.mem_of_getElem? (i := 14) rfl)))))))))
theorem mc_200 : Cond.code yX12_sumRead cX12_sumRead 1 (some (.boolean)) ∈ tables_1 := (List.mem_append_right _ (List.mem_append_right _ (List.mem_append_right _ (List.mem_append_right _ (List.mem_append_right _ (List.mem_append_right _ (List.mem_append_left _ (List.mem_of_getElem? (i := 226) rfl))))))))
theorem mc_201 : Cond.code yX12_bounded cX12_bounded 3 (some (.long)) ∈ tables_1 := (List.mem_append_right _ (List.mem_append_right _ (List.mem_append_right _ (List.mem_append_right _ (List.mem_append_right _ (List.mem_append_right _ (List.mem_append_right _ (List.mem_append_left _ (List.mem_of_getElem? (i := 96) rfl)))))))))
theorem mc_202 : Cond.code yX12_compares cX12_compares 5 (some (.boolean)) ∈ tables_1 := (List.mem_append_right _ (List.mem_append_right _ (List.mem_append_right _ (List.mem_append_right _ (List.mem_append_right _ (List.mem_append_right _ (List.mem_append_right _ (List.mem_append_left _ (List.mem_of_getElem? (i := 105) rfl)))))))))
theorem mc_203 : Cond.code yX12_times cX12_times 6 (some (.long)) ∈ tables_1 := (List.mem_append_right _ (List.mem_append_right _ (List.mem_append_right _ (List.mem_append_right _ (List.mem_append_right _ (List.mem_append_right _ (List.mem_append_right _ (List.mem_append_left _ (List.mem_of_getElem? (i := 102) rfl)))))))))
theorem mc_204 : Cond.code yX12_valueOf cX12_valueOf 6 (some (.long)) ∈ tables_1 := (List.mem_append_right _ (List.mem_append_right _ (List.mem_append_right _ (List.mem_append_right _ (List.mem_append_right _ (List.mem_append_right _ (List.mem_append_right _ (List.mem_append_left _ (List.mem_of_getElem? (i := 92) rfl)))))))))
theorem mc_205 : Cond.code yX12_begin cX12_begin 1 none ∈ tables_1 := (List.mem_append_right _ (List.mem_append_right _ (List.mem_append_right _ (List.mem_append_right _ (List.mem_append_right _ (List.mem_append_left _ (List.mem_of_getElem? (i := 133) rfl)))))))
theorem mc_206 : Cond.code yX12_atFirst cX12_atFirst 3 none ∈ tables_1 := (List.mem_append_right _ (List.mem_append_right _ (List.mem_append_right _ (List.mem_append_right _ (List.mem_append_right _ (List.mem_append_left _ (List.mem_of_getElem? (i := 137) rfl)))))))
theorem mc_207 : Cond.code yX12_plainTried cX12_plainTried 1 none ∈ tables_1 := (List.mem_append_right _ (List.mem_append_right _ (List.mem_append_right _ (List.mem_append_right _ (List.mem_append_right _ (List.mem_append_left _ (List.mem_of_getElem? (i := 141) rfl)))))))
theorem mc_208 : Cond.code yX12_layTried cX12_layTried 2 none ∈ tables_1 := (List.mem_append_right _ (List.mem_append_right _ (List.mem_append_right _ (List.mem_append_right _ (List.mem_append_right _ (List.mem_append_right _ (List.mem_append_right _ (List.mem_append_left _ (List.mem_of_getElem? (i := 178) rfl)))))))))
theorem mc_209 : Cond.code yX12_isGrower cX12_isGrower 2 (some (.boolean)) ∈ tables_1 := (List.mem_append_right _ (List.mem_append_right _ (List.mem_append_right _ (List.mem_append_right _ (List.mem_append_right _ (List.mem_append_right _ (List.mem_append_right _ (List.mem_append_left _ (List.mem_of_getElem? (i := 41) rfl)))))))))
theorem mc_210 : Cond.code yX12_isRibbon cX12_isRibbon 2 (some (.boolean)) ∈ tables_1 := (List.mem_append_right _ (List.mem_append_right _ (List.mem_append_right _ (List.mem_append_right _ (List.mem_append_right _ (List.mem_append_right _ (List.mem_append_right _ (List.mem_append_left _ (List.mem_of_getElem? (i := 57) rfl)))))))))
theorem mc_211 : Cond.code yX12_areTwo cX12_areTwo 3 (some (.boolean)) ∈ tables_1 := (List.mem_append_right _ (List.mem_append_right _ (List.mem_append_right _ (List.mem_append_right _ (List.mem_append_right _ (List.mem_append_right _ (List.mem_append_right _ (List.mem_append_left _ (List.mem_of_getElem? (i := 65) rfl)))))))))
theorem mc_212 : Cond.code yX12_apart cX12_apart 2 (some (.int)) ∈ tables_1 := (List.mem_append_right _ (List.mem_append_right _ (List.mem_append_right _ (List.mem_append_right _ (List.mem_append_right _ (List.mem_append_right _ (List.mem_append_right _ (List.mem_append_left _ (List.mem_of_getElem? (i := 80) rfl)))))))))
theorem mc_213 : Cond.code yX12_doubtIn cX12_doubtIn 2 (some (.int)) ∈ tables_1 := (List.mem_append_right _ (List.mem_append_right _ (List.mem_append_right _ (List.mem_append_right _ (List.mem_append_right _ (List.mem_append_right _ (List.mem_append_right _ (List.mem_append_left _ (List.mem_of_getElem? (i := 77) rfl)))))))))
theorem mc_214 : Cond.code yX12_layNames cX12_layNames 5 none ∈ tables_1 := (List.mem_append_right _ (List.mem_append_right _ (List.mem_append_right _ (List.mem_append_right _ (List.mem_append_right _ (List.mem_append_right _ (List.mem_append_right _ (List.mem_append_left _ (List.mem_of_getElem? (i := 73) rfl)))))))))
theorem mc_215 : Cond.code yX12_lawOf cX12_lawOf 3 (some (.long)) ∈ tables_1 := (List.mem_append_right _ (List.mem_append_right _ (List.mem_append_right _ (List.mem_append_right _ (List.mem_append_right _ (List.mem_append_right _ (List.mem_append_right _ (List.mem_append_left _ (List.mem_of_getElem? (i := 88) rfl)))))))))
theorem mc_216 : Cond.code yX12_boundLaw cX12_boundLaw 7 (some (.int)) ∈ tables_1 := (List.mem_append_right _ (List.mem_append_right _ (List.mem_append_right _ (List.mem_append_right _ (List.mem_append_right _ (List.mem_append_right _ (List.mem_append_right _ (List.mem_append_left _ (List.mem_of_getElem? (i := 84) rfl)))))))))
theorem mc_217 : Cond.code yX12_judgedBy cX12_judgedBy 5 (some (.int)) ∈ tables_1 := (List.mem_append_right _ (List.mem_append_right _ (List.mem_append_right _ (List.mem_append_right _ (List.mem_append_right _ (List.mem_append_right _ (List.mem_append_right _ (List.mem_append_left _ (List.mem_of_getElem? (i := 69) rfl)))))))))
theorem mc_218 : Cond.code yX12_seenBy cX12_seenBy 4 (some (.int)) ∈ tables_1 := (List.mem_append_right _ (List.mem_append_right _ (List.mem_append_right _ (List.mem_append_right _ (List.mem_append_right _ (List.mem_append_right _ (List.mem_append_right _ (List.mem_append_left _ (List.mem_of_getElem? (i := 117) rfl)))))))))
theorem mc_219 : Cond.code yX12_bestOf cX12_bestOf 8 (some (.int)) ∈ tables_1 := (List.mem_append_right _ (List.mem_append_right _ (List.mem_append_right _ (List.mem_append_right _ (List.mem_append_right _ (List.mem_append_right _ (List.mem_append_right _ (List.mem_append_left _ (List.mem_of_getElem? (i := 113) rfl)))))))))
theorem mc_220 : Cond.code yX12_gives cX12_gives 6 (some (.boolean)) ∈ tables_1 := (List.mem_append_right _ (List.mem_append_right _ (List.mem_append_right _ (List.mem_append_right _ (List.mem_append_right _ (List.mem_append_right _ (List.mem_append_right _ (List.mem_append_left _ (List.mem_of_getElem? (i := 170) rfl)))))))))
theorem mc_221 : Cond.code yX12_number1 cX12_number1 2 (some (.int)) ∈ tables_1 := (List.mem_append_right _ (List.mem_append_right _ (List.mem_append_right _ (List.mem_append_right _ (List.mem_append_right _ (List.mem_append_right _ (List.mem_append_right _ (List.mem_append_left _ (List.mem_of_getElem? (i := 162) rfl)))))))))
theorem mc_222 : Cond.code yX12_isBlight cX12_isBlight 1 (some (.boolean)) ∈ tables_1 := (List.mem_append_right _ (List.mem_append_right _ (List.mem_append_right _ (List.mem_append_right _ (List.mem_append_right _ (List.mem_append_right _ (List.mem_append_right _ (List.mem_append_left _ (List.mem_of_getElem? (i := 158) rfl)))))))))
theorem mc_223 : Cond.code yX12_hands cX12_hands 4 none ∈ tables_1 := (List.mem_append_right _ (List.mem_append_right _ (List.mem_append_right _ (List.mem_append_right _ (List.mem_append_right _ (List.mem_append_right _ (List.mem_append_right _ (List.mem_append_left _ (List.mem_of_getElem? (i := 146) rfl)))))))))
theorem mc_224 : Cond.code yX12_yearGoes cX12_yearGoes 5 none ∈ tables_1 := (List.mem_append_right _ (List.mem_append_right _ (List.mem_append_right _ (List.mem_append_right _ (List.mem_append_right _ (List.mem_append_right _ (List.mem_append_right _ (List.mem_append_left _ (List.mem_of_getElem? (i := 154) rfl)))))))))
theorem mc_225 : Cond.code yX12_goMany cX12_goMany 3 none ∈ tables_1 := (List.mem_append_right _ (List.mem_append_right _ (List.mem_append_right _ (List.mem_append_right _ (List.mem_append_right _ (List.mem_append_right _ (List.mem_append_right _ (List.mem_append_left _ (List.mem_of_getElem? (i := 182) rfl)))))))))
theorem mc_226 : Cond.code yX12_fails cX12_fails 2 (some (.int)) ∈ tables_1 := (List.mem_append_right _ (List.mem_append_right _ (List.mem_append_right _ (List.mem_append_right _ (List.mem_append_right _ (List.mem_append_right _ (List.mem_append_right _ (List.mem_append_left _ (List.mem_of_getElem? (i := 45) rfl)))))))))
theorem mc_227 : Cond.code yX12_ribbonsOf cX12_ribbonsOf 5 (some (.int)) ∈ tables_1 := (List.mem_append_right _ (List.mem_append_right _ (List.mem_append_right _ (List.mem_append_right _ (List.mem_append_right _ (List.mem_append_right _ (List.mem_append_right _ (List.mem_append_left _ (List.mem_of_getElem? (i := 49) rfl)))))))))
theorem mc_228 : Cond.code yX12_grower cX12_grower 3 (some (.int)) ∈ tables_1 := (List.mem_append_right _ (List.mem_append_right _ (List.mem_append_right _ (List.mem_append_right _ (List.mem_append_right _ (List.mem_append_right _ (List.mem_append_right _ (List.mem_append_left _ (List.mem_of_getElem? (i := 37) rfl)))))))))
theorem mc_229 : Cond.code yX12_ribbon cX12_ribbon 3 (some (.int)) ∈ tables_1 := (List.mem_append_right _ (List.mem_append_right _ (List.mem_append_right _ (List.mem_append_right _ (List.mem_append_right _ (List.mem_append_right _ (List.mem_append_right _ (List.mem_append_left _ (List.mem_of_getElem? (i := 53) rfl)))))))))
theorem mc_230 : Cond.code yX12_judged cX12_judged 3 (some (.int)) ∈ tables_1 := (List.mem_append_right _ (List.mem_append_right _ (List.mem_append_right _ (List.mem_append_right _ (List.mem_append_right _ (List.mem_append_right _ (List.mem_append_right _ (List.mem_append_left _ (List.mem_of_getElem? (i := 61) rfl)))))))))
theorem mc_231 : Cond.code yX12_best cX12_best 2 (some (.int)) ∈ tables_1 := (List.mem_append_right _ (List.mem_append_right _ (List.mem_append_right _ (List.mem_append_right _ (List.mem_append_right _ (List.mem_append_right _ (List.mem_append_right _ (List.mem_append_left _ (List.mem_of_getElem? (i := 109) rfl)))))))))
theorem mc_232 : Cond.code yX12_law cX12_law 6 (some (.long)) ∈ tables_1 := (List.mem_append_right _ (List.mem_append_right _ (List.mem_append_right _ (List.mem_append_right _ (List.mem_append_right _ (List.mem_append_right _ (List.mem_append_right _ (List.mem_append_left _ (List.mem_of_getElem? (i := 121) rfl)))))))))
theorem mc_233 : Cond.code yX12_show cX12_show 4 (some (.boolean)) ∈ tables_1 := (List.mem_append_right _ (List.mem_append_right _ (List.mem_append_right _ (List.mem_append_right _ (List.mem_append_right _ (List.mem_append_right _ (List.mem_append_right _ (List.mem_append_left _ (List.mem_of_getElem? (i := 126) rfl)))))))))
theorem mc_234 : Cond.code yX12_raise cX12_raise 4 (some (.int)) ∈ tables_1 := (List.mem_append_right _ (List.mem_append_right _ (List.mem_append_right _ (List.mem_append_right _ (List.mem_append_right _ (List.mem_append_right _ (List.mem_append_right _ (List.mem_append_left _ (List.mem_of_getElem? (i := 138) rfl)))))))))
theorem mc_235 : Cond.code yX12_hand cX12_hand 3 (some (.boolean)) ∈ tables_1 := (List.mem_append_right _ (List.mem_append_right _ (List.mem_append_right _ (List.mem_append_right _ (List.mem_append_right _ (List.mem_append_right _ (List.mem_append_right _ (List.mem_append_left _ (List.mem_of_getElem? (i := 142) rfl)))))))))
theorem mc_236 : Cond.code yX12_go cX12_go 3 (some (.int)) ∈ tables_1 := (List.mem_append_right _ (List.mem_append_right _ (List.mem_append_right _ (List.mem_append_right _ (List.mem_append_right _ (List.mem_append_right _ (List.mem_append_right _ (List.mem_append_left _ (List.mem_of_getElem? (i := 150) rfl)))))))))
theorem mc_237 : Cond.code yX12_handedAll cX12_handedAll 4 (some (.int)) ∈ tables_1 := (List.mem_append_right _ (List.mem_append_right _ (List.mem_append_right _ (List.mem_append_right _ (List.mem_append_right _ (List.mem_append_right _ (List.mem_append_right _ (List.mem_append_right _ ((List.mem_of_getElem? (i := 133) rfl))))))))))
theorem mc_238 : Cond.code yX12_ahead cX12_ahead 4 (some (.int)) ∈ tables_1 := (List.mem_append_right _ (List.mem_append_right _ (List.mem_append_right _ (List.mem_append_right _ (List.mem_append_right _ (List.mem_append_right _ (List.mem_append_right _ (List.mem_append_left _ (List.mem_of_getElem? (i := 174) rfl)))))))))
theorem mc_239 : Cond.code yX12_ringOf cX12_ringOf 7 (some (.int)) ∈ tables_1 := (List.mem_append_right _ (List.mem_append_right _ (List.mem_append_right _ (List.mem_append_right _ (List.mem_append_right _ (List.mem_append_right _ (List.mem_append_right _ (List.mem_append_left _ (List.mem_of_getElem? (i := 190) rfl)))))))))
theorem mc_240 : Cond.code yX12_ring cX12_ring 4 (some (.int)) ∈ tables_1 := (List.mem_append_right _ (List.mem_append_right _ (List.mem_append_right _ (List.mem_append_right _ (List.mem_append_right _ (List.mem_append_right _ (List.mem_append_right _ (List.mem_append_left _ (List.mem_of_getElem? (i := 186) rfl)))))))))
theorem mc_241 : Cond.code yX12_turns cX12_turns 2 none ∈ tables_1 := (List.mem_append_right _ (List.mem_append_right _ (List.mem_append_right _ (List.mem_append_right _ (List.mem_append_right _ (List.mem_append_right _ (List.mem_append_right _ (List.mem_append_left _ (List.mem_of_getElem? (i := 206) rfl)))))))))
theorem mc_242 : Cond.code yX12_mayTurn cX12_mayTurn 3 (some (.boolean)) ∈ tables_1 := (List.mem_append_right _ (List.mem_append_right _ (List.mem_append_right _ (List.mem_append_right _ (List.mem_append_right _ (List.mem_append_right _ (List.mem_append_right _ (List.mem_append_left _ (List.mem_of_getElem? (i := 210) rfl)))))))))
theorem mc_243 : Cond.code yX12_isSoBy cX12_isSoBy 6 (some (.boolean)) ∈ tables_1 := (List.mem_append_right _ (List.mem_append_right _ (List.mem_append_right _ (List.mem_append_right _ (List.mem_append_right _ (List.mem_append_right _ (List.mem_append_right _ (List.mem_append_left _ (List.mem_of_getElem? (i := 202) rfl)))))))))
theorem mc_244 : Cond.code yX12_changes cX12_changes 7 (some (.boolean)) ∈ tables_1 := (List.mem_append_right _ (List.mem_append_right _ (List.mem_append_right _ (List.mem_append_right _ (List.mem_append_right _ (List.mem_append_right _ (List.mem_append_right _ (List.mem_append_left _ (List.mem_of_getElem? (i := 198) rfl)))))))))
theorem mc_245 : Cond.code yX12_changed cX12_changed 3 (some (.int)) ∈ tables_1 := (List.mem_append_right _ (List.mem_append_right _ (List.mem_append_right _ (List.mem_append_right _ (List.mem_append_right _ (List.mem_append_right _ (List.mem_append_right _ (List.mem_append_left _ (List.mem_of_getElem? (i := 214) rfl)))))))))
theorem mc_246 : Cond.code yX12_free cX12_free 3 (some (.int)) ∈ tables_1 := (List.mem_append_right _ (List.mem_append_right _ (List.mem_append_right _ (List.mem_append_right _ (List.mem_append_right _ (List.mem_append_right _ (List.mem_append_right _ (List.mem_append_left _ (List.mem_of_getElem? (i := 194) rfl)))))))))
theorem mc_247 : Cond.code yX12_lead cX12_lead 5 (some (.int)) ∈ tables_1 := (List.mem_append_right _ (List.mem_append_right _ (List.mem_append_right _ (List.mem_append_right _ (List.mem_append_right _ (List.mem_append_right _ (List.mem_append_right _ (List.mem_append_left _ (List.mem_of_getElem? (i := 218) rfl)))))))))
theorem mc_248 : Cond.code yX12_rowsOf cX12_rowsOf 3 (some (.int)) ∈ tables_1 := (List.mem_append_right _ (List.mem_append_right _ (List.mem_append_right _ (List.mem_append_right _ (List.mem_append_right _ (List.mem_append_right _ (List.mem_append_right _ (List.mem_append_left _ (List.mem_of_getElem? (i := 225) rfl)))))))))
theorem mc_249 : Cond.code yX12_layRow cX12_layRow 10 none ∈ tables_1 := (List.mem_append_right _ (List.mem_append_right _ (List.mem_append_right _ (List.mem_append_right _ (List.mem_append_right _ (List.mem_append_right _ (List.mem_append_right _ (List.mem_append_left _ (List.mem_of_getElem? (i := 229) rfl)))))))))
theorem mc_250 : Cond.code yX12_walk cX12_walk 11 (some (.int)) ∈ tables_1 := (List.mem_append_right _ (List.mem_append_right _ (List.mem_append_right _ (List.mem_append_right _ (List.mem_append_right _ (List.mem_append_right _ (List.mem_append_right _ (List.mem_append_left _ (List.mem_of_getElem? (i := 222) rfl)))))))))
theorem mc_251 : Cond.code yX12_meet cX12_meet 2 (some (.int)) ∈ tables_1 := (List.mem_append_right _ (List.mem_append_right _ (List.mem_append_right _ (List.mem_append_right _ (List.mem_append_right _ (List.mem_append_right _ (List.mem_append_right _ (List.mem_append_left _ (List.mem_of_getElem? (i := 233) rfl)))))))))
theorem mc_252 : Cond.code yX12_reach cX12_reach 5 (some (.int)) ∈ tables_1 := (List.mem_append_right _ (List.mem_append_right _ (List.mem_append_right _ (List.mem_append_right _ (List.mem_append_right _ (List.mem_append_right _ (List.mem_append_right _ (List.mem_append_left _ (List.mem_of_getElem? (i := 237) rfl)))))))))
theorem mc_253 : Cond.code yX12_deserves cX12_deserves 3 (some (.int)) ∈ tables_1 := (List.mem_append_right _ (List.mem_append_right _ (List.mem_append_right _ (List.mem_append_right _ (List.mem_append_right _ (List.mem_append_right _ (List.mem_append_right _ (List.mem_append_right _ ((List.mem_of_getElem? (i := 1) rfl))))))))))
theorem mc_254 : Cond.code yX12_wayBy cX12_wayBy 7 (some (.int)) ∈ tables_1 := (List.mem_append_right _ (List.mem_append_right _ (List.mem_append_right _ (List.mem_append_right _ (List.mem_append_right _ (List.mem_append_right _ (List.mem_append_right _ (List.mem_append_right _ ((List.mem_of_getElem? (i := 9) rfl))))))))))
theorem mc_255 : Cond.code yX12_visit cX12_visit 9 (some (.int)) ∈ tables_1 := (List.mem_append_right _ (List.mem_append_right _ (List.mem_append_right _ (List.mem_append_right _ (List.mem_append_right _ (List.mem_append_right _ (List.mem_append_right _ (List.mem_append_right _ ((List.mem_of_getElem? (i := 5) rfl))))))))))
theorem mc_256 : Cond.code yX12_hosts cX12_hosts 5 (some (.int)) ∈ tables_1 := (List.mem_append_right _ (List.mem_append_right _ (List.mem_append_right _ (List.mem_append_right _ (List.mem_append_right _ (List.mem_append_right _ (List.mem_append_right _ (List.mem_append_right _ ((List.mem_of_getElem? (i := 13) rfl))))))))))
theorem mc_257 : Cond.code yX12_rank cX12_rank 4 (some (.int)) ∈ tables_1 := (List.mem_append_right _ (List.mem_append_right _ (List.mem_append_right _ (List.mem_append_right _ (List.mem_append_right _ (List.mem_append_right _ (List.mem_append_right _ (List.mem_append_right _ ((List.mem_of_getElem? (i := 17) rfl))))))))))
theorem mc_258 : Cond.code yX12_keepers cX12_keepers 3 (some (.int)) ∈ tables_1 := (List.mem_append_right _ (List.mem_append_right _ (List.mem_append_right _ (List.mem_append_right _ (List.mem_append_right _ (List.mem_append_right _ (List.mem_append_right _ (List.mem_append_right _ ((List.mem_of_getElem? (i := 21) rfl))))))))))
theorem mc_259 : Cond.code yX12_comesTo cX12_comesTo 4 (some (.int)) ∈ tables_1 := (List.mem_append_right _ (List.mem_append_right _ (List.mem_append_right _ (List.mem_append_right _ (List.mem_append_right _ (List.mem_append_right _ (List.mem_append_right _ (List.mem_append_right _ ((List.mem_of_getElem? (i := 25) rfl))))))))))
theorem mc_260 : Cond.code yX12_popular cX12_popular 6 (some (.int)) ∈ tables_1 := (List.mem_append_right _ (List.mem_append_right _ (List.mem_append_right _ (List.mem_append_right _ (List.mem_append_right _ (List.mem_append_right _ (List.mem_append_right _ (List.mem_append_right _ ((List.mem_of_getElem? (i := 29) rfl))))))))))
theorem mc_261 : Cond.code yX12_mutual cX12_mutual 4 (some (.int)) ∈ tables_1 := (List.mem_append_right _ (List.mem_append_right _ (List.mem_append_right _ (List.mem_append_right _ (List.mem_append_right _ (List.mem_append_right _ (List.mem_append_right _ (List.mem_append_right _ ((List.mem_of_getElem? (i := 33) rfl))))))))))
theorem mc_262 : Cond.code yX12_lonely cX12_lonely 3 (some (.int)) ∈ tables_1 := (List.mem_append_right _ (List.mem_append_right _ (List.mem_append_right _ (List.mem_append_right _ (List.mem_append_right _ (List.mem_append_right _ (List.mem_append_right _ (List.mem_append_right _ ((List.mem_of_getElem? (i := 37) rfl))))))))))
theorem mc_263 : Cond.code yX12_hasBy cX12_hasBy 5 (some (.int)) ∈ tables_1 := (List.mem_append_right _ (List.mem_append_right _ (List.mem_append_right _ (List.mem_append_right _ (List.mem_append_right _ (List.mem_append_right _ (List.mem_append_right _ (List.mem_append_right _ ((List.mem_of_getElem? (i := 49) rfl))))))))))
theorem mc_264 : Cond.code yX12_restAt cX12_restAt 8 (some (.int)) ∈ tables_1 := (List.mem_append_right _ (List.mem_append_right _ (List.mem_append_right _ (List.mem_append_right _ (List.mem_append_right _ (List.mem_append_right _ (List.mem_append_right _ (List.mem_append_right _ ((List.mem_of_getElem? (i := 45) rfl))))))))))
theorem mc_265 : Cond.code yX12_rests cX12_rests 3 (some (.int)) ∈ tables_1 := (List.mem_append_right _ (List.mem_append_right _ (List.mem_append_right _ (List.mem_append_right _ (List.mem_append_right _ (List.mem_append_right _ (List.mem_append_right _ (List.mem_append_right _ ((List.mem_of_getElem? (i := 41) rfl))))))))))
theorem mc_266 : Cond.code yX12_rest cX12_rest 4 (some (.int)) ∈ tables_1 := (List.mem_append_right _ (List.mem_append_right _ (List.mem_append_right _ (List.mem_append_right _ (List.mem_append_right _ (List.mem_append_right _ (List.mem_append_right _ (List.mem_append_right _ ((List.mem_of_getElem? (i := 53) rfl))))))))))
theorem mc_267 : Cond.code yX12_lays cX12_lays 7 (some (.int)) ∈ tables_1 := (List.mem_append_right _ (List.mem_append_right _ (List.mem_append_right _ (List.mem_append_right _ (List.mem_append_right _ (List.mem_append_right _ (List.mem_append_right _ (List.mem_append_right _ ((List.mem_of_getElem? (i := 61) rfl))))))))))
theorem mc_268 : Cond.code yX12_note cX12_note 3 (some (.int)) ∈ tables_1 := (List.mem_append_right _ (List.mem_append_right _ (List.mem_append_right _ (List.mem_append_right _ (List.mem_append_right _ (List.mem_append_right _ (List.mem_append_right _ (List.mem_append_right _ ((List.mem_of_getElem? (i := 57) rfl))))))))))
theorem mc_269 : Cond.code yX12_see cX12_see 5 (some (.int)) ∈ tables_1 := (List.mem_append_right _ (List.mem_append_right _ (List.mem_append_right _ (List.mem_append_right _ (List.mem_append_right _ (List.mem_append_right _ (List.mem_append_right _ (List.mem_append_right _ ((List.mem_of_getElem? (i := 65) rfl))))))))))
theorem mc_270 : Cond.code yX12_strike cX12_strike 2 (some (.int)) ∈ tables_1 := (List.mem_append_right _ (List.mem_append_right _ (List.mem_append_right _ (List.mem_append_right _ (List.mem_append_right _ (List.mem_append_right _ (List.mem_append_right _ (List.mem_append_right _ ((List.mem_of_getElem? (i := 69) rfl))))))))))
theorem mc_271 : Cond.code yX12_known cX12_known 2 (some (.boolean)) ∈ tables_1 := (List.mem_append_right _ (List.mem_append_right _ (List.mem_append_right _ (List.mem_append_right _ (List.mem_append_right _ (List.mem_append_right _ (List.mem_append_right _ (List.mem_append_right _ ((List.mem_of_getElem? (i := 73) rfl))))))))))
theorem mc_272 : Cond.code yX12_knownBy cX12_knownBy 1 (some (.int)) ∈ tables_1 := (List.mem_append_right _ (List.mem_append_right _ (List.mem_append_right _ (List.mem_append_right _ (List.mem_append_right _ (List.mem_append_right _ (List.mem_append_right _ (List.mem_append_right _ ((List.mem_of_getElem? (i := 85) rfl))))))))))
theorem mc_273 : Cond.code yX12_layCounts cX12_layCounts 2 none ∈ tables_1 := (List.mem_append_right _ (List.mem_append_right _ (List.mem_append_right _ (List.mem_append_right _ (List.mem_append_right _ (List.mem_append_right _ (List.mem_append_right _ (List.mem_append_right _ ((List.mem_of_getElem? (i := 81) rfl))))))))))
theorem mc_274 : Cond.code yX12_clashesOf cX12_clashesOf 7 (some (.int)) ∈ tables_1 := (List.mem_append_right _ (List.mem_append_right _ (List.mem_append_right _ (List.mem_append_right _ (List.mem_append_right _ (List.mem_append_right _ (List.mem_append_right _ (List.mem_append_right _ ((List.mem_of_getElem? (i := 89) rfl))))))))))
theorem mc_275 : Cond.code yX12_order cX12_order 6 (some (.int)) ∈ tables_1 := (List.mem_append_right _ (List.mem_append_right _ (List.mem_append_right _ (List.mem_append_right _ (List.mem_append_right _ (List.mem_append_right _ (List.mem_append_right _ (List.mem_append_right _ ((List.mem_of_getElem? (i := 77) rfl))))))))))
theorem mc_276 : Cond.code yX12_isSo cX12_isSo 4 (some (.boolean)) ∈ tables_1 := (List.mem_append_right _ (List.mem_append_right _ (List.mem_append_right _ (List.mem_append_right _ (List.mem_append_right _ (List.mem_append_right _ (List.mem_append_right _ (List.mem_append_right _ ((List.mem_of_getElem? (i := 101) rfl))))))))))
theorem mc_277 : Cond.code yX12_fits cX12_fits 4 (some (.boolean)) ∈ tables_1 := (List.mem_append_right _ (List.mem_append_right _ (List.mem_append_right _ (List.mem_append_right _ (List.mem_append_right _ (List.mem_append_right _ (List.mem_append_right _ (List.mem_append_right _ ((List.mem_of_getElem? (i := 97) rfl))))))))))
theorem mc_278 : Cond.code yX12_doubts cX12_doubts 4 (some (.int)) ∈ tables_1 := (List.mem_append_right _ (List.mem_append_right _ (List.mem_append_right _ (List.mem_append_right _ (List.mem_append_right _ (List.mem_append_right _ (List.mem_append_right _ (List.mem_append_right _ ((List.mem_of_getElem? (i := 93) rfl))))))))))
theorem mc_279 : Cond.code yX12_chance cX12_chance 9 (some (.int)) ∈ tables_1 := (List.mem_append_right _ (List.mem_append_right _ (List.mem_append_right _ (List.mem_append_right _ (List.mem_append_right _ (List.mem_append_right _ (List.mem_append_right _ (List.mem_append_right _ ((List.mem_of_getElem? (i := 105) rfl))))))))))
theorem mc_280 : Cond.code yX12_tried cX12_tried 4 (some (.int)) ∈ tables_1 := (List.mem_append_right _ (List.mem_append_right _ (List.mem_append_right _ (List.mem_append_right _ (List.mem_append_right _ (List.mem_append_right _ (List.mem_append_right _ (List.mem_append_right _ ((List.mem_of_getElem? (i := 109) rfl))))))))))
theorem mc_281 : Cond.code yX12_put cX12_put 4 none ∈ tables_1 := (List.mem_append_right _ (List.mem_append_right _ (List.mem_append_right _ (List.mem_append_right _ (List.mem_append_right _ (List.mem_append_right _ (List.mem_append_right _ (List.mem_append_left _ (List.mem_of_getElem? (i := 134) rfl)))))))))
theorem mc_282 : Cond.code yX12_take cX12_take 4 none ∈ tables_1 := (List.mem_append_right _ (List.mem_append_right _ (List.mem_append_right _ (List.mem_append_right _ (List.mem_append_right _ (List.mem_append_right _ (List.mem_append_right _ (List.mem_append_right _ ((List.mem_of_getElem? (i := 117) rfl))))))))))
theorem mc_283 : Cond.code yX12_remember cX12_remember 2 none ∈ tables_1 := (List.mem_append_right _ (List.mem_append_right _ (List.mem_append_right _ (List.mem_append_right _ (List.mem_append_right _ (List.mem_append_right _ (List.mem_append_right _ (List.mem_append_left _ (List.mem_of_getElem? (i := 130) rfl)))))))))
theorem mc_284 : Cond.code yX12_undo cX12_undo 1 (some (.int)) ∈ tables_1 := (List.mem_append_right _ (List.mem_append_right _ (List.mem_append_right _ (List.mem_append_right _ (List.mem_append_right _ (List.mem_append_right _ (List.mem_append_right _ (List.mem_append_right _ ((List.mem_of_getElem? (i := 113) rfl))))))))))
theorem mc_285 : Cond.code yX12_keep cX12_keep 1 (some (.int)) ∈ tables_1 := (List.mem_append_right _ (List.mem_append_right _ (List.mem_append_right _ (List.mem_append_right _ (List.mem_append_right _ (List.mem_append_right _ (List.mem_append_right _ (List.mem_append_right _ ((List.mem_of_getElem? (i := 121) rfl))))))))))
theorem mc_286 : Cond.code yX12_back cX12_back 1 (some (.int)) ∈ tables_1 := (List.mem_append_right _ (List.mem_append_right _ (List.mem_append_right _ (List.mem_append_right _ (List.mem_append_right _ (List.mem_append_right _ (List.mem_append_right _ (List.mem_append_right _ ((List.mem_of_getElem? (i := 125) rfl))))))))))
theorem mc_287 : Cond.code yX12_count cX12_count 4 (some (.int)) ∈ tables_1 := (List.mem_append_right _ (List.mem_append_right _ (List.mem_append_right _ (List.mem_append_right _ (List.mem_append_right _ (List.mem_append_right _ (List.mem_append_right _ (List.mem_append_right _ ((List.mem_of_getElem? (i := 129) rfl))))))))))
theorem mc_288 : Cond.code yJ6_bitCount_0f7a4 cJ6_bitCount_0f7a4 1 (some (.int)) ∈ tables_1 := (List.mem_append_right _ (List.mem_append_right _ (List.mem_append_right _ (List.mem_append_right _ (List.mem_append_right _ (List.mem_append_left _ (List.mem_of_getElem? (i := 14) rfl)))))))
theorem mcc_0 : ∀ a ∈ [0, 1, 2, 3, 4, 5, 6, 7, 8, 9, 10, 11, 12, 13, 14, 15], Cond.code (mY a) (mC a) (mL a) (mR a) ∈ tables_1 := List.forall_mem_cons.mpr ⟨mc_0, List.forall_mem_cons.mpr ⟨mc_1, List.forall_mem_cons.mpr ⟨mc_2, List.forall_mem_cons.mpr ⟨mc_3, List.forall_mem_cons.mpr ⟨mc_4, List.forall_mem_cons.mpr ⟨mc_5, List.forall_mem_cons.mpr ⟨mc_6, List.forall_mem_cons.mpr ⟨mc_7, List.forall_mem_cons.mpr ⟨mc_8, List.forall_mem_cons.mpr ⟨mc_9, List.forall_mem_cons.mpr ⟨mc_10, List.forall_mem_cons.mpr ⟨mc_11, List.forall_mem_cons.mpr ⟨mc_12, List.forall_mem_cons.mpr ⟨mc_13, List.forall_mem_cons.mpr ⟨mc_14, List.forall_mem_cons.mpr ⟨mc_15, fun _ h => absurd h List.not_mem_nil⟩⟩⟩⟩⟩⟩⟩⟩⟩⟩⟩⟩⟩⟩⟩⟩
theorem mcc_1 : ∀ a ∈ [16, 17, 18, 19, 20, 21, 22, 23, 24, 25, 26, 27, 28, 29, 30, 31], Cond.code (mY a) (mC a) (mL a) (mR a) ∈ tables_1 := List.forall_mem_cons.mpr ⟨mc_16, List.forall_mem_cons.mpr ⟨mc_17, List.forall_mem_cons.mpr ⟨mc_18, List.forall_mem_cons.mpr ⟨mc_19, List.forall_mem_cons.mpr ⟨mc_20, List.forall_mem_cons.mpr ⟨mc_21, List.forall_mem_cons.mpr ⟨mc_22, List.forall_mem_cons.mpr ⟨mc_23, List.forall_mem_cons.mpr ⟨mc_24, List.forall_mem_cons.mpr ⟨mc_25, List.forall_mem_cons.mpr ⟨mc_26, List.forall_mem_cons.mpr ⟨mc_27, List.forall_mem_cons.mpr ⟨mc_28, List.forall_mem_cons.mpr ⟨mc_29, List.forall_mem_cons.mpr ⟨mc_30, List.forall_mem_cons.mpr ⟨mc_31, fun _ h => absurd h List.not_mem_nil⟩⟩⟩⟩⟩⟩⟩⟩⟩⟩⟩⟩⟩⟩⟩⟩
theorem mcc_2 : ∀ a ∈ [32, 33, 34, 35, 36, 37, 38, 39, 40, 41, 42, 43, 44, 45, 46, 47], Cond.code (mY a) (mC a) (mL a) (mR a) ∈ tables_1 := List.forall_mem_cons.mpr ⟨mc_32, List.forall_mem_cons.mpr ⟨mc_33, List.forall_mem_cons.mpr ⟨mc_34, List.forall_mem_cons.mpr ⟨mc_35, List.forall_mem_cons.mpr ⟨mc_36, List.forall_mem_cons.mpr ⟨mc_37, List.forall_mem_cons.mpr ⟨mc_38, List.forall_mem_cons.mpr ⟨mc_39, List.forall_mem_cons.mpr ⟨mc_40, List.forall_mem_cons.mpr ⟨mc_41, List.forall_mem_cons.mpr ⟨mc_42, List.forall_mem_cons.mpr ⟨mc_43, List.forall_mem_cons.mpr ⟨mc_44, List.forall_mem_cons.mpr ⟨mc_45, List.forall_mem_cons.mpr ⟨mc_46, List.forall_mem_cons.mpr ⟨mc_47, fun _ h => absurd h List.not_mem_nil⟩⟩⟩⟩⟩⟩⟩⟩⟩⟩⟩⟩⟩⟩⟩⟩
theorem mcc_3 : ∀ a ∈ [48, 49, 50, 51, 52, 53, 54, 55, 56, 57, 58, 59, 60, 61, 62, 63], Cond.code (mY a) (mC a) (mL a) (mR a) ∈ tables_1 := List.forall_mem_cons.mpr ⟨mc_48, List.forall_mem_cons.mpr ⟨mc_49, List.forall_mem_cons.mpr ⟨mc_50, List.forall_mem_cons.mpr ⟨mc_51, List.forall_mem_cons.mpr ⟨mc_52, List.forall_mem_cons.mpr ⟨mc_53, List.forall_mem_cons.mpr ⟨mc_54, List.forall_mem_cons.mpr ⟨mc_55, List.forall_mem_cons.mpr ⟨mc_56, List.forall_mem_cons.mpr ⟨mc_57, List.forall_mem_cons.mpr ⟨mc_58, List.forall_mem_cons.mpr ⟨mc_59, List.forall_mem_cons.mpr ⟨mc_60, List.forall_mem_cons.mpr ⟨mc_61, List.forall_mem_cons.mpr ⟨mc_62, List.forall_mem_cons.mpr ⟨mc_63, fun _ h => absurd h List.not_mem_nil⟩⟩⟩⟩⟩⟩⟩⟩⟩⟩⟩⟩⟩⟩⟩⟩
theorem mcc_4 : ∀ a ∈ [64, 65, 66, 67, 68, 69, 70, 71, 72, 73, 74, 75, 76, 77, 78, 79], Cond.code (mY a) (mC a) (mL a) (mR a) ∈ tables_1 := List.forall_mem_cons.mpr ⟨mc_64, List.forall_mem_cons.mpr ⟨mc_65, List.forall_mem_cons.mpr ⟨mc_66, List.forall_mem_cons.mpr ⟨mc_67, List.forall_mem_cons.mpr ⟨mc_68, List.forall_mem_cons.mpr ⟨mc_69, List.forall_mem_cons.mpr ⟨mc_70, List.forall_mem_cons.mpr ⟨mc_71, List.forall_mem_cons.mpr ⟨mc_72, List.forall_mem_cons.mpr ⟨mc_73, List.forall_mem_cons.mpr ⟨mc_74, List.forall_mem_cons.mpr ⟨mc_75, List.forall_mem_cons.mpr ⟨mc_76, List.forall_mem_cons.mpr ⟨mc_77, List.forall_mem_cons.mpr ⟨mc_78, List.forall_mem_cons.mpr ⟨mc_79, fun _ h => absurd h List.not_mem_nil⟩⟩⟩⟩⟩⟩⟩⟩⟩⟩⟩⟩⟩⟩⟩⟩
theorem mcc_5 : ∀ a ∈ [80, 81, 82, 83, 84, 85, 86, 87, 88, 89, 90, 91, 92, 93, 94, 95], Cond.code (mY a) (mC a) (mL a) (mR a) ∈ tables_1 := List.forall_mem_cons.mpr ⟨mc_80, List.forall_mem_cons.mpr ⟨mc_81, List.forall_mem_cons.mpr ⟨mc_82, List.forall_mem_cons.mpr ⟨mc_83, List.forall_mem_cons.mpr ⟨mc_84, List.forall_mem_cons.mpr ⟨mc_85, List.forall_mem_cons.mpr ⟨mc_86, List.forall_mem_cons.mpr ⟨mc_87, List.forall_mem_cons.mpr ⟨mc_88, List.forall_mem_cons.mpr ⟨mc_89, List.forall_mem_cons.mpr ⟨mc_90, List.forall_mem_cons.mpr ⟨mc_91, List.forall_mem_cons.mpr ⟨mc_92, List.forall_mem_cons.mpr ⟨mc_93, List.forall_mem_cons.mpr ⟨mc_94, List.forall_mem_cons.mpr ⟨mc_95, fun _ h => absurd h List.not_mem_nil⟩⟩⟩⟩⟩⟩⟩⟩⟩⟩⟩⟩⟩⟩⟩⟩
theorem mcc_6 : ∀ a ∈ [96, 97, 98, 99, 100, 101, 102, 103, 104, 105, 106, 107, 108, 109, 110, 111], Cond.code (mY a) (mC a) (mL a) (mR a) ∈ tables_1 := List.forall_mem_cons.mpr ⟨mc_96, List.forall_mem_cons.mpr ⟨mc_97, List.forall_mem_cons.mpr ⟨mc_98, List.forall_mem_cons.mpr ⟨mc_99, List.forall_mem_cons.mpr ⟨mc_100, List.forall_mem_cons.mpr ⟨mc_101, List.forall_mem_cons.mpr ⟨mc_102, List.forall_mem_cons.mpr ⟨mc_103, List.forall_mem_cons.mpr ⟨mc_104, List.forall_mem_cons.mpr ⟨mc_105, List.forall_mem_cons.mpr ⟨mc_106, List.forall_mem_cons.mpr ⟨mc_107, List.forall_mem_cons.mpr ⟨mc_108, List.forall_mem_cons.mpr ⟨mc_109, List.forall_mem_cons.mpr ⟨mc_110, List.forall_mem_cons.mpr ⟨mc_111, fun _ h => absurd h List.not_mem_nil⟩⟩⟩⟩⟩⟩⟩⟩⟩⟩⟩⟩⟩⟩⟩⟩
theorem mcc_7 : ∀ a ∈ [112, 113, 114, 115, 116, 117, 118, 119, 120, 121, 122, 123, 124, 125, 126, 127], Cond.code (mY a) (mC a) (mL a) (mR a) ∈ tables_1 := List.forall_mem_cons.mpr ⟨mc_112, List.forall_mem_cons.mpr ⟨mc_113, List.forall_mem_cons.mpr ⟨mc_114, List.forall_mem_cons.mpr ⟨mc_115, List.forall_mem_cons.mpr ⟨mc_116, List.forall_mem_cons.mpr ⟨mc_117, List.forall_mem_cons.mpr ⟨mc_118, List.forall_mem_cons.mpr ⟨mc_119, List.forall_mem_cons.mpr ⟨mc_120, List.forall_mem_cons.mpr ⟨mc_121, List.forall_mem_cons.mpr ⟨mc_122, List.forall_mem_cons.mpr ⟨mc_123, List.forall_mem_cons.mpr ⟨mc_124, List.forall_mem_cons.mpr ⟨mc_125, List.forall_mem_cons.mpr ⟨mc_126, List.forall_mem_cons.mpr ⟨mc_127, fun _ h => absurd h List.not_mem_nil⟩⟩⟩⟩⟩⟩⟩⟩⟩⟩⟩⟩⟩⟩⟩⟩
theorem mcc_8 : ∀ a ∈ [128, 129, 130, 131, 132, 133, 134, 135, 136, 137, 138, 139, 140, 141, 142, 143], Cond.code (mY a) (mC a) (mL a) (mR a) ∈ tables_1 := List.forall_mem_cons.mpr ⟨mc_128, List.forall_mem_cons.mpr ⟨mc_129, List.forall_mem_cons.mpr ⟨mc_130, List.forall_mem_cons.mpr ⟨mc_131, List.forall_mem_cons.mpr ⟨mc_132, List.forall_mem_cons.mpr ⟨mc_133, List.forall_mem_cons.mpr ⟨mc_134, List.forall_mem_cons.mpr ⟨mc_135, List.forall_mem_cons.mpr ⟨mc_136, List.forall_mem_cons.mpr ⟨mc_137, List.forall_mem_cons.mpr ⟨mc_138, List.forall_mem_cons.mpr ⟨mc_139, List.forall_mem_cons.mpr ⟨mc_140, List.forall_mem_cons.mpr ⟨mc_141, List.forall_mem_cons.mpr ⟨mc_142, List.forall_mem_cons.mpr ⟨mc_143, fun _ h => absurd h List.not_mem_nil⟩⟩⟩⟩⟩⟩⟩⟩⟩⟩⟩⟩⟩⟩⟩⟩
theorem mcc_9 : ∀ a ∈ [144, 145, 146, 147, 148, 149, 150, 151, 152, 153, 154, 155, 156, 157, 158, 159], Cond.code (mY a) (mC a) (mL a) (mR a) ∈ tables_1 := List.forall_mem_cons.mpr ⟨mc_144, List.forall_mem_cons.mpr ⟨mc_145, List.forall_mem_cons.mpr ⟨mc_146, List.forall_mem_cons.mpr ⟨mc_147, List.forall_mem_cons.mpr ⟨mc_148, List.forall_mem_cons.mpr ⟨mc_149, List.forall_mem_cons.mpr ⟨mc_150, List.forall_mem_cons.mpr ⟨mc_151, List.forall_mem_cons.mpr ⟨mc_152, List.forall_mem_cons.mpr ⟨mc_153, List.forall_mem_cons.mpr ⟨mc_154, List.forall_mem_cons.mpr ⟨mc_155, List.forall_mem_cons.mpr ⟨mc_156, List.forall_mem_cons.mpr ⟨mc_157, List.forall_mem_cons.mpr ⟨mc_158, List.forall_mem_cons.mpr ⟨mc_159, fun _ h => absurd h List.not_mem_nil⟩⟩⟩⟩⟩⟩⟩⟩⟩⟩⟩⟩⟩⟩⟩⟩
theorem mcc_10 : ∀ a ∈ [160, 161, 162, 163, 164, 165, 166, 167, 168, 169, 170, 171, 172, 173, 174, 175], Cond.code (mY a) (mC a) (mL a) (mR a) ∈ tables_1 := List.forall_mem_cons.mpr ⟨mc_160, List.forall_mem_cons.mpr ⟨mc_161, List.forall_mem_cons.mpr ⟨mc_162, List.forall_mem_cons.mpr ⟨mc_163, List.forall_mem_cons.mpr ⟨mc_164, List.forall_mem_cons.mpr ⟨mc_165, List.forall_mem_cons.mpr ⟨mc_166, List.forall_mem_cons.mpr ⟨mc_167, List.forall_mem_cons.mpr ⟨mc_168, List.forall_mem_cons.mpr ⟨mc_169, List.forall_mem_cons.mpr ⟨mc_170, List.forall_mem_cons.mpr ⟨mc_171, List.forall_mem_cons.mpr ⟨mc_172, List.forall_mem_cons.mpr ⟨mc_173, List.forall_mem_cons.mpr ⟨mc_174, List.forall_mem_cons.mpr ⟨mc_175, fun _ h => absurd h List.not_mem_nil⟩⟩⟩⟩⟩⟩⟩⟩⟩⟩⟩⟩⟩⟩⟩⟩
theorem mcc_11 : ∀ a ∈ [176, 177, 178, 179, 180, 181, 182, 183, 184, 185, 186, 187, 188, 189, 190, 191], Cond.code (mY a) (mC a) (mL a) (mR a) ∈ tables_1 := List.forall_mem_cons.mpr ⟨mc_176, List.forall_mem_cons.mpr ⟨mc_177, List.forall_mem_cons.mpr ⟨mc_178, List.forall_mem_cons.mpr ⟨mc_179, List.forall_mem_cons.mpr ⟨mc_180, List.forall_mem_cons.mpr ⟨mc_181, List.forall_mem_cons.mpr ⟨mc_182, List.forall_mem_cons.mpr ⟨mc_183, List.forall_mem_cons.mpr ⟨mc_184, List.forall_mem_cons.mpr ⟨mc_185, List.forall_mem_cons.mpr ⟨mc_186, List.forall_mem_cons.mpr ⟨mc_187, List.forall_mem_cons.mpr ⟨mc_188, List.forall_mem_cons.mpr ⟨mc_189, List.forall_mem_cons.mpr ⟨mc_190, List.forall_mem_cons.mpr ⟨mc_191, fun _ h => absurd h List.not_mem_nil⟩⟩⟩⟩⟩⟩⟩⟩⟩⟩⟩⟩⟩⟩⟩⟩
theorem mcc_12 : ∀ a ∈ [192, 193, 194, 195, 196, 197, 198, 199, 200, 201, 202, 203, 204, 205, 206, 207], Cond.code (mY a) (mC a) (mL a) (mR a) ∈ tables_1 := List.forall_mem_cons.mpr ⟨mc_192, List.forall_mem_cons.mpr ⟨mc_193, List.forall_mem_cons.mpr ⟨mc_194, List.forall_mem_cons.mpr ⟨mc_195, List.forall_mem_cons.mpr ⟨mc_196, List.forall_mem_cons.mpr ⟨mc_197, List.forall_mem_cons.mpr ⟨mc_198, List.forall_mem_cons.mpr ⟨mc_199, List.forall_mem_cons.mpr ⟨mc_200, List.forall_mem_cons.mpr ⟨mc_201, List.forall_mem_cons.mpr ⟨mc_202, List.forall_mem_cons.mpr ⟨mc_203, List.forall_mem_cons.mpr ⟨mc_204, List.forall_mem_cons.mpr ⟨mc_205, List.forall_mem_cons.mpr ⟨mc_206, List.forall_mem_cons.mpr ⟨mc_207, fun _ h => absurd h List.not_mem_nil⟩⟩⟩⟩⟩⟩⟩⟩⟩⟩⟩⟩⟩⟩⟩⟩
theorem mcc_13 : ∀ a ∈ [208, 209, 210, 211, 212, 213, 214, 215, 216, 217, 218, 219, 220, 221, 222, 223], Cond.code (mY a) (mC a) (mL a) (mR a) ∈ tables_1 := List.forall_mem_cons.mpr ⟨mc_208, List.forall_mem_cons.mpr ⟨mc_209, List.forall_mem_cons.mpr ⟨mc_210, List.forall_mem_cons.mpr ⟨mc_211, List.forall_mem_cons.mpr ⟨mc_212, List.forall_mem_cons.mpr ⟨mc_213, List.forall_mem_cons.mpr ⟨mc_214, List.forall_mem_cons.mpr ⟨mc_215, List.forall_mem_cons.mpr ⟨mc_216, List.forall_mem_cons.mpr ⟨mc_217, List.forall_mem_cons.mpr ⟨mc_218, List.forall_mem_cons.mpr ⟨mc_219, List.forall_mem_cons.mpr ⟨mc_220, List.forall_mem_cons.mpr ⟨mc_221, List.forall_mem_cons.mpr ⟨mc_222, List.forall_mem_cons.mpr ⟨mc_223, fun _ h => absurd h List.not_mem_nil⟩⟩⟩⟩⟩⟩⟩⟩⟩⟩⟩⟩⟩⟩⟩⟩
theorem mcc_14 : ∀ a ∈ [224, 225, 226, 227, 228, 229, 230, 231, 232, 233, 234, 235, 236, 237, 238, 239], Cond.code (mY a) (mC a) (mL a) (mR a) ∈ tables_1 := List.forall_mem_cons.mpr ⟨mc_224, List.forall_mem_cons.mpr ⟨mc_225, List.forall_mem_cons.mpr ⟨mc_226, List.forall_mem_cons.mpr ⟨mc_227, List.forall_mem_cons.mpr ⟨mc_228, List.forall_mem_cons.mpr ⟨mc_229, List.forall_mem_cons.mpr ⟨mc_230, List.forall_mem_cons.mpr ⟨mc_231, List.forall_mem_cons.mpr ⟨mc_232, List.forall_mem_cons.mpr ⟨mc_233, List.forall_mem_cons.mpr ⟨mc_234, List.forall_mem_cons.mpr ⟨mc_235, List.forall_mem_cons.mpr ⟨mc_236, List.forall_mem_cons.mpr ⟨mc_237, List.forall_mem_cons.mpr ⟨mc_238, List.forall_mem_cons.mpr ⟨mc_239, fun _ h => absurd h List.not_mem_nil⟩⟩⟩⟩⟩⟩⟩⟩⟩⟩⟩⟩⟩⟩⟩⟩
theorem mcc_15 : ∀ a ∈ [240, 241, 242, 243, 244, 245, 246, 247, 248, 249, 250, 251, 252, 253, 254, 255], Cond.code (mY a) (mC a) (mL a) (mR a) ∈ tables_1 := List.forall_mem_cons.mpr ⟨mc_240, List.forall_mem_cons.mpr ⟨mc_241, List.forall_mem_cons.mpr ⟨mc_242, List.forall_mem_cons.mpr ⟨mc_243, List.forall_mem_cons.mpr ⟨mc_244, List.forall_mem_cons.mpr ⟨mc_245, List.forall_mem_cons.mpr ⟨mc_246, List.forall_mem_cons.mpr ⟨mc_247, List.forall_mem_cons.mpr ⟨mc_248, List.forall_mem_cons.mpr ⟨mc_249, List.forall_mem_cons.mpr ⟨mc_250, List.forall_mem_cons.mpr ⟨mc_251, List.forall_mem_cons.mpr ⟨mc_252, List.forall_mem_cons.mpr ⟨mc_253, List.forall_mem_cons.mpr ⟨mc_254, List.forall_mem_cons.mpr ⟨mc_255, fun _ h => absurd h List.not_mem_nil⟩⟩⟩⟩⟩⟩⟩⟩⟩⟩⟩⟩⟩⟩⟩⟩
theorem mcc_16 : ∀ a ∈ [256, 257, 258, 259, 260, 261, 262, 263, 264, 265, 266, 267, 268, 269, 270, 271], Cond.code (mY a) (mC a) (mL a) (mR a) ∈ tables_1 := List.forall_mem_cons.mpr ⟨mc_256, List.forall_mem_cons.mpr ⟨mc_257, List.forall_mem_cons.mpr ⟨mc_258, List.forall_mem_cons.mpr ⟨mc_259, List.forall_mem_cons.mpr ⟨mc_260, List.forall_mem_cons.mpr ⟨mc_261, List.forall_mem_cons.mpr ⟨mc_262, List.forall_mem_cons.mpr ⟨mc_263, List.forall_mem_cons.mpr ⟨mc_264, List.forall_mem_cons.mpr ⟨mc_265, List.forall_mem_cons.mpr ⟨mc_266, List.forall_mem_cons.mpr ⟨mc_267, List.forall_mem_cons.mpr ⟨mc_268, List.forall_mem_cons.mpr ⟨mc_269, List.forall_mem_cons.mpr ⟨mc_270, List.forall_mem_cons.mpr ⟨mc_271, fun _ h => absurd h List.not_mem_nil⟩⟩⟩⟩⟩⟩⟩⟩⟩⟩⟩⟩⟩⟩⟩⟩
theorem mcc_17 : ∀ a ∈ [272, 273, 274, 275, 276, 277, 278, 279, 280, 281, 282, 283, 284, 285, 286, 287], Cond.code (mY a) (mC a) (mL a) (mR a) ∈ tables_1 := List.forall_mem_cons.mpr ⟨mc_272, List.forall_mem_cons.mpr ⟨mc_273, List.forall_mem_cons.mpr ⟨mc_274, List.forall_mem_cons.mpr ⟨mc_275, List.forall_mem_cons.mpr ⟨mc_276, List.forall_mem_cons.mpr ⟨mc_277, List.forall_mem_cons.mpr ⟨mc_278, List.forall_mem_cons.mpr ⟨mc_279, List.forall_mem_cons.mpr ⟨mc_280, List.forall_mem_cons.mpr ⟨mc_281, List.forall_mem_cons.mpr ⟨mc_282, List.forall_mem_cons.mpr ⟨mc_283, List.forall_mem_cons.mpr ⟨mc_284, List.forall_mem_cons.mpr ⟨mc_285, List.forall_mem_cons.mpr ⟨mc_286, List.forall_mem_cons.mpr ⟨mc_287, fun _ h => absurd h List.not_mem_nil⟩⟩⟩⟩⟩⟩⟩⟩⟩⟩⟩⟩⟩⟩⟩⟩
theorem mcc_18 : ∀ a ∈ [288], Cond.code (mY a) (mC a) (mL a) (mR a) ∈ tables_1 := List.forall_mem_cons.mpr ⟨mc_288, fun _ h => absurd h List.not_mem_nil⟩
theorem mc_all : ∀ a ∈ List.range 289, Cond.code (mY a) (mC a) (mL a) (mR a) ∈ tbG := by
  have e : List.range 289 = [0, 1, 2, 3, 4, 5, 6, 7, 8, 9, 10, 11, 12, 13, 14, 15] ++ ([16, 17, 18, 19, 20, 21, 22, 23, 24, 25, 26, 27, 28, 29, 30, 31] ++ ([32, 33, 34, 35, 36, 37, 38, 39, 40, 41, 42, 43, 44, 45, 46, 47] ++ ([48, 49, 50, 51, 52, 53, 54, 55, 56, 57, 58, 59, 60, 61, 62, 63] ++ ([64, 65, 66, 67, 68, 69, 70, 71, 72, 73, 74, 75, 76, 77, 78, 79] ++ ([80, 81, 82, 83, 84, 85, 86, 87, 88, 89, 90, 91, 92, 93, 94, 95] ++ ([96, 97, 98, 99, 100, 101, 102, 103, 104, 105, 106, 107, 108, 109, 110, 111] ++ ([112, 113, 114, 115, 116, 117, 118, 119, 120, 121, 122, 123, 124, 125, 126, 127] ++ ([128, 129, 130, 131, 132, 133, 134, 135, 136, 137, 138, 139, 140, 141, 142, 143] ++ ([144, 145, 146, 147, 148, 149, 150, 151, 152, 153, 154, 155, 156, 157, 158, 159] ++ ([160, 161, 162, 163, 164, 165, 166, 167, 168, 169, 170, 171, 172, 173, 174, 175] ++ ([176, 177, 178, 179, 180, 181, 182, 183, 184, 185, 186, 187, 188, 189, 190, 191] ++ ([192, 193, 194, 195, 196, 197, 198, 199, 200, 201, 202, 203, 204, 205, 206, 207] ++ ([208, 209, 210, 211, 212, 213, 214, 215, 216, 217, 218, 219, 220, 221, 222, 223] ++ ([224, 225, 226, 227, 228, 229, 230, 231, 232, 233, 234, 235, 236, 237, 238, 239] ++ ([240, 241, 242, 243, 244, 245, 246, 247, 248, 249, 250, 251, 252, 253, 254, 255] ++ ([256, 257, 258, 259, 260, 261, 262, 263, 264, 265, 266, 267, 268, 269, 270, 271] ++ ([272, 273, 274, 275, 276, 277, 278, 279, 280, 281, 282, 283, 284, 285, 286, 287] ++ ([288])))))))))))))))))) := by decide +kernel
  rw [e]
  intro a ha
  refine tbG_in (List.mem_append_right _ ?_) rfl
  revert a
  exact List.forall_mem_append.mpr ⟨mcc_0, List.forall_mem_append.mpr ⟨mcc_1, List.forall_mem_append.mpr ⟨mcc_2, List.forall_mem_append.mpr ⟨mcc_3, List.forall_mem_append.mpr ⟨mcc_4, List.forall_mem_append.mpr ⟨mcc_5, List.forall_mem_append.mpr ⟨mcc_6, List.forall_mem_append.mpr ⟨mcc_7, List.forall_mem_append.mpr ⟨mcc_8, List.forall_mem_append.mpr ⟨mcc_9, List.forall_mem_append.mpr ⟨mcc_10, List.forall_mem_append.mpr ⟨mcc_11, List.forall_mem_append.mpr ⟨mcc_12, List.forall_mem_append.mpr ⟨mcc_13, List.forall_mem_append.mpr ⟨mcc_14, List.forall_mem_append.mpr ⟨mcc_15, List.forall_mem_append.mpr ⟨mcc_16, List.forall_mem_append.mpr ⟨mcc_17, mcc_18⟩⟩⟩⟩⟩⟩⟩⟩⟩⟩⟩⟩⟩⟩⟩⟩⟩⟩
end
section
/-- the kind of a field: 0 int, 1 boolean, 2 an array, 3 an object for good, 4 a garden, 5 long -/
def ftT : List (List Nat) := [[3, 2, 2, 2, 4, 0, 1], [2, 2, 2, 2, 2, 2, 0], [0, 0, 0, 0, 0, 2, 2, 2, 2, 2, 3], [2, 0], [2, 0, 0, 0, 0, 0, 0, 0], [0, 5, 2, 2, 2, 2, 2, 2], [3, 2, 0, 0, 4, 1, 1, 0, 0, 0], [2, 2, 2, 2, 0, 0, 1, 0, 0], [2, 2, 0, 0], [2, 2, 0, 0, 0, 0, 0, 0], [2, 2, 2, 2, 2, 2, 0, 0], [3, 3, 4, 3, 3, 3, 1, 3, 3, 3, 3, 3], [2, 0, 0, 2, 0, 0, 0, 0, 0, 0, 0, 0, 0, 0, 0, 0, 0, 0, 2, 2, 2, 2, 2, 2, 2, 2, 2, 2, 2, 2, 2, 2, 2, 2, 2, 0, 0, 0, 0, 1, 1, 2, 2, 1, 2, 2, 2, 2, 2, 2, 2, 5, 1, 1, 1, 1, 1, 0, 0, 0, 0, 0, 2, 0, 0, 0, 2, 0, 0, 2, 2, 2, 0, 2, 1, 2, 0, 5]]
def fty (c k : Nat) : Nat := (ftT.getD c []).getD k 9
def pcO (C : List OP) (i : Nat) : Nat := match C[i]? with
  | some op => op.2.2.1
  | none => 0
def dq (cc : ByteArray) (pc : Nat) (I : Instr) (n : Nat) : Bool := decide (decode cc pc = .ok (I, n))
theorem dq_ok {cc : ByteArray} {pc : Nat} {I : Instr} {n : Nat} (h : dq cc pc I n = true) : decode cc pc = .ok (I, n) := of_decide_eq_true h
def lq (cc : ByteArray) (pc nx a b : Nat) (f : Fin 4 → Instr) (g : Nat → Instr) : Bool := if h : b < 4 then dq cc pc (f ⟨b, h⟩) 1 && decide (nx = pc + 1) && decide (a = b) else dq cc pc (g a) 2 && decide (nx = pc + 2)
def ft0 (cc : ByteArray) (pc nx own ml s : Nat) (im : Int) (a b : Nat) : Bool := match s with
  | 0 => match b with
    | 0 => dq cc pc (.iconst im) 1 && decide (nx = pc + 1)
    | 1 => dq cc pc (.bipush im) 2 && decide (nx = pc + 2) && decide ((Int8.ofInt im).toInt32 = Int32.ofInt im)
    | 2 => dq cc pc (.sipush im) 3 && decide (nx = pc + 3) && decide ((Int16.ofInt im).toInt32 = Int32.ofInt im)
    | 3 => dq cc pc (.ldc a) 2 && decide (nx = pc + 2) && decide ((own, a, im) ∈ kiT)
    | 4 => dq cc pc (.ldc_w a) 3 && decide (nx = pc + 3) && decide ((own, a, im) ∈ kiT)
    | _ => false
  | 1 => match b with
    | 0 => dq cc pc (.lconst 0) 1 && decide (nx = pc + 1) && decide (im = 0)
    | 1 => dq cc pc (.lconst 1) 1 && decide (nx = pc + 1) && decide (im = 1)
    | 2 => dq cc pc (.ldc2_w a) 3 && decide (nx = pc + 3) && decide ((own, a, im) ∈ klT)
    | _ => false
  | 2 => lq cc pc nx a b .iload_n .iload
  | 3 => lq cc pc nx a b .lload_n .lload
  | 4 => lq cc pc nx a b .aload_n .aload
  | 5 => lq cc pc nx a b .istore_n .istore && decide (a < ml)
  | 6 => lq cc pc nx a b .lstore_n .lstore && decide (a + 1 < ml)
  | 7 => lq cc pc nx a b .astore_n .astore && decide (a < ml)
  | 8 => dq cc pc (.iinc a im) 3 && decide (nx = pc + 3) && decide (a < ml)
  | _ => false
def ft1 (cc : ByteArray) (pc nx s : Nat) : Bool := match s with
  | 0 => dq cc pc .iadd 1 && decide (nx = pc + 1)
  | 1 => dq cc pc .isub 1 && decide (nx = pc + 1)
  | 2 => dq cc pc .imul 1 && decide (nx = pc + 1)
  | 3 => dq cc pc .iand 1 && decide (nx = pc + 1)
  | 4 => dq cc pc .ior 1 && decide (nx = pc + 1)
  | 5 => dq cc pc .ixor 1 && decide (nx = pc + 1)
  | 6 => dq cc pc .ishl 1 && decide (nx = pc + 1)
  | 7 => dq cc pc .ishr 1 && decide (nx = pc + 1)
  | 8 => dq cc pc .iushr 1 && decide (nx = pc + 1)
  | 9 => dq cc pc .idiv 1 && decide (nx = pc + 1)
  | 10 => dq cc pc .irem 1 && decide (nx = pc + 1)
  | 11 => dq cc pc .ineg 1 && decide (nx = pc + 1)
  | 12 => dq cc pc .i2l 1 && decide (nx = pc + 1)
  | 13 => dq cc pc .l2i 1 && decide (nx = pc + 1)
  | 14 => dq cc pc .i2b 1 && decide (nx = pc + 1)
  | _ => false
def ft2 (cc : ByteArray) (pc nx s : Nat) : Bool := match s with
  | 0 => dq cc pc .ladd 1 && decide (nx = pc + 1)
  | 1 => dq cc pc .lsub 1 && decide (nx = pc + 1)
  | 2 => dq cc pc .lmul 1 && decide (nx = pc + 1)
  | 3 => dq cc pc .land 1 && decide (nx = pc + 1)
  | 4 => dq cc pc .ldiv 1 && decide (nx = pc + 1)
  | 5 => dq cc pc .lrem 1 && decide (nx = pc + 1)
  | 6 => dq cc pc .lneg 1 && decide (nx = pc + 1)
  | 7 => dq cc pc .lcmp 1 && decide (nx = pc + 1)
  | _ => false
def ft3 (cc : ByteArray) (pc nx s : Nat) : Bool := match s with
  | 0 => dq cc pc .dup 1 && decide (nx = pc + 1)
  | 1 => dq cc pc .dup2 1 && decide (nx = pc + 1)
  | 2 => dq cc pc .pop 1 && decide (nx = pc + 1)
  | _ => false
/-- a switch: its targets are its offsets' -/
def swq (C : List OP) (pc : Nat) (lo : Int) : List Nat → List Int → Bool
  | [], [] => true
  | t :: ts, o :: os => decide ((pc : Int) + o = (pcO C t : Int)) && decide ((Int32.ofInt lo).toInt = lo) && swq C pc (lo + 1) ts os
  | _, _ => false
def ft4 (C : List OP) (cc : ByteArray) (pc nx s : Nat) (im : Int) (a b : Nat) : Bool := match s with
  | 0 => dq cc pc (.ifCond .eq im) 3 && decide (nx = pc + 3) && decide ((pc : Int) + im = (pcO C a : Int))
  | 1 => dq cc pc (.ifCond .ne im) 3 && decide (nx = pc + 3) && decide ((pc : Int) + im = (pcO C a : Int))
  | 2 => dq cc pc (.ifCond .lt im) 3 && decide (nx = pc + 3) && decide ((pc : Int) + im = (pcO C a : Int))
  | 3 => dq cc pc (.ifCond .ge im) 3 && decide (nx = pc + 3) && decide ((pc : Int) + im = (pcO C a : Int))
  | 4 => dq cc pc (.ifCond .gt im) 3 && decide (nx = pc + 3) && decide ((pc : Int) + im = (pcO C a : Int))
  | 5 => dq cc pc (.ifCond .le im) 3 && decide (nx = pc + 3) && decide ((pc : Int) + im = (pcO C a : Int))
  | 6 => dq cc pc (.if_icmp .eq im) 3 && decide (nx = pc + 3) && decide ((pc : Int) + im = (pcO C a : Int))
  | 7 => dq cc pc (.if_icmp .ne im) 3 && decide (nx = pc + 3) && decide ((pc : Int) + im = (pcO C a : Int))
  | 8 => dq cc pc (.if_icmp .lt im) 3 && decide (nx = pc + 3) && decide ((pc : Int) + im = (pcO C a : Int))
  | 9 => dq cc pc (.if_icmp .ge im) 3 && decide (nx = pc + 3) && decide ((pc : Int) + im = (pcO C a : Int))
  | 10 => dq cc pc (.if_icmp .gt im) 3 && decide (nx = pc + 3) && decide ((pc : Int) + im = (pcO C a : Int))
  | 11 => dq cc pc (.if_icmp .le im) 3 && decide (nx = pc + 3) && decide ((pc : Int) + im = (pcO C a : Int))
  | 12 => dq cc pc (.goto im) 3 && decide ((pc : Int) + im = (pcO C a : Int))
  | 13 => dq cc pc (.tableswitch (sw b).2.2.1 im (sw b).2.2.2.1 (sw b).2.1) (sw b).2.2.2.2 && decide ((pc : Int) + (sw b).2.2.1 = (pcO C a : Int)) && swq C pc im (sw b).1 (sw b).2.1.toList && decide ((sw b).2.2.2.1 = im + ((sw b).1.length : Int) - 1)
  | _ => false
def ft5 (cc : ByteArray) (pc nx s : Nat) : Bool := match s with
  | 0 => dq cc pc .iaload 1 && decide (nx = pc + 1)
  | 1 => dq cc pc .baload 1 && decide (nx = pc + 1)
  | 2 => dq cc pc .laload 1 && decide (nx = pc + 1)
  | 3 => dq cc pc .aaload 1 && decide (nx = pc + 1)
  | 4 => dq cc pc .iastore 1 && decide (nx = pc + 1)
  | 5 => dq cc pc .bastore 1 && decide (nx = pc + 1)
  | 6 => dq cc pc .lastore 1 && decide (nx = pc + 1)
  | 7 => dq cc pc .arraylength 1 && decide (nx = pc + 1)
  | _ => false
def ft6 (cc : ByteArray) (pc nx own s : Nat) (im : Int) (a b : Nat) : Bool := dq cc pc (.getfield im.toNat) 3 && decide (nx = pc + 3) && decide (a < 13) && decide (b < cNn a) && decide (s % 10 = fty a b) && (if s < 10 then decide ((own, im.toNat, a, b) ∈ flT) else decide ((own, im.toNat, a, b) ∈ fnT))
def ft7 (cc : ByteArray) (pc nx own s : Nat) (im : Int) (a b : Nat) : Bool := dq cc pc (.putfield im.toNat) 3 && decide (nx = pc + 3) && decide (a < 13) && decide (b < cNn a) && decide (s = fty a b) && decide ((own, im.toNat, a, b) ∈ flT) && decide ((cTt a b).2.2.2 = false) && (match s with
  | 0 => decide (cTy a b = .int)
  | 1 => decide (cTy a b = .boolean)
  | 5 => decide (cTy a b = .long)
  | 4 => decide (cTy a b = .object "RibbonRun$Garden")
  | _ => false)
def ft8 (cc : ByteArray) (pc nx own fr lo s : Nat) (im : Int) (a b : Nat) : Bool := match s with
  | 0 => dq cc pc (.invokevirtual im.toNat) 3 && decide (nx = pc + 3) && decide ((own, im.toNat, a) ∈ mlT) && decide (a < nM) && decide (mS a = false) && decide (b = mP a + 1) && decide (mF a + 1 ≤ fr) && decide (8 + (mL a + 11) + mQ a ≤ lo)
  | 1 => dq cc pc (.invokestatic im.toNat) 3 && decide (nx = pc + 3) && decide ((own, im.toNat, a) ∈ mlT) && decide (a < nM) && decide (mS a = true) && decide (b = mP a) && decide (mF a + 1 ≤ fr) && decide (8 + (mL a + 11) + mQ a ≤ lo)
  | 3 => dq cc pc (.invokestatic im.toNat) 3 && decide (nx = pc + 3) && decide ((own, im.toNat, a) ∈ mnT) && decide (a < nM) && decide (mS a = true) && decide (b = mP a) && decide (mF a + 1 ≤ fr) && decide (8 + (mL a + 11) + mQ a ≤ lo)
  | 4 => dq cc pc (.invokestatic im.toNat) 3 && decide (nx = pc + 3) && decide ((own, im.toNat) ∈ cpT) && decide (1 ≤ fr) && decide (8 + (nativeFrameWords "java/lang/System" "arraycopy" 5 + 11) ≤ lo)
  | _ => false
def ft9 (cc : ByteArray) (pc s : Nat) (rt : Option FieldType) : Bool := match s with
  | 0 => dq cc pc .ireturn 1 && decide (rt = some .int)
  | 1 => dq cc pc .ireturn 1 && decide (rt = some .boolean)
  | 2 => dq cc pc .lreturn 1 && decide (rt = some .long)
  | 3 => dq cc pc .areturn 1 && decide (rt = some (.object "RibbonRun$Garden"))
  | 4 => dq cc pc .return_ 1 && decide (rt = none)
  | _ => false
def fitO (C : List OP) (cc : ByteArray) (own ml fr lo : Nat) (rt : Option FieldType) (i : Nat) (op : OP) : Bool := match op with
  | (0, s, pc, im, a, b) => ft0 cc pc (pcO C (i + 1)) own ml s im a b
  | (1, s, pc, _, _, _) => ft1 cc pc (pcO C (i + 1)) s
  | (2, s, pc, _, _, _) => ft2 cc pc (pcO C (i + 1)) s
  | (3, s, pc, _, _, _) => ft3 cc pc (pcO C (i + 1)) s
  | (4, s, pc, im, a, b) => ft4 C cc pc (pcO C (i + 1)) s im a b
  | (5, s, pc, _, _, _) => ft5 cc pc (pcO C (i + 1)) s
  | (6, s, pc, im, a, b) => ft6 cc pc (pcO C (i + 1)) own s im a b
  | (7, s, pc, im, a, b) => ft7 cc pc (pcO C (i + 1)) own s im a b
  | (8, s, pc, im, a, b) => ft8 cc pc (pcO C (i + 1)) own fr lo s im a b
  | (9, s, pc, _, _, _) => ft9 cc pc s rt
  | _ => false
def fitL (C : List OP) (cc : ByteArray) (own ml fr lo : Nat) (rt : Option FieldType) : Nat → List OP → Bool
  | _, [] => true
  | i, op :: r => fitO C cc own ml fr lo rt i op && fitL C cc own ml fr lo rt (i + 1) r
theorem fitL_at (C : List OP) (cc : ByteArray) (own ml fr lo : Nat) (rt : Option FieldType) : ∀ (r : List OP) (i : Nat), fitL C cc own ml fr lo rt i r = true → ∀ (j : Nat) (op : OP), r[j]? = some op → fitO C cc own ml fr lo rt (i + j) op = true
  | [], _, _, _, _, hj => by simp at hj
  | o :: r, i, h, j, op, hj => by
    rw [fitL, Bool.and_eq_true] at h
    cases j with
    | zero =>
      rw [List.getElem?_cons_zero] at hj
      cases hj
      exact h.1
    | succ j =>
      rw [List.getElem?_cons_succ] at hj
      have := fitL_at C cc own ml fr lo rt r (i + 1) h.2 j op hj
      rwa [Nat.add_assoc, Nat.add_comm 1 j] at this
def FIT (M : Nat) : Prop := pcO (cod M) 0 = 0 ∧ fitL (cod M) (mC M) (mO M) (mL M) (mF M) (mQ M) (mR M) 0 (cod M) = true
end
section
theorem fit_0 : FIT 0 := ⟨rfl, show fitL kX0_begin cX0_begin 0 3 2 69 none 0 kX0_begin = true from by decide +kernel⟩
theorem fit_1 : FIT 1 := ⟨rfl, show fitL kX0_drawBlight cX0_drawBlight 0 1 0 0 none 0 kX0_drawBlight = true from by decide +kernel⟩
theorem fit_2 : FIT 2 := ⟨rfl, show fitL kX0_otherwise cX0_otherwise 0 4 1 23 none 0 kX0_otherwise = true from by decide +kernel⟩
theorem fit_3 : FIT 3 := ⟨rfl, show fitL kX0_years cX0_years 0 3 5 128 none 0 kX0_years = true from by decide +kernel⟩
theorem fit_4 : FIT 4 := ⟨rfl, show fitL kX0_year cX0_year 0 4 4 105 none 0 kX0_year = true from by decide +kernel⟩
theorem fit_5 : FIT 5 := ⟨rfl, show fitL kX0_growAll cX0_growAll 0 4 3 78 none 0 kX0_growAll = true from by decide +kernel⟩
theorem fit_6 : FIT 6 := ⟨rfl, show fitL kX0_blightAll cX0_blightAll 0 2 1 23 none 0 kX0_blightAll = true from by decide +kernel⟩
theorem fit_7 : FIT 7 := ⟨rfl, show fitL kX0_bestFor cX0_bestFor 0 6 3 80 (some (.int)) 0 kX0_bestFor = true from by decide +kernel⟩
theorem fit_8 : FIT 8 := ⟨rfl, show fitL kX0_gives cX0_gives 0 3 3 78 (some (.boolean)) 0 kX0_gives = true from by decide +kernel⟩
theorem fit_9 : FIT 9 := ⟨rfl, show fitL kX0_esteem cX0_esteem 0 6 2 55 (some (.int)) 0 kX0_esteem = true from by decide +kernel⟩
theorem fit_10 : FIT 10 := ⟨rfl, show fitL kX0_judgeLaw cX0_judgeLaw 0 3 2 55 (some (.long)) 0 kX0_judgeLaw = true from by decide +kernel⟩
theorem fit_11 : FIT 11 := ⟨rfl, show fitL kX0_ownLaw cX0_ownLaw 0 4 2 55 (some (.long)) 0 kX0_ownLaw = true from by decide +kernel⟩
theorem fit_12 : FIT 12 := ⟨rfl, show fitL kX0_tell cX0_tell 0 5 0 0 none 0 kX0_tell = true from by decide +kernel⟩
theorem fit_13 : FIT 13 := ⟨rfl, show fitL kX1_isEmpty cX1_isEmpty 1 1 0 0 (some (.boolean)) 0 kX1_isEmpty = true from by decide +kernel⟩
theorem fit_14 : FIT 14 := ⟨rfl, show fitL kX1_many cX1_many 1 1 0 0 (some (.int)) 0 kX1_many = true from by decide +kernel⟩
theorem fit_15 : FIT 15 := ⟨rfl, show fitL kX1_forget cX1_forget 1 1 0 0 none 0 kX1_forget = true from by decide +kernel⟩
theorem fit_16 : FIT 16 := ⟨rfl, show fitL kX1_noteShow cX1_noteShow 1 3 3 91 none 0 kX1_noteShow = true from by decide +kernel⟩
theorem fit_17 : FIT 17 := ⟨rfl, show fitL kX1_noteRaise cX1_noteRaise 1 3 3 91 none 0 kX1_noteRaise = true from by decide +kernel⟩
theorem fit_18 : FIT 18 := ⟨rfl, show fitL kX1_noteHand cX1_noteHand 1 4 3 91 none 0 kX1_noteHand = true from by decide +kernel⟩
theorem fit_19 : FIT 19 := ⟨rfl, show fitL kX1_add cX1_add 1 4 2 68 none 0 kX1_add = true from by decide +kernel⟩
theorem fit_20 : FIT 20 := ⟨rfl, show fitL kX1_dropFirst cX1_dropFirst 1 1 1 48 none 0 kX1_dropFirst = true from by decide +kernel⟩
theorem fit_21 : FIT 21 := ⟨rfl, show fitL kX1_takeBack cX1_takeBack 1 3 0 0 (some (.int)) 0 kX1_takeBack = true from by decide +kernel⟩
theorem fit_22 : FIT 22 := ⟨rfl, show fitL kX2_clear cX2_clear 2 2 1 21 none 0 kX2_clear = true from by decide +kernel⟩
theorem fit_23 : FIT 23 := ⟨rfl, show fitL kX2_numberOf cX2_numberOf 2 3 0 0 (some (.int)) 0 kX2_numberOf = true from by decide +kernel⟩
theorem fit_24 : FIT 24 := ⟨rfl, show fitL kX2_far cX2_far 2 4 0 0 (some (.int)) 0 kX2_far = true from by decide +kernel⟩
theorem fit_25 : FIT 25 := ⟨rfl, show fitL kX2_wayFrom cX2_wayFrom 2 7 1 21 (some (.int)) 0 kX2_wayFrom = true from by decide +kernel⟩
theorem fit_26 : FIT 26 := ⟨rfl, show fitL kX3_clear cX3_clear 3 1 0 0 none 0 kX3_clear = true from by decide +kernel⟩
theorem fit_27 : FIT 27 := ⟨rfl, show fitL kX3_isTold cX3_isTold 3 1 0 0 (some (.boolean)) 0 kX3_isTold = true from by decide +kernel⟩
theorem fit_28 : FIT 28 := ⟨rfl, show fitL kX3_add cX3_add 3 2 0 0 none 0 kX3_add = true from by decide +kernel⟩
theorem fit_29 : FIT 29 := ⟨rfl, show fitL kX3_binding cX3_binding 3 1 0 0 (some (.int)) 0 kX3_binding = true from by decide +kernel⟩
theorem fit_30 : FIT 30 := ⟨rfl, show fitL kX3_worked cX3_worked 3 8 1 28 (some (.long)) 0 kX3_worked = true from by decide +kernel⟩
theorem fit_31 : FIT 31 := ⟨rfl, show fitL kX3_joined cX3_joined 3 9 0 0 (some (.long)) 0 kX3_joined = true from by decide +kernel⟩
theorem fit_32 : FIT 32 := ⟨rfl, show fitL kX4_told cX4_told 4 3 0 0 (some (.int)) 0 kX4_told = true from by decide +kernel⟩
theorem fit_33 : FIT 33 := ⟨rfl, show fitL kX4_take cX4_take 4 4 0 0 none 0 kX4_take = true from by decide +kernel⟩
theorem fit_34 : FIT 34 := ⟨rfl, show fitL kX4_seekFree cX4_seekFree 4 4 4 91 none 0 kX4_seekFree = true from by decide +kernel⟩
theorem fit_35 : FIT 35 := ⟨rfl, show fitL kX4_isFreed cX4_isFreed 4 3 3 69 (some (.boolean)) 0 kX4_isFreed = true from by decide +kernel⟩
theorem fit_36 : FIT 36 := ⟨rfl, show fitL kX4_turn cX4_turn 4 3 1 21 none 0 kX4_turn = true from by decide +kernel⟩
theorem fit_37 : FIT 37 := ⟨rfl, show fitL kX4_aim cX4_aim 4 4 0 0 none 0 kX4_aim = true from by decide +kernel⟩
theorem fit_38 : FIT 38 := ⟨rfl, show fitL kX4_seekLead cX4_seekLead 4 6 6 151 none 0 kX4_seekLead = true from by decide +kernel⟩
theorem fit_39 : FIT 39 := ⟨rfl, show fitL kX4_areFound cX4_areFound 4 1 0 0 (some (.boolean)) 0 kX4_areFound = true from by decide +kernel⟩
theorem fit_40 : FIT 40 := ⟨rfl, show fitL kX4_seekTwoLeads cX4_seekTwoLeads 4 6 6 151 none 0 kX4_seekTwoLeads = true from by decide +kernel⟩
theorem fit_41 : FIT 41 := ⟨rfl, show fitL kX4_matter cX4_matter 4 3 1 21 (some (.boolean)) 0 kX4_matter = true from by decide +kernel⟩
theorem fit_42 : FIT 42 := ⟨rfl, show fitL kX4_isMissing cX4_isMissing 4 5 2 43 (some (.boolean)) 0 kX4_isMissing = true from by decide +kernel⟩
theorem fit_43 : FIT 43 := ⟨rfl, show fitL kX4_add cX4_add 4 2 1 23 none 0 kX4_add = true from by decide +kernel⟩
theorem fit_44 : FIT 44 := ⟨rfl, show fitL kX4_comes cX4_comes 4 4 5 128 (some (.boolean)) 0 kX4_comes = true from by decide +kernel⟩
theorem fit_45 : FIT 45 := ⟨rfl, show fitL kX5_clear cX5_clear 5 2 0 0 none 0 kX5_clear = true from by decide +kernel⟩
theorem fit_46 : FIT 46 := ⟨rfl, show fitL kX5_become cX5_become 5 2 1 48 none 0 kX5_become = true from by decide +kernel⟩
theorem fit_47 : FIT 47 := ⟨rfl, show fitL kX5_isSeen cX5_isSeen 5 3 1 21 (some (.boolean)) 0 kX5_isSeen = true from by decide +kernel⟩
theorem fit_48 : FIT 48 := ⟨rfl, show fitL kX5_setSeen cX5_setSeen 5 4 0 0 none 0 kX5_setSeen = true from by decide +kernel⟩
theorem fit_49 : FIT 49 := ⟨rfl, show fitL kX5_countSeen cX5_countSeen 5 3 1 20 (some (.int)) 0 kX5_countSeen = true from by decide +kernel⟩
theorem fit_50 : FIT 50 := ⟨rfl, show fitL kX5_addWorth cX5_addWorth 5 4 0 0 none 0 kX5_addWorth = true from by decide +kernel⟩
theorem fit_51 : FIT 51 := ⟨rfl, show fitL kX5_worthOf cX5_worthOf 5 4 1 21 (some (.int)) 0 kX5_worthOf = true from by decide +kernel⟩
theorem fit_52 : FIT 52 := ⟨rfl, show fitL kX5_pass cX5_pass 5 3 0 0 none 0 kX5_pass = true from by decide +kernel⟩
theorem fit_53 : FIT 53 := ⟨rfl, show fitL kX5_retain cX5_retain 5 2 0 0 none 0 kX5_retain = true from by decide +kernel⟩
theorem fit_54 : FIT 54 := ⟨rfl, show fitL kX5_draw cX5_draw 5 1 0 0 (some (.int)) 0 kX5_draw = true from by decide +kernel⟩
theorem fit_55 : FIT 55 := ⟨rfl, show fitL kX6_exchange cX6_exchange 6 3 0 0 (some (.object "RibbonRun$Garden")) 0 kX6_exchange = true from by decide +kernel⟩
theorem fit_56 : FIT 56 := ⟨rfl, show fitL kX6_read cX6_read 6 3 6 132 (some (.int)) 0 kX6_read = true from by decide +kernel⟩
theorem fit_57 : FIT 57 := ⟨rfl, show fitL kX6_readLine cX6_readLine 6 1 5 112 (some (.boolean)) 0 kX6_readLine = true from by decide +kernel⟩
theorem fit_58 : FIT 58 := ⟨rfl, show fitL kX6_readGrower cX6_readGrower 6 3 4 85 (some (.boolean)) 0 kX6_readGrower = true from by decide +kernel⟩
theorem fit_59 : FIT 59 := ⟨rfl, show fitL kX6_readSees cX6_readSees 6 3 3 64 (some (.boolean)) 0 kX6_readSees = true from by decide +kernel⟩
theorem fit_60 : FIT 60 := ⟨rfl, show fitL kX6_readRibbon cX6_readRibbon 6 2 3 64 (some (.boolean)) 0 kX6_readRibbon = true from by decide +kernel⟩
theorem fit_61 : FIT 61 := ⟨rfl, show fitL kX6_readBlight cX6_readBlight 6 1 4 85 (some (.boolean)) 0 kX6_readBlight = true from by decide +kernel⟩
theorem fit_62 : FIT 62 := ⟨rfl, show fitL kX6_readSeed cX6_readSeed 6 1 4 85 (some (.boolean)) 0 kX6_readSeed = true from by decide +kernel⟩
theorem fit_63 : FIT 63 := ⟨rfl, show fitL kX6_readLaw cX6_readLaw 6 3 4 90 (some (.boolean)) 0 kX6_readLaw = true from by decide +kernel⟩
theorem fit_64 : FIT 64 := ⟨rfl, show fitL kX6_readExpression cX6_readExpression 6 4 3 67 (some (.boolean)) 0 kX6_readExpression = true from by decide +kernel⟩
theorem fit_65 : FIT 65 := ⟨rfl, show fitL kX6_readValue cX6_readValue 6 3 2 42 (some (.int)) 0 kX6_readValue = true from by decide +kernel⟩
theorem fit_66 : FIT 66 := ⟨rfl, show fitL kX6_readBehind cX6_readBehind 6 5 2 43 (some (.int)) 0 kX6_readBehind = true from by decide +kernel⟩
theorem fit_67 : FIT 67 := ⟨rfl, show fitL kX6_joiningSign cX6_joiningSign 6 1 1 22 (some (.int)) 0 kX6_joiningSign = true from by decide +kernel⟩
theorem fit_68 : FIT 68 := ⟨rfl, show fitL kX6_defer cX6_defer 6 2 0 0 none 0 kX6_defer = true from by decide +kernel⟩
theorem fit_69 : FIT 69 := ⟨rfl, show fitL kX6_release cX6_release 6 3 1 21 none 0 kX6_release = true from by decide +kernel⟩
theorem fit_70 : FIT 70 := ⟨rfl, show fitL kX6_countKnot cX6_countKnot 6 1 0 0 (some (.boolean)) 0 kX6_countKnot = true from by decide +kernel⟩
theorem fit_71 : FIT 71 := ⟨rfl, show fitL kX6_toldGrower cX6_toldGrower 6 2 1 22 (some (.int)) 0 kX6_toldGrower = true from by decide +kernel⟩
theorem fit_72 : FIT 72 := ⟨rfl, show fitL kX6_takeNumber cX6_takeNumber 6 2 3 64 (some (.boolean)) 0 kX6_takeNumber = true from by decide +kernel⟩
theorem fit_73 : FIT 73 := ⟨rfl, show fitL kX6_takeSign cX6_takeSign 6 2 3 64 (some (.boolean)) 0 kX6_takeSign = true from by decide +kernel⟩
theorem fit_74 : FIT 74 := ⟨rfl, show fitL kX6_fail cX6_fail 6 2 0 0 (some (.boolean)) 0 kX6_fail = true from by decide +kernel⟩
theorem fit_75 : FIT 75 := ⟨rfl, show fitL kX6_failed cX6_failed 6 2 1 21 (some (.int)) 0 kX6_failed = true from by decide +kernel⟩
theorem fit_76 : FIT 76 := ⟨rfl, show fitL kX7_prepare cX7_prepare 7 5 4 100 none 0 kX7_prepare = true from by decide +kernel⟩
theorem fit_77 : FIT 77 := ⟨rfl, show fitL kX7_isSeen cX7_isSeen 7 2 1 21 (some (.boolean)) 0 kX7_isSeen = true from by decide +kernel⟩
theorem fit_78 : FIT 78 := ⟨rfl, show fitL kX7_turn cX7_turn 7 2 0 0 none 0 kX7_turn = true from by decide +kernel⟩
theorem fit_79 : FIT 79 := ⟨rfl, show fitL kX7_follow cX7_follow 7 5 2 45 none 0 kX7_follow = true from by decide +kernel⟩
theorem fit_80 : FIT 80 := ⟨rfl, show fitL kX7_since cX7_since 7 5 1 21 (some (.int)) 0 kX7_since = true from by decide +kernel⟩
theorem fit_81 : FIT 81 := ⟨rfl, show fitL kX7_bestFor cX7_bestFor 7 5 1 21 (some (.int)) 0 kX7_bestFor = true from by decide +kernel⟩
theorem fit_82 : FIT 82 := ⟨rfl, show fitL kX8_at cX8_at 8 2 0 0 (some (.int)) 0 kX8_at = true from by decide +kernel⟩
theorem fit_83 : FIT 83 := ⟨rfl, show fitL kX8_seekWalk cX8_seekWalk 8 7 2 70 none 0 kX8_seekWalk = true from by decide +kernel⟩
theorem fit_84 : FIT 84 := ⟨rfl, show fitL kX8_seekOrder cX8_seekOrder 8 8 2 70 none 0 kX8_seekOrder = true from by decide +kernel⟩
theorem fit_85 : FIT 85 := ⟨rfl, show fitL kX8_begin cX8_begin 8 4 0 0 none 0 kX8_begin = true from by decide +kernel⟩
theorem fit_86 : FIT 86 := ⟨rfl, show fitL kX8_take cX8_take 8 3 1 48 none 0 kX8_take = true from by decide +kernel⟩
theorem fit_87 : FIT 87 := ⟨rfl, show fitL kX8_advance cX8_advance 8 5 1 23 (some (.boolean)) 0 kX8_advance = true from by decide +kernel⟩
theorem fit_88 : FIT 88 := ⟨rfl, show fitL kX8_swap cX8_swap 8 4 0 0 none 0 kX8_swap = true from by decide +kernel⟩
theorem fit_89 : FIT 89 := ⟨rfl, show fitL kX9_hasRoom cX9_hasRoom 9 1 0 0 (some (.boolean)) 0 kX9_hasRoom = true from by decide +kernel⟩
theorem fit_90 : FIT 90 := ⟨rfl, show fitL kX9_add cX9_add 9 3 0 0 none 0 kX9_add = true from by decide +kernel⟩
theorem fit_91 : FIT 91 := ⟨rfl, show fitL kX9_begin cX9_begin 9 2 3 64 none 0 kX9_begin = true from by decide +kernel⟩
theorem fit_92 : FIT 92 := ⟨rfl, show fitL kX9_advance cX9_advance 9 1 2 44 none 0 kX9_advance = true from by decide +kernel⟩
theorem fit_93 : FIT 93 := ⟨rfl, show fitL kX9_isWord cX9_isWord 9 2 0 0 (some (.boolean)) 0 kX9_isWord = true from by decide +kernel⟩
theorem fit_94 : FIT 94 := ⟨rfl, show fitL kX9_isSign cX9_isSign 9 2 0 0 (some (.boolean)) 0 kX9_isSign = true from by decide +kernel⟩
theorem fit_95 : FIT 95 := ⟨rfl, show fitL kX9_isLetter cX9_isLetter 9 2 0 0 (some (.boolean)) 0 kX9_isLetter = true from by decide +kernel⟩
theorem fit_96 : FIT 96 := ⟨rfl, show fitL kX9_isDigit cX9_isDigit 9 2 0 0 (some (.boolean)) 0 kX9_isDigit = true from by decide +kernel⟩
theorem fit_97 : FIT 97 := ⟨rfl, show fitL kX9_readWord cX9_readWord 9 4 1 21 none 0 kX9_readWord = true from by decide +kernel⟩
theorem fit_98 : FIT 98 := ⟨rfl, show fitL kX9_readNumber cX9_readNumber 9 2 1 21 none 0 kX9_readNumber = true from by decide +kernel⟩
theorem fit_99 : FIT 99 := ⟨rfl, show fitL kX9_readSign cX9_readSign 9 3 1 20 none 0 kX9_readSign = true from by decide +kernel⟩
theorem fit_100 : FIT 100 := ⟨rfl, show fitL kX9_signOf cX9_signOf 9 1 0 0 (some (.int)) 0 kX9_signOf = true from by decide +kernel⟩
theorem fit_101 : FIT 101 := ⟨rfl, show fitL kX10_forget cX10_forget 10 1 0 0 none 0 kX10_forget = true from by decide +kernel⟩
theorem fit_102 : FIT 102 := ⟨rfl, show fitL kX10_end cX10_end 10 1 0 0 (some (.int)) 0 kX10_end = true from by decide +kernel⟩
theorem fit_103 : FIT 103 := ⟨rfl, show fitL kX10_addHanding cX10_addHanding 10 3 1 23 (some (.int)) 0 kX10_addHanding = true from by decide +kernel⟩
theorem fit_104 : FIT 104 := ⟨rfl, show fitL kX10_addSight cX10_addSight 10 6 1 23 (some (.int)) 0 kX10_addSight = true from by decide +kernel⟩
theorem fit_105 : FIT 105 := ⟨rfl, show fitL kX10_addStrike cX10_addStrike 10 2 1 23 (some (.int)) 0 kX10_addStrike = true from by decide +kernel⟩
theorem fit_106 : FIT 106 := ⟨rfl, show fitL kX10_add cX10_add 10 4 0 0 (some (.int)) 0 kX10_add = true from by decide +kernel⟩
theorem fit_107 : FIT 107 := ⟨rfl, show fitL kX10_mark cX10_mark 10 3 1 20 none 0 kX10_mark = true from by decide +kernel⟩
theorem fit_108 : FIT 108 := ⟨rfl, show fitL kX10_clashes cX10_clashes 10 7 0 0 (some (.int)) 0 kX10_clashes = true from by decide +kernel⟩
theorem fit_109 : FIT 109 := ⟨rfl, show fitL kX10_lastYear cX10_lastYear 10 3 0 0 (some (.int)) 0 kX10_lastYear = true from by decide +kernel⟩
theorem fit_110 : FIT 110 := ⟨rfl, show fitL kX10_isSo cX10_isSo 10 5 0 0 (some (.boolean)) 0 kX10_isSo = true from by decide +kernel⟩
theorem fit_111 : FIT 111 := ⟨rfl, show fitL kX11_feed cX11_feed 11 6 1 22 (some (.int)) 0 kX11_feed = true from by decide +kernel⟩
theorem fit_112 : FIT 112 := ⟨rfl, show fitL kX11_text cX11_text 11 3 7 154 (some (.int)) 0 kX11_text = true from by decide +kernel⟩
theorem fit_113 : FIT 113 := ⟨rfl, show fitL kX11_fault cX11_fault 11 2 0 0 (some (.int)) 0 kX11_fault = true from by decide +kernel⟩
theorem fit_114 : FIT 114 := ⟨rfl, show fitL kX11_named cX11_named 11 2 1 22 (some (.int)) 0 kX11_named = true from by decide +kernel⟩
theorem fit_115 : FIT 115 := ⟨rfl, show fitL kX11_ribbon cX11_ribbon 11 3 1 21 (some (.int)) 0 kX11_ribbon = true from by decide +kernel⟩
theorem fit_116 : FIT 116 := ⟨rfl, show fitL kX11_judged cX11_judged 11 3 3 80 (some (.int)) 0 kX11_judged = true from by decide +kernel⟩
theorem fit_117 : FIT 117 := ⟨rfl, show fitL kX11_best cX11_best 11 2 4 105 (some (.int)) 0 kX11_best = true from by decide +kernel⟩
theorem fit_118 : FIT 118 := ⟨rfl, show fitL kX11_law cX11_law 11 4 3 78 (some (.long)) 0 kX11_law = true from by decide +kernel⟩
theorem fit_119 : FIT 119 := ⟨rfl, show fitL kX11_show cX11_show 11 4 4 113 (some (.boolean)) 0 kX11_show = true from by decide +kernel⟩
theorem fit_120 : FIT 120 := ⟨rfl, show fitL kX11_raise cX11_raise 11 3 4 113 (some (.int)) 0 kX11_raise = true from by decide +kernel⟩
theorem fit_121 : FIT 121 := ⟨rfl, show fitL kX11_hand cX11_hand 11 3 4 114 (some (.boolean)) 0 kX11_hand = true from by decide +kernel⟩
theorem fit_122 : FIT 122 := ⟨rfl, show fitL kX11_go cX11_go 11 2 6 150 (some (.int)) 0 kX11_go = true from by decide +kernel⟩
theorem fit_123 : FIT 123 := ⟨rfl, show fitL kX11_ahead cX11_ahead 11 5 6 150 (some (.int)) 0 kX11_ahead = true from by decide +kernel⟩
theorem fit_124 : FIT 124 := ⟨rfl, show fitL kX11_ring cX11_ring 11 3 5 124 (some (.int)) 0 kX11_ring = true from by decide +kernel⟩
theorem fit_125 : FIT 125 := ⟨rfl, show fitL kX11_free cX11_free 11 3 5 124 (some (.int)) 0 kX11_free = true from by decide +kernel⟩
theorem fit_126 : FIT 126 := ⟨rfl, show fitL kX11_lead cX11_lead 11 5 7 176 (some (.int)) 0 kX11_lead = true from by decide +kernel⟩
theorem fit_127 : FIT 127 := ⟨rfl, show fitL kX11_walk cX11_walk 11 3 3 96 (some (.int)) 0 kX11_walk = true from by decide +kernel⟩
theorem fit_128 : FIT 128 := ⟨rfl, show fitL kX11_meet cX11_meet 11 2 5 128 (some (.int)) 0 kX11_meet = true from by decide +kernel⟩
theorem fit_129 : FIT 129 := ⟨rfl, show fitL kX11_reach cX11_reach 11 5 1 21 (some (.int)) 0 kX11_reach = true from by decide +kernel⟩
theorem fit_130 : FIT 130 := ⟨rfl, show fitL kX11_deserves cX11_deserves 11 3 0 0 (some (.int)) 0 kX11_deserves = true from by decide +kernel⟩
theorem fit_131 : FIT 131 := ⟨rfl, show fitL kX11_order cX11_order 11 2 3 97 (some (.int)) 0 kX11_order = true from by decide +kernel⟩
theorem fit_132 : FIT 132 := ⟨rfl, show fitL kX11_rests cX11_rests 11 5 2 50 (some (.int)) 0 kX11_rests = true from by decide +kernel⟩
theorem fit_133 : FIT 133 := ⟨rfl, show fitL kX11_rest cX11_rest 11 6 2 50 (some (.int)) 0 kX11_rest = true from by decide +kernel⟩
theorem fit_134 : FIT 134 := ⟨rfl, show fitL kX11_visit cX11_visit 11 8 2 47 (some (.int)) 0 kX11_visit = true from by decide +kernel⟩
theorem fit_135 : FIT 135 := ⟨rfl, show fitL kX11_hosts cX11_hosts 11 5 5 128 (some (.int)) 0 kX11_hosts = true from by decide +kernel⟩
theorem fit_136 : FIT 136 := ⟨rfl, show fitL kX11_rank cX11_rank 11 6 1 21 (some (.int)) 0 kX11_rank = true from by decide +kernel⟩
theorem fit_137 : FIT 137 := ⟨rfl, show fitL kX11_keepers cX11_keepers 11 3 4 105 (some (.int)) 0 kX11_keepers = true from by decide +kernel⟩
theorem fit_138 : FIT 138 := ⟨rfl, show fitL kX11_comesTo cX11_comesTo 11 4 5 128 (some (.int)) 0 kX11_comesTo = true from by decide +kernel⟩
theorem fit_139 : FIT 139 := ⟨rfl, show fitL kX11_popular cX11_popular 11 6 2 43 (some (.int)) 0 kX11_popular = true from by decide +kernel⟩
theorem fit_140 : FIT 140 := ⟨rfl, show fitL kX11_mutual cX11_mutual 11 4 2 43 (some (.int)) 0 kX11_mutual = true from by decide +kernel⟩
theorem fit_141 : FIT 141 := ⟨rfl, show fitL kX11_lonely cX11_lonely 11 3 0 0 (some (.int)) 0 kX11_lonely = true from by decide +kernel⟩
theorem fit_142 : FIT 142 := ⟨rfl, show fitL kX11_note cX11_note 11 3 2 45 (some (.int)) 0 kX11_note = true from by decide +kernel⟩
theorem fit_143 : FIT 143 := ⟨rfl, show fitL kX11_see cX11_see 11 5 2 48 (some (.int)) 0 kX11_see = true from by decide +kernel⟩
theorem fitc_0 : ∀ a ∈ [0, 1, 2, 3, 4, 5, 6, 7, 8, 9, 10, 11, 12, 13, 14, 15], FIT a := List.forall_mem_cons.mpr ⟨fit_0, List.forall_mem_cons.mpr ⟨fit_1, List.forall_mem_cons.mpr ⟨fit_2, List.forall_mem_cons.mpr ⟨fit_3, List.forall_mem_cons.mpr ⟨fit_4, List.forall_mem_cons.mpr ⟨fit_5, List.forall_mem_cons.mpr ⟨fit_6, List.forall_mem_cons.mpr ⟨fit_7, List.forall_mem_cons.mpr ⟨fit_8, List.forall_mem_cons.mpr ⟨fit_9, List.forall_mem_cons.mpr ⟨fit_10, List.forall_mem_cons.mpr ⟨fit_11, List.forall_mem_cons.mpr ⟨fit_12, List.forall_mem_cons.mpr ⟨fit_13, List.forall_mem_cons.mpr ⟨fit_14, List.forall_mem_cons.mpr ⟨fit_15, fun _ h => absurd h List.not_mem_nil⟩⟩⟩⟩⟩⟩⟩⟩⟩⟩⟩⟩⟩⟩⟩⟩
theorem fitc_1 : ∀ a ∈ [16, 17, 18, 19, 20, 21, 22, 23, 24, 25, 26, 27, 28, 29, 30, 31], FIT a := List.forall_mem_cons.mpr ⟨fit_16, List.forall_mem_cons.mpr ⟨fit_17, List.forall_mem_cons.mpr ⟨fit_18, List.forall_mem_cons.mpr ⟨fit_19, List.forall_mem_cons.mpr ⟨fit_20, List.forall_mem_cons.mpr ⟨fit_21, List.forall_mem_cons.mpr ⟨fit_22, List.forall_mem_cons.mpr ⟨fit_23, List.forall_mem_cons.mpr ⟨fit_24, List.forall_mem_cons.mpr ⟨fit_25, List.forall_mem_cons.mpr ⟨fit_26, List.forall_mem_cons.mpr ⟨fit_27, List.forall_mem_cons.mpr ⟨fit_28, List.forall_mem_cons.mpr ⟨fit_29, List.forall_mem_cons.mpr ⟨fit_30, List.forall_mem_cons.mpr ⟨fit_31, fun _ h => absurd h List.not_mem_nil⟩⟩⟩⟩⟩⟩⟩⟩⟩⟩⟩⟩⟩⟩⟩⟩
theorem fitc_2 : ∀ a ∈ [32, 33, 34, 35, 36, 37, 38, 39, 40, 41, 42, 43, 44, 45, 46, 47], FIT a := List.forall_mem_cons.mpr ⟨fit_32, List.forall_mem_cons.mpr ⟨fit_33, List.forall_mem_cons.mpr ⟨fit_34, List.forall_mem_cons.mpr ⟨fit_35, List.forall_mem_cons.mpr ⟨fit_36, List.forall_mem_cons.mpr ⟨fit_37, List.forall_mem_cons.mpr ⟨fit_38, List.forall_mem_cons.mpr ⟨fit_39, List.forall_mem_cons.mpr ⟨fit_40, List.forall_mem_cons.mpr ⟨fit_41, List.forall_mem_cons.mpr ⟨fit_42, List.forall_mem_cons.mpr ⟨fit_43, List.forall_mem_cons.mpr ⟨fit_44, List.forall_mem_cons.mpr ⟨fit_45, List.forall_mem_cons.mpr ⟨fit_46, List.forall_mem_cons.mpr ⟨fit_47, fun _ h => absurd h List.not_mem_nil⟩⟩⟩⟩⟩⟩⟩⟩⟩⟩⟩⟩⟩⟩⟩⟩
theorem fitc_3 : ∀ a ∈ [48, 49, 50, 51, 52, 53, 54, 55, 56, 57, 58, 59, 60, 61, 62, 63], FIT a := List.forall_mem_cons.mpr ⟨fit_48, List.forall_mem_cons.mpr ⟨fit_49, List.forall_mem_cons.mpr ⟨fit_50, List.forall_mem_cons.mpr ⟨fit_51, List.forall_mem_cons.mpr ⟨fit_52, List.forall_mem_cons.mpr ⟨fit_53, List.forall_mem_cons.mpr ⟨fit_54, List.forall_mem_cons.mpr ⟨fit_55, List.forall_mem_cons.mpr ⟨fit_56, List.forall_mem_cons.mpr ⟨fit_57, List.forall_mem_cons.mpr ⟨fit_58, List.forall_mem_cons.mpr ⟨fit_59, List.forall_mem_cons.mpr ⟨fit_60, List.forall_mem_cons.mpr ⟨fit_61, List.forall_mem_cons.mpr ⟨fit_62, List.forall_mem_cons.mpr ⟨fit_63, fun _ h => absurd h List.not_mem_nil⟩⟩⟩⟩⟩⟩⟩⟩⟩⟩⟩⟩⟩⟩⟩⟩
theorem fitc_4 : ∀ a ∈ [64, 65, 66, 67, 68, 69, 70, 71, 72, 73, 74, 75, 76, 77, 78, 79], FIT a := List.forall_mem_cons.mpr ⟨fit_64, List.forall_mem_cons.mpr ⟨fit_65, List.forall_mem_cons.mpr ⟨fit_66, List.forall_mem_cons.mpr ⟨fit_67, List.forall_mem_cons.mpr ⟨fit_68, List.forall_mem_cons.mpr ⟨fit_69, List.forall_mem_cons.mpr ⟨fit_70, List.forall_mem_cons.mpr ⟨fit_71, List.forall_mem_cons.mpr ⟨fit_72, List.forall_mem_cons.mpr ⟨fit_73, List.forall_mem_cons.mpr ⟨fit_74, List.forall_mem_cons.mpr ⟨fit_75, List.forall_mem_cons.mpr ⟨fit_76, List.forall_mem_cons.mpr ⟨fit_77, List.forall_mem_cons.mpr ⟨fit_78, List.forall_mem_cons.mpr ⟨fit_79, fun _ h => absurd h List.not_mem_nil⟩⟩⟩⟩⟩⟩⟩⟩⟩⟩⟩⟩⟩⟩⟩⟩
theorem fitc_5 : ∀ a ∈ [80, 81, 82, 83, 84, 85, 86, 87, 88, 89, 90, 91, 92, 93, 94, 95], FIT a := List.forall_mem_cons.mpr ⟨fit_80, List.forall_mem_cons.mpr ⟨fit_81, List.forall_mem_cons.mpr ⟨fit_82, List.forall_mem_cons.mpr ⟨fit_83, List.forall_mem_cons.mpr ⟨fit_84, List.forall_mem_cons.mpr ⟨fit_85, List.forall_mem_cons.mpr ⟨fit_86, List.forall_mem_cons.mpr ⟨fit_87, List.forall_mem_cons.mpr ⟨fit_88, List.forall_mem_cons.mpr ⟨fit_89, List.forall_mem_cons.mpr ⟨fit_90, List.forall_mem_cons.mpr ⟨fit_91, List.forall_mem_cons.mpr ⟨fit_92, List.forall_mem_cons.mpr ⟨fit_93, List.forall_mem_cons.mpr ⟨fit_94, List.forall_mem_cons.mpr ⟨fit_95, fun _ h => absurd h List.not_mem_nil⟩⟩⟩⟩⟩⟩⟩⟩⟩⟩⟩⟩⟩⟩⟩⟩
theorem fitc_6 : ∀ a ∈ [96, 97, 98, 99, 100, 101, 102, 103, 104, 105, 106, 107, 108, 109, 110, 111], FIT a := List.forall_mem_cons.mpr ⟨fit_96, List.forall_mem_cons.mpr ⟨fit_97, List.forall_mem_cons.mpr ⟨fit_98, List.forall_mem_cons.mpr ⟨fit_99, List.forall_mem_cons.mpr ⟨fit_100, List.forall_mem_cons.mpr ⟨fit_101, List.forall_mem_cons.mpr ⟨fit_102, List.forall_mem_cons.mpr ⟨fit_103, List.forall_mem_cons.mpr ⟨fit_104, List.forall_mem_cons.mpr ⟨fit_105, List.forall_mem_cons.mpr ⟨fit_106, List.forall_mem_cons.mpr ⟨fit_107, List.forall_mem_cons.mpr ⟨fit_108, List.forall_mem_cons.mpr ⟨fit_109, List.forall_mem_cons.mpr ⟨fit_110, List.forall_mem_cons.mpr ⟨fit_111, fun _ h => absurd h List.not_mem_nil⟩⟩⟩⟩⟩⟩⟩⟩⟩⟩⟩⟩⟩⟩⟩⟩
theorem fitc_7 : ∀ a ∈ [112, 113, 114, 115, 116, 117, 118, 119, 120, 121, 122, 123, 124, 125, 126, 127], FIT a := List.forall_mem_cons.mpr ⟨fit_112, List.forall_mem_cons.mpr ⟨fit_113, List.forall_mem_cons.mpr ⟨fit_114, List.forall_mem_cons.mpr ⟨fit_115, List.forall_mem_cons.mpr ⟨fit_116, List.forall_mem_cons.mpr ⟨fit_117, List.forall_mem_cons.mpr ⟨fit_118, List.forall_mem_cons.mpr ⟨fit_119, List.forall_mem_cons.mpr ⟨fit_120, List.forall_mem_cons.mpr ⟨fit_121, List.forall_mem_cons.mpr ⟨fit_122, List.forall_mem_cons.mpr ⟨fit_123, List.forall_mem_cons.mpr ⟨fit_124, List.forall_mem_cons.mpr ⟨fit_125, List.forall_mem_cons.mpr ⟨fit_126, List.forall_mem_cons.mpr ⟨fit_127, fun _ h => absurd h List.not_mem_nil⟩⟩⟩⟩⟩⟩⟩⟩⟩⟩⟩⟩⟩⟩⟩⟩
theorem fitc_8 : ∀ a ∈ [128, 129, 130, 131, 132, 133, 134, 135, 136, 137, 138, 139, 140, 141, 142, 143], FIT a := List.forall_mem_cons.mpr ⟨fit_128, List.forall_mem_cons.mpr ⟨fit_129, List.forall_mem_cons.mpr ⟨fit_130, List.forall_mem_cons.mpr ⟨fit_131, List.forall_mem_cons.mpr ⟨fit_132, List.forall_mem_cons.mpr ⟨fit_133, List.forall_mem_cons.mpr ⟨fit_134, List.forall_mem_cons.mpr ⟨fit_135, List.forall_mem_cons.mpr ⟨fit_136, List.forall_mem_cons.mpr ⟨fit_137, List.forall_mem_cons.mpr ⟨fit_138, List.forall_mem_cons.mpr ⟨fit_139, List.forall_mem_cons.mpr ⟨fit_140, List.forall_mem_cons.mpr ⟨fit_141, List.forall_mem_cons.mpr ⟨fit_142, List.forall_mem_cons.mpr ⟨fit_143, fun _ h => absurd h List.not_mem_nil⟩⟩⟩⟩⟩⟩⟩⟩⟩⟩⟩⟩⟩⟩⟩⟩
end
section
theorem fit_144 : FIT 144 := ⟨rfl, show fitL kX11_strike cX11_strike 11 2 2 44 (some (.int)) 0 kX11_strike = true from by decide +kernel⟩
theorem fit_145 : FIT 145 := ⟨rfl, show fitL kX11_known cX11_known 11 2 1 22 (some (.boolean)) 0 kX11_known = true from by decide +kernel⟩
theorem fit_146 : FIT 146 := ⟨rfl, show fitL kX11_doubts cX11_doubts 11 4 6 150 (some (.int)) 0 kX11_doubts = true from by decide +kernel⟩
theorem fit_147 : FIT 147 := ⟨rfl, show fitL kX11_chance cX11_chance 11 9 6 150 (some (.int)) 0 kX11_chance = true from by decide +kernel⟩
theorem fit_148 : FIT 148 := ⟨rfl, show fitL kX11_tried cX11_tried 11 5 6 150 (some (.int)) 0 kX11_tried = true from by decide +kernel⟩
theorem fit_149 : FIT 149 := ⟨rfl, show fitL kX11_undo cX11_undo 11 1 1 22 (some (.int)) 0 kX11_undo = true from by decide +kernel⟩
theorem fit_150 : FIT 150 := ⟨rfl, show fitL kX11_keep cX11_keep 11 1 2 69 (some (.int)) 0 kX11_keep = true from by decide +kernel⟩
theorem fit_151 : FIT 151 := ⟨rfl, show fitL kX11_back cX11_back 11 1 2 69 (some (.int)) 0 kX11_back = true from by decide +kernel⟩
theorem fit_152 : FIT 152 := ⟨rfl, show fitL kX11_count cX11_count 11 2 2 44 (some (.int)) 0 kX11_count = true from by decide +kernel⟩
theorem fit_153 : FIT 153 := ⟨rfl, show fitL kX11_isGrower cX11_isGrower 11 2 0 0 (some (.boolean)) 0 kX11_isGrower = true from by decide +kernel⟩
theorem fit_154 : FIT 154 := ⟨rfl, show fitL kX11_isRibbon cX11_isRibbon 11 2 0 0 (some (.boolean)) 0 kX11_isRibbon = true from by decide +kernel⟩
theorem fit_155 : FIT 155 := ⟨rfl, show fitL kX11_areTwo cX11_areTwo 11 3 1 21 (some (.boolean)) 0 kX11_areTwo = true from by decide +kernel⟩
theorem fit_156 : FIT 156 := ⟨rfl, show fitL kX11_isWithin cX11_isWithin 11 3 0 0 (some (.boolean)) 0 kX11_isWithin = true from by decide +kernel⟩
theorem fit_157 : FIT 157 := ⟨rfl, show fitL kX11_has cX11_has 11 2 0 0 (some (.boolean)) 0 kX11_has = true from by decide +kernel⟩
theorem fit_158 : FIT 158 := ⟨rfl, show fitL kX11_beginAnew cX11_beginAnew 11 1 3 91 none 0 kX11_beginAnew = true from by decide +kernel⟩
theorem fit_159 : FIT 159 := ⟨rfl, show fitL kX11_ribbonsOf cX11_ribbonsOf 11 4 0 0 (some (.int)) 0 kX11_ribbonsOf = true from by decide +kernel⟩
theorem fit_160 : FIT 160 := ⟨rfl, show fitL kX11_isRest cX11_isRest 11 6 1 25 (some (.boolean)) 0 kX11_isRest = true from by decide +kernel⟩
theorem fit_161 : FIT 161 := ⟨rfl, show fitL kX11_share cX11_share 11 6 0 0 (some (.int)) 0 kX11_share = true from by decide +kernel⟩
theorem fit_162 : FIT 162 := ⟨rfl, show fitL kX11_areSightsSo cX11_areSightsSo 11 3 5 128 (some (.boolean)) 0 kX11_areSightsSo = true from by decide +kernel⟩
theorem fit_163 : FIT 163 := ⟨rfl, show fitL kX12_thrown cX12_thrown 12 1 0 0 (some (.int)) 0 kX12_thrown = true from by decide +kernel⟩
theorem fit_164 : FIT 164 := ⟨rfl, show fitL kX12_feed cX12_feed 12 8 0 0 (some (.int)) 0 kX12_feed = true from by decide +kernel⟩
theorem fit_165 : FIT 165 := ⟨rfl, show fitL kX12_isIn cX12_isIn 12 3 0 0 (some (.boolean)) 0 kX12_isIn = true from by decide +kernel⟩
theorem fit_166 : FIT 166 := ⟨rfl, show fitL kX12_isOf cX12_isOf 12 2 0 0 (some (.boolean)) 0 kX12_isOf = true from by decide +kernel⟩
theorem fit_167 : FIT 167 := ⟨rfl, show fitL kX12_wrong cX12_wrong 12 2 0 0 (some (.boolean)) 0 kX12_wrong = true from by decide +kernel⟩
theorem fit_168 : FIT 168 := ⟨rfl, show fitL kX12_wordAt cX12_wordAt 12 8 0 0 (some (.int)) 0 kX12_wordAt = true from by decide +kernel⟩
theorem fit_169 : FIT 169 := ⟨rfl, show fitL kX12_isSmall cX12_isSmall 12 2 0 0 (some (.boolean)) 0 kX12_isSmall = true from by decide +kernel⟩
theorem fit_170 : FIT 170 := ⟨rfl, show fitL kX12_isDigit cX12_isDigit 12 2 0 0 (some (.boolean)) 0 kX12_isDigit = true from by decide +kernel⟩
theorem fit_171 : FIT 171 := ⟨rfl, show fitL kX12_token cX12_token 12 1 1 27 none 0 kX12_token = true from by decide +kernel⟩
theorem fit_172 : FIT 172 := ⟨rfl, show fitL kX12_signToken cX12_signToken 12 4 0 0 none 0 kX12_signToken = true from by decide +kernel⟩
theorem fit_173 : FIT 173 := ⟨rfl, show fitL kX12_packed cX12_packed 12 5 0 0 (some (.int)) 0 kX12_packed = true from by decide +kernel⟩
theorem fit_174 : FIT 174 := ⟨rfl, show fitL kX12_isKey cX12_isKey 12 2 0 0 (some (.boolean)) 0 kX12_isKey = true from by decide +kernel⟩
theorem fit_175 : FIT 175 := ⟨rfl, show fitL kX12_isSign cX12_isSign 12 2 0 0 (some (.boolean)) 0 kX12_isSign = true from by decide +kernel⟩
theorem fit_176 : FIT 176 := ⟨rfl, show fitL kX12_number cX12_number 12 3 2 47 (some (.boolean)) 0 kX12_number = true from by decide +kernel⟩
theorem fit_177 : FIT 177 := ⟨rfl, show fitL kX12_signed cX12_signed 12 3 3 69 (some (.boolean)) 0 kX12_signed = true from by decide +kernel⟩
theorem fit_178 : FIT 178 := ⟨rfl, show fitL kX12_plain cX12_plain 12 2 0 0 none 0 kX12_plain = true from by decide +kernel⟩
theorem fit_179 : FIT 179 := ⟨rfl, show fitL kX12_copies cX12_copies 12 3 0 0 none 0 kX12_copies = true from by decide +kernel⟩
theorem fit_180 : FIT 180 := ⟨rfl, show fitL kX12_keepText cX12_keepText 12 2 2 42 none 0 kX12_keepText = true from by decide +kernel⟩
theorem fit_181 : FIT 181 := ⟨rfl, show fitL kX12_find cX12_find 12 5 0 0 (some (.int)) 0 kX12_find = true from by decide +kernel⟩
theorem fit_182 : FIT 182 := ⟨rfl, show fitL kX12_growerThere cX12_growerThere 12 2 2 47 (some (.boolean)) 0 kX12_growerThere = true from by decide +kernel⟩
theorem fit_183 : FIT 183 := ⟨rfl, show fitL kX12_growerLine cX12_growerLine 12 2 4 91 (some (.boolean)) 0 kX12_growerLine = true from by decide +kernel⟩
theorem fit_184 : FIT 184 := ⟨rfl, show fitL kX12_seesLine cX12_seesLine 12 3 3 68 (some (.boolean)) 0 kX12_seesLine = true from by decide +kernel⟩
theorem fit_185 : FIT 185 := ⟨rfl, show fitL kX12_ribbonLine cX12_ribbonLine 12 1 3 68 (some (.boolean)) 0 kX12_ribbonLine = true from by decide +kernel⟩
theorem fit_186 : FIT 186 := ⟨rfl, show fitL kX12_onceLine cX12_onceLine 12 3 3 69 (some (.boolean)) 0 kX12_onceLine = true from by decide +kernel⟩
theorem fit_187 : FIT 187 := ⟨rfl, show fitL kX12_lineRead cX12_lineRead 12 3 5 112 (some (.boolean)) 0 kX12_lineRead = true from by decide +kernel⟩
theorem fit_188 : FIT 188 := ⟨rfl, show fitL kX12_text cX12_text 12 3 6 134 (some (.int)) 0 kX12_text = true from by decide +kernel⟩
theorem fit_189 : FIT 189 := ⟨rfl, show fitL kX12_fault cX12_fault 12 2 0 0 (some (.int)) 0 kX12_fault = true from by decide +kernel⟩
theorem fit_190 : FIT 190 := ⟨rfl, show fitL kX12_named cX12_named 12 2 1 24 (some (.int)) 0 kX12_named = true from by decide +kernel⟩
theorem fit_191 : FIT 191 := ⟨rfl, show fitL kX12_rankOf cX12_rankOf 12 1 0 0 (some (.int)) 0 kX12_rankOf = true from by decide +kernel⟩
theorem fit_192 : FIT 192 := ⟨rfl, show fitL kX12_grown cX12_grown 12 4 0 0 none 0 kX12_grown = true from by decide +kernel⟩
theorem fit_193 : FIT 193 := ⟨rfl, show fitL kX12_dropHeld cX12_dropHeld 12 1 0 0 (some (.int)) 0 kX12_dropHeld = true from by decide +kernel⟩
theorem fit_194 : FIT 194 := ⟨rfl, show fitL kX12_bind cX12_bind 12 5 1 23 none 0 kX12_bind = true from by decide +kernel⟩
theorem fit_195 : FIT 195 := ⟨rfl, show fitL kX12_isCounted cX12_isCounted 12 1 1 21 (some (.boolean)) 0 kX12_isCounted = true from by decide +kernel⟩
theorem fit_196 : FIT 196 := ⟨rfl, show fitL kX12_waitsFor cX12_waitsFor 12 2 0 0 none 0 kX12_waitsFor = true from by decide +kernel⟩
theorem fit_197 : FIT 197 := ⟨rfl, show fitL kX12_nameMet cX12_nameMet 12 1 0 0 (some (.int)) 0 kX12_nameMet = true from by decide +kernel⟩
theorem fit_198 : FIT 198 := ⟨rfl, show fitL kX12_leafRead cX12_leafRead 12 2 2 47 (some (.boolean)) 0 kX12_leafRead = true from by decide +kernel⟩
theorem fit_199 : FIT 199 := ⟨rfl, show fitL kX12_signs cX12_signs 12 2 2 47 (some (.boolean)) 0 kX12_signs = true from by decide +kernel⟩
theorem fit_200 : FIT 200 := ⟨rfl, show fitL kX12_sumRead cX12_sumRead 12 1 3 68 (some (.boolean)) 0 kX12_sumRead = true from by decide +kernel⟩
theorem fit_201 : FIT 201 := ⟨rfl, show fitL kX12_bounded cX12_bounded 12 3 0 0 (some (.long)) 0 kX12_bounded = true from by decide +kernel⟩
theorem fit_202 : FIT 202 := ⟨rfl, show fitL kX12_compares cX12_compares 12 5 0 0 (some (.boolean)) 0 kX12_compares = true from by decide +kernel⟩
theorem fit_203 : FIT 203 := ⟨rfl, show fitL kX12_times cX12_times 12 6 0 0 (some (.long)) 0 kX12_times = true from by decide +kernel⟩
theorem fit_204 : FIT 204 := ⟨rfl, show fitL kX12_valueOf cX12_valueOf 12 6 1 25 (some (.long)) 0 kX12_valueOf = true from by decide +kernel⟩
theorem fit_205 : FIT 205 := ⟨rfl, show fitL kX12_begin cX12_begin 12 1 1 22 none 0 kX12_begin = true from by decide +kernel⟩
theorem fit_206 : FIT 206 := ⟨rfl, show fitL kX12_atFirst cX12_atFirst 12 3 0 0 none 0 kX12_atFirst = true from by decide +kernel⟩
theorem fit_207 : FIT 207 := ⟨rfl, show fitL kX12_plainTried cX12_plainTried 12 1 0 0 none 0 kX12_plainTried = true from by decide +kernel⟩
theorem fit_208 : FIT 208 := ⟨rfl, show fitL kX12_layTried cX12_layTried 12 2 1 20 none 0 kX12_layTried = true from by decide +kernel⟩
theorem fit_209 : FIT 209 := ⟨rfl, show fitL kX12_isGrower cX12_isGrower 12 2 0 0 (some (.boolean)) 0 kX12_isGrower = true from by decide +kernel⟩
theorem fit_210 : FIT 210 := ⟨rfl, show fitL kX12_isRibbon cX12_isRibbon 12 2 0 0 (some (.boolean)) 0 kX12_isRibbon = true from by decide +kernel⟩
theorem fit_211 : FIT 211 := ⟨rfl, show fitL kX12_areTwo cX12_areTwo 12 3 1 21 (some (.boolean)) 0 kX12_areTwo = true from by decide +kernel⟩
theorem fit_212 : FIT 212 := ⟨rfl, show fitL kX12_apart cX12_apart 12 2 0 0 (some (.int)) 0 kX12_apart = true from by decide +kernel⟩
theorem fit_213 : FIT 213 := ⟨rfl, show fitL kX12_doubtIn cX12_doubtIn 12 2 0 0 (some (.int)) 0 kX12_doubtIn = true from by decide +kernel⟩
theorem fit_214 : FIT 214 := ⟨rfl, show fitL kX12_layNames cX12_layNames 12 5 1 21 none 0 kX12_layNames = true from by decide +kernel⟩
theorem fit_215 : FIT 215 := ⟨rfl, show fitL kX12_lawOf cX12_lawOf 12 3 2 50 (some (.long)) 0 kX12_lawOf = true from by decide +kernel⟩
theorem fit_216 : FIT 216 := ⟨rfl, show fitL kX12_boundLaw cX12_boundLaw 12 7 3 72 (some (.int)) 0 kX12_boundLaw = true from by decide +kernel⟩
theorem fit_217 : FIT 217 := ⟨rfl, show fitL kX12_judgedBy cX12_judgedBy 12 5 4 98 (some (.int)) 0 kX12_judgedBy = true from by decide +kernel⟩
theorem fit_218 : FIT 218 := ⟨rfl, show fitL kX12_seenBy cX12_seenBy 12 4 0 0 (some (.int)) 0 kX12_seenBy = true from by decide +kernel⟩
theorem fit_219 : FIT 219 := ⟨rfl, show fitL kX12_bestOf cX12_bestOf 12 8 5 122 (some (.int)) 0 kX12_bestOf = true from by decide +kernel⟩
theorem fit_220 : FIT 220 := ⟨rfl, show fitL kX12_gives cX12_gives 12 6 3 72 (some (.boolean)) 0 kX12_gives = true from by decide +kernel⟩
theorem fit_221 : FIT 221 := ⟨rfl, show fitL kX12_number1 cX12_number1 12 2 0 0 (some (.int)) 0 kX12_number1 = true from by decide +kernel⟩
theorem fit_222 : FIT 222 := ⟨rfl, show fitL kX12_isBlight cX12_isBlight 12 1 1 21 (some (.boolean)) 0 kX12_isBlight = true from by decide +kernel⟩
theorem fit_223 : FIT 223 := ⟨rfl, show fitL kX12_hands cX12_hands 12 4 0 0 none 0 kX12_hands = true from by decide +kernel⟩
theorem fit_224 : FIT 224 := ⟨rfl, show fitL kX12_yearGoes cX12_yearGoes 12 5 6 149 none 0 kX12_yearGoes = true from by decide +kernel⟩
theorem fit_225 : FIT 225 := ⟨rfl, show fitL kX12_goMany cX12_goMany 12 3 7 173 none 0 kX12_goMany = true from by decide +kernel⟩
theorem fit_226 : FIT 226 := ⟨rfl, show fitL kX12_fails cX12_fails 12 2 0 0 (some (.int)) 0 kX12_fails = true from by decide +kernel⟩
theorem fit_227 : FIT 227 := ⟨rfl, show fitL kX12_ribbonsOf cX12_ribbonsOf 12 5 0 0 (some (.int)) 0 kX12_ribbonsOf = true from by decide +kernel⟩
theorem fit_228 : FIT 228 := ⟨rfl, show fitL kX12_grower cX12_grower 12 3 1 24 (some (.int)) 0 kX12_grower = true from by decide +kernel⟩
theorem fit_229 : FIT 229 := ⟨rfl, show fitL kX12_ribbon cX12_ribbon 12 3 1 21 (some (.int)) 0 kX12_ribbon = true from by decide +kernel⟩
theorem fit_230 : FIT 230 := ⟨rfl, show fitL kX12_judged cX12_judged 12 3 5 122 (some (.int)) 0 kX12_judged = true from by decide +kernel⟩
theorem fit_231 : FIT 231 := ⟨rfl, show fitL kX12_best cX12_best 12 2 6 149 (some (.int)) 0 kX12_best = true from by decide +kernel⟩
theorem fit_232 : FIT 232 := ⟨rfl, show fitL kX12_law cX12_law 12 6 3 72 (some (.long)) 0 kX12_law = true from by decide +kernel⟩
theorem fit_233 : FIT 233 := ⟨rfl, show fitL kX12_show cX12_show 12 4 2 44 (some (.boolean)) 0 kX12_show = true from by decide +kernel⟩
theorem fit_234 : FIT 234 := ⟨rfl, show fitL kX12_raise cX12_raise 12 4 2 44 (some (.int)) 0 kX12_raise = true from by decide +kernel⟩
theorem fit_235 : FIT 235 := ⟨rfl, show fitL kX12_hand cX12_hand 12 3 2 44 (some (.boolean)) 0 kX12_hand = true from by decide +kernel⟩
theorem fit_236 : FIT 236 := ⟨rfl, show fitL kX12_go cX12_go 12 3 7 173 (some (.int)) 0 kX12_go = true from by decide +kernel⟩
theorem fit_237 : FIT 237 := ⟨rfl, show fitL kX12_handedAll cX12_handedAll 12 4 0 0 (some (.int)) 0 kX12_handedAll = true from by decide +kernel⟩
theorem fit_238 : FIT 238 := ⟨rfl, show fitL kX12_ahead cX12_ahead 12 4 8 195 (some (.int)) 0 kX12_ahead = true from by decide +kernel⟩
theorem fit_239 : FIT 239 := ⟨rfl, show fitL kX12_ringOf cX12_ringOf 12 7 6 149 (some (.int)) 0 kX12_ringOf = true from by decide +kernel⟩
theorem fit_240 : FIT 240 := ⟨rfl, show fitL kX12_ring cX12_ring 12 4 7 175 (some (.int)) 0 kX12_ring = true from by decide +kernel⟩
theorem fit_241 : FIT 241 := ⟨rfl, show fitL kX12_turns cX12_turns 12 2 0 0 none 0 kX12_turns = true from by decide +kernel⟩
theorem fit_242 : FIT 242 := ⟨rfl, show fitL kX12_mayTurn cX12_mayTurn 12 3 2 43 (some (.boolean)) 0 kX12_mayTurn = true from by decide +kernel⟩
theorem fit_243 : FIT 243 := ⟨rfl, show fitL kX12_isSoBy cX12_isSoBy 12 6 8 195 (some (.boolean)) 0 kX12_isSoBy = true from by decide +kernel⟩
theorem fit_244 : FIT 244 := ⟨rfl, show fitL kX12_changes cX12_changes 12 7 9 220 (some (.boolean)) 0 kX12_changes = true from by decide +kernel⟩
theorem fit_245 : FIT 245 := ⟨rfl, show fitL kX12_changed cX12_changed 12 3 0 0 (some (.int)) 0 kX12_changed = true from by decide +kernel⟩
theorem fit_246 : FIT 246 := ⟨rfl, show fitL kX12_free cX12_free 12 3 10 246 (some (.int)) 0 kX12_free = true from by decide +kernel⟩
theorem fit_247 : FIT 247 := ⟨rfl, show fitL kX12_lead cX12_lead 12 5 10 246 (some (.int)) 0 kX12_lead = true from by decide +kernel⟩
theorem fit_248 : FIT 248 := ⟨rfl, show fitL kX12_rowsOf cX12_rowsOf 12 3 0 0 (some (.int)) 0 kX12_rowsOf = true from by decide +kernel⟩
theorem fit_249 : FIT 249 := ⟨rfl, show fitL kX12_layRow cX12_layRow 12 10 1 22 none 0 kX12_layRow = true from by decide +kernel⟩
theorem fit_250 : FIT 250 := ⟨rfl, show fitL kX12_walk cX12_walk 12 11 2 51 (some (.int)) 0 kX12_walk = true from by decide +kernel⟩
theorem fit_251 : FIT 251 := ⟨rfl, show fitL kX12_meet cX12_meet 12 2 7 173 (some (.int)) 0 kX12_meet = true from by decide +kernel⟩
theorem fit_252 : FIT 252 := ⟨rfl, show fitL kX12_reach cX12_reach 12 5 1 21 (some (.int)) 0 kX12_reach = true from by decide +kernel⟩
theorem fit_253 : FIT 253 := ⟨rfl, show fitL kX12_deserves cX12_deserves 12 3 0 0 (some (.int)) 0 kX12_deserves = true from by decide +kernel⟩
theorem fit_254 : FIT 254 := ⟨rfl, show fitL kX12_wayBy cX12_wayBy 12 7 1 21 (some (.int)) 0 kX12_wayBy = true from by decide +kernel⟩
theorem fit_255 : FIT 255 := ⟨rfl, show fitL kX12_visit cX12_visit 12 9 2 47 (some (.int)) 0 kX12_visit = true from by decide +kernel⟩
theorem fit_256 : FIT 256 := ⟨rfl, show fitL kX12_hosts cX12_hosts 12 5 7 173 (some (.int)) 0 kX12_hosts = true from by decide +kernel⟩
theorem fit_257 : FIT 257 := ⟨rfl, show fitL kX12_rank cX12_rank 12 4 1 21 (some (.int)) 0 kX12_rank = true from by decide +kernel⟩
theorem fit_258 : FIT 258 := ⟨rfl, show fitL kX12_keepers cX12_keepers 12 3 4 97 (some (.int)) 0 kX12_keepers = true from by decide +kernel⟩
theorem fit_259 : FIT 259 := ⟨rfl, show fitL kX12_comesTo cX12_comesTo 12 4 7 173 (some (.int)) 0 kX12_comesTo = true from by decide +kernel⟩
theorem fit_260 : FIT 260 := ⟨rfl, show fitL kX12_popular cX12_popular 12 6 0 0 (some (.int)) 0 kX12_popular = true from by decide +kernel⟩
theorem fit_261 : FIT 261 := ⟨rfl, show fitL kX12_mutual cX12_mutual 12 4 1 21 (some (.int)) 0 kX12_mutual = true from by decide +kernel⟩
theorem fit_262 : FIT 262 := ⟨rfl, show fitL kX12_lonely cX12_lonely 12 3 0 0 (some (.int)) 0 kX12_lonely = true from by decide +kernel⟩
theorem fit_263 : FIT 263 := ⟨rfl, show fitL kX12_hasBy cX12_hasBy 12 5 0 0 (some (.int)) 0 kX12_hasBy = true from by decide +kernel⟩
theorem fit_264 : FIT 264 := ⟨rfl, show fitL kX12_restAt cX12_restAt 12 8 1 24 (some (.int)) 0 kX12_restAt = true from by decide +kernel⟩
theorem fit_265 : FIT 265 := ⟨rfl, show fitL kX12_rests cX12_rests 12 3 2 51 (some (.int)) 0 kX12_rests = true from by decide +kernel⟩
theorem fit_266 : FIT 266 := ⟨rfl, show fitL kX12_rest cX12_rest 12 4 2 51 (some (.int)) 0 kX12_rest = true from by decide +kernel⟩
theorem fit_267 : FIT 267 := ⟨rfl, show fitL kX12_lays cX12_lays 12 7 0 0 (some (.int)) 0 kX12_lays = true from by decide +kernel⟩
theorem fit_268 : FIT 268 := ⟨rfl, show fitL kX12_note cX12_note 12 3 2 43 (some (.int)) 0 kX12_note = true from by decide +kernel⟩
theorem fit_269 : FIT 269 := ⟨rfl, show fitL kX12_see cX12_see 12 5 1 26 (some (.int)) 0 kX12_see = true from by decide +kernel⟩
theorem fit_270 : FIT 270 := ⟨rfl, show fitL kX12_strike cX12_strike 12 2 1 26 (some (.int)) 0 kX12_strike = true from by decide +kernel⟩
theorem fit_271 : FIT 271 := ⟨rfl, show fitL kX12_known cX12_known 12 2 1 22 (some (.boolean)) 0 kX12_known = true from by decide +kernel⟩
theorem fit_272 : FIT 272 := ⟨rfl, show fitL kX12_knownBy cX12_knownBy 12 1 0 0 (some (.int)) 0 kX12_knownBy = true from by decide +kernel⟩
theorem fit_273 : FIT 273 := ⟨rfl, show fitL kX12_layCounts cX12_layCounts 12 2 1 20 none 0 kX12_layCounts = true from by decide +kernel⟩
theorem fit_274 : FIT 274 := ⟨rfl, show fitL kX12_clashesOf cX12_clashesOf 12 7 1 21 (some (.int)) 0 kX12_clashesOf = true from by decide +kernel⟩
theorem fit_275 : FIT 275 := ⟨rfl, show fitL kX12_order cX12_order 12 6 2 51 (some (.int)) 0 kX12_order = true from by decide +kernel⟩
theorem fit_276 : FIT 276 := ⟨rfl, show fitL kX12_isSo cX12_isSo 12 4 1 20 (some (.boolean)) 0 kX12_isSo = true from by decide +kernel⟩
theorem fit_277 : FIT 277 := ⟨rfl, show fitL kX12_fits cX12_fits 12 4 7 173 (some (.boolean)) 0 kX12_fits = true from by decide +kernel⟩
theorem fit_278 : FIT 278 := ⟨rfl, show fitL kX12_doubts cX12_doubts 12 4 8 196 (some (.int)) 0 kX12_doubts = true from by decide +kernel⟩
theorem fit_279 : FIT 279 := ⟨rfl, show fitL kX12_chance cX12_chance 12 9 8 195 (some (.int)) 0 kX12_chance = true from by decide +kernel⟩
theorem fit_280 : FIT 280 := ⟨rfl, show fitL kX12_tried cX12_tried 12 4 8 195 (some (.int)) 0 kX12_tried = true from by decide +kernel⟩
theorem fit_281 : FIT 281 := ⟨rfl, show fitL kX12_put cX12_put 12 4 0 0 none 0 kX12_put = true from by decide +kernel⟩
theorem fit_282 : FIT 282 := ⟨rfl, show fitL kX12_take cX12_take 12 4 0 0 none 0 kX12_take = true from by decide +kernel⟩
theorem fit_283 : FIT 283 := ⟨rfl, show fitL kX12_remember cX12_remember 12 2 1 23 none 0 kX12_remember = true from by decide +kernel⟩
theorem fit_284 : FIT 284 := ⟨rfl, show fitL kX12_undo cX12_undo 12 1 1 23 (some (.int)) 0 kX12_undo = true from by decide +kernel⟩
theorem fit_285 : FIT 285 := ⟨rfl, show fitL kX12_keep cX12_keep 12 1 1 23 (some (.int)) 0 kX12_keep = true from by decide +kernel⟩
theorem fit_286 : FIT 286 := ⟨rfl, show fitL kX12_back cX12_back 12 1 1 23 (some (.int)) 0 kX12_back = true from by decide +kernel⟩
theorem fit_287 : FIT 287 := ⟨rfl, show fitL kX12_count cX12_count 12 4 1 23 (some (.int)) 0 kX12_count = true from by decide +kernel⟩
theorem fit_288 : FIT 288 := ⟨rfl, show fitL kJ6_bitCount_0f7a4 cJ6_bitCount_0f7a4 13 1 0 0 (some (.int)) 0 kJ6_bitCount_0f7a4 = true from by decide +kernel⟩
theorem fitc_9 : ∀ a ∈ [144, 145, 146, 147, 148, 149, 150, 151, 152, 153, 154, 155, 156, 157, 158, 159], FIT a := List.forall_mem_cons.mpr ⟨fit_144, List.forall_mem_cons.mpr ⟨fit_145, List.forall_mem_cons.mpr ⟨fit_146, List.forall_mem_cons.mpr ⟨fit_147, List.forall_mem_cons.mpr ⟨fit_148, List.forall_mem_cons.mpr ⟨fit_149, List.forall_mem_cons.mpr ⟨fit_150, List.forall_mem_cons.mpr ⟨fit_151, List.forall_mem_cons.mpr ⟨fit_152, List.forall_mem_cons.mpr ⟨fit_153, List.forall_mem_cons.mpr ⟨fit_154, List.forall_mem_cons.mpr ⟨fit_155, List.forall_mem_cons.mpr ⟨fit_156, List.forall_mem_cons.mpr ⟨fit_157, List.forall_mem_cons.mpr ⟨fit_158, List.forall_mem_cons.mpr ⟨fit_159, fun _ h => absurd h List.not_mem_nil⟩⟩⟩⟩⟩⟩⟩⟩⟩⟩⟩⟩⟩⟩⟩⟩
theorem fitc_10 : ∀ a ∈ [160, 161, 162, 163, 164, 165, 166, 167, 168, 169, 170, 171, 172, 173, 174, 175], FIT a := List.forall_mem_cons.mpr ⟨fit_160, List.forall_mem_cons.mpr ⟨fit_161, List.forall_mem_cons.mpr ⟨fit_162, List.forall_mem_cons.mpr ⟨fit_163, List.forall_mem_cons.mpr ⟨fit_164, List.forall_mem_cons.mpr ⟨fit_165, List.forall_mem_cons.mpr ⟨fit_166, List.forall_mem_cons.mpr ⟨fit_167, List.forall_mem_cons.mpr ⟨fit_168, List.forall_mem_cons.mpr ⟨fit_169, List.forall_mem_cons.mpr ⟨fit_170, List.forall_mem_cons.mpr ⟨fit_171, List.forall_mem_cons.mpr ⟨fit_172, List.forall_mem_cons.mpr ⟨fit_173, List.forall_mem_cons.mpr ⟨fit_174, List.forall_mem_cons.mpr ⟨fit_175, fun _ h => absurd h List.not_mem_nil⟩⟩⟩⟩⟩⟩⟩⟩⟩⟩⟩⟩⟩⟩⟩⟩
theorem fitc_11 : ∀ a ∈ [176, 177, 178, 179, 180, 181, 182, 183, 184, 185, 186, 187, 188, 189, 190, 191], FIT a := List.forall_mem_cons.mpr ⟨fit_176, List.forall_mem_cons.mpr ⟨fit_177, List.forall_mem_cons.mpr ⟨fit_178, List.forall_mem_cons.mpr ⟨fit_179, List.forall_mem_cons.mpr ⟨fit_180, List.forall_mem_cons.mpr ⟨fit_181, List.forall_mem_cons.mpr ⟨fit_182, List.forall_mem_cons.mpr ⟨fit_183, List.forall_mem_cons.mpr ⟨fit_184, List.forall_mem_cons.mpr ⟨fit_185, List.forall_mem_cons.mpr ⟨fit_186, List.forall_mem_cons.mpr ⟨fit_187, List.forall_mem_cons.mpr ⟨fit_188, List.forall_mem_cons.mpr ⟨fit_189, List.forall_mem_cons.mpr ⟨fit_190, List.forall_mem_cons.mpr ⟨fit_191, fun _ h => absurd h List.not_mem_nil⟩⟩⟩⟩⟩⟩⟩⟩⟩⟩⟩⟩⟩⟩⟩⟩
theorem fitc_12 : ∀ a ∈ [192, 193, 194, 195, 196, 197, 198, 199, 200, 201, 202, 203, 204, 205, 206, 207], FIT a := List.forall_mem_cons.mpr ⟨fit_192, List.forall_mem_cons.mpr ⟨fit_193, List.forall_mem_cons.mpr ⟨fit_194, List.forall_mem_cons.mpr ⟨fit_195, List.forall_mem_cons.mpr ⟨fit_196, List.forall_mem_cons.mpr ⟨fit_197, List.forall_mem_cons.mpr ⟨fit_198, List.forall_mem_cons.mpr ⟨fit_199, List.forall_mem_cons.mpr ⟨fit_200, List.forall_mem_cons.mpr ⟨fit_201, List.forall_mem_cons.mpr ⟨fit_202, List.forall_mem_cons.mpr ⟨fit_203, List.forall_mem_cons.mpr ⟨fit_204, List.forall_mem_cons.mpr ⟨fit_205, List.forall_mem_cons.mpr ⟨fit_206, List.forall_mem_cons.mpr ⟨fit_207, fun _ h => absurd h List.not_mem_nil⟩⟩⟩⟩⟩⟩⟩⟩⟩⟩⟩⟩⟩⟩⟩⟩
theorem fitc_13 : ∀ a ∈ [208, 209, 210, 211, 212, 213, 214, 215, 216, 217, 218, 219, 220, 221, 222, 223], FIT a := List.forall_mem_cons.mpr ⟨fit_208, List.forall_mem_cons.mpr ⟨fit_209, List.forall_mem_cons.mpr ⟨fit_210, List.forall_mem_cons.mpr ⟨fit_211, List.forall_mem_cons.mpr ⟨fit_212, List.forall_mem_cons.mpr ⟨fit_213, List.forall_mem_cons.mpr ⟨fit_214, List.forall_mem_cons.mpr ⟨fit_215, List.forall_mem_cons.mpr ⟨fit_216, List.forall_mem_cons.mpr ⟨fit_217, List.forall_mem_cons.mpr ⟨fit_218, List.forall_mem_cons.mpr ⟨fit_219, List.forall_mem_cons.mpr ⟨fit_220, List.forall_mem_cons.mpr ⟨fit_221, List.forall_mem_cons.mpr ⟨fit_222, List.forall_mem_cons.mpr ⟨fit_223, fun _ h => absurd h List.not_mem_nil⟩⟩⟩⟩⟩⟩⟩⟩⟩⟩⟩⟩⟩⟩⟩⟩
theorem fitc_14 : ∀ a ∈ [224, 225, 226, 227, 228, 229, 230, 231, 232, 233, 234, 235, 236, 237, 238, 239], FIT a := List.forall_mem_cons.mpr ⟨fit_224, List.forall_mem_cons.mpr ⟨fit_225, List.forall_mem_cons.mpr ⟨fit_226, List.forall_mem_cons.mpr ⟨fit_227, List.forall_mem_cons.mpr ⟨fit_228, List.forall_mem_cons.mpr ⟨fit_229, List.forall_mem_cons.mpr ⟨fit_230, List.forall_mem_cons.mpr ⟨fit_231, List.forall_mem_cons.mpr ⟨fit_232, List.forall_mem_cons.mpr ⟨fit_233, List.forall_mem_cons.mpr ⟨fit_234, List.forall_mem_cons.mpr ⟨fit_235, List.forall_mem_cons.mpr ⟨fit_236, List.forall_mem_cons.mpr ⟨fit_237, List.forall_mem_cons.mpr ⟨fit_238, List.forall_mem_cons.mpr ⟨fit_239, fun _ h => absurd h List.not_mem_nil⟩⟩⟩⟩⟩⟩⟩⟩⟩⟩⟩⟩⟩⟩⟩⟩
theorem fitc_15 : ∀ a ∈ [240, 241, 242, 243, 244, 245, 246, 247, 248, 249, 250, 251, 252, 253, 254, 255], FIT a := List.forall_mem_cons.mpr ⟨fit_240, List.forall_mem_cons.mpr ⟨fit_241, List.forall_mem_cons.mpr ⟨fit_242, List.forall_mem_cons.mpr ⟨fit_243, List.forall_mem_cons.mpr ⟨fit_244, List.forall_mem_cons.mpr ⟨fit_245, List.forall_mem_cons.mpr ⟨fit_246, List.forall_mem_cons.mpr ⟨fit_247, List.forall_mem_cons.mpr ⟨fit_248, List.forall_mem_cons.mpr ⟨fit_249, List.forall_mem_cons.mpr ⟨fit_250, List.forall_mem_cons.mpr ⟨fit_251, List.forall_mem_cons.mpr ⟨fit_252, List.forall_mem_cons.mpr ⟨fit_253, List.forall_mem_cons.mpr ⟨fit_254, List.forall_mem_cons.mpr ⟨fit_255, fun _ h => absurd h List.not_mem_nil⟩⟩⟩⟩⟩⟩⟩⟩⟩⟩⟩⟩⟩⟩⟩⟩
theorem fitc_16 : ∀ a ∈ [256, 257, 258, 259, 260, 261, 262, 263, 264, 265, 266, 267, 268, 269, 270, 271], FIT a := List.forall_mem_cons.mpr ⟨fit_256, List.forall_mem_cons.mpr ⟨fit_257, List.forall_mem_cons.mpr ⟨fit_258, List.forall_mem_cons.mpr ⟨fit_259, List.forall_mem_cons.mpr ⟨fit_260, List.forall_mem_cons.mpr ⟨fit_261, List.forall_mem_cons.mpr ⟨fit_262, List.forall_mem_cons.mpr ⟨fit_263, List.forall_mem_cons.mpr ⟨fit_264, List.forall_mem_cons.mpr ⟨fit_265, List.forall_mem_cons.mpr ⟨fit_266, List.forall_mem_cons.mpr ⟨fit_267, List.forall_mem_cons.mpr ⟨fit_268, List.forall_mem_cons.mpr ⟨fit_269, List.forall_mem_cons.mpr ⟨fit_270, List.forall_mem_cons.mpr ⟨fit_271, fun _ h => absurd h List.not_mem_nil⟩⟩⟩⟩⟩⟩⟩⟩⟩⟩⟩⟩⟩⟩⟩⟩
theorem fitc_17 : ∀ a ∈ [272, 273, 274, 275, 276, 277, 278, 279, 280, 281, 282, 283, 284, 285, 286, 287], FIT a := List.forall_mem_cons.mpr ⟨fit_272, List.forall_mem_cons.mpr ⟨fit_273, List.forall_mem_cons.mpr ⟨fit_274, List.forall_mem_cons.mpr ⟨fit_275, List.forall_mem_cons.mpr ⟨fit_276, List.forall_mem_cons.mpr ⟨fit_277, List.forall_mem_cons.mpr ⟨fit_278, List.forall_mem_cons.mpr ⟨fit_279, List.forall_mem_cons.mpr ⟨fit_280, List.forall_mem_cons.mpr ⟨fit_281, List.forall_mem_cons.mpr ⟨fit_282, List.forall_mem_cons.mpr ⟨fit_283, List.forall_mem_cons.mpr ⟨fit_284, List.forall_mem_cons.mpr ⟨fit_285, List.forall_mem_cons.mpr ⟨fit_286, List.forall_mem_cons.mpr ⟨fit_287, fun _ h => absurd h List.not_mem_nil⟩⟩⟩⟩⟩⟩⟩⟩⟩⟩⟩⟩⟩⟩⟩⟩
theorem fitc_18 : ∀ a ∈ [288], FIT a := List.forall_mem_cons.mpr ⟨fit_288, fun _ h => absurd h List.not_mem_nil⟩
theorem fit_all : ∀ a ∈ List.range 289, FIT a := by
  have e : List.range 289 = [0, 1, 2, 3, 4, 5, 6, 7, 8, 9, 10, 11, 12, 13, 14, 15] ++ ([16, 17, 18, 19, 20, 21, 22, 23, 24, 25, 26, 27, 28, 29, 30, 31] ++ ([32, 33, 34, 35, 36, 37, 38, 39, 40, 41, 42, 43, 44, 45, 46, 47] ++ ([48, 49, 50, 51, 52, 53, 54, 55, 56, 57, 58, 59, 60, 61, 62, 63] ++ ([64, 65, 66, 67, 68, 69, 70, 71, 72, 73, 74, 75, 76, 77, 78, 79] ++ ([80, 81, 82, 83, 84, 85, 86, 87, 88, 89, 90, 91, 92, 93, 94, 95] ++ ([96, 97, 98, 99, 100, 101, 102, 103, 104, 105, 106, 107, 108, 109, 110, 111] ++ ([112, 113, 114, 115, 116, 117, 118, 119, 120, 121, 122, 123, 124, 125, 126, 127] ++ ([128, 129, 130, 131, 132, 133, 134, 135, 136, 137, 138, 139, 140, 141, 142, 143] ++ ([144, 145, 146, 147, 148, 149, 150, 151, 152, 153, 154, 155, 156, 157, 158, 159] ++ ([160, 161, 162, 163, 164, 165, 166, 167, 168, 169, 170, 171, 172, 173, 174, 175] ++ ([176, 177, 178, 179, 180, 181, 182, 183, 184, 185, 186, 187, 188, 189, 190, 191] ++ ([192, 193, 194, 195, 196, 197, 198, 199, 200, 201, 202, 203, 204, 205, 206, 207] ++ ([208, 209, 210, 211, 212, 213, 214, 215, 216, 217, 218, 219, 220, 221, 222, 223] ++ ([224, 225, 226, 227, 228, 229, 230, 231, 232, 233, 234, 235, 236, 237, 238, 239] ++ ([240, 241, 242, 243, 244, 245, 246, 247, 248, 249, 250, 251, 252, 253, 254, 255] ++ ([256, 257, 258, 259, 260, 261, 262, 263, 264, 265, 266, 267, 268, 269, 270, 271] ++ ([272, 273, 274, 275, 276, 277, 278, 279, 280, 281, 282, 283, 284, 285, 286, 287] ++ ([288])))))))))))))))))) := by decide +kernel
  rw [e]
  exact List.forall_mem_append.mpr ⟨fitc_0, List.forall_mem_append.mpr ⟨fitc_1, List.forall_mem_append.mpr ⟨fitc_2, List.forall_mem_append.mpr ⟨fitc_3, List.forall_mem_append.mpr ⟨fitc_4, List.forall_mem_append.mpr ⟨fitc_5, List.forall_mem_append.mpr ⟨fitc_6, List.forall_mem_append.mpr ⟨fitc_7, List.forall_mem_append.mpr ⟨fitc_8, List.forall_mem_append.mpr ⟨fitc_9, List.forall_mem_append.mpr ⟨fitc_10, List.forall_mem_append.mpr ⟨fitc_11, List.forall_mem_append.mpr ⟨fitc_12, List.forall_mem_append.mpr ⟨fitc_13, List.forall_mem_append.mpr ⟨fitc_14, List.forall_mem_append.mpr ⟨fitc_15, List.forall_mem_append.mpr ⟨fitc_16, List.forall_mem_append.mpr ⟨fitc_17, fitc_18⟩⟩⟩⟩⟩⟩⟩⟩⟩⟩⟩⟩⟩⟩⟩⟩⟩⟩
end
section
/-! THE ABSTRACT MACHINE: the class's and the reference's methods as a program over numbered objects. A cell is (class, number, 0) for an object, (class, number, k + 1) for the array that its field k holds. -/
abbrev AV : Type := Int32 ⊕ (Int64 ⊕ (Nat × Nat × Nat))
abbrev ST : Type := (Nat → Nat → Nat → Int32) × (Nat → Nat → Nat → Int64) × (Nat → Nat → Nat → Nat) × (Nat → Nat → Nat → Nat → Int32) × (Nat → Nat → Nat → Nat → Int64)
abbrev LV : Type := List (Option AV)
abbrev RS : Type := Option (Option AV × ST)
abbrev KT : Type := Nat → LV → List AV → ST → RS
abbrev CT : Type := Nat → List AV → ST → RS
abbrev vI (x : Int32) : AV := .inl x
abbrev vL (x : Int64) : AV := .inr (.inl x)
abbrev vR (c o k : Nat) : AV := .inr (.inr (c, o, k))
def gI (σ : ST) (c o k : Nat) : Int32 := σ.1 c o k
def gL (σ : ST) (c o k : Nat) : Int64 := σ.2.1 c o k
def gR (σ : ST) (c o k : Nat) : Nat := σ.2.2.1 c o k
def gA (σ : ST) (c o k : Nat) : Nat → Int32 := σ.2.2.2.1 c o k
def gB (σ : ST) (c o k : Nat) : Nat → Int64 := σ.2.2.2.2 c o k
def u3 {α : Type} (f : Nat → Nat → Nat → α) (c o k : Nat) (v : α) : Nat → Nat → Nat → α := fun a b d => if a = c ∧ b = o ∧ d = k then v else f a b d
def sI (σ : ST) (c o k : Nat) (v : Int32) : ST := (u3 σ.1 c o k v, σ.2)
def sL (σ : ST) (c o k : Nat) (v : Int64) : ST := (σ.1, u3 σ.2.1 c o k v, σ.2.2)
def sR (σ : ST) (c o k : Nat) (v : Nat) : ST := (σ.1, σ.2.1, u3 σ.2.2.1 c o k v, σ.2.2.2)
def sA (σ : ST) (c o k : Nat) (v : Nat → Int32) : ST := (σ.1, σ.2.1, σ.2.2.1, u3 σ.2.2.2.1 c o k v, σ.2.2.2.2)
def sB (σ : ST) (c o k : Nat) (v : Nat → Int64) : ST := (σ.1, σ.2.1, σ.2.2.1, σ.2.2.2.1, u3 σ.2.2.2.2 c o k v)
/-- arrays by class and field: kind (0 int, 1 long, 2 byte, 3 boolean, 4 laws) and length -/
def arT : List (List (Nat × Nat)) := [[(9, 0), (0, 6), (1, 7), (1, 64), (9, 0), (9, 0), (9, 0)], [(0, 20), (0, 20), (0, 20), (0, 20), (0, 20), (0, 20), (9, 0)], [(9, 0), (9, 0), (9, 0), (9, 0), (9, 0), (0, 6), (0, 6), (0, 6), (0, 6), (4, 3), (9, 0)], [(0, 64), (9, 0)], [(0, 36), (9, 0), (9, 0), (9, 0), (9, 0), (9, 0), (9, 0), (9, 0)], [(9, 0), (9, 0), (0, 6), (0, 6), (0, 6), (0, 2), (0, 2), (0, 2)], [(9, 0), (0, 72), (9, 0), (9, 0), (9, 0), (9, 0), (9, 0), (9, 0), (9, 0), (9, 0)], [(0, 36), (3, 6), (0, 6), (0, 6), (9, 0), (9, 0), (9, 0), (9, 0), (9, 0)], [(0, 6), (0, 6), (9, 0), (9, 0)], [(0, 19), (2, 700), (9, 0), (9, 0), (9, 0), (9, 0), (9, 0), (9, 0)], [(0, 24), (0, 24), (0, 24), (0, 24), (3, 24), (3, 24), (9, 0), (9, 0)], [(9, 0), (9, 0), (9, 0), (9, 0), (9, 0), (9, 0), (9, 0), (9, 0), (9, 0), (9, 0), (9, 0), (9, 0)], [(0, 700), (9, 0), (9, 0), (0, 97), (9, 0), (9, 0), (9, 0), (9, 0), (9, 0), (9, 0), (9, 0), (9, 0), (9, 0), (9, 0), (9, 0), (9, 0), (9, 0), (9, 0), (3, 2), (0, 4), (0, 12), (0, 12), (0, 12), (0, 12), (0, 12), (0, 12), (0, 4), (3, 6), (0, 6), (0, 6), (0, 128), (0, 128), (0, 128), (0, 96), (0, 96), (9, 0), (9, 0), (9, 0), (9, 0), (9, 0), (9, 0), (1, 7), (1, 64), (9, 0), (0, 12), (0, 12), (0, 12), (0, 4), (0, 4), (0, 4), (0, 2), (9, 0), (9, 0), (9, 0), (9, 0), (9, 0), (9, 0), (9, 0), (9, 0), (9, 0), (9, 0), (9, 0), (0, 6), (9, 0), (9, 0), (9, 0), (0, 6), (9, 0), (9, 0), (0, 120), (3, 24), (0, 6), (9, 0), (0, 480), (9, 0), (0, 24), (9, 0), (9, 0)]]
def ar (c k : Nat) : Nat × Nat := (arT.getD c []).getD k (9, 0)
/-- objects that final fields hold -/
def sub (c o k : Nat) : Nat × Nat × Nat := match c, k with
  | 0, 0 => (5, o, 0)
  | 2, 10 => (5, 3 + o, 0)
  | 6, 0 => (9, 0, 0)
  | 11, 0 => (9, 0, 0)
  | 11, 1 => (6, 0, 0)
  | 11, 3 => (0, 0, 0)
  | 11, 4 => (0, 1, 0)
  | 11, 5 => (5, 2, 0)
  | 11, 7 => (1, 0, 0)
  | 11, 8 => (10, 0, 0)
  | 11, 9 => (7, 0, 0)
  | 11, 10 => (4, 0, 0)
  | 11, 11 => (8, 0, 0)
  | _, _ => (99, 0, 0)
def klf : Option AV → Option AV
  | some (.inr (.inl _)) => none
  | x => x
def sto : LV → Nat → AV → LV
  | [], _, _ => []
  | _ :: r, 0, v => some v :: r
  | x :: r, 1, v => klf x :: sto r 0 v
  | x :: r, i + 2, v => x :: sto r (i + 1) v
def stoL : LV → Nat → Int64 → LV
  | [], _, _ => []
  | _ :: [], 0, _ => [none]
  | _ :: _ :: r, 0, v => some (vL v) :: none :: r
  | x :: r, 1, v => klf x :: stoL r 0 v
  | x :: r, i + 2, v => x :: stoL r (i + 1) v
def catV : AV → Nat
  | .inr (.inl _) => 2
  | _ => 1
def catS : List AV → Nat
  | [] => 0
  | v :: r => catV v + catS r
def spl : Nat → List AV → List AV → Option (List AV × List AV)
  | 0, st, acc => some (acc, st)
  | n + 1, v :: st, acc => spl n st (v :: acc)
  | _ + 1, [], _ => none
def ent1 : List AV → LV
  | [] => []
  | .inr (.inl x) :: r => some (vL x) :: none :: ent1 r
  | v :: r => some v :: ent1 r
def ent (M : Nat) (as : List AV) : LV := ent1 as ++ List.replicate (mL M - (ent1 as).length) none
/-- the top of the stack -/
def aI (st : List AV) (f : Int32 → List AV → RS) : RS := match st with
  | .inl x :: r => f x r
  | _ => none
def aL (st : List AV) (f : Int64 → List AV → RS) : RS := match st with
  | .inr (.inl x) :: r => f x r
  | _ => none
def aR (st : List AV) (f : Nat × Nat × Nat → List AV → RS) : RS := match st with
  | .inr (.inr t) :: r => f t r
  | _ => none
def aO (st : List AV) (f : Nat → Nat → List AV → RS) : RS := match st with
  | .inr (.inr (c, o, 0)) :: r => f c o r
  | _ => none
def aX (st : List AV) (f : Nat → Nat → Nat → List AV → RS) : RS := match st with
  | .inr (.inr (c, o, j + 1)) :: r => f c o j r
  | _ => none
def a1 (st : List AV) (f : AV → List AV → RS) : RS := match st with
  | .inl x :: r => f (.inl x) r
  | .inr (.inr t) :: r => f (.inr (.inr t)) r
  | _ => none
def lI (lv : LV) (a : Nat) (f : Int32 → RS) : RS := match lv[a]? with
  | some (some (.inl x)) => f x
  | _ => none
def lL (lv : LV) (a : Nat) (f : Int64 → RS) : RS := match lv[a]? with
  | some (some (.inr (.inl x))) => f x
  | _ => none
def lR (lv : LV) (a : Nat) (f : Nat × Nat × Nat → RS) : RS := match lv[a]? with
  | some (some (.inr (.inr t))) => f t
  | _ => none
/-- constants, locals -/
def st0 (k : KT) (i s : Nat) (im : Int) (a : Nat) (lv : LV) (st : List AV) (σ : ST) : RS := match s with
  | 0 => k (i + 1) lv (vI (Int32.ofInt im) :: st) σ
  | 1 => k (i + 1) lv (vL (Int64.ofInt im) :: st) σ
  | 2 => lI lv a fun x => k (i + 1) lv (vI x :: st) σ
  | 3 => lL lv a fun x => k (i + 1) lv (vL x :: st) σ
  | 4 => lR lv a fun t => k (i + 1) lv (.inr (.inr t) :: st) σ
  | 5 => aI st fun x r => k (i + 1) (sto lv a (vI x)) r σ
  | 6 => aL st fun x r => k (i + 1) (stoL lv a x) r σ
  | 7 => aR st fun t r => k (i + 1) (sto lv a (.inr (.inr t))) r σ
  | 8 => lI lv a fun x => k (i + 1) (sto lv a (vI (x + Int32.ofInt im))) st σ
  | _ => none
/-- numbers of 32 bits; conversions -/
def st1 (k : KT) (i s : Nat) (lv : LV) (st : List AV) (σ : ST) : RS := match s with
  | 0 => aI st fun y r => aI r fun x r => k (i + 1) lv (vI (x + y) :: r) σ
  | 1 => aI st fun y r => aI r fun x r => k (i + 1) lv (vI (x - y) :: r) σ
  | 2 => aI st fun y r => aI r fun x r => k (i + 1) lv (vI (x * y) :: r) σ
  | 3 => aI st fun y r => aI r fun x r => k (i + 1) lv (vI (x &&& y) :: r) σ
  | 4 => aI st fun y r => aI r fun x r => k (i + 1) lv (vI (x ||| y) :: r) σ
  | 5 => aI st fun y r => aI r fun x r => k (i + 1) lv (vI (x ^^^ y) :: r) σ
  | 6 => aI st fun y r => aI r fun x r => k (i + 1) lv (vI (x <<< (y &&& 31)) :: r) σ
  | 7 => aI st fun y r => aI r fun x r => k (i + 1) lv (vI (x >>> (y &&& 31)) :: r) σ
  | 8 => aI st fun y r => aI r fun x r => k (i + 1) lv (vI ((x.toUInt32 >>> (y.toUInt32 &&& Int32.toUInt32 31)).toInt32) :: r) σ
  | 9 => aI st fun y r => aI r fun x r => if y = 0 then none else k (i + 1) lv (vI (x / y) :: r) σ
  | 10 => aI st fun y r => aI r fun x r => if y = 0 then none else k (i + 1) lv (vI (x - x / y * y) :: r) σ
  | 11 => aI st fun x r => k (i + 1) lv (vI (-x) :: r) σ
  | 12 => aI st fun x r => k (i + 1) lv (vL x.toInt64 :: r) σ
  | 13 => aL st fun x r => k (i + 1) lv (vI x.toInt32 :: r) σ
  | 14 => aI st fun x r => k (i + 1) lv (vI x.toInt8.toInt32 :: r) σ
  | _ => none
/-- numbers of 64 bits -/
def st2 (k : KT) (i s : Nat) (lv : LV) (st : List AV) (σ : ST) : RS := match s with
  | 0 => aL st fun y r => aL r fun x r => k (i + 1) lv (vL (x + y) :: r) σ
  | 1 => aL st fun y r => aL r fun x r => k (i + 1) lv (vL (x - y) :: r) σ
  | 2 => aL st fun y r => aL r fun x r => k (i + 1) lv (vL (x * y) :: r) σ
  | 3 => aL st fun y r => aL r fun x r => k (i + 1) lv (vL (x &&& y) :: r) σ
  | 4 => aL st fun y r => aL r fun x r => if y = 0 then none else k (i + 1) lv (vL (x / y) :: r) σ
  | 5 => aL st fun y r => aL r fun x r => if y = 0 then none else k (i + 1) lv (vL (x - x / y * y) :: r) σ
  | 6 => aL st fun x r => k (i + 1) lv (vL (-x) :: r) σ
  | 7 => aL st fun y r => aL r fun x r => k (i + 1) lv (vI (lg_cmp x y) :: r) σ
  | _ => none
def st3 (k : KT) (i s : Nat) (lv : LV) (st : List AV) (σ : ST) : RS := match s with
  | 0 => a1 st fun v r => k (i + 1) lv (v :: v :: r) σ
  | 1 => a1 st fun v r => a1 r fun w r => k (i + 1) lv (v :: w :: v :: w :: r) σ
  | 2 => a1 st fun _ r => k (i + 1) lv r σ
  | _ => none
def tsw (k : KT) (lv : LV) (st : List AV) (σ : ST) (x : Int32) (d : Nat) : List Nat → Int → RS
  | [], _ => k d lv st σ
  | t :: r, n => if x = Int32.ofInt n then k t lv st σ else tsw k lv st σ x d r (n + 1)
/-- branches -/
def st4 (k : KT) (i s : Nat) (im : Int) (a b : Nat) (lv : LV) (st : List AV) (σ : ST) : RS := match s with
  | 0 => aI st fun x r => if x = 0 then k a lv r σ else k (i + 1) lv r σ
  | 1 => aI st fun x r => if x = 0 then k (i + 1) lv r σ else k a lv r σ
  | 2 => aI st fun x r => if x < 0 then k a lv r σ else k (i + 1) lv r σ
  | 3 => aI st fun x r => if x < 0 then k (i + 1) lv r σ else k a lv r σ
  | 4 => aI st fun x r => if 0 < x then k a lv r σ else k (i + 1) lv r σ
  | 5 => aI st fun x r => if 0 < x then k (i + 1) lv r σ else k a lv r σ
  | 6 => aI st fun y r => aI r fun x r => if x = y then k a lv r σ else k (i + 1) lv r σ
  | 7 => aI st fun y r => aI r fun x r => if x = y then k (i + 1) lv r σ else k a lv r σ
  | 8 => aI st fun y r => aI r fun x r => if x < y then k a lv r σ else k (i + 1) lv r σ
  | 9 => aI st fun y r => aI r fun x r => if x < y then k (i + 1) lv r σ else k a lv r σ
  | 10 => aI st fun y r => aI r fun x r => if y < x then k a lv r σ else k (i + 1) lv r σ
  | 11 => aI st fun y r => aI r fun x r => if y < x then k (i + 1) lv r σ else k a lv r σ
  | 12 => k a lv st σ
  | 13 => aI st fun x r => tsw k lv r σ x a (sw b).1 im
  | _ => none
/-- arrays -/
def st5 (k : KT) (i s : Nat) (lv : LV) (st : List AV) (σ : ST) : RS := match s with
  | 0 => aI st fun x r => aX r fun c o j r => if (ar c j).1 = 0 then (if x < 0 ∨ (ar c j).2 ≤ x.toNatClampNeg then none else k (i + 1) lv (vI (gA σ c o j x.toNatClampNeg) :: r) σ) else none
  | 1 => aI st fun x r => aX r fun c o j r => if (ar c j).1 = 2 ∨ (ar c j).1 = 3 then (if x < 0 ∨ (ar c j).2 ≤ x.toNatClampNeg then none else k (i + 1) lv (vI (gA σ c o j x.toNatClampNeg) :: r) σ) else none
  | 2 => aI st fun x r => aX r fun c o j r => if (ar c j).1 = 1 then (if x < 0 ∨ (ar c j).2 ≤ x.toNatClampNeg then none else k (i + 1) lv (vL (gB σ c o j x.toNatClampNeg) :: r) σ) else none
  | 3 => aI st fun x r => aX r fun c o j r => if (ar c j).1 = 4 then (if x < 0 ∨ (ar c j).2 ≤ x.toNatClampNeg then none else k (i + 1) lv (vR 3 (3 * o + x.toNatClampNeg) 0 :: r) σ) else none
  | 4 => aI st fun v r => aI r fun x r => aX r fun c o j r => if (ar c j).1 = 0 then (if x < 0 ∨ (ar c j).2 ≤ x.toNatClampNeg then none else k (i + 1) lv r (sA σ c o j (upd (gA σ c o j) x.toNatClampNeg v))) else none
  | 5 => aI st fun v r => aI r fun x r => aX r fun c o j r => if (ar c j).1 = 2 then (if x < 0 ∨ (ar c j).2 ≤ x.toNatClampNeg then none else k (i + 1) lv r (sA σ c o j (upd (gA σ c o j) x.toNatClampNeg (vp_nar .byte v)))) else if (ar c j).1 = 3 then (if x < 0 ∨ (ar c j).2 ≤ x.toNatClampNeg then none else k (i + 1) lv r (sA σ c o j (upd (gA σ c o j) x.toNatClampNeg (vp_nar .boolean v)))) else none
  | 6 => aL st fun v r => aI r fun x r => aX r fun c o j r => if (ar c j).1 = 1 then (if x < 0 ∨ (ar c j).2 ≤ x.toNatClampNeg then none else k (i + 1) lv r (sB σ c o j (vp_updL (gB σ c o j) x.toNatClampNeg v))) else none
  | 7 => aX st fun c _ j r => if (ar c j).1 < 5 then k (i + 1) lv (vI (Int32.ofNat (ar c j).2) :: r) σ else none
  | _ => none
/-- fields -/
def st6 (k : KT) (i s a b : Nat) (lv : LV) (st : List AV) (σ : ST) : RS := aO st fun c o r => if c = a then (match s % 10 with
    | 0 => k (i + 1) lv (vI (gI σ a o b) :: r) σ
    | 1 => k (i + 1) lv (vI (gI σ a o b) :: r) σ
    | 2 => k (i + 1) lv (vR a o (b + 1) :: r) σ
    | 3 => k (i + 1) lv (.inr (.inr (sub a o b)) :: r) σ
    | 4 => k (i + 1) lv (vR 2 (gR σ a o b) 0 :: r) σ
    | 5 => k (i + 1) lv (vL (gL σ a o b) :: r) σ
    | _ => none) else none
def st7 (k : KT) (i s a b : Nat) (lv : LV) (st : List AV) (σ : ST) : RS := match s with
  | 0 => aI st fun v r => aO r fun c o r => if c = a then k (i + 1) lv r (sI σ a o b v) else none
  | 1 => aI st fun v r => aO r fun c o r => if c = a then (if v = 0 ∨ v = 1 then k (i + 1) lv r (sI σ a o b v) else none) else none
  | 4 => aO st fun d g r => aO r fun c o r => if c = a then (if d = 2 then k (i + 1) lv r (sR σ a o b g) else none) else none
  | 5 => aL st fun v r => aO r fun c o r => if c = a then k (i + 1) lv r (sL σ a o b v) else none
  | _ => none
/-- System.arraycopy of ints -/
def cpo (k : KT) (i : Nat) (lv : LV) (st : List AV) (σ : ST) : RS := aI st fun n r => aI r fun dp r => aX r fun c o j r => aI r fun sp r => aX r fun c0 o0 j0 r =>
    if (ar c j).1 = 0 ∧ (ar c0 j0).1 = 0 ∧ catS r ≤ 8 then
      (if sp < 0 ∨ dp < 0 ∨ n < 0 ∨ (ar c0 j0).2 < sp.toNatClampNeg + n.toNatClampNeg ∨ (ar c j).2 < dp.toNatClampNeg + n.toNatClampNeg then none
       else k (i + 1) lv r (sA σ c o j (va_cpy (gA σ c0 o0 j0) (gA σ c o j) sp.toNatClampNeg dp.toNatClampNeg n.toNatClampNeg))) else none
/-- calls: a receiver is of the method's own class -/
def rcv (s a : Nat) (as : List AV) : Bool := match s, as with
  | 0, .inr (.inr (c, _, 0)) :: _ => decide (c = mO a)
  | 0, _ => false
  | _, _ => true
def st8 (cal : CT) (k : KT) (i s a b : Nat) (lv : LV) (st : List AV) (σ : ST) : RS := if s = 4 then cpo k i lv st σ else match spl b st [] with
  | none => none
  | some (as, r) => if rcv s a as = true ∧ catS r ≤ 8 then (match cal a as σ with
    | none => none
    | some (v, σ') => k (i + 1) lv (v.toList ++ r) σ') else none
def aE (st : List AV) (x : RS) : RS := match st with
  | [] => x
  | _ => none
def st9 (s : Nat) (st : List AV) (σ : ST) : RS := match s with
  | 0 => aI st fun x r => aE r (some (some (vI x), σ))
  | 1 => aI st fun x r => aE r (if x = 0 ∨ x = 1 then some (some (vI x), σ) else none)
  | 2 => aL st fun x r => aE r (some (some (vL x), σ))
  | 3 => aR st fun t r => aE r (some (some (.inr (.inr t)), σ))
  | 4 => aE st (some (none, σ))
  | _ => none
/-- one step, then k -/
def stp (cal : CT) (k : KT) (i : Nat) (op : OP) (lv : LV) (st : List AV) (σ : ST) : RS := match op with
  | (0, s, _, im, a, _) => st0 k i s im a lv st σ
  | (1, s, _, _, _, _) => st1 k i s lv st σ
  | (2, s, _, _, _, _) => st2 k i s lv st σ
  | (3, s, _, _, _, _) => st3 k i s lv st σ
  | (4, s, _, im, a, b) => st4 k i s im a b lv st σ
  | (5, s, _, _, _, _) => st5 k i s lv st σ
  | (6, s, _, _, a, b) => st6 k i s a b lv st σ
  | (7, s, _, _, a, b) => st7 k i s a b lv st σ
  | (8, s, _, _, a, b) => st8 cal k i s a b lv st σ
  | (9, s, _, _, _, _) => st9 s st σ
  | _ => none
def ex (cal : CT) (C : List OP) : Nat → KT
  | 0 => fun _ _ _ _ => none
  | f + 1 => fun i lv st σ => match C[i]? with
    | none => none
    | some op => stp cal (ex cal C f) i op lv st σ
/-- a method, by fuel -/
def exM : Nat → CT
  | 0 => fun _ _ _ => none
  | f + 1 => fun M as σ => if (ent1 as).length ≤ mL M then ex (exM f) (cod M) (f + 1) 0 (ent M as) [] σ else none
end
section
/-! THE WORLD: the machine's cells as the abstract state says -/
def cts : List (Nat × Nat × Nat) := [(0, 0, 0), (0, 0, 2), (0, 0, 3), (0, 0, 4), (0, 1, 0), (0, 1, 2), (0, 1, 3), (0, 1, 4), (1, 0, 0), (1, 0, 1), (1, 0, 2), (1, 0, 3), (1, 0, 4), (1, 0, 5), (1, 0, 6), (2, 0, 0), (2, 0, 6), (2, 0, 7), (2, 0, 8), (2, 0, 9), (2, 0, 10), (2, 1, 0), (2, 1, 6), (2, 1, 7), (2, 1, 8), (2, 1, 9), (2, 1, 10), (3, 0, 0), (3, 0, 1), (3, 1, 0), (3, 1, 1), (3, 2, 0), (3, 2, 1), (3, 3, 0), (3, 3, 1), (3, 4, 0), (3, 4, 1), (3, 5, 0), (3, 5, 1), (4, 0, 0), (4, 0, 1), (5, 0, 0), (5, 0, 3), (5, 0, 4), (5, 0, 5), (5, 0, 6), (5, 0, 7), (5, 0, 8), (5, 1, 0), (5, 1, 3), (5, 1, 4), (5, 1, 5), (5, 1, 6), (5, 1, 7), (5, 1, 8), (5, 2, 0), (5, 2, 3), (5, 2, 4), (5, 2, 5), (5, 2, 6), (5, 2, 7), (5, 2, 8), (5, 3, 0), (5, 3, 3), (5, 3, 4), (5, 3, 5), (5, 3, 6), (5, 3, 7), (5, 3, 8), (5, 4, 0), (5, 4, 3), (5, 4, 4), (5, 4, 5), (5, 4, 6), (5, 4, 7), (5, 4, 8), (6, 0, 0), (6, 0, 2), (7, 0, 0), (7, 0, 1), (7, 0, 2), (7, 0, 3), (7, 0, 4), (8, 0, 0), (8, 0, 1), (8, 0, 2), (9, 0, 0), (9, 0, 1), (9, 0, 2), (10, 0, 0), (10, 0, 1), (10, 0, 2), (10, 0, 3), (10, 0, 4), (10, 0, 5), (10, 0, 6), (11, 0, 0), (12, 0, 0), (12, 0, 1), (12, 0, 4), (12, 0, 19), (12, 0, 20), (12, 0, 21), (12, 0, 22), (12, 0, 23), (12, 0, 24), (12, 0, 25), (12, 0, 26), (12, 0, 27), (12, 0, 28), (12, 0, 29), (12, 0, 30), (12, 0, 31), (12, 0, 32), (12, 0, 33), (12, 0, 34), (12, 0, 35), (12, 0, 42), (12, 0, 43), (12, 0, 45), (12, 0, 46), (12, 0, 47), (12, 0, 48), (12, 0, 49), (12, 0, 50), (12, 0, 51), (12, 0, 63), (12, 0, 67), (12, 0, 70), (12, 0, 71), (12, 0, 72), (12, 0, 74), (12, 0, 76)]
def conc (ρ : Nat × Nat × Nat → Nat) : AV → Value
  | .inl x => .int x
  | .inr (.inl x) => .long x
  | .inr (.inr t) => .ref (ρ t)
def fldV (ρ : Nat × Nat × Nat → Nat) (σ : ST) (c o k : Nat) : Value := match fty c k with
  | 0 => .int (gI σ c o k)
  | 1 => .int (gI σ c o k)
  | 5 => .long (gL σ c o k)
  | 2 => .ref (ρ (c, o, k + 1))
  | 3 => .ref (ρ (sub c o k))
  | _ => .ref (ρ (2, gR σ c o k, 0))
def aco (ρ : Nat × Nat × Nat → Nat) (σ : ST) (c o j : Nat) : (Nat → Int32) ⊕ (Nat → Int64) ⊕ (Nat → UInt32) ⊕ (Nat → UInt64) ⊕ (Nat → Option Nat) := match (ar c j).1 with
  | 1 => .inr (.inl (gB σ c o j))
  | 4 => .inr (.inr (.inr (.inr (fun i => some (ρ (3, 3 * o + i, 0))))))
  | _ => .inl (gA σ c o j)
def cel (ρ : Nat × Nat × Nat → Nat) (q : Nat → ClassId) (σ : ST) (t : Nat × Nat × Nat) : va_E := match t with
  | (c, o, 0) => .inr (c, (List.range (cNn c)).map (fldV ρ σ c o))
  | (c, o, j + 1) => .inl (q (ar c j).1, (ar c j).2, aco ρ σ c o j)
def wld (ρ : Nat × Nat × Nat → Nat) (q : Nat → ClassId) (σ : ST) : va_W := cts.map (fun t => (ρ t, cel ρ q σ t))
abbrev tyq (q : Nat → ClassId) : List (ClassId × FieldType) := [(q 0, .int), (q 1, .long), (q 2, .byte), (q 3, .boolean), (q 4, .object "RibbonRun$Law")]
def okv : AV → Prop
  | .inr (.inr t) => t ∈ cts
  | _ => True
def okR (σ : ST) : Prop := ∀ c o k, fty c k = 4 → (c, o, 0) ∈ cts → (2, gR σ c o k, 0) ∈ cts
def Aw (ρ : Nat × Nat × Nat → Nat) (sz : Nat) : Nat → Prop := fun x => (∃ t ∈ cts, ρ t = x) ∨ sz ≤ x
theorem cts_nd : cts.Nodup := by decide +kernel
theorem cts_inj {i j : Nat} {t : Nat × Nat × Nat} (hi : cts[i]? = some t) (hj : cts[j]? = some t) : i = j := by
  have hl := (List.getElem?_eq_some_iff.mp hi).1
  exact (List.getElem?_inj hl cts_nd).mp (hi.trans hj.symm)
section WLD
variable {ρ : Nat × Nat × Nat → Nat} {q : Nat → ClassId} {σ : ST}
theorem wld_at {t : Nat × Nat × Nat} {n : Nat} (h : cts[n]? = some t) : (wld ρ q σ)[n]? = some (ρ t, cel ρ q σ t) := by
  rw [wld, List.getElem?_map, h]
  rfl
theorem wld_of {n : Nat} {x : Nat × va_E} (h : (wld ρ q σ)[n]? = some x) : ∃ t, cts[n]? = some t ∧ x = (ρ t, cel ρ q σ t) := by
  rw [wld, List.getElem?_map] at h
  cases hm : cts[n]? with
  | none => rw [hm] at h; cases h
  | some t => rw [hm] at h; cases h; exact ⟨t, rfl, rfl⟩
theorem wld_get {t : Nat × Nat × Nat} (h : t ∈ cts) : ∃ n : Nat, cts[n]? = some t ∧ (wld ρ q σ)[n]? = some (ρ t, cel ρ q σ t) := by
  obtain ⟨n, hn⟩ := List.getElem?_of_mem h
  exact ⟨n, hn, wld_at hn⟩
theorem wld_set {σ' : ST} {n : Nat} {t : Nat × Nat × Nat} (h : cts[n]? = some t) (hc : ∀ t', t' ≠ t → cel ρ q σ' t' = cel ρ q σ t') : (wld ρ q σ).set n (ρ t, cel ρ q σ' t) = wld ρ q σ' := by
  have hl : n < (wld ρ q σ).length := (List.getElem?_eq_some_iff.mp (wld_at (ρ := ρ) (q := q) (σ := σ) h)).1
  apply List.ext_getElem?
  intro m
  by_cases hm : m = n
  · subst hm
    rw [List.getElem?_set_self hl, wld_at h]
  · rw [List.getElem?_set_ne (Ne.symm hm)]
    cases hx : cts[m]? with
    | none => rw [wld, wld, List.getElem?_map, List.getElem?_map, hx]; rfl
    | some t' =>
      rw [wld_at hx, wld_at hx, hc t' (fun z => hm (cts_inj (z ▸ hx) h))]
theorem wld_D {σ' : ST} {A B : Nat → Prop} (h : va_D A (wld ρ q σ)) (hB : ∀ t ∈ cts, B (ρ t)) : va_D B (wld ρ q σ') := by
  refine ⟨fun i j x y hi hj hxy => ?_, fun k x hk => ?_⟩
  · obtain ⟨t, h1, rfl⟩ := wld_of hi
    obtain ⟨u, h2, rfl⟩ := wld_of hj
    exact h.1 i j _ _ (wld_at h1) (wld_at h2) hxy
  · obtain ⟨t, h1, rfl⟩ := wld_of hk
    exact hB t (List.mem_of_getElem? h1)
theorem wld_DA {A : Nat → Prop} (h : va_D A (wld ρ q σ)) : ∀ t ∈ cts, A (ρ t) := fun t ht => by
  obtain ⟨n, h1, h2⟩ := wld_get (ρ := ρ) (q := q) (σ := σ) ht
  exact h.2 n _ h2
end WLD
theorem u3_s {α : Type} {f : Nat → Nat → Nat → α} {c o k : Nat} {v : α} : u3 f c o k v c o k = v := by simp [u3]
theorem u3_n {α : Type} {f : Nat → Nat → Nat → α} {c o k a b d : Nat} {v : α} (h : ¬ (a = c ∧ b = o ∧ d = k)) : u3 f c o k v a b d = f a b d := by simp [u3, h]
section CEL
variable {ρ : Nat × Nat × Nat → Nat} {q : Nat → ClassId} {σ : ST} {c o k : Nat}
theorem fs_set {f g : Nat → Value} {N : Nat} {v : Value} (hk : k < N) (hv : g k = v) (hg : ∀ j, j ≠ k → g j = f j) : ((List.range N).map f).set k v = (List.range N).map g := by
  apply List.ext_getElem?
  intro m
  by_cases hm : m = k
  · subst hm
    rw [List.getElem?_set_self (by simpa using hk), List.getElem?_map, List.getElem?_range hk]
    rw [← hv]; rfl
  · rw [List.getElem?_set_ne (Ne.symm hm), List.getElem?_map, List.getElem?_map]
    cases hx : (List.range N)[m]? with
    | none => rfl
    | some z =>
      have hz : z = m := by
        have h2 := List.getElem?_eq_some_iff.mp hx
        obtain ⟨h3, h4⟩ := h2
        rw [List.getElem_range] at h4
        exact h4.symm
      subst hz
      show some (f z) = some (g z)
      rw [hg z hm]
theorem fs_at {f : Nat → Value} {N : Nat} (hk : k < N) : ((List.range N).map f)[k]? = some (f k) := by
  rw [List.getElem?_map, List.getElem?_range hk]; rfl
theorem cel_sI {v : Int32} {t : Nat × Nat × Nat} (h : t ≠ (c, o, 0)) : cel ρ q (sI σ c o k v) t = cel ρ q σ t := by
  obtain ⟨a, b, d⟩ := t
  cases d with
  | zero =>
    have e : ∀ j, fldV ρ (sI σ c o k v) a b j = fldV ρ σ a b j := fun j => by
      have e1 : gI (sI σ c o k v) a b j = gI σ a b j := u3_n (fun z => h (by rw [z.1, z.2.1]))
      unfold fldV
      rw [e1]
      rfl
    show (Sum.inr (a, _) : va_E) = .inr (a, _)
    congr 2
    exact List.map_congr_left fun j _ => e j
  | succ d => rfl
theorem cel_sI' {v : Int32} (hk : k < cNn c) (hf : fty c k = 0 ∨ fty c k = 1) : (Sum.inr (c, ((List.range (cNn c)).map (fldV ρ σ c o)).set k (.int v)) : va_E) = cel ρ q (sI σ c o k v) (c, o, 0) := by
  show _ = (Sum.inr (c, (List.range (cNn c)).map (fldV ρ (sI σ c o k v) c o)) : va_E)
  congr 2
  refine fs_set hk ?_ (fun j hj => ?_)
  · have e1 : gI (sI σ c o k v) c o k = v := u3_s
    unfold fldV
    rcases hf with h | h <;> rw [h] <;> exact congrArg Value.int e1
  · have e1 : gI (sI σ c o k v) c o j = gI σ c o j := u3_n (fun z => hj z.2.2)
    unfold fldV
    rw [e1]
    rfl
theorem cel_sL {v : Int64} {t : Nat × Nat × Nat} (h : t ≠ (c, o, 0)) : cel ρ q (sL σ c o k v) t = cel ρ q σ t := by
  obtain ⟨a, b, d⟩ := t
  cases d with
  | zero =>
    have e : ∀ j, fldV ρ (sL σ c o k v) a b j = fldV ρ σ a b j := fun j => by
      have e1 : gL (sL σ c o k v) a b j = gL σ a b j := u3_n (fun z => h (by rw [z.1, z.2.1]))
      unfold fldV
      rw [e1]
      rfl
    show (Sum.inr (a, _) : va_E) = .inr (a, _)
    congr 2
    exact List.map_congr_left fun j _ => e j
  | succ d => rfl
theorem cel_sL' {v : Int64} (hk : k < cNn c) (hf : fty c k = 5) : (Sum.inr (c, ((List.range (cNn c)).map (fldV ρ σ c o)).set k (.long v)) : va_E) = cel ρ q (sL σ c o k v) (c, o, 0) := by
  show _ = (Sum.inr (c, (List.range (cNn c)).map (fldV ρ (sL σ c o k v) c o)) : va_E)
  congr 2
  refine fs_set hk ?_ (fun j hj => ?_)
  · have e1 : gL (sL σ c o k v) c o k = v := u3_s
    unfold fldV
    rw [hf]
    exact congrArg Value.long e1
  · have e1 : gL (sL σ c o k v) c o j = gL σ c o j := u3_n (fun z => hj z.2.2)
    unfold fldV
    rw [e1]
    rfl
theorem cel_sR {v : Nat} {t : Nat × Nat × Nat} (h : t ≠ (c, o, 0)) : cel ρ q (sR σ c o k v) t = cel ρ q σ t := by
  obtain ⟨a, b, d⟩ := t
  cases d with
  | zero =>
    have e : ∀ j, fldV ρ (sR σ c o k v) a b j = fldV ρ σ a b j := fun j => by
      have e1 : gR (sR σ c o k v) a b j = gR σ a b j := u3_n (fun z => h (by rw [z.1, z.2.1]))
      unfold fldV
      rw [e1]
      rfl
    show (Sum.inr (a, _) : va_E) = .inr (a, _)
    congr 2
    exact List.map_congr_left fun j _ => e j
  | succ d => rfl
theorem cel_sR' {v : Nat} (hk : k < cNn c) (hf : fty c k = 4) : (Sum.inr (c, ((List.range (cNn c)).map (fldV ρ σ c o)).set k (.ref (ρ (2, v, 0)))) : va_E) = cel ρ q (sR σ c o k v) (c, o, 0) := by
  show _ = (Sum.inr (c, (List.range (cNn c)).map (fldV ρ (sR σ c o k v) c o)) : va_E)
  congr 2
  refine fs_set hk ?_ (fun j hj => ?_)
  · have e1 : gR (sR σ c o k v) c o k = v := u3_s
    unfold fldV
    rw [hf]
    show Value.ref (ρ (2, gR (sR σ c o k v) c o k, 0)) = _
    rw [e1]
  · have e1 : gR (sR σ c o k v) c o j = gR σ c o j := u3_n (fun z => hj z.2.2)
    unfold fldV
    rw [e1]
    rfl
theorem cel_sA {v : Nat → Int32} {t : Nat × Nat × Nat} (h : t ≠ (c, o, k + 1)) : cel ρ q (sA σ c o k v) t = cel ρ q σ t := by
  obtain ⟨a, b, d⟩ := t
  cases d with
  | zero => rfl
  | succ d =>
    have e1 : gA (sA σ c o k v) a b d = gA σ a b d := u3_n (fun z => h (by rw [z.1, z.2.1, z.2.2]))
    show (Sum.inl (_, _, aco ρ (sA σ c o k v) a b d) : va_E) = .inl (_, _, aco ρ σ a b d)
    unfold aco
    rw [e1]
    rfl
theorem cel_sB {v : Nat → Int64} {t : Nat × Nat × Nat} (h : t ≠ (c, o, k + 1)) : cel ρ q (sB σ c o k v) t = cel ρ q σ t := by
  obtain ⟨a, b, d⟩ := t
  cases d with
  | zero => rfl
  | succ d =>
    have e1 : gB (sB σ c o k v) a b d = gB σ a b d := u3_n (fun z => h (by rw [z.1, z.2.1, z.2.2]))
    show (Sum.inl (_, _, aco ρ (sB σ c o k v) a b d) : va_E) = .inl (_, _, aco ρ σ a b d)
    unfold aco
    rw [e1]
    rfl
theorem cel_a (h : (ar c k).1 = 0 ∨ (ar c k).1 = 2 ∨ (ar c k).1 = 3) : cel ρ q σ (c, o, k + 1) = .inl (q (ar c k).1, (ar c k).2, .inl (gA σ c o k)) := by
  show (Sum.inl (_, _, aco ρ σ c o k) : va_E) = _
  unfold aco
  rcases h with h | h | h <;> rw [h] <;> rfl
theorem cel_b (h : (ar c k).1 = 1) : cel ρ q σ (c, o, k + 1) = .inl (q (ar c k).1, (ar c k).2, .inr (.inl (gB σ c o k))) := by
  show (Sum.inl (_, _, aco ρ σ c o k) : va_E) = _
  unfold aco
  rw [h]
  rfl
theorem cel_q (h : (ar c k).1 = 4) : cel ρ q σ (c, o, k + 1) = .inl (q (ar c k).1, (ar c k).2, .inr (.inr (.inr (.inr (fun i => some (ρ (3, 3 * o + i, 0))))))) := by
  show (Sum.inl (_, _, aco ρ σ c o k) : va_E) = _
  unfold aco
  rw [h]
  rfl
theorem cel_sA' {v : Nat → Int32} (h : (ar c k).1 = 0 ∨ (ar c k).1 = 2 ∨ (ar c k).1 = 3) : cel ρ q (sA σ c o k v) (c, o, k + 1) = .inl (q (ar c k).1, (ar c k).2, .inl v) := by
  rw [cel_a h, show gA (sA σ c o k v) c o k = v from u3_s]
theorem cel_sB' {v : Nat → Int64} (h : (ar c k).1 = 1) : cel ρ q (sB σ c o k v) (c, o, k + 1) = .inl (q (ar c k).1, (ar c k).2, .inr (.inl v)) := by
  rw [cel_b h, show gB (sB σ c o k v) c o k = v from u3_s]
end CEL
/-- what a cell names is a cell -/
def ctq (t : Nat × Nat × Nat) : Bool := decide (t.1 < 13) && (match t.2.2 with
  | 0 => (List.range (cNn t.1)).all (fun k => match fty t.1 k with
    | 2 => decide ((t.1, t.2.1, k + 1) ∈ cts)
    | 3 => decide (sub t.1 t.2.1 k ∈ cts)
    | _ => true)
  | j + 1 => decide ((t.1, t.2.1, 0) ∈ cts) && decide ((ar t.1 j).1 < 5) && (match (ar t.1 j).1 with
    | 4 => (List.range (ar t.1 j).2).all (fun i => decide ((3, 3 * t.2.1 + i, 0) ∈ cts))
    | _ => true))
theorem ctq_ok : ∀ t ∈ cts, ctq t = true := List.all_eq_true.mp (by decide +kernel)
theorem ct_cls {c o k : Nat} (h : (c, o, k) ∈ cts) : c < 13 := by
  have := ctq_ok _ h
  simp only [ctq, Bool.and_eq_true, decide_eq_true_eq] at this
  exact this.1
theorem ct_arr {c o k : Nat} (h : (c, o, 0) ∈ cts) (hk : k < cNn c) (hf : fty c k = 2) : (c, o, k + 1) ∈ cts := by
  have := ctq_ok _ h
  simp only [ctq, Bool.and_eq_true, List.all_eq_true] at this
  have h2 := this.2 k (List.mem_range.mpr hk)
  rw [hf] at h2
  exact of_decide_eq_true h2
theorem ct_sub {c o k : Nat} (h : (c, o, 0) ∈ cts) (hk : k < cNn c) (hf : fty c k = 3) : sub c o k ∈ cts := by
  have := ctq_ok _ h
  simp only [ctq, Bool.and_eq_true, List.all_eq_true] at this
  have h2 := this.2 k (List.mem_range.mpr hk)
  rw [hf] at h2
  exact of_decide_eq_true h2
theorem ct_law {c o j i : Nat} (h : (c, o, j + 1) ∈ cts) (ha : (ar c j).1 = 4) (hi : i < (ar c j).2) : (3, 3 * o + i, 0) ∈ cts := by
  have := ctq_ok _ h
  simp only [ctq, Bool.and_eq_true] at this
  have h2 := this.2.2
  rw [ha] at h2
  exact of_decide_eq_true (List.all_eq_true.mp h2 i (List.mem_range.mpr hi))
/-- the locals -/
def LR (ρ : Nat × Nat × Nat → Nat) (nL : Nat) (ls : Array Slot) (lv : LV) : Prop := lv.length = nL ∧ ls.size = nL ∧ lv_wf ls ∧ ∀ (i : Nat) (v : AV), lv[i]? = some (some v) → ls[i]? = some (.val (conc ρ v))
def prs (ρ : Nat × Nat × Nat → Nat) : Nat → LV → List (Nat × Value)
  | _, [] => []
  | n, some v :: r => (n, conc ρ v) :: prs ρ (n + 1) r
  | n, none :: r => prs ρ (n + 1) r
theorem prs_mem {ρ : Nat × Nat × Nat → Nat} : ∀ (lv : LV) (n : Nat) (x : Nat × Value), x ∈ prs ρ n lv ↔ ∃ (j : Nat) (v : AV), lv[j]? = some (some v) ∧ x = (n + j, conc ρ v)
  | [], n, x => by simp [prs]
  | some w :: r, n, x => by
    rw [prs, List.mem_cons, prs_mem r (n + 1) x]
    constructor
    · rintro (rfl | ⟨j, v, h1, rfl⟩)
      · exact ⟨0, w, rfl, rfl⟩
      · exact ⟨j + 1, v, by rw [List.getElem?_cons_succ]; exact h1, by rw [Nat.add_assoc, Nat.add_comm 1 j]⟩
    · rintro ⟨j, v, h1, rfl⟩
      cases j with
      | zero => rw [List.getElem?_cons_zero] at h1; cases h1; exact Or.inl rfl
      | succ j => rw [List.getElem?_cons_succ] at h1; exact Or.inr ⟨j, v, h1, by rw [Nat.add_assoc, Nat.add_comm 1 j]⟩
  | none :: r, n, x => by
    rw [prs, prs_mem r (n + 1) x]
    constructor
    · rintro ⟨j, v, h1, rfl⟩
      exact ⟨j + 1, v, by rw [List.getElem?_cons_succ]; exact h1, by rw [Nat.add_assoc, Nat.add_comm 1 j]⟩
    · rintro ⟨j, v, h1, rfl⟩
      cases j with
      | zero => rw [List.getElem?_cons_zero] at h1; cases h1
      | succ j => rw [List.getElem?_cons_succ] at h1; exact ⟨j, v, h1, by rw [Nat.add_assoc, Nat.add_comm 1 j]⟩
theorem LR.has {ρ : Nat × Nat × Nat → Nat} {nL : Nat} {ls : Array Slot} {lv : LV} (h : LR ρ nL ls lv) : lv_has ls nL (prs ρ 0 lv) := by
  refine ⟨h.2.1, h.2.2.1, fun x hx => ?_⟩
  obtain ⟨j, v, h1, rfl⟩ := (prs_mem lv 0 x).mp hx
  rw [Nat.zero_add]
  exact h.2.2.2 j v h1
theorem LR.of {ρ : Nat × Nat × Nat → Nat} {nL : Nat} {ls : Array Slot} {lv : LV} {l : List (Nat × Value)} (hn : lv.length = nL) (h : lv_has ls nL l) (hm : ∀ (j : Nat) (v : AV), lv[j]? = some (some v) → (j, conc ρ v) ∈ l) : LR ρ nL ls lv := ⟨hn, h.1, h.2.1, fun i v hv => h.2.2 (i, conc ρ v) (hm i v hv)⟩
theorem conc_cat {ρ : Nat × Nat × Nat → Nat} : ∀ v : AV, (conc ρ v).category = catV v
  | .inl _ => rfl
  | .inr (.inl _) => rfl
  | .inr (.inr _) => rfl
theorem catS_ok {ρ : Nat × Nat × Nat → Nat} : ∀ r : List AV, ((r.map (conc ρ)).map fun v => v.category).sum = catS r
  | [] => rfl
  | v :: r => by
    show (conc ρ v).category + ((r.map (conc ρ)).map fun v => v.category).sum = catV v + catS r
    rw [conc_cat, catS_ok r]
theorem klf_some {x : Option AV} {v : AV} (h : klf x = some v) : x = some v ∧ catV v = 1 := by
  match x, h with
  | some (.inl a), h => cases h; exact ⟨rfl, rfl⟩
  | some (.inr (.inr a)), h => cases h; exact ⟨rfl, rfl⟩
theorem sto_len : ∀ (lv : LV) (i : Nat) (v : AV), (sto lv i v).length = lv.length
  | [], _, _ => rfl
  | _ :: _, 0, _ => rfl
  | x :: r, 1, v => by rw [sto, List.length_cons, List.length_cons, sto_len r 0 v]
  | x :: r, i + 2, v => by rw [sto, List.length_cons, List.length_cons, sto_len r (i + 1) v]
theorem sto_get : ∀ (lv : LV) (i : Nat) (v : AV) (j : Nat) (w : AV), (sto lv i v)[j]? = some (some w) → (j = i ∧ w = v) ∨ (j ≠ i ∧ lv[j]? = some (some w) ∧ (j + 1 = i → catV w = 1))
  | [], _, _, _, _, h => by simp [sto] at h
  | x :: r, 0, v, 0, w, h => by
    rw [sto, List.getElem?_cons_zero] at h
    cases h
    exact Or.inl ⟨rfl, rfl⟩
  | x :: r, 0, v, j + 1, w, h => by
    rw [sto, List.getElem?_cons_succ] at h
    exact Or.inr ⟨by omega, by rw [List.getElem?_cons_succ]; exact h, fun z => by omega⟩
  | x :: r, 1, v, 0, w, h => by
    rw [sto, List.getElem?_cons_zero] at h
    obtain ⟨h1, h2⟩ := klf_some (Option.some.inj h)
    exact Or.inr ⟨by omega, by rw [List.getElem?_cons_zero, h1], fun _ => h2⟩
  | x :: r, 1, v, j + 1, w, h => by
    rw [sto, List.getElem?_cons_succ] at h
    rcases sto_get r 0 v j w h with ⟨h1, h2⟩ | ⟨h1, h2, h3⟩
    · exact Or.inl ⟨by omega, h2⟩
    · exact Or.inr ⟨by omega, by rw [List.getElem?_cons_succ]; exact h2, fun z => by omega⟩
  | x :: r, i + 2, v, 0, w, h => by
    rw [sto, List.getElem?_cons_zero] at h
    exact Or.inr ⟨by omega, by rw [List.getElem?_cons_zero]; exact h, fun z => by omega⟩
  | x :: r, i + 2, v, j + 1, w, h => by
    rw [sto, List.getElem?_cons_succ] at h
    rcases sto_get r (i + 1) v j w h with ⟨h1, h2⟩ | ⟨h1, h2, h3⟩
    · exact Or.inl ⟨by omega, h2⟩
    · exact Or.inr ⟨by omega, by rw [List.getElem?_cons_succ]; exact h2, fun z => h3 (by omega)⟩
theorem stoL_len : ∀ (lv : LV) (i : Nat) (v : Int64), (stoL lv i v).length = lv.length
  | [], _, _ => rfl
  | _ :: [], 0, _ => rfl
  | _ :: _ :: _, 0, _ => rfl
  | x :: r, 1, v => by rw [stoL, List.length_cons, List.length_cons, stoL_len r 0 v]
  | x :: r, i + 2, v => by rw [stoL, List.length_cons, List.length_cons, stoL_len r (i + 1) v]
theorem stoL_get : ∀ (lv : LV) (i : Nat) (v : Int64) (j : Nat) (w : AV), (stoL lv i v)[j]? = some (some w) → (j = i ∧ w = vL v) ∨ (j ≠ i ∧ j ≠ i + 1 ∧ lv[j]? = some (some w) ∧ (j + 1 = i → catV w = 1))
  | [], _, _, _, _, h => by simp [stoL] at h
  | x :: [], 0, v, 0, w, h => by simp [stoL] at h
  | x :: [], 0, v, j + 1, w, h => by simp [stoL] at h
  | x :: y :: r, 0, v, 0, w, h => by
    rw [stoL, List.getElem?_cons_zero] at h
    cases h
    exact Or.inl ⟨rfl, rfl⟩
  | x :: y :: r, 0, v, 1, w, h => by
    rw [stoL, List.getElem?_cons_succ, List.getElem?_cons_zero] at h
    cases h
  | x :: y :: r, 0, v, j + 2, w, h => by
    rw [stoL, List.getElem?_cons_succ, List.getElem?_cons_succ] at h
    exact Or.inr ⟨by omega, by omega, by rw [List.getElem?_cons_succ, List.getElem?_cons_succ]; exact h, fun z => by omega⟩
  | x :: r, 1, v, 0, w, h => by
    rw [stoL, List.getElem?_cons_zero] at h
    obtain ⟨h1, h2⟩ := klf_some (Option.some.inj h)
    exact Or.inr ⟨by omega, by omega, by rw [List.getElem?_cons_zero, h1], fun _ => h2⟩
  | x :: r, 1, v, j + 1, w, h => by
    rw [stoL, List.getElem?_cons_succ] at h
    rcases stoL_get r 0 v j w h with ⟨h1, h2⟩ | ⟨h1, h2, h3, h4⟩
    · exact Or.inl ⟨by omega, h2⟩
    · exact Or.inr ⟨by omega, by omega, by rw [List.getElem?_cons_succ]; exact h3, fun z => by omega⟩
  | x :: r, i + 2, v, 0, w, h => by
    rw [stoL, List.getElem?_cons_zero] at h
    exact Or.inr ⟨by omega, by omega, by rw [List.getElem?_cons_zero]; exact h, fun z => by omega⟩
  | x :: r, i + 2, v, j + 1, w, h => by
    rw [stoL, List.getElem?_cons_succ] at h
    rcases stoL_get r (i + 1) v j w h with ⟨h1, h2⟩ | ⟨h1, h2, h3, h4⟩
    · exact Or.inl ⟨by omega, h2⟩
    · exact Or.inr ⟨by omega, by omega, by rw [List.getElem?_cons_succ]; exact h3, fun z => h4 (by omega)⟩
theorem LR.sto {ρ : Nat × Nat × Nat → Nat} {nL i : Nat} {ls ls' : Array Slot} {lv : LV} {v : AV} (h : LR ρ nL ls lv) (h' : lv_has ls' nL ((i, conc ρ v) :: (prs ρ 0 lv).filter (fun q => !(q.1 == i) && !(q.1 + 1 == i && q.2.category == 2)))) : LR ρ nL ls' (sto lv i v) := by
  refine LR.of ((sto_len lv i v).trans h.1) h' fun j w hj => ?_
  rcases sto_get lv i v j w hj with ⟨rfl, rfl⟩ | ⟨h1, h2, h3⟩
  · exact List.mem_cons_self
  · refine List.mem_cons_of_mem _ (List.mem_filter.mpr ⟨(prs_mem lv 0 _).mpr ⟨j, w, h2, by rw [Nat.zero_add]⟩, ?_⟩)
    simp only [Bool.and_eq_true, Bool.not_eq_true', beq_eq_false_iff_ne, ne_eq, Bool.and_eq_false_iff]
    refine ⟨h1, ?_⟩
    by_cases hji : j + 1 = i
    · exact Or.inr (by rw [conc_cat, h3 hji]; decide)
    · exact Or.inl hji
theorem LR.stoL {ρ : Nat × Nat × Nat → Nat} {nL i : Nat} {ls ls' : Array Slot} {lv : LV} {v : Int64} (h : LR ρ nL ls lv) (h' : lv_has ls' nL ((i, Value.long v) :: (prs ρ 0 lv).filter (fun q => !(q.1 == i) && (!(q.1 == i + 1) && !(q.1 + 1 == i && q.2.category == 2))))) : LR ρ nL ls' (stoL lv i v) := by
  refine LR.of ((stoL_len lv i v).trans h.1) h' fun j w hj => ?_
  rcases stoL_get lv i v j w hj with ⟨rfl, rfl⟩ | ⟨h1, h1', h2, h3⟩
  · exact List.mem_cons_self
  · refine List.mem_cons_of_mem _ (List.mem_filter.mpr ⟨(prs_mem lv 0 _).mpr ⟨j, w, h2, by rw [Nat.zero_add]⟩, ?_⟩)
    simp only [Bool.and_eq_true, Bool.not_eq_true', beq_eq_false_iff_ne, ne_eq, Bool.and_eq_false_iff]
    refine ⟨h1, h1', ?_⟩
    by_cases hji : j + 1 = i
    · exact Or.inr (by rw [conc_cat, h3 hji]; decide)
    · exact Or.inl hji
theorem ent1_args {ρ : Nat × Nat × Nat → Nat} : ∀ (as : List AV) (n j : Nat) (v : AV), (ent1 as)[j]? = some (some v) → (n + j, conc ρ v) ∈ lv_args n (as.map (conc ρ))
  | [], _, _, _, h => by simp [ent1] at h
  | .inl x :: r, n, 0, v, h => by
    rw [ent1, List.getElem?_cons_zero] at h
    · cases h
      exact List.mem_cons_self
    · rintro y z; cases z
  | .inl x :: r, n, j + 1, v, h => by
    rw [ent1, List.getElem?_cons_succ] at h
    · have := ent1_args (ρ := ρ) r (n + 1) j v h
      rw [Nat.add_assoc, Nat.add_comm 1 j] at this
      exact List.mem_cons_of_mem _ this
    · rintro y z; cases z
  | .inr (.inr x) :: r, n, 0, v, h => by
    rw [ent1, List.getElem?_cons_zero] at h
    · cases h
      exact List.mem_cons_self
    · rintro y z; cases z
  | .inr (.inr x) :: r, n, j + 1, v, h => by
    rw [ent1, List.getElem?_cons_succ] at h
    · have := ent1_args (ρ := ρ) r (n + 1) j v h
      rw [Nat.add_assoc, Nat.add_comm 1 j] at this
      exact List.mem_cons_of_mem _ this
    · rintro y z; cases z
  | .inr (.inl x) :: r, n, 0, v, h => by
    rw [ent1, List.getElem?_cons_zero] at h
    cases h
    exact List.mem_cons_self
  | .inr (.inl x) :: r, n, 1, v, h => by
    rw [ent1, List.getElem?_cons_succ, List.getElem?_cons_zero] at h
    cases h
  | .inr (.inl x) :: r, n, j + 2, v, h => by
    rw [ent1, List.getElem?_cons_succ, List.getElem?_cons_succ] at h
    have := ent1_args (ρ := ρ) r (n + 2) j v h
    rw [Nat.add_assoc, Nat.add_comm 2 j] at this
    exact List.mem_cons_of_mem _ this
theorem ent1_len {ρ : Nat × Nat × Nat → Nat} : ∀ as : List AV, (lg_sl (as.map (conc ρ))).length = (ent1 as).length
  | [] => rfl
  | .inl x :: r => by
    have h := ent1_len (ρ := ρ) r
    rw [ent1, List.length_cons, ← h]
    · simp [lg_sl, conc, Value.category]
    · rintro y z; cases z
  | .inr (.inr x) :: r => by
    have h := ent1_len (ρ := ρ) r
    rw [ent1, List.length_cons, ← h]
    · simp [lg_sl, conc, Value.category]
    · rintro y z; cases z
  | .inr (.inl x) :: r => by
    have h := ent1_len (ρ := ρ) r
    rw [ent1, List.length_cons, List.length_cons, ← h]
    simp [lg_sl, conc, Value.category]
theorem spl_eq : ∀ (n : Nat) (st acc as r : List AV), spl n st acc = some (as, r) → ∃ l, l.length = n ∧ st = l ++ r ∧ as = l.reverse ++ acc
  | 0, st, acc, as, r, h => by
    rw [spl] at h
    cases h
    exact ⟨[], rfl, rfl, rfl⟩
  | n + 1, v :: st, acc, as, r, h => by
    rw [spl] at h
    obtain ⟨l, h1, h2, h3⟩ := spl_eq n st (v :: acc) as r h
    exact ⟨v :: l, by simp [h1], by simp [h2], by simp [h3]⟩
  | n + 1, [], acc, as, r, h => by
    rw [spl] at h
    cases h
end
section
/-! SOUNDNESS: what the abstract machine answers, the machine answers -/
section INV
variable {res : Option AV × ST}
theorem aI_inv : ∀ {st : List AV} {f : Int32 → List AV → RS}, aI st f = some res → ∃ x r, st = vI x :: r ∧ f x r = some res
  | .inl x :: r, _, h => ⟨x, r, rfl, h⟩
  | [], _, h => by simp [aI] at h
  | .inr _ :: _, _, h => by simp [aI] at h
theorem aL_inv : ∀ {st : List AV} {f : Int64 → List AV → RS}, aL st f = some res → ∃ x r, st = vL x :: r ∧ f x r = some res
  | .inr (.inl x) :: r, _, h => ⟨x, r, rfl, h⟩
  | [], _, h => by simp [aL] at h
  | .inl _ :: _, _, h => by simp [aL] at h
  | .inr (.inr _) :: _, _, h => by simp [aL] at h
theorem aR_inv : ∀ {st : List AV} {f : Nat × Nat × Nat → List AV → RS}, aR st f = some res → ∃ t r, st = .inr (.inr t) :: r ∧ f t r = some res
  | .inr (.inr t) :: r, _, h => ⟨t, r, rfl, h⟩
  | [], _, h => by simp [aR] at h
  | .inl _ :: _, _, h => by simp [aR] at h
  | .inr (.inl _) :: _, _, h => by simp [aR] at h
theorem aO_inv : ∀ {st : List AV} {f : Nat → Nat → List AV → RS}, aO st f = some res → ∃ c o r, st = vR c o 0 :: r ∧ f c o r = some res
  | .inr (.inr (c, o, 0)) :: r, _, h => ⟨c, o, r, rfl, h⟩
  | .inr (.inr (_, _, _ + 1)) :: r, _, h => by simp [aO] at h
  | [], _, h => by simp [aO] at h
  | .inl _ :: _, _, h => by simp [aO] at h
  | .inr (.inl _) :: _, _, h => by simp [aO] at h
theorem aX_inv : ∀ {st : List AV} {f : Nat → Nat → Nat → List AV → RS}, aX st f = some res → ∃ c o j r, st = vR c o (j + 1) :: r ∧ f c o j r = some res
  | .inr (.inr (c, o, j + 1)) :: r, _, h => ⟨c, o, j, r, rfl, h⟩
  | .inr (.inr (_, _, 0)) :: r, _, h => by simp [aX] at h
  | [], _, h => by simp [aX] at h
  | .inl _ :: _, _, h => by simp [aX] at h
  | .inr (.inl _) :: _, _, h => by simp [aX] at h
theorem a1_inv : ∀ {st : List AV} {f : AV → List AV → RS}, a1 st f = some res → ∃ v r, st = v :: r ∧ catV v = 1 ∧ f v r = some res
  | .inl x :: r, _, h => ⟨_, r, rfl, rfl, h⟩
  | .inr (.inr t) :: r, _, h => ⟨_, r, rfl, rfl, h⟩
  | [], _, h => by simp [a1] at h
  | .inr (.inl _) :: _, _, h => by simp [a1] at h
theorem aE_inv : ∀ {st : List AV} {x : RS}, aE st x = some res → st = [] ∧ x = some res
  | [], _, h => ⟨rfl, h⟩
  | _ :: _, _, h => by simp [aE] at h
theorem lI_inv {lv : LV} {a : Nat} {f : Int32 → RS} (h : lI lv a f = some res) : ∃ x, lv[a]? = some (some (vI x)) ∧ f x = some res := by
  unfold lI at h
  split at h
  next x hx => exact ⟨x, hx, h⟩
  next => cases h
theorem lL_inv {lv : LV} {a : Nat} {f : Int64 → RS} (h : lL lv a f = some res) : ∃ x, lv[a]? = some (some (vL x)) ∧ f x = some res := by
  unfold lL at h
  split at h
  next x hx => exact ⟨x, hx, h⟩
  next => cases h
theorem lR_inv {lv : LV} {a : Nat} {f : Nat × Nat × Nat → RS} (h : lR lv a f = some res) : ∃ t, lv[a]? = some (some (.inr (.inr t))) ∧ f t = some res := by
  unfold lR at h
  split at h
  next x hx => exact ⟨x, hx, h⟩
  next => cases h
theorem iN {c : Prop} [Decidable c] {X : RS} (h : (if c then none else X) = some res) : ¬ c ∧ X = some res := by
  by_cases hc : c
  · rw [if_pos hc] at h; cases h
  · rw [if_neg hc] at h; exact ⟨hc, h⟩
theorem iS {c : Prop} [Decidable c] {X : RS} (h : (if c then X else none) = some res) : c ∧ X = some res := by
  by_cases hc : c
  · rw [if_pos hc] at h; exact ⟨hc, h⟩
  · rw [if_neg hc] at h; cases h
theorem ok_t {a : AV} {r : List AV} (h : ∀ v ∈ a :: r, okv v) : ∀ v ∈ r, okv v := fun v hv => h v (List.mem_cons_of_mem _ hv)
theorem ok_c {a : AV} {r : List AV} (h0 : okv a) (h : ∀ v ∈ r, okv v) : ∀ v ∈ a :: r, okv v := fun v hv => by
  rcases List.mem_cons.mp hv with rfl | hv
  · exact h0
  · exact h v hv
theorem ok_h {a : AV} {r : List AV} (h : ∀ v ∈ a :: r, okv v) : okv a := h a List.mem_cons_self
theorem ok_sto {lv : LV} {i : Nat} {v : AV} (h0 : okv v) (h : ∀ w, some w ∈ lv → okv w) : ∀ w, some w ∈ sto lv i v → okv w := fun w hw => by
  obtain ⟨j, hj⟩ := List.getElem?_of_mem hw
  rcases sto_get lv i v j w hj with ⟨-, rfl⟩ | ⟨-, h2, -⟩
  · exact h0
  · exact h w (List.mem_of_getElem? h2)
theorem ok_stoL {lv : LV} {i : Nat} {v : Int64} (h : ∀ w, some w ∈ lv → okv w) : ∀ w, some w ∈ stoL lv i v → okv w := fun w hw => by
  obtain ⟨j, hj⟩ := List.getElem?_of_mem hw
  rcases stoL_get lv i v j w hj with ⟨-, rfl⟩ | ⟨-, -, h2, -⟩
  · exact trivial
  · exact h w (List.mem_of_getElem? h2)
end INV
def QcM (D : va_G) (q : Nat → ClassId) (ρ : Nat × Nat × Nat → Nat) (A : Nat → Prop) (res : Option AV × ST) : Array Value → State → Outcome → State → Prop := fun _ st oc t => oc = .returned (res.1.map (conc ρ)) ∧ (∀ w, res.1 = some w → okv w) ∧ okR res.2 ∧ va_P D cl13 (wld ρ q res.2) t.heap ∧ va_F A st t
def CX (p : Program) (R : Room) (s : State) (m : MethodId) (args : Array Value) (meth : Method) (c : Code) (D : va_G) (q : Nat → ClassId) (ρ : Nat × Nat × Nat → Nat) (A : Nat → Prop) (M : Nat) : Prop :=
  p.tables.exec = Jvm.exec ∧ c.code = mC M ∧ c.maxLocals = mL M ∧ s.vm.findClass (cnm (mO M)) = some m.cls ∧ (∀ w ∈ tbG, w.before args s = true) ∧ NW s ∧ va_K D cl13 (tyq q) s ∧ (∀ σ, va_D A (wld ρ q σ)) ∧ (∀ x, s.heap.size ≤ x → A x) ∧ R = { frames := mF M, cells := 0, slots := 0, locals := mQ M } ∧ meth.sig.returnType = mR M ∧ meth.locks = false
def OKS (lv : LV) (st : List AV) (σ : ST) : Prop := (∀ v, some v ∈ lv → okv v) ∧ (∀ v ∈ st, okv v) ∧ okR σ
section SND
variable {p : Program} {l : Launch} {e : Env} {R : Room} {s : State} {m : MethodId} {args : Array Value} {below : List Frame} {meth : Method} {c : Code} {D : va_G} {q : Nat → ClassId} {ρ : Nat × Nat × Nat → Nat} {A : Nat → Prop} {M : Nat} {res : Option AV × ST}
abbrev WW (p : Program) (l : Launch) (e : Env) (R : Room) (s : State) (m : MethodId) (args : Array Value) (below : List Frame) (meth : Method) (c : Code) (D : va_G) (q : Nat → ClassId) (ρ : Nat × Nat × Nat → Nat) (A : Nat → Prop) (res : Option AV × ST) (H : Heap) (locs : List Loc) (g : JFrame) : Prop := W p l e R s m args below meth c H locs 0 0 (MQ below (QcM D q ρ A res) args s 0 0 A) g
/-- from where k answers res, the machine comes there -/
def GK (p : Program) (l : Launch) (e : Env) (R : Room) (s : State) (m : MethodId) (args : Array Value) (below : List Frame) (meth : Method) (c : Code) (D : va_G) (q : Nat → ClassId) (ρ : Nat × Nat × Nat → Nat) (A : Nat → Prop) (M : Nat) (k : KT) (res : Option AV × ST) : Prop :=
  ∀ i lv st σ H locs ls, k i lv st σ = some res → LR ρ (mL M) ls lv → OKS lv st σ → va_P D cl13 (wld ρ q σ) H → va_S A s.heap H locs → WW p l e R s m args below meth c D q ρ A res H locs (F0 m (pcO (cod M) i) ls (st.map (conc ρ)))
variable {k : KT} {i im_ a b pc : Nat} {im : Int} {lv : LV} {st : List AV} {σ : ST} {H : Heap} {locs : List Loc} {ls : Array Slot}
theorem snd0 (X : CX p R s m args meth c D q ρ A M) (hk : GK p l e R s m args below meth c D q ρ A M k res) (hl : LR ρ (mL M) ls lv) (ho : OKS lv st σ) (hP : va_P D cl13 (wld ρ q σ) H) (hS : va_S A s.heap H locs) :
    ∀ s' : Nat, ft0 (mC M) pc (pcO (cod M) (i + 1)) (mO M) (mL M) s' im a b = true → st0 k i s' im a lv st σ = some res → WW p l e R s m args below meth c D q ρ A res H locs (F0 m pc ls (st.map (conc ρ))) := by
  obtain ⟨hx, hb, hml, hown, hts, -⟩ := X
  obtain ⟨o1, o2, o3⟩ := ho
  intro s' hf h
  match s', hf, h with
  | 0, hf, h =>
    have hn := hk _ _ _ _ H locs ls h hl ⟨o1, ok_c trivial o2, o3⟩ hP hS
    simp only [ft0] at hf
    split at hf <;> try simp only [Bool.and_eq_true, decide_eq_true_eq] at hf
    · rw [hf.2] at hn
      exact lv_iconst hx hb (dq_ok hf.1) rfl hn
    · rw [hf.1.2] at hn
      exact lv_bipush hx hb (dq_ok hf.1.1) hf.2 hn
    · rw [hf.1.2] at hn
      exact lv_sipush hx hb (dq_ok hf.1.1) hf.2 hn
    · rw [hf.1.2] at hn
      exact lv_ldc hx hb hown (hts _ (ki_in _ hf.2)) (dq_ok hf.1.1) hn
    · rw [hf.1.2] at hn
      exact lv_ldcw hx hb hown (hts _ (ki_in _ hf.2)) (dq_ok hf.1.1) hn
    · cases hf
  | 1, hf, h =>
    have hn := hk _ _ _ _ H locs ls h hl ⟨o1, ok_c trivial o2, o3⟩ hP hS
    simp only [ft0] at hf
    split at hf <;> try simp only [Bool.and_eq_true, decide_eq_true_eq] at hf
    · obtain ⟨⟨h1, h2⟩, rfl⟩ := hf
      rw [h2] at hn
      exact lv_lconst hx hb (dq_ok h1) rfl hn
    · obtain ⟨⟨h1, h2⟩, rfl⟩ := hf
      rw [h2] at hn
      exact lv_lconst hx hb (dq_ok h1) rfl hn
    · rw [hf.1.2] at hn
      exact lv_ldc2 hx hb hown (hts _ (kl_in _ hf.2)) (dq_ok hf.1.1) hn
    · cases hf
  | 2, hf, h =>
    obtain ⟨x, hx0, h⟩ := lI_inv h
    have hn := hk _ _ _ _ H locs ls h hl ⟨o1, ok_c trivial o2, o3⟩ hP hS
    have hg := hl.2.2.2 a _ hx0
    simp only [ft0, lq] at hf
    split at hf <;> try simp only [Bool.and_eq_true, decide_eq_true_eq] at hf
    · obtain ⟨⟨h1, h2⟩, h3⟩ := hf
      rw [h2] at hn
      exact lv_iload_n hx hb (dq_ok h1) h3.symm hg hn
    · rw [hf.2] at hn
      exact lv_iload hx hb (dq_ok hf.1) hg hn
  | 3, hf, h =>
    obtain ⟨x, hx0, h⟩ := lL_inv h
    have hn := hk _ _ _ _ H locs ls h hl ⟨o1, ok_c trivial o2, o3⟩ hP hS
    have hg := hl.2.2.2 a _ hx0
    simp only [ft0, lq] at hf
    split at hf <;> try simp only [Bool.and_eq_true, decide_eq_true_eq] at hf
    · obtain ⟨⟨h1, h2⟩, h3⟩ := hf
      rw [h2] at hn
      exact lv_lload_n hx hb (dq_ok h1) h3.symm hg hn
    · rw [hf.2] at hn
      exact lv_lload hx hb (dq_ok hf.1) hg hn
  | 4, hf, h =>
    obtain ⟨x, hx0, h⟩ := lR_inv h
    have hn := hk _ _ _ _ H locs ls h hl ⟨o1, ok_c (o1 _ (List.mem_of_getElem? hx0)) o2, o3⟩ hP hS
    have hg := hl.2.2.2 a _ hx0
    simp only [ft0, lq] at hf
    split at hf <;> try simp only [Bool.and_eq_true, decide_eq_true_eq] at hf
    · obtain ⟨⟨h1, h2⟩, h3⟩ := hf
      rw [h2] at hn
      exact lv_aload_n hx hb (dq_ok h1) h3.symm hg hn
    · rw [hf.2] at hn
      exact lv_aload hx hb (dq_ok hf.1) hg hn
  | 5, hf, h =>
    obtain ⟨x, r, rfl, h⟩ := aI_inv h
    simp only [ft0, lq] at hf
    split at hf <;> try simp only [Bool.and_eq_true, decide_eq_true_eq] at hf
    · obtain ⟨⟨⟨h1, h2⟩, h3⟩, h4⟩ := hf
      refine lv_istore_n hx hb (dq_ok h1) h3.symm hl.has h4 rfl (fun ls' h' => ?_)
      have hn := hk _ _ _ _ H locs ls' h (hl.sto (v := vI x) h') ⟨ok_sto trivial o1, ok_t o2, o3⟩ hP hS
      rw [h2] at hn
      exact hn
    · obtain ⟨⟨h1, h2⟩, h4⟩ := hf
      refine lv_istore hx hb (dq_ok h1) hl.has h4 rfl (fun ls' h' => ?_)
      have hn := hk _ _ _ _ H locs ls' h (hl.sto (v := vI x) h') ⟨ok_sto trivial o1, ok_t o2, o3⟩ hP hS
      rw [h2] at hn
      exact hn
  | 6, hf, h =>
    obtain ⟨x, r, rfl, h⟩ := aL_inv h
    simp only [ft0, lq] at hf
    split at hf <;> try simp only [Bool.and_eq_true, decide_eq_true_eq] at hf
    · obtain ⟨⟨⟨h1, h2⟩, h3⟩, h4⟩ := hf
      refine lv_lstore_n hx hb (dq_ok h1) h3.symm hl.has h4 rfl (fun ls' h' => ?_)
      have hn := hk _ _ _ _ H locs ls' h (hl.stoL h') ⟨ok_stoL o1, ok_t o2, o3⟩ hP hS
      rw [h2] at hn
      exact hn
    · obtain ⟨⟨h1, h2⟩, h4⟩ := hf
      refine lv_lstore hx hb (dq_ok h1) hl.has h4 rfl (fun ls' h' => ?_)
      have hn := hk _ _ _ _ H locs ls' h (hl.stoL h') ⟨ok_stoL o1, ok_t o2, o3⟩ hP hS
      rw [h2] at hn
      exact hn
  | 7, hf, h =>
    obtain ⟨x, r, rfl, h⟩ := aR_inv h
    simp only [ft0, lq] at hf
    split at hf <;> try simp only [Bool.and_eq_true, decide_eq_true_eq] at hf
    · obtain ⟨⟨⟨h1, h2⟩, h3⟩, h4⟩ := hf
      refine lv_astore_n hx hb (dq_ok h1) h3.symm hl.has h4 rfl (fun ls' h' => ?_)
      have hn := hk _ _ _ _ H locs ls' h (hl.sto (v := .inr (.inr x)) h') ⟨ok_sto (ok_h o2) o1, ok_t o2, o3⟩ hP hS
      rw [h2] at hn
      exact hn
    · obtain ⟨⟨h1, h2⟩, h4⟩ := hf
      refine lv_astore hx hb (dq_ok h1) hl.has h4 rfl (fun ls' h' => ?_)
      have hn := hk _ _ _ _ H locs ls' h (hl.sto (v := .inr (.inr x)) h') ⟨ok_sto (ok_h o2) o1, ok_t o2, o3⟩ hP hS
      rw [h2] at hn
      exact hn
  | 8, hf, h =>
    obtain ⟨x, hx0, h⟩ := lI_inv h
    simp only [ft0, Bool.and_eq_true, decide_eq_true_eq] at hf
    obtain ⟨⟨h1, h2⟩, h4⟩ := hf
    obtain ⟨kk, hkk⟩ := List.getElem?_of_mem ((prs_mem (ρ := ρ) lv 0 (a, .int x)).mpr ⟨a, vI x, hx0, by rw [Nat.zero_add]; rfl⟩)
    refine lv_iinc hx hb (dq_ok h1) hl.has (k := kk) hkk rfl h4 rfl (fun ls' h' => ?_)
    have hn := hk _ _ _ _ H locs ls' h (hl.sto (v := vI (x + Int32.ofInt im)) h') ⟨ok_sto trivial o1, o2, o3⟩ hP hS
    rw [h2] at hn
    exact hn
  | _ + 9, hf, _ => exact absurd (show false = true from hf) Bool.false_ne_true
theorem snd1 (X : CX p R s m args meth c D q ρ A M) (hk : GK p l e R s m args below meth c D q ρ A M k res) (hl : LR ρ (mL M) ls lv) (ho : OKS lv st σ) (hP : va_P D cl13 (wld ρ q σ) H) (hS : va_S A s.heap H locs) :
    ∀ s' : Nat, ft1 (mC M) pc (pcO (cod M) (i + 1)) s' = true → st1 k i s' lv st σ = some res → WW p l e R s m args below meth c D q ρ A res H locs (F0 m pc ls (st.map (conc ρ))) := by
  obtain ⟨hx, hb, -⟩ := X
  obtain ⟨o1, o2, o3⟩ := ho
  intro s' hf h
  match s', hf, h with
  | 0, hf, h =>
    obtain ⟨y, r, rfl, h⟩ := aI_inv h
    obtain ⟨x, r, rfl, h⟩ := aI_inv h
    simp only [ft1, Bool.and_eq_true, decide_eq_true_eq] at hf
    have hn := hk _ _ _ _ H locs ls h hl ⟨o1, ok_c trivial (ok_t (ok_t o2)), o3⟩ hP hS
    rw [hf.2] at hn
    exact lv_iadd hx hb (dq_ok hf.1) hn
  | 1, hf, h =>
    obtain ⟨y, r, rfl, h⟩ := aI_inv h
    obtain ⟨x, r, rfl, h⟩ := aI_inv h
    simp only [ft1, Bool.and_eq_true, decide_eq_true_eq] at hf
    have hn := hk _ _ _ _ H locs ls h hl ⟨o1, ok_c trivial (ok_t (ok_t o2)), o3⟩ hP hS
    rw [hf.2] at hn
    exact lv_isub hx hb (dq_ok hf.1) hn
  | 2, hf, h =>
    obtain ⟨y, r, rfl, h⟩ := aI_inv h
    obtain ⟨x, r, rfl, h⟩ := aI_inv h
    simp only [ft1, Bool.and_eq_true, decide_eq_true_eq] at hf
    have hn := hk _ _ _ _ H locs ls h hl ⟨o1, ok_c trivial (ok_t (ok_t o2)), o3⟩ hP hS
    rw [hf.2] at hn
    exact lv_imul hx hb (dq_ok hf.1) hn
  | 3, hf, h =>
    obtain ⟨y, r, rfl, h⟩ := aI_inv h
    obtain ⟨x, r, rfl, h⟩ := aI_inv h
    simp only [ft1, Bool.and_eq_true, decide_eq_true_eq] at hf
    have hn := hk _ _ _ _ H locs ls h hl ⟨o1, ok_c trivial (ok_t (ok_t o2)), o3⟩ hP hS
    rw [hf.2] at hn
    exact lv_iand hx hb (dq_ok hf.1) hn
  | 4, hf, h =>
    obtain ⟨y, r, rfl, h⟩ := aI_inv h
    obtain ⟨x, r, rfl, h⟩ := aI_inv h
    simp only [ft1, Bool.and_eq_true, decide_eq_true_eq] at hf
    have hn := hk _ _ _ _ H locs ls h hl ⟨o1, ok_c trivial (ok_t (ok_t o2)), o3⟩ hP hS
    rw [hf.2] at hn
    exact lv_ior hx hb (dq_ok hf.1) hn
  | 5, hf, h =>
    obtain ⟨y, r, rfl, h⟩ := aI_inv h
    obtain ⟨x, r, rfl, h⟩ := aI_inv h
    simp only [ft1, Bool.and_eq_true, decide_eq_true_eq] at hf
    have hn := hk _ _ _ _ H locs ls h hl ⟨o1, ok_c trivial (ok_t (ok_t o2)), o3⟩ hP hS
    rw [hf.2] at hn
    exact lv_ixor hx hb (dq_ok hf.1) hn
  | 6, hf, h =>
    obtain ⟨y, r, rfl, h⟩ := aI_inv h
    obtain ⟨x, r, rfl, h⟩ := aI_inv h
    simp only [ft1, Bool.and_eq_true, decide_eq_true_eq] at hf
    have hn := hk _ _ _ _ H locs ls h hl ⟨o1, ok_c trivial (ok_t (ok_t o2)), o3⟩ hP hS
    rw [hf.2] at hn
    exact lv_ishl hx hb (dq_ok hf.1) hn
  | 7, hf, h =>
    obtain ⟨y, r, rfl, h⟩ := aI_inv h
    obtain ⟨x, r, rfl, h⟩ := aI_inv h
    simp only [ft1, Bool.and_eq_true, decide_eq_true_eq] at hf
    have hn := hk _ _ _ _ H locs ls h hl ⟨o1, ok_c trivial (ok_t (ok_t o2)), o3⟩ hP hS
    rw [hf.2] at hn
    exact lv_ishr hx hb (dq_ok hf.1) hn
  | 8, hf, h =>
    obtain ⟨y, r, rfl, h⟩ := aI_inv h
    obtain ⟨x, r, rfl, h⟩ := aI_inv h
    simp only [ft1, Bool.and_eq_true, decide_eq_true_eq] at hf
    have hn := hk _ _ _ _ H locs ls h hl ⟨o1, ok_c trivial (ok_t (ok_t o2)), o3⟩ hP hS
    rw [hf.2] at hn
    exact lv_iushr hx hb (dq_ok hf.1) rfl hn
  | 9, hf, h =>
    obtain ⟨y, r, rfl, h⟩ := aI_inv h
    obtain ⟨x, r, rfl, h⟩ := aI_inv h
    obtain ⟨h0, h⟩ := iN h
    simp only [ft1, Bool.and_eq_true, decide_eq_true_eq] at hf
    have hn := hk _ _ _ _ H locs ls h hl ⟨o1, ok_c trivial (ok_t (ok_t o2)), o3⟩ hP hS
    rw [hf.2] at hn
    exact lv_idiv hx hb (dq_ok hf.1) h0 hn
  | 10, hf, h =>
    obtain ⟨y, r, rfl, h⟩ := aI_inv h
    obtain ⟨x, r, rfl, h⟩ := aI_inv h
    obtain ⟨h0, h⟩ := iN h
    simp only [ft1, Bool.and_eq_true, decide_eq_true_eq] at hf
    have hn := hk _ _ _ _ H locs ls h hl ⟨o1, ok_c trivial (ok_t (ok_t o2)), o3⟩ hP hS
    rw [hf.2] at hn
    exact lv_irem hx hb (dq_ok hf.1) h0 hn
  | 11, hf, h =>
    obtain ⟨x, r, rfl, h⟩ := aI_inv h
    simp only [ft1, Bool.and_eq_true, decide_eq_true_eq] at hf
    have hn := hk _ _ _ _ H locs ls h hl ⟨o1, ok_c trivial (ok_t o2), o3⟩ hP hS
    rw [hf.2] at hn
    exact lv_ineg hx hb (dq_ok hf.1) hn
  | 12, hf, h =>
    obtain ⟨x, r, rfl, h⟩ := aI_inv h
    simp only [ft1, Bool.and_eq_true, decide_eq_true_eq] at hf
    have hn := hk _ _ _ _ H locs ls h hl ⟨o1, ok_c trivial (ok_t o2), o3⟩ hP hS
    rw [hf.2] at hn
    exact lv_i2l hx hb (dq_ok hf.1) rfl hn
  | 13, hf, h =>
    obtain ⟨x, r, rfl, h⟩ := aL_inv h
    simp only [ft1, Bool.and_eq_true, decide_eq_true_eq] at hf
    have hn := hk _ _ _ _ H locs ls h hl ⟨o1, ok_c trivial (ok_t o2), o3⟩ hP hS
    rw [hf.2] at hn
    exact lv_l2i hx hb (dq_ok hf.1) rfl hn
  | 14, hf, h =>
    obtain ⟨x, r, rfl, h⟩ := aI_inv h
    simp only [ft1, Bool.and_eq_true, decide_eq_true_eq] at hf
    have hn := hk _ _ _ _ H locs ls h hl ⟨o1, ok_c trivial (ok_t o2), o3⟩ hP hS
    rw [hf.2] at hn
    exact lv_i2b hx hb (dq_ok hf.1) rfl hn
  | _ + 15, hf, _ => exact absurd (show false = true from hf) Bool.false_ne_true
theorem snd2 (X : CX p R s m args meth c D q ρ A M) (hk : GK p l e R s m args below meth c D q ρ A M k res) (hl : LR ρ (mL M) ls lv) (ho : OKS lv st σ) (hP : va_P D cl13 (wld ρ q σ) H) (hS : va_S A s.heap H locs) :
    ∀ s' : Nat, ft2 (mC M) pc (pcO (cod M) (i + 1)) s' = true → st2 k i s' lv st σ = some res → WW p l e R s m args below meth c D q ρ A res H locs (F0 m pc ls (st.map (conc ρ))) := by
  obtain ⟨hx, hb, -⟩ := X
  obtain ⟨o1, o2, o3⟩ := ho
  intro s' hf h
  match s', hf, h with
  | 0, hf, h =>
    obtain ⟨y, r, rfl, h⟩ := aL_inv h
    obtain ⟨x, r, rfl, h⟩ := aL_inv h
    simp only [ft2, Bool.and_eq_true, decide_eq_true_eq] at hf
    have hn := hk _ _ _ _ H locs ls h hl ⟨o1, ok_c trivial (ok_t (ok_t o2)), o3⟩ hP hS
    rw [hf.2] at hn
    exact lv_ladd hx hb (dq_ok hf.1) hn
  | 1, hf, h =>
    obtain ⟨y, r, rfl, h⟩ := aL_inv h
    obtain ⟨x, r, rfl, h⟩ := aL_inv h
    simp only [ft2, Bool.and_eq_true, decide_eq_true_eq] at hf
    have hn := hk _ _ _ _ H locs ls h hl ⟨o1, ok_c trivial (ok_t (ok_t o2)), o3⟩ hP hS
    rw [hf.2] at hn
    exact lv_lsub hx hb (dq_ok hf.1) hn
  | 2, hf, h =>
    obtain ⟨y, r, rfl, h⟩ := aL_inv h
    obtain ⟨x, r, rfl, h⟩ := aL_inv h
    simp only [ft2, Bool.and_eq_true, decide_eq_true_eq] at hf
    have hn := hk _ _ _ _ H locs ls h hl ⟨o1, ok_c trivial (ok_t (ok_t o2)), o3⟩ hP hS
    rw [hf.2] at hn
    exact lv_lmul hx hb (dq_ok hf.1) hn
  | 3, hf, h =>
    obtain ⟨y, r, rfl, h⟩ := aL_inv h
    obtain ⟨x, r, rfl, h⟩ := aL_inv h
    simp only [ft2, Bool.and_eq_true, decide_eq_true_eq] at hf
    have hn := hk _ _ _ _ H locs ls h hl ⟨o1, ok_c trivial (ok_t (ok_t o2)), o3⟩ hP hS
    rw [hf.2] at hn
    exact lv_land hx hb (dq_ok hf.1) hn
  | 4, hf, h =>
    obtain ⟨y, r, rfl, h⟩ := aL_inv h
    obtain ⟨x, r, rfl, h⟩ := aL_inv h
    obtain ⟨h0, h⟩ := iN h
    simp only [ft2, Bool.and_eq_true, decide_eq_true_eq] at hf
    have hn := hk _ _ _ _ H locs ls h hl ⟨o1, ok_c trivial (ok_t (ok_t o2)), o3⟩ hP hS
    rw [hf.2] at hn
    exact lv_ldiv hx hb (dq_ok hf.1) h0 hn
  | 5, hf, h =>
    obtain ⟨y, r, rfl, h⟩ := aL_inv h
    obtain ⟨x, r, rfl, h⟩ := aL_inv h
    obtain ⟨h0, h⟩ := iN h
    simp only [ft2, Bool.and_eq_true, decide_eq_true_eq] at hf
    have hn := hk _ _ _ _ H locs ls h hl ⟨o1, ok_c trivial (ok_t (ok_t o2)), o3⟩ hP hS
    rw [hf.2] at hn
    exact lv_lrem hx hb (dq_ok hf.1) h0 hn
  | 6, hf, h =>
    obtain ⟨x, r, rfl, h⟩ := aL_inv h
    simp only [ft2, Bool.and_eq_true, decide_eq_true_eq] at hf
    have hn := hk _ _ _ _ H locs ls h hl ⟨o1, ok_c trivial (ok_t o2), o3⟩ hP hS
    rw [hf.2] at hn
    exact lv_lneg hx hb (dq_ok hf.1) hn
  | 7, hf, h =>
    obtain ⟨y, r, rfl, h⟩ := aL_inv h
    obtain ⟨x, r, rfl, h⟩ := aL_inv h
    simp only [ft2, Bool.and_eq_true, decide_eq_true_eq] at hf
    have hn := hk _ _ _ _ H locs ls h hl ⟨o1, ok_c trivial (ok_t (ok_t o2)), o3⟩ hP hS
    rw [hf.2] at hn
    exact W.lcmp hx hb (dq_ok hf.1) hn
  | _ + 8, hf, _ => exact absurd (show false = true from hf) Bool.false_ne_true
theorem snd3 (X : CX p R s m args meth c D q ρ A M) (hk : GK p l e R s m args below meth c D q ρ A M k res) (hl : LR ρ (mL M) ls lv) (ho : OKS lv st σ) (hP : va_P D cl13 (wld ρ q σ) H) (hS : va_S A s.heap H locs) :
    ∀ s' : Nat, ft3 (mC M) pc (pcO (cod M) (i + 1)) s' = true → st3 k i s' lv st σ = some res → WW p l e R s m args below meth c D q ρ A res H locs (F0 m pc ls (st.map (conc ρ))) := by
  obtain ⟨hx, hb, -⟩ := X
  obtain ⟨o1, o2, o3⟩ := ho
  intro s' hf h
  match s', hf, h with
  | 0, hf, h =>
    replace h : a1 st (fun v r => k (i + 1) lv (v :: v :: r) σ) = some res := h
    obtain ⟨v, r, rfl, hv, h⟩ := a1_inv h
    simp only [ft3, Bool.and_eq_true, decide_eq_true_eq] at hf
    have hn := hk _ _ _ _ H locs ls h hl ⟨o1, ok_c (ok_h o2) o2, o3⟩ hP hS
    rw [hf.2] at hn
    exact lv_dup hx hb (dq_ok hf.1) ((conc_cat v).trans hv) hn
  | 1, hf, h =>
    replace h : a1 st (fun v r => a1 r fun w r => k (i + 1) lv (v :: w :: v :: w :: r) σ) = some res := h
    obtain ⟨v, r, rfl, hv, h⟩ := a1_inv h
    obtain ⟨w, r, rfl, hw, h⟩ := a1_inv h
    simp only [ft3, Bool.and_eq_true, decide_eq_true_eq] at hf
    have hn := hk _ _ _ _ H locs ls h hl ⟨o1, ok_c (ok_h o2) (ok_c (ok_h (ok_t o2)) o2), o3⟩ hP hS
    rw [hf.2] at hn
    exact lv_dup2_11 hx hb (dq_ok hf.1) ((conc_cat v).trans hv) ((conc_cat w).trans hw) hn
  | 2, hf, h =>
    replace h : a1 st (fun _ r => k (i + 1) lv r σ) = some res := h
    obtain ⟨v, r, rfl, hv, h⟩ := a1_inv h
    simp only [ft3, Bool.and_eq_true, decide_eq_true_eq] at hf
    have hn := hk _ _ _ _ H locs ls h hl ⟨o1, ok_t o2, o3⟩ hP hS
    rw [hf.2] at hn
    exact lv_pop hx hb (dq_ok hf.1) ((conc_cat v).trans hv) hn
  | _ + 3, hf, _ => exact absurd (show false = true from hf) Bool.false_ne_true
/-- a switch, row by row -/
theorem tsw_inv (C : List OP) (pc : Nat) (x : Int32) (d : Nat) (lv : LV) (st : List AV) (σ : ST) : ∀ (ts : List Nat) (os : List Int) (lo : Int), swq C pc lo ts os = true → tsw k lv st σ x d ts lo = some res →
    (∃ (j t : Nat) (o : Int), os[j]? = some o ∧ x.toInt = lo + j ∧ (pc : Int) + o = (pcO C t : Int) ∧ k t lv st σ = some res) ∨ ((∀ j : Nat, j < ts.length → x.toInt ≠ lo + j) ∧ k d lv st σ = some res)
  | [], [], lo, _, h => Or.inr ⟨fun j hj => absurd hj (Nat.not_lt_zero _), h⟩
  | t :: ts, o :: os, lo, hq, h => by
    simp only [swq, Bool.and_eq_true, decide_eq_true_eq] at hq
    obtain ⟨⟨h1, h2⟩, h3⟩ := hq
    rw [tsw] at h
    by_cases hx : x = Int32.ofInt lo
    · rw [if_pos hx] at h
      exact Or.inl ⟨0, t, o, rfl, by rw [hx, h2]; simp, h1, h⟩
    · rw [if_neg hx] at h
      rcases tsw_inv C pc x d lv st σ ts os (lo + 1) h3 h with ⟨j, t', o', e1, e2, e3, e4⟩ | ⟨e1, e2⟩
      · exact Or.inl ⟨j + 1, t', o', by rw [List.getElem?_cons_succ]; exact e1, by rw [e2]; simp only [Int.natCast_add, Int.natCast_one]; omega, e3, e4⟩
      · refine Or.inr ⟨fun j hj => ?_, e2⟩
        cases j with
        | zero =>
          intro z
          exact hx (Int32.toInt_inj.mp (by rw [z, h2]; simp))
        | succ j =>
          intro z
          refine e1 j (by simpa using hj) ?_
          rw [z]
          simp only [Int.natCast_add, Int.natCast_one]
          omega
  | [], _ :: _, _, hq, _ => by simp [swq] at hq
  | _ :: _, [], _, hq, _ => by simp [swq] at hq
theorem snd4 (X : CX p R s m args meth c D q ρ A M) (hk : GK p l e R s m args below meth c D q ρ A M k res) (hl : LR ρ (mL M) ls lv) (ho : OKS lv st σ) (hP : va_P D cl13 (wld ρ q σ) H) (hS : va_S A s.heap H locs) :
    ∀ s' : Nat, ft4 (cod M) (mC M) pc (pcO (cod M) (i + 1)) s' im a b = true → st4 k i s' im a b lv st σ = some res → WW p l e R s m args below meth c D q ρ A res H locs (F0 m pc ls (st.map (conc ρ))) := by
  obtain ⟨hx, hb, -⟩ := X
  obtain ⟨o1, o2, o3⟩ := ho
  intro s' hf h
  match s', hf, h with
  | 0, hf, h =>
    obtain ⟨x, r, rfl, h⟩ := aI_inv h
    replace h : (if x = 0 then k a lv r σ else k (i + 1) lv r σ) = some res := h
    simp only [ft4, Bool.and_eq_true, decide_eq_true_eq] at hf
    refine lv_if_eq hx hb (dq_ok hf.1.1) hf.2 (fun c1 => ?_) (fun c1 => ?_)
    · rw [if_pos c1] at h
      exact hk _ _ _ _ H locs ls h hl ⟨o1, ok_t o2, o3⟩ hP hS
    · rw [if_neg c1] at h
      have hn := hk _ _ _ _ H locs ls h hl ⟨o1, ok_t o2, o3⟩ hP hS
      rw [hf.1.2] at hn
      exact hn
  | 1, hf, h =>
    obtain ⟨x, r, rfl, h⟩ := aI_inv h
    replace h : (if x = 0 then k (i + 1) lv r σ else k a lv r σ) = some res := h
    simp only [ft4, Bool.and_eq_true, decide_eq_true_eq] at hf
    refine lv_if_ne hx hb (dq_ok hf.1.1) hf.2 (fun c1 => ?_) (fun c1 => ?_)
    · rw [if_neg c1] at h
      exact hk _ _ _ _ H locs ls h hl ⟨o1, ok_t o2, o3⟩ hP hS
    · rw [if_pos c1] at h
      have hn := hk _ _ _ _ H locs ls h hl ⟨o1, ok_t o2, o3⟩ hP hS
      rw [hf.1.2] at hn
      exact hn
  | 2, hf, h =>
    obtain ⟨x, r, rfl, h⟩ := aI_inv h
    replace h : (if x < 0 then k a lv r σ else k (i + 1) lv r σ) = some res := h
    simp only [ft4, Bool.and_eq_true, decide_eq_true_eq] at hf
    refine lv_if_lt hx hb (dq_ok hf.1.1) hf.2 (fun c1 => ?_) (fun c1 => ?_)
    · rw [if_pos c1] at h
      exact hk _ _ _ _ H locs ls h hl ⟨o1, ok_t o2, o3⟩ hP hS
    · rw [if_neg c1] at h
      have hn := hk _ _ _ _ H locs ls h hl ⟨o1, ok_t o2, o3⟩ hP hS
      rw [hf.1.2] at hn
      exact hn
  | 3, hf, h =>
    obtain ⟨x, r, rfl, h⟩ := aI_inv h
    replace h : (if x < 0 then k (i + 1) lv r σ else k a lv r σ) = some res := h
    simp only [ft4, Bool.and_eq_true, decide_eq_true_eq] at hf
    refine lv_if_ge hx hb (dq_ok hf.1.1) hf.2 (fun c1 => ?_) (fun c1 => ?_)
    · rw [if_neg (Int32.not_lt.mpr c1)] at h
      exact hk _ _ _ _ H locs ls h hl ⟨o1, ok_t o2, o3⟩ hP hS
    · rw [if_pos (Int32.not_le.mp c1)] at h
      have hn := hk _ _ _ _ H locs ls h hl ⟨o1, ok_t o2, o3⟩ hP hS
      rw [hf.1.2] at hn
      exact hn
  | 4, hf, h =>
    obtain ⟨x, r, rfl, h⟩ := aI_inv h
    replace h : (if 0 < x then k a lv r σ else k (i + 1) lv r σ) = some res := h
    simp only [ft4, Bool.and_eq_true, decide_eq_true_eq] at hf
    refine lv_if_gt hx hb (dq_ok hf.1.1) hf.2 (fun c1 => ?_) (fun c1 => ?_)
    · rw [if_pos c1] at h
      exact hk _ _ _ _ H locs ls h hl ⟨o1, ok_t o2, o3⟩ hP hS
    · rw [if_neg c1] at h
      have hn := hk _ _ _ _ H locs ls h hl ⟨o1, ok_t o2, o3⟩ hP hS
      rw [hf.1.2] at hn
      exact hn
  | 5, hf, h =>
    obtain ⟨x, r, rfl, h⟩ := aI_inv h
    replace h : (if 0 < x then k (i + 1) lv r σ else k a lv r σ) = some res := h
    simp only [ft4, Bool.and_eq_true, decide_eq_true_eq] at hf
    refine lv_if_le hx hb (dq_ok hf.1.1) hf.2 (fun c1 => ?_) (fun c1 => ?_)
    · rw [if_neg (Int32.not_lt.mpr c1)] at h
      exact hk _ _ _ _ H locs ls h hl ⟨o1, ok_t o2, o3⟩ hP hS
    · rw [if_pos (Int32.not_le.mp c1)] at h
      have hn := hk _ _ _ _ H locs ls h hl ⟨o1, ok_t o2, o3⟩ hP hS
      rw [hf.1.2] at hn
      exact hn
  | 6, hf, h =>
    obtain ⟨y, r, rfl, h⟩ := aI_inv h
    obtain ⟨x, r, rfl, h⟩ := aI_inv h
    replace h : (if x = y then k a lv r σ else k (i + 1) lv r σ) = some res := h
    simp only [ft4, Bool.and_eq_true, decide_eq_true_eq] at hf
    refine lv_icmp_eq hx hb (dq_ok hf.1.1) hf.2 (fun c1 => ?_) (fun c1 => ?_)
    · rw [if_pos c1] at h
      exact hk _ _ _ _ H locs ls h hl ⟨o1, ok_t (ok_t o2), o3⟩ hP hS
    · rw [if_neg c1] at h
      have hn := hk _ _ _ _ H locs ls h hl ⟨o1, ok_t (ok_t o2), o3⟩ hP hS
      rw [hf.1.2] at hn
      exact hn
  | 7, hf, h =>
    obtain ⟨y, r, rfl, h⟩ := aI_inv h
    obtain ⟨x, r, rfl, h⟩ := aI_inv h
    replace h : (if x = y then k (i + 1) lv r σ else k a lv r σ) = some res := h
    simp only [ft4, Bool.and_eq_true, decide_eq_true_eq] at hf
    refine lv_icmp_ne hx hb (dq_ok hf.1.1) hf.2 (fun c1 => ?_) (fun c1 => ?_)
    · rw [if_neg c1] at h
      exact hk _ _ _ _ H locs ls h hl ⟨o1, ok_t (ok_t o2), o3⟩ hP hS
    · rw [if_pos c1] at h
      have hn := hk _ _ _ _ H locs ls h hl ⟨o1, ok_t (ok_t o2), o3⟩ hP hS
      rw [hf.1.2] at hn
      exact hn
  | 8, hf, h =>
    obtain ⟨y, r, rfl, h⟩ := aI_inv h
    obtain ⟨x, r, rfl, h⟩ := aI_inv h
    replace h : (if x < y then k a lv r σ else k (i + 1) lv r σ) = some res := h
    simp only [ft4, Bool.and_eq_true, decide_eq_true_eq] at hf
    refine lv_icmp_lt hx hb (dq_ok hf.1.1) hf.2 (fun c1 => ?_) (fun c1 => ?_)
    · rw [if_pos c1] at h
      exact hk _ _ _ _ H locs ls h hl ⟨o1, ok_t (ok_t o2), o3⟩ hP hS
    · rw [if_neg c1] at h
      have hn := hk _ _ _ _ H locs ls h hl ⟨o1, ok_t (ok_t o2), o3⟩ hP hS
      rw [hf.1.2] at hn
      exact hn
  | 9, hf, h =>
    obtain ⟨y, r, rfl, h⟩ := aI_inv h
    obtain ⟨x, r, rfl, h⟩ := aI_inv h
    replace h : (if x < y then k (i + 1) lv r σ else k a lv r σ) = some res := h
    simp only [ft4, Bool.and_eq_true, decide_eq_true_eq] at hf
    refine lv_icmp_ge hx hb (dq_ok hf.1.1) hf.2 (fun c1 => ?_) (fun c1 => ?_)
    · rw [if_neg (Int32.not_lt.mpr c1)] at h
      exact hk _ _ _ _ H locs ls h hl ⟨o1, ok_t (ok_t o2), o3⟩ hP hS
    · rw [if_pos (Int32.not_le.mp c1)] at h
      have hn := hk _ _ _ _ H locs ls h hl ⟨o1, ok_t (ok_t o2), o3⟩ hP hS
      rw [hf.1.2] at hn
      exact hn
  | 10, hf, h =>
    obtain ⟨y, r, rfl, h⟩ := aI_inv h
    obtain ⟨x, r, rfl, h⟩ := aI_inv h
    replace h : (if y < x then k a lv r σ else k (i + 1) lv r σ) = some res := h
    simp only [ft4, Bool.and_eq_true, decide_eq_true_eq] at hf
    refine lv_icmp_gt hx hb (dq_ok hf.1.1) hf.2 (fun c1 => ?_) (fun c1 => ?_)
    · rw [if_pos c1] at h
      exact hk _ _ _ _ H locs ls h hl ⟨o1, ok_t (ok_t o2), o3⟩ hP hS
    · rw [if_neg c1] at h
      have hn := hk _ _ _ _ H locs ls h hl ⟨o1, ok_t (ok_t o2), o3⟩ hP hS
      rw [hf.1.2] at hn
      exact hn
  | 11, hf, h =>
    obtain ⟨y, r, rfl, h⟩ := aI_inv h
    obtain ⟨x, r, rfl, h⟩ := aI_inv h
    replace h : (if y < x then k (i + 1) lv r σ else k a lv r σ) = some res := h
    simp only [ft4, Bool.and_eq_true, decide_eq_true_eq] at hf
    refine lv_icmp_le hx hb (dq_ok hf.1.1) hf.2 (fun c1 => ?_) (fun c1 => ?_)
    · rw [if_neg (Int32.not_lt.mpr c1)] at h
      exact hk _ _ _ _ H locs ls h hl ⟨o1, ok_t (ok_t o2), o3⟩ hP hS
    · rw [if_pos (Int32.not_le.mp c1)] at h
      have hn := hk _ _ _ _ H locs ls h hl ⟨o1, ok_t (ok_t o2), o3⟩ hP hS
      rw [hf.1.2] at hn
      exact hn
  | 12, hf, h =>
    simp only [ft4, Bool.and_eq_true, decide_eq_true_eq] at hf
    exact lv_goto hx hb (dq_ok hf.1) hf.2 (hk _ _ _ _ H locs ls h hl ⟨o1, o2, o3⟩ hP hS)
  | 13, hf, h =>
    obtain ⟨x, r, rfl, h⟩ := aI_inv h
    simp only [ft4, Bool.and_eq_true, decide_eq_true_eq] at hf
    obtain ⟨⟨⟨h1, h2⟩, h3⟩, h4⟩ := hf
    have hlen : ∀ (C : List OP) (pc : Nat) (ts : List Nat) (os : List Int) (lo : Int), swq C pc lo ts os = true → ts.length = os.length := by
      intro C pc ts
      induction ts with
      | nil => intro os lo h; cases os with
        | nil => rfl
        | cons => simp [swq] at h
      | cons t ts ih => intro os lo h; cases os with
        | nil => simp [swq] at h
        | cons o os =>
          simp only [swq, Bool.and_eq_true] at h
          simp [ih os (lo + 1) h.2]
    have hle := hlen _ _ _ _ _ h3
    rcases tsw_inv (cod M) pc x a lv r σ _ _ _ h3 h with ⟨j, t, o, e1, e2, e3, e4⟩ | ⟨e1, e2⟩
    · have hj : j < (sw b).1.length := by rw [hle]; exact (List.getElem?_eq_some_iff.mp e1).1
      refine lv_tableIn hx hb (dq_ok h1) (by omega) (by rw [h4]; omega) (off := o) ?_ e3 (hk _ _ _ _ H locs ls e4 hl ⟨o1, ok_t o2, o3⟩ hP hS)
      rw [e2, show (im + (j : Int) - im).toNat = j by omega, ← Array.getElem?_toList]
      exact e1
    · refine lv_tableOut hx hb (dq_ok h1) ?_ h2 (hk _ _ _ _ H locs ls e2 hl ⟨o1, ok_t o2, o3⟩ hP hS)
      rw [h4]
      by_cases hlt : x.toInt < im
      · exact Or.inl hlt
      · right
        have := e1 (x.toInt - im).toNat
        omega
  | _ + 14, hf, _ => exact absurd (show false = true from hf) Bool.false_ne_true
theorem tyq_at : ∀ z : Nat, z < 5 → ∃ ty, (tyq q)[z]? = some (q z, ty)
  | 0, _ => ⟨_, rfl⟩
  | 1, _ => ⟨_, rfl⟩
  | 2, _ => ⟨_, rfl⟩
  | 3, _ => ⟨_, rfl⟩
  | 4, _ => ⟨_, rfl⟩
  | _ + 5, h => absurd h (by omega)
theorem snd5 (X : CX p R s m args meth c D q ρ A M) (hk : GK p l e R s m args below meth c D q ρ A M k res) (hl : LR ρ (mL M) ls lv) (ho : OKS lv st σ) (hP : va_P D cl13 (wld ρ q σ) H) (hS : va_S A s.heap H locs) :
    ∀ s' : Nat, ft5 (mC M) pc (pcO (cod M) (i + 1)) s' = true → st5 k i s' lv st σ = some res → WW p l e R s m args below meth c D q ρ A res H locs (F0 m pc ls (st.map (conc ρ))) := by
  obtain ⟨hx, hb, hml, hown, hts, hN, hK, hD, -⟩ := X
  have hD := hD σ
  obtain ⟨o1, o2, o3⟩ := ho
  intro s' hf h
  match s', hf, h with
  | 0, hf, h =>
    obtain ⟨x, r, rfl, h⟩ := aI_inv h
    obtain ⟨c1, o, j, r, rfl, h⟩ := aX_inv h
    obtain ⟨h0, h⟩ := iS h
    obtain ⟨h1, h⟩ := iN h
    simp only [ft5, Bool.and_eq_true, decide_eq_true_eq] at hf
    have hn := hk _ _ _ _ H locs ls h hl ⟨o1, ok_c trivial (ok_t (ok_t o2)), o3⟩ hP hS
    rw [hf.2] at hn
    obtain ⟨n, hn1, hn2⟩ := wld_get (ρ := ρ) (q := q) (σ := σ) (show (c1, o, j + 1) ∈ cts from ok_h (ok_t o2))
    rw [cel_a (Or.inl h0), h0] at hn2
    exact va_iald hx hb hK hP n 0 hn2 rfl h1 (dq_ok hf.1) hn
  | 1, hf, h =>
    obtain ⟨x, r, rfl, h⟩ := aI_inv h
    obtain ⟨c1, o, j, r, rfl, h⟩ := aX_inv h
    obtain ⟨h0, h⟩ := iS h
    obtain ⟨h1, h⟩ := iN h
    simp only [ft5, Bool.and_eq_true, decide_eq_true_eq] at hf
    have hn := hk _ _ _ _ H locs ls h hl ⟨o1, ok_c trivial (ok_t (ok_t o2)), o3⟩ hP hS
    rw [hf.2] at hn
    obtain ⟨n, hn1, hn2⟩ := wld_get (ρ := ρ) (q := q) (σ := σ) (show (c1, o, j + 1) ∈ cts from ok_h (ok_t o2))
    rcases h0 with h0 | h0
    · rw [cel_a (Or.inr (Or.inl h0)), h0] at hn2
      exact va_bald hx hb hK hP n 2 hn2 rfl h1 (dq_ok hf.1) hn
    · rw [cel_a (Or.inr (Or.inr h0)), h0] at hn2
      exact va_zald hx hb hK hP n 3 hn2 rfl h1 (dq_ok hf.1) hn
  | 2, hf, h =>
    obtain ⟨x, r, rfl, h⟩ := aI_inv h
    obtain ⟨c1, o, j, r, rfl, h⟩ := aX_inv h
    obtain ⟨h0, h⟩ := iS h
    obtain ⟨h1, h⟩ := iN h
    simp only [ft5, Bool.and_eq_true, decide_eq_true_eq] at hf
    have hn := hk _ _ _ _ H locs ls h hl ⟨o1, ok_c trivial (ok_t (ok_t o2)), o3⟩ hP hS
    rw [hf.2] at hn
    obtain ⟨n, hn1, hn2⟩ := wld_get (ρ := ρ) (q := q) (σ := σ) (show (c1, o, j + 1) ∈ cts from ok_h (ok_t o2))
    rw [cel_b h0, h0] at hn2
    exact va_lald hx hb hK hP n 1 hn2 rfl h1 (dq_ok hf.1) hn
  | 3, hf, h =>
    obtain ⟨x, r, rfl, h⟩ := aI_inv h
    obtain ⟨c1, o, j, r, rfl, h⟩ := aX_inv h
    obtain ⟨h0, h⟩ := iS h
    obtain ⟨h1, h⟩ := iN h
    simp only [ft5, Bool.and_eq_true, decide_eq_true_eq] at hf
    have ht : (c1, o, j + 1) ∈ cts := ok_h (ok_t o2)
    have hn := hk _ _ _ _ H locs ls h hl ⟨o1, ok_c (ct_law ht h0 (Nat.not_le.mp fun z => h1 (Or.inr z))) (ok_t (ok_t o2)), o3⟩ hP hS
    rw [hf.2] at hn
    obtain ⟨n, hn1, hn2⟩ := wld_get (ρ := ρ) (q := q) (σ := σ) ht
    rw [cel_q h0, h0] at hn2
    exact va_aldq hx hb hK hP n 4 hn2 rfl h1 (dq_ok hf.1) hn
  | 4, hf, h =>
    obtain ⟨v, r, rfl, h⟩ := aI_inv h
    obtain ⟨x, r, rfl, h⟩ := aI_inv h
    obtain ⟨c1, o, j, r, rfl, h⟩ := aX_inv h
    obtain ⟨h0, h⟩ := iS h
    obtain ⟨h1, h⟩ := iN h
    simp only [ft5, Bool.and_eq_true, decide_eq_true_eq] at hf
    obtain ⟨n, hn1, hn2⟩ := wld_get (ρ := ρ) (q := q) (σ := σ) (show (c1, o, j + 1) ∈ cts from ok_h (ok_t (ok_t o2)))
    have hn2' := hn2
    rw [cel_a (Or.inl h0), h0] at hn2
    refine va_iast hx hb hK hP hD hS n 0 hn2 rfl h1 (dq_ok hf.1) (fun H1 locs1 hP1 hD1 hS1 => ?_)
    have hc : cel ρ q (sA σ c1 o j (upd (gA σ c1 o j) x.toNatClampNeg v)) (c1, o, j + 1) = .inl (q 0, (ar c1 j).2, .inl (upd (gA σ c1 o j) x.toNatClampNeg v)) := by rw [cel_sA' (Or.inl h0), h0]
    rw [← hc, wld_set hn1 (fun t' h => cel_sA h)] at hP1
    have hn := hk _ _ _ _ H1 locs1 ls h hl ⟨o1, ok_t (ok_t (ok_t o2)), fun a b d z1 z2 => o3 a b d z1 z2⟩ hP1 hS1
    rw [hf.2] at hn
    exact hn
  | 5, hf, h =>
    obtain ⟨v, r, rfl, h⟩ := aI_inv h
    obtain ⟨x, r, rfl, h⟩ := aI_inv h
    obtain ⟨c1, o, j, r, rfl, h⟩ := aX_inv h
    simp only [ft5, Bool.and_eq_true, decide_eq_true_eq] at hf
    obtain ⟨n, hn1, hn2⟩ := wld_get (ρ := ρ) (q := q) (σ := σ) (show (c1, o, j + 1) ∈ cts from ok_h (ok_t (ok_t o2)))
    replace h : (if (ar c1 j).1 = 2 then (if x < 0 ∨ (ar c1 j).2 ≤ x.toNatClampNeg then none else k (i + 1) lv r (sA σ c1 o j (upd (gA σ c1 o j) x.toNatClampNeg (vp_nar .byte v)))) else if (ar c1 j).1 = 3 then (if x < 0 ∨ (ar c1 j).2 ≤ x.toNatClampNeg then none else k (i + 1) lv r (sA σ c1 o j (upd (gA σ c1 o j) x.toNatClampNeg (vp_nar .boolean v)))) else none) = some res := h
    by_cases h0 : (ar c1 j).1 = 2
    · rw [if_pos h0] at h
      obtain ⟨h1, h⟩ := iN h
      rw [cel_a (Or.inr (Or.inl h0)), h0] at hn2
      refine va_bast hx hb hK hP hD hS n 2 hn2 rfl h1 (dq_ok hf.1) (fun H1 locs1 hP1 hD1 hS1 => ?_)
      have hc : cel ρ q (sA σ c1 o j (upd (gA σ c1 o j) x.toNatClampNeg (vp_nar .byte v))) (c1, o, j + 1) = .inl (q 2, (ar c1 j).2, .inl (upd (gA σ c1 o j) x.toNatClampNeg (vp_nar .byte v))) := by rw [cel_sA' (Or.inr (Or.inl h0)), h0]
      rw [← hc, wld_set hn1 (fun t' h => cel_sA h)] at hP1
      have hn := hk _ _ _ _ H1 locs1 ls h hl ⟨o1, ok_t (ok_t (ok_t o2)), fun a b d z1 z2 => o3 a b d z1 z2⟩ hP1 hS1
      rw [hf.2] at hn
      exact hn
    · rw [if_neg h0] at h
      obtain ⟨h0, h⟩ := iS h
      obtain ⟨h1, h⟩ := iN h
      rw [cel_a (Or.inr (Or.inr h0)), h0] at hn2
      refine va_zast hx hb hK hP hD hS n 3 hn2 rfl h1 (dq_ok hf.1) (fun H1 locs1 hP1 hD1 hS1 => ?_)
      have hc : cel ρ q (sA σ c1 o j (upd (gA σ c1 o j) x.toNatClampNeg (vp_nar .boolean v))) (c1, o, j + 1) = .inl (q 3, (ar c1 j).2, .inl (upd (gA σ c1 o j) x.toNatClampNeg (vp_nar .boolean v))) := by rw [cel_sA' (Or.inr (Or.inr h0)), h0]
      rw [← hc, wld_set hn1 (fun t' h => cel_sA h)] at hP1
      have hn := hk _ _ _ _ H1 locs1 ls h hl ⟨o1, ok_t (ok_t (ok_t o2)), fun a b d z1 z2 => o3 a b d z1 z2⟩ hP1 hS1
      rw [hf.2] at hn
      exact hn
  | 6, hf, h =>
    obtain ⟨v, r, rfl, h⟩ := aL_inv h
    obtain ⟨x, r, rfl, h⟩ := aI_inv h
    obtain ⟨c1, o, j, r, rfl, h⟩ := aX_inv h
    obtain ⟨h0, h⟩ := iS h
    obtain ⟨h1, h⟩ := iN h
    simp only [ft5, Bool.and_eq_true, decide_eq_true_eq] at hf
    obtain ⟨n, hn1, hn2⟩ := wld_get (ρ := ρ) (q := q) (σ := σ) (show (c1, o, j + 1) ∈ cts from ok_h (ok_t (ok_t o2)))
    rw [cel_b h0, h0] at hn2
    refine va_last hx hb hK hP hD hS n 1 hn2 rfl h1 (dq_ok hf.1) (fun H1 locs1 hP1 hD1 hS1 => ?_)
    have hc : cel ρ q (sB σ c1 o j (vp_updL (gB σ c1 o j) x.toNatClampNeg v)) (c1, o, j + 1) = .inl (q 1, (ar c1 j).2, .inr (.inl (vp_updL (gB σ c1 o j) x.toNatClampNeg v))) := by rw [cel_sB' h0, h0]
    rw [← hc, wld_set hn1 (fun t' h => cel_sB h)] at hP1
    have hn := hk _ _ _ _ H1 locs1 ls h hl ⟨o1, ok_t (ok_t (ok_t o2)), fun a b d z1 z2 => o3 a b d z1 z2⟩ hP1 hS1
    rw [hf.2] at hn
    exact hn
  | 7, hf, h =>
    obtain ⟨c1, o, j, r, rfl, h⟩ := aX_inv h
    obtain ⟨h0, h⟩ := iS h
    simp only [ft5, Bool.and_eq_true, decide_eq_true_eq] at hf
    have hn := hk _ _ _ _ H locs ls h hl ⟨o1, ok_c trivial (ok_t o2), o3⟩ hP hS
    rw [hf.2] at hn
    obtain ⟨n, hn1, hn2⟩ := wld_get (ρ := ρ) (q := q) (σ := σ) (show (c1, o, j + 1) ∈ cts from ok_h o2)
    obtain ⟨ty, hty⟩ := tyq_at (q := q) _ h0
    exact va_alen hx hb hK hP n _ (show (wld ρ q σ)[n]? = some (ρ (c1, o, j + 1), .inl (q (ar c1 j).1, (ar c1 j).2, aco ρ σ c1 o j)) from hn2) hty rfl (dq_ok hf.1) hn
  | _ + 8, hf, _ => exact absurd (show false = true from hf) Bool.false_ne_true
theorem snd6 (X : CX p R s m args meth c D q ρ A M) (hk : GK p l e R s m args below meth c D q ρ A M k res) (hl : LR ρ (mL M) ls lv) (ho : OKS lv st σ) (hP : va_P D cl13 (wld ρ q σ) H) (hS : va_S A s.heap H locs) {s' : Nat}
    (hf : ft6 (mC M) pc (pcO (cod M) (i + 1)) (mO M) s' im a b = true) (h : st6 k i s' a b lv st σ = some res) : WW p l e R s m args below meth c D q ρ A res H locs (F0 m pc ls (st.map (conc ρ))) := by
  obtain ⟨hx, hb, hml, hown, hts, hN, hK, hD, -⟩ := X
  obtain ⟨o1, o2, o3⟩ := ho
  unfold st6 at h
  obtain ⟨c1, o, r, rfl, h⟩ := aO_inv h
  obtain ⟨rfl, h⟩ := iS h
  simp only [ft6, Bool.and_eq_true, decide_eq_true_eq] at hf
  obtain ⟨⟨⟨⟨⟨h1, h2⟩, h3⟩, h4⟩, h5⟩, h6⟩ := hf
  have ht : (c1, o, 0) ∈ cts := ok_h o2
  obtain ⟨n, hn1, hn2⟩ := wld_get (ρ := ρ) (q := q) (σ := σ) ht
  have row : W p l e R s m args below meth c H locs 0 0 (MQ below (QcM D q ρ A res) args s 0 0 A) (F0 m (pc + 3) ls (fldV ρ σ c1 o b :: r.map (conc ρ))) → W p l e R s m args below meth c H locs 0 0 (MQ below (QcM D q ρ A res) args s 0 0 A) (F0 m pc ls (.ref (ρ (c1, o, 0)) :: r.map (conc ρ))) := by
    intro kk
    by_cases hs : s' < 10
    · rw [if_pos hs] at h6
      have hlk : (Cond.fieldLink (cnm (mO M)) im.toNat (cTt c1 b).1 (cTt c1 b).2.1 (cTt c1 b).2.2.1).before args s = true := hts (flC (mO M, im.toNat, c1, b)) (fl_in _ (of_decide_eq_true h6))
      exact va_get (D := D) (ci := c1) (v := fldV ρ σ c1 o b) (C := cnm c1) (T := cTt c1) (N := cNn c1) hx hb hts (cl_in c1 h3) hown hK hP n hn2 (cl_at c1 h3) b h4 hlk (fun _ h9 => h9) (fs_at h4) (dq_ok h1) kk
    · rw [if_neg hs] at h6
      have hlk : (Cond.fieldLinkNest (cnm (mO M)) im.toNat (cTt c1 b).1 (cTt c1 b).2.1 (cTt c1 b).2.2.1 "RibbonRun").before args s = true := va_Nw.use (w := Cond.fieldLinkNest (cnm (mO M)) im.toNat (cTt c1 b).1 (cTt c1 b).2.1 (cTt c1 b).2.2.1 "RibbonRun") rfl (hN.1 (mO M, im.toNat, c1, b) (of_decide_eq_true h6))
      exact va_getN (D := D) (ci := c1) (v := fldV ρ σ c1 o b) (C := cnm c1) (T := cTt c1) (N := cNn c1) hx hb hts (cl_in c1 h3) hown hK hP n hn2 (cl_at c1 h3) b h4 hlk (fun _ h9 => h9) (fs_at h4) (dq_ok h1) kk
  refine row ?_
  generalize hz : s' % 10 = z at h h5
  match z, h, h5 with
  | 0, h, h5 =>
    have hv : fldV ρ σ c1 o b = .int (gI σ c1 o b) := by unfold fldV; rw [← h5]; rfl
    have hn := hk _ _ _ _ H locs ls h hl ⟨o1, ok_c trivial (ok_t o2), o3⟩ hP hS
    rw [h2] at hn
    rw [hv]
    exact hn
  | 1, h, h5 =>
    have hv : fldV ρ σ c1 o b = .int (gI σ c1 o b) := by unfold fldV; rw [← h5]; rfl
    have hn := hk _ _ _ _ H locs ls h hl ⟨o1, ok_c trivial (ok_t o2), o3⟩ hP hS
    rw [h2] at hn
    rw [hv]
    exact hn
  | 2, h, h5 =>
    have hv : fldV ρ σ c1 o b = .ref (ρ (c1, o, b + 1)) := by unfold fldV; rw [← h5]; rfl
    have hn := hk _ _ _ _ H locs ls h hl ⟨o1, ok_c (ct_arr ht h4 h5.symm) (ok_t o2), o3⟩ hP hS
    rw [h2] at hn
    rw [hv]
    exact hn
  | 3, h, h5 =>
    have hv : fldV ρ σ c1 o b = .ref (ρ (sub c1 o b)) := by unfold fldV; rw [← h5]; rfl
    have hn := hk _ _ _ _ H locs ls h hl ⟨o1, ok_c (ct_sub ht h4 h5.symm) (ok_t o2), o3⟩ hP hS
    rw [h2] at hn
    rw [hv]
    exact hn
  | 4, h, h5 =>
    have hv : fldV ρ σ c1 o b = .ref (ρ (2, gR σ c1 o b, 0)) := by unfold fldV; rw [← h5]; rfl
    have hn := hk _ _ _ _ H locs ls h hl ⟨o1, ok_c (o3 c1 o b h5.symm ht) (ok_t o2), o3⟩ hP hS
    rw [h2] at hn
    rw [hv]
    exact hn
  | 5, h, h5 =>
    have hv : fldV ρ σ c1 o b = .long (gL σ c1 o b) := by unfold fldV; rw [← h5]; rfl
    have hn := hk _ _ _ _ H locs ls h hl ⟨o1, ok_c trivial (ok_t o2), o3⟩ hP hS
    rw [h2] at hn
    rw [hv]
    exact hn
  | _ + 6, h, _ => exact absurd (show none = some res from h) (by simp)
theorem snd7 (X : CX p R s m args meth c D q ρ A M) (hk : GK p l e R s m args below meth c D q ρ A M k res) (hl : LR ρ (mL M) ls lv) (ho : OKS lv st σ) (hP : va_P D cl13 (wld ρ q σ) H) (hS : va_S A s.heap H locs) :
    ∀ s' : Nat, ft7 (mC M) pc (pcO (cod M) (i + 1)) (mO M) s' im a b = true → st7 k i s' a b lv st σ = some res → WW p l e R s m args below meth c D q ρ A res H locs (F0 m pc ls (st.map (conc ρ))) := by
  obtain ⟨hx, hb, hml, hown, hts, hN, hK, hD, -⟩ := X
  have hD := hD σ
  obtain ⟨o1, o2, o3⟩ := ho
  intro s' hf h
  simp only [ft7, Bool.and_eq_true, decide_eq_true_eq] at hf
  obtain ⟨⟨⟨⟨⟨⟨⟨h1, h2⟩, h3⟩, h4⟩, h5⟩, h6⟩, h7⟩, h8⟩ := hf
  have hlk : (Cond.fieldLink (cnm (mO M)) im.toNat (cTt a b).1 (cTt a b).2.1 (cTt a b).2.2.1).before args s = true := hts (flC (mO M, im.toNat, a, b)) (fl_in _ h6)
  match s', h5, h8, h with
  | 0, h5, h8, h =>
    obtain ⟨v, r, rfl, h⟩ := aI_inv h
    obtain ⟨c1, o, r, rfl, h⟩ := aO_inv h
    obtain ⟨rfl, h⟩ := iS h
    obtain ⟨n, hn1, hn2⟩ := wld_get (ρ := ρ) (q := q) (σ := σ) (show (c1, o, 0) ∈ cts from ok_h (ok_t o2))
    refine va_put (D := D) (ci := c1) (v := .int v) (ty := .int) (C := cnm c1) (T := cTt c1) (N := cNn c1) hx hb hts (cl_in c1 h3) (cTy c1) (cl_ty c1 h3) (cl_nm c1 h3) hown hK hP hD hS n hn2 (cl_at c1 h3) b h4 hlk (fun _ h9 => h9) h7 ((cl_ty c1 h3 b h4).trans (congrArg some (of_decide_eq_true h8))) rfl rfl (by simpa using h4) (dq_ok h1) (fun H1 locs1 hP1 hD1 hS1 => ?_)
    rw [cel_sI' (ρ := ρ) (q := q) h4 (Or.inl h5.symm), wld_set hn1 (fun t' h => cel_sI h)] at hP1
    have hn := hk _ _ _ _ H1 locs1 ls h hl ⟨o1, ok_t (ok_t o2), fun a b d z1 z2 => o3 a b d z1 z2⟩ hP1 hS1
    rw [h2] at hn
    exact hn
  | 1, h5, h8, h =>
    obtain ⟨v, r, rfl, h⟩ := aI_inv h
    obtain ⟨c1, o, r, rfl, h⟩ := aO_inv h
    obtain ⟨rfl, h⟩ := iS h
    obtain ⟨hv, h⟩ := iS h
    obtain ⟨n, hn1, hn2⟩ := wld_get (ρ := ρ) (q := q) (σ := σ) (show (c1, o, 0) ∈ cts from ok_h (ok_t o2))
    refine va_put (D := D) (ci := c1) (v := .int v) (ty := .boolean) (C := cnm c1) (T := cTt c1) (N := cNn c1) hx hb hts (cl_in c1 h3) (cTy c1) (cl_ty c1 h3) (cl_nm c1 h3) hown hK hP hD hS n hn2 (cl_at c1 h3) b h4 hlk (fun _ h9 => h9) h7 ((cl_ty c1 h3 b h4).trans (congrArg some (of_decide_eq_true h8))) (by rcases hv with rfl | rfl <;> rfl) (by rcases hv with rfl | rfl <;> rfl) (by simpa using h4) (dq_ok h1) (fun H1 locs1 hP1 hD1 hS1 => ?_)
    rw [cel_sI' (ρ := ρ) (q := q) h4 (Or.inr h5.symm), wld_set hn1 (fun t' h => cel_sI h)] at hP1
    have hn := hk _ _ _ _ H1 locs1 ls h hl ⟨o1, ok_t (ok_t o2), fun a b d z1 z2 => o3 a b d z1 z2⟩ hP1 hS1
    rw [h2] at hn
    exact hn
  | 4, h5, h8, h =>
    obtain ⟨d, g, r, rfl, h⟩ := aO_inv h
    obtain ⟨c1, o, r, rfl, h⟩ := aO_inv h
    obtain ⟨rfl, h⟩ := iS h
    obtain ⟨rfl, h⟩ := iS h
    obtain ⟨n, hn1, hn2⟩ := wld_get (ρ := ρ) (q := q) (σ := σ) (show (c1, o, 0) ∈ cts from ok_h (ok_t o2))
    refine va_put (D := D) (ci := c1) (v := .ref (ρ (2, g, 0))) (ty := .object "RibbonRun$Garden") (C := cnm c1) (T := cTt c1) (N := cNn c1) hx hb hts (cl_in c1 h3) (cTy c1) (cl_ty c1 h3) (cl_nm c1 h3) hown hK hP hD hS n hn2 (cl_at c1 h3) b h4 hlk (fun _ h9 => h9) h7 ((cl_ty c1 h3 b h4).trans (congrArg some (of_decide_eq_true h8))) rfl rfl (by simpa using h4) (dq_ok h1) (fun H1 locs1 hP1 hD1 hS1 => ?_)
    rw [cel_sR' (ρ := ρ) (q := q) h4 h5.symm, wld_set hn1 (fun t' h => cel_sR h)] at hP1
    have hg : (2, g, 0) ∈ cts := ok_h o2
    have hn := hk _ _ _ _ H1 locs1 ls h hl ⟨o1, ok_t (ok_t o2), fun a' b' d' z1 z2 => by
      by_cases hz : a' = c1 ∧ b' = o ∧ d' = b
      · rw [show gR (sR σ c1 o b g) a' b' d' = g from by rw [hz.1, hz.2.1, hz.2.2]; exact u3_s]
        exact hg
      · rw [show gR (sR σ c1 o b g) a' b' d' = gR σ a' b' d' from u3_n hz]
        exact o3 a' b' d' z1 z2⟩ hP1 hS1
    rw [h2] at hn
    exact hn
  | 5, h5, h8, h =>
    obtain ⟨v, r, rfl, h⟩ := aL_inv h
    obtain ⟨c1, o, r, rfl, h⟩ := aO_inv h
    obtain ⟨rfl, h⟩ := iS h
    obtain ⟨n, hn1, hn2⟩ := wld_get (ρ := ρ) (q := q) (σ := σ) (show (c1, o, 0) ∈ cts from ok_h (ok_t o2))
    refine va_put (D := D) (ci := c1) (v := .long v) (ty := .long) (C := cnm c1) (T := cTt c1) (N := cNn c1) hx hb hts (cl_in c1 h3) (cTy c1) (cl_ty c1 h3) (cl_nm c1 h3) hown hK hP hD hS n hn2 (cl_at c1 h3) b h4 hlk (fun _ h9 => h9) h7 ((cl_ty c1 h3 b h4).trans (congrArg some (of_decide_eq_true h8))) rfl rfl (by simpa using h4) (dq_ok h1) (fun H1 locs1 hP1 hD1 hS1 => ?_)
    rw [cel_sL' (ρ := ρ) (q := q) h4 h5.symm, wld_set hn1 (fun t' h => cel_sL h)] at hP1
    have hn := hk _ _ _ _ H1 locs1 ls h hl ⟨o1, ok_t (ok_t o2), fun a b d z1 z2 => o3 a b d z1 z2⟩ hP1 hS1
    rw [h2] at hn
    exact hn
  | 2, _, h8, _ => exact absurd (show false = true from h8) Bool.false_ne_true
  | 3, _, h8, _ => exact absurd (show false = true from h8) Bool.false_ne_true
  | _ + 6, _, h8, _ => exact absurd (show false = true from h8) Bool.false_ne_true
theorem snd9 (X : CX p R s m args meth c D q ρ A M) (ho : OKS lv st σ) (hP : va_P D cl13 (wld ρ q σ) H) (hS : va_S A s.heap H locs) :
    ∀ s' : Nat, ft9 (mC M) pc s' (mR M) = true → st9 s' st σ = some res → WW p l e R s m args below meth c D q ρ A res H locs (F0 m pc ls (st.map (conc ρ))) := by
  obtain ⟨hx, hb, hml, hown, hts, hN, hK, hD, -, -, hr, hlocks⟩ := X
  obtain ⟨o1, o2, o3⟩ := ho
  intro s' hf h
  match s', hf, h with
  | 0, hf, h =>
    obtain ⟨x, r, rfl, h⟩ := aI_inv h
    obtain ⟨rfl, h⟩ := aE_inv h
    cases h
    simp only [ft9, Bool.and_eq_true, decide_eq_true_eq] at hf
    exact W.iret (v := x) hx hb (hr.trans hf.2) (fun t ht hW => ⟨rfl, fun w hw => by cases hw; trivial, o3, by rw [ht]; exact hP, hS.F ht⟩) hS.2.2 (dq_ok hf.1) hlocks
  | 1, hf, h =>
    obtain ⟨x, r, rfl, h⟩ := aI_inv h
    obtain ⟨rfl, h⟩ := aE_inv h
    obtain ⟨hv, h⟩ := iS h
    cases h
    simp only [ft9, Bool.and_eq_true, decide_eq_true_eq] at hf
    exact W.zret (v := x) hx hb (hr.trans hf.2) (by rcases hv with rfl | rfl <;> rfl) (fun t ht hW => ⟨rfl, fun w hw => by cases hw; trivial, o3, by rw [ht]; exact hP, hS.F ht⟩) hS.2.2 (dq_ok hf.1) hlocks
  | 2, hf, h =>
    obtain ⟨x, r, rfl, h⟩ := aL_inv h
    obtain ⟨rfl, h⟩ := aE_inv h
    cases h
    simp only [ft9, Bool.and_eq_true, decide_eq_true_eq] at hf
    exact W.lret (v := x) hx hb (hr.trans hf.2) (fun t ht hW => ⟨rfl, fun w hw => by cases hw; trivial, o3, by rw [ht]; exact hP, hS.F ht⟩) hS.2.2 (dq_ok hf.1) hlocks
  | 3, hf, h =>
    obtain ⟨x, r, rfl, h⟩ := aR_inv h
    obtain ⟨rfl, h⟩ := aE_inv h
    cases h
    simp only [ft9, Bool.and_eq_true, decide_eq_true_eq] at hf
    exact W.aret (v := .ref (ρ x)) hx hb (hr.trans hf.2) (Or.inl ⟨_, rfl⟩) (Or.inr ⟨_, rfl⟩) (fun t ht hW => ⟨rfl, fun w hw => by cases hw; exact ok_h o2, o3, by rw [ht]; exact hP, hS.F ht⟩) hS.2.2 (dq_ok hf.1) hlocks
  | 4, hf, h =>
    obtain ⟨rfl, h⟩ := aE_inv h
    cases h
    simp only [ft9, Bool.and_eq_true, decide_eq_true_eq] at hf
    exact W.vret hx hb (hr.trans hf.2) (fun t ht hW => ⟨rfl, fun w hw => (by cases hw), o3, by rw [ht]; exact hP, hS.F ht⟩) hS.2.2 (dq_ok hf.1) hlocks
  | _ + 5, hf, _ => exact absurd (show false = true from hf) Bool.false_ne_true
/-- calls: what the callee's contract is -/
def wsM (M : Nat) : List Cond := Cond.code (mY M) (mC M) (mL M) (mR M) :: tbG
def rmM (M : Nat) : Room := { frames := mF M, cells := 0, slots := 0, locals := mQ M }
def PcM (D : va_G) (q : Nat → ClassId) (ρ : Nat × Nat × Nat → Nat) (as : List AV) (σ : ST) (sz : Nat) : Array Value → State → Prop := va_Pc (as.map (conc ρ)) (fun U => U.heap.size = sz ∧ va_P D cl13 (wld ρ q σ) U.heap ∧ va_K D cl13 (tyq q) U ∧ NW U ∧ va_D (fun _ => True) (wld ρ q σ))
def HC (l : Launch) (D : va_G) (q : Nat → ClassId) (ρ : Nat × Nat × Nat → Nat) (cal : CT) : Prop := ∀ (a : Nat) (as : List AV) (σ : ST) (v : Option AV) (σ' : ST), a < nM → cal a as σ = some (v, σ') → (∀ w ∈ as, okv w) → okR σ → ∀ sz : Nat, Met l (mY a) (wsM a) (rmM a) (PcM D q ρ as σ sz) (QcM D q ρ (Aw ρ sz) (v, σ')) 0 0 (Aw ρ sz)
theorem good_G {ws : List Cond} (h : ∀ w ∈ ws, w ∈ tbG) : GoodIn tbG ws := fun w hw => ⟨h w hw, good_of_word (tbG_good (h w hw))⟩
theorem wsM_in {a : Nat} (ha : a < nM) : ∀ w ∈ wsM a, w ∈ tbG := fun w hw => by
  rcases List.mem_cons.mp hw with rfl | hw
  · exact mc_all a (List.mem_range.mpr ha)
  · exact hw
theorem pl_ok {a : Nat} (ha : a < nM) : (mY a).cls = cnm (mO a) ∧ (mY a).cls ≠ "java/lang/invoke/MethodHandle" ∧ (mY a).cls ≠ "java/lang/invoke/VarHandle" ∧ (parseMethodDescriptor (mY a).desc).map (fun d => d.parameters.length) = some (mP a) ∧ Jvm.plainName (mY a).cls = true ∧ (mO a < 13 ∨ mS a = true) ∧ (if mS a = true then a ∈ stT else a ∈ nsT) := by
  have h := mPl_ok a (List.mem_range.mpr ha)
  simp only [mPl, Bool.and_eq_true, decide_eq_true_eq] at h
  obtain ⟨⟨⟨⟨⟨⟨h1, h2⟩, h3⟩, h4⟩, h5⟩, h6⟩, h7⟩ := h
  exact ⟨h1, h2, h3, h4, h5, h6, h7⟩
theorem pre_blind (as : List AV) (σ : ST) (sz : Nat) : FrameBlind (PcM D q ρ as σ sz) := fun a U g mk z => by
  obtain ⟨q0, q1, qP, qK, qN, qD⟩ := z
  exact ⟨q0, q1, qP, va_K.moved (u := U) (U := U.calling g mk a) (Vm.Alike.refl U.vm) qK, NW.same rfl qN, qD⟩
theorem snd_call {ls : Array Slot} {st0 : List Value} {rest : List AV} {v : Option AV} {σ' : ST} {av : Array Value} (hS : va_S A s.heap H locs) (hAA : ∀ x, Aw ρ H.size x → A x)
    (hr : va_Run p l e R s m args below meth c H locs 0 0 0 0 (F0 m pc ls st0) (rest.map (conc ρ)) (QcM D q ρ (Aw ρ H.size) (v, σ') av) (Aw ρ H.size))
    (kk : ∀ (H1 : Heap) (locs1 : List Loc), (∀ w, v = some w → okv w) → okR σ' → va_P D cl13 (wld ρ q σ') H1 → va_S A s.heap H1 locs1 → WW p l e R s m args below meth c D q ρ A res H1 locs1 (F0 m (pc + 3) ls ((v.toList ++ rest).map (conc ρ)))) : WW p l e R s m args below meth c D q ρ A res H locs (F0 m pc ls st0) := by
  intro T hT X
  obtain ⟨v', st₀, t, T', L, h0, X', hL, e1, e2, ⟨hv, ho, hR', hP', hz, hkp⟩, st⟩ := hr T hT X
  have hv' : v' = v.map (conc ρ) := by
    injection hv
  subst hv'
  rw [h0] at hz hkp
  obtain ⟨t2, a1, b1⟩ := kk T'.heap (locs ++ L) ho hR' (by rw [e1]; exact hP') ⟨Nat.le_trans hS.1 (by rw [e1]; exact hz), fun x h1 h2 => by rw [e1, hkp x (Nat.lt_of_lt_of_le h1 hS.1) (fun z => h2 (hAA x z))]; exact hS.2.1 x h1 h2, fun x hx => by
      rcases List.mem_append.mp hx with h | h
      · exact hS.2.2 x h
      · exact hAA _ (hL x h)⟩ T' rfl X'
  refine ⟨t2, st t2 ?_, b1⟩
  have e3 : ((v.toList ++ rest).map (conc ρ)) = (v.map (conc ρ)).toList ++ rest.map (conc ρ) := by cases v <;> rfl
  rw [e3] at a1
  exact a1
theorem rcv_inv {a : Nat} : ∀ {as : List AV}, rcv 0 a as = true → ∃ (o : Nat) (as' : List AV), as = vR (mO a) o 0 :: as'
  | .inr (.inr (c, o, 0)) :: r, h => by
    have := of_decide_eq_true (show decide (c = mO a) = true from h)
    subst this
    exact ⟨o, r, rfl⟩
  | .inr (.inr (_, _, _ + 1)) :: r, h => by simp [rcv] at h
  | [], h => by simp [rcv] at h
  | .inl _ :: _, h => by simp [rcv] at h
  | .inr (.inl _) :: _, h => by simp [rcv] at h
theorem snd8 (X : CX p R s m args meth c D q ρ A M) {cal : CT} (hc : HC l D q ρ cal) (hk : GK p l e R s m args below meth c D q ρ A M k res) (hl : LR ρ (mL M) ls lv) (ho : OKS lv st σ) (hP : va_P D cl13 (wld ρ q σ) H) (hS : va_S A s.heap H locs) :
    ∀ s' : Nat, ft8 (mC M) pc (pcO (cod M) (i + 1)) (mO M) (mF M) (mQ M) s' im a b = true → st8 cal k i s' a b lv st σ = some res → WW p l e R s m args below meth c D q ρ A res H locs (F0 m pc ls (st.map (conc ρ))) := by
  obtain ⟨hx, hb, hml, hown, hts, hN, hK, hD, hA, hR, hr, hlocks⟩ := X
  obtain ⟨o1, o2, o3⟩ := ho
  subst hR
  have hAA : ∀ x, Aw ρ H.size x → A x := fun x hx => by
    rcases hx with ⟨t, ht, rfl⟩ | hx
    · exact wld_DA (hD σ) t ht
    · exact hA x (Nat.le_trans hS.1 hx)
  have hDT : va_D (fun _ => True) (wld ρ q σ) := (hD σ).weaken (fun _ _ _ _ => trivial)
  -- what every call shares
  have key : ∀ s', s' ≠ 4 → st8 cal k i s' a b lv st σ = some res → ∃ (as r : List AV) (v : Option AV) (σ' : ST), st = as.reverse ++ r ∧ as.length = b ∧ rcv s' a as = true ∧ catS r ≤ 8 ∧ cal a as σ = some (v, σ') ∧ k (i + 1) lv (v.toList ++ r) σ' = some res ∧ (∀ w ∈ as, okv w) ∧ ∀ w ∈ r, okv w := by
    intro s' hs h
    unfold st8 at h
    rw [if_neg hs] at h
    cases hsp : spl b st [] with
    | none => rw [hsp] at h; cases h
    | some z =>
      obtain ⟨as, r⟩ := z
      rw [hsp] at h
      obtain ⟨⟨h1, h2⟩, h⟩ := iS h
      cases hcl : cal a as σ with
      | none => rw [hcl] at h; cases h
      | some y =>
        obtain ⟨v, σ'⟩ := y
        rw [hcl] at h
        obtain ⟨lst, g1, g2, g3⟩ := spl_eq _ _ _ _ _ hsp
        have g4 : lst = as.reverse := by rw [g3, List.append_nil, List.reverse_reverse]
        refine ⟨as, r, v, σ', by rw [← g4]; exact g2, by rw [g3]; simpa using g1, h1, h2, hcl, h, fun w hw => o2 w ?_, fun w hw => o2 w ?_⟩
        · rw [g2, g4]
          exact List.mem_append_left _ (List.mem_reverse.mpr hw)
        · rw [g2]
          exact List.mem_append_right _ hw
  intro s' hf h
  match s', hf, h with
  | 0, hf, h =>
    simp only [ft8, Bool.and_eq_true, decide_eq_true_eq] at hf
    obtain ⟨⟨⟨⟨⟨⟨⟨h1, h2⟩, h3⟩, h4⟩, h5⟩, h6⟩, h7⟩, h8⟩ := hf
    obtain ⟨as, r, v, σ', rfl, g2, g3, g4, g5, g6, g7, g8⟩ := key 0 (by decide) h
    obtain ⟨o, as', rfl⟩ := rcv_inv g3
    obtain ⟨p1, p2, p3, p4, p5, p6, p7⟩ := pl_ok h4
    rw [h5] at p6 p7
    have p7 : a ∈ nsT := by simpa using p7
    have p6 : mO a < 13 := by rcases p6 with z | z; exact z; cases z
    obtain ⟨n, hn1, hn2⟩ := wld_get (ρ := ρ) (q := q) (σ := σ) (show (mO a, o, 0) ∈ cts from ok_h g7)
    have hini : (Cond.initialized (mY a).cls).before args s = true := by rw [p1]; exact hts _ (mn_in a (List.mem_range.mpr h4))
    have hlk : (Cond.methodLink (cnm (mO M)) im.toNat (mY a)).before args s = true := hts (mlC (mO M, im.toNat, a)) (ml_in _ h3)
    have cw : CallW ({ frames := mF M, cells := 0, slots := 0, locals := mQ M } : Room) s args (cnm (mO M)) (cnm (mO a)) im.toNat (mY a) (mC a) (mL a) (mR a) (wsM a) (rmM a) 0 0 (mP a) := ⟨callB_of (mP a) hts (good_G (wsM_in h4)) rfl rfl rfl hini hlk ⟨p2, p3, p4⟩ ⟨h7, h8⟩, hts _ (mi_in a p7), hts _ (mse_in a p7)⟩
    have hn : as'.length = mP a := by simp at g2; omega
    have hrun := va_runV (p := p) (l := l) (e := e) (m := m) (below := below) (meth := meth) (c := c) (locs := locs) (cells := 0) (slots := 0) (As := as'.map (conc ρ)) (rest := r.map (conc ρ)) (b := ρ (mO a, o, 0)) (g := F0 m pc ls (((vR (mO a) o 0 :: as').reverse ++ r).map (conc ρ))) ⟨hx, hb, hml, hown, hts⟩ (hc a (vR (mO a) o 0 :: as') σ v σ' h4 g5 g7 o3 H.size) cw ⟨pre_blind _ _ _, va_recv hK hP (cl_at _ p6) hn2, fun U hU hW => ⟨rfl, by rw [hU], by rw [hU]; exact hP, va_K.moved hW.alike hK, NW.warm hW hN, hDT⟩⟩ rfl (by rw [List.length_map]; exact hn) hl.2.1 (by simp [conc]) (lv_room (by rw [catS_ok]; exact g4)) (dq_ok h1) ⟨Nat.le_refl _, Nat.le_refl _⟩
    refine snd_call hS hAA hrun (fun H1 locs1 w1 w2 hP1 hS1 => ?_)
    have hn := hk _ _ _ _ H1 locs1 ls g6 hl ⟨o1, fun w hw => by
      rcases List.mem_append.mp hw with z | z
      · exact w1 w (by cases v with
          | none => cases z
          | some y => rw [List.mem_singleton.mp z])
      · exact g8 w z, w2⟩ hP1 hS1
    rw [h2] at hn
    exact hn
  | 1, hf, h =>
    simp only [ft8, Bool.and_eq_true, decide_eq_true_eq] at hf
    obtain ⟨⟨⟨⟨⟨⟨⟨h1, h2⟩, h3⟩, h4⟩, h5⟩, h6⟩, h7⟩, h8⟩ := hf
    obtain ⟨as, r, v, σ', rfl, g2, g3, g4, g5, g6, g7, g8⟩ := key 1 (by decide) h
    obtain ⟨p1, p2, p3, p4, p5, p6, p7⟩ := pl_ok h4
    rw [h5] at p7
    have p7 : a ∈ stT := by simpa using p7
    have hini : (Cond.initialized (mY a).cls).before args s = true := by rw [p1]; exact hts _ (mn_in a (List.mem_range.mpr h4))
    have hlk : (Cond.methodLink (cnm (mO M)) im.toNat (mY a)).before args s = true := hts (mlC (mO M, im.toNat, a)) (ml_in _ h3)
    have cw : CallB ({ frames := mF M, cells := 0, slots := 0, locals := mQ M } : Room) s args (cnm (mO M)) im.toNat (mY a) (mC a) (mL a) (mR a) (wsM a) (rmM a) 0 0 (mP a) := callB_of (mP a) hts (good_G (wsM_in h4)) rfl rfl rfl hini hlk ⟨p2, p3, p4⟩ ⟨h7, h8⟩
    have hn : as.length = mP a := by omega
    have hrun := va_runS (p := p) (l := l) (e := e) (m := m) (below := below) (meth := meth) (c := c) (locs := locs) (cells := 0) (slots := 0) (As := as.map (conc ρ)) (rest := r.map (conc ρ)) (g := F0 m pc ls ((as.reverse ++ r).map (conc ρ))) ⟨hx, hb, hml, hown, hts⟩ (hc a as σ v σ' h4 g5 g7 o3 H.size) ⟨cw, hts _ (mt_in a p7)⟩ ⟨pre_blind _ _ _, fun U hU hW => ⟨rfl, by rw [hU], by rw [hU]; exact hP, va_K.moved hW.alike hK, NW.warm hW hN, hDT⟩⟩ rfl (by rw [List.length_map]; exact hn) hl.2.1 (by simp) (lv_room (by rw [catS_ok]; exact g4)) (dq_ok h1) ⟨Nat.le_refl _, Nat.le_refl _⟩
    refine snd_call hS hAA hrun (fun H1 locs1 w1 w2 hP1 hS1 => ?_)
    have hn := hk _ _ _ _ H1 locs1 ls g6 hl ⟨o1, fun w hw => by
      rcases List.mem_append.mp hw with z | z
      · exact w1 w (by cases v with
          | none => cases z
          | some y => rw [List.mem_singleton.mp z])
      · exact g8 w z, w2⟩ hP1 hS1
    rw [h2] at hn
    exact hn
  | 3, hf, h =>
    simp only [ft8, Bool.and_eq_true, decide_eq_true_eq] at hf
    obtain ⟨⟨⟨⟨⟨⟨⟨h1, h2⟩, h3⟩, h4⟩, h5⟩, h6⟩, h7⟩, h8⟩ := hf
    obtain ⟨as, r, v, σ', rfl, g2, g3, g4, g5, g6, g7, g8⟩ := key 3 (by decide) h
    obtain ⟨p1, p2, p3, p4, p5, p6, p7⟩ := pl_ok h4
    rw [h5] at p7
    have p7 : a ∈ stT := by simpa using p7
    have hini : (Cond.initialized (mY a).cls).before args s = true := by rw [p1]; exact hts _ (mn_in a (List.mem_range.mpr h4))
    have hlk : va_Nw (Cond.methodLinkNest (cnm (mO M)) im.toNat (mY a) "RibbonRun") s := hN.2 (mO M, im.toNat, a) h3
    have cw : va_CN ({ frames := mF M, cells := 0, slots := 0, locals := mQ M } : Room) s args (cnm (mO M)) im.toNat (mY a) "RibbonRun" (mC a) (mL a) (mR a) (wsM a) (rmM a) 0 0 (mP a) := va_cnB (mP a) hts (good_G (wsM_in h4)) rfl rfl rfl hlk hini ⟨p2, p3, p4⟩ ⟨h7, h8⟩
    have hn : as.length = mP a := by omega
    have hrun := va_runSN (p := p) (l := l) (e := e) (m := m) (below := below) (meth := meth) (c := c) (locs := locs) (cells := 0) (slots := 0) (As := as.map (conc ρ)) (rest := r.map (conc ρ)) (g := F0 m pc ls ((as.reverse ++ r).map (conc ρ))) ⟨hx, hb, hml, hown, hts⟩ (hc a as σ v σ' h4 g5 g7 o3 H.size) ⟨cw, hts _ (mt_in a p7), trivial⟩ ⟨pre_blind _ _ _, fun U hU hW => ⟨rfl, by rw [hU], by rw [hU]; exact hP, va_K.moved hW.alike hK, NW.warm hW hN, hDT⟩⟩ rfl (by rw [List.length_map]; exact hn) hl.2.1 (by simp) (lv_room (by rw [catS_ok]; exact g4)) (dq_ok h1) ⟨Nat.le_refl _, Nat.le_refl _⟩
    refine snd_call hS hAA hrun (fun H1 locs1 w1 w2 hP1 hS1 => ?_)
    have hn := hk _ _ _ _ H1 locs1 ls g6 hl ⟨o1, fun w hw => by
      rcases List.mem_append.mp hw with z | z
      · exact w1 w (by cases v with
          | none => cases z
          | some y => rw [List.mem_singleton.mp z])
      · exact g8 w z, w2⟩ hP1 hS1
    rw [h2] at hn
    exact hn
  | 4, hf, h =>
    simp only [ft8, Bool.and_eq_true, decide_eq_true_eq] at hf
    obtain ⟨⟨⟨⟨h1, h2⟩, h3⟩, h4⟩, h5⟩ := hf
    replace h : cpo k i lv st σ = some res := h
    unfold cpo at h
    obtain ⟨n, r1, e1, h⟩ := aI_inv h
    obtain ⟨dp, r2, e2, h⟩ := aI_inv h
    obtain ⟨c1, o, j, r3, e3, h⟩ := aX_inv h
    obtain ⟨sp, r4, e4, h⟩ := aI_inv h
    obtain ⟨c0, o0, j0, r, e5, h⟩ := aX_inv h
    subst e5
    subst e4
    subst e3
    subst e2
    subst e1
    obtain ⟨⟨g1, g2, g3⟩, h⟩ := iS h
    obtain ⟨g4, h⟩ := iN h
    obtain ⟨n1, hn1, hn2⟩ := wld_get (ρ := ρ) (q := q) (σ := σ) (show (c1, o, j + 1) ∈ cts from ok_h (ok_t (ok_t o2)))
    obtain ⟨n0, hm1, hm2⟩ := wld_get (ρ := ρ) (q := q) (σ := σ) (show (c0, o0, j0 + 1) ∈ cts from ok_h (ok_t (ok_t (ok_t (ok_t o2)))))
    rw [cel_a (Or.inl g1), g1] at hn2
    rw [cel_a (Or.inl g2), g2] at hm2
    have hlk : (Cond.methodLink (cnm (mO M)) im.toNat acN).before args s = true := hts (cpC (mO M, im.toNat)) (cp_in _ h3)
    refine va_copyi hx hb (hml.trans hl.2.1.symm) hown hlk (hts _ (cp_w _ (List.mem_of_getElem? (i := 0) rfl))) (hts _ (cp_w _ (List.mem_of_getElem? (i := 1) rfl))) (hts _ (cp_w _ (List.mem_of_getElem? (i := 2) rfl))) hK hP (hD σ) hS n0 n1 0 0 hm2 hn2 rfl rfl rfl (fun z => g4 (Or.inl z)) (fun z => g4 (Or.inr (Or.inl z))) (fun z => g4 (Or.inr (Or.inr (Or.inl z)))) (Nat.not_lt.mp fun z => g4 (Or.inr (Or.inr (Or.inr (Or.inl z))))) (Nat.not_lt.mp fun z => g4 (Or.inr (Or.inr (Or.inr (Or.inr z))))) (fun _ _ => rfl) h4 (by rw [catS_ok]; exact Nat.le_trans (Nat.add_le_add_right g3 _) h5) (dq_ok h1) (fun H1 locs1 hP1 hD1 hS1 => ?_)
    have hcc : cel ρ q (sA σ c1 o j (va_cpy (gA σ c0 o0 j0) (gA σ c1 o j) sp.toNatClampNeg dp.toNatClampNeg n.toNatClampNeg)) (c1, o, j + 1) = .inl (q 0, (ar c1 j).2, .inl (va_cpy (gA σ c0 o0 j0) (gA σ c1 o j) sp.toNatClampNeg dp.toNatClampNeg n.toNatClampNeg)) := by rw [cel_sA' (Or.inl g1), g1]
    rw [← hcc, wld_set hn1 (fun t' h => cel_sA h)] at hP1
    have hn := hk _ _ _ _ H1 locs1 ls h hl ⟨o1, ok_t (ok_t (ok_t (ok_t (ok_t o2)))), fun a b d z1 z2 => o3 a b d z1 z2⟩ hP1 hS1
    rw [h2] at hn
    exact hn
  | 2, hf, _ => exact absurd (show false = true from hf) Bool.false_ne_true
  | _ + 5, hf, _ => exact absurd (show false = true from hf) Bool.false_ne_true
/-- a method's body -/
theorem snd_ex (X : CX p R s m args meth c D q ρ A M) (hM : M < nM) {cal : CT} (hc : HC l D q ρ cal) : ∀ f : Nat, GK p l e R s m args below meth c D q ρ A M (ex cal (cod M) f) res
  | 0 => fun i lv st σ H locs ls h => by cases h
  | f + 1 => fun i lv st σ H locs ls h hl ho hP hS => by
    have hfit := (fit_all M (List.mem_range.mpr hM)).2
    have ih := snd_ex X hM hc f
    replace h : (match (cod M)[i]? with
      | none => none
      | some op => stp cal (ex cal (cod M) f) i op lv st σ) = some res := h
    cases hop : (cod M)[i]? with
    | none => rw [hop] at h; cases h
    | some op =>
      rw [hop] at h
      have ho1 := fitL_at _ _ _ _ _ _ _ _ _ hfit i op hop
      rw [Nat.zero_add] at ho1
      obtain ⟨g, s', pc, im, a, b⟩ := op
      have hpc : pcO (cod M) i = pc := by rw [pcO, hop]
      rw [hpc]
      match g, ho1, h with
      | 0, ho1, h => exact snd0 X ih hl ho hP hS s' ho1 h
      | 1, ho1, h => exact snd1 X ih hl ho hP hS s' ho1 h
      | 2, ho1, h => exact snd2 X ih hl ho hP hS s' ho1 h
      | 3, ho1, h => exact snd3 X ih hl ho hP hS s' ho1 h
      | 4, ho1, h => exact snd4 X ih hl ho hP hS s' ho1 h
      | 5, ho1, h => exact snd5 X ih hl ho hP hS s' ho1 h
      | 6, ho1, h => exact snd6 X ih hl ho hP hS ho1 h
      | 7, ho1, h => exact snd7 X ih hl ho hP hS s' ho1 h
      | 8, ho1, h => exact snd8 X hc ih hl ho hP hS s' ho1 h
      | 9, ho1, h => exact snd9 X ho hP hS s' ho1 h
      | _ + 10, ho1, _ => exact absurd (show false = true from ho1) Bool.false_ne_true
end SND
theorem ent1_mem : ∀ (as : List AV) (w : AV), some w ∈ ent1 as → w ∈ as
  | [], w, h => by simp [ent1] at h
  | .inl x :: r, w, h => by
    rw [ent1] at h
    · rcases List.mem_cons.mp h with h | h
      · cases h; exact List.mem_cons_self
      · exact List.mem_cons_of_mem _ (ent1_mem r w h)
    · rintro y z; cases z
  | .inr (.inr x) :: r, w, h => by
    rw [ent1] at h
    · rcases List.mem_cons.mp h with h | h
      · cases h; exact List.mem_cons_self
      · exact List.mem_cons_of_mem _ (ent1_mem r w h)
    · rintro y z; cases z
  | .inr (.inl x) :: r, w, h => by
    rw [ent1] at h
    rcases List.mem_cons.mp h with h | h
    · cases h; exact List.mem_cons_self
    · rcases List.mem_cons.mp h with h | h
      · cases h
      · exact List.mem_cons_of_mem _ (ent1_mem r w h)
set_option maxHeartbeats 4000000 in
/-- EVERY METHOD OF THE TABLE: what it answers abstractly, it answers -/
theorem snd_met (l : Launch) (D : va_G) (q : Nat → ClassId) (ρ : Nat × Nat × Nat → Nat) : ∀ f : Nat, HC l D q ρ (exM f)
  | 0 => fun a as σ v σ' ha h => by cases h
  | f + 1 => fun a as σ v σ' ha h hok hoR sz => by
    have ih := snd_met l D q ρ f
    obtain ⟨hle, h⟩ := iS (show (if (ent1 as).length ≤ mL a then ex (exM f) (cod a) (f + 1) 0 (ent a as) [] σ else none) = some (v, σ') from h)
    obtain ⟨p1, p2, p3, p4, p5, p6, p7⟩ := pl_ok ha
    refine Met.ofW (cc := mC a) (maxL := mL a) (ret := mR a) p5 rfl ?_
    intro p e s m args below meth c s₁ B hml hv
    obtain ⟨rfl, hsz, hP, hK, hN, hD0⟩ := hv
    have hx := B.exec
    have hb := B.bytes
    have hr := B.returns
    have hts0 := atoms_spec (ws := wsM a) B.pre
    have hts : ∀ w ∈ tbG, w.before (as.map (conc ρ)).toArray s = true := fun w hw => hts0 w (List.mem_cons_of_mem _ hw)
    have hown : s.vm.findClass (cnm (mO a)) = some m.cls := by rw [← p1]; exact findClass_of_methodNamed B.named
    have hlocks := B.notSynchronized
    subst hsz
    have hl := lv_entry (as.map (conc ρ)) (n := mL a) (by rw [ent1_len]; exact hle)
    rw [lg_entry_eq]
    generalize (lg_sl (as.map (conc ρ)) ++ List.replicate (mL a - (lg_sl (as.map (conc ρ))).length) Slot.unset).toArray = ls at hl ⊢
    have hLR : LR ρ (mL a) ls (ent a as) := by
      refine LR.of ?_ hl fun j w hj => ?_
      · rw [ent, List.length_append, List.length_replicate]
        omega
      · have hj2 : (ent1 as)[j]? = some (some w) := by
          by_cases hlt : j < (ent1 as).length
          · rw [ent, List.getElem?_append_left hlt] at hj
            exact hj
          · rw [ent, List.getElem?_append_right (by omega)] at hj
            have := List.eq_of_mem_replicate (List.mem_of_getElem? hj)
            cases this
        have := ent1_args (ρ := ρ) as 0 j w hj2
        rwa [Nat.zero_add] at this
    have hoL : ∀ w, some w ∈ ent a as → okv w := fun w hw => by
      rw [ent] at hw
      rcases List.mem_append.mp hw with z | z
      · exact hok w (ent1_mem as w z)
      · have := List.eq_of_mem_replicate z
        cases this
    have X : CX p (headSpec (wsM a) (rmM a)).room s m (as.map (conc ρ)).toArray meth c D q ρ (Aw ρ s.heap.size) a := ⟨hx, hb, hml, hown, hts, hN, hK, fun σ' => wld_D hD0 (fun t ht => Or.inl ⟨t, ht, rfl⟩), fun x hx => Or.inr hx, rfl, hr, hlocks⟩
    have := snd_ex (l := l) (e := e) (below := below) (res := (v, σ')) X ha ih (f + 1) 0 (ent a as) [] σ s.heap [] ls h hLR ⟨hoL, fun w hw => (by cases hw), hoR⟩ hP va_S.rf
    rw [(fit_all a (List.mem_range.mpr ha)).1] at this
    exact this
end
section
/-! THE LIMIT: methods as functions without fuel, and their equations -/
def Lim (x : Nat → RS) (y : RS) : Prop := (∀ n r, x n = some r → y = some r) ∧ ∀ r, y = some r → ∃ n, ∀ m, n ≤ m → x m = some r
theorem Lim.c (y : RS) : Lim (fun _ => y) y := ⟨fun _ _ h => h, fun _ h => ⟨0, fun _ _ => h⟩⟩
theorem Lim.i {c : Prop} [Decidable c] {x x' : Nat → RS} {y y' : RS} (h : Lim x y) (h' : Lim x' y') : Lim (fun n => if c then x n else x' n) (if c then y else y') := by
  by_cases hc : c
  · simp only [if_pos hc]; exact h
  · simp only [if_neg hc]; exact h'
theorem Lim.aI {st : List AV} {f : Nat → Int32 → List AV → RS} {g : Int32 → List AV → RS} (h : ∀ x r, Lim (fun n => f n x r) (g x r)) : Lim (fun n => aI st (f n)) (aI st g) := by
  match st with
  | .inl x :: r => exact h x r
  | [] => exact Lim.c none
  | .inr _ :: _ => exact Lim.c none
theorem Lim.aL {st : List AV} {f : Nat → Int64 → List AV → RS} {g : Int64 → List AV → RS} (h : ∀ x r, Lim (fun n => f n x r) (g x r)) : Lim (fun n => aL st (f n)) (aL st g) := by
  match st with
  | .inr (.inl x) :: r => exact h x r
  | [] => exact Lim.c none
  | .inl _ :: _ => exact Lim.c none
  | .inr (.inr _) :: _ => exact Lim.c none
theorem Lim.aR {st : List AV} {f : Nat → Nat × Nat × Nat → List AV → RS} {g : Nat × Nat × Nat → List AV → RS} (h : ∀ x r, Lim (fun n => f n x r) (g x r)) : Lim (fun n => aR st (f n)) (aR st g) := by
  match st with
  | .inr (.inr x) :: r => exact h x r
  | [] => exact Lim.c none
  | .inl _ :: _ => exact Lim.c none
  | .inr (.inl _) :: _ => exact Lim.c none
theorem Lim.aO {st : List AV} {f : Nat → Nat → Nat → List AV → RS} {g : Nat → Nat → List AV → RS} (h : ∀ c o r, Lim (fun n => f n c o r) (g c o r)) : Lim (fun n => aO st (f n)) (aO st g) := by
  match st with
  | .inr (.inr (c, o, 0)) :: r => exact h c o r
  | .inr (.inr (_, _, _ + 1)) :: _ => exact Lim.c none
  | [] => exact Lim.c none
  | .inl _ :: _ => exact Lim.c none
  | .inr (.inl _) :: _ => exact Lim.c none
theorem Lim.aX {st : List AV} {f : Nat → Nat → Nat → Nat → List AV → RS} {g : Nat → Nat → Nat → List AV → RS} (h : ∀ c o j r, Lim (fun n => f n c o j r) (g c o j r)) : Lim (fun n => aX st (f n)) (aX st g) := by
  match st with
  | .inr (.inr (c, o, j + 1)) :: r => exact h c o j r
  | .inr (.inr (_, _, 0)) :: _ => exact Lim.c none
  | [] => exact Lim.c none
  | .inl _ :: _ => exact Lim.c none
  | .inr (.inl _) :: _ => exact Lim.c none
theorem Lim.a1 {st : List AV} {f : Nat → AV → List AV → RS} {g : AV → List AV → RS} (h : ∀ x r, Lim (fun n => f n x r) (g x r)) : Lim (fun n => a1 st (f n)) (a1 st g) := by
  match st with
  | .inr (.inr x) :: r => exact h _ r
  | .inl x :: r => exact h _ r
  | [] => exact Lim.c none
  | .inr (.inl _) :: _ => exact Lim.c none
theorem Lim.lI {lv : LV} {a : Nat} {f : Nat → Int32 → RS} {g : Int32 → RS} (h : ∀ x, Lim (fun n => f n x) (g x)) : Lim (fun n => lI lv a (f n)) (lI lv a g) := by
  show Lim (fun n => match lv[a]? with
    | some (some (.inl x)) => f n x
    | _ => none) (match lv[a]? with
    | some (some (.inl x)) => g x
    | _ => none)
  split
  · exact h _
  · exact Lim.c none
theorem Lim.lL {lv : LV} {a : Nat} {f : Nat → Int64 → RS} {g : Int64 → RS} (h : ∀ x, Lim (fun n => f n x) (g x)) : Lim (fun n => lL lv a (f n)) (lL lv a g) := by
  show Lim (fun n => match lv[a]? with
    | some (some (.inr (.inl x))) => f n x
    | _ => none) (match lv[a]? with
    | some (some (.inr (.inl x))) => g x
    | _ => none)
  split
  · exact h _
  · exact Lim.c none
theorem Lim.lR {lv : LV} {a : Nat} {f : Nat → Nat × Nat × Nat → RS} {g : Nat × Nat × Nat → RS} (h : ∀ x, Lim (fun n => f n x) (g x)) : Lim (fun n => lR lv a (f n)) (lR lv a g) := by
  show Lim (fun n => match lv[a]? with
    | some (some (.inr (.inr x))) => f n x
    | _ => none) (match lv[a]? with
    | some (some (.inr (.inr x))) => g x
    | _ => none)
  split
  · exact h _
  · exact Lim.c none
def bnd (x : RS) (f : Option AV → ST → RS) : RS := match x with
  | none => none
  | some (v, σ) => f v σ
theorem Lim.b {x : Nat → RS} {y : RS} {f : Nat → Option AV → ST → RS} {g : Option AV → ST → RS} (hx : Lim x y) (hf : ∀ v σ, Lim (fun n => f n v σ) (g v σ)) : Lim (fun n => bnd (x n) (f n)) (bnd y g) := by
  refine ⟨fun n r h => ?_, fun r h => ?_⟩
  · replace h : bnd (x n) (f n) = some r := h
    cases hn : x n with
    | none => rw [hn] at h; cases h
    | some z =>
      obtain ⟨v, τ⟩ := z
      rw [hn] at h
      rw [hx.1 n _ hn]
      exact (hf v τ).1 n r h
  · cases hy : y with
    | none => rw [hy] at h; cases h
    | some z =>
      obtain ⟨v, τ⟩ := z
      rw [hy] at h
      obtain ⟨n1, h1⟩ := hx.2 _ hy
      obtain ⟨n2, h2⟩ := (hf v τ).2 r h
      refine ⟨n1 + n2, fun m hm => ?_⟩
      show bnd (x m) (f m) = some r
      rw [h1 m (by omega)]
      exact h2 m (by omega)
section STL
variable {cal : Nat → CT} {cal' : CT} {k : Nat → KT} {k' : KT} {i s a b : Nat} {im : Int} {lv : LV} {st : List AV} {σ : ST}
theorem st0_lim (hk : ∀ i lv st σ, Lim (fun n => k n i lv st σ) (k' i lv st σ)) : ∀ s, Lim (fun n => st0 (k n) i s im a lv st σ) (st0 k' i s im a lv st σ)
  | 0 => hk _ _ _ _
  | 1 => hk _ _ _ _
  | 2 => Lim.lI fun _ => hk _ _ _ _
  | 3 => Lim.lL fun _ => hk _ _ _ _
  | 4 => Lim.lR fun _ => hk _ _ _ _
  | 5 => Lim.aI fun _ _ => hk _ _ _ _
  | 6 => Lim.aL fun _ _ => hk _ _ _ _
  | 7 => Lim.aR fun _ _ => hk _ _ _ _
  | 8 => Lim.lI fun _ => hk _ _ _ _
  | _ + 9 => Lim.c none
theorem st1_lim (hk : ∀ i lv st σ, Lim (fun n => k n i lv st σ) (k' i lv st σ)) : ∀ s, Lim (fun n => st1 (k n) i s lv st σ) (st1 k' i s lv st σ)
  | 0 => Lim.aI fun _ _ => Lim.aI fun _ _ => hk _ _ _ _
  | 1 => Lim.aI fun _ _ => Lim.aI fun _ _ => hk _ _ _ _
  | 2 => Lim.aI fun _ _ => Lim.aI fun _ _ => hk _ _ _ _
  | 3 => Lim.aI fun _ _ => Lim.aI fun _ _ => hk _ _ _ _
  | 4 => Lim.aI fun _ _ => Lim.aI fun _ _ => hk _ _ _ _
  | 5 => Lim.aI fun _ _ => Lim.aI fun _ _ => hk _ _ _ _
  | 6 => Lim.aI fun _ _ => Lim.aI fun _ _ => hk _ _ _ _
  | 7 => Lim.aI fun _ _ => Lim.aI fun _ _ => hk _ _ _ _
  | 8 => Lim.aI fun _ _ => Lim.aI fun _ _ => hk _ _ _ _
  | 9 => Lim.aI fun _ _ => Lim.aI fun _ _ => Lim.i (Lim.c none) (hk _ _ _ _)
  | 10 => Lim.aI fun _ _ => Lim.aI fun _ _ => Lim.i (Lim.c none) (hk _ _ _ _)
  | 11 => Lim.aI fun _ _ => hk _ _ _ _
  | 12 => Lim.aI fun _ _ => hk _ _ _ _
  | 13 => Lim.aL fun _ _ => hk _ _ _ _
  | 14 => Lim.aI fun _ _ => hk _ _ _ _
  | _ + 15 => Lim.c none
theorem st2_lim (hk : ∀ i lv st σ, Lim (fun n => k n i lv st σ) (k' i lv st σ)) : ∀ s, Lim (fun n => st2 (k n) i s lv st σ) (st2 k' i s lv st σ)
  | 0 => Lim.aL fun _ _ => Lim.aL fun _ _ => hk _ _ _ _
  | 1 => Lim.aL fun _ _ => Lim.aL fun _ _ => hk _ _ _ _
  | 2 => Lim.aL fun _ _ => Lim.aL fun _ _ => hk _ _ _ _
  | 3 => Lim.aL fun _ _ => Lim.aL fun _ _ => hk _ _ _ _
  | 4 => Lim.aL fun _ _ => Lim.aL fun _ _ => Lim.i (Lim.c none) (hk _ _ _ _)
  | 5 => Lim.aL fun _ _ => Lim.aL fun _ _ => Lim.i (Lim.c none) (hk _ _ _ _)
  | 6 => Lim.aL fun _ _ => hk _ _ _ _
  | 7 => Lim.aL fun _ _ => Lim.aL fun _ _ => hk _ _ _ _
  | _ + 8 => Lim.c none
theorem st3_lim (hk : ∀ i lv st σ, Lim (fun n => k n i lv st σ) (k' i lv st σ)) : ∀ s, Lim (fun n => st3 (k n) i s lv st σ) (st3 k' i s lv st σ)
  | 0 => Lim.a1 (st := st) (f := fun n v r => k n (i + 1) lv (v :: v :: r) σ) (g := fun v r => k' (i + 1) lv (v :: v :: r) σ) fun _ _ => hk _ _ _ _
  | 1 => Lim.a1 (st := st) (f := fun n v r => a1 r fun w r => k n (i + 1) lv (v :: w :: v :: w :: r) σ) (g := fun v r => a1 r fun w r => k' (i + 1) lv (v :: w :: v :: w :: r) σ) fun v r => Lim.a1 (st := r) (f := fun n w r => k n (i + 1) lv (v :: w :: v :: w :: r) σ) (g := fun w r => k' (i + 1) lv (v :: w :: v :: w :: r) σ) fun _ _ => hk _ _ _ _
  | 2 => Lim.a1 (st := st) (f := fun n _ r => k n (i + 1) lv r σ) (g := fun _ r => k' (i + 1) lv r σ) fun _ _ => hk _ _ _ _
  | _ + 3 => Lim.c none
theorem tsw_lim (hk : ∀ i lv st σ, Lim (fun n => k n i lv st σ) (k' i lv st σ)) (x : Int32) (d : Nat) : ∀ (ts : List Nat) (lo : Int), Lim (fun n => tsw (k n) lv st σ x d ts lo) (tsw k' lv st σ x d ts lo)
  | [], _ => hk _ _ _ _
  | _ :: ts, lo => Lim.i (hk _ _ _ _) (tsw_lim hk x d ts (lo + 1))
theorem st4_lim (hk : ∀ i lv st σ, Lim (fun n => k n i lv st σ) (k' i lv st σ)) : ∀ s, Lim (fun n => st4 (k n) i s im a b lv st σ) (st4 k' i s im a b lv st σ)
  | 0 => Lim.aI fun _ _ => Lim.i (hk _ _ _ _) (hk _ _ _ _)
  | 1 => Lim.aI fun _ _ => Lim.i (hk _ _ _ _) (hk _ _ _ _)
  | 2 => Lim.aI fun _ _ => Lim.i (hk _ _ _ _) (hk _ _ _ _)
  | 3 => Lim.aI fun _ _ => Lim.i (hk _ _ _ _) (hk _ _ _ _)
  | 4 => Lim.aI fun _ _ => Lim.i (hk _ _ _ _) (hk _ _ _ _)
  | 5 => Lim.aI fun _ _ => Lim.i (hk _ _ _ _) (hk _ _ _ _)
  | 6 => Lim.aI fun _ _ => Lim.aI fun _ _ => Lim.i (hk _ _ _ _) (hk _ _ _ _)
  | 7 => Lim.aI fun _ _ => Lim.aI fun _ _ => Lim.i (hk _ _ _ _) (hk _ _ _ _)
  | 8 => Lim.aI fun _ _ => Lim.aI fun _ _ => Lim.i (hk _ _ _ _) (hk _ _ _ _)
  | 9 => Lim.aI fun _ _ => Lim.aI fun _ _ => Lim.i (hk _ _ _ _) (hk _ _ _ _)
  | 10 => Lim.aI fun _ _ => Lim.aI fun _ _ => Lim.i (hk _ _ _ _) (hk _ _ _ _)
  | 11 => Lim.aI fun _ _ => Lim.aI fun _ _ => Lim.i (hk _ _ _ _) (hk _ _ _ _)
  | 12 => hk _ _ _ _
  | 13 => Lim.aI fun _ _ => tsw_lim hk _ _ _ _
  | _ + 14 => Lim.c none
theorem st5_lim (hk : ∀ i lv st σ, Lim (fun n => k n i lv st σ) (k' i lv st σ)) : ∀ s, Lim (fun n => st5 (k n) i s lv st σ) (st5 k' i s lv st σ)
  | 0 => Lim.aI fun _ _ => Lim.aX fun _ _ _ _ => Lim.i (Lim.i (Lim.c none) (hk _ _ _ _)) (Lim.c none)
  | 1 => Lim.aI fun _ _ => Lim.aX fun _ _ _ _ => Lim.i (Lim.i (Lim.c none) (hk _ _ _ _)) (Lim.c none)
  | 2 => Lim.aI fun _ _ => Lim.aX fun _ _ _ _ => Lim.i (Lim.i (Lim.c none) (hk _ _ _ _)) (Lim.c none)
  | 3 => Lim.aI fun _ _ => Lim.aX fun _ _ _ _ => Lim.i (Lim.i (Lim.c none) (hk _ _ _ _)) (Lim.c none)
  | 4 => Lim.aI fun _ _ => Lim.aI fun _ _ => Lim.aX fun _ _ _ _ => Lim.i (Lim.i (Lim.c none) (hk _ _ _ _)) (Lim.c none)
  | 5 => Lim.aI fun _ _ => Lim.aI fun _ _ => Lim.aX fun _ _ _ _ => Lim.i (Lim.i (Lim.c none) (hk _ _ _ _)) (Lim.i (Lim.i (Lim.c none) (hk _ _ _ _)) (Lim.c none))
  | 6 => Lim.aL fun _ _ => Lim.aI fun _ _ => Lim.aX fun _ _ _ _ => Lim.i (Lim.i (Lim.c none) (hk _ _ _ _)) (Lim.c none)
  | 7 => Lim.aX fun _ _ _ _ => Lim.i (hk _ _ _ _) (Lim.c none)
  | _ + 8 => Lim.c none
theorem st6_lim (hk : ∀ i lv st σ, Lim (fun n => k n i lv st σ) (k' i lv st σ)) (s : Nat) : Lim (fun n => st6 (k n) i s a b lv st σ) (st6 k' i s a b lv st σ) := by
  unfold st6
  refine Lim.aO fun c o r => Lim.i ?_ (Lim.c none)
  generalize s % 10 = z
  match z with
  | 0 => exact hk _ _ _ _
  | 1 => exact hk _ _ _ _
  | 2 => exact hk _ _ _ _
  | 3 => exact hk _ _ _ _
  | 4 => exact hk _ _ _ _
  | 5 => exact hk _ _ _ _
  | _ + 6 => exact Lim.c none
theorem st7_lim (hk : ∀ i lv st σ, Lim (fun n => k n i lv st σ) (k' i lv st σ)) : ∀ s, Lim (fun n => st7 (k n) i s a b lv st σ) (st7 k' i s a b lv st σ)
  | 0 => Lim.aI fun _ _ => Lim.aO fun _ _ _ => Lim.i (hk _ _ _ _) (Lim.c none)
  | 1 => Lim.aI fun _ _ => Lim.aO fun _ _ _ => Lim.i (Lim.i (hk _ _ _ _) (Lim.c none)) (Lim.c none)
  | 2 => Lim.c none
  | 3 => Lim.c none
  | 4 => Lim.aO fun _ _ _ => Lim.aO fun _ _ _ => Lim.i (Lim.i (hk _ _ _ _) (Lim.c none)) (Lim.c none)
  | 5 => Lim.aL fun _ _ => Lim.aO fun _ _ _ => Lim.i (hk _ _ _ _) (Lim.c none)
  | _ + 6 => Lim.c none
theorem cpo_lim (hk : ∀ i lv st σ, Lim (fun n => k n i lv st σ) (k' i lv st σ)) : Lim (fun n => cpo (k n) i lv st σ) (cpo k' i lv st σ) :=
  Lim.aI fun _ _ => Lim.aI fun _ _ => Lim.aX fun _ _ _ _ => Lim.aI fun _ _ => Lim.aX fun _ _ _ _ => Lim.i (Lim.i (Lim.c none) (hk _ _ _ _)) (Lim.c none)
theorem st8_lim (hc : ∀ a as σ, Lim (fun n => cal n a as σ) (cal' a as σ)) (hk : ∀ i lv st σ, Lim (fun n => k n i lv st σ) (k' i lv st σ)) (s : Nat) : Lim (fun n => st8 (cal n) (k n) i s a b lv st σ) (st8 cal' k' i s a b lv st σ) := by
  refine Lim.i (cpo_lim hk) ?_
  cases spl b st [] with
  | none => exact Lim.c none
  | some z =>
    obtain ⟨as, r⟩ := z
    refine Lim.i ?_ (Lim.c none)
    exact Lim.b (hc a as σ) (fun v τ => hk (i + 1) lv (v.toList ++ r) τ)
theorem stp_lim (hc : ∀ a as σ, Lim (fun n => cal n a as σ) (cal' a as σ)) (hk : ∀ i lv st σ, Lim (fun n => k n i lv st σ) (k' i lv st σ)) (op : OP) : Lim (fun n => stp (cal n) (k n) i op lv st σ) (stp cal' k' i op lv st σ) := by
  obtain ⟨g, s, pc, im, a, b⟩ := op
  match g with
  | 0 => exact st0_lim hk s
  | 1 => exact st1_lim hk s
  | 2 => exact st2_lim hk s
  | 3 => exact st3_lim hk s
  | 4 => exact st4_lim hk s
  | 5 => exact st5_lim hk s
  | 6 => exact st6_lim hk s
  | 7 => exact st7_lim hk s
  | 8 => exact st8_lim hc hk s
  | 9 => exact Lim.c _
  | _ + 10 => exact Lim.c none
end STL
def Mo (x y : RS) : Prop := ∀ r, x = some r → y = some r
theorem Mo.lim {x y : RS} (h : Mo x y) : Lim (fun n => if n = 0 then x else y) y := ⟨fun n r hn => by
  replace hn : (if n = 0 then x else y) = some r := hn
  by_cases h0 : n = 0
  · rw [if_pos h0] at hn; exact h r hn
  · rw [if_neg h0] at hn; exact hn, fun r hr => ⟨1, fun m hm => by
    show (if m = 0 then x else y) = some r
    rw [if_neg (by omega)]; exact hr⟩⟩
theorem stp_mo {cal cal' : CT} {k k' : KT} {i : Nat} {op : OP} {lv : LV} {st : List AV} {σ : ST} (hc : ∀ a as σ, Mo (cal a as σ) (cal' a as σ)) (hk : ∀ i lv st σ, Mo (k i lv st σ) (k' i lv st σ)) : Mo (stp cal k i op lv st σ) (stp cal' k' i op lv st σ) := by
  have h := stp_lim (cal := fun n a as σ => if n = 0 then cal a as σ else cal' a as σ) (cal' := cal') (k := fun n i lv st σ => if n = 0 then k i lv st σ else k' i lv st σ) (k' := k') (i := i) (lv := lv) (st := st) (σ := σ) (fun a as σ => (hc a as σ).lim) (fun i lv st σ => (hk i lv st σ).lim) op
  exact fun r hr => h.1 0 r hr
theorem ex_mo {cal cal' : CT} (hc : ∀ a as σ, Mo (cal a as σ) (cal' a as σ)) (C : List OP) : ∀ (f f' : Nat), f ≤ f' → ∀ i lv st σ, Mo (ex cal C f i lv st σ) (ex cal' C f' i lv st σ)
  | 0, _, _, _, _, _, _ => fun _ h => by cases h
  | f + 1, 0, hf, _, _, _, _ => absurd hf (by omega)
  | f + 1, f' + 1, hf, i, lv, st, σ => by
    show Mo (match C[i]? with
      | none => none
      | some op => stp cal (ex cal C f) i op lv st σ) (match C[i]? with
      | none => none
      | some op => stp cal' (ex cal' C f') i op lv st σ)
    cases C[i]? with
    | none => exact fun _ h => h
    | some op => exact stp_mo hc (fun i lv st σ => ex_mo hc C f f' (by omega) i lv st σ)
theorem exM_mo : ∀ (f f' : Nat), f ≤ f' → ∀ a as σ, Mo (exM f a as σ) (exM f' a as σ)
  | 0, _, _, _, _, _ => fun _ h => by cases h
  | f + 1, 0, hf, _, _, _ => absurd hf (by omega)
  | f + 1, f' + 1, hf, a, as, σ => by
    show Mo (if (ent1 as).length ≤ mL a then _ else none) (if (ent1 as).length ≤ mL a then _ else none)
    by_cases hc : (ent1 as).length ≤ mL a
    · rw [if_pos hc, if_pos hc]
      exact ex_mo (fun a as σ => exM_mo f f' (by omega) a as σ) _ _ _ hf _ _ _ _
    · rw [if_neg hc, if_neg hc]
      exact fun _ h => h
noncomputable def lim (x : Nat → RS) : RS := by
  classical exact if h : ∃ n, (x n).isSome = true then x h.choose else none
theorem lim_ok {x : Nat → RS} (hm : ∀ n m, n ≤ m → Mo (x n) (x m)) : Lim x (lim x) := by
  refine ⟨fun n r h => ?_, fun r h => ?_⟩
  · have he : ∃ n, (x n).isSome = true := ⟨n, by rw [h]; rfl⟩
    unfold lim
    rw [dif_pos he]
    obtain ⟨r', hr'⟩ := Option.isSome_iff_exists.mp he.choose_spec
    rw [hr']
    rcases Nat.le_total n he.choose with hle | hle
    · rw [hm _ _ hle r h] at hr'
      exact hr'.symm
    · have := hm _ _ hle r' hr'
      rw [h] at this
      exact this.symm
  · unfold lim at h
    by_cases he : ∃ n, (x n).isSome = true
    · rw [dif_pos he] at h
      exact ⟨he.choose, fun m hle => hm _ _ hle r h⟩
    · rw [dif_neg he] at h
      cases h
theorem Lim.uniq {x x' : Nat → RS} {y y' : RS} (h : Lim x y) (h' : Lim x' y') (h1 : ∀ n, ∃ m, Mo (x n) (x' m)) (h2 : ∀ n, ∃ m, Mo (x' n) (x m)) : y = y' := by
  cases hy : y with
  | some r =>
    obtain ⟨n, hn⟩ := h.2 r hy
    obtain ⟨m, hm⟩ := h1 n
    exact (h'.1 m r (hm r (hn n (Nat.le_refl n)))).symm
  | none =>
    cases hy' : y' with
    | none => rfl
    | some r =>
      obtain ⟨n, hn⟩ := h'.2 r hy'
      obtain ⟨m, hm⟩ := h2 n
      have := h.1 m r (hm r (hn n (Nat.le_refl n)))
      rw [hy] at this
      cases this
/-- a method's answer, and the answer from a place in a method's code -/
noncomputable def den : CT := fun a as σ => lim (fun n => exM n a as σ)
noncomputable def run (C : List OP) : KT := fun i lv st σ => lim (fun n => ex (exM n) C n i lv st σ)
theorem den_lim (a : Nat) (as : List AV) (σ : ST) : Lim (fun n => exM n a as σ) (den a as σ) := lim_ok fun n m h => exM_mo n m h a as σ
theorem run_lim (C : List OP) (i : Nat) (lv : LV) (st : List AV) (σ : ST) : Lim (fun n => ex (exM n) C n i lv st σ) (run C i lv st σ) := lim_ok fun n m h => ex_mo (fun a as σ => exM_mo n m h a as σ) C n m h i lv st σ
theorem run_eq (C : List OP) (i : Nat) (lv : LV) (st : List AV) (σ : ST) : run C i lv st σ = match C[i]? with
    | none => none
    | some op => stp den (run C) i op lv st σ := by
  cases hop : C[i]? with
  | none =>
    refine Lim.uniq (run_lim C i lv st σ) (Lim.c none) (fun n => ⟨0, fun r h => ?_⟩) (fun n => ⟨0, fun r h => by cases h⟩)
    cases n with
    | zero => cases h
    | succ n =>
      have h : (match C[i]? with
        | none => none
        | some op => stp (exM (n + 1)) (ex (exM (n + 1)) C n) i op lv st σ) = some r := h
      rw [hop] at h
      exact h
  | some op =>
    refine Lim.uniq (run_lim C i lv st σ) (stp_lim (cal := exM) (k := fun n => ex (exM n) C n) den_lim (run_lim C) op) (fun n => ?_) (fun n => ⟨n + 1, fun r h => ?_⟩)
    · cases n with
      | zero => exact ⟨0, fun r h => by cases h⟩
      | succ n =>
        refine ⟨n + 1, fun r h => ?_⟩
        have h : (match C[i]? with
          | none => none
          | some op => stp (exM (n + 1)) (ex (exM (n + 1)) C n) i op lv st σ) = some r := h
        rw [hop] at h
        exact stp_mo (fun _ _ _ _ h => h) (fun i lv st σ => ex_mo (fun _ _ _ _ h => h) C n (n + 1) (by omega) i lv st σ) r h
    · show (match C[i]? with
          | none => none
          | some op => stp (exM (n + 1)) (ex (exM (n + 1)) C n) i op lv st σ) = some r
      rw [hop]
      exact stp_mo (fun a as σ => exM_mo n (n + 1) (by omega) a as σ) (fun i lv st σ => ex_mo (fun a as σ => exM_mo n (n + 1) (by omega) a as σ) C n n (Nat.le_refl n) i lv st σ) r h
theorem den_eq (a : Nat) (as : List AV) (σ : ST) : den a as σ = if (ent1 as).length ≤ mL a then run (cod a) 0 (ent a as) [] σ else none := by
  by_cases hc : (ent1 as).length ≤ mL a
  · rw [if_pos hc]
    refine Lim.uniq (den_lim a as σ) (run_lim (cod a) 0 (ent a as) [] σ) (fun n => ?_) (fun n => ⟨n + 1, fun r h => ?_⟩)
    · cases n with
      | zero => exact ⟨0, fun r h => by cases h⟩
      | succ n =>
        refine ⟨n + 1, fun r h => ?_⟩
        have h : (if (ent1 as).length ≤ mL a then ex (exM n) (cod a) (n + 1) 0 (ent a as) [] σ else none) = some r := h
        rw [if_pos hc] at h
        exact ex_mo (fun a as σ => exM_mo n (n + 1) (by omega) a as σ) _ _ _ (Nat.le_refl _) _ _ _ _ r h
    · show (if (ent1 as).length ≤ mL a then ex (exM n) (cod a) (n + 1) 0 (ent a as) [] σ else none) = some r
      rw [if_pos hc]
      exact ex_mo (fun _ _ _ _ h => h) _ _ _ (by omega) _ _ _ _ r h
  · rw [if_neg hc]
    refine Lim.uniq (den_lim a as σ) (Lim.c none) (fun n => ⟨0, fun r h => ?_⟩) (fun n => ⟨0, fun r h => by cases h⟩)
    cases n with
    | zero => cases h
    | succ n =>
      have h : (if (ent1 as).length ≤ mL a then ex (exM n) (cod a) (n + 1) 0 (ent a as) [] σ else none) = some r := h
      rw [if_neg hc] at h
      cases h
/-- the same, up to places where it stops -/
noncomputable def rc (C : List OP) (cuts : List Nat) : Nat → KT
  | 0 => run C
  | n + 1 => fun i lv st σ => match C[i]? with
    | none => none
    | some op => stp den (fun i lv st σ => if cuts.contains i = true then run C i lv st σ else rc C cuts n i lv st σ) i op lv st σ
theorem rc_eq (C : List OP) (cuts : List Nat) : ∀ n : Nat, rc C cuts n = run C
  | 0 => rfl
  | n + 1 => by
    funext i lv st σ
    have e : (fun i lv st σ => if cuts.contains i = true then run C i lv st σ else rc C cuts n i lv st σ) = run C := by
      funext i lv st σ
      rw [rc_eq C cuts n]
      by_cases h : cuts.contains i = true
      · rw [if_pos h]
      · rw [if_neg h]
    rw [run_eq C i lv st σ]
    show (match C[i]? with
      | none => none
      | some op => stp den (fun i lv st σ => if cuts.contains i = true then run C i lv st σ else rc C cuts n i lv st σ) i op lv st σ) = _
    rw [e]
/-- what the limit answers, the machine answers -/
theorem den_met (l : Launch) (D : va_G) (q : Nat → ClassId) (ρ : Nat × Nat × Nat → Nat) {a : Nat} {as : List AV} {σ σ' : ST} {v : Option AV} (ha : a < nM) (h : den a as σ = some (v, σ')) (hok : ∀ w ∈ as, okv w) (hR : okR σ) (sz : Nat) : Met l (mY a) (wsM a) (rmM a) (PcM D q ρ as σ sz) (QcM D q ρ (Aw ρ sz) (v, σ')) 0 0 (Aw ρ sz) := by
  obtain ⟨n, hn⟩ := (den_lim a as σ).2 _ h
  exact snd_met l D q ρ n a as σ v σ' ha (hn n (Nat.le_refl n)) hok hR sz
end
