/-! CONSTRUCTORS: the code of the reference, piece by piece -/
theorem ckL_app (cc : ByteArray) (own : Nat) (nA : Bool) (fr lo : Nat) (CF CQ : Nat → Nat) (cs : List Nat) : ∀ (a b : List INS) (pc : Nat), ckL cc own nA fr lo CF CQ cs pc (a ++ b) = (ckL cc own nA fr lo CF CQ cs pc a && ckL cc own nA fr lo CF CQ cs (pcE pc a) b)
  | [], _, _ => by rw [List.nil_append]; exact (Bool.true_and _).symm
  | (op, i, c, k, p, v) :: a, b, pc => by
    show (ckq cc own nA fr lo CF CQ cs pc op i c k p v && ckL cc own nA fr lo CF CQ cs (pc + lnI op k v) (a ++ b)) = (ckq cc own nA fr lo CF CQ cs pc op i c k p v && ckL cc own nA fr lo CF CQ cs (pc + lnI op k v) a && ckL cc own nA fr lo CF CQ cs (pcE (pc + lnI op k v) a) b)
    rw [ckL_app cc own nA fr lo CF CQ cs a b (pc + lnI op k v), Bool.and_assoc]
theorem cd_0 : ckL cX12_init 12 false 3 63 iF iQ [] 0 kc_12_0 = true := by decide +kernel
theorem ce_0 : pcE 0 kc_12_0 = 4 := rfl
theorem cd_1 : ckL cX12_init 12 false 3 63 iF iQ [] 4 kc_12_1 = true := by decide +kernel
theorem ce_1 : pcE 4 kc_12_1 = 13 := rfl
theorem cd_2 : ckL cX12_init 12 false 3 63 iF iQ [] 13 kc_12_2 = true := by decide +kernel
theorem ce_2 : pcE 13 kc_12_2 = 60 := rfl
theorem cd_3 : ckL cX12_init 12 false 3 63 iF iQ [] 60 kc_12_3 = true := by decide +kernel
theorem ce_3 : pcE 60 kc_12_3 = 108 := rfl
theorem cd_4 : ckL cX12_init 12 false 3 63 iF iQ [] 108 kc_12_4 = true := by decide +kernel
theorem ce_4 : pcE 108 kc_12_4 = 156 := rfl
theorem cd_5 : ckL cX12_init 12 false 3 63 iF iQ [] 156 kc_12_5 = true := by decide +kernel
theorem ce_5 : pcE 156 kc_12_5 = 204 := rfl
theorem cd_6 : ckL cX12_init 12 false 3 63 iF iQ [] 204 kc_12_6 = true := by decide +kernel
theorem ce_6 : pcE 204 kc_12_6 = 252 := rfl
theorem cd_7 : ckL cX12_init 12 false 3 63 iF iQ [] 252 kc_12_7 = true := by decide +kernel
theorem ce_7 : pcE 252 kc_12_7 = 300 := rfl
theorem cd_8 : ckL cX12_init 12 false 3 63 iF iQ [] 300 kc_12_8 = true := by decide +kernel
theorem ce_8 : pcE 300 kc_12_8 = 348 := rfl
theorem cd_9 : ckL cX12_init 12 false 3 63 iF iQ [] 348 kc_12_9 = true := by decide +kernel
theorem ce_9 : pcE 348 kc_12_9 = 396 := rfl
theorem cd_10 : ckL cX12_init 12 false 3 63 iF iQ [] 396 kc_12_10 = true := by decide +kernel
theorem ce_10 : pcE 396 kc_12_10 = 444 := rfl
theorem cd_11 : ckL cX12_init 12 false 3 63 iF iQ [] 444 kc_12_11 = true := by decide +kernel
theorem ce_11 : pcE 444 kc_12_11 = 492 := rfl
theorem cd_12 : ckL cX12_init 12 false 3 63 iF iQ [] 492 kc_12_12 = true := by decide +kernel
theorem ce_12 : pcE 492 kc_12_12 = 540 := rfl
theorem cd_13 : ckL cX12_init 12 false 3 63 iF iQ [] 540 kc_12_13 = true := by decide +kernel
theorem ce_13 : pcE 540 kc_12_13 = 588 := rfl
theorem cd_14 : ckL cX12_init 12 false 3 63 iF iQ [] 588 kc_12_14 = true := by decide +kernel
theorem ce_14 : pcE 588 kc_12_14 = 597 := rfl
theorem cd_15 : ckL cX12_init 12 false 3 63 iF iQ [] 597 kc_12_15 = true := by decide +kernel
theorem ce_15 : pcE 597 kc_12_15 = 602 := rfl
theorem cd_16 : ckL cX12_init 12 false 3 63 iF iQ [] 602 kc_12_16 = true := by decide +kernel
theorem ce_16 : pcE 602 kc_12_16 = 609 := rfl
theorem cd_17 : ckL cX12_init 12 false 3 63 iF iQ [] 609 kc_12_17 = true := by decide +kernel
theorem ce_17 : pcE 609 kc_12_17 = 616 := rfl
theorem cd_18 : ckL cX12_init 12 false 3 63 iF iQ [] 616 kc_12_18 = true := by decide +kernel
theorem ce_18 : pcE 616 kc_12_18 = 624 := rfl
theorem cd_19 : ckL cX12_init 12 false 3 63 iF iQ [] 624 kc_12_19 = true := by decide +kernel
theorem ce_19 : pcE 624 kc_12_19 = 632 := rfl
theorem cd_20 : ckL cX12_init 12 false 3 63 iF iQ [] 632 kc_12_20 = true := by decide +kernel
theorem ce_20 : pcE 632 kc_12_20 = 640 := rfl
theorem cd_21 : ckL cX12_init 12 false 3 63 iF iQ [] 640 kc_12_21 = true := by decide +kernel
theorem ce_21 : pcE 640 kc_12_21 = 648 := rfl
theorem cd_22 : ckL cX12_init 12 false 3 63 iF iQ [] 648 kc_12_22 = true := by decide +kernel
theorem ce_22 : pcE 648 kc_12_22 = 656 := rfl
theorem cd_23 : ckL cX12_init 12 false 3 63 iF iQ [] 656 kc_12_23 = true := by decide +kernel
theorem ce_23 : pcE 656 kc_12_23 = 664 := rfl
theorem cd_24 : ckL cX12_init 12 false 3 63 iF iQ [] 664 kc_12_24 = true := by decide +kernel
theorem ce_24 : pcE 664 kc_12_24 = 671 := rfl
theorem cd_25 : ckL cX12_init 12 false 3 63 iF iQ [] 671 kc_12_25 = true := by decide +kernel
theorem ce_25 : pcE 671 kc_12_25 = 679 := rfl
theorem cd_26 : ckL cX12_init 12 false 3 63 iF iQ [] 679 kc_12_26 = true := by decide +kernel
theorem ce_26 : pcE 679 kc_12_26 = 687 := rfl
theorem cd_27 : ckL cX12_init 12 false 3 63 iF iQ [] 687 kc_12_27 = true := by decide +kernel
theorem ce_27 : pcE 687 kc_12_27 = 695 := rfl
theorem cd_28 : ckL cX12_init 12 false 3 63 iF iQ [] 695 kc_12_28 = true := by decide +kernel
theorem ce_28 : pcE 695 kc_12_28 = 704 := rfl
theorem cd_29 : ckL cX12_init 12 false 3 63 iF iQ [] 704 kc_12_29 = true := by decide +kernel
theorem ce_29 : pcE 704 kc_12_29 = 713 := rfl
theorem cd_30 : ckL cX12_init 12 false 3 63 iF iQ [] 713 kc_12_30 = true := by decide +kernel
theorem ce_30 : pcE 713 kc_12_30 = 722 := rfl
theorem cd_31 : ckL cX12_init 12 false 3 63 iF iQ [] 722 kc_12_31 = true := by decide +kernel
theorem ce_31 : pcE 722 kc_12_31 = 730 := rfl
theorem cd_32 : ckL cX12_init 12 false 3 63 iF iQ [] 730 kc_12_32 = true := by decide +kernel
theorem ce_32 : pcE 730 kc_12_32 = 738 := rfl
theorem cd_33 : ckL cX12_init 12 false 3 63 iF iQ [] 738 kc_12_33 = true := by decide +kernel
theorem ce_33 : pcE 738 kc_12_33 = 746 := rfl
theorem cd_34 : ckL cX12_init 12 false 3 63 iF iQ [] 746 kc_12_34 = true := by decide +kernel
theorem ce_34 : pcE 746 kc_12_34 = 754 := rfl
theorem cd_35 : ckL cX12_init 12 false 3 63 iF iQ [] 754 kc_12_35 = true := by decide +kernel
theorem ce_35 : pcE 754 kc_12_35 = 762 := rfl
theorem cd_36 : ckL cX12_init 12 false 3 63 iF iQ [] 762 kc_12_36 = true := by decide +kernel
theorem ce_36 : pcE 762 kc_12_36 = 770 := rfl
theorem cd_37 : ckL cX12_init 12 false 3 63 iF iQ [] 770 kc_12_37 = true := by decide +kernel
theorem ce_37 : pcE 770 kc_12_37 = 778 := rfl
theorem cd_38 : ckL cX12_init 12 false 3 63 iF iQ [] 778 kc_12_38 = true := by decide +kernel
theorem ce_38 : pcE 778 kc_12_38 = 785 := rfl
theorem cd_39 : ckL cX12_init 12 false 3 63 iF iQ [] 785 kc_12_39 = true := by decide +kernel
theorem ce_39 : pcE 785 kc_12_39 = 792 := rfl
theorem cd_40 : ckL cX12_init 12 false 3 63 iF iQ [] 792 kc_12_40 = true := by decide +kernel
theorem ce_40 : pcE 792 kc_12_40 = 799 := rfl
theorem cd_41 : ckL cX12_init 12 false 3 63 iF iQ [] 799 kc_12_41 = true := by decide +kernel
theorem ce_41 : pcE 799 kc_12_41 = 806 := rfl
theorem cd_42 : ckL cX12_init 12 false 3 63 iF iQ [] 806 kc_12_42 = true := by decide +kernel
theorem ce_42 : pcE 806 kc_12_42 = 814 := rfl
theorem cd_43 : ckL cX12_init 12 false 3 63 iF iQ [] 814 kc_12_43 = true := by decide +kernel
theorem ce_43 : pcE 814 kc_12_43 = 822 := rfl
theorem cd_44 : ckL cX12_init 12 false 3 63 iF iQ [] 822 kc_12_44 = true := by decide +kernel
theorem ce_44 : pcE 822 kc_12_44 = 827 := rfl
theorem cd_45 : ckL cX12_init 12 false 3 63 iF iQ [] 827 kc_12_45 = true := by decide +kernel
theorem ce_45 : pcE 827 kc_12_45 = 835 := rfl
theorem cd_46 : ckL cX12_init 12 false 3 63 iF iQ [] 835 kc_12_46 = true := by decide +kernel
theorem ce_46 : pcE 835 kc_12_46 = 843 := rfl
theorem cd_47 : ckL cX12_init 12 false 3 63 iF iQ [] 843 kc_12_47 = true := by decide +kernel
theorem ce_47 : pcE 843 kc_12_47 = 851 := rfl
theorem cd_48 : ckL cX12_init 12 false 3 63 iF iQ [] 851 kc_12_48 = true := by decide +kernel
theorem ce_48 : pcE 851 kc_12_48 = 860 := rfl
theorem cd_49 : ckL cX12_init 12 false 3 63 iF iQ [] 860 kc_12_49 = true := by decide +kernel
theorem ce_49 : pcE 860 kc_12_49 = 868 := rfl
