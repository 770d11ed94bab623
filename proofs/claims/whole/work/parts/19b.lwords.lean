theorem cl_L_13 : Cond.classLink RL 13 "java/lang/IllegalArgumentException" ∈ cv_gw := (cv_mT 541 (by decide +kernel) rfl)
theorem cl_L_15 : Cond.classLink RL 15 "java/lang/IllegalStateException" ∈ cv_gw := (cv_mT 542 (by decide +kernel) rfl)
theorem cl_L_20 : Cond.classLink RL 20 "java/lang/IndexOutOfBoundsException" ∈ cv_gw := (cv_mT 638 (by decide +kernel) rfl)
theorem cl_L_33 : Cond.classLink RL 33 "java/lang/UnsupportedOperationException" ∈ cv_gw := (cv_mT 737 (by decide +kernel) rfl)
theorem cl_L_95 : Cond.classLink RL 95 "java/util/NoSuchElementException" ∈ cv_gw := (cv_mT 914 (by decide +kernel) rfl)
theorem cl_L_120 : Cond.classLink RL 120 "java/lang/ArithmeticException" ∈ cv_gw := (cv_mT 1037 (by decide +kernel) rfl)
theorem ln_L_7 : Cond.methodLink RL 7 yX8_appendCharacter ∈ cv_gw := (cv_mT 543 (by decide +kernel) rfl)
theorem ln_L_17 : Cond.methodLink RL 17 yX8_setBody ∈ cv_gw := (cv_mT 662 (by decide +kernel) rfl)
theorem ln_L_22 : Cond.methodLink RL 22 yX8_length ∈ cv_gw := (cv_mT 717 (by decide +kernel) rfl)
theorem ln_L_25 : Cond.methodLink RL 25 yX8_instruction ∈ cv_gw := (cv_mT 724 (by decide +kernel) rfl)
theorem ln_L_29 : Cond.methodLink RL 29 yX8_operand ∈ cv_gw := (cv_mT 738 (by decide +kernel) rfl)
theorem ln_L_35 : Cond.methodLink RL 35 yX8_removeInstruction ∈ cv_gw := (cv_mT 762 (by decide +kernel) rfl)
theorem ln_L_38 : Cond.methodLink RL 38 yX8_isReachable ∈ cv_gw := (cv_mT 773 (by decide +kernel) rfl)
theorem ln_L_42 : Cond.methodLink RL 42 yX8_isBalanced ∈ cv_gw := (cv_mT 781 (by decide +kernel) rfl)
theorem ln_L_46 : Cond.methodLink RL 46 yX8_preserved ∈ cv_gw := (cv_mT 788 (by decide +kernel) rfl)
theorem ln_L_49 : Cond.methodLink RL 49 yX8_surelyDefined ∈ cv_gw := (cv_mT 795 (by decide +kernel) rfl)
theorem ln_L_52 : Cond.methodLink RL 52 yX8_arguments ∈ cv_gw := (cv_mT 802 (by decide +kernel) rfl)
theorem ln_L_55 : Cond.methodLink RL 55 yX8_results ∈ cv_gw := (cv_mT 809 (by decide +kernel) rfl)
theorem ln_L_58 : Cond.methodLink RL 58 yX8_liveBefore ∈ cv_gw := (cv_mT 816 (by decide +kernel) rfl)
theorem ln_L_61 : Cond.methodLink RL 61 yX8_neededSlots ∈ cv_gw := (cv_mT 825 (by decide +kernel) rfl)
theorem ln_L_64 : Cond.methodLink RL 64 yX8_isVariadic ∈ cv_gw := (cv_mT 832 (by decide +kernel) rfl)
theorem ln_L_67 : Cond.methodLink RL 67 yX8_callees ∈ cv_gw := (cv_mT 843 (by decide +kernel) rfl)
theorem ln_L_70 : Cond.methodLink RL 70 yX8_callersOf ∈ cv_gw := (cv_mT 850 (by decide +kernel) rfl)
theorem ln_L_73 : Cond.methodLink RL 73 yX8_isRecursive ∈ cv_gw := (cv_mT 861 (by decide +kernel) rfl)
theorem ln_L_76 : Cond.methodLink RL 76 yX8_site ∈ cv_gw := (cv_mT 873 (by decide +kernel) rfl)
theorem ln_L_79 : Cond.methodLink RL 79 yX8_passedSlots ∈ cv_gw := (cv_mT 886 (by decide +kernel) rfl)
theorem ln_L_82 : Cond.methodLink RL 82 yX8_missingSlots ∈ cv_gw := (cv_mT 893 (by decide +kernel) rfl)
theorem ln_L_85 : Cond.methodLink RL 85 yX8_lostRegisters ∈ cv_gw := (cv_mT 900 (by decide +kernel) rfl)
theorem ln_L_88 : Cond.methodLink RL 88 yX8_liveBehind ∈ cv_gw := (cv_mT 907 (by decide +kernel) rfl)
theorem ln_L_91 : Cond.methodLink RL 91 yX8_firstProblem ∈ cv_gw := (cv_mT 915 (by decide +kernel) rfl)
theorem ln_L_97 : Cond.methodLink RL 97 yX8_votes ∈ cv_gw := (cv_mT 938 (by decide +kernel) rfl)
theorem ln_L_100 : Cond.methodLink RL 100 yX8_role ∈ cv_gw := (cv_mT 959 (by decide +kernel) rfl)
theorem ln_L_103 : Cond.methodLink RL 103 yX8_run ∈ cv_gw := (cv_mT 971 (by decide +kernel) rfl)
theorem ln_L_106 : Cond.methodLink RL 106 yX8_isCut ∈ cv_gw := (cv_mT 1005 (by decide +kernel) rfl)
theorem ln_L_110 : Cond.methodLink RL 110 yX8_observed ∈ cv_gw := (cv_mT 1017 (by decide +kernel) rfl)
theorem ln_L_113 : Cond.methodLink RL 113 yX8_origin ∈ cv_gw := (cv_mT 1029 (by decide +kernel) rfl)
theorem ln_L_116 : Cond.methodLink RL 116 yX8_preservedShare ∈ cv_gw := (cv_mT 1051 (by decide +kernel) rfl)
theorem ln_L_122 : Cond.methodLink RL 122 yX8_problemShare ∈ cv_gw := (cv_mT 1060 (by decide +kernel) rfl)
theorem ln_L_126 : Cond.methodLink RL 126 yX8_restore ∈ cv_gw := (cv_mT 1068 (by decide +kernel) rfl)
theorem vm_X8_appendCharacter : cv_VM yX8_appendCharacter cX8_appendCharacter 2 (some .int) 1 := ⟨(cv_mT 544 (by decide +kernel) rfl), (cv_mT 545 (by decide +kernel) rfl), (cv_mT 1 (by decide +kernel) rfl), (cv_mT 546 (by decide +kernel) rfl), by decide +kernel, by decide +kernel, by decide +kernel⟩
theorem vm_X8_arguments : cv_VM yX8_arguments cX8_arguments 2 (some .int) 1 := ⟨(cv_mT 803 (by decide +kernel) rfl), (cv_mT 804 (by decide +kernel) rfl), (cv_mT 1 (by decide +kernel) rfl), (cv_mT 805 (by decide +kernel) rfl), by decide +kernel, by decide +kernel, by decide +kernel⟩
theorem vm_X8_callees : cv_VM yX8_callees cX8_callees 2 (some .int) 1 := ⟨(cv_mT 844 (by decide +kernel) rfl), (cv_mT 845 (by decide +kernel) rfl), (cv_mT 1 (by decide +kernel) rfl), (cv_mT 846 (by decide +kernel) rfl), by decide +kernel, by decide +kernel, by decide +kernel⟩
theorem vm_X8_callersOf : cv_VM yX8_callersOf cX8_callersOf 2 (some .int) 1 := ⟨(cv_mT 851 (by decide +kernel) rfl), (cv_mT 852 (by decide +kernel) rfl), (cv_mT 1 (by decide +kernel) rfl), (cv_mT 853 (by decide +kernel) rfl), by decide +kernel, by decide +kernel, by decide +kernel⟩
theorem vm_X8_firstProblem : cv_VM yX8_firstProblem cX8_firstProblem 2 (some .int) 0 := ⟨(cv_mT 916 (by decide +kernel) rfl), (cv_mT 917 (by decide +kernel) rfl), (cv_mT 1 (by decide +kernel) rfl), (cv_mT 918 (by decide +kernel) rfl), by decide +kernel, by decide +kernel, by decide +kernel⟩
theorem vm_X8_instruction : cv_VM yX8_instruction cX8_instruction 3 (some .char) 2 := ⟨(cv_mT 725 (by decide +kernel) rfl), (cv_mT 726 (by decide +kernel) rfl), (cv_mT 1 (by decide +kernel) rfl), (cv_mT 727 (by decide +kernel) rfl), by decide +kernel, by decide +kernel, by decide +kernel⟩
theorem vm_X8_isBalanced : cv_VM yX8_isBalanced cX8_isBalanced 2 (some .boolean) 1 := ⟨(cv_mT 782 (by decide +kernel) rfl), (cv_mT 783 (by decide +kernel) rfl), (cv_mT 1 (by decide +kernel) rfl), (cv_mT 784 (by decide +kernel) rfl), by decide +kernel, by decide +kernel, by decide +kernel⟩
theorem vm_X8_isCut : cv_VM yX8_isCut cX8_isCut 1 (some .boolean) 0 := ⟨(cv_mT 1006 (by decide +kernel) rfl), (cv_mT 1007 (by decide +kernel) rfl), (cv_mT 1 (by decide +kernel) rfl), (cv_mT 1008 (by decide +kernel) rfl), by decide +kernel, by decide +kernel, by decide +kernel⟩
theorem vm_X8_isReachable : cv_VM yX8_isReachable cX8_isReachable 3 (some .boolean) 2 := ⟨(cv_mT 774 (by decide +kernel) rfl), (cv_mT 775 (by decide +kernel) rfl), (cv_mT 1 (by decide +kernel) rfl), (cv_mT 776 (by decide +kernel) rfl), by decide +kernel, by decide +kernel, by decide +kernel⟩
theorem vm_X8_isRecursive : cv_VM yX8_isRecursive cX8_isRecursive 2 (some .boolean) 1 := ⟨(cv_mT 862 (by decide +kernel) rfl), (cv_mT 863 (by decide +kernel) rfl), (cv_mT 1 (by decide +kernel) rfl), (cv_mT 864 (by decide +kernel) rfl), by decide +kernel, by decide +kernel, by decide +kernel⟩
theorem vm_X8_isVariadic : cv_VM yX8_isVariadic cX8_isVariadic 2 (some .boolean) 1 := ⟨(cv_mT 833 (by decide +kernel) rfl), (cv_mT 834 (by decide +kernel) rfl), (cv_mT 1 (by decide +kernel) rfl), (cv_mT 835 (by decide +kernel) rfl), by decide +kernel, by decide +kernel, by decide +kernel⟩
theorem vm_X8_length : cv_VM yX8_length cX8_length 2 (some .int) 1 := ⟨(cv_mT 718 (by decide +kernel) rfl), (cv_mT 719 (by decide +kernel) rfl), (cv_mT 1 (by decide +kernel) rfl), (cv_mT 720 (by decide +kernel) rfl), by decide +kernel, by decide +kernel, by decide +kernel⟩
theorem vm_X8_liveBefore : cv_VM yX8_liveBefore cX8_liveBefore 3 (some .int) 2 := ⟨(cv_mT 817 (by decide +kernel) rfl), (cv_mT 818 (by decide +kernel) rfl), (cv_mT 1 (by decide +kernel) rfl), (cv_mT 819 (by decide +kernel) rfl), by decide +kernel, by decide +kernel, by decide +kernel⟩
theorem vm_X8_liveBehind : cv_VM yX8_liveBehind cX8_liveBehind 2 (some .int) 1 := ⟨(cv_mT 908 (by decide +kernel) rfl), (cv_mT 909 (by decide +kernel) rfl), (cv_mT 1 (by decide +kernel) rfl), (cv_mT 910 (by decide +kernel) rfl), by decide +kernel, by decide +kernel, by decide +kernel⟩
theorem vm_X8_lostRegisters : cv_VM yX8_lostRegisters cX8_lostRegisters 2 (some .int) 1 := ⟨(cv_mT 901 (by decide +kernel) rfl), (cv_mT 902 (by decide +kernel) rfl), (cv_mT 1 (by decide +kernel) rfl), (cv_mT 903 (by decide +kernel) rfl), by decide +kernel, by decide +kernel, by decide +kernel⟩
theorem vm_X8_missingSlots : cv_VM yX8_missingSlots cX8_missingSlots 2 (some .int) 1 := ⟨(cv_mT 894 (by decide +kernel) rfl), (cv_mT 895 (by decide +kernel) rfl), (cv_mT 1 (by decide +kernel) rfl), (cv_mT 896 (by decide +kernel) rfl), by decide +kernel, by decide +kernel, by decide +kernel⟩
theorem vm_X8_neededSlots : cv_VM yX8_neededSlots cX8_neededSlots 2 (some .int) 1 := ⟨(cv_mT 826 (by decide +kernel) rfl), (cv_mT 827 (by decide +kernel) rfl), (cv_mT 1 (by decide +kernel) rfl), (cv_mT 828 (by decide +kernel) rfl), by decide +kernel, by decide +kernel, by decide +kernel⟩
theorem vm_X8_observed : cv_VM yX8_observed cX8_observed 3 (some .int) 0 := ⟨(cv_mT 1018 (by decide +kernel) rfl), (cv_mT 1019 (by decide +kernel) rfl), (cv_mT 1 (by decide +kernel) rfl), (cv_mT 1020 (by decide +kernel) rfl), by decide +kernel, by decide +kernel, by decide +kernel⟩
theorem vm_X8_operand : cv_VM yX8_operand cX8_operand 3 (some .int) 2 := ⟨(cv_mT 739 (by decide +kernel) rfl), (cv_mT 740 (by decide +kernel) rfl), (cv_mT 1 (by decide +kernel) rfl), (cv_mT 741 (by decide +kernel) rfl), by decide +kernel, by decide +kernel, by decide +kernel⟩
theorem vm_X8_origin : cv_VM yX8_origin cX8_origin 3 (some .int) 1 := ⟨(cv_mT 1030 (by decide +kernel) rfl), (cv_mT 1031 (by decide +kernel) rfl), (cv_mT 1 (by decide +kernel) rfl), (cv_mT 1032 (by decide +kernel) rfl), by decide +kernel, by decide +kernel, by decide +kernel⟩
theorem vm_X8_passedSlots : cv_VM yX8_passedSlots cX8_passedSlots 2 (some .int) 1 := ⟨(cv_mT 887 (by decide +kernel) rfl), (cv_mT 888 (by decide +kernel) rfl), (cv_mT 1 (by decide +kernel) rfl), (cv_mT 889 (by decide +kernel) rfl), by decide +kernel, by decide +kernel, by decide +kernel⟩
theorem vm_X8_preserved : cv_VM yX8_preserved cX8_preserved 2 (some .int) 1 := ⟨(cv_mT 789 (by decide +kernel) rfl), (cv_mT 790 (by decide +kernel) rfl), (cv_mT 1 (by decide +kernel) rfl), (cv_mT 791 (by decide +kernel) rfl), by decide +kernel, by decide +kernel, by decide +kernel⟩
theorem vm_X8_preservedShare : cv_VM yX8_preservedShare cX8_preservedShare 4 (some .double) 0 := ⟨(cv_mT 1052 (by decide +kernel) rfl), (cv_mT 1053 (by decide +kernel) rfl), (cv_mT 1 (by decide +kernel) rfl), (cv_mT 1054 (by decide +kernel) rfl), by decide +kernel, by decide +kernel, by decide +kernel⟩
theorem vm_X8_problemShare : cv_VM yX8_problemShare cX8_problemShare 1 (some .float) 0 := ⟨(cv_mT 1061 (by decide +kernel) rfl), (cv_mT 1062 (by decide +kernel) rfl), (cv_mT 1 (by decide +kernel) rfl), (cv_mT 1063 (by decide +kernel) rfl), by decide +kernel, by decide +kernel, by decide +kernel⟩
theorem vm_X8_removeInstruction : cv_VM yX8_removeInstruction cX8_removeInstruction 3 (some .int) 2 := ⟨(cv_mT 763 (by decide +kernel) rfl), (cv_mT 764 (by decide +kernel) rfl), (cv_mT 1 (by decide +kernel) rfl), (cv_mT 765 (by decide +kernel) rfl), by decide +kernel, by decide +kernel, by decide +kernel⟩
theorem vm_X8_restore : cv_VM yX8_restore cX8_restore 1 none 0 := ⟨(cv_mT 1069 (by decide +kernel) rfl), (cv_mT 1070 (by decide +kernel) rfl), (cv_mT 1 (by decide +kernel) rfl), (cv_mT 1071 (by decide +kernel) rfl), by decide +kernel, by decide +kernel, by decide +kernel⟩
theorem vm_X8_results : cv_VM yX8_results cX8_results 2 (some .int) 1 := ⟨(cv_mT 810 (by decide +kernel) rfl), (cv_mT 811 (by decide +kernel) rfl), (cv_mT 1 (by decide +kernel) rfl), (cv_mT 812 (by decide +kernel) rfl), by decide +kernel, by decide +kernel, by decide +kernel⟩
theorem vm_X8_role : cv_VM yX8_role cX8_role 3 (some .int) 1 := ⟨(cv_mT 960 (by decide +kernel) rfl), (cv_mT 961 (by decide +kernel) rfl), (cv_mT 1 (by decide +kernel) rfl), (cv_mT 962 (by decide +kernel) rfl), by decide +kernel, by decide +kernel, by decide +kernel⟩
theorem vm_X8_run : cv_VM yX8_run cX8_run 3 (some .int) 2 := ⟨(cv_mT 972 (by decide +kernel) rfl), (cv_mT 973 (by decide +kernel) rfl), (cv_mT 1 (by decide +kernel) rfl), (cv_mT 974 (by decide +kernel) rfl), by decide +kernel, by decide +kernel, by decide +kernel⟩
theorem vm_X8_setBody : cv_VM yX8_setBody cX8_setBody 2 (some .int) 1 := ⟨(cv_mT 663 (by decide +kernel) rfl), (cv_mT 664 (by decide +kernel) rfl), (cv_mT 1 (by decide +kernel) rfl), (cv_mT 665 (by decide +kernel) rfl), by decide +kernel, by decide +kernel, by decide +kernel⟩
theorem vm_X8_site : cv_VM yX8_site cX8_site 3 (some .int) 2 := ⟨(cv_mT 874 (by decide +kernel) rfl), (cv_mT 875 (by decide +kernel) rfl), (cv_mT 1 (by decide +kernel) rfl), (cv_mT 876 (by decide +kernel) rfl), by decide +kernel, by decide +kernel, by decide +kernel⟩
theorem vm_X8_surelyDefined : cv_VM yX8_surelyDefined cX8_surelyDefined 2 (some .int) 1 := ⟨(cv_mT 796 (by decide +kernel) rfl), (cv_mT 797 (by decide +kernel) rfl), (cv_mT 1 (by decide +kernel) rfl), (cv_mT 798 (by decide +kernel) rfl), by decide +kernel, by decide +kernel, by decide +kernel⟩
theorem vm_X8_votes : cv_VM yX8_votes cX8_votes 3 (some .int) 2 := ⟨(cv_mT 939 (by decide +kernel) rfl), (cv_mT 940 (by decide +kernel) rfl), (cv_mT 1 (by decide +kernel) rfl), (cv_mT 941 (by decide +kernel) rfl), by decide +kernel, by decide +kernel, by decide +kernel⟩
def hf_L_appendCharacter : Nat → Option Int32 := fun c => match c with
  | 1 => none
  | 2 => some 1
  | 3 => some 2
  | 4 => none
  | 5 => none
  | 6 => none
  | _ => none
set_option maxRecDepth 20000 in
theorem hn_L_appendCharacter : ∀ code kv, hf_L_appendCharacter code = some kv → cv_HND cL_appendCharacter 4 [(0, 9, 12, 13), (0, 9, 15, 15)] 4 code kv := by
  intro code kv h
  match code, h with
  | 0, h => cases h
  | 1, h => cases h
  | 2, h => (have h : some (1 : Int32) = some kv := h); cases h; exact ⟨[], ⟨0, 9, 12, 13⟩, [(⟨0, 9, 15, 15⟩ : ExceptionTableEntry)], rfl, (fun z hz => nomatch hz), by decide, by decide, cl_L_13, by decide +kernel, 1, 3, 1, Or.inl ⟨3, dL_appendCharacter_12, rfl, rfl⟩, by decide, dL_appendCharacter_13, by decide, dL_appendCharacter_14⟩
  | 3, h => (have h : some (2 : Int32) = some kv := h); cases h; exact ⟨[(⟨0, 9, 12, 13⟩ : ExceptionTableEntry)], ⟨0, 9, 15, 15⟩, [], rfl, (fun z hz => by obtain rfl := List.mem_singleton.mp hz; exact ⟨(by decide), "java/lang/IllegalArgumentException", cl_L_13, by decide +kernel⟩), by decide, by decide, cl_L_15, by decide +kernel, 1, 3, 2, Or.inl ⟨3, dL_appendCharacter_15, rfl, rfl⟩, by decide, dL_appendCharacter_16, by decide, dL_appendCharacter_17⟩
  | 4, h => cases h
  | 5, h => cases h
  | 6, h => cases h
  | n + 7, h => cases h
def hf_L_arguments : Nat → Option Int32 := fun c => match c with
  | 1 => some 1
  | 2 => none
  | 3 => none
  | 4 => none
  | 5 => none
  | 6 => none
  | _ => none
set_option maxRecDepth 20000 in
theorem hn_L_arguments : ∀ code kv, hf_L_arguments code = some kv → cv_HND cL_arguments 4 [(0, 9, 12, 20)] 4 code kv := by
  intro code kv h
  match code, h with
  | 0, h => cases h
  | 1, h => (have h : some (1 : Int32) = some kv := h); cases h; exact ⟨[], ⟨0, 9, 12, 20⟩, [], rfl, (fun z hz => nomatch hz), by decide, by decide, cl_L_20, by decide +kernel, 1, 3, 1, Or.inl ⟨3, dL_arguments_12, rfl, rfl⟩, by decide, dL_arguments_13, by decide, dL_arguments_14⟩
  | 2, h => cases h
  | 3, h => cases h
  | 4, h => cases h
  | 5, h => cases h
  | 6, h => cases h
  | n + 7, h => cases h
def hf_L_callees : Nat → Option Int32 := fun c => match c with
  | 1 => some 1
  | 2 => none
  | 3 => none
  | 4 => none
  | 5 => none
  | 6 => none
  | _ => none
set_option maxRecDepth 20000 in
theorem hn_L_callees : ∀ code kv, hf_L_callees code = some kv → cv_HND cL_callees 4 [(0, 9, 12, 20)] 4 code kv := by
  intro code kv h
  match code, h with
  | 0, h => cases h
  | 1, h => (have h : some (1 : Int32) = some kv := h); cases h; exact ⟨[], ⟨0, 9, 12, 20⟩, [], rfl, (fun z hz => nomatch hz), by decide, by decide, cl_L_20, by decide +kernel, 1, 3, 1, Or.inl ⟨3, dL_callees_12, rfl, rfl⟩, by decide, dL_callees_13, by decide, dL_callees_14⟩
  | 2, h => cases h
  | 3, h => cases h
  | 4, h => cases h
  | 5, h => cases h
  | 6, h => cases h
  | n + 7, h => cases h
def hf_L_callersOf : Nat → Option Int32 := fun c => match c with
  | 1 => some 1
  | 2 => none
  | 3 => none
  | 4 => none
  | 5 => none
  | 6 => none
  | _ => none
set_option maxRecDepth 20000 in
theorem hn_L_callersOf : ∀ code kv, hf_L_callersOf code = some kv → cv_HND cL_callersOf 4 [(0, 9, 12, 20)] 4 code kv := by
  intro code kv h
  match code, h with
  | 0, h => cases h
  | 1, h => (have h : some (1 : Int32) = some kv := h); cases h; exact ⟨[], ⟨0, 9, 12, 20⟩, [], rfl, (fun z hz => nomatch hz), by decide, by decide, cl_L_20, by decide +kernel, 1, 3, 1, Or.inl ⟨3, dL_callersOf_12, rfl, rfl⟩, by decide, dL_callersOf_13, by decide, dL_callersOf_14⟩
  | 2, h => cases h
  | 3, h => cases h
  | 4, h => cases h
  | 5, h => cases h
  | 6, h => cases h
  | n + 7, h => cases h
def hf_L_firstProblem : Nat → Option Int32 := fun c => match c with
  | 1 => none
  | 2 => none
  | 3 => none
  | 4 => none
  | 5 => some 1
  | 6 => none
  | _ => none
set_option maxRecDepth 20000 in
theorem hn_L_firstProblem : ∀ code kv, hf_L_firstProblem code = some kv → cv_HND cL_firstProblem 3 [(0, 8, 11, 95)] 3 code kv := by
  intro code kv h
  match code, h with
  | 0, h => cases h
  | 1, h => cases h
  | 2, h => cases h
  | 3, h => cases h
  | 4, h => cases h
  | 5, h => (have h : some (1 : Int32) = some kv := h); cases h; exact ⟨[], ⟨0, 8, 11, 95⟩, [], rfl, (fun z hz => nomatch hz), by decide, by decide, cl_L_95, by decide +kernel, 1, 2, 1, Or.inl ⟨2, dL_firstProblem_11, rfl, rfl⟩, by decide, dL_firstProblem_12, by decide, dL_firstProblem_13⟩
  | 6, h => cases h
  | n + 7, h => cases h
def hf_L_instruction : Nat → Option Int32 := fun c => match c with
  | 1 => some 1
  | 2 => none
  | 3 => none
  | 4 => none
  | 5 => none
  | 6 => none
  | _ => none
set_option maxRecDepth 20000 in
theorem hn_L_instruction : ∀ code kv, hf_L_instruction code = some kv → cv_HND cL_instruction 5 [(0, 10, 13, 20)] 5 code kv := by
  intro code kv h
  match code, h with
  | 0, h => cases h
  | 1, h => (have h : some (1 : Int32) = some kv := h); cases h; exact ⟨[], ⟨0, 10, 13, 20⟩, [], rfl, (fun z hz => nomatch hz), by decide, by decide, cl_L_20, by decide +kernel, 2, 4, 1, Or.inr ⟨dL_instruction_13, rfl⟩, by decide, dL_instruction_15, by decide, dL_instruction_16⟩
  | 2, h => cases h
  | 3, h => cases h
  | 4, h => cases h
  | 5, h => cases h
  | 6, h => cases h
  | n + 7, h => cases h
def hf_L_isBalanced : Nat → Option Int32 := fun c => match c with
  | 1 => some 1
  | 2 => none
  | 3 => none
  | 4 => none
  | 5 => none
  | 6 => none
  | _ => none
set_option maxRecDepth 20000 in
theorem hn_L_isBalanced : ∀ code kv, hf_L_isBalanced code = some kv → cv_HND cL_isBalanced 4 [(0, 16, 19, 20)] 4 code kv := by
  intro code kv h
  match code, h with
  | 0, h => cases h
  | 1, h => (have h : some (1 : Int32) = some kv := h); cases h; exact ⟨[], ⟨0, 16, 19, 20⟩, [], rfl, (fun z hz => nomatch hz), by decide, by decide, cl_L_20, by decide +kernel, 1, 3, 1, Or.inl ⟨3, dL_isBalanced_19, rfl, rfl⟩, by decide, dL_isBalanced_20, by decide, dL_isBalanced_21⟩
  | 2, h => cases h
  | 3, h => cases h
  | 4, h => cases h
  | 5, h => cases h
  | 6, h => cases h
  | n + 7, h => cases h
def hf_L_isCut : Nat → Option Int32 := fun c => match c with
  | 1 => none
  | 2 => none
  | 3 => some 1
  | 4 => none
  | 5 => none
  | 6 => none
  | _ => none
set_option maxRecDepth 20000 in
theorem hn_L_isCut : ∀ code kv, hf_L_isCut code = some kv → cv_HND cL_isCut 3 [(0, 15, 18, 15)] 3 code kv := by
  intro code kv h
  match code, h with
  | 0, h => cases h
  | 1, h => cases h
  | 2, h => cases h
  | 3, h => (have h : some (1 : Int32) = some kv := h); cases h; exact ⟨[], ⟨0, 15, 18, 15⟩, [], rfl, (fun z hz => nomatch hz), by decide, by decide, cl_L_15, by decide +kernel, 1, 2, 1, Or.inl ⟨2, dL_isCut_18, rfl, rfl⟩, by decide, dL_isCut_19, by decide, dL_isCut_20⟩
  | 4, h => cases h
  | 5, h => cases h
  | 6, h => cases h
  | n + 7, h => cases h
def hf_L_isReachable : Nat → Option Int32 := fun c => match c with
  | 1 => some 1
  | 2 => none
  | 3 => none
  | 4 => none
  | 5 => none
  | 6 => none
  | _ => none
set_option maxRecDepth 20000 in
theorem hn_L_isReachable : ∀ code kv, hf_L_isReachable code = some kv → cv_HND cL_isReachable 5 [(0, 17, 20, 20)] 5 code kv := by
  intro code kv h
  match code, h with
  | 0, h => cases h
  | 1, h => (have h : some (1 : Int32) = some kv := h); cases h; exact ⟨[], ⟨0, 17, 20, 20⟩, [], rfl, (fun z hz => nomatch hz), by decide, by decide, cl_L_20, by decide +kernel, 2, 4, 1, Or.inr ⟨dL_isReachable_20, rfl⟩, by decide, dL_isReachable_22, by decide, dL_isReachable_23⟩
  | 2, h => cases h
  | 3, h => cases h
  | 4, h => cases h
  | 5, h => cases h
  | 6, h => cases h
  | n + 7, h => cases h
def hf_L_isRecursive : Nat → Option Int32 := fun c => match c with
  | 1 => some 1
  | 2 => none
  | 3 => none
  | 4 => none
  | 5 => none
  | 6 => none
  | _ => none
set_option maxRecDepth 20000 in
theorem hn_L_isRecursive : ∀ code kv, hf_L_isRecursive code = some kv → cv_HND cL_isRecursive 4 [(0, 16, 19, 20)] 4 code kv := by
  intro code kv h
  match code, h with
  | 0, h => cases h
  | 1, h => (have h : some (1 : Int32) = some kv := h); cases h; exact ⟨[], ⟨0, 16, 19, 20⟩, [], rfl, (fun z hz => nomatch hz), by decide, by decide, cl_L_20, by decide +kernel, 1, 3, 1, Or.inl ⟨3, dL_isRecursive_19, rfl, rfl⟩, by decide, dL_isRecursive_20, by decide, dL_isRecursive_21⟩
  | 2, h => cases h
  | 3, h => cases h
  | 4, h => cases h
  | 5, h => cases h
  | 6, h => cases h
  | n + 7, h => cases h
def hf_L_isVariadic : Nat → Option Int32 := fun c => match c with
  | 1 => some 1
  | 2 => none
  | 3 => none
  | 4 => none
  | 5 => none
  | 6 => none
  | _ => none
set_option maxRecDepth 20000 in
theorem hn_L_isVariadic : ∀ code kv, hf_L_isVariadic code = some kv → cv_HND cL_isVariadic 4 [(0, 16, 19, 20)] 4 code kv := by
  intro code kv h
  match code, h with
  | 0, h => cases h
  | 1, h => (have h : some (1 : Int32) = some kv := h); cases h; exact ⟨[], ⟨0, 16, 19, 20⟩, [], rfl, (fun z hz => nomatch hz), by decide, by decide, cl_L_20, by decide +kernel, 1, 3, 1, Or.inl ⟨3, dL_isVariadic_19, rfl, rfl⟩, by decide, dL_isVariadic_20, by decide, dL_isVariadic_21⟩
  | 2, h => cases h
  | 3, h => cases h
  | 4, h => cases h
  | 5, h => cases h
  | 6, h => cases h
  | n + 7, h => cases h
def hf_L_length : Nat → Option Int32 := fun c => match c with
  | 1 => some 1
  | 2 => none
  | 3 => none
  | 4 => none
  | 5 => none
  | 6 => none
  | _ => none
set_option maxRecDepth 20000 in
theorem hn_L_length : ∀ code kv, hf_L_length code = some kv → cv_HND cL_length 4 [(0, 9, 12, 20)] 4 code kv := by
  intro code kv h
  match code, h with
  | 0, h => cases h
  | 1, h => (have h : some (1 : Int32) = some kv := h); cases h; exact ⟨[], ⟨0, 9, 12, 20⟩, [], rfl, (fun z hz => nomatch hz), by decide, by decide, cl_L_20, by decide +kernel, 1, 3, 1, Or.inl ⟨3, dL_length_12, rfl, rfl⟩, by decide, dL_length_13, by decide, dL_length_14⟩
  | 2, h => cases h
  | 3, h => cases h
  | 4, h => cases h
  | 5, h => cases h
  | 6, h => cases h
  | n + 7, h => cases h
def hf_L_liveBefore : Nat → Option Int32 := fun c => match c with
  | 1 => some 1
  | 2 => none
  | 3 => some 2
  | 4 => none
  | 5 => none
  | 6 => none
  | _ => none
set_option maxRecDepth 20000 in
theorem hn_L_liveBefore : ∀ code kv, hf_L_liveBefore code = some kv → cv_HND cL_liveBefore 5 [(0, 10, 13, 20), (0, 10, 17, 15)] 5 code kv := by
  intro code kv h
  match code, h with
  | 0, h => cases h
  | 1, h => (have h : some (1 : Int32) = some kv := h); cases h; exact ⟨[], ⟨0, 10, 13, 20⟩, [(⟨0, 10, 17, 15⟩ : ExceptionTableEntry)], rfl, (fun z hz => nomatch hz), by decide, by decide, cl_L_20, by decide +kernel, 2, 4, 1, Or.inr ⟨dL_liveBefore_13, rfl⟩, by decide, dL_liveBefore_15, by decide, dL_liveBefore_16⟩
  | 2, h => cases h
  | 3, h => (have h : some (2 : Int32) = some kv := h); cases h; exact ⟨[(⟨0, 10, 13, 20⟩ : ExceptionTableEntry)], ⟨0, 10, 17, 15⟩, [], rfl, (fun z hz => by obtain rfl := List.mem_singleton.mp hz; exact ⟨(by decide), "java/lang/IndexOutOfBoundsException", cl_L_20, by decide +kernel⟩), by decide, by decide, cl_L_15, by decide +kernel, 2, 4, 2, Or.inr ⟨dL_liveBefore_17, rfl⟩, by decide, dL_liveBefore_19, by decide, dL_liveBefore_20⟩
  | 4, h => cases h
  | 5, h => cases h
  | 6, h => cases h
  | n + 7, h => cases h
def hf_L_liveBehind : Nat → Option Int32 := fun c => match c with
  | 1 => some 1
  | 2 => none
  | 3 => none
  | 4 => none
  | 5 => none
  | 6 => none
  | _ => none
set_option maxRecDepth 20000 in
theorem hn_L_liveBehind : ∀ code kv, hf_L_liveBehind code = some kv → cv_HND cL_liveBehind 4 [(0, 9, 12, 20)] 4 code kv := by
  intro code kv h
  match code, h with
  | 0, h => cases h
  | 1, h => (have h : some (1 : Int32) = some kv := h); cases h; exact ⟨[], ⟨0, 9, 12, 20⟩, [], rfl, (fun z hz => nomatch hz), by decide, by decide, cl_L_20, by decide +kernel, 1, 3, 1, Or.inl ⟨3, dL_liveBehind_12, rfl, rfl⟩, by decide, dL_liveBehind_13, by decide, dL_liveBehind_14⟩
  | 2, h => cases h
  | 3, h => cases h
  | 4, h => cases h
  | 5, h => cases h
  | 6, h => cases h
  | n + 7, h => cases h
def hf_L_lostRegisters : Nat → Option Int32 := fun c => match c with
  | 1 => some 1
  | 2 => none
  | 3 => none
  | 4 => none
  | 5 => none
  | 6 => none
  | _ => none
set_option maxRecDepth 20000 in
theorem hn_L_lostRegisters : ∀ code kv, hf_L_lostRegisters code = some kv → cv_HND cL_lostRegisters 4 [(0, 9, 12, 20)] 4 code kv := by
  intro code kv h
  match code, h with
  | 0, h => cases h
  | 1, h => (have h : some (1 : Int32) = some kv := h); cases h; exact ⟨[], ⟨0, 9, 12, 20⟩, [], rfl, (fun z hz => nomatch hz), by decide, by decide, cl_L_20, by decide +kernel, 1, 3, 1, Or.inl ⟨3, dL_lostRegisters_12, rfl, rfl⟩, by decide, dL_lostRegisters_13, by decide, dL_lostRegisters_14⟩
  | 2, h => cases h
  | 3, h => cases h
  | 4, h => cases h
  | 5, h => cases h
  | 6, h => cases h
  | n + 7, h => cases h
def hf_L_missingSlots : Nat → Option Int32 := fun c => match c with
  | 1 => some 1
  | 2 => none
  | 3 => none
  | 4 => none
  | 5 => none
  | 6 => none
  | _ => none
set_option maxRecDepth 20000 in
theorem hn_L_missingSlots : ∀ code kv, hf_L_missingSlots code = some kv → cv_HND cL_missingSlots 4 [(0, 9, 12, 20)] 4 code kv := by
  intro code kv h
  match code, h with
  | 0, h => cases h
  | 1, h => (have h : some (1 : Int32) = some kv := h); cases h; exact ⟨[], ⟨0, 9, 12, 20⟩, [], rfl, (fun z hz => nomatch hz), by decide, by decide, cl_L_20, by decide +kernel, 1, 3, 1, Or.inl ⟨3, dL_missingSlots_12, rfl, rfl⟩, by decide, dL_missingSlots_13, by decide, dL_missingSlots_14⟩
  | 2, h => cases h
  | 3, h => cases h
  | 4, h => cases h
  | 5, h => cases h
  | 6, h => cases h
  | n + 7, h => cases h
def hf_L_neededSlots : Nat → Option Int32 := fun c => match c with
  | 1 => some 1
  | 2 => none
  | 3 => none
  | 4 => none
  | 5 => none
  | 6 => none
  | _ => none
set_option maxRecDepth 20000 in
theorem hn_L_neededSlots : ∀ code kv, hf_L_neededSlots code = some kv → cv_HND cL_neededSlots 4 [(0, 9, 12, 20)] 4 code kv := by
  intro code kv h
  match code, h with
  | 0, h => cases h
  | 1, h => (have h : some (1 : Int32) = some kv := h); cases h; exact ⟨[], ⟨0, 9, 12, 20⟩, [], rfl, (fun z hz => nomatch hz), by decide, by decide, cl_L_20, by decide +kernel, 1, 3, 1, Or.inl ⟨3, dL_neededSlots_12, rfl, rfl⟩, by decide, dL_neededSlots_13, by decide, dL_neededSlots_14⟩
  | 2, h => cases h
  | 3, h => cases h
  | 4, h => cases h
  | 5, h => cases h
  | 6, h => cases h
  | n + 7, h => cases h
def hf_L_observed : Nat → Option Int32 := fun c => match c with
  | 1 => none
  | 2 => none
  | 3 => some 1
  | 4 => none
  | 5 => some 2
  | 6 => none
  | _ => none
set_option maxRecDepth 20000 in
theorem hn_L_observed : ∀ code kv, hf_L_observed code = some kv → cv_HND cL_observed 3 [(0, 8, 11, 15), (0, 8, 14, 95)] 3 code kv := by
  intro code kv h
  match code, h with
  | 0, h => cases h
  | 1, h => cases h
  | 2, h => cases h
  | 3, h => (have h : some (1 : Int32) = some kv := h); cases h; exact ⟨[], ⟨0, 8, 11, 15⟩, [(⟨0, 8, 14, 95⟩ : ExceptionTableEntry)], rfl, (fun z hz => nomatch hz), by decide, by decide, cl_L_15, by decide +kernel, 1, 2, 1, Or.inl ⟨2, dL_observed_11, rfl, rfl⟩, by decide, dL_observed_12, by decide, dL_observed_13⟩
  | 4, h => cases h
  | 5, h => (have h : some (2 : Int32) = some kv := h); cases h; exact ⟨[(⟨0, 8, 11, 15⟩ : ExceptionTableEntry)], ⟨0, 8, 14, 95⟩, [], rfl, (fun z hz => by obtain rfl := List.mem_singleton.mp hz; exact ⟨(by decide), "java/lang/IllegalStateException", cl_L_15, by decide +kernel⟩), by decide, by decide, cl_L_95, by decide +kernel, 1, 2, 2, Or.inl ⟨2, dL_observed_14, rfl, rfl⟩, by decide, dL_observed_15, by decide, dL_observed_16⟩
  | 6, h => cases h
  | n + 7, h => cases h
def hf_L_operand : Nat → Option Int32 := fun c => match c with
  | 1 => some 1
  | 2 => none
  | 3 => none
  | 4 => some 2
  | 5 => none
  | 6 => none
  | _ => none
set_option maxRecDepth 20000 in
theorem hn_L_operand : ∀ code kv, hf_L_operand code = some kv → cv_HND cL_operand 5 [(0, 10, 13, 20), (0, 10, 17, 33)] 5 code kv := by
  intro code kv h
  match code, h with
  | 0, h => cases h
  | 1, h => (have h : some (1 : Int32) = some kv := h); cases h; exact ⟨[], ⟨0, 10, 13, 20⟩, [(⟨0, 10, 17, 33⟩ : ExceptionTableEntry)], rfl, (fun z hz => nomatch hz), by decide, by decide, cl_L_20, by decide +kernel, 2, 4, 1, Or.inr ⟨dL_operand_13, rfl⟩, by decide, dL_operand_15, by decide, dL_operand_16⟩
  | 2, h => cases h
  | 3, h => cases h
  | 4, h => (have h : some (2 : Int32) = some kv := h); cases h; exact ⟨[(⟨0, 10, 13, 20⟩ : ExceptionTableEntry)], ⟨0, 10, 17, 33⟩, [], rfl, (fun z hz => by obtain rfl := List.mem_singleton.mp hz; exact ⟨(by decide), "java/lang/IndexOutOfBoundsException", cl_L_20, by decide +kernel⟩), by decide, by decide, cl_L_33, by decide +kernel, 2, 4, 2, Or.inr ⟨dL_operand_17, rfl⟩, by decide, dL_operand_19, by decide, dL_operand_20⟩
  | 5, h => cases h
  | 6, h => cases h
  | n + 7, h => cases h
def hf_L_origin : Nat → Option Int32 := fun c => match c with
  | 1 => some 1
  | 2 => none
  | 3 => some 2
  | 4 => none
  | 5 => some 3
  | 6 => none
  | _ => none
set_option maxRecDepth 20000 in
theorem hn_L_origin : ∀ code kv, hf_L_origin code = some kv → cv_HND cL_origin 4 [(0, 9, 12, 20), (0, 9, 15, 15), (0, 9, 18, 95)] 4 code kv := by
  intro code kv h
  match code, h with
  | 0, h => cases h
  | 1, h => (have h : some (1 : Int32) = some kv := h); cases h; exact ⟨[], ⟨0, 9, 12, 20⟩, [(⟨0, 9, 15, 15⟩ : ExceptionTableEntry), (⟨0, 9, 18, 95⟩ : ExceptionTableEntry)], rfl, (fun z hz => nomatch hz), by decide, by decide, cl_L_20, by decide +kernel, 1, 3, 1, Or.inl ⟨3, dL_origin_12, rfl, rfl⟩, by decide, dL_origin_13, by decide, dL_origin_14⟩
  | 2, h => cases h
  | 3, h => (have h : some (2 : Int32) = some kv := h); cases h; exact ⟨[(⟨0, 9, 12, 20⟩ : ExceptionTableEntry)], ⟨0, 9, 15, 15⟩, [(⟨0, 9, 18, 95⟩ : ExceptionTableEntry)], rfl, (fun z hz => by obtain rfl := List.mem_singleton.mp hz; exact ⟨(by decide), "java/lang/IndexOutOfBoundsException", cl_L_20, by decide +kernel⟩), by decide, by decide, cl_L_15, by decide +kernel, 1, 3, 2, Or.inl ⟨3, dL_origin_15, rfl, rfl⟩, by decide, dL_origin_16, by decide, dL_origin_17⟩
  | 4, h => cases h
  | 5, h => (have h : some (3 : Int32) = some kv := h); cases h; exact ⟨[(⟨0, 9, 12, 20⟩ : ExceptionTableEntry), (⟨0, 9, 15, 15⟩ : ExceptionTableEntry)], ⟨0, 9, 18, 95⟩, [], rfl, (fun z hz => by rcases List.mem_cons.mp hz with rfl | hz; exact ⟨(by decide), "java/lang/IndexOutOfBoundsException", cl_L_20, by decide +kernel⟩; obtain rfl := List.mem_singleton.mp hz; exact ⟨(by decide), "java/lang/IllegalStateException", cl_L_15, by decide +kernel⟩), by decide, by decide, cl_L_95, by decide +kernel, 1, 3, 3, Or.inl ⟨3, dL_origin_18, rfl, rfl⟩, by decide, dL_origin_19, by decide, dL_origin_20⟩
  | 6, h => cases h
  | n + 7, h => cases h
def hf_L_passedSlots : Nat → Option Int32 := fun c => match c with
  | 1 => some 1
  | 2 => none
  | 3 => none
  | 4 => none
  | 5 => none
  | 6 => none
  | _ => none
set_option maxRecDepth 20000 in
theorem hn_L_passedSlots : ∀ code kv, hf_L_passedSlots code = some kv → cv_HND cL_passedSlots 4 [(0, 9, 12, 20)] 4 code kv := by
  intro code kv h
  match code, h with
  | 0, h => cases h
  | 1, h => (have h : some (1 : Int32) = some kv := h); cases h; exact ⟨[], ⟨0, 9, 12, 20⟩, [], rfl, (fun z hz => nomatch hz), by decide, by decide, cl_L_20, by decide +kernel, 1, 3, 1, Or.inl ⟨3, dL_passedSlots_12, rfl, rfl⟩, by decide, dL_passedSlots_13, by decide, dL_passedSlots_14⟩
  | 2, h => cases h
  | 3, h => cases h
  | 4, h => cases h
  | 5, h => cases h
  | 6, h => cases h
  | n + 7, h => cases h
def hf_L_preserved : Nat → Option Int32 := fun c => match c with
  | 1 => some 1
  | 2 => none
  | 3 => none
  | 4 => none
  | 5 => none
  | 6 => none
  | _ => none
set_option maxRecDepth 20000 in
theorem hn_L_preserved : ∀ code kv, hf_L_preserved code = some kv → cv_HND cL_preserved 4 [(0, 9, 12, 20)] 4 code kv := by
  intro code kv h
  match code, h with
  | 0, h => cases h
  | 1, h => (have h : some (1 : Int32) = some kv := h); cases h; exact ⟨[], ⟨0, 9, 12, 20⟩, [], rfl, (fun z hz => nomatch hz), by decide, by decide, cl_L_20, by decide +kernel, 1, 3, 1, Or.inl ⟨3, dL_preserved_12, rfl, rfl⟩, by decide, dL_preserved_13, by decide, dL_preserved_14⟩
  | 2, h => cases h
  | 3, h => cases h
  | 4, h => cases h
  | 5, h => cases h
  | 6, h => cases h
  | n + 7, h => cases h
def hf_L_preservedShare : Nat → Option Int32 := fun c => match c with
  | 1 => none
  | 2 => none
  | 3 => none
  | 4 => none
  | 5 => none
  | 6 => some 1
  | _ => none
set_option maxRecDepth 20000 in
theorem hn_L_preservedShare : ∀ code kv, hf_L_preservedShare code = some kv → cv_HND cL_preservedShare 3 [(0, 7, 10, 120)] 3 code kv := by
  intro code kv h
  match code, h with
  | 0, h => cases h
  | 1, h => cases h
  | 2, h => cases h
  | 3, h => cases h
  | 4, h => cases h
  | 5, h => cases h
  | 6, h => (have h : some (1 : Int32) = some kv := h); cases h; exact ⟨[], ⟨0, 7, 10, 120⟩, [], rfl, (fun z hz => nomatch hz), by decide, by decide, cl_L_120, by decide +kernel, 1, 2, 1, Or.inl ⟨2, dL_preservedShare_10, rfl, rfl⟩, by decide, dL_preservedShare_11, by decide, dL_preservedShare_12⟩
  | n + 7, h => cases h
def hf_L_problemShare : Nat → Option Int32 := fun c => match c with
  | 1 => none
  | 2 => none
  | 3 => none
  | 4 => none
  | 5 => none
  | 6 => some 1
  | _ => none
set_option maxRecDepth 20000 in
theorem hn_L_problemShare : ∀ code kv, hf_L_problemShare code = some kv → cv_HND cL_problemShare 3 [(0, 8, 11, 120)] 3 code kv := by
  intro code kv h
  match code, h with
  | 0, h => cases h
  | 1, h => cases h
  | 2, h => cases h
  | 3, h => cases h
  | 4, h => cases h
  | 5, h => cases h
  | 6, h => (have h : some (1 : Int32) = some kv := h); cases h; exact ⟨[], ⟨0, 8, 11, 120⟩, [], rfl, (fun z hz => nomatch hz), by decide, by decide, cl_L_120, by decide +kernel, 1, 2, 1, Or.inl ⟨2, dL_problemShare_11, rfl, rfl⟩, by decide, dL_problemShare_12, by decide, dL_problemShare_13⟩
  | n + 7, h => cases h
def hf_L_removeInstruction : Nat → Option Int32 := fun c => match c with
  | 1 => some 1
  | 2 => none
  | 3 => none
  | 4 => none
  | 5 => none
  | 6 => none
  | _ => none
set_option maxRecDepth 20000 in
theorem hn_L_removeInstruction : ∀ code kv, hf_L_removeInstruction code = some kv → cv_HND cL_removeInstruction 5 [(0, 10, 13, 20)] 5 code kv := by
  intro code kv h
  match code, h with
  | 0, h => cases h
  | 1, h => (have h : some (1 : Int32) = some kv := h); cases h; exact ⟨[], ⟨0, 10, 13, 20⟩, [], rfl, (fun z hz => nomatch hz), by decide, by decide, cl_L_20, by decide +kernel, 2, 4, 1, Or.inr ⟨dL_removeInstruction_13, rfl⟩, by decide, dL_removeInstruction_15, by decide, dL_removeInstruction_16⟩
  | 2, h => cases h
  | 3, h => cases h
  | 4, h => cases h
  | 5, h => cases h
  | 6, h => cases h
  | n + 7, h => cases h
def hf_L_restore : Nat → Option Int32 := fun c => match c with
  | 1 => none
  | 2 => none
  | 3 => some 1
  | 4 => none
  | 5 => none
  | 6 => none
  | _ => none
set_option maxRecDepth 20000 in
theorem hn_L_restore : ∀ code kv, hf_L_restore code = some kv → cv_HND cL_restore 2 [(0, 4, 7, 15)] 1 code kv := by
  intro code kv h
  match code, h with
  | 0, h => cases h
  | 1, h => cases h
  | 2, h => cases h
  | 3, h => (have h : some (1 : Int32) = some kv := h); cases h; exact ⟨[], ⟨0, 4, 7, 15⟩, [], rfl, (fun z hz => nomatch hz), by decide, by decide, cl_L_15, by decide +kernel, 1, 1, 1, Or.inl ⟨1, dL_restore_7, rfl, rfl⟩, by decide, dL_restore_8, by decide, dL_restore_9⟩
  | 4, h => cases h
  | 5, h => cases h
  | 6, h => cases h
  | n + 7, h => cases h
def hf_L_results : Nat → Option Int32 := fun c => match c with
  | 1 => some 1
  | 2 => none
  | 3 => none
  | 4 => none
  | 5 => none
  | 6 => none
  | _ => none
set_option maxRecDepth 20000 in
theorem hn_L_results : ∀ code kv, hf_L_results code = some kv → cv_HND cL_results 4 [(0, 9, 12, 20)] 4 code kv := by
  intro code kv h
  match code, h with
  | 0, h => cases h
  | 1, h => (have h : some (1 : Int32) = some kv := h); cases h; exact ⟨[], ⟨0, 9, 12, 20⟩, [], rfl, (fun z hz => nomatch hz), by decide, by decide, cl_L_20, by decide +kernel, 1, 3, 1, Or.inl ⟨3, dL_results_12, rfl, rfl⟩, by decide, dL_results_13, by decide, dL_results_14⟩
  | 2, h => cases h
  | 3, h => cases h
  | 4, h => cases h
  | 5, h => cases h
  | 6, h => cases h
  | n + 7, h => cases h
def hf_L_role : Nat → Option Int32 := fun c => match c with
  | 1 => some 1
  | 2 => none
  | 3 => none
  | 4 => none
  | 5 => some 2
  | 6 => none
  | _ => none
set_option maxRecDepth 20000 in
theorem hn_L_role : ∀ code kv, hf_L_role code = some kv → cv_HND cL_role 4 [(0, 9, 12, 20), (0, 9, 15, 95)] 4 code kv := by
  intro code kv h
  match code, h with
  | 0, h => cases h
  | 1, h => (have h : some (1 : Int32) = some kv := h); cases h; exact ⟨[], ⟨0, 9, 12, 20⟩, [(⟨0, 9, 15, 95⟩ : ExceptionTableEntry)], rfl, (fun z hz => nomatch hz), by decide, by decide, cl_L_20, by decide +kernel, 1, 3, 1, Or.inl ⟨3, dL_role_12, rfl, rfl⟩, by decide, dL_role_13, by decide, dL_role_14⟩
  | 2, h => cases h
  | 3, h => cases h
  | 4, h => cases h
  | 5, h => (have h : some (2 : Int32) = some kv := h); cases h; exact ⟨[(⟨0, 9, 12, 20⟩ : ExceptionTableEntry)], ⟨0, 9, 15, 95⟩, [], rfl, (fun z hz => by obtain rfl := List.mem_singleton.mp hz; exact ⟨(by decide), "java/lang/IndexOutOfBoundsException", cl_L_20, by decide +kernel⟩), by decide, by decide, cl_L_95, by decide +kernel, 1, 3, 2, Or.inl ⟨3, dL_role_15, rfl, rfl⟩, by decide, dL_role_16, by decide, dL_role_17⟩
  | 6, h => cases h
  | n + 7, h => cases h
def hf_L_run : Nat → Option Int32 := fun c => match c with
  | 1 => some 1
  | 2 => none
  | 3 => none
  | 4 => none
  | 5 => none
  | 6 => none
  | _ => none
set_option maxRecDepth 20000 in
theorem hn_L_run : ∀ code kv, hf_L_run code = some kv → cv_HND cL_run 5 [(0, 10, 13, 20)] 5 code kv := by
  intro code kv h
  match code, h with
  | 0, h => cases h
  | 1, h => (have h : some (1 : Int32) = some kv := h); cases h; exact ⟨[], ⟨0, 10, 13, 20⟩, [], rfl, (fun z hz => nomatch hz), by decide, by decide, cl_L_20, by decide +kernel, 2, 4, 1, Or.inr ⟨dL_run_13, rfl⟩, by decide, dL_run_15, by decide, dL_run_16⟩
  | 2, h => cases h
  | 3, h => cases h
  | 4, h => cases h
  | 5, h => cases h
  | 6, h => cases h
  | n + 7, h => cases h
def hf_L_setBody : Nat → Option Int32 := fun c => match c with
  | 1 => some 1
  | 2 => some 2
  | 3 => some 3
  | 4 => none
  | 5 => none
  | 6 => none
  | _ => none
set_option maxRecDepth 20000 in
theorem hn_L_setBody : ∀ code kv, hf_L_setBody code = some kv → cv_HND cL_setBody 4 [(0, 9, 12, 20), (0, 9, 15, 13), (0, 9, 18, 15)] 4 code kv := by
  intro code kv h
  match code, h with
  | 0, h => cases h
  | 1, h => (have h : some (1 : Int32) = some kv := h); cases h; exact ⟨[], ⟨0, 9, 12, 20⟩, [(⟨0, 9, 15, 13⟩ : ExceptionTableEntry), (⟨0, 9, 18, 15⟩ : ExceptionTableEntry)], rfl, (fun z hz => nomatch hz), by decide, by decide, cl_L_20, by decide +kernel, 1, 3, 1, Or.inl ⟨3, dL_setBody_12, rfl, rfl⟩, by decide, dL_setBody_13, by decide, dL_setBody_14⟩
  | 2, h => (have h : some (2 : Int32) = some kv := h); cases h; exact ⟨[(⟨0, 9, 12, 20⟩ : ExceptionTableEntry)], ⟨0, 9, 15, 13⟩, [(⟨0, 9, 18, 15⟩ : ExceptionTableEntry)], rfl, (fun z hz => by obtain rfl := List.mem_singleton.mp hz; exact ⟨(by decide), "java/lang/IndexOutOfBoundsException", cl_L_20, by decide +kernel⟩), by decide, by decide, cl_L_13, by decide +kernel, 1, 3, 2, Or.inl ⟨3, dL_setBody_15, rfl, rfl⟩, by decide, dL_setBody_16, by decide, dL_setBody_17⟩
  | 3, h => (have h : some (3 : Int32) = some kv := h); cases h; exact ⟨[(⟨0, 9, 12, 20⟩ : ExceptionTableEntry), (⟨0, 9, 15, 13⟩ : ExceptionTableEntry)], ⟨0, 9, 18, 15⟩, [], rfl, (fun z hz => by rcases List.mem_cons.mp hz with rfl | hz; exact ⟨(by decide), "java/lang/IndexOutOfBoundsException", cl_L_20, by decide +kernel⟩; obtain rfl := List.mem_singleton.mp hz; exact ⟨(by decide), "java/lang/IllegalArgumentException", cl_L_13, by decide +kernel⟩), by decide, by decide, cl_L_15, by decide +kernel, 1, 3, 3, Or.inl ⟨3, dL_setBody_18, rfl, rfl⟩, by decide, dL_setBody_19, by decide, dL_setBody_20⟩
  | 4, h => cases h
  | 5, h => cases h
  | 6, h => cases h
  | n + 7, h => cases h
def hf_L_site : Nat → Option Int32 := fun c => match c with
  | 1 => some 1
  | 2 => some 2
  | 3 => none
  | 4 => none
  | 5 => none
  | 6 => none
  | _ => none
set_option maxRecDepth 20000 in
theorem hn_L_site : ∀ code kv, hf_L_site code = some kv → cv_HND cL_site 5 [(0, 10, 13, 20), (0, 10, 17, 13)] 5 code kv := by
  intro code kv h
  match code, h with
  | 0, h => cases h
  | 1, h => (have h : some (1 : Int32) = some kv := h); cases h; exact ⟨[], ⟨0, 10, 13, 20⟩, [(⟨0, 10, 17, 13⟩ : ExceptionTableEntry)], rfl, (fun z hz => nomatch hz), by decide, by decide, cl_L_20, by decide +kernel, 2, 4, 1, Or.inr ⟨dL_site_13, rfl⟩, by decide, dL_site_15, by decide, dL_site_16⟩
  | 2, h => (have h : some (2 : Int32) = some kv := h); cases h; exact ⟨[(⟨0, 10, 13, 20⟩ : ExceptionTableEntry)], ⟨0, 10, 17, 13⟩, [], rfl, (fun z hz => by obtain rfl := List.mem_singleton.mp hz; exact ⟨(by decide), "java/lang/IndexOutOfBoundsException", cl_L_20, by decide +kernel⟩), by decide, by decide, cl_L_13, by decide +kernel, 2, 4, 2, Or.inr ⟨dL_site_17, rfl⟩, by decide, dL_site_19, by decide, dL_site_20⟩
  | 3, h => cases h
  | 4, h => cases h
  | 5, h => cases h
  | 6, h => cases h
  | n + 7, h => cases h
def hf_L_surelyDefined : Nat → Option Int32 := fun c => match c with
  | 1 => some 1
  | 2 => none
  | 3 => none
  | 4 => none
  | 5 => none
  | 6 => none
  | _ => none
set_option maxRecDepth 20000 in
theorem hn_L_surelyDefined : ∀ code kv, hf_L_surelyDefined code = some kv → cv_HND cL_surelyDefined 4 [(0, 9, 12, 20)] 4 code kv := by
  intro code kv h
  match code, h with
  | 0, h => cases h
  | 1, h => (have h : some (1 : Int32) = some kv := h); cases h; exact ⟨[], ⟨0, 9, 12, 20⟩, [], rfl, (fun z hz => nomatch hz), by decide, by decide, cl_L_20, by decide +kernel, 1, 3, 1, Or.inl ⟨3, dL_surelyDefined_12, rfl, rfl⟩, by decide, dL_surelyDefined_13, by decide, dL_surelyDefined_14⟩
  | 2, h => cases h
  | 3, h => cases h
  | 4, h => cases h
  | 5, h => cases h
  | 6, h => cases h
  | n + 7, h => cases h
def hf_L_votes : Nat → Option Int32 := fun c => match c with
  | 1 => some 1
  | 2 => some 2
  | 3 => none
  | 4 => none
  | 5 => none
  | 6 => none
  | _ => none
set_option maxRecDepth 20000 in
theorem hn_L_votes : ∀ code kv, hf_L_votes code = some kv → cv_HND cL_votes 5 [(0, 10, 13, 20), (0, 10, 17, 13)] 5 code kv := by
  intro code kv h
  match code, h with
  | 0, h => cases h
  | 1, h => (have h : some (1 : Int32) = some kv := h); cases h; exact ⟨[], ⟨0, 10, 13, 20⟩, [(⟨0, 10, 17, 13⟩ : ExceptionTableEntry)], rfl, (fun z hz => nomatch hz), by decide, by decide, cl_L_20, by decide +kernel, 2, 4, 1, Or.inr ⟨dL_votes_13, rfl⟩, by decide, dL_votes_15, by decide, dL_votes_16⟩
  | 2, h => (have h : some (2 : Int32) = some kv := h); cases h; exact ⟨[(⟨0, 10, 13, 20⟩ : ExceptionTableEntry)], ⟨0, 10, 17, 13⟩, [], rfl, (fun z hz => by obtain rfl := List.mem_singleton.mp hz; exact ⟨(by decide), "java/lang/IndexOutOfBoundsException", cl_L_20, by decide +kernel⟩), by decide, by decide, cl_L_13, by decide +kernel, 2, 4, 2, Or.inr ⟨dL_votes_17, rfl⟩, by decide, dL_votes_19, by decide, dL_votes_20⟩
  | 3, h => cases h
  | 4, h => cases h
  | 5, h => cases h
  | 6, h => cases h
  | n + 7, h => cases h
