def F_L_appendCharacter (l1 : Int32) (σ : cv_St) : Option (Int32 × cv_St) :=
  cv_bh hf_L_appendCharacter (F_X8_appendCharacter l1 σ) (fun v2 s1 => cv_stL s1 0 v2.toInt64 (fun s3 => some (0, s3)))
def F_L_setBody (l1 : Int32) (σ : cv_St) : Option (Int32 × cv_St) :=
  cv_bh hf_L_setBody (F_X8_setBody l1 σ) (fun v2 s1 => cv_stL s1 0 v2.toInt64 (fun s3 => some (0, s3)))
def F_L_length (l1 : Int32) (σ : cv_St) : Option (Int32 × cv_St) :=
  cv_bh hf_L_length (F_X8_length l1 σ) (fun v2 s1 => cv_stL s1 0 v2.toInt64 (fun s3 => some (0, s3)))
def F_L_instruction (l1 : Int32) (l2 : Int32) (σ : cv_St) : Option (Int32 × cv_St) :=
  cv_bh hf_L_instruction (F_X8_instruction l1 l2 σ) (fun v2 s1 => cv_stL s1 0 v2.toInt64 (fun s3 => some (0, s3)))
def F_L_operand (l1 : Int32) (l2 : Int32) (σ : cv_St) : Option (Int32 × cv_St) :=
  cv_bh hf_L_operand (F_X8_operand l1 l2 σ) (fun v2 s1 => cv_stL s1 0 v2.toInt64 (fun s3 => some (0, s3)))
def F_L_removeInstruction (l1 : Int32) (l2 : Int32) (σ : cv_St) : Option (Int32 × cv_St) :=
  cv_bh hf_L_removeInstruction (F_X8_removeInstruction l1 l2 σ) (fun v2 s1 => cv_stL s1 0 v2.toInt64 (fun s3 => some (0, s3)))
def F_L_isReachable_b16 (t0 : Int64) (t1 : Int32) (σ : cv_St) : Option (Int32 × cv_St) :=
  cv_stL σ t1 t0 (fun s3 => some (0, s3))
def F_L_isReachable (l1 : Int32) (l2 : Int32) (σ : cv_St) : Option (Int32 × cv_St) :=
  cv_bh hf_L_isReachable (F_X8_isReachable l1 l2 σ) (fun v2 s1 => (if v2 = 0 then F_L_isReachable_b16 0 0 s1 else F_L_isReachable_b16 1 0 s1))
def F_L_isBalanced_b15 (t0 : Int64) (t1 : Int32) (σ : cv_St) : Option (Int32 × cv_St) :=
  cv_stL σ t1 t0 (fun s3 => some (0, s3))
def F_L_isBalanced (l1 : Int32) (σ : cv_St) : Option (Int32 × cv_St) :=
  cv_bh hf_L_isBalanced (F_X8_isBalanced l1 σ) (fun v2 s1 => (if v2 = 0 then F_L_isBalanced_b15 0 0 s1 else F_L_isBalanced_b15 1 0 s1))
def F_L_preserved (l1 : Int32) (σ : cv_St) : Option (Int32 × cv_St) :=
  cv_bh hf_L_preserved (F_X8_preserved l1 σ) (fun v2 s1 => cv_stL s1 0 v2.toInt64 (fun s3 => some (0, s3)))
def F_L_surelyDefined (l1 : Int32) (σ : cv_St) : Option (Int32 × cv_St) :=
  cv_bh hf_L_surelyDefined (F_X8_surelyDefined l1 σ) (fun v2 s1 => cv_stL s1 0 v2.toInt64 (fun s3 => some (0, s3)))
def F_L_arguments (l1 : Int32) (σ : cv_St) : Option (Int32 × cv_St) :=
  cv_bh hf_L_arguments (F_X8_arguments l1 σ) (fun v2 s1 => cv_stL s1 0 v2.toInt64 (fun s3 => some (0, s3)))
def F_L_results (l1 : Int32) (σ : cv_St) : Option (Int32 × cv_St) :=
  cv_bh hf_L_results (F_X8_results l1 σ) (fun v2 s1 => cv_stL s1 0 v2.toInt64 (fun s3 => some (0, s3)))
def F_L_liveBefore (l1 : Int32) (l2 : Int32) (σ : cv_St) : Option (Int32 × cv_St) :=
  cv_bh hf_L_liveBefore (F_X8_liveBefore l1 l2 σ) (fun v2 s1 => cv_stL s1 0 v2.toInt64 (fun s3 => some (0, s3)))
def F_L_neededSlots (l1 : Int32) (σ : cv_St) : Option (Int32 × cv_St) :=
  cv_bh hf_L_neededSlots (F_X8_neededSlots l1 σ) (fun v2 s1 => cv_stL s1 0 v2.toInt64 (fun s3 => some (0, s3)))
def F_L_isVariadic_b15 (t0 : Int64) (t1 : Int32) (σ : cv_St) : Option (Int32 × cv_St) :=
  cv_stL σ t1 t0 (fun s3 => some (0, s3))
def F_L_isVariadic (l1 : Int32) (σ : cv_St) : Option (Int32 × cv_St) :=
  cv_bh hf_L_isVariadic (F_X8_isVariadic l1 σ) (fun v2 s1 => (if v2 = 0 then F_L_isVariadic_b15 0 0 s1 else F_L_isVariadic_b15 1 0 s1))
def F_L_callees (l1 : Int32) (σ : cv_St) : Option (Int32 × cv_St) :=
  cv_bh hf_L_callees (F_X8_callees l1 σ) (fun v2 s1 => cv_stL s1 0 v2.toInt64 (fun s3 => some (0, s3)))
def F_L_callersOf (l1 : Int32) (σ : cv_St) : Option (Int32 × cv_St) :=
  cv_bh hf_L_callersOf (F_X8_callersOf l1 σ) (fun v2 s1 => cv_stL s1 0 v2.toInt64 (fun s3 => some (0, s3)))
def F_L_isRecursive_b15 (t0 : Int64) (t1 : Int32) (σ : cv_St) : Option (Int32 × cv_St) :=
  cv_stL σ t1 t0 (fun s3 => some (0, s3))
def F_L_isRecursive (l1 : Int32) (σ : cv_St) : Option (Int32 × cv_St) :=
  cv_bh hf_L_isRecursive (F_X8_isRecursive l1 σ) (fun v2 s1 => (if v2 = 0 then F_L_isRecursive_b15 0 0 s1 else F_L_isRecursive_b15 1 0 s1))
def F_L_site (l1 : Int32) (l2 : Int32) (σ : cv_St) : Option (Int32 × cv_St) :=
  cv_bh hf_L_site (F_X8_site l1 l2 σ) (fun v2 s1 => cv_stL s1 0 v2.toInt64 (fun s3 => some (0, s3)))
def F_L_passedSlots (l1 : Int32) (σ : cv_St) : Option (Int32 × cv_St) :=
  cv_bh hf_L_passedSlots (F_X8_passedSlots l1 σ) (fun v2 s1 => cv_stL s1 0 v2.toInt64 (fun s3 => some (0, s3)))
def F_L_missingSlots (l1 : Int32) (σ : cv_St) : Option (Int32 × cv_St) :=
  cv_bh hf_L_missingSlots (F_X8_missingSlots l1 σ) (fun v2 s1 => cv_stL s1 0 v2.toInt64 (fun s3 => some (0, s3)))
def F_L_lostRegisters (l1 : Int32) (σ : cv_St) : Option (Int32 × cv_St) :=
  cv_bh hf_L_lostRegisters (F_X8_lostRegisters l1 σ) (fun v2 s1 => cv_stL s1 0 v2.toInt64 (fun s3 => some (0, s3)))
def F_L_liveBehind (l1 : Int32) (σ : cv_St) : Option (Int32 × cv_St) :=
  cv_bh hf_L_liveBehind (F_X8_liveBehind l1 σ) (fun v2 s1 => cv_stL s1 0 v2.toInt64 (fun s3 => some (0, s3)))
def F_L_firstProblem (σ : cv_St) : Option (Int32 × cv_St) :=
  cv_bh hf_L_firstProblem (F_X8_firstProblem σ) (fun v2 s1 => cv_stL s1 0 v2.toInt64 (fun s3 => some (0, s3)))
def F_L_votes (l1 : Int32) (l2 : Int32) (σ : cv_St) : Option (Int32 × cv_St) :=
  cv_bh hf_L_votes (F_X8_votes l1 l2 σ) (fun v2 s1 => cv_stL s1 0 v2.toInt64 (fun s3 => some (0, s3)))
def F_L_role (l1 : Int32) (σ : cv_St) : Option (Int32 × cv_St) :=
  cv_bh hf_L_role (F_X8_role l1 σ) (fun v2 s1 => cv_stL s1 0 v2.toInt64 (fun s3 => some (0, s3)))
def F_L_run (l1 : Int32) (l2 : Int32) (σ : cv_St) : Option (Int32 × cv_St) :=
  cv_bh hf_L_run (F_X8_run l1 l2 σ) (fun v2 s1 => cv_stL s1 0 v2.toInt64 (fun s3 => some (0, s3)))
def F_L_isCut_b14 (t0 : Int64) (t1 : Int32) (σ : cv_St) : Option (Int32 × cv_St) :=
  cv_stL σ t1 t0 (fun s3 => some (0, s3))
def F_L_isCut (σ : cv_St) : Option (Int32 × cv_St) :=
  cv_bh hf_L_isCut (F_X8_isCut σ) (fun v2 s1 => (if v2 = 0 then F_L_isCut_b14 0 0 s1 else F_L_isCut_b14 1 0 s1))
def F_L_observed (σ : cv_St) : Option (Int32 × cv_St) :=
  cv_bh hf_L_observed (F_X8_observed σ) (fun v2 s1 => cv_stL s1 0 v2.toInt64 (fun s3 => some (0, s3)))
def F_L_origin (l1 : Int32) (σ : cv_St) : Option (Int32 × cv_St) :=
  cv_bh hf_L_origin (F_X8_origin l1 σ) (fun v2 s1 => cv_stL s1 0 v2.toInt64 (fun s3 => some (0, s3)))
def F_L_preservedShare (σ : cv_St) : Option (Int32 × cv_St) :=
  cv_bh hf_L_preservedShare (F_X8_preservedShare σ) (fun v2 s1 => cv_stD s1 0 v2 (fun s3 => some (0, s3)))
def F_L_problemShare (σ : cv_St) : Option (Int32 × cv_St) :=
  cv_bh hf_L_problemShare (F_X8_problemShare σ) (fun v2 s1 => cv_f2d v2 (fun v3 => cv_stD s1 0 v3 (fun s4 => some (0, s4))))
def F_L_restore (σ : cv_St) : Option (Int32 × cv_St) :=
  cv_bh hf_L_restore (F_X8_restore σ) (fun _ s1 => some (0, s1))
set_option maxRecDepth 20000 in
set_option maxHeartbeats 2000000 in
theorem J_L_appendCharacter {X : cv_X} {G : cv_G} {LL : Launch} (htr : LL.stackTraces = false) (hX : cv_CH X G [(0, 9, 12, 13), (0, 9, 15, 15)]) (hC : cv_C X G LL RL cL_appendCharacter 4 (some .int) { frames := 7, cells := 1, slots := 6, locals := 111 }) (l1 : Int32) (σ : cv_St) : cv_J X G 4 0 0 (cv_QH X G 1 6) 0 [(0, .ref (G.1 0)), (1, .int l1), (2, .ref (G.1 66))] [] σ (F_L_appendCharacter l1 σ) := by
  unfold F_L_appendCharacter
  refine cv_aload_n hC 2 dL_appendCharacter_0 rfl rfl ?_
  refine cv_iconst (v := 0) hC dL_appendCharacter_1 cb_iconst_0 ?_
  refine cv_aload_n hC 0 dL_appendCharacter_2 rfl rfl ?_
  refine cv_iload_n hC 1 dL_appendCharacter_3 rfl rfl ?_
  refine cv_callHI (ob := 0) hX hC [.int l1] [.int 0, .ref (G.1 66)] (M_X8_appendCharacter htr G l1 σ) ln_L_7 vm_X8_appendCharacter (ob_0 G) rfl rfl (Nat.le_of_ble_eq_true rfl) ⟨Nat.le_of_ble_eq_true rfl, Nat.le_of_ble_eq_true rfl⟩ ⟨Nat.le_of_ble_eq_true rfl, Nat.le_of_ble_eq_true rfl⟩ ⟨Nat.le_of_ble_eq_true rfl, Nat.le_of_ble_eq_true rfl⟩ dL_appendCharacter_4 hn_L_appendCharacter (fun v2 s1 => ?_)
  refine cv_i2l hC dL_appendCharacter_7 ?_
  refine cv_last hC dL_appendCharacter_8 (fun s3 => ?_)
  refine cv_goto (tgt := 18) hC dL_appendCharacter_9 (by decide) ?_
  refine cv_iconst (v := 0) hC dL_appendCharacter_18 cb_iconst_0 ?_
  exact cv_hiret hC ⟨Nat.le_of_ble_eq_true rfl, Nat.le_of_ble_eq_true rfl⟩ dL_appendCharacter_19
set_option maxRecDepth 20000 in
set_option maxHeartbeats 2000000 in
theorem M_L_appendCharacter {LL : Launch} (htr : LL.stackTraces = false) (G : cv_G) (l1 : Int32) (σ : cv_St) : cv_MH LL G yL_appendCharacter cL_appendCharacter 4 [(0, 9, 12, 13), (0, 9, 15, 15)] 7 111 1 6 [.ref (G.1 0), .int l1, .ref (G.1 66)] σ (F_L_appendCharacter l1 σ) :=
  cv_mkH htr (by decide) (Nat.le_of_ble_eq_true rfl) (fun X hX hC => J_L_appendCharacter htr hX hC l1 σ)
set_option maxRecDepth 20000 in
set_option maxHeartbeats 2000000 in
theorem J_L_setBody {X : cv_X} {G : cv_G} {LL : Launch} (htr : LL.stackTraces = false) (hX : cv_CH X G [(0, 9, 12, 20), (0, 9, 15, 13), (0, 9, 18, 15)]) (hC : cv_C X G LL RL cL_setBody 4 (some .int) { frames := 8, cells := 2, slots := 12, locals := 132 }) (l1 : Int32) (σ : cv_St) : cv_J X G 4 0 0 (cv_QH X G 2 12) 0 [(0, .ref (G.1 0)), (1, .int l1), (2, .ref (G.1 66))] [] σ (F_L_setBody l1 σ) := by
  unfold F_L_setBody
  refine cv_aload_n hC 2 dL_setBody_0 rfl rfl ?_
  refine cv_iconst (v := 0) hC dL_setBody_1 cb_iconst_0 ?_
  refine cv_aload_n hC 0 dL_setBody_2 rfl rfl ?_
  refine cv_iload_n hC 1 dL_setBody_3 rfl rfl ?_
  refine cv_callHI (ob := 0) hX hC [.int l1] [.int 0, .ref (G.1 66)] (M_X8_setBody htr G l1 σ) ln_L_17 vm_X8_setBody (ob_0 G) rfl rfl (Nat.le_of_ble_eq_true rfl) ⟨Nat.le_of_ble_eq_true rfl, Nat.le_of_ble_eq_true rfl⟩ ⟨Nat.le_of_ble_eq_true rfl, Nat.le_of_ble_eq_true rfl⟩ ⟨Nat.le_of_ble_eq_true rfl, Nat.le_of_ble_eq_true rfl⟩ dL_setBody_4 hn_L_setBody (fun v2 s1 => ?_)
  refine cv_i2l hC dL_setBody_7 ?_
  refine cv_last hC dL_setBody_8 (fun s3 => ?_)
  refine cv_goto (tgt := 21) hC dL_setBody_9 (by decide) ?_
  refine cv_iconst (v := 0) hC dL_setBody_21 cb_iconst_0 ?_
  exact cv_hiret hC ⟨Nat.le_of_ble_eq_true rfl, Nat.le_of_ble_eq_true rfl⟩ dL_setBody_22
set_option maxRecDepth 20000 in
set_option maxHeartbeats 2000000 in
theorem M_L_setBody {LL : Launch} (htr : LL.stackTraces = false) (G : cv_G) (l1 : Int32) (σ : cv_St) : cv_MH LL G yL_setBody cL_setBody 4 [(0, 9, 12, 20), (0, 9, 15, 13), (0, 9, 18, 15)] 8 132 2 12 [.ref (G.1 0), .int l1, .ref (G.1 66)] σ (F_L_setBody l1 σ) :=
  cv_mkH htr (by decide) (Nat.le_of_ble_eq_true rfl) (fun X hX hC => J_L_setBody htr hX hC l1 σ)
set_option maxRecDepth 20000 in
set_option maxHeartbeats 2000000 in
theorem J_L_length {X : cv_X} {G : cv_G} {LL : Launch} (htr : LL.stackTraces = false) (hX : cv_CH X G [(0, 9, 12, 20)]) (hC : cv_C X G LL RL cL_length 4 (some .int) { frames := 8, cells := 1, slots := 6, locals := 132 }) (l1 : Int32) (σ : cv_St) : cv_J X G 4 0 0 (cv_QH X G 1 6) 0 [(0, .ref (G.1 0)), (1, .int l1), (2, .ref (G.1 66))] [] σ (F_L_length l1 σ) := by
  unfold F_L_length
  refine cv_aload_n hC 2 dL_length_0 rfl rfl ?_
  refine cv_iconst (v := 0) hC dL_length_1 cb_iconst_0 ?_
  refine cv_aload_n hC 0 dL_length_2 rfl rfl ?_
  refine cv_iload_n hC 1 dL_length_3 rfl rfl ?_
  refine cv_callHI (ob := 0) hX hC [.int l1] [.int 0, .ref (G.1 66)] (M_X8_length htr G l1 σ) ln_L_22 vm_X8_length (ob_0 G) rfl rfl (Nat.le_of_ble_eq_true rfl) ⟨Nat.le_of_ble_eq_true rfl, Nat.le_of_ble_eq_true rfl⟩ ⟨Nat.le_of_ble_eq_true rfl, Nat.le_of_ble_eq_true rfl⟩ ⟨Nat.le_of_ble_eq_true rfl, Nat.le_of_ble_eq_true rfl⟩ dL_length_4 hn_L_length (fun v2 s1 => ?_)
  refine cv_i2l hC dL_length_7 ?_
  refine cv_last hC dL_length_8 (fun s3 => ?_)
  refine cv_goto (tgt := 15) hC dL_length_9 (by decide) ?_
  refine cv_iconst (v := 0) hC dL_length_15 cb_iconst_0 ?_
  exact cv_hiret hC ⟨Nat.le_of_ble_eq_true rfl, Nat.le_of_ble_eq_true rfl⟩ dL_length_16
set_option maxRecDepth 20000 in
set_option maxHeartbeats 2000000 in
theorem M_L_length {LL : Launch} (htr : LL.stackTraces = false) (G : cv_G) (l1 : Int32) (σ : cv_St) : cv_MH LL G yL_length cL_length 4 [(0, 9, 12, 20)] 8 132 1 6 [.ref (G.1 0), .int l1, .ref (G.1 66)] σ (F_L_length l1 σ) :=
  cv_mkH htr (by decide) (Nat.le_of_ble_eq_true rfl) (fun X hX hC => J_L_length htr hX hC l1 σ)
set_option maxRecDepth 20000 in
set_option maxHeartbeats 2000000 in
theorem J_L_instruction {X : cv_X} {G : cv_G} {LL : Launch} (htr : LL.stackTraces = false) (hX : cv_CH X G [(0, 10, 13, 20)]) (hC : cv_C X G LL RL cL_instruction 5 (some .int) { frames := 9, cells := 2, slots := 12, locals := 155 }) (l1 : Int32) (l2 : Int32) (σ : cv_St) : cv_J X G 5 0 0 (cv_QH X G 2 12) 0 [(0, .ref (G.1 0)), (1, .int l1), (2, .int l2), (3, .ref (G.1 66))] [] σ (F_L_instruction l1 l2 σ) := by
  unfold F_L_instruction
  refine cv_aload_n hC 3 dL_instruction_0 rfl rfl ?_
  refine cv_iconst (v := 0) hC dL_instruction_1 cb_iconst_0 ?_
  refine cv_aload_n hC 0 dL_instruction_2 rfl rfl ?_
  refine cv_iload_n hC 1 dL_instruction_3 rfl rfl ?_
  refine cv_iload_n hC 2 dL_instruction_4 rfl rfl ?_
  refine cv_callHI (ob := 0) hX hC [.int l1, .int l2] [.int 0, .ref (G.1 66)] (M_X8_instruction htr G l1 l2 σ) ln_L_25 vm_X8_instruction (ob_0 G) rfl rfl (Nat.le_of_ble_eq_true rfl) ⟨Nat.le_of_ble_eq_true rfl, Nat.le_of_ble_eq_true rfl⟩ ⟨Nat.le_of_ble_eq_true rfl, Nat.le_of_ble_eq_true rfl⟩ ⟨Nat.le_of_ble_eq_true rfl, Nat.le_of_ble_eq_true rfl⟩ dL_instruction_5 hn_L_instruction (fun v2 s1 => ?_)
  refine cv_i2l hC dL_instruction_8 ?_
  refine cv_last hC dL_instruction_9 (fun s3 => ?_)
  refine cv_goto (tgt := 17) hC dL_instruction_10 (by decide) ?_
  refine cv_iconst (v := 0) hC dL_instruction_17 cb_iconst_0 ?_
  exact cv_hiret hC ⟨Nat.le_of_ble_eq_true rfl, Nat.le_of_ble_eq_true rfl⟩ dL_instruction_18
set_option maxRecDepth 20000 in
set_option maxHeartbeats 2000000 in
theorem M_L_instruction {LL : Launch} (htr : LL.stackTraces = false) (G : cv_G) (l1 : Int32) (l2 : Int32) (σ : cv_St) : cv_MH LL G yL_instruction cL_instruction 5 [(0, 10, 13, 20)] 9 155 2 12 [.ref (G.1 0), .int l1, .int l2, .ref (G.1 66)] σ (F_L_instruction l1 l2 σ) :=
  cv_mkH htr (by decide) (Nat.le_of_ble_eq_true rfl) (fun X hX hC => J_L_instruction htr hX hC l1 l2 σ)
set_option maxRecDepth 20000 in
set_option maxHeartbeats 2000000 in
theorem J_L_operand {X : cv_X} {G : cv_G} {LL : Launch} (htr : LL.stackTraces = false) (hX : cv_CH X G [(0, 10, 13, 20), (0, 10, 17, 33)]) (hC : cv_C X G LL RL cL_operand 5 (some .int) { frames := 9, cells := 3, slots := 18, locals := 155 }) (l1 : Int32) (l2 : Int32) (σ : cv_St) : cv_J X G 5 0 0 (cv_QH X G 3 18) 0 [(0, .ref (G.1 0)), (1, .int l1), (2, .int l2), (3, .ref (G.1 66))] [] σ (F_L_operand l1 l2 σ) := by
  unfold F_L_operand
  refine cv_aload_n hC 3 dL_operand_0 rfl rfl ?_
  refine cv_iconst (v := 0) hC dL_operand_1 cb_iconst_0 ?_
  refine cv_aload_n hC 0 dL_operand_2 rfl rfl ?_
  refine cv_iload_n hC 1 dL_operand_3 rfl rfl ?_
  refine cv_iload_n hC 2 dL_operand_4 rfl rfl ?_
  refine cv_callHI (ob := 0) hX hC [.int l1, .int l2] [.int 0, .ref (G.1 66)] (M_X8_operand htr G l1 l2 σ) ln_L_29 vm_X8_operand (ob_0 G) rfl rfl (Nat.le_of_ble_eq_true rfl) ⟨Nat.le_of_ble_eq_true rfl, Nat.le_of_ble_eq_true rfl⟩ ⟨Nat.le_of_ble_eq_true rfl, Nat.le_of_ble_eq_true rfl⟩ ⟨Nat.le_of_ble_eq_true rfl, Nat.le_of_ble_eq_true rfl⟩ dL_operand_5 hn_L_operand (fun v2 s1 => ?_)
  refine cv_i2l hC dL_operand_8 ?_
  refine cv_last hC dL_operand_9 (fun s3 => ?_)
  refine cv_goto (tgt := 21) hC dL_operand_10 (by decide) ?_
  refine cv_iconst (v := 0) hC dL_operand_21 cb_iconst_0 ?_
  exact cv_hiret hC ⟨Nat.le_of_ble_eq_true rfl, Nat.le_of_ble_eq_true rfl⟩ dL_operand_22
set_option maxRecDepth 20000 in
set_option maxHeartbeats 2000000 in
theorem M_L_operand {LL : Launch} (htr : LL.stackTraces = false) (G : cv_G) (l1 : Int32) (l2 : Int32) (σ : cv_St) : cv_MH LL G yL_operand cL_operand 5 [(0, 10, 13, 20), (0, 10, 17, 33)] 9 155 3 18 [.ref (G.1 0), .int l1, .int l2, .ref (G.1 66)] σ (F_L_operand l1 l2 σ) :=
  cv_mkH htr (by decide) (Nat.le_of_ble_eq_true rfl) (fun X hX hC => J_L_operand htr hX hC l1 l2 σ)
set_option maxRecDepth 20000 in
set_option maxHeartbeats 2000000 in
theorem J_L_removeInstruction {X : cv_X} {G : cv_G} {LL : Launch} (htr : LL.stackTraces = false) (hX : cv_CH X G [(0, 10, 13, 20)]) (hC : cv_C X G LL RL cL_removeInstruction 5 (some .int) { frames := 9, cells := 2, slots := 12, locals := 155 }) (l1 : Int32) (l2 : Int32) (σ : cv_St) : cv_J X G 5 0 0 (cv_QH X G 2 12) 0 [(0, .ref (G.1 0)), (1, .int l1), (2, .int l2), (3, .ref (G.1 66))] [] σ (F_L_removeInstruction l1 l2 σ) := by
  unfold F_L_removeInstruction
  refine cv_aload_n hC 3 dL_removeInstruction_0 rfl rfl ?_
  refine cv_iconst (v := 0) hC dL_removeInstruction_1 cb_iconst_0 ?_
  refine cv_aload_n hC 0 dL_removeInstruction_2 rfl rfl ?_
  refine cv_iload_n hC 1 dL_removeInstruction_3 rfl rfl ?_
  refine cv_iload_n hC 2 dL_removeInstruction_4 rfl rfl ?_
  refine cv_callHI (ob := 0) hX hC [.int l1, .int l2] [.int 0, .ref (G.1 66)] (M_X8_removeInstruction htr G l1 l2 σ) ln_L_35 vm_X8_removeInstruction (ob_0 G) rfl rfl (Nat.le_of_ble_eq_true rfl) ⟨Nat.le_of_ble_eq_true rfl, Nat.le_of_ble_eq_true rfl⟩ ⟨Nat.le_of_ble_eq_true rfl, Nat.le_of_ble_eq_true rfl⟩ ⟨Nat.le_of_ble_eq_true rfl, Nat.le_of_ble_eq_true rfl⟩ dL_removeInstruction_5 hn_L_removeInstruction (fun v2 s1 => ?_)
  refine cv_i2l hC dL_removeInstruction_8 ?_
  refine cv_last hC dL_removeInstruction_9 (fun s3 => ?_)
  refine cv_goto (tgt := 17) hC dL_removeInstruction_10 (by decide) ?_
  refine cv_iconst (v := 0) hC dL_removeInstruction_17 cb_iconst_0 ?_
  exact cv_hiret hC ⟨Nat.le_of_ble_eq_true rfl, Nat.le_of_ble_eq_true rfl⟩ dL_removeInstruction_18
set_option maxRecDepth 20000 in
set_option maxHeartbeats 2000000 in
theorem M_L_removeInstruction {LL : Launch} (htr : LL.stackTraces = false) (G : cv_G) (l1 : Int32) (l2 : Int32) (σ : cv_St) : cv_MH LL G yL_removeInstruction cL_removeInstruction 5 [(0, 10, 13, 20)] 9 155 2 12 [.ref (G.1 0), .int l1, .int l2, .ref (G.1 66)] σ (F_L_removeInstruction l1 l2 σ) :=
  cv_mkH htr (by decide) (Nat.le_of_ble_eq_true rfl) (fun X hX hC => J_L_removeInstruction htr hX hC l1 l2 σ)
set_option maxRecDepth 20000 in
set_option maxHeartbeats 2000000 in
theorem J_L_isReachable_b16 {X : cv_X} {G : cv_G} {LL : Launch} (htr : LL.stackTraces = false) (hX : cv_CH X G [(0, 17, 20, 20)]) (hC : cv_C X G LL RL cL_isReachable 5 (some .int) { frames := 9, cells := 2, slots := 12, locals := 159 }) (t0 : Int64) (t1 : Int32) (σ : cv_St) : cv_J X G 5 2 12 (cv_QH X G 2 12) 16 [] [.long t0, .int t1, .ref (G.1 66)] σ (F_L_isReachable_b16 t0 t1 σ) := by
  unfold F_L_isReachable_b16
  refine cv_last hC dL_isReachable_16 (fun s3 => ?_)
  refine cv_goto (tgt := 24) hC dL_isReachable_17 (by decide) ?_
  refine cv_iconst (v := 0) hC dL_isReachable_24 cb_iconst_0 ?_
  exact cv_hiret hC ⟨Nat.le_of_ble_eq_true rfl, Nat.le_of_ble_eq_true rfl⟩ dL_isReachable_25
set_option maxRecDepth 20000 in
set_option maxHeartbeats 2000000 in
theorem J_L_isReachable {X : cv_X} {G : cv_G} {LL : Launch} (htr : LL.stackTraces = false) (hX : cv_CH X G [(0, 17, 20, 20)]) (hC : cv_C X G LL RL cL_isReachable 5 (some .int) { frames := 9, cells := 2, slots := 12, locals := 159 }) (l1 : Int32) (l2 : Int32) (σ : cv_St) : cv_J X G 5 0 0 (cv_QH X G 2 12) 0 [(0, .ref (G.1 0)), (1, .int l1), (2, .int l2), (3, .ref (G.1 66))] [] σ (F_L_isReachable l1 l2 σ) := by
  unfold F_L_isReachable
  refine cv_aload_n hC 3 dL_isReachable_0 rfl rfl ?_
  refine cv_iconst (v := 0) hC dL_isReachable_1 cb_iconst_0 ?_
  refine cv_aload_n hC 0 dL_isReachable_2 rfl rfl ?_
  refine cv_iload_n hC 1 dL_isReachable_3 rfl rfl ?_
  refine cv_iload_n hC 2 dL_isReachable_4 rfl rfl ?_
  refine cv_callHI (ob := 0) hX hC [.int l1, .int l2] [.int 0, .ref (G.1 66)] (M_X8_isReachable htr G l1 l2 σ) ln_L_38 vm_X8_isReachable (ob_0 G) rfl rfl (Nat.le_of_ble_eq_true rfl) ⟨Nat.le_of_ble_eq_true rfl, Nat.le_of_ble_eq_true rfl⟩ ⟨Nat.le_of_ble_eq_true rfl, Nat.le_of_ble_eq_true rfl⟩ ⟨Nat.le_of_ble_eq_true rfl, Nat.le_of_ble_eq_true rfl⟩ dL_isReachable_5 hn_L_isReachable (fun v2 s1 => ?_)
  refine cv_if_eq (tgt := 15) hC dL_isReachable_8 (by decide) ?_ ?_
  · refine cv_lconst (v := 0) hC dL_isReachable_15 rfl ?_
    exact cv_sub [] rfl (J_L_isReachable_b16 htr hX hC 0 0 s1)
  · refine cv_lconst (v := 1) hC dL_isReachable_11 rfl ?_
    refine cv_goto (tgt := 16) hC dL_isReachable_12 (by decide) ?_
    exact cv_sub [] rfl (J_L_isReachable_b16 htr hX hC 1 0 s1)
set_option maxRecDepth 20000 in
set_option maxHeartbeats 2000000 in
theorem M_L_isReachable {LL : Launch} (htr : LL.stackTraces = false) (G : cv_G) (l1 : Int32) (l2 : Int32) (σ : cv_St) : cv_MH LL G yL_isReachable cL_isReachable 5 [(0, 17, 20, 20)] 9 159 2 12 [.ref (G.1 0), .int l1, .int l2, .ref (G.1 66)] σ (F_L_isReachable l1 l2 σ) :=
  cv_mkH htr (by decide) (Nat.le_of_ble_eq_true rfl) (fun X hX hC => J_L_isReachable htr hX hC l1 l2 σ)
set_option maxRecDepth 20000 in
set_option maxHeartbeats 2000000 in
theorem J_L_isBalanced_b15 {X : cv_X} {G : cv_G} {LL : Launch} (htr : LL.stackTraces = false) (hX : cv_CH X G [(0, 16, 19, 20)]) (hC : cv_C X G LL RL cL_isBalanced 4 (some .int) { frames := 8, cells := 1, slots := 6, locals := 158 }) (t0 : Int64) (t1 : Int32) (σ : cv_St) : cv_J X G 4 1 6 (cv_QH X G 1 6) 15 [] [.long t0, .int t1, .ref (G.1 66)] σ (F_L_isBalanced_b15 t0 t1 σ) := by
  unfold F_L_isBalanced_b15
  refine cv_last hC dL_isBalanced_15 (fun s3 => ?_)
  refine cv_goto (tgt := 22) hC dL_isBalanced_16 (by decide) ?_
  refine cv_iconst (v := 0) hC dL_isBalanced_22 cb_iconst_0 ?_
  exact cv_hiret hC ⟨Nat.le_of_ble_eq_true rfl, Nat.le_of_ble_eq_true rfl⟩ dL_isBalanced_23
set_option maxRecDepth 20000 in
set_option maxHeartbeats 2000000 in
theorem J_L_isBalanced {X : cv_X} {G : cv_G} {LL : Launch} (htr : LL.stackTraces = false) (hX : cv_CH X G [(0, 16, 19, 20)]) (hC : cv_C X G LL RL cL_isBalanced 4 (some .int) { frames := 8, cells := 1, slots := 6, locals := 158 }) (l1 : Int32) (σ : cv_St) : cv_J X G 4 0 0 (cv_QH X G 1 6) 0 [(0, .ref (G.1 0)), (1, .int l1), (2, .ref (G.1 66))] [] σ (F_L_isBalanced l1 σ) := by
  unfold F_L_isBalanced
  refine cv_aload_n hC 2 dL_isBalanced_0 rfl rfl ?_
  refine cv_iconst (v := 0) hC dL_isBalanced_1 cb_iconst_0 ?_
  refine cv_aload_n hC 0 dL_isBalanced_2 rfl rfl ?_
  refine cv_iload_n hC 1 dL_isBalanced_3 rfl rfl ?_
  refine cv_callHI (ob := 0) hX hC [.int l1] [.int 0, .ref (G.1 66)] (M_X8_isBalanced htr G l1 σ) ln_L_42 vm_X8_isBalanced (ob_0 G) rfl rfl (Nat.le_of_ble_eq_true rfl) ⟨Nat.le_of_ble_eq_true rfl, Nat.le_of_ble_eq_true rfl⟩ ⟨Nat.le_of_ble_eq_true rfl, Nat.le_of_ble_eq_true rfl⟩ ⟨Nat.le_of_ble_eq_true rfl, Nat.le_of_ble_eq_true rfl⟩ dL_isBalanced_4 hn_L_isBalanced (fun v2 s1 => ?_)
  refine cv_if_eq (tgt := 14) hC dL_isBalanced_7 (by decide) ?_ ?_
  · refine cv_lconst (v := 0) hC dL_isBalanced_14 rfl ?_
    exact cv_sub [] rfl (J_L_isBalanced_b15 htr hX hC 0 0 s1)
  · refine cv_lconst (v := 1) hC dL_isBalanced_10 rfl ?_
    refine cv_goto (tgt := 15) hC dL_isBalanced_11 (by decide) ?_
    exact cv_sub [] rfl (J_L_isBalanced_b15 htr hX hC 1 0 s1)
set_option maxRecDepth 20000 in
set_option maxHeartbeats 2000000 in
theorem M_L_isBalanced {LL : Launch} (htr : LL.stackTraces = false) (G : cv_G) (l1 : Int32) (σ : cv_St) : cv_MH LL G yL_isBalanced cL_isBalanced 4 [(0, 16, 19, 20)] 8 158 1 6 [.ref (G.1 0), .int l1, .ref (G.1 66)] σ (F_L_isBalanced l1 σ) :=
  cv_mkH htr (by decide) (Nat.le_of_ble_eq_true rfl) (fun X hX hC => J_L_isBalanced htr hX hC l1 σ)
set_option maxRecDepth 20000 in
set_option maxHeartbeats 2000000 in
theorem J_L_preserved {X : cv_X} {G : cv_G} {LL : Launch} (htr : LL.stackTraces = false) (hX : cv_CH X G [(0, 9, 12, 20)]) (hC : cv_C X G LL RL cL_preserved 4 (some .int) { frames := 8, cells := 1, slots := 6, locals := 158 }) (l1 : Int32) (σ : cv_St) : cv_J X G 4 0 0 (cv_QH X G 1 6) 0 [(0, .ref (G.1 0)), (1, .int l1), (2, .ref (G.1 66))] [] σ (F_L_preserved l1 σ) := by
  unfold F_L_preserved
  refine cv_aload_n hC 2 dL_preserved_0 rfl rfl ?_
  refine cv_iconst (v := 0) hC dL_preserved_1 cb_iconst_0 ?_
  refine cv_aload_n hC 0 dL_preserved_2 rfl rfl ?_
  refine cv_iload_n hC 1 dL_preserved_3 rfl rfl ?_
  refine cv_callHI (ob := 0) hX hC [.int l1] [.int 0, .ref (G.1 66)] (M_X8_preserved htr G l1 σ) ln_L_46 vm_X8_preserved (ob_0 G) rfl rfl (Nat.le_of_ble_eq_true rfl) ⟨Nat.le_of_ble_eq_true rfl, Nat.le_of_ble_eq_true rfl⟩ ⟨Nat.le_of_ble_eq_true rfl, Nat.le_of_ble_eq_true rfl⟩ ⟨Nat.le_of_ble_eq_true rfl, Nat.le_of_ble_eq_true rfl⟩ dL_preserved_4 hn_L_preserved (fun v2 s1 => ?_)
  refine cv_i2l hC dL_preserved_7 ?_
  refine cv_last hC dL_preserved_8 (fun s3 => ?_)
  refine cv_goto (tgt := 15) hC dL_preserved_9 (by decide) ?_
  refine cv_iconst (v := 0) hC dL_preserved_15 cb_iconst_0 ?_
  exact cv_hiret hC ⟨Nat.le_of_ble_eq_true rfl, Nat.le_of_ble_eq_true rfl⟩ dL_preserved_16
set_option maxRecDepth 20000 in
set_option maxHeartbeats 2000000 in
theorem M_L_preserved {LL : Launch} (htr : LL.stackTraces = false) (G : cv_G) (l1 : Int32) (σ : cv_St) : cv_MH LL G yL_preserved cL_preserved 4 [(0, 9, 12, 20)] 8 158 1 6 [.ref (G.1 0), .int l1, .ref (G.1 66)] σ (F_L_preserved l1 σ) :=
  cv_mkH htr (by decide) (Nat.le_of_ble_eq_true rfl) (fun X hX hC => J_L_preserved htr hX hC l1 σ)
set_option maxRecDepth 20000 in
set_option maxHeartbeats 2000000 in
theorem J_L_surelyDefined {X : cv_X} {G : cv_G} {LL : Launch} (htr : LL.stackTraces = false) (hX : cv_CH X G [(0, 9, 12, 20)]) (hC : cv_C X G LL RL cL_surelyDefined 4 (some .int) { frames := 8, cells := 1, slots := 6, locals := 158 }) (l1 : Int32) (σ : cv_St) : cv_J X G 4 0 0 (cv_QH X G 1 6) 0 [(0, .ref (G.1 0)), (1, .int l1), (2, .ref (G.1 66))] [] σ (F_L_surelyDefined l1 σ) := by
  unfold F_L_surelyDefined
  refine cv_aload_n hC 2 dL_surelyDefined_0 rfl rfl ?_
  refine cv_iconst (v := 0) hC dL_surelyDefined_1 cb_iconst_0 ?_
  refine cv_aload_n hC 0 dL_surelyDefined_2 rfl rfl ?_
  refine cv_iload_n hC 1 dL_surelyDefined_3 rfl rfl ?_
  refine cv_callHI (ob := 0) hX hC [.int l1] [.int 0, .ref (G.1 66)] (M_X8_surelyDefined htr G l1 σ) ln_L_49 vm_X8_surelyDefined (ob_0 G) rfl rfl (Nat.le_of_ble_eq_true rfl) ⟨Nat.le_of_ble_eq_true rfl, Nat.le_of_ble_eq_true rfl⟩ ⟨Nat.le_of_ble_eq_true rfl, Nat.le_of_ble_eq_true rfl⟩ ⟨Nat.le_of_ble_eq_true rfl, Nat.le_of_ble_eq_true rfl⟩ dL_surelyDefined_4 hn_L_surelyDefined (fun v2 s1 => ?_)
  refine cv_i2l hC dL_surelyDefined_7 ?_
  refine cv_last hC dL_surelyDefined_8 (fun s3 => ?_)
  refine cv_goto (tgt := 15) hC dL_surelyDefined_9 (by decide) ?_
  refine cv_iconst (v := 0) hC dL_surelyDefined_15 cb_iconst_0 ?_
  exact cv_hiret hC ⟨Nat.le_of_ble_eq_true rfl, Nat.le_of_ble_eq_true rfl⟩ dL_surelyDefined_16
set_option maxRecDepth 20000 in
set_option maxHeartbeats 2000000 in
theorem M_L_surelyDefined {LL : Launch} (htr : LL.stackTraces = false) (G : cv_G) (l1 : Int32) (σ : cv_St) : cv_MH LL G yL_surelyDefined cL_surelyDefined 4 [(0, 9, 12, 20)] 8 158 1 6 [.ref (G.1 0), .int l1, .ref (G.1 66)] σ (F_L_surelyDefined l1 σ) :=
  cv_mkH htr (by decide) (Nat.le_of_ble_eq_true rfl) (fun X hX hC => J_L_surelyDefined htr hX hC l1 σ)
set_option maxRecDepth 20000 in
set_option maxHeartbeats 2000000 in
theorem J_L_arguments {X : cv_X} {G : cv_G} {LL : Launch} (htr : LL.stackTraces = false) (hX : cv_CH X G [(0, 9, 12, 20)]) (hC : cv_C X G LL RL cL_arguments 4 (some .int) { frames := 8, cells := 1, slots := 6, locals := 158 }) (l1 : Int32) (σ : cv_St) : cv_J X G 4 0 0 (cv_QH X G 1 6) 0 [(0, .ref (G.1 0)), (1, .int l1), (2, .ref (G.1 66))] [] σ (F_L_arguments l1 σ) := by
  unfold F_L_arguments
  refine cv_aload_n hC 2 dL_arguments_0 rfl rfl ?_
  refine cv_iconst (v := 0) hC dL_arguments_1 cb_iconst_0 ?_
  refine cv_aload_n hC 0 dL_arguments_2 rfl rfl ?_
  refine cv_iload_n hC 1 dL_arguments_3 rfl rfl ?_
  refine cv_callHI (ob := 0) hX hC [.int l1] [.int 0, .ref (G.1 66)] (M_X8_arguments htr G l1 σ) ln_L_52 vm_X8_arguments (ob_0 G) rfl rfl (Nat.le_of_ble_eq_true rfl) ⟨Nat.le_of_ble_eq_true rfl, Nat.le_of_ble_eq_true rfl⟩ ⟨Nat.le_of_ble_eq_true rfl, Nat.le_of_ble_eq_true rfl⟩ ⟨Nat.le_of_ble_eq_true rfl, Nat.le_of_ble_eq_true rfl⟩ dL_arguments_4 hn_L_arguments (fun v2 s1 => ?_)
  refine cv_i2l hC dL_arguments_7 ?_
  refine cv_last hC dL_arguments_8 (fun s3 => ?_)
  refine cv_goto (tgt := 15) hC dL_arguments_9 (by decide) ?_
  refine cv_iconst (v := 0) hC dL_arguments_15 cb_iconst_0 ?_
  exact cv_hiret hC ⟨Nat.le_of_ble_eq_true rfl, Nat.le_of_ble_eq_true rfl⟩ dL_arguments_16
set_option maxRecDepth 20000 in
set_option maxHeartbeats 2000000 in
theorem M_L_arguments {LL : Launch} (htr : LL.stackTraces = false) (G : cv_G) (l1 : Int32) (σ : cv_St) : cv_MH LL G yL_arguments cL_arguments 4 [(0, 9, 12, 20)] 8 158 1 6 [.ref (G.1 0), .int l1, .ref (G.1 66)] σ (F_L_arguments l1 σ) :=
  cv_mkH htr (by decide) (Nat.le_of_ble_eq_true rfl) (fun X hX hC => J_L_arguments htr hX hC l1 σ)
set_option maxRecDepth 20000 in
set_option maxHeartbeats 2000000 in
theorem J_L_results {X : cv_X} {G : cv_G} {LL : Launch} (htr : LL.stackTraces = false) (hX : cv_CH X G [(0, 9, 12, 20)]) (hC : cv_C X G LL RL cL_results 4 (some .int) { frames := 8, cells := 1, slots := 6, locals := 158 }) (l1 : Int32) (σ : cv_St) : cv_J X G 4 0 0 (cv_QH X G 1 6) 0 [(0, .ref (G.1 0)), (1, .int l1), (2, .ref (G.1 66))] [] σ (F_L_results l1 σ) := by
  unfold F_L_results
  refine cv_aload_n hC 2 dL_results_0 rfl rfl ?_
  refine cv_iconst (v := 0) hC dL_results_1 cb_iconst_0 ?_
  refine cv_aload_n hC 0 dL_results_2 rfl rfl ?_
  refine cv_iload_n hC 1 dL_results_3 rfl rfl ?_
  refine cv_callHI (ob := 0) hX hC [.int l1] [.int 0, .ref (G.1 66)] (M_X8_results htr G l1 σ) ln_L_55 vm_X8_results (ob_0 G) rfl rfl (Nat.le_of_ble_eq_true rfl) ⟨Nat.le_of_ble_eq_true rfl, Nat.le_of_ble_eq_true rfl⟩ ⟨Nat.le_of_ble_eq_true rfl, Nat.le_of_ble_eq_true rfl⟩ ⟨Nat.le_of_ble_eq_true rfl, Nat.le_of_ble_eq_true rfl⟩ dL_results_4 hn_L_results (fun v2 s1 => ?_)
  refine cv_i2l hC dL_results_7 ?_
  refine cv_last hC dL_results_8 (fun s3 => ?_)
  refine cv_goto (tgt := 15) hC dL_results_9 (by decide) ?_
  refine cv_iconst (v := 0) hC dL_results_15 cb_iconst_0 ?_
  exact cv_hiret hC ⟨Nat.le_of_ble_eq_true rfl, Nat.le_of_ble_eq_true rfl⟩ dL_results_16
set_option maxRecDepth 20000 in
set_option maxHeartbeats 2000000 in
theorem M_L_results {LL : Launch} (htr : LL.stackTraces = false) (G : cv_G) (l1 : Int32) (σ : cv_St) : cv_MH LL G yL_results cL_results 4 [(0, 9, 12, 20)] 8 158 1 6 [.ref (G.1 0), .int l1, .ref (G.1 66)] σ (F_L_results l1 σ) :=
  cv_mkH htr (by decide) (Nat.le_of_ble_eq_true rfl) (fun X hX hC => J_L_results htr hX hC l1 σ)
set_option maxRecDepth 20000 in
set_option maxHeartbeats 2000000 in
theorem J_L_liveBefore {X : cv_X} {G : cv_G} {LL : Launch} (htr : LL.stackTraces = false) (hX : cv_CH X G [(0, 10, 13, 20), (0, 10, 17, 15)]) (hC : cv_C X G LL RL cL_liveBefore 5 (some .int) { frames := 9, cells := 3, slots := 18, locals := 159 }) (l1 : Int32) (l2 : Int32) (σ : cv_St) : cv_J X G 5 0 0 (cv_QH X G 3 18) 0 [(0, .ref (G.1 0)), (1, .int l1), (2, .int l2), (3, .ref (G.1 66))] [] σ (F_L_liveBefore l1 l2 σ) := by
  unfold F_L_liveBefore
  refine cv_aload_n hC 3 dL_liveBefore_0 rfl rfl ?_
  refine cv_iconst (v := 0) hC dL_liveBefore_1 cb_iconst_0 ?_
  refine cv_aload_n hC 0 dL_liveBefore_2 rfl rfl ?_
  refine cv_iload_n hC 1 dL_liveBefore_3 rfl rfl ?_
  refine cv_iload_n hC 2 dL_liveBefore_4 rfl rfl ?_
  refine cv_callHI (ob := 0) hX hC [.int l1, .int l2] [.int 0, .ref (G.1 66)] (M_X8_liveBefore htr G l1 l2 σ) ln_L_58 vm_X8_liveBefore (ob_0 G) rfl rfl (Nat.le_of_ble_eq_true rfl) ⟨Nat.le_of_ble_eq_true rfl, Nat.le_of_ble_eq_true rfl⟩ ⟨Nat.le_of_ble_eq_true rfl, Nat.le_of_ble_eq_true rfl⟩ ⟨Nat.le_of_ble_eq_true rfl, Nat.le_of_ble_eq_true rfl⟩ dL_liveBefore_5 hn_L_liveBefore (fun v2 s1 => ?_)
  refine cv_i2l hC dL_liveBefore_8 ?_
  refine cv_last hC dL_liveBefore_9 (fun s3 => ?_)
  refine cv_goto (tgt := 21) hC dL_liveBefore_10 (by decide) ?_
  refine cv_iconst (v := 0) hC dL_liveBefore_21 cb_iconst_0 ?_
  exact cv_hiret hC ⟨Nat.le_of_ble_eq_true rfl, Nat.le_of_ble_eq_true rfl⟩ dL_liveBefore_22
set_option maxRecDepth 20000 in
set_option maxHeartbeats 2000000 in
theorem M_L_liveBefore {LL : Launch} (htr : LL.stackTraces = false) (G : cv_G) (l1 : Int32) (l2 : Int32) (σ : cv_St) : cv_MH LL G yL_liveBefore cL_liveBefore 5 [(0, 10, 13, 20), (0, 10, 17, 15)] 9 159 3 18 [.ref (G.1 0), .int l1, .int l2, .ref (G.1 66)] σ (F_L_liveBefore l1 l2 σ) :=
  cv_mkH htr (by decide) (Nat.le_of_ble_eq_true rfl) (fun X hX hC => J_L_liveBefore htr hX hC l1 l2 σ)
set_option maxRecDepth 20000 in
set_option maxHeartbeats 2000000 in
theorem J_L_neededSlots {X : cv_X} {G : cv_G} {LL : Launch} (htr : LL.stackTraces = false) (hX : cv_CH X G [(0, 9, 12, 20)]) (hC : cv_C X G LL RL cL_neededSlots 4 (some .int) { frames := 8, cells := 1, slots := 6, locals := 158 }) (l1 : Int32) (σ : cv_St) : cv_J X G 4 0 0 (cv_QH X G 1 6) 0 [(0, .ref (G.1 0)), (1, .int l1), (2, .ref (G.1 66))] [] σ (F_L_neededSlots l1 σ) := by
  unfold F_L_neededSlots
  refine cv_aload_n hC 2 dL_neededSlots_0 rfl rfl ?_
  refine cv_iconst (v := 0) hC dL_neededSlots_1 cb_iconst_0 ?_
  refine cv_aload_n hC 0 dL_neededSlots_2 rfl rfl ?_
  refine cv_iload_n hC 1 dL_neededSlots_3 rfl rfl ?_
  refine cv_callHI (ob := 0) hX hC [.int l1] [.int 0, .ref (G.1 66)] (M_X8_neededSlots htr G l1 σ) ln_L_61 vm_X8_neededSlots (ob_0 G) rfl rfl (Nat.le_of_ble_eq_true rfl) ⟨Nat.le_of_ble_eq_true rfl, Nat.le_of_ble_eq_true rfl⟩ ⟨Nat.le_of_ble_eq_true rfl, Nat.le_of_ble_eq_true rfl⟩ ⟨Nat.le_of_ble_eq_true rfl, Nat.le_of_ble_eq_true rfl⟩ dL_neededSlots_4 hn_L_neededSlots (fun v2 s1 => ?_)
  refine cv_i2l hC dL_neededSlots_7 ?_
  refine cv_last hC dL_neededSlots_8 (fun s3 => ?_)
  refine cv_goto (tgt := 15) hC dL_neededSlots_9 (by decide) ?_
  refine cv_iconst (v := 0) hC dL_neededSlots_15 cb_iconst_0 ?_
  exact cv_hiret hC ⟨Nat.le_of_ble_eq_true rfl, Nat.le_of_ble_eq_true rfl⟩ dL_neededSlots_16
set_option maxRecDepth 20000 in
set_option maxHeartbeats 2000000 in
theorem M_L_neededSlots {LL : Launch} (htr : LL.stackTraces = false) (G : cv_G) (l1 : Int32) (σ : cv_St) : cv_MH LL G yL_neededSlots cL_neededSlots 4 [(0, 9, 12, 20)] 8 158 1 6 [.ref (G.1 0), .int l1, .ref (G.1 66)] σ (F_L_neededSlots l1 σ) :=
  cv_mkH htr (by decide) (Nat.le_of_ble_eq_true rfl) (fun X hX hC => J_L_neededSlots htr hX hC l1 σ)
set_option maxRecDepth 20000 in
set_option maxHeartbeats 2000000 in
theorem J_L_isVariadic_b15 {X : cv_X} {G : cv_G} {LL : Launch} (htr : LL.stackTraces = false) (hX : cv_CH X G [(0, 16, 19, 20)]) (hC : cv_C X G LL RL cL_isVariadic 4 (some .int) { frames := 8, cells := 1, slots := 6, locals := 158 }) (t0 : Int64) (t1 : Int32) (σ : cv_St) : cv_J X G 4 1 6 (cv_QH X G 1 6) 15 [] [.long t0, .int t1, .ref (G.1 66)] σ (F_L_isVariadic_b15 t0 t1 σ) := by
  unfold F_L_isVariadic_b15
  refine cv_last hC dL_isVariadic_15 (fun s3 => ?_)
  refine cv_goto (tgt := 22) hC dL_isVariadic_16 (by decide) ?_
  refine cv_iconst (v := 0) hC dL_isVariadic_22 cb_iconst_0 ?_
  exact cv_hiret hC ⟨Nat.le_of_ble_eq_true rfl, Nat.le_of_ble_eq_true rfl⟩ dL_isVariadic_23
set_option maxRecDepth 20000 in
set_option maxHeartbeats 2000000 in
theorem J_L_isVariadic {X : cv_X} {G : cv_G} {LL : Launch} (htr : LL.stackTraces = false) (hX : cv_CH X G [(0, 16, 19, 20)]) (hC : cv_C X G LL RL cL_isVariadic 4 (some .int) { frames := 8, cells := 1, slots := 6, locals := 158 }) (l1 : Int32) (σ : cv_St) : cv_J X G 4 0 0 (cv_QH X G 1 6) 0 [(0, .ref (G.1 0)), (1, .int l1), (2, .ref (G.1 66))] [] σ (F_L_isVariadic l1 σ) := by
  unfold F_L_isVariadic
  refine cv_aload_n hC 2 dL_isVariadic_0 rfl rfl ?_
  refine cv_iconst (v := 0) hC dL_isVariadic_1 cb_iconst_0 ?_
  refine cv_aload_n hC 0 dL_isVariadic_2 rfl rfl ?_
  refine cv_iload_n hC 1 dL_isVariadic_3 rfl rfl ?_
  refine cv_callHI (ob := 0) hX hC [.int l1] [.int 0, .ref (G.1 66)] (M_X8_isVariadic htr G l1 σ) ln_L_64 vm_X8_isVariadic (ob_0 G) rfl rfl (Nat.le_of_ble_eq_true rfl) ⟨Nat.le_of_ble_eq_true rfl, Nat.le_of_ble_eq_true rfl⟩ ⟨Nat.le_of_ble_eq_true rfl, Nat.le_of_ble_eq_true rfl⟩ ⟨Nat.le_of_ble_eq_true rfl, Nat.le_of_ble_eq_true rfl⟩ dL_isVariadic_4 hn_L_isVariadic (fun v2 s1 => ?_)
  refine cv_if_eq (tgt := 14) hC dL_isVariadic_7 (by decide) ?_ ?_
  · refine cv_lconst (v := 0) hC dL_isVariadic_14 rfl ?_
    exact cv_sub [] rfl (J_L_isVariadic_b15 htr hX hC 0 0 s1)
  · refine cv_lconst (v := 1) hC dL_isVariadic_10 rfl ?_
    refine cv_goto (tgt := 15) hC dL_isVariadic_11 (by decide) ?_
    exact cv_sub [] rfl (J_L_isVariadic_b15 htr hX hC 1 0 s1)
set_option maxRecDepth 20000 in
set_option maxHeartbeats 2000000 in
theorem M_L_isVariadic {LL : Launch} (htr : LL.stackTraces = false) (G : cv_G) (l1 : Int32) (σ : cv_St) : cv_MH LL G yL_isVariadic cL_isVariadic 4 [(0, 16, 19, 20)] 8 158 1 6 [.ref (G.1 0), .int l1, .ref (G.1 66)] σ (F_L_isVariadic l1 σ) :=
  cv_mkH htr (by decide) (Nat.le_of_ble_eq_true rfl) (fun X hX hC => J_L_isVariadic htr hX hC l1 σ)
set_option maxRecDepth 20000 in
set_option maxHeartbeats 2000000 in
theorem J_L_callees {X : cv_X} {G : cv_G} {LL : Launch} (htr : LL.stackTraces = false) (hX : cv_CH X G [(0, 9, 12, 20)]) (hC : cv_C X G LL RL cL_callees 4 (some .int) { frames := 8, cells := 1, slots := 6, locals := 158 }) (l1 : Int32) (σ : cv_St) : cv_J X G 4 0 0 (cv_QH X G 1 6) 0 [(0, .ref (G.1 0)), (1, .int l1), (2, .ref (G.1 66))] [] σ (F_L_callees l1 σ) := by
  unfold F_L_callees
  refine cv_aload_n hC 2 dL_callees_0 rfl rfl ?_
  refine cv_iconst (v := 0) hC dL_callees_1 cb_iconst_0 ?_
  refine cv_aload_n hC 0 dL_callees_2 rfl rfl ?_
  refine cv_iload_n hC 1 dL_callees_3 rfl rfl ?_
  refine cv_callHI (ob := 0) hX hC [.int l1] [.int 0, .ref (G.1 66)] (M_X8_callees htr G l1 σ) ln_L_67 vm_X8_callees (ob_0 G) rfl rfl (Nat.le_of_ble_eq_true rfl) ⟨Nat.le_of_ble_eq_true rfl, Nat.le_of_ble_eq_true rfl⟩ ⟨Nat.le_of_ble_eq_true rfl, Nat.le_of_ble_eq_true rfl⟩ ⟨Nat.le_of_ble_eq_true rfl, Nat.le_of_ble_eq_true rfl⟩ dL_callees_4 hn_L_callees (fun v2 s1 => ?_)
  refine cv_i2l hC dL_callees_7 ?_
  refine cv_last hC dL_callees_8 (fun s3 => ?_)
  refine cv_goto (tgt := 15) hC dL_callees_9 (by decide) ?_
  refine cv_iconst (v := 0) hC dL_callees_15 cb_iconst_0 ?_
  exact cv_hiret hC ⟨Nat.le_of_ble_eq_true rfl, Nat.le_of_ble_eq_true rfl⟩ dL_callees_16
set_option maxRecDepth 20000 in
set_option maxHeartbeats 2000000 in
theorem M_L_callees {LL : Launch} (htr : LL.stackTraces = false) (G : cv_G) (l1 : Int32) (σ : cv_St) : cv_MH LL G yL_callees cL_callees 4 [(0, 9, 12, 20)] 8 158 1 6 [.ref (G.1 0), .int l1, .ref (G.1 66)] σ (F_L_callees l1 σ) :=
  cv_mkH htr (by decide) (Nat.le_of_ble_eq_true rfl) (fun X hX hC => J_L_callees htr hX hC l1 σ)
set_option maxRecDepth 20000 in
set_option maxHeartbeats 2000000 in
theorem J_L_callersOf {X : cv_X} {G : cv_G} {LL : Launch} (htr : LL.stackTraces = false) (hX : cv_CH X G [(0, 9, 12, 20)]) (hC : cv_C X G LL RL cL_callersOf 4 (some .int) { frames := 8, cells := 1, slots := 6, locals := 158 }) (l1 : Int32) (σ : cv_St) : cv_J X G 4 0 0 (cv_QH X G 1 6) 0 [(0, .ref (G.1 0)), (1, .int l1), (2, .ref (G.1 66))] [] σ (F_L_callersOf l1 σ) := by
  unfold F_L_callersOf
  refine cv_aload_n hC 2 dL_callersOf_0 rfl rfl ?_
  refine cv_iconst (v := 0) hC dL_callersOf_1 cb_iconst_0 ?_
  refine cv_aload_n hC 0 dL_callersOf_2 rfl rfl ?_
  refine cv_iload_n hC 1 dL_callersOf_3 rfl rfl ?_
  refine cv_callHI (ob := 0) hX hC [.int l1] [.int 0, .ref (G.1 66)] (M_X8_callersOf htr G l1 σ) ln_L_70 vm_X8_callersOf (ob_0 G) rfl rfl (Nat.le_of_ble_eq_true rfl) ⟨Nat.le_of_ble_eq_true rfl, Nat.le_of_ble_eq_true rfl⟩ ⟨Nat.le_of_ble_eq_true rfl, Nat.le_of_ble_eq_true rfl⟩ ⟨Nat.le_of_ble_eq_true rfl, Nat.le_of_ble_eq_true rfl⟩ dL_callersOf_4 hn_L_callersOf (fun v2 s1 => ?_)
  refine cv_i2l hC dL_callersOf_7 ?_
  refine cv_last hC dL_callersOf_8 (fun s3 => ?_)
  refine cv_goto (tgt := 15) hC dL_callersOf_9 (by decide) ?_
  refine cv_iconst (v := 0) hC dL_callersOf_15 cb_iconst_0 ?_
  exact cv_hiret hC ⟨Nat.le_of_ble_eq_true rfl, Nat.le_of_ble_eq_true rfl⟩ dL_callersOf_16
set_option maxRecDepth 20000 in
set_option maxHeartbeats 2000000 in
theorem M_L_callersOf {LL : Launch} (htr : LL.stackTraces = false) (G : cv_G) (l1 : Int32) (σ : cv_St) : cv_MH LL G yL_callersOf cL_callersOf 4 [(0, 9, 12, 20)] 8 158 1 6 [.ref (G.1 0), .int l1, .ref (G.1 66)] σ (F_L_callersOf l1 σ) :=
  cv_mkH htr (by decide) (Nat.le_of_ble_eq_true rfl) (fun X hX hC => J_L_callersOf htr hX hC l1 σ)
set_option maxRecDepth 20000 in
set_option maxHeartbeats 2000000 in
theorem J_L_isRecursive_b15 {X : cv_X} {G : cv_G} {LL : Launch} (htr : LL.stackTraces = false) (hX : cv_CH X G [(0, 16, 19, 20)]) (hC : cv_C X G LL RL cL_isRecursive 4 (some .int) { frames := 8, cells := 1, slots := 6, locals := 158 }) (t0 : Int64) (t1 : Int32) (σ : cv_St) : cv_J X G 4 1 6 (cv_QH X G 1 6) 15 [] [.long t0, .int t1, .ref (G.1 66)] σ (F_L_isRecursive_b15 t0 t1 σ) := by
  unfold F_L_isRecursive_b15
  refine cv_last hC dL_isRecursive_15 (fun s3 => ?_)
  refine cv_goto (tgt := 22) hC dL_isRecursive_16 (by decide) ?_
  refine cv_iconst (v := 0) hC dL_isRecursive_22 cb_iconst_0 ?_
  exact cv_hiret hC ⟨Nat.le_of_ble_eq_true rfl, Nat.le_of_ble_eq_true rfl⟩ dL_isRecursive_23
set_option maxRecDepth 20000 in
set_option maxHeartbeats 2000000 in
theorem J_L_isRecursive {X : cv_X} {G : cv_G} {LL : Launch} (htr : LL.stackTraces = false) (hX : cv_CH X G [(0, 16, 19, 20)]) (hC : cv_C X G LL RL cL_isRecursive 4 (some .int) { frames := 8, cells := 1, slots := 6, locals := 158 }) (l1 : Int32) (σ : cv_St) : cv_J X G 4 0 0 (cv_QH X G 1 6) 0 [(0, .ref (G.1 0)), (1, .int l1), (2, .ref (G.1 66))] [] σ (F_L_isRecursive l1 σ) := by
  unfold F_L_isRecursive
  refine cv_aload_n hC 2 dL_isRecursive_0 rfl rfl ?_
  refine cv_iconst (v := 0) hC dL_isRecursive_1 cb_iconst_0 ?_
  refine cv_aload_n hC 0 dL_isRecursive_2 rfl rfl ?_
  refine cv_iload_n hC 1 dL_isRecursive_3 rfl rfl ?_
  refine cv_callHI (ob := 0) hX hC [.int l1] [.int 0, .ref (G.1 66)] (M_X8_isRecursive htr G l1 σ) ln_L_73 vm_X8_isRecursive (ob_0 G) rfl rfl (Nat.le_of_ble_eq_true rfl) ⟨Nat.le_of_ble_eq_true rfl, Nat.le_of_ble_eq_true rfl⟩ ⟨Nat.le_of_ble_eq_true rfl, Nat.le_of_ble_eq_true rfl⟩ ⟨Nat.le_of_ble_eq_true rfl, Nat.le_of_ble_eq_true rfl⟩ dL_isRecursive_4 hn_L_isRecursive (fun v2 s1 => ?_)
  refine cv_if_eq (tgt := 14) hC dL_isRecursive_7 (by decide) ?_ ?_
  · refine cv_lconst (v := 0) hC dL_isRecursive_14 rfl ?_
    exact cv_sub [] rfl (J_L_isRecursive_b15 htr hX hC 0 0 s1)
  · refine cv_lconst (v := 1) hC dL_isRecursive_10 rfl ?_
    refine cv_goto (tgt := 15) hC dL_isRecursive_11 (by decide) ?_
    exact cv_sub [] rfl (J_L_isRecursive_b15 htr hX hC 1 0 s1)
set_option maxRecDepth 20000 in
set_option maxHeartbeats 2000000 in
theorem M_L_isRecursive {LL : Launch} (htr : LL.stackTraces = false) (G : cv_G) (l1 : Int32) (σ : cv_St) : cv_MH LL G yL_isRecursive cL_isRecursive 4 [(0, 16, 19, 20)] 8 158 1 6 [.ref (G.1 0), .int l1, .ref (G.1 66)] σ (F_L_isRecursive l1 σ) :=
  cv_mkH htr (by decide) (Nat.le_of_ble_eq_true rfl) (fun X hX hC => J_L_isRecursive htr hX hC l1 σ)
set_option maxRecDepth 20000 in
set_option maxHeartbeats 2000000 in
theorem J_L_site {X : cv_X} {G : cv_G} {LL : Launch} (htr : LL.stackTraces = false) (hX : cv_CH X G [(0, 10, 13, 20), (0, 10, 17, 13)]) (hC : cv_C X G LL RL cL_site 5 (some .int) { frames := 8, cells := 2, slots := 12, locals := 159 }) (l1 : Int32) (l2 : Int32) (σ : cv_St) : cv_J X G 5 0 0 (cv_QH X G 2 12) 0 [(0, .ref (G.1 0)), (1, .int l1), (2, .int l2), (3, .ref (G.1 66))] [] σ (F_L_site l1 l2 σ) := by
  unfold F_L_site
  refine cv_aload_n hC 3 dL_site_0 rfl rfl ?_
  refine cv_iconst (v := 0) hC dL_site_1 cb_iconst_0 ?_
  refine cv_aload_n hC 0 dL_site_2 rfl rfl ?_
  refine cv_iload_n hC 1 dL_site_3 rfl rfl ?_
  refine cv_iload_n hC 2 dL_site_4 rfl rfl ?_
  refine cv_callHI (ob := 0) hX hC [.int l1, .int l2] [.int 0, .ref (G.1 66)] (M_X8_site htr G l1 l2 σ) ln_L_76 vm_X8_site (ob_0 G) rfl rfl (Nat.le_of_ble_eq_true rfl) ⟨Nat.le_of_ble_eq_true rfl, Nat.le_of_ble_eq_true rfl⟩ ⟨Nat.le_of_ble_eq_true rfl, Nat.le_of_ble_eq_true rfl⟩ ⟨Nat.le_of_ble_eq_true rfl, Nat.le_of_ble_eq_true rfl⟩ dL_site_5 hn_L_site (fun v2 s1 => ?_)
  refine cv_i2l hC dL_site_8 ?_
  refine cv_last hC dL_site_9 (fun s3 => ?_)
  refine cv_goto (tgt := 21) hC dL_site_10 (by decide) ?_
  refine cv_iconst (v := 0) hC dL_site_21 cb_iconst_0 ?_
  exact cv_hiret hC ⟨Nat.le_of_ble_eq_true rfl, Nat.le_of_ble_eq_true rfl⟩ dL_site_22
set_option maxRecDepth 20000 in
set_option maxHeartbeats 2000000 in
theorem M_L_site {LL : Launch} (htr : LL.stackTraces = false) (G : cv_G) (l1 : Int32) (l2 : Int32) (σ : cv_St) : cv_MH LL G yL_site cL_site 5 [(0, 10, 13, 20), (0, 10, 17, 13)] 8 159 2 12 [.ref (G.1 0), .int l1, .int l2, .ref (G.1 66)] σ (F_L_site l1 l2 σ) :=
  cv_mkH htr (by decide) (Nat.le_of_ble_eq_true rfl) (fun X hX hC => J_L_site htr hX hC l1 l2 σ)
set_option maxRecDepth 20000 in
set_option maxHeartbeats 2000000 in
theorem J_L_passedSlots {X : cv_X} {G : cv_G} {LL : Launch} (htr : LL.stackTraces = false) (hX : cv_CH X G [(0, 9, 12, 20)]) (hC : cv_C X G LL RL cL_passedSlots 4 (some .int) { frames := 8, cells := 1, slots := 6, locals := 158 }) (l1 : Int32) (σ : cv_St) : cv_J X G 4 0 0 (cv_QH X G 1 6) 0 [(0, .ref (G.1 0)), (1, .int l1), (2, .ref (G.1 66))] [] σ (F_L_passedSlots l1 σ) := by
  unfold F_L_passedSlots
  refine cv_aload_n hC 2 dL_passedSlots_0 rfl rfl ?_
  refine cv_iconst (v := 0) hC dL_passedSlots_1 cb_iconst_0 ?_
  refine cv_aload_n hC 0 dL_passedSlots_2 rfl rfl ?_
  refine cv_iload_n hC 1 dL_passedSlots_3 rfl rfl ?_
  refine cv_callHI (ob := 0) hX hC [.int l1] [.int 0, .ref (G.1 66)] (M_X8_passedSlots htr G l1 σ) ln_L_79 vm_X8_passedSlots (ob_0 G) rfl rfl (Nat.le_of_ble_eq_true rfl) ⟨Nat.le_of_ble_eq_true rfl, Nat.le_of_ble_eq_true rfl⟩ ⟨Nat.le_of_ble_eq_true rfl, Nat.le_of_ble_eq_true rfl⟩ ⟨Nat.le_of_ble_eq_true rfl, Nat.le_of_ble_eq_true rfl⟩ dL_passedSlots_4 hn_L_passedSlots (fun v2 s1 => ?_)
  refine cv_i2l hC dL_passedSlots_7 ?_
  refine cv_last hC dL_passedSlots_8 (fun s3 => ?_)
  refine cv_goto (tgt := 15) hC dL_passedSlots_9 (by decide) ?_
  refine cv_iconst (v := 0) hC dL_passedSlots_15 cb_iconst_0 ?_
  exact cv_hiret hC ⟨Nat.le_of_ble_eq_true rfl, Nat.le_of_ble_eq_true rfl⟩ dL_passedSlots_16
set_option maxRecDepth 20000 in
set_option maxHeartbeats 2000000 in
theorem M_L_passedSlots {LL : Launch} (htr : LL.stackTraces = false) (G : cv_G) (l1 : Int32) (σ : cv_St) : cv_MH LL G yL_passedSlots cL_passedSlots 4 [(0, 9, 12, 20)] 8 158 1 6 [.ref (G.1 0), .int l1, .ref (G.1 66)] σ (F_L_passedSlots l1 σ) :=
  cv_mkH htr (by decide) (Nat.le_of_ble_eq_true rfl) (fun X hX hC => J_L_passedSlots htr hX hC l1 σ)
set_option maxRecDepth 20000 in
set_option maxHeartbeats 2000000 in
theorem J_L_missingSlots {X : cv_X} {G : cv_G} {LL : Launch} (htr : LL.stackTraces = false) (hX : cv_CH X G [(0, 9, 12, 20)]) (hC : cv_C X G LL RL cL_missingSlots 4 (some .int) { frames := 8, cells := 1, slots := 6, locals := 158 }) (l1 : Int32) (σ : cv_St) : cv_J X G 4 0 0 (cv_QH X G 1 6) 0 [(0, .ref (G.1 0)), (1, .int l1), (2, .ref (G.1 66))] [] σ (F_L_missingSlots l1 σ) := by
  unfold F_L_missingSlots
  refine cv_aload_n hC 2 dL_missingSlots_0 rfl rfl ?_
  refine cv_iconst (v := 0) hC dL_missingSlots_1 cb_iconst_0 ?_
  refine cv_aload_n hC 0 dL_missingSlots_2 rfl rfl ?_
  refine cv_iload_n hC 1 dL_missingSlots_3 rfl rfl ?_
  refine cv_callHI (ob := 0) hX hC [.int l1] [.int 0, .ref (G.1 66)] (M_X8_missingSlots htr G l1 σ) ln_L_82 vm_X8_missingSlots (ob_0 G) rfl rfl (Nat.le_of_ble_eq_true rfl) ⟨Nat.le_of_ble_eq_true rfl, Nat.le_of_ble_eq_true rfl⟩ ⟨Nat.le_of_ble_eq_true rfl, Nat.le_of_ble_eq_true rfl⟩ ⟨Nat.le_of_ble_eq_true rfl, Nat.le_of_ble_eq_true rfl⟩ dL_missingSlots_4 hn_L_missingSlots (fun v2 s1 => ?_)
  refine cv_i2l hC dL_missingSlots_7 ?_
  refine cv_last hC dL_missingSlots_8 (fun s3 => ?_)
  refine cv_goto (tgt := 15) hC dL_missingSlots_9 (by decide) ?_
  refine cv_iconst (v := 0) hC dL_missingSlots_15 cb_iconst_0 ?_
  exact cv_hiret hC ⟨Nat.le_of_ble_eq_true rfl, Nat.le_of_ble_eq_true rfl⟩ dL_missingSlots_16
set_option maxRecDepth 20000 in
set_option maxHeartbeats 2000000 in
theorem M_L_missingSlots {LL : Launch} (htr : LL.stackTraces = false) (G : cv_G) (l1 : Int32) (σ : cv_St) : cv_MH LL G yL_missingSlots cL_missingSlots 4 [(0, 9, 12, 20)] 8 158 1 6 [.ref (G.1 0), .int l1, .ref (G.1 66)] σ (F_L_missingSlots l1 σ) :=
  cv_mkH htr (by decide) (Nat.le_of_ble_eq_true rfl) (fun X hX hC => J_L_missingSlots htr hX hC l1 σ)
set_option maxRecDepth 20000 in
set_option maxHeartbeats 2000000 in
theorem J_L_lostRegisters {X : cv_X} {G : cv_G} {LL : Launch} (htr : LL.stackTraces = false) (hX : cv_CH X G [(0, 9, 12, 20)]) (hC : cv_C X G LL RL cL_lostRegisters 4 (some .int) { frames := 8, cells := 1, slots := 6, locals := 158 }) (l1 : Int32) (σ : cv_St) : cv_J X G 4 0 0 (cv_QH X G 1 6) 0 [(0, .ref (G.1 0)), (1, .int l1), (2, .ref (G.1 66))] [] σ (F_L_lostRegisters l1 σ) := by
  unfold F_L_lostRegisters
  refine cv_aload_n hC 2 dL_lostRegisters_0 rfl rfl ?_
  refine cv_iconst (v := 0) hC dL_lostRegisters_1 cb_iconst_0 ?_
  refine cv_aload_n hC 0 dL_lostRegisters_2 rfl rfl ?_
  refine cv_iload_n hC 1 dL_lostRegisters_3 rfl rfl ?_
  refine cv_callHI (ob := 0) hX hC [.int l1] [.int 0, .ref (G.1 66)] (M_X8_lostRegisters htr G l1 σ) ln_L_85 vm_X8_lostRegisters (ob_0 G) rfl rfl (Nat.le_of_ble_eq_true rfl) ⟨Nat.le_of_ble_eq_true rfl, Nat.le_of_ble_eq_true rfl⟩ ⟨Nat.le_of_ble_eq_true rfl, Nat.le_of_ble_eq_true rfl⟩ ⟨Nat.le_of_ble_eq_true rfl, Nat.le_of_ble_eq_true rfl⟩ dL_lostRegisters_4 hn_L_lostRegisters (fun v2 s1 => ?_)
  refine cv_i2l hC dL_lostRegisters_7 ?_
  refine cv_last hC dL_lostRegisters_8 (fun s3 => ?_)
  refine cv_goto (tgt := 15) hC dL_lostRegisters_9 (by decide) ?_
  refine cv_iconst (v := 0) hC dL_lostRegisters_15 cb_iconst_0 ?_
  exact cv_hiret hC ⟨Nat.le_of_ble_eq_true rfl, Nat.le_of_ble_eq_true rfl⟩ dL_lostRegisters_16
set_option maxRecDepth 20000 in
set_option maxHeartbeats 2000000 in
theorem M_L_lostRegisters {LL : Launch} (htr : LL.stackTraces = false) (G : cv_G) (l1 : Int32) (σ : cv_St) : cv_MH LL G yL_lostRegisters cL_lostRegisters 4 [(0, 9, 12, 20)] 8 158 1 6 [.ref (G.1 0), .int l1, .ref (G.1 66)] σ (F_L_lostRegisters l1 σ) :=
  cv_mkH htr (by decide) (Nat.le_of_ble_eq_true rfl) (fun X hX hC => J_L_lostRegisters htr hX hC l1 σ)
set_option maxRecDepth 20000 in
set_option maxHeartbeats 2000000 in
theorem J_L_liveBehind {X : cv_X} {G : cv_G} {LL : Launch} (htr : LL.stackTraces = false) (hX : cv_CH X G [(0, 9, 12, 20)]) (hC : cv_C X G LL RL cL_liveBehind 4 (some .int) { frames := 8, cells := 1, slots := 6, locals := 158 }) (l1 : Int32) (σ : cv_St) : cv_J X G 4 0 0 (cv_QH X G 1 6) 0 [(0, .ref (G.1 0)), (1, .int l1), (2, .ref (G.1 66))] [] σ (F_L_liveBehind l1 σ) := by
  unfold F_L_liveBehind
  refine cv_aload_n hC 2 dL_liveBehind_0 rfl rfl ?_
  refine cv_iconst (v := 0) hC dL_liveBehind_1 cb_iconst_0 ?_
  refine cv_aload_n hC 0 dL_liveBehind_2 rfl rfl ?_
  refine cv_iload_n hC 1 dL_liveBehind_3 rfl rfl ?_
  refine cv_callHI (ob := 0) hX hC [.int l1] [.int 0, .ref (G.1 66)] (M_X8_liveBehind htr G l1 σ) ln_L_88 vm_X8_liveBehind (ob_0 G) rfl rfl (Nat.le_of_ble_eq_true rfl) ⟨Nat.le_of_ble_eq_true rfl, Nat.le_of_ble_eq_true rfl⟩ ⟨Nat.le_of_ble_eq_true rfl, Nat.le_of_ble_eq_true rfl⟩ ⟨Nat.le_of_ble_eq_true rfl, Nat.le_of_ble_eq_true rfl⟩ dL_liveBehind_4 hn_L_liveBehind (fun v2 s1 => ?_)
  refine cv_i2l hC dL_liveBehind_7 ?_
  refine cv_last hC dL_liveBehind_8 (fun s3 => ?_)
  refine cv_goto (tgt := 15) hC dL_liveBehind_9 (by decide) ?_
  refine cv_iconst (v := 0) hC dL_liveBehind_15 cb_iconst_0 ?_
  exact cv_hiret hC ⟨Nat.le_of_ble_eq_true rfl, Nat.le_of_ble_eq_true rfl⟩ dL_liveBehind_16
set_option maxRecDepth 20000 in
set_option maxHeartbeats 2000000 in
theorem M_L_liveBehind {LL : Launch} (htr : LL.stackTraces = false) (G : cv_G) (l1 : Int32) (σ : cv_St) : cv_MH LL G yL_liveBehind cL_liveBehind 4 [(0, 9, 12, 20)] 8 158 1 6 [.ref (G.1 0), .int l1, .ref (G.1 66)] σ (F_L_liveBehind l1 σ) :=
  cv_mkH htr (by decide) (Nat.le_of_ble_eq_true rfl) (fun X hX hC => J_L_liveBehind htr hX hC l1 σ)
set_option maxRecDepth 20000 in
set_option maxHeartbeats 2000000 in
theorem J_L_firstProblem {X : cv_X} {G : cv_G} {LL : Launch} (htr : LL.stackTraces = false) (hX : cv_CH X G [(0, 8, 11, 95)]) (hC : cv_C X G LL RL cL_firstProblem 3 (some .int) { frames := 7, cells := 1, slots := 6, locals := 158 }) (σ : cv_St) : cv_J X G 3 0 0 (cv_QH X G 1 6) 0 [(0, .ref (G.1 0)), (1, .ref (G.1 66))] [] σ (F_L_firstProblem σ) := by
  unfold F_L_firstProblem
  refine cv_aload_n hC 1 dL_firstProblem_0 rfl rfl ?_
  refine cv_iconst (v := 0) hC dL_firstProblem_1 cb_iconst_0 ?_
  refine cv_aload_n hC 0 dL_firstProblem_2 rfl rfl ?_
  refine cv_callHI (ob := 0) hX hC [] [.int 0, .ref (G.1 66)] (M_X8_firstProblem htr G σ) ln_L_91 vm_X8_firstProblem (ob_0 G) rfl rfl (Nat.le_of_ble_eq_true rfl) ⟨Nat.le_of_ble_eq_true rfl, Nat.le_of_ble_eq_true rfl⟩ ⟨Nat.le_of_ble_eq_true rfl, Nat.le_of_ble_eq_true rfl⟩ ⟨Nat.le_of_ble_eq_true rfl, Nat.le_of_ble_eq_true rfl⟩ dL_firstProblem_3 hn_L_firstProblem (fun v2 s1 => ?_)
  refine cv_i2l hC dL_firstProblem_6 ?_
  refine cv_last hC dL_firstProblem_7 (fun s3 => ?_)
  refine cv_goto (tgt := 14) hC dL_firstProblem_8 (by decide) ?_
  refine cv_iconst (v := 0) hC dL_firstProblem_14 cb_iconst_0 ?_
  exact cv_hiret hC ⟨Nat.le_of_ble_eq_true rfl, Nat.le_of_ble_eq_true rfl⟩ dL_firstProblem_15
set_option maxRecDepth 20000 in
set_option maxHeartbeats 2000000 in
theorem M_L_firstProblem {LL : Launch} (htr : LL.stackTraces = false) (G : cv_G) (σ : cv_St) : cv_MH LL G yL_firstProblem cL_firstProblem 3 [(0, 8, 11, 95)] 7 158 1 6 [.ref (G.1 0), .ref (G.1 66)] σ (F_L_firstProblem σ) :=
  cv_mkH htr (by decide) (Nat.le_of_ble_eq_true rfl) (fun X hX hC => J_L_firstProblem htr hX hC σ)
set_option maxRecDepth 20000 in
set_option maxHeartbeats 2000000 in
theorem J_L_votes {X : cv_X} {G : cv_G} {LL : Launch} (htr : LL.stackTraces = false) (hX : cv_CH X G [(0, 10, 13, 20), (0, 10, 17, 13)]) (hC : cv_C X G LL RL cL_votes 5 (some .int) { frames := 8, cells := 2, slots := 12, locals := 159 }) (l1 : Int32) (l2 : Int32) (σ : cv_St) : cv_J X G 5 0 0 (cv_QH X G 2 12) 0 [(0, .ref (G.1 0)), (1, .int l1), (2, .int l2), (3, .ref (G.1 66))] [] σ (F_L_votes l1 l2 σ) := by
  unfold F_L_votes
  refine cv_aload_n hC 3 dL_votes_0 rfl rfl ?_
  refine cv_iconst (v := 0) hC dL_votes_1 cb_iconst_0 ?_
  refine cv_aload_n hC 0 dL_votes_2 rfl rfl ?_
  refine cv_iload_n hC 1 dL_votes_3 rfl rfl ?_
  refine cv_iload_n hC 2 dL_votes_4 rfl rfl ?_
  refine cv_callHI (ob := 0) hX hC [.int l1, .int l2] [.int 0, .ref (G.1 66)] (M_X8_votes htr G l1 l2 σ) ln_L_97 vm_X8_votes (ob_0 G) rfl rfl (Nat.le_of_ble_eq_true rfl) ⟨Nat.le_of_ble_eq_true rfl, Nat.le_of_ble_eq_true rfl⟩ ⟨Nat.le_of_ble_eq_true rfl, Nat.le_of_ble_eq_true rfl⟩ ⟨Nat.le_of_ble_eq_true rfl, Nat.le_of_ble_eq_true rfl⟩ dL_votes_5 hn_L_votes (fun v2 s1 => ?_)
  refine cv_i2l hC dL_votes_8 ?_
  refine cv_last hC dL_votes_9 (fun s3 => ?_)
  refine cv_goto (tgt := 21) hC dL_votes_10 (by decide) ?_
  refine cv_iconst (v := 0) hC dL_votes_21 cb_iconst_0 ?_
  exact cv_hiret hC ⟨Nat.le_of_ble_eq_true rfl, Nat.le_of_ble_eq_true rfl⟩ dL_votes_22
set_option maxRecDepth 20000 in
set_option maxHeartbeats 2000000 in
theorem M_L_votes {LL : Launch} (htr : LL.stackTraces = false) (G : cv_G) (l1 : Int32) (l2 : Int32) (σ : cv_St) : cv_MH LL G yL_votes cL_votes 5 [(0, 10, 13, 20), (0, 10, 17, 13)] 8 159 2 12 [.ref (G.1 0), .int l1, .int l2, .ref (G.1 66)] σ (F_L_votes l1 l2 σ) :=
  cv_mkH htr (by decide) (Nat.le_of_ble_eq_true rfl) (fun X hX hC => J_L_votes htr hX hC l1 l2 σ)
set_option maxRecDepth 20000 in
set_option maxHeartbeats 2000000 in
theorem J_L_role {X : cv_X} {G : cv_G} {LL : Launch} (htr : LL.stackTraces = false) (hX : cv_CH X G [(0, 9, 12, 20), (0, 9, 15, 95)]) (hC : cv_C X G LL RL cL_role 4 (some .int) { frames := 8, cells := 2, slots := 12, locals := 159 }) (l1 : Int32) (σ : cv_St) : cv_J X G 4 0 0 (cv_QH X G 2 12) 0 [(0, .ref (G.1 0)), (1, .int l1), (2, .ref (G.1 66))] [] σ (F_L_role l1 σ) := by
  unfold F_L_role
  refine cv_aload_n hC 2 dL_role_0 rfl rfl ?_
  refine cv_iconst (v := 0) hC dL_role_1 cb_iconst_0 ?_
  refine cv_aload_n hC 0 dL_role_2 rfl rfl ?_
  refine cv_iload_n hC 1 dL_role_3 rfl rfl ?_
  refine cv_callHI (ob := 0) hX hC [.int l1] [.int 0, .ref (G.1 66)] (M_X8_role htr G l1 σ) ln_L_100 vm_X8_role (ob_0 G) rfl rfl (Nat.le_of_ble_eq_true rfl) ⟨Nat.le_of_ble_eq_true rfl, Nat.le_of_ble_eq_true rfl⟩ ⟨Nat.le_of_ble_eq_true rfl, Nat.le_of_ble_eq_true rfl⟩ ⟨Nat.le_of_ble_eq_true rfl, Nat.le_of_ble_eq_true rfl⟩ dL_role_4 hn_L_role (fun v2 s1 => ?_)
  refine cv_i2l hC dL_role_7 ?_
  refine cv_last hC dL_role_8 (fun s3 => ?_)
  refine cv_goto (tgt := 18) hC dL_role_9 (by decide) ?_
  refine cv_iconst (v := 0) hC dL_role_18 cb_iconst_0 ?_
  exact cv_hiret hC ⟨Nat.le_of_ble_eq_true rfl, Nat.le_of_ble_eq_true rfl⟩ dL_role_19
set_option maxRecDepth 20000 in
set_option maxHeartbeats 2000000 in
theorem M_L_role {LL : Launch} (htr : LL.stackTraces = false) (G : cv_G) (l1 : Int32) (σ : cv_St) : cv_MH LL G yL_role cL_role 4 [(0, 9, 12, 20), (0, 9, 15, 95)] 8 159 2 12 [.ref (G.1 0), .int l1, .ref (G.1 66)] σ (F_L_role l1 σ) :=
  cv_mkH htr (by decide) (Nat.le_of_ble_eq_true rfl) (fun X hX hC => J_L_role htr hX hC l1 σ)
set_option maxRecDepth 20000 in
set_option maxHeartbeats 2000000 in
theorem J_L_run {X : cv_X} {G : cv_G} {LL : Launch} (htr : LL.stackTraces = false) (hX : cv_CH X G [(0, 10, 13, 20)]) (hC : cv_C X G LL RL cL_run 5 (some .int) { frames := 8, cells := 1, slots := 6, locals := 134 }) (l1 : Int32) (l2 : Int32) (σ : cv_St) : cv_J X G 5 0 0 (cv_QH X G 1 6) 0 [(0, .ref (G.1 0)), (1, .int l1), (2, .int l2), (3, .ref (G.1 66))] [] σ (F_L_run l1 l2 σ) := by
  unfold F_L_run
  refine cv_aload_n hC 3 dL_run_0 rfl rfl ?_
  refine cv_iconst (v := 0) hC dL_run_1 cb_iconst_0 ?_
  refine cv_aload_n hC 0 dL_run_2 rfl rfl ?_
  refine cv_iload_n hC 1 dL_run_3 rfl rfl ?_
  refine cv_iload_n hC 2 dL_run_4 rfl rfl ?_
  refine cv_callHI (ob := 0) hX hC [.int l1, .int l2] [.int 0, .ref (G.1 66)] (M_X8_run htr G l1 l2 σ) ln_L_103 vm_X8_run (ob_0 G) rfl rfl (Nat.le_of_ble_eq_true rfl) ⟨Nat.le_of_ble_eq_true rfl, Nat.le_of_ble_eq_true rfl⟩ ⟨Nat.le_of_ble_eq_true rfl, Nat.le_of_ble_eq_true rfl⟩ ⟨Nat.le_of_ble_eq_true rfl, Nat.le_of_ble_eq_true rfl⟩ dL_run_5 hn_L_run (fun v2 s1 => ?_)
  refine cv_i2l hC dL_run_8 ?_
  refine cv_last hC dL_run_9 (fun s3 => ?_)
  refine cv_goto (tgt := 17) hC dL_run_10 (by decide) ?_
  refine cv_iconst (v := 0) hC dL_run_17 cb_iconst_0 ?_
  exact cv_hiret hC ⟨Nat.le_of_ble_eq_true rfl, Nat.le_of_ble_eq_true rfl⟩ dL_run_18
set_option maxRecDepth 20000 in
set_option maxHeartbeats 2000000 in
theorem M_L_run {LL : Launch} (htr : LL.stackTraces = false) (G : cv_G) (l1 : Int32) (l2 : Int32) (σ : cv_St) : cv_MH LL G yL_run cL_run 5 [(0, 10, 13, 20)] 8 134 1 6 [.ref (G.1 0), .int l1, .int l2, .ref (G.1 66)] σ (F_L_run l1 l2 σ) :=
  cv_mkH htr (by decide) (Nat.le_of_ble_eq_true rfl) (fun X hX hC => J_L_run htr hX hC l1 l2 σ)
set_option maxRecDepth 20000 in
set_option maxHeartbeats 2000000 in
theorem J_L_isCut_b14 {X : cv_X} {G : cv_G} {LL : Launch} (htr : LL.stackTraces = false) (hX : cv_CH X G [(0, 15, 18, 15)]) (hC : cv_C X G LL RL cL_isCut 3 (some .int) { frames := 8, cells := 1, slots := 6, locals := 130 }) (t0 : Int64) (t1 : Int32) (σ : cv_St) : cv_J X G 3 1 6 (cv_QH X G 1 6) 14 [] [.long t0, .int t1, .ref (G.1 66)] σ (F_L_isCut_b14 t0 t1 σ) := by
  unfold F_L_isCut_b14
  refine cv_last hC dL_isCut_14 (fun s3 => ?_)
  refine cv_goto (tgt := 21) hC dL_isCut_15 (by decide) ?_
  refine cv_iconst (v := 0) hC dL_isCut_21 cb_iconst_0 ?_
  exact cv_hiret hC ⟨Nat.le_of_ble_eq_true rfl, Nat.le_of_ble_eq_true rfl⟩ dL_isCut_22
set_option maxRecDepth 20000 in
set_option maxHeartbeats 2000000 in
theorem J_L_isCut {X : cv_X} {G : cv_G} {LL : Launch} (htr : LL.stackTraces = false) (hX : cv_CH X G [(0, 15, 18, 15)]) (hC : cv_C X G LL RL cL_isCut 3 (some .int) { frames := 8, cells := 1, slots := 6, locals := 130 }) (σ : cv_St) : cv_J X G 3 0 0 (cv_QH X G 1 6) 0 [(0, .ref (G.1 0)), (1, .ref (G.1 66))] [] σ (F_L_isCut σ) := by
  unfold F_L_isCut
  refine cv_aload_n hC 1 dL_isCut_0 rfl rfl ?_
  refine cv_iconst (v := 0) hC dL_isCut_1 cb_iconst_0 ?_
  refine cv_aload_n hC 0 dL_isCut_2 rfl rfl ?_
  refine cv_callHI (ob := 0) hX hC [] [.int 0, .ref (G.1 66)] (M_X8_isCut htr G σ) ln_L_106 vm_X8_isCut (ob_0 G) rfl rfl (Nat.le_of_ble_eq_true rfl) ⟨Nat.le_of_ble_eq_true rfl, Nat.le_of_ble_eq_true rfl⟩ ⟨Nat.le_of_ble_eq_true rfl, Nat.le_of_ble_eq_true rfl⟩ ⟨Nat.le_of_ble_eq_true rfl, Nat.le_of_ble_eq_true rfl⟩ dL_isCut_3 hn_L_isCut (fun v2 s1 => ?_)
  refine cv_if_eq (tgt := 13) hC dL_isCut_6 (by decide) ?_ ?_
  · refine cv_lconst (v := 0) hC dL_isCut_13 rfl ?_
    exact cv_sub [] rfl (J_L_isCut_b14 htr hX hC 0 0 s1)
  · refine cv_lconst (v := 1) hC dL_isCut_9 rfl ?_
    refine cv_goto (tgt := 14) hC dL_isCut_10 (by decide) ?_
    exact cv_sub [] rfl (J_L_isCut_b14 htr hX hC 1 0 s1)
set_option maxRecDepth 20000 in
set_option maxHeartbeats 2000000 in
theorem M_L_isCut {LL : Launch} (htr : LL.stackTraces = false) (G : cv_G) (σ : cv_St) : cv_MH LL G yL_isCut cL_isCut 3 [(0, 15, 18, 15)] 8 130 1 6 [.ref (G.1 0), .ref (G.1 66)] σ (F_L_isCut σ) :=
  cv_mkH htr (by decide) (Nat.le_of_ble_eq_true rfl) (fun X hX hC => J_L_isCut htr hX hC σ)
set_option maxRecDepth 20000 in
set_option maxHeartbeats 2000000 in
theorem J_L_observed {X : cv_X} {G : cv_G} {LL : Launch} (htr : LL.stackTraces = false) (hX : cv_CH X G [(0, 8, 11, 15), (0, 8, 14, 95)]) (hC : cv_C X G LL RL cL_observed 3 (some .int) { frames := 8, cells := 2, slots := 12, locals := 132 }) (σ : cv_St) : cv_J X G 3 0 0 (cv_QH X G 2 12) 0 [(0, .ref (G.1 0)), (1, .ref (G.1 66))] [] σ (F_L_observed σ) := by
  unfold F_L_observed
  refine cv_aload_n hC 1 dL_observed_0 rfl rfl ?_
  refine cv_iconst (v := 0) hC dL_observed_1 cb_iconst_0 ?_
  refine cv_aload_n hC 0 dL_observed_2 rfl rfl ?_
  refine cv_callHI (ob := 0) hX hC [] [.int 0, .ref (G.1 66)] (M_X8_observed htr G σ) ln_L_110 vm_X8_observed (ob_0 G) rfl rfl (Nat.le_of_ble_eq_true rfl) ⟨Nat.le_of_ble_eq_true rfl, Nat.le_of_ble_eq_true rfl⟩ ⟨Nat.le_of_ble_eq_true rfl, Nat.le_of_ble_eq_true rfl⟩ ⟨Nat.le_of_ble_eq_true rfl, Nat.le_of_ble_eq_true rfl⟩ dL_observed_3 hn_L_observed (fun v2 s1 => ?_)
  refine cv_i2l hC dL_observed_6 ?_
  refine cv_last hC dL_observed_7 (fun s3 => ?_)
  refine cv_goto (tgt := 17) hC dL_observed_8 (by decide) ?_
  refine cv_iconst (v := 0) hC dL_observed_17 cb_iconst_0 ?_
  exact cv_hiret hC ⟨Nat.le_of_ble_eq_true rfl, Nat.le_of_ble_eq_true rfl⟩ dL_observed_18
set_option maxRecDepth 20000 in
set_option maxHeartbeats 2000000 in
theorem M_L_observed {LL : Launch} (htr : LL.stackTraces = false) (G : cv_G) (σ : cv_St) : cv_MH LL G yL_observed cL_observed 3 [(0, 8, 11, 15), (0, 8, 14, 95)] 8 132 2 12 [.ref (G.1 0), .ref (G.1 66)] σ (F_L_observed σ) :=
  cv_mkH htr (by decide) (Nat.le_of_ble_eq_true rfl) (fun X hX hC => J_L_observed htr hX hC σ)
set_option maxRecDepth 20000 in
set_option maxHeartbeats 2000000 in
theorem J_L_origin {X : cv_X} {G : cv_G} {LL : Launch} (htr : LL.stackTraces = false) (hX : cv_CH X G [(0, 9, 12, 20), (0, 9, 15, 15), (0, 9, 18, 95)]) (hC : cv_C X G LL RL cL_origin 4 (some .int) { frames := 8, cells := 4, slots := 24, locals := 133 }) (l1 : Int32) (σ : cv_St) : cv_J X G 4 0 0 (cv_QH X G 4 24) 0 [(0, .ref (G.1 0)), (1, .int l1), (2, .ref (G.1 66))] [] σ (F_L_origin l1 σ) := by
  unfold F_L_origin
  refine cv_aload_n hC 2 dL_origin_0 rfl rfl ?_
  refine cv_iconst (v := 0) hC dL_origin_1 cb_iconst_0 ?_
  refine cv_aload_n hC 0 dL_origin_2 rfl rfl ?_
  refine cv_iload_n hC 1 dL_origin_3 rfl rfl ?_
  refine cv_callHI (ob := 0) hX hC [.int l1] [.int 0, .ref (G.1 66)] (M_X8_origin htr G l1 σ) ln_L_113 vm_X8_origin (ob_0 G) rfl rfl (Nat.le_of_ble_eq_true rfl) ⟨Nat.le_of_ble_eq_true rfl, Nat.le_of_ble_eq_true rfl⟩ ⟨Nat.le_of_ble_eq_true rfl, Nat.le_of_ble_eq_true rfl⟩ ⟨Nat.le_of_ble_eq_true rfl, Nat.le_of_ble_eq_true rfl⟩ dL_origin_4 hn_L_origin (fun v2 s1 => ?_)
  refine cv_i2l hC dL_origin_7 ?_
  refine cv_last hC dL_origin_8 (fun s3 => ?_)
  refine cv_goto (tgt := 21) hC dL_origin_9 (by decide) ?_
  refine cv_iconst (v := 0) hC dL_origin_21 cb_iconst_0 ?_
  exact cv_hiret hC ⟨Nat.le_of_ble_eq_true rfl, Nat.le_of_ble_eq_true rfl⟩ dL_origin_22
set_option maxRecDepth 20000 in
set_option maxHeartbeats 2000000 in
theorem M_L_origin {LL : Launch} (htr : LL.stackTraces = false) (G : cv_G) (l1 : Int32) (σ : cv_St) : cv_MH LL G yL_origin cL_origin 4 [(0, 9, 12, 20), (0, 9, 15, 15), (0, 9, 18, 95)] 8 133 4 24 [.ref (G.1 0), .int l1, .ref (G.1 66)] σ (F_L_origin l1 σ) :=
  cv_mkH htr (by decide) (Nat.le_of_ble_eq_true rfl) (fun X hX hC => J_L_origin htr hX hC l1 σ)
set_option maxRecDepth 20000 in
set_option maxHeartbeats 2000000 in
theorem J_L_preservedShare {X : cv_X} {G : cv_G} {LL : Launch} (htr : LL.stackTraces = false) (hX : cv_CH X G [(0, 7, 10, 120)]) (hC : cv_C X G LL RL cL_preservedShare 3 (some .int) { frames := 7, cells := 1, slots := 6, locals := 160 }) (σ : cv_St) : cv_J X G 3 0 0 (cv_QH X G 1 6) 0 [(0, .ref (G.1 0)), (1, .ref (G.1 67))] [] σ (F_L_preservedShare σ) := by
  unfold F_L_preservedShare
  refine cv_aload_n hC 1 dL_preservedShare_0 rfl rfl ?_
  refine cv_iconst (v := 0) hC dL_preservedShare_1 cb_iconst_0 ?_
  refine cv_aload_n hC 0 dL_preservedShare_2 rfl rfl ?_
  refine cv_callHD (ob := 0) hX hC [] [.int 0, .ref (G.1 67)] (M_X8_preservedShare htr G σ) ln_L_116 vm_X8_preservedShare (ob_0 G) rfl rfl (Nat.le_of_ble_eq_true rfl) ⟨Nat.le_of_ble_eq_true rfl, Nat.le_of_ble_eq_true rfl⟩ ⟨Nat.le_of_ble_eq_true rfl, Nat.le_of_ble_eq_true rfl⟩ ⟨Nat.le_of_ble_eq_true rfl, Nat.le_of_ble_eq_true rfl⟩ dL_preservedShare_3 hn_L_preservedShare (fun v2 s1 => ?_)
  refine cv_dast hC dL_preservedShare_6 (fun s3 => ?_)
  refine cv_goto (tgt := 13) hC dL_preservedShare_7 (by decide) ?_
  refine cv_iconst (v := 0) hC dL_preservedShare_13 cb_iconst_0 ?_
  exact cv_hiret hC ⟨Nat.le_of_ble_eq_true rfl, Nat.le_of_ble_eq_true rfl⟩ dL_preservedShare_14
set_option maxRecDepth 20000 in
set_option maxHeartbeats 2000000 in
theorem M_L_preservedShare {LL : Launch} (htr : LL.stackTraces = false) (G : cv_G) (σ : cv_St) : cv_MH LL G yL_preservedShare cL_preservedShare 3 [(0, 7, 10, 120)] 7 160 1 6 [.ref (G.1 0), .ref (G.1 67)] σ (F_L_preservedShare σ) :=
  cv_mkH htr (by decide) (Nat.le_of_ble_eq_true rfl) (fun X hX hC => J_L_preservedShare htr hX hC σ)
set_option maxRecDepth 20000 in
set_option maxHeartbeats 2000000 in
theorem J_L_problemShare {X : cv_X} {G : cv_G} {LL : Launch} (htr : LL.stackTraces = false) (hX : cv_CH X G [(0, 8, 11, 120)]) (hC : cv_C X G LL RL cL_problemShare 3 (some .int) { frames := 7, cells := 1, slots := 6, locals := 157 }) (σ : cv_St) : cv_J X G 3 0 0 (cv_QH X G 1 6) 0 [(0, .ref (G.1 0)), (1, .ref (G.1 67))] [] σ (F_L_problemShare σ) := by
  unfold F_L_problemShare
  refine cv_aload_n hC 1 dL_problemShare_0 rfl rfl ?_
  refine cv_iconst (v := 0) hC dL_problemShare_1 cb_iconst_0 ?_
  refine cv_aload_n hC 0 dL_problemShare_2 rfl rfl ?_
  refine cv_callHS (ob := 0) hX hC [] [.int 0, .ref (G.1 67)] (M_X8_problemShare htr G σ) ln_L_122 vm_X8_problemShare (ob_0 G) rfl rfl (Nat.le_of_ble_eq_true rfl) ⟨Nat.le_of_ble_eq_true rfl, Nat.le_of_ble_eq_true rfl⟩ ⟨Nat.le_of_ble_eq_true rfl, Nat.le_of_ble_eq_true rfl⟩ ⟨Nat.le_of_ble_eq_true rfl, Nat.le_of_ble_eq_true rfl⟩ dL_problemShare_3 hn_L_problemShare (fun v2 s1 => ?_)
  refine cv_f2dr hC dL_problemShare_6 (fun v3 => ?_)
  refine cv_dast hC dL_problemShare_7 (fun s4 => ?_)
  refine cv_goto (tgt := 14) hC dL_problemShare_8 (by decide) ?_
  refine cv_iconst (v := 0) hC dL_problemShare_14 cb_iconst_0 ?_
  exact cv_hiret hC ⟨Nat.le_of_ble_eq_true rfl, Nat.le_of_ble_eq_true rfl⟩ dL_problemShare_15
set_option maxRecDepth 20000 in
set_option maxHeartbeats 2000000 in
theorem M_L_problemShare {LL : Launch} (htr : LL.stackTraces = false) (G : cv_G) (σ : cv_St) : cv_MH LL G yL_problemShare cL_problemShare 3 [(0, 8, 11, 120)] 7 157 1 6 [.ref (G.1 0), .ref (G.1 67)] σ (F_L_problemShare σ) :=
  cv_mkH htr (by decide) (Nat.le_of_ble_eq_true rfl) (fun X hX hC => J_L_problemShare htr hX hC σ)
set_option maxRecDepth 20000 in
set_option maxHeartbeats 2000000 in
theorem J_L_restore {X : cv_X} {G : cv_G} {LL : Launch} (htr : LL.stackTraces = false) (hX : cv_CH X G [(0, 4, 7, 15)]) (hC : cv_C X G LL RL cL_restore 2 (some .int) { frames := 7, cells := 1, slots := 6, locals := 110 }) (σ : cv_St) : cv_J X G 2 0 0 (cv_QH X G 1 6) 0 [(0, .ref (G.1 0))] [] σ (F_L_restore σ) := by
  unfold F_L_restore
  refine cv_aload_n hC 0 dL_restore_0 rfl rfl ?_
  refine cv_callHV (ob := 0) hX hC [] [] (M_X8_restore htr G σ) ln_L_126 vm_X8_restore (ob_0 G) rfl rfl (Nat.le_of_ble_eq_true rfl) ⟨Nat.le_of_ble_eq_true rfl, Nat.le_of_ble_eq_true rfl⟩ ⟨Nat.le_of_ble_eq_true rfl, Nat.le_of_ble_eq_true rfl⟩ ⟨Nat.le_of_ble_eq_true rfl, Nat.le_of_ble_eq_true rfl⟩ dL_restore_1 hn_L_restore (fun s1 => ?_)
  refine cv_goto (tgt := 10) hC dL_restore_4 (by decide) ?_
  refine cv_iconst (v := 0) hC dL_restore_10 cb_iconst_0 ?_
  exact cv_hiret hC ⟨Nat.le_of_ble_eq_true rfl, Nat.le_of_ble_eq_true rfl⟩ dL_restore_11
set_option maxRecDepth 20000 in
set_option maxHeartbeats 2000000 in
theorem M_L_restore {LL : Launch} (htr : LL.stackTraces = false) (G : cv_G) (σ : cv_St) : cv_MH LL G yL_restore cL_restore 2 [(0, 4, 7, 15)] 7 110 1 6 [.ref (G.1 0)] σ (F_L_restore σ) :=
  cv_mkH htr (by decide) (Nat.le_of_ble_eq_true rfl) (fun X hX hC => J_L_restore htr hX hC σ)
