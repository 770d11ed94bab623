def F_X8_appendCharacter (l1 : Int32) (σ : cv_St) : Option (Nat × Int32 × cv_St) :=
  (if l1 < 33 then some (2, 0, σ) else (if l1 ≤ 126 then (if (σ.2.1 3) < 60 then cv_st σ 11 60 (σ.2.1 3) (vp_nar .char ((l1.toUInt32 % 65536).toInt32)) (fun s1 => cv_pui s1 3 ((s1.2.1 3) + 1) (fun s2 => some (0, (s2.2.1 3), s2))) else some (3, 0, σ)) else some (2, 0, σ)))
def F_X8_checkFunction (l1 : Int32) (σ : cv_St) : Option (Nat × Int32 × cv_St) :=
  (if l1 < 0 then some (1, 0, σ) else (if l1 < 8 then some (0, 0, σ) else some (1, 0, σ)))
def F_X8_setBody (l1 : Int32) (σ : cv_St) : Option (Nat × Int32 × cv_St) :=
  cv_bx 0 (F_X8_checkFunction l1 σ) (fun _ s1 => cv_bv (F_X6_read s1) (fun s2 => (if (s2.2.1 5) = (-1) then (if (s2.2.1 4) ≤ 14 then cv_bv (F_X0_take_2_1 l1 s2) (fun s3 => cv_bv (F_X8_forgetFacts s3) (fun s4 => cv_ld s4 14 8 l1 (fun v5 => some (0, v5, s4)))) else some (3, 0, s2)) else some (2, 0, s2))))
def F_X8_length (l1 : Int32) (σ : cv_St) : Option (Nat × Int32 × cv_St) :=
  cv_bx 0 (F_X8_checkFunction l1 σ) (fun _ s1 => cv_ld s1 14 8 l1 (fun v2 => some (0, v2, s1)))
def F_X8_checkInstruction (l1 : Int32) (l2 : Int32) (σ : cv_St) : Option (Nat × Int32 × cv_St) :=
  cv_bx 0 (F_X8_checkFunction l1 σ) (fun _ s1 => (if l2 < 0 then some (1, 0, s1) else cv_ld s1 14 8 l1 (fun v2 => (if l2 < v2 then some (0, 0, s1) else some (1, 0, s1)))))
def F_X8_instruction (l1 : Int32) (l2 : Int32) (σ : cv_St) : Option (Nat × Int32 × cv_St) :=
  cv_bx 0 (F_X8_checkInstruction l1 l2 σ) (fun _ s1 => cv_bi (F_X0_kindAt l1 l2 s1) (fun v3 s2 => cv_rxc v3 s2))
def F_X8_operand (l1 : Int32) (l2 : Int32) (σ : cv_St) : Option (Nat × Int32 × cv_St) :=
  cv_bx 0 (F_X8_checkInstruction l1 l2 σ) (fun _ s1 => cv_bi (F_X0_kindAt l1 l2 s1) (fun v3 s2 => (if v3 = 114 then some (4, 0, s2) else cv_bi (F_X0_numberAt l1 l2 s2) (fun v5 s4 => some (0, v5, s4)))))
def F_X8_removeInstruction (l1 : Int32) (l2 : Int32) (σ : cv_St) : Option (Nat × Int32 × cv_St) :=
  cv_bx 0 (F_X8_checkInstruction l1 l2 σ) (fun _ s1 => cv_bv (F_X0_drop l1 l2 s1) (fun s2 => cv_bv (F_X8_forgetFacts s2) (fun s3 => cv_ld s3 14 8 l1 (fun v4 => some (0, v4, s3)))))
def F_X8_isReachable (l1 : Int32) (l2 : Int32) (σ : cv_St) : Option (Nat × Int32 × cv_St) :=
  cv_bx 0 (F_X8_checkInstruction l1 l2 σ) (fun _ s1 => cv_bv (F_X8_inferFacts s1) (fun s2 => cv_bi (F_X2_reaches l1 l2 s2) (fun v4 s3 => cv_rxz v4 s3)))
def F_X8_isBalanced (l1 : Int32) (σ : cv_St) : Option (Nat × Int32 × cv_St) :=
  cv_bx 0 (F_X8_checkFunction l1 σ) (fun _ s1 => cv_bv (F_X8_inferFacts s1) (fun s2 => cv_ld s2 22 8 l1 (fun v3 => cv_rxz v3 s2)))
def F_X8_preserved (l1 : Int32) (σ : cv_St) : Option (Nat × Int32 × cv_St) :=
  cv_bx 0 (F_X8_checkFunction l1 σ) (fun _ s1 => cv_bv (F_X8_inferFacts s1) (fun s2 => cv_ld s2 23 8 l1 (fun v3 => some (0, v3, s2))))
def F_X8_surelyDefined (l1 : Int32) (σ : cv_St) : Option (Nat × Int32 × cv_St) :=
  cv_bx 0 (F_X8_checkFunction l1 σ) (fun _ s1 => cv_bv (F_X8_inferFacts s1) (fun s2 => cv_ld s2 27 8 l1 (fun v3 => some (0, v3, s2))))
def F_X8_arguments (l1 : Int32) (σ : cv_St) : Option (Nat × Int32 × cv_St) :=
  cv_bx 0 (F_X8_checkFunction l1 σ) (fun _ s1 => cv_bv (F_X8_inferFacts s1) (fun s2 => cv_ld s2 30 8 l1 (fun v3 => some (0, v3, s2))))
def F_X8_results (l1 : Int32) (σ : cv_St) : Option (Nat × Int32 × cv_St) :=
  cv_bx 0 (F_X8_checkFunction l1 σ) (fun _ s1 => cv_bv (F_X8_inferFacts s1) (fun s2 => cv_ld s2 31 8 l1 (fun v3 => some (0, v3, s2))))
def F_X8_liveBefore (l1 : Int32) (l2 : Int32) (σ : cv_St) : Option (Nat × Int32 × cv_St) :=
  cv_bx 0 (F_X8_checkInstruction l1 l2 σ) (fun _ s1 => cv_bv (F_X8_inferFacts s1) (fun s2 => cv_bi (F_X2_reaches l1 l2 s2) (fun v4 s3 => (if v4 = 0 then some (3, 0, s3) else cv_bi (F_X3_before l1 l2 s3) (fun v6 s5 => some (0, v6, s5))))))
def F_X8_neededSlots (l1 : Int32) (σ : cv_St) : Option (Nat × Int32 × cv_St) :=
  cv_bx 0 (F_X8_checkFunction l1 σ) (fun _ s1 => cv_bv (F_X8_inferFacts s1) (fun s2 => cv_ld s2 36 8 l1 (fun v3 => some (0, v3, s2))))
def F_X8_isVariadic (l1 : Int32) (σ : cv_St) : Option (Nat × Int32 × cv_St) :=
  cv_bx 0 (F_X8_checkFunction l1 σ) (fun _ s1 => cv_bv (F_X8_inferFacts s1) (fun s2 => cv_bi (F_X5_differFor l1 s2) (fun v4 s3 => cv_rxz v4 s3)))
def F_X8_callees (l1 : Int32) (σ : cv_St) : Option (Nat × Int32 × cv_St) :=
  cv_bx 0 (F_X8_checkFunction l1 σ) (fun _ s1 => cv_bv (F_X8_inferFacts s1) (fun s2 => cv_ld s2 21 8 l1 (fun v3 => some (0, v3, s2))))
def F_X8_callersOf (l1 : Int32) (σ : cv_St) : Option (Nat × Int32 × cv_St) :=
  cv_bx 0 (F_X8_checkFunction l1 σ) (fun _ s1 => cv_bv (F_X8_inferFacts s1) (fun s2 => cv_bi (F_X2_callers l1 s2) (fun v4 s3 => some (0, v4, s3))))
def F_X8_isRecursive (l1 : Int32) (σ : cv_St) : Option (Nat × Int32 × cv_St) :=
  cv_bx 0 (F_X8_checkFunction l1 σ) (fun _ s1 => cv_bv (F_X8_inferFacts s1) (fun s2 => cv_bi (F_X2_calledInAll l1 s2) (fun v4 s3 => cv_bi (F_X8_contains v4 l1 s3) (fun v6 s5 => cv_rxz v6 s5))))
def F_X8_checkSite (l1 : Int32) (σ : cv_St) : Option (Nat × Int32 × cv_St) :=
  (if l1 < 0 then some (1, 0, σ) else (if l1 < (σ.2.1 7) then some (0, 0, σ) else some (1, 0, σ)))
def F_X8_site (l1 : Int32) (l2 : Int32) (σ : cv_St) : Option (Nat × Int32 × cv_St) :=
  cv_bv (F_X8_inferFacts σ) (fun s1 => cv_bx 0 (F_X8_checkSite l1 s1) (fun _ s2 => (if l2 < 0 then some (2, 0, s2) else (if l2 ≤ 2 then (if l2 = 0 then cv_ld s2 32 112 l1 (fun v5 => some (0, v5, s2)) else (if l2 = 1 then cv_ld s2 33 112 l1 (fun v4 => some (0, v4, s2)) else cv_ld s2 34 112 l1 (fun v3 => some (0, v3, s2)))) else some (2, 0, s2)))))
def F_X8_passedSlots (l1 : Int32) (σ : cv_St) : Option (Nat × Int32 × cv_St) :=
  cv_bv (F_X8_inferFacts σ) (fun s1 => cv_bx 0 (F_X8_checkSite l1 s1) (fun _ s2 => cv_ld s2 35 112 l1 (fun v3 => some (0, v3, s2))))
def F_X8_missingSlots (l1 : Int32) (σ : cv_St) : Option (Nat × Int32 × cv_St) :=
  cv_bv (F_X8_inferFacts σ) (fun s1 => cv_bx 0 (F_X8_checkSite l1 s1) (fun _ s2 => cv_bi (F_X5_missing l1 s2) (fun v4 s3 => some (0, v4, s3))))
def F_X8_lostRegisters (l1 : Int32) (σ : cv_St) : Option (Nat × Int32 × cv_St) :=
  cv_bv (F_X8_inferFacts σ) (fun s1 => cv_bx 0 (F_X8_checkSite l1 s1) (fun _ s2 => cv_bi (F_X8_lostAt l1 s2) (fun v4 s3 => some (0, v4, s3))))
def F_X8_liveBehind (l1 : Int32) (σ : cv_St) : Option (Nat × Int32 × cv_St) :=
  cv_bv (F_X8_inferFacts σ) (fun s1 => cv_bx 0 (F_X8_checkSite l1 s1) (fun _ s2 => cv_ld s2 32 112 l1 (fun v3 => cv_ld s2 33 112 l1 (fun v4 => cv_bi (F_X3_behind v3 v4 s2) (fun v6 s5 => some (0, v6, s5))))))
def B_X8_firstProblem_b6 (k6 : Int32 → cv_St → Option (Nat × Int32 × cv_St)) (l1 : Int32) (σ : cv_St) : Option (Nat × Int32 × cv_St) :=
  (if (σ.2.1 7) ≤ l1 then some (5, 0, σ) else cv_bi (F_X8_hasProblem l1 σ) (fun v3 s2 => (if v3 = 0 then k6 (l1 + Int32.ofInt 1) s2 else some (0, l1, s2))))
def F_X8_firstProblem_b6 : Nat → Int32 → cv_St → Option (Nat × Int32 × cv_St)
  | 0, _, _ => none
  | n + 1, l1, σ => B_X8_firstProblem_b6 (F_X8_firstProblem_b6 n) l1 σ
def F_X8_firstProblem (σ : cv_St) : Option (Nat × Int32 × cv_St) :=
  cv_bv (F_X8_inferFacts σ) (fun s1 => F_X8_firstProblem_b6 1000 0 s1)
def F_X8_checkRegister (l1 : Int32) (σ : cv_St) : Option (Nat × Int32 × cv_St) :=
  (if l1 < 0 then some (1, 0, σ) else (if l1 < 8 then some (0, 0, σ) else some (1, 0, σ)))
def F_X8_votes (l1 : Int32) (l2 : Int32) (σ : cv_St) : Option (Nat × Int32 × cv_St) :=
  cv_bx 0 (F_X8_checkRegister l1 σ) (fun _ s1 => (if l2 < 0 then some (2, 0, s1) else (if l2 ≤ 3 then cv_bv (F_X8_inferFacts s1) (fun s2 => cv_bi (F_X8_countVotes l1 l2 s2) (fun v4 s3 => some (0, v4, s3))) else some (2, 0, s1))))
def F_X8_role (l1 : Int32) (σ : cv_St) : Option (Nat × Int32 × cv_St) :=
  cv_bx 0 (F_X8_checkRegister l1 σ) (fun _ s1 => cv_bi (F_X0_countFilled s1) (fun v3 s2 => (if v3 = 0 then some (5, 0, s2) else cv_bv (F_X8_inferFacts s2) (fun s4 => cv_bi (F_X8_countVotes l1 0 s4) (fun v6 s5 => (if (2 * v6) < v3 then cv_bi (F_X8_countVotes l1 1 s5) (fun v8 s7 => (if v8 < 1 then cv_bi (F_X8_countVotes l1 2 s7) (fun v10 s9 => (if (2 * v10) < v3 then some (0, 4, s9) else some (0, 3, s9))) else some (0, 2, s7))) else some (0, 1, s5)))))))
def F_X8_run (l1 : Int32) (l2 : Int32) (σ : cv_St) : Option (Nat × Int32 × cv_St) :=
  cv_bx 0 (F_X8_checkFunction l1 σ) (fun _ s1 => cv_bv (F_X4_execute l1 l2 s1) (fun s2 => cv_puz s2 2 1 (fun s3 => some (0, (s3.2.1 9), s3))))
def F_X8_checkRun (σ : cv_St) : Option (Nat × Int32 × cv_St) :=
  (if (σ.2.1 2) = 0 then some (3, 0, σ) else some (0, 0, σ))
def F_X8_isCut (σ : cv_St) : Option (Nat × Int32 × cv_St) :=
  cv_bx 0 (F_X8_checkRun σ) (fun _ s1 => cv_rxz (s1.2.1 13) s1)
def F_X8_checkNotCut (σ : cv_St) : Option (Nat × Int32 × cv_St) :=
  (if (σ.2.1 13) = 0 then some (0, 0, σ) else some (5, 0, σ))
def F_X8_observed_b37 (k12 : Int32 → Int32 → cv_St → Option (Nat × Int32 × cv_St)) (l1 : Int32) (l2 : Int32) (σ : cv_St) : Option (Nat × Int32 × cv_St) :=
  k12 l1 (l2 + Int32.ofInt 1) σ
def B_X8_observed_b12 (k12 : Int32 → Int32 → cv_St → Option (Nat × Int32 × cv_St)) (l1 : Int32) (l2 : Int32) (σ : cv_St) : Option (Nat × Int32 × cv_St) :=
  (if 8 ≤ l2 then some (0, l1, σ) else cv_ld σ 38 8 l2 (fun v3 => (if v3 = l2 then F_X8_observed_b37 k12 (l1 ||| (1 <<< (l2 &&& 31))) l2 σ else F_X8_observed_b37 k12 l1 l2 σ)))
def F_X8_observed_b12 : Nat → Int32 → Int32 → cv_St → Option (Nat × Int32 × cv_St)
  | 0, _, _, _ => none
  | n + 1, l1, l2, σ => B_X8_observed_b12 (F_X8_observed_b12 n) l1 l2 σ
def F_X8_observed (σ : cv_St) : Option (Nat × Int32 × cv_St) :=
  cv_bx 0 (F_X8_checkRun σ) (fun _ s1 => cv_bx 0 (F_X8_checkNotCut s1) (fun _ s2 => F_X8_observed_b12 1000 0 0 s2))
def F_X8_origin (l1 : Int32) (σ : cv_St) : Option (Nat × Int32 × cv_St) :=
  cv_bx 0 (F_X8_checkRegister l1 σ) (fun _ s1 => cv_bx 0 (F_X8_checkRun s1) (fun _ s2 => cv_bx 0 (F_X8_checkNotCut s2) (fun _ s3 => cv_ld s3 38 8 l1 (fun v4 => (if v4 < 8 then some (0, v4, s3) else some (5, 0, s3))))))
def B_X8_preservedShare_b30 (k30 : Int32 → Int32 → Int32 → cv_St → Option (Nat × UInt64 × cv_St)) (l1 : Int32) (l2 : Int32) (l3 : Int32) (σ : cv_St) : Option (Nat × UInt64 × cv_St) :=
  (if 8 ≤ l3 then cv_ddv (FP.i2d l2) (FP.i2d l1) (fun v4 => some (0, v4, σ)) else cv_bi (F_X8_countVotes l3 3 σ) (fun v6 s5 => k30 l1 (l2 + v6) (l3 + Int32.ofInt 1) s5))
def F_X8_preservedShare_b30 : Nat → Int32 → Int32 → Int32 → cv_St → Option (Nat × UInt64 × cv_St)
  | 0, _, _, _, _ => none
  | n + 1, l1, l2, l3, σ => B_X8_preservedShare_b30 (F_X8_preservedShare_b30 n) l1 l2 l3 σ
def F_X8_preservedShare (σ : cv_St) : Option (Nat × UInt64 × cv_St) :=
  cv_bi (F_X0_countFilled σ) (fun v2 s1 => (if v2 = 0 then some (6, 0, s1) else cv_bv (F_X8_inferFacts s1) (fun s3 => F_X8_preservedShare_b30 1000 v2 0 0 s3)))
def F_X8_problemShare (σ : cv_St) : Option (Nat × UInt32 × cv_St) :=
  cv_bv (F_X8_inferFacts σ) (fun s1 => (if (s1.2.1 7) = 0 then some (6, 0, s1) else cv_bi (F_X8_countProblems s1) (fun v3 s2 => cv_fdv (FP.i2f v3) (FP.i2f (s2.2.1 7)) (fun v4 => some (0, v4, s2)))))
def F_X8_restore (σ : cv_St) : Option (Nat × Int32 × cv_St) :=
  (if (σ.2.1 0) = 0 then some (3, 0, σ) else cv_bv (F_X0_copyFrom_2_3 σ) (fun s1 => cv_bv (F_X8_forgetFacts s1) (fun s2 => some (0, 0, s2))))
def B_X9_preservedShare_b35 (k35 : Int32 → Int32 → Int32 → cv_St → Option (UInt64 × cv_St)) (l1 : Int32) (l2 : Int32) (l3 : Int32) (σ : cv_St) : Option (UInt64 × cv_St) :=
  (if 8 ≤ l3 then cv_ddv (FP.i2d l2) (FP.i2d l1) (fun v5 => some (v5, σ)) else cv_bi (F_X9_countVotes l3 3 σ) (fun v7 s6 => k35 l1 (l2 + v7) (l3 + Int32.ofInt 1) s6))
def F_X9_preservedShare_b35 : Nat → Int32 → Int32 → Int32 → cv_St → Option (UInt64 × cv_St)
  | 0, _, _, _, _ => none
  | n + 1, l1, l2, l3, σ => B_X9_preservedShare_b35 (F_X9_preservedShare_b35 n) l1 l2 l3 σ
def F_X9_preservedShare_b15 (l1 : Int32) (t0 : Int32) (σ : cv_St) : Option (UInt64 × cv_St) :=
  cv_pui σ 17 t0 (fun s3 => (if (s3.2.1 17) ≤ 0 then cv_bv (F_X9_infer s3) (fun s4 => F_X9_preservedShare_b35 1000 l1 0 0 s4) else some (FP.dconst0, s3)))
def F_X9_preservedShare (σ : cv_St) : Option (UInt64 × cv_St) :=
  cv_bi (F_X9_bodyMany σ) (fun v2 s1 => (if v2 = 0 then F_X9_preservedShare_b15 v2 1 s1 else F_X9_preservedShare_b15 v2 0 s1))
def F_X9_problemShare_b42 (t0 : UInt32) (σ : cv_St) : Option (UInt32 × cv_St) :=
  some (t0, σ)
def F_X9_problemShare_b17 (t0 : Int32) (σ : cv_St) : Option (UInt32 × cv_St) :=
  cv_pui σ 17 t0 (fun s2 => (if (s2.2.1 17) ≤ 0 then cv_bi (F_X9_problemMany s2) (fun v4 s3 => cv_fdv (FP.i2f v4) (FP.i2f (s3.2.1 21)) (fun v5 => F_X9_problemShare_b42 v5 s3)) else F_X9_problemShare_b42 FP.fconst0 s2))
def F_X9_problemShare (σ : cv_St) : Option (UInt32 × cv_St) :=
  cv_bv (F_X9_infer σ) (fun s1 => (if (s1.2.1 21) = 0 then F_X9_problemShare_b17 1 s1 else F_X9_problemShare_b17 0 s1))
/-! X8_appendCharacter -/
set_option maxRecDepth 20000 in
set_option maxHeartbeats 2000000 in
theorem J_X8_appendCharacter {X : cv_X} {G : cv_G} {LL : Launch} (htr : LL.stackTraces = false) (hX : cv_CX X G) (hC : cv_C X G LL RX8 cX8_appendCharacter 2 (some .int) { frames := 6, cells := 1, slots := 6, locals := 90 }) (l1 : Int32) (σ : cv_St) : cv_J X G 2 0 0 (cv_QXI X G 1 6) 0 [(0, .ref (G.1 0)), (1, .int l1)] [] σ (F_X8_appendCharacter l1 σ) := by
  unfold F_X8_appendCharacter
  refine cv_iload_n hC 1 dX8_appendCharacter_0 rfl rfl ?_
  refine cv_bipush (v := 33) hC dX8_appendCharacter_1 cb_bipush_33 ?_
  refine cv_icmp_lt (tgt := 12) hC dX8_appendCharacter_3 (by decide) ?_ ?_
  · exact cv_throwIS hX hC 2 tw_2_86 ⟨Nat.le_of_ble_eq_true rfl, Nat.le_of_ble_eq_true rfl⟩ ⟨Nat.le_of_ble_eq_true rfl, Nat.le_of_ble_eq_true rfl⟩ ⟨Nat.le_of_ble_eq_true rfl, Nat.le_of_ble_eq_true rfl⟩ dX8_appendCharacter_12 dX8_appendCharacter_15 dX8_appendCharacter_16 dX8_appendCharacter_18 dX8_appendCharacter_21
  · refine cv_iload_n hC 1 dX8_appendCharacter_6 rfl rfl ?_
    refine cv_bipush (v := 126) hC dX8_appendCharacter_7 cb_bipush_126 ?_
    refine cv_icmp_le (tgt := 22) hC dX8_appendCharacter_9 (by decide) ?_ ?_
    · refine cv_aload_n hC 0 dX8_appendCharacter_22 rfl rfl ?_
      refine cv_getr hC (fg_X8_12_0 G) dX8_appendCharacter_23 ?_
      refine cv_geti hC (fg_X8_91_1 G) dX8_appendCharacter_26 ?_
      refine cv_bipush (v := 60) hC dX8_appendCharacter_29 cb_bipush_60 ?_
      refine cv_icmp_lt (tgt := 44) hC dX8_appendCharacter_31 (by decide) ?_ ?_
      · refine cv_aload_n hC 0 dX8_appendCharacter_44 rfl rfl ?_
        refine cv_getr hC (fg_X8_12_0 G) dX8_appendCharacter_45 ?_
        refine cv_getr hC (fg_X8_100_1 G) dX8_appendCharacter_48 ?_
        refine cv_aload_n hC 0 dX8_appendCharacter_51 rfl rfl ?_
        refine cv_getr hC (fg_X8_12_0 G) dX8_appendCharacter_52 ?_
        refine cv_geti hC (fg_X8_91_1 G) dX8_appendCharacter_55 ?_
        refine cv_iload_n hC 1 dX8_appendCharacter_58 rfl rfl ?_
        refine cv_i2c hC dX8_appendCharacter_59 ?_
        refine cv_cast hC (cv_a11 G) dX8_appendCharacter_60 (fun s1 => ?_)
        refine cv_aload_n hC 0 dX8_appendCharacter_61 rfl rfl ?_
        refine cv_getr hC (fg_X8_12_0 G) dX8_appendCharacter_62 ?_
        refine cv_dup hC dX8_appendCharacter_65 rfl ?_
        refine cv_geti hC (fg_X8_91_1 G) dX8_appendCharacter_66 ?_
        refine cv_iconst (v := 1) hC dX8_appendCharacter_69 cb_iconst_1 ?_
        refine cv_iadd hC dX8_appendCharacter_70 ?_
        refine cv_puti hC (fp_X8_91_1 G) dX8_appendCharacter_71 (fun s2 => ?_)
        refine cv_aload_n hC 0 dX8_appendCharacter_74 rfl rfl ?_
        refine cv_getr hC (fg_X8_12_0 G) dX8_appendCharacter_75 ?_
        refine cv_geti hC (fg_X8_91_1 G) dX8_appendCharacter_78 ?_
        exact cv_xiret hC ⟨Nat.le_of_ble_eq_true rfl, Nat.le_of_ble_eq_true rfl⟩ dX8_appendCharacter_81
      · exact cv_throwIS hX hC 3 tw_3_97 ⟨Nat.le_of_ble_eq_true rfl, Nat.le_of_ble_eq_true rfl⟩ ⟨Nat.le_of_ble_eq_true rfl, Nat.le_of_ble_eq_true rfl⟩ ⟨Nat.le_of_ble_eq_true rfl, Nat.le_of_ble_eq_true rfl⟩ dX8_appendCharacter_34 dX8_appendCharacter_37 dX8_appendCharacter_38 dX8_appendCharacter_40 dX8_appendCharacter_43
    · exact cv_throwIS hX hC 2 tw_2_86 ⟨Nat.le_of_ble_eq_true rfl, Nat.le_of_ble_eq_true rfl⟩ ⟨Nat.le_of_ble_eq_true rfl, Nat.le_of_ble_eq_true rfl⟩ ⟨Nat.le_of_ble_eq_true rfl, Nat.le_of_ble_eq_true rfl⟩ dX8_appendCharacter_12 dX8_appendCharacter_15 dX8_appendCharacter_16 dX8_appendCharacter_18 dX8_appendCharacter_21
set_option maxRecDepth 20000 in
set_option maxHeartbeats 2000000 in
theorem M_X8_appendCharacter {LL : Launch} (htr : LL.stackTraces = false) (G : cv_G) (l1 : Int32) (σ : cv_St) : cv_MXI LL G yX8_appendCharacter cX8_appendCharacter 2 (some .int) 6 90 1 6 [.ref (G.1 0), .int l1] σ (F_X8_appendCharacter l1 σ) :=
  cv_mkXI htr (by decide) (Nat.le_of_ble_eq_true rfl) (fun X hX hC => J_X8_appendCharacter htr hX hC l1 σ)
/-! X8_checkFunction -/
set_option maxRecDepth 20000 in
set_option maxHeartbeats 2000000 in
theorem J_X8_checkFunction {X : cv_X} {G : cv_G} {LL : Launch} (htr : LL.stackTraces = false) (hX : cv_CX X G) (hC : cv_C X G LL RX8 cX8_checkFunction 2 none { frames := 6, cells := 1, slots := 6, locals := 90 }) (l1 : Int32) (σ : cv_St) : cv_J X G 2 0 0 (cv_QXV X G 1 6) 0 [(0, .ref (G.1 0)), (1, .int l1)] [] σ (F_X8_checkFunction l1 σ) := by
  unfold F_X8_checkFunction
  refine cv_iload_n hC 1 dX8_checkFunction_0 rfl rfl ?_
  refine cv_if_lt (tgt := 10) hC dX8_checkFunction_1 (by decide) ?_ ?_
  · exact cv_throwVSW hX hC 1 tw_1_283 ⟨Nat.le_of_ble_eq_true rfl, Nat.le_of_ble_eq_true rfl⟩ ⟨Nat.le_of_ble_eq_true rfl, Nat.le_of_ble_eq_true rfl⟩ ⟨Nat.le_of_ble_eq_true rfl, Nat.le_of_ble_eq_true rfl⟩ dX8_checkFunction_10 dX8_checkFunction_13 dX8_checkFunction_14 dX8_checkFunction_17 dX8_checkFunction_20
  · refine cv_iload_n hC 1 dX8_checkFunction_4 rfl rfl ?_
    refine cv_bipush (v := 8) hC dX8_checkFunction_5 cb_bipush_8 ?_
    refine cv_icmp_lt (tgt := 21) hC dX8_checkFunction_7 (by decide) ?_ ?_
    · exact cv_xvret hC ⟨Nat.le_of_ble_eq_true rfl, Nat.le_of_ble_eq_true rfl⟩ dX8_checkFunction_21
    · exact cv_throwVSW hX hC 1 tw_1_283 ⟨Nat.le_of_ble_eq_true rfl, Nat.le_of_ble_eq_true rfl⟩ ⟨Nat.le_of_ble_eq_true rfl, Nat.le_of_ble_eq_true rfl⟩ ⟨Nat.le_of_ble_eq_true rfl, Nat.le_of_ble_eq_true rfl⟩ dX8_checkFunction_10 dX8_checkFunction_13 dX8_checkFunction_14 dX8_checkFunction_17 dX8_checkFunction_20
set_option maxRecDepth 20000 in
set_option maxHeartbeats 2000000 in
theorem M_X8_checkFunction {LL : Launch} (htr : LL.stackTraces = false) (G : cv_G) (l1 : Int32) (σ : cv_St) : cv_MXV LL G yX8_checkFunction cX8_checkFunction 2 6 90 1 6 [.ref (G.1 0), .int l1] σ (F_X8_checkFunction l1 σ) :=
  cv_mkXV htr (by decide) (Nat.le_of_ble_eq_true rfl) (fun X hX hC => J_X8_checkFunction htr hX hC l1 σ)
/-! X8_setBody -/
set_option maxRecDepth 20000 in
set_option maxHeartbeats 2000000 in
theorem J_X8_setBody {X : cv_X} {G : cv_G} {LL : Launch} (htr : LL.stackTraces = false) (hX : cv_CX X G) (hC : cv_C X G LL RX8 cX8_setBody 2 (some .int) { frames := 7, cells := 2, slots := 12, locals := 111 }) (l1 : Int32) (σ : cv_St) : cv_J X G 2 0 0 (cv_QXI X G 2 12) 0 [(0, .ref (G.1 0)), (1, .int l1)] [] σ (F_X8_setBody l1 σ) := by
  unfold F_X8_setBody
  refine cv_aload_n hC 0 dX8_setBody_0 rfl rfl ?_
  refine cv_iload_n hC 1 dX8_setBody_1 rfl rfl ?_
  refine cv_callXVI (ob := 0) hX hC [.int l1] [] (M_X8_checkFunction htr G l1 σ) ln_X8_104 vm_X8_checkFunction (ob_0 G) rfl rfl (Nat.le_of_ble_eq_true rfl) ⟨Nat.le_of_ble_eq_true rfl, Nat.le_of_ble_eq_true rfl⟩ ⟨Nat.le_of_ble_eq_true rfl, Nat.le_of_ble_eq_true rfl⟩ ⟨Nat.le_of_ble_eq_true rfl, Nat.le_of_ble_eq_true rfl⟩ dX8_setBody_2 (fun s1 => ?_)
  refine cv_aload_n hC 0 dX8_setBody_5 rfl rfl ?_
  refine cv_getr hC (fg_X8_12_0 G) dX8_setBody_6 ?_
  refine cv_callVv (ob := 1) hC [] [] (M_X6_read LL G s1) ln_X8_108 vm_X6_read (ob_1 G) rfl rfl (Nat.le_of_ble_eq_true rfl) ⟨Nat.le_of_ble_eq_true rfl, Nat.le_of_ble_eq_true rfl⟩ ⟨Nat.le_of_ble_eq_true rfl, Nat.le_of_ble_eq_true rfl⟩ dX8_setBody_9 (fun s2 => ?_)
  refine cv_aload_n hC 0 dX8_setBody_12 rfl rfl ?_
  refine cv_getr hC (fg_X8_12_0 G) dX8_setBody_13 ?_
  refine cv_geti hC (fg_X8_111_1 G) dX8_setBody_16 ?_
  refine cv_iconst (v := (-1)) hC dX8_setBody_19 cb_iconst_m1 ?_
  refine cv_icmp_eq (tgt := 33) hC dX8_setBody_20 (by decide) ?_ ?_
  · refine cv_aload_n hC 0 dX8_setBody_33 rfl rfl ?_
    refine cv_getr hC (fg_X8_12_0 G) dX8_setBody_34 ?_
    refine cv_geti hC (fg_X8_116_1 G) dX8_setBody_37 ?_
    refine cv_bipush (v := 14) hC dX8_setBody_40 cb_bipush_14 ?_
    refine cv_icmp_le (tgt := 55) hC dX8_setBody_42 (by decide) ?_ ?_
    · refine cv_aload_n hC 0 dX8_setBody_55 rfl rfl ?_
      refine cv_getr hC (fg_X8_19_0 G) dX8_setBody_56 ?_
      refine cv_iload_n hC 1 dX8_setBody_59 rfl rfl ?_
      refine cv_aload_n hC 0 dX8_setBody_60 rfl rfl ?_
      refine cv_getr hC (fg_X8_12_0 G) dX8_setBody_61 ?_
      refine cv_callVv (ob := 2) hC [.int l1, .ref (G.1 1)] [] (M_X0_take_2_1 LL G l1 s2) ln_X8_121 vm_X0_take (ob_2 G) rfl rfl (Nat.le_of_ble_eq_true rfl) ⟨Nat.le_of_ble_eq_true rfl, Nat.le_of_ble_eq_true rfl⟩ ⟨Nat.le_of_ble_eq_true rfl, Nat.le_of_ble_eq_true rfl⟩ dX8_setBody_64 (fun s3 => ?_)
      refine cv_aload_n hC 0 dX8_setBody_67 rfl rfl ?_
      refine cv_callVv (ob := 0) hC [] [] (M_X8_forgetFacts LL G s3) ln_X8_125 vm_X8_forgetFacts (ob_0 G) rfl rfl (Nat.le_of_ble_eq_true rfl) ⟨Nat.le_of_ble_eq_true rfl, Nat.le_of_ble_eq_true rfl⟩ ⟨Nat.le_of_ble_eq_true rfl, Nat.le_of_ble_eq_true rfl⟩ dX8_setBody_68 (fun s4 => ?_)
      refine cv_aload_n hC 0 dX8_setBody_71 rfl rfl ?_
      refine cv_getr hC (fg_X8_19_0 G) dX8_setBody_72 ?_
      refine cv_getr hC (fg_X8_128_2 G) dX8_setBody_75 ?_
      refine cv_iload_n hC 1 dX8_setBody_78 rfl rfl ?_
      refine cv_iald hC (cv_a14 G) dX8_setBody_79 (fun v5 => ?_)
      exact cv_xiret hC ⟨Nat.le_of_ble_eq_true rfl, Nat.le_of_ble_eq_true rfl⟩ dX8_setBody_80
    · exact cv_throwIS hX hC 3 tw_3_119 ⟨Nat.le_of_ble_eq_true rfl, Nat.le_of_ble_eq_true rfl⟩ ⟨Nat.le_of_ble_eq_true rfl, Nat.le_of_ble_eq_true rfl⟩ ⟨Nat.le_of_ble_eq_true rfl, Nat.le_of_ble_eq_true rfl⟩ dX8_setBody_45 dX8_setBody_48 dX8_setBody_49 dX8_setBody_51 dX8_setBody_54
  · exact cv_throwIS hX hC 2 tw_2_114 ⟨Nat.le_of_ble_eq_true rfl, Nat.le_of_ble_eq_true rfl⟩ ⟨Nat.le_of_ble_eq_true rfl, Nat.le_of_ble_eq_true rfl⟩ ⟨Nat.le_of_ble_eq_true rfl, Nat.le_of_ble_eq_true rfl⟩ dX8_setBody_23 dX8_setBody_26 dX8_setBody_27 dX8_setBody_29 dX8_setBody_32
set_option maxRecDepth 20000 in
set_option maxHeartbeats 2000000 in
theorem M_X8_setBody {LL : Launch} (htr : LL.stackTraces = false) (G : cv_G) (l1 : Int32) (σ : cv_St) : cv_MXI LL G yX8_setBody cX8_setBody 2 (some .int) 7 111 2 12 [.ref (G.1 0), .int l1] σ (F_X8_setBody l1 σ) :=
  cv_mkXI htr (by decide) (Nat.le_of_ble_eq_true rfl) (fun X hX hC => J_X8_setBody htr hX hC l1 σ)
/-! X8_length -/
set_option maxRecDepth 20000 in
set_option maxHeartbeats 2000000 in
theorem J_X8_length {X : cv_X} {G : cv_G} {LL : Launch} (htr : LL.stackTraces = false) (hX : cv_CX X G) (hC : cv_C X G LL RX8 cX8_length 2 (some .int) { frames := 7, cells := 1, slots := 6, locals := 111 }) (l1 : Int32) (σ : cv_St) : cv_J X G 2 0 0 (cv_QXI X G 1 6) 0 [(0, .ref (G.1 0)), (1, .int l1)] [] σ (F_X8_length l1 σ) := by
  unfold F_X8_length
  refine cv_aload_n hC 0 dX8_length_0 rfl rfl ?_
  refine cv_iload_n hC 1 dX8_length_1 rfl rfl ?_
  refine cv_callXVI (ob := 0) hX hC [.int l1] [] (M_X8_checkFunction htr G l1 σ) ln_X8_104 vm_X8_checkFunction (ob_0 G) rfl rfl (Nat.le_of_ble_eq_true rfl) ⟨Nat.le_of_ble_eq_true rfl, Nat.le_of_ble_eq_true rfl⟩ ⟨Nat.le_of_ble_eq_true rfl, Nat.le_of_ble_eq_true rfl⟩ ⟨Nat.le_of_ble_eq_true rfl, Nat.le_of_ble_eq_true rfl⟩ dX8_length_2 (fun s1 => ?_)
  refine cv_aload_n hC 0 dX8_length_5 rfl rfl ?_
  refine cv_getr hC (fg_X8_19_0 G) dX8_length_6 ?_
  refine cv_getr hC (fg_X8_128_2 G) dX8_length_9 ?_
  refine cv_iload_n hC 1 dX8_length_12 rfl rfl ?_
  refine cv_iald hC (cv_a14 G) dX8_length_13 (fun v2 => ?_)
  exact cv_xiret hC ⟨Nat.le_of_ble_eq_true rfl, Nat.le_of_ble_eq_true rfl⟩ dX8_length_14
set_option maxRecDepth 20000 in
set_option maxHeartbeats 2000000 in
theorem M_X8_length {LL : Launch} (htr : LL.stackTraces = false) (G : cv_G) (l1 : Int32) (σ : cv_St) : cv_MXI LL G yX8_length cX8_length 2 (some .int) 7 111 1 6 [.ref (G.1 0), .int l1] σ (F_X8_length l1 σ) :=
  cv_mkXI htr (by decide) (Nat.le_of_ble_eq_true rfl) (fun X hX hC => J_X8_length htr hX hC l1 σ)
/-! X8_checkInstruction -/
set_option maxRecDepth 20000 in
set_option maxHeartbeats 2000000 in
theorem J_X8_checkInstruction {X : cv_X} {G : cv_G} {LL : Launch} (htr : LL.stackTraces = false) (hX : cv_CX X G) (hC : cv_C X G LL RX8 cX8_checkInstruction 3 none { frames := 7, cells := 2, slots := 12, locals := 111 }) (l1 : Int32) (l2 : Int32) (σ : cv_St) : cv_J X G 3 0 0 (cv_QXV X G 2 12) 0 [(0, .ref (G.1 0)), (1, .int l1), (2, .int l2)] [] σ (F_X8_checkInstruction l1 l2 σ) := by
  unfold F_X8_checkInstruction
  refine cv_aload_n hC 0 dX8_checkInstruction_0 rfl rfl ?_
  refine cv_iload_n hC 1 dX8_checkInstruction_1 rfl rfl ?_
  refine cv_callXVV (ob := 0) hX hC [.int l1] [] (M_X8_checkFunction htr G l1 σ) ln_X8_104 vm_X8_checkFunction (ob_0 G) rfl rfl (Nat.le_of_ble_eq_true rfl) ⟨Nat.le_of_ble_eq_true rfl, Nat.le_of_ble_eq_true rfl⟩ ⟨Nat.le_of_ble_eq_true rfl, Nat.le_of_ble_eq_true rfl⟩ ⟨Nat.le_of_ble_eq_true rfl, Nat.le_of_ble_eq_true rfl⟩ dX8_checkInstruction_2 (fun s1 => ?_)
  refine cv_iload_n hC 2 dX8_checkInstruction_5 rfl rfl ?_
  refine cv_if_lt (tgt := 22) hC dX8_checkInstruction_6 (by decide) ?_ ?_
  · exact cv_throwVSW hX hC 1 tw_1_286 ⟨Nat.le_of_ble_eq_true rfl, Nat.le_of_ble_eq_true rfl⟩ ⟨Nat.le_of_ble_eq_true rfl, Nat.le_of_ble_eq_true rfl⟩ ⟨Nat.le_of_ble_eq_true rfl, Nat.le_of_ble_eq_true rfl⟩ dX8_checkInstruction_22 dX8_checkInstruction_25 dX8_checkInstruction_26 dX8_checkInstruction_29 dX8_checkInstruction_32
  · refine cv_iload_n hC 2 dX8_checkInstruction_9 rfl rfl ?_
    refine cv_aload_n hC 0 dX8_checkInstruction_10 rfl rfl ?_
    refine cv_getr hC (fg_X8_19_0 G) dX8_checkInstruction_11 ?_
    refine cv_getr hC (fg_X8_128_2 G) dX8_checkInstruction_14 ?_
    refine cv_iload_n hC 1 dX8_checkInstruction_17 rfl rfl ?_
    refine cv_iald hC (cv_a14 G) dX8_checkInstruction_18 (fun v2 => ?_)
    refine cv_icmp_lt (tgt := 33) hC dX8_checkInstruction_19 (by decide) ?_ ?_
    · exact cv_xvret hC ⟨Nat.le_of_ble_eq_true rfl, Nat.le_of_ble_eq_true rfl⟩ dX8_checkInstruction_33
    · exact cv_throwVSW hX hC 1 tw_1_286 ⟨Nat.le_of_ble_eq_true rfl, Nat.le_of_ble_eq_true rfl⟩ ⟨Nat.le_of_ble_eq_true rfl, Nat.le_of_ble_eq_true rfl⟩ ⟨Nat.le_of_ble_eq_true rfl, Nat.le_of_ble_eq_true rfl⟩ dX8_checkInstruction_22 dX8_checkInstruction_25 dX8_checkInstruction_26 dX8_checkInstruction_29 dX8_checkInstruction_32
set_option maxRecDepth 20000 in
set_option maxHeartbeats 2000000 in
theorem M_X8_checkInstruction {LL : Launch} (htr : LL.stackTraces = false) (G : cv_G) (l1 : Int32) (l2 : Int32) (σ : cv_St) : cv_MXV LL G yX8_checkInstruction cX8_checkInstruction 3 7 111 2 12 [.ref (G.1 0), .int l1, .int l2] σ (F_X8_checkInstruction l1 l2 σ) :=
  cv_mkXV htr (by decide) (Nat.le_of_ble_eq_true rfl) (fun X hX hC => J_X8_checkInstruction htr hX hC l1 l2 σ)
/-! X8_instruction -/
set_option maxRecDepth 20000 in
set_option maxHeartbeats 2000000 in
theorem J_X8_instruction {X : cv_X} {G : cv_G} {LL : Launch} (htr : LL.stackTraces = false) (hX : cv_CX X G) (hC : cv_C X G LL RX8 cX8_instruction 3 (some .char) { frames := 8, cells := 2, slots := 12, locals := 133 }) (l1 : Int32) (l2 : Int32) (σ : cv_St) : cv_J X G 3 0 0 (cv_QXI X G 2 12) 0 [(0, .ref (G.1 0)), (1, .int l1), (2, .int l2)] [] σ (F_X8_instruction l1 l2 σ) := by
  unfold F_X8_instruction
  refine cv_aload_n hC 0 dX8_instruction_0 rfl rfl ?_
  refine cv_iload_n hC 1 dX8_instruction_1 rfl rfl ?_
  refine cv_iload_n hC 2 dX8_instruction_2 rfl rfl ?_
  refine cv_callXVI (ob := 0) hX hC [.int l1, .int l2] [] (M_X8_checkInstruction htr G l1 l2 σ) ln_X8_132 vm_X8_checkInstruction (ob_0 G) rfl rfl (Nat.le_of_ble_eq_true rfl) ⟨Nat.le_of_ble_eq_true rfl, Nat.le_of_ble_eq_true rfl⟩ ⟨Nat.le_of_ble_eq_true rfl, Nat.le_of_ble_eq_true rfl⟩ ⟨Nat.le_of_ble_eq_true rfl, Nat.le_of_ble_eq_true rfl⟩ dX8_instruction_3 (fun s1 => ?_)
  refine cv_aload_n hC 0 dX8_instruction_6 rfl rfl ?_
  refine cv_getr hC (fg_X8_19_0 G) dX8_instruction_7 ?_
  refine cv_iload_n hC 1 dX8_instruction_10 rfl rfl ?_
  refine cv_iload_n hC 2 dX8_instruction_11 rfl rfl ?_
  refine cv_callVi (ob := 2) hC [.int l1, .int l2] [] (M_X0_kindAt LL G l1 l2 s1) ln_X8_136 vm_X0_kindAt (ob_2 G) rfl rfl (Nat.le_of_ble_eq_true rfl) ⟨Nat.le_of_ble_eq_true rfl, Nat.le_of_ble_eq_true rfl⟩ ⟨Nat.le_of_ble_eq_true rfl, Nat.le_of_ble_eq_true rfl⟩ dX8_instruction_12 (fun v3 s2 => ?_)
  exact cv_xcret hC ⟨Nat.le_of_ble_eq_true rfl, Nat.le_of_ble_eq_true rfl⟩ dX8_instruction_15
set_option maxRecDepth 20000 in
set_option maxHeartbeats 2000000 in
theorem M_X8_instruction {LL : Launch} (htr : LL.stackTraces = false) (G : cv_G) (l1 : Int32) (l2 : Int32) (σ : cv_St) : cv_MXI LL G yX8_instruction cX8_instruction 3 (some .char) 8 133 2 12 [.ref (G.1 0), .int l1, .int l2] σ (F_X8_instruction l1 l2 σ) :=
  cv_mkXI htr (by decide) (Nat.le_of_ble_eq_true rfl) (fun X hX hC => J_X8_instruction htr hX hC l1 l2 σ)
/-! X8_operand -/
set_option maxRecDepth 20000 in
set_option maxHeartbeats 2000000 in
theorem J_X8_operand {X : cv_X} {G : cv_G} {LL : Launch} (htr : LL.stackTraces = false) (hX : cv_CX X G) (hC : cv_C X G LL RX8 cX8_operand 3 (some .int) { frames := 8, cells := 3, slots := 18, locals := 133 }) (l1 : Int32) (l2 : Int32) (σ : cv_St) : cv_J X G 3 0 0 (cv_QXI X G 3 18) 0 [(0, .ref (G.1 0)), (1, .int l1), (2, .int l2)] [] σ (F_X8_operand l1 l2 σ) := by
  unfold F_X8_operand
  refine cv_aload_n hC 0 dX8_operand_0 rfl rfl ?_
  refine cv_iload_n hC 1 dX8_operand_1 rfl rfl ?_
  refine cv_iload_n hC 2 dX8_operand_2 rfl rfl ?_
  refine cv_callXVI (ob := 0) hX hC [.int l1, .int l2] [] (M_X8_checkInstruction htr G l1 l2 σ) ln_X8_132 vm_X8_checkInstruction (ob_0 G) rfl rfl (Nat.le_of_ble_eq_true rfl) ⟨Nat.le_of_ble_eq_true rfl, Nat.le_of_ble_eq_true rfl⟩ ⟨Nat.le_of_ble_eq_true rfl, Nat.le_of_ble_eq_true rfl⟩ ⟨Nat.le_of_ble_eq_true rfl, Nat.le_of_ble_eq_true rfl⟩ dX8_operand_3 (fun s1 => ?_)
  refine cv_aload_n hC 0 dX8_operand_6 rfl rfl ?_
  refine cv_getr hC (fg_X8_19_0 G) dX8_operand_7 ?_
  refine cv_iload_n hC 1 dX8_operand_10 rfl rfl ?_
  refine cv_iload_n hC 2 dX8_operand_11 rfl rfl ?_
  refine cv_callVi (ob := 2) hC [.int l1, .int l2] [] (M_X0_kindAt LL G l1 l2 s1) ln_X8_136 vm_X0_kindAt (ob_2 G) rfl rfl (Nat.le_of_ble_eq_true rfl) ⟨Nat.le_of_ble_eq_true rfl, Nat.le_of_ble_eq_true rfl⟩ ⟨Nat.le_of_ble_eq_true rfl, Nat.le_of_ble_eq_true rfl⟩ dX8_operand_12 (fun v3 s2 => ?_)
  refine cv_bipush (v := 114) hC dX8_operand_15 cb_bipush_114 ?_
  refine cv_icmp_ne (tgt := 30) hC dX8_operand_17 (by decide) ?_ ?_
  · refine cv_aload_n hC 0 dX8_operand_30 rfl rfl ?_
    refine cv_getr hC (fg_X8_19_0 G) dX8_operand_31 ?_
    refine cv_iload_n hC 1 dX8_operand_34 rfl rfl ?_
    refine cv_iload_n hC 2 dX8_operand_35 rfl rfl ?_
    refine cv_callVi (ob := 2) hC [.int l1, .int l2] [] (M_X0_numberAt LL G l1 l2 s2) ln_X8_145 vm_X0_numberAt (ob_2 G) rfl rfl (Nat.le_of_ble_eq_true rfl) ⟨Nat.le_of_ble_eq_true rfl, Nat.le_of_ble_eq_true rfl⟩ ⟨Nat.le_of_ble_eq_true rfl, Nat.le_of_ble_eq_true rfl⟩ dX8_operand_36 (fun v5 s4 => ?_)
    exact cv_xiret hC ⟨Nat.le_of_ble_eq_true rfl, Nat.le_of_ble_eq_true rfl⟩ dX8_operand_39
  · exact cv_throwIS hX hC 4 tw_4_142 ⟨Nat.le_of_ble_eq_true rfl, Nat.le_of_ble_eq_true rfl⟩ ⟨Nat.le_of_ble_eq_true rfl, Nat.le_of_ble_eq_true rfl⟩ ⟨Nat.le_of_ble_eq_true rfl, Nat.le_of_ble_eq_true rfl⟩ dX8_operand_20 dX8_operand_23 dX8_operand_24 dX8_operand_26 dX8_operand_29
set_option maxRecDepth 20000 in
set_option maxHeartbeats 2000000 in
theorem M_X8_operand {LL : Launch} (htr : LL.stackTraces = false) (G : cv_G) (l1 : Int32) (l2 : Int32) (σ : cv_St) : cv_MXI LL G yX8_operand cX8_operand 3 (some .int) 8 133 3 18 [.ref (G.1 0), .int l1, .int l2] σ (F_X8_operand l1 l2 σ) :=
  cv_mkXI htr (by decide) (Nat.le_of_ble_eq_true rfl) (fun X hX hC => J_X8_operand htr hX hC l1 l2 σ)
/-! X8_removeInstruction -/
set_option maxRecDepth 20000 in
set_option maxHeartbeats 2000000 in
theorem J_X8_removeInstruction {X : cv_X} {G : cv_G} {LL : Launch} (htr : LL.stackTraces = false) (hX : cv_CX X G) (hC : cv_C X G LL RX8 cX8_removeInstruction 3 (some .int) { frames := 8, cells := 2, slots := 12, locals := 133 }) (l1 : Int32) (l2 : Int32) (σ : cv_St) : cv_J X G 3 0 0 (cv_QXI X G 2 12) 0 [(0, .ref (G.1 0)), (1, .int l1), (2, .int l2)] [] σ (F_X8_removeInstruction l1 l2 σ) := by
  unfold F_X8_removeInstruction
  refine cv_aload_n hC 0 dX8_removeInstruction_0 rfl rfl ?_
  refine cv_iload_n hC 1 dX8_removeInstruction_1 rfl rfl ?_
  refine cv_iload_n hC 2 dX8_removeInstruction_2 rfl rfl ?_
  refine cv_callXVI (ob := 0) hX hC [.int l1, .int l2] [] (M_X8_checkInstruction htr G l1 l2 σ) ln_X8_132 vm_X8_checkInstruction (ob_0 G) rfl rfl (Nat.le_of_ble_eq_true rfl) ⟨Nat.le_of_ble_eq_true rfl, Nat.le_of_ble_eq_true rfl⟩ ⟨Nat.le_of_ble_eq_true rfl, Nat.le_of_ble_eq_true rfl⟩ ⟨Nat.le_of_ble_eq_true rfl, Nat.le_of_ble_eq_true rfl⟩ dX8_removeInstruction_3 (fun s1 => ?_)
  refine cv_aload_n hC 0 dX8_removeInstruction_6 rfl rfl ?_
  refine cv_getr hC (fg_X8_19_0 G) dX8_removeInstruction_7 ?_
  refine cv_iload_n hC 1 dX8_removeInstruction_10 rfl rfl ?_
  refine cv_iload_n hC 2 dX8_removeInstruction_11 rfl rfl ?_
  refine cv_callVv (ob := 2) hC [.int l1, .int l2] [] (M_X0_drop LL G l1 l2 s1) ln_X8_149 vm_X0_drop (ob_2 G) rfl rfl (Nat.le_of_ble_eq_true rfl) ⟨Nat.le_of_ble_eq_true rfl, Nat.le_of_ble_eq_true rfl⟩ ⟨Nat.le_of_ble_eq_true rfl, Nat.le_of_ble_eq_true rfl⟩ dX8_removeInstruction_12 (fun s2 => ?_)
  refine cv_aload_n hC 0 dX8_removeInstruction_15 rfl rfl ?_
  refine cv_callVv (ob := 0) hC [] [] (M_X8_forgetFacts LL G s2) ln_X8_125 vm_X8_forgetFacts (ob_0 G) rfl rfl (Nat.le_of_ble_eq_true rfl) ⟨Nat.le_of_ble_eq_true rfl, Nat.le_of_ble_eq_true rfl⟩ ⟨Nat.le_of_ble_eq_true rfl, Nat.le_of_ble_eq_true rfl⟩ dX8_removeInstruction_16 (fun s3 => ?_)
  refine cv_aload_n hC 0 dX8_removeInstruction_19 rfl rfl ?_
  refine cv_getr hC (fg_X8_19_0 G) dX8_removeInstruction_20 ?_
  refine cv_getr hC (fg_X8_128_2 G) dX8_removeInstruction_23 ?_
  refine cv_iload_n hC 1 dX8_removeInstruction_26 rfl rfl ?_
  refine cv_iald hC (cv_a14 G) dX8_removeInstruction_27 (fun v4 => ?_)
  exact cv_xiret hC ⟨Nat.le_of_ble_eq_true rfl, Nat.le_of_ble_eq_true rfl⟩ dX8_removeInstruction_28
set_option maxRecDepth 20000 in
set_option maxHeartbeats 2000000 in
theorem M_X8_removeInstruction {LL : Launch} (htr : LL.stackTraces = false) (G : cv_G) (l1 : Int32) (l2 : Int32) (σ : cv_St) : cv_MXI LL G yX8_removeInstruction cX8_removeInstruction 3 (some .int) 8 133 2 12 [.ref (G.1 0), .int l1, .int l2] σ (F_X8_removeInstruction l1 l2 σ) :=
  cv_mkXI htr (by decide) (Nat.le_of_ble_eq_true rfl) (fun X hX hC => J_X8_removeInstruction htr hX hC l1 l2 σ)
/-! X8_isReachable -/
set_option maxRecDepth 20000 in
set_option maxHeartbeats 2000000 in
theorem J_X8_isReachable {X : cv_X} {G : cv_G} {LL : Launch} (htr : LL.stackTraces = false) (hX : cv_CX X G) (hC : cv_C X G LL RX8 cX8_isReachable 3 (some .boolean) { frames := 8, cells := 2, slots := 12, locals := 137 }) (l1 : Int32) (l2 : Int32) (σ : cv_St) : cv_J X G 3 0 0 (cv_QXI X G 2 12) 0 [(0, .ref (G.1 0)), (1, .int l1), (2, .int l2)] [] σ (F_X8_isReachable l1 l2 σ) := by
  unfold F_X8_isReachable
  refine cv_aload_n hC 0 dX8_isReachable_0 rfl rfl ?_
  refine cv_iload_n hC 1 dX8_isReachable_1 rfl rfl ?_
  refine cv_iload_n hC 2 dX8_isReachable_2 rfl rfl ?_
  refine cv_callXVI (ob := 0) hX hC [.int l1, .int l2] [] (M_X8_checkInstruction htr G l1 l2 σ) ln_X8_132 vm_X8_checkInstruction (ob_0 G) rfl rfl (Nat.le_of_ble_eq_true rfl) ⟨Nat.le_of_ble_eq_true rfl, Nat.le_of_ble_eq_true rfl⟩ ⟨Nat.le_of_ble_eq_true rfl, Nat.le_of_ble_eq_true rfl⟩ ⟨Nat.le_of_ble_eq_true rfl, Nat.le_of_ble_eq_true rfl⟩ dX8_isReachable_3 (fun s1 => ?_)
  refine cv_aload_n hC 0 dX8_isReachable_6 rfl rfl ?_
  refine cv_callVv (ob := 0) hC [] [] (M_X8_inferFacts LL G s1) ln_X8_152 vm_X8_inferFacts (ob_0 G) rfl rfl (Nat.le_of_ble_eq_true rfl) ⟨Nat.le_of_ble_eq_true rfl, Nat.le_of_ble_eq_true rfl⟩ ⟨Nat.le_of_ble_eq_true rfl, Nat.le_of_ble_eq_true rfl⟩ dX8_isReachable_7 (fun s2 => ?_)
  refine cv_aload_n hC 0 dX8_isReachable_10 rfl rfl ?_
  refine cv_getr hC (fg_X8_31_0 G) dX8_isReachable_11 ?_
  refine cv_iload_n hC 1 dX8_isReachable_14 rfl rfl ?_
  refine cv_iload_n hC 2 dX8_isReachable_15 rfl rfl ?_
  refine cv_callVi (ob := 4) hC [.int l1, .int l2] [] (M_X2_reaches LL G l1 l2 s2) ln_X8_155 vm_X2_reaches (ob_4 G) rfl rfl (Nat.le_of_ble_eq_true rfl) ⟨Nat.le_of_ble_eq_true rfl, Nat.le_of_ble_eq_true rfl⟩ ⟨Nat.le_of_ble_eq_true rfl, Nat.le_of_ble_eq_true rfl⟩ dX8_isReachable_16 (fun v4 s3 => ?_)
  exact cv_xzret hC ⟨Nat.le_of_ble_eq_true rfl, Nat.le_of_ble_eq_true rfl⟩ dX8_isReachable_19
set_option maxRecDepth 20000 in
set_option maxHeartbeats 2000000 in
theorem M_X8_isReachable {LL : Launch} (htr : LL.stackTraces = false) (G : cv_G) (l1 : Int32) (l2 : Int32) (σ : cv_St) : cv_MXI LL G yX8_isReachable cX8_isReachable 3 (some .boolean) 8 137 2 12 [.ref (G.1 0), .int l1, .int l2] σ (F_X8_isReachable l1 l2 σ) :=
  cv_mkXI htr (by decide) (Nat.le_of_ble_eq_true rfl) (fun X hX hC => J_X8_isReachable htr hX hC l1 l2 σ)
/-! X8_isBalanced -/
set_option maxRecDepth 20000 in
set_option maxHeartbeats 2000000 in
theorem J_X8_isBalanced {X : cv_X} {G : cv_G} {LL : Launch} (htr : LL.stackTraces = false) (hX : cv_CX X G) (hC : cv_C X G LL RX8 cX8_isBalanced 2 (some .boolean) { frames := 7, cells := 1, slots := 6, locals := 137 }) (l1 : Int32) (σ : cv_St) : cv_J X G 2 0 0 (cv_QXI X G 1 6) 0 [(0, .ref (G.1 0)), (1, .int l1)] [] σ (F_X8_isBalanced l1 σ) := by
  unfold F_X8_isBalanced
  refine cv_aload_n hC 0 dX8_isBalanced_0 rfl rfl ?_
  refine cv_iload_n hC 1 dX8_isBalanced_1 rfl rfl ?_
  refine cv_callXVI (ob := 0) hX hC [.int l1] [] (M_X8_checkFunction htr G l1 σ) ln_X8_104 vm_X8_checkFunction (ob_0 G) rfl rfl (Nat.le_of_ble_eq_true rfl) ⟨Nat.le_of_ble_eq_true rfl, Nat.le_of_ble_eq_true rfl⟩ ⟨Nat.le_of_ble_eq_true rfl, Nat.le_of_ble_eq_true rfl⟩ ⟨Nat.le_of_ble_eq_true rfl, Nat.le_of_ble_eq_true rfl⟩ dX8_isBalanced_2 (fun s1 => ?_)
  refine cv_aload_n hC 0 dX8_isBalanced_5 rfl rfl ?_
  refine cv_callVv (ob := 0) hC [] [] (M_X8_inferFacts LL G s1) ln_X8_152 vm_X8_inferFacts (ob_0 G) rfl rfl (Nat.le_of_ble_eq_true rfl) ⟨Nat.le_of_ble_eq_true rfl, Nat.le_of_ble_eq_true rfl⟩ ⟨Nat.le_of_ble_eq_true rfl, Nat.le_of_ble_eq_true rfl⟩ dX8_isBalanced_6 (fun s2 => ?_)
  refine cv_aload_n hC 0 dX8_isBalanced_9 rfl rfl ?_
  refine cv_getr hC (fg_X8_40_0 G) dX8_isBalanced_10 ?_
  refine cv_getr hC (fg_X8_159_5 G) dX8_isBalanced_13 ?_
  refine cv_iload_n hC 1 dX8_isBalanced_16 rfl rfl ?_
  refine cv_zald hC (cv_a22 G) dX8_isBalanced_17 (fun v3 => ?_)
  exact cv_xzret hC ⟨Nat.le_of_ble_eq_true rfl, Nat.le_of_ble_eq_true rfl⟩ dX8_isBalanced_18
set_option maxRecDepth 20000 in
set_option maxHeartbeats 2000000 in
theorem M_X8_isBalanced {LL : Launch} (htr : LL.stackTraces = false) (G : cv_G) (l1 : Int32) (σ : cv_St) : cv_MXI LL G yX8_isBalanced cX8_isBalanced 2 (some .boolean) 7 137 1 6 [.ref (G.1 0), .int l1] σ (F_X8_isBalanced l1 σ) :=
  cv_mkXI htr (by decide) (Nat.le_of_ble_eq_true rfl) (fun X hX hC => J_X8_isBalanced htr hX hC l1 σ)
/-! X8_preserved -/
set_option maxRecDepth 20000 in
set_option maxHeartbeats 2000000 in
theorem J_X8_preserved {X : cv_X} {G : cv_G} {LL : Launch} (htr : LL.stackTraces = false) (hX : cv_CX X G) (hC : cv_C X G LL RX8 cX8_preserved 2 (some .int) { frames := 7, cells := 1, slots := 6, locals := 137 }) (l1 : Int32) (σ : cv_St) : cv_J X G 2 0 0 (cv_QXI X G 1 6) 0 [(0, .ref (G.1 0)), (1, .int l1)] [] σ (F_X8_preserved l1 σ) := by
  unfold F_X8_preserved
  refine cv_aload_n hC 0 dX8_preserved_0 rfl rfl ?_
  refine cv_iload_n hC 1 dX8_preserved_1 rfl rfl ?_
  refine cv_callXVI (ob := 0) hX hC [.int l1] [] (M_X8_checkFunction htr G l1 σ) ln_X8_104 vm_X8_checkFunction (ob_0 G) rfl rfl (Nat.le_of_ble_eq_true rfl) ⟨Nat.le_of_ble_eq_true rfl, Nat.le_of_ble_eq_true rfl⟩ ⟨Nat.le_of_ble_eq_true rfl, Nat.le_of_ble_eq_true rfl⟩ ⟨Nat.le_of_ble_eq_true rfl, Nat.le_of_ble_eq_true rfl⟩ dX8_preserved_2 (fun s1 => ?_)
  refine cv_aload_n hC 0 dX8_preserved_5 rfl rfl ?_
  refine cv_callVv (ob := 0) hC [] [] (M_X8_inferFacts LL G s1) ln_X8_152 vm_X8_inferFacts (ob_0 G) rfl rfl (Nat.le_of_ble_eq_true rfl) ⟨Nat.le_of_ble_eq_true rfl, Nat.le_of_ble_eq_true rfl⟩ ⟨Nat.le_of_ble_eq_true rfl, Nat.le_of_ble_eq_true rfl⟩ dX8_preserved_6 (fun s2 => ?_)
  refine cv_aload_n hC 0 dX8_preserved_9 rfl rfl ?_
  refine cv_getr hC (fg_X8_40_0 G) dX8_preserved_10 ?_
  refine cv_getr hC (fg_X8_163_5 G) dX8_preserved_13 ?_
  refine cv_iload_n hC 1 dX8_preserved_16 rfl rfl ?_
  refine cv_iald hC (cv_a23 G) dX8_preserved_17 (fun v3 => ?_)
  exact cv_xiret hC ⟨Nat.le_of_ble_eq_true rfl, Nat.le_of_ble_eq_true rfl⟩ dX8_preserved_18
set_option maxRecDepth 20000 in
set_option maxHeartbeats 2000000 in
theorem M_X8_preserved {LL : Launch} (htr : LL.stackTraces = false) (G : cv_G) (l1 : Int32) (σ : cv_St) : cv_MXI LL G yX8_preserved cX8_preserved 2 (some .int) 7 137 1 6 [.ref (G.1 0), .int l1] σ (F_X8_preserved l1 σ) :=
  cv_mkXI htr (by decide) (Nat.le_of_ble_eq_true rfl) (fun X hX hC => J_X8_preserved htr hX hC l1 σ)
/-! X8_surelyDefined -/
set_option maxRecDepth 20000 in
set_option maxHeartbeats 2000000 in
theorem J_X8_surelyDefined {X : cv_X} {G : cv_G} {LL : Launch} (htr : LL.stackTraces = false) (hX : cv_CX X G) (hC : cv_C X G LL RX8 cX8_surelyDefined 2 (some .int) { frames := 7, cells := 1, slots := 6, locals := 137 }) (l1 : Int32) (σ : cv_St) : cv_J X G 2 0 0 (cv_QXI X G 1 6) 0 [(0, .ref (G.1 0)), (1, .int l1)] [] σ (F_X8_surelyDefined l1 σ) := by
  unfold F_X8_surelyDefined
  refine cv_aload_n hC 0 dX8_surelyDefined_0 rfl rfl ?_
  refine cv_iload_n hC 1 dX8_surelyDefined_1 rfl rfl ?_
  refine cv_callXVI (ob := 0) hX hC [.int l1] [] (M_X8_checkFunction htr G l1 σ) ln_X8_104 vm_X8_checkFunction (ob_0 G) rfl rfl (Nat.le_of_ble_eq_true rfl) ⟨Nat.le_of_ble_eq_true rfl, Nat.le_of_ble_eq_true rfl⟩ ⟨Nat.le_of_ble_eq_true rfl, Nat.le_of_ble_eq_true rfl⟩ ⟨Nat.le_of_ble_eq_true rfl, Nat.le_of_ble_eq_true rfl⟩ dX8_surelyDefined_2 (fun s1 => ?_)
  refine cv_aload_n hC 0 dX8_surelyDefined_5 rfl rfl ?_
  refine cv_callVv (ob := 0) hC [] [] (M_X8_inferFacts LL G s1) ln_X8_152 vm_X8_inferFacts (ob_0 G) rfl rfl (Nat.le_of_ble_eq_true rfl) ⟨Nat.le_of_ble_eq_true rfl, Nat.le_of_ble_eq_true rfl⟩ ⟨Nat.le_of_ble_eq_true rfl, Nat.le_of_ble_eq_true rfl⟩ dX8_surelyDefined_6 (fun s2 => ?_)
  refine cv_aload_n hC 0 dX8_surelyDefined_9 rfl rfl ?_
  refine cv_getr hC (fg_X8_47_0 G) dX8_surelyDefined_10 ?_
  refine cv_getr hC (fg_X8_166_6 G) dX8_surelyDefined_13 ?_
  refine cv_iload_n hC 1 dX8_surelyDefined_16 rfl rfl ?_
  refine cv_iald hC (cv_a27 G) dX8_surelyDefined_17 (fun v3 => ?_)
  exact cv_xiret hC ⟨Nat.le_of_ble_eq_true rfl, Nat.le_of_ble_eq_true rfl⟩ dX8_surelyDefined_18
set_option maxRecDepth 20000 in
set_option maxHeartbeats 2000000 in
theorem M_X8_surelyDefined {LL : Launch} (htr : LL.stackTraces = false) (G : cv_G) (l1 : Int32) (σ : cv_St) : cv_MXI LL G yX8_surelyDefined cX8_surelyDefined 2 (some .int) 7 137 1 6 [.ref (G.1 0), .int l1] σ (F_X8_surelyDefined l1 σ) :=
  cv_mkXI htr (by decide) (Nat.le_of_ble_eq_true rfl) (fun X hX hC => J_X8_surelyDefined htr hX hC l1 σ)
/-! X8_arguments -/
set_option maxRecDepth 20000 in
set_option maxHeartbeats 2000000 in
theorem J_X8_arguments {X : cv_X} {G : cv_G} {LL : Launch} (htr : LL.stackTraces = false) (hX : cv_CX X G) (hC : cv_C X G LL RX8 cX8_arguments 2 (some .int) { frames := 7, cells := 1, slots := 6, locals := 137 }) (l1 : Int32) (σ : cv_St) : cv_J X G 2 0 0 (cv_QXI X G 1 6) 0 [(0, .ref (G.1 0)), (1, .int l1)] [] σ (F_X8_arguments l1 σ) := by
  unfold F_X8_arguments
  refine cv_aload_n hC 0 dX8_arguments_0 rfl rfl ?_
  refine cv_iload_n hC 1 dX8_arguments_1 rfl rfl ?_
  refine cv_callXVI (ob := 0) hX hC [.int l1] [] (M_X8_checkFunction htr G l1 σ) ln_X8_104 vm_X8_checkFunction (ob_0 G) rfl rfl (Nat.le_of_ble_eq_true rfl) ⟨Nat.le_of_ble_eq_true rfl, Nat.le_of_ble_eq_true rfl⟩ ⟨Nat.le_of_ble_eq_true rfl, Nat.le_of_ble_eq_true rfl⟩ ⟨Nat.le_of_ble_eq_true rfl, Nat.le_of_ble_eq_true rfl⟩ dX8_arguments_2 (fun s1 => ?_)
  refine cv_aload_n hC 0 dX8_arguments_5 rfl rfl ?_
  refine cv_callVv (ob := 0) hC [] [] (M_X8_inferFacts LL G s1) ln_X8_152 vm_X8_inferFacts (ob_0 G) rfl rfl (Nat.le_of_ble_eq_true rfl) ⟨Nat.le_of_ble_eq_true rfl, Nat.le_of_ble_eq_true rfl⟩ ⟨Nat.le_of_ble_eq_true rfl, Nat.le_of_ble_eq_true rfl⟩ dX8_arguments_6 (fun s2 => ?_)
  refine cv_aload_n hC 0 dX8_arguments_9 rfl rfl ?_
  refine cv_getr hC (fg_X8_56_0 G) dX8_arguments_10 ?_
  refine cv_getr hC (fg_X8_169_7 G) dX8_arguments_13 ?_
  refine cv_iload_n hC 1 dX8_arguments_16 rfl rfl ?_
  refine cv_iald hC (cv_a30 G) dX8_arguments_17 (fun v3 => ?_)
  exact cv_xiret hC ⟨Nat.le_of_ble_eq_true rfl, Nat.le_of_ble_eq_true rfl⟩ dX8_arguments_18
set_option maxRecDepth 20000 in
set_option maxHeartbeats 2000000 in
theorem M_X8_arguments {LL : Launch} (htr : LL.stackTraces = false) (G : cv_G) (l1 : Int32) (σ : cv_St) : cv_MXI LL G yX8_arguments cX8_arguments 2 (some .int) 7 137 1 6 [.ref (G.1 0), .int l1] σ (F_X8_arguments l1 σ) :=
  cv_mkXI htr (by decide) (Nat.le_of_ble_eq_true rfl) (fun X hX hC => J_X8_arguments htr hX hC l1 σ)
/-! X8_results -/
set_option maxRecDepth 20000 in
set_option maxHeartbeats 2000000 in
theorem J_X8_results {X : cv_X} {G : cv_G} {LL : Launch} (htr : LL.stackTraces = false) (hX : cv_CX X G) (hC : cv_C X G LL RX8 cX8_results 2 (some .int) { frames := 7, cells := 1, slots := 6, locals := 137 }) (l1 : Int32) (σ : cv_St) : cv_J X G 2 0 0 (cv_QXI X G 1 6) 0 [(0, .ref (G.1 0)), (1, .int l1)] [] σ (F_X8_results l1 σ) := by
  unfold F_X8_results
  refine cv_aload_n hC 0 dX8_results_0 rfl rfl ?_
  refine cv_iload_n hC 1 dX8_results_1 rfl rfl ?_
  refine cv_callXVI (ob := 0) hX hC [.int l1] [] (M_X8_checkFunction htr G l1 σ) ln_X8_104 vm_X8_checkFunction (ob_0 G) rfl rfl (Nat.le_of_ble_eq_true rfl) ⟨Nat.le_of_ble_eq_true rfl, Nat.le_of_ble_eq_true rfl⟩ ⟨Nat.le_of_ble_eq_true rfl, Nat.le_of_ble_eq_true rfl⟩ ⟨Nat.le_of_ble_eq_true rfl, Nat.le_of_ble_eq_true rfl⟩ dX8_results_2 (fun s1 => ?_)
  refine cv_aload_n hC 0 dX8_results_5 rfl rfl ?_
  refine cv_callVv (ob := 0) hC [] [] (M_X8_inferFacts LL G s1) ln_X8_152 vm_X8_inferFacts (ob_0 G) rfl rfl (Nat.le_of_ble_eq_true rfl) ⟨Nat.le_of_ble_eq_true rfl, Nat.le_of_ble_eq_true rfl⟩ ⟨Nat.le_of_ble_eq_true rfl, Nat.le_of_ble_eq_true rfl⟩ dX8_results_6 (fun s2 => ?_)
  refine cv_aload_n hC 0 dX8_results_9 rfl rfl ?_
  refine cv_getr hC (fg_X8_56_0 G) dX8_results_10 ?_
  refine cv_getr hC (fg_X8_172_7 G) dX8_results_13 ?_
  refine cv_iload_n hC 1 dX8_results_16 rfl rfl ?_
  refine cv_iald hC (cv_a31 G) dX8_results_17 (fun v3 => ?_)
  exact cv_xiret hC ⟨Nat.le_of_ble_eq_true rfl, Nat.le_of_ble_eq_true rfl⟩ dX8_results_18
set_option maxRecDepth 20000 in
set_option maxHeartbeats 2000000 in
theorem M_X8_results {LL : Launch} (htr : LL.stackTraces = false) (G : cv_G) (l1 : Int32) (σ : cv_St) : cv_MXI LL G yX8_results cX8_results 2 (some .int) 7 137 1 6 [.ref (G.1 0), .int l1] σ (F_X8_results l1 σ) :=
  cv_mkXI htr (by decide) (Nat.le_of_ble_eq_true rfl) (fun X hX hC => J_X8_results htr hX hC l1 σ)
/-! X8_liveBefore -/
set_option maxRecDepth 20000 in
set_option maxHeartbeats 2000000 in
theorem J_X8_liveBefore {X : cv_X} {G : cv_G} {LL : Launch} (htr : LL.stackTraces = false) (hX : cv_CX X G) (hC : cv_C X G LL RX8 cX8_liveBefore 3 (some .int) { frames := 8, cells := 3, slots := 18, locals := 137 }) (l1 : Int32) (l2 : Int32) (σ : cv_St) : cv_J X G 3 0 0 (cv_QXI X G 3 18) 0 [(0, .ref (G.1 0)), (1, .int l1), (2, .int l2)] [] σ (F_X8_liveBefore l1 l2 σ) := by
  unfold F_X8_liveBefore
  refine cv_aload_n hC 0 dX8_liveBefore_0 rfl rfl ?_
  refine cv_iload_n hC 1 dX8_liveBefore_1 rfl rfl ?_
  refine cv_iload_n hC 2 dX8_liveBefore_2 rfl rfl ?_
  refine cv_callXVI (ob := 0) hX hC [.int l1, .int l2] [] (M_X8_checkInstruction htr G l1 l2 σ) ln_X8_132 vm_X8_checkInstruction (ob_0 G) rfl rfl (Nat.le_of_ble_eq_true rfl) ⟨Nat.le_of_ble_eq_true rfl, Nat.le_of_ble_eq_true rfl⟩ ⟨Nat.le_of_ble_eq_true rfl, Nat.le_of_ble_eq_true rfl⟩ ⟨Nat.le_of_ble_eq_true rfl, Nat.le_of_ble_eq_true rfl⟩ dX8_liveBefore_3 (fun s1 => ?_)
  refine cv_aload_n hC 0 dX8_liveBefore_6 rfl rfl ?_
  refine cv_callVv (ob := 0) hC [] [] (M_X8_inferFacts LL G s1) ln_X8_152 vm_X8_inferFacts (ob_0 G) rfl rfl (Nat.le_of_ble_eq_true rfl) ⟨Nat.le_of_ble_eq_true rfl, Nat.le_of_ble_eq_true rfl⟩ ⟨Nat.le_of_ble_eq_true rfl, Nat.le_of_ble_eq_true rfl⟩ dX8_liveBefore_7 (fun s2 => ?_)
  refine cv_aload_n hC 0 dX8_liveBefore_10 rfl rfl ?_
  refine cv_getr hC (fg_X8_31_0 G) dX8_liveBefore_11 ?_
  refine cv_iload_n hC 1 dX8_liveBefore_14 rfl rfl ?_
  refine cv_iload_n hC 2 dX8_liveBefore_15 rfl rfl ?_
  refine cv_callVi (ob := 4) hC [.int l1, .int l2] [] (M_X2_reaches LL G l1 l2 s2) ln_X8_155 vm_X2_reaches (ob_4 G) rfl rfl (Nat.le_of_ble_eq_true rfl) ⟨Nat.le_of_ble_eq_true rfl, Nat.le_of_ble_eq_true rfl⟩ ⟨Nat.le_of_ble_eq_true rfl, Nat.le_of_ble_eq_true rfl⟩ dX8_liveBefore_16 (fun v4 s3 => ?_)
  refine cv_if_ne (tgt := 32) hC dX8_liveBefore_19 (by decide) ?_ ?_
  · refine cv_aload_n hC 0 dX8_liveBefore_32 rfl rfl ?_
    refine cv_getr hC (fg_X8_56_0 G) dX8_liveBefore_33 ?_
    refine cv_iload_n hC 1 dX8_liveBefore_36 rfl rfl ?_
    refine cv_iload_n hC 2 dX8_liveBefore_37 rfl rfl ?_
    refine cv_callVi (ob := 7) hC [.int l1, .int l2] [] (M_X3_before LL G l1 l2 s3) ln_X8_177 vm_X3_before (ob_7 G) rfl rfl (Nat.le_of_ble_eq_true rfl) ⟨Nat.le_of_ble_eq_true rfl, Nat.le_of_ble_eq_true rfl⟩ ⟨Nat.le_of_ble_eq_true rfl, Nat.le_of_ble_eq_true rfl⟩ dX8_liveBefore_38 (fun v6 s5 => ?_)
    exact cv_xiret hC ⟨Nat.le_of_ble_eq_true rfl, Nat.le_of_ble_eq_true rfl⟩ dX8_liveBefore_41
  · exact cv_throwIS hX hC 3 tw_3_175 ⟨Nat.le_of_ble_eq_true rfl, Nat.le_of_ble_eq_true rfl⟩ ⟨Nat.le_of_ble_eq_true rfl, Nat.le_of_ble_eq_true rfl⟩ ⟨Nat.le_of_ble_eq_true rfl, Nat.le_of_ble_eq_true rfl⟩ dX8_liveBefore_22 dX8_liveBefore_25 dX8_liveBefore_26 dX8_liveBefore_28 dX8_liveBefore_31
set_option maxRecDepth 20000 in
set_option maxHeartbeats 2000000 in
theorem M_X8_liveBefore {LL : Launch} (htr : LL.stackTraces = false) (G : cv_G) (l1 : Int32) (l2 : Int32) (σ : cv_St) : cv_MXI LL G yX8_liveBefore cX8_liveBefore 3 (some .int) 8 137 3 18 [.ref (G.1 0), .int l1, .int l2] σ (F_X8_liveBefore l1 l2 σ) :=
  cv_mkXI htr (by decide) (Nat.le_of_ble_eq_true rfl) (fun X hX hC => J_X8_liveBefore htr hX hC l1 l2 σ)
/-! X8_neededSlots -/
set_option maxRecDepth 20000 in
set_option maxHeartbeats 2000000 in
theorem J_X8_neededSlots {X : cv_X} {G : cv_G} {LL : Launch} (htr : LL.stackTraces = false) (hX : cv_CX X G) (hC : cv_C X G LL RX8 cX8_neededSlots 2 (some .int) { frames := 7, cells := 1, slots := 6, locals := 137 }) (l1 : Int32) (σ : cv_St) : cv_J X G 2 0 0 (cv_QXI X G 1 6) 0 [(0, .ref (G.1 0)), (1, .int l1)] [] σ (F_X8_neededSlots l1 σ) := by
  unfold F_X8_neededSlots
  refine cv_aload_n hC 0 dX8_neededSlots_0 rfl rfl ?_
  refine cv_iload_n hC 1 dX8_neededSlots_1 rfl rfl ?_
  refine cv_callXVI (ob := 0) hX hC [.int l1] [] (M_X8_checkFunction htr G l1 σ) ln_X8_104 vm_X8_checkFunction (ob_0 G) rfl rfl (Nat.le_of_ble_eq_true rfl) ⟨Nat.le_of_ble_eq_true rfl, Nat.le_of_ble_eq_true rfl⟩ ⟨Nat.le_of_ble_eq_true rfl, Nat.le_of_ble_eq_true rfl⟩ ⟨Nat.le_of_ble_eq_true rfl, Nat.le_of_ble_eq_true rfl⟩ dX8_neededSlots_2 (fun s1 => ?_)
  refine cv_aload_n hC 0 dX8_neededSlots_5 rfl rfl ?_
  refine cv_callVv (ob := 0) hC [] [] (M_X8_inferFacts LL G s1) ln_X8_152 vm_X8_inferFacts (ob_0 G) rfl rfl (Nat.le_of_ble_eq_true rfl) ⟨Nat.le_of_ble_eq_true rfl, Nat.le_of_ble_eq_true rfl⟩ ⟨Nat.le_of_ble_eq_true rfl, Nat.le_of_ble_eq_true rfl⟩ dX8_neededSlots_6 (fun s2 => ?_)
  refine cv_aload_n hC 0 dX8_neededSlots_9 rfl rfl ?_
  refine cv_getr hC (fg_X8_63_0 G) dX8_neededSlots_10 ?_
  refine cv_getr hC (fg_X8_180_8 G) dX8_neededSlots_13 ?_
  refine cv_iload_n hC 1 dX8_neededSlots_16 rfl rfl ?_
  refine cv_iald hC (cv_a36 G) dX8_neededSlots_17 (fun v3 => ?_)
  exact cv_xiret hC ⟨Nat.le_of_ble_eq_true rfl, Nat.le_of_ble_eq_true rfl⟩ dX8_neededSlots_18
set_option maxRecDepth 20000 in
set_option maxHeartbeats 2000000 in
theorem M_X8_neededSlots {LL : Launch} (htr : LL.stackTraces = false) (G : cv_G) (l1 : Int32) (σ : cv_St) : cv_MXI LL G yX8_neededSlots cX8_neededSlots 2 (some .int) 7 137 1 6 [.ref (G.1 0), .int l1] σ (F_X8_neededSlots l1 σ) :=
  cv_mkXI htr (by decide) (Nat.le_of_ble_eq_true rfl) (fun X hX hC => J_X8_neededSlots htr hX hC l1 σ)
/-! X8_isVariadic -/
set_option maxRecDepth 20000 in
set_option maxHeartbeats 2000000 in
theorem J_X8_isVariadic {X : cv_X} {G : cv_G} {LL : Launch} (htr : LL.stackTraces = false) (hX : cv_CX X G) (hC : cv_C X G LL RX8 cX8_isVariadic 2 (some .boolean) { frames := 7, cells := 1, slots := 6, locals := 137 }) (l1 : Int32) (σ : cv_St) : cv_J X G 2 0 0 (cv_QXI X G 1 6) 0 [(0, .ref (G.1 0)), (1, .int l1)] [] σ (F_X8_isVariadic l1 σ) := by
  unfold F_X8_isVariadic
  refine cv_aload_n hC 0 dX8_isVariadic_0 rfl rfl ?_
  refine cv_iload_n hC 1 dX8_isVariadic_1 rfl rfl ?_
  refine cv_callXVI (ob := 0) hX hC [.int l1] [] (M_X8_checkFunction htr G l1 σ) ln_X8_104 vm_X8_checkFunction (ob_0 G) rfl rfl (Nat.le_of_ble_eq_true rfl) ⟨Nat.le_of_ble_eq_true rfl, Nat.le_of_ble_eq_true rfl⟩ ⟨Nat.le_of_ble_eq_true rfl, Nat.le_of_ble_eq_true rfl⟩ ⟨Nat.le_of_ble_eq_true rfl, Nat.le_of_ble_eq_true rfl⟩ dX8_isVariadic_2 (fun s1 => ?_)
  refine cv_aload_n hC 0 dX8_isVariadic_5 rfl rfl ?_
  refine cv_callVv (ob := 0) hC [] [] (M_X8_inferFacts LL G s1) ln_X8_152 vm_X8_inferFacts (ob_0 G) rfl rfl (Nat.le_of_ble_eq_true rfl) ⟨Nat.le_of_ble_eq_true rfl, Nat.le_of_ble_eq_true rfl⟩ ⟨Nat.le_of_ble_eq_true rfl, Nat.le_of_ble_eq_true rfl⟩ dX8_isVariadic_6 (fun s2 => ?_)
  refine cv_aload_n hC 0 dX8_isVariadic_9 rfl rfl ?_
  refine cv_getr hC (fg_X8_63_0 G) dX8_isVariadic_10 ?_
  refine cv_iload_n hC 1 dX8_isVariadic_13 rfl rfl ?_
  refine cv_callVi (ob := 8) hC [.int l1] [] (M_X5_differFor LL G l1 s2) ln_X8_183 vm_X5_differFor (ob_8 G) rfl rfl (Nat.le_of_ble_eq_true rfl) ⟨Nat.le_of_ble_eq_true rfl, Nat.le_of_ble_eq_true rfl⟩ ⟨Nat.le_of_ble_eq_true rfl, Nat.le_of_ble_eq_true rfl⟩ dX8_isVariadic_14 (fun v4 s3 => ?_)
  exact cv_xzret hC ⟨Nat.le_of_ble_eq_true rfl, Nat.le_of_ble_eq_true rfl⟩ dX8_isVariadic_17
set_option maxRecDepth 20000 in
set_option maxHeartbeats 2000000 in
theorem M_X8_isVariadic {LL : Launch} (htr : LL.stackTraces = false) (G : cv_G) (l1 : Int32) (σ : cv_St) : cv_MXI LL G yX8_isVariadic cX8_isVariadic 2 (some .boolean) 7 137 1 6 [.ref (G.1 0), .int l1] σ (F_X8_isVariadic l1 σ) :=
  cv_mkXI htr (by decide) (Nat.le_of_ble_eq_true rfl) (fun X hX hC => J_X8_isVariadic htr hX hC l1 σ)
/-! X8_callees -/
set_option maxRecDepth 20000 in
set_option maxHeartbeats 2000000 in
theorem J_X8_callees {X : cv_X} {G : cv_G} {LL : Launch} (htr : LL.stackTraces = false) (hX : cv_CX X G) (hC : cv_C X G LL RX8 cX8_callees 2 (some .int) { frames := 7, cells := 1, slots := 6, locals := 137 }) (l1 : Int32) (σ : cv_St) : cv_J X G 2 0 0 (cv_QXI X G 1 6) 0 [(0, .ref (G.1 0)), (1, .int l1)] [] σ (F_X8_callees l1 σ) := by
  unfold F_X8_callees
  refine cv_aload_n hC 0 dX8_callees_0 rfl rfl ?_
  refine cv_iload_n hC 1 dX8_callees_1 rfl rfl ?_
  refine cv_callXVI (ob := 0) hX hC [.int l1] [] (M_X8_checkFunction htr G l1 σ) ln_X8_104 vm_X8_checkFunction (ob_0 G) rfl rfl (Nat.le_of_ble_eq_true rfl) ⟨Nat.le_of_ble_eq_true rfl, Nat.le_of_ble_eq_true rfl⟩ ⟨Nat.le_of_ble_eq_true rfl, Nat.le_of_ble_eq_true rfl⟩ ⟨Nat.le_of_ble_eq_true rfl, Nat.le_of_ble_eq_true rfl⟩ dX8_callees_2 (fun s1 => ?_)
  refine cv_aload_n hC 0 dX8_callees_5 rfl rfl ?_
  refine cv_callVv (ob := 0) hC [] [] (M_X8_inferFacts LL G s1) ln_X8_152 vm_X8_inferFacts (ob_0 G) rfl rfl (Nat.le_of_ble_eq_true rfl) ⟨Nat.le_of_ble_eq_true rfl, Nat.le_of_ble_eq_true rfl⟩ ⟨Nat.le_of_ble_eq_true rfl, Nat.le_of_ble_eq_true rfl⟩ dX8_callees_6 (fun s2 => ?_)
  refine cv_aload_n hC 0 dX8_callees_9 rfl rfl ?_
  refine cv_getr hC (fg_X8_31_0 G) dX8_callees_10 ?_
  refine cv_getr hC (fg_X8_187_4 G) dX8_callees_13 ?_
  refine cv_iload_n hC 1 dX8_callees_16 rfl rfl ?_
  refine cv_iald hC (cv_a21 G) dX8_callees_17 (fun v3 => ?_)
  exact cv_xiret hC ⟨Nat.le_of_ble_eq_true rfl, Nat.le_of_ble_eq_true rfl⟩ dX8_callees_18
set_option maxRecDepth 20000 in
set_option maxHeartbeats 2000000 in
theorem M_X8_callees {LL : Launch} (htr : LL.stackTraces = false) (G : cv_G) (l1 : Int32) (σ : cv_St) : cv_MXI LL G yX8_callees cX8_callees 2 (some .int) 7 137 1 6 [.ref (G.1 0), .int l1] σ (F_X8_callees l1 σ) :=
  cv_mkXI htr (by decide) (Nat.le_of_ble_eq_true rfl) (fun X hX hC => J_X8_callees htr hX hC l1 σ)
/-! X8_callersOf -/
set_option maxRecDepth 20000 in
set_option maxHeartbeats 2000000 in
theorem J_X8_callersOf {X : cv_X} {G : cv_G} {LL : Launch} (htr : LL.stackTraces = false) (hX : cv_CX X G) (hC : cv_C X G LL RX8 cX8_callersOf 2 (some .int) { frames := 7, cells := 1, slots := 6, locals := 137 }) (l1 : Int32) (σ : cv_St) : cv_J X G 2 0 0 (cv_QXI X G 1 6) 0 [(0, .ref (G.1 0)), (1, .int l1)] [] σ (F_X8_callersOf l1 σ) := by
  unfold F_X8_callersOf
  refine cv_aload_n hC 0 dX8_callersOf_0 rfl rfl ?_
  refine cv_iload_n hC 1 dX8_callersOf_1 rfl rfl ?_
  refine cv_callXVI (ob := 0) hX hC [.int l1] [] (M_X8_checkFunction htr G l1 σ) ln_X8_104 vm_X8_checkFunction (ob_0 G) rfl rfl (Nat.le_of_ble_eq_true rfl) ⟨Nat.le_of_ble_eq_true rfl, Nat.le_of_ble_eq_true rfl⟩ ⟨Nat.le_of_ble_eq_true rfl, Nat.le_of_ble_eq_true rfl⟩ ⟨Nat.le_of_ble_eq_true rfl, Nat.le_of_ble_eq_true rfl⟩ dX8_callersOf_2 (fun s1 => ?_)
  refine cv_aload_n hC 0 dX8_callersOf_5 rfl rfl ?_
  refine cv_callVv (ob := 0) hC [] [] (M_X8_inferFacts LL G s1) ln_X8_152 vm_X8_inferFacts (ob_0 G) rfl rfl (Nat.le_of_ble_eq_true rfl) ⟨Nat.le_of_ble_eq_true rfl, Nat.le_of_ble_eq_true rfl⟩ ⟨Nat.le_of_ble_eq_true rfl, Nat.le_of_ble_eq_true rfl⟩ dX8_callersOf_6 (fun s2 => ?_)
  refine cv_aload_n hC 0 dX8_callersOf_9 rfl rfl ?_
  refine cv_getr hC (fg_X8_31_0 G) dX8_callersOf_10 ?_
  refine cv_iload_n hC 1 dX8_callersOf_13 rfl rfl ?_
  refine cv_callVi (ob := 4) hC [.int l1] [] (M_X2_callers LL G l1 s2) ln_X8_190 vm_X2_callers (ob_4 G) rfl rfl (Nat.le_of_ble_eq_true rfl) ⟨Nat.le_of_ble_eq_true rfl, Nat.le_of_ble_eq_true rfl⟩ ⟨Nat.le_of_ble_eq_true rfl, Nat.le_of_ble_eq_true rfl⟩ dX8_callersOf_14 (fun v4 s3 => ?_)
  exact cv_xiret hC ⟨Nat.le_of_ble_eq_true rfl, Nat.le_of_ble_eq_true rfl⟩ dX8_callersOf_17
set_option maxRecDepth 20000 in
set_option maxHeartbeats 2000000 in
theorem M_X8_callersOf {LL : Launch} (htr : LL.stackTraces = false) (G : cv_G) (l1 : Int32) (σ : cv_St) : cv_MXI LL G yX8_callersOf cX8_callersOf 2 (some .int) 7 137 1 6 [.ref (G.1 0), .int l1] σ (F_X8_callersOf l1 σ) :=
  cv_mkXI htr (by decide) (Nat.le_of_ble_eq_true rfl) (fun X hX hC => J_X8_callersOf htr hX hC l1 σ)
/-! X8_isRecursive -/
set_option maxRecDepth 20000 in
set_option maxHeartbeats 2000000 in
theorem J_X8_isRecursive {X : cv_X} {G : cv_G} {LL : Launch} (htr : LL.stackTraces = false) (hX : cv_CX X G) (hC : cv_C X G LL RX8 cX8_isRecursive 2 (some .boolean) { frames := 7, cells := 1, slots := 6, locals := 137 }) (l1 : Int32) (σ : cv_St) : cv_J X G 2 0 0 (cv_QXI X G 1 6) 0 [(0, .ref (G.1 0)), (1, .int l1)] [] σ (F_X8_isRecursive l1 σ) := by
  unfold F_X8_isRecursive
  refine cv_aload_n hC 0 dX8_isRecursive_0 rfl rfl ?_
  refine cv_iload_n hC 1 dX8_isRecursive_1 rfl rfl ?_
  refine cv_callXVI (ob := 0) hX hC [.int l1] [] (M_X8_checkFunction htr G l1 σ) ln_X8_104 vm_X8_checkFunction (ob_0 G) rfl rfl (Nat.le_of_ble_eq_true rfl) ⟨Nat.le_of_ble_eq_true rfl, Nat.le_of_ble_eq_true rfl⟩ ⟨Nat.le_of_ble_eq_true rfl, Nat.le_of_ble_eq_true rfl⟩ ⟨Nat.le_of_ble_eq_true rfl, Nat.le_of_ble_eq_true rfl⟩ dX8_isRecursive_2 (fun s1 => ?_)
  refine cv_aload_n hC 0 dX8_isRecursive_5 rfl rfl ?_
  refine cv_callVv (ob := 0) hC [] [] (M_X8_inferFacts LL G s1) ln_X8_152 vm_X8_inferFacts (ob_0 G) rfl rfl (Nat.le_of_ble_eq_true rfl) ⟨Nat.le_of_ble_eq_true rfl, Nat.le_of_ble_eq_true rfl⟩ ⟨Nat.le_of_ble_eq_true rfl, Nat.le_of_ble_eq_true rfl⟩ dX8_isRecursive_6 (fun s2 => ?_)
  refine cv_aload_n hC 0 dX8_isRecursive_9 rfl rfl ?_
  refine cv_getr hC (fg_X8_31_0 G) dX8_isRecursive_10 ?_
  refine cv_iload_n hC 1 dX8_isRecursive_13 rfl rfl ?_
  refine cv_callVi (ob := 4) hC [.int l1] [] (M_X2_calledInAll LL G l1 s2) ln_X8_194 vm_X2_calledInAll (ob_4 G) rfl rfl (Nat.le_of_ble_eq_true rfl) ⟨Nat.le_of_ble_eq_true rfl, Nat.le_of_ble_eq_true rfl⟩ ⟨Nat.le_of_ble_eq_true rfl, Nat.le_of_ble_eq_true rfl⟩ dX8_isRecursive_14 (fun v4 s3 => ?_)
  refine cv_iload_n hC 1 dX8_isRecursive_17 rfl rfl ?_
  refine cv_callSi hC [.int v4, .int l1] [] (M_X8_contains LL G v4 l1 s3) ln_X8_197 vm_X8_contains rfl rfl (Nat.le_of_ble_eq_true rfl) ⟨Nat.le_of_ble_eq_true rfl, Nat.le_of_ble_eq_true rfl⟩ ⟨Nat.le_of_ble_eq_true rfl, Nat.le_of_ble_eq_true rfl⟩ dX8_isRecursive_18 (fun v6 s5 => ?_)
  exact cv_xzret hC ⟨Nat.le_of_ble_eq_true rfl, Nat.le_of_ble_eq_true rfl⟩ dX8_isRecursive_21
set_option maxRecDepth 20000 in
set_option maxHeartbeats 2000000 in
theorem M_X8_isRecursive {LL : Launch} (htr : LL.stackTraces = false) (G : cv_G) (l1 : Int32) (σ : cv_St) : cv_MXI LL G yX8_isRecursive cX8_isRecursive 2 (some .boolean) 7 137 1 6 [.ref (G.1 0), .int l1] σ (F_X8_isRecursive l1 σ) :=
  cv_mkXI htr (by decide) (Nat.le_of_ble_eq_true rfl) (fun X hX hC => J_X8_isRecursive htr hX hC l1 σ)
/-! X8_checkSite -/
set_option maxRecDepth 20000 in
set_option maxHeartbeats 2000000 in
theorem J_X8_checkSite {X : cv_X} {G : cv_G} {LL : Launch} (htr : LL.stackTraces = false) (hX : cv_CX X G) (hC : cv_C X G LL RX8 cX8_checkSite 2 none { frames := 6, cells := 1, slots := 6, locals := 90 }) (l1 : Int32) (σ : cv_St) : cv_J X G 2 0 0 (cv_QXV X G 1 6) 0 [(0, .ref (G.1 0)), (1, .int l1)] [] σ (F_X8_checkSite l1 σ) := by
  unfold F_X8_checkSite
  refine cv_iload_n hC 1 dX8_checkSite_0 rfl rfl ?_
  refine cv_if_lt (tgt := 15) hC dX8_checkSite_1 (by decide) ?_ ?_
  · exact cv_throwVSW hX hC 1 tw_1_290 ⟨Nat.le_of_ble_eq_true rfl, Nat.le_of_ble_eq_true rfl⟩ ⟨Nat.le_of_ble_eq_true rfl, Nat.le_of_ble_eq_true rfl⟩ ⟨Nat.le_of_ble_eq_true rfl, Nat.le_of_ble_eq_true rfl⟩ dX8_checkSite_15 dX8_checkSite_18 dX8_checkSite_19 dX8_checkSite_22 dX8_checkSite_25
  · refine cv_iload_n hC 1 dX8_checkSite_4 rfl rfl ?_
    refine cv_aload_n hC 0 dX8_checkSite_5 rfl rfl ?_
    refine cv_getr hC (fg_X8_63_0 G) dX8_checkSite_6 ?_
    refine cv_geti hC (fg_X8_200_8 G) dX8_checkSite_9 ?_
    refine cv_icmp_lt (tgt := 26) hC dX8_checkSite_12 (by decide) ?_ ?_
    · exact cv_xvret hC ⟨Nat.le_of_ble_eq_true rfl, Nat.le_of_ble_eq_true rfl⟩ dX8_checkSite_26
    · exact cv_throwVSW hX hC 1 tw_1_290 ⟨Nat.le_of_ble_eq_true rfl, Nat.le_of_ble_eq_true rfl⟩ ⟨Nat.le_of_ble_eq_true rfl, Nat.le_of_ble_eq_true rfl⟩ ⟨Nat.le_of_ble_eq_true rfl, Nat.le_of_ble_eq_true rfl⟩ dX8_checkSite_15 dX8_checkSite_18 dX8_checkSite_19 dX8_checkSite_22 dX8_checkSite_25
set_option maxRecDepth 20000 in
set_option maxHeartbeats 2000000 in
theorem M_X8_checkSite {LL : Launch} (htr : LL.stackTraces = false) (G : cv_G) (l1 : Int32) (σ : cv_St) : cv_MXV LL G yX8_checkSite cX8_checkSite 2 6 90 1 6 [.ref (G.1 0), .int l1] σ (F_X8_checkSite l1 σ) :=
  cv_mkXV htr (by decide) (Nat.le_of_ble_eq_true rfl) (fun X hX hC => J_X8_checkSite htr hX hC l1 σ)
/-! X8_site -/
set_option maxRecDepth 20000 in
set_option maxHeartbeats 2000000 in
theorem J_X8_site {X : cv_X} {G : cv_G} {LL : Launch} (htr : LL.stackTraces = false) (hX : cv_CX X G) (hC : cv_C X G LL RX8 cX8_site 3 (some .int) { frames := 7, cells := 2, slots := 12, locals := 137 }) (l1 : Int32) (l2 : Int32) (σ : cv_St) : cv_J X G 3 0 0 (cv_QXI X G 2 12) 0 [(0, .ref (G.1 0)), (1, .int l1), (2, .int l2)] [] σ (F_X8_site l1 l2 σ) := by
  unfold F_X8_site
  refine cv_aload_n hC 0 dX8_site_0 rfl rfl ?_
  refine cv_callVv (ob := 0) hC [] [] (M_X8_inferFacts LL G σ) ln_X8_152 vm_X8_inferFacts (ob_0 G) rfl rfl (Nat.le_of_ble_eq_true rfl) ⟨Nat.le_of_ble_eq_true rfl, Nat.le_of_ble_eq_true rfl⟩ ⟨Nat.le_of_ble_eq_true rfl, Nat.le_of_ble_eq_true rfl⟩ dX8_site_1 (fun s1 => ?_)
  refine cv_aload_n hC 0 dX8_site_4 rfl rfl ?_
  refine cv_iload_n hC 1 dX8_site_5 rfl rfl ?_
  refine cv_callXVI (ob := 0) hX hC [.int l1] [] (M_X8_checkSite htr G l1 s1) ln_X8_201 vm_X8_checkSite (ob_0 G) rfl rfl (Nat.le_of_ble_eq_true rfl) ⟨Nat.le_of_ble_eq_true rfl, Nat.le_of_ble_eq_true rfl⟩ ⟨Nat.le_of_ble_eq_true rfl, Nat.le_of_ble_eq_true rfl⟩ ⟨Nat.le_of_ble_eq_true rfl, Nat.le_of_ble_eq_true rfl⟩ dX8_site_6 (fun s2 => ?_)
  refine cv_iload_n hC 2 dX8_site_9 rfl rfl ?_
  refine cv_if_lt (tgt := 18) hC dX8_site_10 (by decide) ?_ ?_
  · exact cv_throwIS hX hC 2 tw_2_204 ⟨Nat.le_of_ble_eq_true rfl, Nat.le_of_ble_eq_true rfl⟩ ⟨Nat.le_of_ble_eq_true rfl, Nat.le_of_ble_eq_true rfl⟩ ⟨Nat.le_of_ble_eq_true rfl, Nat.le_of_ble_eq_true rfl⟩ dX8_site_18 dX8_site_21 dX8_site_22 dX8_site_24 dX8_site_27
  · refine cv_iload_n hC 2 dX8_site_13 rfl rfl ?_
    refine cv_iconst (v := 2) hC dX8_site_14 cb_iconst_2 ?_
    refine cv_icmp_le (tgt := 28) hC dX8_site_15 (by decide) ?_ ?_
    · refine cv_iload_n hC 2 dX8_site_28 rfl rfl ?_
      refine cv_if_ne (tgt := 42) hC dX8_site_29 (by decide) ?_ ?_
      · refine cv_iload_n hC 2 dX8_site_42 rfl rfl ?_
        refine cv_iconst (v := 1) hC dX8_site_43 cb_iconst_1 ?_
        refine cv_icmp_ne (tgt := 59) hC dX8_site_44 (by decide) ?_ ?_
        · refine cv_aload_n hC 0 dX8_site_59 rfl rfl ?_
          refine cv_getr hC (fg_X8_63_0 G) dX8_site_60 ?_
          refine cv_getr hC (fg_X8_211_8 G) dX8_site_63 ?_
          refine cv_iload_n hC 1 dX8_site_66 rfl rfl ?_
          refine cv_iald hC (cv_a34 G) dX8_site_67 (fun v3 => ?_)
          exact cv_xiret hC ⟨Nat.le_of_ble_eq_true rfl, Nat.le_of_ble_eq_true rfl⟩ dX8_site_68
        · refine cv_aload_n hC 0 dX8_site_47 rfl rfl ?_
          refine cv_getr hC (fg_X8_63_0 G) dX8_site_48 ?_
          refine cv_getr hC (fg_X8_208_8 G) dX8_site_51 ?_
          refine cv_iload_n hC 1 dX8_site_54 rfl rfl ?_
          refine cv_iald hC (cv_a33 G) dX8_site_55 (fun v4 => ?_)
          refine cv_goto (tgt := 68) hC dX8_site_56 (by decide) ?_
          exact cv_xiret hC ⟨Nat.le_of_ble_eq_true rfl, Nat.le_of_ble_eq_true rfl⟩ dX8_site_68
      · refine cv_aload_n hC 0 dX8_site_32 rfl rfl ?_
        refine cv_getr hC (fg_X8_63_0 G) dX8_site_33 ?_
        refine cv_getr hC (fg_X8_206_8 G) dX8_site_36 ?_
        refine cv_iload_n hC 1 dX8_site_39 rfl rfl ?_
        refine cv_iald hC (cv_a32 G) dX8_site_40 (fun v5 => ?_)
        exact cv_xiret hC ⟨Nat.le_of_ble_eq_true rfl, Nat.le_of_ble_eq_true rfl⟩ dX8_site_41
    · exact cv_throwIS hX hC 2 tw_2_204 ⟨Nat.le_of_ble_eq_true rfl, Nat.le_of_ble_eq_true rfl⟩ ⟨Nat.le_of_ble_eq_true rfl, Nat.le_of_ble_eq_true rfl⟩ ⟨Nat.le_of_ble_eq_true rfl, Nat.le_of_ble_eq_true rfl⟩ dX8_site_18 dX8_site_21 dX8_site_22 dX8_site_24 dX8_site_27
set_option maxRecDepth 20000 in
set_option maxHeartbeats 2000000 in
theorem M_X8_site {LL : Launch} (htr : LL.stackTraces = false) (G : cv_G) (l1 : Int32) (l2 : Int32) (σ : cv_St) : cv_MXI LL G yX8_site cX8_site 3 (some .int) 7 137 2 12 [.ref (G.1 0), .int l1, .int l2] σ (F_X8_site l1 l2 σ) :=
  cv_mkXI htr (by decide) (Nat.le_of_ble_eq_true rfl) (fun X hX hC => J_X8_site htr hX hC l1 l2 σ)
/-! X8_passedSlots -/
set_option maxRecDepth 20000 in
set_option maxHeartbeats 2000000 in
theorem J_X8_passedSlots {X : cv_X} {G : cv_G} {LL : Launch} (htr : LL.stackTraces = false) (hX : cv_CX X G) (hC : cv_C X G LL RX8 cX8_passedSlots 2 (some .int) { frames := 7, cells := 1, slots := 6, locals := 137 }) (l1 : Int32) (σ : cv_St) : cv_J X G 2 0 0 (cv_QXI X G 1 6) 0 [(0, .ref (G.1 0)), (1, .int l1)] [] σ (F_X8_passedSlots l1 σ) := by
  unfold F_X8_passedSlots
  refine cv_aload_n hC 0 dX8_passedSlots_0 rfl rfl ?_
  refine cv_callVv (ob := 0) hC [] [] (M_X8_inferFacts LL G σ) ln_X8_152 vm_X8_inferFacts (ob_0 G) rfl rfl (Nat.le_of_ble_eq_true rfl) ⟨Nat.le_of_ble_eq_true rfl, Nat.le_of_ble_eq_true rfl⟩ ⟨Nat.le_of_ble_eq_true rfl, Nat.le_of_ble_eq_true rfl⟩ dX8_passedSlots_1 (fun s1 => ?_)
  refine cv_aload_n hC 0 dX8_passedSlots_4 rfl rfl ?_
  refine cv_iload_n hC 1 dX8_passedSlots_5 rfl rfl ?_
  refine cv_callXVI (ob := 0) hX hC [.int l1] [] (M_X8_checkSite htr G l1 s1) ln_X8_201 vm_X8_checkSite (ob_0 G) rfl rfl (Nat.le_of_ble_eq_true rfl) ⟨Nat.le_of_ble_eq_true rfl, Nat.le_of_ble_eq_true rfl⟩ ⟨Nat.le_of_ble_eq_true rfl, Nat.le_of_ble_eq_true rfl⟩ ⟨Nat.le_of_ble_eq_true rfl, Nat.le_of_ble_eq_true rfl⟩ dX8_passedSlots_6 (fun s2 => ?_)
  refine cv_aload_n hC 0 dX8_passedSlots_9 rfl rfl ?_
  refine cv_getr hC (fg_X8_63_0 G) dX8_passedSlots_10 ?_
  refine cv_getr hC (fg_X8_214_8 G) dX8_passedSlots_13 ?_
  refine cv_iload_n hC 1 dX8_passedSlots_16 rfl rfl ?_
  refine cv_iald hC (cv_a35 G) dX8_passedSlots_17 (fun v3 => ?_)
  exact cv_xiret hC ⟨Nat.le_of_ble_eq_true rfl, Nat.le_of_ble_eq_true rfl⟩ dX8_passedSlots_18
set_option maxRecDepth 20000 in
set_option maxHeartbeats 2000000 in
theorem M_X8_passedSlots {LL : Launch} (htr : LL.stackTraces = false) (G : cv_G) (l1 : Int32) (σ : cv_St) : cv_MXI LL G yX8_passedSlots cX8_passedSlots 2 (some .int) 7 137 1 6 [.ref (G.1 0), .int l1] σ (F_X8_passedSlots l1 σ) :=
  cv_mkXI htr (by decide) (Nat.le_of_ble_eq_true rfl) (fun X hX hC => J_X8_passedSlots htr hX hC l1 σ)
/-! X8_missingSlots -/
set_option maxRecDepth 20000 in
set_option maxHeartbeats 2000000 in
theorem J_X8_missingSlots {X : cv_X} {G : cv_G} {LL : Launch} (htr : LL.stackTraces = false) (hX : cv_CX X G) (hC : cv_C X G LL RX8 cX8_missingSlots 2 (some .int) { frames := 7, cells := 1, slots := 6, locals := 137 }) (l1 : Int32) (σ : cv_St) : cv_J X G 2 0 0 (cv_QXI X G 1 6) 0 [(0, .ref (G.1 0)), (1, .int l1)] [] σ (F_X8_missingSlots l1 σ) := by
  unfold F_X8_missingSlots
  refine cv_aload_n hC 0 dX8_missingSlots_0 rfl rfl ?_
  refine cv_callVv (ob := 0) hC [] [] (M_X8_inferFacts LL G σ) ln_X8_152 vm_X8_inferFacts (ob_0 G) rfl rfl (Nat.le_of_ble_eq_true rfl) ⟨Nat.le_of_ble_eq_true rfl, Nat.le_of_ble_eq_true rfl⟩ ⟨Nat.le_of_ble_eq_true rfl, Nat.le_of_ble_eq_true rfl⟩ dX8_missingSlots_1 (fun s1 => ?_)
  refine cv_aload_n hC 0 dX8_missingSlots_4 rfl rfl ?_
  refine cv_iload_n hC 1 dX8_missingSlots_5 rfl rfl ?_
  refine cv_callXVI (ob := 0) hX hC [.int l1] [] (M_X8_checkSite htr G l1 s1) ln_X8_201 vm_X8_checkSite (ob_0 G) rfl rfl (Nat.le_of_ble_eq_true rfl) ⟨Nat.le_of_ble_eq_true rfl, Nat.le_of_ble_eq_true rfl⟩ ⟨Nat.le_of_ble_eq_true rfl, Nat.le_of_ble_eq_true rfl⟩ ⟨Nat.le_of_ble_eq_true rfl, Nat.le_of_ble_eq_true rfl⟩ dX8_missingSlots_6 (fun s2 => ?_)
  refine cv_aload_n hC 0 dX8_missingSlots_9 rfl rfl ?_
  refine cv_getr hC (fg_X8_63_0 G) dX8_missingSlots_10 ?_
  refine cv_iload_n hC 1 dX8_missingSlots_13 rfl rfl ?_
  refine cv_callVi (ob := 8) hC [.int l1] [] (M_X5_missing LL G l1 s2) ln_X8_217 vm_X5_missing (ob_8 G) rfl rfl (Nat.le_of_ble_eq_true rfl) ⟨Nat.le_of_ble_eq_true rfl, Nat.le_of_ble_eq_true rfl⟩ ⟨Nat.le_of_ble_eq_true rfl, Nat.le_of_ble_eq_true rfl⟩ dX8_missingSlots_14 (fun v4 s3 => ?_)
  exact cv_xiret hC ⟨Nat.le_of_ble_eq_true rfl, Nat.le_of_ble_eq_true rfl⟩ dX8_missingSlots_17
set_option maxRecDepth 20000 in
set_option maxHeartbeats 2000000 in
theorem M_X8_missingSlots {LL : Launch} (htr : LL.stackTraces = false) (G : cv_G) (l1 : Int32) (σ : cv_St) : cv_MXI LL G yX8_missingSlots cX8_missingSlots 2 (some .int) 7 137 1 6 [.ref (G.1 0), .int l1] σ (F_X8_missingSlots l1 σ) :=
  cv_mkXI htr (by decide) (Nat.le_of_ble_eq_true rfl) (fun X hX hC => J_X8_missingSlots htr hX hC l1 σ)
/-! X8_lostRegisters -/
set_option maxRecDepth 20000 in
set_option maxHeartbeats 2000000 in
theorem J_X8_lostRegisters {X : cv_X} {G : cv_G} {LL : Launch} (htr : LL.stackTraces = false) (hX : cv_CX X G) (hC : cv_C X G LL RX8 cX8_lostRegisters 2 (some .int) { frames := 7, cells := 1, slots := 6, locals := 137 }) (l1 : Int32) (σ : cv_St) : cv_J X G 2 0 0 (cv_QXI X G 1 6) 0 [(0, .ref (G.1 0)), (1, .int l1)] [] σ (F_X8_lostRegisters l1 σ) := by
  unfold F_X8_lostRegisters
  refine cv_aload_n hC 0 dX8_lostRegisters_0 rfl rfl ?_
  refine cv_callVv (ob := 0) hC [] [] (M_X8_inferFacts LL G σ) ln_X8_152 vm_X8_inferFacts (ob_0 G) rfl rfl (Nat.le_of_ble_eq_true rfl) ⟨Nat.le_of_ble_eq_true rfl, Nat.le_of_ble_eq_true rfl⟩ ⟨Nat.le_of_ble_eq_true rfl, Nat.le_of_ble_eq_true rfl⟩ dX8_lostRegisters_1 (fun s1 => ?_)
  refine cv_aload_n hC 0 dX8_lostRegisters_4 rfl rfl ?_
  refine cv_iload_n hC 1 dX8_lostRegisters_5 rfl rfl ?_
  refine cv_callXVI (ob := 0) hX hC [.int l1] [] (M_X8_checkSite htr G l1 s1) ln_X8_201 vm_X8_checkSite (ob_0 G) rfl rfl (Nat.le_of_ble_eq_true rfl) ⟨Nat.le_of_ble_eq_true rfl, Nat.le_of_ble_eq_true rfl⟩ ⟨Nat.le_of_ble_eq_true rfl, Nat.le_of_ble_eq_true rfl⟩ ⟨Nat.le_of_ble_eq_true rfl, Nat.le_of_ble_eq_true rfl⟩ dX8_lostRegisters_6 (fun s2 => ?_)
  refine cv_aload_n hC 0 dX8_lostRegisters_9 rfl rfl ?_
  refine cv_iload_n hC 1 dX8_lostRegisters_10 rfl rfl ?_
  refine cv_callVi (ob := 0) hC [.int l1] [] (M_X8_lostAt LL G l1 s2) ln_X8_220 vm_X8_lostAt (ob_0 G) rfl rfl (Nat.le_of_ble_eq_true rfl) ⟨Nat.le_of_ble_eq_true rfl, Nat.le_of_ble_eq_true rfl⟩ ⟨Nat.le_of_ble_eq_true rfl, Nat.le_of_ble_eq_true rfl⟩ dX8_lostRegisters_11 (fun v4 s3 => ?_)
  exact cv_xiret hC ⟨Nat.le_of_ble_eq_true rfl, Nat.le_of_ble_eq_true rfl⟩ dX8_lostRegisters_14
set_option maxRecDepth 20000 in
set_option maxHeartbeats 2000000 in
theorem M_X8_lostRegisters {LL : Launch} (htr : LL.stackTraces = false) (G : cv_G) (l1 : Int32) (σ : cv_St) : cv_MXI LL G yX8_lostRegisters cX8_lostRegisters 2 (some .int) 7 137 1 6 [.ref (G.1 0), .int l1] σ (F_X8_lostRegisters l1 σ) :=
  cv_mkXI htr (by decide) (Nat.le_of_ble_eq_true rfl) (fun X hX hC => J_X8_lostRegisters htr hX hC l1 σ)
/-! X8_liveBehind -/
set_option maxRecDepth 20000 in
set_option maxHeartbeats 2000000 in
theorem J_X8_liveBehind {X : cv_X} {G : cv_G} {LL : Launch} (htr : LL.stackTraces = false) (hX : cv_CX X G) (hC : cv_C X G LL RX8 cX8_liveBehind 2 (some .int) { frames := 7, cells := 1, slots := 6, locals := 137 }) (l1 : Int32) (σ : cv_St) : cv_J X G 2 0 0 (cv_QXI X G 1 6) 0 [(0, .ref (G.1 0)), (1, .int l1)] [] σ (F_X8_liveBehind l1 σ) := by
  unfold F_X8_liveBehind
  refine cv_aload_n hC 0 dX8_liveBehind_0 rfl rfl ?_
  refine cv_callVv (ob := 0) hC [] [] (M_X8_inferFacts LL G σ) ln_X8_152 vm_X8_inferFacts (ob_0 G) rfl rfl (Nat.le_of_ble_eq_true rfl) ⟨Nat.le_of_ble_eq_true rfl, Nat.le_of_ble_eq_true rfl⟩ ⟨Nat.le_of_ble_eq_true rfl, Nat.le_of_ble_eq_true rfl⟩ dX8_liveBehind_1 (fun s1 => ?_)
  refine cv_aload_n hC 0 dX8_liveBehind_4 rfl rfl ?_
  refine cv_iload_n hC 1 dX8_liveBehind_5 rfl rfl ?_
  refine cv_callXVI (ob := 0) hX hC [.int l1] [] (M_X8_checkSite htr G l1 s1) ln_X8_201 vm_X8_checkSite (ob_0 G) rfl rfl (Nat.le_of_ble_eq_true rfl) ⟨Nat.le_of_ble_eq_true rfl, Nat.le_of_ble_eq_true rfl⟩ ⟨Nat.le_of_ble_eq_true rfl, Nat.le_of_ble_eq_true rfl⟩ ⟨Nat.le_of_ble_eq_true rfl, Nat.le_of_ble_eq_true rfl⟩ dX8_liveBehind_6 (fun s2 => ?_)
  refine cv_aload_n hC 0 dX8_liveBehind_9 rfl rfl ?_
  refine cv_getr hC (fg_X8_56_0 G) dX8_liveBehind_10 ?_
  refine cv_aload_n hC 0 dX8_liveBehind_13 rfl rfl ?_
  refine cv_getr hC (fg_X8_63_0 G) dX8_liveBehind_14 ?_
  refine cv_getr hC (fg_X8_206_8 G) dX8_liveBehind_17 ?_
  refine cv_iload_n hC 1 dX8_liveBehind_20 rfl rfl ?_
  refine cv_iald hC (cv_a32 G) dX8_liveBehind_21 (fun v3 => ?_)
  refine cv_aload_n hC 0 dX8_liveBehind_22 rfl rfl ?_
  refine cv_getr hC (fg_X8_63_0 G) dX8_liveBehind_23 ?_
  refine cv_getr hC (fg_X8_208_8 G) dX8_liveBehind_26 ?_
  refine cv_iload_n hC 1 dX8_liveBehind_29 rfl rfl ?_
  refine cv_iald hC (cv_a33 G) dX8_liveBehind_30 (fun v4 => ?_)
  refine cv_callVi (ob := 7) hC [.int v3, .int v4] [] (M_X3_behind LL G v3 v4 s2) ln_X8_223 vm_X3_behind (ob_7 G) rfl rfl (Nat.le_of_ble_eq_true rfl) ⟨Nat.le_of_ble_eq_true rfl, Nat.le_of_ble_eq_true rfl⟩ ⟨Nat.le_of_ble_eq_true rfl, Nat.le_of_ble_eq_true rfl⟩ dX8_liveBehind_31 (fun v6 s5 => ?_)
  exact cv_xiret hC ⟨Nat.le_of_ble_eq_true rfl, Nat.le_of_ble_eq_true rfl⟩ dX8_liveBehind_34
set_option maxRecDepth 20000 in
set_option maxHeartbeats 2000000 in
theorem M_X8_liveBehind {LL : Launch} (htr : LL.stackTraces = false) (G : cv_G) (l1 : Int32) (σ : cv_St) : cv_MXI LL G yX8_liveBehind cX8_liveBehind 2 (some .int) 7 137 1 6 [.ref (G.1 0), .int l1] σ (F_X8_liveBehind l1 σ) :=
  cv_mkXI htr (by decide) (Nat.le_of_ble_eq_true rfl) (fun X hX hC => J_X8_liveBehind htr hX hC l1 σ)
/-! X8_firstProblem -/
set_option maxRecDepth 20000 in
set_option maxHeartbeats 2000000 in
theorem I_X8_firstProblem_b6 {X : cv_X} {G : cv_G} {LL : Launch} (htr : LL.stackTraces = false) (hX : cv_CX X G) (hC : cv_C X G LL RX8 cX8_firstProblem 2 (some .int) { frames := 6, cells := 1, slots := 6, locals := 137 }) (k6 : Int32 → cv_St → Option (Nat × Int32 × cv_St)) (hk6 : ∀ (l1 : Int32)  σ, cv_J X G 2 0 0 (cv_QXI X G 1 6) 6 [(0, .ref (G.1 0)), (1, .int l1)] [] σ (k6 l1 σ)) (l1 : Int32) (σ : cv_St) : cv_J X G 2 0 0 (cv_QXI X G 1 6) 6 [(0, .ref (G.1 0)), (1, .int l1)] [] σ (B_X8_firstProblem_b6 k6 l1 σ) := by
  unfold B_X8_firstProblem_b6
  refine cv_iload_n hC 1 dX8_firstProblem_6 rfl rfl ?_
  refine cv_aload_n hC 0 dX8_firstProblem_7 rfl rfl ?_
  refine cv_getr hC (fg_X8_63_0 G) dX8_firstProblem_8 ?_
  refine cv_geti hC (fg_X8_200_8 G) dX8_firstProblem_11 ?_
  refine cv_icmp_ge (tgt := 33) hC dX8_firstProblem_14 (by decide) ?_ ?_
  · exact cv_nthrowIS hX hC tw_5_235 ⟨Nat.le_of_ble_eq_true rfl, Nat.le_of_ble_eq_true rfl⟩ ⟨Nat.le_of_ble_eq_true rfl, Nat.le_of_ble_eq_true rfl⟩ ⟨Nat.le_of_ble_eq_true rfl, Nat.le_of_ble_eq_true rfl⟩ dX8_firstProblem_33 dX8_firstProblem_36 dX8_firstProblem_37 dX8_firstProblem_39 dX8_firstProblem_42
  · refine cv_aload_n hC 0 dX8_firstProblem_17 rfl rfl ?_
    refine cv_iload_n hC 1 dX8_firstProblem_18 rfl rfl ?_
    refine cv_callVi (ob := 0) hC [.int l1] [] (M_X8_hasProblem LL G l1 σ) ln_X8_230 vm_X8_hasProblem (ob_0 G) rfl rfl (Nat.le_of_ble_eq_true rfl) ⟨Nat.le_of_ble_eq_true rfl, Nat.le_of_ble_eq_true rfl⟩ ⟨Nat.le_of_ble_eq_true rfl, Nat.le_of_ble_eq_true rfl⟩ dX8_firstProblem_19 (fun v3 s2 => ?_)
    refine cv_if_eq (tgt := 27) hC dX8_firstProblem_22 (by decide) ?_ ?_
    · refine cv_iinc (lv' := [(1, .int (l1 + Int32.ofInt 1)), (0, .ref (G.1 0))]) hC 1 dX8_firstProblem_27 rfl (by decide) rfl ?_
      refine cv_goto (tgt := 6) hC dX8_firstProblem_30 (by decide) ?_
      exact cv_sub [1, 0] rfl (hk6 (l1 + Int32.ofInt 1) s2)
    · refine cv_iload_n hC 1 dX8_firstProblem_25 rfl rfl ?_
      exact cv_xiret hC ⟨Nat.le_of_ble_eq_true rfl, Nat.le_of_ble_eq_true rfl⟩ dX8_firstProblem_26
set_option maxRecDepth 20000 in
set_option maxHeartbeats 2000000 in
theorem J_X8_firstProblem_b6 {X : cv_X} {G : cv_G} {LL : Launch} (htr : LL.stackTraces = false) (hX : cv_CX X G) (hC : cv_C X G LL RX8 cX8_firstProblem 2 (some .int) { frames := 6, cells := 1, slots := 6, locals := 137 }) : ∀ (n : Nat) (l1 : Int32) (σ : cv_St), cv_J X G 2 0 0 (cv_QXI X G 1 6) 6 [(0, .ref (G.1 0)), (1, .int l1)] [] σ (F_X8_firstProblem_b6 n l1 σ) := by
  intro n
  induction n with
  | zero => intro l1 σ; exact cv_none
  | succ n ih => intro l1 σ; exact I_X8_firstProblem_b6 htr hX hC _ ih l1 σ
set_option maxRecDepth 20000 in
set_option maxHeartbeats 2000000 in
theorem J_X8_firstProblem {X : cv_X} {G : cv_G} {LL : Launch} (htr : LL.stackTraces = false) (hX : cv_CX X G) (hC : cv_C X G LL RX8 cX8_firstProblem 2 (some .int) { frames := 6, cells := 1, slots := 6, locals := 137 }) (σ : cv_St) : cv_J X G 2 0 0 (cv_QXI X G 1 6) 0 [(0, .ref (G.1 0))] [] σ (F_X8_firstProblem σ) := by
  unfold F_X8_firstProblem
  refine cv_aload_n hC 0 dX8_firstProblem_0 rfl rfl ?_
  refine cv_callVv (ob := 0) hC [] [] (M_X8_inferFacts LL G σ) ln_X8_152 vm_X8_inferFacts (ob_0 G) rfl rfl (Nat.le_of_ble_eq_true rfl) ⟨Nat.le_of_ble_eq_true rfl, Nat.le_of_ble_eq_true rfl⟩ ⟨Nat.le_of_ble_eq_true rfl, Nat.le_of_ble_eq_true rfl⟩ dX8_firstProblem_1 (fun s1 => ?_)
  refine cv_iconst (v := 0) hC dX8_firstProblem_4 cb_iconst_0 ?_
  refine cv_istore_n (lv' := [(1, .int 0), (0, .ref (G.1 0))]) hC dX8_firstProblem_5 rfl (by decide) rfl ?_
  exact cv_sub [1, 0] rfl (J_X8_firstProblem_b6 htr hX hC 1000 0 s1)
set_option maxRecDepth 20000 in
set_option maxHeartbeats 2000000 in
theorem M_X8_firstProblem {LL : Launch} (htr : LL.stackTraces = false) (G : cv_G) (σ : cv_St) : cv_MXI LL G yX8_firstProblem cX8_firstProblem 2 (some .int) 6 137 1 6 [.ref (G.1 0)] σ (F_X8_firstProblem σ) :=
  cv_mkXI htr (by decide) (Nat.le_of_ble_eq_true rfl) (fun X hX hC => J_X8_firstProblem htr hX hC σ)
/-! X8_checkRegister -/
set_option maxRecDepth 20000 in
set_option maxHeartbeats 2000000 in
theorem J_X8_checkRegister {X : cv_X} {G : cv_G} {LL : Launch} (htr : LL.stackTraces = false) (hX : cv_CX X G) (hC : cv_C X G LL RX8 cX8_checkRegister 2 none { frames := 6, cells := 1, slots := 6, locals := 90 }) (l1 : Int32) (σ : cv_St) : cv_J X G 2 0 0 (cv_QXV X G 1 6) 0 [(0, .ref (G.1 0)), (1, .int l1)] [] σ (F_X8_checkRegister l1 σ) := by
  unfold F_X8_checkRegister
  refine cv_iload_n hC 1 dX8_checkRegister_0 rfl rfl ?_
  refine cv_if_lt (tgt := 10) hC dX8_checkRegister_1 (by decide) ?_ ?_
  · exact cv_throwVSW hX hC 1 tw_1_288 ⟨Nat.le_of_ble_eq_true rfl, Nat.le_of_ble_eq_true rfl⟩ ⟨Nat.le_of_ble_eq_true rfl, Nat.le_of_ble_eq_true rfl⟩ ⟨Nat.le_of_ble_eq_true rfl, Nat.le_of_ble_eq_true rfl⟩ dX8_checkRegister_10 dX8_checkRegister_13 dX8_checkRegister_14 dX8_checkRegister_17 dX8_checkRegister_20
  · refine cv_iload_n hC 1 dX8_checkRegister_4 rfl rfl ?_
    refine cv_bipush (v := 8) hC dX8_checkRegister_5 cb_bipush_8 ?_
    refine cv_icmp_lt (tgt := 21) hC dX8_checkRegister_7 (by decide) ?_ ?_
    · exact cv_xvret hC ⟨Nat.le_of_ble_eq_true rfl, Nat.le_of_ble_eq_true rfl⟩ dX8_checkRegister_21
    · exact cv_throwVSW hX hC 1 tw_1_288 ⟨Nat.le_of_ble_eq_true rfl, Nat.le_of_ble_eq_true rfl⟩ ⟨Nat.le_of_ble_eq_true rfl, Nat.le_of_ble_eq_true rfl⟩ ⟨Nat.le_of_ble_eq_true rfl, Nat.le_of_ble_eq_true rfl⟩ dX8_checkRegister_10 dX8_checkRegister_13 dX8_checkRegister_14 dX8_checkRegister_17 dX8_checkRegister_20
set_option maxRecDepth 20000 in
set_option maxHeartbeats 2000000 in
theorem M_X8_checkRegister {LL : Launch} (htr : LL.stackTraces = false) (G : cv_G) (l1 : Int32) (σ : cv_St) : cv_MXV LL G yX8_checkRegister cX8_checkRegister 2 6 90 1 6 [.ref (G.1 0), .int l1] σ (F_X8_checkRegister l1 σ) :=
  cv_mkXV htr (by decide) (Nat.le_of_ble_eq_true rfl) (fun X hX hC => J_X8_checkRegister htr hX hC l1 σ)
/-! X8_votes -/
set_option maxRecDepth 20000 in
set_option maxHeartbeats 2000000 in
theorem J_X8_votes {X : cv_X} {G : cv_G} {LL : Launch} (htr : LL.stackTraces = false) (hX : cv_CX X G) (hC : cv_C X G LL RX8 cX8_votes 3 (some .int) { frames := 7, cells := 2, slots := 12, locals := 137 }) (l1 : Int32) (l2 : Int32) (σ : cv_St) : cv_J X G 3 0 0 (cv_QXI X G 2 12) 0 [(0, .ref (G.1 0)), (1, .int l1), (2, .int l2)] [] σ (F_X8_votes l1 l2 σ) := by
  unfold F_X8_votes
  refine cv_aload_n hC 0 dX8_votes_0 rfl rfl ?_
  refine cv_iload_n hC 1 dX8_votes_1 rfl rfl ?_
  refine cv_callXVI (ob := 0) hX hC [.int l1] [] (M_X8_checkRegister htr G l1 σ) ln_X8_238 vm_X8_checkRegister (ob_0 G) rfl rfl (Nat.le_of_ble_eq_true rfl) ⟨Nat.le_of_ble_eq_true rfl, Nat.le_of_ble_eq_true rfl⟩ ⟨Nat.le_of_ble_eq_true rfl, Nat.le_of_ble_eq_true rfl⟩ ⟨Nat.le_of_ble_eq_true rfl, Nat.le_of_ble_eq_true rfl⟩ dX8_votes_2 (fun s1 => ?_)
  refine cv_iload_n hC 2 dX8_votes_5 rfl rfl ?_
  refine cv_if_lt (tgt := 14) hC dX8_votes_6 (by decide) ?_ ?_
  · exact cv_throwIS hX hC 2 tw_2_241 ⟨Nat.le_of_ble_eq_true rfl, Nat.le_of_ble_eq_true rfl⟩ ⟨Nat.le_of_ble_eq_true rfl, Nat.le_of_ble_eq_true rfl⟩ ⟨Nat.le_of_ble_eq_true rfl, Nat.le_of_ble_eq_true rfl⟩ dX8_votes_14 dX8_votes_17 dX8_votes_18 dX8_votes_20 dX8_votes_23
  · refine cv_iload_n hC 2 dX8_votes_9 rfl rfl ?_
    refine cv_iconst (v := 3) hC dX8_votes_10 cb_iconst_3 ?_
    refine cv_icmp_le (tgt := 24) hC dX8_votes_11 (by decide) ?_ ?_
    · refine cv_aload_n hC 0 dX8_votes_24 rfl rfl ?_
      refine cv_callVv (ob := 0) hC [] [] (M_X8_inferFacts LL G s1) ln_X8_152 vm_X8_inferFacts (ob_0 G) rfl rfl (Nat.le_of_ble_eq_true rfl) ⟨Nat.le_of_ble_eq_true rfl, Nat.le_of_ble_eq_true rfl⟩ ⟨Nat.le_of_ble_eq_true rfl, Nat.le_of_ble_eq_true rfl⟩ dX8_votes_25 (fun s2 => ?_)
      refine cv_aload_n hC 0 dX8_votes_28 rfl rfl ?_
      refine cv_iload_n hC 1 dX8_votes_29 rfl rfl ?_
      refine cv_iload_n hC 2 dX8_votes_30 rfl rfl ?_
      refine cv_callVi (ob := 0) hC [.int l1, .int l2] [] (M_X8_countVotes LL G l1 l2 s2) ln_X8_243 vm_X8_countVotes (ob_0 G) rfl rfl (Nat.le_of_ble_eq_true rfl) ⟨Nat.le_of_ble_eq_true rfl, Nat.le_of_ble_eq_true rfl⟩ ⟨Nat.le_of_ble_eq_true rfl, Nat.le_of_ble_eq_true rfl⟩ dX8_votes_31 (fun v4 s3 => ?_)
      exact cv_xiret hC ⟨Nat.le_of_ble_eq_true rfl, Nat.le_of_ble_eq_true rfl⟩ dX8_votes_34
    · exact cv_throwIS hX hC 2 tw_2_241 ⟨Nat.le_of_ble_eq_true rfl, Nat.le_of_ble_eq_true rfl⟩ ⟨Nat.le_of_ble_eq_true rfl, Nat.le_of_ble_eq_true rfl⟩ ⟨Nat.le_of_ble_eq_true rfl, Nat.le_of_ble_eq_true rfl⟩ dX8_votes_14 dX8_votes_17 dX8_votes_18 dX8_votes_20 dX8_votes_23
set_option maxRecDepth 20000 in
set_option maxHeartbeats 2000000 in
theorem M_X8_votes {LL : Launch} (htr : LL.stackTraces = false) (G : cv_G) (l1 : Int32) (l2 : Int32) (σ : cv_St) : cv_MXI LL G yX8_votes cX8_votes 3 (some .int) 7 137 2 12 [.ref (G.1 0), .int l1, .int l2] σ (F_X8_votes l1 l2 σ) :=
  cv_mkXI htr (by decide) (Nat.le_of_ble_eq_true rfl) (fun X hX hC => J_X8_votes htr hX hC l1 l2 σ)
/-! X8_role -/
set_option maxRecDepth 20000 in
set_option maxHeartbeats 2000000 in
theorem J_X8_role {X : cv_X} {G : cv_G} {LL : Launch} (htr : LL.stackTraces = false) (hX : cv_CX X G) (hC : cv_C X G LL RX8 cX8_role 3 (some .int) { frames := 7, cells := 2, slots := 12, locals := 137 }) (l1 : Int32) (σ : cv_St) : cv_J X G 3 0 0 (cv_QXI X G 2 12) 0 [(0, .ref (G.1 0)), (1, .int l1)] [] σ (F_X8_role l1 σ) := by
  unfold F_X8_role
  refine cv_aload_n hC 0 dX8_role_0 rfl rfl ?_
  refine cv_iload_n hC 1 dX8_role_1 rfl rfl ?_
  refine cv_callXVI (ob := 0) hX hC [.int l1] [] (M_X8_checkRegister htr G l1 σ) ln_X8_238 vm_X8_checkRegister (ob_0 G) rfl rfl (Nat.le_of_ble_eq_true rfl) ⟨Nat.le_of_ble_eq_true rfl, Nat.le_of_ble_eq_true rfl⟩ ⟨Nat.le_of_ble_eq_true rfl, Nat.le_of_ble_eq_true rfl⟩ ⟨Nat.le_of_ble_eq_true rfl, Nat.le_of_ble_eq_true rfl⟩ dX8_role_2 (fun s1 => ?_)
  refine cv_aload_n hC 0 dX8_role_5 rfl rfl ?_
  refine cv_getr hC (fg_X8_19_0 G) dX8_role_6 ?_
  refine cv_callVi (ob := 2) hC [] [] (M_X0_countFilled LL G s1) ln_X8_246 vm_X0_countFilled (ob_2 G) rfl rfl (Nat.le_of_ble_eq_true rfl) ⟨Nat.le_of_ble_eq_true rfl, Nat.le_of_ble_eq_true rfl⟩ ⟨Nat.le_of_ble_eq_true rfl, Nat.le_of_ble_eq_true rfl⟩ dX8_role_9 (fun v3 s2 => ?_)
  refine cv_istore_n (lv' := [(2, .int v3), (0, .ref (G.1 0)), (1, .int l1)]) hC dX8_role_12 rfl (by decide) rfl ?_
  refine cv_iload_n hC 0 dX8_role_13 rfl rfl ?_
  refine cv_if_ne (tgt := 27) hC dX8_role_14 (by decide) ?_ ?_
  · refine cv_aload_n hC 1 dX8_role_27 rfl rfl ?_
    refine cv_callVv (ob := 0) hC [] [] (M_X8_inferFacts LL G s2) ln_X8_152 vm_X8_inferFacts (ob_0 G) rfl rfl (Nat.le_of_ble_eq_true rfl) ⟨Nat.le_of_ble_eq_true rfl, Nat.le_of_ble_eq_true rfl⟩ ⟨Nat.le_of_ble_eq_true rfl, Nat.le_of_ble_eq_true rfl⟩ dX8_role_28 (fun s4 => ?_)
    refine cv_iconst (v := 2) hC dX8_role_31 cb_iconst_2 ?_
    refine cv_aload_n hC 1 dX8_role_32 rfl rfl ?_
    refine cv_iload_n hC 2 dX8_role_33 rfl rfl ?_
    refine cv_iconst (v := 0) hC dX8_role_34 cb_iconst_0 ?_
    refine cv_callVi (ob := 0) hC [.int l1, .int 0] [.int 2] (M_X8_countVotes LL G l1 0 s4) ln_X8_243 vm_X8_countVotes (ob_0 G) rfl rfl (Nat.le_of_ble_eq_true rfl) ⟨Nat.le_of_ble_eq_true rfl, Nat.le_of_ble_eq_true rfl⟩ ⟨Nat.le_of_ble_eq_true rfl, Nat.le_of_ble_eq_true rfl⟩ dX8_role_35 (fun v6 s5 => ?_)
    refine cv_imul hC dX8_role_38 ?_
    refine cv_iload_n hC 0 dX8_role_39 rfl rfl ?_
    refine cv_icmp_lt (tgt := 45) hC dX8_role_40 (by decide) ?_ ?_
    · refine cv_aload_n hC 1 dX8_role_45 rfl rfl ?_
      refine cv_iload_n hC 2 dX8_role_46 rfl rfl ?_
      refine cv_iconst (v := 1) hC dX8_role_47 cb_iconst_1 ?_
      refine cv_callVi (ob := 0) hC [.int l1, .int 1] [] (M_X8_countVotes LL G l1 1 s5) ln_X8_243 vm_X8_countVotes (ob_0 G) rfl rfl (Nat.le_of_ble_eq_true rfl) ⟨Nat.le_of_ble_eq_true rfl, Nat.le_of_ble_eq_true rfl⟩ ⟨Nat.le_of_ble_eq_true rfl, Nat.le_of_ble_eq_true rfl⟩ dX8_role_48 (fun v8 s7 => ?_)
      refine cv_iconst (v := 1) hC dX8_role_51 cb_iconst_1 ?_
      refine cv_icmp_lt (tgt := 57) hC dX8_role_52 (by decide) ?_ ?_
      · refine cv_iconst (v := 2) hC dX8_role_57 cb_iconst_2 ?_
        refine cv_aload_n hC 1 dX8_role_58 rfl rfl ?_
        refine cv_iload_n hC 2 dX8_role_59 rfl rfl ?_
        refine cv_iconst (v := 2) hC dX8_role_60 cb_iconst_2 ?_
        refine cv_callVi (ob := 0) hC [.int l1, .int 2] [.int 2] (M_X8_countVotes LL G l1 2 s7) ln_X8_243 vm_X8_countVotes (ob_0 G) rfl rfl (Nat.le_of_ble_eq_true rfl) ⟨Nat.le_of_ble_eq_true rfl, Nat.le_of_ble_eq_true rfl⟩ ⟨Nat.le_of_ble_eq_true rfl, Nat.le_of_ble_eq_true rfl⟩ dX8_role_61 (fun v10 s9 => ?_)
        refine cv_imul hC dX8_role_64 ?_
        refine cv_iload_n hC 0 dX8_role_65 rfl rfl ?_
        refine cv_icmp_lt (tgt := 73) hC dX8_role_66 (by decide) ?_ ?_
        · refine cv_iconst (v := 4) hC dX8_role_73 cb_iconst_4 ?_
          exact cv_xiret hC ⟨Nat.le_of_ble_eq_true rfl, Nat.le_of_ble_eq_true rfl⟩ dX8_role_74
        · refine cv_iconst (v := 3) hC dX8_role_69 cb_iconst_3 ?_
          refine cv_goto (tgt := 74) hC dX8_role_70 (by decide) ?_
          exact cv_xiret hC ⟨Nat.le_of_ble_eq_true rfl, Nat.le_of_ble_eq_true rfl⟩ dX8_role_74
      · refine cv_iconst (v := 2) hC dX8_role_55 cb_iconst_2 ?_
        exact cv_xiret hC ⟨Nat.le_of_ble_eq_true rfl, Nat.le_of_ble_eq_true rfl⟩ dX8_role_56
    · refine cv_iconst (v := 1) hC dX8_role_43 cb_iconst_1 ?_
      exact cv_xiret hC ⟨Nat.le_of_ble_eq_true rfl, Nat.le_of_ble_eq_true rfl⟩ dX8_role_44
  · exact cv_nthrowIS hX hC tw_5_249 ⟨Nat.le_of_ble_eq_true rfl, Nat.le_of_ble_eq_true rfl⟩ ⟨Nat.le_of_ble_eq_true rfl, Nat.le_of_ble_eq_true rfl⟩ ⟨Nat.le_of_ble_eq_true rfl, Nat.le_of_ble_eq_true rfl⟩ dX8_role_17 dX8_role_20 dX8_role_21 dX8_role_23 dX8_role_26
set_option maxRecDepth 20000 in
set_option maxHeartbeats 2000000 in
theorem M_X8_role {LL : Launch} (htr : LL.stackTraces = false) (G : cv_G) (l1 : Int32) (σ : cv_St) : cv_MXI LL G yX8_role cX8_role 3 (some .int) 7 137 2 12 [.ref (G.1 0), .int l1] σ (F_X8_role l1 σ) :=
  cv_mkXI htr (by decide) (Nat.le_of_ble_eq_true rfl) (fun X hX hC => J_X8_role htr hX hC l1 σ)
/-! X8_run -/
set_option maxRecDepth 20000 in
set_option maxHeartbeats 2000000 in
theorem J_X8_run {X : cv_X} {G : cv_G} {LL : Launch} (htr : LL.stackTraces = false) (hX : cv_CX X G) (hC : cv_C X G LL RX8 cX8_run 3 (some .int) { frames := 7, cells := 1, slots := 6, locals := 112 }) (l1 : Int32) (l2 : Int32) (σ : cv_St) : cv_J X G 3 0 0 (cv_QXI X G 1 6) 0 [(0, .ref (G.1 0)), (1, .int l1), (2, .int l2)] [] σ (F_X8_run l1 l2 σ) := by
  unfold F_X8_run
  refine cv_aload_n hC 0 dX8_run_0 rfl rfl ?_
  refine cv_iload_n hC 1 dX8_run_1 rfl rfl ?_
  refine cv_callXVI (ob := 0) hX hC [.int l1] [] (M_X8_checkFunction htr G l1 σ) ln_X8_104 vm_X8_checkFunction (ob_0 G) rfl rfl (Nat.le_of_ble_eq_true rfl) ⟨Nat.le_of_ble_eq_true rfl, Nat.le_of_ble_eq_true rfl⟩ ⟨Nat.le_of_ble_eq_true rfl, Nat.le_of_ble_eq_true rfl⟩ ⟨Nat.le_of_ble_eq_true rfl, Nat.le_of_ble_eq_true rfl⟩ dX8_run_2 (fun s1 => ?_)
  refine cv_aload_n hC 0 dX8_run_5 rfl rfl ?_
  refine cv_getr hC (fg_X8_70_0 G) dX8_run_6 ?_
  refine cv_iload_n hC 1 dX8_run_9 rfl rfl ?_
  refine cv_iload_n hC 2 dX8_run_10 rfl rfl ?_
  refine cv_callVv (ob := 9) hC [.int l1, .int l2] [] (M_X4_execute LL G l1 l2 s1) ln_X8_251 vm_X4_execute (ob_9 G) rfl rfl (Nat.le_of_ble_eq_true rfl) ⟨Nat.le_of_ble_eq_true rfl, Nat.le_of_ble_eq_true rfl⟩ ⟨Nat.le_of_ble_eq_true rfl, Nat.le_of_ble_eq_true rfl⟩ dX8_run_11 (fun s2 => ?_)
  refine cv_aload_n hC 0 dX8_run_14 rfl rfl ?_
  refine cv_iconst (v := 1) hC dX8_run_15 cb_iconst_1 ?_
  refine cv_putz hC (fp_X8_81_0 G) dX8_run_16 (fun s3 => ?_)
  refine cv_aload_n hC 0 dX8_run_19 rfl rfl ?_
  refine cv_getr hC (fg_X8_70_0 G) dX8_run_20 ?_
  refine cv_geti hC (fg_X8_254_9 G) dX8_run_23 ?_
  exact cv_xiret hC ⟨Nat.le_of_ble_eq_true rfl, Nat.le_of_ble_eq_true rfl⟩ dX8_run_26
set_option maxRecDepth 20000 in
set_option maxHeartbeats 2000000 in
theorem M_X8_run {LL : Launch} (htr : LL.stackTraces = false) (G : cv_G) (l1 : Int32) (l2 : Int32) (σ : cv_St) : cv_MXI LL G yX8_run cX8_run 3 (some .int) 7 112 1 6 [.ref (G.1 0), .int l1, .int l2] σ (F_X8_run l1 l2 σ) :=
  cv_mkXI htr (by decide) (Nat.le_of_ble_eq_true rfl) (fun X hX hC => J_X8_run htr hX hC l1 l2 σ)
/-! X8_checkRun -/
set_option maxRecDepth 20000 in
set_option maxHeartbeats 2000000 in
theorem J_X8_checkRun {X : cv_X} {G : cv_G} {LL : Launch} (htr : LL.stackTraces = false) (hX : cv_CX X G) (hC : cv_C X G LL RX8 cX8_checkRun 1 none { frames := 6, cells := 1, slots := 6, locals := 90 }) (σ : cv_St) : cv_J X G 1 0 0 (cv_QXV X G 1 6) 0 [(0, .ref (G.1 0))] [] σ (F_X8_checkRun σ) := by
  unfold F_X8_checkRun
  refine cv_aload_n hC 0 dX8_checkRun_0 rfl rfl ?_
  refine cv_geti hC (fg_X8_81_0 G) dX8_checkRun_1 ?_
  refine cv_if_ne (tgt := 18) hC dX8_checkRun_4 (by decide) ?_ ?_
  · exact cv_xvret hC ⟨Nat.le_of_ble_eq_true rfl, Nat.le_of_ble_eq_true rfl⟩ dX8_checkRun_18
  · exact cv_throwVSW hX hC 3 tw_3_292 ⟨Nat.le_of_ble_eq_true rfl, Nat.le_of_ble_eq_true rfl⟩ ⟨Nat.le_of_ble_eq_true rfl, Nat.le_of_ble_eq_true rfl⟩ ⟨Nat.le_of_ble_eq_true rfl, Nat.le_of_ble_eq_true rfl⟩ dX8_checkRun_7 dX8_checkRun_10 dX8_checkRun_11 dX8_checkRun_14 dX8_checkRun_17
set_option maxRecDepth 20000 in
set_option maxHeartbeats 2000000 in
theorem M_X8_checkRun {LL : Launch} (htr : LL.stackTraces = false) (G : cv_G) (σ : cv_St) : cv_MXV LL G yX8_checkRun cX8_checkRun 1 6 90 1 6 [.ref (G.1 0)] σ (F_X8_checkRun σ) :=
  cv_mkXV htr (by decide) (Nat.le_of_ble_eq_true rfl) (fun X hX hC => J_X8_checkRun htr hX hC σ)
/-! X8_isCut -/
set_option maxRecDepth 20000 in
set_option maxHeartbeats 2000000 in
theorem J_X8_isCut {X : cv_X} {G : cv_G} {LL : Launch} (htr : LL.stackTraces = false) (hX : cv_CX X G) (hC : cv_C X G LL RX8 cX8_isCut 1 (some .boolean) { frames := 7, cells := 1, slots := 6, locals := 110 }) (σ : cv_St) : cv_J X G 1 0 0 (cv_QXI X G 1 6) 0 [(0, .ref (G.1 0))] [] σ (F_X8_isCut σ) := by
  unfold F_X8_isCut
  refine cv_aload_n hC 0 dX8_isCut_0 rfl rfl ?_
  refine cv_callXVI (ob := 0) hX hC [] [] (M_X8_checkRun htr G σ) ln_X8_257 vm_X8_checkRun (ob_0 G) rfl rfl (Nat.le_of_ble_eq_true rfl) ⟨Nat.le_of_ble_eq_true rfl, Nat.le_of_ble_eq_true rfl⟩ ⟨Nat.le_of_ble_eq_true rfl, Nat.le_of_ble_eq_true rfl⟩ ⟨Nat.le_of_ble_eq_true rfl, Nat.le_of_ble_eq_true rfl⟩ dX8_isCut_1 (fun s1 => ?_)
  refine cv_aload_n hC 0 dX8_isCut_4 rfl rfl ?_
  refine cv_getr hC (fg_X8_70_0 G) dX8_isCut_5 ?_
  refine cv_geti hC (fg_X8_260_9 G) dX8_isCut_8 ?_
  exact cv_xzret hC ⟨Nat.le_of_ble_eq_true rfl, Nat.le_of_ble_eq_true rfl⟩ dX8_isCut_11
set_option maxRecDepth 20000 in
set_option maxHeartbeats 2000000 in
theorem M_X8_isCut {LL : Launch} (htr : LL.stackTraces = false) (G : cv_G) (σ : cv_St) : cv_MXI LL G yX8_isCut cX8_isCut 1 (some .boolean) 7 110 1 6 [.ref (G.1 0)] σ (F_X8_isCut σ) :=
  cv_mkXI htr (by decide) (Nat.le_of_ble_eq_true rfl) (fun X hX hC => J_X8_isCut htr hX hC σ)
/-! X8_checkNotCut -/
set_option maxRecDepth 20000 in
set_option maxHeartbeats 2000000 in
theorem J_X8_checkNotCut {X : cv_X} {G : cv_G} {LL : Launch} (htr : LL.stackTraces = false) (hX : cv_CX X G) (hC : cv_C X G LL RX8 cX8_checkNotCut 1 none { frames := 6, cells := 1, slots := 6, locals := 90 }) (σ : cv_St) : cv_J X G 1 0 0 (cv_QXV X G 1 6) 0 [(0, .ref (G.1 0))] [] σ (F_X8_checkNotCut σ) := by
  unfold F_X8_checkNotCut
  refine cv_aload_n hC 0 dX8_checkNotCut_0 rfl rfl ?_
  refine cv_getr hC (fg_X8_70_0 G) dX8_checkNotCut_1 ?_
  refine cv_geti hC (fg_X8_260_9 G) dX8_checkNotCut_4 ?_
  refine cv_if_eq (tgt := 21) hC dX8_checkNotCut_7 (by decide) ?_ ?_
  · exact cv_xvret hC ⟨Nat.le_of_ble_eq_true rfl, Nat.le_of_ble_eq_true rfl⟩ dX8_checkNotCut_21
  · exact cv_nthrowVSW hX hC tw_5_294 ⟨Nat.le_of_ble_eq_true rfl, Nat.le_of_ble_eq_true rfl⟩ ⟨Nat.le_of_ble_eq_true rfl, Nat.le_of_ble_eq_true rfl⟩ ⟨Nat.le_of_ble_eq_true rfl, Nat.le_of_ble_eq_true rfl⟩ dX8_checkNotCut_10 dX8_checkNotCut_13 dX8_checkNotCut_14 dX8_checkNotCut_17 dX8_checkNotCut_20
set_option maxRecDepth 20000 in
set_option maxHeartbeats 2000000 in
theorem M_X8_checkNotCut {LL : Launch} (htr : LL.stackTraces = false) (G : cv_G) (σ : cv_St) : cv_MXV LL G yX8_checkNotCut cX8_checkNotCut 1 6 90 1 6 [.ref (G.1 0)] σ (F_X8_checkNotCut σ) :=
  cv_mkXV htr (by decide) (Nat.le_of_ble_eq_true rfl) (fun X hX hC => J_X8_checkNotCut htr hX hC σ)
/-! X8_observed -/
set_option maxRecDepth 20000 in
set_option maxHeartbeats 2000000 in
theorem J_X8_observed_b37 {X : cv_X} {G : cv_G} {LL : Launch} (htr : LL.stackTraces = false) (hX : cv_CX X G) (hC : cv_C X G LL RX8 cX8_observed 3 (some .int) { frames := 7, cells := 2, slots := 12, locals := 110 }) (k12 : Int32 → Int32 → cv_St → Option (Nat × Int32 × cv_St)) (hk12 : ∀ (l1 : Int32) (l2 : Int32)  σ, cv_J X G 3 2 12 (cv_QXI X G 2 12) 12 [(0, .ref (G.1 0)), (1, .int l1), (2, .int l2)] [] σ (k12 l1 l2 σ)) (l1 : Int32) (l2 : Int32) (σ : cv_St) : cv_J X G 3 2 12 (cv_QXI X G 2 12) 37 [(0, .ref (G.1 0)), (1, .int l1), (2, .int l2)] [] σ (F_X8_observed_b37 k12 l1 l2 σ) := by
  unfold F_X8_observed_b37
  refine cv_iinc (lv' := [(2, .int (l2 + Int32.ofInt 1)), (0, .ref (G.1 0)), (1, .int l1)]) hC 2 dX8_observed_37 rfl (by decide) rfl ?_
  refine cv_goto (tgt := 12) hC dX8_observed_40 (by decide) ?_
  exact cv_sub [1, 2, 0] rfl (hk12 l1 (l2 + Int32.ofInt 1) σ)
set_option maxRecDepth 20000 in
set_option maxHeartbeats 2000000 in
theorem I_X8_observed_b12 {X : cv_X} {G : cv_G} {LL : Launch} (htr : LL.stackTraces = false) (hX : cv_CX X G) (hC : cv_C X G LL RX8 cX8_observed 3 (some .int) { frames := 7, cells := 2, slots := 12, locals := 110 }) (k12 : Int32 → Int32 → cv_St → Option (Nat × Int32 × cv_St)) (hk12 : ∀ (l1 : Int32) (l2 : Int32)  σ, cv_J X G 3 2 12 (cv_QXI X G 2 12) 12 [(0, .ref (G.1 0)), (1, .int l1), (2, .int l2)] [] σ (k12 l1 l2 σ)) (l1 : Int32) (l2 : Int32) (σ : cv_St) : cv_J X G 3 2 12 (cv_QXI X G 2 12) 12 [(0, .ref (G.1 0)), (1, .int l1), (2, .int l2)] [] σ (B_X8_observed_b12 k12 l1 l2 σ) := by
  unfold B_X8_observed_b12
  refine cv_iload_n hC 2 dX8_observed_12 rfl rfl ?_
  refine cv_bipush (v := 8) hC dX8_observed_13 cb_bipush_8 ?_
  refine cv_icmp_ge (tgt := 43) hC dX8_observed_15 (by decide) ?_ ?_
  · refine cv_iload_n hC 1 dX8_observed_43 rfl rfl ?_
    exact cv_xiret hC ⟨Nat.le_of_ble_eq_true rfl, Nat.le_of_ble_eq_true rfl⟩ dX8_observed_44
  · refine cv_aload_n hC 0 dX8_observed_18 rfl rfl ?_
    refine cv_getr hC (fg_X8_70_0 G) dX8_observed_19 ?_
    refine cv_getr hC (fg_X8_266_9 G) dX8_observed_22 ?_
    refine cv_iload_n hC 2 dX8_observed_25 rfl rfl ?_
    refine cv_iald hC (cv_a38 G) dX8_observed_26 (fun v3 => ?_)
    refine cv_iload_n hC 2 dX8_observed_27 rfl rfl ?_
    refine cv_icmp_ne (tgt := 37) hC dX8_observed_28 (by decide) ?_ ?_
    · exact cv_sub [0, 1, 2] rfl (J_X8_observed_b37 htr hX hC k12 hk12 l1 l2 σ)
    · refine cv_iload_n hC 1 dX8_observed_31 rfl rfl ?_
      refine cv_iconst (v := 1) hC dX8_observed_32 cb_iconst_1 ?_
      refine cv_iload_n hC 2 dX8_observed_33 rfl rfl ?_
      refine cv_ishl hC dX8_observed_34 ?_
      refine cv_ior hC dX8_observed_35 ?_
      refine cv_istore_n (lv' := [(1, .int (l1 ||| (1 <<< (l2 &&& 31)))), (0, .ref (G.1 0)), (2, .int l2)]) hC dX8_observed_36 rfl (by decide) rfl ?_
      exact cv_sub [1, 0, 2] rfl (J_X8_observed_b37 htr hX hC k12 hk12 (l1 ||| (1 <<< (l2 &&& 31))) l2 σ)
set_option maxRecDepth 20000 in
set_option maxHeartbeats 2000000 in
theorem J_X8_observed_b12 {X : cv_X} {G : cv_G} {LL : Launch} (htr : LL.stackTraces = false) (hX : cv_CX X G) (hC : cv_C X G LL RX8 cX8_observed 3 (some .int) { frames := 7, cells := 2, slots := 12, locals := 110 }) : ∀ (n : Nat) (l1 : Int32) (l2 : Int32) (σ : cv_St), cv_J X G 3 2 12 (cv_QXI X G 2 12) 12 [(0, .ref (G.1 0)), (1, .int l1), (2, .int l2)] [] σ (F_X8_observed_b12 n l1 l2 σ) := by
  intro n
  induction n with
  | zero => intro l1 l2 σ; exact cv_none
  | succ n ih => intro l1 l2 σ; exact I_X8_observed_b12 htr hX hC _ ih l1 l2 σ
set_option maxRecDepth 20000 in
set_option maxHeartbeats 2000000 in
theorem J_X8_observed {X : cv_X} {G : cv_G} {LL : Launch} (htr : LL.stackTraces = false) (hX : cv_CX X G) (hC : cv_C X G LL RX8 cX8_observed 3 (some .int) { frames := 7, cells := 2, slots := 12, locals := 110 }) (σ : cv_St) : cv_J X G 3 0 0 (cv_QXI X G 2 12) 0 [(0, .ref (G.1 0))] [] σ (F_X8_observed σ) := by
  unfold F_X8_observed
  refine cv_aload_n hC 0 dX8_observed_0 rfl rfl ?_
  refine cv_callXVI (ob := 0) hX hC [] [] (M_X8_checkRun htr G σ) ln_X8_257 vm_X8_checkRun (ob_0 G) rfl rfl (Nat.le_of_ble_eq_true rfl) ⟨Nat.le_of_ble_eq_true rfl, Nat.le_of_ble_eq_true rfl⟩ ⟨Nat.le_of_ble_eq_true rfl, Nat.le_of_ble_eq_true rfl⟩ ⟨Nat.le_of_ble_eq_true rfl, Nat.le_of_ble_eq_true rfl⟩ dX8_observed_1 (fun s1 => ?_)
  refine cv_aload_n hC 0 dX8_observed_4 rfl rfl ?_
  refine cv_callXVI (ob := 0) hX hC [] [] (M_X8_checkNotCut htr G s1) ln_X8_263 vm_X8_checkNotCut (ob_0 G) rfl rfl (Nat.le_of_ble_eq_true rfl) ⟨Nat.le_of_ble_eq_true rfl, Nat.le_of_ble_eq_true rfl⟩ ⟨Nat.le_of_ble_eq_true rfl, Nat.le_of_ble_eq_true rfl⟩ ⟨Nat.le_of_ble_eq_true rfl, Nat.le_of_ble_eq_true rfl⟩ dX8_observed_5 (fun s2 => ?_)
  refine cv_iconst (v := 0) hC dX8_observed_8 cb_iconst_0 ?_
  refine cv_istore_n (lv' := [(1, .int 0), (0, .ref (G.1 0))]) hC dX8_observed_9 rfl (by decide) rfl ?_
  refine cv_iconst (v := 0) hC dX8_observed_10 cb_iconst_0 ?_
  refine cv_istore_n (lv' := [(2, .int 0), (1, .int 0), (0, .ref (G.1 0))]) hC dX8_observed_11 rfl (by decide) rfl ?_
  exact cv_sub [2, 1, 0] rfl (J_X8_observed_b12 htr hX hC 1000 0 0 s2)
set_option maxRecDepth 20000 in
set_option maxHeartbeats 2000000 in
theorem M_X8_observed {LL : Launch} (htr : LL.stackTraces = false) (G : cv_G) (σ : cv_St) : cv_MXI LL G yX8_observed cX8_observed 3 (some .int) 7 110 2 12 [.ref (G.1 0)] σ (F_X8_observed σ) :=
  cv_mkXI htr (by decide) (Nat.le_of_ble_eq_true rfl) (fun X hX hC => J_X8_observed htr hX hC σ)
/-! X8_origin -/
set_option maxRecDepth 20000 in
set_option maxHeartbeats 2000000 in
theorem J_X8_origin {X : cv_X} {G : cv_G} {LL : Launch} (htr : LL.stackTraces = false) (hX : cv_CX X G) (hC : cv_C X G LL RX8 cX8_origin 3 (some .int) { frames := 7, cells := 4, slots := 24, locals := 111 }) (l1 : Int32) (σ : cv_St) : cv_J X G 3 0 0 (cv_QXI X G 4 24) 0 [(0, .ref (G.1 0)), (1, .int l1)] [] σ (F_X8_origin l1 σ) := by
  unfold F_X8_origin
  refine cv_aload_n hC 0 dX8_origin_0 rfl rfl ?_
  refine cv_iload_n hC 1 dX8_origin_1 rfl rfl ?_
  refine cv_callXVI (ob := 0) hX hC [.int l1] [] (M_X8_checkRegister htr G l1 σ) ln_X8_238 vm_X8_checkRegister (ob_0 G) rfl rfl (Nat.le_of_ble_eq_true rfl) ⟨Nat.le_of_ble_eq_true rfl, Nat.le_of_ble_eq_true rfl⟩ ⟨Nat.le_of_ble_eq_true rfl, Nat.le_of_ble_eq_true rfl⟩ ⟨Nat.le_of_ble_eq_true rfl, Nat.le_of_ble_eq_true rfl⟩ dX8_origin_2 (fun s1 => ?_)
  refine cv_aload_n hC 0 dX8_origin_5 rfl rfl ?_
  refine cv_callXVI (ob := 0) hX hC [] [] (M_X8_checkRun htr G s1) ln_X8_257 vm_X8_checkRun (ob_0 G) rfl rfl (Nat.le_of_ble_eq_true rfl) ⟨Nat.le_of_ble_eq_true rfl, Nat.le_of_ble_eq_true rfl⟩ ⟨Nat.le_of_ble_eq_true rfl, Nat.le_of_ble_eq_true rfl⟩ ⟨Nat.le_of_ble_eq_true rfl, Nat.le_of_ble_eq_true rfl⟩ dX8_origin_6 (fun s2 => ?_)
  refine cv_aload_n hC 0 dX8_origin_9 rfl rfl ?_
  refine cv_callXVI (ob := 0) hX hC [] [] (M_X8_checkNotCut htr G s2) ln_X8_263 vm_X8_checkNotCut (ob_0 G) rfl rfl (Nat.le_of_ble_eq_true rfl) ⟨Nat.le_of_ble_eq_true rfl, Nat.le_of_ble_eq_true rfl⟩ ⟨Nat.le_of_ble_eq_true rfl, Nat.le_of_ble_eq_true rfl⟩ ⟨Nat.le_of_ble_eq_true rfl, Nat.le_of_ble_eq_true rfl⟩ dX8_origin_10 (fun s3 => ?_)
  refine cv_aload_n hC 0 dX8_origin_13 rfl rfl ?_
  refine cv_getr hC (fg_X8_70_0 G) dX8_origin_14 ?_
  refine cv_getr hC (fg_X8_266_9 G) dX8_origin_17 ?_
  refine cv_iload_n hC 1 dX8_origin_20 rfl rfl ?_
  refine cv_iald hC (cv_a38 G) dX8_origin_21 (fun v4 => ?_)
  refine cv_istore_n (lv' := [(2, .int v4), (0, .ref (G.1 0)), (1, .int l1)]) hC dX8_origin_22 rfl (by decide) rfl ?_
  refine cv_iload_n hC 0 dX8_origin_23 rfl rfl ?_
  refine cv_bipush (v := 8) hC dX8_origin_24 cb_bipush_8 ?_
  refine cv_icmp_lt (tgt := 40) hC dX8_origin_26 (by decide) ?_ ?_
  · refine cv_iload_n hC 0 dX8_origin_40 rfl rfl ?_
    exact cv_xiret hC ⟨Nat.le_of_ble_eq_true rfl, Nat.le_of_ble_eq_true rfl⟩ dX8_origin_41
  · exact cv_nthrowISW hX hC tw_5_269 ⟨Nat.le_of_ble_eq_true rfl, Nat.le_of_ble_eq_true rfl⟩ ⟨Nat.le_of_ble_eq_true rfl, Nat.le_of_ble_eq_true rfl⟩ ⟨Nat.le_of_ble_eq_true rfl, Nat.le_of_ble_eq_true rfl⟩ dX8_origin_29 dX8_origin_32 dX8_origin_33 dX8_origin_36 dX8_origin_39
set_option maxRecDepth 20000 in
set_option maxHeartbeats 2000000 in
theorem M_X8_origin {LL : Launch} (htr : LL.stackTraces = false) (G : cv_G) (l1 : Int32) (σ : cv_St) : cv_MXI LL G yX8_origin cX8_origin 3 (some .int) 7 111 4 24 [.ref (G.1 0), .int l1] σ (F_X8_origin l1 σ) :=
  cv_mkXI htr (by decide) (Nat.le_of_ble_eq_true rfl) (fun X hX hC => J_X8_origin htr hX hC l1 σ)
/-! X8_preservedShare -/
set_option maxRecDepth 20000 in
set_option maxHeartbeats 2000000 in
theorem I_X8_preservedShare_b30 {X : cv_X} {G : cv_G} {LL : Launch} (htr : LL.stackTraces = false) (hX : cv_CX X G) (hC : cv_C X G LL RX8 cX8_preservedShare 4 (some .double) { frames := 6, cells := 1, slots := 6, locals := 137 }) (k30 : Int32 → Int32 → Int32 → cv_St → Option (Nat × UInt64 × cv_St)) (hk30 : ∀ (l1 : Int32) (l2 : Int32) (l3 : Int32)  σ, cv_J X G 4 0 0 (cv_QXD X G 1 6) 30 [(0, .ref (G.1 0)), (1, .int l1), (2, .int l2), (3, .int l3)] [] σ (k30 l1 l2 l3 σ)) (l1 : Int32) (l2 : Int32) (l3 : Int32) (σ : cv_St) : cv_J X G 4 0 0 (cv_QXD X G 1 6) 30 [(0, .ref (G.1 0)), (1, .int l1), (2, .int l2), (3, .int l3)] [] σ (B_X8_preservedShare_b30 k30 l1 l2 l3 σ) := by
  unfold B_X8_preservedShare_b30
  refine cv_iload_n hC 3 dX8_preservedShare_30 rfl rfl ?_
  refine cv_bipush (v := 8) hC dX8_preservedShare_31 cb_bipush_8 ?_
  refine cv_icmp_ge (tgt := 51) hC dX8_preservedShare_33 (by decide) ?_ ?_
  · refine cv_iload_n hC 2 dX8_preservedShare_51 rfl rfl ?_
    refine cv_i2d hC dX8_preservedShare_52 ?_
    refine cv_iload_n hC 1 dX8_preservedShare_53 rfl rfl ?_
    refine cv_i2d hC dX8_preservedShare_54 ?_
    refine cv_ddiv hC dX8_preservedShare_55 (fun v4 => ?_)
    exact cv_xdret hC ⟨Nat.le_of_ble_eq_true rfl, Nat.le_of_ble_eq_true rfl⟩ dX8_preservedShare_56
  · refine cv_iload_n hC 2 dX8_preservedShare_36 rfl rfl ?_
    refine cv_aload_n hC 0 dX8_preservedShare_37 rfl rfl ?_
    refine cv_iload_n hC 3 dX8_preservedShare_38 rfl rfl ?_
    refine cv_iconst (v := 3) hC dX8_preservedShare_39 cb_iconst_3 ?_
    refine cv_callVi (ob := 0) hC [.int l3, .int 3] [.int l2] (M_X8_countVotes LL G l3 3 σ) ln_X8_243 vm_X8_countVotes (ob_0 G) rfl rfl (Nat.le_of_ble_eq_true rfl) ⟨Nat.le_of_ble_eq_true rfl, Nat.le_of_ble_eq_true rfl⟩ ⟨Nat.le_of_ble_eq_true rfl, Nat.le_of_ble_eq_true rfl⟩ dX8_preservedShare_40 (fun v6 s5 => ?_)
    refine cv_iadd hC dX8_preservedShare_43 ?_
    refine cv_istore_n (lv' := [(2, .int (l2 + v6)), (0, .ref (G.1 0)), (1, .int l1), (3, .int l3)]) hC dX8_preservedShare_44 rfl (by decide) rfl ?_
    refine cv_iinc (lv' := [(3, .int (l3 + Int32.ofInt 1)), (2, .int (l2 + v6)), (0, .ref (G.1 0)), (1, .int l1)]) hC 3 dX8_preservedShare_45 rfl (by decide) rfl ?_
    refine cv_goto (tgt := 30) hC dX8_preservedShare_48 (by decide) ?_
    exact cv_sub [2, 3, 1, 0] rfl (hk30 l1 (l2 + v6) (l3 + Int32.ofInt 1) s5)
set_option maxRecDepth 20000 in
set_option maxHeartbeats 2000000 in
theorem J_X8_preservedShare_b30 {X : cv_X} {G : cv_G} {LL : Launch} (htr : LL.stackTraces = false) (hX : cv_CX X G) (hC : cv_C X G LL RX8 cX8_preservedShare 4 (some .double) { frames := 6, cells := 1, slots := 6, locals := 137 }) : ∀ (n : Nat) (l1 : Int32) (l2 : Int32) (l3 : Int32) (σ : cv_St), cv_J X G 4 0 0 (cv_QXD X G 1 6) 30 [(0, .ref (G.1 0)), (1, .int l1), (2, .int l2), (3, .int l3)] [] σ (F_X8_preservedShare_b30 n l1 l2 l3 σ) := by
  intro n
  induction n with
  | zero => intro l1 l2 l3 σ; exact cv_none
  | succ n ih => intro l1 l2 l3 σ; exact I_X8_preservedShare_b30 htr hX hC _ ih l1 l2 l3 σ
set_option maxRecDepth 20000 in
set_option maxHeartbeats 2000000 in
theorem J_X8_preservedShare {X : cv_X} {G : cv_G} {LL : Launch} (htr : LL.stackTraces = false) (hX : cv_CX X G) (hC : cv_C X G LL RX8 cX8_preservedShare 4 (some .double) { frames := 6, cells := 1, slots := 6, locals := 137 }) (σ : cv_St) : cv_J X G 4 0 0 (cv_QXD X G 1 6) 0 [(0, .ref (G.1 0))] [] σ (F_X8_preservedShare σ) := by
  unfold F_X8_preservedShare
  refine cv_aload_n hC 0 dX8_preservedShare_0 rfl rfl ?_
  refine cv_getr hC (fg_X8_19_0 G) dX8_preservedShare_1 ?_
  refine cv_callVi (ob := 2) hC [] [] (M_X0_countFilled LL G σ) ln_X8_246 vm_X0_countFilled (ob_2 G) rfl rfl (Nat.le_of_ble_eq_true rfl) ⟨Nat.le_of_ble_eq_true rfl, Nat.le_of_ble_eq_true rfl⟩ ⟨Nat.le_of_ble_eq_true rfl, Nat.le_of_ble_eq_true rfl⟩ dX8_preservedShare_4 (fun v2 s1 => ?_)
  refine cv_istore_n (lv' := [(1, .int v2), (0, .ref (G.1 0))]) hC dX8_preservedShare_7 rfl (by decide) rfl ?_
  refine cv_iload_n hC 0 dX8_preservedShare_8 rfl rfl ?_
  refine cv_if_ne (tgt := 22) hC dX8_preservedShare_9 (by decide) ?_ ?_
  · refine cv_aload_n hC 1 dX8_preservedShare_22 rfl rfl ?_
    refine cv_callVv (ob := 0) hC [] [] (M_X8_inferFacts LL G s1) ln_X8_152 vm_X8_inferFacts (ob_0 G) rfl rfl (Nat.le_of_ble_eq_true rfl) ⟨Nat.le_of_ble_eq_true rfl, Nat.le_of_ble_eq_true rfl⟩ ⟨Nat.le_of_ble_eq_true rfl, Nat.le_of_ble_eq_true rfl⟩ dX8_preservedShare_23 (fun s3 => ?_)
    refine cv_iconst (v := 0) hC dX8_preservedShare_26 cb_iconst_0 ?_
    refine cv_istore_n (lv' := [(2, .int 0), (1, .int v2), (0, .ref (G.1 0))]) hC dX8_preservedShare_27 rfl (by decide) rfl ?_
    refine cv_iconst (v := 0) hC dX8_preservedShare_28 cb_iconst_0 ?_
    refine cv_istore_n (lv' := [(3, .int 0), (2, .int 0), (1, .int v2), (0, .ref (G.1 0))]) hC dX8_preservedShare_29 rfl (by decide) rfl ?_
    exact cv_sub [3, 2, 1, 0] rfl (J_X8_preservedShare_b30 htr hX hC 1000 v2 0 0 s3)
  · exact cv_throwDS hX hC 6 tw_6_249 ⟨Nat.le_of_ble_eq_true rfl, Nat.le_of_ble_eq_true rfl⟩ ⟨Nat.le_of_ble_eq_true rfl, Nat.le_of_ble_eq_true rfl⟩ ⟨Nat.le_of_ble_eq_true rfl, Nat.le_of_ble_eq_true rfl⟩ dX8_preservedShare_12 dX8_preservedShare_15 dX8_preservedShare_16 dX8_preservedShare_18 dX8_preservedShare_21
set_option maxRecDepth 20000 in
set_option maxHeartbeats 2000000 in
theorem M_X8_preservedShare {LL : Launch} (htr : LL.stackTraces = false) (G : cv_G) (σ : cv_St) : cv_MXD LL G yX8_preservedShare cX8_preservedShare 4 6 137 1 6 [.ref (G.1 0)] σ (F_X8_preservedShare σ) :=
  cv_mkXD htr (by decide) (Nat.le_of_ble_eq_true rfl) (fun X hX hC => J_X8_preservedShare htr hX hC σ)
/-! X8_problemShare -/
set_option maxRecDepth 20000 in
set_option maxHeartbeats 2000000 in
theorem J_X8_problemShare {X : cv_X} {G : cv_G} {LL : Launch} (htr : LL.stackTraces = false) (hX : cv_CX X G) (hC : cv_C X G LL RX8 cX8_problemShare 1 (some .float) { frames := 6, cells := 1, slots := 6, locals := 137 }) (σ : cv_St) : cv_J X G 1 0 0 (cv_QXS X G 1 6) 0 [(0, .ref (G.1 0))] [] σ (F_X8_problemShare σ) := by
  unfold F_X8_problemShare
  refine cv_aload_n hC 0 dX8_problemShare_0 rfl rfl ?_
  refine cv_callVv (ob := 0) hC [] [] (M_X8_inferFacts LL G σ) ln_X8_152 vm_X8_inferFacts (ob_0 G) rfl rfl (Nat.le_of_ble_eq_true rfl) ⟨Nat.le_of_ble_eq_true rfl, Nat.le_of_ble_eq_true rfl⟩ ⟨Nat.le_of_ble_eq_true rfl, Nat.le_of_ble_eq_true rfl⟩ dX8_problemShare_1 (fun s1 => ?_)
  refine cv_aload_n hC 0 dX8_problemShare_4 rfl rfl ?_
  refine cv_getr hC (fg_X8_63_0 G) dX8_problemShare_5 ?_
  refine cv_geti hC (fg_X8_200_8 G) dX8_problemShare_8 ?_
  refine cv_if_ne (tgt := 25) hC dX8_problemShare_11 (by decide) ?_ ?_
  · refine cv_aload_n hC 0 dX8_problemShare_25 rfl rfl ?_
    refine cv_callVi (ob := 0) hC [] [] (M_X8_countProblems LL G s1) ln_X8_226 vm_X8_countProblems (ob_0 G) rfl rfl (Nat.le_of_ble_eq_true rfl) ⟨Nat.le_of_ble_eq_true rfl, Nat.le_of_ble_eq_true rfl⟩ ⟨Nat.le_of_ble_eq_true rfl, Nat.le_of_ble_eq_true rfl⟩ dX8_problemShare_26 (fun v3 s2 => ?_)
    refine cv_i2f hC dX8_problemShare_29 ?_
    refine cv_aload_n hC 0 dX8_problemShare_30 rfl rfl ?_
    refine cv_getr hC (fg_X8_63_0 G) dX8_problemShare_31 ?_
    refine cv_geti hC (fg_X8_200_8 G) dX8_problemShare_34 ?_
    refine cv_i2f hC dX8_problemShare_37 ?_
    refine cv_fdiv hC dX8_problemShare_38 (fun v4 => ?_)
    exact cv_xfret hC ⟨Nat.le_of_ble_eq_true rfl, Nat.le_of_ble_eq_true rfl⟩ dX8_problemShare_39
  · exact cv_throwSSW hX hC 6 tw_6_274 ⟨Nat.le_of_ble_eq_true rfl, Nat.le_of_ble_eq_true rfl⟩ ⟨Nat.le_of_ble_eq_true rfl, Nat.le_of_ble_eq_true rfl⟩ ⟨Nat.le_of_ble_eq_true rfl, Nat.le_of_ble_eq_true rfl⟩ dX8_problemShare_14 dX8_problemShare_17 dX8_problemShare_18 dX8_problemShare_21 dX8_problemShare_24
set_option maxRecDepth 20000 in
set_option maxHeartbeats 2000000 in
theorem M_X8_problemShare {LL : Launch} (htr : LL.stackTraces = false) (G : cv_G) (σ : cv_St) : cv_MXS LL G yX8_problemShare cX8_problemShare 1 6 137 1 6 [.ref (G.1 0)] σ (F_X8_problemShare σ) :=
  cv_mkXS htr (by decide) (Nat.le_of_ble_eq_true rfl) (fun X hX hC => J_X8_problemShare htr hX hC σ)
/-! X8_restore -/
set_option maxRecDepth 20000 in
set_option maxHeartbeats 2000000 in
theorem J_X8_restore {X : cv_X} {G : cv_G} {LL : Launch} (htr : LL.stackTraces = false) (hX : cv_CX X G) (hC : cv_C X G LL RX8 cX8_restore 1 none { frames := 6, cells := 1, slots := 6, locals := 90 }) (σ : cv_St) : cv_J X G 1 0 0 (cv_QXV X G 1 6) 0 [(0, .ref (G.1 0))] [] σ (F_X8_restore σ) := by
  unfold F_X8_restore
  refine cv_aload_n hC 0 dX8_restore_0 rfl rfl ?_
  refine cv_geti hC (fg_X8_74_0 G) dX8_restore_1 ?_
  refine cv_if_ne (tgt := 18) hC dX8_restore_4 (by decide) ?_ ?_
  · refine cv_aload_n hC 0 dX8_restore_18 rfl rfl ?_
    refine cv_getr hC (fg_X8_19_0 G) dX8_restore_19 ?_
    refine cv_aload_n hC 0 dX8_restore_22 rfl rfl ?_
    refine cv_getr hC (fg_X8_23_0 G) dX8_restore_23 ?_
    refine cv_callVv (ob := 2) hC [.ref (G.1 3)] [] (M_X0_copyFrom_2_3 LL G σ) ln_X8_276 vm_X0_copyFrom (ob_2 G) rfl rfl (Nat.le_of_ble_eq_true rfl) ⟨Nat.le_of_ble_eq_true rfl, Nat.le_of_ble_eq_true rfl⟩ ⟨Nat.le_of_ble_eq_true rfl, Nat.le_of_ble_eq_true rfl⟩ dX8_restore_26 (fun s1 => ?_)
    refine cv_aload_n hC 0 dX8_restore_29 rfl rfl ?_
    refine cv_callVv (ob := 0) hC [] [] (M_X8_forgetFacts LL G s1) ln_X8_125 vm_X8_forgetFacts (ob_0 G) rfl rfl (Nat.le_of_ble_eq_true rfl) ⟨Nat.le_of_ble_eq_true rfl, Nat.le_of_ble_eq_true rfl⟩ ⟨Nat.le_of_ble_eq_true rfl, Nat.le_of_ble_eq_true rfl⟩ dX8_restore_30 (fun s2 => ?_)
    exact cv_xvret hC ⟨Nat.le_of_ble_eq_true rfl, Nat.le_of_ble_eq_true rfl⟩ dX8_restore_33
  · exact cv_throwVSW hX hC 3 tw_3_279 ⟨Nat.le_of_ble_eq_true rfl, Nat.le_of_ble_eq_true rfl⟩ ⟨Nat.le_of_ble_eq_true rfl, Nat.le_of_ble_eq_true rfl⟩ ⟨Nat.le_of_ble_eq_true rfl, Nat.le_of_ble_eq_true rfl⟩ dX8_restore_7 dX8_restore_10 dX8_restore_11 dX8_restore_14 dX8_restore_17
set_option maxRecDepth 20000 in
set_option maxHeartbeats 2000000 in
theorem M_X8_restore {LL : Launch} (htr : LL.stackTraces = false) (G : cv_G) (σ : cv_St) : cv_MXV LL G yX8_restore cX8_restore 1 6 90 1 6 [.ref (G.1 0)] σ (F_X8_restore σ) :=
  cv_mkXV htr (by decide) (Nat.le_of_ble_eq_true rfl) (fun X hX hC => J_X8_restore htr hX hC σ)
/-! X9_preservedShare -/
set_option maxRecDepth 20000 in
set_option maxHeartbeats 2000000 in
theorem I_X9_preservedShare_b35 {X : cv_X} {G : cv_G} {LL : Launch} (hC : cv_C X G LL RX9 cX9_preservedShare 4 (some .double) { frames := 6, cells := 0, slots := 0, locals := 139 }) (k35 : Int32 → Int32 → Int32 → cv_St → Option (UInt64 × cv_St)) (hk35 : ∀ (l1 : Int32) (l2 : Int32) (l3 : Int32)  σ, cv_J X G 4 0 0 (cv_QD X G) 35 [(0, .ref (G.1 10)), (1, .int l1), (2, .int l2), (3, .int l3)] [] σ (k35 l1 l2 l3 σ)) (l1 : Int32) (l2 : Int32) (l3 : Int32) (σ : cv_St) : cv_J X G 4 0 0 (cv_QD X G) 35 [(0, .ref (G.1 10)), (1, .int l1), (2, .int l2), (3, .int l3)] [] σ (B_X9_preservedShare_b35 k35 l1 l2 l3 σ) := by
  unfold B_X9_preservedShare_b35
  refine cv_iload_n hC 3 dX9_preservedShare_35 rfl rfl ?_
  refine cv_bipush (v := 8) hC dX9_preservedShare_36 cb_bipush_8 ?_
  refine cv_icmp_ge (tgt := 56) hC dX9_preservedShare_38 (by decide) ?_ ?_
  · refine cv_iload_n hC 2 dX9_preservedShare_56 rfl rfl ?_
    refine cv_i2d hC dX9_preservedShare_57 ?_
    refine cv_iload_n hC 1 dX9_preservedShare_58 rfl rfl ?_
    refine cv_i2d hC dX9_preservedShare_59 ?_
    refine cv_ddiv hC dX9_preservedShare_60 (fun v5 => ?_)
    exact cv_dret hC dX9_preservedShare_61
  · refine cv_iload_n hC 2 dX9_preservedShare_41 rfl rfl ?_
    refine cv_aload_n hC 0 dX9_preservedShare_42 rfl rfl ?_
    refine cv_iload_n hC 3 dX9_preservedShare_43 rfl rfl ?_
    refine cv_iconst (v := 3) hC dX9_preservedShare_44 cb_iconst_3 ?_
    refine cv_callVi (ob := 10) hC [.int l3, .int 3] [.int l2] (M_X9_countVotes LL G l3 3 σ) ln_X9_272 vm_X9_countVotes (ob_10 G) rfl rfl (Nat.le_of_ble_eq_true rfl) ⟨Nat.le_of_ble_eq_true rfl, Nat.le_of_ble_eq_true rfl⟩ ⟨Nat.le_of_ble_eq_true rfl, Nat.le_of_ble_eq_true rfl⟩ dX9_preservedShare_45 (fun v7 s6 => ?_)
    refine cv_iadd hC dX9_preservedShare_48 ?_
    refine cv_istore_n (lv' := [(2, .int (l2 + v7)), (0, .ref (G.1 10)), (1, .int l1), (3, .int l3)]) hC dX9_preservedShare_49 rfl (by decide) rfl ?_
    refine cv_iinc (lv' := [(3, .int (l3 + Int32.ofInt 1)), (2, .int (l2 + v7)), (0, .ref (G.1 10)), (1, .int l1)]) hC 3 dX9_preservedShare_50 rfl (by decide) rfl ?_
    refine cv_goto (tgt := 35) hC dX9_preservedShare_53 (by decide) ?_
    exact cv_sub [2, 3, 1, 0] rfl (hk35 l1 (l2 + v7) (l3 + Int32.ofInt 1) s6)
set_option maxRecDepth 20000 in
set_option maxHeartbeats 2000000 in
theorem J_X9_preservedShare_b35 {X : cv_X} {G : cv_G} {LL : Launch} (hC : cv_C X G LL RX9 cX9_preservedShare 4 (some .double) { frames := 6, cells := 0, slots := 0, locals := 139 }) : ∀ (n : Nat) (l1 : Int32) (l2 : Int32) (l3 : Int32) (σ : cv_St), cv_J X G 4 0 0 (cv_QD X G) 35 [(0, .ref (G.1 10)), (1, .int l1), (2, .int l2), (3, .int l3)] [] σ (F_X9_preservedShare_b35 n l1 l2 l3 σ) := by
  intro n
  induction n with
  | zero => intro l1 l2 l3 σ; exact cv_none
  | succ n ih => intro l1 l2 l3 σ; exact I_X9_preservedShare_b35 hC _ ih l1 l2 l3 σ
set_option maxRecDepth 20000 in
set_option maxHeartbeats 2000000 in
theorem J_X9_preservedShare_b15 {X : cv_X} {G : cv_G} {LL : Launch} (hC : cv_C X G LL RX9 cX9_preservedShare 4 (some .double) { frames := 6, cells := 0, slots := 0, locals := 139 }) (l1 : Int32) (t0 : Int32) (σ : cv_St) : cv_J X G 4 0 0 (cv_QD X G) 15 [(0, .ref (G.1 10)), (1, .int l1)] [.int t0, .ref (G.1 10)] σ (F_X9_preservedShare_b15 l1 t0 σ) := by
  unfold F_X9_preservedShare_b15
  refine cv_puti hC (fp_X9_84_10 G) dX9_preservedShare_15 (fun s3 => ?_)
  refine cv_aload_n hC 0 dX9_preservedShare_18 rfl rfl ?_
  refine cv_geti hC (fg_X9_84_10 G) dX9_preservedShare_19 ?_
  refine cv_if_le (tgt := 27) hC dX9_preservedShare_22 (by decide) ?_ ?_
  · refine cv_aload_n hC 0 dX9_preservedShare_27 rfl rfl ?_
    refine cv_callVv (ob := 10) hC [] [] (M_X9_infer LL G s3) ln_X9_231 vm_X9_infer (ob_10 G) rfl rfl (Nat.le_of_ble_eq_true rfl) ⟨Nat.le_of_ble_eq_true rfl, Nat.le_of_ble_eq_true rfl⟩ ⟨Nat.le_of_ble_eq_true rfl, Nat.le_of_ble_eq_true rfl⟩ dX9_preservedShare_28 (fun s4 => ?_)
    refine cv_iconst (v := 0) hC dX9_preservedShare_31 cb_iconst_0 ?_
    refine cv_istore_n (lv' := [(2, .int 0), (0, .ref (G.1 10)), (1, .int l1)]) hC dX9_preservedShare_32 rfl (by decide) rfl ?_
    refine cv_iconst (v := 0) hC dX9_preservedShare_33 cb_iconst_0 ?_
    refine cv_istore_n (lv' := [(3, .int 0), (2, .int 0), (0, .ref (G.1 10)), (1, .int l1)]) hC dX9_preservedShare_34 rfl (by decide) rfl ?_
    exact cv_sub [2, 3, 1, 0] rfl (J_X9_preservedShare_b35 hC 1000 l1 0 0 s4)
  · refine cv_dconst0 hC dX9_preservedShare_25 ?_
    exact cv_dret hC dX9_preservedShare_26
set_option maxRecDepth 20000 in
set_option maxHeartbeats 2000000 in
theorem J_X9_preservedShare {X : cv_X} {G : cv_G} {LL : Launch} (hC : cv_C X G LL RX9 cX9_preservedShare 4 (some .double) { frames := 6, cells := 0, slots := 0, locals := 139 }) (σ : cv_St) : cv_J X G 4 0 0 (cv_QD X G) 0 [(0, .ref (G.1 10))] [] σ (F_X9_preservedShare σ) := by
  unfold F_X9_preservedShare
  refine cv_aload_n hC 0 dX9_preservedShare_0 rfl rfl ?_
  refine cv_callVi (ob := 10) hC [] [] (M_X9_bodyMany LL G σ) ln_X9_275 vm_X9_bodyMany (ob_10 G) rfl rfl (Nat.le_of_ble_eq_true rfl) ⟨Nat.le_of_ble_eq_true rfl, Nat.le_of_ble_eq_true rfl⟩ ⟨Nat.le_of_ble_eq_true rfl, Nat.le_of_ble_eq_true rfl⟩ dX9_preservedShare_1 (fun v2 s1 => ?_)
  refine cv_istore_n (lv' := [(1, .int v2), (0, .ref (G.1 10))]) hC dX9_preservedShare_4 rfl (by decide) rfl ?_
  refine cv_aload_n hC 1 dX9_preservedShare_5 rfl rfl ?_
  refine cv_iload_n hC 0 dX9_preservedShare_6 rfl rfl ?_
  refine cv_if_ne (tgt := 14) hC dX9_preservedShare_7 (by decide) ?_ ?_
  · refine cv_iconst (v := 0) hC dX9_preservedShare_14 cb_iconst_0 ?_
    exact cv_sub [1, 0] rfl (J_X9_preservedShare_b15 hC v2 0 s1)
  · refine cv_iconst (v := 1) hC dX9_preservedShare_10 cb_iconst_1 ?_
    refine cv_goto (tgt := 15) hC dX9_preservedShare_11 (by decide) ?_
    exact cv_sub [1, 0] rfl (J_X9_preservedShare_b15 hC v2 1 s1)
set_option maxRecDepth 20000 in
set_option maxHeartbeats 2000000 in
theorem M_X9_preservedShare (LL : Launch) (G : cv_G) (σ : cv_St) : cv_MD LL G yX9_preservedShare cX9_preservedShare 4 6 139 [.ref (G.1 10)] σ (F_X9_preservedShare σ) :=
  cv_mkD (by decide) (Nat.le_of_ble_eq_true rfl) (fun X hC => J_X9_preservedShare hC σ)
/-! X9_problemShare -/
set_option maxRecDepth 20000 in
set_option maxHeartbeats 2000000 in
theorem J_X9_problemShare_b42 {X : cv_X} {G : cv_G} {LL : Launch} (hC : cv_C X G LL RX9 cX9_problemShare 1 (some .float) { frames := 6, cells := 0, slots := 0, locals := 139 }) (t0 : UInt32) (σ : cv_St) : cv_J X G 1 0 0 (cv_QS X G) 42 [] [.float t0] σ (F_X9_problemShare_b42 t0 σ) := by
  unfold F_X9_problemShare_b42
  exact cv_fret hC dX9_problemShare_42
set_option maxRecDepth 20000 in
set_option maxHeartbeats 2000000 in
theorem J_X9_problemShare_b17 {X : cv_X} {G : cv_G} {LL : Launch} (hC : cv_C X G LL RX9 cX9_problemShare 1 (some .float) { frames := 6, cells := 0, slots := 0, locals := 139 }) (t0 : Int32) (σ : cv_St) : cv_J X G 1 0 0 (cv_QS X G) 17 [(0, .ref (G.1 10))] [.int t0, .ref (G.1 10)] σ (F_X9_problemShare_b17 t0 σ) := by
  unfold F_X9_problemShare_b17
  refine cv_puti hC (fp_X9_84_10 G) dX9_problemShare_17 (fun s2 => ?_)
  refine cv_aload_n hC 0 dX9_problemShare_20 rfl rfl ?_
  refine cv_geti hC (fg_X9_84_10 G) dX9_problemShare_21 ?_
  refine cv_if_le (tgt := 31) hC dX9_problemShare_24 (by decide) ?_ ?_
  · refine cv_aload_n hC 0 dX9_problemShare_31 rfl rfl ?_
    refine cv_callVi (ob := 10) hC [] [] (M_X9_problemMany LL G s2) ln_X9_264 vm_X9_problemMany (ob_10 G) rfl rfl (Nat.le_of_ble_eq_true rfl) ⟨Nat.le_of_ble_eq_true rfl, Nat.le_of_ble_eq_true rfl⟩ ⟨Nat.le_of_ble_eq_true rfl, Nat.le_of_ble_eq_true rfl⟩ dX9_problemShare_32 (fun v4 s3 => ?_)
    refine cv_i2f hC dX9_problemShare_35 ?_
    refine cv_aload_n hC 0 dX9_problemShare_36 rfl rfl ?_
    refine cv_geti hC (fg_X9_201_10 G) dX9_problemShare_37 ?_
    refine cv_i2f hC dX9_problemShare_40 ?_
    refine cv_fdiv hC dX9_problemShare_41 (fun v5 => ?_)
    exact cv_sub [] rfl (J_X9_problemShare_b42 hC v5 s3)
  · refine cv_fconst0 hC dX9_problemShare_27 ?_
    refine cv_goto (tgt := 42) hC dX9_problemShare_28 (by decide) ?_
    exact cv_sub [] rfl (J_X9_problemShare_b42 hC FP.fconst0 s2)
set_option maxRecDepth 20000 in
set_option maxHeartbeats 2000000 in
theorem J_X9_problemShare {X : cv_X} {G : cv_G} {LL : Launch} (hC : cv_C X G LL RX9 cX9_problemShare 1 (some .float) { frames := 6, cells := 0, slots := 0, locals := 139 }) (σ : cv_St) : cv_J X G 1 0 0 (cv_QS X G) 0 [(0, .ref (G.1 10))] [] σ (F_X9_problemShare σ) := by
  unfold F_X9_problemShare
  refine cv_aload_n hC 0 dX9_problemShare_0 rfl rfl ?_
  refine cv_callVv (ob := 10) hC [] [] (M_X9_infer LL G σ) ln_X9_231 vm_X9_infer (ob_10 G) rfl rfl (Nat.le_of_ble_eq_true rfl) ⟨Nat.le_of_ble_eq_true rfl, Nat.le_of_ble_eq_true rfl⟩ ⟨Nat.le_of_ble_eq_true rfl, Nat.le_of_ble_eq_true rfl⟩ dX9_problemShare_1 (fun s1 => ?_)
  refine cv_aload_n hC 0 dX9_problemShare_4 rfl rfl ?_
  refine cv_aload_n hC 0 dX9_problemShare_5 rfl rfl ?_
  refine cv_geti hC (fg_X9_201_10 G) dX9_problemShare_6 ?_
  refine cv_if_ne (tgt := 16) hC dX9_problemShare_9 (by decide) ?_ ?_
  · refine cv_iconst (v := 0) hC dX9_problemShare_16 cb_iconst_0 ?_
    exact cv_sub [0] rfl (J_X9_problemShare_b17 hC 0 s1)
  · refine cv_iconst (v := 1) hC dX9_problemShare_12 cb_iconst_1 ?_
    refine cv_goto (tgt := 17) hC dX9_problemShare_13 (by decide) ?_
    exact cv_sub [0] rfl (J_X9_problemShare_b17 hC 1 s1)
set_option maxRecDepth 20000 in
set_option maxHeartbeats 2000000 in
theorem M_X9_problemShare (LL : Launch) (G : cv_G) (σ : cv_St) : cv_MS LL G yX9_problemShare cX9_problemShare 1 6 139 [.ref (G.1 10)] σ (F_X9_problemShare σ) :=
  cv_mkS (by decide) (Nat.le_of_ble_eq_true rfl) (fun X hC => J_X9_problemShare hC σ)
