def F_X9_thrown (σ : cv_St) : Option (Int32 × cv_St) :=
  some ((σ.2.1 17), σ)
def F_X9_in (l0 : Int64) (l2 : Int64) (l4 : Int64) (σ : cv_St) : Option (Int32 × cv_St) :=
  (if (lg_cmp l0 l2) < 0 then cv_rz 0 σ else (if 0 < (lg_cmp l0 l4) then cv_rz 0 σ else cv_rz 1 σ))
def F_X9_isFunction (l0 : Int32) (σ : cv_St) : Option (Int32 × cv_St) :=
  cv_bi (F_X9_in l0.toInt64 0 7 σ) (fun v2 s1 => cv_rz v2 s1)
def F_X9_isRegister (l0 : Int32) (σ : cv_St) : Option (Int32 × cv_St) :=
  cv_bi (F_X9_in l0.toInt64 0 7 σ) (fun v2 s1 => cv_rz v2 s1)
def F_X9_isInstruction (l1 : Int32) (l2 : Int32) (σ : cv_St) : Option (Int32 × cv_St) :=
  cv_bi (F_X9_isFunction l1 σ) (fun v2 s1 => (if v2 = 0 then cv_rz 0 s1 else cv_ld s1 43 344 l1 (fun v3 => cv_bi (F_X9_in l2.toInt64 0 ((v3 - 1).toInt64) s1) (fun v5 s4 => (if v5 = 0 then cv_rz 0 s4 else cv_rz 1 s4)))))
def F_X9_kind (l1 : Int32) (l2 : Int32) (σ : cv_St) : Option (Int32 × cv_St) :=
  cv_ld σ 43 344 ((8 + (14 * l1)) + l2) (fun v1 => some (v1, σ))
def F_X9_first (l1 : Int32) (l2 : Int32) (σ : cv_St) : Option (Int32 × cv_St) :=
  cv_ld σ 43 344 ((120 + (14 * l1)) + l2) (fun v1 => some (v1, σ))
def F_X9_second (l1 : Int32) (l2 : Int32) (σ : cv_St) : Option (Int32 × cv_St) :=
  cv_ld σ 43 344 ((232 + (14 * l1)) + l2) (fun v1 => some (v1, σ))
def F_X9_changed (σ : cv_St) : Option (cv_St) :=
  cv_puz σ 22 0 (fun s1 => cv_puz s1 23 0 (fun s2 => some s2))
def F_X9_appendCharacter_b33 (l1 : Int32) (t0 : Int32) (σ : cv_St) : Option (Int32 × cv_St) :=
  cv_pui σ 17 t0 (fun s3 => (if (s3.2.1 17) ≤ 0 then cv_st s3 45 60 (s3.2.1 15) l1 (fun s4 => cv_pui s4 15 ((s4.2.1 15) + 1) (fun s5 => some ((s5.2.1 15), s5))) else some (0, s3)))
def F_X9_appendCharacter (l1 : Int32) (σ : cv_St) : Option (Int32 × cv_St) :=
  cv_bi (F_X9_in l1.toInt64 33 126 σ) (fun v2 s1 => (if v2 = 0 then F_X9_appendCharacter_b33 l1 1 s1 else (if (s1.2.1 15) = 60 then F_X9_appendCharacter_b33 l1 2 s1 else F_X9_appendCharacter_b33 l1 0 s1)))
def F_X9_here (σ : cv_St) : Option (Int32 × cv_St) :=
  (if (σ.2.1 15) ≤ (σ.2.1 18) then some (0, σ) else cv_ld σ 45 60 (σ.2.1 18) (fun v1 => some (v1, σ)))
def F_X9_digit_b28 (σ : cv_St) : Option (Int32 × cv_St) :=
  cv_puz σ 19 1 (fun s1 => some (0, s1))
def F_X9_digit (l1 : Int32) (l2 : Int32) (σ : cv_St) : Option (Int32 × cv_St) :=
  (if (σ.2.1 19) = 0 then cv_bi (F_X9_here σ) (fun v3 s2 => cv_bi (F_X9_in v3.toInt64 ((48 + l1).toInt64) ((48 + l2).toInt64) s2) (fun v5 s4 => (if v5 = 0 then F_X9_digit_b28 s4 else cv_pui s4 18 ((s4.2.1 18) + 1) (fun s6 => cv_ld s6 45 60 ((s6.2.1 18) - 1) (fun v7 => some ((v7 - 48), s6)))))) else F_X9_digit_b28 σ)
def F_X9_readInstruction_b220 (σ : cv_St) : Option (cv_St) :=
  cv_pui σ 20 ((σ.2.1 20) + 1) (fun s10 => some s10)
def F_X9_readInstruction_b198 (l1 : Int32) (σ : cv_St) : Option (cv_St) :=
  (if l1 = 109 then cv_bi (F_X9_digit 0 7 σ) (fun v12 s11 => cv_st s11 48 60 (σ.2.1 20) v12 (fun s13 => F_X9_readInstruction_b220 s13)) else F_X9_readInstruction_b220 σ)
def F_X9_readInstruction_b133 (l1 : Int32) (σ : cv_St) : Option (cv_St) :=
  cv_bi (F_X9_digit 0 3 σ) (fun v8 s7 => cv_st s7 47 60 (σ.2.1 20) v8 (fun s9 => F_X9_readInstruction_b198 l1 s9))
def F_X9_readInstruction_b70 (l1 : Int32) (t0 : Int32) (σ : cv_St) : Option (cv_St) :=
  (if t0 = 0 then cv_puz σ 19 1 (fun s20 => some s20) else cv_pui σ 18 ((σ.2.1 18) + 1) (fun s3 => cv_st s3 46 60 (s3.2.1 20) l1 (fun s4 => cv_st s4 47 60 (s4.2.1 20) 0 (fun s5 => cv_st s5 48 60 (s5.2.1 20) 0 (fun s6 => (if l1 = 108 then F_X9_readInstruction_b133 l1 s6 else (if l1 = 115 then F_X9_readInstruction_b133 l1 s6 else (if l1 = 98 then cv_bi (F_X9_digit 1 9 s6) (fun v18 s17 => cv_st s17 47 60 (s6.2.1 20) v18 (fun s19 => F_X9_readInstruction_b198 l1 s19)) else (if l1 = 114 then F_X9_readInstruction_b198 l1 s6 else cv_bi (F_X9_digit 0 7 s6) (fun v15 s14 => cv_st s14 47 60 (s6.2.1 20) v15 (fun s16 => F_X9_readInstruction_b198 l1 s16)))))))))))
def F_X9_readInstruction_b65 (l1 : Int32) (σ : cv_St) : Option (cv_St) :=
  F_X9_readInstruction_b70 l1 1 σ
def F_X9_readInstruction (σ : cv_St) : Option (cv_St) :=
  cv_bi (F_X9_here σ) (fun v2 s1 => (if v2 = 117 then F_X9_readInstruction_b65 v2 s1 else (if v2 = 100 then F_X9_readInstruction_b65 v2 s1 else (if v2 = 109 then F_X9_readInstruction_b65 v2 s1 else (if v2 = 43 then F_X9_readInstruction_b65 v2 s1 else (if v2 = 45 then F_X9_readInstruction_b65 v2 s1 else (if v2 = 99 then F_X9_readInstruction_b65 v2 s1 else (if v2 = 108 then F_X9_readInstruction_b65 v2 s1 else (if v2 = 115 then F_X9_readInstruction_b65 v2 s1 else (if v2 = 98 then F_X9_readInstruction_b65 v2 s1 else (if v2 = 114 then F_X9_readInstruction_b65 v2 s1 else F_X9_readInstruction_b70 v2 0 s1)))))))))))
def B_X9_setBody_b205 (k205 : Int32 → Int32 → cv_St → Option (Int32 × cv_St)) (l1 : Int32) (l3 : Int32) (σ : cv_St) : Option (Int32 × cv_St) :=
  (if (σ.2.1 20) ≤ l3 then cv_bv (F_X9_changed σ) (fun s12 => some ((s12.2.1 20), s12)) else cv_ld σ 46 60 l3 (fun v13 => cv_st σ 43 344 ((8 + (14 * l1)) + l3) v13 (fun s14 => cv_ld s14 47 60 l3 (fun v15 => cv_st s14 43 344 ((120 + (14 * l1)) + l3) v15 (fun s16 => cv_ld s16 48 60 l3 (fun v17 => cv_st s16 43 344 ((232 + (14 * l1)) + l3) v17 (fun s18 => k205 l1 (l3 + Int32.ofInt 1) s18)))))))
def F_X9_setBody_b205 : Nat → Int32 → Int32 → cv_St → Option (Int32 × cv_St)
  | 0, _, _, _ => none
  | n + 1, l1, l3, σ => B_X9_setBody_b205 (F_X9_setBody_b205 n) l1 l3 σ
def F_X9_setBody_b181 (l1 : Int32) (t0 : Int32) (σ : cv_St) : Option (Int32 × cv_St) :=
  cv_pui σ 17 t0 (fun s10 => (if (s10.2.1 17) ≤ 0 then cv_st s10 43 344 l1 (s10.2.1 20) (fun s11 => F_X9_setBody_b205 1000 l1 0 s11) else some (0, s10)))
def F_X9_setBody_b152 (l1 : Int32) (t0 : Int32) (σ : cv_St) : Option (Int32 × cv_St) :=
  cv_pui σ 16 t0 (fun s9 => (if (s9.2.1 19) = 0 then (if (s9.2.1 20) ≤ 14 then F_X9_setBody_b181 l1 0 s9 else F_X9_setBody_b181 l1 3 s9) else F_X9_setBody_b181 l1 2 s9))
def F_X9_setBody_b128 (l1 : Int32) (t0 : Int32) (σ : cv_St) : Option (Int32 × cv_St) :=
  cv_puz σ 19 t0 (fun s7 => cv_pui s7 15 0 (fun s8 => (if (s8.2.1 19) = 0 then F_X9_setBody_b152 l1 (-1) s8 else F_X9_setBody_b152 l1 (s8.2.1 18) s8)))
def F_X9_setBody_b123 (l1 : Int32) (σ : cv_St) : Option (Int32 × cv_St) :=
  F_X9_setBody_b128 l1 1 σ
def F_X9_setBody_b97 (k53 : Int32 → Int32 → cv_St → Option (Int32 × cv_St)) (l1 : Int32) (l2 : Int32) (t0 : Int32) (t1 : Int32) (σ : cv_St) : Option (Int32 × cv_St) :=
  cv_pui σ 18 (t1 + t0) (fun s20 => k53 l1 l2 s20)
def F_X9_setBody_b82 (k53 : Int32 → Int32 → cv_St → Option (Int32 × cv_St)) (l1 : Int32) (t0 : Int32) (σ : cv_St) : Option (Int32 × cv_St) :=
  (if t0 = 0 then F_X9_setBody_b97 k53 l1 t0 0 (σ.2.1 18) σ else F_X9_setBody_b97 k53 l1 t0 1 (σ.2.1 18) σ)
def F_X9_setBody_b81 (k53 : Int32 → Int32 → cv_St → Option (Int32 × cv_St)) (l1 : Int32) (σ : cv_St) : Option (Int32 × cv_St) :=
  F_X9_setBody_b82 k53 l1 0 σ
def B_X9_setBody_b53 (k53 : Int32 → Int32 → cv_St → Option (Int32 × cv_St)) (l1 : Int32) (l2 : Int32) (σ : cv_St) : Option (Int32 × cv_St) :=
  (if l2 = 0 then (if (σ.2.1 19) = 0 then (if (σ.2.1 15) ≤ (σ.2.1 18) then F_X9_setBody_b128 l1 0 σ else F_X9_setBody_b123 l1 σ) else F_X9_setBody_b123 l1 σ) else cv_bv (F_X9_readInstruction σ) (fun s19 => (if (s19.2.1 19) = 0 then cv_bi (F_X9_here s19) (fun v22 s21 => (if v22 = 59 then F_X9_setBody_b82 k53 l1 1 s21 else F_X9_setBody_b81 k53 l1 s21)) else F_X9_setBody_b81 k53 l1 s19)))
def F_X9_setBody_b53 : Nat → Int32 → Int32 → cv_St → Option (Int32 × cv_St)
  | 0, _, _, _ => none
  | n + 1, l1, l2, σ => B_X9_setBody_b53 (F_X9_setBody_b53 n) l1 l2 σ
def F_X9_setBody_b52 (l1 : Int32) (t0 : Int32) (σ : cv_St) : Option (Int32 × cv_St) :=
  F_X9_setBody_b53 1000 l1 t0 σ
def F_X9_setBody_b13 (l1 : Int32) (t0 : Int32) (σ : cv_St) : Option (Int32 × cv_St) :=
  cv_pui σ 17 t0 (fun s3 => (if (s3.2.1 17) ≤ 0 then cv_pui s3 18 0 (fun s4 => cv_puz s4 19 0 (fun s5 => cv_pui s5 20 0 (fun s6 => (if (s6.2.1 15) ≤ 0 then F_X9_setBody_b52 l1 0 s6 else F_X9_setBody_b52 l1 1 s6)))) else some (0, s3)))
def F_X9_setBody (l1 : Int32) (σ : cv_St) : Option (Int32 × cv_St) :=
  cv_bi (F_X9_isFunction l1 σ) (fun v2 s1 => (if v2 = 0 then F_X9_setBody_b13 l1 1 s1 else F_X9_setBody_b13 l1 0 s1))
def F_X9_faultPosition (σ : cv_St) : Option (Int32 × cv_St) :=
  cv_pui σ 17 0 (fun s1 => some ((s1.2.1 16), s1))
def F_X9_length_b13 (l1 : Int32) (t0 : Int32) (σ : cv_St) : Option (Int32 × cv_St) :=
  cv_pui σ 17 t0 (fun s3 => (if (s3.2.1 17) ≤ 0 then cv_ld s3 43 344 l1 (fun v4 => some (v4, s3)) else some (0, s3)))
def F_X9_length (l1 : Int32) (σ : cv_St) : Option (Int32 × cv_St) :=
  cv_bi (F_X9_isFunction l1 σ) (fun v2 s1 => (if v2 = 0 then F_X9_length_b13 l1 1 s1 else F_X9_length_b13 l1 0 s1))
def F_X9_instruction_b15 (l1 : Int32) (l2 : Int32) (t0 : Int32) (σ : cv_St) : Option (Int32 × cv_St) :=
  cv_pui σ 17 t0 (fun s3 => (if (s3.2.1 17) ≤ 0 then cv_bi (F_X9_kind l1 l2 s3) (fun v5 s4 => cv_rc ((v5.toUInt32 % 65536).toInt32) s4) else cv_rc 0 s3))
def F_X9_instruction (l1 : Int32) (l2 : Int32) (σ : cv_St) : Option (Int32 × cv_St) :=
  cv_bi (F_X9_isInstruction l1 l2 σ) (fun v2 s1 => (if v2 = 0 then F_X9_instruction_b15 l1 l2 1 s1 else F_X9_instruction_b15 l1 l2 0 s1))
def F_X9_operand_b30 (l1 : Int32) (l2 : Int32) (t0 : Int32) (σ : cv_St) : Option (Int32 × cv_St) :=
  cv_pui σ 17 t0 (fun s5 => (if (s5.2.1 17) ≤ 0 then cv_bi (F_X9_kind l1 l2 s5) (fun v7 s6 => (if v7 = 109 then cv_bi (F_X9_first l1 l2 s6) (fun v11 s10 => cv_bi (F_X9_second l1 l2 s10) (fun v13 s12 => some (((10 * v11) + v13), s12))) else cv_bi (F_X9_first l1 l2 s6) (fun v9 s8 => some (v9, s8)))) else some (0, s5)))
def F_X9_operand (l1 : Int32) (l2 : Int32) (σ : cv_St) : Option (Int32 × cv_St) :=
  cv_bi (F_X9_isInstruction l1 l2 σ) (fun v2 s1 => (if v2 = 0 then F_X9_operand_b30 l1 l2 1 s1 else cv_bi (F_X9_kind l1 l2 s1) (fun v4 s3 => (if v4 = 114 then F_X9_operand_b30 l1 l2 2 s3 else F_X9_operand_b30 l1 l2 0 s3))))
def B_X9_removeInstruction_b40 (k30 : Int32 → Int32 → Int32 → cv_St → Option (Int32 × cv_St)) (k40 : Int32 → Int32 → Int32 → Int32 → cv_St → Option (Int32 × cv_St)) (l1 : Int32) (l2 : Int32) (l3 : Int32) (l4 : Int32) (σ : cv_St) : Option (Int32 × cv_St) :=
  cv_ld σ 43 344 l1 (fun v8 => (if (v8 - 1) ≤ l4 then k30 l1 l2 (l3 + Int32.ofInt 112) σ else cv_ld σ 43 344 (((l3 + (14 * l1)) + l4) + 1) (fun v9 => cv_st σ 43 344 ((l3 + (14 * l1)) + l4) v9 (fun s10 => k40 l1 l2 l3 (l4 + Int32.ofInt 1) s10))))
def F_X9_removeInstruction_b40 (k30 : Int32 → Int32 → Int32 → cv_St → Option (Int32 × cv_St)) : Nat → Int32 → Int32 → Int32 → Int32 → cv_St → Option (Int32 × cv_St)
  | 0, _, _, _, _, _ => none
  | n + 1, l1, l2, l3, l4, σ => B_X9_removeInstruction_b40 k30 (F_X9_removeInstruction_b40 k30 n) l1 l2 l3 l4 σ
def B_X9_removeInstruction_b30 (k30 : Int32 → Int32 → Int32 → cv_St → Option (Int32 × cv_St)) (l1 : Int32) (l2 : Int32) (l3 : Int32) (σ : cv_St) : Option (Int32 × cv_St) :=
  (if 344 ≤ l3 then cv_ld σ 43 344 l1 (fun v4 => cv_st σ 43 344 l1 (v4 - 1) (fun s5 => cv_bv (F_X9_changed s5) (fun s6 => cv_ld s6 43 344 l1 (fun v7 => some (v7, s6))))) else F_X9_removeInstruction_b40 k30 1000 l1 l2 l3 l2 σ)
def F_X9_removeInstruction_b30 : Nat → Int32 → Int32 → Int32 → cv_St → Option (Int32 × cv_St)
  | 0, _, _, _, _ => none
  | n + 1, l1, l2, l3, σ => B_X9_removeInstruction_b30 (F_X9_removeInstruction_b30 n) l1 l2 l3 σ
def F_X9_removeInstruction_b15 (l1 : Int32) (l2 : Int32) (t0 : Int32) (σ : cv_St) : Option (Int32 × cv_St) :=
  cv_pui σ 17 t0 (fun s3 => (if (s3.2.1 17) ≤ 0 then F_X9_removeInstruction_b30 1000 l1 l2 8 s3 else some (0, s3)))
def F_X9_removeInstruction (l1 : Int32) (l2 : Int32) (σ : cv_St) : Option (Int32 × cv_St) :=
  cv_bi (F_X9_isInstruction l1 l2 σ) (fun v2 s1 => (if v2 = 0 then F_X9_removeInstruction_b15 l1 l2 1 s1 else F_X9_removeInstruction_b15 l1 l2 0 s1))
def F_X9_next_b52 (l1 : Int32) (t0 : Int32) (σ : cv_St) : Option (Int32 × cv_St) :=
  cv_ld σ 43 344 l1 (fun v5 => some ((if v5 < t0 then v5 else t0), σ))
def F_X9_next_b49 (l1 : Int32) (l2 : Int32) (σ : cv_St) : Option (Int32 × cv_St) :=
  F_X9_next_b52 l1 (l2 + 1) σ
def F_X9_next (l1 : Int32) (l2 : Int32) (l3 : Int32) (σ : cv_St) : Option (Int32 × cv_St) :=
  cv_bi (F_X9_kind l1 l2 σ) (fun v2 s1 => (if v2 = 114 then cv_ld s1 43 344 l1 (fun v8 => F_X9_next_b52 l1 v8 s1) else cv_bi (F_X9_kind l1 l2 s1) (fun v4 s3 => (if v4 = 98 then (if l3 = 1 then cv_bi (F_X9_first l1 l2 s3) (fun v7 s6 => F_X9_next_b52 l1 ((l2 + 1) + v7) s6) else F_X9_next_b49 l1 l2 s3) else F_X9_next_b49 l1 l2 s3))))
def F_X9_reached (l1 : Int32) (l2 : Int32) (σ : cv_St) : Option (Int32 × cv_St) :=
  cv_ld σ 49 120 ((15 * l1) + l2) (fun v1 => cv_rz v1 σ)
def F_X9_findReached_b86 (k36 : Int32 → Int32 → cv_St → Option (cv_St)) (l1 : Int32) (l2 : Int32) (σ : cv_St) : Option (cv_St) :=
  k36 l1 (l2 + Int32.ofInt 1) σ
def B_X9_findReached_b48 (k36 : Int32 → Int32 → cv_St → Option (cv_St)) (k48 : Int32 → Int32 → Int32 → cv_St → Option (cv_St)) (l1 : Int32) (l2 : Int32) (l3 : Int32) (σ : cv_St) : Option (cv_St) :=
  (if 2 ≤ l3 then F_X9_findReached_b86 k36 l1 l2 σ else cv_bi (F_X9_reached l1 l2 σ) (fun v3 s2 => (if v3 = 0 then F_X9_findReached_b86 k36 l1 l2 s2 else cv_bi (F_X9_next l1 l2 l3 s2) (fun v5 s4 => cv_st s4 49 120 ((15 * l1) + v5) (vp_nar .boolean 1) (fun s6 => k48 l1 l2 (l3 + Int32.ofInt 1) s6)))))
def F_X9_findReached_b48 (k36 : Int32 → Int32 → cv_St → Option (cv_St)) : Nat → Int32 → Int32 → Int32 → cv_St → Option (cv_St)
  | 0, _, _, _, _ => none
  | n + 1, l1, l2, l3, σ => B_X9_findReached_b48 k36 (F_X9_findReached_b48 k36 n) l1 l2 l3 σ
def B_X9_findReached_b36 (k36 : Int32 → Int32 → cv_St → Option (cv_St)) (l1 : Int32) (l2 : Int32) (σ : cv_St) : Option (cv_St) :=
  cv_ld σ 43 344 l1 (fun v1 => (if v1 ≤ l2 then some σ else F_X9_findReached_b48 k36 1000 l1 l2 0 σ))
def F_X9_findReached_b36 : Nat → Int32 → Int32 → cv_St → Option (cv_St)
  | 0, _, _, _ => none
  | n + 1, l1, l2, σ => B_X9_findReached_b36 (F_X9_findReached_b36 n) l1 l2 σ
def F_X9_findReached_b27 (k2 : Int32 → Int32 → cv_St → Option (cv_St)) (l1 : Int32) (l2 : Int32) (t0 : Int32) (t1 : Int32) (σ : cv_St) : Option (cv_St) :=
  cv_st σ 49 120 t1 (vp_nar .boolean t0) (fun s7 => k2 l1 (l2 + Int32.ofInt 1) s7)
def B_X9_findReached_b2 (k2 : Int32 → Int32 → cv_St → Option (cv_St)) (l1 : Int32) (l2 : Int32) (σ : cv_St) : Option (cv_St) :=
  (if 15 ≤ l2 then F_X9_findReached_b36 1000 l1 0 σ else (if l2 = 0 then F_X9_findReached_b27 k2 l1 l2 1 ((15 * l1) + l2) σ else F_X9_findReached_b27 k2 l1 l2 0 ((15 * l1) + l2) σ))
def F_X9_findReached_b2 : Nat → Int32 → Int32 → cv_St → Option (cv_St)
  | 0, _, _, _ => none
  | n + 1, l1, l2, σ => B_X9_findReached_b2 (F_X9_findReached_b2 n) l1 l2 σ
def F_X9_findReached (l1 : Int32) (σ : cv_St) : Option (cv_St) :=
  F_X9_findReached_b2 1000 l1 0 σ
def F_X9_comes_b90 (k23 : Int32 → Int32 → Int32 → cv_St → Option (Int32 × cv_St)) (l1 : Int32) (l2 : Int32) (l3 : Int32) (t0 : Int32) (t1 : Int32) (σ : cv_St) : Option (Int32 × cv_St) :=
  cv_st σ 53 210 t1 t0 (fun s4 => k23 l1 l2 (l3 + Int32.ofInt 1) s4)
def F_X9_comes_b63 (k23 : Int32 → Int32 → Int32 → cv_St → Option (Int32 × cv_St)) (l1 : Int32) (l2 : Int32) (l3 : Int32) (t0 : Int32) (σ : cv_St) : Option (Int32 × cv_St) :=
  (if t0 = 0 then F_X9_comes_b90 k23 l1 l2 l3 (-1) ((14 * l1) + l3) σ else cv_ld σ 54 14 l3 (fun v5 => F_X9_comes_b90 k23 l1 l2 l3 v5 ((14 * l1) + l3) σ))
def F_X9_comes_b58 (k23 : Int32 → Int32 → Int32 → cv_St → Option (Int32 × cv_St)) (l1 : Int32) (l2 : Int32) (l3 : Int32) (σ : cv_St) : Option (Int32 × cv_St) :=
  F_X9_comes_b63 k23 l1 l2 l3 1 σ
def B_X9_comes_b23 (k23 : Int32 → Int32 → Int32 → cv_St → Option (Int32 × cv_St)) (l1 : Int32) (l2 : Int32) (l3 : Int32) (σ : cv_St) : Option (Int32 × cv_St) :=
  (if 14 ≤ l3 then cv_st σ 52 15 l1 l2 (fun s2 => cv_rz 1 s2) else cv_ld σ 52 15 l1 (fun v3 => (if v3 < 0 then F_X9_comes_b58 k23 l1 l2 l3 σ else cv_ld σ 53 210 ((14 * l1) + l3) (fun v6 => cv_ld σ 54 14 l3 (fun v7 => (if v6 = v7 then F_X9_comes_b58 k23 l1 l2 l3 σ else F_X9_comes_b63 k23 l1 l2 l3 0 σ))))))
def F_X9_comes_b23 : Nat → Int32 → Int32 → Int32 → cv_St → Option (Int32 × cv_St)
  | 0, _, _, _, _ => none
  | n + 1, l1, l2, l3, σ => B_X9_comes_b23 (F_X9_comes_b23 n) l1 l2 l3 σ
def F_X9_comes_b21 (l1 : Int32) (l2 : Int32) (σ : cv_St) : Option (Int32 × cv_St) :=
  F_X9_comes_b23 1000 l1 l2 0 σ
def F_X9_comes (l1 : Int32) (l2 : Int32) (σ : cv_St) : Option (Int32 × cv_St) :=
  cv_ld σ 52 15 l1 (fun v1 => (if v1 < 0 then F_X9_comes_b21 l1 l2 σ else cv_ld σ 52 15 l1 (fun v8 => (if v8 = l2 then F_X9_comes_b21 l1 l2 σ else cv_rz 0 σ))))
def F_X9_does_b116 (l3 : Int32) (σ : cv_St) : Option (Int32 × cv_St) :=
  (if 6 ≤ l3 then some ((-1), σ) else some ((l3 + 1), σ))
def F_X9_does_b164 (l3 : Int32) (σ : cv_St) : Option (Int32 × cv_St) :=
  some ((l3 - 1), σ)
def F_X9_does_b211 (k171 : Int32 → Int32 → Int32 → cv_St → Option (Int32 × cv_St)) (l3 : Int32) (l4 : Int32) (l5 : Int32) (t0 : Int32) (t1 : Int32) (σ : cv_St) : Option (Int32 × cv_St) :=
  cv_st σ 54 14 t1 t0 (fun s11 => k171 l3 l4 (l5 + Int32.ofInt 1) s11)
def B_X9_does_b171 (k171 : Int32 → Int32 → Int32 → cv_St → Option (Int32 × cv_St)) (l3 : Int32) (l4 : Int32) (l5 : Int32) (σ : cv_St) : Option (Int32 × cv_St) :=
  (if 8 ≤ l5 then some (l3, σ) else cv_ld σ 51 8 l4 (fun v10 => (if ((v10 >>> (l5 &&& 31)) &&& 1) = 1 then cv_ld σ 54 14 l5 (fun v12 => F_X9_does_b211 k171 l3 l4 l5 v12 l5 σ) else F_X9_does_b211 k171 l3 l4 l5 (-1) l5 σ)))
def F_X9_does_b171 : Nat → Int32 → Int32 → Int32 → cv_St → Option (Int32 × cv_St)
  | 0, _, _, _, _ => none
  | n + 1, l3, l4, l5, σ => B_X9_does_b171 (F_X9_does_b171 n) l3 l4 l5 σ
def F_X9_does (l1 : Int32) (l2 : Int32) (l3 : Int32) (σ : cv_St) : Option (Int32 × cv_St) :=
  cv_bi (F_X9_first l1 l2 σ) (fun v2 s1 => cv_bi (F_X9_kind l1 l2 s1) (fun v4 s3 => (if v4 = 43 then (if 6 ≤ l3 then F_X9_does_b116 l3 s3 else cv_ld s3 54 14 v2 (fun v5 => cv_st s3 54 14 (8 + l3) v5 (fun s6 => F_X9_does_b116 l3 s6))) else (if v4 = 45 then (if l3 ≤ 0 then F_X9_does_b164 l3 s3 else cv_ld s3 54 14 ((8 + l3) - 1) (fun v7 => cv_st s3 54 14 v2 v7 (fun s8 => cv_st s8 54 14 ((8 + l3) - 1) (-1) (fun s9 => F_X9_does_b164 l3 s9)))) else (if v4 = 99 then F_X9_does_b171 1000 l3 v2 0 s3 else (if v4 = 100 then cv_st s3 54 14 v2 (-1) (fun s13 => some (l3, s13)) else (if v4 = 109 then cv_bi (F_X9_second l1 l2 s3) (fun v15 s14 => cv_ld s14 54 14 v15 (fun v16 => cv_st s14 54 14 v2 v16 (fun s17 => some (l3, s17)))) else some (l3, s3))))))))
def F_X9_follows_b167 (l1 : Int32) (l2 : Int32) (σ : cv_St) : Option (Int32 × cv_St) :=
  (if l2 = 0 then cv_rz 0 σ else cv_ld σ 43 344 l1 (fun v4 => cv_ld σ 52 15 v4 (fun v5 => (if v5 = 0 then cv_rz 1 σ else cv_rz 0 σ))))
def F_X9_follows_b161 (k61 : Int32 → Int32 → Int32 → cv_St → Option (Int32 × cv_St)) (l1 : Int32) (l2 : Int32) (l3 : Int32) (σ : cv_St) : Option (Int32 × cv_St) :=
  k61 l1 l2 (l3 + Int32.ofInt 1) σ
def B_X9_follows_b130 (k61 : Int32 → Int32 → Int32 → cv_St → Option (Int32 × cv_St)) (k130 : Int32 → Int32 → Int32 → Int32 → Int32 → cv_St → Option (Int32 × cv_St)) (l1 : Int32) (l2 : Int32) (l3 : Int32) (l4 : Int32) (l5 : Int32) (σ : cv_St) : Option (Int32 × cv_St) :=
  (if 2 ≤ l5 then F_X9_follows_b161 k61 l1 l2 l3 σ else (if l2 = 0 then F_X9_follows_b161 k61 l1 l2 l3 σ else cv_bi (F_X9_next l1 l3 l5 σ) (fun v12 s11 => cv_bi (F_X9_comes v12 l4 s11) (fun v14 s13 => k130 l1 v14 l3 l4 (l5 + Int32.ofInt 1) s13))))
def F_X9_follows_b130 (k61 : Int32 → Int32 → Int32 → cv_St → Option (Int32 × cv_St)) : Nat → Int32 → Int32 → Int32 → Int32 → Int32 → cv_St → Option (Int32 × cv_St)
  | 0, _, _, _, _, _, _ => none
  | n + 1, l1, l2, l3, l4, l5, σ => B_X9_follows_b130 k61 (F_X9_follows_b130 k61 n) l1 l2 l3 l4 l5 σ
def F_X9_follows_b126 (k61 : Int32 → Int32 → Int32 → cv_St → Option (Int32 × cv_St)) (l1 : Int32) (l3 : Int32) (l4 : Int32) (t0 : Int32) (σ : cv_St) : Option (Int32 × cv_St) :=
  F_X9_follows_b130 k61 1000 l1 t0 l3 l4 0 σ
def B_X9_follows_b61 (k61 : Int32 → Int32 → Int32 → cv_St → Option (Int32 × cv_St)) (l1 : Int32) (l2 : Int32) (l3 : Int32) (σ : cv_St) : Option (Int32 × cv_St) :=
  cv_ld σ 43 344 l1 (fun v3 => (if v3 ≤ l3 then F_X9_follows_b167 l1 l2 σ else (if l2 = 0 then F_X9_follows_b167 l1 l2 σ else cv_ld σ 52 15 l3 (fun v6 => (if v6 < 0 then F_X9_follows_b161 k61 l1 l2 l3 σ else cv_cp σ 53 210 54 14 (14 * l3) 0 14 (fun s7 => cv_ld s7 52 15 l3 (fun v8 => cv_bi (F_X9_does l1 l3 v8 s7) (fun v10 s9 => (if v10 < 0 then F_X9_follows_b126 k61 l1 l3 v10 0 s9 else F_X9_follows_b126 k61 l1 l3 v10 1 s9)))))))))
def F_X9_follows_b61 : Nat → Int32 → Int32 → Int32 → cv_St → Option (Int32 × cv_St)
  | 0, _, _, _, _ => none
  | n + 1, l1, l2, l3, σ => B_X9_follows_b61 (F_X9_follows_b61 n) l1 l2 l3 σ
def F_X9_follows_b45 (k23 : Int32 → Int32 → cv_St → Option (Int32 × cv_St)) (l1 : Int32) (l2 : Int32) (t0 : Int32) (t1 : Int32) (σ : cv_St) : Option (Int32 × cv_St) :=
  cv_st σ 54 14 t1 t0 (fun s15 => k23 l1 (l2 + Int32.ofInt 1) s15)
def B_X9_follows_b23 (k23 : Int32 → Int32 → cv_St → Option (Int32 × cv_St)) (l1 : Int32) (l2 : Int32) (σ : cv_St) : Option (Int32 × cv_St) :=
  (if 14 ≤ l2 then cv_bi (F_X9_comes 0 0 σ) (fun v2 s1 => F_X9_follows_b61 1000 l1 v2 0 s1) else (if 8 ≤ l2 then F_X9_follows_b45 k23 l1 l2 (-1) l2 σ else F_X9_follows_b45 k23 l1 l2 l2 l2 σ))
def F_X9_follows_b23 : Nat → Int32 → Int32 → cv_St → Option (Int32 × cv_St)
  | 0, _, _, _ => none
  | n + 1, l1, l2, σ => B_X9_follows_b23 (F_X9_follows_b23 n) l1 l2 σ
def B_X9_follows_b2 (k2 : Int32 → Int32 → cv_St → Option (Int32 × cv_St)) (l1 : Int32) (l2 : Int32) (σ : cv_St) : Option (Int32 × cv_St) :=
  (if 15 ≤ l2 then F_X9_follows_b23 1000 l1 0 σ else cv_st σ 52 15 l2 (-1) (fun s16 => k2 l1 (l2 + Int32.ofInt 1) s16))
def F_X9_follows_b2 : Nat → Int32 → Int32 → cv_St → Option (Int32 × cv_St)
  | 0, _, _, _ => none
  | n + 1, l1, l2, σ => B_X9_follows_b2 (F_X9_follows_b2 n) l1 l2 σ
def F_X9_follows (l1 : Int32) (σ : cv_St) : Option (Int32 × cv_St) :=
  F_X9_follows_b2 1000 l1 0 σ
def F_X9_preservedBy_b46 (k12 : Int32 → Int32 → Int32 → cv_St → Option (Int32 × cv_St)) (l1 : Int32) (l3 : Int32) (t0 : Int32) (t1 : Int32) (σ : cv_St) : Option (Int32 × cv_St) :=
  k12 l1 (t1 ||| t0) (l3 + Int32.ofInt 1) σ
def B_X9_preservedBy_b12 (k12 : Int32 → Int32 → Int32 → cv_St → Option (Int32 × cv_St)) (l1 : Int32) (l2 : Int32) (l3 : Int32) (σ : cv_St) : Option (Int32 × cv_St) :=
  (if 8 ≤ l3 then some (l2, σ) else cv_ld σ 43 344 l1 (fun v3 => cv_ld σ 53 210 ((14 * v3) + l3) (fun v4 => (if v4 = l3 then F_X9_preservedBy_b46 k12 l1 l3 (1 <<< (l3 &&& 31)) l2 σ else F_X9_preservedBy_b46 k12 l1 l3 0 l2 σ))))
def F_X9_preservedBy_b12 : Nat → Int32 → Int32 → Int32 → cv_St → Option (Int32 × cv_St)
  | 0, _, _, _, _ => none
  | n + 1, l1, l2, l3, σ => B_X9_preservedBy_b12 (F_X9_preservedBy_b12 n) l1 l2 l3 σ
def F_X9_preservedBy (l1 : Int32) (σ : cv_St) : Option (Int32 × cv_St) :=
  cv_bi (F_X9_follows l1 σ) (fun v2 s1 => (if v2 = 0 then some (0, s1) else F_X9_preservedBy_b12 1000 l1 0 0 s1))
def F_X9_findPreserved_b88 (k49 : Int32 → cv_St → Option (cv_St)) (k57 : Int32 → Int32 → cv_St → Option (cv_St)) (l2 : Int32) (l3 : Int32) (t0 : Int32) (σ : cv_St) : Option (cv_St) :=
  cv_st σ 51 8 l2 l3 (fun s3 => k57 t0 (l2 + Int32.ofInt 1) s3)
def F_X9_findPreserved_b83 (k49 : Int32 → cv_St → Option (cv_St)) (k57 : Int32 → Int32 → cv_St → Option (cv_St)) (l2 : Int32) (l3 : Int32) (σ : cv_St) : Option (cv_St) :=
  F_X9_findPreserved_b88 k49 k57 l2 l3 1 σ
def B_X9_findPreserved_b57 (k49 : Int32 → cv_St → Option (cv_St)) (k57 : Int32 → Int32 → cv_St → Option (cv_St)) (l1 : Int32) (l2 : Int32) (σ : cv_St) : Option (cv_St) :=
  (if 8 ≤ l2 then k49 l1 σ else cv_bi (F_X9_preservedBy l2 σ) (fun v2 s1 => (if l1 = 0 then cv_ld s1 51 8 l2 (fun v4 => (if v2 = v4 then F_X9_findPreserved_b88 k49 k57 l2 v2 0 s1 else F_X9_findPreserved_b83 k49 k57 l2 v2 s1)) else F_X9_findPreserved_b83 k49 k57 l2 v2 s1)))
def F_X9_findPreserved_b57 (k49 : Int32 → cv_St → Option (cv_St)) : Nat → Int32 → Int32 → cv_St → Option (cv_St)
  | 0, _, _, _ => none
  | n + 1, l1, l2, σ => B_X9_findPreserved_b57 k49 (F_X9_findPreserved_b57 k49 n) l1 l2 σ
def B_X9_findPreserved_b49 (k49 : Int32 → cv_St → Option (cv_St)) (l1 : Int32) (σ : cv_St) : Option (cv_St) :=
  (if l1 = 0 then some σ else F_X9_findPreserved_b57 k49 1000 0 0 σ)
def F_X9_findPreserved_b49 : Nat → Int32 → cv_St → Option (cv_St)
  | 0, _, _ => none
  | n + 1, l1, σ => B_X9_findPreserved_b49 (F_X9_findPreserved_b49 n) l1 σ
def F_X9_findPreserved_b40 (k2 : Int32 → cv_St → Option (cv_St)) (l1 : Int32) (t0 : Int32) (t1 : Int32) (σ : cv_St) : Option (cv_St) :=
  cv_st σ 51 8 t1 t0 (fun s9 => k2 (l1 + Int32.ofInt 1) s9)
def B_X9_findPreserved_b2 (k2 : Int32 → cv_St → Option (cv_St)) (l1 : Int32) (σ : cv_St) : Option (cv_St) :=
  (if 8 ≤ l1 then F_X9_findPreserved_b49 1000 1 σ else cv_bi (F_X9_follows l1 σ) (fun v6 s5 => cv_st s5 50 8 l1 (vp_nar .boolean v6) (fun s7 => cv_ld s7 50 8 l1 (fun v8 => (if v8 = 0 then F_X9_findPreserved_b40 k2 l1 0 l1 s7 else F_X9_findPreserved_b40 k2 l1 255 l1 s7)))))
def F_X9_findPreserved_b2 : Nat → Int32 → cv_St → Option (cv_St)
  | 0, _, _ => none
  | n + 1, l1, σ => B_X9_findPreserved_b2 (F_X9_findPreserved_b2 n) l1 σ
def F_X9_findPreserved (σ : cv_St) : Option (cv_St) :=
  F_X9_findPreserved_b2 1000 0 σ
def F_X9_clobbered (l1 : Int32) (σ : cv_St) : Option (Int32 × cv_St) :=
  cv_ld σ 51 8 l1 (fun v1 => some ((255 &&& (v1 ^^^ (-1))), σ))
def F_X9_beginSets_b22 (k2 : Int32 → cv_St → Option (cv_St)) (l2 : Int32) (t0 : Int32) (t1 : Int32) (σ : cv_St) : Option (cv_St) :=
  cv_st σ 56 15 t1 t0 (fun s1 => k2 (l2 + Int32.ofInt 1) s1)
def B_X9_beginSets_b2 (k2 : Int32 → cv_St → Option (cv_St)) (l2 : Int32) (σ : cv_St) : Option (cv_St) :=
  (if 15 ≤ l2 then some σ else (if l2 = 0 then F_X9_beginSets_b22 k2 l2 0 l2 σ else F_X9_beginSets_b22 k2 l2 (-1) l2 σ))
def F_X9_beginSets_b2 : Nat → Int32 → cv_St → Option (cv_St)
  | 0, _, _ => none
  | n + 1, l2, σ => B_X9_beginSets_b2 (F_X9_beginSets_b2 n) l2 σ
def F_X9_beginSets (l1 : Int32) (σ : cv_St) : Option (cv_St) :=
  F_X9_beginSets_b2 1000 0 σ
def B_X9_bringSet_b3 (k3 : Int32 → Int32 → Int32 → Int32 → cv_St → Option (cv_St)) (l1 : Int32) (l2 : Int32) (l3 : Int32) (l4 : Int32) (σ : cv_St) : Option (cv_St) :=
  (if 2 ≤ l4 then some σ else cv_bi (F_X9_next l1 l2 l4 σ) (fun v2 s1 => cv_ld s1 56 15 v2 (fun v3 => cv_st s1 56 15 v2 (v3 &&& l3) (fun s4 => k3 l1 l2 l3 (l4 + Int32.ofInt 1) s4))))
def F_X9_bringSet_b3 : Nat → Int32 → Int32 → Int32 → Int32 → cv_St → Option (cv_St)
  | 0, _, _, _, _, _ => none
  | n + 1, l1, l2, l3, l4, σ => B_X9_bringSet_b3 (F_X9_bringSet_b3 n) l1 l2 l3 l4 σ
def F_X9_bringSet (l1 : Int32) (l2 : Int32) (l3 : Int32) (σ : cv_St) : Option (cv_St) :=
  F_X9_bringSet_b3 1000 l1 l2 l3 0 σ
def F_X9_definedBy_b100 (k7 : Int32 → Int32 → cv_St → Option (Int32 × cv_St)) (l1 : Int32) (l2 : Int32) (σ : cv_St) : Option (Int32 × cv_St) :=
  k7 l1 (l2 + Int32.ofInt 1) σ
def F_X9_definedBy_b83 (k7 : Int32 → Int32 → cv_St → Option (Int32 × cv_St)) (l1 : Int32) (l2 : Int32) (t0 : Int32) (σ : cv_St) : Option (Int32 × cv_St) :=
  cv_ld σ 56 15 l2 (fun v11 => cv_bv (F_X9_bringSet l1 l2 (v11 ||| t0) σ) (fun s12 => F_X9_definedBy_b100 k7 l1 l2 s12))
def F_X9_definedBy_b51 (k7 : Int32 → Int32 → cv_St → Option (Int32 × cv_St)) (l1 : Int32) (l2 : Int32) (σ : cv_St) : Option (Int32 × cv_St) :=
  cv_bi (F_X9_first l1 l2 σ) (fun v10 s9 => F_X9_definedBy_b83 k7 l1 l2 (1 <<< (v10 &&& 31)) s9)
def B_X9_definedBy_b7 (k7 : Int32 → Int32 → cv_St → Option (Int32 × cv_St)) (l1 : Int32) (l2 : Int32) (σ : cv_St) : Option (Int32 × cv_St) :=
  cv_ld σ 43 344 l1 (fun v2 => (if v2 ≤ l2 then cv_ld σ 43 344 l1 (fun v3 => cv_ld σ 56 15 v3 (fun v4 => some (v4, σ))) else cv_bi (F_X9_reached l1 l2 σ) (fun v6 s5 => (if v6 = 0 then F_X9_definedBy_b100 k7 l1 l2 s5 else cv_bi (F_X9_kind l1 l2 s5) (fun v8 s7 => (if v8 = 100 then F_X9_definedBy_b51 k7 l1 l2 s7 else (if v8 = 109 then F_X9_definedBy_b51 k7 l1 l2 s7 else (if v8 = 45 then F_X9_definedBy_b51 k7 l1 l2 s7 else (if v8 = 99 then cv_bi (F_X9_first l1 l2 s7) (fun v14 s13 => cv_ld s13 55 8 v14 (fun v15 => F_X9_definedBy_b83 k7 l1 l2 v15 s13)) else F_X9_definedBy_b83 k7 l1 l2 0 s7)))))))))
def F_X9_definedBy_b7 : Nat → Int32 → Int32 → cv_St → Option (Int32 × cv_St)
  | 0, _, _, _ => none
  | n + 1, l1, l2, σ => B_X9_definedBy_b7 (F_X9_definedBy_b7 n) l1 l2 σ
def F_X9_definedBy (l1 : Int32) (σ : cv_St) : Option (Int32 × cv_St) :=
  cv_bv (F_X9_beginSets l1 σ) (fun s1 => F_X9_definedBy_b7 1000 l1 0 s1)
def F_X9_findDefined_b62 (k23 : Int32 → cv_St → Option (cv_St)) (k31 : Int32 → Int32 → cv_St → Option (cv_St)) (l2 : Int32) (l3 : Int32) (t0 : Int32) (σ : cv_St) : Option (cv_St) :=
  cv_st σ 55 8 l2 l3 (fun s3 => k31 t0 (l2 + Int32.ofInt 1) s3)
def F_X9_findDefined_b57 (k23 : Int32 → cv_St → Option (cv_St)) (k31 : Int32 → Int32 → cv_St → Option (cv_St)) (l2 : Int32) (l3 : Int32) (σ : cv_St) : Option (cv_St) :=
  F_X9_findDefined_b62 k23 k31 l2 l3 1 σ
def B_X9_findDefined_b31 (k23 : Int32 → cv_St → Option (cv_St)) (k31 : Int32 → Int32 → cv_St → Option (cv_St)) (l1 : Int32) (l2 : Int32) (σ : cv_St) : Option (cv_St) :=
  (if 8 ≤ l2 then k23 l1 σ else cv_bi (F_X9_definedBy l2 σ) (fun v2 s1 => (if l1 = 0 then cv_ld s1 55 8 l2 (fun v4 => (if v2 = v4 then F_X9_findDefined_b62 k23 k31 l2 v2 0 s1 else F_X9_findDefined_b57 k23 k31 l2 v2 s1)) else F_X9_findDefined_b57 k23 k31 l2 v2 s1)))
def F_X9_findDefined_b31 (k23 : Int32 → cv_St → Option (cv_St)) : Nat → Int32 → Int32 → cv_St → Option (cv_St)
  | 0, _, _, _ => none
  | n + 1, l1, l2, σ => B_X9_findDefined_b31 k23 (F_X9_findDefined_b31 k23 n) l1 l2 σ
def B_X9_findDefined_b23 (k23 : Int32 → cv_St → Option (cv_St)) (l1 : Int32) (σ : cv_St) : Option (cv_St) :=
  (if l1 = 0 then some σ else F_X9_findDefined_b31 k23 1000 0 0 σ)
def F_X9_findDefined_b23 : Nat → Int32 → cv_St → Option (cv_St)
  | 0, _, _ => none
  | n + 1, l1, σ => B_X9_findDefined_b23 (F_X9_findDefined_b23 n) l1 σ
def B_X9_findDefined_b2 (k2 : Int32 → cv_St → Option (cv_St)) (l1 : Int32) (σ : cv_St) : Option (cv_St) :=
  (if 8 ≤ l1 then F_X9_findDefined_b23 1000 1 σ else cv_st σ 55 8 l1 0 (fun s5 => k2 (l1 + Int32.ofInt 1) s5))
def F_X9_findDefined_b2 : Nat → Int32 → cv_St → Option (cv_St)
  | 0, _, _ => none
  | n + 1, l1, σ => B_X9_findDefined_b2 (F_X9_findDefined_b2 n) l1 σ
def F_X9_findDefined (σ : cv_St) : Option (cv_St) :=
  F_X9_findDefined_b2 1000 0 σ
def F_X9_findPassed_b96 (k7 : Int32 → Int32 → cv_St → Option (cv_St)) (l1 : Int32) (l2 : Int32) (σ : cv_St) : Option (cv_St) :=
  k7 l1 (l2 + Int32.ofInt 1) σ
def F_X9_findPassed_b93 (k7 : Int32 → Int32 → cv_St → Option (cv_St)) (l1 : Int32) (l2 : Int32) (t0 : Int32) (t1 : Int32) (t2 : Int32) (σ : cv_St) : Option (cv_St) :=
  cv_bv (F_X9_bringSet t2 t1 t0 σ) (fun s10 => F_X9_findPassed_b96 k7 l1 l2 s10)
def B_X9_findPassed_b7 (k7 : Int32 → Int32 → cv_St → Option (cv_St)) (l1 : Int32) (l2 : Int32) (σ : cv_St) : Option (cv_St) :=
  cv_ld σ 43 344 l1 (fun v2 => (if v2 ≤ l2 then some σ else cv_bi (F_X9_reached l1 l2 σ) (fun v4 s3 => (if v4 = 0 then F_X9_findPassed_b96 k7 l1 l2 s3 else cv_ld s3 56 15 l2 (fun v5 => cv_st s3 57 112 ((14 * l1) + l2) v5 (fun s6 => cv_bi (F_X9_kind l1 l2 s6) (fun v8 s7 => (if v8 = 99 then F_X9_findPassed_b93 k7 l1 l2 0 l2 l1 s7 else (if v8 = 115 then cv_ld s7 56 15 l2 (fun v11 => cv_bi (F_X9_first l1 l2 s7) (fun v13 s12 => F_X9_findPassed_b93 k7 l1 l2 (v11 ||| (1 <<< (v13 &&& 31))) l2 l1 s12)) else cv_ld s7 56 15 l2 (fun v9 => F_X9_findPassed_b93 k7 l1 l2 v9 l2 l1 s7))))))))))
def F_X9_findPassed_b7 : Nat → Int32 → Int32 → cv_St → Option (cv_St)
  | 0, _, _, _ => none
  | n + 1, l1, l2, σ => B_X9_findPassed_b7 (F_X9_findPassed_b7 n) l1 l2 σ
def F_X9_findPassed (l1 : Int32) (σ : cv_St) : Option (cv_St) :=
  cv_bv (F_X9_beginSets l1 σ) (fun s1 => F_X9_findPassed_b7 1000 l1 0 s1)
def F_X9_liveBehind (l1 : Int32) (l2 : Int32) (σ : cv_St) : Option (Int32 × cv_St) :=
  cv_bi (F_X9_next l1 l2 0 σ) (fun v2 s1 => cv_ld s1 60 120 ((15 * l1) + v2) (fun v3 => cv_bi (F_X9_next l1 l2 1 s1) (fun v5 s4 => cv_ld s4 60 120 ((15 * l1) + v5) (fun v6 => some ((v3 ||| v6), s4)))))
def F_X9_reads (l1 : Int32) (l2 : Int32) (σ : cv_St) : Option (Int32 × cv_St) :=
  cv_bi (F_X9_kind l1 l2 σ) (fun v2 s1 => (if v2 = 117 then cv_bi (F_X9_first l1 l2 s1) (fun v9 s8 => some ((1 <<< (v9 &&& 31)), s8)) else (if v2 = 109 then cv_bi (F_X9_second l1 l2 s1) (fun v7 s6 => some ((1 <<< (v7 &&& 31)), s6)) else (if v2 = 99 then cv_bi (F_X9_first l1 l2 s1) (fun v4 s3 => cv_ld s3 58 8 v4 (fun v5 => some (v5, s3))) else some (0, s1)))))
def F_X9_writes_b25 (l1 : Int32) (l2 : Int32) (σ : cv_St) : Option (Int32 × cv_St) :=
  cv_bi (F_X9_first l1 l2 σ) (fun v4 s3 => some ((1 <<< (v4 &&& 31)), s3))
def F_X9_writes (l1 : Int32) (l2 : Int32) (σ : cv_St) : Option (Int32 × cv_St) :=
  cv_bi (F_X9_kind l1 l2 σ) (fun v2 s1 => (if v2 = 100 then F_X9_writes_b25 l1 l2 s1 else (if v2 = 109 then F_X9_writes_b25 l1 l2 s1 else (if v2 = 45 then F_X9_writes_b25 l1 l2 s1 else (if v2 = 99 then cv_bi (F_X9_first l1 l2 s1) (fun v6 s5 => cv_bi (F_X9_clobbered v6 s5) (fun v8 s7 => some (v8, s7))) else some (0, s1))))))
def B_X9_findLive_b31 (k31 : Int32 → Int32 → cv_St → Option (cv_St)) (l1 : Int32) (l2 : Int32) (σ : cv_St) : Option (cv_St) :=
  (if l2 < 0 then some σ else cv_bi (F_X9_reads l1 l2 σ) (fun v6 s5 => cv_bi (F_X9_liveBehind l1 l2 s5) (fun v8 s7 => cv_bi (F_X9_writes l1 l2 s7) (fun v10 s9 => cv_st s9 60 120 ((15 * l1) + l2) (v6 ||| (v8 &&& (v10 ^^^ (-1)))) (fun s11 => k31 l1 (l2 + Int32.ofInt (-1)) s11)))))
def F_X9_findLive_b31 : Nat → Int32 → Int32 → cv_St → Option (cv_St)
  | 0, _, _, _ => none
  | n + 1, l1, l2, σ => B_X9_findLive_b31 (F_X9_findLive_b31 n) l1 l2 σ
def F_X9_findLive (l1 : Int32) (σ : cv_St) : Option (cv_St) :=
  cv_ld σ 43 344 l1 (fun v1 => cv_ld σ 59 8 l1 (fun v2 => cv_st σ 60 120 ((15 * l1) + v1) v2 (fun s3 => cv_ld s3 43 344 l1 (fun v4 => F_X9_findLive_b31 1000 l1 (v4 - 1) s3))))
def F_X9_calleeOf (l1 : Int32) (σ : cv_St) : Option (Int32 × cv_St) :=
  cv_ld σ 61 112 l1 (fun v1 => cv_ld σ 62 112 l1 (fun v2 => cv_bi (F_X9_first v1 v2 σ) (fun v4 s3 => some (v4, s3))))
def F_X9_liveBehindCalls_b42 (k4 : Int32 → Int32 → Int32 → cv_St → Option (Int32 × cv_St)) (l1 : Int32) (l3 : Int32) (t0 : Int32) (t1 : Int32) (σ : cv_St) : Option (Int32 × cv_St) :=
  k4 l1 (t1 ||| t0) (l3 + Int32.ofInt 1) σ
def B_X9_liveBehindCalls_b4 (k4 : Int32 → Int32 → Int32 → cv_St → Option (Int32 × cv_St)) (l1 : Int32) (l2 : Int32) (l3 : Int32) (σ : cv_St) : Option (Int32 × cv_St) :=
  (if (σ.2.1 21) ≤ l3 then some (l2, σ) else cv_bi (F_X9_calleeOf l3 σ) (fun v2 s1 => (if v2 = l1 then cv_ld s1 61 112 l3 (fun v3 => cv_ld s1 62 112 l3 (fun v4 => cv_bi (F_X9_liveBehind v3 v4 s1) (fun v6 s5 => F_X9_liveBehindCalls_b42 k4 l1 l3 v6 l2 s5))) else F_X9_liveBehindCalls_b42 k4 l1 l3 0 l2 s1)))
def F_X9_liveBehindCalls_b4 : Nat → Int32 → Int32 → Int32 → cv_St → Option (Int32 × cv_St)
  | 0, _, _, _, _ => none
  | n + 1, l1, l2, l3, σ => B_X9_liveBehindCalls_b4 (F_X9_liveBehindCalls_b4 n) l1 l2 l3 σ
def F_X9_liveBehindCalls (l1 : Int32) (σ : cv_St) : Option (Int32 × cv_St) :=
  F_X9_liveBehindCalls_b4 1000 l1 0 0 σ
def F_X9_findArguments_b144 (k30 : Int32 → cv_St → Option (cv_St)) (k100 : Int32 → Int32 → cv_St → Option (cv_St)) (l2 : Int32) (l3 : Int32) (t0 : Int32) (σ : cv_St) : Option (cv_St) :=
  cv_st σ 59 8 l2 l3 (fun s6 => k100 t0 (l2 + Int32.ofInt 1) s6)
def F_X9_findArguments_b139 (k30 : Int32 → cv_St → Option (cv_St)) (k100 : Int32 → Int32 → cv_St → Option (cv_St)) (l2 : Int32) (l3 : Int32) (σ : cv_St) : Option (cv_St) :=
  F_X9_findArguments_b144 k30 k100 l2 l3 1 σ
def B_X9_findArguments_b100 (k30 : Int32 → cv_St → Option (cv_St)) (k100 : Int32 → Int32 → cv_St → Option (cv_St)) (l1 : Int32) (l2 : Int32) (σ : cv_St) : Option (cv_St) :=
  (if 8 ≤ l2 then k30 l1 σ else cv_bi (F_X9_clobbered l2 σ) (fun v2 s1 => cv_ld s1 55 8 l2 (fun v3 => cv_bi (F_X9_liveBehindCalls l2 s1) (fun v5 s4 => (if l1 = 0 then cv_ld s4 59 8 l2 (fun v7 => (if v7 = ((v2 &&& v3) &&& v5) then F_X9_findArguments_b144 k30 k100 l2 ((v2 &&& v3) &&& v5) 0 s4 else F_X9_findArguments_b139 k30 k100 l2 ((v2 &&& v3) &&& v5) s4)) else F_X9_findArguments_b139 k30 k100 l2 ((v2 &&& v3) &&& v5) s4)))))
def F_X9_findArguments_b100 (k30 : Int32 → cv_St → Option (cv_St)) : Nat → Int32 → Int32 → cv_St → Option (cv_St)
  | 0, _, _, _ => none
  | n + 1, l1, l2, σ => B_X9_findArguments_b100 k30 (F_X9_findArguments_b100 k30 n) l1 l2 σ
def F_X9_findArguments_b76 (k30 : Int32 → cv_St → Option (cv_St)) (k38 : Int32 → Int32 → cv_St → Option (cv_St)) (l2 : Int32) (t0 : Int32) (σ : cv_St) : Option (cv_St) :=
  cv_ld σ 60 120 (15 * l2) (fun v9 => cv_st σ 58 8 l2 v9 (fun s10 => k38 t0 (l2 + Int32.ofInt 1) s10))
def F_X9_findArguments_b71 (k30 : Int32 → cv_St → Option (cv_St)) (k38 : Int32 → Int32 → cv_St → Option (cv_St)) (l2 : Int32) (σ : cv_St) : Option (cv_St) :=
  F_X9_findArguments_b76 k30 k38 l2 1 σ
def B_X9_findArguments_b38 (k30 : Int32 → cv_St → Option (cv_St)) (k38 : Int32 → Int32 → cv_St → Option (cv_St)) (l1 : Int32) (l2 : Int32) (σ : cv_St) : Option (cv_St) :=
  (if 8 ≤ l2 then F_X9_findArguments_b100 k30 1000 l1 0 σ else cv_bv (F_X9_findLive l2 σ) (fun s8 => (if l1 = 0 then cv_ld s8 58 8 l2 (fun v11 => cv_ld s8 60 120 (15 * l2) (fun v12 => (if v11 = v12 then F_X9_findArguments_b76 k30 k38 l2 0 s8 else F_X9_findArguments_b71 k30 k38 l2 s8))) else F_X9_findArguments_b71 k30 k38 l2 s8)))
def F_X9_findArguments_b38 (k30 : Int32 → cv_St → Option (cv_St)) : Nat → Int32 → Int32 → cv_St → Option (cv_St)
  | 0, _, _, _ => none
  | n + 1, l1, l2, σ => B_X9_findArguments_b38 k30 (F_X9_findArguments_b38 k30 n) l1 l2 σ
def B_X9_findArguments_b30 (k30 : Int32 → cv_St → Option (cv_St)) (l1 : Int32) (σ : cv_St) : Option (cv_St) :=
  (if l1 = 0 then some σ else F_X9_findArguments_b38 k30 1000 0 0 σ)
def F_X9_findArguments_b30 : Nat → Int32 → cv_St → Option (cv_St)
  | 0, _, _ => none
  | n + 1, l1, σ => B_X9_findArguments_b30 (F_X9_findArguments_b30 n) l1 σ
def B_X9_findArguments_b2 (k2 : Int32 → cv_St → Option (cv_St)) (l1 : Int32) (σ : cv_St) : Option (cv_St) :=
  (if 8 ≤ l1 then F_X9_findArguments_b30 1000 1 σ else cv_st σ 58 8 l1 0 (fun s13 => cv_st s13 59 8 l1 0 (fun s14 => k2 (l1 + Int32.ofInt 1) s14)))
def F_X9_findArguments_b2 : Nat → Int32 → cv_St → Option (cv_St)
  | 0, _, _ => none
  | n + 1, l1, σ => B_X9_findArguments_b2 (F_X9_findArguments_b2 n) l1 σ
def F_X9_findArguments (σ : cv_St) : Option (cv_St) :=
  F_X9_findArguments_b2 1000 0 σ
def F_X9_findSites_b75 (k7 : Int32 → cv_St → Option (cv_St)) (k15 : Int32 → Int32 → cv_St → Option (cv_St)) (l1 : Int32) (l2 : Int32) (σ : cv_St) : Option (cv_St) :=
  k15 l1 (l2 + Int32.ofInt 1) σ
def B_X9_findSites_b15 (k7 : Int32 → cv_St → Option (cv_St)) (k15 : Int32 → Int32 → cv_St → Option (cv_St)) (l1 : Int32) (l2 : Int32) (σ : cv_St) : Option (cv_St) :=
  cv_ld σ 43 344 l1 (fun v2 => (if v2 ≤ l2 then k7 (l1 + Int32.ofInt 1) σ else cv_bi (F_X9_reached l1 l2 σ) (fun v4 s3 => (if v4 = 0 then F_X9_findSites_b75 k7 k15 l1 l2 s3 else cv_bi (F_X9_kind l1 l2 s3) (fun v6 s5 => (if v6 = 99 then cv_st s5 61 112 (s5.2.1 21) l1 (fun s7 => cv_st s7 62 112 (s7.2.1 21) l2 (fun s8 => cv_pui s8 21 ((s8.2.1 21) + 1) (fun s9 => F_X9_findSites_b75 k7 k15 l1 l2 s9))) else F_X9_findSites_b75 k7 k15 l1 l2 s5))))))
def F_X9_findSites_b15 (k7 : Int32 → cv_St → Option (cv_St)) : Nat → Int32 → Int32 → cv_St → Option (cv_St)
  | 0, _, _, _ => none
  | n + 1, l1, l2, σ => B_X9_findSites_b15 k7 (F_X9_findSites_b15 k7 n) l1 l2 σ
def B_X9_findSites_b7 (k7 : Int32 → cv_St → Option (cv_St)) (l1 : Int32) (σ : cv_St) : Option (cv_St) :=
  (if 8 ≤ l1 then some σ else F_X9_findSites_b15 k7 1000 l1 0 σ)
def F_X9_findSites_b7 : Nat → Int32 → cv_St → Option (cv_St)
  | 0, _, _ => none
  | n + 1, l1, σ => B_X9_findSites_b7 (F_X9_findSites_b7 n) l1 σ
def F_X9_findSites (σ : cv_St) : Option (cv_St) :=
  cv_pui σ 21 0 (fun s1 => F_X9_findSites_b7 1000 0 s1)
def F_X9_passedAt (l1 : Int32) (σ : cv_St) : Option (Int32 × cv_St) :=
  cv_ld σ 61 112 l1 (fun v1 => cv_ld σ 62 112 l1 (fun v2 => cv_ld σ 57 112 ((14 * v1) + v2) (fun v3 => some (v3, σ))))
def B_X9_infer_b10 (k10 : Int32 → cv_St → Option (cv_St)) (l1 : Int32) (σ : cv_St) : Option (cv_St) :=
  (if 8 ≤ l1 then cv_bv (F_X9_findSites σ) (fun s1 => cv_bv (F_X9_findPreserved s1) (fun s2 => cv_bv (F_X9_findDefined s2) (fun s3 => cv_bv (F_X9_findArguments s3) (fun s4 => cv_puz s4 22 1 (fun s5 => some s5))))) else cv_bv (F_X9_findReached l1 σ) (fun s6 => cv_bv (F_X9_findPassed l1 s6) (fun s7 => k10 (l1 + Int32.ofInt 1) s7)))
def F_X9_infer_b10 : Nat → Int32 → cv_St → Option (cv_St)
  | 0, _, _ => none
  | n + 1, l1, σ => B_X9_infer_b10 (F_X9_infer_b10 n) l1 σ
def F_X9_infer (σ : cv_St) : Option (cv_St) :=
  (if (σ.2.1 22) = 0 then F_X9_infer_b10 1000 0 σ else some σ)
def F_X9_isReachable_b15 (l1 : Int32) (l2 : Int32) (t0 : Int32) (σ : cv_St) : Option (Int32 × cv_St) :=
  cv_pui σ 17 t0 (fun s3 => (if (s3.2.1 17) ≤ 0 then cv_bv (F_X9_infer s3) (fun s4 => cv_bi (F_X9_reached l1 l2 s4) (fun v6 s5 => cv_rz v6 s5)) else cv_rz 0 s3))
def F_X9_isReachable (l1 : Int32) (l2 : Int32) (σ : cv_St) : Option (Int32 × cv_St) :=
  cv_bi (F_X9_isInstruction l1 l2 σ) (fun v2 s1 => (if v2 = 0 then F_X9_isReachable_b15 l1 l2 1 s1 else F_X9_isReachable_b15 l1 l2 0 s1))
def F_X9_isBalanced_b13 (l1 : Int32) (t0 : Int32) (σ : cv_St) : Option (Int32 × cv_St) :=
  cv_pui σ 17 t0 (fun s3 => (if (s3.2.1 17) ≤ 0 then cv_bv (F_X9_infer s3) (fun s4 => cv_ld s4 50 8 l1 (fun v5 => cv_rz v5 s4)) else cv_rz 0 s3))
def F_X9_isBalanced (l1 : Int32) (σ : cv_St) : Option (Int32 × cv_St) :=
  cv_bi (F_X9_isFunction l1 σ) (fun v2 s1 => (if v2 = 0 then F_X9_isBalanced_b13 l1 1 s1 else F_X9_isBalanced_b13 l1 0 s1))
def F_X9_ofFunction_10_51_b13 (l1 : Int32) (t0 : Int32) (σ : cv_St) : Option (Int32 × cv_St) :=
  cv_pui σ 17 t0 (fun s3 => (if (s3.2.1 17) ≤ 0 then cv_bv (F_X9_infer s3) (fun s4 => cv_ld s4 51 8 l1 (fun v5 => some (v5, s4))) else some (0, s3)))
def F_X9_ofFunction_10_51 (l1 : Int32) (σ : cv_St) : Option (Int32 × cv_St) :=
  cv_bi (F_X9_isFunction l1 σ) (fun v2 s1 => (if v2 = 0 then F_X9_ofFunction_10_51_b13 l1 1 s1 else F_X9_ofFunction_10_51_b13 l1 0 s1))
def F_X9_preserved (l1 : Int32) (σ : cv_St) : Option (Int32 × cv_St) :=
  cv_bi (F_X9_ofFunction_10_51 l1 σ) (fun v2 s1 => some (v2, s1))
def F_X9_ofFunction_10_55_b13 (l1 : Int32) (t0 : Int32) (σ : cv_St) : Option (Int32 × cv_St) :=
  cv_pui σ 17 t0 (fun s3 => (if (s3.2.1 17) ≤ 0 then cv_bv (F_X9_infer s3) (fun s4 => cv_ld s4 55 8 l1 (fun v5 => some (v5, s4))) else some (0, s3)))
def F_X9_ofFunction_10_55 (l1 : Int32) (σ : cv_St) : Option (Int32 × cv_St) :=
  cv_bi (F_X9_isFunction l1 σ) (fun v2 s1 => (if v2 = 0 then F_X9_ofFunction_10_55_b13 l1 1 s1 else F_X9_ofFunction_10_55_b13 l1 0 s1))
def F_X9_surelyDefined (l1 : Int32) (σ : cv_St) : Option (Int32 × cv_St) :=
  cv_bi (F_X9_ofFunction_10_55 l1 σ) (fun v2 s1 => some (v2, s1))
def F_X9_ofFunction_10_58_b13 (l1 : Int32) (t0 : Int32) (σ : cv_St) : Option (Int32 × cv_St) :=
  cv_pui σ 17 t0 (fun s3 => (if (s3.2.1 17) ≤ 0 then cv_bv (F_X9_infer s3) (fun s4 => cv_ld s4 58 8 l1 (fun v5 => some (v5, s4))) else some (0, s3)))
def F_X9_ofFunction_10_58 (l1 : Int32) (σ : cv_St) : Option (Int32 × cv_St) :=
  cv_bi (F_X9_isFunction l1 σ) (fun v2 s1 => (if v2 = 0 then F_X9_ofFunction_10_58_b13 l1 1 s1 else F_X9_ofFunction_10_58_b13 l1 0 s1))
def F_X9_arguments (l1 : Int32) (σ : cv_St) : Option (Int32 × cv_St) :=
  cv_bi (F_X9_ofFunction_10_58 l1 σ) (fun v2 s1 => some (v2, s1))
def F_X9_ofFunction_10_59_b13 (l1 : Int32) (t0 : Int32) (σ : cv_St) : Option (Int32 × cv_St) :=
  cv_pui σ 17 t0 (fun s3 => (if (s3.2.1 17) ≤ 0 then cv_bv (F_X9_infer s3) (fun s4 => cv_ld s4 59 8 l1 (fun v5 => some (v5, s4))) else some (0, s3)))
def F_X9_ofFunction_10_59 (l1 : Int32) (σ : cv_St) : Option (Int32 × cv_St) :=
  cv_bi (F_X9_isFunction l1 σ) (fun v2 s1 => (if v2 = 0 then F_X9_ofFunction_10_59_b13 l1 1 s1 else F_X9_ofFunction_10_59_b13 l1 0 s1))
def F_X9_results (l1 : Int32) (σ : cv_St) : Option (Int32 × cv_St) :=
  cv_bi (F_X9_ofFunction_10_59 l1 σ) (fun v2 s1 => some (v2, s1))
def F_X9_liveBefore_b46 (l1 : Int32) (l2 : Int32) (t0 : Int32) (σ : cv_St) : Option (Int32 × cv_St) :=
  cv_pui σ 17 t0 (fun s7 => (if (s7.2.1 17) ≤ 0 then cv_ld s7 60 120 ((15 * l1) + l2) (fun v8 => some (v8, s7)) else some (0, s7)))
def F_X9_liveBefore_b15 (l1 : Int32) (l2 : Int32) (t0 : Int32) (σ : cv_St) : Option (Int32 × cv_St) :=
  cv_pui σ 17 t0 (fun s3 => (if (s3.2.1 17) ≤ 0 then cv_bv (F_X9_infer s3) (fun s4 => cv_bi (F_X9_reached l1 l2 s4) (fun v6 s5 => (if v6 = 0 then F_X9_liveBefore_b46 l1 l2 2 s5 else F_X9_liveBefore_b46 l1 l2 0 s5))) else some (0, s3)))
def F_X9_liveBefore (l1 : Int32) (l2 : Int32) (σ : cv_St) : Option (Int32 × cv_St) :=
  cv_bi (F_X9_isInstruction l1 l2 σ) (fun v2 s1 => (if v2 = 0 then F_X9_liveBefore_b15 l1 l2 1 s1 else F_X9_liveBefore_b15 l1 l2 0 s1))
def F_X9_neededBy_b50 (k4 : Int32 → Int32 → Int32 → cv_St → Option (Int32 × cv_St)) (l1 : Int32) (l3 : Int32) (t0 : Int32) (σ : cv_St) : Option (Int32 × cv_St) :=
  k4 l1 t0 (l3 + Int32.ofInt 1) σ
def F_X9_neededBy_b49 (k4 : Int32 → Int32 → Int32 → cv_St → Option (Int32 × cv_St)) (l1 : Int32) (l2 : Int32) (l3 : Int32) (σ : cv_St) : Option (Int32 × cv_St) :=
  F_X9_neededBy_b50 k4 l1 l3 l2 σ
def B_X9_neededBy_b4 (k4 : Int32 → Int32 → Int32 → cv_St → Option (Int32 × cv_St)) (l1 : Int32) (l2 : Int32) (l3 : Int32) (σ : cv_St) : Option (Int32 × cv_St) :=
  cv_ld σ 43 344 l1 (fun v1 => (if v1 ≤ l3 then some (l2, σ) else cv_bi (F_X9_reached l1 l3 σ) (fun v3 s2 => (if v3 = 0 then F_X9_neededBy_b49 k4 l1 l2 l3 s2 else cv_bi (F_X9_kind l1 l3 s2) (fun v5 s4 => (if v5 = 108 then cv_bi (F_X9_first l1 l3 s4) (fun v7 s6 => F_X9_neededBy_b50 k4 l1 l3 (if l2 < (v7 + 1) then (v7 + 1) else l2) s6) else F_X9_neededBy_b49 k4 l1 l2 l3 s4))))))
def F_X9_neededBy_b4 : Nat → Int32 → Int32 → Int32 → cv_St → Option (Int32 × cv_St)
  | 0, _, _, _, _ => none
  | n + 1, l1, l2, l3, σ => B_X9_neededBy_b4 (F_X9_neededBy_b4 n) l1 l2 l3 σ
def F_X9_neededBy (l1 : Int32) (σ : cv_St) : Option (Int32 × cv_St) :=
  F_X9_neededBy_b4 1000 l1 0 0 σ
def F_X9_neededSlots_b13 (l1 : Int32) (t0 : Int32) (σ : cv_St) : Option (Int32 × cv_St) :=
  cv_pui σ 17 t0 (fun s3 => (if (s3.2.1 17) ≤ 0 then cv_bv (F_X9_infer s3) (fun s4 => cv_bi (F_X9_neededBy l1 s4) (fun v6 s5 => some (v6, s5))) else some (0, s3)))
def F_X9_neededSlots (l1 : Int32) (σ : cv_St) : Option (Int32 × cv_St) :=
  cv_bi (F_X9_isFunction l1 σ) (fun v2 s1 => (if v2 = 0 then F_X9_neededSlots_b13 l1 1 s1 else F_X9_neededSlots_b13 l1 0 s1))
def F_X9_isVariadic_b92 (k33 : Int32 → Int32 → Int32 → cv_St → Option (Int32 × cv_St)) (k44 : Int32 → Int32 → Int32 → Int32 → cv_St → Option (Int32 × cv_St)) (l1 : Int32) (l3 : Int32) (l4 : Int32) (t0 : Int32) (σ : cv_St) : Option (Int32 × cv_St) :=
  k44 l1 t0 l3 (l4 + Int32.ofInt 1) σ
def F_X9_isVariadic_b87 (k33 : Int32 → Int32 → Int32 → cv_St → Option (Int32 × cv_St)) (k44 : Int32 → Int32 → Int32 → Int32 → cv_St → Option (Int32 × cv_St)) (l1 : Int32) (l3 : Int32) (l4 : Int32) (σ : cv_St) : Option (Int32 × cv_St) :=
  F_X9_isVariadic_b92 k33 k44 l1 l3 l4 1 σ
def F_X9_isVariadic_b91 (k33 : Int32 → Int32 → Int32 → cv_St → Option (Int32 × cv_St)) (k44 : Int32 → Int32 → Int32 → Int32 → cv_St → Option (Int32 × cv_St)) (l1 : Int32) (l3 : Int32) (l4 : Int32) (σ : cv_St) : Option (Int32 × cv_St) :=
  F_X9_isVariadic_b92 k33 k44 l1 l3 l4 0 σ
def B_X9_isVariadic_b44 (k33 : Int32 → Int32 → Int32 → cv_St → Option (Int32 × cv_St)) (k44 : Int32 → Int32 → Int32 → Int32 → cv_St → Option (Int32 × cv_St)) (l1 : Int32) (l2 : Int32) (l3 : Int32) (l4 : Int32) (σ : cv_St) : Option (Int32 × cv_St) :=
  (if l3 ≤ l4 then k33 l1 l2 (l3 + Int32.ofInt 1) σ else (if l2 = 0 then cv_bi (F_X9_calleeOf l3 σ) (fun v6 s5 => (if v6 = l1 then cv_bi (F_X9_calleeOf l4 s5) (fun v8 s7 => (if v8 = l1 then cv_bi (F_X9_passedAt l3 s7) (fun v10 s9 => cv_bi (F_X9_passedAt l4 s9) (fun v12 s11 => (if v10 = v12 then F_X9_isVariadic_b91 k33 k44 l1 l3 l4 s11 else F_X9_isVariadic_b87 k33 k44 l1 l3 l4 s11))) else F_X9_isVariadic_b91 k33 k44 l1 l3 l4 s7)) else F_X9_isVariadic_b91 k33 k44 l1 l3 l4 s5)) else F_X9_isVariadic_b87 k33 k44 l1 l3 l4 σ))
def F_X9_isVariadic_b44 (k33 : Int32 → Int32 → Int32 → cv_St → Option (Int32 × cv_St)) : Nat → Int32 → Int32 → Int32 → Int32 → cv_St → Option (Int32 × cv_St)
  | 0, _, _, _, _, _ => none
  | n + 1, l1, l2, l3, l4, σ => B_X9_isVariadic_b44 k33 (F_X9_isVariadic_b44 k33 n) l1 l2 l3 l4 σ
def B_X9_isVariadic_b33 (k33 : Int32 → Int32 → Int32 → cv_St → Option (Int32 × cv_St)) (l1 : Int32) (l2 : Int32) (l3 : Int32) (σ : cv_St) : Option (Int32 × cv_St) :=
  (if (σ.2.1 21) ≤ l3 then cv_rz l2 σ else F_X9_isVariadic_b44 k33 1000 l1 l2 l3 0 σ)
def F_X9_isVariadic_b33 : Nat → Int32 → Int32 → Int32 → cv_St → Option (Int32 × cv_St)
  | 0, _, _, _, _ => none
  | n + 1, l1, l2, l3, σ => B_X9_isVariadic_b33 (F_X9_isVariadic_b33 n) l1 l2 l3 σ
def F_X9_isVariadic_b13 (l1 : Int32) (t0 : Int32) (σ : cv_St) : Option (Int32 × cv_St) :=
  cv_pui σ 17 t0 (fun s3 => (if (s3.2.1 17) ≤ 0 then cv_bv (F_X9_infer s3) (fun s4 => F_X9_isVariadic_b33 1000 l1 0 0 s4) else cv_rz 0 s3))
def F_X9_isVariadic (l1 : Int32) (σ : cv_St) : Option (Int32 × cv_St) :=
  cv_bi (F_X9_isFunction l1 σ) (fun v2 s1 => (if v2 = 0 then F_X9_isVariadic_b13 l1 1 s1 else F_X9_isVariadic_b13 l1 0 s1))
def F_X9_calleesOf_b34 (k4 : Int32 → Int32 → Int32 → cv_St → Option (Int32 × cv_St)) (l1 : Int32) (l3 : Int32) (t0 : Int32) (t1 : Int32) (σ : cv_St) : Option (Int32 × cv_St) :=
  k4 l1 (t1 ||| t0) (l3 + Int32.ofInt 1) σ
def B_X9_calleesOf_b4 (k4 : Int32 → Int32 → Int32 → cv_St → Option (Int32 × cv_St)) (l1 : Int32) (l2 : Int32) (l3 : Int32) (σ : cv_St) : Option (Int32 × cv_St) :=
  (if (σ.2.1 21) ≤ l3 then some (l2, σ) else cv_ld σ 61 112 l3 (fun v1 => (if v1 = l1 then cv_bi (F_X9_calleeOf l3 σ) (fun v3 s2 => F_X9_calleesOf_b34 k4 l1 l3 (1 <<< (v3 &&& 31)) l2 s2) else F_X9_calleesOf_b34 k4 l1 l3 0 l2 σ)))
def F_X9_calleesOf_b4 : Nat → Int32 → Int32 → Int32 → cv_St → Option (Int32 × cv_St)
  | 0, _, _, _, _ => none
  | n + 1, l1, l2, l3, σ => B_X9_calleesOf_b4 (F_X9_calleesOf_b4 n) l1 l2 l3 σ
def F_X9_calleesOf (l1 : Int32) (σ : cv_St) : Option (Int32 × cv_St) :=
  F_X9_calleesOf_b4 1000 l1 0 0 σ
def F_X9_callees_b13 (l1 : Int32) (t0 : Int32) (σ : cv_St) : Option (Int32 × cv_St) :=
  cv_pui σ 17 t0 (fun s3 => (if (s3.2.1 17) ≤ 0 then cv_bv (F_X9_infer s3) (fun s4 => cv_bi (F_X9_calleesOf l1 s4) (fun v6 s5 => some (v6, s5))) else some (0, s3)))
def F_X9_callees (l1 : Int32) (σ : cv_St) : Option (Int32 × cv_St) :=
  cv_bi (F_X9_isFunction l1 σ) (fun v2 s1 => (if v2 = 0 then F_X9_callees_b13 l1 1 s1 else F_X9_callees_b13 l1 0 s1))
def F_X9_callersOf_b63 (k33 : Int32 → Int32 → Int32 → cv_St → Option (Int32 × cv_St)) (l1 : Int32) (l3 : Int32) (t0 : Int32) (t1 : Int32) (σ : cv_St) : Option (Int32 × cv_St) :=
  k33 l1 (t1 ||| t0) (l3 + Int32.ofInt 1) σ
def B_X9_callersOf_b33 (k33 : Int32 → Int32 → Int32 → cv_St → Option (Int32 × cv_St)) (l1 : Int32) (l2 : Int32) (l3 : Int32) (σ : cv_St) : Option (Int32 × cv_St) :=
  (if (σ.2.1 21) ≤ l3 then some (l2, σ) else cv_bi (F_X9_calleeOf l3 σ) (fun v6 s5 => (if v6 = l1 then cv_ld s5 61 112 l3 (fun v7 => F_X9_callersOf_b63 k33 l1 l3 (1 <<< (v7 &&& 31)) l2 s5) else F_X9_callersOf_b63 k33 l1 l3 0 l2 s5)))
def F_X9_callersOf_b33 : Nat → Int32 → Int32 → Int32 → cv_St → Option (Int32 × cv_St)
  | 0, _, _, _, _ => none
  | n + 1, l1, l2, l3, σ => B_X9_callersOf_b33 (F_X9_callersOf_b33 n) l1 l2 l3 σ
def F_X9_callersOf_b13 (l1 : Int32) (t0 : Int32) (σ : cv_St) : Option (Int32 × cv_St) :=
  cv_pui σ 17 t0 (fun s3 => (if (s3.2.1 17) ≤ 0 then cv_bv (F_X9_infer s3) (fun s4 => F_X9_callersOf_b33 1000 l1 0 0 s4) else some (0, s3)))
def F_X9_callersOf (l1 : Int32) (σ : cv_St) : Option (Int32 × cv_St) :=
  cv_bi (F_X9_isFunction l1 σ) (fun v2 s1 => (if v2 = 0 then F_X9_callersOf_b13 l1 1 s1 else F_X9_callersOf_b13 l1 0 s1))
def F_X9_isRecursive_b74 (k37 : Int32 → Int32 → Int32 → cv_St → Option (Int32 × cv_St)) (k46 : Int32 → Int32 → Int32 → Int32 → cv_St → Option (Int32 × cv_St)) (l1 : Int32) (l3 : Int32) (l4 : Int32) (t0 : Int32) (t1 : Int32) (σ : cv_St) : Option (Int32 × cv_St) :=
  k46 l1 (t1 ||| t0) l3 (l4 + Int32.ofInt 1) σ
def B_X9_isRecursive_b46 (k37 : Int32 → Int32 → Int32 → cv_St → Option (Int32 × cv_St)) (k46 : Int32 → Int32 → Int32 → Int32 → cv_St → Option (Int32 × cv_St)) (l1 : Int32) (l2 : Int32) (l3 : Int32) (l4 : Int32) (σ : cv_St) : Option (Int32 × cv_St) :=
  (if 8 ≤ l4 then k37 l1 l2 (l3 + Int32.ofInt 1) σ else (if ((l2 >>> (l4 &&& 31)) &&& 1) = 1 then cv_bi (F_X9_calleesOf l4 σ) (fun v8 s7 => F_X9_isRecursive_b74 k37 k46 l1 l3 l4 v8 l2 s7) else F_X9_isRecursive_b74 k37 k46 l1 l3 l4 0 l2 σ))
def F_X9_isRecursive_b46 (k37 : Int32 → Int32 → Int32 → cv_St → Option (Int32 × cv_St)) : Nat → Int32 → Int32 → Int32 → Int32 → cv_St → Option (Int32 × cv_St)
  | 0, _, _, _, _, _ => none
  | n + 1, l1, l2, l3, l4, σ => B_X9_isRecursive_b46 k37 (F_X9_isRecursive_b46 k37 n) l1 l2 l3 l4 σ
def B_X9_isRecursive_b37 (k37 : Int32 → Int32 → Int32 → cv_St → Option (Int32 × cv_St)) (l1 : Int32) (l2 : Int32) (l3 : Int32) (σ : cv_St) : Option (Int32 × cv_St) :=
  (if 8 ≤ l3 then (if ((l2 >>> (l1 &&& 31)) &&& 1) = 1 then cv_rz 1 σ else cv_rz 0 σ) else F_X9_isRecursive_b46 k37 1000 l1 l2 l3 0 σ)
def F_X9_isRecursive_b37 : Nat → Int32 → Int32 → Int32 → cv_St → Option (Int32 × cv_St)
  | 0, _, _, _, _ => none
  | n + 1, l1, l2, l3, σ => B_X9_isRecursive_b37 (F_X9_isRecursive_b37 n) l1 l2 l3 σ
def F_X9_isRecursive_b13 (l1 : Int32) (t0 : Int32) (σ : cv_St) : Option (Int32 × cv_St) :=
  cv_pui σ 17 t0 (fun s3 => (if (s3.2.1 17) ≤ 0 then cv_bv (F_X9_infer s3) (fun s4 => cv_bi (F_X9_calleesOf l1 s4) (fun v6 s5 => F_X9_isRecursive_b37 1000 l1 v6 0 s5)) else cv_rz 0 s3))
def F_X9_isRecursive (l1 : Int32) (σ : cv_St) : Option (Int32 × cv_St) :=
  cv_bi (F_X9_isFunction l1 σ) (fun v2 s1 => (if v2 = 0 then F_X9_isRecursive_b13 l1 1 s1 else F_X9_isRecursive_b13 l1 0 s1))
def F_X9_siteCount (σ : cv_St) : Option (Int32 × cv_St) :=
  cv_pui σ 17 0 (fun s1 => cv_bv (F_X9_infer s1) (fun s2 => some ((s2.2.1 21), s2)))
def F_X9_isSite (l1 : Int32) (σ : cv_St) : Option (Int32 × cv_St) :=
  cv_bv (F_X9_infer σ) (fun s1 => cv_bi (F_X9_in l1.toInt64 0 (((s1.2.1 21) - 1).toInt64) s1) (fun v3 s2 => cv_rz v3 s2))
def F_X9_site_b30 (l1 : Int32) (l2 : Int32) (t0 : Int32) (σ : cv_St) : Option (Int32 × cv_St) :=
  cv_pui σ 17 t0 (fun s5 => (if (s5.2.1 17) ≤ 0 then (if l2 = 0 then cv_ld s5 61 112 l1 (fun v9 => some (v9, s5)) else (if l2 = 1 then cv_ld s5 62 112 l1 (fun v8 => some (v8, s5)) else cv_bi (F_X9_calleeOf l1 s5) (fun v7 s6 => some (v7, s6)))) else some (0, s5)))
def F_X9_site (l1 : Int32) (l2 : Int32) (σ : cv_St) : Option (Int32 × cv_St) :=
  cv_bi (F_X9_isSite l1 σ) (fun v2 s1 => (if v2 = 0 then F_X9_site_b30 l1 l2 1 s1 else cv_bi (F_X9_in l2.toInt64 0 2 s1) (fun v4 s3 => (if v4 = 0 then F_X9_site_b30 l1 l2 2 s3 else F_X9_site_b30 l1 l2 0 s3))))
def F_X9_passedSlots_b14 (l1 : Int32) (t0 : Int32) (σ : cv_St) : Option (Int32 × cv_St) :=
  cv_pui σ 17 t0 (fun s3 => (if (s3.2.1 17) ≤ 0 then cv_bi (F_X9_passedAt l1 s3) (fun v5 s4 => some (v5, s4)) else some (0, s3)))
def F_X9_passedSlots (l1 : Int32) (σ : cv_St) : Option (Int32 × cv_St) :=
  cv_bi (F_X9_isSite l1 σ) (fun v2 s1 => (if v2 = 0 then F_X9_passedSlots_b14 l1 1 s1 else F_X9_passedSlots_b14 l1 0 s1))
def F_X9_missingAt (l1 : Int32) (σ : cv_St) : Option (Int32 × cv_St) :=
  cv_bi (F_X9_calleeOf l1 σ) (fun v2 s1 => cv_bi (F_X9_neededBy v2 s1) (fun v4 s3 => cv_bi (F_X9_passedAt l1 s3) (fun v6 s5 => some ((((1 <<< (v4 &&& 31)) - 1) &&& (v6 ^^^ (-1))), s5))))
def F_X9_missingSlots_b14 (l1 : Int32) (t0 : Int32) (σ : cv_St) : Option (Int32 × cv_St) :=
  cv_pui σ 17 t0 (fun s3 => (if (s3.2.1 17) ≤ 0 then cv_bi (F_X9_missingAt l1 s3) (fun v5 s4 => some (v5, s4)) else some (0, s3)))
def F_X9_missingSlots (l1 : Int32) (σ : cv_St) : Option (Int32 × cv_St) :=
  cv_bi (F_X9_isSite l1 σ) (fun v2 s1 => (if v2 = 0 then F_X9_missingSlots_b14 l1 1 s1 else F_X9_missingSlots_b14 l1 0 s1))
def F_X9_lostAt (l1 : Int32) (σ : cv_St) : Option (Int32 × cv_St) :=
  cv_bi (F_X9_calleeOf l1 σ) (fun v2 s1 => cv_ld s1 61 112 l1 (fun v3 => cv_ld s1 62 112 l1 (fun v4 => cv_bi (F_X9_liveBehind v3 v4 s1) (fun v6 s5 => cv_bi (F_X9_clobbered v2 s5) (fun v8 s7 => cv_ld s7 55 8 v2 (fun v9 => some (((v6 &&& v8) &&& (v9 ^^^ (-1))), s7)))))))
def F_X9_lostRegisters_b14 (l1 : Int32) (t0 : Int32) (σ : cv_St) : Option (Int32 × cv_St) :=
  cv_pui σ 17 t0 (fun s3 => (if (s3.2.1 17) ≤ 0 then cv_bi (F_X9_lostAt l1 s3) (fun v5 s4 => some (v5, s4)) else some (0, s3)))
def F_X9_lostRegisters (l1 : Int32) (σ : cv_St) : Option (Int32 × cv_St) :=
  cv_bi (F_X9_isSite l1 σ) (fun v2 s1 => (if v2 = 0 then F_X9_lostRegisters_b14 l1 1 s1 else F_X9_lostRegisters_b14 l1 0 s1))
def F_X9_liveBehind__b14 (l1 : Int32) (t0 : Int32) (σ : cv_St) : Option (Int32 × cv_St) :=
  cv_pui σ 17 t0 (fun s3 => (if (s3.2.1 17) ≤ 0 then cv_ld s3 61 112 l1 (fun v4 => cv_ld s3 62 112 l1 (fun v5 => cv_bi (F_X9_liveBehind v4 v5 s3) (fun v7 s6 => some (v7, s6)))) else some (0, s3)))
def F_X9_liveBehind_ (l1 : Int32) (σ : cv_St) : Option (Int32 × cv_St) :=
  cv_bi (F_X9_isSite l1 σ) (fun v2 s1 => (if v2 = 0 then F_X9_liveBehind__b14 l1 1 s1 else F_X9_liveBehind__b14 l1 0 s1))
def F_X9_isProblem_b16 (σ : cv_St) : Option (Int32 × cv_St) :=
  cv_rz 1 σ
def F_X9_isProblem (l1 : Int32) (σ : cv_St) : Option (Int32 × cv_St) :=
  cv_bi (F_X9_missingAt l1 σ) (fun v2 s1 => (if v2 = 0 then cv_bi (F_X9_lostAt l1 s1) (fun v4 s3 => (if v4 = 0 then cv_rz 0 s3 else F_X9_isProblem_b16 s3)) else F_X9_isProblem_b16 s1))
def F_X9_problemMany_b26 (k4 : Int32 → Int32 → cv_St → Option (Int32 × cv_St)) (l2 : Int32) (t0 : Int32) (t1 : Int32) (σ : cv_St) : Option (Int32 × cv_St) :=
  k4 (t1 + t0) (l2 + Int32.ofInt 1) σ
def B_X9_problemMany_b4 (k4 : Int32 → Int32 → cv_St → Option (Int32 × cv_St)) (l1 : Int32) (l2 : Int32) (σ : cv_St) : Option (Int32 × cv_St) :=
  (if (σ.2.1 21) ≤ l2 then some (l1, σ) else cv_bi (F_X9_isProblem l2 σ) (fun v2 s1 => (if v2 = 0 then F_X9_problemMany_b26 k4 l2 0 l1 s1 else F_X9_problemMany_b26 k4 l2 1 l1 s1)))
def F_X9_problemMany_b4 : Nat → Int32 → Int32 → cv_St → Option (Int32 × cv_St)
  | 0, _, _, _ => none
  | n + 1, l1, l2, σ => B_X9_problemMany_b4 (F_X9_problemMany_b4 n) l1 l2 σ
def F_X9_problemMany (σ : cv_St) : Option (Int32 × cv_St) :=
  F_X9_problemMany_b4 1000 0 0 σ
def F_X9_problems (σ : cv_St) : Option (Int32 × cv_St) :=
  cv_pui σ 17 0 (fun s1 => cv_bv (F_X9_infer s1) (fun s2 => cv_bi (F_X9_problemMany s2) (fun v4 s3 => some (v4, s3))))
def F_X9_firstProblem_b42 (l1 : Int32) (t0 : Int32) (σ : cv_St) : Option (Int32 × cv_St) :=
  cv_pui σ 17 t0 (fun s2 => (if (s2.2.1 17) ≤ 0 then some (l1, s2) else some (0, s2)))
def F_X9_firstProblem_b28 (l1 : Int32) (σ : cv_St) : Option (Int32 × cv_St) :=
  (if l1 = (σ.2.1 21) then F_X9_firstProblem_b42 l1 1 σ else F_X9_firstProblem_b42 l1 0 σ)
def B_X9_firstProblem_b6 (k6 : Int32 → cv_St → Option (Int32 × cv_St)) (l1 : Int32) (σ : cv_St) : Option (Int32 × cv_St) :=
  (if (σ.2.1 21) ≤ l1 then F_X9_firstProblem_b28 l1 σ else cv_bi (F_X9_isProblem l1 σ) (fun v4 s3 => (if v4 = 0 then k6 (l1 + Int32.ofInt 1) s3 else F_X9_firstProblem_b28 l1 s3)))
def F_X9_firstProblem_b6 : Nat → Int32 → cv_St → Option (Int32 × cv_St)
  | 0, _, _ => none
  | n + 1, l1, σ => B_X9_firstProblem_b6 (F_X9_firstProblem_b6 n) l1 σ
def F_X9_firstProblem (σ : cv_St) : Option (Int32 × cv_St) :=
  cv_bv (F_X9_infer σ) (fun s1 => F_X9_firstProblem_b6 1000 0 s1)
def F_X9_bodyMany_b25 (k4 : Int32 → Int32 → cv_St → Option (Int32 × cv_St)) (l2 : Int32) (t0 : Int32) (t1 : Int32) (σ : cv_St) : Option (Int32 × cv_St) :=
  k4 (t1 + t0) (l2 + Int32.ofInt 1) σ
def B_X9_bodyMany_b4 (k4 : Int32 → Int32 → cv_St → Option (Int32 × cv_St)) (l1 : Int32) (l2 : Int32) (σ : cv_St) : Option (Int32 × cv_St) :=
  (if 8 ≤ l2 then some (l1, σ) else cv_ld σ 43 344 l2 (fun v1 => (if v1 ≤ 0 then F_X9_bodyMany_b25 k4 l2 0 l1 σ else F_X9_bodyMany_b25 k4 l2 1 l1 σ)))
def F_X9_bodyMany_b4 : Nat → Int32 → Int32 → cv_St → Option (Int32 × cv_St)
  | 0, _, _, _ => none
  | n + 1, l1, l2, σ => B_X9_bodyMany_b4 (F_X9_bodyMany_b4 n) l1 l2 σ
def F_X9_bodyMany (σ : cv_St) : Option (Int32 × cv_St) :=
  F_X9_bodyMany_b4 1000 0 0 σ
def F_X9_countVotes_b85 (k5 : Int32 → Int32 → Int32 → Int32 → cv_St → Option (Int32 × cv_St)) (l1 : Int32) (l2 : Int32) (l4 : Int32) (t0 : Int32) (t1 : Int32) (σ : cv_St) : Option (Int32 × cv_St) :=
  k5 l1 l2 (t1 + t0) (l4 + Int32.ofInt 1) σ
def F_X9_countVotes_b62 (k5 : Int32 → Int32 → Int32 → Int32 → cv_St → Option (Int32 × cv_St)) (l1 : Int32) (l2 : Int32) (l3 : Int32) (l4 : Int32) (t0 : Int32) (σ : cv_St) : Option (Int32 × cv_St) :=
  cv_ld σ 43 344 l4 (fun v2 => (if v2 ≤ 0 then F_X9_countVotes_b85 k5 l1 l2 l4 0 l3 σ else F_X9_countVotes_b85 k5 l1 l2 l4 ((t0 >>> (l1 &&& 31)) &&& 1) l3 σ))
def B_X9_countVotes_b5 (k5 : Int32 → Int32 → Int32 → Int32 → cv_St → Option (Int32 × cv_St)) (l1 : Int32) (l2 : Int32) (l3 : Int32) (l4 : Int32) (σ : cv_St) : Option (Int32 × cv_St) :=
  (if 8 ≤ l4 then some (l3, σ) else (if l2 = 0 then cv_ld σ 58 8 l4 (fun v6 => F_X9_countVotes_b62 k5 l1 l2 l3 l4 v6 σ) else (if l2 = 1 then cv_ld σ 59 8 l4 (fun v5 => F_X9_countVotes_b62 k5 l1 l2 l3 l4 v5 σ) else (if l2 = 2 then cv_bi (F_X9_clobbered l4 σ) (fun v4 s3 => F_X9_countVotes_b62 k5 l1 l2 l3 l4 v4 s3) else cv_ld σ 51 8 l4 (fun v1 => F_X9_countVotes_b62 k5 l1 l2 l3 l4 v1 σ)))))
def F_X9_countVotes_b5 : Nat → Int32 → Int32 → Int32 → Int32 → cv_St → Option (Int32 × cv_St)
  | 0, _, _, _, _, _ => none
  | n + 1, l1, l2, l3, l4, σ => B_X9_countVotes_b5 (F_X9_countVotes_b5 n) l1 l2 l3 l4 σ
def F_X9_countVotes (l1 : Int32) (l2 : Int32) (σ : cv_St) : Option (Int32 × cv_St) :=
  F_X9_countVotes_b5 1000 l1 l2 0 0 σ
def F_X9_votes_b29 (l1 : Int32) (l2 : Int32) (t0 : Int32) (σ : cv_St) : Option (Int32 × cv_St) :=
  cv_pui σ 17 t0 (fun s5 => (if (s5.2.1 17) ≤ 0 then cv_bv (F_X9_infer s5) (fun s6 => cv_bi (F_X9_countVotes l1 l2 s6) (fun v8 s7 => some (v8, s7))) else some (0, s5)))
def F_X9_votes (l1 : Int32) (l2 : Int32) (σ : cv_St) : Option (Int32 × cv_St) :=
  cv_bi (F_X9_isRegister l1 σ) (fun v2 s1 => (if v2 = 0 then F_X9_votes_b29 l1 l2 1 s1 else cv_bi (F_X9_in l2.toInt64 0 3 s1) (fun v4 s3 => (if v4 = 0 then F_X9_votes_b29 l1 l2 2 s3 else F_X9_votes_b29 l1 l2 0 s3))))
def F_X9_role_b24 (l1 : Int32) (t0 : Int32) (σ : cv_St) : Option (Int32 × cv_St) :=
  cv_pui σ 17 t0 (fun s5 => (if (s5.2.1 17) ≤ 0 then cv_bv (F_X9_infer s5) (fun s6 => cv_bi (F_X9_bodyMany s6) (fun v8 s7 => cv_bi (F_X9_countVotes l1 0 s7) (fun v10 s9 => (if (2 * v10) < v8 then cv_bi (F_X9_countVotes l1 1 s9) (fun v12 s11 => (if v12 ≤ 0 then cv_bi (F_X9_countVotes l1 2 s11) (fun v14 s13 => (if (2 * v14) < v8 then some (4, s13) else some (3, s13))) else some (2, s11))) else some (1, s9))))) else some (0, s5)))
def F_X9_role (l1 : Int32) (σ : cv_St) : Option (Int32 × cv_St) :=
  cv_bi (F_X9_isRegister l1 σ) (fun v2 s1 => (if v2 = 0 then F_X9_role_b24 l1 1 s1 else cv_bi (F_X9_bodyMany s1) (fun v4 s3 => (if v4 = 0 then F_X9_role_b24 l1 2 s3 else F_X9_role_b24 l1 0 s3))))
def F_X9_cuts_b67 (σ : cv_St) : Option (Int32 × cv_St) :=
  cv_rz 1 σ
def F_X9_cuts_b52 (l3 : Int32) (l4 : Int32) (σ : cv_St) : Option (Int32 × cv_St) :=
  (if l4 = 99 then (if (l3 + 1) = 8 then F_X9_cuts_b67 σ else cv_rz 0 σ) else cv_rz 0 σ)
def F_X9_cuts_b34 (l3 : Int32) (l4 : Int32) (σ : cv_St) : Option (Int32 × cv_St) :=
  (if l4 = 43 then cv_ld σ 65 8 l3 (fun v3 => (if v3 = 6 then F_X9_cuts_b67 σ else F_X9_cuts_b52 l3 l4 σ)) else F_X9_cuts_b52 l3 l4 σ)
def F_X9_cuts (l1 : Int32) (l2 : Int32) (l3 : Int32) (σ : cv_St) : Option (Int32 × cv_St) :=
  cv_bi (F_X9_kind l1 l2 σ) (fun v2 s1 => (if (s1.2.1 25) = 300 then F_X9_cuts_b67 s1 else (if v2 = 45 then cv_ld s1 65 8 l3 (fun v4 => (if v4 = 0 then F_X9_cuts_b67 s1 else F_X9_cuts_b34 l3 v2 s1)) else F_X9_cuts_b34 l3 v2 s1)))
def F_X9_step (E : Int32 → Int32 → cv_St → Option cv_St) (l1 : Int32) (l2 : Int32) (l3 : Int32) (σ : cv_St) : Option (cv_St) :=
  cv_bi (F_X9_first l1 l2 σ) (fun v2 s1 => cv_ld s1 65 8 l3 (fun v3 => cv_bi (F_X9_kind l1 l2 s1) (fun v5 s4 => (if v5 = 43 then cv_ld s4 63 8 v2 (fun v6 => cv_st s4 64 48 ((6 * l3) + v3) v6 (fun s7 => cv_ld s7 65 8 l3 (fun v8 => cv_st s7 65 8 l3 (v8 + 1) (fun s9 => some s9)))) else (if v5 = 45 then cv_ld s4 64 48 (((6 * l3) + v3) - 1) (fun v10 => cv_st s4 63 8 v2 v10 (fun s11 => cv_ld s11 65 8 l3 (fun v12 => cv_st s11 65 8 l3 (v12 - 1) (fun s13 => some s13)))) else (if v5 = 99 then cv_bv (E v2 (l3 + 1) s4) (fun s14 => some s14) else (if v5 = 100 then cv_st s4 63 8 v2 (s4.2.1 28) (fun s15 => cv_pui s15 28 ((s15.2.1 28) + 1) (fun s16 => some s16)) else (if v5 = 109 then cv_bi (F_X9_second l1 l2 s4) (fun v18 s17 => cv_ld s17 63 8 v18 (fun v19 => cv_st s17 63 8 v2 v19 (fun s20 => some s20))) else some s4))))))))
def F_X9_execute_b94 (E : Int32 → Int32 → cv_St → Option cv_St) (k9 : Int32 → Int32 → Int32 → cv_St → Option (cv_St)) (l1 : Int32) (l2 : Int32) (l3 : Int32) (l4 : Int32) (σ : cv_St) : Option (cv_St) :=
  cv_bv (F_X9_step E l1 l3 l2 σ) (fun s9 => cv_bi (F_X9_next l1 l3 l4 s9) (fun v11 s10 => k9 l1 l2 v11 s10))
def B_X9_execute_b9 (E : Int32 → Int32 → cv_St → Option cv_St) (k9 : Int32 → Int32 → Int32 → cv_St → Option (cv_St)) (l1 : Int32) (l2 : Int32) (l3 : Int32) (σ : cv_St) : Option (cv_St) :=
  cv_ld σ 43 344 l1 (fun v2 => (if v2 ≤ l3 then some σ else (if (σ.2.1 24) = 0 then cv_bi (F_X9_cuts l1 l3 l2 σ) (fun v4 s3 => cv_puz s3 24 v4 (fun s5 => (if (s5.2.1 24) = 0 then cv_pui s5 25 ((s5.2.1 25) + 1) (fun s6 => cv_bi (F_X9_kind l1 l3 s6) (fun v8 s7 => (if v8 = 98 then cv_pui s7 26 ((s7.2.1 26) + 1) (fun s12 => F_X9_execute_b94 E k9 l1 l2 l3 (((s7.2.1 27) >>> (((s7.2.1 26) - (s7.2.1 26) / 32 * 32) &&& 31)) &&& 1) s12) else F_X9_execute_b94 E k9 l1 l2 l3 0 s7))) else k9 l1 l2 l3 s5))) else some σ)))
def F_X9_execute_b9 (E : Int32 → Int32 → cv_St → Option cv_St) : Nat → Int32 → Int32 → Int32 → cv_St → Option (cv_St)
  | 0, _, _, _, _ => none
  | n + 1, l1, l2, l3, σ => B_X9_execute_b9 E (F_X9_execute_b9 E n) l1 l2 l3 σ
def F_X9_executeE (E : Int32 → Int32 → cv_St → Option cv_St) (l1 : Int32) (l2 : Int32) (σ : cv_St) : Option (cv_St) :=
  cv_st σ 65 8 l2 0 (fun s1 => F_X9_execute_b9 E 1000 l1 l2 0 s1)
def F_X9_execute : Nat → Int32 → Int32 → cv_St → Option cv_St
  | 0, _, _, _ => none
  | n + 1, l1, l2, σ => F_X9_executeE (F_X9_execute n) l1 l2 σ
def B_X9_run_b27 (k27 : Int32 → Int32 → Int32 → cv_St → Option (Int32 × cv_St)) (l1 : Int32) (l2 : Int32) (l3 : Int32) (σ : cv_St) : Option (Int32 × cv_St) :=
  (if 8 ≤ l3 then cv_pui σ 28 8 (fun s4 => cv_pui s4 25 0 (fun s5 => cv_pui s5 26 0 (fun s6 => cv_pui s6 27 l2 (fun s7 => cv_puz s7 24 0 (fun s8 => cv_bv (F_X9_execute 9 l1 0 s8) (fun s9 => cv_puz s9 23 1 (fun s10 => some ((s10.2.1 25), s10)))))))) else cv_st σ 63 8 l3 l3 (fun s11 => k27 l1 l2 (l3 + Int32.ofInt 1) s11))
def F_X9_run_b27 : Nat → Int32 → Int32 → Int32 → cv_St → Option (Int32 × cv_St)
  | 0, _, _, _, _ => none
  | n + 1, l1, l2, l3, σ => B_X9_run_b27 (F_X9_run_b27 n) l1 l2 l3 σ
def F_X9_run_b13 (l1 : Int32) (l2 : Int32) (t0 : Int32) (σ : cv_St) : Option (Int32 × cv_St) :=
  cv_pui σ 17 t0 (fun s3 => (if (s3.2.1 17) ≤ 0 then F_X9_run_b27 1000 l1 l2 0 s3 else some (0, s3)))
def F_X9_run (l1 : Int32) (l2 : Int32) (σ : cv_St) : Option (Int32 × cv_St) :=
  cv_bi (F_X9_isFunction l1 σ) (fun v2 s1 => (if v2 = 0 then F_X9_run_b13 l1 l2 1 s1 else F_X9_run_b13 l1 l2 0 s1))
def F_X9_isCut_b13 (t0 : Int32) (σ : cv_St) : Option (Int32 × cv_St) :=
  cv_pui σ 17 t0 (fun s1 => (if (s1.2.1 17) = 0 then (if (s1.2.1 24) = 0 then cv_rz 0 s1 else cv_rz 1 s1) else cv_rz 0 s1))
def F_X9_isCut (σ : cv_St) : Option (Int32 × cv_St) :=
  (if (σ.2.1 23) = 0 then F_X9_isCut_b13 1 σ else F_X9_isCut_b13 0 σ)
def F_X9_observed_b62 (k31 : Int32 → Int32 → cv_St → Option (Int32 × cv_St)) (l2 : Int32) (t0 : Int32) (t1 : Int32) (σ : cv_St) : Option (Int32 × cv_St) :=
  k31 (t1 ||| t0) (l2 + Int32.ofInt 1) σ
def B_X9_observed_b31 (k31 : Int32 → Int32 → cv_St → Option (Int32 × cv_St)) (l1 : Int32) (l2 : Int32) (σ : cv_St) : Option (Int32 × cv_St) :=
  (if 8 ≤ l2 then some (l1, σ) else (if (σ.2.1 17) = 0 then cv_ld σ 63 8 l2 (fun v2 => (if v2 = l2 then F_X9_observed_b62 k31 l2 (1 <<< (l2 &&& 31)) l1 σ else F_X9_observed_b62 k31 l2 0 l1 σ)) else some (l1, σ)))
def F_X9_observed_b31 : Nat → Int32 → Int32 → cv_St → Option (Int32 × cv_St)
  | 0, _, _, _ => none
  | n + 1, l1, l2, σ => B_X9_observed_b31 (F_X9_observed_b31 n) l1 l2 σ
def F_X9_observed_b24 (t0 : Int32) (σ : cv_St) : Option (Int32 × cv_St) :=
  cv_pui σ 17 t0 (fun s1 => F_X9_observed_b31 1000 0 0 s1)
def F_X9_observed (σ : cv_St) : Option (Int32 × cv_St) :=
  (if (σ.2.1 23) = 0 then F_X9_observed_b24 1 σ else (if (σ.2.1 24) = 0 then F_X9_observed_b24 0 σ else F_X9_observed_b24 2 σ))
def F_X9_origin_b46 (l1 : Int32) (t0 : Int32) (σ : cv_St) : Option (Int32 × cv_St) :=
  cv_pui σ 17 t0 (fun s3 => (if (s3.2.1 17) ≤ 0 then cv_ld s3 63 8 l1 (fun v4 => some (v4, s3)) else some (0, s3)))
def F_X9_origin_b41 (l1 : Int32) (σ : cv_St) : Option (Int32 × cv_St) :=
  F_X9_origin_b46 l1 3 σ
def F_X9_origin (l1 : Int32) (σ : cv_St) : Option (Int32 × cv_St) :=
  cv_bi (F_X9_isRegister l1 σ) (fun v2 s1 => (if v2 = 0 then F_X9_origin_b46 l1 1 s1 else (if (s1.2.1 23) = 0 then F_X9_origin_b46 l1 2 s1 else (if (s1.2.1 24) = 0 then cv_ld s1 63 8 l1 (fun v5 => (if v5 < 8 then F_X9_origin_b46 l1 0 s1 else F_X9_origin_b41 l1 s1)) else F_X9_origin_b41 l1 s1))))
def F_X9_save (σ : cv_St) : Option (cv_St) :=
  cv_pui σ 17 0 (fun s1 => cv_cp s1 43 344 44 344 0 0 344 (fun s2 => cv_puz s2 14 1 (fun s3 => some s3)))
def F_X9_restore_b13 (t0 : Int32) (σ : cv_St) : Option (cv_St) :=
  cv_pui σ 17 t0 (fun s1 => (if (s1.2.1 17) = 0 then cv_cp s1 44 344 43 344 0 0 344 (fun s2 => cv_bv (F_X9_changed s2) (fun s3 => some s3)) else some s1))
def F_X9_restore (σ : cv_St) : Option (cv_St) :=
  (if (σ.2.1 14) = 0 then F_X9_restore_b13 1 σ else F_X9_restore_b13 0 σ)
/-! X9_thrown -/
set_option maxRecDepth 20000 in
set_option maxHeartbeats 2000000 in
theorem J_X9_thrown {X : cv_X} {G : cv_G} {LL : Launch} (hC : cv_C X G LL RX9 cX9_thrown 1 (some .int) { frames := 0, cells := 0, slots := 0, locals := 0 }) (σ : cv_St) : cv_J X G 1 0 0 (cv_QI X G) 0 [(0, .ref (G.1 10))] [] σ (F_X9_thrown σ) := by
  unfold F_X9_thrown
  refine cv_aload_n hC 0 dX9_thrown_0 rfl rfl ?_
  refine cv_geti hC (fg_X9_84_10 G) dX9_thrown_1 ?_
  exact cv_iret hC dX9_thrown_4
set_option maxRecDepth 20000 in
set_option maxHeartbeats 2000000 in
theorem M_X9_thrown (LL : Launch) (G : cv_G) (σ : cv_St) : cv_MI LL G yX9_thrown cX9_thrown 1 (some .int) 0 0 [.ref (G.1 10)] σ (F_X9_thrown σ) :=
  cv_mkI (by decide) (Nat.le_of_ble_eq_true rfl) (fun X hC => J_X9_thrown hC σ)
/-! X9_in -/
set_option maxRecDepth 20000 in
set_option maxHeartbeats 2000000 in
theorem J_X9_in {X : cv_X} {G : cv_G} {LL : Launch} (hC : cv_C X G LL RX9 cX9_in 6 (some .boolean) { frames := 0, cells := 0, slots := 0, locals := 0 }) (l0 : Int64) (l2 : Int64) (l4 : Int64) (σ : cv_St) : cv_J X G 6 0 0 (cv_QI X G) 0 [(0, .long l0), (2, .long l2), (4, .long l4)] [] σ (F_X9_in l0 l2 l4 σ) := by
  unfold F_X9_in
  refine cv_lload_n hC 0 dX9_in_0 rfl rfl ?_
  refine cv_lload_n hC 1 dX9_in_1 rfl rfl ?_
  refine cv_lcmp hC dX9_in_2 ?_
  refine cv_if_lt (tgt := 17) hC dX9_in_3 (by decide) ?_ ?_
  · refine cv_iconst (v := 0) hC dX9_in_17 cb_iconst_0 ?_
    exact cv_zret hC dX9_in_18
  · refine cv_lload_n hC 0 dX9_in_6 rfl rfl ?_
    refine cv_lload hC 2 dX9_in_7 rfl ?_
    refine cv_lcmp hC dX9_in_9 ?_
    refine cv_if_gt (tgt := 17) hC dX9_in_10 (by decide) ?_ ?_
    · refine cv_iconst (v := 0) hC dX9_in_17 cb_iconst_0 ?_
      exact cv_zret hC dX9_in_18
    · refine cv_iconst (v := 1) hC dX9_in_13 cb_iconst_1 ?_
      refine cv_goto (tgt := 18) hC dX9_in_14 (by decide) ?_
      exact cv_zret hC dX9_in_18
set_option maxRecDepth 20000 in
set_option maxHeartbeats 2000000 in
theorem M_X9_in (LL : Launch) (G : cv_G) (l0 : Int64) (l2 : Int64) (l4 : Int64) (σ : cv_St) : cv_MI LL G yX9_in cX9_in 6 (some .boolean) 0 0 [.long l0, .long l2, .long l4] σ (F_X9_in l0 l2 l4 σ) :=
  cv_mkI (by decide) (Nat.le_of_ble_eq_true rfl) (fun X hC => J_X9_in hC l0 l2 l4 σ)
/-! X9_isFunction -/
set_option maxRecDepth 20000 in
set_option maxHeartbeats 2000000 in
theorem J_X9_isFunction {X : cv_X} {G : cv_G} {LL : Launch} (hC : cv_C X G LL RX9 cX9_isFunction 1 (some .boolean) { frames := 1, cells := 0, slots := 0, locals := 25 }) (l0 : Int32) (σ : cv_St) : cv_J X G 1 0 0 (cv_QI X G) 0 [(0, .int l0)] [] σ (F_X9_isFunction l0 σ) := by
  unfold F_X9_isFunction
  refine cv_iload_n hC 0 dX9_isFunction_0 rfl rfl ?_
  refine cv_i2l hC dX9_isFunction_1 ?_
  refine cv_lconst (v := 0) hC dX9_isFunction_2 rfl ?_
  refine cv_ldc2 hC lc_X9_87 dX9_isFunction_3 ?_
  refine cv_callSi hC [.long l0.toInt64, .long 0, .long 7] [] (M_X9_in LL G l0.toInt64 0 7 σ) ln_X9_89 vm_X9_in rfl rfl (Nat.le_of_ble_eq_true rfl) ⟨Nat.le_of_ble_eq_true rfl, Nat.le_of_ble_eq_true rfl⟩ ⟨Nat.le_of_ble_eq_true rfl, Nat.le_of_ble_eq_true rfl⟩ dX9_isFunction_6 (fun v2 s1 => ?_)
  exact cv_zret hC dX9_isFunction_9
set_option maxRecDepth 20000 in
set_option maxHeartbeats 2000000 in
theorem M_X9_isFunction (LL : Launch) (G : cv_G) (l0 : Int32) (σ : cv_St) : cv_MI LL G yX9_isFunction cX9_isFunction 1 (some .boolean) 1 25 [.int l0] σ (F_X9_isFunction l0 σ) :=
  cv_mkI (by decide) (Nat.le_of_ble_eq_true rfl) (fun X hC => J_X9_isFunction hC l0 σ)
/-! X9_isRegister -/
set_option maxRecDepth 20000 in
set_option maxHeartbeats 2000000 in
theorem J_X9_isRegister {X : cv_X} {G : cv_G} {LL : Launch} (hC : cv_C X G LL RX9 cX9_isRegister 1 (some .boolean) { frames := 1, cells := 0, slots := 0, locals := 25 }) (l0 : Int32) (σ : cv_St) : cv_J X G 1 0 0 (cv_QI X G) 0 [(0, .int l0)] [] σ (F_X9_isRegister l0 σ) := by
  unfold F_X9_isRegister
  refine cv_iload_n hC 0 dX9_isRegister_0 rfl rfl ?_
  refine cv_i2l hC dX9_isRegister_1 ?_
  refine cv_lconst (v := 0) hC dX9_isRegister_2 rfl ?_
  refine cv_ldc2 hC lc_X9_87 dX9_isRegister_3 ?_
  refine cv_callSi hC [.long l0.toInt64, .long 0, .long 7] [] (M_X9_in LL G l0.toInt64 0 7 σ) ln_X9_89 vm_X9_in rfl rfl (Nat.le_of_ble_eq_true rfl) ⟨Nat.le_of_ble_eq_true rfl, Nat.le_of_ble_eq_true rfl⟩ ⟨Nat.le_of_ble_eq_true rfl, Nat.le_of_ble_eq_true rfl⟩ dX9_isRegister_6 (fun v2 s1 => ?_)
  exact cv_zret hC dX9_isRegister_9
set_option maxRecDepth 20000 in
set_option maxHeartbeats 2000000 in
theorem M_X9_isRegister (LL : Launch) (G : cv_G) (l0 : Int32) (σ : cv_St) : cv_MI LL G yX9_isRegister cX9_isRegister 1 (some .boolean) 1 25 [.int l0] σ (F_X9_isRegister l0 σ) :=
  cv_mkI (by decide) (Nat.le_of_ble_eq_true rfl) (fun X hC => J_X9_isRegister hC l0 σ)
/-! X9_isInstruction -/
set_option maxRecDepth 20000 in
set_option maxHeartbeats 2000000 in
theorem J_X9_isInstruction {X : cv_X} {G : cv_G} {LL : Launch} (hC : cv_C X G LL RX9 cX9_isInstruction 3 (some .boolean) { frames := 2, cells := 0, slots := 0, locals := 45 }) (l1 : Int32) (l2 : Int32) (σ : cv_St) : cv_J X G 3 0 0 (cv_QI X G) 0 [(0, .ref (G.1 10)), (1, .int l1), (2, .int l2)] [] σ (F_X9_isInstruction l1 l2 σ) := by
  unfold F_X9_isInstruction
  refine cv_iload_n hC 1 dX9_isInstruction_0 rfl rfl ?_
  refine cv_callSi hC [.int l1] [] (M_X9_isFunction LL G l1 σ) ln_X9_93 vm_X9_isFunction rfl rfl (Nat.le_of_ble_eq_true rfl) ⟨Nat.le_of_ble_eq_true rfl, Nat.le_of_ble_eq_true rfl⟩ ⟨Nat.le_of_ble_eq_true rfl, Nat.le_of_ble_eq_true rfl⟩ dX9_isInstruction_1 (fun v2 s1 => ?_)
  refine cv_if_eq (tgt := 29) hC dX9_isInstruction_4 (by decide) ?_ ?_
  · refine cv_iconst (v := 0) hC dX9_isInstruction_29 cb_iconst_0 ?_
    exact cv_zret hC dX9_isInstruction_30
  · refine cv_iload_n hC 2 dX9_isInstruction_7 rfl rfl ?_
    refine cv_i2l hC dX9_isInstruction_8 ?_
    refine cv_lconst (v := 0) hC dX9_isInstruction_9 rfl ?_
    refine cv_aload_n hC 0 dX9_isInstruction_10 rfl rfl ?_
    refine cv_getr hC (fg_X9_9_10 G) dX9_isInstruction_11 ?_
    refine cv_iload_n hC 1 dX9_isInstruction_14 rfl rfl ?_
    refine cv_iald hC (cv_a43 G) dX9_isInstruction_15 (fun v3 => ?_)
    refine cv_iconst (v := 1) hC dX9_isInstruction_16 cb_iconst_1 ?_
    refine cv_isub hC dX9_isInstruction_17 ?_
    refine cv_i2l hC dX9_isInstruction_18 ?_
    refine cv_callSi hC [.long l2.toInt64, .long 0, .long ((v3 - 1).toInt64)] [] (M_X9_in LL G l2.toInt64 0 ((v3 - 1).toInt64) s1) ln_X9_89 vm_X9_in rfl rfl (Nat.le_of_ble_eq_true rfl) ⟨Nat.le_of_ble_eq_true rfl, Nat.le_of_ble_eq_true rfl⟩ ⟨Nat.le_of_ble_eq_true rfl, Nat.le_of_ble_eq_true rfl⟩ dX9_isInstruction_19 (fun v5 s4 => ?_)
    refine cv_if_eq (tgt := 29) hC dX9_isInstruction_22 (by decide) ?_ ?_
    · refine cv_iconst (v := 0) hC dX9_isInstruction_29 cb_iconst_0 ?_
      exact cv_zret hC dX9_isInstruction_30
    · refine cv_iconst (v := 1) hC dX9_isInstruction_25 cb_iconst_1 ?_
      refine cv_goto (tgt := 30) hC dX9_isInstruction_26 (by decide) ?_
      exact cv_zret hC dX9_isInstruction_30
set_option maxRecDepth 20000 in
set_option maxHeartbeats 2000000 in
theorem M_X9_isInstruction (LL : Launch) (G : cv_G) (l1 : Int32) (l2 : Int32) (σ : cv_St) : cv_MI LL G yX9_isInstruction cX9_isInstruction 3 (some .boolean) 2 45 [.ref (G.1 10), .int l1, .int l2] σ (F_X9_isInstruction l1 l2 σ) :=
  cv_mkI (by decide) (Nat.le_of_ble_eq_true rfl) (fun X hC => J_X9_isInstruction hC l1 l2 σ)
/-! X9_kind -/
set_option maxRecDepth 20000 in
set_option maxHeartbeats 2000000 in
theorem J_X9_kind {X : cv_X} {G : cv_G} {LL : Launch} (hC : cv_C X G LL RX9 cX9_kind 3 (some .int) { frames := 0, cells := 0, slots := 0, locals := 0 }) (l1 : Int32) (l2 : Int32) (σ : cv_St) : cv_J X G 3 0 0 (cv_QI X G) 0 [(0, .ref (G.1 10)), (1, .int l1), (2, .int l2)] [] σ (F_X9_kind l1 l2 σ) := by
  unfold F_X9_kind
  refine cv_aload_n hC 0 dX9_kind_0 rfl rfl ?_
  refine cv_getr hC (fg_X9_9_10 G) dX9_kind_1 ?_
  refine cv_bipush (v := 8) hC dX9_kind_4 cb_bipush_8 ?_
  refine cv_bipush (v := 14) hC dX9_kind_6 cb_bipush_14 ?_
  refine cv_iload_n hC 1 dX9_kind_8 rfl rfl ?_
  refine cv_imul hC dX9_kind_9 ?_
  refine cv_iadd hC dX9_kind_10 ?_
  refine cv_iload_n hC 2 dX9_kind_11 rfl rfl ?_
  refine cv_iadd hC dX9_kind_12 ?_
  refine cv_iald hC (cv_a43 G) dX9_kind_13 (fun v1 => ?_)
  exact cv_iret hC dX9_kind_14
set_option maxRecDepth 20000 in
set_option maxHeartbeats 2000000 in
theorem M_X9_kind (LL : Launch) (G : cv_G) (l1 : Int32) (l2 : Int32) (σ : cv_St) : cv_MI LL G yX9_kind cX9_kind 3 (some .int) 0 0 [.ref (G.1 10), .int l1, .int l2] σ (F_X9_kind l1 l2 σ) :=
  cv_mkI (by decide) (Nat.le_of_ble_eq_true rfl) (fun X hC => J_X9_kind hC l1 l2 σ)
/-! X9_first -/
set_option maxRecDepth 20000 in
set_option maxHeartbeats 2000000 in
theorem J_X9_first {X : cv_X} {G : cv_G} {LL : Launch} (hC : cv_C X G LL RX9 cX9_first 3 (some .int) { frames := 0, cells := 0, slots := 0, locals := 0 }) (l1 : Int32) (l2 : Int32) (σ : cv_St) : cv_J X G 3 0 0 (cv_QI X G) 0 [(0, .ref (G.1 10)), (1, .int l1), (2, .int l2)] [] σ (F_X9_first l1 l2 σ) := by
  unfold F_X9_first
  refine cv_aload_n hC 0 dX9_first_0 rfl rfl ?_
  refine cv_getr hC (fg_X9_9_10 G) dX9_first_1 ?_
  refine cv_bipush (v := 120) hC dX9_first_4 cb_bipush_120 ?_
  refine cv_bipush (v := 14) hC dX9_first_6 cb_bipush_14 ?_
  refine cv_iload_n hC 1 dX9_first_8 rfl rfl ?_
  refine cv_imul hC dX9_first_9 ?_
  refine cv_iadd hC dX9_first_10 ?_
  refine cv_iload_n hC 2 dX9_first_11 rfl rfl ?_
  refine cv_iadd hC dX9_first_12 ?_
  refine cv_iald hC (cv_a43 G) dX9_first_13 (fun v1 => ?_)
  exact cv_iret hC dX9_first_14
set_option maxRecDepth 20000 in
set_option maxHeartbeats 2000000 in
theorem M_X9_first (LL : Launch) (G : cv_G) (l1 : Int32) (l2 : Int32) (σ : cv_St) : cv_MI LL G yX9_first cX9_first 3 (some .int) 0 0 [.ref (G.1 10), .int l1, .int l2] σ (F_X9_first l1 l2 σ) :=
  cv_mkI (by decide) (Nat.le_of_ble_eq_true rfl) (fun X hC => J_X9_first hC l1 l2 σ)
/-! X9_second -/
set_option maxRecDepth 20000 in
set_option maxHeartbeats 2000000 in
theorem J_X9_second {X : cv_X} {G : cv_G} {LL : Launch} (hC : cv_C X G LL RX9 cX9_second 3 (some .int) { frames := 0, cells := 0, slots := 0, locals := 0 }) (l1 : Int32) (l2 : Int32) (σ : cv_St) : cv_J X G 3 0 0 (cv_QI X G) 0 [(0, .ref (G.1 10)), (1, .int l1), (2, .int l2)] [] σ (F_X9_second l1 l2 σ) := by
  unfold F_X9_second
  refine cv_aload_n hC 0 dX9_second_0 rfl rfl ?_
  refine cv_getr hC (fg_X9_9_10 G) dX9_second_1 ?_
  refine cv_sipush (v := 232) hC dX9_second_4 cb_sipush_232 ?_
  refine cv_bipush (v := 14) hC dX9_second_7 cb_bipush_14 ?_
  refine cv_iload_n hC 1 dX9_second_9 rfl rfl ?_
  refine cv_imul hC dX9_second_10 ?_
  refine cv_iadd hC dX9_second_11 ?_
  refine cv_iload_n hC 2 dX9_second_12 rfl rfl ?_
  refine cv_iadd hC dX9_second_13 ?_
  refine cv_iald hC (cv_a43 G) dX9_second_14 (fun v1 => ?_)
  exact cv_iret hC dX9_second_15
set_option maxRecDepth 20000 in
set_option maxHeartbeats 2000000 in
theorem M_X9_second (LL : Launch) (G : cv_G) (l1 : Int32) (l2 : Int32) (σ : cv_St) : cv_MI LL G yX9_second cX9_second 3 (some .int) 0 0 [.ref (G.1 10), .int l1, .int l2] σ (F_X9_second l1 l2 σ) :=
  cv_mkI (by decide) (Nat.le_of_ble_eq_true rfl) (fun X hC => J_X9_second hC l1 l2 σ)
/-! X9_changed -/
set_option maxRecDepth 20000 in
set_option maxHeartbeats 2000000 in
theorem J_X9_changed {X : cv_X} {G : cv_G} {LL : Launch} (hC : cv_C X G LL RX9 cX9_changed 1 none { frames := 0, cells := 0, slots := 0, locals := 0 }) (σ : cv_St) : cv_J X G 1 0 0 (cv_QV X G) 0 [(0, .ref (G.1 10))] [] σ (F_X9_changed σ) := by
  unfold F_X9_changed
  refine cv_aload_n hC 0 dX9_changed_0 rfl rfl ?_
  refine cv_iconst (v := 0) hC dX9_changed_1 cb_iconst_0 ?_
  refine cv_putz hC (fp_X9_97_10 G) dX9_changed_2 (fun s1 => ?_)
  refine cv_aload_n hC 0 dX9_changed_5 rfl rfl ?_
  refine cv_iconst (v := 0) hC dX9_changed_6 cb_iconst_0 ?_
  refine cv_putz hC (fp_X9_101_10 G) dX9_changed_7 (fun s2 => ?_)
  exact cv_vret hC dX9_changed_10
set_option maxRecDepth 20000 in
set_option maxHeartbeats 2000000 in
theorem M_X9_changed (LL : Launch) (G : cv_G) (σ : cv_St) : cv_MV LL G yX9_changed cX9_changed 1 0 0 [.ref (G.1 10)] σ (F_X9_changed σ) :=
  cv_mkV (by decide) (Nat.le_of_ble_eq_true rfl) (fun X hC => J_X9_changed hC σ)
/-! X9_appendCharacter -/
set_option maxRecDepth 20000 in
set_option maxHeartbeats 2000000 in
theorem J_X9_appendCharacter_b33 {X : cv_X} {G : cv_G} {LL : Launch} (hC : cv_C X G LL RX9 cX9_appendCharacter 2 (some .int) { frames := 1, cells := 0, slots := 0, locals := 25 }) (l1 : Int32) (t0 : Int32) (σ : cv_St) : cv_J X G 2 0 0 (cv_QI X G) 33 [(0, .ref (G.1 10)), (1, .int l1)] [.int t0, .ref (G.1 10)] σ (F_X9_appendCharacter_b33 l1 t0 σ) := by
  unfold F_X9_appendCharacter_b33
  refine cv_puti hC (fp_X9_84_10 G) dX9_appendCharacter_33 (fun s3 => ?_)
  refine cv_aload_n hC 0 dX9_appendCharacter_36 rfl rfl ?_
  refine cv_geti hC (fg_X9_84_10 G) dX9_appendCharacter_37 ?_
  refine cv_if_le (tgt := 45) hC dX9_appendCharacter_40 (by decide) ?_ ?_
  · refine cv_aload_n hC 0 dX9_appendCharacter_45 rfl rfl ?_
    refine cv_getr hC (fg_X9_16_10 G) dX9_appendCharacter_46 ?_
    refine cv_aload_n hC 0 dX9_appendCharacter_49 rfl rfl ?_
    refine cv_geti hC (fg_X9_108_10 G) dX9_appendCharacter_50 ?_
    refine cv_iload_n hC 1 dX9_appendCharacter_53 rfl rfl ?_
    refine cv_iast hC (cv_a45 G) dX9_appendCharacter_54 (fun s4 => ?_)
    refine cv_aload_n hC 0 dX9_appendCharacter_55 rfl rfl ?_
    refine cv_dup hC dX9_appendCharacter_56 rfl ?_
    refine cv_geti hC (fg_X9_108_10 G) dX9_appendCharacter_57 ?_
    refine cv_iconst (v := 1) hC dX9_appendCharacter_60 cb_iconst_1 ?_
    refine cv_iadd hC dX9_appendCharacter_61 ?_
    refine cv_puti hC (fp_X9_108_10 G) dX9_appendCharacter_62 (fun s5 => ?_)
    refine cv_aload_n hC 0 dX9_appendCharacter_65 rfl rfl ?_
    refine cv_geti hC (fg_X9_108_10 G) dX9_appendCharacter_66 ?_
    exact cv_iret hC dX9_appendCharacter_69
  · refine cv_iconst (v := 0) hC dX9_appendCharacter_43 cb_iconst_0 ?_
    exact cv_iret hC dX9_appendCharacter_44
set_option maxRecDepth 20000 in
set_option maxHeartbeats 2000000 in
theorem J_X9_appendCharacter {X : cv_X} {G : cv_G} {LL : Launch} (hC : cv_C X G LL RX9 cX9_appendCharacter 2 (some .int) { frames := 1, cells := 0, slots := 0, locals := 25 }) (l1 : Int32) (σ : cv_St) : cv_J X G 2 0 0 (cv_QI X G) 0 [(0, .ref (G.1 10)), (1, .int l1)] [] σ (F_X9_appendCharacter l1 σ) := by
  unfold F_X9_appendCharacter
  refine cv_aload_n hC 0 dX9_appendCharacter_0 rfl rfl ?_
  refine cv_iload_n hC 1 dX9_appendCharacter_1 rfl rfl ?_
  refine cv_i2l hC dX9_appendCharacter_2 ?_
  refine cv_ldc2 hC lc_X9_104 dX9_appendCharacter_3 ?_
  refine cv_ldc2 hC lc_X9_106 dX9_appendCharacter_6 ?_
  refine cv_callSi hC [.long l1.toInt64, .long 33, .long 126] [.ref (G.1 10)] (M_X9_in LL G l1.toInt64 33 126 σ) ln_X9_89 vm_X9_in rfl rfl (Nat.le_of_ble_eq_true rfl) ⟨Nat.le_of_ble_eq_true rfl, Nat.le_of_ble_eq_true rfl⟩ ⟨Nat.le_of_ble_eq_true rfl, Nat.le_of_ble_eq_true rfl⟩ dX9_appendCharacter_9 (fun v2 s1 => ?_)
  refine cv_if_ne (tgt := 19) hC dX9_appendCharacter_12 (by decide) ?_ ?_
  · refine cv_aload_n hC 0 dX9_appendCharacter_19 rfl rfl ?_
    refine cv_geti hC (fg_X9_108_10 G) dX9_appendCharacter_20 ?_
    refine cv_bipush (v := 60) hC dX9_appendCharacter_23 cb_bipush_60 ?_
    refine cv_icmp_ne (tgt := 32) hC dX9_appendCharacter_25 (by decide) ?_ ?_
    · refine cv_iconst (v := 0) hC dX9_appendCharacter_32 cb_iconst_0 ?_
      exact cv_sub [0, 1] rfl (J_X9_appendCharacter_b33 hC l1 0 s1)
    · refine cv_iconst (v := 2) hC dX9_appendCharacter_28 cb_iconst_2 ?_
      refine cv_goto (tgt := 33) hC dX9_appendCharacter_29 (by decide) ?_
      exact cv_sub [0, 1] rfl (J_X9_appendCharacter_b33 hC l1 2 s1)
  · refine cv_iconst (v := 1) hC dX9_appendCharacter_15 cb_iconst_1 ?_
    refine cv_goto (tgt := 33) hC dX9_appendCharacter_16 (by decide) ?_
    exact cv_sub [0, 1] rfl (J_X9_appendCharacter_b33 hC l1 1 s1)
set_option maxRecDepth 20000 in
set_option maxHeartbeats 2000000 in
theorem M_X9_appendCharacter (LL : Launch) (G : cv_G) (l1 : Int32) (σ : cv_St) : cv_MI LL G yX9_appendCharacter cX9_appendCharacter 2 (some .int) 1 25 [.ref (G.1 10), .int l1] σ (F_X9_appendCharacter l1 σ) :=
  cv_mkI (by decide) (Nat.le_of_ble_eq_true rfl) (fun X hC => J_X9_appendCharacter hC l1 σ)
/-! X9_here -/
set_option maxRecDepth 20000 in
set_option maxHeartbeats 2000000 in
theorem J_X9_here {X : cv_X} {G : cv_G} {LL : Launch} (hC : cv_C X G LL RX9 cX9_here 1 (some .int) { frames := 0, cells := 0, slots := 0, locals := 0 }) (σ : cv_St) : cv_J X G 1 0 0 (cv_QI X G) 0 [(0, .ref (G.1 10))] [] σ (F_X9_here σ) := by
  unfold F_X9_here
  refine cv_aload_n hC 0 dX9_here_0 rfl rfl ?_
  refine cv_geti hC (fg_X9_111_10 G) dX9_here_1 ?_
  refine cv_aload_n hC 0 dX9_here_4 rfl rfl ?_
  refine cv_geti hC (fg_X9_108_10 G) dX9_here_5 ?_
  refine cv_icmp_ge (tgt := 23) hC dX9_here_8 (by decide) ?_ ?_
  · refine cv_iconst (v := 0) hC dX9_here_23 cb_iconst_0 ?_
    exact cv_iret hC dX9_here_24
  · refine cv_aload_n hC 0 dX9_here_11 rfl rfl ?_
    refine cv_getr hC (fg_X9_16_10 G) dX9_here_12 ?_
    refine cv_aload_n hC 0 dX9_here_15 rfl rfl ?_
    refine cv_geti hC (fg_X9_111_10 G) dX9_here_16 ?_
    refine cv_iald hC (cv_a45 G) dX9_here_19 (fun v1 => ?_)
    refine cv_goto (tgt := 24) hC dX9_here_20 (by decide) ?_
    exact cv_iret hC dX9_here_24
set_option maxRecDepth 20000 in
set_option maxHeartbeats 2000000 in
theorem M_X9_here (LL : Launch) (G : cv_G) (σ : cv_St) : cv_MI LL G yX9_here cX9_here 1 (some .int) 0 0 [.ref (G.1 10)] σ (F_X9_here σ) :=
  cv_mkI (by decide) (Nat.le_of_ble_eq_true rfl) (fun X hC => J_X9_here hC σ)
/-! X9_digit -/
set_option maxRecDepth 20000 in
set_option maxHeartbeats 2000000 in
theorem J_X9_digit_b28 {X : cv_X} {G : cv_G} {LL : Launch} (hC : cv_C X G LL RX9 cX9_digit 3 (some .int) { frames := 1, cells := 0, slots := 0, locals := 25 }) (σ : cv_St) : cv_J X G 3 0 0 (cv_QI X G) 28 [(0, .ref (G.1 10))] [] σ (F_X9_digit_b28  σ) := by
  unfold F_X9_digit_b28
  refine cv_aload_n hC 0 dX9_digit_28 rfl rfl ?_
  refine cv_iconst (v := 1) hC dX9_digit_29 cb_iconst_1 ?_
  refine cv_putz hC (fp_X9_114_10 G) dX9_digit_30 (fun s1 => ?_)
  refine cv_iconst (v := 0) hC dX9_digit_33 cb_iconst_0 ?_
  exact cv_iret hC dX9_digit_34
set_option maxRecDepth 20000 in
set_option maxHeartbeats 2000000 in
theorem J_X9_digit {X : cv_X} {G : cv_G} {LL : Launch} (hC : cv_C X G LL RX9 cX9_digit 3 (some .int) { frames := 1, cells := 0, slots := 0, locals := 25 }) (l1 : Int32) (l2 : Int32) (σ : cv_St) : cv_J X G 3 0 0 (cv_QI X G) 0 [(0, .ref (G.1 10)), (1, .int l1), (2, .int l2)] [] σ (F_X9_digit l1 l2 σ) := by
  unfold F_X9_digit
  refine cv_aload_n hC 0 dX9_digit_0 rfl rfl ?_
  refine cv_geti hC (fg_X9_114_10 G) dX9_digit_1 ?_
  refine cv_if_ne (tgt := 28) hC dX9_digit_4 (by decide) ?_ ?_
  · exact cv_sub [0] rfl (J_X9_digit_b28 hC σ)
  · refine cv_aload_n hC 0 dX9_digit_7 rfl rfl ?_
    refine cv_callVi (ob := 10) hC [] [] (M_X9_here LL G σ) ln_X9_117 vm_X9_here (ob_10 G) rfl rfl (Nat.le_of_ble_eq_true rfl) ⟨Nat.le_of_ble_eq_true rfl, Nat.le_of_ble_eq_true rfl⟩ ⟨Nat.le_of_ble_eq_true rfl, Nat.le_of_ble_eq_true rfl⟩ dX9_digit_8 (fun v3 s2 => ?_)
    refine cv_i2l hC dX9_digit_11 ?_
    refine cv_bipush (v := 48) hC dX9_digit_12 cb_bipush_48 ?_
    refine cv_iload_n hC 1 dX9_digit_14 rfl rfl ?_
    refine cv_iadd hC dX9_digit_15 ?_
    refine cv_i2l hC dX9_digit_16 ?_
    refine cv_bipush (v := 48) hC dX9_digit_17 cb_bipush_48 ?_
    refine cv_iload_n hC 2 dX9_digit_19 rfl rfl ?_
    refine cv_iadd hC dX9_digit_20 ?_
    refine cv_i2l hC dX9_digit_21 ?_
    refine cv_callSi hC [.long v3.toInt64, .long ((48 + l1).toInt64), .long ((48 + l2).toInt64)] [] (M_X9_in LL G v3.toInt64 ((48 + l1).toInt64) ((48 + l2).toInt64) s2) ln_X9_89 vm_X9_in rfl rfl (Nat.le_of_ble_eq_true rfl) ⟨Nat.le_of_ble_eq_true rfl, Nat.le_of_ble_eq_true rfl⟩ ⟨Nat.le_of_ble_eq_true rfl, Nat.le_of_ble_eq_true rfl⟩ dX9_digit_22 (fun v5 s4 => ?_)
    refine cv_if_ne (tgt := 35) hC dX9_digit_25 (by decide) ?_ ?_
    · refine cv_aload_n hC 0 dX9_digit_35 rfl rfl ?_
      refine cv_dup hC dX9_digit_36 rfl ?_
      refine cv_geti hC (fg_X9_111_10 G) dX9_digit_37 ?_
      refine cv_iconst (v := 1) hC dX9_digit_40 cb_iconst_1 ?_
      refine cv_iadd hC dX9_digit_41 ?_
      refine cv_puti hC (fp_X9_111_10 G) dX9_digit_42 (fun s6 => ?_)
      refine cv_aload_n hC 0 dX9_digit_45 rfl rfl ?_
      refine cv_getr hC (fg_X9_16_10 G) dX9_digit_46 ?_
      refine cv_aload_n hC 0 dX9_digit_49 rfl rfl ?_
      refine cv_geti hC (fg_X9_111_10 G) dX9_digit_50 ?_
      refine cv_iconst (v := 1) hC dX9_digit_53 cb_iconst_1 ?_
      refine cv_isub hC dX9_digit_54 ?_
      refine cv_iald hC (cv_a45 G) dX9_digit_55 (fun v7 => ?_)
      refine cv_bipush (v := 48) hC dX9_digit_56 cb_bipush_48 ?_
      refine cv_isub hC dX9_digit_58 ?_
      exact cv_iret hC dX9_digit_59
    · exact cv_sub [0] rfl (J_X9_digit_b28 hC s4)
set_option maxRecDepth 20000 in
set_option maxHeartbeats 2000000 in
theorem M_X9_digit (LL : Launch) (G : cv_G) (l1 : Int32) (l2 : Int32) (σ : cv_St) : cv_MI LL G yX9_digit cX9_digit 3 (some .int) 1 25 [.ref (G.1 10), .int l1, .int l2] σ (F_X9_digit l1 l2 σ) :=
  cv_mkI (by decide) (Nat.le_of_ble_eq_true rfl) (fun X hC => J_X9_digit hC l1 l2 σ)
/-! X9_readInstruction -/
set_option maxRecDepth 20000 in
set_option maxHeartbeats 2000000 in
theorem J_X9_readInstruction_b220 {X : cv_X} {G : cv_G} {LL : Launch} (hC : cv_C X G LL RX9 cX9_readInstruction 3 none { frames := 2, cells := 0, slots := 0, locals := 47 }) (σ : cv_St) : cv_J X G 3 0 0 (cv_QV X G) 220 [(0, .ref (G.1 10))] [] σ (F_X9_readInstruction_b220  σ) := by
  unfold F_X9_readInstruction_b220
  refine cv_aload_n hC 0 dX9_readInstruction_220 rfl rfl ?_
  refine cv_dup hC dX9_readInstruction_221 rfl ?_
  refine cv_geti hC (fg_X9_121_10 G) dX9_readInstruction_222 ?_
  refine cv_iconst (v := 1) hC dX9_readInstruction_225 cb_iconst_1 ?_
  refine cv_iadd hC dX9_readInstruction_226 ?_
  refine cv_puti hC (fp_X9_121_10 G) dX9_readInstruction_227 (fun s10 => ?_)
  exact cv_vret hC dX9_readInstruction_230
set_option maxRecDepth 20000 in
set_option maxHeartbeats 2000000 in
theorem J_X9_readInstruction_b198 {X : cv_X} {G : cv_G} {LL : Launch} (hC : cv_C X G LL RX9 cX9_readInstruction 3 none { frames := 2, cells := 0, slots := 0, locals := 47 }) (l1 : Int32) (σ : cv_St) : cv_J X G 3 0 0 (cv_QV X G) 198 [(0, .ref (G.1 10)), (1, .int l1)] [] σ (F_X9_readInstruction_b198 l1 σ) := by
  unfold F_X9_readInstruction_b198
  refine cv_iload_n hC 1 dX9_readInstruction_198 rfl rfl ?_
  refine cv_bipush (v := 109) hC dX9_readInstruction_199 cb_bipush_109 ?_
  refine cv_icmp_ne (tgt := 220) hC dX9_readInstruction_201 (by decide) ?_ ?_
  · exact cv_sub [0] rfl (J_X9_readInstruction_b220 hC σ)
  · refine cv_aload_n hC 0 dX9_readInstruction_204 rfl rfl ?_
    refine cv_getr hC (fg_X9_29_10 G) dX9_readInstruction_205 ?_
    refine cv_aload_n hC 0 dX9_readInstruction_208 rfl rfl ?_
    refine cv_geti hC (fg_X9_121_10 G) dX9_readInstruction_209 ?_
    refine cv_aload_n hC 0 dX9_readInstruction_212 rfl rfl ?_
    refine cv_iconst (v := 0) hC dX9_readInstruction_213 cb_iconst_0 ?_
    refine cv_bipush (v := 7) hC dX9_readInstruction_214 cb_bipush_7 ?_
    refine cv_callVi (ob := 10) hC [.int 0, .int 7] [.int (σ.2.1 20), .ref (G.1 48)] (M_X9_digit LL G 0 7 σ) ln_X9_124 vm_X9_digit (ob_10 G) rfl rfl (Nat.le_of_ble_eq_true rfl) ⟨Nat.le_of_ble_eq_true rfl, Nat.le_of_ble_eq_true rfl⟩ ⟨Nat.le_of_ble_eq_true rfl, Nat.le_of_ble_eq_true rfl⟩ dX9_readInstruction_216 (fun v12 s11 => ?_)
    refine cv_iast hC (cv_a48 G) dX9_readInstruction_219 (fun s13 => ?_)
    exact cv_sub [0] rfl (J_X9_readInstruction_b220 hC s13)
set_option maxRecDepth 20000 in
set_option maxHeartbeats 2000000 in
theorem J_X9_readInstruction_b133 {X : cv_X} {G : cv_G} {LL : Launch} (hC : cv_C X G LL RX9 cX9_readInstruction 3 none { frames := 2, cells := 0, slots := 0, locals := 47 }) (l1 : Int32) (σ : cv_St) : cv_J X G 3 0 0 (cv_QV X G) 133 [(0, .ref (G.1 10)), (1, .int l1)] [] σ (F_X9_readInstruction_b133 l1 σ) := by
  unfold F_X9_readInstruction_b133
  refine cv_aload_n hC 0 dX9_readInstruction_133 rfl rfl ?_
  refine cv_getr hC (fg_X9_26_10 G) dX9_readInstruction_134 ?_
  refine cv_aload_n hC 0 dX9_readInstruction_137 rfl rfl ?_
  refine cv_geti hC (fg_X9_121_10 G) dX9_readInstruction_138 ?_
  refine cv_aload_n hC 0 dX9_readInstruction_141 rfl rfl ?_
  refine cv_iconst (v := 0) hC dX9_readInstruction_142 cb_iconst_0 ?_
  refine cv_iconst (v := 3) hC dX9_readInstruction_143 cb_iconst_3 ?_
  refine cv_callVi (ob := 10) hC [.int 0, .int 3] [.int (σ.2.1 20), .ref (G.1 47)] (M_X9_digit LL G 0 3 σ) ln_X9_124 vm_X9_digit (ob_10 G) rfl rfl (Nat.le_of_ble_eq_true rfl) ⟨Nat.le_of_ble_eq_true rfl, Nat.le_of_ble_eq_true rfl⟩ ⟨Nat.le_of_ble_eq_true rfl, Nat.le_of_ble_eq_true rfl⟩ dX9_readInstruction_144 (fun v8 s7 => ?_)
  refine cv_iast hC (cv_a47 G) dX9_readInstruction_147 (fun s9 => ?_)
  refine cv_goto (tgt := 198) hC dX9_readInstruction_148 (by decide) ?_
  exact cv_sub [0, 1] rfl (J_X9_readInstruction_b198 hC l1 s9)
set_option maxRecDepth 20000 in
set_option maxHeartbeats 2000000 in
theorem J_X9_readInstruction_b70 {X : cv_X} {G : cv_G} {LL : Launch} (hC : cv_C X G LL RX9 cX9_readInstruction 3 none { frames := 2, cells := 0, slots := 0, locals := 47 }) (l1 : Int32) (t0 : Int32) (σ : cv_St) : cv_J X G 3 0 0 (cv_QV X G) 70 [(0, .ref (G.1 10)), (1, .int l1)] [.int t0] σ (F_X9_readInstruction_b70 l1 t0 σ) := by
  unfold F_X9_readInstruction_b70
  refine cv_istore_n (lv' := [(2, .int t0), (0, .ref (G.1 10)), (1, .int l1)]) hC dX9_readInstruction_70 rfl (by decide) rfl ?_
  refine cv_iload_n hC 0 dX9_readInstruction_71 rfl rfl ?_
  refine cv_if_ne (tgt := 81) hC dX9_readInstruction_72 (by decide) ?_ ?_
  · refine cv_aload_n hC 1 dX9_readInstruction_81 rfl rfl ?_
    refine cv_dup hC dX9_readInstruction_82 rfl ?_
    refine cv_geti hC (fg_X9_111_10 G) dX9_readInstruction_83 ?_
    refine cv_iconst (v := 1) hC dX9_readInstruction_86 cb_iconst_1 ?_
    refine cv_iadd hC dX9_readInstruction_87 ?_
    refine cv_puti hC (fp_X9_111_10 G) dX9_readInstruction_88 (fun s3 => ?_)
    refine cv_aload_n hC 1 dX9_readInstruction_91 rfl rfl ?_
    refine cv_getr hC (fg_X9_23_10 G) dX9_readInstruction_92 ?_
    refine cv_aload_n hC 1 dX9_readInstruction_95 rfl rfl ?_
    refine cv_geti hC (fg_X9_121_10 G) dX9_readInstruction_96 ?_
    refine cv_iload_n hC 2 dX9_readInstruction_99 rfl rfl ?_
    refine cv_iast hC (cv_a46 G) dX9_readInstruction_100 (fun s4 => ?_)
    refine cv_aload_n hC 1 dX9_readInstruction_101 rfl rfl ?_
    refine cv_getr hC (fg_X9_26_10 G) dX9_readInstruction_102 ?_
    refine cv_aload_n hC 1 dX9_readInstruction_105 rfl rfl ?_
    refine cv_geti hC (fg_X9_121_10 G) dX9_readInstruction_106 ?_
    refine cv_iconst (v := 0) hC dX9_readInstruction_109 cb_iconst_0 ?_
    refine cv_iast hC (cv_a47 G) dX9_readInstruction_110 (fun s5 => ?_)
    refine cv_aload_n hC 1 dX9_readInstruction_111 rfl rfl ?_
    refine cv_getr hC (fg_X9_29_10 G) dX9_readInstruction_112 ?_
    refine cv_aload_n hC 1 dX9_readInstruction_115 rfl rfl ?_
    refine cv_geti hC (fg_X9_121_10 G) dX9_readInstruction_116 ?_
    refine cv_iconst (v := 0) hC dX9_readInstruction_119 cb_iconst_0 ?_
    refine cv_iast hC (cv_a48 G) dX9_readInstruction_120 (fun s6 => ?_)
    refine cv_iload_n hC 2 dX9_readInstruction_121 rfl rfl ?_
    refine cv_bipush (v := 108) hC dX9_readInstruction_122 cb_bipush_108 ?_
    refine cv_icmp_eq (tgt := 133) hC dX9_readInstruction_124 (by decide) ?_ ?_
    · exact cv_sub [1, 2] rfl (J_X9_readInstruction_b133 hC l1 s6)
    · refine cv_iload_n hC 2 dX9_readInstruction_127 rfl rfl ?_
      refine cv_bipush (v := 115) hC dX9_readInstruction_128 cb_bipush_115 ?_
      refine cv_icmp_ne (tgt := 151) hC dX9_readInstruction_130 (by decide) ?_ ?_
      · refine cv_iload_n hC 2 dX9_readInstruction_151 rfl rfl ?_
        refine cv_bipush (v := 98) hC dX9_readInstruction_152 cb_bipush_98 ?_
        refine cv_icmp_ne (tgt := 176) hC dX9_readInstruction_154 (by decide) ?_ ?_
        · refine cv_iload_n hC 2 dX9_readInstruction_176 rfl rfl ?_
          refine cv_bipush (v := 114) hC dX9_readInstruction_177 cb_bipush_114 ?_
          refine cv_icmp_eq (tgt := 198) hC dX9_readInstruction_179 (by decide) ?_ ?_
          · exact cv_sub [1, 2] rfl (J_X9_readInstruction_b198 hC l1 s6)
          · refine cv_aload_n hC 1 dX9_readInstruction_182 rfl rfl ?_
            refine cv_getr hC (fg_X9_26_10 G) dX9_readInstruction_183 ?_
            refine cv_aload_n hC 1 dX9_readInstruction_186 rfl rfl ?_
            refine cv_geti hC (fg_X9_121_10 G) dX9_readInstruction_187 ?_
            refine cv_aload_n hC 1 dX9_readInstruction_190 rfl rfl ?_
            refine cv_iconst (v := 0) hC dX9_readInstruction_191 cb_iconst_0 ?_
            refine cv_bipush (v := 7) hC dX9_readInstruction_192 cb_bipush_7 ?_
            refine cv_callVi (ob := 10) hC [.int 0, .int 7] [.int (s6.2.1 20), .ref (G.1 47)] (M_X9_digit LL G 0 7 s6) ln_X9_124 vm_X9_digit (ob_10 G) rfl rfl (Nat.le_of_ble_eq_true rfl) ⟨Nat.le_of_ble_eq_true rfl, Nat.le_of_ble_eq_true rfl⟩ ⟨Nat.le_of_ble_eq_true rfl, Nat.le_of_ble_eq_true rfl⟩ dX9_readInstruction_194 (fun v15 s14 => ?_)
            refine cv_iast hC (cv_a47 G) dX9_readInstruction_197 (fun s16 => ?_)
            exact cv_sub [1, 2] rfl (J_X9_readInstruction_b198 hC l1 s16)
        · refine cv_aload_n hC 1 dX9_readInstruction_157 rfl rfl ?_
          refine cv_getr hC (fg_X9_26_10 G) dX9_readInstruction_158 ?_
          refine cv_aload_n hC 1 dX9_readInstruction_161 rfl rfl ?_
          refine cv_geti hC (fg_X9_121_10 G) dX9_readInstruction_162 ?_
          refine cv_aload_n hC 1 dX9_readInstruction_165 rfl rfl ?_
          refine cv_iconst (v := 1) hC dX9_readInstruction_166 cb_iconst_1 ?_
          refine cv_bipush (v := 9) hC dX9_readInstruction_167 cb_bipush_9 ?_
          refine cv_callVi (ob := 10) hC [.int 1, .int 9] [.int (s6.2.1 20), .ref (G.1 47)] (M_X9_digit LL G 1 9 s6) ln_X9_124 vm_X9_digit (ob_10 G) rfl rfl (Nat.le_of_ble_eq_true rfl) ⟨Nat.le_of_ble_eq_true rfl, Nat.le_of_ble_eq_true rfl⟩ ⟨Nat.le_of_ble_eq_true rfl, Nat.le_of_ble_eq_true rfl⟩ dX9_readInstruction_169 (fun v18 s17 => ?_)
          refine cv_iast hC (cv_a47 G) dX9_readInstruction_172 (fun s19 => ?_)
          refine cv_goto (tgt := 198) hC dX9_readInstruction_173 (by decide) ?_
          exact cv_sub [1, 2] rfl (J_X9_readInstruction_b198 hC l1 s19)
      · exact cv_sub [1, 2] rfl (J_X9_readInstruction_b133 hC l1 s6)
  · refine cv_aload_n hC 1 dX9_readInstruction_75 rfl rfl ?_
    refine cv_iconst (v := 1) hC dX9_readInstruction_76 cb_iconst_1 ?_
    refine cv_putz hC (fp_X9_114_10 G) dX9_readInstruction_77 (fun s20 => ?_)
    exact cv_vret hC dX9_readInstruction_80
set_option maxRecDepth 20000 in
set_option maxHeartbeats 2000000 in
theorem J_X9_readInstruction_b65 {X : cv_X} {G : cv_G} {LL : Launch} (hC : cv_C X G LL RX9 cX9_readInstruction 3 none { frames := 2, cells := 0, slots := 0, locals := 47 }) (l1 : Int32) (σ : cv_St) : cv_J X G 3 0 0 (cv_QV X G) 65 [(0, .ref (G.1 10)), (1, .int l1)] [] σ (F_X9_readInstruction_b65 l1 σ) := by
  unfold F_X9_readInstruction_b65
  refine cv_iconst (v := 1) hC dX9_readInstruction_65 cb_iconst_1 ?_
  refine cv_goto (tgt := 70) hC dX9_readInstruction_66 (by decide) ?_
  exact cv_sub [0, 1] rfl (J_X9_readInstruction_b70 hC l1 1 σ)
set_option maxRecDepth 20000 in
set_option maxHeartbeats 2000000 in
theorem J_X9_readInstruction {X : cv_X} {G : cv_G} {LL : Launch} (hC : cv_C X G LL RX9 cX9_readInstruction 3 none { frames := 2, cells := 0, slots := 0, locals := 47 }) (σ : cv_St) : cv_J X G 3 0 0 (cv_QV X G) 0 [(0, .ref (G.1 10))] [] σ (F_X9_readInstruction σ) := by
  unfold F_X9_readInstruction
  refine cv_aload_n hC 0 dX9_readInstruction_0 rfl rfl ?_
  refine cv_callVi (ob := 10) hC [] [] (M_X9_here LL G σ) ln_X9_117 vm_X9_here (ob_10 G) rfl rfl (Nat.le_of_ble_eq_true rfl) ⟨Nat.le_of_ble_eq_true rfl, Nat.le_of_ble_eq_true rfl⟩ ⟨Nat.le_of_ble_eq_true rfl, Nat.le_of_ble_eq_true rfl⟩ dX9_readInstruction_1 (fun v2 s1 => ?_)
  refine cv_istore_n (lv' := [(1, .int v2), (0, .ref (G.1 10))]) hC dX9_readInstruction_4 rfl (by decide) rfl ?_
  refine cv_iload_n hC 0 dX9_readInstruction_5 rfl rfl ?_
  refine cv_bipush (v := 117) hC dX9_readInstruction_6 cb_bipush_117 ?_
  refine cv_icmp_eq (tgt := 65) hC dX9_readInstruction_8 (by decide) ?_ ?_
  · exact cv_sub [1, 0] rfl (J_X9_readInstruction_b65 hC v2 s1)
  · refine cv_iload_n hC 0 dX9_readInstruction_11 rfl rfl ?_
    refine cv_bipush (v := 100) hC dX9_readInstruction_12 cb_bipush_100 ?_
    refine cv_icmp_eq (tgt := 65) hC dX9_readInstruction_14 (by decide) ?_ ?_
    · exact cv_sub [1, 0] rfl (J_X9_readInstruction_b65 hC v2 s1)
    · refine cv_iload_n hC 0 dX9_readInstruction_17 rfl rfl ?_
      refine cv_bipush (v := 109) hC dX9_readInstruction_18 cb_bipush_109 ?_
      refine cv_icmp_eq (tgt := 65) hC dX9_readInstruction_20 (by decide) ?_ ?_
      · exact cv_sub [1, 0] rfl (J_X9_readInstruction_b65 hC v2 s1)
      · refine cv_iload_n hC 0 dX9_readInstruction_23 rfl rfl ?_
        refine cv_bipush (v := 43) hC dX9_readInstruction_24 cb_bipush_43 ?_
        refine cv_icmp_eq (tgt := 65) hC dX9_readInstruction_26 (by decide) ?_ ?_
        · exact cv_sub [1, 0] rfl (J_X9_readInstruction_b65 hC v2 s1)
        · refine cv_iload_n hC 0 dX9_readInstruction_29 rfl rfl ?_
          refine cv_bipush (v := 45) hC dX9_readInstruction_30 cb_bipush_45 ?_
          refine cv_icmp_eq (tgt := 65) hC dX9_readInstruction_32 (by decide) ?_ ?_
          · exact cv_sub [1, 0] rfl (J_X9_readInstruction_b65 hC v2 s1)
          · refine cv_iload_n hC 0 dX9_readInstruction_35 rfl rfl ?_
            refine cv_bipush (v := 99) hC dX9_readInstruction_36 cb_bipush_99 ?_
            refine cv_icmp_eq (tgt := 65) hC dX9_readInstruction_38 (by decide) ?_ ?_
            · exact cv_sub [1, 0] rfl (J_X9_readInstruction_b65 hC v2 s1)
            · refine cv_iload_n hC 0 dX9_readInstruction_41 rfl rfl ?_
              refine cv_bipush (v := 108) hC dX9_readInstruction_42 cb_bipush_108 ?_
              refine cv_icmp_eq (tgt := 65) hC dX9_readInstruction_44 (by decide) ?_ ?_
              · exact cv_sub [1, 0] rfl (J_X9_readInstruction_b65 hC v2 s1)
              · refine cv_iload_n hC 0 dX9_readInstruction_47 rfl rfl ?_
                refine cv_bipush (v := 115) hC dX9_readInstruction_48 cb_bipush_115 ?_
                refine cv_icmp_eq (tgt := 65) hC dX9_readInstruction_50 (by decide) ?_ ?_
                · exact cv_sub [1, 0] rfl (J_X9_readInstruction_b65 hC v2 s1)
                · refine cv_iload_n hC 0 dX9_readInstruction_53 rfl rfl ?_
                  refine cv_bipush (v := 98) hC dX9_readInstruction_54 cb_bipush_98 ?_
                  refine cv_icmp_eq (tgt := 65) hC dX9_readInstruction_56 (by decide) ?_ ?_
                  · exact cv_sub [1, 0] rfl (J_X9_readInstruction_b65 hC v2 s1)
                  · refine cv_iload_n hC 0 dX9_readInstruction_59 rfl rfl ?_
                    refine cv_bipush (v := 114) hC dX9_readInstruction_60 cb_bipush_114 ?_
                    refine cv_icmp_ne (tgt := 69) hC dX9_readInstruction_62 (by decide) ?_ ?_
                    · refine cv_iconst (v := 0) hC dX9_readInstruction_69 cb_iconst_0 ?_
                      exact cv_sub [1, 0] rfl (J_X9_readInstruction_b70 hC v2 0 s1)
                    · exact cv_sub [1, 0] rfl (J_X9_readInstruction_b65 hC v2 s1)
set_option maxRecDepth 20000 in
set_option maxHeartbeats 2000000 in
theorem M_X9_readInstruction (LL : Launch) (G : cv_G) (σ : cv_St) : cv_MV LL G yX9_readInstruction cX9_readInstruction 3 2 47 [.ref (G.1 10)] σ (F_X9_readInstruction σ) :=
  cv_mkV (by decide) (Nat.le_of_ble_eq_true rfl) (fun X hC => J_X9_readInstruction hC σ)
/-! X9_setBody -/
set_option maxRecDepth 20000 in
set_option maxHeartbeats 2000000 in
theorem I_X9_setBody_b205 {X : cv_X} {G : cv_G} {LL : Launch} (hC : cv_C X G LL RX9 cX9_setBody 4 (some .int) { frames := 3, cells := 0, slots := 0, locals := 69 }) (k205 : Int32 → Int32 → cv_St → Option (Int32 × cv_St)) (hk205 : ∀ (l1 : Int32) (l3 : Int32)  σ, cv_J X G 4 0 0 (cv_QI X G) 205 [(0, .ref (G.1 10)), (1, .int l1), (3, .int l3)] [] σ (k205 l1 l3 σ)) (l1 : Int32) (l3 : Int32) (σ : cv_St) : cv_J X G 4 0 0 (cv_QI X G) 205 [(0, .ref (G.1 10)), (1, .int l1), (3, .int l3)] [] σ (B_X9_setBody_b205 k205 l1 l3 σ) := by
  unfold B_X9_setBody_b205
  refine cv_iload_n hC 2 dX9_setBody_205 rfl rfl ?_
  refine cv_aload_n hC 0 dX9_setBody_206 rfl rfl ?_
  refine cv_geti hC (fg_X9_121_10 G) dX9_setBody_207 ?_
  refine cv_icmp_ge (tgt := 280) hC dX9_setBody_210 (by decide) ?_ ?_
  · refine cv_aload_n hC 0 dX9_setBody_280 rfl rfl ?_
    refine cv_callVv (ob := 10) hC [] [] (M_X9_changed LL G σ) ln_X9_131 vm_X9_changed (ob_10 G) rfl rfl (Nat.le_of_ble_eq_true rfl) ⟨Nat.le_of_ble_eq_true rfl, Nat.le_of_ble_eq_true rfl⟩ ⟨Nat.le_of_ble_eq_true rfl, Nat.le_of_ble_eq_true rfl⟩ dX9_setBody_281 (fun s12 => ?_)
    refine cv_aload_n hC 0 dX9_setBody_284 rfl rfl ?_
    refine cv_geti hC (fg_X9_121_10 G) dX9_setBody_285 ?_
    exact cv_iret hC dX9_setBody_288
  · refine cv_aload_n hC 0 dX9_setBody_213 rfl rfl ?_
    refine cv_getr hC (fg_X9_9_10 G) dX9_setBody_214 ?_
    refine cv_bipush (v := 8) hC dX9_setBody_217 cb_bipush_8 ?_
    refine cv_bipush (v := 14) hC dX9_setBody_219 cb_bipush_14 ?_
    refine cv_iload_n hC 1 dX9_setBody_221 rfl rfl ?_
    refine cv_imul hC dX9_setBody_222 ?_
    refine cv_iadd hC dX9_setBody_223 ?_
    refine cv_iload_n hC 2 dX9_setBody_224 rfl rfl ?_
    refine cv_iadd hC dX9_setBody_225 ?_
    refine cv_aload_n hC 0 dX9_setBody_226 rfl rfl ?_
    refine cv_getr hC (fg_X9_23_10 G) dX9_setBody_227 ?_
    refine cv_iload_n hC 2 dX9_setBody_230 rfl rfl ?_
    refine cv_iald hC (cv_a46 G) dX9_setBody_231 (fun v13 => ?_)
    refine cv_iast hC (cv_a43 G) dX9_setBody_232 (fun s14 => ?_)
    refine cv_aload_n hC 0 dX9_setBody_233 rfl rfl ?_
    refine cv_getr hC (fg_X9_9_10 G) dX9_setBody_234 ?_
    refine cv_bipush (v := 120) hC dX9_setBody_237 cb_bipush_120 ?_
    refine cv_bipush (v := 14) hC dX9_setBody_239 cb_bipush_14 ?_
    refine cv_iload_n hC 1 dX9_setBody_241 rfl rfl ?_
    refine cv_imul hC dX9_setBody_242 ?_
    refine cv_iadd hC dX9_setBody_243 ?_
    refine cv_iload_n hC 2 dX9_setBody_244 rfl rfl ?_
    refine cv_iadd hC dX9_setBody_245 ?_
    refine cv_aload_n hC 0 dX9_setBody_246 rfl rfl ?_
    refine cv_getr hC (fg_X9_26_10 G) dX9_setBody_247 ?_
    refine cv_iload_n hC 2 dX9_setBody_250 rfl rfl ?_
    refine cv_iald hC (cv_a47 G) dX9_setBody_251 (fun v15 => ?_)
    refine cv_iast hC (cv_a43 G) dX9_setBody_252 (fun s16 => ?_)
    refine cv_aload_n hC 0 dX9_setBody_253 rfl rfl ?_
    refine cv_getr hC (fg_X9_9_10 G) dX9_setBody_254 ?_
    refine cv_sipush (v := 232) hC dX9_setBody_257 cb_sipush_232 ?_
    refine cv_bipush (v := 14) hC dX9_setBody_260 cb_bipush_14 ?_
    refine cv_iload_n hC 1 dX9_setBody_262 rfl rfl ?_
    refine cv_imul hC dX9_setBody_263 ?_
    refine cv_iadd hC dX9_setBody_264 ?_
    refine cv_iload_n hC 2 dX9_setBody_265 rfl rfl ?_
    refine cv_iadd hC dX9_setBody_266 ?_
    refine cv_aload_n hC 0 dX9_setBody_267 rfl rfl ?_
    refine cv_getr hC (fg_X9_29_10 G) dX9_setBody_268 ?_
    refine cv_iload_n hC 2 dX9_setBody_271 rfl rfl ?_
    refine cv_iald hC (cv_a48 G) dX9_setBody_272 (fun v17 => ?_)
    refine cv_iast hC (cv_a43 G) dX9_setBody_273 (fun s18 => ?_)
    refine cv_iinc (lv' := [(3, .int (l3 + Int32.ofInt 1)), (0, .ref (G.1 10)), (1, .int l1)]) hC 2 dX9_setBody_274 rfl (by decide) rfl ?_
    refine cv_goto (tgt := 205) hC dX9_setBody_277 (by decide) ?_
    exact cv_sub [1, 2, 0] rfl (hk205 l1 (l3 + Int32.ofInt 1) s18)
set_option maxRecDepth 20000 in
set_option maxHeartbeats 2000000 in
theorem J_X9_setBody_b205 {X : cv_X} {G : cv_G} {LL : Launch} (hC : cv_C X G LL RX9 cX9_setBody 4 (some .int) { frames := 3, cells := 0, slots := 0, locals := 69 }) : ∀ (n : Nat) (l1 : Int32) (l3 : Int32) (σ : cv_St), cv_J X G 4 0 0 (cv_QI X G) 205 [(0, .ref (G.1 10)), (1, .int l1), (3, .int l3)] [] σ (F_X9_setBody_b205 n l1 l3 σ) := by
  intro n
  induction n with
  | zero => intro l1 l3 σ; exact cv_none
  | succ n ih => intro l1 l3 σ; exact I_X9_setBody_b205 hC _ ih l1 l3 σ
set_option maxRecDepth 20000 in
set_option maxHeartbeats 2000000 in
theorem J_X9_setBody_b181 {X : cv_X} {G : cv_G} {LL : Launch} (hC : cv_C X G LL RX9 cX9_setBody 4 (some .int) { frames := 3, cells := 0, slots := 0, locals := 69 }) (l1 : Int32) (t0 : Int32) (σ : cv_St) : cv_J X G 4 0 0 (cv_QI X G) 181 [(0, .ref (G.1 10)), (1, .int l1)] [.int t0, .ref (G.1 10)] σ (F_X9_setBody_b181 l1 t0 σ) := by
  unfold F_X9_setBody_b181
  refine cv_puti hC (fp_X9_84_10 G) dX9_setBody_181 (fun s10 => ?_)
  refine cv_aload_n hC 0 dX9_setBody_184 rfl rfl ?_
  refine cv_geti hC (fg_X9_84_10 G) dX9_setBody_185 ?_
  refine cv_if_le (tgt := 193) hC dX9_setBody_188 (by decide) ?_ ?_
  · refine cv_aload_n hC 0 dX9_setBody_193 rfl rfl ?_
    refine cv_getr hC (fg_X9_9_10 G) dX9_setBody_194 ?_
    refine cv_iload_n hC 1 dX9_setBody_197 rfl rfl ?_
    refine cv_aload_n hC 0 dX9_setBody_198 rfl rfl ?_
    refine cv_geti hC (fg_X9_121_10 G) dX9_setBody_199 ?_
    refine cv_iast hC (cv_a43 G) dX9_setBody_202 (fun s11 => ?_)
    refine cv_iconst (v := 0) hC dX9_setBody_203 cb_iconst_0 ?_
    refine cv_istore_n (lv' := [(3, .int 0), (0, .ref (G.1 10)), (1, .int l1)]) hC dX9_setBody_204 rfl (by decide) rfl ?_
    exact cv_sub [1, 2, 0] rfl (J_X9_setBody_b205 hC 1000 l1 0 s11)
  · refine cv_iconst (v := 0) hC dX9_setBody_191 cb_iconst_0 ?_
    exact cv_iret hC dX9_setBody_192
set_option maxRecDepth 20000 in
set_option maxHeartbeats 2000000 in
theorem J_X9_setBody_b152 {X : cv_X} {G : cv_G} {LL : Launch} (hC : cv_C X G LL RX9 cX9_setBody 4 (some .int) { frames := 3, cells := 0, slots := 0, locals := 69 }) (l1 : Int32) (t0 : Int32) (σ : cv_St) : cv_J X G 4 0 0 (cv_QI X G) 152 [(0, .ref (G.1 10)), (1, .int l1)] [.int t0, .ref (G.1 10)] σ (F_X9_setBody_b152 l1 t0 σ) := by
  unfold F_X9_setBody_b152
  refine cv_puti hC (fp_X9_19_10 G) dX9_setBody_152 (fun s9 => ?_)
  refine cv_aload_n hC 0 dX9_setBody_155 rfl rfl ?_
  refine cv_aload_n hC 0 dX9_setBody_156 rfl rfl ?_
  refine cv_geti hC (fg_X9_114_10 G) dX9_setBody_157 ?_
  refine cv_if_eq (tgt := 167) hC dX9_setBody_160 (by decide) ?_ ?_
  · refine cv_aload_n hC 0 dX9_setBody_167 rfl rfl ?_
    refine cv_geti hC (fg_X9_121_10 G) dX9_setBody_168 ?_
    refine cv_bipush (v := 14) hC dX9_setBody_171 cb_bipush_14 ?_
    refine cv_icmp_le (tgt := 180) hC dX9_setBody_173 (by decide) ?_ ?_
    · refine cv_iconst (v := 0) hC dX9_setBody_180 cb_iconst_0 ?_
      exact cv_sub [0, 1] rfl (J_X9_setBody_b181 hC l1 0 s9)
    · refine cv_iconst (v := 3) hC dX9_setBody_176 cb_iconst_3 ?_
      refine cv_goto (tgt := 181) hC dX9_setBody_177 (by decide) ?_
      exact cv_sub [0, 1] rfl (J_X9_setBody_b181 hC l1 3 s9)
  · refine cv_iconst (v := 2) hC dX9_setBody_163 cb_iconst_2 ?_
    refine cv_goto (tgt := 181) hC dX9_setBody_164 (by decide) ?_
    exact cv_sub [0, 1] rfl (J_X9_setBody_b181 hC l1 2 s9)
set_option maxRecDepth 20000 in
set_option maxHeartbeats 2000000 in
theorem J_X9_setBody_b128 {X : cv_X} {G : cv_G} {LL : Launch} (hC : cv_C X G LL RX9 cX9_setBody 4 (some .int) { frames := 3, cells := 0, slots := 0, locals := 69 }) (l1 : Int32) (t0 : Int32) (σ : cv_St) : cv_J X G 4 0 0 (cv_QI X G) 128 [(0, .ref (G.1 10)), (1, .int l1)] [.int t0, .ref (G.1 10)] σ (F_X9_setBody_b128 l1 t0 σ) := by
  unfold F_X9_setBody_b128
  refine cv_putz hC (fp_X9_114_10 G) dX9_setBody_128 (fun s7 => ?_)
  refine cv_aload_n hC 0 dX9_setBody_131 rfl rfl ?_
  refine cv_iconst (v := 0) hC dX9_setBody_132 cb_iconst_0 ?_
  refine cv_puti hC (fp_X9_108_10 G) dX9_setBody_133 (fun s8 => ?_)
  refine cv_aload_n hC 0 dX9_setBody_136 rfl rfl ?_
  refine cv_aload_n hC 0 dX9_setBody_137 rfl rfl ?_
  refine cv_geti hC (fg_X9_114_10 G) dX9_setBody_138 ?_
  refine cv_if_eq (tgt := 151) hC dX9_setBody_141 (by decide) ?_ ?_
  · refine cv_iconst (v := (-1)) hC dX9_setBody_151 cb_iconst_m1 ?_
    exact cv_sub [0, 1] rfl (J_X9_setBody_b152 hC l1 (-1) s8)
  · refine cv_aload_n hC 0 dX9_setBody_144 rfl rfl ?_
    refine cv_geti hC (fg_X9_111_10 G) dX9_setBody_145 ?_
    refine cv_goto (tgt := 152) hC dX9_setBody_148 (by decide) ?_
    exact cv_sub [0, 1] rfl (J_X9_setBody_b152 hC l1 (s8.2.1 18) s8)
set_option maxRecDepth 20000 in
set_option maxHeartbeats 2000000 in
theorem J_X9_setBody_b123 {X : cv_X} {G : cv_G} {LL : Launch} (hC : cv_C X G LL RX9 cX9_setBody 4 (some .int) { frames := 3, cells := 0, slots := 0, locals := 69 }) (l1 : Int32) (σ : cv_St) : cv_J X G 4 0 0 (cv_QI X G) 123 [(0, .ref (G.1 10)), (1, .int l1)] [.ref (G.1 10)] σ (F_X9_setBody_b123 l1 σ) := by
  unfold F_X9_setBody_b123
  refine cv_iconst (v := 1) hC dX9_setBody_123 cb_iconst_1 ?_
  refine cv_goto (tgt := 128) hC dX9_setBody_124 (by decide) ?_
  exact cv_sub [0, 1] rfl (J_X9_setBody_b128 hC l1 1 σ)
set_option maxRecDepth 20000 in
set_option maxHeartbeats 2000000 in
theorem J_X9_setBody_b97 {X : cv_X} {G : cv_G} {LL : Launch} (hC : cv_C X G LL RX9 cX9_setBody 4 (some .int) { frames := 3, cells := 0, slots := 0, locals := 69 }) (k53 : Int32 → Int32 → cv_St → Option (Int32 × cv_St)) (hk53 : ∀ (l1 : Int32) (l2 : Int32)  σ, cv_J X G 4 0 0 (cv_QI X G) 53 [(0, .ref (G.1 10)), (1, .int l1), (2, .int l2)] [] σ (k53 l1 l2 σ)) (l1 : Int32) (l2 : Int32) (t0 : Int32) (t1 : Int32) (σ : cv_St) : cv_J X G 4 0 0 (cv_QI X G) 97 [(0, .ref (G.1 10)), (1, .int l1), (2, .int l2)] [.int t0, .int t1, .ref (G.1 10)] σ (F_X9_setBody_b97 k53 l1 l2 t0 t1 σ) := by
  unfold F_X9_setBody_b97
  refine cv_iadd hC dX9_setBody_97 ?_
  refine cv_puti hC (fp_X9_111_10 G) dX9_setBody_98 (fun s20 => ?_)
  refine cv_goto (tgt := 53) hC dX9_setBody_101 (by decide) ?_
  exact cv_sub [0, 1, 2] rfl (hk53 l1 l2 s20)
set_option maxRecDepth 20000 in
set_option maxHeartbeats 2000000 in
theorem J_X9_setBody_b82 {X : cv_X} {G : cv_G} {LL : Launch} (hC : cv_C X G LL RX9 cX9_setBody 4 (some .int) { frames := 3, cells := 0, slots := 0, locals := 69 }) (k53 : Int32 → Int32 → cv_St → Option (Int32 × cv_St)) (hk53 : ∀ (l1 : Int32) (l2 : Int32)  σ, cv_J X G 4 0 0 (cv_QI X G) 53 [(0, .ref (G.1 10)), (1, .int l1), (2, .int l2)] [] σ (k53 l1 l2 σ)) (l1 : Int32) (t0 : Int32) (σ : cv_St) : cv_J X G 4 0 0 (cv_QI X G) 82 [(0, .ref (G.1 10)), (1, .int l1)] [.int t0] σ (F_X9_setBody_b82 k53 l1 t0 σ) := by
  unfold F_X9_setBody_b82
  refine cv_istore_n (lv' := [(2, .int t0), (0, .ref (G.1 10)), (1, .int l1)]) hC dX9_setBody_82 rfl (by decide) rfl ?_
  refine cv_aload_n hC 1 dX9_setBody_83 rfl rfl ?_
  refine cv_dup hC dX9_setBody_84 rfl ?_
  refine cv_geti hC (fg_X9_111_10 G) dX9_setBody_85 ?_
  refine cv_iload_n hC 0 dX9_setBody_88 rfl rfl ?_
  refine cv_if_eq (tgt := 96) hC dX9_setBody_89 (by decide) ?_ ?_
  · refine cv_iconst (v := 0) hC dX9_setBody_96 cb_iconst_0 ?_
    exact cv_sub [1, 2, 0] rfl (J_X9_setBody_b97 hC k53 hk53 l1 t0 0 (σ.2.1 18) σ)
  · refine cv_iconst (v := 1) hC dX9_setBody_92 cb_iconst_1 ?_
    refine cv_goto (tgt := 97) hC dX9_setBody_93 (by decide) ?_
    exact cv_sub [1, 2, 0] rfl (J_X9_setBody_b97 hC k53 hk53 l1 t0 1 (σ.2.1 18) σ)
set_option maxRecDepth 20000 in
set_option maxHeartbeats 2000000 in
theorem J_X9_setBody_b81 {X : cv_X} {G : cv_G} {LL : Launch} (hC : cv_C X G LL RX9 cX9_setBody 4 (some .int) { frames := 3, cells := 0, slots := 0, locals := 69 }) (k53 : Int32 → Int32 → cv_St → Option (Int32 × cv_St)) (hk53 : ∀ (l1 : Int32) (l2 : Int32)  σ, cv_J X G 4 0 0 (cv_QI X G) 53 [(0, .ref (G.1 10)), (1, .int l1), (2, .int l2)] [] σ (k53 l1 l2 σ)) (l1 : Int32) (σ : cv_St) : cv_J X G 4 0 0 (cv_QI X G) 81 [(0, .ref (G.1 10)), (1, .int l1)] [] σ (F_X9_setBody_b81 k53 l1 σ) := by
  unfold F_X9_setBody_b81
  refine cv_iconst (v := 0) hC dX9_setBody_81 cb_iconst_0 ?_
  exact cv_sub [0, 1] rfl (J_X9_setBody_b82 hC k53 hk53 l1 0 σ)
set_option maxRecDepth 20000 in
set_option maxHeartbeats 2000000 in
theorem I_X9_setBody_b53 {X : cv_X} {G : cv_G} {LL : Launch} (hC : cv_C X G LL RX9 cX9_setBody 4 (some .int) { frames := 3, cells := 0, slots := 0, locals := 69 }) (k53 : Int32 → Int32 → cv_St → Option (Int32 × cv_St)) (hk53 : ∀ (l1 : Int32) (l2 : Int32)  σ, cv_J X G 4 0 0 (cv_QI X G) 53 [(0, .ref (G.1 10)), (1, .int l1), (2, .int l2)] [] σ (k53 l1 l2 σ)) (l1 : Int32) (l2 : Int32) (σ : cv_St) : cv_J X G 4 0 0 (cv_QI X G) 53 [(0, .ref (G.1 10)), (1, .int l1), (2, .int l2)] [] σ (B_X9_setBody_b53 k53 l1 l2 σ) := by
  unfold B_X9_setBody_b53
  refine cv_iload_n hC 2 dX9_setBody_53 rfl rfl ?_
  refine cv_if_eq (tgt := 104) hC dX9_setBody_54 (by decide) ?_ ?_
  · refine cv_aload_n hC 0 dX9_setBody_104 rfl rfl ?_
    refine cv_aload_n hC 0 dX9_setBody_105 rfl rfl ?_
    refine cv_geti hC (fg_X9_114_10 G) dX9_setBody_106 ?_
    refine cv_if_ne (tgt := 123) hC dX9_setBody_109 (by decide) ?_ ?_
    · exact cv_sub [0, 1] rfl (J_X9_setBody_b123 hC l1 σ)
    · refine cv_aload_n hC 0 dX9_setBody_112 rfl rfl ?_
      refine cv_geti hC (fg_X9_111_10 G) dX9_setBody_113 ?_
      refine cv_aload_n hC 0 dX9_setBody_116 rfl rfl ?_
      refine cv_geti hC (fg_X9_108_10 G) dX9_setBody_117 ?_
      refine cv_icmp_ge (tgt := 127) hC dX9_setBody_120 (by decide) ?_ ?_
      · refine cv_iconst (v := 0) hC dX9_setBody_127 cb_iconst_0 ?_
        exact cv_sub [0, 1] rfl (J_X9_setBody_b128 hC l1 0 σ)
      · exact cv_sub [0, 1] rfl (J_X9_setBody_b123 hC l1 σ)
  · refine cv_aload_n hC 0 dX9_setBody_57 rfl rfl ?_
    refine cv_callVv (ob := 10) hC [] [] (M_X9_readInstruction LL G σ) ln_X9_128 vm_X9_readInstruction (ob_10 G) rfl rfl (Nat.le_of_ble_eq_true rfl) ⟨Nat.le_of_ble_eq_true rfl, Nat.le_of_ble_eq_true rfl⟩ ⟨Nat.le_of_ble_eq_true rfl, Nat.le_of_ble_eq_true rfl⟩ dX9_setBody_58 (fun s19 => ?_)
    refine cv_aload_n hC 0 dX9_setBody_61 rfl rfl ?_
    refine cv_geti hC (fg_X9_114_10 G) dX9_setBody_62 ?_
    refine cv_if_ne (tgt := 81) hC dX9_setBody_65 (by decide) ?_ ?_
    · exact cv_sub [0, 1] rfl (J_X9_setBody_b81 hC k53 hk53 l1 s19)
    · refine cv_aload_n hC 0 dX9_setBody_68 rfl rfl ?_
      refine cv_callVi (ob := 10) hC [] [] (M_X9_here LL G s19) ln_X9_117 vm_X9_here (ob_10 G) rfl rfl (Nat.le_of_ble_eq_true rfl) ⟨Nat.le_of_ble_eq_true rfl, Nat.le_of_ble_eq_true rfl⟩ ⟨Nat.le_of_ble_eq_true rfl, Nat.le_of_ble_eq_true rfl⟩ dX9_setBody_69 (fun v22 s21 => ?_)
      refine cv_bipush (v := 59) hC dX9_setBody_72 cb_bipush_59 ?_
      refine cv_icmp_ne (tgt := 81) hC dX9_setBody_74 (by decide) ?_ ?_
      · exact cv_sub [0, 1] rfl (J_X9_setBody_b81 hC k53 hk53 l1 s21)
      · refine cv_iconst (v := 1) hC dX9_setBody_77 cb_iconst_1 ?_
        refine cv_goto (tgt := 82) hC dX9_setBody_78 (by decide) ?_
        exact cv_sub [0, 1] rfl (J_X9_setBody_b82 hC k53 hk53 l1 1 s21)
set_option maxRecDepth 20000 in
set_option maxHeartbeats 2000000 in
theorem J_X9_setBody_b53 {X : cv_X} {G : cv_G} {LL : Launch} (hC : cv_C X G LL RX9 cX9_setBody 4 (some .int) { frames := 3, cells := 0, slots := 0, locals := 69 }) : ∀ (n : Nat) (l1 : Int32) (l2 : Int32) (σ : cv_St), cv_J X G 4 0 0 (cv_QI X G) 53 [(0, .ref (G.1 10)), (1, .int l1), (2, .int l2)] [] σ (F_X9_setBody_b53 n l1 l2 σ) := by
  intro n
  induction n with
  | zero => intro l1 l2 σ; exact cv_none
  | succ n ih => intro l1 l2 σ; exact I_X9_setBody_b53 hC _ ih l1 l2 σ
set_option maxRecDepth 20000 in
set_option maxHeartbeats 2000000 in
theorem J_X9_setBody_b52 {X : cv_X} {G : cv_G} {LL : Launch} (hC : cv_C X G LL RX9 cX9_setBody 4 (some .int) { frames := 3, cells := 0, slots := 0, locals := 69 }) (l1 : Int32) (t0 : Int32) (σ : cv_St) : cv_J X G 4 0 0 (cv_QI X G) 52 [(0, .ref (G.1 10)), (1, .int l1)] [.int t0] σ (F_X9_setBody_b52 l1 t0 σ) := by
  unfold F_X9_setBody_b52
  refine cv_istore_n (lv' := [(2, .int t0), (0, .ref (G.1 10)), (1, .int l1)]) hC dX9_setBody_52 rfl (by decide) rfl ?_
  exact cv_sub [1, 2, 0] rfl (J_X9_setBody_b53 hC 1000 l1 t0 σ)
set_option maxRecDepth 20000 in
set_option maxHeartbeats 2000000 in
theorem J_X9_setBody_b13 {X : cv_X} {G : cv_G} {LL : Launch} (hC : cv_C X G LL RX9 cX9_setBody 4 (some .int) { frames := 3, cells := 0, slots := 0, locals := 69 }) (l1 : Int32) (t0 : Int32) (σ : cv_St) : cv_J X G 4 0 0 (cv_QI X G) 13 [(0, .ref (G.1 10)), (1, .int l1)] [.int t0, .ref (G.1 10)] σ (F_X9_setBody_b13 l1 t0 σ) := by
  unfold F_X9_setBody_b13
  refine cv_puti hC (fp_X9_84_10 G) dX9_setBody_13 (fun s3 => ?_)
  refine cv_aload_n hC 0 dX9_setBody_16 rfl rfl ?_
  refine cv_geti hC (fg_X9_84_10 G) dX9_setBody_17 ?_
  refine cv_if_le (tgt := 25) hC dX9_setBody_20 (by decide) ?_ ?_
  · refine cv_aload_n hC 0 dX9_setBody_25 rfl rfl ?_
    refine cv_iconst (v := 0) hC dX9_setBody_26 cb_iconst_0 ?_
    refine cv_puti hC (fp_X9_111_10 G) dX9_setBody_27 (fun s4 => ?_)
    refine cv_aload_n hC 0 dX9_setBody_30 rfl rfl ?_
    refine cv_iconst (v := 0) hC dX9_setBody_31 cb_iconst_0 ?_
    refine cv_putz hC (fp_X9_114_10 G) dX9_setBody_32 (fun s5 => ?_)
    refine cv_aload_n hC 0 dX9_setBody_35 rfl rfl ?_
    refine cv_iconst (v := 0) hC dX9_setBody_36 cb_iconst_0 ?_
    refine cv_puti hC (fp_X9_121_10 G) dX9_setBody_37 (fun s6 => ?_)
    refine cv_aload_n hC 0 dX9_setBody_40 rfl rfl ?_
    refine cv_geti hC (fg_X9_108_10 G) dX9_setBody_41 ?_
    refine cv_if_le (tgt := 51) hC dX9_setBody_44 (by decide) ?_ ?_
    · refine cv_iconst (v := 0) hC dX9_setBody_51 cb_iconst_0 ?_
      exact cv_sub [0, 1] rfl (J_X9_setBody_b52 hC l1 0 s6)
    · refine cv_iconst (v := 1) hC dX9_setBody_47 cb_iconst_1 ?_
      refine cv_goto (tgt := 52) hC dX9_setBody_48 (by decide) ?_
      exact cv_sub [0, 1] rfl (J_X9_setBody_b52 hC l1 1 s6)
  · refine cv_iconst (v := 0) hC dX9_setBody_23 cb_iconst_0 ?_
    exact cv_iret hC dX9_setBody_24
set_option maxRecDepth 20000 in
set_option maxHeartbeats 2000000 in
theorem J_X9_setBody {X : cv_X} {G : cv_G} {LL : Launch} (hC : cv_C X G LL RX9 cX9_setBody 4 (some .int) { frames := 3, cells := 0, slots := 0, locals := 69 }) (l1 : Int32) (σ : cv_St) : cv_J X G 4 0 0 (cv_QI X G) 0 [(0, .ref (G.1 10)), (1, .int l1)] [] σ (F_X9_setBody l1 σ) := by
  unfold F_X9_setBody
  refine cv_aload_n hC 0 dX9_setBody_0 rfl rfl ?_
  refine cv_iload_n hC 1 dX9_setBody_1 rfl rfl ?_
  refine cv_callSi hC [.int l1] [.ref (G.1 10)] (M_X9_isFunction LL G l1 σ) ln_X9_93 vm_X9_isFunction rfl rfl (Nat.le_of_ble_eq_true rfl) ⟨Nat.le_of_ble_eq_true rfl, Nat.le_of_ble_eq_true rfl⟩ ⟨Nat.le_of_ble_eq_true rfl, Nat.le_of_ble_eq_true rfl⟩ dX9_setBody_2 (fun v2 s1 => ?_)
  refine cv_if_eq (tgt := 12) hC dX9_setBody_5 (by decide) ?_ ?_
  · refine cv_iconst (v := 1) hC dX9_setBody_12 cb_iconst_1 ?_
    exact cv_sub [0, 1] rfl (J_X9_setBody_b13 hC l1 1 s1)
  · refine cv_iconst (v := 0) hC dX9_setBody_8 cb_iconst_0 ?_
    refine cv_goto (tgt := 13) hC dX9_setBody_9 (by decide) ?_
    exact cv_sub [0, 1] rfl (J_X9_setBody_b13 hC l1 0 s1)
set_option maxRecDepth 20000 in
set_option maxHeartbeats 2000000 in
theorem M_X9_setBody (LL : Launch) (G : cv_G) (l1 : Int32) (σ : cv_St) : cv_MI LL G yX9_setBody cX9_setBody 4 (some .int) 3 69 [.ref (G.1 10), .int l1] σ (F_X9_setBody l1 σ) :=
  cv_mkI (by decide) (Nat.le_of_ble_eq_true rfl) (fun X hC => J_X9_setBody hC l1 σ)
/-! X9_faultPosition -/
set_option maxRecDepth 20000 in
set_option maxHeartbeats 2000000 in
theorem J_X9_faultPosition {X : cv_X} {G : cv_G} {LL : Launch} (hC : cv_C X G LL RX9 cX9_faultPosition 1 (some .int) { frames := 0, cells := 0, slots := 0, locals := 0 }) (σ : cv_St) : cv_J X G 1 0 0 (cv_QI X G) 0 [(0, .ref (G.1 10))] [] σ (F_X9_faultPosition σ) := by
  unfold F_X9_faultPosition
  refine cv_aload_n hC 0 dX9_faultPosition_0 rfl rfl ?_
  refine cv_iconst (v := 0) hC dX9_faultPosition_1 cb_iconst_0 ?_
  refine cv_puti hC (fp_X9_84_10 G) dX9_faultPosition_2 (fun s1 => ?_)
  refine cv_aload_n hC 0 dX9_faultPosition_5 rfl rfl ?_
  refine cv_geti hC (fg_X9_19_10 G) dX9_faultPosition_6 ?_
  exact cv_iret hC dX9_faultPosition_9
set_option maxRecDepth 20000 in
set_option maxHeartbeats 2000000 in
theorem M_X9_faultPosition (LL : Launch) (G : cv_G) (σ : cv_St) : cv_MI LL G yX9_faultPosition cX9_faultPosition 1 (some .int) 0 0 [.ref (G.1 10)] σ (F_X9_faultPosition σ) :=
  cv_mkI (by decide) (Nat.le_of_ble_eq_true rfl) (fun X hC => J_X9_faultPosition hC σ)
/-! X9_length -/
set_option maxRecDepth 20000 in
set_option maxHeartbeats 2000000 in
theorem J_X9_length_b13 {X : cv_X} {G : cv_G} {LL : Launch} (hC : cv_C X G LL RX9 cX9_length 2 (some .int) { frames := 2, cells := 0, slots := 0, locals := 45 }) (l1 : Int32) (t0 : Int32) (σ : cv_St) : cv_J X G 2 0 0 (cv_QI X G) 13 [(0, .ref (G.1 10)), (1, .int l1)] [.int t0, .ref (G.1 10)] σ (F_X9_length_b13 l1 t0 σ) := by
  unfold F_X9_length_b13
  refine cv_puti hC (fp_X9_84_10 G) dX9_length_13 (fun s3 => ?_)
  refine cv_aload_n hC 0 dX9_length_16 rfl rfl ?_
  refine cv_geti hC (fg_X9_84_10 G) dX9_length_17 ?_
  refine cv_if_le (tgt := 27) hC dX9_length_20 (by decide) ?_ ?_
  · refine cv_aload_n hC 0 dX9_length_27 rfl rfl ?_
    refine cv_getr hC (fg_X9_9_10 G) dX9_length_28 ?_
    refine cv_iload_n hC 1 dX9_length_31 rfl rfl ?_
    refine cv_iald hC (cv_a43 G) dX9_length_32 (fun v4 => ?_)
    exact cv_iret hC dX9_length_33
  · refine cv_iconst (v := 0) hC dX9_length_23 cb_iconst_0 ?_
    refine cv_goto (tgt := 33) hC dX9_length_24 (by decide) ?_
    exact cv_iret hC dX9_length_33
set_option maxRecDepth 20000 in
set_option maxHeartbeats 2000000 in
theorem J_X9_length {X : cv_X} {G : cv_G} {LL : Launch} (hC : cv_C X G LL RX9 cX9_length 2 (some .int) { frames := 2, cells := 0, slots := 0, locals := 45 }) (l1 : Int32) (σ : cv_St) : cv_J X G 2 0 0 (cv_QI X G) 0 [(0, .ref (G.1 10)), (1, .int l1)] [] σ (F_X9_length l1 σ) := by
  unfold F_X9_length
  refine cv_aload_n hC 0 dX9_length_0 rfl rfl ?_
  refine cv_iload_n hC 1 dX9_length_1 rfl rfl ?_
  refine cv_callSi hC [.int l1] [.ref (G.1 10)] (M_X9_isFunction LL G l1 σ) ln_X9_93 vm_X9_isFunction rfl rfl (Nat.le_of_ble_eq_true rfl) ⟨Nat.le_of_ble_eq_true rfl, Nat.le_of_ble_eq_true rfl⟩ ⟨Nat.le_of_ble_eq_true rfl, Nat.le_of_ble_eq_true rfl⟩ dX9_length_2 (fun v2 s1 => ?_)
  refine cv_if_eq (tgt := 12) hC dX9_length_5 (by decide) ?_ ?_
  · refine cv_iconst (v := 1) hC dX9_length_12 cb_iconst_1 ?_
    exact cv_sub [0, 1] rfl (J_X9_length_b13 hC l1 1 s1)
  · refine cv_iconst (v := 0) hC dX9_length_8 cb_iconst_0 ?_
    refine cv_goto (tgt := 13) hC dX9_length_9 (by decide) ?_
    exact cv_sub [0, 1] rfl (J_X9_length_b13 hC l1 0 s1)
set_option maxRecDepth 20000 in
set_option maxHeartbeats 2000000 in
theorem M_X9_length (LL : Launch) (G : cv_G) (l1 : Int32) (σ : cv_St) : cv_MI LL G yX9_length cX9_length 2 (some .int) 2 45 [.ref (G.1 10), .int l1] σ (F_X9_length l1 σ) :=
  cv_mkI (by decide) (Nat.le_of_ble_eq_true rfl) (fun X hC => J_X9_length hC l1 σ)
/-! X9_instruction -/
set_option maxRecDepth 20000 in
set_option maxHeartbeats 2000000 in
theorem J_X9_instruction_b15 {X : cv_X} {G : cv_G} {LL : Launch} (hC : cv_C X G LL RX9 cX9_instruction 3 (some .char) { frames := 3, cells := 0, slots := 0, locals := 67 }) (l1 : Int32) (l2 : Int32) (t0 : Int32) (σ : cv_St) : cv_J X G 3 0 0 (cv_QI X G) 15 [(0, .ref (G.1 10)), (1, .int l1), (2, .int l2)] [.int t0, .ref (G.1 10)] σ (F_X9_instruction_b15 l1 l2 t0 σ) := by
  unfold F_X9_instruction_b15
  refine cv_puti hC (fp_X9_84_10 G) dX9_instruction_15 (fun s3 => ?_)
  refine cv_aload_n hC 0 dX9_instruction_18 rfl rfl ?_
  refine cv_geti hC (fg_X9_84_10 G) dX9_instruction_19 ?_
  refine cv_if_le (tgt := 29) hC dX9_instruction_22 (by decide) ?_ ?_
  · refine cv_aload_n hC 0 dX9_instruction_29 rfl rfl ?_
    refine cv_iload_n hC 1 dX9_instruction_30 rfl rfl ?_
    refine cv_iload_n hC 2 dX9_instruction_31 rfl rfl ?_
    refine cv_callVi (ob := 10) hC [.int l1, .int l2] [] (M_X9_kind LL G l1 l2 s3) ln_X9_138 vm_X9_kind (ob_10 G) rfl rfl (Nat.le_of_ble_eq_true rfl) ⟨Nat.le_of_ble_eq_true rfl, Nat.le_of_ble_eq_true rfl⟩ ⟨Nat.le_of_ble_eq_true rfl, Nat.le_of_ble_eq_true rfl⟩ dX9_instruction_32 (fun v5 s4 => ?_)
    refine cv_i2c hC dX9_instruction_35 ?_
    exact cv_cret hC dX9_instruction_36
  · refine cv_iconst (v := 0) hC dX9_instruction_25 cb_iconst_0 ?_
    refine cv_goto (tgt := 36) hC dX9_instruction_26 (by decide) ?_
    exact cv_cret hC dX9_instruction_36
set_option maxRecDepth 20000 in
set_option maxHeartbeats 2000000 in
theorem J_X9_instruction {X : cv_X} {G : cv_G} {LL : Launch} (hC : cv_C X G LL RX9 cX9_instruction 3 (some .char) { frames := 3, cells := 0, slots := 0, locals := 67 }) (l1 : Int32) (l2 : Int32) (σ : cv_St) : cv_J X G 3 0 0 (cv_QI X G) 0 [(0, .ref (G.1 10)), (1, .int l1), (2, .int l2)] [] σ (F_X9_instruction l1 l2 σ) := by
  unfold F_X9_instruction
  refine cv_aload_n hC 0 dX9_instruction_0 rfl rfl ?_
  refine cv_aload_n hC 0 dX9_instruction_1 rfl rfl ?_
  refine cv_iload_n hC 1 dX9_instruction_2 rfl rfl ?_
  refine cv_iload_n hC 2 dX9_instruction_3 rfl rfl ?_
  refine cv_callVi (ob := 10) hC [.int l1, .int l2] [.ref (G.1 10)] (M_X9_isInstruction LL G l1 l2 σ) ln_X9_134 vm_X9_isInstruction (ob_10 G) rfl rfl (Nat.le_of_ble_eq_true rfl) ⟨Nat.le_of_ble_eq_true rfl, Nat.le_of_ble_eq_true rfl⟩ ⟨Nat.le_of_ble_eq_true rfl, Nat.le_of_ble_eq_true rfl⟩ dX9_instruction_4 (fun v2 s1 => ?_)
  refine cv_if_eq (tgt := 14) hC dX9_instruction_7 (by decide) ?_ ?_
  · refine cv_iconst (v := 1) hC dX9_instruction_14 cb_iconst_1 ?_
    exact cv_sub [0, 1, 2] rfl (J_X9_instruction_b15 hC l1 l2 1 s1)
  · refine cv_iconst (v := 0) hC dX9_instruction_10 cb_iconst_0 ?_
    refine cv_goto (tgt := 15) hC dX9_instruction_11 (by decide) ?_
    exact cv_sub [0, 1, 2] rfl (J_X9_instruction_b15 hC l1 l2 0 s1)
set_option maxRecDepth 20000 in
set_option maxHeartbeats 2000000 in
theorem M_X9_instruction (LL : Launch) (G : cv_G) (l1 : Int32) (l2 : Int32) (σ : cv_St) : cv_MI LL G yX9_instruction cX9_instruction 3 (some .char) 3 67 [.ref (G.1 10), .int l1, .int l2] σ (F_X9_instruction l1 l2 σ) :=
  cv_mkI (by decide) (Nat.le_of_ble_eq_true rfl) (fun X hC => J_X9_instruction hC l1 l2 σ)
/-! X9_operand -/
set_option maxRecDepth 20000 in
set_option maxHeartbeats 2000000 in
theorem J_X9_operand_b30 {X : cv_X} {G : cv_G} {LL : Launch} (hC : cv_C X G LL RX9 cX9_operand 3 (some .int) { frames := 3, cells := 0, slots := 0, locals := 67 }) (l1 : Int32) (l2 : Int32) (t0 : Int32) (σ : cv_St) : cv_J X G 3 0 0 (cv_QI X G) 30 [(0, .ref (G.1 10)), (1, .int l1), (2, .int l2)] [.int t0, .ref (G.1 10)] σ (F_X9_operand_b30 l1 l2 t0 σ) := by
  unfold F_X9_operand_b30
  refine cv_puti hC (fp_X9_84_10 G) dX9_operand_30 (fun s5 => ?_)
  refine cv_aload_n hC 0 dX9_operand_33 rfl rfl ?_
  refine cv_geti hC (fg_X9_84_10 G) dX9_operand_34 ?_
  refine cv_if_le (tgt := 42) hC dX9_operand_37 (by decide) ?_ ?_
  · refine cv_aload_n hC 0 dX9_operand_42 rfl rfl ?_
    refine cv_iload_n hC 1 dX9_operand_43 rfl rfl ?_
    refine cv_iload_n hC 2 dX9_operand_44 rfl rfl ?_
    refine cv_callVi (ob := 10) hC [.int l1, .int l2] [] (M_X9_kind LL G l1 l2 s5) ln_X9_138 vm_X9_kind (ob_10 G) rfl rfl (Nat.le_of_ble_eq_true rfl) ⟨Nat.le_of_ble_eq_true rfl, Nat.le_of_ble_eq_true rfl⟩ ⟨Nat.le_of_ble_eq_true rfl, Nat.le_of_ble_eq_true rfl⟩ dX9_operand_45 (fun v7 s6 => ?_)
    refine cv_bipush (v := 109) hC dX9_operand_48 cb_bipush_109 ?_
    refine cv_icmp_ne (tgt := 72) hC dX9_operand_50 (by decide) ?_ ?_
    · refine cv_aload_n hC 0 dX9_operand_72 rfl rfl ?_
      refine cv_iload_n hC 1 dX9_operand_73 rfl rfl ?_
      refine cv_iload_n hC 2 dX9_operand_74 rfl rfl ?_
      refine cv_callVi (ob := 10) hC [.int l1, .int l2] [] (M_X9_first LL G l1 l2 s6) ln_X9_141 vm_X9_first (ob_10 G) rfl rfl (Nat.le_of_ble_eq_true rfl) ⟨Nat.le_of_ble_eq_true rfl, Nat.le_of_ble_eq_true rfl⟩ ⟨Nat.le_of_ble_eq_true rfl, Nat.le_of_ble_eq_true rfl⟩ dX9_operand_75 (fun v9 s8 => ?_)
      exact cv_iret hC dX9_operand_78
    · refine cv_bipush (v := 10) hC dX9_operand_53 cb_bipush_10 ?_
      refine cv_aload_n hC 0 dX9_operand_55 rfl rfl ?_
      refine cv_iload_n hC 1 dX9_operand_56 rfl rfl ?_
      refine cv_iload_n hC 2 dX9_operand_57 rfl rfl ?_
      refine cv_callVi (ob := 10) hC [.int l1, .int l2] [.int 10] (M_X9_first LL G l1 l2 s6) ln_X9_141 vm_X9_first (ob_10 G) rfl rfl (Nat.le_of_ble_eq_true rfl) ⟨Nat.le_of_ble_eq_true rfl, Nat.le_of_ble_eq_true rfl⟩ ⟨Nat.le_of_ble_eq_true rfl, Nat.le_of_ble_eq_true rfl⟩ dX9_operand_58 (fun v11 s10 => ?_)
      refine cv_imul hC dX9_operand_61 ?_
      refine cv_aload_n hC 0 dX9_operand_62 rfl rfl ?_
      refine cv_iload_n hC 1 dX9_operand_63 rfl rfl ?_
      refine cv_iload_n hC 2 dX9_operand_64 rfl rfl ?_
      refine cv_callVi (ob := 10) hC [.int l1, .int l2] [.int (10 * v11)] (M_X9_second LL G l1 l2 s10) ln_X9_144 vm_X9_second (ob_10 G) rfl rfl (Nat.le_of_ble_eq_true rfl) ⟨Nat.le_of_ble_eq_true rfl, Nat.le_of_ble_eq_true rfl⟩ ⟨Nat.le_of_ble_eq_true rfl, Nat.le_of_ble_eq_true rfl⟩ dX9_operand_65 (fun v13 s12 => ?_)
      refine cv_iadd hC dX9_operand_68 ?_
      refine cv_goto (tgt := 78) hC dX9_operand_69 (by decide) ?_
      exact cv_iret hC dX9_operand_78
  · refine cv_iconst (v := 0) hC dX9_operand_40 cb_iconst_0 ?_
    exact cv_iret hC dX9_operand_41
set_option maxRecDepth 20000 in
set_option maxHeartbeats 2000000 in
theorem J_X9_operand {X : cv_X} {G : cv_G} {LL : Launch} (hC : cv_C X G LL RX9 cX9_operand 3 (some .int) { frames := 3, cells := 0, slots := 0, locals := 67 }) (l1 : Int32) (l2 : Int32) (σ : cv_St) : cv_J X G 3 0 0 (cv_QI X G) 0 [(0, .ref (G.1 10)), (1, .int l1), (2, .int l2)] [] σ (F_X9_operand l1 l2 σ) := by
  unfold F_X9_operand
  refine cv_aload_n hC 0 dX9_operand_0 rfl rfl ?_
  refine cv_aload_n hC 0 dX9_operand_1 rfl rfl ?_
  refine cv_iload_n hC 1 dX9_operand_2 rfl rfl ?_
  refine cv_iload_n hC 2 dX9_operand_3 rfl rfl ?_
  refine cv_callVi (ob := 10) hC [.int l1, .int l2] [.ref (G.1 10)] (M_X9_isInstruction LL G l1 l2 σ) ln_X9_134 vm_X9_isInstruction (ob_10 G) rfl rfl (Nat.le_of_ble_eq_true rfl) ⟨Nat.le_of_ble_eq_true rfl, Nat.le_of_ble_eq_true rfl⟩ ⟨Nat.le_of_ble_eq_true rfl, Nat.le_of_ble_eq_true rfl⟩ dX9_operand_4 (fun v2 s1 => ?_)
  refine cv_if_ne (tgt := 14) hC dX9_operand_7 (by decide) ?_ ?_
  · refine cv_aload_n hC 0 dX9_operand_14 rfl rfl ?_
    refine cv_iload_n hC 1 dX9_operand_15 rfl rfl ?_
    refine cv_iload_n hC 2 dX9_operand_16 rfl rfl ?_
    refine cv_callVi (ob := 10) hC [.int l1, .int l2] [.ref (G.1 10)] (M_X9_kind LL G l1 l2 s1) ln_X9_138 vm_X9_kind (ob_10 G) rfl rfl (Nat.le_of_ble_eq_true rfl) ⟨Nat.le_of_ble_eq_true rfl, Nat.le_of_ble_eq_true rfl⟩ ⟨Nat.le_of_ble_eq_true rfl, Nat.le_of_ble_eq_true rfl⟩ dX9_operand_17 (fun v4 s3 => ?_)
    refine cv_bipush (v := 114) hC dX9_operand_20 cb_bipush_114 ?_
    refine cv_icmp_ne (tgt := 29) hC dX9_operand_22 (by decide) ?_ ?_
    · refine cv_iconst (v := 0) hC dX9_operand_29 cb_iconst_0 ?_
      exact cv_sub [0, 1, 2] rfl (J_X9_operand_b30 hC l1 l2 0 s3)
    · refine cv_iconst (v := 2) hC dX9_operand_25 cb_iconst_2 ?_
      refine cv_goto (tgt := 30) hC dX9_operand_26 (by decide) ?_
      exact cv_sub [0, 1, 2] rfl (J_X9_operand_b30 hC l1 l2 2 s3)
  · refine cv_iconst (v := 1) hC dX9_operand_10 cb_iconst_1 ?_
    refine cv_goto (tgt := 30) hC dX9_operand_11 (by decide) ?_
    exact cv_sub [0, 1, 2] rfl (J_X9_operand_b30 hC l1 l2 1 s1)
set_option maxRecDepth 20000 in
set_option maxHeartbeats 2000000 in
theorem M_X9_operand (LL : Launch) (G : cv_G) (l1 : Int32) (l2 : Int32) (σ : cv_St) : cv_MI LL G yX9_operand cX9_operand 3 (some .int) 3 67 [.ref (G.1 10), .int l1, .int l2] σ (F_X9_operand l1 l2 σ) :=
  cv_mkI (by decide) (Nat.le_of_ble_eq_true rfl) (fun X hC => J_X9_operand hC l1 l2 σ)
/-! X9_removeInstruction -/
set_option maxRecDepth 20000 in
set_option maxHeartbeats 2000000 in
theorem I_X9_removeInstruction_b40 {X : cv_X} {G : cv_G} {LL : Launch} (hC : cv_C X G LL RX9 cX9_removeInstruction 5 (some .int) { frames := 3, cells := 0, slots := 0, locals := 67 }) (k30 : Int32 → Int32 → Int32 → cv_St → Option (Int32 × cv_St)) (hk30 : ∀ (l1 : Int32) (l2 : Int32) (l3 : Int32)  σ, cv_J X G 5 0 0 (cv_QI X G) 30 [(0, .ref (G.1 10)), (1, .int l1), (2, .int l2), (3, .int l3)] [] σ (k30 l1 l2 l3 σ)) (k40 : Int32 → Int32 → Int32 → Int32 → cv_St → Option (Int32 × cv_St)) (hk40 : ∀ (l1 : Int32) (l2 : Int32) (l3 : Int32) (l4 : Int32)  σ, cv_J X G 5 0 0 (cv_QI X G) 40 [(0, .ref (G.1 10)), (1, .int l1), (2, .int l2), (3, .int l3), (4, .int l4)] [] σ (k40 l1 l2 l3 l4 σ)) (l1 : Int32) (l2 : Int32) (l3 : Int32) (l4 : Int32) (σ : cv_St) : cv_J X G 5 0 0 (cv_QI X G) 40 [(0, .ref (G.1 10)), (1, .int l1), (2, .int l2), (3, .int l3), (4, .int l4)] [] σ (B_X9_removeInstruction_b40 k30 k40 l1 l2 l3 l4 σ) := by
  unfold B_X9_removeInstruction_b40
  refine cv_iload hC 4 dX9_removeInstruction_40 rfl ?_
  refine cv_aload_n hC 0 dX9_removeInstruction_42 rfl rfl ?_
  refine cv_getr hC (fg_X9_9_10 G) dX9_removeInstruction_43 ?_
  refine cv_iload_n hC 1 dX9_removeInstruction_46 rfl rfl ?_
  refine cv_iald hC (cv_a43 G) dX9_removeInstruction_47 (fun v8 => ?_)
  refine cv_iconst (v := 1) hC dX9_removeInstruction_48 cb_iconst_1 ?_
  refine cv_isub hC dX9_removeInstruction_49 ?_
  refine cv_icmp_ge (tgt := 89) hC dX9_removeInstruction_50 (by decide) ?_ ?_
  · refine cv_iinc (lv' := [(3, .int (l3 + Int32.ofInt 112)), (0, .ref (G.1 10)), (1, .int l1), (2, .int l2), (4, .int l4)]) hC 3 dX9_removeInstruction_89 rfl (by decide) rfl ?_
    refine cv_goto (tgt := 30) hC dX9_removeInstruction_92 (by decide) ?_
    exact cv_sub [1, 2, 3, 0] rfl (hk30 l1 l2 (l3 + Int32.ofInt 112) σ)
  · refine cv_aload_n hC 0 dX9_removeInstruction_53 rfl rfl ?_
    refine cv_getr hC (fg_X9_9_10 G) dX9_removeInstruction_54 ?_
    refine cv_iload_n hC 3 dX9_removeInstruction_57 rfl rfl ?_
    refine cv_bipush (v := 14) hC dX9_removeInstruction_58 cb_bipush_14 ?_
    refine cv_iload_n hC 1 dX9_removeInstruction_60 rfl rfl ?_
    refine cv_imul hC dX9_removeInstruction_61 ?_
    refine cv_iadd hC dX9_removeInstruction_62 ?_
    refine cv_iload hC 4 dX9_removeInstruction_63 rfl ?_
    refine cv_iadd hC dX9_removeInstruction_65 ?_
    refine cv_aload_n hC 0 dX9_removeInstruction_66 rfl rfl ?_
    refine cv_getr hC (fg_X9_9_10 G) dX9_removeInstruction_67 ?_
    refine cv_iload_n hC 3 dX9_removeInstruction_70 rfl rfl ?_
    refine cv_bipush (v := 14) hC dX9_removeInstruction_71 cb_bipush_14 ?_
    refine cv_iload_n hC 1 dX9_removeInstruction_73 rfl rfl ?_
    refine cv_imul hC dX9_removeInstruction_74 ?_
    refine cv_iadd hC dX9_removeInstruction_75 ?_
    refine cv_iload hC 4 dX9_removeInstruction_76 rfl ?_
    refine cv_iadd hC dX9_removeInstruction_78 ?_
    refine cv_iconst (v := 1) hC dX9_removeInstruction_79 cb_iconst_1 ?_
    refine cv_iadd hC dX9_removeInstruction_80 ?_
    refine cv_iald hC (cv_a43 G) dX9_removeInstruction_81 (fun v9 => ?_)
    refine cv_iast hC (cv_a43 G) dX9_removeInstruction_82 (fun s10 => ?_)
    refine cv_iinc (lv' := [(4, .int (l4 + Int32.ofInt 1)), (0, .ref (G.1 10)), (1, .int l1), (2, .int l2), (3, .int l3)]) hC 4 dX9_removeInstruction_83 rfl (by decide) rfl ?_
    refine cv_goto (tgt := 40) hC dX9_removeInstruction_86 (by decide) ?_
    exact cv_sub [1, 2, 3, 4, 0] rfl (hk40 l1 l2 l3 (l4 + Int32.ofInt 1) s10)
set_option maxRecDepth 20000 in
set_option maxHeartbeats 2000000 in
theorem J_X9_removeInstruction_b40 {X : cv_X} {G : cv_G} {LL : Launch} (hC : cv_C X G LL RX9 cX9_removeInstruction 5 (some .int) { frames := 3, cells := 0, slots := 0, locals := 67 }) (k30 : Int32 → Int32 → Int32 → cv_St → Option (Int32 × cv_St)) (hk30 : ∀ (l1 : Int32) (l2 : Int32) (l3 : Int32)  σ, cv_J X G 5 0 0 (cv_QI X G) 30 [(0, .ref (G.1 10)), (1, .int l1), (2, .int l2), (3, .int l3)] [] σ (k30 l1 l2 l3 σ)) : ∀ (n : Nat) (l1 : Int32) (l2 : Int32) (l3 : Int32) (l4 : Int32) (σ : cv_St), cv_J X G 5 0 0 (cv_QI X G) 40 [(0, .ref (G.1 10)), (1, .int l1), (2, .int l2), (3, .int l3), (4, .int l4)] [] σ (F_X9_removeInstruction_b40 k30 n l1 l2 l3 l4 σ) := by
  intro n
  induction n with
  | zero => intro l1 l2 l3 l4 σ; exact cv_none
  | succ n ih => intro l1 l2 l3 l4 σ; exact I_X9_removeInstruction_b40 hC k30 hk30 _ ih l1 l2 l3 l4 σ
set_option maxRecDepth 20000 in
set_option maxHeartbeats 2000000 in
theorem I_X9_removeInstruction_b30 {X : cv_X} {G : cv_G} {LL : Launch} (hC : cv_C X G LL RX9 cX9_removeInstruction 5 (some .int) { frames := 3, cells := 0, slots := 0, locals := 67 }) (k30 : Int32 → Int32 → Int32 → cv_St → Option (Int32 × cv_St)) (hk30 : ∀ (l1 : Int32) (l2 : Int32) (l3 : Int32)  σ, cv_J X G 5 0 0 (cv_QI X G) 30 [(0, .ref (G.1 10)), (1, .int l1), (2, .int l2), (3, .int l3)] [] σ (k30 l1 l2 l3 σ)) (l1 : Int32) (l2 : Int32) (l3 : Int32) (σ : cv_St) : cv_J X G 5 0 0 (cv_QI X G) 30 [(0, .ref (G.1 10)), (1, .int l1), (2, .int l2), (3, .int l3)] [] σ (B_X9_removeInstruction_b30 k30 l1 l2 l3 σ) := by
  unfold B_X9_removeInstruction_b30
  refine cv_iload_n hC 3 dX9_removeInstruction_30 rfl rfl ?_
  refine cv_sipush (v := 344) hC dX9_removeInstruction_31 cb_sipush_344 ?_
  refine cv_icmp_ge (tgt := 95) hC dX9_removeInstruction_34 (by decide) ?_ ?_
  · refine cv_aload_n hC 0 dX9_removeInstruction_95 rfl rfl ?_
    refine cv_getr hC (fg_X9_9_10 G) dX9_removeInstruction_96 ?_
    refine cv_iload_n hC 1 dX9_removeInstruction_99 rfl rfl ?_
    refine cv_dup2 hC dX9_removeInstruction_100 rfl rfl ?_
    refine cv_iald hC (cv_a43 G) dX9_removeInstruction_101 (fun v4 => ?_)
    refine cv_iconst (v := 1) hC dX9_removeInstruction_102 cb_iconst_1 ?_
    refine cv_isub hC dX9_removeInstruction_103 ?_
    refine cv_iast hC (cv_a43 G) dX9_removeInstruction_104 (fun s5 => ?_)
    refine cv_aload_n hC 0 dX9_removeInstruction_105 rfl rfl ?_
    refine cv_callVv (ob := 10) hC [] [] (M_X9_changed LL G s5) ln_X9_131 vm_X9_changed (ob_10 G) rfl rfl (Nat.le_of_ble_eq_true rfl) ⟨Nat.le_of_ble_eq_true rfl, Nat.le_of_ble_eq_true rfl⟩ ⟨Nat.le_of_ble_eq_true rfl, Nat.le_of_ble_eq_true rfl⟩ dX9_removeInstruction_106 (fun s6 => ?_)
    refine cv_aload_n hC 0 dX9_removeInstruction_109 rfl rfl ?_
    refine cv_getr hC (fg_X9_9_10 G) dX9_removeInstruction_110 ?_
    refine cv_iload_n hC 1 dX9_removeInstruction_113 rfl rfl ?_
    refine cv_iald hC (cv_a43 G) dX9_removeInstruction_114 (fun v7 => ?_)
    exact cv_iret hC dX9_removeInstruction_115
  · refine cv_iload_n hC 2 dX9_removeInstruction_37 rfl rfl ?_
    refine cv_istore (lv' := [(4, .int l2), (0, .ref (G.1 10)), (1, .int l1), (2, .int l2), (3, .int l3)]) hC dX9_removeInstruction_38 (by decide) rfl ?_
    exact cv_sub [1, 2, 3, 4, 0] rfl (J_X9_removeInstruction_b40 hC k30 hk30 1000 l1 l2 l3 l2 σ)
set_option maxRecDepth 20000 in
set_option maxHeartbeats 2000000 in
theorem J_X9_removeInstruction_b30 {X : cv_X} {G : cv_G} {LL : Launch} (hC : cv_C X G LL RX9 cX9_removeInstruction 5 (some .int) { frames := 3, cells := 0, slots := 0, locals := 67 }) : ∀ (n : Nat) (l1 : Int32) (l2 : Int32) (l3 : Int32) (σ : cv_St), cv_J X G 5 0 0 (cv_QI X G) 30 [(0, .ref (G.1 10)), (1, .int l1), (2, .int l2), (3, .int l3)] [] σ (F_X9_removeInstruction_b30 n l1 l2 l3 σ) := by
  intro n
  induction n with
  | zero => intro l1 l2 l3 σ; exact cv_none
  | succ n ih => intro l1 l2 l3 σ; exact I_X9_removeInstruction_b30 hC _ ih l1 l2 l3 σ
set_option maxRecDepth 20000 in
set_option maxHeartbeats 2000000 in
theorem J_X9_removeInstruction_b15 {X : cv_X} {G : cv_G} {LL : Launch} (hC : cv_C X G LL RX9 cX9_removeInstruction 5 (some .int) { frames := 3, cells := 0, slots := 0, locals := 67 }) (l1 : Int32) (l2 : Int32) (t0 : Int32) (σ : cv_St) : cv_J X G 5 0 0 (cv_QI X G) 15 [(0, .ref (G.1 10)), (1, .int l1), (2, .int l2)] [.int t0, .ref (G.1 10)] σ (F_X9_removeInstruction_b15 l1 l2 t0 σ) := by
  unfold F_X9_removeInstruction_b15
  refine cv_puti hC (fp_X9_84_10 G) dX9_removeInstruction_15 (fun s3 => ?_)
  refine cv_aload_n hC 0 dX9_removeInstruction_18 rfl rfl ?_
  refine cv_geti hC (fg_X9_84_10 G) dX9_removeInstruction_19 ?_
  refine cv_if_le (tgt := 27) hC dX9_removeInstruction_22 (by decide) ?_ ?_
  · refine cv_bipush (v := 8) hC dX9_removeInstruction_27 cb_bipush_8 ?_
    refine cv_istore_n (lv' := [(3, .int 8), (0, .ref (G.1 10)), (1, .int l1), (2, .int l2)]) hC dX9_removeInstruction_29 rfl (by decide) rfl ?_
    exact cv_sub [1, 2, 3, 0] rfl (J_X9_removeInstruction_b30 hC 1000 l1 l2 8 s3)
  · refine cv_iconst (v := 0) hC dX9_removeInstruction_25 cb_iconst_0 ?_
    exact cv_iret hC dX9_removeInstruction_26
set_option maxRecDepth 20000 in
set_option maxHeartbeats 2000000 in
theorem J_X9_removeInstruction {X : cv_X} {G : cv_G} {LL : Launch} (hC : cv_C X G LL RX9 cX9_removeInstruction 5 (some .int) { frames := 3, cells := 0, slots := 0, locals := 67 }) (l1 : Int32) (l2 : Int32) (σ : cv_St) : cv_J X G 5 0 0 (cv_QI X G) 0 [(0, .ref (G.1 10)), (1, .int l1), (2, .int l2)] [] σ (F_X9_removeInstruction l1 l2 σ) := by
  unfold F_X9_removeInstruction
  refine cv_aload_n hC 0 dX9_removeInstruction_0 rfl rfl ?_
  refine cv_aload_n hC 0 dX9_removeInstruction_1 rfl rfl ?_
  refine cv_iload_n hC 1 dX9_removeInstruction_2 rfl rfl ?_
  refine cv_iload_n hC 2 dX9_removeInstruction_3 rfl rfl ?_
  refine cv_callVi (ob := 10) hC [.int l1, .int l2] [.ref (G.1 10)] (M_X9_isInstruction LL G l1 l2 σ) ln_X9_134 vm_X9_isInstruction (ob_10 G) rfl rfl (Nat.le_of_ble_eq_true rfl) ⟨Nat.le_of_ble_eq_true rfl, Nat.le_of_ble_eq_true rfl⟩ ⟨Nat.le_of_ble_eq_true rfl, Nat.le_of_ble_eq_true rfl⟩ dX9_removeInstruction_4 (fun v2 s1 => ?_)
  refine cv_if_eq (tgt := 14) hC dX9_removeInstruction_7 (by decide) ?_ ?_
  · refine cv_iconst (v := 1) hC dX9_removeInstruction_14 cb_iconst_1 ?_
    exact cv_sub [0, 1, 2] rfl (J_X9_removeInstruction_b15 hC l1 l2 1 s1)
  · refine cv_iconst (v := 0) hC dX9_removeInstruction_10 cb_iconst_0 ?_
    refine cv_goto (tgt := 15) hC dX9_removeInstruction_11 (by decide) ?_
    exact cv_sub [0, 1, 2] rfl (J_X9_removeInstruction_b15 hC l1 l2 0 s1)
set_option maxRecDepth 20000 in
set_option maxHeartbeats 2000000 in
theorem M_X9_removeInstruction (LL : Launch) (G : cv_G) (l1 : Int32) (l2 : Int32) (σ : cv_St) : cv_MI LL G yX9_removeInstruction cX9_removeInstruction 5 (some .int) 3 67 [.ref (G.1 10), .int l1, .int l2] σ (F_X9_removeInstruction l1 l2 σ) :=
  cv_mkI (by decide) (Nat.le_of_ble_eq_true rfl) (fun X hC => J_X9_removeInstruction hC l1 l2 σ)
/-! X9_next -/
set_option maxRecDepth 20000 in
set_option maxHeartbeats 2000000 in
theorem J_X9_next_b52 {X : cv_X} {G : cv_G} {LL : Launch} (hC : cv_C X G LL RX9 cX9_next 5 (some .int) { frames := 1, cells := 0, slots := 0, locals := 22 }) (l1 : Int32) (t0 : Int32) (σ : cv_St) : cv_J X G 5 0 0 (cv_QI X G) 52 [(0, .ref (G.1 10)), (1, .int l1)] [.int t0] σ (F_X9_next_b52 l1 t0 σ) := by
  unfold F_X9_next_b52
  refine cv_istore (lv' := [(4, .int t0), (0, .ref (G.1 10)), (1, .int l1)]) hC dX9_next_52 (by decide) rfl ?_
  refine cv_iload hC 0 dX9_next_54 rfl ?_
  refine cv_aload_n hC 1 dX9_next_56 rfl rfl ?_
  refine cv_getr hC (fg_X9_9_10 G) dX9_next_57 ?_
  refine cv_iload_n hC 2 dX9_next_60 rfl rfl ?_
  refine cv_iald hC (cv_a43 G) dX9_next_61 (fun v5 => ?_)
  refine cv_mmin hC ln_X9_147 sw_min.1 sw_min.2.1 sw_min.2.2 ⟨Nat.le_of_ble_eq_true rfl, Nat.le_of_ble_eq_true rfl⟩ ⟨Nat.le_of_ble_eq_true rfl, Nat.le_of_ble_eq_true rfl⟩ dX9_next_62 ?_
  exact cv_iret hC dX9_next_65
set_option maxRecDepth 20000 in
set_option maxHeartbeats 2000000 in
theorem J_X9_next_b49 {X : cv_X} {G : cv_G} {LL : Launch} (hC : cv_C X G LL RX9 cX9_next 5 (some .int) { frames := 1, cells := 0, slots := 0, locals := 22 }) (l1 : Int32) (l2 : Int32) (σ : cv_St) : cv_J X G 5 0 0 (cv_QI X G) 49 [(0, .ref (G.1 10)), (1, .int l1), (2, .int l2)] [] σ (F_X9_next_b49 l1 l2 σ) := by
  unfold F_X9_next_b49
  refine cv_iload_n hC 2 dX9_next_49 rfl rfl ?_
  refine cv_iconst (v := 1) hC dX9_next_50 cb_iconst_1 ?_
  refine cv_iadd hC dX9_next_51 ?_
  exact cv_sub [0, 1] rfl (J_X9_next_b52 hC l1 (l2 + 1) σ)
set_option maxRecDepth 20000 in
set_option maxHeartbeats 2000000 in
theorem J_X9_next {X : cv_X} {G : cv_G} {LL : Launch} (hC : cv_C X G LL RX9 cX9_next 5 (some .int) { frames := 1, cells := 0, slots := 0, locals := 22 }) (l1 : Int32) (l2 : Int32) (l3 : Int32) (σ : cv_St) : cv_J X G 5 0 0 (cv_QI X G) 0 [(0, .ref (G.1 10)), (1, .int l1), (2, .int l2), (3, .int l3)] [] σ (F_X9_next l1 l2 l3 σ) := by
  unfold F_X9_next
  refine cv_aload_n hC 0 dX9_next_0 rfl rfl ?_
  refine cv_iload_n hC 1 dX9_next_1 rfl rfl ?_
  refine cv_iload_n hC 2 dX9_next_2 rfl rfl ?_
  refine cv_callVi (ob := 10) hC [.int l1, .int l2] [] (M_X9_kind LL G l1 l2 σ) ln_X9_138 vm_X9_kind (ob_10 G) rfl rfl (Nat.le_of_ble_eq_true rfl) ⟨Nat.le_of_ble_eq_true rfl, Nat.le_of_ble_eq_true rfl⟩ ⟨Nat.le_of_ble_eq_true rfl, Nat.le_of_ble_eq_true rfl⟩ dX9_next_3 (fun v2 s1 => ?_)
  refine cv_bipush (v := 114) hC dX9_next_6 cb_bipush_114 ?_
  refine cv_icmp_ne (tgt := 20) hC dX9_next_8 (by decide) ?_ ?_
  · refine cv_aload_n hC 0 dX9_next_20 rfl rfl ?_
    refine cv_iload_n hC 1 dX9_next_21 rfl rfl ?_
    refine cv_iload_n hC 2 dX9_next_22 rfl rfl ?_
    refine cv_callVi (ob := 10) hC [.int l1, .int l2] [] (M_X9_kind LL G l1 l2 s1) ln_X9_138 vm_X9_kind (ob_10 G) rfl rfl (Nat.le_of_ble_eq_true rfl) ⟨Nat.le_of_ble_eq_true rfl, Nat.le_of_ble_eq_true rfl⟩ ⟨Nat.le_of_ble_eq_true rfl, Nat.le_of_ble_eq_true rfl⟩ dX9_next_23 (fun v4 s3 => ?_)
    refine cv_bipush (v := 98) hC dX9_next_26 cb_bipush_98 ?_
    refine cv_icmp_ne (tgt := 49) hC dX9_next_28 (by decide) ?_ ?_
    · exact cv_sub [0, 1, 2] rfl (J_X9_next_b49 hC l1 l2 s3)
    · refine cv_iload_n hC 3 dX9_next_31 rfl rfl ?_
      refine cv_iconst (v := 1) hC dX9_next_32 cb_iconst_1 ?_
      refine cv_icmp_ne (tgt := 49) hC dX9_next_33 (by decide) ?_ ?_
      · exact cv_sub [0, 1, 2] rfl (J_X9_next_b49 hC l1 l2 s3)
      · refine cv_iload_n hC 2 dX9_next_36 rfl rfl ?_
        refine cv_iconst (v := 1) hC dX9_next_37 cb_iconst_1 ?_
        refine cv_iadd hC dX9_next_38 ?_
        refine cv_aload_n hC 0 dX9_next_39 rfl rfl ?_
        refine cv_iload_n hC 1 dX9_next_40 rfl rfl ?_
        refine cv_iload_n hC 2 dX9_next_41 rfl rfl ?_
        refine cv_callVi (ob := 10) hC [.int l1, .int l2] [.int (l2 + 1)] (M_X9_first LL G l1 l2 s3) ln_X9_141 vm_X9_first (ob_10 G) rfl rfl (Nat.le_of_ble_eq_true rfl) ⟨Nat.le_of_ble_eq_true rfl, Nat.le_of_ble_eq_true rfl⟩ ⟨Nat.le_of_ble_eq_true rfl, Nat.le_of_ble_eq_true rfl⟩ dX9_next_42 (fun v7 s6 => ?_)
        refine cv_iadd hC dX9_next_45 ?_
        refine cv_goto (tgt := 52) hC dX9_next_46 (by decide) ?_
        exact cv_sub [0, 1] rfl (J_X9_next_b52 hC l1 ((l2 + 1) + v7) s6)
  · refine cv_aload_n hC 0 dX9_next_11 rfl rfl ?_
    refine cv_getr hC (fg_X9_9_10 G) dX9_next_12 ?_
    refine cv_iload_n hC 1 dX9_next_15 rfl rfl ?_
    refine cv_iald hC (cv_a43 G) dX9_next_16 (fun v8 => ?_)
    refine cv_goto (tgt := 52) hC dX9_next_17 (by decide) ?_
    exact cv_sub [0, 1] rfl (J_X9_next_b52 hC l1 v8 s1)
set_option maxRecDepth 20000 in
set_option maxHeartbeats 2000000 in
theorem M_X9_next (LL : Launch) (G : cv_G) (l1 : Int32) (l2 : Int32) (l3 : Int32) (σ : cv_St) : cv_MI LL G yX9_next cX9_next 5 (some .int) 1 22 [.ref (G.1 10), .int l1, .int l2, .int l3] σ (F_X9_next l1 l2 l3 σ) :=
  cv_mkI (by decide) (Nat.le_of_ble_eq_true rfl) (fun X hC => J_X9_next hC l1 l2 l3 σ)
/-! X9_reached -/
set_option maxRecDepth 20000 in
set_option maxHeartbeats 2000000 in
theorem J_X9_reached {X : cv_X} {G : cv_G} {LL : Launch} (hC : cv_C X G LL RX9 cX9_reached 3 (some .boolean) { frames := 0, cells := 0, slots := 0, locals := 0 }) (l1 : Int32) (l2 : Int32) (σ : cv_St) : cv_J X G 3 0 0 (cv_QI X G) 0 [(0, .ref (G.1 10)), (1, .int l1), (2, .int l2)] [] σ (F_X9_reached l1 l2 σ) := by
  unfold F_X9_reached
  refine cv_aload_n hC 0 dX9_reached_0 rfl rfl ?_
  refine cv_getr hC (fg_X9_32_10 G) dX9_reached_1 ?_
  refine cv_bipush (v := 15) hC dX9_reached_4 cb_bipush_15 ?_
  refine cv_iload_n hC 1 dX9_reached_6 rfl rfl ?_
  refine cv_imul hC dX9_reached_7 ?_
  refine cv_iload_n hC 2 dX9_reached_8 rfl rfl ?_
  refine cv_iadd hC dX9_reached_9 ?_
  refine cv_zald hC (cv_a49 G) dX9_reached_10 (fun v1 => ?_)
  exact cv_zret hC dX9_reached_11
set_option maxRecDepth 20000 in
set_option maxHeartbeats 2000000 in
theorem M_X9_reached (LL : Launch) (G : cv_G) (l1 : Int32) (l2 : Int32) (σ : cv_St) : cv_MI LL G yX9_reached cX9_reached 3 (some .boolean) 0 0 [.ref (G.1 10), .int l1, .int l2] σ (F_X9_reached l1 l2 σ) :=
  cv_mkI (by decide) (Nat.le_of_ble_eq_true rfl) (fun X hC => J_X9_reached hC l1 l2 σ)
/-! X9_findReached -/
set_option maxRecDepth 20000 in
set_option maxHeartbeats 2000000 in
theorem J_X9_findReached_b86 {X : cv_X} {G : cv_G} {LL : Launch} (hC : cv_C X G LL RX9 cX9_findReached 4 none { frames := 2, cells := 0, slots := 0, locals := 46 }) (k36 : Int32 → Int32 → cv_St → Option (cv_St)) (hk36 : ∀ (l1 : Int32) (l2 : Int32)  σ, cv_J X G 4 0 0 (cv_QV X G) 36 [(0, .ref (G.1 10)), (1, .int l1), (2, .int l2)] [] σ (k36 l1 l2 σ)) (l1 : Int32) (l2 : Int32) (σ : cv_St) : cv_J X G 4 0 0 (cv_QV X G) 86 [(0, .ref (G.1 10)), (1, .int l1), (2, .int l2)] [] σ (F_X9_findReached_b86 k36 l1 l2 σ) := by
  unfold F_X9_findReached_b86
  refine cv_iinc (lv' := [(2, .int (l2 + Int32.ofInt 1)), (0, .ref (G.1 10)), (1, .int l1)]) hC 2 dX9_findReached_86 rfl (by decide) rfl ?_
  refine cv_goto (tgt := 36) hC dX9_findReached_89 (by decide) ?_
  exact cv_sub [1, 2, 0] rfl (hk36 l1 (l2 + Int32.ofInt 1) σ)
set_option maxRecDepth 20000 in
set_option maxHeartbeats 2000000 in
theorem I_X9_findReached_b48 {X : cv_X} {G : cv_G} {LL : Launch} (hC : cv_C X G LL RX9 cX9_findReached 4 none { frames := 2, cells := 0, slots := 0, locals := 46 }) (k36 : Int32 → Int32 → cv_St → Option (cv_St)) (hk36 : ∀ (l1 : Int32) (l2 : Int32)  σ, cv_J X G 4 0 0 (cv_QV X G) 36 [(0, .ref (G.1 10)), (1, .int l1), (2, .int l2)] [] σ (k36 l1 l2 σ)) (k48 : Int32 → Int32 → Int32 → cv_St → Option (cv_St)) (hk48 : ∀ (l1 : Int32) (l2 : Int32) (l3 : Int32)  σ, cv_J X G 4 0 0 (cv_QV X G) 48 [(0, .ref (G.1 10)), (1, .int l1), (2, .int l2), (3, .int l3)] [] σ (k48 l1 l2 l3 σ)) (l1 : Int32) (l2 : Int32) (l3 : Int32) (σ : cv_St) : cv_J X G 4 0 0 (cv_QV X G) 48 [(0, .ref (G.1 10)), (1, .int l1), (2, .int l2), (3, .int l3)] [] σ (B_X9_findReached_b48 k36 k48 l1 l2 l3 σ) := by
  unfold B_X9_findReached_b48
  refine cv_iload_n hC 3 dX9_findReached_48 rfl rfl ?_
  refine cv_iconst (v := 2) hC dX9_findReached_49 cb_iconst_2 ?_
  refine cv_icmp_ge (tgt := 86) hC dX9_findReached_50 (by decide) ?_ ?_
  · exact cv_sub [0, 1, 2] rfl (J_X9_findReached_b86 hC k36 hk36 l1 l2 σ)
  · refine cv_aload_n hC 0 dX9_findReached_53 rfl rfl ?_
    refine cv_iload_n hC 1 dX9_findReached_54 rfl rfl ?_
    refine cv_iload_n hC 2 dX9_findReached_55 rfl rfl ?_
    refine cv_callVi (ob := 10) hC [.int l1, .int l2] [] (M_X9_reached LL G l1 l2 σ) ln_X9_152 vm_X9_reached (ob_10 G) rfl rfl (Nat.le_of_ble_eq_true rfl) ⟨Nat.le_of_ble_eq_true rfl, Nat.le_of_ble_eq_true rfl⟩ ⟨Nat.le_of_ble_eq_true rfl, Nat.le_of_ble_eq_true rfl⟩ dX9_findReached_56 (fun v3 s2 => ?_)
    refine cv_if_eq (tgt := 86) hC dX9_findReached_59 (by decide) ?_ ?_
    · exact cv_sub [0, 1, 2] rfl (J_X9_findReached_b86 hC k36 hk36 l1 l2 s2)
    · refine cv_aload_n hC 0 dX9_findReached_62 rfl rfl ?_
      refine cv_getr hC (fg_X9_32_10 G) dX9_findReached_63 ?_
      refine cv_bipush (v := 15) hC dX9_findReached_66 cb_bipush_15 ?_
      refine cv_iload_n hC 1 dX9_findReached_68 rfl rfl ?_
      refine cv_imul hC dX9_findReached_69 ?_
      refine cv_aload_n hC 0 dX9_findReached_70 rfl rfl ?_
      refine cv_iload_n hC 1 dX9_findReached_71 rfl rfl ?_
      refine cv_iload_n hC 2 dX9_findReached_72 rfl rfl ?_
      refine cv_iload_n hC 3 dX9_findReached_73 rfl rfl ?_
      refine cv_callVi (ob := 10) hC [.int l1, .int l2, .int l3] [.int (15 * l1), .ref (G.1 49)] (M_X9_next LL G l1 l2 l3 s2) ln_X9_155 vm_X9_next (ob_10 G) rfl rfl (Nat.le_of_ble_eq_true rfl) ⟨Nat.le_of_ble_eq_true rfl, Nat.le_of_ble_eq_true rfl⟩ ⟨Nat.le_of_ble_eq_true rfl, Nat.le_of_ble_eq_true rfl⟩ dX9_findReached_74 (fun v5 s4 => ?_)
      refine cv_iadd hC dX9_findReached_77 ?_
      refine cv_iconst (v := 1) hC dX9_findReached_78 cb_iconst_1 ?_
      refine cv_zast hC (cv_a49 G) dX9_findReached_79 (fun s6 => ?_)
      refine cv_iinc (lv' := [(3, .int (l3 + Int32.ofInt 1)), (0, .ref (G.1 10)), (1, .int l1), (2, .int l2)]) hC 3 dX9_findReached_80 rfl (by decide) rfl ?_
      refine cv_goto (tgt := 48) hC dX9_findReached_83 (by decide) ?_
      exact cv_sub [1, 2, 3, 0] rfl (hk48 l1 l2 (l3 + Int32.ofInt 1) s6)
set_option maxRecDepth 20000 in
set_option maxHeartbeats 2000000 in
theorem J_X9_findReached_b48 {X : cv_X} {G : cv_G} {LL : Launch} (hC : cv_C X G LL RX9 cX9_findReached 4 none { frames := 2, cells := 0, slots := 0, locals := 46 }) (k36 : Int32 → Int32 → cv_St → Option (cv_St)) (hk36 : ∀ (l1 : Int32) (l2 : Int32)  σ, cv_J X G 4 0 0 (cv_QV X G) 36 [(0, .ref (G.1 10)), (1, .int l1), (2, .int l2)] [] σ (k36 l1 l2 σ)) : ∀ (n : Nat) (l1 : Int32) (l2 : Int32) (l3 : Int32) (σ : cv_St), cv_J X G 4 0 0 (cv_QV X G) 48 [(0, .ref (G.1 10)), (1, .int l1), (2, .int l2), (3, .int l3)] [] σ (F_X9_findReached_b48 k36 n l1 l2 l3 σ) := by
  intro n
  induction n with
  | zero => intro l1 l2 l3 σ; exact cv_none
  | succ n ih => intro l1 l2 l3 σ; exact I_X9_findReached_b48 hC k36 hk36 _ ih l1 l2 l3 σ
set_option maxRecDepth 20000 in
set_option maxHeartbeats 2000000 in
theorem I_X9_findReached_b36 {X : cv_X} {G : cv_G} {LL : Launch} (hC : cv_C X G LL RX9 cX9_findReached 4 none { frames := 2, cells := 0, slots := 0, locals := 46 }) (k36 : Int32 → Int32 → cv_St → Option (cv_St)) (hk36 : ∀ (l1 : Int32) (l2 : Int32)  σ, cv_J X G 4 0 0 (cv_QV X G) 36 [(0, .ref (G.1 10)), (1, .int l1), (2, .int l2)] [] σ (k36 l1 l2 σ)) (l1 : Int32) (l2 : Int32) (σ : cv_St) : cv_J X G 4 0 0 (cv_QV X G) 36 [(0, .ref (G.1 10)), (1, .int l1), (2, .int l2)] [] σ (B_X9_findReached_b36 k36 l1 l2 σ) := by
  unfold B_X9_findReached_b36
  refine cv_iload_n hC 2 dX9_findReached_36 rfl rfl ?_
  refine cv_aload_n hC 0 dX9_findReached_37 rfl rfl ?_
  refine cv_getr hC (fg_X9_9_10 G) dX9_findReached_38 ?_
  refine cv_iload_n hC 1 dX9_findReached_41 rfl rfl ?_
  refine cv_iald hC (cv_a43 G) dX9_findReached_42 (fun v1 => ?_)
  refine cv_icmp_ge (tgt := 92) hC dX9_findReached_43 (by decide) ?_ ?_
  · exact cv_vret hC dX9_findReached_92
  · refine cv_iconst (v := 0) hC dX9_findReached_46 cb_iconst_0 ?_
    refine cv_istore_n (lv' := [(3, .int 0), (0, .ref (G.1 10)), (1, .int l1), (2, .int l2)]) hC dX9_findReached_47 rfl (by decide) rfl ?_
    exact cv_sub [1, 2, 3, 0] rfl (J_X9_findReached_b48 hC k36 hk36 1000 l1 l2 0 σ)
set_option maxRecDepth 20000 in
set_option maxHeartbeats 2000000 in
theorem J_X9_findReached_b36 {X : cv_X} {G : cv_G} {LL : Launch} (hC : cv_C X G LL RX9 cX9_findReached 4 none { frames := 2, cells := 0, slots := 0, locals := 46 }) : ∀ (n : Nat) (l1 : Int32) (l2 : Int32) (σ : cv_St), cv_J X G 4 0 0 (cv_QV X G) 36 [(0, .ref (G.1 10)), (1, .int l1), (2, .int l2)] [] σ (F_X9_findReached_b36 n l1 l2 σ) := by
  intro n
  induction n with
  | zero => intro l1 l2 σ; exact cv_none
  | succ n ih => intro l1 l2 σ; exact I_X9_findReached_b36 hC _ ih l1 l2 σ
set_option maxRecDepth 20000 in
set_option maxHeartbeats 2000000 in
theorem J_X9_findReached_b27 {X : cv_X} {G : cv_G} {LL : Launch} (hC : cv_C X G LL RX9 cX9_findReached 4 none { frames := 2, cells := 0, slots := 0, locals := 46 }) (k2 : Int32 → Int32 → cv_St → Option (cv_St)) (hk2 : ∀ (l1 : Int32) (l2 : Int32)  σ, cv_J X G 4 0 0 (cv_QV X G) 2 [(0, .ref (G.1 10)), (1, .int l1), (2, .int l2)] [] σ (k2 l1 l2 σ)) (l1 : Int32) (l2 : Int32) (t0 : Int32) (t1 : Int32) (σ : cv_St) : cv_J X G 4 0 0 (cv_QV X G) 27 [(0, .ref (G.1 10)), (1, .int l1), (2, .int l2)] [.int t0, .int t1, .ref (G.1 49)] σ (F_X9_findReached_b27 k2 l1 l2 t0 t1 σ) := by
  unfold F_X9_findReached_b27
  refine cv_zast hC (cv_a49 G) dX9_findReached_27 (fun s7 => ?_)
  refine cv_iinc (lv' := [(2, .int (l2 + Int32.ofInt 1)), (0, .ref (G.1 10)), (1, .int l1)]) hC 2 dX9_findReached_28 rfl (by decide) rfl ?_
  refine cv_goto (tgt := 2) hC dX9_findReached_31 (by decide) ?_
  exact cv_sub [1, 2, 0] rfl (hk2 l1 (l2 + Int32.ofInt 1) s7)
set_option maxRecDepth 20000 in
set_option maxHeartbeats 2000000 in
theorem I_X9_findReached_b2 {X : cv_X} {G : cv_G} {LL : Launch} (hC : cv_C X G LL RX9 cX9_findReached 4 none { frames := 2, cells := 0, slots := 0, locals := 46 }) (k2 : Int32 → Int32 → cv_St → Option (cv_St)) (hk2 : ∀ (l1 : Int32) (l2 : Int32)  σ, cv_J X G 4 0 0 (cv_QV X G) 2 [(0, .ref (G.1 10)), (1, .int l1), (2, .int l2)] [] σ (k2 l1 l2 σ)) (l1 : Int32) (l2 : Int32) (σ : cv_St) : cv_J X G 4 0 0 (cv_QV X G) 2 [(0, .ref (G.1 10)), (1, .int l1), (2, .int l2)] [] σ (B_X9_findReached_b2 k2 l1 l2 σ) := by
  unfold B_X9_findReached_b2
  refine cv_iload_n hC 2 dX9_findReached_2 rfl rfl ?_
  refine cv_bipush (v := 15) hC dX9_findReached_3 cb_bipush_15 ?_
  refine cv_icmp_ge (tgt := 34) hC dX9_findReached_5 (by decide) ?_ ?_
  · refine cv_iconst (v := 0) hC dX9_findReached_34 cb_iconst_0 ?_
    refine cv_istore_n (lv' := [(2, .int 0), (0, .ref (G.1 10)), (1, .int l1)]) hC dX9_findReached_35 rfl (by decide) rfl ?_
    exact cv_sub [1, 2, 0] rfl (J_X9_findReached_b36 hC 1000 l1 0 σ)
  · refine cv_aload_n hC 0 dX9_findReached_8 rfl rfl ?_
    refine cv_getr hC (fg_X9_32_10 G) dX9_findReached_9 ?_
    refine cv_bipush (v := 15) hC dX9_findReached_12 cb_bipush_15 ?_
    refine cv_iload_n hC 1 dX9_findReached_14 rfl rfl ?_
    refine cv_imul hC dX9_findReached_15 ?_
    refine cv_iload_n hC 2 dX9_findReached_16 rfl rfl ?_
    refine cv_iadd hC dX9_findReached_17 ?_
    refine cv_iload_n hC 2 dX9_findReached_18 rfl rfl ?_
    refine cv_if_ne (tgt := 26) hC dX9_findReached_19 (by decide) ?_ ?_
    · refine cv_iconst (v := 0) hC dX9_findReached_26 cb_iconst_0 ?_
      exact cv_sub [0, 1, 2] rfl (J_X9_findReached_b27 hC k2 hk2 l1 l2 0 ((15 * l1) + l2) σ)
    · refine cv_iconst (v := 1) hC dX9_findReached_22 cb_iconst_1 ?_
      refine cv_goto (tgt := 27) hC dX9_findReached_23 (by decide) ?_
      exact cv_sub [0, 1, 2] rfl (J_X9_findReached_b27 hC k2 hk2 l1 l2 1 ((15 * l1) + l2) σ)
set_option maxRecDepth 20000 in
set_option maxHeartbeats 2000000 in
theorem J_X9_findReached_b2 {X : cv_X} {G : cv_G} {LL : Launch} (hC : cv_C X G LL RX9 cX9_findReached 4 none { frames := 2, cells := 0, slots := 0, locals := 46 }) : ∀ (n : Nat) (l1 : Int32) (l2 : Int32) (σ : cv_St), cv_J X G 4 0 0 (cv_QV X G) 2 [(0, .ref (G.1 10)), (1, .int l1), (2, .int l2)] [] σ (F_X9_findReached_b2 n l1 l2 σ) := by
  intro n
  induction n with
  | zero => intro l1 l2 σ; exact cv_none
  | succ n ih => intro l1 l2 σ; exact I_X9_findReached_b2 hC _ ih l1 l2 σ
set_option maxRecDepth 20000 in
set_option maxHeartbeats 2000000 in
theorem J_X9_findReached {X : cv_X} {G : cv_G} {LL : Launch} (hC : cv_C X G LL RX9 cX9_findReached 4 none { frames := 2, cells := 0, slots := 0, locals := 46 }) (l1 : Int32) (σ : cv_St) : cv_J X G 4 0 0 (cv_QV X G) 0 [(0, .ref (G.1 10)), (1, .int l1)] [] σ (F_X9_findReached l1 σ) := by
  unfold F_X9_findReached
  refine cv_iconst (v := 0) hC dX9_findReached_0 cb_iconst_0 ?_
  refine cv_istore_n (lv' := [(2, .int 0), (0, .ref (G.1 10)), (1, .int l1)]) hC dX9_findReached_1 rfl (by decide) rfl ?_
  exact cv_sub [1, 2, 0] rfl (J_X9_findReached_b2 hC 1000 l1 0 σ)
set_option maxRecDepth 20000 in
set_option maxHeartbeats 2000000 in
theorem M_X9_findReached (LL : Launch) (G : cv_G) (l1 : Int32) (σ : cv_St) : cv_MV LL G yX9_findReached cX9_findReached 4 2 46 [.ref (G.1 10), .int l1] σ (F_X9_findReached l1 σ) :=
  cv_mkV (by decide) (Nat.le_of_ble_eq_true rfl) (fun X hC => J_X9_findReached hC l1 σ)
/-! X9_comes -/
set_option maxRecDepth 20000 in
set_option maxHeartbeats 2000000 in
theorem J_X9_comes_b90 {X : cv_X} {G : cv_G} {LL : Launch} (hC : cv_C X G LL RX9 cX9_comes 5 (some .boolean) { frames := 0, cells := 0, slots := 0, locals := 0 }) (k23 : Int32 → Int32 → Int32 → cv_St → Option (Int32 × cv_St)) (hk23 : ∀ (l1 : Int32) (l2 : Int32) (l3 : Int32)  σ, cv_J X G 5 0 0 (cv_QI X G) 23 [(0, .ref (G.1 10)), (1, .int l1), (2, .int l2), (3, .int l3)] [] σ (k23 l1 l2 l3 σ)) (l1 : Int32) (l2 : Int32) (l3 : Int32) (t0 : Int32) (t1 : Int32) (σ : cv_St) : cv_J X G 5 0 0 (cv_QI X G) 90 [(0, .ref (G.1 10)), (1, .int l1), (2, .int l2), (3, .int l3)] [.int t0, .int t1, .ref (G.1 53)] σ (F_X9_comes_b90 k23 l1 l2 l3 t0 t1 σ) := by
  unfold F_X9_comes_b90
  refine cv_iast hC (cv_a53 G) dX9_comes_90 (fun s4 => ?_)
  refine cv_iinc (lv' := [(3, .int (l3 + Int32.ofInt 1)), (0, .ref (G.1 10)), (1, .int l1), (2, .int l2)]) hC 3 dX9_comes_91 rfl (by decide) rfl ?_
  refine cv_goto (tgt := 23) hC dX9_comes_94 (by decide) ?_
  exact cv_sub [1, 2, 3, 0] rfl (hk23 l1 l2 (l3 + Int32.ofInt 1) s4)
set_option maxRecDepth 20000 in
set_option maxHeartbeats 2000000 in
theorem J_X9_comes_b63 {X : cv_X} {G : cv_G} {LL : Launch} (hC : cv_C X G LL RX9 cX9_comes 5 (some .boolean) { frames := 0, cells := 0, slots := 0, locals := 0 }) (k23 : Int32 → Int32 → Int32 → cv_St → Option (Int32 × cv_St)) (hk23 : ∀ (l1 : Int32) (l2 : Int32) (l3 : Int32)  σ, cv_J X G 5 0 0 (cv_QI X G) 23 [(0, .ref (G.1 10)), (1, .int l1), (2, .int l2), (3, .int l3)] [] σ (k23 l1 l2 l3 σ)) (l1 : Int32) (l2 : Int32) (l3 : Int32) (t0 : Int32) (σ : cv_St) : cv_J X G 5 0 0 (cv_QI X G) 63 [(0, .ref (G.1 10)), (1, .int l1), (2, .int l2), (3, .int l3)] [.int t0] σ (F_X9_comes_b63 k23 l1 l2 l3 t0 σ) := by
  unfold F_X9_comes_b63
  refine cv_istore (lv' := [(4, .int t0), (0, .ref (G.1 10)), (1, .int l1), (2, .int l2), (3, .int l3)]) hC dX9_comes_63 (by decide) rfl ?_
  refine cv_aload_n hC 1 dX9_comes_65 rfl rfl ?_
  refine cv_getr hC (fg_X9_45_10 G) dX9_comes_66 ?_
  refine cv_bipush (v := 14) hC dX9_comes_69 cb_bipush_14 ?_
  refine cv_iload_n hC 2 dX9_comes_71 rfl rfl ?_
  refine cv_imul hC dX9_comes_72 ?_
  refine cv_iload_n hC 4 dX9_comes_73 rfl rfl ?_
  refine cv_iadd hC dX9_comes_74 ?_
  refine cv_iload hC 0 dX9_comes_75 rfl ?_
  refine cv_if_eq (tgt := 89) hC dX9_comes_77 (by decide) ?_ ?_
  · refine cv_iconst (v := (-1)) hC dX9_comes_89 cb_iconst_m1 ?_
    exact cv_sub [1, 2, 3, 4] rfl (J_X9_comes_b90 hC k23 hk23 l1 l2 l3 (-1) ((14 * l1) + l3) σ)
  · refine cv_aload_n hC 1 dX9_comes_80 rfl rfl ?_
    refine cv_getr hC (fg_X9_48_10 G) dX9_comes_81 ?_
    refine cv_iload_n hC 4 dX9_comes_84 rfl rfl ?_
    refine cv_iald hC (cv_a54 G) dX9_comes_85 (fun v5 => ?_)
    refine cv_goto (tgt := 90) hC dX9_comes_86 (by decide) ?_
    exact cv_sub [1, 2, 3, 4] rfl (J_X9_comes_b90 hC k23 hk23 l1 l2 l3 v5 ((14 * l1) + l3) σ)
set_option maxRecDepth 20000 in
set_option maxHeartbeats 2000000 in
theorem J_X9_comes_b58 {X : cv_X} {G : cv_G} {LL : Launch} (hC : cv_C X G LL RX9 cX9_comes 5 (some .boolean) { frames := 0, cells := 0, slots := 0, locals := 0 }) (k23 : Int32 → Int32 → Int32 → cv_St → Option (Int32 × cv_St)) (hk23 : ∀ (l1 : Int32) (l2 : Int32) (l3 : Int32)  σ, cv_J X G 5 0 0 (cv_QI X G) 23 [(0, .ref (G.1 10)), (1, .int l1), (2, .int l2), (3, .int l3)] [] σ (k23 l1 l2 l3 σ)) (l1 : Int32) (l2 : Int32) (l3 : Int32) (σ : cv_St) : cv_J X G 5 0 0 (cv_QI X G) 58 [(0, .ref (G.1 10)), (1, .int l1), (2, .int l2), (3, .int l3)] [] σ (F_X9_comes_b58 k23 l1 l2 l3 σ) := by
  unfold F_X9_comes_b58
  refine cv_iconst (v := 1) hC dX9_comes_58 cb_iconst_1 ?_
  refine cv_goto (tgt := 63) hC dX9_comes_59 (by decide) ?_
  exact cv_sub [0, 1, 2, 3] rfl (J_X9_comes_b63 hC k23 hk23 l1 l2 l3 1 σ)
set_option maxRecDepth 20000 in
set_option maxHeartbeats 2000000 in
theorem I_X9_comes_b23 {X : cv_X} {G : cv_G} {LL : Launch} (hC : cv_C X G LL RX9 cX9_comes 5 (some .boolean) { frames := 0, cells := 0, slots := 0, locals := 0 }) (k23 : Int32 → Int32 → Int32 → cv_St → Option (Int32 × cv_St)) (hk23 : ∀ (l1 : Int32) (l2 : Int32) (l3 : Int32)  σ, cv_J X G 5 0 0 (cv_QI X G) 23 [(0, .ref (G.1 10)), (1, .int l1), (2, .int l2), (3, .int l3)] [] σ (k23 l1 l2 l3 σ)) (l1 : Int32) (l2 : Int32) (l3 : Int32) (σ : cv_St) : cv_J X G 5 0 0 (cv_QI X G) 23 [(0, .ref (G.1 10)), (1, .int l1), (2, .int l2), (3, .int l3)] [] σ (B_X9_comes_b23 k23 l1 l2 l3 σ) := by
  unfold B_X9_comes_b23
  refine cv_iload_n hC 3 dX9_comes_23 rfl rfl ?_
  refine cv_bipush (v := 14) hC dX9_comes_24 cb_bipush_14 ?_
  refine cv_icmp_ge (tgt := 97) hC dX9_comes_26 (by decide) ?_ ?_
  · refine cv_aload_n hC 0 dX9_comes_97 rfl rfl ?_
    refine cv_getr hC (fg_X9_42_10 G) dX9_comes_98 ?_
    refine cv_iload_n hC 1 dX9_comes_101 rfl rfl ?_
    refine cv_iload_n hC 2 dX9_comes_102 rfl rfl ?_
    refine cv_iast hC (cv_a52 G) dX9_comes_103 (fun s2 => ?_)
    refine cv_iconst (v := 1) hC dX9_comes_104 cb_iconst_1 ?_
    exact cv_zret hC dX9_comes_105
  · refine cv_aload_n hC 0 dX9_comes_29 rfl rfl ?_
    refine cv_getr hC (fg_X9_42_10 G) dX9_comes_30 ?_
    refine cv_iload_n hC 1 dX9_comes_33 rfl rfl ?_
    refine cv_iald hC (cv_a52 G) dX9_comes_34 (fun v3 => ?_)
    refine cv_if_lt (tgt := 58) hC dX9_comes_35 (by decide) ?_ ?_
    · exact cv_sub [0, 1, 2, 3] rfl (J_X9_comes_b58 hC k23 hk23 l1 l2 l3 σ)
    · refine cv_aload_n hC 0 dX9_comes_38 rfl rfl ?_
      refine cv_getr hC (fg_X9_45_10 G) dX9_comes_39 ?_
      refine cv_bipush (v := 14) hC dX9_comes_42 cb_bipush_14 ?_
      refine cv_iload_n hC 1 dX9_comes_44 rfl rfl ?_
      refine cv_imul hC dX9_comes_45 ?_
      refine cv_iload_n hC 3 dX9_comes_46 rfl rfl ?_
      refine cv_iadd hC dX9_comes_47 ?_
      refine cv_iald hC (cv_a53 G) dX9_comes_48 (fun v6 => ?_)
      refine cv_aload_n hC 0 dX9_comes_49 rfl rfl ?_
      refine cv_getr hC (fg_X9_48_10 G) dX9_comes_50 ?_
      refine cv_iload_n hC 3 dX9_comes_53 rfl rfl ?_
      refine cv_iald hC (cv_a54 G) dX9_comes_54 (fun v7 => ?_)
      refine cv_icmp_ne (tgt := 62) hC dX9_comes_55 (by decide) ?_ ?_
      · refine cv_iconst (v := 0) hC dX9_comes_62 cb_iconst_0 ?_
        exact cv_sub [0, 1, 2, 3] rfl (J_X9_comes_b63 hC k23 hk23 l1 l2 l3 0 σ)
      · exact cv_sub [0, 1, 2, 3] rfl (J_X9_comes_b58 hC k23 hk23 l1 l2 l3 σ)
set_option maxRecDepth 20000 in
set_option maxHeartbeats 2000000 in
theorem J_X9_comes_b23 {X : cv_X} {G : cv_G} {LL : Launch} (hC : cv_C X G LL RX9 cX9_comes 5 (some .boolean) { frames := 0, cells := 0, slots := 0, locals := 0 }) : ∀ (n : Nat) (l1 : Int32) (l2 : Int32) (l3 : Int32) (σ : cv_St), cv_J X G 5 0 0 (cv_QI X G) 23 [(0, .ref (G.1 10)), (1, .int l1), (2, .int l2), (3, .int l3)] [] σ (F_X9_comes_b23 n l1 l2 l3 σ) := by
  intro n
  induction n with
  | zero => intro l1 l2 l3 σ; exact cv_none
  | succ n ih => intro l1 l2 l3 σ; exact I_X9_comes_b23 hC _ ih l1 l2 l3 σ
set_option maxRecDepth 20000 in
set_option maxHeartbeats 2000000 in
theorem J_X9_comes_b21 {X : cv_X} {G : cv_G} {LL : Launch} (hC : cv_C X G LL RX9 cX9_comes 5 (some .boolean) { frames := 0, cells := 0, slots := 0, locals := 0 }) (l1 : Int32) (l2 : Int32) (σ : cv_St) : cv_J X G 5 0 0 (cv_QI X G) 21 [(0, .ref (G.1 10)), (1, .int l1), (2, .int l2)] [] σ (F_X9_comes_b21 l1 l2 σ) := by
  unfold F_X9_comes_b21
  refine cv_iconst (v := 0) hC dX9_comes_21 cb_iconst_0 ?_
  refine cv_istore_n (lv' := [(3, .int 0), (0, .ref (G.1 10)), (1, .int l1), (2, .int l2)]) hC dX9_comes_22 rfl (by decide) rfl ?_
  exact cv_sub [1, 2, 3, 0] rfl (J_X9_comes_b23 hC 1000 l1 l2 0 σ)
set_option maxRecDepth 20000 in
set_option maxHeartbeats 2000000 in
theorem J_X9_comes {X : cv_X} {G : cv_G} {LL : Launch} (hC : cv_C X G LL RX9 cX9_comes 5 (some .boolean) { frames := 0, cells := 0, slots := 0, locals := 0 }) (l1 : Int32) (l2 : Int32) (σ : cv_St) : cv_J X G 5 0 0 (cv_QI X G) 0 [(0, .ref (G.1 10)), (1, .int l1), (2, .int l2)] [] σ (F_X9_comes l1 l2 σ) := by
  unfold F_X9_comes
  refine cv_aload_n hC 0 dX9_comes_0 rfl rfl ?_
  refine cv_getr hC (fg_X9_42_10 G) dX9_comes_1 ?_
  refine cv_iload_n hC 1 dX9_comes_4 rfl rfl ?_
  refine cv_iald hC (cv_a52 G) dX9_comes_5 (fun v1 => ?_)
  refine cv_if_lt (tgt := 21) hC dX9_comes_6 (by decide) ?_ ?_
  · exact cv_sub [0, 1, 2] rfl (J_X9_comes_b21 hC l1 l2 σ)
  · refine cv_aload_n hC 0 dX9_comes_9 rfl rfl ?_
    refine cv_getr hC (fg_X9_42_10 G) dX9_comes_10 ?_
    refine cv_iload_n hC 1 dX9_comes_13 rfl rfl ?_
    refine cv_iald hC (cv_a52 G) dX9_comes_14 (fun v8 => ?_)
    refine cv_iload_n hC 2 dX9_comes_15 rfl rfl ?_
    refine cv_icmp_eq (tgt := 21) hC dX9_comes_16 (by decide) ?_ ?_
    · exact cv_sub [0, 1, 2] rfl (J_X9_comes_b21 hC l1 l2 σ)
    · refine cv_iconst (v := 0) hC dX9_comes_19 cb_iconst_0 ?_
      exact cv_zret hC dX9_comes_20
set_option maxRecDepth 20000 in
set_option maxHeartbeats 2000000 in
theorem M_X9_comes (LL : Launch) (G : cv_G) (l1 : Int32) (l2 : Int32) (σ : cv_St) : cv_MI LL G yX9_comes cX9_comes 5 (some .boolean) 0 0 [.ref (G.1 10), .int l1, .int l2] σ (F_X9_comes l1 l2 σ) :=
  cv_mkI (by decide) (Nat.le_of_ble_eq_true rfl) (fun X hC => J_X9_comes hC l1 l2 σ)
/-! X9_does -/
set_option maxRecDepth 20000 in
set_option maxHeartbeats 2000000 in
theorem J_X9_does_b116 {X : cv_X} {G : cv_G} {LL : Launch} (hC : cv_C X G LL RX9 cX9_does 6 (some .int) { frames := 1, cells := 0, slots := 0, locals := 22 }) (l3 : Int32) (σ : cv_St) : cv_J X G 6 0 0 (cv_QI X G) 116 [(3, .int l3)] [] σ (F_X9_does_b116 l3 σ) := by
  unfold F_X9_does_b116
  refine cv_iload_n hC 0 dX9_does_116 rfl rfl ?_
  refine cv_bipush (v := 6) hC dX9_does_117 cb_bipush_6 ?_
  refine cv_icmp_ge (tgt := 128) hC dX9_does_119 (by decide) ?_ ?_
  · refine cv_iconst (v := (-1)) hC dX9_does_128 cb_iconst_m1 ?_
    exact cv_iret hC dX9_does_129
  · refine cv_iload_n hC 0 dX9_does_122 rfl rfl ?_
    refine cv_iconst (v := 1) hC dX9_does_123 cb_iconst_1 ?_
    refine cv_iadd hC dX9_does_124 ?_
    refine cv_goto (tgt := 129) hC dX9_does_125 (by decide) ?_
    exact cv_iret hC dX9_does_129
set_option maxRecDepth 20000 in
set_option maxHeartbeats 2000000 in
theorem J_X9_does_b164 {X : cv_X} {G : cv_G} {LL : Launch} (hC : cv_C X G LL RX9 cX9_does 6 (some .int) { frames := 1, cells := 0, slots := 0, locals := 22 }) (l3 : Int32) (σ : cv_St) : cv_J X G 6 0 0 (cv_QI X G) 164 [(3, .int l3)] [] σ (F_X9_does_b164 l3 σ) := by
  unfold F_X9_does_b164
  refine cv_iload_n hC 0 dX9_does_164 rfl rfl ?_
  refine cv_iconst (v := 1) hC dX9_does_165 cb_iconst_1 ?_
  refine cv_isub hC dX9_does_166 ?_
  exact cv_iret hC dX9_does_167
set_option maxRecDepth 20000 in
set_option maxHeartbeats 2000000 in
theorem J_X9_does_b211 {X : cv_X} {G : cv_G} {LL : Launch} (hC : cv_C X G LL RX9 cX9_does 6 (some .int) { frames := 1, cells := 0, slots := 0, locals := 22 }) (k171 : Int32 → Int32 → Int32 → cv_St → Option (Int32 × cv_St)) (hk171 : ∀ (l3 : Int32) (l4 : Int32) (l5 : Int32)  σ, cv_J X G 6 0 0 (cv_QI X G) 171 [(0, .ref (G.1 10)), (3, .int l3), (4, .int l4), (5, .int l5)] [] σ (k171 l3 l4 l5 σ)) (l3 : Int32) (l4 : Int32) (l5 : Int32) (t0 : Int32) (t1 : Int32) (σ : cv_St) : cv_J X G 6 0 0 (cv_QI X G) 211 [(0, .ref (G.1 10)), (3, .int l3), (4, .int l4), (5, .int l5)] [.int t0, .int t1, .ref (G.1 54)] σ (F_X9_does_b211 k171 l3 l4 l5 t0 t1 σ) := by
  unfold F_X9_does_b211
  refine cv_iast hC (cv_a54 G) dX9_does_211 (fun s11 => ?_)
  refine cv_iinc (lv' := [(5, .int (l5 + Int32.ofInt 1)), (0, .ref (G.1 10)), (3, .int l3), (4, .int l4)]) hC 3 dX9_does_212 rfl (by decide) rfl ?_
  refine cv_goto (tgt := 171) hC dX9_does_215 (by decide) ?_
  exact cv_sub [1, 2, 3, 0] rfl (hk171 l3 l4 (l5 + Int32.ofInt 1) s11)
set_option maxRecDepth 20000 in
set_option maxHeartbeats 2000000 in
theorem I_X9_does_b171 {X : cv_X} {G : cv_G} {LL : Launch} (hC : cv_C X G LL RX9 cX9_does 6 (some .int) { frames := 1, cells := 0, slots := 0, locals := 22 }) (k171 : Int32 → Int32 → Int32 → cv_St → Option (Int32 × cv_St)) (hk171 : ∀ (l3 : Int32) (l4 : Int32) (l5 : Int32)  σ, cv_J X G 6 0 0 (cv_QI X G) 171 [(0, .ref (G.1 10)), (3, .int l3), (4, .int l4), (5, .int l5)] [] σ (k171 l3 l4 l5 σ)) (l3 : Int32) (l4 : Int32) (l5 : Int32) (σ : cv_St) : cv_J X G 6 0 0 (cv_QI X G) 171 [(0, .ref (G.1 10)), (3, .int l3), (4, .int l4), (5, .int l5)] [] σ (B_X9_does_b171 k171 l3 l4 l5 σ) := by
  unfold B_X9_does_b171
  refine cv_iload hC 3 dX9_does_171 rfl ?_
  refine cv_bipush (v := 8) hC dX9_does_173 cb_bipush_8 ?_
  refine cv_icmp_ge (tgt := 218) hC dX9_does_175 (by decide) ?_ ?_
  · refine cv_iload_n hC 1 dX9_does_218 rfl rfl ?_
    exact cv_iret hC dX9_does_219
  · refine cv_aload_n hC 0 dX9_does_178 rfl rfl ?_
    refine cv_getr hC (fg_X9_48_10 G) dX9_does_179 ?_
    refine cv_iload hC 3 dX9_does_182 rfl ?_
    refine cv_aload_n hC 0 dX9_does_184 rfl rfl ?_
    refine cv_getr hC (fg_X9_39_10 G) dX9_does_185 ?_
    refine cv_iload hC 2 dX9_does_188 rfl ?_
    refine cv_iald hC (cv_a51 G) dX9_does_190 (fun v10 => ?_)
    refine cv_iload hC 3 dX9_does_191 rfl ?_
    refine cv_ishr hC dX9_does_193 ?_
    refine cv_iconst (v := 1) hC dX9_does_194 cb_iconst_1 ?_
    refine cv_iand hC dX9_does_195 ?_
    refine cv_iconst (v := 1) hC dX9_does_196 cb_iconst_1 ?_
    refine cv_icmp_ne (tgt := 210) hC dX9_does_197 (by decide) ?_ ?_
    · refine cv_iconst (v := (-1)) hC dX9_does_210 cb_iconst_m1 ?_
      exact cv_sub [0, 1, 2, 3] rfl (J_X9_does_b211 hC k171 hk171 l3 l4 l5 (-1) l5 σ)
    · refine cv_aload_n hC 0 dX9_does_200 rfl rfl ?_
      refine cv_getr hC (fg_X9_48_10 G) dX9_does_201 ?_
      refine cv_iload hC 3 dX9_does_204 rfl ?_
      refine cv_iald hC (cv_a54 G) dX9_does_206 (fun v12 => ?_)
      refine cv_goto (tgt := 211) hC dX9_does_207 (by decide) ?_
      exact cv_sub [0, 1, 2, 3] rfl (J_X9_does_b211 hC k171 hk171 l3 l4 l5 v12 l5 σ)
set_option maxRecDepth 20000 in
set_option maxHeartbeats 2000000 in
theorem J_X9_does_b171 {X : cv_X} {G : cv_G} {LL : Launch} (hC : cv_C X G LL RX9 cX9_does 6 (some .int) { frames := 1, cells := 0, slots := 0, locals := 22 }) : ∀ (n : Nat) (l3 : Int32) (l4 : Int32) (l5 : Int32) (σ : cv_St), cv_J X G 6 0 0 (cv_QI X G) 171 [(0, .ref (G.1 10)), (3, .int l3), (4, .int l4), (5, .int l5)] [] σ (F_X9_does_b171 n l3 l4 l5 σ) := by
  intro n
  induction n with
  | zero => intro l3 l4 l5 σ; exact cv_none
  | succ n ih => intro l3 l4 l5 σ; exact I_X9_does_b171 hC _ ih l3 l4 l5 σ
set_option maxRecDepth 20000 in
set_option maxHeartbeats 2000000 in
theorem J_X9_does {X : cv_X} {G : cv_G} {LL : Launch} (hC : cv_C X G LL RX9 cX9_does 6 (some .int) { frames := 1, cells := 0, slots := 0, locals := 22 }) (l1 : Int32) (l2 : Int32) (l3 : Int32) (σ : cv_St) : cv_J X G 6 0 0 (cv_QI X G) 0 [(0, .ref (G.1 10)), (1, .int l1), (2, .int l2), (3, .int l3)] [] σ (F_X9_does l1 l2 l3 σ) := by
  unfold F_X9_does
  refine cv_aload_n hC 0 dX9_does_0 rfl rfl ?_
  refine cv_iload_n hC 1 dX9_does_1 rfl rfl ?_
  refine cv_iload_n hC 2 dX9_does_2 rfl rfl ?_
  refine cv_callVi (ob := 10) hC [.int l1, .int l2] [] (M_X9_first LL G l1 l2 σ) ln_X9_141 vm_X9_first (ob_10 G) rfl rfl (Nat.le_of_ble_eq_true rfl) ⟨Nat.le_of_ble_eq_true rfl, Nat.le_of_ble_eq_true rfl⟩ ⟨Nat.le_of_ble_eq_true rfl, Nat.le_of_ble_eq_true rfl⟩ dX9_does_3 (fun v2 s1 => ?_)
  refine cv_istore (lv' := [(4, .int v2), (0, .ref (G.1 10)), (1, .int l1), (2, .int l2), (3, .int l3)]) hC dX9_does_6 (by decide) rfl ?_
  refine cv_aload_n hC 1 dX9_does_8 rfl rfl ?_
  refine cv_iload_n hC 2 dX9_does_9 rfl rfl ?_
  refine cv_iload_n hC 3 dX9_does_10 rfl rfl ?_
  refine cv_callVi (ob := 10) hC [.int l1, .int l2] [] (M_X9_kind LL G l1 l2 s1) ln_X9_138 vm_X9_kind (ob_10 G) rfl rfl (Nat.le_of_ble_eq_true rfl) ⟨Nat.le_of_ble_eq_true rfl, Nat.le_of_ble_eq_true rfl⟩ ⟨Nat.le_of_ble_eq_true rfl, Nat.le_of_ble_eq_true rfl⟩ dX9_does_11 (fun v4 s3 => ?_)
  refine cv_ite (fun hc => ?_) (fun hc0 => ?_)
  · refine cv_lookup (off := 80) (tgt := 94) hC dX9_does_14 (by decide) (by rw [hc]; decide) (by decide) ?_
    refine cv_iload_n hC 4 dX9_does_94 rfl rfl ?_
    refine cv_bipush (v := 6) hC dX9_does_95 cb_bipush_6 ?_
    refine cv_icmp_ge (tgt := 116) hC dX9_does_97 (by decide) ?_ ?_
    · exact cv_sub [4] rfl (J_X9_does_b116 hC l3 s3)
    · refine cv_aload_n hC 1 dX9_does_100 rfl rfl ?_
      refine cv_getr hC (fg_X9_48_10 G) dX9_does_101 ?_
      refine cv_bipush (v := 8) hC dX9_does_104 cb_bipush_8 ?_
      refine cv_iload_n hC 4 dX9_does_106 rfl rfl ?_
      refine cv_iadd hC dX9_does_107 ?_
      refine cv_aload_n hC 1 dX9_does_108 rfl rfl ?_
      refine cv_getr hC (fg_X9_48_10 G) dX9_does_109 ?_
      refine cv_iload hC 0 dX9_does_112 rfl ?_
      refine cv_iald hC (cv_a54 G) dX9_does_114 (fun v5 => ?_)
      refine cv_iast hC (cv_a54 G) dX9_does_115 (fun s6 => ?_)
      exact cv_sub [4] rfl (J_X9_does_b116 hC l3 s6)
  · skip
    refine cv_ite (fun hc => ?_) (fun hc1 => ?_)
    · refine cv_lookup (off := 116) (tgt := 130) hC dX9_does_14 (by decide) (by rw [hc]; decide) (by decide) ?_
      refine cv_iload_n hC 4 dX9_does_130 rfl rfl ?_
      refine cv_if_le (tgt := 164) hC dX9_does_131 (by decide) ?_ ?_
      · exact cv_sub [4] rfl (J_X9_does_b164 hC l3 s3)
      · refine cv_aload_n hC 1 dX9_does_134 rfl rfl ?_
        refine cv_getr hC (fg_X9_48_10 G) dX9_does_135 ?_
        refine cv_iload hC 0 dX9_does_138 rfl ?_
        refine cv_aload_n hC 1 dX9_does_140 rfl rfl ?_
        refine cv_getr hC (fg_X9_48_10 G) dX9_does_141 ?_
        refine cv_bipush (v := 8) hC dX9_does_144 cb_bipush_8 ?_
        refine cv_iload_n hC 4 dX9_does_146 rfl rfl ?_
        refine cv_iadd hC dX9_does_147 ?_
        refine cv_iconst (v := 1) hC dX9_does_148 cb_iconst_1 ?_
        refine cv_isub hC dX9_does_149 ?_
        refine cv_iald hC (cv_a54 G) dX9_does_150 (fun v7 => ?_)
        refine cv_iast hC (cv_a54 G) dX9_does_151 (fun s8 => ?_)
        refine cv_aload_n hC 1 dX9_does_152 rfl rfl ?_
        refine cv_getr hC (fg_X9_48_10 G) dX9_does_153 ?_
        refine cv_bipush (v := 8) hC dX9_does_156 cb_bipush_8 ?_
        refine cv_iload_n hC 4 dX9_does_158 rfl rfl ?_
        refine cv_iadd hC dX9_does_159 ?_
        refine cv_iconst (v := 1) hC dX9_does_160 cb_iconst_1 ?_
        refine cv_isub hC dX9_does_161 ?_
        refine cv_iconst (v := (-1)) hC dX9_does_162 cb_iconst_m1 ?_
        refine cv_iast hC (cv_a54 G) dX9_does_163 (fun s9 => ?_)
        exact cv_sub [4] rfl (J_X9_does_b164 hC l3 s9)
    · skip
      refine cv_ite (fun hc => ?_) (fun hc2 => ?_)
      · refine cv_lookup (off := 154) (tgt := 168) hC dX9_does_14 (by decide) (by rw [hc]; decide) (by decide) ?_
        refine cv_iconst (v := 0) hC dX9_does_168 cb_iconst_0 ?_
        refine cv_istore (lv' := [(5, .int 0), (4, .int v2), (0, .ref (G.1 10)), (1, .int l1), (2, .int l2), (3, .int l3)]) hC dX9_does_169 (by decide) rfl ?_
        exact cv_sub [2, 5, 1, 0] rfl (J_X9_does_b171 hC 1000 l3 v2 0 s3)
      · skip
        refine cv_ite (fun hc => ?_) (fun hc3 => ?_)
        · refine cv_lookup (off := 50) (tgt := 64) hC dX9_does_14 (by decide) (by rw [hc]; decide) (by decide) ?_
          refine cv_aload_n hC 1 dX9_does_64 rfl rfl ?_
          refine cv_getr hC (fg_X9_48_10 G) dX9_does_65 ?_
          refine cv_iload hC 0 dX9_does_68 rfl ?_
          refine cv_iconst (v := (-1)) hC dX9_does_70 cb_iconst_m1 ?_
          refine cv_iast hC (cv_a54 G) dX9_does_71 (fun s13 => ?_)
          refine cv_iload_n hC 4 dX9_does_72 rfl rfl ?_
          exact cv_iret hC dX9_does_73
        · skip
          refine cv_ite (fun hc => ?_) (fun hc4 => ?_)
          · refine cv_lookup (off := 60) (tgt := 74) hC dX9_does_14 (by decide) (by rw [hc]; decide) (by decide) ?_
            refine cv_aload_n hC 1 dX9_does_74 rfl rfl ?_
            refine cv_getr hC (fg_X9_48_10 G) dX9_does_75 ?_
            refine cv_iload hC 0 dX9_does_78 rfl ?_
            refine cv_aload_n hC 1 dX9_does_80 rfl rfl ?_
            refine cv_getr hC (fg_X9_48_10 G) dX9_does_81 ?_
            refine cv_aload_n hC 1 dX9_does_84 rfl rfl ?_
            refine cv_iload_n hC 2 dX9_does_85 rfl rfl ?_
            refine cv_iload_n hC 3 dX9_does_86 rfl rfl ?_
            refine cv_callVi (ob := 10) hC [.int l1, .int l2] [.ref (G.1 54), .int v2, .ref (G.1 54)] (M_X9_second LL G l1 l2 s3) ln_X9_144 vm_X9_second (ob_10 G) rfl rfl (Nat.le_of_ble_eq_true rfl) ⟨Nat.le_of_ble_eq_true rfl, Nat.le_of_ble_eq_true rfl⟩ ⟨Nat.le_of_ble_eq_true rfl, Nat.le_of_ble_eq_true rfl⟩ dX9_does_87 (fun v15 s14 => ?_)
            refine cv_iald hC (cv_a54 G) dX9_does_90 (fun v16 => ?_)
            refine cv_iast hC (cv_a54 G) dX9_does_91 (fun s17 => ?_)
            refine cv_iload_n hC 4 dX9_does_92 rfl rfl ?_
            exact cv_iret hC dX9_does_93
          · skip
            refine cv_lookup (off := 206) (tgt := 220) hC dX9_does_14 (by decide) (by rw [show (#[(43, 80), (45, 116), (99, 154), (100, 50), (109, 60)] : Array (Int × Int)).toList = [(43, 80), (45, 116), (99, 154), (100, 50), (109, 60)] from rfl, lv_osw (k := 43) hc0 (by decide), lv_osw (k := 45) hc1 (by decide), lv_osw (k := 99) hc2 (by decide), lv_osw (k := 100) hc3 (by decide), lv_osw (k := 109) hc4 (by decide)]; rfl) (by decide) ?_
            refine cv_iload_n hC 4 dX9_does_220 rfl rfl ?_
            exact cv_iret hC dX9_does_221
set_option maxRecDepth 20000 in
set_option maxHeartbeats 2000000 in
theorem M_X9_does (LL : Launch) (G : cv_G) (l1 : Int32) (l2 : Int32) (l3 : Int32) (σ : cv_St) : cv_MI LL G yX9_does cX9_does 6 (some .int) 1 22 [.ref (G.1 10), .int l1, .int l2, .int l3] σ (F_X9_does l1 l2 l3 σ) :=
  cv_mkI (by decide) (Nat.le_of_ble_eq_true rfl) (fun X hC => J_X9_does hC l1 l2 l3 σ)
/-! X9_follows -/
set_option maxRecDepth 20000 in
set_option maxHeartbeats 2000000 in
theorem J_X9_follows_b167 {X : cv_X} {G : cv_G} {LL : Launch} (hC : cv_C X G LL RX9 cX9_follows 6 (some .boolean) { frames := 2, cells := 0, slots := 0, locals := 47 }) (l1 : Int32) (l2 : Int32) (σ : cv_St) : cv_J X G 6 0 0 (cv_QI X G) 167 [(0, .ref (G.1 10)), (1, .int l1), (2, .int l2)] [] σ (F_X9_follows_b167 l1 l2 σ) := by
  unfold F_X9_follows_b167
  refine cv_iload_n hC 2 dX9_follows_167 rfl rfl ?_
  refine cv_if_eq (tgt := 189) hC dX9_follows_168 (by decide) ?_ ?_
  · refine cv_iconst (v := 0) hC dX9_follows_189 cb_iconst_0 ?_
    exact cv_zret hC dX9_follows_190
  · refine cv_aload_n hC 0 dX9_follows_171 rfl rfl ?_
    refine cv_getr hC (fg_X9_42_10 G) dX9_follows_172 ?_
    refine cv_aload_n hC 0 dX9_follows_175 rfl rfl ?_
    refine cv_getr hC (fg_X9_9_10 G) dX9_follows_176 ?_
    refine cv_iload_n hC 1 dX9_follows_179 rfl rfl ?_
    refine cv_iald hC (cv_a43 G) dX9_follows_180 (fun v4 => ?_)
    refine cv_iald hC (cv_a52 G) dX9_follows_181 (fun v5 => ?_)
    refine cv_if_ne (tgt := 189) hC dX9_follows_182 (by decide) ?_ ?_
    · refine cv_iconst (v := 0) hC dX9_follows_189 cb_iconst_0 ?_
      exact cv_zret hC dX9_follows_190
    · refine cv_iconst (v := 1) hC dX9_follows_185 cb_iconst_1 ?_
      refine cv_goto (tgt := 190) hC dX9_follows_186 (by decide) ?_
      exact cv_zret hC dX9_follows_190
set_option maxRecDepth 20000 in
set_option maxHeartbeats 2000000 in
theorem J_X9_follows_b161 {X : cv_X} {G : cv_G} {LL : Launch} (hC : cv_C X G LL RX9 cX9_follows 6 (some .boolean) { frames := 2, cells := 0, slots := 0, locals := 47 }) (k61 : Int32 → Int32 → Int32 → cv_St → Option (Int32 × cv_St)) (hk61 : ∀ (l1 : Int32) (l2 : Int32) (l3 : Int32)  σ, cv_J X G 6 0 0 (cv_QI X G) 61 [(0, .ref (G.1 10)), (1, .int l1), (2, .int l2), (3, .int l3)] [] σ (k61 l1 l2 l3 σ)) (l1 : Int32) (l2 : Int32) (l3 : Int32) (σ : cv_St) : cv_J X G 6 0 0 (cv_QI X G) 161 [(0, .ref (G.1 10)), (1, .int l1), (2, .int l2), (3, .int l3)] [] σ (F_X9_follows_b161 k61 l1 l2 l3 σ) := by
  unfold F_X9_follows_b161
  refine cv_iinc (lv' := [(3, .int (l3 + Int32.ofInt 1)), (0, .ref (G.1 10)), (1, .int l1), (2, .int l2)]) hC 3 dX9_follows_161 rfl (by decide) rfl ?_
  refine cv_goto (tgt := 61) hC dX9_follows_164 (by decide) ?_
  exact cv_sub [1, 2, 3, 0] rfl (hk61 l1 l2 (l3 + Int32.ofInt 1) σ)
set_option maxRecDepth 20000 in
set_option maxHeartbeats 2000000 in
theorem I_X9_follows_b130 {X : cv_X} {G : cv_G} {LL : Launch} (hC : cv_C X G LL RX9 cX9_follows 6 (some .boolean) { frames := 2, cells := 0, slots := 0, locals := 47 }) (k61 : Int32 → Int32 → Int32 → cv_St → Option (Int32 × cv_St)) (hk61 : ∀ (l1 : Int32) (l2 : Int32) (l3 : Int32)  σ, cv_J X G 6 0 0 (cv_QI X G) 61 [(0, .ref (G.1 10)), (1, .int l1), (2, .int l2), (3, .int l3)] [] σ (k61 l1 l2 l3 σ)) (k130 : Int32 → Int32 → Int32 → Int32 → Int32 → cv_St → Option (Int32 × cv_St)) (hk130 : ∀ (l1 : Int32) (l2 : Int32) (l3 : Int32) (l4 : Int32) (l5 : Int32)  σ, cv_J X G 6 0 0 (cv_QI X G) 130 [(0, .ref (G.1 10)), (1, .int l1), (2, .int l2), (3, .int l3), (4, .int l4), (5, .int l5)] [] σ (k130 l1 l2 l3 l4 l5 σ)) (l1 : Int32) (l2 : Int32) (l3 : Int32) (l4 : Int32) (l5 : Int32) (σ : cv_St) : cv_J X G 6 0 0 (cv_QI X G) 130 [(0, .ref (G.1 10)), (1, .int l1), (2, .int l2), (3, .int l3), (4, .int l4), (5, .int l5)] [] σ (B_X9_follows_b130 k61 k130 l1 l2 l3 l4 l5 σ) := by
  unfold B_X9_follows_b130
  refine cv_iload hC 5 dX9_follows_130 rfl ?_
  refine cv_iconst (v := 2) hC dX9_follows_132 cb_iconst_2 ?_
  refine cv_icmp_ge (tgt := 161) hC dX9_follows_133 (by decide) ?_ ?_
  · exact cv_sub [0, 1, 2, 3] rfl (J_X9_follows_b161 hC k61 hk61 l1 l2 l3 σ)
  · refine cv_iload_n hC 2 dX9_follows_136 rfl rfl ?_
    refine cv_if_eq (tgt := 161) hC dX9_follows_137 (by decide) ?_ ?_
    · exact cv_sub [0, 1, 2, 3] rfl (J_X9_follows_b161 hC k61 hk61 l1 l2 l3 σ)
    · refine cv_aload_n hC 0 dX9_follows_140 rfl rfl ?_
      refine cv_aload_n hC 0 dX9_follows_141 rfl rfl ?_
      refine cv_iload_n hC 1 dX9_follows_142 rfl rfl ?_
      refine cv_iload_n hC 3 dX9_follows_143 rfl rfl ?_
      refine cv_iload hC 5 dX9_follows_144 rfl ?_
      refine cv_callVi (ob := 10) hC [.int l1, .int l3, .int l5] [.ref (G.1 10)] (M_X9_next LL G l1 l3 l5 σ) ln_X9_155 vm_X9_next (ob_10 G) rfl rfl (Nat.le_of_ble_eq_true rfl) ⟨Nat.le_of_ble_eq_true rfl, Nat.le_of_ble_eq_true rfl⟩ ⟨Nat.le_of_ble_eq_true rfl, Nat.le_of_ble_eq_true rfl⟩ dX9_follows_146 (fun v12 s11 => ?_)
      refine cv_iload hC 4 dX9_follows_149 rfl ?_
      refine cv_callVi (ob := 10) hC [.int v12, .int l4] [] (M_X9_comes LL G v12 l4 s11) ln_X9_159 vm_X9_comes (ob_10 G) rfl rfl (Nat.le_of_ble_eq_true rfl) ⟨Nat.le_of_ble_eq_true rfl, Nat.le_of_ble_eq_true rfl⟩ ⟨Nat.le_of_ble_eq_true rfl, Nat.le_of_ble_eq_true rfl⟩ dX9_follows_151 (fun v14 s13 => ?_)
      refine cv_istore_n (lv' := [(2, .int v14), (0, .ref (G.1 10)), (1, .int l1), (3, .int l3), (4, .int l4), (5, .int l5)]) hC dX9_follows_154 rfl (by decide) rfl ?_
      refine cv_iinc (lv' := [(5, .int (l5 + Int32.ofInt 1)), (2, .int v14), (0, .ref (G.1 10)), (1, .int l1), (3, .int l3), (4, .int l4)]) hC 5 dX9_follows_155 rfl (by decide) rfl ?_
      refine cv_goto (tgt := 130) hC dX9_follows_158 (by decide) ?_
      exact cv_sub [2, 3, 1, 4, 5, 0] rfl (hk130 l1 v14 l3 l4 (l5 + Int32.ofInt 1) s13)
set_option maxRecDepth 20000 in
set_option maxHeartbeats 2000000 in
theorem J_X9_follows_b130 {X : cv_X} {G : cv_G} {LL : Launch} (hC : cv_C X G LL RX9 cX9_follows 6 (some .boolean) { frames := 2, cells := 0, slots := 0, locals := 47 }) (k61 : Int32 → Int32 → Int32 → cv_St → Option (Int32 × cv_St)) (hk61 : ∀ (l1 : Int32) (l2 : Int32) (l3 : Int32)  σ, cv_J X G 6 0 0 (cv_QI X G) 61 [(0, .ref (G.1 10)), (1, .int l1), (2, .int l2), (3, .int l3)] [] σ (k61 l1 l2 l3 σ)) : ∀ (n : Nat) (l1 : Int32) (l2 : Int32) (l3 : Int32) (l4 : Int32) (l5 : Int32) (σ : cv_St), cv_J X G 6 0 0 (cv_QI X G) 130 [(0, .ref (G.1 10)), (1, .int l1), (2, .int l2), (3, .int l3), (4, .int l4), (5, .int l5)] [] σ (F_X9_follows_b130 k61 n l1 l2 l3 l4 l5 σ) := by
  intro n
  induction n with
  | zero => intro l1 l2 l3 l4 l5 σ; exact cv_none
  | succ n ih => intro l1 l2 l3 l4 l5 σ; exact I_X9_follows_b130 hC k61 hk61 _ ih l1 l2 l3 l4 l5 σ
set_option maxRecDepth 20000 in
set_option maxHeartbeats 2000000 in
theorem J_X9_follows_b126 {X : cv_X} {G : cv_G} {LL : Launch} (hC : cv_C X G LL RX9 cX9_follows 6 (some .boolean) { frames := 2, cells := 0, slots := 0, locals := 47 }) (k61 : Int32 → Int32 → Int32 → cv_St → Option (Int32 × cv_St)) (hk61 : ∀ (l1 : Int32) (l2 : Int32) (l3 : Int32)  σ, cv_J X G 6 0 0 (cv_QI X G) 61 [(0, .ref (G.1 10)), (1, .int l1), (2, .int l2), (3, .int l3)] [] σ (k61 l1 l2 l3 σ)) (l1 : Int32) (l3 : Int32) (l4 : Int32) (t0 : Int32) (σ : cv_St) : cv_J X G 6 0 0 (cv_QI X G) 126 [(0, .ref (G.1 10)), (1, .int l1), (3, .int l3), (4, .int l4)] [.int t0] σ (F_X9_follows_b126 k61 l1 l3 l4 t0 σ) := by
  unfold F_X9_follows_b126
  refine cv_istore_n (lv' := [(2, .int t0), (0, .ref (G.1 10)), (1, .int l1), (3, .int l3), (4, .int l4)]) hC dX9_follows_126 rfl (by decide) rfl ?_
  refine cv_iconst (v := 0) hC dX9_follows_127 cb_iconst_0 ?_
  refine cv_istore (lv' := [(5, .int 0), (2, .int t0), (0, .ref (G.1 10)), (1, .int l1), (3, .int l3), (4, .int l4)]) hC dX9_follows_128 (by decide) rfl ?_
  exact cv_sub [2, 3, 1, 4, 5, 0] rfl (J_X9_follows_b130 hC k61 hk61 1000 l1 t0 l3 l4 0 σ)
set_option maxRecDepth 20000 in
set_option maxHeartbeats 2000000 in
theorem I_X9_follows_b61 {X : cv_X} {G : cv_G} {LL : Launch} (hC : cv_C X G LL RX9 cX9_follows 6 (some .boolean) { frames := 2, cells := 0, slots := 0, locals := 47 }) (k61 : Int32 → Int32 → Int32 → cv_St → Option (Int32 × cv_St)) (hk61 : ∀ (l1 : Int32) (l2 : Int32) (l3 : Int32)  σ, cv_J X G 6 0 0 (cv_QI X G) 61 [(0, .ref (G.1 10)), (1, .int l1), (2, .int l2), (3, .int l3)] [] σ (k61 l1 l2 l3 σ)) (l1 : Int32) (l2 : Int32) (l3 : Int32) (σ : cv_St) : cv_J X G 6 0 0 (cv_QI X G) 61 [(0, .ref (G.1 10)), (1, .int l1), (2, .int l2), (3, .int l3)] [] σ (B_X9_follows_b61 k61 l1 l2 l3 σ) := by
  unfold B_X9_follows_b61
  refine cv_iload_n hC 3 dX9_follows_61 rfl rfl ?_
  refine cv_aload_n hC 0 dX9_follows_62 rfl rfl ?_
  refine cv_getr hC (fg_X9_9_10 G) dX9_follows_63 ?_
  refine cv_iload_n hC 1 dX9_follows_66 rfl rfl ?_
  refine cv_iald hC (cv_a43 G) dX9_follows_67 (fun v3 => ?_)
  refine cv_icmp_ge (tgt := 167) hC dX9_follows_68 (by decide) ?_ ?_
  · exact cv_sub [0, 1, 2] rfl (J_X9_follows_b167 hC l1 l2 σ)
  · refine cv_iload_n hC 2 dX9_follows_71 rfl rfl ?_
    refine cv_if_eq (tgt := 167) hC dX9_follows_72 (by decide) ?_ ?_
    · exact cv_sub [0, 1, 2] rfl (J_X9_follows_b167 hC l1 l2 σ)
    · refine cv_aload_n hC 0 dX9_follows_75 rfl rfl ?_
      refine cv_getr hC (fg_X9_42_10 G) dX9_follows_76 ?_
      refine cv_iload_n hC 3 dX9_follows_79 rfl rfl ?_
      refine cv_iald hC (cv_a52 G) dX9_follows_80 (fun v6 => ?_)
      refine cv_if_lt (tgt := 161) hC dX9_follows_81 (by decide) ?_ ?_
      · exact cv_sub [0, 1, 2, 3] rfl (J_X9_follows_b161 hC k61 hk61 l1 l2 l3 σ)
      · refine cv_aload_n hC 0 dX9_follows_84 rfl rfl ?_
        refine cv_getr hC (fg_X9_45_10 G) dX9_follows_85 ?_
        refine cv_bipush (v := 14) hC dX9_follows_88 cb_bipush_14 ?_
        refine cv_iload_n hC 3 dX9_follows_90 rfl rfl ?_
        refine cv_imul hC dX9_follows_91 ?_
        refine cv_aload_n hC 0 dX9_follows_92 rfl rfl ?_
        refine cv_getr hC (fg_X9_48_10 G) dX9_follows_93 ?_
        refine cv_iconst (v := 0) hC dX9_follows_96 cb_iconst_0 ?_
        refine cv_bipush (v := 14) hC dX9_follows_97 cb_bipush_14 ?_
        refine cv_copyI hC ln_X9_162 sw_arraycopy.1 sw_arraycopy.2.1 sw_arraycopy.2.2 (cv_a53 G) (cv_a54 G) ⟨Nat.le_of_ble_eq_true rfl, Nat.le_of_ble_eq_true rfl⟩ dX9_follows_99 (fun s7 => ?_)
        refine cv_aload_n hC 0 dX9_follows_102 rfl rfl ?_
        refine cv_iload_n hC 1 dX9_follows_103 rfl rfl ?_
        refine cv_iload_n hC 3 dX9_follows_104 rfl rfl ?_
        refine cv_aload_n hC 0 dX9_follows_105 rfl rfl ?_
        refine cv_getr hC (fg_X9_42_10 G) dX9_follows_106 ?_
        refine cv_iload_n hC 3 dX9_follows_109 rfl rfl ?_
        refine cv_iald hC (cv_a52 G) dX9_follows_110 (fun v8 => ?_)
        refine cv_callVi (ob := 10) hC [.int l1, .int l3, .int v8] [] (M_X9_does LL G l1 l3 v8 s7) ln_X9_168 vm_X9_does (ob_10 G) rfl rfl (Nat.le_of_ble_eq_true rfl) ⟨Nat.le_of_ble_eq_true rfl, Nat.le_of_ble_eq_true rfl⟩ ⟨Nat.le_of_ble_eq_true rfl, Nat.le_of_ble_eq_true rfl⟩ dX9_follows_111 (fun v10 s9 => ?_)
        refine cv_istore (lv' := [(4, .int v10), (0, .ref (G.1 10)), (1, .int l1), (2, .int l2), (3, .int l3)]) hC dX9_follows_114 (by decide) rfl ?_
        refine cv_iload hC 0 dX9_follows_116 rfl ?_
        refine cv_if_lt (tgt := 125) hC dX9_follows_118 (by decide) ?_ ?_
        · refine cv_iconst (v := 0) hC dX9_follows_125 cb_iconst_0 ?_
          exact cv_sub [1, 2, 4, 0] rfl (J_X9_follows_b126 hC k61 hk61 l1 l3 v10 0 s9)
        · refine cv_iconst (v := 1) hC dX9_follows_121 cb_iconst_1 ?_
          refine cv_goto (tgt := 126) hC dX9_follows_122 (by decide) ?_
          exact cv_sub [1, 2, 4, 0] rfl (J_X9_follows_b126 hC k61 hk61 l1 l3 v10 1 s9)
set_option maxRecDepth 20000 in
set_option maxHeartbeats 2000000 in
theorem J_X9_follows_b61 {X : cv_X} {G : cv_G} {LL : Launch} (hC : cv_C X G LL RX9 cX9_follows 6 (some .boolean) { frames := 2, cells := 0, slots := 0, locals := 47 }) : ∀ (n : Nat) (l1 : Int32) (l2 : Int32) (l3 : Int32) (σ : cv_St), cv_J X G 6 0 0 (cv_QI X G) 61 [(0, .ref (G.1 10)), (1, .int l1), (2, .int l2), (3, .int l3)] [] σ (F_X9_follows_b61 n l1 l2 l3 σ) := by
  intro n
  induction n with
  | zero => intro l1 l2 l3 σ; exact cv_none
  | succ n ih => intro l1 l2 l3 σ; exact I_X9_follows_b61 hC _ ih l1 l2 l3 σ
set_option maxRecDepth 20000 in
set_option maxHeartbeats 2000000 in
theorem J_X9_follows_b45 {X : cv_X} {G : cv_G} {LL : Launch} (hC : cv_C X G LL RX9 cX9_follows 6 (some .boolean) { frames := 2, cells := 0, slots := 0, locals := 47 }) (k23 : Int32 → Int32 → cv_St → Option (Int32 × cv_St)) (hk23 : ∀ (l1 : Int32) (l2 : Int32)  σ, cv_J X G 6 0 0 (cv_QI X G) 23 [(0, .ref (G.1 10)), (1, .int l1), (2, .int l2)] [] σ (k23 l1 l2 σ)) (l1 : Int32) (l2 : Int32) (t0 : Int32) (t1 : Int32) (σ : cv_St) : cv_J X G 6 0 0 (cv_QI X G) 45 [(0, .ref (G.1 10)), (1, .int l1), (2, .int l2)] [.int t0, .int t1, .ref (G.1 54)] σ (F_X9_follows_b45 k23 l1 l2 t0 t1 σ) := by
  unfold F_X9_follows_b45
  refine cv_iast hC (cv_a54 G) dX9_follows_45 (fun s15 => ?_)
  refine cv_iinc (lv' := [(2, .int (l2 + Int32.ofInt 1)), (0, .ref (G.1 10)), (1, .int l1)]) hC 2 dX9_follows_46 rfl (by decide) rfl ?_
  refine cv_goto (tgt := 23) hC dX9_follows_49 (by decide) ?_
  exact cv_sub [1, 2, 0] rfl (hk23 l1 (l2 + Int32.ofInt 1) s15)
set_option maxRecDepth 20000 in
set_option maxHeartbeats 2000000 in
theorem I_X9_follows_b23 {X : cv_X} {G : cv_G} {LL : Launch} (hC : cv_C X G LL RX9 cX9_follows 6 (some .boolean) { frames := 2, cells := 0, slots := 0, locals := 47 }) (k23 : Int32 → Int32 → cv_St → Option (Int32 × cv_St)) (hk23 : ∀ (l1 : Int32) (l2 : Int32)  σ, cv_J X G 6 0 0 (cv_QI X G) 23 [(0, .ref (G.1 10)), (1, .int l1), (2, .int l2)] [] σ (k23 l1 l2 σ)) (l1 : Int32) (l2 : Int32) (σ : cv_St) : cv_J X G 6 0 0 (cv_QI X G) 23 [(0, .ref (G.1 10)), (1, .int l1), (2, .int l2)] [] σ (B_X9_follows_b23 k23 l1 l2 σ) := by
  unfold B_X9_follows_b23
  refine cv_iload_n hC 2 dX9_follows_23 rfl rfl ?_
  refine cv_bipush (v := 14) hC dX9_follows_24 cb_bipush_14 ?_
  refine cv_icmp_ge (tgt := 52) hC dX9_follows_26 (by decide) ?_ ?_
  · refine cv_aload_n hC 0 dX9_follows_52 rfl rfl ?_
    refine cv_iconst (v := 0) hC dX9_follows_53 cb_iconst_0 ?_
    refine cv_iconst (v := 0) hC dX9_follows_54 cb_iconst_0 ?_
    refine cv_callVi (ob := 10) hC [.int 0, .int 0] [] (M_X9_comes LL G 0 0 σ) ln_X9_159 vm_X9_comes (ob_10 G) rfl rfl (Nat.le_of_ble_eq_true rfl) ⟨Nat.le_of_ble_eq_true rfl, Nat.le_of_ble_eq_true rfl⟩ ⟨Nat.le_of_ble_eq_true rfl, Nat.le_of_ble_eq_true rfl⟩ dX9_follows_55 (fun v2 s1 => ?_)
    refine cv_istore_n (lv' := [(2, .int v2), (0, .ref (G.1 10)), (1, .int l1)]) hC dX9_follows_58 rfl (by decide) rfl ?_
    refine cv_iconst (v := 0) hC dX9_follows_59 cb_iconst_0 ?_
    refine cv_istore_n (lv' := [(3, .int 0), (2, .int v2), (0, .ref (G.1 10)), (1, .int l1)]) hC dX9_follows_60 rfl (by decide) rfl ?_
    exact cv_sub [2, 3, 1, 0] rfl (J_X9_follows_b61 hC 1000 l1 v2 0 s1)
  · refine cv_aload_n hC 0 dX9_follows_29 rfl rfl ?_
    refine cv_getr hC (fg_X9_48_10 G) dX9_follows_30 ?_
    refine cv_iload_n hC 2 dX9_follows_33 rfl rfl ?_
    refine cv_iload_n hC 2 dX9_follows_34 rfl rfl ?_
    refine cv_bipush (v := 8) hC dX9_follows_35 cb_bipush_8 ?_
    refine cv_icmp_ge (tgt := 44) hC dX9_follows_37 (by decide) ?_ ?_
    · refine cv_iconst (v := (-1)) hC dX9_follows_44 cb_iconst_m1 ?_
      exact cv_sub [0, 1, 2] rfl (J_X9_follows_b45 hC k23 hk23 l1 l2 (-1) l2 σ)
    · refine cv_iload_n hC 2 dX9_follows_40 rfl rfl ?_
      refine cv_goto (tgt := 45) hC dX9_follows_41 (by decide) ?_
      exact cv_sub [0, 1, 2] rfl (J_X9_follows_b45 hC k23 hk23 l1 l2 l2 l2 σ)
set_option maxRecDepth 20000 in
set_option maxHeartbeats 2000000 in
theorem J_X9_follows_b23 {X : cv_X} {G : cv_G} {LL : Launch} (hC : cv_C X G LL RX9 cX9_follows 6 (some .boolean) { frames := 2, cells := 0, slots := 0, locals := 47 }) : ∀ (n : Nat) (l1 : Int32) (l2 : Int32) (σ : cv_St), cv_J X G 6 0 0 (cv_QI X G) 23 [(0, .ref (G.1 10)), (1, .int l1), (2, .int l2)] [] σ (F_X9_follows_b23 n l1 l2 σ) := by
  intro n
  induction n with
  | zero => intro l1 l2 σ; exact cv_none
  | succ n ih => intro l1 l2 σ; exact I_X9_follows_b23 hC _ ih l1 l2 σ
set_option maxRecDepth 20000 in
set_option maxHeartbeats 2000000 in
theorem I_X9_follows_b2 {X : cv_X} {G : cv_G} {LL : Launch} (hC : cv_C X G LL RX9 cX9_follows 6 (some .boolean) { frames := 2, cells := 0, slots := 0, locals := 47 }) (k2 : Int32 → Int32 → cv_St → Option (Int32 × cv_St)) (hk2 : ∀ (l1 : Int32) (l2 : Int32)  σ, cv_J X G 6 0 0 (cv_QI X G) 2 [(0, .ref (G.1 10)), (1, .int l1), (2, .int l2)] [] σ (k2 l1 l2 σ)) (l1 : Int32) (l2 : Int32) (σ : cv_St) : cv_J X G 6 0 0 (cv_QI X G) 2 [(0, .ref (G.1 10)), (1, .int l1), (2, .int l2)] [] σ (B_X9_follows_b2 k2 l1 l2 σ) := by
  unfold B_X9_follows_b2
  refine cv_iload_n hC 2 dX9_follows_2 rfl rfl ?_
  refine cv_bipush (v := 15) hC dX9_follows_3 cb_bipush_15 ?_
  refine cv_icmp_ge (tgt := 21) hC dX9_follows_5 (by decide) ?_ ?_
  · refine cv_iconst (v := 0) hC dX9_follows_21 cb_iconst_0 ?_
    refine cv_istore_n (lv' := [(2, .int 0), (0, .ref (G.1 10)), (1, .int l1)]) hC dX9_follows_22 rfl (by decide) rfl ?_
    exact cv_sub [1, 2, 0] rfl (J_X9_follows_b23 hC 1000 l1 0 σ)
  · refine cv_aload_n hC 0 dX9_follows_8 rfl rfl ?_
    refine cv_getr hC (fg_X9_42_10 G) dX9_follows_9 ?_
    refine cv_iload_n hC 2 dX9_follows_12 rfl rfl ?_
    refine cv_iconst (v := (-1)) hC dX9_follows_13 cb_iconst_m1 ?_
    refine cv_iast hC (cv_a52 G) dX9_follows_14 (fun s16 => ?_)
    refine cv_iinc (lv' := [(2, .int (l2 + Int32.ofInt 1)), (0, .ref (G.1 10)), (1, .int l1)]) hC 2 dX9_follows_15 rfl (by decide) rfl ?_
    refine cv_goto (tgt := 2) hC dX9_follows_18 (by decide) ?_
    exact cv_sub [1, 2, 0] rfl (hk2 l1 (l2 + Int32.ofInt 1) s16)
set_option maxRecDepth 20000 in
set_option maxHeartbeats 2000000 in
theorem J_X9_follows_b2 {X : cv_X} {G : cv_G} {LL : Launch} (hC : cv_C X G LL RX9 cX9_follows 6 (some .boolean) { frames := 2, cells := 0, slots := 0, locals := 47 }) : ∀ (n : Nat) (l1 : Int32) (l2 : Int32) (σ : cv_St), cv_J X G 6 0 0 (cv_QI X G) 2 [(0, .ref (G.1 10)), (1, .int l1), (2, .int l2)] [] σ (F_X9_follows_b2 n l1 l2 σ) := by
  intro n
  induction n with
  | zero => intro l1 l2 σ; exact cv_none
  | succ n ih => intro l1 l2 σ; exact I_X9_follows_b2 hC _ ih l1 l2 σ
set_option maxRecDepth 20000 in
set_option maxHeartbeats 2000000 in
theorem J_X9_follows {X : cv_X} {G : cv_G} {LL : Launch} (hC : cv_C X G LL RX9 cX9_follows 6 (some .boolean) { frames := 2, cells := 0, slots := 0, locals := 47 }) (l1 : Int32) (σ : cv_St) : cv_J X G 6 0 0 (cv_QI X G) 0 [(0, .ref (G.1 10)), (1, .int l1)] [] σ (F_X9_follows l1 σ) := by
  unfold F_X9_follows
  refine cv_iconst (v := 0) hC dX9_follows_0 cb_iconst_0 ?_
  refine cv_istore_n (lv' := [(2, .int 0), (0, .ref (G.1 10)), (1, .int l1)]) hC dX9_follows_1 rfl (by decide) rfl ?_
  exact cv_sub [1, 2, 0] rfl (J_X9_follows_b2 hC 1000 l1 0 σ)
set_option maxRecDepth 20000 in
set_option maxHeartbeats 2000000 in
theorem M_X9_follows (LL : Launch) (G : cv_G) (l1 : Int32) (σ : cv_St) : cv_MI LL G yX9_follows cX9_follows 6 (some .boolean) 2 47 [.ref (G.1 10), .int l1] σ (F_X9_follows l1 σ) :=
  cv_mkI (by decide) (Nat.le_of_ble_eq_true rfl) (fun X hC => J_X9_follows hC l1 σ)
/-! X9_preservedBy -/
set_option maxRecDepth 20000 in
set_option maxHeartbeats 2000000 in
theorem J_X9_preservedBy_b46 {X : cv_X} {G : cv_G} {LL : Launch} (hC : cv_C X G LL RX9 cX9_preservedBy 4 (some .int) { frames := 3, cells := 0, slots := 0, locals := 72 }) (k12 : Int32 → Int32 → Int32 → cv_St → Option (Int32 × cv_St)) (hk12 : ∀ (l1 : Int32) (l2 : Int32) (l3 : Int32)  σ, cv_J X G 4 0 0 (cv_QI X G) 12 [(0, .ref (G.1 10)), (1, .int l1), (2, .int l2), (3, .int l3)] [] σ (k12 l1 l2 l3 σ)) (l1 : Int32) (l3 : Int32) (t0 : Int32) (t1 : Int32) (σ : cv_St) : cv_J X G 4 0 0 (cv_QI X G) 46 [(0, .ref (G.1 10)), (1, .int l1), (3, .int l3)] [.int t0, .int t1] σ (F_X9_preservedBy_b46 k12 l1 l3 t0 t1 σ) := by
  unfold F_X9_preservedBy_b46
  refine cv_ior hC dX9_preservedBy_46 ?_
  refine cv_istore_n (lv' := [(2, .int (t1 ||| t0)), (0, .ref (G.1 10)), (1, .int l1), (3, .int l3)]) hC dX9_preservedBy_47 rfl (by decide) rfl ?_
  refine cv_iinc (lv' := [(3, .int (l3 + Int32.ofInt 1)), (2, .int (t1 ||| t0)), (0, .ref (G.1 10)), (1, .int l1)]) hC 3 dX9_preservedBy_48 rfl (by decide) rfl ?_
  refine cv_goto (tgt := 12) hC dX9_preservedBy_51 (by decide) ?_
  exact cv_sub [2, 3, 1, 0] rfl (hk12 l1 (t1 ||| t0) (l3 + Int32.ofInt 1) σ)
set_option maxRecDepth 20000 in
set_option maxHeartbeats 2000000 in
theorem I_X9_preservedBy_b12 {X : cv_X} {G : cv_G} {LL : Launch} (hC : cv_C X G LL RX9 cX9_preservedBy 4 (some .int) { frames := 3, cells := 0, slots := 0, locals := 72 }) (k12 : Int32 → Int32 → Int32 → cv_St → Option (Int32 × cv_St)) (hk12 : ∀ (l1 : Int32) (l2 : Int32) (l3 : Int32)  σ, cv_J X G 4 0 0 (cv_QI X G) 12 [(0, .ref (G.1 10)), (1, .int l1), (2, .int l2), (3, .int l3)] [] σ (k12 l1 l2 l3 σ)) (l1 : Int32) (l2 : Int32) (l3 : Int32) (σ : cv_St) : cv_J X G 4 0 0 (cv_QI X G) 12 [(0, .ref (G.1 10)), (1, .int l1), (2, .int l2), (3, .int l3)] [] σ (B_X9_preservedBy_b12 k12 l1 l2 l3 σ) := by
  unfold B_X9_preservedBy_b12
  refine cv_iload_n hC 3 dX9_preservedBy_12 rfl rfl ?_
  refine cv_bipush (v := 8) hC dX9_preservedBy_13 cb_bipush_8 ?_
  refine cv_icmp_ge (tgt := 54) hC dX9_preservedBy_15 (by decide) ?_ ?_
  · refine cv_iload_n hC 2 dX9_preservedBy_54 rfl rfl ?_
    exact cv_iret hC dX9_preservedBy_55
  · refine cv_iload_n hC 2 dX9_preservedBy_18 rfl rfl ?_
    refine cv_aload_n hC 0 dX9_preservedBy_19 rfl rfl ?_
    refine cv_getr hC (fg_X9_45_10 G) dX9_preservedBy_20 ?_
    refine cv_bipush (v := 14) hC dX9_preservedBy_23 cb_bipush_14 ?_
    refine cv_aload_n hC 0 dX9_preservedBy_25 rfl rfl ?_
    refine cv_getr hC (fg_X9_9_10 G) dX9_preservedBy_26 ?_
    refine cv_iload_n hC 1 dX9_preservedBy_29 rfl rfl ?_
    refine cv_iald hC (cv_a43 G) dX9_preservedBy_30 (fun v3 => ?_)
    refine cv_imul hC dX9_preservedBy_31 ?_
    refine cv_iload_n hC 3 dX9_preservedBy_32 rfl rfl ?_
    refine cv_iadd hC dX9_preservedBy_33 ?_
    refine cv_iald hC (cv_a53 G) dX9_preservedBy_34 (fun v4 => ?_)
    refine cv_iload_n hC 3 dX9_preservedBy_35 rfl rfl ?_
    refine cv_icmp_ne (tgt := 45) hC dX9_preservedBy_36 (by decide) ?_ ?_
    · refine cv_iconst (v := 0) hC dX9_preservedBy_45 cb_iconst_0 ?_
      exact cv_sub [0, 1, 3] rfl (J_X9_preservedBy_b46 hC k12 hk12 l1 l3 0 l2 σ)
    · refine cv_iconst (v := 1) hC dX9_preservedBy_39 cb_iconst_1 ?_
      refine cv_iload_n hC 3 dX9_preservedBy_40 rfl rfl ?_
      refine cv_ishl hC dX9_preservedBy_41 ?_
      refine cv_goto (tgt := 46) hC dX9_preservedBy_42 (by decide) ?_
      exact cv_sub [0, 1, 3] rfl (J_X9_preservedBy_b46 hC k12 hk12 l1 l3 (1 <<< (l3 &&& 31)) l2 σ)
set_option maxRecDepth 20000 in
set_option maxHeartbeats 2000000 in
theorem J_X9_preservedBy_b12 {X : cv_X} {G : cv_G} {LL : Launch} (hC : cv_C X G LL RX9 cX9_preservedBy 4 (some .int) { frames := 3, cells := 0, slots := 0, locals := 72 }) : ∀ (n : Nat) (l1 : Int32) (l2 : Int32) (l3 : Int32) (σ : cv_St), cv_J X G 4 0 0 (cv_QI X G) 12 [(0, .ref (G.1 10)), (1, .int l1), (2, .int l2), (3, .int l3)] [] σ (F_X9_preservedBy_b12 n l1 l2 l3 σ) := by
  intro n
  induction n with
  | zero => intro l1 l2 l3 σ; exact cv_none
  | succ n ih => intro l1 l2 l3 σ; exact I_X9_preservedBy_b12 hC _ ih l1 l2 l3 σ
set_option maxRecDepth 20000 in
set_option maxHeartbeats 2000000 in
theorem J_X9_preservedBy {X : cv_X} {G : cv_G} {LL : Launch} (hC : cv_C X G LL RX9 cX9_preservedBy 4 (some .int) { frames := 3, cells := 0, slots := 0, locals := 72 }) (l1 : Int32) (σ : cv_St) : cv_J X G 4 0 0 (cv_QI X G) 0 [(0, .ref (G.1 10)), (1, .int l1)] [] σ (F_X9_preservedBy l1 σ) := by
  unfold F_X9_preservedBy
  refine cv_iconst (v := 0) hC dX9_preservedBy_0 cb_iconst_0 ?_
  refine cv_istore_n (lv' := [(2, .int 0), (0, .ref (G.1 10)), (1, .int l1)]) hC dX9_preservedBy_1 rfl (by decide) rfl ?_
  refine cv_aload_n hC 1 dX9_preservedBy_2 rfl rfl ?_
  refine cv_iload_n hC 2 dX9_preservedBy_3 rfl rfl ?_
  refine cv_callVi (ob := 10) hC [.int l1] [] (M_X9_follows LL G l1 σ) ln_X9_171 vm_X9_follows (ob_10 G) rfl rfl (Nat.le_of_ble_eq_true rfl) ⟨Nat.le_of_ble_eq_true rfl, Nat.le_of_ble_eq_true rfl⟩ ⟨Nat.le_of_ble_eq_true rfl, Nat.le_of_ble_eq_true rfl⟩ dX9_preservedBy_4 (fun v2 s1 => ?_)
  refine cv_if_eq (tgt := 54) hC dX9_preservedBy_7 (by decide) ?_ ?_
  · refine cv_iload_n hC 0 dX9_preservedBy_54 rfl rfl ?_
    exact cv_iret hC dX9_preservedBy_55
  · refine cv_iconst (v := 0) hC dX9_preservedBy_10 cb_iconst_0 ?_
    refine cv_istore_n (lv' := [(3, .int 0), (2, .int 0), (0, .ref (G.1 10)), (1, .int l1)]) hC dX9_preservedBy_11 rfl (by decide) rfl ?_
    exact cv_sub [2, 3, 1, 0] rfl (J_X9_preservedBy_b12 hC 1000 l1 0 0 s1)
set_option maxRecDepth 20000 in
set_option maxHeartbeats 2000000 in
theorem M_X9_preservedBy (LL : Launch) (G : cv_G) (l1 : Int32) (σ : cv_St) : cv_MI LL G yX9_preservedBy cX9_preservedBy 4 (some .int) 3 72 [.ref (G.1 10), .int l1] σ (F_X9_preservedBy l1 σ) :=
  cv_mkI (by decide) (Nat.le_of_ble_eq_true rfl) (fun X hC => J_X9_preservedBy hC l1 σ)
/-! X9_findPreserved -/
set_option maxRecDepth 20000 in
set_option maxHeartbeats 2000000 in
theorem J_X9_findPreserved_b88 {X : cv_X} {G : cv_G} {LL : Launch} (hC : cv_C X G LL RX9 cX9_findPreserved 4 none { frames := 4, cells := 0, slots := 0, locals := 95 }) (k49 : Int32 → cv_St → Option (cv_St)) (hk49 : ∀ (l1 : Int32)  σ, cv_J X G 4 0 0 (cv_QV X G) 49 [(0, .ref (G.1 10)), (1, .int l1)] [] σ (k49 l1 σ)) (k57 : Int32 → Int32 → cv_St → Option (cv_St)) (hk57 : ∀ (l1 : Int32) (l2 : Int32)  σ, cv_J X G 4 0 0 (cv_QV X G) 57 [(0, .ref (G.1 10)), (1, .int l1), (2, .int l2)] [] σ (k57 l1 l2 σ)) (l2 : Int32) (l3 : Int32) (t0 : Int32) (σ : cv_St) : cv_J X G 4 0 0 (cv_QV X G) 88 [(0, .ref (G.1 10)), (2, .int l2), (3, .int l3)] [.int t0] σ (F_X9_findPreserved_b88 k49 k57 l2 l3 t0 σ) := by
  unfold F_X9_findPreserved_b88
  refine cv_istore_n (lv' := [(1, .int t0), (0, .ref (G.1 10)), (2, .int l2), (3, .int l3)]) hC dX9_findPreserved_88 rfl (by decide) rfl ?_
  refine cv_aload_n hC 1 dX9_findPreserved_89 rfl rfl ?_
  refine cv_getr hC (fg_X9_39_10 G) dX9_findPreserved_90 ?_
  refine cv_iload_n hC 2 dX9_findPreserved_93 rfl rfl ?_
  refine cv_iload_n hC 3 dX9_findPreserved_94 rfl rfl ?_
  refine cv_iast hC (cv_a51 G) dX9_findPreserved_95 (fun s3 => ?_)
  refine cv_iinc (lv' := [(2, .int (l2 + Int32.ofInt 1)), (1, .int t0), (0, .ref (G.1 10)), (3, .int l3)]) hC 2 dX9_findPreserved_96 rfl (by decide) rfl ?_
  refine cv_goto (tgt := 57) hC dX9_findPreserved_99 (by decide) ?_
  exact cv_sub [2, 1, 0] rfl (hk57 t0 (l2 + Int32.ofInt 1) s3)
set_option maxRecDepth 20000 in
set_option maxHeartbeats 2000000 in
theorem J_X9_findPreserved_b83 {X : cv_X} {G : cv_G} {LL : Launch} (hC : cv_C X G LL RX9 cX9_findPreserved 4 none { frames := 4, cells := 0, slots := 0, locals := 95 }) (k49 : Int32 → cv_St → Option (cv_St)) (hk49 : ∀ (l1 : Int32)  σ, cv_J X G 4 0 0 (cv_QV X G) 49 [(0, .ref (G.1 10)), (1, .int l1)] [] σ (k49 l1 σ)) (k57 : Int32 → Int32 → cv_St → Option (cv_St)) (hk57 : ∀ (l1 : Int32) (l2 : Int32)  σ, cv_J X G 4 0 0 (cv_QV X G) 57 [(0, .ref (G.1 10)), (1, .int l1), (2, .int l2)] [] σ (k57 l1 l2 σ)) (l2 : Int32) (l3 : Int32) (σ : cv_St) : cv_J X G 4 0 0 (cv_QV X G) 83 [(0, .ref (G.1 10)), (2, .int l2), (3, .int l3)] [] σ (F_X9_findPreserved_b83 k49 k57 l2 l3 σ) := by
  unfold F_X9_findPreserved_b83
  refine cv_iconst (v := 1) hC dX9_findPreserved_83 cb_iconst_1 ?_
  refine cv_goto (tgt := 88) hC dX9_findPreserved_84 (by decide) ?_
  exact cv_sub [0, 1, 2] rfl (J_X9_findPreserved_b88 hC k49 hk49 k57 hk57 l2 l3 1 σ)
set_option maxRecDepth 20000 in
set_option maxHeartbeats 2000000 in
theorem I_X9_findPreserved_b57 {X : cv_X} {G : cv_G} {LL : Launch} (hC : cv_C X G LL RX9 cX9_findPreserved 4 none { frames := 4, cells := 0, slots := 0, locals := 95 }) (k49 : Int32 → cv_St → Option (cv_St)) (hk49 : ∀ (l1 : Int32)  σ, cv_J X G 4 0 0 (cv_QV X G) 49 [(0, .ref (G.1 10)), (1, .int l1)] [] σ (k49 l1 σ)) (k57 : Int32 → Int32 → cv_St → Option (cv_St)) (hk57 : ∀ (l1 : Int32) (l2 : Int32)  σ, cv_J X G 4 0 0 (cv_QV X G) 57 [(0, .ref (G.1 10)), (1, .int l1), (2, .int l2)] [] σ (k57 l1 l2 σ)) (l1 : Int32) (l2 : Int32) (σ : cv_St) : cv_J X G 4 0 0 (cv_QV X G) 57 [(0, .ref (G.1 10)), (1, .int l1), (2, .int l2)] [] σ (B_X9_findPreserved_b57 k49 k57 l1 l2 σ) := by
  unfold B_X9_findPreserved_b57
  refine cv_iload_n hC 2 dX9_findPreserved_57 rfl rfl ?_
  refine cv_bipush (v := 8) hC dX9_findPreserved_58 cb_bipush_8 ?_
  refine cv_icmp_ge (tgt := 102) hC dX9_findPreserved_60 (by decide) ?_ ?_
  · refine cv_goto (tgt := 49) hC dX9_findPreserved_102 (by decide) ?_
    exact cv_sub [0, 1] rfl (hk49 l1 σ)
  · refine cv_aload_n hC 0 dX9_findPreserved_63 rfl rfl ?_
    refine cv_iload_n hC 2 dX9_findPreserved_64 rfl rfl ?_
    refine cv_callVi (ob := 10) hC [.int l2] [] (M_X9_preservedBy LL G l2 σ) ln_X9_174 vm_X9_preservedBy (ob_10 G) rfl rfl (Nat.le_of_ble_eq_true rfl) ⟨Nat.le_of_ble_eq_true rfl, Nat.le_of_ble_eq_true rfl⟩ ⟨Nat.le_of_ble_eq_true rfl, Nat.le_of_ble_eq_true rfl⟩ dX9_findPreserved_65 (fun v2 s1 => ?_)
    refine cv_istore_n (lv' := [(3, .int v2), (0, .ref (G.1 10)), (1, .int l1), (2, .int l2)]) hC dX9_findPreserved_68 rfl (by decide) rfl ?_
    refine cv_iload_n hC 2 dX9_findPreserved_69 rfl rfl ?_
    refine cv_if_ne (tgt := 83) hC dX9_findPreserved_70 (by decide) ?_ ?_
    · exact cv_sub [1, 3, 0] rfl (J_X9_findPreserved_b83 hC k49 hk49 k57 hk57 l2 v2 s1)
    · refine cv_iload_n hC 0 dX9_findPreserved_73 rfl rfl ?_
      refine cv_aload_n hC 1 dX9_findPreserved_74 rfl rfl ?_
      refine cv_getr hC (fg_X9_39_10 G) dX9_findPreserved_75 ?_
      refine cv_iload_n hC 3 dX9_findPreserved_78 rfl rfl ?_
      refine cv_iald hC (cv_a51 G) dX9_findPreserved_79 (fun v4 => ?_)
      refine cv_icmp_eq (tgt := 87) hC dX9_findPreserved_80 (by decide) ?_ ?_
      · refine cv_iconst (v := 0) hC dX9_findPreserved_87 cb_iconst_0 ?_
        exact cv_sub [1, 3, 0] rfl (J_X9_findPreserved_b88 hC k49 hk49 k57 hk57 l2 v2 0 s1)
      · exact cv_sub [1, 3, 0] rfl (J_X9_findPreserved_b83 hC k49 hk49 k57 hk57 l2 v2 s1)
set_option maxRecDepth 20000 in
set_option maxHeartbeats 2000000 in
theorem J_X9_findPreserved_b57 {X : cv_X} {G : cv_G} {LL : Launch} (hC : cv_C X G LL RX9 cX9_findPreserved 4 none { frames := 4, cells := 0, slots := 0, locals := 95 }) (k49 : Int32 → cv_St → Option (cv_St)) (hk49 : ∀ (l1 : Int32)  σ, cv_J X G 4 0 0 (cv_QV X G) 49 [(0, .ref (G.1 10)), (1, .int l1)] [] σ (k49 l1 σ)) : ∀ (n : Nat) (l1 : Int32) (l2 : Int32) (σ : cv_St), cv_J X G 4 0 0 (cv_QV X G) 57 [(0, .ref (G.1 10)), (1, .int l1), (2, .int l2)] [] σ (F_X9_findPreserved_b57 k49 n l1 l2 σ) := by
  intro n
  induction n with
  | zero => intro l1 l2 σ; exact cv_none
  | succ n ih => intro l1 l2 σ; exact I_X9_findPreserved_b57 hC k49 hk49 _ ih l1 l2 σ
set_option maxRecDepth 20000 in
set_option maxHeartbeats 2000000 in
theorem I_X9_findPreserved_b49 {X : cv_X} {G : cv_G} {LL : Launch} (hC : cv_C X G LL RX9 cX9_findPreserved 4 none { frames := 4, cells := 0, slots := 0, locals := 95 }) (k49 : Int32 → cv_St → Option (cv_St)) (hk49 : ∀ (l1 : Int32)  σ, cv_J X G 4 0 0 (cv_QV X G) 49 [(0, .ref (G.1 10)), (1, .int l1)] [] σ (k49 l1 σ)) (l1 : Int32) (σ : cv_St) : cv_J X G 4 0 0 (cv_QV X G) 49 [(0, .ref (G.1 10)), (1, .int l1)] [] σ (B_X9_findPreserved_b49 k49 l1 σ) := by
  unfold B_X9_findPreserved_b49
  refine cv_iload_n hC 1 dX9_findPreserved_49 rfl rfl ?_
  refine cv_if_eq (tgt := 105) hC dX9_findPreserved_50 (by decide) ?_ ?_
  · exact cv_vret hC dX9_findPreserved_105
  · refine cv_iconst (v := 0) hC dX9_findPreserved_53 cb_iconst_0 ?_
    refine cv_istore_n (lv' := [(1, .int 0), (0, .ref (G.1 10))]) hC dX9_findPreserved_54 rfl (by decide) rfl ?_
    refine cv_iconst (v := 0) hC dX9_findPreserved_55 cb_iconst_0 ?_
    refine cv_istore_n (lv' := [(2, .int 0), (1, .int 0), (0, .ref (G.1 10))]) hC dX9_findPreserved_56 rfl (by decide) rfl ?_
    exact cv_sub [2, 1, 0] rfl (J_X9_findPreserved_b57 hC k49 hk49 1000 0 0 σ)
set_option maxRecDepth 20000 in
set_option maxHeartbeats 2000000 in
theorem J_X9_findPreserved_b49 {X : cv_X} {G : cv_G} {LL : Launch} (hC : cv_C X G LL RX9 cX9_findPreserved 4 none { frames := 4, cells := 0, slots := 0, locals := 95 }) : ∀ (n : Nat) (l1 : Int32) (σ : cv_St), cv_J X G 4 0 0 (cv_QV X G) 49 [(0, .ref (G.1 10)), (1, .int l1)] [] σ (F_X9_findPreserved_b49 n l1 σ) := by
  intro n
  induction n with
  | zero => intro l1 σ; exact cv_none
  | succ n ih => intro l1 σ; exact I_X9_findPreserved_b49 hC _ ih l1 σ
set_option maxRecDepth 20000 in
set_option maxHeartbeats 2000000 in
theorem J_X9_findPreserved_b40 {X : cv_X} {G : cv_G} {LL : Launch} (hC : cv_C X G LL RX9 cX9_findPreserved 4 none { frames := 4, cells := 0, slots := 0, locals := 95 }) (k2 : Int32 → cv_St → Option (cv_St)) (hk2 : ∀ (l1 : Int32)  σ, cv_J X G 4 0 0 (cv_QV X G) 2 [(0, .ref (G.1 10)), (1, .int l1)] [] σ (k2 l1 σ)) (l1 : Int32) (t0 : Int32) (t1 : Int32) (σ : cv_St) : cv_J X G 4 0 0 (cv_QV X G) 40 [(0, .ref (G.1 10)), (1, .int l1)] [.int t0, .int t1, .ref (G.1 51)] σ (F_X9_findPreserved_b40 k2 l1 t0 t1 σ) := by
  unfold F_X9_findPreserved_b40
  refine cv_iast hC (cv_a51 G) dX9_findPreserved_40 (fun s9 => ?_)
  refine cv_iinc (lv' := [(1, .int (l1 + Int32.ofInt 1)), (0, .ref (G.1 10))]) hC 1 dX9_findPreserved_41 rfl (by decide) rfl ?_
  refine cv_goto (tgt := 2) hC dX9_findPreserved_44 (by decide) ?_
  exact cv_sub [1, 0] rfl (hk2 (l1 + Int32.ofInt 1) s9)
set_option maxRecDepth 20000 in
set_option maxHeartbeats 2000000 in
theorem I_X9_findPreserved_b2 {X : cv_X} {G : cv_G} {LL : Launch} (hC : cv_C X G LL RX9 cX9_findPreserved 4 none { frames := 4, cells := 0, slots := 0, locals := 95 }) (k2 : Int32 → cv_St → Option (cv_St)) (hk2 : ∀ (l1 : Int32)  σ, cv_J X G 4 0 0 (cv_QV X G) 2 [(0, .ref (G.1 10)), (1, .int l1)] [] σ (k2 l1 σ)) (l1 : Int32) (σ : cv_St) : cv_J X G 4 0 0 (cv_QV X G) 2 [(0, .ref (G.1 10)), (1, .int l1)] [] σ (B_X9_findPreserved_b2 k2 l1 σ) := by
  unfold B_X9_findPreserved_b2
  refine cv_iload_n hC 1 dX9_findPreserved_2 rfl rfl ?_
  refine cv_bipush (v := 8) hC dX9_findPreserved_3 cb_bipush_8 ?_
  refine cv_icmp_ge (tgt := 47) hC dX9_findPreserved_5 (by decide) ?_ ?_
  · refine cv_iconst (v := 1) hC dX9_findPreserved_47 cb_iconst_1 ?_
    refine cv_istore_n (lv' := [(1, .int 1), (0, .ref (G.1 10))]) hC dX9_findPreserved_48 rfl (by decide) rfl ?_
    exact cv_sub [1, 0] rfl (J_X9_findPreserved_b49 hC 1000 1 σ)
  · refine cv_aload_n hC 0 dX9_findPreserved_8 rfl rfl ?_
    refine cv_getr hC (fg_X9_36_10 G) dX9_findPreserved_9 ?_
    refine cv_iload_n hC 1 dX9_findPreserved_12 rfl rfl ?_
    refine cv_aload_n hC 0 dX9_findPreserved_13 rfl rfl ?_
    refine cv_iload_n hC 1 dX9_findPreserved_14 rfl rfl ?_
    refine cv_callVi (ob := 10) hC [.int l1] [.int l1, .ref (G.1 50)] (M_X9_follows LL G l1 σ) ln_X9_171 vm_X9_follows (ob_10 G) rfl rfl (Nat.le_of_ble_eq_true rfl) ⟨Nat.le_of_ble_eq_true rfl, Nat.le_of_ble_eq_true rfl⟩ ⟨Nat.le_of_ble_eq_true rfl, Nat.le_of_ble_eq_true rfl⟩ dX9_findPreserved_15 (fun v6 s5 => ?_)
    refine cv_zast hC (cv_a50 G) dX9_findPreserved_18 (fun s7 => ?_)
    refine cv_aload_n hC 0 dX9_findPreserved_19 rfl rfl ?_
    refine cv_getr hC (fg_X9_39_10 G) dX9_findPreserved_20 ?_
    refine cv_iload_n hC 1 dX9_findPreserved_23 rfl rfl ?_
    refine cv_aload_n hC 0 dX9_findPreserved_24 rfl rfl ?_
    refine cv_getr hC (fg_X9_36_10 G) dX9_findPreserved_25 ?_
    refine cv_iload_n hC 1 dX9_findPreserved_28 rfl rfl ?_
    refine cv_zald hC (cv_a50 G) dX9_findPreserved_29 (fun v8 => ?_)
    refine cv_if_eq (tgt := 39) hC dX9_findPreserved_30 (by decide) ?_ ?_
    · refine cv_iconst (v := 0) hC dX9_findPreserved_39 cb_iconst_0 ?_
      exact cv_sub [0, 1] rfl (J_X9_findPreserved_b40 hC k2 hk2 l1 0 l1 s7)
    · refine cv_sipush (v := 255) hC dX9_findPreserved_33 cb_sipush_255 ?_
      refine cv_goto (tgt := 40) hC dX9_findPreserved_36 (by decide) ?_
      exact cv_sub [0, 1] rfl (J_X9_findPreserved_b40 hC k2 hk2 l1 255 l1 s7)
set_option maxRecDepth 20000 in
set_option maxHeartbeats 2000000 in
theorem J_X9_findPreserved_b2 {X : cv_X} {G : cv_G} {LL : Launch} (hC : cv_C X G LL RX9 cX9_findPreserved 4 none { frames := 4, cells := 0, slots := 0, locals := 95 }) : ∀ (n : Nat) (l1 : Int32) (σ : cv_St), cv_J X G 4 0 0 (cv_QV X G) 2 [(0, .ref (G.1 10)), (1, .int l1)] [] σ (F_X9_findPreserved_b2 n l1 σ) := by
  intro n
  induction n with
  | zero => intro l1 σ; exact cv_none
  | succ n ih => intro l1 σ; exact I_X9_findPreserved_b2 hC _ ih l1 σ
set_option maxRecDepth 20000 in
set_option maxHeartbeats 2000000 in
theorem J_X9_findPreserved {X : cv_X} {G : cv_G} {LL : Launch} (hC : cv_C X G LL RX9 cX9_findPreserved 4 none { frames := 4, cells := 0, slots := 0, locals := 95 }) (σ : cv_St) : cv_J X G 4 0 0 (cv_QV X G) 0 [(0, .ref (G.1 10))] [] σ (F_X9_findPreserved σ) := by
  unfold F_X9_findPreserved
  refine cv_iconst (v := 0) hC dX9_findPreserved_0 cb_iconst_0 ?_
  refine cv_istore_n (lv' := [(1, .int 0), (0, .ref (G.1 10))]) hC dX9_findPreserved_1 rfl (by decide) rfl ?_
  exact cv_sub [1, 0] rfl (J_X9_findPreserved_b2 hC 1000 0 σ)
set_option maxRecDepth 20000 in
set_option maxHeartbeats 2000000 in
theorem M_X9_findPreserved (LL : Launch) (G : cv_G) (σ : cv_St) : cv_MV LL G yX9_findPreserved cX9_findPreserved 4 4 95 [.ref (G.1 10)] σ (F_X9_findPreserved σ) :=
  cv_mkV (by decide) (Nat.le_of_ble_eq_true rfl) (fun X hC => J_X9_findPreserved hC σ)
/-! X9_clobbered -/
set_option maxRecDepth 20000 in
set_option maxHeartbeats 2000000 in
theorem J_X9_clobbered {X : cv_X} {G : cv_G} {LL : Launch} (hC : cv_C X G LL RX9 cX9_clobbered 2 (some .int) { frames := 0, cells := 0, slots := 0, locals := 0 }) (l1 : Int32) (σ : cv_St) : cv_J X G 2 0 0 (cv_QI X G) 0 [(0, .ref (G.1 10)), (1, .int l1)] [] σ (F_X9_clobbered l1 σ) := by
  unfold F_X9_clobbered
  refine cv_sipush (v := 255) hC dX9_clobbered_0 cb_sipush_255 ?_
  refine cv_aload_n hC 0 dX9_clobbered_3 rfl rfl ?_
  refine cv_getr hC (fg_X9_39_10 G) dX9_clobbered_4 ?_
  refine cv_iload_n hC 1 dX9_clobbered_7 rfl rfl ?_
  refine cv_iald hC (cv_a51 G) dX9_clobbered_8 (fun v1 => ?_)
  refine cv_iconst (v := (-1)) hC dX9_clobbered_9 cb_iconst_m1 ?_
  refine cv_ixor hC dX9_clobbered_10 ?_
  refine cv_iand hC dX9_clobbered_11 ?_
  exact cv_iret hC dX9_clobbered_12
set_option maxRecDepth 20000 in
set_option maxHeartbeats 2000000 in
theorem M_X9_clobbered (LL : Launch) (G : cv_G) (l1 : Int32) (σ : cv_St) : cv_MI LL G yX9_clobbered cX9_clobbered 2 (some .int) 0 0 [.ref (G.1 10), .int l1] σ (F_X9_clobbered l1 σ) :=
  cv_mkI (by decide) (Nat.le_of_ble_eq_true rfl) (fun X hC => J_X9_clobbered hC l1 σ)
/-! X9_beginSets -/
set_option maxRecDepth 20000 in
set_option maxHeartbeats 2000000 in
theorem J_X9_beginSets_b22 {X : cv_X} {G : cv_G} {LL : Launch} (hC : cv_C X G LL RX9 cX9_beginSets 3 none { frames := 0, cells := 0, slots := 0, locals := 0 }) (k2 : Int32 → cv_St → Option (cv_St)) (hk2 : ∀ (l2 : Int32)  σ, cv_J X G 3 0 0 (cv_QV X G) 2 [(0, .ref (G.1 10)), (2, .int l2)] [] σ (k2 l2 σ)) (l2 : Int32) (t0 : Int32) (t1 : Int32) (σ : cv_St) : cv_J X G 3 0 0 (cv_QV X G) 22 [(0, .ref (G.1 10)), (2, .int l2)] [.int t0, .int t1, .ref (G.1 56)] σ (F_X9_beginSets_b22 k2 l2 t0 t1 σ) := by
  unfold F_X9_beginSets_b22
  refine cv_iast hC (cv_a56 G) dX9_beginSets_22 (fun s1 => ?_)
  refine cv_iinc (lv' := [(2, .int (l2 + Int32.ofInt 1)), (0, .ref (G.1 10))]) hC 1 dX9_beginSets_23 rfl (by decide) rfl ?_
  refine cv_goto (tgt := 2) hC dX9_beginSets_26 (by decide) ?_
  exact cv_sub [1, 0] rfl (hk2 (l2 + Int32.ofInt 1) s1)
set_option maxRecDepth 20000 in
set_option maxHeartbeats 2000000 in
theorem I_X9_beginSets_b2 {X : cv_X} {G : cv_G} {LL : Launch} (hC : cv_C X G LL RX9 cX9_beginSets 3 none { frames := 0, cells := 0, slots := 0, locals := 0 }) (k2 : Int32 → cv_St → Option (cv_St)) (hk2 : ∀ (l2 : Int32)  σ, cv_J X G 3 0 0 (cv_QV X G) 2 [(0, .ref (G.1 10)), (2, .int l2)] [] σ (k2 l2 σ)) (l2 : Int32) (σ : cv_St) : cv_J X G 3 0 0 (cv_QV X G) 2 [(0, .ref (G.1 10)), (2, .int l2)] [] σ (B_X9_beginSets_b2 k2 l2 σ) := by
  unfold B_X9_beginSets_b2
  refine cv_iload_n hC 1 dX9_beginSets_2 rfl rfl ?_
  refine cv_bipush (v := 15) hC dX9_beginSets_3 cb_bipush_15 ?_
  refine cv_icmp_ge (tgt := 29) hC dX9_beginSets_5 (by decide) ?_ ?_
  · exact cv_vret hC dX9_beginSets_29
  · refine cv_aload_n hC 0 dX9_beginSets_8 rfl rfl ?_
    refine cv_getr hC (fg_X9_54_10 G) dX9_beginSets_9 ?_
    refine cv_iload_n hC 1 dX9_beginSets_12 rfl rfl ?_
    refine cv_iload_n hC 1 dX9_beginSets_13 rfl rfl ?_
    refine cv_if_ne (tgt := 21) hC dX9_beginSets_14 (by decide) ?_ ?_
    · refine cv_iconst (v := (-1)) hC dX9_beginSets_21 cb_iconst_m1 ?_
      exact cv_sub [0, 1] rfl (J_X9_beginSets_b22 hC k2 hk2 l2 (-1) l2 σ)
    · refine cv_iconst (v := 0) hC dX9_beginSets_17 cb_iconst_0 ?_
      refine cv_goto (tgt := 22) hC dX9_beginSets_18 (by decide) ?_
      exact cv_sub [0, 1] rfl (J_X9_beginSets_b22 hC k2 hk2 l2 0 l2 σ)
set_option maxRecDepth 20000 in
set_option maxHeartbeats 2000000 in
theorem J_X9_beginSets_b2 {X : cv_X} {G : cv_G} {LL : Launch} (hC : cv_C X G LL RX9 cX9_beginSets 3 none { frames := 0, cells := 0, slots := 0, locals := 0 }) : ∀ (n : Nat) (l2 : Int32) (σ : cv_St), cv_J X G 3 0 0 (cv_QV X G) 2 [(0, .ref (G.1 10)), (2, .int l2)] [] σ (F_X9_beginSets_b2 n l2 σ) := by
  intro n
  induction n with
  | zero => intro l2 σ; exact cv_none
  | succ n ih => intro l2 σ; exact I_X9_beginSets_b2 hC _ ih l2 σ
set_option maxRecDepth 20000 in
set_option maxHeartbeats 2000000 in
theorem J_X9_beginSets {X : cv_X} {G : cv_G} {LL : Launch} (hC : cv_C X G LL RX9 cX9_beginSets 3 none { frames := 0, cells := 0, slots := 0, locals := 0 }) (l1 : Int32) (σ : cv_St) : cv_J X G 3 0 0 (cv_QV X G) 0 [(0, .ref (G.1 10)), (1, .int l1)] [] σ (F_X9_beginSets l1 σ) := by
  unfold F_X9_beginSets
  refine cv_iconst (v := 0) hC dX9_beginSets_0 cb_iconst_0 ?_
  refine cv_istore_n (lv' := [(2, .int 0), (0, .ref (G.1 10)), (1, .int l1)]) hC dX9_beginSets_1 rfl (by decide) rfl ?_
  exact cv_sub [1, 0] rfl (J_X9_beginSets_b2 hC 1000 0 σ)
set_option maxRecDepth 20000 in
set_option maxHeartbeats 2000000 in
theorem M_X9_beginSets (LL : Launch) (G : cv_G) (l1 : Int32) (σ : cv_St) : cv_MV LL G yX9_beginSets cX9_beginSets 3 0 0 [.ref (G.1 10), .int l1] σ (F_X9_beginSets l1 σ) :=
  cv_mkV (by decide) (Nat.le_of_ble_eq_true rfl) (fun X hC => J_X9_beginSets hC l1 σ)
/-! X9_bringSet -/
set_option maxRecDepth 20000 in
set_option maxHeartbeats 2000000 in
theorem I_X9_bringSet_b3 {X : cv_X} {G : cv_G} {LL : Launch} (hC : cv_C X G LL RX9 cX9_bringSet 5 none { frames := 2, cells := 0, slots := 0, locals := 46 }) (k3 : Int32 → Int32 → Int32 → Int32 → cv_St → Option (cv_St)) (hk3 : ∀ (l1 : Int32) (l2 : Int32) (l3 : Int32) (l4 : Int32)  σ, cv_J X G 5 0 0 (cv_QV X G) 3 [(0, .ref (G.1 10)), (1, .int l1), (2, .int l2), (3, .int l3), (4, .int l4)] [] σ (k3 l1 l2 l3 l4 σ)) (l1 : Int32) (l2 : Int32) (l3 : Int32) (l4 : Int32) (σ : cv_St) : cv_J X G 5 0 0 (cv_QV X G) 3 [(0, .ref (G.1 10)), (1, .int l1), (2, .int l2), (3, .int l3), (4, .int l4)] [] σ (B_X9_bringSet_b3 k3 l1 l2 l3 l4 σ) := by
  unfold B_X9_bringSet_b3
  refine cv_iload hC 4 dX9_bringSet_3 rfl ?_
  refine cv_iconst (v := 2) hC dX9_bringSet_5 cb_iconst_2 ?_
  refine cv_icmp_ge (tgt := 32) hC dX9_bringSet_6 (by decide) ?_ ?_
  · exact cv_vret hC dX9_bringSet_32
  · refine cv_aload_n hC 0 dX9_bringSet_9 rfl rfl ?_
    refine cv_getr hC (fg_X9_54_10 G) dX9_bringSet_10 ?_
    refine cv_aload_n hC 0 dX9_bringSet_13 rfl rfl ?_
    refine cv_iload_n hC 1 dX9_bringSet_14 rfl rfl ?_
    refine cv_iload_n hC 2 dX9_bringSet_15 rfl rfl ?_
    refine cv_iload hC 4 dX9_bringSet_16 rfl ?_
    refine cv_callVi (ob := 10) hC [.int l1, .int l2, .int l4] [.ref (G.1 56)] (M_X9_next LL G l1 l2 l4 σ) ln_X9_155 vm_X9_next (ob_10 G) rfl rfl (Nat.le_of_ble_eq_true rfl) ⟨Nat.le_of_ble_eq_true rfl, Nat.le_of_ble_eq_true rfl⟩ ⟨Nat.le_of_ble_eq_true rfl, Nat.le_of_ble_eq_true rfl⟩ dX9_bringSet_18 (fun v2 s1 => ?_)
    refine cv_dup2 hC dX9_bringSet_21 rfl rfl ?_
    refine cv_iald hC (cv_a56 G) dX9_bringSet_22 (fun v3 => ?_)
    refine cv_iload_n hC 3 dX9_bringSet_23 rfl rfl ?_
    refine cv_iand hC dX9_bringSet_24 ?_
    refine cv_iast hC (cv_a56 G) dX9_bringSet_25 (fun s4 => ?_)
    refine cv_iinc (lv' := [(4, .int (l4 + Int32.ofInt 1)), (0, .ref (G.1 10)), (1, .int l1), (2, .int l2), (3, .int l3)]) hC 4 dX9_bringSet_26 rfl (by decide) rfl ?_
    refine cv_goto (tgt := 3) hC dX9_bringSet_29 (by decide) ?_
    exact cv_sub [1, 2, 3, 4, 0] rfl (hk3 l1 l2 l3 (l4 + Int32.ofInt 1) s4)
set_option maxRecDepth 20000 in
set_option maxHeartbeats 2000000 in
theorem J_X9_bringSet_b3 {X : cv_X} {G : cv_G} {LL : Launch} (hC : cv_C X G LL RX9 cX9_bringSet 5 none { frames := 2, cells := 0, slots := 0, locals := 46 }) : ∀ (n : Nat) (l1 : Int32) (l2 : Int32) (l3 : Int32) (l4 : Int32) (σ : cv_St), cv_J X G 5 0 0 (cv_QV X G) 3 [(0, .ref (G.1 10)), (1, .int l1), (2, .int l2), (3, .int l3), (4, .int l4)] [] σ (F_X9_bringSet_b3 n l1 l2 l3 l4 σ) := by
  intro n
  induction n with
  | zero => intro l1 l2 l3 l4 σ; exact cv_none
  | succ n ih => intro l1 l2 l3 l4 σ; exact I_X9_bringSet_b3 hC _ ih l1 l2 l3 l4 σ
set_option maxRecDepth 20000 in
set_option maxHeartbeats 2000000 in
theorem J_X9_bringSet {X : cv_X} {G : cv_G} {LL : Launch} (hC : cv_C X G LL RX9 cX9_bringSet 5 none { frames := 2, cells := 0, slots := 0, locals := 46 }) (l1 : Int32) (l2 : Int32) (l3 : Int32) (σ : cv_St) : cv_J X G 5 0 0 (cv_QV X G) 0 [(0, .ref (G.1 10)), (1, .int l1), (2, .int l2), (3, .int l3)] [] σ (F_X9_bringSet l1 l2 l3 σ) := by
  unfold F_X9_bringSet
  refine cv_iconst (v := 0) hC dX9_bringSet_0 cb_iconst_0 ?_
  refine cv_istore (lv' := [(4, .int 0), (0, .ref (G.1 10)), (1, .int l1), (2, .int l2), (3, .int l3)]) hC dX9_bringSet_1 (by decide) rfl ?_
  exact cv_sub [1, 2, 3, 4, 0] rfl (J_X9_bringSet_b3 hC 1000 l1 l2 l3 0 σ)
set_option maxRecDepth 20000 in
set_option maxHeartbeats 2000000 in
theorem M_X9_bringSet (LL : Launch) (G : cv_G) (l1 : Int32) (l2 : Int32) (l3 : Int32) (σ : cv_St) : cv_MV LL G yX9_bringSet cX9_bringSet 5 2 46 [.ref (G.1 10), .int l1, .int l2, .int l3] σ (F_X9_bringSet l1 l2 l3 σ) :=
  cv_mkV (by decide) (Nat.le_of_ble_eq_true rfl) (fun X hC => J_X9_bringSet hC l1 l2 l3 σ)
/-! X9_definedBy -/
set_option maxRecDepth 20000 in
set_option maxHeartbeats 2000000 in
theorem J_X9_definedBy_b100 {X : cv_X} {G : cv_G} {LL : Launch} (hC : cv_C X G LL RX9 cX9_definedBy 5 (some .int) { frames := 3, cells := 0, slots := 0, locals := 70 }) (k7 : Int32 → Int32 → cv_St → Option (Int32 × cv_St)) (hk7 : ∀ (l1 : Int32) (l2 : Int32)  σ, cv_J X G 5 0 0 (cv_QI X G) 7 [(0, .ref (G.1 10)), (1, .int l1), (2, .int l2)] [] σ (k7 l1 l2 σ)) (l1 : Int32) (l2 : Int32) (σ : cv_St) : cv_J X G 5 0 0 (cv_QI X G) 100 [(0, .ref (G.1 10)), (1, .int l1), (2, .int l2)] [] σ (F_X9_definedBy_b100 k7 l1 l2 σ) := by
  unfold F_X9_definedBy_b100
  refine cv_iinc (lv' := [(2, .int (l2 + Int32.ofInt 1)), (0, .ref (G.1 10)), (1, .int l1)]) hC 2 dX9_definedBy_100 rfl (by decide) rfl ?_
  refine cv_goto (tgt := 7) hC dX9_definedBy_103 (by decide) ?_
  exact cv_sub [1, 2, 0] rfl (hk7 l1 (l2 + Int32.ofInt 1) σ)
set_option maxRecDepth 20000 in
set_option maxHeartbeats 2000000 in
theorem J_X9_definedBy_b83 {X : cv_X} {G : cv_G} {LL : Launch} (hC : cv_C X G LL RX9 cX9_definedBy 5 (some .int) { frames := 3, cells := 0, slots := 0, locals := 70 }) (k7 : Int32 → Int32 → cv_St → Option (Int32 × cv_St)) (hk7 : ∀ (l1 : Int32) (l2 : Int32)  σ, cv_J X G 5 0 0 (cv_QI X G) 7 [(0, .ref (G.1 10)), (1, .int l1), (2, .int l2)] [] σ (k7 l1 l2 σ)) (l1 : Int32) (l2 : Int32) (t0 : Int32) (σ : cv_St) : cv_J X G 5 0 0 (cv_QI X G) 83 [(0, .ref (G.1 10)), (1, .int l1), (2, .int l2)] [.int t0] σ (F_X9_definedBy_b83 k7 l1 l2 t0 σ) := by
  unfold F_X9_definedBy_b83
  refine cv_istore (lv' := [(4, .int t0), (0, .ref (G.1 10)), (1, .int l1), (2, .int l2)]) hC dX9_definedBy_83 (by decide) rfl ?_
  refine cv_aload_n hC 1 dX9_definedBy_85 rfl rfl ?_
  refine cv_iload_n hC 2 dX9_definedBy_86 rfl rfl ?_
  refine cv_iload_n hC 3 dX9_definedBy_87 rfl rfl ?_
  refine cv_aload_n hC 1 dX9_definedBy_88 rfl rfl ?_
  refine cv_getr hC (fg_X9_54_10 G) dX9_definedBy_89 ?_
  refine cv_iload_n hC 3 dX9_definedBy_92 rfl rfl ?_
  refine cv_iald hC (cv_a56 G) dX9_definedBy_93 (fun v11 => ?_)
  refine cv_iload hC 0 dX9_definedBy_94 rfl ?_
  refine cv_ior hC dX9_definedBy_96 ?_
  refine cv_callVv (ob := 10) hC [.int l1, .int l2, .int (v11 ||| t0)] [] (M_X9_bringSet LL G l1 l2 (v11 ||| t0) σ) ln_X9_182 vm_X9_bringSet (ob_10 G) rfl rfl (Nat.le_of_ble_eq_true rfl) ⟨Nat.le_of_ble_eq_true rfl, Nat.le_of_ble_eq_true rfl⟩ ⟨Nat.le_of_ble_eq_true rfl, Nat.le_of_ble_eq_true rfl⟩ dX9_definedBy_97 (fun s12 => ?_)
  exact cv_sub [1, 2, 3] rfl (J_X9_definedBy_b100 hC k7 hk7 l1 l2 s12)
set_option maxRecDepth 20000 in
set_option maxHeartbeats 2000000 in
theorem J_X9_definedBy_b51 {X : cv_X} {G : cv_G} {LL : Launch} (hC : cv_C X G LL RX9 cX9_definedBy 5 (some .int) { frames := 3, cells := 0, slots := 0, locals := 70 }) (k7 : Int32 → Int32 → cv_St → Option (Int32 × cv_St)) (hk7 : ∀ (l1 : Int32) (l2 : Int32)  σ, cv_J X G 5 0 0 (cv_QI X G) 7 [(0, .ref (G.1 10)), (1, .int l1), (2, .int l2)] [] σ (k7 l1 l2 σ)) (l1 : Int32) (l2 : Int32) (σ : cv_St) : cv_J X G 5 0 0 (cv_QI X G) 51 [(0, .ref (G.1 10)), (1, .int l1), (2, .int l2)] [] σ (F_X9_definedBy_b51 k7 l1 l2 σ) := by
  unfold F_X9_definedBy_b51
  refine cv_iconst (v := 1) hC dX9_definedBy_51 cb_iconst_1 ?_
  refine cv_aload_n hC 0 dX9_definedBy_52 rfl rfl ?_
  refine cv_iload_n hC 1 dX9_definedBy_53 rfl rfl ?_
  refine cv_iload_n hC 2 dX9_definedBy_54 rfl rfl ?_
  refine cv_callVi (ob := 10) hC [.int l1, .int l2] [.int 1] (M_X9_first LL G l1 l2 σ) ln_X9_141 vm_X9_first (ob_10 G) rfl rfl (Nat.le_of_ble_eq_true rfl) ⟨Nat.le_of_ble_eq_true rfl, Nat.le_of_ble_eq_true rfl⟩ ⟨Nat.le_of_ble_eq_true rfl, Nat.le_of_ble_eq_true rfl⟩ dX9_definedBy_55 (fun v10 s9 => ?_)
  refine cv_ishl hC dX9_definedBy_58 ?_
  refine cv_goto (tgt := 83) hC dX9_definedBy_59 (by decide) ?_
  exact cv_sub [0, 1, 2] rfl (J_X9_definedBy_b83 hC k7 hk7 l1 l2 (1 <<< (v10 &&& 31)) s9)
set_option maxRecDepth 20000 in
set_option maxHeartbeats 2000000 in
theorem I_X9_definedBy_b7 {X : cv_X} {G : cv_G} {LL : Launch} (hC : cv_C X G LL RX9 cX9_definedBy 5 (some .int) { frames := 3, cells := 0, slots := 0, locals := 70 }) (k7 : Int32 → Int32 → cv_St → Option (Int32 × cv_St)) (hk7 : ∀ (l1 : Int32) (l2 : Int32)  σ, cv_J X G 5 0 0 (cv_QI X G) 7 [(0, .ref (G.1 10)), (1, .int l1), (2, .int l2)] [] σ (k7 l1 l2 σ)) (l1 : Int32) (l2 : Int32) (σ : cv_St) : cv_J X G 5 0 0 (cv_QI X G) 7 [(0, .ref (G.1 10)), (1, .int l1), (2, .int l2)] [] σ (B_X9_definedBy_b7 k7 l1 l2 σ) := by
  unfold B_X9_definedBy_b7
  refine cv_iload_n hC 2 dX9_definedBy_7 rfl rfl ?_
  refine cv_aload_n hC 0 dX9_definedBy_8 rfl rfl ?_
  refine cv_getr hC (fg_X9_9_10 G) dX9_definedBy_9 ?_
  refine cv_iload_n hC 1 dX9_definedBy_12 rfl rfl ?_
  refine cv_iald hC (cv_a43 G) dX9_definedBy_13 (fun v2 => ?_)
  refine cv_icmp_ge (tgt := 106) hC dX9_definedBy_14 (by decide) ?_ ?_
  · refine cv_aload_n hC 0 dX9_definedBy_106 rfl rfl ?_
    refine cv_getr hC (fg_X9_54_10 G) dX9_definedBy_107 ?_
    refine cv_aload_n hC 0 dX9_definedBy_110 rfl rfl ?_
    refine cv_getr hC (fg_X9_9_10 G) dX9_definedBy_111 ?_
    refine cv_iload_n hC 1 dX9_definedBy_114 rfl rfl ?_
    refine cv_iald hC (cv_a43 G) dX9_definedBy_115 (fun v3 => ?_)
    refine cv_iald hC (cv_a56 G) dX9_definedBy_116 (fun v4 => ?_)
    exact cv_iret hC dX9_definedBy_117
  · refine cv_aload_n hC 0 dX9_definedBy_17 rfl rfl ?_
    refine cv_iload_n hC 1 dX9_definedBy_18 rfl rfl ?_
    refine cv_iload_n hC 2 dX9_definedBy_19 rfl rfl ?_
    refine cv_callVi (ob := 10) hC [.int l1, .int l2] [] (M_X9_reached LL G l1 l2 σ) ln_X9_152 vm_X9_reached (ob_10 G) rfl rfl (Nat.le_of_ble_eq_true rfl) ⟨Nat.le_of_ble_eq_true rfl, Nat.le_of_ble_eq_true rfl⟩ ⟨Nat.le_of_ble_eq_true rfl, Nat.le_of_ble_eq_true rfl⟩ dX9_definedBy_20 (fun v6 s5 => ?_)
    refine cv_if_eq (tgt := 100) hC dX9_definedBy_23 (by decide) ?_ ?_
    · exact cv_sub [0, 1, 2] rfl (J_X9_definedBy_b100 hC k7 hk7 l1 l2 s5)
    · refine cv_aload_n hC 0 dX9_definedBy_26 rfl rfl ?_
      refine cv_iload_n hC 1 dX9_definedBy_27 rfl rfl ?_
      refine cv_iload_n hC 2 dX9_definedBy_28 rfl rfl ?_
      refine cv_callVi (ob := 10) hC [.int l1, .int l2] [] (M_X9_kind LL G l1 l2 s5) ln_X9_138 vm_X9_kind (ob_10 G) rfl rfl (Nat.le_of_ble_eq_true rfl) ⟨Nat.le_of_ble_eq_true rfl, Nat.le_of_ble_eq_true rfl⟩ ⟨Nat.le_of_ble_eq_true rfl, Nat.le_of_ble_eq_true rfl⟩ dX9_definedBy_29 (fun v8 s7 => ?_)
      refine cv_istore_n (lv' := [(3, .int v8), (0, .ref (G.1 10)), (1, .int l1), (2, .int l2)]) hC dX9_definedBy_32 rfl (by decide) rfl ?_
      refine cv_iload_n hC 0 dX9_definedBy_33 rfl rfl ?_
      refine cv_bipush (v := 100) hC dX9_definedBy_34 cb_bipush_100 ?_
      refine cv_icmp_eq (tgt := 51) hC dX9_definedBy_36 (by decide) ?_ ?_
      · exact cv_sub [1, 2, 3] rfl (J_X9_definedBy_b51 hC k7 hk7 l1 l2 s7)
      · refine cv_iload_n hC 0 dX9_definedBy_39 rfl rfl ?_
        refine cv_bipush (v := 109) hC dX9_definedBy_40 cb_bipush_109 ?_
        refine cv_icmp_eq (tgt := 51) hC dX9_definedBy_42 (by decide) ?_ ?_
        · exact cv_sub [1, 2, 3] rfl (J_X9_definedBy_b51 hC k7 hk7 l1 l2 s7)
        · refine cv_iload_n hC 0 dX9_definedBy_45 rfl rfl ?_
          refine cv_bipush (v := 45) hC dX9_definedBy_46 cb_bipush_45 ?_
          refine cv_icmp_ne (tgt := 62) hC dX9_definedBy_48 (by decide) ?_ ?_
          · refine cv_iload_n hC 0 dX9_definedBy_62 rfl rfl ?_
            refine cv_bipush (v := 99) hC dX9_definedBy_63 cb_bipush_99 ?_
            refine cv_icmp_ne (tgt := 82) hC dX9_definedBy_65 (by decide) ?_ ?_
            · refine cv_iconst (v := 0) hC dX9_definedBy_82 cb_iconst_0 ?_
              exact cv_sub [1, 2, 3] rfl (J_X9_definedBy_b83 hC k7 hk7 l1 l2 0 s7)
            · refine cv_aload_n hC 1 dX9_definedBy_68 rfl rfl ?_
              refine cv_getr hC (fg_X9_51_10 G) dX9_definedBy_69 ?_
              refine cv_aload_n hC 1 dX9_definedBy_72 rfl rfl ?_
              refine cv_iload_n hC 2 dX9_definedBy_73 rfl rfl ?_
              refine cv_iload_n hC 3 dX9_definedBy_74 rfl rfl ?_
              refine cv_callVi (ob := 10) hC [.int l1, .int l2] [.ref (G.1 55)] (M_X9_first LL G l1 l2 s7) ln_X9_141 vm_X9_first (ob_10 G) rfl rfl (Nat.le_of_ble_eq_true rfl) ⟨Nat.le_of_ble_eq_true rfl, Nat.le_of_ble_eq_true rfl⟩ ⟨Nat.le_of_ble_eq_true rfl, Nat.le_of_ble_eq_true rfl⟩ dX9_definedBy_75 (fun v14 s13 => ?_)
              refine cv_iald hC (cv_a55 G) dX9_definedBy_78 (fun v15 => ?_)
              refine cv_goto (tgt := 83) hC dX9_definedBy_79 (by decide) ?_
              exact cv_sub [1, 2, 3] rfl (J_X9_definedBy_b83 hC k7 hk7 l1 l2 v15 s13)
          · exact cv_sub [1, 2, 3] rfl (J_X9_definedBy_b51 hC k7 hk7 l1 l2 s7)
set_option maxRecDepth 20000 in
set_option maxHeartbeats 2000000 in
theorem J_X9_definedBy_b7 {X : cv_X} {G : cv_G} {LL : Launch} (hC : cv_C X G LL RX9 cX9_definedBy 5 (some .int) { frames := 3, cells := 0, slots := 0, locals := 70 }) : ∀ (n : Nat) (l1 : Int32) (l2 : Int32) (σ : cv_St), cv_J X G 5 0 0 (cv_QI X G) 7 [(0, .ref (G.1 10)), (1, .int l1), (2, .int l2)] [] σ (F_X9_definedBy_b7 n l1 l2 σ) := by
  intro n
  induction n with
  | zero => intro l1 l2 σ; exact cv_none
  | succ n ih => intro l1 l2 σ; exact I_X9_definedBy_b7 hC _ ih l1 l2 σ
set_option maxRecDepth 20000 in
set_option maxHeartbeats 2000000 in
theorem J_X9_definedBy {X : cv_X} {G : cv_G} {LL : Launch} (hC : cv_C X G LL RX9 cX9_definedBy 5 (some .int) { frames := 3, cells := 0, slots := 0, locals := 70 }) (l1 : Int32) (σ : cv_St) : cv_J X G 5 0 0 (cv_QI X G) 0 [(0, .ref (G.1 10)), (1, .int l1)] [] σ (F_X9_definedBy l1 σ) := by
  unfold F_X9_definedBy
  refine cv_aload_n hC 0 dX9_definedBy_0 rfl rfl ?_
  refine cv_iload_n hC 1 dX9_definedBy_1 rfl rfl ?_
  refine cv_callVv (ob := 10) hC [.int l1] [] (M_X9_beginSets LL G l1 σ) ln_X9_178 vm_X9_beginSets (ob_10 G) rfl rfl (Nat.le_of_ble_eq_true rfl) ⟨Nat.le_of_ble_eq_true rfl, Nat.le_of_ble_eq_true rfl⟩ ⟨Nat.le_of_ble_eq_true rfl, Nat.le_of_ble_eq_true rfl⟩ dX9_definedBy_2 (fun s1 => ?_)
  refine cv_iconst (v := 0) hC dX9_definedBy_5 cb_iconst_0 ?_
  refine cv_istore_n (lv' := [(2, .int 0), (0, .ref (G.1 10)), (1, .int l1)]) hC dX9_definedBy_6 rfl (by decide) rfl ?_
  exact cv_sub [1, 2, 0] rfl (J_X9_definedBy_b7 hC 1000 l1 0 s1)
set_option maxRecDepth 20000 in
set_option maxHeartbeats 2000000 in
theorem M_X9_definedBy (LL : Launch) (G : cv_G) (l1 : Int32) (σ : cv_St) : cv_MI LL G yX9_definedBy cX9_definedBy 5 (some .int) 3 70 [.ref (G.1 10), .int l1] σ (F_X9_definedBy l1 σ) :=
  cv_mkI (by decide) (Nat.le_of_ble_eq_true rfl) (fun X hC => J_X9_definedBy hC l1 σ)
/-! X9_findDefined -/
set_option maxRecDepth 20000 in
set_option maxHeartbeats 2000000 in
theorem J_X9_findDefined_b62 {X : cv_X} {G : cv_G} {LL : Launch} (hC : cv_C X G LL RX9 cX9_findDefined 4 none { frames := 4, cells := 0, slots := 0, locals := 94 }) (k23 : Int32 → cv_St → Option (cv_St)) (hk23 : ∀ (l1 : Int32)  σ, cv_J X G 4 0 0 (cv_QV X G) 23 [(0, .ref (G.1 10)), (1, .int l1)] [] σ (k23 l1 σ)) (k31 : Int32 → Int32 → cv_St → Option (cv_St)) (hk31 : ∀ (l1 : Int32) (l2 : Int32)  σ, cv_J X G 4 0 0 (cv_QV X G) 31 [(0, .ref (G.1 10)), (1, .int l1), (2, .int l2)] [] σ (k31 l1 l2 σ)) (l2 : Int32) (l3 : Int32) (t0 : Int32) (σ : cv_St) : cv_J X G 4 0 0 (cv_QV X G) 62 [(0, .ref (G.1 10)), (2, .int l2), (3, .int l3)] [.int t0] σ (F_X9_findDefined_b62 k23 k31 l2 l3 t0 σ) := by
  unfold F_X9_findDefined_b62
  refine cv_istore_n (lv' := [(1, .int t0), (0, .ref (G.1 10)), (2, .int l2), (3, .int l3)]) hC dX9_findDefined_62 rfl (by decide) rfl ?_
  refine cv_aload_n hC 1 dX9_findDefined_63 rfl rfl ?_
  refine cv_getr hC (fg_X9_51_10 G) dX9_findDefined_64 ?_
  refine cv_iload_n hC 2 dX9_findDefined_67 rfl rfl ?_
  refine cv_iload_n hC 3 dX9_findDefined_68 rfl rfl ?_
  refine cv_iast hC (cv_a55 G) dX9_findDefined_69 (fun s3 => ?_)
  refine cv_iinc (lv' := [(2, .int (l2 + Int32.ofInt 1)), (1, .int t0), (0, .ref (G.1 10)), (3, .int l3)]) hC 2 dX9_findDefined_70 rfl (by decide) rfl ?_
  refine cv_goto (tgt := 31) hC dX9_findDefined_73 (by decide) ?_
  exact cv_sub [2, 1, 0] rfl (hk31 t0 (l2 + Int32.ofInt 1) s3)
set_option maxRecDepth 20000 in
set_option maxHeartbeats 2000000 in
theorem J_X9_findDefined_b57 {X : cv_X} {G : cv_G} {LL : Launch} (hC : cv_C X G LL RX9 cX9_findDefined 4 none { frames := 4, cells := 0, slots := 0, locals := 94 }) (k23 : Int32 → cv_St → Option (cv_St)) (hk23 : ∀ (l1 : Int32)  σ, cv_J X G 4 0 0 (cv_QV X G) 23 [(0, .ref (G.1 10)), (1, .int l1)] [] σ (k23 l1 σ)) (k31 : Int32 → Int32 → cv_St → Option (cv_St)) (hk31 : ∀ (l1 : Int32) (l2 : Int32)  σ, cv_J X G 4 0 0 (cv_QV X G) 31 [(0, .ref (G.1 10)), (1, .int l1), (2, .int l2)] [] σ (k31 l1 l2 σ)) (l2 : Int32) (l3 : Int32) (σ : cv_St) : cv_J X G 4 0 0 (cv_QV X G) 57 [(0, .ref (G.1 10)), (2, .int l2), (3, .int l3)] [] σ (F_X9_findDefined_b57 k23 k31 l2 l3 σ) := by
  unfold F_X9_findDefined_b57
  refine cv_iconst (v := 1) hC dX9_findDefined_57 cb_iconst_1 ?_
  refine cv_goto (tgt := 62) hC dX9_findDefined_58 (by decide) ?_
  exact cv_sub [0, 1, 2] rfl (J_X9_findDefined_b62 hC k23 hk23 k31 hk31 l2 l3 1 σ)
set_option maxRecDepth 20000 in
set_option maxHeartbeats 2000000 in
theorem I_X9_findDefined_b31 {X : cv_X} {G : cv_G} {LL : Launch} (hC : cv_C X G LL RX9 cX9_findDefined 4 none { frames := 4, cells := 0, slots := 0, locals := 94 }) (k23 : Int32 → cv_St → Option (cv_St)) (hk23 : ∀ (l1 : Int32)  σ, cv_J X G 4 0 0 (cv_QV X G) 23 [(0, .ref (G.1 10)), (1, .int l1)] [] σ (k23 l1 σ)) (k31 : Int32 → Int32 → cv_St → Option (cv_St)) (hk31 : ∀ (l1 : Int32) (l2 : Int32)  σ, cv_J X G 4 0 0 (cv_QV X G) 31 [(0, .ref (G.1 10)), (1, .int l1), (2, .int l2)] [] σ (k31 l1 l2 σ)) (l1 : Int32) (l2 : Int32) (σ : cv_St) : cv_J X G 4 0 0 (cv_QV X G) 31 [(0, .ref (G.1 10)), (1, .int l1), (2, .int l2)] [] σ (B_X9_findDefined_b31 k23 k31 l1 l2 σ) := by
  unfold B_X9_findDefined_b31
  refine cv_iload_n hC 2 dX9_findDefined_31 rfl rfl ?_
  refine cv_bipush (v := 8) hC dX9_findDefined_32 cb_bipush_8 ?_
  refine cv_icmp_ge (tgt := 76) hC dX9_findDefined_34 (by decide) ?_ ?_
  · refine cv_goto (tgt := 23) hC dX9_findDefined_76 (by decide) ?_
    exact cv_sub [0, 1] rfl (hk23 l1 σ)
  · refine cv_aload_n hC 0 dX9_findDefined_37 rfl rfl ?_
    refine cv_iload_n hC 2 dX9_findDefined_38 rfl rfl ?_
    refine cv_callVi (ob := 10) hC [.int l2] [] (M_X9_definedBy LL G l2 σ) ln_X9_186 vm_X9_definedBy (ob_10 G) rfl rfl (Nat.le_of_ble_eq_true rfl) ⟨Nat.le_of_ble_eq_true rfl, Nat.le_of_ble_eq_true rfl⟩ ⟨Nat.le_of_ble_eq_true rfl, Nat.le_of_ble_eq_true rfl⟩ dX9_findDefined_39 (fun v2 s1 => ?_)
    refine cv_istore_n (lv' := [(3, .int v2), (0, .ref (G.1 10)), (1, .int l1), (2, .int l2)]) hC dX9_findDefined_42 rfl (by decide) rfl ?_
    refine cv_iload_n hC 2 dX9_findDefined_43 rfl rfl ?_
    refine cv_if_ne (tgt := 57) hC dX9_findDefined_44 (by decide) ?_ ?_
    · exact cv_sub [1, 3, 0] rfl (J_X9_findDefined_b57 hC k23 hk23 k31 hk31 l2 v2 s1)
    · refine cv_iload_n hC 0 dX9_findDefined_47 rfl rfl ?_
      refine cv_aload_n hC 1 dX9_findDefined_48 rfl rfl ?_
      refine cv_getr hC (fg_X9_51_10 G) dX9_findDefined_49 ?_
      refine cv_iload_n hC 3 dX9_findDefined_52 rfl rfl ?_
      refine cv_iald hC (cv_a55 G) dX9_findDefined_53 (fun v4 => ?_)
      refine cv_icmp_eq (tgt := 61) hC dX9_findDefined_54 (by decide) ?_ ?_
      · refine cv_iconst (v := 0) hC dX9_findDefined_61 cb_iconst_0 ?_
        exact cv_sub [1, 3, 0] rfl (J_X9_findDefined_b62 hC k23 hk23 k31 hk31 l2 v2 0 s1)
      · exact cv_sub [1, 3, 0] rfl (J_X9_findDefined_b57 hC k23 hk23 k31 hk31 l2 v2 s1)
set_option maxRecDepth 20000 in
set_option maxHeartbeats 2000000 in
theorem J_X9_findDefined_b31 {X : cv_X} {G : cv_G} {LL : Launch} (hC : cv_C X G LL RX9 cX9_findDefined 4 none { frames := 4, cells := 0, slots := 0, locals := 94 }) (k23 : Int32 → cv_St → Option (cv_St)) (hk23 : ∀ (l1 : Int32)  σ, cv_J X G 4 0 0 (cv_QV X G) 23 [(0, .ref (G.1 10)), (1, .int l1)] [] σ (k23 l1 σ)) : ∀ (n : Nat) (l1 : Int32) (l2 : Int32) (σ : cv_St), cv_J X G 4 0 0 (cv_QV X G) 31 [(0, .ref (G.1 10)), (1, .int l1), (2, .int l2)] [] σ (F_X9_findDefined_b31 k23 n l1 l2 σ) := by
  intro n
  induction n with
  | zero => intro l1 l2 σ; exact cv_none
  | succ n ih => intro l1 l2 σ; exact I_X9_findDefined_b31 hC k23 hk23 _ ih l1 l2 σ
set_option maxRecDepth 20000 in
set_option maxHeartbeats 2000000 in
theorem I_X9_findDefined_b23 {X : cv_X} {G : cv_G} {LL : Launch} (hC : cv_C X G LL RX9 cX9_findDefined 4 none { frames := 4, cells := 0, slots := 0, locals := 94 }) (k23 : Int32 → cv_St → Option (cv_St)) (hk23 : ∀ (l1 : Int32)  σ, cv_J X G 4 0 0 (cv_QV X G) 23 [(0, .ref (G.1 10)), (1, .int l1)] [] σ (k23 l1 σ)) (l1 : Int32) (σ : cv_St) : cv_J X G 4 0 0 (cv_QV X G) 23 [(0, .ref (G.1 10)), (1, .int l1)] [] σ (B_X9_findDefined_b23 k23 l1 σ) := by
  unfold B_X9_findDefined_b23
  refine cv_iload_n hC 1 dX9_findDefined_23 rfl rfl ?_
  refine cv_if_eq (tgt := 79) hC dX9_findDefined_24 (by decide) ?_ ?_
  · exact cv_vret hC dX9_findDefined_79
  · refine cv_iconst (v := 0) hC dX9_findDefined_27 cb_iconst_0 ?_
    refine cv_istore_n (lv' := [(1, .int 0), (0, .ref (G.1 10))]) hC dX9_findDefined_28 rfl (by decide) rfl ?_
    refine cv_iconst (v := 0) hC dX9_findDefined_29 cb_iconst_0 ?_
    refine cv_istore_n (lv' := [(2, .int 0), (1, .int 0), (0, .ref (G.1 10))]) hC dX9_findDefined_30 rfl (by decide) rfl ?_
    exact cv_sub [2, 1, 0] rfl (J_X9_findDefined_b31 hC k23 hk23 1000 0 0 σ)
set_option maxRecDepth 20000 in
set_option maxHeartbeats 2000000 in
theorem J_X9_findDefined_b23 {X : cv_X} {G : cv_G} {LL : Launch} (hC : cv_C X G LL RX9 cX9_findDefined 4 none { frames := 4, cells := 0, slots := 0, locals := 94 }) : ∀ (n : Nat) (l1 : Int32) (σ : cv_St), cv_J X G 4 0 0 (cv_QV X G) 23 [(0, .ref (G.1 10)), (1, .int l1)] [] σ (F_X9_findDefined_b23 n l1 σ) := by
  intro n
  induction n with
  | zero => intro l1 σ; exact cv_none
  | succ n ih => intro l1 σ; exact I_X9_findDefined_b23 hC _ ih l1 σ
set_option maxRecDepth 20000 in
set_option maxHeartbeats 2000000 in
theorem I_X9_findDefined_b2 {X : cv_X} {G : cv_G} {LL : Launch} (hC : cv_C X G LL RX9 cX9_findDefined 4 none { frames := 4, cells := 0, slots := 0, locals := 94 }) (k2 : Int32 → cv_St → Option (cv_St)) (hk2 : ∀ (l1 : Int32)  σ, cv_J X G 4 0 0 (cv_QV X G) 2 [(0, .ref (G.1 10)), (1, .int l1)] [] σ (k2 l1 σ)) (l1 : Int32) (σ : cv_St) : cv_J X G 4 0 0 (cv_QV X G) 2 [(0, .ref (G.1 10)), (1, .int l1)] [] σ (B_X9_findDefined_b2 k2 l1 σ) := by
  unfold B_X9_findDefined_b2
  refine cv_iload_n hC 1 dX9_findDefined_2 rfl rfl ?_
  refine cv_bipush (v := 8) hC dX9_findDefined_3 cb_bipush_8 ?_
  refine cv_icmp_ge (tgt := 21) hC dX9_findDefined_5 (by decide) ?_ ?_
  · refine cv_iconst (v := 1) hC dX9_findDefined_21 cb_iconst_1 ?_
    refine cv_istore_n (lv' := [(1, .int 1), (0, .ref (G.1 10))]) hC dX9_findDefined_22 rfl (by decide) rfl ?_
    exact cv_sub [1, 0] rfl (J_X9_findDefined_b23 hC 1000 1 σ)
  · refine cv_aload_n hC 0 dX9_findDefined_8 rfl rfl ?_
    refine cv_getr hC (fg_X9_51_10 G) dX9_findDefined_9 ?_
    refine cv_iload_n hC 1 dX9_findDefined_12 rfl rfl ?_
    refine cv_iconst (v := 0) hC dX9_findDefined_13 cb_iconst_0 ?_
    refine cv_iast hC (cv_a55 G) dX9_findDefined_14 (fun s5 => ?_)
    refine cv_iinc (lv' := [(1, .int (l1 + Int32.ofInt 1)), (0, .ref (G.1 10))]) hC 1 dX9_findDefined_15 rfl (by decide) rfl ?_
    refine cv_goto (tgt := 2) hC dX9_findDefined_18 (by decide) ?_
    exact cv_sub [1, 0] rfl (hk2 (l1 + Int32.ofInt 1) s5)
set_option maxRecDepth 20000 in
set_option maxHeartbeats 2000000 in
theorem J_X9_findDefined_b2 {X : cv_X} {G : cv_G} {LL : Launch} (hC : cv_C X G LL RX9 cX9_findDefined 4 none { frames := 4, cells := 0, slots := 0, locals := 94 }) : ∀ (n : Nat) (l1 : Int32) (σ : cv_St), cv_J X G 4 0 0 (cv_QV X G) 2 [(0, .ref (G.1 10)), (1, .int l1)] [] σ (F_X9_findDefined_b2 n l1 σ) := by
  intro n
  induction n with
  | zero => intro l1 σ; exact cv_none
  | succ n ih => intro l1 σ; exact I_X9_findDefined_b2 hC _ ih l1 σ
set_option maxRecDepth 20000 in
set_option maxHeartbeats 2000000 in
theorem J_X9_findDefined {X : cv_X} {G : cv_G} {LL : Launch} (hC : cv_C X G LL RX9 cX9_findDefined 4 none { frames := 4, cells := 0, slots := 0, locals := 94 }) (σ : cv_St) : cv_J X G 4 0 0 (cv_QV X G) 0 [(0, .ref (G.1 10))] [] σ (F_X9_findDefined σ) := by
  unfold F_X9_findDefined
  refine cv_iconst (v := 0) hC dX9_findDefined_0 cb_iconst_0 ?_
  refine cv_istore_n (lv' := [(1, .int 0), (0, .ref (G.1 10))]) hC dX9_findDefined_1 rfl (by decide) rfl ?_
  exact cv_sub [1, 0] rfl (J_X9_findDefined_b2 hC 1000 0 σ)
set_option maxRecDepth 20000 in
set_option maxHeartbeats 2000000 in
theorem M_X9_findDefined (LL : Launch) (G : cv_G) (σ : cv_St) : cv_MV LL G yX9_findDefined cX9_findDefined 4 4 94 [.ref (G.1 10)] σ (F_X9_findDefined σ) :=
  cv_mkV (by decide) (Nat.le_of_ble_eq_true rfl) (fun X hC => J_X9_findDefined hC σ)
/-! X9_findPassed -/
set_option maxRecDepth 20000 in
set_option maxHeartbeats 2000000 in
theorem J_X9_findPassed_b96 {X : cv_X} {G : cv_G} {LL : Launch} (hC : cv_C X G LL RX9 cX9_findPassed 4 none { frames := 3, cells := 0, slots := 0, locals := 70 }) (k7 : Int32 → Int32 → cv_St → Option (cv_St)) (hk7 : ∀ (l1 : Int32) (l2 : Int32)  σ, cv_J X G 4 0 0 (cv_QV X G) 7 [(0, .ref (G.1 10)), (1, .int l1), (2, .int l2)] [] σ (k7 l1 l2 σ)) (l1 : Int32) (l2 : Int32) (σ : cv_St) : cv_J X G 4 0 0 (cv_QV X G) 96 [(0, .ref (G.1 10)), (1, .int l1), (2, .int l2)] [] σ (F_X9_findPassed_b96 k7 l1 l2 σ) := by
  unfold F_X9_findPassed_b96
  refine cv_iinc (lv' := [(2, .int (l2 + Int32.ofInt 1)), (0, .ref (G.1 10)), (1, .int l1)]) hC 2 dX9_findPassed_96 rfl (by decide) rfl ?_
  refine cv_goto (tgt := 7) hC dX9_findPassed_99 (by decide) ?_
  exact cv_sub [1, 2, 0] rfl (hk7 l1 (l2 + Int32.ofInt 1) σ)
set_option maxRecDepth 20000 in
set_option maxHeartbeats 2000000 in
theorem J_X9_findPassed_b93 {X : cv_X} {G : cv_G} {LL : Launch} (hC : cv_C X G LL RX9 cX9_findPassed 4 none { frames := 3, cells := 0, slots := 0, locals := 70 }) (k7 : Int32 → Int32 → cv_St → Option (cv_St)) (hk7 : ∀ (l1 : Int32) (l2 : Int32)  σ, cv_J X G 4 0 0 (cv_QV X G) 7 [(0, .ref (G.1 10)), (1, .int l1), (2, .int l2)] [] σ (k7 l1 l2 σ)) (l1 : Int32) (l2 : Int32) (t0 : Int32) (t1 : Int32) (t2 : Int32) (σ : cv_St) : cv_J X G 4 0 0 (cv_QV X G) 93 [(0, .ref (G.1 10)), (1, .int l1), (2, .int l2)] [.int t0, .int t1, .int t2, .ref (G.1 10)] σ (F_X9_findPassed_b93 k7 l1 l2 t0 t1 t2 σ) := by
  unfold F_X9_findPassed_b93
  refine cv_callVv (ob := 10) hC [.int t2, .int t1, .int t0] [] (M_X9_bringSet LL G t2 t1 t0 σ) ln_X9_182 vm_X9_bringSet (ob_10 G) rfl rfl (Nat.le_of_ble_eq_true rfl) ⟨Nat.le_of_ble_eq_true rfl, Nat.le_of_ble_eq_true rfl⟩ ⟨Nat.le_of_ble_eq_true rfl, Nat.le_of_ble_eq_true rfl⟩ dX9_findPassed_93 (fun s10 => ?_)
  exact cv_sub [0, 1, 2] rfl (J_X9_findPassed_b96 hC k7 hk7 l1 l2 s10)
set_option maxRecDepth 20000 in
set_option maxHeartbeats 2000000 in
theorem I_X9_findPassed_b7 {X : cv_X} {G : cv_G} {LL : Launch} (hC : cv_C X G LL RX9 cX9_findPassed 4 none { frames := 3, cells := 0, slots := 0, locals := 70 }) (k7 : Int32 → Int32 → cv_St → Option (cv_St)) (hk7 : ∀ (l1 : Int32) (l2 : Int32)  σ, cv_J X G 4 0 0 (cv_QV X G) 7 [(0, .ref (G.1 10)), (1, .int l1), (2, .int l2)] [] σ (k7 l1 l2 σ)) (l1 : Int32) (l2 : Int32) (σ : cv_St) : cv_J X G 4 0 0 (cv_QV X G) 7 [(0, .ref (G.1 10)), (1, .int l1), (2, .int l2)] [] σ (B_X9_findPassed_b7 k7 l1 l2 σ) := by
  unfold B_X9_findPassed_b7
  refine cv_iload_n hC 2 dX9_findPassed_7 rfl rfl ?_
  refine cv_aload_n hC 0 dX9_findPassed_8 rfl rfl ?_
  refine cv_getr hC (fg_X9_9_10 G) dX9_findPassed_9 ?_
  refine cv_iload_n hC 1 dX9_findPassed_12 rfl rfl ?_
  refine cv_iald hC (cv_a43 G) dX9_findPassed_13 (fun v2 => ?_)
  refine cv_icmp_ge (tgt := 102) hC dX9_findPassed_14 (by decide) ?_ ?_
  · exact cv_vret hC dX9_findPassed_102
  · refine cv_aload_n hC 0 dX9_findPassed_17 rfl rfl ?_
    refine cv_iload_n hC 1 dX9_findPassed_18 rfl rfl ?_
    refine cv_iload_n hC 2 dX9_findPassed_19 rfl rfl ?_
    refine cv_callVi (ob := 10) hC [.int l1, .int l2] [] (M_X9_reached LL G l1 l2 σ) ln_X9_152 vm_X9_reached (ob_10 G) rfl rfl (Nat.le_of_ble_eq_true rfl) ⟨Nat.le_of_ble_eq_true rfl, Nat.le_of_ble_eq_true rfl⟩ ⟨Nat.le_of_ble_eq_true rfl, Nat.le_of_ble_eq_true rfl⟩ dX9_findPassed_20 (fun v4 s3 => ?_)
    refine cv_if_eq (tgt := 96) hC dX9_findPassed_23 (by decide) ?_ ?_
    · exact cv_sub [0, 1, 2] rfl (J_X9_findPassed_b96 hC k7 hk7 l1 l2 s3)
    · refine cv_aload_n hC 0 dX9_findPassed_26 rfl rfl ?_
      refine cv_getr hC (fg_X9_57_10 G) dX9_findPassed_27 ?_
      refine cv_bipush (v := 14) hC dX9_findPassed_30 cb_bipush_14 ?_
      refine cv_iload_n hC 1 dX9_findPassed_32 rfl rfl ?_
      refine cv_imul hC dX9_findPassed_33 ?_
      refine cv_iload_n hC 2 dX9_findPassed_34 rfl rfl ?_
      refine cv_iadd hC dX9_findPassed_35 ?_
      refine cv_aload_n hC 0 dX9_findPassed_36 rfl rfl ?_
      refine cv_getr hC (fg_X9_54_10 G) dX9_findPassed_37 ?_
      refine cv_iload_n hC 2 dX9_findPassed_40 rfl rfl ?_
      refine cv_iald hC (cv_a56 G) dX9_findPassed_41 (fun v5 => ?_)
      refine cv_iast hC (cv_a57 G) dX9_findPassed_42 (fun s6 => ?_)
      refine cv_aload_n hC 0 dX9_findPassed_43 rfl rfl ?_
      refine cv_iload_n hC 1 dX9_findPassed_44 rfl rfl ?_
      refine cv_iload_n hC 2 dX9_findPassed_45 rfl rfl ?_
      refine cv_callVi (ob := 10) hC [.int l1, .int l2] [] (M_X9_kind LL G l1 l2 s6) ln_X9_138 vm_X9_kind (ob_10 G) rfl rfl (Nat.le_of_ble_eq_true rfl) ⟨Nat.le_of_ble_eq_true rfl, Nat.le_of_ble_eq_true rfl⟩ ⟨Nat.le_of_ble_eq_true rfl, Nat.le_of_ble_eq_true rfl⟩ dX9_findPassed_46 (fun v8 s7 => ?_)
      refine cv_istore_n (lv' := [(3, .int v8), (0, .ref (G.1 10)), (1, .int l1), (2, .int l2)]) hC dX9_findPassed_49 rfl (by decide) rfl ?_
      refine cv_aload_n hC 1 dX9_findPassed_50 rfl rfl ?_
      refine cv_iload_n hC 2 dX9_findPassed_51 rfl rfl ?_
      refine cv_iload_n hC 3 dX9_findPassed_52 rfl rfl ?_
      refine cv_iload_n hC 0 dX9_findPassed_53 rfl rfl ?_
      refine cv_bipush (v := 99) hC dX9_findPassed_54 cb_bipush_99 ?_
      refine cv_icmp_ne (tgt := 63) hC dX9_findPassed_56 (by decide) ?_ ?_
      · refine cv_iload_n hC 0 dX9_findPassed_63 rfl rfl ?_
        refine cv_bipush (v := 115) hC dX9_findPassed_64 cb_bipush_115 ?_
        refine cv_icmp_ne (tgt := 87) hC dX9_findPassed_66 (by decide) ?_ ?_
        · refine cv_aload_n hC 1 dX9_findPassed_87 rfl rfl ?_
          refine cv_getr hC (fg_X9_54_10 G) dX9_findPassed_88 ?_
          refine cv_iload_n hC 3 dX9_findPassed_91 rfl rfl ?_
          refine cv_iald hC (cv_a56 G) dX9_findPassed_92 (fun v9 => ?_)
          exact cv_sub [1, 2, 3] rfl (J_X9_findPassed_b93 hC k7 hk7 l1 l2 v9 l2 l1 s7)
        · refine cv_aload_n hC 1 dX9_findPassed_69 rfl rfl ?_
          refine cv_getr hC (fg_X9_54_10 G) dX9_findPassed_70 ?_
          refine cv_iload_n hC 3 dX9_findPassed_73 rfl rfl ?_
          refine cv_iald hC (cv_a56 G) dX9_findPassed_74 (fun v11 => ?_)
          refine cv_iconst (v := 1) hC dX9_findPassed_75 cb_iconst_1 ?_
          refine cv_aload_n hC 1 dX9_findPassed_76 rfl rfl ?_
          refine cv_iload_n hC 2 dX9_findPassed_77 rfl rfl ?_
          refine cv_iload_n hC 3 dX9_findPassed_78 rfl rfl ?_
          refine cv_callVi (ob := 10) hC [.int l1, .int l2] [.int 1, .int v11, .int l2, .int l1, .ref (G.1 10)] (M_X9_first LL G l1 l2 s7) ln_X9_141 vm_X9_first (ob_10 G) rfl rfl (Nat.le_of_ble_eq_true rfl) ⟨Nat.le_of_ble_eq_true rfl, Nat.le_of_ble_eq_true rfl⟩ ⟨Nat.le_of_ble_eq_true rfl, Nat.le_of_ble_eq_true rfl⟩ dX9_findPassed_79 (fun v13 s12 => ?_)
          refine cv_ishl hC dX9_findPassed_82 ?_
          refine cv_ior hC dX9_findPassed_83 ?_
          refine cv_goto (tgt := 93) hC dX9_findPassed_84 (by decide) ?_
          exact cv_sub [1, 2, 3] rfl (J_X9_findPassed_b93 hC k7 hk7 l1 l2 (v11 ||| (1 <<< (v13 &&& 31))) l2 l1 s12)
      · refine cv_iconst (v := 0) hC dX9_findPassed_59 cb_iconst_0 ?_
        refine cv_goto (tgt := 93) hC dX9_findPassed_60 (by decide) ?_
        exact cv_sub [1, 2, 3] rfl (J_X9_findPassed_b93 hC k7 hk7 l1 l2 0 l2 l1 s7)
set_option maxRecDepth 20000 in
set_option maxHeartbeats 2000000 in
theorem J_X9_findPassed_b7 {X : cv_X} {G : cv_G} {LL : Launch} (hC : cv_C X G LL RX9 cX9_findPassed 4 none { frames := 3, cells := 0, slots := 0, locals := 70 }) : ∀ (n : Nat) (l1 : Int32) (l2 : Int32) (σ : cv_St), cv_J X G 4 0 0 (cv_QV X G) 7 [(0, .ref (G.1 10)), (1, .int l1), (2, .int l2)] [] σ (F_X9_findPassed_b7 n l1 l2 σ) := by
  intro n
  induction n with
  | zero => intro l1 l2 σ; exact cv_none
  | succ n ih => intro l1 l2 σ; exact I_X9_findPassed_b7 hC _ ih l1 l2 σ
set_option maxRecDepth 20000 in
set_option maxHeartbeats 2000000 in
theorem J_X9_findPassed {X : cv_X} {G : cv_G} {LL : Launch} (hC : cv_C X G LL RX9 cX9_findPassed 4 none { frames := 3, cells := 0, slots := 0, locals := 70 }) (l1 : Int32) (σ : cv_St) : cv_J X G 4 0 0 (cv_QV X G) 0 [(0, .ref (G.1 10)), (1, .int l1)] [] σ (F_X9_findPassed l1 σ) := by
  unfold F_X9_findPassed
  refine cv_aload_n hC 0 dX9_findPassed_0 rfl rfl ?_
  refine cv_iload_n hC 1 dX9_findPassed_1 rfl rfl ?_
  refine cv_callVv (ob := 10) hC [.int l1] [] (M_X9_beginSets LL G l1 σ) ln_X9_178 vm_X9_beginSets (ob_10 G) rfl rfl (Nat.le_of_ble_eq_true rfl) ⟨Nat.le_of_ble_eq_true rfl, Nat.le_of_ble_eq_true rfl⟩ ⟨Nat.le_of_ble_eq_true rfl, Nat.le_of_ble_eq_true rfl⟩ dX9_findPassed_2 (fun s1 => ?_)
  refine cv_iconst (v := 0) hC dX9_findPassed_5 cb_iconst_0 ?_
  refine cv_istore_n (lv' := [(2, .int 0), (0, .ref (G.1 10)), (1, .int l1)]) hC dX9_findPassed_6 rfl (by decide) rfl ?_
  exact cv_sub [1, 2, 0] rfl (J_X9_findPassed_b7 hC 1000 l1 0 s1)
set_option maxRecDepth 20000 in
set_option maxHeartbeats 2000000 in
theorem M_X9_findPassed (LL : Launch) (G : cv_G) (l1 : Int32) (σ : cv_St) : cv_MV LL G yX9_findPassed cX9_findPassed 4 3 70 [.ref (G.1 10), .int l1] σ (F_X9_findPassed l1 σ) :=
  cv_mkV (by decide) (Nat.le_of_ble_eq_true rfl) (fun X hC => J_X9_findPassed hC l1 σ)
/-! X9_liveBehind -/
set_option maxRecDepth 20000 in
set_option maxHeartbeats 2000000 in
theorem J_X9_liveBehind {X : cv_X} {G : cv_G} {LL : Launch} (hC : cv_C X G LL RX9 cX9_liveBehind 3 (some .int) { frames := 2, cells := 0, slots := 0, locals := 46 }) (l1 : Int32) (l2 : Int32) (σ : cv_St) : cv_J X G 3 0 0 (cv_QI X G) 0 [(0, .ref (G.1 10)), (1, .int l1), (2, .int l2)] [] σ (F_X9_liveBehind l1 l2 σ) := by
  unfold F_X9_liveBehind
  refine cv_aload_n hC 0 dX9_liveBehind_0 rfl rfl ?_
  refine cv_getr hC (fg_X9_66_10 G) dX9_liveBehind_1 ?_
  refine cv_bipush (v := 15) hC dX9_liveBehind_4 cb_bipush_15 ?_
  refine cv_iload_n hC 1 dX9_liveBehind_6 rfl rfl ?_
  refine cv_imul hC dX9_liveBehind_7 ?_
  refine cv_aload_n hC 0 dX9_liveBehind_8 rfl rfl ?_
  refine cv_iload_n hC 1 dX9_liveBehind_9 rfl rfl ?_
  refine cv_iload_n hC 2 dX9_liveBehind_10 rfl rfl ?_
  refine cv_iconst (v := 0) hC dX9_liveBehind_11 cb_iconst_0 ?_
  refine cv_callVi (ob := 10) hC [.int l1, .int l2, .int 0] [.int (15 * l1), .ref (G.1 60)] (M_X9_next LL G l1 l2 0 σ) ln_X9_155 vm_X9_next (ob_10 G) rfl rfl (Nat.le_of_ble_eq_true rfl) ⟨Nat.le_of_ble_eq_true rfl, Nat.le_of_ble_eq_true rfl⟩ ⟨Nat.le_of_ble_eq_true rfl, Nat.le_of_ble_eq_true rfl⟩ dX9_liveBehind_12 (fun v2 s1 => ?_)
  refine cv_iadd hC dX9_liveBehind_15 ?_
  refine cv_iald hC (cv_a60 G) dX9_liveBehind_16 (fun v3 => ?_)
  refine cv_aload_n hC 0 dX9_liveBehind_17 rfl rfl ?_
  refine cv_getr hC (fg_X9_66_10 G) dX9_liveBehind_18 ?_
  refine cv_bipush (v := 15) hC dX9_liveBehind_21 cb_bipush_15 ?_
  refine cv_iload_n hC 1 dX9_liveBehind_23 rfl rfl ?_
  refine cv_imul hC dX9_liveBehind_24 ?_
  refine cv_aload_n hC 0 dX9_liveBehind_25 rfl rfl ?_
  refine cv_iload_n hC 1 dX9_liveBehind_26 rfl rfl ?_
  refine cv_iload_n hC 2 dX9_liveBehind_27 rfl rfl ?_
  refine cv_iconst (v := 1) hC dX9_liveBehind_28 cb_iconst_1 ?_
  refine cv_callVi (ob := 10) hC [.int l1, .int l2, .int 1] [.int (15 * l1), .ref (G.1 60), .int v3] (M_X9_next LL G l1 l2 1 s1) ln_X9_155 vm_X9_next (ob_10 G) rfl rfl (Nat.le_of_ble_eq_true rfl) ⟨Nat.le_of_ble_eq_true rfl, Nat.le_of_ble_eq_true rfl⟩ ⟨Nat.le_of_ble_eq_true rfl, Nat.le_of_ble_eq_true rfl⟩ dX9_liveBehind_29 (fun v5 s4 => ?_)
  refine cv_iadd hC dX9_liveBehind_32 ?_
  refine cv_iald hC (cv_a60 G) dX9_liveBehind_33 (fun v6 => ?_)
  refine cv_ior hC dX9_liveBehind_34 ?_
  exact cv_iret hC dX9_liveBehind_35
set_option maxRecDepth 20000 in
set_option maxHeartbeats 2000000 in
theorem M_X9_liveBehind (LL : Launch) (G : cv_G) (l1 : Int32) (l2 : Int32) (σ : cv_St) : cv_MI LL G yX9_liveBehind cX9_liveBehind 3 (some .int) 2 46 [.ref (G.1 10), .int l1, .int l2] σ (F_X9_liveBehind l1 l2 σ) :=
  cv_mkI (by decide) (Nat.le_of_ble_eq_true rfl) (fun X hC => J_X9_liveBehind hC l1 l2 σ)
/-! X9_reads -/
set_option maxRecDepth 20000 in
set_option maxHeartbeats 2000000 in
theorem J_X9_reads {X : cv_X} {G : cv_G} {LL : Launch} (hC : cv_C X G LL RX9 cX9_reads 4 (some .int) { frames := 1, cells := 0, slots := 0, locals := 22 }) (l1 : Int32) (l2 : Int32) (σ : cv_St) : cv_J X G 4 0 0 (cv_QI X G) 0 [(0, .ref (G.1 10)), (1, .int l1), (2, .int l2)] [] σ (F_X9_reads l1 l2 σ) := by
  unfold F_X9_reads
  refine cv_aload_n hC 0 dX9_reads_0 rfl rfl ?_
  refine cv_iload_n hC 1 dX9_reads_1 rfl rfl ?_
  refine cv_iload_n hC 2 dX9_reads_2 rfl rfl ?_
  refine cv_callVi (ob := 10) hC [.int l1, .int l2] [] (M_X9_kind LL G l1 l2 σ) ln_X9_138 vm_X9_kind (ob_10 G) rfl rfl (Nat.le_of_ble_eq_true rfl) ⟨Nat.le_of_ble_eq_true rfl, Nat.le_of_ble_eq_true rfl⟩ ⟨Nat.le_of_ble_eq_true rfl, Nat.le_of_ble_eq_true rfl⟩ dX9_reads_3 (fun v2 s1 => ?_)
  refine cv_istore_n (lv' := [(3, .int v2), (0, .ref (G.1 10)), (1, .int l1), (2, .int l2)]) hC dX9_reads_6 rfl (by decide) rfl ?_
  refine cv_iload_n hC 0 dX9_reads_7 rfl rfl ?_
  refine cv_bipush (v := 117) hC dX9_reads_8 cb_bipush_117 ?_
  refine cv_icmp_ne (tgt := 24) hC dX9_reads_10 (by decide) ?_ ?_
  · refine cv_iload_n hC 0 dX9_reads_24 rfl rfl ?_
    refine cv_bipush (v := 109) hC dX9_reads_25 cb_bipush_109 ?_
    refine cv_icmp_ne (tgt := 41) hC dX9_reads_27 (by decide) ?_ ?_
    · refine cv_iload_n hC 0 dX9_reads_41 rfl rfl ?_
      refine cv_bipush (v := 99) hC dX9_reads_42 cb_bipush_99 ?_
      refine cv_icmp_ne (tgt := 61) hC dX9_reads_44 (by decide) ?_ ?_
      · refine cv_iconst (v := 0) hC dX9_reads_61 cb_iconst_0 ?_
        exact cv_iret hC dX9_reads_62
      · refine cv_aload_n hC 1 dX9_reads_47 rfl rfl ?_
        refine cv_getr hC (fg_X9_60_10 G) dX9_reads_48 ?_
        refine cv_aload_n hC 1 dX9_reads_51 rfl rfl ?_
        refine cv_iload_n hC 2 dX9_reads_52 rfl rfl ?_
        refine cv_iload_n hC 3 dX9_reads_53 rfl rfl ?_
        refine cv_callVi (ob := 10) hC [.int l1, .int l2] [.ref (G.1 58)] (M_X9_first LL G l1 l2 s1) ln_X9_141 vm_X9_first (ob_10 G) rfl rfl (Nat.le_of_ble_eq_true rfl) ⟨Nat.le_of_ble_eq_true rfl, Nat.le_of_ble_eq_true rfl⟩ ⟨Nat.le_of_ble_eq_true rfl, Nat.le_of_ble_eq_true rfl⟩ dX9_reads_54 (fun v4 s3 => ?_)
        refine cv_iald hC (cv_a58 G) dX9_reads_57 (fun v5 => ?_)
        refine cv_goto (tgt := 62) hC dX9_reads_58 (by decide) ?_
        exact cv_iret hC dX9_reads_62
    · refine cv_iconst (v := 1) hC dX9_reads_30 cb_iconst_1 ?_
      refine cv_aload_n hC 1 dX9_reads_31 rfl rfl ?_
      refine cv_iload_n hC 2 dX9_reads_32 rfl rfl ?_
      refine cv_iload_n hC 3 dX9_reads_33 rfl rfl ?_
      refine cv_callVi (ob := 10) hC [.int l1, .int l2] [.int 1] (M_X9_second LL G l1 l2 s1) ln_X9_144 vm_X9_second (ob_10 G) rfl rfl (Nat.le_of_ble_eq_true rfl) ⟨Nat.le_of_ble_eq_true rfl, Nat.le_of_ble_eq_true rfl⟩ ⟨Nat.le_of_ble_eq_true rfl, Nat.le_of_ble_eq_true rfl⟩ dX9_reads_34 (fun v7 s6 => ?_)
      refine cv_ishl hC dX9_reads_37 ?_
      refine cv_goto (tgt := 62) hC dX9_reads_38 (by decide) ?_
      exact cv_iret hC dX9_reads_62
  · refine cv_iconst (v := 1) hC dX9_reads_13 cb_iconst_1 ?_
    refine cv_aload_n hC 1 dX9_reads_14 rfl rfl ?_
    refine cv_iload_n hC 2 dX9_reads_15 rfl rfl ?_
    refine cv_iload_n hC 3 dX9_reads_16 rfl rfl ?_
    refine cv_callVi (ob := 10) hC [.int l1, .int l2] [.int 1] (M_X9_first LL G l1 l2 s1) ln_X9_141 vm_X9_first (ob_10 G) rfl rfl (Nat.le_of_ble_eq_true rfl) ⟨Nat.le_of_ble_eq_true rfl, Nat.le_of_ble_eq_true rfl⟩ ⟨Nat.le_of_ble_eq_true rfl, Nat.le_of_ble_eq_true rfl⟩ dX9_reads_17 (fun v9 s8 => ?_)
    refine cv_ishl hC dX9_reads_20 ?_
    refine cv_goto (tgt := 62) hC dX9_reads_21 (by decide) ?_
    exact cv_iret hC dX9_reads_62
set_option maxRecDepth 20000 in
set_option maxHeartbeats 2000000 in
theorem M_X9_reads (LL : Launch) (G : cv_G) (l1 : Int32) (l2 : Int32) (σ : cv_St) : cv_MI LL G yX9_reads cX9_reads 4 (some .int) 1 22 [.ref (G.1 10), .int l1, .int l2] σ (F_X9_reads l1 l2 σ) :=
  cv_mkI (by decide) (Nat.le_of_ble_eq_true rfl) (fun X hC => J_X9_reads hC l1 l2 σ)
/-! X9_writes -/
set_option maxRecDepth 20000 in
set_option maxHeartbeats 2000000 in
theorem J_X9_writes_b25 {X : cv_X} {G : cv_G} {LL : Launch} (hC : cv_C X G LL RX9 cX9_writes 4 (some .int) { frames := 1, cells := 0, slots := 0, locals := 22 }) (l1 : Int32) (l2 : Int32) (σ : cv_St) : cv_J X G 4 0 0 (cv_QI X G) 25 [(0, .ref (G.1 10)), (1, .int l1), (2, .int l2)] [] σ (F_X9_writes_b25 l1 l2 σ) := by
  unfold F_X9_writes_b25
  refine cv_iconst (v := 1) hC dX9_writes_25 cb_iconst_1 ?_
  refine cv_aload_n hC 0 dX9_writes_26 rfl rfl ?_
  refine cv_iload_n hC 1 dX9_writes_27 rfl rfl ?_
  refine cv_iload_n hC 2 dX9_writes_28 rfl rfl ?_
  refine cv_callVi (ob := 10) hC [.int l1, .int l2] [.int 1] (M_X9_first LL G l1 l2 σ) ln_X9_141 vm_X9_first (ob_10 G) rfl rfl (Nat.le_of_ble_eq_true rfl) ⟨Nat.le_of_ble_eq_true rfl, Nat.le_of_ble_eq_true rfl⟩ ⟨Nat.le_of_ble_eq_true rfl, Nat.le_of_ble_eq_true rfl⟩ dX9_writes_29 (fun v4 s3 => ?_)
  refine cv_ishl hC dX9_writes_32 ?_
  refine cv_goto (tgt := 56) hC dX9_writes_33 (by decide) ?_
  exact cv_iret hC dX9_writes_56
set_option maxRecDepth 20000 in
set_option maxHeartbeats 2000000 in
theorem J_X9_writes {X : cv_X} {G : cv_G} {LL : Launch} (hC : cv_C X G LL RX9 cX9_writes 4 (some .int) { frames := 1, cells := 0, slots := 0, locals := 22 }) (l1 : Int32) (l2 : Int32) (σ : cv_St) : cv_J X G 4 0 0 (cv_QI X G) 0 [(0, .ref (G.1 10)), (1, .int l1), (2, .int l2)] [] σ (F_X9_writes l1 l2 σ) := by
  unfold F_X9_writes
  refine cv_aload_n hC 0 dX9_writes_0 rfl rfl ?_
  refine cv_iload_n hC 1 dX9_writes_1 rfl rfl ?_
  refine cv_iload_n hC 2 dX9_writes_2 rfl rfl ?_
  refine cv_callVi (ob := 10) hC [.int l1, .int l2] [] (M_X9_kind LL G l1 l2 σ) ln_X9_138 vm_X9_kind (ob_10 G) rfl rfl (Nat.le_of_ble_eq_true rfl) ⟨Nat.le_of_ble_eq_true rfl, Nat.le_of_ble_eq_true rfl⟩ ⟨Nat.le_of_ble_eq_true rfl, Nat.le_of_ble_eq_true rfl⟩ dX9_writes_3 (fun v2 s1 => ?_)
  refine cv_istore_n (lv' := [(3, .int v2), (0, .ref (G.1 10)), (1, .int l1), (2, .int l2)]) hC dX9_writes_6 rfl (by decide) rfl ?_
  refine cv_iload_n hC 0 dX9_writes_7 rfl rfl ?_
  refine cv_bipush (v := 100) hC dX9_writes_8 cb_bipush_100 ?_
  refine cv_icmp_eq (tgt := 25) hC dX9_writes_10 (by decide) ?_ ?_
  · exact cv_sub [1, 2, 3] rfl (J_X9_writes_b25 hC l1 l2 s1)
  · refine cv_iload_n hC 0 dX9_writes_13 rfl rfl ?_
    refine cv_bipush (v := 109) hC dX9_writes_14 cb_bipush_109 ?_
    refine cv_icmp_eq (tgt := 25) hC dX9_writes_16 (by decide) ?_ ?_
    · exact cv_sub [1, 2, 3] rfl (J_X9_writes_b25 hC l1 l2 s1)
    · refine cv_iload_n hC 0 dX9_writes_19 rfl rfl ?_
      refine cv_bipush (v := 45) hC dX9_writes_20 cb_bipush_45 ?_
      refine cv_icmp_ne (tgt := 36) hC dX9_writes_22 (by decide) ?_ ?_
      · refine cv_iload_n hC 0 dX9_writes_36 rfl rfl ?_
        refine cv_bipush (v := 99) hC dX9_writes_37 cb_bipush_99 ?_
        refine cv_icmp_ne (tgt := 55) hC dX9_writes_39 (by decide) ?_ ?_
        · refine cv_iconst (v := 0) hC dX9_writes_55 cb_iconst_0 ?_
          exact cv_iret hC dX9_writes_56
        · refine cv_aload_n hC 1 dX9_writes_42 rfl rfl ?_
          refine cv_aload_n hC 1 dX9_writes_43 rfl rfl ?_
          refine cv_iload_n hC 2 dX9_writes_44 rfl rfl ?_
          refine cv_iload_n hC 3 dX9_writes_45 rfl rfl ?_
          refine cv_callVi (ob := 10) hC [.int l1, .int l2] [.ref (G.1 10)] (M_X9_first LL G l1 l2 s1) ln_X9_141 vm_X9_first (ob_10 G) rfl rfl (Nat.le_of_ble_eq_true rfl) ⟨Nat.le_of_ble_eq_true rfl, Nat.le_of_ble_eq_true rfl⟩ ⟨Nat.le_of_ble_eq_true rfl, Nat.le_of_ble_eq_true rfl⟩ dX9_writes_46 (fun v6 s5 => ?_)
          refine cv_callVi (ob := 10) hC [.int v6] [] (M_X9_clobbered LL G v6 s5) ln_X9_189 vm_X9_clobbered (ob_10 G) rfl rfl (Nat.le_of_ble_eq_true rfl) ⟨Nat.le_of_ble_eq_true rfl, Nat.le_of_ble_eq_true rfl⟩ ⟨Nat.le_of_ble_eq_true rfl, Nat.le_of_ble_eq_true rfl⟩ dX9_writes_49 (fun v8 s7 => ?_)
          refine cv_goto (tgt := 56) hC dX9_writes_52 (by decide) ?_
          exact cv_iret hC dX9_writes_56
      · exact cv_sub [1, 2, 3] rfl (J_X9_writes_b25 hC l1 l2 s1)
set_option maxRecDepth 20000 in
set_option maxHeartbeats 2000000 in
theorem M_X9_writes (LL : Launch) (G : cv_G) (l1 : Int32) (l2 : Int32) (σ : cv_St) : cv_MI LL G yX9_writes cX9_writes 4 (some .int) 1 22 [.ref (G.1 10), .int l1, .int l2] σ (F_X9_writes l1 l2 σ) :=
  cv_mkI (by decide) (Nat.le_of_ble_eq_true rfl) (fun X hC => J_X9_writes hC l1 l2 σ)
/-! X9_findLive -/
set_option maxRecDepth 20000 in
set_option maxHeartbeats 2000000 in
theorem I_X9_findLive_b31 {X : cv_X} {G : cv_G} {LL : Launch} (hC : cv_C X G LL RX9 cX9_findLive 3 none { frames := 3, cells := 0, slots := 0, locals := 68 }) (k31 : Int32 → Int32 → cv_St → Option (cv_St)) (hk31 : ∀ (l1 : Int32) (l2 : Int32)  σ, cv_J X G 3 0 0 (cv_QV X G) 31 [(0, .ref (G.1 10)), (1, .int l1), (2, .int l2)] [] σ (k31 l1 l2 σ)) (l1 : Int32) (l2 : Int32) (σ : cv_St) : cv_J X G 3 0 0 (cv_QV X G) 31 [(0, .ref (G.1 10)), (1, .int l1), (2, .int l2)] [] σ (B_X9_findLive_b31 k31 l1 l2 σ) := by
  unfold B_X9_findLive_b31
  refine cv_iload_n hC 2 dX9_findLive_31 rfl rfl ?_
  refine cv_if_lt (tgt := 74) hC dX9_findLive_32 (by decide) ?_ ?_
  · exact cv_vret hC dX9_findLive_74
  · refine cv_aload_n hC 0 dX9_findLive_35 rfl rfl ?_
    refine cv_getr hC (fg_X9_66_10 G) dX9_findLive_36 ?_
    refine cv_bipush (v := 15) hC dX9_findLive_39 cb_bipush_15 ?_
    refine cv_iload_n hC 1 dX9_findLive_41 rfl rfl ?_
    refine cv_imul hC dX9_findLive_42 ?_
    refine cv_iload_n hC 2 dX9_findLive_43 rfl rfl ?_
    refine cv_iadd hC dX9_findLive_44 ?_
    refine cv_aload_n hC 0 dX9_findLive_45 rfl rfl ?_
    refine cv_iload_n hC 1 dX9_findLive_46 rfl rfl ?_
    refine cv_iload_n hC 2 dX9_findLive_47 rfl rfl ?_
    refine cv_callVi (ob := 10) hC [.int l1, .int l2] [.int ((15 * l1) + l2), .ref (G.1 60)] (M_X9_reads LL G l1 l2 σ) ln_X9_192 vm_X9_reads (ob_10 G) rfl rfl (Nat.le_of_ble_eq_true rfl) ⟨Nat.le_of_ble_eq_true rfl, Nat.le_of_ble_eq_true rfl⟩ ⟨Nat.le_of_ble_eq_true rfl, Nat.le_of_ble_eq_true rfl⟩ dX9_findLive_48 (fun v6 s5 => ?_)
    refine cv_aload_n hC 0 dX9_findLive_51 rfl rfl ?_
    refine cv_iload_n hC 1 dX9_findLive_52 rfl rfl ?_
    refine cv_iload_n hC 2 dX9_findLive_53 rfl rfl ?_
    refine cv_callVi (ob := 10) hC [.int l1, .int l2] [.int v6, .int ((15 * l1) + l2), .ref (G.1 60)] (M_X9_liveBehind LL G l1 l2 s5) ln_X9_195 vm_X9_liveBehind (ob_10 G) rfl rfl (Nat.le_of_ble_eq_true rfl) ⟨Nat.le_of_ble_eq_true rfl, Nat.le_of_ble_eq_true rfl⟩ ⟨Nat.le_of_ble_eq_true rfl, Nat.le_of_ble_eq_true rfl⟩ dX9_findLive_54 (fun v8 s7 => ?_)
    refine cv_aload_n hC 0 dX9_findLive_57 rfl rfl ?_
    refine cv_iload_n hC 1 dX9_findLive_58 rfl rfl ?_
    refine cv_iload_n hC 2 dX9_findLive_59 rfl rfl ?_
    refine cv_callVi (ob := 10) hC [.int l1, .int l2] [.int v8, .int v6, .int ((15 * l1) + l2), .ref (G.1 60)] (M_X9_writes LL G l1 l2 s7) ln_X9_198 vm_X9_writes (ob_10 G) rfl rfl (Nat.le_of_ble_eq_true rfl) ⟨Nat.le_of_ble_eq_true rfl, Nat.le_of_ble_eq_true rfl⟩ ⟨Nat.le_of_ble_eq_true rfl, Nat.le_of_ble_eq_true rfl⟩ dX9_findLive_60 (fun v10 s9 => ?_)
    refine cv_iconst (v := (-1)) hC dX9_findLive_63 cb_iconst_m1 ?_
    refine cv_ixor hC dX9_findLive_64 ?_
    refine cv_iand hC dX9_findLive_65 ?_
    refine cv_ior hC dX9_findLive_66 ?_
    refine cv_iast hC (cv_a60 G) dX9_findLive_67 (fun s11 => ?_)
    refine cv_iinc (lv' := [(2, .int (l2 + Int32.ofInt (-1))), (0, .ref (G.1 10)), (1, .int l1)]) hC 2 dX9_findLive_68 rfl (by decide) rfl ?_
    refine cv_goto (tgt := 31) hC dX9_findLive_71 (by decide) ?_
    exact cv_sub [1, 2, 0] rfl (hk31 l1 (l2 + Int32.ofInt (-1)) s11)
set_option maxRecDepth 20000 in
set_option maxHeartbeats 2000000 in
theorem J_X9_findLive_b31 {X : cv_X} {G : cv_G} {LL : Launch} (hC : cv_C X G LL RX9 cX9_findLive 3 none { frames := 3, cells := 0, slots := 0, locals := 68 }) : ∀ (n : Nat) (l1 : Int32) (l2 : Int32) (σ : cv_St), cv_J X G 3 0 0 (cv_QV X G) 31 [(0, .ref (G.1 10)), (1, .int l1), (2, .int l2)] [] σ (F_X9_findLive_b31 n l1 l2 σ) := by
  intro n
  induction n with
  | zero => intro l1 l2 σ; exact cv_none
  | succ n ih => intro l1 l2 σ; exact I_X9_findLive_b31 hC _ ih l1 l2 σ
set_option maxRecDepth 20000 in
set_option maxHeartbeats 2000000 in
theorem J_X9_findLive {X : cv_X} {G : cv_G} {LL : Launch} (hC : cv_C X G LL RX9 cX9_findLive 3 none { frames := 3, cells := 0, slots := 0, locals := 68 }) (l1 : Int32) (σ : cv_St) : cv_J X G 3 0 0 (cv_QV X G) 0 [(0, .ref (G.1 10)), (1, .int l1)] [] σ (F_X9_findLive l1 σ) := by
  unfold F_X9_findLive
  refine cv_aload_n hC 0 dX9_findLive_0 rfl rfl ?_
  refine cv_getr hC (fg_X9_66_10 G) dX9_findLive_1 ?_
  refine cv_bipush (v := 15) hC dX9_findLive_4 cb_bipush_15 ?_
  refine cv_iload_n hC 1 dX9_findLive_6 rfl rfl ?_
  refine cv_imul hC dX9_findLive_7 ?_
  refine cv_aload_n hC 0 dX9_findLive_8 rfl rfl ?_
  refine cv_getr hC (fg_X9_9_10 G) dX9_findLive_9 ?_
  refine cv_iload_n hC 1 dX9_findLive_12 rfl rfl ?_
  refine cv_iald hC (cv_a43 G) dX9_findLive_13 (fun v1 => ?_)
  refine cv_iadd hC dX9_findLive_14 ?_
  refine cv_aload_n hC 0 dX9_findLive_15 rfl rfl ?_
  refine cv_getr hC (fg_X9_63_10 G) dX9_findLive_16 ?_
  refine cv_iload_n hC 1 dX9_findLive_19 rfl rfl ?_
  refine cv_iald hC (cv_a59 G) dX9_findLive_20 (fun v2 => ?_)
  refine cv_iast hC (cv_a60 G) dX9_findLive_21 (fun s3 => ?_)
  refine cv_aload_n hC 0 dX9_findLive_22 rfl rfl ?_
  refine cv_getr hC (fg_X9_9_10 G) dX9_findLive_23 ?_
  refine cv_iload_n hC 1 dX9_findLive_26 rfl rfl ?_
  refine cv_iald hC (cv_a43 G) dX9_findLive_27 (fun v4 => ?_)
  refine cv_iconst (v := 1) hC dX9_findLive_28 cb_iconst_1 ?_
  refine cv_isub hC dX9_findLive_29 ?_
  refine cv_istore_n (lv' := [(2, .int (v4 - 1)), (0, .ref (G.1 10)), (1, .int l1)]) hC dX9_findLive_30 rfl (by decide) rfl ?_
  exact cv_sub [1, 2, 0] rfl (J_X9_findLive_b31 hC 1000 l1 (v4 - 1) s3)
set_option maxRecDepth 20000 in
set_option maxHeartbeats 2000000 in
theorem M_X9_findLive (LL : Launch) (G : cv_G) (l1 : Int32) (σ : cv_St) : cv_MV LL G yX9_findLive cX9_findLive 3 3 68 [.ref (G.1 10), .int l1] σ (F_X9_findLive l1 σ) :=
  cv_mkV (by decide) (Nat.le_of_ble_eq_true rfl) (fun X hC => J_X9_findLive hC l1 σ)
/-! X9_calleeOf -/
set_option maxRecDepth 20000 in
set_option maxHeartbeats 2000000 in
theorem J_X9_calleeOf {X : cv_X} {G : cv_G} {LL : Launch} (hC : cv_C X G LL RX9 cX9_calleeOf 2 (some .int) { frames := 1, cells := 0, slots := 0, locals := 22 }) (l1 : Int32) (σ : cv_St) : cv_J X G 2 0 0 (cv_QI X G) 0 [(0, .ref (G.1 10)), (1, .int l1)] [] σ (F_X9_calleeOf l1 σ) := by
  unfold F_X9_calleeOf
  refine cv_aload_n hC 0 dX9_calleeOf_0 rfl rfl ?_
  refine cv_aload_n hC 0 dX9_calleeOf_1 rfl rfl ?_
  refine cv_getr hC (fg_X9_69_10 G) dX9_calleeOf_2 ?_
  refine cv_iload_n hC 1 dX9_calleeOf_5 rfl rfl ?_
  refine cv_iald hC (cv_a61 G) dX9_calleeOf_6 (fun v1 => ?_)
  refine cv_aload_n hC 0 dX9_calleeOf_7 rfl rfl ?_
  refine cv_getr hC (fg_X9_72_10 G) dX9_calleeOf_8 ?_
  refine cv_iload_n hC 1 dX9_calleeOf_11 rfl rfl ?_
  refine cv_iald hC (cv_a62 G) dX9_calleeOf_12 (fun v2 => ?_)
  refine cv_callVi (ob := 10) hC [.int v1, .int v2] [] (M_X9_first LL G v1 v2 σ) ln_X9_141 vm_X9_first (ob_10 G) rfl rfl (Nat.le_of_ble_eq_true rfl) ⟨Nat.le_of_ble_eq_true rfl, Nat.le_of_ble_eq_true rfl⟩ ⟨Nat.le_of_ble_eq_true rfl, Nat.le_of_ble_eq_true rfl⟩ dX9_calleeOf_13 (fun v4 s3 => ?_)
  exact cv_iret hC dX9_calleeOf_16
set_option maxRecDepth 20000 in
set_option maxHeartbeats 2000000 in
theorem M_X9_calleeOf (LL : Launch) (G : cv_G) (l1 : Int32) (σ : cv_St) : cv_MI LL G yX9_calleeOf cX9_calleeOf 2 (some .int) 1 22 [.ref (G.1 10), .int l1] σ (F_X9_calleeOf l1 σ) :=
  cv_mkI (by decide) (Nat.le_of_ble_eq_true rfl) (fun X hC => J_X9_calleeOf hC l1 σ)
/-! X9_liveBehindCalls -/
set_option maxRecDepth 20000 in
set_option maxHeartbeats 2000000 in
theorem J_X9_liveBehindCalls_b42 {X : cv_X} {G : cv_G} {LL : Launch} (hC : cv_C X G LL RX9 cX9_liveBehindCalls 4 (some .int) { frames := 3, cells := 0, slots := 0, locals := 68 }) (k4 : Int32 → Int32 → Int32 → cv_St → Option (Int32 × cv_St)) (hk4 : ∀ (l1 : Int32) (l2 : Int32) (l3 : Int32)  σ, cv_J X G 4 0 0 (cv_QI X G) 4 [(0, .ref (G.1 10)), (1, .int l1), (2, .int l2), (3, .int l3)] [] σ (k4 l1 l2 l3 σ)) (l1 : Int32) (l3 : Int32) (t0 : Int32) (t1 : Int32) (σ : cv_St) : cv_J X G 4 0 0 (cv_QI X G) 42 [(0, .ref (G.1 10)), (1, .int l1), (3, .int l3)] [.int t0, .int t1] σ (F_X9_liveBehindCalls_b42 k4 l1 l3 t0 t1 σ) := by
  unfold F_X9_liveBehindCalls_b42
  refine cv_ior hC dX9_liveBehindCalls_42 ?_
  refine cv_istore_n (lv' := [(2, .int (t1 ||| t0)), (0, .ref (G.1 10)), (1, .int l1), (3, .int l3)]) hC dX9_liveBehindCalls_43 rfl (by decide) rfl ?_
  refine cv_iinc (lv' := [(3, .int (l3 + Int32.ofInt 1)), (2, .int (t1 ||| t0)), (0, .ref (G.1 10)), (1, .int l1)]) hC 3 dX9_liveBehindCalls_44 rfl (by decide) rfl ?_
  refine cv_goto (tgt := 4) hC dX9_liveBehindCalls_47 (by decide) ?_
  exact cv_sub [2, 3, 1, 0] rfl (hk4 l1 (t1 ||| t0) (l3 + Int32.ofInt 1) σ)
set_option maxRecDepth 20000 in
set_option maxHeartbeats 2000000 in
theorem I_X9_liveBehindCalls_b4 {X : cv_X} {G : cv_G} {LL : Launch} (hC : cv_C X G LL RX9 cX9_liveBehindCalls 4 (some .int) { frames := 3, cells := 0, slots := 0, locals := 68 }) (k4 : Int32 → Int32 → Int32 → cv_St → Option (Int32 × cv_St)) (hk4 : ∀ (l1 : Int32) (l2 : Int32) (l3 : Int32)  σ, cv_J X G 4 0 0 (cv_QI X G) 4 [(0, .ref (G.1 10)), (1, .int l1), (2, .int l2), (3, .int l3)] [] σ (k4 l1 l2 l3 σ)) (l1 : Int32) (l2 : Int32) (l3 : Int32) (σ : cv_St) : cv_J X G 4 0 0 (cv_QI X G) 4 [(0, .ref (G.1 10)), (1, .int l1), (2, .int l2), (3, .int l3)] [] σ (B_X9_liveBehindCalls_b4 k4 l1 l2 l3 σ) := by
  unfold B_X9_liveBehindCalls_b4
  refine cv_iload_n hC 3 dX9_liveBehindCalls_4 rfl rfl ?_
  refine cv_aload_n hC 0 dX9_liveBehindCalls_5 rfl rfl ?_
  refine cv_geti hC (fg_X9_201_10 G) dX9_liveBehindCalls_6 ?_
  refine cv_icmp_ge (tgt := 50) hC dX9_liveBehindCalls_9 (by decide) ?_ ?_
  · refine cv_iload_n hC 2 dX9_liveBehindCalls_50 rfl rfl ?_
    exact cv_iret hC dX9_liveBehindCalls_51
  · refine cv_iload_n hC 2 dX9_liveBehindCalls_12 rfl rfl ?_
    refine cv_aload_n hC 0 dX9_liveBehindCalls_13 rfl rfl ?_
    refine cv_iload_n hC 3 dX9_liveBehindCalls_14 rfl rfl ?_
    refine cv_callVi (ob := 10) hC [.int l3] [.int l2] (M_X9_calleeOf LL G l3 σ) ln_X9_204 vm_X9_calleeOf (ob_10 G) rfl rfl (Nat.le_of_ble_eq_true rfl) ⟨Nat.le_of_ble_eq_true rfl, Nat.le_of_ble_eq_true rfl⟩ ⟨Nat.le_of_ble_eq_true rfl, Nat.le_of_ble_eq_true rfl⟩ dX9_liveBehindCalls_15 (fun v2 s1 => ?_)
    refine cv_iload_n hC 1 dX9_liveBehindCalls_18 rfl rfl ?_
    refine cv_icmp_ne (tgt := 41) hC dX9_liveBehindCalls_19 (by decide) ?_ ?_
    · refine cv_iconst (v := 0) hC dX9_liveBehindCalls_41 cb_iconst_0 ?_
      exact cv_sub [0, 1, 3] rfl (J_X9_liveBehindCalls_b42 hC k4 hk4 l1 l3 0 l2 s1)
    · refine cv_aload_n hC 0 dX9_liveBehindCalls_22 rfl rfl ?_
      refine cv_aload_n hC 0 dX9_liveBehindCalls_23 rfl rfl ?_
      refine cv_getr hC (fg_X9_69_10 G) dX9_liveBehindCalls_24 ?_
      refine cv_iload_n hC 3 dX9_liveBehindCalls_27 rfl rfl ?_
      refine cv_iald hC (cv_a61 G) dX9_liveBehindCalls_28 (fun v3 => ?_)
      refine cv_aload_n hC 0 dX9_liveBehindCalls_29 rfl rfl ?_
      refine cv_getr hC (fg_X9_72_10 G) dX9_liveBehindCalls_30 ?_
      refine cv_iload_n hC 3 dX9_liveBehindCalls_33 rfl rfl ?_
      refine cv_iald hC (cv_a62 G) dX9_liveBehindCalls_34 (fun v4 => ?_)
      refine cv_callVi (ob := 10) hC [.int v3, .int v4] [.int l2] (M_X9_liveBehind LL G v3 v4 s1) ln_X9_195 vm_X9_liveBehind (ob_10 G) rfl rfl (Nat.le_of_ble_eq_true rfl) ⟨Nat.le_of_ble_eq_true rfl, Nat.le_of_ble_eq_true rfl⟩ ⟨Nat.le_of_ble_eq_true rfl, Nat.le_of_ble_eq_true rfl⟩ dX9_liveBehindCalls_35 (fun v6 s5 => ?_)
      refine cv_goto (tgt := 42) hC dX9_liveBehindCalls_38 (by decide) ?_
      exact cv_sub [0, 1, 3] rfl (J_X9_liveBehindCalls_b42 hC k4 hk4 l1 l3 v6 l2 s5)
set_option maxRecDepth 20000 in
set_option maxHeartbeats 2000000 in
theorem J_X9_liveBehindCalls_b4 {X : cv_X} {G : cv_G} {LL : Launch} (hC : cv_C X G LL RX9 cX9_liveBehindCalls 4 (some .int) { frames := 3, cells := 0, slots := 0, locals := 68 }) : ∀ (n : Nat) (l1 : Int32) (l2 : Int32) (l3 : Int32) (σ : cv_St), cv_J X G 4 0 0 (cv_QI X G) 4 [(0, .ref (G.1 10)), (1, .int l1), (2, .int l2), (3, .int l3)] [] σ (F_X9_liveBehindCalls_b4 n l1 l2 l3 σ) := by
  intro n
  induction n with
  | zero => intro l1 l2 l3 σ; exact cv_none
  | succ n ih => intro l1 l2 l3 σ; exact I_X9_liveBehindCalls_b4 hC _ ih l1 l2 l3 σ
set_option maxRecDepth 20000 in
set_option maxHeartbeats 2000000 in
theorem J_X9_liveBehindCalls {X : cv_X} {G : cv_G} {LL : Launch} (hC : cv_C X G LL RX9 cX9_liveBehindCalls 4 (some .int) { frames := 3, cells := 0, slots := 0, locals := 68 }) (l1 : Int32) (σ : cv_St) : cv_J X G 4 0 0 (cv_QI X G) 0 [(0, .ref (G.1 10)), (1, .int l1)] [] σ (F_X9_liveBehindCalls l1 σ) := by
  unfold F_X9_liveBehindCalls
  refine cv_iconst (v := 0) hC dX9_liveBehindCalls_0 cb_iconst_0 ?_
  refine cv_istore_n (lv' := [(2, .int 0), (0, .ref (G.1 10)), (1, .int l1)]) hC dX9_liveBehindCalls_1 rfl (by decide) rfl ?_
  refine cv_iconst (v := 0) hC dX9_liveBehindCalls_2 cb_iconst_0 ?_
  refine cv_istore_n (lv' := [(3, .int 0), (2, .int 0), (0, .ref (G.1 10)), (1, .int l1)]) hC dX9_liveBehindCalls_3 rfl (by decide) rfl ?_
  exact cv_sub [2, 3, 1, 0] rfl (J_X9_liveBehindCalls_b4 hC 1000 l1 0 0 σ)
set_option maxRecDepth 20000 in
set_option maxHeartbeats 2000000 in
theorem M_X9_liveBehindCalls (LL : Launch) (G : cv_G) (l1 : Int32) (σ : cv_St) : cv_MI LL G yX9_liveBehindCalls cX9_liveBehindCalls 4 (some .int) 3 68 [.ref (G.1 10), .int l1] σ (F_X9_liveBehindCalls l1 σ) :=
  cv_mkI (by decide) (Nat.le_of_ble_eq_true rfl) (fun X hC => J_X9_liveBehindCalls hC l1 σ)
/-! X9_findArguments -/
set_option maxRecDepth 20000 in
set_option maxHeartbeats 2000000 in
theorem J_X9_findArguments_b144 {X : cv_X} {G : cv_G} {LL : Launch} (hC : cv_C X G LL RX9 cX9_findArguments 4 none { frames := 4, cells := 0, slots := 0, locals := 91 }) (k30 : Int32 → cv_St → Option (cv_St)) (hk30 : ∀ (l1 : Int32)  σ, cv_J X G 4 0 0 (cv_QV X G) 30 [(0, .ref (G.1 10)), (1, .int l1)] [] σ (k30 l1 σ)) (k100 : Int32 → Int32 → cv_St → Option (cv_St)) (hk100 : ∀ (l1 : Int32) (l2 : Int32)  σ, cv_J X G 4 0 0 (cv_QV X G) 100 [(0, .ref (G.1 10)), (1, .int l1), (2, .int l2)] [] σ (k100 l1 l2 σ)) (l2 : Int32) (l3 : Int32) (t0 : Int32) (σ : cv_St) : cv_J X G 4 0 0 (cv_QV X G) 144 [(0, .ref (G.1 10)), (2, .int l2), (3, .int l3)] [.int t0] σ (F_X9_findArguments_b144 k30 k100 l2 l3 t0 σ) := by
  unfold F_X9_findArguments_b144
  refine cv_istore_n (lv' := [(1, .int t0), (0, .ref (G.1 10)), (2, .int l2), (3, .int l3)]) hC dX9_findArguments_144 rfl (by decide) rfl ?_
  refine cv_aload_n hC 1 dX9_findArguments_145 rfl rfl ?_
  refine cv_getr hC (fg_X9_63_10 G) dX9_findArguments_146 ?_
  refine cv_iload_n hC 2 dX9_findArguments_149 rfl rfl ?_
  refine cv_iload_n hC 3 dX9_findArguments_150 rfl rfl ?_
  refine cv_iast hC (cv_a59 G) dX9_findArguments_151 (fun s6 => ?_)
  refine cv_iinc (lv' := [(2, .int (l2 + Int32.ofInt 1)), (1, .int t0), (0, .ref (G.1 10)), (3, .int l3)]) hC 2 dX9_findArguments_152 rfl (by decide) rfl ?_
  refine cv_goto (tgt := 100) hC dX9_findArguments_155 (by decide) ?_
  exact cv_sub [2, 1, 0] rfl (hk100 t0 (l2 + Int32.ofInt 1) s6)
set_option maxRecDepth 20000 in
set_option maxHeartbeats 2000000 in
theorem J_X9_findArguments_b139 {X : cv_X} {G : cv_G} {LL : Launch} (hC : cv_C X G LL RX9 cX9_findArguments 4 none { frames := 4, cells := 0, slots := 0, locals := 91 }) (k30 : Int32 → cv_St → Option (cv_St)) (hk30 : ∀ (l1 : Int32)  σ, cv_J X G 4 0 0 (cv_QV X G) 30 [(0, .ref (G.1 10)), (1, .int l1)] [] σ (k30 l1 σ)) (k100 : Int32 → Int32 → cv_St → Option (cv_St)) (hk100 : ∀ (l1 : Int32) (l2 : Int32)  σ, cv_J X G 4 0 0 (cv_QV X G) 100 [(0, .ref (G.1 10)), (1, .int l1), (2, .int l2)] [] σ (k100 l1 l2 σ)) (l2 : Int32) (l3 : Int32) (σ : cv_St) : cv_J X G 4 0 0 (cv_QV X G) 139 [(0, .ref (G.1 10)), (2, .int l2), (3, .int l3)] [] σ (F_X9_findArguments_b139 k30 k100 l2 l3 σ) := by
  unfold F_X9_findArguments_b139
  refine cv_iconst (v := 1) hC dX9_findArguments_139 cb_iconst_1 ?_
  refine cv_goto (tgt := 144) hC dX9_findArguments_140 (by decide) ?_
  exact cv_sub [0, 1, 2] rfl (J_X9_findArguments_b144 hC k30 hk30 k100 hk100 l2 l3 1 σ)
set_option maxRecDepth 20000 in
set_option maxHeartbeats 2000000 in
theorem I_X9_findArguments_b100 {X : cv_X} {G : cv_G} {LL : Launch} (hC : cv_C X G LL RX9 cX9_findArguments 4 none { frames := 4, cells := 0, slots := 0, locals := 91 }) (k30 : Int32 → cv_St → Option (cv_St)) (hk30 : ∀ (l1 : Int32)  σ, cv_J X G 4 0 0 (cv_QV X G) 30 [(0, .ref (G.1 10)), (1, .int l1)] [] σ (k30 l1 σ)) (k100 : Int32 → Int32 → cv_St → Option (cv_St)) (hk100 : ∀ (l1 : Int32) (l2 : Int32)  σ, cv_J X G 4 0 0 (cv_QV X G) 100 [(0, .ref (G.1 10)), (1, .int l1), (2, .int l2)] [] σ (k100 l1 l2 σ)) (l1 : Int32) (l2 : Int32) (σ : cv_St) : cv_J X G 4 0 0 (cv_QV X G) 100 [(0, .ref (G.1 10)), (1, .int l1), (2, .int l2)] [] σ (B_X9_findArguments_b100 k30 k100 l1 l2 σ) := by
  unfold B_X9_findArguments_b100
  refine cv_iload_n hC 2 dX9_findArguments_100 rfl rfl ?_
  refine cv_bipush (v := 8) hC dX9_findArguments_101 cb_bipush_8 ?_
  refine cv_icmp_ge (tgt := 158) hC dX9_findArguments_103 (by decide) ?_ ?_
  · refine cv_goto (tgt := 30) hC dX9_findArguments_158 (by decide) ?_
    exact cv_sub [0, 1] rfl (hk30 l1 σ)
  · refine cv_aload_n hC 0 dX9_findArguments_106 rfl rfl ?_
    refine cv_iload_n hC 2 dX9_findArguments_107 rfl rfl ?_
    refine cv_callVi (ob := 10) hC [.int l2] [] (M_X9_clobbered LL G l2 σ) ln_X9_189 vm_X9_clobbered (ob_10 G) rfl rfl (Nat.le_of_ble_eq_true rfl) ⟨Nat.le_of_ble_eq_true rfl, Nat.le_of_ble_eq_true rfl⟩ ⟨Nat.le_of_ble_eq_true rfl, Nat.le_of_ble_eq_true rfl⟩ dX9_findArguments_108 (fun v2 s1 => ?_)
    refine cv_aload_n hC 0 dX9_findArguments_111 rfl rfl ?_
    refine cv_getr hC (fg_X9_51_10 G) dX9_findArguments_112 ?_
    refine cv_iload_n hC 2 dX9_findArguments_115 rfl rfl ?_
    refine cv_iald hC (cv_a55 G) dX9_findArguments_116 (fun v3 => ?_)
    refine cv_iand hC dX9_findArguments_117 ?_
    refine cv_aload_n hC 0 dX9_findArguments_118 rfl rfl ?_
    refine cv_iload_n hC 2 dX9_findArguments_119 rfl rfl ?_
    refine cv_callVi (ob := 10) hC [.int l2] [.int (v2 &&& v3)] (M_X9_liveBehindCalls LL G l2 s1) ln_X9_210 vm_X9_liveBehindCalls (ob_10 G) rfl rfl (Nat.le_of_ble_eq_true rfl) ⟨Nat.le_of_ble_eq_true rfl, Nat.le_of_ble_eq_true rfl⟩ ⟨Nat.le_of_ble_eq_true rfl, Nat.le_of_ble_eq_true rfl⟩ dX9_findArguments_120 (fun v5 s4 => ?_)
    refine cv_iand hC dX9_findArguments_123 ?_
    refine cv_istore_n (lv' := [(3, .int ((v2 &&& v3) &&& v5)), (0, .ref (G.1 10)), (1, .int l1), (2, .int l2)]) hC dX9_findArguments_124 rfl (by decide) rfl ?_
    refine cv_iload_n hC 2 dX9_findArguments_125 rfl rfl ?_
    refine cv_if_ne (tgt := 139) hC dX9_findArguments_126 (by decide) ?_ ?_
    · exact cv_sub [1, 3, 0] rfl (J_X9_findArguments_b139 hC k30 hk30 k100 hk100 l2 ((v2 &&& v3) &&& v5) s4)
    · refine cv_aload_n hC 1 dX9_findArguments_129 rfl rfl ?_
      refine cv_getr hC (fg_X9_63_10 G) dX9_findArguments_130 ?_
      refine cv_iload_n hC 3 dX9_findArguments_133 rfl rfl ?_
      refine cv_iald hC (cv_a59 G) dX9_findArguments_134 (fun v7 => ?_)
      refine cv_iload_n hC 0 dX9_findArguments_135 rfl rfl ?_
      refine cv_icmp_eq (tgt := 143) hC dX9_findArguments_136 (by decide) ?_ ?_
      · refine cv_iconst (v := 0) hC dX9_findArguments_143 cb_iconst_0 ?_
        exact cv_sub [1, 3, 0] rfl (J_X9_findArguments_b144 hC k30 hk30 k100 hk100 l2 ((v2 &&& v3) &&& v5) 0 s4)
      · exact cv_sub [1, 3, 0] rfl (J_X9_findArguments_b139 hC k30 hk30 k100 hk100 l2 ((v2 &&& v3) &&& v5) s4)
set_option maxRecDepth 20000 in
set_option maxHeartbeats 2000000 in
theorem J_X9_findArguments_b100 {X : cv_X} {G : cv_G} {LL : Launch} (hC : cv_C X G LL RX9 cX9_findArguments 4 none { frames := 4, cells := 0, slots := 0, locals := 91 }) (k30 : Int32 → cv_St → Option (cv_St)) (hk30 : ∀ (l1 : Int32)  σ, cv_J X G 4 0 0 (cv_QV X G) 30 [(0, .ref (G.1 10)), (1, .int l1)] [] σ (k30 l1 σ)) : ∀ (n : Nat) (l1 : Int32) (l2 : Int32) (σ : cv_St), cv_J X G 4 0 0 (cv_QV X G) 100 [(0, .ref (G.1 10)), (1, .int l1), (2, .int l2)] [] σ (F_X9_findArguments_b100 k30 n l1 l2 σ) := by
  intro n
  induction n with
  | zero => intro l1 l2 σ; exact cv_none
  | succ n ih => intro l1 l2 σ; exact I_X9_findArguments_b100 hC k30 hk30 _ ih l1 l2 σ
set_option maxRecDepth 20000 in
set_option maxHeartbeats 2000000 in
theorem J_X9_findArguments_b76 {X : cv_X} {G : cv_G} {LL : Launch} (hC : cv_C X G LL RX9 cX9_findArguments 4 none { frames := 4, cells := 0, slots := 0, locals := 91 }) (k30 : Int32 → cv_St → Option (cv_St)) (hk30 : ∀ (l1 : Int32)  σ, cv_J X G 4 0 0 (cv_QV X G) 30 [(0, .ref (G.1 10)), (1, .int l1)] [] σ (k30 l1 σ)) (k38 : Int32 → Int32 → cv_St → Option (cv_St)) (hk38 : ∀ (l1 : Int32) (l2 : Int32)  σ, cv_J X G 4 0 0 (cv_QV X G) 38 [(0, .ref (G.1 10)), (1, .int l1), (2, .int l2)] [] σ (k38 l1 l2 σ)) (l2 : Int32) (t0 : Int32) (σ : cv_St) : cv_J X G 4 0 0 (cv_QV X G) 76 [(0, .ref (G.1 10)), (2, .int l2)] [.int t0] σ (F_X9_findArguments_b76 k30 k38 l2 t0 σ) := by
  unfold F_X9_findArguments_b76
  refine cv_istore_n (lv' := [(1, .int t0), (0, .ref (G.1 10)), (2, .int l2)]) hC dX9_findArguments_76 rfl (by decide) rfl ?_
  refine cv_aload_n hC 1 dX9_findArguments_77 rfl rfl ?_
  refine cv_getr hC (fg_X9_60_10 G) dX9_findArguments_78 ?_
  refine cv_iload_n hC 2 dX9_findArguments_81 rfl rfl ?_
  refine cv_aload_n hC 1 dX9_findArguments_82 rfl rfl ?_
  refine cv_getr hC (fg_X9_66_10 G) dX9_findArguments_83 ?_
  refine cv_bipush (v := 15) hC dX9_findArguments_86 cb_bipush_15 ?_
  refine cv_iload_n hC 2 dX9_findArguments_88 rfl rfl ?_
  refine cv_imul hC dX9_findArguments_89 ?_
  refine cv_iald hC (cv_a60 G) dX9_findArguments_90 (fun v9 => ?_)
  refine cv_iast hC (cv_a58 G) dX9_findArguments_91 (fun s10 => ?_)
  refine cv_iinc (lv' := [(2, .int (l2 + Int32.ofInt 1)), (1, .int t0), (0, .ref (G.1 10))]) hC 2 dX9_findArguments_92 rfl (by decide) rfl ?_
  refine cv_goto (tgt := 38) hC dX9_findArguments_95 (by decide) ?_
  exact cv_sub [2, 1, 0] rfl (hk38 t0 (l2 + Int32.ofInt 1) s10)
set_option maxRecDepth 20000 in
set_option maxHeartbeats 2000000 in
theorem J_X9_findArguments_b71 {X : cv_X} {G : cv_G} {LL : Launch} (hC : cv_C X G LL RX9 cX9_findArguments 4 none { frames := 4, cells := 0, slots := 0, locals := 91 }) (k30 : Int32 → cv_St → Option (cv_St)) (hk30 : ∀ (l1 : Int32)  σ, cv_J X G 4 0 0 (cv_QV X G) 30 [(0, .ref (G.1 10)), (1, .int l1)] [] σ (k30 l1 σ)) (k38 : Int32 → Int32 → cv_St → Option (cv_St)) (hk38 : ∀ (l1 : Int32) (l2 : Int32)  σ, cv_J X G 4 0 0 (cv_QV X G) 38 [(0, .ref (G.1 10)), (1, .int l1), (2, .int l2)] [] σ (k38 l1 l2 σ)) (l2 : Int32) (σ : cv_St) : cv_J X G 4 0 0 (cv_QV X G) 71 [(0, .ref (G.1 10)), (2, .int l2)] [] σ (F_X9_findArguments_b71 k30 k38 l2 σ) := by
  unfold F_X9_findArguments_b71
  refine cv_iconst (v := 1) hC dX9_findArguments_71 cb_iconst_1 ?_
  refine cv_goto (tgt := 76) hC dX9_findArguments_72 (by decide) ?_
  exact cv_sub [0, 1] rfl (J_X9_findArguments_b76 hC k30 hk30 k38 hk38 l2 1 σ)
set_option maxRecDepth 20000 in
set_option maxHeartbeats 2000000 in
theorem I_X9_findArguments_b38 {X : cv_X} {G : cv_G} {LL : Launch} (hC : cv_C X G LL RX9 cX9_findArguments 4 none { frames := 4, cells := 0, slots := 0, locals := 91 }) (k30 : Int32 → cv_St → Option (cv_St)) (hk30 : ∀ (l1 : Int32)  σ, cv_J X G 4 0 0 (cv_QV X G) 30 [(0, .ref (G.1 10)), (1, .int l1)] [] σ (k30 l1 σ)) (k38 : Int32 → Int32 → cv_St → Option (cv_St)) (hk38 : ∀ (l1 : Int32) (l2 : Int32)  σ, cv_J X G 4 0 0 (cv_QV X G) 38 [(0, .ref (G.1 10)), (1, .int l1), (2, .int l2)] [] σ (k38 l1 l2 σ)) (l1 : Int32) (l2 : Int32) (σ : cv_St) : cv_J X G 4 0 0 (cv_QV X G) 38 [(0, .ref (G.1 10)), (1, .int l1), (2, .int l2)] [] σ (B_X9_findArguments_b38 k30 k38 l1 l2 σ) := by
  unfold B_X9_findArguments_b38
  refine cv_iload_n hC 2 dX9_findArguments_38 rfl rfl ?_
  refine cv_bipush (v := 8) hC dX9_findArguments_39 cb_bipush_8 ?_
  refine cv_icmp_ge (tgt := 98) hC dX9_findArguments_41 (by decide) ?_ ?_
  · refine cv_iconst (v := 0) hC dX9_findArguments_98 cb_iconst_0 ?_
    refine cv_istore_n (lv' := [(2, .int 0), (0, .ref (G.1 10)), (1, .int l1)]) hC dX9_findArguments_99 rfl (by decide) rfl ?_
    exact cv_sub [1, 2, 0] rfl (J_X9_findArguments_b100 hC k30 hk30 1000 l1 0 σ)
  · refine cv_aload_n hC 0 dX9_findArguments_44 rfl rfl ?_
    refine cv_iload_n hC 2 dX9_findArguments_45 rfl rfl ?_
    refine cv_callVv (ob := 10) hC [.int l2] [] (M_X9_findLive LL G l2 σ) ln_X9_207 vm_X9_findLive (ob_10 G) rfl rfl (Nat.le_of_ble_eq_true rfl) ⟨Nat.le_of_ble_eq_true rfl, Nat.le_of_ble_eq_true rfl⟩ ⟨Nat.le_of_ble_eq_true rfl, Nat.le_of_ble_eq_true rfl⟩ dX9_findArguments_46 (fun s8 => ?_)
    refine cv_iload_n hC 1 dX9_findArguments_49 rfl rfl ?_
    refine cv_if_ne (tgt := 71) hC dX9_findArguments_50 (by decide) ?_ ?_
    · exact cv_sub [0, 2] rfl (J_X9_findArguments_b71 hC k30 hk30 k38 hk38 l2 s8)
    · refine cv_aload_n hC 0 dX9_findArguments_53 rfl rfl ?_
      refine cv_getr hC (fg_X9_60_10 G) dX9_findArguments_54 ?_
      refine cv_iload_n hC 2 dX9_findArguments_57 rfl rfl ?_
      refine cv_iald hC (cv_a58 G) dX9_findArguments_58 (fun v11 => ?_)
      refine cv_aload_n hC 0 dX9_findArguments_59 rfl rfl ?_
      refine cv_getr hC (fg_X9_66_10 G) dX9_findArguments_60 ?_
      refine cv_bipush (v := 15) hC dX9_findArguments_63 cb_bipush_15 ?_
      refine cv_iload_n hC 2 dX9_findArguments_65 rfl rfl ?_
      refine cv_imul hC dX9_findArguments_66 ?_
      refine cv_iald hC (cv_a60 G) dX9_findArguments_67 (fun v12 => ?_)
      refine cv_icmp_eq (tgt := 75) hC dX9_findArguments_68 (by decide) ?_ ?_
      · refine cv_iconst (v := 0) hC dX9_findArguments_75 cb_iconst_0 ?_
        exact cv_sub [0, 2] rfl (J_X9_findArguments_b76 hC k30 hk30 k38 hk38 l2 0 s8)
      · exact cv_sub [0, 2] rfl (J_X9_findArguments_b71 hC k30 hk30 k38 hk38 l2 s8)
set_option maxRecDepth 20000 in
set_option maxHeartbeats 2000000 in
theorem J_X9_findArguments_b38 {X : cv_X} {G : cv_G} {LL : Launch} (hC : cv_C X G LL RX9 cX9_findArguments 4 none { frames := 4, cells := 0, slots := 0, locals := 91 }) (k30 : Int32 → cv_St → Option (cv_St)) (hk30 : ∀ (l1 : Int32)  σ, cv_J X G 4 0 0 (cv_QV X G) 30 [(0, .ref (G.1 10)), (1, .int l1)] [] σ (k30 l1 σ)) : ∀ (n : Nat) (l1 : Int32) (l2 : Int32) (σ : cv_St), cv_J X G 4 0 0 (cv_QV X G) 38 [(0, .ref (G.1 10)), (1, .int l1), (2, .int l2)] [] σ (F_X9_findArguments_b38 k30 n l1 l2 σ) := by
  intro n
  induction n with
  | zero => intro l1 l2 σ; exact cv_none
  | succ n ih => intro l1 l2 σ; exact I_X9_findArguments_b38 hC k30 hk30 _ ih l1 l2 σ
set_option maxRecDepth 20000 in
set_option maxHeartbeats 2000000 in
theorem I_X9_findArguments_b30 {X : cv_X} {G : cv_G} {LL : Launch} (hC : cv_C X G LL RX9 cX9_findArguments 4 none { frames := 4, cells := 0, slots := 0, locals := 91 }) (k30 : Int32 → cv_St → Option (cv_St)) (hk30 : ∀ (l1 : Int32)  σ, cv_J X G 4 0 0 (cv_QV X G) 30 [(0, .ref (G.1 10)), (1, .int l1)] [] σ (k30 l1 σ)) (l1 : Int32) (σ : cv_St) : cv_J X G 4 0 0 (cv_QV X G) 30 [(0, .ref (G.1 10)), (1, .int l1)] [] σ (B_X9_findArguments_b30 k30 l1 σ) := by
  unfold B_X9_findArguments_b30
  refine cv_iload_n hC 1 dX9_findArguments_30 rfl rfl ?_
  refine cv_if_eq (tgt := 161) hC dX9_findArguments_31 (by decide) ?_ ?_
  · exact cv_vret hC dX9_findArguments_161
  · refine cv_iconst (v := 0) hC dX9_findArguments_34 cb_iconst_0 ?_
    refine cv_istore_n (lv' := [(1, .int 0), (0, .ref (G.1 10))]) hC dX9_findArguments_35 rfl (by decide) rfl ?_
    refine cv_iconst (v := 0) hC dX9_findArguments_36 cb_iconst_0 ?_
    refine cv_istore_n (lv' := [(2, .int 0), (1, .int 0), (0, .ref (G.1 10))]) hC dX9_findArguments_37 rfl (by decide) rfl ?_
    exact cv_sub [2, 1, 0] rfl (J_X9_findArguments_b38 hC k30 hk30 1000 0 0 σ)
set_option maxRecDepth 20000 in
set_option maxHeartbeats 2000000 in
theorem J_X9_findArguments_b30 {X : cv_X} {G : cv_G} {LL : Launch} (hC : cv_C X G LL RX9 cX9_findArguments 4 none { frames := 4, cells := 0, slots := 0, locals := 91 }) : ∀ (n : Nat) (l1 : Int32) (σ : cv_St), cv_J X G 4 0 0 (cv_QV X G) 30 [(0, .ref (G.1 10)), (1, .int l1)] [] σ (F_X9_findArguments_b30 n l1 σ) := by
  intro n
  induction n with
  | zero => intro l1 σ; exact cv_none
  | succ n ih => intro l1 σ; exact I_X9_findArguments_b30 hC _ ih l1 σ
set_option maxRecDepth 20000 in
set_option maxHeartbeats 2000000 in
theorem I_X9_findArguments_b2 {X : cv_X} {G : cv_G} {LL : Launch} (hC : cv_C X G LL RX9 cX9_findArguments 4 none { frames := 4, cells := 0, slots := 0, locals := 91 }) (k2 : Int32 → cv_St → Option (cv_St)) (hk2 : ∀ (l1 : Int32)  σ, cv_J X G 4 0 0 (cv_QV X G) 2 [(0, .ref (G.1 10)), (1, .int l1)] [] σ (k2 l1 σ)) (l1 : Int32) (σ : cv_St) : cv_J X G 4 0 0 (cv_QV X G) 2 [(0, .ref (G.1 10)), (1, .int l1)] [] σ (B_X9_findArguments_b2 k2 l1 σ) := by
  unfold B_X9_findArguments_b2
  refine cv_iload_n hC 1 dX9_findArguments_2 rfl rfl ?_
  refine cv_bipush (v := 8) hC dX9_findArguments_3 cb_bipush_8 ?_
  refine cv_icmp_ge (tgt := 28) hC dX9_findArguments_5 (by decide) ?_ ?_
  · refine cv_iconst (v := 1) hC dX9_findArguments_28 cb_iconst_1 ?_
    refine cv_istore_n (lv' := [(1, .int 1), (0, .ref (G.1 10))]) hC dX9_findArguments_29 rfl (by decide) rfl ?_
    exact cv_sub [1, 0] rfl (J_X9_findArguments_b30 hC 1000 1 σ)
  · refine cv_aload_n hC 0 dX9_findArguments_8 rfl rfl ?_
    refine cv_getr hC (fg_X9_60_10 G) dX9_findArguments_9 ?_
    refine cv_iload_n hC 1 dX9_findArguments_12 rfl rfl ?_
    refine cv_iconst (v := 0) hC dX9_findArguments_13 cb_iconst_0 ?_
    refine cv_iast hC (cv_a58 G) dX9_findArguments_14 (fun s13 => ?_)
    refine cv_aload_n hC 0 dX9_findArguments_15 rfl rfl ?_
    refine cv_getr hC (fg_X9_63_10 G) dX9_findArguments_16 ?_
    refine cv_iload_n hC 1 dX9_findArguments_19 rfl rfl ?_
    refine cv_iconst (v := 0) hC dX9_findArguments_20 cb_iconst_0 ?_
    refine cv_iast hC (cv_a59 G) dX9_findArguments_21 (fun s14 => ?_)
    refine cv_iinc (lv' := [(1, .int (l1 + Int32.ofInt 1)), (0, .ref (G.1 10))]) hC 1 dX9_findArguments_22 rfl (by decide) rfl ?_
    refine cv_goto (tgt := 2) hC dX9_findArguments_25 (by decide) ?_
    exact cv_sub [1, 0] rfl (hk2 (l1 + Int32.ofInt 1) s14)
set_option maxRecDepth 20000 in
set_option maxHeartbeats 2000000 in
theorem J_X9_findArguments_b2 {X : cv_X} {G : cv_G} {LL : Launch} (hC : cv_C X G LL RX9 cX9_findArguments 4 none { frames := 4, cells := 0, slots := 0, locals := 91 }) : ∀ (n : Nat) (l1 : Int32) (σ : cv_St), cv_J X G 4 0 0 (cv_QV X G) 2 [(0, .ref (G.1 10)), (1, .int l1)] [] σ (F_X9_findArguments_b2 n l1 σ) := by
  intro n
  induction n with
  | zero => intro l1 σ; exact cv_none
  | succ n ih => intro l1 σ; exact I_X9_findArguments_b2 hC _ ih l1 σ
set_option maxRecDepth 20000 in
set_option maxHeartbeats 2000000 in
theorem J_X9_findArguments {X : cv_X} {G : cv_G} {LL : Launch} (hC : cv_C X G LL RX9 cX9_findArguments 4 none { frames := 4, cells := 0, slots := 0, locals := 91 }) (σ : cv_St) : cv_J X G 4 0 0 (cv_QV X G) 0 [(0, .ref (G.1 10))] [] σ (F_X9_findArguments σ) := by
  unfold F_X9_findArguments
  refine cv_iconst (v := 0) hC dX9_findArguments_0 cb_iconst_0 ?_
  refine cv_istore_n (lv' := [(1, .int 0), (0, .ref (G.1 10))]) hC dX9_findArguments_1 rfl (by decide) rfl ?_
  exact cv_sub [1, 0] rfl (J_X9_findArguments_b2 hC 1000 0 σ)
set_option maxRecDepth 20000 in
set_option maxHeartbeats 2000000 in
theorem M_X9_findArguments (LL : Launch) (G : cv_G) (σ : cv_St) : cv_MV LL G yX9_findArguments cX9_findArguments 4 4 91 [.ref (G.1 10)] σ (F_X9_findArguments σ) :=
  cv_mkV (by decide) (Nat.le_of_ble_eq_true rfl) (fun X hC => J_X9_findArguments hC σ)
/-! X9_findSites -/
set_option maxRecDepth 20000 in
set_option maxHeartbeats 2000000 in
theorem J_X9_findSites_b75 {X : cv_X} {G : cv_G} {LL : Launch} (hC : cv_C X G LL RX9 cX9_findSites 3 none { frames := 1, cells := 0, slots := 0, locals := 22 }) (k7 : Int32 → cv_St → Option (cv_St)) (hk7 : ∀ (l1 : Int32)  σ, cv_J X G 3 0 0 (cv_QV X G) 7 [(0, .ref (G.1 10)), (1, .int l1)] [] σ (k7 l1 σ)) (k15 : Int32 → Int32 → cv_St → Option (cv_St)) (hk15 : ∀ (l1 : Int32) (l2 : Int32)  σ, cv_J X G 3 0 0 (cv_QV X G) 15 [(0, .ref (G.1 10)), (1, .int l1), (2, .int l2)] [] σ (k15 l1 l2 σ)) (l1 : Int32) (l2 : Int32) (σ : cv_St) : cv_J X G 3 0 0 (cv_QV X G) 75 [(0, .ref (G.1 10)), (1, .int l1), (2, .int l2)] [] σ (F_X9_findSites_b75 k7 k15 l1 l2 σ) := by
  unfold F_X9_findSites_b75
  refine cv_iinc (lv' := [(2, .int (l2 + Int32.ofInt 1)), (0, .ref (G.1 10)), (1, .int l1)]) hC 2 dX9_findSites_75 rfl (by decide) rfl ?_
  refine cv_goto (tgt := 15) hC dX9_findSites_78 (by decide) ?_
  exact cv_sub [1, 2, 0] rfl (hk15 l1 (l2 + Int32.ofInt 1) σ)
set_option maxRecDepth 20000 in
set_option maxHeartbeats 2000000 in
theorem I_X9_findSites_b15 {X : cv_X} {G : cv_G} {LL : Launch} (hC : cv_C X G LL RX9 cX9_findSites 3 none { frames := 1, cells := 0, slots := 0, locals := 22 }) (k7 : Int32 → cv_St → Option (cv_St)) (hk7 : ∀ (l1 : Int32)  σ, cv_J X G 3 0 0 (cv_QV X G) 7 [(0, .ref (G.1 10)), (1, .int l1)] [] σ (k7 l1 σ)) (k15 : Int32 → Int32 → cv_St → Option (cv_St)) (hk15 : ∀ (l1 : Int32) (l2 : Int32)  σ, cv_J X G 3 0 0 (cv_QV X G) 15 [(0, .ref (G.1 10)), (1, .int l1), (2, .int l2)] [] σ (k15 l1 l2 σ)) (l1 : Int32) (l2 : Int32) (σ : cv_St) : cv_J X G 3 0 0 (cv_QV X G) 15 [(0, .ref (G.1 10)), (1, .int l1), (2, .int l2)] [] σ (B_X9_findSites_b15 k7 k15 l1 l2 σ) := by
  unfold B_X9_findSites_b15
  refine cv_iload_n hC 2 dX9_findSites_15 rfl rfl ?_
  refine cv_aload_n hC 0 dX9_findSites_16 rfl rfl ?_
  refine cv_getr hC (fg_X9_9_10 G) dX9_findSites_17 ?_
  refine cv_iload_n hC 1 dX9_findSites_20 rfl rfl ?_
  refine cv_iald hC (cv_a43 G) dX9_findSites_21 (fun v2 => ?_)
  refine cv_icmp_ge (tgt := 81) hC dX9_findSites_22 (by decide) ?_ ?_
  · refine cv_iinc (lv' := [(1, .int (l1 + Int32.ofInt 1)), (0, .ref (G.1 10)), (2, .int l2)]) hC 1 dX9_findSites_81 rfl (by decide) rfl ?_
    refine cv_goto (tgt := 7) hC dX9_findSites_84 (by decide) ?_
    exact cv_sub [1, 0] rfl (hk7 (l1 + Int32.ofInt 1) σ)
  · refine cv_aload_n hC 0 dX9_findSites_25 rfl rfl ?_
    refine cv_iload_n hC 1 dX9_findSites_26 rfl rfl ?_
    refine cv_iload_n hC 2 dX9_findSites_27 rfl rfl ?_
    refine cv_callVi (ob := 10) hC [.int l1, .int l2] [] (M_X9_reached LL G l1 l2 σ) ln_X9_152 vm_X9_reached (ob_10 G) rfl rfl (Nat.le_of_ble_eq_true rfl) ⟨Nat.le_of_ble_eq_true rfl, Nat.le_of_ble_eq_true rfl⟩ ⟨Nat.le_of_ble_eq_true rfl, Nat.le_of_ble_eq_true rfl⟩ dX9_findSites_28 (fun v4 s3 => ?_)
    refine cv_if_eq (tgt := 75) hC dX9_findSites_31 (by decide) ?_ ?_
    · exact cv_sub [0, 1, 2] rfl (J_X9_findSites_b75 hC k7 hk7 k15 hk15 l1 l2 s3)
    · refine cv_aload_n hC 0 dX9_findSites_34 rfl rfl ?_
      refine cv_iload_n hC 1 dX9_findSites_35 rfl rfl ?_
      refine cv_iload_n hC 2 dX9_findSites_36 rfl rfl ?_
      refine cv_callVi (ob := 10) hC [.int l1, .int l2] [] (M_X9_kind LL G l1 l2 s3) ln_X9_138 vm_X9_kind (ob_10 G) rfl rfl (Nat.le_of_ble_eq_true rfl) ⟨Nat.le_of_ble_eq_true rfl, Nat.le_of_ble_eq_true rfl⟩ ⟨Nat.le_of_ble_eq_true rfl, Nat.le_of_ble_eq_true rfl⟩ dX9_findSites_37 (fun v6 s5 => ?_)
      refine cv_bipush (v := 99) hC dX9_findSites_40 cb_bipush_99 ?_
      refine cv_icmp_ne (tgt := 75) hC dX9_findSites_42 (by decide) ?_ ?_
      · exact cv_sub [0, 1, 2] rfl (J_X9_findSites_b75 hC k7 hk7 k15 hk15 l1 l2 s5)
      · refine cv_aload_n hC 0 dX9_findSites_45 rfl rfl ?_
        refine cv_getr hC (fg_X9_69_10 G) dX9_findSites_46 ?_
        refine cv_aload_n hC 0 dX9_findSites_49 rfl rfl ?_
        refine cv_geti hC (fg_X9_201_10 G) dX9_findSites_50 ?_
        refine cv_iload_n hC 1 dX9_findSites_53 rfl rfl ?_
        refine cv_iast hC (cv_a61 G) dX9_findSites_54 (fun s7 => ?_)
        refine cv_aload_n hC 0 dX9_findSites_55 rfl rfl ?_
        refine cv_getr hC (fg_X9_72_10 G) dX9_findSites_56 ?_
        refine cv_aload_n hC 0 dX9_findSites_59 rfl rfl ?_
        refine cv_geti hC (fg_X9_201_10 G) dX9_findSites_60 ?_
        refine cv_iload_n hC 2 dX9_findSites_63 rfl rfl ?_
        refine cv_iast hC (cv_a62 G) dX9_findSites_64 (fun s8 => ?_)
        refine cv_aload_n hC 0 dX9_findSites_65 rfl rfl ?_
        refine cv_dup hC dX9_findSites_66 rfl ?_
        refine cv_geti hC (fg_X9_201_10 G) dX9_findSites_67 ?_
        refine cv_iconst (v := 1) hC dX9_findSites_70 cb_iconst_1 ?_
        refine cv_iadd hC dX9_findSites_71 ?_
        refine cv_puti hC (fp_X9_201_10 G) dX9_findSites_72 (fun s9 => ?_)
        exact cv_sub [0, 1, 2] rfl (J_X9_findSites_b75 hC k7 hk7 k15 hk15 l1 l2 s9)
set_option maxRecDepth 20000 in
set_option maxHeartbeats 2000000 in
theorem J_X9_findSites_b15 {X : cv_X} {G : cv_G} {LL : Launch} (hC : cv_C X G LL RX9 cX9_findSites 3 none { frames := 1, cells := 0, slots := 0, locals := 22 }) (k7 : Int32 → cv_St → Option (cv_St)) (hk7 : ∀ (l1 : Int32)  σ, cv_J X G 3 0 0 (cv_QV X G) 7 [(0, .ref (G.1 10)), (1, .int l1)] [] σ (k7 l1 σ)) : ∀ (n : Nat) (l1 : Int32) (l2 : Int32) (σ : cv_St), cv_J X G 3 0 0 (cv_QV X G) 15 [(0, .ref (G.1 10)), (1, .int l1), (2, .int l2)] [] σ (F_X9_findSites_b15 k7 n l1 l2 σ) := by
  intro n
  induction n with
  | zero => intro l1 l2 σ; exact cv_none
  | succ n ih => intro l1 l2 σ; exact I_X9_findSites_b15 hC k7 hk7 _ ih l1 l2 σ
set_option maxRecDepth 20000 in
set_option maxHeartbeats 2000000 in
theorem I_X9_findSites_b7 {X : cv_X} {G : cv_G} {LL : Launch} (hC : cv_C X G LL RX9 cX9_findSites 3 none { frames := 1, cells := 0, slots := 0, locals := 22 }) (k7 : Int32 → cv_St → Option (cv_St)) (hk7 : ∀ (l1 : Int32)  σ, cv_J X G 3 0 0 (cv_QV X G) 7 [(0, .ref (G.1 10)), (1, .int l1)] [] σ (k7 l1 σ)) (l1 : Int32) (σ : cv_St) : cv_J X G 3 0 0 (cv_QV X G) 7 [(0, .ref (G.1 10)), (1, .int l1)] [] σ (B_X9_findSites_b7 k7 l1 σ) := by
  unfold B_X9_findSites_b7
  refine cv_iload_n hC 1 dX9_findSites_7 rfl rfl ?_
  refine cv_bipush (v := 8) hC dX9_findSites_8 cb_bipush_8 ?_
  refine cv_icmp_ge (tgt := 87) hC dX9_findSites_10 (by decide) ?_ ?_
  · exact cv_vret hC dX9_findSites_87
  · refine cv_iconst (v := 0) hC dX9_findSites_13 cb_iconst_0 ?_
    refine cv_istore_n (lv' := [(2, .int 0), (0, .ref (G.1 10)), (1, .int l1)]) hC dX9_findSites_14 rfl (by decide) rfl ?_
    exact cv_sub [1, 2, 0] rfl (J_X9_findSites_b15 hC k7 hk7 1000 l1 0 σ)
set_option maxRecDepth 20000 in
set_option maxHeartbeats 2000000 in
theorem J_X9_findSites_b7 {X : cv_X} {G : cv_G} {LL : Launch} (hC : cv_C X G LL RX9 cX9_findSites 3 none { frames := 1, cells := 0, slots := 0, locals := 22 }) : ∀ (n : Nat) (l1 : Int32) (σ : cv_St), cv_J X G 3 0 0 (cv_QV X G) 7 [(0, .ref (G.1 10)), (1, .int l1)] [] σ (F_X9_findSites_b7 n l1 σ) := by
  intro n
  induction n with
  | zero => intro l1 σ; exact cv_none
  | succ n ih => intro l1 σ; exact I_X9_findSites_b7 hC _ ih l1 σ
set_option maxRecDepth 20000 in
set_option maxHeartbeats 2000000 in
theorem J_X9_findSites {X : cv_X} {G : cv_G} {LL : Launch} (hC : cv_C X G LL RX9 cX9_findSites 3 none { frames := 1, cells := 0, slots := 0, locals := 22 }) (σ : cv_St) : cv_J X G 3 0 0 (cv_QV X G) 0 [(0, .ref (G.1 10))] [] σ (F_X9_findSites σ) := by
  unfold F_X9_findSites
  refine cv_aload_n hC 0 dX9_findSites_0 rfl rfl ?_
  refine cv_iconst (v := 0) hC dX9_findSites_1 cb_iconst_0 ?_
  refine cv_puti hC (fp_X9_201_10 G) dX9_findSites_2 (fun s1 => ?_)
  refine cv_iconst (v := 0) hC dX9_findSites_5 cb_iconst_0 ?_
  refine cv_istore_n (lv' := [(1, .int 0), (0, .ref (G.1 10))]) hC dX9_findSites_6 rfl (by decide) rfl ?_
  exact cv_sub [1, 0] rfl (J_X9_findSites_b7 hC 1000 0 s1)
set_option maxRecDepth 20000 in
set_option maxHeartbeats 2000000 in
theorem M_X9_findSites (LL : Launch) (G : cv_G) (σ : cv_St) : cv_MV LL G yX9_findSites cX9_findSites 3 1 22 [.ref (G.1 10)] σ (F_X9_findSites σ) :=
  cv_mkV (by decide) (Nat.le_of_ble_eq_true rfl) (fun X hC => J_X9_findSites hC σ)
/-! X9_passedAt -/
set_option maxRecDepth 20000 in
set_option maxHeartbeats 2000000 in
theorem J_X9_passedAt {X : cv_X} {G : cv_G} {LL : Launch} (hC : cv_C X G LL RX9 cX9_passedAt 2 (some .int) { frames := 0, cells := 0, slots := 0, locals := 0 }) (l1 : Int32) (σ : cv_St) : cv_J X G 2 0 0 (cv_QI X G) 0 [(0, .ref (G.1 10)), (1, .int l1)] [] σ (F_X9_passedAt l1 σ) := by
  unfold F_X9_passedAt
  refine cv_aload_n hC 0 dX9_passedAt_0 rfl rfl ?_
  refine cv_getr hC (fg_X9_57_10 G) dX9_passedAt_1 ?_
  refine cv_bipush (v := 14) hC dX9_passedAt_4 cb_bipush_14 ?_
  refine cv_aload_n hC 0 dX9_passedAt_6 rfl rfl ?_
  refine cv_getr hC (fg_X9_69_10 G) dX9_passedAt_7 ?_
  refine cv_iload_n hC 1 dX9_passedAt_10 rfl rfl ?_
  refine cv_iald hC (cv_a61 G) dX9_passedAt_11 (fun v1 => ?_)
  refine cv_imul hC dX9_passedAt_12 ?_
  refine cv_aload_n hC 0 dX9_passedAt_13 rfl rfl ?_
  refine cv_getr hC (fg_X9_72_10 G) dX9_passedAt_14 ?_
  refine cv_iload_n hC 1 dX9_passedAt_17 rfl rfl ?_
  refine cv_iald hC (cv_a62 G) dX9_passedAt_18 (fun v2 => ?_)
  refine cv_iadd hC dX9_passedAt_19 ?_
  refine cv_iald hC (cv_a57 G) dX9_passedAt_20 (fun v3 => ?_)
  exact cv_iret hC dX9_passedAt_21
set_option maxRecDepth 20000 in
set_option maxHeartbeats 2000000 in
theorem M_X9_passedAt (LL : Launch) (G : cv_G) (l1 : Int32) (σ : cv_St) : cv_MI LL G yX9_passedAt cX9_passedAt 2 (some .int) 0 0 [.ref (G.1 10), .int l1] σ (F_X9_passedAt l1 σ) :=
  cv_mkI (by decide) (Nat.le_of_ble_eq_true rfl) (fun X hC => J_X9_passedAt hC l1 σ)
/-! X9_infer -/
set_option maxRecDepth 20000 in
set_option maxHeartbeats 2000000 in
theorem I_X9_infer_b10 {X : cv_X} {G : cv_G} {LL : Launch} (hC : cv_C X G LL RX9 cX9_infer 2 none { frames := 5, cells := 0, slots := 0, locals := 118 }) (k10 : Int32 → cv_St → Option (cv_St)) (hk10 : ∀ (l1 : Int32)  σ, cv_J X G 2 0 0 (cv_QV X G) 10 [(0, .ref (G.1 10)), (1, .int l1)] [] σ (k10 l1 σ)) (l1 : Int32) (σ : cv_St) : cv_J X G 2 0 0 (cv_QV X G) 10 [(0, .ref (G.1 10)), (1, .int l1)] [] σ (B_X9_infer_b10 k10 l1 σ) := by
  unfold B_X9_infer_b10
  refine cv_iload_n hC 1 dX9_infer_10 rfl rfl ?_
  refine cv_bipush (v := 8) hC dX9_infer_11 cb_bipush_8 ?_
  refine cv_icmp_ge (tgt := 32) hC dX9_infer_13 (by decide) ?_ ?_
  · refine cv_aload_n hC 0 dX9_infer_32 rfl rfl ?_
    refine cv_callVv (ob := 10) hC [] [] (M_X9_findSites LL G σ) ln_X9_219 vm_X9_findSites (ob_10 G) rfl rfl (Nat.le_of_ble_eq_true rfl) ⟨Nat.le_of_ble_eq_true rfl, Nat.le_of_ble_eq_true rfl⟩ ⟨Nat.le_of_ble_eq_true rfl, Nat.le_of_ble_eq_true rfl⟩ dX9_infer_33 (fun s1 => ?_)
    refine cv_aload_n hC 0 dX9_infer_36 rfl rfl ?_
    refine cv_callVv (ob := 10) hC [] [] (M_X9_findPreserved LL G s1) ln_X9_222 vm_X9_findPreserved (ob_10 G) rfl rfl (Nat.le_of_ble_eq_true rfl) ⟨Nat.le_of_ble_eq_true rfl, Nat.le_of_ble_eq_true rfl⟩ ⟨Nat.le_of_ble_eq_true rfl, Nat.le_of_ble_eq_true rfl⟩ dX9_infer_37 (fun s2 => ?_)
    refine cv_aload_n hC 0 dX9_infer_40 rfl rfl ?_
    refine cv_callVv (ob := 10) hC [] [] (M_X9_findDefined LL G s2) ln_X9_225 vm_X9_findDefined (ob_10 G) rfl rfl (Nat.le_of_ble_eq_true rfl) ⟨Nat.le_of_ble_eq_true rfl, Nat.le_of_ble_eq_true rfl⟩ ⟨Nat.le_of_ble_eq_true rfl, Nat.le_of_ble_eq_true rfl⟩ dX9_infer_41 (fun s3 => ?_)
    refine cv_aload_n hC 0 dX9_infer_44 rfl rfl ?_
    refine cv_callVv (ob := 10) hC [] [] (M_X9_findArguments LL G s3) ln_X9_228 vm_X9_findArguments (ob_10 G) rfl rfl (Nat.le_of_ble_eq_true rfl) ⟨Nat.le_of_ble_eq_true rfl, Nat.le_of_ble_eq_true rfl⟩ ⟨Nat.le_of_ble_eq_true rfl, Nat.le_of_ble_eq_true rfl⟩ dX9_infer_45 (fun s4 => ?_)
    refine cv_aload_n hC 0 dX9_infer_48 rfl rfl ?_
    refine cv_iconst (v := 1) hC dX9_infer_49 cb_iconst_1 ?_
    refine cv_putz hC (fp_X9_97_10 G) dX9_infer_50 (fun s5 => ?_)
    exact cv_vret hC dX9_infer_53
  · refine cv_aload_n hC 0 dX9_infer_16 rfl rfl ?_
    refine cv_iload_n hC 1 dX9_infer_17 rfl rfl ?_
    refine cv_callVv (ob := 10) hC [.int l1] [] (M_X9_findReached LL G l1 σ) ln_X9_213 vm_X9_findReached (ob_10 G) rfl rfl (Nat.le_of_ble_eq_true rfl) ⟨Nat.le_of_ble_eq_true rfl, Nat.le_of_ble_eq_true rfl⟩ ⟨Nat.le_of_ble_eq_true rfl, Nat.le_of_ble_eq_true rfl⟩ dX9_infer_18 (fun s6 => ?_)
    refine cv_aload_n hC 0 dX9_infer_21 rfl rfl ?_
    refine cv_iload_n hC 1 dX9_infer_22 rfl rfl ?_
    refine cv_callVv (ob := 10) hC [.int l1] [] (M_X9_findPassed LL G l1 s6) ln_X9_216 vm_X9_findPassed (ob_10 G) rfl rfl (Nat.le_of_ble_eq_true rfl) ⟨Nat.le_of_ble_eq_true rfl, Nat.le_of_ble_eq_true rfl⟩ ⟨Nat.le_of_ble_eq_true rfl, Nat.le_of_ble_eq_true rfl⟩ dX9_infer_23 (fun s7 => ?_)
    refine cv_iinc (lv' := [(1, .int (l1 + Int32.ofInt 1)), (0, .ref (G.1 10))]) hC 1 dX9_infer_26 rfl (by decide) rfl ?_
    refine cv_goto (tgt := 10) hC dX9_infer_29 (by decide) ?_
    exact cv_sub [1, 0] rfl (hk10 (l1 + Int32.ofInt 1) s7)
set_option maxRecDepth 20000 in
set_option maxHeartbeats 2000000 in
theorem J_X9_infer_b10 {X : cv_X} {G : cv_G} {LL : Launch} (hC : cv_C X G LL RX9 cX9_infer 2 none { frames := 5, cells := 0, slots := 0, locals := 118 }) : ∀ (n : Nat) (l1 : Int32) (σ : cv_St), cv_J X G 2 0 0 (cv_QV X G) 10 [(0, .ref (G.1 10)), (1, .int l1)] [] σ (F_X9_infer_b10 n l1 σ) := by
  intro n
  induction n with
  | zero => intro l1 σ; exact cv_none
  | succ n ih => intro l1 σ; exact I_X9_infer_b10 hC _ ih l1 σ
set_option maxRecDepth 20000 in
set_option maxHeartbeats 2000000 in
theorem J_X9_infer {X : cv_X} {G : cv_G} {LL : Launch} (hC : cv_C X G LL RX9 cX9_infer 2 none { frames := 5, cells := 0, slots := 0, locals := 118 }) (σ : cv_St) : cv_J X G 2 0 0 (cv_QV X G) 0 [(0, .ref (G.1 10))] [] σ (F_X9_infer σ) := by
  unfold F_X9_infer
  refine cv_aload_n hC 0 dX9_infer_0 rfl rfl ?_
  refine cv_geti hC (fg_X9_97_10 G) dX9_infer_1 ?_
  refine cv_if_eq (tgt := 8) hC dX9_infer_4 (by decide) ?_ ?_
  · refine cv_iconst (v := 0) hC dX9_infer_8 cb_iconst_0 ?_
    refine cv_istore_n (lv' := [(1, .int 0), (0, .ref (G.1 10))]) hC dX9_infer_9 rfl (by decide) rfl ?_
    exact cv_sub [1, 0] rfl (J_X9_infer_b10 hC 1000 0 σ)
  · exact cv_vret hC dX9_infer_7
set_option maxRecDepth 20000 in
set_option maxHeartbeats 2000000 in
theorem M_X9_infer (LL : Launch) (G : cv_G) (σ : cv_St) : cv_MV LL G yX9_infer cX9_infer 2 5 118 [.ref (G.1 10)] σ (F_X9_infer σ) :=
  cv_mkV (by decide) (Nat.le_of_ble_eq_true rfl) (fun X hC => J_X9_infer hC σ)
/-! X9_isReachable -/
set_option maxRecDepth 20000 in
set_option maxHeartbeats 2000000 in
theorem J_X9_isReachable_b15 {X : cv_X} {G : cv_G} {LL : Launch} (hC : cv_C X G LL RX9 cX9_isReachable 3 (some .boolean) { frames := 6, cells := 0, slots := 0, locals := 139 }) (l1 : Int32) (l2 : Int32) (t0 : Int32) (σ : cv_St) : cv_J X G 3 0 0 (cv_QI X G) 15 [(0, .ref (G.1 10)), (1, .int l1), (2, .int l2)] [.int t0, .ref (G.1 10)] σ (F_X9_isReachable_b15 l1 l2 t0 σ) := by
  unfold F_X9_isReachable_b15
  refine cv_puti hC (fp_X9_84_10 G) dX9_isReachable_15 (fun s3 => ?_)
  refine cv_aload_n hC 0 dX9_isReachable_18 rfl rfl ?_
  refine cv_geti hC (fg_X9_84_10 G) dX9_isReachable_19 ?_
  refine cv_if_le (tgt := 27) hC dX9_isReachable_22 (by decide) ?_ ?_
  · refine cv_aload_n hC 0 dX9_isReachable_27 rfl rfl ?_
    refine cv_callVv (ob := 10) hC [] [] (M_X9_infer LL G s3) ln_X9_231 vm_X9_infer (ob_10 G) rfl rfl (Nat.le_of_ble_eq_true rfl) ⟨Nat.le_of_ble_eq_true rfl, Nat.le_of_ble_eq_true rfl⟩ ⟨Nat.le_of_ble_eq_true rfl, Nat.le_of_ble_eq_true rfl⟩ dX9_isReachable_28 (fun s4 => ?_)
    refine cv_aload_n hC 0 dX9_isReachable_31 rfl rfl ?_
    refine cv_iload_n hC 1 dX9_isReachable_32 rfl rfl ?_
    refine cv_iload_n hC 2 dX9_isReachable_33 rfl rfl ?_
    refine cv_callVi (ob := 10) hC [.int l1, .int l2] [] (M_X9_reached LL G l1 l2 s4) ln_X9_152 vm_X9_reached (ob_10 G) rfl rfl (Nat.le_of_ble_eq_true rfl) ⟨Nat.le_of_ble_eq_true rfl, Nat.le_of_ble_eq_true rfl⟩ ⟨Nat.le_of_ble_eq_true rfl, Nat.le_of_ble_eq_true rfl⟩ dX9_isReachable_34 (fun v6 s5 => ?_)
    exact cv_zret hC dX9_isReachable_37
  · refine cv_iconst (v := 0) hC dX9_isReachable_25 cb_iconst_0 ?_
    exact cv_zret hC dX9_isReachable_26
set_option maxRecDepth 20000 in
set_option maxHeartbeats 2000000 in
theorem J_X9_isReachable {X : cv_X} {G : cv_G} {LL : Launch} (hC : cv_C X G LL RX9 cX9_isReachable 3 (some .boolean) { frames := 6, cells := 0, slots := 0, locals := 139 }) (l1 : Int32) (l2 : Int32) (σ : cv_St) : cv_J X G 3 0 0 (cv_QI X G) 0 [(0, .ref (G.1 10)), (1, .int l1), (2, .int l2)] [] σ (F_X9_isReachable l1 l2 σ) := by
  unfold F_X9_isReachable
  refine cv_aload_n hC 0 dX9_isReachable_0 rfl rfl ?_
  refine cv_aload_n hC 0 dX9_isReachable_1 rfl rfl ?_
  refine cv_iload_n hC 1 dX9_isReachable_2 rfl rfl ?_
  refine cv_iload_n hC 2 dX9_isReachable_3 rfl rfl ?_
  refine cv_callVi (ob := 10) hC [.int l1, .int l2] [.ref (G.1 10)] (M_X9_isInstruction LL G l1 l2 σ) ln_X9_134 vm_X9_isInstruction (ob_10 G) rfl rfl (Nat.le_of_ble_eq_true rfl) ⟨Nat.le_of_ble_eq_true rfl, Nat.le_of_ble_eq_true rfl⟩ ⟨Nat.le_of_ble_eq_true rfl, Nat.le_of_ble_eq_true rfl⟩ dX9_isReachable_4 (fun v2 s1 => ?_)
  refine cv_if_eq (tgt := 14) hC dX9_isReachable_7 (by decide) ?_ ?_
  · refine cv_iconst (v := 1) hC dX9_isReachable_14 cb_iconst_1 ?_
    exact cv_sub [0, 1, 2] rfl (J_X9_isReachable_b15 hC l1 l2 1 s1)
  · refine cv_iconst (v := 0) hC dX9_isReachable_10 cb_iconst_0 ?_
    refine cv_goto (tgt := 15) hC dX9_isReachable_11 (by decide) ?_
    exact cv_sub [0, 1, 2] rfl (J_X9_isReachable_b15 hC l1 l2 0 s1)
set_option maxRecDepth 20000 in
set_option maxHeartbeats 2000000 in
theorem M_X9_isReachable (LL : Launch) (G : cv_G) (l1 : Int32) (l2 : Int32) (σ : cv_St) : cv_MI LL G yX9_isReachable cX9_isReachable 3 (some .boolean) 6 139 [.ref (G.1 10), .int l1, .int l2] σ (F_X9_isReachable l1 l2 σ) :=
  cv_mkI (by decide) (Nat.le_of_ble_eq_true rfl) (fun X hC => J_X9_isReachable hC l1 l2 σ)
/-! X9_isBalanced -/
set_option maxRecDepth 20000 in
set_option maxHeartbeats 2000000 in
theorem J_X9_isBalanced_b13 {X : cv_X} {G : cv_G} {LL : Launch} (hC : cv_C X G LL RX9 cX9_isBalanced 2 (some .boolean) { frames := 6, cells := 0, slots := 0, locals := 139 }) (l1 : Int32) (t0 : Int32) (σ : cv_St) : cv_J X G 2 0 0 (cv_QI X G) 13 [(0, .ref (G.1 10)), (1, .int l1)] [.int t0, .ref (G.1 10)] σ (F_X9_isBalanced_b13 l1 t0 σ) := by
  unfold F_X9_isBalanced_b13
  refine cv_puti hC (fp_X9_84_10 G) dX9_isBalanced_13 (fun s3 => ?_)
  refine cv_aload_n hC 0 dX9_isBalanced_16 rfl rfl ?_
  refine cv_geti hC (fg_X9_84_10 G) dX9_isBalanced_17 ?_
  refine cv_if_le (tgt := 25) hC dX9_isBalanced_20 (by decide) ?_ ?_
  · refine cv_aload_n hC 0 dX9_isBalanced_25 rfl rfl ?_
    refine cv_callVv (ob := 10) hC [] [] (M_X9_infer LL G s3) ln_X9_231 vm_X9_infer (ob_10 G) rfl rfl (Nat.le_of_ble_eq_true rfl) ⟨Nat.le_of_ble_eq_true rfl, Nat.le_of_ble_eq_true rfl⟩ ⟨Nat.le_of_ble_eq_true rfl, Nat.le_of_ble_eq_true rfl⟩ dX9_isBalanced_26 (fun s4 => ?_)
    refine cv_aload_n hC 0 dX9_isBalanced_29 rfl rfl ?_
    refine cv_getr hC (fg_X9_36_10 G) dX9_isBalanced_30 ?_
    refine cv_iload_n hC 1 dX9_isBalanced_33 rfl rfl ?_
    refine cv_zald hC (cv_a50 G) dX9_isBalanced_34 (fun v5 => ?_)
    exact cv_zret hC dX9_isBalanced_35
  · refine cv_iconst (v := 0) hC dX9_isBalanced_23 cb_iconst_0 ?_
    exact cv_zret hC dX9_isBalanced_24
set_option maxRecDepth 20000 in
set_option maxHeartbeats 2000000 in
theorem J_X9_isBalanced {X : cv_X} {G : cv_G} {LL : Launch} (hC : cv_C X G LL RX9 cX9_isBalanced 2 (some .boolean) { frames := 6, cells := 0, slots := 0, locals := 139 }) (l1 : Int32) (σ : cv_St) : cv_J X G 2 0 0 (cv_QI X G) 0 [(0, .ref (G.1 10)), (1, .int l1)] [] σ (F_X9_isBalanced l1 σ) := by
  unfold F_X9_isBalanced
  refine cv_aload_n hC 0 dX9_isBalanced_0 rfl rfl ?_
  refine cv_iload_n hC 1 dX9_isBalanced_1 rfl rfl ?_
  refine cv_callSi hC [.int l1] [.ref (G.1 10)] (M_X9_isFunction LL G l1 σ) ln_X9_93 vm_X9_isFunction rfl rfl (Nat.le_of_ble_eq_true rfl) ⟨Nat.le_of_ble_eq_true rfl, Nat.le_of_ble_eq_true rfl⟩ ⟨Nat.le_of_ble_eq_true rfl, Nat.le_of_ble_eq_true rfl⟩ dX9_isBalanced_2 (fun v2 s1 => ?_)
  refine cv_if_eq (tgt := 12) hC dX9_isBalanced_5 (by decide) ?_ ?_
  · refine cv_iconst (v := 1) hC dX9_isBalanced_12 cb_iconst_1 ?_
    exact cv_sub [0, 1] rfl (J_X9_isBalanced_b13 hC l1 1 s1)
  · refine cv_iconst (v := 0) hC dX9_isBalanced_8 cb_iconst_0 ?_
    refine cv_goto (tgt := 13) hC dX9_isBalanced_9 (by decide) ?_
    exact cv_sub [0, 1] rfl (J_X9_isBalanced_b13 hC l1 0 s1)
set_option maxRecDepth 20000 in
set_option maxHeartbeats 2000000 in
theorem M_X9_isBalanced (LL : Launch) (G : cv_G) (l1 : Int32) (σ : cv_St) : cv_MI LL G yX9_isBalanced cX9_isBalanced 2 (some .boolean) 6 139 [.ref (G.1 10), .int l1] σ (F_X9_isBalanced l1 σ) :=
  cv_mkI (by decide) (Nat.le_of_ble_eq_true rfl) (fun X hC => J_X9_isBalanced hC l1 σ)
/-! X9_ofFunction_10_51 -/
set_option maxRecDepth 20000 in
set_option maxHeartbeats 2000000 in
theorem J_X9_ofFunction_10_51_b13 {X : cv_X} {G : cv_G} {LL : Launch} (hC : cv_C X G LL RX9 cX9_ofFunction 3 (some .int) { frames := 6, cells := 0, slots := 0, locals := 139 }) (l1 : Int32) (t0 : Int32) (σ : cv_St) : cv_J X G 3 0 0 (cv_QI X G) 13 [(0, .ref (G.1 10)), (1, .int l1), (2, .ref (G.1 51))] [.int t0, .ref (G.1 10)] σ (F_X9_ofFunction_10_51_b13 l1 t0 σ) := by
  unfold F_X9_ofFunction_10_51_b13
  refine cv_puti hC (fp_X9_84_10 G) dX9_ofFunction_13 (fun s3 => ?_)
  refine cv_aload_n hC 0 dX9_ofFunction_16 rfl rfl ?_
  refine cv_geti hC (fg_X9_84_10 G) dX9_ofFunction_17 ?_
  refine cv_if_le (tgt := 25) hC dX9_ofFunction_20 (by decide) ?_ ?_
  · refine cv_aload_n hC 0 dX9_ofFunction_25 rfl rfl ?_
    refine cv_callVv (ob := 10) hC [] [] (M_X9_infer LL G s3) ln_X9_231 vm_X9_infer (ob_10 G) rfl rfl (Nat.le_of_ble_eq_true rfl) ⟨Nat.le_of_ble_eq_true rfl, Nat.le_of_ble_eq_true rfl⟩ ⟨Nat.le_of_ble_eq_true rfl, Nat.le_of_ble_eq_true rfl⟩ dX9_ofFunction_26 (fun s4 => ?_)
    refine cv_aload_n hC 2 dX9_ofFunction_29 rfl rfl ?_
    refine cv_iload_n hC 1 dX9_ofFunction_30 rfl rfl ?_
    refine cv_iald hC (cv_a51 G) dX9_ofFunction_31 (fun v5 => ?_)
    exact cv_iret hC dX9_ofFunction_32
  · refine cv_iconst (v := 0) hC dX9_ofFunction_23 cb_iconst_0 ?_
    exact cv_iret hC dX9_ofFunction_24
set_option maxRecDepth 20000 in
set_option maxHeartbeats 2000000 in
theorem J_X9_ofFunction_10_51 {X : cv_X} {G : cv_G} {LL : Launch} (hC : cv_C X G LL RX9 cX9_ofFunction 3 (some .int) { frames := 6, cells := 0, slots := 0, locals := 139 }) (l1 : Int32) (σ : cv_St) : cv_J X G 3 0 0 (cv_QI X G) 0 [(0, .ref (G.1 10)), (1, .int l1), (2, .ref (G.1 51))] [] σ (F_X9_ofFunction_10_51 l1 σ) := by
  unfold F_X9_ofFunction_10_51
  refine cv_aload_n hC 0 dX9_ofFunction_0 rfl rfl ?_
  refine cv_iload_n hC 1 dX9_ofFunction_1 rfl rfl ?_
  refine cv_callSi hC [.int l1] [.ref (G.1 10)] (M_X9_isFunction LL G l1 σ) ln_X9_93 vm_X9_isFunction rfl rfl (Nat.le_of_ble_eq_true rfl) ⟨Nat.le_of_ble_eq_true rfl, Nat.le_of_ble_eq_true rfl⟩ ⟨Nat.le_of_ble_eq_true rfl, Nat.le_of_ble_eq_true rfl⟩ dX9_ofFunction_2 (fun v2 s1 => ?_)
  refine cv_if_eq (tgt := 12) hC dX9_ofFunction_5 (by decide) ?_ ?_
  · refine cv_iconst (v := 1) hC dX9_ofFunction_12 cb_iconst_1 ?_
    exact cv_sub [0, 1, 2] rfl (J_X9_ofFunction_10_51_b13 hC l1 1 s1)
  · refine cv_iconst (v := 0) hC dX9_ofFunction_8 cb_iconst_0 ?_
    refine cv_goto (tgt := 13) hC dX9_ofFunction_9 (by decide) ?_
    exact cv_sub [0, 1, 2] rfl (J_X9_ofFunction_10_51_b13 hC l1 0 s1)
set_option maxRecDepth 20000 in
set_option maxHeartbeats 2000000 in
theorem M_X9_ofFunction_10_51 (LL : Launch) (G : cv_G) (l1 : Int32) (σ : cv_St) : cv_MI LL G yX9_ofFunction cX9_ofFunction 3 (some .int) 6 139 [.ref (G.1 10), .int l1, .ref (G.1 51)] σ (F_X9_ofFunction_10_51 l1 σ) :=
  cv_mkI (by decide) (Nat.le_of_ble_eq_true rfl) (fun X hC => J_X9_ofFunction_10_51 hC l1 σ)
/-! X9_preserved -/
set_option maxRecDepth 20000 in
set_option maxHeartbeats 2000000 in
theorem J_X9_preserved {X : cv_X} {G : cv_G} {LL : Launch} (hC : cv_C X G LL RX9 cX9_preserved 2 (some .int) { frames := 7, cells := 0, slots := 0, locals := 161 }) (l1 : Int32) (σ : cv_St) : cv_J X G 2 0 0 (cv_QI X G) 0 [(0, .ref (G.1 10)), (1, .int l1)] [] σ (F_X9_preserved l1 σ) := by
  unfold F_X9_preserved
  refine cv_aload_n hC 0 dX9_preserved_0 rfl rfl ?_
  refine cv_iload_n hC 1 dX9_preserved_1 rfl rfl ?_
  refine cv_aload_n hC 0 dX9_preserved_2 rfl rfl ?_
  refine cv_getr hC (fg_X9_39_10 G) dX9_preserved_3 ?_
  refine cv_callVi (ob := 10) hC [.int l1, .ref (G.1 51)] [] (M_X9_ofFunction_10_51 LL G l1 σ) ln_X9_234 vm_X9_ofFunction (ob_10 G) rfl rfl (Nat.le_of_ble_eq_true rfl) ⟨Nat.le_of_ble_eq_true rfl, Nat.le_of_ble_eq_true rfl⟩ ⟨Nat.le_of_ble_eq_true rfl, Nat.le_of_ble_eq_true rfl⟩ dX9_preserved_6 (fun v2 s1 => ?_)
  exact cv_iret hC dX9_preserved_9
set_option maxRecDepth 20000 in
set_option maxHeartbeats 2000000 in
theorem M_X9_preserved (LL : Launch) (G : cv_G) (l1 : Int32) (σ : cv_St) : cv_MI LL G yX9_preserved cX9_preserved 2 (some .int) 7 161 [.ref (G.1 10), .int l1] σ (F_X9_preserved l1 σ) :=
  cv_mkI (by decide) (Nat.le_of_ble_eq_true rfl) (fun X hC => J_X9_preserved hC l1 σ)
/-! X9_ofFunction_10_55 -/
set_option maxRecDepth 20000 in
set_option maxHeartbeats 2000000 in
theorem J_X9_ofFunction_10_55_b13 {X : cv_X} {G : cv_G} {LL : Launch} (hC : cv_C X G LL RX9 cX9_ofFunction 3 (some .int) { frames := 6, cells := 0, slots := 0, locals := 139 }) (l1 : Int32) (t0 : Int32) (σ : cv_St) : cv_J X G 3 0 0 (cv_QI X G) 13 [(0, .ref (G.1 10)), (1, .int l1), (2, .ref (G.1 55))] [.int t0, .ref (G.1 10)] σ (F_X9_ofFunction_10_55_b13 l1 t0 σ) := by
  unfold F_X9_ofFunction_10_55_b13
  refine cv_puti hC (fp_X9_84_10 G) dX9_ofFunction_13 (fun s3 => ?_)
  refine cv_aload_n hC 0 dX9_ofFunction_16 rfl rfl ?_
  refine cv_geti hC (fg_X9_84_10 G) dX9_ofFunction_17 ?_
  refine cv_if_le (tgt := 25) hC dX9_ofFunction_20 (by decide) ?_ ?_
  · refine cv_aload_n hC 0 dX9_ofFunction_25 rfl rfl ?_
    refine cv_callVv (ob := 10) hC [] [] (M_X9_infer LL G s3) ln_X9_231 vm_X9_infer (ob_10 G) rfl rfl (Nat.le_of_ble_eq_true rfl) ⟨Nat.le_of_ble_eq_true rfl, Nat.le_of_ble_eq_true rfl⟩ ⟨Nat.le_of_ble_eq_true rfl, Nat.le_of_ble_eq_true rfl⟩ dX9_ofFunction_26 (fun s4 => ?_)
    refine cv_aload_n hC 2 dX9_ofFunction_29 rfl rfl ?_
    refine cv_iload_n hC 1 dX9_ofFunction_30 rfl rfl ?_
    refine cv_iald hC (cv_a55 G) dX9_ofFunction_31 (fun v5 => ?_)
    exact cv_iret hC dX9_ofFunction_32
  · refine cv_iconst (v := 0) hC dX9_ofFunction_23 cb_iconst_0 ?_
    exact cv_iret hC dX9_ofFunction_24
set_option maxRecDepth 20000 in
set_option maxHeartbeats 2000000 in
theorem J_X9_ofFunction_10_55 {X : cv_X} {G : cv_G} {LL : Launch} (hC : cv_C X G LL RX9 cX9_ofFunction 3 (some .int) { frames := 6, cells := 0, slots := 0, locals := 139 }) (l1 : Int32) (σ : cv_St) : cv_J X G 3 0 0 (cv_QI X G) 0 [(0, .ref (G.1 10)), (1, .int l1), (2, .ref (G.1 55))] [] σ (F_X9_ofFunction_10_55 l1 σ) := by
  unfold F_X9_ofFunction_10_55
  refine cv_aload_n hC 0 dX9_ofFunction_0 rfl rfl ?_
  refine cv_iload_n hC 1 dX9_ofFunction_1 rfl rfl ?_
  refine cv_callSi hC [.int l1] [.ref (G.1 10)] (M_X9_isFunction LL G l1 σ) ln_X9_93 vm_X9_isFunction rfl rfl (Nat.le_of_ble_eq_true rfl) ⟨Nat.le_of_ble_eq_true rfl, Nat.le_of_ble_eq_true rfl⟩ ⟨Nat.le_of_ble_eq_true rfl, Nat.le_of_ble_eq_true rfl⟩ dX9_ofFunction_2 (fun v2 s1 => ?_)
  refine cv_if_eq (tgt := 12) hC dX9_ofFunction_5 (by decide) ?_ ?_
  · refine cv_iconst (v := 1) hC dX9_ofFunction_12 cb_iconst_1 ?_
    exact cv_sub [0, 1, 2] rfl (J_X9_ofFunction_10_55_b13 hC l1 1 s1)
  · refine cv_iconst (v := 0) hC dX9_ofFunction_8 cb_iconst_0 ?_
    refine cv_goto (tgt := 13) hC dX9_ofFunction_9 (by decide) ?_
    exact cv_sub [0, 1, 2] rfl (J_X9_ofFunction_10_55_b13 hC l1 0 s1)
set_option maxRecDepth 20000 in
set_option maxHeartbeats 2000000 in
theorem M_X9_ofFunction_10_55 (LL : Launch) (G : cv_G) (l1 : Int32) (σ : cv_St) : cv_MI LL G yX9_ofFunction cX9_ofFunction 3 (some .int) 6 139 [.ref (G.1 10), .int l1, .ref (G.1 55)] σ (F_X9_ofFunction_10_55 l1 σ) :=
  cv_mkI (by decide) (Nat.le_of_ble_eq_true rfl) (fun X hC => J_X9_ofFunction_10_55 hC l1 σ)
/-! X9_surelyDefined -/
set_option maxRecDepth 20000 in
set_option maxHeartbeats 2000000 in
theorem J_X9_surelyDefined {X : cv_X} {G : cv_G} {LL : Launch} (hC : cv_C X G LL RX9 cX9_surelyDefined 2 (some .int) { frames := 7, cells := 0, slots := 0, locals := 161 }) (l1 : Int32) (σ : cv_St) : cv_J X G 2 0 0 (cv_QI X G) 0 [(0, .ref (G.1 10)), (1, .int l1)] [] σ (F_X9_surelyDefined l1 σ) := by
  unfold F_X9_surelyDefined
  refine cv_aload_n hC 0 dX9_surelyDefined_0 rfl rfl ?_
  refine cv_iload_n hC 1 dX9_surelyDefined_1 rfl rfl ?_
  refine cv_aload_n hC 0 dX9_surelyDefined_2 rfl rfl ?_
  refine cv_getr hC (fg_X9_51_10 G) dX9_surelyDefined_3 ?_
  refine cv_callVi (ob := 10) hC [.int l1, .ref (G.1 55)] [] (M_X9_ofFunction_10_55 LL G l1 σ) ln_X9_234 vm_X9_ofFunction (ob_10 G) rfl rfl (Nat.le_of_ble_eq_true rfl) ⟨Nat.le_of_ble_eq_true rfl, Nat.le_of_ble_eq_true rfl⟩ ⟨Nat.le_of_ble_eq_true rfl, Nat.le_of_ble_eq_true rfl⟩ dX9_surelyDefined_6 (fun v2 s1 => ?_)
  exact cv_iret hC dX9_surelyDefined_9
set_option maxRecDepth 20000 in
set_option maxHeartbeats 2000000 in
theorem M_X9_surelyDefined (LL : Launch) (G : cv_G) (l1 : Int32) (σ : cv_St) : cv_MI LL G yX9_surelyDefined cX9_surelyDefined 2 (some .int) 7 161 [.ref (G.1 10), .int l1] σ (F_X9_surelyDefined l1 σ) :=
  cv_mkI (by decide) (Nat.le_of_ble_eq_true rfl) (fun X hC => J_X9_surelyDefined hC l1 σ)
/-! X9_ofFunction_10_58 -/
set_option maxRecDepth 20000 in
set_option maxHeartbeats 2000000 in
theorem J_X9_ofFunction_10_58_b13 {X : cv_X} {G : cv_G} {LL : Launch} (hC : cv_C X G LL RX9 cX9_ofFunction 3 (some .int) { frames := 6, cells := 0, slots := 0, locals := 139 }) (l1 : Int32) (t0 : Int32) (σ : cv_St) : cv_J X G 3 0 0 (cv_QI X G) 13 [(0, .ref (G.1 10)), (1, .int l1), (2, .ref (G.1 58))] [.int t0, .ref (G.1 10)] σ (F_X9_ofFunction_10_58_b13 l1 t0 σ) := by
  unfold F_X9_ofFunction_10_58_b13
  refine cv_puti hC (fp_X9_84_10 G) dX9_ofFunction_13 (fun s3 => ?_)
  refine cv_aload_n hC 0 dX9_ofFunction_16 rfl rfl ?_
  refine cv_geti hC (fg_X9_84_10 G) dX9_ofFunction_17 ?_
  refine cv_if_le (tgt := 25) hC dX9_ofFunction_20 (by decide) ?_ ?_
  · refine cv_aload_n hC 0 dX9_ofFunction_25 rfl rfl ?_
    refine cv_callVv (ob := 10) hC [] [] (M_X9_infer LL G s3) ln_X9_231 vm_X9_infer (ob_10 G) rfl rfl (Nat.le_of_ble_eq_true rfl) ⟨Nat.le_of_ble_eq_true rfl, Nat.le_of_ble_eq_true rfl⟩ ⟨Nat.le_of_ble_eq_true rfl, Nat.le_of_ble_eq_true rfl⟩ dX9_ofFunction_26 (fun s4 => ?_)
    refine cv_aload_n hC 2 dX9_ofFunction_29 rfl rfl ?_
    refine cv_iload_n hC 1 dX9_ofFunction_30 rfl rfl ?_
    refine cv_iald hC (cv_a58 G) dX9_ofFunction_31 (fun v5 => ?_)
    exact cv_iret hC dX9_ofFunction_32
  · refine cv_iconst (v := 0) hC dX9_ofFunction_23 cb_iconst_0 ?_
    exact cv_iret hC dX9_ofFunction_24
set_option maxRecDepth 20000 in
set_option maxHeartbeats 2000000 in
theorem J_X9_ofFunction_10_58 {X : cv_X} {G : cv_G} {LL : Launch} (hC : cv_C X G LL RX9 cX9_ofFunction 3 (some .int) { frames := 6, cells := 0, slots := 0, locals := 139 }) (l1 : Int32) (σ : cv_St) : cv_J X G 3 0 0 (cv_QI X G) 0 [(0, .ref (G.1 10)), (1, .int l1), (2, .ref (G.1 58))] [] σ (F_X9_ofFunction_10_58 l1 σ) := by
  unfold F_X9_ofFunction_10_58
  refine cv_aload_n hC 0 dX9_ofFunction_0 rfl rfl ?_
  refine cv_iload_n hC 1 dX9_ofFunction_1 rfl rfl ?_
  refine cv_callSi hC [.int l1] [.ref (G.1 10)] (M_X9_isFunction LL G l1 σ) ln_X9_93 vm_X9_isFunction rfl rfl (Nat.le_of_ble_eq_true rfl) ⟨Nat.le_of_ble_eq_true rfl, Nat.le_of_ble_eq_true rfl⟩ ⟨Nat.le_of_ble_eq_true rfl, Nat.le_of_ble_eq_true rfl⟩ dX9_ofFunction_2 (fun v2 s1 => ?_)
  refine cv_if_eq (tgt := 12) hC dX9_ofFunction_5 (by decide) ?_ ?_
  · refine cv_iconst (v := 1) hC dX9_ofFunction_12 cb_iconst_1 ?_
    exact cv_sub [0, 1, 2] rfl (J_X9_ofFunction_10_58_b13 hC l1 1 s1)
  · refine cv_iconst (v := 0) hC dX9_ofFunction_8 cb_iconst_0 ?_
    refine cv_goto (tgt := 13) hC dX9_ofFunction_9 (by decide) ?_
    exact cv_sub [0, 1, 2] rfl (J_X9_ofFunction_10_58_b13 hC l1 0 s1)
set_option maxRecDepth 20000 in
set_option maxHeartbeats 2000000 in
theorem M_X9_ofFunction_10_58 (LL : Launch) (G : cv_G) (l1 : Int32) (σ : cv_St) : cv_MI LL G yX9_ofFunction cX9_ofFunction 3 (some .int) 6 139 [.ref (G.1 10), .int l1, .ref (G.1 58)] σ (F_X9_ofFunction_10_58 l1 σ) :=
  cv_mkI (by decide) (Nat.le_of_ble_eq_true rfl) (fun X hC => J_X9_ofFunction_10_58 hC l1 σ)
/-! X9_arguments -/
set_option maxRecDepth 20000 in
set_option maxHeartbeats 2000000 in
theorem J_X9_arguments {X : cv_X} {G : cv_G} {LL : Launch} (hC : cv_C X G LL RX9 cX9_arguments 2 (some .int) { frames := 7, cells := 0, slots := 0, locals := 161 }) (l1 : Int32) (σ : cv_St) : cv_J X G 2 0 0 (cv_QI X G) 0 [(0, .ref (G.1 10)), (1, .int l1)] [] σ (F_X9_arguments l1 σ) := by
  unfold F_X9_arguments
  refine cv_aload_n hC 0 dX9_arguments_0 rfl rfl ?_
  refine cv_iload_n hC 1 dX9_arguments_1 rfl rfl ?_
  refine cv_aload_n hC 0 dX9_arguments_2 rfl rfl ?_
  refine cv_getr hC (fg_X9_60_10 G) dX9_arguments_3 ?_
  refine cv_callVi (ob := 10) hC [.int l1, .ref (G.1 58)] [] (M_X9_ofFunction_10_58 LL G l1 σ) ln_X9_234 vm_X9_ofFunction (ob_10 G) rfl rfl (Nat.le_of_ble_eq_true rfl) ⟨Nat.le_of_ble_eq_true rfl, Nat.le_of_ble_eq_true rfl⟩ ⟨Nat.le_of_ble_eq_true rfl, Nat.le_of_ble_eq_true rfl⟩ dX9_arguments_6 (fun v2 s1 => ?_)
  exact cv_iret hC dX9_arguments_9
set_option maxRecDepth 20000 in
set_option maxHeartbeats 2000000 in
theorem M_X9_arguments (LL : Launch) (G : cv_G) (l1 : Int32) (σ : cv_St) : cv_MI LL G yX9_arguments cX9_arguments 2 (some .int) 7 161 [.ref (G.1 10), .int l1] σ (F_X9_arguments l1 σ) :=
  cv_mkI (by decide) (Nat.le_of_ble_eq_true rfl) (fun X hC => J_X9_arguments hC l1 σ)
/-! X9_ofFunction_10_59 -/
set_option maxRecDepth 20000 in
set_option maxHeartbeats 2000000 in
theorem J_X9_ofFunction_10_59_b13 {X : cv_X} {G : cv_G} {LL : Launch} (hC : cv_C X G LL RX9 cX9_ofFunction 3 (some .int) { frames := 6, cells := 0, slots := 0, locals := 139 }) (l1 : Int32) (t0 : Int32) (σ : cv_St) : cv_J X G 3 0 0 (cv_QI X G) 13 [(0, .ref (G.1 10)), (1, .int l1), (2, .ref (G.1 59))] [.int t0, .ref (G.1 10)] σ (F_X9_ofFunction_10_59_b13 l1 t0 σ) := by
  unfold F_X9_ofFunction_10_59_b13
  refine cv_puti hC (fp_X9_84_10 G) dX9_ofFunction_13 (fun s3 => ?_)
  refine cv_aload_n hC 0 dX9_ofFunction_16 rfl rfl ?_
  refine cv_geti hC (fg_X9_84_10 G) dX9_ofFunction_17 ?_
  refine cv_if_le (tgt := 25) hC dX9_ofFunction_20 (by decide) ?_ ?_
  · refine cv_aload_n hC 0 dX9_ofFunction_25 rfl rfl ?_
    refine cv_callVv (ob := 10) hC [] [] (M_X9_infer LL G s3) ln_X9_231 vm_X9_infer (ob_10 G) rfl rfl (Nat.le_of_ble_eq_true rfl) ⟨Nat.le_of_ble_eq_true rfl, Nat.le_of_ble_eq_true rfl⟩ ⟨Nat.le_of_ble_eq_true rfl, Nat.le_of_ble_eq_true rfl⟩ dX9_ofFunction_26 (fun s4 => ?_)
    refine cv_aload_n hC 2 dX9_ofFunction_29 rfl rfl ?_
    refine cv_iload_n hC 1 dX9_ofFunction_30 rfl rfl ?_
    refine cv_iald hC (cv_a59 G) dX9_ofFunction_31 (fun v5 => ?_)
    exact cv_iret hC dX9_ofFunction_32
  · refine cv_iconst (v := 0) hC dX9_ofFunction_23 cb_iconst_0 ?_
    exact cv_iret hC dX9_ofFunction_24
set_option maxRecDepth 20000 in
set_option maxHeartbeats 2000000 in
theorem J_X9_ofFunction_10_59 {X : cv_X} {G : cv_G} {LL : Launch} (hC : cv_C X G LL RX9 cX9_ofFunction 3 (some .int) { frames := 6, cells := 0, slots := 0, locals := 139 }) (l1 : Int32) (σ : cv_St) : cv_J X G 3 0 0 (cv_QI X G) 0 [(0, .ref (G.1 10)), (1, .int l1), (2, .ref (G.1 59))] [] σ (F_X9_ofFunction_10_59 l1 σ) := by
  unfold F_X9_ofFunction_10_59
  refine cv_aload_n hC 0 dX9_ofFunction_0 rfl rfl ?_
  refine cv_iload_n hC 1 dX9_ofFunction_1 rfl rfl ?_
  refine cv_callSi hC [.int l1] [.ref (G.1 10)] (M_X9_isFunction LL G l1 σ) ln_X9_93 vm_X9_isFunction rfl rfl (Nat.le_of_ble_eq_true rfl) ⟨Nat.le_of_ble_eq_true rfl, Nat.le_of_ble_eq_true rfl⟩ ⟨Nat.le_of_ble_eq_true rfl, Nat.le_of_ble_eq_true rfl⟩ dX9_ofFunction_2 (fun v2 s1 => ?_)
  refine cv_if_eq (tgt := 12) hC dX9_ofFunction_5 (by decide) ?_ ?_
  · refine cv_iconst (v := 1) hC dX9_ofFunction_12 cb_iconst_1 ?_
    exact cv_sub [0, 1, 2] rfl (J_X9_ofFunction_10_59_b13 hC l1 1 s1)
  · refine cv_iconst (v := 0) hC dX9_ofFunction_8 cb_iconst_0 ?_
    refine cv_goto (tgt := 13) hC dX9_ofFunction_9 (by decide) ?_
    exact cv_sub [0, 1, 2] rfl (J_X9_ofFunction_10_59_b13 hC l1 0 s1)
set_option maxRecDepth 20000 in
set_option maxHeartbeats 2000000 in
theorem M_X9_ofFunction_10_59 (LL : Launch) (G : cv_G) (l1 : Int32) (σ : cv_St) : cv_MI LL G yX9_ofFunction cX9_ofFunction 3 (some .int) 6 139 [.ref (G.1 10), .int l1, .ref (G.1 59)] σ (F_X9_ofFunction_10_59 l1 σ) :=
  cv_mkI (by decide) (Nat.le_of_ble_eq_true rfl) (fun X hC => J_X9_ofFunction_10_59 hC l1 σ)
/-! X9_results -/
set_option maxRecDepth 20000 in
set_option maxHeartbeats 2000000 in
theorem J_X9_results {X : cv_X} {G : cv_G} {LL : Launch} (hC : cv_C X G LL RX9 cX9_results 2 (some .int) { frames := 7, cells := 0, slots := 0, locals := 161 }) (l1 : Int32) (σ : cv_St) : cv_J X G 2 0 0 (cv_QI X G) 0 [(0, .ref (G.1 10)), (1, .int l1)] [] σ (F_X9_results l1 σ) := by
  unfold F_X9_results
  refine cv_aload_n hC 0 dX9_results_0 rfl rfl ?_
  refine cv_iload_n hC 1 dX9_results_1 rfl rfl ?_
  refine cv_aload_n hC 0 dX9_results_2 rfl rfl ?_
  refine cv_getr hC (fg_X9_63_10 G) dX9_results_3 ?_
  refine cv_callVi (ob := 10) hC [.int l1, .ref (G.1 59)] [] (M_X9_ofFunction_10_59 LL G l1 σ) ln_X9_234 vm_X9_ofFunction (ob_10 G) rfl rfl (Nat.le_of_ble_eq_true rfl) ⟨Nat.le_of_ble_eq_true rfl, Nat.le_of_ble_eq_true rfl⟩ ⟨Nat.le_of_ble_eq_true rfl, Nat.le_of_ble_eq_true rfl⟩ dX9_results_6 (fun v2 s1 => ?_)
  exact cv_iret hC dX9_results_9
set_option maxRecDepth 20000 in
set_option maxHeartbeats 2000000 in
theorem M_X9_results (LL : Launch) (G : cv_G) (l1 : Int32) (σ : cv_St) : cv_MI LL G yX9_results cX9_results 2 (some .int) 7 161 [.ref (G.1 10), .int l1] σ (F_X9_results l1 σ) :=
  cv_mkI (by decide) (Nat.le_of_ble_eq_true rfl) (fun X hC => J_X9_results hC l1 σ)
/-! X9_liveBefore -/
set_option maxRecDepth 20000 in
set_option maxHeartbeats 2000000 in
theorem J_X9_liveBefore_b46 {X : cv_X} {G : cv_G} {LL : Launch} (hC : cv_C X G LL RX9 cX9_liveBefore 3 (some .int) { frames := 6, cells := 0, slots := 0, locals := 139 }) (l1 : Int32) (l2 : Int32) (t0 : Int32) (σ : cv_St) : cv_J X G 3 0 0 (cv_QI X G) 46 [(0, .ref (G.1 10)), (1, .int l1), (2, .int l2)] [.int t0, .ref (G.1 10)] σ (F_X9_liveBefore_b46 l1 l2 t0 σ) := by
  unfold F_X9_liveBefore_b46
  refine cv_puti hC (fp_X9_84_10 G) dX9_liveBefore_46 (fun s7 => ?_)
  refine cv_aload_n hC 0 dX9_liveBefore_49 rfl rfl ?_
  refine cv_geti hC (fg_X9_84_10 G) dX9_liveBefore_50 ?_
  refine cv_if_le (tgt := 60) hC dX9_liveBefore_53 (by decide) ?_ ?_
  · refine cv_aload_n hC 0 dX9_liveBefore_60 rfl rfl ?_
    refine cv_getr hC (fg_X9_66_10 G) dX9_liveBefore_61 ?_
    refine cv_bipush (v := 15) hC dX9_liveBefore_64 cb_bipush_15 ?_
    refine cv_iload_n hC 1 dX9_liveBefore_66 rfl rfl ?_
    refine cv_imul hC dX9_liveBefore_67 ?_
    refine cv_iload_n hC 2 dX9_liveBefore_68 rfl rfl ?_
    refine cv_iadd hC dX9_liveBefore_69 ?_
    refine cv_iald hC (cv_a60 G) dX9_liveBefore_70 (fun v8 => ?_)
    exact cv_iret hC dX9_liveBefore_71
  · refine cv_iconst (v := 0) hC dX9_liveBefore_56 cb_iconst_0 ?_
    refine cv_goto (tgt := 71) hC dX9_liveBefore_57 (by decide) ?_
    exact cv_iret hC dX9_liveBefore_71
set_option maxRecDepth 20000 in
set_option maxHeartbeats 2000000 in
theorem J_X9_liveBefore_b15 {X : cv_X} {G : cv_G} {LL : Launch} (hC : cv_C X G LL RX9 cX9_liveBefore 3 (some .int) { frames := 6, cells := 0, slots := 0, locals := 139 }) (l1 : Int32) (l2 : Int32) (t0 : Int32) (σ : cv_St) : cv_J X G 3 0 0 (cv_QI X G) 15 [(0, .ref (G.1 10)), (1, .int l1), (2, .int l2)] [.int t0, .ref (G.1 10)] σ (F_X9_liveBefore_b15 l1 l2 t0 σ) := by
  unfold F_X9_liveBefore_b15
  refine cv_puti hC (fp_X9_84_10 G) dX9_liveBefore_15 (fun s3 => ?_)
  refine cv_aload_n hC 0 dX9_liveBefore_18 rfl rfl ?_
  refine cv_geti hC (fg_X9_84_10 G) dX9_liveBefore_19 ?_
  refine cv_if_le (tgt := 27) hC dX9_liveBefore_22 (by decide) ?_ ?_
  · refine cv_aload_n hC 0 dX9_liveBefore_27 rfl rfl ?_
    refine cv_callVv (ob := 10) hC [] [] (M_X9_infer LL G s3) ln_X9_231 vm_X9_infer (ob_10 G) rfl rfl (Nat.le_of_ble_eq_true rfl) ⟨Nat.le_of_ble_eq_true rfl, Nat.le_of_ble_eq_true rfl⟩ ⟨Nat.le_of_ble_eq_true rfl, Nat.le_of_ble_eq_true rfl⟩ dX9_liveBefore_28 (fun s4 => ?_)
    refine cv_aload_n hC 0 dX9_liveBefore_31 rfl rfl ?_
    refine cv_aload_n hC 0 dX9_liveBefore_32 rfl rfl ?_
    refine cv_iload_n hC 1 dX9_liveBefore_33 rfl rfl ?_
    refine cv_iload_n hC 2 dX9_liveBefore_34 rfl rfl ?_
    refine cv_callVi (ob := 10) hC [.int l1, .int l2] [.ref (G.1 10)] (M_X9_reached LL G l1 l2 s4) ln_X9_152 vm_X9_reached (ob_10 G) rfl rfl (Nat.le_of_ble_eq_true rfl) ⟨Nat.le_of_ble_eq_true rfl, Nat.le_of_ble_eq_true rfl⟩ ⟨Nat.le_of_ble_eq_true rfl, Nat.le_of_ble_eq_true rfl⟩ dX9_liveBefore_35 (fun v6 s5 => ?_)
    refine cv_if_eq (tgt := 45) hC dX9_liveBefore_38 (by decide) ?_ ?_
    · refine cv_iconst (v := 2) hC dX9_liveBefore_45 cb_iconst_2 ?_
      exact cv_sub [0, 1, 2] rfl (J_X9_liveBefore_b46 hC l1 l2 2 s5)
    · refine cv_iconst (v := 0) hC dX9_liveBefore_41 cb_iconst_0 ?_
      refine cv_goto (tgt := 46) hC dX9_liveBefore_42 (by decide) ?_
      exact cv_sub [0, 1, 2] rfl (J_X9_liveBefore_b46 hC l1 l2 0 s5)
  · refine cv_iconst (v := 0) hC dX9_liveBefore_25 cb_iconst_0 ?_
    exact cv_iret hC dX9_liveBefore_26
set_option maxRecDepth 20000 in
set_option maxHeartbeats 2000000 in
theorem J_X9_liveBefore {X : cv_X} {G : cv_G} {LL : Launch} (hC : cv_C X G LL RX9 cX9_liveBefore 3 (some .int) { frames := 6, cells := 0, slots := 0, locals := 139 }) (l1 : Int32) (l2 : Int32) (σ : cv_St) : cv_J X G 3 0 0 (cv_QI X G) 0 [(0, .ref (G.1 10)), (1, .int l1), (2, .int l2)] [] σ (F_X9_liveBefore l1 l2 σ) := by
  unfold F_X9_liveBefore
  refine cv_aload_n hC 0 dX9_liveBefore_0 rfl rfl ?_
  refine cv_aload_n hC 0 dX9_liveBefore_1 rfl rfl ?_
  refine cv_iload_n hC 1 dX9_liveBefore_2 rfl rfl ?_
  refine cv_iload_n hC 2 dX9_liveBefore_3 rfl rfl ?_
  refine cv_callVi (ob := 10) hC [.int l1, .int l2] [.ref (G.1 10)] (M_X9_isInstruction LL G l1 l2 σ) ln_X9_134 vm_X9_isInstruction (ob_10 G) rfl rfl (Nat.le_of_ble_eq_true rfl) ⟨Nat.le_of_ble_eq_true rfl, Nat.le_of_ble_eq_true rfl⟩ ⟨Nat.le_of_ble_eq_true rfl, Nat.le_of_ble_eq_true rfl⟩ dX9_liveBefore_4 (fun v2 s1 => ?_)
  refine cv_if_eq (tgt := 14) hC dX9_liveBefore_7 (by decide) ?_ ?_
  · refine cv_iconst (v := 1) hC dX9_liveBefore_14 cb_iconst_1 ?_
    exact cv_sub [0, 1, 2] rfl (J_X9_liveBefore_b15 hC l1 l2 1 s1)
  · refine cv_iconst (v := 0) hC dX9_liveBefore_10 cb_iconst_0 ?_
    refine cv_goto (tgt := 15) hC dX9_liveBefore_11 (by decide) ?_
    exact cv_sub [0, 1, 2] rfl (J_X9_liveBefore_b15 hC l1 l2 0 s1)
set_option maxRecDepth 20000 in
set_option maxHeartbeats 2000000 in
theorem M_X9_liveBefore (LL : Launch) (G : cv_G) (l1 : Int32) (l2 : Int32) (σ : cv_St) : cv_MI LL G yX9_liveBefore cX9_liveBefore 3 (some .int) 6 139 [.ref (G.1 10), .int l1, .int l2] σ (F_X9_liveBefore l1 l2 σ) :=
  cv_mkI (by decide) (Nat.le_of_ble_eq_true rfl) (fun X hC => J_X9_liveBefore hC l1 l2 σ)
/-! X9_neededBy -/
set_option maxRecDepth 20000 in
set_option maxHeartbeats 2000000 in
theorem J_X9_neededBy_b50 {X : cv_X} {G : cv_G} {LL : Launch} (hC : cv_C X G LL RX9 cX9_neededBy 4 (some .int) { frames := 1, cells := 0, slots := 0, locals := 22 }) (k4 : Int32 → Int32 → Int32 → cv_St → Option (Int32 × cv_St)) (hk4 : ∀ (l1 : Int32) (l2 : Int32) (l3 : Int32)  σ, cv_J X G 4 0 0 (cv_QI X G) 4 [(0, .ref (G.1 10)), (1, .int l1), (2, .int l2), (3, .int l3)] [] σ (k4 l1 l2 l3 σ)) (l1 : Int32) (l3 : Int32) (t0 : Int32) (σ : cv_St) : cv_J X G 4 0 0 (cv_QI X G) 50 [(0, .ref (G.1 10)), (1, .int l1), (3, .int l3)] [.int t0] σ (F_X9_neededBy_b50 k4 l1 l3 t0 σ) := by
  unfold F_X9_neededBy_b50
  refine cv_istore_n (lv' := [(2, .int t0), (0, .ref (G.1 10)), (1, .int l1), (3, .int l3)]) hC dX9_neededBy_50 rfl (by decide) rfl ?_
  refine cv_iinc (lv' := [(3, .int (l3 + Int32.ofInt 1)), (2, .int t0), (0, .ref (G.1 10)), (1, .int l1)]) hC 3 dX9_neededBy_51 rfl (by decide) rfl ?_
  refine cv_goto (tgt := 4) hC dX9_neededBy_54 (by decide) ?_
  exact cv_sub [2, 3, 1, 0] rfl (hk4 l1 t0 (l3 + Int32.ofInt 1) σ)
set_option maxRecDepth 20000 in
set_option maxHeartbeats 2000000 in
theorem J_X9_neededBy_b49 {X : cv_X} {G : cv_G} {LL : Launch} (hC : cv_C X G LL RX9 cX9_neededBy 4 (some .int) { frames := 1, cells := 0, slots := 0, locals := 22 }) (k4 : Int32 → Int32 → Int32 → cv_St → Option (Int32 × cv_St)) (hk4 : ∀ (l1 : Int32) (l2 : Int32) (l3 : Int32)  σ, cv_J X G 4 0 0 (cv_QI X G) 4 [(0, .ref (G.1 10)), (1, .int l1), (2, .int l2), (3, .int l3)] [] σ (k4 l1 l2 l3 σ)) (l1 : Int32) (l2 : Int32) (l3 : Int32) (σ : cv_St) : cv_J X G 4 0 0 (cv_QI X G) 49 [(0, .ref (G.1 10)), (1, .int l1), (2, .int l2), (3, .int l3)] [] σ (F_X9_neededBy_b49 k4 l1 l2 l3 σ) := by
  unfold F_X9_neededBy_b49
  refine cv_iload_n hC 2 dX9_neededBy_49 rfl rfl ?_
  exact cv_sub [0, 1, 3] rfl (J_X9_neededBy_b50 hC k4 hk4 l1 l3 l2 σ)
set_option maxRecDepth 20000 in
set_option maxHeartbeats 2000000 in
theorem I_X9_neededBy_b4 {X : cv_X} {G : cv_G} {LL : Launch} (hC : cv_C X G LL RX9 cX9_neededBy 4 (some .int) { frames := 1, cells := 0, slots := 0, locals := 22 }) (k4 : Int32 → Int32 → Int32 → cv_St → Option (Int32 × cv_St)) (hk4 : ∀ (l1 : Int32) (l2 : Int32) (l3 : Int32)  σ, cv_J X G 4 0 0 (cv_QI X G) 4 [(0, .ref (G.1 10)), (1, .int l1), (2, .int l2), (3, .int l3)] [] σ (k4 l1 l2 l3 σ)) (l1 : Int32) (l2 : Int32) (l3 : Int32) (σ : cv_St) : cv_J X G 4 0 0 (cv_QI X G) 4 [(0, .ref (G.1 10)), (1, .int l1), (2, .int l2), (3, .int l3)] [] σ (B_X9_neededBy_b4 k4 l1 l2 l3 σ) := by
  unfold B_X9_neededBy_b4
  refine cv_iload_n hC 3 dX9_neededBy_4 rfl rfl ?_
  refine cv_aload_n hC 0 dX9_neededBy_5 rfl rfl ?_
  refine cv_getr hC (fg_X9_9_10 G) dX9_neededBy_6 ?_
  refine cv_iload_n hC 1 dX9_neededBy_9 rfl rfl ?_
  refine cv_iald hC (cv_a43 G) dX9_neededBy_10 (fun v1 => ?_)
  refine cv_icmp_ge (tgt := 57) hC dX9_neededBy_11 (by decide) ?_ ?_
  · refine cv_iload_n hC 2 dX9_neededBy_57 rfl rfl ?_
    exact cv_iret hC dX9_neededBy_58
  · refine cv_aload_n hC 0 dX9_neededBy_14 rfl rfl ?_
    refine cv_iload_n hC 1 dX9_neededBy_15 rfl rfl ?_
    refine cv_iload_n hC 3 dX9_neededBy_16 rfl rfl ?_
    refine cv_callVi (ob := 10) hC [.int l1, .int l3] [] (M_X9_reached LL G l1 l3 σ) ln_X9_152 vm_X9_reached (ob_10 G) rfl rfl (Nat.le_of_ble_eq_true rfl) ⟨Nat.le_of_ble_eq_true rfl, Nat.le_of_ble_eq_true rfl⟩ ⟨Nat.le_of_ble_eq_true rfl, Nat.le_of_ble_eq_true rfl⟩ dX9_neededBy_17 (fun v3 s2 => ?_)
    refine cv_if_eq (tgt := 49) hC dX9_neededBy_20 (by decide) ?_ ?_
    · exact cv_sub [0, 1, 2, 3] rfl (J_X9_neededBy_b49 hC k4 hk4 l1 l2 l3 s2)
    · refine cv_aload_n hC 0 dX9_neededBy_23 rfl rfl ?_
      refine cv_iload_n hC 1 dX9_neededBy_24 rfl rfl ?_
      refine cv_iload_n hC 3 dX9_neededBy_25 rfl rfl ?_
      refine cv_callVi (ob := 10) hC [.int l1, .int l3] [] (M_X9_kind LL G l1 l3 s2) ln_X9_138 vm_X9_kind (ob_10 G) rfl rfl (Nat.le_of_ble_eq_true rfl) ⟨Nat.le_of_ble_eq_true rfl, Nat.le_of_ble_eq_true rfl⟩ ⟨Nat.le_of_ble_eq_true rfl, Nat.le_of_ble_eq_true rfl⟩ dX9_neededBy_26 (fun v5 s4 => ?_)
      refine cv_bipush (v := 108) hC dX9_neededBy_29 cb_bipush_108 ?_
      refine cv_icmp_ne (tgt := 49) hC dX9_neededBy_31 (by decide) ?_ ?_
      · exact cv_sub [0, 1, 2, 3] rfl (J_X9_neededBy_b49 hC k4 hk4 l1 l2 l3 s4)
      · refine cv_iload_n hC 2 dX9_neededBy_34 rfl rfl ?_
        refine cv_aload_n hC 0 dX9_neededBy_35 rfl rfl ?_
        refine cv_iload_n hC 1 dX9_neededBy_36 rfl rfl ?_
        refine cv_iload_n hC 3 dX9_neededBy_37 rfl rfl ?_
        refine cv_callVi (ob := 10) hC [.int l1, .int l3] [.int l2] (M_X9_first LL G l1 l3 s4) ln_X9_141 vm_X9_first (ob_10 G) rfl rfl (Nat.le_of_ble_eq_true rfl) ⟨Nat.le_of_ble_eq_true rfl, Nat.le_of_ble_eq_true rfl⟩ ⟨Nat.le_of_ble_eq_true rfl, Nat.le_of_ble_eq_true rfl⟩ dX9_neededBy_38 (fun v7 s6 => ?_)
        refine cv_iconst (v := 1) hC dX9_neededBy_41 cb_iconst_1 ?_
        refine cv_iadd hC dX9_neededBy_42 ?_
        refine cv_mmax hC ln_X9_238 sw_max.1 sw_max.2.1 sw_max.2.2 ⟨Nat.le_of_ble_eq_true rfl, Nat.le_of_ble_eq_true rfl⟩ ⟨Nat.le_of_ble_eq_true rfl, Nat.le_of_ble_eq_true rfl⟩ dX9_neededBy_43 ?_
        refine cv_goto (tgt := 50) hC dX9_neededBy_46 (by decide) ?_
        exact cv_sub [0, 1, 3] rfl (J_X9_neededBy_b50 hC k4 hk4 l1 l3 (if l2 < (v7 + 1) then (v7 + 1) else l2) s6)
set_option maxRecDepth 20000 in
set_option maxHeartbeats 2000000 in
theorem J_X9_neededBy_b4 {X : cv_X} {G : cv_G} {LL : Launch} (hC : cv_C X G LL RX9 cX9_neededBy 4 (some .int) { frames := 1, cells := 0, slots := 0, locals := 22 }) : ∀ (n : Nat) (l1 : Int32) (l2 : Int32) (l3 : Int32) (σ : cv_St), cv_J X G 4 0 0 (cv_QI X G) 4 [(0, .ref (G.1 10)), (1, .int l1), (2, .int l2), (3, .int l3)] [] σ (F_X9_neededBy_b4 n l1 l2 l3 σ) := by
  intro n
  induction n with
  | zero => intro l1 l2 l3 σ; exact cv_none
  | succ n ih => intro l1 l2 l3 σ; exact I_X9_neededBy_b4 hC _ ih l1 l2 l3 σ
set_option maxRecDepth 20000 in
set_option maxHeartbeats 2000000 in
theorem J_X9_neededBy {X : cv_X} {G : cv_G} {LL : Launch} (hC : cv_C X G LL RX9 cX9_neededBy 4 (some .int) { frames := 1, cells := 0, slots := 0, locals := 22 }) (l1 : Int32) (σ : cv_St) : cv_J X G 4 0 0 (cv_QI X G) 0 [(0, .ref (G.1 10)), (1, .int l1)] [] σ (F_X9_neededBy l1 σ) := by
  unfold F_X9_neededBy
  refine cv_iconst (v := 0) hC dX9_neededBy_0 cb_iconst_0 ?_
  refine cv_istore_n (lv' := [(2, .int 0), (0, .ref (G.1 10)), (1, .int l1)]) hC dX9_neededBy_1 rfl (by decide) rfl ?_
  refine cv_iconst (v := 0) hC dX9_neededBy_2 cb_iconst_0 ?_
  refine cv_istore_n (lv' := [(3, .int 0), (2, .int 0), (0, .ref (G.1 10)), (1, .int l1)]) hC dX9_neededBy_3 rfl (by decide) rfl ?_
  exact cv_sub [2, 3, 1, 0] rfl (J_X9_neededBy_b4 hC 1000 l1 0 0 σ)
set_option maxRecDepth 20000 in
set_option maxHeartbeats 2000000 in
theorem M_X9_neededBy (LL : Launch) (G : cv_G) (l1 : Int32) (σ : cv_St) : cv_MI LL G yX9_neededBy cX9_neededBy 4 (some .int) 1 22 [.ref (G.1 10), .int l1] σ (F_X9_neededBy l1 σ) :=
  cv_mkI (by decide) (Nat.le_of_ble_eq_true rfl) (fun X hC => J_X9_neededBy hC l1 σ)
/-! X9_neededSlots -/
set_option maxRecDepth 20000 in
set_option maxHeartbeats 2000000 in
theorem J_X9_neededSlots_b13 {X : cv_X} {G : cv_G} {LL : Launch} (hC : cv_C X G LL RX9 cX9_neededSlots 2 (some .int) { frames := 6, cells := 0, slots := 0, locals := 139 }) (l1 : Int32) (t0 : Int32) (σ : cv_St) : cv_J X G 2 0 0 (cv_QI X G) 13 [(0, .ref (G.1 10)), (1, .int l1)] [.int t0, .ref (G.1 10)] σ (F_X9_neededSlots_b13 l1 t0 σ) := by
  unfold F_X9_neededSlots_b13
  refine cv_puti hC (fp_X9_84_10 G) dX9_neededSlots_13 (fun s3 => ?_)
  refine cv_aload_n hC 0 dX9_neededSlots_16 rfl rfl ?_
  refine cv_geti hC (fg_X9_84_10 G) dX9_neededSlots_17 ?_
  refine cv_if_le (tgt := 25) hC dX9_neededSlots_20 (by decide) ?_ ?_
  · refine cv_aload_n hC 0 dX9_neededSlots_25 rfl rfl ?_
    refine cv_callVv (ob := 10) hC [] [] (M_X9_infer LL G s3) ln_X9_231 vm_X9_infer (ob_10 G) rfl rfl (Nat.le_of_ble_eq_true rfl) ⟨Nat.le_of_ble_eq_true rfl, Nat.le_of_ble_eq_true rfl⟩ ⟨Nat.le_of_ble_eq_true rfl, Nat.le_of_ble_eq_true rfl⟩ dX9_neededSlots_26 (fun s4 => ?_)
    refine cv_aload_n hC 0 dX9_neededSlots_29 rfl rfl ?_
    refine cv_iload_n hC 1 dX9_neededSlots_30 rfl rfl ?_
    refine cv_callVi (ob := 10) hC [.int l1] [] (M_X9_neededBy LL G l1 s4) ln_X9_241 vm_X9_neededBy (ob_10 G) rfl rfl (Nat.le_of_ble_eq_true rfl) ⟨Nat.le_of_ble_eq_true rfl, Nat.le_of_ble_eq_true rfl⟩ ⟨Nat.le_of_ble_eq_true rfl, Nat.le_of_ble_eq_true rfl⟩ dX9_neededSlots_31 (fun v6 s5 => ?_)
    exact cv_iret hC dX9_neededSlots_34
  · refine cv_iconst (v := 0) hC dX9_neededSlots_23 cb_iconst_0 ?_
    exact cv_iret hC dX9_neededSlots_24
set_option maxRecDepth 20000 in
set_option maxHeartbeats 2000000 in
theorem J_X9_neededSlots {X : cv_X} {G : cv_G} {LL : Launch} (hC : cv_C X G LL RX9 cX9_neededSlots 2 (some .int) { frames := 6, cells := 0, slots := 0, locals := 139 }) (l1 : Int32) (σ : cv_St) : cv_J X G 2 0 0 (cv_QI X G) 0 [(0, .ref (G.1 10)), (1, .int l1)] [] σ (F_X9_neededSlots l1 σ) := by
  unfold F_X9_neededSlots
  refine cv_aload_n hC 0 dX9_neededSlots_0 rfl rfl ?_
  refine cv_iload_n hC 1 dX9_neededSlots_1 rfl rfl ?_
  refine cv_callSi hC [.int l1] [.ref (G.1 10)] (M_X9_isFunction LL G l1 σ) ln_X9_93 vm_X9_isFunction rfl rfl (Nat.le_of_ble_eq_true rfl) ⟨Nat.le_of_ble_eq_true rfl, Nat.le_of_ble_eq_true rfl⟩ ⟨Nat.le_of_ble_eq_true rfl, Nat.le_of_ble_eq_true rfl⟩ dX9_neededSlots_2 (fun v2 s1 => ?_)
  refine cv_if_eq (tgt := 12) hC dX9_neededSlots_5 (by decide) ?_ ?_
  · refine cv_iconst (v := 1) hC dX9_neededSlots_12 cb_iconst_1 ?_
    exact cv_sub [0, 1] rfl (J_X9_neededSlots_b13 hC l1 1 s1)
  · refine cv_iconst (v := 0) hC dX9_neededSlots_8 cb_iconst_0 ?_
    refine cv_goto (tgt := 13) hC dX9_neededSlots_9 (by decide) ?_
    exact cv_sub [0, 1] rfl (J_X9_neededSlots_b13 hC l1 0 s1)
set_option maxRecDepth 20000 in
set_option maxHeartbeats 2000000 in
theorem M_X9_neededSlots (LL : Launch) (G : cv_G) (l1 : Int32) (σ : cv_St) : cv_MI LL G yX9_neededSlots cX9_neededSlots 2 (some .int) 6 139 [.ref (G.1 10), .int l1] σ (F_X9_neededSlots l1 σ) :=
  cv_mkI (by decide) (Nat.le_of_ble_eq_true rfl) (fun X hC => J_X9_neededSlots hC l1 σ)
/-! X9_isVariadic -/
set_option maxRecDepth 20000 in
set_option maxHeartbeats 2000000 in
theorem J_X9_isVariadic_b92 {X : cv_X} {G : cv_G} {LL : Launch} (hC : cv_C X G LL RX9 cX9_isVariadic 5 (some .boolean) { frames := 6, cells := 0, slots := 0, locals := 139 }) (k33 : Int32 → Int32 → Int32 → cv_St → Option (Int32 × cv_St)) (hk33 : ∀ (l1 : Int32) (l2 : Int32) (l3 : Int32)  σ, cv_J X G 5 0 0 (cv_QI X G) 33 [(0, .ref (G.1 10)), (1, .int l1), (2, .int l2), (3, .int l3)] [] σ (k33 l1 l2 l3 σ)) (k44 : Int32 → Int32 → Int32 → Int32 → cv_St → Option (Int32 × cv_St)) (hk44 : ∀ (l1 : Int32) (l2 : Int32) (l3 : Int32) (l4 : Int32)  σ, cv_J X G 5 0 0 (cv_QI X G) 44 [(0, .ref (G.1 10)), (1, .int l1), (2, .int l2), (3, .int l3), (4, .int l4)] [] σ (k44 l1 l2 l3 l4 σ)) (l1 : Int32) (l3 : Int32) (l4 : Int32) (t0 : Int32) (σ : cv_St) : cv_J X G 5 0 0 (cv_QI X G) 92 [(0, .ref (G.1 10)), (1, .int l1), (3, .int l3), (4, .int l4)] [.int t0] σ (F_X9_isVariadic_b92 k33 k44 l1 l3 l4 t0 σ) := by
  unfold F_X9_isVariadic_b92
  refine cv_istore_n (lv' := [(2, .int t0), (0, .ref (G.1 10)), (1, .int l1), (3, .int l3), (4, .int l4)]) hC dX9_isVariadic_92 rfl (by decide) rfl ?_
  refine cv_iinc (lv' := [(4, .int (l4 + Int32.ofInt 1)), (2, .int t0), (0, .ref (G.1 10)), (1, .int l1), (3, .int l3)]) hC 4 dX9_isVariadic_93 rfl (by decide) rfl ?_
  refine cv_goto (tgt := 44) hC dX9_isVariadic_96 (by decide) ?_
  exact cv_sub [2, 3, 1, 4, 0] rfl (hk44 l1 t0 l3 (l4 + Int32.ofInt 1) σ)
set_option maxRecDepth 20000 in
set_option maxHeartbeats 2000000 in
theorem J_X9_isVariadic_b87 {X : cv_X} {G : cv_G} {LL : Launch} (hC : cv_C X G LL RX9 cX9_isVariadic 5 (some .boolean) { frames := 6, cells := 0, slots := 0, locals := 139 }) (k33 : Int32 → Int32 → Int32 → cv_St → Option (Int32 × cv_St)) (hk33 : ∀ (l1 : Int32) (l2 : Int32) (l3 : Int32)  σ, cv_J X G 5 0 0 (cv_QI X G) 33 [(0, .ref (G.1 10)), (1, .int l1), (2, .int l2), (3, .int l3)] [] σ (k33 l1 l2 l3 σ)) (k44 : Int32 → Int32 → Int32 → Int32 → cv_St → Option (Int32 × cv_St)) (hk44 : ∀ (l1 : Int32) (l2 : Int32) (l3 : Int32) (l4 : Int32)  σ, cv_J X G 5 0 0 (cv_QI X G) 44 [(0, .ref (G.1 10)), (1, .int l1), (2, .int l2), (3, .int l3), (4, .int l4)] [] σ (k44 l1 l2 l3 l4 σ)) (l1 : Int32) (l3 : Int32) (l4 : Int32) (σ : cv_St) : cv_J X G 5 0 0 (cv_QI X G) 87 [(0, .ref (G.1 10)), (1, .int l1), (3, .int l3), (4, .int l4)] [] σ (F_X9_isVariadic_b87 k33 k44 l1 l3 l4 σ) := by
  unfold F_X9_isVariadic_b87
  refine cv_iconst (v := 1) hC dX9_isVariadic_87 cb_iconst_1 ?_
  refine cv_goto (tgt := 92) hC dX9_isVariadic_88 (by decide) ?_
  exact cv_sub [0, 1, 2, 3] rfl (J_X9_isVariadic_b92 hC k33 hk33 k44 hk44 l1 l3 l4 1 σ)
set_option maxRecDepth 20000 in
set_option maxHeartbeats 2000000 in
theorem J_X9_isVariadic_b91 {X : cv_X} {G : cv_G} {LL : Launch} (hC : cv_C X G LL RX9 cX9_isVariadic 5 (some .boolean) { frames := 6, cells := 0, slots := 0, locals := 139 }) (k33 : Int32 → Int32 → Int32 → cv_St → Option (Int32 × cv_St)) (hk33 : ∀ (l1 : Int32) (l2 : Int32) (l3 : Int32)  σ, cv_J X G 5 0 0 (cv_QI X G) 33 [(0, .ref (G.1 10)), (1, .int l1), (2, .int l2), (3, .int l3)] [] σ (k33 l1 l2 l3 σ)) (k44 : Int32 → Int32 → Int32 → Int32 → cv_St → Option (Int32 × cv_St)) (hk44 : ∀ (l1 : Int32) (l2 : Int32) (l3 : Int32) (l4 : Int32)  σ, cv_J X G 5 0 0 (cv_QI X G) 44 [(0, .ref (G.1 10)), (1, .int l1), (2, .int l2), (3, .int l3), (4, .int l4)] [] σ (k44 l1 l2 l3 l4 σ)) (l1 : Int32) (l3 : Int32) (l4 : Int32) (σ : cv_St) : cv_J X G 5 0 0 (cv_QI X G) 91 [(0, .ref (G.1 10)), (1, .int l1), (3, .int l3), (4, .int l4)] [] σ (F_X9_isVariadic_b91 k33 k44 l1 l3 l4 σ) := by
  unfold F_X9_isVariadic_b91
  refine cv_iconst (v := 0) hC dX9_isVariadic_91 cb_iconst_0 ?_
  exact cv_sub [0, 1, 2, 3] rfl (J_X9_isVariadic_b92 hC k33 hk33 k44 hk44 l1 l3 l4 0 σ)
set_option maxRecDepth 20000 in
set_option maxHeartbeats 2000000 in
theorem I_X9_isVariadic_b44 {X : cv_X} {G : cv_G} {LL : Launch} (hC : cv_C X G LL RX9 cX9_isVariadic 5 (some .boolean) { frames := 6, cells := 0, slots := 0, locals := 139 }) (k33 : Int32 → Int32 → Int32 → cv_St → Option (Int32 × cv_St)) (hk33 : ∀ (l1 : Int32) (l2 : Int32) (l3 : Int32)  σ, cv_J X G 5 0 0 (cv_QI X G) 33 [(0, .ref (G.1 10)), (1, .int l1), (2, .int l2), (3, .int l3)] [] σ (k33 l1 l2 l3 σ)) (k44 : Int32 → Int32 → Int32 → Int32 → cv_St → Option (Int32 × cv_St)) (hk44 : ∀ (l1 : Int32) (l2 : Int32) (l3 : Int32) (l4 : Int32)  σ, cv_J X G 5 0 0 (cv_QI X G) 44 [(0, .ref (G.1 10)), (1, .int l1), (2, .int l2), (3, .int l3), (4, .int l4)] [] σ (k44 l1 l2 l3 l4 σ)) (l1 : Int32) (l2 : Int32) (l3 : Int32) (l4 : Int32) (σ : cv_St) : cv_J X G 5 0 0 (cv_QI X G) 44 [(0, .ref (G.1 10)), (1, .int l1), (2, .int l2), (3, .int l3), (4, .int l4)] [] σ (B_X9_isVariadic_b44 k33 k44 l1 l2 l3 l4 σ) := by
  unfold B_X9_isVariadic_b44
  refine cv_iload hC 4 dX9_isVariadic_44 rfl ?_
  refine cv_iload_n hC 3 dX9_isVariadic_46 rfl rfl ?_
  refine cv_icmp_ge (tgt := 99) hC dX9_isVariadic_47 (by decide) ?_ ?_
  · refine cv_iinc (lv' := [(3, .int (l3 + Int32.ofInt 1)), (0, .ref (G.1 10)), (1, .int l1), (2, .int l2), (4, .int l4)]) hC 3 dX9_isVariadic_99 rfl (by decide) rfl ?_
    refine cv_goto (tgt := 33) hC dX9_isVariadic_102 (by decide) ?_
    exact cv_sub [1, 2, 3, 0] rfl (hk33 l1 l2 (l3 + Int32.ofInt 1) σ)
  · refine cv_iload_n hC 2 dX9_isVariadic_50 rfl rfl ?_
    refine cv_if_ne (tgt := 87) hC dX9_isVariadic_51 (by decide) ?_ ?_
    · exact cv_sub [0, 1, 3, 4] rfl (J_X9_isVariadic_b87 hC k33 hk33 k44 hk44 l1 l3 l4 σ)
    · refine cv_aload_n hC 0 dX9_isVariadic_54 rfl rfl ?_
      refine cv_iload_n hC 3 dX9_isVariadic_55 rfl rfl ?_
      refine cv_callVi (ob := 10) hC [.int l3] [] (M_X9_calleeOf LL G l3 σ) ln_X9_204 vm_X9_calleeOf (ob_10 G) rfl rfl (Nat.le_of_ble_eq_true rfl) ⟨Nat.le_of_ble_eq_true rfl, Nat.le_of_ble_eq_true rfl⟩ ⟨Nat.le_of_ble_eq_true rfl, Nat.le_of_ble_eq_true rfl⟩ dX9_isVariadic_56 (fun v6 s5 => ?_)
      refine cv_iload_n hC 1 dX9_isVariadic_59 rfl rfl ?_
      refine cv_icmp_ne (tgt := 91) hC dX9_isVariadic_60 (by decide) ?_ ?_
      · exact cv_sub [0, 1, 3, 4] rfl (J_X9_isVariadic_b91 hC k33 hk33 k44 hk44 l1 l3 l4 s5)
      · refine cv_aload_n hC 0 dX9_isVariadic_63 rfl rfl ?_
        refine cv_iload hC 4 dX9_isVariadic_64 rfl ?_
        refine cv_callVi (ob := 10) hC [.int l4] [] (M_X9_calleeOf LL G l4 s5) ln_X9_204 vm_X9_calleeOf (ob_10 G) rfl rfl (Nat.le_of_ble_eq_true rfl) ⟨Nat.le_of_ble_eq_true rfl, Nat.le_of_ble_eq_true rfl⟩ ⟨Nat.le_of_ble_eq_true rfl, Nat.le_of_ble_eq_true rfl⟩ dX9_isVariadic_66 (fun v8 s7 => ?_)
        refine cv_iload_n hC 1 dX9_isVariadic_69 rfl rfl ?_
        refine cv_icmp_ne (tgt := 91) hC dX9_isVariadic_70 (by decide) ?_ ?_
        · exact cv_sub [0, 1, 3, 4] rfl (J_X9_isVariadic_b91 hC k33 hk33 k44 hk44 l1 l3 l4 s7)
        · refine cv_aload_n hC 0 dX9_isVariadic_73 rfl rfl ?_
          refine cv_iload_n hC 3 dX9_isVariadic_74 rfl rfl ?_
          refine cv_callVi (ob := 10) hC [.int l3] [] (M_X9_passedAt LL G l3 s7) ln_X9_244 vm_X9_passedAt (ob_10 G) rfl rfl (Nat.le_of_ble_eq_true rfl) ⟨Nat.le_of_ble_eq_true rfl, Nat.le_of_ble_eq_true rfl⟩ ⟨Nat.le_of_ble_eq_true rfl, Nat.le_of_ble_eq_true rfl⟩ dX9_isVariadic_75 (fun v10 s9 => ?_)
          refine cv_aload_n hC 0 dX9_isVariadic_78 rfl rfl ?_
          refine cv_iload hC 4 dX9_isVariadic_79 rfl ?_
          refine cv_callVi (ob := 10) hC [.int l4] [.int v10] (M_X9_passedAt LL G l4 s9) ln_X9_244 vm_X9_passedAt (ob_10 G) rfl rfl (Nat.le_of_ble_eq_true rfl) ⟨Nat.le_of_ble_eq_true rfl, Nat.le_of_ble_eq_true rfl⟩ ⟨Nat.le_of_ble_eq_true rfl, Nat.le_of_ble_eq_true rfl⟩ dX9_isVariadic_81 (fun v12 s11 => ?_)
          refine cv_icmp_eq (tgt := 91) hC dX9_isVariadic_84 (by decide) ?_ ?_
          · exact cv_sub [0, 1, 3, 4] rfl (J_X9_isVariadic_b91 hC k33 hk33 k44 hk44 l1 l3 l4 s11)
          · exact cv_sub [0, 1, 3, 4] rfl (J_X9_isVariadic_b87 hC k33 hk33 k44 hk44 l1 l3 l4 s11)
set_option maxRecDepth 20000 in
set_option maxHeartbeats 2000000 in
theorem J_X9_isVariadic_b44 {X : cv_X} {G : cv_G} {LL : Launch} (hC : cv_C X G LL RX9 cX9_isVariadic 5 (some .boolean) { frames := 6, cells := 0, slots := 0, locals := 139 }) (k33 : Int32 → Int32 → Int32 → cv_St → Option (Int32 × cv_St)) (hk33 : ∀ (l1 : Int32) (l2 : Int32) (l3 : Int32)  σ, cv_J X G 5 0 0 (cv_QI X G) 33 [(0, .ref (G.1 10)), (1, .int l1), (2, .int l2), (3, .int l3)] [] σ (k33 l1 l2 l3 σ)) : ∀ (n : Nat) (l1 : Int32) (l2 : Int32) (l3 : Int32) (l4 : Int32) (σ : cv_St), cv_J X G 5 0 0 (cv_QI X G) 44 [(0, .ref (G.1 10)), (1, .int l1), (2, .int l2), (3, .int l3), (4, .int l4)] [] σ (F_X9_isVariadic_b44 k33 n l1 l2 l3 l4 σ) := by
  intro n
  induction n with
  | zero => intro l1 l2 l3 l4 σ; exact cv_none
  | succ n ih => intro l1 l2 l3 l4 σ; exact I_X9_isVariadic_b44 hC k33 hk33 _ ih l1 l2 l3 l4 σ
set_option maxRecDepth 20000 in
set_option maxHeartbeats 2000000 in
theorem I_X9_isVariadic_b33 {X : cv_X} {G : cv_G} {LL : Launch} (hC : cv_C X G LL RX9 cX9_isVariadic 5 (some .boolean) { frames := 6, cells := 0, slots := 0, locals := 139 }) (k33 : Int32 → Int32 → Int32 → cv_St → Option (Int32 × cv_St)) (hk33 : ∀ (l1 : Int32) (l2 : Int32) (l3 : Int32)  σ, cv_J X G 5 0 0 (cv_QI X G) 33 [(0, .ref (G.1 10)), (1, .int l1), (2, .int l2), (3, .int l3)] [] σ (k33 l1 l2 l3 σ)) (l1 : Int32) (l2 : Int32) (l3 : Int32) (σ : cv_St) : cv_J X G 5 0 0 (cv_QI X G) 33 [(0, .ref (G.1 10)), (1, .int l1), (2, .int l2), (3, .int l3)] [] σ (B_X9_isVariadic_b33 k33 l1 l2 l3 σ) := by
  unfold B_X9_isVariadic_b33
  refine cv_iload_n hC 3 dX9_isVariadic_33 rfl rfl ?_
  refine cv_aload_n hC 0 dX9_isVariadic_34 rfl rfl ?_
  refine cv_geti hC (fg_X9_201_10 G) dX9_isVariadic_35 ?_
  refine cv_icmp_ge (tgt := 105) hC dX9_isVariadic_38 (by decide) ?_ ?_
  · refine cv_iload_n hC 2 dX9_isVariadic_105 rfl rfl ?_
    exact cv_zret hC dX9_isVariadic_106
  · refine cv_iconst (v := 0) hC dX9_isVariadic_41 cb_iconst_0 ?_
    refine cv_istore (lv' := [(4, .int 0), (0, .ref (G.1 10)), (1, .int l1), (2, .int l2), (3, .int l3)]) hC dX9_isVariadic_42 (by decide) rfl ?_
    exact cv_sub [1, 2, 3, 4, 0] rfl (J_X9_isVariadic_b44 hC k33 hk33 1000 l1 l2 l3 0 σ)
set_option maxRecDepth 20000 in
set_option maxHeartbeats 2000000 in
theorem J_X9_isVariadic_b33 {X : cv_X} {G : cv_G} {LL : Launch} (hC : cv_C X G LL RX9 cX9_isVariadic 5 (some .boolean) { frames := 6, cells := 0, slots := 0, locals := 139 }) : ∀ (n : Nat) (l1 : Int32) (l2 : Int32) (l3 : Int32) (σ : cv_St), cv_J X G 5 0 0 (cv_QI X G) 33 [(0, .ref (G.1 10)), (1, .int l1), (2, .int l2), (3, .int l3)] [] σ (F_X9_isVariadic_b33 n l1 l2 l3 σ) := by
  intro n
  induction n with
  | zero => intro l1 l2 l3 σ; exact cv_none
  | succ n ih => intro l1 l2 l3 σ; exact I_X9_isVariadic_b33 hC _ ih l1 l2 l3 σ
set_option maxRecDepth 20000 in
set_option maxHeartbeats 2000000 in
theorem J_X9_isVariadic_b13 {X : cv_X} {G : cv_G} {LL : Launch} (hC : cv_C X G LL RX9 cX9_isVariadic 5 (some .boolean) { frames := 6, cells := 0, slots := 0, locals := 139 }) (l1 : Int32) (t0 : Int32) (σ : cv_St) : cv_J X G 5 0 0 (cv_QI X G) 13 [(0, .ref (G.1 10)), (1, .int l1)] [.int t0, .ref (G.1 10)] σ (F_X9_isVariadic_b13 l1 t0 σ) := by
  unfold F_X9_isVariadic_b13
  refine cv_puti hC (fp_X9_84_10 G) dX9_isVariadic_13 (fun s3 => ?_)
  refine cv_aload_n hC 0 dX9_isVariadic_16 rfl rfl ?_
  refine cv_geti hC (fg_X9_84_10 G) dX9_isVariadic_17 ?_
  refine cv_if_le (tgt := 25) hC dX9_isVariadic_20 (by decide) ?_ ?_
  · refine cv_aload_n hC 0 dX9_isVariadic_25 rfl rfl ?_
    refine cv_callVv (ob := 10) hC [] [] (M_X9_infer LL G s3) ln_X9_231 vm_X9_infer (ob_10 G) rfl rfl (Nat.le_of_ble_eq_true rfl) ⟨Nat.le_of_ble_eq_true rfl, Nat.le_of_ble_eq_true rfl⟩ ⟨Nat.le_of_ble_eq_true rfl, Nat.le_of_ble_eq_true rfl⟩ dX9_isVariadic_26 (fun s4 => ?_)
    refine cv_iconst (v := 0) hC dX9_isVariadic_29 cb_iconst_0 ?_
    refine cv_istore_n (lv' := [(2, .int 0), (0, .ref (G.1 10)), (1, .int l1)]) hC dX9_isVariadic_30 rfl (by decide) rfl ?_
    refine cv_iconst (v := 0) hC dX9_isVariadic_31 cb_iconst_0 ?_
    refine cv_istore_n (lv' := [(3, .int 0), (2, .int 0), (0, .ref (G.1 10)), (1, .int l1)]) hC dX9_isVariadic_32 rfl (by decide) rfl ?_
    exact cv_sub [2, 3, 1, 0] rfl (J_X9_isVariadic_b33 hC 1000 l1 0 0 s4)
  · refine cv_iconst (v := 0) hC dX9_isVariadic_23 cb_iconst_0 ?_
    exact cv_zret hC dX9_isVariadic_24
set_option maxRecDepth 20000 in
set_option maxHeartbeats 2000000 in
theorem J_X9_isVariadic {X : cv_X} {G : cv_G} {LL : Launch} (hC : cv_C X G LL RX9 cX9_isVariadic 5 (some .boolean) { frames := 6, cells := 0, slots := 0, locals := 139 }) (l1 : Int32) (σ : cv_St) : cv_J X G 5 0 0 (cv_QI X G) 0 [(0, .ref (G.1 10)), (1, .int l1)] [] σ (F_X9_isVariadic l1 σ) := by
  unfold F_X9_isVariadic
  refine cv_aload_n hC 0 dX9_isVariadic_0 rfl rfl ?_
  refine cv_iload_n hC 1 dX9_isVariadic_1 rfl rfl ?_
  refine cv_callSi hC [.int l1] [.ref (G.1 10)] (M_X9_isFunction LL G l1 σ) ln_X9_93 vm_X9_isFunction rfl rfl (Nat.le_of_ble_eq_true rfl) ⟨Nat.le_of_ble_eq_true rfl, Nat.le_of_ble_eq_true rfl⟩ ⟨Nat.le_of_ble_eq_true rfl, Nat.le_of_ble_eq_true rfl⟩ dX9_isVariadic_2 (fun v2 s1 => ?_)
  refine cv_if_eq (tgt := 12) hC dX9_isVariadic_5 (by decide) ?_ ?_
  · refine cv_iconst (v := 1) hC dX9_isVariadic_12 cb_iconst_1 ?_
    exact cv_sub [0, 1] rfl (J_X9_isVariadic_b13 hC l1 1 s1)
  · refine cv_iconst (v := 0) hC dX9_isVariadic_8 cb_iconst_0 ?_
    refine cv_goto (tgt := 13) hC dX9_isVariadic_9 (by decide) ?_
    exact cv_sub [0, 1] rfl (J_X9_isVariadic_b13 hC l1 0 s1)
set_option maxRecDepth 20000 in
set_option maxHeartbeats 2000000 in
theorem M_X9_isVariadic (LL : Launch) (G : cv_G) (l1 : Int32) (σ : cv_St) : cv_MI LL G yX9_isVariadic cX9_isVariadic 5 (some .boolean) 6 139 [.ref (G.1 10), .int l1] σ (F_X9_isVariadic l1 σ) :=
  cv_mkI (by decide) (Nat.le_of_ble_eq_true rfl) (fun X hC => J_X9_isVariadic hC l1 σ)
/-! X9_calleesOf -/
set_option maxRecDepth 20000 in
set_option maxHeartbeats 2000000 in
theorem J_X9_calleesOf_b34 {X : cv_X} {G : cv_G} {LL : Launch} (hC : cv_C X G LL RX9 cX9_calleesOf 4 (some .int) { frames := 2, cells := 0, slots := 0, locals := 43 }) (k4 : Int32 → Int32 → Int32 → cv_St → Option (Int32 × cv_St)) (hk4 : ∀ (l1 : Int32) (l2 : Int32) (l3 : Int32)  σ, cv_J X G 4 0 0 (cv_QI X G) 4 [(0, .ref (G.1 10)), (1, .int l1), (2, .int l2), (3, .int l3)] [] σ (k4 l1 l2 l3 σ)) (l1 : Int32) (l3 : Int32) (t0 : Int32) (t1 : Int32) (σ : cv_St) : cv_J X G 4 0 0 (cv_QI X G) 34 [(0, .ref (G.1 10)), (1, .int l1), (3, .int l3)] [.int t0, .int t1] σ (F_X9_calleesOf_b34 k4 l1 l3 t0 t1 σ) := by
  unfold F_X9_calleesOf_b34
  refine cv_ior hC dX9_calleesOf_34 ?_
  refine cv_istore_n (lv' := [(2, .int (t1 ||| t0)), (0, .ref (G.1 10)), (1, .int l1), (3, .int l3)]) hC dX9_calleesOf_35 rfl (by decide) rfl ?_
  refine cv_iinc (lv' := [(3, .int (l3 + Int32.ofInt 1)), (2, .int (t1 ||| t0)), (0, .ref (G.1 10)), (1, .int l1)]) hC 3 dX9_calleesOf_36 rfl (by decide) rfl ?_
  refine cv_goto (tgt := 4) hC dX9_calleesOf_39 (by decide) ?_
  exact cv_sub [2, 3, 1, 0] rfl (hk4 l1 (t1 ||| t0) (l3 + Int32.ofInt 1) σ)
set_option maxRecDepth 20000 in
set_option maxHeartbeats 2000000 in
theorem I_X9_calleesOf_b4 {X : cv_X} {G : cv_G} {LL : Launch} (hC : cv_C X G LL RX9 cX9_calleesOf 4 (some .int) { frames := 2, cells := 0, slots := 0, locals := 43 }) (k4 : Int32 → Int32 → Int32 → cv_St → Option (Int32 × cv_St)) (hk4 : ∀ (l1 : Int32) (l2 : Int32) (l3 : Int32)  σ, cv_J X G 4 0 0 (cv_QI X G) 4 [(0, .ref (G.1 10)), (1, .int l1), (2, .int l2), (3, .int l3)] [] σ (k4 l1 l2 l3 σ)) (l1 : Int32) (l2 : Int32) (l3 : Int32) (σ : cv_St) : cv_J X G 4 0 0 (cv_QI X G) 4 [(0, .ref (G.1 10)), (1, .int l1), (2, .int l2), (3, .int l3)] [] σ (B_X9_calleesOf_b4 k4 l1 l2 l3 σ) := by
  unfold B_X9_calleesOf_b4
  refine cv_iload_n hC 3 dX9_calleesOf_4 rfl rfl ?_
  refine cv_aload_n hC 0 dX9_calleesOf_5 rfl rfl ?_
  refine cv_geti hC (fg_X9_201_10 G) dX9_calleesOf_6 ?_
  refine cv_icmp_ge (tgt := 42) hC dX9_calleesOf_9 (by decide) ?_ ?_
  · refine cv_iload_n hC 2 dX9_calleesOf_42 rfl rfl ?_
    exact cv_iret hC dX9_calleesOf_43
  · refine cv_iload_n hC 2 dX9_calleesOf_12 rfl rfl ?_
    refine cv_aload_n hC 0 dX9_calleesOf_13 rfl rfl ?_
    refine cv_getr hC (fg_X9_69_10 G) dX9_calleesOf_14 ?_
    refine cv_iload_n hC 3 dX9_calleesOf_17 rfl rfl ?_
    refine cv_iald hC (cv_a61 G) dX9_calleesOf_18 (fun v1 => ?_)
    refine cv_iload_n hC 1 dX9_calleesOf_19 rfl rfl ?_
    refine cv_icmp_ne (tgt := 33) hC dX9_calleesOf_20 (by decide) ?_ ?_
    · refine cv_iconst (v := 0) hC dX9_calleesOf_33 cb_iconst_0 ?_
      exact cv_sub [0, 1, 3] rfl (J_X9_calleesOf_b34 hC k4 hk4 l1 l3 0 l2 σ)
    · refine cv_iconst (v := 1) hC dX9_calleesOf_23 cb_iconst_1 ?_
      refine cv_aload_n hC 0 dX9_calleesOf_24 rfl rfl ?_
      refine cv_iload_n hC 3 dX9_calleesOf_25 rfl rfl ?_
      refine cv_callVi (ob := 10) hC [.int l3] [.int 1, .int l2] (M_X9_calleeOf LL G l3 σ) ln_X9_204 vm_X9_calleeOf (ob_10 G) rfl rfl (Nat.le_of_ble_eq_true rfl) ⟨Nat.le_of_ble_eq_true rfl, Nat.le_of_ble_eq_true rfl⟩ ⟨Nat.le_of_ble_eq_true rfl, Nat.le_of_ble_eq_true rfl⟩ dX9_calleesOf_26 (fun v3 s2 => ?_)
      refine cv_ishl hC dX9_calleesOf_29 ?_
      refine cv_goto (tgt := 34) hC dX9_calleesOf_30 (by decide) ?_
      exact cv_sub [0, 1, 3] rfl (J_X9_calleesOf_b34 hC k4 hk4 l1 l3 (1 <<< (v3 &&& 31)) l2 s2)
set_option maxRecDepth 20000 in
set_option maxHeartbeats 2000000 in
theorem J_X9_calleesOf_b4 {X : cv_X} {G : cv_G} {LL : Launch} (hC : cv_C X G LL RX9 cX9_calleesOf 4 (some .int) { frames := 2, cells := 0, slots := 0, locals := 43 }) : ∀ (n : Nat) (l1 : Int32) (l2 : Int32) (l3 : Int32) (σ : cv_St), cv_J X G 4 0 0 (cv_QI X G) 4 [(0, .ref (G.1 10)), (1, .int l1), (2, .int l2), (3, .int l3)] [] σ (F_X9_calleesOf_b4 n l1 l2 l3 σ) := by
  intro n
  induction n with
  | zero => intro l1 l2 l3 σ; exact cv_none
  | succ n ih => intro l1 l2 l3 σ; exact I_X9_calleesOf_b4 hC _ ih l1 l2 l3 σ
set_option maxRecDepth 20000 in
set_option maxHeartbeats 2000000 in
theorem J_X9_calleesOf {X : cv_X} {G : cv_G} {LL : Launch} (hC : cv_C X G LL RX9 cX9_calleesOf 4 (some .int) { frames := 2, cells := 0, slots := 0, locals := 43 }) (l1 : Int32) (σ : cv_St) : cv_J X G 4 0 0 (cv_QI X G) 0 [(0, .ref (G.1 10)), (1, .int l1)] [] σ (F_X9_calleesOf l1 σ) := by
  unfold F_X9_calleesOf
  refine cv_iconst (v := 0) hC dX9_calleesOf_0 cb_iconst_0 ?_
  refine cv_istore_n (lv' := [(2, .int 0), (0, .ref (G.1 10)), (1, .int l1)]) hC dX9_calleesOf_1 rfl (by decide) rfl ?_
  refine cv_iconst (v := 0) hC dX9_calleesOf_2 cb_iconst_0 ?_
  refine cv_istore_n (lv' := [(3, .int 0), (2, .int 0), (0, .ref (G.1 10)), (1, .int l1)]) hC dX9_calleesOf_3 rfl (by decide) rfl ?_
  exact cv_sub [2, 3, 1, 0] rfl (J_X9_calleesOf_b4 hC 1000 l1 0 0 σ)
set_option maxRecDepth 20000 in
set_option maxHeartbeats 2000000 in
theorem M_X9_calleesOf (LL : Launch) (G : cv_G) (l1 : Int32) (σ : cv_St) : cv_MI LL G yX9_calleesOf cX9_calleesOf 4 (some .int) 2 43 [.ref (G.1 10), .int l1] σ (F_X9_calleesOf l1 σ) :=
  cv_mkI (by decide) (Nat.le_of_ble_eq_true rfl) (fun X hC => J_X9_calleesOf hC l1 σ)
/-! X9_callees -/
set_option maxRecDepth 20000 in
set_option maxHeartbeats 2000000 in
theorem J_X9_callees_b13 {X : cv_X} {G : cv_G} {LL : Launch} (hC : cv_C X G LL RX9 cX9_callees 2 (some .int) { frames := 6, cells := 0, slots := 0, locals := 139 }) (l1 : Int32) (t0 : Int32) (σ : cv_St) : cv_J X G 2 0 0 (cv_QI X G) 13 [(0, .ref (G.1 10)), (1, .int l1)] [.int t0, .ref (G.1 10)] σ (F_X9_callees_b13 l1 t0 σ) := by
  unfold F_X9_callees_b13
  refine cv_puti hC (fp_X9_84_10 G) dX9_callees_13 (fun s3 => ?_)
  refine cv_aload_n hC 0 dX9_callees_16 rfl rfl ?_
  refine cv_geti hC (fg_X9_84_10 G) dX9_callees_17 ?_
  refine cv_if_le (tgt := 25) hC dX9_callees_20 (by decide) ?_ ?_
  · refine cv_aload_n hC 0 dX9_callees_25 rfl rfl ?_
    refine cv_callVv (ob := 10) hC [] [] (M_X9_infer LL G s3) ln_X9_231 vm_X9_infer (ob_10 G) rfl rfl (Nat.le_of_ble_eq_true rfl) ⟨Nat.le_of_ble_eq_true rfl, Nat.le_of_ble_eq_true rfl⟩ ⟨Nat.le_of_ble_eq_true rfl, Nat.le_of_ble_eq_true rfl⟩ dX9_callees_26 (fun s4 => ?_)
    refine cv_aload_n hC 0 dX9_callees_29 rfl rfl ?_
    refine cv_iload_n hC 1 dX9_callees_30 rfl rfl ?_
    refine cv_callVi (ob := 10) hC [.int l1] [] (M_X9_calleesOf LL G l1 s4) ln_X9_247 vm_X9_calleesOf (ob_10 G) rfl rfl (Nat.le_of_ble_eq_true rfl) ⟨Nat.le_of_ble_eq_true rfl, Nat.le_of_ble_eq_true rfl⟩ ⟨Nat.le_of_ble_eq_true rfl, Nat.le_of_ble_eq_true rfl⟩ dX9_callees_31 (fun v6 s5 => ?_)
    exact cv_iret hC dX9_callees_34
  · refine cv_iconst (v := 0) hC dX9_callees_23 cb_iconst_0 ?_
    exact cv_iret hC dX9_callees_24
set_option maxRecDepth 20000 in
set_option maxHeartbeats 2000000 in
theorem J_X9_callees {X : cv_X} {G : cv_G} {LL : Launch} (hC : cv_C X G LL RX9 cX9_callees 2 (some .int) { frames := 6, cells := 0, slots := 0, locals := 139 }) (l1 : Int32) (σ : cv_St) : cv_J X G 2 0 0 (cv_QI X G) 0 [(0, .ref (G.1 10)), (1, .int l1)] [] σ (F_X9_callees l1 σ) := by
  unfold F_X9_callees
  refine cv_aload_n hC 0 dX9_callees_0 rfl rfl ?_
  refine cv_iload_n hC 1 dX9_callees_1 rfl rfl ?_
  refine cv_callSi hC [.int l1] [.ref (G.1 10)] (M_X9_isFunction LL G l1 σ) ln_X9_93 vm_X9_isFunction rfl rfl (Nat.le_of_ble_eq_true rfl) ⟨Nat.le_of_ble_eq_true rfl, Nat.le_of_ble_eq_true rfl⟩ ⟨Nat.le_of_ble_eq_true rfl, Nat.le_of_ble_eq_true rfl⟩ dX9_callees_2 (fun v2 s1 => ?_)
  refine cv_if_eq (tgt := 12) hC dX9_callees_5 (by decide) ?_ ?_
  · refine cv_iconst (v := 1) hC dX9_callees_12 cb_iconst_1 ?_
    exact cv_sub [0, 1] rfl (J_X9_callees_b13 hC l1 1 s1)
  · refine cv_iconst (v := 0) hC dX9_callees_8 cb_iconst_0 ?_
    refine cv_goto (tgt := 13) hC dX9_callees_9 (by decide) ?_
    exact cv_sub [0, 1] rfl (J_X9_callees_b13 hC l1 0 s1)
set_option maxRecDepth 20000 in
set_option maxHeartbeats 2000000 in
theorem M_X9_callees (LL : Launch) (G : cv_G) (l1 : Int32) (σ : cv_St) : cv_MI LL G yX9_callees cX9_callees 2 (some .int) 6 139 [.ref (G.1 10), .int l1] σ (F_X9_callees l1 σ) :=
  cv_mkI (by decide) (Nat.le_of_ble_eq_true rfl) (fun X hC => J_X9_callees hC l1 σ)
/-! X9_callersOf -/
set_option maxRecDepth 20000 in
set_option maxHeartbeats 2000000 in
theorem J_X9_callersOf_b63 {X : cv_X} {G : cv_G} {LL : Launch} (hC : cv_C X G LL RX9 cX9_callersOf 4 (some .int) { frames := 6, cells := 0, slots := 0, locals := 139 }) (k33 : Int32 → Int32 → Int32 → cv_St → Option (Int32 × cv_St)) (hk33 : ∀ (l1 : Int32) (l2 : Int32) (l3 : Int32)  σ, cv_J X G 4 0 0 (cv_QI X G) 33 [(0, .ref (G.1 10)), (1, .int l1), (2, .int l2), (3, .int l3)] [] σ (k33 l1 l2 l3 σ)) (l1 : Int32) (l3 : Int32) (t0 : Int32) (t1 : Int32) (σ : cv_St) : cv_J X G 4 0 0 (cv_QI X G) 63 [(0, .ref (G.1 10)), (1, .int l1), (3, .int l3)] [.int t0, .int t1] σ (F_X9_callersOf_b63 k33 l1 l3 t0 t1 σ) := by
  unfold F_X9_callersOf_b63
  refine cv_ior hC dX9_callersOf_63 ?_
  refine cv_istore_n (lv' := [(2, .int (t1 ||| t0)), (0, .ref (G.1 10)), (1, .int l1), (3, .int l3)]) hC dX9_callersOf_64 rfl (by decide) rfl ?_
  refine cv_iinc (lv' := [(3, .int (l3 + Int32.ofInt 1)), (2, .int (t1 ||| t0)), (0, .ref (G.1 10)), (1, .int l1)]) hC 3 dX9_callersOf_65 rfl (by decide) rfl ?_
  refine cv_goto (tgt := 33) hC dX9_callersOf_68 (by decide) ?_
  exact cv_sub [2, 3, 1, 0] rfl (hk33 l1 (t1 ||| t0) (l3 + Int32.ofInt 1) σ)
set_option maxRecDepth 20000 in
set_option maxHeartbeats 2000000 in
theorem I_X9_callersOf_b33 {X : cv_X} {G : cv_G} {LL : Launch} (hC : cv_C X G LL RX9 cX9_callersOf 4 (some .int) { frames := 6, cells := 0, slots := 0, locals := 139 }) (k33 : Int32 → Int32 → Int32 → cv_St → Option (Int32 × cv_St)) (hk33 : ∀ (l1 : Int32) (l2 : Int32) (l3 : Int32)  σ, cv_J X G 4 0 0 (cv_QI X G) 33 [(0, .ref (G.1 10)), (1, .int l1), (2, .int l2), (3, .int l3)] [] σ (k33 l1 l2 l3 σ)) (l1 : Int32) (l2 : Int32) (l3 : Int32) (σ : cv_St) : cv_J X G 4 0 0 (cv_QI X G) 33 [(0, .ref (G.1 10)), (1, .int l1), (2, .int l2), (3, .int l3)] [] σ (B_X9_callersOf_b33 k33 l1 l2 l3 σ) := by
  unfold B_X9_callersOf_b33
  refine cv_iload_n hC 3 dX9_callersOf_33 rfl rfl ?_
  refine cv_aload_n hC 0 dX9_callersOf_34 rfl rfl ?_
  refine cv_geti hC (fg_X9_201_10 G) dX9_callersOf_35 ?_
  refine cv_icmp_ge (tgt := 71) hC dX9_callersOf_38 (by decide) ?_ ?_
  · refine cv_iload_n hC 2 dX9_callersOf_71 rfl rfl ?_
    exact cv_iret hC dX9_callersOf_72
  · refine cv_iload_n hC 2 dX9_callersOf_41 rfl rfl ?_
    refine cv_aload_n hC 0 dX9_callersOf_42 rfl rfl ?_
    refine cv_iload_n hC 3 dX9_callersOf_43 rfl rfl ?_
    refine cv_callVi (ob := 10) hC [.int l3] [.int l2] (M_X9_calleeOf LL G l3 σ) ln_X9_204 vm_X9_calleeOf (ob_10 G) rfl rfl (Nat.le_of_ble_eq_true rfl) ⟨Nat.le_of_ble_eq_true rfl, Nat.le_of_ble_eq_true rfl⟩ ⟨Nat.le_of_ble_eq_true rfl, Nat.le_of_ble_eq_true rfl⟩ dX9_callersOf_44 (fun v6 s5 => ?_)
    refine cv_iload_n hC 1 dX9_callersOf_47 rfl rfl ?_
    refine cv_icmp_ne (tgt := 62) hC dX9_callersOf_48 (by decide) ?_ ?_
    · refine cv_iconst (v := 0) hC dX9_callersOf_62 cb_iconst_0 ?_
      exact cv_sub [0, 1, 3] rfl (J_X9_callersOf_b63 hC k33 hk33 l1 l3 0 l2 s5)
    · refine cv_iconst (v := 1) hC dX9_callersOf_51 cb_iconst_1 ?_
      refine cv_aload_n hC 0 dX9_callersOf_52 rfl rfl ?_
      refine cv_getr hC (fg_X9_69_10 G) dX9_callersOf_53 ?_
      refine cv_iload_n hC 3 dX9_callersOf_56 rfl rfl ?_
      refine cv_iald hC (cv_a61 G) dX9_callersOf_57 (fun v7 => ?_)
      refine cv_ishl hC dX9_callersOf_58 ?_
      refine cv_goto (tgt := 63) hC dX9_callersOf_59 (by decide) ?_
      exact cv_sub [0, 1, 3] rfl (J_X9_callersOf_b63 hC k33 hk33 l1 l3 (1 <<< (v7 &&& 31)) l2 s5)
set_option maxRecDepth 20000 in
set_option maxHeartbeats 2000000 in
theorem J_X9_callersOf_b33 {X : cv_X} {G : cv_G} {LL : Launch} (hC : cv_C X G LL RX9 cX9_callersOf 4 (some .int) { frames := 6, cells := 0, slots := 0, locals := 139 }) : ∀ (n : Nat) (l1 : Int32) (l2 : Int32) (l3 : Int32) (σ : cv_St), cv_J X G 4 0 0 (cv_QI X G) 33 [(0, .ref (G.1 10)), (1, .int l1), (2, .int l2), (3, .int l3)] [] σ (F_X9_callersOf_b33 n l1 l2 l3 σ) := by
  intro n
  induction n with
  | zero => intro l1 l2 l3 σ; exact cv_none
  | succ n ih => intro l1 l2 l3 σ; exact I_X9_callersOf_b33 hC _ ih l1 l2 l3 σ
set_option maxRecDepth 20000 in
set_option maxHeartbeats 2000000 in
theorem J_X9_callersOf_b13 {X : cv_X} {G : cv_G} {LL : Launch} (hC : cv_C X G LL RX9 cX9_callersOf 4 (some .int) { frames := 6, cells := 0, slots := 0, locals := 139 }) (l1 : Int32) (t0 : Int32) (σ : cv_St) : cv_J X G 4 0 0 (cv_QI X G) 13 [(0, .ref (G.1 10)), (1, .int l1)] [.int t0, .ref (G.1 10)] σ (F_X9_callersOf_b13 l1 t0 σ) := by
  unfold F_X9_callersOf_b13
  refine cv_puti hC (fp_X9_84_10 G) dX9_callersOf_13 (fun s3 => ?_)
  refine cv_aload_n hC 0 dX9_callersOf_16 rfl rfl ?_
  refine cv_geti hC (fg_X9_84_10 G) dX9_callersOf_17 ?_
  refine cv_if_le (tgt := 25) hC dX9_callersOf_20 (by decide) ?_ ?_
  · refine cv_aload_n hC 0 dX9_callersOf_25 rfl rfl ?_
    refine cv_callVv (ob := 10) hC [] [] (M_X9_infer LL G s3) ln_X9_231 vm_X9_infer (ob_10 G) rfl rfl (Nat.le_of_ble_eq_true rfl) ⟨Nat.le_of_ble_eq_true rfl, Nat.le_of_ble_eq_true rfl⟩ ⟨Nat.le_of_ble_eq_true rfl, Nat.le_of_ble_eq_true rfl⟩ dX9_callersOf_26 (fun s4 => ?_)
    refine cv_iconst (v := 0) hC dX9_callersOf_29 cb_iconst_0 ?_
    refine cv_istore_n (lv' := [(2, .int 0), (0, .ref (G.1 10)), (1, .int l1)]) hC dX9_callersOf_30 rfl (by decide) rfl ?_
    refine cv_iconst (v := 0) hC dX9_callersOf_31 cb_iconst_0 ?_
    refine cv_istore_n (lv' := [(3, .int 0), (2, .int 0), (0, .ref (G.1 10)), (1, .int l1)]) hC dX9_callersOf_32 rfl (by decide) rfl ?_
    exact cv_sub [2, 3, 1, 0] rfl (J_X9_callersOf_b33 hC 1000 l1 0 0 s4)
  · refine cv_iconst (v := 0) hC dX9_callersOf_23 cb_iconst_0 ?_
    exact cv_iret hC dX9_callersOf_24
set_option maxRecDepth 20000 in
set_option maxHeartbeats 2000000 in
theorem J_X9_callersOf {X : cv_X} {G : cv_G} {LL : Launch} (hC : cv_C X G LL RX9 cX9_callersOf 4 (some .int) { frames := 6, cells := 0, slots := 0, locals := 139 }) (l1 : Int32) (σ : cv_St) : cv_J X G 4 0 0 (cv_QI X G) 0 [(0, .ref (G.1 10)), (1, .int l1)] [] σ (F_X9_callersOf l1 σ) := by
  unfold F_X9_callersOf
  refine cv_aload_n hC 0 dX9_callersOf_0 rfl rfl ?_
  refine cv_iload_n hC 1 dX9_callersOf_1 rfl rfl ?_
  refine cv_callSi hC [.int l1] [.ref (G.1 10)] (M_X9_isFunction LL G l1 σ) ln_X9_93 vm_X9_isFunction rfl rfl (Nat.le_of_ble_eq_true rfl) ⟨Nat.le_of_ble_eq_true rfl, Nat.le_of_ble_eq_true rfl⟩ ⟨Nat.le_of_ble_eq_true rfl, Nat.le_of_ble_eq_true rfl⟩ dX9_callersOf_2 (fun v2 s1 => ?_)
  refine cv_if_eq (tgt := 12) hC dX9_callersOf_5 (by decide) ?_ ?_
  · refine cv_iconst (v := 1) hC dX9_callersOf_12 cb_iconst_1 ?_
    exact cv_sub [0, 1] rfl (J_X9_callersOf_b13 hC l1 1 s1)
  · refine cv_iconst (v := 0) hC dX9_callersOf_8 cb_iconst_0 ?_
    refine cv_goto (tgt := 13) hC dX9_callersOf_9 (by decide) ?_
    exact cv_sub [0, 1] rfl (J_X9_callersOf_b13 hC l1 0 s1)
set_option maxRecDepth 20000 in
set_option maxHeartbeats 2000000 in
theorem M_X9_callersOf (LL : Launch) (G : cv_G) (l1 : Int32) (σ : cv_St) : cv_MI LL G yX9_callersOf cX9_callersOf 4 (some .int) 6 139 [.ref (G.1 10), .int l1] σ (F_X9_callersOf l1 σ) :=
  cv_mkI (by decide) (Nat.le_of_ble_eq_true rfl) (fun X hC => J_X9_callersOf hC l1 σ)
/-! X9_isRecursive -/
set_option maxRecDepth 20000 in
set_option maxHeartbeats 2000000 in
theorem J_X9_isRecursive_b74 {X : cv_X} {G : cv_G} {LL : Launch} (hC : cv_C X G LL RX9 cX9_isRecursive 5 (some .boolean) { frames := 6, cells := 0, slots := 0, locals := 139 }) (k37 : Int32 → Int32 → Int32 → cv_St → Option (Int32 × cv_St)) (hk37 : ∀ (l1 : Int32) (l2 : Int32) (l3 : Int32)  σ, cv_J X G 5 0 0 (cv_QI X G) 37 [(0, .ref (G.1 10)), (1, .int l1), (2, .int l2), (3, .int l3)] [] σ (k37 l1 l2 l3 σ)) (k46 : Int32 → Int32 → Int32 → Int32 → cv_St → Option (Int32 × cv_St)) (hk46 : ∀ (l1 : Int32) (l2 : Int32) (l3 : Int32) (l4 : Int32)  σ, cv_J X G 5 0 0 (cv_QI X G) 46 [(0, .ref (G.1 10)), (1, .int l1), (2, .int l2), (3, .int l3), (4, .int l4)] [] σ (k46 l1 l2 l3 l4 σ)) (l1 : Int32) (l3 : Int32) (l4 : Int32) (t0 : Int32) (t1 : Int32) (σ : cv_St) : cv_J X G 5 0 0 (cv_QI X G) 74 [(0, .ref (G.1 10)), (1, .int l1), (3, .int l3), (4, .int l4)] [.int t0, .int t1] σ (F_X9_isRecursive_b74 k37 k46 l1 l3 l4 t0 t1 σ) := by
  unfold F_X9_isRecursive_b74
  refine cv_ior hC dX9_isRecursive_74 ?_
  refine cv_istore_n (lv' := [(2, .int (t1 ||| t0)), (0, .ref (G.1 10)), (1, .int l1), (3, .int l3), (4, .int l4)]) hC dX9_isRecursive_75 rfl (by decide) rfl ?_
  refine cv_iinc (lv' := [(4, .int (l4 + Int32.ofInt 1)), (2, .int (t1 ||| t0)), (0, .ref (G.1 10)), (1, .int l1), (3, .int l3)]) hC 4 dX9_isRecursive_76 rfl (by decide) rfl ?_
  refine cv_goto (tgt := 46) hC dX9_isRecursive_79 (by decide) ?_
  exact cv_sub [2, 3, 1, 4, 0] rfl (hk46 l1 (t1 ||| t0) l3 (l4 + Int32.ofInt 1) σ)
set_option maxRecDepth 20000 in
set_option maxHeartbeats 2000000 in
theorem I_X9_isRecursive_b46 {X : cv_X} {G : cv_G} {LL : Launch} (hC : cv_C X G LL RX9 cX9_isRecursive 5 (some .boolean) { frames := 6, cells := 0, slots := 0, locals := 139 }) (k37 : Int32 → Int32 → Int32 → cv_St → Option (Int32 × cv_St)) (hk37 : ∀ (l1 : Int32) (l2 : Int32) (l3 : Int32)  σ, cv_J X G 5 0 0 (cv_QI X G) 37 [(0, .ref (G.1 10)), (1, .int l1), (2, .int l2), (3, .int l3)] [] σ (k37 l1 l2 l3 σ)) (k46 : Int32 → Int32 → Int32 → Int32 → cv_St → Option (Int32 × cv_St)) (hk46 : ∀ (l1 : Int32) (l2 : Int32) (l3 : Int32) (l4 : Int32)  σ, cv_J X G 5 0 0 (cv_QI X G) 46 [(0, .ref (G.1 10)), (1, .int l1), (2, .int l2), (3, .int l3), (4, .int l4)] [] σ (k46 l1 l2 l3 l4 σ)) (l1 : Int32) (l2 : Int32) (l3 : Int32) (l4 : Int32) (σ : cv_St) : cv_J X G 5 0 0 (cv_QI X G) 46 [(0, .ref (G.1 10)), (1, .int l1), (2, .int l2), (3, .int l3), (4, .int l4)] [] σ (B_X9_isRecursive_b46 k37 k46 l1 l2 l3 l4 σ) := by
  unfold B_X9_isRecursive_b46
  refine cv_iload hC 4 dX9_isRecursive_46 rfl ?_
  refine cv_bipush (v := 8) hC dX9_isRecursive_48 cb_bipush_8 ?_
  refine cv_icmp_ge (tgt := 82) hC dX9_isRecursive_50 (by decide) ?_ ?_
  · refine cv_iinc (lv' := [(3, .int (l3 + Int32.ofInt 1)), (0, .ref (G.1 10)), (1, .int l1), (2, .int l2), (4, .int l4)]) hC 3 dX9_isRecursive_82 rfl (by decide) rfl ?_
    refine cv_goto (tgt := 37) hC dX9_isRecursive_85 (by decide) ?_
    exact cv_sub [1, 2, 3, 0] rfl (hk37 l1 l2 (l3 + Int32.ofInt 1) σ)
  · refine cv_iload_n hC 2 dX9_isRecursive_53 rfl rfl ?_
    refine cv_iload_n hC 2 dX9_isRecursive_54 rfl rfl ?_
    refine cv_iload hC 4 dX9_isRecursive_55 rfl ?_
    refine cv_ishr hC dX9_isRecursive_57 ?_
    refine cv_iconst (v := 1) hC dX9_isRecursive_58 cb_iconst_1 ?_
    refine cv_iand hC dX9_isRecursive_59 ?_
    refine cv_iconst (v := 1) hC dX9_isRecursive_60 cb_iconst_1 ?_
    refine cv_icmp_ne (tgt := 73) hC dX9_isRecursive_61 (by decide) ?_ ?_
    · refine cv_iconst (v := 0) hC dX9_isRecursive_73 cb_iconst_0 ?_
      exact cv_sub [0, 1, 3, 4] rfl (J_X9_isRecursive_b74 hC k37 hk37 k46 hk46 l1 l3 l4 0 l2 σ)
    · refine cv_aload_n hC 0 dX9_isRecursive_64 rfl rfl ?_
      refine cv_iload hC 4 dX9_isRecursive_65 rfl ?_
      refine cv_callVi (ob := 10) hC [.int l4] [.int l2] (M_X9_calleesOf LL G l4 σ) ln_X9_247 vm_X9_calleesOf (ob_10 G) rfl rfl (Nat.le_of_ble_eq_true rfl) ⟨Nat.le_of_ble_eq_true rfl, Nat.le_of_ble_eq_true rfl⟩ ⟨Nat.le_of_ble_eq_true rfl, Nat.le_of_ble_eq_true rfl⟩ dX9_isRecursive_67 (fun v8 s7 => ?_)
      refine cv_goto (tgt := 74) hC dX9_isRecursive_70 (by decide) ?_
      exact cv_sub [0, 1, 3, 4] rfl (J_X9_isRecursive_b74 hC k37 hk37 k46 hk46 l1 l3 l4 v8 l2 s7)
set_option maxRecDepth 20000 in
set_option maxHeartbeats 2000000 in
theorem J_X9_isRecursive_b46 {X : cv_X} {G : cv_G} {LL : Launch} (hC : cv_C X G LL RX9 cX9_isRecursive 5 (some .boolean) { frames := 6, cells := 0, slots := 0, locals := 139 }) (k37 : Int32 → Int32 → Int32 → cv_St → Option (Int32 × cv_St)) (hk37 : ∀ (l1 : Int32) (l2 : Int32) (l3 : Int32)  σ, cv_J X G 5 0 0 (cv_QI X G) 37 [(0, .ref (G.1 10)), (1, .int l1), (2, .int l2), (3, .int l3)] [] σ (k37 l1 l2 l3 σ)) : ∀ (n : Nat) (l1 : Int32) (l2 : Int32) (l3 : Int32) (l4 : Int32) (σ : cv_St), cv_J X G 5 0 0 (cv_QI X G) 46 [(0, .ref (G.1 10)), (1, .int l1), (2, .int l2), (3, .int l3), (4, .int l4)] [] σ (F_X9_isRecursive_b46 k37 n l1 l2 l3 l4 σ) := by
  intro n
  induction n with
  | zero => intro l1 l2 l3 l4 σ; exact cv_none
  | succ n ih => intro l1 l2 l3 l4 σ; exact I_X9_isRecursive_b46 hC k37 hk37 _ ih l1 l2 l3 l4 σ
set_option maxRecDepth 20000 in
set_option maxHeartbeats 2000000 in
theorem I_X9_isRecursive_b37 {X : cv_X} {G : cv_G} {LL : Launch} (hC : cv_C X G LL RX9 cX9_isRecursive 5 (some .boolean) { frames := 6, cells := 0, slots := 0, locals := 139 }) (k37 : Int32 → Int32 → Int32 → cv_St → Option (Int32 × cv_St)) (hk37 : ∀ (l1 : Int32) (l2 : Int32) (l3 : Int32)  σ, cv_J X G 5 0 0 (cv_QI X G) 37 [(0, .ref (G.1 10)), (1, .int l1), (2, .int l2), (3, .int l3)] [] σ (k37 l1 l2 l3 σ)) (l1 : Int32) (l2 : Int32) (l3 : Int32) (σ : cv_St) : cv_J X G 5 0 0 (cv_QI X G) 37 [(0, .ref (G.1 10)), (1, .int l1), (2, .int l2), (3, .int l3)] [] σ (B_X9_isRecursive_b37 k37 l1 l2 l3 σ) := by
  unfold B_X9_isRecursive_b37
  refine cv_iload_n hC 3 dX9_isRecursive_37 rfl rfl ?_
  refine cv_bipush (v := 8) hC dX9_isRecursive_38 cb_bipush_8 ?_
  refine cv_icmp_ge (tgt := 88) hC dX9_isRecursive_40 (by decide) ?_ ?_
  · refine cv_iload_n hC 2 dX9_isRecursive_88 rfl rfl ?_
    refine cv_iload_n hC 1 dX9_isRecursive_89 rfl rfl ?_
    refine cv_ishr hC dX9_isRecursive_90 ?_
    refine cv_iconst (v := 1) hC dX9_isRecursive_91 cb_iconst_1 ?_
    refine cv_iand hC dX9_isRecursive_92 ?_
    refine cv_iconst (v := 1) hC dX9_isRecursive_93 cb_iconst_1 ?_
    refine cv_icmp_ne (tgt := 101) hC dX9_isRecursive_94 (by decide) ?_ ?_
    · refine cv_iconst (v := 0) hC dX9_isRecursive_101 cb_iconst_0 ?_
      exact cv_zret hC dX9_isRecursive_102
    · refine cv_iconst (v := 1) hC dX9_isRecursive_97 cb_iconst_1 ?_
      refine cv_goto (tgt := 102) hC dX9_isRecursive_98 (by decide) ?_
      exact cv_zret hC dX9_isRecursive_102
  · refine cv_iconst (v := 0) hC dX9_isRecursive_43 cb_iconst_0 ?_
    refine cv_istore (lv' := [(4, .int 0), (0, .ref (G.1 10)), (1, .int l1), (2, .int l2), (3, .int l3)]) hC dX9_isRecursive_44 (by decide) rfl ?_
    exact cv_sub [1, 2, 3, 4, 0] rfl (J_X9_isRecursive_b46 hC k37 hk37 1000 l1 l2 l3 0 σ)
set_option maxRecDepth 20000 in
set_option maxHeartbeats 2000000 in
theorem J_X9_isRecursive_b37 {X : cv_X} {G : cv_G} {LL : Launch} (hC : cv_C X G LL RX9 cX9_isRecursive 5 (some .boolean) { frames := 6, cells := 0, slots := 0, locals := 139 }) : ∀ (n : Nat) (l1 : Int32) (l2 : Int32) (l3 : Int32) (σ : cv_St), cv_J X G 5 0 0 (cv_QI X G) 37 [(0, .ref (G.1 10)), (1, .int l1), (2, .int l2), (3, .int l3)] [] σ (F_X9_isRecursive_b37 n l1 l2 l3 σ) := by
  intro n
  induction n with
  | zero => intro l1 l2 l3 σ; exact cv_none
  | succ n ih => intro l1 l2 l3 σ; exact I_X9_isRecursive_b37 hC _ ih l1 l2 l3 σ
set_option maxRecDepth 20000 in
set_option maxHeartbeats 2000000 in
theorem J_X9_isRecursive_b13 {X : cv_X} {G : cv_G} {LL : Launch} (hC : cv_C X G LL RX9 cX9_isRecursive 5 (some .boolean) { frames := 6, cells := 0, slots := 0, locals := 139 }) (l1 : Int32) (t0 : Int32) (σ : cv_St) : cv_J X G 5 0 0 (cv_QI X G) 13 [(0, .ref (G.1 10)), (1, .int l1)] [.int t0, .ref (G.1 10)] σ (F_X9_isRecursive_b13 l1 t0 σ) := by
  unfold F_X9_isRecursive_b13
  refine cv_puti hC (fp_X9_84_10 G) dX9_isRecursive_13 (fun s3 => ?_)
  refine cv_aload_n hC 0 dX9_isRecursive_16 rfl rfl ?_
  refine cv_geti hC (fg_X9_84_10 G) dX9_isRecursive_17 ?_
  refine cv_if_le (tgt := 25) hC dX9_isRecursive_20 (by decide) ?_ ?_
  · refine cv_aload_n hC 0 dX9_isRecursive_25 rfl rfl ?_
    refine cv_callVv (ob := 10) hC [] [] (M_X9_infer LL G s3) ln_X9_231 vm_X9_infer (ob_10 G) rfl rfl (Nat.le_of_ble_eq_true rfl) ⟨Nat.le_of_ble_eq_true rfl, Nat.le_of_ble_eq_true rfl⟩ ⟨Nat.le_of_ble_eq_true rfl, Nat.le_of_ble_eq_true rfl⟩ dX9_isRecursive_26 (fun s4 => ?_)
    refine cv_aload_n hC 0 dX9_isRecursive_29 rfl rfl ?_
    refine cv_iload_n hC 1 dX9_isRecursive_30 rfl rfl ?_
    refine cv_callVi (ob := 10) hC [.int l1] [] (M_X9_calleesOf LL G l1 s4) ln_X9_247 vm_X9_calleesOf (ob_10 G) rfl rfl (Nat.le_of_ble_eq_true rfl) ⟨Nat.le_of_ble_eq_true rfl, Nat.le_of_ble_eq_true rfl⟩ ⟨Nat.le_of_ble_eq_true rfl, Nat.le_of_ble_eq_true rfl⟩ dX9_isRecursive_31 (fun v6 s5 => ?_)
    refine cv_istore_n (lv' := [(2, .int v6), (0, .ref (G.1 10)), (1, .int l1)]) hC dX9_isRecursive_34 rfl (by decide) rfl ?_
    refine cv_iconst (v := 0) hC dX9_isRecursive_35 cb_iconst_0 ?_
    refine cv_istore_n (lv' := [(3, .int 0), (2, .int v6), (0, .ref (G.1 10)), (1, .int l1)]) hC dX9_isRecursive_36 rfl (by decide) rfl ?_
    exact cv_sub [2, 3, 1, 0] rfl (J_X9_isRecursive_b37 hC 1000 l1 v6 0 s5)
  · refine cv_iconst (v := 0) hC dX9_isRecursive_23 cb_iconst_0 ?_
    exact cv_zret hC dX9_isRecursive_24
set_option maxRecDepth 20000 in
set_option maxHeartbeats 2000000 in
theorem J_X9_isRecursive {X : cv_X} {G : cv_G} {LL : Launch} (hC : cv_C X G LL RX9 cX9_isRecursive 5 (some .boolean) { frames := 6, cells := 0, slots := 0, locals := 139 }) (l1 : Int32) (σ : cv_St) : cv_J X G 5 0 0 (cv_QI X G) 0 [(0, .ref (G.1 10)), (1, .int l1)] [] σ (F_X9_isRecursive l1 σ) := by
  unfold F_X9_isRecursive
  refine cv_aload_n hC 0 dX9_isRecursive_0 rfl rfl ?_
  refine cv_iload_n hC 1 dX9_isRecursive_1 rfl rfl ?_
  refine cv_callSi hC [.int l1] [.ref (G.1 10)] (M_X9_isFunction LL G l1 σ) ln_X9_93 vm_X9_isFunction rfl rfl (Nat.le_of_ble_eq_true rfl) ⟨Nat.le_of_ble_eq_true rfl, Nat.le_of_ble_eq_true rfl⟩ ⟨Nat.le_of_ble_eq_true rfl, Nat.le_of_ble_eq_true rfl⟩ dX9_isRecursive_2 (fun v2 s1 => ?_)
  refine cv_if_eq (tgt := 12) hC dX9_isRecursive_5 (by decide) ?_ ?_
  · refine cv_iconst (v := 1) hC dX9_isRecursive_12 cb_iconst_1 ?_
    exact cv_sub [0, 1] rfl (J_X9_isRecursive_b13 hC l1 1 s1)
  · refine cv_iconst (v := 0) hC dX9_isRecursive_8 cb_iconst_0 ?_
    refine cv_goto (tgt := 13) hC dX9_isRecursive_9 (by decide) ?_
    exact cv_sub [0, 1] rfl (J_X9_isRecursive_b13 hC l1 0 s1)
set_option maxRecDepth 20000 in
set_option maxHeartbeats 2000000 in
theorem M_X9_isRecursive (LL : Launch) (G : cv_G) (l1 : Int32) (σ : cv_St) : cv_MI LL G yX9_isRecursive cX9_isRecursive 5 (some .boolean) 6 139 [.ref (G.1 10), .int l1] σ (F_X9_isRecursive l1 σ) :=
  cv_mkI (by decide) (Nat.le_of_ble_eq_true rfl) (fun X hC => J_X9_isRecursive hC l1 σ)
/-! X9_siteCount -/
set_option maxRecDepth 20000 in
set_option maxHeartbeats 2000000 in
theorem J_X9_siteCount {X : cv_X} {G : cv_G} {LL : Launch} (hC : cv_C X G LL RX9 cX9_siteCount 1 (some .int) { frames := 6, cells := 0, slots := 0, locals := 139 }) (σ : cv_St) : cv_J X G 1 0 0 (cv_QI X G) 0 [(0, .ref (G.1 10))] [] σ (F_X9_siteCount σ) := by
  unfold F_X9_siteCount
  refine cv_aload_n hC 0 dX9_siteCount_0 rfl rfl ?_
  refine cv_iconst (v := 0) hC dX9_siteCount_1 cb_iconst_0 ?_
  refine cv_puti hC (fp_X9_84_10 G) dX9_siteCount_2 (fun s1 => ?_)
  refine cv_aload_n hC 0 dX9_siteCount_5 rfl rfl ?_
  refine cv_callVv (ob := 10) hC [] [] (M_X9_infer LL G s1) ln_X9_231 vm_X9_infer (ob_10 G) rfl rfl (Nat.le_of_ble_eq_true rfl) ⟨Nat.le_of_ble_eq_true rfl, Nat.le_of_ble_eq_true rfl⟩ ⟨Nat.le_of_ble_eq_true rfl, Nat.le_of_ble_eq_true rfl⟩ dX9_siteCount_6 (fun s2 => ?_)
  refine cv_aload_n hC 0 dX9_siteCount_9 rfl rfl ?_
  refine cv_geti hC (fg_X9_201_10 G) dX9_siteCount_10 ?_
  exact cv_iret hC dX9_siteCount_13
set_option maxRecDepth 20000 in
set_option maxHeartbeats 2000000 in
theorem M_X9_siteCount (LL : Launch) (G : cv_G) (σ : cv_St) : cv_MI LL G yX9_siteCount cX9_siteCount 1 (some .int) 6 139 [.ref (G.1 10)] σ (F_X9_siteCount σ) :=
  cv_mkI (by decide) (Nat.le_of_ble_eq_true rfl) (fun X hC => J_X9_siteCount hC σ)
/-! X9_isSite -/
set_option maxRecDepth 20000 in
set_option maxHeartbeats 2000000 in
theorem J_X9_isSite {X : cv_X} {G : cv_G} {LL : Launch} (hC : cv_C X G LL RX9 cX9_isSite 2 (some .boolean) { frames := 6, cells := 0, slots := 0, locals := 139 }) (l1 : Int32) (σ : cv_St) : cv_J X G 2 0 0 (cv_QI X G) 0 [(0, .ref (G.1 10)), (1, .int l1)] [] σ (F_X9_isSite l1 σ) := by
  unfold F_X9_isSite
  refine cv_aload_n hC 0 dX9_isSite_0 rfl rfl ?_
  refine cv_callVv (ob := 10) hC [] [] (M_X9_infer LL G σ) ln_X9_231 vm_X9_infer (ob_10 G) rfl rfl (Nat.le_of_ble_eq_true rfl) ⟨Nat.le_of_ble_eq_true rfl, Nat.le_of_ble_eq_true rfl⟩ ⟨Nat.le_of_ble_eq_true rfl, Nat.le_of_ble_eq_true rfl⟩ dX9_isSite_1 (fun s1 => ?_)
  refine cv_iload_n hC 1 dX9_isSite_4 rfl rfl ?_
  refine cv_i2l hC dX9_isSite_5 ?_
  refine cv_lconst (v := 0) hC dX9_isSite_6 rfl ?_
  refine cv_aload_n hC 0 dX9_isSite_7 rfl rfl ?_
  refine cv_geti hC (fg_X9_201_10 G) dX9_isSite_8 ?_
  refine cv_iconst (v := 1) hC dX9_isSite_11 cb_iconst_1 ?_
  refine cv_isub hC dX9_isSite_12 ?_
  refine cv_i2l hC dX9_isSite_13 ?_
  refine cv_callSi hC [.long l1.toInt64, .long 0, .long (((s1.2.1 21) - 1).toInt64)] [] (M_X9_in LL G l1.toInt64 0 (((s1.2.1 21) - 1).toInt64) s1) ln_X9_89 vm_X9_in rfl rfl (Nat.le_of_ble_eq_true rfl) ⟨Nat.le_of_ble_eq_true rfl, Nat.le_of_ble_eq_true rfl⟩ ⟨Nat.le_of_ble_eq_true rfl, Nat.le_of_ble_eq_true rfl⟩ dX9_isSite_14 (fun v3 s2 => ?_)
  exact cv_zret hC dX9_isSite_17
set_option maxRecDepth 20000 in
set_option maxHeartbeats 2000000 in
theorem M_X9_isSite (LL : Launch) (G : cv_G) (l1 : Int32) (σ : cv_St) : cv_MI LL G yX9_isSite cX9_isSite 2 (some .boolean) 6 139 [.ref (G.1 10), .int l1] σ (F_X9_isSite l1 σ) :=
  cv_mkI (by decide) (Nat.le_of_ble_eq_true rfl) (fun X hC => J_X9_isSite hC l1 σ)
/-! X9_site -/
set_option maxRecDepth 20000 in
set_option maxHeartbeats 2000000 in
theorem J_X9_site_b30 {X : cv_X} {G : cv_G} {LL : Launch} (hC : cv_C X G LL RX9 cX9_site 3 (some .int) { frames := 7, cells := 0, slots := 0, locals := 160 }) (l1 : Int32) (l2 : Int32) (t0 : Int32) (σ : cv_St) : cv_J X G 3 0 0 (cv_QI X G) 30 [(0, .ref (G.1 10)), (1, .int l1), (2, .int l2)] [.int t0, .ref (G.1 10)] σ (F_X9_site_b30 l1 l2 t0 σ) := by
  unfold F_X9_site_b30
  refine cv_puti hC (fp_X9_84_10 G) dX9_site_30 (fun s5 => ?_)
  refine cv_aload_n hC 0 dX9_site_33 rfl rfl ?_
  refine cv_geti hC (fg_X9_84_10 G) dX9_site_34 ?_
  refine cv_if_le (tgt := 42) hC dX9_site_37 (by decide) ?_ ?_
  · refine cv_iload_n hC 2 dX9_site_42 rfl rfl ?_
    refine cv_if_ne (tgt := 55) hC dX9_site_43 (by decide) ?_ ?_
    · refine cv_iload_n hC 2 dX9_site_55 rfl rfl ?_
      refine cv_iconst (v := 1) hC dX9_site_56 cb_iconst_1 ?_
      refine cv_icmp_ne (tgt := 69) hC dX9_site_57 (by decide) ?_ ?_
      · refine cv_aload_n hC 0 dX9_site_69 rfl rfl ?_
        refine cv_iload_n hC 1 dX9_site_70 rfl rfl ?_
        refine cv_callVi (ob := 10) hC [.int l1] [] (M_X9_calleeOf LL G l1 s5) ln_X9_204 vm_X9_calleeOf (ob_10 G) rfl rfl (Nat.le_of_ble_eq_true rfl) ⟨Nat.le_of_ble_eq_true rfl, Nat.le_of_ble_eq_true rfl⟩ ⟨Nat.le_of_ble_eq_true rfl, Nat.le_of_ble_eq_true rfl⟩ dX9_site_71 (fun v7 s6 => ?_)
        exact cv_iret hC dX9_site_74
      · refine cv_aload_n hC 0 dX9_site_60 rfl rfl ?_
        refine cv_getr hC (fg_X9_72_10 G) dX9_site_61 ?_
        refine cv_iload_n hC 1 dX9_site_64 rfl rfl ?_
        refine cv_iald hC (cv_a62 G) dX9_site_65 (fun v8 => ?_)
        refine cv_goto (tgt := 74) hC dX9_site_66 (by decide) ?_
        exact cv_iret hC dX9_site_74
    · refine cv_aload_n hC 0 dX9_site_46 rfl rfl ?_
      refine cv_getr hC (fg_X9_69_10 G) dX9_site_47 ?_
      refine cv_iload_n hC 1 dX9_site_50 rfl rfl ?_
      refine cv_iald hC (cv_a61 G) dX9_site_51 (fun v9 => ?_)
      refine cv_goto (tgt := 74) hC dX9_site_52 (by decide) ?_
      exact cv_iret hC dX9_site_74
  · refine cv_iconst (v := 0) hC dX9_site_40 cb_iconst_0 ?_
    exact cv_iret hC dX9_site_41
set_option maxRecDepth 20000 in
set_option maxHeartbeats 2000000 in
theorem J_X9_site {X : cv_X} {G : cv_G} {LL : Launch} (hC : cv_C X G LL RX9 cX9_site 3 (some .int) { frames := 7, cells := 0, slots := 0, locals := 160 }) (l1 : Int32) (l2 : Int32) (σ : cv_St) : cv_J X G 3 0 0 (cv_QI X G) 0 [(0, .ref (G.1 10)), (1, .int l1), (2, .int l2)] [] σ (F_X9_site l1 l2 σ) := by
  unfold F_X9_site
  refine cv_aload_n hC 0 dX9_site_0 rfl rfl ?_
  refine cv_aload_n hC 0 dX9_site_1 rfl rfl ?_
  refine cv_iload_n hC 1 dX9_site_2 rfl rfl ?_
  refine cv_callVi (ob := 10) hC [.int l1] [.ref (G.1 10)] (M_X9_isSite LL G l1 σ) ln_X9_250 vm_X9_isSite (ob_10 G) rfl rfl (Nat.le_of_ble_eq_true rfl) ⟨Nat.le_of_ble_eq_true rfl, Nat.le_of_ble_eq_true rfl⟩ ⟨Nat.le_of_ble_eq_true rfl, Nat.le_of_ble_eq_true rfl⟩ dX9_site_3 (fun v2 s1 => ?_)
  refine cv_if_ne (tgt := 13) hC dX9_site_6 (by decide) ?_ ?_
  · refine cv_iload_n hC 2 dX9_site_13 rfl rfl ?_
    refine cv_i2l hC dX9_site_14 ?_
    refine cv_lconst (v := 0) hC dX9_site_15 rfl ?_
    refine cv_ldc2 hC lc_X9_253 dX9_site_16 ?_
    refine cv_callSi hC [.long l2.toInt64, .long 0, .long 2] [.ref (G.1 10)] (M_X9_in LL G l2.toInt64 0 2 s1) ln_X9_89 vm_X9_in rfl rfl (Nat.le_of_ble_eq_true rfl) ⟨Nat.le_of_ble_eq_true rfl, Nat.le_of_ble_eq_true rfl⟩ ⟨Nat.le_of_ble_eq_true rfl, Nat.le_of_ble_eq_true rfl⟩ dX9_site_19 (fun v4 s3 => ?_)
    refine cv_if_ne (tgt := 29) hC dX9_site_22 (by decide) ?_ ?_
    · refine cv_iconst (v := 0) hC dX9_site_29 cb_iconst_0 ?_
      exact cv_sub [0, 1, 2] rfl (J_X9_site_b30 hC l1 l2 0 s3)
    · refine cv_iconst (v := 2) hC dX9_site_25 cb_iconst_2 ?_
      refine cv_goto (tgt := 30) hC dX9_site_26 (by decide) ?_
      exact cv_sub [0, 1, 2] rfl (J_X9_site_b30 hC l1 l2 2 s3)
  · refine cv_iconst (v := 1) hC dX9_site_9 cb_iconst_1 ?_
    refine cv_goto (tgt := 30) hC dX9_site_10 (by decide) ?_
    exact cv_sub [0, 1, 2] rfl (J_X9_site_b30 hC l1 l2 1 s1)
set_option maxRecDepth 20000 in
set_option maxHeartbeats 2000000 in
theorem M_X9_site (LL : Launch) (G : cv_G) (l1 : Int32) (l2 : Int32) (σ : cv_St) : cv_MI LL G yX9_site cX9_site 3 (some .int) 7 160 [.ref (G.1 10), .int l1, .int l2] σ (F_X9_site l1 l2 σ) :=
  cv_mkI (by decide) (Nat.le_of_ble_eq_true rfl) (fun X hC => J_X9_site hC l1 l2 σ)
/-! X9_passedSlots -/
set_option maxRecDepth 20000 in
set_option maxHeartbeats 2000000 in
theorem J_X9_passedSlots_b14 {X : cv_X} {G : cv_G} {LL : Launch} (hC : cv_C X G LL RX9 cX9_passedSlots 2 (some .int) { frames := 7, cells := 0, slots := 0, locals := 160 }) (l1 : Int32) (t0 : Int32) (σ : cv_St) : cv_J X G 2 0 0 (cv_QI X G) 14 [(0, .ref (G.1 10)), (1, .int l1)] [.int t0, .ref (G.1 10)] σ (F_X9_passedSlots_b14 l1 t0 σ) := by
  unfold F_X9_passedSlots_b14
  refine cv_puti hC (fp_X9_84_10 G) dX9_passedSlots_14 (fun s3 => ?_)
  refine cv_aload_n hC 0 dX9_passedSlots_17 rfl rfl ?_
  refine cv_geti hC (fg_X9_84_10 G) dX9_passedSlots_18 ?_
  refine cv_if_le (tgt := 28) hC dX9_passedSlots_21 (by decide) ?_ ?_
  · refine cv_aload_n hC 0 dX9_passedSlots_28 rfl rfl ?_
    refine cv_iload_n hC 1 dX9_passedSlots_29 rfl rfl ?_
    refine cv_callVi (ob := 10) hC [.int l1] [] (M_X9_passedAt LL G l1 s3) ln_X9_244 vm_X9_passedAt (ob_10 G) rfl rfl (Nat.le_of_ble_eq_true rfl) ⟨Nat.le_of_ble_eq_true rfl, Nat.le_of_ble_eq_true rfl⟩ ⟨Nat.le_of_ble_eq_true rfl, Nat.le_of_ble_eq_true rfl⟩ dX9_passedSlots_30 (fun v5 s4 => ?_)
    exact cv_iret hC dX9_passedSlots_33
  · refine cv_iconst (v := 0) hC dX9_passedSlots_24 cb_iconst_0 ?_
    refine cv_goto (tgt := 33) hC dX9_passedSlots_25 (by decide) ?_
    exact cv_iret hC dX9_passedSlots_33
set_option maxRecDepth 20000 in
set_option maxHeartbeats 2000000 in
theorem J_X9_passedSlots {X : cv_X} {G : cv_G} {LL : Launch} (hC : cv_C X G LL RX9 cX9_passedSlots 2 (some .int) { frames := 7, cells := 0, slots := 0, locals := 160 }) (l1 : Int32) (σ : cv_St) : cv_J X G 2 0 0 (cv_QI X G) 0 [(0, .ref (G.1 10)), (1, .int l1)] [] σ (F_X9_passedSlots l1 σ) := by
  unfold F_X9_passedSlots
  refine cv_aload_n hC 0 dX9_passedSlots_0 rfl rfl ?_
  refine cv_aload_n hC 0 dX9_passedSlots_1 rfl rfl ?_
  refine cv_iload_n hC 1 dX9_passedSlots_2 rfl rfl ?_
  refine cv_callVi (ob := 10) hC [.int l1] [.ref (G.1 10)] (M_X9_isSite LL G l1 σ) ln_X9_250 vm_X9_isSite (ob_10 G) rfl rfl (Nat.le_of_ble_eq_true rfl) ⟨Nat.le_of_ble_eq_true rfl, Nat.le_of_ble_eq_true rfl⟩ ⟨Nat.le_of_ble_eq_true rfl, Nat.le_of_ble_eq_true rfl⟩ dX9_passedSlots_3 (fun v2 s1 => ?_)
  refine cv_if_eq (tgt := 13) hC dX9_passedSlots_6 (by decide) ?_ ?_
  · refine cv_iconst (v := 1) hC dX9_passedSlots_13 cb_iconst_1 ?_
    exact cv_sub [0, 1] rfl (J_X9_passedSlots_b14 hC l1 1 s1)
  · refine cv_iconst (v := 0) hC dX9_passedSlots_9 cb_iconst_0 ?_
    refine cv_goto (tgt := 14) hC dX9_passedSlots_10 (by decide) ?_
    exact cv_sub [0, 1] rfl (J_X9_passedSlots_b14 hC l1 0 s1)
set_option maxRecDepth 20000 in
set_option maxHeartbeats 2000000 in
theorem M_X9_passedSlots (LL : Launch) (G : cv_G) (l1 : Int32) (σ : cv_St) : cv_MI LL G yX9_passedSlots cX9_passedSlots 2 (some .int) 7 160 [.ref (G.1 10), .int l1] σ (F_X9_passedSlots l1 σ) :=
  cv_mkI (by decide) (Nat.le_of_ble_eq_true rfl) (fun X hC => J_X9_passedSlots hC l1 σ)
/-! X9_missingAt -/
set_option maxRecDepth 20000 in
set_option maxHeartbeats 2000000 in
theorem J_X9_missingAt {X : cv_X} {G : cv_G} {LL : Launch} (hC : cv_C X G LL RX9 cX9_missingAt 2 (some .int) { frames := 2, cells := 0, slots := 0, locals := 45 }) (l1 : Int32) (σ : cv_St) : cv_J X G 2 0 0 (cv_QI X G) 0 [(0, .ref (G.1 10)), (1, .int l1)] [] σ (F_X9_missingAt l1 σ) := by
  unfold F_X9_missingAt
  refine cv_iconst (v := 1) hC dX9_missingAt_0 cb_iconst_1 ?_
  refine cv_aload_n hC 0 dX9_missingAt_1 rfl rfl ?_
  refine cv_aload_n hC 0 dX9_missingAt_2 rfl rfl ?_
  refine cv_iload_n hC 1 dX9_missingAt_3 rfl rfl ?_
  refine cv_callVi (ob := 10) hC [.int l1] [.ref (G.1 10), .int 1] (M_X9_calleeOf LL G l1 σ) ln_X9_204 vm_X9_calleeOf (ob_10 G) rfl rfl (Nat.le_of_ble_eq_true rfl) ⟨Nat.le_of_ble_eq_true rfl, Nat.le_of_ble_eq_true rfl⟩ ⟨Nat.le_of_ble_eq_true rfl, Nat.le_of_ble_eq_true rfl⟩ dX9_missingAt_4 (fun v2 s1 => ?_)
  refine cv_callVi (ob := 10) hC [.int v2] [.int 1] (M_X9_neededBy LL G v2 s1) ln_X9_241 vm_X9_neededBy (ob_10 G) rfl rfl (Nat.le_of_ble_eq_true rfl) ⟨Nat.le_of_ble_eq_true rfl, Nat.le_of_ble_eq_true rfl⟩ ⟨Nat.le_of_ble_eq_true rfl, Nat.le_of_ble_eq_true rfl⟩ dX9_missingAt_7 (fun v4 s3 => ?_)
  refine cv_ishl hC dX9_missingAt_10 ?_
  refine cv_iconst (v := 1) hC dX9_missingAt_11 cb_iconst_1 ?_
  refine cv_isub hC dX9_missingAt_12 ?_
  refine cv_aload_n hC 0 dX9_missingAt_13 rfl rfl ?_
  refine cv_iload_n hC 1 dX9_missingAt_14 rfl rfl ?_
  refine cv_callVi (ob := 10) hC [.int l1] [.int ((1 <<< (v4 &&& 31)) - 1)] (M_X9_passedAt LL G l1 s3) ln_X9_244 vm_X9_passedAt (ob_10 G) rfl rfl (Nat.le_of_ble_eq_true rfl) ⟨Nat.le_of_ble_eq_true rfl, Nat.le_of_ble_eq_true rfl⟩ ⟨Nat.le_of_ble_eq_true rfl, Nat.le_of_ble_eq_true rfl⟩ dX9_missingAt_15 (fun v6 s5 => ?_)
  refine cv_iconst (v := (-1)) hC dX9_missingAt_18 cb_iconst_m1 ?_
  refine cv_ixor hC dX9_missingAt_19 ?_
  refine cv_iand hC dX9_missingAt_20 ?_
  exact cv_iret hC dX9_missingAt_21
set_option maxRecDepth 20000 in
set_option maxHeartbeats 2000000 in
theorem M_X9_missingAt (LL : Launch) (G : cv_G) (l1 : Int32) (σ : cv_St) : cv_MI LL G yX9_missingAt cX9_missingAt 2 (some .int) 2 45 [.ref (G.1 10), .int l1] σ (F_X9_missingAt l1 σ) :=
  cv_mkI (by decide) (Nat.le_of_ble_eq_true rfl) (fun X hC => J_X9_missingAt hC l1 σ)
/-! X9_missingSlots -/
set_option maxRecDepth 20000 in
set_option maxHeartbeats 2000000 in
theorem J_X9_missingSlots_b14 {X : cv_X} {G : cv_G} {LL : Launch} (hC : cv_C X G LL RX9 cX9_missingSlots 2 (some .int) { frames := 7, cells := 0, slots := 0, locals := 160 }) (l1 : Int32) (t0 : Int32) (σ : cv_St) : cv_J X G 2 0 0 (cv_QI X G) 14 [(0, .ref (G.1 10)), (1, .int l1)] [.int t0, .ref (G.1 10)] σ (F_X9_missingSlots_b14 l1 t0 σ) := by
  unfold F_X9_missingSlots_b14
  refine cv_puti hC (fp_X9_84_10 G) dX9_missingSlots_14 (fun s3 => ?_)
  refine cv_aload_n hC 0 dX9_missingSlots_17 rfl rfl ?_
  refine cv_geti hC (fg_X9_84_10 G) dX9_missingSlots_18 ?_
  refine cv_if_le (tgt := 28) hC dX9_missingSlots_21 (by decide) ?_ ?_
  · refine cv_aload_n hC 0 dX9_missingSlots_28 rfl rfl ?_
    refine cv_iload_n hC 1 dX9_missingSlots_29 rfl rfl ?_
    refine cv_callVi (ob := 10) hC [.int l1] [] (M_X9_missingAt LL G l1 s3) ln_X9_255 vm_X9_missingAt (ob_10 G) rfl rfl (Nat.le_of_ble_eq_true rfl) ⟨Nat.le_of_ble_eq_true rfl, Nat.le_of_ble_eq_true rfl⟩ ⟨Nat.le_of_ble_eq_true rfl, Nat.le_of_ble_eq_true rfl⟩ dX9_missingSlots_30 (fun v5 s4 => ?_)
    exact cv_iret hC dX9_missingSlots_33
  · refine cv_iconst (v := 0) hC dX9_missingSlots_24 cb_iconst_0 ?_
    refine cv_goto (tgt := 33) hC dX9_missingSlots_25 (by decide) ?_
    exact cv_iret hC dX9_missingSlots_33
set_option maxRecDepth 20000 in
set_option maxHeartbeats 2000000 in
theorem J_X9_missingSlots {X : cv_X} {G : cv_G} {LL : Launch} (hC : cv_C X G LL RX9 cX9_missingSlots 2 (some .int) { frames := 7, cells := 0, slots := 0, locals := 160 }) (l1 : Int32) (σ : cv_St) : cv_J X G 2 0 0 (cv_QI X G) 0 [(0, .ref (G.1 10)), (1, .int l1)] [] σ (F_X9_missingSlots l1 σ) := by
  unfold F_X9_missingSlots
  refine cv_aload_n hC 0 dX9_missingSlots_0 rfl rfl ?_
  refine cv_aload_n hC 0 dX9_missingSlots_1 rfl rfl ?_
  refine cv_iload_n hC 1 dX9_missingSlots_2 rfl rfl ?_
  refine cv_callVi (ob := 10) hC [.int l1] [.ref (G.1 10)] (M_X9_isSite LL G l1 σ) ln_X9_250 vm_X9_isSite (ob_10 G) rfl rfl (Nat.le_of_ble_eq_true rfl) ⟨Nat.le_of_ble_eq_true rfl, Nat.le_of_ble_eq_true rfl⟩ ⟨Nat.le_of_ble_eq_true rfl, Nat.le_of_ble_eq_true rfl⟩ dX9_missingSlots_3 (fun v2 s1 => ?_)
  refine cv_if_eq (tgt := 13) hC dX9_missingSlots_6 (by decide) ?_ ?_
  · refine cv_iconst (v := 1) hC dX9_missingSlots_13 cb_iconst_1 ?_
    exact cv_sub [0, 1] rfl (J_X9_missingSlots_b14 hC l1 1 s1)
  · refine cv_iconst (v := 0) hC dX9_missingSlots_9 cb_iconst_0 ?_
    refine cv_goto (tgt := 14) hC dX9_missingSlots_10 (by decide) ?_
    exact cv_sub [0, 1] rfl (J_X9_missingSlots_b14 hC l1 0 s1)
set_option maxRecDepth 20000 in
set_option maxHeartbeats 2000000 in
theorem M_X9_missingSlots (LL : Launch) (G : cv_G) (l1 : Int32) (σ : cv_St) : cv_MI LL G yX9_missingSlots cX9_missingSlots 2 (some .int) 7 160 [.ref (G.1 10), .int l1] σ (F_X9_missingSlots l1 σ) :=
  cv_mkI (by decide) (Nat.le_of_ble_eq_true rfl) (fun X hC => J_X9_missingSlots hC l1 σ)
/-! X9_lostAt -/
set_option maxRecDepth 20000 in
set_option maxHeartbeats 2000000 in
theorem J_X9_lostAt {X : cv_X} {G : cv_G} {LL : Launch} (hC : cv_C X G LL RX9 cX9_lostAt 3 (some .int) { frames := 3, cells := 0, slots := 0, locals := 68 }) (l1 : Int32) (σ : cv_St) : cv_J X G 3 0 0 (cv_QI X G) 0 [(0, .ref (G.1 10)), (1, .int l1)] [] σ (F_X9_lostAt l1 σ) := by
  unfold F_X9_lostAt
  refine cv_aload_n hC 0 dX9_lostAt_0 rfl rfl ?_
  refine cv_iload_n hC 1 dX9_lostAt_1 rfl rfl ?_
  refine cv_callVi (ob := 10) hC [.int l1] [] (M_X9_calleeOf LL G l1 σ) ln_X9_204 vm_X9_calleeOf (ob_10 G) rfl rfl (Nat.le_of_ble_eq_true rfl) ⟨Nat.le_of_ble_eq_true rfl, Nat.le_of_ble_eq_true rfl⟩ ⟨Nat.le_of_ble_eq_true rfl, Nat.le_of_ble_eq_true rfl⟩ dX9_lostAt_2 (fun v2 s1 => ?_)
  refine cv_istore_n (lv' := [(2, .int v2), (0, .ref (G.1 10)), (1, .int l1)]) hC dX9_lostAt_5 rfl (by decide) rfl ?_
  refine cv_aload_n hC 1 dX9_lostAt_6 rfl rfl ?_
  refine cv_aload_n hC 1 dX9_lostAt_7 rfl rfl ?_
  refine cv_getr hC (fg_X9_69_10 G) dX9_lostAt_8 ?_
  refine cv_iload_n hC 2 dX9_lostAt_11 rfl rfl ?_
  refine cv_iald hC (cv_a61 G) dX9_lostAt_12 (fun v3 => ?_)
  refine cv_aload_n hC 1 dX9_lostAt_13 rfl rfl ?_
  refine cv_getr hC (fg_X9_72_10 G) dX9_lostAt_14 ?_
  refine cv_iload_n hC 2 dX9_lostAt_17 rfl rfl ?_
  refine cv_iald hC (cv_a62 G) dX9_lostAt_18 (fun v4 => ?_)
  refine cv_callVi (ob := 10) hC [.int v3, .int v4] [] (M_X9_liveBehind LL G v3 v4 s1) ln_X9_195 vm_X9_liveBehind (ob_10 G) rfl rfl (Nat.le_of_ble_eq_true rfl) ⟨Nat.le_of_ble_eq_true rfl, Nat.le_of_ble_eq_true rfl⟩ ⟨Nat.le_of_ble_eq_true rfl, Nat.le_of_ble_eq_true rfl⟩ dX9_lostAt_19 (fun v6 s5 => ?_)
  refine cv_aload_n hC 1 dX9_lostAt_22 rfl rfl ?_
  refine cv_iload_n hC 0 dX9_lostAt_23 rfl rfl ?_
  refine cv_callVi (ob := 10) hC [.int v2] [.int v6] (M_X9_clobbered LL G v2 s5) ln_X9_189 vm_X9_clobbered (ob_10 G) rfl rfl (Nat.le_of_ble_eq_true rfl) ⟨Nat.le_of_ble_eq_true rfl, Nat.le_of_ble_eq_true rfl⟩ ⟨Nat.le_of_ble_eq_true rfl, Nat.le_of_ble_eq_true rfl⟩ dX9_lostAt_24 (fun v8 s7 => ?_)
  refine cv_iand hC dX9_lostAt_27 ?_
  refine cv_aload_n hC 1 dX9_lostAt_28 rfl rfl ?_
  refine cv_getr hC (fg_X9_51_10 G) dX9_lostAt_29 ?_
  refine cv_iload_n hC 0 dX9_lostAt_32 rfl rfl ?_
  refine cv_iald hC (cv_a55 G) dX9_lostAt_33 (fun v9 => ?_)
  refine cv_iconst (v := (-1)) hC dX9_lostAt_34 cb_iconst_m1 ?_
  refine cv_ixor hC dX9_lostAt_35 ?_
  refine cv_iand hC dX9_lostAt_36 ?_
  exact cv_iret hC dX9_lostAt_37
set_option maxRecDepth 20000 in
set_option maxHeartbeats 2000000 in
theorem M_X9_lostAt (LL : Launch) (G : cv_G) (l1 : Int32) (σ : cv_St) : cv_MI LL G yX9_lostAt cX9_lostAt 3 (some .int) 3 68 [.ref (G.1 10), .int l1] σ (F_X9_lostAt l1 σ) :=
  cv_mkI (by decide) (Nat.le_of_ble_eq_true rfl) (fun X hC => J_X9_lostAt hC l1 σ)
/-! X9_lostRegisters -/
set_option maxRecDepth 20000 in
set_option maxHeartbeats 2000000 in
theorem J_X9_lostRegisters_b14 {X : cv_X} {G : cv_G} {LL : Launch} (hC : cv_C X G LL RX9 cX9_lostRegisters 2 (some .int) { frames := 7, cells := 0, slots := 0, locals := 160 }) (l1 : Int32) (t0 : Int32) (σ : cv_St) : cv_J X G 2 0 0 (cv_QI X G) 14 [(0, .ref (G.1 10)), (1, .int l1)] [.int t0, .ref (G.1 10)] σ (F_X9_lostRegisters_b14 l1 t0 σ) := by
  unfold F_X9_lostRegisters_b14
  refine cv_puti hC (fp_X9_84_10 G) dX9_lostRegisters_14 (fun s3 => ?_)
  refine cv_aload_n hC 0 dX9_lostRegisters_17 rfl rfl ?_
  refine cv_geti hC (fg_X9_84_10 G) dX9_lostRegisters_18 ?_
  refine cv_if_le (tgt := 28) hC dX9_lostRegisters_21 (by decide) ?_ ?_
  · refine cv_aload_n hC 0 dX9_lostRegisters_28 rfl rfl ?_
    refine cv_iload_n hC 1 dX9_lostRegisters_29 rfl rfl ?_
    refine cv_callVi (ob := 10) hC [.int l1] [] (M_X9_lostAt LL G l1 s3) ln_X9_258 vm_X9_lostAt (ob_10 G) rfl rfl (Nat.le_of_ble_eq_true rfl) ⟨Nat.le_of_ble_eq_true rfl, Nat.le_of_ble_eq_true rfl⟩ ⟨Nat.le_of_ble_eq_true rfl, Nat.le_of_ble_eq_true rfl⟩ dX9_lostRegisters_30 (fun v5 s4 => ?_)
    exact cv_iret hC dX9_lostRegisters_33
  · refine cv_iconst (v := 0) hC dX9_lostRegisters_24 cb_iconst_0 ?_
    refine cv_goto (tgt := 33) hC dX9_lostRegisters_25 (by decide) ?_
    exact cv_iret hC dX9_lostRegisters_33
set_option maxRecDepth 20000 in
set_option maxHeartbeats 2000000 in
theorem J_X9_lostRegisters {X : cv_X} {G : cv_G} {LL : Launch} (hC : cv_C X G LL RX9 cX9_lostRegisters 2 (some .int) { frames := 7, cells := 0, slots := 0, locals := 160 }) (l1 : Int32) (σ : cv_St) : cv_J X G 2 0 0 (cv_QI X G) 0 [(0, .ref (G.1 10)), (1, .int l1)] [] σ (F_X9_lostRegisters l1 σ) := by
  unfold F_X9_lostRegisters
  refine cv_aload_n hC 0 dX9_lostRegisters_0 rfl rfl ?_
  refine cv_aload_n hC 0 dX9_lostRegisters_1 rfl rfl ?_
  refine cv_iload_n hC 1 dX9_lostRegisters_2 rfl rfl ?_
  refine cv_callVi (ob := 10) hC [.int l1] [.ref (G.1 10)] (M_X9_isSite LL G l1 σ) ln_X9_250 vm_X9_isSite (ob_10 G) rfl rfl (Nat.le_of_ble_eq_true rfl) ⟨Nat.le_of_ble_eq_true rfl, Nat.le_of_ble_eq_true rfl⟩ ⟨Nat.le_of_ble_eq_true rfl, Nat.le_of_ble_eq_true rfl⟩ dX9_lostRegisters_3 (fun v2 s1 => ?_)
  refine cv_if_eq (tgt := 13) hC dX9_lostRegisters_6 (by decide) ?_ ?_
  · refine cv_iconst (v := 1) hC dX9_lostRegisters_13 cb_iconst_1 ?_
    exact cv_sub [0, 1] rfl (J_X9_lostRegisters_b14 hC l1 1 s1)
  · refine cv_iconst (v := 0) hC dX9_lostRegisters_9 cb_iconst_0 ?_
    refine cv_goto (tgt := 14) hC dX9_lostRegisters_10 (by decide) ?_
    exact cv_sub [0, 1] rfl (J_X9_lostRegisters_b14 hC l1 0 s1)
set_option maxRecDepth 20000 in
set_option maxHeartbeats 2000000 in
theorem M_X9_lostRegisters (LL : Launch) (G : cv_G) (l1 : Int32) (σ : cv_St) : cv_MI LL G yX9_lostRegisters cX9_lostRegisters 2 (some .int) 7 160 [.ref (G.1 10), .int l1] σ (F_X9_lostRegisters l1 σ) :=
  cv_mkI (by decide) (Nat.le_of_ble_eq_true rfl) (fun X hC => J_X9_lostRegisters hC l1 σ)
/-! X9_liveBehind_ -/
set_option maxRecDepth 20000 in
set_option maxHeartbeats 2000000 in
theorem J_X9_liveBehind__b14 {X : cv_X} {G : cv_G} {LL : Launch} (hC : cv_C X G LL RX9 cX9_liveBehind_ 2 (some .int) { frames := 7, cells := 0, slots := 0, locals := 160 }) (l1 : Int32) (t0 : Int32) (σ : cv_St) : cv_J X G 2 0 0 (cv_QI X G) 14 [(0, .ref (G.1 10)), (1, .int l1)] [.int t0, .ref (G.1 10)] σ (F_X9_liveBehind__b14 l1 t0 σ) := by
  unfold F_X9_liveBehind__b14
  refine cv_puti hC (fp_X9_84_10 G) dX9_liveBehind__14 (fun s3 => ?_)
  refine cv_aload_n hC 0 dX9_liveBehind__17 rfl rfl ?_
  refine cv_geti hC (fg_X9_84_10 G) dX9_liveBehind__18 ?_
  refine cv_if_le (tgt := 28) hC dX9_liveBehind__21 (by decide) ?_ ?_
  · refine cv_aload_n hC 0 dX9_liveBehind__28 rfl rfl ?_
    refine cv_aload_n hC 0 dX9_liveBehind__29 rfl rfl ?_
    refine cv_getr hC (fg_X9_69_10 G) dX9_liveBehind__30 ?_
    refine cv_iload_n hC 1 dX9_liveBehind__33 rfl rfl ?_
    refine cv_iald hC (cv_a61 G) dX9_liveBehind__34 (fun v4 => ?_)
    refine cv_aload_n hC 0 dX9_liveBehind__35 rfl rfl ?_
    refine cv_getr hC (fg_X9_72_10 G) dX9_liveBehind__36 ?_
    refine cv_iload_n hC 1 dX9_liveBehind__39 rfl rfl ?_
    refine cv_iald hC (cv_a62 G) dX9_liveBehind__40 (fun v5 => ?_)
    refine cv_callVi (ob := 10) hC [.int v4, .int v5] [] (M_X9_liveBehind LL G v4 v5 s3) ln_X9_195 vm_X9_liveBehind (ob_10 G) rfl rfl (Nat.le_of_ble_eq_true rfl) ⟨Nat.le_of_ble_eq_true rfl, Nat.le_of_ble_eq_true rfl⟩ ⟨Nat.le_of_ble_eq_true rfl, Nat.le_of_ble_eq_true rfl⟩ dX9_liveBehind__41 (fun v7 s6 => ?_)
    exact cv_iret hC dX9_liveBehind__44
  · refine cv_iconst (v := 0) hC dX9_liveBehind__24 cb_iconst_0 ?_
    refine cv_goto (tgt := 44) hC dX9_liveBehind__25 (by decide) ?_
    exact cv_iret hC dX9_liveBehind__44
set_option maxRecDepth 20000 in
set_option maxHeartbeats 2000000 in
theorem J_X9_liveBehind_ {X : cv_X} {G : cv_G} {LL : Launch} (hC : cv_C X G LL RX9 cX9_liveBehind_ 2 (some .int) { frames := 7, cells := 0, slots := 0, locals := 160 }) (l1 : Int32) (σ : cv_St) : cv_J X G 2 0 0 (cv_QI X G) 0 [(0, .ref (G.1 10)), (1, .int l1)] [] σ (F_X9_liveBehind_ l1 σ) := by
  unfold F_X9_liveBehind_
  refine cv_aload_n hC 0 dX9_liveBehind__0 rfl rfl ?_
  refine cv_aload_n hC 0 dX9_liveBehind__1 rfl rfl ?_
  refine cv_iload_n hC 1 dX9_liveBehind__2 rfl rfl ?_
  refine cv_callVi (ob := 10) hC [.int l1] [.ref (G.1 10)] (M_X9_isSite LL G l1 σ) ln_X9_250 vm_X9_isSite (ob_10 G) rfl rfl (Nat.le_of_ble_eq_true rfl) ⟨Nat.le_of_ble_eq_true rfl, Nat.le_of_ble_eq_true rfl⟩ ⟨Nat.le_of_ble_eq_true rfl, Nat.le_of_ble_eq_true rfl⟩ dX9_liveBehind__3 (fun v2 s1 => ?_)
  refine cv_if_eq (tgt := 13) hC dX9_liveBehind__6 (by decide) ?_ ?_
  · refine cv_iconst (v := 1) hC dX9_liveBehind__13 cb_iconst_1 ?_
    exact cv_sub [0, 1] rfl (J_X9_liveBehind__b14 hC l1 1 s1)
  · refine cv_iconst (v := 0) hC dX9_liveBehind__9 cb_iconst_0 ?_
    refine cv_goto (tgt := 14) hC dX9_liveBehind__10 (by decide) ?_
    exact cv_sub [0, 1] rfl (J_X9_liveBehind__b14 hC l1 0 s1)
set_option maxRecDepth 20000 in
set_option maxHeartbeats 2000000 in
theorem M_X9_liveBehind_ (LL : Launch) (G : cv_G) (l1 : Int32) (σ : cv_St) : cv_MI LL G yX9_liveBehind_ cX9_liveBehind_ 2 (some .int) 7 160 [.ref (G.1 10), .int l1] σ (F_X9_liveBehind_ l1 σ) :=
  cv_mkI (by decide) (Nat.le_of_ble_eq_true rfl) (fun X hC => J_X9_liveBehind_ hC l1 σ)
/-! X9_isProblem -/
set_option maxRecDepth 20000 in
set_option maxHeartbeats 2000000 in
theorem J_X9_isProblem_b16 {X : cv_X} {G : cv_G} {LL : Launch} (hC : cv_C X G LL RX9 cX9_isProblem 2 (some .boolean) { frames := 4, cells := 0, slots := 0, locals := 90 }) (σ : cv_St) : cv_J X G 2 0 0 (cv_QI X G) 16 [] [] σ (F_X9_isProblem_b16  σ) := by
  unfold F_X9_isProblem_b16
  refine cv_iconst (v := 1) hC dX9_isProblem_16 cb_iconst_1 ?_
  refine cv_goto (tgt := 21) hC dX9_isProblem_17 (by decide) ?_
  exact cv_zret hC dX9_isProblem_21
set_option maxRecDepth 20000 in
set_option maxHeartbeats 2000000 in
theorem J_X9_isProblem {X : cv_X} {G : cv_G} {LL : Launch} (hC : cv_C X G LL RX9 cX9_isProblem 2 (some .boolean) { frames := 4, cells := 0, slots := 0, locals := 90 }) (l1 : Int32) (σ : cv_St) : cv_J X G 2 0 0 (cv_QI X G) 0 [(0, .ref (G.1 10)), (1, .int l1)] [] σ (F_X9_isProblem l1 σ) := by
  unfold F_X9_isProblem
  refine cv_aload_n hC 0 dX9_isProblem_0 rfl rfl ?_
  refine cv_iload_n hC 1 dX9_isProblem_1 rfl rfl ?_
  refine cv_callVi (ob := 10) hC [.int l1] [] (M_X9_missingAt LL G l1 σ) ln_X9_255 vm_X9_missingAt (ob_10 G) rfl rfl (Nat.le_of_ble_eq_true rfl) ⟨Nat.le_of_ble_eq_true rfl, Nat.le_of_ble_eq_true rfl⟩ ⟨Nat.le_of_ble_eq_true rfl, Nat.le_of_ble_eq_true rfl⟩ dX9_isProblem_2 (fun v2 s1 => ?_)
  refine cv_if_ne (tgt := 16) hC dX9_isProblem_5 (by decide) ?_ ?_
  · exact cv_sub [] rfl (J_X9_isProblem_b16 hC s1)
  · refine cv_aload_n hC 0 dX9_isProblem_8 rfl rfl ?_
    refine cv_iload_n hC 1 dX9_isProblem_9 rfl rfl ?_
    refine cv_callVi (ob := 10) hC [.int l1] [] (M_X9_lostAt LL G l1 s1) ln_X9_258 vm_X9_lostAt (ob_10 G) rfl rfl (Nat.le_of_ble_eq_true rfl) ⟨Nat.le_of_ble_eq_true rfl, Nat.le_of_ble_eq_true rfl⟩ ⟨Nat.le_of_ble_eq_true rfl, Nat.le_of_ble_eq_true rfl⟩ dX9_isProblem_10 (fun v4 s3 => ?_)
    refine cv_if_eq (tgt := 20) hC dX9_isProblem_13 (by decide) ?_ ?_
    · refine cv_iconst (v := 0) hC dX9_isProblem_20 cb_iconst_0 ?_
      exact cv_zret hC dX9_isProblem_21
    · exact cv_sub [] rfl (J_X9_isProblem_b16 hC s3)
set_option maxRecDepth 20000 in
set_option maxHeartbeats 2000000 in
theorem M_X9_isProblem (LL : Launch) (G : cv_G) (l1 : Int32) (σ : cv_St) : cv_MI LL G yX9_isProblem cX9_isProblem 2 (some .boolean) 4 90 [.ref (G.1 10), .int l1] σ (F_X9_isProblem l1 σ) :=
  cv_mkI (by decide) (Nat.le_of_ble_eq_true rfl) (fun X hC => J_X9_isProblem hC l1 σ)
/-! X9_problemMany -/
set_option maxRecDepth 20000 in
set_option maxHeartbeats 2000000 in
theorem J_X9_problemMany_b26 {X : cv_X} {G : cv_G} {LL : Launch} (hC : cv_C X G LL RX9 cX9_problemMany 3 (some .int) { frames := 5, cells := 0, slots := 0, locals := 111 }) (k4 : Int32 → Int32 → cv_St → Option (Int32 × cv_St)) (hk4 : ∀ (l1 : Int32) (l2 : Int32)  σ, cv_J X G 3 0 0 (cv_QI X G) 4 [(0, .ref (G.1 10)), (1, .int l1), (2, .int l2)] [] σ (k4 l1 l2 σ)) (l2 : Int32) (t0 : Int32) (t1 : Int32) (σ : cv_St) : cv_J X G 3 0 0 (cv_QI X G) 26 [(0, .ref (G.1 10)), (2, .int l2)] [.int t0, .int t1] σ (F_X9_problemMany_b26 k4 l2 t0 t1 σ) := by
  unfold F_X9_problemMany_b26
  refine cv_iadd hC dX9_problemMany_26 ?_
  refine cv_istore_n (lv' := [(1, .int (t1 + t0)), (0, .ref (G.1 10)), (2, .int l2)]) hC dX9_problemMany_27 rfl (by decide) rfl ?_
  refine cv_iinc (lv' := [(2, .int (l2 + Int32.ofInt 1)), (1, .int (t1 + t0)), (0, .ref (G.1 10))]) hC 2 dX9_problemMany_28 rfl (by decide) rfl ?_
  refine cv_goto (tgt := 4) hC dX9_problemMany_31 (by decide) ?_
  exact cv_sub [2, 1, 0] rfl (hk4 (t1 + t0) (l2 + Int32.ofInt 1) σ)
set_option maxRecDepth 20000 in
set_option maxHeartbeats 2000000 in
theorem I_X9_problemMany_b4 {X : cv_X} {G : cv_G} {LL : Launch} (hC : cv_C X G LL RX9 cX9_problemMany 3 (some .int) { frames := 5, cells := 0, slots := 0, locals := 111 }) (k4 : Int32 → Int32 → cv_St → Option (Int32 × cv_St)) (hk4 : ∀ (l1 : Int32) (l2 : Int32)  σ, cv_J X G 3 0 0 (cv_QI X G) 4 [(0, .ref (G.1 10)), (1, .int l1), (2, .int l2)] [] σ (k4 l1 l2 σ)) (l1 : Int32) (l2 : Int32) (σ : cv_St) : cv_J X G 3 0 0 (cv_QI X G) 4 [(0, .ref (G.1 10)), (1, .int l1), (2, .int l2)] [] σ (B_X9_problemMany_b4 k4 l1 l2 σ) := by
  unfold B_X9_problemMany_b4
  refine cv_iload_n hC 2 dX9_problemMany_4 rfl rfl ?_
  refine cv_aload_n hC 0 dX9_problemMany_5 rfl rfl ?_
  refine cv_geti hC (fg_X9_201_10 G) dX9_problemMany_6 ?_
  refine cv_icmp_ge (tgt := 34) hC dX9_problemMany_9 (by decide) ?_ ?_
  · refine cv_iload_n hC 1 dX9_problemMany_34 rfl rfl ?_
    exact cv_iret hC dX9_problemMany_35
  · refine cv_iload_n hC 1 dX9_problemMany_12 rfl rfl ?_
    refine cv_aload_n hC 0 dX9_problemMany_13 rfl rfl ?_
    refine cv_iload_n hC 2 dX9_problemMany_14 rfl rfl ?_
    refine cv_callVi (ob := 10) hC [.int l2] [.int l1] (M_X9_isProblem LL G l2 σ) ln_X9_261 vm_X9_isProblem (ob_10 G) rfl rfl (Nat.le_of_ble_eq_true rfl) ⟨Nat.le_of_ble_eq_true rfl, Nat.le_of_ble_eq_true rfl⟩ ⟨Nat.le_of_ble_eq_true rfl, Nat.le_of_ble_eq_true rfl⟩ dX9_problemMany_15 (fun v2 s1 => ?_)
    refine cv_if_eq (tgt := 25) hC dX9_problemMany_18 (by decide) ?_ ?_
    · refine cv_iconst (v := 0) hC dX9_problemMany_25 cb_iconst_0 ?_
      exact cv_sub [0, 2] rfl (J_X9_problemMany_b26 hC k4 hk4 l2 0 l1 s1)
    · refine cv_iconst (v := 1) hC dX9_problemMany_21 cb_iconst_1 ?_
      refine cv_goto (tgt := 26) hC dX9_problemMany_22 (by decide) ?_
      exact cv_sub [0, 2] rfl (J_X9_problemMany_b26 hC k4 hk4 l2 1 l1 s1)
set_option maxRecDepth 20000 in
set_option maxHeartbeats 2000000 in
theorem J_X9_problemMany_b4 {X : cv_X} {G : cv_G} {LL : Launch} (hC : cv_C X G LL RX9 cX9_problemMany 3 (some .int) { frames := 5, cells := 0, slots := 0, locals := 111 }) : ∀ (n : Nat) (l1 : Int32) (l2 : Int32) (σ : cv_St), cv_J X G 3 0 0 (cv_QI X G) 4 [(0, .ref (G.1 10)), (1, .int l1), (2, .int l2)] [] σ (F_X9_problemMany_b4 n l1 l2 σ) := by
  intro n
  induction n with
  | zero => intro l1 l2 σ; exact cv_none
  | succ n ih => intro l1 l2 σ; exact I_X9_problemMany_b4 hC _ ih l1 l2 σ
set_option maxRecDepth 20000 in
set_option maxHeartbeats 2000000 in
theorem J_X9_problemMany {X : cv_X} {G : cv_G} {LL : Launch} (hC : cv_C X G LL RX9 cX9_problemMany 3 (some .int) { frames := 5, cells := 0, slots := 0, locals := 111 }) (σ : cv_St) : cv_J X G 3 0 0 (cv_QI X G) 0 [(0, .ref (G.1 10))] [] σ (F_X9_problemMany σ) := by
  unfold F_X9_problemMany
  refine cv_iconst (v := 0) hC dX9_problemMany_0 cb_iconst_0 ?_
  refine cv_istore_n (lv' := [(1, .int 0), (0, .ref (G.1 10))]) hC dX9_problemMany_1 rfl (by decide) rfl ?_
  refine cv_iconst (v := 0) hC dX9_problemMany_2 cb_iconst_0 ?_
  refine cv_istore_n (lv' := [(2, .int 0), (1, .int 0), (0, .ref (G.1 10))]) hC dX9_problemMany_3 rfl (by decide) rfl ?_
  exact cv_sub [2, 1, 0] rfl (J_X9_problemMany_b4 hC 1000 0 0 σ)
set_option maxRecDepth 20000 in
set_option maxHeartbeats 2000000 in
theorem M_X9_problemMany (LL : Launch) (G : cv_G) (σ : cv_St) : cv_MI LL G yX9_problemMany cX9_problemMany 3 (some .int) 5 111 [.ref (G.1 10)] σ (F_X9_problemMany σ) :=
  cv_mkI (by decide) (Nat.le_of_ble_eq_true rfl) (fun X hC => J_X9_problemMany hC σ)
/-! X9_problems -/
set_option maxRecDepth 20000 in
set_option maxHeartbeats 2000000 in
theorem J_X9_problems {X : cv_X} {G : cv_G} {LL : Launch} (hC : cv_C X G LL RX9 cX9_problems 1 (some .int) { frames := 6, cells := 0, slots := 0, locals := 139 }) (σ : cv_St) : cv_J X G 1 0 0 (cv_QI X G) 0 [(0, .ref (G.1 10))] [] σ (F_X9_problems σ) := by
  unfold F_X9_problems
  refine cv_aload_n hC 0 dX9_problems_0 rfl rfl ?_
  refine cv_iconst (v := 0) hC dX9_problems_1 cb_iconst_0 ?_
  refine cv_puti hC (fp_X9_84_10 G) dX9_problems_2 (fun s1 => ?_)
  refine cv_aload_n hC 0 dX9_problems_5 rfl rfl ?_
  refine cv_callVv (ob := 10) hC [] [] (M_X9_infer LL G s1) ln_X9_231 vm_X9_infer (ob_10 G) rfl rfl (Nat.le_of_ble_eq_true rfl) ⟨Nat.le_of_ble_eq_true rfl, Nat.le_of_ble_eq_true rfl⟩ ⟨Nat.le_of_ble_eq_true rfl, Nat.le_of_ble_eq_true rfl⟩ dX9_problems_6 (fun s2 => ?_)
  refine cv_aload_n hC 0 dX9_problems_9 rfl rfl ?_
  refine cv_callVi (ob := 10) hC [] [] (M_X9_problemMany LL G s2) ln_X9_264 vm_X9_problemMany (ob_10 G) rfl rfl (Nat.le_of_ble_eq_true rfl) ⟨Nat.le_of_ble_eq_true rfl, Nat.le_of_ble_eq_true rfl⟩ ⟨Nat.le_of_ble_eq_true rfl, Nat.le_of_ble_eq_true rfl⟩ dX9_problems_10 (fun v4 s3 => ?_)
  exact cv_iret hC dX9_problems_13
set_option maxRecDepth 20000 in
set_option maxHeartbeats 2000000 in
theorem M_X9_problems (LL : Launch) (G : cv_G) (σ : cv_St) : cv_MI LL G yX9_problems cX9_problems 1 (some .int) 6 139 [.ref (G.1 10)] σ (F_X9_problems σ) :=
  cv_mkI (by decide) (Nat.le_of_ble_eq_true rfl) (fun X hC => J_X9_problems hC σ)
/-! X9_firstProblem -/
set_option maxRecDepth 20000 in
set_option maxHeartbeats 2000000 in
theorem J_X9_firstProblem_b42 {X : cv_X} {G : cv_G} {LL : Launch} (hC : cv_C X G LL RX9 cX9_firstProblem 2 (some .int) { frames := 6, cells := 0, slots := 0, locals := 139 }) (l1 : Int32) (t0 : Int32) (σ : cv_St) : cv_J X G 2 0 0 (cv_QI X G) 42 [(0, .ref (G.1 10)), (1, .int l1)] [.int t0, .ref (G.1 10)] σ (F_X9_firstProblem_b42 l1 t0 σ) := by
  unfold F_X9_firstProblem_b42
  refine cv_puti hC (fp_X9_84_10 G) dX9_firstProblem_42 (fun s2 => ?_)
  refine cv_aload_n hC 0 dX9_firstProblem_45 rfl rfl ?_
  refine cv_geti hC (fg_X9_84_10 G) dX9_firstProblem_46 ?_
  refine cv_if_le (tgt := 56) hC dX9_firstProblem_49 (by decide) ?_ ?_
  · refine cv_iload_n hC 1 dX9_firstProblem_56 rfl rfl ?_
    exact cv_iret hC dX9_firstProblem_57
  · refine cv_iconst (v := 0) hC dX9_firstProblem_52 cb_iconst_0 ?_
    refine cv_goto (tgt := 57) hC dX9_firstProblem_53 (by decide) ?_
    exact cv_iret hC dX9_firstProblem_57
set_option maxRecDepth 20000 in
set_option maxHeartbeats 2000000 in
theorem J_X9_firstProblem_b28 {X : cv_X} {G : cv_G} {LL : Launch} (hC : cv_C X G LL RX9 cX9_firstProblem 2 (some .int) { frames := 6, cells := 0, slots := 0, locals := 139 }) (l1 : Int32) (σ : cv_St) : cv_J X G 2 0 0 (cv_QI X G) 28 [(0, .ref (G.1 10)), (1, .int l1)] [] σ (F_X9_firstProblem_b28 l1 σ) := by
  unfold F_X9_firstProblem_b28
  refine cv_aload_n hC 0 dX9_firstProblem_28 rfl rfl ?_
  refine cv_iload_n hC 1 dX9_firstProblem_29 rfl rfl ?_
  refine cv_aload_n hC 0 dX9_firstProblem_30 rfl rfl ?_
  refine cv_geti hC (fg_X9_201_10 G) dX9_firstProblem_31 ?_
  refine cv_icmp_ne (tgt := 41) hC dX9_firstProblem_34 (by decide) ?_ ?_
  · refine cv_iconst (v := 0) hC dX9_firstProblem_41 cb_iconst_0 ?_
    exact cv_sub [0, 1] rfl (J_X9_firstProblem_b42 hC l1 0 σ)
  · refine cv_iconst (v := 1) hC dX9_firstProblem_37 cb_iconst_1 ?_
    refine cv_goto (tgt := 42) hC dX9_firstProblem_38 (by decide) ?_
    exact cv_sub [0, 1] rfl (J_X9_firstProblem_b42 hC l1 1 σ)
set_option maxRecDepth 20000 in
set_option maxHeartbeats 2000000 in
theorem I_X9_firstProblem_b6 {X : cv_X} {G : cv_G} {LL : Launch} (hC : cv_C X G LL RX9 cX9_firstProblem 2 (some .int) { frames := 6, cells := 0, slots := 0, locals := 139 }) (k6 : Int32 → cv_St → Option (Int32 × cv_St)) (hk6 : ∀ (l1 : Int32)  σ, cv_J X G 2 0 0 (cv_QI X G) 6 [(0, .ref (G.1 10)), (1, .int l1)] [] σ (k6 l1 σ)) (l1 : Int32) (σ : cv_St) : cv_J X G 2 0 0 (cv_QI X G) 6 [(0, .ref (G.1 10)), (1, .int l1)] [] σ (B_X9_firstProblem_b6 k6 l1 σ) := by
  unfold B_X9_firstProblem_b6
  refine cv_iload_n hC 1 dX9_firstProblem_6 rfl rfl ?_
  refine cv_aload_n hC 0 dX9_firstProblem_7 rfl rfl ?_
  refine cv_geti hC (fg_X9_201_10 G) dX9_firstProblem_8 ?_
  refine cv_icmp_ge (tgt := 28) hC dX9_firstProblem_11 (by decide) ?_ ?_
  · exact cv_sub [0, 1] rfl (J_X9_firstProblem_b28 hC l1 σ)
  · refine cv_aload_n hC 0 dX9_firstProblem_14 rfl rfl ?_
    refine cv_iload_n hC 1 dX9_firstProblem_15 rfl rfl ?_
    refine cv_callVi (ob := 10) hC [.int l1] [] (M_X9_isProblem LL G l1 σ) ln_X9_261 vm_X9_isProblem (ob_10 G) rfl rfl (Nat.le_of_ble_eq_true rfl) ⟨Nat.le_of_ble_eq_true rfl, Nat.le_of_ble_eq_true rfl⟩ ⟨Nat.le_of_ble_eq_true rfl, Nat.le_of_ble_eq_true rfl⟩ dX9_firstProblem_16 (fun v4 s3 => ?_)
    refine cv_if_ne (tgt := 28) hC dX9_firstProblem_19 (by decide) ?_ ?_
    · exact cv_sub [0, 1] rfl (J_X9_firstProblem_b28 hC l1 s3)
    · refine cv_iinc (lv' := [(1, .int (l1 + Int32.ofInt 1)), (0, .ref (G.1 10))]) hC 1 dX9_firstProblem_22 rfl (by decide) rfl ?_
      refine cv_goto (tgt := 6) hC dX9_firstProblem_25 (by decide) ?_
      exact cv_sub [1, 0] rfl (hk6 (l1 + Int32.ofInt 1) s3)
set_option maxRecDepth 20000 in
set_option maxHeartbeats 2000000 in
theorem J_X9_firstProblem_b6 {X : cv_X} {G : cv_G} {LL : Launch} (hC : cv_C X G LL RX9 cX9_firstProblem 2 (some .int) { frames := 6, cells := 0, slots := 0, locals := 139 }) : ∀ (n : Nat) (l1 : Int32) (σ : cv_St), cv_J X G 2 0 0 (cv_QI X G) 6 [(0, .ref (G.1 10)), (1, .int l1)] [] σ (F_X9_firstProblem_b6 n l1 σ) := by
  intro n
  induction n with
  | zero => intro l1 σ; exact cv_none
  | succ n ih => intro l1 σ; exact I_X9_firstProblem_b6 hC _ ih l1 σ
set_option maxRecDepth 20000 in
set_option maxHeartbeats 2000000 in
theorem J_X9_firstProblem {X : cv_X} {G : cv_G} {LL : Launch} (hC : cv_C X G LL RX9 cX9_firstProblem 2 (some .int) { frames := 6, cells := 0, slots := 0, locals := 139 }) (σ : cv_St) : cv_J X G 2 0 0 (cv_QI X G) 0 [(0, .ref (G.1 10))] [] σ (F_X9_firstProblem σ) := by
  unfold F_X9_firstProblem
  refine cv_aload_n hC 0 dX9_firstProblem_0 rfl rfl ?_
  refine cv_callVv (ob := 10) hC [] [] (M_X9_infer LL G σ) ln_X9_231 vm_X9_infer (ob_10 G) rfl rfl (Nat.le_of_ble_eq_true rfl) ⟨Nat.le_of_ble_eq_true rfl, Nat.le_of_ble_eq_true rfl⟩ ⟨Nat.le_of_ble_eq_true rfl, Nat.le_of_ble_eq_true rfl⟩ dX9_firstProblem_1 (fun s1 => ?_)
  refine cv_iconst (v := 0) hC dX9_firstProblem_4 cb_iconst_0 ?_
  refine cv_istore_n (lv' := [(1, .int 0), (0, .ref (G.1 10))]) hC dX9_firstProblem_5 rfl (by decide) rfl ?_
  exact cv_sub [1, 0] rfl (J_X9_firstProblem_b6 hC 1000 0 s1)
set_option maxRecDepth 20000 in
set_option maxHeartbeats 2000000 in
theorem M_X9_firstProblem (LL : Launch) (G : cv_G) (σ : cv_St) : cv_MI LL G yX9_firstProblem cX9_firstProblem 2 (some .int) 6 139 [.ref (G.1 10)] σ (F_X9_firstProblem σ) :=
  cv_mkI (by decide) (Nat.le_of_ble_eq_true rfl) (fun X hC => J_X9_firstProblem hC σ)
/-! X9_bodyMany -/
set_option maxRecDepth 20000 in
set_option maxHeartbeats 2000000 in
theorem J_X9_bodyMany_b25 {X : cv_X} {G : cv_G} {LL : Launch} (hC : cv_C X G LL RX9 cX9_bodyMany 3 (some .int) { frames := 0, cells := 0, slots := 0, locals := 0 }) (k4 : Int32 → Int32 → cv_St → Option (Int32 × cv_St)) (hk4 : ∀ (l1 : Int32) (l2 : Int32)  σ, cv_J X G 3 0 0 (cv_QI X G) 4 [(0, .ref (G.1 10)), (1, .int l1), (2, .int l2)] [] σ (k4 l1 l2 σ)) (l2 : Int32) (t0 : Int32) (t1 : Int32) (σ : cv_St) : cv_J X G 3 0 0 (cv_QI X G) 25 [(0, .ref (G.1 10)), (2, .int l2)] [.int t0, .int t1] σ (F_X9_bodyMany_b25 k4 l2 t0 t1 σ) := by
  unfold F_X9_bodyMany_b25
  refine cv_iadd hC dX9_bodyMany_25 ?_
  refine cv_istore_n (lv' := [(1, .int (t1 + t0)), (0, .ref (G.1 10)), (2, .int l2)]) hC dX9_bodyMany_26 rfl (by decide) rfl ?_
  refine cv_iinc (lv' := [(2, .int (l2 + Int32.ofInt 1)), (1, .int (t1 + t0)), (0, .ref (G.1 10))]) hC 2 dX9_bodyMany_27 rfl (by decide) rfl ?_
  refine cv_goto (tgt := 4) hC dX9_bodyMany_30 (by decide) ?_
  exact cv_sub [2, 1, 0] rfl (hk4 (t1 + t0) (l2 + Int32.ofInt 1) σ)
set_option maxRecDepth 20000 in
set_option maxHeartbeats 2000000 in
theorem I_X9_bodyMany_b4 {X : cv_X} {G : cv_G} {LL : Launch} (hC : cv_C X G LL RX9 cX9_bodyMany 3 (some .int) { frames := 0, cells := 0, slots := 0, locals := 0 }) (k4 : Int32 → Int32 → cv_St → Option (Int32 × cv_St)) (hk4 : ∀ (l1 : Int32) (l2 : Int32)  σ, cv_J X G 3 0 0 (cv_QI X G) 4 [(0, .ref (G.1 10)), (1, .int l1), (2, .int l2)] [] σ (k4 l1 l2 σ)) (l1 : Int32) (l2 : Int32) (σ : cv_St) : cv_J X G 3 0 0 (cv_QI X G) 4 [(0, .ref (G.1 10)), (1, .int l1), (2, .int l2)] [] σ (B_X9_bodyMany_b4 k4 l1 l2 σ) := by
  unfold B_X9_bodyMany_b4
  refine cv_iload_n hC 2 dX9_bodyMany_4 rfl rfl ?_
  refine cv_bipush (v := 8) hC dX9_bodyMany_5 cb_bipush_8 ?_
  refine cv_icmp_ge (tgt := 33) hC dX9_bodyMany_7 (by decide) ?_ ?_
  · refine cv_iload_n hC 1 dX9_bodyMany_33 rfl rfl ?_
    exact cv_iret hC dX9_bodyMany_34
  · refine cv_iload_n hC 1 dX9_bodyMany_10 rfl rfl ?_
    refine cv_aload_n hC 0 dX9_bodyMany_11 rfl rfl ?_
    refine cv_getr hC (fg_X9_9_10 G) dX9_bodyMany_12 ?_
    refine cv_iload_n hC 2 dX9_bodyMany_15 rfl rfl ?_
    refine cv_iald hC (cv_a43 G) dX9_bodyMany_16 (fun v1 => ?_)
    refine cv_if_le (tgt := 24) hC dX9_bodyMany_17 (by decide) ?_ ?_
    · refine cv_iconst (v := 0) hC dX9_bodyMany_24 cb_iconst_0 ?_
      exact cv_sub [0, 2] rfl (J_X9_bodyMany_b25 hC k4 hk4 l2 0 l1 σ)
    · refine cv_iconst (v := 1) hC dX9_bodyMany_20 cb_iconst_1 ?_
      refine cv_goto (tgt := 25) hC dX9_bodyMany_21 (by decide) ?_
      exact cv_sub [0, 2] rfl (J_X9_bodyMany_b25 hC k4 hk4 l2 1 l1 σ)
set_option maxRecDepth 20000 in
set_option maxHeartbeats 2000000 in
theorem J_X9_bodyMany_b4 {X : cv_X} {G : cv_G} {LL : Launch} (hC : cv_C X G LL RX9 cX9_bodyMany 3 (some .int) { frames := 0, cells := 0, slots := 0, locals := 0 }) : ∀ (n : Nat) (l1 : Int32) (l2 : Int32) (σ : cv_St), cv_J X G 3 0 0 (cv_QI X G) 4 [(0, .ref (G.1 10)), (1, .int l1), (2, .int l2)] [] σ (F_X9_bodyMany_b4 n l1 l2 σ) := by
  intro n
  induction n with
  | zero => intro l1 l2 σ; exact cv_none
  | succ n ih => intro l1 l2 σ; exact I_X9_bodyMany_b4 hC _ ih l1 l2 σ
set_option maxRecDepth 20000 in
set_option maxHeartbeats 2000000 in
theorem J_X9_bodyMany {X : cv_X} {G : cv_G} {LL : Launch} (hC : cv_C X G LL RX9 cX9_bodyMany 3 (some .int) { frames := 0, cells := 0, slots := 0, locals := 0 }) (σ : cv_St) : cv_J X G 3 0 0 (cv_QI X G) 0 [(0, .ref (G.1 10))] [] σ (F_X9_bodyMany σ) := by
  unfold F_X9_bodyMany
  refine cv_iconst (v := 0) hC dX9_bodyMany_0 cb_iconst_0 ?_
  refine cv_istore_n (lv' := [(1, .int 0), (0, .ref (G.1 10))]) hC dX9_bodyMany_1 rfl (by decide) rfl ?_
  refine cv_iconst (v := 0) hC dX9_bodyMany_2 cb_iconst_0 ?_
  refine cv_istore_n (lv' := [(2, .int 0), (1, .int 0), (0, .ref (G.1 10))]) hC dX9_bodyMany_3 rfl (by decide) rfl ?_
  exact cv_sub [2, 1, 0] rfl (J_X9_bodyMany_b4 hC 1000 0 0 σ)
set_option maxRecDepth 20000 in
set_option maxHeartbeats 2000000 in
theorem M_X9_bodyMany (LL : Launch) (G : cv_G) (σ : cv_St) : cv_MI LL G yX9_bodyMany cX9_bodyMany 3 (some .int) 0 0 [.ref (G.1 10)] σ (F_X9_bodyMany σ) :=
  cv_mkI (by decide) (Nat.le_of_ble_eq_true rfl) (fun X hC => J_X9_bodyMany hC σ)
/-! X9_countVotes -/
set_option maxRecDepth 20000 in
set_option maxHeartbeats 2000000 in
theorem J_X9_countVotes_b85 {X : cv_X} {G : cv_G} {LL : Launch} (hC : cv_C X G LL RX9 cX9_countVotes 6 (some .int) { frames := 1, cells := 0, slots := 0, locals := 21 }) (k5 : Int32 → Int32 → Int32 → Int32 → cv_St → Option (Int32 × cv_St)) (hk5 : ∀ (l1 : Int32) (l2 : Int32) (l3 : Int32) (l4 : Int32)  σ, cv_J X G 6 0 0 (cv_QI X G) 5 [(0, .ref (G.1 10)), (1, .int l1), (2, .int l2), (3, .int l3), (4, .int l4)] [] σ (k5 l1 l2 l3 l4 σ)) (l1 : Int32) (l2 : Int32) (l4 : Int32) (t0 : Int32) (t1 : Int32) (σ : cv_St) : cv_J X G 6 0 0 (cv_QI X G) 85 [(0, .ref (G.1 10)), (1, .int l1), (2, .int l2), (4, .int l4)] [.int t0, .int t1] σ (F_X9_countVotes_b85 k5 l1 l2 l4 t0 t1 σ) := by
  unfold F_X9_countVotes_b85
  refine cv_iadd hC dX9_countVotes_85 ?_
  refine cv_istore_n (lv' := [(3, .int (t1 + t0)), (0, .ref (G.1 10)), (1, .int l1), (2, .int l2), (4, .int l4)]) hC dX9_countVotes_86 rfl (by decide) rfl ?_
  refine cv_iinc (lv' := [(4, .int (l4 + Int32.ofInt 1)), (3, .int (t1 + t0)), (0, .ref (G.1 10)), (1, .int l1), (2, .int l2)]) hC 4 dX9_countVotes_87 rfl (by decide) rfl ?_
  refine cv_goto (tgt := 5) hC dX9_countVotes_90 (by decide) ?_
  exact cv_sub [2, 3, 4, 1, 0] rfl (hk5 l1 l2 (t1 + t0) (l4 + Int32.ofInt 1) σ)
set_option maxRecDepth 20000 in
set_option maxHeartbeats 2000000 in
theorem J_X9_countVotes_b62 {X : cv_X} {G : cv_G} {LL : Launch} (hC : cv_C X G LL RX9 cX9_countVotes 6 (some .int) { frames := 1, cells := 0, slots := 0, locals := 21 }) (k5 : Int32 → Int32 → Int32 → Int32 → cv_St → Option (Int32 × cv_St)) (hk5 : ∀ (l1 : Int32) (l2 : Int32) (l3 : Int32) (l4 : Int32)  σ, cv_J X G 6 0 0 (cv_QI X G) 5 [(0, .ref (G.1 10)), (1, .int l1), (2, .int l2), (3, .int l3), (4, .int l4)] [] σ (k5 l1 l2 l3 l4 σ)) (l1 : Int32) (l2 : Int32) (l3 : Int32) (l4 : Int32) (t0 : Int32) (σ : cv_St) : cv_J X G 6 0 0 (cv_QI X G) 62 [(0, .ref (G.1 10)), (1, .int l1), (2, .int l2), (3, .int l3), (4, .int l4)] [.int t0] σ (F_X9_countVotes_b62 k5 l1 l2 l3 l4 t0 σ) := by
  unfold F_X9_countVotes_b62
  refine cv_istore (lv' := [(5, .int t0), (0, .ref (G.1 10)), (1, .int l1), (2, .int l2), (3, .int l3), (4, .int l4)]) hC dX9_countVotes_62 (by decide) rfl ?_
  refine cv_iload_n hC 4 dX9_countVotes_64 rfl rfl ?_
  refine cv_aload_n hC 1 dX9_countVotes_65 rfl rfl ?_
  refine cv_getr hC (fg_X9_9_10 G) dX9_countVotes_66 ?_
  refine cv_iload hC 5 dX9_countVotes_69 rfl ?_
  refine cv_iald hC (cv_a43 G) dX9_countVotes_71 (fun v2 => ?_)
  refine cv_if_le (tgt := 84) hC dX9_countVotes_72 (by decide) ?_ ?_
  · refine cv_iconst (v := 0) hC dX9_countVotes_84 cb_iconst_0 ?_
    exact cv_sub [1, 2, 3, 5] rfl (J_X9_countVotes_b85 hC k5 hk5 l1 l2 l4 0 l3 σ)
  · refine cv_iload hC 0 dX9_countVotes_75 rfl ?_
    refine cv_iload_n hC 2 dX9_countVotes_77 rfl rfl ?_
    refine cv_ishr hC dX9_countVotes_78 ?_
    refine cv_iconst (v := 1) hC dX9_countVotes_79 cb_iconst_1 ?_
    refine cv_iand hC dX9_countVotes_80 ?_
    refine cv_goto (tgt := 85) hC dX9_countVotes_81 (by decide) ?_
    exact cv_sub [1, 2, 3, 5] rfl (J_X9_countVotes_b85 hC k5 hk5 l1 l2 l4 ((t0 >>> (l1 &&& 31)) &&& 1) l3 σ)
set_option maxRecDepth 20000 in
set_option maxHeartbeats 2000000 in
theorem I_X9_countVotes_b5 {X : cv_X} {G : cv_G} {LL : Launch} (hC : cv_C X G LL RX9 cX9_countVotes 6 (some .int) { frames := 1, cells := 0, slots := 0, locals := 21 }) (k5 : Int32 → Int32 → Int32 → Int32 → cv_St → Option (Int32 × cv_St)) (hk5 : ∀ (l1 : Int32) (l2 : Int32) (l3 : Int32) (l4 : Int32)  σ, cv_J X G 6 0 0 (cv_QI X G) 5 [(0, .ref (G.1 10)), (1, .int l1), (2, .int l2), (3, .int l3), (4, .int l4)] [] σ (k5 l1 l2 l3 l4 σ)) (l1 : Int32) (l2 : Int32) (l3 : Int32) (l4 : Int32) (σ : cv_St) : cv_J X G 6 0 0 (cv_QI X G) 5 [(0, .ref (G.1 10)), (1, .int l1), (2, .int l2), (3, .int l3), (4, .int l4)] [] σ (B_X9_countVotes_b5 k5 l1 l2 l3 l4 σ) := by
  unfold B_X9_countVotes_b5
  refine cv_iload hC 4 dX9_countVotes_5 rfl ?_
  refine cv_bipush (v := 8) hC dX9_countVotes_7 cb_bipush_8 ?_
  refine cv_icmp_ge (tgt := 93) hC dX9_countVotes_9 (by decide) ?_ ?_
  · refine cv_iload_n hC 3 dX9_countVotes_93 rfl rfl ?_
    exact cv_iret hC dX9_countVotes_94
  · refine cv_iload_n hC 2 dX9_countVotes_12 rfl rfl ?_
    refine cv_if_ne (tgt := 26) hC dX9_countVotes_13 (by decide) ?_ ?_
    · refine cv_iload_n hC 2 dX9_countVotes_26 rfl rfl ?_
      refine cv_iconst (v := 1) hC dX9_countVotes_27 cb_iconst_1 ?_
      refine cv_icmp_ne (tgt := 41) hC dX9_countVotes_28 (by decide) ?_ ?_
      · refine cv_iload_n hC 2 dX9_countVotes_41 rfl rfl ?_
        refine cv_iconst (v := 2) hC dX9_countVotes_42 cb_iconst_2 ?_
        refine cv_icmp_ne (tgt := 55) hC dX9_countVotes_43 (by decide) ?_ ?_
        · refine cv_aload_n hC 0 dX9_countVotes_55 rfl rfl ?_
          refine cv_getr hC (fg_X9_39_10 G) dX9_countVotes_56 ?_
          refine cv_iload hC 4 dX9_countVotes_59 rfl ?_
          refine cv_iald hC (cv_a51 G) dX9_countVotes_61 (fun v1 => ?_)
          exact cv_sub [0, 1, 2, 3, 4] rfl (J_X9_countVotes_b62 hC k5 hk5 l1 l2 l3 l4 v1 σ)
        · refine cv_aload_n hC 0 dX9_countVotes_46 rfl rfl ?_
          refine cv_iload hC 4 dX9_countVotes_47 rfl ?_
          refine cv_callVi (ob := 10) hC [.int l4] [] (M_X9_clobbered LL G l4 σ) ln_X9_189 vm_X9_clobbered (ob_10 G) rfl rfl (Nat.le_of_ble_eq_true rfl) ⟨Nat.le_of_ble_eq_true rfl, Nat.le_of_ble_eq_true rfl⟩ ⟨Nat.le_of_ble_eq_true rfl, Nat.le_of_ble_eq_true rfl⟩ dX9_countVotes_49 (fun v4 s3 => ?_)
          refine cv_goto (tgt := 62) hC dX9_countVotes_52 (by decide) ?_
          exact cv_sub [0, 1, 2, 3, 4] rfl (J_X9_countVotes_b62 hC k5 hk5 l1 l2 l3 l4 v4 s3)
      · refine cv_aload_n hC 0 dX9_countVotes_31 rfl rfl ?_
        refine cv_getr hC (fg_X9_63_10 G) dX9_countVotes_32 ?_
        refine cv_iload hC 4 dX9_countVotes_35 rfl ?_
        refine cv_iald hC (cv_a59 G) dX9_countVotes_37 (fun v5 => ?_)
        refine cv_goto (tgt := 62) hC dX9_countVotes_38 (by decide) ?_
        exact cv_sub [0, 1, 2, 3, 4] rfl (J_X9_countVotes_b62 hC k5 hk5 l1 l2 l3 l4 v5 σ)
    · refine cv_aload_n hC 0 dX9_countVotes_16 rfl rfl ?_
      refine cv_getr hC (fg_X9_60_10 G) dX9_countVotes_17 ?_
      refine cv_iload hC 4 dX9_countVotes_20 rfl ?_
      refine cv_iald hC (cv_a58 G) dX9_countVotes_22 (fun v6 => ?_)
      refine cv_goto (tgt := 62) hC dX9_countVotes_23 (by decide) ?_
      exact cv_sub [0, 1, 2, 3, 4] rfl (J_X9_countVotes_b62 hC k5 hk5 l1 l2 l3 l4 v6 σ)
set_option maxRecDepth 20000 in
set_option maxHeartbeats 2000000 in
theorem J_X9_countVotes_b5 {X : cv_X} {G : cv_G} {LL : Launch} (hC : cv_C X G LL RX9 cX9_countVotes 6 (some .int) { frames := 1, cells := 0, slots := 0, locals := 21 }) : ∀ (n : Nat) (l1 : Int32) (l2 : Int32) (l3 : Int32) (l4 : Int32) (σ : cv_St), cv_J X G 6 0 0 (cv_QI X G) 5 [(0, .ref (G.1 10)), (1, .int l1), (2, .int l2), (3, .int l3), (4, .int l4)] [] σ (F_X9_countVotes_b5 n l1 l2 l3 l4 σ) := by
  intro n
  induction n with
  | zero => intro l1 l2 l3 l4 σ; exact cv_none
  | succ n ih => intro l1 l2 l3 l4 σ; exact I_X9_countVotes_b5 hC _ ih l1 l2 l3 l4 σ
set_option maxRecDepth 20000 in
set_option maxHeartbeats 2000000 in
theorem J_X9_countVotes {X : cv_X} {G : cv_G} {LL : Launch} (hC : cv_C X G LL RX9 cX9_countVotes 6 (some .int) { frames := 1, cells := 0, slots := 0, locals := 21 }) (l1 : Int32) (l2 : Int32) (σ : cv_St) : cv_J X G 6 0 0 (cv_QI X G) 0 [(0, .ref (G.1 10)), (1, .int l1), (2, .int l2)] [] σ (F_X9_countVotes l1 l2 σ) := by
  unfold F_X9_countVotes
  refine cv_iconst (v := 0) hC dX9_countVotes_0 cb_iconst_0 ?_
  refine cv_istore_n (lv' := [(3, .int 0), (0, .ref (G.1 10)), (1, .int l1), (2, .int l2)]) hC dX9_countVotes_1 rfl (by decide) rfl ?_
  refine cv_iconst (v := 0) hC dX9_countVotes_2 cb_iconst_0 ?_
  refine cv_istore (lv' := [(4, .int 0), (3, .int 0), (0, .ref (G.1 10)), (1, .int l1), (2, .int l2)]) hC dX9_countVotes_3 (by decide) rfl ?_
  exact cv_sub [2, 3, 4, 1, 0] rfl (J_X9_countVotes_b5 hC 1000 l1 l2 0 0 σ)
set_option maxRecDepth 20000 in
set_option maxHeartbeats 2000000 in
theorem M_X9_countVotes (LL : Launch) (G : cv_G) (l1 : Int32) (l2 : Int32) (σ : cv_St) : cv_MI LL G yX9_countVotes cX9_countVotes 6 (some .int) 1 21 [.ref (G.1 10), .int l1, .int l2] σ (F_X9_countVotes l1 l2 σ) :=
  cv_mkI (by decide) (Nat.le_of_ble_eq_true rfl) (fun X hC => J_X9_countVotes hC l1 l2 σ)
/-! X9_votes -/
set_option maxRecDepth 20000 in
set_option maxHeartbeats 2000000 in
theorem J_X9_votes_b29 {X : cv_X} {G : cv_G} {LL : Launch} (hC : cv_C X G LL RX9 cX9_votes 3 (some .int) { frames := 6, cells := 0, slots := 0, locals := 139 }) (l1 : Int32) (l2 : Int32) (t0 : Int32) (σ : cv_St) : cv_J X G 3 0 0 (cv_QI X G) 29 [(0, .ref (G.1 10)), (1, .int l1), (2, .int l2)] [.int t0, .ref (G.1 10)] σ (F_X9_votes_b29 l1 l2 t0 σ) := by
  unfold F_X9_votes_b29
  refine cv_puti hC (fp_X9_84_10 G) dX9_votes_29 (fun s5 => ?_)
  refine cv_aload_n hC 0 dX9_votes_32 rfl rfl ?_
  refine cv_geti hC (fg_X9_84_10 G) dX9_votes_33 ?_
  refine cv_if_le (tgt := 41) hC dX9_votes_36 (by decide) ?_ ?_
  · refine cv_aload_n hC 0 dX9_votes_41 rfl rfl ?_
    refine cv_callVv (ob := 10) hC [] [] (M_X9_infer LL G s5) ln_X9_231 vm_X9_infer (ob_10 G) rfl rfl (Nat.le_of_ble_eq_true rfl) ⟨Nat.le_of_ble_eq_true rfl, Nat.le_of_ble_eq_true rfl⟩ ⟨Nat.le_of_ble_eq_true rfl, Nat.le_of_ble_eq_true rfl⟩ dX9_votes_42 (fun s6 => ?_)
    refine cv_aload_n hC 0 dX9_votes_45 rfl rfl ?_
    refine cv_iload_n hC 1 dX9_votes_46 rfl rfl ?_
    refine cv_iload_n hC 2 dX9_votes_47 rfl rfl ?_
    refine cv_callVi (ob := 10) hC [.int l1, .int l2] [] (M_X9_countVotes LL G l1 l2 s6) ln_X9_272 vm_X9_countVotes (ob_10 G) rfl rfl (Nat.le_of_ble_eq_true rfl) ⟨Nat.le_of_ble_eq_true rfl, Nat.le_of_ble_eq_true rfl⟩ ⟨Nat.le_of_ble_eq_true rfl, Nat.le_of_ble_eq_true rfl⟩ dX9_votes_48 (fun v8 s7 => ?_)
    exact cv_iret hC dX9_votes_51
  · refine cv_iconst (v := 0) hC dX9_votes_39 cb_iconst_0 ?_
    exact cv_iret hC dX9_votes_40
set_option maxRecDepth 20000 in
set_option maxHeartbeats 2000000 in
theorem J_X9_votes {X : cv_X} {G : cv_G} {LL : Launch} (hC : cv_C X G LL RX9 cX9_votes 3 (some .int) { frames := 6, cells := 0, slots := 0, locals := 139 }) (l1 : Int32) (l2 : Int32) (σ : cv_St) : cv_J X G 3 0 0 (cv_QI X G) 0 [(0, .ref (G.1 10)), (1, .int l1), (2, .int l2)] [] σ (F_X9_votes l1 l2 σ) := by
  unfold F_X9_votes
  refine cv_aload_n hC 0 dX9_votes_0 rfl rfl ?_
  refine cv_iload_n hC 1 dX9_votes_1 rfl rfl ?_
  refine cv_callSi hC [.int l1] [.ref (G.1 10)] (M_X9_isRegister LL G l1 σ) ln_X9_267 vm_X9_isRegister rfl rfl (Nat.le_of_ble_eq_true rfl) ⟨Nat.le_of_ble_eq_true rfl, Nat.le_of_ble_eq_true rfl⟩ ⟨Nat.le_of_ble_eq_true rfl, Nat.le_of_ble_eq_true rfl⟩ dX9_votes_2 (fun v2 s1 => ?_)
  refine cv_if_ne (tgt := 12) hC dX9_votes_5 (by decide) ?_ ?_
  · refine cv_iload_n hC 2 dX9_votes_12 rfl rfl ?_
    refine cv_i2l hC dX9_votes_13 ?_
    refine cv_lconst (v := 0) hC dX9_votes_14 rfl ?_
    refine cv_ldc2 hC lc_X9_270 dX9_votes_15 ?_
    refine cv_callSi hC [.long l2.toInt64, .long 0, .long 3] [.ref (G.1 10)] (M_X9_in LL G l2.toInt64 0 3 s1) ln_X9_89 vm_X9_in rfl rfl (Nat.le_of_ble_eq_true rfl) ⟨Nat.le_of_ble_eq_true rfl, Nat.le_of_ble_eq_true rfl⟩ ⟨Nat.le_of_ble_eq_true rfl, Nat.le_of_ble_eq_true rfl⟩ dX9_votes_18 (fun v4 s3 => ?_)
    refine cv_if_ne (tgt := 28) hC dX9_votes_21 (by decide) ?_ ?_
    · refine cv_iconst (v := 0) hC dX9_votes_28 cb_iconst_0 ?_
      exact cv_sub [0, 1, 2] rfl (J_X9_votes_b29 hC l1 l2 0 s3)
    · refine cv_iconst (v := 2) hC dX9_votes_24 cb_iconst_2 ?_
      refine cv_goto (tgt := 29) hC dX9_votes_25 (by decide) ?_
      exact cv_sub [0, 1, 2] rfl (J_X9_votes_b29 hC l1 l2 2 s3)
  · refine cv_iconst (v := 1) hC dX9_votes_8 cb_iconst_1 ?_
    refine cv_goto (tgt := 29) hC dX9_votes_9 (by decide) ?_
    exact cv_sub [0, 1, 2] rfl (J_X9_votes_b29 hC l1 l2 1 s1)
set_option maxRecDepth 20000 in
set_option maxHeartbeats 2000000 in
theorem M_X9_votes (LL : Launch) (G : cv_G) (l1 : Int32) (l2 : Int32) (σ : cv_St) : cv_MI LL G yX9_votes cX9_votes 3 (some .int) 6 139 [.ref (G.1 10), .int l1, .int l2] σ (F_X9_votes l1 l2 σ) :=
  cv_mkI (by decide) (Nat.le_of_ble_eq_true rfl) (fun X hC => J_X9_votes hC l1 l2 σ)
/-! X9_role -/
set_option maxRecDepth 20000 in
set_option maxHeartbeats 2000000 in
theorem J_X9_role_b24 {X : cv_X} {G : cv_G} {LL : Launch} (hC : cv_C X G LL RX9 cX9_role 3 (some .int) { frames := 6, cells := 0, slots := 0, locals := 139 }) (l1 : Int32) (t0 : Int32) (σ : cv_St) : cv_J X G 3 0 0 (cv_QI X G) 24 [(0, .ref (G.1 10)), (1, .int l1)] [.int t0, .ref (G.1 10)] σ (F_X9_role_b24 l1 t0 σ) := by
  unfold F_X9_role_b24
  refine cv_puti hC (fp_X9_84_10 G) dX9_role_24 (fun s5 => ?_)
  refine cv_aload_n hC 0 dX9_role_27 rfl rfl ?_
  refine cv_geti hC (fg_X9_84_10 G) dX9_role_28 ?_
  refine cv_if_le (tgt := 36) hC dX9_role_31 (by decide) ?_ ?_
  · refine cv_aload_n hC 0 dX9_role_36 rfl rfl ?_
    refine cv_callVv (ob := 10) hC [] [] (M_X9_infer LL G s5) ln_X9_231 vm_X9_infer (ob_10 G) rfl rfl (Nat.le_of_ble_eq_true rfl) ⟨Nat.le_of_ble_eq_true rfl, Nat.le_of_ble_eq_true rfl⟩ ⟨Nat.le_of_ble_eq_true rfl, Nat.le_of_ble_eq_true rfl⟩ dX9_role_37 (fun s6 => ?_)
    refine cv_aload_n hC 0 dX9_role_40 rfl rfl ?_
    refine cv_callVi (ob := 10) hC [] [] (M_X9_bodyMany LL G s6) ln_X9_275 vm_X9_bodyMany (ob_10 G) rfl rfl (Nat.le_of_ble_eq_true rfl) ⟨Nat.le_of_ble_eq_true rfl, Nat.le_of_ble_eq_true rfl⟩ ⟨Nat.le_of_ble_eq_true rfl, Nat.le_of_ble_eq_true rfl⟩ dX9_role_41 (fun v8 s7 => ?_)
    refine cv_istore_n (lv' := [(2, .int v8), (0, .ref (G.1 10)), (1, .int l1)]) hC dX9_role_44 rfl (by decide) rfl ?_
    refine cv_iconst (v := 2) hC dX9_role_45 cb_iconst_2 ?_
    refine cv_aload_n hC 1 dX9_role_46 rfl rfl ?_
    refine cv_iload_n hC 2 dX9_role_47 rfl rfl ?_
    refine cv_iconst (v := 0) hC dX9_role_48 cb_iconst_0 ?_
    refine cv_callVi (ob := 10) hC [.int l1, .int 0] [.int 2] (M_X9_countVotes LL G l1 0 s7) ln_X9_272 vm_X9_countVotes (ob_10 G) rfl rfl (Nat.le_of_ble_eq_true rfl) ⟨Nat.le_of_ble_eq_true rfl, Nat.le_of_ble_eq_true rfl⟩ ⟨Nat.le_of_ble_eq_true rfl, Nat.le_of_ble_eq_true rfl⟩ dX9_role_49 (fun v10 s9 => ?_)
    refine cv_imul hC dX9_role_52 ?_
    refine cv_iload_n hC 0 dX9_role_53 rfl rfl ?_
    refine cv_icmp_lt (tgt := 59) hC dX9_role_54 (by decide) ?_ ?_
    · refine cv_aload_n hC 1 dX9_role_59 rfl rfl ?_
      refine cv_iload_n hC 2 dX9_role_60 rfl rfl ?_
      refine cv_iconst (v := 1) hC dX9_role_61 cb_iconst_1 ?_
      refine cv_callVi (ob := 10) hC [.int l1, .int 1] [] (M_X9_countVotes LL G l1 1 s9) ln_X9_272 vm_X9_countVotes (ob_10 G) rfl rfl (Nat.le_of_ble_eq_true rfl) ⟨Nat.le_of_ble_eq_true rfl, Nat.le_of_ble_eq_true rfl⟩ ⟨Nat.le_of_ble_eq_true rfl, Nat.le_of_ble_eq_true rfl⟩ dX9_role_62 (fun v12 s11 => ?_)
      refine cv_if_le (tgt := 72) hC dX9_role_65 (by decide) ?_ ?_
      · refine cv_iconst (v := 2) hC dX9_role_72 cb_iconst_2 ?_
        refine cv_aload_n hC 1 dX9_role_73 rfl rfl ?_
        refine cv_iload_n hC 2 dX9_role_74 rfl rfl ?_
        refine cv_iconst (v := 2) hC dX9_role_75 cb_iconst_2 ?_
        refine cv_callVi (ob := 10) hC [.int l1, .int 2] [.int 2] (M_X9_countVotes LL G l1 2 s11) ln_X9_272 vm_X9_countVotes (ob_10 G) rfl rfl (Nat.le_of_ble_eq_true rfl) ⟨Nat.le_of_ble_eq_true rfl, Nat.le_of_ble_eq_true rfl⟩ ⟨Nat.le_of_ble_eq_true rfl, Nat.le_of_ble_eq_true rfl⟩ dX9_role_76 (fun v14 s13 => ?_)
        refine cv_imul hC dX9_role_79 ?_
        refine cv_iload_n hC 0 dX9_role_80 rfl rfl ?_
        refine cv_icmp_lt (tgt := 88) hC dX9_role_81 (by decide) ?_ ?_
        · refine cv_iconst (v := 4) hC dX9_role_88 cb_iconst_4 ?_
          exact cv_iret hC dX9_role_89
        · refine cv_iconst (v := 3) hC dX9_role_84 cb_iconst_3 ?_
          refine cv_goto (tgt := 89) hC dX9_role_85 (by decide) ?_
          exact cv_iret hC dX9_role_89
      · refine cv_iconst (v := 2) hC dX9_role_68 cb_iconst_2 ?_
        refine cv_goto (tgt := 89) hC dX9_role_69 (by decide) ?_
        exact cv_iret hC dX9_role_89
    · refine cv_iconst (v := 1) hC dX9_role_57 cb_iconst_1 ?_
      exact cv_iret hC dX9_role_58
  · refine cv_iconst (v := 0) hC dX9_role_34 cb_iconst_0 ?_
    exact cv_iret hC dX9_role_35
set_option maxRecDepth 20000 in
set_option maxHeartbeats 2000000 in
theorem J_X9_role {X : cv_X} {G : cv_G} {LL : Launch} (hC : cv_C X G LL RX9 cX9_role 3 (some .int) { frames := 6, cells := 0, slots := 0, locals := 139 }) (l1 : Int32) (σ : cv_St) : cv_J X G 3 0 0 (cv_QI X G) 0 [(0, .ref (G.1 10)), (1, .int l1)] [] σ (F_X9_role l1 σ) := by
  unfold F_X9_role
  refine cv_aload_n hC 0 dX9_role_0 rfl rfl ?_
  refine cv_iload_n hC 1 dX9_role_1 rfl rfl ?_
  refine cv_callSi hC [.int l1] [.ref (G.1 10)] (M_X9_isRegister LL G l1 σ) ln_X9_267 vm_X9_isRegister rfl rfl (Nat.le_of_ble_eq_true rfl) ⟨Nat.le_of_ble_eq_true rfl, Nat.le_of_ble_eq_true rfl⟩ ⟨Nat.le_of_ble_eq_true rfl, Nat.le_of_ble_eq_true rfl⟩ dX9_role_2 (fun v2 s1 => ?_)
  refine cv_if_ne (tgt := 12) hC dX9_role_5 (by decide) ?_ ?_
  · refine cv_aload_n hC 0 dX9_role_12 rfl rfl ?_
    refine cv_callVi (ob := 10) hC [] [.ref (G.1 10)] (M_X9_bodyMany LL G s1) ln_X9_275 vm_X9_bodyMany (ob_10 G) rfl rfl (Nat.le_of_ble_eq_true rfl) ⟨Nat.le_of_ble_eq_true rfl, Nat.le_of_ble_eq_true rfl⟩ ⟨Nat.le_of_ble_eq_true rfl, Nat.le_of_ble_eq_true rfl⟩ dX9_role_13 (fun v4 s3 => ?_)
    refine cv_if_ne (tgt := 23) hC dX9_role_16 (by decide) ?_ ?_
    · refine cv_iconst (v := 0) hC dX9_role_23 cb_iconst_0 ?_
      exact cv_sub [0, 1] rfl (J_X9_role_b24 hC l1 0 s3)
    · refine cv_iconst (v := 2) hC dX9_role_19 cb_iconst_2 ?_
      refine cv_goto (tgt := 24) hC dX9_role_20 (by decide) ?_
      exact cv_sub [0, 1] rfl (J_X9_role_b24 hC l1 2 s3)
  · refine cv_iconst (v := 1) hC dX9_role_8 cb_iconst_1 ?_
    refine cv_goto (tgt := 24) hC dX9_role_9 (by decide) ?_
    exact cv_sub [0, 1] rfl (J_X9_role_b24 hC l1 1 s1)
set_option maxRecDepth 20000 in
set_option maxHeartbeats 2000000 in
theorem M_X9_role (LL : Launch) (G : cv_G) (l1 : Int32) (σ : cv_St) : cv_MI LL G yX9_role cX9_role 3 (some .int) 6 139 [.ref (G.1 10), .int l1] σ (F_X9_role l1 σ) :=
  cv_mkI (by decide) (Nat.le_of_ble_eq_true rfl) (fun X hC => J_X9_role hC l1 σ)
/-! X9_cuts -/
set_option maxRecDepth 20000 in
set_option maxHeartbeats 2000000 in
theorem J_X9_cuts_b67 {X : cv_X} {G : cv_G} {LL : Launch} (hC : cv_C X G LL RX9 cX9_cuts 5 (some .boolean) { frames := 1, cells := 0, slots := 0, locals := 22 }) (σ : cv_St) : cv_J X G 5 0 0 (cv_QI X G) 67 [] [] σ (F_X9_cuts_b67  σ) := by
  unfold F_X9_cuts_b67
  refine cv_iconst (v := 1) hC dX9_cuts_67 cb_iconst_1 ?_
  refine cv_goto (tgt := 72) hC dX9_cuts_68 (by decide) ?_
  exact cv_zret hC dX9_cuts_72
set_option maxRecDepth 20000 in
set_option maxHeartbeats 2000000 in
theorem J_X9_cuts_b52 {X : cv_X} {G : cv_G} {LL : Launch} (hC : cv_C X G LL RX9 cX9_cuts 5 (some .boolean) { frames := 1, cells := 0, slots := 0, locals := 22 }) (l3 : Int32) (l4 : Int32) (σ : cv_St) : cv_J X G 5 0 0 (cv_QI X G) 52 [(3, .int l3), (4, .int l4)] [] σ (F_X9_cuts_b52 l3 l4 σ) := by
  unfold F_X9_cuts_b52
  refine cv_iload hC 1 dX9_cuts_52 rfl ?_
  refine cv_bipush (v := 99) hC dX9_cuts_54 cb_bipush_99 ?_
  refine cv_icmp_ne (tgt := 71) hC dX9_cuts_56 (by decide) ?_ ?_
  · refine cv_iconst (v := 0) hC dX9_cuts_71 cb_iconst_0 ?_
    exact cv_zret hC dX9_cuts_72
  · refine cv_iload_n hC 0 dX9_cuts_59 rfl rfl ?_
    refine cv_iconst (v := 1) hC dX9_cuts_60 cb_iconst_1 ?_
    refine cv_iadd hC dX9_cuts_61 ?_
    refine cv_bipush (v := 8) hC dX9_cuts_62 cb_bipush_8 ?_
    refine cv_icmp_ne (tgt := 71) hC dX9_cuts_64 (by decide) ?_ ?_
    · refine cv_iconst (v := 0) hC dX9_cuts_71 cb_iconst_0 ?_
      exact cv_zret hC dX9_cuts_72
    · exact cv_sub [] rfl (J_X9_cuts_b67 hC σ)
set_option maxRecDepth 20000 in
set_option maxHeartbeats 2000000 in
theorem J_X9_cuts_b34 {X : cv_X} {G : cv_G} {LL : Launch} (hC : cv_C X G LL RX9 cX9_cuts 5 (some .boolean) { frames := 1, cells := 0, slots := 0, locals := 22 }) (l3 : Int32) (l4 : Int32) (σ : cv_St) : cv_J X G 5 0 0 (cv_QI X G) 34 [(0, .ref (G.1 10)), (3, .int l3), (4, .int l4)] [] σ (F_X9_cuts_b34 l3 l4 σ) := by
  unfold F_X9_cuts_b34
  refine cv_iload hC 2 dX9_cuts_34 rfl ?_
  refine cv_bipush (v := 43) hC dX9_cuts_36 cb_bipush_43 ?_
  refine cv_icmp_ne (tgt := 52) hC dX9_cuts_38 (by decide) ?_ ?_
  · exact cv_sub [1, 2] rfl (J_X9_cuts_b52 hC l3 l4 σ)
  · refine cv_aload_n hC 0 dX9_cuts_41 rfl rfl ?_
    refine cv_getr hC (fg_X9_81_10 G) dX9_cuts_42 ?_
    refine cv_iload_n hC 1 dX9_cuts_45 rfl rfl ?_
    refine cv_iald hC (cv_a65 G) dX9_cuts_46 (fun v3 => ?_)
    refine cv_bipush (v := 6) hC dX9_cuts_47 cb_bipush_6 ?_
    refine cv_icmp_eq (tgt := 67) hC dX9_cuts_49 (by decide) ?_ ?_
    · exact cv_sub [] rfl (J_X9_cuts_b67 hC σ)
    · exact cv_sub [1, 2] rfl (J_X9_cuts_b52 hC l3 l4 σ)
set_option maxRecDepth 20000 in
set_option maxHeartbeats 2000000 in
theorem J_X9_cuts {X : cv_X} {G : cv_G} {LL : Launch} (hC : cv_C X G LL RX9 cX9_cuts 5 (some .boolean) { frames := 1, cells := 0, slots := 0, locals := 22 }) (l1 : Int32) (l2 : Int32) (l3 : Int32) (σ : cv_St) : cv_J X G 5 0 0 (cv_QI X G) 0 [(0, .ref (G.1 10)), (1, .int l1), (2, .int l2), (3, .int l3)] [] σ (F_X9_cuts l1 l2 l3 σ) := by
  unfold F_X9_cuts
  refine cv_aload_n hC 0 dX9_cuts_0 rfl rfl ?_
  refine cv_iload_n hC 1 dX9_cuts_1 rfl rfl ?_
  refine cv_iload_n hC 2 dX9_cuts_2 rfl rfl ?_
  refine cv_callVi (ob := 10) hC [.int l1, .int l2] [] (M_X9_kind LL G l1 l2 σ) ln_X9_138 vm_X9_kind (ob_10 G) rfl rfl (Nat.le_of_ble_eq_true rfl) ⟨Nat.le_of_ble_eq_true rfl, Nat.le_of_ble_eq_true rfl⟩ ⟨Nat.le_of_ble_eq_true rfl, Nat.le_of_ble_eq_true rfl⟩ dX9_cuts_3 (fun v2 s1 => ?_)
  refine cv_istore (lv' := [(4, .int v2), (0, .ref (G.1 10)), (1, .int l1), (2, .int l2), (3, .int l3)]) hC dX9_cuts_6 (by decide) rfl ?_
  refine cv_aload_n hC 1 dX9_cuts_8 rfl rfl ?_
  refine cv_geti hC (fg_X9_278_10 G) dX9_cuts_9 ?_
  refine cv_sipush (v := 300) hC dX9_cuts_12 cb_sipush_300 ?_
  refine cv_icmp_eq (tgt := 67) hC dX9_cuts_15 (by decide) ?_ ?_
  · exact cv_sub [] rfl (J_X9_cuts_b67 hC s1)
  · refine cv_iload hC 0 dX9_cuts_18 rfl ?_
    refine cv_bipush (v := 45) hC dX9_cuts_20 cb_bipush_45 ?_
    refine cv_icmp_ne (tgt := 34) hC dX9_cuts_22 (by decide) ?_ ?_
    · exact cv_sub [1, 4, 0] rfl (J_X9_cuts_b34 hC l3 v2 s1)
    · refine cv_aload_n hC 1 dX9_cuts_25 rfl rfl ?_
      refine cv_getr hC (fg_X9_81_10 G) dX9_cuts_26 ?_
      refine cv_iload_n hC 4 dX9_cuts_29 rfl rfl ?_
      refine cv_iald hC (cv_a65 G) dX9_cuts_30 (fun v4 => ?_)
      refine cv_if_eq (tgt := 67) hC dX9_cuts_31 (by decide) ?_ ?_
      · exact cv_sub [] rfl (J_X9_cuts_b67 hC s1)
      · exact cv_sub [1, 4, 0] rfl (J_X9_cuts_b34 hC l3 v2 s1)
set_option maxRecDepth 20000 in
set_option maxHeartbeats 2000000 in
theorem M_X9_cuts (LL : Launch) (G : cv_G) (l1 : Int32) (l2 : Int32) (l3 : Int32) (σ : cv_St) : cv_MI LL G yX9_cuts cX9_cuts 5 (some .boolean) 1 22 [.ref (G.1 10), .int l1, .int l2, .int l3] σ (F_X9_cuts l1 l2 l3 σ) :=
  cv_mkI (by decide) (Nat.le_of_ble_eq_true rfl) (fun X hC => J_X9_cuts hC l1 l2 l3 σ)
/-! X9_step -/
set_option maxRecDepth 20000 in
set_option maxHeartbeats 2000000 in
theorem J_X9_step {X : cv_X} {G : cv_G} {LL : Launch} {efr elo : Nat} (hfl : 3 ≤ efr ∧ 60 ≤ elo) (hC : cv_C X G LL RX9 cX9_step 6 none { frames := efr + 1, cells := 0, slots := 0, locals := elo + 24 }) (E : Int32 → Int32 → cv_St → Option cv_St) (hE : ∀ f d u, cv_MV LL G yX9_execute cX9_execute 5 efr elo [.ref (G.1 10), .int f, .int d] u (E f d u)) (l1 : Int32) (l2 : Int32) (l3 : Int32) (σ : cv_St) : cv_J X G 6 0 0 (cv_QV X G) 0 [(0, .ref (G.1 10)), (1, .int l1), (2, .int l2), (3, .int l3)] [] σ (F_X9_step E l1 l2 l3 σ) := by
  unfold F_X9_step
  refine cv_aload_n hC 0 dX9_step_0 rfl rfl ?_
  refine cv_iload_n hC 1 dX9_step_1 rfl rfl ?_
  refine cv_iload_n hC 2 dX9_step_2 rfl rfl ?_
  refine cv_callVi (ob := 10) hC [.int l1, .int l2] [] (M_X9_first LL G l1 l2 σ) ln_X9_141 vm_X9_first (ob_10 G) rfl rfl (Nat.le_of_ble_eq_true rfl) ⟨by dsimp only; omega, by dsimp only; omega⟩ ⟨Nat.le_of_ble_eq_true rfl, Nat.le_of_ble_eq_true rfl⟩ dX9_step_3 (fun v2 s1 => ?_)
  refine cv_istore (lv' := [(4, .int v2), (0, .ref (G.1 10)), (1, .int l1), (2, .int l2), (3, .int l3)]) hC dX9_step_6 (by decide) rfl ?_
  refine cv_bipush (v := 6) hC dX9_step_8 cb_bipush_6 ?_
  refine cv_iload_n hC 4 dX9_step_10 rfl rfl ?_
  refine cv_imul hC dX9_step_11 ?_
  refine cv_aload_n hC 1 dX9_step_12 rfl rfl ?_
  refine cv_getr hC (fg_X9_81_10 G) dX9_step_13 ?_
  refine cv_iload_n hC 4 dX9_step_16 rfl rfl ?_
  refine cv_iald hC (cv_a65 G) dX9_step_17 (fun v3 => ?_)
  refine cv_iadd hC dX9_step_18 ?_
  refine cv_istore (lv' := [(5, .int ((6 * l3) + v3)), (4, .int v2), (0, .ref (G.1 10)), (1, .int l1), (2, .int l2), (3, .int l3)]) hC dX9_step_19 (by decide) rfl ?_
  refine cv_aload_n hC 2 dX9_step_21 rfl rfl ?_
  refine cv_iload_n hC 3 dX9_step_22 rfl rfl ?_
  refine cv_iload_n hC 4 dX9_step_23 rfl rfl ?_
  refine cv_callVi (ob := 10) hC [.int l1, .int l2] [] (M_X9_kind LL G l1 l2 s1) ln_X9_138 vm_X9_kind (ob_10 G) rfl rfl (Nat.le_of_ble_eq_true rfl) ⟨by dsimp only; omega, by dsimp only; omega⟩ ⟨Nat.le_of_ble_eq_true rfl, Nat.le_of_ble_eq_true rfl⟩ dX9_step_24 (fun v5 s4 => ?_)
  refine cv_ite (fun hc => ?_) (fun hc0 => ?_)
  · refine cv_lookup (off := 94) (tgt := 121) hC dX9_step_27 (by decide) (by rw [hc]; decide) (by decide) ?_
    refine cv_aload_n hC 2 dX9_step_121 rfl rfl ?_
    refine cv_getr hC (fg_X9_78_10 G) dX9_step_122 ?_
    refine cv_iload hC 0 dX9_step_125 rfl ?_
    refine cv_aload_n hC 2 dX9_step_127 rfl rfl ?_
    refine cv_getr hC (fg_X9_75_10 G) dX9_step_128 ?_
    refine cv_iload hC 1 dX9_step_131 rfl ?_
    refine cv_iald hC (cv_a63 G) dX9_step_133 (fun v6 => ?_)
    refine cv_iast hC (cv_a64 G) dX9_step_134 (fun s7 => ?_)
    refine cv_aload_n hC 2 dX9_step_135 rfl rfl ?_
    refine cv_getr hC (fg_X9_81_10 G) dX9_step_136 ?_
    refine cv_iload_n hC 5 dX9_step_139 rfl rfl ?_
    refine cv_dup2 hC dX9_step_140 rfl rfl ?_
    refine cv_iald hC (cv_a65 G) dX9_step_141 (fun v8 => ?_)
    refine cv_iconst (v := 1) hC dX9_step_142 cb_iconst_1 ?_
    refine cv_iadd hC dX9_step_143 ?_
    refine cv_iast hC (cv_a65 G) dX9_step_144 (fun s9 => ?_)
    refine cv_goto (tgt := 189) hC dX9_step_145 (by decide) ?_
    exact cv_vret hC dX9_step_189
  · skip
    refine cv_ite (fun hc => ?_) (fun hc1 => ?_)
    · refine cv_lookup (off := 121) (tgt := 148) hC dX9_step_27 (by decide) (by rw [hc]; decide) (by decide) ?_
      refine cv_aload_n hC 2 dX9_step_148 rfl rfl ?_
      refine cv_getr hC (fg_X9_75_10 G) dX9_step_149 ?_
      refine cv_iload hC 1 dX9_step_152 rfl ?_
      refine cv_aload_n hC 2 dX9_step_154 rfl rfl ?_
      refine cv_getr hC (fg_X9_78_10 G) dX9_step_155 ?_
      refine cv_iload hC 0 dX9_step_158 rfl ?_
      refine cv_iconst (v := 1) hC dX9_step_160 cb_iconst_1 ?_
      refine cv_isub hC dX9_step_161 ?_
      refine cv_iald hC (cv_a64 G) dX9_step_162 (fun v10 => ?_)
      refine cv_iast hC (cv_a63 G) dX9_step_163 (fun s11 => ?_)
      refine cv_aload_n hC 2 dX9_step_164 rfl rfl ?_
      refine cv_getr hC (fg_X9_81_10 G) dX9_step_165 ?_
      refine cv_iload_n hC 5 dX9_step_168 rfl rfl ?_
      refine cv_dup2 hC dX9_step_169 rfl rfl ?_
      refine cv_iald hC (cv_a65 G) dX9_step_170 (fun v12 => ?_)
      refine cv_iconst (v := 1) hC dX9_step_171 cb_iconst_1 ?_
      refine cv_isub hC dX9_step_172 ?_
      refine cv_iast hC (cv_a65 G) dX9_step_173 (fun s13 => ?_)
      refine cv_goto (tgt := 189) hC dX9_step_174 (by decide) ?_
      exact cv_vret hC dX9_step_189
    · skip
      refine cv_ite (fun hc => ?_) (fun hc2 => ?_)
      · refine cv_lookup (off := 150) (tgt := 177) hC dX9_step_27 (by decide) (by rw [hc]; decide) (by decide) ?_
        refine cv_aload_n hC 2 dX9_step_177 rfl rfl ?_
        refine cv_iload hC 1 dX9_step_178 rfl ?_
        refine cv_iload_n hC 5 dX9_step_180 rfl rfl ?_
        refine cv_iconst (v := 1) hC dX9_step_181 cb_iconst_1 ?_
        refine cv_iadd hC dX9_step_182 ?_
        refine cv_callVv (ob := 10) hC [.int v2, .int (l3 + 1)] [] (hE _ _ _) ln_X9_300 vm_X9_execute (ob_10 G) rfl rfl (Nat.le_of_ble_eq_true rfl) ⟨by dsimp only; omega, by dsimp only; omega⟩ ⟨Nat.le_of_ble_eq_true rfl, Nat.le_of_ble_eq_true rfl⟩ dX9_step_183 (fun s14 => ?_)
        refine cv_goto (tgt := 189) hC dX9_step_186 (by decide) ?_
        exact cv_vret hC dX9_step_189
      · skip
        refine cv_ite (fun hc => ?_) (fun hc3 => ?_)
        · refine cv_lookup (off := 49) (tgt := 76) hC dX9_step_27 (by decide) (by rw [hc]; decide) (by decide) ?_
          refine cv_aload_n hC 2 dX9_step_76 rfl rfl ?_
          refine cv_getr hC (fg_X9_75_10 G) dX9_step_77 ?_
          refine cv_iload hC 1 dX9_step_80 rfl ?_
          refine cv_aload_n hC 2 dX9_step_82 rfl rfl ?_
          refine cv_geti hC (fg_X9_297_10 G) dX9_step_83 ?_
          refine cv_iast hC (cv_a63 G) dX9_step_86 (fun s15 => ?_)
          refine cv_aload_n hC 2 dX9_step_87 rfl rfl ?_
          refine cv_dup hC dX9_step_88 rfl ?_
          refine cv_geti hC (fg_X9_297_10 G) dX9_step_89 ?_
          refine cv_iconst (v := 1) hC dX9_step_92 cb_iconst_1 ?_
          refine cv_iadd hC dX9_step_93 ?_
          refine cv_puti hC (fp_X9_297_10 G) dX9_step_94 (fun s16 => ?_)
          refine cv_goto (tgt := 189) hC dX9_step_97 (by decide) ?_
          exact cv_vret hC dX9_step_189
        · skip
          refine cv_ite (fun hc => ?_) (fun hc4 => ?_)
          · refine cv_lookup (off := 73) (tgt := 100) hC dX9_step_27 (by decide) (by rw [hc]; decide) (by decide) ?_
            refine cv_aload_n hC 2 dX9_step_100 rfl rfl ?_
            refine cv_getr hC (fg_X9_75_10 G) dX9_step_101 ?_
            refine cv_iload hC 1 dX9_step_104 rfl ?_
            refine cv_aload_n hC 2 dX9_step_106 rfl rfl ?_
            refine cv_getr hC (fg_X9_75_10 G) dX9_step_107 ?_
            refine cv_aload_n hC 2 dX9_step_110 rfl rfl ?_
            refine cv_iload_n hC 3 dX9_step_111 rfl rfl ?_
            refine cv_iload_n hC 4 dX9_step_112 rfl rfl ?_
            refine cv_callVi (ob := 10) hC [.int l1, .int l2] [.ref (G.1 63), .int v2, .ref (G.1 63)] (M_X9_second LL G l1 l2 s4) ln_X9_144 vm_X9_second (ob_10 G) rfl rfl (Nat.le_of_ble_eq_true rfl) ⟨by dsimp only; omega, by dsimp only; omega⟩ ⟨Nat.le_of_ble_eq_true rfl, Nat.le_of_ble_eq_true rfl⟩ dX9_step_113 (fun v18 s17 => ?_)
            refine cv_iald hC (cv_a63 G) dX9_step_116 (fun v19 => ?_)
            refine cv_iast hC (cv_a63 G) dX9_step_117 (fun s20 => ?_)
            refine cv_goto (tgt := 189) hC dX9_step_118 (by decide) ?_
            exact cv_vret hC dX9_step_189
          · skip
            refine cv_lookup (off := 162) (tgt := 189) hC dX9_step_27 (by decide) (by rw [show (#[(43, 94), (45, 121), (99, 150), (100, 49), (109, 73)] : Array (Int × Int)).toList = [(43, 94), (45, 121), (99, 150), (100, 49), (109, 73)] from rfl, lv_osw (k := 43) hc0 (by decide), lv_osw (k := 45) hc1 (by decide), lv_osw (k := 99) hc2 (by decide), lv_osw (k := 100) hc3 (by decide), lv_osw (k := 109) hc4 (by decide)]; rfl) (by decide) ?_
            exact cv_vret hC dX9_step_189
set_option maxRecDepth 20000 in
set_option maxHeartbeats 2000000 in
theorem M_X9_step {LL : Launch} {G : cv_G} {efr elo : Nat} (hfl : 3 ≤ efr ∧ 60 ≤ elo) {E : Int32 → Int32 → cv_St → Option cv_St} (hE : ∀ f d u, cv_MV LL G yX9_execute cX9_execute 5 efr elo [.ref (G.1 10), .int f, .int d] u (E f d u)) (l1 : Int32) (l2 : Int32) (l3 : Int32) (σ : cv_St) : cv_MV LL G yX9_step cX9_step 6 (efr + 1) (elo + 24) [.ref (G.1 10), .int l1, .int l2, .int l3] σ (F_X9_step E l1 l2 l3 σ) :=
  cv_mkV (by decide) (Nat.le_of_ble_eq_true rfl) (fun X hC => J_X9_step hfl hC E hE l1 l2 l3 σ)
/-! X9_execute -/
set_option maxRecDepth 20000 in
set_option maxHeartbeats 2000000 in
theorem J_X9_execute_b94 {X : cv_X} {G : cv_G} {LL : Launch} {efr elo : Nat} (hfl : 3 ≤ efr ∧ 60 ≤ elo) (hC : cv_C X G LL RX9 cX9_execute 5 none { frames := efr + 2, cells := 0, slots := 0, locals := elo + 60 }) (E : Int32 → Int32 → cv_St → Option cv_St) (hE : ∀ f d u, cv_MV LL G yX9_execute cX9_execute 5 efr elo [.ref (G.1 10), .int f, .int d] u (E f d u)) (k9 : Int32 → Int32 → Int32 → cv_St → Option (cv_St)) (hk9 : ∀ (l1 : Int32) (l2 : Int32) (l3 : Int32)  σ, cv_J X G 5 0 0 (cv_QV X G) 9 [(0, .ref (G.1 10)), (1, .int l1), (2, .int l2), (3, .int l3)] [] σ (k9 l1 l2 l3 σ)) (l1 : Int32) (l2 : Int32) (l3 : Int32) (l4 : Int32) (σ : cv_St) : cv_J X G 5 0 0 (cv_QV X G) 94 [(0, .ref (G.1 10)), (1, .int l1), (2, .int l2), (3, .int l3), (4, .int l4)] [] σ (F_X9_execute_b94 E k9 l1 l2 l3 l4 σ) := by
  unfold F_X9_execute_b94
  refine cv_aload_n hC 0 dX9_execute_94 rfl rfl ?_
  refine cv_iload_n hC 1 dX9_execute_95 rfl rfl ?_
  refine cv_iload_n hC 3 dX9_execute_96 rfl rfl ?_
  refine cv_iload_n hC 2 dX9_execute_97 rfl rfl ?_
  refine cv_callVv (ob := 10) hC [.int l1, .int l3, .int l2] [] (M_X9_step hfl hE l1 l3 l2 σ) ln_X9_294 vm_X9_step (ob_10 G) rfl rfl (Nat.le_of_ble_eq_true rfl) ⟨by dsimp only; omega, by dsimp only; omega⟩ ⟨Nat.le_of_ble_eq_true rfl, Nat.le_of_ble_eq_true rfl⟩ dX9_execute_98 (fun s9 => ?_)
  refine cv_aload_n hC 0 dX9_execute_101 rfl rfl ?_
  refine cv_iload_n hC 1 dX9_execute_102 rfl rfl ?_
  refine cv_iload_n hC 3 dX9_execute_103 rfl rfl ?_
  refine cv_iload hC 4 dX9_execute_104 rfl ?_
  refine cv_callVi (ob := 10) hC [.int l1, .int l3, .int l4] [] (M_X9_next LL G l1 l3 l4 s9) ln_X9_155 vm_X9_next (ob_10 G) rfl rfl (Nat.le_of_ble_eq_true rfl) ⟨by dsimp only; omega, by dsimp only; omega⟩ ⟨Nat.le_of_ble_eq_true rfl, Nat.le_of_ble_eq_true rfl⟩ dX9_execute_106 (fun v11 s10 => ?_)
  refine cv_istore_n (lv' := [(3, .int v11), (0, .ref (G.1 10)), (1, .int l1), (2, .int l2), (4, .int l4)]) hC dX9_execute_109 rfl (by decide) rfl ?_
  refine cv_goto (tgt := 9) hC dX9_execute_110 (by decide) ?_
  exact cv_sub [1, 2, 3, 0] rfl (hk9 l1 l2 v11 s10)
set_option maxRecDepth 20000 in
set_option maxHeartbeats 2000000 in
theorem I_X9_execute_b9 {X : cv_X} {G : cv_G} {LL : Launch} {efr elo : Nat} (hfl : 3 ≤ efr ∧ 60 ≤ elo) (hC : cv_C X G LL RX9 cX9_execute 5 none { frames := efr + 2, cells := 0, slots := 0, locals := elo + 60 }) (E : Int32 → Int32 → cv_St → Option cv_St) (hE : ∀ f d u, cv_MV LL G yX9_execute cX9_execute 5 efr elo [.ref (G.1 10), .int f, .int d] u (E f d u)) (k9 : Int32 → Int32 → Int32 → cv_St → Option (cv_St)) (hk9 : ∀ (l1 : Int32) (l2 : Int32) (l3 : Int32)  σ, cv_J X G 5 0 0 (cv_QV X G) 9 [(0, .ref (G.1 10)), (1, .int l1), (2, .int l2), (3, .int l3)] [] σ (k9 l1 l2 l3 σ)) (l1 : Int32) (l2 : Int32) (l3 : Int32) (σ : cv_St) : cv_J X G 5 0 0 (cv_QV X G) 9 [(0, .ref (G.1 10)), (1, .int l1), (2, .int l2), (3, .int l3)] [] σ (B_X9_execute_b9 E k9 l1 l2 l3 σ) := by
  unfold B_X9_execute_b9
  refine cv_iload_n hC 3 dX9_execute_9 rfl rfl ?_
  refine cv_aload_n hC 0 dX9_execute_10 rfl rfl ?_
  refine cv_getr hC (fg_X9_9_10 G) dX9_execute_11 ?_
  refine cv_iload_n hC 1 dX9_execute_14 rfl rfl ?_
  refine cv_iald hC (cv_a43 G) dX9_execute_15 (fun v2 => ?_)
  refine cv_icmp_ge (tgt := 113) hC dX9_execute_16 (by decide) ?_ ?_
  · exact cv_vret hC dX9_execute_113
  · refine cv_aload_n hC 0 dX9_execute_19 rfl rfl ?_
    refine cv_geti hC (fg_X9_281_10 G) dX9_execute_20 ?_
    refine cv_if_ne (tgt := 113) hC dX9_execute_23 (by decide) ?_ ?_
    · exact cv_vret hC dX9_execute_113
    · refine cv_aload_n hC 0 dX9_execute_26 rfl rfl ?_
      refine cv_aload_n hC 0 dX9_execute_27 rfl rfl ?_
      refine cv_iload_n hC 1 dX9_execute_28 rfl rfl ?_
      refine cv_iload_n hC 3 dX9_execute_29 rfl rfl ?_
      refine cv_iload_n hC 2 dX9_execute_30 rfl rfl ?_
      refine cv_callVi (ob := 10) hC [.int l1, .int l3, .int l2] [.ref (G.1 10)] (M_X9_cuts LL G l1 l3 l2 σ) ln_X9_284 vm_X9_cuts (ob_10 G) rfl rfl (Nat.le_of_ble_eq_true rfl) ⟨by dsimp only; omega, by dsimp only; omega⟩ ⟨Nat.le_of_ble_eq_true rfl, Nat.le_of_ble_eq_true rfl⟩ dX9_execute_31 (fun v4 s3 => ?_)
      refine cv_putz hC (fp_X9_281_10 G) dX9_execute_34 (fun s5 => ?_)
      refine cv_aload_n hC 0 dX9_execute_37 rfl rfl ?_
      refine cv_geti hC (fg_X9_281_10 G) dX9_execute_38 ?_
      refine cv_if_ne (tgt := 9) hC dX9_execute_41 (by decide) ?_ ?_
      · exact cv_sub [0, 1, 2, 3] rfl (hk9 l1 l2 l3 s5)
      · refine cv_aload_n hC 0 dX9_execute_44 rfl rfl ?_
        refine cv_dup hC dX9_execute_45 rfl ?_
        refine cv_geti hC (fg_X9_278_10 G) dX9_execute_46 ?_
        refine cv_iconst (v := 1) hC dX9_execute_49 cb_iconst_1 ?_
        refine cv_iadd hC dX9_execute_50 ?_
        refine cv_puti hC (fp_X9_278_10 G) dX9_execute_51 (fun s6 => ?_)
        refine cv_iconst (v := 0) hC dX9_execute_54 cb_iconst_0 ?_
        refine cv_istore (lv' := [(4, .int 0), (0, .ref (G.1 10)), (1, .int l1), (2, .int l2), (3, .int l3)]) hC dX9_execute_55 (by decide) rfl ?_
        refine cv_aload_n hC 1 dX9_execute_57 rfl rfl ?_
        refine cv_iload_n hC 2 dX9_execute_58 rfl rfl ?_
        refine cv_iload_n hC 4 dX9_execute_59 rfl rfl ?_
        refine cv_callVi (ob := 10) hC [.int l1, .int l3] [] (M_X9_kind LL G l1 l3 s6) ln_X9_138 vm_X9_kind (ob_10 G) rfl rfl (Nat.le_of_ble_eq_true rfl) ⟨by dsimp only; omega, by dsimp only; omega⟩ ⟨Nat.le_of_ble_eq_true rfl, Nat.le_of_ble_eq_true rfl⟩ dX9_execute_60 (fun v8 s7 => ?_)
        refine cv_bipush (v := 98) hC dX9_execute_63 cb_bipush_98 ?_
        refine cv_icmp_ne (tgt := 94) hC dX9_execute_65 (by decide) ?_ ?_
        · exact cv_sub [1, 2, 3, 4, 0] rfl (J_X9_execute_b94 hfl hC E hE k9 hk9 l1 l2 l3 0 s7)
        · refine cv_aload_n hC 1 dX9_execute_68 rfl rfl ?_
          refine cv_geti hC (fg_X9_288_10 G) dX9_execute_69 ?_
          refine cv_aload_n hC 1 dX9_execute_72 rfl rfl ?_
          refine cv_geti hC (fg_X9_291_10 G) dX9_execute_73 ?_
          refine cv_bipush (v := 32) hC dX9_execute_76 cb_bipush_32 ?_
          refine cv_irem hC dX9_execute_78 (by decide) ?_
          refine cv_ishr hC dX9_execute_79 ?_
          refine cv_iconst (v := 1) hC dX9_execute_80 cb_iconst_1 ?_
          refine cv_iand hC dX9_execute_81 ?_
          refine cv_istore (lv' := [(4, .int (((s7.2.1 27) >>> (((s7.2.1 26) - (s7.2.1 26) / 32 * 32) &&& 31)) &&& 1)), (0, .ref (G.1 10)), (1, .int l1), (2, .int l2), (3, .int l3)]) hC dX9_execute_82 (by decide) rfl ?_
          refine cv_aload_n hC 1 dX9_execute_84 rfl rfl ?_
          refine cv_dup hC dX9_execute_85 rfl ?_
          refine cv_geti hC (fg_X9_291_10 G) dX9_execute_86 ?_
          refine cv_iconst (v := 1) hC dX9_execute_89 cb_iconst_1 ?_
          refine cv_iadd hC dX9_execute_90 ?_
          refine cv_puti hC (fp_X9_291_10 G) dX9_execute_91 (fun s12 => ?_)
          exact cv_sub [1, 2, 3, 4, 0] rfl (J_X9_execute_b94 hfl hC E hE k9 hk9 l1 l2 l3 (((s7.2.1 27) >>> (((s7.2.1 26) - (s7.2.1 26) / 32 * 32) &&& 31)) &&& 1) s12)
set_option maxRecDepth 20000 in
set_option maxHeartbeats 2000000 in
theorem J_X9_execute_b9 {X : cv_X} {G : cv_G} {LL : Launch} {efr elo : Nat} (hfl : 3 ≤ efr ∧ 60 ≤ elo) (hC : cv_C X G LL RX9 cX9_execute 5 none { frames := efr + 2, cells := 0, slots := 0, locals := elo + 60 }) (E : Int32 → Int32 → cv_St → Option cv_St) (hE : ∀ f d u, cv_MV LL G yX9_execute cX9_execute 5 efr elo [.ref (G.1 10), .int f, .int d] u (E f d u)) : ∀ (n : Nat) (l1 : Int32) (l2 : Int32) (l3 : Int32) (σ : cv_St), cv_J X G 5 0 0 (cv_QV X G) 9 [(0, .ref (G.1 10)), (1, .int l1), (2, .int l2), (3, .int l3)] [] σ (F_X9_execute_b9 E n l1 l2 l3 σ) := by
  intro n
  induction n with
  | zero => intro l1 l2 l3 σ; exact cv_none
  | succ n ih => intro l1 l2 l3 σ; exact I_X9_execute_b9 hfl hC E hE _ ih l1 l2 l3 σ
set_option maxRecDepth 20000 in
set_option maxHeartbeats 2000000 in
theorem J_X9_execute {X : cv_X} {G : cv_G} {LL : Launch} {efr elo : Nat} (hfl : 3 ≤ efr ∧ 60 ≤ elo) (hC : cv_C X G LL RX9 cX9_execute 5 none { frames := efr + 2, cells := 0, slots := 0, locals := elo + 60 }) (E : Int32 → Int32 → cv_St → Option cv_St) (hE : ∀ f d u, cv_MV LL G yX9_execute cX9_execute 5 efr elo [.ref (G.1 10), .int f, .int d] u (E f d u)) (l1 : Int32) (l2 : Int32) (σ : cv_St) : cv_J X G 5 0 0 (cv_QV X G) 0 [(0, .ref (G.1 10)), (1, .int l1), (2, .int l2)] [] σ (F_X9_executeE E l1 l2 σ) := by
  unfold F_X9_executeE
  refine cv_aload_n hC 0 dX9_execute_0 rfl rfl ?_
  refine cv_getr hC (fg_X9_81_10 G) dX9_execute_1 ?_
  refine cv_iload_n hC 2 dX9_execute_4 rfl rfl ?_
  refine cv_iconst (v := 0) hC dX9_execute_5 cb_iconst_0 ?_
  refine cv_iast hC (cv_a65 G) dX9_execute_6 (fun s1 => ?_)
  refine cv_iconst (v := 0) hC dX9_execute_7 cb_iconst_0 ?_
  refine cv_istore_n (lv' := [(3, .int 0), (0, .ref (G.1 10)), (1, .int l1), (2, .int l2)]) hC dX9_execute_8 rfl (by decide) rfl ?_
  exact cv_sub [1, 2, 3, 0] rfl (J_X9_execute_b9 hfl hC E hE 1000 l1 l2 0 s1)
set_option maxRecDepth 20000 in
set_option maxHeartbeats 2000000 in
theorem M_X9_execute (LL : Launch) (G : cv_G) : ∀ (n : Nat) (l1 l2 : Int32) (σ : cv_St), cv_MV LL G yX9_execute cX9_execute 5 (2 * n + 3) (60 * n + 60) [.ref (G.1 10), .int l1, .int l2] σ (F_X9_execute n l1 l2 σ) := by
  intro n
  induction n with
  | zero => intro l1 l2 σ sz r h; cases h
  | succ n ih => intro l1 l2 σ; exact cv_mkV (fr := 2 * n + 3 + 2) (lo := 60 * n + 60 + 60) (by decide) (Nat.le_of_ble_eq_true rfl) (fun X hC => J_X9_execute ⟨by omega, by omega⟩ hC (F_X9_execute n) ih l1 l2 σ)
/-! X9_run -/
set_option maxRecDepth 20000 in
set_option maxHeartbeats 2000000 in
theorem I_X9_run_b27 {X : cv_X} {G : cv_G} {LL : Launch} (hC : cv_C X G LL RX9 cX9_run 4 (some .int) { frames := 22, cells := 0, slots := 0, locals := 624 }) (k27 : Int32 → Int32 → Int32 → cv_St → Option (Int32 × cv_St)) (hk27 : ∀ (l1 : Int32) (l2 : Int32) (l3 : Int32)  σ, cv_J X G 4 0 0 (cv_QI X G) 27 [(0, .ref (G.1 10)), (1, .int l1), (2, .int l2), (3, .int l3)] [] σ (k27 l1 l2 l3 σ)) (l1 : Int32) (l2 : Int32) (l3 : Int32) (σ : cv_St) : cv_J X G 4 0 0 (cv_QI X G) 27 [(0, .ref (G.1 10)), (1, .int l1), (2, .int l2), (3, .int l3)] [] σ (B_X9_run_b27 k27 l1 l2 l3 σ) := by
  unfold B_X9_run_b27
  refine cv_iload_n hC 3 dX9_run_27 rfl rfl ?_
  refine cv_bipush (v := 8) hC dX9_run_28 cb_bipush_8 ?_
  refine cv_icmp_ge (tgt := 46) hC dX9_run_30 (by decide) ?_ ?_
  · refine cv_aload_n hC 0 dX9_run_46 rfl rfl ?_
    refine cv_bipush (v := 8) hC dX9_run_47 cb_bipush_8 ?_
    refine cv_puti hC (fp_X9_297_10 G) dX9_run_49 (fun s4 => ?_)
    refine cv_aload_n hC 0 dX9_run_52 rfl rfl ?_
    refine cv_iconst (v := 0) hC dX9_run_53 cb_iconst_0 ?_
    refine cv_puti hC (fp_X9_278_10 G) dX9_run_54 (fun s5 => ?_)
    refine cv_aload_n hC 0 dX9_run_57 rfl rfl ?_
    refine cv_iconst (v := 0) hC dX9_run_58 cb_iconst_0 ?_
    refine cv_puti hC (fp_X9_291_10 G) dX9_run_59 (fun s6 => ?_)
    refine cv_aload_n hC 0 dX9_run_62 rfl rfl ?_
    refine cv_iload_n hC 2 dX9_run_63 rfl rfl ?_
    refine cv_puti hC (fp_X9_288_10 G) dX9_run_64 (fun s7 => ?_)
    refine cv_aload_n hC 0 dX9_run_67 rfl rfl ?_
    refine cv_iconst (v := 0) hC dX9_run_68 cb_iconst_0 ?_
    refine cv_putz hC (fp_X9_281_10 G) dX9_run_69 (fun s8 => ?_)
    refine cv_aload_n hC 0 dX9_run_72 rfl rfl ?_
    refine cv_iload_n hC 1 dX9_run_73 rfl rfl ?_
    refine cv_iconst (v := 0) hC dX9_run_74 cb_iconst_0 ?_
    refine cv_callVv (ob := 10) hC [.int l1, .int 0] [] (M_X9_execute LL G 9 l1 0 s8) ln_X9_300 vm_X9_execute (ob_10 G) rfl rfl (Nat.le_of_ble_eq_true rfl) ⟨Nat.le_of_ble_eq_true rfl, Nat.le_of_ble_eq_true rfl⟩ ⟨Nat.le_of_ble_eq_true rfl, Nat.le_of_ble_eq_true rfl⟩ dX9_run_75 (fun s9 => ?_)
    refine cv_aload_n hC 0 dX9_run_78 rfl rfl ?_
    refine cv_iconst (v := 1) hC dX9_run_79 cb_iconst_1 ?_
    refine cv_putz hC (fp_X9_101_10 G) dX9_run_80 (fun s10 => ?_)
    refine cv_aload_n hC 0 dX9_run_83 rfl rfl ?_
    refine cv_geti hC (fg_X9_278_10 G) dX9_run_84 ?_
    exact cv_iret hC dX9_run_87
  · refine cv_aload_n hC 0 dX9_run_33 rfl rfl ?_
    refine cv_getr hC (fg_X9_75_10 G) dX9_run_34 ?_
    refine cv_iload_n hC 3 dX9_run_37 rfl rfl ?_
    refine cv_iload_n hC 3 dX9_run_38 rfl rfl ?_
    refine cv_iast hC (cv_a63 G) dX9_run_39 (fun s11 => ?_)
    refine cv_iinc (lv' := [(3, .int (l3 + Int32.ofInt 1)), (0, .ref (G.1 10)), (1, .int l1), (2, .int l2)]) hC 3 dX9_run_40 rfl (by decide) rfl ?_
    refine cv_goto (tgt := 27) hC dX9_run_43 (by decide) ?_
    exact cv_sub [1, 2, 3, 0] rfl (hk27 l1 l2 (l3 + Int32.ofInt 1) s11)
set_option maxRecDepth 20000 in
set_option maxHeartbeats 2000000 in
theorem J_X9_run_b27 {X : cv_X} {G : cv_G} {LL : Launch} (hC : cv_C X G LL RX9 cX9_run 4 (some .int) { frames := 22, cells := 0, slots := 0, locals := 624 }) : ∀ (n : Nat) (l1 : Int32) (l2 : Int32) (l3 : Int32) (σ : cv_St), cv_J X G 4 0 0 (cv_QI X G) 27 [(0, .ref (G.1 10)), (1, .int l1), (2, .int l2), (3, .int l3)] [] σ (F_X9_run_b27 n l1 l2 l3 σ) := by
  intro n
  induction n with
  | zero => intro l1 l2 l3 σ; exact cv_none
  | succ n ih => intro l1 l2 l3 σ; exact I_X9_run_b27 hC _ ih l1 l2 l3 σ
set_option maxRecDepth 20000 in
set_option maxHeartbeats 2000000 in
theorem J_X9_run_b13 {X : cv_X} {G : cv_G} {LL : Launch} (hC : cv_C X G LL RX9 cX9_run 4 (some .int) { frames := 22, cells := 0, slots := 0, locals := 624 }) (l1 : Int32) (l2 : Int32) (t0 : Int32) (σ : cv_St) : cv_J X G 4 0 0 (cv_QI X G) 13 [(0, .ref (G.1 10)), (1, .int l1), (2, .int l2)] [.int t0, .ref (G.1 10)] σ (F_X9_run_b13 l1 l2 t0 σ) := by
  unfold F_X9_run_b13
  refine cv_puti hC (fp_X9_84_10 G) dX9_run_13 (fun s3 => ?_)
  refine cv_aload_n hC 0 dX9_run_16 rfl rfl ?_
  refine cv_geti hC (fg_X9_84_10 G) dX9_run_17 ?_
  refine cv_if_le (tgt := 25) hC dX9_run_20 (by decide) ?_ ?_
  · refine cv_iconst (v := 0) hC dX9_run_25 cb_iconst_0 ?_
    refine cv_istore_n (lv' := [(3, .int 0), (0, .ref (G.1 10)), (1, .int l1), (2, .int l2)]) hC dX9_run_26 rfl (by decide) rfl ?_
    exact cv_sub [1, 2, 3, 0] rfl (J_X9_run_b27 hC 1000 l1 l2 0 s3)
  · refine cv_iconst (v := 0) hC dX9_run_23 cb_iconst_0 ?_
    exact cv_iret hC dX9_run_24
set_option maxRecDepth 20000 in
set_option maxHeartbeats 2000000 in
theorem J_X9_run {X : cv_X} {G : cv_G} {LL : Launch} (hC : cv_C X G LL RX9 cX9_run 4 (some .int) { frames := 22, cells := 0, slots := 0, locals := 624 }) (l1 : Int32) (l2 : Int32) (σ : cv_St) : cv_J X G 4 0 0 (cv_QI X G) 0 [(0, .ref (G.1 10)), (1, .int l1), (2, .int l2)] [] σ (F_X9_run l1 l2 σ) := by
  unfold F_X9_run
  refine cv_aload_n hC 0 dX9_run_0 rfl rfl ?_
  refine cv_iload_n hC 1 dX9_run_1 rfl rfl ?_
  refine cv_callSi hC [.int l1] [.ref (G.1 10)] (M_X9_isFunction LL G l1 σ) ln_X9_93 vm_X9_isFunction rfl rfl (Nat.le_of_ble_eq_true rfl) ⟨Nat.le_of_ble_eq_true rfl, Nat.le_of_ble_eq_true rfl⟩ ⟨Nat.le_of_ble_eq_true rfl, Nat.le_of_ble_eq_true rfl⟩ dX9_run_2 (fun v2 s1 => ?_)
  refine cv_if_eq (tgt := 12) hC dX9_run_5 (by decide) ?_ ?_
  · refine cv_iconst (v := 1) hC dX9_run_12 cb_iconst_1 ?_
    exact cv_sub [0, 1, 2] rfl (J_X9_run_b13 hC l1 l2 1 s1)
  · refine cv_iconst (v := 0) hC dX9_run_8 cb_iconst_0 ?_
    refine cv_goto (tgt := 13) hC dX9_run_9 (by decide) ?_
    exact cv_sub [0, 1, 2] rfl (J_X9_run_b13 hC l1 l2 0 s1)
set_option maxRecDepth 20000 in
set_option maxHeartbeats 2000000 in
theorem M_X9_run (LL : Launch) (G : cv_G) (l1 : Int32) (l2 : Int32) (σ : cv_St) : cv_MI LL G yX9_run cX9_run 4 (some .int) 22 624 [.ref (G.1 10), .int l1, .int l2] σ (F_X9_run l1 l2 σ) :=
  cv_mkI (by decide) (Nat.le_of_ble_eq_true rfl) (fun X hC => J_X9_run hC l1 l2 σ)
/-! X9_isCut -/
set_option maxRecDepth 20000 in
set_option maxHeartbeats 2000000 in
theorem J_X9_isCut_b13 {X : cv_X} {G : cv_G} {LL : Launch} (hC : cv_C X G LL RX9 cX9_isCut 1 (some .boolean) { frames := 0, cells := 0, slots := 0, locals := 0 }) (t0 : Int32) (σ : cv_St) : cv_J X G 1 0 0 (cv_QI X G) 13 [(0, .ref (G.1 10))] [.int t0, .ref (G.1 10)] σ (F_X9_isCut_b13 t0 σ) := by
  unfold F_X9_isCut_b13
  refine cv_puti hC (fp_X9_84_10 G) dX9_isCut_13 (fun s1 => ?_)
  refine cv_aload_n hC 0 dX9_isCut_16 rfl rfl ?_
  refine cv_geti hC (fg_X9_84_10 G) dX9_isCut_17 ?_
  refine cv_if_ne (tgt := 34) hC dX9_isCut_20 (by decide) ?_ ?_
  · refine cv_iconst (v := 0) hC dX9_isCut_34 cb_iconst_0 ?_
    exact cv_zret hC dX9_isCut_35
  · refine cv_aload_n hC 0 dX9_isCut_23 rfl rfl ?_
    refine cv_geti hC (fg_X9_281_10 G) dX9_isCut_24 ?_
    refine cv_if_eq (tgt := 34) hC dX9_isCut_27 (by decide) ?_ ?_
    · refine cv_iconst (v := 0) hC dX9_isCut_34 cb_iconst_0 ?_
      exact cv_zret hC dX9_isCut_35
    · refine cv_iconst (v := 1) hC dX9_isCut_30 cb_iconst_1 ?_
      refine cv_goto (tgt := 35) hC dX9_isCut_31 (by decide) ?_
      exact cv_zret hC dX9_isCut_35
set_option maxRecDepth 20000 in
set_option maxHeartbeats 2000000 in
theorem J_X9_isCut {X : cv_X} {G : cv_G} {LL : Launch} (hC : cv_C X G LL RX9 cX9_isCut 1 (some .boolean) { frames := 0, cells := 0, slots := 0, locals := 0 }) (σ : cv_St) : cv_J X G 1 0 0 (cv_QI X G) 0 [(0, .ref (G.1 10))] [] σ (F_X9_isCut σ) := by
  unfold F_X9_isCut
  refine cv_aload_n hC 0 dX9_isCut_0 rfl rfl ?_
  refine cv_aload_n hC 0 dX9_isCut_1 rfl rfl ?_
  refine cv_geti hC (fg_X9_101_10 G) dX9_isCut_2 ?_
  refine cv_if_eq (tgt := 12) hC dX9_isCut_5 (by decide) ?_ ?_
  · refine cv_iconst (v := 1) hC dX9_isCut_12 cb_iconst_1 ?_
    exact cv_sub [0] rfl (J_X9_isCut_b13 hC 1 σ)
  · refine cv_iconst (v := 0) hC dX9_isCut_8 cb_iconst_0 ?_
    refine cv_goto (tgt := 13) hC dX9_isCut_9 (by decide) ?_
    exact cv_sub [0] rfl (J_X9_isCut_b13 hC 0 σ)
set_option maxRecDepth 20000 in
set_option maxHeartbeats 2000000 in
theorem M_X9_isCut (LL : Launch) (G : cv_G) (σ : cv_St) : cv_MI LL G yX9_isCut cX9_isCut 1 (some .boolean) 0 0 [.ref (G.1 10)] σ (F_X9_isCut σ) :=
  cv_mkI (by decide) (Nat.le_of_ble_eq_true rfl) (fun X hC => J_X9_isCut hC σ)
/-! X9_observed -/
set_option maxRecDepth 20000 in
set_option maxHeartbeats 2000000 in
theorem J_X9_observed_b62 {X : cv_X} {G : cv_G} {LL : Launch} (hC : cv_C X G LL RX9 cX9_observed 3 (some .int) { frames := 0, cells := 0, slots := 0, locals := 0 }) (k31 : Int32 → Int32 → cv_St → Option (Int32 × cv_St)) (hk31 : ∀ (l1 : Int32) (l2 : Int32)  σ, cv_J X G 3 0 0 (cv_QI X G) 31 [(0, .ref (G.1 10)), (1, .int l1), (2, .int l2)] [] σ (k31 l1 l2 σ)) (l2 : Int32) (t0 : Int32) (t1 : Int32) (σ : cv_St) : cv_J X G 3 0 0 (cv_QI X G) 62 [(0, .ref (G.1 10)), (2, .int l2)] [.int t0, .int t1] σ (F_X9_observed_b62 k31 l2 t0 t1 σ) := by
  unfold F_X9_observed_b62
  refine cv_ior hC dX9_observed_62 ?_
  refine cv_istore_n (lv' := [(1, .int (t1 ||| t0)), (0, .ref (G.1 10)), (2, .int l2)]) hC dX9_observed_63 rfl (by decide) rfl ?_
  refine cv_iinc (lv' := [(2, .int (l2 + Int32.ofInt 1)), (1, .int (t1 ||| t0)), (0, .ref (G.1 10))]) hC 2 dX9_observed_64 rfl (by decide) rfl ?_
  refine cv_goto (tgt := 31) hC dX9_observed_67 (by decide) ?_
  exact cv_sub [2, 1, 0] rfl (hk31 (t1 ||| t0) (l2 + Int32.ofInt 1) σ)
set_option maxRecDepth 20000 in
set_option maxHeartbeats 2000000 in
theorem I_X9_observed_b31 {X : cv_X} {G : cv_G} {LL : Launch} (hC : cv_C X G LL RX9 cX9_observed 3 (some .int) { frames := 0, cells := 0, slots := 0, locals := 0 }) (k31 : Int32 → Int32 → cv_St → Option (Int32 × cv_St)) (hk31 : ∀ (l1 : Int32) (l2 : Int32)  σ, cv_J X G 3 0 0 (cv_QI X G) 31 [(0, .ref (G.1 10)), (1, .int l1), (2, .int l2)] [] σ (k31 l1 l2 σ)) (l1 : Int32) (l2 : Int32) (σ : cv_St) : cv_J X G 3 0 0 (cv_QI X G) 31 [(0, .ref (G.1 10)), (1, .int l1), (2, .int l2)] [] σ (B_X9_observed_b31 k31 l1 l2 σ) := by
  unfold B_X9_observed_b31
  refine cv_iload_n hC 2 dX9_observed_31 rfl rfl ?_
  refine cv_bipush (v := 8) hC dX9_observed_32 cb_bipush_8 ?_
  refine cv_icmp_ge (tgt := 70) hC dX9_observed_34 (by decide) ?_ ?_
  · refine cv_iload_n hC 1 dX9_observed_70 rfl rfl ?_
    exact cv_iret hC dX9_observed_71
  · refine cv_aload_n hC 0 dX9_observed_37 rfl rfl ?_
    refine cv_geti hC (fg_X9_84_10 G) dX9_observed_38 ?_
    refine cv_if_ne (tgt := 70) hC dX9_observed_41 (by decide) ?_ ?_
    · refine cv_iload_n hC 1 dX9_observed_70 rfl rfl ?_
      exact cv_iret hC dX9_observed_71
    · refine cv_iload_n hC 1 dX9_observed_44 rfl rfl ?_
      refine cv_aload_n hC 0 dX9_observed_45 rfl rfl ?_
      refine cv_getr hC (fg_X9_75_10 G) dX9_observed_46 ?_
      refine cv_iload_n hC 2 dX9_observed_49 rfl rfl ?_
      refine cv_iald hC (cv_a63 G) dX9_observed_50 (fun v2 => ?_)
      refine cv_iload_n hC 2 dX9_observed_51 rfl rfl ?_
      refine cv_icmp_ne (tgt := 61) hC dX9_observed_52 (by decide) ?_ ?_
      · refine cv_iconst (v := 0) hC dX9_observed_61 cb_iconst_0 ?_
        exact cv_sub [0, 2] rfl (J_X9_observed_b62 hC k31 hk31 l2 0 l1 σ)
      · refine cv_iconst (v := 1) hC dX9_observed_55 cb_iconst_1 ?_
        refine cv_iload_n hC 2 dX9_observed_56 rfl rfl ?_
        refine cv_ishl hC dX9_observed_57 ?_
        refine cv_goto (tgt := 62) hC dX9_observed_58 (by decide) ?_
        exact cv_sub [0, 2] rfl (J_X9_observed_b62 hC k31 hk31 l2 (1 <<< (l2 &&& 31)) l1 σ)
set_option maxRecDepth 20000 in
set_option maxHeartbeats 2000000 in
theorem J_X9_observed_b31 {X : cv_X} {G : cv_G} {LL : Launch} (hC : cv_C X G LL RX9 cX9_observed 3 (some .int) { frames := 0, cells := 0, slots := 0, locals := 0 }) : ∀ (n : Nat) (l1 : Int32) (l2 : Int32) (σ : cv_St), cv_J X G 3 0 0 (cv_QI X G) 31 [(0, .ref (G.1 10)), (1, .int l1), (2, .int l2)] [] σ (F_X9_observed_b31 n l1 l2 σ) := by
  intro n
  induction n with
  | zero => intro l1 l2 σ; exact cv_none
  | succ n ih => intro l1 l2 σ; exact I_X9_observed_b31 hC _ ih l1 l2 σ
set_option maxRecDepth 20000 in
set_option maxHeartbeats 2000000 in
theorem J_X9_observed_b24 {X : cv_X} {G : cv_G} {LL : Launch} (hC : cv_C X G LL RX9 cX9_observed 3 (some .int) { frames := 0, cells := 0, slots := 0, locals := 0 }) (t0 : Int32) (σ : cv_St) : cv_J X G 3 0 0 (cv_QI X G) 24 [(0, .ref (G.1 10))] [.int t0, .ref (G.1 10)] σ (F_X9_observed_b24 t0 σ) := by
  unfold F_X9_observed_b24
  refine cv_puti hC (fp_X9_84_10 G) dX9_observed_24 (fun s1 => ?_)
  refine cv_iconst (v := 0) hC dX9_observed_27 cb_iconst_0 ?_
  refine cv_istore_n (lv' := [(1, .int 0), (0, .ref (G.1 10))]) hC dX9_observed_28 rfl (by decide) rfl ?_
  refine cv_iconst (v := 0) hC dX9_observed_29 cb_iconst_0 ?_
  refine cv_istore_n (lv' := [(2, .int 0), (1, .int 0), (0, .ref (G.1 10))]) hC dX9_observed_30 rfl (by decide) rfl ?_
  exact cv_sub [2, 1, 0] rfl (J_X9_observed_b31 hC 1000 0 0 s1)
set_option maxRecDepth 20000 in
set_option maxHeartbeats 2000000 in
theorem J_X9_observed {X : cv_X} {G : cv_G} {LL : Launch} (hC : cv_C X G LL RX9 cX9_observed 3 (some .int) { frames := 0, cells := 0, slots := 0, locals := 0 }) (σ : cv_St) : cv_J X G 3 0 0 (cv_QI X G) 0 [(0, .ref (G.1 10))] [] σ (F_X9_observed σ) := by
  unfold F_X9_observed
  refine cv_aload_n hC 0 dX9_observed_0 rfl rfl ?_
  refine cv_aload_n hC 0 dX9_observed_1 rfl rfl ?_
  refine cv_geti hC (fg_X9_101_10 G) dX9_observed_2 ?_
  refine cv_if_ne (tgt := 12) hC dX9_observed_5 (by decide) ?_ ?_
  · refine cv_aload_n hC 0 dX9_observed_12 rfl rfl ?_
    refine cv_geti hC (fg_X9_281_10 G) dX9_observed_13 ?_
    refine cv_if_eq (tgt := 23) hC dX9_observed_16 (by decide) ?_ ?_
    · refine cv_iconst (v := 0) hC dX9_observed_23 cb_iconst_0 ?_
      exact cv_sub [0] rfl (J_X9_observed_b24 hC 0 σ)
    · refine cv_iconst (v := 2) hC dX9_observed_19 cb_iconst_2 ?_
      refine cv_goto (tgt := 24) hC dX9_observed_20 (by decide) ?_
      exact cv_sub [0] rfl (J_X9_observed_b24 hC 2 σ)
  · refine cv_iconst (v := 1) hC dX9_observed_8 cb_iconst_1 ?_
    refine cv_goto (tgt := 24) hC dX9_observed_9 (by decide) ?_
    exact cv_sub [0] rfl (J_X9_observed_b24 hC 1 σ)
set_option maxRecDepth 20000 in
set_option maxHeartbeats 2000000 in
theorem M_X9_observed (LL : Launch) (G : cv_G) (σ : cv_St) : cv_MI LL G yX9_observed cX9_observed 3 (some .int) 0 0 [.ref (G.1 10)] σ (F_X9_observed σ) :=
  cv_mkI (by decide) (Nat.le_of_ble_eq_true rfl) (fun X hC => J_X9_observed hC σ)
/-! X9_origin -/
set_option maxRecDepth 20000 in
set_option maxHeartbeats 2000000 in
theorem J_X9_origin_b46 {X : cv_X} {G : cv_G} {LL : Launch} (hC : cv_C X G LL RX9 cX9_origin 2 (some .int) { frames := 2, cells := 0, slots := 0, locals := 45 }) (l1 : Int32) (t0 : Int32) (σ : cv_St) : cv_J X G 2 0 0 (cv_QI X G) 46 [(0, .ref (G.1 10)), (1, .int l1)] [.int t0, .ref (G.1 10)] σ (F_X9_origin_b46 l1 t0 σ) := by
  unfold F_X9_origin_b46
  refine cv_puti hC (fp_X9_84_10 G) dX9_origin_46 (fun s3 => ?_)
  refine cv_aload_n hC 0 dX9_origin_49 rfl rfl ?_
  refine cv_geti hC (fg_X9_84_10 G) dX9_origin_50 ?_
  refine cv_if_le (tgt := 60) hC dX9_origin_53 (by decide) ?_ ?_
  · refine cv_aload_n hC 0 dX9_origin_60 rfl rfl ?_
    refine cv_getr hC (fg_X9_75_10 G) dX9_origin_61 ?_
    refine cv_iload_n hC 1 dX9_origin_64 rfl rfl ?_
    refine cv_iald hC (cv_a63 G) dX9_origin_65 (fun v4 => ?_)
    exact cv_iret hC dX9_origin_66
  · refine cv_iconst (v := 0) hC dX9_origin_56 cb_iconst_0 ?_
    refine cv_goto (tgt := 66) hC dX9_origin_57 (by decide) ?_
    exact cv_iret hC dX9_origin_66
set_option maxRecDepth 20000 in
set_option maxHeartbeats 2000000 in
theorem J_X9_origin_b41 {X : cv_X} {G : cv_G} {LL : Launch} (hC : cv_C X G LL RX9 cX9_origin 2 (some .int) { frames := 2, cells := 0, slots := 0, locals := 45 }) (l1 : Int32) (σ : cv_St) : cv_J X G 2 0 0 (cv_QI X G) 41 [(0, .ref (G.1 10)), (1, .int l1)] [.ref (G.1 10)] σ (F_X9_origin_b41 l1 σ) := by
  unfold F_X9_origin_b41
  refine cv_iconst (v := 3) hC dX9_origin_41 cb_iconst_3 ?_
  refine cv_goto (tgt := 46) hC dX9_origin_42 (by decide) ?_
  exact cv_sub [0, 1] rfl (J_X9_origin_b46 hC l1 3 σ)
set_option maxRecDepth 20000 in
set_option maxHeartbeats 2000000 in
theorem J_X9_origin {X : cv_X} {G : cv_G} {LL : Launch} (hC : cv_C X G LL RX9 cX9_origin 2 (some .int) { frames := 2, cells := 0, slots := 0, locals := 45 }) (l1 : Int32) (σ : cv_St) : cv_J X G 2 0 0 (cv_QI X G) 0 [(0, .ref (G.1 10)), (1, .int l1)] [] σ (F_X9_origin l1 σ) := by
  unfold F_X9_origin
  refine cv_aload_n hC 0 dX9_origin_0 rfl rfl ?_
  refine cv_iload_n hC 1 dX9_origin_1 rfl rfl ?_
  refine cv_callSi hC [.int l1] [.ref (G.1 10)] (M_X9_isRegister LL G l1 σ) ln_X9_267 vm_X9_isRegister rfl rfl (Nat.le_of_ble_eq_true rfl) ⟨Nat.le_of_ble_eq_true rfl, Nat.le_of_ble_eq_true rfl⟩ ⟨Nat.le_of_ble_eq_true rfl, Nat.le_of_ble_eq_true rfl⟩ dX9_origin_2 (fun v2 s1 => ?_)
  refine cv_if_ne (tgt := 12) hC dX9_origin_5 (by decide) ?_ ?_
  · refine cv_aload_n hC 0 dX9_origin_12 rfl rfl ?_
    refine cv_geti hC (fg_X9_101_10 G) dX9_origin_13 ?_
    refine cv_if_ne (tgt := 23) hC dX9_origin_16 (by decide) ?_ ?_
    · refine cv_aload_n hC 0 dX9_origin_23 rfl rfl ?_
      refine cv_geti hC (fg_X9_281_10 G) dX9_origin_24 ?_
      refine cv_if_ne (tgt := 41) hC dX9_origin_27 (by decide) ?_ ?_
      · exact cv_sub [0, 1] rfl (J_X9_origin_b41 hC l1 s1)
      · refine cv_aload_n hC 0 dX9_origin_30 rfl rfl ?_
        refine cv_getr hC (fg_X9_75_10 G) dX9_origin_31 ?_
        refine cv_iload_n hC 1 dX9_origin_34 rfl rfl ?_
        refine cv_iald hC (cv_a63 G) dX9_origin_35 (fun v5 => ?_)
        refine cv_bipush (v := 8) hC dX9_origin_36 cb_bipush_8 ?_
        refine cv_icmp_lt (tgt := 45) hC dX9_origin_38 (by decide) ?_ ?_
        · refine cv_iconst (v := 0) hC dX9_origin_45 cb_iconst_0 ?_
          exact cv_sub [0, 1] rfl (J_X9_origin_b46 hC l1 0 s1)
        · exact cv_sub [0, 1] rfl (J_X9_origin_b41 hC l1 s1)
    · refine cv_iconst (v := 2) hC dX9_origin_19 cb_iconst_2 ?_
      refine cv_goto (tgt := 46) hC dX9_origin_20 (by decide) ?_
      exact cv_sub [0, 1] rfl (J_X9_origin_b46 hC l1 2 s1)
  · refine cv_iconst (v := 1) hC dX9_origin_8 cb_iconst_1 ?_
    refine cv_goto (tgt := 46) hC dX9_origin_9 (by decide) ?_
    exact cv_sub [0, 1] rfl (J_X9_origin_b46 hC l1 1 s1)
set_option maxRecDepth 20000 in
set_option maxHeartbeats 2000000 in
theorem M_X9_origin (LL : Launch) (G : cv_G) (l1 : Int32) (σ : cv_St) : cv_MI LL G yX9_origin cX9_origin 2 (some .int) 2 45 [.ref (G.1 10), .int l1] σ (F_X9_origin l1 σ) :=
  cv_mkI (by decide) (Nat.le_of_ble_eq_true rfl) (fun X hC => J_X9_origin hC l1 σ)
/-! X9_save -/
set_option maxRecDepth 20000 in
set_option maxHeartbeats 2000000 in
theorem J_X9_save {X : cv_X} {G : cv_G} {LL : Launch} (hC : cv_C X G LL RX9 cX9_save 1 none { frames := 1, cells := 0, slots := 0, locals := 26 }) (σ : cv_St) : cv_J X G 1 0 0 (cv_QV X G) 0 [(0, .ref (G.1 10))] [] σ (F_X9_save σ) := by
  unfold F_X9_save
  refine cv_aload_n hC 0 dX9_save_0 rfl rfl ?_
  refine cv_iconst (v := 0) hC dX9_save_1 cb_iconst_0 ?_
  refine cv_puti hC (fp_X9_84_10 G) dX9_save_2 (fun s1 => ?_)
  refine cv_aload_n hC 0 dX9_save_5 rfl rfl ?_
  refine cv_getr hC (fg_X9_9_10 G) dX9_save_6 ?_
  refine cv_iconst (v := 0) hC dX9_save_9 cb_iconst_0 ?_
  refine cv_aload_n hC 0 dX9_save_10 rfl rfl ?_
  refine cv_getr hC (fg_X9_13_10 G) dX9_save_11 ?_
  refine cv_iconst (v := 0) hC dX9_save_14 cb_iconst_0 ?_
  refine cv_sipush (v := 344) hC dX9_save_15 cb_sipush_344 ?_
  refine cv_copyI hC ln_X9_162 sw_arraycopy.1 sw_arraycopy.2.1 sw_arraycopy.2.2 (cv_a43 G) (cv_a44 G) ⟨Nat.le_of_ble_eq_true rfl, Nat.le_of_ble_eq_true rfl⟩ dX9_save_18 (fun s2 => ?_)
  refine cv_aload_n hC 0 dX9_save_21 rfl rfl ?_
  refine cv_iconst (v := 1) hC dX9_save_22 cb_iconst_1 ?_
  refine cv_putz hC (fp_X9_304_10 G) dX9_save_23 (fun s3 => ?_)
  exact cv_vret hC dX9_save_26
set_option maxRecDepth 20000 in
set_option maxHeartbeats 2000000 in
theorem M_X9_save (LL : Launch) (G : cv_G) (σ : cv_St) : cv_MV LL G yX9_save cX9_save 1 1 26 [.ref (G.1 10)] σ (F_X9_save σ) :=
  cv_mkV (by decide) (Nat.le_of_ble_eq_true rfl) (fun X hC => J_X9_save hC σ)
/-! X9_restore -/
set_option maxRecDepth 20000 in
set_option maxHeartbeats 2000000 in
theorem J_X9_restore_b13 {X : cv_X} {G : cv_G} {LL : Launch} (hC : cv_C X G LL RX9 cX9_restore 1 none { frames := 1, cells := 0, slots := 0, locals := 26 }) (t0 : Int32) (σ : cv_St) : cv_J X G 1 0 0 (cv_QV X G) 13 [(0, .ref (G.1 10))] [.int t0, .ref (G.1 10)] σ (F_X9_restore_b13 t0 σ) := by
  unfold F_X9_restore_b13
  refine cv_puti hC (fp_X9_84_10 G) dX9_restore_13 (fun s1 => ?_)
  refine cv_aload_n hC 0 dX9_restore_16 rfl rfl ?_
  refine cv_geti hC (fg_X9_84_10 G) dX9_restore_17 ?_
  refine cv_if_ne (tgt := 43) hC dX9_restore_20 (by decide) ?_ ?_
  · exact cv_vret hC dX9_restore_43
  · refine cv_aload_n hC 0 dX9_restore_23 rfl rfl ?_
    refine cv_getr hC (fg_X9_13_10 G) dX9_restore_24 ?_
    refine cv_iconst (v := 0) hC dX9_restore_27 cb_iconst_0 ?_
    refine cv_aload_n hC 0 dX9_restore_28 rfl rfl ?_
    refine cv_getr hC (fg_X9_9_10 G) dX9_restore_29 ?_
    refine cv_iconst (v := 0) hC dX9_restore_32 cb_iconst_0 ?_
    refine cv_sipush (v := 344) hC dX9_restore_33 cb_sipush_344 ?_
    refine cv_copyI hC ln_X9_162 sw_arraycopy.1 sw_arraycopy.2.1 sw_arraycopy.2.2 (cv_a44 G) (cv_a43 G) ⟨Nat.le_of_ble_eq_true rfl, Nat.le_of_ble_eq_true rfl⟩ dX9_restore_36 (fun s2 => ?_)
    refine cv_aload_n hC 0 dX9_restore_39 rfl rfl ?_
    refine cv_callVv (ob := 10) hC [] [] (M_X9_changed LL G s2) ln_X9_131 vm_X9_changed (ob_10 G) rfl rfl (Nat.le_of_ble_eq_true rfl) ⟨Nat.le_of_ble_eq_true rfl, Nat.le_of_ble_eq_true rfl⟩ ⟨Nat.le_of_ble_eq_true rfl, Nat.le_of_ble_eq_true rfl⟩ dX9_restore_40 (fun s3 => ?_)
    exact cv_vret hC dX9_restore_43
set_option maxRecDepth 20000 in
set_option maxHeartbeats 2000000 in
theorem J_X9_restore {X : cv_X} {G : cv_G} {LL : Launch} (hC : cv_C X G LL RX9 cX9_restore 1 none { frames := 1, cells := 0, slots := 0, locals := 26 }) (σ : cv_St) : cv_J X G 1 0 0 (cv_QV X G) 0 [(0, .ref (G.1 10))] [] σ (F_X9_restore σ) := by
  unfold F_X9_restore
  refine cv_aload_n hC 0 dX9_restore_0 rfl rfl ?_
  refine cv_aload_n hC 0 dX9_restore_1 rfl rfl ?_
  refine cv_geti hC (fg_X9_304_10 G) dX9_restore_2 ?_
  refine cv_if_eq (tgt := 12) hC dX9_restore_5 (by decide) ?_ ?_
  · refine cv_iconst (v := 1) hC dX9_restore_12 cb_iconst_1 ?_
    exact cv_sub [0] rfl (J_X9_restore_b13 hC 1 σ)
  · refine cv_iconst (v := 0) hC dX9_restore_8 cb_iconst_0 ?_
    refine cv_goto (tgt := 13) hC dX9_restore_9 (by decide) ?_
    exact cv_sub [0] rfl (J_X9_restore_b13 hC 0 σ)
set_option maxRecDepth 20000 in
set_option maxHeartbeats 2000000 in
theorem M_X9_restore (LL : Launch) (G : cv_G) (σ : cv_St) : cv_MV LL G yX9_restore cX9_restore 1 1 26 [.ref (G.1 10)] σ (F_X9_restore σ) :=
  cv_mkV (by decide) (Nat.le_of_ble_eq_true rfl) (fun X hC => J_X9_restore hC σ)
