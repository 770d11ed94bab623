def B_J7_fill_53178_27_b5 (k5 : Int32 → Int32 → Int32 → cv_St → Option (cv_St)) (l1 : Int32) (l2 : Int32) (l3 : Int32) (σ : cv_St) : Option (cv_St) :=
  (if l3 ≤ l2 then some σ else cv_st σ 27 8 l2 l1 (fun s1 => k5 l1 (l2 + Int32.ofInt 1) l3 s1))
def F_J7_fill_53178_27_b5 : Nat → Int32 → Int32 → Int32 → cv_St → Option (cv_St)
  | 0, _, _, _, _ => none
  | n + 1, l1, l2, l3, σ => B_J7_fill_53178_27_b5 (F_J7_fill_53178_27_b5 n) l1 l2 l3 σ
def F_J7_fill_53178_27 (l1 : Int32) (σ : cv_St) : Option (cv_St) :=
  F_J7_fill_53178_27_b5 1000 l1 0 (nI 8) σ
def B_J7_fill_53178_28_b5 (k5 : Int32 → Int32 → Int32 → cv_St → Option (cv_St)) (l1 : Int32) (l2 : Int32) (l3 : Int32) (σ : cv_St) : Option (cv_St) :=
  (if l3 ≤ l2 then some σ else cv_st σ 28 15 l2 l1 (fun s1 => k5 l1 (l2 + Int32.ofInt 1) l3 s1))
def F_J7_fill_53178_28_b5 : Nat → Int32 → Int32 → Int32 → cv_St → Option (cv_St)
  | 0, _, _, _, _ => none
  | n + 1, l1, l2, l3, σ => B_J7_fill_53178_28_b5 (F_J7_fill_53178_28_b5 n) l1 l2 l3 σ
def F_J7_fill_53178_28 (l1 : Int32) (σ : cv_St) : Option (cv_St) :=
  F_J7_fill_53178_28_b5 1000 l1 0 (nI 15) σ
def F_X1_definedAt (l1 : Int32) (l2 : Int32) (σ : cv_St) : Option (Int32 × cv_St) :=
  cv_bi (F_X0_isCall l1 l2 σ) (fun v2 s1 => (if v2 = 0 then cv_bi (F_X0_writtenBy l1 l2 s1) (fun v4 s3 => some (v4, s3)) else cv_bi (F_X0_numberAt l1 l2 s1) (fun v6 s5 => cv_ld s5 27 8 v6 (fun v7 => some (v7, s5)))))
def F_X1_definedBy_b101 (k26 : Int32 → Int32 → cv_St → Option (Int32 × cv_St)) (l1 : Int32) (l2 : Int32) (σ : cv_St) : Option (Int32 × cv_St) :=
  k26 l1 (l2 + Int32.ofInt 1) σ
def B_X1_definedBy_b26 (k26 : Int32 → Int32 → cv_St → Option (Int32 × cv_St)) (l1 : Int32) (l2 : Int32) (σ : cv_St) : Option (Int32 × cv_St) :=
  cv_ld σ 14 8 l1 (fun v5 => (if v5 ≤ l2 then cv_ld σ 28 15 14 (fun v6 => some (v6, σ)) else cv_bi (F_X2_reaches l1 l2 σ) (fun v8 s7 => (if v8 = 0 then F_X1_definedBy_b101 k26 l1 l2 s7 else cv_ld s7 28 15 l2 (fun v9 => cv_bi (F_X1_definedAt l1 l2 s7) (fun v11 s10 => cv_bi (F_X0_next l1 l2 s10) (fun v13 s12 => cv_ld s12 28 15 v13 (fun v14 => cv_st s12 28 15 v13 (v14 &&& (v9 ||| v11)) (fun s15 => cv_bi (F_X0_other l1 l2 s15) (fun v17 s16 => cv_ld s16 28 15 v17 (fun v18 => cv_st s16 28 15 v17 (v18 &&& (v9 ||| v11)) (fun s19 => F_X1_definedBy_b101 k26 l1 l2 s19))))))))))))
def F_X1_definedBy_b26 : Nat → Int32 → Int32 → cv_St → Option (Int32 × cv_St)
  | 0, _, _, _ => none
  | n + 1, l1, l2, σ => B_X1_definedBy_b26 (F_X1_definedBy_b26 n) l1 l2 σ
def F_X1_definedBy (l1 : Int32) (σ : cv_St) : Option (Int32 × cv_St) :=
  cv_bv (F_J7_fill_53178_28 255 σ) (fun s1 => cv_bi (F_X0_entry l1 s1) (fun v3 s2 => cv_st s2 28 15 v3 0 (fun s4 => F_X1_definedBy_b26 1000 l1 0 s4)))
def F_X1_infer_b60 (k12 : Int32 → Int32 → cv_St → Option (cv_St)) (k26 : Int32 → Int32 → Int32 → cv_St → Option (cv_St)) (l1 : Int32) (l2 : Int32) (l3 : Int32) (σ : cv_St) : Option (cv_St) :=
  k26 l1 l2 (l3 + Int32.ofInt 1) σ
def B_X1_infer_b26 (k12 : Int32 → Int32 → cv_St → Option (cv_St)) (k26 : Int32 → Int32 → Int32 → cv_St → Option (cv_St)) (l1 : Int32) (l2 : Int32) (l3 : Int32) (σ : cv_St) : Option (cv_St) :=
  (if 8 ≤ l3 then k12 l1 (l2 + Int32.ofInt 1) σ else cv_bi (F_X1_definedBy l3 σ) (fun v3 s2 => cv_ld s2 27 8 l3 (fun v4 => (if v3 = v4 then F_X1_infer_b60 k12 k26 l1 l2 l3 s2 else cv_st s2 27 8 l3 v3 (fun s5 => F_X1_infer_b60 k12 k26 1 l2 l3 s5)))))
def F_X1_infer_b26 (k12 : Int32 → Int32 → cv_St → Option (cv_St)) : Nat → Int32 → Int32 → Int32 → cv_St → Option (cv_St)
  | 0, _, _, _, _ => none
  | n + 1, l1, l2, l3, σ => B_X1_infer_b26 k12 (F_X1_infer_b26 k12 n) l1 l2 l3 σ
def B_X1_infer_b12 (k12 : Int32 → Int32 → cv_St → Option (cv_St)) (l1 : Int32) (l2 : Int32) (σ : cv_St) : Option (cv_St) :=
  (if l1 = 0 then some σ else (if 64 < l2 then some σ else F_X1_infer_b26 k12 1000 0 l2 0 σ))
def F_X1_infer_b12 : Nat → Int32 → Int32 → cv_St → Option (cv_St)
  | 0, _, _, _ => none
  | n + 1, l1, l2, σ => B_X1_infer_b12 (F_X1_infer_b12 n) l1 l2 σ
def F_X1_infer (σ : cv_St) : Option (cv_St) :=
  cv_bv (F_J7_fill_53178_27 0 σ) (fun s1 => F_X1_infer_b12 1000 1 0 s1)
def F_X3_before (l1 : Int32) (l2 : Int32) (σ : cv_St) : Option (Int32 × cv_St) :=
  cv_ld σ 29 120 ((l1 * 15) + l2) (fun v1 => some (v1, σ))
def F_X3_behind (l1 : Int32) (l2 : Int32) (σ : cv_St) : Option (Int32 × cv_St) :=
  cv_bi (F_X0_next l1 l2 σ) (fun v2 s1 => cv_bi (F_X3_before l1 v2 s1) (fun v4 s3 => cv_bi (F_X0_other l1 l2 s3) (fun v6 s5 => cv_bi (F_X3_before l1 v6 s5) (fun v8 s7 => some ((v4 ||| v8), s7)))))
def B_J7_fill_53178_29_b5 (k5 : Int32 → Int32 → Int32 → cv_St → Option (cv_St)) (l1 : Int32) (l2 : Int32) (l3 : Int32) (σ : cv_St) : Option (cv_St) :=
  (if l3 ≤ l2 then some σ else cv_st σ 29 120 l2 l1 (fun s1 => k5 l1 (l2 + Int32.ofInt 1) l3 s1))
def F_J7_fill_53178_29_b5 : Nat → Int32 → Int32 → Int32 → cv_St → Option (cv_St)
  | 0, _, _, _, _ => none
  | n + 1, l1, l2, l3, σ => B_J7_fill_53178_29_b5 (F_J7_fill_53178_29_b5 n) l1 l2 l3 σ
def F_J7_fill_53178_29 (l1 : Int32) (σ : cv_St) : Option (cv_St) :=
  F_J7_fill_53178_29_b5 1000 l1 0 (nI 120) σ
def B_J7_fill_53178_30_b5 (k5 : Int32 → Int32 → Int32 → cv_St → Option (cv_St)) (l1 : Int32) (l2 : Int32) (l3 : Int32) (σ : cv_St) : Option (cv_St) :=
  (if l3 ≤ l2 then some σ else cv_st σ 30 8 l2 l1 (fun s1 => k5 l1 (l2 + Int32.ofInt 1) l3 s1))
def F_J7_fill_53178_30_b5 : Nat → Int32 → Int32 → Int32 → cv_St → Option (cv_St)
  | 0, _, _, _, _ => none
  | n + 1, l1, l2, l3, σ => B_J7_fill_53178_30_b5 (F_J7_fill_53178_30_b5 n) l1 l2 l3 σ
def F_J7_fill_53178_30 (l1 : Int32) (σ : cv_St) : Option (cv_St) :=
  F_J7_fill_53178_30_b5 1000 l1 0 (nI 8) σ
def B_J7_fill_53178_31_b5 (k5 : Int32 → Int32 → Int32 → cv_St → Option (cv_St)) (l1 : Int32) (l2 : Int32) (l3 : Int32) (σ : cv_St) : Option (cv_St) :=
  (if l3 ≤ l2 then some σ else cv_st σ 31 8 l2 l1 (fun s1 => k5 l1 (l2 + Int32.ofInt 1) l3 s1))
def F_J7_fill_53178_31_b5 : Nat → Int32 → Int32 → Int32 → cv_St → Option (cv_St)
  | 0, _, _, _, _ => none
  | n + 1, l1, l2, l3, σ => B_J7_fill_53178_31_b5 (F_J7_fill_53178_31_b5 n) l1 l2 l3 σ
def F_J7_fill_53178_31 (l1 : Int32) (σ : cv_St) : Option (cv_St) :=
  F_J7_fill_53178_31_b5 1000 l1 0 (nI 8) σ
def F_X3_readAt (l1 : Int32) (l2 : Int32) (σ : cv_St) : Option (Int32 × cv_St) :=
  cv_bi (F_X0_isCall l1 l2 σ) (fun v2 s1 => (if v2 = 0 then cv_bi (F_X0_readBy l1 l2 s1) (fun v4 s3 => some (v4, s3)) else cv_bi (F_X0_numberAt l1 l2 s1) (fun v6 s5 => cv_ld s5 30 8 v6 (fun v7 => some (v7, s5)))))
def F_X3_writtenAt (l1 : Int32) (l2 : Int32) (σ : cv_St) : Option (Int32 × cv_St) :=
  cv_bi (F_X0_isCall l1 l2 σ) (fun v2 s1 => (if v2 = 0 then cv_bi (F_X0_writtenBy l1 l2 s1) (fun v4 s3 => some (v4, s3)) else cv_bi (F_X0_numberAt l1 l2 s1) (fun v6 s5 => cv_bi (F_X7_clobbered v6 s5) (fun v8 s7 => some (v8, s7)))))
def F_X3_ask_b43 (l1 : Int32) (l3 : Int32) (t0 : Int32) (σ : cv_St) : Option (Int32 × cv_St) :=
  cv_st σ 31 8 l1 l3 (fun s6 => cv_rz t0 s6)
def F_X3_ask (l1 : Int32) (l2 : Int32) (σ : cv_St) : Option (Int32 × cv_St) :=
  cv_ld σ 31 8 l1 (fun v1 => cv_bi (F_X7_clobbered l1 σ) (fun v3 s2 => cv_ld s2 27 8 l1 (fun v4 => cv_ld s2 31 8 l1 (fun v5 => (if (v1 ||| ((l2 &&& v3) &&& v4)) = v5 then F_X3_ask_b43 l1 (v1 ||| ((l2 &&& v3) &&& v4)) 0 s2 else F_X3_ask_b43 l1 (v1 ||| ((l2 &&& v3) &&& v4)) 1 s2)))))
def F_X3_trace_b117 (k32 : Int32 → Int32 → Int32 → cv_St → Option (Int32 × cv_St)) (l1 : Int32) (l2 : Int32) (l3 : Int32) (σ : cv_St) : Option (Int32 × cv_St) :=
  k32 l1 l2 (l3 + Int32.ofInt (-1)) σ
def F_X3_trace_b88 (k32 : Int32 → Int32 → Int32 → cv_St → Option (Int32 × cv_St)) (l1 : Int32) (l2 : Int32) (l3 : Int32) (l4 : Int32) (σ : cv_St) : Option (Int32 × cv_St) :=
  cv_bi (F_X3_readAt l1 l3 σ) (fun v17 s16 => cv_bi (F_X3_writtenAt l1 l3 s16) (fun v19 s18 => cv_st s18 29 120 ((l1 * 15) + l3) (v17 ||| (l4 &&& (v19 ^^^ (-1)))) (fun s20 => F_X3_trace_b117 k32 l1 l2 l3 s20)))
def B_X3_trace_b32 (k32 : Int32 → Int32 → Int32 → cv_St → Option (Int32 × cv_St)) (l1 : Int32) (l2 : Int32) (l3 : Int32) (σ : cv_St) : Option (Int32 × cv_St) :=
  (if l3 < 0 then cv_bi (F_X0_entry l1 σ) (fun v5 s4 => cv_bi (F_X3_before l1 v5 s4) (fun v7 s6 => cv_ld s6 30 8 l1 (fun v8 => (if v7 = v8 then cv_rz l2 s6 else cv_st s6 30 8 l1 v7 (fun s9 => cv_rz 1 s9))))) else cv_bi (F_X2_reaches l1 l3 σ) (fun v11 s10 => (if v11 = 0 then F_X3_trace_b117 k32 l1 l2 l3 s10 else cv_bi (F_X3_behind l1 l3 s10) (fun v13 s12 => cv_bi (F_X0_isCall l1 l3 s12) (fun v15 s14 => (if v15 = 0 then F_X3_trace_b88 k32 l1 l2 l3 v13 s14 else cv_bi (F_X0_numberAt l1 l3 s14) (fun v22 s21 => cv_bi (F_X3_ask v22 v13 s21) (fun v24 s23 => (if v24 = 0 then F_X3_trace_b88 k32 l1 l2 l3 v13 s23 else F_X3_trace_b88 k32 l1 1 l3 v13 s23)))))))))
def F_X3_trace_b32 : Nat → Int32 → Int32 → Int32 → cv_St → Option (Int32 × cv_St)
  | 0, _, _, _, _ => none
  | n + 1, l1, l2, l3, σ => B_X3_trace_b32 (F_X3_trace_b32 n) l1 l2 l3 σ
def F_X3_trace (l1 : Int32) (σ : cv_St) : Option (Int32 × cv_St) :=
  cv_ld σ 31 8 l1 (fun v1 => cv_st σ 29 120 ((l1 * 15) + 14) v1 (fun s2 => cv_ld s2 14 8 l1 (fun v3 => F_X3_trace_b32 1000 l1 0 (v3 - 1) s2)))
def F_X3_infer_b59 (k28 : Int32 → Int32 → cv_St → Option (cv_St)) (k43 : Int32 → Int32 → Int32 → cv_St → Option (cv_St)) (l1 : Int32) (l2 : Int32) (l3 : Int32) (σ : cv_St) : Option (cv_St) :=
  k43 l1 l2 (l3 + Int32.ofInt 1) σ
def B_X3_infer_b43 (k28 : Int32 → Int32 → cv_St → Option (cv_St)) (k43 : Int32 → Int32 → Int32 → cv_St → Option (cv_St)) (l1 : Int32) (l2 : Int32) (l3 : Int32) (σ : cv_St) : Option (cv_St) :=
  (if 8 ≤ l3 then k28 l1 (l2 + Int32.ofInt 1) σ else cv_bi (F_X3_trace l3 σ) (fun v5 s4 => (if v5 = 0 then F_X3_infer_b59 k28 k43 l1 l2 l3 s4 else F_X3_infer_b59 k28 k43 1 l2 l3 s4)))
def F_X3_infer_b43 (k28 : Int32 → Int32 → cv_St → Option (cv_St)) : Nat → Int32 → Int32 → Int32 → cv_St → Option (cv_St)
  | 0, _, _, _, _ => none
  | n + 1, l1, l2, l3, σ => B_X3_infer_b43 k28 (F_X3_infer_b43 k28 n) l1 l2 l3 σ
def B_X3_infer_b28 (k28 : Int32 → Int32 → cv_St → Option (cv_St)) (l1 : Int32) (l2 : Int32) (σ : cv_St) : Option (cv_St) :=
  (if l1 = 0 then some σ else (if 128 < l2 then some σ else F_X3_infer_b43 k28 1000 0 l2 0 σ))
def F_X3_infer_b28 : Nat → Int32 → Int32 → cv_St → Option (cv_St)
  | 0, _, _, _ => none
  | n + 1, l1, l2, σ => B_X3_infer_b28 (F_X3_infer_b28 n) l1 l2 σ
def F_X3_infer (σ : cv_St) : Option (cv_St) :=
  cv_bv (F_J7_fill_53178_29 0 σ) (fun s1 => cv_bv (F_J7_fill_53178_30 0 s1) (fun s2 => cv_bv (F_J7_fill_53178_31 0 s2) (fun s3 => F_X3_infer_b28 1000 1 0 s3)))
def B_J7_fill_53178_37_b5 (k5 : Int32 → Int32 → Int32 → cv_St → Option (cv_St)) (l1 : Int32) (l2 : Int32) (l3 : Int32) (σ : cv_St) : Option (cv_St) :=
  (if l3 ≤ l2 then some σ else cv_st σ 37 15 l2 l1 (fun s1 => k5 l1 (l2 + Int32.ofInt 1) l3 s1))
def F_J7_fill_53178_37_b5 : Nat → Int32 → Int32 → Int32 → cv_St → Option (cv_St)
  | 0, _, _, _, _ => none
  | n + 1, l1, l2, l3, σ => B_J7_fill_53178_37_b5 (F_J7_fill_53178_37_b5 n) l1 l2 l3 σ
def F_J7_fill_53178_37 (l1 : Int32) (σ : cv_St) : Option (cv_St) :=
  F_J7_fill_53178_37_b5 1000 l1 0 (nI 15) σ
def F_X5_visit (l1 : Int32) (l2 : Int32) (σ : cv_St) : Option (cv_St) :=
  cv_bi (F_X0_kindAt l1 l2 σ) (fun v2 s1 => cv_bi (F_X0_numberAt l1 l2 s1) (fun v4 s3 => (if v2 = 108 then cv_ld s3 36 8 l1 (fun v11 => cv_st s3 36 8 l1 (if v11 < (v4 + 1) then (v4 + 1) else v11) (fun s12 => some s12)) else (if v2 = 99 then (if 112 ≤ (s3.2.1 7) then some s3 else cv_st s3 32 112 (s3.2.1 7) l1 (fun s5 => cv_st s5 33 112 (s5.2.1 7) l2 (fun s6 => cv_st s6 34 112 (s6.2.1 7) v4 (fun s7 => cv_ld s7 37 15 l2 (fun v8 => cv_st s7 35 112 (s7.2.1 7) v8 (fun s9 => cv_pui s9 7 ((s9.2.1 7) + 1) (fun s10 => some s10))))))) else some s3))))
def F_X5_storedBehind_b39 (l2 : Int32) (t0 : Int32) (σ : cv_St) : Option (Int32 × cv_St) :=
  cv_ld σ 37 15 l2 (fun v3 => some ((v3 ||| t0), σ))
def F_X5_storedBehind (l1 : Int32) (l2 : Int32) (σ : cv_St) : Option (Int32 × cv_St) :=
  cv_bi (F_X0_kindAt l1 l2 σ) (fun v2 s1 => (if v2 = 99 then some (0, s1) else (if v2 = 115 then cv_bi (F_X0_numberAt l1 l2 s1) (fun v5 s4 => F_X5_storedBehind_b39 l2 (1 <<< (v5 &&& 31)) s4) else F_X5_storedBehind_b39 l2 0 s1)))
def F_X5_collect_b99 (k25 : Int32 → Int32 → cv_St → Option (cv_St)) (l1 : Int32) (l2 : Int32) (σ : cv_St) : Option (cv_St) :=
  k25 l1 (l2 + Int32.ofInt 1) σ
def B_X5_collect_b25 (k25 : Int32 → Int32 → cv_St → Option (cv_St)) (l1 : Int32) (l2 : Int32) (σ : cv_St) : Option (cv_St) :=
  cv_ld σ 14 8 l1 (fun v5 => (if v5 ≤ l2 then some σ else cv_bi (F_X2_reaches l1 l2 σ) (fun v7 s6 => (if v7 = 0 then F_X5_collect_b99 k25 l1 l2 s6 else cv_bv (F_X5_visit l1 l2 s6) (fun s8 => cv_bi (F_X5_storedBehind l1 l2 s8) (fun v10 s9 => cv_bi (F_X0_next l1 l2 s9) (fun v12 s11 => cv_ld s11 37 15 v12 (fun v13 => cv_st s11 37 15 v12 (v13 &&& v10) (fun s14 => cv_bi (F_X0_other l1 l2 s14) (fun v16 s15 => cv_ld s15 37 15 v16 (fun v17 => cv_st s15 37 15 v16 (v17 &&& v10) (fun s18 => F_X5_collect_b99 k25 l1 l2 s18))))))))))))
def F_X5_collect_b25 : Nat → Int32 → Int32 → cv_St → Option (cv_St)
  | 0, _, _, _ => none
  | n + 1, l1, l2, σ => B_X5_collect_b25 (F_X5_collect_b25 n) l1 l2 σ
def F_X5_collect (l1 : Int32) (σ : cv_St) : Option (cv_St) :=
  cv_bv (F_J7_fill_53178_37 15 σ) (fun s1 => cv_bi (F_X0_entry l1 s1) (fun v3 s2 => cv_st s2 37 15 v3 0 (fun s4 => F_X5_collect_b25 1000 l1 0 s4)))
def B_X5_infer_b7 (k7 : Int32 → cv_St → Option (cv_St)) (l1 : Int32) (σ : cv_St) : Option (cv_St) :=
  (if 8 ≤ l1 then some σ else cv_st σ 36 8 l1 0 (fun s2 => cv_bv (F_X5_collect l1 s2) (fun s3 => k7 (l1 + Int32.ofInt 1) s3)))
def F_X5_infer_b7 : Nat → Int32 → cv_St → Option (cv_St)
  | 0, _, _ => none
  | n + 1, l1, σ => B_X5_infer_b7 (F_X5_infer_b7 n) l1 σ
def F_X5_infer (σ : cv_St) : Option (cv_St) :=
  cv_pui σ 7 0 (fun s1 => F_X5_infer_b7 1000 0 s1)
def F_X5_missing (l1 : Int32) (σ : cv_St) : Option (Int32 × cv_St) :=
  cv_ld σ 34 112 l1 (fun v1 => cv_ld σ 36 8 v1 (fun v2 => cv_ld σ 35 112 l1 (fun v3 => some ((((1 <<< (v2 &&& 31)) - 1) &&& (v3 ^^^ (-1))), σ))))
def F_X5_differFor_b45 (k4 : Int32 → Int32 → Int32 → cv_St → Option (Int32 × cv_St)) (l1 : Int32) (l2 : Int32) (l3 : Int32) (σ : cv_St) : Option (Int32 × cv_St) :=
  k4 l1 l2 (l3 + Int32.ofInt 1) σ
def F_X5_differFor_b43 (k4 : Int32 → Int32 → Int32 → cv_St → Option (Int32 × cv_St)) (l1 : Int32) (l3 : Int32) (σ : cv_St) : Option (Int32 × cv_St) :=
  F_X5_differFor_b45 k4 l1 l3 l3 σ
def B_X5_differFor_b4 (k4 : Int32 → Int32 → Int32 → cv_St → Option (Int32 × cv_St)) (l1 : Int32) (l2 : Int32) (l3 : Int32) (σ : cv_St) : Option (Int32 × cv_St) :=
  (if (σ.2.1 7) ≤ l3 then cv_rz 0 σ else cv_ld σ 34 112 l3 (fun v1 => (if v1 = l1 then (if l2 < 0 then F_X5_differFor_b43 k4 l1 l3 σ else cv_ld σ 35 112 l3 (fun v2 => cv_ld σ 35 112 l2 (fun v3 => (if v2 = v3 then F_X5_differFor_b43 k4 l1 l3 σ else cv_rz 1 σ)))) else F_X5_differFor_b45 k4 l1 l2 l3 σ)))
def F_X5_differFor_b4 : Nat → Int32 → Int32 → Int32 → cv_St → Option (Int32 × cv_St)
  | 0, _, _, _, _ => none
  | n + 1, l1, l2, l3, σ => B_X5_differFor_b4 (F_X5_differFor_b4 n) l1 l2 l3 σ
def F_X5_differFor (l1 : Int32) (σ : cv_St) : Option (Int32 × cv_St) :=
  F_X5_differFor_b4 1000 l1 (-1) 0 σ
/-! J7_fill_53178_27 -/
set_option maxRecDepth 20000 in
set_option maxHeartbeats 2000000 in
theorem I_J7_fill_53178_27_b5 {X : cv_X} {G : cv_G} {LL : Launch} (hC : cv_C X G LL RJ7 cJ7_fill_53178 4 none { frames := 0, cells := 0, slots := 0, locals := 0 }) (k5 : Int32 → Int32 → Int32 → cv_St → Option (cv_St)) (hk5 : ∀ (l1 : Int32) (l2 : Int32) (l3 : Int32)  σ, cv_J X G 4 0 0 (cv_QV X G) 5 [(0, .ref (G.1 27)), (1, .int l1), (2, .int l2), (3, .int l3)] [] σ (k5 l1 l2 l3 σ)) (l1 : Int32) (l2 : Int32) (l3 : Int32) (σ : cv_St) : cv_J X G 4 0 0 (cv_QV X G) 5 [(0, .ref (G.1 27)), (1, .int l1), (2, .int l2), (3, .int l3)] [] σ (B_J7_fill_53178_27_b5 k5 l1 l2 l3 σ) := by
  unfold B_J7_fill_53178_27_b5
  refine cv_iload_n hC 2 dJ7_fill_53178_5 rfl rfl ?_
  refine cv_iload_n hC 3 dJ7_fill_53178_6 rfl rfl ?_
  refine cv_icmp_ge (tgt := 20) hC dJ7_fill_53178_7 (by decide) ?_ ?_
  · exact cv_vret hC dJ7_fill_53178_20
  · refine cv_aload_n hC 0 dJ7_fill_53178_10 rfl rfl ?_
    refine cv_iload_n hC 2 dJ7_fill_53178_11 rfl rfl ?_
    refine cv_iload_n hC 1 dJ7_fill_53178_12 rfl rfl ?_
    refine cv_iast hC (cv_a27 G) dJ7_fill_53178_13 (fun s1 => ?_)
    refine cv_iinc (lv' := [(2, .int (l2 + Int32.ofInt 1)), (0, .ref (G.1 27)), (1, .int l1), (3, .int l3)]) hC 2 dJ7_fill_53178_14 rfl (by decide) rfl ?_
    refine cv_goto (tgt := 5) hC dJ7_fill_53178_17 (by decide) ?_
    exact cv_sub [1, 2, 0, 3] rfl (hk5 l1 (l2 + Int32.ofInt 1) l3 s1)
set_option maxRecDepth 20000 in
set_option maxHeartbeats 2000000 in
theorem J_J7_fill_53178_27_b5 {X : cv_X} {G : cv_G} {LL : Launch} (hC : cv_C X G LL RJ7 cJ7_fill_53178 4 none { frames := 0, cells := 0, slots := 0, locals := 0 }) : ∀ (n : Nat) (l1 : Int32) (l2 : Int32) (l3 : Int32) (σ : cv_St), cv_J X G 4 0 0 (cv_QV X G) 5 [(0, .ref (G.1 27)), (1, .int l1), (2, .int l2), (3, .int l3)] [] σ (F_J7_fill_53178_27_b5 n l1 l2 l3 σ) := by
  intro n
  induction n with
  | zero => intro l1 l2 l3 σ; exact cv_none
  | succ n ih => intro l1 l2 l3 σ; exact I_J7_fill_53178_27_b5 hC _ ih l1 l2 l3 σ
set_option maxRecDepth 20000 in
set_option maxHeartbeats 2000000 in
theorem J_J7_fill_53178_27 {X : cv_X} {G : cv_G} {LL : Launch} (hC : cv_C X G LL RJ7 cJ7_fill_53178 4 none { frames := 0, cells := 0, slots := 0, locals := 0 }) (l1 : Int32) (σ : cv_St) : cv_J X G 4 0 0 (cv_QV X G) 0 [(0, .ref (G.1 27)), (1, .int l1)] [] σ (F_J7_fill_53178_27 l1 σ) := by
  unfold F_J7_fill_53178_27
  refine cv_iconst (v := 0) hC dJ7_fill_53178_0 cb_iconst_0 ?_
  refine cv_istore_n (lv' := [(2, .int 0), (0, .ref (G.1 27)), (1, .int l1)]) hC dJ7_fill_53178_1 rfl (by decide) rfl ?_
  refine cv_aload_n hC 1 dJ7_fill_53178_2 rfl rfl ?_
  refine cv_alen hC (cv_a27 G) dJ7_fill_53178_3 ?_
  refine cv_istore_n (lv' := [(3, .int (nI 8)), (2, .int 0), (0, .ref (G.1 27)), (1, .int l1)]) hC dJ7_fill_53178_4 rfl (by decide) rfl ?_
  exact cv_sub [2, 3, 1, 0] rfl (J_J7_fill_53178_27_b5 hC 1000 l1 0 (nI 8) σ)
set_option maxRecDepth 20000 in
set_option maxHeartbeats 2000000 in
theorem M_J7_fill_53178_27 (LL : Launch) (G : cv_G) (l1 : Int32) (σ : cv_St) : cv_MV LL G yJ7_fill_53178 cJ7_fill_53178 4 0 0 [.ref (G.1 27), .int l1] σ (F_J7_fill_53178_27 l1 σ) :=
  cv_mkV (by decide) (Nat.le_of_ble_eq_true rfl) (fun X hC => J_J7_fill_53178_27 hC l1 σ)
/-! J7_fill_53178_28 -/
set_option maxRecDepth 20000 in
set_option maxHeartbeats 2000000 in
theorem I_J7_fill_53178_28_b5 {X : cv_X} {G : cv_G} {LL : Launch} (hC : cv_C X G LL RJ7 cJ7_fill_53178 4 none { frames := 0, cells := 0, slots := 0, locals := 0 }) (k5 : Int32 → Int32 → Int32 → cv_St → Option (cv_St)) (hk5 : ∀ (l1 : Int32) (l2 : Int32) (l3 : Int32)  σ, cv_J X G 4 0 0 (cv_QV X G) 5 [(0, .ref (G.1 28)), (1, .int l1), (2, .int l2), (3, .int l3)] [] σ (k5 l1 l2 l3 σ)) (l1 : Int32) (l2 : Int32) (l3 : Int32) (σ : cv_St) : cv_J X G 4 0 0 (cv_QV X G) 5 [(0, .ref (G.1 28)), (1, .int l1), (2, .int l2), (3, .int l3)] [] σ (B_J7_fill_53178_28_b5 k5 l1 l2 l3 σ) := by
  unfold B_J7_fill_53178_28_b5
  refine cv_iload_n hC 2 dJ7_fill_53178_5 rfl rfl ?_
  refine cv_iload_n hC 3 dJ7_fill_53178_6 rfl rfl ?_
  refine cv_icmp_ge (tgt := 20) hC dJ7_fill_53178_7 (by decide) ?_ ?_
  · exact cv_vret hC dJ7_fill_53178_20
  · refine cv_aload_n hC 0 dJ7_fill_53178_10 rfl rfl ?_
    refine cv_iload_n hC 2 dJ7_fill_53178_11 rfl rfl ?_
    refine cv_iload_n hC 1 dJ7_fill_53178_12 rfl rfl ?_
    refine cv_iast hC (cv_a28 G) dJ7_fill_53178_13 (fun s1 => ?_)
    refine cv_iinc (lv' := [(2, .int (l2 + Int32.ofInt 1)), (0, .ref (G.1 28)), (1, .int l1), (3, .int l3)]) hC 2 dJ7_fill_53178_14 rfl (by decide) rfl ?_
    refine cv_goto (tgt := 5) hC dJ7_fill_53178_17 (by decide) ?_
    exact cv_sub [1, 2, 0, 3] rfl (hk5 l1 (l2 + Int32.ofInt 1) l3 s1)
set_option maxRecDepth 20000 in
set_option maxHeartbeats 2000000 in
theorem J_J7_fill_53178_28_b5 {X : cv_X} {G : cv_G} {LL : Launch} (hC : cv_C X G LL RJ7 cJ7_fill_53178 4 none { frames := 0, cells := 0, slots := 0, locals := 0 }) : ∀ (n : Nat) (l1 : Int32) (l2 : Int32) (l3 : Int32) (σ : cv_St), cv_J X G 4 0 0 (cv_QV X G) 5 [(0, .ref (G.1 28)), (1, .int l1), (2, .int l2), (3, .int l3)] [] σ (F_J7_fill_53178_28_b5 n l1 l2 l3 σ) := by
  intro n
  induction n with
  | zero => intro l1 l2 l3 σ; exact cv_none
  | succ n ih => intro l1 l2 l3 σ; exact I_J7_fill_53178_28_b5 hC _ ih l1 l2 l3 σ
set_option maxRecDepth 20000 in
set_option maxHeartbeats 2000000 in
theorem J_J7_fill_53178_28 {X : cv_X} {G : cv_G} {LL : Launch} (hC : cv_C X G LL RJ7 cJ7_fill_53178 4 none { frames := 0, cells := 0, slots := 0, locals := 0 }) (l1 : Int32) (σ : cv_St) : cv_J X G 4 0 0 (cv_QV X G) 0 [(0, .ref (G.1 28)), (1, .int l1)] [] σ (F_J7_fill_53178_28 l1 σ) := by
  unfold F_J7_fill_53178_28
  refine cv_iconst (v := 0) hC dJ7_fill_53178_0 cb_iconst_0 ?_
  refine cv_istore_n (lv' := [(2, .int 0), (0, .ref (G.1 28)), (1, .int l1)]) hC dJ7_fill_53178_1 rfl (by decide) rfl ?_
  refine cv_aload_n hC 1 dJ7_fill_53178_2 rfl rfl ?_
  refine cv_alen hC (cv_a28 G) dJ7_fill_53178_3 ?_
  refine cv_istore_n (lv' := [(3, .int (nI 15)), (2, .int 0), (0, .ref (G.1 28)), (1, .int l1)]) hC dJ7_fill_53178_4 rfl (by decide) rfl ?_
  exact cv_sub [2, 3, 1, 0] rfl (J_J7_fill_53178_28_b5 hC 1000 l1 0 (nI 15) σ)
set_option maxRecDepth 20000 in
set_option maxHeartbeats 2000000 in
theorem M_J7_fill_53178_28 (LL : Launch) (G : cv_G) (l1 : Int32) (σ : cv_St) : cv_MV LL G yJ7_fill_53178 cJ7_fill_53178 4 0 0 [.ref (G.1 28), .int l1] σ (F_J7_fill_53178_28 l1 σ) :=
  cv_mkV (by decide) (Nat.le_of_ble_eq_true rfl) (fun X hC => J_J7_fill_53178_28 hC l1 σ)
/-! X1_definedAt -/
set_option maxRecDepth 20000 in
set_option maxHeartbeats 2000000 in
theorem J_X1_definedAt {X : cv_X} {G : cv_G} {LL : Launch} (hC : cv_C X G LL RX1 cX1_definedAt 3 (some .int) { frames := 2, cells := 0, slots := 0, locals := 46 }) (l1 : Int32) (l2 : Int32) (σ : cv_St) : cv_J X G 3 0 0 (cv_QI X G) 0 [(0, .ref (G.1 6)), (1, .int l1), (2, .int l2)] [] σ (F_X1_definedAt l1 l2 σ) := by
  unfold F_X1_definedAt
  refine cv_aload_n hC 0 dX1_definedAt_0 rfl rfl ?_
  refine cv_getr hC (fg_X1_18_6 G) dX1_definedAt_1 ?_
  refine cv_iload_n hC 1 dX1_definedAt_4 rfl rfl ?_
  refine cv_iload_n hC 2 dX1_definedAt_5 rfl rfl ?_
  refine cv_callVi (ob := 2) hC [.int l1, .int l2] [] (M_X0_isCall LL G l1 l2 σ) ln_X1_60 vm_X0_isCall (ob_2 G) rfl rfl (Nat.le_of_ble_eq_true rfl) ⟨Nat.le_of_ble_eq_true rfl, Nat.le_of_ble_eq_true rfl⟩ ⟨Nat.le_of_ble_eq_true rfl, Nat.le_of_ble_eq_true rfl⟩ dX1_definedAt_6 (fun v2 s1 => ?_)
  refine cv_if_eq (tgt := 27) hC dX1_definedAt_9 (by decide) ?_ ?_
  · refine cv_aload_n hC 0 dX1_definedAt_27 rfl rfl ?_
    refine cv_getr hC (fg_X1_18_6 G) dX1_definedAt_28 ?_
    refine cv_iload_n hC 1 dX1_definedAt_31 rfl rfl ?_
    refine cv_iload_n hC 2 dX1_definedAt_32 rfl rfl ?_
    refine cv_callVi (ob := 2) hC [.int l1, .int l2] [] (M_X0_writtenBy LL G l1 l2 s1) ln_X1_66 vm_X0_writtenBy (ob_2 G) rfl rfl (Nat.le_of_ble_eq_true rfl) ⟨Nat.le_of_ble_eq_true rfl, Nat.le_of_ble_eq_true rfl⟩ ⟨Nat.le_of_ble_eq_true rfl, Nat.le_of_ble_eq_true rfl⟩ dX1_definedAt_33 (fun v4 s3 => ?_)
    exact cv_iret hC dX1_definedAt_36
  · refine cv_aload_n hC 0 dX1_definedAt_12 rfl rfl ?_
    refine cv_getr hC (fg_X1_9_6 G) dX1_definedAt_13 ?_
    refine cv_aload_n hC 0 dX1_definedAt_16 rfl rfl ?_
    refine cv_getr hC (fg_X1_18_6 G) dX1_definedAt_17 ?_
    refine cv_iload_n hC 1 dX1_definedAt_20 rfl rfl ?_
    refine cv_iload_n hC 2 dX1_definedAt_21 rfl rfl ?_
    refine cv_callVi (ob := 2) hC [.int l1, .int l2] [.ref (G.1 27)] (M_X0_numberAt LL G l1 l2 s1) ln_X1_63 vm_X0_numberAt (ob_2 G) rfl rfl (Nat.le_of_ble_eq_true rfl) ⟨Nat.le_of_ble_eq_true rfl, Nat.le_of_ble_eq_true rfl⟩ ⟨Nat.le_of_ble_eq_true rfl, Nat.le_of_ble_eq_true rfl⟩ dX1_definedAt_22 (fun v6 s5 => ?_)
    refine cv_iald hC (cv_a27 G) dX1_definedAt_25 (fun v7 => ?_)
    exact cv_iret hC dX1_definedAt_26
set_option maxRecDepth 20000 in
set_option maxHeartbeats 2000000 in
theorem M_X1_definedAt (LL : Launch) (G : cv_G) (l1 : Int32) (l2 : Int32) (σ : cv_St) : cv_MI LL G yX1_definedAt cX1_definedAt 3 (some .int) 2 46 [.ref (G.1 6), .int l1, .int l2] σ (F_X1_definedAt l1 l2 σ) :=
  cv_mkI (by decide) (Nat.le_of_ble_eq_true rfl) (fun X hC => J_X1_definedAt hC l1 l2 σ)
/-! X1_definedBy -/
set_option maxRecDepth 20000 in
set_option maxHeartbeats 2000000 in
theorem J_X1_definedBy_b101 {X : cv_X} {G : cv_G} {LL : Launch} (hC : cv_C X G LL RX1 cX1_definedBy 4 (some .int) { frames := 3, cells := 0, slots := 0, locals := 68 }) (k26 : Int32 → Int32 → cv_St → Option (Int32 × cv_St)) (hk26 : ∀ (l1 : Int32) (l2 : Int32)  σ, cv_J X G 4 0 0 (cv_QI X G) 26 [(0, .ref (G.1 6)), (1, .int l1), (2, .int l2)] [] σ (k26 l1 l2 σ)) (l1 : Int32) (l2 : Int32) (σ : cv_St) : cv_J X G 4 0 0 (cv_QI X G) 101 [(0, .ref (G.1 6)), (1, .int l1), (2, .int l2)] [] σ (F_X1_definedBy_b101 k26 l1 l2 σ) := by
  unfold F_X1_definedBy_b101
  refine cv_iinc (lv' := [(2, .int (l2 + Int32.ofInt 1)), (0, .ref (G.1 6)), (1, .int l1)]) hC 2 dX1_definedBy_101 rfl (by decide) rfl ?_
  refine cv_goto (tgt := 26) hC dX1_definedBy_104 (by decide) ?_
  exact cv_sub [1, 2, 0] rfl (hk26 l1 (l2 + Int32.ofInt 1) σ)
set_option maxRecDepth 20000 in
set_option maxHeartbeats 2000000 in
theorem I_X1_definedBy_b26 {X : cv_X} {G : cv_G} {LL : Launch} (hC : cv_C X G LL RX1 cX1_definedBy 4 (some .int) { frames := 3, cells := 0, slots := 0, locals := 68 }) (k26 : Int32 → Int32 → cv_St → Option (Int32 × cv_St)) (hk26 : ∀ (l1 : Int32) (l2 : Int32)  σ, cv_J X G 4 0 0 (cv_QI X G) 26 [(0, .ref (G.1 6)), (1, .int l1), (2, .int l2)] [] σ (k26 l1 l2 σ)) (l1 : Int32) (l2 : Int32) (σ : cv_St) : cv_J X G 4 0 0 (cv_QI X G) 26 [(0, .ref (G.1 6)), (1, .int l1), (2, .int l2)] [] σ (B_X1_definedBy_b26 k26 l1 l2 σ) := by
  unfold B_X1_definedBy_b26
  refine cv_iload_n hC 2 dX1_definedBy_26 rfl rfl ?_
  refine cv_aload_n hC 0 dX1_definedBy_27 rfl rfl ?_
  refine cv_getr hC (fg_X1_18_6 G) dX1_definedBy_28 ?_
  refine cv_getr hC (fg_X1_41_2 G) dX1_definedBy_31 ?_
  refine cv_iload_n hC 1 dX1_definedBy_34 rfl rfl ?_
  refine cv_iald hC (cv_a14 G) dX1_definedBy_35 (fun v5 => ?_)
  refine cv_icmp_ge (tgt := 107) hC dX1_definedBy_36 (by decide) ?_ ?_
  · refine cv_aload_n hC 0 dX1_definedBy_107 rfl rfl ?_
    refine cv_getr hC (fg_X1_15_6 G) dX1_definedBy_108 ?_
    refine cv_bipush (v := 14) hC dX1_definedBy_111 cb_bipush_14 ?_
    refine cv_iald hC (cv_a28 G) dX1_definedBy_113 (fun v6 => ?_)
    exact cv_iret hC dX1_definedBy_114
  · refine cv_aload_n hC 0 dX1_definedBy_39 rfl rfl ?_
    refine cv_getr hC (fg_X1_22_6 G) dX1_definedBy_40 ?_
    refine cv_iload_n hC 1 dX1_definedBy_43 rfl rfl ?_
    refine cv_iload_n hC 2 dX1_definedBy_44 rfl rfl ?_
    refine cv_callVi (ob := 4) hC [.int l1, .int l2] [] (M_X2_reaches LL G l1 l2 σ) ln_X1_44 vm_X2_reaches (ob_4 G) rfl rfl (Nat.le_of_ble_eq_true rfl) ⟨Nat.le_of_ble_eq_true rfl, Nat.le_of_ble_eq_true rfl⟩ ⟨Nat.le_of_ble_eq_true rfl, Nat.le_of_ble_eq_true rfl⟩ dX1_definedBy_45 (fun v8 s7 => ?_)
    refine cv_if_eq (tgt := 101) hC dX1_definedBy_48 (by decide) ?_ ?_
    · exact cv_sub [0, 1, 2] rfl (J_X1_definedBy_b101 hC k26 hk26 l1 l2 s7)
    · refine cv_aload_n hC 0 dX1_definedBy_51 rfl rfl ?_
      refine cv_getr hC (fg_X1_15_6 G) dX1_definedBy_52 ?_
      refine cv_iload_n hC 2 dX1_definedBy_55 rfl rfl ?_
      refine cv_iald hC (cv_a28 G) dX1_definedBy_56 (fun v9 => ?_)
      refine cv_aload_n hC 0 dX1_definedBy_57 rfl rfl ?_
      refine cv_iload_n hC 1 dX1_definedBy_58 rfl rfl ?_
      refine cv_iload_n hC 2 dX1_definedBy_59 rfl rfl ?_
      refine cv_callVi (ob := 6) hC [.int l1, .int l2] [.int v9] (M_X1_definedAt LL G l1 l2 s7) ln_X1_50 vm_X1_definedAt (ob_6 G) rfl rfl (Nat.le_of_ble_eq_true rfl) ⟨Nat.le_of_ble_eq_true rfl, Nat.le_of_ble_eq_true rfl⟩ ⟨Nat.le_of_ble_eq_true rfl, Nat.le_of_ble_eq_true rfl⟩ dX1_definedBy_60 (fun v11 s10 => ?_)
      refine cv_ior hC dX1_definedBy_63 ?_
      refine cv_istore_n (lv' := [(3, .int (v9 ||| v11)), (0, .ref (G.1 6)), (1, .int l1), (2, .int l2)]) hC dX1_definedBy_64 rfl (by decide) rfl ?_
      refine cv_aload_n hC 1 dX1_definedBy_65 rfl rfl ?_
      refine cv_getr hC (fg_X1_15_6 G) dX1_definedBy_66 ?_
      refine cv_aload_n hC 1 dX1_definedBy_69 rfl rfl ?_
      refine cv_getr hC (fg_X1_18_6 G) dX1_definedBy_70 ?_
      refine cv_iload_n hC 2 dX1_definedBy_73 rfl rfl ?_
      refine cv_iload_n hC 3 dX1_definedBy_74 rfl rfl ?_
      refine cv_callVi (ob := 2) hC [.int l1, .int l2] [.ref (G.1 28)] (M_X0_next LL G l1 l2 s10) ln_X1_54 vm_X0_next (ob_2 G) rfl rfl (Nat.le_of_ble_eq_true rfl) ⟨Nat.le_of_ble_eq_true rfl, Nat.le_of_ble_eq_true rfl⟩ ⟨Nat.le_of_ble_eq_true rfl, Nat.le_of_ble_eq_true rfl⟩ dX1_definedBy_75 (fun v13 s12 => ?_)
      refine cv_dup2 hC dX1_definedBy_78 rfl rfl ?_
      refine cv_iald hC (cv_a28 G) dX1_definedBy_79 (fun v14 => ?_)
      refine cv_iload_n hC 0 dX1_definedBy_80 rfl rfl ?_
      refine cv_iand hC dX1_definedBy_81 ?_
      refine cv_iast hC (cv_a28 G) dX1_definedBy_82 (fun s15 => ?_)
      refine cv_aload_n hC 1 dX1_definedBy_83 rfl rfl ?_
      refine cv_getr hC (fg_X1_15_6 G) dX1_definedBy_84 ?_
      refine cv_aload_n hC 1 dX1_definedBy_87 rfl rfl ?_
      refine cv_getr hC (fg_X1_18_6 G) dX1_definedBy_88 ?_
      refine cv_iload_n hC 2 dX1_definedBy_91 rfl rfl ?_
      refine cv_iload_n hC 3 dX1_definedBy_92 rfl rfl ?_
      refine cv_callVi (ob := 2) hC [.int l1, .int l2] [.ref (G.1 28)] (M_X0_other LL G l1 l2 s15) ln_X1_57 vm_X0_other (ob_2 G) rfl rfl (Nat.le_of_ble_eq_true rfl) ⟨Nat.le_of_ble_eq_true rfl, Nat.le_of_ble_eq_true rfl⟩ ⟨Nat.le_of_ble_eq_true rfl, Nat.le_of_ble_eq_true rfl⟩ dX1_definedBy_93 (fun v17 s16 => ?_)
      refine cv_dup2 hC dX1_definedBy_96 rfl rfl ?_
      refine cv_iald hC (cv_a28 G) dX1_definedBy_97 (fun v18 => ?_)
      refine cv_iload_n hC 0 dX1_definedBy_98 rfl rfl ?_
      refine cv_iand hC dX1_definedBy_99 ?_
      refine cv_iast hC (cv_a28 G) dX1_definedBy_100 (fun s19 => ?_)
      exact cv_sub [1, 2, 3] rfl (J_X1_definedBy_b101 hC k26 hk26 l1 l2 s19)
set_option maxRecDepth 20000 in
set_option maxHeartbeats 2000000 in
theorem J_X1_definedBy_b26 {X : cv_X} {G : cv_G} {LL : Launch} (hC : cv_C X G LL RX1 cX1_definedBy 4 (some .int) { frames := 3, cells := 0, slots := 0, locals := 68 }) : ∀ (n : Nat) (l1 : Int32) (l2 : Int32) (σ : cv_St), cv_J X G 4 0 0 (cv_QI X G) 26 [(0, .ref (G.1 6)), (1, .int l1), (2, .int l2)] [] σ (F_X1_definedBy_b26 n l1 l2 σ) := by
  intro n
  induction n with
  | zero => intro l1 l2 σ; exact cv_none
  | succ n ih => intro l1 l2 σ; exact I_X1_definedBy_b26 hC _ ih l1 l2 σ
set_option maxRecDepth 20000 in
set_option maxHeartbeats 2000000 in
theorem J_X1_definedBy {X : cv_X} {G : cv_G} {LL : Launch} (hC : cv_C X G LL RX1 cX1_definedBy 4 (some .int) { frames := 3, cells := 0, slots := 0, locals := 68 }) (l1 : Int32) (σ : cv_St) : cv_J X G 4 0 0 (cv_QI X G) 0 [(0, .ref (G.1 6)), (1, .int l1)] [] σ (F_X1_definedBy l1 σ) := by
  unfold F_X1_definedBy
  refine cv_aload_n hC 0 dX1_definedBy_0 rfl rfl ?_
  refine cv_getr hC (fg_X1_15_6 G) dX1_definedBy_1 ?_
  refine cv_sipush (v := 255) hC dX1_definedBy_4 cb_sipush_255 ?_
  refine cv_callSv hC [.ref (G.1 28), .int 255] [] (M_J7_fill_53178_28 LL G 255 σ) ln_X1_26 vm_J7_fill_53178 rfl rfl (Nat.le_of_ble_eq_true rfl) ⟨Nat.le_of_ble_eq_true rfl, Nat.le_of_ble_eq_true rfl⟩ ⟨Nat.le_of_ble_eq_true rfl, Nat.le_of_ble_eq_true rfl⟩ dX1_definedBy_7 (fun s1 => ?_)
  refine cv_aload_n hC 0 dX1_definedBy_10 rfl rfl ?_
  refine cv_getr hC (fg_X1_15_6 G) dX1_definedBy_11 ?_
  refine cv_aload_n hC 0 dX1_definedBy_14 rfl rfl ?_
  refine cv_getr hC (fg_X1_18_6 G) dX1_definedBy_15 ?_
  refine cv_iload_n hC 1 dX1_definedBy_18 rfl rfl ?_
  refine cv_callVi (ob := 2) hC [.int l1] [.ref (G.1 28)] (M_X0_entry LL G l1 s1) ln_X1_36 vm_X0_entry (ob_2 G) rfl rfl (Nat.le_of_ble_eq_true rfl) ⟨Nat.le_of_ble_eq_true rfl, Nat.le_of_ble_eq_true rfl⟩ ⟨Nat.le_of_ble_eq_true rfl, Nat.le_of_ble_eq_true rfl⟩ dX1_definedBy_19 (fun v3 s2 => ?_)
  refine cv_iconst (v := 0) hC dX1_definedBy_22 cb_iconst_0 ?_
  refine cv_iast hC (cv_a28 G) dX1_definedBy_23 (fun s4 => ?_)
  refine cv_iconst (v := 0) hC dX1_definedBy_24 cb_iconst_0 ?_
  refine cv_istore_n (lv' := [(2, .int 0), (0, .ref (G.1 6)), (1, .int l1)]) hC dX1_definedBy_25 rfl (by decide) rfl ?_
  exact cv_sub [1, 2, 0] rfl (J_X1_definedBy_b26 hC 1000 l1 0 s4)
set_option maxRecDepth 20000 in
set_option maxHeartbeats 2000000 in
theorem M_X1_definedBy (LL : Launch) (G : cv_G) (l1 : Int32) (σ : cv_St) : cv_MI LL G yX1_definedBy cX1_definedBy 4 (some .int) 3 68 [.ref (G.1 6), .int l1] σ (F_X1_definedBy l1 σ) :=
  cv_mkI (by decide) (Nat.le_of_ble_eq_true rfl) (fun X hC => J_X1_definedBy hC l1 σ)
/-! X1_infer -/
set_option maxRecDepth 20000 in
set_option maxHeartbeats 2000000 in
theorem J_X1_infer_b60 {X : cv_X} {G : cv_G} {LL : Launch} (hC : cv_C X G LL RX1 cX1_infer 5 none { frames := 4, cells := 0, slots := 0, locals := 91 }) (k12 : Int32 → Int32 → cv_St → Option (cv_St)) (hk12 : ∀ (l1 : Int32) (l2 : Int32)  σ, cv_J X G 5 0 0 (cv_QV X G) 12 [(0, .ref (G.1 6)), (1, .int l1), (2, .int l2)] [] σ (k12 l1 l2 σ)) (k26 : Int32 → Int32 → Int32 → cv_St → Option (cv_St)) (hk26 : ∀ (l1 : Int32) (l2 : Int32) (l3 : Int32)  σ, cv_J X G 5 0 0 (cv_QV X G) 26 [(0, .ref (G.1 6)), (1, .int l1), (2, .int l2), (3, .int l3)] [] σ (k26 l1 l2 l3 σ)) (l1 : Int32) (l2 : Int32) (l3 : Int32) (σ : cv_St) : cv_J X G 5 0 0 (cv_QV X G) 60 [(0, .ref (G.1 6)), (1, .int l1), (2, .int l2), (3, .int l3)] [] σ (F_X1_infer_b60 k12 k26 l1 l2 l3 σ) := by
  unfold F_X1_infer_b60
  refine cv_iinc (lv' := [(3, .int (l3 + Int32.ofInt 1)), (0, .ref (G.1 6)), (1, .int l1), (2, .int l2)]) hC 3 dX1_infer_60 rfl (by decide) rfl ?_
  refine cv_goto (tgt := 26) hC dX1_infer_63 (by decide) ?_
  exact cv_sub [1, 2, 3, 0] rfl (hk26 l1 l2 (l3 + Int32.ofInt 1) σ)
set_option maxRecDepth 20000 in
set_option maxHeartbeats 2000000 in
theorem I_X1_infer_b26 {X : cv_X} {G : cv_G} {LL : Launch} (hC : cv_C X G LL RX1 cX1_infer 5 none { frames := 4, cells := 0, slots := 0, locals := 91 }) (k12 : Int32 → Int32 → cv_St → Option (cv_St)) (hk12 : ∀ (l1 : Int32) (l2 : Int32)  σ, cv_J X G 5 0 0 (cv_QV X G) 12 [(0, .ref (G.1 6)), (1, .int l1), (2, .int l2)] [] σ (k12 l1 l2 σ)) (k26 : Int32 → Int32 → Int32 → cv_St → Option (cv_St)) (hk26 : ∀ (l1 : Int32) (l2 : Int32) (l3 : Int32)  σ, cv_J X G 5 0 0 (cv_QV X G) 26 [(0, .ref (G.1 6)), (1, .int l1), (2, .int l2), (3, .int l3)] [] σ (k26 l1 l2 l3 σ)) (l1 : Int32) (l2 : Int32) (l3 : Int32) (σ : cv_St) : cv_J X G 5 0 0 (cv_QV X G) 26 [(0, .ref (G.1 6)), (1, .int l1), (2, .int l2), (3, .int l3)] [] σ (B_X1_infer_b26 k12 k26 l1 l2 l3 σ) := by
  unfold B_X1_infer_b26
  refine cv_iload_n hC 3 dX1_infer_26 rfl rfl ?_
  refine cv_bipush (v := 8) hC dX1_infer_27 cb_bipush_8 ?_
  refine cv_icmp_ge (tgt := 66) hC dX1_infer_29 (by decide) ?_ ?_
  · refine cv_iinc (lv' := [(2, .int (l2 + Int32.ofInt 1)), (0, .ref (G.1 6)), (1, .int l1), (3, .int l3)]) hC 2 dX1_infer_66 rfl (by decide) rfl ?_
    refine cv_goto (tgt := 12) hC dX1_infer_69 (by decide) ?_
    exact cv_sub [1, 2, 0] rfl (hk12 l1 (l2 + Int32.ofInt 1) σ)
  · refine cv_aload_n hC 0 dX1_infer_32 rfl rfl ?_
    refine cv_iload_n hC 3 dX1_infer_33 rfl rfl ?_
    refine cv_callVi (ob := 6) hC [.int l3] [] (M_X1_definedBy LL G l3 σ) ln_X1_32 vm_X1_definedBy (ob_6 G) rfl rfl (Nat.le_of_ble_eq_true rfl) ⟨Nat.le_of_ble_eq_true rfl, Nat.le_of_ble_eq_true rfl⟩ ⟨Nat.le_of_ble_eq_true rfl, Nat.le_of_ble_eq_true rfl⟩ dX1_infer_34 (fun v3 s2 => ?_)
    refine cv_istore (lv' := [(4, .int v3), (0, .ref (G.1 6)), (1, .int l1), (2, .int l2), (3, .int l3)]) hC dX1_infer_37 (by decide) rfl ?_
    refine cv_iload hC 0 dX1_infer_39 rfl ?_
    refine cv_aload_n hC 1 dX1_infer_41 rfl rfl ?_
    refine cv_getr hC (fg_X1_9_6 G) dX1_infer_42 ?_
    refine cv_iload_n hC 4 dX1_infer_45 rfl rfl ?_
    refine cv_iald hC (cv_a27 G) dX1_infer_46 (fun v4 => ?_)
    refine cv_icmp_eq (tgt := 60) hC dX1_infer_47 (by decide) ?_ ?_
    · exact cv_sub [1, 2, 3, 4] rfl (J_X1_infer_b60 hC k12 hk12 k26 hk26 l1 l2 l3 s2)
    · refine cv_aload_n hC 1 dX1_infer_50 rfl rfl ?_
      refine cv_getr hC (fg_X1_9_6 G) dX1_infer_51 ?_
      refine cv_iload_n hC 4 dX1_infer_54 rfl rfl ?_
      refine cv_iload hC 0 dX1_infer_55 rfl ?_
      refine cv_iast hC (cv_a27 G) dX1_infer_57 (fun s5 => ?_)
      refine cv_iconst (v := 1) hC dX1_infer_58 cb_iconst_1 ?_
      refine cv_istore_n (lv' := [(1, .int 1), (4, .int v3), (0, .ref (G.1 6)), (2, .int l2), (3, .int l3)]) hC dX1_infer_59 rfl (by decide) rfl ?_
      exact cv_sub [2, 0, 3, 4] rfl (J_X1_infer_b60 hC k12 hk12 k26 hk26 1 l2 l3 s5)
set_option maxRecDepth 20000 in
set_option maxHeartbeats 2000000 in
theorem J_X1_infer_b26 {X : cv_X} {G : cv_G} {LL : Launch} (hC : cv_C X G LL RX1 cX1_infer 5 none { frames := 4, cells := 0, slots := 0, locals := 91 }) (k12 : Int32 → Int32 → cv_St → Option (cv_St)) (hk12 : ∀ (l1 : Int32) (l2 : Int32)  σ, cv_J X G 5 0 0 (cv_QV X G) 12 [(0, .ref (G.1 6)), (1, .int l1), (2, .int l2)] [] σ (k12 l1 l2 σ)) : ∀ (n : Nat) (l1 : Int32) (l2 : Int32) (l3 : Int32) (σ : cv_St), cv_J X G 5 0 0 (cv_QV X G) 26 [(0, .ref (G.1 6)), (1, .int l1), (2, .int l2), (3, .int l3)] [] σ (F_X1_infer_b26 k12 n l1 l2 l3 σ) := by
  intro n
  induction n with
  | zero => intro l1 l2 l3 σ; exact cv_none
  | succ n ih => intro l1 l2 l3 σ; exact I_X1_infer_b26 hC k12 hk12 _ ih l1 l2 l3 σ
set_option maxRecDepth 20000 in
set_option maxHeartbeats 2000000 in
theorem I_X1_infer_b12 {X : cv_X} {G : cv_G} {LL : Launch} (hC : cv_C X G LL RX1 cX1_infer 5 none { frames := 4, cells := 0, slots := 0, locals := 91 }) (k12 : Int32 → Int32 → cv_St → Option (cv_St)) (hk12 : ∀ (l1 : Int32) (l2 : Int32)  σ, cv_J X G 5 0 0 (cv_QV X G) 12 [(0, .ref (G.1 6)), (1, .int l1), (2, .int l2)] [] σ (k12 l1 l2 σ)) (l1 : Int32) (l2 : Int32) (σ : cv_St) : cv_J X G 5 0 0 (cv_QV X G) 12 [(0, .ref (G.1 6)), (1, .int l1), (2, .int l2)] [] σ (B_X1_infer_b12 k12 l1 l2 σ) := by
  unfold B_X1_infer_b12
  refine cv_iload_n hC 1 dX1_infer_12 rfl rfl ?_
  refine cv_if_eq (tgt := 72) hC dX1_infer_13 (by decide) ?_ ?_
  · exact cv_vret hC dX1_infer_72
  · refine cv_iload_n hC 2 dX1_infer_16 rfl rfl ?_
    refine cv_bipush (v := 64) hC dX1_infer_17 cb_bipush_64 ?_
    refine cv_icmp_gt (tgt := 72) hC dX1_infer_19 (by decide) ?_ ?_
    · exact cv_vret hC dX1_infer_72
    · refine cv_iconst (v := 0) hC dX1_infer_22 cb_iconst_0 ?_
      refine cv_istore_n (lv' := [(1, .int 0), (0, .ref (G.1 6)), (2, .int l2)]) hC dX1_infer_23 rfl (by decide) rfl ?_
      refine cv_iconst (v := 0) hC dX1_infer_24 cb_iconst_0 ?_
      refine cv_istore_n (lv' := [(3, .int 0), (1, .int 0), (0, .ref (G.1 6)), (2, .int l2)]) hC dX1_infer_25 rfl (by decide) rfl ?_
      exact cv_sub [2, 1, 3, 0] rfl (J_X1_infer_b26 hC k12 hk12 1000 0 l2 0 σ)
set_option maxRecDepth 20000 in
set_option maxHeartbeats 2000000 in
theorem J_X1_infer_b12 {X : cv_X} {G : cv_G} {LL : Launch} (hC : cv_C X G LL RX1 cX1_infer 5 none { frames := 4, cells := 0, slots := 0, locals := 91 }) : ∀ (n : Nat) (l1 : Int32) (l2 : Int32) (σ : cv_St), cv_J X G 5 0 0 (cv_QV X G) 12 [(0, .ref (G.1 6)), (1, .int l1), (2, .int l2)] [] σ (F_X1_infer_b12 n l1 l2 σ) := by
  intro n
  induction n with
  | zero => intro l1 l2 σ; exact cv_none
  | succ n ih => intro l1 l2 σ; exact I_X1_infer_b12 hC _ ih l1 l2 σ
set_option maxRecDepth 20000 in
set_option maxHeartbeats 2000000 in
theorem J_X1_infer {X : cv_X} {G : cv_G} {LL : Launch} (hC : cv_C X G LL RX1 cX1_infer 5 none { frames := 4, cells := 0, slots := 0, locals := 91 }) (σ : cv_St) : cv_J X G 5 0 0 (cv_QV X G) 0 [(0, .ref (G.1 6))] [] σ (F_X1_infer σ) := by
  unfold F_X1_infer
  refine cv_aload_n hC 0 dX1_infer_0 rfl rfl ?_
  refine cv_getr hC (fg_X1_9_6 G) dX1_infer_1 ?_
  refine cv_iconst (v := 0) hC dX1_infer_4 cb_iconst_0 ?_
  refine cv_callSv hC [.ref (G.1 27), .int 0] [] (M_J7_fill_53178_27 LL G 0 σ) ln_X1_26 vm_J7_fill_53178 rfl rfl (Nat.le_of_ble_eq_true rfl) ⟨Nat.le_of_ble_eq_true rfl, Nat.le_of_ble_eq_true rfl⟩ ⟨Nat.le_of_ble_eq_true rfl, Nat.le_of_ble_eq_true rfl⟩ dX1_infer_5 (fun s1 => ?_)
  refine cv_iconst (v := 1) hC dX1_infer_8 cb_iconst_1 ?_
  refine cv_istore_n (lv' := [(1, .int 1), (0, .ref (G.1 6))]) hC dX1_infer_9 rfl (by decide) rfl ?_
  refine cv_iconst (v := 0) hC dX1_infer_10 cb_iconst_0 ?_
  refine cv_istore_n (lv' := [(2, .int 0), (1, .int 1), (0, .ref (G.1 6))]) hC dX1_infer_11 rfl (by decide) rfl ?_
  exact cv_sub [2, 1, 0] rfl (J_X1_infer_b12 hC 1000 1 0 s1)
set_option maxRecDepth 20000 in
set_option maxHeartbeats 2000000 in
theorem M_X1_infer (LL : Launch) (G : cv_G) (σ : cv_St) : cv_MV LL G yX1_infer cX1_infer 5 4 91 [.ref (G.1 6)] σ (F_X1_infer σ) :=
  cv_mkV (by decide) (Nat.le_of_ble_eq_true rfl) (fun X hC => J_X1_infer hC σ)
/-! X3_before -/
set_option maxRecDepth 20000 in
set_option maxHeartbeats 2000000 in
theorem J_X3_before {X : cv_X} {G : cv_G} {LL : Launch} (hC : cv_C X G LL RX3 cX3_before 3 (some .int) { frames := 0, cells := 0, slots := 0, locals := 0 }) (l1 : Int32) (l2 : Int32) (σ : cv_St) : cv_J X G 3 0 0 (cv_QI X G) 0 [(0, .ref (G.1 7)), (1, .int l1), (2, .int l2)] [] σ (F_X3_before l1 l2 σ) := by
  unfold F_X3_before
  refine cv_aload_n hC 0 dX3_before_0 rfl rfl ?_
  refine cv_getr hC (fg_X3_9_7 G) dX3_before_1 ?_
  refine cv_iload_n hC 1 dX3_before_4 rfl rfl ?_
  refine cv_bipush (v := 15) hC dX3_before_5 cb_bipush_15 ?_
  refine cv_imul hC dX3_before_7 ?_
  refine cv_iload_n hC 2 dX3_before_8 rfl rfl ?_
  refine cv_iadd hC dX3_before_9 ?_
  refine cv_iald hC (cv_a29 G) dX3_before_10 (fun v1 => ?_)
  exact cv_iret hC dX3_before_11
set_option maxRecDepth 20000 in
set_option maxHeartbeats 2000000 in
theorem M_X3_before (LL : Launch) (G : cv_G) (l1 : Int32) (l2 : Int32) (σ : cv_St) : cv_MI LL G yX3_before cX3_before 3 (some .int) 0 0 [.ref (G.1 7), .int l1, .int l2] σ (F_X3_before l1 l2 σ) :=
  cv_mkI (by decide) (Nat.le_of_ble_eq_true rfl) (fun X hC => J_X3_before hC l1 l2 σ)
/-! X3_behind -/
set_option maxRecDepth 20000 in
set_option maxHeartbeats 2000000 in
theorem J_X3_behind {X : cv_X} {G : cv_G} {LL : Launch} (hC : cv_C X G LL RX3 cX3_behind 3 (some .int) { frames := 2, cells := 0, slots := 0, locals := 48 }) (l1 : Int32) (l2 : Int32) (σ : cv_St) : cv_J X G 3 0 0 (cv_QI X G) 0 [(0, .ref (G.1 7)), (1, .int l1), (2, .int l2)] [] σ (F_X3_behind l1 l2 σ) := by
  unfold F_X3_behind
  refine cv_aload_n hC 0 dX3_behind_0 rfl rfl ?_
  refine cv_iload_n hC 1 dX3_behind_1 rfl rfl ?_
  refine cv_aload_n hC 0 dX3_behind_2 rfl rfl ?_
  refine cv_getr hC (fg_X3_21_7 G) dX3_behind_3 ?_
  refine cv_iload_n hC 1 dX3_behind_6 rfl rfl ?_
  refine cv_iload_n hC 2 dX3_behind_7 rfl rfl ?_
  refine cv_callVi (ob := 2) hC [.int l1, .int l2] [.int l1, .ref (G.1 7)] (M_X0_next LL G l1 l2 σ) ln_X3_37 vm_X0_next (ob_2 G) rfl rfl (Nat.le_of_ble_eq_true rfl) ⟨Nat.le_of_ble_eq_true rfl, Nat.le_of_ble_eq_true rfl⟩ ⟨Nat.le_of_ble_eq_true rfl, Nat.le_of_ble_eq_true rfl⟩ dX3_behind_8 (fun v2 s1 => ?_)
  refine cv_callVi (ob := 7) hC [.int l1, .int v2] [] (M_X3_before LL G l1 v2 s1) ln_X3_43 vm_X3_before (ob_7 G) rfl rfl (Nat.le_of_ble_eq_true rfl) ⟨Nat.le_of_ble_eq_true rfl, Nat.le_of_ble_eq_true rfl⟩ ⟨Nat.le_of_ble_eq_true rfl, Nat.le_of_ble_eq_true rfl⟩ dX3_behind_11 (fun v4 s3 => ?_)
  refine cv_aload_n hC 0 dX3_behind_14 rfl rfl ?_
  refine cv_iload_n hC 1 dX3_behind_15 rfl rfl ?_
  refine cv_aload_n hC 0 dX3_behind_16 rfl rfl ?_
  refine cv_getr hC (fg_X3_21_7 G) dX3_behind_17 ?_
  refine cv_iload_n hC 1 dX3_behind_20 rfl rfl ?_
  refine cv_iload_n hC 2 dX3_behind_21 rfl rfl ?_
  refine cv_callVi (ob := 2) hC [.int l1, .int l2] [.int l1, .ref (G.1 7), .int v4] (M_X0_other LL G l1 l2 s3) ln_X3_46 vm_X0_other (ob_2 G) rfl rfl (Nat.le_of_ble_eq_true rfl) ⟨Nat.le_of_ble_eq_true rfl, Nat.le_of_ble_eq_true rfl⟩ ⟨Nat.le_of_ble_eq_true rfl, Nat.le_of_ble_eq_true rfl⟩ dX3_behind_22 (fun v6 s5 => ?_)
  refine cv_callVi (ob := 7) hC [.int l1, .int v6] [.int v4] (M_X3_before LL G l1 v6 s5) ln_X3_43 vm_X3_before (ob_7 G) rfl rfl (Nat.le_of_ble_eq_true rfl) ⟨Nat.le_of_ble_eq_true rfl, Nat.le_of_ble_eq_true rfl⟩ ⟨Nat.le_of_ble_eq_true rfl, Nat.le_of_ble_eq_true rfl⟩ dX3_behind_25 (fun v8 s7 => ?_)
  refine cv_ior hC dX3_behind_28 ?_
  exact cv_iret hC dX3_behind_29
set_option maxRecDepth 20000 in
set_option maxHeartbeats 2000000 in
theorem M_X3_behind (LL : Launch) (G : cv_G) (l1 : Int32) (l2 : Int32) (σ : cv_St) : cv_MI LL G yX3_behind cX3_behind 3 (some .int) 2 48 [.ref (G.1 7), .int l1, .int l2] σ (F_X3_behind l1 l2 σ) :=
  cv_mkI (by decide) (Nat.le_of_ble_eq_true rfl) (fun X hC => J_X3_behind hC l1 l2 σ)
/-! J7_fill_53178_29 -/
set_option maxRecDepth 20000 in
set_option maxHeartbeats 2000000 in
theorem I_J7_fill_53178_29_b5 {X : cv_X} {G : cv_G} {LL : Launch} (hC : cv_C X G LL RJ7 cJ7_fill_53178 4 none { frames := 0, cells := 0, slots := 0, locals := 0 }) (k5 : Int32 → Int32 → Int32 → cv_St → Option (cv_St)) (hk5 : ∀ (l1 : Int32) (l2 : Int32) (l3 : Int32)  σ, cv_J X G 4 0 0 (cv_QV X G) 5 [(0, .ref (G.1 29)), (1, .int l1), (2, .int l2), (3, .int l3)] [] σ (k5 l1 l2 l3 σ)) (l1 : Int32) (l2 : Int32) (l3 : Int32) (σ : cv_St) : cv_J X G 4 0 0 (cv_QV X G) 5 [(0, .ref (G.1 29)), (1, .int l1), (2, .int l2), (3, .int l3)] [] σ (B_J7_fill_53178_29_b5 k5 l1 l2 l3 σ) := by
  unfold B_J7_fill_53178_29_b5
  refine cv_iload_n hC 2 dJ7_fill_53178_5 rfl rfl ?_
  refine cv_iload_n hC 3 dJ7_fill_53178_6 rfl rfl ?_
  refine cv_icmp_ge (tgt := 20) hC dJ7_fill_53178_7 (by decide) ?_ ?_
  · exact cv_vret hC dJ7_fill_53178_20
  · refine cv_aload_n hC 0 dJ7_fill_53178_10 rfl rfl ?_
    refine cv_iload_n hC 2 dJ7_fill_53178_11 rfl rfl ?_
    refine cv_iload_n hC 1 dJ7_fill_53178_12 rfl rfl ?_
    refine cv_iast hC (cv_a29 G) dJ7_fill_53178_13 (fun s1 => ?_)
    refine cv_iinc (lv' := [(2, .int (l2 + Int32.ofInt 1)), (0, .ref (G.1 29)), (1, .int l1), (3, .int l3)]) hC 2 dJ7_fill_53178_14 rfl (by decide) rfl ?_
    refine cv_goto (tgt := 5) hC dJ7_fill_53178_17 (by decide) ?_
    exact cv_sub [1, 2, 0, 3] rfl (hk5 l1 (l2 + Int32.ofInt 1) l3 s1)
set_option maxRecDepth 20000 in
set_option maxHeartbeats 2000000 in
theorem J_J7_fill_53178_29_b5 {X : cv_X} {G : cv_G} {LL : Launch} (hC : cv_C X G LL RJ7 cJ7_fill_53178 4 none { frames := 0, cells := 0, slots := 0, locals := 0 }) : ∀ (n : Nat) (l1 : Int32) (l2 : Int32) (l3 : Int32) (σ : cv_St), cv_J X G 4 0 0 (cv_QV X G) 5 [(0, .ref (G.1 29)), (1, .int l1), (2, .int l2), (3, .int l3)] [] σ (F_J7_fill_53178_29_b5 n l1 l2 l3 σ) := by
  intro n
  induction n with
  | zero => intro l1 l2 l3 σ; exact cv_none
  | succ n ih => intro l1 l2 l3 σ; exact I_J7_fill_53178_29_b5 hC _ ih l1 l2 l3 σ
set_option maxRecDepth 20000 in
set_option maxHeartbeats 2000000 in
theorem J_J7_fill_53178_29 {X : cv_X} {G : cv_G} {LL : Launch} (hC : cv_C X G LL RJ7 cJ7_fill_53178 4 none { frames := 0, cells := 0, slots := 0, locals := 0 }) (l1 : Int32) (σ : cv_St) : cv_J X G 4 0 0 (cv_QV X G) 0 [(0, .ref (G.1 29)), (1, .int l1)] [] σ (F_J7_fill_53178_29 l1 σ) := by
  unfold F_J7_fill_53178_29
  refine cv_iconst (v := 0) hC dJ7_fill_53178_0 cb_iconst_0 ?_
  refine cv_istore_n (lv' := [(2, .int 0), (0, .ref (G.1 29)), (1, .int l1)]) hC dJ7_fill_53178_1 rfl (by decide) rfl ?_
  refine cv_aload_n hC 1 dJ7_fill_53178_2 rfl rfl ?_
  refine cv_alen hC (cv_a29 G) dJ7_fill_53178_3 ?_
  refine cv_istore_n (lv' := [(3, .int (nI 120)), (2, .int 0), (0, .ref (G.1 29)), (1, .int l1)]) hC dJ7_fill_53178_4 rfl (by decide) rfl ?_
  exact cv_sub [2, 3, 1, 0] rfl (J_J7_fill_53178_29_b5 hC 1000 l1 0 (nI 120) σ)
set_option maxRecDepth 20000 in
set_option maxHeartbeats 2000000 in
theorem M_J7_fill_53178_29 (LL : Launch) (G : cv_G) (l1 : Int32) (σ : cv_St) : cv_MV LL G yJ7_fill_53178 cJ7_fill_53178 4 0 0 [.ref (G.1 29), .int l1] σ (F_J7_fill_53178_29 l1 σ) :=
  cv_mkV (by decide) (Nat.le_of_ble_eq_true rfl) (fun X hC => J_J7_fill_53178_29 hC l1 σ)
/-! J7_fill_53178_30 -/
set_option maxRecDepth 20000 in
set_option maxHeartbeats 2000000 in
theorem I_J7_fill_53178_30_b5 {X : cv_X} {G : cv_G} {LL : Launch} (hC : cv_C X G LL RJ7 cJ7_fill_53178 4 none { frames := 0, cells := 0, slots := 0, locals := 0 }) (k5 : Int32 → Int32 → Int32 → cv_St → Option (cv_St)) (hk5 : ∀ (l1 : Int32) (l2 : Int32) (l3 : Int32)  σ, cv_J X G 4 0 0 (cv_QV X G) 5 [(0, .ref (G.1 30)), (1, .int l1), (2, .int l2), (3, .int l3)] [] σ (k5 l1 l2 l3 σ)) (l1 : Int32) (l2 : Int32) (l3 : Int32) (σ : cv_St) : cv_J X G 4 0 0 (cv_QV X G) 5 [(0, .ref (G.1 30)), (1, .int l1), (2, .int l2), (3, .int l3)] [] σ (B_J7_fill_53178_30_b5 k5 l1 l2 l3 σ) := by
  unfold B_J7_fill_53178_30_b5
  refine cv_iload_n hC 2 dJ7_fill_53178_5 rfl rfl ?_
  refine cv_iload_n hC 3 dJ7_fill_53178_6 rfl rfl ?_
  refine cv_icmp_ge (tgt := 20) hC dJ7_fill_53178_7 (by decide) ?_ ?_
  · exact cv_vret hC dJ7_fill_53178_20
  · refine cv_aload_n hC 0 dJ7_fill_53178_10 rfl rfl ?_
    refine cv_iload_n hC 2 dJ7_fill_53178_11 rfl rfl ?_
    refine cv_iload_n hC 1 dJ7_fill_53178_12 rfl rfl ?_
    refine cv_iast hC (cv_a30 G) dJ7_fill_53178_13 (fun s1 => ?_)
    refine cv_iinc (lv' := [(2, .int (l2 + Int32.ofInt 1)), (0, .ref (G.1 30)), (1, .int l1), (3, .int l3)]) hC 2 dJ7_fill_53178_14 rfl (by decide) rfl ?_
    refine cv_goto (tgt := 5) hC dJ7_fill_53178_17 (by decide) ?_
    exact cv_sub [1, 2, 0, 3] rfl (hk5 l1 (l2 + Int32.ofInt 1) l3 s1)
set_option maxRecDepth 20000 in
set_option maxHeartbeats 2000000 in
theorem J_J7_fill_53178_30_b5 {X : cv_X} {G : cv_G} {LL : Launch} (hC : cv_C X G LL RJ7 cJ7_fill_53178 4 none { frames := 0, cells := 0, slots := 0, locals := 0 }) : ∀ (n : Nat) (l1 : Int32) (l2 : Int32) (l3 : Int32) (σ : cv_St), cv_J X G 4 0 0 (cv_QV X G) 5 [(0, .ref (G.1 30)), (1, .int l1), (2, .int l2), (3, .int l3)] [] σ (F_J7_fill_53178_30_b5 n l1 l2 l3 σ) := by
  intro n
  induction n with
  | zero => intro l1 l2 l3 σ; exact cv_none
  | succ n ih => intro l1 l2 l3 σ; exact I_J7_fill_53178_30_b5 hC _ ih l1 l2 l3 σ
set_option maxRecDepth 20000 in
set_option maxHeartbeats 2000000 in
theorem J_J7_fill_53178_30 {X : cv_X} {G : cv_G} {LL : Launch} (hC : cv_C X G LL RJ7 cJ7_fill_53178 4 none { frames := 0, cells := 0, slots := 0, locals := 0 }) (l1 : Int32) (σ : cv_St) : cv_J X G 4 0 0 (cv_QV X G) 0 [(0, .ref (G.1 30)), (1, .int l1)] [] σ (F_J7_fill_53178_30 l1 σ) := by
  unfold F_J7_fill_53178_30
  refine cv_iconst (v := 0) hC dJ7_fill_53178_0 cb_iconst_0 ?_
  refine cv_istore_n (lv' := [(2, .int 0), (0, .ref (G.1 30)), (1, .int l1)]) hC dJ7_fill_53178_1 rfl (by decide) rfl ?_
  refine cv_aload_n hC 1 dJ7_fill_53178_2 rfl rfl ?_
  refine cv_alen hC (cv_a30 G) dJ7_fill_53178_3 ?_
  refine cv_istore_n (lv' := [(3, .int (nI 8)), (2, .int 0), (0, .ref (G.1 30)), (1, .int l1)]) hC dJ7_fill_53178_4 rfl (by decide) rfl ?_
  exact cv_sub [2, 3, 1, 0] rfl (J_J7_fill_53178_30_b5 hC 1000 l1 0 (nI 8) σ)
set_option maxRecDepth 20000 in
set_option maxHeartbeats 2000000 in
theorem M_J7_fill_53178_30 (LL : Launch) (G : cv_G) (l1 : Int32) (σ : cv_St) : cv_MV LL G yJ7_fill_53178 cJ7_fill_53178 4 0 0 [.ref (G.1 30), .int l1] σ (F_J7_fill_53178_30 l1 σ) :=
  cv_mkV (by decide) (Nat.le_of_ble_eq_true rfl) (fun X hC => J_J7_fill_53178_30 hC l1 σ)
/-! J7_fill_53178_31 -/
set_option maxRecDepth 20000 in
set_option maxHeartbeats 2000000 in
theorem I_J7_fill_53178_31_b5 {X : cv_X} {G : cv_G} {LL : Launch} (hC : cv_C X G LL RJ7 cJ7_fill_53178 4 none { frames := 0, cells := 0, slots := 0, locals := 0 }) (k5 : Int32 → Int32 → Int32 → cv_St → Option (cv_St)) (hk5 : ∀ (l1 : Int32) (l2 : Int32) (l3 : Int32)  σ, cv_J X G 4 0 0 (cv_QV X G) 5 [(0, .ref (G.1 31)), (1, .int l1), (2, .int l2), (3, .int l3)] [] σ (k5 l1 l2 l3 σ)) (l1 : Int32) (l2 : Int32) (l3 : Int32) (σ : cv_St) : cv_J X G 4 0 0 (cv_QV X G) 5 [(0, .ref (G.1 31)), (1, .int l1), (2, .int l2), (3, .int l3)] [] σ (B_J7_fill_53178_31_b5 k5 l1 l2 l3 σ) := by
  unfold B_J7_fill_53178_31_b5
  refine cv_iload_n hC 2 dJ7_fill_53178_5 rfl rfl ?_
  refine cv_iload_n hC 3 dJ7_fill_53178_6 rfl rfl ?_
  refine cv_icmp_ge (tgt := 20) hC dJ7_fill_53178_7 (by decide) ?_ ?_
  · exact cv_vret hC dJ7_fill_53178_20
  · refine cv_aload_n hC 0 dJ7_fill_53178_10 rfl rfl ?_
    refine cv_iload_n hC 2 dJ7_fill_53178_11 rfl rfl ?_
    refine cv_iload_n hC 1 dJ7_fill_53178_12 rfl rfl ?_
    refine cv_iast hC (cv_a31 G) dJ7_fill_53178_13 (fun s1 => ?_)
    refine cv_iinc (lv' := [(2, .int (l2 + Int32.ofInt 1)), (0, .ref (G.1 31)), (1, .int l1), (3, .int l3)]) hC 2 dJ7_fill_53178_14 rfl (by decide) rfl ?_
    refine cv_goto (tgt := 5) hC dJ7_fill_53178_17 (by decide) ?_
    exact cv_sub [1, 2, 0, 3] rfl (hk5 l1 (l2 + Int32.ofInt 1) l3 s1)
set_option maxRecDepth 20000 in
set_option maxHeartbeats 2000000 in
theorem J_J7_fill_53178_31_b5 {X : cv_X} {G : cv_G} {LL : Launch} (hC : cv_C X G LL RJ7 cJ7_fill_53178 4 none { frames := 0, cells := 0, slots := 0, locals := 0 }) : ∀ (n : Nat) (l1 : Int32) (l2 : Int32) (l3 : Int32) (σ : cv_St), cv_J X G 4 0 0 (cv_QV X G) 5 [(0, .ref (G.1 31)), (1, .int l1), (2, .int l2), (3, .int l3)] [] σ (F_J7_fill_53178_31_b5 n l1 l2 l3 σ) := by
  intro n
  induction n with
  | zero => intro l1 l2 l3 σ; exact cv_none
  | succ n ih => intro l1 l2 l3 σ; exact I_J7_fill_53178_31_b5 hC _ ih l1 l2 l3 σ
set_option maxRecDepth 20000 in
set_option maxHeartbeats 2000000 in
theorem J_J7_fill_53178_31 {X : cv_X} {G : cv_G} {LL : Launch} (hC : cv_C X G LL RJ7 cJ7_fill_53178 4 none { frames := 0, cells := 0, slots := 0, locals := 0 }) (l1 : Int32) (σ : cv_St) : cv_J X G 4 0 0 (cv_QV X G) 0 [(0, .ref (G.1 31)), (1, .int l1)] [] σ (F_J7_fill_53178_31 l1 σ) := by
  unfold F_J7_fill_53178_31
  refine cv_iconst (v := 0) hC dJ7_fill_53178_0 cb_iconst_0 ?_
  refine cv_istore_n (lv' := [(2, .int 0), (0, .ref (G.1 31)), (1, .int l1)]) hC dJ7_fill_53178_1 rfl (by decide) rfl ?_
  refine cv_aload_n hC 1 dJ7_fill_53178_2 rfl rfl ?_
  refine cv_alen hC (cv_a31 G) dJ7_fill_53178_3 ?_
  refine cv_istore_n (lv' := [(3, .int (nI 8)), (2, .int 0), (0, .ref (G.1 31)), (1, .int l1)]) hC dJ7_fill_53178_4 rfl (by decide) rfl ?_
  exact cv_sub [2, 3, 1, 0] rfl (J_J7_fill_53178_31_b5 hC 1000 l1 0 (nI 8) σ)
set_option maxRecDepth 20000 in
set_option maxHeartbeats 2000000 in
theorem M_J7_fill_53178_31 (LL : Launch) (G : cv_G) (l1 : Int32) (σ : cv_St) : cv_MV LL G yJ7_fill_53178 cJ7_fill_53178 4 0 0 [.ref (G.1 31), .int l1] σ (F_J7_fill_53178_31 l1 σ) :=
  cv_mkV (by decide) (Nat.le_of_ble_eq_true rfl) (fun X hC => J_J7_fill_53178_31 hC l1 σ)
/-! X3_readAt -/
set_option maxRecDepth 20000 in
set_option maxHeartbeats 2000000 in
theorem J_X3_readAt {X : cv_X} {G : cv_G} {LL : Launch} (hC : cv_C X G LL RX3 cX3_readAt 3 (some .int) { frames := 2, cells := 0, slots := 0, locals := 46 }) (l1 : Int32) (l2 : Int32) (σ : cv_St) : cv_J X G 3 0 0 (cv_QI X G) 0 [(0, .ref (G.1 7)), (1, .int l1), (2, .int l2)] [] σ (F_X3_readAt l1 l2 σ) := by
  unfold F_X3_readAt
  refine cv_aload_n hC 0 dX3_readAt_0 rfl rfl ?_
  refine cv_getr hC (fg_X3_21_7 G) dX3_readAt_1 ?_
  refine cv_iload_n hC 1 dX3_readAt_4 rfl rfl ?_
  refine cv_iload_n hC 2 dX3_readAt_5 rfl rfl ?_
  refine cv_callVi (ob := 2) hC [.int l1, .int l2] [] (M_X0_isCall LL G l1 l2 σ) ln_X3_71 vm_X0_isCall (ob_2 G) rfl rfl (Nat.le_of_ble_eq_true rfl) ⟨Nat.le_of_ble_eq_true rfl, Nat.le_of_ble_eq_true rfl⟩ ⟨Nat.le_of_ble_eq_true rfl, Nat.le_of_ble_eq_true rfl⟩ dX3_readAt_6 (fun v2 s1 => ?_)
  refine cv_if_eq (tgt := 27) hC dX3_readAt_9 (by decide) ?_ ?_
  · refine cv_aload_n hC 0 dX3_readAt_27 rfl rfl ?_
    refine cv_getr hC (fg_X3_21_7 G) dX3_readAt_28 ?_
    refine cv_iload_n hC 1 dX3_readAt_31 rfl rfl ?_
    refine cv_iload_n hC 2 dX3_readAt_32 rfl rfl ?_
    refine cv_callVi (ob := 2) hC [.int l1, .int l2] [] (M_X0_readBy LL G l1 l2 s1) ln_X3_100 vm_X0_readBy (ob_2 G) rfl rfl (Nat.le_of_ble_eq_true rfl) ⟨Nat.le_of_ble_eq_true rfl, Nat.le_of_ble_eq_true rfl⟩ ⟨Nat.le_of_ble_eq_true rfl, Nat.le_of_ble_eq_true rfl⟩ dX3_readAt_33 (fun v4 s3 => ?_)
    exact cv_iret hC dX3_readAt_36
  · refine cv_aload_n hC 0 dX3_readAt_12 rfl rfl ?_
    refine cv_getr hC (fg_X3_15_7 G) dX3_readAt_13 ?_
    refine cv_aload_n hC 0 dX3_readAt_16 rfl rfl ?_
    refine cv_getr hC (fg_X3_21_7 G) dX3_readAt_17 ?_
    refine cv_iload_n hC 1 dX3_readAt_20 rfl rfl ?_
    refine cv_iload_n hC 2 dX3_readAt_21 rfl rfl ?_
    refine cv_callVi (ob := 2) hC [.int l1, .int l2] [.ref (G.1 30)] (M_X0_numberAt LL G l1 l2 s1) ln_X3_74 vm_X0_numberAt (ob_2 G) rfl rfl (Nat.le_of_ble_eq_true rfl) ⟨Nat.le_of_ble_eq_true rfl, Nat.le_of_ble_eq_true rfl⟩ ⟨Nat.le_of_ble_eq_true rfl, Nat.le_of_ble_eq_true rfl⟩ dX3_readAt_22 (fun v6 s5 => ?_)
    refine cv_iald hC (cv_a30 G) dX3_readAt_25 (fun v7 => ?_)
    exact cv_iret hC dX3_readAt_26
set_option maxRecDepth 20000 in
set_option maxHeartbeats 2000000 in
theorem M_X3_readAt (LL : Launch) (G : cv_G) (l1 : Int32) (l2 : Int32) (σ : cv_St) : cv_MI LL G yX3_readAt cX3_readAt 3 (some .int) 2 46 [.ref (G.1 7), .int l1, .int l2] σ (F_X3_readAt l1 l2 σ) :=
  cv_mkI (by decide) (Nat.le_of_ble_eq_true rfl) (fun X hC => J_X3_readAt hC l1 l2 σ)
/-! X3_writtenAt -/
set_option maxRecDepth 20000 in
set_option maxHeartbeats 2000000 in
theorem J_X3_writtenAt {X : cv_X} {G : cv_G} {LL : Launch} (hC : cv_C X G LL RX3 cX3_writtenAt 3 (some .int) { frames := 2, cells := 0, slots := 0, locals := 46 }) (l1 : Int32) (l2 : Int32) (σ : cv_St) : cv_J X G 3 0 0 (cv_QI X G) 0 [(0, .ref (G.1 7)), (1, .int l1), (2, .int l2)] [] σ (F_X3_writtenAt l1 l2 σ) := by
  unfold F_X3_writtenAt
  refine cv_aload_n hC 0 dX3_writtenAt_0 rfl rfl ?_
  refine cv_getr hC (fg_X3_21_7 G) dX3_writtenAt_1 ?_
  refine cv_iload_n hC 1 dX3_writtenAt_4 rfl rfl ?_
  refine cv_iload_n hC 2 dX3_writtenAt_5 rfl rfl ?_
  refine cv_callVi (ob := 2) hC [.int l1, .int l2] [] (M_X0_isCall LL G l1 l2 σ) ln_X3_71 vm_X0_isCall (ob_2 G) rfl rfl (Nat.le_of_ble_eq_true rfl) ⟨Nat.le_of_ble_eq_true rfl, Nat.le_of_ble_eq_true rfl⟩ ⟨Nat.le_of_ble_eq_true rfl, Nat.le_of_ble_eq_true rfl⟩ dX3_writtenAt_6 (fun v2 s1 => ?_)
  refine cv_if_eq (tgt := 29) hC dX3_writtenAt_9 (by decide) ?_ ?_
  · refine cv_aload_n hC 0 dX3_writtenAt_29 rfl rfl ?_
    refine cv_getr hC (fg_X3_21_7 G) dX3_writtenAt_30 ?_
    refine cv_iload_n hC 1 dX3_writtenAt_33 rfl rfl ?_
    refine cv_iload_n hC 2 dX3_writtenAt_34 rfl rfl ?_
    refine cv_callVi (ob := 2) hC [.int l1, .int l2] [] (M_X0_writtenBy LL G l1 l2 s1) ln_X3_103 vm_X0_writtenBy (ob_2 G) rfl rfl (Nat.le_of_ble_eq_true rfl) ⟨Nat.le_of_ble_eq_true rfl, Nat.le_of_ble_eq_true rfl⟩ ⟨Nat.le_of_ble_eq_true rfl, Nat.le_of_ble_eq_true rfl⟩ dX3_writtenAt_35 (fun v4 s3 => ?_)
    exact cv_iret hC dX3_writtenAt_38
  · refine cv_aload_n hC 0 dX3_writtenAt_12 rfl rfl ?_
    refine cv_getr hC (fg_X3_29_7 G) dX3_writtenAt_13 ?_
    refine cv_aload_n hC 0 dX3_writtenAt_16 rfl rfl ?_
    refine cv_getr hC (fg_X3_21_7 G) dX3_writtenAt_17 ?_
    refine cv_iload_n hC 1 dX3_writtenAt_20 rfl rfl ?_
    refine cv_iload_n hC 2 dX3_writtenAt_21 rfl rfl ?_
    refine cv_callVi (ob := 2) hC [.int l1, .int l2] [.ref (G.1 5)] (M_X0_numberAt LL G l1 l2 s1) ln_X3_74 vm_X0_numberAt (ob_2 G) rfl rfl (Nat.le_of_ble_eq_true rfl) ⟨Nat.le_of_ble_eq_true rfl, Nat.le_of_ble_eq_true rfl⟩ ⟨Nat.le_of_ble_eq_true rfl, Nat.le_of_ble_eq_true rfl⟩ dX3_writtenAt_22 (fun v6 s5 => ?_)
    refine cv_callVi (ob := 5) hC [.int v6] [] (M_X7_clobbered LL G v6 s5) ln_X3_90 vm_X7_clobbered (ob_5 G) rfl rfl (Nat.le_of_ble_eq_true rfl) ⟨Nat.le_of_ble_eq_true rfl, Nat.le_of_ble_eq_true rfl⟩ ⟨Nat.le_of_ble_eq_true rfl, Nat.le_of_ble_eq_true rfl⟩ dX3_writtenAt_25 (fun v8 s7 => ?_)
    exact cv_iret hC dX3_writtenAt_28
set_option maxRecDepth 20000 in
set_option maxHeartbeats 2000000 in
theorem M_X3_writtenAt (LL : Launch) (G : cv_G) (l1 : Int32) (l2 : Int32) (σ : cv_St) : cv_MI LL G yX3_writtenAt cX3_writtenAt 3 (some .int) 2 46 [.ref (G.1 7), .int l1, .int l2] σ (F_X3_writtenAt l1 l2 σ) :=
  cv_mkI (by decide) (Nat.le_of_ble_eq_true rfl) (fun X hC => J_X3_writtenAt hC l1 l2 σ)
/-! X3_ask -/
set_option maxRecDepth 20000 in
set_option maxHeartbeats 2000000 in
theorem J_X3_ask_b43 {X : cv_X} {G : cv_G} {LL : Launch} (hC : cv_C X G LL RX3 cX3_ask 5 (some .boolean) { frames := 1, cells := 0, slots := 0, locals := 21 }) (l1 : Int32) (l3 : Int32) (t0 : Int32) (σ : cv_St) : cv_J X G 5 0 0 (cv_QI X G) 43 [(0, .ref (G.1 7)), (1, .int l1), (3, .int l3)] [.int t0] σ (F_X3_ask_b43 l1 l3 t0 σ) := by
  unfold F_X3_ask_b43
  refine cv_istore (lv' := [(4, .int t0), (0, .ref (G.1 7)), (1, .int l1), (3, .int l3)]) hC dX3_ask_43 (by decide) rfl ?_
  refine cv_aload_n hC 1 dX3_ask_45 rfl rfl ?_
  refine cv_getr hC (fg_X3_18_7 G) dX3_ask_46 ?_
  refine cv_iload_n hC 2 dX3_ask_49 rfl rfl ?_
  refine cv_iload_n hC 3 dX3_ask_50 rfl rfl ?_
  refine cv_iast hC (cv_a31 G) dX3_ask_51 (fun s6 => ?_)
  refine cv_iload hC 0 dX3_ask_52 rfl ?_
  exact cv_zret hC dX3_ask_54
set_option maxRecDepth 20000 in
set_option maxHeartbeats 2000000 in
theorem J_X3_ask {X : cv_X} {G : cv_G} {LL : Launch} (hC : cv_C X G LL RX3 cX3_ask 5 (some .boolean) { frames := 1, cells := 0, slots := 0, locals := 21 }) (l1 : Int32) (l2 : Int32) (σ : cv_St) : cv_J X G 5 0 0 (cv_QI X G) 0 [(0, .ref (G.1 7)), (1, .int l1), (2, .int l2)] [] σ (F_X3_ask l1 l2 σ) := by
  unfold F_X3_ask
  refine cv_aload_n hC 0 dX3_ask_0 rfl rfl ?_
  refine cv_getr hC (fg_X3_18_7 G) dX3_ask_1 ?_
  refine cv_iload_n hC 1 dX3_ask_4 rfl rfl ?_
  refine cv_iald hC (cv_a31 G) dX3_ask_5 (fun v1 => ?_)
  refine cv_iload_n hC 2 dX3_ask_6 rfl rfl ?_
  refine cv_aload_n hC 0 dX3_ask_7 rfl rfl ?_
  refine cv_getr hC (fg_X3_29_7 G) dX3_ask_8 ?_
  refine cv_iload_n hC 1 dX3_ask_11 rfl rfl ?_
  refine cv_callVi (ob := 5) hC [.int l1] [.int l2, .int v1] (M_X7_clobbered LL G l1 σ) ln_X3_90 vm_X7_clobbered (ob_5 G) rfl rfl (Nat.le_of_ble_eq_true rfl) ⟨Nat.le_of_ble_eq_true rfl, Nat.le_of_ble_eq_true rfl⟩ ⟨Nat.le_of_ble_eq_true rfl, Nat.le_of_ble_eq_true rfl⟩ dX3_ask_12 (fun v3 s2 => ?_)
  refine cv_iand hC dX3_ask_15 ?_
  refine cv_aload_n hC 0 dX3_ask_16 rfl rfl ?_
  refine cv_getr hC (fg_X3_33_7 G) dX3_ask_17 ?_
  refine cv_getr hC (fg_X3_95_6 G) dX3_ask_20 ?_
  refine cv_iload_n hC 1 dX3_ask_23 rfl rfl ?_
  refine cv_iald hC (cv_a27 G) dX3_ask_24 (fun v4 => ?_)
  refine cv_iand hC dX3_ask_25 ?_
  refine cv_ior hC dX3_ask_26 ?_
  refine cv_istore_n (lv' := [(3, .int (v1 ||| ((l2 &&& v3) &&& v4))), (0, .ref (G.1 7)), (1, .int l1), (2, .int l2)]) hC dX3_ask_27 rfl (by decide) rfl ?_
  refine cv_iload_n hC 0 dX3_ask_28 rfl rfl ?_
  refine cv_aload_n hC 1 dX3_ask_29 rfl rfl ?_
  refine cv_getr hC (fg_X3_18_7 G) dX3_ask_30 ?_
  refine cv_iload_n hC 2 dX3_ask_33 rfl rfl ?_
  refine cv_iald hC (cv_a31 G) dX3_ask_34 (fun v5 => ?_)
  refine cv_icmp_eq (tgt := 42) hC dX3_ask_35 (by decide) ?_ ?_
  · refine cv_iconst (v := 0) hC dX3_ask_42 cb_iconst_0 ?_
    exact cv_sub [1, 2, 0] rfl (J_X3_ask_b43 hC l1 (v1 ||| ((l2 &&& v3) &&& v4)) 0 s2)
  · refine cv_iconst (v := 1) hC dX3_ask_38 cb_iconst_1 ?_
    refine cv_goto (tgt := 43) hC dX3_ask_39 (by decide) ?_
    exact cv_sub [1, 2, 0] rfl (J_X3_ask_b43 hC l1 (v1 ||| ((l2 &&& v3) &&& v4)) 1 s2)
set_option maxRecDepth 20000 in
set_option maxHeartbeats 2000000 in
theorem M_X3_ask (LL : Launch) (G : cv_G) (l1 : Int32) (l2 : Int32) (σ : cv_St) : cv_MI LL G yX3_ask cX3_ask 5 (some .boolean) 1 21 [.ref (G.1 7), .int l1, .int l2] σ (F_X3_ask l1 l2 σ) :=
  cv_mkI (by decide) (Nat.le_of_ble_eq_true rfl) (fun X hC => J_X3_ask hC l1 l2 σ)
/-! X3_trace -/
set_option maxRecDepth 20000 in
set_option maxHeartbeats 2000000 in
theorem J_X3_trace_b117 {X : cv_X} {G : cv_G} {LL : Launch} (hC : cv_C X G LL RX3 cX3_trace 5 (some .boolean) { frames := 3, cells := 0, slots := 0, locals := 70 }) (k32 : Int32 → Int32 → Int32 → cv_St → Option (Int32 × cv_St)) (hk32 : ∀ (l1 : Int32) (l2 : Int32) (l3 : Int32)  σ, cv_J X G 5 0 0 (cv_QI X G) 32 [(0, .ref (G.1 7)), (1, .int l1), (2, .int l2), (3, .int l3)] [] σ (k32 l1 l2 l3 σ)) (l1 : Int32) (l2 : Int32) (l3 : Int32) (σ : cv_St) : cv_J X G 5 0 0 (cv_QI X G) 117 [(0, .ref (G.1 7)), (1, .int l1), (2, .int l2), (3, .int l3)] [] σ (F_X3_trace_b117 k32 l1 l2 l3 σ) := by
  unfold F_X3_trace_b117
  refine cv_iinc (lv' := [(3, .int (l3 + Int32.ofInt (-1))), (0, .ref (G.1 7)), (1, .int l1), (2, .int l2)]) hC 3 dX3_trace_117 rfl (by decide) rfl ?_
  refine cv_goto (tgt := 32) hC dX3_trace_120 (by decide) ?_
  exact cv_sub [1, 2, 3, 0] rfl (hk32 l1 l2 (l3 + Int32.ofInt (-1)) σ)
set_option maxRecDepth 20000 in
set_option maxHeartbeats 2000000 in
theorem J_X3_trace_b88 {X : cv_X} {G : cv_G} {LL : Launch} (hC : cv_C X G LL RX3 cX3_trace 5 (some .boolean) { frames := 3, cells := 0, slots := 0, locals := 70 }) (k32 : Int32 → Int32 → Int32 → cv_St → Option (Int32 × cv_St)) (hk32 : ∀ (l1 : Int32) (l2 : Int32) (l3 : Int32)  σ, cv_J X G 5 0 0 (cv_QI X G) 32 [(0, .ref (G.1 7)), (1, .int l1), (2, .int l2), (3, .int l3)] [] σ (k32 l1 l2 l3 σ)) (l1 : Int32) (l2 : Int32) (l3 : Int32) (l4 : Int32) (σ : cv_St) : cv_J X G 5 0 0 (cv_QI X G) 88 [(0, .ref (G.1 7)), (1, .int l1), (2, .int l2), (3, .int l3), (4, .int l4)] [] σ (F_X3_trace_b88 k32 l1 l2 l3 l4 σ) := by
  unfold F_X3_trace_b88
  refine cv_aload_n hC 0 dX3_trace_88 rfl rfl ?_
  refine cv_getr hC (fg_X3_9_7 G) dX3_trace_89 ?_
  refine cv_iload_n hC 1 dX3_trace_92 rfl rfl ?_
  refine cv_bipush (v := 15) hC dX3_trace_93 cb_bipush_15 ?_
  refine cv_imul hC dX3_trace_95 ?_
  refine cv_iload_n hC 3 dX3_trace_96 rfl rfl ?_
  refine cv_iadd hC dX3_trace_97 ?_
  refine cv_aload_n hC 0 dX3_trace_98 rfl rfl ?_
  refine cv_iload_n hC 1 dX3_trace_99 rfl rfl ?_
  refine cv_iload_n hC 3 dX3_trace_100 rfl rfl ?_
  refine cv_callVi (ob := 7) hC [.int l1, .int l3] [.int ((l1 * 15) + l3), .ref (G.1 29)] (M_X3_readAt LL G l1 l3 σ) ln_X3_80 vm_X3_readAt (ob_7 G) rfl rfl (Nat.le_of_ble_eq_true rfl) ⟨Nat.le_of_ble_eq_true rfl, Nat.le_of_ble_eq_true rfl⟩ ⟨Nat.le_of_ble_eq_true rfl, Nat.le_of_ble_eq_true rfl⟩ dX3_trace_101 (fun v17 s16 => ?_)
  refine cv_iload hC 4 dX3_trace_104 rfl ?_
  refine cv_aload_n hC 0 dX3_trace_106 rfl rfl ?_
  refine cv_iload_n hC 1 dX3_trace_107 rfl rfl ?_
  refine cv_iload_n hC 3 dX3_trace_108 rfl rfl ?_
  refine cv_callVi (ob := 7) hC [.int l1, .int l3] [.int l4, .int v17, .int ((l1 * 15) + l3), .ref (G.1 29)] (M_X3_writtenAt LL G l1 l3 s16) ln_X3_83 vm_X3_writtenAt (ob_7 G) rfl rfl (Nat.le_of_ble_eq_true rfl) ⟨Nat.le_of_ble_eq_true rfl, Nat.le_of_ble_eq_true rfl⟩ ⟨Nat.le_of_ble_eq_true rfl, Nat.le_of_ble_eq_true rfl⟩ dX3_trace_109 (fun v19 s18 => ?_)
  refine cv_iconst (v := (-1)) hC dX3_trace_112 cb_iconst_m1 ?_
  refine cv_ixor hC dX3_trace_113 ?_
  refine cv_iand hC dX3_trace_114 ?_
  refine cv_ior hC dX3_trace_115 ?_
  refine cv_iast hC (cv_a29 G) dX3_trace_116 (fun s20 => ?_)
  exact cv_sub [0, 1, 2, 3] rfl (J_X3_trace_b117 hC k32 hk32 l1 l2 l3 s20)
set_option maxRecDepth 20000 in
set_option maxHeartbeats 2000000 in
theorem I_X3_trace_b32 {X : cv_X} {G : cv_G} {LL : Launch} (hC : cv_C X G LL RX3 cX3_trace 5 (some .boolean) { frames := 3, cells := 0, slots := 0, locals := 70 }) (k32 : Int32 → Int32 → Int32 → cv_St → Option (Int32 × cv_St)) (hk32 : ∀ (l1 : Int32) (l2 : Int32) (l3 : Int32)  σ, cv_J X G 5 0 0 (cv_QI X G) 32 [(0, .ref (G.1 7)), (1, .int l1), (2, .int l2), (3, .int l3)] [] σ (k32 l1 l2 l3 σ)) (l1 : Int32) (l2 : Int32) (l3 : Int32) (σ : cv_St) : cv_J X G 5 0 0 (cv_QI X G) 32 [(0, .ref (G.1 7)), (1, .int l1), (2, .int l2), (3, .int l3)] [] σ (B_X3_trace_b32 k32 l1 l2 l3 σ) := by
  unfold B_X3_trace_b32
  refine cv_iload_n hC 3 dX3_trace_32 rfl rfl ?_
  refine cv_if_lt (tgt := 123) hC dX3_trace_33 (by decide) ?_ ?_
  · refine cv_aload_n hC 0 dX3_trace_123 rfl rfl ?_
    refine cv_iload_n hC 1 dX3_trace_124 rfl rfl ?_
    refine cv_aload_n hC 0 dX3_trace_125 rfl rfl ?_
    refine cv_getr hC (fg_X3_21_7 G) dX3_trace_126 ?_
    refine cv_iload_n hC 1 dX3_trace_129 rfl rfl ?_
    refine cv_callVi (ob := 2) hC [.int l1] [.int l1, .ref (G.1 7)] (M_X0_entry LL G l1 σ) ln_X3_86 vm_X0_entry (ob_2 G) rfl rfl (Nat.le_of_ble_eq_true rfl) ⟨Nat.le_of_ble_eq_true rfl, Nat.le_of_ble_eq_true rfl⟩ ⟨Nat.le_of_ble_eq_true rfl, Nat.le_of_ble_eq_true rfl⟩ dX3_trace_130 (fun v5 s4 => ?_)
    refine cv_callVi (ob := 7) hC [.int l1, .int v5] [] (M_X3_before LL G l1 v5 s4) ln_X3_43 vm_X3_before (ob_7 G) rfl rfl (Nat.le_of_ble_eq_true rfl) ⟨Nat.le_of_ble_eq_true rfl, Nat.le_of_ble_eq_true rfl⟩ ⟨Nat.le_of_ble_eq_true rfl, Nat.le_of_ble_eq_true rfl⟩ dX3_trace_133 (fun v7 s6 => ?_)
    refine cv_istore_n (lv' := [(3, .int v7), (0, .ref (G.1 7)), (1, .int l1), (2, .int l2)]) hC dX3_trace_136 rfl (by decide) rfl ?_
    refine cv_iload_n hC 0 dX3_trace_137 rfl rfl ?_
    refine cv_aload_n hC 1 dX3_trace_138 rfl rfl ?_
    refine cv_getr hC (fg_X3_15_7 G) dX3_trace_139 ?_
    refine cv_iload_n hC 2 dX3_trace_142 rfl rfl ?_
    refine cv_iald hC (cv_a30 G) dX3_trace_143 (fun v8 => ?_)
    refine cv_icmp_eq (tgt := 156) hC dX3_trace_144 (by decide) ?_ ?_
    · refine cv_iload_n hC 3 dX3_trace_156 rfl rfl ?_
      exact cv_zret hC dX3_trace_157
    · refine cv_aload_n hC 1 dX3_trace_147 rfl rfl ?_
      refine cv_getr hC (fg_X3_15_7 G) dX3_trace_148 ?_
      refine cv_iload_n hC 2 dX3_trace_151 rfl rfl ?_
      refine cv_iload_n hC 0 dX3_trace_152 rfl rfl ?_
      refine cv_iast hC (cv_a30 G) dX3_trace_153 (fun s9 => ?_)
      refine cv_iconst (v := 1) hC dX3_trace_154 cb_iconst_1 ?_
      refine cv_istore_n (lv' := [(2, .int 1), (3, .int v7), (0, .ref (G.1 7)), (1, .int l1)]) hC dX3_trace_155 rfl (by decide) rfl ?_
      refine cv_iload_n hC 0 dX3_trace_156 rfl rfl ?_
      exact cv_zret hC dX3_trace_157
  · refine cv_aload_n hC 0 dX3_trace_36 rfl rfl ?_
    refine cv_getr hC (fg_X3_25_7 G) dX3_trace_37 ?_
    refine cv_iload_n hC 1 dX3_trace_40 rfl rfl ?_
    refine cv_iload_n hC 3 dX3_trace_41 rfl rfl ?_
    refine cv_callVi (ob := 4) hC [.int l1, .int l3] [] (M_X2_reaches LL G l1 l3 σ) ln_X3_62 vm_X2_reaches (ob_4 G) rfl rfl (Nat.le_of_ble_eq_true rfl) ⟨Nat.le_of_ble_eq_true rfl, Nat.le_of_ble_eq_true rfl⟩ ⟨Nat.le_of_ble_eq_true rfl, Nat.le_of_ble_eq_true rfl⟩ dX3_trace_42 (fun v11 s10 => ?_)
    refine cv_if_eq (tgt := 117) hC dX3_trace_45 (by decide) ?_ ?_
    · exact cv_sub [0, 1, 2, 3] rfl (J_X3_trace_b117 hC k32 hk32 l1 l2 l3 s10)
    · refine cv_aload_n hC 0 dX3_trace_48 rfl rfl ?_
      refine cv_iload_n hC 1 dX3_trace_49 rfl rfl ?_
      refine cv_iload_n hC 3 dX3_trace_50 rfl rfl ?_
      refine cv_callVi (ob := 7) hC [.int l1, .int l3] [] (M_X3_behind LL G l1 l3 s10) ln_X3_68 vm_X3_behind (ob_7 G) rfl rfl (Nat.le_of_ble_eq_true rfl) ⟨Nat.le_of_ble_eq_true rfl, Nat.le_of_ble_eq_true rfl⟩ ⟨Nat.le_of_ble_eq_true rfl, Nat.le_of_ble_eq_true rfl⟩ dX3_trace_51 (fun v13 s12 => ?_)
      refine cv_istore (lv' := [(4, .int v13), (0, .ref (G.1 7)), (1, .int l1), (2, .int l2), (3, .int l3)]) hC dX3_trace_54 (by decide) rfl ?_
      refine cv_aload_n hC 1 dX3_trace_56 rfl rfl ?_
      refine cv_getr hC (fg_X3_21_7 G) dX3_trace_57 ?_
      refine cv_iload_n hC 2 dX3_trace_60 rfl rfl ?_
      refine cv_iload_n hC 4 dX3_trace_61 rfl rfl ?_
      refine cv_callVi (ob := 2) hC [.int l1, .int l3] [] (M_X0_isCall LL G l1 l3 s12) ln_X3_71 vm_X0_isCall (ob_2 G) rfl rfl (Nat.le_of_ble_eq_true rfl) ⟨Nat.le_of_ble_eq_true rfl, Nat.le_of_ble_eq_true rfl⟩ ⟨Nat.le_of_ble_eq_true rfl, Nat.le_of_ble_eq_true rfl⟩ dX3_trace_62 (fun v15 s14 => ?_)
      refine cv_if_eq (tgt := 88) hC dX3_trace_65 (by decide) ?_ ?_
      · exact cv_sub [1, 2, 3, 4, 0] rfl (J_X3_trace_b88 hC k32 hk32 l1 l2 l3 v13 s14)
      · refine cv_aload_n hC 1 dX3_trace_68 rfl rfl ?_
        refine cv_aload_n hC 1 dX3_trace_69 rfl rfl ?_
        refine cv_getr hC (fg_X3_21_7 G) dX3_trace_70 ?_
        refine cv_iload_n hC 2 dX3_trace_73 rfl rfl ?_
        refine cv_iload_n hC 4 dX3_trace_74 rfl rfl ?_
        refine cv_callVi (ob := 2) hC [.int l1, .int l3] [.ref (G.1 7)] (M_X0_numberAt LL G l1 l3 s14) ln_X3_74 vm_X0_numberAt (ob_2 G) rfl rfl (Nat.le_of_ble_eq_true rfl) ⟨Nat.le_of_ble_eq_true rfl, Nat.le_of_ble_eq_true rfl⟩ ⟨Nat.le_of_ble_eq_true rfl, Nat.le_of_ble_eq_true rfl⟩ dX3_trace_75 (fun v22 s21 => ?_)
        refine cv_iload hC 0 dX3_trace_78 rfl ?_
        refine cv_callVi (ob := 7) hC [.int v22, .int v13] [] (M_X3_ask LL G v22 v13 s21) ln_X3_77 vm_X3_ask (ob_7 G) rfl rfl (Nat.le_of_ble_eq_true rfl) ⟨Nat.le_of_ble_eq_true rfl, Nat.le_of_ble_eq_true rfl⟩ ⟨Nat.le_of_ble_eq_true rfl, Nat.le_of_ble_eq_true rfl⟩ dX3_trace_80 (fun v24 s23 => ?_)
        refine cv_if_eq (tgt := 88) hC dX3_trace_83 (by decide) ?_ ?_
        · exact cv_sub [1, 2, 3, 4, 0] rfl (J_X3_trace_b88 hC k32 hk32 l1 l2 l3 v13 s23)
        · refine cv_iconst (v := 1) hC dX3_trace_86 cb_iconst_1 ?_
          refine cv_istore_n (lv' := [(2, .int 1), (4, .int v13), (0, .ref (G.1 7)), (1, .int l1), (3, .int l3)]) hC dX3_trace_87 rfl (by decide) rfl ?_
          exact cv_sub [2, 3, 0, 4, 1] rfl (J_X3_trace_b88 hC k32 hk32 l1 1 l3 v13 s23)
set_option maxRecDepth 20000 in
set_option maxHeartbeats 2000000 in
theorem J_X3_trace_b32 {X : cv_X} {G : cv_G} {LL : Launch} (hC : cv_C X G LL RX3 cX3_trace 5 (some .boolean) { frames := 3, cells := 0, slots := 0, locals := 70 }) : ∀ (n : Nat) (l1 : Int32) (l2 : Int32) (l3 : Int32) (σ : cv_St), cv_J X G 5 0 0 (cv_QI X G) 32 [(0, .ref (G.1 7)), (1, .int l1), (2, .int l2), (3, .int l3)] [] σ (F_X3_trace_b32 n l1 l2 l3 σ) := by
  intro n
  induction n with
  | zero => intro l1 l2 l3 σ; exact cv_none
  | succ n ih => intro l1 l2 l3 σ; exact I_X3_trace_b32 hC _ ih l1 l2 l3 σ
set_option maxRecDepth 20000 in
set_option maxHeartbeats 2000000 in
theorem J_X3_trace {X : cv_X} {G : cv_G} {LL : Launch} (hC : cv_C X G LL RX3 cX3_trace 5 (some .boolean) { frames := 3, cells := 0, slots := 0, locals := 70 }) (l1 : Int32) (σ : cv_St) : cv_J X G 5 0 0 (cv_QI X G) 0 [(0, .ref (G.1 7)), (1, .int l1)] [] σ (F_X3_trace l1 σ) := by
  unfold F_X3_trace
  refine cv_iconst (v := 0) hC dX3_trace_0 cb_iconst_0 ?_
  refine cv_istore_n (lv' := [(2, .int 0), (0, .ref (G.1 7)), (1, .int l1)]) hC dX3_trace_1 rfl (by decide) rfl ?_
  refine cv_aload_n hC 1 dX3_trace_2 rfl rfl ?_
  refine cv_getr hC (fg_X3_9_7 G) dX3_trace_3 ?_
  refine cv_iload_n hC 2 dX3_trace_6 rfl rfl ?_
  refine cv_bipush (v := 15) hC dX3_trace_7 cb_bipush_15 ?_
  refine cv_imul hC dX3_trace_9 ?_
  refine cv_bipush (v := 14) hC dX3_trace_10 cb_bipush_14 ?_
  refine cv_iadd hC dX3_trace_12 ?_
  refine cv_aload_n hC 1 dX3_trace_13 rfl rfl ?_
  refine cv_getr hC (fg_X3_18_7 G) dX3_trace_14 ?_
  refine cv_iload_n hC 2 dX3_trace_17 rfl rfl ?_
  refine cv_iald hC (cv_a31 G) dX3_trace_18 (fun v1 => ?_)
  refine cv_iast hC (cv_a29 G) dX3_trace_19 (fun s2 => ?_)
  refine cv_aload_n hC 1 dX3_trace_20 rfl rfl ?_
  refine cv_getr hC (fg_X3_21_7 G) dX3_trace_21 ?_
  refine cv_getr hC (fg_X3_59_2 G) dX3_trace_24 ?_
  refine cv_iload_n hC 2 dX3_trace_27 rfl rfl ?_
  refine cv_iald hC (cv_a14 G) dX3_trace_28 (fun v3 => ?_)
  refine cv_iconst (v := 1) hC dX3_trace_29 cb_iconst_1 ?_
  refine cv_isub hC dX3_trace_30 ?_
  refine cv_istore_n (lv' := [(3, .int (v3 - 1)), (2, .int 0), (0, .ref (G.1 7)), (1, .int l1)]) hC dX3_trace_31 rfl (by decide) rfl ?_
  exact cv_sub [2, 3, 1, 0] rfl (J_X3_trace_b32 hC 1000 l1 0 (v3 - 1) s2)
set_option maxRecDepth 20000 in
set_option maxHeartbeats 2000000 in
theorem M_X3_trace (LL : Launch) (G : cv_G) (l1 : Int32) (σ : cv_St) : cv_MI LL G yX3_trace cX3_trace 5 (some .boolean) 3 70 [.ref (G.1 7), .int l1] σ (F_X3_trace l1 σ) :=
  cv_mkI (by decide) (Nat.le_of_ble_eq_true rfl) (fun X hC => J_X3_trace hC l1 σ)
/-! X3_infer -/
set_option maxRecDepth 20000 in
set_option maxHeartbeats 2000000 in
theorem J_X3_infer_b59 {X : cv_X} {G : cv_G} {LL : Launch} (hC : cv_C X G LL RX3 cX3_infer 4 none { frames := 4, cells := 0, slots := 0, locals := 94 }) (k28 : Int32 → Int32 → cv_St → Option (cv_St)) (hk28 : ∀ (l1 : Int32) (l2 : Int32)  σ, cv_J X G 4 0 0 (cv_QV X G) 28 [(0, .ref (G.1 7)), (1, .int l1), (2, .int l2)] [] σ (k28 l1 l2 σ)) (k43 : Int32 → Int32 → Int32 → cv_St → Option (cv_St)) (hk43 : ∀ (l1 : Int32) (l2 : Int32) (l3 : Int32)  σ, cv_J X G 4 0 0 (cv_QV X G) 43 [(0, .ref (G.1 7)), (1, .int l1), (2, .int l2), (3, .int l3)] [] σ (k43 l1 l2 l3 σ)) (l1 : Int32) (l2 : Int32) (l3 : Int32) (σ : cv_St) : cv_J X G 4 0 0 (cv_QV X G) 59 [(0, .ref (G.1 7)), (1, .int l1), (2, .int l2), (3, .int l3)] [] σ (F_X3_infer_b59 k28 k43 l1 l2 l3 σ) := by
  unfold F_X3_infer_b59
  refine cv_iinc (lv' := [(3, .int (l3 + Int32.ofInt 1)), (0, .ref (G.1 7)), (1, .int l1), (2, .int l2)]) hC 3 dX3_infer_59 rfl (by decide) rfl ?_
  refine cv_goto (tgt := 43) hC dX3_infer_62 (by decide) ?_
  exact cv_sub [1, 2, 3, 0] rfl (hk43 l1 l2 (l3 + Int32.ofInt 1) σ)
set_option maxRecDepth 20000 in
set_option maxHeartbeats 2000000 in
theorem I_X3_infer_b43 {X : cv_X} {G : cv_G} {LL : Launch} (hC : cv_C X G LL RX3 cX3_infer 4 none { frames := 4, cells := 0, slots := 0, locals := 94 }) (k28 : Int32 → Int32 → cv_St → Option (cv_St)) (hk28 : ∀ (l1 : Int32) (l2 : Int32)  σ, cv_J X G 4 0 0 (cv_QV X G) 28 [(0, .ref (G.1 7)), (1, .int l1), (2, .int l2)] [] σ (k28 l1 l2 σ)) (k43 : Int32 → Int32 → Int32 → cv_St → Option (cv_St)) (hk43 : ∀ (l1 : Int32) (l2 : Int32) (l3 : Int32)  σ, cv_J X G 4 0 0 (cv_QV X G) 43 [(0, .ref (G.1 7)), (1, .int l1), (2, .int l2), (3, .int l3)] [] σ (k43 l1 l2 l3 σ)) (l1 : Int32) (l2 : Int32) (l3 : Int32) (σ : cv_St) : cv_J X G 4 0 0 (cv_QV X G) 43 [(0, .ref (G.1 7)), (1, .int l1), (2, .int l2), (3, .int l3)] [] σ (B_X3_infer_b43 k28 k43 l1 l2 l3 σ) := by
  unfold B_X3_infer_b43
  refine cv_iload_n hC 3 dX3_infer_43 rfl rfl ?_
  refine cv_bipush (v := 8) hC dX3_infer_44 cb_bipush_8 ?_
  refine cv_icmp_ge (tgt := 65) hC dX3_infer_46 (by decide) ?_ ?_
  · refine cv_iinc (lv' := [(2, .int (l2 + Int32.ofInt 1)), (0, .ref (G.1 7)), (1, .int l1), (3, .int l3)]) hC 2 dX3_infer_65 rfl (by decide) rfl ?_
    refine cv_goto (tgt := 28) hC dX3_infer_68 (by decide) ?_
    exact cv_sub [1, 2, 0] rfl (hk28 l1 (l2 + Int32.ofInt 1) σ)
  · refine cv_aload_n hC 0 dX3_infer_49 rfl rfl ?_
    refine cv_iload_n hC 3 dX3_infer_50 rfl rfl ?_
    refine cv_callVi (ob := 7) hC [.int l3] [] (M_X3_trace LL G l3 σ) ln_X3_55 vm_X3_trace (ob_7 G) rfl rfl (Nat.le_of_ble_eq_true rfl) ⟨Nat.le_of_ble_eq_true rfl, Nat.le_of_ble_eq_true rfl⟩ ⟨Nat.le_of_ble_eq_true rfl, Nat.le_of_ble_eq_true rfl⟩ dX3_infer_51 (fun v5 s4 => ?_)
    refine cv_if_eq (tgt := 59) hC dX3_infer_54 (by decide) ?_ ?_
    · exact cv_sub [0, 1, 2, 3] rfl (J_X3_infer_b59 hC k28 hk28 k43 hk43 l1 l2 l3 s4)
    · refine cv_iconst (v := 1) hC dX3_infer_57 cb_iconst_1 ?_
      refine cv_istore_n (lv' := [(1, .int 1), (0, .ref (G.1 7)), (2, .int l2), (3, .int l3)]) hC dX3_infer_58 rfl (by decide) rfl ?_
      exact cv_sub [1, 0, 2, 3] rfl (J_X3_infer_b59 hC k28 hk28 k43 hk43 1 l2 l3 s4)
set_option maxRecDepth 20000 in
set_option maxHeartbeats 2000000 in
theorem J_X3_infer_b43 {X : cv_X} {G : cv_G} {LL : Launch} (hC : cv_C X G LL RX3 cX3_infer 4 none { frames := 4, cells := 0, slots := 0, locals := 94 }) (k28 : Int32 → Int32 → cv_St → Option (cv_St)) (hk28 : ∀ (l1 : Int32) (l2 : Int32)  σ, cv_J X G 4 0 0 (cv_QV X G) 28 [(0, .ref (G.1 7)), (1, .int l1), (2, .int l2)] [] σ (k28 l1 l2 σ)) : ∀ (n : Nat) (l1 : Int32) (l2 : Int32) (l3 : Int32) (σ : cv_St), cv_J X G 4 0 0 (cv_QV X G) 43 [(0, .ref (G.1 7)), (1, .int l1), (2, .int l2), (3, .int l3)] [] σ (F_X3_infer_b43 k28 n l1 l2 l3 σ) := by
  intro n
  induction n with
  | zero => intro l1 l2 l3 σ; exact cv_none
  | succ n ih => intro l1 l2 l3 σ; exact I_X3_infer_b43 hC k28 hk28 _ ih l1 l2 l3 σ
set_option maxRecDepth 20000 in
set_option maxHeartbeats 2000000 in
theorem I_X3_infer_b28 {X : cv_X} {G : cv_G} {LL : Launch} (hC : cv_C X G LL RX3 cX3_infer 4 none { frames := 4, cells := 0, slots := 0, locals := 94 }) (k28 : Int32 → Int32 → cv_St → Option (cv_St)) (hk28 : ∀ (l1 : Int32) (l2 : Int32)  σ, cv_J X G 4 0 0 (cv_QV X G) 28 [(0, .ref (G.1 7)), (1, .int l1), (2, .int l2)] [] σ (k28 l1 l2 σ)) (l1 : Int32) (l2 : Int32) (σ : cv_St) : cv_J X G 4 0 0 (cv_QV X G) 28 [(0, .ref (G.1 7)), (1, .int l1), (2, .int l2)] [] σ (B_X3_infer_b28 k28 l1 l2 σ) := by
  unfold B_X3_infer_b28
  refine cv_iload_n hC 1 dX3_infer_28 rfl rfl ?_
  refine cv_if_eq (tgt := 71) hC dX3_infer_29 (by decide) ?_ ?_
  · exact cv_vret hC dX3_infer_71
  · refine cv_iload_n hC 2 dX3_infer_32 rfl rfl ?_
    refine cv_sipush (v := 128) hC dX3_infer_33 cb_sipush_128 ?_
    refine cv_icmp_gt (tgt := 71) hC dX3_infer_36 (by decide) ?_ ?_
    · exact cv_vret hC dX3_infer_71
    · refine cv_iconst (v := 0) hC dX3_infer_39 cb_iconst_0 ?_
      refine cv_istore_n (lv' := [(1, .int 0), (0, .ref (G.1 7)), (2, .int l2)]) hC dX3_infer_40 rfl (by decide) rfl ?_
      refine cv_iconst (v := 0) hC dX3_infer_41 cb_iconst_0 ?_
      refine cv_istore_n (lv' := [(3, .int 0), (1, .int 0), (0, .ref (G.1 7)), (2, .int l2)]) hC dX3_infer_42 rfl (by decide) rfl ?_
      exact cv_sub [2, 1, 3, 0] rfl (J_X3_infer_b43 hC k28 hk28 1000 0 l2 0 σ)
set_option maxRecDepth 20000 in
set_option maxHeartbeats 2000000 in
theorem J_X3_infer_b28 {X : cv_X} {G : cv_G} {LL : Launch} (hC : cv_C X G LL RX3 cX3_infer 4 none { frames := 4, cells := 0, slots := 0, locals := 94 }) : ∀ (n : Nat) (l1 : Int32) (l2 : Int32) (σ : cv_St), cv_J X G 4 0 0 (cv_QV X G) 28 [(0, .ref (G.1 7)), (1, .int l1), (2, .int l2)] [] σ (F_X3_infer_b28 n l1 l2 σ) := by
  intro n
  induction n with
  | zero => intro l1 l2 σ; exact cv_none
  | succ n ih => intro l1 l2 σ; exact I_X3_infer_b28 hC _ ih l1 l2 σ
set_option maxRecDepth 20000 in
set_option maxHeartbeats 2000000 in
theorem J_X3_infer {X : cv_X} {G : cv_G} {LL : Launch} (hC : cv_C X G LL RX3 cX3_infer 4 none { frames := 4, cells := 0, slots := 0, locals := 94 }) (σ : cv_St) : cv_J X G 4 0 0 (cv_QV X G) 0 [(0, .ref (G.1 7))] [] σ (F_X3_infer σ) := by
  unfold F_X3_infer
  refine cv_aload_n hC 0 dX3_infer_0 rfl rfl ?_
  refine cv_getr hC (fg_X3_9_7 G) dX3_infer_1 ?_
  refine cv_iconst (v := 0) hC dX3_infer_4 cb_iconst_0 ?_
  refine cv_callSv hC [.ref (G.1 29), .int 0] [] (M_J7_fill_53178_29 LL G 0 σ) ln_X3_49 vm_J7_fill_53178 rfl rfl (Nat.le_of_ble_eq_true rfl) ⟨Nat.le_of_ble_eq_true rfl, Nat.le_of_ble_eq_true rfl⟩ ⟨Nat.le_of_ble_eq_true rfl, Nat.le_of_ble_eq_true rfl⟩ dX3_infer_5 (fun s1 => ?_)
  refine cv_aload_n hC 0 dX3_infer_8 rfl rfl ?_
  refine cv_getr hC (fg_X3_15_7 G) dX3_infer_9 ?_
  refine cv_iconst (v := 0) hC dX3_infer_12 cb_iconst_0 ?_
  refine cv_callSv hC [.ref (G.1 30), .int 0] [] (M_J7_fill_53178_30 LL G 0 s1) ln_X3_49 vm_J7_fill_53178 rfl rfl (Nat.le_of_ble_eq_true rfl) ⟨Nat.le_of_ble_eq_true rfl, Nat.le_of_ble_eq_true rfl⟩ ⟨Nat.le_of_ble_eq_true rfl, Nat.le_of_ble_eq_true rfl⟩ dX3_infer_13 (fun s2 => ?_)
  refine cv_aload_n hC 0 dX3_infer_16 rfl rfl ?_
  refine cv_getr hC (fg_X3_18_7 G) dX3_infer_17 ?_
  refine cv_iconst (v := 0) hC dX3_infer_20 cb_iconst_0 ?_
  refine cv_callSv hC [.ref (G.1 31), .int 0] [] (M_J7_fill_53178_31 LL G 0 s2) ln_X3_49 vm_J7_fill_53178 rfl rfl (Nat.le_of_ble_eq_true rfl) ⟨Nat.le_of_ble_eq_true rfl, Nat.le_of_ble_eq_true rfl⟩ ⟨Nat.le_of_ble_eq_true rfl, Nat.le_of_ble_eq_true rfl⟩ dX3_infer_21 (fun s3 => ?_)
  refine cv_iconst (v := 1) hC dX3_infer_24 cb_iconst_1 ?_
  refine cv_istore_n (lv' := [(1, .int 1), (0, .ref (G.1 7))]) hC dX3_infer_25 rfl (by decide) rfl ?_
  refine cv_iconst (v := 0) hC dX3_infer_26 cb_iconst_0 ?_
  refine cv_istore_n (lv' := [(2, .int 0), (1, .int 1), (0, .ref (G.1 7))]) hC dX3_infer_27 rfl (by decide) rfl ?_
  exact cv_sub [2, 1, 0] rfl (J_X3_infer_b28 hC 1000 1 0 s3)
set_option maxRecDepth 20000 in
set_option maxHeartbeats 2000000 in
theorem M_X3_infer (LL : Launch) (G : cv_G) (σ : cv_St) : cv_MV LL G yX3_infer cX3_infer 4 4 94 [.ref (G.1 7)] σ (F_X3_infer σ) :=
  cv_mkV (by decide) (Nat.le_of_ble_eq_true rfl) (fun X hC => J_X3_infer hC σ)
/-! J7_fill_53178_37 -/
set_option maxRecDepth 20000 in
set_option maxHeartbeats 2000000 in
theorem I_J7_fill_53178_37_b5 {X : cv_X} {G : cv_G} {LL : Launch} (hC : cv_C X G LL RJ7 cJ7_fill_53178 4 none { frames := 0, cells := 0, slots := 0, locals := 0 }) (k5 : Int32 → Int32 → Int32 → cv_St → Option (cv_St)) (hk5 : ∀ (l1 : Int32) (l2 : Int32) (l3 : Int32)  σ, cv_J X G 4 0 0 (cv_QV X G) 5 [(0, .ref (G.1 37)), (1, .int l1), (2, .int l2), (3, .int l3)] [] σ (k5 l1 l2 l3 σ)) (l1 : Int32) (l2 : Int32) (l3 : Int32) (σ : cv_St) : cv_J X G 4 0 0 (cv_QV X G) 5 [(0, .ref (G.1 37)), (1, .int l1), (2, .int l2), (3, .int l3)] [] σ (B_J7_fill_53178_37_b5 k5 l1 l2 l3 σ) := by
  unfold B_J7_fill_53178_37_b5
  refine cv_iload_n hC 2 dJ7_fill_53178_5 rfl rfl ?_
  refine cv_iload_n hC 3 dJ7_fill_53178_6 rfl rfl ?_
  refine cv_icmp_ge (tgt := 20) hC dJ7_fill_53178_7 (by decide) ?_ ?_
  · exact cv_vret hC dJ7_fill_53178_20
  · refine cv_aload_n hC 0 dJ7_fill_53178_10 rfl rfl ?_
    refine cv_iload_n hC 2 dJ7_fill_53178_11 rfl rfl ?_
    refine cv_iload_n hC 1 dJ7_fill_53178_12 rfl rfl ?_
    refine cv_iast hC (cv_a37 G) dJ7_fill_53178_13 (fun s1 => ?_)
    refine cv_iinc (lv' := [(2, .int (l2 + Int32.ofInt 1)), (0, .ref (G.1 37)), (1, .int l1), (3, .int l3)]) hC 2 dJ7_fill_53178_14 rfl (by decide) rfl ?_
    refine cv_goto (tgt := 5) hC dJ7_fill_53178_17 (by decide) ?_
    exact cv_sub [1, 2, 0, 3] rfl (hk5 l1 (l2 + Int32.ofInt 1) l3 s1)
set_option maxRecDepth 20000 in
set_option maxHeartbeats 2000000 in
theorem J_J7_fill_53178_37_b5 {X : cv_X} {G : cv_G} {LL : Launch} (hC : cv_C X G LL RJ7 cJ7_fill_53178 4 none { frames := 0, cells := 0, slots := 0, locals := 0 }) : ∀ (n : Nat) (l1 : Int32) (l2 : Int32) (l3 : Int32) (σ : cv_St), cv_J X G 4 0 0 (cv_QV X G) 5 [(0, .ref (G.1 37)), (1, .int l1), (2, .int l2), (3, .int l3)] [] σ (F_J7_fill_53178_37_b5 n l1 l2 l3 σ) := by
  intro n
  induction n with
  | zero => intro l1 l2 l3 σ; exact cv_none
  | succ n ih => intro l1 l2 l3 σ; exact I_J7_fill_53178_37_b5 hC _ ih l1 l2 l3 σ
set_option maxRecDepth 20000 in
set_option maxHeartbeats 2000000 in
theorem J_J7_fill_53178_37 {X : cv_X} {G : cv_G} {LL : Launch} (hC : cv_C X G LL RJ7 cJ7_fill_53178 4 none { frames := 0, cells := 0, slots := 0, locals := 0 }) (l1 : Int32) (σ : cv_St) : cv_J X G 4 0 0 (cv_QV X G) 0 [(0, .ref (G.1 37)), (1, .int l1)] [] σ (F_J7_fill_53178_37 l1 σ) := by
  unfold F_J7_fill_53178_37
  refine cv_iconst (v := 0) hC dJ7_fill_53178_0 cb_iconst_0 ?_
  refine cv_istore_n (lv' := [(2, .int 0), (0, .ref (G.1 37)), (1, .int l1)]) hC dJ7_fill_53178_1 rfl (by decide) rfl ?_
  refine cv_aload_n hC 1 dJ7_fill_53178_2 rfl rfl ?_
  refine cv_alen hC (cv_a37 G) dJ7_fill_53178_3 ?_
  refine cv_istore_n (lv' := [(3, .int (nI 15)), (2, .int 0), (0, .ref (G.1 37)), (1, .int l1)]) hC dJ7_fill_53178_4 rfl (by decide) rfl ?_
  exact cv_sub [2, 3, 1, 0] rfl (J_J7_fill_53178_37_b5 hC 1000 l1 0 (nI 15) σ)
set_option maxRecDepth 20000 in
set_option maxHeartbeats 2000000 in
theorem M_J7_fill_53178_37 (LL : Launch) (G : cv_G) (l1 : Int32) (σ : cv_St) : cv_MV LL G yJ7_fill_53178 cJ7_fill_53178 4 0 0 [.ref (G.1 37), .int l1] σ (F_J7_fill_53178_37 l1 σ) :=
  cv_mkV (by decide) (Nat.le_of_ble_eq_true rfl) (fun X hC => J_J7_fill_53178_37 hC l1 σ)
/-! X5_visit -/
set_option maxRecDepth 20000 in
set_option maxHeartbeats 2000000 in
theorem J_X5_visit {X : cv_X} {G : cv_G} {LL : Launch} (hC : cv_C X G LL RX5 cX5_visit 5 none { frames := 1, cells := 0, slots := 0, locals := 22 }) (l1 : Int32) (l2 : Int32) (σ : cv_St) : cv_J X G 5 0 0 (cv_QV X G) 0 [(0, .ref (G.1 8)), (1, .int l1), (2, .int l2)] [] σ (F_X5_visit l1 l2 σ) := by
  unfold F_X5_visit
  refine cv_aload_n hC 0 dX5_visit_0 rfl rfl ?_
  refine cv_getr hC (fg_X5_34_8 G) dX5_visit_1 ?_
  refine cv_iload_n hC 1 dX5_visit_4 rfl rfl ?_
  refine cv_iload_n hC 2 dX5_visit_5 rfl rfl ?_
  refine cv_callVi (ob := 2) hC [.int l1, .int l2] [] (M_X0_kindAt LL G l1 l2 σ) ln_X5_81 vm_X0_kindAt (ob_2 G) rfl rfl (Nat.le_of_ble_eq_true rfl) ⟨Nat.le_of_ble_eq_true rfl, Nat.le_of_ble_eq_true rfl⟩ ⟨Nat.le_of_ble_eq_true rfl, Nat.le_of_ble_eq_true rfl⟩ dX5_visit_6 (fun v2 s1 => ?_)
  refine cv_istore_n (lv' := [(3, .int v2), (0, .ref (G.1 8)), (1, .int l1), (2, .int l2)]) hC dX5_visit_9 rfl (by decide) rfl ?_
  refine cv_aload_n hC 1 dX5_visit_10 rfl rfl ?_
  refine cv_getr hC (fg_X5_34_8 G) dX5_visit_11 ?_
  refine cv_iload_n hC 2 dX5_visit_14 rfl rfl ?_
  refine cv_iload_n hC 3 dX5_visit_15 rfl rfl ?_
  refine cv_callVi (ob := 2) hC [.int l1, .int l2] [] (M_X0_numberAt LL G l1 l2 s1) ln_X5_85 vm_X0_numberAt (ob_2 G) rfl rfl (Nat.le_of_ble_eq_true rfl) ⟨Nat.le_of_ble_eq_true rfl, Nat.le_of_ble_eq_true rfl⟩ ⟨Nat.le_of_ble_eq_true rfl, Nat.le_of_ble_eq_true rfl⟩ dX5_visit_16 (fun v4 s3 => ?_)
  refine cv_istore (lv' := [(4, .int v4), (3, .int v2), (0, .ref (G.1 8)), (1, .int l1), (2, .int l2)]) hC dX5_visit_19 (by decide) rfl ?_
  refine cv_iload_n hC 1 dX5_visit_21 rfl rfl ?_
  refine cv_bipush (v := 108) hC dX5_visit_22 cb_bipush_108 ?_
  refine cv_icmp_ne (tgt := 49) hC dX5_visit_24 (by decide) ?_ ?_
  · refine cv_iload_n hC 1 dX5_visit_49 rfl rfl ?_
    refine cv_bipush (v := 99) hC dX5_visit_50 cb_bipush_99 ?_
    refine cv_icmp_ne (tgt := 120) hC dX5_visit_52 (by decide) ?_ ?_
    · exact cv_vret hC dX5_visit_120
    · refine cv_aload_n hC 2 dX5_visit_55 rfl rfl ?_
      refine cv_geti hC (fg_X5_30_8 G) dX5_visit_56 ?_
      refine cv_bipush (v := 112) hC dX5_visit_59 cb_bipush_112 ?_
      refine cv_icmp_ge (tgt := 120) hC dX5_visit_61 (by decide) ?_ ?_
      · exact cv_vret hC dX5_visit_120
      · refine cv_aload_n hC 2 dX5_visit_64 rfl rfl ?_
        refine cv_getr hC (fg_X5_9_8 G) dX5_visit_65 ?_
        refine cv_aload_n hC 2 dX5_visit_68 rfl rfl ?_
        refine cv_geti hC (fg_X5_30_8 G) dX5_visit_69 ?_
        refine cv_iload_n hC 3 dX5_visit_72 rfl rfl ?_
        refine cv_iast hC (cv_a32 G) dX5_visit_73 (fun s5 => ?_)
        refine cv_aload_n hC 2 dX5_visit_74 rfl rfl ?_
        refine cv_getr hC (fg_X5_15_8 G) dX5_visit_75 ?_
        refine cv_aload_n hC 2 dX5_visit_78 rfl rfl ?_
        refine cv_geti hC (fg_X5_30_8 G) dX5_visit_79 ?_
        refine cv_iload_n hC 4 dX5_visit_82 rfl rfl ?_
        refine cv_iast hC (cv_a33 G) dX5_visit_83 (fun s6 => ?_)
        refine cv_aload_n hC 2 dX5_visit_84 rfl rfl ?_
        refine cv_getr hC (fg_X5_18_8 G) dX5_visit_85 ?_
        refine cv_aload_n hC 2 dX5_visit_88 rfl rfl ?_
        refine cv_geti hC (fg_X5_30_8 G) dX5_visit_89 ?_
        refine cv_iload hC 0 dX5_visit_92 rfl ?_
        refine cv_iast hC (cv_a34 G) dX5_visit_94 (fun s7 => ?_)
        refine cv_aload_n hC 2 dX5_visit_95 rfl rfl ?_
        refine cv_getr hC (fg_X5_21_8 G) dX5_visit_96 ?_
        refine cv_aload_n hC 2 dX5_visit_99 rfl rfl ?_
        refine cv_geti hC (fg_X5_30_8 G) dX5_visit_100 ?_
        refine cv_aload_n hC 2 dX5_visit_103 rfl rfl ?_
        refine cv_getr hC (fg_X5_27_8 G) dX5_visit_104 ?_
        refine cv_iload_n hC 4 dX5_visit_107 rfl rfl ?_
        refine cv_iald hC (cv_a37 G) dX5_visit_108 (fun v8 => ?_)
        refine cv_iast hC (cv_a35 G) dX5_visit_109 (fun s9 => ?_)
        refine cv_aload_n hC 2 dX5_visit_110 rfl rfl ?_
        refine cv_dup hC dX5_visit_111 rfl ?_
        refine cv_geti hC (fg_X5_30_8 G) dX5_visit_112 ?_
        refine cv_iconst (v := 1) hC dX5_visit_115 cb_iconst_1 ?_
        refine cv_iadd hC dX5_visit_116 ?_
        refine cv_puti hC (fp_X5_30_8 G) dX5_visit_117 (fun s10 => ?_)
        exact cv_vret hC dX5_visit_120
  · refine cv_aload_n hC 2 dX5_visit_27 rfl rfl ?_
    refine cv_getr hC (fg_X5_24_8 G) dX5_visit_28 ?_
    refine cv_iload_n hC 3 dX5_visit_31 rfl rfl ?_
    refine cv_aload_n hC 2 dX5_visit_32 rfl rfl ?_
    refine cv_getr hC (fg_X5_24_8 G) dX5_visit_33 ?_
    refine cv_iload_n hC 3 dX5_visit_36 rfl rfl ?_
    refine cv_iald hC (cv_a36 G) dX5_visit_37 (fun v11 => ?_)
    refine cv_iload hC 0 dX5_visit_38 rfl ?_
    refine cv_iconst (v := 1) hC dX5_visit_40 cb_iconst_1 ?_
    refine cv_iadd hC dX5_visit_41 ?_
    refine cv_mmax hC ln_X5_88 sw_max.1 sw_max.2.1 sw_max.2.2 ⟨Nat.le_of_ble_eq_true rfl, Nat.le_of_ble_eq_true rfl⟩ ⟨Nat.le_of_ble_eq_true rfl, Nat.le_of_ble_eq_true rfl⟩ dX5_visit_42 ?_
    refine cv_iast hC (cv_a36 G) dX5_visit_45 (fun s12 => ?_)
    refine cv_goto (tgt := 120) hC dX5_visit_46 (by decide) ?_
    exact cv_vret hC dX5_visit_120
set_option maxRecDepth 20000 in
set_option maxHeartbeats 2000000 in
theorem M_X5_visit (LL : Launch) (G : cv_G) (l1 : Int32) (l2 : Int32) (σ : cv_St) : cv_MV LL G yX5_visit cX5_visit 5 1 22 [.ref (G.1 8), .int l1, .int l2] σ (F_X5_visit l1 l2 σ) :=
  cv_mkV (by decide) (Nat.le_of_ble_eq_true rfl) (fun X hC => J_X5_visit hC l1 l2 σ)
/-! X5_storedBehind -/
set_option maxRecDepth 20000 in
set_option maxHeartbeats 2000000 in
theorem J_X5_storedBehind_b39 {X : cv_X} {G : cv_G} {LL : Launch} (hC : cv_C X G LL RX5 cX5_storedBehind 5 (some .int) { frames := 1, cells := 0, slots := 0, locals := 22 }) (l2 : Int32) (t0 : Int32) (σ : cv_St) : cv_J X G 5 0 0 (cv_QI X G) 39 [(0, .ref (G.1 8)), (2, .int l2)] [.int t0] σ (F_X5_storedBehind_b39 l2 t0 σ) := by
  unfold F_X5_storedBehind_b39
  refine cv_istore (lv' := [(4, .int t0), (0, .ref (G.1 8)), (2, .int l2)]) hC dX5_storedBehind_39 (by decide) rfl ?_
  refine cv_aload_n hC 1 dX5_storedBehind_41 rfl rfl ?_
  refine cv_getr hC (fg_X5_27_8 G) dX5_storedBehind_42 ?_
  refine cv_iload_n hC 2 dX5_storedBehind_45 rfl rfl ?_
  refine cv_iald hC (cv_a37 G) dX5_storedBehind_46 (fun v3 => ?_)
  refine cv_iload hC 0 dX5_storedBehind_47 rfl ?_
  refine cv_ior hC dX5_storedBehind_49 ?_
  exact cv_iret hC dX5_storedBehind_50
set_option maxRecDepth 20000 in
set_option maxHeartbeats 2000000 in
theorem J_X5_storedBehind {X : cv_X} {G : cv_G} {LL : Launch} (hC : cv_C X G LL RX5 cX5_storedBehind 5 (some .int) { frames := 1, cells := 0, slots := 0, locals := 22 }) (l1 : Int32) (l2 : Int32) (σ : cv_St) : cv_J X G 5 0 0 (cv_QI X G) 0 [(0, .ref (G.1 8)), (1, .int l1), (2, .int l2)] [] σ (F_X5_storedBehind l1 l2 σ) := by
  unfold F_X5_storedBehind
  refine cv_aload_n hC 0 dX5_storedBehind_0 rfl rfl ?_
  refine cv_getr hC (fg_X5_34_8 G) dX5_storedBehind_1 ?_
  refine cv_iload_n hC 1 dX5_storedBehind_4 rfl rfl ?_
  refine cv_iload_n hC 2 dX5_storedBehind_5 rfl rfl ?_
  refine cv_callVi (ob := 2) hC [.int l1, .int l2] [] (M_X0_kindAt LL G l1 l2 σ) ln_X5_81 vm_X0_kindAt (ob_2 G) rfl rfl (Nat.le_of_ble_eq_true rfl) ⟨Nat.le_of_ble_eq_true rfl, Nat.le_of_ble_eq_true rfl⟩ ⟨Nat.le_of_ble_eq_true rfl, Nat.le_of_ble_eq_true rfl⟩ dX5_storedBehind_6 (fun v2 s1 => ?_)
  refine cv_istore_n (lv' := [(3, .int v2), (0, .ref (G.1 8)), (1, .int l1), (2, .int l2)]) hC dX5_storedBehind_9 rfl (by decide) rfl ?_
  refine cv_iload_n hC 0 dX5_storedBehind_10 rfl rfl ?_
  refine cv_bipush (v := 99) hC dX5_storedBehind_11 cb_bipush_99 ?_
  refine cv_icmp_ne (tgt := 18) hC dX5_storedBehind_13 (by decide) ?_ ?_
  · refine cv_iload_n hC 0 dX5_storedBehind_18 rfl rfl ?_
    refine cv_bipush (v := 115) hC dX5_storedBehind_19 cb_bipush_115 ?_
    refine cv_icmp_ne (tgt := 38) hC dX5_storedBehind_21 (by decide) ?_ ?_
    · refine cv_iconst (v := 0) hC dX5_storedBehind_38 cb_iconst_0 ?_
      exact cv_sub [1, 3] rfl (J_X5_storedBehind_b39 hC l2 0 s1)
    · refine cv_iconst (v := 1) hC dX5_storedBehind_24 cb_iconst_1 ?_
      refine cv_aload_n hC 1 dX5_storedBehind_25 rfl rfl ?_
      refine cv_getr hC (fg_X5_34_8 G) dX5_storedBehind_26 ?_
      refine cv_iload_n hC 2 dX5_storedBehind_29 rfl rfl ?_
      refine cv_iload_n hC 3 dX5_storedBehind_30 rfl rfl ?_
      refine cv_callVi (ob := 2) hC [.int l1, .int l2] [.int 1] (M_X0_numberAt LL G l1 l2 s1) ln_X5_85 vm_X0_numberAt (ob_2 G) rfl rfl (Nat.le_of_ble_eq_true rfl) ⟨Nat.le_of_ble_eq_true rfl, Nat.le_of_ble_eq_true rfl⟩ ⟨Nat.le_of_ble_eq_true rfl, Nat.le_of_ble_eq_true rfl⟩ dX5_storedBehind_31 (fun v5 s4 => ?_)
      refine cv_ishl hC dX5_storedBehind_34 ?_
      refine cv_goto (tgt := 39) hC dX5_storedBehind_35 (by decide) ?_
      exact cv_sub [1, 3] rfl (J_X5_storedBehind_b39 hC l2 (1 <<< (v5 &&& 31)) s4)
  · refine cv_iconst (v := 0) hC dX5_storedBehind_16 cb_iconst_0 ?_
    exact cv_iret hC dX5_storedBehind_17
set_option maxRecDepth 20000 in
set_option maxHeartbeats 2000000 in
theorem M_X5_storedBehind (LL : Launch) (G : cv_G) (l1 : Int32) (l2 : Int32) (σ : cv_St) : cv_MI LL G yX5_storedBehind cX5_storedBehind 5 (some .int) 1 22 [.ref (G.1 8), .int l1, .int l2] σ (F_X5_storedBehind l1 l2 σ) :=
  cv_mkI (by decide) (Nat.le_of_ble_eq_true rfl) (fun X hC => J_X5_storedBehind hC l1 l2 σ)
/-! X5_collect -/
set_option maxRecDepth 20000 in
set_option maxHeartbeats 2000000 in
theorem J_X5_collect_b99 {X : cv_X} {G : cv_G} {LL : Launch} (hC : cv_C X G LL RX5 cX5_collect 4 none { frames := 2, cells := 0, slots := 0, locals := 48 }) (k25 : Int32 → Int32 → cv_St → Option (cv_St)) (hk25 : ∀ (l1 : Int32) (l2 : Int32)  σ, cv_J X G 4 0 0 (cv_QV X G) 25 [(0, .ref (G.1 8)), (1, .int l1), (2, .int l2)] [] σ (k25 l1 l2 σ)) (l1 : Int32) (l2 : Int32) (σ : cv_St) : cv_J X G 4 0 0 (cv_QV X G) 99 [(0, .ref (G.1 8)), (1, .int l1), (2, .int l2)] [] σ (F_X5_collect_b99 k25 l1 l2 σ) := by
  unfold F_X5_collect_b99
  refine cv_iinc (lv' := [(2, .int (l2 + Int32.ofInt 1)), (0, .ref (G.1 8)), (1, .int l1)]) hC 2 dX5_collect_99 rfl (by decide) rfl ?_
  refine cv_goto (tgt := 25) hC dX5_collect_102 (by decide) ?_
  exact cv_sub [1, 2, 0] rfl (hk25 l1 (l2 + Int32.ofInt 1) σ)
set_option maxRecDepth 20000 in
set_option maxHeartbeats 2000000 in
theorem I_X5_collect_b25 {X : cv_X} {G : cv_G} {LL : Launch} (hC : cv_C X G LL RX5 cX5_collect 4 none { frames := 2, cells := 0, slots := 0, locals := 48 }) (k25 : Int32 → Int32 → cv_St → Option (cv_St)) (hk25 : ∀ (l1 : Int32) (l2 : Int32)  σ, cv_J X G 4 0 0 (cv_QV X G) 25 [(0, .ref (G.1 8)), (1, .int l1), (2, .int l2)] [] σ (k25 l1 l2 σ)) (l1 : Int32) (l2 : Int32) (σ : cv_St) : cv_J X G 4 0 0 (cv_QV X G) 25 [(0, .ref (G.1 8)), (1, .int l1), (2, .int l2)] [] σ (B_X5_collect_b25 k25 l1 l2 σ) := by
  unfold B_X5_collect_b25
  refine cv_iload_n hC 2 dX5_collect_25 rfl rfl ?_
  refine cv_aload_n hC 0 dX5_collect_26 rfl rfl ?_
  refine cv_getr hC (fg_X5_34_8 G) dX5_collect_27 ?_
  refine cv_getr hC (fg_X5_58_2 G) dX5_collect_30 ?_
  refine cv_iload_n hC 1 dX5_collect_33 rfl rfl ?_
  refine cv_iald hC (cv_a14 G) dX5_collect_34 (fun v5 => ?_)
  refine cv_icmp_ge (tgt := 105) hC dX5_collect_35 (by decide) ?_ ?_
  · exact cv_vret hC dX5_collect_105
  · refine cv_aload_n hC 0 dX5_collect_38 rfl rfl ?_
    refine cv_getr hC (fg_X5_38_8 G) dX5_collect_39 ?_
    refine cv_iload_n hC 1 dX5_collect_42 rfl rfl ?_
    refine cv_iload_n hC 2 dX5_collect_43 rfl rfl ?_
    refine cv_callVi (ob := 4) hC [.int l1, .int l2] [] (M_X2_reaches LL G l1 l2 σ) ln_X5_61 vm_X2_reaches (ob_4 G) rfl rfl (Nat.le_of_ble_eq_true rfl) ⟨Nat.le_of_ble_eq_true rfl, Nat.le_of_ble_eq_true rfl⟩ ⟨Nat.le_of_ble_eq_true rfl, Nat.le_of_ble_eq_true rfl⟩ dX5_collect_44 (fun v7 s6 => ?_)
    refine cv_if_eq (tgt := 99) hC dX5_collect_47 (by decide) ?_ ?_
    · exact cv_sub [0, 1, 2] rfl (J_X5_collect_b99 hC k25 hk25 l1 l2 s6)
    · refine cv_aload_n hC 0 dX5_collect_50 rfl rfl ?_
      refine cv_iload_n hC 1 dX5_collect_51 rfl rfl ?_
      refine cv_iload_n hC 2 dX5_collect_52 rfl rfl ?_
      refine cv_callVv (ob := 8) hC [.int l1, .int l2] [] (M_X5_visit LL G l1 l2 s6) ln_X5_67 vm_X5_visit (ob_8 G) rfl rfl (Nat.le_of_ble_eq_true rfl) ⟨Nat.le_of_ble_eq_true rfl, Nat.le_of_ble_eq_true rfl⟩ ⟨Nat.le_of_ble_eq_true rfl, Nat.le_of_ble_eq_true rfl⟩ dX5_collect_53 (fun s8 => ?_)
      refine cv_aload_n hC 0 dX5_collect_56 rfl rfl ?_
      refine cv_iload_n hC 1 dX5_collect_57 rfl rfl ?_
      refine cv_iload_n hC 2 dX5_collect_58 rfl rfl ?_
      refine cv_callVi (ob := 8) hC [.int l1, .int l2] [] (M_X5_storedBehind LL G l1 l2 s8) ln_X5_71 vm_X5_storedBehind (ob_8 G) rfl rfl (Nat.le_of_ble_eq_true rfl) ⟨Nat.le_of_ble_eq_true rfl, Nat.le_of_ble_eq_true rfl⟩ ⟨Nat.le_of_ble_eq_true rfl, Nat.le_of_ble_eq_true rfl⟩ dX5_collect_59 (fun v10 s9 => ?_)
      refine cv_istore_n (lv' := [(3, .int v10), (0, .ref (G.1 8)), (1, .int l1), (2, .int l2)]) hC dX5_collect_62 rfl (by decide) rfl ?_
      refine cv_aload_n hC 1 dX5_collect_63 rfl rfl ?_
      refine cv_getr hC (fg_X5_27_8 G) dX5_collect_64 ?_
      refine cv_aload_n hC 1 dX5_collect_67 rfl rfl ?_
      refine cv_getr hC (fg_X5_34_8 G) dX5_collect_68 ?_
      refine cv_iload_n hC 2 dX5_collect_71 rfl rfl ?_
      refine cv_iload_n hC 3 dX5_collect_72 rfl rfl ?_
      refine cv_callVi (ob := 2) hC [.int l1, .int l2] [.ref (G.1 37)] (M_X0_next LL G l1 l2 s9) ln_X5_75 vm_X0_next (ob_2 G) rfl rfl (Nat.le_of_ble_eq_true rfl) ⟨Nat.le_of_ble_eq_true rfl, Nat.le_of_ble_eq_true rfl⟩ ⟨Nat.le_of_ble_eq_true rfl, Nat.le_of_ble_eq_true rfl⟩ dX5_collect_73 (fun v12 s11 => ?_)
      refine cv_dup2 hC dX5_collect_76 rfl rfl ?_
      refine cv_iald hC (cv_a37 G) dX5_collect_77 (fun v13 => ?_)
      refine cv_iload_n hC 0 dX5_collect_78 rfl rfl ?_
      refine cv_iand hC dX5_collect_79 ?_
      refine cv_iast hC (cv_a37 G) dX5_collect_80 (fun s14 => ?_)
      refine cv_aload_n hC 1 dX5_collect_81 rfl rfl ?_
      refine cv_getr hC (fg_X5_27_8 G) dX5_collect_82 ?_
      refine cv_aload_n hC 1 dX5_collect_85 rfl rfl ?_
      refine cv_getr hC (fg_X5_34_8 G) dX5_collect_86 ?_
      refine cv_iload_n hC 2 dX5_collect_89 rfl rfl ?_
      refine cv_iload_n hC 3 dX5_collect_90 rfl rfl ?_
      refine cv_callVi (ob := 2) hC [.int l1, .int l2] [.ref (G.1 37)] (M_X0_other LL G l1 l2 s14) ln_X5_78 vm_X0_other (ob_2 G) rfl rfl (Nat.le_of_ble_eq_true rfl) ⟨Nat.le_of_ble_eq_true rfl, Nat.le_of_ble_eq_true rfl⟩ ⟨Nat.le_of_ble_eq_true rfl, Nat.le_of_ble_eq_true rfl⟩ dX5_collect_91 (fun v16 s15 => ?_)
      refine cv_dup2 hC dX5_collect_94 rfl rfl ?_
      refine cv_iald hC (cv_a37 G) dX5_collect_95 (fun v17 => ?_)
      refine cv_iload_n hC 0 dX5_collect_96 rfl rfl ?_
      refine cv_iand hC dX5_collect_97 ?_
      refine cv_iast hC (cv_a37 G) dX5_collect_98 (fun s18 => ?_)
      exact cv_sub [1, 2, 3] rfl (J_X5_collect_b99 hC k25 hk25 l1 l2 s18)
set_option maxRecDepth 20000 in
set_option maxHeartbeats 2000000 in
theorem J_X5_collect_b25 {X : cv_X} {G : cv_G} {LL : Launch} (hC : cv_C X G LL RX5 cX5_collect 4 none { frames := 2, cells := 0, slots := 0, locals := 48 }) : ∀ (n : Nat) (l1 : Int32) (l2 : Int32) (σ : cv_St), cv_J X G 4 0 0 (cv_QV X G) 25 [(0, .ref (G.1 8)), (1, .int l1), (2, .int l2)] [] σ (F_X5_collect_b25 n l1 l2 σ) := by
  intro n
  induction n with
  | zero => intro l1 l2 σ; exact cv_none
  | succ n ih => intro l1 l2 σ; exact I_X5_collect_b25 hC _ ih l1 l2 σ
set_option maxRecDepth 20000 in
set_option maxHeartbeats 2000000 in
theorem J_X5_collect {X : cv_X} {G : cv_G} {LL : Launch} (hC : cv_C X G LL RX5 cX5_collect 4 none { frames := 2, cells := 0, slots := 0, locals := 48 }) (l1 : Int32) (σ : cv_St) : cv_J X G 4 0 0 (cv_QV X G) 0 [(0, .ref (G.1 8)), (1, .int l1)] [] σ (F_X5_collect l1 σ) := by
  unfold F_X5_collect
  refine cv_aload_n hC 0 dX5_collect_0 rfl rfl ?_
  refine cv_getr hC (fg_X5_27_8 G) dX5_collect_1 ?_
  refine cv_bipush (v := 15) hC dX5_collect_4 cb_bipush_15 ?_
  refine cv_callSv hC [.ref (G.1 37), .int 15] [] (M_J7_fill_53178_37 LL G 15 σ) ln_X5_46 vm_J7_fill_53178 rfl rfl (Nat.le_of_ble_eq_true rfl) ⟨Nat.le_of_ble_eq_true rfl, Nat.le_of_ble_eq_true rfl⟩ ⟨Nat.le_of_ble_eq_true rfl, Nat.le_of_ble_eq_true rfl⟩ dX5_collect_6 (fun s1 => ?_)
  refine cv_aload_n hC 0 dX5_collect_9 rfl rfl ?_
  refine cv_getr hC (fg_X5_27_8 G) dX5_collect_10 ?_
  refine cv_aload_n hC 0 dX5_collect_13 rfl rfl ?_
  refine cv_getr hC (fg_X5_34_8 G) dX5_collect_14 ?_
  refine cv_iload_n hC 1 dX5_collect_17 rfl rfl ?_
  refine cv_callVi (ob := 2) hC [.int l1] [.ref (G.1 37)] (M_X0_entry LL G l1 s1) ln_X5_52 vm_X0_entry (ob_2 G) rfl rfl (Nat.le_of_ble_eq_true rfl) ⟨Nat.le_of_ble_eq_true rfl, Nat.le_of_ble_eq_true rfl⟩ ⟨Nat.le_of_ble_eq_true rfl, Nat.le_of_ble_eq_true rfl⟩ dX5_collect_18 (fun v3 s2 => ?_)
  refine cv_iconst (v := 0) hC dX5_collect_21 cb_iconst_0 ?_
  refine cv_iast hC (cv_a37 G) dX5_collect_22 (fun s4 => ?_)
  refine cv_iconst (v := 0) hC dX5_collect_23 cb_iconst_0 ?_
  refine cv_istore_n (lv' := [(2, .int 0), (0, .ref (G.1 8)), (1, .int l1)]) hC dX5_collect_24 rfl (by decide) rfl ?_
  exact cv_sub [1, 2, 0] rfl (J_X5_collect_b25 hC 1000 l1 0 s4)
set_option maxRecDepth 20000 in
set_option maxHeartbeats 2000000 in
theorem M_X5_collect (LL : Launch) (G : cv_G) (l1 : Int32) (σ : cv_St) : cv_MV LL G yX5_collect cX5_collect 4 2 48 [.ref (G.1 8), .int l1] σ (F_X5_collect l1 σ) :=
  cv_mkV (by decide) (Nat.le_of_ble_eq_true rfl) (fun X hC => J_X5_collect hC l1 σ)
/-! X5_infer -/
set_option maxRecDepth 20000 in
set_option maxHeartbeats 2000000 in
theorem I_X5_infer_b7 {X : cv_X} {G : cv_G} {LL : Launch} (hC : cv_C X G LL RX5 cX5_infer 2 none { frames := 3, cells := 0, slots := 0, locals := 71 }) (k7 : Int32 → cv_St → Option (cv_St)) (hk7 : ∀ (l1 : Int32)  σ, cv_J X G 2 0 0 (cv_QV X G) 7 [(0, .ref (G.1 8)), (1, .int l1)] [] σ (k7 l1 σ)) (l1 : Int32) (σ : cv_St) : cv_J X G 2 0 0 (cv_QV X G) 7 [(0, .ref (G.1 8)), (1, .int l1)] [] σ (B_X5_infer_b7 k7 l1 σ) := by
  unfold B_X5_infer_b7
  refine cv_iload_n hC 1 dX5_infer_7 rfl rfl ?_
  refine cv_bipush (v := 8) hC dX5_infer_8 cb_bipush_8 ?_
  refine cv_icmp_ge (tgt := 31) hC dX5_infer_10 (by decide) ?_ ?_
  · exact cv_vret hC dX5_infer_31
  · refine cv_aload_n hC 0 dX5_infer_13 rfl rfl ?_
    refine cv_getr hC (fg_X5_24_8 G) dX5_infer_14 ?_
    refine cv_iload_n hC 1 dX5_infer_17 rfl rfl ?_
    refine cv_iconst (v := 0) hC dX5_infer_18 cb_iconst_0 ?_
    refine cv_iast hC (cv_a36 G) dX5_infer_19 (fun s2 => ?_)
    refine cv_aload_n hC 0 dX5_infer_20 rfl rfl ?_
    refine cv_iload_n hC 1 dX5_infer_21 rfl rfl ?_
    refine cv_callVv (ob := 8) hC [.int l1] [] (M_X5_collect LL G l1 s2) ln_X5_42 vm_X5_collect (ob_8 G) rfl rfl (Nat.le_of_ble_eq_true rfl) ⟨Nat.le_of_ble_eq_true rfl, Nat.le_of_ble_eq_true rfl⟩ ⟨Nat.le_of_ble_eq_true rfl, Nat.le_of_ble_eq_true rfl⟩ dX5_infer_22 (fun s3 => ?_)
    refine cv_iinc (lv' := [(1, .int (l1 + Int32.ofInt 1)), (0, .ref (G.1 8))]) hC 1 dX5_infer_25 rfl (by decide) rfl ?_
    refine cv_goto (tgt := 7) hC dX5_infer_28 (by decide) ?_
    exact cv_sub [1, 0] rfl (hk7 (l1 + Int32.ofInt 1) s3)
set_option maxRecDepth 20000 in
set_option maxHeartbeats 2000000 in
theorem J_X5_infer_b7 {X : cv_X} {G : cv_G} {LL : Launch} (hC : cv_C X G LL RX5 cX5_infer 2 none { frames := 3, cells := 0, slots := 0, locals := 71 }) : ∀ (n : Nat) (l1 : Int32) (σ : cv_St), cv_J X G 2 0 0 (cv_QV X G) 7 [(0, .ref (G.1 8)), (1, .int l1)] [] σ (F_X5_infer_b7 n l1 σ) := by
  intro n
  induction n with
  | zero => intro l1 σ; exact cv_none
  | succ n ih => intro l1 σ; exact I_X5_infer_b7 hC _ ih l1 σ
set_option maxRecDepth 20000 in
set_option maxHeartbeats 2000000 in
theorem J_X5_infer {X : cv_X} {G : cv_G} {LL : Launch} (hC : cv_C X G LL RX5 cX5_infer 2 none { frames := 3, cells := 0, slots := 0, locals := 71 }) (σ : cv_St) : cv_J X G 2 0 0 (cv_QV X G) 0 [(0, .ref (G.1 8))] [] σ (F_X5_infer σ) := by
  unfold F_X5_infer
  refine cv_aload_n hC 0 dX5_infer_0 rfl rfl ?_
  refine cv_iconst (v := 0) hC dX5_infer_1 cb_iconst_0 ?_
  refine cv_puti hC (fp_X5_30_8 G) dX5_infer_2 (fun s1 => ?_)
  refine cv_iconst (v := 0) hC dX5_infer_5 cb_iconst_0 ?_
  refine cv_istore_n (lv' := [(1, .int 0), (0, .ref (G.1 8))]) hC dX5_infer_6 rfl (by decide) rfl ?_
  exact cv_sub [1, 0] rfl (J_X5_infer_b7 hC 1000 0 s1)
set_option maxRecDepth 20000 in
set_option maxHeartbeats 2000000 in
theorem M_X5_infer (LL : Launch) (G : cv_G) (σ : cv_St) : cv_MV LL G yX5_infer cX5_infer 2 3 71 [.ref (G.1 8)] σ (F_X5_infer σ) :=
  cv_mkV (by decide) (Nat.le_of_ble_eq_true rfl) (fun X hC => J_X5_infer hC σ)
/-! X5_missing -/
set_option maxRecDepth 20000 in
set_option maxHeartbeats 2000000 in
theorem J_X5_missing {X : cv_X} {G : cv_G} {LL : Launch} (hC : cv_C X G LL RX5 cX5_missing 3 (some .int) { frames := 0, cells := 0, slots := 0, locals := 0 }) (l1 : Int32) (σ : cv_St) : cv_J X G 3 0 0 (cv_QI X G) 0 [(0, .ref (G.1 8)), (1, .int l1)] [] σ (F_X5_missing l1 σ) := by
  unfold F_X5_missing
  refine cv_iconst (v := 1) hC dX5_missing_0 cb_iconst_1 ?_
  refine cv_aload_n hC 0 dX5_missing_1 rfl rfl ?_
  refine cv_getr hC (fg_X5_24_8 G) dX5_missing_2 ?_
  refine cv_aload_n hC 0 dX5_missing_5 rfl rfl ?_
  refine cv_getr hC (fg_X5_18_8 G) dX5_missing_6 ?_
  refine cv_iload_n hC 1 dX5_missing_9 rfl rfl ?_
  refine cv_iald hC (cv_a34 G) dX5_missing_10 (fun v1 => ?_)
  refine cv_iald hC (cv_a36 G) dX5_missing_11 (fun v2 => ?_)
  refine cv_ishl hC dX5_missing_12 ?_
  refine cv_iconst (v := 1) hC dX5_missing_13 cb_iconst_1 ?_
  refine cv_isub hC dX5_missing_14 ?_
  refine cv_istore_n (lv' := [(2, .int ((1 <<< (v2 &&& 31)) - 1)), (0, .ref (G.1 8)), (1, .int l1)]) hC dX5_missing_15 rfl (by decide) rfl ?_
  refine cv_iload_n hC 0 dX5_missing_16 rfl rfl ?_
  refine cv_aload_n hC 1 dX5_missing_17 rfl rfl ?_
  refine cv_getr hC (fg_X5_21_8 G) dX5_missing_18 ?_
  refine cv_iload_n hC 2 dX5_missing_21 rfl rfl ?_
  refine cv_iald hC (cv_a35 G) dX5_missing_22 (fun v3 => ?_)
  refine cv_iconst (v := (-1)) hC dX5_missing_23 cb_iconst_m1 ?_
  refine cv_ixor hC dX5_missing_24 ?_
  refine cv_iand hC dX5_missing_25 ?_
  exact cv_iret hC dX5_missing_26
set_option maxRecDepth 20000 in
set_option maxHeartbeats 2000000 in
theorem M_X5_missing (LL : Launch) (G : cv_G) (l1 : Int32) (σ : cv_St) : cv_MI LL G yX5_missing cX5_missing 3 (some .int) 0 0 [.ref (G.1 8), .int l1] σ (F_X5_missing l1 σ) :=
  cv_mkI (by decide) (Nat.le_of_ble_eq_true rfl) (fun X hC => J_X5_missing hC l1 σ)
/-! X5_differFor -/
set_option maxRecDepth 20000 in
set_option maxHeartbeats 2000000 in
theorem J_X5_differFor_b45 {X : cv_X} {G : cv_G} {LL : Launch} (hC : cv_C X G LL RX5 cX5_differFor 4 (some .boolean) { frames := 0, cells := 0, slots := 0, locals := 0 }) (k4 : Int32 → Int32 → Int32 → cv_St → Option (Int32 × cv_St)) (hk4 : ∀ (l1 : Int32) (l2 : Int32) (l3 : Int32)  σ, cv_J X G 4 0 0 (cv_QI X G) 4 [(0, .ref (G.1 8)), (1, .int l1), (2, .int l2), (3, .int l3)] [] σ (k4 l1 l2 l3 σ)) (l1 : Int32) (l2 : Int32) (l3 : Int32) (σ : cv_St) : cv_J X G 4 0 0 (cv_QI X G) 45 [(0, .ref (G.1 8)), (1, .int l1), (2, .int l2), (3, .int l3)] [] σ (F_X5_differFor_b45 k4 l1 l2 l3 σ) := by
  unfold F_X5_differFor_b45
  refine cv_iinc (lv' := [(3, .int (l3 + Int32.ofInt 1)), (0, .ref (G.1 8)), (1, .int l1), (2, .int l2)]) hC 3 dX5_differFor_45 rfl (by decide) rfl ?_
  refine cv_goto (tgt := 4) hC dX5_differFor_48 (by decide) ?_
  exact cv_sub [1, 2, 3, 0] rfl (hk4 l1 l2 (l3 + Int32.ofInt 1) σ)
set_option maxRecDepth 20000 in
set_option maxHeartbeats 2000000 in
theorem J_X5_differFor_b43 {X : cv_X} {G : cv_G} {LL : Launch} (hC : cv_C X G LL RX5 cX5_differFor 4 (some .boolean) { frames := 0, cells := 0, slots := 0, locals := 0 }) (k4 : Int32 → Int32 → Int32 → cv_St → Option (Int32 × cv_St)) (hk4 : ∀ (l1 : Int32) (l2 : Int32) (l3 : Int32)  σ, cv_J X G 4 0 0 (cv_QI X G) 4 [(0, .ref (G.1 8)), (1, .int l1), (2, .int l2), (3, .int l3)] [] σ (k4 l1 l2 l3 σ)) (l1 : Int32) (l3 : Int32) (σ : cv_St) : cv_J X G 4 0 0 (cv_QI X G) 43 [(0, .ref (G.1 8)), (1, .int l1), (3, .int l3)] [] σ (F_X5_differFor_b43 k4 l1 l3 σ) := by
  unfold F_X5_differFor_b43
  refine cv_iload_n hC 2 dX5_differFor_43 rfl rfl ?_
  refine cv_istore_n (lv' := [(2, .int l3), (0, .ref (G.1 8)), (1, .int l1), (3, .int l3)]) hC dX5_differFor_44 rfl (by decide) rfl ?_
  exact cv_sub [1, 2, 0, 3] rfl (J_X5_differFor_b45 hC k4 hk4 l1 l3 l3 σ)
set_option maxRecDepth 20000 in
set_option maxHeartbeats 2000000 in
theorem I_X5_differFor_b4 {X : cv_X} {G : cv_G} {LL : Launch} (hC : cv_C X G LL RX5 cX5_differFor 4 (some .boolean) { frames := 0, cells := 0, slots := 0, locals := 0 }) (k4 : Int32 → Int32 → Int32 → cv_St → Option (Int32 × cv_St)) (hk4 : ∀ (l1 : Int32) (l2 : Int32) (l3 : Int32)  σ, cv_J X G 4 0 0 (cv_QI X G) 4 [(0, .ref (G.1 8)), (1, .int l1), (2, .int l2), (3, .int l3)] [] σ (k4 l1 l2 l3 σ)) (l1 : Int32) (l2 : Int32) (l3 : Int32) (σ : cv_St) : cv_J X G 4 0 0 (cv_QI X G) 4 [(0, .ref (G.1 8)), (1, .int l1), (2, .int l2), (3, .int l3)] [] σ (B_X5_differFor_b4 k4 l1 l2 l3 σ) := by
  unfold B_X5_differFor_b4
  refine cv_iload_n hC 3 dX5_differFor_4 rfl rfl ?_
  refine cv_aload_n hC 0 dX5_differFor_5 rfl rfl ?_
  refine cv_geti hC (fg_X5_30_8 G) dX5_differFor_6 ?_
  refine cv_icmp_ge (tgt := 51) hC dX5_differFor_9 (by decide) ?_ ?_
  · refine cv_iconst (v := 0) hC dX5_differFor_51 cb_iconst_0 ?_
    exact cv_zret hC dX5_differFor_52
  · refine cv_aload_n hC 0 dX5_differFor_12 rfl rfl ?_
    refine cv_getr hC (fg_X5_18_8 G) dX5_differFor_13 ?_
    refine cv_iload_n hC 3 dX5_differFor_16 rfl rfl ?_
    refine cv_iald hC (cv_a34 G) dX5_differFor_17 (fun v1 => ?_)
    refine cv_iload_n hC 1 dX5_differFor_18 rfl rfl ?_
    refine cv_icmp_ne (tgt := 45) hC dX5_differFor_19 (by decide) ?_ ?_
    · exact cv_sub [0, 1, 2, 3] rfl (J_X5_differFor_b45 hC k4 hk4 l1 l2 l3 σ)
    · refine cv_iload_n hC 2 dX5_differFor_22 rfl rfl ?_
      refine cv_if_lt (tgt := 43) hC dX5_differFor_23 (by decide) ?_ ?_
      · exact cv_sub [0, 1, 3] rfl (J_X5_differFor_b43 hC k4 hk4 l1 l3 σ)
      · refine cv_aload_n hC 0 dX5_differFor_26 rfl rfl ?_
        refine cv_getr hC (fg_X5_21_8 G) dX5_differFor_27 ?_
        refine cv_iload_n hC 3 dX5_differFor_30 rfl rfl ?_
        refine cv_iald hC (cv_a35 G) dX5_differFor_31 (fun v2 => ?_)
        refine cv_aload_n hC 0 dX5_differFor_32 rfl rfl ?_
        refine cv_getr hC (fg_X5_21_8 G) dX5_differFor_33 ?_
        refine cv_iload_n hC 2 dX5_differFor_36 rfl rfl ?_
        refine cv_iald hC (cv_a35 G) dX5_differFor_37 (fun v3 => ?_)
        refine cv_icmp_eq (tgt := 43) hC dX5_differFor_38 (by decide) ?_ ?_
        · exact cv_sub [0, 1, 3] rfl (J_X5_differFor_b43 hC k4 hk4 l1 l3 σ)
        · refine cv_iconst (v := 1) hC dX5_differFor_41 cb_iconst_1 ?_
          exact cv_zret hC dX5_differFor_42
set_option maxRecDepth 20000 in
set_option maxHeartbeats 2000000 in
theorem J_X5_differFor_b4 {X : cv_X} {G : cv_G} {LL : Launch} (hC : cv_C X G LL RX5 cX5_differFor 4 (some .boolean) { frames := 0, cells := 0, slots := 0, locals := 0 }) : ∀ (n : Nat) (l1 : Int32) (l2 : Int32) (l3 : Int32) (σ : cv_St), cv_J X G 4 0 0 (cv_QI X G) 4 [(0, .ref (G.1 8)), (1, .int l1), (2, .int l2), (3, .int l3)] [] σ (F_X5_differFor_b4 n l1 l2 l3 σ) := by
  intro n
  induction n with
  | zero => intro l1 l2 l3 σ; exact cv_none
  | succ n ih => intro l1 l2 l3 σ; exact I_X5_differFor_b4 hC _ ih l1 l2 l3 σ
set_option maxRecDepth 20000 in
set_option maxHeartbeats 2000000 in
theorem J_X5_differFor {X : cv_X} {G : cv_G} {LL : Launch} (hC : cv_C X G LL RX5 cX5_differFor 4 (some .boolean) { frames := 0, cells := 0, slots := 0, locals := 0 }) (l1 : Int32) (σ : cv_St) : cv_J X G 4 0 0 (cv_QI X G) 0 [(0, .ref (G.1 8)), (1, .int l1)] [] σ (F_X5_differFor l1 σ) := by
  unfold F_X5_differFor
  refine cv_iconst (v := (-1)) hC dX5_differFor_0 cb_iconst_m1 ?_
  refine cv_istore_n (lv' := [(2, .int (-1)), (0, .ref (G.1 8)), (1, .int l1)]) hC dX5_differFor_1 rfl (by decide) rfl ?_
  refine cv_iconst (v := 0) hC dX5_differFor_2 cb_iconst_0 ?_
  refine cv_istore_n (lv' := [(3, .int 0), (2, .int (-1)), (0, .ref (G.1 8)), (1, .int l1)]) hC dX5_differFor_3 rfl (by decide) rfl ?_
  exact cv_sub [2, 3, 1, 0] rfl (J_X5_differFor_b4 hC 1000 l1 (-1) 0 σ)
set_option maxRecDepth 20000 in
set_option maxHeartbeats 2000000 in
theorem M_X5_differFor (LL : Launch) (G : cv_G) (l1 : Int32) (σ : cv_St) : cv_MI LL G yX5_differFor cX5_differFor 4 (some .boolean) 0 0 [.ref (G.1 8), .int l1] σ (F_X5_differFor l1 σ) :=
  cv_mkI (by decide) (Nat.le_of_ble_eq_true rfl) (fun X hC => J_X5_differFor hC l1 σ)
