def F_X8_contains (l0 : Int32) (l1 : Int32) (σ : cv_St) : Option (Int32 × cv_St) :=
  (if ((l0 >>> (l1 &&& 31)) &&& 1) = 0 then cv_rz 0 σ else cv_rz 1 σ)
def F_X2_follow_b99 (k16 : Int32 → Int32 → Int32 → Int32 → cv_St → Option (cv_St)) (l1 : Int32) (l2 : Int32) (l3 : Int32) (l4 : Int32) (σ : cv_St) : Option (cv_St) :=
  k16 l1 l2 l3 (l4 + Int32.ofInt 1) σ
def F_X2_follow_b97 (k16 : Int32 → Int32 → Int32 → Int32 → cv_St → Option (cv_St)) (l1 : Int32) (l2 : Int32) (l4 : Int32) (t0 : Int32) (t1 : Int32) (σ : cv_St) : Option (cv_St) :=
  F_X2_follow_b99 k16 l1 l2 (t1 ||| t0) l4 σ
def B_X2_follow_b16 (k16 : Int32 → Int32 → Int32 → Int32 → cv_St → Option (cv_St)) (l1 : Int32) (l2 : Int32) (l3 : Int32) (l4 : Int32) (σ : cv_St) : Option (cv_St) :=
  cv_ld σ 14 8 l1 (fun v3 => (if v3 ≤ l4 then cv_st σ 20 8 l1 l2 (fun s4 => cv_st s4 21 8 l1 l3 (fun s5 => some s5)) else cv_bi (F_X8_contains l2 l4 σ) (fun v7 s6 => (if v7 = 0 then F_X2_follow_b99 k16 l1 l2 l3 l4 s6 else cv_bi (F_X0_next l1 l4 s6) (fun v9 s8 => cv_bi (F_X0_other l1 l4 s8) (fun v11 s10 => cv_bi (F_X0_isCall l1 l4 s10) (fun v13 s12 => (if v13 = 0 then F_X2_follow_b97 k16 l1 (l2 ||| ((1 <<< (v9 &&& 31)) ||| (1 <<< (v11 &&& 31)))) l4 0 l3 s12 else cv_bi (F_X0_numberAt l1 l4 s12) (fun v15 s14 => F_X2_follow_b97 k16 l1 (l2 ||| ((1 <<< (v9 &&& 31)) ||| (1 <<< (v11 &&& 31)))) l4 (1 <<< (v15 &&& 31)) l3 s14)))))))))
def F_X2_follow_b16 : Nat → Int32 → Int32 → Int32 → Int32 → cv_St → Option (cv_St)
  | 0, _, _, _, _, _ => none
  | n + 1, l1, l2, l3, l4, σ => B_X2_follow_b16 (F_X2_follow_b16 n) l1 l2 l3 l4 σ
def F_X2_follow (l1 : Int32) (σ : cv_St) : Option (cv_St) :=
  cv_bi (F_X0_entry l1 σ) (fun v2 s1 => F_X2_follow_b16 1000 l1 (1 <<< (v2 &&& 31)) 0 0 s1)
def B_X2_infer_b2 (k2 : Int32 → cv_St → Option (cv_St)) (l1 : Int32) (σ : cv_St) : Option (cv_St) :=
  (if 8 ≤ l1 then some σ else cv_bv (F_X2_follow l1 σ) (fun s1 => k2 (l1 + Int32.ofInt 1) s1))
def F_X2_infer_b2 : Nat → Int32 → cv_St → Option (cv_St)
  | 0, _, _ => none
  | n + 1, l1, σ => B_X2_infer_b2 (F_X2_infer_b2 n) l1 σ
def F_X2_infer (σ : cv_St) : Option (cv_St) :=
  F_X2_infer_b2 1000 0 σ
def F_X2_reaches (l1 : Int32) (l2 : Int32) (σ : cv_St) : Option (Int32 × cv_St) :=
  cv_ld σ 20 8 l1 (fun v1 => cv_bi (F_X8_contains v1 l2 σ) (fun v3 s2 => cv_rz v3 s2))
def F_X2_callers_b29 (k4 : Int32 → Int32 → Int32 → cv_St → Option (Int32 × cv_St)) (l1 : Int32) (l2 : Int32) (l3 : Int32) (σ : cv_St) : Option (Int32 × cv_St) :=
  k4 l1 l2 (l3 + Int32.ofInt 1) σ
def B_X2_callers_b4 (k4 : Int32 → Int32 → Int32 → cv_St → Option (Int32 × cv_St)) (l1 : Int32) (l2 : Int32) (l3 : Int32) (σ : cv_St) : Option (Int32 × cv_St) :=
  (if 8 ≤ l3 then some (l2, σ) else cv_ld σ 21 8 l3 (fun v1 => cv_bi (F_X8_contains v1 l1 σ) (fun v3 s2 => (if v3 = 0 then F_X2_callers_b29 k4 l1 l2 l3 s2 else F_X2_callers_b29 k4 l1 (l2 ||| (1 <<< (l3 &&& 31))) l3 s2))))
def F_X2_callers_b4 : Nat → Int32 → Int32 → Int32 → cv_St → Option (Int32 × cv_St)
  | 0, _, _, _, _ => none
  | n + 1, l1, l2, l3, σ => B_X2_callers_b4 (F_X2_callers_b4 n) l1 l2 l3 σ
def F_X2_callers (l1 : Int32) (σ : cv_St) : Option (Int32 × cv_St) :=
  F_X2_callers_b4 1000 l1 0 0 σ
def F_X2_calledInAll_b50 (k9 : Int32 → Int32 → cv_St → Option (Int32 × cv_St)) (k21 : Int32 → Int32 → Int32 → Int32 → cv_St → Option (Int32 × cv_St)) (l2 : Int32) (l3 : Int32) (l5 : Int32) (t0 : Int32) (t1 : Int32) (σ : cv_St) : Option (Int32 × cv_St) :=
  k21 l2 l3 (t1 ||| t0) (l5 + Int32.ofInt 1) σ
def B_X2_calledInAll_b21 (k9 : Int32 → Int32 → cv_St → Option (Int32 × cv_St)) (k21 : Int32 → Int32 → Int32 → Int32 → cv_St → Option (Int32 × cv_St)) (l2 : Int32) (l3 : Int32) (l4 : Int32) (l5 : Int32) (σ : cv_St) : Option (Int32 × cv_St) :=
  (if 8 ≤ l5 then k9 l4 (l3 + Int32.ofInt 1) σ else cv_bi (F_X8_contains l2 l5 σ) (fun v3 s2 => (if v3 = 0 then F_X2_calledInAll_b50 k9 k21 l2 l3 l5 0 l4 s2 else cv_ld s2 21 8 l5 (fun v4 => F_X2_calledInAll_b50 k9 k21 l2 l3 l5 v4 l4 s2))))
def F_X2_calledInAll_b21 (k9 : Int32 → Int32 → cv_St → Option (Int32 × cv_St)) : Nat → Int32 → Int32 → Int32 → Int32 → cv_St → Option (Int32 × cv_St)
  | 0, _, _, _, _, _ => none
  | n + 1, l2, l3, l4, l5, σ => B_X2_calledInAll_b21 k9 (F_X2_calledInAll_b21 k9 n) l2 l3 l4 l5 σ
def B_X2_calledInAll_b9 (k9 : Int32 → Int32 → cv_St → Option (Int32 × cv_St)) (l2 : Int32) (l3 : Int32) (σ : cv_St) : Option (Int32 × cv_St) :=
  (if 8 ≤ l3 then some (l2, σ) else F_X2_calledInAll_b21 k9 1000 l2 l3 l2 0 σ)
def F_X2_calledInAll_b9 : Nat → Int32 → Int32 → cv_St → Option (Int32 × cv_St)
  | 0, _, _, _ => none
  | n + 1, l2, l3, σ => B_X2_calledInAll_b9 (F_X2_calledInAll_b9 n) l2 l3 σ
def F_X2_calledInAll (l1 : Int32) (σ : cv_St) : Option (Int32 × cv_St) :=
  cv_ld σ 21 8 l1 (fun v1 => F_X2_calledInAll_b9 1000 v1 1 σ)
def F_X7_clobbered (l1 : Int32) (σ : cv_St) : Option (Int32 × cv_St) :=
  cv_ld σ 23 8 l1 (fun v1 => some ((255 &&& (v1 ^^^ (-1))), σ))
def F_X7_merge_b77 (k19 : Int32 → Int32 → Int32 → cv_St → Option (cv_St)) (l1 : Int32) (l2 : Int32) (l3 : Int32) (σ : cv_St) : Option (cv_St) :=
  k19 l1 l2 (l3 + Int32.ofInt 1) σ
def B_X7_merge_b19 (k19 : Int32 → Int32 → Int32 → cv_St → Option (cv_St)) (l1 : Int32) (l2 : Int32) (l3 : Int32) (σ : cv_St) : Option (cv_St) :=
  (if 14 ≤ l3 then cv_pui σ 6 ((σ.2.1 6) ||| (1 <<< (l1 &&& 31))) (fun s3 => some s3) else (if l2 = 0 then cv_ld σ 25 210 ((l1 * 14) + l3) (fun v4 => cv_ld σ 26 14 l3 (fun v5 => (if v4 = v5 then F_X7_merge_b77 k19 l1 l2 l3 σ else cv_st σ 25 210 ((l1 * 14) + l3) (-1) (fun s6 => F_X7_merge_b77 k19 l1 l2 l3 s6)))) else cv_ld σ 26 14 l3 (fun v7 => cv_st σ 25 210 ((l1 * 14) + l3) v7 (fun s8 => F_X7_merge_b77 k19 l1 l2 l3 s8))))
def F_X7_merge_b19 : Nat → Int32 → Int32 → Int32 → cv_St → Option (cv_St)
  | 0, _, _, _, _ => none
  | n + 1, l1, l2, l3, σ => B_X7_merge_b19 (F_X7_merge_b19 n) l1 l2 l3 σ
def F_X7_merge_b16 (l1 : Int32) (t0 : Int32) (σ : cv_St) : Option (cv_St) :=
  F_X7_merge_b19 1000 l1 t0 0 σ
def F_X7_merge (l1 : Int32) (σ : cv_St) : Option (cv_St) :=
  cv_bi (F_X8_contains (σ.2.1 6) l1 σ) (fun v2 s1 => (if v2 = 0 then F_X7_merge_b16 l1 1 s1 else F_X7_merge_b16 l1 0 s1))
def F_X7_forget_b23 (k2 : Int32 → Int32 → cv_St → Option (cv_St)) (l1 : Int32) (l2 : Int32) (σ : cv_St) : Option (cv_St) :=
  k2 l1 (l2 + Int32.ofInt 1) σ
def B_X7_forget_b2 (k2 : Int32 → Int32 → cv_St → Option (cv_St)) (l1 : Int32) (l2 : Int32) (σ : cv_St) : Option (cv_St) :=
  (if 8 ≤ l2 then some σ else cv_bi (F_X8_contains l1 l2 σ) (fun v2 s1 => (if v2 = 0 then F_X7_forget_b23 k2 l1 l2 s1 else cv_st s1 26 14 l2 (-1) (fun s3 => F_X7_forget_b23 k2 l1 l2 s3))))
def F_X7_forget_b2 : Nat → Int32 → Int32 → cv_St → Option (cv_St)
  | 0, _, _, _ => none
  | n + 1, l1, l2, σ => B_X7_forget_b2 (F_X7_forget_b2 n) l1 l2 σ
def F_X7_forget (l1 : Int32) (σ : cv_St) : Option (cv_St) :=
  F_X7_forget_b2 1000 l1 0 σ
def F_X7_step_b146 (l3 : Int32) (l4 : Int32) (σ : cv_St) : Option (cv_St) :=
  (if l3 = 99 then cv_bi (F_X7_clobbered l4 σ) (fun v7 s6 => cv_bv (F_X7_forget v7 s6) (fun s8 => some s8)) else some σ)
def F_X7_step_b113 (l3 : Int32) (l4 : Int32) (l5 : Int32) (σ : cv_St) : Option (cv_St) :=
  (if l3 = 45 then (if l5 ≤ 0 then F_X7_step_b146 l3 l4 σ else cv_ld σ 26 14 ((8 + l5) - 1) (fun v9 => cv_st σ 26 14 l4 v9 (fun s10 => some s10))) else F_X7_step_b146 l3 l4 σ)
def F_X7_step (l1 : Int32) (l2 : Int32) (σ : cv_St) : Option (cv_St) :=
  cv_bi (F_X0_kindAt l1 l2 σ) (fun v2 s1 => cv_bi (F_X0_numberAt l1 l2 s1) (fun v4 s3 => cv_ld s3 24 120 ((l1 * 15) + l2) (fun v5 => (if v2 = 100 then cv_st s3 26 14 v4 (-1) (fun s15 => some s15) else (if v2 = 109 then cv_ld s3 26 14 (v4 - v4 / 10 * 10) (fun v13 => cv_st s3 26 14 (v4 / 10) v13 (fun s14 => some s14)) else (if v2 = 43 then (if 6 ≤ v5 then F_X7_step_b113 v2 v4 v5 s3 else cv_ld s3 26 14 v4 (fun v11 => cv_st s3 26 14 (8 + v5) v11 (fun s12 => some s12))) else F_X7_step_b113 v2 v4 v5 s3))))))
def F_X7_keptBy_b173 (k147 : Int32 → Int32 → cv_St → Option (Int32 × cv_St)) (l2 : Int32) (l3 : Int32) (σ : cv_St) : Option (Int32 × cv_St) :=
  k147 l2 (l3 + Int32.ofInt 1) σ
def B_X7_keptBy_b147 (k147 : Int32 → Int32 → cv_St → Option (Int32 × cv_St)) (l2 : Int32) (l3 : Int32) (σ : cv_St) : Option (Int32 × cv_St) :=
  (if 8 ≤ l3 then some (l2, σ) else cv_ld σ 25 210 (196 + l3) (fun v6 => (if v6 = l3 then F_X7_keptBy_b173 k147 (l2 ||| (1 <<< (l3 &&& 31))) l3 σ else F_X7_keptBy_b173 k147 l2 l3 σ)))
def F_X7_keptBy_b147 : Nat → Int32 → Int32 → cv_St → Option (Int32 × cv_St)
  | 0, _, _, _ => none
  | n + 1, l2, l3, σ => B_X7_keptBy_b147 (F_X7_keptBy_b147 n) l2 l3 σ
def F_X7_keptBy_b137 (k50 : Int32 → Int32 → cv_St → Option (Int32 × cv_St)) (l1 : Int32) (l2 : Int32) (σ : cv_St) : Option (Int32 × cv_St) :=
  k50 l1 (l2 + Int32.ofInt 1) σ
def B_X7_keptBy_b50 (k50 : Int32 → Int32 → cv_St → Option (Int32 × cv_St)) (l1 : Int32) (l2 : Int32) (σ : cv_St) : Option (Int32 × cv_St) :=
  cv_ld σ 14 8 l1 (fun v5 => (if v5 ≤ l2 then F_X7_keptBy_b147 1000 0 0 σ else cv_bi (F_X2_reaches l1 l2 σ) (fun v8 s7 => (if v8 = 0 then F_X7_keptBy_b137 k50 l1 l2 s7 else cv_cp s7 25 210 26 14 (l2 * 14) 0 14 (fun s9 => cv_bv (F_X7_step l1 l2 s9) (fun s10 => cv_bi (F_X0_next l1 l2 s10) (fun v12 s11 => cv_bi (F_X0_other l1 l2 s11) (fun v14 s13 => cv_bv (F_X7_merge v12 s13) (fun s15 => (if v14 = v12 then F_X7_keptBy_b137 k50 l1 l2 s15 else cv_bv (F_X7_merge v14 s15) (fun s16 => F_X7_keptBy_b137 k50 l1 l2 s16)))))))))))
def F_X7_keptBy_b50 : Nat → Int32 → Int32 → cv_St → Option (Int32 × cv_St)
  | 0, _, _, _ => none
  | n + 1, l1, l2, σ => B_X7_keptBy_b50 (F_X7_keptBy_b50 n) l1 l2 σ
def F_X7_keptBy_b24 (k2 : Int32 → Int32 → cv_St → Option (Int32 × cv_St)) (l1 : Int32) (l2 : Int32) (t0 : Int32) (t1 : Int32) (σ : cv_St) : Option (Int32 × cv_St) :=
  cv_st σ 26 14 t1 t0 (fun s17 => k2 l1 (l2 + Int32.ofInt 1) s17)
def B_X7_keptBy_b2 (k2 : Int32 → Int32 → cv_St → Option (Int32 × cv_St)) (l1 : Int32) (l2 : Int32) (σ : cv_St) : Option (Int32 × cv_St) :=
  (if 14 ≤ l2 then cv_pui σ 6 0 (fun s1 => cv_bi (F_X0_entry l1 s1) (fun v3 s2 => cv_bv (F_X7_merge v3 s2) (fun s4 => F_X7_keptBy_b50 1000 l1 0 s4))) else (if 8 ≤ l2 then F_X7_keptBy_b24 k2 l1 l2 (-1) l2 σ else F_X7_keptBy_b24 k2 l1 l2 l2 l2 σ))
def F_X7_keptBy_b2 : Nat → Int32 → Int32 → cv_St → Option (Int32 × cv_St)
  | 0, _, _, _ => none
  | n + 1, l1, l2, σ => B_X7_keptBy_b2 (F_X7_keptBy_b2 n) l1 l2 σ
def F_X7_keptBy (l1 : Int32) (σ : cv_St) : Option (Int32 × cv_St) :=
  F_X7_keptBy_b2 1000 l1 0 σ
def F_X7_growth (l0 : Int32) (σ : cv_St) : Option (Int32 × cv_St) :=
  (if l0 = 43 then some (1, σ) else (if l0 = 45 then some ((-1), σ) else some (0, σ)))
def F_X7_agrees_b17 (l1 : Int32) (l2 : Int32) (σ : cv_St) : Option (Int32 × cv_St) :=
  cv_ld σ 24 120 l1 (fun v2 => (if v2 = l2 then cv_rz 1 σ else cv_rz 0 σ))
def F_X7_agrees (l1 : Int32) (l2 : Int32) (σ : cv_St) : Option (Int32 × cv_St) :=
  cv_ld σ 24 120 l1 (fun v1 => (if v1 = (-1) then cv_st σ 24 120 l1 l2 (fun s3 => F_X7_agrees_b17 l1 l2 s3) else F_X7_agrees_b17 l1 l2 σ))
def F_X7_measure_b148 (k46 : Int32 → Int32 → Int32 → cv_St → Option (Int32 × cv_St)) (l1 : Int32) (l2 : Int32) (l3 : Int32) (σ : cv_St) : Option (Int32 × cv_St) :=
  k46 l1 l2 (l3 + Int32.ofInt 1) σ
def B_X7_measure_b46 (k46 : Int32 → Int32 → Int32 → cv_St → Option (Int32 × cv_St)) (l1 : Int32) (l2 : Int32) (l3 : Int32) (σ : cv_St) : Option (Int32 × cv_St) :=
  cv_ld σ 14 8 l1 (fun v4 => (if v4 ≤ l3 then cv_ld σ 24 120 (l2 + 14) (fun v5 => (if v5 = 0 then cv_rz 1 σ else cv_rz 0 σ)) else cv_ld σ 24 120 (l2 + l3) (fun v6 => (if v6 = (-1) then F_X7_measure_b148 k46 l1 l2 l3 σ else cv_ld σ 24 120 (l2 + l3) (fun v7 => cv_bi (F_X0_kindAt l1 l3 σ) (fun v9 s8 => cv_bi (F_X7_growth v9 s8) (fun v11 s10 => (if (v7 + v11) < 0 then cv_rz 0 s10 else (if 6 < (v7 + v11) then cv_rz 0 s10 else cv_bi (F_X0_next l1 l3 s10) (fun v13 s12 => cv_bi (F_X7_agrees (l2 + v13) (v7 + v11) s12) (fun v15 s14 => (if v15 = 0 then cv_rz 0 s14 else cv_bi (F_X0_other l1 l3 s14) (fun v17 s16 => cv_bi (F_X7_agrees (l2 + v17) (v7 + v11) s16) (fun v19 s18 => (if v19 = 0 then cv_rz 0 s18 else F_X7_measure_b148 k46 l1 l2 l3 s18)))))))))))))))
def F_X7_measure_b46 : Nat → Int32 → Int32 → Int32 → cv_St → Option (Int32 × cv_St)
  | 0, _, _, _, _ => none
  | n + 1, l1, l2, l3, σ => B_X7_measure_b46 (F_X7_measure_b46 n) l1 l2 l3 σ
def B_X7_measure_b7 (k7 : Int32 → Int32 → Int32 → cv_St → Option (Int32 × cv_St)) (l1 : Int32) (l2 : Int32) (l3 : Int32) (σ : cv_St) : Option (Int32 × cv_St) :=
  (if 15 ≤ l3 then cv_bi (F_X0_entry l1 σ) (fun v2 s1 => cv_st s1 24 120 (l2 + v2) 0 (fun s3 => F_X7_measure_b46 1000 l1 l2 0 s3)) else cv_st σ 24 120 (l2 + l3) (-1) (fun s20 => k7 l1 l2 (l3 + Int32.ofInt 1) s20))
def F_X7_measure_b7 : Nat → Int32 → Int32 → Int32 → cv_St → Option (Int32 × cv_St)
  | 0, _, _, _, _ => none
  | n + 1, l1, l2, l3, σ => B_X7_measure_b7 (F_X7_measure_b7 n) l1 l2 l3 σ
def F_X7_measure (l1 : Int32) (σ : cv_St) : Option (Int32 × cv_St) :=
  F_X7_measure_b7 1000 l1 (l1 * 15) 0 σ
def F_X7_infer_b112 (k51 : Int32 → Int32 → cv_St → Option (cv_St)) (k65 : Int32 → Int32 → Int32 → cv_St → Option (cv_St)) (l1 : Int32) (l2 : Int32) (l3 : Int32) (σ : cv_St) : Option (cv_St) :=
  k65 l1 l2 (l3 + Int32.ofInt 1) σ
def F_X7_infer_b89 (k51 : Int32 → Int32 → cv_St → Option (cv_St)) (k65 : Int32 → Int32 → Int32 → cv_St → Option (cv_St)) (l1 : Int32) (l2 : Int32) (l3 : Int32) (t0 : Int32) (σ : cv_St) : Option (cv_St) :=
  cv_ld σ 23 8 l3 (fun v2 => (if t0 = v2 then F_X7_infer_b112 k51 k65 l1 l2 l3 σ else cv_st σ 23 8 l3 t0 (fun s3 => F_X7_infer_b112 k51 k65 1 l2 l3 s3)))
def B_X7_infer_b65 (k51 : Int32 → Int32 → cv_St → Option (cv_St)) (k65 : Int32 → Int32 → Int32 → cv_St → Option (cv_St)) (l1 : Int32) (l2 : Int32) (l3 : Int32) (σ : cv_St) : Option (cv_St) :=
  (if 8 ≤ l3 then k51 l1 (l2 + Int32.ofInt 1) σ else cv_ld σ 22 8 l3 (fun v1 => (if v1 = 0 then F_X7_infer_b89 k51 k65 l1 l2 l3 0 σ else cv_bi (F_X7_keptBy l3 σ) (fun v5 s4 => F_X7_infer_b89 k51 k65 l1 l2 l3 v5 s4))))
def F_X7_infer_b65 (k51 : Int32 → Int32 → cv_St → Option (cv_St)) : Nat → Int32 → Int32 → Int32 → cv_St → Option (cv_St)
  | 0, _, _, _, _ => none
  | n + 1, l1, l2, l3, σ => B_X7_infer_b65 k51 (F_X7_infer_b65 k51 n) l1 l2 l3 σ
def B_X7_infer_b51 (k51 : Int32 → Int32 → cv_St → Option (cv_St)) (l1 : Int32) (l2 : Int32) (σ : cv_St) : Option (cv_St) :=
  (if l1 = 0 then some σ else (if 64 < l2 then some σ else F_X7_infer_b65 k51 1000 0 l2 0 σ))
def F_X7_infer_b51 : Nat → Int32 → Int32 → cv_St → Option (cv_St)
  | 0, _, _, _ => none
  | n + 1, l1, l2, σ => B_X7_infer_b51 (F_X7_infer_b51 n) l1 l2 σ
def F_X7_infer_b40 (k2 : Int32 → cv_St → Option (cv_St)) (l1 : Int32) (t0 : Int32) (t1 : Int32) (σ : cv_St) : Option (cv_St) :=
  cv_st σ 23 8 t1 t0 (fun s10 => k2 (l1 + Int32.ofInt 1) s10)
def B_X7_infer_b2 (k2 : Int32 → cv_St → Option (cv_St)) (l1 : Int32) (σ : cv_St) : Option (cv_St) :=
  (if 8 ≤ l1 then F_X7_infer_b51 1000 1 0 σ else cv_bi (F_X7_measure l1 σ) (fun v7 s6 => cv_st s6 22 8 l1 (vp_nar .boolean v7) (fun s8 => cv_ld s8 22 8 l1 (fun v9 => (if v9 = 0 then F_X7_infer_b40 k2 l1 0 l1 s8 else F_X7_infer_b40 k2 l1 255 l1 s8)))))
def F_X7_infer_b2 : Nat → Int32 → cv_St → Option (cv_St)
  | 0, _, _ => none
  | n + 1, l1, σ => B_X7_infer_b2 (F_X7_infer_b2 n) l1 σ
def F_X7_infer (σ : cv_St) : Option (cv_St) :=
  F_X7_infer_b2 1000 0 σ
/-! X8_contains -/
set_option maxRecDepth 20000 in
set_option maxHeartbeats 2000000 in
theorem J_X8_contains {X : cv_X} {G : cv_G} {LL : Launch} (hC : cv_C X G LL RX8 cX8_contains 2 (some .boolean) { frames := 0, cells := 0, slots := 0, locals := 0 }) (l0 : Int32) (l1 : Int32) (σ : cv_St) : cv_J X G 2 0 0 (cv_QI X G) 0 [(0, .int l0), (1, .int l1)] [] σ (F_X8_contains l0 l1 σ) := by
  unfold F_X8_contains
  refine cv_iload_n hC 0 dX8_contains_0 rfl rfl ?_
  refine cv_iload_n hC 1 dX8_contains_1 rfl rfl ?_
  refine cv_ishr hC dX8_contains_2 ?_
  refine cv_iconst (v := 1) hC dX8_contains_3 cb_iconst_1 ?_
  refine cv_iand hC dX8_contains_4 ?_
  refine cv_if_eq (tgt := 12) hC dX8_contains_5 (by decide) ?_ ?_
  · refine cv_iconst (v := 0) hC dX8_contains_12 cb_iconst_0 ?_
    exact cv_zret hC dX8_contains_13
  · refine cv_iconst (v := 1) hC dX8_contains_8 cb_iconst_1 ?_
    refine cv_goto (tgt := 13) hC dX8_contains_9 (by decide) ?_
    exact cv_zret hC dX8_contains_13
set_option maxRecDepth 20000 in
set_option maxHeartbeats 2000000 in
theorem M_X8_contains (LL : Launch) (G : cv_G) (l0 : Int32) (l1 : Int32) (σ : cv_St) : cv_MI LL G yX8_contains cX8_contains 2 (some .boolean) 0 0 [.int l0, .int l1] σ (F_X8_contains l0 l1 σ) :=
  cv_mkI (by decide) (Nat.le_of_ble_eq_true rfl) (fun X hC => J_X8_contains hC l0 l1 σ)
/-! X2_follow -/
set_option maxRecDepth 20000 in
set_option maxHeartbeats 2000000 in
theorem J_X2_follow_b99 {X : cv_X} {G : cv_G} {LL : Launch} (hC : cv_C X G LL RX2 cX2_follow 5 none { frames := 2, cells := 0, slots := 0, locals := 48 }) (k16 : Int32 → Int32 → Int32 → Int32 → cv_St → Option (cv_St)) (hk16 : ∀ (l1 : Int32) (l2 : Int32) (l3 : Int32) (l4 : Int32)  σ, cv_J X G 5 0 0 (cv_QV X G) 16 [(0, .ref (G.1 4)), (1, .int l1), (2, .int l2), (3, .int l3), (4, .int l4)] [] σ (k16 l1 l2 l3 l4 σ)) (l1 : Int32) (l2 : Int32) (l3 : Int32) (l4 : Int32) (σ : cv_St) : cv_J X G 5 0 0 (cv_QV X G) 99 [(0, .ref (G.1 4)), (1, .int l1), (2, .int l2), (3, .int l3), (4, .int l4)] [] σ (F_X2_follow_b99 k16 l1 l2 l3 l4 σ) := by
  unfold F_X2_follow_b99
  refine cv_iinc (lv' := [(4, .int (l4 + Int32.ofInt 1)), (0, .ref (G.1 4)), (1, .int l1), (2, .int l2), (3, .int l3)]) hC 4 dX2_follow_99 rfl (by decide) rfl ?_
  refine cv_goto (tgt := 16) hC dX2_follow_102 (by decide) ?_
  exact cv_sub [1, 2, 3, 4, 0] rfl (hk16 l1 l2 l3 (l4 + Int32.ofInt 1) σ)
set_option maxRecDepth 20000 in
set_option maxHeartbeats 2000000 in
theorem J_X2_follow_b97 {X : cv_X} {G : cv_G} {LL : Launch} (hC : cv_C X G LL RX2 cX2_follow 5 none { frames := 2, cells := 0, slots := 0, locals := 48 }) (k16 : Int32 → Int32 → Int32 → Int32 → cv_St → Option (cv_St)) (hk16 : ∀ (l1 : Int32) (l2 : Int32) (l3 : Int32) (l4 : Int32)  σ, cv_J X G 5 0 0 (cv_QV X G) 16 [(0, .ref (G.1 4)), (1, .int l1), (2, .int l2), (3, .int l3), (4, .int l4)] [] σ (k16 l1 l2 l3 l4 σ)) (l1 : Int32) (l2 : Int32) (l4 : Int32) (t0 : Int32) (t1 : Int32) (σ : cv_St) : cv_J X G 5 0 0 (cv_QV X G) 97 [(0, .ref (G.1 4)), (1, .int l1), (2, .int l2), (4, .int l4)] [.int t0, .int t1] σ (F_X2_follow_b97 k16 l1 l2 l4 t0 t1 σ) := by
  unfold F_X2_follow_b97
  refine cv_ior hC dX2_follow_97 ?_
  refine cv_istore_n (lv' := [(3, .int (t1 ||| t0)), (0, .ref (G.1 4)), (1, .int l1), (2, .int l2), (4, .int l4)]) hC dX2_follow_98 rfl (by decide) rfl ?_
  exact cv_sub [1, 2, 3, 0, 4] rfl (J_X2_follow_b99 hC k16 hk16 l1 l2 (t1 ||| t0) l4 σ)
set_option maxRecDepth 20000 in
set_option maxHeartbeats 2000000 in
theorem I_X2_follow_b16 {X : cv_X} {G : cv_G} {LL : Launch} (hC : cv_C X G LL RX2 cX2_follow 5 none { frames := 2, cells := 0, slots := 0, locals := 48 }) (k16 : Int32 → Int32 → Int32 → Int32 → cv_St → Option (cv_St)) (hk16 : ∀ (l1 : Int32) (l2 : Int32) (l3 : Int32) (l4 : Int32)  σ, cv_J X G 5 0 0 (cv_QV X G) 16 [(0, .ref (G.1 4)), (1, .int l1), (2, .int l2), (3, .int l3), (4, .int l4)] [] σ (k16 l1 l2 l3 l4 σ)) (l1 : Int32) (l2 : Int32) (l3 : Int32) (l4 : Int32) (σ : cv_St) : cv_J X G 5 0 0 (cv_QV X G) 16 [(0, .ref (G.1 4)), (1, .int l1), (2, .int l2), (3, .int l3), (4, .int l4)] [] σ (B_X2_follow_b16 k16 l1 l2 l3 l4 σ) := by
  unfold B_X2_follow_b16
  refine cv_iload hC 4 dX2_follow_16 rfl ?_
  refine cv_aload_n hC 0 dX2_follow_18 rfl rfl ?_
  refine cv_getr hC (fg_X2_18_4 G) dX2_follow_19 ?_
  refine cv_getr hC (fg_X2_32_2 G) dX2_follow_22 ?_
  refine cv_iload_n hC 1 dX2_follow_25 rfl rfl ?_
  refine cv_iald hC (cv_a14 G) dX2_follow_26 (fun v3 => ?_)
  refine cv_icmp_ge (tgt := 105) hC dX2_follow_27 (by decide) ?_ ?_
  · refine cv_aload_n hC 0 dX2_follow_105 rfl rfl ?_
    refine cv_getr hC (fg_X2_9_4 G) dX2_follow_106 ?_
    refine cv_iload_n hC 1 dX2_follow_109 rfl rfl ?_
    refine cv_iload_n hC 2 dX2_follow_110 rfl rfl ?_
    refine cv_iast hC (cv_a20 G) dX2_follow_111 (fun s4 => ?_)
    refine cv_aload_n hC 0 dX2_follow_112 rfl rfl ?_
    refine cv_getr hC (fg_X2_15_4 G) dX2_follow_113 ?_
    refine cv_iload_n hC 1 dX2_follow_116 rfl rfl ?_
    refine cv_iload_n hC 3 dX2_follow_117 rfl rfl ?_
    refine cv_iast hC (cv_a21 G) dX2_follow_118 (fun s5 => ?_)
    exact cv_vret hC dX2_follow_119
  · refine cv_iload_n hC 2 dX2_follow_30 rfl rfl ?_
    refine cv_iload hC 4 dX2_follow_31 rfl ?_
    refine cv_callNi hC [.int l2, .int l4] [] (M_X8_contains LL G l2 l4 σ) (fun _ h => h.1) vm_X8_contains rfl rfl (Nat.le_of_ble_eq_true rfl) ⟨Nat.le_of_ble_eq_true rfl, Nat.le_of_ble_eq_true rfl⟩ ⟨Nat.le_of_ble_eq_true rfl, Nat.le_of_ble_eq_true rfl⟩ dX2_follow_33 (fun v7 s6 => ?_)
    refine cv_if_eq (tgt := 99) hC dX2_follow_36 (by decide) ?_ ?_
    · exact cv_sub [0, 1, 2, 3, 4] rfl (J_X2_follow_b99 hC k16 hk16 l1 l2 l3 l4 s6)
    · refine cv_iload_n hC 2 dX2_follow_39 rfl rfl ?_
      refine cv_iconst (v := 1) hC dX2_follow_40 cb_iconst_1 ?_
      refine cv_aload_n hC 0 dX2_follow_41 rfl rfl ?_
      refine cv_getr hC (fg_X2_18_4 G) dX2_follow_42 ?_
      refine cv_iload_n hC 1 dX2_follow_45 rfl rfl ?_
      refine cv_iload hC 4 dX2_follow_46 rfl ?_
      refine cv_callVi (ob := 2) hC [.int l1, .int l4] [.int 1, .int l2] (M_X0_next LL G l1 l4 s6) ln_X2_39 vm_X0_next (ob_2 G) rfl rfl (Nat.le_of_ble_eq_true rfl) ⟨Nat.le_of_ble_eq_true rfl, Nat.le_of_ble_eq_true rfl⟩ ⟨Nat.le_of_ble_eq_true rfl, Nat.le_of_ble_eq_true rfl⟩ dX2_follow_48 (fun v9 s8 => ?_)
      refine cv_ishl hC dX2_follow_51 ?_
      refine cv_iconst (v := 1) hC dX2_follow_52 cb_iconst_1 ?_
      refine cv_aload_n hC 0 dX2_follow_53 rfl rfl ?_
      refine cv_getr hC (fg_X2_18_4 G) dX2_follow_54 ?_
      refine cv_iload_n hC 1 dX2_follow_57 rfl rfl ?_
      refine cv_iload hC 4 dX2_follow_58 rfl ?_
      refine cv_callVi (ob := 2) hC [.int l1, .int l4] [.int 1, .int (1 <<< (v9 &&& 31)), .int l2] (M_X0_other LL G l1 l4 s8) ln_X2_43 vm_X0_other (ob_2 G) rfl rfl (Nat.le_of_ble_eq_true rfl) ⟨Nat.le_of_ble_eq_true rfl, Nat.le_of_ble_eq_true rfl⟩ ⟨Nat.le_of_ble_eq_true rfl, Nat.le_of_ble_eq_true rfl⟩ dX2_follow_60 (fun v11 s10 => ?_)
      refine cv_ishl hC dX2_follow_63 ?_
      refine cv_ior hC dX2_follow_64 ?_
      refine cv_ior hC dX2_follow_65 ?_
      refine cv_istore_n (lv' := [(2, .int (l2 ||| ((1 <<< (v9 &&& 31)) ||| (1 <<< (v11 &&& 31))))), (0, .ref (G.1 4)), (1, .int l1), (3, .int l3), (4, .int l4)]) hC dX2_follow_66 rfl (by decide) rfl ?_
      refine cv_iload_n hC 3 dX2_follow_67 rfl rfl ?_
      refine cv_aload_n hC 1 dX2_follow_68 rfl rfl ?_
      refine cv_getr hC (fg_X2_18_4 G) dX2_follow_69 ?_
      refine cv_iload_n hC 2 dX2_follow_72 rfl rfl ?_
      refine cv_iload hC 4 dX2_follow_73 rfl ?_
      refine cv_callVi (ob := 2) hC [.int l1, .int l4] [.int l3] (M_X0_isCall LL G l1 l4 s10) ln_X2_46 vm_X0_isCall (ob_2 G) rfl rfl (Nat.le_of_ble_eq_true rfl) ⟨Nat.le_of_ble_eq_true rfl, Nat.le_of_ble_eq_true rfl⟩ ⟨Nat.le_of_ble_eq_true rfl, Nat.le_of_ble_eq_true rfl⟩ dX2_follow_75 (fun v13 s12 => ?_)
      refine cv_if_eq (tgt := 96) hC dX2_follow_78 (by decide) ?_ ?_
      · refine cv_iconst (v := 0) hC dX2_follow_96 cb_iconst_0 ?_
        exact cv_sub [1, 2, 0, 4] rfl (J_X2_follow_b97 hC k16 hk16 l1 (l2 ||| ((1 <<< (v9 &&& 31)) ||| (1 <<< (v11 &&& 31)))) l4 0 l3 s12)
      · refine cv_iconst (v := 1) hC dX2_follow_81 cb_iconst_1 ?_
        refine cv_aload_n hC 1 dX2_follow_82 rfl rfl ?_
        refine cv_getr hC (fg_X2_18_4 G) dX2_follow_83 ?_
        refine cv_iload_n hC 2 dX2_follow_86 rfl rfl ?_
        refine cv_iload hC 4 dX2_follow_87 rfl ?_
        refine cv_callVi (ob := 2) hC [.int l1, .int l4] [.int 1, .int l3] (M_X0_numberAt LL G l1 l4 s12) ln_X2_49 vm_X0_numberAt (ob_2 G) rfl rfl (Nat.le_of_ble_eq_true rfl) ⟨Nat.le_of_ble_eq_true rfl, Nat.le_of_ble_eq_true rfl⟩ ⟨Nat.le_of_ble_eq_true rfl, Nat.le_of_ble_eq_true rfl⟩ dX2_follow_89 (fun v15 s14 => ?_)
        refine cv_ishl hC dX2_follow_92 ?_
        refine cv_goto (tgt := 97) hC dX2_follow_93 (by decide) ?_
        exact cv_sub [1, 2, 0, 4] rfl (J_X2_follow_b97 hC k16 hk16 l1 (l2 ||| ((1 <<< (v9 &&& 31)) ||| (1 <<< (v11 &&& 31)))) l4 (1 <<< (v15 &&& 31)) l3 s14)
set_option maxRecDepth 20000 in
set_option maxHeartbeats 2000000 in
theorem J_X2_follow_b16 {X : cv_X} {G : cv_G} {LL : Launch} (hC : cv_C X G LL RX2 cX2_follow 5 none { frames := 2, cells := 0, slots := 0, locals := 48 }) : ∀ (n : Nat) (l1 : Int32) (l2 : Int32) (l3 : Int32) (l4 : Int32) (σ : cv_St), cv_J X G 5 0 0 (cv_QV X G) 16 [(0, .ref (G.1 4)), (1, .int l1), (2, .int l2), (3, .int l3), (4, .int l4)] [] σ (F_X2_follow_b16 n l1 l2 l3 l4 σ) := by
  intro n
  induction n with
  | zero => intro l1 l2 l3 l4 σ; exact cv_none
  | succ n ih => intro l1 l2 l3 l4 σ; exact I_X2_follow_b16 hC _ ih l1 l2 l3 l4 σ
set_option maxRecDepth 20000 in
set_option maxHeartbeats 2000000 in
theorem J_X2_follow {X : cv_X} {G : cv_G} {LL : Launch} (hC : cv_C X G LL RX2 cX2_follow 5 none { frames := 2, cells := 0, slots := 0, locals := 48 }) (l1 : Int32) (σ : cv_St) : cv_J X G 5 0 0 (cv_QV X G) 0 [(0, .ref (G.1 4)), (1, .int l1)] [] σ (F_X2_follow l1 σ) := by
  unfold F_X2_follow
  refine cv_iconst (v := 1) hC dX2_follow_0 cb_iconst_1 ?_
  refine cv_aload_n hC 0 dX2_follow_1 rfl rfl ?_
  refine cv_getr hC (fg_X2_18_4 G) dX2_follow_2 ?_
  refine cv_iload_n hC 1 dX2_follow_5 rfl rfl ?_
  refine cv_callVi (ob := 2) hC [.int l1] [.int 1] (M_X0_entry LL G l1 σ) ln_X2_26 vm_X0_entry (ob_2 G) rfl rfl (Nat.le_of_ble_eq_true rfl) ⟨Nat.le_of_ble_eq_true rfl, Nat.le_of_ble_eq_true rfl⟩ ⟨Nat.le_of_ble_eq_true rfl, Nat.le_of_ble_eq_true rfl⟩ dX2_follow_6 (fun v2 s1 => ?_)
  refine cv_ishl hC dX2_follow_9 ?_
  refine cv_istore_n (lv' := [(2, .int (1 <<< (v2 &&& 31))), (0, .ref (G.1 4)), (1, .int l1)]) hC dX2_follow_10 rfl (by decide) rfl ?_
  refine cv_iconst (v := 0) hC dX2_follow_11 cb_iconst_0 ?_
  refine cv_istore_n (lv' := [(3, .int 0), (2, .int (1 <<< (v2 &&& 31))), (0, .ref (G.1 4)), (1, .int l1)]) hC dX2_follow_12 rfl (by decide) rfl ?_
  refine cv_iconst (v := 0) hC dX2_follow_13 cb_iconst_0 ?_
  refine cv_istore (lv' := [(4, .int 0), (3, .int 0), (2, .int (1 <<< (v2 &&& 31))), (0, .ref (G.1 4)), (1, .int l1)]) hC dX2_follow_14 (by decide) rfl ?_
  exact cv_sub [3, 4, 2, 1, 0] rfl (J_X2_follow_b16 hC 1000 l1 (1 <<< (v2 &&& 31)) 0 0 s1)
set_option maxRecDepth 20000 in
set_option maxHeartbeats 2000000 in
theorem M_X2_follow (LL : Launch) (G : cv_G) (l1 : Int32) (σ : cv_St) : cv_MV LL G yX2_follow cX2_follow 5 2 48 [.ref (G.1 4), .int l1] σ (F_X2_follow l1 σ) :=
  cv_mkV (by decide) (Nat.le_of_ble_eq_true rfl) (fun X hC => J_X2_follow hC l1 σ)
/-! X2_infer -/
set_option maxRecDepth 20000 in
set_option maxHeartbeats 2000000 in
theorem I_X2_infer_b2 {X : cv_X} {G : cv_G} {LL : Launch} (hC : cv_C X G LL RX2 cX2_infer 2 none { frames := 3, cells := 0, slots := 0, locals := 72 }) (k2 : Int32 → cv_St → Option (cv_St)) (hk2 : ∀ (l1 : Int32)  σ, cv_J X G 2 0 0 (cv_QV X G) 2 [(0, .ref (G.1 4)), (1, .int l1)] [] σ (k2 l1 σ)) (l1 : Int32) (σ : cv_St) : cv_J X G 2 0 0 (cv_QV X G) 2 [(0, .ref (G.1 4)), (1, .int l1)] [] σ (B_X2_infer_b2 k2 l1 σ) := by
  unfold B_X2_infer_b2
  refine cv_iload_n hC 1 dX2_infer_2 rfl rfl ?_
  refine cv_bipush (v := 8) hC dX2_infer_3 cb_bipush_8 ?_
  refine cv_icmp_ge (tgt := 19) hC dX2_infer_5 (by decide) ?_ ?_
  · exact cv_vret hC dX2_infer_19
  · refine cv_aload_n hC 0 dX2_infer_8 rfl rfl ?_
    refine cv_iload_n hC 1 dX2_infer_9 rfl rfl ?_
    refine cv_callVv (ob := 4) hC [.int l1] [] (M_X2_follow LL G l1 σ) ln_X2_22 vm_X2_follow (ob_4 G) rfl rfl (Nat.le_of_ble_eq_true rfl) ⟨Nat.le_of_ble_eq_true rfl, Nat.le_of_ble_eq_true rfl⟩ ⟨Nat.le_of_ble_eq_true rfl, Nat.le_of_ble_eq_true rfl⟩ dX2_infer_10 (fun s1 => ?_)
    refine cv_iinc (lv' := [(1, .int (l1 + Int32.ofInt 1)), (0, .ref (G.1 4))]) hC 1 dX2_infer_13 rfl (by decide) rfl ?_
    refine cv_goto (tgt := 2) hC dX2_infer_16 (by decide) ?_
    exact cv_sub [1, 0] rfl (hk2 (l1 + Int32.ofInt 1) s1)
set_option maxRecDepth 20000 in
set_option maxHeartbeats 2000000 in
theorem J_X2_infer_b2 {X : cv_X} {G : cv_G} {LL : Launch} (hC : cv_C X G LL RX2 cX2_infer 2 none { frames := 3, cells := 0, slots := 0, locals := 72 }) : ∀ (n : Nat) (l1 : Int32) (σ : cv_St), cv_J X G 2 0 0 (cv_QV X G) 2 [(0, .ref (G.1 4)), (1, .int l1)] [] σ (F_X2_infer_b2 n l1 σ) := by
  intro n
  induction n with
  | zero => intro l1 σ; exact cv_none
  | succ n ih => intro l1 σ; exact I_X2_infer_b2 hC _ ih l1 σ
set_option maxRecDepth 20000 in
set_option maxHeartbeats 2000000 in
theorem J_X2_infer {X : cv_X} {G : cv_G} {LL : Launch} (hC : cv_C X G LL RX2 cX2_infer 2 none { frames := 3, cells := 0, slots := 0, locals := 72 }) (σ : cv_St) : cv_J X G 2 0 0 (cv_QV X G) 0 [(0, .ref (G.1 4))] [] σ (F_X2_infer σ) := by
  unfold F_X2_infer
  refine cv_iconst (v := 0) hC dX2_infer_0 cb_iconst_0 ?_
  refine cv_istore_n (lv' := [(1, .int 0), (0, .ref (G.1 4))]) hC dX2_infer_1 rfl (by decide) rfl ?_
  exact cv_sub [1, 0] rfl (J_X2_infer_b2 hC 1000 0 σ)
set_option maxRecDepth 20000 in
set_option maxHeartbeats 2000000 in
theorem M_X2_infer (LL : Launch) (G : cv_G) (σ : cv_St) : cv_MV LL G yX2_infer cX2_infer 2 3 72 [.ref (G.1 4)] σ (F_X2_infer σ) :=
  cv_mkV (by decide) (Nat.le_of_ble_eq_true rfl) (fun X hC => J_X2_infer hC σ)
/-! X2_reaches -/
set_option maxRecDepth 20000 in
set_option maxHeartbeats 2000000 in
theorem J_X2_reaches {X : cv_X} {G : cv_G} {LL : Launch} (hC : cv_C X G LL RX2 cX2_reaches 3 (some .boolean) { frames := 1, cells := 0, slots := 0, locals := 21 }) (l1 : Int32) (l2 : Int32) (σ : cv_St) : cv_J X G 3 0 0 (cv_QI X G) 0 [(0, .ref (G.1 4)), (1, .int l1), (2, .int l2)] [] σ (F_X2_reaches l1 l2 σ) := by
  unfold F_X2_reaches
  refine cv_aload_n hC 0 dX2_reaches_0 rfl rfl ?_
  refine cv_getr hC (fg_X2_9_4 G) dX2_reaches_1 ?_
  refine cv_iload_n hC 1 dX2_reaches_4 rfl rfl ?_
  refine cv_iald hC (cv_a20 G) dX2_reaches_5 (fun v1 => ?_)
  refine cv_iload_n hC 2 dX2_reaches_6 rfl rfl ?_
  refine cv_callNi hC [.int v1, .int l2] [] (M_X8_contains LL G v1 l2 σ) (fun _ h => h.1) vm_X8_contains rfl rfl (Nat.le_of_ble_eq_true rfl) ⟨Nat.le_of_ble_eq_true rfl, Nat.le_of_ble_eq_true rfl⟩ ⟨Nat.le_of_ble_eq_true rfl, Nat.le_of_ble_eq_true rfl⟩ dX2_reaches_7 (fun v3 s2 => ?_)
  exact cv_zret hC dX2_reaches_10
set_option maxRecDepth 20000 in
set_option maxHeartbeats 2000000 in
theorem M_X2_reaches (LL : Launch) (G : cv_G) (l1 : Int32) (l2 : Int32) (σ : cv_St) : cv_MI LL G yX2_reaches cX2_reaches 3 (some .boolean) 1 21 [.ref (G.1 4), .int l1, .int l2] σ (F_X2_reaches l1 l2 σ) :=
  cv_mkI (by decide) (Nat.le_of_ble_eq_true rfl) (fun X hC => J_X2_reaches hC l1 l2 σ)
/-! X2_callers -/
set_option maxRecDepth 20000 in
set_option maxHeartbeats 2000000 in
theorem J_X2_callers_b29 {X : cv_X} {G : cv_G} {LL : Launch} (hC : cv_C X G LL RX2 cX2_callers 4 (some .int) { frames := 1, cells := 0, slots := 0, locals := 21 }) (k4 : Int32 → Int32 → Int32 → cv_St → Option (Int32 × cv_St)) (hk4 : ∀ (l1 : Int32) (l2 : Int32) (l3 : Int32)  σ, cv_J X G 4 0 0 (cv_QI X G) 4 [(0, .ref (G.1 4)), (1, .int l1), (2, .int l2), (3, .int l3)] [] σ (k4 l1 l2 l3 σ)) (l1 : Int32) (l2 : Int32) (l3 : Int32) (σ : cv_St) : cv_J X G 4 0 0 (cv_QI X G) 29 [(0, .ref (G.1 4)), (1, .int l1), (2, .int l2), (3, .int l3)] [] σ (F_X2_callers_b29 k4 l1 l2 l3 σ) := by
  unfold F_X2_callers_b29
  refine cv_iinc (lv' := [(3, .int (l3 + Int32.ofInt 1)), (0, .ref (G.1 4)), (1, .int l1), (2, .int l2)]) hC 3 dX2_callers_29 rfl (by decide) rfl ?_
  refine cv_goto (tgt := 4) hC dX2_callers_32 (by decide) ?_
  exact cv_sub [1, 2, 3, 0] rfl (hk4 l1 l2 (l3 + Int32.ofInt 1) σ)
set_option maxRecDepth 20000 in
set_option maxHeartbeats 2000000 in
theorem I_X2_callers_b4 {X : cv_X} {G : cv_G} {LL : Launch} (hC : cv_C X G LL RX2 cX2_callers 4 (some .int) { frames := 1, cells := 0, slots := 0, locals := 21 }) (k4 : Int32 → Int32 → Int32 → cv_St → Option (Int32 × cv_St)) (hk4 : ∀ (l1 : Int32) (l2 : Int32) (l3 : Int32)  σ, cv_J X G 4 0 0 (cv_QI X G) 4 [(0, .ref (G.1 4)), (1, .int l1), (2, .int l2), (3, .int l3)] [] σ (k4 l1 l2 l3 σ)) (l1 : Int32) (l2 : Int32) (l3 : Int32) (σ : cv_St) : cv_J X G 4 0 0 (cv_QI X G) 4 [(0, .ref (G.1 4)), (1, .int l1), (2, .int l2), (3, .int l3)] [] σ (B_X2_callers_b4 k4 l1 l2 l3 σ) := by
  unfold B_X2_callers_b4
  refine cv_iload_n hC 3 dX2_callers_4 rfl rfl ?_
  refine cv_bipush (v := 8) hC dX2_callers_5 cb_bipush_8 ?_
  refine cv_icmp_ge (tgt := 35) hC dX2_callers_7 (by decide) ?_ ?_
  · refine cv_iload_n hC 2 dX2_callers_35 rfl rfl ?_
    exact cv_iret hC dX2_callers_36
  · refine cv_aload_n hC 0 dX2_callers_10 rfl rfl ?_
    refine cv_getr hC (fg_X2_15_4 G) dX2_callers_11 ?_
    refine cv_iload_n hC 3 dX2_callers_14 rfl rfl ?_
    refine cv_iald hC (cv_a21 G) dX2_callers_15 (fun v1 => ?_)
    refine cv_iload_n hC 1 dX2_callers_16 rfl rfl ?_
    refine cv_callNi hC [.int v1, .int l1] [] (M_X8_contains LL G v1 l1 σ) (fun _ h => h.1) vm_X8_contains rfl rfl (Nat.le_of_ble_eq_true rfl) ⟨Nat.le_of_ble_eq_true rfl, Nat.le_of_ble_eq_true rfl⟩ ⟨Nat.le_of_ble_eq_true rfl, Nat.le_of_ble_eq_true rfl⟩ dX2_callers_17 (fun v3 s2 => ?_)
    refine cv_if_eq (tgt := 29) hC dX2_callers_20 (by decide) ?_ ?_
    · exact cv_sub [0, 1, 2, 3] rfl (J_X2_callers_b29 hC k4 hk4 l1 l2 l3 s2)
    · refine cv_iload_n hC 2 dX2_callers_23 rfl rfl ?_
      refine cv_iconst (v := 1) hC dX2_callers_24 cb_iconst_1 ?_
      refine cv_iload_n hC 3 dX2_callers_25 rfl rfl ?_
      refine cv_ishl hC dX2_callers_26 ?_
      refine cv_ior hC dX2_callers_27 ?_
      refine cv_istore_n (lv' := [(2, .int (l2 ||| (1 <<< (l3 &&& 31)))), (0, .ref (G.1 4)), (1, .int l1), (3, .int l3)]) hC dX2_callers_28 rfl (by decide) rfl ?_
      exact cv_sub [1, 2, 0, 3] rfl (J_X2_callers_b29 hC k4 hk4 l1 (l2 ||| (1 <<< (l3 &&& 31))) l3 s2)
set_option maxRecDepth 20000 in
set_option maxHeartbeats 2000000 in
theorem J_X2_callers_b4 {X : cv_X} {G : cv_G} {LL : Launch} (hC : cv_C X G LL RX2 cX2_callers 4 (some .int) { frames := 1, cells := 0, slots := 0, locals := 21 }) : ∀ (n : Nat) (l1 : Int32) (l2 : Int32) (l3 : Int32) (σ : cv_St), cv_J X G 4 0 0 (cv_QI X G) 4 [(0, .ref (G.1 4)), (1, .int l1), (2, .int l2), (3, .int l3)] [] σ (F_X2_callers_b4 n l1 l2 l3 σ) := by
  intro n
  induction n with
  | zero => intro l1 l2 l3 σ; exact cv_none
  | succ n ih => intro l1 l2 l3 σ; exact I_X2_callers_b4 hC _ ih l1 l2 l3 σ
set_option maxRecDepth 20000 in
set_option maxHeartbeats 2000000 in
theorem J_X2_callers {X : cv_X} {G : cv_G} {LL : Launch} (hC : cv_C X G LL RX2 cX2_callers 4 (some .int) { frames := 1, cells := 0, slots := 0, locals := 21 }) (l1 : Int32) (σ : cv_St) : cv_J X G 4 0 0 (cv_QI X G) 0 [(0, .ref (G.1 4)), (1, .int l1)] [] σ (F_X2_callers l1 σ) := by
  unfold F_X2_callers
  refine cv_iconst (v := 0) hC dX2_callers_0 cb_iconst_0 ?_
  refine cv_istore_n (lv' := [(2, .int 0), (0, .ref (G.1 4)), (1, .int l1)]) hC dX2_callers_1 rfl (by decide) rfl ?_
  refine cv_iconst (v := 0) hC dX2_callers_2 cb_iconst_0 ?_
  refine cv_istore_n (lv' := [(3, .int 0), (2, .int 0), (0, .ref (G.1 4)), (1, .int l1)]) hC dX2_callers_3 rfl (by decide) rfl ?_
  exact cv_sub [2, 3, 1, 0] rfl (J_X2_callers_b4 hC 1000 l1 0 0 σ)
set_option maxRecDepth 20000 in
set_option maxHeartbeats 2000000 in
theorem M_X2_callers (LL : Launch) (G : cv_G) (l1 : Int32) (σ : cv_St) : cv_MI LL G yX2_callers cX2_callers 4 (some .int) 1 21 [.ref (G.1 4), .int l1] σ (F_X2_callers l1 σ) :=
  cv_mkI (by decide) (Nat.le_of_ble_eq_true rfl) (fun X hC => J_X2_callers hC l1 σ)
/-! X2_calledInAll -/
set_option maxRecDepth 20000 in
set_option maxHeartbeats 2000000 in
theorem J_X2_calledInAll_b50 {X : cv_X} {G : cv_G} {LL : Launch} (hC : cv_C X G LL RX2 cX2_calledInAll 6 (some .int) { frames := 1, cells := 0, slots := 0, locals := 21 }) (k9 : Int32 → Int32 → cv_St → Option (Int32 × cv_St)) (hk9 : ∀ (l2 : Int32) (l3 : Int32)  σ, cv_J X G 6 0 0 (cv_QI X G) 9 [(0, .ref (G.1 4)), (2, .int l2), (3, .int l3)] [] σ (k9 l2 l3 σ)) (k21 : Int32 → Int32 → Int32 → Int32 → cv_St → Option (Int32 × cv_St)) (hk21 : ∀ (l2 : Int32) (l3 : Int32) (l4 : Int32) (l5 : Int32)  σ, cv_J X G 6 0 0 (cv_QI X G) 21 [(0, .ref (G.1 4)), (2, .int l2), (3, .int l3), (4, .int l4), (5, .int l5)] [] σ (k21 l2 l3 l4 l5 σ)) (l2 : Int32) (l3 : Int32) (l5 : Int32) (t0 : Int32) (t1 : Int32) (σ : cv_St) : cv_J X G 6 0 0 (cv_QI X G) 50 [(0, .ref (G.1 4)), (2, .int l2), (3, .int l3), (5, .int l5)] [.int t0, .int t1] σ (F_X2_calledInAll_b50 k9 k21 l2 l3 l5 t0 t1 σ) := by
  unfold F_X2_calledInAll_b50
  refine cv_ior hC dX2_calledInAll_50 ?_
  refine cv_istore (lv' := [(4, .int (t1 ||| t0)), (0, .ref (G.1 4)), (2, .int l2), (3, .int l3), (5, .int l5)]) hC dX2_calledInAll_51 (by decide) rfl ?_
  refine cv_iinc (lv' := [(5, .int (l5 + Int32.ofInt 1)), (4, .int (t1 ||| t0)), (0, .ref (G.1 4)), (2, .int l2), (3, .int l3)]) hC 4 dX2_calledInAll_53 rfl (by decide) rfl ?_
  refine cv_goto (tgt := 21) hC dX2_calledInAll_56 (by decide) ?_
  exact cv_sub [2, 3, 4, 1, 0] rfl (hk21 l2 l3 (t1 ||| t0) (l5 + Int32.ofInt 1) σ)
set_option maxRecDepth 20000 in
set_option maxHeartbeats 2000000 in
theorem I_X2_calledInAll_b21 {X : cv_X} {G : cv_G} {LL : Launch} (hC : cv_C X G LL RX2 cX2_calledInAll 6 (some .int) { frames := 1, cells := 0, slots := 0, locals := 21 }) (k9 : Int32 → Int32 → cv_St → Option (Int32 × cv_St)) (hk9 : ∀ (l2 : Int32) (l3 : Int32)  σ, cv_J X G 6 0 0 (cv_QI X G) 9 [(0, .ref (G.1 4)), (2, .int l2), (3, .int l3)] [] σ (k9 l2 l3 σ)) (k21 : Int32 → Int32 → Int32 → Int32 → cv_St → Option (Int32 × cv_St)) (hk21 : ∀ (l2 : Int32) (l3 : Int32) (l4 : Int32) (l5 : Int32)  σ, cv_J X G 6 0 0 (cv_QI X G) 21 [(0, .ref (G.1 4)), (2, .int l2), (3, .int l3), (4, .int l4), (5, .int l5)] [] σ (k21 l2 l3 l4 l5 σ)) (l2 : Int32) (l3 : Int32) (l4 : Int32) (l5 : Int32) (σ : cv_St) : cv_J X G 6 0 0 (cv_QI X G) 21 [(0, .ref (G.1 4)), (2, .int l2), (3, .int l3), (4, .int l4), (5, .int l5)] [] σ (B_X2_calledInAll_b21 k9 k21 l2 l3 l4 l5 σ) := by
  unfold B_X2_calledInAll_b21
  refine cv_iload hC 4 dX2_calledInAll_21 rfl ?_
  refine cv_bipush (v := 8) hC dX2_calledInAll_23 cb_bipush_8 ?_
  refine cv_icmp_ge (tgt := 59) hC dX2_calledInAll_25 (by decide) ?_ ?_
  · refine cv_iload hC 3 dX2_calledInAll_59 rfl ?_
    refine cv_istore_n (lv' := [(2, .int l4), (0, .ref (G.1 4)), (3, .int l3), (4, .int l4), (5, .int l5)]) hC dX2_calledInAll_61 rfl (by decide) rfl ?_
    refine cv_iinc (lv' := [(3, .int (l3 + Int32.ofInt 1)), (2, .int l4), (0, .ref (G.1 4)), (4, .int l4), (5, .int l5)]) hC 2 dX2_calledInAll_62 rfl (by decide) rfl ?_
    refine cv_goto (tgt := 9) hC dX2_calledInAll_65 (by decide) ?_
    exact cv_sub [2, 1, 0] rfl (hk9 l4 (l3 + Int32.ofInt 1) σ)
  · refine cv_iload hC 3 dX2_calledInAll_28 rfl ?_
    refine cv_iload_n hC 1 dX2_calledInAll_30 rfl rfl ?_
    refine cv_iload hC 4 dX2_calledInAll_31 rfl ?_
    refine cv_callNi hC [.int l2, .int l5] [.int l4] (M_X8_contains LL G l2 l5 σ) (fun _ h => h.1) vm_X8_contains rfl rfl (Nat.le_of_ble_eq_true rfl) ⟨Nat.le_of_ble_eq_true rfl, Nat.le_of_ble_eq_true rfl⟩ ⟨Nat.le_of_ble_eq_true rfl, Nat.le_of_ble_eq_true rfl⟩ dX2_calledInAll_33 (fun v3 s2 => ?_)
    refine cv_if_eq (tgt := 49) hC dX2_calledInAll_36 (by decide) ?_ ?_
    · refine cv_iconst (v := 0) hC dX2_calledInAll_49 cb_iconst_0 ?_
      exact cv_sub [0, 1, 2, 4] rfl (J_X2_calledInAll_b50 hC k9 hk9 k21 hk21 l2 l3 l5 0 l4 s2)
    · refine cv_aload_n hC 0 dX2_calledInAll_39 rfl rfl ?_
      refine cv_getr hC (fg_X2_15_4 G) dX2_calledInAll_40 ?_
      refine cv_iload hC 4 dX2_calledInAll_43 rfl ?_
      refine cv_iald hC (cv_a21 G) dX2_calledInAll_45 (fun v4 => ?_)
      refine cv_goto (tgt := 50) hC dX2_calledInAll_46 (by decide) ?_
      exact cv_sub [0, 1, 2, 4] rfl (J_X2_calledInAll_b50 hC k9 hk9 k21 hk21 l2 l3 l5 v4 l4 s2)
set_option maxRecDepth 20000 in
set_option maxHeartbeats 2000000 in
theorem J_X2_calledInAll_b21 {X : cv_X} {G : cv_G} {LL : Launch} (hC : cv_C X G LL RX2 cX2_calledInAll 6 (some .int) { frames := 1, cells := 0, slots := 0, locals := 21 }) (k9 : Int32 → Int32 → cv_St → Option (Int32 × cv_St)) (hk9 : ∀ (l2 : Int32) (l3 : Int32)  σ, cv_J X G 6 0 0 (cv_QI X G) 9 [(0, .ref (G.1 4)), (2, .int l2), (3, .int l3)] [] σ (k9 l2 l3 σ)) : ∀ (n : Nat) (l2 : Int32) (l3 : Int32) (l4 : Int32) (l5 : Int32) (σ : cv_St), cv_J X G 6 0 0 (cv_QI X G) 21 [(0, .ref (G.1 4)), (2, .int l2), (3, .int l3), (4, .int l4), (5, .int l5)] [] σ (F_X2_calledInAll_b21 k9 n l2 l3 l4 l5 σ) := by
  intro n
  induction n with
  | zero => intro l2 l3 l4 l5 σ; exact cv_none
  | succ n ih => intro l2 l3 l4 l5 σ; exact I_X2_calledInAll_b21 hC k9 hk9 _ ih l2 l3 l4 l5 σ
set_option maxRecDepth 20000 in
set_option maxHeartbeats 2000000 in
theorem I_X2_calledInAll_b9 {X : cv_X} {G : cv_G} {LL : Launch} (hC : cv_C X G LL RX2 cX2_calledInAll 6 (some .int) { frames := 1, cells := 0, slots := 0, locals := 21 }) (k9 : Int32 → Int32 → cv_St → Option (Int32 × cv_St)) (hk9 : ∀ (l2 : Int32) (l3 : Int32)  σ, cv_J X G 6 0 0 (cv_QI X G) 9 [(0, .ref (G.1 4)), (2, .int l2), (3, .int l3)] [] σ (k9 l2 l3 σ)) (l2 : Int32) (l3 : Int32) (σ : cv_St) : cv_J X G 6 0 0 (cv_QI X G) 9 [(0, .ref (G.1 4)), (2, .int l2), (3, .int l3)] [] σ (B_X2_calledInAll_b9 k9 l2 l3 σ) := by
  unfold B_X2_calledInAll_b9
  refine cv_iload_n hC 2 dX2_calledInAll_9 rfl rfl ?_
  refine cv_bipush (v := 8) hC dX2_calledInAll_10 cb_bipush_8 ?_
  refine cv_icmp_ge (tgt := 68) hC dX2_calledInAll_12 (by decide) ?_ ?_
  · refine cv_iload_n hC 1 dX2_calledInAll_68 rfl rfl ?_
    exact cv_iret hC dX2_calledInAll_69
  · refine cv_iload_n hC 1 dX2_calledInAll_15 rfl rfl ?_
    refine cv_istore (lv' := [(4, .int l2), (0, .ref (G.1 4)), (2, .int l2), (3, .int l3)]) hC dX2_calledInAll_16 (by decide) rfl ?_
    refine cv_iconst (v := 0) hC dX2_calledInAll_18 cb_iconst_0 ?_
    refine cv_istore (lv' := [(5, .int 0), (4, .int l2), (0, .ref (G.1 4)), (2, .int l2), (3, .int l3)]) hC dX2_calledInAll_19 (by decide) rfl ?_
    exact cv_sub [2, 3, 4, 1, 0] rfl (J_X2_calledInAll_b21 hC k9 hk9 1000 l2 l3 l2 0 σ)
set_option maxRecDepth 20000 in
set_option maxHeartbeats 2000000 in
theorem J_X2_calledInAll_b9 {X : cv_X} {G : cv_G} {LL : Launch} (hC : cv_C X G LL RX2 cX2_calledInAll 6 (some .int) { frames := 1, cells := 0, slots := 0, locals := 21 }) : ∀ (n : Nat) (l2 : Int32) (l3 : Int32) (σ : cv_St), cv_J X G 6 0 0 (cv_QI X G) 9 [(0, .ref (G.1 4)), (2, .int l2), (3, .int l3)] [] σ (F_X2_calledInAll_b9 n l2 l3 σ) := by
  intro n
  induction n with
  | zero => intro l2 l3 σ; exact cv_none
  | succ n ih => intro l2 l3 σ; exact I_X2_calledInAll_b9 hC _ ih l2 l3 σ
set_option maxRecDepth 20000 in
set_option maxHeartbeats 2000000 in
theorem J_X2_calledInAll {X : cv_X} {G : cv_G} {LL : Launch} (hC : cv_C X G LL RX2 cX2_calledInAll 6 (some .int) { frames := 1, cells := 0, slots := 0, locals := 21 }) (l1 : Int32) (σ : cv_St) : cv_J X G 6 0 0 (cv_QI X G) 0 [(0, .ref (G.1 4)), (1, .int l1)] [] σ (F_X2_calledInAll l1 σ) := by
  unfold F_X2_calledInAll
  refine cv_aload_n hC 0 dX2_calledInAll_0 rfl rfl ?_
  refine cv_getr hC (fg_X2_15_4 G) dX2_calledInAll_1 ?_
  refine cv_iload_n hC 1 dX2_calledInAll_4 rfl rfl ?_
  refine cv_iald hC (cv_a21 G) dX2_calledInAll_5 (fun v1 => ?_)
  refine cv_istore_n (lv' := [(2, .int v1), (0, .ref (G.1 4)), (1, .int l1)]) hC dX2_calledInAll_6 rfl (by decide) rfl ?_
  refine cv_iconst (v := 1) hC dX2_calledInAll_7 cb_iconst_1 ?_
  refine cv_istore_n (lv' := [(3, .int 1), (2, .int v1), (0, .ref (G.1 4)), (1, .int l1)]) hC dX2_calledInAll_8 rfl (by decide) rfl ?_
  exact cv_sub [2, 1, 0] rfl (J_X2_calledInAll_b9 hC 1000 v1 1 σ)
set_option maxRecDepth 20000 in
set_option maxHeartbeats 2000000 in
theorem M_X2_calledInAll (LL : Launch) (G : cv_G) (l1 : Int32) (σ : cv_St) : cv_MI LL G yX2_calledInAll cX2_calledInAll 6 (some .int) 1 21 [.ref (G.1 4), .int l1] σ (F_X2_calledInAll l1 σ) :=
  cv_mkI (by decide) (Nat.le_of_ble_eq_true rfl) (fun X hC => J_X2_calledInAll hC l1 σ)
/-! X7_clobbered -/
set_option maxRecDepth 20000 in
set_option maxHeartbeats 2000000 in
theorem J_X7_clobbered {X : cv_X} {G : cv_G} {LL : Launch} (hC : cv_C X G LL RX7 cX7_clobbered 2 (some .int) { frames := 0, cells := 0, slots := 0, locals := 0 }) (l1 : Int32) (σ : cv_St) : cv_J X G 2 0 0 (cv_QI X G) 0 [(0, .ref (G.1 5)), (1, .int l1)] [] σ (F_X7_clobbered l1 σ) := by
  unfold F_X7_clobbered
  refine cv_sipush (v := 255) hC dX7_clobbered_0 cb_sipush_255 ?_
  refine cv_aload_n hC 0 dX7_clobbered_3 rfl rfl ?_
  refine cv_getr hC (fg_X7_15_5 G) dX7_clobbered_4 ?_
  refine cv_iload_n hC 1 dX7_clobbered_7 rfl rfl ?_
  refine cv_iald hC (cv_a23 G) dX7_clobbered_8 (fun v1 => ?_)
  refine cv_iconst (v := (-1)) hC dX7_clobbered_9 cb_iconst_m1 ?_
  refine cv_ixor hC dX7_clobbered_10 ?_
  refine cv_iand hC dX7_clobbered_11 ?_
  exact cv_iret hC dX7_clobbered_12
set_option maxRecDepth 20000 in
set_option maxHeartbeats 2000000 in
theorem M_X7_clobbered (LL : Launch) (G : cv_G) (l1 : Int32) (σ : cv_St) : cv_MI LL G yX7_clobbered cX7_clobbered 2 (some .int) 0 0 [.ref (G.1 5), .int l1] σ (F_X7_clobbered l1 σ) :=
  cv_mkI (by decide) (Nat.le_of_ble_eq_true rfl) (fun X hC => J_X7_clobbered hC l1 σ)
/-! X7_merge -/
set_option maxRecDepth 20000 in
set_option maxHeartbeats 2000000 in
theorem J_X7_merge_b77 {X : cv_X} {G : cv_G} {LL : Launch} (hC : cv_C X G LL RX7 cX7_merge 5 none { frames := 1, cells := 0, slots := 0, locals := 21 }) (k19 : Int32 → Int32 → Int32 → cv_St → Option (cv_St)) (hk19 : ∀ (l1 : Int32) (l2 : Int32) (l3 : Int32)  σ, cv_J X G 5 0 0 (cv_QV X G) 19 [(0, .ref (G.1 5)), (1, .int l1), (2, .int l2), (3, .int l3)] [] σ (k19 l1 l2 l3 σ)) (l1 : Int32) (l2 : Int32) (l3 : Int32) (σ : cv_St) : cv_J X G 5 0 0 (cv_QV X G) 77 [(0, .ref (G.1 5)), (1, .int l1), (2, .int l2), (3, .int l3)] [] σ (F_X7_merge_b77 k19 l1 l2 l3 σ) := by
  unfold F_X7_merge_b77
  refine cv_iinc (lv' := [(3, .int (l3 + Int32.ofInt 1)), (0, .ref (G.1 5)), (1, .int l1), (2, .int l2)]) hC 3 dX7_merge_77 rfl (by decide) rfl ?_
  refine cv_goto (tgt := 19) hC dX7_merge_80 (by decide) ?_
  exact cv_sub [1, 2, 3, 0] rfl (hk19 l1 l2 (l3 + Int32.ofInt 1) σ)
set_option maxRecDepth 20000 in
set_option maxHeartbeats 2000000 in
theorem I_X7_merge_b19 {X : cv_X} {G : cv_G} {LL : Launch} (hC : cv_C X G LL RX7 cX7_merge 5 none { frames := 1, cells := 0, slots := 0, locals := 21 }) (k19 : Int32 → Int32 → Int32 → cv_St → Option (cv_St)) (hk19 : ∀ (l1 : Int32) (l2 : Int32) (l3 : Int32)  σ, cv_J X G 5 0 0 (cv_QV X G) 19 [(0, .ref (G.1 5)), (1, .int l1), (2, .int l2), (3, .int l3)] [] σ (k19 l1 l2 l3 σ)) (l1 : Int32) (l2 : Int32) (l3 : Int32) (σ : cv_St) : cv_J X G 5 0 0 (cv_QV X G) 19 [(0, .ref (G.1 5)), (1, .int l1), (2, .int l2), (3, .int l3)] [] σ (B_X7_merge_b19 k19 l1 l2 l3 σ) := by
  unfold B_X7_merge_b19
  refine cv_iload_n hC 3 dX7_merge_19 rfl rfl ?_
  refine cv_bipush (v := 14) hC dX7_merge_20 cb_bipush_14 ?_
  refine cv_icmp_ge (tgt := 83) hC dX7_merge_22 (by decide) ?_ ?_
  · refine cv_aload_n hC 0 dX7_merge_83 rfl rfl ?_
    refine cv_dup hC dX7_merge_84 rfl ?_
    refine cv_geti hC (fg_X7_28_5 G) dX7_merge_85 ?_
    refine cv_iconst (v := 1) hC dX7_merge_88 cb_iconst_1 ?_
    refine cv_iload_n hC 1 dX7_merge_89 rfl rfl ?_
    refine cv_ishl hC dX7_merge_90 ?_
    refine cv_ior hC dX7_merge_91 ?_
    refine cv_puti hC (fp_X7_28_5 G) dX7_merge_92 (fun s3 => ?_)
    exact cv_vret hC dX7_merge_95
  · refine cv_iload_n hC 1 dX7_merge_25 rfl rfl ?_
    refine cv_bipush (v := 14) hC dX7_merge_26 cb_bipush_14 ?_
    refine cv_imul hC dX7_merge_28 ?_
    refine cv_iload_n hC 3 dX7_merge_29 rfl rfl ?_
    refine cv_iadd hC dX7_merge_30 ?_
    refine cv_istore (lv' := [(4, .int ((l1 * 14) + l3)), (0, .ref (G.1 5)), (1, .int l1), (2, .int l2), (3, .int l3)]) hC dX7_merge_31 (by decide) rfl ?_
    refine cv_iload_n hC 3 dX7_merge_33 rfl rfl ?_
    refine cv_if_eq (tgt := 53) hC dX7_merge_34 (by decide) ?_ ?_
    · refine cv_aload_n hC 1 dX7_merge_53 rfl rfl ?_
      refine cv_getr hC (fg_X7_22_5 G) dX7_merge_54 ?_
      refine cv_iload hC 0 dX7_merge_57 rfl ?_
      refine cv_iald hC (cv_a25 G) dX7_merge_59 (fun v4 => ?_)
      refine cv_aload_n hC 1 dX7_merge_60 rfl rfl ?_
      refine cv_getr hC (fg_X7_25_5 G) dX7_merge_61 ?_
      refine cv_iload_n hC 4 dX7_merge_64 rfl rfl ?_
      refine cv_iald hC (cv_a26 G) dX7_merge_65 (fun v5 => ?_)
      refine cv_icmp_eq (tgt := 77) hC dX7_merge_66 (by decide) ?_ ?_
      · exact cv_sub [1, 2, 3, 4] rfl (J_X7_merge_b77 hC k19 hk19 l1 l2 l3 σ)
      · refine cv_aload_n hC 1 dX7_merge_69 rfl rfl ?_
        refine cv_getr hC (fg_X7_22_5 G) dX7_merge_70 ?_
        refine cv_iload hC 0 dX7_merge_73 rfl ?_
        refine cv_iconst (v := (-1)) hC dX7_merge_75 cb_iconst_m1 ?_
        refine cv_iast hC (cv_a25 G) dX7_merge_76 (fun s6 => ?_)
        exact cv_sub [1, 2, 3, 4] rfl (J_X7_merge_b77 hC k19 hk19 l1 l2 l3 s6)
    · refine cv_aload_n hC 1 dX7_merge_37 rfl rfl ?_
      refine cv_getr hC (fg_X7_22_5 G) dX7_merge_38 ?_
      refine cv_iload hC 0 dX7_merge_41 rfl ?_
      refine cv_aload_n hC 1 dX7_merge_43 rfl rfl ?_
      refine cv_getr hC (fg_X7_25_5 G) dX7_merge_44 ?_
      refine cv_iload_n hC 4 dX7_merge_47 rfl rfl ?_
      refine cv_iald hC (cv_a26 G) dX7_merge_48 (fun v7 => ?_)
      refine cv_iast hC (cv_a25 G) dX7_merge_49 (fun s8 => ?_)
      refine cv_goto (tgt := 77) hC dX7_merge_50 (by decide) ?_
      exact cv_sub [1, 2, 3, 4] rfl (J_X7_merge_b77 hC k19 hk19 l1 l2 l3 s8)
set_option maxRecDepth 20000 in
set_option maxHeartbeats 2000000 in
theorem J_X7_merge_b19 {X : cv_X} {G : cv_G} {LL : Launch} (hC : cv_C X G LL RX7 cX7_merge 5 none { frames := 1, cells := 0, slots := 0, locals := 21 }) : ∀ (n : Nat) (l1 : Int32) (l2 : Int32) (l3 : Int32) (σ : cv_St), cv_J X G 5 0 0 (cv_QV X G) 19 [(0, .ref (G.1 5)), (1, .int l1), (2, .int l2), (3, .int l3)] [] σ (F_X7_merge_b19 n l1 l2 l3 σ) := by
  intro n
  induction n with
  | zero => intro l1 l2 l3 σ; exact cv_none
  | succ n ih => intro l1 l2 l3 σ; exact I_X7_merge_b19 hC _ ih l1 l2 l3 σ
set_option maxRecDepth 20000 in
set_option maxHeartbeats 2000000 in
theorem J_X7_merge_b16 {X : cv_X} {G : cv_G} {LL : Launch} (hC : cv_C X G LL RX7 cX7_merge 5 none { frames := 1, cells := 0, slots := 0, locals := 21 }) (l1 : Int32) (t0 : Int32) (σ : cv_St) : cv_J X G 5 0 0 (cv_QV X G) 16 [(0, .ref (G.1 5)), (1, .int l1)] [.int t0] σ (F_X7_merge_b16 l1 t0 σ) := by
  unfold F_X7_merge_b16
  refine cv_istore_n (lv' := [(2, .int t0), (0, .ref (G.1 5)), (1, .int l1)]) hC dX7_merge_16 rfl (by decide) rfl ?_
  refine cv_iconst (v := 0) hC dX7_merge_17 cb_iconst_0 ?_
  refine cv_istore_n (lv' := [(3, .int 0), (2, .int t0), (0, .ref (G.1 5)), (1, .int l1)]) hC dX7_merge_18 rfl (by decide) rfl ?_
  exact cv_sub [2, 3, 1, 0] rfl (J_X7_merge_b19 hC 1000 l1 t0 0 σ)
set_option maxRecDepth 20000 in
set_option maxHeartbeats 2000000 in
theorem J_X7_merge {X : cv_X} {G : cv_G} {LL : Launch} (hC : cv_C X G LL RX7 cX7_merge 5 none { frames := 1, cells := 0, slots := 0, locals := 21 }) (l1 : Int32) (σ : cv_St) : cv_J X G 5 0 0 (cv_QV X G) 0 [(0, .ref (G.1 5)), (1, .int l1)] [] σ (F_X7_merge l1 σ) := by
  unfold F_X7_merge
  refine cv_aload_n hC 0 dX7_merge_0 rfl rfl ?_
  refine cv_geti hC (fg_X7_28_5 G) dX7_merge_1 ?_
  refine cv_iload_n hC 1 dX7_merge_4 rfl rfl ?_
  refine cv_callNi hC [.int (σ.2.1 6), .int l1] [] (M_X8_contains LL G (σ.2.1 6) l1 σ) (fun _ h => h.2.1) vm_X8_contains rfl rfl (Nat.le_of_ble_eq_true rfl) ⟨Nat.le_of_ble_eq_true rfl, Nat.le_of_ble_eq_true rfl⟩ ⟨Nat.le_of_ble_eq_true rfl, Nat.le_of_ble_eq_true rfl⟩ dX7_merge_5 (fun v2 s1 => ?_)
  refine cv_if_ne (tgt := 15) hC dX7_merge_8 (by decide) ?_ ?_
  · refine cv_iconst (v := 0) hC dX7_merge_15 cb_iconst_0 ?_
    exact cv_sub [0, 1] rfl (J_X7_merge_b16 hC l1 0 s1)
  · refine cv_iconst (v := 1) hC dX7_merge_11 cb_iconst_1 ?_
    refine cv_goto (tgt := 16) hC dX7_merge_12 (by decide) ?_
    exact cv_sub [0, 1] rfl (J_X7_merge_b16 hC l1 1 s1)
set_option maxRecDepth 20000 in
set_option maxHeartbeats 2000000 in
theorem M_X7_merge (LL : Launch) (G : cv_G) (l1 : Int32) (σ : cv_St) : cv_MV LL G yX7_merge cX7_merge 5 1 21 [.ref (G.1 5), .int l1] σ (F_X7_merge l1 σ) :=
  cv_mkV (by decide) (Nat.le_of_ble_eq_true rfl) (fun X hC => J_X7_merge hC l1 σ)
/-! X7_forget -/
set_option maxRecDepth 20000 in
set_option maxHeartbeats 2000000 in
theorem J_X7_forget_b23 {X : cv_X} {G : cv_G} {LL : Launch} (hC : cv_C X G LL RX7 cX7_forget 3 none { frames := 1, cells := 0, slots := 0, locals := 21 }) (k2 : Int32 → Int32 → cv_St → Option (cv_St)) (hk2 : ∀ (l1 : Int32) (l2 : Int32)  σ, cv_J X G 3 0 0 (cv_QV X G) 2 [(0, .ref (G.1 5)), (1, .int l1), (2, .int l2)] [] σ (k2 l1 l2 σ)) (l1 : Int32) (l2 : Int32) (σ : cv_St) : cv_J X G 3 0 0 (cv_QV X G) 23 [(0, .ref (G.1 5)), (1, .int l1), (2, .int l2)] [] σ (F_X7_forget_b23 k2 l1 l2 σ) := by
  unfold F_X7_forget_b23
  refine cv_iinc (lv' := [(2, .int (l2 + Int32.ofInt 1)), (0, .ref (G.1 5)), (1, .int l1)]) hC 2 dX7_forget_23 rfl (by decide) rfl ?_
  refine cv_goto (tgt := 2) hC dX7_forget_26 (by decide) ?_
  exact cv_sub [1, 2, 0] rfl (hk2 l1 (l2 + Int32.ofInt 1) σ)
set_option maxRecDepth 20000 in
set_option maxHeartbeats 2000000 in
theorem I_X7_forget_b2 {X : cv_X} {G : cv_G} {LL : Launch} (hC : cv_C X G LL RX7 cX7_forget 3 none { frames := 1, cells := 0, slots := 0, locals := 21 }) (k2 : Int32 → Int32 → cv_St → Option (cv_St)) (hk2 : ∀ (l1 : Int32) (l2 : Int32)  σ, cv_J X G 3 0 0 (cv_QV X G) 2 [(0, .ref (G.1 5)), (1, .int l1), (2, .int l2)] [] σ (k2 l1 l2 σ)) (l1 : Int32) (l2 : Int32) (σ : cv_St) : cv_J X G 3 0 0 (cv_QV X G) 2 [(0, .ref (G.1 5)), (1, .int l1), (2, .int l2)] [] σ (B_X7_forget_b2 k2 l1 l2 σ) := by
  unfold B_X7_forget_b2
  refine cv_iload_n hC 2 dX7_forget_2 rfl rfl ?_
  refine cv_bipush (v := 8) hC dX7_forget_3 cb_bipush_8 ?_
  refine cv_icmp_ge (tgt := 29) hC dX7_forget_5 (by decide) ?_ ?_
  · exact cv_vret hC dX7_forget_29
  · refine cv_iload_n hC 1 dX7_forget_8 rfl rfl ?_
    refine cv_iload_n hC 2 dX7_forget_9 rfl rfl ?_
    refine cv_callNi hC [.int l1, .int l2] [] (M_X8_contains LL G l1 l2 σ) (fun _ h => h.2.1) vm_X8_contains rfl rfl (Nat.le_of_ble_eq_true rfl) ⟨Nat.le_of_ble_eq_true rfl, Nat.le_of_ble_eq_true rfl⟩ ⟨Nat.le_of_ble_eq_true rfl, Nat.le_of_ble_eq_true rfl⟩ dX7_forget_10 (fun v2 s1 => ?_)
    refine cv_if_eq (tgt := 23) hC dX7_forget_13 (by decide) ?_ ?_
    · exact cv_sub [0, 1, 2] rfl (J_X7_forget_b23 hC k2 hk2 l1 l2 s1)
    · refine cv_aload_n hC 0 dX7_forget_16 rfl rfl ?_
      refine cv_getr hC (fg_X7_25_5 G) dX7_forget_17 ?_
      refine cv_iload_n hC 2 dX7_forget_20 rfl rfl ?_
      refine cv_iconst (v := (-1)) hC dX7_forget_21 cb_iconst_m1 ?_
      refine cv_iast hC (cv_a26 G) dX7_forget_22 (fun s3 => ?_)
      exact cv_sub [0, 1, 2] rfl (J_X7_forget_b23 hC k2 hk2 l1 l2 s3)
set_option maxRecDepth 20000 in
set_option maxHeartbeats 2000000 in
theorem J_X7_forget_b2 {X : cv_X} {G : cv_G} {LL : Launch} (hC : cv_C X G LL RX7 cX7_forget 3 none { frames := 1, cells := 0, slots := 0, locals := 21 }) : ∀ (n : Nat) (l1 : Int32) (l2 : Int32) (σ : cv_St), cv_J X G 3 0 0 (cv_QV X G) 2 [(0, .ref (G.1 5)), (1, .int l1), (2, .int l2)] [] σ (F_X7_forget_b2 n l1 l2 σ) := by
  intro n
  induction n with
  | zero => intro l1 l2 σ; exact cv_none
  | succ n ih => intro l1 l2 σ; exact I_X7_forget_b2 hC _ ih l1 l2 σ
set_option maxRecDepth 20000 in
set_option maxHeartbeats 2000000 in
theorem J_X7_forget {X : cv_X} {G : cv_G} {LL : Launch} (hC : cv_C X G LL RX7 cX7_forget 3 none { frames := 1, cells := 0, slots := 0, locals := 21 }) (l1 : Int32) (σ : cv_St) : cv_J X G 3 0 0 (cv_QV X G) 0 [(0, .ref (G.1 5)), (1, .int l1)] [] σ (F_X7_forget l1 σ) := by
  unfold F_X7_forget
  refine cv_iconst (v := 0) hC dX7_forget_0 cb_iconst_0 ?_
  refine cv_istore_n (lv' := [(2, .int 0), (0, .ref (G.1 5)), (1, .int l1)]) hC dX7_forget_1 rfl (by decide) rfl ?_
  exact cv_sub [1, 2, 0] rfl (J_X7_forget_b2 hC 1000 l1 0 σ)
set_option maxRecDepth 20000 in
set_option maxHeartbeats 2000000 in
theorem M_X7_forget (LL : Launch) (G : cv_G) (l1 : Int32) (σ : cv_St) : cv_MV LL G yX7_forget cX7_forget 3 1 21 [.ref (G.1 5), .int l1] σ (F_X7_forget l1 σ) :=
  cv_mkV (by decide) (Nat.le_of_ble_eq_true rfl) (fun X hC => J_X7_forget hC l1 σ)
/-! X7_step -/
set_option maxRecDepth 20000 in
set_option maxHeartbeats 2000000 in
theorem J_X7_step_b146 {X : cv_X} {G : cv_G} {LL : Launch} (hC : cv_C X G LL RX7 cX7_step 6 none { frames := 2, cells := 0, slots := 0, locals := 43 }) (l3 : Int32) (l4 : Int32) (σ : cv_St) : cv_J X G 6 0 0 (cv_QV X G) 146 [(0, .ref (G.1 5)), (3, .int l3), (4, .int l4)] [] σ (F_X7_step_b146 l3 l4 σ) := by
  unfold F_X7_step_b146
  refine cv_iload_n hC 1 dX7_step_146 rfl rfl ?_
  refine cv_bipush (v := 99) hC dX7_step_147 cb_bipush_99 ?_
  refine cv_icmp_ne (tgt := 162) hC dX7_step_149 (by decide) ?_ ?_
  · exact cv_vret hC dX7_step_162
  · refine cv_aload_n hC 0 dX7_step_152 rfl rfl ?_
    refine cv_aload_n hC 0 dX7_step_153 rfl rfl ?_
    refine cv_iload hC 2 dX7_step_154 rfl ?_
    refine cv_callVi (ob := 5) hC [.int l4] [.ref (G.1 5)] (M_X7_clobbered LL G l4 σ) ln_X7_100 vm_X7_clobbered (ob_5 G) rfl rfl (Nat.le_of_ble_eq_true rfl) ⟨Nat.le_of_ble_eq_true rfl, Nat.le_of_ble_eq_true rfl⟩ ⟨Nat.le_of_ble_eq_true rfl, Nat.le_of_ble_eq_true rfl⟩ dX7_step_156 (fun v7 s6 => ?_)
    refine cv_callVv (ob := 5) hC [.int v7] [] (M_X7_forget LL G v7 s6) ln_X7_103 vm_X7_forget (ob_5 G) rfl rfl (Nat.le_of_ble_eq_true rfl) ⟨Nat.le_of_ble_eq_true rfl, Nat.le_of_ble_eq_true rfl⟩ ⟨Nat.le_of_ble_eq_true rfl, Nat.le_of_ble_eq_true rfl⟩ dX7_step_159 (fun s8 => ?_)
    exact cv_vret hC dX7_step_162
set_option maxRecDepth 20000 in
set_option maxHeartbeats 2000000 in
theorem J_X7_step_b113 {X : cv_X} {G : cv_G} {LL : Launch} (hC : cv_C X G LL RX7 cX7_step 6 none { frames := 2, cells := 0, slots := 0, locals := 43 }) (l3 : Int32) (l4 : Int32) (l5 : Int32) (σ : cv_St) : cv_J X G 6 0 0 (cv_QV X G) 113 [(0, .ref (G.1 5)), (3, .int l3), (4, .int l4), (5, .int l5)] [] σ (F_X7_step_b113 l3 l4 l5 σ) := by
  unfold F_X7_step_b113
  refine cv_iload_n hC 1 dX7_step_113 rfl rfl ?_
  refine cv_bipush (v := 45) hC dX7_step_114 cb_bipush_45 ?_
  refine cv_icmp_ne (tgt := 146) hC dX7_step_116 (by decide) ?_ ?_
  · exact cv_sub [0, 1, 2] rfl (J_X7_step_b146 hC l3 l4 σ)
  · refine cv_iload hC 3 dX7_step_119 rfl ?_
    refine cv_if_le (tgt := 146) hC dX7_step_121 (by decide) ?_ ?_
    · exact cv_sub [0, 1, 2] rfl (J_X7_step_b146 hC l3 l4 σ)
    · refine cv_aload_n hC 0 dX7_step_124 rfl rfl ?_
      refine cv_getr hC (fg_X7_25_5 G) dX7_step_125 ?_
      refine cv_iload hC 2 dX7_step_128 rfl ?_
      refine cv_aload_n hC 0 dX7_step_130 rfl rfl ?_
      refine cv_getr hC (fg_X7_25_5 G) dX7_step_131 ?_
      refine cv_bipush (v := 8) hC dX7_step_134 cb_bipush_8 ?_
      refine cv_iload hC 3 dX7_step_136 rfl ?_
      refine cv_iadd hC dX7_step_138 ?_
      refine cv_iconst (v := 1) hC dX7_step_139 cb_iconst_1 ?_
      refine cv_isub hC dX7_step_140 ?_
      refine cv_iald hC (cv_a26 G) dX7_step_141 (fun v9 => ?_)
      refine cv_iast hC (cv_a26 G) dX7_step_142 (fun s10 => ?_)
      refine cv_goto (tgt := 162) hC dX7_step_143 (by decide) ?_
      exact cv_vret hC dX7_step_162
set_option maxRecDepth 20000 in
set_option maxHeartbeats 2000000 in
theorem J_X7_step {X : cv_X} {G : cv_G} {LL : Launch} (hC : cv_C X G LL RX7 cX7_step 6 none { frames := 2, cells := 0, slots := 0, locals := 43 }) (l1 : Int32) (l2 : Int32) (σ : cv_St) : cv_J X G 6 0 0 (cv_QV X G) 0 [(0, .ref (G.1 5)), (1, .int l1), (2, .int l2)] [] σ (F_X7_step l1 l2 σ) := by
  unfold F_X7_step
  refine cv_aload_n hC 0 dX7_step_0 rfl rfl ?_
  refine cv_getr hC (fg_X7_32_5 G) dX7_step_1 ?_
  refine cv_iload_n hC 1 dX7_step_4 rfl rfl ?_
  refine cv_iload_n hC 2 dX7_step_5 rfl rfl ?_
  refine cv_callVi (ob := 2) hC [.int l1, .int l2] [] (M_X0_kindAt LL G l1 l2 σ) ln_X7_56 vm_X0_kindAt (ob_2 G) rfl rfl (Nat.le_of_ble_eq_true rfl) ⟨Nat.le_of_ble_eq_true rfl, Nat.le_of_ble_eq_true rfl⟩ ⟨Nat.le_of_ble_eq_true rfl, Nat.le_of_ble_eq_true rfl⟩ dX7_step_6 (fun v2 s1 => ?_)
  refine cv_istore_n (lv' := [(3, .int v2), (0, .ref (G.1 5)), (1, .int l1), (2, .int l2)]) hC dX7_step_9 rfl (by decide) rfl ?_
  refine cv_aload_n hC 1 dX7_step_10 rfl rfl ?_
  refine cv_getr hC (fg_X7_32_5 G) dX7_step_11 ?_
  refine cv_iload_n hC 2 dX7_step_14 rfl rfl ?_
  refine cv_iload_n hC 3 dX7_step_15 rfl rfl ?_
  refine cv_callVi (ob := 2) hC [.int l1, .int l2] [] (M_X0_numberAt LL G l1 l2 s1) ln_X7_97 vm_X0_numberAt (ob_2 G) rfl rfl (Nat.le_of_ble_eq_true rfl) ⟨Nat.le_of_ble_eq_true rfl, Nat.le_of_ble_eq_true rfl⟩ ⟨Nat.le_of_ble_eq_true rfl, Nat.le_of_ble_eq_true rfl⟩ dX7_step_16 (fun v4 s3 => ?_)
  refine cv_istore (lv' := [(4, .int v4), (3, .int v2), (0, .ref (G.1 5)), (1, .int l1), (2, .int l2)]) hC dX7_step_19 (by decide) rfl ?_
  refine cv_aload_n hC 2 dX7_step_21 rfl rfl ?_
  refine cv_getr hC (fg_X7_19_5 G) dX7_step_22 ?_
  refine cv_iload_n hC 3 dX7_step_25 rfl rfl ?_
  refine cv_bipush (v := 15) hC dX7_step_26 cb_bipush_15 ?_
  refine cv_imul hC dX7_step_28 ?_
  refine cv_iload_n hC 4 dX7_step_29 rfl rfl ?_
  refine cv_iadd hC dX7_step_30 ?_
  refine cv_iald hC (cv_a24 G) dX7_step_31 (fun v5 => ?_)
  refine cv_istore (lv' := [(5, .int v5), (4, .int v4), (3, .int v2), (0, .ref (G.1 5)), (1, .int l1), (2, .int l2)]) hC dX7_step_32 (by decide) rfl ?_
  refine cv_iload_n hC 2 dX7_step_34 rfl rfl ?_
  refine cv_bipush (v := 100) hC dX7_step_35 cb_bipush_100 ?_
  refine cv_icmp_ne (tgt := 51) hC dX7_step_37 (by decide) ?_ ?_
  · refine cv_iload_n hC 2 dX7_step_51 rfl rfl ?_
    refine cv_bipush (v := 109) hC dX7_step_52 cb_bipush_109 ?_
    refine cv_icmp_ne (tgt := 80) hC dX7_step_54 (by decide) ?_ ?_
    · refine cv_iload_n hC 2 dX7_step_80 rfl rfl ?_
      refine cv_bipush (v := 43) hC dX7_step_81 cb_bipush_43 ?_
      refine cv_icmp_ne (tgt := 113) hC dX7_step_83 (by decide) ?_ ?_
      · exact cv_sub [3, 2, 1, 0] rfl (J_X7_step_b113 hC v2 v4 v5 s3)
      · refine cv_iload hC 0 dX7_step_86 rfl ?_
        refine cv_bipush (v := 6) hC dX7_step_88 cb_bipush_6 ?_
        refine cv_icmp_ge (tgt := 113) hC dX7_step_90 (by decide) ?_ ?_
        · exact cv_sub [3, 2, 1, 0] rfl (J_X7_step_b113 hC v2 v4 v5 s3)
        · refine cv_aload_n hC 3 dX7_step_93 rfl rfl ?_
          refine cv_getr hC (fg_X7_25_5 G) dX7_step_94 ?_
          refine cv_bipush (v := 8) hC dX7_step_97 cb_bipush_8 ?_
          refine cv_iload hC 0 dX7_step_99 rfl ?_
          refine cv_iadd hC dX7_step_101 ?_
          refine cv_aload_n hC 3 dX7_step_102 rfl rfl ?_
          refine cv_getr hC (fg_X7_25_5 G) dX7_step_103 ?_
          refine cv_iload hC 1 dX7_step_106 rfl ?_
          refine cv_iald hC (cv_a26 G) dX7_step_108 (fun v11 => ?_)
          refine cv_iast hC (cv_a26 G) dX7_step_109 (fun s12 => ?_)
          refine cv_goto (tgt := 162) hC dX7_step_110 (by decide) ?_
          exact cv_vret hC dX7_step_162
    · refine cv_aload_n hC 3 dX7_step_57 rfl rfl ?_
      refine cv_getr hC (fg_X7_25_5 G) dX7_step_58 ?_
      refine cv_iload hC 1 dX7_step_61 rfl ?_
      refine cv_bipush (v := 10) hC dX7_step_63 cb_bipush_10 ?_
      refine cv_idiv hC dX7_step_65 (by decide) ?_
      refine cv_aload_n hC 3 dX7_step_66 rfl rfl ?_
      refine cv_getr hC (fg_X7_25_5 G) dX7_step_67 ?_
      refine cv_iload hC 1 dX7_step_70 rfl ?_
      refine cv_bipush (v := 10) hC dX7_step_72 cb_bipush_10 ?_
      refine cv_irem hC dX7_step_74 (by decide) ?_
      refine cv_iald hC (cv_a26 G) dX7_step_75 (fun v13 => ?_)
      refine cv_iast hC (cv_a26 G) dX7_step_76 (fun s14 => ?_)
      refine cv_goto (tgt := 162) hC dX7_step_77 (by decide) ?_
      exact cv_vret hC dX7_step_162
  · refine cv_aload_n hC 3 dX7_step_40 rfl rfl ?_
    refine cv_getr hC (fg_X7_25_5 G) dX7_step_41 ?_
    refine cv_iload hC 1 dX7_step_44 rfl ?_
    refine cv_iconst (v := (-1)) hC dX7_step_46 cb_iconst_m1 ?_
    refine cv_iast hC (cv_a26 G) dX7_step_47 (fun s15 => ?_)
    refine cv_goto (tgt := 162) hC dX7_step_48 (by decide) ?_
    exact cv_vret hC dX7_step_162
set_option maxRecDepth 20000 in
set_option maxHeartbeats 2000000 in
theorem M_X7_step (LL : Launch) (G : cv_G) (l1 : Int32) (l2 : Int32) (σ : cv_St) : cv_MV LL G yX7_step cX7_step 6 2 43 [.ref (G.1 5), .int l1, .int l2] σ (F_X7_step l1 l2 σ) :=
  cv_mkV (by decide) (Nat.le_of_ble_eq_true rfl) (fun X hC => J_X7_step hC l1 l2 σ)
/-! X7_keptBy -/
set_option maxRecDepth 20000 in
set_option maxHeartbeats 2000000 in
theorem J_X7_keptBy_b173 {X : cv_X} {G : cv_G} {LL : Launch} (hC : cv_C X G LL RX7 cX7_keptBy 5 (some .int) { frames := 3, cells := 0, slots := 0, locals := 68 }) (k147 : Int32 → Int32 → cv_St → Option (Int32 × cv_St)) (hk147 : ∀ (l2 : Int32) (l3 : Int32)  σ, cv_J X G 5 0 0 (cv_QI X G) 147 [(0, .ref (G.1 5)), (2, .int l2), (3, .int l3)] [] σ (k147 l2 l3 σ)) (l2 : Int32) (l3 : Int32) (σ : cv_St) : cv_J X G 5 0 0 (cv_QI X G) 173 [(0, .ref (G.1 5)), (2, .int l2), (3, .int l3)] [] σ (F_X7_keptBy_b173 k147 l2 l3 σ) := by
  unfold F_X7_keptBy_b173
  refine cv_iinc (lv' := [(3, .int (l3 + Int32.ofInt 1)), (0, .ref (G.1 5)), (2, .int l2)]) hC 2 dX7_keptBy_173 rfl (by decide) rfl ?_
  refine cv_goto (tgt := 147) hC dX7_keptBy_176 (by decide) ?_
  exact cv_sub [1, 2, 0] rfl (hk147 l2 (l3 + Int32.ofInt 1) σ)
set_option maxRecDepth 20000 in
set_option maxHeartbeats 2000000 in
theorem I_X7_keptBy_b147 {X : cv_X} {G : cv_G} {LL : Launch} (hC : cv_C X G LL RX7 cX7_keptBy 5 (some .int) { frames := 3, cells := 0, slots := 0, locals := 68 }) (k147 : Int32 → Int32 → cv_St → Option (Int32 × cv_St)) (hk147 : ∀ (l2 : Int32) (l3 : Int32)  σ, cv_J X G 5 0 0 (cv_QI X G) 147 [(0, .ref (G.1 5)), (2, .int l2), (3, .int l3)] [] σ (k147 l2 l3 σ)) (l2 : Int32) (l3 : Int32) (σ : cv_St) : cv_J X G 5 0 0 (cv_QI X G) 147 [(0, .ref (G.1 5)), (2, .int l2), (3, .int l3)] [] σ (B_X7_keptBy_b147 k147 l2 l3 σ) := by
  unfold B_X7_keptBy_b147
  refine cv_iload_n hC 2 dX7_keptBy_147 rfl rfl ?_
  refine cv_bipush (v := 8) hC dX7_keptBy_148 cb_bipush_8 ?_
  refine cv_icmp_ge (tgt := 179) hC dX7_keptBy_150 (by decide) ?_ ?_
  · refine cv_iload_n hC 1 dX7_keptBy_179 rfl rfl ?_
    exact cv_iret hC dX7_keptBy_180
  · refine cv_aload_n hC 0 dX7_keptBy_153 rfl rfl ?_
    refine cv_getr hC (fg_X7_22_5 G) dX7_keptBy_154 ?_
    refine cv_sipush (v := 196) hC dX7_keptBy_157 cb_sipush_196 ?_
    refine cv_iload_n hC 2 dX7_keptBy_160 rfl rfl ?_
    refine cv_iadd hC dX7_keptBy_161 ?_
    refine cv_iald hC (cv_a25 G) dX7_keptBy_162 (fun v6 => ?_)
    refine cv_iload_n hC 2 dX7_keptBy_163 rfl rfl ?_
    refine cv_icmp_ne (tgt := 173) hC dX7_keptBy_164 (by decide) ?_ ?_
    · exact cv_sub [0, 1, 2] rfl (J_X7_keptBy_b173 hC k147 hk147 l2 l3 σ)
    · refine cv_iload_n hC 1 dX7_keptBy_167 rfl rfl ?_
      refine cv_iconst (v := 1) hC dX7_keptBy_168 cb_iconst_1 ?_
      refine cv_iload_n hC 2 dX7_keptBy_169 rfl rfl ?_
      refine cv_ishl hC dX7_keptBy_170 ?_
      refine cv_ior hC dX7_keptBy_171 ?_
      refine cv_istore_n (lv' := [(2, .int (l2 ||| (1 <<< (l3 &&& 31)))), (0, .ref (G.1 5)), (3, .int l3)]) hC dX7_keptBy_172 rfl (by decide) rfl ?_
      exact cv_sub [1, 0, 2] rfl (J_X7_keptBy_b173 hC k147 hk147 (l2 ||| (1 <<< (l3 &&& 31))) l3 σ)
set_option maxRecDepth 20000 in
set_option maxHeartbeats 2000000 in
theorem J_X7_keptBy_b147 {X : cv_X} {G : cv_G} {LL : Launch} (hC : cv_C X G LL RX7 cX7_keptBy 5 (some .int) { frames := 3, cells := 0, slots := 0, locals := 68 }) : ∀ (n : Nat) (l2 : Int32) (l3 : Int32) (σ : cv_St), cv_J X G 5 0 0 (cv_QI X G) 147 [(0, .ref (G.1 5)), (2, .int l2), (3, .int l3)] [] σ (F_X7_keptBy_b147 n l2 l3 σ) := by
  intro n
  induction n with
  | zero => intro l2 l3 σ; exact cv_none
  | succ n ih => intro l2 l3 σ; exact I_X7_keptBy_b147 hC _ ih l2 l3 σ
set_option maxRecDepth 20000 in
set_option maxHeartbeats 2000000 in
theorem J_X7_keptBy_b137 {X : cv_X} {G : cv_G} {LL : Launch} (hC : cv_C X G LL RX7 cX7_keptBy 5 (some .int) { frames := 3, cells := 0, slots := 0, locals := 68 }) (k50 : Int32 → Int32 → cv_St → Option (Int32 × cv_St)) (hk50 : ∀ (l1 : Int32) (l2 : Int32)  σ, cv_J X G 5 0 0 (cv_QI X G) 50 [(0, .ref (G.1 5)), (1, .int l1), (2, .int l2)] [] σ (k50 l1 l2 σ)) (l1 : Int32) (l2 : Int32) (σ : cv_St) : cv_J X G 5 0 0 (cv_QI X G) 137 [(0, .ref (G.1 5)), (1, .int l1), (2, .int l2)] [] σ (F_X7_keptBy_b137 k50 l1 l2 σ) := by
  unfold F_X7_keptBy_b137
  refine cv_iinc (lv' := [(2, .int (l2 + Int32.ofInt 1)), (0, .ref (G.1 5)), (1, .int l1)]) hC 2 dX7_keptBy_137 rfl (by decide) rfl ?_
  refine cv_goto (tgt := 50) hC dX7_keptBy_140 (by decide) ?_
  exact cv_sub [1, 2, 0] rfl (hk50 l1 (l2 + Int32.ofInt 1) σ)
set_option maxRecDepth 20000 in
set_option maxHeartbeats 2000000 in
theorem I_X7_keptBy_b50 {X : cv_X} {G : cv_G} {LL : Launch} (hC : cv_C X G LL RX7 cX7_keptBy 5 (some .int) { frames := 3, cells := 0, slots := 0, locals := 68 }) (k50 : Int32 → Int32 → cv_St → Option (Int32 × cv_St)) (hk50 : ∀ (l1 : Int32) (l2 : Int32)  σ, cv_J X G 5 0 0 (cv_QI X G) 50 [(0, .ref (G.1 5)), (1, .int l1), (2, .int l2)] [] σ (k50 l1 l2 σ)) (l1 : Int32) (l2 : Int32) (σ : cv_St) : cv_J X G 5 0 0 (cv_QI X G) 50 [(0, .ref (G.1 5)), (1, .int l1), (2, .int l2)] [] σ (B_X7_keptBy_b50 k50 l1 l2 σ) := by
  unfold B_X7_keptBy_b50
  refine cv_iload_n hC 2 dX7_keptBy_50 rfl rfl ?_
  refine cv_aload_n hC 0 dX7_keptBy_51 rfl rfl ?_
  refine cv_getr hC (fg_X7_32_5 G) dX7_keptBy_52 ?_
  refine cv_getr hC (fg_X7_53_2 G) dX7_keptBy_55 ?_
  refine cv_iload_n hC 1 dX7_keptBy_58 rfl rfl ?_
  refine cv_iald hC (cv_a14 G) dX7_keptBy_59 (fun v5 => ?_)
  refine cv_icmp_ge (tgt := 143) hC dX7_keptBy_60 (by decide) ?_ ?_
  · refine cv_iconst (v := 0) hC dX7_keptBy_143 cb_iconst_0 ?_
    refine cv_istore_n (lv' := [(2, .int 0), (0, .ref (G.1 5)), (1, .int l1)]) hC dX7_keptBy_144 rfl (by decide) rfl ?_
    refine cv_iconst (v := 0) hC dX7_keptBy_145 cb_iconst_0 ?_
    refine cv_istore_n (lv' := [(3, .int 0), (2, .int 0), (0, .ref (G.1 5)), (1, .int l1)]) hC dX7_keptBy_146 rfl (by decide) rfl ?_
    exact cv_sub [2, 1, 0] rfl (J_X7_keptBy_b147 hC 1000 0 0 σ)
  · refine cv_aload_n hC 0 dX7_keptBy_63 rfl rfl ?_
    refine cv_getr hC (fg_X7_36_5 G) dX7_keptBy_64 ?_
    refine cv_iload_n hC 1 dX7_keptBy_67 rfl rfl ?_
    refine cv_iload_n hC 2 dX7_keptBy_68 rfl rfl ?_
    refine cv_callVi (ob := 4) hC [.int l1, .int l2] [] (M_X2_reaches LL G l1 l2 σ) ln_X7_79 vm_X2_reaches (ob_4 G) rfl rfl (Nat.le_of_ble_eq_true rfl) ⟨Nat.le_of_ble_eq_true rfl, Nat.le_of_ble_eq_true rfl⟩ ⟨Nat.le_of_ble_eq_true rfl, Nat.le_of_ble_eq_true rfl⟩ dX7_keptBy_69 (fun v8 s7 => ?_)
    refine cv_if_eq (tgt := 137) hC dX7_keptBy_72 (by decide) ?_ ?_
    · exact cv_sub [0, 1, 2] rfl (J_X7_keptBy_b137 hC k50 hk50 l1 l2 s7)
    · refine cv_aload_n hC 0 dX7_keptBy_75 rfl rfl ?_
      refine cv_getr hC (fg_X7_22_5 G) dX7_keptBy_76 ?_
      refine cv_iload_n hC 2 dX7_keptBy_79 rfl rfl ?_
      refine cv_bipush (v := 14) hC dX7_keptBy_80 cb_bipush_14 ?_
      refine cv_imul hC dX7_keptBy_82 ?_
      refine cv_aload_n hC 0 dX7_keptBy_83 rfl rfl ?_
      refine cv_getr hC (fg_X7_25_5 G) dX7_keptBy_84 ?_
      refine cv_iconst (v := 0) hC dX7_keptBy_87 cb_iconst_0 ?_
      refine cv_bipush (v := 14) hC dX7_keptBy_88 cb_bipush_14 ?_
      refine cv_copyI hC ln_X7_84 sw_arraycopy.1 sw_arraycopy.2.1 sw_arraycopy.2.2 (cv_a25 G) (cv_a26 G) ⟨Nat.le_of_ble_eq_true rfl, Nat.le_of_ble_eq_true rfl⟩ dX7_keptBy_90 (fun s9 => ?_)
      refine cv_aload_n hC 0 dX7_keptBy_93 rfl rfl ?_
      refine cv_iload_n hC 1 dX7_keptBy_94 rfl rfl ?_
      refine cv_iload_n hC 2 dX7_keptBy_95 rfl rfl ?_
      refine cv_callVv (ob := 5) hC [.int l1, .int l2] [] (M_X7_step LL G l1 l2 s9) ln_X7_90 vm_X7_step (ob_5 G) rfl rfl (Nat.le_of_ble_eq_true rfl) ⟨Nat.le_of_ble_eq_true rfl, Nat.le_of_ble_eq_true rfl⟩ ⟨Nat.le_of_ble_eq_true rfl, Nat.le_of_ble_eq_true rfl⟩ dX7_keptBy_96 (fun s10 => ?_)
      refine cv_aload_n hC 0 dX7_keptBy_99 rfl rfl ?_
      refine cv_getr hC (fg_X7_32_5 G) dX7_keptBy_100 ?_
      refine cv_iload_n hC 1 dX7_keptBy_103 rfl rfl ?_
      refine cv_iload_n hC 2 dX7_keptBy_104 rfl rfl ?_
      refine cv_callVi (ob := 2) hC [.int l1, .int l2] [] (M_X0_next LL G l1 l2 s10) ln_X7_64 vm_X0_next (ob_2 G) rfl rfl (Nat.le_of_ble_eq_true rfl) ⟨Nat.le_of_ble_eq_true rfl, Nat.le_of_ble_eq_true rfl⟩ ⟨Nat.le_of_ble_eq_true rfl, Nat.le_of_ble_eq_true rfl⟩ dX7_keptBy_105 (fun v12 s11 => ?_)
      refine cv_istore_n (lv' := [(3, .int v12), (0, .ref (G.1 5)), (1, .int l1), (2, .int l2)]) hC dX7_keptBy_108 rfl (by decide) rfl ?_
      refine cv_aload_n hC 1 dX7_keptBy_109 rfl rfl ?_
      refine cv_getr hC (fg_X7_32_5 G) dX7_keptBy_110 ?_
      refine cv_iload_n hC 2 dX7_keptBy_113 rfl rfl ?_
      refine cv_iload_n hC 3 dX7_keptBy_114 rfl rfl ?_
      refine cv_callVi (ob := 2) hC [.int l1, .int l2] [] (M_X0_other LL G l1 l2 s11) ln_X7_72 vm_X0_other (ob_2 G) rfl rfl (Nat.le_of_ble_eq_true rfl) ⟨Nat.le_of_ble_eq_true rfl, Nat.le_of_ble_eq_true rfl⟩ ⟨Nat.le_of_ble_eq_true rfl, Nat.le_of_ble_eq_true rfl⟩ dX7_keptBy_115 (fun v14 s13 => ?_)
      refine cv_istore (lv' := [(4, .int v14), (3, .int v12), (0, .ref (G.1 5)), (1, .int l1), (2, .int l2)]) hC dX7_keptBy_118 (by decide) rfl ?_
      refine cv_aload_n hC 2 dX7_keptBy_120 rfl rfl ?_
      refine cv_iload_n hC 1 dX7_keptBy_121 rfl rfl ?_
      refine cv_callVv (ob := 5) hC [.int v12] [] (M_X7_merge LL G v12 s13) ln_X7_75 vm_X7_merge (ob_5 G) rfl rfl (Nat.le_of_ble_eq_true rfl) ⟨Nat.le_of_ble_eq_true rfl, Nat.le_of_ble_eq_true rfl⟩ ⟨Nat.le_of_ble_eq_true rfl, Nat.le_of_ble_eq_true rfl⟩ dX7_keptBy_122 (fun s15 => ?_)
      refine cv_iload hC 0 dX7_keptBy_125 rfl ?_
      refine cv_iload_n hC 1 dX7_keptBy_127 rfl rfl ?_
      refine cv_icmp_eq (tgt := 137) hC dX7_keptBy_128 (by decide) ?_ ?_
      · exact cv_sub [2, 3, 4] rfl (J_X7_keptBy_b137 hC k50 hk50 l1 l2 s15)
      · refine cv_aload_n hC 2 dX7_keptBy_131 rfl rfl ?_
        refine cv_iload hC 0 dX7_keptBy_132 rfl ?_
        refine cv_callVv (ob := 5) hC [.int v14] [] (M_X7_merge LL G v14 s15) ln_X7_75 vm_X7_merge (ob_5 G) rfl rfl (Nat.le_of_ble_eq_true rfl) ⟨Nat.le_of_ble_eq_true rfl, Nat.le_of_ble_eq_true rfl⟩ ⟨Nat.le_of_ble_eq_true rfl, Nat.le_of_ble_eq_true rfl⟩ dX7_keptBy_134 (fun s16 => ?_)
        exact cv_sub [2, 3, 4] rfl (J_X7_keptBy_b137 hC k50 hk50 l1 l2 s16)
set_option maxRecDepth 20000 in
set_option maxHeartbeats 2000000 in
theorem J_X7_keptBy_b50 {X : cv_X} {G : cv_G} {LL : Launch} (hC : cv_C X G LL RX7 cX7_keptBy 5 (some .int) { frames := 3, cells := 0, slots := 0, locals := 68 }) : ∀ (n : Nat) (l1 : Int32) (l2 : Int32) (σ : cv_St), cv_J X G 5 0 0 (cv_QI X G) 50 [(0, .ref (G.1 5)), (1, .int l1), (2, .int l2)] [] σ (F_X7_keptBy_b50 n l1 l2 σ) := by
  intro n
  induction n with
  | zero => intro l1 l2 σ; exact cv_none
  | succ n ih => intro l1 l2 σ; exact I_X7_keptBy_b50 hC _ ih l1 l2 σ
set_option maxRecDepth 20000 in
set_option maxHeartbeats 2000000 in
theorem J_X7_keptBy_b24 {X : cv_X} {G : cv_G} {LL : Launch} (hC : cv_C X G LL RX7 cX7_keptBy 5 (some .int) { frames := 3, cells := 0, slots := 0, locals := 68 }) (k2 : Int32 → Int32 → cv_St → Option (Int32 × cv_St)) (hk2 : ∀ (l1 : Int32) (l2 : Int32)  σ, cv_J X G 5 0 0 (cv_QI X G) 2 [(0, .ref (G.1 5)), (1, .int l1), (2, .int l2)] [] σ (k2 l1 l2 σ)) (l1 : Int32) (l2 : Int32) (t0 : Int32) (t1 : Int32) (σ : cv_St) : cv_J X G 5 0 0 (cv_QI X G) 24 [(0, .ref (G.1 5)), (1, .int l1), (2, .int l2)] [.int t0, .int t1, .ref (G.1 26)] σ (F_X7_keptBy_b24 k2 l1 l2 t0 t1 σ) := by
  unfold F_X7_keptBy_b24
  refine cv_iast hC (cv_a26 G) dX7_keptBy_24 (fun s17 => ?_)
  refine cv_iinc (lv' := [(2, .int (l2 + Int32.ofInt 1)), (0, .ref (G.1 5)), (1, .int l1)]) hC 2 dX7_keptBy_25 rfl (by decide) rfl ?_
  refine cv_goto (tgt := 2) hC dX7_keptBy_28 (by decide) ?_
  exact cv_sub [1, 2, 0] rfl (hk2 l1 (l2 + Int32.ofInt 1) s17)
set_option maxRecDepth 20000 in
set_option maxHeartbeats 2000000 in
theorem I_X7_keptBy_b2 {X : cv_X} {G : cv_G} {LL : Launch} (hC : cv_C X G LL RX7 cX7_keptBy 5 (some .int) { frames := 3, cells := 0, slots := 0, locals := 68 }) (k2 : Int32 → Int32 → cv_St → Option (Int32 × cv_St)) (hk2 : ∀ (l1 : Int32) (l2 : Int32)  σ, cv_J X G 5 0 0 (cv_QI X G) 2 [(0, .ref (G.1 5)), (1, .int l1), (2, .int l2)] [] σ (k2 l1 l2 σ)) (l1 : Int32) (l2 : Int32) (σ : cv_St) : cv_J X G 5 0 0 (cv_QI X G) 2 [(0, .ref (G.1 5)), (1, .int l1), (2, .int l2)] [] σ (B_X7_keptBy_b2 k2 l1 l2 σ) := by
  unfold B_X7_keptBy_b2
  refine cv_iload_n hC 2 dX7_keptBy_2 rfl rfl ?_
  refine cv_bipush (v := 14) hC dX7_keptBy_3 cb_bipush_14 ?_
  refine cv_icmp_ge (tgt := 31) hC dX7_keptBy_5 (by decide) ?_ ?_
  · refine cv_aload_n hC 0 dX7_keptBy_31 rfl rfl ?_
    refine cv_iconst (v := 0) hC dX7_keptBy_32 cb_iconst_0 ?_
    refine cv_puti hC (fp_X7_28_5 G) dX7_keptBy_33 (fun s1 => ?_)
    refine cv_aload_n hC 0 dX7_keptBy_36 rfl rfl ?_
    refine cv_aload_n hC 0 dX7_keptBy_37 rfl rfl ?_
    refine cv_getr hC (fg_X7_32_5 G) dX7_keptBy_38 ?_
    refine cv_iload_n hC 1 dX7_keptBy_41 rfl rfl ?_
    refine cv_callVi (ob := 2) hC [.int l1] [.ref (G.1 5)] (M_X0_entry LL G l1 s1) ln_X7_48 vm_X0_entry (ob_2 G) rfl rfl (Nat.le_of_ble_eq_true rfl) ⟨Nat.le_of_ble_eq_true rfl, Nat.le_of_ble_eq_true rfl⟩ ⟨Nat.le_of_ble_eq_true rfl, Nat.le_of_ble_eq_true rfl⟩ dX7_keptBy_42 (fun v3 s2 => ?_)
    refine cv_callVv (ob := 5) hC [.int v3] [] (M_X7_merge LL G v3 s2) ln_X7_75 vm_X7_merge (ob_5 G) rfl rfl (Nat.le_of_ble_eq_true rfl) ⟨Nat.le_of_ble_eq_true rfl, Nat.le_of_ble_eq_true rfl⟩ ⟨Nat.le_of_ble_eq_true rfl, Nat.le_of_ble_eq_true rfl⟩ dX7_keptBy_45 (fun s4 => ?_)
    refine cv_iconst (v := 0) hC dX7_keptBy_48 cb_iconst_0 ?_
    refine cv_istore_n (lv' := [(2, .int 0), (0, .ref (G.1 5)), (1, .int l1)]) hC dX7_keptBy_49 rfl (by decide) rfl ?_
    exact cv_sub [1, 2, 0] rfl (J_X7_keptBy_b50 hC 1000 l1 0 s4)
  · refine cv_aload_n hC 0 dX7_keptBy_8 rfl rfl ?_
    refine cv_getr hC (fg_X7_25_5 G) dX7_keptBy_9 ?_
    refine cv_iload_n hC 2 dX7_keptBy_12 rfl rfl ?_
    refine cv_iload_n hC 2 dX7_keptBy_13 rfl rfl ?_
    refine cv_bipush (v := 8) hC dX7_keptBy_14 cb_bipush_8 ?_
    refine cv_icmp_ge (tgt := 23) hC dX7_keptBy_16 (by decide) ?_ ?_
    · refine cv_iconst (v := (-1)) hC dX7_keptBy_23 cb_iconst_m1 ?_
      exact cv_sub [0, 1, 2] rfl (J_X7_keptBy_b24 hC k2 hk2 l1 l2 (-1) l2 σ)
    · refine cv_iload_n hC 2 dX7_keptBy_19 rfl rfl ?_
      refine cv_goto (tgt := 24) hC dX7_keptBy_20 (by decide) ?_
      exact cv_sub [0, 1, 2] rfl (J_X7_keptBy_b24 hC k2 hk2 l1 l2 l2 l2 σ)
set_option maxRecDepth 20000 in
set_option maxHeartbeats 2000000 in
theorem J_X7_keptBy_b2 {X : cv_X} {G : cv_G} {LL : Launch} (hC : cv_C X G LL RX7 cX7_keptBy 5 (some .int) { frames := 3, cells := 0, slots := 0, locals := 68 }) : ∀ (n : Nat) (l1 : Int32) (l2 : Int32) (σ : cv_St), cv_J X G 5 0 0 (cv_QI X G) 2 [(0, .ref (G.1 5)), (1, .int l1), (2, .int l2)] [] σ (F_X7_keptBy_b2 n l1 l2 σ) := by
  intro n
  induction n with
  | zero => intro l1 l2 σ; exact cv_none
  | succ n ih => intro l1 l2 σ; exact I_X7_keptBy_b2 hC _ ih l1 l2 σ
set_option maxRecDepth 20000 in
set_option maxHeartbeats 2000000 in
theorem J_X7_keptBy {X : cv_X} {G : cv_G} {LL : Launch} (hC : cv_C X G LL RX7 cX7_keptBy 5 (some .int) { frames := 3, cells := 0, slots := 0, locals := 68 }) (l1 : Int32) (σ : cv_St) : cv_J X G 5 0 0 (cv_QI X G) 0 [(0, .ref (G.1 5)), (1, .int l1)] [] σ (F_X7_keptBy l1 σ) := by
  unfold F_X7_keptBy
  refine cv_iconst (v := 0) hC dX7_keptBy_0 cb_iconst_0 ?_
  refine cv_istore_n (lv' := [(2, .int 0), (0, .ref (G.1 5)), (1, .int l1)]) hC dX7_keptBy_1 rfl (by decide) rfl ?_
  exact cv_sub [1, 2, 0] rfl (J_X7_keptBy_b2 hC 1000 l1 0 σ)
set_option maxRecDepth 20000 in
set_option maxHeartbeats 2000000 in
theorem M_X7_keptBy (LL : Launch) (G : cv_G) (l1 : Int32) (σ : cv_St) : cv_MI LL G yX7_keptBy cX7_keptBy 5 (some .int) 3 68 [.ref (G.1 5), .int l1] σ (F_X7_keptBy l1 σ) :=
  cv_mkI (by decide) (Nat.le_of_ble_eq_true rfl) (fun X hC => J_X7_keptBy hC l1 σ)
/-! X7_growth -/
set_option maxRecDepth 20000 in
set_option maxHeartbeats 2000000 in
theorem J_X7_growth {X : cv_X} {G : cv_G} {LL : Launch} (hC : cv_C X G LL RX7 cX7_growth 1 (some .int) { frames := 0, cells := 0, slots := 0, locals := 0 }) (l0 : Int32) (σ : cv_St) : cv_J X G 1 0 0 (cv_QI X G) 0 [(0, .int l0)] [] σ (F_X7_growth l0 σ) := by
  unfold F_X7_growth
  refine cv_iload_n hC 0 dX7_growth_0 rfl rfl ?_
  refine cv_bipush (v := 43) hC dX7_growth_1 cb_bipush_43 ?_
  refine cv_icmp_ne (tgt := 8) hC dX7_growth_3 (by decide) ?_ ?_
  · refine cv_iload_n hC 0 dX7_growth_8 rfl rfl ?_
    refine cv_bipush (v := 45) hC dX7_growth_9 cb_bipush_45 ?_
    refine cv_icmp_ne (tgt := 18) hC dX7_growth_11 (by decide) ?_ ?_
    · refine cv_iconst (v := 0) hC dX7_growth_18 cb_iconst_0 ?_
      exact cv_iret hC dX7_growth_19
    · refine cv_iconst (v := (-1)) hC dX7_growth_14 cb_iconst_m1 ?_
      refine cv_goto (tgt := 19) hC dX7_growth_15 (by decide) ?_
      exact cv_iret hC dX7_growth_19
  · refine cv_iconst (v := 1) hC dX7_growth_6 cb_iconst_1 ?_
    exact cv_iret hC dX7_growth_7
set_option maxRecDepth 20000 in
set_option maxHeartbeats 2000000 in
theorem M_X7_growth (LL : Launch) (G : cv_G) (l0 : Int32) (σ : cv_St) : cv_MI LL G yX7_growth cX7_growth 1 (some .int) 0 0 [.int l0] σ (F_X7_growth l0 σ) :=
  cv_mkI (by decide) (Nat.le_of_ble_eq_true rfl) (fun X hC => J_X7_growth hC l0 σ)
/-! X7_agrees -/
set_option maxRecDepth 20000 in
set_option maxHeartbeats 2000000 in
theorem J_X7_agrees_b17 {X : cv_X} {G : cv_G} {LL : Launch} (hC : cv_C X G LL RX7 cX7_agrees 3 (some .boolean) { frames := 0, cells := 0, slots := 0, locals := 0 }) (l1 : Int32) (l2 : Int32) (σ : cv_St) : cv_J X G 3 0 0 (cv_QI X G) 17 [(0, .ref (G.1 5)), (1, .int l1), (2, .int l2)] [] σ (F_X7_agrees_b17 l1 l2 σ) := by
  unfold F_X7_agrees_b17
  refine cv_aload_n hC 0 dX7_agrees_17 rfl rfl ?_
  refine cv_getr hC (fg_X7_19_5 G) dX7_agrees_18 ?_
  refine cv_iload_n hC 1 dX7_agrees_21 rfl rfl ?_
  refine cv_iald hC (cv_a24 G) dX7_agrees_22 (fun v2 => ?_)
  refine cv_iload_n hC 2 dX7_agrees_23 rfl rfl ?_
  refine cv_icmp_ne (tgt := 31) hC dX7_agrees_24 (by decide) ?_ ?_
  · refine cv_iconst (v := 0) hC dX7_agrees_31 cb_iconst_0 ?_
    exact cv_zret hC dX7_agrees_32
  · refine cv_iconst (v := 1) hC dX7_agrees_27 cb_iconst_1 ?_
    refine cv_goto (tgt := 32) hC dX7_agrees_28 (by decide) ?_
    exact cv_zret hC dX7_agrees_32
set_option maxRecDepth 20000 in
set_option maxHeartbeats 2000000 in
theorem J_X7_agrees {X : cv_X} {G : cv_G} {LL : Launch} (hC : cv_C X G LL RX7 cX7_agrees 3 (some .boolean) { frames := 0, cells := 0, slots := 0, locals := 0 }) (l1 : Int32) (l2 : Int32) (σ : cv_St) : cv_J X G 3 0 0 (cv_QI X G) 0 [(0, .ref (G.1 5)), (1, .int l1), (2, .int l2)] [] σ (F_X7_agrees l1 l2 σ) := by
  unfold F_X7_agrees
  refine cv_aload_n hC 0 dX7_agrees_0 rfl rfl ?_
  refine cv_getr hC (fg_X7_19_5 G) dX7_agrees_1 ?_
  refine cv_iload_n hC 1 dX7_agrees_4 rfl rfl ?_
  refine cv_iald hC (cv_a24 G) dX7_agrees_5 (fun v1 => ?_)
  refine cv_iconst (v := (-1)) hC dX7_agrees_6 cb_iconst_m1 ?_
  refine cv_icmp_ne (tgt := 17) hC dX7_agrees_7 (by decide) ?_ ?_
  · exact cv_sub [0, 1, 2] rfl (J_X7_agrees_b17 hC l1 l2 σ)
  · refine cv_aload_n hC 0 dX7_agrees_10 rfl rfl ?_
    refine cv_getr hC (fg_X7_19_5 G) dX7_agrees_11 ?_
    refine cv_iload_n hC 1 dX7_agrees_14 rfl rfl ?_
    refine cv_iload_n hC 2 dX7_agrees_15 rfl rfl ?_
    refine cv_iast hC (cv_a24 G) dX7_agrees_16 (fun s3 => ?_)
    exact cv_sub [0, 1, 2] rfl (J_X7_agrees_b17 hC l1 l2 s3)
set_option maxRecDepth 20000 in
set_option maxHeartbeats 2000000 in
theorem M_X7_agrees (LL : Launch) (G : cv_G) (l1 : Int32) (l2 : Int32) (σ : cv_St) : cv_MI LL G yX7_agrees cX7_agrees 3 (some .boolean) 0 0 [.ref (G.1 5), .int l1, .int l2] σ (F_X7_agrees l1 l2 σ) :=
  cv_mkI (by decide) (Nat.le_of_ble_eq_true rfl) (fun X hC => J_X7_agrees hC l1 l2 σ)
/-! X7_measure -/
set_option maxRecDepth 20000 in
set_option maxHeartbeats 2000000 in
theorem J_X7_measure_b148 {X : cv_X} {G : cv_G} {LL : Launch} (hC : cv_C X G LL RX7 cX7_measure 5 (some .boolean) { frames := 2, cells := 0, slots := 0, locals := 48 }) (k46 : Int32 → Int32 → Int32 → cv_St → Option (Int32 × cv_St)) (hk46 : ∀ (l1 : Int32) (l2 : Int32) (l3 : Int32)  σ, cv_J X G 5 0 0 (cv_QI X G) 46 [(0, .ref (G.1 5)), (1, .int l1), (2, .int l2), (3, .int l3)] [] σ (k46 l1 l2 l3 σ)) (l1 : Int32) (l2 : Int32) (l3 : Int32) (σ : cv_St) : cv_J X G 5 0 0 (cv_QI X G) 148 [(0, .ref (G.1 5)), (1, .int l1), (2, .int l2), (3, .int l3)] [] σ (F_X7_measure_b148 k46 l1 l2 l3 σ) := by
  unfold F_X7_measure_b148
  refine cv_iinc (lv' := [(3, .int (l3 + Int32.ofInt 1)), (0, .ref (G.1 5)), (1, .int l1), (2, .int l2)]) hC 3 dX7_measure_148 rfl (by decide) rfl ?_
  refine cv_goto (tgt := 46) hC dX7_measure_151 (by decide) ?_
  exact cv_sub [1, 2, 3, 0] rfl (hk46 l1 l2 (l3 + Int32.ofInt 1) σ)
set_option maxRecDepth 20000 in
set_option maxHeartbeats 2000000 in
theorem I_X7_measure_b46 {X : cv_X} {G : cv_G} {LL : Launch} (hC : cv_C X G LL RX7 cX7_measure 5 (some .boolean) { frames := 2, cells := 0, slots := 0, locals := 48 }) (k46 : Int32 → Int32 → Int32 → cv_St → Option (Int32 × cv_St)) (hk46 : ∀ (l1 : Int32) (l2 : Int32) (l3 : Int32)  σ, cv_J X G 5 0 0 (cv_QI X G) 46 [(0, .ref (G.1 5)), (1, .int l1), (2, .int l2), (3, .int l3)] [] σ (k46 l1 l2 l3 σ)) (l1 : Int32) (l2 : Int32) (l3 : Int32) (σ : cv_St) : cv_J X G 5 0 0 (cv_QI X G) 46 [(0, .ref (G.1 5)), (1, .int l1), (2, .int l2), (3, .int l3)] [] σ (B_X7_measure_b46 k46 l1 l2 l3 σ) := by
  unfold B_X7_measure_b46
  refine cv_iload_n hC 3 dX7_measure_46 rfl rfl ?_
  refine cv_aload_n hC 0 dX7_measure_47 rfl rfl ?_
  refine cv_getr hC (fg_X7_32_5 G) dX7_measure_48 ?_
  refine cv_getr hC (fg_X7_53_2 G) dX7_measure_51 ?_
  refine cv_iload_n hC 1 dX7_measure_54 rfl rfl ?_
  refine cv_iald hC (cv_a14 G) dX7_measure_55 (fun v4 => ?_)
  refine cv_icmp_ge (tgt := 154) hC dX7_measure_56 (by decide) ?_ ?_
  · refine cv_aload_n hC 0 dX7_measure_154 rfl rfl ?_
    refine cv_getr hC (fg_X7_19_5 G) dX7_measure_155 ?_
    refine cv_iload_n hC 2 dX7_measure_158 rfl rfl ?_
    refine cv_bipush (v := 14) hC dX7_measure_159 cb_bipush_14 ?_
    refine cv_iadd hC dX7_measure_161 ?_
    refine cv_iald hC (cv_a24 G) dX7_measure_162 (fun v5 => ?_)
    refine cv_if_ne (tgt := 170) hC dX7_measure_163 (by decide) ?_ ?_
    · refine cv_iconst (v := 0) hC dX7_measure_170 cb_iconst_0 ?_
      exact cv_zret hC dX7_measure_171
    · refine cv_iconst (v := 1) hC dX7_measure_166 cb_iconst_1 ?_
      refine cv_goto (tgt := 171) hC dX7_measure_167 (by decide) ?_
      exact cv_zret hC dX7_measure_171
  · refine cv_aload_n hC 0 dX7_measure_59 rfl rfl ?_
    refine cv_getr hC (fg_X7_19_5 G) dX7_measure_60 ?_
    refine cv_iload_n hC 2 dX7_measure_63 rfl rfl ?_
    refine cv_iload_n hC 3 dX7_measure_64 rfl rfl ?_
    refine cv_iadd hC dX7_measure_65 ?_
    refine cv_iald hC (cv_a24 G) dX7_measure_66 (fun v6 => ?_)
    refine cv_iconst (v := (-1)) hC dX7_measure_67 cb_iconst_m1 ?_
    refine cv_icmp_eq (tgt := 148) hC dX7_measure_68 (by decide) ?_ ?_
    · exact cv_sub [0, 1, 2, 3] rfl (J_X7_measure_b148 hC k46 hk46 l1 l2 l3 σ)
    · refine cv_aload_n hC 0 dX7_measure_71 rfl rfl ?_
      refine cv_getr hC (fg_X7_19_5 G) dX7_measure_72 ?_
      refine cv_iload_n hC 2 dX7_measure_75 rfl rfl ?_
      refine cv_iload_n hC 3 dX7_measure_76 rfl rfl ?_
      refine cv_iadd hC dX7_measure_77 ?_
      refine cv_iald hC (cv_a24 G) dX7_measure_78 (fun v7 => ?_)
      refine cv_aload_n hC 0 dX7_measure_79 rfl rfl ?_
      refine cv_getr hC (fg_X7_32_5 G) dX7_measure_80 ?_
      refine cv_iload_n hC 1 dX7_measure_83 rfl rfl ?_
      refine cv_iload_n hC 3 dX7_measure_84 rfl rfl ?_
      refine cv_callVi (ob := 2) hC [.int l1, .int l3] [.int v7] (M_X0_kindAt LL G l1 l3 σ) ln_X7_56 vm_X0_kindAt (ob_2 G) rfl rfl (Nat.le_of_ble_eq_true rfl) ⟨Nat.le_of_ble_eq_true rfl, Nat.le_of_ble_eq_true rfl⟩ ⟨Nat.le_of_ble_eq_true rfl, Nat.le_of_ble_eq_true rfl⟩ dX7_measure_85 (fun v9 s8 => ?_)
      refine cv_callSi hC [.int v9] [.int v7] (M_X7_growth LL G v9 s8) ln_X7_60 vm_X7_growth rfl rfl (Nat.le_of_ble_eq_true rfl) ⟨Nat.le_of_ble_eq_true rfl, Nat.le_of_ble_eq_true rfl⟩ ⟨Nat.le_of_ble_eq_true rfl, Nat.le_of_ble_eq_true rfl⟩ dX7_measure_88 (fun v11 s10 => ?_)
      refine cv_iadd hC dX7_measure_91 ?_
      refine cv_istore (lv' := [(4, .int (v7 + v11)), (0, .ref (G.1 5)), (1, .int l1), (2, .int l2), (3, .int l3)]) hC dX7_measure_92 (by decide) rfl ?_
      refine cv_iload hC 0 dX7_measure_94 rfl ?_
      refine cv_if_lt (tgt := 146) hC dX7_measure_96 (by decide) ?_ ?_
      · refine cv_iconst (v := 0) hC dX7_measure_146 cb_iconst_0 ?_
        exact cv_zret hC dX7_measure_147
      · refine cv_iload hC 0 dX7_measure_99 rfl ?_
        refine cv_bipush (v := 6) hC dX7_measure_101 cb_bipush_6 ?_
        refine cv_icmp_gt (tgt := 146) hC dX7_measure_103 (by decide) ?_ ?_
        · refine cv_iconst (v := 0) hC dX7_measure_146 cb_iconst_0 ?_
          exact cv_zret hC dX7_measure_147
        · refine cv_aload_n hC 1 dX7_measure_106 rfl rfl ?_
          refine cv_iload_n hC 3 dX7_measure_107 rfl rfl ?_
          refine cv_aload_n hC 1 dX7_measure_108 rfl rfl ?_
          refine cv_getr hC (fg_X7_32_5 G) dX7_measure_109 ?_
          refine cv_iload_n hC 2 dX7_measure_112 rfl rfl ?_
          refine cv_iload_n hC 4 dX7_measure_113 rfl rfl ?_
          refine cv_callVi (ob := 2) hC [.int l1, .int l3] [.int l2, .ref (G.1 5)] (M_X0_next LL G l1 l3 s10) ln_X7_64 vm_X0_next (ob_2 G) rfl rfl (Nat.le_of_ble_eq_true rfl) ⟨Nat.le_of_ble_eq_true rfl, Nat.le_of_ble_eq_true rfl⟩ ⟨Nat.le_of_ble_eq_true rfl, Nat.le_of_ble_eq_true rfl⟩ dX7_measure_114 (fun v13 s12 => ?_)
          refine cv_iadd hC dX7_measure_117 ?_
          refine cv_iload hC 0 dX7_measure_118 rfl ?_
          refine cv_callVi (ob := 5) hC [.int (l2 + v13), .int (v7 + v11)] [] (M_X7_agrees LL G (l2 + v13) (v7 + v11) s12) ln_X7_68 vm_X7_agrees (ob_5 G) rfl rfl (Nat.le_of_ble_eq_true rfl) ⟨Nat.le_of_ble_eq_true rfl, Nat.le_of_ble_eq_true rfl⟩ ⟨Nat.le_of_ble_eq_true rfl, Nat.le_of_ble_eq_true rfl⟩ dX7_measure_120 (fun v15 s14 => ?_)
          refine cv_if_eq (tgt := 146) hC dX7_measure_123 (by decide) ?_ ?_
          · refine cv_iconst (v := 0) hC dX7_measure_146 cb_iconst_0 ?_
            exact cv_zret hC dX7_measure_147
          · refine cv_aload_n hC 1 dX7_measure_126 rfl rfl ?_
            refine cv_iload_n hC 3 dX7_measure_127 rfl rfl ?_
            refine cv_aload_n hC 1 dX7_measure_128 rfl rfl ?_
            refine cv_getr hC (fg_X7_32_5 G) dX7_measure_129 ?_
            refine cv_iload_n hC 2 dX7_measure_132 rfl rfl ?_
            refine cv_iload_n hC 4 dX7_measure_133 rfl rfl ?_
            refine cv_callVi (ob := 2) hC [.int l1, .int l3] [.int l2, .ref (G.1 5)] (M_X0_other LL G l1 l3 s14) ln_X7_72 vm_X0_other (ob_2 G) rfl rfl (Nat.le_of_ble_eq_true rfl) ⟨Nat.le_of_ble_eq_true rfl, Nat.le_of_ble_eq_true rfl⟩ ⟨Nat.le_of_ble_eq_true rfl, Nat.le_of_ble_eq_true rfl⟩ dX7_measure_134 (fun v17 s16 => ?_)
            refine cv_iadd hC dX7_measure_137 ?_
            refine cv_iload hC 0 dX7_measure_138 rfl ?_
            refine cv_callVi (ob := 5) hC [.int (l2 + v17), .int (v7 + v11)] [] (M_X7_agrees LL G (l2 + v17) (v7 + v11) s16) ln_X7_68 vm_X7_agrees (ob_5 G) rfl rfl (Nat.le_of_ble_eq_true rfl) ⟨Nat.le_of_ble_eq_true rfl, Nat.le_of_ble_eq_true rfl⟩ ⟨Nat.le_of_ble_eq_true rfl, Nat.le_of_ble_eq_true rfl⟩ dX7_measure_140 (fun v19 s18 => ?_)
            refine cv_if_ne (tgt := 148) hC dX7_measure_143 (by decide) ?_ ?_
            · exact cv_sub [1, 2, 3, 4] rfl (J_X7_measure_b148 hC k46 hk46 l1 l2 l3 s18)
            · refine cv_iconst (v := 0) hC dX7_measure_146 cb_iconst_0 ?_
              exact cv_zret hC dX7_measure_147
set_option maxRecDepth 20000 in
set_option maxHeartbeats 2000000 in
theorem J_X7_measure_b46 {X : cv_X} {G : cv_G} {LL : Launch} (hC : cv_C X G LL RX7 cX7_measure 5 (some .boolean) { frames := 2, cells := 0, slots := 0, locals := 48 }) : ∀ (n : Nat) (l1 : Int32) (l2 : Int32) (l3 : Int32) (σ : cv_St), cv_J X G 5 0 0 (cv_QI X G) 46 [(0, .ref (G.1 5)), (1, .int l1), (2, .int l2), (3, .int l3)] [] σ (F_X7_measure_b46 n l1 l2 l3 σ) := by
  intro n
  induction n with
  | zero => intro l1 l2 l3 σ; exact cv_none
  | succ n ih => intro l1 l2 l3 σ; exact I_X7_measure_b46 hC _ ih l1 l2 l3 σ
set_option maxRecDepth 20000 in
set_option maxHeartbeats 2000000 in
theorem I_X7_measure_b7 {X : cv_X} {G : cv_G} {LL : Launch} (hC : cv_C X G LL RX7 cX7_measure 5 (some .boolean) { frames := 2, cells := 0, slots := 0, locals := 48 }) (k7 : Int32 → Int32 → Int32 → cv_St → Option (Int32 × cv_St)) (hk7 : ∀ (l1 : Int32) (l2 : Int32) (l3 : Int32)  σ, cv_J X G 5 0 0 (cv_QI X G) 7 [(0, .ref (G.1 5)), (1, .int l1), (2, .int l2), (3, .int l3)] [] σ (k7 l1 l2 l3 σ)) (l1 : Int32) (l2 : Int32) (l3 : Int32) (σ : cv_St) : cv_J X G 5 0 0 (cv_QI X G) 7 [(0, .ref (G.1 5)), (1, .int l1), (2, .int l2), (3, .int l3)] [] σ (B_X7_measure_b7 k7 l1 l2 l3 σ) := by
  unfold B_X7_measure_b7
  refine cv_iload_n hC 3 dX7_measure_7 rfl rfl ?_
  refine cv_bipush (v := 15) hC dX7_measure_8 cb_bipush_15 ?_
  refine cv_icmp_ge (tgt := 28) hC dX7_measure_10 (by decide) ?_ ?_
  · refine cv_aload_n hC 0 dX7_measure_28 rfl rfl ?_
    refine cv_getr hC (fg_X7_19_5 G) dX7_measure_29 ?_
    refine cv_iload_n hC 2 dX7_measure_32 rfl rfl ?_
    refine cv_aload_n hC 0 dX7_measure_33 rfl rfl ?_
    refine cv_getr hC (fg_X7_32_5 G) dX7_measure_34 ?_
    refine cv_iload_n hC 1 dX7_measure_37 rfl rfl ?_
    refine cv_callVi (ob := 2) hC [.int l1] [.int l2, .ref (G.1 24)] (M_X0_entry LL G l1 σ) ln_X7_48 vm_X0_entry (ob_2 G) rfl rfl (Nat.le_of_ble_eq_true rfl) ⟨Nat.le_of_ble_eq_true rfl, Nat.le_of_ble_eq_true rfl⟩ ⟨Nat.le_of_ble_eq_true rfl, Nat.le_of_ble_eq_true rfl⟩ dX7_measure_38 (fun v2 s1 => ?_)
    refine cv_iadd hC dX7_measure_41 ?_
    refine cv_iconst (v := 0) hC dX7_measure_42 cb_iconst_0 ?_
    refine cv_iast hC (cv_a24 G) dX7_measure_43 (fun s3 => ?_)
    refine cv_iconst (v := 0) hC dX7_measure_44 cb_iconst_0 ?_
    refine cv_istore_n (lv' := [(3, .int 0), (0, .ref (G.1 5)), (1, .int l1), (2, .int l2)]) hC dX7_measure_45 rfl (by decide) rfl ?_
    exact cv_sub [1, 2, 3, 0] rfl (J_X7_measure_b46 hC 1000 l1 l2 0 s3)
  · refine cv_aload_n hC 0 dX7_measure_13 rfl rfl ?_
    refine cv_getr hC (fg_X7_19_5 G) dX7_measure_14 ?_
    refine cv_iload_n hC 2 dX7_measure_17 rfl rfl ?_
    refine cv_iload_n hC 3 dX7_measure_18 rfl rfl ?_
    refine cv_iadd hC dX7_measure_19 ?_
    refine cv_iconst (v := (-1)) hC dX7_measure_20 cb_iconst_m1 ?_
    refine cv_iast hC (cv_a24 G) dX7_measure_21 (fun s20 => ?_)
    refine cv_iinc (lv' := [(3, .int (l3 + Int32.ofInt 1)), (0, .ref (G.1 5)), (1, .int l1), (2, .int l2)]) hC 3 dX7_measure_22 rfl (by decide) rfl ?_
    refine cv_goto (tgt := 7) hC dX7_measure_25 (by decide) ?_
    exact cv_sub [1, 2, 3, 0] rfl (hk7 l1 l2 (l3 + Int32.ofInt 1) s20)
set_option maxRecDepth 20000 in
set_option maxHeartbeats 2000000 in
theorem J_X7_measure_b7 {X : cv_X} {G : cv_G} {LL : Launch} (hC : cv_C X G LL RX7 cX7_measure 5 (some .boolean) { frames := 2, cells := 0, slots := 0, locals := 48 }) : ∀ (n : Nat) (l1 : Int32) (l2 : Int32) (l3 : Int32) (σ : cv_St), cv_J X G 5 0 0 (cv_QI X G) 7 [(0, .ref (G.1 5)), (1, .int l1), (2, .int l2), (3, .int l3)] [] σ (F_X7_measure_b7 n l1 l2 l3 σ) := by
  intro n
  induction n with
  | zero => intro l1 l2 l3 σ; exact cv_none
  | succ n ih => intro l1 l2 l3 σ; exact I_X7_measure_b7 hC _ ih l1 l2 l3 σ
set_option maxRecDepth 20000 in
set_option maxHeartbeats 2000000 in
theorem J_X7_measure {X : cv_X} {G : cv_G} {LL : Launch} (hC : cv_C X G LL RX7 cX7_measure 5 (some .boolean) { frames := 2, cells := 0, slots := 0, locals := 48 }) (l1 : Int32) (σ : cv_St) : cv_J X G 5 0 0 (cv_QI X G) 0 [(0, .ref (G.1 5)), (1, .int l1)] [] σ (F_X7_measure l1 σ) := by
  unfold F_X7_measure
  refine cv_iload_n hC 1 dX7_measure_0 rfl rfl ?_
  refine cv_bipush (v := 15) hC dX7_measure_1 cb_bipush_15 ?_
  refine cv_imul hC dX7_measure_3 ?_
  refine cv_istore_n (lv' := [(2, .int (l1 * 15)), (0, .ref (G.1 5)), (1, .int l1)]) hC dX7_measure_4 rfl (by decide) rfl ?_
  refine cv_iconst (v := 0) hC dX7_measure_5 cb_iconst_0 ?_
  refine cv_istore_n (lv' := [(3, .int 0), (2, .int (l1 * 15)), (0, .ref (G.1 5)), (1, .int l1)]) hC dX7_measure_6 rfl (by decide) rfl ?_
  exact cv_sub [2, 3, 1, 0] rfl (J_X7_measure_b7 hC 1000 l1 (l1 * 15) 0 σ)
set_option maxRecDepth 20000 in
set_option maxHeartbeats 2000000 in
theorem M_X7_measure (LL : Launch) (G : cv_G) (l1 : Int32) (σ : cv_St) : cv_MI LL G yX7_measure cX7_measure 5 (some .boolean) 2 48 [.ref (G.1 5), .int l1] σ (F_X7_measure l1 σ) :=
  cv_mkI (by decide) (Nat.le_of_ble_eq_true rfl) (fun X hC => J_X7_measure hC l1 σ)
/-! X7_infer -/
set_option maxRecDepth 20000 in
set_option maxHeartbeats 2000000 in
theorem J_X7_infer_b112 {X : cv_X} {G : cv_G} {LL : Launch} (hC : cv_C X G LL RX7 cX7_infer 5 none { frames := 4, cells := 0, slots := 0, locals := 92 }) (k51 : Int32 → Int32 → cv_St → Option (cv_St)) (hk51 : ∀ (l1 : Int32) (l2 : Int32)  σ, cv_J X G 5 0 0 (cv_QV X G) 51 [(0, .ref (G.1 5)), (1, .int l1), (2, .int l2)] [] σ (k51 l1 l2 σ)) (k65 : Int32 → Int32 → Int32 → cv_St → Option (cv_St)) (hk65 : ∀ (l1 : Int32) (l2 : Int32) (l3 : Int32)  σ, cv_J X G 5 0 0 (cv_QV X G) 65 [(0, .ref (G.1 5)), (1, .int l1), (2, .int l2), (3, .int l3)] [] σ (k65 l1 l2 l3 σ)) (l1 : Int32) (l2 : Int32) (l3 : Int32) (σ : cv_St) : cv_J X G 5 0 0 (cv_QV X G) 112 [(0, .ref (G.1 5)), (1, .int l1), (2, .int l2), (3, .int l3)] [] σ (F_X7_infer_b112 k51 k65 l1 l2 l3 σ) := by
  unfold F_X7_infer_b112
  refine cv_iinc (lv' := [(3, .int (l3 + Int32.ofInt 1)), (0, .ref (G.1 5)), (1, .int l1), (2, .int l2)]) hC 3 dX7_infer_112 rfl (by decide) rfl ?_
  refine cv_goto (tgt := 65) hC dX7_infer_115 (by decide) ?_
  exact cv_sub [1, 2, 3, 0] rfl (hk65 l1 l2 (l3 + Int32.ofInt 1) σ)
set_option maxRecDepth 20000 in
set_option maxHeartbeats 2000000 in
theorem J_X7_infer_b89 {X : cv_X} {G : cv_G} {LL : Launch} (hC : cv_C X G LL RX7 cX7_infer 5 none { frames := 4, cells := 0, slots := 0, locals := 92 }) (k51 : Int32 → Int32 → cv_St → Option (cv_St)) (hk51 : ∀ (l1 : Int32) (l2 : Int32)  σ, cv_J X G 5 0 0 (cv_QV X G) 51 [(0, .ref (G.1 5)), (1, .int l1), (2, .int l2)] [] σ (k51 l1 l2 σ)) (k65 : Int32 → Int32 → Int32 → cv_St → Option (cv_St)) (hk65 : ∀ (l1 : Int32) (l2 : Int32) (l3 : Int32)  σ, cv_J X G 5 0 0 (cv_QV X G) 65 [(0, .ref (G.1 5)), (1, .int l1), (2, .int l2), (3, .int l3)] [] σ (k65 l1 l2 l3 σ)) (l1 : Int32) (l2 : Int32) (l3 : Int32) (t0 : Int32) (σ : cv_St) : cv_J X G 5 0 0 (cv_QV X G) 89 [(0, .ref (G.1 5)), (1, .int l1), (2, .int l2), (3, .int l3)] [.int t0] σ (F_X7_infer_b89 k51 k65 l1 l2 l3 t0 σ) := by
  unfold F_X7_infer_b89
  refine cv_istore (lv' := [(4, .int t0), (0, .ref (G.1 5)), (1, .int l1), (2, .int l2), (3, .int l3)]) hC dX7_infer_89 (by decide) rfl ?_
  refine cv_iload hC 0 dX7_infer_91 rfl ?_
  refine cv_aload_n hC 1 dX7_infer_93 rfl rfl ?_
  refine cv_getr hC (fg_X7_15_5 G) dX7_infer_94 ?_
  refine cv_iload_n hC 4 dX7_infer_97 rfl rfl ?_
  refine cv_iald hC (cv_a23 G) dX7_infer_98 (fun v2 => ?_)
  refine cv_icmp_eq (tgt := 112) hC dX7_infer_99 (by decide) ?_ ?_
  · exact cv_sub [1, 2, 3, 4] rfl (J_X7_infer_b112 hC k51 hk51 k65 hk65 l1 l2 l3 σ)
  · refine cv_aload_n hC 1 dX7_infer_102 rfl rfl ?_
    refine cv_getr hC (fg_X7_15_5 G) dX7_infer_103 ?_
    refine cv_iload_n hC 4 dX7_infer_106 rfl rfl ?_
    refine cv_iload hC 0 dX7_infer_107 rfl ?_
    refine cv_iast hC (cv_a23 G) dX7_infer_109 (fun s3 => ?_)
    refine cv_iconst (v := 1) hC dX7_infer_110 cb_iconst_1 ?_
    refine cv_istore_n (lv' := [(1, .int 1), (4, .int t0), (0, .ref (G.1 5)), (2, .int l2), (3, .int l3)]) hC dX7_infer_111 rfl (by decide) rfl ?_
    exact cv_sub [2, 0, 3, 4] rfl (J_X7_infer_b112 hC k51 hk51 k65 hk65 1 l2 l3 s3)
set_option maxRecDepth 20000 in
set_option maxHeartbeats 2000000 in
theorem I_X7_infer_b65 {X : cv_X} {G : cv_G} {LL : Launch} (hC : cv_C X G LL RX7 cX7_infer 5 none { frames := 4, cells := 0, slots := 0, locals := 92 }) (k51 : Int32 → Int32 → cv_St → Option (cv_St)) (hk51 : ∀ (l1 : Int32) (l2 : Int32)  σ, cv_J X G 5 0 0 (cv_QV X G) 51 [(0, .ref (G.1 5)), (1, .int l1), (2, .int l2)] [] σ (k51 l1 l2 σ)) (k65 : Int32 → Int32 → Int32 → cv_St → Option (cv_St)) (hk65 : ∀ (l1 : Int32) (l2 : Int32) (l3 : Int32)  σ, cv_J X G 5 0 0 (cv_QV X G) 65 [(0, .ref (G.1 5)), (1, .int l1), (2, .int l2), (3, .int l3)] [] σ (k65 l1 l2 l3 σ)) (l1 : Int32) (l2 : Int32) (l3 : Int32) (σ : cv_St) : cv_J X G 5 0 0 (cv_QV X G) 65 [(0, .ref (G.1 5)), (1, .int l1), (2, .int l2), (3, .int l3)] [] σ (B_X7_infer_b65 k51 k65 l1 l2 l3 σ) := by
  unfold B_X7_infer_b65
  refine cv_iload_n hC 3 dX7_infer_65 rfl rfl ?_
  refine cv_bipush (v := 8) hC dX7_infer_66 cb_bipush_8 ?_
  refine cv_icmp_ge (tgt := 118) hC dX7_infer_68 (by decide) ?_ ?_
  · refine cv_iinc (lv' := [(2, .int (l2 + Int32.ofInt 1)), (0, .ref (G.1 5)), (1, .int l1), (3, .int l3)]) hC 2 dX7_infer_118 rfl (by decide) rfl ?_
    refine cv_goto (tgt := 51) hC dX7_infer_121 (by decide) ?_
    exact cv_sub [1, 2, 0] rfl (hk51 l1 (l2 + Int32.ofInt 1) σ)
  · refine cv_aload_n hC 0 dX7_infer_71 rfl rfl ?_
    refine cv_getr hC (fg_X7_9_5 G) dX7_infer_72 ?_
    refine cv_iload_n hC 3 dX7_infer_75 rfl rfl ?_
    refine cv_zald hC (cv_a22 G) dX7_infer_76 (fun v1 => ?_)
    refine cv_if_eq (tgt := 88) hC dX7_infer_77 (by decide) ?_ ?_
    · refine cv_iconst (v := 0) hC dX7_infer_88 cb_iconst_0 ?_
      exact cv_sub [0, 1, 2, 3] rfl (J_X7_infer_b89 hC k51 hk51 k65 hk65 l1 l2 l3 0 σ)
    · refine cv_aload_n hC 0 dX7_infer_80 rfl rfl ?_
      refine cv_iload_n hC 3 dX7_infer_81 rfl rfl ?_
      refine cv_callVi (ob := 5) hC [.int l3] [] (M_X7_keptBy LL G l3 σ) ln_X7_44 vm_X7_keptBy (ob_5 G) rfl rfl (Nat.le_of_ble_eq_true rfl) ⟨Nat.le_of_ble_eq_true rfl, Nat.le_of_ble_eq_true rfl⟩ ⟨Nat.le_of_ble_eq_true rfl, Nat.le_of_ble_eq_true rfl⟩ dX7_infer_82 (fun v5 s4 => ?_)
      refine cv_goto (tgt := 89) hC dX7_infer_85 (by decide) ?_
      exact cv_sub [0, 1, 2, 3] rfl (J_X7_infer_b89 hC k51 hk51 k65 hk65 l1 l2 l3 v5 s4)
set_option maxRecDepth 20000 in
set_option maxHeartbeats 2000000 in
theorem J_X7_infer_b65 {X : cv_X} {G : cv_G} {LL : Launch} (hC : cv_C X G LL RX7 cX7_infer 5 none { frames := 4, cells := 0, slots := 0, locals := 92 }) (k51 : Int32 → Int32 → cv_St → Option (cv_St)) (hk51 : ∀ (l1 : Int32) (l2 : Int32)  σ, cv_J X G 5 0 0 (cv_QV X G) 51 [(0, .ref (G.1 5)), (1, .int l1), (2, .int l2)] [] σ (k51 l1 l2 σ)) : ∀ (n : Nat) (l1 : Int32) (l2 : Int32) (l3 : Int32) (σ : cv_St), cv_J X G 5 0 0 (cv_QV X G) 65 [(0, .ref (G.1 5)), (1, .int l1), (2, .int l2), (3, .int l3)] [] σ (F_X7_infer_b65 k51 n l1 l2 l3 σ) := by
  intro n
  induction n with
  | zero => intro l1 l2 l3 σ; exact cv_none
  | succ n ih => intro l1 l2 l3 σ; exact I_X7_infer_b65 hC k51 hk51 _ ih l1 l2 l3 σ
set_option maxRecDepth 20000 in
set_option maxHeartbeats 2000000 in
theorem I_X7_infer_b51 {X : cv_X} {G : cv_G} {LL : Launch} (hC : cv_C X G LL RX7 cX7_infer 5 none { frames := 4, cells := 0, slots := 0, locals := 92 }) (k51 : Int32 → Int32 → cv_St → Option (cv_St)) (hk51 : ∀ (l1 : Int32) (l2 : Int32)  σ, cv_J X G 5 0 0 (cv_QV X G) 51 [(0, .ref (G.1 5)), (1, .int l1), (2, .int l2)] [] σ (k51 l1 l2 σ)) (l1 : Int32) (l2 : Int32) (σ : cv_St) : cv_J X G 5 0 0 (cv_QV X G) 51 [(0, .ref (G.1 5)), (1, .int l1), (2, .int l2)] [] σ (B_X7_infer_b51 k51 l1 l2 σ) := by
  unfold B_X7_infer_b51
  refine cv_iload_n hC 1 dX7_infer_51 rfl rfl ?_
  refine cv_if_eq (tgt := 124) hC dX7_infer_52 (by decide) ?_ ?_
  · exact cv_vret hC dX7_infer_124
  · refine cv_iload_n hC 2 dX7_infer_55 rfl rfl ?_
    refine cv_bipush (v := 64) hC dX7_infer_56 cb_bipush_64 ?_
    refine cv_icmp_gt (tgt := 124) hC dX7_infer_58 (by decide) ?_ ?_
    · exact cv_vret hC dX7_infer_124
    · refine cv_iconst (v := 0) hC dX7_infer_61 cb_iconst_0 ?_
      refine cv_istore_n (lv' := [(1, .int 0), (0, .ref (G.1 5)), (2, .int l2)]) hC dX7_infer_62 rfl (by decide) rfl ?_
      refine cv_iconst (v := 0) hC dX7_infer_63 cb_iconst_0 ?_
      refine cv_istore_n (lv' := [(3, .int 0), (1, .int 0), (0, .ref (G.1 5)), (2, .int l2)]) hC dX7_infer_64 rfl (by decide) rfl ?_
      exact cv_sub [2, 1, 3, 0] rfl (J_X7_infer_b65 hC k51 hk51 1000 0 l2 0 σ)
set_option maxRecDepth 20000 in
set_option maxHeartbeats 2000000 in
theorem J_X7_infer_b51 {X : cv_X} {G : cv_G} {LL : Launch} (hC : cv_C X G LL RX7 cX7_infer 5 none { frames := 4, cells := 0, slots := 0, locals := 92 }) : ∀ (n : Nat) (l1 : Int32) (l2 : Int32) (σ : cv_St), cv_J X G 5 0 0 (cv_QV X G) 51 [(0, .ref (G.1 5)), (1, .int l1), (2, .int l2)] [] σ (F_X7_infer_b51 n l1 l2 σ) := by
  intro n
  induction n with
  | zero => intro l1 l2 σ; exact cv_none
  | succ n ih => intro l1 l2 σ; exact I_X7_infer_b51 hC _ ih l1 l2 σ
set_option maxRecDepth 20000 in
set_option maxHeartbeats 2000000 in
theorem J_X7_infer_b40 {X : cv_X} {G : cv_G} {LL : Launch} (hC : cv_C X G LL RX7 cX7_infer 5 none { frames := 4, cells := 0, slots := 0, locals := 92 }) (k2 : Int32 → cv_St → Option (cv_St)) (hk2 : ∀ (l1 : Int32)  σ, cv_J X G 5 0 0 (cv_QV X G) 2 [(0, .ref (G.1 5)), (1, .int l1)] [] σ (k2 l1 σ)) (l1 : Int32) (t0 : Int32) (t1 : Int32) (σ : cv_St) : cv_J X G 5 0 0 (cv_QV X G) 40 [(0, .ref (G.1 5)), (1, .int l1)] [.int t0, .int t1, .ref (G.1 23)] σ (F_X7_infer_b40 k2 l1 t0 t1 σ) := by
  unfold F_X7_infer_b40
  refine cv_iast hC (cv_a23 G) dX7_infer_40 (fun s10 => ?_)
  refine cv_iinc (lv' := [(1, .int (l1 + Int32.ofInt 1)), (0, .ref (G.1 5))]) hC 1 dX7_infer_41 rfl (by decide) rfl ?_
  refine cv_goto (tgt := 2) hC dX7_infer_44 (by decide) ?_
  exact cv_sub [1, 0] rfl (hk2 (l1 + Int32.ofInt 1) s10)
set_option maxRecDepth 20000 in
set_option maxHeartbeats 2000000 in
theorem I_X7_infer_b2 {X : cv_X} {G : cv_G} {LL : Launch} (hC : cv_C X G LL RX7 cX7_infer 5 none { frames := 4, cells := 0, slots := 0, locals := 92 }) (k2 : Int32 → cv_St → Option (cv_St)) (hk2 : ∀ (l1 : Int32)  σ, cv_J X G 5 0 0 (cv_QV X G) 2 [(0, .ref (G.1 5)), (1, .int l1)] [] σ (k2 l1 σ)) (l1 : Int32) (σ : cv_St) : cv_J X G 5 0 0 (cv_QV X G) 2 [(0, .ref (G.1 5)), (1, .int l1)] [] σ (B_X7_infer_b2 k2 l1 σ) := by
  unfold B_X7_infer_b2
  refine cv_iload_n hC 1 dX7_infer_2 rfl rfl ?_
  refine cv_bipush (v := 8) hC dX7_infer_3 cb_bipush_8 ?_
  refine cv_icmp_ge (tgt := 47) hC dX7_infer_5 (by decide) ?_ ?_
  · refine cv_iconst (v := 1) hC dX7_infer_47 cb_iconst_1 ?_
    refine cv_istore_n (lv' := [(1, .int 1), (0, .ref (G.1 5))]) hC dX7_infer_48 rfl (by decide) rfl ?_
    refine cv_iconst (v := 0) hC dX7_infer_49 cb_iconst_0 ?_
    refine cv_istore_n (lv' := [(2, .int 0), (1, .int 1), (0, .ref (G.1 5))]) hC dX7_infer_50 rfl (by decide) rfl ?_
    exact cv_sub [2, 1, 0] rfl (J_X7_infer_b51 hC 1000 1 0 σ)
  · refine cv_aload_n hC 0 dX7_infer_8 rfl rfl ?_
    refine cv_getr hC (fg_X7_9_5 G) dX7_infer_9 ?_
    refine cv_iload_n hC 1 dX7_infer_12 rfl rfl ?_
    refine cv_aload_n hC 0 dX7_infer_13 rfl rfl ?_
    refine cv_iload_n hC 1 dX7_infer_14 rfl rfl ?_
    refine cv_callVi (ob := 5) hC [.int l1] [.int l1, .ref (G.1 22)] (M_X7_measure LL G l1 σ) ln_X7_40 vm_X7_measure (ob_5 G) rfl rfl (Nat.le_of_ble_eq_true rfl) ⟨Nat.le_of_ble_eq_true rfl, Nat.le_of_ble_eq_true rfl⟩ ⟨Nat.le_of_ble_eq_true rfl, Nat.le_of_ble_eq_true rfl⟩ dX7_infer_15 (fun v7 s6 => ?_)
    refine cv_zast hC (cv_a22 G) dX7_infer_18 (fun s8 => ?_)
    refine cv_aload_n hC 0 dX7_infer_19 rfl rfl ?_
    refine cv_getr hC (fg_X7_15_5 G) dX7_infer_20 ?_
    refine cv_iload_n hC 1 dX7_infer_23 rfl rfl ?_
    refine cv_aload_n hC 0 dX7_infer_24 rfl rfl ?_
    refine cv_getr hC (fg_X7_9_5 G) dX7_infer_25 ?_
    refine cv_iload_n hC 1 dX7_infer_28 rfl rfl ?_
    refine cv_zald hC (cv_a22 G) dX7_infer_29 (fun v9 => ?_)
    refine cv_if_eq (tgt := 39) hC dX7_infer_30 (by decide) ?_ ?_
    · refine cv_iconst (v := 0) hC dX7_infer_39 cb_iconst_0 ?_
      exact cv_sub [0, 1] rfl (J_X7_infer_b40 hC k2 hk2 l1 0 l1 s8)
    · refine cv_sipush (v := 255) hC dX7_infer_33 cb_sipush_255 ?_
      refine cv_goto (tgt := 40) hC dX7_infer_36 (by decide) ?_
      exact cv_sub [0, 1] rfl (J_X7_infer_b40 hC k2 hk2 l1 255 l1 s8)
set_option maxRecDepth 20000 in
set_option maxHeartbeats 2000000 in
theorem J_X7_infer_b2 {X : cv_X} {G : cv_G} {LL : Launch} (hC : cv_C X G LL RX7 cX7_infer 5 none { frames := 4, cells := 0, slots := 0, locals := 92 }) : ∀ (n : Nat) (l1 : Int32) (σ : cv_St), cv_J X G 5 0 0 (cv_QV X G) 2 [(0, .ref (G.1 5)), (1, .int l1)] [] σ (F_X7_infer_b2 n l1 σ) := by
  intro n
  induction n with
  | zero => intro l1 σ; exact cv_none
  | succ n ih => intro l1 σ; exact I_X7_infer_b2 hC _ ih l1 σ
set_option maxRecDepth 20000 in
set_option maxHeartbeats 2000000 in
theorem J_X7_infer {X : cv_X} {G : cv_G} {LL : Launch} (hC : cv_C X G LL RX7 cX7_infer 5 none { frames := 4, cells := 0, slots := 0, locals := 92 }) (σ : cv_St) : cv_J X G 5 0 0 (cv_QV X G) 0 [(0, .ref (G.1 5))] [] σ (F_X7_infer σ) := by
  unfold F_X7_infer
  refine cv_iconst (v := 0) hC dX7_infer_0 cb_iconst_0 ?_
  refine cv_istore_n (lv' := [(1, .int 0), (0, .ref (G.1 5))]) hC dX7_infer_1 rfl (by decide) rfl ?_
  exact cv_sub [1, 0] rfl (J_X7_infer_b2 hC 1000 0 σ)
set_option maxRecDepth 20000 in
set_option maxHeartbeats 2000000 in
theorem M_X7_infer (LL : Launch) (G : cv_G) (σ : cv_St) : cv_MV LL G yX7_infer cX7_infer 5 4 92 [.ref (G.1 5)] σ (F_X7_infer σ) :=
  cv_mkV (by decide) (Nat.le_of_ble_eq_true rfl) (fun X hC => J_X7_infer hC σ)
