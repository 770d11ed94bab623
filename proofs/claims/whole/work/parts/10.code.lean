def F_X0_copyFrom_2_3 (σ : cv_St) : Option (cv_St) :=
  cv_cp σ 17 8 14 8 0 0 8 (fun s1 => (if cv_allC (s1.1 18) 112 = true then cv_cp s1 18 112 15 112 0 0 112 (fun s2 => cv_cp s2 19 112 16 112 0 0 112 (fun s3 => some s3)) else none))
def F_X0_copyFrom_3_2 (σ : cv_St) : Option (cv_St) :=
  cv_cp σ 14 8 17 8 0 0 8 (fun s1 => (if cv_allC (s1.1 15) 112 = true then cv_cp s1 15 112 18 112 0 0 112 (fun s2 => cv_cp s2 16 112 19 112 0 0 112 (fun s3 => some s3)) else none))
def B_X0_take_2_1_b19 (k19 : Int32 → Int32 → Int32 → Int32 → cv_St → Option (cv_St)) (l1 : Int32) (l3 : Int32) (l4 : Int32) (l5 : Int32) (σ : cv_St) : Option (cv_St) :=
  (if l4 ≤ l5 then cv_st σ 14 8 l1 l4 (fun s1 => some s1) else cv_ld σ 12 14 l5 (fun v2 => cv_st σ 15 112 (l3 + l5) (vp_nar .char v2) (fun s3 => cv_ld s3 13 14 l5 (fun v4 => cv_st s3 16 112 (l3 + l5) v4 (fun s5 => k19 l1 l3 l4 (l5 + Int32.ofInt 1) s5)))))
def F_X0_take_2_1_b19 : Nat → Int32 → Int32 → Int32 → Int32 → cv_St → Option (cv_St)
  | 0, _, _, _, _, _ => none
  | n + 1, l1, l3, l4, l5, σ => B_X0_take_2_1_b19 (F_X0_take_2_1_b19 n) l1 l3 l4 l5 σ
def F_X0_take_2_1 (l1 : Int32) (σ : cv_St) : Option (cv_St) :=
  F_X0_take_2_1_b19 1000 l1 (l1 * 14) (if 14 < (σ.2.1 4) then 14 else (σ.2.1 4)) 0 σ
def F_X0_kindAt (l1 : Int32) (l2 : Int32) (σ : cv_St) : Option (Int32 × cv_St) :=
  cv_ld σ 15 112 ((l1 * 14) + l2) (fun v1 => cv_rc v1 σ)
def F_X0_numberAt (l1 : Int32) (l2 : Int32) (σ : cv_St) : Option (Int32 × cv_St) :=
  cv_ld σ 16 112 ((l1 * 14) + l2) (fun v1 => some (v1, σ))
def F_X0_isCall (l1 : Int32) (l2 : Int32) (σ : cv_St) : Option (Int32 × cv_St) :=
  cv_bi (F_X0_kindAt l1 l2 σ) (fun v2 s1 => (if v2 = 99 then cv_rz 1 s1 else cv_rz 0 s1))
def F_X0_readBy (l1 : Int32) (l2 : Int32) (σ : cv_St) : Option (Int32 × cv_St) :=
  cv_bi (F_X0_kindAt l1 l2 σ) (fun v2 s1 => cv_bi (F_X0_numberAt l1 l2 s1) (fun v4 s3 => (if v2 = 117 then some ((1 <<< (v4 &&& 31)), s3) else (if v2 = 109 then some ((1 <<< ((v4 - v4 / 10 * 10) &&& 31)), s3) else some (0, s3)))))
def F_X0_writtenBy_b27 (l4 : Int32) (σ : cv_St) : Option (Int32 × cv_St) :=
  some ((1 <<< (l4 &&& 31)), σ)
def F_X0_writtenBy (l1 : Int32) (l2 : Int32) (σ : cv_St) : Option (Int32 × cv_St) :=
  cv_bi (F_X0_kindAt l1 l2 σ) (fun v2 s1 => cv_bi (F_X0_numberAt l1 l2 s1) (fun v4 s3 => (if v2 = 100 then F_X0_writtenBy_b27 v4 s3 else (if v2 = 45 then F_X0_writtenBy_b27 v4 s3 else (if v2 = 109 then some ((1 <<< ((v4 / 10) &&& 31)), s3) else some (0, s3))))))
def F_X0_entry (l1 : Int32) (σ : cv_St) : Option (Int32 × cv_St) :=
  cv_ld σ 14 8 l1 (fun v1 => (if v1 = 0 then some (14, σ) else some (0, σ)))
def F_X0_nodeBehind_b39 (l4 : Int32) (t0 : Int32) (σ : cv_St) : Option (Int32 × cv_St) :=
  (if t0 = 0 then some (l4, σ) else some (14, σ))
def F_X0_nodeBehind_b34 (l4 : Int32) (σ : cv_St) : Option (Int32 × cv_St) :=
  F_X0_nodeBehind_b39 l4 1 σ
def F_X0_nodeBehind (l1 : Int32) (l2 : Int32) (l3 : Int32) (σ : cv_St) : Option (Int32 × cv_St) :=
  cv_ld σ 15 112 ((l1 * 14) + l2) (fun v1 => (if v1 = 114 then F_X0_nodeBehind_b34 ((l2 + 1) + l3) σ else cv_ld σ 14 8 l1 (fun v2 => (if ((l2 + 1) + l3) < v2 then F_X0_nodeBehind_b39 ((l2 + 1) + l3) 0 σ else F_X0_nodeBehind_b34 ((l2 + 1) + l3) σ))))
def F_X0_next (l1 : Int32) (l2 : Int32) (σ : cv_St) : Option (Int32 × cv_St) :=
  cv_bi (F_X0_nodeBehind l1 l2 0 σ) (fun v2 s1 => some (v2, s1))
def F_X0_other_b31 (t0 : Int32) (t1 : Int32) (t2 : Int32) (σ : cv_St) : Option (Int32 × cv_St) :=
  cv_bi (F_X0_nodeBehind t2 t1 t0 σ) (fun v3 s2 => some (v3, s2))
def F_X0_other (l1 : Int32) (l2 : Int32) (σ : cv_St) : Option (Int32 × cv_St) :=
  cv_ld σ 15 112 ((l1 * 14) + l2) (fun v1 => (if v1 = 98 then cv_ld σ 16 112 ((l1 * 14) + l2) (fun v4 => F_X0_other_b31 v4 l2 l1 σ) else F_X0_other_b31 0 l2 l1 σ))
def F_X0_countFilled_b22 (k4 : Int32 → Int32 → cv_St → Option (Int32 × cv_St)) (l1 : Int32) (l2 : Int32) (σ : cv_St) : Option (Int32 × cv_St) :=
  k4 l1 (l2 + Int32.ofInt 1) σ
def B_X0_countFilled_b4 (k4 : Int32 → Int32 → cv_St → Option (Int32 × cv_St)) (l1 : Int32) (l2 : Int32) (σ : cv_St) : Option (Int32 × cv_St) :=
  (if 8 ≤ l2 then some (l1, σ) else cv_ld σ 14 8 l2 (fun v1 => (if v1 ≤ 0 then F_X0_countFilled_b22 k4 l1 l2 σ else F_X0_countFilled_b22 k4 (l1 + Int32.ofInt 1) l2 σ)))
def F_X0_countFilled_b4 : Nat → Int32 → Int32 → cv_St → Option (Int32 × cv_St)
  | 0, _, _, _ => none
  | n + 1, l1, l2, σ => B_X0_countFilled_b4 (F_X0_countFilled_b4 n) l1 l2 σ
def F_X0_countFilled (σ : cv_St) : Option (Int32 × cv_St) :=
  F_X0_countFilled_b4 1000 0 0 σ
def B_X0_drop_b8 (k8 : Int32 → Int32 → Int32 → cv_St → Option (cv_St)) (l1 : Int32) (l3 : Int32) (l4 : Int32) (σ : cv_St) : Option (cv_St) :=
  cv_ld σ 14 8 l1 (fun v1 => (if v1 ≤ (l4 + 1) then cv_ld σ 14 8 l1 (fun v2 => cv_st σ 14 8 l1 (v2 - 1) (fun s3 => some s3)) else cv_ld σ 15 112 ((l3 + l4) + 1) (fun v4 => cv_st σ 15 112 (l3 + l4) (vp_nar .char v4) (fun s5 => cv_ld s5 16 112 ((l3 + l4) + 1) (fun v6 => cv_st s5 16 112 (l3 + l4) v6 (fun s7 => k8 l1 l3 (l4 + Int32.ofInt 1) s7))))))
def F_X0_drop_b8 : Nat → Int32 → Int32 → Int32 → cv_St → Option (cv_St)
  | 0, _, _, _, _ => none
  | n + 1, l1, l3, l4, σ => B_X0_drop_b8 (F_X0_drop_b8 n) l1 l3 l4 σ
def F_X0_drop (l1 : Int32) (l2 : Int32) (σ : cv_St) : Option (cv_St) :=
  F_X0_drop_b8 1000 l1 (l1 * 14) l2 σ
def F_X6_keep_b29 (σ : cv_St) : Option (cv_St) :=
  cv_pui σ 4 ((σ.2.1 4) + 1) (fun s1 => some s1)
def F_X6_keep (l1 : Int32) (l2 : Int32) (σ : cv_St) : Option (cv_St) :=
  (if 14 ≤ (σ.2.1 4) then F_X6_keep_b29 σ else cv_st σ 12 14 (σ.2.1 4) (vp_nar .char l1) (fun s2 => cv_st s2 13 14 (s2.2.1 4) l2 (fun s3 => F_X6_keep_b29 s3)))
def F_X6_fits_b36 (l1 : Int32) (σ : cv_St) : Option (Int32 × cv_St) :=
  (if l1 < 48 then cv_rz 0 σ else (if 51 < l1 then cv_rz 0 σ else cv_rz 1 σ))
def F_X6_fits (l0 : Int32) (l1 : Int32) (σ : cv_St) : Option (Int32 × cv_St) :=
  (if l0 = 98 then (if l1 < 49 then cv_rz 0 σ else (if 57 < l1 then cv_rz 0 σ else cv_rz 1 σ)) else (if l0 = 108 then F_X6_fits_b36 l1 σ else (if l0 = 115 then F_X6_fits_b36 l1 σ else (if l1 < 48 then cv_rz 0 σ else (if 55 < l1 then cv_rz 0 σ else cv_rz 1 σ)))))
def F_X6_digitsBehind_b69 (t0 : Int32) (σ : cv_St) : Option (Int32 × cv_St) :=
  (if t0 = 0 then some ((-1), σ) else some (1, σ))
def F_X6_digitsBehind_b64 (σ : cv_St) : Option (Int32 × cv_St) :=
  F_X6_digitsBehind_b69 1 σ
def F_X6_digitsBehind (l0 : Int32) (σ : cv_St) : Option (Int32 × cv_St) :=
  (if l0 = 109 then some (2, σ) else (if l0 = 114 then some (0, σ) else (if l0 = 117 then F_X6_digitsBehind_b64 σ else (if l0 = 100 then F_X6_digitsBehind_b64 σ else (if l0 = 43 then F_X6_digitsBehind_b64 σ else (if l0 = 45 then F_X6_digitsBehind_b64 σ else (if l0 = 99 then F_X6_digitsBehind_b64 σ else (if l0 = 108 then F_X6_digitsBehind_b64 σ else (if l0 = 115 then F_X6_digitsBehind_b64 σ else (if l0 = 98 then F_X6_digitsBehind_b64 σ else F_X6_digitsBehind_b69 0 σ))))))))))
def F_X6_findFault_b136 (σ : cv_St) : Option (Int32 × cv_St) :=
  some ((σ.2.1 3), σ)
def F_X6_findFault_b112 (k13 : Int32 → Int32 → Int32 → Int32 → Int32 → cv_St → Option (Int32 × cv_St)) (l1 : Int32) (l2 : Int32) (l3 : Int32) (l4 : Int32) (l5 : Int32) (σ : cv_St) : Option (Int32 × cv_St) :=
  k13 l1 l2 l3 l4 (l5 + Int32.ofInt 1) σ
def B_X6_findFault_b13 (k13 : Int32 → Int32 → Int32 → Int32 → Int32 → cv_St → Option (Int32 × cv_St)) (l1 : Int32) (l2 : Int32) (l3 : Int32) (l4 : Int32) (l5 : Int32) (σ : cv_St) : Option (Int32 × cv_St) :=
  (if (σ.2.1 3) ≤ l5 then (if (σ.2.1 3) = 0 then some ((-1), σ) else (if l1 = 0 then (if l4 ≤ 0 then cv_bv (F_X6_keep l2 l3 σ) (fun s1 => some ((-1), s1)) else F_X6_findFault_b136 σ) else F_X6_findFault_b136 σ)) else cv_ld σ 11 60 l5 (fun v2 => (if l1 = 0 then (if l4 ≤ 0 then (if v2 = 59 then cv_bv (F_X6_keep l2 l3 σ) (fun s3 => F_X6_findFault_b112 k13 1 l2 l3 l4 l5 s3) else some (l5, σ)) else cv_bi (F_X6_fits l2 v2 σ) (fun v5 s4 => (if v5 = 0 then some (l5, s4) else F_X6_findFault_b112 k13 l1 l2 ((10 * l3) + (v2 - 48)) (l4 + Int32.ofInt (-1)) l5 s4))) else cv_bi (F_X6_digitsBehind v2 σ) (fun v7 s6 => (if 0 ≤ v7 then F_X6_findFault_b112 k13 0 v2 0 v7 l5 s6 else some (l5, s6))))))
def F_X6_findFault_b13 : Nat → Int32 → Int32 → Int32 → Int32 → Int32 → cv_St → Option (Int32 × cv_St)
  | 0, _, _, _, _, _, _ => none
  | n + 1, l1, l2, l3, l4, l5, σ => B_X6_findFault_b13 (F_X6_findFault_b13 n) l1 l2 l3 l4 l5 σ
def F_X6_findFault (σ : cv_St) : Option (Int32 × cv_St) :=
  F_X6_findFault_b13 1000 1 114 0 0 0 σ
def F_X6_read (σ : cv_St) : Option (cv_St) :=
  cv_pui σ 4 0 (fun s1 => cv_bi (F_X6_findFault s1) (fun v3 s2 => cv_pui s2 5 v3 (fun s4 => cv_pui s4 3 0 (fun s5 => some s5))))
/-! X0_copyFrom_2_3 -/
set_option maxRecDepth 20000 in
set_option maxHeartbeats 2000000 in
theorem J_X0_copyFrom_2_3 {X : cv_X} {G : cv_G} {LL : Launch} (hC : cv_C X G LL RX0 cX0_copyFrom 2 none { frames := 1, cells := 0, slots := 0, locals := 26 }) (σ : cv_St) : cv_J X G 2 0 0 (cv_QV X G) 0 [(0, .ref (G.1 2)), (1, .ref (G.1 3))] [] σ (F_X0_copyFrom_2_3 σ) := by
  unfold F_X0_copyFrom_2_3
  refine cv_aload_n hC 1 dX0_copyFrom_0 rfl rfl ?_
  refine cv_getr hC (fg_X0_9_3 G) dX0_copyFrom_1 ?_
  refine cv_iconst (v := 0) hC dX0_copyFrom_4 cb_iconst_0 ?_
  refine cv_aload_n hC 0 dX0_copyFrom_5 rfl rfl ?_
  refine cv_getr hC (fg_X0_9_2 G) dX0_copyFrom_6 ?_
  refine cv_iconst (v := 0) hC dX0_copyFrom_9 cb_iconst_0 ?_
  refine cv_bipush (v := 8) hC dX0_copyFrom_10 cb_bipush_8 ?_
  refine cv_copyI hC ln_X0_47 sw_arraycopy.1 sw_arraycopy.2.1 sw_arraycopy.2.2 (cv_a17 G) (cv_a14 G) ⟨Nat.le_of_ble_eq_true rfl, Nat.le_of_ble_eq_true rfl⟩ dX0_copyFrom_12 (fun s1 => ?_)
  refine cv_aload_n hC 1 dX0_copyFrom_15 rfl rfl ?_
  refine cv_getr hC (fg_X0_15_3 G) dX0_copyFrom_16 ?_
  refine cv_iconst (v := 0) hC dX0_copyFrom_19 cb_iconst_0 ?_
  refine cv_aload_n hC 0 dX0_copyFrom_20 rfl rfl ?_
  refine cv_getr hC (fg_X0_15_2 G) dX0_copyFrom_21 ?_
  refine cv_iconst (v := 0) hC dX0_copyFrom_24 cb_iconst_0 ?_
  refine cv_bipush (v := 112) hC dX0_copyFrom_25 cb_bipush_112 ?_
  refine cv_copyC hC ln_X0_47 sw_arraycopy.1 sw_arraycopy.2.1 sw_arraycopy.2.2 (cv_a18 G) (cv_a15 G) ⟨Nat.le_of_ble_eq_true rfl, Nat.le_of_ble_eq_true rfl⟩ dX0_copyFrom_27 (fun s2 => ?_)
  refine cv_aload_n hC 1 dX0_copyFrom_30 rfl rfl ?_
  refine cv_getr hC (fg_X0_19_3 G) dX0_copyFrom_31 ?_
  refine cv_iconst (v := 0) hC dX0_copyFrom_34 cb_iconst_0 ?_
  refine cv_aload_n hC 0 dX0_copyFrom_35 rfl rfl ?_
  refine cv_getr hC (fg_X0_19_2 G) dX0_copyFrom_36 ?_
  refine cv_iconst (v := 0) hC dX0_copyFrom_39 cb_iconst_0 ?_
  refine cv_bipush (v := 112) hC dX0_copyFrom_40 cb_bipush_112 ?_
  refine cv_copyI hC ln_X0_47 sw_arraycopy.1 sw_arraycopy.2.1 sw_arraycopy.2.2 (cv_a19 G) (cv_a16 G) ⟨Nat.le_of_ble_eq_true rfl, Nat.le_of_ble_eq_true rfl⟩ dX0_copyFrom_42 (fun s3 => ?_)
  exact cv_vret hC dX0_copyFrom_45
set_option maxRecDepth 20000 in
set_option maxHeartbeats 2000000 in
theorem M_X0_copyFrom_2_3 (LL : Launch) (G : cv_G) (σ : cv_St) : cv_MV LL G yX0_copyFrom cX0_copyFrom 2 1 26 [.ref (G.1 2), .ref (G.1 3)] σ (F_X0_copyFrom_2_3 σ) :=
  cv_mkV (by decide) (Nat.le_of_ble_eq_true rfl) (fun X hC => J_X0_copyFrom_2_3 hC σ)
/-! X0_copyFrom_3_2 -/
set_option maxRecDepth 20000 in
set_option maxHeartbeats 2000000 in
theorem J_X0_copyFrom_3_2 {X : cv_X} {G : cv_G} {LL : Launch} (hC : cv_C X G LL RX0 cX0_copyFrom 2 none { frames := 1, cells := 0, slots := 0, locals := 26 }) (σ : cv_St) : cv_J X G 2 0 0 (cv_QV X G) 0 [(0, .ref (G.1 3)), (1, .ref (G.1 2))] [] σ (F_X0_copyFrom_3_2 σ) := by
  unfold F_X0_copyFrom_3_2
  refine cv_aload_n hC 1 dX0_copyFrom_0 rfl rfl ?_
  refine cv_getr hC (fg_X0_9_2 G) dX0_copyFrom_1 ?_
  refine cv_iconst (v := 0) hC dX0_copyFrom_4 cb_iconst_0 ?_
  refine cv_aload_n hC 0 dX0_copyFrom_5 rfl rfl ?_
  refine cv_getr hC (fg_X0_9_3 G) dX0_copyFrom_6 ?_
  refine cv_iconst (v := 0) hC dX0_copyFrom_9 cb_iconst_0 ?_
  refine cv_bipush (v := 8) hC dX0_copyFrom_10 cb_bipush_8 ?_
  refine cv_copyI hC ln_X0_47 sw_arraycopy.1 sw_arraycopy.2.1 sw_arraycopy.2.2 (cv_a14 G) (cv_a17 G) ⟨Nat.le_of_ble_eq_true rfl, Nat.le_of_ble_eq_true rfl⟩ dX0_copyFrom_12 (fun s1 => ?_)
  refine cv_aload_n hC 1 dX0_copyFrom_15 rfl rfl ?_
  refine cv_getr hC (fg_X0_15_2 G) dX0_copyFrom_16 ?_
  refine cv_iconst (v := 0) hC dX0_copyFrom_19 cb_iconst_0 ?_
  refine cv_aload_n hC 0 dX0_copyFrom_20 rfl rfl ?_
  refine cv_getr hC (fg_X0_15_3 G) dX0_copyFrom_21 ?_
  refine cv_iconst (v := 0) hC dX0_copyFrom_24 cb_iconst_0 ?_
  refine cv_bipush (v := 112) hC dX0_copyFrom_25 cb_bipush_112 ?_
  refine cv_copyC hC ln_X0_47 sw_arraycopy.1 sw_arraycopy.2.1 sw_arraycopy.2.2 (cv_a15 G) (cv_a18 G) ⟨Nat.le_of_ble_eq_true rfl, Nat.le_of_ble_eq_true rfl⟩ dX0_copyFrom_27 (fun s2 => ?_)
  refine cv_aload_n hC 1 dX0_copyFrom_30 rfl rfl ?_
  refine cv_getr hC (fg_X0_19_2 G) dX0_copyFrom_31 ?_
  refine cv_iconst (v := 0) hC dX0_copyFrom_34 cb_iconst_0 ?_
  refine cv_aload_n hC 0 dX0_copyFrom_35 rfl rfl ?_
  refine cv_getr hC (fg_X0_19_3 G) dX0_copyFrom_36 ?_
  refine cv_iconst (v := 0) hC dX0_copyFrom_39 cb_iconst_0 ?_
  refine cv_bipush (v := 112) hC dX0_copyFrom_40 cb_bipush_112 ?_
  refine cv_copyI hC ln_X0_47 sw_arraycopy.1 sw_arraycopy.2.1 sw_arraycopy.2.2 (cv_a16 G) (cv_a19 G) ⟨Nat.le_of_ble_eq_true rfl, Nat.le_of_ble_eq_true rfl⟩ dX0_copyFrom_42 (fun s3 => ?_)
  exact cv_vret hC dX0_copyFrom_45
set_option maxRecDepth 20000 in
set_option maxHeartbeats 2000000 in
theorem M_X0_copyFrom_3_2 (LL : Launch) (G : cv_G) (σ : cv_St) : cv_MV LL G yX0_copyFrom cX0_copyFrom 2 1 26 [.ref (G.1 3), .ref (G.1 2)] σ (F_X0_copyFrom_3_2 σ) :=
  cv_mkV (by decide) (Nat.le_of_ble_eq_true rfl) (fun X hC => J_X0_copyFrom_3_2 hC σ)
/-! X0_take_2_1 -/
set_option maxRecDepth 20000 in
set_option maxHeartbeats 2000000 in
theorem I_X0_take_2_1_b19 {X : cv_X} {G : cv_G} {LL : Launch} (hC : cv_C X G LL RX0 cX0_take 6 none { frames := 1, cells := 0, slots := 0, locals := 21 }) (k19 : Int32 → Int32 → Int32 → Int32 → cv_St → Option (cv_St)) (hk19 : ∀ (l1 : Int32) (l3 : Int32) (l4 : Int32) (l5 : Int32)  σ, cv_J X G 6 0 0 (cv_QV X G) 19 [(0, .ref (G.1 2)), (1, .int l1), (2, .ref (G.1 1)), (3, .int l3), (4, .int l4), (5, .int l5)] [] σ (k19 l1 l3 l4 l5 σ)) (l1 : Int32) (l3 : Int32) (l4 : Int32) (l5 : Int32) (σ : cv_St) : cv_J X G 6 0 0 (cv_QV X G) 19 [(0, .ref (G.1 2)), (1, .int l1), (2, .ref (G.1 1)), (3, .int l3), (4, .int l4), (5, .int l5)] [] σ (B_X0_take_2_1_b19 k19 l1 l3 l4 l5 σ) := by
  unfold B_X0_take_2_1_b19
  refine cv_iload hC 5 dX0_take_19 rfl ?_
  refine cv_iload hC 4 dX0_take_21 rfl ?_
  refine cv_icmp_ge (tgt := 64) hC dX0_take_23 (by decide) ?_ ?_
  · refine cv_aload_n hC 0 dX0_take_64 rfl rfl ?_
    refine cv_getr hC (fg_X0_9_2 G) dX0_take_65 ?_
    refine cv_iload_n hC 1 dX0_take_68 rfl rfl ?_
    refine cv_iload hC 4 dX0_take_69 rfl ?_
    refine cv_iast hC (cv_a14 G) dX0_take_71 (fun s1 => ?_)
    exact cv_vret hC dX0_take_72
  · refine cv_aload_n hC 0 dX0_take_26 rfl rfl ?_
    refine cv_getr hC (fg_X0_15_2 G) dX0_take_27 ?_
    refine cv_iload_n hC 3 dX0_take_30 rfl rfl ?_
    refine cv_iload hC 5 dX0_take_31 rfl ?_
    refine cv_iadd hC dX0_take_33 ?_
    refine cv_aload_n hC 2 dX0_take_34 rfl rfl ?_
    refine cv_getr hC (fg_X0_45_1 G) dX0_take_35 ?_
    refine cv_iload hC 5 dX0_take_38 rfl ?_
    refine cv_cald hC (cv_a12 G) dX0_take_40 (fun v2 => ?_)
    refine cv_cast hC (cv_a15 G) dX0_take_41 (fun s3 => ?_)
    refine cv_aload_n hC 0 dX0_take_42 rfl rfl ?_
    refine cv_getr hC (fg_X0_19_2 G) dX0_take_43 ?_
    refine cv_iload_n hC 3 dX0_take_46 rfl rfl ?_
    refine cv_iload hC 5 dX0_take_47 rfl ?_
    refine cv_iadd hC dX0_take_49 ?_
    refine cv_aload_n hC 2 dX0_take_50 rfl rfl ?_
    refine cv_getr hC (fg_X0_46_1 G) dX0_take_51 ?_
    refine cv_iload hC 5 dX0_take_54 rfl ?_
    refine cv_iald hC (cv_a13 G) dX0_take_56 (fun v4 => ?_)
    refine cv_iast hC (cv_a16 G) dX0_take_57 (fun s5 => ?_)
    refine cv_iinc (lv' := [(5, .int (l5 + Int32.ofInt 1)), (0, .ref (G.1 2)), (1, .int l1), (2, .ref (G.1 1)), (3, .int l3), (4, .int l4)]) hC 5 dX0_take_58 rfl (by decide) rfl ?_
    refine cv_goto (tgt := 19) hC dX0_take_61 (by decide) ?_
    exact cv_sub [1, 2, 3, 4, 5, 0] rfl (hk19 l1 l3 l4 (l5 + Int32.ofInt 1) s5)
set_option maxRecDepth 20000 in
set_option maxHeartbeats 2000000 in
theorem J_X0_take_2_1_b19 {X : cv_X} {G : cv_G} {LL : Launch} (hC : cv_C X G LL RX0 cX0_take 6 none { frames := 1, cells := 0, slots := 0, locals := 21 }) : ∀ (n : Nat) (l1 : Int32) (l3 : Int32) (l4 : Int32) (l5 : Int32) (σ : cv_St), cv_J X G 6 0 0 (cv_QV X G) 19 [(0, .ref (G.1 2)), (1, .int l1), (2, .ref (G.1 1)), (3, .int l3), (4, .int l4), (5, .int l5)] [] σ (F_X0_take_2_1_b19 n l1 l3 l4 l5 σ) := by
  intro n
  induction n with
  | zero => intro l1 l3 l4 l5 σ; exact cv_none
  | succ n ih => intro l1 l3 l4 l5 σ; exact I_X0_take_2_1_b19 hC _ ih l1 l3 l4 l5 σ
set_option maxRecDepth 20000 in
set_option maxHeartbeats 2000000 in
theorem J_X0_take_2_1 {X : cv_X} {G : cv_G} {LL : Launch} (hC : cv_C X G LL RX0 cX0_take 6 none { frames := 1, cells := 0, slots := 0, locals := 21 }) (l1 : Int32) (σ : cv_St) : cv_J X G 6 0 0 (cv_QV X G) 0 [(0, .ref (G.1 2)), (1, .int l1), (2, .ref (G.1 1))] [] σ (F_X0_take_2_1 l1 σ) := by
  unfold F_X0_take_2_1
  refine cv_iload_n hC 1 dX0_take_0 rfl rfl ?_
  refine cv_bipush (v := 14) hC dX0_take_1 cb_bipush_14 ?_
  refine cv_imul hC dX0_take_3 ?_
  refine cv_istore_n (lv' := [(3, .int (l1 * 14)), (0, .ref (G.1 2)), (1, .int l1), (2, .ref (G.1 1))]) hC dX0_take_4 rfl (by decide) rfl ?_
  refine cv_aload_n hC 3 dX0_take_5 rfl rfl ?_
  refine cv_geti hC (fg_X0_34_1 G) dX0_take_6 ?_
  refine cv_bipush (v := 14) hC dX0_take_9 cb_bipush_14 ?_
  refine cv_mmin hC ln_X0_40 sw_min.1 sw_min.2.1 sw_min.2.2 ⟨Nat.le_of_ble_eq_true rfl, Nat.le_of_ble_eq_true rfl⟩ ⟨Nat.le_of_ble_eq_true rfl, Nat.le_of_ble_eq_true rfl⟩ dX0_take_11 ?_
  refine cv_istore (lv' := [(4, .int (if 14 < (σ.2.1 4) then 14 else (σ.2.1 4))), (3, .int (l1 * 14)), (0, .ref (G.1 2)), (1, .int l1), (2, .ref (G.1 1))]) hC dX0_take_14 (by decide) rfl ?_
  refine cv_iconst (v := 0) hC dX0_take_16 cb_iconst_0 ?_
  refine cv_istore (lv' := [(5, .int 0), (4, .int (if 14 < (σ.2.1 4) then 14 else (σ.2.1 4))), (3, .int (l1 * 14)), (0, .ref (G.1 2)), (1, .int l1), (2, .ref (G.1 1))]) hC dX0_take_17 (by decide) rfl ?_
  exact cv_sub [3, 4, 5, 2, 1, 0] rfl (J_X0_take_2_1_b19 hC 1000 l1 (l1 * 14) (if 14 < (σ.2.1 4) then 14 else (σ.2.1 4)) 0 σ)
set_option maxRecDepth 20000 in
set_option maxHeartbeats 2000000 in
theorem M_X0_take_2_1 (LL : Launch) (G : cv_G) (l1 : Int32) (σ : cv_St) : cv_MV LL G yX0_take cX0_take 6 1 21 [.ref (G.1 2), .int l1, .ref (G.1 1)] σ (F_X0_take_2_1 l1 σ) :=
  cv_mkV (by decide) (Nat.le_of_ble_eq_true rfl) (fun X hC => J_X0_take_2_1 hC l1 σ)
/-! X0_kindAt -/
set_option maxRecDepth 20000 in
set_option maxHeartbeats 2000000 in
theorem J_X0_kindAt {X : cv_X} {G : cv_G} {LL : Launch} (hC : cv_C X G LL RX0 cX0_kindAt 3 (some .char) { frames := 0, cells := 0, slots := 0, locals := 0 }) (l1 : Int32) (l2 : Int32) (σ : cv_St) : cv_J X G 3 0 0 (cv_QI X G) 0 [(0, .ref (G.1 2)), (1, .int l1), (2, .int l2)] [] σ (F_X0_kindAt l1 l2 σ) := by
  unfold F_X0_kindAt
  refine cv_aload_n hC 0 dX0_kindAt_0 rfl rfl ?_
  refine cv_getr hC (fg_X0_15_2 G) dX0_kindAt_1 ?_
  refine cv_iload_n hC 1 dX0_kindAt_4 rfl rfl ?_
  refine cv_bipush (v := 14) hC dX0_kindAt_5 cb_bipush_14 ?_
  refine cv_imul hC dX0_kindAt_7 ?_
  refine cv_iload_n hC 2 dX0_kindAt_8 rfl rfl ?_
  refine cv_iadd hC dX0_kindAt_9 ?_
  refine cv_cald hC (cv_a15 G) dX0_kindAt_10 (fun v1 => ?_)
  exact cv_cret hC dX0_kindAt_11
set_option maxRecDepth 20000 in
set_option maxHeartbeats 2000000 in
theorem M_X0_kindAt (LL : Launch) (G : cv_G) (l1 : Int32) (l2 : Int32) (σ : cv_St) : cv_MI LL G yX0_kindAt cX0_kindAt 3 (some .char) 0 0 [.ref (G.1 2), .int l1, .int l2] σ (F_X0_kindAt l1 l2 σ) :=
  cv_mkI (by decide) (Nat.le_of_ble_eq_true rfl) (fun X hC => J_X0_kindAt hC l1 l2 σ)
/-! X0_numberAt -/
set_option maxRecDepth 20000 in
set_option maxHeartbeats 2000000 in
theorem J_X0_numberAt {X : cv_X} {G : cv_G} {LL : Launch} (hC : cv_C X G LL RX0 cX0_numberAt 3 (some .int) { frames := 0, cells := 0, slots := 0, locals := 0 }) (l1 : Int32) (l2 : Int32) (σ : cv_St) : cv_J X G 3 0 0 (cv_QI X G) 0 [(0, .ref (G.1 2)), (1, .int l1), (2, .int l2)] [] σ (F_X0_numberAt l1 l2 σ) := by
  unfold F_X0_numberAt
  refine cv_aload_n hC 0 dX0_numberAt_0 rfl rfl ?_
  refine cv_getr hC (fg_X0_19_2 G) dX0_numberAt_1 ?_
  refine cv_iload_n hC 1 dX0_numberAt_4 rfl rfl ?_
  refine cv_bipush (v := 14) hC dX0_numberAt_5 cb_bipush_14 ?_
  refine cv_imul hC dX0_numberAt_7 ?_
  refine cv_iload_n hC 2 dX0_numberAt_8 rfl rfl ?_
  refine cv_iadd hC dX0_numberAt_9 ?_
  refine cv_iald hC (cv_a16 G) dX0_numberAt_10 (fun v1 => ?_)
  exact cv_iret hC dX0_numberAt_11
set_option maxRecDepth 20000 in
set_option maxHeartbeats 2000000 in
theorem M_X0_numberAt (LL : Launch) (G : cv_G) (l1 : Int32) (l2 : Int32) (σ : cv_St) : cv_MI LL G yX0_numberAt cX0_numberAt 3 (some .int) 0 0 [.ref (G.1 2), .int l1, .int l2] σ (F_X0_numberAt l1 l2 σ) :=
  cv_mkI (by decide) (Nat.le_of_ble_eq_true rfl) (fun X hC => J_X0_numberAt hC l1 l2 σ)
/-! X0_isCall -/
set_option maxRecDepth 20000 in
set_option maxHeartbeats 2000000 in
theorem J_X0_isCall {X : cv_X} {G : cv_G} {LL : Launch} (hC : cv_C X G LL RX0 cX0_isCall 3 (some .boolean) { frames := 1, cells := 0, slots := 0, locals := 22 }) (l1 : Int32) (l2 : Int32) (σ : cv_St) : cv_J X G 3 0 0 (cv_QI X G) 0 [(0, .ref (G.1 2)), (1, .int l1), (2, .int l2)] [] σ (F_X0_isCall l1 l2 σ) := by
  unfold F_X0_isCall
  refine cv_aload_n hC 0 dX0_isCall_0 rfl rfl ?_
  refine cv_iload_n hC 1 dX0_isCall_1 rfl rfl ?_
  refine cv_iload_n hC 2 dX0_isCall_2 rfl rfl ?_
  refine cv_callVi (ob := 2) hC [.int l1, .int l2] [] (M_X0_kindAt LL G l1 l2 σ) ln_X0_22 vm_X0_kindAt (ob_2 G) rfl rfl (Nat.le_of_ble_eq_true rfl) ⟨Nat.le_of_ble_eq_true rfl, Nat.le_of_ble_eq_true rfl⟩ ⟨Nat.le_of_ble_eq_true rfl, Nat.le_of_ble_eq_true rfl⟩ dX0_isCall_3 (fun v2 s1 => ?_)
  refine cv_bipush (v := 99) hC dX0_isCall_6 cb_bipush_99 ?_
  refine cv_icmp_ne (tgt := 15) hC dX0_isCall_8 (by decide) ?_ ?_
  · refine cv_iconst (v := 0) hC dX0_isCall_15 cb_iconst_0 ?_
    exact cv_zret hC dX0_isCall_16
  · refine cv_iconst (v := 1) hC dX0_isCall_11 cb_iconst_1 ?_
    refine cv_goto (tgt := 16) hC dX0_isCall_12 (by decide) ?_
    exact cv_zret hC dX0_isCall_16
set_option maxRecDepth 20000 in
set_option maxHeartbeats 2000000 in
theorem M_X0_isCall (LL : Launch) (G : cv_G) (l1 : Int32) (l2 : Int32) (σ : cv_St) : cv_MI LL G yX0_isCall cX0_isCall 3 (some .boolean) 1 22 [.ref (G.1 2), .int l1, .int l2] σ (F_X0_isCall l1 l2 σ) :=
  cv_mkI (by decide) (Nat.le_of_ble_eq_true rfl) (fun X hC => J_X0_isCall hC l1 l2 σ)
/-! X0_readBy -/
set_option maxRecDepth 20000 in
set_option maxHeartbeats 2000000 in
theorem J_X0_readBy {X : cv_X} {G : cv_G} {LL : Launch} (hC : cv_C X G LL RX0 cX0_readBy 5 (some .int) { frames := 1, cells := 0, slots := 0, locals := 22 }) (l1 : Int32) (l2 : Int32) (σ : cv_St) : cv_J X G 5 0 0 (cv_QI X G) 0 [(0, .ref (G.1 2)), (1, .int l1), (2, .int l2)] [] σ (F_X0_readBy l1 l2 σ) := by
  unfold F_X0_readBy
  refine cv_aload_n hC 0 dX0_readBy_0 rfl rfl ?_
  refine cv_iload_n hC 1 dX0_readBy_1 rfl rfl ?_
  refine cv_iload_n hC 2 dX0_readBy_2 rfl rfl ?_
  refine cv_callVi (ob := 2) hC [.int l1, .int l2] [] (M_X0_kindAt LL G l1 l2 σ) ln_X0_22 vm_X0_kindAt (ob_2 G) rfl rfl (Nat.le_of_ble_eq_true rfl) ⟨Nat.le_of_ble_eq_true rfl, Nat.le_of_ble_eq_true rfl⟩ ⟨Nat.le_of_ble_eq_true rfl, Nat.le_of_ble_eq_true rfl⟩ dX0_readBy_3 (fun v2 s1 => ?_)
  refine cv_istore_n (lv' := [(3, .int v2), (0, .ref (G.1 2)), (1, .int l1), (2, .int l2)]) hC dX0_readBy_6 rfl (by decide) rfl ?_
  refine cv_aload_n hC 1 dX0_readBy_7 rfl rfl ?_
  refine cv_iload_n hC 2 dX0_readBy_8 rfl rfl ?_
  refine cv_iload_n hC 3 dX0_readBy_9 rfl rfl ?_
  refine cv_callVi (ob := 2) hC [.int l1, .int l2] [] (M_X0_numberAt LL G l1 l2 s1) ln_X0_26 vm_X0_numberAt (ob_2 G) rfl rfl (Nat.le_of_ble_eq_true rfl) ⟨Nat.le_of_ble_eq_true rfl, Nat.le_of_ble_eq_true rfl⟩ ⟨Nat.le_of_ble_eq_true rfl, Nat.le_of_ble_eq_true rfl⟩ dX0_readBy_10 (fun v4 s3 => ?_)
  refine cv_istore (lv' := [(4, .int v4), (3, .int v2), (0, .ref (G.1 2)), (1, .int l1), (2, .int l2)]) hC dX0_readBy_13 (by decide) rfl ?_
  refine cv_iload_n hC 1 dX0_readBy_15 rfl rfl ?_
  refine cv_bipush (v := 117) hC dX0_readBy_16 cb_bipush_117 ?_
  refine cv_icmp_ne (tgt := 26) hC dX0_readBy_18 (by decide) ?_ ?_
  · refine cv_iload_n hC 1 dX0_readBy_26 rfl rfl ?_
    refine cv_bipush (v := 109) hC dX0_readBy_27 cb_bipush_109 ?_
    refine cv_icmp_ne (tgt := 42) hC dX0_readBy_29 (by decide) ?_ ?_
    · refine cv_iconst (v := 0) hC dX0_readBy_42 cb_iconst_0 ?_
      exact cv_iret hC dX0_readBy_43
    · refine cv_iconst (v := 1) hC dX0_readBy_32 cb_iconst_1 ?_
      refine cv_iload hC 0 dX0_readBy_33 rfl ?_
      refine cv_bipush (v := 10) hC dX0_readBy_35 cb_bipush_10 ?_
      refine cv_irem hC dX0_readBy_37 (by decide) ?_
      refine cv_ishl hC dX0_readBy_38 ?_
      refine cv_goto (tgt := 43) hC dX0_readBy_39 (by decide) ?_
      exact cv_iret hC dX0_readBy_43
  · refine cv_iconst (v := 1) hC dX0_readBy_21 cb_iconst_1 ?_
    refine cv_iload hC 0 dX0_readBy_22 rfl ?_
    refine cv_ishl hC dX0_readBy_24 ?_
    exact cv_iret hC dX0_readBy_25
set_option maxRecDepth 20000 in
set_option maxHeartbeats 2000000 in
theorem M_X0_readBy (LL : Launch) (G : cv_G) (l1 : Int32) (l2 : Int32) (σ : cv_St) : cv_MI LL G yX0_readBy cX0_readBy 5 (some .int) 1 22 [.ref (G.1 2), .int l1, .int l2] σ (F_X0_readBy l1 l2 σ) :=
  cv_mkI (by decide) (Nat.le_of_ble_eq_true rfl) (fun X hC => J_X0_readBy hC l1 l2 σ)
/-! X0_writtenBy -/
set_option maxRecDepth 20000 in
set_option maxHeartbeats 2000000 in
theorem J_X0_writtenBy_b27 {X : cv_X} {G : cv_G} {LL : Launch} (hC : cv_C X G LL RX0 cX0_writtenBy 5 (some .int) { frames := 1, cells := 0, slots := 0, locals := 22 }) (l4 : Int32) (σ : cv_St) : cv_J X G 5 0 0 (cv_QI X G) 27 [(4, .int l4)] [] σ (F_X0_writtenBy_b27 l4 σ) := by
  unfold F_X0_writtenBy_b27
  refine cv_iconst (v := 1) hC dX0_writtenBy_27 cb_iconst_1 ?_
  refine cv_iload hC 0 dX0_writtenBy_28 rfl ?_
  refine cv_ishl hC dX0_writtenBy_30 ?_
  exact cv_iret hC dX0_writtenBy_31
set_option maxRecDepth 20000 in
set_option maxHeartbeats 2000000 in
theorem J_X0_writtenBy {X : cv_X} {G : cv_G} {LL : Launch} (hC : cv_C X G LL RX0 cX0_writtenBy 5 (some .int) { frames := 1, cells := 0, slots := 0, locals := 22 }) (l1 : Int32) (l2 : Int32) (σ : cv_St) : cv_J X G 5 0 0 (cv_QI X G) 0 [(0, .ref (G.1 2)), (1, .int l1), (2, .int l2)] [] σ (F_X0_writtenBy l1 l2 σ) := by
  unfold F_X0_writtenBy
  refine cv_aload_n hC 0 dX0_writtenBy_0 rfl rfl ?_
  refine cv_iload_n hC 1 dX0_writtenBy_1 rfl rfl ?_
  refine cv_iload_n hC 2 dX0_writtenBy_2 rfl rfl ?_
  refine cv_callVi (ob := 2) hC [.int l1, .int l2] [] (M_X0_kindAt LL G l1 l2 σ) ln_X0_22 vm_X0_kindAt (ob_2 G) rfl rfl (Nat.le_of_ble_eq_true rfl) ⟨Nat.le_of_ble_eq_true rfl, Nat.le_of_ble_eq_true rfl⟩ ⟨Nat.le_of_ble_eq_true rfl, Nat.le_of_ble_eq_true rfl⟩ dX0_writtenBy_3 (fun v2 s1 => ?_)
  refine cv_istore_n (lv' := [(3, .int v2), (0, .ref (G.1 2)), (1, .int l1), (2, .int l2)]) hC dX0_writtenBy_6 rfl (by decide) rfl ?_
  refine cv_aload_n hC 1 dX0_writtenBy_7 rfl rfl ?_
  refine cv_iload_n hC 2 dX0_writtenBy_8 rfl rfl ?_
  refine cv_iload_n hC 3 dX0_writtenBy_9 rfl rfl ?_
  refine cv_callVi (ob := 2) hC [.int l1, .int l2] [] (M_X0_numberAt LL G l1 l2 s1) ln_X0_26 vm_X0_numberAt (ob_2 G) rfl rfl (Nat.le_of_ble_eq_true rfl) ⟨Nat.le_of_ble_eq_true rfl, Nat.le_of_ble_eq_true rfl⟩ ⟨Nat.le_of_ble_eq_true rfl, Nat.le_of_ble_eq_true rfl⟩ dX0_writtenBy_10 (fun v4 s3 => ?_)
  refine cv_istore (lv' := [(4, .int v4), (3, .int v2), (0, .ref (G.1 2)), (1, .int l1), (2, .int l2)]) hC dX0_writtenBy_13 (by decide) rfl ?_
  refine cv_iload_n hC 1 dX0_writtenBy_15 rfl rfl ?_
  refine cv_bipush (v := 100) hC dX0_writtenBy_16 cb_bipush_100 ?_
  refine cv_icmp_eq (tgt := 27) hC dX0_writtenBy_18 (by decide) ?_ ?_
  · exact cv_sub [0] rfl (J_X0_writtenBy_b27 hC v4 s3)
  · refine cv_iload_n hC 1 dX0_writtenBy_21 rfl rfl ?_
    refine cv_bipush (v := 45) hC dX0_writtenBy_22 cb_bipush_45 ?_
    refine cv_icmp_ne (tgt := 32) hC dX0_writtenBy_24 (by decide) ?_ ?_
    · refine cv_iload_n hC 1 dX0_writtenBy_32 rfl rfl ?_
      refine cv_bipush (v := 109) hC dX0_writtenBy_33 cb_bipush_109 ?_
      refine cv_icmp_ne (tgt := 48) hC dX0_writtenBy_35 (by decide) ?_ ?_
      · refine cv_iconst (v := 0) hC dX0_writtenBy_48 cb_iconst_0 ?_
        exact cv_iret hC dX0_writtenBy_49
      · refine cv_iconst (v := 1) hC dX0_writtenBy_38 cb_iconst_1 ?_
        refine cv_iload hC 0 dX0_writtenBy_39 rfl ?_
        refine cv_bipush (v := 10) hC dX0_writtenBy_41 cb_bipush_10 ?_
        refine cv_idiv hC dX0_writtenBy_43 (by decide) ?_
        refine cv_ishl hC dX0_writtenBy_44 ?_
        refine cv_goto (tgt := 49) hC dX0_writtenBy_45 (by decide) ?_
        exact cv_iret hC dX0_writtenBy_49
    · exact cv_sub [0] rfl (J_X0_writtenBy_b27 hC v4 s3)
set_option maxRecDepth 20000 in
set_option maxHeartbeats 2000000 in
theorem M_X0_writtenBy (LL : Launch) (G : cv_G) (l1 : Int32) (l2 : Int32) (σ : cv_St) : cv_MI LL G yX0_writtenBy cX0_writtenBy 5 (some .int) 1 22 [.ref (G.1 2), .int l1, .int l2] σ (F_X0_writtenBy l1 l2 σ) :=
  cv_mkI (by decide) (Nat.le_of_ble_eq_true rfl) (fun X hC => J_X0_writtenBy hC l1 l2 σ)
/-! X0_entry -/
set_option maxRecDepth 20000 in
set_option maxHeartbeats 2000000 in
theorem J_X0_entry {X : cv_X} {G : cv_G} {LL : Launch} (hC : cv_C X G LL RX0 cX0_entry 2 (some .int) { frames := 0, cells := 0, slots := 0, locals := 0 }) (l1 : Int32) (σ : cv_St) : cv_J X G 2 0 0 (cv_QI X G) 0 [(0, .ref (G.1 2)), (1, .int l1)] [] σ (F_X0_entry l1 σ) := by
  unfold F_X0_entry
  refine cv_aload_n hC 0 dX0_entry_0 rfl rfl ?_
  refine cv_getr hC (fg_X0_9_2 G) dX0_entry_1 ?_
  refine cv_iload_n hC 1 dX0_entry_4 rfl rfl ?_
  refine cv_iald hC (cv_a14 G) dX0_entry_5 (fun v1 => ?_)
  refine cv_if_ne (tgt := 14) hC dX0_entry_6 (by decide) ?_ ?_
  · refine cv_iconst (v := 0) hC dX0_entry_14 cb_iconst_0 ?_
    exact cv_iret hC dX0_entry_15
  · refine cv_bipush (v := 14) hC dX0_entry_9 cb_bipush_14 ?_
    refine cv_goto (tgt := 15) hC dX0_entry_11 (by decide) ?_
    exact cv_iret hC dX0_entry_15
set_option maxRecDepth 20000 in
set_option maxHeartbeats 2000000 in
theorem M_X0_entry (LL : Launch) (G : cv_G) (l1 : Int32) (σ : cv_St) : cv_MI LL G yX0_entry cX0_entry 2 (some .int) 0 0 [.ref (G.1 2), .int l1] σ (F_X0_entry l1 σ) :=
  cv_mkI (by decide) (Nat.le_of_ble_eq_true rfl) (fun X hC => J_X0_entry hC l1 σ)
/-! X0_nodeBehind -/
set_option maxRecDepth 20000 in
set_option maxHeartbeats 2000000 in
theorem J_X0_nodeBehind_b39 {X : cv_X} {G : cv_G} {LL : Launch} (hC : cv_C X G LL RX0 cX0_nodeBehind 6 (some .int) { frames := 0, cells := 0, slots := 0, locals := 0 }) (l4 : Int32) (t0 : Int32) (σ : cv_St) : cv_J X G 6 0 0 (cv_QI X G) 39 [(4, .int l4)] [.int t0] σ (F_X0_nodeBehind_b39 l4 t0 σ) := by
  unfold F_X0_nodeBehind_b39
  refine cv_istore (lv' := [(5, .int t0), (4, .int l4)]) hC dX0_nodeBehind_39 (by decide) rfl ?_
  refine cv_iload hC 0 dX0_nodeBehind_41 rfl ?_
  refine cv_if_eq (tgt := 51) hC dX0_nodeBehind_43 (by decide) ?_ ?_
  · refine cv_iload hC 1 dX0_nodeBehind_51 rfl ?_
    exact cv_iret hC dX0_nodeBehind_53
  · refine cv_bipush (v := 14) hC dX0_nodeBehind_46 cb_bipush_14 ?_
    refine cv_goto (tgt := 53) hC dX0_nodeBehind_48 (by decide) ?_
    exact cv_iret hC dX0_nodeBehind_53
set_option maxRecDepth 20000 in
set_option maxHeartbeats 2000000 in
theorem J_X0_nodeBehind_b34 {X : cv_X} {G : cv_G} {LL : Launch} (hC : cv_C X G LL RX0 cX0_nodeBehind 6 (some .int) { frames := 0, cells := 0, slots := 0, locals := 0 }) (l4 : Int32) (σ : cv_St) : cv_J X G 6 0 0 (cv_QI X G) 34 [(4, .int l4)] [] σ (F_X0_nodeBehind_b34 l4 σ) := by
  unfold F_X0_nodeBehind_b34
  refine cv_iconst (v := 1) hC dX0_nodeBehind_34 cb_iconst_1 ?_
  refine cv_goto (tgt := 39) hC dX0_nodeBehind_35 (by decide) ?_
  exact cv_sub [0] rfl (J_X0_nodeBehind_b39 hC l4 1 σ)
set_option maxRecDepth 20000 in
set_option maxHeartbeats 2000000 in
theorem J_X0_nodeBehind {X : cv_X} {G : cv_G} {LL : Launch} (hC : cv_C X G LL RX0 cX0_nodeBehind 6 (some .int) { frames := 0, cells := 0, slots := 0, locals := 0 }) (l1 : Int32) (l2 : Int32) (l3 : Int32) (σ : cv_St) : cv_J X G 6 0 0 (cv_QI X G) 0 [(0, .ref (G.1 2)), (1, .int l1), (2, .int l2), (3, .int l3)] [] σ (F_X0_nodeBehind l1 l2 l3 σ) := by
  unfold F_X0_nodeBehind
  refine cv_iload_n hC 2 dX0_nodeBehind_0 rfl rfl ?_
  refine cv_iconst (v := 1) hC dX0_nodeBehind_1 cb_iconst_1 ?_
  refine cv_iadd hC dX0_nodeBehind_2 ?_
  refine cv_iload_n hC 3 dX0_nodeBehind_3 rfl rfl ?_
  refine cv_iadd hC dX0_nodeBehind_4 ?_
  refine cv_istore (lv' := [(4, .int ((l2 + 1) + l3)), (0, .ref (G.1 2)), (1, .int l1), (2, .int l2), (3, .int l3)]) hC dX0_nodeBehind_5 (by decide) rfl ?_
  refine cv_aload_n hC 1 dX0_nodeBehind_7 rfl rfl ?_
  refine cv_getr hC (fg_X0_15_2 G) dX0_nodeBehind_8 ?_
  refine cv_iload_n hC 2 dX0_nodeBehind_11 rfl rfl ?_
  refine cv_bipush (v := 14) hC dX0_nodeBehind_12 cb_bipush_14 ?_
  refine cv_imul hC dX0_nodeBehind_14 ?_
  refine cv_iload_n hC 3 dX0_nodeBehind_15 rfl rfl ?_
  refine cv_iadd hC dX0_nodeBehind_16 ?_
  refine cv_cald hC (cv_a15 G) dX0_nodeBehind_17 (fun v1 => ?_)
  refine cv_bipush (v := 114) hC dX0_nodeBehind_18 cb_bipush_114 ?_
  refine cv_icmp_eq (tgt := 34) hC dX0_nodeBehind_20 (by decide) ?_ ?_
  · exact cv_sub [0] rfl (J_X0_nodeBehind_b34 hC ((l2 + 1) + l3) σ)
  · refine cv_iload hC 0 dX0_nodeBehind_23 rfl ?_
    refine cv_aload_n hC 1 dX0_nodeBehind_25 rfl rfl ?_
    refine cv_getr hC (fg_X0_9_2 G) dX0_nodeBehind_26 ?_
    refine cv_iload_n hC 2 dX0_nodeBehind_29 rfl rfl ?_
    refine cv_iald hC (cv_a14 G) dX0_nodeBehind_30 (fun v2 => ?_)
    refine cv_icmp_lt (tgt := 38) hC dX0_nodeBehind_31 (by decide) ?_ ?_
    · refine cv_iconst (v := 0) hC dX0_nodeBehind_38 cb_iconst_0 ?_
      exact cv_sub [0] rfl (J_X0_nodeBehind_b39 hC ((l2 + 1) + l3) 0 σ)
    · exact cv_sub [0] rfl (J_X0_nodeBehind_b34 hC ((l2 + 1) + l3) σ)
set_option maxRecDepth 20000 in
set_option maxHeartbeats 2000000 in
theorem M_X0_nodeBehind (LL : Launch) (G : cv_G) (l1 : Int32) (l2 : Int32) (l3 : Int32) (σ : cv_St) : cv_MI LL G yX0_nodeBehind cX0_nodeBehind 6 (some .int) 0 0 [.ref (G.1 2), .int l1, .int l2, .int l3] σ (F_X0_nodeBehind l1 l2 l3 σ) :=
  cv_mkI (by decide) (Nat.le_of_ble_eq_true rfl) (fun X hC => J_X0_nodeBehind hC l1 l2 l3 σ)
/-! X0_next -/
set_option maxRecDepth 20000 in
set_option maxHeartbeats 2000000 in
theorem J_X0_next {X : cv_X} {G : cv_G} {LL : Launch} (hC : cv_C X G LL RX0 cX0_next 3 (some .int) { frames := 1, cells := 0, slots := 0, locals := 25 }) (l1 : Int32) (l2 : Int32) (σ : cv_St) : cv_J X G 3 0 0 (cv_QI X G) 0 [(0, .ref (G.1 2)), (1, .int l1), (2, .int l2)] [] σ (F_X0_next l1 l2 σ) := by
  unfold F_X0_next
  refine cv_aload_n hC 0 dX0_next_0 rfl rfl ?_
  refine cv_iload_n hC 1 dX0_next_1 rfl rfl ?_
  refine cv_iload_n hC 2 dX0_next_2 rfl rfl ?_
  refine cv_iconst (v := 0) hC dX0_next_3 cb_iconst_0 ?_
  refine cv_callVi (ob := 2) hC [.int l1, .int l2, .int 0] [] (M_X0_nodeBehind LL G l1 l2 0 σ) ln_X0_30 vm_X0_nodeBehind (ob_2 G) rfl rfl (Nat.le_of_ble_eq_true rfl) ⟨Nat.le_of_ble_eq_true rfl, Nat.le_of_ble_eq_true rfl⟩ ⟨Nat.le_of_ble_eq_true rfl, Nat.le_of_ble_eq_true rfl⟩ dX0_next_4 (fun v2 s1 => ?_)
  exact cv_iret hC dX0_next_7
set_option maxRecDepth 20000 in
set_option maxHeartbeats 2000000 in
theorem M_X0_next (LL : Launch) (G : cv_G) (l1 : Int32) (l2 : Int32) (σ : cv_St) : cv_MI LL G yX0_next cX0_next 3 (some .int) 1 25 [.ref (G.1 2), .int l1, .int l2] σ (F_X0_next l1 l2 σ) :=
  cv_mkI (by decide) (Nat.le_of_ble_eq_true rfl) (fun X hC => J_X0_next hC l1 l2 σ)
/-! X0_other -/
set_option maxRecDepth 20000 in
set_option maxHeartbeats 2000000 in
theorem J_X0_other_b31 {X : cv_X} {G : cv_G} {LL : Launch} (hC : cv_C X G LL RX0 cX0_other 4 (some .int) { frames := 1, cells := 0, slots := 0, locals := 25 }) (t0 : Int32) (t1 : Int32) (t2 : Int32) (σ : cv_St) : cv_J X G 4 0 0 (cv_QI X G) 31 [] [.int t0, .int t1, .int t2, .ref (G.1 2)] σ (F_X0_other_b31 t0 t1 t2 σ) := by
  unfold F_X0_other_b31
  refine cv_callVi (ob := 2) hC [.int t2, .int t1, .int t0] [] (M_X0_nodeBehind LL G t2 t1 t0 σ) ln_X0_30 vm_X0_nodeBehind (ob_2 G) rfl rfl (Nat.le_of_ble_eq_true rfl) ⟨Nat.le_of_ble_eq_true rfl, Nat.le_of_ble_eq_true rfl⟩ ⟨Nat.le_of_ble_eq_true rfl, Nat.le_of_ble_eq_true rfl⟩ dX0_other_31 (fun v3 s2 => ?_)
  exact cv_iret hC dX0_other_34
set_option maxRecDepth 20000 in
set_option maxHeartbeats 2000000 in
theorem J_X0_other {X : cv_X} {G : cv_G} {LL : Launch} (hC : cv_C X G LL RX0 cX0_other 4 (some .int) { frames := 1, cells := 0, slots := 0, locals := 25 }) (l1 : Int32) (l2 : Int32) (σ : cv_St) : cv_J X G 4 0 0 (cv_QI X G) 0 [(0, .ref (G.1 2)), (1, .int l1), (2, .int l2)] [] σ (F_X0_other l1 l2 σ) := by
  unfold F_X0_other
  refine cv_iload_n hC 1 dX0_other_0 rfl rfl ?_
  refine cv_bipush (v := 14) hC dX0_other_1 cb_bipush_14 ?_
  refine cv_imul hC dX0_other_3 ?_
  refine cv_iload_n hC 2 dX0_other_4 rfl rfl ?_
  refine cv_iadd hC dX0_other_5 ?_
  refine cv_istore_n (lv' := [(3, .int ((l1 * 14) + l2)), (0, .ref (G.1 2)), (1, .int l1), (2, .int l2)]) hC dX0_other_6 rfl (by decide) rfl ?_
  refine cv_aload_n hC 1 dX0_other_7 rfl rfl ?_
  refine cv_iload_n hC 2 dX0_other_8 rfl rfl ?_
  refine cv_iload_n hC 3 dX0_other_9 rfl rfl ?_
  refine cv_aload_n hC 1 dX0_other_10 rfl rfl ?_
  refine cv_getr hC (fg_X0_15_2 G) dX0_other_11 ?_
  refine cv_iload_n hC 0 dX0_other_14 rfl rfl ?_
  refine cv_cald hC (cv_a15 G) dX0_other_15 (fun v1 => ?_)
  refine cv_bipush (v := 98) hC dX0_other_16 cb_bipush_98 ?_
  refine cv_icmp_ne (tgt := 30) hC dX0_other_18 (by decide) ?_ ?_
  · refine cv_iconst (v := 0) hC dX0_other_30 cb_iconst_0 ?_
    exact cv_sub [] rfl (J_X0_other_b31 hC 0 l2 l1 σ)
  · refine cv_aload_n hC 1 dX0_other_21 rfl rfl ?_
    refine cv_getr hC (fg_X0_19_2 G) dX0_other_22 ?_
    refine cv_iload_n hC 0 dX0_other_25 rfl rfl ?_
    refine cv_iald hC (cv_a16 G) dX0_other_26 (fun v4 => ?_)
    refine cv_goto (tgt := 31) hC dX0_other_27 (by decide) ?_
    exact cv_sub [] rfl (J_X0_other_b31 hC v4 l2 l1 σ)
set_option maxRecDepth 20000 in
set_option maxHeartbeats 2000000 in
theorem M_X0_other (LL : Launch) (G : cv_G) (l1 : Int32) (l2 : Int32) (σ : cv_St) : cv_MI LL G yX0_other cX0_other 4 (some .int) 1 25 [.ref (G.1 2), .int l1, .int l2] σ (F_X0_other l1 l2 σ) :=
  cv_mkI (by decide) (Nat.le_of_ble_eq_true rfl) (fun X hC => J_X0_other hC l1 l2 σ)
/-! X0_countFilled -/
set_option maxRecDepth 20000 in
set_option maxHeartbeats 2000000 in
theorem J_X0_countFilled_b22 {X : cv_X} {G : cv_G} {LL : Launch} (hC : cv_C X G LL RX0 cX0_countFilled 3 (some .int) { frames := 0, cells := 0, slots := 0, locals := 0 }) (k4 : Int32 → Int32 → cv_St → Option (Int32 × cv_St)) (hk4 : ∀ (l1 : Int32) (l2 : Int32)  σ, cv_J X G 3 0 0 (cv_QI X G) 4 [(0, .ref (G.1 2)), (1, .int l1), (2, .int l2)] [] σ (k4 l1 l2 σ)) (l1 : Int32) (l2 : Int32) (σ : cv_St) : cv_J X G 3 0 0 (cv_QI X G) 22 [(0, .ref (G.1 2)), (1, .int l1), (2, .int l2)] [] σ (F_X0_countFilled_b22 k4 l1 l2 σ) := by
  unfold F_X0_countFilled_b22
  refine cv_iinc (lv' := [(2, .int (l2 + Int32.ofInt 1)), (0, .ref (G.1 2)), (1, .int l1)]) hC 2 dX0_countFilled_22 rfl (by decide) rfl ?_
  refine cv_goto (tgt := 4) hC dX0_countFilled_25 (by decide) ?_
  exact cv_sub [1, 2, 0] rfl (hk4 l1 (l2 + Int32.ofInt 1) σ)
set_option maxRecDepth 20000 in
set_option maxHeartbeats 2000000 in
theorem I_X0_countFilled_b4 {X : cv_X} {G : cv_G} {LL : Launch} (hC : cv_C X G LL RX0 cX0_countFilled 3 (some .int) { frames := 0, cells := 0, slots := 0, locals := 0 }) (k4 : Int32 → Int32 → cv_St → Option (Int32 × cv_St)) (hk4 : ∀ (l1 : Int32) (l2 : Int32)  σ, cv_J X G 3 0 0 (cv_QI X G) 4 [(0, .ref (G.1 2)), (1, .int l1), (2, .int l2)] [] σ (k4 l1 l2 σ)) (l1 : Int32) (l2 : Int32) (σ : cv_St) : cv_J X G 3 0 0 (cv_QI X G) 4 [(0, .ref (G.1 2)), (1, .int l1), (2, .int l2)] [] σ (B_X0_countFilled_b4 k4 l1 l2 σ) := by
  unfold B_X0_countFilled_b4
  refine cv_iload_n hC 2 dX0_countFilled_4 rfl rfl ?_
  refine cv_bipush (v := 8) hC dX0_countFilled_5 cb_bipush_8 ?_
  refine cv_icmp_ge (tgt := 28) hC dX0_countFilled_7 (by decide) ?_ ?_
  · refine cv_iload_n hC 1 dX0_countFilled_28 rfl rfl ?_
    exact cv_iret hC dX0_countFilled_29
  · refine cv_aload_n hC 0 dX0_countFilled_10 rfl rfl ?_
    refine cv_getr hC (fg_X0_9_2 G) dX0_countFilled_11 ?_
    refine cv_iload_n hC 2 dX0_countFilled_14 rfl rfl ?_
    refine cv_iald hC (cv_a14 G) dX0_countFilled_15 (fun v1 => ?_)
    refine cv_if_le (tgt := 22) hC dX0_countFilled_16 (by decide) ?_ ?_
    · exact cv_sub [0, 1, 2] rfl (J_X0_countFilled_b22 hC k4 hk4 l1 l2 σ)
    · refine cv_iinc (lv' := [(1, .int (l1 + Int32.ofInt 1)), (0, .ref (G.1 2)), (2, .int l2)]) hC 1 dX0_countFilled_19 rfl (by decide) rfl ?_
      exact cv_sub [1, 0, 2] rfl (J_X0_countFilled_b22 hC k4 hk4 (l1 + Int32.ofInt 1) l2 σ)
set_option maxRecDepth 20000 in
set_option maxHeartbeats 2000000 in
theorem J_X0_countFilled_b4 {X : cv_X} {G : cv_G} {LL : Launch} (hC : cv_C X G LL RX0 cX0_countFilled 3 (some .int) { frames := 0, cells := 0, slots := 0, locals := 0 }) : ∀ (n : Nat) (l1 : Int32) (l2 : Int32) (σ : cv_St), cv_J X G 3 0 0 (cv_QI X G) 4 [(0, .ref (G.1 2)), (1, .int l1), (2, .int l2)] [] σ (F_X0_countFilled_b4 n l1 l2 σ) := by
  intro n
  induction n with
  | zero => intro l1 l2 σ; exact cv_none
  | succ n ih => intro l1 l2 σ; exact I_X0_countFilled_b4 hC _ ih l1 l2 σ
set_option maxRecDepth 20000 in
set_option maxHeartbeats 2000000 in
theorem J_X0_countFilled {X : cv_X} {G : cv_G} {LL : Launch} (hC : cv_C X G LL RX0 cX0_countFilled 3 (some .int) { frames := 0, cells := 0, slots := 0, locals := 0 }) (σ : cv_St) : cv_J X G 3 0 0 (cv_QI X G) 0 [(0, .ref (G.1 2))] [] σ (F_X0_countFilled σ) := by
  unfold F_X0_countFilled
  refine cv_iconst (v := 0) hC dX0_countFilled_0 cb_iconst_0 ?_
  refine cv_istore_n (lv' := [(1, .int 0), (0, .ref (G.1 2))]) hC dX0_countFilled_1 rfl (by decide) rfl ?_
  refine cv_iconst (v := 0) hC dX0_countFilled_2 cb_iconst_0 ?_
  refine cv_istore_n (lv' := [(2, .int 0), (1, .int 0), (0, .ref (G.1 2))]) hC dX0_countFilled_3 rfl (by decide) rfl ?_
  exact cv_sub [2, 1, 0] rfl (J_X0_countFilled_b4 hC 1000 0 0 σ)
set_option maxRecDepth 20000 in
set_option maxHeartbeats 2000000 in
theorem M_X0_countFilled (LL : Launch) (G : cv_G) (σ : cv_St) : cv_MI LL G yX0_countFilled cX0_countFilled 3 (some .int) 0 0 [.ref (G.1 2)] σ (F_X0_countFilled σ) :=
  cv_mkI (by decide) (Nat.le_of_ble_eq_true rfl) (fun X hC => J_X0_countFilled hC σ)
/-! X0_drop -/
set_option maxRecDepth 20000 in
set_option maxHeartbeats 2000000 in
theorem I_X0_drop_b8 {X : cv_X} {G : cv_G} {LL : Launch} (hC : cv_C X G LL RX0 cX0_drop 5 none { frames := 0, cells := 0, slots := 0, locals := 0 }) (k8 : Int32 → Int32 → Int32 → cv_St → Option (cv_St)) (hk8 : ∀ (l1 : Int32) (l3 : Int32) (l4 : Int32)  σ, cv_J X G 5 0 0 (cv_QV X G) 8 [(0, .ref (G.1 2)), (1, .int l1), (3, .int l3), (4, .int l4)] [] σ (k8 l1 l3 l4 σ)) (l1 : Int32) (l3 : Int32) (l4 : Int32) (σ : cv_St) : cv_J X G 5 0 0 (cv_QV X G) 8 [(0, .ref (G.1 2)), (1, .int l1), (3, .int l3), (4, .int l4)] [] σ (B_X0_drop_b8 k8 l1 l3 l4 σ) := by
  unfold B_X0_drop_b8
  refine cv_iload hC 3 dX0_drop_8 rfl ?_
  refine cv_iconst (v := 1) hC dX0_drop_10 cb_iconst_1 ?_
  refine cv_iadd hC dX0_drop_11 ?_
  refine cv_aload_n hC 0 dX0_drop_12 rfl rfl ?_
  refine cv_getr hC (fg_X0_9_2 G) dX0_drop_13 ?_
  refine cv_iload_n hC 1 dX0_drop_16 rfl rfl ?_
  refine cv_iald hC (cv_a14 G) dX0_drop_17 (fun v1 => ?_)
  refine cv_icmp_ge (tgt := 67) hC dX0_drop_18 (by decide) ?_ ?_
  · refine cv_aload_n hC 0 dX0_drop_67 rfl rfl ?_
    refine cv_getr hC (fg_X0_9_2 G) dX0_drop_68 ?_
    refine cv_iload_n hC 1 dX0_drop_71 rfl rfl ?_
    refine cv_dup2 hC dX0_drop_72 rfl rfl ?_
    refine cv_iald hC (cv_a14 G) dX0_drop_73 (fun v2 => ?_)
    refine cv_iconst (v := 1) hC dX0_drop_74 cb_iconst_1 ?_
    refine cv_isub hC dX0_drop_75 ?_
    refine cv_iast hC (cv_a14 G) dX0_drop_76 (fun s3 => ?_)
    exact cv_vret hC dX0_drop_77
  · refine cv_aload_n hC 0 dX0_drop_21 rfl rfl ?_
    refine cv_getr hC (fg_X0_15_2 G) dX0_drop_22 ?_
    refine cv_iload_n hC 2 dX0_drop_25 rfl rfl ?_
    refine cv_iload hC 3 dX0_drop_26 rfl ?_
    refine cv_iadd hC dX0_drop_28 ?_
    refine cv_aload_n hC 0 dX0_drop_29 rfl rfl ?_
    refine cv_getr hC (fg_X0_15_2 G) dX0_drop_30 ?_
    refine cv_iload_n hC 2 dX0_drop_33 rfl rfl ?_
    refine cv_iload hC 3 dX0_drop_34 rfl ?_
    refine cv_iadd hC dX0_drop_36 ?_
    refine cv_iconst (v := 1) hC dX0_drop_37 cb_iconst_1 ?_
    refine cv_iadd hC dX0_drop_38 ?_
    refine cv_cald hC (cv_a15 G) dX0_drop_39 (fun v4 => ?_)
    refine cv_cast hC (cv_a15 G) dX0_drop_40 (fun s5 => ?_)
    refine cv_aload_n hC 0 dX0_drop_41 rfl rfl ?_
    refine cv_getr hC (fg_X0_19_2 G) dX0_drop_42 ?_
    refine cv_iload_n hC 2 dX0_drop_45 rfl rfl ?_
    refine cv_iload hC 3 dX0_drop_46 rfl ?_
    refine cv_iadd hC dX0_drop_48 ?_
    refine cv_aload_n hC 0 dX0_drop_49 rfl rfl ?_
    refine cv_getr hC (fg_X0_19_2 G) dX0_drop_50 ?_
    refine cv_iload_n hC 2 dX0_drop_53 rfl rfl ?_
    refine cv_iload hC 3 dX0_drop_54 rfl ?_
    refine cv_iadd hC dX0_drop_56 ?_
    refine cv_iconst (v := 1) hC dX0_drop_57 cb_iconst_1 ?_
    refine cv_iadd hC dX0_drop_58 ?_
    refine cv_iald hC (cv_a16 G) dX0_drop_59 (fun v6 => ?_)
    refine cv_iast hC (cv_a16 G) dX0_drop_60 (fun s7 => ?_)
    refine cv_iinc (lv' := [(4, .int (l4 + Int32.ofInt 1)), (0, .ref (G.1 2)), (1, .int l1), (3, .int l3)]) hC 3 dX0_drop_61 rfl (by decide) rfl ?_
    refine cv_goto (tgt := 8) hC dX0_drop_64 (by decide) ?_
    exact cv_sub [1, 2, 3, 0] rfl (hk8 l1 l3 (l4 + Int32.ofInt 1) s7)
set_option maxRecDepth 20000 in
set_option maxHeartbeats 2000000 in
theorem J_X0_drop_b8 {X : cv_X} {G : cv_G} {LL : Launch} (hC : cv_C X G LL RX0 cX0_drop 5 none { frames := 0, cells := 0, slots := 0, locals := 0 }) : ∀ (n : Nat) (l1 : Int32) (l3 : Int32) (l4 : Int32) (σ : cv_St), cv_J X G 5 0 0 (cv_QV X G) 8 [(0, .ref (G.1 2)), (1, .int l1), (3, .int l3), (4, .int l4)] [] σ (F_X0_drop_b8 n l1 l3 l4 σ) := by
  intro n
  induction n with
  | zero => intro l1 l3 l4 σ; exact cv_none
  | succ n ih => intro l1 l3 l4 σ; exact I_X0_drop_b8 hC _ ih l1 l3 l4 σ
set_option maxRecDepth 20000 in
set_option maxHeartbeats 2000000 in
theorem J_X0_drop {X : cv_X} {G : cv_G} {LL : Launch} (hC : cv_C X G LL RX0 cX0_drop 5 none { frames := 0, cells := 0, slots := 0, locals := 0 }) (l1 : Int32) (l2 : Int32) (σ : cv_St) : cv_J X G 5 0 0 (cv_QV X G) 0 [(0, .ref (G.1 2)), (1, .int l1), (2, .int l2)] [] σ (F_X0_drop l1 l2 σ) := by
  unfold F_X0_drop
  refine cv_iload_n hC 1 dX0_drop_0 rfl rfl ?_
  refine cv_bipush (v := 14) hC dX0_drop_1 cb_bipush_14 ?_
  refine cv_imul hC dX0_drop_3 ?_
  refine cv_istore_n (lv' := [(3, .int (l1 * 14)), (0, .ref (G.1 2)), (1, .int l1), (2, .int l2)]) hC dX0_drop_4 rfl (by decide) rfl ?_
  refine cv_iload_n hC 3 dX0_drop_5 rfl rfl ?_
  refine cv_istore (lv' := [(4, .int l2), (3, .int (l1 * 14)), (0, .ref (G.1 2)), (1, .int l1), (2, .int l2)]) hC dX0_drop_6 (by decide) rfl ?_
  exact cv_sub [2, 3, 1, 0] rfl (J_X0_drop_b8 hC 1000 l1 (l1 * 14) l2 σ)
set_option maxRecDepth 20000 in
set_option maxHeartbeats 2000000 in
theorem M_X0_drop (LL : Launch) (G : cv_G) (l1 : Int32) (l2 : Int32) (σ : cv_St) : cv_MV LL G yX0_drop cX0_drop 5 0 0 [.ref (G.1 2), .int l1, .int l2] σ (F_X0_drop l1 l2 σ) :=
  cv_mkV (by decide) (Nat.le_of_ble_eq_true rfl) (fun X hC => J_X0_drop hC l1 l2 σ)
/-! X6_keep -/
set_option maxRecDepth 20000 in
set_option maxHeartbeats 2000000 in
theorem J_X6_keep_b29 {X : cv_X} {G : cv_G} {LL : Launch} (hC : cv_C X G LL RX6 cX6_keep 3 none { frames := 0, cells := 0, slots := 0, locals := 0 }) (σ : cv_St) : cv_J X G 3 0 0 (cv_QV X G) 29 [(0, .ref (G.1 1))] [] σ (F_X6_keep_b29  σ) := by
  unfold F_X6_keep_b29
  refine cv_aload_n hC 0 dX6_keep_29 rfl rfl ?_
  refine cv_dup hC dX6_keep_30 rfl ?_
  refine cv_geti hC (fg_X6_26_1 G) dX6_keep_31 ?_
  refine cv_iconst (v := 1) hC dX6_keep_34 cb_iconst_1 ?_
  refine cv_iadd hC dX6_keep_35 ?_
  refine cv_puti hC (fp_X6_26_1 G) dX6_keep_36 (fun s1 => ?_)
  exact cv_vret hC dX6_keep_39
set_option maxRecDepth 20000 in
set_option maxHeartbeats 2000000 in
theorem J_X6_keep {X : cv_X} {G : cv_G} {LL : Launch} (hC : cv_C X G LL RX6 cX6_keep 3 none { frames := 0, cells := 0, slots := 0, locals := 0 }) (l1 : Int32) (l2 : Int32) (σ : cv_St) : cv_J X G 3 0 0 (cv_QV X G) 0 [(0, .ref (G.1 1)), (1, .int l1), (2, .int l2)] [] σ (F_X6_keep l1 l2 σ) := by
  unfold F_X6_keep
  refine cv_aload_n hC 0 dX6_keep_0 rfl rfl ?_
  refine cv_geti hC (fg_X6_26_1 G) dX6_keep_1 ?_
  refine cv_bipush (v := 14) hC dX6_keep_4 cb_bipush_14 ?_
  refine cv_icmp_ge (tgt := 29) hC dX6_keep_6 (by decide) ?_ ?_
  · exact cv_sub [0] rfl (J_X6_keep_b29 hC σ)
  · refine cv_aload_n hC 0 dX6_keep_9 rfl rfl ?_
    refine cv_getr hC (fg_X6_15_1 G) dX6_keep_10 ?_
    refine cv_aload_n hC 0 dX6_keep_13 rfl rfl ?_
    refine cv_geti hC (fg_X6_26_1 G) dX6_keep_14 ?_
    refine cv_iload_n hC 1 dX6_keep_17 rfl rfl ?_
    refine cv_cast hC (cv_a12 G) dX6_keep_18 (fun s2 => ?_)
    refine cv_aload_n hC 0 dX6_keep_19 rfl rfl ?_
    refine cv_getr hC (fg_X6_18_1 G) dX6_keep_20 ?_
    refine cv_aload_n hC 0 dX6_keep_23 rfl rfl ?_
    refine cv_geti hC (fg_X6_26_1 G) dX6_keep_24 ?_
    refine cv_iload_n hC 2 dX6_keep_27 rfl rfl ?_
    refine cv_iast hC (cv_a13 G) dX6_keep_28 (fun s3 => ?_)
    exact cv_sub [0] rfl (J_X6_keep_b29 hC s3)
set_option maxRecDepth 20000 in
set_option maxHeartbeats 2000000 in
theorem M_X6_keep (LL : Launch) (G : cv_G) (l1 : Int32) (l2 : Int32) (σ : cv_St) : cv_MV LL G yX6_keep cX6_keep 3 0 0 [.ref (G.1 1), .int l1, .int l2] σ (F_X6_keep l1 l2 σ) :=
  cv_mkV (by decide) (Nat.le_of_ble_eq_true rfl) (fun X hC => J_X6_keep hC l1 l2 σ)
/-! X6_fits -/
set_option maxRecDepth 20000 in
set_option maxHeartbeats 2000000 in
theorem J_X6_fits_b36 {X : cv_X} {G : cv_G} {LL : Launch} (hC : cv_C X G LL RX6 cX6_fits 2 (some .boolean) { frames := 0, cells := 0, slots := 0, locals := 0 }) (l1 : Int32) (σ : cv_St) : cv_J X G 2 0 0 (cv_QI X G) 36 [(1, .int l1)] [] σ (F_X6_fits_b36 l1 σ) := by
  unfold F_X6_fits_b36
  refine cv_iload_n hC 0 dX6_fits_36 rfl rfl ?_
  refine cv_bipush (v := 48) hC dX6_fits_37 cb_bipush_48 ?_
  refine cv_icmp_lt (tgt := 52) hC dX6_fits_39 (by decide) ?_ ?_
  · refine cv_iconst (v := 0) hC dX6_fits_52 cb_iconst_0 ?_
    exact cv_zret hC dX6_fits_53
  · refine cv_iload_n hC 0 dX6_fits_42 rfl rfl ?_
    refine cv_bipush (v := 51) hC dX6_fits_43 cb_bipush_51 ?_
    refine cv_icmp_gt (tgt := 52) hC dX6_fits_45 (by decide) ?_ ?_
    · refine cv_iconst (v := 0) hC dX6_fits_52 cb_iconst_0 ?_
      exact cv_zret hC dX6_fits_53
    · refine cv_iconst (v := 1) hC dX6_fits_48 cb_iconst_1 ?_
      refine cv_goto (tgt := 53) hC dX6_fits_49 (by decide) ?_
      exact cv_zret hC dX6_fits_53
set_option maxRecDepth 20000 in
set_option maxHeartbeats 2000000 in
theorem J_X6_fits {X : cv_X} {G : cv_G} {LL : Launch} (hC : cv_C X G LL RX6 cX6_fits 2 (some .boolean) { frames := 0, cells := 0, slots := 0, locals := 0 }) (l0 : Int32) (l1 : Int32) (σ : cv_St) : cv_J X G 2 0 0 (cv_QI X G) 0 [(0, .int l0), (1, .int l1)] [] σ (F_X6_fits l0 l1 σ) := by
  unfold F_X6_fits
  refine cv_iload_n hC 0 dX6_fits_0 rfl rfl ?_
  refine cv_bipush (v := 98) hC dX6_fits_1 cb_bipush_98 ?_
  refine cv_icmp_ne (tgt := 24) hC dX6_fits_3 (by decide) ?_ ?_
  · refine cv_iload_n hC 0 dX6_fits_24 rfl rfl ?_
    refine cv_bipush (v := 108) hC dX6_fits_25 cb_bipush_108 ?_
    refine cv_icmp_eq (tgt := 36) hC dX6_fits_27 (by decide) ?_ ?_
    · exact cv_sub [1] rfl (J_X6_fits_b36 hC l1 σ)
    · refine cv_iload_n hC 0 dX6_fits_30 rfl rfl ?_
      refine cv_bipush (v := 115) hC dX6_fits_31 cb_bipush_115 ?_
      refine cv_icmp_ne (tgt := 54) hC dX6_fits_33 (by decide) ?_ ?_
      · refine cv_iload_n hC 1 dX6_fits_54 rfl rfl ?_
        refine cv_bipush (v := 48) hC dX6_fits_55 cb_bipush_48 ?_
        refine cv_icmp_lt (tgt := 70) hC dX6_fits_57 (by decide) ?_ ?_
        · refine cv_iconst (v := 0) hC dX6_fits_70 cb_iconst_0 ?_
          exact cv_zret hC dX6_fits_71
        · refine cv_iload_n hC 1 dX6_fits_60 rfl rfl ?_
          refine cv_bipush (v := 55) hC dX6_fits_61 cb_bipush_55 ?_
          refine cv_icmp_gt (tgt := 70) hC dX6_fits_63 (by decide) ?_ ?_
          · refine cv_iconst (v := 0) hC dX6_fits_70 cb_iconst_0 ?_
            exact cv_zret hC dX6_fits_71
          · refine cv_iconst (v := 1) hC dX6_fits_66 cb_iconst_1 ?_
            refine cv_goto (tgt := 71) hC dX6_fits_67 (by decide) ?_
            exact cv_zret hC dX6_fits_71
      · exact cv_sub [1] rfl (J_X6_fits_b36 hC l1 σ)
  · refine cv_iload_n hC 1 dX6_fits_6 rfl rfl ?_
    refine cv_bipush (v := 49) hC dX6_fits_7 cb_bipush_49 ?_
    refine cv_icmp_lt (tgt := 22) hC dX6_fits_9 (by decide) ?_ ?_
    · refine cv_iconst (v := 0) hC dX6_fits_22 cb_iconst_0 ?_
      exact cv_zret hC dX6_fits_23
    · refine cv_iload_n hC 1 dX6_fits_12 rfl rfl ?_
      refine cv_bipush (v := 57) hC dX6_fits_13 cb_bipush_57 ?_
      refine cv_icmp_gt (tgt := 22) hC dX6_fits_15 (by decide) ?_ ?_
      · refine cv_iconst (v := 0) hC dX6_fits_22 cb_iconst_0 ?_
        exact cv_zret hC dX6_fits_23
      · refine cv_iconst (v := 1) hC dX6_fits_18 cb_iconst_1 ?_
        refine cv_goto (tgt := 23) hC dX6_fits_19 (by decide) ?_
        exact cv_zret hC dX6_fits_23
set_option maxRecDepth 20000 in
set_option maxHeartbeats 2000000 in
theorem M_X6_fits (LL : Launch) (G : cv_G) (l0 : Int32) (l1 : Int32) (σ : cv_St) : cv_MI LL G yX6_fits cX6_fits 2 (some .boolean) 0 0 [.int l0, .int l1] σ (F_X6_fits l0 l1 σ) :=
  cv_mkI (by decide) (Nat.le_of_ble_eq_true rfl) (fun X hC => J_X6_fits hC l0 l1 σ)
/-! X6_digitsBehind -/
set_option maxRecDepth 20000 in
set_option maxHeartbeats 2000000 in
theorem J_X6_digitsBehind_b69 {X : cv_X} {G : cv_G} {LL : Launch} (hC : cv_C X G LL RX6 cX6_digitsBehind 2 (some .int) { frames := 0, cells := 0, slots := 0, locals := 0 }) (t0 : Int32) (σ : cv_St) : cv_J X G 2 0 0 (cv_QI X G) 69 [] [.int t0] σ (F_X6_digitsBehind_b69 t0 σ) := by
  unfold F_X6_digitsBehind_b69
  refine cv_istore_n (lv' := [(1, .int t0)]) hC dX6_digitsBehind_69 rfl (by decide) rfl ?_
  refine cv_iload_n hC 0 dX6_digitsBehind_70 rfl rfl ?_
  refine cv_if_eq (tgt := 78) hC dX6_digitsBehind_71 (by decide) ?_ ?_
  · refine cv_iconst (v := (-1)) hC dX6_digitsBehind_78 cb_iconst_m1 ?_
    exact cv_iret hC dX6_digitsBehind_79
  · refine cv_iconst (v := 1) hC dX6_digitsBehind_74 cb_iconst_1 ?_
    refine cv_goto (tgt := 79) hC dX6_digitsBehind_75 (by decide) ?_
    exact cv_iret hC dX6_digitsBehind_79
set_option maxRecDepth 20000 in
set_option maxHeartbeats 2000000 in
theorem J_X6_digitsBehind_b64 {X : cv_X} {G : cv_G} {LL : Launch} (hC : cv_C X G LL RX6 cX6_digitsBehind 2 (some .int) { frames := 0, cells := 0, slots := 0, locals := 0 }) (σ : cv_St) : cv_J X G 2 0 0 (cv_QI X G) 64 [] [] σ (F_X6_digitsBehind_b64  σ) := by
  unfold F_X6_digitsBehind_b64
  refine cv_iconst (v := 1) hC dX6_digitsBehind_64 cb_iconst_1 ?_
  refine cv_goto (tgt := 69) hC dX6_digitsBehind_65 (by decide) ?_
  exact cv_sub [] rfl (J_X6_digitsBehind_b69 hC 1 σ)
set_option maxRecDepth 20000 in
set_option maxHeartbeats 2000000 in
theorem J_X6_digitsBehind {X : cv_X} {G : cv_G} {LL : Launch} (hC : cv_C X G LL RX6 cX6_digitsBehind 2 (some .int) { frames := 0, cells := 0, slots := 0, locals := 0 }) (l0 : Int32) (σ : cv_St) : cv_J X G 2 0 0 (cv_QI X G) 0 [(0, .int l0)] [] σ (F_X6_digitsBehind l0 σ) := by
  unfold F_X6_digitsBehind
  refine cv_iload_n hC 0 dX6_digitsBehind_0 rfl rfl ?_
  refine cv_bipush (v := 109) hC dX6_digitsBehind_1 cb_bipush_109 ?_
  refine cv_icmp_ne (tgt := 8) hC dX6_digitsBehind_3 (by decide) ?_ ?_
  · refine cv_iload_n hC 0 dX6_digitsBehind_8 rfl rfl ?_
    refine cv_bipush (v := 114) hC dX6_digitsBehind_9 cb_bipush_114 ?_
    refine cv_icmp_ne (tgt := 16) hC dX6_digitsBehind_11 (by decide) ?_ ?_
    · refine cv_iload_n hC 0 dX6_digitsBehind_16 rfl rfl ?_
      refine cv_bipush (v := 117) hC dX6_digitsBehind_17 cb_bipush_117 ?_
      refine cv_icmp_eq (tgt := 64) hC dX6_digitsBehind_19 (by decide) ?_ ?_
      · exact cv_sub [] rfl (J_X6_digitsBehind_b64 hC σ)
      · refine cv_iload_n hC 0 dX6_digitsBehind_22 rfl rfl ?_
        refine cv_bipush (v := 100) hC dX6_digitsBehind_23 cb_bipush_100 ?_
        refine cv_icmp_eq (tgt := 64) hC dX6_digitsBehind_25 (by decide) ?_ ?_
        · exact cv_sub [] rfl (J_X6_digitsBehind_b64 hC σ)
        · refine cv_iload_n hC 0 dX6_digitsBehind_28 rfl rfl ?_
          refine cv_bipush (v := 43) hC dX6_digitsBehind_29 cb_bipush_43 ?_
          refine cv_icmp_eq (tgt := 64) hC dX6_digitsBehind_31 (by decide) ?_ ?_
          · exact cv_sub [] rfl (J_X6_digitsBehind_b64 hC σ)
          · refine cv_iload_n hC 0 dX6_digitsBehind_34 rfl rfl ?_
            refine cv_bipush (v := 45) hC dX6_digitsBehind_35 cb_bipush_45 ?_
            refine cv_icmp_eq (tgt := 64) hC dX6_digitsBehind_37 (by decide) ?_ ?_
            · exact cv_sub [] rfl (J_X6_digitsBehind_b64 hC σ)
            · refine cv_iload_n hC 0 dX6_digitsBehind_40 rfl rfl ?_
              refine cv_bipush (v := 99) hC dX6_digitsBehind_41 cb_bipush_99 ?_
              refine cv_icmp_eq (tgt := 64) hC dX6_digitsBehind_43 (by decide) ?_ ?_
              · exact cv_sub [] rfl (J_X6_digitsBehind_b64 hC σ)
              · refine cv_iload_n hC 0 dX6_digitsBehind_46 rfl rfl ?_
                refine cv_bipush (v := 108) hC dX6_digitsBehind_47 cb_bipush_108 ?_
                refine cv_icmp_eq (tgt := 64) hC dX6_digitsBehind_49 (by decide) ?_ ?_
                · exact cv_sub [] rfl (J_X6_digitsBehind_b64 hC σ)
                · refine cv_iload_n hC 0 dX6_digitsBehind_52 rfl rfl ?_
                  refine cv_bipush (v := 115) hC dX6_digitsBehind_53 cb_bipush_115 ?_
                  refine cv_icmp_eq (tgt := 64) hC dX6_digitsBehind_55 (by decide) ?_ ?_
                  · exact cv_sub [] rfl (J_X6_digitsBehind_b64 hC σ)
                  · refine cv_iload_n hC 0 dX6_digitsBehind_58 rfl rfl ?_
                    refine cv_bipush (v := 98) hC dX6_digitsBehind_59 cb_bipush_98 ?_
                    refine cv_icmp_ne (tgt := 68) hC dX6_digitsBehind_61 (by decide) ?_ ?_
                    · refine cv_iconst (v := 0) hC dX6_digitsBehind_68 cb_iconst_0 ?_
                      exact cv_sub [] rfl (J_X6_digitsBehind_b69 hC 0 σ)
                    · exact cv_sub [] rfl (J_X6_digitsBehind_b64 hC σ)
    · refine cv_iconst (v := 0) hC dX6_digitsBehind_14 cb_iconst_0 ?_
      exact cv_iret hC dX6_digitsBehind_15
  · refine cv_iconst (v := 2) hC dX6_digitsBehind_6 cb_iconst_2 ?_
    exact cv_iret hC dX6_digitsBehind_7
set_option maxRecDepth 20000 in
set_option maxHeartbeats 2000000 in
theorem M_X6_digitsBehind (LL : Launch) (G : cv_G) (l0 : Int32) (σ : cv_St) : cv_MI LL G yX6_digitsBehind cX6_digitsBehind 2 (some .int) 0 0 [.int l0] σ (F_X6_digitsBehind l0 σ) :=
  cv_mkI (by decide) (Nat.le_of_ble_eq_true rfl) (fun X hC => J_X6_digitsBehind hC l0 σ)
/-! X6_findFault -/
set_option maxRecDepth 20000 in
set_option maxHeartbeats 2000000 in
theorem J_X6_findFault_b136 {X : cv_X} {G : cv_G} {LL : Launch} (hC : cv_C X G LL RX6 cX6_findFault 7 (some .int) { frames := 1, cells := 0, slots := 0, locals := 22 }) (σ : cv_St) : cv_J X G 7 0 0 (cv_QI X G) 136 [(0, .ref (G.1 1))] [] σ (F_X6_findFault_b136  σ) := by
  unfold F_X6_findFault_b136
  refine cv_aload_n hC 0 dX6_findFault_136 rfl rfl ?_
  refine cv_geti hC (fg_X6_22_1 G) dX6_findFault_137 ?_
  exact cv_iret hC dX6_findFault_140
set_option maxRecDepth 20000 in
set_option maxHeartbeats 2000000 in
theorem J_X6_findFault_b112 {X : cv_X} {G : cv_G} {LL : Launch} (hC : cv_C X G LL RX6 cX6_findFault 7 (some .int) { frames := 1, cells := 0, slots := 0, locals := 22 }) (k13 : Int32 → Int32 → Int32 → Int32 → Int32 → cv_St → Option (Int32 × cv_St)) (hk13 : ∀ (l1 : Int32) (l2 : Int32) (l3 : Int32) (l4 : Int32) (l5 : Int32)  σ, cv_J X G 7 0 0 (cv_QI X G) 13 [(0, .ref (G.1 1)), (1, .int l1), (2, .int l2), (3, .int l3), (4, .int l4), (5, .int l5)] [] σ (k13 l1 l2 l3 l4 l5 σ)) (l1 : Int32) (l2 : Int32) (l3 : Int32) (l4 : Int32) (l5 : Int32) (σ : cv_St) : cv_J X G 7 0 0 (cv_QI X G) 112 [(0, .ref (G.1 1)), (1, .int l1), (2, .int l2), (3, .int l3), (4, .int l4), (5, .int l5)] [] σ (F_X6_findFault_b112 k13 l1 l2 l3 l4 l5 σ) := by
  unfold F_X6_findFault_b112
  refine cv_iinc (lv' := [(5, .int (l5 + Int32.ofInt 1)), (0, .ref (G.1 1)), (1, .int l1), (2, .int l2), (3, .int l3), (4, .int l4)]) hC 5 dX6_findFault_112 rfl (by decide) rfl ?_
  refine cv_goto (tgt := 13) hC dX6_findFault_115 (by decide) ?_
  exact cv_sub [1, 2, 3, 4, 5, 0] rfl (hk13 l1 l2 l3 l4 (l5 + Int32.ofInt 1) σ)
set_option maxRecDepth 20000 in
set_option maxHeartbeats 2000000 in
theorem I_X6_findFault_b13 {X : cv_X} {G : cv_G} {LL : Launch} (hC : cv_C X G LL RX6 cX6_findFault 7 (some .int) { frames := 1, cells := 0, slots := 0, locals := 22 }) (k13 : Int32 → Int32 → Int32 → Int32 → Int32 → cv_St → Option (Int32 × cv_St)) (hk13 : ∀ (l1 : Int32) (l2 : Int32) (l3 : Int32) (l4 : Int32) (l5 : Int32)  σ, cv_J X G 7 0 0 (cv_QI X G) 13 [(0, .ref (G.1 1)), (1, .int l1), (2, .int l2), (3, .int l3), (4, .int l4), (5, .int l5)] [] σ (k13 l1 l2 l3 l4 l5 σ)) (l1 : Int32) (l2 : Int32) (l3 : Int32) (l4 : Int32) (l5 : Int32) (σ : cv_St) : cv_J X G 7 0 0 (cv_QI X G) 13 [(0, .ref (G.1 1)), (1, .int l1), (2, .int l2), (3, .int l3), (4, .int l4), (5, .int l5)] [] σ (B_X6_findFault_b13 k13 l1 l2 l3 l4 l5 σ) := by
  unfold B_X6_findFault_b13
  refine cv_iload hC 5 dX6_findFault_13 rfl ?_
  refine cv_aload_n hC 0 dX6_findFault_15 rfl rfl ?_
  refine cv_geti hC (fg_X6_22_1 G) dX6_findFault_16 ?_
  refine cv_icmp_ge (tgt := 118) hC dX6_findFault_19 (by decide) ?_ ?_
  · refine cv_aload_n hC 0 dX6_findFault_118 rfl rfl ?_
    refine cv_geti hC (fg_X6_22_1 G) dX6_findFault_119 ?_
    refine cv_if_ne (tgt := 127) hC dX6_findFault_122 (by decide) ?_ ?_
    · refine cv_iload_n hC 1 dX6_findFault_127 rfl rfl ?_
      refine cv_if_ne (tgt := 136) hC dX6_findFault_128 (by decide) ?_ ?_
      · exact cv_sub [0] rfl (J_X6_findFault_b136 hC σ)
      · refine cv_iload hC 4 dX6_findFault_131 rfl ?_
        refine cv_if_le (tgt := 141) hC dX6_findFault_133 (by decide) ?_ ?_
        · refine cv_aload_n hC 0 dX6_findFault_141 rfl rfl ?_
          refine cv_iload_n hC 2 dX6_findFault_142 rfl rfl ?_
          refine cv_iload_n hC 3 dX6_findFault_143 rfl rfl ?_
          refine cv_callVv (ob := 1) hC [.int l2, .int l3] [] (M_X6_keep LL G l2 l3 σ) ln_X6_44 vm_X6_keep (ob_1 G) rfl rfl (Nat.le_of_ble_eq_true rfl) ⟨Nat.le_of_ble_eq_true rfl, Nat.le_of_ble_eq_true rfl⟩ ⟨Nat.le_of_ble_eq_true rfl, Nat.le_of_ble_eq_true rfl⟩ dX6_findFault_144 (fun s1 => ?_)
          refine cv_iconst (v := (-1)) hC dX6_findFault_147 cb_iconst_m1 ?_
          exact cv_iret hC dX6_findFault_148
        · exact cv_sub [0] rfl (J_X6_findFault_b136 hC σ)
    · refine cv_iconst (v := (-1)) hC dX6_findFault_125 cb_iconst_m1 ?_
      exact cv_iret hC dX6_findFault_126
  · refine cv_aload_n hC 0 dX6_findFault_22 rfl rfl ?_
    refine cv_getr hC (fg_X6_9_1 G) dX6_findFault_23 ?_
    refine cv_iload hC 5 dX6_findFault_26 rfl ?_
    refine cv_cald hC (cv_a11 G) dX6_findFault_28 (fun v2 => ?_)
    refine cv_istore (lv' := [(6, .int v2), (0, .ref (G.1 1)), (1, .int l1), (2, .int l2), (3, .int l3), (4, .int l4), (5, .int l5)]) hC dX6_findFault_29 (by decide) rfl ?_
    refine cv_iload_n hC 2 dX6_findFault_31 rfl rfl ?_
    refine cv_if_eq (tgt := 60) hC dX6_findFault_32 (by decide) ?_ ?_
    · refine cv_iload hC 5 dX6_findFault_60 rfl ?_
      refine cv_if_le (tgt := 94) hC dX6_findFault_62 (by decide) ?_ ?_
      · refine cv_iload hC 0 dX6_findFault_94 rfl ?_
        refine cv_bipush (v := 59) hC dX6_findFault_96 cb_bipush_59 ?_
        refine cv_icmp_eq (tgt := 104) hC dX6_findFault_98 (by decide) ?_ ?_
        · refine cv_aload_n hC 1 dX6_findFault_104 rfl rfl ?_
          refine cv_iload_n hC 3 dX6_findFault_105 rfl rfl ?_
          refine cv_iload_n hC 4 dX6_findFault_106 rfl rfl ?_
          refine cv_callVv (ob := 1) hC [.int l2, .int l3] [] (M_X6_keep LL G l2 l3 σ) ln_X6_44 vm_X6_keep (ob_1 G) rfl rfl (Nat.le_of_ble_eq_true rfl) ⟨Nat.le_of_ble_eq_true rfl, Nat.le_of_ble_eq_true rfl⟩ ⟨Nat.le_of_ble_eq_true rfl, Nat.le_of_ble_eq_true rfl⟩ dX6_findFault_107 (fun s3 => ?_)
          refine cv_iconst (v := 1) hC dX6_findFault_110 cb_iconst_1 ?_
          refine cv_istore_n (lv' := [(1, .int 1), (6, .int v2), (0, .ref (G.1 1)), (2, .int l2), (3, .int l3), (4, .int l4), (5, .int l5)]) hC dX6_findFault_111 rfl (by decide) rfl ?_
          exact cv_sub [2, 0, 3, 4, 5, 6] rfl (J_X6_findFault_b112 hC k13 hk13 1 l2 l3 l4 l5 s3)
        · refine cv_iload hC 6 dX6_findFault_101 rfl ?_
          exact cv_iret hC dX6_findFault_103
      · refine cv_iload_n hC 3 dX6_findFault_65 rfl rfl ?_
        refine cv_iload hC 0 dX6_findFault_66 rfl ?_
        refine cv_callSi hC [.int l2, .int v2] [] (M_X6_fits LL G l2 v2 σ) ln_X6_40 vm_X6_fits rfl rfl (Nat.le_of_ble_eq_true rfl) ⟨Nat.le_of_ble_eq_true rfl, Nat.le_of_ble_eq_true rfl⟩ ⟨Nat.le_of_ble_eq_true rfl, Nat.le_of_ble_eq_true rfl⟩ dX6_findFault_68 (fun v5 s4 => ?_)
        refine cv_if_ne (tgt := 77) hC dX6_findFault_71 (by decide) ?_ ?_
        · refine cv_bipush (v := 10) hC dX6_findFault_77 cb_bipush_10 ?_
          refine cv_iload_n hC 4 dX6_findFault_79 rfl rfl ?_
          refine cv_imul hC dX6_findFault_80 ?_
          refine cv_iload hC 0 dX6_findFault_81 rfl ?_
          refine cv_bipush (v := 48) hC dX6_findFault_83 cb_bipush_48 ?_
          refine cv_isub hC dX6_findFault_85 ?_
          refine cv_iadd hC dX6_findFault_86 ?_
          refine cv_istore_n (lv' := [(3, .int ((10 * l3) + (v2 - 48))), (6, .int v2), (0, .ref (G.1 1)), (1, .int l1), (2, .int l2), (4, .int l4), (5, .int l5)]) hC dX6_findFault_87 rfl (by decide) rfl ?_
          refine cv_iinc (lv' := [(4, .int (l4 + Int32.ofInt (-1))), (3, .int ((10 * l3) + (v2 - 48))), (6, .int v2), (0, .ref (G.1 1)), (1, .int l1), (2, .int l2), (5, .int l5)]) hC 5 dX6_findFault_88 rfl (by decide) rfl ?_
          refine cv_goto (tgt := 112) hC dX6_findFault_91 (by decide) ?_
          exact cv_sub [3, 4, 5, 1, 0, 6] rfl (J_X6_findFault_b112 hC k13 hk13 l1 l2 ((10 * l3) + (v2 - 48)) (l4 + Int32.ofInt (-1)) l5 s4)
        · refine cv_iload hC 6 dX6_findFault_74 rfl ?_
          exact cv_iret hC dX6_findFault_76
    · refine cv_iload hC 0 dX6_findFault_35 rfl ?_
      refine cv_istore_n (lv' := [(2, .int v2), (6, .int v2), (0, .ref (G.1 1)), (1, .int l1), (3, .int l3), (4, .int l4), (5, .int l5)]) hC dX6_findFault_37 rfl (by decide) rfl ?_
      refine cv_iconst (v := 0) hC dX6_findFault_38 cb_iconst_0 ?_
      refine cv_istore_n (lv' := [(3, .int 0), (2, .int v2), (6, .int v2), (0, .ref (G.1 1)), (1, .int l1), (4, .int l4), (5, .int l5)]) hC dX6_findFault_39 rfl (by decide) rfl ?_
      refine cv_iload hC 2 dX6_findFault_40 rfl ?_
      refine cv_callSi hC [.int v2] [] (M_X6_digitsBehind LL G v2 σ) ln_X6_36 vm_X6_digitsBehind rfl rfl (Nat.le_of_ble_eq_true rfl) ⟨Nat.le_of_ble_eq_true rfl, Nat.le_of_ble_eq_true rfl⟩ ⟨Nat.le_of_ble_eq_true rfl, Nat.le_of_ble_eq_true rfl⟩ dX6_findFault_42 (fun v7 s6 => ?_)
      refine cv_istore (lv' := [(4, .int v7), (3, .int 0), (2, .int v2), (6, .int v2), (0, .ref (G.1 1)), (1, .int l1), (5, .int l5)]) hC dX6_findFault_45 (by decide) rfl ?_
      refine cv_iload hC 0 dX6_findFault_47 rfl ?_
      refine cv_if_ge (tgt := 55) hC dX6_findFault_49 (by decide) ?_ ?_
      · refine cv_iconst (v := 0) hC dX6_findFault_55 cb_iconst_0 ?_
        refine cv_istore_n (lv' := [(1, .int 0), (4, .int v7), (3, .int 0), (2, .int v2), (6, .int v2), (0, .ref (G.1 1)), (5, .int l5)]) hC dX6_findFault_56 rfl (by decide) rfl ?_
        refine cv_goto (tgt := 112) hC dX6_findFault_57 (by decide) ?_
        exact cv_sub [5, 0, 3, 2, 1, 6] rfl (J_X6_findFault_b112 hC k13 hk13 0 v2 0 v7 l5 s6)
      · refine cv_iload hC 6 dX6_findFault_52 rfl ?_
        exact cv_iret hC dX6_findFault_54
set_option maxRecDepth 20000 in
set_option maxHeartbeats 2000000 in
theorem J_X6_findFault_b13 {X : cv_X} {G : cv_G} {LL : Launch} (hC : cv_C X G LL RX6 cX6_findFault 7 (some .int) { frames := 1, cells := 0, slots := 0, locals := 22 }) : ∀ (n : Nat) (l1 : Int32) (l2 : Int32) (l3 : Int32) (l4 : Int32) (l5 : Int32) (σ : cv_St), cv_J X G 7 0 0 (cv_QI X G) 13 [(0, .ref (G.1 1)), (1, .int l1), (2, .int l2), (3, .int l3), (4, .int l4), (5, .int l5)] [] σ (F_X6_findFault_b13 n l1 l2 l3 l4 l5 σ) := by
  intro n
  induction n with
  | zero => intro l1 l2 l3 l4 l5 σ; exact cv_none
  | succ n ih => intro l1 l2 l3 l4 l5 σ; exact I_X6_findFault_b13 hC _ ih l1 l2 l3 l4 l5 σ
set_option maxRecDepth 20000 in
set_option maxHeartbeats 2000000 in
theorem J_X6_findFault {X : cv_X} {G : cv_G} {LL : Launch} (hC : cv_C X G LL RX6 cX6_findFault 7 (some .int) { frames := 1, cells := 0, slots := 0, locals := 22 }) (σ : cv_St) : cv_J X G 7 0 0 (cv_QI X G) 0 [(0, .ref (G.1 1))] [] σ (F_X6_findFault σ) := by
  unfold F_X6_findFault
  refine cv_iconst (v := 1) hC dX6_findFault_0 cb_iconst_1 ?_
  refine cv_istore_n (lv' := [(1, .int 1), (0, .ref (G.1 1))]) hC dX6_findFault_1 rfl (by decide) rfl ?_
  refine cv_bipush (v := 114) hC dX6_findFault_2 cb_bipush_114 ?_
  refine cv_istore_n (lv' := [(2, .int 114), (1, .int 1), (0, .ref (G.1 1))]) hC dX6_findFault_4 rfl (by decide) rfl ?_
  refine cv_iconst (v := 0) hC dX6_findFault_5 cb_iconst_0 ?_
  refine cv_istore_n (lv' := [(3, .int 0), (2, .int 114), (1, .int 1), (0, .ref (G.1 1))]) hC dX6_findFault_6 rfl (by decide) rfl ?_
  refine cv_iconst (v := 0) hC dX6_findFault_7 cb_iconst_0 ?_
  refine cv_istore (lv' := [(4, .int 0), (3, .int 0), (2, .int 114), (1, .int 1), (0, .ref (G.1 1))]) hC dX6_findFault_8 (by decide) rfl ?_
  refine cv_iconst (v := 0) hC dX6_findFault_10 cb_iconst_0 ?_
  refine cv_istore (lv' := [(5, .int 0), (4, .int 0), (3, .int 0), (2, .int 114), (1, .int 1), (0, .ref (G.1 1))]) hC dX6_findFault_11 (by decide) rfl ?_
  exact cv_sub [5, 4, 3, 2, 1, 0] rfl (J_X6_findFault_b13 hC 1000 1 114 0 0 0 σ)
set_option maxRecDepth 20000 in
set_option maxHeartbeats 2000000 in
theorem M_X6_findFault (LL : Launch) (G : cv_G) (σ : cv_St) : cv_MI LL G yX6_findFault cX6_findFault 7 (some .int) 1 22 [.ref (G.1 1)] σ (F_X6_findFault σ) :=
  cv_mkI (by decide) (Nat.le_of_ble_eq_true rfl) (fun X hC => J_X6_findFault hC σ)
/-! X6_read -/
set_option maxRecDepth 20000 in
set_option maxHeartbeats 2000000 in
theorem J_X6_read {X : cv_X} {G : cv_G} {LL : Launch} (hC : cv_C X G LL RX6 cX6_read 1 none { frames := 2, cells := 0, slots := 0, locals := 48 }) (σ : cv_St) : cv_J X G 1 0 0 (cv_QV X G) 0 [(0, .ref (G.1 1))] [] σ (F_X6_read σ) := by
  unfold F_X6_read
  refine cv_aload_n hC 0 dX6_read_0 rfl rfl ?_
  refine cv_iconst (v := 0) hC dX6_read_1 cb_iconst_0 ?_
  refine cv_puti hC (fp_X6_26_1 G) dX6_read_2 (fun s1 => ?_)
  refine cv_aload_n hC 0 dX6_read_5 rfl rfl ?_
  refine cv_aload_n hC 0 dX6_read_6 rfl rfl ?_
  refine cv_callVi (ob := 1) hC [] [.ref (G.1 1)] (M_X6_findFault LL G s1) ln_X6_32 vm_X6_findFault (ob_1 G) rfl rfl (Nat.le_of_ble_eq_true rfl) ⟨Nat.le_of_ble_eq_true rfl, Nat.le_of_ble_eq_true rfl⟩ ⟨Nat.le_of_ble_eq_true rfl, Nat.le_of_ble_eq_true rfl⟩ dX6_read_7 (fun v3 s2 => ?_)
  refine cv_puti hC (fp_X6_29_1 G) dX6_read_10 (fun s4 => ?_)
  refine cv_aload_n hC 0 dX6_read_13 rfl rfl ?_
  refine cv_iconst (v := 0) hC dX6_read_14 cb_iconst_0 ?_
  refine cv_puti hC (fp_X6_22_1 G) dX6_read_15 (fun s5 => ?_)
  exact cv_vret hC dX6_read_18
set_option maxRecDepth 20000 in
set_option maxHeartbeats 2000000 in
theorem M_X6_read (LL : Launch) (G : cv_G) (σ : cv_St) : cv_MV LL G yX6_read cX6_read 1 2 48 [.ref (G.1 1)] σ (F_X6_read σ) :=
  cv_mkV (by decide) (Nat.le_of_ble_eq_true rfl) (fun X hC => J_X6_read hC σ)
