def F_X8_faultPosition (σ : cv_St) : Option (Int32 × cv_St) :=
  some ((σ.2.1 5), σ)
def F_X8_inferFacts (σ : cv_St) : Option (cv_St) :=
  (if (σ.2.1 1) = 0 then some σ else cv_bv (F_X2_infer σ) (fun s1 => cv_bv (F_X7_infer s1) (fun s2 => cv_bv (F_X1_infer s2) (fun s3 => cv_bv (F_X3_infer s3) (fun s4 => cv_bv (F_X5_infer s4) (fun s5 => cv_puz s5 1 0 (fun s6 => some s6)))))))
def F_X8_siteCount (σ : cv_St) : Option (Int32 × cv_St) :=
  cv_bv (F_X8_inferFacts σ) (fun s1 => some ((s1.2.1 7), s1))
def F_X8_lostAt (l1 : Int32) (σ : cv_St) : Option (Int32 × cv_St) :=
  cv_ld σ 34 112 l1 (fun v1 => cv_ld σ 32 112 l1 (fun v2 => cv_ld σ 33 112 l1 (fun v3 => cv_bi (F_X3_behind v2 v3 σ) (fun v5 s4 => cv_bi (F_X7_clobbered v1 s4) (fun v7 s6 => cv_ld s6 27 8 v1 (fun v8 => some (((v5 &&& v7) &&& (v8 ^^^ (-1))), s6)))))))
def F_X8_hasProblem_b19 (σ : cv_St) : Option (Int32 × cv_St) :=
  cv_rz 1 σ
def F_X8_hasProblem (l1 : Int32) (σ : cv_St) : Option (Int32 × cv_St) :=
  cv_bi (F_X5_missing l1 σ) (fun v2 s1 => (if v2 = 0 then cv_bi (F_X8_lostAt l1 s1) (fun v4 s3 => (if v4 = 0 then cv_rz 0 s3 else F_X8_hasProblem_b19 s3)) else F_X8_hasProblem_b19 s1))
def F_X8_countProblems_b26 (k4 : Int32 → Int32 → cv_St → Option (Int32 × cv_St)) (l1 : Int32) (l2 : Int32) (σ : cv_St) : Option (Int32 × cv_St) :=
  k4 l1 (l2 + Int32.ofInt 1) σ
def B_X8_countProblems_b4 (k4 : Int32 → Int32 → cv_St → Option (Int32 × cv_St)) (l1 : Int32) (l2 : Int32) (σ : cv_St) : Option (Int32 × cv_St) :=
  (if (σ.2.1 7) ≤ l2 then some (l1, σ) else cv_bi (F_X8_hasProblem l2 σ) (fun v2 s1 => (if v2 = 0 then F_X8_countProblems_b26 k4 l1 l2 s1 else F_X8_countProblems_b26 k4 (l1 + Int32.ofInt 1) l2 s1)))
def F_X8_countProblems_b4 : Nat → Int32 → Int32 → cv_St → Option (Int32 × cv_St)
  | 0, _, _, _ => none
  | n + 1, l1, l2, σ => B_X8_countProblems_b4 (F_X8_countProblems_b4 n) l1 l2 σ
def F_X8_countProblems (σ : cv_St) : Option (Int32 × cv_St) :=
  F_X8_countProblems_b4 1000 0 0 σ
def F_X8_problems (σ : cv_St) : Option (Int32 × cv_St) :=
  cv_bv (F_X8_inferFacts σ) (fun s1 => cv_bi (F_X8_countProblems s1) (fun v3 s2 => some (v3, s2)))
def F_X8_save (σ : cv_St) : Option (cv_St) :=
  cv_bv (F_X0_copyFrom_3_2 σ) (fun s1 => cv_puz s1 0 1 (fun s2 => some s2))
def F_X8_forgetFacts (σ : cv_St) : Option (cv_St) :=
  cv_puz σ 1 1 (fun s1 => cv_puz s1 2 0 (fun s2 => some s2))
def F_X8_votedFor (l1 : Int32) (l2 : Int32) (σ : cv_St) : Option (Int32 × cv_St) :=
  (if l2 = 0 then cv_ld σ 30 8 l1 (fun v5 => some (v5, σ)) else (if l2 = 1 then cv_ld σ 31 8 l1 (fun v4 => some (v4, σ)) else (if l2 = 2 then cv_bi (F_X7_clobbered l1 σ) (fun v3 s2 => some (v3, s2)) else cv_ld σ 23 8 l1 (fun v1 => some (v1, σ)))))
def F_X8_countVotes_b42 (k5 : Int32 → Int32 → Int32 → Int32 → cv_St → Option (Int32 × cv_St)) (l1 : Int32) (l2 : Int32) (l3 : Int32) (l4 : Int32) (σ : cv_St) : Option (Int32 × cv_St) :=
  k5 l1 l2 l3 (l4 + Int32.ofInt 1) σ
def B_X8_countVotes_b5 (k5 : Int32 → Int32 → Int32 → Int32 → cv_St → Option (Int32 × cv_St)) (l1 : Int32) (l2 : Int32) (l3 : Int32) (l4 : Int32) (σ : cv_St) : Option (Int32 × cv_St) :=
  (if 8 ≤ l4 then some (l3, σ) else cv_ld σ 14 8 l4 (fun v1 => (if v1 ≤ 0 then F_X8_countVotes_b42 k5 l1 l2 l3 l4 σ else cv_bi (F_X8_votedFor l4 l2 σ) (fun v3 s2 => cv_bi (F_X8_contains v3 l1 s2) (fun v5 s4 => (if v5 = 0 then F_X8_countVotes_b42 k5 l1 l2 l3 l4 s4 else F_X8_countVotes_b42 k5 l1 l2 (l3 + Int32.ofInt 1) l4 s4))))))
def F_X8_countVotes_b5 : Nat → Int32 → Int32 → Int32 → Int32 → cv_St → Option (Int32 × cv_St)
  | 0, _, _, _, _, _ => none
  | n + 1, l1, l2, l3, l4, σ => B_X8_countVotes_b5 (F_X8_countVotes_b5 n) l1 l2 l3 l4 σ
def F_X8_countVotes (l1 : Int32) (l2 : Int32) (σ : cv_St) : Option (Int32 × cv_St) :=
  F_X8_countVotes_b5 1000 l1 l2 0 0 σ
/-! X8_faultPosition -/
set_option maxRecDepth 20000 in
set_option maxHeartbeats 2000000 in
theorem J_X8_faultPosition {X : cv_X} {G : cv_G} {LL : Launch} (hC : cv_C X G LL RX8 cX8_faultPosition 1 (some .int) { frames := 0, cells := 0, slots := 0, locals := 0 }) (σ : cv_St) : cv_J X G 1 0 0 (cv_QI X G) 0 [(0, .ref (G.1 0))] [] σ (F_X8_faultPosition σ) := by
  unfold F_X8_faultPosition
  refine cv_aload_n hC 0 dX8_faultPosition_0 rfl rfl ?_
  refine cv_getr hC (fg_X8_12_0 G) dX8_faultPosition_1 ?_
  refine cv_geti hC (fg_X8_111_1 G) dX8_faultPosition_4 ?_
  exact cv_iret hC dX8_faultPosition_7
set_option maxRecDepth 20000 in
set_option maxHeartbeats 2000000 in
theorem M_X8_faultPosition (LL : Launch) (G : cv_G) (σ : cv_St) : cv_MI LL G yX8_faultPosition cX8_faultPosition 1 (some .int) 0 0 [.ref (G.1 0)] σ (F_X8_faultPosition σ) :=
  cv_mkI (by decide) (Nat.le_of_ble_eq_true rfl) (fun X hC => J_X8_faultPosition hC σ)
/-! X8_inferFacts -/
set_option maxRecDepth 20000 in
set_option maxHeartbeats 2000000 in
theorem J_X8_inferFacts {X : cv_X} {G : cv_G} {LL : Launch} (hC : cv_C X G LL RX8 cX8_inferFacts 1 none { frames := 5, cells := 0, slots := 0, locals := 117 }) (σ : cv_St) : cv_J X G 1 0 0 (cv_QV X G) 0 [(0, .ref (G.1 0))] [] σ (F_X8_inferFacts σ) := by
  unfold F_X8_inferFacts
  refine cv_aload_n hC 0 dX8_inferFacts_0 rfl rfl ?_
  refine cv_geti hC (fg_X8_78_0 G) dX8_inferFacts_1 ?_
  refine cv_if_eq (tgt := 47) hC dX8_inferFacts_4 (by decide) ?_ ?_
  · exact cv_vret hC dX8_inferFacts_47
  · refine cv_aload_n hC 0 dX8_inferFacts_7 rfl rfl ?_
    refine cv_getr hC (fg_X8_31_0 G) dX8_inferFacts_8 ?_
    refine cv_callVv (ob := 4) hC [] [] (M_X2_infer LL G σ) ln_X8_296 vm_X2_infer (ob_4 G) rfl rfl (Nat.le_of_ble_eq_true rfl) ⟨Nat.le_of_ble_eq_true rfl, Nat.le_of_ble_eq_true rfl⟩ ⟨Nat.le_of_ble_eq_true rfl, Nat.le_of_ble_eq_true rfl⟩ dX8_inferFacts_11 (fun s1 => ?_)
    refine cv_aload_n hC 0 dX8_inferFacts_14 rfl rfl ?_
    refine cv_getr hC (fg_X8_40_0 G) dX8_inferFacts_15 ?_
    refine cv_callVv (ob := 5) hC [] [] (M_X7_infer LL G s1) ln_X8_299 vm_X7_infer (ob_5 G) rfl rfl (Nat.le_of_ble_eq_true rfl) ⟨Nat.le_of_ble_eq_true rfl, Nat.le_of_ble_eq_true rfl⟩ ⟨Nat.le_of_ble_eq_true rfl, Nat.le_of_ble_eq_true rfl⟩ dX8_inferFacts_18 (fun s2 => ?_)
    refine cv_aload_n hC 0 dX8_inferFacts_21 rfl rfl ?_
    refine cv_getr hC (fg_X8_47_0 G) dX8_inferFacts_22 ?_
    refine cv_callVv (ob := 6) hC [] [] (M_X1_infer LL G s2) ln_X8_300 vm_X1_infer (ob_6 G) rfl rfl (Nat.le_of_ble_eq_true rfl) ⟨Nat.le_of_ble_eq_true rfl, Nat.le_of_ble_eq_true rfl⟩ ⟨Nat.le_of_ble_eq_true rfl, Nat.le_of_ble_eq_true rfl⟩ dX8_inferFacts_25 (fun s3 => ?_)
    refine cv_aload_n hC 0 dX8_inferFacts_28 rfl rfl ?_
    refine cv_getr hC (fg_X8_56_0 G) dX8_inferFacts_29 ?_
    refine cv_callVv (ob := 7) hC [] [] (M_X3_infer LL G s3) ln_X8_301 vm_X3_infer (ob_7 G) rfl rfl (Nat.le_of_ble_eq_true rfl) ⟨Nat.le_of_ble_eq_true rfl, Nat.le_of_ble_eq_true rfl⟩ ⟨Nat.le_of_ble_eq_true rfl, Nat.le_of_ble_eq_true rfl⟩ dX8_inferFacts_32 (fun s4 => ?_)
    refine cv_aload_n hC 0 dX8_inferFacts_35 rfl rfl ?_
    refine cv_getr hC (fg_X8_63_0 G) dX8_inferFacts_36 ?_
    refine cv_callVv (ob := 8) hC [] [] (M_X5_infer LL G s4) ln_X8_302 vm_X5_infer (ob_8 G) rfl rfl (Nat.le_of_ble_eq_true rfl) ⟨Nat.le_of_ble_eq_true rfl, Nat.le_of_ble_eq_true rfl⟩ ⟨Nat.le_of_ble_eq_true rfl, Nat.le_of_ble_eq_true rfl⟩ dX8_inferFacts_39 (fun s5 => ?_)
    refine cv_aload_n hC 0 dX8_inferFacts_42 rfl rfl ?_
    refine cv_iconst (v := 0) hC dX8_inferFacts_43 cb_iconst_0 ?_
    refine cv_putz hC (fp_X8_78_0 G) dX8_inferFacts_44 (fun s6 => ?_)
    exact cv_vret hC dX8_inferFacts_47
set_option maxRecDepth 20000 in
set_option maxHeartbeats 2000000 in
theorem M_X8_inferFacts (LL : Launch) (G : cv_G) (σ : cv_St) : cv_MV LL G yX8_inferFacts cX8_inferFacts 1 5 117 [.ref (G.1 0)] σ (F_X8_inferFacts σ) :=
  cv_mkV (by decide) (Nat.le_of_ble_eq_true rfl) (fun X hC => J_X8_inferFacts hC σ)
/-! X8_siteCount -/
set_option maxRecDepth 20000 in
set_option maxHeartbeats 2000000 in
theorem J_X8_siteCount {X : cv_X} {G : cv_G} {LL : Launch} (hC : cv_C X G LL RX8 cX8_siteCount 1 (some .int) { frames := 6, cells := 0, slots := 0, locals := 137 }) (σ : cv_St) : cv_J X G 1 0 0 (cv_QI X G) 0 [(0, .ref (G.1 0))] [] σ (F_X8_siteCount σ) := by
  unfold F_X8_siteCount
  refine cv_aload_n hC 0 dX8_siteCount_0 rfl rfl ?_
  refine cv_callVv (ob := 0) hC [] [] (M_X8_inferFacts LL G σ) ln_X8_152 vm_X8_inferFacts (ob_0 G) rfl rfl (Nat.le_of_ble_eq_true rfl) ⟨Nat.le_of_ble_eq_true rfl, Nat.le_of_ble_eq_true rfl⟩ ⟨Nat.le_of_ble_eq_true rfl, Nat.le_of_ble_eq_true rfl⟩ dX8_siteCount_1 (fun s1 => ?_)
  refine cv_aload_n hC 0 dX8_siteCount_4 rfl rfl ?_
  refine cv_getr hC (fg_X8_63_0 G) dX8_siteCount_5 ?_
  refine cv_geti hC (fg_X8_200_8 G) dX8_siteCount_8 ?_
  exact cv_iret hC dX8_siteCount_11
set_option maxRecDepth 20000 in
set_option maxHeartbeats 2000000 in
theorem M_X8_siteCount (LL : Launch) (G : cv_G) (σ : cv_St) : cv_MI LL G yX8_siteCount cX8_siteCount 1 (some .int) 6 137 [.ref (G.1 0)] σ (F_X8_siteCount σ) :=
  cv_mkI (by decide) (Nat.le_of_ble_eq_true rfl) (fun X hC => J_X8_siteCount hC σ)
/-! X8_lostAt -/
set_option maxRecDepth 20000 in
set_option maxHeartbeats 2000000 in
theorem J_X8_lostAt {X : cv_X} {G : cv_G} {LL : Launch} (hC : cv_C X G LL RX8 cX8_lostAt 4 (some .int) { frames := 3, cells := 0, slots := 0, locals := 70 }) (l1 : Int32) (σ : cv_St) : cv_J X G 4 0 0 (cv_QI X G) 0 [(0, .ref (G.1 0)), (1, .int l1)] [] σ (F_X8_lostAt l1 σ) := by
  unfold F_X8_lostAt
  refine cv_aload_n hC 0 dX8_lostAt_0 rfl rfl ?_
  refine cv_getr hC (fg_X8_63_0 G) dX8_lostAt_1 ?_
  refine cv_getr hC (fg_X8_211_8 G) dX8_lostAt_4 ?_
  refine cv_iload_n hC 1 dX8_lostAt_7 rfl rfl ?_
  refine cv_iald hC (cv_a34 G) dX8_lostAt_8 (fun v1 => ?_)
  refine cv_istore_n (lv' := [(2, .int v1), (0, .ref (G.1 0)), (1, .int l1)]) hC dX8_lostAt_9 rfl (by decide) rfl ?_
  refine cv_aload_n hC 1 dX8_lostAt_10 rfl rfl ?_
  refine cv_getr hC (fg_X8_56_0 G) dX8_lostAt_11 ?_
  refine cv_aload_n hC 1 dX8_lostAt_14 rfl rfl ?_
  refine cv_getr hC (fg_X8_63_0 G) dX8_lostAt_15 ?_
  refine cv_getr hC (fg_X8_206_8 G) dX8_lostAt_18 ?_
  refine cv_iload_n hC 2 dX8_lostAt_21 rfl rfl ?_
  refine cv_iald hC (cv_a32 G) dX8_lostAt_22 (fun v2 => ?_)
  refine cv_aload_n hC 1 dX8_lostAt_23 rfl rfl ?_
  refine cv_getr hC (fg_X8_63_0 G) dX8_lostAt_24 ?_
  refine cv_getr hC (fg_X8_208_8 G) dX8_lostAt_27 ?_
  refine cv_iload_n hC 2 dX8_lostAt_30 rfl rfl ?_
  refine cv_iald hC (cv_a33 G) dX8_lostAt_31 (fun v3 => ?_)
  refine cv_callVi (ob := 7) hC [.int v2, .int v3] [] (M_X3_behind LL G v2 v3 σ) ln_X8_223 vm_X3_behind (ob_7 G) rfl rfl (Nat.le_of_ble_eq_true rfl) ⟨Nat.le_of_ble_eq_true rfl, Nat.le_of_ble_eq_true rfl⟩ ⟨Nat.le_of_ble_eq_true rfl, Nat.le_of_ble_eq_true rfl⟩ dX8_lostAt_32 (fun v5 s4 => ?_)
  refine cv_istore_n (lv' := [(3, .int v5), (2, .int v1), (0, .ref (G.1 0)), (1, .int l1)]) hC dX8_lostAt_35 rfl (by decide) rfl ?_
  refine cv_iload_n hC 0 dX8_lostAt_36 rfl rfl ?_
  refine cv_aload_n hC 2 dX8_lostAt_37 rfl rfl ?_
  refine cv_getr hC (fg_X8_40_0 G) dX8_lostAt_38 ?_
  refine cv_iload_n hC 1 dX8_lostAt_41 rfl rfl ?_
  refine cv_callVi (ob := 5) hC [.int v1] [.int v5] (M_X7_clobbered LL G v1 s4) ln_X8_303 vm_X7_clobbered (ob_5 G) rfl rfl (Nat.le_of_ble_eq_true rfl) ⟨Nat.le_of_ble_eq_true rfl, Nat.le_of_ble_eq_true rfl⟩ ⟨Nat.le_of_ble_eq_true rfl, Nat.le_of_ble_eq_true rfl⟩ dX8_lostAt_42 (fun v7 s6 => ?_)
  refine cv_iand hC dX8_lostAt_45 ?_
  refine cv_aload_n hC 2 dX8_lostAt_46 rfl rfl ?_
  refine cv_getr hC (fg_X8_47_0 G) dX8_lostAt_47 ?_
  refine cv_getr hC (fg_X8_166_6 G) dX8_lostAt_50 ?_
  refine cv_iload_n hC 1 dX8_lostAt_53 rfl rfl ?_
  refine cv_iald hC (cv_a27 G) dX8_lostAt_54 (fun v8 => ?_)
  refine cv_iconst (v := (-1)) hC dX8_lostAt_55 cb_iconst_m1 ?_
  refine cv_ixor hC dX8_lostAt_56 ?_
  refine cv_iand hC dX8_lostAt_57 ?_
  exact cv_iret hC dX8_lostAt_58
set_option maxRecDepth 20000 in
set_option maxHeartbeats 2000000 in
theorem M_X8_lostAt (LL : Launch) (G : cv_G) (l1 : Int32) (σ : cv_St) : cv_MI LL G yX8_lostAt cX8_lostAt 4 (some .int) 3 70 [.ref (G.1 0), .int l1] σ (F_X8_lostAt l1 σ) :=
  cv_mkI (by decide) (Nat.le_of_ble_eq_true rfl) (fun X hC => J_X8_lostAt hC l1 σ)
/-! X8_hasProblem -/
set_option maxRecDepth 20000 in
set_option maxHeartbeats 2000000 in
theorem J_X8_hasProblem_b19 {X : cv_X} {G : cv_G} {LL : Launch} (hC : cv_C X G LL RX8 cX8_hasProblem 2 (some .boolean) { frames := 4, cells := 0, slots := 0, locals := 93 }) (σ : cv_St) : cv_J X G 2 0 0 (cv_QI X G) 19 [] [] σ (F_X8_hasProblem_b19  σ) := by
  unfold F_X8_hasProblem_b19
  refine cv_iconst (v := 1) hC dX8_hasProblem_19 cb_iconst_1 ?_
  refine cv_goto (tgt := 24) hC dX8_hasProblem_20 (by decide) ?_
  exact cv_zret hC dX8_hasProblem_24
set_option maxRecDepth 20000 in
set_option maxHeartbeats 2000000 in
theorem J_X8_hasProblem {X : cv_X} {G : cv_G} {LL : Launch} (hC : cv_C X G LL RX8 cX8_hasProblem 2 (some .boolean) { frames := 4, cells := 0, slots := 0, locals := 93 }) (l1 : Int32) (σ : cv_St) : cv_J X G 2 0 0 (cv_QI X G) 0 [(0, .ref (G.1 0)), (1, .int l1)] [] σ (F_X8_hasProblem l1 σ) := by
  unfold F_X8_hasProblem
  refine cv_aload_n hC 0 dX8_hasProblem_0 rfl rfl ?_
  refine cv_getr hC (fg_X8_63_0 G) dX8_hasProblem_1 ?_
  refine cv_iload_n hC 1 dX8_hasProblem_4 rfl rfl ?_
  refine cv_callVi (ob := 8) hC [.int l1] [] (M_X5_missing LL G l1 σ) ln_X8_217 vm_X5_missing (ob_8 G) rfl rfl (Nat.le_of_ble_eq_true rfl) ⟨Nat.le_of_ble_eq_true rfl, Nat.le_of_ble_eq_true rfl⟩ ⟨Nat.le_of_ble_eq_true rfl, Nat.le_of_ble_eq_true rfl⟩ dX8_hasProblem_5 (fun v2 s1 => ?_)
  refine cv_if_ne (tgt := 19) hC dX8_hasProblem_8 (by decide) ?_ ?_
  · exact cv_sub [] rfl (J_X8_hasProblem_b19 hC s1)
  · refine cv_aload_n hC 0 dX8_hasProblem_11 rfl rfl ?_
    refine cv_iload_n hC 1 dX8_hasProblem_12 rfl rfl ?_
    refine cv_callVi (ob := 0) hC [.int l1] [] (M_X8_lostAt LL G l1 s1) ln_X8_220 vm_X8_lostAt (ob_0 G) rfl rfl (Nat.le_of_ble_eq_true rfl) ⟨Nat.le_of_ble_eq_true rfl, Nat.le_of_ble_eq_true rfl⟩ ⟨Nat.le_of_ble_eq_true rfl, Nat.le_of_ble_eq_true rfl⟩ dX8_hasProblem_13 (fun v4 s3 => ?_)
    refine cv_if_eq (tgt := 23) hC dX8_hasProblem_16 (by decide) ?_ ?_
    · refine cv_iconst (v := 0) hC dX8_hasProblem_23 cb_iconst_0 ?_
      exact cv_zret hC dX8_hasProblem_24
    · exact cv_sub [] rfl (J_X8_hasProblem_b19 hC s3)
set_option maxRecDepth 20000 in
set_option maxHeartbeats 2000000 in
theorem M_X8_hasProblem (LL : Launch) (G : cv_G) (l1 : Int32) (σ : cv_St) : cv_MI LL G yX8_hasProblem cX8_hasProblem 2 (some .boolean) 4 93 [.ref (G.1 0), .int l1] σ (F_X8_hasProblem l1 σ) :=
  cv_mkI (by decide) (Nat.le_of_ble_eq_true rfl) (fun X hC => J_X8_hasProblem hC l1 σ)
/-! X8_countProblems -/
set_option maxRecDepth 20000 in
set_option maxHeartbeats 2000000 in
theorem J_X8_countProblems_b26 {X : cv_X} {G : cv_G} {LL : Launch} (hC : cv_C X G LL RX8 cX8_countProblems 3 (some .int) { frames := 5, cells := 0, slots := 0, locals := 114 }) (k4 : Int32 → Int32 → cv_St → Option (Int32 × cv_St)) (hk4 : ∀ (l1 : Int32) (l2 : Int32)  σ, cv_J X G 3 0 0 (cv_QI X G) 4 [(0, .ref (G.1 0)), (1, .int l1), (2, .int l2)] [] σ (k4 l1 l2 σ)) (l1 : Int32) (l2 : Int32) (σ : cv_St) : cv_J X G 3 0 0 (cv_QI X G) 26 [(0, .ref (G.1 0)), (1, .int l1), (2, .int l2)] [] σ (F_X8_countProblems_b26 k4 l1 l2 σ) := by
  unfold F_X8_countProblems_b26
  refine cv_iinc (lv' := [(2, .int (l2 + Int32.ofInt 1)), (0, .ref (G.1 0)), (1, .int l1)]) hC 2 dX8_countProblems_26 rfl (by decide) rfl ?_
  refine cv_goto (tgt := 4) hC dX8_countProblems_29 (by decide) ?_
  exact cv_sub [1, 2, 0] rfl (hk4 l1 (l2 + Int32.ofInt 1) σ)
set_option maxRecDepth 20000 in
set_option maxHeartbeats 2000000 in
theorem I_X8_countProblems_b4 {X : cv_X} {G : cv_G} {LL : Launch} (hC : cv_C X G LL RX8 cX8_countProblems 3 (some .int) { frames := 5, cells := 0, slots := 0, locals := 114 }) (k4 : Int32 → Int32 → cv_St → Option (Int32 × cv_St)) (hk4 : ∀ (l1 : Int32) (l2 : Int32)  σ, cv_J X G 3 0 0 (cv_QI X G) 4 [(0, .ref (G.1 0)), (1, .int l1), (2, .int l2)] [] σ (k4 l1 l2 σ)) (l1 : Int32) (l2 : Int32) (σ : cv_St) : cv_J X G 3 0 0 (cv_QI X G) 4 [(0, .ref (G.1 0)), (1, .int l1), (2, .int l2)] [] σ (B_X8_countProblems_b4 k4 l1 l2 σ) := by
  unfold B_X8_countProblems_b4
  refine cv_iload_n hC 2 dX8_countProblems_4 rfl rfl ?_
  refine cv_aload_n hC 0 dX8_countProblems_5 rfl rfl ?_
  refine cv_getr hC (fg_X8_63_0 G) dX8_countProblems_6 ?_
  refine cv_geti hC (fg_X8_200_8 G) dX8_countProblems_9 ?_
  refine cv_icmp_ge (tgt := 32) hC dX8_countProblems_12 (by decide) ?_ ?_
  · refine cv_iload_n hC 1 dX8_countProblems_32 rfl rfl ?_
    exact cv_iret hC dX8_countProblems_33
  · refine cv_aload_n hC 0 dX8_countProblems_15 rfl rfl ?_
    refine cv_iload_n hC 2 dX8_countProblems_16 rfl rfl ?_
    refine cv_callVi (ob := 0) hC [.int l2] [] (M_X8_hasProblem LL G l2 σ) ln_X8_230 vm_X8_hasProblem (ob_0 G) rfl rfl (Nat.le_of_ble_eq_true rfl) ⟨Nat.le_of_ble_eq_true rfl, Nat.le_of_ble_eq_true rfl⟩ ⟨Nat.le_of_ble_eq_true rfl, Nat.le_of_ble_eq_true rfl⟩ dX8_countProblems_17 (fun v2 s1 => ?_)
    refine cv_if_eq (tgt := 26) hC dX8_countProblems_20 (by decide) ?_ ?_
    · exact cv_sub [0, 1, 2] rfl (J_X8_countProblems_b26 hC k4 hk4 l1 l2 s1)
    · refine cv_iinc (lv' := [(1, .int (l1 + Int32.ofInt 1)), (0, .ref (G.1 0)), (2, .int l2)]) hC 1 dX8_countProblems_23 rfl (by decide) rfl ?_
      exact cv_sub [1, 0, 2] rfl (J_X8_countProblems_b26 hC k4 hk4 (l1 + Int32.ofInt 1) l2 s1)
set_option maxRecDepth 20000 in
set_option maxHeartbeats 2000000 in
theorem J_X8_countProblems_b4 {X : cv_X} {G : cv_G} {LL : Launch} (hC : cv_C X G LL RX8 cX8_countProblems 3 (some .int) { frames := 5, cells := 0, slots := 0, locals := 114 }) : ∀ (n : Nat) (l1 : Int32) (l2 : Int32) (σ : cv_St), cv_J X G 3 0 0 (cv_QI X G) 4 [(0, .ref (G.1 0)), (1, .int l1), (2, .int l2)] [] σ (F_X8_countProblems_b4 n l1 l2 σ) := by
  intro n
  induction n with
  | zero => intro l1 l2 σ; exact cv_none
  | succ n ih => intro l1 l2 σ; exact I_X8_countProblems_b4 hC _ ih l1 l2 σ
set_option maxRecDepth 20000 in
set_option maxHeartbeats 2000000 in
theorem J_X8_countProblems {X : cv_X} {G : cv_G} {LL : Launch} (hC : cv_C X G LL RX8 cX8_countProblems 3 (some .int) { frames := 5, cells := 0, slots := 0, locals := 114 }) (σ : cv_St) : cv_J X G 3 0 0 (cv_QI X G) 0 [(0, .ref (G.1 0))] [] σ (F_X8_countProblems σ) := by
  unfold F_X8_countProblems
  refine cv_iconst (v := 0) hC dX8_countProblems_0 cb_iconst_0 ?_
  refine cv_istore_n (lv' := [(1, .int 0), (0, .ref (G.1 0))]) hC dX8_countProblems_1 rfl (by decide) rfl ?_
  refine cv_iconst (v := 0) hC dX8_countProblems_2 cb_iconst_0 ?_
  refine cv_istore_n (lv' := [(2, .int 0), (1, .int 0), (0, .ref (G.1 0))]) hC dX8_countProblems_3 rfl (by decide) rfl ?_
  exact cv_sub [2, 1, 0] rfl (J_X8_countProblems_b4 hC 1000 0 0 σ)
set_option maxRecDepth 20000 in
set_option maxHeartbeats 2000000 in
theorem M_X8_countProblems (LL : Launch) (G : cv_G) (σ : cv_St) : cv_MI LL G yX8_countProblems cX8_countProblems 3 (some .int) 5 114 [.ref (G.1 0)] σ (F_X8_countProblems σ) :=
  cv_mkI (by decide) (Nat.le_of_ble_eq_true rfl) (fun X hC => J_X8_countProblems hC σ)
/-! X8_problems -/
set_option maxRecDepth 20000 in
set_option maxHeartbeats 2000000 in
theorem J_X8_problems {X : cv_X} {G : cv_G} {LL : Launch} (hC : cv_C X G LL RX8 cX8_problems 1 (some .int) { frames := 6, cells := 0, slots := 0, locals := 137 }) (σ : cv_St) : cv_J X G 1 0 0 (cv_QI X G) 0 [(0, .ref (G.1 0))] [] σ (F_X8_problems σ) := by
  unfold F_X8_problems
  refine cv_aload_n hC 0 dX8_problems_0 rfl rfl ?_
  refine cv_callVv (ob := 0) hC [] [] (M_X8_inferFacts LL G σ) ln_X8_152 vm_X8_inferFacts (ob_0 G) rfl rfl (Nat.le_of_ble_eq_true rfl) ⟨Nat.le_of_ble_eq_true rfl, Nat.le_of_ble_eq_true rfl⟩ ⟨Nat.le_of_ble_eq_true rfl, Nat.le_of_ble_eq_true rfl⟩ dX8_problems_1 (fun s1 => ?_)
  refine cv_aload_n hC 0 dX8_problems_4 rfl rfl ?_
  refine cv_callVi (ob := 0) hC [] [] (M_X8_countProblems LL G s1) ln_X8_226 vm_X8_countProblems (ob_0 G) rfl rfl (Nat.le_of_ble_eq_true rfl) ⟨Nat.le_of_ble_eq_true rfl, Nat.le_of_ble_eq_true rfl⟩ ⟨Nat.le_of_ble_eq_true rfl, Nat.le_of_ble_eq_true rfl⟩ dX8_problems_5 (fun v3 s2 => ?_)
  exact cv_iret hC dX8_problems_8
set_option maxRecDepth 20000 in
set_option maxHeartbeats 2000000 in
theorem M_X8_problems (LL : Launch) (G : cv_G) (σ : cv_St) : cv_MI LL G yX8_problems cX8_problems 1 (some .int) 6 137 [.ref (G.1 0)] σ (F_X8_problems σ) :=
  cv_mkI (by decide) (Nat.le_of_ble_eq_true rfl) (fun X hC => J_X8_problems hC σ)
/-! X8_save -/
set_option maxRecDepth 20000 in
set_option maxHeartbeats 2000000 in
theorem J_X8_save {X : cv_X} {G : cv_G} {LL : Launch} (hC : cv_C X G LL RX8 cX8_save 1 none { frames := 2, cells := 0, slots := 0, locals := 47 }) (σ : cv_St) : cv_J X G 1 0 0 (cv_QV X G) 0 [(0, .ref (G.1 0))] [] σ (F_X8_save σ) := by
  unfold F_X8_save
  refine cv_aload_n hC 0 dX8_save_0 rfl rfl ?_
  refine cv_getr hC (fg_X8_23_0 G) dX8_save_1 ?_
  refine cv_aload_n hC 0 dX8_save_4 rfl rfl ?_
  refine cv_getr hC (fg_X8_19_0 G) dX8_save_5 ?_
  refine cv_callVv (ob := 3) hC [.ref (G.1 2)] [] (M_X0_copyFrom_3_2 LL G σ) ln_X8_276 vm_X0_copyFrom (ob_3 G) rfl rfl (Nat.le_of_ble_eq_true rfl) ⟨Nat.le_of_ble_eq_true rfl, Nat.le_of_ble_eq_true rfl⟩ ⟨Nat.le_of_ble_eq_true rfl, Nat.le_of_ble_eq_true rfl⟩ dX8_save_8 (fun s1 => ?_)
  refine cv_aload_n hC 0 dX8_save_11 rfl rfl ?_
  refine cv_iconst (v := 1) hC dX8_save_12 cb_iconst_1 ?_
  refine cv_putz hC (fp_X8_74_0 G) dX8_save_13 (fun s2 => ?_)
  exact cv_vret hC dX8_save_16
set_option maxRecDepth 20000 in
set_option maxHeartbeats 2000000 in
theorem M_X8_save (LL : Launch) (G : cv_G) (σ : cv_St) : cv_MV LL G yX8_save cX8_save 1 2 47 [.ref (G.1 0)] σ (F_X8_save σ) :=
  cv_mkV (by decide) (Nat.le_of_ble_eq_true rfl) (fun X hC => J_X8_save hC σ)
/-! X8_forgetFacts -/
set_option maxRecDepth 20000 in
set_option maxHeartbeats 2000000 in
theorem J_X8_forgetFacts {X : cv_X} {G : cv_G} {LL : Launch} (hC : cv_C X G LL RX8 cX8_forgetFacts 1 none { frames := 0, cells := 0, slots := 0, locals := 0 }) (σ : cv_St) : cv_J X G 1 0 0 (cv_QV X G) 0 [(0, .ref (G.1 0))] [] σ (F_X8_forgetFacts σ) := by
  unfold F_X8_forgetFacts
  refine cv_aload_n hC 0 dX8_forgetFacts_0 rfl rfl ?_
  refine cv_iconst (v := 1) hC dX8_forgetFacts_1 cb_iconst_1 ?_
  refine cv_putz hC (fp_X8_78_0 G) dX8_forgetFacts_2 (fun s1 => ?_)
  refine cv_aload_n hC 0 dX8_forgetFacts_5 rfl rfl ?_
  refine cv_iconst (v := 0) hC dX8_forgetFacts_6 cb_iconst_0 ?_
  refine cv_putz hC (fp_X8_81_0 G) dX8_forgetFacts_7 (fun s2 => ?_)
  exact cv_vret hC dX8_forgetFacts_10
set_option maxRecDepth 20000 in
set_option maxHeartbeats 2000000 in
theorem M_X8_forgetFacts (LL : Launch) (G : cv_G) (σ : cv_St) : cv_MV LL G yX8_forgetFacts cX8_forgetFacts 1 0 0 [.ref (G.1 0)] σ (F_X8_forgetFacts σ) :=
  cv_mkV (by decide) (Nat.le_of_ble_eq_true rfl) (fun X hC => J_X8_forgetFacts hC σ)
/-! X8_votedFor -/
set_option maxRecDepth 20000 in
set_option maxHeartbeats 2000000 in
theorem J_X8_votedFor {X : cv_X} {G : cv_G} {LL : Launch} (hC : cv_C X G LL RX8 cX8_votedFor 3 (some .int) { frames := 1, cells := 0, slots := 0, locals := 21 }) (l1 : Int32) (l2 : Int32) (σ : cv_St) : cv_J X G 3 0 0 (cv_QI X G) 0 [(0, .ref (G.1 0)), (1, .int l1), (2, .int l2)] [] σ (F_X8_votedFor l1 l2 σ) := by
  unfold F_X8_votedFor
  refine cv_iload_n hC 2 dX8_votedFor_0 rfl rfl ?_
  refine cv_if_ne (tgt := 14) hC dX8_votedFor_1 (by decide) ?_ ?_
  · refine cv_iload_n hC 2 dX8_votedFor_14 rfl rfl ?_
    refine cv_iconst (v := 1) hC dX8_votedFor_15 cb_iconst_1 ?_
    refine cv_icmp_ne (tgt := 29) hC dX8_votedFor_16 (by decide) ?_ ?_
    · refine cv_iload_n hC 2 dX8_votedFor_29 rfl rfl ?_
      refine cv_iconst (v := 2) hC dX8_votedFor_30 cb_iconst_2 ?_
      refine cv_icmp_ne (tgt := 45) hC dX8_votedFor_31 (by decide) ?_ ?_
      · refine cv_aload_n hC 0 dX8_votedFor_45 rfl rfl ?_
        refine cv_getr hC (fg_X8_40_0 G) dX8_votedFor_46 ?_
        refine cv_getr hC (fg_X8_163_5 G) dX8_votedFor_49 ?_
        refine cv_iload_n hC 1 dX8_votedFor_52 rfl rfl ?_
        refine cv_iald hC (cv_a23 G) dX8_votedFor_53 (fun v1 => ?_)
        exact cv_iret hC dX8_votedFor_54
      · refine cv_aload_n hC 0 dX8_votedFor_34 rfl rfl ?_
        refine cv_getr hC (fg_X8_40_0 G) dX8_votedFor_35 ?_
        refine cv_iload_n hC 1 dX8_votedFor_38 rfl rfl ?_
        refine cv_callVi (ob := 5) hC [.int l1] [] (M_X7_clobbered LL G l1 σ) ln_X8_303 vm_X7_clobbered (ob_5 G) rfl rfl (Nat.le_of_ble_eq_true rfl) ⟨Nat.le_of_ble_eq_true rfl, Nat.le_of_ble_eq_true rfl⟩ ⟨Nat.le_of_ble_eq_true rfl, Nat.le_of_ble_eq_true rfl⟩ dX8_votedFor_39 (fun v3 s2 => ?_)
        refine cv_goto (tgt := 54) hC dX8_votedFor_42 (by decide) ?_
        exact cv_iret hC dX8_votedFor_54
    · refine cv_aload_n hC 0 dX8_votedFor_19 rfl rfl ?_
      refine cv_getr hC (fg_X8_56_0 G) dX8_votedFor_20 ?_
      refine cv_getr hC (fg_X8_172_7 G) dX8_votedFor_23 ?_
      refine cv_iload_n hC 1 dX8_votedFor_26 rfl rfl ?_
      refine cv_iald hC (cv_a31 G) dX8_votedFor_27 (fun v4 => ?_)
      exact cv_iret hC dX8_votedFor_28
  · refine cv_aload_n hC 0 dX8_votedFor_4 rfl rfl ?_
    refine cv_getr hC (fg_X8_56_0 G) dX8_votedFor_5 ?_
    refine cv_getr hC (fg_X8_169_7 G) dX8_votedFor_8 ?_
    refine cv_iload_n hC 1 dX8_votedFor_11 rfl rfl ?_
    refine cv_iald hC (cv_a30 G) dX8_votedFor_12 (fun v5 => ?_)
    exact cv_iret hC dX8_votedFor_13
set_option maxRecDepth 20000 in
set_option maxHeartbeats 2000000 in
theorem M_X8_votedFor (LL : Launch) (G : cv_G) (l1 : Int32) (l2 : Int32) (σ : cv_St) : cv_MI LL G yX8_votedFor cX8_votedFor 3 (some .int) 1 21 [.ref (G.1 0), .int l1, .int l2] σ (F_X8_votedFor l1 l2 σ) :=
  cv_mkI (by decide) (Nat.le_of_ble_eq_true rfl) (fun X hC => J_X8_votedFor hC l1 l2 σ)
/-! X8_countVotes -/
set_option maxRecDepth 20000 in
set_option maxHeartbeats 2000000 in
theorem J_X8_countVotes_b42 {X : cv_X} {G : cv_G} {LL : Launch} (hC : cv_C X G LL RX8 cX8_countVotes 5 (some .int) { frames := 2, cells := 0, slots := 0, locals := 43 }) (k5 : Int32 → Int32 → Int32 → Int32 → cv_St → Option (Int32 × cv_St)) (hk5 : ∀ (l1 : Int32) (l2 : Int32) (l3 : Int32) (l4 : Int32)  σ, cv_J X G 5 0 0 (cv_QI X G) 5 [(0, .ref (G.1 0)), (1, .int l1), (2, .int l2), (3, .int l3), (4, .int l4)] [] σ (k5 l1 l2 l3 l4 σ)) (l1 : Int32) (l2 : Int32) (l3 : Int32) (l4 : Int32) (σ : cv_St) : cv_J X G 5 0 0 (cv_QI X G) 42 [(0, .ref (G.1 0)), (1, .int l1), (2, .int l2), (3, .int l3), (4, .int l4)] [] σ (F_X8_countVotes_b42 k5 l1 l2 l3 l4 σ) := by
  unfold F_X8_countVotes_b42
  refine cv_iinc (lv' := [(4, .int (l4 + Int32.ofInt 1)), (0, .ref (G.1 0)), (1, .int l1), (2, .int l2), (3, .int l3)]) hC 4 dX8_countVotes_42 rfl (by decide) rfl ?_
  refine cv_goto (tgt := 5) hC dX8_countVotes_45 (by decide) ?_
  exact cv_sub [1, 2, 3, 4, 0] rfl (hk5 l1 l2 l3 (l4 + Int32.ofInt 1) σ)
set_option maxRecDepth 20000 in
set_option maxHeartbeats 2000000 in
theorem I_X8_countVotes_b5 {X : cv_X} {G : cv_G} {LL : Launch} (hC : cv_C X G LL RX8 cX8_countVotes 5 (some .int) { frames := 2, cells := 0, slots := 0, locals := 43 }) (k5 : Int32 → Int32 → Int32 → Int32 → cv_St → Option (Int32 × cv_St)) (hk5 : ∀ (l1 : Int32) (l2 : Int32) (l3 : Int32) (l4 : Int32)  σ, cv_J X G 5 0 0 (cv_QI X G) 5 [(0, .ref (G.1 0)), (1, .int l1), (2, .int l2), (3, .int l3), (4, .int l4)] [] σ (k5 l1 l2 l3 l4 σ)) (l1 : Int32) (l2 : Int32) (l3 : Int32) (l4 : Int32) (σ : cv_St) : cv_J X G 5 0 0 (cv_QI X G) 5 [(0, .ref (G.1 0)), (1, .int l1), (2, .int l2), (3, .int l3), (4, .int l4)] [] σ (B_X8_countVotes_b5 k5 l1 l2 l3 l4 σ) := by
  unfold B_X8_countVotes_b5
  refine cv_iload hC 4 dX8_countVotes_5 rfl ?_
  refine cv_bipush (v := 8) hC dX8_countVotes_7 cb_bipush_8 ?_
  refine cv_icmp_ge (tgt := 48) hC dX8_countVotes_9 (by decide) ?_ ?_
  · refine cv_iload_n hC 3 dX8_countVotes_48 rfl rfl ?_
    exact cv_iret hC dX8_countVotes_49
  · refine cv_aload_n hC 0 dX8_countVotes_12 rfl rfl ?_
    refine cv_getr hC (fg_X8_19_0 G) dX8_countVotes_13 ?_
    refine cv_getr hC (fg_X8_128_2 G) dX8_countVotes_16 ?_
    refine cv_iload hC 4 dX8_countVotes_19 rfl ?_
    refine cv_iald hC (cv_a14 G) dX8_countVotes_21 (fun v1 => ?_)
    refine cv_if_le (tgt := 42) hC dX8_countVotes_22 (by decide) ?_ ?_
    · exact cv_sub [0, 1, 2, 3, 4] rfl (J_X8_countVotes_b42 hC k5 hk5 l1 l2 l3 l4 σ)
    · refine cv_aload_n hC 0 dX8_countVotes_25 rfl rfl ?_
      refine cv_iload hC 4 dX8_countVotes_26 rfl ?_
      refine cv_iload_n hC 2 dX8_countVotes_28 rfl rfl ?_
      refine cv_callVi (ob := 0) hC [.int l4, .int l2] [] (M_X8_votedFor LL G l4 l2 σ) ln_X8_306 vm_X8_votedFor (ob_0 G) rfl rfl (Nat.le_of_ble_eq_true rfl) ⟨Nat.le_of_ble_eq_true rfl, Nat.le_of_ble_eq_true rfl⟩ ⟨Nat.le_of_ble_eq_true rfl, Nat.le_of_ble_eq_true rfl⟩ dX8_countVotes_29 (fun v3 s2 => ?_)
      refine cv_iload_n hC 1 dX8_countVotes_32 rfl rfl ?_
      refine cv_callSi hC [.int v3, .int l1] [] (M_X8_contains LL G v3 l1 s2) ln_X8_197 vm_X8_contains rfl rfl (Nat.le_of_ble_eq_true rfl) ⟨Nat.le_of_ble_eq_true rfl, Nat.le_of_ble_eq_true rfl⟩ ⟨Nat.le_of_ble_eq_true rfl, Nat.le_of_ble_eq_true rfl⟩ dX8_countVotes_33 (fun v5 s4 => ?_)
      refine cv_if_eq (tgt := 42) hC dX8_countVotes_36 (by decide) ?_ ?_
      · exact cv_sub [0, 1, 2, 3, 4] rfl (J_X8_countVotes_b42 hC k5 hk5 l1 l2 l3 l4 s4)
      · refine cv_iinc (lv' := [(3, .int (l3 + Int32.ofInt 1)), (0, .ref (G.1 0)), (1, .int l1), (2, .int l2), (4, .int l4)]) hC 3 dX8_countVotes_39 rfl (by decide) rfl ?_
        exact cv_sub [1, 2, 3, 0, 4] rfl (J_X8_countVotes_b42 hC k5 hk5 l1 l2 (l3 + Int32.ofInt 1) l4 s4)
set_option maxRecDepth 20000 in
set_option maxHeartbeats 2000000 in
theorem J_X8_countVotes_b5 {X : cv_X} {G : cv_G} {LL : Launch} (hC : cv_C X G LL RX8 cX8_countVotes 5 (some .int) { frames := 2, cells := 0, slots := 0, locals := 43 }) : ∀ (n : Nat) (l1 : Int32) (l2 : Int32) (l3 : Int32) (l4 : Int32) (σ : cv_St), cv_J X G 5 0 0 (cv_QI X G) 5 [(0, .ref (G.1 0)), (1, .int l1), (2, .int l2), (3, .int l3), (4, .int l4)] [] σ (F_X8_countVotes_b5 n l1 l2 l3 l4 σ) := by
  intro n
  induction n with
  | zero => intro l1 l2 l3 l4 σ; exact cv_none
  | succ n ih => intro l1 l2 l3 l4 σ; exact I_X8_countVotes_b5 hC _ ih l1 l2 l3 l4 σ
set_option maxRecDepth 20000 in
set_option maxHeartbeats 2000000 in
theorem J_X8_countVotes {X : cv_X} {G : cv_G} {LL : Launch} (hC : cv_C X G LL RX8 cX8_countVotes 5 (some .int) { frames := 2, cells := 0, slots := 0, locals := 43 }) (l1 : Int32) (l2 : Int32) (σ : cv_St) : cv_J X G 5 0 0 (cv_QI X G) 0 [(0, .ref (G.1 0)), (1, .int l1), (2, .int l2)] [] σ (F_X8_countVotes l1 l2 σ) := by
  unfold F_X8_countVotes
  refine cv_iconst (v := 0) hC dX8_countVotes_0 cb_iconst_0 ?_
  refine cv_istore_n (lv' := [(3, .int 0), (0, .ref (G.1 0)), (1, .int l1), (2, .int l2)]) hC dX8_countVotes_1 rfl (by decide) rfl ?_
  refine cv_iconst (v := 0) hC dX8_countVotes_2 cb_iconst_0 ?_
  refine cv_istore (lv' := [(4, .int 0), (3, .int 0), (0, .ref (G.1 0)), (1, .int l1), (2, .int l2)]) hC dX8_countVotes_3 (by decide) rfl ?_
  exact cv_sub [2, 3, 4, 1, 0] rfl (J_X8_countVotes_b5 hC 1000 l1 l2 0 0 σ)
set_option maxRecDepth 20000 in
set_option maxHeartbeats 2000000 in
theorem M_X8_countVotes (LL : Launch) (G : cv_G) (l1 : Int32) (l2 : Int32) (σ : cv_St) : cv_MI LL G yX8_countVotes cX8_countVotes 5 (some .int) 2 43 [.ref (G.1 0), .int l1, .int l2] σ (F_X8_countVotes l1 l2 σ) :=
  cv_mkI (by decide) (Nat.le_of_ble_eq_true rfl) (fun X hC => J_X8_countVotes hC l1 l2 σ)
