def F_X4_enter (l1 : Int32) (σ : cv_St) : Option (cv_St) :=
  cv_st σ 39 8 (σ.2.1 8) l1 (fun s1 => cv_st s1 40 8 (s1.2.1 8) 0 (fun s2 => cv_st s2 41 8 (s2.2.1 8) 0 (fun s3 => cv_pui s3 8 ((s3.2.1 8) + 1) (fun s4 => some s4))))
def F_X4_isBlocked_b37 (σ : cv_St) : Option (Int32 × cv_St) :=
  cv_rz 1 σ
def F_X4_isBlocked_b22 (l1 : Int32) (σ : cv_St) : Option (Int32 × cv_St) :=
  (if l1 = 99 then (if (σ.2.1 8) < 8 then cv_rz 0 σ else F_X4_isBlocked_b37 σ) else cv_rz 0 σ)
def F_X4_isBlocked_b10 (l1 : Int32) (l2 : Int32) (σ : cv_St) : Option (Int32 × cv_St) :=
  (if l1 = 43 then (if 6 ≤ l2 then F_X4_isBlocked_b37 σ else F_X4_isBlocked_b22 l1 σ) else F_X4_isBlocked_b22 l1 σ)
def F_X4_isBlocked (l1 : Int32) (l2 : Int32) (σ : cv_St) : Option (Int32 × cv_St) :=
  (if l1 = 45 then (if l2 ≤ 0 then F_X4_isBlocked_b37 σ else F_X4_isBlocked_b10 l1 l2 σ) else F_X4_isBlocked_b10 l1 l2 σ)
def F_X4_isTaken (σ : cv_St) : Option (Int32 × cv_St) :=
  cv_bi (F_X8_contains (σ.2.1 11) ((σ.2.1 10) - (σ.2.1 10) / 32 * 32) σ) (fun v2 s1 => cv_pui s1 10 ((s1.2.1 10) + 1) (fun s3 => cv_rz v2 s3))
def F_X4_perform_b177 (t0 : Int32) (t1 : Int32) (t2 : Int32) (σ : cv_St) : Option (cv_St) :=
  cv_st σ 40 8 t2 (t1 + t0) (fun s5 => some s5)
def F_X4_perform (l1 : Int32) (l2 : Int32) (l3 : Int32) (σ : cv_St) : Option (cv_St) :=
  (if l1 = 100 then cv_st σ 38 8 l2 (σ.2.1 12) (fun s19 => cv_pui s19 12 ((s19.2.1 12) + 1) (fun s20 => some s20)) else (if l1 = 109 then cv_ld σ 38 8 (l2 - l2 / 10 * 10) (fun v17 => cv_st σ 38 8 (l2 / 10) v17 (fun s18 => some s18)) else (if l1 = 43 then cv_ld σ 41 8 l3 (fun v12 => cv_ld σ 38 8 l2 (fun v13 => cv_st σ 42 48 ((l3 * 6) + v12) v13 (fun s14 => cv_ld s14 41 8 l3 (fun v15 => cv_st s14 41 8 l3 (v15 + 1) (fun s16 => some s16))))) else (if l1 = 45 then cv_ld σ 41 8 l3 (fun v7 => cv_st σ 41 8 l3 (v7 - 1) (fun s8 => cv_ld s8 41 8 l3 (fun v9 => cv_ld s8 42 48 ((l3 * 6) + v9) (fun v10 => cv_st s8 38 8 l2 v10 (fun s11 => some s11))))) else (if l1 = 99 then cv_bv (F_X4_enter l2 σ) (fun s6 => some s6) else (if l1 = 98 then cv_ld σ 40 8 l3 (fun v2 => cv_bi (F_X4_isTaken σ) (fun v4 s3 => (if v4 = 0 then F_X4_perform_b177 0 v2 l3 s3 else F_X4_perform_b177 l2 v2 l3 s3))) else (if l1 = 114 then cv_pui σ 8 ((σ.2.1 8) - 1) (fun s1 => some s1) else some σ)))))))
def F_X4_advance_b74 (σ : cv_St) : Option (cv_St) :=
  cv_puz σ 13 1 (fun s6 => some s6)
def F_X4_advance (l1 : Int32) (σ : cv_St) : Option (cv_St) :=
  cv_ld σ 39 8 l1 (fun v1 => cv_ld σ 40 8 l1 (fun v2 => cv_ld σ 14 8 v1 (fun v3 => (if v2 < v3 then cv_bi (F_X0_kindAt v1 v2 σ) (fun v5 s4 => (if 300 ≤ (s4.2.1 9) then F_X4_advance_b74 s4 else cv_ld s4 41 8 l1 (fun v7 => cv_bi (F_X4_isBlocked v5 v7 s4) (fun v9 s8 => (if v9 = 0 then cv_pui s8 9 ((s8.2.1 9) + 1) (fun s10 => cv_ld s10 40 8 l1 (fun v11 => cv_st s10 40 8 l1 (v11 + 1) (fun s12 => cv_bi (F_X0_numberAt v1 v2 s12) (fun v14 s13 => cv_bv (F_X4_perform v5 v14 l1 s13) (fun s15 => some s15))))) else F_X4_advance_b74 s8))))) else cv_pui σ 8 ((σ.2.1 8) - 1) (fun s16 => some s16)))))
def B_X4_execute_b59 (k59 : Int32 → cv_St → Option (cv_St)) (l3 : Int32) (σ : cv_St) : Option (cv_St) :=
  (if 602 ≤ l3 then some σ else (if (σ.2.1 8) ≤ 0 then some σ else (if (σ.2.1 13) = 0 then cv_bv (F_X4_advance ((σ.2.1 8) - 1) σ) (fun s8 => k59 (l3 + Int32.ofInt 1) s8) else some σ)))
def F_X4_execute_b59 : Nat → Int32 → cv_St → Option (cv_St)
  | 0, _, _ => none
  | n + 1, l3, σ => B_X4_execute_b59 (F_X4_execute_b59 n) l3 σ
def B_X4_execute_b2 (k2 : Int32 → Int32 → Int32 → cv_St → Option (cv_St)) (l1 : Int32) (l2 : Int32) (l3 : Int32) (σ : cv_St) : Option (cv_St) :=
  (if 8 ≤ l3 then cv_pui σ 8 0 (fun s1 => cv_pui s1 9 0 (fun s2 => cv_pui s2 10 0 (fun s3 => cv_pui s3 11 l2 (fun s4 => cv_pui s4 12 8 (fun s5 => cv_puz s5 13 0 (fun s6 => cv_bv (F_X4_enter l1 s6) (fun s7 => F_X4_execute_b59 1000 0 s7))))))) else cv_st σ 38 8 l3 l3 (fun s9 => k2 l1 l2 (l3 + Int32.ofInt 1) s9))
def F_X4_execute_b2 : Nat → Int32 → Int32 → Int32 → cv_St → Option (cv_St)
  | 0, _, _, _, _ => none
  | n + 1, l1, l2, l3, σ => B_X4_execute_b2 (F_X4_execute_b2 n) l1 l2 l3 σ
def F_X4_execute (l1 : Int32) (l2 : Int32) (σ : cv_St) : Option (cv_St) :=
  F_X4_execute_b2 1000 l1 l2 0 σ
/-! X4_enter -/
set_option maxRecDepth 20000 in
set_option maxHeartbeats 2000000 in
theorem J_X4_enter {X : cv_X} {G : cv_G} {LL : Launch} (hC : cv_C X G LL RX4 cX4_enter 2 none { frames := 0, cells := 0, slots := 0, locals := 0 }) (l1 : Int32) (σ : cv_St) : cv_J X G 2 0 0 (cv_QV X G) 0 [(0, .ref (G.1 9)), (1, .int l1)] [] σ (F_X4_enter l1 σ) := by
  unfold F_X4_enter
  refine cv_aload_n hC 0 dX4_enter_0 rfl rfl ?_
  refine cv_getr hC (fg_X4_15_9 G) dX4_enter_1 ?_
  refine cv_aload_n hC 0 dX4_enter_4 rfl rfl ?_
  refine cv_geti hC (fg_X4_27_9 G) dX4_enter_5 ?_
  refine cv_iload_n hC 1 dX4_enter_8 rfl rfl ?_
  refine cv_iast hC (cv_a39 G) dX4_enter_9 (fun s1 => ?_)
  refine cv_aload_n hC 0 dX4_enter_10 rfl rfl ?_
  refine cv_getr hC (fg_X4_18_9 G) dX4_enter_11 ?_
  refine cv_aload_n hC 0 dX4_enter_14 rfl rfl ?_
  refine cv_geti hC (fg_X4_27_9 G) dX4_enter_15 ?_
  refine cv_iconst (v := 0) hC dX4_enter_18 cb_iconst_0 ?_
  refine cv_iast hC (cv_a40 G) dX4_enter_19 (fun s2 => ?_)
  refine cv_aload_n hC 0 dX4_enter_20 rfl rfl ?_
  refine cv_getr hC (fg_X4_21_9 G) dX4_enter_21 ?_
  refine cv_aload_n hC 0 dX4_enter_24 rfl rfl ?_
  refine cv_geti hC (fg_X4_27_9 G) dX4_enter_25 ?_
  refine cv_iconst (v := 0) hC dX4_enter_28 cb_iconst_0 ?_
  refine cv_iast hC (cv_a41 G) dX4_enter_29 (fun s3 => ?_)
  refine cv_aload_n hC 0 dX4_enter_30 rfl rfl ?_
  refine cv_dup hC dX4_enter_31 rfl ?_
  refine cv_geti hC (fg_X4_27_9 G) dX4_enter_32 ?_
  refine cv_iconst (v := 1) hC dX4_enter_35 cb_iconst_1 ?_
  refine cv_iadd hC dX4_enter_36 ?_
  refine cv_puti hC (fp_X4_27_9 G) dX4_enter_37 (fun s4 => ?_)
  exact cv_vret hC dX4_enter_40
set_option maxRecDepth 20000 in
set_option maxHeartbeats 2000000 in
theorem M_X4_enter (LL : Launch) (G : cv_G) (l1 : Int32) (σ : cv_St) : cv_MV LL G yX4_enter cX4_enter 2 0 0 [.ref (G.1 9), .int l1] σ (F_X4_enter l1 σ) :=
  cv_mkV (by decide) (Nat.le_of_ble_eq_true rfl) (fun X hC => J_X4_enter hC l1 σ)
/-! X4_isBlocked -/
set_option maxRecDepth 20000 in
set_option maxHeartbeats 2000000 in
theorem J_X4_isBlocked_b37 {X : cv_X} {G : cv_G} {LL : Launch} (hC : cv_C X G LL RX4 cX4_isBlocked 3 (some .boolean) { frames := 0, cells := 0, slots := 0, locals := 0 }) (σ : cv_St) : cv_J X G 3 0 0 (cv_QI X G) 37 [] [] σ (F_X4_isBlocked_b37  σ) := by
  unfold F_X4_isBlocked_b37
  refine cv_iconst (v := 1) hC dX4_isBlocked_37 cb_iconst_1 ?_
  refine cv_goto (tgt := 42) hC dX4_isBlocked_38 (by decide) ?_
  exact cv_zret hC dX4_isBlocked_42
set_option maxRecDepth 20000 in
set_option maxHeartbeats 2000000 in
theorem J_X4_isBlocked_b22 {X : cv_X} {G : cv_G} {LL : Launch} (hC : cv_C X G LL RX4 cX4_isBlocked 3 (some .boolean) { frames := 0, cells := 0, slots := 0, locals := 0 }) (l1 : Int32) (σ : cv_St) : cv_J X G 3 0 0 (cv_QI X G) 22 [(0, .ref (G.1 9)), (1, .int l1)] [] σ (F_X4_isBlocked_b22 l1 σ) := by
  unfold F_X4_isBlocked_b22
  refine cv_iload_n hC 1 dX4_isBlocked_22 rfl rfl ?_
  refine cv_bipush (v := 99) hC dX4_isBlocked_23 cb_bipush_99 ?_
  refine cv_icmp_ne (tgt := 41) hC dX4_isBlocked_25 (by decide) ?_ ?_
  · refine cv_iconst (v := 0) hC dX4_isBlocked_41 cb_iconst_0 ?_
    exact cv_zret hC dX4_isBlocked_42
  · refine cv_aload_n hC 0 dX4_isBlocked_28 rfl rfl ?_
    refine cv_geti hC (fg_X4_27_9 G) dX4_isBlocked_29 ?_
    refine cv_bipush (v := 8) hC dX4_isBlocked_32 cb_bipush_8 ?_
    refine cv_icmp_lt (tgt := 41) hC dX4_isBlocked_34 (by decide) ?_ ?_
    · refine cv_iconst (v := 0) hC dX4_isBlocked_41 cb_iconst_0 ?_
      exact cv_zret hC dX4_isBlocked_42
    · exact cv_sub [] rfl (J_X4_isBlocked_b37 hC σ)
set_option maxRecDepth 20000 in
set_option maxHeartbeats 2000000 in
theorem J_X4_isBlocked_b10 {X : cv_X} {G : cv_G} {LL : Launch} (hC : cv_C X G LL RX4 cX4_isBlocked 3 (some .boolean) { frames := 0, cells := 0, slots := 0, locals := 0 }) (l1 : Int32) (l2 : Int32) (σ : cv_St) : cv_J X G 3 0 0 (cv_QI X G) 10 [(0, .ref (G.1 9)), (1, .int l1), (2, .int l2)] [] σ (F_X4_isBlocked_b10 l1 l2 σ) := by
  unfold F_X4_isBlocked_b10
  refine cv_iload_n hC 1 dX4_isBlocked_10 rfl rfl ?_
  refine cv_bipush (v := 43) hC dX4_isBlocked_11 cb_bipush_43 ?_
  refine cv_icmp_ne (tgt := 22) hC dX4_isBlocked_13 (by decide) ?_ ?_
  · exact cv_sub [0, 1] rfl (J_X4_isBlocked_b22 hC l1 σ)
  · refine cv_iload_n hC 2 dX4_isBlocked_16 rfl rfl ?_
    refine cv_bipush (v := 6) hC dX4_isBlocked_17 cb_bipush_6 ?_
    refine cv_icmp_ge (tgt := 37) hC dX4_isBlocked_19 (by decide) ?_ ?_
    · exact cv_sub [] rfl (J_X4_isBlocked_b37 hC σ)
    · exact cv_sub [0, 1] rfl (J_X4_isBlocked_b22 hC l1 σ)
set_option maxRecDepth 20000 in
set_option maxHeartbeats 2000000 in
theorem J_X4_isBlocked {X : cv_X} {G : cv_G} {LL : Launch} (hC : cv_C X G LL RX4 cX4_isBlocked 3 (some .boolean) { frames := 0, cells := 0, slots := 0, locals := 0 }) (l1 : Int32) (l2 : Int32) (σ : cv_St) : cv_J X G 3 0 0 (cv_QI X G) 0 [(0, .ref (G.1 9)), (1, .int l1), (2, .int l2)] [] σ (F_X4_isBlocked l1 l2 σ) := by
  unfold F_X4_isBlocked
  refine cv_iload_n hC 1 dX4_isBlocked_0 rfl rfl ?_
  refine cv_bipush (v := 45) hC dX4_isBlocked_1 cb_bipush_45 ?_
  refine cv_icmp_ne (tgt := 10) hC dX4_isBlocked_3 (by decide) ?_ ?_
  · exact cv_sub [0, 1, 2] rfl (J_X4_isBlocked_b10 hC l1 l2 σ)
  · refine cv_iload_n hC 2 dX4_isBlocked_6 rfl rfl ?_
    refine cv_if_le (tgt := 37) hC dX4_isBlocked_7 (by decide) ?_ ?_
    · exact cv_sub [] rfl (J_X4_isBlocked_b37 hC σ)
    · exact cv_sub [0, 1, 2] rfl (J_X4_isBlocked_b10 hC l1 l2 σ)
set_option maxRecDepth 20000 in
set_option maxHeartbeats 2000000 in
theorem M_X4_isBlocked (LL : Launch) (G : cv_G) (l1 : Int32) (l2 : Int32) (σ : cv_St) : cv_MI LL G yX4_isBlocked cX4_isBlocked 3 (some .boolean) 0 0 [.ref (G.1 9), .int l1, .int l2] σ (F_X4_isBlocked l1 l2 σ) :=
  cv_mkI (by decide) (Nat.le_of_ble_eq_true rfl) (fun X hC => J_X4_isBlocked hC l1 l2 σ)
/-! X4_isTaken -/
set_option maxRecDepth 20000 in
set_option maxHeartbeats 2000000 in
theorem J_X4_isTaken {X : cv_X} {G : cv_G} {LL : Launch} (hC : cv_C X G LL RX4 cX4_isTaken 2 (some .boolean) { frames := 1, cells := 0, slots := 0, locals := 21 }) (σ : cv_St) : cv_J X G 2 0 0 (cv_QI X G) 0 [(0, .ref (G.1 9))] [] σ (F_X4_isTaken σ) := by
  unfold F_X4_isTaken
  refine cv_aload_n hC 0 dX4_isTaken_0 rfl rfl ?_
  refine cv_geti hC (fg_X4_37_9 G) dX4_isTaken_1 ?_
  refine cv_aload_n hC 0 dX4_isTaken_4 rfl rfl ?_
  refine cv_geti hC (fg_X4_34_9 G) dX4_isTaken_5 ?_
  refine cv_bipush (v := 32) hC dX4_isTaken_8 cb_bipush_32 ?_
  refine cv_irem hC dX4_isTaken_10 (by decide) ?_
  refine cv_callNi hC [.int (σ.2.1 11), .int ((σ.2.1 10) - (σ.2.1 10) / 32 * 32)] [] (M_X8_contains LL G (σ.2.1 11) ((σ.2.1 10) - (σ.2.1 10) / 32 * 32) σ) (fun _ h => h.2.2) vm_X8_contains rfl rfl (Nat.le_of_ble_eq_true rfl) ⟨Nat.le_of_ble_eq_true rfl, Nat.le_of_ble_eq_true rfl⟩ ⟨Nat.le_of_ble_eq_true rfl, Nat.le_of_ble_eq_true rfl⟩ dX4_isTaken_11 (fun v2 s1 => ?_)
  refine cv_istore_n (lv' := [(1, .int v2), (0, .ref (G.1 9))]) hC dX4_isTaken_14 rfl (by decide) rfl ?_
  refine cv_aload_n hC 1 dX4_isTaken_15 rfl rfl ?_
  refine cv_dup hC dX4_isTaken_16 rfl ?_
  refine cv_geti hC (fg_X4_34_9 G) dX4_isTaken_17 ?_
  refine cv_iconst (v := 1) hC dX4_isTaken_20 cb_iconst_1 ?_
  refine cv_iadd hC dX4_isTaken_21 ?_
  refine cv_puti hC (fp_X4_34_9 G) dX4_isTaken_22 (fun s3 => ?_)
  refine cv_iload_n hC 0 dX4_isTaken_25 rfl rfl ?_
  exact cv_zret hC dX4_isTaken_26
set_option maxRecDepth 20000 in
set_option maxHeartbeats 2000000 in
theorem M_X4_isTaken (LL : Launch) (G : cv_G) (σ : cv_St) : cv_MI LL G yX4_isTaken cX4_isTaken 2 (some .boolean) 1 21 [.ref (G.1 9)] σ (F_X4_isTaken σ) :=
  cv_mkI (by decide) (Nat.le_of_ble_eq_true rfl) (fun X hC => J_X4_isTaken hC σ)
/-! X4_perform -/
set_option maxRecDepth 20000 in
set_option maxHeartbeats 2000000 in
theorem J_X4_perform_b177 {X : cv_X} {G : cv_G} {LL : Launch} (hC : cv_C X G LL RX4 cX4_perform 4 none { frames := 2, cells := 0, slots := 0, locals := 42 }) (t0 : Int32) (t1 : Int32) (t2 : Int32) (σ : cv_St) : cv_J X G 4 0 0 (cv_QV X G) 177 [] [.int t0, .int t1, .int t2, .ref (G.1 40)] σ (F_X4_perform_b177 t0 t1 t2 σ) := by
  unfold F_X4_perform_b177
  refine cv_iadd hC dX4_perform_177 ?_
  refine cv_iast hC (cv_a40 G) dX4_perform_178 (fun s5 => ?_)
  refine cv_goto (tgt := 198) hC dX4_perform_179 (by decide) ?_
  exact cv_vret hC dX4_perform_198
set_option maxRecDepth 20000 in
set_option maxHeartbeats 2000000 in
theorem J_X4_perform {X : cv_X} {G : cv_G} {LL : Launch} (hC : cv_C X G LL RX4 cX4_perform 4 none { frames := 2, cells := 0, slots := 0, locals := 42 }) (l1 : Int32) (l2 : Int32) (l3 : Int32) (σ : cv_St) : cv_J X G 4 0 0 (cv_QV X G) 0 [(0, .ref (G.1 9)), (1, .int l1), (2, .int l2), (3, .int l3)] [] σ (F_X4_perform l1 l2 l3 σ) := by
  unfold F_X4_perform
  refine cv_iload_n hC 1 dX4_perform_0 rfl rfl ?_
  refine cv_bipush (v := 100) hC dX4_perform_1 cb_bipush_100 ?_
  refine cv_icmp_ne (tgt := 29) hC dX4_perform_3 (by decide) ?_ ?_
  · refine cv_iload_n hC 1 dX4_perform_29 rfl rfl ?_
    refine cv_bipush (v := 109) hC dX4_perform_30 cb_bipush_109 ?_
    refine cv_icmp_ne (tgt := 56) hC dX4_perform_32 (by decide) ?_ ?_
    · refine cv_iload_n hC 1 dX4_perform_56 rfl rfl ?_
      refine cv_bipush (v := 43) hC dX4_perform_57 cb_bipush_43 ?_
      refine cv_icmp_ne (tgt := 97) hC dX4_perform_59 (by decide) ?_ ?_
      · refine cv_iload_n hC 1 dX4_perform_97 rfl rfl ?_
        refine cv_bipush (v := 45) hC dX4_perform_98 cb_bipush_45 ?_
        refine cv_icmp_ne (tgt := 138) hC dX4_perform_100 (by decide) ?_ ?_
        · refine cv_iload_n hC 1 dX4_perform_138 rfl rfl ?_
          refine cv_bipush (v := 99) hC dX4_perform_139 cb_bipush_99 ?_
          refine cv_icmp_ne (tgt := 152) hC dX4_perform_141 (by decide) ?_ ?_
          · refine cv_iload_n hC 1 dX4_perform_152 rfl rfl ?_
            refine cv_bipush (v := 98) hC dX4_perform_153 cb_bipush_98 ?_
            refine cv_icmp_ne (tgt := 182) hC dX4_perform_155 (by decide) ?_ ?_
            · refine cv_iload_n hC 1 dX4_perform_182 rfl rfl ?_
              refine cv_bipush (v := 114) hC dX4_perform_183 cb_bipush_114 ?_
              refine cv_icmp_ne (tgt := 198) hC dX4_perform_185 (by decide) ?_ ?_
              · exact cv_vret hC dX4_perform_198
              · refine cv_aload_n hC 0 dX4_perform_188 rfl rfl ?_
                refine cv_dup hC dX4_perform_189 rfl ?_
                refine cv_geti hC (fg_X4_27_9 G) dX4_perform_190 ?_
                refine cv_iconst (v := 1) hC dX4_perform_193 cb_iconst_1 ?_
                refine cv_isub hC dX4_perform_194 ?_
                refine cv_puti hC (fp_X4_27_9 G) dX4_perform_195 (fun s1 => ?_)
                exact cv_vret hC dX4_perform_198
            · refine cv_aload_n hC 0 dX4_perform_158 rfl rfl ?_
              refine cv_getr hC (fg_X4_18_9 G) dX4_perform_159 ?_
              refine cv_iload_n hC 3 dX4_perform_162 rfl rfl ?_
              refine cv_dup2 hC dX4_perform_163 rfl rfl ?_
              refine cv_iald hC (cv_a40 G) dX4_perform_164 (fun v2 => ?_)
              refine cv_aload_n hC 0 dX4_perform_165 rfl rfl ?_
              refine cv_callVi (ob := 9) hC [] [.int v2, .int l3, .ref (G.1 40)] (M_X4_isTaken LL G σ) ln_X4_79 vm_X4_isTaken (ob_9 G) rfl rfl (Nat.le_of_ble_eq_true rfl) ⟨Nat.le_of_ble_eq_true rfl, Nat.le_of_ble_eq_true rfl⟩ ⟨Nat.le_of_ble_eq_true rfl, Nat.le_of_ble_eq_true rfl⟩ dX4_perform_166 (fun v4 s3 => ?_)
              refine cv_if_eq (tgt := 176) hC dX4_perform_169 (by decide) ?_ ?_
              · refine cv_iconst (v := 0) hC dX4_perform_176 cb_iconst_0 ?_
                exact cv_sub [] rfl (J_X4_perform_b177 hC 0 v2 l3 s3)
              · refine cv_iload_n hC 2 dX4_perform_172 rfl rfl ?_
                refine cv_goto (tgt := 177) hC dX4_perform_173 (by decide) ?_
                exact cv_sub [] rfl (J_X4_perform_b177 hC l2 v2 l3 s3)
          · refine cv_aload_n hC 0 dX4_perform_144 rfl rfl ?_
            refine cv_iload_n hC 2 dX4_perform_145 rfl rfl ?_
            refine cv_callVv (ob := 9) hC [.int l2] [] (M_X4_enter LL G l2 σ) ln_X4_51 vm_X4_enter (ob_9 G) rfl rfl (Nat.le_of_ble_eq_true rfl) ⟨Nat.le_of_ble_eq_true rfl, Nat.le_of_ble_eq_true rfl⟩ ⟨Nat.le_of_ble_eq_true rfl, Nat.le_of_ble_eq_true rfl⟩ dX4_perform_146 (fun s6 => ?_)
            refine cv_goto (tgt := 198) hC dX4_perform_149 (by decide) ?_
            exact cv_vret hC dX4_perform_198
        · refine cv_aload_n hC 0 dX4_perform_103 rfl rfl ?_
          refine cv_getr hC (fg_X4_21_9 G) dX4_perform_104 ?_
          refine cv_iload_n hC 3 dX4_perform_107 rfl rfl ?_
          refine cv_dup2 hC dX4_perform_108 rfl rfl ?_
          refine cv_iald hC (cv_a41 G) dX4_perform_109 (fun v7 => ?_)
          refine cv_iconst (v := 1) hC dX4_perform_110 cb_iconst_1 ?_
          refine cv_isub hC dX4_perform_111 ?_
          refine cv_iast hC (cv_a41 G) dX4_perform_112 (fun s8 => ?_)
          refine cv_aload_n hC 0 dX4_perform_113 rfl rfl ?_
          refine cv_getr hC (fg_X4_9_9 G) dX4_perform_114 ?_
          refine cv_iload_n hC 2 dX4_perform_117 rfl rfl ?_
          refine cv_aload_n hC 0 dX4_perform_118 rfl rfl ?_
          refine cv_getr hC (fg_X4_24_9 G) dX4_perform_119 ?_
          refine cv_iload_n hC 3 dX4_perform_122 rfl rfl ?_
          refine cv_bipush (v := 6) hC dX4_perform_123 cb_bipush_6 ?_
          refine cv_imul hC dX4_perform_125 ?_
          refine cv_aload_n hC 0 dX4_perform_126 rfl rfl ?_
          refine cv_getr hC (fg_X4_21_9 G) dX4_perform_127 ?_
          refine cv_iload_n hC 3 dX4_perform_130 rfl rfl ?_
          refine cv_iald hC (cv_a41 G) dX4_perform_131 (fun v9 => ?_)
          refine cv_iadd hC dX4_perform_132 ?_
          refine cv_iald hC (cv_a42 G) dX4_perform_133 (fun v10 => ?_)
          refine cv_iast hC (cv_a38 G) dX4_perform_134 (fun s11 => ?_)
          refine cv_goto (tgt := 198) hC dX4_perform_135 (by decide) ?_
          exact cv_vret hC dX4_perform_198
      · refine cv_aload_n hC 0 dX4_perform_62 rfl rfl ?_
        refine cv_getr hC (fg_X4_24_9 G) dX4_perform_63 ?_
        refine cv_iload_n hC 3 dX4_perform_66 rfl rfl ?_
        refine cv_bipush (v := 6) hC dX4_perform_67 cb_bipush_6 ?_
        refine cv_imul hC dX4_perform_69 ?_
        refine cv_aload_n hC 0 dX4_perform_70 rfl rfl ?_
        refine cv_getr hC (fg_X4_21_9 G) dX4_perform_71 ?_
        refine cv_iload_n hC 3 dX4_perform_74 rfl rfl ?_
        refine cv_iald hC (cv_a41 G) dX4_perform_75 (fun v12 => ?_)
        refine cv_iadd hC dX4_perform_76 ?_
        refine cv_aload_n hC 0 dX4_perform_77 rfl rfl ?_
        refine cv_getr hC (fg_X4_9_9 G) dX4_perform_78 ?_
        refine cv_iload_n hC 2 dX4_perform_81 rfl rfl ?_
        refine cv_iald hC (cv_a38 G) dX4_perform_82 (fun v13 => ?_)
        refine cv_iast hC (cv_a42 G) dX4_perform_83 (fun s14 => ?_)
        refine cv_aload_n hC 0 dX4_perform_84 rfl rfl ?_
        refine cv_getr hC (fg_X4_21_9 G) dX4_perform_85 ?_
        refine cv_iload_n hC 3 dX4_perform_88 rfl rfl ?_
        refine cv_dup2 hC dX4_perform_89 rfl rfl ?_
        refine cv_iald hC (cv_a41 G) dX4_perform_90 (fun v15 => ?_)
        refine cv_iconst (v := 1) hC dX4_perform_91 cb_iconst_1 ?_
        refine cv_iadd hC dX4_perform_92 ?_
        refine cv_iast hC (cv_a41 G) dX4_perform_93 (fun s16 => ?_)
        refine cv_goto (tgt := 198) hC dX4_perform_94 (by decide) ?_
        exact cv_vret hC dX4_perform_198
    · refine cv_aload_n hC 0 dX4_perform_35 rfl rfl ?_
      refine cv_getr hC (fg_X4_9_9 G) dX4_perform_36 ?_
      refine cv_iload_n hC 2 dX4_perform_39 rfl rfl ?_
      refine cv_bipush (v := 10) hC dX4_perform_40 cb_bipush_10 ?_
      refine cv_idiv hC dX4_perform_42 (by decide) ?_
      refine cv_aload_n hC 0 dX4_perform_43 rfl rfl ?_
      refine cv_getr hC (fg_X4_9_9 G) dX4_perform_44 ?_
      refine cv_iload_n hC 2 dX4_perform_47 rfl rfl ?_
      refine cv_bipush (v := 10) hC dX4_perform_48 cb_bipush_10 ?_
      refine cv_irem hC dX4_perform_50 (by decide) ?_
      refine cv_iald hC (cv_a38 G) dX4_perform_51 (fun v17 => ?_)
      refine cv_iast hC (cv_a38 G) dX4_perform_52 (fun s18 => ?_)
      refine cv_goto (tgt := 198) hC dX4_perform_53 (by decide) ?_
      exact cv_vret hC dX4_perform_198
  · refine cv_aload_n hC 0 dX4_perform_6 rfl rfl ?_
    refine cv_getr hC (fg_X4_9_9 G) dX4_perform_7 ?_
    refine cv_iload_n hC 2 dX4_perform_10 rfl rfl ?_
    refine cv_aload_n hC 0 dX4_perform_11 rfl rfl ?_
    refine cv_geti hC (fg_X4_40_9 G) dX4_perform_12 ?_
    refine cv_iast hC (cv_a38 G) dX4_perform_15 (fun s19 => ?_)
    refine cv_aload_n hC 0 dX4_perform_16 rfl rfl ?_
    refine cv_dup hC dX4_perform_17 rfl ?_
    refine cv_geti hC (fg_X4_40_9 G) dX4_perform_18 ?_
    refine cv_iconst (v := 1) hC dX4_perform_21 cb_iconst_1 ?_
    refine cv_iadd hC dX4_perform_22 ?_
    refine cv_puti hC (fp_X4_40_9 G) dX4_perform_23 (fun s20 => ?_)
    refine cv_goto (tgt := 198) hC dX4_perform_26 (by decide) ?_
    exact cv_vret hC dX4_perform_198
set_option maxRecDepth 20000 in
set_option maxHeartbeats 2000000 in
theorem M_X4_perform (LL : Launch) (G : cv_G) (l1 : Int32) (l2 : Int32) (l3 : Int32) (σ : cv_St) : cv_MV LL G yX4_perform cX4_perform 4 2 42 [.ref (G.1 9), .int l1, .int l2, .int l3] σ (F_X4_perform l1 l2 l3 σ) :=
  cv_mkV (by decide) (Nat.le_of_ble_eq_true rfl) (fun X hC => J_X4_perform hC l1 l2 l3 σ)
/-! X4_advance -/
set_option maxRecDepth 20000 in
set_option maxHeartbeats 2000000 in
theorem J_X4_advance_b74 {X : cv_X} {G : cv_G} {LL : Launch} (hC : cv_C X G LL RX4 cX4_advance 5 none { frames := 3, cells := 0, slots := 0, locals := 65 }) (σ : cv_St) : cv_J X G 5 0 0 (cv_QV X G) 74 [(0, .ref (G.1 9))] [] σ (F_X4_advance_b74  σ) := by
  unfold F_X4_advance_b74
  refine cv_aload_n hC 0 dX4_advance_74 rfl rfl ?_
  refine cv_iconst (v := 1) hC dX4_advance_75 cb_iconst_1 ?_
  refine cv_putz hC (fp_X4_43_9 G) dX4_advance_76 (fun s6 => ?_)
  exact cv_vret hC dX4_advance_79
set_option maxRecDepth 20000 in
set_option maxHeartbeats 2000000 in
theorem J_X4_advance {X : cv_X} {G : cv_G} {LL : Launch} (hC : cv_C X G LL RX4 cX4_advance 5 none { frames := 3, cells := 0, slots := 0, locals := 65 }) (l1 : Int32) (σ : cv_St) : cv_J X G 5 0 0 (cv_QV X G) 0 [(0, .ref (G.1 9)), (1, .int l1)] [] σ (F_X4_advance l1 σ) := by
  unfold F_X4_advance
  refine cv_aload_n hC 0 dX4_advance_0 rfl rfl ?_
  refine cv_getr hC (fg_X4_15_9 G) dX4_advance_1 ?_
  refine cv_iload_n hC 1 dX4_advance_4 rfl rfl ?_
  refine cv_iald hC (cv_a39 G) dX4_advance_5 (fun v1 => ?_)
  refine cv_istore_n (lv' := [(2, .int v1), (0, .ref (G.1 9)), (1, .int l1)]) hC dX4_advance_6 rfl (by decide) rfl ?_
  refine cv_aload_n hC 1 dX4_advance_7 rfl rfl ?_
  refine cv_getr hC (fg_X4_18_9 G) dX4_advance_8 ?_
  refine cv_iload_n hC 2 dX4_advance_11 rfl rfl ?_
  refine cv_iald hC (cv_a40 G) dX4_advance_12 (fun v2 => ?_)
  refine cv_istore_n (lv' := [(3, .int v2), (2, .int v1), (0, .ref (G.1 9)), (1, .int l1)]) hC dX4_advance_13 rfl (by decide) rfl ?_
  refine cv_iload_n hC 0 dX4_advance_14 rfl rfl ?_
  refine cv_aload_n hC 2 dX4_advance_15 rfl rfl ?_
  refine cv_getr hC (fg_X4_47_9 G) dX4_advance_16 ?_
  refine cv_getr hC (fg_X4_58_2 G) dX4_advance_19 ?_
  refine cv_iload_n hC 1 dX4_advance_22 rfl rfl ?_
  refine cv_iald hC (cv_a14 G) dX4_advance_23 (fun v3 => ?_)
  refine cv_icmp_lt (tgt := 38) hC dX4_advance_24 (by decide) ?_ ?_
  · refine cv_aload_n hC 2 dX4_advance_38 rfl rfl ?_
    refine cv_getr hC (fg_X4_47_9 G) dX4_advance_39 ?_
    refine cv_iload_n hC 1 dX4_advance_42 rfl rfl ?_
    refine cv_iload_n hC 0 dX4_advance_43 rfl rfl ?_
    refine cv_callVi (ob := 2) hC [.int v1, .int v2] [] (M_X0_kindAt LL G v1 v2 σ) ln_X4_63 vm_X0_kindAt (ob_2 G) rfl rfl (Nat.le_of_ble_eq_true rfl) ⟨Nat.le_of_ble_eq_true rfl, Nat.le_of_ble_eq_true rfl⟩ ⟨Nat.le_of_ble_eq_true rfl, Nat.le_of_ble_eq_true rfl⟩ dX4_advance_44 (fun v5 s4 => ?_)
    refine cv_istore (lv' := [(4, .int v5), (3, .int v2), (2, .int v1), (0, .ref (G.1 9)), (1, .int l1)]) hC dX4_advance_47 (by decide) rfl ?_
    refine cv_aload_n hC 3 dX4_advance_49 rfl rfl ?_
    refine cv_geti hC (fg_X4_31_9 G) dX4_advance_50 ?_
    refine cv_sipush (v := 300) hC dX4_advance_53 cb_sipush_300 ?_
    refine cv_icmp_ge (tgt := 74) hC dX4_advance_56 (by decide) ?_ ?_
    · exact cv_sub [3] rfl (J_X4_advance_b74 hC s4)
    · refine cv_aload_n hC 3 dX4_advance_59 rfl rfl ?_
      refine cv_iload hC 0 dX4_advance_60 rfl ?_
      refine cv_aload_n hC 3 dX4_advance_62 rfl rfl ?_
      refine cv_getr hC (fg_X4_21_9 G) dX4_advance_63 ?_
      refine cv_iload_n hC 4 dX4_advance_66 rfl rfl ?_
      refine cv_iald hC (cv_a41 G) dX4_advance_67 (fun v7 => ?_)
      refine cv_callVi (ob := 9) hC [.int v5, .int v7] [] (M_X4_isBlocked LL G v5 v7 s4) ln_X4_67 vm_X4_isBlocked (ob_9 G) rfl rfl (Nat.le_of_ble_eq_true rfl) ⟨Nat.le_of_ble_eq_true rfl, Nat.le_of_ble_eq_true rfl⟩ ⟨Nat.le_of_ble_eq_true rfl, Nat.le_of_ble_eq_true rfl⟩ dX4_advance_68 (fun v9 s8 => ?_)
      refine cv_if_eq (tgt := 80) hC dX4_advance_71 (by decide) ?_ ?_
      · refine cv_aload_n hC 3 dX4_advance_80 rfl rfl ?_
        refine cv_dup hC dX4_advance_81 rfl ?_
        refine cv_geti hC (fg_X4_31_9 G) dX4_advance_82 ?_
        refine cv_iconst (v := 1) hC dX4_advance_85 cb_iconst_1 ?_
        refine cv_iadd hC dX4_advance_86 ?_
        refine cv_puti hC (fp_X4_31_9 G) dX4_advance_87 (fun s10 => ?_)
        refine cv_aload_n hC 3 dX4_advance_90 rfl rfl ?_
        refine cv_getr hC (fg_X4_18_9 G) dX4_advance_91 ?_
        refine cv_iload_n hC 4 dX4_advance_94 rfl rfl ?_
        refine cv_dup2 hC dX4_advance_95 rfl rfl ?_
        refine cv_iald hC (cv_a40 G) dX4_advance_96 (fun v11 => ?_)
        refine cv_iconst (v := 1) hC dX4_advance_97 cb_iconst_1 ?_
        refine cv_iadd hC dX4_advance_98 ?_
        refine cv_iast hC (cv_a40 G) dX4_advance_99 (fun s12 => ?_)
        refine cv_aload_n hC 3 dX4_advance_100 rfl rfl ?_
        refine cv_iload hC 0 dX4_advance_101 rfl ?_
        refine cv_aload_n hC 3 dX4_advance_103 rfl rfl ?_
        refine cv_getr hC (fg_X4_47_9 G) dX4_advance_104 ?_
        refine cv_iload_n hC 2 dX4_advance_107 rfl rfl ?_
        refine cv_iload_n hC 1 dX4_advance_108 rfl rfl ?_
        refine cv_callVi (ob := 2) hC [.int v1, .int v2] [.int v5, .ref (G.1 9)] (M_X0_numberAt LL G v1 v2 s12) ln_X4_71 vm_X0_numberAt (ob_2 G) rfl rfl (Nat.le_of_ble_eq_true rfl) ⟨Nat.le_of_ble_eq_true rfl, Nat.le_of_ble_eq_true rfl⟩ ⟨Nat.le_of_ble_eq_true rfl, Nat.le_of_ble_eq_true rfl⟩ dX4_advance_109 (fun v14 s13 => ?_)
        refine cv_iload_n hC 4 dX4_advance_112 rfl rfl ?_
        refine cv_callVv (ob := 9) hC [.int v5, .int v14, .int l1] [] (M_X4_perform LL G v5 v14 l1 s13) ln_X4_75 vm_X4_perform (ob_9 G) rfl rfl (Nat.le_of_ble_eq_true rfl) ⟨Nat.le_of_ble_eq_true rfl, Nat.le_of_ble_eq_true rfl⟩ ⟨Nat.le_of_ble_eq_true rfl, Nat.le_of_ble_eq_true rfl⟩ dX4_advance_113 (fun s15 => ?_)
        exact cv_vret hC dX4_advance_116
      · exact cv_sub [3] rfl (J_X4_advance_b74 hC s8)
  · refine cv_aload_n hC 2 dX4_advance_27 rfl rfl ?_
    refine cv_dup hC dX4_advance_28 rfl ?_
    refine cv_geti hC (fg_X4_27_9 G) dX4_advance_29 ?_
    refine cv_iconst (v := 1) hC dX4_advance_32 cb_iconst_1 ?_
    refine cv_isub hC dX4_advance_33 ?_
    refine cv_puti hC (fp_X4_27_9 G) dX4_advance_34 (fun s16 => ?_)
    exact cv_vret hC dX4_advance_37
set_option maxRecDepth 20000 in
set_option maxHeartbeats 2000000 in
theorem M_X4_advance (LL : Launch) (G : cv_G) (l1 : Int32) (σ : cv_St) : cv_MV LL G yX4_advance cX4_advance 5 3 65 [.ref (G.1 9), .int l1] σ (F_X4_advance l1 σ) :=
  cv_mkV (by decide) (Nat.le_of_ble_eq_true rfl) (fun X hC => J_X4_advance hC l1 σ)
/-! X4_execute -/
set_option maxRecDepth 20000 in
set_option maxHeartbeats 2000000 in
theorem I_X4_execute_b59 {X : cv_X} {G : cv_G} {LL : Launch} (hC : cv_C X G LL RX4 cX4_execute 4 none { frames := 4, cells := 0, slots := 0, locals := 89 }) (k59 : Int32 → cv_St → Option (cv_St)) (hk59 : ∀ (l3 : Int32)  σ, cv_J X G 4 0 0 (cv_QV X G) 59 [(0, .ref (G.1 9)), (3, .int l3)] [] σ (k59 l3 σ)) (l3 : Int32) (σ : cv_St) : cv_J X G 4 0 0 (cv_QV X G) 59 [(0, .ref (G.1 9)), (3, .int l3)] [] σ (B_X4_execute_b59 k59 l3 σ) := by
  unfold B_X4_execute_b59
  refine cv_iload_n hC 1 dX4_execute_59 rfl rfl ?_
  refine cv_sipush (v := 602) hC dX4_execute_60 cb_sipush_602 ?_
  refine cv_icmp_ge (tgt := 96) hC dX4_execute_63 (by decide) ?_ ?_
  · exact cv_vret hC dX4_execute_96
  · refine cv_aload_n hC 0 dX4_execute_66 rfl rfl ?_
    refine cv_geti hC (fg_X4_27_9 G) dX4_execute_67 ?_
    refine cv_if_le (tgt := 96) hC dX4_execute_70 (by decide) ?_ ?_
    · exact cv_vret hC dX4_execute_96
    · refine cv_aload_n hC 0 dX4_execute_73 rfl rfl ?_
      refine cv_geti hC (fg_X4_43_9 G) dX4_execute_74 ?_
      refine cv_if_ne (tgt := 96) hC dX4_execute_77 (by decide) ?_ ?_
      · exact cv_vret hC dX4_execute_96
      · refine cv_aload_n hC 0 dX4_execute_80 rfl rfl ?_
        refine cv_aload_n hC 0 dX4_execute_81 rfl rfl ?_
        refine cv_geti hC (fg_X4_27_9 G) dX4_execute_82 ?_
        refine cv_iconst (v := 1) hC dX4_execute_85 cb_iconst_1 ?_
        refine cv_isub hC dX4_execute_86 ?_
        refine cv_callVv (ob := 9) hC [.int ((σ.2.1 8) - 1)] [] (M_X4_advance LL G ((σ.2.1 8) - 1) σ) ln_X4_55 vm_X4_advance (ob_9 G) rfl rfl (Nat.le_of_ble_eq_true rfl) ⟨Nat.le_of_ble_eq_true rfl, Nat.le_of_ble_eq_true rfl⟩ ⟨Nat.le_of_ble_eq_true rfl, Nat.le_of_ble_eq_true rfl⟩ dX4_execute_87 (fun s8 => ?_)
        refine cv_iinc (lv' := [(3, .int (l3 + Int32.ofInt 1)), (0, .ref (G.1 9))]) hC 1 dX4_execute_90 rfl (by decide) rfl ?_
        refine cv_goto (tgt := 59) hC dX4_execute_93 (by decide) ?_
        exact cv_sub [1, 0] rfl (hk59 (l3 + Int32.ofInt 1) s8)
set_option maxRecDepth 20000 in
set_option maxHeartbeats 2000000 in
theorem J_X4_execute_b59 {X : cv_X} {G : cv_G} {LL : Launch} (hC : cv_C X G LL RX4 cX4_execute 4 none { frames := 4, cells := 0, slots := 0, locals := 89 }) : ∀ (n : Nat) (l3 : Int32) (σ : cv_St), cv_J X G 4 0 0 (cv_QV X G) 59 [(0, .ref (G.1 9)), (3, .int l3)] [] σ (F_X4_execute_b59 n l3 σ) := by
  intro n
  induction n with
  | zero => intro l3 σ; exact cv_none
  | succ n ih => intro l3 σ; exact I_X4_execute_b59 hC _ ih l3 σ
set_option maxRecDepth 20000 in
set_option maxHeartbeats 2000000 in
theorem I_X4_execute_b2 {X : cv_X} {G : cv_G} {LL : Launch} (hC : cv_C X G LL RX4 cX4_execute 4 none { frames := 4, cells := 0, slots := 0, locals := 89 }) (k2 : Int32 → Int32 → Int32 → cv_St → Option (cv_St)) (hk2 : ∀ (l1 : Int32) (l2 : Int32) (l3 : Int32)  σ, cv_J X G 4 0 0 (cv_QV X G) 2 [(0, .ref (G.1 9)), (1, .int l1), (2, .int l2), (3, .int l3)] [] σ (k2 l1 l2 l3 σ)) (l1 : Int32) (l2 : Int32) (l3 : Int32) (σ : cv_St) : cv_J X G 4 0 0 (cv_QV X G) 2 [(0, .ref (G.1 9)), (1, .int l1), (2, .int l2), (3, .int l3)] [] σ (B_X4_execute_b2 k2 l1 l2 l3 σ) := by
  unfold B_X4_execute_b2
  refine cv_iload_n hC 3 dX4_execute_2 rfl rfl ?_
  refine cv_bipush (v := 8) hC dX4_execute_3 cb_bipush_8 ?_
  refine cv_icmp_ge (tgt := 21) hC dX4_execute_5 (by decide) ?_ ?_
  · refine cv_aload_n hC 0 dX4_execute_21 rfl rfl ?_
    refine cv_iconst (v := 0) hC dX4_execute_22 cb_iconst_0 ?_
    refine cv_puti hC (fp_X4_27_9 G) dX4_execute_23 (fun s1 => ?_)
    refine cv_aload_n hC 0 dX4_execute_26 rfl rfl ?_
    refine cv_iconst (v := 0) hC dX4_execute_27 cb_iconst_0 ?_
    refine cv_puti hC (fp_X4_31_9 G) dX4_execute_28 (fun s2 => ?_)
    refine cv_aload_n hC 0 dX4_execute_31 rfl rfl ?_
    refine cv_iconst (v := 0) hC dX4_execute_32 cb_iconst_0 ?_
    refine cv_puti hC (fp_X4_34_9 G) dX4_execute_33 (fun s3 => ?_)
    refine cv_aload_n hC 0 dX4_execute_36 rfl rfl ?_
    refine cv_iload_n hC 2 dX4_execute_37 rfl rfl ?_
    refine cv_puti hC (fp_X4_37_9 G) dX4_execute_38 (fun s4 => ?_)
    refine cv_aload_n hC 0 dX4_execute_41 rfl rfl ?_
    refine cv_bipush (v := 8) hC dX4_execute_42 cb_bipush_8 ?_
    refine cv_puti hC (fp_X4_40_9 G) dX4_execute_44 (fun s5 => ?_)
    refine cv_aload_n hC 0 dX4_execute_47 rfl rfl ?_
    refine cv_iconst (v := 0) hC dX4_execute_48 cb_iconst_0 ?_
    refine cv_putz hC (fp_X4_43_9 G) dX4_execute_49 (fun s6 => ?_)
    refine cv_aload_n hC 0 dX4_execute_52 rfl rfl ?_
    refine cv_iload_n hC 1 dX4_execute_53 rfl rfl ?_
    refine cv_callVv (ob := 9) hC [.int l1] [] (M_X4_enter LL G l1 s6) ln_X4_51 vm_X4_enter (ob_9 G) rfl rfl (Nat.le_of_ble_eq_true rfl) ⟨Nat.le_of_ble_eq_true rfl, Nat.le_of_ble_eq_true rfl⟩ ⟨Nat.le_of_ble_eq_true rfl, Nat.le_of_ble_eq_true rfl⟩ dX4_execute_54 (fun s7 => ?_)
    refine cv_iconst (v := 0) hC dX4_execute_57 cb_iconst_0 ?_
    refine cv_istore_n (lv' := [(3, .int 0), (0, .ref (G.1 9)), (1, .int l1), (2, .int l2)]) hC dX4_execute_58 rfl (by decide) rfl ?_
    exact cv_sub [1, 0] rfl (J_X4_execute_b59 hC 1000 0 s7)
  · refine cv_aload_n hC 0 dX4_execute_8 rfl rfl ?_
    refine cv_getr hC (fg_X4_9_9 G) dX4_execute_9 ?_
    refine cv_iload_n hC 3 dX4_execute_12 rfl rfl ?_
    refine cv_iload_n hC 3 dX4_execute_13 rfl rfl ?_
    refine cv_iast hC (cv_a38 G) dX4_execute_14 (fun s9 => ?_)
    refine cv_iinc (lv' := [(3, .int (l3 + Int32.ofInt 1)), (0, .ref (G.1 9)), (1, .int l1), (2, .int l2)]) hC 3 dX4_execute_15 rfl (by decide) rfl ?_
    refine cv_goto (tgt := 2) hC dX4_execute_18 (by decide) ?_
    exact cv_sub [1, 2, 3, 0] rfl (hk2 l1 l2 (l3 + Int32.ofInt 1) s9)
set_option maxRecDepth 20000 in
set_option maxHeartbeats 2000000 in
theorem J_X4_execute_b2 {X : cv_X} {G : cv_G} {LL : Launch} (hC : cv_C X G LL RX4 cX4_execute 4 none { frames := 4, cells := 0, slots := 0, locals := 89 }) : ∀ (n : Nat) (l1 : Int32) (l2 : Int32) (l3 : Int32) (σ : cv_St), cv_J X G 4 0 0 (cv_QV X G) 2 [(0, .ref (G.1 9)), (1, .int l1), (2, .int l2), (3, .int l3)] [] σ (F_X4_execute_b2 n l1 l2 l3 σ) := by
  intro n
  induction n with
  | zero => intro l1 l2 l3 σ; exact cv_none
  | succ n ih => intro l1 l2 l3 σ; exact I_X4_execute_b2 hC _ ih l1 l2 l3 σ
set_option maxRecDepth 20000 in
set_option maxHeartbeats 2000000 in
theorem J_X4_execute {X : cv_X} {G : cv_G} {LL : Launch} (hC : cv_C X G LL RX4 cX4_execute 4 none { frames := 4, cells := 0, slots := 0, locals := 89 }) (l1 : Int32) (l2 : Int32) (σ : cv_St) : cv_J X G 4 0 0 (cv_QV X G) 0 [(0, .ref (G.1 9)), (1, .int l1), (2, .int l2)] [] σ (F_X4_execute l1 l2 σ) := by
  unfold F_X4_execute
  refine cv_iconst (v := 0) hC dX4_execute_0 cb_iconst_0 ?_
  refine cv_istore_n (lv' := [(3, .int 0), (0, .ref (G.1 9)), (1, .int l1), (2, .int l2)]) hC dX4_execute_1 rfl (by decide) rfl ?_
  exact cv_sub [1, 2, 3, 0] rfl (J_X4_execute_b2 hC 1000 l1 l2 0 σ)
set_option maxRecDepth 20000 in
set_option maxHeartbeats 2000000 in
theorem M_X4_execute (LL : Launch) (G : cv_G) (l1 : Int32) (l2 : Int32) (σ : cv_St) : cv_MV LL G yX4_execute cX4_execute 4 4 89 [.ref (G.1 9), .int l1, .int l2] σ (F_X4_execute l1 l2 σ) :=
  cv_mkV (by decide) (Nat.le_of_ble_eq_true rfl) (fun X hC => J_X4_execute hC l1 l2 σ)
