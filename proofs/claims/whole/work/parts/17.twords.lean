theorem cv_mA (ws : List Cond) (h : ws.all (fun w => decide (w ∈ lw_tbl)) = true) (g : ws.all goodWord = true) : ∀ w ∈ ws, w ∈ cv_gw := fun w hw => List.mem_filter.mpr ⟨of_decide_eq_true (List.all_eq_true.mp h w hw), List.all_eq_true.mp g w hw⟩
set_option maxRecDepth 20000 in
theorem tg_1_285 : ∀ w ∈ (vx_atS RX8 285 (cv_exn 1) ["java/lang/RuntimeException", "java/lang/Exception"]).filter goodWord, w ∈ cv_gw := cv_mA _ (by decide +kernel) (by decide +kernel)
set_option maxRecDepth 20000 in
theorem th_1_285 : ∀ w ∈ (vx_atS RX8 285 (cv_exn 1) ["java/lang/RuntimeException", "java/lang/Exception"]).filter (fun w => !goodWord w), w ∈ [Cond.castable (cv_exn 1) (cv_exn 1), Cond.declares (Bundle.initS "java/lang/RuntimeException"), Cond.declares (Bundle.initS "java/lang/Exception"), Cond.declares (Bundle.initS Bundle.tN)] := by decide +kernel
set_option maxRecDepth 20000 in
theorem tq_1_285 : ∀ w ∈ Cond.classLink RX8 281 (cv_exn 1) :: Cond.initialized (cv_exn 1) :: vx_atS RX8 285 (cv_exn 1) ["java/lang/RuntimeException", "java/lang/Exception"], vx_ot w = true := by decide +kernel
set_option maxRecDepth 20000 in
theorem tw_1_283 : cv_TW 1 281 283 285 "no such function" ["java/lang/RuntimeException", "java/lang/Exception"] := ⟨by decide +kernel, by decide +kernel, (cv_mT 670 (by decide +kernel) rfl), (cv_mT 16 (by decide +kernel) rfl), by decide +kernel, tg_1_285, th_1_285, tq_1_285, by decide +kernel, by decide⟩
set_option maxRecDepth 20000 in
theorem tw_1_286 : cv_TW 1 281 286 285 "no such instruction" ["java/lang/RuntimeException", "java/lang/Exception"] := ⟨by decide +kernel, by decide +kernel, (cv_mT 670 (by decide +kernel) rfl), (cv_mT 16 (by decide +kernel) rfl), by decide +kernel, tg_1_285, th_1_285, tq_1_285, by decide +kernel, by decide⟩
set_option maxRecDepth 20000 in
theorem tw_1_288 : cv_TW 1 281 288 285 "no such register" ["java/lang/RuntimeException", "java/lang/Exception"] := ⟨by decide +kernel, by decide +kernel, (cv_mT 670 (by decide +kernel) rfl), (cv_mT 16 (by decide +kernel) rfl), by decide +kernel, tg_1_285, th_1_285, tq_1_285, by decide +kernel, by decide⟩
set_option maxRecDepth 20000 in
theorem tw_1_290 : cv_TW 1 281 290 285 "no such call site" ["java/lang/RuntimeException", "java/lang/Exception"] := ⟨by decide +kernel, by decide +kernel, (cv_mT 670 (by decide +kernel) rfl), (cv_mT 16 (by decide +kernel) rfl), by decide +kernel, tg_1_285, th_1_285, tq_1_285, by decide +kernel, by decide⟩
set_option maxRecDepth 20000 in
theorem tg_2_88 : ∀ w ∈ (vx_atS RX8 88 (cv_exn 2) ["java/lang/RuntimeException", "java/lang/Exception"]).filter goodWord, w ∈ cv_gw := cv_mA _ (by decide +kernel) (by decide +kernel)
set_option maxRecDepth 20000 in
theorem th_2_88 : ∀ w ∈ (vx_atS RX8 88 (cv_exn 2) ["java/lang/RuntimeException", "java/lang/Exception"]).filter (fun w => !goodWord w), w ∈ [Cond.castable (cv_exn 2) (cv_exn 2), Cond.declares (Bundle.initS "java/lang/RuntimeException"), Cond.declares (Bundle.initS "java/lang/Exception"), Cond.declares (Bundle.initS Bundle.tN)] := by decide +kernel
set_option maxRecDepth 20000 in
theorem tq_2_88 : ∀ w ∈ Cond.classLink RX8 84 (cv_exn 2) :: Cond.initialized (cv_exn 2) :: vx_atS RX8 88 (cv_exn 2) ["java/lang/RuntimeException", "java/lang/Exception"], vx_ot w = true := by decide +kernel
set_option maxRecDepth 20000 in
theorem tw_2_86 : cv_TW 2 84 86 88 "not a character from 33 to 126" ["java/lang/RuntimeException", "java/lang/Exception"] := ⟨by decide +kernel, by decide +kernel, (cv_mT 547 (by decide +kernel) rfl), (cv_mT 14 (by decide +kernel) rfl), by decide +kernel, tg_2_88, th_2_88, tq_2_88, by decide +kernel, by decide⟩
set_option maxRecDepth 20000 in
theorem tw_2_114 : cv_TW 2 84 114 88 "the text has a fault" ["java/lang/RuntimeException", "java/lang/Exception"] := ⟨by decide +kernel, by decide +kernel, (cv_mT 547 (by decide +kernel) rfl), (cv_mT 14 (by decide +kernel) rfl), by decide +kernel, tg_2_88, th_2_88, tq_2_88, by decide +kernel, by decide⟩
set_option maxRecDepth 20000 in
theorem tw_2_204 : cv_TW 2 84 204 88 "no such part" ["java/lang/RuntimeException", "java/lang/Exception"] := ⟨by decide +kernel, by decide +kernel, (cv_mT 547 (by decide +kernel) rfl), (cv_mT 14 (by decide +kernel) rfl), by decide +kernel, tg_2_88, th_2_88, tq_2_88, by decide +kernel, by decide⟩
set_option maxRecDepth 20000 in
theorem tw_2_241 : cv_TW 2 84 241 88 "no such kind" ["java/lang/RuntimeException", "java/lang/Exception"] := ⟨by decide +kernel, by decide +kernel, (cv_mT 547 (by decide +kernel) rfl), (cv_mT 14 (by decide +kernel) rfl), by decide +kernel, tg_2_88, th_2_88, tq_2_88, by decide +kernel, by decide⟩
set_option maxRecDepth 20000 in
theorem tg_3_99 : ∀ w ∈ (vx_atS RX8 99 (cv_exn 3) ["java/lang/RuntimeException", "java/lang/Exception"]).filter goodWord, w ∈ cv_gw := cv_mA _ (by decide +kernel) (by decide +kernel)
set_option maxRecDepth 20000 in
theorem th_3_99 : ∀ w ∈ (vx_atS RX8 99 (cv_exn 3) ["java/lang/RuntimeException", "java/lang/Exception"]).filter (fun w => !goodWord w), w ∈ [Cond.castable (cv_exn 3) (cv_exn 3), Cond.declares (Bundle.initS "java/lang/RuntimeException"), Cond.declares (Bundle.initS "java/lang/Exception"), Cond.declares (Bundle.initS Bundle.tN)] := by decide +kernel
set_option maxRecDepth 20000 in
theorem tq_3_99 : ∀ w ∈ Cond.classLink RX8 95 (cv_exn 3) :: Cond.initialized (cv_exn 3) :: vx_atS RX8 99 (cv_exn 3) ["java/lang/RuntimeException", "java/lang/Exception"], vx_ot w = true := by decide +kernel
set_option maxRecDepth 20000 in
theorem tw_3_97 : cv_TW 3 95 97 99 "the text is full" ["java/lang/RuntimeException", "java/lang/Exception"] := ⟨by decide +kernel, by decide +kernel, (cv_mT 619 (by decide +kernel) rfl), (cv_mT 15 (by decide +kernel) rfl), by decide +kernel, tg_3_99, th_3_99, tq_3_99, by decide +kernel, by decide⟩
set_option maxRecDepth 20000 in
theorem tw_3_119 : cv_TW 3 95 119 99 "too many instructions" ["java/lang/RuntimeException", "java/lang/Exception"] := ⟨by decide +kernel, by decide +kernel, (cv_mT 619 (by decide +kernel) rfl), (cv_mT 15 (by decide +kernel) rfl), by decide +kernel, tg_3_99, th_3_99, tq_3_99, by decide +kernel, by decide⟩
set_option maxRecDepth 20000 in
theorem tw_3_175 : cv_TW 3 95 175 99 "the instruction is not reachable" ["java/lang/RuntimeException", "java/lang/Exception"] := ⟨by decide +kernel, by decide +kernel, (cv_mT 619 (by decide +kernel) rfl), (cv_mT 15 (by decide +kernel) rfl), by decide +kernel, tg_3_99, th_3_99, tq_3_99, by decide +kernel, by decide⟩
set_option maxRecDepth 20000 in
theorem tw_3_279 : cv_TW 3 95 279 99 "nothing was saved" ["java/lang/RuntimeException", "java/lang/Exception"] := ⟨by decide +kernel, by decide +kernel, (cv_mT 619 (by decide +kernel) rfl), (cv_mT 15 (by decide +kernel) rfl), by decide +kernel, tg_3_99, th_3_99, tq_3_99, by decide +kernel, by decide⟩
set_option maxRecDepth 20000 in
theorem tw_3_292 : cv_TW 3 95 292 99 "there was no run of these bodies" ["java/lang/RuntimeException", "java/lang/Exception"] := ⟨by decide +kernel, by decide +kernel, (cv_mT 619 (by decide +kernel) rfl), (cv_mT 15 (by decide +kernel) rfl), by decide +kernel, tg_3_99, th_3_99, tq_3_99, by decide +kernel, by decide⟩
set_option maxRecDepth 20000 in
theorem tg_4_144 : ∀ w ∈ (vx_atS RX8 144 (cv_exn 4) ["java/lang/RuntimeException", "java/lang/Exception"]).filter goodWord, w ∈ cv_gw := cv_mA _ (by decide +kernel) (by decide +kernel)
set_option maxRecDepth 20000 in
theorem th_4_144 : ∀ w ∈ (vx_atS RX8 144 (cv_exn 4) ["java/lang/RuntimeException", "java/lang/Exception"]).filter (fun w => !goodWord w), w ∈ [Cond.castable (cv_exn 4) (cv_exn 4), Cond.declares (Bundle.initS "java/lang/RuntimeException"), Cond.declares (Bundle.initS "java/lang/Exception"), Cond.declares (Bundle.initS Bundle.tN)] := by decide +kernel
set_option maxRecDepth 20000 in
theorem tq_4_144 : ∀ w ∈ Cond.classLink RX8 140 (cv_exn 4) :: Cond.initialized (cv_exn 4) :: vx_atS RX8 144 (cv_exn 4) ["java/lang/RuntimeException", "java/lang/Exception"], vx_ot w = true := by decide +kernel
set_option maxRecDepth 20000 in
theorem tw_4_142 : cv_TW 4 140 142 144 "a return has no operand" ["java/lang/RuntimeException", "java/lang/Exception"] := ⟨by decide +kernel, by decide +kernel, (cv_mT 742 (by decide +kernel) rfl), (cv_mT 20 (by decide +kernel) rfl), by decide +kernel, tg_4_144, th_4_144, tq_4_144, by decide +kernel, by decide⟩
set_option maxRecDepth 20000 in
theorem tg_5 : ∀ w ∈ (cv_atX RX8 237 (cv_exn 5) "java/lang/RuntimeException" 13 prog_26_method_4_code ["java/lang/Exception"]).filter goodWord, w ∈ cv_gw := cv_mA _ (by decide +kernel) (by decide +kernel)
set_option maxRecDepth 20000 in
theorem th_5 : ∀ w ∈ (cv_atX RX8 237 (cv_exn 5) "java/lang/RuntimeException" 13 prog_26_method_4_code ["java/lang/Exception"]).filter (fun w => !goodWord w), w ∈ [Cond.castable (cv_exn 5) (cv_exn 5), Cond.declares (Bundle.initS "java/lang/RuntimeException"), Cond.declares (Bundle.initS "java/lang/Exception"), Cond.declares (Bundle.initS Bundle.tN)] := by decide +kernel
set_option maxRecDepth 20000 in
theorem tq_5 : ∀ w ∈ Cond.classLink RX8 233 (cv_exn 5) :: Cond.initialized (cv_exn 5) :: (cv_atX RX8 237 (cv_exn 5) "java/lang/RuntimeException" 13 prog_26_method_4_code ["java/lang/Exception"]), vx_ot w = true := by decide +kernel
set_option maxRecDepth 20000 in
theorem tw_5_235 : cv_TN 233 235 237 13 prog_26_method_4_code "no call site has a problem" := ⟨⟨by decide +kernel, by decide +kernel, by decide +kernel, by decide +kernel⟩, (cv_mT 919 (by decide +kernel) rfl), (cv_mT 23 (by decide +kernel) rfl), by decide +kernel, tg_5, th_5, tq_5, by decide +kernel⟩
set_option maxRecDepth 20000 in
theorem tw_5_249 : cv_TN 233 249 237 13 prog_26_method_4_code "all bodies are empty" := ⟨⟨by decide +kernel, by decide +kernel, by decide +kernel, by decide +kernel⟩, (cv_mT 919 (by decide +kernel) rfl), (cv_mT 23 (by decide +kernel) rfl), by decide +kernel, tg_5, th_5, tq_5, by decide +kernel⟩
set_option maxRecDepth 20000 in
theorem tw_5_269 : cv_TN 233 269 237 13 prog_26_method_4_code "the value is not an initial one" := ⟨⟨by decide +kernel, by decide +kernel, by decide +kernel, by decide +kernel⟩, (cv_mT 919 (by decide +kernel) rfl), (cv_mT 23 (by decide +kernel) rfl), by decide +kernel, tg_5, th_5, tq_5, by decide +kernel⟩
set_option maxRecDepth 20000 in
theorem tw_5_294 : cv_TN 233 294 237 13 prog_26_method_4_code "the run was cut" := ⟨⟨by decide +kernel, by decide +kernel, by decide +kernel, by decide +kernel⟩, (cv_mT 919 (by decide +kernel) rfl), (cv_mT 23 (by decide +kernel) rfl), by decide +kernel, tg_5, th_5, tq_5, by decide +kernel⟩
set_option maxRecDepth 20000 in
theorem tg_6_273 : ∀ w ∈ (vx_atS RX8 273 (cv_exn 6) ["java/lang/RuntimeException", "java/lang/Exception"]).filter goodWord, w ∈ cv_gw := cv_mA _ (by decide +kernel) (by decide +kernel)
set_option maxRecDepth 20000 in
theorem th_6_273 : ∀ w ∈ (vx_atS RX8 273 (cv_exn 6) ["java/lang/RuntimeException", "java/lang/Exception"]).filter (fun w => !goodWord w), w ∈ [Cond.castable (cv_exn 6) (cv_exn 6), Cond.declares (Bundle.initS "java/lang/RuntimeException"), Cond.declares (Bundle.initS "java/lang/Exception"), Cond.declares (Bundle.initS Bundle.tN)] := by decide +kernel
set_option maxRecDepth 20000 in
theorem tq_6_273 : ∀ w ∈ Cond.classLink RX8 271 (cv_exn 6) :: Cond.initialized (cv_exn 6) :: vx_atS RX8 273 (cv_exn 6) ["java/lang/RuntimeException", "java/lang/Exception"], vx_ot w = true := by decide +kernel
set_option maxRecDepth 20000 in
theorem tw_6_249 : cv_TW 6 271 249 273 "all bodies are empty" ["java/lang/RuntimeException", "java/lang/Exception"] := ⟨by decide +kernel, by decide +kernel, (cv_mT 1055 (by decide +kernel) rfl), (cv_mT 24 (by decide +kernel) rfl), by decide +kernel, tg_6_273, th_6_273, tq_6_273, by decide +kernel, by decide⟩
set_option maxRecDepth 20000 in
theorem tw_6_274 : cv_TW 6 271 274 273 "there are no call sites" ["java/lang/RuntimeException", "java/lang/Exception"] := ⟨by decide +kernel, by decide +kernel, (cv_mT 1055 (by decide +kernel) rfl), (cv_mT 24 (by decide +kernel) rfl), by decide +kernel, tg_6_273, th_6_273, tq_6_273, by decide +kernel, by decide⟩
