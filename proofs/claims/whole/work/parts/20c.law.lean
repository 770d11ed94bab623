def F_L_law_b2188 (xs : Nat → Int32) (L : Nat) (k28 : Int32 → cv_St → Option (Int32 × cv_St)) (l5 : Int32) (σ : cv_St) : Option (Int32 × cv_St) :=
  k28 (l5 + Int32.ofInt 3) σ
def F_L_law_b261 (xs : Nat → Int32) (L : Nat) (k28 : Int32 → cv_St → Option (Int32 × cv_St)) (l5 : Int32) (σ : cv_St) : Option (Int32 × cv_St) :=
  F_L_law_b2188 xs L k28 l5 σ
def F_L_law_b208 (xs : Nat → Int32) (L : Nat) (k28 : Int32 → cv_St → Option (Int32 × cv_St)) (l5 : Int32) (σ : cv_St) : Option (Int32 × cv_St) :=
  cv_ldS xs L (l5 + 1) (fun v2 => cv_bi (F_L_appendCharacter v2 σ) (fun v4 s3 => cv_ldS xs L (l5 + 1) (fun v5 => cv_bi (F_X9_appendCharacter v5 s3) (fun v7 s6 => cv_bi (F_X9_thrown s6) (fun v9 s8 => (if v9 = v4 then (if v4 = 0 then cv_ldL s8 0 (fun v10 => (if (lg_cmp v10 v7.toInt64) = 0 then F_L_law_b261 xs L k28 l5 s8 else some (0, s8))) else F_L_law_b261 xs L k28 l5 s8) else some (0, s8)))))))
def F_L_law_b317 (xs : Nat → Int32) (L : Nat) (k28 : Int32 → cv_St → Option (Int32 × cv_St)) (l5 : Int32) (σ : cv_St) : Option (Int32 × cv_St) :=
  F_L_law_b2188 xs L k28 l5 σ
def F_L_law_b264 (xs : Nat → Int32) (L : Nat) (k28 : Int32 → cv_St → Option (Int32 × cv_St)) (l5 : Int32) (σ : cv_St) : Option (Int32 × cv_St) :=
  cv_ldS xs L (l5 + 1) (fun v11 => cv_bi (F_L_setBody v11 σ) (fun v13 s12 => cv_ldS xs L (l5 + 1) (fun v14 => cv_bi (F_X9_setBody v14 s12) (fun v16 s15 => cv_bi (F_X9_thrown s15) (fun v18 s17 => (if v18 = v13 then (if v13 = 0 then cv_ldL s17 0 (fun v19 => (if (lg_cmp v19 v16.toInt64) = 0 then F_L_law_b317 xs L k28 l5 s17 else some (0, s17))) else F_L_law_b317 xs L k28 l5 s17) else some (0, s17)))))))
def F_L_law_b320 (xs : Nat → Int32) (L : Nat) (k28 : Int32 → cv_St → Option (Int32 × cv_St)) (l5 : Int32) (σ : cv_St) : Option (Int32 × cv_St) :=
  cv_bi (F_X8_faultPosition σ) (fun v21 s20 => cv_bi (F_X9_faultPosition s20) (fun v23 s22 => (if v21 = v23 then F_L_law_b2188 xs L k28 l5 s22 else some (0, s22))))
def F_L_law_b386 (xs : Nat → Int32) (L : Nat) (k28 : Int32 → cv_St → Option (Int32 × cv_St)) (l5 : Int32) (σ : cv_St) : Option (Int32 × cv_St) :=
  F_L_law_b2188 xs L k28 l5 σ
def F_L_law_b333 (xs : Nat → Int32) (L : Nat) (k28 : Int32 → cv_St → Option (Int32 × cv_St)) (l5 : Int32) (σ : cv_St) : Option (Int32 × cv_St) :=
  cv_ldS xs L (l5 + 1) (fun v24 => cv_bi (F_L_length v24 σ) (fun v26 s25 => cv_ldS xs L (l5 + 1) (fun v27 => cv_bi (F_X9_length v27 s25) (fun v29 s28 => cv_bi (F_X9_thrown s28) (fun v31 s30 => (if v31 = v26 then (if v26 = 0 then cv_ldL s30 0 (fun v32 => (if (lg_cmp v32 v29.toInt64) = 0 then F_L_law_b386 xs L k28 l5 s30 else some (0, s30))) else F_L_law_b386 xs L k28 l5 s30) else some (0, s30)))))))
def F_L_law_b454 (xs : Nat → Int32) (L : Nat) (k28 : Int32 → cv_St → Option (Int32 × cv_St)) (l5 : Int32) (σ : cv_St) : Option (Int32 × cv_St) :=
  F_L_law_b2188 xs L k28 l5 σ
def F_L_law_b389 (xs : Nat → Int32) (L : Nat) (k28 : Int32 → cv_St → Option (Int32 × cv_St)) (l5 : Int32) (σ : cv_St) : Option (Int32 × cv_St) :=
  cv_ldS xs L (l5 + 1) (fun v33 => cv_ldS xs L (l5 + 2) (fun v34 => cv_bi (F_L_instruction v33 v34 σ) (fun v36 s35 => cv_ldS xs L (l5 + 1) (fun v37 => cv_ldS xs L (l5 + 2) (fun v38 => cv_bi (F_X9_instruction v37 v38 s35) (fun v40 s39 => cv_bi (F_X9_thrown s39) (fun v42 s41 => (if v42 = v36 then (if v36 = 0 then cv_ldL s41 0 (fun v43 => (if (lg_cmp v43 v40.toInt64) = 0 then F_L_law_b454 xs L k28 l5 s41 else some (0, s41))) else F_L_law_b454 xs L k28 l5 s41) else some (0, s41)))))))))
def F_L_law_b522 (xs : Nat → Int32) (L : Nat) (k28 : Int32 → cv_St → Option (Int32 × cv_St)) (l5 : Int32) (σ : cv_St) : Option (Int32 × cv_St) :=
  F_L_law_b2188 xs L k28 l5 σ
def F_L_law_b457 (xs : Nat → Int32) (L : Nat) (k28 : Int32 → cv_St → Option (Int32 × cv_St)) (l5 : Int32) (σ : cv_St) : Option (Int32 × cv_St) :=
  cv_ldS xs L (l5 + 1) (fun v44 => cv_ldS xs L (l5 + 2) (fun v45 => cv_bi (F_L_operand v44 v45 σ) (fun v47 s46 => cv_ldS xs L (l5 + 1) (fun v48 => cv_ldS xs L (l5 + 2) (fun v49 => cv_bi (F_X9_operand v48 v49 s46) (fun v51 s50 => cv_bi (F_X9_thrown s50) (fun v53 s52 => (if v53 = v47 then (if v47 = 0 then cv_ldL s52 0 (fun v54 => (if (lg_cmp v54 v51.toInt64) = 0 then F_L_law_b522 xs L k28 l5 s52 else some (0, s52))) else F_L_law_b522 xs L k28 l5 s52) else some (0, s52)))))))))
def F_L_law_b590 (xs : Nat → Int32) (L : Nat) (k28 : Int32 → cv_St → Option (Int32 × cv_St)) (l5 : Int32) (σ : cv_St) : Option (Int32 × cv_St) :=
  F_L_law_b2188 xs L k28 l5 σ
def F_L_law_b525 (xs : Nat → Int32) (L : Nat) (k28 : Int32 → cv_St → Option (Int32 × cv_St)) (l5 : Int32) (σ : cv_St) : Option (Int32 × cv_St) :=
  cv_ldS xs L (l5 + 1) (fun v55 => cv_ldS xs L (l5 + 2) (fun v56 => cv_bi (F_L_removeInstruction v55 v56 σ) (fun v58 s57 => cv_ldS xs L (l5 + 1) (fun v59 => cv_ldS xs L (l5 + 2) (fun v60 => cv_bi (F_X9_removeInstruction v59 v60 s57) (fun v62 s61 => cv_bi (F_X9_thrown s61) (fun v64 s63 => (if v64 = v58 then (if v58 = 0 then cv_ldL s63 0 (fun v65 => (if (lg_cmp v65 v62.toInt64) = 0 then F_L_law_b590 xs L k28 l5 s63 else some (0, s63))) else F_L_law_b590 xs L k28 l5 s63) else some (0, s63)))))))))
def F_L_law_b665 (xs : Nat → Int32) (L : Nat) (k28 : Int32 → cv_St → Option (Int32 × cv_St)) (l5 : Int32) (σ : cv_St) : Option (Int32 × cv_St) :=
  F_L_law_b2188 xs L k28 l5 σ
def F_L_law_b659 (xs : Nat → Int32) (L : Nat) (k28 : Int32 → cv_St → Option (Int32 × cv_St)) (l5 : Int32) (t0 : Int64) (t1 : Int64) (σ : cv_St) : Option (Int32 × cv_St) :=
  (if (lg_cmp t1 t0) = 0 then F_L_law_b665 xs L k28 l5 σ else some (0, σ))
def F_L_law_b593 (xs : Nat → Int32) (L : Nat) (k28 : Int32 → cv_St → Option (Int32 × cv_St)) (l5 : Int32) (σ : cv_St) : Option (Int32 × cv_St) :=
  cv_ldS xs L (l5 + 1) (fun v66 => cv_ldS xs L (l5 + 2) (fun v67 => cv_bi (F_L_isReachable v66 v67 σ) (fun v69 s68 => cv_ldS xs L (l5 + 1) (fun v70 => cv_ldS xs L (l5 + 2) (fun v71 => cv_bi (F_X9_isReachable v70 v71 s68) (fun v73 s72 => cv_bi (F_X9_thrown s72) (fun v75 s74 => (if v75 = v69 then (if v69 = 0 then cv_ldL s74 0 (fun v76 => (if v73 = 0 then F_L_law_b659 xs L k28 l5 0 v76 s74 else F_L_law_b659 xs L k28 l5 1 v76 s74)) else F_L_law_b665 xs L k28 l5 s74) else some (0, s74)))))))))
def F_L_law_b728 (xs : Nat → Int32) (L : Nat) (k28 : Int32 → cv_St → Option (Int32 × cv_St)) (l5 : Int32) (σ : cv_St) : Option (Int32 × cv_St) :=
  F_L_law_b2188 xs L k28 l5 σ
def F_L_law_b722 (xs : Nat → Int32) (L : Nat) (k28 : Int32 → cv_St → Option (Int32 × cv_St)) (l5 : Int32) (t0 : Int64) (t1 : Int64) (σ : cv_St) : Option (Int32 × cv_St) :=
  (if (lg_cmp t1 t0) = 0 then F_L_law_b728 xs L k28 l5 σ else some (0, σ))
def F_L_law_b668 (xs : Nat → Int32) (L : Nat) (k28 : Int32 → cv_St → Option (Int32 × cv_St)) (l5 : Int32) (σ : cv_St) : Option (Int32 × cv_St) :=
  cv_ldS xs L (l5 + 1) (fun v77 => cv_bi (F_L_isBalanced v77 σ) (fun v79 s78 => cv_ldS xs L (l5 + 1) (fun v80 => cv_bi (F_X9_isBalanced v80 s78) (fun v82 s81 => cv_bi (F_X9_thrown s81) (fun v84 s83 => (if v84 = v79 then (if v79 = 0 then cv_ldL s83 0 (fun v85 => (if v82 = 0 then F_L_law_b722 xs L k28 l5 0 v85 s83 else F_L_law_b722 xs L k28 l5 1 v85 s83)) else F_L_law_b728 xs L k28 l5 s83) else some (0, s83)))))))
def F_L_law_b784 (xs : Nat → Int32) (L : Nat) (k28 : Int32 → cv_St → Option (Int32 × cv_St)) (l5 : Int32) (σ : cv_St) : Option (Int32 × cv_St) :=
  F_L_law_b2188 xs L k28 l5 σ
def F_L_law_b731 (xs : Nat → Int32) (L : Nat) (k28 : Int32 → cv_St → Option (Int32 × cv_St)) (l5 : Int32) (σ : cv_St) : Option (Int32 × cv_St) :=
  cv_ldS xs L (l5 + 1) (fun v86 => cv_bi (F_L_preserved v86 σ) (fun v88 s87 => cv_ldS xs L (l5 + 1) (fun v89 => cv_bi (F_X9_preserved v89 s87) (fun v91 s90 => cv_bi (F_X9_thrown s90) (fun v93 s92 => (if v93 = v88 then (if v88 = 0 then cv_ldL s92 0 (fun v94 => (if (lg_cmp v94 v91.toInt64) = 0 then F_L_law_b784 xs L k28 l5 s92 else some (0, s92))) else F_L_law_b784 xs L k28 l5 s92) else some (0, s92)))))))
def F_L_law_b840 (xs : Nat → Int32) (L : Nat) (k28 : Int32 → cv_St → Option (Int32 × cv_St)) (l5 : Int32) (σ : cv_St) : Option (Int32 × cv_St) :=
  F_L_law_b2188 xs L k28 l5 σ
def F_L_law_b787 (xs : Nat → Int32) (L : Nat) (k28 : Int32 → cv_St → Option (Int32 × cv_St)) (l5 : Int32) (σ : cv_St) : Option (Int32 × cv_St) :=
  cv_ldS xs L (l5 + 1) (fun v95 => cv_bi (F_L_surelyDefined v95 σ) (fun v97 s96 => cv_ldS xs L (l5 + 1) (fun v98 => cv_bi (F_X9_surelyDefined v98 s96) (fun v100 s99 => cv_bi (F_X9_thrown s99) (fun v102 s101 => (if v102 = v97 then (if v97 = 0 then cv_ldL s101 0 (fun v103 => (if (lg_cmp v103 v100.toInt64) = 0 then F_L_law_b840 xs L k28 l5 s101 else some (0, s101))) else F_L_law_b840 xs L k28 l5 s101) else some (0, s101)))))))
def F_L_law_b896 (xs : Nat → Int32) (L : Nat) (k28 : Int32 → cv_St → Option (Int32 × cv_St)) (l5 : Int32) (σ : cv_St) : Option (Int32 × cv_St) :=
  F_L_law_b2188 xs L k28 l5 σ
def F_L_law_b843 (xs : Nat → Int32) (L : Nat) (k28 : Int32 → cv_St → Option (Int32 × cv_St)) (l5 : Int32) (σ : cv_St) : Option (Int32 × cv_St) :=
  cv_ldS xs L (l5 + 1) (fun v104 => cv_bi (F_L_arguments v104 σ) (fun v106 s105 => cv_ldS xs L (l5 + 1) (fun v107 => cv_bi (F_X9_arguments v107 s105) (fun v109 s108 => cv_bi (F_X9_thrown s108) (fun v111 s110 => (if v111 = v106 then (if v106 = 0 then cv_ldL s110 0 (fun v112 => (if (lg_cmp v112 v109.toInt64) = 0 then F_L_law_b896 xs L k28 l5 s110 else some (0, s110))) else F_L_law_b896 xs L k28 l5 s110) else some (0, s110)))))))
def F_L_law_b952 (xs : Nat → Int32) (L : Nat) (k28 : Int32 → cv_St → Option (Int32 × cv_St)) (l5 : Int32) (σ : cv_St) : Option (Int32 × cv_St) :=
  F_L_law_b2188 xs L k28 l5 σ
def F_L_law_b899 (xs : Nat → Int32) (L : Nat) (k28 : Int32 → cv_St → Option (Int32 × cv_St)) (l5 : Int32) (σ : cv_St) : Option (Int32 × cv_St) :=
  cv_ldS xs L (l5 + 1) (fun v113 => cv_bi (F_L_results v113 σ) (fun v115 s114 => cv_ldS xs L (l5 + 1) (fun v116 => cv_bi (F_X9_results v116 s114) (fun v118 s117 => cv_bi (F_X9_thrown s117) (fun v120 s119 => (if v120 = v115 then (if v115 = 0 then cv_ldL s119 0 (fun v121 => (if (lg_cmp v121 v118.toInt64) = 0 then F_L_law_b952 xs L k28 l5 s119 else some (0, s119))) else F_L_law_b952 xs L k28 l5 s119) else some (0, s119)))))))
def F_L_law_b1020 (xs : Nat → Int32) (L : Nat) (k28 : Int32 → cv_St → Option (Int32 × cv_St)) (l5 : Int32) (σ : cv_St) : Option (Int32 × cv_St) :=
  F_L_law_b2188 xs L k28 l5 σ
def F_L_law_b955 (xs : Nat → Int32) (L : Nat) (k28 : Int32 → cv_St → Option (Int32 × cv_St)) (l5 : Int32) (σ : cv_St) : Option (Int32 × cv_St) :=
  cv_ldS xs L (l5 + 1) (fun v122 => cv_ldS xs L (l5 + 2) (fun v123 => cv_bi (F_L_liveBefore v122 v123 σ) (fun v125 s124 => cv_ldS xs L (l5 + 1) (fun v126 => cv_ldS xs L (l5 + 2) (fun v127 => cv_bi (F_X9_liveBefore v126 v127 s124) (fun v129 s128 => cv_bi (F_X9_thrown s128) (fun v131 s130 => (if v131 = v125 then (if v125 = 0 then cv_ldL s130 0 (fun v132 => (if (lg_cmp v132 v129.toInt64) = 0 then F_L_law_b1020 xs L k28 l5 s130 else some (0, s130))) else F_L_law_b1020 xs L k28 l5 s130) else some (0, s130)))))))))
def F_L_law_b1076 (xs : Nat → Int32) (L : Nat) (k28 : Int32 → cv_St → Option (Int32 × cv_St)) (l5 : Int32) (σ : cv_St) : Option (Int32 × cv_St) :=
  F_L_law_b2188 xs L k28 l5 σ
def F_L_law_b1023 (xs : Nat → Int32) (L : Nat) (k28 : Int32 → cv_St → Option (Int32 × cv_St)) (l5 : Int32) (σ : cv_St) : Option (Int32 × cv_St) :=
  cv_ldS xs L (l5 + 1) (fun v133 => cv_bi (F_L_neededSlots v133 σ) (fun v135 s134 => cv_ldS xs L (l5 + 1) (fun v136 => cv_bi (F_X9_neededSlots v136 s134) (fun v138 s137 => cv_bi (F_X9_thrown s137) (fun v140 s139 => (if v140 = v135 then (if v135 = 0 then cv_ldL s139 0 (fun v141 => (if (lg_cmp v141 v138.toInt64) = 0 then F_L_law_b1076 xs L k28 l5 s139 else some (0, s139))) else F_L_law_b1076 xs L k28 l5 s139) else some (0, s139)))))))
def F_L_law_b1139 (xs : Nat → Int32) (L : Nat) (k28 : Int32 → cv_St → Option (Int32 × cv_St)) (l5 : Int32) (σ : cv_St) : Option (Int32 × cv_St) :=
  F_L_law_b2188 xs L k28 l5 σ
def F_L_law_b1133 (xs : Nat → Int32) (L : Nat) (k28 : Int32 → cv_St → Option (Int32 × cv_St)) (l5 : Int32) (t0 : Int64) (t1 : Int64) (σ : cv_St) : Option (Int32 × cv_St) :=
  (if (lg_cmp t1 t0) = 0 then F_L_law_b1139 xs L k28 l5 σ else some (0, σ))
def F_L_law_b1079 (xs : Nat → Int32) (L : Nat) (k28 : Int32 → cv_St → Option (Int32 × cv_St)) (l5 : Int32) (σ : cv_St) : Option (Int32 × cv_St) :=
  cv_ldS xs L (l5 + 1) (fun v142 => cv_bi (F_L_isVariadic v142 σ) (fun v144 s143 => cv_ldS xs L (l5 + 1) (fun v145 => cv_bi (F_X9_isVariadic v145 s143) (fun v147 s146 => cv_bi (F_X9_thrown s146) (fun v149 s148 => (if v149 = v144 then (if v144 = 0 then cv_ldL s148 0 (fun v150 => (if v147 = 0 then F_L_law_b1133 xs L k28 l5 0 v150 s148 else F_L_law_b1133 xs L k28 l5 1 v150 s148)) else F_L_law_b1139 xs L k28 l5 s148) else some (0, s148)))))))
def F_L_law_b1195 (xs : Nat → Int32) (L : Nat) (k28 : Int32 → cv_St → Option (Int32 × cv_St)) (l5 : Int32) (σ : cv_St) : Option (Int32 × cv_St) :=
  F_L_law_b2188 xs L k28 l5 σ
def F_L_law_b1142 (xs : Nat → Int32) (L : Nat) (k28 : Int32 → cv_St → Option (Int32 × cv_St)) (l5 : Int32) (σ : cv_St) : Option (Int32 × cv_St) :=
  cv_ldS xs L (l5 + 1) (fun v151 => cv_bi (F_L_callees v151 σ) (fun v153 s152 => cv_ldS xs L (l5 + 1) (fun v154 => cv_bi (F_X9_callees v154 s152) (fun v156 s155 => cv_bi (F_X9_thrown s155) (fun v158 s157 => (if v158 = v153 then (if v153 = 0 then cv_ldL s157 0 (fun v159 => (if (lg_cmp v159 v156.toInt64) = 0 then F_L_law_b1195 xs L k28 l5 s157 else some (0, s157))) else F_L_law_b1195 xs L k28 l5 s157) else some (0, s157)))))))
def F_L_law_b1251 (xs : Nat → Int32) (L : Nat) (k28 : Int32 → cv_St → Option (Int32 × cv_St)) (l5 : Int32) (σ : cv_St) : Option (Int32 × cv_St) :=
  F_L_law_b2188 xs L k28 l5 σ
def F_L_law_b1198 (xs : Nat → Int32) (L : Nat) (k28 : Int32 → cv_St → Option (Int32 × cv_St)) (l5 : Int32) (σ : cv_St) : Option (Int32 × cv_St) :=
  cv_ldS xs L (l5 + 1) (fun v160 => cv_bi (F_L_callersOf v160 σ) (fun v162 s161 => cv_ldS xs L (l5 + 1) (fun v163 => cv_bi (F_X9_callersOf v163 s161) (fun v165 s164 => cv_bi (F_X9_thrown s164) (fun v167 s166 => (if v167 = v162 then (if v162 = 0 then cv_ldL s166 0 (fun v168 => (if (lg_cmp v168 v165.toInt64) = 0 then F_L_law_b1251 xs L k28 l5 s166 else some (0, s166))) else F_L_law_b1251 xs L k28 l5 s166) else some (0, s166)))))))
def F_L_law_b1314 (xs : Nat → Int32) (L : Nat) (k28 : Int32 → cv_St → Option (Int32 × cv_St)) (l5 : Int32) (σ : cv_St) : Option (Int32 × cv_St) :=
  F_L_law_b2188 xs L k28 l5 σ
def F_L_law_b1308 (xs : Nat → Int32) (L : Nat) (k28 : Int32 → cv_St → Option (Int32 × cv_St)) (l5 : Int32) (t0 : Int64) (t1 : Int64) (σ : cv_St) : Option (Int32 × cv_St) :=
  (if (lg_cmp t1 t0) = 0 then F_L_law_b1314 xs L k28 l5 σ else some (0, σ))
def F_L_law_b1254 (xs : Nat → Int32) (L : Nat) (k28 : Int32 → cv_St → Option (Int32 × cv_St)) (l5 : Int32) (σ : cv_St) : Option (Int32 × cv_St) :=
  cv_ldS xs L (l5 + 1) (fun v169 => cv_bi (F_L_isRecursive v169 σ) (fun v171 s170 => cv_ldS xs L (l5 + 1) (fun v172 => cv_bi (F_X9_isRecursive v172 s170) (fun v174 s173 => cv_bi (F_X9_thrown s173) (fun v176 s175 => (if v176 = v171 then (if v171 = 0 then cv_ldL s175 0 (fun v177 => (if v174 = 0 then F_L_law_b1308 xs L k28 l5 0 v177 s175 else F_L_law_b1308 xs L k28 l5 1 v177 s175)) else F_L_law_b1314 xs L k28 l5 s175) else some (0, s175)))))))
def F_L_law_b1317 (xs : Nat → Int32) (L : Nat) (k28 : Int32 → cv_St → Option (Int32 × cv_St)) (l5 : Int32) (σ : cv_St) : Option (Int32 × cv_St) :=
  cv_bi (F_X8_siteCount σ) (fun v179 s178 => cv_bi (F_X9_siteCount s178) (fun v181 s180 => (if v179 = v181 then F_L_law_b2188 xs L k28 l5 s180 else some (0, s180))))
def F_L_law_b1395 (xs : Nat → Int32) (L : Nat) (k28 : Int32 → cv_St → Option (Int32 × cv_St)) (l5 : Int32) (σ : cv_St) : Option (Int32 × cv_St) :=
  F_L_law_b2188 xs L k28 l5 σ
def F_L_law_b1330 (xs : Nat → Int32) (L : Nat) (k28 : Int32 → cv_St → Option (Int32 × cv_St)) (l5 : Int32) (σ : cv_St) : Option (Int32 × cv_St) :=
  cv_ldS xs L (l5 + 1) (fun v182 => cv_ldS xs L (l5 + 2) (fun v183 => cv_bi (F_L_site v182 v183 σ) (fun v185 s184 => cv_ldS xs L (l5 + 1) (fun v186 => cv_ldS xs L (l5 + 2) (fun v187 => cv_bi (F_X9_site v186 v187 s184) (fun v189 s188 => cv_bi (F_X9_thrown s188) (fun v191 s190 => (if v191 = v185 then (if v185 = 0 then cv_ldL s190 0 (fun v192 => (if (lg_cmp v192 v189.toInt64) = 0 then F_L_law_b1395 xs L k28 l5 s190 else some (0, s190))) else F_L_law_b1395 xs L k28 l5 s190) else some (0, s190)))))))))
def F_L_law_b1451 (xs : Nat → Int32) (L : Nat) (k28 : Int32 → cv_St → Option (Int32 × cv_St)) (l5 : Int32) (σ : cv_St) : Option (Int32 × cv_St) :=
  F_L_law_b2188 xs L k28 l5 σ
def F_L_law_b1398 (xs : Nat → Int32) (L : Nat) (k28 : Int32 → cv_St → Option (Int32 × cv_St)) (l5 : Int32) (σ : cv_St) : Option (Int32 × cv_St) :=
  cv_ldS xs L (l5 + 1) (fun v193 => cv_bi (F_L_passedSlots v193 σ) (fun v195 s194 => cv_ldS xs L (l5 + 1) (fun v196 => cv_bi (F_X9_passedSlots v196 s194) (fun v198 s197 => cv_bi (F_X9_thrown s197) (fun v200 s199 => (if v200 = v195 then (if v195 = 0 then cv_ldL s199 0 (fun v201 => (if (lg_cmp v201 v198.toInt64) = 0 then F_L_law_b1451 xs L k28 l5 s199 else some (0, s199))) else F_L_law_b1451 xs L k28 l5 s199) else some (0, s199)))))))
def F_L_law_b1507 (xs : Nat → Int32) (L : Nat) (k28 : Int32 → cv_St → Option (Int32 × cv_St)) (l5 : Int32) (σ : cv_St) : Option (Int32 × cv_St) :=
  F_L_law_b2188 xs L k28 l5 σ
def F_L_law_b1454 (xs : Nat → Int32) (L : Nat) (k28 : Int32 → cv_St → Option (Int32 × cv_St)) (l5 : Int32) (σ : cv_St) : Option (Int32 × cv_St) :=
  cv_ldS xs L (l5 + 1) (fun v202 => cv_bi (F_L_missingSlots v202 σ) (fun v204 s203 => cv_ldS xs L (l5 + 1) (fun v205 => cv_bi (F_X9_missingSlots v205 s203) (fun v207 s206 => cv_bi (F_X9_thrown s206) (fun v209 s208 => (if v209 = v204 then (if v204 = 0 then cv_ldL s208 0 (fun v210 => (if (lg_cmp v210 v207.toInt64) = 0 then F_L_law_b1507 xs L k28 l5 s208 else some (0, s208))) else F_L_law_b1507 xs L k28 l5 s208) else some (0, s208)))))))
def F_L_law_b1563 (xs : Nat → Int32) (L : Nat) (k28 : Int32 → cv_St → Option (Int32 × cv_St)) (l5 : Int32) (σ : cv_St) : Option (Int32 × cv_St) :=
  F_L_law_b2188 xs L k28 l5 σ
def F_L_law_b1510 (xs : Nat → Int32) (L : Nat) (k28 : Int32 → cv_St → Option (Int32 × cv_St)) (l5 : Int32) (σ : cv_St) : Option (Int32 × cv_St) :=
  cv_ldS xs L (l5 + 1) (fun v211 => cv_bi (F_L_lostRegisters v211 σ) (fun v213 s212 => cv_ldS xs L (l5 + 1) (fun v214 => cv_bi (F_X9_lostRegisters v214 s212) (fun v216 s215 => cv_bi (F_X9_thrown s215) (fun v218 s217 => (if v218 = v213 then (if v213 = 0 then cv_ldL s217 0 (fun v219 => (if (lg_cmp v219 v216.toInt64) = 0 then F_L_law_b1563 xs L k28 l5 s217 else some (0, s217))) else F_L_law_b1563 xs L k28 l5 s217) else some (0, s217)))))))
def F_L_law_b1619 (xs : Nat → Int32) (L : Nat) (k28 : Int32 → cv_St → Option (Int32 × cv_St)) (l5 : Int32) (σ : cv_St) : Option (Int32 × cv_St) :=
  F_L_law_b2188 xs L k28 l5 σ
def F_L_law_b1566 (xs : Nat → Int32) (L : Nat) (k28 : Int32 → cv_St → Option (Int32 × cv_St)) (l5 : Int32) (σ : cv_St) : Option (Int32 × cv_St) :=
  cv_ldS xs L (l5 + 1) (fun v220 => cv_bi (F_L_liveBehind v220 σ) (fun v222 s221 => cv_ldS xs L (l5 + 1) (fun v223 => cv_bi (F_X9_liveBehind_ v223 s221) (fun v225 s224 => cv_bi (F_X9_thrown s224) (fun v227 s226 => (if v227 = v222 then (if v222 = 0 then cv_ldL s226 0 (fun v228 => (if (lg_cmp v228 v225.toInt64) = 0 then F_L_law_b1619 xs L k28 l5 s226 else some (0, s226))) else F_L_law_b1619 xs L k28 l5 s226) else some (0, s226)))))))
def F_L_law_b1622 (xs : Nat → Int32) (L : Nat) (k28 : Int32 → cv_St → Option (Int32 × cv_St)) (l5 : Int32) (σ : cv_St) : Option (Int32 × cv_St) :=
  cv_bi (F_X8_problems σ) (fun v230 s229 => cv_bi (F_X9_problems s229) (fun v232 s231 => (if v230 = v232 then F_L_law_b2188 xs L k28 l5 s231 else some (0, s231))))
def F_L_law_b1676 (xs : Nat → Int32) (L : Nat) (k28 : Int32 → cv_St → Option (Int32 × cv_St)) (l5 : Int32) (σ : cv_St) : Option (Int32 × cv_St) :=
  F_L_law_b2188 xs L k28 l5 σ
def F_L_law_b1635 (xs : Nat → Int32) (L : Nat) (k28 : Int32 → cv_St → Option (Int32 × cv_St)) (l5 : Int32) (σ : cv_St) : Option (Int32 × cv_St) :=
  cv_bi (F_L_firstProblem σ) (fun v234 s233 => cv_bi (F_X9_firstProblem s233) (fun v236 s235 => cv_bi (F_X9_thrown s235) (fun v238 s237 => (if v238 = v234 then (if v234 = 0 then cv_ldL s237 0 (fun v239 => (if (lg_cmp v239 v236.toInt64) = 0 then F_L_law_b1676 xs L k28 l5 s237 else some (0, s237))) else F_L_law_b1676 xs L k28 l5 s237) else some (0, s237)))))
def F_L_law_b1744 (xs : Nat → Int32) (L : Nat) (k28 : Int32 → cv_St → Option (Int32 × cv_St)) (l5 : Int32) (σ : cv_St) : Option (Int32 × cv_St) :=
  F_L_law_b2188 xs L k28 l5 σ
def F_L_law_b1679 (xs : Nat → Int32) (L : Nat) (k28 : Int32 → cv_St → Option (Int32 × cv_St)) (l5 : Int32) (σ : cv_St) : Option (Int32 × cv_St) :=
  cv_ldS xs L (l5 + 1) (fun v240 => cv_ldS xs L (l5 + 2) (fun v241 => cv_bi (F_L_votes v240 v241 σ) (fun v243 s242 => cv_ldS xs L (l5 + 1) (fun v244 => cv_ldS xs L (l5 + 2) (fun v245 => cv_bi (F_X9_votes v244 v245 s242) (fun v247 s246 => cv_bi (F_X9_thrown s246) (fun v249 s248 => (if v249 = v243 then (if v243 = 0 then cv_ldL s248 0 (fun v250 => (if (lg_cmp v250 v247.toInt64) = 0 then F_L_law_b1744 xs L k28 l5 s248 else some (0, s248))) else F_L_law_b1744 xs L k28 l5 s248) else some (0, s248)))))))))
def F_L_law_b1800 (xs : Nat → Int32) (L : Nat) (k28 : Int32 → cv_St → Option (Int32 × cv_St)) (l5 : Int32) (σ : cv_St) : Option (Int32 × cv_St) :=
  F_L_law_b2188 xs L k28 l5 σ
def F_L_law_b1747 (xs : Nat → Int32) (L : Nat) (k28 : Int32 → cv_St → Option (Int32 × cv_St)) (l5 : Int32) (σ : cv_St) : Option (Int32 × cv_St) :=
  cv_ldS xs L (l5 + 1) (fun v251 => cv_bi (F_L_role v251 σ) (fun v253 s252 => cv_ldS xs L (l5 + 1) (fun v254 => cv_bi (F_X9_role v254 s252) (fun v256 s255 => cv_bi (F_X9_thrown s255) (fun v258 s257 => (if v258 = v253 then (if v253 = 0 then cv_ldL s257 0 (fun v259 => (if (lg_cmp v259 v256.toInt64) = 0 then F_L_law_b1800 xs L k28 l5 s257 else some (0, s257))) else F_L_law_b1800 xs L k28 l5 s257) else some (0, s257)))))))
def F_L_law_b1868 (xs : Nat → Int32) (L : Nat) (k28 : Int32 → cv_St → Option (Int32 × cv_St)) (l5 : Int32) (σ : cv_St) : Option (Int32 × cv_St) :=
  F_L_law_b2188 xs L k28 l5 σ
def F_L_law_b1803 (xs : Nat → Int32) (L : Nat) (k28 : Int32 → cv_St → Option (Int32 × cv_St)) (l5 : Int32) (σ : cv_St) : Option (Int32 × cv_St) :=
  cv_ldS xs L (l5 + 1) (fun v260 => cv_ldS xs L (l5 + 2) (fun v261 => cv_bi (F_L_run v260 v261 σ) (fun v263 s262 => cv_ldS xs L (l5 + 1) (fun v264 => cv_ldS xs L (l5 + 2) (fun v265 => cv_bi (F_X9_run v264 v265 s262) (fun v267 s266 => cv_bi (F_X9_thrown s266) (fun v269 s268 => (if v269 = v263 then (if v263 = 0 then cv_ldL s268 0 (fun v270 => (if (lg_cmp v270 v267.toInt64) = 0 then F_L_law_b1868 xs L k28 l5 s268 else some (0, s268))) else F_L_law_b1868 xs L k28 l5 s268) else some (0, s268)))))))))
def F_L_law_b1919 (xs : Nat → Int32) (L : Nat) (k28 : Int32 → cv_St → Option (Int32 × cv_St)) (l5 : Int32) (σ : cv_St) : Option (Int32 × cv_St) :=
  F_L_law_b2188 xs L k28 l5 σ
def F_L_law_b1913 (xs : Nat → Int32) (L : Nat) (k28 : Int32 → cv_St → Option (Int32 × cv_St)) (l5 : Int32) (t0 : Int64) (t1 : Int64) (σ : cv_St) : Option (Int32 × cv_St) :=
  (if (lg_cmp t1 t0) = 0 then F_L_law_b1919 xs L k28 l5 σ else some (0, σ))
def F_L_law_b1871 (xs : Nat → Int32) (L : Nat) (k28 : Int32 → cv_St → Option (Int32 × cv_St)) (l5 : Int32) (σ : cv_St) : Option (Int32 × cv_St) :=
  cv_bi (F_L_isCut σ) (fun v272 s271 => cv_bi (F_X9_isCut s271) (fun v274 s273 => cv_bi (F_X9_thrown s273) (fun v276 s275 => (if v276 = v272 then (if v272 = 0 then cv_ldL s275 0 (fun v277 => (if v274 = 0 then F_L_law_b1913 xs L k28 l5 0 v277 s275 else F_L_law_b1913 xs L k28 l5 1 v277 s275)) else F_L_law_b1919 xs L k28 l5 s275) else some (0, s275)))))
def F_L_law_b1963 (xs : Nat → Int32) (L : Nat) (k28 : Int32 → cv_St → Option (Int32 × cv_St)) (l5 : Int32) (σ : cv_St) : Option (Int32 × cv_St) :=
  F_L_law_b2188 xs L k28 l5 σ
def F_L_law_b1922 (xs : Nat → Int32) (L : Nat) (k28 : Int32 → cv_St → Option (Int32 × cv_St)) (l5 : Int32) (σ : cv_St) : Option (Int32 × cv_St) :=
  cv_bi (F_L_observed σ) (fun v279 s278 => cv_bi (F_X9_observed s278) (fun v281 s280 => cv_bi (F_X9_thrown s280) (fun v283 s282 => (if v283 = v279 then (if v279 = 0 then cv_ldL s282 0 (fun v284 => (if (lg_cmp v284 v281.toInt64) = 0 then F_L_law_b1963 xs L k28 l5 s282 else some (0, s282))) else F_L_law_b1963 xs L k28 l5 s282) else some (0, s282)))))
def F_L_law_b2019 (xs : Nat → Int32) (L : Nat) (k28 : Int32 → cv_St → Option (Int32 × cv_St)) (l5 : Int32) (σ : cv_St) : Option (Int32 × cv_St) :=
  F_L_law_b2188 xs L k28 l5 σ
def F_L_law_b1966 (xs : Nat → Int32) (L : Nat) (k28 : Int32 → cv_St → Option (Int32 × cv_St)) (l5 : Int32) (σ : cv_St) : Option (Int32 × cv_St) :=
  cv_ldS xs L (l5 + 1) (fun v285 => cv_bi (F_L_origin v285 σ) (fun v287 s286 => cv_ldS xs L (l5 + 1) (fun v288 => cv_bi (F_X9_origin v288 s286) (fun v290 s289 => cv_bi (F_X9_thrown s289) (fun v292 s291 => (if v292 = v287 then (if v287 = 0 then cv_ldL s291 0 (fun v293 => (if (lg_cmp v293 v290.toInt64) = 0 then F_L_law_b2019 xs L k28 l5 s291 else some (0, s291))) else F_L_law_b2019 xs L k28 l5 s291) else some (0, s291)))))))
def F_L_law_b2084 (xs : Nat → Int32) (L : Nat) (k28 : Int32 → cv_St → Option (Int32 × cv_St)) (l5 : Int32) (σ : cv_St) : Option (Int32 × cv_St) :=
  F_L_law_b2188 xs L k28 l5 σ
def F_L_law_b2022 (xs : Nat → Int32) (L : Nat) (k28 : Int32 → cv_St → Option (Int32 × cv_St)) (l5 : Int32) (σ : cv_St) : Option (Int32 × cv_St) :=
  cv_bi (F_L_preservedShare σ) (fun v295 s294 => cv_bd (F_X9_preservedShare s294) (fun v297 s296 => cv_bi (F_X9_thrown s296) (fun v299 s298 => (if v299 = v295 then (if v295 = 0 then cv_ldD s298 0 (fun v300 => (if (Op.cmpValue (FP.dcmp v300 v297) .l) = 0 then F_L_law_b2084 xs L k28 l5 s298 else cv_ldD s298 0 (fun v301 => cv_ldD s298 0 (fun v302 => (if (Op.cmpValue (FP.dcmp v301 v302) .l) = 0 then some (0, s298) else (if (Op.cmpValue (FP.dcmp v297 v297) .l) = 0 then some (0, s298) else F_L_law_b2084 xs L k28 l5 s298)))))) else F_L_law_b2084 xs L k28 l5 s298) else some (0, s298)))))
def F_L_law_b2150 (xs : Nat → Int32) (L : Nat) (k28 : Int32 → cv_St → Option (Int32 × cv_St)) (l5 : Int32) (σ : cv_St) : Option (Int32 × cv_St) :=
  F_L_law_b2188 xs L k28 l5 σ
def F_L_law_b2087 (xs : Nat → Int32) (L : Nat) (k28 : Int32 → cv_St → Option (Int32 × cv_St)) (l5 : Int32) (σ : cv_St) : Option (Int32 × cv_St) :=
  cv_bi (F_L_problemShare σ) (fun v304 s303 => cv_bf (F_X9_problemShare s303) (fun v306 s305 => cv_bi (F_X9_thrown s305) (fun v308 s307 => (if v308 = v304 then (if v304 = 0 then cv_ldD s307 0 (fun v309 => cv_f2d v306 (fun v310 => (if (Op.cmpValue (FP.dcmp v309 v310) .l) = 0 then F_L_law_b2150 xs L k28 l5 s307 else cv_ldD s307 0 (fun v311 => cv_ldD s307 0 (fun v312 => (if (Op.cmpValue (FP.dcmp v311 v312) .l) = 0 then some (0, s307) else (if (Op.cmpValue (FP.fcmp v306 v306) .l) = 0 then some (0, s307) else F_L_law_b2150 xs L k28 l5 s307))))))) else F_L_law_b2150 xs L k28 l5 s307) else some (0, s307)))))
def F_L_law_b2153 (xs : Nat → Int32) (L : Nat) (k28 : Int32 → cv_St → Option (Int32 × cv_St)) (l5 : Int32) (σ : cv_St) : Option (Int32 × cv_St) :=
  cv_bv (F_X8_save σ) (fun s313 => cv_bv (F_X9_save s313) (fun s314 => F_L_law_b2188 xs L k28 l5 s314))
def F_L_law_b2164 (xs : Nat → Int32) (L : Nat) (k28 : Int32 → cv_St → Option (Int32 × cv_St)) (l5 : Int32) (σ : cv_St) : Option (Int32 × cv_St) :=
  cv_bi (F_L_restore σ) (fun v316 s315 => cv_bv (F_X9_restore s315) (fun s317 => cv_bi (F_X9_thrown s317) (fun v319 s318 => (if v319 = v316 then F_L_law_b2188 xs L k28 l5 s318 else some (0, s318)))))
def B_L_law_b28 (xs : Nat → Int32) (L : Nat) (k28 : Int32 → cv_St → Option (Int32 × cv_St)) (l5 : Int32) (σ : cv_St) : Option (Int32 × cv_St) :=
  (if ((nI L) - 3) < l5 then some (1, σ) else cv_ldS xs L l5 (fun v1 => (if (v1 &&& 63) = 0 then F_L_law_b208 xs L k28 l5 σ else (if (v1 &&& 63) = 1 then F_L_law_b264 xs L k28 l5 σ else (if (v1 &&& 63) = 2 then F_L_law_b320 xs L k28 l5 σ else (if (v1 &&& 63) = 3 then F_L_law_b333 xs L k28 l5 σ else (if (v1 &&& 63) = 4 then F_L_law_b389 xs L k28 l5 σ else (if (v1 &&& 63) = 5 then F_L_law_b457 xs L k28 l5 σ else (if (v1 &&& 63) = 6 then F_L_law_b525 xs L k28 l5 σ else (if (v1 &&& 63) = 7 then F_L_law_b593 xs L k28 l5 σ else (if (v1 &&& 63) = 8 then F_L_law_b668 xs L k28 l5 σ else (if (v1 &&& 63) = 9 then F_L_law_b731 xs L k28 l5 σ else (if (v1 &&& 63) = 10 then F_L_law_b787 xs L k28 l5 σ else (if (v1 &&& 63) = 11 then F_L_law_b843 xs L k28 l5 σ else (if (v1 &&& 63) = 12 then F_L_law_b899 xs L k28 l5 σ else (if (v1 &&& 63) = 13 then F_L_law_b955 xs L k28 l5 σ else (if (v1 &&& 63) = 14 then F_L_law_b1023 xs L k28 l5 σ else (if (v1 &&& 63) = 15 then F_L_law_b1079 xs L k28 l5 σ else (if (v1 &&& 63) = 16 then F_L_law_b1142 xs L k28 l5 σ else (if (v1 &&& 63) = 17 then F_L_law_b1198 xs L k28 l5 σ else (if (v1 &&& 63) = 18 then F_L_law_b1254 xs L k28 l5 σ else (if (v1 &&& 63) = 19 then F_L_law_b1317 xs L k28 l5 σ else (if (v1 &&& 63) = 20 then F_L_law_b1330 xs L k28 l5 σ else (if (v1 &&& 63) = 21 then F_L_law_b1398 xs L k28 l5 σ else (if (v1 &&& 63) = 22 then F_L_law_b1454 xs L k28 l5 σ else (if (v1 &&& 63) = 23 then F_L_law_b1510 xs L k28 l5 σ else (if (v1 &&& 63) = 24 then F_L_law_b1566 xs L k28 l5 σ else (if (v1 &&& 63) = 25 then F_L_law_b1622 xs L k28 l5 σ else (if (v1 &&& 63) = 26 then F_L_law_b1635 xs L k28 l5 σ else (if (v1 &&& 63) = 27 then F_L_law_b1679 xs L k28 l5 σ else (if (v1 &&& 63) = 28 then F_L_law_b1747 xs L k28 l5 σ else (if (v1 &&& 63) = 29 then F_L_law_b1803 xs L k28 l5 σ else (if (v1 &&& 63) = 30 then F_L_law_b1871 xs L k28 l5 σ else (if (v1 &&& 63) = 31 then F_L_law_b1922 xs L k28 l5 σ else (if (v1 &&& 63) = 32 then F_L_law_b1966 xs L k28 l5 σ else (if (v1 &&& 63) = 33 then F_L_law_b2022 xs L k28 l5 σ else (if (v1 &&& 63) = 34 then F_L_law_b2087 xs L k28 l5 σ else (if (v1 &&& 63) = 35 then F_L_law_b2153 xs L k28 l5 σ else (if (v1 &&& 63) = 36 then F_L_law_b2164 xs L k28 l5 σ else F_L_law_b2188 xs L k28 l5 σ)))))))))))))))))))))))))))))))))))))))
def F_L_law_b28 (xs : Nat → Int32) (L : Nat) : Nat → Int32 → cv_St → Option (Int32 × cv_St)
  | 0, _, _ => none
  | n + 1, l5, σ => B_L_law_b28 xs L (F_L_law_b28 xs L n) l5 σ
set_option maxRecDepth 20000 in
set_option maxHeartbeats 4000000 in
theorem J_L_law_b2188 {p : Program} {l : Launch} {e : Env} {s : State} {m : MethodId} {below : List Frame} {meth : Method} {c : Code} {G : cv_G} {b L : Nat} {xs : Nat → Int32} (htr : l.stackTraces = false) (hX : cv_CL (p, l, e, room_1, s, m, #[Value.ref b], below, meth, c) G b L xs) (hC : cv_C (p, l, e, room_1, s, m, #[Value.ref b], below, meth, c) G l RL cL_law 9 (some .boolean) room_1) {cb sb : Nat} (hcb : cb + 10 ≤ 603072 ∧ sb + 60 ≤ 7161962) (k28 : Int32 → cv_St → Option (Int32 × cv_St)) (hk28 : ∀ (l5 : Int32)  σ, cv_J (p, l, e, room_1, s, m, #[Value.ref b], below, meth, c) G 9 (cb + 10) (sb + 60) (cv_QL (p, l, e, room_1, s, m, #[Value.ref b], below, meth, c) b) 28 [(0, .ref b), (1, .ref (G.1 0)), (2, .ref (G.1 10)), (3, .ref (G.1 66)), (4, .ref (G.1 67)), (5, .int l5)] [] σ (k28 l5 σ)) (l5 : Int32) (σ : cv_St) : cv_J (p, l, e, room_1, s, m, #[Value.ref b], below, meth, c) G 9 (cb + 10) (sb + 60) (cv_QL (p, l, e, room_1, s, m, #[Value.ref b], below, meth, c) b) 2188 [(0, .ref b), (1, .ref (G.1 0)), (2, .ref (G.1 10)), (3, .ref (G.1 66)), (4, .ref (G.1 67)), (5, .int l5)] [] σ (F_L_law_b2188 xs L k28 l5 σ) := by
  unfold F_L_law_b2188
  refine cv_iinc (lv' := [(5, .int (l5 + Int32.ofInt 3)), (0, .ref b), (1, .ref (G.1 0)), (2, .ref (G.1 10)), (3, .ref (G.1 66)), (4, .ref (G.1 67))]) hC 5 dL_law_2188 rfl (by decide) rfl ?_
  refine cv_goto (tgt := 28) hC dL_law_2191 (by decide) ?_
  exact cv_widen (by omega) (by omega) (cv_sub [1, 2, 3, 4, 5, 0] rfl (hk28 (l5 + Int32.ofInt 3) σ))
set_option maxRecDepth 20000 in
set_option maxHeartbeats 4000000 in
theorem J_L_law_b261 {p : Program} {l : Launch} {e : Env} {s : State} {m : MethodId} {below : List Frame} {meth : Method} {c : Code} {G : cv_G} {b L : Nat} {xs : Nat → Int32} (htr : l.stackTraces = false) (hX : cv_CL (p, l, e, room_1, s, m, #[Value.ref b], below, meth, c) G b L xs) (hC : cv_C (p, l, e, room_1, s, m, #[Value.ref b], below, meth, c) G l RL cL_law 9 (some .boolean) room_1) {cb sb : Nat} (hcb : cb + 10 ≤ 603072 ∧ sb + 60 ≤ 7161962) (k28 : Int32 → cv_St → Option (Int32 × cv_St)) (hk28 : ∀ (l5 : Int32)  σ, cv_J (p, l, e, room_1, s, m, #[Value.ref b], below, meth, c) G 9 (cb + 10) (sb + 60) (cv_QL (p, l, e, room_1, s, m, #[Value.ref b], below, meth, c) b) 28 [(0, .ref b), (1, .ref (G.1 0)), (2, .ref (G.1 10)), (3, .ref (G.1 66)), (4, .ref (G.1 67)), (5, .int l5)] [] σ (k28 l5 σ)) (l5 : Int32) (σ : cv_St) : cv_J (p, l, e, room_1, s, m, #[Value.ref b], below, meth, c) G 9 (cb + 10) (sb + 60) (cv_QL (p, l, e, room_1, s, m, #[Value.ref b], below, meth, c) b) 261 [(0, .ref b), (1, .ref (G.1 0)), (2, .ref (G.1 10)), (3, .ref (G.1 66)), (4, .ref (G.1 67)), (5, .int l5)] [] σ (F_L_law_b261 xs L k28 l5 σ) := by
  unfold F_L_law_b261
  refine cv_goto (tgt := 2188) hC dL_law_261 (by decide) ?_
  exact cv_sub [0, 1, 2, 3, 4, 5] rfl (J_L_law_b2188 htr hX hC hcb k28 hk28 l5 σ)
set_option maxRecDepth 20000 in
set_option maxHeartbeats 4000000 in
theorem J_L_law_b208 {p : Program} {l : Launch} {e : Env} {s : State} {m : MethodId} {below : List Frame} {meth : Method} {c : Code} {G : cv_G} {b L : Nat} {xs : Nat → Int32} (htr : l.stackTraces = false) (hX : cv_CL (p, l, e, room_1, s, m, #[Value.ref b], below, meth, c) G b L xs) (hC : cv_C (p, l, e, room_1, s, m, #[Value.ref b], below, meth, c) G l RL cL_law 9 (some .boolean) room_1) {cb sb : Nat} (hcb : cb + 10 ≤ 603072 ∧ sb + 60 ≤ 7161962) (k28 : Int32 → cv_St → Option (Int32 × cv_St)) (hk28 : ∀ (l5 : Int32)  σ, cv_J (p, l, e, room_1, s, m, #[Value.ref b], below, meth, c) G 9 (cb + 10) (sb + 60) (cv_QL (p, l, e, room_1, s, m, #[Value.ref b], below, meth, c) b) 28 [(0, .ref b), (1, .ref (G.1 0)), (2, .ref (G.1 10)), (3, .ref (G.1 66)), (4, .ref (G.1 67)), (5, .int l5)] [] σ (k28 l5 σ)) (l5 : Int32) (σ : cv_St) : cv_J (p, l, e, room_1, s, m, #[Value.ref b], below, meth, c) G 9 (cb + 0) (sb + 0) (cv_QL (p, l, e, room_1, s, m, #[Value.ref b], below, meth, c) b) 208 [(0, .ref b), (1, .ref (G.1 0)), (2, .ref (G.1 10)), (3, .ref (G.1 66)), (4, .ref (G.1 67)), (5, .int l5)] [] σ (F_L_law_b208 xs L k28 l5 σ) := by
  unfold F_L_law_b208
  refine cv_aload_n hC 1 dL_law_208 rfl rfl ?_
  refine cv_aload_n hC 0 dL_law_209 rfl rfl ?_
  refine cv_iload hC 5 dL_law_210 rfl ?_
  refine cv_iconst (v := 1) hC dL_law_212 cb_iconst_1 ?_
  refine cv_iadd hC dL_law_213 ?_
  refine cv_sld hX hC dL_law_214 (fun v2 => ?_)
  refine cv_aload_n hC 3 dL_law_215 rfl rfl ?_
  refine cv_callLi hX hC [.ref (G.1 0), .int v2, .ref (G.1 66)] [] (M_L_appendCharacter htr G v2 σ) ln_L_133 sh_L_appendCharacter rfl rfl (Nat.le_of_ble_eq_true rfl) ⟨Nat.le_of_ble_eq_true rfl, Nat.le_of_ble_eq_true rfl⟩ ⟨cv_rmc (by omega), cv_rms (by omega)⟩ dL_law_216 (fun v4 s3 => ?_)
  refine cv_istore (lv' := [(6, .int v4), (0, .ref b), (1, .ref (G.1 0)), (2, .ref (G.1 10)), (3, .ref (G.1 66)), (4, .ref (G.1 67)), (5, .int l5)]) hC dL_law_219 (by decide) rfl ?_
  refine cv_aload_n hC 3 dL_law_221 rfl rfl ?_
  refine cv_aload_n hC 1 dL_law_222 rfl rfl ?_
  refine cv_iload hC 6 dL_law_223 rfl ?_
  refine cv_iconst (v := 1) hC dL_law_225 cb_iconst_1 ?_
  refine cv_iadd hC dL_law_226 ?_
  refine cv_sld hX hC dL_law_227 (fun v5 => ?_)
  refine cv_callVi (ob := 10) hC [.int v5] [] (M_X9_appendCharacter l G v5 s3) ln_L_138 vm_X9_appendCharacter (ob_10 G) rfl rfl (Nat.le_of_ble_eq_true rfl) ⟨Nat.le_of_ble_eq_true rfl, Nat.le_of_ble_eq_true rfl⟩ ⟨cv_rmc (by omega), cv_rms (by omega)⟩ dL_law_228 (fun v7 s6 => ?_)
  refine cv_istore (lv' := [(7, .int v7), (6, .int v4), (0, .ref b), (1, .ref (G.1 0)), (2, .ref (G.1 10)), (3, .ref (G.1 66)), (4, .ref (G.1 67)), (5, .int l5)]) hC dL_law_231 (by decide) rfl ?_
  refine cv_aload_n hC 4 dL_law_233 rfl rfl ?_
  refine cv_callVi (ob := 10) hC [] [] (M_X9_thrown l G s6) ln_L_139 vm_X9_thrown (ob_10 G) rfl rfl (Nat.le_of_ble_eq_true rfl) ⟨Nat.le_of_ble_eq_true rfl, Nat.le_of_ble_eq_true rfl⟩ ⟨cv_rmc (by omega), cv_rms (by omega)⟩ dL_law_234 (fun v9 s8 => ?_)
  refine cv_iload hC 1 dL_law_237 rfl ?_
  refine cv_icmp_eq (tgt := 244) hC dL_law_239 (by decide) ?_ ?_
  · refine cv_iload hC 1 dL_law_244 rfl ?_
    refine cv_if_ne (tgt := 261) hC dL_law_246 (by decide) ?_ ?_
    · exact cv_widen (by omega) (by omega) (cv_sub [2, 3, 4, 5, 6, 7] rfl (J_L_law_b261 htr hX hC hcb k28 hk28 l5 s8))
    · refine cv_aload_n hC 5 dL_law_249 rfl rfl ?_
      refine cv_iconst (v := 0) hC dL_law_250 cb_iconst_0 ?_
      refine cv_lald hC dL_law_251 (fun v10 => ?_)
      refine cv_iload hC 0 dL_law_252 rfl ?_
      refine cv_i2l hC dL_law_254 ?_
      refine cv_lcmp hC dL_law_255 ?_
      refine cv_if_eq (tgt := 261) hC dL_law_256 (by decide) ?_ ?_
      · exact cv_widen (by omega) (by omega) (cv_sub [2, 3, 4, 5, 6, 7] rfl (J_L_law_b261 htr hX hC hcb k28 hk28 l5 s8))
      · refine cv_iconst (v := 0) hC dL_law_259 cb_iconst_0 ?_
        exact cv_lret0 (by decide)
  · refine cv_iconst (v := 0) hC dL_law_242 cb_iconst_0 ?_
    exact cv_lret0 (by decide)
set_option maxRecDepth 20000 in
set_option maxHeartbeats 4000000 in
theorem J_L_law_b317 {p : Program} {l : Launch} {e : Env} {s : State} {m : MethodId} {below : List Frame} {meth : Method} {c : Code} {G : cv_G} {b L : Nat} {xs : Nat → Int32} (htr : l.stackTraces = false) (hX : cv_CL (p, l, e, room_1, s, m, #[Value.ref b], below, meth, c) G b L xs) (hC : cv_C (p, l, e, room_1, s, m, #[Value.ref b], below, meth, c) G l RL cL_law 9 (some .boolean) room_1) {cb sb : Nat} (hcb : cb + 10 ≤ 603072 ∧ sb + 60 ≤ 7161962) (k28 : Int32 → cv_St → Option (Int32 × cv_St)) (hk28 : ∀ (l5 : Int32)  σ, cv_J (p, l, e, room_1, s, m, #[Value.ref b], below, meth, c) G 9 (cb + 10) (sb + 60) (cv_QL (p, l, e, room_1, s, m, #[Value.ref b], below, meth, c) b) 28 [(0, .ref b), (1, .ref (G.1 0)), (2, .ref (G.1 10)), (3, .ref (G.1 66)), (4, .ref (G.1 67)), (5, .int l5)] [] σ (k28 l5 σ)) (l5 : Int32) (σ : cv_St) : cv_J (p, l, e, room_1, s, m, #[Value.ref b], below, meth, c) G 9 (cb + 10) (sb + 60) (cv_QL (p, l, e, room_1, s, m, #[Value.ref b], below, meth, c) b) 317 [(0, .ref b), (1, .ref (G.1 0)), (2, .ref (G.1 10)), (3, .ref (G.1 66)), (4, .ref (G.1 67)), (5, .int l5)] [] σ (F_L_law_b317 xs L k28 l5 σ) := by
  unfold F_L_law_b317
  refine cv_goto (tgt := 2188) hC dL_law_317 (by decide) ?_
  exact cv_sub [0, 1, 2, 3, 4, 5] rfl (J_L_law_b2188 htr hX hC hcb k28 hk28 l5 σ)
set_option maxRecDepth 20000 in
set_option maxHeartbeats 4000000 in
theorem J_L_law_b264 {p : Program} {l : Launch} {e : Env} {s : State} {m : MethodId} {below : List Frame} {meth : Method} {c : Code} {G : cv_G} {b L : Nat} {xs : Nat → Int32} (htr : l.stackTraces = false) (hX : cv_CL (p, l, e, room_1, s, m, #[Value.ref b], below, meth, c) G b L xs) (hC : cv_C (p, l, e, room_1, s, m, #[Value.ref b], below, meth, c) G l RL cL_law 9 (some .boolean) room_1) {cb sb : Nat} (hcb : cb + 10 ≤ 603072 ∧ sb + 60 ≤ 7161962) (k28 : Int32 → cv_St → Option (Int32 × cv_St)) (hk28 : ∀ (l5 : Int32)  σ, cv_J (p, l, e, room_1, s, m, #[Value.ref b], below, meth, c) G 9 (cb + 10) (sb + 60) (cv_QL (p, l, e, room_1, s, m, #[Value.ref b], below, meth, c) b) 28 [(0, .ref b), (1, .ref (G.1 0)), (2, .ref (G.1 10)), (3, .ref (G.1 66)), (4, .ref (G.1 67)), (5, .int l5)] [] σ (k28 l5 σ)) (l5 : Int32) (σ : cv_St) : cv_J (p, l, e, room_1, s, m, #[Value.ref b], below, meth, c) G 9 (cb + 0) (sb + 0) (cv_QL (p, l, e, room_1, s, m, #[Value.ref b], below, meth, c) b) 264 [(0, .ref b), (1, .ref (G.1 0)), (2, .ref (G.1 10)), (3, .ref (G.1 66)), (4, .ref (G.1 67)), (5, .int l5)] [] σ (F_L_law_b264 xs L k28 l5 σ) := by
  unfold F_L_law_b264
  refine cv_aload_n hC 1 dL_law_264 rfl rfl ?_
  refine cv_aload_n hC 0 dL_law_265 rfl rfl ?_
  refine cv_iload hC 5 dL_law_266 rfl ?_
  refine cv_iconst (v := 1) hC dL_law_268 cb_iconst_1 ?_
  refine cv_iadd hC dL_law_269 ?_
  refine cv_sld hX hC dL_law_270 (fun v11 => ?_)
  refine cv_aload_n hC 3 dL_law_271 rfl rfl ?_
  refine cv_callLi hX hC [.ref (G.1 0), .int v11, .ref (G.1 66)] [] (M_L_setBody htr G v11 σ) ln_L_142 sh_L_setBody rfl rfl (Nat.le_of_ble_eq_true rfl) ⟨Nat.le_of_ble_eq_true rfl, Nat.le_of_ble_eq_true rfl⟩ ⟨cv_rmc (by omega), cv_rms (by omega)⟩ dL_law_272 (fun v13 s12 => ?_)
  refine cv_istore (lv' := [(6, .int v13), (0, .ref b), (1, .ref (G.1 0)), (2, .ref (G.1 10)), (3, .ref (G.1 66)), (4, .ref (G.1 67)), (5, .int l5)]) hC dL_law_275 (by decide) rfl ?_
  refine cv_aload_n hC 3 dL_law_277 rfl rfl ?_
  refine cv_aload_n hC 1 dL_law_278 rfl rfl ?_
  refine cv_iload hC 6 dL_law_279 rfl ?_
  refine cv_iconst (v := 1) hC dL_law_281 cb_iconst_1 ?_
  refine cv_iadd hC dL_law_282 ?_
  refine cv_sld hX hC dL_law_283 (fun v14 => ?_)
  refine cv_callVi (ob := 10) hC [.int v14] [] (M_X9_setBody l G v14 s12) ln_L_144 vm_X9_setBody (ob_10 G) rfl rfl (Nat.le_of_ble_eq_true rfl) ⟨Nat.le_of_ble_eq_true rfl, Nat.le_of_ble_eq_true rfl⟩ ⟨cv_rmc (by omega), cv_rms (by omega)⟩ dL_law_284 (fun v16 s15 => ?_)
  refine cv_istore (lv' := [(7, .int v16), (6, .int v13), (0, .ref b), (1, .ref (G.1 0)), (2, .ref (G.1 10)), (3, .ref (G.1 66)), (4, .ref (G.1 67)), (5, .int l5)]) hC dL_law_287 (by decide) rfl ?_
  refine cv_aload_n hC 4 dL_law_289 rfl rfl ?_
  refine cv_callVi (ob := 10) hC [] [] (M_X9_thrown l G s15) ln_L_139 vm_X9_thrown (ob_10 G) rfl rfl (Nat.le_of_ble_eq_true rfl) ⟨Nat.le_of_ble_eq_true rfl, Nat.le_of_ble_eq_true rfl⟩ ⟨cv_rmc (by omega), cv_rms (by omega)⟩ dL_law_290 (fun v18 s17 => ?_)
  refine cv_iload hC 1 dL_law_293 rfl ?_
  refine cv_icmp_eq (tgt := 300) hC dL_law_295 (by decide) ?_ ?_
  · refine cv_iload hC 1 dL_law_300 rfl ?_
    refine cv_if_ne (tgt := 317) hC dL_law_302 (by decide) ?_ ?_
    · exact cv_widen (by omega) (by omega) (cv_sub [2, 3, 4, 5, 6, 7] rfl (J_L_law_b317 htr hX hC hcb k28 hk28 l5 s17))
    · refine cv_aload_n hC 5 dL_law_305 rfl rfl ?_
      refine cv_iconst (v := 0) hC dL_law_306 cb_iconst_0 ?_
      refine cv_lald hC dL_law_307 (fun v19 => ?_)
      refine cv_iload hC 0 dL_law_308 rfl ?_
      refine cv_i2l hC dL_law_310 ?_
      refine cv_lcmp hC dL_law_311 ?_
      refine cv_if_eq (tgt := 317) hC dL_law_312 (by decide) ?_ ?_
      · exact cv_widen (by omega) (by omega) (cv_sub [2, 3, 4, 5, 6, 7] rfl (J_L_law_b317 htr hX hC hcb k28 hk28 l5 s17))
      · refine cv_iconst (v := 0) hC dL_law_315 cb_iconst_0 ?_
        exact cv_lret0 (by decide)
  · refine cv_iconst (v := 0) hC dL_law_298 cb_iconst_0 ?_
    exact cv_lret0 (by decide)
set_option maxRecDepth 20000 in
set_option maxHeartbeats 4000000 in
theorem J_L_law_b320 {p : Program} {l : Launch} {e : Env} {s : State} {m : MethodId} {below : List Frame} {meth : Method} {c : Code} {G : cv_G} {b L : Nat} {xs : Nat → Int32} (htr : l.stackTraces = false) (hX : cv_CL (p, l, e, room_1, s, m, #[Value.ref b], below, meth, c) G b L xs) (hC : cv_C (p, l, e, room_1, s, m, #[Value.ref b], below, meth, c) G l RL cL_law 9 (some .boolean) room_1) {cb sb : Nat} (hcb : cb + 10 ≤ 603072 ∧ sb + 60 ≤ 7161962) (k28 : Int32 → cv_St → Option (Int32 × cv_St)) (hk28 : ∀ (l5 : Int32)  σ, cv_J (p, l, e, room_1, s, m, #[Value.ref b], below, meth, c) G 9 (cb + 10) (sb + 60) (cv_QL (p, l, e, room_1, s, m, #[Value.ref b], below, meth, c) b) 28 [(0, .ref b), (1, .ref (G.1 0)), (2, .ref (G.1 10)), (3, .ref (G.1 66)), (4, .ref (G.1 67)), (5, .int l5)] [] σ (k28 l5 σ)) (l5 : Int32) (σ : cv_St) : cv_J (p, l, e, room_1, s, m, #[Value.ref b], below, meth, c) G 9 (cb + 0) (sb + 0) (cv_QL (p, l, e, room_1, s, m, #[Value.ref b], below, meth, c) b) 320 [(0, .ref b), (1, .ref (G.1 0)), (2, .ref (G.1 10)), (3, .ref (G.1 66)), (4, .ref (G.1 67)), (5, .int l5)] [] σ (F_L_law_b320 xs L k28 l5 σ) := by
  unfold F_L_law_b320
  refine cv_aload_n hC 1 dL_law_320 rfl rfl ?_
  refine cv_callVi (ob := 0) hC [] [] (M_X8_faultPosition l G σ) ln_L_145 vm_X8_faultPosition (ob_0 G) rfl rfl (Nat.le_of_ble_eq_true rfl) ⟨Nat.le_of_ble_eq_true rfl, Nat.le_of_ble_eq_true rfl⟩ ⟨cv_rmc (by omega), cv_rms (by omega)⟩ dL_law_321 (fun v21 s20 => ?_)
  refine cv_aload_n hC 2 dL_law_324 rfl rfl ?_
  refine cv_callVi (ob := 10) hC [] [.int v21] (M_X9_faultPosition l G s20) ln_L_148 vm_X9_faultPosition (ob_10 G) rfl rfl (Nat.le_of_ble_eq_true rfl) ⟨Nat.le_of_ble_eq_true rfl, Nat.le_of_ble_eq_true rfl⟩ ⟨cv_rmc (by omega), cv_rms (by omega)⟩ dL_law_325 (fun v23 s22 => ?_)
  refine cv_icmp_eq (tgt := 2188) hC dL_law_328 (by decide) ?_ ?_
  · exact cv_widen (by omega) (by omega) (cv_sub [0, 1, 2, 3, 4, 5] rfl (J_L_law_b2188 htr hX hC hcb k28 hk28 l5 s22))
  · refine cv_iconst (v := 0) hC dL_law_331 cb_iconst_0 ?_
    exact cv_lret0 (by decide)
set_option maxRecDepth 20000 in
set_option maxHeartbeats 4000000 in
theorem J_L_law_b386 {p : Program} {l : Launch} {e : Env} {s : State} {m : MethodId} {below : List Frame} {meth : Method} {c : Code} {G : cv_G} {b L : Nat} {xs : Nat → Int32} (htr : l.stackTraces = false) (hX : cv_CL (p, l, e, room_1, s, m, #[Value.ref b], below, meth, c) G b L xs) (hC : cv_C (p, l, e, room_1, s, m, #[Value.ref b], below, meth, c) G l RL cL_law 9 (some .boolean) room_1) {cb sb : Nat} (hcb : cb + 10 ≤ 603072 ∧ sb + 60 ≤ 7161962) (k28 : Int32 → cv_St → Option (Int32 × cv_St)) (hk28 : ∀ (l5 : Int32)  σ, cv_J (p, l, e, room_1, s, m, #[Value.ref b], below, meth, c) G 9 (cb + 10) (sb + 60) (cv_QL (p, l, e, room_1, s, m, #[Value.ref b], below, meth, c) b) 28 [(0, .ref b), (1, .ref (G.1 0)), (2, .ref (G.1 10)), (3, .ref (G.1 66)), (4, .ref (G.1 67)), (5, .int l5)] [] σ (k28 l5 σ)) (l5 : Int32) (σ : cv_St) : cv_J (p, l, e, room_1, s, m, #[Value.ref b], below, meth, c) G 9 (cb + 10) (sb + 60) (cv_QL (p, l, e, room_1, s, m, #[Value.ref b], below, meth, c) b) 386 [(0, .ref b), (1, .ref (G.1 0)), (2, .ref (G.1 10)), (3, .ref (G.1 66)), (4, .ref (G.1 67)), (5, .int l5)] [] σ (F_L_law_b386 xs L k28 l5 σ) := by
  unfold F_L_law_b386
  refine cv_goto (tgt := 2188) hC dL_law_386 (by decide) ?_
  exact cv_sub [0, 1, 2, 3, 4, 5] rfl (J_L_law_b2188 htr hX hC hcb k28 hk28 l5 σ)
set_option maxRecDepth 20000 in
set_option maxHeartbeats 4000000 in
theorem J_L_law_b333 {p : Program} {l : Launch} {e : Env} {s : State} {m : MethodId} {below : List Frame} {meth : Method} {c : Code} {G : cv_G} {b L : Nat} {xs : Nat → Int32} (htr : l.stackTraces = false) (hX : cv_CL (p, l, e, room_1, s, m, #[Value.ref b], below, meth, c) G b L xs) (hC : cv_C (p, l, e, room_1, s, m, #[Value.ref b], below, meth, c) G l RL cL_law 9 (some .boolean) room_1) {cb sb : Nat} (hcb : cb + 10 ≤ 603072 ∧ sb + 60 ≤ 7161962) (k28 : Int32 → cv_St → Option (Int32 × cv_St)) (hk28 : ∀ (l5 : Int32)  σ, cv_J (p, l, e, room_1, s, m, #[Value.ref b], below, meth, c) G 9 (cb + 10) (sb + 60) (cv_QL (p, l, e, room_1, s, m, #[Value.ref b], below, meth, c) b) 28 [(0, .ref b), (1, .ref (G.1 0)), (2, .ref (G.1 10)), (3, .ref (G.1 66)), (4, .ref (G.1 67)), (5, .int l5)] [] σ (k28 l5 σ)) (l5 : Int32) (σ : cv_St) : cv_J (p, l, e, room_1, s, m, #[Value.ref b], below, meth, c) G 9 (cb + 0) (sb + 0) (cv_QL (p, l, e, room_1, s, m, #[Value.ref b], below, meth, c) b) 333 [(0, .ref b), (1, .ref (G.1 0)), (2, .ref (G.1 10)), (3, .ref (G.1 66)), (4, .ref (G.1 67)), (5, .int l5)] [] σ (F_L_law_b333 xs L k28 l5 σ) := by
  unfold F_L_law_b333
  refine cv_aload_n hC 1 dL_law_333 rfl rfl ?_
  refine cv_aload_n hC 0 dL_law_334 rfl rfl ?_
  refine cv_iload hC 5 dL_law_335 rfl ?_
  refine cv_iconst (v := 1) hC dL_law_337 cb_iconst_1 ?_
  refine cv_iadd hC dL_law_338 ?_
  refine cv_sld hX hC dL_law_339 (fun v24 => ?_)
  refine cv_aload_n hC 3 dL_law_340 rfl rfl ?_
  refine cv_callLi hX hC [.ref (G.1 0), .int v24, .ref (G.1 66)] [] (M_L_length htr G v24 σ) ln_L_149 sh_L_length rfl rfl (Nat.le_of_ble_eq_true rfl) ⟨Nat.le_of_ble_eq_true rfl, Nat.le_of_ble_eq_true rfl⟩ ⟨cv_rmc (by omega), cv_rms (by omega)⟩ dL_law_341 (fun v26 s25 => ?_)
  refine cv_istore (lv' := [(6, .int v26), (0, .ref b), (1, .ref (G.1 0)), (2, .ref (G.1 10)), (3, .ref (G.1 66)), (4, .ref (G.1 67)), (5, .int l5)]) hC dL_law_344 (by decide) rfl ?_
  refine cv_aload_n hC 3 dL_law_346 rfl rfl ?_
  refine cv_aload_n hC 1 dL_law_347 rfl rfl ?_
  refine cv_iload hC 6 dL_law_348 rfl ?_
  refine cv_iconst (v := 1) hC dL_law_350 cb_iconst_1 ?_
  refine cv_iadd hC dL_law_351 ?_
  refine cv_sld hX hC dL_law_352 (fun v27 => ?_)
  refine cv_callVi (ob := 10) hC [.int v27] [] (M_X9_length l G v27 s25) ln_L_151 vm_X9_length (ob_10 G) rfl rfl (Nat.le_of_ble_eq_true rfl) ⟨Nat.le_of_ble_eq_true rfl, Nat.le_of_ble_eq_true rfl⟩ ⟨cv_rmc (by omega), cv_rms (by omega)⟩ dL_law_353 (fun v29 s28 => ?_)
  refine cv_istore (lv' := [(7, .int v29), (6, .int v26), (0, .ref b), (1, .ref (G.1 0)), (2, .ref (G.1 10)), (3, .ref (G.1 66)), (4, .ref (G.1 67)), (5, .int l5)]) hC dL_law_356 (by decide) rfl ?_
  refine cv_aload_n hC 4 dL_law_358 rfl rfl ?_
  refine cv_callVi (ob := 10) hC [] [] (M_X9_thrown l G s28) ln_L_139 vm_X9_thrown (ob_10 G) rfl rfl (Nat.le_of_ble_eq_true rfl) ⟨Nat.le_of_ble_eq_true rfl, Nat.le_of_ble_eq_true rfl⟩ ⟨cv_rmc (by omega), cv_rms (by omega)⟩ dL_law_359 (fun v31 s30 => ?_)
  refine cv_iload hC 1 dL_law_362 rfl ?_
  refine cv_icmp_eq (tgt := 369) hC dL_law_364 (by decide) ?_ ?_
  · refine cv_iload hC 1 dL_law_369 rfl ?_
    refine cv_if_ne (tgt := 386) hC dL_law_371 (by decide) ?_ ?_
    · exact cv_widen (by omega) (by omega) (cv_sub [2, 3, 4, 5, 6, 7] rfl (J_L_law_b386 htr hX hC hcb k28 hk28 l5 s30))
    · refine cv_aload_n hC 5 dL_law_374 rfl rfl ?_
      refine cv_iconst (v := 0) hC dL_law_375 cb_iconst_0 ?_
      refine cv_lald hC dL_law_376 (fun v32 => ?_)
      refine cv_iload hC 0 dL_law_377 rfl ?_
      refine cv_i2l hC dL_law_379 ?_
      refine cv_lcmp hC dL_law_380 ?_
      refine cv_if_eq (tgt := 386) hC dL_law_381 (by decide) ?_ ?_
      · exact cv_widen (by omega) (by omega) (cv_sub [2, 3, 4, 5, 6, 7] rfl (J_L_law_b386 htr hX hC hcb k28 hk28 l5 s30))
      · refine cv_iconst (v := 0) hC dL_law_384 cb_iconst_0 ?_
        exact cv_lret0 (by decide)
  · refine cv_iconst (v := 0) hC dL_law_367 cb_iconst_0 ?_
    exact cv_lret0 (by decide)
set_option maxRecDepth 20000 in
set_option maxHeartbeats 4000000 in
theorem J_L_law_b454 {p : Program} {l : Launch} {e : Env} {s : State} {m : MethodId} {below : List Frame} {meth : Method} {c : Code} {G : cv_G} {b L : Nat} {xs : Nat → Int32} (htr : l.stackTraces = false) (hX : cv_CL (p, l, e, room_1, s, m, #[Value.ref b], below, meth, c) G b L xs) (hC : cv_C (p, l, e, room_1, s, m, #[Value.ref b], below, meth, c) G l RL cL_law 9 (some .boolean) room_1) {cb sb : Nat} (hcb : cb + 10 ≤ 603072 ∧ sb + 60 ≤ 7161962) (k28 : Int32 → cv_St → Option (Int32 × cv_St)) (hk28 : ∀ (l5 : Int32)  σ, cv_J (p, l, e, room_1, s, m, #[Value.ref b], below, meth, c) G 9 (cb + 10) (sb + 60) (cv_QL (p, l, e, room_1, s, m, #[Value.ref b], below, meth, c) b) 28 [(0, .ref b), (1, .ref (G.1 0)), (2, .ref (G.1 10)), (3, .ref (G.1 66)), (4, .ref (G.1 67)), (5, .int l5)] [] σ (k28 l5 σ)) (l5 : Int32) (σ : cv_St) : cv_J (p, l, e, room_1, s, m, #[Value.ref b], below, meth, c) G 9 (cb + 10) (sb + 60) (cv_QL (p, l, e, room_1, s, m, #[Value.ref b], below, meth, c) b) 454 [(0, .ref b), (1, .ref (G.1 0)), (2, .ref (G.1 10)), (3, .ref (G.1 66)), (4, .ref (G.1 67)), (5, .int l5)] [] σ (F_L_law_b454 xs L k28 l5 σ) := by
  unfold F_L_law_b454
  refine cv_goto (tgt := 2188) hC dL_law_454 (by decide) ?_
  exact cv_sub [0, 1, 2, 3, 4, 5] rfl (J_L_law_b2188 htr hX hC hcb k28 hk28 l5 σ)
set_option maxRecDepth 20000 in
set_option maxHeartbeats 4000000 in
theorem J_L_law_b389 {p : Program} {l : Launch} {e : Env} {s : State} {m : MethodId} {below : List Frame} {meth : Method} {c : Code} {G : cv_G} {b L : Nat} {xs : Nat → Int32} (htr : l.stackTraces = false) (hX : cv_CL (p, l, e, room_1, s, m, #[Value.ref b], below, meth, c) G b L xs) (hC : cv_C (p, l, e, room_1, s, m, #[Value.ref b], below, meth, c) G l RL cL_law 9 (some .boolean) room_1) {cb sb : Nat} (hcb : cb + 10 ≤ 603072 ∧ sb + 60 ≤ 7161962) (k28 : Int32 → cv_St → Option (Int32 × cv_St)) (hk28 : ∀ (l5 : Int32)  σ, cv_J (p, l, e, room_1, s, m, #[Value.ref b], below, meth, c) G 9 (cb + 10) (sb + 60) (cv_QL (p, l, e, room_1, s, m, #[Value.ref b], below, meth, c) b) 28 [(0, .ref b), (1, .ref (G.1 0)), (2, .ref (G.1 10)), (3, .ref (G.1 66)), (4, .ref (G.1 67)), (5, .int l5)] [] σ (k28 l5 σ)) (l5 : Int32) (σ : cv_St) : cv_J (p, l, e, room_1, s, m, #[Value.ref b], below, meth, c) G 9 (cb + 0) (sb + 0) (cv_QL (p, l, e, room_1, s, m, #[Value.ref b], below, meth, c) b) 389 [(0, .ref b), (1, .ref (G.1 0)), (2, .ref (G.1 10)), (3, .ref (G.1 66)), (4, .ref (G.1 67)), (5, .int l5)] [] σ (F_L_law_b389 xs L k28 l5 σ) := by
  unfold F_L_law_b389
  refine cv_aload_n hC 1 dL_law_389 rfl rfl ?_
  refine cv_aload_n hC 0 dL_law_390 rfl rfl ?_
  refine cv_iload hC 5 dL_law_391 rfl ?_
  refine cv_iconst (v := 1) hC dL_law_393 cb_iconst_1 ?_
  refine cv_iadd hC dL_law_394 ?_
  refine cv_sld hX hC dL_law_395 (fun v33 => ?_)
  refine cv_aload_n hC 0 dL_law_396 rfl rfl ?_
  refine cv_iload hC 5 dL_law_397 rfl ?_
  refine cv_iconst (v := 2) hC dL_law_399 cb_iconst_2 ?_
  refine cv_iadd hC dL_law_400 ?_
  refine cv_sld hX hC dL_law_401 (fun v34 => ?_)
  refine cv_aload_n hC 3 dL_law_402 rfl rfl ?_
  refine cv_callLi hX hC [.ref (G.1 0), .int v33, .int v34, .ref (G.1 66)] [] (M_L_instruction htr G v33 v34 σ) ln_L_152 sh_L_instruction rfl rfl (Nat.le_of_ble_eq_true rfl) ⟨Nat.le_of_ble_eq_true rfl, Nat.le_of_ble_eq_true rfl⟩ ⟨cv_rmc (by omega), cv_rms (by omega)⟩ dL_law_403 (fun v36 s35 => ?_)
  refine cv_istore (lv' := [(6, .int v36), (0, .ref b), (1, .ref (G.1 0)), (2, .ref (G.1 10)), (3, .ref (G.1 66)), (4, .ref (G.1 67)), (5, .int l5)]) hC dL_law_406 (by decide) rfl ?_
  refine cv_aload_n hC 3 dL_law_408 rfl rfl ?_
  refine cv_aload_n hC 1 dL_law_409 rfl rfl ?_
  refine cv_iload hC 6 dL_law_410 rfl ?_
  refine cv_iconst (v := 1) hC dL_law_412 cb_iconst_1 ?_
  refine cv_iadd hC dL_law_413 ?_
  refine cv_sld hX hC dL_law_414 (fun v37 => ?_)
  refine cv_aload_n hC 1 dL_law_415 rfl rfl ?_
  refine cv_iload hC 6 dL_law_416 rfl ?_
  refine cv_iconst (v := 2) hC dL_law_418 cb_iconst_2 ?_
  refine cv_iadd hC dL_law_419 ?_
  refine cv_sld hX hC dL_law_420 (fun v38 => ?_)
  refine cv_callVi (ob := 10) hC [.int v37, .int v38] [] (M_X9_instruction l G v37 v38 s35) ln_L_155 vm_X9_instruction (ob_10 G) rfl rfl (Nat.le_of_ble_eq_true rfl) ⟨Nat.le_of_ble_eq_true rfl, Nat.le_of_ble_eq_true rfl⟩ ⟨cv_rmc (by omega), cv_rms (by omega)⟩ dL_law_421 (fun v40 s39 => ?_)
  refine cv_istore (lv' := [(7, .int v40), (6, .int v36), (0, .ref b), (1, .ref (G.1 0)), (2, .ref (G.1 10)), (3, .ref (G.1 66)), (4, .ref (G.1 67)), (5, .int l5)]) hC dL_law_424 (by decide) rfl ?_
  refine cv_aload_n hC 4 dL_law_426 rfl rfl ?_
  refine cv_callVi (ob := 10) hC [] [] (M_X9_thrown l G s39) ln_L_139 vm_X9_thrown (ob_10 G) rfl rfl (Nat.le_of_ble_eq_true rfl) ⟨Nat.le_of_ble_eq_true rfl, Nat.le_of_ble_eq_true rfl⟩ ⟨cv_rmc (by omega), cv_rms (by omega)⟩ dL_law_427 (fun v42 s41 => ?_)
  refine cv_iload hC 1 dL_law_430 rfl ?_
  refine cv_icmp_eq (tgt := 437) hC dL_law_432 (by decide) ?_ ?_
  · refine cv_iload hC 1 dL_law_437 rfl ?_
    refine cv_if_ne (tgt := 454) hC dL_law_439 (by decide) ?_ ?_
    · exact cv_widen (by omega) (by omega) (cv_sub [2, 3, 4, 5, 6, 7] rfl (J_L_law_b454 htr hX hC hcb k28 hk28 l5 s41))
    · refine cv_aload_n hC 5 dL_law_442 rfl rfl ?_
      refine cv_iconst (v := 0) hC dL_law_443 cb_iconst_0 ?_
      refine cv_lald hC dL_law_444 (fun v43 => ?_)
      refine cv_iload hC 0 dL_law_445 rfl ?_
      refine cv_i2l hC dL_law_447 ?_
      refine cv_lcmp hC dL_law_448 ?_
      refine cv_if_eq (tgt := 454) hC dL_law_449 (by decide) ?_ ?_
      · exact cv_widen (by omega) (by omega) (cv_sub [2, 3, 4, 5, 6, 7] rfl (J_L_law_b454 htr hX hC hcb k28 hk28 l5 s41))
      · refine cv_iconst (v := 0) hC dL_law_452 cb_iconst_0 ?_
        exact cv_lret0 (by decide)
  · refine cv_iconst (v := 0) hC dL_law_435 cb_iconst_0 ?_
    exact cv_lret0 (by decide)
set_option maxRecDepth 20000 in
set_option maxHeartbeats 4000000 in
theorem J_L_law_b522 {p : Program} {l : Launch} {e : Env} {s : State} {m : MethodId} {below : List Frame} {meth : Method} {c : Code} {G : cv_G} {b L : Nat} {xs : Nat → Int32} (htr : l.stackTraces = false) (hX : cv_CL (p, l, e, room_1, s, m, #[Value.ref b], below, meth, c) G b L xs) (hC : cv_C (p, l, e, room_1, s, m, #[Value.ref b], below, meth, c) G l RL cL_law 9 (some .boolean) room_1) {cb sb : Nat} (hcb : cb + 10 ≤ 603072 ∧ sb + 60 ≤ 7161962) (k28 : Int32 → cv_St → Option (Int32 × cv_St)) (hk28 : ∀ (l5 : Int32)  σ, cv_J (p, l, e, room_1, s, m, #[Value.ref b], below, meth, c) G 9 (cb + 10) (sb + 60) (cv_QL (p, l, e, room_1, s, m, #[Value.ref b], below, meth, c) b) 28 [(0, .ref b), (1, .ref (G.1 0)), (2, .ref (G.1 10)), (3, .ref (G.1 66)), (4, .ref (G.1 67)), (5, .int l5)] [] σ (k28 l5 σ)) (l5 : Int32) (σ : cv_St) : cv_J (p, l, e, room_1, s, m, #[Value.ref b], below, meth, c) G 9 (cb + 10) (sb + 60) (cv_QL (p, l, e, room_1, s, m, #[Value.ref b], below, meth, c) b) 522 [(0, .ref b), (1, .ref (G.1 0)), (2, .ref (G.1 10)), (3, .ref (G.1 66)), (4, .ref (G.1 67)), (5, .int l5)] [] σ (F_L_law_b522 xs L k28 l5 σ) := by
  unfold F_L_law_b522
  refine cv_goto (tgt := 2188) hC dL_law_522 (by decide) ?_
  exact cv_sub [0, 1, 2, 3, 4, 5] rfl (J_L_law_b2188 htr hX hC hcb k28 hk28 l5 σ)
set_option maxRecDepth 20000 in
set_option maxHeartbeats 4000000 in
theorem J_L_law_b457 {p : Program} {l : Launch} {e : Env} {s : State} {m : MethodId} {below : List Frame} {meth : Method} {c : Code} {G : cv_G} {b L : Nat} {xs : Nat → Int32} (htr : l.stackTraces = false) (hX : cv_CL (p, l, e, room_1, s, m, #[Value.ref b], below, meth, c) G b L xs) (hC : cv_C (p, l, e, room_1, s, m, #[Value.ref b], below, meth, c) G l RL cL_law 9 (some .boolean) room_1) {cb sb : Nat} (hcb : cb + 10 ≤ 603072 ∧ sb + 60 ≤ 7161962) (k28 : Int32 → cv_St → Option (Int32 × cv_St)) (hk28 : ∀ (l5 : Int32)  σ, cv_J (p, l, e, room_1, s, m, #[Value.ref b], below, meth, c) G 9 (cb + 10) (sb + 60) (cv_QL (p, l, e, room_1, s, m, #[Value.ref b], below, meth, c) b) 28 [(0, .ref b), (1, .ref (G.1 0)), (2, .ref (G.1 10)), (3, .ref (G.1 66)), (4, .ref (G.1 67)), (5, .int l5)] [] σ (k28 l5 σ)) (l5 : Int32) (σ : cv_St) : cv_J (p, l, e, room_1, s, m, #[Value.ref b], below, meth, c) G 9 (cb + 0) (sb + 0) (cv_QL (p, l, e, room_1, s, m, #[Value.ref b], below, meth, c) b) 457 [(0, .ref b), (1, .ref (G.1 0)), (2, .ref (G.1 10)), (3, .ref (G.1 66)), (4, .ref (G.1 67)), (5, .int l5)] [] σ (F_L_law_b457 xs L k28 l5 σ) := by
  unfold F_L_law_b457
  refine cv_aload_n hC 1 dL_law_457 rfl rfl ?_
  refine cv_aload_n hC 0 dL_law_458 rfl rfl ?_
  refine cv_iload hC 5 dL_law_459 rfl ?_
  refine cv_iconst (v := 1) hC dL_law_461 cb_iconst_1 ?_
  refine cv_iadd hC dL_law_462 ?_
  refine cv_sld hX hC dL_law_463 (fun v44 => ?_)
  refine cv_aload_n hC 0 dL_law_464 rfl rfl ?_
  refine cv_iload hC 5 dL_law_465 rfl ?_
  refine cv_iconst (v := 2) hC dL_law_467 cb_iconst_2 ?_
  refine cv_iadd hC dL_law_468 ?_
  refine cv_sld hX hC dL_law_469 (fun v45 => ?_)
  refine cv_aload_n hC 3 dL_law_470 rfl rfl ?_
  refine cv_callLi hX hC [.ref (G.1 0), .int v44, .int v45, .ref (G.1 66)] [] (M_L_operand htr G v44 v45 σ) ln_L_156 sh_L_operand rfl rfl (Nat.le_of_ble_eq_true rfl) ⟨Nat.le_of_ble_eq_true rfl, Nat.le_of_ble_eq_true rfl⟩ ⟨cv_rmc (by omega), cv_rms (by omega)⟩ dL_law_471 (fun v47 s46 => ?_)
  refine cv_istore (lv' := [(6, .int v47), (0, .ref b), (1, .ref (G.1 0)), (2, .ref (G.1 10)), (3, .ref (G.1 66)), (4, .ref (G.1 67)), (5, .int l5)]) hC dL_law_474 (by decide) rfl ?_
  refine cv_aload_n hC 3 dL_law_476 rfl rfl ?_
  refine cv_aload_n hC 1 dL_law_477 rfl rfl ?_
  refine cv_iload hC 6 dL_law_478 rfl ?_
  refine cv_iconst (v := 1) hC dL_law_480 cb_iconst_1 ?_
  refine cv_iadd hC dL_law_481 ?_
  refine cv_sld hX hC dL_law_482 (fun v48 => ?_)
  refine cv_aload_n hC 1 dL_law_483 rfl rfl ?_
  refine cv_iload hC 6 dL_law_484 rfl ?_
  refine cv_iconst (v := 2) hC dL_law_486 cb_iconst_2 ?_
  refine cv_iadd hC dL_law_487 ?_
  refine cv_sld hX hC dL_law_488 (fun v49 => ?_)
  refine cv_callVi (ob := 10) hC [.int v48, .int v49] [] (M_X9_operand l G v48 v49 s46) ln_L_158 vm_X9_operand (ob_10 G) rfl rfl (Nat.le_of_ble_eq_true rfl) ⟨Nat.le_of_ble_eq_true rfl, Nat.le_of_ble_eq_true rfl⟩ ⟨cv_rmc (by omega), cv_rms (by omega)⟩ dL_law_489 (fun v51 s50 => ?_)
  refine cv_istore (lv' := [(7, .int v51), (6, .int v47), (0, .ref b), (1, .ref (G.1 0)), (2, .ref (G.1 10)), (3, .ref (G.1 66)), (4, .ref (G.1 67)), (5, .int l5)]) hC dL_law_492 (by decide) rfl ?_
  refine cv_aload_n hC 4 dL_law_494 rfl rfl ?_
  refine cv_callVi (ob := 10) hC [] [] (M_X9_thrown l G s50) ln_L_139 vm_X9_thrown (ob_10 G) rfl rfl (Nat.le_of_ble_eq_true rfl) ⟨Nat.le_of_ble_eq_true rfl, Nat.le_of_ble_eq_true rfl⟩ ⟨cv_rmc (by omega), cv_rms (by omega)⟩ dL_law_495 (fun v53 s52 => ?_)
  refine cv_iload hC 1 dL_law_498 rfl ?_
  refine cv_icmp_eq (tgt := 505) hC dL_law_500 (by decide) ?_ ?_
  · refine cv_iload hC 1 dL_law_505 rfl ?_
    refine cv_if_ne (tgt := 522) hC dL_law_507 (by decide) ?_ ?_
    · exact cv_widen (by omega) (by omega) (cv_sub [2, 3, 4, 5, 6, 7] rfl (J_L_law_b522 htr hX hC hcb k28 hk28 l5 s52))
    · refine cv_aload_n hC 5 dL_law_510 rfl rfl ?_
      refine cv_iconst (v := 0) hC dL_law_511 cb_iconst_0 ?_
      refine cv_lald hC dL_law_512 (fun v54 => ?_)
      refine cv_iload hC 0 dL_law_513 rfl ?_
      refine cv_i2l hC dL_law_515 ?_
      refine cv_lcmp hC dL_law_516 ?_
      refine cv_if_eq (tgt := 522) hC dL_law_517 (by decide) ?_ ?_
      · exact cv_widen (by omega) (by omega) (cv_sub [2, 3, 4, 5, 6, 7] rfl (J_L_law_b522 htr hX hC hcb k28 hk28 l5 s52))
      · refine cv_iconst (v := 0) hC dL_law_520 cb_iconst_0 ?_
        exact cv_lret0 (by decide)
  · refine cv_iconst (v := 0) hC dL_law_503 cb_iconst_0 ?_
    exact cv_lret0 (by decide)
set_option maxRecDepth 20000 in
set_option maxHeartbeats 4000000 in
theorem J_L_law_b590 {p : Program} {l : Launch} {e : Env} {s : State} {m : MethodId} {below : List Frame} {meth : Method} {c : Code} {G : cv_G} {b L : Nat} {xs : Nat → Int32} (htr : l.stackTraces = false) (hX : cv_CL (p, l, e, room_1, s, m, #[Value.ref b], below, meth, c) G b L xs) (hC : cv_C (p, l, e, room_1, s, m, #[Value.ref b], below, meth, c) G l RL cL_law 9 (some .boolean) room_1) {cb sb : Nat} (hcb : cb + 10 ≤ 603072 ∧ sb + 60 ≤ 7161962) (k28 : Int32 → cv_St → Option (Int32 × cv_St)) (hk28 : ∀ (l5 : Int32)  σ, cv_J (p, l, e, room_1, s, m, #[Value.ref b], below, meth, c) G 9 (cb + 10) (sb + 60) (cv_QL (p, l, e, room_1, s, m, #[Value.ref b], below, meth, c) b) 28 [(0, .ref b), (1, .ref (G.1 0)), (2, .ref (G.1 10)), (3, .ref (G.1 66)), (4, .ref (G.1 67)), (5, .int l5)] [] σ (k28 l5 σ)) (l5 : Int32) (σ : cv_St) : cv_J (p, l, e, room_1, s, m, #[Value.ref b], below, meth, c) G 9 (cb + 10) (sb + 60) (cv_QL (p, l, e, room_1, s, m, #[Value.ref b], below, meth, c) b) 590 [(0, .ref b), (1, .ref (G.1 0)), (2, .ref (G.1 10)), (3, .ref (G.1 66)), (4, .ref (G.1 67)), (5, .int l5)] [] σ (F_L_law_b590 xs L k28 l5 σ) := by
  unfold F_L_law_b590
  refine cv_goto (tgt := 2188) hC dL_law_590 (by decide) ?_
  exact cv_sub [0, 1, 2, 3, 4, 5] rfl (J_L_law_b2188 htr hX hC hcb k28 hk28 l5 σ)
set_option maxRecDepth 20000 in
set_option maxHeartbeats 4000000 in
theorem J_L_law_b525 {p : Program} {l : Launch} {e : Env} {s : State} {m : MethodId} {below : List Frame} {meth : Method} {c : Code} {G : cv_G} {b L : Nat} {xs : Nat → Int32} (htr : l.stackTraces = false) (hX : cv_CL (p, l, e, room_1, s, m, #[Value.ref b], below, meth, c) G b L xs) (hC : cv_C (p, l, e, room_1, s, m, #[Value.ref b], below, meth, c) G l RL cL_law 9 (some .boolean) room_1) {cb sb : Nat} (hcb : cb + 10 ≤ 603072 ∧ sb + 60 ≤ 7161962) (k28 : Int32 → cv_St → Option (Int32 × cv_St)) (hk28 : ∀ (l5 : Int32)  σ, cv_J (p, l, e, room_1, s, m, #[Value.ref b], below, meth, c) G 9 (cb + 10) (sb + 60) (cv_QL (p, l, e, room_1, s, m, #[Value.ref b], below, meth, c) b) 28 [(0, .ref b), (1, .ref (G.1 0)), (2, .ref (G.1 10)), (3, .ref (G.1 66)), (4, .ref (G.1 67)), (5, .int l5)] [] σ (k28 l5 σ)) (l5 : Int32) (σ : cv_St) : cv_J (p, l, e, room_1, s, m, #[Value.ref b], below, meth, c) G 9 (cb + 0) (sb + 0) (cv_QL (p, l, e, room_1, s, m, #[Value.ref b], below, meth, c) b) 525 [(0, .ref b), (1, .ref (G.1 0)), (2, .ref (G.1 10)), (3, .ref (G.1 66)), (4, .ref (G.1 67)), (5, .int l5)] [] σ (F_L_law_b525 xs L k28 l5 σ) := by
  unfold F_L_law_b525
  refine cv_aload_n hC 1 dL_law_525 rfl rfl ?_
  refine cv_aload_n hC 0 dL_law_526 rfl rfl ?_
  refine cv_iload hC 5 dL_law_527 rfl ?_
  refine cv_iconst (v := 1) hC dL_law_529 cb_iconst_1 ?_
  refine cv_iadd hC dL_law_530 ?_
  refine cv_sld hX hC dL_law_531 (fun v55 => ?_)
  refine cv_aload_n hC 0 dL_law_532 rfl rfl ?_
  refine cv_iload hC 5 dL_law_533 rfl ?_
  refine cv_iconst (v := 2) hC dL_law_535 cb_iconst_2 ?_
  refine cv_iadd hC dL_law_536 ?_
  refine cv_sld hX hC dL_law_537 (fun v56 => ?_)
  refine cv_aload_n hC 3 dL_law_538 rfl rfl ?_
  refine cv_callLi hX hC [.ref (G.1 0), .int v55, .int v56, .ref (G.1 66)] [] (M_L_removeInstruction htr G v55 v56 σ) ln_L_159 sh_L_removeInstruction rfl rfl (Nat.le_of_ble_eq_true rfl) ⟨Nat.le_of_ble_eq_true rfl, Nat.le_of_ble_eq_true rfl⟩ ⟨cv_rmc (by omega), cv_rms (by omega)⟩ dL_law_539 (fun v58 s57 => ?_)
  refine cv_istore (lv' := [(6, .int v58), (0, .ref b), (1, .ref (G.1 0)), (2, .ref (G.1 10)), (3, .ref (G.1 66)), (4, .ref (G.1 67)), (5, .int l5)]) hC dL_law_542 (by decide) rfl ?_
  refine cv_aload_n hC 3 dL_law_544 rfl rfl ?_
  refine cv_aload_n hC 1 dL_law_545 rfl rfl ?_
  refine cv_iload hC 6 dL_law_546 rfl ?_
  refine cv_iconst (v := 1) hC dL_law_548 cb_iconst_1 ?_
  refine cv_iadd hC dL_law_549 ?_
  refine cv_sld hX hC dL_law_550 (fun v59 => ?_)
  refine cv_aload_n hC 1 dL_law_551 rfl rfl ?_
  refine cv_iload hC 6 dL_law_552 rfl ?_
  refine cv_iconst (v := 2) hC dL_law_554 cb_iconst_2 ?_
  refine cv_iadd hC dL_law_555 ?_
  refine cv_sld hX hC dL_law_556 (fun v60 => ?_)
  refine cv_callVi (ob := 10) hC [.int v59, .int v60] [] (M_X9_removeInstruction l G v59 v60 s57) ln_L_161 vm_X9_removeInstruction (ob_10 G) rfl rfl (Nat.le_of_ble_eq_true rfl) ⟨Nat.le_of_ble_eq_true rfl, Nat.le_of_ble_eq_true rfl⟩ ⟨cv_rmc (by omega), cv_rms (by omega)⟩ dL_law_557 (fun v62 s61 => ?_)
  refine cv_istore (lv' := [(7, .int v62), (6, .int v58), (0, .ref b), (1, .ref (G.1 0)), (2, .ref (G.1 10)), (3, .ref (G.1 66)), (4, .ref (G.1 67)), (5, .int l5)]) hC dL_law_560 (by decide) rfl ?_
  refine cv_aload_n hC 4 dL_law_562 rfl rfl ?_
  refine cv_callVi (ob := 10) hC [] [] (M_X9_thrown l G s61) ln_L_139 vm_X9_thrown (ob_10 G) rfl rfl (Nat.le_of_ble_eq_true rfl) ⟨Nat.le_of_ble_eq_true rfl, Nat.le_of_ble_eq_true rfl⟩ ⟨cv_rmc (by omega), cv_rms (by omega)⟩ dL_law_563 (fun v64 s63 => ?_)
  refine cv_iload hC 1 dL_law_566 rfl ?_
  refine cv_icmp_eq (tgt := 573) hC dL_law_568 (by decide) ?_ ?_
  · refine cv_iload hC 1 dL_law_573 rfl ?_
    refine cv_if_ne (tgt := 590) hC dL_law_575 (by decide) ?_ ?_
    · exact cv_widen (by omega) (by omega) (cv_sub [2, 3, 4, 5, 6, 7] rfl (J_L_law_b590 htr hX hC hcb k28 hk28 l5 s63))
    · refine cv_aload_n hC 5 dL_law_578 rfl rfl ?_
      refine cv_iconst (v := 0) hC dL_law_579 cb_iconst_0 ?_
      refine cv_lald hC dL_law_580 (fun v65 => ?_)
      refine cv_iload hC 0 dL_law_581 rfl ?_
      refine cv_i2l hC dL_law_583 ?_
      refine cv_lcmp hC dL_law_584 ?_
      refine cv_if_eq (tgt := 590) hC dL_law_585 (by decide) ?_ ?_
      · exact cv_widen (by omega) (by omega) (cv_sub [2, 3, 4, 5, 6, 7] rfl (J_L_law_b590 htr hX hC hcb k28 hk28 l5 s63))
      · refine cv_iconst (v := 0) hC dL_law_588 cb_iconst_0 ?_
        exact cv_lret0 (by decide)
  · refine cv_iconst (v := 0) hC dL_law_571 cb_iconst_0 ?_
    exact cv_lret0 (by decide)
set_option maxRecDepth 20000 in
set_option maxHeartbeats 4000000 in
theorem J_L_law_b665 {p : Program} {l : Launch} {e : Env} {s : State} {m : MethodId} {below : List Frame} {meth : Method} {c : Code} {G : cv_G} {b L : Nat} {xs : Nat → Int32} (htr : l.stackTraces = false) (hX : cv_CL (p, l, e, room_1, s, m, #[Value.ref b], below, meth, c) G b L xs) (hC : cv_C (p, l, e, room_1, s, m, #[Value.ref b], below, meth, c) G l RL cL_law 9 (some .boolean) room_1) {cb sb : Nat} (hcb : cb + 10 ≤ 603072 ∧ sb + 60 ≤ 7161962) (k28 : Int32 → cv_St → Option (Int32 × cv_St)) (hk28 : ∀ (l5 : Int32)  σ, cv_J (p, l, e, room_1, s, m, #[Value.ref b], below, meth, c) G 9 (cb + 10) (sb + 60) (cv_QL (p, l, e, room_1, s, m, #[Value.ref b], below, meth, c) b) 28 [(0, .ref b), (1, .ref (G.1 0)), (2, .ref (G.1 10)), (3, .ref (G.1 66)), (4, .ref (G.1 67)), (5, .int l5)] [] σ (k28 l5 σ)) (l5 : Int32) (σ : cv_St) : cv_J (p, l, e, room_1, s, m, #[Value.ref b], below, meth, c) G 9 (cb + 10) (sb + 60) (cv_QL (p, l, e, room_1, s, m, #[Value.ref b], below, meth, c) b) 665 [(0, .ref b), (1, .ref (G.1 0)), (2, .ref (G.1 10)), (3, .ref (G.1 66)), (4, .ref (G.1 67)), (5, .int l5)] [] σ (F_L_law_b665 xs L k28 l5 σ) := by
  unfold F_L_law_b665
  refine cv_goto (tgt := 2188) hC dL_law_665 (by decide) ?_
  exact cv_sub [0, 1, 2, 3, 4, 5] rfl (J_L_law_b2188 htr hX hC hcb k28 hk28 l5 σ)
set_option maxRecDepth 20000 in
set_option maxHeartbeats 4000000 in
theorem J_L_law_b659 {p : Program} {l : Launch} {e : Env} {s : State} {m : MethodId} {below : List Frame} {meth : Method} {c : Code} {G : cv_G} {b L : Nat} {xs : Nat → Int32} (htr : l.stackTraces = false) (hX : cv_CL (p, l, e, room_1, s, m, #[Value.ref b], below, meth, c) G b L xs) (hC : cv_C (p, l, e, room_1, s, m, #[Value.ref b], below, meth, c) G l RL cL_law 9 (some .boolean) room_1) {cb sb : Nat} (hcb : cb + 10 ≤ 603072 ∧ sb + 60 ≤ 7161962) (k28 : Int32 → cv_St → Option (Int32 × cv_St)) (hk28 : ∀ (l5 : Int32)  σ, cv_J (p, l, e, room_1, s, m, #[Value.ref b], below, meth, c) G 9 (cb + 10) (sb + 60) (cv_QL (p, l, e, room_1, s, m, #[Value.ref b], below, meth, c) b) 28 [(0, .ref b), (1, .ref (G.1 0)), (2, .ref (G.1 10)), (3, .ref (G.1 66)), (4, .ref (G.1 67)), (5, .int l5)] [] σ (k28 l5 σ)) (l5 : Int32) (t0 : Int64) (t1 : Int64) (σ : cv_St) : cv_J (p, l, e, room_1, s, m, #[Value.ref b], below, meth, c) G 9 (cb + 10) (sb + 60) (cv_QL (p, l, e, room_1, s, m, #[Value.ref b], below, meth, c) b) 659 [(0, .ref b), (1, .ref (G.1 0)), (2, .ref (G.1 10)), (3, .ref (G.1 66)), (4, .ref (G.1 67)), (5, .int l5)] [.long t0, .long t1] σ (F_L_law_b659 xs L k28 l5 t0 t1 σ) := by
  unfold F_L_law_b659
  refine cv_lcmp hC dL_law_659 ?_
  refine cv_if_eq (tgt := 665) hC dL_law_660 (by decide) ?_ ?_
  · exact cv_sub [0, 1, 2, 3, 4, 5] rfl (J_L_law_b665 htr hX hC hcb k28 hk28 l5 σ)
  · refine cv_iconst (v := 0) hC dL_law_663 cb_iconst_0 ?_
    exact cv_lret0 (by decide)
set_option maxRecDepth 20000 in
set_option maxHeartbeats 4000000 in
theorem J_L_law_b593 {p : Program} {l : Launch} {e : Env} {s : State} {m : MethodId} {below : List Frame} {meth : Method} {c : Code} {G : cv_G} {b L : Nat} {xs : Nat → Int32} (htr : l.stackTraces = false) (hX : cv_CL (p, l, e, room_1, s, m, #[Value.ref b], below, meth, c) G b L xs) (hC : cv_C (p, l, e, room_1, s, m, #[Value.ref b], below, meth, c) G l RL cL_law 9 (some .boolean) room_1) {cb sb : Nat} (hcb : cb + 10 ≤ 603072 ∧ sb + 60 ≤ 7161962) (k28 : Int32 → cv_St → Option (Int32 × cv_St)) (hk28 : ∀ (l5 : Int32)  σ, cv_J (p, l, e, room_1, s, m, #[Value.ref b], below, meth, c) G 9 (cb + 10) (sb + 60) (cv_QL (p, l, e, room_1, s, m, #[Value.ref b], below, meth, c) b) 28 [(0, .ref b), (1, .ref (G.1 0)), (2, .ref (G.1 10)), (3, .ref (G.1 66)), (4, .ref (G.1 67)), (5, .int l5)] [] σ (k28 l5 σ)) (l5 : Int32) (σ : cv_St) : cv_J (p, l, e, room_1, s, m, #[Value.ref b], below, meth, c) G 9 (cb + 0) (sb + 0) (cv_QL (p, l, e, room_1, s, m, #[Value.ref b], below, meth, c) b) 593 [(0, .ref b), (1, .ref (G.1 0)), (2, .ref (G.1 10)), (3, .ref (G.1 66)), (4, .ref (G.1 67)), (5, .int l5)] [] σ (F_L_law_b593 xs L k28 l5 σ) := by
  unfold F_L_law_b593
  refine cv_aload_n hC 1 dL_law_593 rfl rfl ?_
  refine cv_aload_n hC 0 dL_law_594 rfl rfl ?_
  refine cv_iload hC 5 dL_law_595 rfl ?_
  refine cv_iconst (v := 1) hC dL_law_597 cb_iconst_1 ?_
  refine cv_iadd hC dL_law_598 ?_
  refine cv_sld hX hC dL_law_599 (fun v66 => ?_)
  refine cv_aload_n hC 0 dL_law_600 rfl rfl ?_
  refine cv_iload hC 5 dL_law_601 rfl ?_
  refine cv_iconst (v := 2) hC dL_law_603 cb_iconst_2 ?_
  refine cv_iadd hC dL_law_604 ?_
  refine cv_sld hX hC dL_law_605 (fun v67 => ?_)
  refine cv_aload_n hC 3 dL_law_606 rfl rfl ?_
  refine cv_callLi hX hC [.ref (G.1 0), .int v66, .int v67, .ref (G.1 66)] [] (M_L_isReachable htr G v66 v67 σ) ln_L_162 sh_L_isReachable rfl rfl (Nat.le_of_ble_eq_true rfl) ⟨Nat.le_of_ble_eq_true rfl, Nat.le_of_ble_eq_true rfl⟩ ⟨cv_rmc (by omega), cv_rms (by omega)⟩ dL_law_607 (fun v69 s68 => ?_)
  refine cv_istore (lv' := [(6, .int v69), (0, .ref b), (1, .ref (G.1 0)), (2, .ref (G.1 10)), (3, .ref (G.1 66)), (4, .ref (G.1 67)), (5, .int l5)]) hC dL_law_610 (by decide) rfl ?_
  refine cv_aload_n hC 3 dL_law_612 rfl rfl ?_
  refine cv_aload_n hC 1 dL_law_613 rfl rfl ?_
  refine cv_iload hC 6 dL_law_614 rfl ?_
  refine cv_iconst (v := 1) hC dL_law_616 cb_iconst_1 ?_
  refine cv_iadd hC dL_law_617 ?_
  refine cv_sld hX hC dL_law_618 (fun v70 => ?_)
  refine cv_aload_n hC 1 dL_law_619 rfl rfl ?_
  refine cv_iload hC 6 dL_law_620 rfl ?_
  refine cv_iconst (v := 2) hC dL_law_622 cb_iconst_2 ?_
  refine cv_iadd hC dL_law_623 ?_
  refine cv_sld hX hC dL_law_624 (fun v71 => ?_)
  refine cv_callVi (ob := 10) hC [.int v70, .int v71] [] (M_X9_isReachable l G v70 v71 s68) ln_L_164 vm_X9_isReachable (ob_10 G) rfl rfl (Nat.le_of_ble_eq_true rfl) ⟨Nat.le_of_ble_eq_true rfl, Nat.le_of_ble_eq_true rfl⟩ ⟨cv_rmc (by omega), cv_rms (by omega)⟩ dL_law_625 (fun v73 s72 => ?_)
  refine cv_istore (lv' := [(7, .int v73), (6, .int v69), (0, .ref b), (1, .ref (G.1 0)), (2, .ref (G.1 10)), (3, .ref (G.1 66)), (4, .ref (G.1 67)), (5, .int l5)]) hC dL_law_628 (by decide) rfl ?_
  refine cv_aload_n hC 4 dL_law_630 rfl rfl ?_
  refine cv_callVi (ob := 10) hC [] [] (M_X9_thrown l G s72) ln_L_139 vm_X9_thrown (ob_10 G) rfl rfl (Nat.le_of_ble_eq_true rfl) ⟨Nat.le_of_ble_eq_true rfl, Nat.le_of_ble_eq_true rfl⟩ ⟨cv_rmc (by omega), cv_rms (by omega)⟩ dL_law_631 (fun v75 s74 => ?_)
  refine cv_iload hC 1 dL_law_634 rfl ?_
  refine cv_icmp_eq (tgt := 641) hC dL_law_636 (by decide) ?_ ?_
  · refine cv_iload hC 1 dL_law_641 rfl ?_
    refine cv_if_ne (tgt := 665) hC dL_law_643 (by decide) ?_ ?_
    · exact cv_widen (by omega) (by omega) (cv_sub [2, 3, 4, 5, 6, 7] rfl (J_L_law_b665 htr hX hC hcb k28 hk28 l5 s74))
    · refine cv_aload_n hC 5 dL_law_646 rfl rfl ?_
      refine cv_iconst (v := 0) hC dL_law_647 cb_iconst_0 ?_
      refine cv_lald hC dL_law_648 (fun v76 => ?_)
      refine cv_iload hC 0 dL_law_649 rfl ?_
      refine cv_if_eq (tgt := 658) hC dL_law_651 (by decide) ?_ ?_
      · refine cv_lconst (v := 0) hC dL_law_658 rfl ?_
        exact cv_widen (by omega) (by omega) (cv_sub [2, 3, 4, 5, 6, 7] rfl (J_L_law_b659 htr hX hC hcb k28 hk28 l5 0 v76 s74))
      · refine cv_lconst (v := 1) hC dL_law_654 rfl ?_
        refine cv_goto (tgt := 659) hC dL_law_655 (by decide) ?_
        exact cv_widen (by omega) (by omega) (cv_sub [2, 3, 4, 5, 6, 7] rfl (J_L_law_b659 htr hX hC hcb k28 hk28 l5 1 v76 s74))
  · refine cv_iconst (v := 0) hC dL_law_639 cb_iconst_0 ?_
    exact cv_lret0 (by decide)
set_option maxRecDepth 20000 in
set_option maxHeartbeats 4000000 in
theorem J_L_law_b728 {p : Program} {l : Launch} {e : Env} {s : State} {m : MethodId} {below : List Frame} {meth : Method} {c : Code} {G : cv_G} {b L : Nat} {xs : Nat → Int32} (htr : l.stackTraces = false) (hX : cv_CL (p, l, e, room_1, s, m, #[Value.ref b], below, meth, c) G b L xs) (hC : cv_C (p, l, e, room_1, s, m, #[Value.ref b], below, meth, c) G l RL cL_law 9 (some .boolean) room_1) {cb sb : Nat} (hcb : cb + 10 ≤ 603072 ∧ sb + 60 ≤ 7161962) (k28 : Int32 → cv_St → Option (Int32 × cv_St)) (hk28 : ∀ (l5 : Int32)  σ, cv_J (p, l, e, room_1, s, m, #[Value.ref b], below, meth, c) G 9 (cb + 10) (sb + 60) (cv_QL (p, l, e, room_1, s, m, #[Value.ref b], below, meth, c) b) 28 [(0, .ref b), (1, .ref (G.1 0)), (2, .ref (G.1 10)), (3, .ref (G.1 66)), (4, .ref (G.1 67)), (5, .int l5)] [] σ (k28 l5 σ)) (l5 : Int32) (σ : cv_St) : cv_J (p, l, e, room_1, s, m, #[Value.ref b], below, meth, c) G 9 (cb + 10) (sb + 60) (cv_QL (p, l, e, room_1, s, m, #[Value.ref b], below, meth, c) b) 728 [(0, .ref b), (1, .ref (G.1 0)), (2, .ref (G.1 10)), (3, .ref (G.1 66)), (4, .ref (G.1 67)), (5, .int l5)] [] σ (F_L_law_b728 xs L k28 l5 σ) := by
  unfold F_L_law_b728
  refine cv_goto (tgt := 2188) hC dL_law_728 (by decide) ?_
  exact cv_sub [0, 1, 2, 3, 4, 5] rfl (J_L_law_b2188 htr hX hC hcb k28 hk28 l5 σ)
set_option maxRecDepth 20000 in
set_option maxHeartbeats 4000000 in
theorem J_L_law_b722 {p : Program} {l : Launch} {e : Env} {s : State} {m : MethodId} {below : List Frame} {meth : Method} {c : Code} {G : cv_G} {b L : Nat} {xs : Nat → Int32} (htr : l.stackTraces = false) (hX : cv_CL (p, l, e, room_1, s, m, #[Value.ref b], below, meth, c) G b L xs) (hC : cv_C (p, l, e, room_1, s, m, #[Value.ref b], below, meth, c) G l RL cL_law 9 (some .boolean) room_1) {cb sb : Nat} (hcb : cb + 10 ≤ 603072 ∧ sb + 60 ≤ 7161962) (k28 : Int32 → cv_St → Option (Int32 × cv_St)) (hk28 : ∀ (l5 : Int32)  σ, cv_J (p, l, e, room_1, s, m, #[Value.ref b], below, meth, c) G 9 (cb + 10) (sb + 60) (cv_QL (p, l, e, room_1, s, m, #[Value.ref b], below, meth, c) b) 28 [(0, .ref b), (1, .ref (G.1 0)), (2, .ref (G.1 10)), (3, .ref (G.1 66)), (4, .ref (G.1 67)), (5, .int l5)] [] σ (k28 l5 σ)) (l5 : Int32) (t0 : Int64) (t1 : Int64) (σ : cv_St) : cv_J (p, l, e, room_1, s, m, #[Value.ref b], below, meth, c) G 9 (cb + 10) (sb + 60) (cv_QL (p, l, e, room_1, s, m, #[Value.ref b], below, meth, c) b) 722 [(0, .ref b), (1, .ref (G.1 0)), (2, .ref (G.1 10)), (3, .ref (G.1 66)), (4, .ref (G.1 67)), (5, .int l5)] [.long t0, .long t1] σ (F_L_law_b722 xs L k28 l5 t0 t1 σ) := by
  unfold F_L_law_b722
  refine cv_lcmp hC dL_law_722 ?_
  refine cv_if_eq (tgt := 728) hC dL_law_723 (by decide) ?_ ?_
  · exact cv_sub [0, 1, 2, 3, 4, 5] rfl (J_L_law_b728 htr hX hC hcb k28 hk28 l5 σ)
  · refine cv_iconst (v := 0) hC dL_law_726 cb_iconst_0 ?_
    exact cv_lret0 (by decide)
set_option maxRecDepth 20000 in
set_option maxHeartbeats 4000000 in
theorem J_L_law_b668 {p : Program} {l : Launch} {e : Env} {s : State} {m : MethodId} {below : List Frame} {meth : Method} {c : Code} {G : cv_G} {b L : Nat} {xs : Nat → Int32} (htr : l.stackTraces = false) (hX : cv_CL (p, l, e, room_1, s, m, #[Value.ref b], below, meth, c) G b L xs) (hC : cv_C (p, l, e, room_1, s, m, #[Value.ref b], below, meth, c) G l RL cL_law 9 (some .boolean) room_1) {cb sb : Nat} (hcb : cb + 10 ≤ 603072 ∧ sb + 60 ≤ 7161962) (k28 : Int32 → cv_St → Option (Int32 × cv_St)) (hk28 : ∀ (l5 : Int32)  σ, cv_J (p, l, e, room_1, s, m, #[Value.ref b], below, meth, c) G 9 (cb + 10) (sb + 60) (cv_QL (p, l, e, room_1, s, m, #[Value.ref b], below, meth, c) b) 28 [(0, .ref b), (1, .ref (G.1 0)), (2, .ref (G.1 10)), (3, .ref (G.1 66)), (4, .ref (G.1 67)), (5, .int l5)] [] σ (k28 l5 σ)) (l5 : Int32) (σ : cv_St) : cv_J (p, l, e, room_1, s, m, #[Value.ref b], below, meth, c) G 9 (cb + 0) (sb + 0) (cv_QL (p, l, e, room_1, s, m, #[Value.ref b], below, meth, c) b) 668 [(0, .ref b), (1, .ref (G.1 0)), (2, .ref (G.1 10)), (3, .ref (G.1 66)), (4, .ref (G.1 67)), (5, .int l5)] [] σ (F_L_law_b668 xs L k28 l5 σ) := by
  unfold F_L_law_b668
  refine cv_aload_n hC 1 dL_law_668 rfl rfl ?_
  refine cv_aload_n hC 0 dL_law_669 rfl rfl ?_
  refine cv_iload hC 5 dL_law_670 rfl ?_
  refine cv_iconst (v := 1) hC dL_law_672 cb_iconst_1 ?_
  refine cv_iadd hC dL_law_673 ?_
  refine cv_sld hX hC dL_law_674 (fun v77 => ?_)
  refine cv_aload_n hC 3 dL_law_675 rfl rfl ?_
  refine cv_callLi hX hC [.ref (G.1 0), .int v77, .ref (G.1 66)] [] (M_L_isBalanced htr G v77 σ) ln_L_165 sh_L_isBalanced rfl rfl (Nat.le_of_ble_eq_true rfl) ⟨Nat.le_of_ble_eq_true rfl, Nat.le_of_ble_eq_true rfl⟩ ⟨cv_rmc (by omega), cv_rms (by omega)⟩ dL_law_676 (fun v79 s78 => ?_)
  refine cv_istore (lv' := [(6, .int v79), (0, .ref b), (1, .ref (G.1 0)), (2, .ref (G.1 10)), (3, .ref (G.1 66)), (4, .ref (G.1 67)), (5, .int l5)]) hC dL_law_679 (by decide) rfl ?_
  refine cv_aload_n hC 3 dL_law_681 rfl rfl ?_
  refine cv_aload_n hC 1 dL_law_682 rfl rfl ?_
  refine cv_iload hC 6 dL_law_683 rfl ?_
  refine cv_iconst (v := 1) hC dL_law_685 cb_iconst_1 ?_
  refine cv_iadd hC dL_law_686 ?_
  refine cv_sld hX hC dL_law_687 (fun v80 => ?_)
  refine cv_callVi (ob := 10) hC [.int v80] [] (M_X9_isBalanced l G v80 s78) ln_L_167 vm_X9_isBalanced (ob_10 G) rfl rfl (Nat.le_of_ble_eq_true rfl) ⟨Nat.le_of_ble_eq_true rfl, Nat.le_of_ble_eq_true rfl⟩ ⟨cv_rmc (by omega), cv_rms (by omega)⟩ dL_law_688 (fun v82 s81 => ?_)
  refine cv_istore (lv' := [(7, .int v82), (6, .int v79), (0, .ref b), (1, .ref (G.1 0)), (2, .ref (G.1 10)), (3, .ref (G.1 66)), (4, .ref (G.1 67)), (5, .int l5)]) hC dL_law_691 (by decide) rfl ?_
  refine cv_aload_n hC 4 dL_law_693 rfl rfl ?_
  refine cv_callVi (ob := 10) hC [] [] (M_X9_thrown l G s81) ln_L_139 vm_X9_thrown (ob_10 G) rfl rfl (Nat.le_of_ble_eq_true rfl) ⟨Nat.le_of_ble_eq_true rfl, Nat.le_of_ble_eq_true rfl⟩ ⟨cv_rmc (by omega), cv_rms (by omega)⟩ dL_law_694 (fun v84 s83 => ?_)
  refine cv_iload hC 1 dL_law_697 rfl ?_
  refine cv_icmp_eq (tgt := 704) hC dL_law_699 (by decide) ?_ ?_
  · refine cv_iload hC 1 dL_law_704 rfl ?_
    refine cv_if_ne (tgt := 728) hC dL_law_706 (by decide) ?_ ?_
    · exact cv_widen (by omega) (by omega) (cv_sub [2, 3, 4, 5, 6, 7] rfl (J_L_law_b728 htr hX hC hcb k28 hk28 l5 s83))
    · refine cv_aload_n hC 5 dL_law_709 rfl rfl ?_
      refine cv_iconst (v := 0) hC dL_law_710 cb_iconst_0 ?_
      refine cv_lald hC dL_law_711 (fun v85 => ?_)
      refine cv_iload hC 0 dL_law_712 rfl ?_
      refine cv_if_eq (tgt := 721) hC dL_law_714 (by decide) ?_ ?_
      · refine cv_lconst (v := 0) hC dL_law_721 rfl ?_
        exact cv_widen (by omega) (by omega) (cv_sub [2, 3, 4, 5, 6, 7] rfl (J_L_law_b722 htr hX hC hcb k28 hk28 l5 0 v85 s83))
      · refine cv_lconst (v := 1) hC dL_law_717 rfl ?_
        refine cv_goto (tgt := 722) hC dL_law_718 (by decide) ?_
        exact cv_widen (by omega) (by omega) (cv_sub [2, 3, 4, 5, 6, 7] rfl (J_L_law_b722 htr hX hC hcb k28 hk28 l5 1 v85 s83))
  · refine cv_iconst (v := 0) hC dL_law_702 cb_iconst_0 ?_
    exact cv_lret0 (by decide)
set_option maxRecDepth 20000 in
set_option maxHeartbeats 4000000 in
theorem J_L_law_b784 {p : Program} {l : Launch} {e : Env} {s : State} {m : MethodId} {below : List Frame} {meth : Method} {c : Code} {G : cv_G} {b L : Nat} {xs : Nat → Int32} (htr : l.stackTraces = false) (hX : cv_CL (p, l, e, room_1, s, m, #[Value.ref b], below, meth, c) G b L xs) (hC : cv_C (p, l, e, room_1, s, m, #[Value.ref b], below, meth, c) G l RL cL_law 9 (some .boolean) room_1) {cb sb : Nat} (hcb : cb + 10 ≤ 603072 ∧ sb + 60 ≤ 7161962) (k28 : Int32 → cv_St → Option (Int32 × cv_St)) (hk28 : ∀ (l5 : Int32)  σ, cv_J (p, l, e, room_1, s, m, #[Value.ref b], below, meth, c) G 9 (cb + 10) (sb + 60) (cv_QL (p, l, e, room_1, s, m, #[Value.ref b], below, meth, c) b) 28 [(0, .ref b), (1, .ref (G.1 0)), (2, .ref (G.1 10)), (3, .ref (G.1 66)), (4, .ref (G.1 67)), (5, .int l5)] [] σ (k28 l5 σ)) (l5 : Int32) (σ : cv_St) : cv_J (p, l, e, room_1, s, m, #[Value.ref b], below, meth, c) G 9 (cb + 10) (sb + 60) (cv_QL (p, l, e, room_1, s, m, #[Value.ref b], below, meth, c) b) 784 [(0, .ref b), (1, .ref (G.1 0)), (2, .ref (G.1 10)), (3, .ref (G.1 66)), (4, .ref (G.1 67)), (5, .int l5)] [] σ (F_L_law_b784 xs L k28 l5 σ) := by
  unfold F_L_law_b784
  refine cv_goto (tgt := 2188) hC dL_law_784 (by decide) ?_
  exact cv_sub [0, 1, 2, 3, 4, 5] rfl (J_L_law_b2188 htr hX hC hcb k28 hk28 l5 σ)
set_option maxRecDepth 20000 in
set_option maxHeartbeats 4000000 in
theorem J_L_law_b731 {p : Program} {l : Launch} {e : Env} {s : State} {m : MethodId} {below : List Frame} {meth : Method} {c : Code} {G : cv_G} {b L : Nat} {xs : Nat → Int32} (htr : l.stackTraces = false) (hX : cv_CL (p, l, e, room_1, s, m, #[Value.ref b], below, meth, c) G b L xs) (hC : cv_C (p, l, e, room_1, s, m, #[Value.ref b], below, meth, c) G l RL cL_law 9 (some .boolean) room_1) {cb sb : Nat} (hcb : cb + 10 ≤ 603072 ∧ sb + 60 ≤ 7161962) (k28 : Int32 → cv_St → Option (Int32 × cv_St)) (hk28 : ∀ (l5 : Int32)  σ, cv_J (p, l, e, room_1, s, m, #[Value.ref b], below, meth, c) G 9 (cb + 10) (sb + 60) (cv_QL (p, l, e, room_1, s, m, #[Value.ref b], below, meth, c) b) 28 [(0, .ref b), (1, .ref (G.1 0)), (2, .ref (G.1 10)), (3, .ref (G.1 66)), (4, .ref (G.1 67)), (5, .int l5)] [] σ (k28 l5 σ)) (l5 : Int32) (σ : cv_St) : cv_J (p, l, e, room_1, s, m, #[Value.ref b], below, meth, c) G 9 (cb + 0) (sb + 0) (cv_QL (p, l, e, room_1, s, m, #[Value.ref b], below, meth, c) b) 731 [(0, .ref b), (1, .ref (G.1 0)), (2, .ref (G.1 10)), (3, .ref (G.1 66)), (4, .ref (G.1 67)), (5, .int l5)] [] σ (F_L_law_b731 xs L k28 l5 σ) := by
  unfold F_L_law_b731
  refine cv_aload_n hC 1 dL_law_731 rfl rfl ?_
  refine cv_aload_n hC 0 dL_law_732 rfl rfl ?_
  refine cv_iload hC 5 dL_law_733 rfl ?_
  refine cv_iconst (v := 1) hC dL_law_735 cb_iconst_1 ?_
  refine cv_iadd hC dL_law_736 ?_
  refine cv_sld hX hC dL_law_737 (fun v86 => ?_)
  refine cv_aload_n hC 3 dL_law_738 rfl rfl ?_
  refine cv_callLi hX hC [.ref (G.1 0), .int v86, .ref (G.1 66)] [] (M_L_preserved htr G v86 σ) ln_L_168 sh_L_preserved rfl rfl (Nat.le_of_ble_eq_true rfl) ⟨Nat.le_of_ble_eq_true rfl, Nat.le_of_ble_eq_true rfl⟩ ⟨cv_rmc (by omega), cv_rms (by omega)⟩ dL_law_739 (fun v88 s87 => ?_)
  refine cv_istore (lv' := [(6, .int v88), (0, .ref b), (1, .ref (G.1 0)), (2, .ref (G.1 10)), (3, .ref (G.1 66)), (4, .ref (G.1 67)), (5, .int l5)]) hC dL_law_742 (by decide) rfl ?_
  refine cv_aload_n hC 3 dL_law_744 rfl rfl ?_
  refine cv_aload_n hC 1 dL_law_745 rfl rfl ?_
  refine cv_iload hC 6 dL_law_746 rfl ?_
  refine cv_iconst (v := 1) hC dL_law_748 cb_iconst_1 ?_
  refine cv_iadd hC dL_law_749 ?_
  refine cv_sld hX hC dL_law_750 (fun v89 => ?_)
  refine cv_callVi (ob := 10) hC [.int v89] [] (M_X9_preserved l G v89 s87) ln_L_170 vm_X9_preserved (ob_10 G) rfl rfl (Nat.le_of_ble_eq_true rfl) ⟨Nat.le_of_ble_eq_true rfl, Nat.le_of_ble_eq_true rfl⟩ ⟨cv_rmc (by omega), cv_rms (by omega)⟩ dL_law_751 (fun v91 s90 => ?_)
  refine cv_istore (lv' := [(7, .int v91), (6, .int v88), (0, .ref b), (1, .ref (G.1 0)), (2, .ref (G.1 10)), (3, .ref (G.1 66)), (4, .ref (G.1 67)), (5, .int l5)]) hC dL_law_754 (by decide) rfl ?_
  refine cv_aload_n hC 4 dL_law_756 rfl rfl ?_
  refine cv_callVi (ob := 10) hC [] [] (M_X9_thrown l G s90) ln_L_139 vm_X9_thrown (ob_10 G) rfl rfl (Nat.le_of_ble_eq_true rfl) ⟨Nat.le_of_ble_eq_true rfl, Nat.le_of_ble_eq_true rfl⟩ ⟨cv_rmc (by omega), cv_rms (by omega)⟩ dL_law_757 (fun v93 s92 => ?_)
  refine cv_iload hC 1 dL_law_760 rfl ?_
  refine cv_icmp_eq (tgt := 767) hC dL_law_762 (by decide) ?_ ?_
  · refine cv_iload hC 1 dL_law_767 rfl ?_
    refine cv_if_ne (tgt := 784) hC dL_law_769 (by decide) ?_ ?_
    · exact cv_widen (by omega) (by omega) (cv_sub [2, 3, 4, 5, 6, 7] rfl (J_L_law_b784 htr hX hC hcb k28 hk28 l5 s92))
    · refine cv_aload_n hC 5 dL_law_772 rfl rfl ?_
      refine cv_iconst (v := 0) hC dL_law_773 cb_iconst_0 ?_
      refine cv_lald hC dL_law_774 (fun v94 => ?_)
      refine cv_iload hC 0 dL_law_775 rfl ?_
      refine cv_i2l hC dL_law_777 ?_
      refine cv_lcmp hC dL_law_778 ?_
      refine cv_if_eq (tgt := 784) hC dL_law_779 (by decide) ?_ ?_
      · exact cv_widen (by omega) (by omega) (cv_sub [2, 3, 4, 5, 6, 7] rfl (J_L_law_b784 htr hX hC hcb k28 hk28 l5 s92))
      · refine cv_iconst (v := 0) hC dL_law_782 cb_iconst_0 ?_
        exact cv_lret0 (by decide)
  · refine cv_iconst (v := 0) hC dL_law_765 cb_iconst_0 ?_
    exact cv_lret0 (by decide)
set_option maxRecDepth 20000 in
set_option maxHeartbeats 4000000 in
theorem J_L_law_b840 {p : Program} {l : Launch} {e : Env} {s : State} {m : MethodId} {below : List Frame} {meth : Method} {c : Code} {G : cv_G} {b L : Nat} {xs : Nat → Int32} (htr : l.stackTraces = false) (hX : cv_CL (p, l, e, room_1, s, m, #[Value.ref b], below, meth, c) G b L xs) (hC : cv_C (p, l, e, room_1, s, m, #[Value.ref b], below, meth, c) G l RL cL_law 9 (some .boolean) room_1) {cb sb : Nat} (hcb : cb + 10 ≤ 603072 ∧ sb + 60 ≤ 7161962) (k28 : Int32 → cv_St → Option (Int32 × cv_St)) (hk28 : ∀ (l5 : Int32)  σ, cv_J (p, l, e, room_1, s, m, #[Value.ref b], below, meth, c) G 9 (cb + 10) (sb + 60) (cv_QL (p, l, e, room_1, s, m, #[Value.ref b], below, meth, c) b) 28 [(0, .ref b), (1, .ref (G.1 0)), (2, .ref (G.1 10)), (3, .ref (G.1 66)), (4, .ref (G.1 67)), (5, .int l5)] [] σ (k28 l5 σ)) (l5 : Int32) (σ : cv_St) : cv_J (p, l, e, room_1, s, m, #[Value.ref b], below, meth, c) G 9 (cb + 10) (sb + 60) (cv_QL (p, l, e, room_1, s, m, #[Value.ref b], below, meth, c) b) 840 [(0, .ref b), (1, .ref (G.1 0)), (2, .ref (G.1 10)), (3, .ref (G.1 66)), (4, .ref (G.1 67)), (5, .int l5)] [] σ (F_L_law_b840 xs L k28 l5 σ) := by
  unfold F_L_law_b840
  refine cv_goto (tgt := 2188) hC dL_law_840 (by decide) ?_
  exact cv_sub [0, 1, 2, 3, 4, 5] rfl (J_L_law_b2188 htr hX hC hcb k28 hk28 l5 σ)
set_option maxRecDepth 20000 in
set_option maxHeartbeats 4000000 in
theorem J_L_law_b787 {p : Program} {l : Launch} {e : Env} {s : State} {m : MethodId} {below : List Frame} {meth : Method} {c : Code} {G : cv_G} {b L : Nat} {xs : Nat → Int32} (htr : l.stackTraces = false) (hX : cv_CL (p, l, e, room_1, s, m, #[Value.ref b], below, meth, c) G b L xs) (hC : cv_C (p, l, e, room_1, s, m, #[Value.ref b], below, meth, c) G l RL cL_law 9 (some .boolean) room_1) {cb sb : Nat} (hcb : cb + 10 ≤ 603072 ∧ sb + 60 ≤ 7161962) (k28 : Int32 → cv_St → Option (Int32 × cv_St)) (hk28 : ∀ (l5 : Int32)  σ, cv_J (p, l, e, room_1, s, m, #[Value.ref b], below, meth, c) G 9 (cb + 10) (sb + 60) (cv_QL (p, l, e, room_1, s, m, #[Value.ref b], below, meth, c) b) 28 [(0, .ref b), (1, .ref (G.1 0)), (2, .ref (G.1 10)), (3, .ref (G.1 66)), (4, .ref (G.1 67)), (5, .int l5)] [] σ (k28 l5 σ)) (l5 : Int32) (σ : cv_St) : cv_J (p, l, e, room_1, s, m, #[Value.ref b], below, meth, c) G 9 (cb + 0) (sb + 0) (cv_QL (p, l, e, room_1, s, m, #[Value.ref b], below, meth, c) b) 787 [(0, .ref b), (1, .ref (G.1 0)), (2, .ref (G.1 10)), (3, .ref (G.1 66)), (4, .ref (G.1 67)), (5, .int l5)] [] σ (F_L_law_b787 xs L k28 l5 σ) := by
  unfold F_L_law_b787
  refine cv_aload_n hC 1 dL_law_787 rfl rfl ?_
  refine cv_aload_n hC 0 dL_law_788 rfl rfl ?_
  refine cv_iload hC 5 dL_law_789 rfl ?_
  refine cv_iconst (v := 1) hC dL_law_791 cb_iconst_1 ?_
  refine cv_iadd hC dL_law_792 ?_
  refine cv_sld hX hC dL_law_793 (fun v95 => ?_)
  refine cv_aload_n hC 3 dL_law_794 rfl rfl ?_
  refine cv_callLi hX hC [.ref (G.1 0), .int v95, .ref (G.1 66)] [] (M_L_surelyDefined htr G v95 σ) ln_L_171 sh_L_surelyDefined rfl rfl (Nat.le_of_ble_eq_true rfl) ⟨Nat.le_of_ble_eq_true rfl, Nat.le_of_ble_eq_true rfl⟩ ⟨cv_rmc (by omega), cv_rms (by omega)⟩ dL_law_795 (fun v97 s96 => ?_)
  refine cv_istore (lv' := [(6, .int v97), (0, .ref b), (1, .ref (G.1 0)), (2, .ref (G.1 10)), (3, .ref (G.1 66)), (4, .ref (G.1 67)), (5, .int l5)]) hC dL_law_798 (by decide) rfl ?_
  refine cv_aload_n hC 3 dL_law_800 rfl rfl ?_
  refine cv_aload_n hC 1 dL_law_801 rfl rfl ?_
  refine cv_iload hC 6 dL_law_802 rfl ?_
  refine cv_iconst (v := 1) hC dL_law_804 cb_iconst_1 ?_
  refine cv_iadd hC dL_law_805 ?_
  refine cv_sld hX hC dL_law_806 (fun v98 => ?_)
  refine cv_callVi (ob := 10) hC [.int v98] [] (M_X9_surelyDefined l G v98 s96) ln_L_173 vm_X9_surelyDefined (ob_10 G) rfl rfl (Nat.le_of_ble_eq_true rfl) ⟨Nat.le_of_ble_eq_true rfl, Nat.le_of_ble_eq_true rfl⟩ ⟨cv_rmc (by omega), cv_rms (by omega)⟩ dL_law_807 (fun v100 s99 => ?_)
  refine cv_istore (lv' := [(7, .int v100), (6, .int v97), (0, .ref b), (1, .ref (G.1 0)), (2, .ref (G.1 10)), (3, .ref (G.1 66)), (4, .ref (G.1 67)), (5, .int l5)]) hC dL_law_810 (by decide) rfl ?_
  refine cv_aload_n hC 4 dL_law_812 rfl rfl ?_
  refine cv_callVi (ob := 10) hC [] [] (M_X9_thrown l G s99) ln_L_139 vm_X9_thrown (ob_10 G) rfl rfl (Nat.le_of_ble_eq_true rfl) ⟨Nat.le_of_ble_eq_true rfl, Nat.le_of_ble_eq_true rfl⟩ ⟨cv_rmc (by omega), cv_rms (by omega)⟩ dL_law_813 (fun v102 s101 => ?_)
  refine cv_iload hC 1 dL_law_816 rfl ?_
  refine cv_icmp_eq (tgt := 823) hC dL_law_818 (by decide) ?_ ?_
  · refine cv_iload hC 1 dL_law_823 rfl ?_
    refine cv_if_ne (tgt := 840) hC dL_law_825 (by decide) ?_ ?_
    · exact cv_widen (by omega) (by omega) (cv_sub [2, 3, 4, 5, 6, 7] rfl (J_L_law_b840 htr hX hC hcb k28 hk28 l5 s101))
    · refine cv_aload_n hC 5 dL_law_828 rfl rfl ?_
      refine cv_iconst (v := 0) hC dL_law_829 cb_iconst_0 ?_
      refine cv_lald hC dL_law_830 (fun v103 => ?_)
      refine cv_iload hC 0 dL_law_831 rfl ?_
      refine cv_i2l hC dL_law_833 ?_
      refine cv_lcmp hC dL_law_834 ?_
      refine cv_if_eq (tgt := 840) hC dL_law_835 (by decide) ?_ ?_
      · exact cv_widen (by omega) (by omega) (cv_sub [2, 3, 4, 5, 6, 7] rfl (J_L_law_b840 htr hX hC hcb k28 hk28 l5 s101))
      · refine cv_iconst (v := 0) hC dL_law_838 cb_iconst_0 ?_
        exact cv_lret0 (by decide)
  · refine cv_iconst (v := 0) hC dL_law_821 cb_iconst_0 ?_
    exact cv_lret0 (by decide)
set_option maxRecDepth 20000 in
set_option maxHeartbeats 4000000 in
theorem J_L_law_b896 {p : Program} {l : Launch} {e : Env} {s : State} {m : MethodId} {below : List Frame} {meth : Method} {c : Code} {G : cv_G} {b L : Nat} {xs : Nat → Int32} (htr : l.stackTraces = false) (hX : cv_CL (p, l, e, room_1, s, m, #[Value.ref b], below, meth, c) G b L xs) (hC : cv_C (p, l, e, room_1, s, m, #[Value.ref b], below, meth, c) G l RL cL_law 9 (some .boolean) room_1) {cb sb : Nat} (hcb : cb + 10 ≤ 603072 ∧ sb + 60 ≤ 7161962) (k28 : Int32 → cv_St → Option (Int32 × cv_St)) (hk28 : ∀ (l5 : Int32)  σ, cv_J (p, l, e, room_1, s, m, #[Value.ref b], below, meth, c) G 9 (cb + 10) (sb + 60) (cv_QL (p, l, e, room_1, s, m, #[Value.ref b], below, meth, c) b) 28 [(0, .ref b), (1, .ref (G.1 0)), (2, .ref (G.1 10)), (3, .ref (G.1 66)), (4, .ref (G.1 67)), (5, .int l5)] [] σ (k28 l5 σ)) (l5 : Int32) (σ : cv_St) : cv_J (p, l, e, room_1, s, m, #[Value.ref b], below, meth, c) G 9 (cb + 10) (sb + 60) (cv_QL (p, l, e, room_1, s, m, #[Value.ref b], below, meth, c) b) 896 [(0, .ref b), (1, .ref (G.1 0)), (2, .ref (G.1 10)), (3, .ref (G.1 66)), (4, .ref (G.1 67)), (5, .int l5)] [] σ (F_L_law_b896 xs L k28 l5 σ) := by
  unfold F_L_law_b896
  refine cv_goto (tgt := 2188) hC dL_law_896 (by decide) ?_
  exact cv_sub [0, 1, 2, 3, 4, 5] rfl (J_L_law_b2188 htr hX hC hcb k28 hk28 l5 σ)
set_option maxRecDepth 20000 in
set_option maxHeartbeats 4000000 in
theorem J_L_law_b843 {p : Program} {l : Launch} {e : Env} {s : State} {m : MethodId} {below : List Frame} {meth : Method} {c : Code} {G : cv_G} {b L : Nat} {xs : Nat → Int32} (htr : l.stackTraces = false) (hX : cv_CL (p, l, e, room_1, s, m, #[Value.ref b], below, meth, c) G b L xs) (hC : cv_C (p, l, e, room_1, s, m, #[Value.ref b], below, meth, c) G l RL cL_law 9 (some .boolean) room_1) {cb sb : Nat} (hcb : cb + 10 ≤ 603072 ∧ sb + 60 ≤ 7161962) (k28 : Int32 → cv_St → Option (Int32 × cv_St)) (hk28 : ∀ (l5 : Int32)  σ, cv_J (p, l, e, room_1, s, m, #[Value.ref b], below, meth, c) G 9 (cb + 10) (sb + 60) (cv_QL (p, l, e, room_1, s, m, #[Value.ref b], below, meth, c) b) 28 [(0, .ref b), (1, .ref (G.1 0)), (2, .ref (G.1 10)), (3, .ref (G.1 66)), (4, .ref (G.1 67)), (5, .int l5)] [] σ (k28 l5 σ)) (l5 : Int32) (σ : cv_St) : cv_J (p, l, e, room_1, s, m, #[Value.ref b], below, meth, c) G 9 (cb + 0) (sb + 0) (cv_QL (p, l, e, room_1, s, m, #[Value.ref b], below, meth, c) b) 843 [(0, .ref b), (1, .ref (G.1 0)), (2, .ref (G.1 10)), (3, .ref (G.1 66)), (4, .ref (G.1 67)), (5, .int l5)] [] σ (F_L_law_b843 xs L k28 l5 σ) := by
  unfold F_L_law_b843
  refine cv_aload_n hC 1 dL_law_843 rfl rfl ?_
  refine cv_aload_n hC 0 dL_law_844 rfl rfl ?_
  refine cv_iload hC 5 dL_law_845 rfl ?_
  refine cv_iconst (v := 1) hC dL_law_847 cb_iconst_1 ?_
  refine cv_iadd hC dL_law_848 ?_
  refine cv_sld hX hC dL_law_849 (fun v104 => ?_)
  refine cv_aload_n hC 3 dL_law_850 rfl rfl ?_
  refine cv_callLi hX hC [.ref (G.1 0), .int v104, .ref (G.1 66)] [] (M_L_arguments htr G v104 σ) ln_L_174 sh_L_arguments rfl rfl (Nat.le_of_ble_eq_true rfl) ⟨Nat.le_of_ble_eq_true rfl, Nat.le_of_ble_eq_true rfl⟩ ⟨cv_rmc (by omega), cv_rms (by omega)⟩ dL_law_851 (fun v106 s105 => ?_)
  refine cv_istore (lv' := [(6, .int v106), (0, .ref b), (1, .ref (G.1 0)), (2, .ref (G.1 10)), (3, .ref (G.1 66)), (4, .ref (G.1 67)), (5, .int l5)]) hC dL_law_854 (by decide) rfl ?_
  refine cv_aload_n hC 3 dL_law_856 rfl rfl ?_
  refine cv_aload_n hC 1 dL_law_857 rfl rfl ?_
  refine cv_iload hC 6 dL_law_858 rfl ?_
  refine cv_iconst (v := 1) hC dL_law_860 cb_iconst_1 ?_
  refine cv_iadd hC dL_law_861 ?_
  refine cv_sld hX hC dL_law_862 (fun v107 => ?_)
  refine cv_callVi (ob := 10) hC [.int v107] [] (M_X9_arguments l G v107 s105) ln_L_176 vm_X9_arguments (ob_10 G) rfl rfl (Nat.le_of_ble_eq_true rfl) ⟨Nat.le_of_ble_eq_true rfl, Nat.le_of_ble_eq_true rfl⟩ ⟨cv_rmc (by omega), cv_rms (by omega)⟩ dL_law_863 (fun v109 s108 => ?_)
  refine cv_istore (lv' := [(7, .int v109), (6, .int v106), (0, .ref b), (1, .ref (G.1 0)), (2, .ref (G.1 10)), (3, .ref (G.1 66)), (4, .ref (G.1 67)), (5, .int l5)]) hC dL_law_866 (by decide) rfl ?_
  refine cv_aload_n hC 4 dL_law_868 rfl rfl ?_
  refine cv_callVi (ob := 10) hC [] [] (M_X9_thrown l G s108) ln_L_139 vm_X9_thrown (ob_10 G) rfl rfl (Nat.le_of_ble_eq_true rfl) ⟨Nat.le_of_ble_eq_true rfl, Nat.le_of_ble_eq_true rfl⟩ ⟨cv_rmc (by omega), cv_rms (by omega)⟩ dL_law_869 (fun v111 s110 => ?_)
  refine cv_iload hC 1 dL_law_872 rfl ?_
  refine cv_icmp_eq (tgt := 879) hC dL_law_874 (by decide) ?_ ?_
  · refine cv_iload hC 1 dL_law_879 rfl ?_
    refine cv_if_ne (tgt := 896) hC dL_law_881 (by decide) ?_ ?_
    · exact cv_widen (by omega) (by omega) (cv_sub [2, 3, 4, 5, 6, 7] rfl (J_L_law_b896 htr hX hC hcb k28 hk28 l5 s110))
    · refine cv_aload_n hC 5 dL_law_884 rfl rfl ?_
      refine cv_iconst (v := 0) hC dL_law_885 cb_iconst_0 ?_
      refine cv_lald hC dL_law_886 (fun v112 => ?_)
      refine cv_iload hC 0 dL_law_887 rfl ?_
      refine cv_i2l hC dL_law_889 ?_
      refine cv_lcmp hC dL_law_890 ?_
      refine cv_if_eq (tgt := 896) hC dL_law_891 (by decide) ?_ ?_
      · exact cv_widen (by omega) (by omega) (cv_sub [2, 3, 4, 5, 6, 7] rfl (J_L_law_b896 htr hX hC hcb k28 hk28 l5 s110))
      · refine cv_iconst (v := 0) hC dL_law_894 cb_iconst_0 ?_
        exact cv_lret0 (by decide)
  · refine cv_iconst (v := 0) hC dL_law_877 cb_iconst_0 ?_
    exact cv_lret0 (by decide)
set_option maxRecDepth 20000 in
set_option maxHeartbeats 4000000 in
theorem J_L_law_b952 {p : Program} {l : Launch} {e : Env} {s : State} {m : MethodId} {below : List Frame} {meth : Method} {c : Code} {G : cv_G} {b L : Nat} {xs : Nat → Int32} (htr : l.stackTraces = false) (hX : cv_CL (p, l, e, room_1, s, m, #[Value.ref b], below, meth, c) G b L xs) (hC : cv_C (p, l, e, room_1, s, m, #[Value.ref b], below, meth, c) G l RL cL_law 9 (some .boolean) room_1) {cb sb : Nat} (hcb : cb + 10 ≤ 603072 ∧ sb + 60 ≤ 7161962) (k28 : Int32 → cv_St → Option (Int32 × cv_St)) (hk28 : ∀ (l5 : Int32)  σ, cv_J (p, l, e, room_1, s, m, #[Value.ref b], below, meth, c) G 9 (cb + 10) (sb + 60) (cv_QL (p, l, e, room_1, s, m, #[Value.ref b], below, meth, c) b) 28 [(0, .ref b), (1, .ref (G.1 0)), (2, .ref (G.1 10)), (3, .ref (G.1 66)), (4, .ref (G.1 67)), (5, .int l5)] [] σ (k28 l5 σ)) (l5 : Int32) (σ : cv_St) : cv_J (p, l, e, room_1, s, m, #[Value.ref b], below, meth, c) G 9 (cb + 10) (sb + 60) (cv_QL (p, l, e, room_1, s, m, #[Value.ref b], below, meth, c) b) 952 [(0, .ref b), (1, .ref (G.1 0)), (2, .ref (G.1 10)), (3, .ref (G.1 66)), (4, .ref (G.1 67)), (5, .int l5)] [] σ (F_L_law_b952 xs L k28 l5 σ) := by
  unfold F_L_law_b952
  refine cv_goto (tgt := 2188) hC dL_law_952 (by decide) ?_
  exact cv_sub [0, 1, 2, 3, 4, 5] rfl (J_L_law_b2188 htr hX hC hcb k28 hk28 l5 σ)
set_option maxRecDepth 20000 in
set_option maxHeartbeats 4000000 in
theorem J_L_law_b899 {p : Program} {l : Launch} {e : Env} {s : State} {m : MethodId} {below : List Frame} {meth : Method} {c : Code} {G : cv_G} {b L : Nat} {xs : Nat → Int32} (htr : l.stackTraces = false) (hX : cv_CL (p, l, e, room_1, s, m, #[Value.ref b], below, meth, c) G b L xs) (hC : cv_C (p, l, e, room_1, s, m, #[Value.ref b], below, meth, c) G l RL cL_law 9 (some .boolean) room_1) {cb sb : Nat} (hcb : cb + 10 ≤ 603072 ∧ sb + 60 ≤ 7161962) (k28 : Int32 → cv_St → Option (Int32 × cv_St)) (hk28 : ∀ (l5 : Int32)  σ, cv_J (p, l, e, room_1, s, m, #[Value.ref b], below, meth, c) G 9 (cb + 10) (sb + 60) (cv_QL (p, l, e, room_1, s, m, #[Value.ref b], below, meth, c) b) 28 [(0, .ref b), (1, .ref (G.1 0)), (2, .ref (G.1 10)), (3, .ref (G.1 66)), (4, .ref (G.1 67)), (5, .int l5)] [] σ (k28 l5 σ)) (l5 : Int32) (σ : cv_St) : cv_J (p, l, e, room_1, s, m, #[Value.ref b], below, meth, c) G 9 (cb + 0) (sb + 0) (cv_QL (p, l, e, room_1, s, m, #[Value.ref b], below, meth, c) b) 899 [(0, .ref b), (1, .ref (G.1 0)), (2, .ref (G.1 10)), (3, .ref (G.1 66)), (4, .ref (G.1 67)), (5, .int l5)] [] σ (F_L_law_b899 xs L k28 l5 σ) := by
  unfold F_L_law_b899
  refine cv_aload_n hC 1 dL_law_899 rfl rfl ?_
  refine cv_aload_n hC 0 dL_law_900 rfl rfl ?_
  refine cv_iload hC 5 dL_law_901 rfl ?_
  refine cv_iconst (v := 1) hC dL_law_903 cb_iconst_1 ?_
  refine cv_iadd hC dL_law_904 ?_
  refine cv_sld hX hC dL_law_905 (fun v113 => ?_)
  refine cv_aload_n hC 3 dL_law_906 rfl rfl ?_
  refine cv_callLi hX hC [.ref (G.1 0), .int v113, .ref (G.1 66)] [] (M_L_results htr G v113 σ) ln_L_177 sh_L_results rfl rfl (Nat.le_of_ble_eq_true rfl) ⟨Nat.le_of_ble_eq_true rfl, Nat.le_of_ble_eq_true rfl⟩ ⟨cv_rmc (by omega), cv_rms (by omega)⟩ dL_law_907 (fun v115 s114 => ?_)
  refine cv_istore (lv' := [(6, .int v115), (0, .ref b), (1, .ref (G.1 0)), (2, .ref (G.1 10)), (3, .ref (G.1 66)), (4, .ref (G.1 67)), (5, .int l5)]) hC dL_law_910 (by decide) rfl ?_
  refine cv_aload_n hC 3 dL_law_912 rfl rfl ?_
  refine cv_aload_n hC 1 dL_law_913 rfl rfl ?_
  refine cv_iload hC 6 dL_law_914 rfl ?_
  refine cv_iconst (v := 1) hC dL_law_916 cb_iconst_1 ?_
  refine cv_iadd hC dL_law_917 ?_
  refine cv_sld hX hC dL_law_918 (fun v116 => ?_)
  refine cv_callVi (ob := 10) hC [.int v116] [] (M_X9_results l G v116 s114) ln_L_179 vm_X9_results (ob_10 G) rfl rfl (Nat.le_of_ble_eq_true rfl) ⟨Nat.le_of_ble_eq_true rfl, Nat.le_of_ble_eq_true rfl⟩ ⟨cv_rmc (by omega), cv_rms (by omega)⟩ dL_law_919 (fun v118 s117 => ?_)
  refine cv_istore (lv' := [(7, .int v118), (6, .int v115), (0, .ref b), (1, .ref (G.1 0)), (2, .ref (G.1 10)), (3, .ref (G.1 66)), (4, .ref (G.1 67)), (5, .int l5)]) hC dL_law_922 (by decide) rfl ?_
  refine cv_aload_n hC 4 dL_law_924 rfl rfl ?_
  refine cv_callVi (ob := 10) hC [] [] (M_X9_thrown l G s117) ln_L_139 vm_X9_thrown (ob_10 G) rfl rfl (Nat.le_of_ble_eq_true rfl) ⟨Nat.le_of_ble_eq_true rfl, Nat.le_of_ble_eq_true rfl⟩ ⟨cv_rmc (by omega), cv_rms (by omega)⟩ dL_law_925 (fun v120 s119 => ?_)
  refine cv_iload hC 1 dL_law_928 rfl ?_
  refine cv_icmp_eq (tgt := 935) hC dL_law_930 (by decide) ?_ ?_
  · refine cv_iload hC 1 dL_law_935 rfl ?_
    refine cv_if_ne (tgt := 952) hC dL_law_937 (by decide) ?_ ?_
    · exact cv_widen (by omega) (by omega) (cv_sub [2, 3, 4, 5, 6, 7] rfl (J_L_law_b952 htr hX hC hcb k28 hk28 l5 s119))
    · refine cv_aload_n hC 5 dL_law_940 rfl rfl ?_
      refine cv_iconst (v := 0) hC dL_law_941 cb_iconst_0 ?_
      refine cv_lald hC dL_law_942 (fun v121 => ?_)
      refine cv_iload hC 0 dL_law_943 rfl ?_
      refine cv_i2l hC dL_law_945 ?_
      refine cv_lcmp hC dL_law_946 ?_
      refine cv_if_eq (tgt := 952) hC dL_law_947 (by decide) ?_ ?_
      · exact cv_widen (by omega) (by omega) (cv_sub [2, 3, 4, 5, 6, 7] rfl (J_L_law_b952 htr hX hC hcb k28 hk28 l5 s119))
      · refine cv_iconst (v := 0) hC dL_law_950 cb_iconst_0 ?_
        exact cv_lret0 (by decide)
  · refine cv_iconst (v := 0) hC dL_law_933 cb_iconst_0 ?_
    exact cv_lret0 (by decide)
set_option maxRecDepth 20000 in
set_option maxHeartbeats 4000000 in
theorem J_L_law_b1020 {p : Program} {l : Launch} {e : Env} {s : State} {m : MethodId} {below : List Frame} {meth : Method} {c : Code} {G : cv_G} {b L : Nat} {xs : Nat → Int32} (htr : l.stackTraces = false) (hX : cv_CL (p, l, e, room_1, s, m, #[Value.ref b], below, meth, c) G b L xs) (hC : cv_C (p, l, e, room_1, s, m, #[Value.ref b], below, meth, c) G l RL cL_law 9 (some .boolean) room_1) {cb sb : Nat} (hcb : cb + 10 ≤ 603072 ∧ sb + 60 ≤ 7161962) (k28 : Int32 → cv_St → Option (Int32 × cv_St)) (hk28 : ∀ (l5 : Int32)  σ, cv_J (p, l, e, room_1, s, m, #[Value.ref b], below, meth, c) G 9 (cb + 10) (sb + 60) (cv_QL (p, l, e, room_1, s, m, #[Value.ref b], below, meth, c) b) 28 [(0, .ref b), (1, .ref (G.1 0)), (2, .ref (G.1 10)), (3, .ref (G.1 66)), (4, .ref (G.1 67)), (5, .int l5)] [] σ (k28 l5 σ)) (l5 : Int32) (σ : cv_St) : cv_J (p, l, e, room_1, s, m, #[Value.ref b], below, meth, c) G 9 (cb + 10) (sb + 60) (cv_QL (p, l, e, room_1, s, m, #[Value.ref b], below, meth, c) b) 1020 [(0, .ref b), (1, .ref (G.1 0)), (2, .ref (G.1 10)), (3, .ref (G.1 66)), (4, .ref (G.1 67)), (5, .int l5)] [] σ (F_L_law_b1020 xs L k28 l5 σ) := by
  unfold F_L_law_b1020
  refine cv_goto (tgt := 2188) hC dL_law_1020 (by decide) ?_
  exact cv_sub [0, 1, 2, 3, 4, 5] rfl (J_L_law_b2188 htr hX hC hcb k28 hk28 l5 σ)
set_option maxRecDepth 20000 in
set_option maxHeartbeats 4000000 in
theorem J_L_law_b955 {p : Program} {l : Launch} {e : Env} {s : State} {m : MethodId} {below : List Frame} {meth : Method} {c : Code} {G : cv_G} {b L : Nat} {xs : Nat → Int32} (htr : l.stackTraces = false) (hX : cv_CL (p, l, e, room_1, s, m, #[Value.ref b], below, meth, c) G b L xs) (hC : cv_C (p, l, e, room_1, s, m, #[Value.ref b], below, meth, c) G l RL cL_law 9 (some .boolean) room_1) {cb sb : Nat} (hcb : cb + 10 ≤ 603072 ∧ sb + 60 ≤ 7161962) (k28 : Int32 → cv_St → Option (Int32 × cv_St)) (hk28 : ∀ (l5 : Int32)  σ, cv_J (p, l, e, room_1, s, m, #[Value.ref b], below, meth, c) G 9 (cb + 10) (sb + 60) (cv_QL (p, l, e, room_1, s, m, #[Value.ref b], below, meth, c) b) 28 [(0, .ref b), (1, .ref (G.1 0)), (2, .ref (G.1 10)), (3, .ref (G.1 66)), (4, .ref (G.1 67)), (5, .int l5)] [] σ (k28 l5 σ)) (l5 : Int32) (σ : cv_St) : cv_J (p, l, e, room_1, s, m, #[Value.ref b], below, meth, c) G 9 (cb + 0) (sb + 0) (cv_QL (p, l, e, room_1, s, m, #[Value.ref b], below, meth, c) b) 955 [(0, .ref b), (1, .ref (G.1 0)), (2, .ref (G.1 10)), (3, .ref (G.1 66)), (4, .ref (G.1 67)), (5, .int l5)] [] σ (F_L_law_b955 xs L k28 l5 σ) := by
  unfold F_L_law_b955
  refine cv_aload_n hC 1 dL_law_955 rfl rfl ?_
  refine cv_aload_n hC 0 dL_law_956 rfl rfl ?_
  refine cv_iload hC 5 dL_law_957 rfl ?_
  refine cv_iconst (v := 1) hC dL_law_959 cb_iconst_1 ?_
  refine cv_iadd hC dL_law_960 ?_
  refine cv_sld hX hC dL_law_961 (fun v122 => ?_)
  refine cv_aload_n hC 0 dL_law_962 rfl rfl ?_
  refine cv_iload hC 5 dL_law_963 rfl ?_
  refine cv_iconst (v := 2) hC dL_law_965 cb_iconst_2 ?_
  refine cv_iadd hC dL_law_966 ?_
  refine cv_sld hX hC dL_law_967 (fun v123 => ?_)
  refine cv_aload_n hC 3 dL_law_968 rfl rfl ?_
  refine cv_callLi hX hC [.ref (G.1 0), .int v122, .int v123, .ref (G.1 66)] [] (M_L_liveBefore htr G v122 v123 σ) ln_L_180 sh_L_liveBefore rfl rfl (Nat.le_of_ble_eq_true rfl) ⟨Nat.le_of_ble_eq_true rfl, Nat.le_of_ble_eq_true rfl⟩ ⟨cv_rmc (by omega), cv_rms (by omega)⟩ dL_law_969 (fun v125 s124 => ?_)
  refine cv_istore (lv' := [(6, .int v125), (0, .ref b), (1, .ref (G.1 0)), (2, .ref (G.1 10)), (3, .ref (G.1 66)), (4, .ref (G.1 67)), (5, .int l5)]) hC dL_law_972 (by decide) rfl ?_
  refine cv_aload_n hC 3 dL_law_974 rfl rfl ?_
  refine cv_aload_n hC 1 dL_law_975 rfl rfl ?_
  refine cv_iload hC 6 dL_law_976 rfl ?_
  refine cv_iconst (v := 1) hC dL_law_978 cb_iconst_1 ?_
  refine cv_iadd hC dL_law_979 ?_
  refine cv_sld hX hC dL_law_980 (fun v126 => ?_)
  refine cv_aload_n hC 1 dL_law_981 rfl rfl ?_
  refine cv_iload hC 6 dL_law_982 rfl ?_
  refine cv_iconst (v := 2) hC dL_law_984 cb_iconst_2 ?_
  refine cv_iadd hC dL_law_985 ?_
  refine cv_sld hX hC dL_law_986 (fun v127 => ?_)
  refine cv_callVi (ob := 10) hC [.int v126, .int v127] [] (M_X9_liveBefore l G v126 v127 s124) ln_L_182 vm_X9_liveBefore (ob_10 G) rfl rfl (Nat.le_of_ble_eq_true rfl) ⟨Nat.le_of_ble_eq_true rfl, Nat.le_of_ble_eq_true rfl⟩ ⟨cv_rmc (by omega), cv_rms (by omega)⟩ dL_law_987 (fun v129 s128 => ?_)
  refine cv_istore (lv' := [(7, .int v129), (6, .int v125), (0, .ref b), (1, .ref (G.1 0)), (2, .ref (G.1 10)), (3, .ref (G.1 66)), (4, .ref (G.1 67)), (5, .int l5)]) hC dL_law_990 (by decide) rfl ?_
  refine cv_aload_n hC 4 dL_law_992 rfl rfl ?_
  refine cv_callVi (ob := 10) hC [] [] (M_X9_thrown l G s128) ln_L_139 vm_X9_thrown (ob_10 G) rfl rfl (Nat.le_of_ble_eq_true rfl) ⟨Nat.le_of_ble_eq_true rfl, Nat.le_of_ble_eq_true rfl⟩ ⟨cv_rmc (by omega), cv_rms (by omega)⟩ dL_law_993 (fun v131 s130 => ?_)
  refine cv_iload hC 1 dL_law_996 rfl ?_
  refine cv_icmp_eq (tgt := 1003) hC dL_law_998 (by decide) ?_ ?_
  · refine cv_iload hC 1 dL_law_1003 rfl ?_
    refine cv_if_ne (tgt := 1020) hC dL_law_1005 (by decide) ?_ ?_
    · exact cv_widen (by omega) (by omega) (cv_sub [2, 3, 4, 5, 6, 7] rfl (J_L_law_b1020 htr hX hC hcb k28 hk28 l5 s130))
    · refine cv_aload_n hC 5 dL_law_1008 rfl rfl ?_
      refine cv_iconst (v := 0) hC dL_law_1009 cb_iconst_0 ?_
      refine cv_lald hC dL_law_1010 (fun v132 => ?_)
      refine cv_iload hC 0 dL_law_1011 rfl ?_
      refine cv_i2l hC dL_law_1013 ?_
      refine cv_lcmp hC dL_law_1014 ?_
      refine cv_if_eq (tgt := 1020) hC dL_law_1015 (by decide) ?_ ?_
      · exact cv_widen (by omega) (by omega) (cv_sub [2, 3, 4, 5, 6, 7] rfl (J_L_law_b1020 htr hX hC hcb k28 hk28 l5 s130))
      · refine cv_iconst (v := 0) hC dL_law_1018 cb_iconst_0 ?_
        exact cv_lret0 (by decide)
  · refine cv_iconst (v := 0) hC dL_law_1001 cb_iconst_0 ?_
    exact cv_lret0 (by decide)
set_option maxRecDepth 20000 in
set_option maxHeartbeats 4000000 in
theorem J_L_law_b1076 {p : Program} {l : Launch} {e : Env} {s : State} {m : MethodId} {below : List Frame} {meth : Method} {c : Code} {G : cv_G} {b L : Nat} {xs : Nat → Int32} (htr : l.stackTraces = false) (hX : cv_CL (p, l, e, room_1, s, m, #[Value.ref b], below, meth, c) G b L xs) (hC : cv_C (p, l, e, room_1, s, m, #[Value.ref b], below, meth, c) G l RL cL_law 9 (some .boolean) room_1) {cb sb : Nat} (hcb : cb + 10 ≤ 603072 ∧ sb + 60 ≤ 7161962) (k28 : Int32 → cv_St → Option (Int32 × cv_St)) (hk28 : ∀ (l5 : Int32)  σ, cv_J (p, l, e, room_1, s, m, #[Value.ref b], below, meth, c) G 9 (cb + 10) (sb + 60) (cv_QL (p, l, e, room_1, s, m, #[Value.ref b], below, meth, c) b) 28 [(0, .ref b), (1, .ref (G.1 0)), (2, .ref (G.1 10)), (3, .ref (G.1 66)), (4, .ref (G.1 67)), (5, .int l5)] [] σ (k28 l5 σ)) (l5 : Int32) (σ : cv_St) : cv_J (p, l, e, room_1, s, m, #[Value.ref b], below, meth, c) G 9 (cb + 10) (sb + 60) (cv_QL (p, l, e, room_1, s, m, #[Value.ref b], below, meth, c) b) 1076 [(0, .ref b), (1, .ref (G.1 0)), (2, .ref (G.1 10)), (3, .ref (G.1 66)), (4, .ref (G.1 67)), (5, .int l5)] [] σ (F_L_law_b1076 xs L k28 l5 σ) := by
  unfold F_L_law_b1076
  refine cv_goto (tgt := 2188) hC dL_law_1076 (by decide) ?_
  exact cv_sub [0, 1, 2, 3, 4, 5] rfl (J_L_law_b2188 htr hX hC hcb k28 hk28 l5 σ)
set_option maxRecDepth 20000 in
set_option maxHeartbeats 4000000 in
theorem J_L_law_b1023 {p : Program} {l : Launch} {e : Env} {s : State} {m : MethodId} {below : List Frame} {meth : Method} {c : Code} {G : cv_G} {b L : Nat} {xs : Nat → Int32} (htr : l.stackTraces = false) (hX : cv_CL (p, l, e, room_1, s, m, #[Value.ref b], below, meth, c) G b L xs) (hC : cv_C (p, l, e, room_1, s, m, #[Value.ref b], below, meth, c) G l RL cL_law 9 (some .boolean) room_1) {cb sb : Nat} (hcb : cb + 10 ≤ 603072 ∧ sb + 60 ≤ 7161962) (k28 : Int32 → cv_St → Option (Int32 × cv_St)) (hk28 : ∀ (l5 : Int32)  σ, cv_J (p, l, e, room_1, s, m, #[Value.ref b], below, meth, c) G 9 (cb + 10) (sb + 60) (cv_QL (p, l, e, room_1, s, m, #[Value.ref b], below, meth, c) b) 28 [(0, .ref b), (1, .ref (G.1 0)), (2, .ref (G.1 10)), (3, .ref (G.1 66)), (4, .ref (G.1 67)), (5, .int l5)] [] σ (k28 l5 σ)) (l5 : Int32) (σ : cv_St) : cv_J (p, l, e, room_1, s, m, #[Value.ref b], below, meth, c) G 9 (cb + 0) (sb + 0) (cv_QL (p, l, e, room_1, s, m, #[Value.ref b], below, meth, c) b) 1023 [(0, .ref b), (1, .ref (G.1 0)), (2, .ref (G.1 10)), (3, .ref (G.1 66)), (4, .ref (G.1 67)), (5, .int l5)] [] σ (F_L_law_b1023 xs L k28 l5 σ) := by
  unfold F_L_law_b1023
  refine cv_aload_n hC 1 dL_law_1023 rfl rfl ?_
  refine cv_aload_n hC 0 dL_law_1024 rfl rfl ?_
  refine cv_iload hC 5 dL_law_1025 rfl ?_
  refine cv_iconst (v := 1) hC dL_law_1027 cb_iconst_1 ?_
  refine cv_iadd hC dL_law_1028 ?_
  refine cv_sld hX hC dL_law_1029 (fun v133 => ?_)
  refine cv_aload_n hC 3 dL_law_1030 rfl rfl ?_
  refine cv_callLi hX hC [.ref (G.1 0), .int v133, .ref (G.1 66)] [] (M_L_neededSlots htr G v133 σ) ln_L_183 sh_L_neededSlots rfl rfl (Nat.le_of_ble_eq_true rfl) ⟨Nat.le_of_ble_eq_true rfl, Nat.le_of_ble_eq_true rfl⟩ ⟨cv_rmc (by omega), cv_rms (by omega)⟩ dL_law_1031 (fun v135 s134 => ?_)
  refine cv_istore (lv' := [(6, .int v135), (0, .ref b), (1, .ref (G.1 0)), (2, .ref (G.1 10)), (3, .ref (G.1 66)), (4, .ref (G.1 67)), (5, .int l5)]) hC dL_law_1034 (by decide) rfl ?_
  refine cv_aload_n hC 3 dL_law_1036 rfl rfl ?_
  refine cv_aload_n hC 1 dL_law_1037 rfl rfl ?_
  refine cv_iload hC 6 dL_law_1038 rfl ?_
  refine cv_iconst (v := 1) hC dL_law_1040 cb_iconst_1 ?_
  refine cv_iadd hC dL_law_1041 ?_
  refine cv_sld hX hC dL_law_1042 (fun v136 => ?_)
  refine cv_callVi (ob := 10) hC [.int v136] [] (M_X9_neededSlots l G v136 s134) ln_L_185 vm_X9_neededSlots (ob_10 G) rfl rfl (Nat.le_of_ble_eq_true rfl) ⟨Nat.le_of_ble_eq_true rfl, Nat.le_of_ble_eq_true rfl⟩ ⟨cv_rmc (by omega), cv_rms (by omega)⟩ dL_law_1043 (fun v138 s137 => ?_)
  refine cv_istore (lv' := [(7, .int v138), (6, .int v135), (0, .ref b), (1, .ref (G.1 0)), (2, .ref (G.1 10)), (3, .ref (G.1 66)), (4, .ref (G.1 67)), (5, .int l5)]) hC dL_law_1046 (by decide) rfl ?_
  refine cv_aload_n hC 4 dL_law_1048 rfl rfl ?_
  refine cv_callVi (ob := 10) hC [] [] (M_X9_thrown l G s137) ln_L_139 vm_X9_thrown (ob_10 G) rfl rfl (Nat.le_of_ble_eq_true rfl) ⟨Nat.le_of_ble_eq_true rfl, Nat.le_of_ble_eq_true rfl⟩ ⟨cv_rmc (by omega), cv_rms (by omega)⟩ dL_law_1049 (fun v140 s139 => ?_)
  refine cv_iload hC 1 dL_law_1052 rfl ?_
  refine cv_icmp_eq (tgt := 1059) hC dL_law_1054 (by decide) ?_ ?_
  · refine cv_iload hC 1 dL_law_1059 rfl ?_
    refine cv_if_ne (tgt := 1076) hC dL_law_1061 (by decide) ?_ ?_
    · exact cv_widen (by omega) (by omega) (cv_sub [2, 3, 4, 5, 6, 7] rfl (J_L_law_b1076 htr hX hC hcb k28 hk28 l5 s139))
    · refine cv_aload_n hC 5 dL_law_1064 rfl rfl ?_
      refine cv_iconst (v := 0) hC dL_law_1065 cb_iconst_0 ?_
      refine cv_lald hC dL_law_1066 (fun v141 => ?_)
      refine cv_iload hC 0 dL_law_1067 rfl ?_
      refine cv_i2l hC dL_law_1069 ?_
      refine cv_lcmp hC dL_law_1070 ?_
      refine cv_if_eq (tgt := 1076) hC dL_law_1071 (by decide) ?_ ?_
      · exact cv_widen (by omega) (by omega) (cv_sub [2, 3, 4, 5, 6, 7] rfl (J_L_law_b1076 htr hX hC hcb k28 hk28 l5 s139))
      · refine cv_iconst (v := 0) hC dL_law_1074 cb_iconst_0 ?_
        exact cv_lret0 (by decide)
  · refine cv_iconst (v := 0) hC dL_law_1057 cb_iconst_0 ?_
    exact cv_lret0 (by decide)
set_option maxRecDepth 20000 in
set_option maxHeartbeats 4000000 in
theorem J_L_law_b1139 {p : Program} {l : Launch} {e : Env} {s : State} {m : MethodId} {below : List Frame} {meth : Method} {c : Code} {G : cv_G} {b L : Nat} {xs : Nat → Int32} (htr : l.stackTraces = false) (hX : cv_CL (p, l, e, room_1, s, m, #[Value.ref b], below, meth, c) G b L xs) (hC : cv_C (p, l, e, room_1, s, m, #[Value.ref b], below, meth, c) G l RL cL_law 9 (some .boolean) room_1) {cb sb : Nat} (hcb : cb + 10 ≤ 603072 ∧ sb + 60 ≤ 7161962) (k28 : Int32 → cv_St → Option (Int32 × cv_St)) (hk28 : ∀ (l5 : Int32)  σ, cv_J (p, l, e, room_1, s, m, #[Value.ref b], below, meth, c) G 9 (cb + 10) (sb + 60) (cv_QL (p, l, e, room_1, s, m, #[Value.ref b], below, meth, c) b) 28 [(0, .ref b), (1, .ref (G.1 0)), (2, .ref (G.1 10)), (3, .ref (G.1 66)), (4, .ref (G.1 67)), (5, .int l5)] [] σ (k28 l5 σ)) (l5 : Int32) (σ : cv_St) : cv_J (p, l, e, room_1, s, m, #[Value.ref b], below, meth, c) G 9 (cb + 10) (sb + 60) (cv_QL (p, l, e, room_1, s, m, #[Value.ref b], below, meth, c) b) 1139 [(0, .ref b), (1, .ref (G.1 0)), (2, .ref (G.1 10)), (3, .ref (G.1 66)), (4, .ref (G.1 67)), (5, .int l5)] [] σ (F_L_law_b1139 xs L k28 l5 σ) := by
  unfold F_L_law_b1139
  refine cv_goto (tgt := 2188) hC dL_law_1139 (by decide) ?_
  exact cv_sub [0, 1, 2, 3, 4, 5] rfl (J_L_law_b2188 htr hX hC hcb k28 hk28 l5 σ)
set_option maxRecDepth 20000 in
set_option maxHeartbeats 4000000 in
theorem J_L_law_b1133 {p : Program} {l : Launch} {e : Env} {s : State} {m : MethodId} {below : List Frame} {meth : Method} {c : Code} {G : cv_G} {b L : Nat} {xs : Nat → Int32} (htr : l.stackTraces = false) (hX : cv_CL (p, l, e, room_1, s, m, #[Value.ref b], below, meth, c) G b L xs) (hC : cv_C (p, l, e, room_1, s, m, #[Value.ref b], below, meth, c) G l RL cL_law 9 (some .boolean) room_1) {cb sb : Nat} (hcb : cb + 10 ≤ 603072 ∧ sb + 60 ≤ 7161962) (k28 : Int32 → cv_St → Option (Int32 × cv_St)) (hk28 : ∀ (l5 : Int32)  σ, cv_J (p, l, e, room_1, s, m, #[Value.ref b], below, meth, c) G 9 (cb + 10) (sb + 60) (cv_QL (p, l, e, room_1, s, m, #[Value.ref b], below, meth, c) b) 28 [(0, .ref b), (1, .ref (G.1 0)), (2, .ref (G.1 10)), (3, .ref (G.1 66)), (4, .ref (G.1 67)), (5, .int l5)] [] σ (k28 l5 σ)) (l5 : Int32) (t0 : Int64) (t1 : Int64) (σ : cv_St) : cv_J (p, l, e, room_1, s, m, #[Value.ref b], below, meth, c) G 9 (cb + 10) (sb + 60) (cv_QL (p, l, e, room_1, s, m, #[Value.ref b], below, meth, c) b) 1133 [(0, .ref b), (1, .ref (G.1 0)), (2, .ref (G.1 10)), (3, .ref (G.1 66)), (4, .ref (G.1 67)), (5, .int l5)] [.long t0, .long t1] σ (F_L_law_b1133 xs L k28 l5 t0 t1 σ) := by
  unfold F_L_law_b1133
  refine cv_lcmp hC dL_law_1133 ?_
  refine cv_if_eq (tgt := 1139) hC dL_law_1134 (by decide) ?_ ?_
  · exact cv_sub [0, 1, 2, 3, 4, 5] rfl (J_L_law_b1139 htr hX hC hcb k28 hk28 l5 σ)
  · refine cv_iconst (v := 0) hC dL_law_1137 cb_iconst_0 ?_
    exact cv_lret0 (by decide)
set_option maxRecDepth 20000 in
set_option maxHeartbeats 4000000 in
theorem J_L_law_b1079 {p : Program} {l : Launch} {e : Env} {s : State} {m : MethodId} {below : List Frame} {meth : Method} {c : Code} {G : cv_G} {b L : Nat} {xs : Nat → Int32} (htr : l.stackTraces = false) (hX : cv_CL (p, l, e, room_1, s, m, #[Value.ref b], below, meth, c) G b L xs) (hC : cv_C (p, l, e, room_1, s, m, #[Value.ref b], below, meth, c) G l RL cL_law 9 (some .boolean) room_1) {cb sb : Nat} (hcb : cb + 10 ≤ 603072 ∧ sb + 60 ≤ 7161962) (k28 : Int32 → cv_St → Option (Int32 × cv_St)) (hk28 : ∀ (l5 : Int32)  σ, cv_J (p, l, e, room_1, s, m, #[Value.ref b], below, meth, c) G 9 (cb + 10) (sb + 60) (cv_QL (p, l, e, room_1, s, m, #[Value.ref b], below, meth, c) b) 28 [(0, .ref b), (1, .ref (G.1 0)), (2, .ref (G.1 10)), (3, .ref (G.1 66)), (4, .ref (G.1 67)), (5, .int l5)] [] σ (k28 l5 σ)) (l5 : Int32) (σ : cv_St) : cv_J (p, l, e, room_1, s, m, #[Value.ref b], below, meth, c) G 9 (cb + 0) (sb + 0) (cv_QL (p, l, e, room_1, s, m, #[Value.ref b], below, meth, c) b) 1079 [(0, .ref b), (1, .ref (G.1 0)), (2, .ref (G.1 10)), (3, .ref (G.1 66)), (4, .ref (G.1 67)), (5, .int l5)] [] σ (F_L_law_b1079 xs L k28 l5 σ) := by
  unfold F_L_law_b1079
  refine cv_aload_n hC 1 dL_law_1079 rfl rfl ?_
  refine cv_aload_n hC 0 dL_law_1080 rfl rfl ?_
  refine cv_iload hC 5 dL_law_1081 rfl ?_
  refine cv_iconst (v := 1) hC dL_law_1083 cb_iconst_1 ?_
  refine cv_iadd hC dL_law_1084 ?_
  refine cv_sld hX hC dL_law_1085 (fun v142 => ?_)
  refine cv_aload_n hC 3 dL_law_1086 rfl rfl ?_
  refine cv_callLi hX hC [.ref (G.1 0), .int v142, .ref (G.1 66)] [] (M_L_isVariadic htr G v142 σ) ln_L_186 sh_L_isVariadic rfl rfl (Nat.le_of_ble_eq_true rfl) ⟨Nat.le_of_ble_eq_true rfl, Nat.le_of_ble_eq_true rfl⟩ ⟨cv_rmc (by omega), cv_rms (by omega)⟩ dL_law_1087 (fun v144 s143 => ?_)
  refine cv_istore (lv' := [(6, .int v144), (0, .ref b), (1, .ref (G.1 0)), (2, .ref (G.1 10)), (3, .ref (G.1 66)), (4, .ref (G.1 67)), (5, .int l5)]) hC dL_law_1090 (by decide) rfl ?_
  refine cv_aload_n hC 3 dL_law_1092 rfl rfl ?_
  refine cv_aload_n hC 1 dL_law_1093 rfl rfl ?_
  refine cv_iload hC 6 dL_law_1094 rfl ?_
  refine cv_iconst (v := 1) hC dL_law_1096 cb_iconst_1 ?_
  refine cv_iadd hC dL_law_1097 ?_
  refine cv_sld hX hC dL_law_1098 (fun v145 => ?_)
  refine cv_callVi (ob := 10) hC [.int v145] [] (M_X9_isVariadic l G v145 s143) ln_L_188 vm_X9_isVariadic (ob_10 G) rfl rfl (Nat.le_of_ble_eq_true rfl) ⟨Nat.le_of_ble_eq_true rfl, Nat.le_of_ble_eq_true rfl⟩ ⟨cv_rmc (by omega), cv_rms (by omega)⟩ dL_law_1099 (fun v147 s146 => ?_)
  refine cv_istore (lv' := [(7, .int v147), (6, .int v144), (0, .ref b), (1, .ref (G.1 0)), (2, .ref (G.1 10)), (3, .ref (G.1 66)), (4, .ref (G.1 67)), (5, .int l5)]) hC dL_law_1102 (by decide) rfl ?_
  refine cv_aload_n hC 4 dL_law_1104 rfl rfl ?_
  refine cv_callVi (ob := 10) hC [] [] (M_X9_thrown l G s146) ln_L_139 vm_X9_thrown (ob_10 G) rfl rfl (Nat.le_of_ble_eq_true rfl) ⟨Nat.le_of_ble_eq_true rfl, Nat.le_of_ble_eq_true rfl⟩ ⟨cv_rmc (by omega), cv_rms (by omega)⟩ dL_law_1105 (fun v149 s148 => ?_)
  refine cv_iload hC 1 dL_law_1108 rfl ?_
  refine cv_icmp_eq (tgt := 1115) hC dL_law_1110 (by decide) ?_ ?_
  · refine cv_iload hC 1 dL_law_1115 rfl ?_
    refine cv_if_ne (tgt := 1139) hC dL_law_1117 (by decide) ?_ ?_
    · exact cv_widen (by omega) (by omega) (cv_sub [2, 3, 4, 5, 6, 7] rfl (J_L_law_b1139 htr hX hC hcb k28 hk28 l5 s148))
    · refine cv_aload_n hC 5 dL_law_1120 rfl rfl ?_
      refine cv_iconst (v := 0) hC dL_law_1121 cb_iconst_0 ?_
      refine cv_lald hC dL_law_1122 (fun v150 => ?_)
      refine cv_iload hC 0 dL_law_1123 rfl ?_
      refine cv_if_eq (tgt := 1132) hC dL_law_1125 (by decide) ?_ ?_
      · refine cv_lconst (v := 0) hC dL_law_1132 rfl ?_
        exact cv_widen (by omega) (by omega) (cv_sub [2, 3, 4, 5, 6, 7] rfl (J_L_law_b1133 htr hX hC hcb k28 hk28 l5 0 v150 s148))
      · refine cv_lconst (v := 1) hC dL_law_1128 rfl ?_
        refine cv_goto (tgt := 1133) hC dL_law_1129 (by decide) ?_
        exact cv_widen (by omega) (by omega) (cv_sub [2, 3, 4, 5, 6, 7] rfl (J_L_law_b1133 htr hX hC hcb k28 hk28 l5 1 v150 s148))
  · refine cv_iconst (v := 0) hC dL_law_1113 cb_iconst_0 ?_
    exact cv_lret0 (by decide)
set_option maxRecDepth 20000 in
set_option maxHeartbeats 4000000 in
theorem J_L_law_b1195 {p : Program} {l : Launch} {e : Env} {s : State} {m : MethodId} {below : List Frame} {meth : Method} {c : Code} {G : cv_G} {b L : Nat} {xs : Nat → Int32} (htr : l.stackTraces = false) (hX : cv_CL (p, l, e, room_1, s, m, #[Value.ref b], below, meth, c) G b L xs) (hC : cv_C (p, l, e, room_1, s, m, #[Value.ref b], below, meth, c) G l RL cL_law 9 (some .boolean) room_1) {cb sb : Nat} (hcb : cb + 10 ≤ 603072 ∧ sb + 60 ≤ 7161962) (k28 : Int32 → cv_St → Option (Int32 × cv_St)) (hk28 : ∀ (l5 : Int32)  σ, cv_J (p, l, e, room_1, s, m, #[Value.ref b], below, meth, c) G 9 (cb + 10) (sb + 60) (cv_QL (p, l, e, room_1, s, m, #[Value.ref b], below, meth, c) b) 28 [(0, .ref b), (1, .ref (G.1 0)), (2, .ref (G.1 10)), (3, .ref (G.1 66)), (4, .ref (G.1 67)), (5, .int l5)] [] σ (k28 l5 σ)) (l5 : Int32) (σ : cv_St) : cv_J (p, l, e, room_1, s, m, #[Value.ref b], below, meth, c) G 9 (cb + 10) (sb + 60) (cv_QL (p, l, e, room_1, s, m, #[Value.ref b], below, meth, c) b) 1195 [(0, .ref b), (1, .ref (G.1 0)), (2, .ref (G.1 10)), (3, .ref (G.1 66)), (4, .ref (G.1 67)), (5, .int l5)] [] σ (F_L_law_b1195 xs L k28 l5 σ) := by
  unfold F_L_law_b1195
  refine cv_goto (tgt := 2188) hC dL_law_1195 (by decide) ?_
  exact cv_sub [0, 1, 2, 3, 4, 5] rfl (J_L_law_b2188 htr hX hC hcb k28 hk28 l5 σ)
set_option maxRecDepth 20000 in
set_option maxHeartbeats 4000000 in
theorem J_L_law_b1142 {p : Program} {l : Launch} {e : Env} {s : State} {m : MethodId} {below : List Frame} {meth : Method} {c : Code} {G : cv_G} {b L : Nat} {xs : Nat → Int32} (htr : l.stackTraces = false) (hX : cv_CL (p, l, e, room_1, s, m, #[Value.ref b], below, meth, c) G b L xs) (hC : cv_C (p, l, e, room_1, s, m, #[Value.ref b], below, meth, c) G l RL cL_law 9 (some .boolean) room_1) {cb sb : Nat} (hcb : cb + 10 ≤ 603072 ∧ sb + 60 ≤ 7161962) (k28 : Int32 → cv_St → Option (Int32 × cv_St)) (hk28 : ∀ (l5 : Int32)  σ, cv_J (p, l, e, room_1, s, m, #[Value.ref b], below, meth, c) G 9 (cb + 10) (sb + 60) (cv_QL (p, l, e, room_1, s, m, #[Value.ref b], below, meth, c) b) 28 [(0, .ref b), (1, .ref (G.1 0)), (2, .ref (G.1 10)), (3, .ref (G.1 66)), (4, .ref (G.1 67)), (5, .int l5)] [] σ (k28 l5 σ)) (l5 : Int32) (σ : cv_St) : cv_J (p, l, e, room_1, s, m, #[Value.ref b], below, meth, c) G 9 (cb + 0) (sb + 0) (cv_QL (p, l, e, room_1, s, m, #[Value.ref b], below, meth, c) b) 1142 [(0, .ref b), (1, .ref (G.1 0)), (2, .ref (G.1 10)), (3, .ref (G.1 66)), (4, .ref (G.1 67)), (5, .int l5)] [] σ (F_L_law_b1142 xs L k28 l5 σ) := by
  unfold F_L_law_b1142
  refine cv_aload_n hC 1 dL_law_1142 rfl rfl ?_
  refine cv_aload_n hC 0 dL_law_1143 rfl rfl ?_
  refine cv_iload hC 5 dL_law_1144 rfl ?_
  refine cv_iconst (v := 1) hC dL_law_1146 cb_iconst_1 ?_
  refine cv_iadd hC dL_law_1147 ?_
  refine cv_sld hX hC dL_law_1148 (fun v151 => ?_)
  refine cv_aload_n hC 3 dL_law_1149 rfl rfl ?_
  refine cv_callLi hX hC [.ref (G.1 0), .int v151, .ref (G.1 66)] [] (M_L_callees htr G v151 σ) ln_L_189 sh_L_callees rfl rfl (Nat.le_of_ble_eq_true rfl) ⟨Nat.le_of_ble_eq_true rfl, Nat.le_of_ble_eq_true rfl⟩ ⟨cv_rmc (by omega), cv_rms (by omega)⟩ dL_law_1150 (fun v153 s152 => ?_)
  refine cv_istore (lv' := [(6, .int v153), (0, .ref b), (1, .ref (G.1 0)), (2, .ref (G.1 10)), (3, .ref (G.1 66)), (4, .ref (G.1 67)), (5, .int l5)]) hC dL_law_1153 (by decide) rfl ?_
  refine cv_aload_n hC 3 dL_law_1155 rfl rfl ?_
  refine cv_aload_n hC 1 dL_law_1156 rfl rfl ?_
  refine cv_iload hC 6 dL_law_1157 rfl ?_
  refine cv_iconst (v := 1) hC dL_law_1159 cb_iconst_1 ?_
  refine cv_iadd hC dL_law_1160 ?_
  refine cv_sld hX hC dL_law_1161 (fun v154 => ?_)
  refine cv_callVi (ob := 10) hC [.int v154] [] (M_X9_callees l G v154 s152) ln_L_191 vm_X9_callees (ob_10 G) rfl rfl (Nat.le_of_ble_eq_true rfl) ⟨Nat.le_of_ble_eq_true rfl, Nat.le_of_ble_eq_true rfl⟩ ⟨cv_rmc (by omega), cv_rms (by omega)⟩ dL_law_1162 (fun v156 s155 => ?_)
  refine cv_istore (lv' := [(7, .int v156), (6, .int v153), (0, .ref b), (1, .ref (G.1 0)), (2, .ref (G.1 10)), (3, .ref (G.1 66)), (4, .ref (G.1 67)), (5, .int l5)]) hC dL_law_1165 (by decide) rfl ?_
  refine cv_aload_n hC 4 dL_law_1167 rfl rfl ?_
  refine cv_callVi (ob := 10) hC [] [] (M_X9_thrown l G s155) ln_L_139 vm_X9_thrown (ob_10 G) rfl rfl (Nat.le_of_ble_eq_true rfl) ⟨Nat.le_of_ble_eq_true rfl, Nat.le_of_ble_eq_true rfl⟩ ⟨cv_rmc (by omega), cv_rms (by omega)⟩ dL_law_1168 (fun v158 s157 => ?_)
  refine cv_iload hC 1 dL_law_1171 rfl ?_
  refine cv_icmp_eq (tgt := 1178) hC dL_law_1173 (by decide) ?_ ?_
  · refine cv_iload hC 1 dL_law_1178 rfl ?_
    refine cv_if_ne (tgt := 1195) hC dL_law_1180 (by decide) ?_ ?_
    · exact cv_widen (by omega) (by omega) (cv_sub [2, 3, 4, 5, 6, 7] rfl (J_L_law_b1195 htr hX hC hcb k28 hk28 l5 s157))
    · refine cv_aload_n hC 5 dL_law_1183 rfl rfl ?_
      refine cv_iconst (v := 0) hC dL_law_1184 cb_iconst_0 ?_
      refine cv_lald hC dL_law_1185 (fun v159 => ?_)
      refine cv_iload hC 0 dL_law_1186 rfl ?_
      refine cv_i2l hC dL_law_1188 ?_
      refine cv_lcmp hC dL_law_1189 ?_
      refine cv_if_eq (tgt := 1195) hC dL_law_1190 (by decide) ?_ ?_
      · exact cv_widen (by omega) (by omega) (cv_sub [2, 3, 4, 5, 6, 7] rfl (J_L_law_b1195 htr hX hC hcb k28 hk28 l5 s157))
      · refine cv_iconst (v := 0) hC dL_law_1193 cb_iconst_0 ?_
        exact cv_lret0 (by decide)
  · refine cv_iconst (v := 0) hC dL_law_1176 cb_iconst_0 ?_
    exact cv_lret0 (by decide)
set_option maxRecDepth 20000 in
set_option maxHeartbeats 4000000 in
theorem J_L_law_b1251 {p : Program} {l : Launch} {e : Env} {s : State} {m : MethodId} {below : List Frame} {meth : Method} {c : Code} {G : cv_G} {b L : Nat} {xs : Nat → Int32} (htr : l.stackTraces = false) (hX : cv_CL (p, l, e, room_1, s, m, #[Value.ref b], below, meth, c) G b L xs) (hC : cv_C (p, l, e, room_1, s, m, #[Value.ref b], below, meth, c) G l RL cL_law 9 (some .boolean) room_1) {cb sb : Nat} (hcb : cb + 10 ≤ 603072 ∧ sb + 60 ≤ 7161962) (k28 : Int32 → cv_St → Option (Int32 × cv_St)) (hk28 : ∀ (l5 : Int32)  σ, cv_J (p, l, e, room_1, s, m, #[Value.ref b], below, meth, c) G 9 (cb + 10) (sb + 60) (cv_QL (p, l, e, room_1, s, m, #[Value.ref b], below, meth, c) b) 28 [(0, .ref b), (1, .ref (G.1 0)), (2, .ref (G.1 10)), (3, .ref (G.1 66)), (4, .ref (G.1 67)), (5, .int l5)] [] σ (k28 l5 σ)) (l5 : Int32) (σ : cv_St) : cv_J (p, l, e, room_1, s, m, #[Value.ref b], below, meth, c) G 9 (cb + 10) (sb + 60) (cv_QL (p, l, e, room_1, s, m, #[Value.ref b], below, meth, c) b) 1251 [(0, .ref b), (1, .ref (G.1 0)), (2, .ref (G.1 10)), (3, .ref (G.1 66)), (4, .ref (G.1 67)), (5, .int l5)] [] σ (F_L_law_b1251 xs L k28 l5 σ) := by
  unfold F_L_law_b1251
  refine cv_goto (tgt := 2188) hC dL_law_1251 (by decide) ?_
  exact cv_sub [0, 1, 2, 3, 4, 5] rfl (J_L_law_b2188 htr hX hC hcb k28 hk28 l5 σ)
set_option maxRecDepth 20000 in
set_option maxHeartbeats 4000000 in
theorem J_L_law_b1198 {p : Program} {l : Launch} {e : Env} {s : State} {m : MethodId} {below : List Frame} {meth : Method} {c : Code} {G : cv_G} {b L : Nat} {xs : Nat → Int32} (htr : l.stackTraces = false) (hX : cv_CL (p, l, e, room_1, s, m, #[Value.ref b], below, meth, c) G b L xs) (hC : cv_C (p, l, e, room_1, s, m, #[Value.ref b], below, meth, c) G l RL cL_law 9 (some .boolean) room_1) {cb sb : Nat} (hcb : cb + 10 ≤ 603072 ∧ sb + 60 ≤ 7161962) (k28 : Int32 → cv_St → Option (Int32 × cv_St)) (hk28 : ∀ (l5 : Int32)  σ, cv_J (p, l, e, room_1, s, m, #[Value.ref b], below, meth, c) G 9 (cb + 10) (sb + 60) (cv_QL (p, l, e, room_1, s, m, #[Value.ref b], below, meth, c) b) 28 [(0, .ref b), (1, .ref (G.1 0)), (2, .ref (G.1 10)), (3, .ref (G.1 66)), (4, .ref (G.1 67)), (5, .int l5)] [] σ (k28 l5 σ)) (l5 : Int32) (σ : cv_St) : cv_J (p, l, e, room_1, s, m, #[Value.ref b], below, meth, c) G 9 (cb + 0) (sb + 0) (cv_QL (p, l, e, room_1, s, m, #[Value.ref b], below, meth, c) b) 1198 [(0, .ref b), (1, .ref (G.1 0)), (2, .ref (G.1 10)), (3, .ref (G.1 66)), (4, .ref (G.1 67)), (5, .int l5)] [] σ (F_L_law_b1198 xs L k28 l5 σ) := by
  unfold F_L_law_b1198
  refine cv_aload_n hC 1 dL_law_1198 rfl rfl ?_
  refine cv_aload_n hC 0 dL_law_1199 rfl rfl ?_
  refine cv_iload hC 5 dL_law_1200 rfl ?_
  refine cv_iconst (v := 1) hC dL_law_1202 cb_iconst_1 ?_
  refine cv_iadd hC dL_law_1203 ?_
  refine cv_sld hX hC dL_law_1204 (fun v160 => ?_)
  refine cv_aload_n hC 3 dL_law_1205 rfl rfl ?_
  refine cv_callLi hX hC [.ref (G.1 0), .int v160, .ref (G.1 66)] [] (M_L_callersOf htr G v160 σ) ln_L_192 sh_L_callersOf rfl rfl (Nat.le_of_ble_eq_true rfl) ⟨Nat.le_of_ble_eq_true rfl, Nat.le_of_ble_eq_true rfl⟩ ⟨cv_rmc (by omega), cv_rms (by omega)⟩ dL_law_1206 (fun v162 s161 => ?_)
  refine cv_istore (lv' := [(6, .int v162), (0, .ref b), (1, .ref (G.1 0)), (2, .ref (G.1 10)), (3, .ref (G.1 66)), (4, .ref (G.1 67)), (5, .int l5)]) hC dL_law_1209 (by decide) rfl ?_
  refine cv_aload_n hC 3 dL_law_1211 rfl rfl ?_
  refine cv_aload_n hC 1 dL_law_1212 rfl rfl ?_
  refine cv_iload hC 6 dL_law_1213 rfl ?_
  refine cv_iconst (v := 1) hC dL_law_1215 cb_iconst_1 ?_
  refine cv_iadd hC dL_law_1216 ?_
  refine cv_sld hX hC dL_law_1217 (fun v163 => ?_)
  refine cv_callVi (ob := 10) hC [.int v163] [] (M_X9_callersOf l G v163 s161) ln_L_194 vm_X9_callersOf (ob_10 G) rfl rfl (Nat.le_of_ble_eq_true rfl) ⟨Nat.le_of_ble_eq_true rfl, Nat.le_of_ble_eq_true rfl⟩ ⟨cv_rmc (by omega), cv_rms (by omega)⟩ dL_law_1218 (fun v165 s164 => ?_)
  refine cv_istore (lv' := [(7, .int v165), (6, .int v162), (0, .ref b), (1, .ref (G.1 0)), (2, .ref (G.1 10)), (3, .ref (G.1 66)), (4, .ref (G.1 67)), (5, .int l5)]) hC dL_law_1221 (by decide) rfl ?_
  refine cv_aload_n hC 4 dL_law_1223 rfl rfl ?_
  refine cv_callVi (ob := 10) hC [] [] (M_X9_thrown l G s164) ln_L_139 vm_X9_thrown (ob_10 G) rfl rfl (Nat.le_of_ble_eq_true rfl) ⟨Nat.le_of_ble_eq_true rfl, Nat.le_of_ble_eq_true rfl⟩ ⟨cv_rmc (by omega), cv_rms (by omega)⟩ dL_law_1224 (fun v167 s166 => ?_)
  refine cv_iload hC 1 dL_law_1227 rfl ?_
  refine cv_icmp_eq (tgt := 1234) hC dL_law_1229 (by decide) ?_ ?_
  · refine cv_iload hC 1 dL_law_1234 rfl ?_
    refine cv_if_ne (tgt := 1251) hC dL_law_1236 (by decide) ?_ ?_
    · exact cv_widen (by omega) (by omega) (cv_sub [2, 3, 4, 5, 6, 7] rfl (J_L_law_b1251 htr hX hC hcb k28 hk28 l5 s166))
    · refine cv_aload_n hC 5 dL_law_1239 rfl rfl ?_
      refine cv_iconst (v := 0) hC dL_law_1240 cb_iconst_0 ?_
      refine cv_lald hC dL_law_1241 (fun v168 => ?_)
      refine cv_iload hC 0 dL_law_1242 rfl ?_
      refine cv_i2l hC dL_law_1244 ?_
      refine cv_lcmp hC dL_law_1245 ?_
      refine cv_if_eq (tgt := 1251) hC dL_law_1246 (by decide) ?_ ?_
      · exact cv_widen (by omega) (by omega) (cv_sub [2, 3, 4, 5, 6, 7] rfl (J_L_law_b1251 htr hX hC hcb k28 hk28 l5 s166))
      · refine cv_iconst (v := 0) hC dL_law_1249 cb_iconst_0 ?_
        exact cv_lret0 (by decide)
  · refine cv_iconst (v := 0) hC dL_law_1232 cb_iconst_0 ?_
    exact cv_lret0 (by decide)
set_option maxRecDepth 20000 in
set_option maxHeartbeats 4000000 in
theorem J_L_law_b1314 {p : Program} {l : Launch} {e : Env} {s : State} {m : MethodId} {below : List Frame} {meth : Method} {c : Code} {G : cv_G} {b L : Nat} {xs : Nat → Int32} (htr : l.stackTraces = false) (hX : cv_CL (p, l, e, room_1, s, m, #[Value.ref b], below, meth, c) G b L xs) (hC : cv_C (p, l, e, room_1, s, m, #[Value.ref b], below, meth, c) G l RL cL_law 9 (some .boolean) room_1) {cb sb : Nat} (hcb : cb + 10 ≤ 603072 ∧ sb + 60 ≤ 7161962) (k28 : Int32 → cv_St → Option (Int32 × cv_St)) (hk28 : ∀ (l5 : Int32)  σ, cv_J (p, l, e, room_1, s, m, #[Value.ref b], below, meth, c) G 9 (cb + 10) (sb + 60) (cv_QL (p, l, e, room_1, s, m, #[Value.ref b], below, meth, c) b) 28 [(0, .ref b), (1, .ref (G.1 0)), (2, .ref (G.1 10)), (3, .ref (G.1 66)), (4, .ref (G.1 67)), (5, .int l5)] [] σ (k28 l5 σ)) (l5 : Int32) (σ : cv_St) : cv_J (p, l, e, room_1, s, m, #[Value.ref b], below, meth, c) G 9 (cb + 10) (sb + 60) (cv_QL (p, l, e, room_1, s, m, #[Value.ref b], below, meth, c) b) 1314 [(0, .ref b), (1, .ref (G.1 0)), (2, .ref (G.1 10)), (3, .ref (G.1 66)), (4, .ref (G.1 67)), (5, .int l5)] [] σ (F_L_law_b1314 xs L k28 l5 σ) := by
  unfold F_L_law_b1314
  refine cv_goto (tgt := 2188) hC dL_law_1314 (by decide) ?_
  exact cv_sub [0, 1, 2, 3, 4, 5] rfl (J_L_law_b2188 htr hX hC hcb k28 hk28 l5 σ)
set_option maxRecDepth 20000 in
set_option maxHeartbeats 4000000 in
theorem J_L_law_b1308 {p : Program} {l : Launch} {e : Env} {s : State} {m : MethodId} {below : List Frame} {meth : Method} {c : Code} {G : cv_G} {b L : Nat} {xs : Nat → Int32} (htr : l.stackTraces = false) (hX : cv_CL (p, l, e, room_1, s, m, #[Value.ref b], below, meth, c) G b L xs) (hC : cv_C (p, l, e, room_1, s, m, #[Value.ref b], below, meth, c) G l RL cL_law 9 (some .boolean) room_1) {cb sb : Nat} (hcb : cb + 10 ≤ 603072 ∧ sb + 60 ≤ 7161962) (k28 : Int32 → cv_St → Option (Int32 × cv_St)) (hk28 : ∀ (l5 : Int32)  σ, cv_J (p, l, e, room_1, s, m, #[Value.ref b], below, meth, c) G 9 (cb + 10) (sb + 60) (cv_QL (p, l, e, room_1, s, m, #[Value.ref b], below, meth, c) b) 28 [(0, .ref b), (1, .ref (G.1 0)), (2, .ref (G.1 10)), (3, .ref (G.1 66)), (4, .ref (G.1 67)), (5, .int l5)] [] σ (k28 l5 σ)) (l5 : Int32) (t0 : Int64) (t1 : Int64) (σ : cv_St) : cv_J (p, l, e, room_1, s, m, #[Value.ref b], below, meth, c) G 9 (cb + 10) (sb + 60) (cv_QL (p, l, e, room_1, s, m, #[Value.ref b], below, meth, c) b) 1308 [(0, .ref b), (1, .ref (G.1 0)), (2, .ref (G.1 10)), (3, .ref (G.1 66)), (4, .ref (G.1 67)), (5, .int l5)] [.long t0, .long t1] σ (F_L_law_b1308 xs L k28 l5 t0 t1 σ) := by
  unfold F_L_law_b1308
  refine cv_lcmp hC dL_law_1308 ?_
  refine cv_if_eq (tgt := 1314) hC dL_law_1309 (by decide) ?_ ?_
  · exact cv_sub [0, 1, 2, 3, 4, 5] rfl (J_L_law_b1314 htr hX hC hcb k28 hk28 l5 σ)
  · refine cv_iconst (v := 0) hC dL_law_1312 cb_iconst_0 ?_
    exact cv_lret0 (by decide)
set_option maxRecDepth 20000 in
set_option maxHeartbeats 4000000 in
theorem J_L_law_b1254 {p : Program} {l : Launch} {e : Env} {s : State} {m : MethodId} {below : List Frame} {meth : Method} {c : Code} {G : cv_G} {b L : Nat} {xs : Nat → Int32} (htr : l.stackTraces = false) (hX : cv_CL (p, l, e, room_1, s, m, #[Value.ref b], below, meth, c) G b L xs) (hC : cv_C (p, l, e, room_1, s, m, #[Value.ref b], below, meth, c) G l RL cL_law 9 (some .boolean) room_1) {cb sb : Nat} (hcb : cb + 10 ≤ 603072 ∧ sb + 60 ≤ 7161962) (k28 : Int32 → cv_St → Option (Int32 × cv_St)) (hk28 : ∀ (l5 : Int32)  σ, cv_J (p, l, e, room_1, s, m, #[Value.ref b], below, meth, c) G 9 (cb + 10) (sb + 60) (cv_QL (p, l, e, room_1, s, m, #[Value.ref b], below, meth, c) b) 28 [(0, .ref b), (1, .ref (G.1 0)), (2, .ref (G.1 10)), (3, .ref (G.1 66)), (4, .ref (G.1 67)), (5, .int l5)] [] σ (k28 l5 σ)) (l5 : Int32) (σ : cv_St) : cv_J (p, l, e, room_1, s, m, #[Value.ref b], below, meth, c) G 9 (cb + 0) (sb + 0) (cv_QL (p, l, e, room_1, s, m, #[Value.ref b], below, meth, c) b) 1254 [(0, .ref b), (1, .ref (G.1 0)), (2, .ref (G.1 10)), (3, .ref (G.1 66)), (4, .ref (G.1 67)), (5, .int l5)] [] σ (F_L_law_b1254 xs L k28 l5 σ) := by
  unfold F_L_law_b1254
  refine cv_aload_n hC 1 dL_law_1254 rfl rfl ?_
  refine cv_aload_n hC 0 dL_law_1255 rfl rfl ?_
  refine cv_iload hC 5 dL_law_1256 rfl ?_
  refine cv_iconst (v := 1) hC dL_law_1258 cb_iconst_1 ?_
  refine cv_iadd hC dL_law_1259 ?_
  refine cv_sld hX hC dL_law_1260 (fun v169 => ?_)
  refine cv_aload_n hC 3 dL_law_1261 rfl rfl ?_
  refine cv_callLi hX hC [.ref (G.1 0), .int v169, .ref (G.1 66)] [] (M_L_isRecursive htr G v169 σ) ln_L_195 sh_L_isRecursive rfl rfl (Nat.le_of_ble_eq_true rfl) ⟨Nat.le_of_ble_eq_true rfl, Nat.le_of_ble_eq_true rfl⟩ ⟨cv_rmc (by omega), cv_rms (by omega)⟩ dL_law_1262 (fun v171 s170 => ?_)
  refine cv_istore (lv' := [(6, .int v171), (0, .ref b), (1, .ref (G.1 0)), (2, .ref (G.1 10)), (3, .ref (G.1 66)), (4, .ref (G.1 67)), (5, .int l5)]) hC dL_law_1265 (by decide) rfl ?_
  refine cv_aload_n hC 3 dL_law_1267 rfl rfl ?_
  refine cv_aload_n hC 1 dL_law_1268 rfl rfl ?_
  refine cv_iload hC 6 dL_law_1269 rfl ?_
  refine cv_iconst (v := 1) hC dL_law_1271 cb_iconst_1 ?_
  refine cv_iadd hC dL_law_1272 ?_
  refine cv_sld hX hC dL_law_1273 (fun v172 => ?_)
  refine cv_callVi (ob := 10) hC [.int v172] [] (M_X9_isRecursive l G v172 s170) ln_L_197 vm_X9_isRecursive (ob_10 G) rfl rfl (Nat.le_of_ble_eq_true rfl) ⟨Nat.le_of_ble_eq_true rfl, Nat.le_of_ble_eq_true rfl⟩ ⟨cv_rmc (by omega), cv_rms (by omega)⟩ dL_law_1274 (fun v174 s173 => ?_)
  refine cv_istore (lv' := [(7, .int v174), (6, .int v171), (0, .ref b), (1, .ref (G.1 0)), (2, .ref (G.1 10)), (3, .ref (G.1 66)), (4, .ref (G.1 67)), (5, .int l5)]) hC dL_law_1277 (by decide) rfl ?_
  refine cv_aload_n hC 4 dL_law_1279 rfl rfl ?_
  refine cv_callVi (ob := 10) hC [] [] (M_X9_thrown l G s173) ln_L_139 vm_X9_thrown (ob_10 G) rfl rfl (Nat.le_of_ble_eq_true rfl) ⟨Nat.le_of_ble_eq_true rfl, Nat.le_of_ble_eq_true rfl⟩ ⟨cv_rmc (by omega), cv_rms (by omega)⟩ dL_law_1280 (fun v176 s175 => ?_)
  refine cv_iload hC 1 dL_law_1283 rfl ?_
  refine cv_icmp_eq (tgt := 1290) hC dL_law_1285 (by decide) ?_ ?_
  · refine cv_iload hC 1 dL_law_1290 rfl ?_
    refine cv_if_ne (tgt := 1314) hC dL_law_1292 (by decide) ?_ ?_
    · exact cv_widen (by omega) (by omega) (cv_sub [2, 3, 4, 5, 6, 7] rfl (J_L_law_b1314 htr hX hC hcb k28 hk28 l5 s175))
    · refine cv_aload_n hC 5 dL_law_1295 rfl rfl ?_
      refine cv_iconst (v := 0) hC dL_law_1296 cb_iconst_0 ?_
      refine cv_lald hC dL_law_1297 (fun v177 => ?_)
      refine cv_iload hC 0 dL_law_1298 rfl ?_
      refine cv_if_eq (tgt := 1307) hC dL_law_1300 (by decide) ?_ ?_
      · refine cv_lconst (v := 0) hC dL_law_1307 rfl ?_
        exact cv_widen (by omega) (by omega) (cv_sub [2, 3, 4, 5, 6, 7] rfl (J_L_law_b1308 htr hX hC hcb k28 hk28 l5 0 v177 s175))
      · refine cv_lconst (v := 1) hC dL_law_1303 rfl ?_
        refine cv_goto (tgt := 1308) hC dL_law_1304 (by decide) ?_
        exact cv_widen (by omega) (by omega) (cv_sub [2, 3, 4, 5, 6, 7] rfl (J_L_law_b1308 htr hX hC hcb k28 hk28 l5 1 v177 s175))
  · refine cv_iconst (v := 0) hC dL_law_1288 cb_iconst_0 ?_
    exact cv_lret0 (by decide)
set_option maxRecDepth 20000 in
set_option maxHeartbeats 4000000 in
theorem J_L_law_b1317 {p : Program} {l : Launch} {e : Env} {s : State} {m : MethodId} {below : List Frame} {meth : Method} {c : Code} {G : cv_G} {b L : Nat} {xs : Nat → Int32} (htr : l.stackTraces = false) (hX : cv_CL (p, l, e, room_1, s, m, #[Value.ref b], below, meth, c) G b L xs) (hC : cv_C (p, l, e, room_1, s, m, #[Value.ref b], below, meth, c) G l RL cL_law 9 (some .boolean) room_1) {cb sb : Nat} (hcb : cb + 10 ≤ 603072 ∧ sb + 60 ≤ 7161962) (k28 : Int32 → cv_St → Option (Int32 × cv_St)) (hk28 : ∀ (l5 : Int32)  σ, cv_J (p, l, e, room_1, s, m, #[Value.ref b], below, meth, c) G 9 (cb + 10) (sb + 60) (cv_QL (p, l, e, room_1, s, m, #[Value.ref b], below, meth, c) b) 28 [(0, .ref b), (1, .ref (G.1 0)), (2, .ref (G.1 10)), (3, .ref (G.1 66)), (4, .ref (G.1 67)), (5, .int l5)] [] σ (k28 l5 σ)) (l5 : Int32) (σ : cv_St) : cv_J (p, l, e, room_1, s, m, #[Value.ref b], below, meth, c) G 9 (cb + 0) (sb + 0) (cv_QL (p, l, e, room_1, s, m, #[Value.ref b], below, meth, c) b) 1317 [(0, .ref b), (1, .ref (G.1 0)), (2, .ref (G.1 10)), (3, .ref (G.1 66)), (4, .ref (G.1 67)), (5, .int l5)] [] σ (F_L_law_b1317 xs L k28 l5 σ) := by
  unfold F_L_law_b1317
  refine cv_aload_n hC 1 dL_law_1317 rfl rfl ?_
  refine cv_callVi (ob := 0) hC [] [] (M_X8_siteCount l G σ) ln_L_198 vm_X8_siteCount (ob_0 G) rfl rfl (Nat.le_of_ble_eq_true rfl) ⟨Nat.le_of_ble_eq_true rfl, Nat.le_of_ble_eq_true rfl⟩ ⟨cv_rmc (by omega), cv_rms (by omega)⟩ dL_law_1318 (fun v179 s178 => ?_)
  refine cv_aload_n hC 2 dL_law_1321 rfl rfl ?_
  refine cv_callVi (ob := 10) hC [] [.int v179] (M_X9_siteCount l G s178) ln_L_201 vm_X9_siteCount (ob_10 G) rfl rfl (Nat.le_of_ble_eq_true rfl) ⟨Nat.le_of_ble_eq_true rfl, Nat.le_of_ble_eq_true rfl⟩ ⟨cv_rmc (by omega), cv_rms (by omega)⟩ dL_law_1322 (fun v181 s180 => ?_)
  refine cv_icmp_eq (tgt := 2188) hC dL_law_1325 (by decide) ?_ ?_
  · exact cv_widen (by omega) (by omega) (cv_sub [0, 1, 2, 3, 4, 5] rfl (J_L_law_b2188 htr hX hC hcb k28 hk28 l5 s180))
  · refine cv_iconst (v := 0) hC dL_law_1328 cb_iconst_0 ?_
    exact cv_lret0 (by decide)
set_option maxRecDepth 20000 in
set_option maxHeartbeats 4000000 in
theorem J_L_law_b1395 {p : Program} {l : Launch} {e : Env} {s : State} {m : MethodId} {below : List Frame} {meth : Method} {c : Code} {G : cv_G} {b L : Nat} {xs : Nat → Int32} (htr : l.stackTraces = false) (hX : cv_CL (p, l, e, room_1, s, m, #[Value.ref b], below, meth, c) G b L xs) (hC : cv_C (p, l, e, room_1, s, m, #[Value.ref b], below, meth, c) G l RL cL_law 9 (some .boolean) room_1) {cb sb : Nat} (hcb : cb + 10 ≤ 603072 ∧ sb + 60 ≤ 7161962) (k28 : Int32 → cv_St → Option (Int32 × cv_St)) (hk28 : ∀ (l5 : Int32)  σ, cv_J (p, l, e, room_1, s, m, #[Value.ref b], below, meth, c) G 9 (cb + 10) (sb + 60) (cv_QL (p, l, e, room_1, s, m, #[Value.ref b], below, meth, c) b) 28 [(0, .ref b), (1, .ref (G.1 0)), (2, .ref (G.1 10)), (3, .ref (G.1 66)), (4, .ref (G.1 67)), (5, .int l5)] [] σ (k28 l5 σ)) (l5 : Int32) (σ : cv_St) : cv_J (p, l, e, room_1, s, m, #[Value.ref b], below, meth, c) G 9 (cb + 10) (sb + 60) (cv_QL (p, l, e, room_1, s, m, #[Value.ref b], below, meth, c) b) 1395 [(0, .ref b), (1, .ref (G.1 0)), (2, .ref (G.1 10)), (3, .ref (G.1 66)), (4, .ref (G.1 67)), (5, .int l5)] [] σ (F_L_law_b1395 xs L k28 l5 σ) := by
  unfold F_L_law_b1395
  refine cv_goto (tgt := 2188) hC dL_law_1395 (by decide) ?_
  exact cv_sub [0, 1, 2, 3, 4, 5] rfl (J_L_law_b2188 htr hX hC hcb k28 hk28 l5 σ)
set_option maxRecDepth 20000 in
set_option maxHeartbeats 4000000 in
theorem J_L_law_b1330 {p : Program} {l : Launch} {e : Env} {s : State} {m : MethodId} {below : List Frame} {meth : Method} {c : Code} {G : cv_G} {b L : Nat} {xs : Nat → Int32} (htr : l.stackTraces = false) (hX : cv_CL (p, l, e, room_1, s, m, #[Value.ref b], below, meth, c) G b L xs) (hC : cv_C (p, l, e, room_1, s, m, #[Value.ref b], below, meth, c) G l RL cL_law 9 (some .boolean) room_1) {cb sb : Nat} (hcb : cb + 10 ≤ 603072 ∧ sb + 60 ≤ 7161962) (k28 : Int32 → cv_St → Option (Int32 × cv_St)) (hk28 : ∀ (l5 : Int32)  σ, cv_J (p, l, e, room_1, s, m, #[Value.ref b], below, meth, c) G 9 (cb + 10) (sb + 60) (cv_QL (p, l, e, room_1, s, m, #[Value.ref b], below, meth, c) b) 28 [(0, .ref b), (1, .ref (G.1 0)), (2, .ref (G.1 10)), (3, .ref (G.1 66)), (4, .ref (G.1 67)), (5, .int l5)] [] σ (k28 l5 σ)) (l5 : Int32) (σ : cv_St) : cv_J (p, l, e, room_1, s, m, #[Value.ref b], below, meth, c) G 9 (cb + 0) (sb + 0) (cv_QL (p, l, e, room_1, s, m, #[Value.ref b], below, meth, c) b) 1330 [(0, .ref b), (1, .ref (G.1 0)), (2, .ref (G.1 10)), (3, .ref (G.1 66)), (4, .ref (G.1 67)), (5, .int l5)] [] σ (F_L_law_b1330 xs L k28 l5 σ) := by
  unfold F_L_law_b1330
  refine cv_aload_n hC 1 dL_law_1330 rfl rfl ?_
  refine cv_aload_n hC 0 dL_law_1331 rfl rfl ?_
  refine cv_iload hC 5 dL_law_1332 rfl ?_
  refine cv_iconst (v := 1) hC dL_law_1334 cb_iconst_1 ?_
  refine cv_iadd hC dL_law_1335 ?_
  refine cv_sld hX hC dL_law_1336 (fun v182 => ?_)
  refine cv_aload_n hC 0 dL_law_1337 rfl rfl ?_
  refine cv_iload hC 5 dL_law_1338 rfl ?_
  refine cv_iconst (v := 2) hC dL_law_1340 cb_iconst_2 ?_
  refine cv_iadd hC dL_law_1341 ?_
  refine cv_sld hX hC dL_law_1342 (fun v183 => ?_)
  refine cv_aload_n hC 3 dL_law_1343 rfl rfl ?_
  refine cv_callLi hX hC [.ref (G.1 0), .int v182, .int v183, .ref (G.1 66)] [] (M_L_site htr G v182 v183 σ) ln_L_202 sh_L_site rfl rfl (Nat.le_of_ble_eq_true rfl) ⟨Nat.le_of_ble_eq_true rfl, Nat.le_of_ble_eq_true rfl⟩ ⟨cv_rmc (by omega), cv_rms (by omega)⟩ dL_law_1344 (fun v185 s184 => ?_)
  refine cv_istore (lv' := [(6, .int v185), (0, .ref b), (1, .ref (G.1 0)), (2, .ref (G.1 10)), (3, .ref (G.1 66)), (4, .ref (G.1 67)), (5, .int l5)]) hC dL_law_1347 (by decide) rfl ?_
  refine cv_aload_n hC 3 dL_law_1349 rfl rfl ?_
  refine cv_aload_n hC 1 dL_law_1350 rfl rfl ?_
  refine cv_iload hC 6 dL_law_1351 rfl ?_
  refine cv_iconst (v := 1) hC dL_law_1353 cb_iconst_1 ?_
  refine cv_iadd hC dL_law_1354 ?_
  refine cv_sld hX hC dL_law_1355 (fun v186 => ?_)
  refine cv_aload_n hC 1 dL_law_1356 rfl rfl ?_
  refine cv_iload hC 6 dL_law_1357 rfl ?_
  refine cv_iconst (v := 2) hC dL_law_1359 cb_iconst_2 ?_
  refine cv_iadd hC dL_law_1360 ?_
  refine cv_sld hX hC dL_law_1361 (fun v187 => ?_)
  refine cv_callVi (ob := 10) hC [.int v186, .int v187] [] (M_X9_site l G v186 v187 s184) ln_L_204 vm_X9_site (ob_10 G) rfl rfl (Nat.le_of_ble_eq_true rfl) ⟨Nat.le_of_ble_eq_true rfl, Nat.le_of_ble_eq_true rfl⟩ ⟨cv_rmc (by omega), cv_rms (by omega)⟩ dL_law_1362 (fun v189 s188 => ?_)
  refine cv_istore (lv' := [(7, .int v189), (6, .int v185), (0, .ref b), (1, .ref (G.1 0)), (2, .ref (G.1 10)), (3, .ref (G.1 66)), (4, .ref (G.1 67)), (5, .int l5)]) hC dL_law_1365 (by decide) rfl ?_
  refine cv_aload_n hC 4 dL_law_1367 rfl rfl ?_
  refine cv_callVi (ob := 10) hC [] [] (M_X9_thrown l G s188) ln_L_139 vm_X9_thrown (ob_10 G) rfl rfl (Nat.le_of_ble_eq_true rfl) ⟨Nat.le_of_ble_eq_true rfl, Nat.le_of_ble_eq_true rfl⟩ ⟨cv_rmc (by omega), cv_rms (by omega)⟩ dL_law_1368 (fun v191 s190 => ?_)
  refine cv_iload hC 1 dL_law_1371 rfl ?_
  refine cv_icmp_eq (tgt := 1378) hC dL_law_1373 (by decide) ?_ ?_
  · refine cv_iload hC 1 dL_law_1378 rfl ?_
    refine cv_if_ne (tgt := 1395) hC dL_law_1380 (by decide) ?_ ?_
    · exact cv_widen (by omega) (by omega) (cv_sub [2, 3, 4, 5, 6, 7] rfl (J_L_law_b1395 htr hX hC hcb k28 hk28 l5 s190))
    · refine cv_aload_n hC 5 dL_law_1383 rfl rfl ?_
      refine cv_iconst (v := 0) hC dL_law_1384 cb_iconst_0 ?_
      refine cv_lald hC dL_law_1385 (fun v192 => ?_)
      refine cv_iload hC 0 dL_law_1386 rfl ?_
      refine cv_i2l hC dL_law_1388 ?_
      refine cv_lcmp hC dL_law_1389 ?_
      refine cv_if_eq (tgt := 1395) hC dL_law_1390 (by decide) ?_ ?_
      · exact cv_widen (by omega) (by omega) (cv_sub [2, 3, 4, 5, 6, 7] rfl (J_L_law_b1395 htr hX hC hcb k28 hk28 l5 s190))
      · refine cv_iconst (v := 0) hC dL_law_1393 cb_iconst_0 ?_
        exact cv_lret0 (by decide)
  · refine cv_iconst (v := 0) hC dL_law_1376 cb_iconst_0 ?_
    exact cv_lret0 (by decide)
set_option maxRecDepth 20000 in
set_option maxHeartbeats 4000000 in
theorem J_L_law_b1451 {p : Program} {l : Launch} {e : Env} {s : State} {m : MethodId} {below : List Frame} {meth : Method} {c : Code} {G : cv_G} {b L : Nat} {xs : Nat → Int32} (htr : l.stackTraces = false) (hX : cv_CL (p, l, e, room_1, s, m, #[Value.ref b], below, meth, c) G b L xs) (hC : cv_C (p, l, e, room_1, s, m, #[Value.ref b], below, meth, c) G l RL cL_law 9 (some .boolean) room_1) {cb sb : Nat} (hcb : cb + 10 ≤ 603072 ∧ sb + 60 ≤ 7161962) (k28 : Int32 → cv_St → Option (Int32 × cv_St)) (hk28 : ∀ (l5 : Int32)  σ, cv_J (p, l, e, room_1, s, m, #[Value.ref b], below, meth, c) G 9 (cb + 10) (sb + 60) (cv_QL (p, l, e, room_1, s, m, #[Value.ref b], below, meth, c) b) 28 [(0, .ref b), (1, .ref (G.1 0)), (2, .ref (G.1 10)), (3, .ref (G.1 66)), (4, .ref (G.1 67)), (5, .int l5)] [] σ (k28 l5 σ)) (l5 : Int32) (σ : cv_St) : cv_J (p, l, e, room_1, s, m, #[Value.ref b], below, meth, c) G 9 (cb + 10) (sb + 60) (cv_QL (p, l, e, room_1, s, m, #[Value.ref b], below, meth, c) b) 1451 [(0, .ref b), (1, .ref (G.1 0)), (2, .ref (G.1 10)), (3, .ref (G.1 66)), (4, .ref (G.1 67)), (5, .int l5)] [] σ (F_L_law_b1451 xs L k28 l5 σ) := by
  unfold F_L_law_b1451
  refine cv_goto (tgt := 2188) hC dL_law_1451 (by decide) ?_
  exact cv_sub [0, 1, 2, 3, 4, 5] rfl (J_L_law_b2188 htr hX hC hcb k28 hk28 l5 σ)
set_option maxRecDepth 20000 in
set_option maxHeartbeats 4000000 in
theorem J_L_law_b1398 {p : Program} {l : Launch} {e : Env} {s : State} {m : MethodId} {below : List Frame} {meth : Method} {c : Code} {G : cv_G} {b L : Nat} {xs : Nat → Int32} (htr : l.stackTraces = false) (hX : cv_CL (p, l, e, room_1, s, m, #[Value.ref b], below, meth, c) G b L xs) (hC : cv_C (p, l, e, room_1, s, m, #[Value.ref b], below, meth, c) G l RL cL_law 9 (some .boolean) room_1) {cb sb : Nat} (hcb : cb + 10 ≤ 603072 ∧ sb + 60 ≤ 7161962) (k28 : Int32 → cv_St → Option (Int32 × cv_St)) (hk28 : ∀ (l5 : Int32)  σ, cv_J (p, l, e, room_1, s, m, #[Value.ref b], below, meth, c) G 9 (cb + 10) (sb + 60) (cv_QL (p, l, e, room_1, s, m, #[Value.ref b], below, meth, c) b) 28 [(0, .ref b), (1, .ref (G.1 0)), (2, .ref (G.1 10)), (3, .ref (G.1 66)), (4, .ref (G.1 67)), (5, .int l5)] [] σ (k28 l5 σ)) (l5 : Int32) (σ : cv_St) : cv_J (p, l, e, room_1, s, m, #[Value.ref b], below, meth, c) G 9 (cb + 0) (sb + 0) (cv_QL (p, l, e, room_1, s, m, #[Value.ref b], below, meth, c) b) 1398 [(0, .ref b), (1, .ref (G.1 0)), (2, .ref (G.1 10)), (3, .ref (G.1 66)), (4, .ref (G.1 67)), (5, .int l5)] [] σ (F_L_law_b1398 xs L k28 l5 σ) := by
  unfold F_L_law_b1398
  refine cv_aload_n hC 1 dL_law_1398 rfl rfl ?_
  refine cv_aload_n hC 0 dL_law_1399 rfl rfl ?_
  refine cv_iload hC 5 dL_law_1400 rfl ?_
  refine cv_iconst (v := 1) hC dL_law_1402 cb_iconst_1 ?_
  refine cv_iadd hC dL_law_1403 ?_
  refine cv_sld hX hC dL_law_1404 (fun v193 => ?_)
  refine cv_aload_n hC 3 dL_law_1405 rfl rfl ?_
  refine cv_callLi hX hC [.ref (G.1 0), .int v193, .ref (G.1 66)] [] (M_L_passedSlots htr G v193 σ) ln_L_205 sh_L_passedSlots rfl rfl (Nat.le_of_ble_eq_true rfl) ⟨Nat.le_of_ble_eq_true rfl, Nat.le_of_ble_eq_true rfl⟩ ⟨cv_rmc (by omega), cv_rms (by omega)⟩ dL_law_1406 (fun v195 s194 => ?_)
  refine cv_istore (lv' := [(6, .int v195), (0, .ref b), (1, .ref (G.1 0)), (2, .ref (G.1 10)), (3, .ref (G.1 66)), (4, .ref (G.1 67)), (5, .int l5)]) hC dL_law_1409 (by decide) rfl ?_
  refine cv_aload_n hC 3 dL_law_1411 rfl rfl ?_
  refine cv_aload_n hC 1 dL_law_1412 rfl rfl ?_
  refine cv_iload hC 6 dL_law_1413 rfl ?_
  refine cv_iconst (v := 1) hC dL_law_1415 cb_iconst_1 ?_
  refine cv_iadd hC dL_law_1416 ?_
  refine cv_sld hX hC dL_law_1417 (fun v196 => ?_)
  refine cv_callVi (ob := 10) hC [.int v196] [] (M_X9_passedSlots l G v196 s194) ln_L_207 vm_X9_passedSlots (ob_10 G) rfl rfl (Nat.le_of_ble_eq_true rfl) ⟨Nat.le_of_ble_eq_true rfl, Nat.le_of_ble_eq_true rfl⟩ ⟨cv_rmc (by omega), cv_rms (by omega)⟩ dL_law_1418 (fun v198 s197 => ?_)
  refine cv_istore (lv' := [(7, .int v198), (6, .int v195), (0, .ref b), (1, .ref (G.1 0)), (2, .ref (G.1 10)), (3, .ref (G.1 66)), (4, .ref (G.1 67)), (5, .int l5)]) hC dL_law_1421 (by decide) rfl ?_
  refine cv_aload_n hC 4 dL_law_1423 rfl rfl ?_
  refine cv_callVi (ob := 10) hC [] [] (M_X9_thrown l G s197) ln_L_139 vm_X9_thrown (ob_10 G) rfl rfl (Nat.le_of_ble_eq_true rfl) ⟨Nat.le_of_ble_eq_true rfl, Nat.le_of_ble_eq_true rfl⟩ ⟨cv_rmc (by omega), cv_rms (by omega)⟩ dL_law_1424 (fun v200 s199 => ?_)
  refine cv_iload hC 1 dL_law_1427 rfl ?_
  refine cv_icmp_eq (tgt := 1434) hC dL_law_1429 (by decide) ?_ ?_
  · refine cv_iload hC 1 dL_law_1434 rfl ?_
    refine cv_if_ne (tgt := 1451) hC dL_law_1436 (by decide) ?_ ?_
    · exact cv_widen (by omega) (by omega) (cv_sub [2, 3, 4, 5, 6, 7] rfl (J_L_law_b1451 htr hX hC hcb k28 hk28 l5 s199))
    · refine cv_aload_n hC 5 dL_law_1439 rfl rfl ?_
      refine cv_iconst (v := 0) hC dL_law_1440 cb_iconst_0 ?_
      refine cv_lald hC dL_law_1441 (fun v201 => ?_)
      refine cv_iload hC 0 dL_law_1442 rfl ?_
      refine cv_i2l hC dL_law_1444 ?_
      refine cv_lcmp hC dL_law_1445 ?_
      refine cv_if_eq (tgt := 1451) hC dL_law_1446 (by decide) ?_ ?_
      · exact cv_widen (by omega) (by omega) (cv_sub [2, 3, 4, 5, 6, 7] rfl (J_L_law_b1451 htr hX hC hcb k28 hk28 l5 s199))
      · refine cv_iconst (v := 0) hC dL_law_1449 cb_iconst_0 ?_
        exact cv_lret0 (by decide)
  · refine cv_iconst (v := 0) hC dL_law_1432 cb_iconst_0 ?_
    exact cv_lret0 (by decide)
set_option maxRecDepth 20000 in
set_option maxHeartbeats 4000000 in
theorem J_L_law_b1507 {p : Program} {l : Launch} {e : Env} {s : State} {m : MethodId} {below : List Frame} {meth : Method} {c : Code} {G : cv_G} {b L : Nat} {xs : Nat → Int32} (htr : l.stackTraces = false) (hX : cv_CL (p, l, e, room_1, s, m, #[Value.ref b], below, meth, c) G b L xs) (hC : cv_C (p, l, e, room_1, s, m, #[Value.ref b], below, meth, c) G l RL cL_law 9 (some .boolean) room_1) {cb sb : Nat} (hcb : cb + 10 ≤ 603072 ∧ sb + 60 ≤ 7161962) (k28 : Int32 → cv_St → Option (Int32 × cv_St)) (hk28 : ∀ (l5 : Int32)  σ, cv_J (p, l, e, room_1, s, m, #[Value.ref b], below, meth, c) G 9 (cb + 10) (sb + 60) (cv_QL (p, l, e, room_1, s, m, #[Value.ref b], below, meth, c) b) 28 [(0, .ref b), (1, .ref (G.1 0)), (2, .ref (G.1 10)), (3, .ref (G.1 66)), (4, .ref (G.1 67)), (5, .int l5)] [] σ (k28 l5 σ)) (l5 : Int32) (σ : cv_St) : cv_J (p, l, e, room_1, s, m, #[Value.ref b], below, meth, c) G 9 (cb + 10) (sb + 60) (cv_QL (p, l, e, room_1, s, m, #[Value.ref b], below, meth, c) b) 1507 [(0, .ref b), (1, .ref (G.1 0)), (2, .ref (G.1 10)), (3, .ref (G.1 66)), (4, .ref (G.1 67)), (5, .int l5)] [] σ (F_L_law_b1507 xs L k28 l5 σ) := by
  unfold F_L_law_b1507
  refine cv_goto (tgt := 2188) hC dL_law_1507 (by decide) ?_
  exact cv_sub [0, 1, 2, 3, 4, 5] rfl (J_L_law_b2188 htr hX hC hcb k28 hk28 l5 σ)
set_option maxRecDepth 20000 in
set_option maxHeartbeats 4000000 in
theorem J_L_law_b1454 {p : Program} {l : Launch} {e : Env} {s : State} {m : MethodId} {below : List Frame} {meth : Method} {c : Code} {G : cv_G} {b L : Nat} {xs : Nat → Int32} (htr : l.stackTraces = false) (hX : cv_CL (p, l, e, room_1, s, m, #[Value.ref b], below, meth, c) G b L xs) (hC : cv_C (p, l, e, room_1, s, m, #[Value.ref b], below, meth, c) G l RL cL_law 9 (some .boolean) room_1) {cb sb : Nat} (hcb : cb + 10 ≤ 603072 ∧ sb + 60 ≤ 7161962) (k28 : Int32 → cv_St → Option (Int32 × cv_St)) (hk28 : ∀ (l5 : Int32)  σ, cv_J (p, l, e, room_1, s, m, #[Value.ref b], below, meth, c) G 9 (cb + 10) (sb + 60) (cv_QL (p, l, e, room_1, s, m, #[Value.ref b], below, meth, c) b) 28 [(0, .ref b), (1, .ref (G.1 0)), (2, .ref (G.1 10)), (3, .ref (G.1 66)), (4, .ref (G.1 67)), (5, .int l5)] [] σ (k28 l5 σ)) (l5 : Int32) (σ : cv_St) : cv_J (p, l, e, room_1, s, m, #[Value.ref b], below, meth, c) G 9 (cb + 0) (sb + 0) (cv_QL (p, l, e, room_1, s, m, #[Value.ref b], below, meth, c) b) 1454 [(0, .ref b), (1, .ref (G.1 0)), (2, .ref (G.1 10)), (3, .ref (G.1 66)), (4, .ref (G.1 67)), (5, .int l5)] [] σ (F_L_law_b1454 xs L k28 l5 σ) := by
  unfold F_L_law_b1454
  refine cv_aload_n hC 1 dL_law_1454 rfl rfl ?_
  refine cv_aload_n hC 0 dL_law_1455 rfl rfl ?_
  refine cv_iload hC 5 dL_law_1456 rfl ?_
  refine cv_iconst (v := 1) hC dL_law_1458 cb_iconst_1 ?_
  refine cv_iadd hC dL_law_1459 ?_
  refine cv_sld hX hC dL_law_1460 (fun v202 => ?_)
  refine cv_aload_n hC 3 dL_law_1461 rfl rfl ?_
  refine cv_callLi hX hC [.ref (G.1 0), .int v202, .ref (G.1 66)] [] (M_L_missingSlots htr G v202 σ) ln_L_208 sh_L_missingSlots rfl rfl (Nat.le_of_ble_eq_true rfl) ⟨Nat.le_of_ble_eq_true rfl, Nat.le_of_ble_eq_true rfl⟩ ⟨cv_rmc (by omega), cv_rms (by omega)⟩ dL_law_1462 (fun v204 s203 => ?_)
  refine cv_istore (lv' := [(6, .int v204), (0, .ref b), (1, .ref (G.1 0)), (2, .ref (G.1 10)), (3, .ref (G.1 66)), (4, .ref (G.1 67)), (5, .int l5)]) hC dL_law_1465 (by decide) rfl ?_
  refine cv_aload_n hC 3 dL_law_1467 rfl rfl ?_
  refine cv_aload_n hC 1 dL_law_1468 rfl rfl ?_
  refine cv_iload hC 6 dL_law_1469 rfl ?_
  refine cv_iconst (v := 1) hC dL_law_1471 cb_iconst_1 ?_
  refine cv_iadd hC dL_law_1472 ?_
  refine cv_sld hX hC dL_law_1473 (fun v205 => ?_)
  refine cv_callVi (ob := 10) hC [.int v205] [] (M_X9_missingSlots l G v205 s203) ln_L_210 vm_X9_missingSlots (ob_10 G) rfl rfl (Nat.le_of_ble_eq_true rfl) ⟨Nat.le_of_ble_eq_true rfl, Nat.le_of_ble_eq_true rfl⟩ ⟨cv_rmc (by omega), cv_rms (by omega)⟩ dL_law_1474 (fun v207 s206 => ?_)
  refine cv_istore (lv' := [(7, .int v207), (6, .int v204), (0, .ref b), (1, .ref (G.1 0)), (2, .ref (G.1 10)), (3, .ref (G.1 66)), (4, .ref (G.1 67)), (5, .int l5)]) hC dL_law_1477 (by decide) rfl ?_
  refine cv_aload_n hC 4 dL_law_1479 rfl rfl ?_
  refine cv_callVi (ob := 10) hC [] [] (M_X9_thrown l G s206) ln_L_139 vm_X9_thrown (ob_10 G) rfl rfl (Nat.le_of_ble_eq_true rfl) ⟨Nat.le_of_ble_eq_true rfl, Nat.le_of_ble_eq_true rfl⟩ ⟨cv_rmc (by omega), cv_rms (by omega)⟩ dL_law_1480 (fun v209 s208 => ?_)
  refine cv_iload hC 1 dL_law_1483 rfl ?_
  refine cv_icmp_eq (tgt := 1490) hC dL_law_1485 (by decide) ?_ ?_
  · refine cv_iload hC 1 dL_law_1490 rfl ?_
    refine cv_if_ne (tgt := 1507) hC dL_law_1492 (by decide) ?_ ?_
    · exact cv_widen (by omega) (by omega) (cv_sub [2, 3, 4, 5, 6, 7] rfl (J_L_law_b1507 htr hX hC hcb k28 hk28 l5 s208))
    · refine cv_aload_n hC 5 dL_law_1495 rfl rfl ?_
      refine cv_iconst (v := 0) hC dL_law_1496 cb_iconst_0 ?_
      refine cv_lald hC dL_law_1497 (fun v210 => ?_)
      refine cv_iload hC 0 dL_law_1498 rfl ?_
      refine cv_i2l hC dL_law_1500 ?_
      refine cv_lcmp hC dL_law_1501 ?_
      refine cv_if_eq (tgt := 1507) hC dL_law_1502 (by decide) ?_ ?_
      · exact cv_widen (by omega) (by omega) (cv_sub [2, 3, 4, 5, 6, 7] rfl (J_L_law_b1507 htr hX hC hcb k28 hk28 l5 s208))
      · refine cv_iconst (v := 0) hC dL_law_1505 cb_iconst_0 ?_
        exact cv_lret0 (by decide)
  · refine cv_iconst (v := 0) hC dL_law_1488 cb_iconst_0 ?_
    exact cv_lret0 (by decide)
set_option maxRecDepth 20000 in
set_option maxHeartbeats 4000000 in
theorem J_L_law_b1563 {p : Program} {l : Launch} {e : Env} {s : State} {m : MethodId} {below : List Frame} {meth : Method} {c : Code} {G : cv_G} {b L : Nat} {xs : Nat → Int32} (htr : l.stackTraces = false) (hX : cv_CL (p, l, e, room_1, s, m, #[Value.ref b], below, meth, c) G b L xs) (hC : cv_C (p, l, e, room_1, s, m, #[Value.ref b], below, meth, c) G l RL cL_law 9 (some .boolean) room_1) {cb sb : Nat} (hcb : cb + 10 ≤ 603072 ∧ sb + 60 ≤ 7161962) (k28 : Int32 → cv_St → Option (Int32 × cv_St)) (hk28 : ∀ (l5 : Int32)  σ, cv_J (p, l, e, room_1, s, m, #[Value.ref b], below, meth, c) G 9 (cb + 10) (sb + 60) (cv_QL (p, l, e, room_1, s, m, #[Value.ref b], below, meth, c) b) 28 [(0, .ref b), (1, .ref (G.1 0)), (2, .ref (G.1 10)), (3, .ref (G.1 66)), (4, .ref (G.1 67)), (5, .int l5)] [] σ (k28 l5 σ)) (l5 : Int32) (σ : cv_St) : cv_J (p, l, e, room_1, s, m, #[Value.ref b], below, meth, c) G 9 (cb + 10) (sb + 60) (cv_QL (p, l, e, room_1, s, m, #[Value.ref b], below, meth, c) b) 1563 [(0, .ref b), (1, .ref (G.1 0)), (2, .ref (G.1 10)), (3, .ref (G.1 66)), (4, .ref (G.1 67)), (5, .int l5)] [] σ (F_L_law_b1563 xs L k28 l5 σ) := by
  unfold F_L_law_b1563
  refine cv_goto (tgt := 2188) hC dL_law_1563 (by decide) ?_
  exact cv_sub [0, 1, 2, 3, 4, 5] rfl (J_L_law_b2188 htr hX hC hcb k28 hk28 l5 σ)
set_option maxRecDepth 20000 in
set_option maxHeartbeats 4000000 in
theorem J_L_law_b1510 {p : Program} {l : Launch} {e : Env} {s : State} {m : MethodId} {below : List Frame} {meth : Method} {c : Code} {G : cv_G} {b L : Nat} {xs : Nat → Int32} (htr : l.stackTraces = false) (hX : cv_CL (p, l, e, room_1, s, m, #[Value.ref b], below, meth, c) G b L xs) (hC : cv_C (p, l, e, room_1, s, m, #[Value.ref b], below, meth, c) G l RL cL_law 9 (some .boolean) room_1) {cb sb : Nat} (hcb : cb + 10 ≤ 603072 ∧ sb + 60 ≤ 7161962) (k28 : Int32 → cv_St → Option (Int32 × cv_St)) (hk28 : ∀ (l5 : Int32)  σ, cv_J (p, l, e, room_1, s, m, #[Value.ref b], below, meth, c) G 9 (cb + 10) (sb + 60) (cv_QL (p, l, e, room_1, s, m, #[Value.ref b], below, meth, c) b) 28 [(0, .ref b), (1, .ref (G.1 0)), (2, .ref (G.1 10)), (3, .ref (G.1 66)), (4, .ref (G.1 67)), (5, .int l5)] [] σ (k28 l5 σ)) (l5 : Int32) (σ : cv_St) : cv_J (p, l, e, room_1, s, m, #[Value.ref b], below, meth, c) G 9 (cb + 0) (sb + 0) (cv_QL (p, l, e, room_1, s, m, #[Value.ref b], below, meth, c) b) 1510 [(0, .ref b), (1, .ref (G.1 0)), (2, .ref (G.1 10)), (3, .ref (G.1 66)), (4, .ref (G.1 67)), (5, .int l5)] [] σ (F_L_law_b1510 xs L k28 l5 σ) := by
  unfold F_L_law_b1510
  refine cv_aload_n hC 1 dL_law_1510 rfl rfl ?_
  refine cv_aload_n hC 0 dL_law_1511 rfl rfl ?_
  refine cv_iload hC 5 dL_law_1512 rfl ?_
  refine cv_iconst (v := 1) hC dL_law_1514 cb_iconst_1 ?_
  refine cv_iadd hC dL_law_1515 ?_
  refine cv_sld hX hC dL_law_1516 (fun v211 => ?_)
  refine cv_aload_n hC 3 dL_law_1517 rfl rfl ?_
  refine cv_callLi hX hC [.ref (G.1 0), .int v211, .ref (G.1 66)] [] (M_L_lostRegisters htr G v211 σ) ln_L_211 sh_L_lostRegisters rfl rfl (Nat.le_of_ble_eq_true rfl) ⟨Nat.le_of_ble_eq_true rfl, Nat.le_of_ble_eq_true rfl⟩ ⟨cv_rmc (by omega), cv_rms (by omega)⟩ dL_law_1518 (fun v213 s212 => ?_)
  refine cv_istore (lv' := [(6, .int v213), (0, .ref b), (1, .ref (G.1 0)), (2, .ref (G.1 10)), (3, .ref (G.1 66)), (4, .ref (G.1 67)), (5, .int l5)]) hC dL_law_1521 (by decide) rfl ?_
  refine cv_aload_n hC 3 dL_law_1523 rfl rfl ?_
  refine cv_aload_n hC 1 dL_law_1524 rfl rfl ?_
  refine cv_iload hC 6 dL_law_1525 rfl ?_
  refine cv_iconst (v := 1) hC dL_law_1527 cb_iconst_1 ?_
  refine cv_iadd hC dL_law_1528 ?_
  refine cv_sld hX hC dL_law_1529 (fun v214 => ?_)
  refine cv_callVi (ob := 10) hC [.int v214] [] (M_X9_lostRegisters l G v214 s212) ln_L_213 vm_X9_lostRegisters (ob_10 G) rfl rfl (Nat.le_of_ble_eq_true rfl) ⟨Nat.le_of_ble_eq_true rfl, Nat.le_of_ble_eq_true rfl⟩ ⟨cv_rmc (by omega), cv_rms (by omega)⟩ dL_law_1530 (fun v216 s215 => ?_)
  refine cv_istore (lv' := [(7, .int v216), (6, .int v213), (0, .ref b), (1, .ref (G.1 0)), (2, .ref (G.1 10)), (3, .ref (G.1 66)), (4, .ref (G.1 67)), (5, .int l5)]) hC dL_law_1533 (by decide) rfl ?_
  refine cv_aload_n hC 4 dL_law_1535 rfl rfl ?_
  refine cv_callVi (ob := 10) hC [] [] (M_X9_thrown l G s215) ln_L_139 vm_X9_thrown (ob_10 G) rfl rfl (Nat.le_of_ble_eq_true rfl) ⟨Nat.le_of_ble_eq_true rfl, Nat.le_of_ble_eq_true rfl⟩ ⟨cv_rmc (by omega), cv_rms (by omega)⟩ dL_law_1536 (fun v218 s217 => ?_)
  refine cv_iload hC 1 dL_law_1539 rfl ?_
  refine cv_icmp_eq (tgt := 1546) hC dL_law_1541 (by decide) ?_ ?_
  · refine cv_iload hC 1 dL_law_1546 rfl ?_
    refine cv_if_ne (tgt := 1563) hC dL_law_1548 (by decide) ?_ ?_
    · exact cv_widen (by omega) (by omega) (cv_sub [2, 3, 4, 5, 6, 7] rfl (J_L_law_b1563 htr hX hC hcb k28 hk28 l5 s217))
    · refine cv_aload_n hC 5 dL_law_1551 rfl rfl ?_
      refine cv_iconst (v := 0) hC dL_law_1552 cb_iconst_0 ?_
      refine cv_lald hC dL_law_1553 (fun v219 => ?_)
      refine cv_iload hC 0 dL_law_1554 rfl ?_
      refine cv_i2l hC dL_law_1556 ?_
      refine cv_lcmp hC dL_law_1557 ?_
      refine cv_if_eq (tgt := 1563) hC dL_law_1558 (by decide) ?_ ?_
      · exact cv_widen (by omega) (by omega) (cv_sub [2, 3, 4, 5, 6, 7] rfl (J_L_law_b1563 htr hX hC hcb k28 hk28 l5 s217))
      · refine cv_iconst (v := 0) hC dL_law_1561 cb_iconst_0 ?_
        exact cv_lret0 (by decide)
  · refine cv_iconst (v := 0) hC dL_law_1544 cb_iconst_0 ?_
    exact cv_lret0 (by decide)
set_option maxRecDepth 20000 in
set_option maxHeartbeats 4000000 in
theorem J_L_law_b1619 {p : Program} {l : Launch} {e : Env} {s : State} {m : MethodId} {below : List Frame} {meth : Method} {c : Code} {G : cv_G} {b L : Nat} {xs : Nat → Int32} (htr : l.stackTraces = false) (hX : cv_CL (p, l, e, room_1, s, m, #[Value.ref b], below, meth, c) G b L xs) (hC : cv_C (p, l, e, room_1, s, m, #[Value.ref b], below, meth, c) G l RL cL_law 9 (some .boolean) room_1) {cb sb : Nat} (hcb : cb + 10 ≤ 603072 ∧ sb + 60 ≤ 7161962) (k28 : Int32 → cv_St → Option (Int32 × cv_St)) (hk28 : ∀ (l5 : Int32)  σ, cv_J (p, l, e, room_1, s, m, #[Value.ref b], below, meth, c) G 9 (cb + 10) (sb + 60) (cv_QL (p, l, e, room_1, s, m, #[Value.ref b], below, meth, c) b) 28 [(0, .ref b), (1, .ref (G.1 0)), (2, .ref (G.1 10)), (3, .ref (G.1 66)), (4, .ref (G.1 67)), (5, .int l5)] [] σ (k28 l5 σ)) (l5 : Int32) (σ : cv_St) : cv_J (p, l, e, room_1, s, m, #[Value.ref b], below, meth, c) G 9 (cb + 10) (sb + 60) (cv_QL (p, l, e, room_1, s, m, #[Value.ref b], below, meth, c) b) 1619 [(0, .ref b), (1, .ref (G.1 0)), (2, .ref (G.1 10)), (3, .ref (G.1 66)), (4, .ref (G.1 67)), (5, .int l5)] [] σ (F_L_law_b1619 xs L k28 l5 σ) := by
  unfold F_L_law_b1619
  refine cv_goto (tgt := 2188) hC dL_law_1619 (by decide) ?_
  exact cv_sub [0, 1, 2, 3, 4, 5] rfl (J_L_law_b2188 htr hX hC hcb k28 hk28 l5 σ)
set_option maxRecDepth 20000 in
set_option maxHeartbeats 4000000 in
theorem J_L_law_b1566 {p : Program} {l : Launch} {e : Env} {s : State} {m : MethodId} {below : List Frame} {meth : Method} {c : Code} {G : cv_G} {b L : Nat} {xs : Nat → Int32} (htr : l.stackTraces = false) (hX : cv_CL (p, l, e, room_1, s, m, #[Value.ref b], below, meth, c) G b L xs) (hC : cv_C (p, l, e, room_1, s, m, #[Value.ref b], below, meth, c) G l RL cL_law 9 (some .boolean) room_1) {cb sb : Nat} (hcb : cb + 10 ≤ 603072 ∧ sb + 60 ≤ 7161962) (k28 : Int32 → cv_St → Option (Int32 × cv_St)) (hk28 : ∀ (l5 : Int32)  σ, cv_J (p, l, e, room_1, s, m, #[Value.ref b], below, meth, c) G 9 (cb + 10) (sb + 60) (cv_QL (p, l, e, room_1, s, m, #[Value.ref b], below, meth, c) b) 28 [(0, .ref b), (1, .ref (G.1 0)), (2, .ref (G.1 10)), (3, .ref (G.1 66)), (4, .ref (G.1 67)), (5, .int l5)] [] σ (k28 l5 σ)) (l5 : Int32) (σ : cv_St) : cv_J (p, l, e, room_1, s, m, #[Value.ref b], below, meth, c) G 9 (cb + 0) (sb + 0) (cv_QL (p, l, e, room_1, s, m, #[Value.ref b], below, meth, c) b) 1566 [(0, .ref b), (1, .ref (G.1 0)), (2, .ref (G.1 10)), (3, .ref (G.1 66)), (4, .ref (G.1 67)), (5, .int l5)] [] σ (F_L_law_b1566 xs L k28 l5 σ) := by
  unfold F_L_law_b1566
  refine cv_aload_n hC 1 dL_law_1566 rfl rfl ?_
  refine cv_aload_n hC 0 dL_law_1567 rfl rfl ?_
  refine cv_iload hC 5 dL_law_1568 rfl ?_
  refine cv_iconst (v := 1) hC dL_law_1570 cb_iconst_1 ?_
  refine cv_iadd hC dL_law_1571 ?_
  refine cv_sld hX hC dL_law_1572 (fun v220 => ?_)
  refine cv_aload_n hC 3 dL_law_1573 rfl rfl ?_
  refine cv_callLi hX hC [.ref (G.1 0), .int v220, .ref (G.1 66)] [] (M_L_liveBehind htr G v220 σ) ln_L_214 sh_L_liveBehind rfl rfl (Nat.le_of_ble_eq_true rfl) ⟨Nat.le_of_ble_eq_true rfl, Nat.le_of_ble_eq_true rfl⟩ ⟨cv_rmc (by omega), cv_rms (by omega)⟩ dL_law_1574 (fun v222 s221 => ?_)
  refine cv_istore (lv' := [(6, .int v222), (0, .ref b), (1, .ref (G.1 0)), (2, .ref (G.1 10)), (3, .ref (G.1 66)), (4, .ref (G.1 67)), (5, .int l5)]) hC dL_law_1577 (by decide) rfl ?_
  refine cv_aload_n hC 3 dL_law_1579 rfl rfl ?_
  refine cv_aload_n hC 1 dL_law_1580 rfl rfl ?_
  refine cv_iload hC 6 dL_law_1581 rfl ?_
  refine cv_iconst (v := 1) hC dL_law_1583 cb_iconst_1 ?_
  refine cv_iadd hC dL_law_1584 ?_
  refine cv_sld hX hC dL_law_1585 (fun v223 => ?_)
  refine cv_callVi (ob := 10) hC [.int v223] [] (M_X9_liveBehind_ l G v223 s221) ln_L_216 vm_X9_liveBehind_ (ob_10 G) rfl rfl (Nat.le_of_ble_eq_true rfl) ⟨Nat.le_of_ble_eq_true rfl, Nat.le_of_ble_eq_true rfl⟩ ⟨cv_rmc (by omega), cv_rms (by omega)⟩ dL_law_1586 (fun v225 s224 => ?_)
  refine cv_istore (lv' := [(7, .int v225), (6, .int v222), (0, .ref b), (1, .ref (G.1 0)), (2, .ref (G.1 10)), (3, .ref (G.1 66)), (4, .ref (G.1 67)), (5, .int l5)]) hC dL_law_1589 (by decide) rfl ?_
  refine cv_aload_n hC 4 dL_law_1591 rfl rfl ?_
  refine cv_callVi (ob := 10) hC [] [] (M_X9_thrown l G s224) ln_L_139 vm_X9_thrown (ob_10 G) rfl rfl (Nat.le_of_ble_eq_true rfl) ⟨Nat.le_of_ble_eq_true rfl, Nat.le_of_ble_eq_true rfl⟩ ⟨cv_rmc (by omega), cv_rms (by omega)⟩ dL_law_1592 (fun v227 s226 => ?_)
  refine cv_iload hC 1 dL_law_1595 rfl ?_
  refine cv_icmp_eq (tgt := 1602) hC dL_law_1597 (by decide) ?_ ?_
  · refine cv_iload hC 1 dL_law_1602 rfl ?_
    refine cv_if_ne (tgt := 1619) hC dL_law_1604 (by decide) ?_ ?_
    · exact cv_widen (by omega) (by omega) (cv_sub [2, 3, 4, 5, 6, 7] rfl (J_L_law_b1619 htr hX hC hcb k28 hk28 l5 s226))
    · refine cv_aload_n hC 5 dL_law_1607 rfl rfl ?_
      refine cv_iconst (v := 0) hC dL_law_1608 cb_iconst_0 ?_
      refine cv_lald hC dL_law_1609 (fun v228 => ?_)
      refine cv_iload hC 0 dL_law_1610 rfl ?_
      refine cv_i2l hC dL_law_1612 ?_
      refine cv_lcmp hC dL_law_1613 ?_
      refine cv_if_eq (tgt := 1619) hC dL_law_1614 (by decide) ?_ ?_
      · exact cv_widen (by omega) (by omega) (cv_sub [2, 3, 4, 5, 6, 7] rfl (J_L_law_b1619 htr hX hC hcb k28 hk28 l5 s226))
      · refine cv_iconst (v := 0) hC dL_law_1617 cb_iconst_0 ?_
        exact cv_lret0 (by decide)
  · refine cv_iconst (v := 0) hC dL_law_1600 cb_iconst_0 ?_
    exact cv_lret0 (by decide)
set_option maxRecDepth 20000 in
set_option maxHeartbeats 4000000 in
theorem J_L_law_b1622 {p : Program} {l : Launch} {e : Env} {s : State} {m : MethodId} {below : List Frame} {meth : Method} {c : Code} {G : cv_G} {b L : Nat} {xs : Nat → Int32} (htr : l.stackTraces = false) (hX : cv_CL (p, l, e, room_1, s, m, #[Value.ref b], below, meth, c) G b L xs) (hC : cv_C (p, l, e, room_1, s, m, #[Value.ref b], below, meth, c) G l RL cL_law 9 (some .boolean) room_1) {cb sb : Nat} (hcb : cb + 10 ≤ 603072 ∧ sb + 60 ≤ 7161962) (k28 : Int32 → cv_St → Option (Int32 × cv_St)) (hk28 : ∀ (l5 : Int32)  σ, cv_J (p, l, e, room_1, s, m, #[Value.ref b], below, meth, c) G 9 (cb + 10) (sb + 60) (cv_QL (p, l, e, room_1, s, m, #[Value.ref b], below, meth, c) b) 28 [(0, .ref b), (1, .ref (G.1 0)), (2, .ref (G.1 10)), (3, .ref (G.1 66)), (4, .ref (G.1 67)), (5, .int l5)] [] σ (k28 l5 σ)) (l5 : Int32) (σ : cv_St) : cv_J (p, l, e, room_1, s, m, #[Value.ref b], below, meth, c) G 9 (cb + 0) (sb + 0) (cv_QL (p, l, e, room_1, s, m, #[Value.ref b], below, meth, c) b) 1622 [(0, .ref b), (1, .ref (G.1 0)), (2, .ref (G.1 10)), (3, .ref (G.1 66)), (4, .ref (G.1 67)), (5, .int l5)] [] σ (F_L_law_b1622 xs L k28 l5 σ) := by
  unfold F_L_law_b1622
  refine cv_aload_n hC 1 dL_law_1622 rfl rfl ?_
  refine cv_callVi (ob := 0) hC [] [] (M_X8_problems l G σ) ln_L_217 vm_X8_problems (ob_0 G) rfl rfl (Nat.le_of_ble_eq_true rfl) ⟨Nat.le_of_ble_eq_true rfl, Nat.le_of_ble_eq_true rfl⟩ ⟨cv_rmc (by omega), cv_rms (by omega)⟩ dL_law_1623 (fun v230 s229 => ?_)
  refine cv_aload_n hC 2 dL_law_1626 rfl rfl ?_
  refine cv_callVi (ob := 10) hC [] [.int v230] (M_X9_problems l G s229) ln_L_220 vm_X9_problems (ob_10 G) rfl rfl (Nat.le_of_ble_eq_true rfl) ⟨Nat.le_of_ble_eq_true rfl, Nat.le_of_ble_eq_true rfl⟩ ⟨cv_rmc (by omega), cv_rms (by omega)⟩ dL_law_1627 (fun v232 s231 => ?_)
  refine cv_icmp_eq (tgt := 2188) hC dL_law_1630 (by decide) ?_ ?_
  · exact cv_widen (by omega) (by omega) (cv_sub [0, 1, 2, 3, 4, 5] rfl (J_L_law_b2188 htr hX hC hcb k28 hk28 l5 s231))
  · refine cv_iconst (v := 0) hC dL_law_1633 cb_iconst_0 ?_
    exact cv_lret0 (by decide)
set_option maxRecDepth 20000 in
set_option maxHeartbeats 4000000 in
theorem J_L_law_b1676 {p : Program} {l : Launch} {e : Env} {s : State} {m : MethodId} {below : List Frame} {meth : Method} {c : Code} {G : cv_G} {b L : Nat} {xs : Nat → Int32} (htr : l.stackTraces = false) (hX : cv_CL (p, l, e, room_1, s, m, #[Value.ref b], below, meth, c) G b L xs) (hC : cv_C (p, l, e, room_1, s, m, #[Value.ref b], below, meth, c) G l RL cL_law 9 (some .boolean) room_1) {cb sb : Nat} (hcb : cb + 10 ≤ 603072 ∧ sb + 60 ≤ 7161962) (k28 : Int32 → cv_St → Option (Int32 × cv_St)) (hk28 : ∀ (l5 : Int32)  σ, cv_J (p, l, e, room_1, s, m, #[Value.ref b], below, meth, c) G 9 (cb + 10) (sb + 60) (cv_QL (p, l, e, room_1, s, m, #[Value.ref b], below, meth, c) b) 28 [(0, .ref b), (1, .ref (G.1 0)), (2, .ref (G.1 10)), (3, .ref (G.1 66)), (4, .ref (G.1 67)), (5, .int l5)] [] σ (k28 l5 σ)) (l5 : Int32) (σ : cv_St) : cv_J (p, l, e, room_1, s, m, #[Value.ref b], below, meth, c) G 9 (cb + 10) (sb + 60) (cv_QL (p, l, e, room_1, s, m, #[Value.ref b], below, meth, c) b) 1676 [(0, .ref b), (1, .ref (G.1 0)), (2, .ref (G.1 10)), (3, .ref (G.1 66)), (4, .ref (G.1 67)), (5, .int l5)] [] σ (F_L_law_b1676 xs L k28 l5 σ) := by
  unfold F_L_law_b1676
  refine cv_goto (tgt := 2188) hC dL_law_1676 (by decide) ?_
  exact cv_sub [0, 1, 2, 3, 4, 5] rfl (J_L_law_b2188 htr hX hC hcb k28 hk28 l5 σ)
set_option maxRecDepth 20000 in
set_option maxHeartbeats 4000000 in
theorem J_L_law_b1635 {p : Program} {l : Launch} {e : Env} {s : State} {m : MethodId} {below : List Frame} {meth : Method} {c : Code} {G : cv_G} {b L : Nat} {xs : Nat → Int32} (htr : l.stackTraces = false) (hX : cv_CL (p, l, e, room_1, s, m, #[Value.ref b], below, meth, c) G b L xs) (hC : cv_C (p, l, e, room_1, s, m, #[Value.ref b], below, meth, c) G l RL cL_law 9 (some .boolean) room_1) {cb sb : Nat} (hcb : cb + 10 ≤ 603072 ∧ sb + 60 ≤ 7161962) (k28 : Int32 → cv_St → Option (Int32 × cv_St)) (hk28 : ∀ (l5 : Int32)  σ, cv_J (p, l, e, room_1, s, m, #[Value.ref b], below, meth, c) G 9 (cb + 10) (sb + 60) (cv_QL (p, l, e, room_1, s, m, #[Value.ref b], below, meth, c) b) 28 [(0, .ref b), (1, .ref (G.1 0)), (2, .ref (G.1 10)), (3, .ref (G.1 66)), (4, .ref (G.1 67)), (5, .int l5)] [] σ (k28 l5 σ)) (l5 : Int32) (σ : cv_St) : cv_J (p, l, e, room_1, s, m, #[Value.ref b], below, meth, c) G 9 (cb + 0) (sb + 0) (cv_QL (p, l, e, room_1, s, m, #[Value.ref b], below, meth, c) b) 1635 [(0, .ref b), (1, .ref (G.1 0)), (2, .ref (G.1 10)), (3, .ref (G.1 66)), (4, .ref (G.1 67)), (5, .int l5)] [] σ (F_L_law_b1635 xs L k28 l5 σ) := by
  unfold F_L_law_b1635
  refine cv_aload_n hC 1 dL_law_1635 rfl rfl ?_
  refine cv_aload_n hC 3 dL_law_1636 rfl rfl ?_
  refine cv_callLi hX hC [.ref (G.1 0), .ref (G.1 66)] [] (M_L_firstProblem htr G σ) ln_L_221 sh_L_firstProblem rfl rfl (Nat.le_of_ble_eq_true rfl) ⟨Nat.le_of_ble_eq_true rfl, Nat.le_of_ble_eq_true rfl⟩ ⟨cv_rmc (by omega), cv_rms (by omega)⟩ dL_law_1637 (fun v234 s233 => ?_)
  refine cv_istore (lv' := [(6, .int v234), (0, .ref b), (1, .ref (G.1 0)), (2, .ref (G.1 10)), (3, .ref (G.1 66)), (4, .ref (G.1 67)), (5, .int l5)]) hC dL_law_1640 (by decide) rfl ?_
  refine cv_aload_n hC 3 dL_law_1642 rfl rfl ?_
  refine cv_callVi (ob := 10) hC [] [] (M_X9_firstProblem l G s233) ln_L_224 vm_X9_firstProblem (ob_10 G) rfl rfl (Nat.le_of_ble_eq_true rfl) ⟨Nat.le_of_ble_eq_true rfl, Nat.le_of_ble_eq_true rfl⟩ ⟨cv_rmc (by omega), cv_rms (by omega)⟩ dL_law_1643 (fun v236 s235 => ?_)
  refine cv_istore (lv' := [(7, .int v236), (6, .int v234), (0, .ref b), (1, .ref (G.1 0)), (2, .ref (G.1 10)), (3, .ref (G.1 66)), (4, .ref (G.1 67)), (5, .int l5)]) hC dL_law_1646 (by decide) rfl ?_
  refine cv_aload_n hC 4 dL_law_1648 rfl rfl ?_
  refine cv_callVi (ob := 10) hC [] [] (M_X9_thrown l G s235) ln_L_139 vm_X9_thrown (ob_10 G) rfl rfl (Nat.le_of_ble_eq_true rfl) ⟨Nat.le_of_ble_eq_true rfl, Nat.le_of_ble_eq_true rfl⟩ ⟨cv_rmc (by omega), cv_rms (by omega)⟩ dL_law_1649 (fun v238 s237 => ?_)
  refine cv_iload hC 1 dL_law_1652 rfl ?_
  refine cv_icmp_eq (tgt := 1659) hC dL_law_1654 (by decide) ?_ ?_
  · refine cv_iload hC 1 dL_law_1659 rfl ?_
    refine cv_if_ne (tgt := 1676) hC dL_law_1661 (by decide) ?_ ?_
    · exact cv_widen (by omega) (by omega) (cv_sub [2, 3, 4, 5, 6, 7] rfl (J_L_law_b1676 htr hX hC hcb k28 hk28 l5 s237))
    · refine cv_aload_n hC 5 dL_law_1664 rfl rfl ?_
      refine cv_iconst (v := 0) hC dL_law_1665 cb_iconst_0 ?_
      refine cv_lald hC dL_law_1666 (fun v239 => ?_)
      refine cv_iload hC 0 dL_law_1667 rfl ?_
      refine cv_i2l hC dL_law_1669 ?_
      refine cv_lcmp hC dL_law_1670 ?_
      refine cv_if_eq (tgt := 1676) hC dL_law_1671 (by decide) ?_ ?_
      · exact cv_widen (by omega) (by omega) (cv_sub [2, 3, 4, 5, 6, 7] rfl (J_L_law_b1676 htr hX hC hcb k28 hk28 l5 s237))
      · refine cv_iconst (v := 0) hC dL_law_1674 cb_iconst_0 ?_
        exact cv_lret0 (by decide)
  · refine cv_iconst (v := 0) hC dL_law_1657 cb_iconst_0 ?_
    exact cv_lret0 (by decide)
set_option maxRecDepth 20000 in
set_option maxHeartbeats 4000000 in
theorem J_L_law_b1744 {p : Program} {l : Launch} {e : Env} {s : State} {m : MethodId} {below : List Frame} {meth : Method} {c : Code} {G : cv_G} {b L : Nat} {xs : Nat → Int32} (htr : l.stackTraces = false) (hX : cv_CL (p, l, e, room_1, s, m, #[Value.ref b], below, meth, c) G b L xs) (hC : cv_C (p, l, e, room_1, s, m, #[Value.ref b], below, meth, c) G l RL cL_law 9 (some .boolean) room_1) {cb sb : Nat} (hcb : cb + 10 ≤ 603072 ∧ sb + 60 ≤ 7161962) (k28 : Int32 → cv_St → Option (Int32 × cv_St)) (hk28 : ∀ (l5 : Int32)  σ, cv_J (p, l, e, room_1, s, m, #[Value.ref b], below, meth, c) G 9 (cb + 10) (sb + 60) (cv_QL (p, l, e, room_1, s, m, #[Value.ref b], below, meth, c) b) 28 [(0, .ref b), (1, .ref (G.1 0)), (2, .ref (G.1 10)), (3, .ref (G.1 66)), (4, .ref (G.1 67)), (5, .int l5)] [] σ (k28 l5 σ)) (l5 : Int32) (σ : cv_St) : cv_J (p, l, e, room_1, s, m, #[Value.ref b], below, meth, c) G 9 (cb + 10) (sb + 60) (cv_QL (p, l, e, room_1, s, m, #[Value.ref b], below, meth, c) b) 1744 [(0, .ref b), (1, .ref (G.1 0)), (2, .ref (G.1 10)), (3, .ref (G.1 66)), (4, .ref (G.1 67)), (5, .int l5)] [] σ (F_L_law_b1744 xs L k28 l5 σ) := by
  unfold F_L_law_b1744
  refine cv_goto (tgt := 2188) hC dL_law_1744 (by decide) ?_
  exact cv_sub [0, 1, 2, 3, 4, 5] rfl (J_L_law_b2188 htr hX hC hcb k28 hk28 l5 σ)
set_option maxRecDepth 20000 in
set_option maxHeartbeats 4000000 in
theorem J_L_law_b1679 {p : Program} {l : Launch} {e : Env} {s : State} {m : MethodId} {below : List Frame} {meth : Method} {c : Code} {G : cv_G} {b L : Nat} {xs : Nat → Int32} (htr : l.stackTraces = false) (hX : cv_CL (p, l, e, room_1, s, m, #[Value.ref b], below, meth, c) G b L xs) (hC : cv_C (p, l, e, room_1, s, m, #[Value.ref b], below, meth, c) G l RL cL_law 9 (some .boolean) room_1) {cb sb : Nat} (hcb : cb + 10 ≤ 603072 ∧ sb + 60 ≤ 7161962) (k28 : Int32 → cv_St → Option (Int32 × cv_St)) (hk28 : ∀ (l5 : Int32)  σ, cv_J (p, l, e, room_1, s, m, #[Value.ref b], below, meth, c) G 9 (cb + 10) (sb + 60) (cv_QL (p, l, e, room_1, s, m, #[Value.ref b], below, meth, c) b) 28 [(0, .ref b), (1, .ref (G.1 0)), (2, .ref (G.1 10)), (3, .ref (G.1 66)), (4, .ref (G.1 67)), (5, .int l5)] [] σ (k28 l5 σ)) (l5 : Int32) (σ : cv_St) : cv_J (p, l, e, room_1, s, m, #[Value.ref b], below, meth, c) G 9 (cb + 0) (sb + 0) (cv_QL (p, l, e, room_1, s, m, #[Value.ref b], below, meth, c) b) 1679 [(0, .ref b), (1, .ref (G.1 0)), (2, .ref (G.1 10)), (3, .ref (G.1 66)), (4, .ref (G.1 67)), (5, .int l5)] [] σ (F_L_law_b1679 xs L k28 l5 σ) := by
  unfold F_L_law_b1679
  refine cv_aload_n hC 1 dL_law_1679 rfl rfl ?_
  refine cv_aload_n hC 0 dL_law_1680 rfl rfl ?_
  refine cv_iload hC 5 dL_law_1681 rfl ?_
  refine cv_iconst (v := 1) hC dL_law_1683 cb_iconst_1 ?_
  refine cv_iadd hC dL_law_1684 ?_
  refine cv_sld hX hC dL_law_1685 (fun v240 => ?_)
  refine cv_aload_n hC 0 dL_law_1686 rfl rfl ?_
  refine cv_iload hC 5 dL_law_1687 rfl ?_
  refine cv_iconst (v := 2) hC dL_law_1689 cb_iconst_2 ?_
  refine cv_iadd hC dL_law_1690 ?_
  refine cv_sld hX hC dL_law_1691 (fun v241 => ?_)
  refine cv_aload_n hC 3 dL_law_1692 rfl rfl ?_
  refine cv_callLi hX hC [.ref (G.1 0), .int v240, .int v241, .ref (G.1 66)] [] (M_L_votes htr G v240 v241 σ) ln_L_225 sh_L_votes rfl rfl (Nat.le_of_ble_eq_true rfl) ⟨Nat.le_of_ble_eq_true rfl, Nat.le_of_ble_eq_true rfl⟩ ⟨cv_rmc (by omega), cv_rms (by omega)⟩ dL_law_1693 (fun v243 s242 => ?_)
  refine cv_istore (lv' := [(6, .int v243), (0, .ref b), (1, .ref (G.1 0)), (2, .ref (G.1 10)), (3, .ref (G.1 66)), (4, .ref (G.1 67)), (5, .int l5)]) hC dL_law_1696 (by decide) rfl ?_
  refine cv_aload_n hC 3 dL_law_1698 rfl rfl ?_
  refine cv_aload_n hC 1 dL_law_1699 rfl rfl ?_
  refine cv_iload hC 6 dL_law_1700 rfl ?_
  refine cv_iconst (v := 1) hC dL_law_1702 cb_iconst_1 ?_
  refine cv_iadd hC dL_law_1703 ?_
  refine cv_sld hX hC dL_law_1704 (fun v244 => ?_)
  refine cv_aload_n hC 1 dL_law_1705 rfl rfl ?_
  refine cv_iload hC 6 dL_law_1706 rfl ?_
  refine cv_iconst (v := 2) hC dL_law_1708 cb_iconst_2 ?_
  refine cv_iadd hC dL_law_1709 ?_
  refine cv_sld hX hC dL_law_1710 (fun v245 => ?_)
  refine cv_callVi (ob := 10) hC [.int v244, .int v245] [] (M_X9_votes l G v244 v245 s242) ln_L_227 vm_X9_votes (ob_10 G) rfl rfl (Nat.le_of_ble_eq_true rfl) ⟨Nat.le_of_ble_eq_true rfl, Nat.le_of_ble_eq_true rfl⟩ ⟨cv_rmc (by omega), cv_rms (by omega)⟩ dL_law_1711 (fun v247 s246 => ?_)
  refine cv_istore (lv' := [(7, .int v247), (6, .int v243), (0, .ref b), (1, .ref (G.1 0)), (2, .ref (G.1 10)), (3, .ref (G.1 66)), (4, .ref (G.1 67)), (5, .int l5)]) hC dL_law_1714 (by decide) rfl ?_
  refine cv_aload_n hC 4 dL_law_1716 rfl rfl ?_
  refine cv_callVi (ob := 10) hC [] [] (M_X9_thrown l G s246) ln_L_139 vm_X9_thrown (ob_10 G) rfl rfl (Nat.le_of_ble_eq_true rfl) ⟨Nat.le_of_ble_eq_true rfl, Nat.le_of_ble_eq_true rfl⟩ ⟨cv_rmc (by omega), cv_rms (by omega)⟩ dL_law_1717 (fun v249 s248 => ?_)
  refine cv_iload hC 1 dL_law_1720 rfl ?_
  refine cv_icmp_eq (tgt := 1727) hC dL_law_1722 (by decide) ?_ ?_
  · refine cv_iload hC 1 dL_law_1727 rfl ?_
    refine cv_if_ne (tgt := 1744) hC dL_law_1729 (by decide) ?_ ?_
    · exact cv_widen (by omega) (by omega) (cv_sub [2, 3, 4, 5, 6, 7] rfl (J_L_law_b1744 htr hX hC hcb k28 hk28 l5 s248))
    · refine cv_aload_n hC 5 dL_law_1732 rfl rfl ?_
      refine cv_iconst (v := 0) hC dL_law_1733 cb_iconst_0 ?_
      refine cv_lald hC dL_law_1734 (fun v250 => ?_)
      refine cv_iload hC 0 dL_law_1735 rfl ?_
      refine cv_i2l hC dL_law_1737 ?_
      refine cv_lcmp hC dL_law_1738 ?_
      refine cv_if_eq (tgt := 1744) hC dL_law_1739 (by decide) ?_ ?_
      · exact cv_widen (by omega) (by omega) (cv_sub [2, 3, 4, 5, 6, 7] rfl (J_L_law_b1744 htr hX hC hcb k28 hk28 l5 s248))
      · refine cv_iconst (v := 0) hC dL_law_1742 cb_iconst_0 ?_
        exact cv_lret0 (by decide)
  · refine cv_iconst (v := 0) hC dL_law_1725 cb_iconst_0 ?_
    exact cv_lret0 (by decide)
set_option maxRecDepth 20000 in
set_option maxHeartbeats 4000000 in
theorem J_L_law_b1800 {p : Program} {l : Launch} {e : Env} {s : State} {m : MethodId} {below : List Frame} {meth : Method} {c : Code} {G : cv_G} {b L : Nat} {xs : Nat → Int32} (htr : l.stackTraces = false) (hX : cv_CL (p, l, e, room_1, s, m, #[Value.ref b], below, meth, c) G b L xs) (hC : cv_C (p, l, e, room_1, s, m, #[Value.ref b], below, meth, c) G l RL cL_law 9 (some .boolean) room_1) {cb sb : Nat} (hcb : cb + 10 ≤ 603072 ∧ sb + 60 ≤ 7161962) (k28 : Int32 → cv_St → Option (Int32 × cv_St)) (hk28 : ∀ (l5 : Int32)  σ, cv_J (p, l, e, room_1, s, m, #[Value.ref b], below, meth, c) G 9 (cb + 10) (sb + 60) (cv_QL (p, l, e, room_1, s, m, #[Value.ref b], below, meth, c) b) 28 [(0, .ref b), (1, .ref (G.1 0)), (2, .ref (G.1 10)), (3, .ref (G.1 66)), (4, .ref (G.1 67)), (5, .int l5)] [] σ (k28 l5 σ)) (l5 : Int32) (σ : cv_St) : cv_J (p, l, e, room_1, s, m, #[Value.ref b], below, meth, c) G 9 (cb + 10) (sb + 60) (cv_QL (p, l, e, room_1, s, m, #[Value.ref b], below, meth, c) b) 1800 [(0, .ref b), (1, .ref (G.1 0)), (2, .ref (G.1 10)), (3, .ref (G.1 66)), (4, .ref (G.1 67)), (5, .int l5)] [] σ (F_L_law_b1800 xs L k28 l5 σ) := by
  unfold F_L_law_b1800
  refine cv_goto (tgt := 2188) hC dL_law_1800 (by decide) ?_
  exact cv_sub [0, 1, 2, 3, 4, 5] rfl (J_L_law_b2188 htr hX hC hcb k28 hk28 l5 σ)
set_option maxRecDepth 20000 in
set_option maxHeartbeats 4000000 in
theorem J_L_law_b1747 {p : Program} {l : Launch} {e : Env} {s : State} {m : MethodId} {below : List Frame} {meth : Method} {c : Code} {G : cv_G} {b L : Nat} {xs : Nat → Int32} (htr : l.stackTraces = false) (hX : cv_CL (p, l, e, room_1, s, m, #[Value.ref b], below, meth, c) G b L xs) (hC : cv_C (p, l, e, room_1, s, m, #[Value.ref b], below, meth, c) G l RL cL_law 9 (some .boolean) room_1) {cb sb : Nat} (hcb : cb + 10 ≤ 603072 ∧ sb + 60 ≤ 7161962) (k28 : Int32 → cv_St → Option (Int32 × cv_St)) (hk28 : ∀ (l5 : Int32)  σ, cv_J (p, l, e, room_1, s, m, #[Value.ref b], below, meth, c) G 9 (cb + 10) (sb + 60) (cv_QL (p, l, e, room_1, s, m, #[Value.ref b], below, meth, c) b) 28 [(0, .ref b), (1, .ref (G.1 0)), (2, .ref (G.1 10)), (3, .ref (G.1 66)), (4, .ref (G.1 67)), (5, .int l5)] [] σ (k28 l5 σ)) (l5 : Int32) (σ : cv_St) : cv_J (p, l, e, room_1, s, m, #[Value.ref b], below, meth, c) G 9 (cb + 0) (sb + 0) (cv_QL (p, l, e, room_1, s, m, #[Value.ref b], below, meth, c) b) 1747 [(0, .ref b), (1, .ref (G.1 0)), (2, .ref (G.1 10)), (3, .ref (G.1 66)), (4, .ref (G.1 67)), (5, .int l5)] [] σ (F_L_law_b1747 xs L k28 l5 σ) := by
  unfold F_L_law_b1747
  refine cv_aload_n hC 1 dL_law_1747 rfl rfl ?_
  refine cv_aload_n hC 0 dL_law_1748 rfl rfl ?_
  refine cv_iload hC 5 dL_law_1749 rfl ?_
  refine cv_iconst (v := 1) hC dL_law_1751 cb_iconst_1 ?_
  refine cv_iadd hC dL_law_1752 ?_
  refine cv_sld hX hC dL_law_1753 (fun v251 => ?_)
  refine cv_aload_n hC 3 dL_law_1754 rfl rfl ?_
  refine cv_callLi hX hC [.ref (G.1 0), .int v251, .ref (G.1 66)] [] (M_L_role htr G v251 σ) ln_L_228 sh_L_role rfl rfl (Nat.le_of_ble_eq_true rfl) ⟨Nat.le_of_ble_eq_true rfl, Nat.le_of_ble_eq_true rfl⟩ ⟨cv_rmc (by omega), cv_rms (by omega)⟩ dL_law_1755 (fun v253 s252 => ?_)
  refine cv_istore (lv' := [(6, .int v253), (0, .ref b), (1, .ref (G.1 0)), (2, .ref (G.1 10)), (3, .ref (G.1 66)), (4, .ref (G.1 67)), (5, .int l5)]) hC dL_law_1758 (by decide) rfl ?_
  refine cv_aload_n hC 3 dL_law_1760 rfl rfl ?_
  refine cv_aload_n hC 1 dL_law_1761 rfl rfl ?_
  refine cv_iload hC 6 dL_law_1762 rfl ?_
  refine cv_iconst (v := 1) hC dL_law_1764 cb_iconst_1 ?_
  refine cv_iadd hC dL_law_1765 ?_
  refine cv_sld hX hC dL_law_1766 (fun v254 => ?_)
  refine cv_callVi (ob := 10) hC [.int v254] [] (M_X9_role l G v254 s252) ln_L_230 vm_X9_role (ob_10 G) rfl rfl (Nat.le_of_ble_eq_true rfl) ⟨Nat.le_of_ble_eq_true rfl, Nat.le_of_ble_eq_true rfl⟩ ⟨cv_rmc (by omega), cv_rms (by omega)⟩ dL_law_1767 (fun v256 s255 => ?_)
  refine cv_istore (lv' := [(7, .int v256), (6, .int v253), (0, .ref b), (1, .ref (G.1 0)), (2, .ref (G.1 10)), (3, .ref (G.1 66)), (4, .ref (G.1 67)), (5, .int l5)]) hC dL_law_1770 (by decide) rfl ?_
  refine cv_aload_n hC 4 dL_law_1772 rfl rfl ?_
  refine cv_callVi (ob := 10) hC [] [] (M_X9_thrown l G s255) ln_L_139 vm_X9_thrown (ob_10 G) rfl rfl (Nat.le_of_ble_eq_true rfl) ⟨Nat.le_of_ble_eq_true rfl, Nat.le_of_ble_eq_true rfl⟩ ⟨cv_rmc (by omega), cv_rms (by omega)⟩ dL_law_1773 (fun v258 s257 => ?_)
  refine cv_iload hC 1 dL_law_1776 rfl ?_
  refine cv_icmp_eq (tgt := 1783) hC dL_law_1778 (by decide) ?_ ?_
  · refine cv_iload hC 1 dL_law_1783 rfl ?_
    refine cv_if_ne (tgt := 1800) hC dL_law_1785 (by decide) ?_ ?_
    · exact cv_widen (by omega) (by omega) (cv_sub [2, 3, 4, 5, 6, 7] rfl (J_L_law_b1800 htr hX hC hcb k28 hk28 l5 s257))
    · refine cv_aload_n hC 5 dL_law_1788 rfl rfl ?_
      refine cv_iconst (v := 0) hC dL_law_1789 cb_iconst_0 ?_
      refine cv_lald hC dL_law_1790 (fun v259 => ?_)
      refine cv_iload hC 0 dL_law_1791 rfl ?_
      refine cv_i2l hC dL_law_1793 ?_
      refine cv_lcmp hC dL_law_1794 ?_
      refine cv_if_eq (tgt := 1800) hC dL_law_1795 (by decide) ?_ ?_
      · exact cv_widen (by omega) (by omega) (cv_sub [2, 3, 4, 5, 6, 7] rfl (J_L_law_b1800 htr hX hC hcb k28 hk28 l5 s257))
      · refine cv_iconst (v := 0) hC dL_law_1798 cb_iconst_0 ?_
        exact cv_lret0 (by decide)
  · refine cv_iconst (v := 0) hC dL_law_1781 cb_iconst_0 ?_
    exact cv_lret0 (by decide)
set_option maxRecDepth 20000 in
set_option maxHeartbeats 4000000 in
theorem J_L_law_b1868 {p : Program} {l : Launch} {e : Env} {s : State} {m : MethodId} {below : List Frame} {meth : Method} {c : Code} {G : cv_G} {b L : Nat} {xs : Nat → Int32} (htr : l.stackTraces = false) (hX : cv_CL (p, l, e, room_1, s, m, #[Value.ref b], below, meth, c) G b L xs) (hC : cv_C (p, l, e, room_1, s, m, #[Value.ref b], below, meth, c) G l RL cL_law 9 (some .boolean) room_1) {cb sb : Nat} (hcb : cb + 10 ≤ 603072 ∧ sb + 60 ≤ 7161962) (k28 : Int32 → cv_St → Option (Int32 × cv_St)) (hk28 : ∀ (l5 : Int32)  σ, cv_J (p, l, e, room_1, s, m, #[Value.ref b], below, meth, c) G 9 (cb + 10) (sb + 60) (cv_QL (p, l, e, room_1, s, m, #[Value.ref b], below, meth, c) b) 28 [(0, .ref b), (1, .ref (G.1 0)), (2, .ref (G.1 10)), (3, .ref (G.1 66)), (4, .ref (G.1 67)), (5, .int l5)] [] σ (k28 l5 σ)) (l5 : Int32) (σ : cv_St) : cv_J (p, l, e, room_1, s, m, #[Value.ref b], below, meth, c) G 9 (cb + 10) (sb + 60) (cv_QL (p, l, e, room_1, s, m, #[Value.ref b], below, meth, c) b) 1868 [(0, .ref b), (1, .ref (G.1 0)), (2, .ref (G.1 10)), (3, .ref (G.1 66)), (4, .ref (G.1 67)), (5, .int l5)] [] σ (F_L_law_b1868 xs L k28 l5 σ) := by
  unfold F_L_law_b1868
  refine cv_goto (tgt := 2188) hC dL_law_1868 (by decide) ?_
  exact cv_sub [0, 1, 2, 3, 4, 5] rfl (J_L_law_b2188 htr hX hC hcb k28 hk28 l5 σ)
set_option maxRecDepth 20000 in
set_option maxHeartbeats 4000000 in
theorem J_L_law_b1803 {p : Program} {l : Launch} {e : Env} {s : State} {m : MethodId} {below : List Frame} {meth : Method} {c : Code} {G : cv_G} {b L : Nat} {xs : Nat → Int32} (htr : l.stackTraces = false) (hX : cv_CL (p, l, e, room_1, s, m, #[Value.ref b], below, meth, c) G b L xs) (hC : cv_C (p, l, e, room_1, s, m, #[Value.ref b], below, meth, c) G l RL cL_law 9 (some .boolean) room_1) {cb sb : Nat} (hcb : cb + 10 ≤ 603072 ∧ sb + 60 ≤ 7161962) (k28 : Int32 → cv_St → Option (Int32 × cv_St)) (hk28 : ∀ (l5 : Int32)  σ, cv_J (p, l, e, room_1, s, m, #[Value.ref b], below, meth, c) G 9 (cb + 10) (sb + 60) (cv_QL (p, l, e, room_1, s, m, #[Value.ref b], below, meth, c) b) 28 [(0, .ref b), (1, .ref (G.1 0)), (2, .ref (G.1 10)), (3, .ref (G.1 66)), (4, .ref (G.1 67)), (5, .int l5)] [] σ (k28 l5 σ)) (l5 : Int32) (σ : cv_St) : cv_J (p, l, e, room_1, s, m, #[Value.ref b], below, meth, c) G 9 (cb + 0) (sb + 0) (cv_QL (p, l, e, room_1, s, m, #[Value.ref b], below, meth, c) b) 1803 [(0, .ref b), (1, .ref (G.1 0)), (2, .ref (G.1 10)), (3, .ref (G.1 66)), (4, .ref (G.1 67)), (5, .int l5)] [] σ (F_L_law_b1803 xs L k28 l5 σ) := by
  unfold F_L_law_b1803
  refine cv_aload_n hC 1 dL_law_1803 rfl rfl ?_
  refine cv_aload_n hC 0 dL_law_1804 rfl rfl ?_
  refine cv_iload hC 5 dL_law_1805 rfl ?_
  refine cv_iconst (v := 1) hC dL_law_1807 cb_iconst_1 ?_
  refine cv_iadd hC dL_law_1808 ?_
  refine cv_sld hX hC dL_law_1809 (fun v260 => ?_)
  refine cv_aload_n hC 0 dL_law_1810 rfl rfl ?_
  refine cv_iload hC 5 dL_law_1811 rfl ?_
  refine cv_iconst (v := 2) hC dL_law_1813 cb_iconst_2 ?_
  refine cv_iadd hC dL_law_1814 ?_
  refine cv_sld hX hC dL_law_1815 (fun v261 => ?_)
  refine cv_aload_n hC 3 dL_law_1816 rfl rfl ?_
  refine cv_callLi hX hC [.ref (G.1 0), .int v260, .int v261, .ref (G.1 66)] [] (M_L_run htr G v260 v261 σ) ln_L_231 sh_L_run rfl rfl (Nat.le_of_ble_eq_true rfl) ⟨Nat.le_of_ble_eq_true rfl, Nat.le_of_ble_eq_true rfl⟩ ⟨cv_rmc (by omega), cv_rms (by omega)⟩ dL_law_1817 (fun v263 s262 => ?_)
  refine cv_istore (lv' := [(6, .int v263), (0, .ref b), (1, .ref (G.1 0)), (2, .ref (G.1 10)), (3, .ref (G.1 66)), (4, .ref (G.1 67)), (5, .int l5)]) hC dL_law_1820 (by decide) rfl ?_
  refine cv_aload_n hC 3 dL_law_1822 rfl rfl ?_
  refine cv_aload_n hC 1 dL_law_1823 rfl rfl ?_
  refine cv_iload hC 6 dL_law_1824 rfl ?_
  refine cv_iconst (v := 1) hC dL_law_1826 cb_iconst_1 ?_
  refine cv_iadd hC dL_law_1827 ?_
  refine cv_sld hX hC dL_law_1828 (fun v264 => ?_)
  refine cv_aload_n hC 1 dL_law_1829 rfl rfl ?_
  refine cv_iload hC 6 dL_law_1830 rfl ?_
  refine cv_iconst (v := 2) hC dL_law_1832 cb_iconst_2 ?_
  refine cv_iadd hC dL_law_1833 ?_
  refine cv_sld hX hC dL_law_1834 (fun v265 => ?_)
  refine cv_callVi (ob := 10) hC [.int v264, .int v265] [] (M_X9_run l G v264 v265 s262) ln_L_233 vm_X9_run (ob_10 G) rfl rfl (Nat.le_of_ble_eq_true rfl) ⟨Nat.le_of_ble_eq_true rfl, Nat.le_of_ble_eq_true rfl⟩ ⟨cv_rmc (by omega), cv_rms (by omega)⟩ dL_law_1835 (fun v267 s266 => ?_)
  refine cv_istore (lv' := [(7, .int v267), (6, .int v263), (0, .ref b), (1, .ref (G.1 0)), (2, .ref (G.1 10)), (3, .ref (G.1 66)), (4, .ref (G.1 67)), (5, .int l5)]) hC dL_law_1838 (by decide) rfl ?_
  refine cv_aload_n hC 4 dL_law_1840 rfl rfl ?_
  refine cv_callVi (ob := 10) hC [] [] (M_X9_thrown l G s266) ln_L_139 vm_X9_thrown (ob_10 G) rfl rfl (Nat.le_of_ble_eq_true rfl) ⟨Nat.le_of_ble_eq_true rfl, Nat.le_of_ble_eq_true rfl⟩ ⟨cv_rmc (by omega), cv_rms (by omega)⟩ dL_law_1841 (fun v269 s268 => ?_)
  refine cv_iload hC 1 dL_law_1844 rfl ?_
  refine cv_icmp_eq (tgt := 1851) hC dL_law_1846 (by decide) ?_ ?_
  · refine cv_iload hC 1 dL_law_1851 rfl ?_
    refine cv_if_ne (tgt := 1868) hC dL_law_1853 (by decide) ?_ ?_
    · exact cv_widen (by omega) (by omega) (cv_sub [2, 3, 4, 5, 6, 7] rfl (J_L_law_b1868 htr hX hC hcb k28 hk28 l5 s268))
    · refine cv_aload_n hC 5 dL_law_1856 rfl rfl ?_
      refine cv_iconst (v := 0) hC dL_law_1857 cb_iconst_0 ?_
      refine cv_lald hC dL_law_1858 (fun v270 => ?_)
      refine cv_iload hC 0 dL_law_1859 rfl ?_
      refine cv_i2l hC dL_law_1861 ?_
      refine cv_lcmp hC dL_law_1862 ?_
      refine cv_if_eq (tgt := 1868) hC dL_law_1863 (by decide) ?_ ?_
      · exact cv_widen (by omega) (by omega) (cv_sub [2, 3, 4, 5, 6, 7] rfl (J_L_law_b1868 htr hX hC hcb k28 hk28 l5 s268))
      · refine cv_iconst (v := 0) hC dL_law_1866 cb_iconst_0 ?_
        exact cv_lret0 (by decide)
  · refine cv_iconst (v := 0) hC dL_law_1849 cb_iconst_0 ?_
    exact cv_lret0 (by decide)
set_option maxRecDepth 20000 in
set_option maxHeartbeats 4000000 in
theorem J_L_law_b1919 {p : Program} {l : Launch} {e : Env} {s : State} {m : MethodId} {below : List Frame} {meth : Method} {c : Code} {G : cv_G} {b L : Nat} {xs : Nat → Int32} (htr : l.stackTraces = false) (hX : cv_CL (p, l, e, room_1, s, m, #[Value.ref b], below, meth, c) G b L xs) (hC : cv_C (p, l, e, room_1, s, m, #[Value.ref b], below, meth, c) G l RL cL_law 9 (some .boolean) room_1) {cb sb : Nat} (hcb : cb + 10 ≤ 603072 ∧ sb + 60 ≤ 7161962) (k28 : Int32 → cv_St → Option (Int32 × cv_St)) (hk28 : ∀ (l5 : Int32)  σ, cv_J (p, l, e, room_1, s, m, #[Value.ref b], below, meth, c) G 9 (cb + 10) (sb + 60) (cv_QL (p, l, e, room_1, s, m, #[Value.ref b], below, meth, c) b) 28 [(0, .ref b), (1, .ref (G.1 0)), (2, .ref (G.1 10)), (3, .ref (G.1 66)), (4, .ref (G.1 67)), (5, .int l5)] [] σ (k28 l5 σ)) (l5 : Int32) (σ : cv_St) : cv_J (p, l, e, room_1, s, m, #[Value.ref b], below, meth, c) G 9 (cb + 10) (sb + 60) (cv_QL (p, l, e, room_1, s, m, #[Value.ref b], below, meth, c) b) 1919 [(0, .ref b), (1, .ref (G.1 0)), (2, .ref (G.1 10)), (3, .ref (G.1 66)), (4, .ref (G.1 67)), (5, .int l5)] [] σ (F_L_law_b1919 xs L k28 l5 σ) := by
  unfold F_L_law_b1919
  refine cv_goto (tgt := 2188) hC dL_law_1919 (by decide) ?_
  exact cv_sub [0, 1, 2, 3, 4, 5] rfl (J_L_law_b2188 htr hX hC hcb k28 hk28 l5 σ)
set_option maxRecDepth 20000 in
set_option maxHeartbeats 4000000 in
theorem J_L_law_b1913 {p : Program} {l : Launch} {e : Env} {s : State} {m : MethodId} {below : List Frame} {meth : Method} {c : Code} {G : cv_G} {b L : Nat} {xs : Nat → Int32} (htr : l.stackTraces = false) (hX : cv_CL (p, l, e, room_1, s, m, #[Value.ref b], below, meth, c) G b L xs) (hC : cv_C (p, l, e, room_1, s, m, #[Value.ref b], below, meth, c) G l RL cL_law 9 (some .boolean) room_1) {cb sb : Nat} (hcb : cb + 10 ≤ 603072 ∧ sb + 60 ≤ 7161962) (k28 : Int32 → cv_St → Option (Int32 × cv_St)) (hk28 : ∀ (l5 : Int32)  σ, cv_J (p, l, e, room_1, s, m, #[Value.ref b], below, meth, c) G 9 (cb + 10) (sb + 60) (cv_QL (p, l, e, room_1, s, m, #[Value.ref b], below, meth, c) b) 28 [(0, .ref b), (1, .ref (G.1 0)), (2, .ref (G.1 10)), (3, .ref (G.1 66)), (4, .ref (G.1 67)), (5, .int l5)] [] σ (k28 l5 σ)) (l5 : Int32) (t0 : Int64) (t1 : Int64) (σ : cv_St) : cv_J (p, l, e, room_1, s, m, #[Value.ref b], below, meth, c) G 9 (cb + 10) (sb + 60) (cv_QL (p, l, e, room_1, s, m, #[Value.ref b], below, meth, c) b) 1913 [(0, .ref b), (1, .ref (G.1 0)), (2, .ref (G.1 10)), (3, .ref (G.1 66)), (4, .ref (G.1 67)), (5, .int l5)] [.long t0, .long t1] σ (F_L_law_b1913 xs L k28 l5 t0 t1 σ) := by
  unfold F_L_law_b1913
  refine cv_lcmp hC dL_law_1913 ?_
  refine cv_if_eq (tgt := 1919) hC dL_law_1914 (by decide) ?_ ?_
  · exact cv_sub [0, 1, 2, 3, 4, 5] rfl (J_L_law_b1919 htr hX hC hcb k28 hk28 l5 σ)
  · refine cv_iconst (v := 0) hC dL_law_1917 cb_iconst_0 ?_
    exact cv_lret0 (by decide)
set_option maxRecDepth 20000 in
set_option maxHeartbeats 4000000 in
theorem J_L_law_b1871 {p : Program} {l : Launch} {e : Env} {s : State} {m : MethodId} {below : List Frame} {meth : Method} {c : Code} {G : cv_G} {b L : Nat} {xs : Nat → Int32} (htr : l.stackTraces = false) (hX : cv_CL (p, l, e, room_1, s, m, #[Value.ref b], below, meth, c) G b L xs) (hC : cv_C (p, l, e, room_1, s, m, #[Value.ref b], below, meth, c) G l RL cL_law 9 (some .boolean) room_1) {cb sb : Nat} (hcb : cb + 10 ≤ 603072 ∧ sb + 60 ≤ 7161962) (k28 : Int32 → cv_St → Option (Int32 × cv_St)) (hk28 : ∀ (l5 : Int32)  σ, cv_J (p, l, e, room_1, s, m, #[Value.ref b], below, meth, c) G 9 (cb + 10) (sb + 60) (cv_QL (p, l, e, room_1, s, m, #[Value.ref b], below, meth, c) b) 28 [(0, .ref b), (1, .ref (G.1 0)), (2, .ref (G.1 10)), (3, .ref (G.1 66)), (4, .ref (G.1 67)), (5, .int l5)] [] σ (k28 l5 σ)) (l5 : Int32) (σ : cv_St) : cv_J (p, l, e, room_1, s, m, #[Value.ref b], below, meth, c) G 9 (cb + 0) (sb + 0) (cv_QL (p, l, e, room_1, s, m, #[Value.ref b], below, meth, c) b) 1871 [(0, .ref b), (1, .ref (G.1 0)), (2, .ref (G.1 10)), (3, .ref (G.1 66)), (4, .ref (G.1 67)), (5, .int l5)] [] σ (F_L_law_b1871 xs L k28 l5 σ) := by
  unfold F_L_law_b1871
  refine cv_aload_n hC 1 dL_law_1871 rfl rfl ?_
  refine cv_aload_n hC 3 dL_law_1872 rfl rfl ?_
  refine cv_callLi hX hC [.ref (G.1 0), .ref (G.1 66)] [] (M_L_isCut htr G σ) ln_L_234 sh_L_isCut rfl rfl (Nat.le_of_ble_eq_true rfl) ⟨Nat.le_of_ble_eq_true rfl, Nat.le_of_ble_eq_true rfl⟩ ⟨cv_rmc (by omega), cv_rms (by omega)⟩ dL_law_1873 (fun v272 s271 => ?_)
  refine cv_istore (lv' := [(6, .int v272), (0, .ref b), (1, .ref (G.1 0)), (2, .ref (G.1 10)), (3, .ref (G.1 66)), (4, .ref (G.1 67)), (5, .int l5)]) hC dL_law_1876 (by decide) rfl ?_
  refine cv_aload_n hC 3 dL_law_1878 rfl rfl ?_
  refine cv_callVi (ob := 10) hC [] [] (M_X9_isCut l G s271) ln_L_236 vm_X9_isCut (ob_10 G) rfl rfl (Nat.le_of_ble_eq_true rfl) ⟨Nat.le_of_ble_eq_true rfl, Nat.le_of_ble_eq_true rfl⟩ ⟨cv_rmc (by omega), cv_rms (by omega)⟩ dL_law_1879 (fun v274 s273 => ?_)
  refine cv_istore (lv' := [(7, .int v274), (6, .int v272), (0, .ref b), (1, .ref (G.1 0)), (2, .ref (G.1 10)), (3, .ref (G.1 66)), (4, .ref (G.1 67)), (5, .int l5)]) hC dL_law_1882 (by decide) rfl ?_
  refine cv_aload_n hC 4 dL_law_1884 rfl rfl ?_
  refine cv_callVi (ob := 10) hC [] [] (M_X9_thrown l G s273) ln_L_139 vm_X9_thrown (ob_10 G) rfl rfl (Nat.le_of_ble_eq_true rfl) ⟨Nat.le_of_ble_eq_true rfl, Nat.le_of_ble_eq_true rfl⟩ ⟨cv_rmc (by omega), cv_rms (by omega)⟩ dL_law_1885 (fun v276 s275 => ?_)
  refine cv_iload hC 1 dL_law_1888 rfl ?_
  refine cv_icmp_eq (tgt := 1895) hC dL_law_1890 (by decide) ?_ ?_
  · refine cv_iload hC 1 dL_law_1895 rfl ?_
    refine cv_if_ne (tgt := 1919) hC dL_law_1897 (by decide) ?_ ?_
    · exact cv_widen (by omega) (by omega) (cv_sub [2, 3, 4, 5, 6, 7] rfl (J_L_law_b1919 htr hX hC hcb k28 hk28 l5 s275))
    · refine cv_aload_n hC 5 dL_law_1900 rfl rfl ?_
      refine cv_iconst (v := 0) hC dL_law_1901 cb_iconst_0 ?_
      refine cv_lald hC dL_law_1902 (fun v277 => ?_)
      refine cv_iload hC 0 dL_law_1903 rfl ?_
      refine cv_if_eq (tgt := 1912) hC dL_law_1905 (by decide) ?_ ?_
      · refine cv_lconst (v := 0) hC dL_law_1912 rfl ?_
        exact cv_widen (by omega) (by omega) (cv_sub [2, 3, 4, 5, 6, 7] rfl (J_L_law_b1913 htr hX hC hcb k28 hk28 l5 0 v277 s275))
      · refine cv_lconst (v := 1) hC dL_law_1908 rfl ?_
        refine cv_goto (tgt := 1913) hC dL_law_1909 (by decide) ?_
        exact cv_widen (by omega) (by omega) (cv_sub [2, 3, 4, 5, 6, 7] rfl (J_L_law_b1913 htr hX hC hcb k28 hk28 l5 1 v277 s275))
  · refine cv_iconst (v := 0) hC dL_law_1893 cb_iconst_0 ?_
    exact cv_lret0 (by decide)
set_option maxRecDepth 20000 in
set_option maxHeartbeats 4000000 in
theorem J_L_law_b1963 {p : Program} {l : Launch} {e : Env} {s : State} {m : MethodId} {below : List Frame} {meth : Method} {c : Code} {G : cv_G} {b L : Nat} {xs : Nat → Int32} (htr : l.stackTraces = false) (hX : cv_CL (p, l, e, room_1, s, m, #[Value.ref b], below, meth, c) G b L xs) (hC : cv_C (p, l, e, room_1, s, m, #[Value.ref b], below, meth, c) G l RL cL_law 9 (some .boolean) room_1) {cb sb : Nat} (hcb : cb + 10 ≤ 603072 ∧ sb + 60 ≤ 7161962) (k28 : Int32 → cv_St → Option (Int32 × cv_St)) (hk28 : ∀ (l5 : Int32)  σ, cv_J (p, l, e, room_1, s, m, #[Value.ref b], below, meth, c) G 9 (cb + 10) (sb + 60) (cv_QL (p, l, e, room_1, s, m, #[Value.ref b], below, meth, c) b) 28 [(0, .ref b), (1, .ref (G.1 0)), (2, .ref (G.1 10)), (3, .ref (G.1 66)), (4, .ref (G.1 67)), (5, .int l5)] [] σ (k28 l5 σ)) (l5 : Int32) (σ : cv_St) : cv_J (p, l, e, room_1, s, m, #[Value.ref b], below, meth, c) G 9 (cb + 10) (sb + 60) (cv_QL (p, l, e, room_1, s, m, #[Value.ref b], below, meth, c) b) 1963 [(0, .ref b), (1, .ref (G.1 0)), (2, .ref (G.1 10)), (3, .ref (G.1 66)), (4, .ref (G.1 67)), (5, .int l5)] [] σ (F_L_law_b1963 xs L k28 l5 σ) := by
  unfold F_L_law_b1963
  refine cv_goto (tgt := 2188) hC dL_law_1963 (by decide) ?_
  exact cv_sub [0, 1, 2, 3, 4, 5] rfl (J_L_law_b2188 htr hX hC hcb k28 hk28 l5 σ)
set_option maxRecDepth 20000 in
set_option maxHeartbeats 4000000 in
theorem J_L_law_b1922 {p : Program} {l : Launch} {e : Env} {s : State} {m : MethodId} {below : List Frame} {meth : Method} {c : Code} {G : cv_G} {b L : Nat} {xs : Nat → Int32} (htr : l.stackTraces = false) (hX : cv_CL (p, l, e, room_1, s, m, #[Value.ref b], below, meth, c) G b L xs) (hC : cv_C (p, l, e, room_1, s, m, #[Value.ref b], below, meth, c) G l RL cL_law 9 (some .boolean) room_1) {cb sb : Nat} (hcb : cb + 10 ≤ 603072 ∧ sb + 60 ≤ 7161962) (k28 : Int32 → cv_St → Option (Int32 × cv_St)) (hk28 : ∀ (l5 : Int32)  σ, cv_J (p, l, e, room_1, s, m, #[Value.ref b], below, meth, c) G 9 (cb + 10) (sb + 60) (cv_QL (p, l, e, room_1, s, m, #[Value.ref b], below, meth, c) b) 28 [(0, .ref b), (1, .ref (G.1 0)), (2, .ref (G.1 10)), (3, .ref (G.1 66)), (4, .ref (G.1 67)), (5, .int l5)] [] σ (k28 l5 σ)) (l5 : Int32) (σ : cv_St) : cv_J (p, l, e, room_1, s, m, #[Value.ref b], below, meth, c) G 9 (cb + 0) (sb + 0) (cv_QL (p, l, e, room_1, s, m, #[Value.ref b], below, meth, c) b) 1922 [(0, .ref b), (1, .ref (G.1 0)), (2, .ref (G.1 10)), (3, .ref (G.1 66)), (4, .ref (G.1 67)), (5, .int l5)] [] σ (F_L_law_b1922 xs L k28 l5 σ) := by
  unfold F_L_law_b1922
  refine cv_aload_n hC 1 dL_law_1922 rfl rfl ?_
  refine cv_aload_n hC 3 dL_law_1923 rfl rfl ?_
  refine cv_callLi hX hC [.ref (G.1 0), .ref (G.1 66)] [] (M_L_observed htr G σ) ln_L_237 sh_L_observed rfl rfl (Nat.le_of_ble_eq_true rfl) ⟨Nat.le_of_ble_eq_true rfl, Nat.le_of_ble_eq_true rfl⟩ ⟨cv_rmc (by omega), cv_rms (by omega)⟩ dL_law_1924 (fun v279 s278 => ?_)
  refine cv_istore (lv' := [(6, .int v279), (0, .ref b), (1, .ref (G.1 0)), (2, .ref (G.1 10)), (3, .ref (G.1 66)), (4, .ref (G.1 67)), (5, .int l5)]) hC dL_law_1927 (by decide) rfl ?_
  refine cv_aload_n hC 3 dL_law_1929 rfl rfl ?_
  refine cv_callVi (ob := 10) hC [] [] (M_X9_observed l G s278) ln_L_239 vm_X9_observed (ob_10 G) rfl rfl (Nat.le_of_ble_eq_true rfl) ⟨Nat.le_of_ble_eq_true rfl, Nat.le_of_ble_eq_true rfl⟩ ⟨cv_rmc (by omega), cv_rms (by omega)⟩ dL_law_1930 (fun v281 s280 => ?_)
  refine cv_istore (lv' := [(7, .int v281), (6, .int v279), (0, .ref b), (1, .ref (G.1 0)), (2, .ref (G.1 10)), (3, .ref (G.1 66)), (4, .ref (G.1 67)), (5, .int l5)]) hC dL_law_1933 (by decide) rfl ?_
  refine cv_aload_n hC 4 dL_law_1935 rfl rfl ?_
  refine cv_callVi (ob := 10) hC [] [] (M_X9_thrown l G s280) ln_L_139 vm_X9_thrown (ob_10 G) rfl rfl (Nat.le_of_ble_eq_true rfl) ⟨Nat.le_of_ble_eq_true rfl, Nat.le_of_ble_eq_true rfl⟩ ⟨cv_rmc (by omega), cv_rms (by omega)⟩ dL_law_1936 (fun v283 s282 => ?_)
  refine cv_iload hC 1 dL_law_1939 rfl ?_
  refine cv_icmp_eq (tgt := 1946) hC dL_law_1941 (by decide) ?_ ?_
  · refine cv_iload hC 1 dL_law_1946 rfl ?_
    refine cv_if_ne (tgt := 1963) hC dL_law_1948 (by decide) ?_ ?_
    · exact cv_widen (by omega) (by omega) (cv_sub [2, 3, 4, 5, 6, 7] rfl (J_L_law_b1963 htr hX hC hcb k28 hk28 l5 s282))
    · refine cv_aload_n hC 5 dL_law_1951 rfl rfl ?_
      refine cv_iconst (v := 0) hC dL_law_1952 cb_iconst_0 ?_
      refine cv_lald hC dL_law_1953 (fun v284 => ?_)
      refine cv_iload hC 0 dL_law_1954 rfl ?_
      refine cv_i2l hC dL_law_1956 ?_
      refine cv_lcmp hC dL_law_1957 ?_
      refine cv_if_eq (tgt := 1963) hC dL_law_1958 (by decide) ?_ ?_
      · exact cv_widen (by omega) (by omega) (cv_sub [2, 3, 4, 5, 6, 7] rfl (J_L_law_b1963 htr hX hC hcb k28 hk28 l5 s282))
      · refine cv_iconst (v := 0) hC dL_law_1961 cb_iconst_0 ?_
        exact cv_lret0 (by decide)
  · refine cv_iconst (v := 0) hC dL_law_1944 cb_iconst_0 ?_
    exact cv_lret0 (by decide)
set_option maxRecDepth 20000 in
set_option maxHeartbeats 4000000 in
theorem J_L_law_b2019 {p : Program} {l : Launch} {e : Env} {s : State} {m : MethodId} {below : List Frame} {meth : Method} {c : Code} {G : cv_G} {b L : Nat} {xs : Nat → Int32} (htr : l.stackTraces = false) (hX : cv_CL (p, l, e, room_1, s, m, #[Value.ref b], below, meth, c) G b L xs) (hC : cv_C (p, l, e, room_1, s, m, #[Value.ref b], below, meth, c) G l RL cL_law 9 (some .boolean) room_1) {cb sb : Nat} (hcb : cb + 10 ≤ 603072 ∧ sb + 60 ≤ 7161962) (k28 : Int32 → cv_St → Option (Int32 × cv_St)) (hk28 : ∀ (l5 : Int32)  σ, cv_J (p, l, e, room_1, s, m, #[Value.ref b], below, meth, c) G 9 (cb + 10) (sb + 60) (cv_QL (p, l, e, room_1, s, m, #[Value.ref b], below, meth, c) b) 28 [(0, .ref b), (1, .ref (G.1 0)), (2, .ref (G.1 10)), (3, .ref (G.1 66)), (4, .ref (G.1 67)), (5, .int l5)] [] σ (k28 l5 σ)) (l5 : Int32) (σ : cv_St) : cv_J (p, l, e, room_1, s, m, #[Value.ref b], below, meth, c) G 9 (cb + 10) (sb + 60) (cv_QL (p, l, e, room_1, s, m, #[Value.ref b], below, meth, c) b) 2019 [(0, .ref b), (1, .ref (G.1 0)), (2, .ref (G.1 10)), (3, .ref (G.1 66)), (4, .ref (G.1 67)), (5, .int l5)] [] σ (F_L_law_b2019 xs L k28 l5 σ) := by
  unfold F_L_law_b2019
  refine cv_goto (tgt := 2188) hC dL_law_2019 (by decide) ?_
  exact cv_sub [0, 1, 2, 3, 4, 5] rfl (J_L_law_b2188 htr hX hC hcb k28 hk28 l5 σ)
set_option maxRecDepth 20000 in
set_option maxHeartbeats 4000000 in
theorem J_L_law_b1966 {p : Program} {l : Launch} {e : Env} {s : State} {m : MethodId} {below : List Frame} {meth : Method} {c : Code} {G : cv_G} {b L : Nat} {xs : Nat → Int32} (htr : l.stackTraces = false) (hX : cv_CL (p, l, e, room_1, s, m, #[Value.ref b], below, meth, c) G b L xs) (hC : cv_C (p, l, e, room_1, s, m, #[Value.ref b], below, meth, c) G l RL cL_law 9 (some .boolean) room_1) {cb sb : Nat} (hcb : cb + 10 ≤ 603072 ∧ sb + 60 ≤ 7161962) (k28 : Int32 → cv_St → Option (Int32 × cv_St)) (hk28 : ∀ (l5 : Int32)  σ, cv_J (p, l, e, room_1, s, m, #[Value.ref b], below, meth, c) G 9 (cb + 10) (sb + 60) (cv_QL (p, l, e, room_1, s, m, #[Value.ref b], below, meth, c) b) 28 [(0, .ref b), (1, .ref (G.1 0)), (2, .ref (G.1 10)), (3, .ref (G.1 66)), (4, .ref (G.1 67)), (5, .int l5)] [] σ (k28 l5 σ)) (l5 : Int32) (σ : cv_St) : cv_J (p, l, e, room_1, s, m, #[Value.ref b], below, meth, c) G 9 (cb + 0) (sb + 0) (cv_QL (p, l, e, room_1, s, m, #[Value.ref b], below, meth, c) b) 1966 [(0, .ref b), (1, .ref (G.1 0)), (2, .ref (G.1 10)), (3, .ref (G.1 66)), (4, .ref (G.1 67)), (5, .int l5)] [] σ (F_L_law_b1966 xs L k28 l5 σ) := by
  unfold F_L_law_b1966
  refine cv_aload_n hC 1 dL_law_1966 rfl rfl ?_
  refine cv_aload_n hC 0 dL_law_1967 rfl rfl ?_
  refine cv_iload hC 5 dL_law_1968 rfl ?_
  refine cv_iconst (v := 1) hC dL_law_1970 cb_iconst_1 ?_
  refine cv_iadd hC dL_law_1971 ?_
  refine cv_sld hX hC dL_law_1972 (fun v285 => ?_)
  refine cv_aload_n hC 3 dL_law_1973 rfl rfl ?_
  refine cv_callLi hX hC [.ref (G.1 0), .int v285, .ref (G.1 66)] [] (M_L_origin htr G v285 σ) ln_L_240 sh_L_origin rfl rfl (Nat.le_of_ble_eq_true rfl) ⟨Nat.le_of_ble_eq_true rfl, Nat.le_of_ble_eq_true rfl⟩ ⟨cv_rmc (by omega), cv_rms (by omega)⟩ dL_law_1974 (fun v287 s286 => ?_)
  refine cv_istore (lv' := [(6, .int v287), (0, .ref b), (1, .ref (G.1 0)), (2, .ref (G.1 10)), (3, .ref (G.1 66)), (4, .ref (G.1 67)), (5, .int l5)]) hC dL_law_1977 (by decide) rfl ?_
  refine cv_aload_n hC 3 dL_law_1979 rfl rfl ?_
  refine cv_aload_n hC 1 dL_law_1980 rfl rfl ?_
  refine cv_iload hC 6 dL_law_1981 rfl ?_
  refine cv_iconst (v := 1) hC dL_law_1983 cb_iconst_1 ?_
  refine cv_iadd hC dL_law_1984 ?_
  refine cv_sld hX hC dL_law_1985 (fun v288 => ?_)
  refine cv_callVi (ob := 10) hC [.int v288] [] (M_X9_origin l G v288 s286) ln_L_242 vm_X9_origin (ob_10 G) rfl rfl (Nat.le_of_ble_eq_true rfl) ⟨Nat.le_of_ble_eq_true rfl, Nat.le_of_ble_eq_true rfl⟩ ⟨cv_rmc (by omega), cv_rms (by omega)⟩ dL_law_1986 (fun v290 s289 => ?_)
  refine cv_istore (lv' := [(7, .int v290), (6, .int v287), (0, .ref b), (1, .ref (G.1 0)), (2, .ref (G.1 10)), (3, .ref (G.1 66)), (4, .ref (G.1 67)), (5, .int l5)]) hC dL_law_1989 (by decide) rfl ?_
  refine cv_aload_n hC 4 dL_law_1991 rfl rfl ?_
  refine cv_callVi (ob := 10) hC [] [] (M_X9_thrown l G s289) ln_L_139 vm_X9_thrown (ob_10 G) rfl rfl (Nat.le_of_ble_eq_true rfl) ⟨Nat.le_of_ble_eq_true rfl, Nat.le_of_ble_eq_true rfl⟩ ⟨cv_rmc (by omega), cv_rms (by omega)⟩ dL_law_1992 (fun v292 s291 => ?_)
  refine cv_iload hC 1 dL_law_1995 rfl ?_
  refine cv_icmp_eq (tgt := 2002) hC dL_law_1997 (by decide) ?_ ?_
  · refine cv_iload hC 1 dL_law_2002 rfl ?_
    refine cv_if_ne (tgt := 2019) hC dL_law_2004 (by decide) ?_ ?_
    · exact cv_widen (by omega) (by omega) (cv_sub [2, 3, 4, 5, 6, 7] rfl (J_L_law_b2019 htr hX hC hcb k28 hk28 l5 s291))
    · refine cv_aload_n hC 5 dL_law_2007 rfl rfl ?_
      refine cv_iconst (v := 0) hC dL_law_2008 cb_iconst_0 ?_
      refine cv_lald hC dL_law_2009 (fun v293 => ?_)
      refine cv_iload hC 0 dL_law_2010 rfl ?_
      refine cv_i2l hC dL_law_2012 ?_
      refine cv_lcmp hC dL_law_2013 ?_
      refine cv_if_eq (tgt := 2019) hC dL_law_2014 (by decide) ?_ ?_
      · exact cv_widen (by omega) (by omega) (cv_sub [2, 3, 4, 5, 6, 7] rfl (J_L_law_b2019 htr hX hC hcb k28 hk28 l5 s291))
      · refine cv_iconst (v := 0) hC dL_law_2017 cb_iconst_0 ?_
        exact cv_lret0 (by decide)
  · refine cv_iconst (v := 0) hC dL_law_2000 cb_iconst_0 ?_
    exact cv_lret0 (by decide)
set_option maxRecDepth 20000 in
set_option maxHeartbeats 4000000 in
theorem J_L_law_b2084 {p : Program} {l : Launch} {e : Env} {s : State} {m : MethodId} {below : List Frame} {meth : Method} {c : Code} {G : cv_G} {b L : Nat} {xs : Nat → Int32} (htr : l.stackTraces = false) (hX : cv_CL (p, l, e, room_1, s, m, #[Value.ref b], below, meth, c) G b L xs) (hC : cv_C (p, l, e, room_1, s, m, #[Value.ref b], below, meth, c) G l RL cL_law 9 (some .boolean) room_1) {cb sb : Nat} (hcb : cb + 10 ≤ 603072 ∧ sb + 60 ≤ 7161962) (k28 : Int32 → cv_St → Option (Int32 × cv_St)) (hk28 : ∀ (l5 : Int32)  σ, cv_J (p, l, e, room_1, s, m, #[Value.ref b], below, meth, c) G 9 (cb + 10) (sb + 60) (cv_QL (p, l, e, room_1, s, m, #[Value.ref b], below, meth, c) b) 28 [(0, .ref b), (1, .ref (G.1 0)), (2, .ref (G.1 10)), (3, .ref (G.1 66)), (4, .ref (G.1 67)), (5, .int l5)] [] σ (k28 l5 σ)) (l5 : Int32) (σ : cv_St) : cv_J (p, l, e, room_1, s, m, #[Value.ref b], below, meth, c) G 9 (cb + 10) (sb + 60) (cv_QL (p, l, e, room_1, s, m, #[Value.ref b], below, meth, c) b) 2084 [(0, .ref b), (1, .ref (G.1 0)), (2, .ref (G.1 10)), (3, .ref (G.1 66)), (4, .ref (G.1 67)), (5, .int l5)] [] σ (F_L_law_b2084 xs L k28 l5 σ) := by
  unfold F_L_law_b2084
  refine cv_goto (tgt := 2188) hC dL_law_2084 (by decide) ?_
  exact cv_sub [0, 1, 2, 3, 4, 5] rfl (J_L_law_b2188 htr hX hC hcb k28 hk28 l5 σ)
set_option maxRecDepth 20000 in
set_option maxHeartbeats 4000000 in
theorem J_L_law_b2022 {p : Program} {l : Launch} {e : Env} {s : State} {m : MethodId} {below : List Frame} {meth : Method} {c : Code} {G : cv_G} {b L : Nat} {xs : Nat → Int32} (htr : l.stackTraces = false) (hX : cv_CL (p, l, e, room_1, s, m, #[Value.ref b], below, meth, c) G b L xs) (hC : cv_C (p, l, e, room_1, s, m, #[Value.ref b], below, meth, c) G l RL cL_law 9 (some .boolean) room_1) {cb sb : Nat} (hcb : cb + 10 ≤ 603072 ∧ sb + 60 ≤ 7161962) (k28 : Int32 → cv_St → Option (Int32 × cv_St)) (hk28 : ∀ (l5 : Int32)  σ, cv_J (p, l, e, room_1, s, m, #[Value.ref b], below, meth, c) G 9 (cb + 10) (sb + 60) (cv_QL (p, l, e, room_1, s, m, #[Value.ref b], below, meth, c) b) 28 [(0, .ref b), (1, .ref (G.1 0)), (2, .ref (G.1 10)), (3, .ref (G.1 66)), (4, .ref (G.1 67)), (5, .int l5)] [] σ (k28 l5 σ)) (l5 : Int32) (σ : cv_St) : cv_J (p, l, e, room_1, s, m, #[Value.ref b], below, meth, c) G 9 (cb + 0) (sb + 0) (cv_QL (p, l, e, room_1, s, m, #[Value.ref b], below, meth, c) b) 2022 [(0, .ref b), (1, .ref (G.1 0)), (2, .ref (G.1 10)), (3, .ref (G.1 66)), (4, .ref (G.1 67)), (5, .int l5)] [] σ (F_L_law_b2022 xs L k28 l5 σ) := by
  unfold F_L_law_b2022
  refine cv_aload_n hC 1 dL_law_2022 rfl rfl ?_
  refine cv_aload hC 4 dL_law_2023 rfl ?_
  refine cv_callLi hX hC [.ref (G.1 0), .ref (G.1 67)] [] (M_L_preservedShare htr G σ) ln_L_243 sh_L_preservedShare rfl rfl (Nat.le_of_ble_eq_true rfl) ⟨Nat.le_of_ble_eq_true rfl, Nat.le_of_ble_eq_true rfl⟩ ⟨cv_rmc (by omega), cv_rms (by omega)⟩ dL_law_2025 (fun v295 s294 => ?_)
  refine cv_istore (lv' := [(6, .int v295), (0, .ref b), (1, .ref (G.1 0)), (2, .ref (G.1 10)), (3, .ref (G.1 66)), (4, .ref (G.1 67)), (5, .int l5)]) hC dL_law_2028 (by decide) rfl ?_
  refine cv_aload_n hC 3 dL_law_2030 rfl rfl ?_
  refine cv_callVd (ob := 10) hC [] [] (M_X9_preservedShare l G s294) ln_L_246 vm_X9_preservedShare (ob_10 G) rfl rfl (Nat.le_of_ble_eq_true rfl) ⟨Nat.le_of_ble_eq_true rfl, Nat.le_of_ble_eq_true rfl⟩ ⟨cv_rmc (by omega), cv_rms (by omega)⟩ dL_law_2031 (fun v297 s296 => ?_)
  refine cv_dstore (lv' := [(7, .double v297), (6, .int v295), (0, .ref b), (1, .ref (G.1 0)), (2, .ref (G.1 10)), (3, .ref (G.1 66)), (4, .ref (G.1 67)), (5, .int l5)]) hC dL_law_2034 (by decide) rfl ?_
  refine cv_aload_n hC 4 dL_law_2036 rfl rfl ?_
  refine cv_callVi (ob := 10) hC [] [] (M_X9_thrown l G s296) ln_L_139 vm_X9_thrown (ob_10 G) rfl rfl (Nat.le_of_ble_eq_true rfl) ⟨Nat.le_of_ble_eq_true rfl, Nat.le_of_ble_eq_true rfl⟩ ⟨cv_rmc (by omega), cv_rms (by omega)⟩ dL_law_2037 (fun v299 s298 => ?_)
  refine cv_iload hC 1 dL_law_2040 rfl ?_
  refine cv_icmp_eq (tgt := 2047) hC dL_law_2042 (by decide) ?_ ?_
  · refine cv_iload hC 1 dL_law_2047 rfl ?_
    refine cv_if_ne (tgt := 2084) hC dL_law_2049 (by decide) ?_ ?_
    · exact cv_widen (by omega) (by omega) (cv_sub [2, 3, 4, 5, 6, 7] rfl (J_L_law_b2084 htr hX hC hcb k28 hk28 l5 s298))
    · refine cv_aload hC 6 dL_law_2052 rfl ?_
      refine cv_iconst (v := 0) hC dL_law_2054 cb_iconst_0 ?_
      refine cv_dald hC dL_law_2055 (fun v300 => ?_)
      refine cv_dload hC 0 dL_law_2056 rfl ?_
      refine cv_dcmp hC dL_law_2058 ?_
      refine cv_if_eq (tgt := 2084) hC dL_law_2059 (by decide) ?_ ?_
      · exact cv_widen (by omega) (by omega) (cv_sub [2, 3, 4, 5, 6, 7] rfl (J_L_law_b2084 htr hX hC hcb k28 hk28 l5 s298))
      · refine cv_aload hC 6 dL_law_2062 rfl ?_
        refine cv_iconst (v := 0) hC dL_law_2064 cb_iconst_0 ?_
        refine cv_dald hC dL_law_2065 (fun v301 => ?_)
        refine cv_aload hC 6 dL_law_2066 rfl ?_
        refine cv_iconst (v := 0) hC dL_law_2068 cb_iconst_0 ?_
        refine cv_dald hC dL_law_2069 (fun v302 => ?_)
        refine cv_dcmp hC dL_law_2070 ?_
        refine cv_if_eq (tgt := 2082) hC dL_law_2071 (by decide) ?_ ?_
        · refine cv_iconst (v := 0) hC dL_law_2082 cb_iconst_0 ?_
          exact cv_lret0 (by decide)
        · refine cv_dload hC 0 dL_law_2074 rfl ?_
          refine cv_dload hC 0 dL_law_2076 rfl ?_
          refine cv_dcmp hC dL_law_2078 ?_
          refine cv_if_ne (tgt := 2084) hC dL_law_2079 (by decide) ?_ ?_
          · exact cv_widen (by omega) (by omega) (cv_sub [2, 3, 4, 5, 6, 7] rfl (J_L_law_b2084 htr hX hC hcb k28 hk28 l5 s298))
          · refine cv_iconst (v := 0) hC dL_law_2082 cb_iconst_0 ?_
            exact cv_lret0 (by decide)
  · refine cv_iconst (v := 0) hC dL_law_2045 cb_iconst_0 ?_
    exact cv_lret0 (by decide)
set_option maxRecDepth 20000 in
set_option maxHeartbeats 4000000 in
theorem J_L_law_b2150 {p : Program} {l : Launch} {e : Env} {s : State} {m : MethodId} {below : List Frame} {meth : Method} {c : Code} {G : cv_G} {b L : Nat} {xs : Nat → Int32} (htr : l.stackTraces = false) (hX : cv_CL (p, l, e, room_1, s, m, #[Value.ref b], below, meth, c) G b L xs) (hC : cv_C (p, l, e, room_1, s, m, #[Value.ref b], below, meth, c) G l RL cL_law 9 (some .boolean) room_1) {cb sb : Nat} (hcb : cb + 10 ≤ 603072 ∧ sb + 60 ≤ 7161962) (k28 : Int32 → cv_St → Option (Int32 × cv_St)) (hk28 : ∀ (l5 : Int32)  σ, cv_J (p, l, e, room_1, s, m, #[Value.ref b], below, meth, c) G 9 (cb + 10) (sb + 60) (cv_QL (p, l, e, room_1, s, m, #[Value.ref b], below, meth, c) b) 28 [(0, .ref b), (1, .ref (G.1 0)), (2, .ref (G.1 10)), (3, .ref (G.1 66)), (4, .ref (G.1 67)), (5, .int l5)] [] σ (k28 l5 σ)) (l5 : Int32) (σ : cv_St) : cv_J (p, l, e, room_1, s, m, #[Value.ref b], below, meth, c) G 9 (cb + 10) (sb + 60) (cv_QL (p, l, e, room_1, s, m, #[Value.ref b], below, meth, c) b) 2150 [(0, .ref b), (1, .ref (G.1 0)), (2, .ref (G.1 10)), (3, .ref (G.1 66)), (4, .ref (G.1 67)), (5, .int l5)] [] σ (F_L_law_b2150 xs L k28 l5 σ) := by
  unfold F_L_law_b2150
  refine cv_goto (tgt := 2188) hC dL_law_2150 (by decide) ?_
  exact cv_sub [0, 1, 2, 3, 4, 5] rfl (J_L_law_b2188 htr hX hC hcb k28 hk28 l5 σ)
set_option maxRecDepth 20000 in
set_option maxHeartbeats 4000000 in
theorem J_L_law_b2087 {p : Program} {l : Launch} {e : Env} {s : State} {m : MethodId} {below : List Frame} {meth : Method} {c : Code} {G : cv_G} {b L : Nat} {xs : Nat → Int32} (htr : l.stackTraces = false) (hX : cv_CL (p, l, e, room_1, s, m, #[Value.ref b], below, meth, c) G b L xs) (hC : cv_C (p, l, e, room_1, s, m, #[Value.ref b], below, meth, c) G l RL cL_law 9 (some .boolean) room_1) {cb sb : Nat} (hcb : cb + 10 ≤ 603072 ∧ sb + 60 ≤ 7161962) (k28 : Int32 → cv_St → Option (Int32 × cv_St)) (hk28 : ∀ (l5 : Int32)  σ, cv_J (p, l, e, room_1, s, m, #[Value.ref b], below, meth, c) G 9 (cb + 10) (sb + 60) (cv_QL (p, l, e, room_1, s, m, #[Value.ref b], below, meth, c) b) 28 [(0, .ref b), (1, .ref (G.1 0)), (2, .ref (G.1 10)), (3, .ref (G.1 66)), (4, .ref (G.1 67)), (5, .int l5)] [] σ (k28 l5 σ)) (l5 : Int32) (σ : cv_St) : cv_J (p, l, e, room_1, s, m, #[Value.ref b], below, meth, c) G 9 (cb + 0) (sb + 0) (cv_QL (p, l, e, room_1, s, m, #[Value.ref b], below, meth, c) b) 2087 [(0, .ref b), (1, .ref (G.1 0)), (2, .ref (G.1 10)), (3, .ref (G.1 66)), (4, .ref (G.1 67)), (5, .int l5)] [] σ (F_L_law_b2087 xs L k28 l5 σ) := by
  unfold F_L_law_b2087
  refine cv_aload_n hC 1 dL_law_2087 rfl rfl ?_
  refine cv_aload hC 4 dL_law_2088 rfl ?_
  refine cv_callLi hX hC [.ref (G.1 0), .ref (G.1 67)] [] (M_L_problemShare htr G σ) ln_L_247 sh_L_problemShare rfl rfl (Nat.le_of_ble_eq_true rfl) ⟨Nat.le_of_ble_eq_true rfl, Nat.le_of_ble_eq_true rfl⟩ ⟨cv_rmc (by omega), cv_rms (by omega)⟩ dL_law_2090 (fun v304 s303 => ?_)
  refine cv_istore (lv' := [(6, .int v304), (0, .ref b), (1, .ref (G.1 0)), (2, .ref (G.1 10)), (3, .ref (G.1 66)), (4, .ref (G.1 67)), (5, .int l5)]) hC dL_law_2093 (by decide) rfl ?_
  refine cv_aload_n hC 3 dL_law_2095 rfl rfl ?_
  refine cv_callVf (ob := 10) hC [] [] (M_X9_problemShare l G s303) ln_L_249 vm_X9_problemShare (ob_10 G) rfl rfl (Nat.le_of_ble_eq_true rfl) ⟨Nat.le_of_ble_eq_true rfl, Nat.le_of_ble_eq_true rfl⟩ ⟨cv_rmc (by omega), cv_rms (by omega)⟩ dL_law_2096 (fun v306 s305 => ?_)
  refine cv_fstore (lv' := [(7, .float v306), (6, .int v304), (0, .ref b), (1, .ref (G.1 0)), (2, .ref (G.1 10)), (3, .ref (G.1 66)), (4, .ref (G.1 67)), (5, .int l5)]) hC dL_law_2099 (by decide) rfl ?_
  refine cv_aload_n hC 4 dL_law_2101 rfl rfl ?_
  refine cv_callVi (ob := 10) hC [] [] (M_X9_thrown l G s305) ln_L_139 vm_X9_thrown (ob_10 G) rfl rfl (Nat.le_of_ble_eq_true rfl) ⟨Nat.le_of_ble_eq_true rfl, Nat.le_of_ble_eq_true rfl⟩ ⟨cv_rmc (by omega), cv_rms (by omega)⟩ dL_law_2102 (fun v308 s307 => ?_)
  refine cv_iload hC 1 dL_law_2105 rfl ?_
  refine cv_icmp_eq (tgt := 2112) hC dL_law_2107 (by decide) ?_ ?_
  · refine cv_iload hC 1 dL_law_2112 rfl ?_
    refine cv_if_ne (tgt := 2150) hC dL_law_2114 (by decide) ?_ ?_
    · exact cv_widen (by omega) (by omega) (cv_sub [2, 3, 4, 5, 6, 7] rfl (J_L_law_b2150 htr hX hC hcb k28 hk28 l5 s307))
    · refine cv_aload hC 6 dL_law_2117 rfl ?_
      refine cv_iconst (v := 0) hC dL_law_2119 cb_iconst_0 ?_
      refine cv_dald hC dL_law_2120 (fun v309 => ?_)
      refine cv_fload hC 0 dL_law_2121 rfl ?_
      refine cv_f2dr hC dL_law_2123 (fun v310 => ?_)
      refine cv_dcmp hC dL_law_2124 ?_
      refine cv_if_eq (tgt := 2150) hC dL_law_2125 (by decide) ?_ ?_
      · exact cv_widen (by omega) (by omega) (cv_sub [2, 3, 4, 5, 6, 7] rfl (J_L_law_b2150 htr hX hC hcb k28 hk28 l5 s307))
      · refine cv_aload hC 6 dL_law_2128 rfl ?_
        refine cv_iconst (v := 0) hC dL_law_2130 cb_iconst_0 ?_
        refine cv_dald hC dL_law_2131 (fun v311 => ?_)
        refine cv_aload hC 6 dL_law_2132 rfl ?_
        refine cv_iconst (v := 0) hC dL_law_2134 cb_iconst_0 ?_
        refine cv_dald hC dL_law_2135 (fun v312 => ?_)
        refine cv_dcmp hC dL_law_2136 ?_
        refine cv_if_eq (tgt := 2148) hC dL_law_2137 (by decide) ?_ ?_
        · refine cv_iconst (v := 0) hC dL_law_2148 cb_iconst_0 ?_
          exact cv_lret0 (by decide)
        · refine cv_fload hC 0 dL_law_2140 rfl ?_
          refine cv_fload hC 0 dL_law_2142 rfl ?_
          refine cv_fcmp hC dL_law_2144 ?_
          refine cv_if_ne (tgt := 2150) hC dL_law_2145 (by decide) ?_ ?_
          · exact cv_widen (by omega) (by omega) (cv_sub [2, 3, 4, 5, 6, 7] rfl (J_L_law_b2150 htr hX hC hcb k28 hk28 l5 s307))
          · refine cv_iconst (v := 0) hC dL_law_2148 cb_iconst_0 ?_
            exact cv_lret0 (by decide)
  · refine cv_iconst (v := 0) hC dL_law_2110 cb_iconst_0 ?_
    exact cv_lret0 (by decide)
set_option maxRecDepth 20000 in
set_option maxHeartbeats 4000000 in
theorem J_L_law_b2153 {p : Program} {l : Launch} {e : Env} {s : State} {m : MethodId} {below : List Frame} {meth : Method} {c : Code} {G : cv_G} {b L : Nat} {xs : Nat → Int32} (htr : l.stackTraces = false) (hX : cv_CL (p, l, e, room_1, s, m, #[Value.ref b], below, meth, c) G b L xs) (hC : cv_C (p, l, e, room_1, s, m, #[Value.ref b], below, meth, c) G l RL cL_law 9 (some .boolean) room_1) {cb sb : Nat} (hcb : cb + 10 ≤ 603072 ∧ sb + 60 ≤ 7161962) (k28 : Int32 → cv_St → Option (Int32 × cv_St)) (hk28 : ∀ (l5 : Int32)  σ, cv_J (p, l, e, room_1, s, m, #[Value.ref b], below, meth, c) G 9 (cb + 10) (sb + 60) (cv_QL (p, l, e, room_1, s, m, #[Value.ref b], below, meth, c) b) 28 [(0, .ref b), (1, .ref (G.1 0)), (2, .ref (G.1 10)), (3, .ref (G.1 66)), (4, .ref (G.1 67)), (5, .int l5)] [] σ (k28 l5 σ)) (l5 : Int32) (σ : cv_St) : cv_J (p, l, e, room_1, s, m, #[Value.ref b], below, meth, c) G 9 (cb + 0) (sb + 0) (cv_QL (p, l, e, room_1, s, m, #[Value.ref b], below, meth, c) b) 2153 [(0, .ref b), (1, .ref (G.1 0)), (2, .ref (G.1 10)), (3, .ref (G.1 66)), (4, .ref (G.1 67)), (5, .int l5)] [] σ (F_L_law_b2153 xs L k28 l5 σ) := by
  unfold F_L_law_b2153
  refine cv_aload_n hC 1 dL_law_2153 rfl rfl ?_
  refine cv_callVv (ob := 0) hC [] [] (M_X8_save l G σ) ln_L_250 vm_X8_save (ob_0 G) rfl rfl (Nat.le_of_ble_eq_true rfl) ⟨Nat.le_of_ble_eq_true rfl, Nat.le_of_ble_eq_true rfl⟩ ⟨cv_rmc (by omega), cv_rms (by omega)⟩ dL_law_2154 (fun s313 => ?_)
  refine cv_aload_n hC 2 dL_law_2157 rfl rfl ?_
  refine cv_callVv (ob := 10) hC [] [] (M_X9_save l G s313) ln_L_253 vm_X9_save (ob_10 G) rfl rfl (Nat.le_of_ble_eq_true rfl) ⟨Nat.le_of_ble_eq_true rfl, Nat.le_of_ble_eq_true rfl⟩ ⟨cv_rmc (by omega), cv_rms (by omega)⟩ dL_law_2158 (fun s314 => ?_)
  refine cv_goto (tgt := 2188) hC dL_law_2161 (by decide) ?_
  exact cv_widen (by omega) (by omega) (cv_sub [0, 1, 2, 3, 4, 5] rfl (J_L_law_b2188 htr hX hC hcb k28 hk28 l5 s314))
set_option maxRecDepth 20000 in
set_option maxHeartbeats 4000000 in
theorem J_L_law_b2164 {p : Program} {l : Launch} {e : Env} {s : State} {m : MethodId} {below : List Frame} {meth : Method} {c : Code} {G : cv_G} {b L : Nat} {xs : Nat → Int32} (htr : l.stackTraces = false) (hX : cv_CL (p, l, e, room_1, s, m, #[Value.ref b], below, meth, c) G b L xs) (hC : cv_C (p, l, e, room_1, s, m, #[Value.ref b], below, meth, c) G l RL cL_law 9 (some .boolean) room_1) {cb sb : Nat} (hcb : cb + 10 ≤ 603072 ∧ sb + 60 ≤ 7161962) (k28 : Int32 → cv_St → Option (Int32 × cv_St)) (hk28 : ∀ (l5 : Int32)  σ, cv_J (p, l, e, room_1, s, m, #[Value.ref b], below, meth, c) G 9 (cb + 10) (sb + 60) (cv_QL (p, l, e, room_1, s, m, #[Value.ref b], below, meth, c) b) 28 [(0, .ref b), (1, .ref (G.1 0)), (2, .ref (G.1 10)), (3, .ref (G.1 66)), (4, .ref (G.1 67)), (5, .int l5)] [] σ (k28 l5 σ)) (l5 : Int32) (σ : cv_St) : cv_J (p, l, e, room_1, s, m, #[Value.ref b], below, meth, c) G 9 (cb + 0) (sb + 0) (cv_QL (p, l, e, room_1, s, m, #[Value.ref b], below, meth, c) b) 2164 [(0, .ref b), (1, .ref (G.1 0)), (2, .ref (G.1 10)), (3, .ref (G.1 66)), (4, .ref (G.1 67)), (5, .int l5)] [] σ (F_L_law_b2164 xs L k28 l5 σ) := by
  unfold F_L_law_b2164
  refine cv_aload_n hC 1 dL_law_2164 rfl rfl ?_
  refine cv_callLi hX hC [.ref (G.1 0)] [] (M_L_restore htr G σ) ln_L_254 sh_L_restore rfl rfl (Nat.le_of_ble_eq_true rfl) ⟨Nat.le_of_ble_eq_true rfl, Nat.le_of_ble_eq_true rfl⟩ ⟨cv_rmc (by omega), cv_rms (by omega)⟩ dL_law_2165 (fun v316 s315 => ?_)
  refine cv_istore (lv' := [(6, .int v316), (0, .ref b), (1, .ref (G.1 0)), (2, .ref (G.1 10)), (3, .ref (G.1 66)), (4, .ref (G.1 67)), (5, .int l5)]) hC dL_law_2168 (by decide) rfl ?_
  refine cv_aload_n hC 3 dL_law_2170 rfl rfl ?_
  refine cv_callVv (ob := 10) hC [] [] (M_X9_restore l G s315) ln_L_257 vm_X9_restore (ob_10 G) rfl rfl (Nat.le_of_ble_eq_true rfl) ⟨Nat.le_of_ble_eq_true rfl, Nat.le_of_ble_eq_true rfl⟩ ⟨cv_rmc (by omega), cv_rms (by omega)⟩ dL_law_2171 (fun s317 => ?_)
  refine cv_aload_n hC 3 dL_law_2174 rfl rfl ?_
  refine cv_callVi (ob := 10) hC [] [] (M_X9_thrown l G s317) ln_L_139 vm_X9_thrown (ob_10 G) rfl rfl (Nat.le_of_ble_eq_true rfl) ⟨Nat.le_of_ble_eq_true rfl, Nat.le_of_ble_eq_true rfl⟩ ⟨cv_rmc (by omega), cv_rms (by omega)⟩ dL_law_2175 (fun v319 s318 => ?_)
  refine cv_iload hC 0 dL_law_2178 rfl ?_
  refine cv_icmp_eq (tgt := 2185) hC dL_law_2180 (by decide) ?_ ?_
  · refine cv_goto (tgt := 2188) hC dL_law_2185 (by decide) ?_
    exact cv_widen (by omega) (by omega) (cv_sub [1, 2, 3, 4, 5, 6] rfl (J_L_law_b2188 htr hX hC hcb k28 hk28 l5 s318))
  · refine cv_iconst (v := 0) hC dL_law_2183 cb_iconst_0 ?_
    exact cv_lret0 (by decide)
set_option maxRecDepth 20000 in
set_option maxHeartbeats 4000000 in
theorem I_L_law_b28 {p : Program} {l : Launch} {e : Env} {s : State} {m : MethodId} {below : List Frame} {meth : Method} {c : Code} {G : cv_G} {b L : Nat} {xs : Nat → Int32} (htr : l.stackTraces = false) (hX : cv_CL (p, l, e, room_1, s, m, #[Value.ref b], below, meth, c) G b L xs) (hC : cv_C (p, l, e, room_1, s, m, #[Value.ref b], below, meth, c) G l RL cL_law 9 (some .boolean) room_1) {cb sb : Nat} (hcb : cb + 10 ≤ 603072 ∧ sb + 60 ≤ 7161962) (k28 : Int32 → cv_St → Option (Int32 × cv_St)) (hk28 : ∀ (l5 : Int32)  σ, cv_J (p, l, e, room_1, s, m, #[Value.ref b], below, meth, c) G 9 (cb + 10) (sb + 60) (cv_QL (p, l, e, room_1, s, m, #[Value.ref b], below, meth, c) b) 28 [(0, .ref b), (1, .ref (G.1 0)), (2, .ref (G.1 10)), (3, .ref (G.1 66)), (4, .ref (G.1 67)), (5, .int l5)] [] σ (k28 l5 σ)) (l5 : Int32) (σ : cv_St) : cv_J (p, l, e, room_1, s, m, #[Value.ref b], below, meth, c) G 9 (cb + 0) (sb + 0) (cv_QL (p, l, e, room_1, s, m, #[Value.ref b], below, meth, c) b) 28 [(0, .ref b), (1, .ref (G.1 0)), (2, .ref (G.1 10)), (3, .ref (G.1 66)), (4, .ref (G.1 67)), (5, .int l5)] [] σ (B_L_law_b28 xs L k28 l5 σ) := by
  unfold B_L_law_b28
  refine cv_iload hC 5 dL_law_28 rfl ?_
  refine cv_aload_n hC 0 dL_law_30 rfl rfl ?_
  refine cv_slen hX hC dL_law_31 ?_
  refine cv_iconst (v := 3) hC dL_law_32 cb_iconst_3 ?_
  refine cv_isub hC dL_law_33 ?_
  refine cv_icmp_gt (tgt := 2194) hC dL_law_34 (by decide) ?_ ?_
  · refine cv_iconst (v := 1) hC dL_law_2194 cb_iconst_1 ?_
    exact cv_lret1 hX hC (by omega) (by omega) dL_law_2195
  · refine cv_aload_n hC 0 dL_law_37 rfl rfl ?_
    refine cv_iload hC 5 dL_law_38 rfl ?_
    refine cv_sld hX hC dL_law_40 (fun v1 => ?_)
    refine cv_bipush (v := 63) hC dL_law_41 cb_bipush_63 ?_
    refine cv_iand hC dL_law_43 ?_
    refine cv_ite (fun hc => ?_) (fun hc0 => ?_)
    · refine cv_tableIn (off := 164) (tgt := 208) hC dL_law_44 (by rw [hc]; decide) (by rw [hc]; decide) (by rw [hc]; decide) (by decide) ?_
      exact cv_sub [0, 1, 2, 3, 4, 5] rfl (J_L_law_b208 htr hX hC hcb k28 hk28 l5 σ)
    refine cv_ite (fun hc => ?_) (fun hc1 => ?_)
    · refine cv_tableIn (off := 220) (tgt := 264) hC dL_law_44 (by rw [hc]; decide) (by rw [hc]; decide) (by rw [hc]; decide) (by decide) ?_
      exact cv_sub [0, 1, 2, 3, 4, 5] rfl (J_L_law_b264 htr hX hC hcb k28 hk28 l5 σ)
    refine cv_ite (fun hc => ?_) (fun hc2 => ?_)
    · refine cv_tableIn (off := 276) (tgt := 320) hC dL_law_44 (by rw [hc]; decide) (by rw [hc]; decide) (by rw [hc]; decide) (by decide) ?_
      exact cv_sub [0, 1, 2, 3, 4, 5] rfl (J_L_law_b320 htr hX hC hcb k28 hk28 l5 σ)
    refine cv_ite (fun hc => ?_) (fun hc3 => ?_)
    · refine cv_tableIn (off := 289) (tgt := 333) hC dL_law_44 (by rw [hc]; decide) (by rw [hc]; decide) (by rw [hc]; decide) (by decide) ?_
      exact cv_sub [0, 1, 2, 3, 4, 5] rfl (J_L_law_b333 htr hX hC hcb k28 hk28 l5 σ)
    refine cv_ite (fun hc => ?_) (fun hc4 => ?_)
    · refine cv_tableIn (off := 345) (tgt := 389) hC dL_law_44 (by rw [hc]; decide) (by rw [hc]; decide) (by rw [hc]; decide) (by decide) ?_
      exact cv_sub [0, 1, 2, 3, 4, 5] rfl (J_L_law_b389 htr hX hC hcb k28 hk28 l5 σ)
    refine cv_ite (fun hc => ?_) (fun hc5 => ?_)
    · refine cv_tableIn (off := 413) (tgt := 457) hC dL_law_44 (by rw [hc]; decide) (by rw [hc]; decide) (by rw [hc]; decide) (by decide) ?_
      exact cv_sub [0, 1, 2, 3, 4, 5] rfl (J_L_law_b457 htr hX hC hcb k28 hk28 l5 σ)
    refine cv_ite (fun hc => ?_) (fun hc6 => ?_)
    · refine cv_tableIn (off := 481) (tgt := 525) hC dL_law_44 (by rw [hc]; decide) (by rw [hc]; decide) (by rw [hc]; decide) (by decide) ?_
      exact cv_sub [0, 1, 2, 3, 4, 5] rfl (J_L_law_b525 htr hX hC hcb k28 hk28 l5 σ)
    refine cv_ite (fun hc => ?_) (fun hc7 => ?_)
    · refine cv_tableIn (off := 549) (tgt := 593) hC dL_law_44 (by rw [hc]; decide) (by rw [hc]; decide) (by rw [hc]; decide) (by decide) ?_
      exact cv_sub [0, 1, 2, 3, 4, 5] rfl (J_L_law_b593 htr hX hC hcb k28 hk28 l5 σ)
    refine cv_ite (fun hc => ?_) (fun hc8 => ?_)
    · refine cv_tableIn (off := 624) (tgt := 668) hC dL_law_44 (by rw [hc]; decide) (by rw [hc]; decide) (by rw [hc]; decide) (by decide) ?_
      exact cv_sub [0, 1, 2, 3, 4, 5] rfl (J_L_law_b668 htr hX hC hcb k28 hk28 l5 σ)
    refine cv_ite (fun hc => ?_) (fun hc9 => ?_)
    · refine cv_tableIn (off := 687) (tgt := 731) hC dL_law_44 (by rw [hc]; decide) (by rw [hc]; decide) (by rw [hc]; decide) (by decide) ?_
      exact cv_sub [0, 1, 2, 3, 4, 5] rfl (J_L_law_b731 htr hX hC hcb k28 hk28 l5 σ)
    refine cv_ite (fun hc => ?_) (fun hc10 => ?_)
    · refine cv_tableIn (off := 743) (tgt := 787) hC dL_law_44 (by rw [hc]; decide) (by rw [hc]; decide) (by rw [hc]; decide) (by decide) ?_
      exact cv_sub [0, 1, 2, 3, 4, 5] rfl (J_L_law_b787 htr hX hC hcb k28 hk28 l5 σ)
    refine cv_ite (fun hc => ?_) (fun hc11 => ?_)
    · refine cv_tableIn (off := 799) (tgt := 843) hC dL_law_44 (by rw [hc]; decide) (by rw [hc]; decide) (by rw [hc]; decide) (by decide) ?_
      exact cv_sub [0, 1, 2, 3, 4, 5] rfl (J_L_law_b843 htr hX hC hcb k28 hk28 l5 σ)
    refine cv_ite (fun hc => ?_) (fun hc12 => ?_)
    · refine cv_tableIn (off := 855) (tgt := 899) hC dL_law_44 (by rw [hc]; decide) (by rw [hc]; decide) (by rw [hc]; decide) (by decide) ?_
      exact cv_sub [0, 1, 2, 3, 4, 5] rfl (J_L_law_b899 htr hX hC hcb k28 hk28 l5 σ)
    refine cv_ite (fun hc => ?_) (fun hc13 => ?_)
    · refine cv_tableIn (off := 911) (tgt := 955) hC dL_law_44 (by rw [hc]; decide) (by rw [hc]; decide) (by rw [hc]; decide) (by decide) ?_
      exact cv_sub [0, 1, 2, 3, 4, 5] rfl (J_L_law_b955 htr hX hC hcb k28 hk28 l5 σ)
    refine cv_ite (fun hc => ?_) (fun hc14 => ?_)
    · refine cv_tableIn (off := 979) (tgt := 1023) hC dL_law_44 (by rw [hc]; decide) (by rw [hc]; decide) (by rw [hc]; decide) (by decide) ?_
      exact cv_sub [0, 1, 2, 3, 4, 5] rfl (J_L_law_b1023 htr hX hC hcb k28 hk28 l5 σ)
    refine cv_ite (fun hc => ?_) (fun hc15 => ?_)
    · refine cv_tableIn (off := 1035) (tgt := 1079) hC dL_law_44 (by rw [hc]; decide) (by rw [hc]; decide) (by rw [hc]; decide) (by decide) ?_
      exact cv_sub [0, 1, 2, 3, 4, 5] rfl (J_L_law_b1079 htr hX hC hcb k28 hk28 l5 σ)
    refine cv_ite (fun hc => ?_) (fun hc16 => ?_)
    · refine cv_tableIn (off := 1098) (tgt := 1142) hC dL_law_44 (by rw [hc]; decide) (by rw [hc]; decide) (by rw [hc]; decide) (by decide) ?_
      exact cv_sub [0, 1, 2, 3, 4, 5] rfl (J_L_law_b1142 htr hX hC hcb k28 hk28 l5 σ)
    refine cv_ite (fun hc => ?_) (fun hc17 => ?_)
    · refine cv_tableIn (off := 1154) (tgt := 1198) hC dL_law_44 (by rw [hc]; decide) (by rw [hc]; decide) (by rw [hc]; decide) (by decide) ?_
      exact cv_sub [0, 1, 2, 3, 4, 5] rfl (J_L_law_b1198 htr hX hC hcb k28 hk28 l5 σ)
    refine cv_ite (fun hc => ?_) (fun hc18 => ?_)
    · refine cv_tableIn (off := 1210) (tgt := 1254) hC dL_law_44 (by rw [hc]; decide) (by rw [hc]; decide) (by rw [hc]; decide) (by decide) ?_
      exact cv_sub [0, 1, 2, 3, 4, 5] rfl (J_L_law_b1254 htr hX hC hcb k28 hk28 l5 σ)
    refine cv_ite (fun hc => ?_) (fun hc19 => ?_)
    · refine cv_tableIn (off := 1273) (tgt := 1317) hC dL_law_44 (by rw [hc]; decide) (by rw [hc]; decide) (by rw [hc]; decide) (by decide) ?_
      exact cv_sub [0, 1, 2, 3, 4, 5] rfl (J_L_law_b1317 htr hX hC hcb k28 hk28 l5 σ)
    refine cv_ite (fun hc => ?_) (fun hc20 => ?_)
    · refine cv_tableIn (off := 1286) (tgt := 1330) hC dL_law_44 (by rw [hc]; decide) (by rw [hc]; decide) (by rw [hc]; decide) (by decide) ?_
      exact cv_sub [0, 1, 2, 3, 4, 5] rfl (J_L_law_b1330 htr hX hC hcb k28 hk28 l5 σ)
    refine cv_ite (fun hc => ?_) (fun hc21 => ?_)
    · refine cv_tableIn (off := 1354) (tgt := 1398) hC dL_law_44 (by rw [hc]; decide) (by rw [hc]; decide) (by rw [hc]; decide) (by decide) ?_
      exact cv_sub [0, 1, 2, 3, 4, 5] rfl (J_L_law_b1398 htr hX hC hcb k28 hk28 l5 σ)
    refine cv_ite (fun hc => ?_) (fun hc22 => ?_)
    · refine cv_tableIn (off := 1410) (tgt := 1454) hC dL_law_44 (by rw [hc]; decide) (by rw [hc]; decide) (by rw [hc]; decide) (by decide) ?_
      exact cv_sub [0, 1, 2, 3, 4, 5] rfl (J_L_law_b1454 htr hX hC hcb k28 hk28 l5 σ)
    refine cv_ite (fun hc => ?_) (fun hc23 => ?_)
    · refine cv_tableIn (off := 1466) (tgt := 1510) hC dL_law_44 (by rw [hc]; decide) (by rw [hc]; decide) (by rw [hc]; decide) (by decide) ?_
      exact cv_sub [0, 1, 2, 3, 4, 5] rfl (J_L_law_b1510 htr hX hC hcb k28 hk28 l5 σ)
    refine cv_ite (fun hc => ?_) (fun hc24 => ?_)
    · refine cv_tableIn (off := 1522) (tgt := 1566) hC dL_law_44 (by rw [hc]; decide) (by rw [hc]; decide) (by rw [hc]; decide) (by decide) ?_
      exact cv_sub [0, 1, 2, 3, 4, 5] rfl (J_L_law_b1566 htr hX hC hcb k28 hk28 l5 σ)
    refine cv_ite (fun hc => ?_) (fun hc25 => ?_)
    · refine cv_tableIn (off := 1578) (tgt := 1622) hC dL_law_44 (by rw [hc]; decide) (by rw [hc]; decide) (by rw [hc]; decide) (by decide) ?_
      exact cv_sub [0, 1, 2, 3, 4, 5] rfl (J_L_law_b1622 htr hX hC hcb k28 hk28 l5 σ)
    refine cv_ite (fun hc => ?_) (fun hc26 => ?_)
    · refine cv_tableIn (off := 1591) (tgt := 1635) hC dL_law_44 (by rw [hc]; decide) (by rw [hc]; decide) (by rw [hc]; decide) (by decide) ?_
      exact cv_sub [0, 1, 2, 3, 4, 5] rfl (J_L_law_b1635 htr hX hC hcb k28 hk28 l5 σ)
    refine cv_ite (fun hc => ?_) (fun hc27 => ?_)
    · refine cv_tableIn (off := 1635) (tgt := 1679) hC dL_law_44 (by rw [hc]; decide) (by rw [hc]; decide) (by rw [hc]; decide) (by decide) ?_
      exact cv_sub [0, 1, 2, 3, 4, 5] rfl (J_L_law_b1679 htr hX hC hcb k28 hk28 l5 σ)
    refine cv_ite (fun hc => ?_) (fun hc28 => ?_)
    · refine cv_tableIn (off := 1703) (tgt := 1747) hC dL_law_44 (by rw [hc]; decide) (by rw [hc]; decide) (by rw [hc]; decide) (by decide) ?_
      exact cv_sub [0, 1, 2, 3, 4, 5] rfl (J_L_law_b1747 htr hX hC hcb k28 hk28 l5 σ)
    refine cv_ite (fun hc => ?_) (fun hc29 => ?_)
    · refine cv_tableIn (off := 1759) (tgt := 1803) hC dL_law_44 (by rw [hc]; decide) (by rw [hc]; decide) (by rw [hc]; decide) (by decide) ?_
      exact cv_sub [0, 1, 2, 3, 4, 5] rfl (J_L_law_b1803 htr hX hC hcb k28 hk28 l5 σ)
    refine cv_ite (fun hc => ?_) (fun hc30 => ?_)
    · refine cv_tableIn (off := 1827) (tgt := 1871) hC dL_law_44 (by rw [hc]; decide) (by rw [hc]; decide) (by rw [hc]; decide) (by decide) ?_
      exact cv_sub [0, 1, 2, 3, 4, 5] rfl (J_L_law_b1871 htr hX hC hcb k28 hk28 l5 σ)
    refine cv_ite (fun hc => ?_) (fun hc31 => ?_)
    · refine cv_tableIn (off := 1878) (tgt := 1922) hC dL_law_44 (by rw [hc]; decide) (by rw [hc]; decide) (by rw [hc]; decide) (by decide) ?_
      exact cv_sub [0, 1, 2, 3, 4, 5] rfl (J_L_law_b1922 htr hX hC hcb k28 hk28 l5 σ)
    refine cv_ite (fun hc => ?_) (fun hc32 => ?_)
    · refine cv_tableIn (off := 1922) (tgt := 1966) hC dL_law_44 (by rw [hc]; decide) (by rw [hc]; decide) (by rw [hc]; decide) (by decide) ?_
      exact cv_sub [0, 1, 2, 3, 4, 5] rfl (J_L_law_b1966 htr hX hC hcb k28 hk28 l5 σ)
    refine cv_ite (fun hc => ?_) (fun hc33 => ?_)
    · refine cv_tableIn (off := 1978) (tgt := 2022) hC dL_law_44 (by rw [hc]; decide) (by rw [hc]; decide) (by rw [hc]; decide) (by decide) ?_
      exact cv_sub [0, 1, 2, 3, 4, 5] rfl (J_L_law_b2022 htr hX hC hcb k28 hk28 l5 σ)
    refine cv_ite (fun hc => ?_) (fun hc34 => ?_)
    · refine cv_tableIn (off := 2043) (tgt := 2087) hC dL_law_44 (by rw [hc]; decide) (by rw [hc]; decide) (by rw [hc]; decide) (by decide) ?_
      exact cv_sub [0, 1, 2, 3, 4, 5] rfl (J_L_law_b2087 htr hX hC hcb k28 hk28 l5 σ)
    refine cv_ite (fun hc => ?_) (fun hc35 => ?_)
    · refine cv_tableIn (off := 2109) (tgt := 2153) hC dL_law_44 (by rw [hc]; decide) (by rw [hc]; decide) (by rw [hc]; decide) (by decide) ?_
      exact cv_sub [0, 1, 2, 3, 4, 5] rfl (J_L_law_b2153 htr hX hC hcb k28 hk28 l5 σ)
    refine cv_ite (fun hc => ?_) (fun hc36 => ?_)
    · refine cv_tableIn (off := 2120) (tgt := 2164) hC dL_law_44 (by rw [hc]; decide) (by rw [hc]; decide) (by rw [hc]; decide) (by decide) ?_
      exact cv_sub [0, 1, 2, 3, 4, 5] rfl (J_L_law_b2164 htr hX hC hcb k28 hk28 l5 σ)
    refine cv_tableOut (tgt := 2188) hC dL_law_44 (cv_tabdef (fun k hk => ?_)) (by decide) ?_
    · match k, hk with
      | 0, _ => exact hc0
      | 1, _ => exact hc1
      | 2, _ => exact hc2
      | 3, _ => exact hc3
      | 4, _ => exact hc4
      | 5, _ => exact hc5
      | 6, _ => exact hc6
      | 7, _ => exact hc7
      | 8, _ => exact hc8
      | 9, _ => exact hc9
      | 10, _ => exact hc10
      | 11, _ => exact hc11
      | 12, _ => exact hc12
      | 13, _ => exact hc13
      | 14, _ => exact hc14
      | 15, _ => exact hc15
      | 16, _ => exact hc16
      | 17, _ => exact hc17
      | 18, _ => exact hc18
      | 19, _ => exact hc19
      | 20, _ => exact hc20
      | 21, _ => exact hc21
      | 22, _ => exact hc22
      | 23, _ => exact hc23
      | 24, _ => exact hc24
      | 25, _ => exact hc25
      | 26, _ => exact hc26
      | 27, _ => exact hc27
      | 28, _ => exact hc28
      | 29, _ => exact hc29
      | 30, _ => exact hc30
      | 31, _ => exact hc31
      | 32, _ => exact hc32
      | 33, _ => exact hc33
      | 34, _ => exact hc34
      | 35, _ => exact hc35
      | 36, _ => exact hc36
      | n + 37, hk => exact absurd hk (by omega)
    · exact cv_widen (by omega) (by omega) (cv_sub [0, 1, 2, 3, 4, 5] rfl (J_L_law_b2188 htr hX hC hcb k28 hk28 l5 σ))
