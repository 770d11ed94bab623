section A56
variable {p : m_P} {σ τ : cv_St} {xs : Nat → Int32} {L i j : Nat} {k : Int32 → cv_St → Option (Int32 × cv_St)} {q : Nat × Nat}
theorem l_firstProblem (h : m_X p σ) : ∃ υ, F_L_law_b1635 xs L k (nI i) σ = k (nI i + Int32.ofInt 3) υ ∧ m_X p υ ∧ m_gf m_QA m_QS σ υ := by
  have hlen := m_sF_len h.1 8 (Nat.le_refl _)
  unfold F_L_law_b1635 F_L_law_b1676 F_L_law_b2188
  obtain ⟨s1, a1, a2, a3, a4, a5, a6⟩ := c_fx h
  obtain ⟨s4, c1, c2, c3, c4, c5, c6⟩ := r_fx a5
  rcases m_first a5.2.1 c5.2.2.1 h.1 a6 c6 s1 ⟨rfl, rfl⟩ 1000 0 (by omega) (by omega) with ⟨e1, e2⟩ | ⟨r, e1, -⟩
  · have e1 : F_X8_firstProblem_b6 1000 0 s1 = some (5, 0, s1) := e1
    have e2 : F_X9_firstProblem_b6 1000 0 s4 = some (0, cv_sF s4 17 1) := e2
    unfold F_L_firstProblem F_X8_firstProblem F_X9_firstProblem
    rw [a1, m_bv, e1, m_bh1 (t := 1) (by decide) rfl, m_bi, c1, m_bv, e2, m_bi, m_tail m_F_eq (fun z => absurd z (by decide))]
    exact ⟨_, rfl, c5.gf (m_F_gf (as := []) (ss := [17]) (by decide)) (by decide) (by decide), a2.trans (c2.trans (m_F_gf (by decide)))⟩
  · obtain ⟨s5, d1, d2, d3, d4, d5, d6⟩ := r_fx (a5.gf (m_L_gf (as := []) (ss := []) (g := vp_updL s1.2.2.1 0 (nI r).toInt64)) (by decide) (by decide))
    have e1' : F_X8_firstProblem_b6 1000 0 s1 = some (0, nI r, s1) := e1
    rcases m_first a5.2.1 d5.2.2.1 h.1 a6 d6 s1 ⟨rfl, rfl⟩ 1000 0 (by omega) (by omega) with ⟨f1, -⟩ | ⟨r2, f1, f2⟩
    · rw [e1] at f1
      exact absurd (show (0 : Nat) = 5 from congrArg Prod.fst (Option.some.inj f1)) (by decide)
    · rw [e1] at f1
      have hr : nI r = nI r2 := congrArg (fun z => z.2.1) (Option.some.inj f1)
      have f2 : F_X9_firstProblem_b6 1000 0 s5 = some (nI r2, cv_sF s5 17 0) := f2
      unfold F_L_firstProblem F_X8_firstProblem F_X9_firstProblem
      rw [a1, m_bv, e1', m_bh0, m_stL, m_bi, d1, m_bv, f2, m_bi, m_tail m_F_eq (fun _ => by rw [m_F_22, d3, m_L_out, hr])]
      exact ⟨_, rfl, d5.gf (m_F_gf (as := []) (ss := [17]) (by decide)) (by decide) (by decide), a2.trans (m_L_gf.trans (d2.trans (m_F_gf (by decide))))⟩
theorem l_operand (h : m_X p σ) (hi : i + 2 < L) (hL : L ≤ 1536) : ∃ υ, F_L_law_b457 xs L k (nI i) σ = k (nI i + Int32.ofInt 3) υ ∧ m_X p υ ∧ m_gf m_QA m_QS σ υ := by
  unfold F_L_law_b457 F_L_law_b522 F_L_law_b2188
  rw [m_idx1, m_idx2, m_ldS (by omega) hL, m_ldS (by omega) hL]
  rcases m_ins p h.1 (xs (i + 1)) (xs (i + 2)) with ⟨hx, hy⟩ | ⟨f, j, hf, hj, hx, hy⟩
  · have e1 : F_L_operand (xs (i + 1)) (xs (i + 2)) σ = some (1, σ) := by
      unfold F_L_operand F_X8_operand
      rw [hx σ h.2.1, m_bx1 (by decide), m_bh1 (by decide) rfl]
    have e2 : F_X9_operand (xs (i + 1)) (xs (i + 2)) σ = some (0, cv_sF σ 17 1) := by
      unfold F_X9_operand F_X9_operand_b30
      rw [hy σ h.2.2.1, m_bi, if_pos rfl, m_pui, m_F_eq, if_neg (by decide)]
    rw [e1, m_bi, m_ldS (by omega) hL, m_ldS (by omega) hL, e2, m_bi, m_tail m_F_eq (fun z => absurd z (by decide))]
    exact ⟨_, rfl, h.gf (m_F_gf (as := []) (ss := [17]) (by decide)) (by decide) (by decide), m_F_gf (by decide)⟩
  · have hv := m_val_k (m_vl h.1 hf hj)
    rw [hx, hy]
    by_cases h114 : m_kd p f j = 114
    · have e1 : F_L_operand (nI f) (nI j) σ = some (2, σ) := by
        unfold F_L_operand F_X8_operand
        rw [c_ckI h.2.1 h.1 hf hj, m_bx0, c_kindAt h.2.1 h.1 hf hj, m_bi, m_eqki (by omega) (by decide), if_pos h114, m_bh1 (by decide) rfl]
      have e2 : F_X9_operand (nI f) (nI j) σ = some (0, cv_sF σ 17 2) := by
        unfold F_X9_operand F_X9_operand_b30
        rw [r_isI h.2.2.1 h.1 hf hj, m_bi, if_neg (by decide), r_kind h.2.2.1 h.1 hf hj, m_bi, m_eqki (by omega) (by decide), if_pos h114, m_pui, m_F_eq, if_neg (by decide)]
      rw [e1, m_bi, m_ldS (by omega) hL, m_ldS (by omega) hL, hx, hy, e2, m_bi, m_tail m_F_eq (fun z => absurd z (by decide))]
      exact ⟨_, rfl, h.gf (m_F_gf (as := []) (ss := [17]) (by decide)) (by decide) (by decide), m_F_gf (by decide)⟩
    · have e1 : F_L_operand (nI f) (nI j) σ = some (0, cv_sL σ (vp_updL σ.2.2.1 0 (nI (m_num (m_kd p f j) (m_fa p f j) (m_sb p f j))).toInt64)) := by
        unfold F_L_operand F_X8_operand
        rw [c_ckI h.2.1 h.1 hf hj, m_bx0, c_kindAt h.2.1 h.1 hf hj, m_bi, m_eqki (by omega) (by decide), if_neg h114, c_numberAt h.2.1 h.1 hf hj, m_bi, m_bh0, m_stL]
      have hX2 : m_X p (cv_sL σ (vp_updL σ.2.2.1 0 (nI (m_num (m_kd p f j) (m_fa p f j) (m_sb p f j))).toInt64)) := h.gf (m_L_gf (as := []) (ss := [])) (by decide) (by decide)
      have hX3 := hX2.gf (m_F_gf (as := []) (ss := [17]) (k := 17) (v := 0) (by decide)) (by decide) (by decide)
      have e2 : F_X9_operand (nI f) (nI j) (cv_sL σ (vp_updL σ.2.2.1 0 (nI (m_num (m_kd p f j) (m_fa p f j) (m_sb p f j))).toInt64)) = some (nI (m_num (m_kd p f j) (m_fa p f j) (m_sb p f j)), cv_sF (cv_sL σ (vp_updL σ.2.2.1 0 (nI (m_num (m_kd p f j) (m_fa p f j) (m_sb p f j))).toInt64)) 17 0) := by
        unfold F_X9_operand F_X9_operand_b30
        rw [r_isI hX2.2.2.1 h.1 hf hj, m_bi, if_neg (by decide), r_kind hX2.2.2.1 h.1 hf hj, m_bi, m_eqki (by omega) (by decide), if_neg h114, m_pui, m_F_eq, if_pos (by decide), r_kind hX3.2.2.1 h.1 hf hj, m_bi, m_eqki (by omega) (by decide), r_first hX3.2.2.1 h.1 hf hj, m_bi, m_bi, r_second hX3.2.2.1 h.1 hf hj, m_bi]
        by_cases h109 : m_kd p f j = 109
        · rw [if_pos h109, show (10 : Int32) = nI 10 from rfl, m_mul, m_add, show m_num (m_kd p f j) (m_fa p f j) (m_sb p f j) = 10 * m_fa p f j + m_sb p f j from if_pos h109]
        · rw [if_neg h109, m_num_c h109]
      rw [e1, m_bi, m_ldS (by omega) hL, m_ldS (by omega) hL, hx, hy, e2, m_bi, m_tail m_F_eq (fun _ => by rw [m_F_22, m_L_out])]
      exact ⟨_, rfl, hX3, m_L_gf.trans (m_F_gf (by decide))⟩
end A56
