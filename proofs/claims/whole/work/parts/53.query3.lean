section A53
variable {p : m_P} {σ : cv_St} {xs : Nat → Int32} {L i : Nat} {k : Int32 → cv_St → Option (Int32 × cv_St)}
theorem m_ins (p : m_P) (ho : m_ok p) (x y : Int32) : ((∀ σ, m_cc 14 15 16 σ p → F_X8_checkInstruction x y σ = some (1, 0, σ)) ∧ ∀ σ, m_mc 43 σ p → F_X9_isInstruction x y σ = some (0, σ)) ∨ ∃ f j, f < 8 ∧ j < m_cn p f ∧ x = nI f ∧ y = nI j := by
  rcases m_ixc x 8 (by decide) with hx | ⟨f, hf, hx⟩
  · refine Or.inl ⟨fun σ _ => ?_, fun σ _ => ?_⟩
    · unfold F_X8_checkInstruction
      rw [c_ckF0 hx, m_bx1 (by decide)]
    · unfold F_X9_isInstruction
      rw [m_isF0 hx, m_bi, if_pos rfl, m_rz0]
  · have h14 := m_cn14 ho hf
    rcases m_ixc y (m_cn p f) (by omega) with hy | ⟨j, hj, hy⟩
    · subst hx
      refine Or.inl ⟨fun σ hc => ?_, fun σ hm => r_isI0 hm ho hf hy⟩
      unfold F_X8_checkInstruction
      rw [c_ckF hf, m_bx0, m_ld hf (by decide), c_cnt hc hf]
      by_cases h0 : y < 0
      · rw [if_pos h0]
      · rw [if_neg h0, if_neg (fun z => by
          rcases hy with h | h
          · exact h0 h
          · exact absurd z (Int32.not_lt.mpr h))]
    · exact Or.inr ⟨f, j, hf, hj, hx, hy⟩
theorem c_ckI {f j : Nat} (hc : m_cc 14 15 16 σ p) (ho : m_ok p) (hf : f < 8) (hj : j < m_cn p f) : F_X8_checkInstruction (nI f) (nI j) σ = some (0, 0, σ) := by
  have h14 := m_cn14 ho hf
  unfold F_X8_checkInstruction
  rw [c_ckF hf, m_bx0, if_neg (nI_pos (by omega)), m_ld hf (by decide), c_cnt hc hf, m_lti (by omega) (by omega), if_pos hj]
theorem l_isReachable (h : m_X p σ) (hi : i + 2 < L) (hL : L ≤ 1536) : ∃ υ, F_L_law_b593 xs L k (nI i) σ = k (nI i + Int32.ofInt 3) υ ∧ m_X p υ ∧ m_gf m_QA m_QS σ υ := by
  unfold F_L_law_b593 F_L_law_b659 F_L_law_b665 F_L_law_b2188
  rw [m_idx1, m_idx2, m_ldS (by omega) hL, m_ldS (by omega) hL]
  rcases m_ins p h.1 (xs (i + 1)) (xs (i + 2)) with ⟨hx, hy⟩ | ⟨f, j, hf, hj, hx, hy⟩
  · have e1 : F_L_isReachable (xs (i + 1)) (xs (i + 2)) σ = some (1, σ) := by
      unfold F_L_isReachable F_X8_isReachable
      rw [hx σ h.2.1, m_bx1 (by decide), m_bh1 (by decide) rfl]
    have e2 : F_X9_isReachable (xs (i + 1)) (xs (i + 2)) σ = some (m_b false, cv_sF σ 17 1) := by
      unfold F_X9_isReachable F_X9_isReachable_b15
      rw [hy σ h.2.2.1, m_bi, if_pos rfl, m_pui, m_F_eq, if_neg (by decide)]; rfl
    rw [e1, m_bi, m_ldS (by omega) hL, m_ldS (by omega) hL, e2, m_bi, m_tailB m_F_eq (fun z => absurd z (by decide))]
    exact ⟨_, rfl, h.gf (m_F_gf (as := []) (ss := [17]) (by decide)) (by decide) (by decide), m_F_gf (by decide)⟩
  · rw [hx, hy]
    obtain ⟨s1, a1, a2, a3, a4, a5, a6⟩ := c_fx h
    have e1 : F_L_isReachable (nI f) (nI j) σ = some (0, cv_sL s1 (vp_updL s1.2.2.1 0 (if m_rh p f j = false then 0 else 1))) := by
      unfold F_L_isReachable F_X8_isReachable F_L_isReachable_b16
      rw [c_ckI h.2.1 h.1 hf hj, m_bx0, a1, m_bv, c_reaches a6.1 h.1 hf hj, m_bi, m_rxzb, m_bh0, m_stL, m_stL, m_b0i]
      by_cases hb : m_rh p f j = false
      · rw [if_pos hb, if_pos hb]
      · rw [if_neg hb, if_neg hb]
    have hX2 : m_X p (cv_sL s1 (vp_updL s1.2.2.1 0 (if m_rh p f j = false then 0 else 1))) := a5.gf (m_L_gf (as := []) (ss := [])) (by decide) (by decide)
    obtain ⟨s4, c1, c2, c3, c4, c5, c6⟩ := r_fx (hX2.gf (m_F_gf (as := []) (ss := [17]) (k := 17) (v := 0) (by decide)) (by decide) (by decide))
    have e2 : F_X9_isReachable (nI f) (nI j) (cv_sL s1 (vp_updL s1.2.2.1 0 (if m_rh p f j = false then 0 else 1))) = some (m_b (m_rh p f j), s4) := by
      unfold F_X9_isReachable F_X9_isReachable_b15
      rw [r_isI hX2.2.2.1 h.1 hf hj, m_bi, if_neg (by decide), m_pui, m_F_eq, if_pos (by decide), c1, m_bv, r_reached (c6.1 f hf) h.1 hf (by omega), m_bi, m_rzb]
    rw [e1, m_bi, m_ldS (by omega) hL, m_ldS (by omega) hL, hx, hy, e2, m_bi, m_tailB (c4.trans m_F_eq) (fun _ => by rw [c3, m_F_22, m_L_out])]
    exact ⟨s4, rfl, c5, a2.trans (m_L_gf.trans ((m_F_gf (by decide)).trans c2))⟩
theorem l_liveBefore (h : m_X p σ) (hi : i + 2 < L) (hL : L ≤ 1536) : ∃ υ, F_L_law_b955 xs L k (nI i) σ = k (nI i + Int32.ofInt 3) υ ∧ m_X p υ ∧ m_gf m_QA m_QS σ υ := by
  unfold F_L_law_b955 F_L_law_b1020 F_L_law_b2188
  rw [m_idx1, m_idx2, m_ldS (by omega) hL, m_ldS (by omega) hL]
  rcases m_ins p h.1 (xs (i + 1)) (xs (i + 2)) with ⟨hx, hy⟩ | ⟨f, j, hf, hj, hx, hy⟩
  · have e1 : F_L_liveBefore (xs (i + 1)) (xs (i + 2)) σ = some (1, σ) := by
      unfold F_L_liveBefore F_X8_liveBefore
      rw [hx σ h.2.1, m_bx1 (by decide), m_bh1 (by decide) rfl]
    have e2 : F_X9_liveBefore (xs (i + 1)) (xs (i + 2)) σ = some (0, cv_sF σ 17 1) := by
      unfold F_X9_liveBefore F_X9_liveBefore_b15
      rw [hy σ h.2.2.1, m_bi, if_pos rfl, m_pui, m_F_eq, if_neg (by decide)]
    rw [e1, m_bi, m_ldS (by omega) hL, m_ldS (by omega) hL, e2, m_bi, m_tail m_F_eq (fun z => absurd z (by decide))]
    exact ⟨_, rfl, h.gf (m_F_gf (as := []) (ss := [17]) (by decide)) (by decide) (by decide), m_F_gf (by decide)⟩
  · have h14 := m_cn14 h.1 hf
    rw [hx, hy]
    obtain ⟨s1, a1, a2, a3, a4, a5, a6⟩ := c_fx h
    by_cases hb : m_rh p f j = false
    · have e1 : F_L_liveBefore (nI f) (nI j) σ = some (2, s1) := by
        unfold F_L_liveBefore F_X8_liveBefore
        rw [c_ckI h.2.1 h.1 hf hj, m_bx0, a1, m_bv, c_reaches a6.1 h.1 hf hj, m_bi, m_b0i, if_pos hb, m_bh1 (by decide) rfl]
      obtain ⟨s4, c1, c2, c3, c4, c5, c6⟩ := r_fx (a5.gf (m_F_gf (as := []) (ss := [17]) (k := 17) (v := 0) (by decide)) (by decide) (by decide))
      have e2 : F_X9_liveBefore (nI f) (nI j) s1 = some (0, cv_sF s4 17 2) := by
        unfold F_X9_liveBefore F_X9_liveBefore_b15 F_X9_liveBefore_b46
        rw [r_isI a5.2.2.1 h.1 hf hj, m_bi, if_neg (by decide), m_pui, m_F_eq, if_pos (by decide), c1, m_bv, r_reached (c6.1 f hf) h.1 hf (by omega), m_bi, m_b0i, if_pos hb, m_pui, m_F_eq, if_neg (by decide)]
      rw [e1, m_bi, m_ldS (by omega) hL, m_ldS (by omega) hL, hx, hy, e2, m_bi, m_tail m_F_eq (fun z => absurd z (by decide))]
      exact ⟨_, rfl, c5.gf (m_F_gf (as := []) (ss := [17]) (by decide)) (by decide) (by decide), a2.trans ((m_F_gf (by decide)).trans (c2.trans (m_F_gf (by decide))))⟩
    · have hbt : m_rh p f j = true := by simpa using hb
      have e1 : F_L_liveBefore (nI f) (nI j) σ = some (0, cv_sL s1 (vp_updL s1.2.2.1 0 (s1.1 29 (f * 15 + j)).toInt64)) := by
        unfold F_L_liveBefore F_X8_liveBefore F_X3_before
        rw [c_ckI h.2.1 h.1 hf hj, m_bx0, a1, m_bv, c_reaches a6.1 h.1 hf hj, m_bi, m_b0i, if_neg hb, m_j15, m_ld (by omega) (by decide), m_bi, m_bh0, m_stL]
      have hX2 : m_X p (cv_sL s1 (vp_updL s1.2.2.1 0 (s1.1 29 (f * 15 + j)).toInt64)) := a5.gf (m_L_gf (as := []) (ss := [])) (by decide) (by decide)
      obtain ⟨s4, c1, c2, c3, c4, c5, c6⟩ := r_fx (hX2.gf (m_F_gf (as := []) (ss := [17]) (k := 17) (v := 0) (by decide)) (by decide) (by decide))
      have e2 : F_X9_liveBefore (nI f) (nI j) (cv_sL s1 (vp_updL s1.2.2.1 0 (s1.1 29 (f * 15 + j)).toInt64)) = some (s4.1 60 (15 * f + j), cv_sF s4 17 0) := by
        unfold F_X9_liveBefore F_X9_liveBefore_b15 F_X9_liveBefore_b46
        rw [r_isI hX2.2.2.1 h.1 hf hj, m_bi, if_neg (by decide), m_pui, m_F_eq, if_pos (by decide), c1, m_bv, r_reached (c6.1 f hf) h.1 hf (by omega), m_bi, m_b0i, if_neg hb, m_pui, m_F_eq, if_pos (by decide), m_i15, m_ld (by omega) (by decide), m_F_1]
      have e3 : s1.1 29 (f * 15 + j) = s4.1 60 (15 * f + j) := by
        have := (m_tie h.1 a6 c6).2.2.2 f hf j (by omega) hbt
        rw [m_nd_at hj] at this
        exact this
      rw [e1, m_bi, m_ldS (by omega) hL, m_ldS (by omega) hL, hx, hy, e2, m_bi, m_tail m_F_eq (fun _ => by rw [m_F_22, c3, m_F_22, m_L_out, e3])]
      exact ⟨_, rfl, c5.gf (m_F_gf (as := []) (ss := [17]) (by decide)) (by decide) (by decide), a2.trans (m_L_gf.trans ((m_F_gf (by decide)).trans (c2.trans (m_F_gf (by decide)))))⟩
theorem m_chr : ∀ n, n < 128 → ((nI n).toUInt32 % 65536).toInt32 = nI n := by decide +kernel
theorem m_rxc {n : Nat} (h : n < 128) : cv_rxc (nI n) σ = some (0, nI n, σ) := by
  unfold cv_rxc
  rw [if_pos ⟨nI_pos' (by omega), by rw [show (65536 : Int32) = nI 65536 from rfl]; exact (nI_ltI (by omega) (by omega)).mpr (by omega)⟩]
theorem l_instruction (h : m_X p σ) (hi : i + 2 < L) (hL : L ≤ 1536) : ∃ υ, F_L_law_b389 xs L k (nI i) σ = k (nI i + Int32.ofInt 3) υ ∧ m_X p υ ∧ m_gf m_QA m_QS σ υ := by
  unfold F_L_law_b389 F_L_law_b454 F_L_law_b2188
  rw [m_idx1, m_idx2, m_ldS (by omega) hL, m_ldS (by omega) hL]
  rcases m_ins p h.1 (xs (i + 1)) (xs (i + 2)) with ⟨hx, hy⟩ | ⟨f, j, hf, hj, hx, hy⟩
  · have e1 : F_L_instruction (xs (i + 1)) (xs (i + 2)) σ = some (1, σ) := by
      unfold F_L_instruction F_X8_instruction
      rw [hx σ h.2.1, m_bx1 (by decide), m_bh1 (by decide) rfl]
    have e2 : F_X9_instruction (xs (i + 1)) (xs (i + 2)) σ = some (0, cv_sF σ 17 1) := by
      unfold F_X9_instruction F_X9_instruction_b15
      rw [hy σ h.2.2.1, m_bi, if_pos rfl, m_pui, m_F_eq, if_neg (by decide)]; exact m_rc (k := 0) (by decide)
    rw [e1, m_bi, m_ldS (by omega) hL, m_ldS (by omega) hL, e2, m_bi, m_tail m_F_eq (fun z => absurd z (by decide))]
    exact ⟨_, rfl, h.gf (m_F_gf (as := []) (ss := [17]) (by decide)) (by decide) (by decide), m_F_gf (by decide)⟩
  · have hv := m_val_k (m_vl h.1 hf hj)
    rw [hx, hy]
    have e1 : F_L_instruction (nI f) (nI j) σ = some (0, cv_sL σ (vp_updL σ.2.2.1 0 (nI (m_kd p f j)).toInt64)) := by
      unfold F_L_instruction F_X8_instruction
      rw [c_ckI h.2.1 h.1 hf hj, m_bx0, c_kindAt h.2.1 h.1 hf hj, m_bi, m_rxc hv.1, m_bh0, m_stL]
    have hX2 : m_X p (cv_sL σ (vp_updL σ.2.2.1 0 (nI (m_kd p f j)).toInt64)) := h.gf (m_L_gf (as := []) (ss := [])) (by decide) (by decide)
    have hX3 : m_X p (cv_sF (cv_sL σ (vp_updL σ.2.2.1 0 (nI (m_kd p f j)).toInt64)) 17 0) := hX2.gf (m_F_gf (as := []) (ss := [17]) (by decide)) (by decide) (by decide)
    have e2 : F_X9_instruction (nI f) (nI j) (cv_sL σ (vp_updL σ.2.2.1 0 (nI (m_kd p f j)).toInt64)) = some (nI (m_kd p f j), cv_sF (cv_sL σ (vp_updL σ.2.2.1 0 (nI (m_kd p f j)).toInt64)) 17 0) := by
      unfold F_X9_instruction F_X9_instruction_b15
      rw [r_isI hX2.2.2.1 h.1 hf hj, m_bi, if_neg (by decide), m_pui, m_F_eq, if_pos (by decide), r_kind hX3.2.2.1 h.1 hf hj, m_bi, m_chr _ hv.1, m_rc (by omega)]
    rw [e1, m_bi, m_ldS (by omega) hL, m_ldS (by omega) hL, hx, hy, e2, m_bi, m_tail m_F_eq (fun _ => by rw [m_F_22, m_L_out])]
    exact ⟨_, rfl, hX3, m_L_gf.trans (m_F_gf (by decide))⟩
end A53
