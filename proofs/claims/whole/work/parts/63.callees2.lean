theorem l_callees {p : m_P} {σ : cv_St} {xs : Nat → Int32} {L i : Nat} {k : Int32 → cv_St → Option (Int32 × cv_St)} (h : m_X p σ) (hi : i + 2 < L) (hL : L ≤ 1536) : ∃ υ, F_L_law_b1142 xs L k (nI i) σ = k (nI i + Int32.ofInt 3) υ ∧ m_X p υ ∧ m_gf m_QA m_QS σ υ := by
  unfold F_L_law_b1142 F_L_law_b1195 F_L_law_b2188
  rw [m_idx1, m_ldS (by omega) hL]
  rcases m_ixc (xs (i + 1)) 8 (by decide) with hx | ⟨f, hf, hx⟩
  · have e1 : F_L_callees (xs (i + 1)) σ = some (1, σ) := by
      unfold F_L_callees F_X8_callees
      rw [c_ckF0 hx, m_bx1 (by decide), m_bh1 (by decide) rfl]
    have e2 : F_X9_callees (xs (i + 1)) σ = some (0, cv_sF σ 17 1) := by
      unfold F_X9_callees F_X9_callees_b13
      rw [m_isF0 hx, m_bi, if_pos rfl, m_pui, m_F_eq, if_neg (by decide)]
    rw [e1, m_bi, m_ldS (by omega) hL, e2, m_bi, m_tail m_F_eq (fun z => absurd z (by decide))]
    exact ⟨_, rfl, h.gf (m_F_gf (as := []) (ss := [17]) (by decide)) (by decide) (by decide), m_F_gf (by decide)⟩
  · rw [hx]
    obtain ⟨s1, a1, a2, a3, a4, a5, a6⟩ := c_fx h
    have e1 : F_L_callees (nI f) σ = some (0, cv_sL s1 (vp_updL s1.2.2.1 0 (m_cal p f (m_cn p f)).toInt64)) := by
      unfold F_L_callees F_X8_callees
      rw [c_ckF hf, m_bx0, a1, m_bv, m_ld hf (by decide), (a6.1 f hf).2, m_bh0, m_stL]
    have hX2 : m_X p (cv_sF (cv_sL s1 (vp_updL s1.2.2.1 0 (m_cal p f (m_cn p f)).toInt64)) 17 0) := (a5.gf (m_L_gf (as := []) (ss := [])) (by decide) (by decide)).gf (m_F_gf (as := []) (ss := [17]) (by decide)) (by decide) (by decide)
    obtain ⟨s4, c1, c2, c3, c4, c5, c6⟩ := r_fx hX2
    have e2 : F_X9_callees (nI f) (cv_sL s1 (vp_updL s1.2.2.1 0 (m_cal p f (m_cn p f)).toInt64)) = some (m_cal p f (m_cn p f), s4) := by
      unfold F_X9_callees F_X9_callees_b13
      rw [m_isF hf, m_bi, if_neg (by decide), m_pui, m_F_eq, if_pos (by decide), c1, m_bv, r_calleesOf c5.2.2.1 h.1 c6 hf, m_bi]
    rw [e1, m_bi, m_ldS (by omega) hL, hx, e2, m_bi, m_tail (c4.trans m_F_eq) (fun _ => by rw [c3, m_F_22, m_L_out])]
    exact ⟨s4, rfl, c5, a2.trans (m_L_gf.trans ((m_F_gf (by decide)).trans c2))⟩
