section A58
variable {p : m_P} {σ τ : cv_St} {xs : Nat → Int32} {L i j : Nat} {k : Int32 → cv_St → Option (Int32 × cv_St)}
theorem c_ckR {f : Nat} (h : f < 8) {σ : cv_St} : F_X8_checkRegister (nI f) σ = some (0, 0, σ) := by
  unfold F_X8_checkRegister
  rw [if_neg (nI_pos (by omega)), show (8 : Int32) = nI 8 from rfl, m_lti (by omega) (by omega), if_pos h]
theorem c_ckR0 {x : Int32} (h : x < 0 ∨ nI 8 ≤ x) {σ : cv_St} : F_X8_checkRegister x σ = some (1, 0, σ) := by
  unfold F_X8_checkRegister
  by_cases hx : x < 0
  · rw [if_pos hx]
  · rw [if_neg hx, if_neg (fun z => by
      rcases h with h | h
      · exact hx h
      · exact absurd z (Int32.not_lt.mpr h))]
theorem l_votes (h : m_X p σ) (hi : i + 2 < L) (hL : L ≤ 1536) : ∃ υ, F_L_law_b1679 xs L k (nI i) σ = k (nI i + Int32.ofInt 3) υ ∧ m_X p υ ∧ m_gf m_QA m_QS σ υ := by
  unfold F_L_law_b1679 F_L_law_b1744 F_L_law_b2188
  rw [m_idx1, m_idx2, m_ldS (by omega) hL, m_ldS (by omega) hL]
  rcases m_ixc (xs (i + 1)) 8 (by decide) with hx | ⟨r, hr, hx⟩
  · have e1 : F_L_votes (xs (i + 1)) (xs (i + 2)) σ = some (1, σ) := by
      unfold F_L_votes F_X8_votes
      rw [c_ckR0 hx, m_bx1 (by decide), m_bh1 (by decide) rfl]
    have e2 : F_X9_votes (xs (i + 1)) (xs (i + 2)) σ = some (0, cv_sF σ 17 1) := by
      unfold F_X9_votes F_X9_votes_b29
      rw [m_isR0 hx, m_bi, if_pos rfl, m_pui, m_F_eq, if_neg (by decide)]
    rw [e1, m_bi, m_ldS (by omega) hL, m_ldS (by omega) hL, e2, m_bi, m_tail m_F_eq (fun z => absurd z (by decide))]
    exact ⟨_, rfl, h.gf (m_F_gf (as := []) (ss := [17]) (by decide)) (by decide) (by decide), m_F_gf (by decide)⟩
  · rcases m_ixc (xs (i + 2)) 4 (by decide) with hy | ⟨w, hw, hy⟩
    · have hno := m_out hy (by decide) (by decide)
      have e1 : F_L_votes (nI r) (xs (i + 2)) σ = some (2, σ) := by
        unfold F_L_votes F_X8_votes
        rw [c_ckR hr, m_bx0]
        by_cases h0 : xs (i + 2) < 0
        · rw [if_pos h0, m_bh1 (by decide) rfl]
        · rw [if_neg h0, if_neg (show ¬ xs (i + 2) ≤ 3 from fun z => hno ⟨Int32.not_lt.mp h0, z⟩), m_bh1 (by decide) rfl]
      have e2 : F_X9_votes (nI r) (xs (i + 2)) σ = some (0, cv_sF σ 17 2) := by
        unfold F_X9_votes F_X9_votes_b29
        rw [m_isR hr, m_bi, if_neg (by decide), show (F_X9_in (xs (i + 2)).toInt64 0 3 σ) = some (m_b (decide (0 ≤ xs (i + 2) ∧ xs (i + 2) ≤ nI (4 - 1))), σ) from m_in (lo := 0) (hi := 3), decide_eq_false hno, m_bi, if_pos (show m_b false = 0 from rfl), m_pui, m_F_eq, if_neg (by decide)]
      rw [hx, e1, m_bi, m_ldS (by omega) hL, m_ldS (by omega) hL, hx, e2, m_bi, m_tail m_F_eq (fun z => absurd z (by decide))]
      exact ⟨_, rfl, h.gf (m_F_gf (as := []) (ss := [17]) (by decide)) (by decide) (by decide), m_F_gf (by decide)⟩
    · rw [hx, hy]
      obtain ⟨s1, a1, a2, a3, a4, a5, a6⟩ := c_fx h
      have e1 : F_L_votes (nI r) (nI w) σ = some (0, cv_sL s1 (vp_updL s1.2.2.1 0 (nI (m_ct (m_vp p s1 r w) 8)).toInt64)) := by
        unfold F_L_votes F_X8_votes
        rw [c_ckR hr, m_bx0, if_neg (nI_pos (by omega)), show (3 : Int32) = nI 3 from rfl, m_lei (by omega) (by omega), if_pos (by omega), a1, m_bv, c_countV a5.2.1 h.1 hr hw, m_bi, m_bh0, m_stL]
      have hX2 : m_X p (cv_sF (cv_sL s1 (vp_updL s1.2.2.1 0 (nI (m_ct (m_vp p s1 r w) 8)).toInt64)) 17 0) := (a5.gf (m_L_gf (as := []) (ss := [])) (by decide) (by decide)).gf (m_F_gf (as := []) (ss := [17]) (by decide)) (by decide) (by decide)
      obtain ⟨s4, c1, c2, c3, c4, c5, c6⟩ := r_fx hX2
      have e2 : F_X9_votes (nI r) (nI w) (cv_sL s1 (vp_updL s1.2.2.1 0 (nI (m_ct (m_vp p s1 r w) 8)).toInt64)) = some (nI (m_ct (m_vp p s1 r w) 8), s4) := by
        unfold F_X9_votes F_X9_votes_b29
        rw [m_isR hr, m_bi, if_neg (by decide), show (F_X9_in (nI w).toInt64 0 3 (cv_sL s1 (vp_updL s1.2.2.1 0 (nI (m_ct (m_vp p s1 r w) 8)).toInt64))) = some (m_b (decide (0 ≤ nI w ∧ nI w ≤ nI (4 - 1))), (cv_sL s1 (vp_updL s1.2.2.1 0 (nI (m_ct (m_vp p s1 r w) 8)).toInt64))) from m_in (lo := 0) (hi := 3), decide_eq_true (m_inn hw (by decide)), m_bi, if_neg (by decide), m_pui, m_F_eq, if_pos (by decide), c1, m_bv, r_countV c5.2.2.1 h.1 a6 c6 hr hw, m_bi]
      rw [e1, m_bi, m_ldS (by omega) hL, m_ldS (by omega) hL, hx, hy, e2, m_bi, m_tail (c4.trans m_F_eq) (fun _ => by rw [c3, m_F_22, m_L_out])]
      exact ⟨s4, rfl, c5, a2.trans (m_L_gf.trans ((m_F_gf (by decide)).trans c2))⟩
end A58
