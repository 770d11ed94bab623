section A61
variable {p : m_P} {σ τ : cv_St} {xs : Nat → Int32} {L i j : Nat} {k : Int32 → cv_St → Option (Int32 × cv_St)}
def m_rl (p : m_P) (σ : cv_St) (r : Nat) : Int32 := if (2 * nI (m_ct (m_vp p σ r 0) 8)) < nI (m_ct (m_fp p) 8) then (if m_ct (m_vp p σ r 1) 8 ≤ 0 then (if (2 * nI (m_ct (m_vp p σ r 2) 8)) < nI (m_ct (m_fp p) 8) then 4 else 3) else 2) else 1
theorem m_ct_le (P : Nat → Bool) : ∀ n, m_ct P n ≤ n := by
  intro n
  induction n with
  | zero => exact Nat.le_refl _
  | succ n ih =>
    rw [m_ct_s]
    split <;> omega
theorem l_role (h : m_X p σ) (hi : i + 2 < L) (hL : L ≤ 1536) : ∃ υ, F_L_law_b1747 xs L k (nI i) σ = k (nI i + Int32.ofInt 3) υ ∧ m_X p υ ∧ m_gf m_QA m_QS σ υ := by
  have hct := m_ct_le (m_fp p) 8
  unfold F_L_law_b1747 F_L_law_b1800 F_L_law_b2188
  rw [m_idx1, m_ldS (by omega) hL]
  rcases m_ixc (xs (i + 1)) 8 (by decide) with hx | ⟨r, hr, hx⟩
  · have e1 : F_L_role (xs (i + 1)) σ = some (1, σ) := by
      unfold F_L_role F_X8_role
      rw [c_ckR0 hx, m_bx1 (by decide), m_bh1 (by decide) rfl]
    have e2 : F_X9_role (xs (i + 1)) σ = some (0, cv_sF σ 17 1) := by
      unfold F_X9_role F_X9_role_b24
      rw [m_isR0 hx, m_bi, if_pos rfl, m_pui, m_F_eq, if_neg (by decide)]
    rw [e1, m_bi, m_ldS (by omega) hL, e2, m_bi, m_tail m_F_eq (fun z => absurd z (by decide))]
    exact ⟨_, rfl, h.gf (m_F_gf (as := []) (ss := [17]) (by decide)) (by decide) (by decide), m_F_gf (by decide)⟩
  · rw [hx]
    by_cases h0 : m_ct (m_fp p) 8 = 0
    · have e1 : F_L_role (nI r) σ = some (2, σ) := by
        unfold F_L_role F_X8_role
        rw [c_ckR hr, m_bx0, c_filled h.2.1 h.1, m_bi, m_eqki (by omega) (by decide), if_pos h0, m_bh1 (by decide) rfl]
      have e2 : F_X9_role (nI r) σ = some (0, cv_sF σ 17 2) := by
        unfold F_X9_role F_X9_role_b24
        rw [m_isR hr, m_bi, if_neg (by decide), r_filled h.2.2.1 h.1, m_bi, m_eqki (by omega) (by decide), if_pos h0, m_pui, m_F_eq, if_neg (by decide)]
      rw [e1, m_bi, m_ldS (by omega) hL, hx, e2, m_bi, m_tail m_F_eq (fun z => absurd z (by decide))]
      exact ⟨_, rfl, h.gf (m_F_gf (as := []) (ss := [17]) (by decide)) (by decide) (by decide), m_F_gf (by decide)⟩
    · obtain ⟨s1, a1, a2, a3, a4, a5, a6⟩ := c_fx h
      have hc1 := m_ct_le (m_vp p s1 r 1) 8
      have e1 : F_L_role (nI r) σ = some (0, cv_sL s1 (vp_updL s1.2.2.1 0 (m_rl p s1 r).toInt64)) := by
        unfold F_L_role F_X8_role m_rl
        rw [c_ckR hr, m_bx0, c_filled h.2.1 h.1, m_bi, m_eqki (by omega) (by decide), if_neg h0, a1, m_bv, show (F_X8_countVotes (nI r) 0 s1) = _ from c_countV (w := 0) a5.2.1 h.1 hr (by omega), m_bi, show (F_X8_countVotes (nI r) 1 s1) = _ from c_countV (w := 1) a5.2.1 h.1 hr (by omega), m_bi, show (F_X8_countVotes (nI r) 2 s1) = _ from c_countV (w := 2) a5.2.1 h.1 hr (by omega), m_bi, show (1 : Int32) = nI 1 from rfl, m_lti (by omega) (by omega)]
        by_cases q0 : (2 * nI (m_ct (m_vp p s1 r 0) 8)) < nI (m_ct (m_fp p) 8)
        · rw [if_pos q0, if_pos q0]
          by_cases q1 : m_ct (m_vp p s1 r 1) 8 ≤ 0
          · rw [if_pos (show m_ct (m_vp p s1 r 1) 8 < 1 by omega), if_pos q1]
            by_cases q2 : (2 * nI (m_ct (m_vp p s1 r 2) 8)) < nI (m_ct (m_fp p) 8)
            · rw [if_pos q2, if_pos q2, m_bh0, m_stL]
            · rw [if_neg q2, if_neg q2, m_bh0, m_stL]
          · rw [if_neg (show ¬ m_ct (m_vp p s1 r 1) 8 < 1 by omega), if_neg q1, m_bh0, m_stL]
        · rw [if_neg q0, if_neg q0, m_bh0, m_stL]
      have hX2 : m_X p (cv_sL s1 (vp_updL s1.2.2.1 0 (m_rl p s1 r).toInt64)) := a5.gf (m_L_gf (as := []) (ss := [])) (by decide) (by decide)
      obtain ⟨s4, c1, c2, c3, c4, c5, c6⟩ := r_fx (hX2.gf (m_F_gf (as := []) (ss := [17]) (k := 17) (v := 0) (by decide)) (by decide) (by decide))
      have e2 : F_X9_role (nI r) (cv_sL s1 (vp_updL s1.2.2.1 0 (m_rl p s1 r).toInt64)) = some (m_rl p s1 r, s4) := by
        unfold F_X9_role F_X9_role_b24
        rw [m_isR hr, m_bi, if_neg (by decide), r_filled hX2.2.2.1 h.1, m_bi, m_eqki (by omega) (by decide), if_neg h0, m_pui, m_F_eq, if_pos (by decide), c1, m_bv, r_filled c5.2.2.1 h.1, m_bi, show (F_X9_countVotes (nI r) 0 s4) = _ from r_countV (w := 0) c5.2.2.1 h.1 a6 c6 hr (by omega), m_bi, show (F_X9_countVotes (nI r) 1 s4) = _ from r_countV (w := 1) c5.2.2.1 h.1 a6 c6 hr (by omega), m_bi, show (F_X9_countVotes (nI r) 2 s4) = _ from r_countV (w := 2) c5.2.2.1 h.1 a6 c6 hr (by omega), m_bi, show (0 : Int32) = nI 0 from rfl, m_lei (by omega) (by omega)]
        unfold m_rl
        by_cases q0 : (2 * nI (m_ct (m_vp p s1 r 0) 8)) < nI (m_ct (m_fp p) 8)
        · rw [if_pos q0, if_pos q0]
          by_cases q1 : m_ct (m_vp p s1 r 1) 8 ≤ 0
          · rw [if_pos q1, if_pos q1]
            by_cases q2 : (2 * nI (m_ct (m_vp p s1 r 2) 8)) < nI (m_ct (m_fp p) 8)
            · rw [if_pos q2, if_pos q2]
            · rw [if_neg q2, if_neg q2]
          · rw [if_neg q1, if_neg q1]
        · rw [if_neg q0, if_neg q0]
      rw [e1, m_bi, m_ldS (by omega) hL, hx, e2, m_bi, m_tail (c4.trans m_F_eq) (fun _ => by rw [c3, m_F_22, m_L_out])]
      exact ⟨s4, rfl, c5, a2.trans (m_L_gf.trans ((m_F_gf (by decide)).trans c2))⟩
end A61
