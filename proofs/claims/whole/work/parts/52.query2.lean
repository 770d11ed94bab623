theorem m_rxzb {b : Bool} {σ : cv_St} : cv_rxz (m_b b) σ = some (0, m_b b, σ) := by cases b <;> rfl
/-- the tail of a case with a boolean -/
theorem m_tailB {t : Int32} {b : Bool} {s : cv_St} {K : cv_St → Option (Int32 × cv_St)} (h17 : s.2.1 17 = t) (h0 : t = 0 → s.2.2.1 0 = (if b = false then 0 else 1)) :
    cv_bi (F_X9_thrown s) (fun v9 s8 => (if v9 = t then (if t = 0 then cv_ldL s8 0 (fun v10 => (if m_b b = 0 then (if (lg_cmp v10 0) = 0 then K s8 else some (0, s8)) else (if (lg_cmp v10 1) = 0 then K s8 else some (0, s8)))) else K s8) else some (0, s8))) = K s := by
  unfold F_X9_thrown
  rw [m_bi, if_pos h17]
  by_cases ht : t = 0
  · rw [if_pos ht, m_ldL, m_b0i]
    have h := h0 ht
    cases b with
    | false => rw [if_pos rfl]; rw [if_pos rfl] at h; rw [if_pos (m_lg0.mpr h)]
    | true => rw [if_neg (by simp)]; rw [if_neg (by simp)] at h; rw [if_pos (m_lg0.mpr h)]
  · rw [if_neg ht]
section A52
variable {p : m_P} {σ : cv_St} {xs : Nat → Int32} {L i : Nat} {k : Int32 → cv_St → Option (Int32 × cv_St)}
theorem l_length (h : m_X p σ) (hi : i + 2 < L) (hL : L ≤ 1536) : ∃ υ, F_L_law_b333 xs L k (nI i) σ = k (nI i + Int32.ofInt 3) υ ∧ m_X p υ ∧ m_gf m_QA m_QS σ υ := by
  unfold F_L_law_b333 F_L_law_b386 F_L_law_b2188
  rw [m_idx1, m_ldS (by omega) hL]
  rcases m_ixc (xs (i + 1)) 8 (by decide) with hx | ⟨f, hf, hx⟩
  · have e1 : F_L_length (xs (i + 1)) σ = some (1, σ) := by
      unfold F_L_length F_X8_length
      rw [c_ckF0 hx, m_bx1 (by decide), m_bh1 (by decide) rfl]
    have e2 : F_X9_length (xs (i + 1)) σ = some (0, cv_sF σ 17 1) := by
      unfold F_X9_length F_X9_length_b13
      rw [m_isF0 hx, m_bi, if_pos rfl, m_pui, m_F_eq, if_neg (by decide)]
    rw [e1, m_bi, m_ldS (by omega) hL, e2, m_bi, m_tail m_F_eq (fun z => absurd z (by decide))]
    exact ⟨_, rfl, h.gf (m_F_gf (as := []) (ss := [17]) (by decide)) (by decide) (by decide), m_F_gf (by decide)⟩
  · rw [hx]
    have e1 : F_L_length (nI f) σ = some (0, cv_sL σ (vp_updL σ.2.2.1 0 (nI (m_cn p f)).toInt64)) := by
      unfold F_L_length F_X8_length
      rw [c_ckF hf, m_bx0, m_ld hf (by decide), c_cnt h.2.1 hf, m_bh0, m_stL]
    have hX2 : m_X p (cv_sF (cv_sL σ (vp_updL σ.2.2.1 0 (nI (m_cn p f)).toInt64)) 17 0) := (h.gf (m_L_gf (as := []) (ss := [])) (by decide) (by decide)).gf (m_F_gf (as := []) (ss := [17]) (by decide)) (by decide) (by decide)
    have e2 : F_X9_length (nI f) (cv_sL σ (vp_updL σ.2.2.1 0 (nI (m_cn p f)).toInt64)) = some (nI (m_cn p f), cv_sF (cv_sL σ (vp_updL σ.2.2.1 0 (nI (m_cn p f)).toInt64)) 17 0) := by
      unfold F_X9_length F_X9_length_b13
      rw [m_isF hf, m_bi, if_neg (by decide), m_pui, m_F_eq, if_pos (by decide), m_ld (by omega) (by decide), r_cnt hX2.2.2.1 hf]
    rw [e1, m_bi, m_ldS (by omega) hL, hx, e2, m_bi, m_tail m_F_eq (fun _ => by rw [m_F_22, m_L_out])]
    exact ⟨_, rfl, hX2, m_L_gf.trans (m_F_gf (by decide))⟩
theorem l_neededSlots (h : m_X p σ) (hi : i + 2 < L) (hL : L ≤ 1536) : ∃ υ, F_L_law_b1023 xs L k (nI i) σ = k (nI i + Int32.ofInt 3) υ ∧ m_X p υ ∧ m_gf m_QA m_QS σ υ := by
  unfold F_L_law_b1023 F_L_law_b1076 F_L_law_b2188
  rw [m_idx1, m_ldS (by omega) hL]
  rcases m_ixc (xs (i + 1)) 8 (by decide) with hx | ⟨f, hf, hx⟩
  · have e1 : F_L_neededSlots (xs (i + 1)) σ = some (1, σ) := by
      unfold F_L_neededSlots F_X8_neededSlots
      rw [c_ckF0 hx, m_bx1 (by decide), m_bh1 (by decide) rfl]
    have e2 : F_X9_neededSlots (xs (i + 1)) σ = some (0, cv_sF σ 17 1) := by
      unfold F_X9_neededSlots F_X9_neededSlots_b13
      rw [m_isF0 hx, m_bi, if_pos rfl, m_pui, m_F_eq, if_neg (by decide)]
    rw [e1, m_bi, m_ldS (by omega) hL, e2, m_bi, m_tail m_F_eq (fun z => absurd z (by decide))]
    exact ⟨_, rfl, h.gf (m_F_gf (as := []) (ss := [17]) (by decide)) (by decide) (by decide), m_F_gf (by decide)⟩
  · rw [hx]
    obtain ⟨s1, a1, a2, a3, a4, a5, a6⟩ := c_fx h
    have e1 : F_L_neededSlots (nI f) σ = some (0, cv_sL s1 (vp_updL s1.2.2.1 0 (nI (m_ne p f (m_cn p f))).toInt64)) := by
      unfold F_L_neededSlots F_X8_neededSlots
      rw [c_ckF hf, m_bx0, a1, m_bv, m_ld hf (by decide), a6.2.2.2.2.2.2.2 f hf, m_bh0, m_stL]
    have hX2 : m_X p (cv_sF (cv_sL s1 (vp_updL s1.2.2.1 0 (nI (m_ne p f (m_cn p f))).toInt64)) 17 0) := (a5.gf (m_L_gf (as := []) (ss := [])) (by decide) (by decide)).gf (m_F_gf (as := []) (ss := [17]) (by decide)) (by decide) (by decide)
    obtain ⟨s4, c1, c2, c3, c4, c5, c6⟩ := r_fx hX2
    have e2 : F_X9_neededSlots (nI f) (cv_sL s1 (vp_updL s1.2.2.1 0 (nI (m_ne p f (m_cn p f))).toInt64)) = some (nI (m_ne p f (m_cn p f)), s4) := by
      unfold F_X9_neededSlots F_X9_neededSlots_b13
      rw [m_isF hf, m_bi, if_neg (by decide), m_pui, m_F_eq, if_pos (by decide), c1, m_bv, r_neededBy c5.2.2.1 h.1 hf (c6.1 f hf), m_bi]
    rw [e1, m_bi, m_ldS (by omega) hL, hx, e2, m_bi, m_tail (c4.trans m_F_eq) (fun _ => by rw [c3, m_F_22, m_L_out])]
    exact ⟨s4, rfl, c5, a2.trans (m_L_gf.trans ((m_F_gf (by decide)).trans c2))⟩
theorem l_isBalanced (h : m_X p σ) (hi : i + 2 < L) (hL : L ≤ 1536) : ∃ υ, F_L_law_b668 xs L k (nI i) σ = k (nI i + Int32.ofInt 3) υ ∧ m_X p υ ∧ m_gf m_QA m_QS σ υ := by
  unfold F_L_law_b668 F_L_law_b722 F_L_law_b728 F_L_law_b2188
  rw [m_idx1, m_ldS (by omega) hL]
  rcases m_ixc (xs (i + 1)) 8 (by decide) with hx | ⟨f, hf, hx⟩
  · have e1 : F_L_isBalanced (xs (i + 1)) σ = some (1, σ) := by
      unfold F_L_isBalanced F_X8_isBalanced
      rw [c_ckF0 hx, m_bx1 (by decide), m_bh1 (by decide) rfl]
    have e2 : F_X9_isBalanced (xs (i + 1)) σ = some (m_b false, cv_sF σ 17 1) := by
      unfold F_X9_isBalanced F_X9_isBalanced_b13
      rw [m_isF0 hx, m_bi, if_pos rfl, m_pui, m_F_eq, if_neg (by decide)]; rfl
    rw [e1, m_bi, m_ldS (by omega) hL, e2, m_bi, m_tailB m_F_eq (fun z => absurd z (by decide))]
    exact ⟨_, rfl, h.gf (m_F_gf (as := []) (ss := [17]) (by decide)) (by decide) (by decide), m_F_gf (by decide)⟩
  · rw [hx]
    obtain ⟨s1, a1, a2, a3, a4, a5, a6⟩ := c_fx h
    have e1 : F_L_isBalanced (nI f) σ = some (0, cv_sL s1 (vp_updL s1.2.2.1 0 (if m_bl p f = false then 0 else 1))) := by
      unfold F_L_isBalanced F_X8_isBalanced F_L_isBalanced_b15
      rw [c_ckF hf, m_bx0, a1, m_bv, m_ld hf (by decide), (a6.2.1 f hf).1, m_rxzb, m_bh0, m_stL, m_stL, m_b0i]
      by_cases hb : m_bl p f = false
      · rw [if_pos hb, if_pos hb]
      · rw [if_neg hb, if_neg hb]
    have hX2 : m_X p (cv_sF (cv_sL s1 (vp_updL s1.2.2.1 0 (if m_bl p f = false then 0 else 1))) 17 0) := (a5.gf (m_L_gf (as := []) (ss := [])) (by decide) (by decide)).gf (m_F_gf (as := []) (ss := [17]) (by decide)) (by decide) (by decide)
    obtain ⟨s4, c1, c2, c3, c4, c5, c6⟩ := r_fx hX2
    have e2 : F_X9_isBalanced (nI f) (cv_sL s1 (vp_updL s1.2.2.1 0 (if m_bl p f = false then 0 else 1))) = some (m_b (m_bl p f), s4) := by
      unfold F_X9_isBalanced F_X9_isBalanced_b13
      rw [m_isF hf, m_bi, if_neg (by decide), m_pui, m_F_eq, if_pos (by decide), c1, m_bv, m_ld hf (by decide), c6.2.2.2.1 f hf, m_rzb]
    rw [e1, m_bi, m_ldS (by omega) hL, hx, e2, m_bi, m_tailB (c4.trans m_F_eq) (fun _ => by rw [c3, m_F_22, m_L_out])]
    exact ⟨s4, rfl, c5, a2.trans (m_L_gf.trans ((m_F_gf (by decide)).trans c2))⟩
theorem l_siteCount (h : m_X p σ) : ∃ υ, F_L_law_b1317 xs L k (nI i) σ = k (nI i + Int32.ofInt 3) υ ∧ m_X p υ ∧ m_gf m_QA m_QS σ υ := by
  unfold F_L_law_b1317 F_L_law_b2188 F_X8_siteCount F_X9_siteCount
  obtain ⟨s1, a1, a2, a3, a4, a5, a6⟩ := c_fx h
  have hX2 : m_X p (cv_sF s1 17 0) := a5.gf (m_F_gf (as := []) (ss := [17]) (by decide)) (by decide) (by decide)
  obtain ⟨s4, c1, c2, c3, c4, c5, c6⟩ := r_fx hX2
  rw [a1, m_bv, m_bi, m_pui, c1, m_bv, m_bi, a6.2.2.2.2.2.2.1.1, c6.2.2.1.1, if_pos rfl]
  exact ⟨s4, rfl, c5, a2.trans ((m_F_gf (by decide)).trans c2)⟩
end A52
