section A59
variable {p : m_P} {σ τ : cv_St} {xs : Nat → Int32} {L i j : Nat} {k : Int32 → cv_St → Option (Int32 × cv_St)}
def m_vS (p : m_P) (q : Nat × Nat) (w : Nat) : Nat := if w = 0 then q.1 else if w = 1 then q.2 else m_fa p q.1 q.2
theorem l_site (h : m_X p σ) (hi : i + 2 < L) (hL : L ≤ 1536) : ∃ υ, F_L_law_b1330 xs L k (nI i) σ = k (nI i + Int32.ofInt 3) υ ∧ m_X p υ ∧ m_gf m_QA m_QS σ υ := by
  have hlen := m_sF_len h.1 8 (Nat.le_refl _)
  unfold F_L_law_b1330 F_L_law_b1395 F_L_law_b2188
  rw [m_idx1, m_idx2, m_ldS (by omega) hL, m_ldS (by omega) hL]
  obtain ⟨s1, a1, a2, a3, a4, a5, a6⟩ := c_fx h
  rcases m_ixc (xs (i + 1)) (m_sF p 8).length (by omega) with hx | ⟨j, hj, hx⟩
  · obtain ⟨s4, c1, c2, c3, c4, c5, c6⟩ := r_isS a5
    have e1 : F_L_site (xs (i + 1)) (xs (i + 2)) σ = some (1, s1) := by
      unfold F_L_site F_X8_site
      rw [a1, m_bv, c_ckS0 a6 hx, m_bx1 (by decide), m_bh1 (by decide) rfl]
    have e2 : F_X9_site (xs (i + 1)) (xs (i + 2)) s1 = some (0, cv_sF s4 17 1) := by
      unfold F_X9_site F_X9_site_b30
      rw [c5 _ hx, m_bi, if_pos rfl, m_pui, m_F_eq, if_neg (by decide)]
    rw [e1, m_bi, m_ldS (by omega) hL, m_ldS (by omega) hL, e2, m_bi, m_tail m_F_eq (fun z => absurd z (by decide))]
    exact ⟨_, rfl, c3.gf (m_F_gf (as := []) (ss := [17]) (by decide)) (by decide) (by decide), a2.trans (c1.trans (m_F_gf (by decide)))⟩
  · rcases m_ixc (xs (i + 2)) 3 (by decide) with hy | ⟨w, hw, hy⟩
    · have hno := m_out hy (by decide) (by decide)
      obtain ⟨s4, c1, c2, c3, c4, c5, c6⟩ := r_isS a5
      have e1 : F_L_site (nI j) (xs (i + 2)) σ = some (2, s1) := by
        unfold F_L_site F_X8_site
        rw [a1, m_bv, c_ckS h.1 a6 hj, m_bx0]
        by_cases h0 : xs (i + 2) < 0
        · rw [if_pos h0, m_bh1 (by decide) rfl]
        · rw [if_neg h0, if_neg (show ¬ xs (i + 2) ≤ 2 from fun z => hno ⟨Int32.not_lt.mp h0, z⟩), m_bh1 (by decide) rfl]
      have e2 : F_X9_site (nI j) (xs (i + 2)) s1 = some (0, cv_sF s4 17 2) := by
        unfold F_X9_site F_X9_site_b30
        rw [c6 _ hj, m_bi, if_neg (by decide), show (F_X9_in (xs (i + 2)).toInt64 0 2 s4) = some (m_b (decide (0 ≤ xs (i + 2) ∧ xs (i + 2) ≤ nI (3 - 1))), s4) from m_in (lo := 0) (hi := 2), decide_eq_false hno, m_bi, if_pos (show m_b false = 0 from rfl), m_pui, m_F_eq, if_neg (by decide)]
      rw [hx, e1, m_bi, m_ldS (by omega) hL, m_ldS (by omega) hL, hx, e2, m_bi, m_tail m_F_eq (fun z => absurd z (by decide))]
      exact ⟨_, rfl, c3.gf (m_F_gf (as := []) (ss := [17]) (by decide)) (by decide) (by decide), a2.trans (c1.trans (m_F_gf (by decide)))⟩
    · rw [hx, hy]
      obtain ⟨q, hq, hs⟩ := m_site hj
      have hj2 := m_jl h.1 hq
      obtain ⟨g1, g2, g3, g4⟩ := a6.2.2.2.2.2.2.1.2 j q hq
      have e1 : F_L_site (nI j) (nI w) σ = some (0, cv_sL s1 (vp_updL s1.2.2.1 0 (nI (m_vS p q w)).toInt64)) := by
        unfold F_L_site F_X8_site m_vS
        rw [a1, m_bv, c_ckS h.1 a6 hj, m_bx0, if_neg (nI_pos (by omega)), show (2 : Int32) = nI 2 from rfl, m_lei (by omega) (by omega), if_pos (by omega), m_eqki (by omega) (by decide), m_eqki (by omega) (by decide), m_ld hj2.1 (by decide), m_ld hj2.1 (by decide), m_ld hj2.1 (by decide), g1, g2, g3]
        by_cases h0 : w = 0
        · rw [if_pos h0, if_pos h0, m_bh0, m_stL]
        · rw [if_neg h0, if_neg h0]
          by_cases h1 : w = 1
          · rw [if_pos h1, if_pos h1, m_bh0, m_stL]
          · rw [if_neg h1, if_neg h1, m_bh0, m_stL]
      obtain ⟨s4, c1, c2, c3, c4, c5, c6⟩ := r_isS (a5.gf (m_L_gf (as := []) (ss := []) (g := vp_updL s1.2.2.1 0 (nI (m_vS p q w)).toInt64)) (by decide) (by decide))
      have hX5 : m_X p (cv_sF s4 17 0) := c3.gf (m_F_gf (as := []) (ss := [17]) (by decide)) (by decide) (by decide)
      have hM5 : m_MA p (cv_sF s4 17 0) := c4.gf (m_F_gf (as := []) (ss := [17]) (by decide)) (by decide) (by decide)
      have e2 : F_X9_site (nI j) (nI w) (cv_sL s1 (vp_updL s1.2.2.1 0 (nI (m_vS p q w)).toInt64)) = some (nI (m_vS p q w), cv_sF s4 17 0) := by
        unfold F_X9_site F_X9_site_b30
        rw [c6 _ hj, m_bi, if_neg (by decide), show (F_X9_in (nI w).toInt64 0 2 s4) = some (m_b (decide (0 ≤ nI w ∧ nI w ≤ nI (3 - 1))), s4) from m_in (lo := 0) (hi := 2), decide_eq_true (m_inn hw (by decide)), m_bi, if_neg (show ¬ m_b true = 0 from by decide), m_pui, m_F_eq, if_pos (by decide), m_eqki (by omega) (by decide), m_eqki (by omega) (by decide), m_ld hj2.1 (by decide), m_ld hj2.1 (by decide), (hM5.2.2.1.2 j q hq).1, (hM5.2.2.1.2 j q hq).2, r_vC hX5.2.2.1 h.1 hM5 hq hs, m_bi]
        unfold m_vS
        by_cases h0 : w = 0
        · rw [if_pos h0, if_pos h0]
        · rw [if_neg h0, if_neg h0]
          by_cases h1 : w = 1
          · rw [if_pos h1, if_pos h1]
          · rw [if_neg h1, if_neg h1]
      rw [e1, m_bi, m_ldS (by omega) hL, m_ldS (by omega) hL, hx, hy, e2, m_bi, m_tail m_F_eq (fun _ => by rw [m_F_22, c2, m_L_out])]
      exact ⟨_, rfl, hX5, a2.trans (m_L_gf.trans (c1.trans (m_F_gf (by decide))))⟩
end A59
