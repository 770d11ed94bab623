theorem m_inl {x : Int32} {n : Nat} (hx : x < 0 ∨ nI n ≤ x) (hn : n < 2147483648) : ¬ (0 ≤ x ∧ x ≤ nI n - 1) := by
  by_cases h0 : n = 0
  · rw [h0]
    intro q
    have h1 := Int32.le_iff_toInt_le.mp q.1
    have h2 := Int32.le_iff_toInt_le.mp q.2
    rw [show (nI 0 - 1 : Int32).toInt = -1 by decide] at h2
    rw [show (0 : Int32).toInt = 0 by decide] at h1
    omega
  · rw [show (1 : Int32) = nI 1 from rfl, pk_sub (by omega)]
    exact m_out hx (by omega) (by omega)
section A54
variable {p : m_P} {σ τ : cv_St} {xs : Nat → Int32} {L i j : Nat} {k : Int32 → cv_St → Option (Int32 × cv_St)} {q : Nat × Nat}
theorem r_isS (h : m_X p σ) : ∃ s, m_gf m_QA m_QS σ s ∧ s.2.2 = σ.2.2 ∧ m_X p s ∧ m_MA p s ∧ (∀ x, (x < 0 ∨ nI (m_sF p 8).length ≤ x) → F_X9_isSite x σ = some (0, s)) ∧ ∀ j, j < (m_sF p 8).length → F_X9_isSite (nI j) σ = some (1, s) := by
  have hlen := m_sF_len h.1 8 (Nat.le_refl _)
  obtain ⟨s, c1, c2, c3, c4, c5, c6⟩ := r_fx h
  refine ⟨s, c2, c3, c5, c6, fun x hx => ?_, fun j hj => ?_⟩
  · unfold F_X9_isSite
    rw [c1, m_bv, c6.2.2.1.1, show (F_X9_in x.toInt64 0 (nI (m_sF p 8).length - 1).toInt64 s) = some (m_b (decide (0 ≤ x ∧ x ≤ nI (m_sF p 8).length - 1)), s) from m_in (lo := 0), decide_eq_false (m_inl hx (by omega))]
    rfl
  · unfold F_X9_isSite
    rw [c1, m_bv, c6.2.2.1.1, show (F_X9_in (nI j).toInt64 0 (nI (m_sF p 8).length - 1).toInt64 s) = some (m_b (decide (0 ≤ nI j ∧ nI j ≤ nI (m_sF p 8).length - 1)), s) from m_in (lo := 0), show nI (m_sF p 8).length - 1 = nI ((m_sF p 8).length - 1) by rw [show (1 : Int32) = nI 1 from rfl, pk_sub (by omega)], decide_eq_true (m_inn hj (by omega))]
    rfl
theorem c_ckS0 (h : m_CA p σ) {x : Int32} (hx : x < 0 ∨ nI (m_sF p 8).length ≤ x) : F_X8_checkSite x σ = some (1, 0, σ) := by
  unfold F_X8_checkSite
  rw [h.2.2.2.2.2.2.1.1]
  by_cases h0 : x < 0
  · rw [if_pos h0]
  · rw [if_neg h0, if_neg (fun z => by
      rcases hx with h | h
      · exact h0 h
      · exact absurd z (Int32.not_lt.mpr h))]
theorem c_ckS (ho : m_ok p) (h : m_CA p σ) (hj : j < (m_sF p 8).length) : F_X8_checkSite (nI j) σ = some (0, 0, σ) := by
  have hlen := m_sF_len ho 8 (Nat.le_refl _)
  unfold F_X8_checkSite
  rw [h.2.2.2.2.2.2.1.1, if_neg (nI_pos (by omega)), m_lti (by omega) (by omega), if_pos hj]
theorem m_site (hj : j < (m_sF p 8).length) : ∃ q, (m_sF p 8)[j]? = some q ∧ m_isS p q := by
  refine ⟨(m_sF p 8)[j], List.getElem?_eq_getElem hj, ?_⟩
  exact (m_sF_mem 8).mp (List.getElem_mem hj)
def m_vM (p : m_P) (q : Nat × Nat) : Int32 := ((1 <<< (nI (m_ne p (m_fa p q.1 q.2) (m_cn p (m_fa p q.1 q.2))) &&& 31)) - 1) &&& (m_pa p q.1 q.2 ^^^ (-1))
def m_vB (p : m_P) (σ : cv_St) (q : Nat × Nat) : Int32 := σ.1 29 (q.1 * 15 + m_nd p q.1 (m_nx p q.1 q.2 0)) ||| σ.1 29 (q.1 * 15 + m_nd p q.1 (m_nx p q.1 q.2 1))
def m_vL (p : m_P) (σ : cv_St) (q : Nat × Nat) : Int32 := (m_vB p σ q &&& m_cb (σ.1 23) (m_fa p q.1 q.2)) &&& (σ.1 27 (m_fa p q.1 q.2) ^^^ (-1))
theorem m_jl (ho : m_ok p) (hq : (m_sF p 8)[j]? = some q) : j < 112 ∧ j < (m_sF p 8).length := by
  have hlen := m_sF_len ho 8 (Nat.le_refl _)
  have : j < (m_sF p 8).length := by
    apply Classical.byContradiction
    intro hn
    rw [List.getElem?_eq_none (by omega)] at hq
    cases hq
  omega
theorem m_fq (ho : m_ok p) (h : m_isS p q) : m_fa p q.1 q.2 < 8 := m_fa8 ho h.1 h.2.1 (by have := h.2.2.2; omega)
theorem c_vM (ho : m_ok p) (h : m_CA p σ) (hq : (m_sF p 8)[j]? = some q) (hs : m_isS p q) : F_X5_missing (nI j) σ = some (m_vM p q, σ) := by
  obtain ⟨e1, e2, e3, e4⟩ := h.2.2.2.2.2.2.1.2 j q hq
  have hj := m_jl ho hq
  have ha := m_fq ho hs
  unfold F_X5_missing
  rw [m_ld hj.1 (by decide), e3, m_ld ha (by decide), h.2.2.2.2.2.2.2 _ ha, m_ld hj.1 (by decide), e4]
  rfl
theorem c_vB (hc : m_cc 14 15 16 σ p) (ho : m_ok p) (hs : m_isS p q) : F_X3_behind (nI q.1) (nI q.2) σ = some (m_vB p σ q, σ) := by
  rw [c_behind hc ho hs.1 hs.2.1]
  rfl
theorem c_vL (hc : m_cc 14 15 16 σ p) (ho : m_ok p) (h : m_CA p σ) (hq : (m_sF p 8)[j]? = some q) (hs : m_isS p q) : F_X8_lostAt (nI j) σ = some (m_vL p σ q, σ) := by
  obtain ⟨e1, e2, e3, e4⟩ := h.2.2.2.2.2.2.1.2 j q hq
  have hj := m_jl ho hq
  have ha := m_fq ho hs
  unfold F_X8_lostAt
  rw [m_ld hj.1 (by decide), e3, m_ld hj.1 (by decide), e1, m_ld hj.1 (by decide), e2, c_vB hc ho hs, m_bi, c_clob ha, m_bi, m_ld ha (by decide)]
  rfl
theorem c_vP (ho : m_ok p) (h : m_CA p σ) (hq : (m_sF p 8)[j]? = some q) : σ.1 35 j = m_pa p q.1 q.2 := (h.2.2.2.2.2.2.1.2 j q hq).2.2.2
theorem r_vC (hc : m_mc 43 σ p) (ho : m_ok p) (h : m_MA p σ) (hq : (m_sF p 8)[j]? = some q) (hs : m_isS p q) : F_X9_calleeOf (nI j) σ = some (nI (m_fa p q.1 q.2), σ) := by
  obtain ⟨e1, e2⟩ := h.2.2.1.2 j q hq
  have hj := m_jl ho hq
  unfold F_X9_calleeOf
  rw [m_ld hj.1 (by decide), e1, m_ld hj.1 (by decide), e2, r_first hc ho hs.1 hs.2.1, m_bi]
theorem r_vP (ho : m_ok p) (h : m_MA p σ) (hq : (m_sF p 8)[j]? = some q) (hs : m_isS p q) : F_X9_passedAt (nI j) σ = some (m_pa p q.1 q.2, σ) := by
  obtain ⟨e1, e2⟩ := h.2.2.1.2 j q hq
  have hj := m_jl ho hq
  have h1 := hs.1
  have h2 := hs.2.1
  have h14 := m_cn14 ho hs.1
  unfold F_X9_passedAt
  rw [m_ld hj.1 (by decide), e1, m_ld hj.1 (by decide), e2, show (14 : Int32) = nI 14 from rfl, m_mul, m_add, m_ld (by omega) (by decide), h.2.1 q.1 hs.1 q.2 hs.2.1 hs.2.2.1]
theorem r_vM (hc : m_mc 43 σ p) (ho : m_ok p) (h : m_MA p σ) (hq : (m_sF p 8)[j]? = some q) (hs : m_isS p q) : F_X9_missingAt (nI j) σ = some (m_vM p q, σ) := by
  have ha := m_fq ho hs
  unfold F_X9_missingAt
  rw [r_vC hc ho h hq hs, m_bi, r_neededBy hc ho ha (h.1 _ ha), m_bi, r_vP ho h hq hs, m_bi]
  rfl
theorem m_vB_tie (ho : m_ok p) (h : m_CA p σ) (g : m_MA p τ) (hs : m_isS p q) : m_vB p σ q = τ.1 60 (15 * q.1 + m_nx p q.1 q.2 0) ||| τ.1 60 (15 * q.1 + m_nx p q.1 q.2 1) := by
  unfold m_vB
  rw [(m_tie ho h g).2.2.2 q.1 hs.1 _ (m_nx_le _ _ _ _) (m_rh_nx hs.2.1 hs.2.2.1 (by omega)), (m_tie ho h g).2.2.2 q.1 hs.1 _ (m_nx_le _ _ _ _) (m_rh_nx hs.2.1 hs.2.2.1 (by omega))]
theorem r_vL (hc : m_mc 43 τ p) (ho : m_ok p) (g : m_CA p σ) (h : m_MA p τ) (hq : (m_sF p 8)[j]? = some q) (hs : m_isS p q) : F_X9_lostAt (nI j) τ = some (m_vL p σ q, τ) := by
  obtain ⟨e1, e2⟩ := h.2.2.1.2 j q hq
  have hj := m_jl ho hq
  have ha := m_fq ho hs
  have t := m_tie ho g h
  unfold F_X9_lostAt
  rw [r_vC hc ho h hq hs, m_bi, m_ld hj.1 (by decide), e1, m_ld hj.1 (by decide), e2, r_liveBehind hc ho hs.1 hs.2.1, m_bi, r_clob ha, m_bi, m_ld ha (by decide)]
  unfold m_vL m_cb
  rw [m_vB_tie ho g h hs, t.1 _ ha, t.2.1 _ ha]
theorem l_passedSlots (h : m_X p σ) (hi : i + 2 < L) (hL : L ≤ 1536) : ∃ υ, F_L_law_b1398 xs L k (nI i) σ = k (nI i + Int32.ofInt 3) υ ∧ m_X p υ ∧ m_gf m_QA m_QS σ υ := by
  have hlen := m_sF_len h.1 8 (Nat.le_refl _)
  unfold F_L_law_b1398 F_L_law_b1451 F_L_law_b2188
  rw [m_idx1, m_ldS (by omega) hL]
  obtain ⟨s1, a1, a2, a3, a4, a5, a6⟩ := c_fx h
  rcases m_ixc (xs (i + 1)) (m_sF p 8).length (by omega) with hx | ⟨j, hj, hx⟩
  · obtain ⟨s4, c1, c2, c3, c4, c5, c6⟩ := r_isS a5
    have e1 : F_L_passedSlots (xs (i + 1)) σ = some (1, s1) := by
      unfold F_L_passedSlots F_X8_passedSlots
      rw [a1, m_bv, c_ckS0 a6 hx, m_bx1 (by decide), m_bh1 (by decide) rfl]
    have e2 : F_X9_passedSlots (xs (i + 1)) s1 = some (0, cv_sF s4 17 1) := by
      unfold F_X9_passedSlots F_X9_passedSlots_b14
      rw [c5 _ hx, m_bi, if_pos rfl, m_pui, m_F_eq, if_neg (by decide)]
    rw [e1, m_bi, m_ldS (by omega) hL, e2, m_bi, m_tail m_F_eq (fun z => absurd z (by decide))]
    exact ⟨_, rfl, c3.gf (m_F_gf (as := []) (ss := [17]) (by decide)) (by decide) (by decide), a2.trans (c1.trans (m_F_gf (by decide)))⟩
  · rw [hx]
    obtain ⟨q, hq, hs⟩ := m_site hj
    have hj2 := m_jl h.1 hq
    have e1 : F_L_passedSlots (nI j) σ = some (0, cv_sL s1 (vp_updL s1.2.2.1 0 (m_pa p q.1 q.2).toInt64)) := by
      unfold F_L_passedSlots F_X8_passedSlots
      rw [a1, m_bv, c_ckS h.1 a6 hj, m_bx0, m_ld hj2.1 (by decide), c_vP h.1 a6 hq, m_bh0, m_stL]
    obtain ⟨s4, c1, c2, c3, c4, c5, c6⟩ := r_isS (a5.gf (m_L_gf (as := []) (ss := []) (g := vp_updL s1.2.2.1 0 (m_pa p q.1 q.2).toInt64)) (by decide) (by decide))
    have hX5 : m_X p (cv_sF s4 17 0) := c3.gf (m_F_gf (as := []) (ss := [17]) (by decide)) (by decide) (by decide)
    have hM5 : m_MA p (cv_sF s4 17 0) := c4.gf (m_F_gf (as := []) (ss := [17]) (by decide)) (by decide) (by decide)
    have e2 : F_X9_passedSlots (nI j) (cv_sL s1 (vp_updL s1.2.2.1 0 (m_pa p q.1 q.2).toInt64)) = some (m_pa p q.1 q.2, cv_sF s4 17 0) := by
      unfold F_X9_passedSlots F_X9_passedSlots_b14
      rw [c6 _ hj, m_bi, if_neg (by decide), m_pui, m_F_eq, if_pos (by decide), r_vP h.1 hM5 hq hs, m_bi]
    rw [e1, m_bi, m_ldS (by omega) hL, hx, e2, m_bi, m_tail m_F_eq (fun _ => by rw [m_F_22, c2, m_L_out])]
    exact ⟨_, rfl, hX5, a2.trans (m_L_gf.trans (c1.trans (m_F_gf (by decide))))⟩
theorem l_missingSlots (h : m_X p σ) (hi : i + 2 < L) (hL : L ≤ 1536) : ∃ υ, F_L_law_b1454 xs L k (nI i) σ = k (nI i + Int32.ofInt 3) υ ∧ m_X p υ ∧ m_gf m_QA m_QS σ υ := by
  have hlen := m_sF_len h.1 8 (Nat.le_refl _)
  unfold F_L_law_b1454 F_L_law_b1507 F_L_law_b2188
  rw [m_idx1, m_ldS (by omega) hL]
  obtain ⟨s1, a1, a2, a3, a4, a5, a6⟩ := c_fx h
  rcases m_ixc (xs (i + 1)) (m_sF p 8).length (by omega) with hx | ⟨j, hj, hx⟩
  · obtain ⟨s4, c1, c2, c3, c4, c5, c6⟩ := r_isS a5
    have e1 : F_L_missingSlots (xs (i + 1)) σ = some (1, s1) := by
      unfold F_L_missingSlots F_X8_missingSlots
      rw [a1, m_bv, c_ckS0 a6 hx, m_bx1 (by decide), m_bh1 (by decide) rfl]
    have e2 : F_X9_missingSlots (xs (i + 1)) s1 = some (0, cv_sF s4 17 1) := by
      unfold F_X9_missingSlots F_X9_missingSlots_b14
      rw [c5 _ hx, m_bi, if_pos rfl, m_pui, m_F_eq, if_neg (by decide)]
    rw [e1, m_bi, m_ldS (by omega) hL, e2, m_bi, m_tail m_F_eq (fun z => absurd z (by decide))]
    exact ⟨_, rfl, c3.gf (m_F_gf (as := []) (ss := [17]) (by decide)) (by decide) (by decide), a2.trans (c1.trans (m_F_gf (by decide)))⟩
  · rw [hx]
    obtain ⟨q, hq, hs⟩ := m_site hj
    have hj2 := m_jl h.1 hq
    have e1 : F_L_missingSlots (nI j) σ = some (0, cv_sL s1 (vp_updL s1.2.2.1 0 (m_vM p q).toInt64)) := by
      unfold F_L_missingSlots F_X8_missingSlots
      rw [a1, m_bv, c_ckS h.1 a6 hj, m_bx0, c_vM h.1 a6 hq hs, m_bi, m_bh0, m_stL]
    obtain ⟨s4, c1, c2, c3, c4, c5, c6⟩ := r_isS (a5.gf (m_L_gf (as := []) (ss := []) (g := vp_updL s1.2.2.1 0 (m_vM p q).toInt64)) (by decide) (by decide))
    have hX5 : m_X p (cv_sF s4 17 0) := c3.gf (m_F_gf (as := []) (ss := [17]) (by decide)) (by decide) (by decide)
    have hM5 : m_MA p (cv_sF s4 17 0) := c4.gf (m_F_gf (as := []) (ss := [17]) (by decide)) (by decide) (by decide)
    have e2 : F_X9_missingSlots (nI j) (cv_sL s1 (vp_updL s1.2.2.1 0 (m_vM p q).toInt64)) = some (m_vM p q, cv_sF s4 17 0) := by
      unfold F_X9_missingSlots F_X9_missingSlots_b14
      rw [c6 _ hj, m_bi, if_neg (by decide), m_pui, m_F_eq, if_pos (by decide), r_vM hX5.2.2.1 h.1 hM5 hq hs, m_bi]
    rw [e1, m_bi, m_ldS (by omega) hL, hx, e2, m_bi, m_tail m_F_eq (fun _ => by rw [m_F_22, c2, m_L_out])]
    exact ⟨_, rfl, hX5, a2.trans (m_L_gf.trans (c1.trans (m_F_gf (by decide))))⟩
theorem l_lostRegisters (h : m_X p σ) (hi : i + 2 < L) (hL : L ≤ 1536) : ∃ υ, F_L_law_b1510 xs L k (nI i) σ = k (nI i + Int32.ofInt 3) υ ∧ m_X p υ ∧ m_gf m_QA m_QS σ υ := by
  have hlen := m_sF_len h.1 8 (Nat.le_refl _)
  unfold F_L_law_b1510 F_L_law_b1563 F_L_law_b2188
  rw [m_idx1, m_ldS (by omega) hL]
  obtain ⟨s1, a1, a2, a3, a4, a5, a6⟩ := c_fx h
  rcases m_ixc (xs (i + 1)) (m_sF p 8).length (by omega) with hx | ⟨j, hj, hx⟩
  · obtain ⟨s4, c1, c2, c3, c4, c5, c6⟩ := r_isS a5
    have e1 : F_L_lostRegisters (xs (i + 1)) σ = some (1, s1) := by
      unfold F_L_lostRegisters F_X8_lostRegisters
      rw [a1, m_bv, c_ckS0 a6 hx, m_bx1 (by decide), m_bh1 (by decide) rfl]
    have e2 : F_X9_lostRegisters (xs (i + 1)) s1 = some (0, cv_sF s4 17 1) := by
      unfold F_X9_lostRegisters F_X9_lostRegisters_b14
      rw [c5 _ hx, m_bi, if_pos rfl, m_pui, m_F_eq, if_neg (by decide)]
    rw [e1, m_bi, m_ldS (by omega) hL, e2, m_bi, m_tail m_F_eq (fun z => absurd z (by decide))]
    exact ⟨_, rfl, c3.gf (m_F_gf (as := []) (ss := [17]) (by decide)) (by decide) (by decide), a2.trans (c1.trans (m_F_gf (by decide)))⟩
  · rw [hx]
    obtain ⟨q, hq, hs⟩ := m_site hj
    have hj2 := m_jl h.1 hq
    have e1 : F_L_lostRegisters (nI j) σ = some (0, cv_sL s1 (vp_updL s1.2.2.1 0 (m_vL p s1 q).toInt64)) := by
      unfold F_L_lostRegisters F_X8_lostRegisters
      rw [a1, m_bv, c_ckS h.1 a6 hj, m_bx0, c_vL a5.2.1 h.1 a6 hq hs, m_bi, m_bh0, m_stL]
    obtain ⟨s4, c1, c2, c3, c4, c5, c6⟩ := r_isS (a5.gf (m_L_gf (as := []) (ss := []) (g := vp_updL s1.2.2.1 0 (m_vL p s1 q).toInt64)) (by decide) (by decide))
    have hX5 : m_X p (cv_sF s4 17 0) := c3.gf (m_F_gf (as := []) (ss := [17]) (by decide)) (by decide) (by decide)
    have hM5 : m_MA p (cv_sF s4 17 0) := c4.gf (m_F_gf (as := []) (ss := [17]) (by decide)) (by decide) (by decide)
    have e2 : F_X9_lostRegisters (nI j) (cv_sL s1 (vp_updL s1.2.2.1 0 (m_vL p s1 q).toInt64)) = some (m_vL p s1 q, cv_sF s4 17 0) := by
      unfold F_X9_lostRegisters F_X9_lostRegisters_b14
      rw [c6 _ hj, m_bi, if_neg (by decide), m_pui, m_F_eq, if_pos (by decide), r_vL hX5.2.2.1 h.1 a6 hM5 hq hs, m_bi]
    rw [e1, m_bi, m_ldS (by omega) hL, hx, e2, m_bi, m_tail m_F_eq (fun _ => by rw [m_F_22, c2, m_L_out])]
    exact ⟨_, rfl, hX5, a2.trans (m_L_gf.trans (c1.trans (m_F_gf (by decide))))⟩
theorem l_liveBehind (h : m_X p σ) (hi : i + 2 < L) (hL : L ≤ 1536) : ∃ υ, F_L_law_b1566 xs L k (nI i) σ = k (nI i + Int32.ofInt 3) υ ∧ m_X p υ ∧ m_gf m_QA m_QS σ υ := by
  have hlen := m_sF_len h.1 8 (Nat.le_refl _)
  unfold F_L_law_b1566 F_L_law_b1619 F_L_law_b2188
  rw [m_idx1, m_ldS (by omega) hL]
  obtain ⟨s1, a1, a2, a3, a4, a5, a6⟩ := c_fx h
  rcases m_ixc (xs (i + 1)) (m_sF p 8).length (by omega) with hx | ⟨j, hj, hx⟩
  · obtain ⟨s4, c1, c2, c3, c4, c5, c6⟩ := r_isS a5
    have e1 : F_L_liveBehind (xs (i + 1)) σ = some (1, s1) := by
      unfold F_L_liveBehind F_X8_liveBehind
      rw [a1, m_bv, c_ckS0 a6 hx, m_bx1 (by decide), m_bh1 (by decide) rfl]
    have e2 : F_X9_liveBehind_ (xs (i + 1)) s1 = some (0, cv_sF s4 17 1) := by
      unfold F_X9_liveBehind_ F_X9_liveBehind__b14
      rw [c5 _ hx, m_bi, if_pos rfl, m_pui, m_F_eq, if_neg (by decide)]
    rw [e1, m_bi, m_ldS (by omega) hL, e2, m_bi, m_tail m_F_eq (fun z => absurd z (by decide))]
    exact ⟨_, rfl, c3.gf (m_F_gf (as := []) (ss := [17]) (by decide)) (by decide) (by decide), a2.trans (c1.trans (m_F_gf (by decide)))⟩
  · rw [hx]
    obtain ⟨q, hq, hs⟩ := m_site hj
    have hj2 := m_jl h.1 hq
    have e1 : F_L_liveBehind (nI j) σ = some (0, cv_sL s1 (vp_updL s1.2.2.1 0 (m_vB p s1 q).toInt64)) := by
      unfold F_L_liveBehind F_X8_liveBehind
      rw [a1, m_bv, c_ckS h.1 a6 hj, m_bx0, m_ld hj2.1 (by decide), (a6.2.2.2.2.2.2.1.2 j q hq).1, m_ld hj2.1 (by decide), (a6.2.2.2.2.2.2.1.2 j q hq).2.1, c_vB a5.2.1 h.1 hs, m_bi, m_bh0, m_stL]
    obtain ⟨s4, c1, c2, c3, c4, c5, c6⟩ := r_isS (a5.gf (m_L_gf (as := []) (ss := []) (g := vp_updL s1.2.2.1 0 (m_vB p s1 q).toInt64)) (by decide) (by decide))
    have hX5 : m_X p (cv_sF s4 17 0) := c3.gf (m_F_gf (as := []) (ss := [17]) (by decide)) (by decide) (by decide)
    have hM5 : m_MA p (cv_sF s4 17 0) := c4.gf (m_F_gf (as := []) (ss := [17]) (by decide)) (by decide) (by decide)
    have e2 : F_X9_liveBehind_ (nI j) (cv_sL s1 (vp_updL s1.2.2.1 0 (m_vB p s1 q).toInt64)) = some (m_vB p s1 q, cv_sF s4 17 0) := by
      unfold F_X9_liveBehind_ F_X9_liveBehind__b14
      rw [c6 _ hj, m_bi, if_neg (by decide), m_pui, m_F_eq, if_pos (by decide), m_ld hj2.1 (by decide), (hM5.2.2.1.2 j q hq).1, m_ld hj2.1 (by decide), (hM5.2.2.1.2 j q hq).2, r_liveBehind hX5.2.2.1 h.1 hs.1 hs.2.1, m_bi, m_vB_tie h.1 a6 hM5 hs]
    rw [e1, m_bi, m_ldS (by omega) hL, hx, e2, m_bi, m_tail m_F_eq (fun _ => by rw [m_F_22, c2, m_L_out])]
    exact ⟨_, rfl, hX5, a2.trans (m_L_gf.trans (c1.trans (m_F_gf (by decide))))⟩
end A54
