section A87
variable {p : m_P} {σ : cv_St} {i L : Nat} {xs : Nat → Int32} {k : Int32 → cv_St → Option (Int32 × cv_St)}
theorem l_run (h : v_I p σ) (hi : i + 2 < L) (hL : L ≤ 1536) : ∃ υ, F_L_law_b1803 xs L k (nI i) σ = k (nI i + Int32.ofInt 3) υ ∧ v_I p υ := by
  unfold F_L_law_b1803 F_L_law_b1868 F_L_law_b2188
  rw [m_idx1, m_idx2, m_ldS (by omega) hL, m_ldS (by omega) hL]
  obtain ⟨ch, hch⟩ : ∃ ch, xs (i + 2) = ch := ⟨_, rfl⟩
  rw [hch]
  rcases m_ixc (xs (i + 1)) 8 (by decide) with hx | ⟨f, hf, hx⟩
  · have e1 : F_L_run (xs (i + 1)) ch σ = some (1, σ) := by
      unfold F_L_run F_X8_run
      rw [c_ckF0 hx, m_bx1 (by decide), m_bh1 (by decide) rfl]
    have e2 : F_X9_run (xs (i + 1)) ch σ = some (0, cv_sF σ 17 1) := by
      unfold F_X9_run F_X9_run_b13
      rw [m_isF0 hx, m_bi, if_pos rfl, m_pui, m_F_eq, if_neg (by decide)]
    rw [e1, m_bi, m_ldS (by omega) hL, m_ldS (by omega) hL, hch, e2, m_bi, m_tail m_F_eq (fun z => absurd z (by decide))]
    exact ⟨_, rfl, h.w (m_F_gf (by decide))⟩
  · rw [hx]
    obtain ⟨s, a1, a2, a3⟩ := c_init (σ := σ) (f := f) (ch := ch) 1000 0 σ (by omega) (by omega) m_fr.rfl' (fun x hx => absurd hx (Nat.not_lt_zero _))
    have a3 : F_X4_execute (nI f) ch σ = F_X4_execute_b59 1000 0 (u_c0 s ch f) := a3
    have hcs : m_cc 14 15 16 s p := h.1.2.1.fr a1 (by decide) (by decide) (by decide)
    have hgd : m_gf [63] [] σ (cv_sR σ 63 nI) := m_R_gf (by decide)
    have hmd : m_mc 43 (cv_sR σ 63 nI) p := fun g hg => by rw [hgd.1 43 (by decide)]; exact h.1.2.2.1 g hg
    obtain ⟨σ', τ0, e, br, cut, b1, -, b3, b4, -⟩ := u_full (ch := ch) h.1.1 hf hcs hmd a2 (fun x hx => by rw [m_R_eq])
    have h9 : σ'.2.1 9 = nI e := b3.2.2.2.1.1
    obtain ⟨s3, hs3⟩ : ∃ s3, s3 = cv_sL (cv_sF σ' 2 1) (vp_updL (cv_sF σ' 2 1).2.2.1 0 (nI e).toInt64) := ⟨_, rfl⟩
    have e1 : F_L_run (nI f) ch σ = some (0, s3) := by
      unfold F_L_run F_X8_run
      rw [c_ckF hf, m_bx0, a3, b1, m_bv, m_puz1, m_F_ne (by decide), h9, m_bh0, m_stL, hs3]
    have hg1 : m_gf [38, 39, 40, 41, 42] [2, 8, 9, 10, 11, 12, 13] σ s3 := by
      rw [hs3]
      exact (a1.gf.mono (by decide) (by decide)).trans ((u_c0_fr.gf.mono (by decide) (by decide)).trans ((b4.1.gf.mono (by decide) (by decide)).trans ((m_F_gf (by decide)).trans m_L_gf)))
    obtain ⟨t, c1, c2, c3⟩ := r_init (σ := cv_sF s3 17 0) (f := f) (ch := ch) 1000 0 (cv_sF s3 17 0) (by omega) (by omega) m_fr.rfl' (fun x hx => absurd hx (Nat.not_lt_zero _))
    have c3 : F_X9_run_b27 1000 (nI f) ch 0 (cv_sF s3 17 0) = _ := c3
    have hm3 : m_mc 43 t p := fun g hg => by rw [c1.1 43 (by decide), m_F_1, hg1.1 43 (by decide)]; exact h.1.2.2.1 g hg
    obtain ⟨σ'', τ', e', br', cut', d1, d2, d3, d4, d5⟩ := u_full (ch := ch) h.1.1 hf hcs hm3 a2 c2
    have hσ : σ'' = σ' := by
      rw [b1] at d1
      injection d1 with d1
      exact d1.symm
    rw [hσ] at d3
    have hee : nI e' = nI e := by rw [← h9]; exact d3.2.2.2.1.1.symm
    have h25 : τ'.2.1 25 = nI e := by rw [← hee]; exact d3.2.2.2.1.2.1
    have e2 : F_X9_run (nI f) ch s3 = some (nI e, cv_sF τ' 23 1) := by
      unfold F_X9_run F_X9_run_b13
      rw [m_isF hf, m_bi, if_neg (by decide), m_pui, m_F_eq, if_pos (by decide), c3, d2, m_bv, m_F_ne (by decide), h25]
    have hg2 : m_gf [63, 64, 65] [17, 23, 24, 25, 26, 27, 28] s3 (cv_sF τ' 23 1) := (m_F_gf (by decide)).trans ((c1.gf.mono (by decide) (by decide)).trans ((u_r0_fr.gf.mono (by decide) (by decide)).trans ((d5.1.gf.mono (by decide) (by decide)).trans (m_F_gf (by decide)))))
    have h17 : (cv_sF τ' 23 1).2.1 17 = 0 := by rw [m_F_ne (by decide), d5.1.2.1 17 (by decide), u_r0_fr.2.1 17 (by decide), c1.2.1 17 (by decide), m_F_eq]
    have hout : (cv_sF τ' 23 1).2.2.1 0 = (nI e).toInt64 := by rw [m_F_22, d5.1.2.2, u_r0_fr.2.2, c1.2.2, m_F_22, hs3, m_L_out]
    rw [e1, m_bi, m_ldS (by omega) hL, m_ldS (by omega) hL, hx, hch, e2, m_bi, m_tail h17 (fun _ => hout)]
    have hgA : m_gf [38, 39, 40, 41, 42, 63, 64, 65] [2, 8, 9, 10, 11, 12, 13, 17, 23, 24, 25, 26, 27, 28] σ (cv_sF τ' 23 1) := (hg1.mono (by decide) (by decide)).trans (hg2.mono (by decide) (by decide))
    refine ⟨_, rfl, h.1.gf hgA (by decide) (by decide), h.2.1.gf hgA (by decide) (by decide), ?_, h.2.2.2.1.gf hgA (by decide) (by decide), h.2.2.2.2.1.gf hgA (by decide), ⟨true, ?_, m_F_eq, fun _ => ⟨cut', ?_, ?_, fun _ r hr => ?_⟩⟩⟩
    · rw [hgA.2 5 (by decide), hgA.2 16 (by decide)]; exact h.2.2.1
    · rw [hg2.2 2 (by decide), hs3]; show (cv_sF σ' 2 1).2.1 2 = _; rw [m_F_eq]; rfl
    · rw [hg2.2 13 (by decide), hs3]; show (cv_sF σ' 2 1).2.1 13 = _; rw [m_F_ne (by decide)]; exact d3.2.2.2.2.2.2.2.1
    · rw [m_F_ne (by decide)]; exact d3.2.2.2.2.2.2.2.2
    · rw [hg2.1 38 (by decide), hs3, m_F_1]; exact d3.2.2.1 r hr
end A87
