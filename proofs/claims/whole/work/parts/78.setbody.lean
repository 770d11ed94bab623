section A78
variable {p : m_P} {σ τ υ : cv_St} {acc : t_L} {xs : Nat → Int32} {L i j f g : Nat} {k : Int32 → cv_St → Option (Int32 × cv_St)}
theorem r_b128s {l1 : Int32} : F_X9_setBody_b128 l1 1 υ = some (0, cv_sF (cv_sF (cv_sF (cv_sF υ 19 1) 15 0) 16 (υ.2.1 18)) 17 2) := by
  unfold F_X9_setBody_b128 F_X9_setBody_b152 F_X9_setBody_b181
  rw [m_puz1, m_pui, m_F_ne (by decide), m_F_eq, if_neg (by decide), m_F_ne (by decide), m_F_ne (by decide), m_pui, m_F_ne (by decide), m_F_ne (by decide), m_F_eq, if_neg (by decide), m_pui, m_F_eq, if_neg (by decide)]
theorem r_b128n {l1 : Int32} (h20 : υ.2.1 20 = nI j) (hj : j < 1000) : F_X9_setBody_b128 l1 0 υ = if j ≤ 14 then cv_st (cv_sF (cv_sF (cv_sF (cv_sF υ 19 0) 15 0) 16 (-1)) 17 0) 43 344 l1 ((cv_sF (cv_sF (cv_sF (cv_sF υ 19 0) 15 0) 16 (-1)) 17 0).2.1 20) (fun s11 => F_X9_setBody_b205 1000 l1 0 s11) else some (0, cv_sF (cv_sF (cv_sF (cv_sF υ 19 0) 15 0) 16 (-1)) 17 3) := by
  unfold F_X9_setBody_b128 F_X9_setBody_b152 F_X9_setBody_b181
  rw [m_puz0, m_pui, m_F_ne (by decide), m_F_eq, if_pos rfl, m_pui, m_F_ne (by decide), m_F_ne (by decide), m_F_eq, if_pos rfl, m_F_ne (by decide), m_F_ne (by decide), m_F_ne (by decide), h20, show (14 : Int32) = nI 14 from rfl, m_lei (by omega) (by omega)]
  by_cases h14 : j ≤ 14
  · rw [if_pos h14, if_pos h14, m_pui, m_F_eq, if_pos (by decide)]
  · rw [if_neg h14, if_neg h14, m_pui, m_F_eq, if_neg (by decide)]
theorem v_I.t (h : v_I p σ) (g : m_gf [12, 13, 46, 47, 48] [3, 4, 5, 15, 16, 17, 18, 19, 20] σ τ) (h3 : τ.2.1 3 = 0) (h15 : τ.2.1 15 = 0) (h5 : τ.2.1 5 = τ.2.1 16) : v_I p τ :=
  ⟨h.1.gf g (by decide) (by decide), ⟨fun _ => 0, 0, ⟨by omega, h3, fun j hj => absurd hj (Nat.not_lt_zero _)⟩, ⟨by omega, h15, fun j hj => absurd hj (Nat.not_lt_zero _)⟩⟩, h5, h.2.2.2.1.gf g (by decide) (by decide), h.2.2.2.2.1.gf g (by decide), h.2.2.2.2.2.gf g (by decide) (by decide)⟩
theorem v_I.n (ho : m_ok p) (hc : m_cc 14 15 16 τ p) (hm : m_mc 43 τ p) (h1 : τ.2.1 1 = 1) (h22 : τ.2.1 22 = 0) (h2 : τ.2.1 2 = 0) (h23 : τ.2.1 23 = 0) (T : v_T τ) (F : τ.2.1 5 = τ.2.1 16) (S : v_S τ) (A : v_A τ) : v_I p τ :=
  ⟨⟨ho, hc, hm, ⟨true, h1, fun z => by cases z⟩, ⟨false, h22, fun z => by cases z⟩⟩, T, F, S, A, ⟨false, h2, h23, fun z => by cases z⟩⟩
theorem v_0 {τ : cv_St} (h3 : τ.2.1 3 = 0) (h15 : τ.2.1 15 = 0) : v_T τ := ⟨fun _ => 0, 0, ⟨by omega, h3, fun j hj => absurd hj (Nat.not_lt_zero _)⟩, ⟨by omega, h15, fun j hj => absurd hj (Nat.not_lt_zero _)⟩⟩
theorem v_nm1 {y : Nat} (h : y ≤ 60) : ¬ nI y = -1 := fun z => by
  have h1 : (nI y).toInt = (-1 : Int32).toInt := by rw [z]
  rw [nI_toInt (by omega), show (-1 : Int32).toInt = -1 by decide] at h1
  omega
theorem l_setBody (h : v_I p σ) (hi : i + 2 < L) (hL : L ≤ 1536) : ∃ p' υ, F_L_law_b264 xs L k (nI i) σ = k (nI i + Int32.ofInt 3) υ ∧ v_I p' υ := by
  unfold F_L_law_b264 F_L_law_b317 F_L_law_b2188
  rw [m_idx1, m_ldS (by omega) hL]
  rcases m_ixc (xs (i + 1)) 8 (by decide) with hx | ⟨f, hf, hx⟩
  · have e1 : F_L_setBody (xs (i + 1)) σ = some (1, σ) := by
      unfold F_L_setBody F_X8_setBody
      rw [c_ckF0 hx, m_bx1 (by decide), m_bh1 (by decide) rfl]
    have e2 : F_X9_setBody (xs (i + 1)) σ = some (0, cv_sF σ 17 1) := by
      unfold F_X9_setBody F_X9_setBody_b13
      rw [m_isF0 hx, m_bi, if_pos rfl, m_pui, m_F_eq, if_neg (by decide)]
    rw [e1, m_bi, m_ldS (by omega) hL, e2, m_bi, m_tail m_F_eq (fun z => absurd z (by decide))]
    exact ⟨p, _, rfl, h.w (m_F_gf (by decide))⟩
  · obtain ⟨c, n, hT, hU⟩ := h.2.1
    have hn60 := hT.1
    obtain ⟨s1, a1, a2, a3, a4, a5⟩ := c_read hT
    obtain ⟨k1, k2⟩ := t_res_ok (c := c) hn60
    -- the reference's reading, from any state that holds the same text
    have rd : ∀ s : cv_St, t_U c n s → ∃ u, F_X9_setBody (nI f) s = F_X9_setBody_b128 (nI f) (m_b (t_res c n).1.isSome) u ∧ m_fr [46, 47, 48] [17, 18, 19, 20] s u ∧ (∀ y, (t_res c n).1 = some y → u.2.1 18 = nI y) ∧ ((t_res c n).1 = none → t_M u (t_res c n).2) := by
      intro s hs
      have hfr : m_fr [46, 47, 48] [17, 18, 19, 20] s (cv_sF (cv_sF (cv_sF (cv_sF s 17 0) 18 0) 19 0) 20 0) := (((m_fr.F (by decide)).trans (m_fr.F (by decide))).trans (m_fr.F (by decide))).trans (m_fr.F (by decide))
      obtain ⟨u, u1, u2, u3, u4⟩ := r_readsT (l1 := nI f) (τ := cv_sF (cv_sF (cv_sF (cv_sF s 17 0) 18 0) 19 0) 20 0) (hs.fr hfr (by decide) (by decide)) (by rw [m_F_ne (by decide), m_F_ne (by decide), m_F_eq]) (by rw [m_F_ne (by decide), m_F_eq]) m_F_eq
      refine ⟨u, ?_, hfr.trans (u2.mono (by decide) (by decide)), u3, u4⟩
      unfold F_X9_setBody F_X9_setBody_b13
      rw [m_isF hf, m_bi, if_neg (by decide), m_pui, m_F_eq, if_pos (by decide), m_pui, m_puz0, m_pui]
      exact u1
    rw [hx]
    cases hr : (t_res c n).1 with
    | some y =>
      have hy := k1 y hr
      rw [hr] at a4
      have a4 : s1.2.1 5 = nI y := a4
      have e1 : F_L_setBody (nI f) σ = some (2, s1) := by
        unfold F_L_setBody F_X8_setBody
        rw [c_ckF hf, m_bx0, a1, m_bv, a4, if_neg (v_nm1 hy), m_bh1 (by decide) rfl]
      obtain ⟨u, u1, u2, u3, u4⟩ := rd s1 (hU.fr a2 (by decide) (by decide))
      rw [hr, show m_b (some y).isSome = 1 from rfl, r_b128s, u3 y hr] at u1
      rw [e1, m_bi, m_ldS (by omega) hL, hx, u1, m_bi, m_tail m_F_eq (fun z => absurd z (by decide))]
      refine ⟨p, _, rfl, h.t ?_ ?_ ?_ ?_⟩
      · exact (a2.gf.mono (by decide) (by decide)).trans ((u2.gf.mono (by decide) (by decide)).trans ((m_F_gf (by decide)).trans ((m_F_gf (by decide)).trans ((m_F_gf (by decide)).trans (m_F_gf (by decide))))))
      · rw [m_F_ne (by decide), m_F_ne (by decide), m_F_ne (by decide), m_F_ne (by decide), u2.2.1 3 (by decide)]; exact a3
      · rw [m_F_ne (by decide), m_F_ne (by decide), m_F_eq]
      · rw [m_F_ne (by decide), m_F_ne (by decide), m_F_ne (by decide), m_F_ne (by decide), u2.2.1 5 (by decide), a4, m_F_ne (by decide), m_F_eq]
    | none =>
      obtain ⟨v1, v2⟩ := k2 hr
      have hC := a5 hr
      rw [hr] at a4
      have a4 : s1.2.1 5 = -1 := a4
      obtain ⟨acc, hacc⟩ : ∃ acc, acc = (t_res c n).2 := ⟨_, rfl⟩
      rw [← hacc] at v1 v2 hC
      by_cases h14 : acc.length ≤ 14
      · have hc1 : m_cc 14 15 16 s1 p := h.1.2.1.fr a2 (by decide) (by decide) (by decide)
        have hA1 : cv_allC (s1.1 15) 112 = true := by rw [a2.1 15 (by decide)]; exact h.2.2.2.2.1.1
        obtain ⟨s2, b1, b2, b3, b4⟩ := c_takes hf hc1 h.1.1 hC v1 h14 hA1
        have hv : (cv_sF (cv_sF s2 1 1) 2 0).1 14 f = nI acc.length := by
          have := (b4 f hf).1
          rw [v_set_f.1] at this
          exact this
        have e1 : F_L_setBody (nI f) σ = some (0, cv_sL (cv_sF (cv_sF s2 1 1) 2 0) (vp_updL (cv_sF (cv_sF s2 1 1) 2 0).2.2.1 0 (nI acc.length).toInt64)) := by
          unfold F_L_setBody F_X8_setBody F_X8_forgetFacts
          rw [c_ckF hf, m_bx0, a1, m_bv, a4, if_pos rfl, hC.1, show (14 : Int32) = nI 14 from rfl, m_lei (by omega) (by omega), if_pos h14, b1, m_bv, m_puz1, m_puz0, m_bv, m_ld hf (by decide), hv, m_bh0, m_stL]
        obtain ⟨s3, hs3⟩ : ∃ s3, s3 = cv_sL (cv_sF (cv_sF s2 1 1) 2 0) (vp_updL (cv_sF (cv_sF s2 1 1) 2 0).2.2.1 0 (nI acc.length).toInt64) := ⟨_, rfl⟩
        rw [← hs3] at e1
        have hg3 : m_gf [12, 13, 14, 15, 16] [1, 2, 3, 4, 5] σ s3 := by
          rw [hs3]
          exact (a2.gf.mono (by decide) (by decide)).trans ((b2.gf.mono (by decide) (by decide)).trans ((m_F_gf (by decide)).trans ((m_F_gf (by decide)).trans m_L_gf)))
        have hU3 : t_U c n s3 := by unfold t_U; rw [hg3.1 45 (by decide), hg3.2 15 (by decide)]; exact hU
        obtain ⟨u, u1, u2, u3, u4⟩ := rd s3 hU3
        have hMu := u4 hr
        rw [← hacc] at hMu
        rw [hr, show m_b (none : Option Nat).isSome = 0 from rfl, r_b128n hMu.1 (by omega), if_pos h14] at u1
        have hg5 : m_fr [] [15, 16, 17, 19] u (cv_sF (cv_sF (cv_sF (cv_sF u 19 0) 15 0) 16 (-1)) 17 0) := (((m_fr.F (by decide)).trans (m_fr.F (by decide))).trans (m_fr.F (by decide))).trans (m_fr.F (by decide))
        obtain ⟨s5, hs5⟩ : ∃ s5, s5 = cv_sF (cv_sF (cv_sF (cv_sF u 19 0) 15 0) 16 (-1)) 17 0 := ⟨_, rfl⟩
        have h515 : s5.2.1 15 = 0 := by rw [hs5, m_F_ne (by decide), m_F_ne (by decide), m_F_eq]
        have h516 : s5.2.1 16 = -1 := by rw [hs5, m_F_ne (by decide), m_F_eq]
        have h517 : s5.2.1 17 = 0 := by rw [hs5, m_F_eq]
        rw [← hs5] at u1 hg5
        have hM5 : t_M s5 acc := ⟨by rw [hg5.2.1 20 (by decide)]; exact hMu.1, fun j q hq => by rw [hg5.1 46 (by decide), hg5.1 47 (by decide), hg5.1 48 (by decide)]; exact hMu.2 j q hq⟩
        have hm5 : m_mc 43 s5 p := fun g hg => by
          rw [hg5.1 43 (by decide), u2.1 43 (by decide), hg3.1 43 (by decide)]; exact h.1.2.2.1 g hg
        obtain ⟨s6, d1, d2, d3⟩ := r_takes hf hm5 h.1.1 hM5 h14
        rw [d1] at u1
        have hg6 : m_gf [43, 46, 47, 48] [15, 16, 17, 18, 19, 20] s3 s6 := (u2.gf.mono (by decide) (by decide)).trans ((hg5.gf.mono (by decide) (by decide)).trans (d2.gf.mono (by decide) (by decide)))
        have hg7 : m_gf [43, 46, 47, 48] [15, 16, 17, 18, 19, 20, 22, 23] s3 (cv_sF (cv_sF s6 22 0) 23 0) := (hg6.mono (by decide) (by decide)).trans ((m_F_gf (by decide)).trans (m_F_gf (by decide)))
        have h617 : (cv_sF (cv_sF s6 22 0) 23 0).2.1 17 = 0 := by rw [m_F_ne (by decide), m_F_ne (by decide), d2.2.1 17 (by decide)]; exact h517
        have hout : (cv_sF (cv_sF s6 22 0) 23 0).2.2.1 0 = (nI acc.length).toInt64 := by
          rw [m_F_22, m_F_22, d2.2.2, hs5, m_F_22, m_F_22, m_F_22, m_F_22, u2.2.2, hs3, m_L_out]
        rw [e1, m_bi, m_ldS (by omega) hL, hx, u1, m_bi, m_tail h617 (fun _ => hout)]
        have hgA : m_gf [12, 13, 14, 15, 16, 43, 46, 47, 48] [1, 2, 3, 4, 5, 15, 16, 17, 18, 19, 20, 22, 23] σ (cv_sF (cv_sF s6 22 0) 23 0) := (hg3.mono (by decide) (by decide)).trans (hg7.mono (by decide) (by decide))
        refine ⟨v_set p f acc, _, rfl, v_I.n (v_set_ok h.1.1 v1 h14) (fun g hg => ?_) (fun g hg => ?_) ?_ ?_ ?_ m_F_eq (v_0 ?_ ?_) ?_ (h.2.2.2.1.gf hgA (by decide) (by decide)) ⟨?_, ?_⟩⟩
        · rw [hg7.1 14 (by decide), hg7.1 15 (by decide), hg7.1 16 (by decide), hs3]; exact b4 g hg
        · exact d3 g hg
        · rw [hg7.2 1 (by decide), hs3]; show (cv_sF (cv_sF s2 1 1) 2 0).2.1 1 = 1; rw [m_F_ne (by decide), m_F_eq]
        · rw [m_F_ne (by decide), m_F_eq]
        · rw [hg7.2 2 (by decide), hs3]; show (cv_sF (cv_sF s2 1 1) 2 0).2.1 2 = 0; rw [m_F_eq]
        · rw [hg7.2 3 (by decide), hs3]; show (cv_sF (cv_sF s2 1 1) 2 0).2.1 3 = 0; rw [m_F_ne (by decide), m_F_ne (by decide), b2.2.1 3 (by decide)]; exact a3
        · rw [m_F_ne (by decide), m_F_ne (by decide), d2.2.1 15 (by decide)]; exact h515
        · rw [hg7.2 5 (by decide), hs3]; show (cv_sF (cv_sF s2 1 1) 2 0).2.1 5 = _; rw [m_F_ne (by decide), m_F_ne (by decide), b2.2.1 5 (by decide), a4, m_F_ne (by decide), m_F_ne (by decide), d2.2.1 16 (by decide), h516]
        · rw [hg7.1 15 (by decide), hs3]; exact b3
        · rw [hgA.1 18 (by decide)]; exact h.2.2.2.2.1.2
      · have e1 : F_L_setBody (nI f) σ = some (3, s1) := by
          unfold F_L_setBody F_X8_setBody
          rw [c_ckF hf, m_bx0, a1, m_bv, a4, if_pos rfl, hC.1, show (14 : Int32) = nI 14 from rfl, m_lei (by omega) (by omega), if_neg h14, m_bh1 (by decide) rfl]
        obtain ⟨u, u1, u2, u3, u4⟩ := rd s1 (hU.fr a2 (by decide) (by decide))
        have hMu := u4 hr
        rw [← hacc] at hMu
        rw [hr, show m_b (none : Option Nat).isSome = 0 from rfl, r_b128n hMu.1 (by omega), if_neg h14] at u1
        rw [e1, m_bi, m_ldS (by omega) hL, hx, u1, m_bi, m_tail m_F_eq (fun z => absurd z (by decide))]
        refine ⟨p, _, rfl, h.t ?_ ?_ ?_ ?_⟩
        · exact (a2.gf.mono (by decide) (by decide)).trans ((u2.gf.mono (by decide) (by decide)).trans ((m_F_gf (by decide)).trans ((m_F_gf (by decide)).trans ((m_F_gf (by decide)).trans (m_F_gf (by decide))))))
        · rw [m_F_ne (by decide), m_F_ne (by decide), m_F_ne (by decide), m_F_ne (by decide), u2.2.1 3 (by decide)]; exact a3
        · rw [m_F_ne (by decide), m_F_ne (by decide), m_F_eq]
        · rw [m_F_ne (by decide), m_F_ne (by decide), m_F_ne (by decide), m_F_ne (by decide), u2.2.1 5 (by decide), a4, m_F_ne (by decide), m_F_eq]
end A78
