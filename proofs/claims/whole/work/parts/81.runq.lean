/-! what a run has left: isCut, observed, origin -/
section A81
variable {p q : m_P} {σ τ υ : cv_St} {xs : Nat → Int32} {L i j f g x : Nat} {k : Int32 → cv_St → Option (Int32 × cv_St)}
theorem l_isCut (h : v_I p σ) : ∃ υ, F_L_law_b1871 xs L k (nI i) σ = k (nI i + Int32.ofInt 3) υ ∧ v_I p υ := by
  obtain ⟨b, b1, b2, b3⟩ := h.2.2.2.2.2
  unfold F_L_law_b1871 F_L_law_b1913 F_L_law_b1919 F_L_law_b2188
  cases b with
  | false =>
    have e1 : F_L_isCut σ = some (1, σ) := by
      unfold F_L_isCut F_X8_isCut F_X8_checkRun
      rw [b1, if_pos (by decide), m_bx1 (by decide), m_bh1 (by decide) rfl]
    have e2 : F_X9_isCut σ = some (m_b false, cv_sF σ 17 1) := by
      unfold F_X9_isCut F_X9_isCut_b13
      rw [b2, if_pos (by decide), m_pui, m_F_eq, if_neg (by decide)]; rfl
    rw [e1, m_bi, e2, m_bi, m_tailB m_F_eq (fun z => absurd z (by decide))]
    exact ⟨_, rfl, h.w (m_F_gf (by decide))⟩
  | true =>
    obtain ⟨c, c1, c2, c3⟩ := b3 rfl
    have e1 : F_L_isCut σ = some (0, cv_sL σ (vp_updL σ.2.2.1 0 (if c = false then 0 else 1))) := by
      unfold F_L_isCut F_X8_isCut F_X8_checkRun F_L_isCut_b14
      rw [b1, if_neg (by decide), m_bx0, c1, m_rxzb, m_bh0, m_stL, m_stL, m_b0i]
      by_cases hb : c = false
      · rw [if_pos hb, if_pos hb]
      · rw [if_neg hb, if_neg hb]
    have e2 : F_X9_isCut (cv_sL σ (vp_updL σ.2.2.1 0 (if c = false then 0 else 1))) = some (m_b c, cv_sF (cv_sL σ (vp_updL σ.2.2.1 0 (if c = false then 0 else 1))) 17 0) := by
      unfold F_X9_isCut F_X9_isCut_b13
      rw [show (cv_sL σ (vp_updL σ.2.2.1 0 (if c = false then 0 else 1))).2.1 23 = m_b true from b2, if_neg (by decide), m_pui, m_F_eq, if_pos rfl, m_F_ne (by decide), show (cv_sL σ (vp_updL σ.2.2.1 0 (if c = false then 0 else 1))).2.1 24 = m_b c from c2, m_b0i]
      cases c with
      | false => rw [if_pos rfl]; rfl
      | true => rw [if_neg (by simp)]; rfl
    rw [e1, m_bi, e2, m_bi, m_tailB m_F_eq (fun _ => by rw [m_F_22, m_L_out])]
    exact ⟨_, rfl, h.w (m_L_gf.trans (m_F_gf (by decide)))⟩
theorem m_obs (hr : ∀ r, r < 8 → σ.1 38 r = τ.1 63 r) (h17 : τ.2.1 17 = 0) : ∀ (n r : Nat) (v : Int32), 8 - r < n → r ≤ 8 → ∃ W, F_X8_observed_b12 n v (nI r) σ = some (0, W, σ) ∧ F_X9_observed_b31 n v (nI r) τ = some (W, τ) := by
  intro n
  induction n with
  | zero => intro r v h; omega
  | succ n ih =>
    intro r v hn hr8
    show ∃ W, B_X8_observed_b12 (F_X8_observed_b12 n) v (nI r) σ = _ ∧ B_X9_observed_b31 (F_X9_observed_b31 n) v (nI r) τ = _
    unfold B_X8_observed_b12 B_X9_observed_b31 F_X8_observed_b37 F_X9_observed_b62
    rw [show (8 : Int32) = nI 8 from rfl, m_lei (by omega) (by omega), m_lei (by omega) (by omega)]
    by_cases hq : 8 ≤ r
    · rw [if_pos hq, if_pos hq]
      exact ⟨v, rfl, rfl⟩
    · rw [if_neg hq, if_neg hq, h17, if_pos rfl, m_ld (by omega) (by decide), m_ld (by omega) (by decide), hr r (by omega), m_i1, m_add, b_or0]
      by_cases hv : τ.1 63 r = nI r
      · rw [if_pos hv, if_pos hv]
        exact ih (r + 1) _ (by omega) (by omega)
      · rw [if_neg hv, if_neg hv]
        exact ih (r + 1) _ (by omega) (by omega)
theorem l_observed (h : v_I p σ) : ∃ υ, F_L_law_b1922 xs L k (nI i) σ = k (nI i + Int32.ofInt 3) υ ∧ v_I p υ := by
  obtain ⟨b, b1, b2, b3⟩ := h.2.2.2.2.2
  unfold F_L_law_b1922 F_L_law_b1963 F_L_law_b2188
  have stop : ∀ {v : Int32} {s : cv_St}, v ≠ 0 → F_X9_observed_b24 v s = some (0, cv_sF s 17 v) := by
    intro v s hv
    unfold F_X9_observed_b24
    rw [m_pui]
    show B_X9_observed_b31 (F_X9_observed_b31 999) 0 0 (cv_sF s 17 v) = _
    unfold B_X9_observed_b31
    rw [if_neg (by decide), m_F_eq, if_neg hv]
  cases b with
  | false =>
    have e1 : F_L_observed σ = some (1, σ) := by
      unfold F_L_observed F_X8_observed F_X8_checkRun
      rw [b1, if_pos (by decide), m_bx1 (by decide), m_bh1 (by decide) rfl]
    have e2 : F_X9_observed σ = some (0, cv_sF σ 17 1) := by
      unfold F_X9_observed
      rw [b2, if_pos (by decide), stop (by decide)]
    rw [e1, m_bi, e2, m_bi, m_tail m_F_eq (fun z => absurd z (by decide))]
    exact ⟨_, rfl, h.w (m_F_gf (by decide))⟩
  | true =>
    obtain ⟨c, c1, c2, c3⟩ := b3 rfl
    cases c with
    | true =>
      have e1 : F_L_observed σ = some (2, σ) := by
        unfold F_L_observed F_X8_observed F_X8_checkRun F_X8_checkNotCut
        rw [b1, if_neg (by decide), m_bx0, c1, if_neg (by decide), m_bx1 (by decide), m_bh1 (by decide) rfl]
      have e2 : F_X9_observed σ = some (0, cv_sF σ 17 2) := by
        unfold F_X9_observed
        rw [b2, if_neg (by decide), c2, if_neg (by decide), stop (by decide)]
      rw [e1, m_bi, e2, m_bi, m_tail m_F_eq (fun z => absurd z (by decide))]
      exact ⟨_, rfl, h.w (m_F_gf (by decide))⟩
    | false =>
      have c4 := c3 rfl
      obtain ⟨W, w1, -⟩ := m_obs (σ := σ) (τ := cv_sF σ 17 0) c4 m_F_eq 1000 0 0 (by omega) (by omega)
      have w1 : F_X8_observed_b12 1000 0 0 σ = some (0, W, σ) := w1
      obtain ⟨W', w2, w3⟩ := m_obs (σ := σ) (τ := cv_sF (cv_sL σ (vp_updL σ.2.2.1 0 W.toInt64)) 17 0) c4 m_F_eq 1000 0 0 (by omega) (by omega)
      have w2 : F_X8_observed_b12 1000 0 0 σ = some (0, W', σ) := w2
      have hW : W' = W := by
        rw [w1] at w2
        injection w2 with w2
        injection w2 with w4 w5
        injection w5 with w5 w6
        exact w5.symm
      rw [hW] at w3
      have w3 : F_X9_observed_b31 1000 0 0 (cv_sF (cv_sL σ (vp_updL σ.2.2.1 0 W.toInt64)) 17 0) = some (W, cv_sF (cv_sL σ (vp_updL σ.2.2.1 0 W.toInt64)) 17 0) := w3
      have e1 : F_L_observed σ = some (0, cv_sL σ (vp_updL σ.2.2.1 0 W.toInt64)) := by
        unfold F_L_observed F_X8_observed F_X8_checkRun F_X8_checkNotCut
        rw [b1, if_neg (by decide), m_bx0, c1, if_pos (by decide), m_bx0, w1, m_bh0, m_stL]
      have e2 : F_X9_observed (cv_sL σ (vp_updL σ.2.2.1 0 W.toInt64)) = some (W, cv_sF (cv_sL σ (vp_updL σ.2.2.1 0 W.toInt64)) 17 0) := by
        unfold F_X9_observed F_X9_observed_b24
        rw [show (cv_sL σ (vp_updL σ.2.2.1 0 W.toInt64)).2.1 23 = m_b true from b2, if_neg (by decide), show (cv_sL σ (vp_updL σ.2.2.1 0 W.toInt64)).2.1 24 = m_b false from c2, if_pos (by decide), m_pui, w3]
      rw [e1, m_bi, e2, m_bi, m_tail m_F_eq (fun _ => by rw [m_F_22, m_L_out])]
      exact ⟨_, rfl, h.w (m_L_gf.trans (m_F_gf (by decide)))⟩
theorem l_origin (h : v_I p σ) (hi : i + 2 < L) (hL : L ≤ 1536) : ∃ υ, F_L_law_b1966 xs L k (nI i) σ = k (nI i + Int32.ofInt 3) υ ∧ v_I p υ := by
  obtain ⟨b, b1, b2, b3⟩ := h.2.2.2.2.2
  unfold F_L_law_b1966 F_L_law_b2019 F_L_law_b2188
  rw [m_idx1, m_ldS (by omega) hL]
  have fin : ∀ t, t ≠ 0 → F_L_origin (xs (i + 1)) σ = some (t, σ) → F_X9_origin (xs (i + 1)) σ = some (0, cv_sF σ 17 t) → ∃ υ, cv_bi (F_L_origin (xs (i + 1)) σ) (fun v287 s286 => cv_ldS xs L (nI (i + 1)) (fun v288 => cv_bi (F_X9_origin v288 s286) (fun v290 s289 => cv_bi (F_X9_thrown s289) (fun v292 s291 => (if v292 = v287 then (if v287 = 0 then cv_ldL s291 0 (fun v293 => (if (lg_cmp v293 v290.toInt64) = 0 then k (nI i + Int32.ofInt 3) s291 else some (0, s291))) else k (nI i + Int32.ofInt 3) s291) else some (0, s291)))))) = k (nI i + Int32.ofInt 3) υ ∧ v_I p υ := by
    intro t ht e1 e2
    rw [e1, m_bi, m_ldS (by omega) hL, e2, m_bi, m_tail m_F_eq (fun z => absurd z ht)]
    exact ⟨_, rfl, h.w (m_F_gf (by decide))⟩
  rcases m_ixc (xs (i + 1)) 8 (by decide) with hx | ⟨r, hr, hx⟩
  · refine fin 1 (by decide) ?_ ?_
    · unfold F_L_origin F_X8_origin
      rw [c_ckR0 hx, m_bx1 (by decide), m_bh1 (by decide) rfl]
    · unfold F_X9_origin F_X9_origin_b46
      rw [m_isR0 hx, m_bi, if_pos rfl, m_pui, m_F_eq, if_neg (by decide)]
  · rw [hx] at fin ⊢
    cases b with
    | false =>
      refine fin 2 (by decide) ?_ ?_
      · unfold F_L_origin F_X8_origin F_X8_checkRun
        rw [c_ckR hr, m_bx0, b1, if_pos (by decide), m_bx1 (by decide), m_bh1 (by decide) rfl]
      · unfold F_X9_origin F_X9_origin_b46
        rw [m_isR hr, m_bi, if_neg (by decide), b2, if_pos (by decide), m_pui, m_F_eq, if_neg (by decide)]
    | true =>
      obtain ⟨c, c1, c2, c3⟩ := b3 rfl
      cases c with
      | true =>
        refine fin 3 (by decide) ?_ ?_
        · unfold F_L_origin F_X8_origin F_X8_checkRun F_X8_checkNotCut
          rw [c_ckR hr, m_bx0, b1, if_neg (by decide), m_bx0, c1, if_neg (by decide), m_bx1 (by decide), m_bh1 (by decide) rfl]
        · unfold F_X9_origin F_X9_origin_b41 F_X9_origin_b46
          rw [m_isR hr, m_bi, if_neg (by decide), b2, if_neg (by decide), c2, if_neg (by decide), m_pui, m_F_eq, if_neg (by decide)]
      | false =>
        have c4 := c3 rfl r hr
        by_cases hv : σ.1 63 r < 8
        · have e1 : F_L_origin (nI r) σ = some (0, cv_sL σ (vp_updL σ.2.2.1 0 (σ.1 63 r).toInt64)) := by
            unfold F_L_origin F_X8_origin F_X8_checkRun F_X8_checkNotCut
            rw [c_ckR hr, m_bx0, b1, if_neg (by decide), m_bx0, c1, if_pos (by decide), m_bx0, m_ld hr (by decide), c4, if_pos hv, m_bh0, m_stL]
          have e2 : F_X9_origin (nI r) (cv_sL σ (vp_updL σ.2.2.1 0 (σ.1 63 r).toInt64)) = some (σ.1 63 r, cv_sF (cv_sL σ (vp_updL σ.2.2.1 0 (σ.1 63 r).toInt64)) 17 0) := by
            unfold F_X9_origin F_X9_origin_b41 F_X9_origin_b46
            rw [m_isR hr, m_bi, if_neg (by decide), show (cv_sL σ (vp_updL σ.2.2.1 0 (σ.1 63 r).toInt64)).2.1 23 = m_b true from b2, if_neg (by decide), show (cv_sL σ (vp_updL σ.2.2.1 0 (σ.1 63 r).toInt64)).2.1 24 = m_b false from c2, if_pos (by decide), m_ld hr (by decide), show (cv_sL σ (vp_updL σ.2.2.1 0 (σ.1 63 r).toInt64)).1 63 r = σ.1 63 r from rfl, if_pos hv, m_pui, m_F_eq, if_pos (by decide), m_ld hr (by decide), m_F_1]
            rfl
          rw [e1, m_bi, m_ldS (by omega) hL, hx, e2, m_bi, m_tail m_F_eq (fun _ => by rw [m_F_22, m_L_out])]
          exact ⟨_, rfl, h.w (m_L_gf.trans (m_F_gf (by decide)))⟩
        · refine fin 3 (by decide) ?_ ?_
          · unfold F_L_origin F_X8_origin F_X8_checkRun F_X8_checkNotCut
            rw [c_ckR hr, m_bx0, b1, if_neg (by decide), m_bx0, c1, if_pos (by decide), m_bx0, m_ld hr (by decide), c4, if_neg hv, m_bh1 (by decide) rfl]
          · unfold F_X9_origin F_X9_origin_b41 F_X9_origin_b46
            rw [m_isR hr, m_bi, if_neg (by decide), b2, if_neg (by decide), c2, if_pos (by decide), m_ld hr (by decide), if_neg hv, m_pui, m_F_eq, if_neg (by decide)]
end A81
