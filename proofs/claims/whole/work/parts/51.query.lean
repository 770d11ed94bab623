/-! QUERIES: both sides answer alike -/
def m_gf (as ss : List Nat) (σ τ : cv_St) : Prop := (∀ k, k ∉ as → τ.1 k = σ.1 k) ∧ ∀ j, j ∉ ss → τ.2.1 j = σ.2.1 j
theorem m_gf.rfl' {as ss : List Nat} {σ : cv_St} : m_gf as ss σ σ := ⟨fun _ _ => rfl, fun _ _ => rfl⟩
theorem m_gf.trans {as ss : List Nat} {σ τ υ : cv_St} (h : m_gf as ss σ τ) (g : m_gf as ss τ υ) : m_gf as ss σ υ := ⟨fun k hk => (g.1 k hk).trans (h.1 k hk), fun j hj => (g.2 j hj).trans (h.2 j hj)⟩
theorem m_gf.mono {as ss as' ss' : List Nat} {σ τ : cv_St} (h : m_gf as ss σ τ) (ha : ∀ k, k ∈ as → k ∈ as') (hs : ∀ k, k ∈ ss → k ∈ ss') : m_gf as' ss' σ τ := ⟨fun k hk => h.1 k (fun q => hk (ha k q)), fun j hj => h.2 j (fun q => hj (hs j q))⟩
theorem m_fr.gf {as ss : List Nat} {σ τ : cv_St} (h : m_fr as ss σ τ) : m_gf as ss σ τ := ⟨h.1, h.2.1⟩
theorem m_CA.gf {p : m_P} {as ss : List Nat} {σ τ : cv_St} (h : m_CA p σ) (g : m_gf as ss σ τ) (ha : ∀ k ∈ [20, 21, 22, 23, 24, 27, 29, 30, 31, 32, 33, 34, 35, 36], k ∉ as) (hs : 7 ∉ ss) : m_CA p τ := by
  have h2 : m_CA p (τ.1, τ.2.1, σ.2.2) := h.fr (as := as) (ss := ss) ⟨g.1, g.2, rfl⟩ ha hs
  exact h2
theorem m_MA.gf {p : m_P} {as ss : List Nat} {σ τ : cv_St} (h : m_MA p σ) (g : m_gf as ss σ τ) (ha : ∀ k ∈ [49, 50, 51, 55, 57, 58, 59, 60, 61, 62], k ∉ as) (hs : 21 ∉ ss) : m_MA p τ := by
  have h2 : m_MA p (τ.1, τ.2.1, σ.2.2) := h.fr (as := as) (ss := ss) ⟨g.1, g.2, rfl⟩ ha hs
  exact h2
def m_X (p : m_P) (σ : cv_St) : Prop := m_ok p ∧ m_cc 14 15 16 σ p ∧ m_mc 43 σ p ∧ (∃ b, σ.2.1 1 = m_b b ∧ (b = false → m_CA p σ)) ∧ ∃ b, σ.2.1 22 = m_b b ∧ (b = true → m_MA p σ)
theorem m_X.gf {p : m_P} {as ss : List Nat} {σ τ : cv_St} (h : m_X p σ) (g : m_gf as ss σ τ) (ha : ∀ k ∈ [14, 15, 16, 43, 20, 21, 22, 23, 24, 27, 29, 30, 31, 32, 33, 34, 35, 36, 49, 50, 51, 55, 57, 58, 59, 60, 61, 62], k ∉ as) (hs : ∀ k ∈ [1, 7, 21, 22], k ∉ ss) : m_X p τ := by
  obtain ⟨ho, hc, hm, ⟨b, b1, b2⟩, ⟨c, c1, c2⟩⟩ := h
  refine ⟨ho, fun f hf => ?_, fun f hf => ?_, ⟨b, by rw [g.2 1 (hs 1 (by decide))]; exact b1, fun hb => (b2 hb).gf g (fun k hk => ha k ?_) (hs 7 (by decide))⟩, ⟨c, by rw [g.2 22 (hs 22 (by decide))]; exact c1, fun hb => (c2 hb).gf g (fun k hk => ha k ?_) (hs 21 (by decide))⟩⟩
  · rw [g.1 14 (ha 14 (by decide)), g.1 15 (ha 15 (by decide)), g.1 16 (ha 16 (by decide))]; exact hc f hf
  · rw [g.1 43 (ha 43 (by decide))]; exact hm f hf
  · revert hk; revert k; decide
  · revert hk; revert k; decide
def m_QA : List Nat := [20, 21, 22, 23, 24, 25, 26, 27, 28, 29, 30, 31, 32, 33, 34, 35, 36, 37, 49, 50, 51, 52, 53, 54, 55, 56, 57, 58, 59, 60, 61, 62]
def m_QS : List Nat := [1, 6, 7, 17, 21, 22]
theorem c_fx {p : m_P} {σ : cv_St} (h : m_X p σ) : ∃ υ, F_X8_inferFacts σ = some υ ∧ m_gf m_QA m_QS σ υ ∧ υ.2.2 = σ.2.2 ∧ υ.2.1 17 = σ.2.1 17 ∧ m_X p υ ∧ m_CA p υ := by
  obtain ⟨ho, hc, hm, ⟨b, b1, b2⟩, ⟨c, c1, c2⟩⟩ := h
  obtain ⟨υ, a1, a2, a3, a4⟩ := c_inferFacts hc ho b1 b2
  refine ⟨υ, a1, a2.gf.mono (by decide) (by decide), a2.2.2, a2.2.1 17 (by decide), ⟨ho, hc.fr a2 (by decide) (by decide) (by decide), hm.fr a2 (by decide), ⟨false, a4, fun _ => a3⟩, ⟨c, by rw [a2.2.1 22 (by decide)]; exact c1, fun hb => (c2 hb).fr a2 (by decide) (by decide)⟩⟩, a3⟩
theorem r_fx {p : m_P} {σ : cv_St} (h : m_X p σ) : ∃ υ, F_X9_infer σ = some υ ∧ m_gf m_QA m_QS σ υ ∧ υ.2.2 = σ.2.2 ∧ υ.2.1 17 = σ.2.1 17 ∧ m_X p υ ∧ m_MA p υ := by
  obtain ⟨ho, hc, hm, ⟨b, b1, b2⟩, ⟨c, c1, c2⟩⟩ := h
  obtain ⟨υ, a1, a2, a3, a4⟩ := r_infer hm ho c1 c2
  refine ⟨υ, a1, a2.gf.mono (by decide) (by decide), a2.2.2, a2.2.1 17 (by decide), ⟨ho, hc.fr a2 (by decide) (by decide) (by decide), hm.fr a2 (by decide), ⟨b, by rw [a2.2.1 1 (by decide)]; exact b1, fun hb => (b2 hb).fr a2 (by decide) (by decide)⟩, ⟨true, a4, fun _ => a3⟩⟩, a3⟩
theorem m_ldS {α : Type} {xs : Nat → Int32} {L j : Nat} {K : Int32 → Option α} (h : j < L) (hL : L ≤ 1536) : cv_ldS xs L (nI j) K = K (xs j) := by
  unfold cv_ldS
  rw [m_cl (by omega), if_neg (fun z => by
    rcases z with z | z
    · exact nI_pos (by omega) z
    · omega)]
theorem m_stL {α : Type} {σ : cv_St} {v : Int64} {K : cv_St → Option α} : cv_stL σ 0 v K = K (cv_sL σ (vp_updL σ.2.2.1 0 v)) := by
  unfold cv_stL
  rw [if_neg (by decide)]; rfl
theorem m_ldL {α : Type} {σ : cv_St} {K : Int64 → Option α} : cv_ldL σ 0 K = K (σ.2.2.1 0) := by
  unfold cv_ldL
  rw [if_neg (by decide)]; rfl
theorem m_L_out {σ : cv_St} {v : Int64} : (cv_sL σ (vp_updL σ.2.2.1 0 v)).2.2.1 0 = v := by simp [cv_sL, vp_updL]
theorem m_L_gf {as ss : List Nat} {σ : cv_St} {g : Nat → Int64} : m_gf as ss σ (cv_sL σ g) := ⟨fun _ _ => rfl, fun _ _ => rfl⟩
theorem m_F_gf {as ss : List Nat} {σ : cv_St} {k : Nat} {v : Int32} (h : k ∈ ss) : m_gf as ss σ (cv_sF σ k v) := (m_fr.F h).gf
/-- the tail of a case: equal outcome goes on -/
theorem m_tail {t w : Int32} {s : cv_St} {K : cv_St → Option (Int32 × cv_St)} (h17 : s.2.1 17 = t) (h0 : t = 0 → s.2.2.1 0 = w.toInt64) :
    cv_bi (F_X9_thrown s) (fun v9 s8 => (if v9 = t then (if t = 0 then cv_ldL s8 0 (fun v10 => (if (lg_cmp v10 w.toInt64) = 0 then K s8 else some (0, s8))) else K s8) else some (0, s8))) = K s := by
  unfold F_X9_thrown
  rw [m_bi, if_pos h17]
  by_cases ht : t = 0
  · rw [if_pos ht, m_ldL, if_pos (m_lg0.mpr (h0 ht))]
  · rw [if_neg ht]
theorem m_idx1 (i : Nat) : nI i + 1 = nI (i + 1) := nI_add i 1
theorem m_idx2 (i : Nat) : nI i + 2 = nI (i + 2) := nI_add i 2
theorem c_ckF {f : Nat} (h : f < 8) {σ : cv_St} : F_X8_checkFunction (nI f) σ = some (0, 0, σ) := by
  unfold F_X8_checkFunction
  rw [if_neg (nI_pos (by omega)), show (8 : Int32) = nI 8 from rfl, m_lti (by omega) (by omega), if_pos h]
theorem c_ckF0 {x : Int32} (h : x < 0 ∨ nI 8 ≤ x) {σ : cv_St} : F_X8_checkFunction x σ = some (1, 0, σ) := by
  unfold F_X8_checkFunction
  by_cases hx : x < 0
  · rw [if_pos hx]
  · rw [if_neg hx, if_neg (fun z => by
      rcases h with h | h
      · exact hx h
      · exact absurd z (Int32.not_lt.mpr h))]
theorem m_bx0 {β γ : Type} {d : γ} {v : β} {u : cv_St} {K : β → cv_St → Option (Nat × γ × cv_St)} : cv_bx d (some (0, v, u)) K = K v u := rfl
theorem m_bx1 {β γ : Type} {d : γ} {c : Nat} {v : β} {u : cv_St} {K : β → cv_St → Option (Nat × γ × cv_St)} (h : c ≠ 0) : cv_bx d (some (c, v, u)) K = some (c, d, u) := by
  show (if c = 0 then _ else _) = _
  rw [if_neg h]
theorem m_bh0 {β : Type} {h : Nat → Option Int32} {v : β} {u : cv_St} {K : β → cv_St → Option (Int32 × cv_St)} : cv_bh h (some (0, v, u)) K = K v u := rfl
theorem m_bh1 {β : Type} {h : Nat → Option Int32} {c : Nat} {t : Int32} {v : β} {u : cv_St} {K : β → cv_St → Option (Int32 × cv_St)} (hc : c ≠ 0) (ht : h c = some t) : cv_bh h (some (c, v, u)) K = some (t, u) := by
  show (if c = 0 then _ else _) = _
  rw [if_neg hc, ht]; rfl
theorem l_preserved {p : m_P} {σ : cv_St} {xs : Nat → Int32} {L i : Nat} {k : Int32 → cv_St → Option (Int32 × cv_St)} (h : m_X p σ) (hi : i + 2 < L) (hL : L ≤ 1536) : ∃ υ, F_L_law_b731 xs L k (nI i) σ = k (nI i + Int32.ofInt 3) υ ∧ m_X p υ ∧ m_gf m_QA m_QS σ υ := by
  unfold F_L_law_b731 F_L_law_b784 F_L_law_b2188
  rw [m_idx1, m_ldS (by omega) hL]
  rcases m_ixc (xs (i + 1)) 8 (by decide) with hx | ⟨f, hf, hx⟩
  · have e1 : F_L_preserved (xs (i + 1)) σ = some (1, σ) := by
      unfold F_L_preserved F_X8_preserved
      rw [c_ckF0 hx, m_bx1 (by decide), m_bh1 (by decide) rfl]
    have e2 : F_X9_preserved (xs (i + 1)) σ = some (0, cv_sF σ 17 1) := by
      unfold F_X9_preserved F_X9_ofFunction_10_51 F_X9_ofFunction_10_51_b13
      rw [m_isF0 hx, m_bi, if_pos rfl, m_pui, m_F_eq, if_neg (by decide), m_bi]
    rw [e1, m_bi, m_ldS (by omega) hL, e2, m_bi, m_tail m_F_eq (fun z => absurd z (by decide))]
    exact ⟨_, rfl, h.gf (m_F_gf (as := []) (ss := [17]) (by decide)) (by decide) (by decide), m_F_gf (by decide)⟩
  · rw [hx]
    obtain ⟨s1, a1, a2, a3, a4, a5, a6⟩ := c_fx h
    have e1 : F_L_preserved (nI f) σ = some (0, cv_sL s1 (vp_updL s1.2.2.1 0 (s1.1 23 f).toInt64)) := by
      unfold F_L_preserved F_X8_preserved
      rw [c_ckF hf, m_bx0, a1, m_bv, m_ld hf (by decide), m_bh0, m_stL]
    have hX2 : m_X p (cv_sF (cv_sL s1 (vp_updL s1.2.2.1 0 (s1.1 23 f).toInt64)) 17 0) := (a5.gf (m_L_gf (as := []) (ss := [])) (by decide) (by decide)).gf (m_F_gf (as := []) (ss := [17]) (by decide)) (by decide) (by decide)
    obtain ⟨s4, c1, c2, c3, c4, c5, c6⟩ := r_fx hX2
    have e2 : F_X9_preserved (nI f) (cv_sL s1 (vp_updL s1.2.2.1 0 (s1.1 23 f).toInt64)) = some (s4.1 51 f, s4) := by
      unfold F_X9_preserved F_X9_ofFunction_10_51 F_X9_ofFunction_10_51_b13
      rw [m_isF hf, m_bi, if_neg (by decide), m_pui, m_F_eq, if_pos (by decide), c1, m_bv, m_ld hf (by decide), m_bi]
    have e3 : s1.1 23 f = s4.1 51 f := (m_tie h.1 a6 c6).1 f hf
    rw [e1, m_bi, m_ldS (by omega) hL, hx, e2, m_bi, m_tail (c4.trans m_F_eq) (fun _ => by rw [c3, m_F_22, m_L_out, e3])]
    exact ⟨s4, rfl, c5, a2.trans (m_L_gf.trans ((m_F_gf (by decide)).trans c2))⟩
theorem l_surelyDefined {p : m_P} {σ : cv_St} {xs : Nat → Int32} {L i : Nat} {k : Int32 → cv_St → Option (Int32 × cv_St)} (h : m_X p σ) (hi : i + 2 < L) (hL : L ≤ 1536) : ∃ υ, F_L_law_b787 xs L k (nI i) σ = k (nI i + Int32.ofInt 3) υ ∧ m_X p υ ∧ m_gf m_QA m_QS σ υ := by
  unfold F_L_law_b787 F_L_law_b840 F_L_law_b2188
  rw [m_idx1, m_ldS (by omega) hL]
  rcases m_ixc (xs (i + 1)) 8 (by decide) with hx | ⟨f, hf, hx⟩
  · have e1 : F_L_surelyDefined (xs (i + 1)) σ = some (1, σ) := by
      unfold F_L_surelyDefined F_X8_surelyDefined
      rw [c_ckF0 hx, m_bx1 (by decide), m_bh1 (by decide) rfl]
    have e2 : F_X9_surelyDefined (xs (i + 1)) σ = some (0, cv_sF σ 17 1) := by
      unfold F_X9_surelyDefined F_X9_ofFunction_10_55 F_X9_ofFunction_10_55_b13
      rw [m_isF0 hx, m_bi, if_pos rfl, m_pui, m_F_eq, if_neg (by decide), m_bi]
    rw [e1, m_bi, m_ldS (by omega) hL, e2, m_bi, m_tail m_F_eq (fun z => absurd z (by decide))]
    exact ⟨_, rfl, h.gf (m_F_gf (as := []) (ss := [17]) (by decide)) (by decide) (by decide), m_F_gf (by decide)⟩
  · rw [hx]
    obtain ⟨s1, a1, a2, a3, a4, a5, a6⟩ := c_fx h
    have e1 : F_L_surelyDefined (nI f) σ = some (0, cv_sL s1 (vp_updL s1.2.2.1 0 (s1.1 27 f).toInt64)) := by
      unfold F_L_surelyDefined F_X8_surelyDefined
      rw [c_ckF hf, m_bx0, a1, m_bv, m_ld hf (by decide), m_bh0, m_stL]
    have hX2 : m_X p (cv_sF (cv_sL s1 (vp_updL s1.2.2.1 0 (s1.1 27 f).toInt64)) 17 0) := (a5.gf (m_L_gf (as := []) (ss := [])) (by decide) (by decide)).gf (m_F_gf (as := []) (ss := [17]) (by decide)) (by decide) (by decide)
    obtain ⟨s4, c1, c2, c3, c4, c5, c6⟩ := r_fx hX2
    have e2 : F_X9_surelyDefined (nI f) (cv_sL s1 (vp_updL s1.2.2.1 0 (s1.1 27 f).toInt64)) = some (s4.1 55 f, s4) := by
      unfold F_X9_surelyDefined F_X9_ofFunction_10_55 F_X9_ofFunction_10_55_b13
      rw [m_isF hf, m_bi, if_neg (by decide), m_pui, m_F_eq, if_pos (by decide), c1, m_bv, m_ld hf (by decide), m_bi]
    have e3 : s1.1 27 f = s4.1 55 f := (m_tie h.1 a6 c6).2.1 f hf
    rw [e1, m_bi, m_ldS (by omega) hL, hx, e2, m_bi, m_tail (c4.trans m_F_eq) (fun _ => by rw [c3, m_F_22, m_L_out, e3])]
    exact ⟨s4, rfl, c5, a2.trans (m_L_gf.trans ((m_F_gf (by decide)).trans c2))⟩
theorem l_arguments {p : m_P} {σ : cv_St} {xs : Nat → Int32} {L i : Nat} {k : Int32 → cv_St → Option (Int32 × cv_St)} (h : m_X p σ) (hi : i + 2 < L) (hL : L ≤ 1536) : ∃ υ, F_L_law_b843 xs L k (nI i) σ = k (nI i + Int32.ofInt 3) υ ∧ m_X p υ ∧ m_gf m_QA m_QS σ υ := by
  unfold F_L_law_b843 F_L_law_b896 F_L_law_b2188
  rw [m_idx1, m_ldS (by omega) hL]
  rcases m_ixc (xs (i + 1)) 8 (by decide) with hx | ⟨f, hf, hx⟩
  · have e1 : F_L_arguments (xs (i + 1)) σ = some (1, σ) := by
      unfold F_L_arguments F_X8_arguments
      rw [c_ckF0 hx, m_bx1 (by decide), m_bh1 (by decide) rfl]
    have e2 : F_X9_arguments (xs (i + 1)) σ = some (0, cv_sF σ 17 1) := by
      unfold F_X9_arguments F_X9_ofFunction_10_58 F_X9_ofFunction_10_58_b13
      rw [m_isF0 hx, m_bi, if_pos rfl, m_pui, m_F_eq, if_neg (by decide), m_bi]
    rw [e1, m_bi, m_ldS (by omega) hL, e2, m_bi, m_tail m_F_eq (fun z => absurd z (by decide))]
    exact ⟨_, rfl, h.gf (m_F_gf (as := []) (ss := [17]) (by decide)) (by decide) (by decide), m_F_gf (by decide)⟩
  · rw [hx]
    obtain ⟨s1, a1, a2, a3, a4, a5, a6⟩ := c_fx h
    have e1 : F_L_arguments (nI f) σ = some (0, cv_sL s1 (vp_updL s1.2.2.1 0 (s1.1 30 f).toInt64)) := by
      unfold F_L_arguments F_X8_arguments
      rw [c_ckF hf, m_bx0, a1, m_bv, m_ld hf (by decide), m_bh0, m_stL]
    have hX2 : m_X p (cv_sF (cv_sL s1 (vp_updL s1.2.2.1 0 (s1.1 30 f).toInt64)) 17 0) := (a5.gf (m_L_gf (as := []) (ss := [])) (by decide) (by decide)).gf (m_F_gf (as := []) (ss := [17]) (by decide)) (by decide) (by decide)
    obtain ⟨s4, c1, c2, c3, c4, c5, c6⟩ := r_fx hX2
    have e2 : F_X9_arguments (nI f) (cv_sL s1 (vp_updL s1.2.2.1 0 (s1.1 30 f).toInt64)) = some (s4.1 58 f, s4) := by
      unfold F_X9_arguments F_X9_ofFunction_10_58 F_X9_ofFunction_10_58_b13
      rw [m_isF hf, m_bi, if_neg (by decide), m_pui, m_F_eq, if_pos (by decide), c1, m_bv, m_ld hf (by decide), m_bi]
    have e3 : s1.1 30 f = s4.1 58 f := ((m_tie h.1 a6 c6).2.2.1 f hf).1
    rw [e1, m_bi, m_ldS (by omega) hL, hx, e2, m_bi, m_tail (c4.trans m_F_eq) (fun _ => by rw [c3, m_F_22, m_L_out, e3])]
    exact ⟨s4, rfl, c5, a2.trans (m_L_gf.trans ((m_F_gf (by decide)).trans c2))⟩
theorem l_results {p : m_P} {σ : cv_St} {xs : Nat → Int32} {L i : Nat} {k : Int32 → cv_St → Option (Int32 × cv_St)} (h : m_X p σ) (hi : i + 2 < L) (hL : L ≤ 1536) : ∃ υ, F_L_law_b899 xs L k (nI i) σ = k (nI i + Int32.ofInt 3) υ ∧ m_X p υ ∧ m_gf m_QA m_QS σ υ := by
  unfold F_L_law_b899 F_L_law_b952 F_L_law_b2188
  rw [m_idx1, m_ldS (by omega) hL]
  rcases m_ixc (xs (i + 1)) 8 (by decide) with hx | ⟨f, hf, hx⟩
  · have e1 : F_L_results (xs (i + 1)) σ = some (1, σ) := by
      unfold F_L_results F_X8_results
      rw [c_ckF0 hx, m_bx1 (by decide), m_bh1 (by decide) rfl]
    have e2 : F_X9_results (xs (i + 1)) σ = some (0, cv_sF σ 17 1) := by
      unfold F_X9_results F_X9_ofFunction_10_59 F_X9_ofFunction_10_59_b13
      rw [m_isF0 hx, m_bi, if_pos rfl, m_pui, m_F_eq, if_neg (by decide), m_bi]
    rw [e1, m_bi, m_ldS (by omega) hL, e2, m_bi, m_tail m_F_eq (fun z => absurd z (by decide))]
    exact ⟨_, rfl, h.gf (m_F_gf (as := []) (ss := [17]) (by decide)) (by decide) (by decide), m_F_gf (by decide)⟩
  · rw [hx]
    obtain ⟨s1, a1, a2, a3, a4, a5, a6⟩ := c_fx h
    have e1 : F_L_results (nI f) σ = some (0, cv_sL s1 (vp_updL s1.2.2.1 0 (s1.1 31 f).toInt64)) := by
      unfold F_L_results F_X8_results
      rw [c_ckF hf, m_bx0, a1, m_bv, m_ld hf (by decide), m_bh0, m_stL]
    have hX2 : m_X p (cv_sF (cv_sL s1 (vp_updL s1.2.2.1 0 (s1.1 31 f).toInt64)) 17 0) := (a5.gf (m_L_gf (as := []) (ss := [])) (by decide) (by decide)).gf (m_F_gf (as := []) (ss := [17]) (by decide)) (by decide) (by decide)
    obtain ⟨s4, c1, c2, c3, c4, c5, c6⟩ := r_fx hX2
    have e2 : F_X9_results (nI f) (cv_sL s1 (vp_updL s1.2.2.1 0 (s1.1 31 f).toInt64)) = some (s4.1 59 f, s4) := by
      unfold F_X9_results F_X9_ofFunction_10_59 F_X9_ofFunction_10_59_b13
      rw [m_isF hf, m_bi, if_neg (by decide), m_pui, m_F_eq, if_pos (by decide), c1, m_bv, m_ld hf (by decide), m_bi]
    have e3 : s1.1 31 f = s4.1 59 f := ((m_tie h.1 a6 c6).2.2.1 f hf).2
    rw [e1, m_bi, m_ldS (by omega) hL, hx, e2, m_bi, m_tail (c4.trans m_F_eq) (fun _ => by rw [c3, m_F_22, m_L_out, e3])]
    exact ⟨s4, rfl, c5, a2.trans (m_L_gf.trans ((m_F_gf (by decide)).trans c2))⟩
