/-! THE INVARIANT of the law's loop -/
def v_T (σ : cv_St) : Prop := ∃ c n, t_TT c n σ ∧ t_U c n σ
def v_S (σ : cv_St) : Prop := ∃ b, σ.2.1 0 = m_b b ∧ σ.2.1 14 = m_b b ∧ (b = true → ∃ q, m_ok q ∧ m_cc 17 18 19 σ q ∧ m_mc 44 σ q)
def v_A (σ : cv_St) : Prop := cv_allC (σ.1 15) 112 = true ∧ cv_allC (σ.1 18) 112 = true
def v_R (σ : cv_St) : Prop := ∃ b, σ.2.1 2 = m_b b ∧ σ.2.1 23 = m_b b ∧ (b = true → ∃ c, σ.2.1 13 = m_b c ∧ σ.2.1 24 = m_b c ∧ (c = false → ∀ r, r < 8 → σ.1 38 r = σ.1 63 r))
def v_I (p : m_P) (σ : cv_St) : Prop := m_X p σ ∧ v_T σ ∧ σ.2.1 5 = σ.2.1 16 ∧ v_S σ ∧ v_A σ ∧ v_R σ
section A76
variable {p : m_P} {σ τ : cv_St} {as ss : List Nat} {xs : Nat → Int32} {L i j f : Nat} {k : Int32 → cv_St → Option (Int32 × cv_St)}
theorem v_T.gf (h : v_T σ) (g : m_gf as ss σ τ) (ha : ∀ k ∈ [11, 45], k ∉ as) (hs : ∀ k ∈ [3, 15], k ∉ ss) : v_T τ := by
  obtain ⟨c, n, h1, h2⟩ := h
  refine ⟨c, n, ?_, ?_⟩
  · unfold t_TT; rw [g.1 11 (ha 11 (by decide)), g.2 3 (hs 3 (by decide))]; exact h1
  · unfold t_U; rw [g.1 45 (ha 45 (by decide)), g.2 15 (hs 15 (by decide))]; exact h2
theorem v_S.gf (h : v_S σ) (g : m_gf as ss σ τ) (ha : ∀ k ∈ [17, 18, 19, 44], k ∉ as) (hs : ∀ k ∈ [0, 14], k ∉ ss) : v_S τ := by
  obtain ⟨b, b1, b2, b3⟩ := h
  refine ⟨b, by rw [g.2 0 (hs 0 (by decide))]; exact b1, by rw [g.2 14 (hs 14 (by decide))]; exact b2, fun hb => ?_⟩
  obtain ⟨q, q1, q2, q3⟩ := b3 hb
  refine ⟨q, q1, fun f hf => ?_, fun f hf => ?_⟩
  · rw [g.1 17 (ha 17 (by decide)), g.1 18 (ha 18 (by decide)), g.1 19 (ha 19 (by decide))]; exact q2 f hf
  · rw [g.1 44 (ha 44 (by decide))]; exact q3 f hf
theorem v_A.gf (h : v_A σ) (g : m_gf as ss σ τ) (ha : ∀ k ∈ [15, 18], k ∉ as) : v_A τ := by
  unfold v_A
  rw [g.1 15 (ha 15 (by decide)), g.1 18 (ha 18 (by decide))]; exact h
theorem v_R.gf (h : v_R σ) (g : m_gf as ss σ τ) (ha : ∀ k ∈ [38, 63], k ∉ as) (hs : ∀ k ∈ [2, 23, 13, 24], k ∉ ss) : v_R τ := by
  unfold v_R
  rw [g.2 2 (hs 2 (by decide)), g.2 23 (hs 23 (by decide)), g.2 13 (hs 13 (by decide)), g.2 24 (hs 24 (by decide)), g.1 38 (ha 38 (by decide)), g.1 63 (ha 63 (by decide))]; exact h
theorem v_I.q (h : v_I p σ) (hX : m_X p τ) (g : m_gf m_QA m_QS σ τ) : v_I p τ := by
  refine ⟨hX, h.2.1.gf g (by decide) (by decide), ?_, h.2.2.2.1.gf g (by decide) (by decide), h.2.2.2.2.1.gf g (by decide), h.2.2.2.2.2.gf g (by decide) (by decide)⟩
  rw [g.2 5 (by decide), g.2 16 (by decide)]; exact h.2.2.1
/-- only the outcome's scalar, the out cells, and what nothing reads have changed -/
theorem v_I.w (h : v_I p σ) (g : m_gf [12, 13, 46, 47, 48] [17, 4, 18, 19, 20] σ τ) : v_I p τ := by
  refine ⟨h.1.gf g (by decide) (by decide), h.2.1.gf g (by decide) (by decide), ?_, h.2.2.2.1.gf g (by decide) (by decide), h.2.2.2.2.1.gf g (by decide), h.2.2.2.2.2.gf g (by decide) (by decide)⟩
  rw [g.2 5 (by decide), g.2 16 (by decide)]; exact h.2.2.1
theorem m_A_gf {k i : Nat} {v : Int32} (h : k ∈ as) : m_gf as ss σ (cv_sA σ k i v) := (m_fr.A h).gf
theorem v_in {x : Int32} : F_X9_in x.toInt64 33 126 σ = some (m_b (decide ((33 : Int32) ≤ x ∧ x ≤ 126)), σ) := m_in (lo := 33) (hi := 126)
theorem v_chr : ∀ j, j < 127 → ((nI j).toUInt32 % 65536).toInt32 = nI j := by decide +kernel
theorem l_append (h : v_I p σ) (hi : i + 2 < L) (hL : L ≤ 1536) : ∃ υ, F_L_law_b208 xs L k (nI i) σ = k (nI i + Int32.ofInt 3) υ ∧ v_I p υ := by
  unfold F_L_law_b208 F_L_law_b261 F_L_law_b2188
  rw [m_idx1, m_ldS (by omega) hL]
  by_cases hx : (33 : Int32) ≤ xs (i + 1) ∧ xs (i + 1) ≤ 126
  · obtain ⟨c, n, ⟨h60, hT2, hT3⟩, ⟨-, hU2, hU3⟩⟩ := h.2.1
    obtain ⟨j, hj, hxj⟩ : ∃ j, j < 127 ∧ xs (i + 1) = nI j := by
      rcases m_ixc (xs (i + 1)) 127 (by decide) with (hz | hz) | hz
      · exact absurd hx.1 (Int32.not_le.mpr (Int32.lt_trans hz (by decide)))
      · exact absurd hx.2 (Int32.not_le.mpr (Int32.lt_of_lt_of_le (show (126 : Int32) < nI 127 by decide) hz))
      · exact hz
    rw [hxj] at hx
    have hin : ∀ s, F_X9_in (nI j).toInt64 33 126 s = some (1, s) := fun s => by
      rw [v_in, decide_eq_true hx]; rfl
    by_cases hn : n < 60
    · have e1 : F_L_appendCharacter (nI j) σ = some (0, cv_sL (cv_sF (cv_sA σ 11 n (nI j)) 3 (nI (n + 1))) (vp_updL (cv_sF (cv_sA σ 11 n (nI j)) 3 (nI (n + 1))).2.2.1 0 (nI (n + 1)).toInt64)) := by
        unfold F_L_appendCharacter F_X8_appendCharacter
        rw [if_neg (Int32.not_lt.mpr hx.1), if_pos hx.2, hT2, show (60 : Int32) = nI 60 from rfl, m_lti (by omega) (by omega), if_pos hn, v_chr j hj, m_narc (by omega), m_st (by omega) (by decide), m_pui, show (cv_sA σ 11 n (nI j)).2.1 3 = nI n from hT2, show (1 : Int32) = nI 1 from rfl, m_add, m_F_eq, m_bh0, m_stL]
      obtain ⟨s1, hs1⟩ : ∃ s1, s1 = cv_sL (cv_sF (cv_sA σ 11 n (nI j)) 3 (nI (n + 1))) (vp_updL (cv_sF (cv_sA σ 11 n (nI j)) 3 (nI (n + 1))).2.2.1 0 (nI (n + 1)).toInt64) := ⟨_, rfl⟩
      rw [← hs1] at e1
      have hg1 : m_gf [11] [3] σ s1 := by rw [hs1]; exact (m_A_gf (by decide)).trans ((m_F_gf (by decide)).trans m_L_gf)
      have h15 : (cv_sF s1 17 0).2.1 15 = nI n := by rw [m_F_ne (by decide), hg1.2 15 (by decide)]; exact hU2
      have e2 : F_X9_appendCharacter (nI j) s1 = some (nI (n + 1), cv_sF (cv_sA (cv_sF s1 17 0) 45 n (nI j)) 15 (nI (n + 1))) := by
        unfold F_X9_appendCharacter F_X9_appendCharacter_b33
        rw [hin, m_bi, if_neg (by decide), hg1.2 15 (by decide), hU2, m_eqki (by omega) (by decide), if_neg (show ¬ n = 60 by omega), m_pui, m_F_eq, if_pos (by decide), h15, m_st (by omega) (by decide), m_pui, show (cv_sA (cv_sF s1 17 0) 45 n (nI j)).2.1 15 = nI n from h15, show (1 : Int32) = nI 1 from rfl, m_add, m_F_eq]
      rw [hxj, e1, m_bi, m_ldS (by omega) hL, hxj, e2, m_bi, m_tail (t := 0) (by rw [m_F_ne (by decide), m_A_2, m_F_eq]) (fun _ => by rw [m_F_22, m_A_2, m_F_22, hs1, m_L_out])]
      refine ⟨_, rfl, ?_⟩
      obtain ⟨s2, hs2⟩ : ∃ s2, s2 = cv_sF (cv_sA (cv_sF s1 17 0) 45 n (nI j)) 15 (nI (n + 1)) := ⟨_, rfl⟩
      rw [← hs2]
      have hg2 : m_gf [11, 45] [3, 15, 17] σ s2 := by rw [hs2]; exact (hg1.mono (by decide) (by decide)).trans ((m_F_gf (by decide)).trans ((m_A_gf (by decide)).trans (m_F_gf (by decide))))
      refine ⟨h.1.gf hg2 (by decide) (by decide), ⟨fun x => if x = n then j else c x, n + 1, ⟨by omega, ?_, fun x hx => ?_⟩, ⟨by omega, ?_, fun x hx => ?_⟩⟩, ?_, h.2.2.2.1.gf hg2 (by decide) (by decide), h.2.2.2.2.1.gf hg2 (by decide), h.2.2.2.2.2.gf hg2 (by decide) (by decide)⟩
      · rw [hs2, m_F_ne (by decide), m_A_2, m_F_ne (by decide), hs1]; show (cv_sF (cv_sA σ 11 n (nI j)) 3 (nI (n + 1))).2.1 3 = nI (n + 1); exact m_F_eq
      · rw [hs2, m_F_1, m_A_ne (by decide), m_F_1, hs1, show (cv_sL (cv_sF (cv_sA σ 11 n (nI j)) 3 (nI (n + 1))) (vp_updL (cv_sF (cv_sA σ 11 n (nI j)) 3 (nI (n + 1))).2.2.1 0 (nI (n + 1)).toInt64)).1 = (cv_sA σ 11 n (nI j)).1 from rfl, m_A_eq]
        by_cases hxn : x = n
        · rw [hxn, m_u_eq]
          show (if n = n then j else c n) < 128 ∧ nI j = nI (if n = n then j else c n)
          rw [if_pos rfl]; exact ⟨by omega, rfl⟩
        · rw [m_u_ne hxn]
          show (if x = n then j else c x) < 128 ∧ _ = nI (if x = n then j else c x)
          rw [if_neg hxn]; exact hT3 x (by omega)
      · rw [hs2, m_F_eq]
      · rw [hs2, m_F_1, m_A_eq, m_F_1, hg1.1 45 (by decide)]
        by_cases hxn : x = n
        · rw [hxn, m_u_eq]
          show (if n = n then j else c n) < 128 ∧ nI j = nI (if n = n then j else c n)
          rw [if_pos rfl]; exact ⟨by omega, rfl⟩
        · rw [m_u_ne hxn]
          show (if x = n then j else c x) < 128 ∧ _ = nI (if x = n then j else c x)
          rw [if_neg hxn]; exact hU3 x (by omega)
      · rw [hg2.2 5 (by decide), hg2.2 16 (by decide)]; exact h.2.2.1
    · have e1 : F_L_appendCharacter (nI j) σ = some (2, σ) := by
        unfold F_L_appendCharacter F_X8_appendCharacter
        rw [if_neg (Int32.not_lt.mpr hx.1), if_pos hx.2, hT2, show (60 : Int32) = nI 60 from rfl, m_lti (by omega) (by omega), if_neg hn, m_bh1 (by decide) rfl]
      have e2 : F_X9_appendCharacter (nI j) σ = some (0, cv_sF σ 17 2) := by
        unfold F_X9_appendCharacter F_X9_appendCharacter_b33
        rw [hin, m_bi, if_neg (by decide), hU2, m_eqki (by omega) (by decide), if_pos (show n = 60 by omega), m_pui, m_F_eq, if_neg (by decide)]
      rw [hxj, e1, m_bi, m_ldS (by omega) hL, hxj, e2, m_bi, m_tail m_F_eq (fun z => absurd z (by decide))]
      exact ⟨_, rfl, h.w (m_F_gf (by decide))⟩
  · have e1 : F_L_appendCharacter (xs (i + 1)) σ = some (1, σ) := by
      unfold F_L_appendCharacter F_X8_appendCharacter
      by_cases h33 : xs (i + 1) < 33
      · rw [if_pos h33, m_bh1 (by decide) rfl]
      · rw [if_neg h33, if_neg (fun z => hx ⟨Int32.not_lt.mp h33, z⟩), m_bh1 (by decide) rfl]
    have e2 : F_X9_appendCharacter (xs (i + 1)) σ = some (0, cv_sF σ 17 1) := by
      unfold F_X9_appendCharacter F_X9_appendCharacter_b33
      rw [v_in, decide_eq_false hx, m_bi, if_pos (by decide), m_pui, m_F_eq, if_neg (by decide)]
    rw [e1, m_bi, m_ldS (by omega) hL, e2, m_bi, m_tail m_F_eq (fun z => absurd z (by decide))]
    exact ⟨_, rfl, h.w (m_F_gf (by decide))⟩
theorem l_faultPosition (h : v_I p σ) : ∃ υ, F_L_law_b320 xs L k (nI i) σ = k (nI i + Int32.ofInt 3) υ ∧ v_I p υ := by
  unfold F_L_law_b320 F_L_law_b2188 F_X8_faultPosition F_X9_faultPosition
  rw [m_bi, m_pui, m_bi, m_F_ne (by decide), if_pos h.2.2.1]
  exact ⟨_, rfl, h.w (m_F_gf (by decide))⟩
end A76
