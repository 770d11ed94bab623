/-! SAVE AND RESTORE -/
section A80
variable {p q : m_P} {σ τ υ : cv_St} {xs : Nat → Int32} {L i j f g x : Nat} {k : Int32 → cv_St → Option (Int32 × cv_St)}
theorem v_cp {α : Type} {k0 k1 N : Nat} {K : cv_St → Option α} (hN : N < 1000) : cv_cp σ k0 N k1 N 0 0 (nI N) K = K (cv_sR σ k1 (va_cpy (σ.1 k0) (σ.1 k1) 0 0 N)) := by
  unfold cv_cp
  rw [m_cl (by omega), show (0 : Int32).toNatClampNeg = 0 by decide, if_neg (fun z => by
    rcases z with z | z | z | z | z
    · exact absurd z (by decide)
    · exact absurd z (by decide)
    · exact nI_pos (by omega) z
    · omega
    · omega)]
theorem v_cpy {a b : Nat → Int32} {N y : Nat} (h : y < N) : va_cpy a b 0 0 N y = a y := by
  unfold va_cpy
  rw [if_pos (by omega), Nat.zero_add, Nat.sub_zero]
theorem v_allC_c {a b : Nat → Int32} (h : cv_allC a 112 = true) (e : ∀ y, y < 112 → b y = a y) : cv_allC b 112 = true := by
  unfold cv_allC
  rw [List.all_eq_true]
  intro i hi
  have hi := List.mem_range.mp hi
  have h1 := cv_allC_at h hi
  rw [e i hi, Bool.and_eq_true]
  exact ⟨decide_eq_true h1.1, decide_eq_true h1.2⟩
theorem m_R_gf {as ss : List Nat} {k : Nat} {a : Nat → Int32} (h : k ∈ as) : m_gf as ss σ (cv_sR σ k a) := (m_fr.R h).gf
theorem l_save (h : v_I p σ) : ∃ υ, F_L_law_b2153 xs L k (nI i) σ = k (nI i + Int32.ofInt 3) υ ∧ v_I p υ := by
  unfold F_L_law_b2153 F_L_law_b2188 F_X8_save F_X0_copyFrom_3_2 F_X9_save
  obtain ⟨s1, hs1⟩ : ∃ s1, s1 = cv_sR (cv_sR (cv_sR σ 17 (va_cpy (σ.1 14) (σ.1 17) 0 0 8)) 18 (va_cpy (σ.1 15) (σ.1 18) 0 0 112)) 19 (va_cpy (σ.1 16) (σ.1 19) 0 0 112) := ⟨_, rfl⟩
  have e1 : cv_cp σ 14 8 17 8 0 0 8 (fun s1 => (if cv_allC (s1.1 15) 112 = true then cv_cp s1 15 112 18 112 0 0 112 (fun s2 => cv_cp s2 16 112 19 112 0 0 112 (fun s3 => some s3)) else none)) = some s1 := by
    rw [show (8 : Int32) = nI 8 from rfl, show (112 : Int32) = nI 112 from rfl, v_cp (by decide), m_R_ne (by decide), if_pos h.2.2.2.2.1.1, v_cp (by decide), v_cp (by decide), m_R_ne (by decide), m_R_ne (by decide), m_R_ne (by decide), m_R_ne (by decide), m_R_ne (by decide), m_R_ne (by decide), hs1]
  rw [e1, m_bv, m_puz1, m_bv, m_pui, show (344 : Int32) = nI 344 from rfl, v_cp (by decide), m_puz1, m_bv]
  have hg1 : m_gf [17, 18, 19] [] σ s1 := by rw [hs1]; exact (m_R_gf (by decide)).trans ((m_R_gf (by decide)).trans (m_R_gf (by decide)))
  obtain ⟨s2, hs2⟩ : ∃ s2, s2 = cv_sF (cv_sR (cv_sF (cv_sF s1 0 1) 17 0) 44 (va_cpy ((cv_sF (cv_sF s1 0 1) 17 0).1 43) ((cv_sF (cv_sF s1 0 1) 17 0).1 44) 0 0 344)) 14 1 := ⟨_, rfl⟩
  rw [← hs2]
  have hg2 : m_gf [17, 18, 19, 44] [0, 17, 14] σ s2 := by rw [hs2]; exact (hg1.mono (by decide) (by decide)).trans ((m_F_gf (by decide)).trans ((m_F_gf (by decide)).trans ((m_R_gf (by decide)).trans (m_F_gf (by decide)))))
  have h44 : ∀ y, y < 344 → s2.1 44 y = σ.1 43 y := fun y hy => by rw [hs2, m_F_1, m_R_eq, v_cpy hy, m_F_1, m_F_1, hg1.1 43 (by decide)]
  have hx1 : ∀ k, k = 17 ∨ k = 18 ∨ k = 19 → s2.1 k = s1.1 k := fun k hk => by rw [hs2, m_F_1, m_R_ne (by omega), m_F_1, m_F_1]
  have h17 : ∀ y, y < 8 → s2.1 17 y = σ.1 14 y := fun y hy => by rw [hx1 17 (by omega), hs1, m_R_ne (by decide), m_R_ne (by decide), m_R_eq, v_cpy hy]
  have h18 : ∀ y, y < 112 → s2.1 18 y = σ.1 15 y := fun y hy => by rw [hx1 18 (by omega), hs1, m_R_ne (by decide), m_R_eq, v_cpy hy]
  have h19 : ∀ y, y < 112 → s2.1 19 y = σ.1 16 y := fun y hy => by rw [hx1 19 (by omega), hs1, m_R_eq, v_cpy hy]
  refine ⟨s2, rfl, h.1.gf hg2 (by decide) (by decide), h.2.1.gf hg2 (by decide) (by decide), ?_, ⟨true, ?_, ?_, fun _ => ⟨p, h.1.1, fun f hf => ?_, fun f hf => ?_⟩⟩, ⟨?_, v_allC_c h.2.2.2.2.1.1 h18⟩, h.2.2.2.2.2.gf hg2 (by decide) (by decide)⟩
  · rw [hg2.2 5 (by decide), hg2.2 16 (by decide)]; exact h.2.2.1
  · rw [hs2, m_F_ne (by decide), m_R_2, m_F_ne (by decide), m_F_eq]; rfl
  · rw [hs2, m_F_eq]; rfl
  · have h14 := m_cn14 h.1.1 hf
    rw [h17 f hf]
    refine ⟨(h.1.2.1 f hf).1, fun i hi => ?_⟩
    rw [h18 _ (by omega), h19 _ (by omega)]
    exact (h.1.2.1 f hf).2 i hi
  · have h14 := m_cn14 h.1.1 hf
    rw [h44 f (by omega)]
    refine ⟨(h.1.2.2.1 f hf).1, fun i hi => ?_⟩
    rw [h44 _ (by omega), h44 _ (by omega), h44 _ (by omega)]
    exact (h.1.2.2.1 f hf).2 i hi
  · rw [hg2.1 15 (by decide)]; exact h.2.2.2.2.1.1
theorem l_restore (h : v_I p σ) : ∃ p' υ, F_L_law_b2164 xs L k (nI i) σ = k (nI i + Int32.ofInt 3) υ ∧ v_I p' υ := by
  obtain ⟨b, b1, b2, b3⟩ := h.2.2.2.1
  unfold F_L_law_b2164 F_L_law_b2188
  cases b with
  | false =>
    have e1 : F_L_restore σ = some (1, σ) := by
      unfold F_L_restore F_X8_restore
      rw [b1, if_pos (by decide), m_bh1 (by decide) rfl]
    have e2 : F_X9_restore σ = some (cv_sF σ 17 1) := by
      unfold F_X9_restore F_X9_restore_b13
      rw [b2, if_pos (by decide), m_pui, m_F_eq, if_neg (by decide)]
    unfold F_X9_thrown
    rw [e1, m_bi, e2, m_bv, m_bi, m_F_eq, if_pos rfl]
    exact ⟨p, _, rfl, h.w (m_F_gf (by decide))⟩
  | true =>
    obtain ⟨q, q1, q2, q3⟩ := b3 rfl
    obtain ⟨s1, hs1⟩ : ∃ s1, s1 = cv_sR (cv_sR (cv_sR σ 14 (va_cpy (σ.1 17) (σ.1 14) 0 0 8)) 15 (va_cpy (σ.1 18) (σ.1 15) 0 0 112)) 16 (va_cpy (σ.1 19) (σ.1 16) 0 0 112) := ⟨_, rfl⟩
    have e1 : F_L_restore σ = some (0, cv_sF (cv_sF s1 1 1) 2 0) := by
      unfold F_L_restore F_X8_restore F_X0_copyFrom_2_3 F_X8_forgetFacts
      rw [b1, if_neg (by decide), show (8 : Int32) = nI 8 from rfl, show (112 : Int32) = nI 112 from rfl, v_cp (by decide), m_R_ne (by decide), if_pos h.2.2.2.2.1.2, v_cp (by decide), v_cp (by decide), m_R_ne (by decide), m_R_ne (by decide), m_R_ne (by decide), m_R_ne (by decide), m_R_ne (by decide), m_R_ne (by decide), m_bv, m_puz1, m_puz0, m_bv, m_bh0, hs1]
    have hg1 : m_gf [14, 15, 16] [] σ s1 := by rw [hs1]; exact (m_R_gf (by decide)).trans ((m_R_gf (by decide)).trans (m_R_gf (by decide)))
    obtain ⟨s3, hs3⟩ : ∃ s3, s3 = cv_sF (cv_sF s1 1 1) 2 0 := ⟨_, rfl⟩
    rw [← hs3] at e1
    have hg3 : m_gf [14, 15, 16] [1, 2] σ s3 := by rw [hs3]; exact (hg1.mono (by decide) (by decide)).trans ((m_F_gf (by decide)).trans (m_F_gf (by decide)))
    obtain ⟨s4, hs4⟩ : ∃ s4, s4 = cv_sF (cv_sF (cv_sR (cv_sF s3 17 0) 43 (va_cpy ((cv_sF s3 17 0).1 44) ((cv_sF s3 17 0).1 43) 0 0 344)) 22 0) 23 0 := ⟨_, rfl⟩
    have e2 : F_X9_restore s3 = some s4 := by
      unfold F_X9_restore F_X9_restore_b13 F_X9_changed
      rw [hg3.2 14 (by decide), b2, if_neg (by decide), m_pui, m_F_eq, if_pos rfl, show (344 : Int32) = nI 344 from rfl, v_cp (by decide), m_puz0, m_puz0, m_bv, hs4]
    have hg4 : m_gf [43] [17, 22, 23] s3 s4 := by rw [hs4]; exact (m_F_gf (by decide)).trans ((m_R_gf (by decide)).trans ((m_F_gf (by decide)).trans (m_F_gf (by decide))))
    have hgA : m_gf [14, 15, 16, 43] [1, 2, 17, 22, 23] σ s4 := (hg3.mono (by decide) (by decide)).trans (hg4.mono (by decide) (by decide))
    have h417 : s4.2.1 17 = 0 := by rw [hs4, m_F_ne (by decide), m_F_ne (by decide), m_R_2, m_F_eq]
    unfold F_X9_thrown
    rw [e1, m_bi, e2, m_bv, m_bi, h417, if_pos rfl]
    have h43 : ∀ y, y < 344 → s4.1 43 y = σ.1 44 y := fun y hy => by rw [hs4, m_F_1, m_F_1, m_R_eq, v_cpy hy, m_F_1, hg3.1 44 (by decide)]
    have hx1 : ∀ k, k = 14 ∨ k = 15 ∨ k = 16 → s4.1 k = s1.1 k := fun k hk => by rw [hs4, m_F_1, m_F_1, m_R_ne (by omega), m_F_1, hs3, m_F_1, m_F_1]
    have h14 : ∀ y, y < 8 → s4.1 14 y = σ.1 17 y := fun y hy => by rw [hx1 14 (by omega), hs1, m_R_ne (by decide), m_R_ne (by decide), m_R_eq, v_cpy hy]
    have h15 : ∀ y, y < 112 → s4.1 15 y = σ.1 18 y := fun y hy => by rw [hx1 15 (by omega), hs1, m_R_ne (by decide), m_R_eq, v_cpy hy]
    have h16 : ∀ y, y < 112 → s4.1 16 y = σ.1 19 y := fun y hy => by rw [hx1 16 (by omega), hs1, m_R_eq, v_cpy hy]
    refine ⟨q, s4, rfl, v_I.n q1 (fun f hf => ?_) (fun f hf => ?_) ?_ ?_ ?_ ?_ (h.2.1.gf hgA (by decide) (by decide)) ?_ (h.2.2.2.1.gf hgA (by decide) (by decide)) ⟨v_allC_c h.2.2.2.2.1.2 h15, ?_⟩⟩
    · have hq14 := m_cn14 q1 hf
      rw [h14 f hf]
      refine ⟨(q2 f hf).1, fun i hi => ?_⟩
      rw [h15 _ (by omega), h16 _ (by omega)]
      exact (q2 f hf).2 i hi
    · have hq14 := m_cn14 q1 hf
      rw [h43 f (by omega)]
      refine ⟨(q3 f hf).1, fun i hi => ?_⟩
      rw [h43 _ (by omega), h43 _ (by omega), h43 _ (by omega)]
      exact (q3 f hf).2 i hi
    · rw [hg4.2 1 (by decide), hs3, m_F_ne (by decide), m_F_eq]
    · rw [hs4, m_F_ne (by decide), m_F_eq]
    · rw [hg4.2 2 (by decide), hs3, m_F_eq]
    · rw [hs4, m_F_eq]
    · rw [hgA.2 5 (by decide), hgA.2 16 (by decide)]; exact h.2.2.1
    · rw [hgA.1 18 (by decide)]; exact h.2.2.2.2.1.2
end A80
