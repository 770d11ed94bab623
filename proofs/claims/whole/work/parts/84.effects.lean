section A84
variable {p : m_P} {σ τ υ : cv_St} {d e f h i j br a b : Nat} {cut : Bool}
theorem u_eff (ho : m_ok p) (hf : f < 8) (hd : d < 8) (hi : i < m_cn p f) (hR : u_R p σ τ e br false) (hH : u_H d σ τ h) (h39 : σ.1 39 d = nI f) (h40 : σ.1 40 d = nI i) (h8 : σ.2.1 8 = nI (d + 1)) (hX : (decide (e = 300) || u_b p f i h d) = false) (hk99 : m_kd p f i ≠ 99) : ∃ σ1 τ1 br' h' i', F_X4_advance (nI d) σ = some σ1 ∧ (∀ E K, B_X9_execute_b9 E K (nI f) (nI d) (nI i) τ = K (nI f) (nI d) (nI i') τ1) ∧ u_R p σ1 τ1 (e + 1) br' false ∧ u_H d σ1 τ1 h' ∧ u_FC d σ σ1 ∧ u_FM d τ τ1 ∧ i < i' ∧ i' ≤ m_cn p f ∧ ((σ1.2.1 8 = nI d ∧ i' = m_cn p f) ∨ (σ1.2.1 8 = nI (d + 1) ∧ σ1.1 39 d = nI f ∧ u_P p d f i' σ1)) := by
  have h14 := m_cn14 ho hf
  have hvl := m_vl ho hf hi
  obtain ⟨r1, r2, r3, ⟨r4, r5, r6⟩, ⟨r7, r8, r9⟩, r10, r11, r12, r13⟩ := hR
  obtain ⟨g1, g2, g3, g4⟩ := hH
  have hX' := hX
  rw [Bool.or_eq_false_iff] at hX'
  have he3 : e < 300 := by
    have := of_decide_eq_false hX'.1
    omega
  have hub : ¬ ((m_kd p f i = 45 ∧ h = 0) ∨ (m_kd p f i = 43 ∧ h = 6) ∨ (m_kd p f i = 99 ∧ d + 1 = 8)) := of_decide_eq_false hX'.2
  have adv := c_adv ho r1 hf hd hi g1 r6 h39 h40 g2 h8 r4 hX
  have bod : ∀ E K, B_X9_execute_b9 E K (nI f) (nI d) (nI i) τ = F_X9_execute_b94 E K (nI f) (nI d) (nI i) (nI (u_w p f i br (τ.2.1 27))) (u_ta p f i e br τ) := fun E K => r_bod ho r2 hf hi hd g1 r6 g3 r5 r13 r8 (by omega) hX
  obtain ⟨s2, hs2⟩ : ∃ s2, s2 = cv_sA (cv_sF σ 9 (nI (e + 1))) 40 d (nI (i + 1)) := ⟨_, rfl⟩
  obtain ⟨t2, ht2⟩ : ∃ t2, t2 = cv_sF (cv_sF τ 24 0) 25 (nI (e + 1)) := ⟨_, rfl⟩
  rw [← hs2] at adv
  have hF2 : u_FC d σ s2 := by rw [hs2]; exact (u_FC.F (by decide)).tr (u_FC.act (by omega) (Nat.le_refl _))
  have hM2 : u_FM d τ t2 := by rw [ht2]; exact (u_FM.F (by decide)).tr (u_FM.F (by decide))
  have s38 : s2.1 38 = σ.1 38 := by rw [hs2, m_A_ne (by decide), m_F_1]
  have s39 : s2.1 39 = σ.1 39 := by rw [hs2, m_A_ne (by decide), m_F_1]
  have s40 : s2.1 40 d = nI (i + 1) := by rw [hs2, m_A_eq, m_u_eq]
  have s41 : s2.1 41 = σ.1 41 := by rw [hs2, m_A_ne (by decide), m_F_1]
  have s42 : s2.1 42 = σ.1 42 := by rw [hs2, m_A_ne (by decide), m_F_1]
  have t1 : t2.1 = τ.1 := by rw [ht2]; rfl
  have s8 : s2.2.1 8 = nI (d + 1) := by rw [hs2, m_A_2, m_F_ne (by decide)]; exact h8
  have hc2 : m_cc 14 15 16 s2 p := r1.fr hF2.1 (by decide) (by decide) (by decide)
  have hm2 : m_mc 43 t2 p := r2.fr hM2.1 (by decide)
  have hR2 : u_R p s2 t2 (e + 1) br false := by
    refine ⟨hc2, hm2, fun r hr => by rw [s38, t1]; exact r3 r hr, ⟨?_, ?_, by omega⟩, ⟨?_, ?_, by omega⟩, ?_, ?_, ?_, ?_⟩
    · rw [hs2, m_A_2, m_F_eq]
    · rw [ht2, m_F_eq]
    · rw [hs2, m_A_2, m_F_ne (by decide)]; exact r7
    · rw [ht2, m_F_ne (by decide), m_F_ne (by decide)]; exact r8
    · rw [hs2, m_A_2, m_F_ne (by decide), ht2, m_F_ne (by decide), m_F_ne (by decide)]; exact r10
    · rw [hs2, m_A_2, m_F_ne (by decide), ht2, m_F_ne (by decide), m_F_ne (by decide)]; exact r11
    · rw [hs2, m_A_2, m_F_ne (by decide)]; exact r12
    · rw [ht2, m_F_ne (by decide), m_F_eq]; rfl
  have hH2 : u_H d s2 t2 h := ⟨g1, by rw [s41]; exact g2, by rw [t1]; exact g3, fun z hz => by rw [s42, t1]; exact g4 z hz⟩
  have hgt : ∀ w, i < m_nx p f i w := fun w => m_nx_gt hi w
  have hle : ∀ w, m_nx p f i w ≤ m_cn p f := fun w => m_nx_le p f i w
  have go : m_kd p f i ≠ 98 → ∀ u1, m_mc 43 u1 p → (∀ E, F_X9_step E (nI f) (nI i) (nI d) t2 = some u1) → ∀ E K, B_X9_execute_b9 E K (nI f) (nI d) (nI i) τ = K (nI f) (nI d) (nI (m_nx p f i 0)) u1 := by
    intro h98 u1 hm1 hst E K
    rw [bod E K]
    unfold F_X9_execute_b94 u_w u_ta
    rw [if_neg h98, if_neg h98, ← ht2, hst E, m_bv, r_next hm1 ho hf hi (by omega), m_bi]
  have hst : ∀ E, F_X9_step E (nI f) (nI i) (nI d) t2 = (if nI (m_kd p f i) = 43 then cv_ld t2 63 8 (nI (m_fa p f i)) (fun v6 => cv_st t2 64 48 ((6 * nI d) + nI h) v6 (fun s7 => cv_ld s7 65 8 (nI d) (fun v8 => cv_st s7 65 8 (nI d) (v8 + 1) (fun s9 => some s9)))) else (if nI (m_kd p f i) = 45 then cv_ld t2 64 48 (((6 * nI d) + nI h) - 1) (fun v10 => cv_st t2 63 8 (nI (m_fa p f i)) v10 (fun s11 => cv_ld s11 65 8 (nI d) (fun v12 => cv_st s11 65 8 (nI d) (v12 - 1) (fun s13 => some s13)))) else (if nI (m_kd p f i) = 99 then cv_bv (E (nI (m_fa p f i)) (nI d + 1) t2) (fun s14 => some s14) else (if nI (m_kd p f i) = 100 then cv_st t2 63 8 (nI (m_fa p f i)) (t2.2.1 28) (fun s15 => cv_pui s15 28 ((s15.2.1 28) + 1) (fun s16 => some s16)) else (if nI (m_kd p f i) = 109 then cv_bi (F_X9_second (nI f) (nI i) t2) (fun v18 s17 => cv_ld s17 63 8 v18 (fun v19 => cv_st s17 63 8 (nI (m_fa p f i)) v19 (fun s20 => some s20))) else some t2))))) := by
    intro E
    unfold F_X9_step
    rw [r_first hm2 ho hf hi, m_bi, m_ld hd (by decide), t1, g3, r_kind hm2 ho hf hi, m_bi]
  have nx0 : m_kd p f i ≠ 114 → m_nx p f i 0 = min (i + 1) (m_cn p f) := fun hk => by
    unfold m_nx
    rw [if_neg hk, if_neg (fun z => absurd z.2 (by decide))]
  -- the end of a case in which the activation goes on
  have fin : ∀ (σ1 τ1 : cv_St) (h' : Nat), m_kd p f i ≠ 98 → m_kd p f i ≠ 114 → F_X4_advance (nI d) σ = some σ1 → (∀ E, F_X9_step E (nI f) (nI i) (nI d) t2 = some τ1) → u_R p σ1 τ1 (e + 1) br false → u_H d σ1 τ1 h' → u_FC d s2 σ1 → u_FM d t2 τ1 → σ1.2.1 8 = nI (d + 1) → σ1.1 39 d = nI f → σ1.1 40 d = nI (i + 1) → ∃ σ1 τ1 br' h' i', F_X4_advance (nI d) σ = some σ1 ∧ (∀ E K, B_X9_execute_b9 E K (nI f) (nI d) (nI i) τ = K (nI f) (nI d) (nI i') τ1) ∧ u_R p σ1 τ1 (e + 1) br' false ∧ u_H d σ1 τ1 h' ∧ u_FC d σ σ1 ∧ u_FM d τ τ1 ∧ i < i' ∧ i' ≤ m_cn p f ∧ ((σ1.2.1 8 = nI d ∧ i' = m_cn p f) ∨ (σ1.2.1 8 = nI (d + 1) ∧ σ1.1 39 d = nI f ∧ u_P p d f i' σ1)) := by
    intro σ1 τ1 h' k98 k114 e1 e2 e3 e4 e5 e6 e7 e8 e9
    exact ⟨σ1, τ1, br, h', m_nx p f i 0, e1, go k98 τ1 e3.2.1 e2, e3, e4, hF2.tr e5, hM2.tr e6, hgt 0, hle 0, Or.inr ⟨e7, e8, i + 1, by omega, e9, nx0 k114⟩⟩
  have h39' : s2.1 39 d = nI f := by rw [s39]; exact h39
  have hfa8 : m_kd p f i ≠ 98 → m_fa p f i < 8 := fun hk => m_fa8 ho hf hi hk
  obtain ⟨k, hkk⟩ : ∃ k, m_kd p f i = k := ⟨_, rfl⟩
  rw [hkk] at adv
  by_cases k100 : k = 100
  · have ha := hfa8 (by omega)
    have e1 : F_X4_advance (nI d) σ = some (cv_sF (cv_sA s2 38 (m_fa p f i) (s2.2.1 12)) 12 (s2.2.1 12 + 1)) := by
      rw [adv, k100]
      unfold F_X4_perform m_num
      rw [if_pos (by decide), if_neg (by decide), m_st ha (by decide), m_pui, m_A_2]
    have e2 : ∀ E, F_X9_step E (nI f) (nI i) (nI d) t2 = some (cv_sF (cv_sA t2 63 (m_fa p f i) (t2.2.1 28)) 28 (t2.2.1 28 + 1)) := by
      intro E
      rw [hst, hkk, k100, if_neg (by decide), if_neg (by decide), if_neg (by decide), if_pos (by decide), m_st ha (by decide), m_pui, m_A_2]
    refine fin _ _ h (by omega) (by omega) e1 e2 (hR2.mk' ((m_A_gf (by decide)).trans (m_F_gf (by decide))) ((m_A_gf (by decide)).trans (m_F_gf (by decide))) (fun r hr => ?_) ?_) ?_ (u_FC.reg.tr (u_FC.F (by decide))) (u_FM.reg.tr (u_FM.F (by decide))) ?_ ?_ ?_
    · rw [m_F_1, m_A_eq, m_F_1, m_A_eq]
      by_cases hra : r = m_fa p f i
      · rw [hra, m_u_eq, m_u_eq]; exact hR2.2.2.2.2.2.2.1
      · rw [m_u_ne hra, m_u_ne hra]; exact hR2.2.2.1 r hr
    · rw [m_F_eq, m_F_eq, hR2.2.2.2.2.2.2.1]
    · exact ⟨g1, by rw [m_F_1, m_A_ne (by decide)]; exact hH2.2.1, by rw [m_F_1, m_A_ne (by decide)]; exact hH2.2.2.1, fun z hz => by rw [m_F_1, m_A_ne (by decide), m_F_1, m_A_ne (by decide)]; exact hH2.2.2.2 z hz⟩
    · rw [m_F_ne (by decide), m_A_2]; exact s8
    · rw [m_F_1, m_A_ne (by decide)]; exact h39'
    · rw [m_F_1, m_A_ne (by decide)]; exact s40
  by_cases k109 : k = 109
  · have ha := hfa8 (by omega)
    have hb8 : m_sb p f i < 8 := (m_val_k hvl).2.2.1
    have hnum : m_num k (m_fa p f i) (m_sb p f i) = 10 * m_fa p f i + m_sb p f i := by unfold m_num; rw [if_pos k109]
    have e1 : F_X4_advance (nI d) σ = some (cv_sA s2 38 (m_fa p f i) (s2.1 38 (m_sb p f i))) := by
      rw [adv, hnum, k109]
      unfold F_X4_perform
      rw [if_neg (by decide), if_pos (by decide), show (10 : Int32) = nI 10 from rfl, pk_div (by omega) (by omega) (by omega), m_mul, pk_sub (by omega), show 10 * m_fa p f i + m_sb p f i - (10 * m_fa p f i + m_sb p f i) / 10 * 10 = m_sb p f i by omega, show (10 * m_fa p f i + m_sb p f i) / 10 = m_fa p f i by omega, m_ld hb8 (by decide), m_st ha (by decide)]
    have e2 : ∀ E, F_X9_step E (nI f) (nI i) (nI d) t2 = some (cv_sA t2 63 (m_fa p f i) (t2.1 63 (m_sb p f i))) := by
      intro E
      rw [hst, hkk, k109, if_neg (by decide), if_neg (by decide), if_neg (by decide), if_neg (by decide), if_pos (by decide), r_second hm2 ho hf hi, m_bi, m_ld hb8 (by decide), m_st ha (by decide)]
    refine fin _ _ h (by omega) (by omega) e1 e2 (hR2.mk' (m_A_gf (by decide)) (m_A_gf (by decide)) (fun r hr => ?_) ?_) ?_ u_FC.reg u_FM.reg ?_ ?_ ?_
    · rw [m_A_eq, m_A_eq]
      by_cases hra : r = m_fa p f i
      · rw [hra, m_u_eq, m_u_eq]; exact hR2.2.2.1 _ hb8
      · rw [m_u_ne hra, m_u_ne hra]; exact hR2.2.2.1 r hr
    · rw [m_A_2, m_A_2]; exact hR2.2.2.2.2.2.2.1
    · exact ⟨g1, by rw [m_A_ne (by decide)]; exact hH2.2.1, by rw [m_A_ne (by decide)]; exact hH2.2.2.1, fun z hz => by rw [m_A_ne (by decide), m_A_ne (by decide)]; exact hH2.2.2.2 z hz⟩
    · rw [m_A_2]; exact s8
    · rw [m_A_ne (by decide)]; exact h39'
    · rw [m_A_ne (by decide)]; exact s40
  have hnum : m_num k (m_fa p f i) (m_sb p f i) = m_fa p f i := by unfold m_num; rw [if_neg k109]
  by_cases k43 : k = 43
  · have ha := hfa8 (by omega)
    have hh6 : h < 6 := by omega
    have e1 : F_X4_advance (nI d) σ = some (cv_sA (cv_sA s2 42 (d * 6 + h) (s2.1 38 (m_fa p f i))) 41 d (nI (h + 1))) := by
      rw [adv, hnum, k43]
      unfold F_X4_perform
      rw [if_neg (by decide), if_neg (by decide), if_pos (by decide), m_ld hd (by decide), hH2.2.1, m_ld ha (by decide), show (6 : Int32) = nI 6 from rfl, m_mul, m_add, m_st (by omega) (by decide), m_ld hd (by decide), m_A_ne (by decide), hH2.2.1, show (1 : Int32) = nI 1 from rfl, m_add, m_st hd (by decide)]
    have e2 : ∀ E, F_X9_step E (nI f) (nI i) (nI d) t2 = some (cv_sA (cv_sA t2 64 (6 * d + h) (t2.1 63 (m_fa p f i))) 65 d (nI (h + 1))) := by
      intro E
      rw [hst, hkk, k43, if_pos (by decide), m_ld ha (by decide), show (6 : Int32) = nI 6 from rfl, m_mul, m_add, m_st (by omega) (by decide), m_ld hd (by decide), m_A_ne (by decide), hH2.2.2.1, show (1 : Int32) = nI 1 from rfl, m_add, m_st hd (by decide)]
    refine fin _ _ (h + 1) (by omega) (by omega) e1 e2 (hR2.mk' ((m_A_gf (by decide)).trans (m_A_gf (by decide))) ((m_A_gf (by decide)).trans (m_A_gf (by decide))) (fun r hr => ?_) ?_) ?_ ((u_FC.stk (by omega)).tr (u_FC.act (by omega) (Nat.le_refl _))) ((u_FM.stk (by omega)).tr (u_FM.hgt (Nat.le_refl _))) ?_ ?_ ?_
    · rw [m_A_ne (by decide), m_A_ne (by decide), m_A_ne (by decide), m_A_ne (by decide)]; exact hR2.2.2.1 r hr
    · rw [m_A_2, m_A_2, m_A_2, m_A_2]; exact hR2.2.2.2.2.2.2.1
    · refine ⟨by omega, by rw [m_A_eq, m_u_eq], by rw [m_A_eq, m_u_eq], fun z hz => ?_⟩
      rw [m_A_ne (by decide), m_A_eq, m_A_ne (by decide), m_A_eq]
      by_cases hzh : z = h
      · rw [hzh, m_u_eq, m_u_eq]; exact hR2.2.2.1 _ ha
      · rw [m_u_ne (by omega), m_u_ne (by omega)]; exact hH2.2.2.2 z (by omega)
    · rw [m_A_2, m_A_2]; exact s8
    · rw [m_A_ne (by decide), m_A_ne (by decide)]; exact h39'
    · rw [m_A_ne (by decide), m_A_ne (by decide)]; exact s40
  by_cases k45 : k = 45
  · have ha := hfa8 (by omega)
    have hh0 : 0 < h := by omega
    have e1 : F_X4_advance (nI d) σ = some (cv_sA (cv_sA s2 41 d (nI (h - 1))) 38 (m_fa p f i) (s2.1 42 (d * 6 + (h - 1)))) := by
      rw [adv, hnum, k45]
      unfold F_X4_perform
      rw [if_neg (by decide), if_neg (by decide), if_neg (by decide), if_pos (by decide), m_ld hd (by decide), hH2.2.1, show (1 : Int32) = nI 1 from rfl, pk_sub (by omega), m_st hd (by decide), m_ld hd (by decide), m_A_eq, m_u_eq, show (6 : Int32) = nI 6 from rfl, m_mul, m_add, m_ld (by omega) (by decide), m_A_ne (by decide), m_st ha (by decide)]
    have e2 : ∀ E, F_X9_step E (nI f) (nI i) (nI d) t2 = some (cv_sA (cv_sA t2 63 (m_fa p f i) (t2.1 64 (6 * d + (h - 1)))) 65 d (nI (h - 1))) := by
      intro E
      rw [hst, hkk, k45, if_neg (by decide), if_pos (by decide), show (6 : Int32) = nI 6 from rfl, m_mul, m_add, show (1 : Int32) = nI 1 from rfl, pk_sub (by omega), show 6 * d + h - 1 = 6 * d + (h - 1) by omega, m_ld (by omega) (by decide), m_st ha (by decide), m_ld hd (by decide), m_A_ne (by decide), hH2.2.2.1, pk_sub (by omega), m_st hd (by decide)]
    refine fin _ _ (h - 1) (by omega) (by omega) e1 e2 (hR2.mk' ((m_A_gf (by decide)).trans (m_A_gf (by decide))) ((m_A_gf (by decide)).trans (m_A_gf (by decide))) (fun r hr => ?_) ?_) ?_ ((u_FC.act (by omega) (Nat.le_refl _)).tr u_FC.reg) (u_FM.reg.tr (u_FM.hgt (Nat.le_refl _))) ?_ ?_ ?_
    · rw [m_A_eq, m_A_ne (by decide), m_A_ne (by decide), m_A_eq]
      by_cases hra : r = m_fa p f i
      · rw [hra, m_u_eq, m_u_eq]; exact hH2.2.2.2 (h - 1) (by omega)
      · rw [m_u_ne hra, m_u_ne hra]; exact hR2.2.2.1 r hr
    · rw [m_A_2, m_A_2, m_A_2, m_A_2]; exact hR2.2.2.2.2.2.2.1
    · refine ⟨by omega, by rw [m_A_ne (by decide), m_A_eq, m_u_eq], by rw [m_A_eq, m_u_eq], fun z hz => ?_⟩
      rw [m_A_ne (by decide), m_A_ne (by decide), m_A_ne (by decide), m_A_ne (by decide)]
      exact hH2.2.2.2 z (by omega)
    · rw [m_A_2, m_A_2]; exact s8
    · rw [m_A_ne (by decide), m_A_ne (by decide)]; exact h39'
    · rw [m_A_ne (by decide), m_A_ne (by decide)]; exact s40
  have hk128 := (m_val_k hvl).1
  by_cases k98 : k = 98
  · have ha10 : m_fa p f i < 10 := (m_val_k hvl).2.1
    have hk98 : m_kd p f i = 98 := by omega
    obtain ⟨w, hw⟩ : ∃ w, w = u_w p f i br (τ.2.1 27) := ⟨_, rfl⟩
    have hw' : w = if bt (τ.2.1 27) (br % 32) = false then 0 else 1 := by rw [hw]; unfold u_w; rw [if_pos hk98]
    have hw2 : w < 2 := by rw [hw']; split <;> omega
    have e1 : F_X4_advance (nI d) σ = some (cv_sA (cv_sF s2 10 (nI (br + 1))) 40 d (nI (i + 1 + (if w = 0 then 0 else m_fa p f i)))) := by
      rw [adv, hnum, k98]
      unfold F_X4_perform F_X4_isTaken F_X4_perform_b177
      rw [if_neg (by decide), if_neg (by decide), if_neg (by decide), if_neg (by decide), if_neg (by decide), if_pos (by decide), m_ld hd (by decide), s40, hR2.2.2.2.2.1.1, u_mod (by omega), c_contains (by omega), m_bi, m_pui, hR2.2.2.2.2.1.1, show (1 : Int32) = nI 1 from rfl, m_add, m_rzb, m_bi, m_b0i, m_st hd (by decide), m_st hd (by decide), hR2.2.2.2.2.2.1, show t2.2.1 27 = τ.2.1 27 by rw [ht2, m_F_ne (by decide), m_F_ne (by decide)]]
      by_cases hb : bt (τ.2.1 27) (br % 32) = false
      · rw [if_pos hb] at hw'
        rw [if_pos hb, if_pos hw', show (0 : Int32) = nI 0 from rfl, m_add]
      · rw [if_neg hb] at hw'
        rw [if_neg hb, if_neg (show ¬ w = 0 by omega), m_add]
    obtain ⟨t3, ht3⟩ : ∃ t3, t3 = cv_sF t2 26 (nI (br + 1)) := ⟨_, rfl⟩
    have hm3 : m_mc 43 t3 p := by rw [ht3]; exact hm2
    have e2 : ∀ E K, B_X9_execute_b9 E K (nI f) (nI d) (nI i) τ = K (nI f) (nI d) (nI (m_nx p f i w)) t3 := by
      intro E K
      rw [bod E K, ← hw]
      unfold F_X9_execute_b94 u_ta
      rw [if_pos hk98, ← ht2, ← ht3]
      have hst3 : F_X9_step E (nI f) (nI i) (nI d) t3 = some t3 := by
        unfold F_X9_step
        rw [r_first hm3 ho hf hi, m_bi, m_ld hd (by decide), r_kind hm3 ho hf hi, m_bi, hk98, if_neg (by decide), if_neg (by decide), if_neg (by decide), if_neg (by decide), if_neg (by decide)]
      rw [hst3, m_bv, r_next hm3 ho hf hi hw2, m_bi]
    refine ⟨_, t3, br + 1, h, m_nx p f i w, e1, e2, ?_, ?_, hF2.tr ((u_FC.F (by decide)).tr (u_FC.act (by omega) (Nat.le_refl _))), hM2.tr (by rw [ht3]; exact u_FM.F (by decide)), hgt w, hle w, Or.inr ⟨?_, ?_, _, ?_, by rw [m_A_eq, m_u_eq], ?_⟩⟩
    · obtain ⟨q1, q2, q3, q4, q5, q6, q7, q8, q9⟩ := hR2
      refine ⟨q1.fr ((m_fr.F (as := [40]) (ss := [10]) (by decide)).trans (m_fr.A (by decide))) (by decide) (by decide) (by decide), hm3, fun r hr => ?_, ⟨?_, ?_, by omega⟩, ⟨?_, ?_, by omega⟩, ?_, ?_, ?_, ?_⟩
      · rw [m_A_ne (by decide), m_F_1, ht3, m_F_1]; exact q3 r hr
      · rw [m_A_2, m_F_ne (by decide)]; exact q4.1
      · rw [ht3, m_F_ne (by decide)]; exact q4.2.1
      · rw [m_A_2, m_F_eq]
      · rw [ht3, m_F_eq]
      · rw [m_A_2, m_F_ne (by decide), ht3, m_F_ne (by decide)]; exact q6
      · rw [m_A_2, m_F_ne (by decide), ht3, m_F_ne (by decide)]; exact q7
      · rw [m_A_2, m_F_ne (by decide)]; exact q8
      · rw [ht3, m_F_ne (by decide)]; exact q9
    · exact ⟨g1, by rw [m_A_ne (by decide), m_F_1]; exact hH2.2.1, by rw [ht3, m_F_1]; exact hH2.2.2.1, fun z hz => by rw [m_A_ne (by decide), m_F_1, ht3, m_F_1]; exact hH2.2.2.2 z hz⟩
    · rw [m_A_2, m_F_ne (by decide)]; exact s8
    · rw [m_A_ne (by decide), m_F_1]; exact h39'
    · split <;> omega
    · unfold m_nx
      rw [if_neg (show ¬ m_kd p f i = 114 by omega)]
      by_cases hw0 : w = 0
      · rw [if_pos hw0, if_neg (show ¬ (m_kd p f i = 98 ∧ w = 1) by omega), Nat.add_zero]
      · rw [if_neg hw0, if_pos (show m_kd p f i = 98 ∧ w = 1 by omega)]
  by_cases k114 : k = 114
  · have hk114 : m_kd p f i = 114 := by omega
    have e1 : F_X4_advance (nI d) σ = some (cv_sF s2 8 (nI d)) := by
      rw [adv, k114]
      unfold F_X4_perform
      rw [if_neg (by decide), if_neg (by decide), if_neg (by decide), if_neg (by decide), if_neg (by decide), if_neg (by decide), if_pos (by decide), m_pui, s8, show (1 : Int32) = nI 1 from rfl, pk_sub (by omega), Nat.add_sub_cancel]
    have e2 : ∀ E, F_X9_step E (nI f) (nI i) (nI d) t2 = some t2 := by
      intro E
      rw [hst, hk114, if_neg (by decide), if_neg (by decide), if_neg (by decide), if_neg (by decide), if_neg (by decide)]
    refine ⟨_, t2, br, h, m_nx p f i 0, e1, go (by omega) t2 hm2 e2, hR2.mk' (m_F_gf (by decide)) m_gf.rfl' (fun r hr => hR2.2.2.1 r hr) ?_, hH2, hF2.tr (u_FC.F (by decide)), hM2, hgt 0, hle 0, Or.inl ⟨m_F_eq, ?_⟩⟩
    · rw [m_F_ne (by decide)]; exact hR2.2.2.2.2.2.2.1
    · unfold m_nx
      rw [if_pos hk114, Nat.min_self]
  have e1 : F_X4_advance (nI d) σ = some s2 := by
    rw [adv]
    unfold F_X4_perform
    rw [m_eqki (by omega) (by decide), m_eqki (by omega) (by decide), m_eqki (by omega) (by decide), m_eqki (by omega) (by decide), m_eqki (by omega) (by decide), m_eqki (by omega) (by decide), m_eqki (by omega) (by decide), if_neg k100, if_neg k109, if_neg k43, if_neg k45, if_neg (show ¬ k = 99 by omega), if_neg k98, if_neg k114]
  have e2 : ∀ E, F_X9_step E (nI f) (nI i) (nI d) t2 = some t2 := by
    intro E
    rw [hst, hkk, m_eqki (by omega) (by decide), m_eqki (by omega) (by decide), m_eqki (by omega) (by decide), m_eqki (by omega) (by decide), m_eqki (by omega) (by decide), if_neg k43, if_neg k45, if_neg (show ¬ k = 99 by omega), if_neg k100, if_neg k109]
  exact fin s2 t2 h (by omega) (by omega) e1 e2 hR2 hH2 ⟨m_fr.rfl', fun _ _ => ⟨rfl, rfl, rfl⟩, fun _ _ => rfl⟩ ⟨m_fr.rfl', fun _ _ => rfl, fun _ _ => rfl⟩ s8 h39' s40
end A84
