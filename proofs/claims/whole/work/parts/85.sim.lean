section A85
variable {p : m_P} {σ τ υ : cv_St} {d e f h i j br a b : Nat} {cut : Bool}
theorem u_FC.dn (h : u_FC (d + 1) σ τ) : u_FC d σ τ := ⟨h.1, fun x hx => h.2.1 x (by omega), fun z hz => h.2.2 z (by omega)⟩
theorem u_FM.dn (h : u_FM (d + 1) σ τ) : u_FM d σ τ := ⟨h.1, fun x hx => h.2.1 x (by omega), fun z hz => h.2.2 z (by omega)⟩
/-- a call: both sides open the activation -/
theorem u_call (ho : m_ok p) (hf : f < 8) (hd : d < 8) (hi : i < m_cn p f) (hR : u_R p σ τ e br false) (hH : u_H d σ τ h) (h39 : σ.1 39 d = nI f) (h40 : σ.1 40 d = nI i) (h8 : σ.2.1 8 = nI (d + 1)) (hX : (decide (e = 300) || u_b p f i h d) = false) (hk : m_kd p f i = 99) : ∃ σ1 τ1, d + 1 < 8 ∧ m_fa p f i < 8 ∧ e < 300 ∧ F_X4_advance (nI d) σ = some σ1 ∧ (∀ E K τ2, m_mc 43 τ2 p → F_X9_executeE E (nI (m_fa p f i)) (nI (d + 1)) (cv_sF (cv_sF τ 24 0) 25 (nI (e + 1))) = some τ2 → B_X9_execute_b9 (fun x y s => F_X9_executeE E x y s) K (nI f) (nI d) (nI i) τ = K (nI f) (nI d) (nI (min (i + 1) (m_cn p f))) τ2) ∧ (∀ E, F_X9_executeE E (nI (m_fa p f i)) (nI (d + 1)) (cv_sF (cv_sF τ 24 0) 25 (nI (e + 1))) = F_X9_execute_b9 E 1000 (nI (m_fa p f i)) (nI (d + 1)) (nI 0) τ1) ∧ u_R p σ1 τ1 (e + 1) br false ∧ u_H (d + 1) σ1 τ1 0 ∧ σ1.1 39 (d + 1) = nI (m_fa p f i) ∧ u_P p (d + 1) (m_fa p f i) 0 σ1 ∧ σ1.2.1 8 = nI (d + 1 + 1) ∧ u_FC d σ σ1 ∧ u_FM d τ τ1 ∧ σ1.1 39 d = nI f ∧ σ1.1 40 d = nI (i + 1) ∧ u_H d σ1 τ1 h := by
  have h14 := m_cn14 ho hf
  have hvl := m_vl ho hf hi
  obtain ⟨r1, r2, r3, ⟨r4, r5, r6⟩, ⟨r7, r8, r9⟩, r10, r11, r12, r13⟩ := hR
  obtain ⟨g1, g2, g3, g4⟩ := hH
  have hX' := hX
  rw [Bool.or_eq_false_iff] at hX'
  have he3 : e < 300 := by
    have := of_decide_eq_false hX'.1
    omega
  have hub : ¬ ((m_kd p f i = 45 ∧ h = 0) ∨ (m_kd p f i = 43 ∧ h = 6) ∨ (m_kd p f i = 99 ∧ d + 1 = 8)) := of_decide_eq_false hX'.2
  have hd1 : d + 1 < 8 := by omega
  have ha : m_fa p f i < 8 := m_fa8 ho hf hi (by omega)
  have adv := c_adv ho r1 hf hd hi g1 r6 h39 h40 g2 h8 r4 hX
  obtain ⟨s2, hs2⟩ : ∃ s2, s2 = cv_sA (cv_sF σ 9 (nI (e + 1))) 40 d (nI (i + 1)) := ⟨_, rfl⟩
  obtain ⟨t2, ht2⟩ : ∃ t2, t2 = cv_sF (cv_sF τ 24 0) 25 (nI (e + 1)) := ⟨_, rfl⟩
  rw [← hs2] at adv
  rw [← ht2]
  have hF2 : u_FC d σ s2 := by rw [hs2]; exact (u_FC.F (by decide)).tr (u_FC.act (by omega) (Nat.le_refl _))
  have hM2 : u_FM d τ t2 := by rw [ht2]; exact (u_FM.F (by decide)).tr (u_FM.F (by decide))
  have t1 : t2.1 = τ.1 := by rw [ht2]; rfl
  have s8 : s2.2.1 8 = nI (d + 1) := by rw [hs2, m_A_2, m_F_ne (by decide)]; exact h8
  have hm2 : m_mc 43 t2 p := r2.fr hM2.1 (by decide)
  obtain ⟨σ1, hσ1⟩ : ∃ σ1, σ1 = cv_sF (cv_sA (cv_sA (cv_sA s2 39 (d + 1) (nI (m_fa p f i))) 40 (d + 1) 0) 41 (d + 1) 0) 8 (nI (d + 1 + 1)) := ⟨_, rfl⟩
  obtain ⟨τ1, hτ1⟩ : ∃ τ1, τ1 = cv_sA t2 65 (d + 1) 0 := ⟨_, rfl⟩
  have e1 : F_X4_advance (nI d) σ = some σ1 := by
    rw [adv, hk, show m_num 99 (m_fa p f i) (m_sb p f i) = m_fa p f i from rfl]
    unfold F_X4_perform F_X4_enter
    rw [if_neg (by decide), if_neg (by decide), if_neg (by decide), if_neg (by decide), if_pos (by decide), s8, m_st hd1 (by decide), show (cv_sA s2 39 (d + 1) (nI (m_fa p f i))).2.1 8 = nI (d + 1) from s8, m_st hd1 (by decide), show (cv_sA (cv_sA s2 39 (d + 1) (nI (m_fa p f i))) 40 (d + 1) 0).2.1 8 = nI (d + 1) from s8, m_st hd1 (by decide), m_pui, show (cv_sA (cv_sA (cv_sA s2 39 (d + 1) (nI (m_fa p f i))) 40 (d + 1) 0) 41 (d + 1) 0).2.1 8 = nI (d + 1) from s8, show (1 : Int32) = nI 1 from rfl, m_add, m_bv, hσ1]
  have gσ : u_FC (d + 1) s2 σ1 := by
    rw [hσ1]
    exact (((u_FC.act (by omega) (Nat.le_refl _)).tr (u_FC.act (by omega) (Nat.le_refl _))).tr (u_FC.act (by omega) (Nat.le_refl _))).tr (u_FC.F (by decide))
  have gτ : u_FM (d + 1) t2 τ1 := by rw [hτ1]; exact u_FM.hgt (Nat.le_refl _)
  refine ⟨σ1, τ1, hd1, ha, he3, e1, fun E K τ2 hm hE => ?_, fun E => ?_, ?_, ?_, ?_, ?_, ?_, hF2.tr gσ.dn, hM2.tr gτ.dn, ?_, ?_, ?_⟩
  · rw [r_bod ho r2 hf hi hd g1 r6 g3 r5 r13 r8 (by omega) hX]
    unfold F_X9_execute_b94 u_w u_ta
    rw [if_neg (by omega), if_neg (by omega), ← ht2]
    have hst : F_X9_step (fun x y s => F_X9_executeE E x y s) (nI f) (nI i) (nI d) t2 = some τ2 := by
      unfold F_X9_step
      rw [r_first hm2 ho hf hi, m_bi, m_ld hd (by decide), r_kind hm2 ho hf hi, m_bi, hk, if_neg (by decide), if_neg (by decide), if_pos (by decide), show (1 : Int32) = nI 1 from rfl, m_add, show ((fun x y s => F_X9_executeE E x y s) (nI (m_fa p f i)) (nI (d + 1)) t2) = some τ2 from hE, m_bv]
    rw [hst, m_bv, r_next hm ho hf hi (by omega), m_bi]
    unfold m_nx
    rw [if_neg (by omega), if_neg (fun z => absurd z.2 (by decide))]
  · unfold F_X9_executeE
    rw [m_st hd1 (by decide), ← hτ1]
    rfl
  · refine ⟨r1.fr (hF2.1.trans gσ.1) (by decide) (by decide) (by decide), hm2.fr gτ.1 (by decide), fun r hr => ?_, ⟨?_, ?_, by omega⟩, ⟨?_, ?_, by omega⟩, ?_, ?_, ?_, ?_⟩
    · rw [hσ1, m_F_1, m_A_ne (by decide), m_A_ne (by decide), m_A_ne (by decide), hs2, m_A_ne (by decide), m_F_1, hτ1, m_A_ne (by decide), t1]; exact r3 r hr
    · rw [hσ1, m_F_ne (by decide), m_A_2, m_A_2, m_A_2, hs2, m_A_2, m_F_eq]
    · rw [hτ1, m_A_2, ht2, m_F_eq]
    · rw [hσ1, m_F_ne (by decide), m_A_2, m_A_2, m_A_2, hs2, m_A_2, m_F_ne (by decide)]; exact r7
    · rw [hτ1, m_A_2, ht2, m_F_ne (by decide), m_F_ne (by decide)]; exact r8
    · rw [hσ1, m_F_ne (by decide), m_A_2, m_A_2, m_A_2, hs2, m_A_2, m_F_ne (by decide), hτ1, m_A_2, ht2, m_F_ne (by decide), m_F_ne (by decide)]; exact r10
    · rw [hσ1, m_F_ne (by decide), m_A_2, m_A_2, m_A_2, hs2, m_A_2, m_F_ne (by decide), hτ1, m_A_2, ht2, m_F_ne (by decide), m_F_ne (by decide)]; exact r11
    · rw [hσ1, m_F_ne (by decide), m_A_2, m_A_2, m_A_2, hs2, m_A_2, m_F_ne (by decide)]; exact r12
    · rw [hτ1, m_A_2, ht2, m_F_ne (by decide), m_F_eq]; rfl
  · exact ⟨by omega, by rw [hσ1, m_F_1, m_A_eq, m_u_eq]; rfl, by rw [hτ1, m_A_eq, m_u_eq]; rfl, fun z hz => absurd hz (Nat.not_lt_zero _)⟩
  · rw [hσ1, m_F_1, m_A_ne (by decide), m_A_ne (by decide), m_A_eq, m_u_eq]
  · exact ⟨0, by omega, by rw [hσ1, m_F_1, m_A_ne (by decide), m_A_eq, m_u_eq]; rfl, by omega⟩
  · rw [hσ1, m_F_eq]
  · rw [(gσ.2.1 d (by omega)).1, hs2, m_A_ne (by decide), m_F_1]; exact h39
  · rw [(gσ.2.1 d (by omega)).2.1, hs2, m_A_eq, m_u_eq]
  · refine ⟨g1, ?_, ?_, fun z hz => ?_⟩
    · rw [(gσ.2.1 d (by omega)).2.2, hs2, m_A_ne (by decide), m_F_1]; exact g2
    · rw [gτ.2.1 d (by omega), t1]; exact g3
    · rw [gσ.2.2 _ (by omega), hs2, m_A_ne (by decide), m_F_1, gτ.2.2 _ (by omega), t1]; exact g4 z hz
theorem u_sim (ho : m_ok p) : ∀ (N d : Nat), d + N = 8 → d < 8 → ∀ (m f i : Nat) (σ τ : cv_St) (e br h : Nat), f < 8 → i ≤ m_cn p f → m_cn p f - i + 1 < m → u_R p σ τ e br false → u_H d σ τ h → σ.1 39 d = nI f → u_P p d f i σ → σ.2.1 8 = nI (d + 1) → ∃ σ' τ' T e' br' cut', F_X9_execute_b9 (F_X9_execute N) m (nI f) (nI d) (nI i) τ = some τ' ∧ u_C T σ σ' ∧ T ≤ 2 * (e' - e) + 1 ∧ e ≤ e' ∧ u_R p σ' τ' e' br' cut' ∧ (cut' = false → σ'.2.1 8 = nI d) ∧ u_FC d σ σ' ∧ u_FM d τ τ' := by
  intro N
  induction N with
  | zero => intro d h1 h2; omega
  | succ N ihN =>
    intro d hdN hd m
    induction m with
    | zero => intro f i σ τ e br h _ _ h3; omega
    | succ m ihm =>
      intro f i σ τ e br h hf hi hm hR hH h39 hP h8
      have h14 := m_cn14 ho hf
      obtain ⟨j, j1, j2, j3⟩ := hP
      show ∃ σ' τ' T e' br' cut', B_X9_execute_b9 (F_X9_execute (N + 1)) (F_X9_execute_b9 (F_X9_execute (N + 1)) m) (nI f) (nI d) (nI i) τ = some τ' ∧ _
      have done : ∀ {m i : Nat} {τ : cv_St}, 0 < m → m_mc 43 τ p → i ≤ m_cn p f → (m_cn p f ≤ i ∨ τ.2.1 24 = 1) → F_X9_execute_b9 (F_X9_execute (N + 1)) m (nI f) (nI d) (nI i) τ = some τ := by
        intro m i τ hm0 hmc hi hz
        obtain ⟨m, rfl⟩ : ∃ m', m = m' + 1 := ⟨m - 1, by omega⟩
        exact r_bodE ho hmc hf hi hz
      by_cases hic : i < m_cn p f
      · have hji : j = i := by omega
        rw [hji] at j2
        cases hX : (decide (e = 300) || u_b p f i h d) with
        | true =>
          have c1 := u_C1 hd h8 hR.2.2.2.2.2.2.2.1 (c_advX ho hR.1 hf hd hic hH.1 hR.2.2.2.1.2.2 h39 j2 hH.2.1 h8 hR.2.2.2.1.1 hX)
          rw [r_bodX ho hR.2.1 hf hic hd hH.1 hR.2.2.2.1.2.2 hH.2.2.1 hR.2.2.2.1.2.1 hR.2.2.2.2.2.2.2.2 hX]
          have hm1 : m_mc 43 (cv_sF τ 24 1) p := hR.2.1
          refine ⟨_, _, 1, e, br, true, done (by omega) hm1 (by omega) (Or.inr m_F_eq), c1, by omega, Nat.le_refl _, ?_, fun z => (by cases z), u_FC.F (by decide), u_FM.F (by decide)⟩
          obtain ⟨r1, r2, r3, ⟨r4, r5, r6⟩, ⟨r7, r8, r9⟩, r10, r11, r12, r13⟩ := hR
          refine ⟨r1, r2, r3, ⟨?_, ?_, r6⟩, ⟨?_, ?_, r9⟩, ?_, ?_, m_F_eq, m_F_eq⟩
          · rw [m_F_ne (by decide)]; exact r4
          · rw [m_F_ne (by decide)]; exact r5
          · rw [m_F_ne (by decide)]; exact r7
          · rw [m_F_ne (by decide)]; exact r8
          · rw [m_F_ne (by decide), m_F_ne (by decide)]; exact r10
          · rw [m_F_ne (by decide), m_F_ne (by decide)]; exact r11
        | false =>
          by_cases hk : m_kd p f i = 99
          · obtain ⟨σ1, τ1, hd1, ha, he3, q1, q2, q3, q4, q5, q6, q7, q8, q9, q10, q11, q12, q13⟩ := u_call ho hf hd hic hR hH h39 j2 h8 hX hk
            have ha14 := m_cn14 ho ha
            obtain ⟨σ2, τ2, T2, e2, br2, cut2, w1, w2, w3, w4, w5, w6, w7, w8⟩ := ihN (d + 1) (by omega) hd1 1000 (m_fa p f i) 0 σ1 τ1 (e + 1) br 0 ha (by omega) (by omega) q4 q5 q6 q7 q8
            have c1 := u_C1 hd h8 hR.2.2.2.2.2.2.2.1 q1
            have hb : B_X9_execute_b9 (F_X9_execute (N + 1)) (F_X9_execute_b9 (F_X9_execute (N + 1)) m) (nI f) (nI d) (nI i) τ = F_X9_execute_b9 (F_X9_execute (N + 1)) m (nI f) (nI d) (nI (min (i + 1) (m_cn p f))) τ2 := q2 (F_X9_execute N) (F_X9_execute_b9 (F_X9_execute (N + 1)) m) τ2 w5.2.1 ((q3 (F_X9_execute N)).trans w1)
            rw [hb]
            cases cut2 with
            | true =>
              exact ⟨σ2, τ2, 1 + T2, e2, br2, true, done (by omega) w5.2.1 (Nat.min_le_right _ _) (Or.inr w5.2.2.2.2.2.2.2.2), u_Ct c1 w2, by omega, by omega, w5, fun z => (by cases z), q9.tr w7.dn, q10.tr w8.dn⟩
            | false =>
              have hH2 : u_H d σ2 τ2 h := by
                refine ⟨hH.1, ?_, ?_, fun z hz => ?_⟩
                · rw [(w7.2.1 d (by omega)).2.2]; exact q13.2.1
                · rw [w8.2.1 d (by omega)]; exact q13.2.2.1
                · have := hH.1
                  rw [w7.2.2 _ (by omega), w8.2.2 _ (by omega)]; exact q13.2.2.2 z hz
              have o1 : min (i + 1) (m_cn p f) ≤ m_cn p f := Nat.min_le_right _ _
              have o2 : m_cn p f - min (i + 1) (m_cn p f) + 1 < m := by omega
              obtain ⟨σ3, τ3, T3, e3, br3, cut3, v1, v2, v3, v4, v5, v6, v7, v8⟩ := ihm f (min (i + 1) (m_cn p f)) σ2 τ2 e2 br2 h hf o1 o2 w5 hH2 (by rw [(w7.2.1 d (by omega)).1]; exact q11) ⟨i + 1, by omega, by rw [(w7.2.1 d (by omega)).2.1]; exact q12, rfl⟩ (w6 rfl)
              exact ⟨σ3, τ3, 1 + T2 + T3, e3, br3, cut3, v1, u_Ct (u_Ct c1 w2) v2, by omega, by omega, v5, v6, (q9.tr w7.dn).tr v7, (q10.tr w8.dn).tr v8⟩
          · obtain ⟨σ1, τ1, br', h', i', q1, q2, q3, q4, q5, q6, q7, q8, q9⟩ := u_eff ho hf hd hic hR hH h39 j2 h8 hX hk
            have c1 := u_C1 hd h8 hR.2.2.2.2.2.2.2.1 q1
            rw [q2]
            rcases q9 with ⟨o1, o2⟩ | ⟨o1, o2, o3⟩
            · exact ⟨σ1, τ1, 1, e + 1, br', false, done (by omega) q3.2.1 q8 (Or.inl (by omega)), c1, by omega, by omega, q3, fun _ => o1, q5, q6⟩
            · obtain ⟨σ3, τ3, T3, e3, br3, cut3, v1, v2, v3, v4, v5, v6, v7, v8⟩ := ihm f i' σ1 τ1 (e + 1) br' h' hf q8 (by omega) q3 q4 o2 o3 o1
              exact ⟨σ3, τ3, 1 + T3, e3, br3, cut3, v1, u_Ct c1 v2, by omega, by omega, v5, v6, q5.tr v7, q6.tr v8⟩
      · have hie : i = m_cn p f := by omega
        have c1 := u_C1 hd h8 hR.2.2.2.2.2.2.2.1 (c_advE ho hR.1 hf hd h39 j2 j1 (by omega) h8)
        refine ⟨_, τ, 1, e, br, false, r_bodE ho hR.2.1 hf hi (Or.inl (by omega)), c1, by omega, Nat.le_refl _, ?_, fun _ => m_F_eq, u_FC.F (by decide), ⟨m_fr.rfl', fun _ _ => rfl, fun _ _ => rfl⟩⟩
        refine hR.mk' (m_F_gf (by decide)) m_gf.rfl' (fun r hr => hR.2.2.1 r hr) ?_
        rw [m_F_ne (by decide)]; exact hR.2.2.2.2.2.2.1
end A85
