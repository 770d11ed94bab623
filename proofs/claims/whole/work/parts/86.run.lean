/-! RUNS: the whole call -/
section A86
variable {p : m_P} {σ τ υ s t : cv_St} {d e f h i j br a b L : Nat} {cut : Bool} {ch : Int32} {xs : Nat → Int32} {k : Int32 → cv_St → Option (Int32 × cv_St)}
def u_c0 (s : cv_St) (ch : Int32) (f : Nat) : cv_St := cv_sF (cv_sA (cv_sA (cv_sA (cv_sF (cv_sF (cv_sF (cv_sF (cv_sF (cv_sF s 8 0) 9 0) 10 0) 11 ch) 12 8) 13 0) 39 0 (nI f)) 40 0 0) 41 0 0) 8 1
def u_r0 (t : cv_St) (ch : Int32) : cv_St := cv_sA (cv_sF (cv_sF (cv_sF (cv_sF (cv_sF t 28 8) 25 0) 26 0) 27 ch) 24 0) 65 0 0
theorem u_c0_fr : m_fr [38, 39, 40, 41, 42] [8, 9, 10, 11, 12, 13] s (u_c0 s ch f) := by
  unfold u_c0
  exact (((((((((m_fr.F (by decide)).trans (m_fr.F (by decide))).trans (m_fr.F (by decide))).trans (m_fr.F (by decide))).trans (m_fr.F (by decide))).trans (m_fr.F (by decide))).trans (m_fr.A (by decide))).trans (m_fr.A (by decide))).trans (m_fr.A (by decide))).trans (m_fr.F (by decide))
theorem u_r0_fr : m_fr [63, 64, 65] [24, 25, 26, 27, 28] t (u_r0 t ch) := by
  unfold u_r0
  exact (((((m_fr.F (by decide)).trans (m_fr.F (by decide))).trans (m_fr.F (by decide))).trans (m_fr.F (by decide))).trans (m_fr.F (by decide))).trans (m_fr.A (by decide))
theorem u_start (hc : m_cc 14 15 16 s p) (hm : m_mc 43 t p) (h1 : ∀ x, x < 8 → s.1 38 x = nI x) (h2 : ∀ x, x < 8 → t.1 63 x = nI x) : u_R p (u_c0 s ch f) (u_r0 t ch) 0 0 false ∧ u_H 0 (u_c0 s ch f) (u_r0 t ch) 0 ∧ (u_c0 s ch f).1 39 0 = nI f ∧ u_P p 0 f 0 (u_c0 s ch f) ∧ (u_c0 s ch f).2.1 8 = nI (0 + 1) := by
  refine ⟨⟨hc.fr u_c0_fr (by decide) (by decide) (by decide), hm.fr u_r0_fr (by decide), fun r hr => ?_, ⟨?_, ?_, by omega⟩, ⟨?_, ?_, by omega⟩, ?_, ?_, ?_, ?_⟩, ⟨by omega, ?_, ?_, fun z hz => absurd hz (Nat.not_lt_zero _)⟩, ?_, ⟨0, by omega, ?_, by omega⟩, ?_⟩
  · unfold u_c0 u_r0
    rw [m_F_1, m_A_ne (by decide), m_A_ne (by decide), m_A_ne (by decide), m_A_ne (by decide)]
    show s.1 38 r = t.1 63 r
    rw [h1 r hr, h2 r hr]
  · unfold u_c0
    rw [m_F_ne (by decide), m_A_2, m_A_2, m_A_2, m_F_ne (by decide), m_F_ne (by decide), m_F_ne (by decide), m_F_ne (by decide), m_F_eq]; rfl
  · unfold u_r0
    rw [m_A_2, m_F_ne (by decide), m_F_ne (by decide), m_F_ne (by decide), m_F_eq]; rfl
  · unfold u_c0
    rw [m_F_ne (by decide), m_A_2, m_A_2, m_A_2, m_F_ne (by decide), m_F_ne (by decide), m_F_ne (by decide), m_F_eq]; rfl
  · unfold u_r0
    rw [m_A_2, m_F_ne (by decide), m_F_ne (by decide), m_F_eq]; rfl
  · unfold u_c0 u_r0
    rw [m_F_ne (by decide), m_A_2, m_A_2, m_A_2, m_F_ne (by decide), m_F_ne (by decide), m_F_eq, m_A_2, m_F_ne (by decide), m_F_eq]
  · unfold u_c0 u_r0
    rw [m_F_ne (by decide), m_A_2, m_A_2, m_A_2, m_F_ne (by decide), m_F_eq, m_A_2, m_F_ne (by decide), m_F_ne (by decide), m_F_ne (by decide), m_F_ne (by decide), m_F_eq]
  · unfold u_c0
    rw [m_F_ne (by decide), m_A_2, m_A_2, m_A_2, m_F_eq]; rfl
  · unfold u_r0
    rw [m_A_2, m_F_eq]; rfl
  · unfold u_c0
    rw [m_F_1, m_A_eq, m_u_eq]; rfl
  · unfold u_r0
    rw [m_A_eq, m_u_eq]; rfl
  · unfold u_c0
    rw [m_F_1, m_A_ne (by decide), m_A_ne (by decide), m_A_eq, m_u_eq]
  · unfold u_c0
    rw [m_F_1, m_A_ne (by decide), m_A_eq, m_u_eq]; rfl
  · unfold u_c0
    rw [m_F_eq]; rfl
theorem u_full (ho : m_ok p) (hf : f < 8) (hc : m_cc 14 15 16 s p) (hm : m_mc 43 t p) (h1 : ∀ x, x < 8 → s.1 38 x = nI x) (h2 : ∀ x, x < 8 → t.1 63 x = nI x) : ∃ σ' τ' e br cut, F_X4_execute_b59 1000 0 (u_c0 s ch f) = some σ' ∧ F_X9_execute_b9 (F_X9_execute 8) 1000 (nI f) (nI 0) (nI 0) (u_r0 t ch) = some τ' ∧ u_R p σ' τ' e br cut ∧ u_FC 0 (u_c0 s ch f) σ' ∧ u_FM 0 (u_r0 t ch) τ' := by
  have h14 := m_cn14 ho hf
  obtain ⟨q1, q2, q3, q4, q5⟩ := u_start (f := f) (ch := ch) hc hm h1 h2
  obtain ⟨σ', τ', T, e', br', cut', w1, w2, w3, w4, w5, w6, w7, w8⟩ := u_sim ho 8 0 (by omega) (by omega) 1000 f 0 _ _ 0 0 0 hf (by omega) (by omega) q1 q2 q3 q4 q5
  refine ⟨σ', τ', e', br', cut', ?_, w1, w5, w7, w8⟩
  have he := w5.2.2.2.1.2.2
  have hT := w2 (1000 - T) 0 (by omega)
  rw [show 1000 - T + T = 1000 by omega, Nat.zero_add] at hT
  have hT : F_X4_execute_b59 1000 0 (u_c0 s ch f) = F_X4_execute_b59 (1000 - T) (nI T) σ' := hT
  rw [hT]
  obtain ⟨n, hn⟩ : ∃ n, 1000 - T = n + 1 := ⟨1000 - T - 1, by omega⟩
  rw [hn]
  show B_X4_execute_b59 (F_X4_execute_b59 n) (nI T) σ' = _
  unfold B_X4_execute_b59
  rw [show (602 : Int32) = nI 602 from rfl, m_lei (by omega) (by omega), if_neg (by omega)]
  cases cut' with
  | false => rw [w6 rfl, if_pos (by decide)]
  | true =>
    rw [w5.2.2.2.2.2.2.2.1, show (if m_b true = 0 then cv_bv (F_X4_advance (σ'.2.1 8 - 1) σ') (fun s8 => F_X4_execute_b59 n (nI T + Int32.ofInt 1) s8) else some σ') = some σ' from if_neg (by decide)]
    by_cases hz : σ'.2.1 8 ≤ 0
    · rw [if_pos hz]
    · rw [if_neg hz]
theorem c_init : ∀ (n r : Nat) (τ : cv_St), 8 - r < n → r ≤ 8 → m_fr [38] [] σ τ → (∀ x, x < r → τ.1 38 x = nI x) → ∃ s, m_fr [38] [] σ s ∧ (∀ x, x < 8 → s.1 38 x = nI x) ∧ F_X4_execute_b2 n (nI f) ch (nI r) τ = F_X4_execute_b59 1000 0 (u_c0 s ch f) := by
  intro n
  induction n with
  | zero => intro r τ h; omega
  | succ n ih =>
    intro r τ hn hr hfr hx
    show ∃ s, _ ∧ _ ∧ B_X4_execute_b2 (F_X4_execute_b2 n) (nI f) ch (nI r) τ = _
    unfold B_X4_execute_b2 F_X4_enter
    rw [show (8 : Int32) = nI 8 from rfl, m_lei (by omega) (by omega)]
    by_cases hq : 8 ≤ r
    · refine ⟨τ, hfr, fun x hx8 => hx x (by omega), ?_⟩
      have e8 : (cv_sF (cv_sF (cv_sF (cv_sF (cv_sF (cv_sF τ 8 0) 9 0) 10 0) 11 ch) 12 (nI 8)) 13 0).2.1 8 = nI 0 := by
        rw [m_F_ne (by decide), m_F_ne (by decide), m_F_ne (by decide), m_F_ne (by decide), m_F_ne (by decide), m_F_eq]; rfl
      rw [if_pos hq, m_pui, m_pui, m_pui, m_pui, m_pui, m_puz0, e8, m_st (by omega) (by decide), m_A_2, e8, m_st (by omega) (by decide), m_A_2, m_A_2, e8, m_st (by omega) (by decide), m_pui, m_A_2, m_A_2, m_A_2, e8, m_bv, show nI 0 + 1 = (1 : Int32) by decide]
      rfl
    · rw [if_neg hq, m_st (by omega) (by decide), m_i1, m_add]
      refine ih (r + 1) _ (by omega) (by omega) (hfr.trans (m_fr.A (by decide))) (fun x hx' => ?_)
      rw [m_A_eq]
      by_cases hxr : x = r
      · rw [hxr, m_u_eq]
      · rw [m_u_ne hxr]; exact hx x (by omega)
theorem r_init : ∀ (n r : Nat) (τ : cv_St), 8 - r < n → r ≤ 8 → m_fr [63] [] σ τ → (∀ x, x < r → τ.1 63 x = nI x) → ∃ t, m_fr [63] [] σ t ∧ (∀ x, x < 8 → t.1 63 x = nI x) ∧ F_X9_run_b27 n (nI f) ch (nI r) τ = cv_bv (F_X9_execute_b9 (F_X9_execute 8) 1000 (nI f) (nI 0) (nI 0) (u_r0 t ch)) (fun s9 => some ((cv_sF s9 23 1).2.1 25, cv_sF s9 23 1)) := by
  intro n
  induction n with
  | zero => intro r τ h; omega
  | succ n ih =>
    intro r τ hn hr hfr hx
    show ∃ s, _ ∧ _ ∧ B_X9_run_b27 (F_X9_run_b27 n) (nI f) ch (nI r) τ = _
    unfold B_X9_run_b27
    rw [show (8 : Int32) = nI 8 from rfl, m_lei (by omega) (by omega)]
    by_cases hq : 8 ≤ r
    · refine ⟨τ, hfr, fun x hx8 => hx x (by omega), ?_⟩
      rw [if_pos hq, m_pui, m_pui, m_pui, m_pui, m_puz0]
      show cv_bv (F_X9_executeE (F_X9_execute 8) (nI f) (nI 0) (cv_sF (cv_sF (cv_sF (cv_sF (cv_sF τ 28 8) 25 0) 26 0) 27 ch) 24 0)) _ = _
      unfold F_X9_executeE
      rw [m_st (by omega) (by decide)]
      rfl
    · rw [if_neg hq, m_st (by omega) (by decide), m_i1, m_add]
      refine ih (r + 1) _ (by omega) (by omega) (hfr.trans (m_fr.A (by decide))) (fun x hx' => ?_)
      rw [m_A_eq]
      by_cases hxr : x = r
      · rw [hxr, m_u_eq]
      · rw [m_u_ne hxr]; exact hx x (by omega)
end A86
