section A55
variable {p : m_P} {σ τ : cv_St} {xs : Nat → Int32} {L i j : Nat} {k : Int32 → cv_St → Option (Int32 × cv_St)} {q : Nat × Nat}
def m_hj (p : m_P) (σ : cv_St) (j : Nat) : Bool := match (m_sF p 8)[j]? with
  | none => false
  | some q => decide (¬ m_vM p q = 0 ∨ ¬ m_vL p σ q = 0)
theorem c_has (hc : m_cc 14 15 16 σ p) (ho : m_ok p) (h : m_CA p σ) (hj : j < (m_sF p 8).length) : F_X8_hasProblem (nI j) σ = some (m_b (m_hj p σ j), σ) := by
  obtain ⟨q, hq, hs⟩ := m_site hj
  unfold F_X8_hasProblem F_X8_hasProblem_b19 m_hj
  rw [hq, c_vM ho h hq hs, m_bi, c_vL hc ho h hq hs, m_bi]
  show _ = some (m_b (decide (¬ m_vM p q = 0 ∨ ¬ m_vL p σ q = 0)), σ)
  by_cases h1 : m_vM p q = 0
  · rw [if_pos h1]
    by_cases h2 : m_vL p σ q = 0
    · rw [if_pos h2, decide_eq_false (fun z => z.elim (fun z => z h1) (fun z => z h2))]; rfl
    · rw [if_neg h2, decide_eq_true (Or.inr h2)]; rfl
  · rw [if_neg h1, decide_eq_true (Or.inl h1)]; rfl
theorem r_has (hc : m_mc 43 τ p) (ho : m_ok p) (g : m_CA p σ) (h : m_MA p τ) (hj : j < (m_sF p 8).length) : F_X9_isProblem (nI j) τ = some (m_b (m_hj p σ j), τ) := by
  obtain ⟨q, hq, hs⟩ := m_site hj
  unfold F_X9_isProblem F_X9_isProblem_b16 m_hj
  rw [hq, r_vM hc ho h hq hs, m_bi, r_vL hc ho g h hq hs, m_bi]
  show _ = some (m_b (decide (¬ m_vM p q = 0 ∨ ¬ m_vL p σ q = 0)), τ)
  by_cases h1 : m_vM p q = 0
  · rw [if_pos h1]
    by_cases h2 : m_vL p σ q = 0
    · rw [if_pos h2, decide_eq_false (fun z => z.elim (fun z => z h1) (fun z => z h2))]; rfl
    · rw [if_neg h2, decide_eq_true (Or.inr h2)]; rfl
  · rw [if_neg h1, decide_eq_true (Or.inl h1)]; rfl
def m_ct (P : Nat → Bool) : Nat → Nat
  | 0 => 0
  | n + 1 => m_ct P n + (if P n = false then 0 else 1)
theorem c_countP (hc : m_cc 14 15 16 σ p) (ho : m_ok p) (h : m_CA p σ) : F_X8_countProblems σ = some (nI (m_ct (m_hj p σ) (m_sF p 8).length), σ) := by
  have hlen := m_sF_len ho 8 (Nat.le_refl _)
  have key : ∀ n j, (m_sF p 8).length - j < n → j ≤ (m_sF p 8).length → F_X8_countProblems_b4 n (nI (m_ct (m_hj p σ) j)) (nI j) σ = some (nI (m_ct (m_hj p σ) (m_sF p 8).length), σ) := by
    intro n
    induction n with
    | zero => intro j h; omega
    | succ n ih =>
      intro j hn hj
      show B_X8_countProblems_b4 (F_X8_countProblems_b4 n) _ _ _ = _
      unfold B_X8_countProblems_b4 F_X8_countProblems_b26
      rw [h.2.2.2.2.2.2.1.1, m_lei (by omega) (by omega)]
      by_cases hq : (m_sF p 8).length ≤ j
      · rw [if_pos hq, show j = (m_sF p 8).length by omega]
      · rw [if_neg hq, c_has hc ho h (by omega), m_bi, m_b0i, m_i1, m_add, m_add]
        have := ih (j + 1) (by omega) (by omega)
        rw [show m_ct (m_hj p σ) (j + 1) = m_ct (m_hj p σ) j + (if m_hj p σ j = false then 0 else 1) from rfl] at this
        by_cases hb : m_hj p σ j = false
        · rw [if_pos hb]; rw [if_pos hb, Nat.add_zero] at this; exact this
        · rw [if_neg hb]; rw [if_neg hb] at this; exact this
  exact key 1000 0 (by omega) (by omega)
theorem r_countP (hc : m_mc 43 τ p) (ho : m_ok p) (g : m_CA p σ) (h : m_MA p τ) : F_X9_problemMany τ = some (nI (m_ct (m_hj p σ) (m_sF p 8).length), τ) := by
  have hlen := m_sF_len ho 8 (Nat.le_refl _)
  have key : ∀ n j, (m_sF p 8).length - j < n → j ≤ (m_sF p 8).length → F_X9_problemMany_b4 n (nI (m_ct (m_hj p σ) j)) (nI j) τ = some (nI (m_ct (m_hj p σ) (m_sF p 8).length), τ) := by
    intro n
    induction n with
    | zero => intro j h; omega
    | succ n ih =>
      intro j hn hj
      show B_X9_problemMany_b4 (F_X9_problemMany_b4 n) _ _ _ = _
      unfold B_X9_problemMany_b4 F_X9_problemMany_b26
      rw [h.2.2.1.1, m_lei (by omega) (by omega)]
      by_cases hq : (m_sF p 8).length ≤ j
      · rw [if_pos hq, show j = (m_sF p 8).length by omega]
      · rw [if_neg hq, r_has hc ho g h (by omega), m_bi, m_b0i, m_i1, m_add, show nI (m_ct (m_hj p σ) j) + 0 = nI (m_ct (m_hj p σ) j) from nI_add _ 0, show nI (m_ct (m_hj p σ) j) + 1 = nI (m_ct (m_hj p σ) j + 1) from nI_add _ 1]
        have := ih (j + 1) (by omega) (by omega)
        rw [show m_ct (m_hj p σ) (j + 1) = m_ct (m_hj p σ) j + (if m_hj p σ j = false then 0 else 1) from rfl] at this
        by_cases hb : m_hj p σ j = false
        · rw [if_pos hb]; rw [if_pos hb, Nat.add_zero] at this; exact this
        · rw [if_neg hb]; rw [if_neg hb] at this; exact this
  exact key 1000 0 (by omega) (by omega)
theorem l_problems (h : m_X p σ) : ∃ υ, F_L_law_b1622 xs L k (nI i) σ = k (nI i + Int32.ofInt 3) υ ∧ m_X p υ ∧ m_gf m_QA m_QS σ υ := by
  unfold F_L_law_b1622 F_L_law_b2188 F_X8_problems F_X9_problems
  obtain ⟨s1, a1, a2, a3, a4, a5, a6⟩ := c_fx h
  have hX2 : m_X p (cv_sF s1 17 0) := a5.gf (m_F_gf (as := []) (ss := [17]) (by decide)) (by decide) (by decide)
  obtain ⟨s4, c1, c2, c3, c4, c5, c6⟩ := r_fx hX2
  rw [a1, m_bv, c_countP a5.2.1 h.1 a6, m_bi, m_bi, m_pui, c1, m_bv, r_countP c5.2.2.1 h.1 a6 c6, m_bi, m_bi, if_pos rfl]
  exact ⟨s4, rfl, c5, a2.trans ((m_F_gf (by decide)).trans c2)⟩
theorem m_first (hc : m_cc 14 15 16 σ p) (hm : m_mc 43 τ p) (ho : m_ok p) (g : m_CA p σ) (h : m_MA p τ) (υ : cv_St) (hυ : υ.1 = σ.1 ∧ υ.2.1 = σ.2.1) : ∀ n j, (m_sF p 8).length - j < n → j ≤ (m_sF p 8).length → (F_X8_firstProblem_b6 n (nI j) σ = some (5, 0, σ) ∧ F_X9_firstProblem_b6 n (nI j) τ = some (0, cv_sF τ 17 1)) ∨ ∃ r, F_X8_firstProblem_b6 n (nI j) σ = some (0, nI r, σ) ∧ F_X9_firstProblem_b6 n (nI j) τ = some (nI r, cv_sF τ 17 0) := by
  have hlen := m_sF_len ho 8 (Nat.le_refl _)
  intro n
  induction n with
  | zero => intro j h; omega
  | succ n ih =>
    intro j hn hj
    show (B_X8_firstProblem_b6 (F_X8_firstProblem_b6 n) (nI j) σ = _ ∧ B_X9_firstProblem_b6 (F_X9_firstProblem_b6 n) (nI j) τ = _) ∨ ∃ r, B_X8_firstProblem_b6 (F_X8_firstProblem_b6 n) (nI j) σ = _ ∧ B_X9_firstProblem_b6 (F_X9_firstProblem_b6 n) (nI j) τ = _
    unfold B_X8_firstProblem_b6 B_X9_firstProblem_b6 F_X9_firstProblem_b28 F_X9_firstProblem_b42
    rw [g.2.2.2.2.2.2.1.1, h.2.2.1.1, m_lei (by omega) (by omega), m_lei (by omega) (by omega), m_pui, m_pui, m_F_eq, m_F_eq, m_eqi (by omega) (by omega)]
    by_cases hq : (m_sF p 8).length ≤ j
    · rw [if_pos hq, if_pos hq, if_pos (show j = (m_sF p 8).length by omega), if_neg (by decide)]
      exact Or.inl ⟨rfl, rfl⟩
    · rw [if_neg hq, if_neg hq, c_has hc ho g (by omega), m_bi, r_has hm ho g h (by omega), m_bi, m_b0i, m_b0i, m_i1, m_add]
      by_cases hb : m_hj p σ j = false
      · rw [if_pos hb, if_pos hb]
        exact ih (j + 1) (by omega) (by omega)
      · rw [if_neg hb, if_neg hb, h.2.2.1.1, m_eqi (by omega) (by omega), if_neg (by omega), m_pui, m_F_eq, if_pos (by decide)]
        exact Or.inr ⟨j, rfl, rfl⟩
end A55
