section A60
variable {p : m_P} {σ τ : cv_St} {xs : Nat → Int32} {L i j : Nat} {k : Int32 → cv_St → Option (Int32 × cv_St)}
def m_fp (p : m_P) (g : Nat) : Bool := decide (¬ m_cn p g ≤ 0)
theorem c_filled (hc : m_cc 14 15 16 σ p) (ho : m_ok p) : F_X0_countFilled σ = some (nI (m_ct (m_fp p) 8), σ) := by
  have key : ∀ n g, 8 - g < n → g ≤ 8 → F_X0_countFilled_b4 n (nI (m_ct (m_fp p) g)) (nI g) σ = some (nI (m_ct (m_fp p) 8), σ) := by
    intro n
    induction n with
    | zero => intro g h; omega
    | succ n ih =>
      intro g hn hg
      show B_X0_countFilled_b4 (F_X0_countFilled_b4 n) _ _ _ = _
      unfold B_X0_countFilled_b4 F_X0_countFilled_b22
      rw [show (8 : Int32) = nI 8 from rfl, m_lei (by omega) (by omega)]
      by_cases hq : 8 ≤ g
      · rw [if_pos hq, show g = 8 by omega]
      · have hg8 : g < 8 := by omega
        have h14 := m_cn14 ho hg8
        have := ih (g + 1) (by omega) (by omega)
        rw [m_ct_s] at this
        rw [if_neg hq, m_ld hg8 (by decide), c_cnt hc hg8, show (0 : Int32) = nI 0 from rfl, m_lei (by omega) (by omega), m_i1, m_add g 1, m_add]
        by_cases h0 : m_cn p g ≤ 0
        · rw [if_pos h0]
          rw [if_pos (show m_fp p g = false from decide_eq_false (not_not_intro h0)), Nat.add_zero] at this
          exact this
        · rw [if_neg h0]
          rw [if_neg (show ¬ m_fp p g = false by unfold m_fp; rw [decide_eq_true h0]; simp)] at this
          exact this
  exact key 1000 0 (by omega) (by omega)
theorem r_filled (hm : m_mc 43 σ p) (ho : m_ok p) : F_X9_bodyMany σ = some (nI (m_ct (m_fp p) 8), σ) := by
  have key : ∀ n g, 8 - g < n → g ≤ 8 → F_X9_bodyMany_b4 n (nI (m_ct (m_fp p) g)) (nI g) σ = some (nI (m_ct (m_fp p) 8), σ) := by
    intro n
    induction n with
    | zero => intro g h; omega
    | succ n ih =>
      intro g hn hg
      show B_X9_bodyMany_b4 (F_X9_bodyMany_b4 n) _ _ _ = _
      unfold B_X9_bodyMany_b4 F_X9_bodyMany_b25
      rw [show (8 : Int32) = nI 8 from rfl, m_lei (by omega) (by omega)]
      by_cases hq : 8 ≤ g
      · rw [if_pos hq, show g = 8 by omega]
      · have hg8 : g < 8 := by omega
        have h14 := m_cn14 ho hg8
        have := ih (g + 1) (by omega) (by omega)
        rw [m_ct_s] at this
        rw [if_neg hq, m_ld (by omega) (by decide), r_cnt hm hg8, show (0 : Int32) = nI 0 from rfl, show (1 : Int32) = nI 1 from rfl, m_lei (by omega) (by omega), m_i1, m_add g 1, m_add, m_add]
        by_cases h0 : m_cn p g ≤ 0
        · rw [if_pos h0]
          rw [if_pos (show m_fp p g = false from decide_eq_false (not_not_intro h0))] at this
          exact this
        · rw [if_neg h0]
          rw [if_neg (show ¬ m_fp p g = false by unfold m_fp; rw [decide_eq_true h0]; simp)] at this
          exact this
  exact key 1000 0 (by omega) (by omega)
end A60
