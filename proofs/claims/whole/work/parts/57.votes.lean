section A57
variable {p : m_P} {σ τ : cv_St} {xs : Nat → Int32} {L i j : Nat} {k : Int32 → cv_St → Option (Int32 × cv_St)}
def m_vt (σ : cv_St) (w g : Nat) : Int32 := if w = 0 then σ.1 30 g else if w = 1 then σ.1 31 g else if w = 2 then m_cb (σ.1 23) g else σ.1 23 g
def m_vp (p : m_P) (σ : cv_St) (r w g : Nat) : Bool := decide (¬ m_cn p g ≤ 0) && bt (m_vt σ w g) r
theorem c_voted {w g : Nat} (hw : w < 4) (hg : g < 8) : F_X8_votedFor (nI g) (nI w) σ = some (m_vt σ w g, σ) := by
  unfold F_X8_votedFor m_vt
  rw [m_eqki (by omega) (by decide), m_eqki (by omega) (by decide), m_eqki (by omega) (by decide), m_ld hg (by decide), m_ld hg (by decide), m_ld hg (by decide), c_clob hg, m_bi]
  by_cases h0 : w = 0
  · rw [if_pos h0, if_pos h0]
  · rw [if_neg h0, if_neg h0]
    by_cases h1 : w = 1
    · rw [if_pos h1, if_pos h1]
    · rw [if_neg h1, if_neg h1]
      by_cases h2 : w = 2
      · rw [if_pos h2, if_pos h2]
      · rw [if_neg h2, if_neg h2]
theorem m_ct_s (P : Nat → Bool) (n : Nat) : m_ct P (n + 1) = m_ct P n + (if P n = false then 0 else 1) := rfl
theorem c_countV (hc : m_cc 14 15 16 σ p) (ho : m_ok p) {r w : Nat} (hr : r < 8) (hw : w < 4) : F_X8_countVotes (nI r) (nI w) σ = some (nI (m_ct (m_vp p σ r w) 8), σ) := by
  have key : ∀ n g, 8 - g < n → g ≤ 8 → F_X8_countVotes_b5 n (nI r) (nI w) (nI (m_ct (m_vp p σ r w) g)) (nI g) σ = some (nI (m_ct (m_vp p σ r w) 8), σ) := by
    intro n
    induction n with
    | zero => intro g h; omega
    | succ n ih =>
      intro g hn hg
      show B_X8_countVotes_b5 (F_X8_countVotes_b5 n) _ _ _ _ _ = _
      unfold B_X8_countVotes_b5 F_X8_countVotes_b42
      rw [show (8 : Int32) = nI 8 from rfl, m_lei (by omega) (by omega)]
      by_cases hq : 8 ≤ g
      · rw [if_pos hq, show g = 8 by omega]
      · have hg8 : g < 8 := by omega
        have h14 := m_cn14 ho hg8
        have := ih (g + 1) (by omega) (by omega)
        rw [m_ct_s] at this
        rw [if_neg hq, m_ld hg8 (by decide), c_cnt hc hg8, show (0 : Int32) = nI 0 from rfl, m_lei (by omega) (by omega), c_voted hw hg8, m_bi, c_contains (by omega), m_bi, show nI 0 = (0 : Int32) from rfl, m_b0i, m_i1, m_add, m_add]
        by_cases h0 : m_cn p g ≤ 0
        · rw [if_pos h0]
          rw [if_pos (show m_vp p σ r w g = false by unfold m_vp; rw [decide_eq_false (not_not_intro h0), Bool.false_and]), Nat.add_zero] at this
          exact this
        · rw [if_neg h0]
          rw [show m_vp p σ r w g = bt (m_vt σ w g) r by unfold m_vp; rw [decide_eq_true h0, Bool.true_and]] at this
          by_cases hb : bt (m_vt σ w g) r = false
          · rw [if_pos hb]; rw [if_pos hb, Nat.add_zero] at this; exact this
          · rw [if_neg hb]; rw [if_neg hb] at this; exact this
  exact key 1000 0 (by omega) (by omega)
theorem r_countV (hm : m_mc 43 τ p) (ho : m_ok p) (hA : m_CA p σ) (hM : m_MA p τ) {r w : Nat} (hr : r < 8) (hw : w < 4) : F_X9_countVotes (nI r) (nI w) τ = some (nI (m_ct (m_vp p σ r w) 8), τ) := by
  have t := m_tie ho hA hM
  have key : ∀ n g, 8 - g < n → g ≤ 8 → F_X9_countVotes_b5 n (nI r) (nI w) (nI (m_ct (m_vp p σ r w) g)) (nI g) τ = some (nI (m_ct (m_vp p σ r w) 8), τ) := by
    intro n
    induction n with
    | zero => intro g h; omega
    | succ n ih =>
      intro g hn hg
      show B_X9_countVotes_b5 (F_X9_countVotes_b5 n) _ _ _ _ _ = _
      unfold B_X9_countVotes_b5
      rw [show (8 : Int32) = nI 8 from rfl, m_lei (by omega) (by omega)]
      by_cases hq : 8 ≤ g
      · rw [if_pos hq, show g = 8 by omega]
      · have hg8 : g < 8 := by omega
        have h14 := m_cn14 ho hg8
        have hih := ih (g + 1) (by omega) (by omega)
        rw [m_ct_s] at hih
        have hgo : F_X9_countVotes_b62 (F_X9_countVotes_b5 n) (nI r) (nI w) (nI (m_ct (m_vp p σ r w) g)) (nI g) (m_vt σ w g) τ = some (nI (m_ct (m_vp p σ r w) 8), τ) := by
          unfold F_X9_countVotes_b62 F_X9_countVotes_b85
          rw [m_ld (by omega) (by decide), r_cnt hm hg8, b_tst (by omega), show (0 : Int32) = nI 0 from rfl, m_lei (by omega) (by omega), m_i1, m_add g 1]
          by_cases h0 : m_cn p g ≤ 0
          · rw [if_pos h0, m_add]
            rw [if_pos (show m_vp p σ r w g = false by unfold m_vp; rw [decide_eq_false (not_not_intro h0), Bool.false_and])] at hih
            exact hih
          · rw [if_neg h0]
            rw [show m_vp p σ r w g = bt (m_vt σ w g) r by unfold m_vp; rw [decide_eq_true h0, Bool.true_and]] at hih
            cases hb : bt (m_vt σ w g) r with
            | false =>
              rw [hb, if_pos rfl] at hih
              rw [show m_b false = nI 0 from rfl, m_add]; exact hih
            | true =>
              rw [hb, if_neg (by simp)] at hih
              rw [show m_b true = nI 1 from rfl, m_add]; exact hih
        rw [if_neg hq, m_eqki (by omega) (by decide), m_eqki (by omega) (by decide), m_eqki (by omega) (by decide), m_ld hg8 (by decide), m_ld hg8 (by decide), m_ld hg8 (by decide), r_clob hg8, m_bi]
        unfold m_vt at hgo
        by_cases h0 : w = 0
        · rw [if_pos h0] at hgo ⊢; rw [← (t.2.2.1 g hg8).1]; exact hgo
        · rw [if_neg h0] at hgo ⊢
          by_cases h1 : w = 1
          · rw [if_pos h1] at hgo ⊢; rw [← (t.2.2.1 g hg8).2]; exact hgo
          · rw [if_neg h1] at hgo ⊢
            by_cases h2 : w = 2
            · rw [if_pos h2] at hgo ⊢
              unfold m_cb at hgo ⊢
              rw [← t.1 g hg8]; exact hgo
            · rw [if_neg h2] at hgo ⊢; rw [← t.1 g hg8]; exact hgo
  exact key 1000 0 (by omega) (by omega)
end A57
