/-! RUNS: one turn of the class, one turn of the reference -/
section A82
variable {p : m_P} {σ τ υ : cv_St} {d e f h i j br : Nat}
def u_b (p : m_P) (f i h d : Nat) : Bool := decide ((m_kd p f i = 45 ∧ h = 0) ∨ (m_kd p f i = 43 ∧ h = 6) ∨ (m_kd p f i = 99 ∧ d + 1 = 8))
theorem c_blk {k : Nat} (hk : k < 128) (hh : h ≤ 6) (hd : d < 8) (h8 : σ.2.1 8 = nI (d + 1)) : F_X4_isBlocked (nI k) (nI h) σ = some (m_b (decide ((k = 45 ∧ h = 0) ∨ (k = 43 ∧ h = 6) ∨ (k = 99 ∧ d + 1 = 8))), σ) := by
  unfold F_X4_isBlocked F_X4_isBlocked_b10 F_X4_isBlocked_b22 F_X4_isBlocked_b37
  rw [m_eqki (by omega) (by decide), m_eqki (by omega) (by decide), m_eqki (by omega) (by decide), h8, show (0 : Int32) = nI 0 from rfl, show (6 : Int32) = nI 6 from rfl, show (8 : Int32) = nI 8 from rfl, m_lei (by omega) (by omega), m_lei (by omega) (by omega), m_lti (by omega) (by omega), show nI 0 = (0 : Int32) from rfl, m_rz0, m_rz1]
  by_cases k1 : k = 45
  · rw [if_pos k1, if_neg (show ¬ k = 43 by omega), if_neg (show ¬ k = 99 by omega)]
    by_cases h1 : h ≤ 0
    · rw [if_pos h1, decide_eq_true (by omega)]; rfl
    · rw [if_neg h1, decide_eq_false (by omega)]; rfl
  · rw [if_neg k1]
    by_cases k2 : k = 43
    · rw [if_pos k2, if_neg (show ¬ k = 99 by omega)]
      by_cases h1 : 6 ≤ h
      · rw [if_pos h1, decide_eq_true (by omega)]; rfl
      · rw [if_neg h1, decide_eq_false (by omega)]; rfl
    · rw [if_neg k2]
      by_cases k3 : k = 99
      · rw [if_pos k3]
        by_cases h1 : d + 1 < 8
        · rw [if_pos h1, decide_eq_false (by omega)]; rfl
        · rw [if_neg h1, decide_eq_true (by omega)]; rfl
      · rw [if_neg k3, decide_eq_false (by omega)]; rfl
theorem r_cuts (hm : m_mc 43 τ p) (ho : m_ok p) (hf : f < 8) (hi : i < m_cn p f) (hd : d < 8) (hh : h ≤ 6) (he : e ≤ 300) (h65 : τ.1 65 d = nI h) (h25 : τ.2.1 25 = nI e) : F_X9_cuts (nI f) (nI i) (nI d) τ = some (m_b (decide (e = 300) || u_b p f i h d), τ) := by
  have hk := (m_val_k (m_vl ho hf hi)).1
  unfold F_X9_cuts F_X9_cuts_b34 F_X9_cuts_b52 F_X9_cuts_b67 u_b
  rw [r_kind hm ho hf hi, m_bi, h25, m_eqki (by omega) (by decide), m_eqki (by omega) (by decide), m_eqki (by omega) (by decide), m_eqki (by omega) (by decide), m_ld (by omega) (by decide), m_ld (by omega) (by decide), h65, m_eqki (by omega) (by decide), m_eqki (by omega) (by decide), show (1 : Int32) = nI 1 from rfl, m_add, m_eqki (by omega) (by decide), show nI 1 = (1 : Int32) from rfl, m_rz0, m_rz1]
  generalize m_kd p f i = k at hk ⊢
  by_cases h300 : e = 300
  · rw [if_pos h300, decide_eq_true h300]; rfl
  · rw [if_neg h300, decide_eq_false h300, Bool.false_or]
    by_cases k1 : k = 45
    · rw [if_pos k1, if_neg (show ¬ k = 43 by omega), if_neg (show ¬ k = 99 by omega)]
      by_cases h1 : h = 0
      · rw [if_pos h1, decide_eq_true (by omega)]; rfl
      · rw [if_neg h1, decide_eq_false (by omega)]; rfl
    · rw [if_neg k1]
      by_cases k2 : k = 43
      · rw [if_pos k2, if_neg (show ¬ k = 99 by omega)]
        by_cases h1 : h = 6
        · rw [if_pos h1, decide_eq_true (by omega)]; rfl
        · rw [if_neg h1, decide_eq_false (by omega)]; rfl
      · rw [if_neg k2]
        by_cases k3 : k = 99
        · rw [if_pos k3]
          by_cases h1 : d + 1 = 8
          · rw [if_pos h1, decide_eq_true (by omega)]; rfl
          · rw [if_neg h1, decide_eq_false (by omega)]; rfl
        · rw [if_neg k3, decide_eq_false (by omega)]; rfl
/-- the class's turns: n of them lead from σ to τ -/
def u_C (m : Nat) (σ τ : cv_St) : Prop := ∀ n t, t + m ≤ 602 → F_X4_execute_b59 (n + m) (nI t) σ = F_X4_execute_b59 n (nI (t + m)) τ
theorem u_C0 : u_C 0 σ σ := fun n t _ => rfl
theorem u_Ct {a b : Nat} (h : u_C a σ τ) (g : u_C b τ υ) : u_C (a + b) σ υ := fun n t ht => by
  rw [show n + (a + b) = (n + b) + a by omega, h (n + b) t (by omega), g n (t + a) (by omega), Nat.add_assoc]
theorem u_C1 (hd : d < 8) (h8 : σ.2.1 8 = nI (d + 1)) (h13 : σ.2.1 13 = 0) (h : F_X4_advance (nI d) σ = some τ) : u_C 1 σ τ := fun n t ht => by
  show B_X4_execute_b59 (F_X4_execute_b59 n) (nI t) σ = _
  unfold B_X4_execute_b59
  rw [show (602 : Int32) = nI 602 from rfl, m_lei (by omega) (by omega), if_neg (by omega), h8, show (0 : Int32) = nI 0 from rfl, m_lei (by omega) (by omega), if_neg (by omega), h13, if_pos (by decide), show (1 : Int32) = nI 1 from rfl, pk_sub (by omega), Nat.add_sub_cancel, h, m_bv, m_i1, m_add]
theorem c_advE (ho : m_ok p) (hc : m_cc 14 15 16 σ p) (hf : f < 8) (hd : d < 8) (h39 : σ.1 39 d = nI f) (h40 : σ.1 40 d = nI j) (hj : j < 100) (hcn : m_cn p f ≤ j) (h8 : σ.2.1 8 = nI (d + 1)) : F_X4_advance (nI d) σ = some (cv_sF σ 8 (nI d)) := by
  have h14 := m_cn14 ho hf
  unfold F_X4_advance
  rw [m_ld hd (by decide), h39, m_ld hd (by decide), h40, m_ld hf (by decide), c_cnt hc hf, m_lti (by omega) (by omega), if_neg (by omega), m_pui, h8, show (1 : Int32) = nI 1 from rfl, pk_sub (by omega), Nat.add_sub_cancel]
theorem c_advX (ho : m_ok p) (hc : m_cc 14 15 16 σ p) (hf : f < 8) (hd : d < 8) (hi : i < m_cn p f) (hh : h ≤ 6) (he : e ≤ 300) (h39 : σ.1 39 d = nI f) (h40 : σ.1 40 d = nI i) (h41 : σ.1 41 d = nI h) (h8 : σ.2.1 8 = nI (d + 1)) (h9 : σ.2.1 9 = nI e) (hX : (decide (e = 300) || u_b p f i h d) = true) : F_X4_advance (nI d) σ = some (cv_sF σ 13 1) := by
  have h14 := m_cn14 ho hf
  have hk := (m_val_k (m_vl ho hf hi)).1
  unfold F_X4_advance F_X4_advance_b74
  rw [m_ld hd (by decide), h39, m_ld hd (by decide), h40, m_ld hf (by decide), c_cnt hc hf, m_lti (by omega) (by omega), if_pos hi, c_kindAt hc ho hf hi, m_bi, h9, show (300 : Int32) = nI 300 from rfl, m_lei (by omega) (by omega), m_puz1]
  by_cases h300 : 300 ≤ e
  · rw [if_pos h300]
  · rw [decide_eq_false (by omega), Bool.false_or] at hX
    rw [if_neg h300, m_ld hd (by decide), h41, c_blk hk hh hd h8, m_bi, show decide ((m_kd p f i = 45 ∧ h = 0) ∨ (m_kd p f i = 43 ∧ h = 6) ∨ (m_kd p f i = 99 ∧ d + 1 = 8)) = true from hX, if_neg (by decide), m_puz1]
theorem c_adv (ho : m_ok p) (hc : m_cc 14 15 16 σ p) (hf : f < 8) (hd : d < 8) (hi : i < m_cn p f) (hh : h ≤ 6) (he : e ≤ 300) (h39 : σ.1 39 d = nI f) (h40 : σ.1 40 d = nI i) (h41 : σ.1 41 d = nI h) (h8 : σ.2.1 8 = nI (d + 1)) (h9 : σ.2.1 9 = nI e) (hX : (decide (e = 300) || u_b p f i h d) = false) : F_X4_advance (nI d) σ = F_X4_perform (nI (m_kd p f i)) (nI (m_num (m_kd p f i) (m_fa p f i) (m_sb p f i))) (nI d) (cv_sA (cv_sF σ 9 (nI (e + 1))) 40 d (nI (i + 1))) := by
  have h14 := m_cn14 ho hf
  have hk := (m_val_k (m_vl ho hf hi)).1
  rw [Bool.or_eq_false_iff] at hX
  have he3 : ¬ e = 300 := of_decide_eq_false hX.1
  unfold F_X4_advance F_X4_advance_b74
  rw [m_ld hd (by decide), h39, m_ld hd (by decide), h40, m_ld hf (by decide), c_cnt hc hf, m_lti (by omega) (by omega), if_pos hi, c_kindAt hc ho hf hi, m_bi, h9, show (300 : Int32) = nI 300 from rfl, m_lei (by omega) (by omega), if_neg (by omega), m_ld hd (by decide), h41, c_blk hk hh hd h8, m_bi, show decide ((m_kd p f i = 45 ∧ h = 0) ∨ (m_kd p f i = 43 ∧ h = 6) ∨ (m_kd p f i = 99 ∧ d + 1 = 8)) = false from hX.2, if_pos (by decide), h9, m_pui, show (1 : Int32) = nI 1 from rfl, m_add, m_ld hd (by decide), m_F_1, h40, m_add, m_st hd (by decide)]
  have hc2 : m_cc 14 15 16 (cv_sA (cv_sF σ 9 (nI (e + 1))) 40 d (nI (i + 1))) p := hc.fr ((m_fr.F (as := [40]) (ss := [9]) (by decide)).trans (m_fr.A (by decide))) (by decide) (by decide) (by decide)
  rw [c_numberAt hc2 ho hf hi, m_bi]
  cases F_X4_perform (nI (m_kd p f i)) (nI (m_num (m_kd p f i) (m_fa p f i) (m_sb p f i))) (nI d) (cv_sA (cv_sF σ 9 (nI (e + 1))) 40 d (nI (i + 1))) <;> rfl
theorem r_bodE {E : Int32 → Int32 → cv_St → Option cv_St} {K : Int32 → Int32 → Int32 → cv_St → Option cv_St} (ho : m_ok p) (hm : m_mc 43 τ p) (hf : f < 8) (hi : i ≤ m_cn p f) {l2 : Int32} (h : m_cn p f ≤ i ∨ τ.2.1 24 = 1) : B_X9_execute_b9 E K (nI f) l2 (nI i) τ = some τ := by
  have h14 := m_cn14 ho hf
  unfold B_X9_execute_b9
  rw [m_ld (by omega) (by decide), r_cnt hm hf, m_lei (by omega) (by omega)]
  by_cases hq : m_cn p f ≤ i
  · rw [if_pos hq]
  · rw [if_neg hq, h.resolve_left hq, if_neg (by decide)]
theorem r_bodX {E : Int32 → Int32 → cv_St → Option cv_St} {K : Int32 → Int32 → Int32 → cv_St → Option cv_St} (ho : m_ok p) (hm : m_mc 43 τ p) (hf : f < 8) (hi : i < m_cn p f) (hd : d < 8) (hh : h ≤ 6) (he : e ≤ 300) (h65 : τ.1 65 d = nI h) (h25 : τ.2.1 25 = nI e) (h24 : τ.2.1 24 = 0) (hX : (decide (e = 300) || u_b p f i h d) = true) : B_X9_execute_b9 E K (nI f) (nI d) (nI i) τ = K (nI f) (nI d) (nI i) (cv_sF τ 24 1) := by
  have h14 := m_cn14 ho hf
  unfold B_X9_execute_b9
  rw [m_ld (by omega) (by decide), r_cnt hm hf, m_lei (by omega) (by omega), if_neg (by omega), h24, if_pos rfl, r_cuts hm ho hf hi hd hh he h65 h25, m_bi, hX, m_puzb, m_F_eq, if_neg (by decide)]
  rfl
end A82
