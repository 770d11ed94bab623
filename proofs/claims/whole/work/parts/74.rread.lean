section A74
variable {c : Nat → Nat} {n x : Nat} {τ : cv_St}
theorem t_s6_2 {m k : Nat} : (t_s6 τ x m k).2 = (cv_sF τ 18 (nI (x + 1))).2 := rfl
theorem t_s6_46 {m k : Nat} : (t_s6 τ x m k).1 46 = upd (τ.1 46) m (nI k) := by
  unfold t_s6
  rw [m_A_ne (by decide), m_A_ne (by decide), m_A_eq, m_F_1]
theorem t_s6_47 {m k : Nat} : (t_s6 τ x m k).1 47 = upd (τ.1 47) m (nI 0) := by
  unfold t_s6
  rw [m_A_ne (by decide), m_A_eq, m_A_ne (by decide), m_F_1]
theorem t_s6_48 {m k : Nat} : (t_s6 τ x m k).1 48 = upd (τ.1 48) m (nI 0) := by
  unfold t_s6
  rw [m_A_eq, m_A_ne (by decide), m_A_ne (by decide), m_F_1]
theorem upd_upd {f : Nat → Int32} {m : Nat} {a b : Int32} : upd (upd f m a) m b = upd f m b := by
  funext j
  by_cases h : j = m
  · rw [h, m_u_eq, m_u_eq]
  · rw [m_u_ne h, m_u_ne h, m_u_ne h]
theorem r_b198 {m k : Nat} {s : cv_St} (h20 : s.2.1 20 = nI m) (hk : k < 128) (h109 : k ≠ 109) : F_X9_readInstruction_b198 (nI k) s = some (cv_sF s 20 (nI (m + 1))) := by
  unfold F_X9_readInstruction_b198 F_X9_readInstruction_b220
  rw [m_eqki (by omega) (by decide), if_neg h109, m_pui, h20, show (1 : Int32) = nI 1 from rfl, m_add]
theorem r_b198m {m : Nat} {s s' : cv_St} {v : Int32} (h20 : s.2.1 20 = nI m) (hm : m < 60) (h20' : s'.2.1 20 = nI m) (hd : F_X9_digit (nI 0) (nI 7) s = some (v, s')) : F_X9_readInstruction_b198 (nI 109) s = some (cv_sF (cv_sA s' 48 m v) 20 (nI (m + 1))) := by
  unfold F_X9_readInstruction_b198 F_X9_readInstruction_b220
  rw [if_pos (by decide), show F_X9_digit 0 7 s = some (v, s') from hd, m_bi, h20, m_st (by omega) (by decide), m_pui, show (cv_sA s' 48 m v).2.1 20 = nI m from h20', show (1 : Int32) = nI 1 from rfl, m_add]
theorem r_read (hU : t_U c n τ) (h18 : τ.2.1 18 = nI x) (h19 : τ.2.1 19 = 0) {acc : t_L} (hM : t_M τ acc) (hl : acc.length ≤ x) (hxn : x ≤ n) : ∃ υ, F_X9_readInstruction τ = some υ ∧ m_fr [46, 47, 48] [18, 19, 20] τ υ ∧ (∀ y, t_bad c n x = some y → υ.2.1 19 = 1 ∧ υ.2.1 18 = nI y) ∧ (t_bad c n x = none → υ.2.1 19 = 0 ∧ υ.2.1 18 = nI (x + 1 + t_dl (t_at c n x)) ∧ t_M υ (acc ++ [t_it c n x])) := by
  have h60 := hU.1
  have h128 := t_at128 (x := x) hU
  rw [r_ri hU h18 (by omega)]
  unfold t_it t_a t_b t_bad
  obtain ⟨k, hkk⟩ : ∃ k, t_at c n x = k := ⟨_, rfl⟩
  rw [hkk] at h128 ⊢
  by_cases h3 : t_dl k = 3
  · rw [if_pos h3, if_pos h3]
    unfold F_X9_readInstruction_b70
    rw [if_pos rfl, m_puz1]
    refine ⟨_, rfl, m_fr.F (by decide), fun y hy => ?_, fun z => by cases z⟩
    cases hy
    exact ⟨m_F_eq, by rw [m_F_ne (by decide)]; exact h18⟩
  · have hxlt : x < n := by
      apply Classical.byContradiction
      intro hn
      rw [t_at_ge (by omega)] at hkk
      rw [← hkk] at h3
      exact h3 (by decide)
    rw [if_neg h3, if_neg h3, r_b70 h18 hM.1 (by omega) h128 h3]
    have hfr6 := t_s6_fr (τ := τ) (x := x) (m := acc.length) (k := k)
    have hU6 : t_U c n (t_s6 τ x acc.length k) := hU.fr hfr6 (by decide) (by decide)
    have h618 : (t_s6 τ x acc.length k).2.1 18 = nI (x + 1) := by rw [t_s6_2, m_F_eq]
    have h619 : (t_s6 τ x acc.length k).2.1 19 = 0 := by rw [t_s6_2, m_F_ne (by decide)]; exact h19
    have h620 : (t_s6 τ x acc.length k).2.1 20 = nI acc.length := by rw [t_s6_2, m_F_ne (by decide)]; exact hM.1
    rcases t_dl_c k with ⟨hd, hk⟩ | ⟨hd, hk⟩ | ⟨hd, hk⟩ | ⟨hd', hk⟩
    · rw [if_pos hd, r_b198 h620 h128 (by omega), if_pos hd, if_pos hd, if_neg (show ¬ t_dl k = 2 by omega), hd]
      refine ⟨_, rfl, hfr6.trans (m_fr.F (by decide)), fun y hy => (by cases hy), fun _ => ⟨?_, ?_, t_Ms hM m_F_eq (fun j hj => ?_) ?_⟩⟩
      · rw [m_F_ne (by decide)]; exact h619
      · rw [m_F_ne (by decide)]; exact h618
      · rw [m_F_1, t_s6_46, t_s6_47, t_s6_48, m_u_ne hj, m_u_ne hj, m_u_ne hj]; exact ⟨rfl, rfl, rfl⟩
      · rw [m_F_1, t_s6_46, t_s6_47, t_s6_48, m_u_eq, m_u_eq, m_u_eq]; exact ⟨rfl, rfl, rfl⟩
    · have hlo : t_lo k = 0 := by rw [hk]; rfl
      have hhi : t_hi k = 7 := by rw [hk]; rfl
      rw [if_neg (show ¬ t_dl k = 0 by omega), if_neg (show ¬ t_dl k = 0 by omega), if_neg (show ¬ t_dl k = 0 by omega), if_neg (show ¬ t_dl k = 1 by omega), if_pos hd, hlo, hhi, r_digit hU6 h618 h619 (by omega) (by omega) (by omega)]
      have hft : ∀ d, t_ft k d = decide (48 + 0 ≤ d ∧ d ≤ 48 + 7) := fun d => by unfold t_ft; rw [hlo, hhi]
      rw [hft, hft]
      by_cases f1 : decide (48 + 0 ≤ t_at c n (x + 1) ∧ t_at c n (x + 1) ≤ 48 + 7) = false
      · have h71 : (cv_sA (cv_sF (t_s6 τ x acc.length k) 19 1) 47 acc.length 0).2.1 20 = nI acc.length := by rw [m_A_2, m_F_ne (by decide)]; exact h620
        have h719 : (cv_sA (cv_sF (t_s6 τ x acc.length k) 19 1) 47 acc.length 0).2.1 19 = 1 := by rw [m_A_2, m_F_eq]
        rw [if_pos f1, if_pos f1, m_bi, m_st (by omega) (by decide), hk, ← hk, show F_X9_readInstruction_b198 (nI k) (cv_sA (cv_sF (t_s6 τ x acc.length k) 19 1) 47 acc.length 0) = some (cv_sF (cv_sA (cv_sF (cv_sA (cv_sF (t_s6 τ x acc.length k) 19 1) 47 acc.length 0) 19 1) 48 acc.length 0) 20 (nI (acc.length + 1))) by
          rw [hk]; rw [hk] at h71 h719; exact r_b198m h71 (by omega) (by rw [m_F_ne (by decide)]; exact h71) (r_digit1 h719)]
        refine ⟨_, rfl, ((((hfr6.trans (m_fr.F (by decide))).trans (m_fr.A (by decide))).trans (m_fr.F (by decide))).trans (m_fr.A (by decide))).trans (m_fr.F (by decide)), fun y hy => ?_, fun z => by cases z⟩
        cases hy
        exact ⟨by rw [m_F_ne (by decide), m_A_2, m_F_eq], by rw [m_F_ne (by decide), m_A_2, m_F_ne (by decide), m_A_2, m_F_ne (by decide)]; exact h618⟩
      · rw [if_neg f1, if_neg f1, m_bi, m_st (by omega) (by decide)]
        obtain ⟨s7, hs7⟩ : ∃ s7, s7 = cv_sA (cv_sF (t_s6 τ x acc.length k) 18 (nI (x + 1 + 1))) 47 acc.length (nI (t_at c n (x + 1) - 48)) := ⟨_, rfl⟩
        have hfr7 : m_fr [46, 47, 48] [18, 19, 20] τ s7 := by rw [hs7]; exact (hfr6.trans (m_fr.F (by decide))).trans (m_fr.A (by decide))
        have h718 : s7.2.1 18 = nI (x + 2) := by rw [hs7, m_A_2, m_F_eq]
        have h719 : s7.2.1 19 = 0 := by rw [hs7, m_A_2, m_F_ne (by decide)]; exact h619
        have h720 : s7.2.1 20 = nI acc.length := by rw [hs7, m_A_2, m_F_ne (by decide)]; exact h620
        have h746 : s7.1 46 = upd (τ.1 46) acc.length (nI k) := by rw [hs7, m_A_ne (by decide), m_F_1, t_s6_46]
        have h747 : s7.1 47 = upd (τ.1 47) acc.length (nI (t_at c n (x + 1) - 48)) := by rw [hs7, m_A_eq, m_F_1, t_s6_47, upd_upd]
        have h748 : s7.1 48 = upd (τ.1 48) acc.length (nI 0) := by rw [hs7, m_A_ne (by decide), m_F_1, t_s6_48]
        rw [← hs7]
        have hd2 := r_digit (hU.fr hfr7 (by decide) (by decide)) h718 h719 (by omega) (lo := 0) (hi := 7) (by omega) (by omega)
        by_cases f2 : decide (48 + 0 ≤ t_at c n (x + 2) ∧ t_at c n (x + 2) ≤ 48 + 7) = false
        · rw [if_pos f2] at hd2 ⊢
          rw [show F_X9_readInstruction_b198 (nI k) s7 = some (cv_sF (cv_sA (cv_sF s7 19 1) 48 acc.length 0) 20 (nI (acc.length + 1))) by
            rw [hk]; exact r_b198m h720 (by omega) (by rw [m_F_ne (by decide)]; exact h720) hd2]
          refine ⟨_, rfl, ((hfr7.trans (m_fr.F (by decide))).trans (m_fr.A (by decide))).trans (m_fr.F (by decide)), fun y hy => ?_, fun z => by cases z⟩
          cases hy
          exact ⟨by rw [m_F_ne (by decide), m_A_2, m_F_eq], by rw [m_F_ne (by decide), m_A_2, m_F_ne (by decide)]; exact h718⟩
        · rw [if_neg f2] at hd2 ⊢
          rw [show F_X9_readInstruction_b198 (nI k) s7 = some (cv_sF (cv_sA (cv_sF s7 18 (nI (x + 2 + 1))) 48 acc.length (nI (t_at c n (x + 2) - 48))) 20 (nI (acc.length + 1))) by
            rw [hk]; exact r_b198m h720 (by omega) (by rw [m_F_ne (by decide)]; exact h720) hd2]
          refine ⟨_, rfl, ((hfr7.trans (m_fr.F (by decide))).trans (m_fr.A (by decide))).trans (m_fr.F (by decide)), fun y hy => (by cases hy), fun _ => ⟨?_, ?_, t_Ms hM m_F_eq (fun j hj => ?_) ?_⟩⟩
          · rw [m_F_ne (by decide), m_A_2, m_F_ne (by decide)]; exact h719
          · rw [m_F_ne (by decide), m_A_2, m_F_eq, hd]
          · rw [m_F_1, m_A_ne (by decide), m_A_ne (by decide), m_A_eq, m_F_1, h746, h747, h748, upd_upd, m_u_ne hj, m_u_ne hj, m_u_ne hj]; exact ⟨rfl, rfl, rfl⟩
          · rw [m_F_1, m_A_ne (by decide), m_A_ne (by decide), m_A_eq, m_F_1, h746, h747, h748, upd_upd, m_u_eq, m_u_eq, m_u_eq]; exact ⟨rfl, rfl, rfl⟩
    · have hlo10 : t_lo k < 10 := by unfold t_lo; split <;> omega
      have hhi10 : t_hi k < 10 := by unfold t_hi; split; omega; split <;> omega
      rw [if_neg (show ¬ t_dl k = 0 by omega), if_neg (show ¬ t_dl k = 0 by omega), if_neg (show ¬ t_dl k = 0 by omega), if_pos hd, if_neg (show ¬ t_dl k = 2 by omega), r_digit hU6 h618 h619 (by omega) hlo10 hhi10, show decide (48 + t_lo k ≤ t_at c n (x + 1) ∧ t_at c n (x + 1) ≤ 48 + t_hi k) = t_ft k (t_at c n (x + 1)) from rfl]
      by_cases f1 : t_ft k (t_at c n (x + 1)) = false
      · rw [if_pos f1, if_pos f1, m_bi, m_st (by omega) (by decide), r_b198 (m := acc.length) (by rw [m_A_2, m_F_ne (by decide)]; exact h620) h128 (by omega)]
        refine ⟨_, rfl, ((hfr6.trans (m_fr.F (by decide))).trans (m_fr.A (by decide))).trans (m_fr.F (by decide)), fun y hy => ?_, fun z => by cases z⟩
        cases hy
        exact ⟨by rw [m_F_ne (by decide), m_A_2, m_F_eq], by rw [m_F_ne (by decide), m_A_2, m_F_ne (by decide)]; exact h618⟩
      · rw [if_neg f1, if_neg f1, m_bi, m_st (by omega) (by decide), r_b198 (m := acc.length) (by rw [m_A_2, m_F_ne (by decide)]; exact h620) h128 (by omega)]
        refine ⟨_, rfl, ((hfr6.trans (m_fr.F (by decide))).trans (m_fr.A (by decide))).trans (m_fr.F (by decide)), fun y hy => (by cases hy), fun _ => ⟨?_, ?_, t_Ms hM m_F_eq (fun j hj => ?_) ?_⟩⟩
        · rw [m_F_ne (by decide), m_A_2, m_F_ne (by decide)]; exact h619
        · rw [m_F_ne (by decide), m_A_2, m_F_eq, hd]
        · rw [m_F_1, m_A_ne (by decide), m_A_eq, m_A_ne (by decide), m_F_1, t_s6_46, t_s6_47, t_s6_48, upd_upd, m_u_ne hj, m_u_ne hj, m_u_ne hj]; exact ⟨rfl, rfl, rfl⟩
        · rw [m_F_1, m_A_ne (by decide), m_A_eq, m_A_ne (by decide), m_F_1, t_s6_46, t_s6_47, t_s6_48, upd_upd, m_u_eq, m_u_eq, m_u_eq]; exact ⟨rfl, rfl, rfl⟩
    · exact absurd hd' h3
end A74
