section A72
variable {c : Nat → Nat} {n x : Nat} {σ : cv_St}
def t_R (c : Nat → Nat) (n s e : Nat) (acc : t_L) : Option Nat × t_L := if n ≤ e then (none, acc) else if c e = 59 then t_ps c n s (e + 1) acc else (some e, acc)
def t_G (σ υ : cv_St) (r : Option Nat × t_L) : Prop := m_fr [12, 13] [4] σ υ ∧ (r.1 = none → t_C υ r.2)
theorem c_text (h0 : 0 < n) : ∀ (s m x : Nat) (σ : cv_St) (acc : t_L) (l2 l3 l4 : Int32), t_TT c n σ → x ≤ n → n - x < s → n - x < m → acc.length ≤ x → t_C σ acc → ∃ υ, F_X6_findFault_b13 m 1 l2 l3 l4 (nI x) σ = some (t_v (t_ps c n s x acc).1, υ) ∧ t_G σ υ (t_ps c n s x acc) := by
  intro s
  induction s with
  | zero => intro m x σ acc l2 l3 l4 _ h1 h2; omega
  | succ s ih =>
    intro m x σ acc l2 l3 l4 hT hxn hs hm hl hC
    have h60 := hT.1
    obtain ⟨m, rfl⟩ : ∃ m', m = m' + 1 := ⟨m - 1, by omega⟩
    by_cases hx : x < n
    · have hat : t_at c n x = c x := t_at_lt hx
      have hc128 := (hT.2.2 x hx).1
      have bad : ∀ y, t_bad c n x = some y → ∀ z, z = nI y → ∃ υ, some (z, σ) = some (t_v (t_ps c n (s + 1) x acc).1, υ) ∧ t_G σ υ (t_ps c n (s + 1) x acc) := by
        intro y hb z hz
        rw [t_ps_b hb]
        exact ⟨σ, by rw [hz]; rfl, m_fr.rfl', fun w => by cases w⟩
      have sep : ∀ (m e k a b : Nat), x < e → e ≤ n → n - e < m → k < 128 → ∃ υ, F_X6_findFault_b13 m 0 (nI k) (nI (m_num k a b)) (nI 0) (nI e) σ = some (t_v (t_R c n s e (acc ++ [(k, a, b)])).1, υ) ∧ t_G σ υ (t_R c n s e (acc ++ [(k, a, b)])) := by
        intro m e k a b hxe hen hme hk
        obtain ⟨m, rfl⟩ : ∃ m', m = m' + 1 := ⟨m - 1, by omega⟩
        obtain ⟨s1, k1, k2, k3⟩ := c_keep hC (by omega) (a := a) (b := b) hk
        unfold t_R
        by_cases hne : n ≤ e
        · have hee : e = n := by omega
          subst hee
          rw [if_pos hne, c_T5 hT h0, k1, m_bv]
          exact ⟨s1, rfl, k2, fun _ => k3⟩
        · rw [if_neg hne, c_T3 hT (by omega)]
          by_cases h59 : c e = 59
          · rw [if_pos h59, if_pos h59, k1, m_bv]
            obtain ⟨υ, u1, u2, u3⟩ := ih m (e + 1) s1 (acc ++ [(k, a, b)]) (nI k) (nI (m_num k a b)) (nI 0) (hT.fr k2 (by decide) (by decide)) (by omega) (by omega) (by omega) (by simp; omega) k3
            exact ⟨υ, u1, k2.trans u2, u3⟩
          · rw [if_neg h59, if_neg h59]
            exact ⟨σ, rfl, m_fr.rfl', fun z => by cases z⟩
      have good : t_bad c n x = none → t_ps c n (s + 1) x acc = t_R c n s (x + 1 + t_dl (c x)) (acc ++ [(c x, t_a c n x, t_b c n x)]) := by
        intro hb
        rw [t_ps_n hb]
        unfold t_it t_R
        rw [hat]
      rw [c_T1 hT hx]
      have fin1 : ∀ {m : Nat} {l1 l2 l3 l4 : Int32} {y : Nat}, y = n → ¬ (l1 = 0 ∧ l4 ≤ 0) → F_X6_findFault_b13 (m + 1) l1 l2 l3 l4 (nI y) σ = some (nI y, σ) := by
        intro m l1 l2 l3 l4 y hy hh
        rw [hy]
        exact c_T4 hT h0 hh
      rcases t_dl_c (c x) with ⟨hd, hk⟩ | ⟨hd, hk⟩ | ⟨hd, hk⟩ | ⟨hd, hk⟩
      · have hb : t_bad c n x = none := by
          unfold t_bad
          rw [hat, if_neg (by omega), if_pos hd]
        have ha : t_a c n x = 0 := by unfold t_a; rw [hat, if_pos hd]
        have hbb : t_b c n x = 0 := by unfold t_b; rw [hat, if_neg (by omega)]
        rw [if_neg (by omega), good hb, hd, ha, hbb, show nI 0 = nI (m_num (c x) 0 0) by rw [hk]; rfl, show nI (m_num (c x) 0 0) = nI 0 by rw [hk]; rfl]
        obtain ⟨υ, u1, u2⟩ := sep m (x + 1) (c x) 0 0 (by omega) (by omega) (by omega) (by omega)
        rw [show m_num (c x) 0 0 = 0 by rw [hk]; rfl] at u1
        exact ⟨υ, u1, u2⟩
      · rw [if_neg (by omega), hd]
        by_cases hx1 : x + 1 < n
        · obtain ⟨m, rfl⟩ : ∃ m', m = m' + 1 := ⟨m - 1, by omega⟩
          rw [c_T2 hT hx1 (d := 1) (by omega) (by omega)]
          by_cases f1 : t_ft (c x) (c (x + 1)) = false
          · rw [if_pos f1]
            exact bad (x + 1) (by unfold t_bad; rw [hat, if_neg (by omega), if_neg (by omega), t_at_lt hx1, if_pos f1]) _ rfl
          · rw [if_neg f1]
            by_cases hx2 : x + 1 + 1 < n
            · obtain ⟨m, rfl⟩ : ∃ m', m = m' + 1 := ⟨m - 1, by omega⟩
              rw [c_T2 hT hx2 (d := 0) (by omega) (by omega)]
              by_cases f2 : t_ft (c x) (c (x + 1 + 1)) = false
              · rw [if_pos f2]
                exact bad (x + 2) (by unfold t_bad; rw [hat, if_neg (by omega), if_neg (by omega), t_at_lt hx1, if_neg f1, if_neg (by omega), show x + 2 = x + 1 + 1 from rfl, t_at_lt hx2, if_pos f2]) _ rfl
              · rw [if_neg f2]
                have hb : t_bad c n x = none := by
                  unfold t_bad
                  rw [hat, if_neg (by omega), if_neg (by omega), t_at_lt hx1, if_neg f1, if_neg (by omega), show x + 2 = x + 1 + 1 from rfl, t_at_lt hx2, if_neg f2]
                have ha : t_a c n x = c (x + 1) - 48 := by unfold t_a; rw [hat, if_neg (by omega), t_at_lt hx1]
                have hbb : t_b c n x = c (x + 1 + 1) - 48 := by unfold t_b; rw [hat, if_pos hd, show x + 2 = x + 1 + 1 from rfl, t_at_lt hx2]
                rw [good hb, hd, ha, hbb]
                obtain ⟨υ, u1, u2⟩ := sep m (x + 1 + 1 + 1) (c x) (c (x + 1) - 48) (c (x + 1 + 1) - 48) (by omega) (by omega) (by omega) (by omega)
                rw [show m_num (c x) (c (x + 1) - 48) (c (x + 1 + 1) - 48) = 10 * (10 * 0 + (c (x + 1) - 48)) + (c (x + 1 + 1) - 48) by unfold m_num; rw [if_pos hk]; omega] at u1
                exact ⟨υ, u1, u2⟩
            · obtain ⟨m, rfl⟩ : ∃ m', m = m' + 1 := ⟨m - 1, by omega⟩
              rw [fin1 (show x + 1 + 1 = n by omega) (fun z => absurd z.2 (by decide))]
              exact bad (x + 2) (by unfold t_bad; rw [hat, if_neg (by omega), if_neg (by omega), t_at_lt hx1, if_neg f1, if_neg (by omega), t_at_ge (by omega), if_pos (t_ft0 _)]) _ rfl
        · obtain ⟨m, rfl⟩ : ∃ m', m = m' + 1 := ⟨m - 1, by omega⟩
          rw [fin1 (show x + 1 = n by omega) (fun z => absurd z.2 (by decide))]
          exact bad (x + 1) (by unfold t_bad; rw [hat, if_neg (by omega), if_neg (by omega), t_at_ge (by omega), if_pos (t_ft0 _)]) _ rfl
      · rw [if_neg (by omega), hd]
        by_cases hx1 : x + 1 < n
        · obtain ⟨m, rfl⟩ : ∃ m', m = m' + 1 := ⟨m - 1, by omega⟩
          rw [c_T2 hT hx1 (d := 0) (by omega) (by omega)]
          by_cases f1 : t_ft (c x) (c (x + 1)) = false
          · rw [if_pos f1]
            exact bad (x + 1) (by unfold t_bad; rw [hat, if_neg (by omega), if_neg (by omega), t_at_lt hx1, if_pos f1]) _ rfl
          · rw [if_neg f1]
            have hb : t_bad c n x = none := by
              unfold t_bad
              rw [hat, if_neg (by omega), if_neg (by omega), t_at_lt hx1, if_neg f1, if_pos hd]
            have ha : t_a c n x = c (x + 1) - 48 := by unfold t_a; rw [hat, if_neg (by omega), t_at_lt hx1]
            have hbb : t_b c n x = 0 := by unfold t_b; rw [hat, if_neg (by omega)]
            rw [good hb, hd, ha, hbb]
            obtain ⟨υ, u1, u2⟩ := sep m (x + 1 + 1) (c x) (c (x + 1) - 48) 0 (by omega) (by omega) (by omega) (by omega)
            rw [show m_num (c x) (c (x + 1) - 48) 0 = 10 * 0 + (c (x + 1) - 48) by unfold m_num; rw [if_neg (show ¬ c x = 109 by omega)]; omega] at u1
            exact ⟨υ, u1, u2⟩
        · obtain ⟨m, rfl⟩ : ∃ m', m = m' + 1 := ⟨m - 1, by omega⟩
          rw [fin1 (show x + 1 = n by omega) (fun z => absurd z.2 (by decide))]
          exact bad (x + 1) (by unfold t_bad; rw [hat, if_neg (by omega), if_neg (by omega), t_at_ge (by omega), if_pos (t_ft0 _)]) _ rfl
      · rw [if_pos hd]
        exact bad x (by unfold t_bad; rw [hat, if_pos hd]) _ rfl
    · have hxe : x = n := by omega
      have hb : t_bad c n x = some x := by
        unfold t_bad
        rw [t_at_ge (by omega), if_pos (by decide)]
      rw [t_ps_b hb, hxe, c_T4 hT h0 (fun z => absurd z.1 (by decide))]
      exact ⟨σ, rfl, m_fr.rfl', fun w => by cases w⟩
theorem c_read (hT : t_TT c n σ) : ∃ υ, F_X6_read σ = some υ ∧ m_fr [12, 13] [3, 4, 5] σ υ ∧ υ.2.1 3 = 0 ∧ υ.2.1 5 = t_v (t_res c n).1 ∧ ((t_res c n).1 = none → t_C υ (t_res c n).2) := by
  have h60 := hT.1
  have hT1 : t_TT c n (cv_sF σ 4 0) := hT.fr (m_fr.F (as := []) (ss := [4]) (by decide)) (by decide) (by decide)
  have hC1 : t_C (cv_sF σ 4 0) [] := ⟨m_F_eq, fun j q _ h => by rw [List.getElem?_nil] at h; cases h⟩
  have key : ∃ s, F_X6_findFault (cv_sF σ 4 0) = some (t_v (t_res c n).1, s) ∧ t_G (cv_sF σ 4 0) s (t_res c n) := by
    by_cases h0 : n = 0
    · have e : t_res c n = (none, []) := by unfold t_res; rw [if_pos h0]
      rw [e]
      refine ⟨cv_sF σ 4 0, ?_, m_fr.rfl', fun _ => hC1⟩
      show F_X6_findFault_b13 (999 + 1) 1 114 0 0 0 (cv_sF σ 4 0) = _
      show B_X6_findFault_b13 (F_X6_findFault_b13 999) _ _ _ _ _ _ = _
      unfold B_X6_findFault_b13
      rw [hT1.2.1, h0, if_pos (by decide), if_pos (by decide)]
      rfl
    · have e : t_res c n = t_ps c n 61 0 [] := by unfold t_res; rw [if_neg h0]
      rw [e]
      exact c_text (by omega) 61 1000 0 (cv_sF σ 4 0) [] 114 0 0 hT1 (by omega) (by omega) (by omega) (Nat.le_refl _) hC1
  obtain ⟨s, s1, s2, s3⟩ := key
  unfold F_X6_read
  rw [m_pui, s1, m_bi, m_pui, m_pui]
  refine ⟨_, rfl, (((m_fr.F (by decide)).trans (s2.mono (by decide) (by decide))).trans (m_fr.F (by decide))).trans (m_fr.F (by decide)), m_F_eq, ?_, fun z => ?_⟩
  · rw [m_F_ne (by decide), m_F_eq]
  · obtain ⟨z1, z2⟩ := s3 z
    exact ⟨by rw [m_F_ne (by decide), m_F_ne (by decide)]; exact z1, z2⟩
end A72
