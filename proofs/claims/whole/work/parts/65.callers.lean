section A65
variable {p : m_P} {σ τ : cv_St} {xs : Nat → Int32} {L i j f : Nat} {k : Int32 → cv_St → Option (Int32 × cv_St)}
theorem c_callers (ho : m_ok p) (h : m_CA p σ) (hf : f < 8) : ∀ (n g : Nat) (v : Int32), 8 - g < n → g ≤ 8 → (∀ b, (bt v b = true ↔ b < g ∧ bt (m_cal p b (m_cn p b)) f = true)) → ∃ V, F_X2_callers_b4 n (nI f) v (nI g) σ = some (V, σ) ∧ ∀ b, (bt V b = true ↔ b < 8 ∧ bt (m_cal p b (m_cn p b)) f = true) := by
  intro n
  induction n with
  | zero => intro g v h; omega
  | succ n ih =>
    intro g v hn hg hv
    show ∃ V, B_X2_callers_b4 (F_X2_callers_b4 n) (nI f) v (nI g) σ = _ ∧ _
    unfold B_X2_callers_b4 F_X2_callers_b29
    rw [show (8 : Int32) = nI 8 from rfl, m_lei (by omega) (by omega)]
    by_cases hq : 8 ≤ g
    · have hg8 : g = 8 := by omega
      rw [hg8] at hv
      rw [if_pos hq]
      exact ⟨v, rfl, hv⟩
    · have hg8 : g < 8 := by omega
      rw [if_neg hq, m_ld hg8 (by decide), (h.1 g hg8).2, c_contains (by omega), m_bi, m_b0i, m_i1, m_add, show ((1 : Int32) <<< (nI g &&& 31)) = m_bit g from rfl]
      by_cases hb : bt (m_cal p g (m_cn p g)) f = false
      · rw [if_pos hb]
        refine ih (g + 1) v (by omega) (by omega) (fun b => (hv b).trans ⟨fun z => ⟨by omega, z.2⟩, fun z => ⟨?_, z.2⟩⟩)
        have : b ≠ g := fun e => by rw [e, hb] at z; exact absurd z.2 (by simp)
        omega
      · rw [if_neg hb]
        have hb : bt (m_cal p g (m_cn p g)) f = true := by cases hh : bt (m_cal p g (m_cn p g)) f <;> simp_all
        refine ih (g + 1) _ (by omega) (by omega) (fun b => ?_)
        rw [b_or, Bool.or_eq_true, hv b, b_bit (by omega), decide_eq_true_iff]
        constructor
        · rintro (⟨h1, h2⟩ | h1)
          · exact ⟨by omega, h2⟩
          · rw [h1]; exact ⟨by omega, hb⟩
        · rintro ⟨h1, h2⟩
          by_cases hbg : b = g
          · exact Or.inr hbg
          · exact Or.inl ⟨by omega, h2⟩
theorem r_callers (hc : m_mc 43 σ p) (ho : m_ok p) (hM : m_MA p σ) (hf : f < 8) : ∀ (n k : Nat) (v : Int32), (m_sF p 8).length - k < n → k ≤ (m_sF p 8).length → (∀ b, (bt v b = true ↔ ∃ j q, j < k ∧ (m_sF p 8)[j]? = some q ∧ m_fa p q.1 q.2 = f ∧ q.1 = b)) →
    ∃ V, F_X9_callersOf_b33 n (nI f) v (nI k) σ = some (V, σ) ∧ ∀ b, (bt V b = true ↔ ∃ j q, j < (m_sF p 8).length ∧ (m_sF p 8)[j]? = some q ∧ m_fa p q.1 q.2 = f ∧ q.1 = b) := by
  have hlen := m_sF_len ho 8 (Nat.le_refl _)
  intro n
  induction n with
  | zero => intro k v h; omega
  | succ n ih =>
    intro k v hn hk hv
    show ∃ V, B_X9_callersOf_b33 (F_X9_callersOf_b33 n) (nI f) v (nI k) σ = _ ∧ _
    unfold B_X9_callersOf_b33 F_X9_callersOf_b63
    rw [hM.2.2.1.1, m_lei (by omega) (by omega)]
    by_cases hq : (m_sF p 8).length ≤ k
    · rw [if_pos hq]
      refine ⟨v, rfl, ?_⟩
      rw [show (m_sF p 8).length = k by omega]; exact hv
    · obtain ⟨q, hkq, hs⟩ := m_site (p := p) (j := k) (by omega)
      have ha := m_fq ho hs
      have hq1 := hs.1
      rw [if_neg hq, r_vC hc ho hM hkq hs, m_bi, m_eqi (by omega) (by omega), m_ld (by omega) (by decide), (hM.2.2.1.2 k q hkq).1, m_i1, m_add, b_or0, show ((1 : Int32) <<< (nI q.1 &&& 31)) = m_bit q.1 from rfl]
      by_cases hfa : m_fa p q.1 q.2 = f
      · rw [if_pos hfa]
        refine ih (k + 1) _ (by omega) (by omega) (fun b => ?_)
        rw [b_or, Bool.or_eq_true, hv b, b_bit (by omega), decide_eq_true_iff]
        constructor
        · rintro (⟨j, q', j1, j2, j3, j4⟩ | h)
          · exact ⟨j, q', by omega, j2, j3, j4⟩
          · exact ⟨k, q, by omega, hkq, hfa, h.symm⟩
        · rintro ⟨j, q', j1, j2, j3, j4⟩
          by_cases hjk : j = k
          · rw [hjk, hkq] at j2; cases j2; exact Or.inr j4.symm
          · exact Or.inl ⟨j, q', by omega, j2, j3, j4⟩
      · rw [if_neg hfa]
        refine ih (k + 1) _ (by omega) (by omega) (fun b => ?_)
        rw [hv b]
        constructor
        · rintro ⟨j, q', j1, j2, j3, j4⟩
          exact ⟨j, q', by omega, j2, j3, j4⟩
        · rintro ⟨j, q', j1, j2, j3, j4⟩
          by_cases hjk : j = k
          · rw [hjk, hkq] at j2; cases j2; exact absurd j3 hfa
          · exact ⟨j, q', by omega, j2, j3, j4⟩
theorem b_iff {x y : Int32} (h : ∀ b, (bt x b = true ↔ bt y b = true)) : x = y := b_ext (fun b _ => by
  have hb := h b
  cases h3 : bt x b <;> cases h4 : bt y b
  · rfl
  · rw [h3, h4] at hb; exact hb.mpr rfl
  · rw [h3, h4] at hb; exact (hb.mp rfl).symm
  · rfl)
theorem l_callersOf (h : m_X p σ) (hi : i + 2 < L) (hL : L ≤ 1536) : ∃ υ, F_L_law_b1198 xs L k (nI i) σ = k (nI i + Int32.ofInt 3) υ ∧ m_X p υ ∧ m_gf m_QA m_QS σ υ := by
  have hlen := m_sF_len h.1 8 (Nat.le_refl _)
  unfold F_L_law_b1198 F_L_law_b1251 F_L_law_b2188
  rw [m_idx1, m_ldS (by omega) hL]
  rcases m_ixc (xs (i + 1)) 8 (by decide) with hx | ⟨f, hf, hx⟩
  · have e1 : F_L_callersOf (xs (i + 1)) σ = some (1, σ) := by
      unfold F_L_callersOf F_X8_callersOf
      rw [c_ckF0 hx, m_bx1 (by decide), m_bh1 (by decide) rfl]
    have e2 : F_X9_callersOf (xs (i + 1)) σ = some (0, cv_sF σ 17 1) := by
      unfold F_X9_callersOf F_X9_callersOf_b13
      rw [m_isF0 hx, m_bi, if_pos rfl, m_pui, m_F_eq, if_neg (by decide)]
    rw [e1, m_bi, m_ldS (by omega) hL, e2, m_bi, m_tail m_F_eq (fun z => absurd z (by decide))]
    exact ⟨_, rfl, h.gf (m_F_gf (as := []) (ss := [17]) (by decide)) (by decide) (by decide), m_F_gf (by decide)⟩
  · rw [hx]
    obtain ⟨s1, a1, a2, a3, a4, a5, a6⟩ := c_fx h
    obtain ⟨V, v1, v2⟩ := c_callers h.1 a6 hf 1000 0 0 (by omega) (by omega) (fun b => ⟨fun z => (by rw [b_0] at z; cases z), fun z => absurd z.1 (Nat.not_lt_zero _)⟩)
    have v1 : F_X2_callers (nI f) s1 = some (V, s1) := v1
    have e1 : F_L_callersOf (nI f) σ = some (0, cv_sL s1 (vp_updL s1.2.2.1 0 V.toInt64)) := by
      unfold F_L_callersOf F_X8_callersOf
      rw [c_ckF hf, m_bx0, a1, m_bv, v1, m_bi, m_bh0, m_stL]
    have hX2 : m_X p (cv_sF (cv_sL s1 (vp_updL s1.2.2.1 0 V.toInt64)) 17 0) := (a5.gf (m_L_gf (as := []) (ss := [])) (by decide) (by decide)).gf (m_F_gf (as := []) (ss := [17]) (by decide)) (by decide) (by decide)
    obtain ⟨s4, c1, c2, c3, c4, c5, c6⟩ := r_fx hX2
    obtain ⟨W, w1, w2⟩ := r_callers c5.2.2.1 h.1 c6 hf 1000 0 0 (by omega) (by omega) (fun b => ⟨fun z => (by rw [b_0] at z; cases z), fun ⟨j, q, j1, _⟩ => absurd j1 (Nat.not_lt_zero _)⟩)
    have w1 : F_X9_callersOf_b33 1000 (nI f) 0 0 s4 = some (W, s4) := w1
    have hWV : W = V := b_iff (fun b => by
      rw [w2 b, v2 b]
      constructor
      · rintro ⟨j, q, j1, j2, j3, j4⟩
        obtain ⟨q1, q2, q3, q4⟩ := (m_sF_mem 8).mp (List.mem_of_getElem? j2)
        rw [j4] at q1 q2 q3 q4 j3
        exact ⟨q1, (b_cal h.1 q1 _ (Nat.le_refl _) f).mpr ⟨q.2, q2, q3, q4, j3⟩⟩
      · rintro ⟨hb, hz⟩
        obtain ⟨x, x1, x2, x3, x4⟩ := (b_cal h.1 hb _ (Nat.le_refl _) f).mp hz
        obtain ⟨j, hj⟩ := List.getElem?_of_mem ((m_sF_mem (p := p) (q := (b, x)) 8).mpr ⟨hb, x1, x2, x3⟩)
        exact ⟨j, (b, x), (m_jl h.1 hj).2, hj, x4, rfl⟩)
    have e2 : F_X9_callersOf (nI f) (cv_sL s1 (vp_updL s1.2.2.1 0 V.toInt64)) = some (V, s4) := by
      unfold F_X9_callersOf F_X9_callersOf_b13
      rw [m_isF hf, m_bi, if_neg (by decide), m_pui, m_F_eq, if_pos (by decide), c1, m_bv, w1, hWV]
    rw [e1, m_bi, m_ldS (by omega) hL, hx, e2, m_bi, m_tail (c4.trans m_F_eq) (fun _ => by rw [c3, m_F_22, m_L_out])]
    exact ⟨s4, rfl, c5, a2.trans (m_L_gf.trans ((m_F_gf (by decide)).trans c2))⟩
end A65
