theorem m_Aid {σ : cv_St} {k i : Nat} {v : Int32} (h : v = σ.1 k i) : cv_sA σ k i v = σ := by
  unfold cv_sA
  rw [h, m_upd_self, m_Rid]
theorem m_bt1 : m_b true = 1 := rfl
theorem m_ch_s {S : Nat → (Nat → Int32) → Int32} {k : Nat} {D : Nat → Int32} : m_ch S (k + 1) D = (m_ch S k D || decide (¬ S k (m_dr S k D) = m_dr S k D k)) := rfl
theorem m_dr_s {S : Nat → (Nat → Int32) → Int32} {k : Nat} {D : Nat → Int32} : m_dr S (k + 1) D = upd (m_dr S k D) k (S k (m_dr S k D)) := rfl
section A36
variable {p : m_P} {σ : cv_St}
theorem c_di_in (hc : m_cc 14 15 16 σ p) (ho : m_ok p) (hF : m_CF p σ 8) {D : Nat → Int32} (hI : m_inv m_sub (fun x => m_sub x 255) (m_Sd p) D) (k : Int32 → Int32 → cv_St → Option cv_St) (l2 : Int32) : ∀ (n i : Nat) (τ : cv_St), 8 - i < n → i ≤ 8 → m_fr [27, 28] [] σ τ → τ.1 27 = m_dr (m_Sd p) i D →
    ∃ υ, F_X1_infer_b26 k n (m_b (m_ch (m_Sd p) i D)) l2 (nI i) τ = k (m_b (m_ch (m_Sd p) 8 D)) (l2 + Int32.ofInt 1) υ ∧ m_fr [27, 28] [] σ υ ∧ υ.1 27 = m_dr (m_Sd p) 8 D := by
  intro n
  induction n with
  | zero => intro i τ h; omega
  | succ n ih =>
    intro i τ hn hi hfr hD
    show ∃ υ, B_X1_infer_b26 k (F_X1_infer_b26 k n) _ l2 (nI i) τ = _ ∧ _
    unfold B_X1_infer_b26
    rw [show (8 : Int32) = nI 8 from rfl, m_lei (by omega) (by omega)]
    by_cases hq : 8 ≤ i
    · have he : i = 8 := by omega
      subst he
      rw [if_pos hq]
      exact ⟨τ, rfl, hfr, hD⟩
    · have hF' : m_CF p τ 8 := fun f hf => by rw [hfr.1 20 (by decide), hfr.1 21 (by decide)]; exact hF f hf
      obtain ⟨g', h1⟩ := c_definedBy (hc.fr hfr (by decide) (by decide) (by decide)) ho (show i < 8 by omega) hF' (fun g hg => by rw [hD]; exact (m_invk (m_sysd ho) hI i (by omega)).1.1 g hg)
      rw [if_neg hq, h1, m_bi, m_ld (by omega) (by decide), m_R_ne (by decide)]
      have hfr2 : m_fr [27, 28] [] σ (cv_sA (cv_sR τ 28 g') 27 i (m_db p (τ.1 27) i)) := hfr.trans ((m_fr.R (by decide)).trans (m_fr.A (by decide)))
      have hD2 : (cv_sA (cv_sR τ 28 g') 27 i (m_db p (τ.1 27) i)).1 27 = m_dr (m_Sd p) (i + 1) D := by
        rw [m_A_eq, m_R_ne (by decide), m_dr_s, ← hD]; rfl
      unfold F_X1_infer_b60
      rw [m_st (by omega) (by decide), m_i1, m_add]
      by_cases hch : m_db p (τ.1 27) i = τ.1 27 i
      · rw [if_pos hch]
        have := ih (i + 1) _ (by omega) (by omega) hfr2 hD2
        rw [m_ch_s, decide_eq_false (show ¬ ¬ m_Sd p i (m_dr (m_Sd p) i D) = m_dr (m_Sd p) i D i by rw [← hD]; exact not_not_intro hch), Bool.or_false, m_Aid (show m_db p (τ.1 27) i = (cv_sR τ 28 g').1 27 i by rw [m_R_ne (by decide)]; exact hch)] at this
        exact this
      · rw [if_neg hch]
        have := ih (i + 1) _ (by omega) (by omega) hfr2 hD2
        rw [m_ch_s, decide_eq_true (show ¬ m_Sd p i (m_dr (m_Sd p) i D) = m_dr (m_Sd p) i D i by rw [← hD]; exact hch), Bool.or_true, m_bt1] at this
        exact this
theorem c_di_out (hc : m_cc 14 15 16 σ p) (ho : m_ok p) (hF : m_CF p σ 8) {D : Nat → Int32} (hI : m_inv m_sub (fun x => m_sub x 255) (m_Sd p) D) {K : Nat} (hK : K ≤ 64) (hK1 : ∀ j, j < K → m_ch (m_Sd p) 8 (m_it (m_Sd p) D j) = true) (hK2 : m_ch (m_Sd p) 8 (m_it (m_Sd p) D K) = false) : ∀ (n r : Nat) (τ : cv_St) (fl : Int32), K + 2 - r < n → r ≤ K + 1 → m_fr [27, 28] [] σ τ → τ.1 27 = m_it (m_Sd p) D r → fl = m_b (decide (r ≤ K)) →
    ∃ υ, F_X1_infer_b12 n fl (nI r) τ = some υ ∧ m_fr [27, 28] [] σ υ ∧ υ.1 27 = m_it (m_Sd p) D K := by
  intro n
  induction n with
  | zero => intro r τ fl h; omega
  | succ n ih =>
    intro r τ fl hn hr hfr hD hfl
    show ∃ υ, B_X1_infer_b12 (F_X1_infer_b12 n) fl (nI r) τ = _ ∧ _
    unfold B_X1_infer_b12
    rw [hfl, m_b0i]
    by_cases hq : r ≤ K
    · rw [if_neg (by simp [hq]), show (64 : Int32) = nI 64 from rfl, m_lti (by omega) (by omega), if_neg (by omega)]
      obtain ⟨υ, h1, h2, h3⟩ := c_di_in hc ho hF (m_it_inv (m_sysd ho) hI r) (F_X1_infer_b12 n) (nI r) 1000 0 τ (by omega) (by omega) hfr hD
      have h1' : F_X1_infer_b26 (F_X1_infer_b12 n) 1000 0 (nI r) 0 τ = F_X1_infer_b12 n (m_b (m_ch (m_Sd p) 8 (m_it (m_Sd p) D r))) (nI r + Int32.ofInt 1) υ := h1
      rw [h1', m_i1, m_add]
      refine ih (r + 1) υ _ (by omega) (by omega) h2 h3 ?_
      by_cases hrK : r = K
      · rw [hrK, hK2, decide_eq_false (by omega)]
      · rw [hK1 r (by omega), decide_eq_true (by omega)]
    · rw [if_pos (by simp [hq])]
      refine ⟨τ, rfl, hfr, ?_⟩
      rw [hD, show r = K + 1 by omega]
      exact (m_ch_f 8 hK2).1
theorem c_inferD (hc : m_cc 14 15 16 σ p) (ho : m_ok p) (hF : m_CF p σ 8) : ∃ υ, F_X1_infer σ = some υ ∧ m_fr [27, 28] [] σ υ ∧ m_Ld p (υ.1 27) := by
  unfold F_X1_infer
  obtain ⟨g, h1, h2⟩ := c_fill_27 (σ := σ) 0
  rw [h1, m_bv]
  have hfr : m_fr [27, 28] [] σ (cv_sR σ 27 g) := m_fr.R (by decide)
  obtain ⟨K, k1, k2, k3⟩ := m_it_end (m_sysd ho) (m_inv0 (p := p) h2)
  obtain ⟨υ, q1, q2, q3⟩ := c_di_out hc ho hF (m_inv0 h2) k1 k2 k3 1000 0 (cv_sR σ 27 g) 1 (by omega) (by omega) hfr m_R_eq (by rw [decide_eq_true (by omega)]; rfl)
  exact ⟨υ, q1, q2, by rw [q3]; exact m_Ld_it ho h2 k3⟩
-- the reference
theorem r_di_in (hc : m_mc 43 σ p) (ho : m_ok p) (hR : ∀ f, f < 8 → ∀ x, x ≤ m_cn p f → σ.1 49 (15 * f + x) = m_b (m_rh p f x)) {D : Nat → Int32} (k : Int32 → cv_St → Option cv_St) : ∀ (n i : Nat) (τ : cv_St), 8 - i < n → i ≤ 8 → m_fr [55, 56] [] σ τ → τ.1 55 = m_dr (m_Sd p) i D →
    ∃ υ, F_X9_findDefined_b31 k n (m_b (m_ch (m_Sd p) i D)) (nI i) τ = k (m_b (m_ch (m_Sd p) 8 D)) υ ∧ m_fr [55, 56] [] σ υ ∧ υ.1 55 = m_dr (m_Sd p) 8 D := by
  intro n
  induction n with
  | zero => intro i τ h; omega
  | succ n ih =>
    intro i τ hn hi hfr hD
    show ∃ υ, B_X9_findDefined_b31 k (F_X9_findDefined_b31 k n) _ (nI i) τ = _ ∧ _
    unfold B_X9_findDefined_b31
    rw [show (8 : Int32) = nI 8 from rfl, m_lei (by omega) (by omega)]
    by_cases hq : 8 ≤ i
    · have he : i = 8 := by omega
      subst he
      rw [if_pos hq]
      exact ⟨τ, rfl, hfr, hD⟩
    · obtain ⟨g', h1⟩ := r_definedBy (σ := τ) (hc.fr hfr (by decide)) ho (show i < 8 by omega) (by rw [hfr.1 49 (by decide)]; exact hR i (by omega))
      rw [if_neg hq, h1, m_bi, m_ld (by omega) (by decide), m_R_ne (by decide)]
      have hfr2 : m_fr [55, 56] [] σ (cv_sA (cv_sR τ 56 g') 55 i (m_db p (τ.1 55) i)) := hfr.trans ((m_fr.R (by decide)).trans (m_fr.A (by decide)))
      have hD2 : (cv_sA (cv_sR τ 56 g') 55 i (m_db p (τ.1 55) i)).1 55 = m_dr (m_Sd p) (i + 1) D := by
        rw [m_A_eq, m_R_ne (by decide), m_dr_s, ← hD]; rfl
      have hih := ih (i + 1) _ (by omega) (by omega) hfr2 hD2
      have hst : ∀ t : Int32, F_X9_findDefined_b62 k (F_X9_findDefined_b31 k n) (nI i) (m_db p (τ.1 55) i) t (cv_sR τ 56 g') = F_X9_findDefined_b31 k n t (nI (i + 1)) (cv_sA (cv_sR τ 56 g') 55 i (m_db p (τ.1 55) i)) := by
        intro t
        unfold F_X9_findDefined_b62
        rw [m_st (by omega) (by decide), m_i1, m_add]
      unfold F_X9_findDefined_b57
      rw [hst, hst, m_b0i]
      by_cases hf0 : m_ch (m_Sd p) i D = false
      · rw [if_pos hf0]
        by_cases hch : m_db p (τ.1 55) i = τ.1 55 i
        · rw [if_pos hch]
          rw [m_ch_s, decide_eq_false (show ¬ ¬ m_Sd p i (m_dr (m_Sd p) i D) = m_dr (m_Sd p) i D i by rw [← hD]; exact not_not_intro hch), Bool.or_false, hf0] at hih
          exact hih
        · rw [if_neg hch]
          rw [m_ch_s, decide_eq_true (show ¬ m_Sd p i (m_dr (m_Sd p) i D) = m_dr (m_Sd p) i D i by rw [← hD]; exact hch), Bool.or_true] at hih
          exact hih
      · rw [if_neg hf0]
        rw [m_ch_s, show m_ch (m_Sd p) i D = true by simpa using hf0, Bool.true_or] at hih
        exact hih
theorem r_di_out (hc : m_mc 43 σ p) (ho : m_ok p) (hR : ∀ f, f < 8 → ∀ x, x ≤ m_cn p f → σ.1 49 (15 * f + x) = m_b (m_rh p f x)) {D : Nat → Int32} {K : Nat} (hK : K ≤ 64) (hK1 : ∀ j, j < K → m_ch (m_Sd p) 8 (m_it (m_Sd p) D j) = true) (hK2 : m_ch (m_Sd p) 8 (m_it (m_Sd p) D K) = false) : ∀ (n r : Nat) (τ : cv_St) (fl : Int32), K + 2 - r < n → r ≤ K + 1 → m_fr [55, 56] [] σ τ → τ.1 55 = m_it (m_Sd p) D r → fl = m_b (decide (r ≤ K)) →
    ∃ υ, F_X9_findDefined_b23 n fl τ = some υ ∧ m_fr [55, 56] [] σ υ ∧ υ.1 55 = m_it (m_Sd p) D K := by
  intro n
  induction n with
  | zero => intro r τ fl h; omega
  | succ n ih =>
    intro r τ fl hn hr hfr hD hfl
    show ∃ υ, B_X9_findDefined_b23 (F_X9_findDefined_b23 n) fl τ = _ ∧ _
    unfold B_X9_findDefined_b23
    rw [hfl, m_b0i]
    by_cases hq : r ≤ K
    · rw [if_neg (by simp [hq])]
      obtain ⟨υ, h1, h2, h3⟩ := r_di_in hc ho hR (F_X9_findDefined_b23 n) 1000 0 τ (by omega) (by omega) hfr hD
      have h1' : F_X9_findDefined_b31 (F_X9_findDefined_b23 n) 1000 0 0 τ = F_X9_findDefined_b23 n (m_b (m_ch (m_Sd p) 8 (m_it (m_Sd p) D r))) υ := h1
      rw [h1']
      refine ih (r + 1) υ _ (by omega) (by omega) h2 h3 ?_
      by_cases hrK : r = K
      · rw [hrK, hK2, decide_eq_false (by omega)]
      · rw [hK1 r (by omega), decide_eq_true (by omega)]
    · rw [if_pos (by simp [hq])]
      refine ⟨τ, rfl, hfr, ?_⟩
      rw [hD, show r = K + 1 by omega]
      exact (m_ch_f 8 hK2).1
theorem r_findDefined (hc : m_mc 43 σ p) (ho : m_ok p) (hR : ∀ f, f < 8 → ∀ x, x ≤ m_cn p f → σ.1 49 (15 * f + x) = m_b (m_rh p f x)) : ∃ υ, F_X9_findDefined σ = some υ ∧ m_fr [55, 56] [] σ υ ∧ m_Ld p (υ.1 55) := by
  have key : ∀ (n i : Nat) (g : Nat → Int32), 8 - i < n → i ≤ 8 → (∀ x, x < i → g x = 0) → ∃ υ, F_X9_findDefined_b2 n (nI i) (cv_sR σ 55 g) = some υ ∧ m_fr [55, 56] [] σ υ ∧ m_Ld p (υ.1 55) := by
    intro n
    induction n with
    | zero => intro i g h; omega
    | succ n ih =>
      intro i g hn hi hg
      show ∃ υ, B_X9_findDefined_b2 (F_X9_findDefined_b2 n) (nI i) (cv_sR σ 55 g) = _ ∧ _
      unfold B_X9_findDefined_b2
      rw [show (8 : Int32) = nI 8 from rfl, m_lei (by omega) (by omega)]
      by_cases hq : 8 ≤ i
      · rw [if_pos hq]
        have h2 : ∀ f, f < 8 → g f = 0 := fun f hf => hg f (by omega)
        obtain ⟨K, k1, k2, k3⟩ := m_it_end (m_sysd ho) (m_inv0 (p := p) h2)
        obtain ⟨υ, q1, q2, q3⟩ := r_di_out hc ho hR k1 k2 k3 1000 0 (cv_sR σ 55 g) 1 (by omega) (by omega) (m_fr.R (by decide)) m_R_eq (by rw [decide_eq_true (by omega)]; rfl)
        exact ⟨υ, q1, q2, by rw [q3]; exact m_Ld_it ho h2 k3⟩
      · rw [if_neg hq, m_st (by omega) (by decide), m_AR, m_i1, m_add]
        refine ih (i + 1) _ (by omega) (by omega) (fun x hx => ?_)
        by_cases h : x = i
        · rw [h, m_u_eq]
        · rw [m_u_ne h]; exact hg x (by omega)
  unfold F_X9_findDefined
  have := key 1000 0 (σ.1 55) (by omega) (by omega) (fun x hx => by omega)
  rwa [m_Rid] at this
end A36
