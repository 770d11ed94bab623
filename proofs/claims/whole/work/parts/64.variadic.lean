section A64
variable {p : m_P} {σ τ : cv_St} {xs : Nat → Int32} {L i j f : Nat} {k : Int32 → cv_St → Option (Int32 × cv_St)}
/-- two sites of f with different passed slots -/
def m_dv (p : m_P) (f a b : Nat) : Prop := ∃ q r, (m_sF p 8)[a]? = some q ∧ (m_sF p 8)[b]? = some r ∧ m_fa p q.1 q.2 = f ∧ m_fa p r.1 r.2 = f ∧ m_pa p q.1 q.2 ≠ m_pa p r.1 r.2
theorem c_differ (ho : m_ok p) (h : m_CA p σ) (hf : f < 8) : ∀ (n j : Nat) (l2 : Int32), (m_sF p 8).length - j < n → j ≤ (m_sF p 8).length → ((l2 = -1 ∧ ∀ a q, a < j → (m_sF p 8)[a]? = some q → m_fa p q.1 q.2 ≠ f) ∨ ∃ a q, a < j ∧ l2 = nI a ∧ (m_sF p 8)[a]? = some q ∧ m_fa p q.1 q.2 = f ∧ ∀ b r, b < j → (m_sF p 8)[b]? = some r → m_fa p r.1 r.2 = f → m_pa p r.1 r.2 = m_pa p q.1 q.2) → ∃ v : Bool, F_X5_differFor_b4 n (nI f) l2 (nI j) σ = some (m_b v, σ) ∧ (v = true ↔ ∃ a b, m_dv p f a b) := by
  have hlen := m_sF_len ho 8 (Nat.le_refl _)
  intro n
  induction n with
  | zero => intro j l2 h; omega
  | succ n ih =>
    intro j l2 hn hj hinv
    show ∃ v : Bool, B_X5_differFor_b4 (F_X5_differFor_b4 n) (nI f) l2 (nI j) σ = _ ∧ _
    unfold B_X5_differFor_b4 F_X5_differFor_b43 F_X5_differFor_b45
    rw [h.2.2.2.2.2.2.1.1, m_lei (by omega) (by omega)]
    by_cases hq : (m_sF p 8).length ≤ j
    · rw [if_pos hq]
      refine ⟨false, rfl, ⟨fun z => (by cases z), fun ⟨a, b, q, r, h1, h2, h3, h4, h5⟩ => ?_⟩⟩
      have ha := (m_jl ho h1).2
      have hb := (m_jl ho h2).2
      rcases hinv with ⟨_, g⟩ | ⟨c, s, c1, c2, c3, c4, c5⟩
      · exact absurd h3 (g a q (by omega) h1)
      · exact absurd ((c5 a q (by omega) h1 h3).trans (c5 b r (by omega) h2 h4).symm) h5
    · obtain ⟨q, hkq, hs⟩ := m_site (p := p) (j := j) (by omega)
      obtain ⟨e1, e2, e3, e4⟩ := h.2.2.2.2.2.2.1.2 j q hkq
      have ha := m_fq ho hs
      rw [if_neg hq, m_ld (by omega) (by decide), e3, m_eqi (by omega) (by omega), m_i1, m_add]
      by_cases hfa : m_fa p q.1 q.2 = f
      · rw [if_pos hfa]
        rcases hinv with ⟨c1, c2⟩ | ⟨c, s, c1, c2, c3, c4, c5⟩
        · rw [c1, if_pos (by decide)]
          refine ih (j + 1) (nI j) (by omega) (by omega) (Or.inr ⟨j, q, by omega, rfl, hkq, hfa, fun b r hb hr hrf => ?_⟩)
          by_cases hbj : b = j
          · rw [hbj, hkq] at hr; cases hr; rfl
          · exact absurd hrf (c2 b r (by omega) hr)
        · rw [c2, if_neg (nI_pos (by omega)), m_ld (by omega) (by decide), e4, m_ld (by omega) (by decide), (h.2.2.2.2.2.2.1.2 c s c3).2.2.2]
          by_cases hp : m_pa p q.1 q.2 = m_pa p s.1 s.2
          · rw [if_pos hp]
            refine ih (j + 1) (nI j) (by omega) (by omega) (Or.inr ⟨j, q, by omega, rfl, hkq, hfa, fun b r hb hr hrf => ?_⟩)
            by_cases hbj : b = j
            · rw [hbj, hkq] at hr; cases hr; rfl
            · exact (c5 b r (by omega) hr hrf).trans hp.symm
          · rw [if_neg hp]
            exact ⟨true, rfl, ⟨fun _ => ⟨j, c, q, s, hkq, c3, hfa, c4, hp⟩, fun _ => rfl⟩⟩
      · rw [if_neg hfa]
        refine ih (j + 1) l2 (by omega) (by omega) ?_
        rcases hinv with ⟨c1, c2⟩ | ⟨c, s, c1, c2, c3, c4, c5⟩
        · refine Or.inl ⟨c1, fun a r ha hr => ?_⟩
          by_cases hbj : a = j
          · rw [hbj, hkq] at hr; cases hr; exact hfa
          · exact c2 a r (by omega) hr
        · refine Or.inr ⟨c, s, by omega, c2, c3, c4, fun b r hb hr hrf => ?_⟩
          by_cases hbj : b = j
          · rw [hbj, hkq] at hr; cases hr; exact absurd hrf hfa
          · exact c5 b r (by omega) hr hrf
theorem r_var_in (hc : m_mc 43 σ p) (ho : m_ok p) (hM : m_MA p σ) (hf : f < 8) {K : Int32 → Int32 → Int32 → cv_St → Option (Int32 × cv_St)} {a : Nat} {qa : Nat × Nat} (hqa : (m_sF p 8)[a]? = some qa) (hsa : m_isS p qa) (R : Prop) : ∀ (n b : Nat) (w : Bool), a - b < n → b ≤ a → (w = true ↔ R ∨ ∃ c, c < b ∧ m_dv p f a c) → ∃ v : Bool, F_X9_isVariadic_b44 K n (nI f) (m_b w) (nI a) (nI b) σ = K (nI f) (m_b v) (nI (a + 1)) σ ∧ (v = true ↔ R ∨ ∃ c, c < a ∧ m_dv p f a c) := by
  have hlen := m_sF_len ho 8 (Nat.le_refl _)
  have hal := (m_jl ho hqa).2
  have hfa := m_fq ho hsa
  intro n
  induction n with
  | zero => intro b w h; omega
  | succ n ih =>
    intro b w hn hb hw
    show ∃ v : Bool, B_X9_isVariadic_b44 K (F_X9_isVariadic_b44 K n) (nI f) (m_b w) (nI a) (nI b) σ = _ ∧ _
    unfold B_X9_isVariadic_b44 F_X9_isVariadic_b87 F_X9_isVariadic_b91 F_X9_isVariadic_b92
    rw [m_lei (by omega) (by omega)]
    by_cases hq : a ≤ b
    · rw [if_pos hq, m_i1, m_add]
      have hba : b = a := by omega
      rw [hba] at hw
      exact ⟨w, rfl, hw⟩
    · obtain ⟨qb, hqb, hsb⟩ := m_site (p := p) (j := b) (by omega)
      have hfb := m_fq ho hsb
      rw [if_neg hq, m_b0i, r_vC hc ho hM hqa hsa, m_bi, m_eqi (by omega) (by omega), r_vC hc ho hM hqb hsb, m_bi, m_eqi (by omega) (by omega), r_vP ho hM hqa hsa, m_bi, r_vP ho hM hqb hsb, m_bi, m_i1, m_add b]
      have hD : m_dv p f a b ↔ (m_fa p qa.1 qa.2 = f ∧ m_fa p qb.1 qb.2 = f ∧ m_pa p qa.1 qa.2 ≠ m_pa p qb.1 qb.2) := ⟨fun ⟨q, r, h1, h2, h3⟩ => (by rw [hqa] at h1; rw [hqb] at h2; cases h1; cases h2; exact h3), fun h3 => ⟨qa, qb, hqa, hqb, h3⟩⟩
      have next : ∀ v : Bool, (v = true ↔ (w = true ∨ m_dv p f a b)) → (v = true ↔ R ∨ ∃ c, c < b + 1 ∧ m_dv p f a c) := by
        intro v hv
        rw [hv, hw]
        constructor
        · rintro ((h | ⟨c, c1, c2⟩) | h)
          · exact Or.inl h
          · exact Or.inr ⟨c, by omega, c2⟩
          · exact Or.inr ⟨b, by omega, h⟩
        · rintro (h | ⟨c, c1, c2⟩)
          · exact Or.inl (Or.inl h)
          · by_cases hcb : c = b
            · rw [hcb] at c2; exact Or.inr c2
            · exact Or.inl (Or.inr ⟨c, by omega, c2⟩)
      cases w with
      | true =>
        rw [if_neg (by simp)]
        exact ih (b + 1) true (by omega) (by omega) (next true ⟨fun _ => Or.inl rfl, fun _ => rfl⟩)
      | false =>
        rw [if_pos rfl]
        by_cases h1 : m_fa p qa.1 qa.2 = f
        · rw [if_pos h1]
          by_cases h2 : m_fa p qb.1 qb.2 = f
          · rw [if_pos h2]
            by_cases h3 : m_pa p qa.1 qa.2 = m_pa p qb.1 qb.2
            · rw [if_pos h3]
              exact ih (b + 1) false (by omega) (by omega) (next false ⟨fun z => Or.inl z, fun z => z.elim (fun z => z) (fun z => absurd h3 (hD.mp z).2.2)⟩)
            · rw [if_neg h3]
              exact ih (b + 1) true (by omega) (by omega) (next true ⟨fun _ => Or.inr (hD.mpr ⟨h1, h2, h3⟩), fun _ => rfl⟩)
          · rw [if_neg h2]
            exact ih (b + 1) false (by omega) (by omega) (next false ⟨fun z => Or.inl z, fun z => z.elim (fun z => z) (fun z => absurd (hD.mp z).2.1 h2)⟩)
        · rw [if_neg h1]
          exact ih (b + 1) false (by omega) (by omega) (next false ⟨fun z => Or.inl z, fun z => z.elim (fun z => z) (fun z => absurd (hD.mp z).1 h1)⟩)
theorem r_var (hc : m_mc 43 σ p) (ho : m_ok p) (hM : m_MA p σ) (hf : f < 8) : ∀ (n a : Nat) (w : Bool), (m_sF p 8).length - a < n → a ≤ (m_sF p 8).length → (w = true ↔ ∃ x y, x < a ∧ y < x ∧ m_dv p f x y) → ∃ v : Bool, F_X9_isVariadic_b33 n (nI f) (m_b w) (nI a) σ = some (m_b v, σ) ∧ (v = true ↔ ∃ a b, m_dv p f a b) := by
  have hlen := m_sF_len ho 8 (Nat.le_refl _)
  intro n
  induction n with
  | zero => intro b w h; omega
  | succ n ih =>
    intro a w hn ha hw
    show ∃ v : Bool, B_X9_isVariadic_b33 (F_X9_isVariadic_b33 n) (nI f) (m_b w) (nI a) σ = _ ∧ _
    unfold B_X9_isVariadic_b33
    rw [hM.2.2.1.1, m_lei (by omega) (by omega)]
    by_cases hq : (m_sF p 8).length ≤ a
    · rw [if_pos hq, m_rzb]
      refine ⟨w, rfl, hw.trans ⟨fun ⟨x, y, _, _, h⟩ => ⟨x, y, h⟩, fun ⟨x, y, q, r, h1, h2, h3, h4, h5⟩ => ?_⟩⟩
      have hx := (m_jl ho h1).2
      have hy := (m_jl ho h2).2
      rcases Nat.lt_trichotomy x y with h | h | h
      · exact ⟨y, x, by omega, h, r, q, h2, h1, h4, h3, fun e => h5 e.symm⟩
      · rw [h, h2] at h1; cases h1; exact absurd rfl h5
      · exact ⟨x, y, by omega, h, q, r, h1, h2, h3, h4, h5⟩
    · obtain ⟨qa, hqa, hsa⟩ := m_site (p := p) (j := a) (by omega)
      have o1 : (m_sF p 8).length - (a + 1) < n := by omega
      have o2 : a + 1 ≤ (m_sF p 8).length := by omega
      obtain ⟨v, v1, v2⟩ := r_var_in hc ho hM hf (K := F_X9_isVariadic_b33 n) hqa hsa (∃ x y, x < a ∧ y < x ∧ m_dv p f x y) 1000 0 w (by omega) (by omega) (hw.trans ⟨fun z => Or.inl z, fun z => z.elim (fun z => z) (fun ⟨c, hc, _⟩ => absurd hc (Nat.not_lt_zero _))⟩)
      have v1 : F_X9_isVariadic_b44 (F_X9_isVariadic_b33 n) 1000 (nI f) (m_b w) (nI a) 0 σ = F_X9_isVariadic_b33 n (nI f) (m_b v) (nI (a + 1)) σ := v1
      rw [if_neg hq, v1]
      refine ih (a + 1) v o1 o2 (v2.trans ⟨?_, ?_⟩)
      · rintro (⟨x, y, x1, x2, x3⟩ | ⟨c, c1, c2⟩)
        · exact ⟨x, y, by omega, x2, x3⟩
        · exact ⟨a, c, by omega, c1, c2⟩
      · rintro ⟨x, y, x1, x2, x3⟩
        by_cases hxa : x = a
        · rw [hxa] at x2 x3; exact Or.inr ⟨y, x2, x3⟩
        · exact Or.inl ⟨x, y, by omega, x2, x3⟩
theorem l_isVariadic (h : m_X p σ) (hi : i + 2 < L) (hL : L ≤ 1536) : ∃ υ, F_L_law_b1079 xs L k (nI i) σ = k (nI i + Int32.ofInt 3) υ ∧ m_X p υ ∧ m_gf m_QA m_QS σ υ := by
  have hlen := m_sF_len h.1 8 (Nat.le_refl _)
  unfold F_L_law_b1079 F_L_law_b1133 F_L_law_b1139 F_L_law_b2188
  rw [m_idx1, m_ldS (by omega) hL]
  rcases m_ixc (xs (i + 1)) 8 (by decide) with hx | ⟨f, hf, hx⟩
  · have e1 : F_L_isVariadic (xs (i + 1)) σ = some (1, σ) := by
      unfold F_L_isVariadic F_X8_isVariadic
      rw [c_ckF0 hx, m_bx1 (by decide), m_bh1 (by decide) rfl]
    have e2 : F_X9_isVariadic (xs (i + 1)) σ = some (m_b false, cv_sF σ 17 1) := by
      unfold F_X9_isVariadic F_X9_isVariadic_b13
      rw [m_isF0 hx, m_bi, if_pos rfl, m_pui, m_F_eq, if_neg (by decide)]; rfl
    rw [e1, m_bi, m_ldS (by omega) hL, e2, m_bi, m_tailB m_F_eq (fun z => absurd z (by decide))]
    exact ⟨_, rfl, h.gf (m_F_gf (as := []) (ss := [17]) (by decide)) (by decide) (by decide), m_F_gf (by decide)⟩
  · rw [hx]
    obtain ⟨s1, a1, a2, a3, a4, a5, a6⟩ := c_fx h
    obtain ⟨v, v1, v2⟩ := c_differ h.1 a6 hf 1000 0 (-1) (by omega) (by omega) (Or.inl ⟨rfl, fun a q ha => absurd ha (Nat.not_lt_zero _)⟩)
    have v1 : F_X5_differFor (nI f) s1 = some (m_b v, s1) := v1
    have e1 : F_L_isVariadic (nI f) σ = some (0, cv_sL s1 (vp_updL s1.2.2.1 0 (if v = false then 0 else 1))) := by
      unfold F_L_isVariadic F_X8_isVariadic F_L_isVariadic_b15
      rw [c_ckF hf, m_bx0, a1, m_bv, v1, m_bi, m_rxzb, m_bh0, m_stL, m_stL, m_b0i]
      by_cases hb : v = false
      · rw [if_pos hb, if_pos hb]
      · rw [if_neg hb, if_neg hb]
    have hX2 : m_X p (cv_sF (cv_sL s1 (vp_updL s1.2.2.1 0 (if v = false then 0 else 1))) 17 0) := (a5.gf (m_L_gf (as := []) (ss := [])) (by decide) (by decide)).gf (m_F_gf (as := []) (ss := [17]) (by decide)) (by decide) (by decide)
    obtain ⟨s4, c1, c2, c3, c4, c5, c6⟩ := r_fx hX2
    obtain ⟨w, w1, w2⟩ := r_var c5.2.2.1 h.1 c6 hf 1000 0 false (by omega) (by omega) ⟨fun z => (by cases z), fun ⟨x, y, hx, _⟩ => absurd hx (Nat.not_lt_zero _)⟩
    have w1 : F_X9_isVariadic_b33 1000 (nI f) 0 0 s4 = some (m_b w, s4) := w1
    have hvw : w = v := by
      cases hv : v <;> cases hw : w
      · rfl
      · rw [hw] at w2; rw [hv] at v2; exact absurd (v2.mpr (w2.mp rfl)) (by simp)
      · rw [hw] at w2; rw [hv] at v2; exact absurd (w2.mpr (v2.mp rfl)) (by simp)
      · rfl
    have e2 : F_X9_isVariadic (nI f) (cv_sL s1 (vp_updL s1.2.2.1 0 (if v = false then 0 else 1))) = some (m_b v, s4) := by
      unfold F_X9_isVariadic F_X9_isVariadic_b13
      rw [m_isF hf, m_bi, if_neg (by decide), m_pui, m_F_eq, if_pos (by decide), c1, m_bv, w1, hvw]
    rw [e1, m_bi, m_ldS (by omega) hL, hx, e2, m_bi, m_tailB (c4.trans m_F_eq) (fun _ => by rw [c3, m_F_22, m_L_out])]
    exact ⟨s4, rfl, c5, a2.trans (m_L_gf.trans ((m_F_gf (by decide)).trans c2))⟩
end A64
