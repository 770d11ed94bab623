/-! FACTS: all that is inferred, on both sides -/
def m_CA (p : m_P) (σ : cv_St) : Prop := m_CF p σ 8 ∧ m_CB p σ 8 ∧ m_Gk p (σ.1 23) ∧ m_Ld p (σ.1 27) ∧ m_LA p (σ.1 23) (σ.1 27) (σ.1 30) (σ.1 31) ∧ (∀ f, f < 8 → ∀ x, x ≤ m_cn p f → m_rh p f x = true → σ.1 29 (f * 15 + m_nd p f x) = m_lv p (σ.1 23) (σ.1 30) f (σ.1 31 f) x) ∧ m_CS p σ (m_sF p 8) ∧ ∀ f, f < 8 → σ.1 36 f = nI (m_ne p f (m_cn p f))
def m_MA (p : m_P) (σ : cv_St) : Prop := (∀ f, f < 8 → ∀ x, x ≤ m_cn p f → σ.1 49 (15 * f + x) = m_b (m_rh p f x)) ∧ (∀ f, f < 8 → ∀ j, j < m_cn p f → m_rh p f j = true → σ.1 57 (14 * f + j) = m_pa p f j) ∧ m_MS σ (m_sF p 8) ∧ (∀ f, f < 8 → σ.1 50 f = m_b (m_bl p f)) ∧ m_Gk p (σ.1 51) ∧ m_Ld p (σ.1 55) ∧ m_LA p (σ.1 51) (σ.1 55) (σ.1 58) (σ.1 59) ∧ ∀ f, f < 8 → ∀ x, x ≤ m_cn p f → σ.1 60 (15 * f + x) = m_lv p (σ.1 51) (σ.1 58) f (σ.1 59 f) x
theorem m_CA.fr {p : m_P} {as ss : List Nat} {σ τ : cv_St} (h : m_CA p σ) (g : m_fr as ss σ τ) (ha : ∀ k ∈ [20, 21, 22, 23, 24, 27, 29, 30, 31, 32, 33, 34, 35, 36], k ∉ as) (hs : 7 ∉ ss) : m_CA p τ := by
  unfold m_CA m_CF m_CB m_CS at h ⊢
  rw [g.1 20 (ha 20 (by decide)), g.1 21 (ha 21 (by decide)), g.1 22 (ha 22 (by decide)), g.1 23 (ha 23 (by decide)), g.1 24 (ha 24 (by decide)), g.1 27 (ha 27 (by decide)), g.1 29 (ha 29 (by decide)), g.1 30 (ha 30 (by decide)), g.1 31 (ha 31 (by decide)), g.1 32 (ha 32 (by decide)), g.1 33 (ha 33 (by decide)), g.1 34 (ha 34 (by decide)), g.1 35 (ha 35 (by decide)), g.1 36 (ha 36 (by decide)), g.2.1 7 hs]
  exact h
theorem m_MA.fr {p : m_P} {as ss : List Nat} {σ τ : cv_St} (h : m_MA p σ) (g : m_fr as ss σ τ) (ha : ∀ k ∈ [49, 50, 51, 55, 57, 58, 59, 60, 61, 62], k ∉ as) (hs : 21 ∉ ss) : m_MA p τ := by
  unfold m_MA m_MS at h ⊢
  rw [g.1 49 (ha 49 (by decide)), g.1 50 (ha 50 (by decide)), g.1 51 (ha 51 (by decide)), g.1 55 (ha 55 (by decide)), g.1 57 (ha 57 (by decide)), g.1 58 (ha 58 (by decide)), g.1 59 (ha 59 (by decide)), g.1 60 (ha 60 (by decide)), g.1 61 (ha 61 (by decide)), g.1 62 (ha 62 (by decide)), g.2.1 21 hs]
  exact h
section A50
variable {p : m_P} {σ τ : cv_St} {f i : Nat}
theorem c_inferFacts (hc : m_cc 14 15 16 σ p) (ho : m_ok p) {b : Bool} (hb : σ.2.1 1 = m_b b) (hA : b = false → m_CA p σ) : ∃ υ, F_X8_inferFacts σ = some υ ∧ m_fr [20, 21, 22, 23, 24, 25, 26, 27, 28, 29, 30, 31, 32, 33, 34, 35, 36, 37] [1, 6, 7] σ υ ∧ m_CA p υ ∧ υ.2.1 1 = 0 := by
  unfold F_X8_inferFacts
  rw [hb, m_b0i]
  cases b with
  | false => rw [if_pos rfl]; exact ⟨σ, rfl, m_fr.rfl', hA rfl, hb⟩
  | true =>
    rw [if_neg (by simp)]
    obtain ⟨s1, a1, a2, a3⟩ := c_inferF hc ho
    have c1 := hc.fr a2 (by decide) (by decide) (by decide)
    obtain ⟨s2, b1, b2, b3, b4⟩ := c_inferK c1 ho a3
    have c2 := c1.fr b2 (by decide) (by decide) (by decide)
    have F2 : m_CF p s2 8 := fun f hf => by rw [b2.1 20 (by decide), b2.1 21 (by decide)]; exact a3 f hf
    obtain ⟨s3, d1, d2, d3⟩ := c_inferD c2 ho F2
    have c3 := c2.fr d2 (by decide) (by decide) (by decide)
    have F3 : m_CF p s3 8 := fun f hf => by rw [d2.1 20 (by decide), d2.1 21 (by decide)]; exact F2 f hf
    obtain ⟨s4, e1, e2, e3, e4⟩ := c_inferL c3 ho F3
    have c4 := c3.fr e2 (by decide) (by decide) (by decide)
    have F4 : m_CF p s4 8 := fun f hf => by rw [e2.1 20 (by decide), e2.1 21 (by decide)]; exact F3 f hf
    obtain ⟨s5, g1, g2, g3, g4⟩ := c_inferS c4 ho F4
    rw [a1, m_bv, b1, m_bv, d1, m_bv, e1, m_bv, g1, m_bv, m_puz0]
    have hfr : m_fr [20, 21, 22, 23, 24, 25, 26, 27, 28, 29, 30, 31, 32, 33, 34, 35, 36, 37] [1, 6, 7] σ s5 := ((((a2.mono (by decide) (by decide)).trans (b2.mono (by decide) (by decide))).trans (d2.mono (by decide) (by decide))).trans (e2.mono (by decide) (by decide))).trans (g2.mono (by decide) (by decide))
    refine ⟨_, rfl, hfr.trans (m_fr.F (by decide)), ?_, m_F_eq⟩
    have hA5 : m_CA p s5 := by
      refine ⟨fun f hf => ?_, fun f hf => ?_, ?_, ?_, ?_, ?_, g3, g4⟩
      · rw [g2.1 20 (by decide), g2.1 21 (by decide)]; exact F4 f hf
      · rw [g2.1 22 (by decide), g2.1 24 (by decide), e2.1 22 (by decide), e2.1 24 (by decide), d2.1 22 (by decide), d2.1 24 (by decide)]; exact b3 f hf
      · rw [g2.1 23 (by decide), e2.1 23 (by decide), d2.1 23 (by decide)]; exact b4
      · rw [g2.1 27 (by decide), e2.1 27 (by decide)]; exact d3
      · rw [g2.1 23 (by decide), g2.1 27 (by decide), g2.1 30 (by decide), g2.1 31 (by decide), e2.1 23 (by decide), e2.1 27 (by decide)]; exact e3
      · rw [g2.1 23 (by decide), g2.1 29 (by decide), g2.1 30 (by decide), g2.1 31 (by decide), e2.1 23 (by decide)]; exact e4
    exact hA5.fr (m_fr.F (as := []) (ss := [1]) (by decide)) (by decide) (by decide)
theorem r_infer (hc : m_mc 43 σ p) (ho : m_ok p) {b : Bool} (hb : σ.2.1 22 = m_b b) (hA : b = true → m_MA p σ) : ∃ υ, F_X9_infer σ = some υ ∧ m_fr [49, 50, 51, 52, 53, 54, 55, 56, 57, 58, 59, 60, 61, 62] [21, 22] σ υ ∧ m_MA p υ ∧ υ.2.1 22 = 1 := by
  have key : ∀ (n i : Nat) (τ : cv_St), 8 - i < n → i ≤ 8 → m_fr [49, 50, 51, 52, 53, 54, 55, 56, 57, 58, 59, 60, 61, 62] [21, 22] σ τ → (∀ f, f < i → ∀ x, x ≤ m_cn p f → τ.1 49 (15 * f + x) = m_b (m_rh p f x)) → (∀ f, f < i → ∀ j, j < m_cn p f → m_rh p f j = true → τ.1 57 (14 * f + j) = m_pa p f j) → ∃ υ, F_X9_infer_b10 n (nI i) τ = some υ ∧ m_fr [49, 50, 51, 52, 53, 54, 55, 56, 57, 58, 59, 60, 61, 62] [21, 22] σ υ ∧ m_MA p υ ∧ υ.2.1 22 = 1 := by
    intro n
    induction n with
    | zero => intro i τ h; omega
    | succ n ih =>
      intro i τ hn hi hfr h49 h57
      have hcτ := hc.fr hfr (by decide)
      show ∃ υ, B_X9_infer_b10 (F_X9_infer_b10 n) (nI i) τ = _ ∧ _
      unfold B_X9_infer_b10
      rw [show (8 : Int32) = nI 8 from rfl, m_lei (by omega) (by omega)]
      by_cases hq : 8 ≤ i
      · have he : i = 8 := by omega
        subst he
        rw [if_pos hq]
        obtain ⟨s1, a1, a2, a3⟩ := r_findSites hcτ ho h49
        have c1 := hcτ.fr a2 (by decide)
        obtain ⟨s2, b1, b2, b3, b4⟩ := r_findPreserved c1 ho
        have c2 := c1.fr b2 (by decide)
        have h49b : ∀ f, f < 8 → ∀ x, x ≤ m_cn p f → s2.1 49 (15 * f + x) = m_b (m_rh p f x) := fun f hf x hx => by rw [b2.1 49 (by decide), a2.1 49 (by decide)]; exact h49 f hf x hx
        obtain ⟨s3, d1, d2, d3⟩ := r_findDefined c2 ho h49b
        have c3 := c2.fr d2 (by decide)
        have S3 : m_MS s3 (m_sF p 8) := ⟨by rw [d2.2.1 21 (by decide), b2.2.1 21 (by decide)]; exact a3.1, fun k q hk => by rw [d2.1 61 (by decide), d2.1 62 (by decide), b2.1 61 (by decide), b2.1 62 (by decide)]; exact a3.2 k q hk⟩
        obtain ⟨s4, e1, e2, e3, e4⟩ := r_findArguments c3 ho S3
        rw [a1, m_bv, b1, m_bv, d1, m_bv, e1, m_bv, m_puz1]
        have hfr4 : m_fr [49, 50, 51, 52, 53, 54, 55, 56, 57, 58, 59, 60, 61, 62] [21, 22] σ s4 := (((hfr.trans (a2.mono (by decide) (by decide))).trans (b2.mono (by decide) (by decide))).trans (d2.mono (by decide) (by decide))).trans (e2.mono (by decide) (by decide))
        refine ⟨_, rfl, hfr4.trans (m_fr.F (by decide)), ?_, m_F_eq⟩
        have hA4 : m_MA p s4 := by
          refine ⟨fun f hf x hx => ?_, fun f hf j hj hr => ?_, ⟨?_, fun k q hk => ?_⟩, fun f hf => ?_, ?_, ?_, ?_, ?_⟩
          · rw [e2.1 49 (by decide), d2.1 49 (by decide)]; exact h49b f hf x hx
          · rw [e2.1 57 (by decide), d2.1 57 (by decide), b2.1 57 (by decide), a2.1 57 (by decide)]; exact h57 f hf j hj hr
          · rw [e2.2.1 21 (by decide)]; exact S3.1
          · rw [e2.1 61 (by decide), e2.1 62 (by decide)]; exact S3.2 k q hk
          · rw [e2.1 50 (by decide), d2.1 50 (by decide)]; exact b3 f hf
          · rw [e2.1 51 (by decide), d2.1 51 (by decide)]; exact b4
          · rw [e2.1 55 (by decide)]; exact d3
          · rw [e2.1 51 (by decide), e2.1 55 (by decide)]; exact e3
          · rw [e2.1 51 (by decide)]; exact e4
        exact hA4.fr (m_fr.F (as := []) (ss := [22]) (by decide)) (by decide) (by decide)
      · have hi8 : i < 8 := by omega
        have h14 := m_cn14 ho hi8
        obtain ⟨g, a1, a2, a3⟩ := r_findReached hcτ ho hi8
        have hfr1 : m_fr [49, 50, 51, 52, 53, 54, 55, 56, 57, 58, 59, 60, 61, 62] [21, 22] σ (cv_sR τ 49 g) := hfr.trans (m_fr.R (by decide))
        obtain ⟨s2, b1, b2, b3, b4⟩ := r_findPassed (hc.fr hfr1 (by decide)) ho hi8 (by rw [m_R_eq]; exact a2)
        rw [if_neg hq, a1, m_bv, b1, m_bv, m_i1, m_add]
        refine ih (i + 1) s2 (by omega) (by omega) (hfr1.trans (b2.mono (by decide) (by decide))) (fun f hf x hx => ?_) (fun f hf j hj hr => ?_)
        · rw [b2.1 49 (by decide), m_R_eq]
          by_cases hfi : f = i
          · rw [hfi] at hx ⊢; exact a2 x hx
          · have := m_cn14 ho (show f < 8 by omega)
            rw [a3 _ (by omega)]; exact h49 f (by omega) x hx
        · by_cases hfi : f = i
          · rw [hfi] at hj hr ⊢; exact b3 j hj hr
          · have := m_cn14 ho (show f < 8 by omega)
            rw [b4 _ (by omega), m_R_ne (by decide)]; exact h57 f (by omega) j hj hr
  unfold F_X9_infer
  rw [hb, m_b0i]
  cases b with
  | true => rw [if_neg (by simp)]; exact ⟨σ, rfl, m_fr.rfl', hA rfl, hb⟩
  | false =>
    rw [if_pos rfl]
    exact key 1000 0 σ (by omega) (by omega) m_fr.rfl' (fun f hf => by omega) (fun f hf => by omega)
theorem m_wt_K {K K' : Nat → Int32} (ho : m_ok p) (hf : f < 8) (hi : i < m_cn p f) (h : ∀ g, g < 8 → K g = K' g) : m_wt p K f i = m_wt p K' f i := by
  unfold m_wt m_cb
  by_cases h1 : m_kd p f i = 99
  · rw [if_pos h1, if_pos h1, h _ (m_fa8 ho hf hi (by omega))]
  · rw [if_neg h1, if_neg h1]
theorem m_lw_K {K K' A : Nat → Int32} {r : Int32} (ho : m_ok p) (hf : f < 8) (h : ∀ g, g < 8 → K g = K' g) : ∀ n x, m_lw p K A f r n x = m_lw p K' A f r n x := by
  intro n
  induction n with
  | zero => intro x; rfl
  | succ n ih =>
    intro x
    show (if _ then _ else _) = (if _ then _ else _)
    by_cases hx : m_cn p f ≤ x
    · rw [if_pos hx, if_pos hx]
    · rw [if_neg hx, if_neg hx, ih, ih, m_wt_K ho hf (by omega) h]
theorem m_co_KD {K K' D D' A R : Nat → Int32} (ho : m_ok p) (hK : ∀ g, g < 8 → K g = K' g) (hD : ∀ g, g < 8 → D g = D' g) (h : m_co p K D A R) : m_co p K' D' A R := by
  refine ⟨fun f hf => ?_, fun q hq => ?_⟩
  · have := h.1 f hf
    unfold m_lv at this ⊢
    rw [m_lw_K ho hf hK] at this; exact this
  · have ha := m_fa8 ho hq.1 hq.2.1 (by have := hq.2.2.2; omega)
    have := h.2 q hq
    unfold m_lb m_lv m_cb at this ⊢
    rw [m_lw_K ho hq.1 hK, m_lw_K ho hq.1 hK, hK _ ha, hD _ ha] at this
    exact this
/-- the two sides hold the same facts -/
theorem m_tie (ho : m_ok p) (h : m_CA p σ) (g : m_MA p τ) : (∀ f, f < 8 → σ.1 23 f = τ.1 51 f) ∧ (∀ f, f < 8 → σ.1 27 f = τ.1 55 f) ∧ (∀ f, f < 8 → σ.1 30 f = τ.1 58 f ∧ σ.1 31 f = τ.1 59 f) ∧ ∀ f, f < 8 → ∀ x, x ≤ m_cn p f → m_rh p f x = true → σ.1 29 (f * 15 + m_nd p f x) = τ.1 60 (15 * f + x) := by
  obtain ⟨-, -, k1, d1, l1, r1, -, -⟩ := h
  obtain ⟨-, -, -, -, k2, d2, l2, r2⟩ := g
  have hK := m_Gk_uniq k1 k2
  have hD := m_Ld_uniq d1 d2
  have l2' : m_LA p (σ.1 23) (σ.1 27) (τ.1 58) (τ.1 59) := ⟨l2.1, m_co_KD ho (fun g hg => (hK g hg).symm) (fun g hg => (hD g hg).symm) l2.2.1, fun A' R' hco => l2.2.2 A' R' (m_co_KD ho hK hD hco)⟩
  have hAR := m_LA_uniq l1 l2'
  refine ⟨hK, hD, hAR, fun f hf x hx hr => ?_⟩
  rw [r1 f hf x hx hr, r2 f hf x hx, (hAR f hf).2, m_lv_congr ho hf (fun g hg => (hAR g hg).1) x]
  exact m_lw_K ho hf hK 15 x
end A50
