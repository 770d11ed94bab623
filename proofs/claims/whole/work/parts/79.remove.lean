/-! an instruction is removed: both sides -/
def v_rm (p : m_P) (f x : Nat) : m_P := (fun g => if g = f then p.1 g - 1 else p.1 g, fun g i => if g = f ∧ x ≤ i then p.2.1 g (i + 1) else p.2.1 g i, fun g i => if g = f ∧ x ≤ i then p.2.2.1 g (i + 1) else p.2.2.1 g i, fun g i => if g = f ∧ x ≤ i then p.2.2.2 g (i + 1) else p.2.2.2 g i)
section A79
variable {p : m_P} {σ τ υ : cv_St} {xs : Nat → Int32} {L i j f g x : Nat} {k : Int32 → cv_St → Option (Int32 × cv_St)}
theorem v_rm_c : m_cn (v_rm p f x) f = m_cn p f - 1 := if_pos rfl
theorem v_rm_a (h : x ≤ i) : m_kd (v_rm p f x) f i = m_kd p f (i + 1) ∧ m_fa (v_rm p f x) f i = m_fa p f (i + 1) ∧ m_sb (v_rm p f x) f i = m_sb p f (i + 1) := ⟨if_pos ⟨rfl, h⟩, if_pos ⟨rfl, h⟩, if_pos ⟨rfl, h⟩⟩
theorem v_rm_b (h : i < x) : m_kd (v_rm p f x) f i = m_kd p f i ∧ m_fa (v_rm p f x) f i = m_fa p f i ∧ m_sb (v_rm p f x) f i = m_sb p f i := ⟨if_neg (fun z => by omega), if_neg (fun z => by omega), if_neg (fun z => by omega)⟩
theorem v_rm_g (h : g ≠ f) : m_cn (v_rm p f x) g = m_cn p g ∧ ∀ i, m_kd (v_rm p f x) g i = m_kd p g i ∧ m_fa (v_rm p f x) g i = m_fa p g i ∧ m_sb (v_rm p f x) g i = m_sb p g i := ⟨if_neg h, fun i => ⟨if_neg (fun z => h z.1), if_neg (fun z => h z.1), if_neg (fun z => h z.1)⟩⟩
theorem v_rm_ok (ho : m_ok p) (hf : f < 8) (hx : x < m_cn p f) : m_ok (v_rm p f x) := by
  intro g hg
  by_cases hgf : g = f
  · rw [hgf, v_rm_c]
    have := (ho f hf).1
    refine ⟨by omega, fun i hi => ?_⟩
    by_cases hxi : x ≤ i
    · rw [(v_rm_a hxi).1, (v_rm_a hxi).2.1, (v_rm_a hxi).2.2]; exact (ho f hf).2 (i + 1) (by omega)
    · rw [(v_rm_b (show i < x by omega)).1, (v_rm_b (show i < x by omega)).2.1, (v_rm_b (show i < x by omega)).2.2]; exact (ho f hf).2 i (by omega)
  · rw [(v_rm_g hgf).1]
    refine ⟨(ho g hg).1, fun i hi => ?_⟩
    obtain ⟨e1, e2, e3⟩ := (v_rm_g (p := p) (x := x) hgf).2 i
    rw [e1, e2, e3]; exact (ho g hg).2 i hi
theorem c_drop (hc : m_cc 14 15 16 σ p) (ho : m_ok p) (hf : f < 8) : ∀ (n i : Nat) (τ : cv_St), m_cn p f - i < n → i < m_cn p f → x ≤ i → m_fr [14, 15, 16] [] σ τ → cv_allC (τ.1 15) 112 = true → τ.1 14 = σ.1 14 → (∀ y, τ.1 15 y = (if f * 14 + x ≤ y ∧ y < f * 14 + i then σ.1 15 (y + 1) else σ.1 15 y) ∧ τ.1 16 y = (if f * 14 + x ≤ y ∧ y < f * 14 + i then σ.1 16 (y + 1) else σ.1 16 y)) → ∃ υ, F_X0_drop_b8 n (nI f) (nI (f * 14)) (nI i) τ = some υ ∧ m_fr [14, 15, 16] [] σ υ ∧ cv_allC (υ.1 15) 112 = true ∧ υ.1 14 = upd (σ.1 14) f (nI (m_cn p f - 1)) ∧ (∀ y, υ.1 15 y = (if f * 14 + x ≤ y ∧ y < f * 14 + (m_cn p f - 1) then σ.1 15 (y + 1) else σ.1 15 y) ∧ υ.1 16 y = (if f * 14 + x ≤ y ∧ y < f * 14 + (m_cn p f - 1) then σ.1 16 (y + 1) else σ.1 16 y)) := by
  have h14 := m_cn14 ho hf
  intro n
  induction n with
  | zero => intro i τ h; omega
  | succ n ih =>
    intro i τ hn hi hxi hfr hAll h14e hin
    have hcnt : τ.1 14 f = nI (m_cn p f) := by rw [h14e]; exact (hc f hf).1
    show ∃ υ, B_X0_drop_b8 (F_X0_drop_b8 n) (nI f) (nI (f * 14)) (nI i) τ = _ ∧ _
    unfold B_X0_drop_b8
    rw [m_ld hf (by decide), hcnt, show (1 : Int32) = nI 1 from rfl, m_add, m_lei (by omega) (by omega)]
    by_cases hq : m_cn p f ≤ i + 1
    · have hie : i = m_cn p f - 1 := by omega
      rw [if_pos hq, m_ld hf (by decide), hcnt, pk_sub (by omega), m_st hf (by decide)]
      refine ⟨_, rfl, hfr.trans (m_fr.A (by decide)), by rw [m_A_ne (by decide)]; exact hAll, by rw [m_A_eq, h14e], fun y => ?_⟩
      rw [m_A_ne (by decide), m_A_ne (by decide), ← hie]
      exact hin y
    · have hv := m_val_k (m_vl ho hf (show i + 1 < m_cn p f by omega))
      have e1 : τ.1 15 (f * 14 + i + 1) = nI (m_kd p f (i + 1)) := by
        rw [(hin _).1, if_neg (by omega), Nat.add_assoc]; exact ((hc f hf).2 (i + 1) (by omega)).1
      have e2 : τ.1 16 (f * 14 + i + 1) = σ.1 16 (f * 14 + i + 1) := by
        rw [(hin _).2, if_neg (by omega)]
      have e0 : nI (m_kd p f (i + 1)) = σ.1 15 (f * 14 + i + 1) := by
        rw [Nat.add_assoc]; exact ((hc f hf).2 (i + 1) (by omega)).1.symm
      rw [if_neg hq, m_add, m_add, m_ld (by omega) (by decide), e1, m_narc (by omega), m_st (by omega) (by decide), m_ld (by omega) (by decide), m_A_ne (by decide), e2, m_st (by omega) (by decide), m_i1, m_add]
      refine ih (i + 1) _ (by omega) (by omega) (by omega) (hfr.trans ((m_fr.A (by decide)).trans (m_fr.A (by decide)))) ?_ ?_ (fun y => ?_)
      · rw [m_A_ne (by decide), m_A_eq]; exact v_allC_u hAll (by omega)
      · rw [m_A_ne (by decide), m_A_ne (by decide)]; exact h14e
      · rw [m_A_ne (by decide), m_A_eq, m_A_eq, m_A_ne (by decide)]
        by_cases hy : y = f * 14 + i
        · rw [hy, m_u_eq, m_u_eq, if_pos (by omega), if_pos (by omega), e0]; exact ⟨rfl, rfl⟩
        · rw [m_u_ne hy, m_u_ne hy]
          by_cases hy2 : f * 14 + x ≤ y ∧ y < f * 14 + i
          · rw [if_pos (show f * 14 + x ≤ y ∧ y < f * 14 + (i + 1) by omega), if_pos (show f * 14 + x ≤ y ∧ y < f * 14 + (i + 1) by omega)]
            have := hin y
            rw [if_pos hy2, if_pos hy2] at this; exact this
          · rw [if_neg (show ¬ (f * 14 + x ≤ y ∧ y < f * 14 + (i + 1)) by omega), if_neg (show ¬ (f * 14 + x ≤ y ∧ y < f * 14 + (i + 1)) by omega)]
            have := hin y
            rw [if_neg hy2, if_neg hy2] at this; exact this
theorem c_drops (hc : m_cc 14 15 16 σ p) (ho : m_ok p) (hf : f < 8) (hx : x < m_cn p f) (hA : cv_allC (σ.1 15) 112 = true) : ∃ υ, F_X0_drop (nI f) (nI x) σ = some υ ∧ m_fr [14, 15, 16] [] σ υ ∧ cv_allC (υ.1 15) 112 = true ∧ m_cc 14 15 16 υ (v_rm p f x) := by
  have h14 := m_cn14 ho hf
  obtain ⟨υ, u1, u2, u3, u4, u5⟩ := c_drop (x := x) hc ho hf 1000 x σ (by omega) hx (Nat.le_refl _) m_fr.rfl' hA rfl (fun y => by rw [if_neg (by omega), if_neg (by omega)]; exact ⟨rfl, rfl⟩)
  refine ⟨υ, ?_, u2, u3, fun g hg => ?_⟩
  · unfold F_X0_drop
    rw [show (14 : Int32) = nI 14 from rfl, m_mul]
    exact u1
  · by_cases hgf : g = f
    · subst hgf
      rw [u4, m_u_eq, v_rm_c]
      refine ⟨rfl, fun i hi => ?_⟩
      rw [(u5 _).1, (u5 _).2]
      by_cases hxi : x ≤ i
      · rw [if_pos (show g * 14 + x ≤ g * 14 + i ∧ g * 14 + i < g * 14 + (m_cn p g - 1) by omega), if_pos (show g * 14 + x ≤ g * 14 + i ∧ g * 14 + i < g * 14 + (m_cn p g - 1) by omega), (v_rm_a hxi).1, (v_rm_a hxi).2.1, (v_rm_a hxi).2.2, Nat.add_assoc]
        exact (hc g hg).2 (i + 1) (by omega)
      · rw [if_neg (by omega), if_neg (by omega), (v_rm_b (show i < x by omega)).1, (v_rm_b (show i < x by omega)).2.1, (v_rm_b (show i < x by omega)).2.2]
        exact (hc g hg).2 i (by omega)
    · have := (ho g hg).1
      rw [u4, m_u_ne hgf, (v_rm_g hgf).1]
      refine ⟨(hc g hg).1, fun i hi => ?_⟩
      obtain ⟨e1, e2, e3⟩ := (v_rm_g (p := p) (x := x) hgf).2 i
      rw [e1, e2, e3, (u5 _).1, (u5 _).2, if_neg (by omega), if_neg (by omega)]
      exact (hc g hg).2 i hi
theorem r_row {K : Int32 → Int32 → Int32 → cv_St → Option (Int32 × cv_St)} {c b : Nat} (hf : f < 8) (hb : b = 8 ∨ b = 120 ∨ b = 232) (hc0 : 0 < c) (hc : c ≤ 14) : ∀ (n i : Nat) (τ : cv_St), c - i < n → i < c → τ.1 43 f = nI c → ∃ υ, F_X9_removeInstruction_b40 K n (nI f) (nI x) (nI b) (nI i) τ = K (nI f) (nI x) (nI (b + 112)) υ ∧ m_fr [43] [] τ υ ∧ ∀ y, υ.1 43 y = if b + 14 * f + i ≤ y ∧ y < b + 14 * f + (c - 1) then τ.1 43 (y + 1) else τ.1 43 y := by
  intro n
  induction n with
  | zero => intro i τ h; omega
  | succ n ih =>
    intro i τ hn hi hcnt
    show ∃ υ, B_X9_removeInstruction_b40 K (F_X9_removeInstruction_b40 K n) (nI f) (nI x) (nI b) (nI i) τ = _ ∧ _
    unfold B_X9_removeInstruction_b40
    rw [m_ld (by omega) (by decide), hcnt, show (1 : Int32) = nI 1 from rfl, pk_sub (by omega), m_lei (by omega) (by omega)]
    by_cases hq : c - 1 ≤ i
    · rw [if_pos hq, show (Int32.ofInt 112) = nI 112 by decide, m_add]
      refine ⟨τ, rfl, m_fr.rfl', fun y => ?_⟩
      rw [if_neg (by omega)]
    · rw [if_neg hq, m_k14, m_add, m_ld (by omega) (by decide), m_st (by omega) (by decide), m_i1, m_add]
      obtain ⟨υ, u1, u2, u3⟩ := ih (i + 1) (cv_sA τ 43 (b + 14 * f + i) (τ.1 43 (b + 14 * f + i + 1))) (by omega) (by omega) (by rw [m_A_eq, m_u_ne (by omega)]; exact hcnt)
      refine ⟨υ, u1, (m_fr.A (by decide)).trans u2, fun y => ?_⟩
      rw [u3 y, m_A_eq]
      by_cases hy : y = b + 14 * f + i
      · rw [hy, if_neg (by omega), m_u_eq, if_pos (by omega)]
      · rw [m_u_ne hy]
        by_cases hy2 : b + 14 * f + (i + 1) ≤ y ∧ y < b + 14 * f + (c - 1)
        · rw [if_pos hy2, m_u_ne (by omega), if_pos (by omega)]
        · rw [if_neg hy2, if_neg (by omega)]
theorem r_rows (hm : m_mc 43 σ p) (ho : m_ok p) (hf : f < 8) (hx : x < m_cn p f) : ∃ υ, F_X9_removeInstruction_b30 1000 (nI f) (nI x) 8 σ = some (nI (m_cn p f - 1), cv_sF (cv_sF υ 22 0) 23 0) ∧ m_fr [43] [] σ υ ∧ m_mc 43 υ (v_rm p f x) := by
  have h14 := m_cn14 ho hf
  have h0 : σ.1 43 f = nI (m_cn p f) := (hm f hf).1
  obtain ⟨s1, a1, a2, a3⟩ := r_row (K := F_X9_removeInstruction_b30 999) (x := x) (c := m_cn p f) (b := 8) hf (by omega) (by omega) h14 1000 x σ (by omega) hx h0
  have h1 : s1.1 43 f = nI (m_cn p f) := by rw [a3, if_neg (by omega)]; exact h0
  obtain ⟨s2, b1, b2, b3⟩ := r_row (K := F_X9_removeInstruction_b30 998) (x := x) (c := m_cn p f) (b := 120) hf (by omega) (by omega) h14 1000 x s1 (by omega) hx h1
  have h2 : s2.1 43 f = nI (m_cn p f) := by rw [b3, if_neg (by omega)]; exact h1
  obtain ⟨s3, c1, c2, c3⟩ := r_row (K := F_X9_removeInstruction_b30 997) (x := x) (c := m_cn p f) (b := 232) hf (by omega) (by omega) h14 1000 x s2 (by omega) hx h2
  have h3 : s3.1 43 f = nI (m_cn p f) := by rw [c3, if_neg (by omega)]; exact h2
  have step : ∀ (n b : Nat) (s : cv_St), b < 344 → F_X9_removeInstruction_b30 (n + 1) (nI f) (nI x) (nI b) s = F_X9_removeInstruction_b40 (F_X9_removeInstruction_b30 n) 1000 (nI f) (nI x) (nI b) (nI x) s := by
    intro n b s hb
    show B_X9_removeInstruction_b30 (F_X9_removeInstruction_b30 n) (nI f) (nI x) (nI b) s = _
    unfold B_X9_removeInstruction_b30
    rw [show (344 : Int32) = nI 344 from rfl, m_lei (by omega) (by omega), if_neg (by omega)]
  refine ⟨cv_sA s3 43 f (nI (m_cn p f - 1)), ?_, ((a2.trans b2).trans c2).trans (m_fr.A (by decide)), fun g hg => ?_⟩
  · have e1 : F_X9_removeInstruction_b30 1000 (nI f) (nI x) 8 σ = F_X9_removeInstruction_b30 999 (nI f) (nI x) (nI 120) s1 := (step 999 8 σ (by omega)).trans a1
    have e2 : F_X9_removeInstruction_b30 999 (nI f) (nI x) (nI 120) s1 = F_X9_removeInstruction_b30 998 (nI f) (nI x) (nI 232) s2 := (step 998 120 s1 (by omega)).trans b1
    have e3 : F_X9_removeInstruction_b30 998 (nI f) (nI x) (nI 232) s2 = F_X9_removeInstruction_b30 997 (nI f) (nI x) (nI 344) s3 := (step 997 232 s2 (by omega)).trans c1
    rw [e1, e2, e3]
    show B_X9_removeInstruction_b30 (F_X9_removeInstruction_b30 996) (nI f) (nI x) (nI 344) s3 = _
    unfold B_X9_removeInstruction_b30 F_X9_changed
    rw [if_pos (by decide), m_ld (by omega) (by decide), h3, show (1 : Int32) = nI 1 from rfl, pk_sub (by omega), m_st (by omega) (by decide), m_puz0, m_puz0, m_bv, m_ld (by omega) (by decide), m_F_1, m_F_1, m_A_eq, m_u_eq]
  · have hv : ∀ y, 8 ≤ y → (cv_sA s3 43 f (nI (m_cn p f - 1))).1 43 y = s3.1 43 y := fun y hy => by rw [m_A_eq, m_u_ne (by omega)]
    by_cases hgf : g = f
    · subst hgf
      rw [m_A_eq, m_u_eq, v_rm_c]
      refine ⟨rfl, fun i hi => ?_⟩
      rw [m_u_ne (by omega), m_u_ne (by omega), m_u_ne (by omega)]
      by_cases hxi : x ≤ i
      · rw [(v_rm_a hxi).1, (v_rm_a hxi).2.1, (v_rm_a hxi).2.2, c3, if_neg (by omega), b3, if_neg (by omega), a3, if_pos (by omega), c3, if_neg (by omega), b3, if_pos (by omega), a3, if_neg (by omega), c3, if_pos (by omega), b3, if_neg (by omega), a3, if_neg (by omega)]
        exact (hm g hg).2 (i + 1) (by omega)
      · rw [(v_rm_b (show i < x by omega)).1, (v_rm_b (show i < x by omega)).2.1, (v_rm_b (show i < x by omega)).2.2, c3, if_neg (by omega), b3, if_neg (by omega), a3, if_neg (by omega), c3, if_neg (by omega), b3, if_neg (by omega), a3, if_neg (by omega), c3, if_neg (by omega), b3, if_neg (by omega), a3, if_neg (by omega)]
        exact (hm g hg).2 i (by omega)
    · have := (ho g hg).1
      rw [m_A_eq, m_u_ne hgf, (v_rm_g hgf).1, c3, if_neg (by omega), b3, if_neg (by omega), a3, if_neg (by omega)]
      refine ⟨(hm g hg).1, fun i hi => ?_⟩
      obtain ⟨e1, e2, e3⟩ := (v_rm_g (p := p) (x := x) hgf).2 i
      rw [e1, e2, e3, m_u_ne (by omega), m_u_ne (by omega), m_u_ne (by omega), c3, if_neg (by omega), b3, if_neg (by omega), a3, if_neg (by omega), c3, if_neg (by omega), b3, if_neg (by omega), a3, if_neg (by omega), c3, if_neg (by omega), b3, if_neg (by omega), a3, if_neg (by omega)]
      exact (hm g hg).2 i hi
theorem l_remove (h : v_I p σ) (hi : i + 2 < L) (hL : L ≤ 1536) : ∃ p' υ, F_L_law_b525 xs L k (nI i) σ = k (nI i + Int32.ofInt 3) υ ∧ v_I p' υ := by
  unfold F_L_law_b525 F_L_law_b590 F_L_law_b2188
  rw [m_idx1, m_idx2, m_ldS (by omega) hL, m_ldS (by omega) hL]
  rcases m_ins p h.1.1 (xs (i + 1)) (xs (i + 2)) with ⟨hx, hy⟩ | ⟨f, j, hf, hj, hx, hy⟩
  · have e1 : F_L_removeInstruction (xs (i + 1)) (xs (i + 2)) σ = some (1, σ) := by
      unfold F_L_removeInstruction F_X8_removeInstruction
      rw [hx σ h.1.2.1, m_bx1 (by decide), m_bh1 (by decide) rfl]
    have e2 : F_X9_removeInstruction (xs (i + 1)) (xs (i + 2)) σ = some (0, cv_sF σ 17 1) := by
      unfold F_X9_removeInstruction F_X9_removeInstruction_b15
      rw [hy σ h.1.2.2.1, m_bi, if_pos rfl, m_pui, m_F_eq, if_neg (by decide)]
    rw [e1, m_bi, m_ldS (by omega) hL, m_ldS (by omega) hL, e2, m_bi, m_tail m_F_eq (fun z => absurd z (by decide))]
    exact ⟨p, _, rfl, h.w (m_F_gf (by decide))⟩
  · have h14 := m_cn14 h.1.1 hf
    rw [hx, hy]
    obtain ⟨s1, a1, a2, a3, a4⟩ := c_drops h.1.2.1 h.1.1 hf hj h.2.2.2.2.1.1
    have hv : (cv_sF (cv_sF s1 1 1) 2 0).1 14 f = nI (m_cn p f - 1) := by
      have := (a4 f hf).1
      rw [v_rm_c] at this
      exact this
    have e1 : F_L_removeInstruction (nI f) (nI j) σ = some (0, cv_sL (cv_sF (cv_sF s1 1 1) 2 0) (vp_updL (cv_sF (cv_sF s1 1 1) 2 0).2.2.1 0 (nI (m_cn p f - 1)).toInt64)) := by
      unfold F_L_removeInstruction F_X8_removeInstruction F_X8_forgetFacts
      rw [c_ckI h.1.2.1 h.1.1 hf hj, m_bx0, a1, m_bv, m_puz1, m_puz0, m_bv, m_ld hf (by decide), hv, m_bh0, m_stL]
    obtain ⟨s3, hs3⟩ : ∃ s3, s3 = cv_sL (cv_sF (cv_sF s1 1 1) 2 0) (vp_updL (cv_sF (cv_sF s1 1 1) 2 0).2.2.1 0 (nI (m_cn p f - 1)).toInt64) := ⟨_, rfl⟩
    rw [← hs3] at e1
    have hg3 : m_gf [14, 15, 16] [1, 2] σ s3 := by
      rw [hs3]
      exact (a2.gf.mono (by decide) (by decide)).trans ((m_F_gf (by decide)).trans ((m_F_gf (by decide)).trans m_L_gf))
    have hm3 : m_mc 43 s3 p := fun g hg => by rw [hg3.1 43 (by decide)]; exact h.1.2.2.1 g hg
    have hm4 : m_mc 43 (cv_sF s3 17 0) p := fun g hg => by rw [m_F_1]; exact hm3 g hg
    obtain ⟨s6, d1, d2, d3⟩ := r_rows hm4 h.1.1 hf hj
    have e2 : F_X9_removeInstruction (nI f) (nI j) s3 = some (nI (m_cn p f - 1), cv_sF (cv_sF s6 22 0) 23 0) := by
      unfold F_X9_removeInstruction F_X9_removeInstruction_b15
      rw [r_isI hm3 h.1.1 hf hj, m_bi, if_neg (by decide), m_pui, m_F_eq, if_pos (by decide)]
      exact d1
    have hg7 : m_gf [43] [17, 22, 23] s3 (cv_sF (cv_sF s6 22 0) 23 0) := (m_F_gf (by decide)).trans ((d2.gf.mono (by decide) (by decide)).trans ((m_F_gf (by decide)).trans (m_F_gf (by decide))))
    have h617 : (cv_sF (cv_sF s6 22 0) 23 0).2.1 17 = 0 := by rw [m_F_ne (by decide), m_F_ne (by decide), d2.2.1 17 (by decide), m_F_eq]
    have hout : (cv_sF (cv_sF s6 22 0) 23 0).2.2.1 0 = (nI (m_cn p f - 1)).toInt64 := by
      rw [m_F_22, m_F_22, d2.2.2, m_F_22, hs3, m_L_out]
    rw [e1, m_bi, m_ldS (by omega) hL, m_ldS (by omega) hL, hx, hy, e2, m_bi, m_tail h617 (fun _ => hout)]
    have hgA : m_gf [14, 15, 16, 43] [1, 2, 17, 22, 23] σ (cv_sF (cv_sF s6 22 0) 23 0) := (hg3.mono (by decide) (by decide)).trans (hg7.mono (by decide) (by decide))
    refine ⟨v_rm p f j, _, rfl, v_I.n (v_rm_ok h.1.1 hf hj) (fun g hg => ?_) (fun g hg => d3 g hg) ?_ ?_ ?_ m_F_eq (h.2.1.gf hgA (by decide) (by decide)) ?_ (h.2.2.2.1.gf hgA (by decide) (by decide)) ⟨?_, ?_⟩⟩
    · rw [hg7.1 14 (by decide), hg7.1 15 (by decide), hg7.1 16 (by decide), hs3]; exact a4 g hg
    · rw [hg7.2 1 (by decide), hs3]; show (cv_sF (cv_sF s1 1 1) 2 0).2.1 1 = 1; rw [m_F_ne (by decide), m_F_eq]
    · rw [m_F_ne (by decide), m_F_eq]
    · rw [hg7.2 2 (by decide), hs3]; show (cv_sF (cv_sF s1 1 1) 2 0).2.1 2 = 0; rw [m_F_eq]
    · rw [hgA.2 5 (by decide), hgA.2 16 (by decide)]; exact h.2.2.1
    · rw [hg7.1 15 (by decide), hs3]; exact a3
    · rw [hgA.1 18 (by decide)]; exact h.2.2.2.2.1.2
end A79
