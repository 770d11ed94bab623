def m_R2 (p : m_P) (K D A0 R0 A L R : Nat → Int32) (c1 : Bool) (k : Nat) (c : Bool) : Prop :=
  (∀ g, g < k → m_nw p K D L g (R g)) ∧ (∀ g, k ≤ g → g < 8 → R g = R0 g) ∧ (c = true → m_ww A0 R0 < m_ww A R) ∧ (c = false → c1 = false ∧ ∀ g, g < 8 → R g = R0 g)
theorem m_nw_dom {p : m_P} {K D L : Nat → Int32} {g : Nat} {v : Int32} (hv : m_nw p K D L g v) : m_sub v 255 := m_sub_bt.mpr (fun b hb h => m_sub_bt.mp m_cb_dom b hb ((hv b hb).mp h).1.1)
section A49
variable {p : m_P} {σ τ : cv_St} {f i : Nat}
theorem r_a2_loop (hc : m_mc 43 σ p) (ho : m_ok p) (hS : m_MS σ (m_sF p 8)) {A0 R0 A L : Nat → Int32} (hI : m_IV p (σ.1 51) (σ.1 55) A R0) (hP : m_PR p (σ.1 51) (σ.1 55) A0 R0) (hA : ∀ f, f < 8 → m_sub (A0 f) (A f)) (hw : m_sw p (σ.1 51) A0 R0 A L 8) (c1 : Bool) (k : Int32 → cv_St → Option cv_St) : ∀ (n i : Nat) (τ : cv_St) (c : Bool), 8 - i < n → i ≤ 8 → m_fr [58, 59, 60] [] σ τ → τ.1 58 = A → τ.1 60 = L → m_R2 p (σ.1 51) (σ.1 55) A0 R0 A L (τ.1 59) c1 i c →
    ∃ υ c', F_X9_findArguments_b100 k n (m_b c) (nI i) τ = k (m_b c') υ ∧ m_fr [58, 59, 60] [] σ υ ∧ υ.1 58 = A ∧ υ.1 60 = L ∧ m_R2 p (σ.1 51) (σ.1 55) A0 R0 A L (υ.1 59) c1 8 c' := by
  intro n
  induction n with
  | zero => intro i τ c h; omega
  | succ n ih =>
    intro i τ c hn hi hfr h58 h60 hR
    show ∃ υ c', B_X9_findArguments_b100 k (F_X9_findArguments_b100 k n) (m_b c) (nI i) τ = _ ∧ _
    unfold B_X9_findArguments_b100
    rw [show (8 : Int32) = nI 8 from rfl, m_lei (by omega) (by omega)]
    by_cases hq : 8 ≤ i
    · have he : i = 8 := by omega
      subst he
      rw [if_pos hq]
      exact ⟨τ, c, rfl, hfr, h58, h60, hR⟩
    · have hi8 : i < 8 := by omega
      have h51 : τ.1 51 = σ.1 51 := hfr.1 51 (by decide)
      have h55 : τ.1 55 = σ.1 55 := hfr.1 55 (by decide)
      have hS' : m_MS τ (m_sF p 8) := ⟨by rw [hfr.2.1 21 (by decide)]; exact hS.1, fun k q hk => by rw [hfr.1 61 (by decide), hfr.1 62 (by decide)]; exact hS.2 k q hk⟩
      obtain ⟨V, a1, a2⟩ := r_calls (hc.fr hfr (by decide)) ho hS' hi8 (σ.1 51) (σ.1 55)
      rw [h60] at a2
      rw [if_neg hq, r_clob hi8, m_bi, m_ld hi8 (by decide), a1, m_bi, m_b0i, m_ld hi8 (by decide), h51, h55]
      generalize hv : ((m_cb (σ.1 51) i &&& σ.1 55 i) &&& V) = v at a2
      obtain ⟨s1, s2, s3, s4⟩ := hR
      have hold : τ.1 59 i = R0 i := s2 i (Nat.le_refl _) hi8
      have hup := m_nw_up hi8 hP hw a2
      have gR : ∀ g, g < 8 → m_sub (τ.1 59 g) (upd (τ.1 59) i v g) := fun g hg => by
        by_cases hgi : g = i
        · rw [hgi, m_u_eq, hold]; exact hup
        · rw [m_u_ne hgi]; exact m_sub_refl _
      have g0 : ∀ g, g < 8 → m_sub (R0 g) (τ.1 59 g) := fun g hg => by
        by_cases hgi : g < i
        · exact m_nw_up hg hP hw (s1 g hgi)
        · rw [s2 g (by omega) hg]; exact m_sub_refl _
      have gd : ∀ g, g < 8 → m_sub (A g) 255 ∧ m_sub (upd (τ.1 59) i v g) 255 := fun g hg => by
        refine ⟨(hI.1 g hg).1, ?_⟩
        by_cases hgi : g = i
        · rw [hgi, m_u_eq]; exact m_nw_dom a2
        · rw [m_u_ne hgi]
          by_cases hgl : g < i
          · exact m_nw_dom (s1 g hgl)
          · rw [s2 g (by omega) hg]; exact (hI.1 g hg).2
      have hst : ∀ t : Int32, F_X9_findArguments_b144 k (F_X9_findArguments_b100 k n) (nI i) v t τ = F_X9_findArguments_b100 k n t (nI (i + 1)) (cv_sA τ 59 i v) := by
        intro t
        unfold F_X9_findArguments_b144
        rw [m_st hi8 (by decide), m_i1, m_add]
      have hfr2 : m_fr [58, 59, 60] [] σ (cv_sA τ 59 i v) := hfr.trans (m_fr.A (by decide))
      have hnext : ∀ c2 : Bool, (c2 = true → m_ww A0 R0 < m_ww A (upd (τ.1 59) i v)) → (c2 = false → c = false ∧ v = τ.1 59 i) → m_R2 p (σ.1 51) (σ.1 55) A0 R0 A L ((cv_sA τ 59 i v).1 59) c1 (i + 1) c2 := by
        intro c2 hc1 hc2
        rw [m_A_eq]
        refine ⟨fun g hg => ?_, fun g hg1 hg2 => ?_, hc1, fun hcf => ?_⟩
        · by_cases hgi : g = i
          · rw [hgi, m_u_eq]; exact a2
          · rw [m_u_ne hgi]; exact s1 g (by omega)
        · rw [m_u_ne (by omega)]; exact s2 g (by omega) hg2
        · obtain ⟨e1, e2⟩ := hc2 hcf
          rw [e2, m_upd_self]; exact s4 e1
      have h58' : (cv_sA τ 59 i v).1 58 = A := by rw [m_A_ne (by decide), h58]
      have h60' : (cv_sA τ 59 i v).1 60 = L := by rw [m_A_ne (by decide), h60]
      unfold F_X9_findArguments_b139
      rw [hst, hst]
      cases c with
      | false =>
        rw [if_pos rfl]
        by_cases hz : τ.1 59 i = v
        · rw [if_pos hz]
          exact ih (i + 1) _ false (by omega) (by omega) hfr2 h58' h60' (hnext false (fun z => by cases z) (fun _ => ⟨rfl, hz.symm⟩))
        · rw [if_neg hz]
          refine ih (i + 1) _ true (by omega) (by omega) hfr2 h58' h60' (hnext true (fun _ => ?_) (fun z => by cases z))
          exact Nat.lt_of_le_of_lt (m_ww_le hA g0) (m_ww_lt (fun _ _ => m_sub_refl _) gR gd (Or.inr ⟨i, hi8, by rw [m_u_eq]; exact fun z => hz z.symm⟩))
      | true =>
        rw [if_neg (by simp)]
        exact ih (i + 1) _ true (by omega) (by omega) hfr2 h58' h60' (hnext true (fun _ => Nat.lt_of_lt_of_le (s3 rfl) (m_ww_le (fun _ _ => m_sub_refl _) gR)) (fun z => by cases z))
theorem r_a_out (hc : m_mc 43 σ p) (ho : m_ok p) (hS : m_MS σ (m_sF p 8)) : ∀ (n r : Nat) (τ : cv_St) (b : Bool), 131 - r < n → r ≤ 130 → m_fr [58, 59, 60] [] σ τ → m_IV p (σ.1 51) (σ.1 55) (τ.1 58) (τ.1 59) → m_PR p (σ.1 51) (σ.1 55) (τ.1 58) (τ.1 59) → (b = true → r ≤ m_ww (τ.1 58) (τ.1 59)) → (b = false → m_co p (σ.1 51) (σ.1 55) (τ.1 58) (τ.1 59) ∧ ∀ f, f < 8 → ∀ x, x ≤ m_cn p f → τ.1 60 (15 * f + x) = m_lv p (σ.1 51) (τ.1 58) f (τ.1 59 f) x) →
    ∃ υ, F_X9_findArguments_b30 n (m_b b) τ = some υ ∧ m_fr [58, 59, 60] [] σ υ ∧ m_LA p (σ.1 51) (σ.1 55) (υ.1 58) (υ.1 59) ∧ ∀ f, f < 8 → ∀ x, x ≤ m_cn p f → υ.1 60 (15 * f + x) = m_lv p (σ.1 51) (υ.1 58) f (υ.1 59 f) x := by
  intro n
  induction n with
  | zero => intro r τ b h; omega
  | succ n ih =>
    intro r τ b hn hr hfr hI hP hb1 hb2
    show ∃ υ, B_X9_findArguments_b30 (F_X9_findArguments_b30 n) (m_b b) τ = _ ∧ _
    unfold B_X9_findArguments_b30
    rw [m_b0i]
    cases b with
    | false =>
      rw [if_pos rfl]
      obtain ⟨q1, q2⟩ := hb2 rfl
      exact ⟨τ, rfl, hfr, ⟨hI.1, q1, hI.2.2⟩, q2⟩
    | true =>
      have hww0 := hb1 rfl
      have hA64 := m_w_pc (τ.1 58)
      have hR64 := m_w_pc (τ.1 59)
      have hww : m_ww (τ.1 58) (τ.1 59) = m_w m_pc (τ.1 58) + m_w m_pc (τ.1 59) := rfl
      rw [if_neg (by simp)]
      obtain ⟨υ, c1, a1, a2, a3, a4⟩ := r_a1_loop hc ho (A0 := τ.1 58) (R0 := τ.1 59) (F_X9_findArguments_b30 n) 1000 0 τ false (by omega) (by omega) hfr rfl ⟨hI, fun _ _ => m_sub_refl _, fun f hf => by omega, fun z => (by cases z), fun _ => ⟨fun _ _ => rfl, fun f hf => by omega⟩⟩
      have a1 : F_X9_findArguments_b38 (F_X9_findArguments_b30 n) 1000 0 0 τ = _ := a1
      obtain ⟨s1, s2, s3, s4, s5⟩ := a4
      obtain ⟨ω, c2, d1, d2, d3, d4, d5⟩ := r_a2_loop hc ho hS s1 hP s2 s3 c1 (F_X9_findArguments_b30 n) 1000 0 υ c1 (by omega) (by omega) a2 rfl rfl ⟨fun g hg => by omega, fun g _ _ => (by rw [a3]), fun z => (by rw [a3]; exact s4 z), fun z => ⟨z, fun g _ => by rw [a3]⟩⟩
      have d1 : F_X9_findArguments_b100 (F_X9_findArguments_b30 n) 1000 (m_b c1) 0 υ = _ := d1
      rw [a1, d1]
      obtain ⟨t1, t2, t3, t4⟩ := d5
      have hRup : ∀ g, g < 8 → m_sub (τ.1 59 g) (ω.1 59 g) := fun g hg => m_nw_up hg hP s3 (t1 g hg)
      have hPR : m_PR p (σ.1 51) (σ.1 55) (υ.1 58) (ω.1 59) := fun g hg b hb h => by
        obtain ⟨q, q1, q2, q3⟩ := m_nw_tm s3 (t1 g hg) hb h
        exact ⟨q, q1, q2, m_sub_bt.mp (m_tm_mono ho q1.1 (fun _ _ => m_sub_refl _) (hRup q.1 q1.1) q.2) b hb q3⟩
      have hIV : m_IV p (σ.1 51) (σ.1 55) (υ.1 58) (ω.1 59) := by
        refine ⟨fun f hf => ⟨(s1.1 f hf).1, m_nw_dom (t1 f hf)⟩, fun f hf => m_sub_trans _ _ _ (s1.2.1 f hf) (m_lv_mono ho hf (fun _ _ => m_sub_refl _) (hRup f hf) 0), fun A' R' hco f hf => ⟨(s1.2.2 A' R' hco f hf).1, m_sub_bt.mpr (fun b hb h => ?_)⟩⟩
        obtain ⟨q, q1, q2, q3⟩ := m_nw_tm s3 (t1 f hf) hb h
        have e1 := m_sub_bt.mp (m_tm_mono (D := σ.1 55) (K := σ.1 51) ho q1.1 (fun g hg => (s1.2.2 A' R' hco g hg).1) (s1.2.2 A' R' hco q.1 q1.1).2 q.2) b hb q3
        have e2 := m_sub_bt.mp (hco.2 q q1) b hb e1
        rw [q2] at e2
        exact e2
      rw [← d3] at hPR hIV
      refine ih (r + 1) ω c2 (by omega) (by omega) d2 hIV hPR (fun hct => ?_) (fun hcf => ?_)
      · have := t3 hct
        rw [d3]
        omega
      · obtain ⟨u1, u2⟩ := t4 hcf
        obtain ⟨v1, v2⟩ := s5 u1
        have hcg : ∀ f, f < 8 → ∀ x, m_lv p (σ.1 51) (υ.1 58) f (ω.1 59 f) x = m_lv p (σ.1 51) (τ.1 58) f (τ.1 59 f) x := fun f hf x => by
          rw [u2 f hf]; exact m_lv_congr ho hf v1 x
        have hL : ∀ f, f < 8 → ∀ x, x ≤ m_cn p f → υ.1 60 (15 * f + x) = m_lv p (σ.1 51) (τ.1 58) f (τ.1 59 f) x := fun f hf x hx => by
          obtain ⟨w1, w2⟩ := s3 f hf x hx
          rw [m_lv_congr ho hf v1 x] at w2
          exact m_sub_anti w2 w1
        rw [d3, d4]
        refine ⟨⟨fun f hf => ?_, fun q hq => m_sub_bt.mpr (fun b hb h => ?_)⟩, fun f hf x hx => by rw [hL f hf x hx, hcg f hf x]⟩
        · rw [hcg f hf, v2 f hf, v1 f hf]; exact m_sub_refl _
        · have ha := m_fa8 ho hq.1 hq.2.1 (by have := hq.2.2.2; omega)
          have h : bt (m_tm p (σ.1 51) (σ.1 55) (υ.1 58) q.1 (ω.1 59 q.1) q.2) b = true := h
          rw [m_tm_bt] at h
          refine (t1 _ ha b hb).mpr ⟨h.1, q, hq, rfl, ?_⟩
          rw [hL q.1 hq.1 _ (m_nx_le _ _ _ _), hL q.1 hq.1 _ (m_nx_le _ _ _ _), ← hcg q.1 hq.1, ← hcg q.1 hq.1]
          exact h.2
theorem r_findArguments (hc : m_mc 43 σ p) (ho : m_ok p) (hS : m_MS σ (m_sF p 8)) : ∃ υ, F_X9_findArguments σ = some υ ∧ m_fr [58, 59, 60] [] σ υ ∧ m_LA p (σ.1 51) (σ.1 55) (υ.1 58) (υ.1 59) ∧ ∀ f, f < 8 → ∀ x, x ≤ m_cn p f → υ.1 60 (15 * f + x) = m_lv p (σ.1 51) (υ.1 58) f (υ.1 59 f) x := by
  have key : ∀ (n i : Nat) (τ : cv_St), 8 - i < n → i ≤ 8 → m_fr [58, 59, 60] [] σ τ → (∀ g, g < i → τ.1 58 g = 0 ∧ τ.1 59 g = 0) → ∃ υ, F_X9_findArguments_b2 n (nI i) τ = some υ ∧ m_fr [58, 59, 60] [] σ υ ∧ m_LA p (σ.1 51) (σ.1 55) (υ.1 58) (υ.1 59) ∧ ∀ f, f < 8 → ∀ x, x ≤ m_cn p f → υ.1 60 (15 * f + x) = m_lv p (σ.1 51) (υ.1 58) f (υ.1 59 f) x := by
    intro n
    induction n with
    | zero => intro i τ h; omega
    | succ n ih =>
      intro i τ hn hi hfr h0
      show ∃ υ, B_X9_findArguments_b2 (F_X9_findArguments_b2 n) (nI i) τ = _ ∧ _
      unfold B_X9_findArguments_b2
      rw [show (8 : Int32) = nI 8 from rfl, m_lei (by omega) (by omega)]
      by_cases hq : 8 ≤ i
      · rw [if_pos hq]
        refine r_a_out hc ho hS 1000 0 τ true (by omega) (by omega) hfr ⟨fun f hf => ?_, fun f hf => ?_, fun A' R' _ f hf => ?_⟩ (fun g hg b hb h => ?_) (fun _ => Nat.zero_le _) (fun z => by cases z)
        · rw [(h0 f (by omega)).1, (h0 f (by omega)).2]; exact ⟨m_sub_0, m_sub_0⟩
        · rw [(h0 f (by omega)).1]; exact m_sub_0
        · rw [(h0 f (by omega)).1, (h0 f (by omega)).2]; exact ⟨m_sub_0, m_sub_0⟩
        · rw [(h0 g (by omega)).2, b_0] at h; cases h
      · rw [if_neg hq, m_st (by omega) (by decide), m_st (by omega) (by decide), m_i1, m_add]
        refine ih (i + 1) _ (by omega) (by omega) (hfr.trans ((m_fr.A (by decide)).trans (m_fr.A (by decide)))) (fun g hg => ?_)
        rw [m_A_eq, m_A_ne (by decide), m_A_eq, m_A_ne (by decide)]
        by_cases hgi : g = i
        · rw [hgi, m_u_eq, m_u_eq]; exact ⟨rfl, rfl⟩
        · rw [m_u_ne hgi, m_u_ne hgi]; exact h0 g (by omega)
  unfold F_X9_findArguments
  exact key 1000 0 σ (by omega) (by omega) m_fr.rfl' (fun g hg => by omega)
end A49
