/-! a body is set: both sides -/
def v_set (p : m_P) (f : Nat) (acc : t_L) : m_P := (fun g => if g = f then acc.length else p.1 g, fun g i => if g = f then (acc.getD i (0, 0, 0)).1 else p.2.1 g i, fun g i => if g = f then (acc.getD i (0, 0, 0)).2.1 else p.2.2.1 g i, fun g i => if g = f then (acc.getD i (0, 0, 0)).2.2 else p.2.2.2 g i)
section A77
variable {p : m_P} {σ τ : cv_St} {acc : t_L} {L i j f g : Nat}
theorem v_set_f : m_cn (v_set p f acc) f = acc.length ∧ ∀ i, m_kd (v_set p f acc) f i = (acc.getD i (0, 0, 0)).1 ∧ m_fa (v_set p f acc) f i = (acc.getD i (0, 0, 0)).2.1 ∧ m_sb (v_set p f acc) f i = (acc.getD i (0, 0, 0)).2.2 := by
  refine ⟨if_pos rfl, fun i => ⟨if_pos rfl, if_pos rfl, if_pos rfl⟩⟩
theorem v_set_g (h : g ≠ f) : m_cn (v_set p f acc) g = m_cn p g ∧ ∀ i, m_kd (v_set p f acc) g i = m_kd p g i ∧ m_fa (v_set p f acc) g i = m_fa p g i ∧ m_sb (v_set p f acc) g i = m_sb p g i := by
  refine ⟨if_neg h, fun i => ⟨if_neg h, if_neg h, if_neg h⟩⟩
theorem t_gd (hi : i < acc.length) : ∃ q, acc[i]? = some q ∧ acc.getD i (0, 0, 0) = q ∧ q ∈ acc := by
  refine ⟨acc[i], List.getElem?_eq_getElem hi, ?_, List.getElem_mem hi⟩
  simp [List.getD, List.getElem?_eq_getElem hi]
theorem v_set_ok (ho : m_ok p) (hV : t_V acc) (h14 : acc.length ≤ 14) : m_ok (v_set p f acc) := by
  intro g hg
  by_cases hgf : g = f
  · rw [hgf, v_set_f.1]
    refine ⟨h14, fun i hi => ?_⟩
    obtain ⟨e1, e2, e3⟩ := (v_set_f (p := p) (f := f) (acc := acc)).2 i
    obtain ⟨q, -, q2, q3⟩ := t_gd hi
    rw [e1, e2, e3, q2]
    exact hV q q3
  · rw [(v_set_g hgf).1]
    refine ⟨(ho g hg).1, fun i hi => ?_⟩
    obtain ⟨e1, e2, e3⟩ := (v_set_g (p := p) (acc := acc) hgf).2 i
    rw [e1, e2, e3]
    exact (ho g hg).2 i hi
theorem v_allC_u {a : Nat → Int32} {j c : Nat} (h : cv_allC a 112 = true) (hc : c < 65536) : cv_allC (upd a j (nI c)) 112 = true := by
  unfold cv_allC
  rw [List.all_eq_true]
  intro i hi
  have h1 := cv_allC_at h (List.mem_range.mp hi)
  by_cases hij : i = j
  · rw [hij, m_u_eq, Bool.and_eq_true]
    exact ⟨decide_eq_true (nI_pos' (by omega)), decide_eq_true (nI_lt (a := c) (b := 65536) hc (by decide))⟩
  · rw [m_u_ne hij, Bool.and_eq_true]
    exact ⟨decide_eq_true h1.1, decide_eq_true h1.2⟩
theorem c_take (hf : f < 8) (hC : t_C σ acc) (hV : t_V acc) (h14 : acc.length ≤ 14) (hA : cv_allC (σ.1 15) 112 = true) : ∀ (n i : Nat) (τ : cv_St), acc.length - i < n → i ≤ acc.length → m_fr [14, 15, 16] [] σ τ → cv_allC (τ.1 15) 112 = true → τ.1 14 = σ.1 14 → (∀ x, x < f * 14 ∨ f * 14 + 14 ≤ x → τ.1 15 x = σ.1 15 x ∧ τ.1 16 x = σ.1 16 x) → (∀ j q, j < i → acc[j]? = some q → τ.1 15 (f * 14 + j) = nI q.1 ∧ τ.1 16 (f * 14 + j) = nI (m_num q.1 q.2.1 q.2.2)) → ∃ υ, F_X0_take_2_1_b19 n (nI f) (nI (f * 14)) (nI acc.length) (nI i) τ = some υ ∧ m_fr [14, 15, 16] [] σ υ ∧ cv_allC (υ.1 15) 112 = true ∧ υ.1 14 = upd (σ.1 14) f (nI acc.length) ∧ (∀ x, x < f * 14 ∨ f * 14 + 14 ≤ x → υ.1 15 x = σ.1 15 x ∧ υ.1 16 x = σ.1 16 x) ∧ (∀ j q, acc[j]? = some q → υ.1 15 (f * 14 + j) = nI q.1 ∧ υ.1 16 (f * 14 + j) = nI (m_num q.1 q.2.1 q.2.2)) := by
  intro n
  induction n with
  | zero => intro i τ h; omega
  | succ n ih =>
    intro i τ hn hi hfr hAll h14e hout hin
    show ∃ υ, B_X0_take_2_1_b19 (F_X0_take_2_1_b19 n) (nI f) (nI (f * 14)) (nI acc.length) (nI i) τ = _ ∧ _
    unfold B_X0_take_2_1_b19
    rw [m_lei (by omega) (by omega)]
    by_cases hq : acc.length ≤ i
    · rw [if_pos hq, m_st hf (by decide)]
      refine ⟨_, rfl, hfr.trans (m_fr.A (by decide)), by rw [m_A_ne (by decide)]; exact hAll, by rw [m_A_eq, h14e], fun x hx => by rw [m_A_ne (by decide), m_A_ne (by decide)]; exact hout x hx, fun j q hj => ?_⟩
      have hjl : j < acc.length := by
        apply Classical.byContradiction
        intro hn
        rw [List.getElem?_eq_none (by omega)] at hj
        cases hj
      rw [m_A_ne (by decide), m_A_ne (by decide)]
      exact hin j q (by omega) hj
    · have hil : i < acc.length := by omega
      obtain ⟨q, q1, -, q3⟩ := t_gd hil
      have hk := (m_val_k (hV q q3)).1
      obtain ⟨e1, e2⟩ := hC.2 i q (by omega) q1
      have e3 : τ.1 12 i = nI q.1 := by rw [hfr.1 12 (by decide)]; exact e1
      have e4 : τ.1 13 i = nI (m_num q.1 q.2.1 q.2.2) := by rw [hfr.1 13 (by decide)]; exact e2
      rw [if_neg hq, m_ld (by omega) (by decide), e3, m_add, m_narc (by omega), m_st (by omega) (by decide), m_ld (by omega) (by decide), m_A_ne (by decide), e4, m_st (by omega) (by decide), m_i1, m_add]
      refine ih (i + 1) _ (by omega) (by omega) (hfr.trans ((m_fr.A (by decide)).trans (m_fr.A (by decide)))) ?_ ?_ (fun x hx => ?_) (fun j r hj hr => ?_)
      · rw [m_A_ne (by decide), m_A_eq]; exact v_allC_u hAll (by omega)
      · rw [m_A_ne (by decide), m_A_ne (by decide)]; exact h14e
      · rw [m_A_ne (by decide), m_A_eq, m_A_eq, m_A_ne (by decide), m_u_ne (by omega), m_u_ne (by omega)]; exact hout x hx
      · rw [m_A_ne (by decide), m_A_eq, m_A_eq, m_A_ne (by decide)]
        by_cases hji : j = i
        · rw [hji, q1] at hr
          cases hr
          rw [hji, m_u_eq, m_u_eq]; exact ⟨rfl, rfl⟩
        · rw [m_u_ne (by omega), m_u_ne (by omega)]; exact hin j r (by omega) hr
theorem c_takes (hf : f < 8) (hc : m_cc 14 15 16 σ p) (ho : m_ok p) (hC : t_C σ acc) (hV : t_V acc) (h14 : acc.length ≤ 14) (hA : cv_allC (σ.1 15) 112 = true) : ∃ υ, F_X0_take_2_1 (nI f) σ = some υ ∧ m_fr [14, 15, 16] [] σ υ ∧ cv_allC (υ.1 15) 112 = true ∧ m_cc 14 15 16 υ (v_set p f acc) := by
  obtain ⟨υ, u1, u2, u3, u4, u5, u6⟩ := c_take hf hC hV h14 hA 1000 0 σ (by omega) (by omega) m_fr.rfl' hA rfl (fun x _ => ⟨rfl, rfl⟩) (fun j q hj => absurd hj (Nat.not_lt_zero _))
  refine ⟨υ, ?_, u2, u3, fun g hg => ?_⟩
  · unfold F_X0_take_2_1
    rw [hC.1, show (14 : Int32) = nI 14 from rfl, m_lti (by omega) (by omega), if_neg (by omega), m_mul]
    exact u1
  · by_cases hgf : g = f
    · subst hgf
      rw [u4, m_u_eq, v_set_f.1]
      refine ⟨rfl, fun i hi => ?_⟩
      obtain ⟨e1, e2, e3⟩ := (v_set_f (p := p) (f := g) (acc := acc)).2 i
      obtain ⟨q, q1, q2, q3⟩ := t_gd hi
      rw [e1, e2, e3, q2]
      exact u6 i q q1
    · rw [u4, m_u_ne hgf, (v_set_g hgf).1]
      refine ⟨(hc g hg).1, fun i hi => ?_⟩
      obtain ⟨e1, e2, e3⟩ := (v_set_g (p := p) (acc := acc) hgf).2 i
      have := (ho g hg).1
      rw [e1, e2, e3, (u5 (g * 14 + i) (by omega)).1, (u5 (g * 14 + i) (by omega)).2]
      exact (hc g hg).2 i hi
theorem r_take (hf : f < 8) (hM : t_M σ acc) (h14 : acc.length ≤ 14) : ∀ (n i : Nat) (τ : cv_St), acc.length - i < n → i ≤ acc.length → m_fr [43] [] σ τ → (∀ x, x < 8 → τ.1 43 x = σ.1 43 x) → (∀ b x, (b = 8 ∨ b = 120 ∨ b = 232) → x < 112 → (x < 14 * f ∨ 14 * f + 14 ≤ x) → τ.1 43 (b + x) = σ.1 43 (b + x)) → (∀ j q, j < i → acc[j]? = some q → τ.1 43 (8 + 14 * f + j) = nI q.1 ∧ τ.1 43 (120 + 14 * f + j) = nI q.2.1 ∧ τ.1 43 (232 + 14 * f + j) = nI q.2.2) → ∃ υ, F_X9_setBody_b205 n (nI f) (nI i) τ = some (nI acc.length, cv_sF (cv_sF υ 22 0) 23 0) ∧ m_fr [43] [] σ υ ∧ (∀ x, x < 8 → υ.1 43 x = σ.1 43 x) ∧ (∀ b x, (b = 8 ∨ b = 120 ∨ b = 232) → x < 112 → (x < 14 * f ∨ 14 * f + 14 ≤ x) → υ.1 43 (b + x) = σ.1 43 (b + x)) ∧ (∀ j q, acc[j]? = some q → υ.1 43 (8 + 14 * f + j) = nI q.1 ∧ υ.1 43 (120 + 14 * f + j) = nI q.2.1 ∧ υ.1 43 (232 + 14 * f + j) = nI q.2.2) := by
  intro n
  induction n with
  | zero => intro i τ h; omega
  | succ n ih =>
    intro i τ hn hi hfr hlow hout hin
    have h20 : τ.2.1 20 = nI acc.length := by rw [hfr.2.1 20 (by decide)]; exact hM.1
    show ∃ υ, B_X9_setBody_b205 (F_X9_setBody_b205 n) (nI f) (nI i) τ = _ ∧ _
    unfold B_X9_setBody_b205
    rw [h20, m_lei (by omega) (by omega)]
    by_cases hq : acc.length ≤ i
    · unfold F_X9_changed
      rw [if_pos hq, m_puz0, m_puz0, m_bv, m_F_ne (by decide), m_F_ne (by decide), h20]
      refine ⟨τ, rfl, hfr, hlow, hout, fun j q hj => hin j q ?_ hj⟩
      apply Classical.byContradiction
      intro hn
      rw [List.getElem?_eq_none (by omega)] at hj
      cases hj
    · have hil : i < acc.length := by omega
      obtain ⟨q, q1, -, q3⟩ := t_gd hil
      obtain ⟨e1, e2, e3⟩ := hM.2 i q q1
      have e1 : τ.1 46 i = nI q.1 := by rw [hfr.1 46 (by decide)]; exact e1
      have e2 : τ.1 47 i = nI q.2.1 := by rw [hfr.1 47 (by decide)]; exact e2
      have e3 : τ.1 48 i = nI q.2.2 := by rw [hfr.1 48 (by decide)]; exact e3
      rw [if_neg hq, m_ld (by omega) (by decide), e1, show (8 : Int32) = nI 8 from rfl, m_k14, m_st (by omega) (by decide), m_ld (by omega) (by decide), m_A_ne (by decide), e2, show (120 : Int32) = nI 120 from rfl, m_k14, m_st (by omega) (by decide), m_ld (by omega) (by decide), m_A_ne (by decide), m_A_ne (by decide), e3, show (232 : Int32) = nI 232 from rfl, m_k14, m_st (by omega) (by decide), m_i1, m_add]
      refine ih (i + 1) _ (by omega) (by omega) (hfr.trans ((m_fr.A (by decide)).trans ((m_fr.A (by decide)).trans (m_fr.A (by decide))))) (fun x hx => ?_) (fun b x hb hx hx2 => ?_) (fun j r hj hr => ?_)
      · rw [m_A_eq, m_A_eq, m_A_eq, m_u_ne (by omega), m_u_ne (by omega), m_u_ne (by omega)]; exact hlow x hx
      · rw [m_A_eq, m_A_eq, m_A_eq, m_u_ne (by omega), m_u_ne (by omega), m_u_ne (by omega)]; exact hout b x hb hx hx2
      · rw [m_A_eq, m_A_eq, m_A_eq]
        by_cases hji : j = i
        · rw [hji, q1] at hr
          cases hr
          rw [hji]
          refine ⟨?_, ?_, ?_⟩
          · rw [m_u_ne (by omega), m_u_ne (by omega), m_u_eq]
          · rw [m_u_ne (by omega), m_u_eq]
          · rw [m_u_eq]
        · have hjl : j < 14 := by omega
          obtain ⟨g1, g2, g3⟩ := hin j r (by omega) hr
          refine ⟨?_, ?_, ?_⟩
          · rw [m_u_ne (by omega), m_u_ne (by omega), m_u_ne (by omega)]; exact g1
          · rw [m_u_ne (by omega), m_u_ne (by omega), m_u_ne (by omega)]; exact g2
          · rw [m_u_ne (by omega), m_u_ne (by omega), m_u_ne (by omega)]; exact g3
theorem r_takes (hf : f < 8) (hm : m_mc 43 σ p) (ho : m_ok p) (hM : t_M σ acc) (h14 : acc.length ≤ 14) : ∃ υ, cv_st σ 43 344 (nI f) (σ.2.1 20) (fun s11 => F_X9_setBody_b205 1000 (nI f) 0 s11) = some (nI acc.length, cv_sF (cv_sF υ 22 0) 23 0) ∧ m_fr [43] [] σ υ ∧ m_mc 43 υ (v_set p f acc) := by
  rw [hM.1, m_st (by omega) (by decide)]
  have hM1 : t_M (cv_sA σ 43 f (nI acc.length)) acc := ⟨hM.1, fun j q hq => by rw [m_A_ne (by decide), m_A_ne (by decide), m_A_ne (by decide)]; exact hM.2 j q hq⟩
  obtain ⟨υ, u1, u2, u3, u4, u5⟩ := r_take hf hM1 h14 1000 0 _ (by omega) (by omega) m_fr.rfl' (fun _ _ => rfl) (fun _ _ _ _ _ => rfl) (fun j q hj => absurd hj (Nat.not_lt_zero _))
  refine ⟨υ, u1, (m_fr.A (by decide)).trans u2, fun g hg => ?_⟩
  by_cases hgf : g = f
  · subst hgf
    rw [u3 g hg, m_A_eq, m_u_eq, v_set_f.1]
    refine ⟨rfl, fun i hi => ?_⟩
    obtain ⟨e1, e2, e3⟩ := (v_set_f (p := p) (f := g) (acc := acc)).2 i
    obtain ⟨q, q1, q2, q3⟩ := t_gd hi
    rw [e1, e2, e3, q2]
    exact u5 i q q1
  · rw [u3 g hg, m_A_eq, m_u_ne hgf, (v_set_g hgf).1]
    refine ⟨(hm g hg).1, fun i hi => ?_⟩
    obtain ⟨e1, e2, e3⟩ := (v_set_g (p := p) (acc := acc) hgf).2 i
    have := (ho g hg).1
    have w1 := u4 8 (14 * g + i) (by omega) (by omega) (by omega)
    have w2 := u4 120 (14 * g + i) (by omega) (by omega) (by omega)
    have w3 := u4 232 (14 * g + i) (by omega) (by omega) (by omega)
    rw [m_A_eq, m_u_ne (by omega)] at w1 w2 w3
    rw [e1, e2, e3, Nat.add_assoc, w1, Nat.add_assoc, w2, Nat.add_assoc, w3, ← Nat.add_assoc, ← Nat.add_assoc, ← Nat.add_assoc]
    exact (hm g hg).2 i hi
end A77
