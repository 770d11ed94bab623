def m_pd (i : Nat) : Int32 := nI i - 1
theorem m_pd_s (j : Nat) : m_pd (j + 1) = nI j := by
  unfold m_pd
  rw [← nI_add j 1, show (1 : Int32) = nI 1 from rfl, Int32.add_sub_cancel]
theorem m_pd_n (j : Nat) : nI j + Int32.ofInt (-1) = m_pd j := by
  unfold m_pd
  rw [m_im1, Int32.sub_eq_add_neg]
def m_tm (p : m_P) (K D A : Nat → Int32) (f : Nat) (r : Int32) (x : Nat) : Int32 := (m_lb p K A f r x &&& m_cb K (m_fa p f x)) &&& D (m_fa p f x)
def m_gw (p : m_P) (K D A R : Nat → Int32) (f : Nat) (r : Int32) (R' : Nat → Int32) (i : Nat) (c : Bool) : Prop :=
  (∀ g, g < 8 → m_sub (R g) (R' g)) ∧ (∀ x, i ≤ x → x < m_cn p f → m_rh p f x = true → m_kd p f x = 99 → m_sub (m_tm p K D A f r x) (R' (m_fa p f x))) ∧
  (∀ X : Nat → Int32, (∀ g, g < 8 → m_sub (R g) (X g)) → (∀ x, x < m_cn p f → m_rh p f x = true → m_kd p f x = 99 → m_sub (m_tm p K D A f r x) (X (m_fa p f x))) → ∀ g, g < 8 → m_sub (R' g) (X g)) ∧
  (c = false → ∀ g, g < 8 → R' g = R g) ∧ (c = true → ∃ g, g < 8 ∧ ¬ R' g = R g)
theorem m_sub_orl (x y : Int32) : m_sub x (x ||| y) := m_sub_bt.mpr (fun i _ hb => by rw [b_or, hb, Bool.true_or])
theorem m_sub_orr (x y : Int32) : m_sub y (x ||| y) := m_sub_bt.mpr (fun i _ hb => by rw [b_or, hb, Bool.or_true])
section A45
variable {p : m_P} {σ τ : cv_St} {f i : Nat}
theorem m_gw_st {K D A R R' : Nat → Int32} {r : Int32} {j : Nat} {c : Bool} (ho : m_ok p) (hf : f < 8) (hj : j < m_cn p f) (h : m_gw p K D A R f r R' (j + 1) c) (hrh : m_rh p f j = true) (h99 : m_kd p f j = 99) :
    m_gw p K D A R f r (upd R' (m_fa p f j) (R' (m_fa p f j) ||| m_tm p K D A f r j)) j (c || decide (¬ (R' (m_fa p f j) ||| m_tm p K D A f r j) = R' (m_fa p f j))) := by
  have ha := m_fa8 ho hf hj (by omega)
  obtain ⟨a1, a2, a3, a4, a5⟩ := h
  have hup : ∀ g, m_sub (R' g) (upd R' (m_fa p f j) (R' (m_fa p f j) ||| m_tm p K D A f r j) g) := fun g => by
    by_cases hg : g = m_fa p f j
    · rw [hg, m_u_eq]; exact m_sub_orl _ _
    · rw [m_u_ne hg]; exact m_sub_refl _
  refine ⟨fun g hg => m_sub_trans _ _ _ (a1 g hg) (hup g), fun x hx1 hx2 hx3 hx4 => ?_, fun X h1 h2 g hg => ?_, fun hc g hg => ?_, fun hc => ?_⟩
  · by_cases hxj : x = j
    · rw [hxj, m_u_eq]; exact m_sub_orr _ _
    · exact m_sub_trans _ _ _ (a2 x (by omega) hx2 hx3 hx4) (hup _)
  · by_cases hg2 : g = m_fa p f j
    · rw [hg2, m_u_eq]; exact m_sub_or (a3 X h1 h2 _ ha) (h2 j hj hrh h99)
    · rw [m_u_ne hg2]; exact a3 X h1 h2 g hg
  · rw [Bool.or_eq_false_iff] at hc
    have hz := of_decide_eq_false hc.2
    have hz : (R' (m_fa p f j) ||| m_tm p K D A f r j) = R' (m_fa p f j) := Classical.not_not.mp hz
    rw [hz, m_upd_self]; exact a4 hc.1 g hg
  · rw [Bool.or_eq_true] at hc
    rcases hc with hc | hc
    · obtain ⟨g, hg1, hg2⟩ := a5 hc
      refine ⟨g, hg1, fun z => hg2 ?_⟩
      exact m_sub_anti (by rw [← z]; exact hup g) (a1 g hg1)
    · have hz := of_decide_eq_true hc
      refine ⟨m_fa p f j, ha, fun z => hz ?_⟩
      rw [m_u_eq] at z
      exact m_sub_anti (by rw [z]; exact a1 _ ha) (m_sub_orl _ _)
theorem c_ask (hf : f < 8) {v : Int32} : F_X3_ask (nI f) v τ = some (m_b (decide (¬ (τ.1 31 f ||| ((v &&& m_cb (τ.1 23) f) &&& τ.1 27 f)) = τ.1 31 f)), cv_sA τ 31 f (τ.1 31 f ||| ((v &&& m_cb (τ.1 23) f) &&& τ.1 27 f))) := by
  unfold F_X3_ask F_X3_ask_b43
  rw [m_ld hf (by decide), c_clob hf, m_bi, m_ld hf (by decide), m_ld hf (by decide), m_st hf (by decide), m_st hf (by decide)]
  by_cases h : (τ.1 31 f ||| ((v &&& m_cb (τ.1 23) f) &&& τ.1 27 f)) = τ.1 31 f
  · rw [if_pos h, decide_eq_false (not_not_intro h)]; rfl
  · rw [if_neg h, decide_eq_true h]; rfl
theorem c_tr_loop (hc : m_cc 14 15 16 σ p) (ho : m_ok p) (hf : f < 8) (hF : m_CF p σ 8) {r : Int32} : ∀ (n i : Nat) (τ : cv_St) (c : Bool), i < n → i ≤ m_cn p f → m_fr [29, 31] [] σ τ →
    (∀ x, i ≤ x → x ≤ m_cn p f → m_rh p f x = true → τ.1 29 (f * 15 + m_nd p f x) = m_lv p (σ.1 23) (σ.1 30) f r x) → (∀ j, (j < f * 15 ∨ f * 15 + 15 ≤ j) → τ.1 29 j = σ.1 29 j) → m_gw p (σ.1 23) (σ.1 27) (σ.1 30) (σ.1 31) f r (τ.1 31) i c →
    ∃ υ c', F_X3_trace_b32 n (nI f) (m_b c) (m_pd i) τ = some (m_b (c' || decide (¬ m_lv p (σ.1 23) (σ.1 30) f r 0 = σ.1 30 f)), cv_sA υ 30 f (m_lv p (σ.1 23) (σ.1 30) f r 0)) ∧ m_fr [29, 31] [] σ υ ∧
      (∀ x, x ≤ m_cn p f → m_rh p f x = true → υ.1 29 (f * 15 + m_nd p f x) = m_lv p (σ.1 23) (σ.1 30) f r x) ∧ (∀ j, (j < f * 15 ∨ f * 15 + 15 ≤ j) → υ.1 29 j = σ.1 29 j) ∧ m_gw p (σ.1 23) (σ.1 27) (σ.1 30) (σ.1 31) f r (υ.1 31) 0 c' := by
  have h14 := m_cn14 ho hf
  intro n
  induction n with
  | zero => intro i τ c h; omega
  | succ n ih =>
    intro i τ c hn hi hfr hL hO hG
    have hc' := hc.fr hfr (by decide) (by decide) (by decide)
    have hF' : m_CF p τ 8 := fun f hf => by rw [hfr.1 20 (by decide), hfr.1 21 (by decide)]; exact hF f hf
    have h30 : τ.1 30 = σ.1 30 := hfr.1 30 (by decide)
    have h23 : τ.1 23 = σ.1 23 := hfr.1 23 (by decide)
    have h27 : τ.1 27 = σ.1 27 := hfr.1 27 (by decide)
    show ∃ υ c', B_X3_trace_b32 (F_X3_trace_b32 n) (nI f) (m_b c) (m_pd i) τ = _ ∧ _
    unfold B_X3_trace_b32
    cases i with
    | zero =>
      have l0 := m_nd_lt ho hf (Nat.zero_le (m_cn p f))
      rw [if_pos (show m_pd 0 < 0 from by decide), c_entry hc' ho hf, m_bi]
      unfold F_X3_before
      rw [m_j15, m_ld (by omega) (by decide), m_bi, m_ld hf (by decide), h30, hL 0 (by omega) (by omega) m_rh_0, m_st hf (by decide)]
      refine ⟨τ, c, ?_, hfr, fun x hx => hL x (by omega) hx, hO, hG⟩
      by_cases hz : m_lv p (σ.1 23) (σ.1 30) f r 0 = σ.1 30 f
      · rw [if_pos hz, decide_eq_false (not_not_intro hz), Bool.or_false, m_Aid (show m_lv p (σ.1 23) (σ.1 30) f r 0 = τ.1 30 f by rw [h30]; exact hz), m_rzb]
      · rw [if_neg hz, decide_eq_true hz, Bool.or_true, ← m_bt1, m_rzb]
    | succ j =>
      have hj : j < m_cn p f := by omega
      rw [m_pd_s, if_neg (nI_pos (by omega)), c_reaches hF' ho hf hj, m_bi, m_b0i]
      by_cases hrh : m_rh p f j = false
      · rw [if_pos hrh]
        unfold F_X3_trace_b117
        rw [m_pd_n]
        refine ih j τ c (by omega) (by omega) hfr (fun x hx1 hx2 hx3 => ?_) hO ⟨hG.1, fun x hx1 hx2 hx3 hx4 => ?_, hG.2.2⟩
        · have : x ≠ j := fun w => by rw [w, hrh] at hx3; cases hx3
          exact hL x (by omega) hx2 hx3
        · have : x ≠ j := fun w => by rw [w, hrh] at hx3; cases hx3
          exact hG.2.1 x (by omega) hx2 hx3 hx4
      · have hrh' : m_rh p f j = true := by simpa using hrh
        have g0 := m_nx_gt (p := p) (f := f) (i := j) hj 0
        have g1 := m_nx_gt (p := p) (f := f) (i := j) hj 1
        rw [if_neg hrh, c_behind hc' ho hf hj, m_bi, hL _ (by omega) (m_nx_le p f j 0) (m_rh_nx hj hrh' (by omega)), hL _ (by omega) (m_nx_le p f j 1) (m_rh_nx hj hrh' (by omega)), show (m_lv p (σ.1 23) (σ.1 30) f r (m_nx p f j 0) ||| m_lv p (σ.1 23) (σ.1 30) f r (m_nx p f j 1)) = m_lb p (σ.1 23) (σ.1 30) f r j from rfl, c_isCall hc' ho hf hj, m_bi, m_b0i]
        have hgo : ∀ (ω : cv_St) (t : Int32) (c2 : Bool), t = m_b c2 → m_fr [29, 31] [] σ ω → ω.1 29 = τ.1 29 → m_gw p (σ.1 23) (σ.1 27) (σ.1 30) (σ.1 31) f r (ω.1 31) j c2 → ∃ υ c', F_X3_trace_b88 (F_X3_trace_b32 n) (nI f) t (nI j) (m_lb p (σ.1 23) (σ.1 30) f r j) ω = some (m_b (c' || decide (¬ m_lv p (σ.1 23) (σ.1 30) f r 0 = σ.1 30 f)), cv_sA υ 30 f (m_lv p (σ.1 23) (σ.1 30) f r 0)) ∧ m_fr [29, 31] [] σ υ ∧
            (∀ x, x ≤ m_cn p f → m_rh p f x = true → υ.1 29 (f * 15 + m_nd p f x) = m_lv p (σ.1 23) (σ.1 30) f r x) ∧ (∀ j, (j < f * 15 ∨ f * 15 + 15 ≤ j) → υ.1 29 j = σ.1 29 j) ∧ m_gw p (σ.1 23) (σ.1 27) (σ.1 30) (σ.1 31) f r (υ.1 31) 0 c' := by
          intro ω t c2 ht hω h29 hg
          have hcω := hc.fr hω (by decide) (by decide) (by decide)
          unfold F_X3_trace_b88 F_X3_trace_b117
          rw [c_readAt hcω ho hf hj, m_bi, c_writtenAt hcω ho hf hj, m_bi, hω.1 30 (by decide), hω.1 23 (by decide), m_j15, m_st (by omega) (by decide), m_pd_n, ht, ← m_lv_at ho hf hj]
          refine ih j _ c2 (by omega) (by omega) (hω.trans (m_fr.A (by decide))) (fun x hx1 hx2 hx3 => ?_) (fun y hy => ?_) ?_
          · rw [m_A_eq]
            by_cases hxj : x = j
            · rw [hxj, m_nd_at hj, m_u_eq]
            · have hne : m_nd p f x ≠ j := fun w => hxj ((m_nd_inj ho hf hx2 (show j ≤ m_cn p f by omega)).mp (w.trans (m_nd_at hj).symm))
              rw [m_u_ne (by omega), h29]; exact hL x (by omega) hx2 hx3
          · rw [m_A_eq, m_u_ne (by omega), h29]; exact hO y hy
          · rw [m_A_ne (by decide)]; exact hg
        by_cases h99 : m_kd p f j = 99
        · have ha := m_fa8 ho hf hj (by omega)
          rw [if_neg (by simp [h99]), c_numberAt hc' ho hf hj, m_bi, m_num_c (by omega), c_ask ha, m_bi, m_b0i, h23, h27, show ((m_lb p (σ.1 23) (σ.1 30) f r j &&& m_cb (σ.1 23) (m_fa p f j)) &&& σ.1 27 (m_fa p f j)) = m_tm p (σ.1 23) (σ.1 27) (σ.1 30) f r j from rfl]
          have hG2 := m_gw_st ho hf hj hG hrh' h99
          have hfr2 : m_fr [29, 31] [] σ (cv_sA τ 31 (m_fa p f j) (τ.1 31 (m_fa p f j) ||| m_tm p (σ.1 23) (σ.1 27) (σ.1 30) f r j)) := hfr.trans (m_fr.A (by decide))
          have h29 : (cv_sA τ 31 (m_fa p f j) (τ.1 31 (m_fa p f j) ||| m_tm p (σ.1 23) (σ.1 27) (σ.1 30) f r j)).1 29 = τ.1 29 := m_A_ne (by decide)
          by_cases hz : (τ.1 31 (m_fa p f j) ||| m_tm p (σ.1 23) (σ.1 27) (σ.1 30) f r j) = τ.1 31 (m_fa p f j)
          · rw [decide_eq_false (not_not_intro hz)] at hG2
            rw [if_pos (show decide (¬ (τ.1 31 (m_fa p f j) ||| m_tm p (σ.1 23) (σ.1 27) (σ.1 30) f r j) = τ.1 31 (m_fa p f j)) = false from decide_eq_false (not_not_intro hz))]
            exact hgo _ _ (c || false) (by rw [Bool.or_false]) hfr2 h29 (by rw [m_A_eq]; exact hG2)
          · rw [decide_eq_true hz] at hG2
            rw [if_neg (show ¬ decide (¬ (τ.1 31 (m_fa p f j) ||| m_tm p (σ.1 23) (σ.1 27) (σ.1 30) f r j) = τ.1 31 (m_fa p f j)) = false from by rw [decide_eq_true hz]; simp)]
            exact hgo _ _ (c || true) (by rw [Bool.or_true, m_bt1]) hfr2 h29 (by rw [m_A_eq]; exact hG2)
        · rw [if_pos (by simp [h99])]
          refine hgo τ _ c rfl hfr rfl ⟨hG.1, fun x hx1 hx2 hx3 hx4 => ?_, hG.2.2⟩
          have : x ≠ j := fun w => by rw [w] at hx4; exact h99 hx4
          exact hG.2.1 x (by omega) hx2 hx3 hx4
theorem c_trace (hc : m_cc 14 15 16 σ p) (ho : m_ok p) (hf : f < 8) (hF : m_CF p σ 8) :
    ∃ υ c, F_X3_trace (nI f) σ = some (m_b (c || decide (¬ m_lv p (σ.1 23) (σ.1 30) f (σ.1 31 f) 0 = σ.1 30 f)), υ) ∧ m_fr [29, 30, 31] [] σ υ ∧ υ.1 30 = upd (σ.1 30) f (m_lv p (σ.1 23) (σ.1 30) f (σ.1 31 f) 0) ∧
      (∀ x, x ≤ m_cn p f → m_rh p f x = true → υ.1 29 (f * 15 + m_nd p f x) = m_lv p (σ.1 23) (σ.1 30) f (σ.1 31 f) x) ∧ (∀ j, (j < f * 15 ∨ f * 15 + 15 ≤ j) → υ.1 29 j = σ.1 29 j) ∧ m_gw p (σ.1 23) (σ.1 27) (σ.1 30) (σ.1 31) f (σ.1 31 f) (υ.1 31) 0 c := by
  have h14 := m_cn14 ho hf
  have hfr0 : m_fr [29, 31] [] σ (cv_sA σ 29 (f * 15 + 14) (σ.1 31 f)) := m_fr.A (by decide)
  unfold F_X3_trace
  rw [m_ld hf (by decide), show (14 : Int32) = nI 14 from rfl, m_j15, m_st (by omega) (by decide), m_ld hf (by decide), c_cnt (hc.fr hfr0 (by decide) (by decide) (by decide)) hf]
  obtain ⟨υ, c, a1, a2, a3, a4, a5⟩ := c_tr_loop hc ho hf hF (r := σ.1 31 f) 1000 (m_cn p f) (cv_sA σ 29 (f * 15 + 14) (σ.1 31 f)) false (by omega) (by omega) hfr0 (fun x hx1 hx2 _ => by
      rw [show x = m_cn p f by omega, m_nd_end, m_lv_end, m_A_eq, m_u_eq]) (fun j hj => by rw [m_A_eq, m_u_ne (by omega)]) (by
      rw [m_A_ne (by decide)]
      exact ⟨fun _ _ => m_sub_refl _, fun x hx1 hx2 => by omega, fun X h1 _ g hg => h1 g hg, fun _ _ _ => rfl, fun z => by cases z⟩)
  have a1 : F_X3_trace_b32 1000 (nI f) 0 (nI (m_cn p f) - 1) (cv_sA σ 29 (f * 15 + 14) (σ.1 31 f)) = _ := a1
  refine ⟨_, c, a1, (a2.mono (by decide) (by decide)).trans (m_fr.A (by decide)), ?_, fun x hx hr => ?_, fun j hj => ?_, ?_⟩
  · rw [m_A_eq, a2.1 30 (by decide)]
  · rw [m_A_ne (by decide)]; exact a3 x hx hr
  · rw [m_A_ne (by decide)]; exact a4 j hj
  · rw [m_A_ne (by decide)]; exact a5
end A45
