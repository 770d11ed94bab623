def m_IV (p : m_P) (K D A R : Nat → Int32) : Prop := (∀ f, f < 8 → m_sub (A f) 255 ∧ m_sub (R f) 255) ∧ (∀ f, f < 8 → m_sub (A f) (m_lv p K A f (R f) 0)) ∧ ∀ A' R', m_co p K D A' R' → ∀ f, f < 8 → m_sub (A f) (A' f) ∧ m_sub (R f) (R' f)
theorem m_lv_congr {p : m_P} {K A A' : Nat → Int32} {f : Nat} {r : Int32} (ho : m_ok p) (hf : f < 8) (h : ∀ g, g < 8 → A g = A' g) (x : Nat) : m_lv p K A f r x = m_lv p K A' f r x :=
  m_sub_anti (m_lv_mono ho hf (fun g hg => by rw [h g hg]; exact m_sub_refl _) (m_sub_refl _) x) (m_lv_mono ho hf (fun g hg => by rw [h g hg]; exact m_sub_refl _) (m_sub_refl _) x)
theorem m_tm_mono {p : m_P} {K D A A' : Nat → Int32} {f : Nat} {r r' : Int32} (ho : m_ok p) (hf : f < 8) (h : ∀ g, g < 8 → m_sub (A g) (A' g)) (hr : m_sub r r') (x : Nat) : m_sub (m_tm p K D A f r x) (m_tm p K D A' f r' x) := m_sub_and2 (m_sub_and2 (m_lb_mono ho hf h hr x) (m_sub_refl _)) (m_sub_refl _)
theorem m_tm_dom {p : m_P} {K D A : Nat → Int32} {f : Nat} {r : Int32} (x : Nat) : m_sub (m_tm p K D A f r x) 255 := m_sub_andl (m_sub_and m_cb_dom)
def m_ww (A R : Nat → Int32) : Nat := m_w m_pc A + m_w m_pc R
theorem m_w_pc (A : Nat → Int32) : m_w m_pc A ≤ 64 := by
  unfold m_w
  have h0 := m_pc_8 (A 0); have h1 := m_pc_8 (A 1); have h2 := m_pc_8 (A 2); have h3 := m_pc_8 (A 3)
  have h4 := m_pc_8 (A 4); have h5 := m_pc_8 (A 5); have h6 := m_pc_8 (A 6); have h7 := m_pc_8 (A 7)
  omega
theorem m_ww_le {A R A1 R1 : Nat → Int32} (hA : ∀ f, f < 8 → m_sub (A f) (A1 f)) (hR : ∀ f, f < 8 → m_sub (R f) (R1 f)) : m_ww A R ≤ m_ww A1 R1 := Nat.add_le_add (m_w_le (fun f hf => m_pc_le (hA f hf))) (m_w_le (fun f hf => m_pc_le (hR f hf)))
theorem m_ww_lt {A R A1 R1 : Nat → Int32} (hA : ∀ f, f < 8 → m_sub (A f) (A1 f)) (hR : ∀ f, f < 8 → m_sub (R f) (R1 f)) (hd : ∀ f, f < 8 → m_sub (A1 f) 255 ∧ m_sub (R1 f) 255) (h : (∃ g, g < 8 ∧ ¬ A1 g = A g) ∨ ∃ g, g < 8 ∧ ¬ R1 g = R g) : m_ww A R < m_ww A1 R1 := by
  rcases h with ⟨g, hg, hne⟩ | ⟨g, hg, hne⟩
  · exact Nat.add_lt_add_of_lt_of_le (m_w_lt (fun f hf => m_pc_le (hA f hf)) hg (m_pc_lt (m_sub_trans _ _ _ (hA g hg) (hd g hg).1) (hd g hg).1 (hA g hg) (fun z => hne z.symm))) (m_w_le (fun f hf => m_pc_le (hR f hf)))
  · exact Nat.add_lt_add_of_le_of_lt (m_w_le (fun f hf => m_pc_le (hA f hf))) (m_w_lt (fun f hf => m_pc_le (hR f hf)) hg (m_pc_lt (m_sub_trans _ _ _ (hR g hg) (hd g hg).2) (hd g hg).2 (hR g hg) (fun z => hne z.symm)))
/-- one pass over a function keeps what is sure -/
theorem m_IV_st {p : m_P} {K D A R R1 : Nat → Int32} {k : Nat} {c : Bool} (ho : m_ok p) (hk : k < 8) (h : m_IV p K D A R) (g : m_gw p K D A R k (R k) R1 0 c) :
    m_IV p K D (upd A k (m_lv p K A k (R k) 0)) R1 ∧ (∀ f, f < 8 → m_sub (A f) (upd A k (m_lv p K A k (R k) 0) f)) ∧ ∀ f, f < 8 → m_sub (R f) (R1 f) := by
  obtain ⟨h1, h2, h3⟩ := h
  have gA : ∀ f, f < 8 → m_sub (A f) (upd A k (m_lv p K A k (R k) 0) f) := fun f hf => by
    by_cases hfk : f = k
    · rw [hfk, m_u_eq]; exact h2 k hk
    · rw [m_u_ne hfk]; exact m_sub_refl _
  refine ⟨⟨fun f hf => ⟨?_, ?_⟩, fun f hf => ?_, fun A' R' hco f hf => ⟨?_, ?_⟩⟩, gA, g.1⟩
  · by_cases hfk : f = k
    · rw [hfk, m_u_eq]; exact m_lv_dom ho hk (fun g hg => (h1 g hg).1) (h1 k hk).2 0
    · rw [m_u_ne hfk]; exact (h1 f hf).1
  · exact g.2.2.1 (fun _ => 255) (fun g hg => (h1 g hg).2) (fun x _ _ _ => m_tm_dom x) f hf
  · have hm := m_lv_mono (K := K) (r := R f) (r' := R1 f) ho hf gA (g.1 f hf) 0
    by_cases hfk : f = k
    · subst hfk; rw [m_u_eq]; exact hm
    · rw [m_u_ne hfk]; exact m_sub_trans _ _ _ (h2 f hf) hm
  · by_cases hfk : f = k
    · subst hfk; rw [m_u_eq]
      exact m_sub_trans _ _ _ (m_lv_mono ho hf (fun g hg => (h3 A' R' hco g hg).1) (h3 A' R' hco f hf).2 0) (hco.1 f hf)
    · rw [m_u_ne hfk]; exact (h3 A' R' hco f hf).1
  · refine g.2.2.1 R' (fun g hg => (h3 A' R' hco g hg).2) (fun x hx1 hx2 hx3 => ?_) f hf
    exact m_sub_trans _ _ _ (m_tm_mono ho hk (fun g hg => (h3 A' R' hco g hg).1) (h3 A' R' hco k hk).2 x) (hco.2 (k, x) ⟨hk, hx1, hx2, hx3⟩)
def m_RS (p : m_P) (K D A0 R0 : Nat → Int32) (τ : cv_St) (k : Nat) (c : Bool) : Prop :=
  (∀ f, f < 8 → m_sub (A0 f) (τ.1 30 f)) ∧ (∀ f, f < 8 → m_sub (R0 f) (τ.1 31 f)) ∧
  (c = true → m_ww A0 R0 < m_ww (τ.1 30) (τ.1 31)) ∧
  (c = false → (∀ f, f < 8 → τ.1 30 f = A0 f ∧ τ.1 31 f = R0 f) ∧ ∀ f, f < k → m_lv p K A0 f (R0 f) 0 = A0 f ∧ (∀ x, x < m_cn p f → m_rh p f x = true → m_kd p f x = 99 → m_sub (m_tm p K D A0 f (R0 f) x) (R0 (m_fa p f x))) ∧ ∀ x, x ≤ m_cn p f → m_rh p f x = true → τ.1 29 (f * 15 + m_nd p f x) = m_lv p K A0 f (R0 f) x)
section A46
variable {p : m_P} {σ τ : cv_St} {f i : Nat}
theorem c_li_in (hc : m_cc 14 15 16 σ p) (ho : m_ok p) (hF : m_CF p σ 8) {A0 R0 : Nat → Int32} (k : Int32 → Int32 → cv_St → Option cv_St) (l2 : Int32) : ∀ (n i : Nat) (τ : cv_St) (c : Bool), 8 - i < n → i ≤ 8 → m_fr [29, 30, 31] [] σ τ → m_IV p (σ.1 23) (σ.1 27) (τ.1 30) (τ.1 31) → m_RS p (σ.1 23) (σ.1 27) A0 R0 τ i c →
    ∃ υ c', F_X3_infer_b43 k n (m_b c) l2 (nI i) τ = k (m_b c') (l2 + Int32.ofInt 1) υ ∧ m_fr [29, 30, 31] [] σ υ ∧ m_IV p (σ.1 23) (σ.1 27) (υ.1 30) (υ.1 31) ∧ m_RS p (σ.1 23) (σ.1 27) A0 R0 υ 8 c' := by
  intro n
  induction n with
  | zero => intro i τ c h; omega
  | succ n ih =>
    intro i τ c hn hi hfr hI hS
    show ∃ υ c', B_X3_infer_b43 k (F_X3_infer_b43 k n) (m_b c) l2 (nI i) τ = _ ∧ _
    unfold B_X3_infer_b43
    rw [show (8 : Int32) = nI 8 from rfl, m_lei (by omega) (by omega)]
    by_cases hq : 8 ≤ i
    · have he : i = 8 := by omega
      subst he
      rw [if_pos hq]
      exact ⟨τ, c, rfl, hfr, hI, hS⟩
    · have hi8 : i < 8 := by omega
      have hF' : m_CF p τ 8 := fun f hf => by rw [hfr.1 20 (by decide), hfr.1 21 (by decide)]; exact hF f hf
      obtain ⟨υ, c1, a1, a2, a3, a4, a5, a6⟩ := c_trace (hc.fr hfr (by decide) (by decide) (by decide)) ho hi8 hF'
      rw [hfr.1 23 (by decide), hfr.1 27 (by decide)] at a6
      rw [hfr.1 23 (by decide)] at a1 a3 a4
      obtain ⟨b1, b2, b3⟩ := m_IV_st ho hi8 hI a6
      rw [← a3] at b1 b2
      have hif : ∀ b : Bool, (if m_b b = 0 then F_X3_infer_b59 k (F_X3_infer_b43 k n) (m_b c) l2 (nI i) υ else F_X3_infer_b59 k (F_X3_infer_b43 k n) 1 l2 (nI i) υ) = F_X3_infer_b43 k n (m_b (c || b)) l2 (nI i + Int32.ofInt 1) υ := by
        intro b
        unfold F_X3_infer_b59
        rw [m_b0i]
        cases b with
        | false => rw [if_pos rfl, Bool.or_false]
        | true => rw [if_neg (by simp), Bool.or_true, m_bt1]
      rw [if_neg hq, a1, m_bi, hif, m_i1, m_add, ← m_i1]
      obtain ⟨s1, s2, s3, s4⟩ := hS
      refine ih (i + 1) υ _ (by omega) (by omega) (hfr.trans a2) b1 ⟨fun f hf => m_sub_trans _ _ _ (s1 f hf) (b2 f hf), fun f hf => m_sub_trans _ _ _ (s2 f hf) (b3 f hf), fun hc => ?_, fun hc => ?_⟩
      · rw [Bool.or_eq_true, Bool.or_eq_true] at hc
        rcases hc with hc | hc | hc
        · exact Nat.lt_of_lt_of_le (s3 hc) (m_ww_le b2 b3)
        · exact Nat.lt_of_le_of_lt (m_ww_le s1 s2) (m_ww_lt b2 b3 b1.1 (Or.inr (a6.2.2.2.2 hc)))
        · exact Nat.lt_of_le_of_lt (m_ww_le s1 s2) (m_ww_lt b2 b3 b1.1 (Or.inl ⟨i, hi8, by rw [a3, m_u_eq]; exact of_decide_eq_true hc⟩))
      · rw [Bool.or_eq_false_iff, Bool.or_eq_false_iff] at hc
        obtain ⟨t1, t2⟩ := s4 hc.1
        have hR1 := a6.2.2.2.1 hc.2.1
        have hnew : m_lv p (σ.1 23) (τ.1 30) i (τ.1 31 i) 0 = τ.1 30 i := Classical.not_not.mp (of_decide_eq_false hc.2.2)
        have hcg : ∀ x, m_lv p (σ.1 23) (τ.1 30) i (τ.1 31 i) x = m_lv p (σ.1 23) A0 i (R0 i) x := fun x => by
          rw [(t1 i hi8).2]; exact m_lv_congr ho hi8 (fun g hg => (t1 g hg).1) x
        rw [hnew, m_upd_self] at a3
        refine ⟨fun f hf => ⟨by rw [a3]; exact (t1 f hf).1, by rw [hR1 f hf]; exact (t1 f hf).2⟩, fun f hf => ?_⟩
        by_cases hfi : f = i
        · subst hfi
          refine ⟨by rw [← hcg 0, hnew]; exact (t1 f hi8).1, fun x hx1 hx2 hx3 => ?_, fun x hx hxr => by rw [a4 x hx hxr]; exact hcg x⟩
          have := a6.2.1 x (by omega) hx1 hx2 hx3
          have ha := m_fa8 ho hi8 hx1 (by omega)
          rw [hR1 _ ha, (t1 _ ha).2] at this
          have e1 : m_tm p (σ.1 23) (σ.1 27) (τ.1 30) f (τ.1 31 f) x = m_tm p (σ.1 23) (σ.1 27) A0 f (R0 f) x := by
            unfold m_tm m_lb
            rw [hcg, hcg]
          rw [← e1]; exact this
        · obtain ⟨u1, u2, u3⟩ := t2 f (by omega)
          refine ⟨u1, u2, fun x hx hxr => ?_⟩
          have := m_nd_lt ho (show f < 8 by omega) hx
          rw [a5 _ (by omega)]
          exact u3 x hx hxr
theorem c_li_out (hc : m_cc 14 15 16 σ p) (ho : m_ok p) (hF : m_CF p σ 8) : ∀ (n r : Nat) (τ : cv_St) (b : Bool), 131 - r < n → r ≤ 130 → m_fr [29, 30, 31] [] σ τ → m_IV p (σ.1 23) (σ.1 27) (τ.1 30) (τ.1 31) → (b = true → r ≤ m_ww (τ.1 30) (τ.1 31)) → (b = false → m_co p (σ.1 23) (σ.1 27) (τ.1 30) (τ.1 31) ∧ ∀ f, f < 8 → ∀ x, x ≤ m_cn p f → m_rh p f x = true → τ.1 29 (f * 15 + m_nd p f x) = m_lv p (σ.1 23) (τ.1 30) f (τ.1 31 f) x) →
    ∃ υ, F_X3_infer_b28 n (m_b b) (nI r) τ = some υ ∧ m_fr [29, 30, 31] [] σ υ ∧ m_LA p (σ.1 23) (σ.1 27) (υ.1 30) (υ.1 31) ∧ ∀ f, f < 8 → ∀ x, x ≤ m_cn p f → m_rh p f x = true → υ.1 29 (f * 15 + m_nd p f x) = m_lv p (σ.1 23) (υ.1 30) f (υ.1 31 f) x := by
  intro n
  induction n with
  | zero => intro r τ b h; omega
  | succ n ih =>
    intro r τ b hn hr hfr hI hb1 hb2
    show ∃ υ, B_X3_infer_b28 (F_X3_infer_b28 n) (m_b b) (nI r) τ = _ ∧ _
    unfold B_X3_infer_b28
    rw [m_b0i]
    cases b with
    | false =>
      rw [if_pos rfl]
      obtain ⟨q1, q2⟩ := hb2 rfl
      exact ⟨τ, rfl, hfr, ⟨hI.1, q1, hI.2.2⟩, q2⟩
    | true =>
      have hw := hb1 rfl
      have hA := m_w_pc (τ.1 30)
      have hR := m_w_pc (τ.1 31)
      have hww : m_ww (τ.1 30) (τ.1 31) = m_w m_pc (τ.1 30) + m_w m_pc (τ.1 31) := rfl
      rw [if_neg (by simp), show (128 : Int32) = nI 128 from rfl, m_lti (by omega) (by omega), if_neg (by omega)]
      obtain ⟨υ, c, h1, h2, h3, h4⟩ := c_li_in hc ho hF (A0 := τ.1 30) (R0 := τ.1 31) (F_X3_infer_b28 n) (nI r) 1000 0 τ false (by omega) (by omega) hfr hI ⟨fun _ _ => m_sub_refl _, fun _ _ => m_sub_refl _, fun z => (by cases z), fun _ => ⟨fun _ _ => ⟨rfl, rfl⟩, fun f hf => by omega⟩⟩
      have h1 : F_X3_infer_b43 (F_X3_infer_b28 n) 1000 0 (nI r) 0 τ = _ := h1
      rw [h1, m_i1, m_add]
      refine ih (r + 1) υ c (by omega) (by omega) h2 h3 (fun hct => ?_) (fun hcf => ?_)
      · have := h4.2.2.1 hct
        omega
      · obtain ⟨t1, t2⟩ := h4.2.2.2 hcf
        have hcg : ∀ f, f < 8 → ∀ x, m_lv p (σ.1 23) (υ.1 30) f (υ.1 31 f) x = m_lv p (σ.1 23) (τ.1 30) f (τ.1 31 f) x := fun f hf x => by
          rw [(t1 f hf).2]; exact m_lv_congr ho hf (fun g hg => (t1 g hg).1) x
        refine ⟨⟨fun f hf => ?_, fun q hq => ?_⟩, fun f hf x hx hxr => ?_⟩
        · rw [hcg f hf, (t2 f hf).1, (t1 f hf).1]; exact m_sub_refl _
        · obtain ⟨e1, e2, e3, e4⟩ := hq
          have ha := m_fa8 ho e1 e2 (by omega)
          have := (t2 q.1 e1).2.1 q.2 e2 e3 e4
          rw [(t1 _ ha).2]
          have e5 : ((m_lb p (σ.1 23) (υ.1 30) q.1 (υ.1 31 q.1) q.2 &&& m_cb (σ.1 23) (m_fa p q.1 q.2)) &&& σ.1 27 (m_fa p q.1 q.2)) = m_tm p (σ.1 23) (σ.1 27) (τ.1 30) q.1 (τ.1 31 q.1) q.2 := by
            unfold m_tm m_lb
            rw [hcg _ e1, hcg _ e1]
          rw [e5]; exact this
        · rw [(t2 f hf).2.2 x hx hxr, hcg f hf]
theorem c_inferL (hc : m_cc 14 15 16 σ p) (ho : m_ok p) (hF : m_CF p σ 8) : ∃ υ, F_X3_infer σ = some υ ∧ m_fr [29, 30, 31] [] σ υ ∧ m_LA p (σ.1 23) (σ.1 27) (υ.1 30) (υ.1 31) ∧ ∀ f, f < 8 → ∀ x, x ≤ m_cn p f → m_rh p f x = true → υ.1 29 (f * 15 + m_nd p f x) = m_lv p (σ.1 23) (υ.1 30) f (υ.1 31 f) x := by
  unfold F_X3_infer
  obtain ⟨g1, a1, b1⟩ := c_fill_29 (σ := σ) 0
  obtain ⟨g2, a2, b2⟩ := c_fill_30 (σ := cv_sR σ 29 g1) 0
  obtain ⟨g3, a3, b3⟩ := c_fill_31 (σ := cv_sR (cv_sR σ 29 g1) 30 g2) 0
  rw [a1, m_bv, a2, m_bv, a3, m_bv]
  have h30 : (cv_sR (cv_sR (cv_sR σ 29 g1) 30 g2) 31 g3).1 30 = g2 := by rw [m_R_ne (by decide), m_R_eq]
  have h31 : (cv_sR (cv_sR (cv_sR σ 29 g1) 30 g2) 31 g3).1 31 = g3 := m_R_eq
  refine c_li_out hc ho hF 1000 0 _ true (by omega) (by omega) (((m_fr.R (by decide)).trans (m_fr.R (by decide))).trans (m_fr.R (by decide))) ?_ (fun _ => Nat.zero_le _) (fun z => by cases z)
  rw [h30, h31]
  refine ⟨fun f hf => ?_, fun f hf => ?_, fun A' R' _ f hf => ?_⟩
  · rw [b2 f hf, b3 f hf]; exact ⟨m_sub_0, m_sub_0⟩
  · rw [b2 f hf]; exact m_sub_0
  · rw [b2 f hf, b3 f hf]; exact ⟨m_sub_0, m_sub_0⟩
end A46
