theorem m_IV_stA {p : m_P} {K D A R : Nat → Int32} {k : Nat} (ho : m_ok p) (hk : k < 8) (h : m_IV p K D A R) :
    m_IV p K D (upd A k (m_lv p K A k (R k) 0)) R ∧ ∀ f, f < 8 → m_sub (A f) (upd A k (m_lv p K A k (R k) 0) f) := by
  obtain ⟨h1, h2, h3⟩ := h
  have gA : ∀ f, f < 8 → m_sub (A f) (upd A k (m_lv p K A k (R k) 0) f) := fun f hf => by
    by_cases hfk : f = k
    · rw [hfk, m_u_eq]; exact h2 k hk
    · rw [m_u_ne hfk]; exact m_sub_refl _
  refine ⟨⟨fun f hf => ⟨?_, (h1 f hf).2⟩, fun f hf => ?_, fun A' R' hco f hf => ⟨?_, (h3 A' R' hco f hf).2⟩⟩, gA⟩
  · by_cases hfk : f = k
    · rw [hfk, m_u_eq]; exact m_lv_dom ho hk (fun g hg => (h1 g hg).1) (h1 k hk).2 0
    · rw [m_u_ne hfk]; exact (h1 f hf).1
  · have hm := m_lv_mono (K := K) (r := R f) (r' := R f) ho hf gA (m_sub_refl _) 0
    by_cases hfk : f = k
    · subst hfk; rw [m_u_eq]; exact hm
    · rw [m_u_ne hfk]; exact m_sub_trans _ _ _ (h2 f hf) hm
  · by_cases hfk : f = k
    · subst hfk; rw [m_u_eq]
      exact m_sub_trans _ _ _ (m_lv_mono ho hf (fun g hg => (h3 A' R' hco g hg).1) (h3 A' R' hco f hf).2 0) (hco.1 f hf)
    · rw [m_u_ne hfk]; exact (h3 A' R' hco f hf).1
/-- the rows of live sets lie between the two -/
def m_sw (p : m_P) (K A0 R0 A L : Nat → Int32) (k : Nat) : Prop := ∀ f, f < k → ∀ x, x ≤ m_cn p f → m_sub (m_lv p K A0 f (R0 f) x) (L (15 * f + x)) ∧ m_sub (L (15 * f + x)) (m_lv p K A f (R0 f) x)
def m_R1 (p : m_P) (K D A0 R0 : Nat → Int32) (τ : cv_St) (k : Nat) (c : Bool) : Prop :=
  m_IV p K D (τ.1 58) R0 ∧ (∀ f, f < 8 → m_sub (A0 f) (τ.1 58 f)) ∧ m_sw p K A0 R0 (τ.1 58) (τ.1 60) k ∧ (c = true → m_ww A0 R0 < m_ww (τ.1 58) R0) ∧ (c = false → (∀ f, f < 8 → τ.1 58 f = A0 f) ∧ ∀ f, f < k → m_lv p K A0 f (R0 f) 0 = A0 f)
section A48
variable {p : m_P} {σ τ : cv_St} {f i : Nat}
theorem r_a1_loop (hc : m_mc 43 σ p) (ho : m_ok p) {A0 R0 : Nat → Int32} (k : Int32 → cv_St → Option cv_St) : ∀ (n i : Nat) (τ : cv_St) (c : Bool), 8 - i < n → i ≤ 8 → m_fr [58, 59, 60] [] σ τ → τ.1 59 = R0 → m_R1 p (σ.1 51) (σ.1 55) A0 R0 τ i c →
    ∃ υ c', F_X9_findArguments_b38 k n (m_b c) (nI i) τ = F_X9_findArguments_b100 k 1000 (m_b c') 0 υ ∧ m_fr [58, 59, 60] [] σ υ ∧ υ.1 59 = R0 ∧ m_R1 p (σ.1 51) (σ.1 55) A0 R0 υ 8 c' := by
  intro n
  induction n with
  | zero => intro i τ c h; omega
  | succ n ih =>
    intro i τ c hn hi hfr h59 hS
    show ∃ υ c', B_X9_findArguments_b38 k (F_X9_findArguments_b38 k n) (m_b c) (nI i) τ = _ ∧ _
    unfold B_X9_findArguments_b38
    rw [show (8 : Int32) = nI 8 from rfl, m_lei (by omega) (by omega)]
    by_cases hq : 8 ≤ i
    · have he : i = 8 := by omega
      subst he
      rw [if_pos hq]
      exact ⟨τ, c, rfl, hfr, h59, hS⟩
    · have hi8 : i < 8 := by omega
      have h14 := m_cn14 ho hi8
      have h51 : τ.1 51 = σ.1 51 := hfr.1 51 (by decide)
      obtain ⟨L, a1, a2, a3⟩ := r_findLive (hc.fr hfr (by decide)) ho hi8
      rw [h51, h59] at a2
      have hl0 := a2 0 (Nat.zero_le _)
      obtain ⟨s1, s2, s3, s4, s5⟩ := hS
      obtain ⟨b1, b2⟩ := m_IV_stA ho hi8 s1
      have hfr2 : m_fr [58, 59, 60] [] σ (cv_sA (cv_sR τ 60 L) 58 i (m_lv p (σ.1 51) (τ.1 58) i (R0 i) 0)) := hfr.trans ((m_fr.R (by decide)).trans (m_fr.A (by decide)))
      have h58' : (cv_sA (cv_sR τ 60 L) 58 i (m_lv p (σ.1 51) (τ.1 58) i (R0 i) 0)).1 58 = upd (τ.1 58) i (m_lv p (σ.1 51) (τ.1 58) i (R0 i) 0) := by rw [m_A_eq, m_R_ne (by decide)]
      have h60' : (cv_sA (cv_sR τ 60 L) 58 i (m_lv p (σ.1 51) (τ.1 58) i (R0 i) 0)).1 60 = L := by rw [m_A_ne (by decide), m_R_eq]
      have h59' : (cv_sA (cv_sR τ 60 L) 58 i (m_lv p (σ.1 51) (τ.1 58) i (R0 i) 0)).1 59 = R0 := by rw [m_A_ne (by decide), m_R_ne (by decide), h59]
      have hst : ∀ t : Int32, F_X9_findArguments_b76 k (F_X9_findArguments_b38 k n) (nI i) t (cv_sR τ 60 L) = F_X9_findArguments_b38 k n t (nI (i + 1)) (cv_sA (cv_sR τ 60 L) 58 i (m_lv p (σ.1 51) (τ.1 58) i (R0 i) 0)) := by
        intro t
        unfold F_X9_findArguments_b76
        rw [show (15 : Int32) = nI 15 from rfl, m_mul, m_ld (by omega) (by decide), m_R_eq, show L (15 * i) = _ from hl0, m_st hi8 (by decide), m_i1, m_add]
      have hnext : ∀ c2 : Bool, (c2 = true → m_ww A0 R0 < m_ww (upd (τ.1 58) i (m_lv p (σ.1 51) (τ.1 58) i (R0 i) 0)) R0) → (c2 = false → c = false ∧ m_lv p (σ.1 51) (τ.1 58) i (R0 i) 0 = τ.1 58 i) → m_R1 p (σ.1 51) (σ.1 55) A0 R0 (cv_sA (cv_sR τ 60 L) 58 i (m_lv p (σ.1 51) (τ.1 58) i (R0 i) 0)) (i + 1) c2 := by
        intro c2 hc1 hc2
        unfold m_R1
        rw [h58', h60']
        refine ⟨b1, fun f hf => m_sub_trans _ _ _ (s2 f hf) (b2 f hf), fun f hf x hx => ?_, hc1, fun hcf => ?_⟩
        · by_cases hfi : f = i
          · subst hfi
            rw [a2 x hx]
            exact ⟨m_lv_mono ho hi8 s2 (m_sub_refl _) x, m_lv_mono ho hi8 b2 (m_sub_refl _) x⟩
          · have h14f := m_cn14 ho (show f < 8 by omega)
            rw [a3 _ (by omega)]
            obtain ⟨u1, u2⟩ := s3 f (by omega) x hx
            exact ⟨u1, m_sub_trans _ _ _ u2 (m_lv_mono ho (by omega) b2 (m_sub_refl _) x)⟩
        · obtain ⟨e1, e2⟩ := hc2 hcf
          obtain ⟨t1, t2⟩ := s5 e1
          rw [e2, m_upd_self]
          refine ⟨t1, fun f hf => ?_⟩
          by_cases hfi : f = i
          · subst hfi
            rw [← m_lv_congr ho hi8 t1 0, e2]; exact t1 f hi8
          · exact t2 f (by omega)
      have hch : ¬ τ.1 58 i = m_lv p (σ.1 51) (τ.1 58) i (R0 i) 0 → m_ww A0 R0 < m_ww (upd (τ.1 58) i (m_lv p (σ.1 51) (τ.1 58) i (R0 i) 0)) R0 := fun hne =>
        Nat.lt_of_le_of_lt (m_ww_le s2 (fun _ _ => m_sub_refl _)) (m_ww_lt b2 (fun _ _ => m_sub_refl _) b1.1 (Or.inl ⟨i, hi8, by rw [m_u_eq]; exact fun z => hne z.symm⟩))
      unfold F_X9_findArguments_b71
      rw [if_neg hq, a1, m_bv, hst, hst, m_b0i, m_ld hi8 (by decide), m_R_ne (by decide), show (15 : Int32) = nI 15 from rfl, m_mul, m_ld (by omega) (by decide), m_R_eq, show L (15 * i) = _ from hl0]
      cases c with
      | false =>
        rw [if_pos rfl]
        by_cases hz : τ.1 58 i = m_lv p (σ.1 51) (τ.1 58) i (R0 i) 0
        · rw [if_pos hz]
          exact ih (i + 1) _ false (by omega) (by omega) hfr2 h59' (hnext false (fun z => by cases z) (fun _ => ⟨rfl, hz.symm⟩))
        · rw [if_neg hz]
          exact ih (i + 1) _ true (by omega) (by omega) hfr2 h59' (hnext true (fun _ => hch hz) (fun z => by cases z))
      | true =>
        rw [if_neg (by simp)]
        exact ih (i + 1) _ true (by omega) (by omega) hfr2 h59' (hnext true (fun _ => Nat.lt_of_lt_of_le (s4 rfl) (m_ww_le b2 (fun _ _ => m_sub_refl _))) (fun z => by cases z))
/-- what phase two needs of a new answer -/
theorem m_nw_up {K D A0 R0 A L : Nat → Int32} {g : Nat} {v : Int32} (hg : g < 8) (hP : m_PR p K D A0 R0) (hw : m_sw p K A0 R0 A L 8) (hv : m_nw p K D L g v) : m_sub (R0 g) v := m_sub_bt.mpr (fun b hb h => by
  obtain ⟨q, q1, q2, q3⟩ := hP g hg b hb h
  rw [m_tm_bt, q2] at q3
  refine (hv b hb).mpr ⟨q3.1, q, q1, q2, ?_⟩
  have := q3.2
  unfold m_lb at this
  rw [b_or, Bool.or_eq_true] at this ⊢
  rcases this with h | h
  · exact Or.inl (m_sub_bt.mp (hw q.1 q1.1 _ (m_nx_le _ _ _ _)).1 b hb h)
  · exact Or.inr (m_sub_bt.mp (hw q.1 q1.1 _ (m_nx_le _ _ _ _)).1 b hb h))
theorem m_nw_tm {K D A0 R0 A L : Nat → Int32} {g : Nat} {v : Int32} (hw : m_sw p K A0 R0 A L 8) (hv : m_nw p K D L g v) {b : Nat} (hb : b < 32) (h : bt v b = true) : ∃ q, m_isS p q ∧ m_fa p q.1 q.2 = g ∧ bt (m_tm p K D A q.1 (R0 q.1) q.2) b = true := by
  obtain ⟨h1, q, q1, q2, q3⟩ := (hv b hb).mp h
  refine ⟨q, q1, q2, m_tm_bt.mpr ⟨by rw [q2]; exact h1, ?_⟩⟩
  unfold m_lb
  rw [b_or, Bool.or_eq_true] at q3 ⊢
  rcases q3 with h | h
  · exact Or.inl (m_sub_bt.mp (hw q.1 q1.1 _ (m_nx_le _ _ _ _)).2 b hb h)
  · exact Or.inr (m_sub_bt.mp (hw q.1 q1.1 _ (m_nx_le _ _ _ _)).2 b hb h)
end A48
