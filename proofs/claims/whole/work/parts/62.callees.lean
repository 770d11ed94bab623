section A62
variable {p : m_P} {σ τ : cv_St} {xs : Nat → Int32} {L i j f : Nat} {k : Int32 → cv_St → Option (Int32 × cv_St)}
theorem b_cal (ho : m_ok p) (hf : f < 8) : ∀ n, n ≤ m_cn p f → ∀ b, (bt (m_cal p f n) b = true ↔ ∃ x, x < n ∧ m_rh p f x = true ∧ m_kd p f x = 99 ∧ m_fa p f x = b) := by
  intro n
  induction n with
  | zero => intro _ b; exact ⟨fun z => (by rw [show m_cal p f 0 = 0 from rfl, b_0] at z; cases z), fun ⟨x, hx, _⟩ => (by omega)⟩
  | succ n ih =>
    intro hn b
    have ih := ih (by omega) b
    show bt (if m_rh p f n = true ∧ m_kd p f n = 99 then m_cal p f n ||| m_bit (m_fa p f n) else m_cal p f n) b = true ↔ _
    by_cases hc : m_rh p f n = true ∧ m_kd p f n = 99
    · have ha := m_fa8 ho hf (show n < m_cn p f by omega) (by omega)
      rw [if_pos hc, b_or, Bool.or_eq_true, ih, b_bit (by omega), decide_eq_true_iff]
      constructor
      · rintro (⟨x, h1, h2⟩ | h)
        · exact ⟨x, by omega, h2⟩
        · exact ⟨n, by omega, hc.1, hc.2, h.symm⟩
      · rintro ⟨x, h1, h2, h3, h4⟩
        by_cases hx : x = n
        · rw [hx] at h4; exact Or.inr h4.symm
        · exact Or.inl ⟨x, by omega, h2, h3, h4⟩
    · rw [if_neg hc, ih]
      constructor
      · rintro ⟨x, h1, h2⟩
        exact ⟨x, by omega, h2⟩
      · rintro ⟨x, h1, h2, h3, h4⟩
        have : x ≠ n := fun w => by rw [w] at h2 h3; exact hc ⟨h2, h3⟩
        exact ⟨x, by omega, h2, h3, h4⟩
theorem r_ce_loop (hc : m_mc 43 σ p) (ho : m_ok p) (hM : m_MA p σ) (hf : f < 8) : ∀ (n k : Nat) (v : Int32), (m_sF p 8).length - k < n → k ≤ (m_sF p 8).length → (∀ b, (bt v b = true ↔ ∃ j q, j < k ∧ (m_sF p 8)[j]? = some q ∧ q.1 = f ∧ m_fa p q.1 q.2 = b)) →
    ∃ V, F_X9_calleesOf_b4 n (nI f) v (nI k) σ = some (V, σ) ∧ ∀ b, (bt V b = true ↔ ∃ j q, j < (m_sF p 8).length ∧ (m_sF p 8)[j]? = some q ∧ q.1 = f ∧ m_fa p q.1 q.2 = b) := by
  have hlen := m_sF_len ho 8 (Nat.le_refl _)
  intro n
  induction n with
  | zero => intro k v h; omega
  | succ n ih =>
    intro k v hn hk hv
    show ∃ V, B_X9_calleesOf_b4 (F_X9_calleesOf_b4 n) (nI f) v (nI k) σ = _ ∧ _
    unfold B_X9_calleesOf_b4 F_X9_calleesOf_b34
    rw [hM.2.2.1.1, m_lei (by omega) (by omega)]
    by_cases hq : (m_sF p 8).length ≤ k
    · rw [if_pos hq]
      refine ⟨v, rfl, ?_⟩
      rw [show (m_sF p 8).length = k by omega]; exact hv
    · obtain ⟨q, hkq, hs⟩ := m_site (p := p) (j := k) (by omega)
      have ha := m_fq ho hs
      have hq1 := hs.1
      rw [if_neg hq, m_ld (by omega) (by decide), (hM.2.2.1.2 k q hkq).1, m_eqi (by omega) (by omega), r_vC hc ho hM hkq hs, m_bi, m_i1, m_add, b_or0, show ((1 : Int32) <<< (nI (m_fa p q.1 q.2) &&& 31)) = m_bit (m_fa p q.1 q.2) from rfl]
      by_cases hfa : q.1 = f
      · rw [if_pos hfa]
        refine ih (k + 1) _ (by omega) (by omega) (fun b => ?_)
        rw [b_or, Bool.or_eq_true, hv b, b_bit (by omega), decide_eq_true_iff]
        constructor
        · rintro (⟨j, q', j1, j2, j3, j4⟩ | h)
          · exact ⟨j, q', by omega, j2, j3, j4⟩
          · exact ⟨k, q, by omega, hkq, hfa, h.symm⟩
        · rintro ⟨j, q', j1, j2, j3, j4⟩
          by_cases hjk : j = k
          · rw [hjk, hkq] at j2; cases j2; exact Or.inr j4.symm
          · exact Or.inl ⟨j, q', by omega, j2, j3, j4⟩
      · rw [if_neg hfa]
        refine ih (k + 1) _ (by omega) (by omega) (fun b => ?_)
        rw [hv b]
        constructor
        · rintro ⟨j, q', j1, j2, j3, j4⟩
          exact ⟨j, q', by omega, j2, j3, j4⟩
        · rintro ⟨j, q', j1, j2, j3, j4⟩
          by_cases hjk : j = k
          · rw [hjk, hkq] at j2; cases j2; exact absurd j3 hfa
          · exact ⟨j, q', by omega, j2, j3, j4⟩
theorem r_calleesOf (hc : m_mc 43 σ p) (ho : m_ok p) (hM : m_MA p σ) (hf : f < 8) : F_X9_calleesOf (nI f) σ = some (m_cal p f (m_cn p f), σ) := by
  have hlen := m_sF_len ho 8 (Nat.le_refl _)
  obtain ⟨V, h1, h2⟩ := r_ce_loop hc ho hM hf 1000 0 0 (by omega) (by omega) (fun b => ⟨fun z => (by rw [b_0] at z; cases z), fun ⟨j, q, j1, _⟩ => (by omega)⟩)
  have h1 : F_X9_calleesOf (nI f) σ = some (V, σ) := h1
  have e : V = m_cal p f (m_cn p f) := b_ext (fun b _ => by
    have hiff : bt V b = true ↔ bt (m_cal p f (m_cn p f)) b = true := by
      rw [h2 b, b_cal ho hf _ (Nat.le_refl _) b]
      constructor
      · rintro ⟨j, q, j1, j2, j3, j4⟩
        obtain ⟨q1, q2, q3, q4⟩ := (m_sF_mem 8).mp (List.mem_of_getElem? j2)
        rw [j3] at q2 q3 q4 j4
        exact ⟨q.2, q2, q3, q4, j4⟩
      · rintro ⟨x, x1, x2, x3, x4⟩
        obtain ⟨j, hj⟩ := List.getElem?_of_mem ((m_sF_mem (p := p) (q := (f, x)) 8).mpr ⟨hf, x1, x2, x3⟩)
        exact ⟨j, (f, x), (m_jl ho hj).2, hj, rfl, x4⟩
    cases h3 : bt V b <;> cases h4 : bt (m_cal p f (m_cn p f)) b
    · rfl
    · rw [h3, h4] at hiff; exact hiff.mpr rfl
    · rw [h3, h4] at hiff; exact (hiff.mp rfl).symm
    · rfl)
  rw [h1, e]
end A62
