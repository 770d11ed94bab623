def m_nw (p : m_P) (K D : Nat → Int32) (L : Nat → Int32) (g : Nat) (v : Int32) : Prop := ∀ b, b < 32 → (bt v b = true ↔ (bt (m_cb K g) b = true ∧ bt (D g) b = true) ∧ ∃ q, m_isS p q ∧ m_fa p q.1 q.2 = g ∧ bt (L (15 * q.1 + m_nx p q.1 q.2 0) ||| L (15 * q.1 + m_nx p q.1 q.2 1)) b = true)
def m_PR (p : m_P) (K D A R : Nat → Int32) : Prop := ∀ g, g < 8 → ∀ b, b < 32 → bt (R g) b = true → ∃ q, m_isS p q ∧ m_fa p q.1 q.2 = g ∧ bt (m_tm p K D A q.1 (R q.1) q.2) b = true
theorem m_tm_bt {p : m_P} {K D A : Nat → Int32} {f x b : Nat} {r : Int32} : bt (m_tm p K D A f r x) b = true ↔ (bt (m_cb K (m_fa p f x)) b = true ∧ bt (D (m_fa p f x)) b = true) ∧ bt (m_lb p K A f r x) b = true := by
  unfold m_tm
  rw [b_and, b_and, Bool.and_eq_true, Bool.and_eq_true]
  exact ⟨fun h => ⟨⟨h.1.2, h.2⟩, h.1.1⟩, fun h => ⟨⟨h.2, h.1.1⟩, h.1.2⟩⟩
section A47
variable {p : m_P} {σ τ : cv_St} {f i : Nat}
theorem r_fl_loop (hc : m_mc 43 σ p) (ho : m_ok p) (hf : f < 8) {r : Int32} : ∀ (n i : Nat) (g : Nat → Int32), i < n → i ≤ m_cn p f → (∀ x, i ≤ x → x ≤ m_cn p f → g (15 * f + x) = m_lv p (σ.1 51) (σ.1 58) f r x) →
    ∃ g', F_X9_findLive_b31 n (nI f) (m_pd i) (cv_sR σ 60 g) = some (cv_sR σ 60 g') ∧ (∀ x, x ≤ m_cn p f → g' (15 * f + x) = m_lv p (σ.1 51) (σ.1 58) f r x) ∧ ∀ j, (j < 15 * f ∨ 15 * f + 15 ≤ j) → g' j = g j := by
  have h14 := m_cn14 ho hf
  intro n
  induction n with
  | zero => intro i g h; omega
  | succ n ih =>
    intro i g hn hi hg
    have hc' : m_mc 43 (cv_sR σ 60 g) p := hc.fr (m_fr.R (as := [60]) (ss := []) (by decide)) (by decide)
    show ∃ g', B_X9_findLive_b31 (F_X9_findLive_b31 n) (nI f) (m_pd i) (cv_sR σ 60 g) = _ ∧ _
    unfold B_X9_findLive_b31
    cases i with
    | zero =>
      rw [if_pos (show m_pd 0 < 0 from by decide)]
      exact ⟨g, rfl, fun x hx => hg x (by omega) hx, fun _ _ => rfl⟩
    | succ j =>
      have hj : j < m_cn p f := by omega
      have g0 := m_nx_gt (p := p) (f := f) (i := j) hj 0
      have g1 := m_nx_gt (p := p) (f := f) (i := j) hj 1
      rw [m_pd_s, if_neg (nI_pos (by omega)), r_reads hc' ho hf hj, m_bi, r_liveBehind hc' ho hf hj, m_bi, r_writes hc' ho hf hj, m_bi, m_R_eq, m_R_ne (by decide), m_R_ne (by decide), hg _ (by omega) (m_nx_le p f j 0), hg _ (by omega) (m_nx_le p f j 1), show (m_lv p (σ.1 51) (σ.1 58) f r (m_nx p f j 0) ||| m_lv p (σ.1 51) (σ.1 58) f r (m_nx p f j 1)) = m_lb p (σ.1 51) (σ.1 58) f r j from rfl, ← m_lv_at ho hf hj, m_i15, m_st (by omega) (by decide), m_AR, m_pd_n]
      obtain ⟨g', k1, k2, k3⟩ := ih j (upd g (15 * f + j) (m_lv p (σ.1 51) (σ.1 58) f r j)) (by omega) (by omega) (fun x hx1 hx2 => by
        by_cases hxj : x = j
        · rw [hxj, m_u_eq]
        · rw [m_u_ne (by omega)]; exact hg x (by omega) hx2)
      exact ⟨g', k1, k2, fun y hy => (k3 y hy).trans (m_u_ne (by omega))⟩
theorem r_findLive (hc : m_mc 43 σ p) (ho : m_ok p) (hf : f < 8) : ∃ g', F_X9_findLive (nI f) σ = some (cv_sR σ 60 g') ∧ (∀ x, x ≤ m_cn p f → g' (15 * f + x) = m_lv p (σ.1 51) (σ.1 58) f (σ.1 59 f) x) ∧ ∀ j, (j < 15 * f ∨ 15 * f + 15 ≤ j) → g' j = σ.1 60 j := by
  have h14 := m_cn14 ho hf
  unfold F_X9_findLive
  rw [m_ld (by omega) (by decide), r_cnt hc hf, m_ld hf (by decide), m_i15, m_st (by omega) (by decide), m_A0, m_ld (by omega) (by decide), m_R_ne (by decide), r_cnt hc hf]
  obtain ⟨g', k1, k2, k3⟩ := r_fl_loop hc ho hf (r := σ.1 59 f) 1000 (m_cn p f) (upd (σ.1 60) (15 * f + m_cn p f) (σ.1 59 f)) (by omega) (by omega) (fun x hx1 hx2 => by rw [show x = m_cn p f by omega, m_u_eq, m_lv_end])
  exact ⟨g', k1, k2, fun j hj => (k3 j hj).trans (m_u_ne (by omega))⟩
theorem r_lc_loop (hc : m_mc 43 σ p) (ho : m_ok p) (hS : m_MS σ (m_sF p 8)) {g : Nat} (hg : g < 8) : ∀ (n k : Nat) (v : Int32), (m_sF p 8).length - k < n → k ≤ (m_sF p 8).length → (∀ b, b < 32 → (bt v b = true ↔ ∃ j q, j < k ∧ (m_sF p 8)[j]? = some q ∧ m_fa p q.1 q.2 = g ∧ bt (σ.1 60 (15 * q.1 + m_nx p q.1 q.2 0) ||| σ.1 60 (15 * q.1 + m_nx p q.1 q.2 1)) b = true)) →
    ∃ V, F_X9_liveBehindCalls_b4 n (nI g) v (nI k) σ = some (V, σ) ∧ ∀ b, b < 32 → (bt V b = true ↔ ∃ j q, j < (m_sF p 8).length ∧ (m_sF p 8)[j]? = some q ∧ m_fa p q.1 q.2 = g ∧ bt (σ.1 60 (15 * q.1 + m_nx p q.1 q.2 0) ||| σ.1 60 (15 * q.1 + m_nx p q.1 q.2 1)) b = true) := by
  have hlen := m_sF_len ho 8 (Nat.le_refl _)
  intro n
  induction n with
  | zero => intro k v h; omega
  | succ n ih =>
    intro k v hn hk hv
    show ∃ V, B_X9_liveBehindCalls_b4 (F_X9_liveBehindCalls_b4 n) (nI g) v (nI k) σ = _ ∧ _
    unfold B_X9_liveBehindCalls_b4
    rw [hS.1, m_lei (by omega) (by omega)]
    by_cases hq : (m_sF p 8).length ≤ k
    · rw [if_pos hq]
      refine ⟨v, rfl, ?_⟩
      rw [show (m_sF p 8).length = k by omega]; exact hv
    · have hlt : k < (m_sF p 8).length := by omega
      have hkq : (m_sF p 8)[k]? = some (m_sF p 8)[k] := List.getElem?_eq_getElem hlt
      generalize hqq : (m_sF p 8)[k] = q at hkq
      have hmem : q ∈ m_sF p 8 := by rw [← hqq]; exact List.getElem_mem hlt
      obtain ⟨e1, e2, e3, e4⟩ := (m_sF_mem 8).mp hmem
      have ha := m_fa8 ho e1 e2 (by omega)
      obtain ⟨s1, s2⟩ := hS.2 k q hkq
      unfold F_X9_calleeOf
      rw [if_neg hq, m_ld (by omega) (by decide), m_ld (by omega) (by decide), s1, s2, r_first hc ho e1 e2, m_bi, m_bi, m_eqi (by omega) (by omega), m_ld (by omega) (by decide), m_ld (by omega) (by decide), s1, s2, r_liveBehind hc ho e1 e2, m_bi]
      unfold F_X9_liveBehindCalls_b42
      rw [m_i1, m_add, b_or0]
      by_cases hfa : m_fa p q.1 q.2 = g
      · rw [if_pos hfa]
        refine ih (k + 1) _ (by omega) (by omega) (fun b hb => ?_)
        rw [b_or, Bool.or_eq_true, hv b hb]
        constructor
        · rintro (⟨j, q', j1, j2, j3, j4⟩ | h)
          · exact ⟨j, q', by omega, j2, j3, j4⟩
          · exact ⟨k, q, by omega, hkq, hfa, h⟩
        · rintro ⟨j, q', j1, j2, j3, j4⟩
          by_cases hjk : j = k
          · rw [hjk, hkq] at j2; cases j2; exact Or.inr j4
          · exact Or.inl ⟨j, q', by omega, j2, j3, j4⟩
      · rw [if_neg hfa]
        refine ih (k + 1) _ (by omega) (by omega) (fun b hb => ?_)
        rw [hv b hb]
        constructor
        · rintro ⟨j, q', j1, j2, j3, j4⟩
          exact ⟨j, q', by omega, j2, j3, j4⟩
        · rintro ⟨j, q', j1, j2, j3, j4⟩
          by_cases hjk : j = k
          · rw [hjk, hkq] at j2; cases j2; exact absurd j3 hfa
          · exact ⟨j, q', by omega, j2, j3, j4⟩
theorem r_calls (hc : m_mc 43 σ p) (ho : m_ok p) (hS : m_MS σ (m_sF p 8)) {g : Nat} (hg : g < 8) (K D : Nat → Int32) : ∃ V, F_X9_liveBehindCalls (nI g) σ = some (V, σ) ∧ m_nw p K D (σ.1 60) g ((m_cb K g &&& D g) &&& V) := by
  have hlen := m_sF_len ho 8 (Nat.le_refl _)
  obtain ⟨V, h1, h2⟩ := r_lc_loop hc ho hS hg 1000 0 0 (by omega) (by omega) (fun b hb => ⟨fun z => (by rw [b_0] at z; cases z), fun ⟨j, q, j1, _⟩ => (by omega)⟩)
  refine ⟨V, h1, fun b hb => ?_⟩
  rw [b_and, b_and, Bool.and_eq_true, Bool.and_eq_true, h2 b hb]
  constructor
  · rintro ⟨h, j, q, j1, j2, j3, j4⟩
    exact ⟨h, q, (m_sF_mem 8).mp (List.mem_of_getElem? j2), j3, j4⟩
  · rintro ⟨h, q, j2, j3, j4⟩
    obtain ⟨j, hj⟩ := List.getElem?_of_mem ((m_sF_mem 8).mpr j2)
    have hjl : j < (m_sF p 8).length := by
      apply Classical.byContradiction
      intro hn
      rw [List.getElem?_eq_none (by omega)] at hj
      cases hj
    exact ⟨h, j, q, hjl, hj, j3, j4⟩
end A47
