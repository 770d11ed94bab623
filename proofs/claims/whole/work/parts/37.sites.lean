/-! CALL SITES, passed and needed slots -/
def m_sI (p : m_P) (f : Nat) : Nat → List (Nat × Nat)
  | 0 => []
  | i + 1 => m_sI p f i ++ (if m_rh p f i = true ∧ m_kd p f i = 99 then [(f, i)] else [])
def m_sF (p : m_P) : Nat → List (Nat × Nat)
  | 0 => []
  | f + 1 => m_sF p f ++ m_sI p f (m_cn p f)
theorem m_sI_len {p : m_P} {f : Nat} : ∀ i, (m_sI p f i).length ≤ i := by
  intro i
  induction i with
  | zero => exact Nat.le_refl _
  | succ i ih =>
    show (m_sI p f i ++ _).length ≤ _
    rw [List.length_append]
    split
    · simp only [List.length_cons, List.length_nil]; omega
    · simp only [List.length_nil]; omega
theorem m_sF_len {p : m_P} (ho : m_ok p) : ∀ f, f ≤ 8 → (m_sF p f).length ≤ 14 * f := by
  intro f
  induction f with
  | zero => intro _; exact Nat.le_refl _
  | succ f ih =>
    intro hf
    show (m_sF p f ++ _).length ≤ _
    rw [List.length_append]
    have h1 := ih (by omega)
    have h2 := m_sI_len (p := p) (f := f) (m_cn p f)
    have h3 := m_cn14 ho (show f < 8 by omega)
    omega
/-- a member of the list is a reachable call -/
def m_isS (p : m_P) (q : Nat × Nat) : Prop := q.1 < 8 ∧ q.2 < m_cn p q.1 ∧ m_rh p q.1 q.2 = true ∧ m_kd p q.1 q.2 = 99
theorem m_sI_mem {p : m_P} {f : Nat} {q : Nat × Nat} : ∀ i, q ∈ m_sI p f i ↔ q.1 = f ∧ q.2 < i ∧ m_rh p f q.2 = true ∧ m_kd p f q.2 = 99 := by
  intro i
  induction i with
  | zero => exact ⟨fun h => (by cases h), fun h => absurd h.2.1 (by omega)⟩
  | succ i ih =>
    show q ∈ m_sI p f i ++ _ ↔ _
    rw [List.mem_append, ih]
    constructor
    · intro h
      rcases h with h | h
      · exact ⟨h.1, by omega, h.2.2⟩
      · by_cases hq : m_rh p f i = true ∧ m_kd p f i = 99
        · rw [if_pos hq, List.mem_singleton] at h
          subst h
          exact ⟨rfl, Nat.lt_succ_self _, hq⟩
        · rw [if_neg hq] at h; cases h
    · intro h
      by_cases hi : q.2 = i
      · refine Or.inr ?_
        rw [if_pos (by rw [← hi]; exact h.2.2), List.mem_singleton]
        exact Prod.ext h.1 hi
      · exact Or.inl ⟨h.1, by omega, h.2.2⟩
theorem m_sF_mem {p : m_P} {q : Nat × Nat} : ∀ f, q ∈ m_sF p f ↔ q.1 < f ∧ q.2 < m_cn p q.1 ∧ m_rh p q.1 q.2 = true ∧ m_kd p q.1 q.2 = 99 := by
  intro f
  induction f with
  | zero => exact ⟨fun h => (by cases h), fun h => absurd h.1 (by omega)⟩
  | succ f ih =>
    show q ∈ m_sF p f ++ _ ↔ _
    rw [List.mem_append, ih, m_sI_mem]
    constructor
    · intro h
      rcases h with h | h
      · exact ⟨by omega, h.2⟩
      · rw [h.1]; exact ⟨by omega, h.2⟩
    · intro h
      by_cases hi : q.1 = f
      · rw [← hi]; exact Or.inr ⟨rfl, h.2⟩
      · exact Or.inl ⟨by omega, h.2⟩
def m_pt (p : m_P) (f i : Nat) (v : Int32) : Int32 := if m_kd p f i = 99 then 0 else if m_kd p f i = 115 then v ||| m_bit (m_fa p f i) else v
def m_pa (p : m_P) (f i : Nat) : Int32 := m_df p f (m_pt p f) i i
theorem m_pt_sub {p : m_P} {f i : Nat} {v : Int32} (ho : m_ok p) (hf : f < 8) (hi : i < m_cn p f) (hv : m_sub v 15) : m_sub (m_pt p f i v) 15 := by
  unfold m_pt
  split
  · exact m_sub_0
  · split
    · have := m_vl ho hf hi
      unfold m_val at this
      exact m_sub_or hv (m_sub_bit4 (by omega))
    · exact hv
theorem m_pa_sub {p : m_P} {f i : Nat} (ho : m_ok p) (hf : f < 8) (hi : i < m_cn p f) (hr : m_rh p f i = true) : m_sub (m_pa p f i) 15 := m_df_at (fun _ _ hj hv => m_pt_sub ho hf hj hv) (by omega) hr
def m_ne (p : m_P) (f : Nat) : Nat → Nat
  | 0 => 0
  | i + 1 => if m_rh p f i = true ∧ m_kd p f i = 108 then max (m_ne p f i) (m_fa p f i + 1) else m_ne p f i
theorem m_ne_le {p : m_P} {f : Nat} (ho : m_ok p) (hf : f < 8) : ∀ i, i ≤ m_cn p f → m_ne p f i ≤ 4 := by
  intro i
  induction i with
  | zero => intro _; exact Nat.zero_le _
  | succ i ih =>
    intro hi
    show (if m_rh p f i = true ∧ m_kd p f i = 108 then max _ _ else _) ≤ 4
    have h1 := ih (by omega)
    split
    · have := m_vl ho hf (show i < m_cn p f by omega)
      unfold m_val at this
      omega
    · exact h1
/-- the class's sites -/
def m_CS (p : m_P) (σ : cv_St) (ls : List (Nat × Nat)) : Prop := σ.2.1 7 = nI ls.length ∧ ∀ k q, ls[k]? = some q → σ.1 32 k = nI q.1 ∧ σ.1 33 k = nI q.2 ∧ σ.1 34 k = nI (m_fa p q.1 q.2) ∧ σ.1 35 k = m_pa p q.1 q.2
/-- the reference's sites -/
def m_MS (σ : cv_St) (ls : List (Nat × Nat)) : Prop := σ.2.1 21 = nI ls.length ∧ ∀ k q, ls[k]? = some q → σ.1 61 k = nI q.1 ∧ σ.1 62 k = nI q.2
section A37
variable {p : m_P} {σ : cv_St} {f i : Nat}
theorem c_visit (hc : m_cc 14 15 16 σ p) (ho : m_ok p) (hf : f < 8) (hi : i < m_cn p f) (hr : m_rh p f i = true) {ls : List (Nat × Nat)} (hls : ls.length < 112) (hS : m_CS p σ ls) (hn : σ.1 36 f = nI (m_ne p f i)) (h37 : σ.1 37 i = m_pa p f i) :
    ∃ υ, F_X5_visit (nI f) (nI i) σ = some υ ∧ m_fr [32, 33, 34, 35, 36] [7] σ υ ∧ m_CS p υ (ls ++ (if m_rh p f i = true ∧ m_kd p f i = 99 then [(f, i)] else [])) ∧ υ.1 36 = upd (σ.1 36) f (nI (m_ne p f (i + 1))) := by
  have h14 := m_cn14 ho hf
  have hv := m_val_k (m_vl ho hf hi)
  have hne := m_ne_le ho hf i (by omega)
  unfold F_X5_visit
  rw [c_kindAt hc ho hf hi, m_bi, c_numberAt hc ho hf hi, m_bi, m_eqki (by omega) (by decide), m_eqki (by omega) (by decide)]
  by_cases h1 : m_kd p f i = 108
  · rw [if_pos h1, m_ld (by omega) (by decide), hn, m_num_c (by omega), show (1 : Int32) = nI 1 from rfl, m_add, m_lti (by omega) (by omega), m_st (by omega) (by decide)]
    refine ⟨_, rfl, m_fr.A (by decide), ?_, ?_⟩
    · rw [if_neg (show ¬ (m_rh p f i = true ∧ m_kd p f i = 99) by omega), List.append_nil]
      refine ⟨hS.1, fun k q hq => ?_⟩
      rw [m_A_ne (by decide), m_A_ne (by decide), m_A_ne (by decide), m_A_ne (by decide)]
      exact hS.2 k q hq
    · rw [m_A_eq]
      congr 1
      show _ = nI (if m_rh p f i = true ∧ m_kd p f i = 108 then max _ _ else _)
      rw [if_pos (show m_rh p f i = true ∧ m_kd p f i = 108 from ⟨hr, h1⟩)]
      by_cases h2 : m_ne p f i < m_fa p f i + 1
      · rw [if_pos h2, Nat.max_eq_right (by omega)]
      · rw [if_neg h2, Nat.max_eq_left (by omega)]
  · rw [if_neg h1]
    have hne1 : m_ne p f (i + 1) = m_ne p f i := by
      show (if m_rh p f i = true ∧ m_kd p f i = 108 then max _ _ else _) = _
      rw [if_neg (fun h => h1 h.2)]
    by_cases h2 : m_kd p f i = 99
    · rw [if_pos h2, hS.1, show (112 : Int32) = nI 112 from rfl, m_lei (by omega) (by omega), if_neg (by omega), m_st (by omega) (by decide)]
      simp only [m_A_2, hS.1]
      rw [m_st (by omega) (by decide)]
      simp only [m_A_2, hS.1]
      rw [m_st (by omega) (by decide), m_ld (by omega) (by decide)]
      simp only [m_A_2, hS.1]
      rw [m_st (by omega) (by decide), m_pui, m_num_c (by omega)]
      refine ⟨_, rfl, ?_, ?_, ?_⟩
      · exact (m_fr.A (by decide)).trans ((m_fr.A (by decide)).trans ((m_fr.A (by decide)).trans ((m_fr.A (by decide)).trans (m_fr.F (by decide)))))
      · rw [if_pos ⟨hr, h2⟩]
        refine ⟨?_, fun k q hq => ?_⟩
        · rw [m_F_eq]
          show σ.2.1 7 + 1 = _
          rw [hS.1, show (1 : Int32) = nI 1 from rfl, m_add, List.length_append]; rfl
        · simp only [m_F_1, m_A_eq, m_A_ne (show 32 ≠ 35 by decide), m_A_ne (show 32 ≠ 34 by decide), m_A_ne (show 32 ≠ 33 by decide), m_A_ne (show 33 ≠ 35 by decide), m_A_ne (show 33 ≠ 34 by decide), m_A_ne (show 33 ≠ 32 by decide), m_A_ne (show 34 ≠ 35 by decide), m_A_ne (show 34 ≠ 33 by decide), m_A_ne (show 34 ≠ 32 by decide), m_A_ne (show 35 ≠ 34 by decide), m_A_ne (show 35 ≠ 33 by decide), m_A_ne (show 35 ≠ 32 by decide), m_A_ne (show 37 ≠ 34 by decide), m_A_ne (show 37 ≠ 33 by decide), m_A_ne (show 37 ≠ 32 by decide)]
          by_cases hk : k < ls.length
          · rw [List.getElem?_append_left hk] at hq
            rw [m_u_ne (by omega), m_u_ne (by omega), m_u_ne (by omega), m_u_ne (by omega)]
            exact hS.2 k q hq
          · rw [List.getElem?_append_right (by omega)] at hq
            have hz : k - ls.length < 1 := (List.getElem?_eq_some_iff.mp hq).1
            have hk2 : k = ls.length := by omega
            subst hk2
            rw [Nat.sub_self] at hq
            cases hq
            rw [m_u_eq, m_u_eq, m_u_eq, m_u_eq]
            exact ⟨rfl, rfl, rfl, h37⟩
      · simp only [m_F_1, m_A_ne (show 36 ≠ 35 by decide), m_A_ne (show 36 ≠ 34 by decide), m_A_ne (show 36 ≠ 33 by decide), m_A_ne (show 36 ≠ 32 by decide)]
        rw [hne1, ← hn, m_upd_self]
    · rw [if_neg h2]
      refine ⟨σ, rfl, m_fr.rfl', ?_, ?_⟩
      · rw [if_neg (fun h => h2 h.2), List.append_nil]; exact hS
      · rw [hne1, ← hn, m_upd_self]
theorem c_storedBehind (hc : m_cc 14 15 16 σ p) (ho : m_ok p) (hf : f < 8) (hi : i < m_cn p f) {v : Int32} (h37 : σ.1 37 i = v &&& 15) (hv15 : m_sub v 15) : F_X5_storedBehind (nI f) (nI i) σ = some (m_pt p f i v &&& 15, σ) := by
  have h14 := m_cn14 ho hf
  have hv := m_val_k (m_vl ho hf hi)
  have hsub := m_pt_sub ho hf hi hv15
  have hv' : v &&& 15 = v := hv15
  have hs' : m_pt p f i v &&& 15 = m_pt p f i v := hsub
  rw [hs']
  unfold F_X5_storedBehind F_X5_storedBehind_b39
  rw [c_kindAt hc ho hf hi, m_bi, m_eqki (by omega) (by decide), m_eqki (by omega) (by decide)]
  unfold m_pt
  by_cases h1 : m_kd p f i = 99
  · rw [if_pos h1, if_pos h1]
  · rw [if_neg h1, if_neg h1]
    by_cases h2 : m_kd p f i = 115
    · rw [if_pos h2, if_pos h2, c_numberAt hc ho hf hi, m_bi, m_num_c (by omega), m_ld (by omega) (by decide), h37, hv']; rfl
    · rw [if_neg h2, if_neg h2, m_ld (by omega) (by decide), h37, hv', b_or0]
theorem c_col_loop (hc : m_cc 14 15 16 σ p) (ho : m_ok p) (hf : f < 8) (hF : m_CF p σ 8) {l0 : List (Nat × Nat)} (hl0 : l0.length ≤ 14 * f) : ∀ (n i : Nat) (τ : cv_St), m_cn p f - i < n → i ≤ m_cn p f → m_fr [32, 33, 34, 35, 36, 37] [7] σ τ → m_CS p τ (l0 ++ m_sI p f i) → τ.1 36 = upd (σ.1 36) f (nI (m_ne p f i)) → (∀ x, x ≤ m_cn p f → τ.1 37 (m_nd p f x) = m_df p f (m_pt p f) i x &&& 15) →
    ∃ υ, F_X5_collect_b25 n (nI f) (nI i) τ = some υ ∧ m_fr [32, 33, 34, 35, 36, 37] [7] σ υ ∧ m_CS p υ (l0 ++ m_sI p f (m_cn p f)) ∧ υ.1 36 = upd (σ.1 36) f (nI (m_ne p f (m_cn p f))) := by
  have h14 := m_cn14 ho hf
  intro n
  induction n with
  | zero => intro i τ h; omega
  | succ n ih =>
    intro i τ hn hi hfr hS h36 h37
    have hcτ := hc.fr hfr (by decide) (by decide) (by decide)
    have hFτ : m_CF p τ 8 := fun g hg => by rw [hfr.1 20 (by decide), hfr.1 21 (by decide)]; exact hF g hg
    show ∃ υ, B_X5_collect_b25 (F_X5_collect_b25 n) (nI f) (nI i) τ = _ ∧ _
    unfold B_X5_collect_b25
    rw [m_ld (by omega) (by decide), c_cnt hcτ hf, m_lei (by omega) (by omega)]
    by_cases hq : m_cn p f ≤ i
    · have he : i = m_cn p f := by omega
      subst he
      rw [if_pos hq]
      exact ⟨τ, rfl, hfr, hS, h36⟩
    · have hlt : i < m_cn p f := by omega
      rw [if_neg hq, c_reaches hFτ ho hf hlt, m_bi, m_b0i]
      by_cases hr : m_rh p f i = false
      · rw [if_pos hr]
        unfold F_X5_collect_b99
        rw [m_i1, m_add]
        refine ih (i + 1) τ (by omega) (by omega) hfr ?_ ?_ (fun x hx => ?_)
        · show m_CS p τ (l0 ++ (m_sI p f i ++ _))
          rw [if_neg (by rw [hr]; simp), List.append_nil]; exact hS
        · rw [h36]
          show _ = upd (σ.1 36) f (nI (if m_rh p f i = true ∧ m_kd p f i = 108 then _ else _))
          rw [if_neg (by rw [hr]; simp)]
        · rw [h37 x hx]
          show _ = (if m_rh p f i = true ∧ _ then _ else _) &&& 15
          rw [if_neg (by rw [hr]; simp)]
      · have hr' : m_rh p f i = true := by simpa using hr
        have hpa := m_pa_sub ho hf hlt hr'
        have h37i := h37 i (by omega)
        rw [m_nd_at hlt] at h37i
        have h37p : τ.1 37 i = m_pa p f i := by rw [h37i]; exact hpa
        obtain ⟨υ, v1, v2, v3, v4⟩ := c_visit hcτ ho hf hlt hr' (ls := l0 ++ m_sI p f i) (by rw [List.length_append]; have := m_sI_len (p := p) (f := f) i; omega) hS (by rw [h36, m_u_eq]) h37p
        have hfr1 : m_fr [32, 33, 34, 35, 36, 37] [7] τ υ := v2.mono (by decide) (by decide)
        have hcυ := hcτ.fr hfr1 (by decide) (by decide) (by decide)
        have hυ37 : υ.1 37 = τ.1 37 := v2.1 37 (by decide)
        have l0' := m_nd_lt ho hf (m_nx_le p f i 0)
        have l1' := m_nd_lt ho hf (m_nx_le p f i 1)
        have hfA : ∀ (j : Nat) (w : Int32), m_cc 14 15 16 (cv_sA υ 37 j w) p := fun j w => hcυ.fr (m_fr.A (as := [37]) (ss := []) (by decide)) (by decide) (by decide) (by decide)
        rw [if_neg hr, v1, m_bv, c_storedBehind hcυ ho hf hlt (by rw [hυ37]; exact h37i) hpa, m_bi, c_next hcυ ho hf hlt, m_bi, m_ld (by omega) (by decide), m_st (by omega) (by decide), c_other (hfA _ _) ho hf hlt, m_bi, m_ld (by omega) (by decide), m_A_eq, m_st (by omega) (by decide)]
        unfold F_X5_collect_b99
        rw [m_i1, m_add]
        refine ih (i + 1) _ (by omega) (by omega) (hfr.trans (hfr1.trans ((m_fr.A (by decide)).trans (m_fr.A (by decide))))) ?_ ?_ ?_
        · refine ⟨?_, fun k q hq => ?_⟩
          · show υ.2.1 7 = _
            rw [v3.1, List.append_assoc]; rfl
          · rw [m_A_ne (by decide), m_A_ne (by decide), m_A_ne (by decide), m_A_ne (by decide), m_A_ne (by decide), m_A_ne (by decide), m_A_ne (by decide), m_A_ne (by decide)]
            refine v3.2 k q ?_
            rw [List.append_assoc]; exact hq
        · rw [m_A_ne (by decide), m_A_ne (by decide), v4, h36]
          funext j
          by_cases hj : j = f
          · rw [hj, m_u_eq, m_u_eq]
          · rw [m_u_ne hj, m_u_ne hj, m_u_ne hj]
        · rw [m_A_eq, m_A_eq, hυ37]
          exact c_bring ho hf hr' h37 rfl
end A37
