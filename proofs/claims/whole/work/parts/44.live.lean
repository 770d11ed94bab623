/-! LIVE: what is live before a node -/
def m_cb (K : Nat → Int32) (g : Nat) : Int32 := 255 &&& (K g ^^^ (-1))
def m_rd (p : m_P) (A : Nat → Int32) (f i : Nat) : Int32 := if m_kd p f i = 99 then A (m_fa p f i) else if m_kd p f i = 117 then m_bit (m_fa p f i) else if m_kd p f i = 109 then m_bit (m_sb p f i) else 0
def m_wt (p : m_P) (K : Nat → Int32) (f i : Nat) : Int32 := if m_kd p f i = 99 then m_cb K (m_fa p f i) else m_wr p f i
def m_lw (p : m_P) (K A : Nat → Int32) (f : Nat) (r : Int32) : Nat → Nat → Int32
  | 0, _ => r
  | n + 1, x => if m_cn p f ≤ x then r else m_rd p A f x ||| ((m_lw p K A f r n (m_nx p f x 0) ||| m_lw p K A f r n (m_nx p f x 1)) &&& (m_wt p K f x ^^^ (-1)))
def m_lv (p : m_P) (K A : Nat → Int32) (f : Nat) (r : Int32) (x : Nat) : Int32 := m_lw p K A f r 15 x
def m_lb (p : m_P) (K A : Nat → Int32) (f : Nat) (r : Int32) (x : Nat) : Int32 := m_lv p K A f r (m_nx p f x 0) ||| m_lv p K A f r (m_nx p f x 1)
section A44
variable {p : m_P} {K A A' : Nat → Int32} {f i : Nat} {r r' : Int32}
theorem m_lw_st : ∀ n m x, m_cn p f - x ≤ n → m_cn p f - x ≤ m → m_lw p K A f r n x = m_lw p K A f r m x := by
  intro n
  induction n with
  | zero =>
    intro m x h _
    cases m with
    | zero => rfl
    | succ m => exact (if_pos (show m_cn p f ≤ x by omega)).symm
  | succ n ih =>
    intro m x h g
    by_cases hx : m_cn p f ≤ x
    · cases m with
      | zero => exact if_pos hx
      | succ m => exact (if_pos hx).trans (if_pos hx).symm
    · cases m with
      | zero => omega
      | succ m =>
        have g0 := m_nx_gt (p := p) (f := f) (i := x) (by omega) 0
        have g1 := m_nx_gt (p := p) (f := f) (i := x) (by omega) 1
        show (if _ then _ else _) = (if _ then _ else _)
        rw [if_neg hx, if_neg hx, ih m (m_nx p f x 0) (by omega) (by omega), ih m (m_nx p f x 1) (by omega) (by omega)]
theorem m_lv_end : m_lv p K A f r (m_cn p f) = r := if_pos (Nat.le_refl _)
theorem m_lv_at (ho : m_ok p) (hf : f < 8) (hi : i < m_cn p f) : m_lv p K A f r i = m_rd p A f i ||| (m_lb p K A f r i &&& (m_wt p K f i ^^^ (-1))) := by
  have h14 := m_cn14 ho hf
  have g0 := m_nx_gt (p := p) (f := f) (i := i) hi 0
  have g1 := m_nx_gt (p := p) (f := f) (i := i) hi 1
  show (if _ then _ else _) = _
  rw [if_neg (show ¬ m_cn p f ≤ i by omega)]
  unfold m_lb m_lv
  rw [m_lw_st 14 15 (m_nx p f i 0) (by omega) (by omega), m_lw_st 14 15 (m_nx p f i 1) (by omega) (by omega)]
theorem m_rd_mono (ho : m_ok p) (hf : f < 8) (hi : i < m_cn p f) (h : ∀ g, g < 8 → m_sub (A g) (A' g)) : m_sub (m_rd p A f i) (m_rd p A' f i) := by
  unfold m_rd
  by_cases h1 : m_kd p f i = 99
  · rw [if_pos h1, if_pos h1]; exact h _ (m_fa8 ho hf hi (by omega))
  · rw [if_neg h1, if_neg h1]; exact m_sub_refl _
theorem m_rd_dom (ho : m_ok p) (hf : f < 8) (hi : i < m_cn p f) (h : ∀ g, g < 8 → m_sub (A g) 255) : m_sub (m_rd p A f i) 255 := by
  have hv := m_val_k (m_vl ho hf hi)
  unfold m_rd
  by_cases h1 : m_kd p f i = 99
  · rw [if_pos h1]; exact h _ (m_fa8 ho hf hi (by omega))
  · rw [if_neg h1]
    by_cases h2 : m_kd p f i = 117
    · rw [if_pos h2]; exact m_sub_bit8 (m_fa8 ho hf hi (by omega))
    · rw [if_neg h2]
      by_cases h3 : m_kd p f i = 109
      · rw [if_pos h3]; exact m_sub_bit8 (by omega)
      · rw [if_neg h3]; exact m_sub_0
theorem m_sub_andl {x y M : Int32} (h : m_sub x M) : m_sub (x &&& y) M := m_sub_bt.mpr (fun i hi hb => by
  rw [b_and, Bool.and_eq_true] at hb
  exact m_sub_bt.mp h i hi hb.1)
theorem m_lw_mono (ho : m_ok p) (hf : f < 8) (h : ∀ g, g < 8 → m_sub (A g) (A' g)) (hr : m_sub r r') : ∀ n x, m_sub (m_lw p K A f r n x) (m_lw p K A' f r' n x) := by
  intro n
  induction n with
  | zero => intro x; exact hr
  | succ n ih =>
    intro x
    show m_sub (if _ then _ else _) (if _ then _ else _)
    by_cases hx : m_cn p f ≤ x
    · rw [if_pos hx, if_pos hx]; exact hr
    · rw [if_neg hx, if_neg hx]
      exact m_sub_or2 (m_rd_mono ho hf (by omega) h) (m_sub_and2 (m_sub_or2 (ih _) (ih _)) (m_sub_refl _))
theorem m_lv_mono (ho : m_ok p) (hf : f < 8) (h : ∀ g, g < 8 → m_sub (A g) (A' g)) (hr : m_sub r r') (x : Nat) : m_sub (m_lv p K A f r x) (m_lv p K A' f r' x) := m_lw_mono ho hf h hr 15 x
theorem m_lb_mono (ho : m_ok p) (hf : f < 8) (h : ∀ g, g < 8 → m_sub (A g) (A' g)) (hr : m_sub r r') (x : Nat) : m_sub (m_lb p K A f r x) (m_lb p K A' f r' x) := m_sub_or2 (m_lv_mono ho hf h hr _) (m_lv_mono ho hf h hr _)
theorem m_lw_dom (ho : m_ok p) (hf : f < 8) (h : ∀ g, g < 8 → m_sub (A g) 255) (hr : m_sub r 255) : ∀ n x, m_sub (m_lw p K A f r n x) 255 := by
  intro n
  induction n with
  | zero => intro x; exact hr
  | succ n ih =>
    intro x
    show m_sub (if _ then _ else _) 255
    by_cases hx : m_cn p f ≤ x
    · rw [if_pos hx]; exact hr
    · rw [if_neg hx]
      exact m_sub_or (m_rd_dom ho hf (by omega) h) (m_sub_andl (m_sub_or (ih _) (ih _)))
theorem m_lv_dom (ho : m_ok p) (hf : f < 8) (h : ∀ g, g < 8 → m_sub (A g) 255) (hr : m_sub r 255) (x : Nat) : m_sub (m_lv p K A f r x) 255 := m_lw_dom ho hf h hr 15 x
theorem m_cb_dom {g : Nat} : m_sub (m_cb K g) 255 := m_sub_bt.mpr (fun i hi hb => by
  unfold m_cb at hb
  rw [b_and, Bool.and_eq_true] at hb
  exact hb.1)
/-- what a call hands back is asked of its callee -/
def m_co (p : m_P) (K D A R : Nat → Int32) : Prop := (∀ f, f < 8 → m_sub (m_lv p K A f (R f) 0) (A f)) ∧ ∀ q, m_isS p q → m_sub ((m_lb p K A q.1 (R q.1) q.2 &&& m_cb K (m_fa p q.1 q.2)) &&& D (m_fa p q.1 q.2)) (R (m_fa p q.1 q.2))
/-- the least such pair -/
def m_LA (p : m_P) (K D A R : Nat → Int32) : Prop := (∀ f, f < 8 → m_sub (A f) 255 ∧ m_sub (R f) 255) ∧ m_co p K D A R ∧ ∀ A' R', m_co p K D A' R' → ∀ f, f < 8 → m_sub (A f) (A' f) ∧ m_sub (R f) (R' f)
theorem m_LA_uniq {D A R A' R' : Nat → Int32} (h : m_LA p K D A R) (g : m_LA p K D A' R') : ∀ f, f < 8 → A f = A' f ∧ R f = R' f := fun f hf =>
  ⟨m_sub_anti (h.2.2 A' R' g.2.1 f hf).1 (g.2.2 A R h.2.1 f hf).1, m_sub_anti (h.2.2 A' R' g.2.1 f hf).2 (g.2.2 A R h.2.1 f hf).2⟩
end A44
section B44
variable {p : m_P} {σ : cv_St} {f i : Nat}
theorem c_clob (hf : f < 8) : F_X7_clobbered (nI f) σ = some (m_cb (σ.1 23) f, σ) := by
  unfold F_X7_clobbered
  rw [m_ld hf (by decide)]; rfl
theorem r_clob (hf : f < 8) : F_X9_clobbered (nI f) σ = some (m_cb (σ.1 51) f, σ) := by
  unfold F_X9_clobbered
  rw [m_ld hf (by decide)]; rfl
theorem c_readAt (hc : m_cc 14 15 16 σ p) (ho : m_ok p) (hf : f < 8) (hi : i < m_cn p f) : F_X3_readAt (nI f) (nI i) σ = some (m_rd p (σ.1 30) f i, σ) := by
  have hv := m_val_k (m_vl ho hf hi)
  unfold F_X3_readAt m_rd
  rw [c_isCall hc ho hf hi, m_bi, m_b0i]
  by_cases h : m_kd p f i = 99
  · rw [if_neg (by simp [h]), if_pos h, c_numberAt hc ho hf hi, m_bi, m_num_c (by omega), m_ld (m_fa8 ho hf hi (by omega)) (by decide)]
  · rw [if_pos (by simp [h]), if_neg h]
    unfold F_X0_readBy
    rw [c_kindAt hc ho hf hi, m_bi, c_numberAt hc ho hf hi, m_bi, m_eqki (by omega) (by decide), m_eqki (by omega) (by decide)]
    by_cases h1 : m_kd p f i = 117
    · rw [if_pos h1, if_pos h1, m_num_c (by omega)]; rfl
    · rw [if_neg h1, if_neg h1]
      by_cases h3 : m_kd p f i = 109
      · rw [if_pos h3, if_pos h3, show m_num (m_kd p f i) (m_fa p f i) (m_sb p f i) = 10 * m_fa p f i + m_sb p f i by unfold m_num; rw [if_pos h3], m_mod10 (by omega) (by omega)]; rfl
      · rw [if_neg h3, if_neg h3]; rfl
theorem c_writtenAt (hc : m_cc 14 15 16 σ p) (ho : m_ok p) (hf : f < 8) (hi : i < m_cn p f) : F_X3_writtenAt (nI f) (nI i) σ = some (m_wt p (σ.1 23) f i, σ) := by
  unfold F_X3_writtenAt m_wt
  rw [c_isCall hc ho hf hi, m_bi, m_b0i]
  by_cases h : m_kd p f i = 99
  · rw [if_neg (by simp [h]), if_pos h, c_numberAt hc ho hf hi, m_bi, m_num_c (by omega), c_clob (m_fa8 ho hf hi (by omega)), m_bi]
  · rw [if_pos (by simp [h]), if_neg h, c_writtenBy hc ho hf hi, m_bi]
theorem r_reads (hc : m_mc 43 σ p) (ho : m_ok p) (hf : f < 8) (hi : i < m_cn p f) : F_X9_reads (nI f) (nI i) σ = some (m_rd p (σ.1 58) f i, σ) := by
  have hv := m_val_k (m_vl ho hf hi)
  unfold F_X9_reads m_rd
  rw [r_kind hc ho hf hi, m_bi, m_eqki (by omega) (by decide), m_eqki (by omega) (by decide), m_eqki (by omega) (by decide)]
  by_cases h1 : m_kd p f i = 117
  · rw [if_pos h1, if_neg (by omega), if_pos h1, r_first hc ho hf hi]; rfl
  · rw [if_neg h1]
    by_cases h2 : m_kd p f i = 109
    · rw [if_pos h2, if_neg (by omega), if_neg h1, if_pos h2, r_second hc ho hf hi]; rfl
    · rw [if_neg h2]
      by_cases h3 : m_kd p f i = 99
      · rw [if_pos h3, if_pos h3, r_first hc ho hf hi, m_bi, m_ld (m_fa8 ho hf hi (by omega)) (by decide)]
      · rw [if_neg h3, if_neg h3, if_neg h1, if_neg h2]
theorem r_writes (hc : m_mc 43 σ p) (ho : m_ok p) (hf : f < 8) (hi : i < m_cn p f) : F_X9_writes (nI f) (nI i) σ = some (m_wt p (σ.1 51) f i, σ) := by
  have hv := m_val_k (m_vl ho hf hi)
  unfold F_X9_writes F_X9_writes_b25 m_wt m_wr
  rw [r_kind hc ho hf hi, m_bi, m_eqki (by omega) (by decide), m_eqki (by omega) (by decide), m_eqki (by omega) (by decide), m_eqki (by omega) (by decide), r_first hc ho hf hi]
  by_cases h1 : m_kd p f i = 100
  · rw [if_pos h1, if_neg (by omega), if_pos (Or.inl h1)]; rfl
  · rw [if_neg h1]
    by_cases h2 : m_kd p f i = 109
    · rw [if_pos h2, if_neg (by omega), if_pos (Or.inr (Or.inl h2))]; rfl
    · rw [if_neg h2]
      by_cases h4 : m_kd p f i = 45
      · rw [if_pos h4, if_neg (by omega), if_pos (Or.inr (Or.inr h4))]; rfl
      · rw [if_neg h4]
        by_cases h3 : m_kd p f i = 99
        · rw [if_pos h3, if_pos h3, m_bi, r_clob (m_fa8 ho hf hi (by omega)), m_bi]
        · rw [if_neg h3, if_neg h3, if_neg (by omega)]
theorem r_liveBehind (hc : m_mc 43 σ p) (ho : m_ok p) (hf : f < 8) (hi : i < m_cn p f) : F_X9_liveBehind (nI f) (nI i) σ = some (σ.1 60 (15 * f + m_nx p f i 0) ||| σ.1 60 (15 * f + m_nx p f i 1), σ) := by
  have h14 := m_cn14 ho hf
  have l0 := m_nx_le p f i 0
  have l1 := m_nx_le p f i 1
  unfold F_X9_liveBehind
  rw [show (0 : Int32) = nI 0 from rfl, show (1 : Int32) = nI 1 from rfl, r_next hc ho hf hi (by omega), m_bi, m_i15, m_ld (by omega) (by decide), r_next hc ho hf hi (by omega), m_bi, m_i15, m_ld (by omega) (by decide)]
theorem c_behind (hc : m_cc 14 15 16 σ p) (ho : m_ok p) (hf : f < 8) (hi : i < m_cn p f) : F_X3_behind (nI f) (nI i) σ = some (σ.1 29 (f * 15 + m_nd p f (m_nx p f i 0)) ||| σ.1 29 (f * 15 + m_nd p f (m_nx p f i 1)), σ) := by
  have l0 := m_nd_lt ho hf (m_nx_le p f i 0)
  have l1 := m_nd_lt ho hf (m_nx_le p f i 1)
  unfold F_X3_behind F_X3_before
  rw [c_next hc ho hf hi, m_bi, m_j15, m_ld (by omega) (by decide), m_bi, c_other hc ho hf hi, m_bi, m_j15, m_ld (by omega) (by decide), m_bi]
end B44
