/-! THE TEXT: the reference reads it -/
section A73
variable {c : Nat → Nat} {n x : Nat} {τ : cv_St}
def t_U (c : Nat → Nat) (n : Nat) (σ : cv_St) : Prop := n ≤ 60 ∧ σ.2.1 15 = nI n ∧ ∀ j, j < n → c j < 128 ∧ σ.1 45 j = nI (c j)
theorem t_U.fr {as ss : List Nat} {σ τ : cv_St} (h : t_U c n σ) (g : m_fr as ss σ τ) (h1 : 45 ∉ as) (h2 : 15 ∉ ss) : t_U c n τ := by
  unfold t_U
  rw [g.1 45 h1, g.2.1 15 h2]; exact h
def t_M (τ : cv_St) (acc : t_L) : Prop := τ.2.1 20 = nI acc.length ∧ ∀ j q, acc[j]? = some q → τ.1 46 j = nI q.1 ∧ τ.1 47 j = nI q.2.1 ∧ τ.1 48 j = nI q.2.2
theorem t_at128 (hU : t_U c n τ) : t_at c n x < 128 := by
  unfold t_at
  split
  · exact (hU.2.2 x (by assumption)).1
  · omega
theorem r_here (hU : t_U c n τ) (h18 : τ.2.1 18 = nI x) (hx : x < 1000) : F_X9_here τ = some (nI (t_at c n x), τ) := by
  have h60 := hU.1
  unfold F_X9_here
  rw [hU.2.1, h18, m_lei (by omega) (by omega)]
  by_cases h : n ≤ x
  · rw [if_pos h, t_at_ge h]; rfl
  · rw [if_neg h, m_ld (by omega) (by decide), (hU.2.2 x (by omega)).2, t_at_lt (by omega)]
theorem r_digit (hU : t_U c n τ) (h18 : τ.2.1 18 = nI x) (h19 : τ.2.1 19 = 0) (hx : x < 1000) {lo hi : Nat} (hlo : lo < 10) (hhi : hi < 10) : F_X9_digit (nI lo) (nI hi) τ = if decide (48 + lo ≤ t_at c n x ∧ t_at c n x ≤ 48 + hi) = false then some (0, cv_sF τ 19 1) else some (nI (t_at c n x - 48), cv_sF τ 18 (nI (x + 1))) := by
  have h60 := hU.1
  have h128 := t_at128 (x := x) hU
  unfold F_X9_digit F_X9_digit_b28
  rw [h19, if_pos rfl, r_here hU h18 hx, m_bi, show (48 : Int32) = nI 48 from rfl, m_add, m_add, m_in, m_bi, m_b0i, m_puz1, m_pui, h18, show (1 : Int32) = nI 1 from rfl, m_add]
  have hd : (nI (48 + lo) ≤ nI (t_at c n x) ∧ nI (t_at c n x) ≤ nI (48 + hi)) ↔ (48 + lo ≤ t_at c n x ∧ t_at c n x ≤ 48 + hi) := by rw [m_le (by omega) (by omega), m_le (by omega) (by omega)]
  by_cases h : 48 + lo ≤ t_at c n x ∧ t_at c n x ≤ 48 + hi
  · have hxn : x < n := by
      apply Classical.byContradiction
      intro hn
      rw [t_at_ge (by omega)] at h
      omega
    rw [if_neg (by rw [decide_eq_true (hd.mpr h)]; simp), if_neg (by rw [decide_eq_true h]; simp), m_F_eq, pk_sub (by omega), Nat.add_sub_cancel, m_ld (by omega) (by decide), m_F_1, (hU.2.2 x hxn).2, t_at_lt hxn]
    rw [t_at_lt hxn] at h
    rw [pk_sub (by omega)]
  · rw [if_pos (decide_eq_false (fun z => h (hd.mp z))), if_pos (decide_eq_false h)]
theorem r_digit1 (h19 : τ.2.1 19 = 1) {l1 l2 : Int32} : F_X9_digit l1 l2 τ = some (0, cv_sF τ 19 1) := by
  unfold F_X9_digit F_X9_digit_b28
  rw [h19, if_neg (by decide), m_puz1]
/-- the state behind the first writes of an instruction -/
def t_s6 (τ : cv_St) (x m k : Nat) : cv_St := cv_sA (cv_sA (cv_sA (cv_sF τ 18 (nI (x + 1))) 46 m (nI k)) 47 m (nI 0)) 48 m (nI 0)
theorem t_s6_fr {m k : Nat} : m_fr [46, 47, 48] [18, 19, 20] τ (t_s6 τ x m k) := (((m_fr.F (by decide)).trans (m_fr.A (by decide))).trans (m_fr.A (by decide))).trans (m_fr.A (by decide))
theorem r_b70 {m k : Nat} (h18 : τ.2.1 18 = nI x) (h20 : τ.2.1 20 = nI m) (hm : m < 60) (hk : k < 128) (hd : t_dl k ≠ 3) : F_X9_readInstruction_b70 (nI k) 1 τ = if t_dl k = 0 then F_X9_readInstruction_b198 (nI k) (t_s6 τ x m k) else cv_bi (F_X9_digit (nI (t_lo k)) (nI (t_hi k)) (t_s6 τ x m k)) (fun v s => cv_st s 47 60 (nI m) v (fun s' => F_X9_readInstruction_b198 (nI k) s')) := by
  unfold F_X9_readInstruction_b70 F_X9_readInstruction_b133
  rw [if_neg (by decide), m_pui, h18, show (1 : Int32) = nI 1 from rfl, m_add, show (cv_sF τ 18 (nI (x + 1))).2.1 20 = nI m by rw [m_F_ne (by decide)]; exact h20, m_st (by omega) (by decide),
    show (cv_sA (cv_sF τ 18 (nI (x + 1))) 46 m (nI k)).2.1 20 = nI m by rw [m_A_2, m_F_ne (by decide)]; exact h20, m_st (by omega) (by decide),
    show (cv_sA (cv_sA (cv_sF τ 18 (nI (x + 1))) 46 m (nI k)) 47 m 0).2.1 20 = nI m by rw [m_A_2, m_A_2, m_F_ne (by decide)]; exact h20, m_st (by omega) (by decide),
    show (cv_sA (cv_sA (cv_sA (cv_sF τ 18 (nI (x + 1))) 46 m (nI k)) 47 m 0) 48 m 0) = t_s6 τ x m k from rfl,
    show (t_s6 τ x m k).2.1 20 = nI m by unfold t_s6; rw [m_A_2, m_A_2, m_A_2, m_F_ne (by decide)]; exact h20]
  rw [m_eqki (by omega) (by decide), m_eqki (by omega) (by decide), m_eqki (by omega) (by decide), m_eqki (by omega) (by decide)]
  unfold t_lo t_hi
  rcases t_dl_c k with ⟨hd, hk⟩ | ⟨hd, hk⟩ | ⟨hd, hk⟩ | ⟨hd', hk⟩
  · rw [if_neg (show ¬ k = 108 by omega), if_neg (show ¬ k = 115 by omega), if_neg (show ¬ k = 98 by omega), if_pos hk, if_pos hd]
  · rw [if_neg (show ¬ k = 108 by omega), if_neg (show ¬ k = 115 by omega), if_neg (show ¬ k = 98 by omega), if_neg (show ¬ k = 114 by omega), if_neg (show ¬ t_dl k = 0 by omega), if_neg (show ¬ k = 98 by omega), if_neg (show ¬ k = 98 by omega), if_neg (show ¬ (k = 108 ∨ k = 115) by omega)]
    rfl
  · rw [if_neg (show ¬ t_dl k = 0 by omega)]
    by_cases h108 : k = 108
    · rw [if_pos h108, if_neg (show ¬ k = 98 by omega), if_neg (show ¬ k = 98 by omega), if_pos (Or.inl h108)]
      rfl
    · rw [if_neg h108]
      by_cases h115 : k = 115
      · rw [if_pos h115, if_neg (show ¬ k = 98 by omega), if_neg (show ¬ k = 98 by omega), if_pos (Or.inr h115)]
        rfl
      · rw [if_neg h115]
        by_cases h98 : k = 98
        · rw [if_pos h98, if_pos h98, if_pos h98]
          rfl
        · rw [if_neg h98, if_neg h98, if_neg h98, if_neg (show ¬ k = 114 by omega), if_neg (show ¬ (k = 108 ∨ k = 115) by omega)]
          rfl
  · exact absurd hd' hd
theorem r_ri (hU : t_U c n τ) (h18 : τ.2.1 18 = nI x) (hx : x < 1000) : F_X9_readInstruction τ = F_X9_readInstruction_b70 (nI (t_at c n x)) (if t_dl (t_at c n x) = 3 then 0 else 1) τ := by
  have h128 := t_at128 (x := x) hU
  unfold F_X9_readInstruction F_X9_readInstruction_b65
  rw [r_here hU h18 hx, m_bi]
  generalize t_at c n x = k at h128 ⊢
  rw [m_eqki (by omega) (by decide), m_eqki (by omega) (by decide), m_eqki (by omega) (by decide), m_eqki (by omega) (by decide), m_eqki (by omega) (by decide), m_eqki (by omega) (by decide), m_eqki (by omega) (by decide), m_eqki (by omega) (by decide), m_eqki (by omega) (by decide), m_eqki (by omega) (by decide)]
  rcases t_dl_c k with ⟨hd, hk⟩ | ⟨hd, hk⟩ | ⟨hd, hk⟩ | ⟨hd, h1, h2, h3, h4, h5, h6, h7, h8, h9, h10⟩
  · rw [if_neg (show ¬ t_dl k = 3 by omega)]
    (repeat' split) <;> first | (exfalso; omega) | rfl
  · rw [if_neg (show ¬ t_dl k = 3 by omega)]
    (repeat' split) <;> first | (exfalso; omega) | rfl
  · rw [if_neg (show ¬ t_dl k = 3 by omega)]
    (repeat' split) <;> first | (exfalso; rcases hk with h | h | h | h | h | h | h | h <;> contradiction) | rfl
  · rw [if_neg h1, if_neg h2, if_neg h3, if_neg h4, if_neg h5, if_neg h6, if_neg h7, if_neg h8, if_neg h9, if_neg h10, if_pos hd]
theorem t_Ms {acc : t_L} (hM : t_M τ acc) {υ : cv_St} {k a b : Nat} (h20 : υ.2.1 20 = nI (acc.length + 1)) (hne : ∀ j, j ≠ acc.length → υ.1 46 j = τ.1 46 j ∧ υ.1 47 j = τ.1 47 j ∧ υ.1 48 j = τ.1 48 j) (heq : υ.1 46 acc.length = nI k ∧ υ.1 47 acc.length = nI a ∧ υ.1 48 acc.length = nI b) : t_M υ (acc ++ [(k, a, b)]) := by
  refine ⟨by rw [h20]; simp, fun j q hq => ?_⟩
  rcases t_snoc hq with ⟨g1, g2⟩ | ⟨g1, g2⟩
  · obtain ⟨e1, e2, e3⟩ := hne j (by omega)
    rw [e1, e2, e3]; exact hM.2 j q g2
  · rw [g1, g2]; exact heq
end A73
