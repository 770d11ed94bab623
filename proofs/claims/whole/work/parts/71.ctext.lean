/-! THE TEXT: the class reads it -/
section A71
variable {c : Nat → Nat} {n x : Nat} {σ : cv_St}
def t_TT (c : Nat → Nat) (n : Nat) (σ : cv_St) : Prop := n ≤ 60 ∧ σ.2.1 3 = nI n ∧ ∀ j, j < n → c j < 128 ∧ σ.1 11 j = nI (c j)
theorem t_TT.fr {as ss : List Nat} {σ τ : cv_St} (h : t_TT c n σ) (g : m_fr as ss σ τ) (h1 : 11 ∉ as) (h2 : 3 ∉ ss) : t_TT c n τ := by
  unfold t_TT
  rw [g.1 11 h1, g.2.1 3 h2]; exact h
def t_C (σ : cv_St) (acc : t_L) : Prop := σ.2.1 4 = nI acc.length ∧ ∀ j q, j < 14 → acc[j]? = some q → σ.1 12 j = nI q.1 ∧ σ.1 13 j = nI (m_num q.1 q.2.1 q.2.2)
def t_v (o : Option Nat) : Int32 := match o with
  | none => -1
  | some y => nI y
theorem c_dl {k : Nat} (hk : k < 128) : F_X6_digitsBehind (nI k) σ = some (if t_dl k = 3 then -1 else nI (t_dl k), σ) := by
  unfold F_X6_digitsBehind F_X6_digitsBehind_b64 F_X6_digitsBehind_b69
  rw [m_eqki (by omega) (by decide), m_eqki (by omega) (by decide), m_eqki (by omega) (by decide), m_eqki (by omega) (by decide), m_eqki (by omega) (by decide), m_eqki (by omega) (by decide), m_eqki (by omega) (by decide), m_eqki (by omega) (by decide), m_eqki (by omega) (by decide), m_eqki (by omega) (by decide)]
  rcases t_dl_c k with ⟨hd, hk⟩ | ⟨hd, hk⟩ | ⟨hd, hk⟩ | ⟨hd, h1, h2, h3, h4, h5, h6, h7, h8, h9, h10⟩
  · subst hk; rfl
  · subst hk; rfl
  · rcases hk with hk | hk | hk | hk | hk | hk | hk | hk <;> (subst hk; rfl)
  · rw [if_neg h1, if_neg h2, if_neg h3, if_neg h4, if_neg h5, if_neg h6, if_neg h7, if_neg h8, if_neg h9, if_neg h10, if_pos rfl, if_pos hd]
theorem m_rng {lo hi d : Nat} (h1 : lo < 1000) (h2 : hi < 1000) (hd : d < 128) : (if nI d < nI lo then cv_rz 0 σ else (if nI hi < nI d then cv_rz 0 σ else cv_rz 1 σ)) = some (m_b (decide (lo ≤ d ∧ d ≤ hi)), σ) := by
  rw [m_lti (by omega) (by omega), m_lti (by omega) (by omega)]
  by_cases g1 : d < lo
  · rw [if_pos g1, decide_eq_false (by omega)]; rfl
  · rw [if_neg g1]
    by_cases g2 : hi < d
    · rw [if_pos g2, decide_eq_false (by omega)]; rfl
    · rw [if_neg g2, decide_eq_true (by omega)]; rfl
theorem c_ft {k d : Nat} (hk : k < 128) (hd : d < 128) : F_X6_fits (nI k) (nI d) σ = some (m_b (t_ft k d), σ) := by
  unfold F_X6_fits F_X6_fits_b36 t_ft t_lo t_hi
  rw [m_eqki (by omega) (by decide), m_eqki (by omega) (by decide), m_eqki (by omega) (by decide)]
  have r1 := m_rng (σ := σ) (lo := 49) (hi := 57) (d := d) (by decide) (by decide) hd
  have r2 := m_rng (σ := σ) (lo := 48) (hi := 51) (d := d) (by decide) (by decide) hd
  have r3 := m_rng (σ := σ) (lo := 48) (hi := 55) (d := d) (by decide) (by decide) hd
  by_cases h98 : k = 98
  · rw [if_pos h98, if_pos h98, if_pos h98]; exact r1
  · rw [if_neg h98, if_neg h98, if_neg h98]
    by_cases h108 : k = 108
    · rw [if_pos h108, if_pos (Or.inl h108)]; exact r2
    · rw [if_neg h108]
      by_cases h115 : k = 115
      · rw [if_pos h115, if_pos (Or.inr h115)]; exact r2
      · rw [if_neg h115, if_neg (show ¬ (k = 108 ∨ k = 115) by omega)]; exact r3
theorem c_T1 (hT : t_TT c n σ) (hx : x < n) {m : Nat} {l2 l3 l4 : Int32} : F_X6_findFault_b13 (m + 1) 1 l2 l3 l4 (nI x) σ = if t_dl (c x) = 3 then some (nI x, σ) else F_X6_findFault_b13 m 0 (nI (c x)) (nI 0) (nI (t_dl (c x))) (nI (x + 1)) σ := by
  have h60 := hT.1
  show B_X6_findFault_b13 (F_X6_findFault_b13 m) _ _ _ _ _ _ = _
  unfold B_X6_findFault_b13 F_X6_findFault_b112
  rw [hT.2.1, m_lei (by omega) (by omega), if_neg (by omega), m_ld (by omega) (by decide), (hT.2.2 x hx).2, if_neg (by decide), c_dl (hT.2.2 x hx).1, m_bi, m_i1, m_add]
  by_cases h3 : t_dl (c x) = 3
  · rw [if_pos h3, if_pos h3, if_neg (by decide)]
  · have hle : t_dl (c x) < 3 := by rcases t_dl_c (c x) with h | h | h | h <;> omega
    rw [if_neg h3, if_neg h3, if_pos (nI_pos' (by omega))]
    rfl
theorem c_T2 (hT : t_TT c n σ) (hx : x < n) {m k q d : Nat} (hk : k < 128) (hd : d < 2) : F_X6_findFault_b13 (m + 1) 0 (nI k) (nI q) (nI (d + 1)) (nI x) σ = if t_ft k (c x) = false then some (nI x, σ) else F_X6_findFault_b13 m 0 (nI k) (nI (10 * q + (c x - 48))) (nI d) (nI (x + 1)) σ := by
  have h60 := hT.1
  show B_X6_findFault_b13 (F_X6_findFault_b13 m) _ _ _ _ _ _ = _
  unfold B_X6_findFault_b13 F_X6_findFault_b112
  rw [hT.2.1, m_lei (by omega) (by omega), if_neg (by omega), m_ld (by omega) (by decide), (hT.2.2 x hx).2, if_pos rfl, show (if (nI (d + 1) ≤ (0 : Int32)) then (if nI (c x) = 59 then cv_bv (F_X6_keep (nI k) (nI q) σ) (fun s3 => F_X6_findFault_b13 m 1 (nI k) (nI q) (nI (d + 1)) (nI x + Int32.ofInt 1) s3) else some (nI x, σ)) else _) = _ from if_neg (fun z => by rw [show (0 : Int32) = nI 0 from rfl, m_le (by omega) (by omega)] at z; omega), c_ft hk (hT.2.2 x hx).1, m_bi, m_b0i, m_i1, m_add]
  by_cases h3 : t_ft k (c x) = false
  · rw [if_pos h3, if_pos h3]
  · have h48 := t_ft_t h3
    rw [if_neg h3, if_neg h3, show (10 : Int32) = nI 10 from rfl, m_mul, show (48 : Int32) = nI 48 from rfl, pk_sub (by omega), m_add]
    rcases (show d = 0 ∨ d = 1 by omega) with e | e <;> (subst e; rfl)
theorem c_T3 (hT : t_TT c n σ) (hx : x < n) {m k q : Nat} : F_X6_findFault_b13 (m + 1) 0 (nI k) (nI q) (nI 0) (nI x) σ = if c x = 59 then cv_bv (F_X6_keep (nI k) (nI q) σ) (fun s => F_X6_findFault_b13 m 1 (nI k) (nI q) (nI 0) (nI (x + 1)) s) else some (nI x, σ) := by
  have h60 := hT.1
  have h128 := (hT.2.2 x hx).1
  show B_X6_findFault_b13 (F_X6_findFault_b13 m) _ _ _ _ _ _ = _
  unfold B_X6_findFault_b13 F_X6_findFault_b112
  rw [hT.2.1, m_lei (by omega) (by omega), if_neg (by omega), m_ld (by omega) (by decide), (hT.2.2 x hx).2, if_pos rfl, if_pos (by decide), m_eqki (by omega) (by decide), m_i1, m_add]
theorem c_T4 (hT : t_TT c n σ) (h0 : 0 < n) {m : Nat} {l1 l2 l3 l4 : Int32} (h : ¬ (l1 = 0 ∧ l4 ≤ 0)) : F_X6_findFault_b13 (m + 1) l1 l2 l3 l4 (nI n) σ = some (nI n, σ) := by
  have h60 := hT.1
  show B_X6_findFault_b13 (F_X6_findFault_b13 m) _ _ _ _ _ _ = _
  unfold B_X6_findFault_b13 F_X6_findFault_b136
  rw [hT.2.1, m_lei (by omega) (by omega), if_pos (Nat.le_refl _), m_eqki (by omega) (by decide), if_neg (show ¬ n = 0 by omega)]
  by_cases h1 : l1 = 0
  · rw [if_pos h1, if_neg (fun z => h ⟨h1, z⟩)]
  · rw [if_neg h1]
theorem c_T5 (hT : t_TT c n σ) (h0 : 0 < n) {m k q : Nat} : F_X6_findFault_b13 (m + 1) 0 (nI k) (nI q) (nI 0) (nI n) σ = cv_bv (F_X6_keep (nI k) (nI q) σ) (fun s => some (-1, s)) := by
  have h60 := hT.1
  show B_X6_findFault_b13 (F_X6_findFault_b13 m) _ _ _ _ _ _ = _
  unfold B_X6_findFault_b13 F_X6_findFault_b136
  rw [hT.2.1, m_lei (by omega) (by omega), if_pos (Nat.le_refl _), m_eqki (by omega) (by decide), if_neg (show ¬ n = 0 by omega), if_pos rfl, if_pos (by decide)]
theorem t_snoc {acc : t_L} {r : Nat × Nat × Nat} {j : Nat} {q : Nat × Nat × Nat} (h : (acc ++ [r])[j]? = some q) : (j < acc.length ∧ acc[j]? = some q) ∨ (j = acc.length ∧ q = r) := by
  rcases Nat.lt_trichotomy j acc.length with g | g | g
  · rw [List.getElem?_append_left g] at h; exact Or.inl ⟨g, h⟩
  · rw [List.getElem?_append_right (by omega), g, Nat.sub_self] at h
    exact Or.inr ⟨g, (Option.some.inj h).symm⟩
  · rw [List.getElem?_eq_none (by simp; omega)] at h; cases h
theorem c_keep {acc : t_L} (hC : t_C σ acc) (hl : acc.length < 100) {k a b : Nat} (hk : k < 128) : ∃ υ, F_X6_keep (nI k) (nI (m_num k a b)) σ = some υ ∧ m_fr [12, 13] [4] σ υ ∧ t_C υ (acc ++ [(k, a, b)]) := by
  have hlen : (acc ++ [(k, a, b)]).length = acc.length + 1 := by simp
  unfold F_X6_keep F_X6_keep_b29
  rw [hC.1, show (14 : Int32) = nI 14 from rfl, m_lei (by omega) (by omega)]
  by_cases h14 : 14 ≤ acc.length
  · rw [if_pos h14, m_pui, show (1 : Int32) = nI 1 from rfl, m_add]
    refine ⟨_, rfl, m_fr.F (by decide), ?_, fun j q hj hq => ?_⟩
    · rw [m_F_eq, hlen]
    · rcases t_snoc hq with ⟨g1, g2⟩ | ⟨g1, g2⟩
      · exact hC.2 j q hj g2
      · omega
  · rw [if_neg h14, m_narc (by omega), m_st (by omega) (by decide), show (cv_sA σ 12 acc.length (nI k)).2.1 4 = nI acc.length from hC.1, m_st (by omega) (by decide), m_pui, show (cv_sA (cv_sA σ 12 acc.length (nI k)) 13 acc.length (nI (m_num k a b))).2.1 4 = nI acc.length from hC.1, show (1 : Int32) = nI 1 from rfl, m_add]
    refine ⟨_, rfl, ((m_fr.A (by decide)).trans (m_fr.A (by decide))).trans (m_fr.F (by decide)), ?_, fun j q hj hq => ?_⟩
    · rw [m_F_eq, hlen]
    · rw [m_F_1, m_A_eq, m_A_ne (by decide), m_A_eq, m_A_ne (by decide)]
      rcases t_snoc hq with ⟨g1, g2⟩ | ⟨g1, g2⟩
      · rw [m_u_ne (by omega), m_u_ne (by omega)]; exact hC.2 j q hj g2
      · rw [g1, m_u_eq, m_u_eq, g2]; exact ⟨rfl, rfl⟩
end A71
