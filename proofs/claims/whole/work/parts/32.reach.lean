def bt (x : Int32) (i : Nat) : Bool := x.toBitVec.getLsbD i
theorem b_ext {x y : Int32} (h : ∀ i, i < 32 → bt x i = bt y i) : x = y := Int32.toBitVec_inj.mp (BitVec.eq_of_getLsbD_eq (fun i hi => h i hi))
theorem b_or (x y : Int32) (i : Nat) : bt (x ||| y) i = (bt x i || bt y i) := by unfold bt; rw [Int32.toBitVec_or, BitVec.getLsbD_or]
theorem b_and (x y : Int32) (i : Nat) : bt (x &&& y) i = (bt x i && bt y i) := by unfold bt; rw [Int32.toBitVec_and, BitVec.getLsbD_and]
theorem b_xor (x y : Int32) (i : Nat) : bt (x ^^^ y) i = (bt x i ^^ bt y i) := by unfold bt; rw [Int32.toBitVec_xor, BitVec.getLsbD_xor]
theorem b_big {x : Int32} {i : Nat} (h : 32 ≤ i) : bt x i = false := BitVec.getLsbD_of_ge _ _ h
theorem b_255 (i : Nat) : bt 255 i = decide (i < 8) := by
  rcases Nat.lt_or_ge i 32 with h | h
  · exact (by decide +kernel : ∀ i, i < 32 → bt 255 i = decide (i < 8)) i h
  · rw [b_big h, decide_eq_false (by omega)]
theorem b_65535 (i : Nat) : bt 65535 i = decide (i < 16) := by
  rcases Nat.lt_or_ge i 32 with h | h
  · exact (by decide +kernel : ∀ i, i < 32 → bt 65535 i = decide (i < 16)) i h
  · rw [b_big h, decide_eq_false (by omega)]
theorem b_m1 : ∀ i, i < 32 → bt (-1) i = true := by decide +kernel
theorem b_0 (i : Nat) : bt 0 i = false := BitVec.getLsbD_zero
theorem s_l : ∀ n, n < 32 → ((nI n &&& 31).toBitVec.smod 32).toNat = n := by decide +kernel
theorem s_u : ∀ n, n < 32 → (((nI n).toUInt32 &&& Int32.toUInt32 31).toBitVec % 32).toNat = n := by decide +kernel
theorem b_shl (n : Nat) (hn : n < 32) (x : Int32) {i : Nat} (hi : i < 32) : bt (x <<< (nI n &&& 31)) i = (decide (n ≤ i) && bt x (i - n)) := by
  unfold bt
  rw [Int32.toBitVec_shiftLeft]
  show (x.toBitVec <<< ((nI n &&& 31).toBitVec.smod 32).toNat).getLsbD i = _
  rw [s_l n hn, BitVec.getLsbD_shiftLeft]
  rcases Nat.lt_or_ge i n with h | h
  · simp [h, Nat.not_le.mpr h]
  · simp [hi, h, Nat.not_lt.mpr h]
theorem b_ushr (n : Nat) (hn : n < 32) (x : Int32) (i : Nat) : bt ((x.toUInt32 >>> ((nI n).toUInt32 &&& Int32.toUInt32 31)).toInt32) i = bt x (n + i) := by
  show (x.toUInt32 >>> ((nI n).toUInt32 &&& Int32.toUInt32 31)).toBitVec.getLsbD i = x.toUInt32.toBitVec.getLsbD (n + i)
  rw [UInt32.toBitVec_shiftRight]
  show (x.toUInt32.toBitVec >>> (((nI n).toUInt32 &&& Int32.toUInt32 31).toBitVec % 32).toNat).getLsbD i = _
  rw [s_u n hn, BitVec.getLsbD_ushiftRight]
theorem b_sshr (n : Nat) (hn : n < 32) (x : Int32) {i : Nat} (hi : i < 32) : bt (x >>> (nI n &&& 31)) i = if n + i < 32 then bt x (n + i) else bt x 31 := by
  unfold bt
  rw [Int32.toBitVec_shiftRight]
  show (x.toBitVec.sshiftRight ((nI n &&& 31).toBitVec.smod 32).toNat).getLsbD i = _
  rw [s_l n hn, BitVec.getLsbD_sshiftRight, BitVec.msb_eq_getLsbD_last]
  simp [hi]
/-! one bit, and the test of a bit -/
def m_bit (j : Nat) : Int32 := (1 : Int32) <<< (nI j &&& 31)
theorem b_one (i : Nat) : bt 1 i = decide (i = 0) := by
  rcases Nat.lt_or_ge i 32 with h | h
  · exact (by decide +kernel : ∀ i, i < 32 → bt 1 i = decide (i = 0)) i h
  · rw [b_big h, decide_eq_false (by omega)]
theorem b_bit {j : Nat} (hj : j < 32) (i : Nat) : bt (m_bit j) i = decide (i = j) := by
  rcases Nat.lt_or_ge i 32 with h | h
  · unfold m_bit
    rw [b_shl j hj 1 h, b_one]
    by_cases h1 : i = j
    · subst h1; simp
    · by_cases h2 : j ≤ i
      · rw [decide_eq_true h2, decide_eq_false (show ¬ i - j = 0 by omega), decide_eq_false h1]; rfl
      · rw [decide_eq_false h2, decide_eq_false h1]; rfl
  · rw [b_big h, decide_eq_false (by omega)]
theorem b_tst {x : Int32} {j : Nat} (hj : j < 32) : ((x >>> (nI j &&& 31)) &&& 1) = m_b (bt x j) := by
  apply b_ext
  intro i hi
  rw [b_and, b_one, b_sshr j hj x hi]
  by_cases h0 : i = 0
  · subst h0
    rw [if_pos (by omega), Nat.add_zero]
    cases bt x j <;> decide
  · rw [decide_eq_false h0, Bool.and_false]
    cases bt x j
    · exact (b_0 i).symm
    · rw [show m_b true = 1 from rfl, b_one, decide_eq_false h0]
theorem c_contains {x : Int32} {j : Nat} (hj : j < 32) {σ : cv_St} : F_X8_contains x (nI j) σ = some (m_b (bt x j), σ) := by
  unfold F_X8_contains
  rw [b_tst hj, m_b0i]
  cases bt x j <;> rfl
theorem m_bmb {b : Bool} (h : b = true) : m_b b = 1 := by rw [h]; rfl
theorem m_bmf {b : Bool} (h : b = false) : m_b b = 0 := by rw [h]; rfl
theorem b_or0 (x : Int32) : x ||| 0 = x := b_ext (fun i _ => by rw [b_or, b_0, Bool.or_false])
/-! one array replaced -/
theorem m_A0 {σ : cv_St} {k j : Nat} {v : Int32} : cv_sA σ k j v = cv_sR σ k (upd (σ.1 k) j v) := rfl
theorem m_RR {σ : cv_St} {k : Nat} {f g : Nat → Int32} : cv_sR (cv_sR σ k f) k g = cv_sR σ k g := by
  unfold cv_sR
  congr 1
  funext j
  unfold va_up
  by_cases h : j = k <;> simp [h]
theorem m_AR {σ : cv_St} {k j : Nat} {g : Nat → Int32} {v : Int32} : cv_sA (cv_sR σ k g) k j v = cv_sR σ k (upd g j v) := by
  rw [m_A0, m_R_eq, m_RR]
theorem m_Rid {σ : cv_St} {k : Nat} : cv_sR σ k (σ.1 k) = σ := by
  unfold cv_sR
  congr 1
  funext j
  unfold va_up
  by_cases h : j = k <;> simp [h]
theorem m_cc.fr {p : m_P} {as ss : List Nat} {σ τ : cv_St} {c k n : Nat} (h : m_cc c k n σ p) (g : m_fr as ss σ τ) (h1 : c ∉ as) (h2 : k ∉ as) (h3 : n ∉ as) : m_cc c k n τ p := fun f hf => by
  rw [g.1 c h1, g.1 k h2, g.1 n h3]; exact h f hf
theorem m_mc.fr {p : m_P} {as ss : List Nat} {σ τ : cv_St} {a : Nat} (h : m_mc a σ p) (g : m_fr as ss σ τ) (h1 : a ∉ as) : m_mc a τ p := fun f hf => by
  rw [g.1 a h1]; exact h f hf
/-! WHAT CAN BE REACHED -/
def m_rs (p : m_P) (f : Nat) : Nat → Nat → Bool
  | 0, x => decide (x = 0)
  | i + 1, x => m_rs p f i x || (m_rs p f i i && (decide (x = m_nx p f i 0) || decide (x = m_nx p f i 1)))
def m_rh (p : m_P) (f x : Nat) : Bool := m_rs p f (m_cn p f) x
theorem m_rs_st {p : m_P} {f x : Nat} : ∀ {i : Nat}, x ≤ i → i ≤ m_cn p f → m_rs p f (m_cn p f) x = m_rs p f i x := by
  intro i hx hi
  obtain ⟨d, hd⟩ : ∃ d, m_cn p f = i + d := ⟨m_cn p f - i, by omega⟩
  have key : ∀ d, i + d ≤ m_cn p f → m_rs p f (i + d) x = m_rs p f i x := by
    intro d
    induction d with
    | zero => intro _; rfl
    | succ d ih =>
      intro h
      rw [← Nat.add_assoc]
      show (m_rs p f (i + d) x || (m_rs p f (i + d) (i + d) && (decide (x = m_nx p f (i + d) 0) || decide (x = m_nx p f (i + d) 1)))) = _
      have g0 := m_nx_gt (p := p) (f := f) (i := i + d) (by omega) 0
      have g1 := m_nx_gt (p := p) (f := f) (i := i + d) (by omega) 1
      rw [decide_eq_false (show ¬ x = m_nx p f (i + d) 0 by omega), decide_eq_false (show ¬ x = m_nx p f (i + d) 1 by omega), Bool.or_false, Bool.and_false, Bool.or_false]
      exact ih (by omega)
  rw [hd]
  exact key d (by omega)
theorem m_rh_at {p : m_P} {f i : Nat} (hi : i ≤ m_cn p f) : m_rh p f i = m_rs p f i i := m_rs_st (Nat.le_refl i) hi
theorem m_rs_mono {p : m_P} {f x i : Nat} (h : m_rs p f i x = true) (d : Nat) : m_rs p f (i + d) x = true := by
  induction d with
  | zero => exact h
  | succ d ih =>
    rw [← Nat.add_assoc]
    show (m_rs p f (i + d) x || _) = true
    rw [ih]; rfl
theorem m_rh_0 {p : m_P} {f : Nat} : m_rh p f 0 = true := by
  have h : m_rs p f 0 0 = true := rfl
  have := m_rs_mono h (m_cn p f)
  rwa [Nat.zero_add] at this
theorem m_rh_nx {p : m_P} {f i w : Nat} (hi : i < m_cn p f) (h : m_rh p f i = true) (hw : w < 2) : m_rh p f (m_nx p f i w) = true := by
  rw [m_rh_at (by omega)] at h
  have h1 : m_rs p f (i + 1) (m_nx p f i w) = true := by
    show (m_rs p f i _ || (m_rs p f i i && _)) = true
    rw [h]
    rcases (show w = 0 ∨ w = 1 by omega) with rfl | rfl <;> simp
  have := m_rs_mono h1 (m_cn p f - (i + 1))
  rwa [show i + 1 + (m_cn p f - (i + 1)) = m_cn p f by omega] at this
theorem m_rh_end {p : m_P} {f : Nat} : m_rh p f (m_cn p f) = true := by
  have key : ∀ d x, m_cn p f - x ≤ d → x ≤ m_cn p f → m_rh p f x = true → m_rh p f (m_cn p f) = true := by
    intro d
    induction d with
    | zero => intro x h1 h2 h3; rwa [show x = m_cn p f by omega] at h3
    | succ d ih =>
      intro x h1 h2 h3
      by_cases h : x = m_cn p f
      · rwa [h] at h3
      · have g0 := m_nx_gt (p := p) (f := f) (i := x) (by omega) 0
        have g1 := m_nx_le p f x 0
        exact ih (m_nx p f x 0) (by omega) g1 (m_rh_nx (by omega) h3 (by decide))
  exact key _ 0 (Nat.le_refl _) (Nat.zero_le _) m_rh_0
/-- the functions that a body calls, by its instructions ahead of i -/
def m_cal (p : m_P) (f : Nat) : Nat → Int32
  | 0 => 0
  | i + 1 => if m_rh p f i = true ∧ m_kd p f i = 99 then m_cal p f i ||| m_bit (m_fa p f i) else m_cal p f i
theorem m_num_c {k a b : Nat} (h : ¬ k = 109) : m_num k a b = a := by unfold m_num; rw [if_neg h]
theorem c_follow_loop {p : m_P} {σ : cv_St} {f : Nat} (hc : m_cc 14 15 16 σ p) (ho : m_ok p) (hf : f < 8) : ∀ (n i : Nat) (N C : Int32), m_cn p f - i < n → i ≤ m_cn p f → (∀ x, x ≤ m_cn p f → bt N (m_nd p f x) = m_rs p f i x) → C = m_cal p f i →
    ∃ N', F_X2_follow_b16 n (nI f) N C (nI i) σ = some (cv_sA (cv_sA σ 20 f N') 21 f (m_cal p f (m_cn p f))) ∧ ∀ x, x ≤ m_cn p f → bt N' (m_nd p f x) = m_rh p f x := by
  have h14 := m_cn14 ho hf
  intro n
  induction n with
  | zero => intro i N C h; omega
  | succ n ih =>
    intro i N C hn hi hN hC
    show ∃ N', B_X2_follow_b16 (F_X2_follow_b16 n) (nI f) N C (nI i) σ = _ ∧ _
    unfold B_X2_follow_b16
    rw [m_ld (by omega) (by decide), c_cnt hc hf, m_lei (by omega) (by omega)]
    by_cases hq : m_cn p f ≤ i
    · have he : i = m_cn p f := by omega
      subst he
      rw [if_pos hq, m_st (by omega) (by decide), m_st (by omega) (by decide), hC]
      exact ⟨N, rfl, hN⟩
    · have hlt : i < m_cn p f := by omega
      have hbi : bt N i = m_rh p f i := by
        have := hN i (by omega)
        rw [m_nd_at hlt] at this
        rw [this, m_rh_at (by omega)]
      rw [if_neg hq, c_contains (by omega), m_bi, hbi, m_b0i]
      have hrs : m_rs p f i i = m_rh p f i := (m_rh_at (by omega)).symm
      by_cases hr : m_rh p f i = false
      · rw [if_pos hr]
        unfold F_X2_follow_b99
        rw [m_i1, m_add]
        refine ih (i + 1) N C (by omega) (by omega) (fun x hx => ?_) ?_
        · rw [hN x hx]
          show _ = (m_rs p f i x || (m_rs p f i i && _))
          rw [hrs, hr, Bool.false_and, Bool.or_false]
        · show C = if m_rh p f i = true ∧ m_kd p f i = 99 then _ else _
          rw [if_neg (by rw [hr]; simp), hC]
      · rw [if_neg hr, c_next hc ho hf hlt, m_bi, c_other hc ho hf hlt, m_bi, c_isCall hc ho hf hlt, m_bi, m_b0i]
        have hr' : m_rh p f i = true := by simpa using hr
        have hN' : ∀ x, x ≤ m_cn p f → bt (N ||| ((1 <<< (nI (m_nd p f (m_nx p f i 0)) &&& 31)) ||| (1 <<< (nI (m_nd p f (m_nx p f i 1)) &&& 31)))) (m_nd p f x) = m_rs p f (i + 1) x := by
          intro x hx
          show bt (N ||| (m_bit _ ||| m_bit _)) _ = (m_rs p f i x || (m_rs p f i i && _))
          rw [b_or, b_or, hN x hx, hrs, hr', Bool.true_and, b_bit (by have := m_nd_lt ho hf (m_nx_le p f i 0); omega), b_bit (by have := m_nd_lt ho hf (m_nx_le p f i 1); omega)]
          congr 2
          · exact decide_eq_decide.mpr (m_nd_inj ho hf hx (m_nx_le p f i 0))
          · exact decide_eq_decide.mpr (m_nd_inj ho hf hx (m_nx_le p f i 1))
        by_cases hk : m_kd p f i = 99
        · rw [if_neg (by simp [hk]), c_numberAt hc ho hf hlt, m_bi]
          unfold F_X2_follow_b97 F_X2_follow_b99
          rw [m_i1, m_add, m_num_c (by omega)]
          refine ih (i + 1) _ _ (by omega) (by omega) hN' ?_
          show _ = if m_rh p f i = true ∧ m_kd p f i = 99 then _ else _
          rw [if_pos ⟨hr', hk⟩, hC]; rfl
        · rw [if_pos (by simp [hk])]
          unfold F_X2_follow_b97 F_X2_follow_b99
          rw [m_i1, m_add, b_or0]
          refine ih (i + 1) _ _ (by omega) (by omega) hN' ?_
          show _ = if m_rh p f i = true ∧ m_kd p f i = 99 then _ else _
          rw [if_neg (fun h => hk h.2), hC]
theorem c_follow {p : m_P} {σ : cv_St} {f : Nat} (hc : m_cc 14 15 16 σ p) (ho : m_ok p) (hf : f < 8) : ∃ N', F_X2_follow (nI f) σ = some (cv_sA (cv_sA σ 20 f N') 21 f (m_cal p f (m_cn p f))) ∧ ∀ x, x ≤ m_cn p f → bt N' (m_nd p f x) = m_rh p f x := by
  have h14 := m_cn14 ho hf
  unfold F_X2_follow
  rw [c_entry hc ho hf, m_bi]
  refine c_follow_loop hc ho hf 1000 0 _ _ (by omega) (by omega) (fun x hx => ?_) rfl
  show bt (m_bit _) _ = decide (x = 0)
  rw [b_bit (by have := m_nd_lt ho hf (Nat.zero_le (m_cn p f)); omega)]
  exact decide_eq_decide.mpr (m_nd_inj ho hf hx (Nat.zero_le _))
/-- the class's facts on reaching -/
def m_CF (p : m_P) (σ : cv_St) (k : Nat) : Prop := ∀ f, f < k → (∀ x, x ≤ m_cn p f → bt (σ.1 20 f) (m_nd p f x) = m_rh p f x) ∧ σ.1 21 f = m_cal p f (m_cn p f)
theorem c_inferF_loop {p : m_P} {σ : cv_St} (hc : m_cc 14 15 16 σ p) (ho : m_ok p) : ∀ (n i : Nat) (τ : cv_St), 8 - i < n → i ≤ 8 → m_fr [20, 21] [] σ τ → m_CF p τ i → ∃ υ, F_X2_infer_b2 n (nI i) τ = some υ ∧ m_fr [20, 21] [] σ υ ∧ m_CF p υ 8 := by
  intro n
  induction n with
  | zero => intro i τ h; omega
  | succ n ih =>
    intro i τ hn hi hfr hF
    show ∃ υ, B_X2_infer_b2 (F_X2_infer_b2 n) (nI i) τ = _ ∧ _
    unfold B_X2_infer_b2
    rw [show (8 : Int32) = nI 8 from rfl, m_lei (by omega) (by omega)]
    by_cases hq : 8 ≤ i
    · rw [if_pos hq]
      exact ⟨τ, rfl, hfr, by rwa [show i = 8 by omega] at hF⟩
    · rw [if_neg hq]
      obtain ⟨N', h1, h2⟩ := c_follow (hc.fr hfr (by decide) (by decide) (by decide)) ho (show i < 8 by omega)
      rw [h1, m_bv, m_i1, m_add]
      refine ih (i + 1) _ (by omega) (by omega) (hfr.trans ((m_fr.A (by decide)).trans (m_fr.A (by decide)))) (fun f hf => ?_)
      rw [m_A_ne (by decide), m_A_eq, m_A_eq, m_A_ne (by decide)]
      by_cases hfi : f = i
      · subst hfi
        rw [m_u_eq, m_u_eq]
        exact ⟨h2, rfl⟩
      · rw [m_u_ne hfi, m_u_ne hfi]
        exact hF f (by omega)
theorem c_inferF {p : m_P} {σ : cv_St} (hc : m_cc 14 15 16 σ p) (ho : m_ok p) : ∃ υ, F_X2_infer σ = some υ ∧ m_fr [20, 21] [] σ υ ∧ m_CF p υ 8 := by
  unfold F_X2_infer
  exact c_inferF_loop hc ho 1000 0 σ (by omega) (by omega) m_fr.rfl' (fun f hf => by omega)
theorem c_reaches {p : m_P} {σ : cv_St} {f i : Nat} (hF : m_CF p σ 8) (ho : m_ok p) (hf : f < 8) (hi : i < m_cn p f) : F_X2_reaches (nI f) (nI i) σ = some (m_b (m_rh p f i), σ) := by
  have h14 := m_cn14 ho hf
  unfold F_X2_reaches
  rw [m_ld (by omega) (by decide), c_contains (by omega), m_bi, m_rzb]
  have := (hF f hf).1 i (by omega)
  rw [m_nd_at hi] at this
  rw [this]
