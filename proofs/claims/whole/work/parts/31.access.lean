/-! access: ranges, kinds, numbers, the ways on -/
theorem m_lg0 {x y : Int64} : (lg_cmp x y = 0) ↔ (x = y) := by
  unfold lg_cmp
  simp only [gt_iff_lt, Int64.lt_iff_toInt_lt, ← Int64.toInt_inj]
  split
  · exact ⟨fun h => absurd h (by decide), fun h => by omega⟩
  · split
    · exact ⟨fun _ => by assumption, fun _ => rfl⟩
    · exact ⟨fun h => absurd h (by decide), fun h => by omega⟩
theorem m_lgn {x y : Int64} : (lg_cmp x y < 0) ↔ (x < y) := by
  unfold lg_cmp
  simp only [gt_iff_lt, Int64.lt_iff_toInt_lt, ← Int64.toInt_inj]
  split
  · exact ⟨fun h => absurd h (by decide), fun h => by omega⟩
  · split
    · exact ⟨fun h => absurd h (by decide), fun h => by omega⟩
    · exact ⟨fun _ => by omega, fun _ => by decide⟩
theorem m_lgp {x y : Int64} : (0 < lg_cmp x y) ↔ (y < x) := by
  unfold lg_cmp
  simp only [gt_iff_lt, Int64.lt_iff_toInt_lt, ← Int64.toInt_inj]
  split
  · exact ⟨fun _ => by assumption, fun _ => by decide⟩
  · split
    · exact ⟨fun h => absurd h (by decide), fun h => by omega⟩
    · exact ⟨fun h => absurd h (by decide), fun h => by omega⟩
theorem m_wle (a b : Int32) : a.toInt64 ≤ b.toInt64 ↔ a ≤ b := by
  rw [Int64.le_iff_toInt_le, Int32.le_iff_toInt_le, Int32.toInt_toInt64, Int32.toInt_toInt64]
theorem m_wlt (a b : Int32) : a.toInt64 < b.toInt64 ↔ a < b := by
  rw [Int64.lt_iff_toInt_lt, Int32.lt_iff_toInt_lt, Int32.toInt_toInt64, Int32.toInt_toInt64]
theorem m_weq (a b : Int32) : a.toInt64 = b.toInt64 ↔ a = b := by
  rw [← Int64.toInt_inj, ← Int32.toInt_inj, Int32.toInt_toInt64, Int32.toInt_toInt64]
theorem m_in {x lo hi : Int32} {σ : cv_St} : F_X9_in x.toInt64 lo.toInt64 hi.toInt64 σ = some (m_b (decide (lo ≤ x ∧ x ≤ hi)), σ) := by
  unfold F_X9_in
  simp only [m_lgn, m_lgp, m_wlt]
  by_cases h1 : x < lo
  · have h2 : ¬ lo ≤ x := fun h => by have := Int32.lt_iff_toInt_lt.mp h1; have := Int32.le_iff_toInt_le.mp h; omega
    simp [h1, h2, m_b, m_rz0]
  · have h2 : lo ≤ x := Int32.le_iff_toInt_le.mpr (by have : ¬ x.toInt < lo.toInt := fun h => h1 (Int32.lt_iff_toInt_lt.mpr h); omega)
    by_cases h3 : hi < x
    · have h4 : ¬ x ≤ hi := fun h => by have := Int32.lt_iff_toInt_lt.mp h3; have := Int32.le_iff_toInt_le.mp h; omega
      simp [h1, h3, h4, m_b, m_rz0]
    · have h4 : x ≤ hi := Int32.le_iff_toInt_le.mpr (by have : ¬ hi.toInt < x.toInt := fun h => h3 (Int32.lt_iff_toInt_lt.mpr h); omega)
      simp [h1, h2, h3, h4, m_b, m_rz1]
theorem m_ixc (x : Int32) (n : Nat) (hn : n < 2147483648) : (x < 0 ∨ nI n ≤ x) ∨ ∃ j, j < n ∧ x = nI j := by
  rcases pk_ix x (n := n) hn with h | h | h
  · exact Or.inl (Or.inl h)
  · exact Or.inl (Or.inr h)
  · exact Or.inr h
theorem m_out {x : Int32} {n : Nat} (h : x < 0 ∨ nI n ≤ x) (hn : n < 2147483648) (h0 : 0 < n) : ¬ (0 ≤ x ∧ x ≤ nI (n - 1)) := fun q => by
  have h1 := Int32.le_iff_toInt_le.mp q.1
  have h2 := Int32.le_iff_toInt_le.mp q.2
  rw [nI_toInt (by omega)] at h2
  have h3 : (0 : Int32).toInt = 0 := by decide
  rcases h with h | h
  · have := Int32.lt_iff_toInt_lt.mp h
    omega
  · have h4 := Int32.le_iff_toInt_le.mp h
    rw [nI_toInt hn] at h4
    omega
theorem m_inn {j n : Nat} (h : j < n) (hn : n < 2147483648) : (0 : Int32) ≤ nI j ∧ nI j ≤ nI (n - 1) := ⟨nI_pos' (by omega), nI_le (by omega) (by omega)⟩
theorem m_in8 {x : Int32} {σ : cv_St} : F_X9_in x.toInt64 0 7 σ = some (m_b (decide (0 ≤ x ∧ x ≤ nI 7)), σ) := m_in (lo := 0) (hi := 7)
theorem m_isF {f : Nat} (h : f < 8) {σ : cv_St} : F_X9_isFunction (nI f) σ = some (1, σ) := by
  unfold F_X9_isFunction
  rw [m_in8, decide_eq_true (m_inn (n := 8) h (by decide))]; rfl
theorem m_isF0 {x : Int32} (h : x < 0 ∨ nI 8 ≤ x) {σ : cv_St} : F_X9_isFunction x σ = some (0, σ) := by
  unfold F_X9_isFunction
  rw [m_in8, decide_eq_false (m_out (n := 8) h (by decide) (by decide))]; rfl
theorem m_isR {f : Nat} (h : f < 8) {σ : cv_St} : F_X9_isRegister (nI f) σ = some (1, σ) := by
  unfold F_X9_isRegister
  rw [m_in8, decide_eq_true (m_inn (n := 8) h (by decide))]; rfl
theorem m_isR0 {x : Int32} (h : x < 0 ∨ nI 8 ≤ x) {σ : cv_St} : F_X9_isRegister x σ = some (0, σ) := by
  unfold F_X9_isRegister
  rw [m_in8, decide_eq_false (m_out (n := 8) h (by decide) (by decide))]; rfl
section A31
variable {p : m_P} {σ : cv_St} {f i : Nat}
theorem m_i14 : nI f * 14 + nI i = nI (f * 14 + i) := by rw [show (14 : Int32) = nI 14 from rfl, m_mul, m_add]
theorem m_k14 (c : Nat) : nI c + 14 * nI f + nI i = nI (c + 14 * f + i) := by rw [show (14 : Int32) = nI 14 from rfl, m_mul, m_add, m_add]
theorem m_i15 : 15 * nI f + nI i = nI (15 * f + i) := by rw [show (15 : Int32) = nI 15 from rfl, m_mul, m_add]
theorem m_j15 : nI f * 15 + nI i = nI (f * 15 + i) := by rw [show (15 : Int32) = nI 15 from rfl, m_mul, m_add]
theorem m_cn14 (ho : m_ok p) (hf : f < 8) : m_cn p f ≤ 14 := (ho f hf).1
theorem m_vl (ho : m_ok p) (hf : f < 8) (hi : i < m_cn p f) : m_val (m_kd p f i) (m_fa p f i) (m_sb p f i) := (ho f hf).2 i hi
-- the class
theorem c_cnt (hc : m_cc 14 15 16 σ p) (hf : f < 8) : σ.1 14 f = nI (m_cn p f) := (hc f hf).1
theorem c_kindAt (hc : m_cc 14 15 16 σ p) (ho : m_ok p) (hf : f < 8) (hi : i < m_cn p f) : F_X0_kindAt (nI f) (nI i) σ = some (nI (m_kd p f i), σ) := by
  have h14 := m_cn14 ho hf
  unfold F_X0_kindAt
  rw [m_i14, m_ld (by omega) (by decide), ((hc f hf).2 i hi).1, m_rc (by have := (m_val_k (m_vl ho hf hi)).1; omega)]
theorem c_numberAt (hc : m_cc 14 15 16 σ p) (ho : m_ok p) (hf : f < 8) (hi : i < m_cn p f) : F_X0_numberAt (nI f) (nI i) σ = some (nI (m_num (m_kd p f i) (m_fa p f i) (m_sb p f i)), σ) := by
  have h14 := m_cn14 ho hf
  unfold F_X0_numberAt
  rw [m_i14, m_ld (by omega) (by decide), ((hc f hf).2 i hi).2]
theorem c_isCall (hc : m_cc 14 15 16 σ p) (ho : m_ok p) (hf : f < 8) (hi : i < m_cn p f) : F_X0_isCall (nI f) (nI i) σ = some (m_b (decide (m_kd p f i = 99)), σ) := by
  have hk := (m_val_k (m_vl ho hf hi)).1
  unfold F_X0_isCall
  rw [c_kindAt hc ho hf hi, m_bi, m_eqki (by omega) (by decide)]
  by_cases h : m_kd p f i = 99 <;> simp [h, m_b, m_rz0, m_rz1]
/-- the two ways on behind an instruction; cn: the end -/
def m_nx (p : m_P) (f i w : Nat) : Nat := min (if m_kd p f i = 114 then m_cn p f else if m_kd p f i = 98 ∧ w = 1 then i + 1 + m_fa p f i else i + 1) (m_cn p f)
theorem m_nx_le (p : m_P) (f i w : Nat) : m_nx p f i w ≤ m_cn p f := Nat.min_le_right _ _
theorem m_nx_gt (hi : i < m_cn p f) (w : Nat) : i < m_nx p f i w := by
  unfold m_nx
  split
  · omega
  · split <;> omega
/-- the class's node of a place: 14 is the end -/
def m_nd (p : m_P) (f x : Nat) : Nat := if x = m_cn p f then 14 else x
theorem m_nd_lt (ho : m_ok p) (hf : f < 8) {x : Nat} (hx : x ≤ m_cn p f) : m_nd p f x < 15 := by
  have := m_cn14 ho hf
  unfold m_nd; split <;> omega
theorem m_nd_inj (ho : m_ok p) (hf : f < 8) {x y : Nat} (hx : x ≤ m_cn p f) (hy : y ≤ m_cn p f) : m_nd p f x = m_nd p f y ↔ x = y := by
  have := m_cn14 ho hf
  unfold m_nd; split <;> split <;> omega
theorem m_nd_at {x : Nat} (hx : x < m_cn p f) : m_nd p f x = x := by unfold m_nd; rw [if_neg (by omega)]
theorem m_nd_end : m_nd p f (m_cn p f) = 14 := by unfold m_nd; rw [if_pos rfl]
theorem c_entry (hc : m_cc 14 15 16 σ p) (ho : m_ok p) (hf : f < 8) : F_X0_entry (nI f) σ = some (nI (m_nd p f 0), σ) := by
  have h14 := m_cn14 ho hf
  unfold F_X0_entry
  rw [m_ld (by omega) (by decide), c_cnt hc hf, show (0 : Int32) = nI 0 from rfl, m_eqi (by omega) (by decide)]
  unfold m_nd
  by_cases h : m_cn p f = 0
  · rw [if_pos h, if_pos h.symm]; rfl
  · rw [if_neg h, if_neg (fun e => h e.symm)]
theorem c_nodeBehind (hc : m_cc 14 15 16 σ p) (ho : m_ok p) (hf : f < 8) (hi : i < m_cn p f) {s : Nat} (hs : s < 10) : F_X0_nodeBehind (nI f) (nI i) (nI s) σ = some (nI (if m_kd p f i = 114 ∨ m_cn p f ≤ i + 1 + s then 14 else i + 1 + s), σ) := by
  have h14 := m_cn14 ho hf
  have hk := (m_val_k (m_vl ho hf hi)).1
  unfold F_X0_nodeBehind F_X0_nodeBehind_b34 F_X0_nodeBehind_b39
  rw [m_i14, m_ld (by omega) (by decide), ((hc f hf).2 i hi).1, m_eqki (by omega) (by decide), show (1 : Int32) = nI 1 from rfl, m_add, m_add, m_ld (by omega) (by decide), c_cnt hc hf, m_lti (by omega) (by omega)]
  by_cases h1 : m_kd p f i = 114
  · rw [if_pos h1, if_pos (Or.inl h1)]; rfl
  · rw [if_neg h1]
    by_cases h2 : i + 1 + s < m_cn p f
    · rw [if_pos h2, if_neg (show ¬ (m_kd p f i = 114 ∨ m_cn p f ≤ i + 1 + s) by omega)]; rfl
    · rw [if_neg h2, if_pos (show m_kd p f i = 114 ∨ m_cn p f ≤ i + 1 + s by omega)]; rfl
theorem c_next (hc : m_cc 14 15 16 σ p) (ho : m_ok p) (hf : f < 8) (hi : i < m_cn p f) : F_X0_next (nI f) (nI i) σ = some (nI (m_nd p f (m_nx p f i 0)), σ) := by
  unfold F_X0_next
  rw [show (0 : Int32) = nI 0 from rfl, c_nodeBehind hc ho hf hi (by decide), m_bi]
  congr 3
  unfold m_nd m_nx
  by_cases h1 : m_kd p f i = 114
  · simp [h1]
  · simp only [h1, false_or, if_false, show ¬ (0 : Nat) = 1 by decide, and_false]
    split <;> split <;> omega
theorem c_other (hc : m_cc 14 15 16 σ p) (ho : m_ok p) (hf : f < 8) (hi : i < m_cn p f) : F_X0_other (nI f) (nI i) σ = some (nI (m_nd p f (m_nx p f i 1)), σ) := by
  have h14 := m_cn14 ho hf
  have hv := m_val_k (m_vl ho hf hi)
  unfold F_X0_other F_X0_other_b31
  rw [m_i14, m_ld (by omega) (by decide), ((hc f hf).2 i hi).1, m_eqki (by omega) (by decide), m_ld (by omega) (by decide), ((hc f hf).2 i hi).2]
  by_cases h1 : m_kd p f i = 98
  · rw [if_pos h1, show m_num (m_kd p f i) (m_fa p f i) (m_sb p f i) = m_fa p f i by unfold m_num; rw [if_neg (by omega)], c_nodeBehind hc ho hf hi hv.2.1, m_bi]
    congr 3
    unfold m_nd m_nx
    simp only [h1, show ¬ (98 : Nat) = 114 by decide, false_or, if_false, and_self, if_true]
    split <;> split <;> omega
  · rw [if_neg h1, show (0 : Int32) = nI 0 from rfl, c_nodeBehind hc ho hf hi (by decide), m_bi]
    congr 3
    unfold m_nd m_nx
    by_cases h2 : m_kd p f i = 114
    · simp [h2]
    · simp only [h1, h2, false_or, if_false, false_and]
      split <;> split <;> omega
-- the reference
theorem r_cnt (hc : m_mc 43 σ p) (hf : f < 8) : σ.1 43 f = nI (m_cn p f) := (hc f hf).1
theorem r_kind (hc : m_mc 43 σ p) (ho : m_ok p) (hf : f < 8) (hi : i < m_cn p f) : F_X9_kind (nI f) (nI i) σ = some (nI (m_kd p f i), σ) := by
  have h14 := m_cn14 ho hf
  unfold F_X9_kind
  rw [show (8 : Int32) = nI 8 from rfl, m_k14, m_ld (by omega) (by decide), ((hc f hf).2 i hi).1]
theorem r_first (hc : m_mc 43 σ p) (ho : m_ok p) (hf : f < 8) (hi : i < m_cn p f) : F_X9_first (nI f) (nI i) σ = some (nI (m_fa p f i), σ) := by
  have h14 := m_cn14 ho hf
  unfold F_X9_first
  rw [show (120 : Int32) = nI 120 from rfl, m_k14, m_ld (by omega) (by decide), ((hc f hf).2 i hi).2.1]
theorem r_second (hc : m_mc 43 σ p) (ho : m_ok p) (hf : f < 8) (hi : i < m_cn p f) : F_X9_second (nI f) (nI i) σ = some (nI (m_sb p f i), σ) := by
  have h14 := m_cn14 ho hf
  unfold F_X9_second
  rw [show (232 : Int32) = nI 232 from rfl, m_k14, m_ld (by omega) (by decide), ((hc f hf).2 i hi).2.2]
theorem r_next_b52 (hc : m_mc 43 σ p) (ho : m_ok p) (hf : f < 8) {t : Nat} (ht : t < 100) : F_X9_next_b52 (nI f) (nI t) σ = some (nI (min t (m_cn p f)), σ) := by
  have h14 := m_cn14 ho hf
  unfold F_X9_next_b52
  rw [m_ld (by omega) (by decide), r_cnt hc hf, m_lti (by omega) (by omega)]
  by_cases h : m_cn p f < t
  · rw [if_pos h, Nat.min_eq_right (by omega)]
  · rw [if_neg h, Nat.min_eq_left (by omega)]
theorem r_next (hc : m_mc 43 σ p) (ho : m_ok p) (hf : f < 8) (hi : i < m_cn p f) {w : Nat} (hw : w < 2) : F_X9_next (nI f) (nI i) (nI w) σ = some (nI (m_nx p f i w), σ) := by
  have h14 := m_cn14 ho hf
  have hv := m_val_k (m_vl ho hf hi)
  unfold F_X9_next F_X9_next_b49
  rw [r_kind hc ho hf hi, m_bi, m_eqki (by omega) (by decide), r_kind hc ho hf hi, m_bi, m_eqki (by omega) (by decide), m_ld (by omega) (by decide), r_cnt hc hf, r_next_b52 hc ho hf (by omega), show (1 : Int32) = nI 1 from rfl, m_eqi (by omega) (by omega), m_add, r_first hc ho hf hi, m_bi, m_add, r_next_b52 hc ho hf (by omega), r_next_b52 hc ho hf (by omega)]
  unfold m_nx
  by_cases h1 : m_kd p f i = 114
  · simp [h1]
  · by_cases h2 : m_kd p f i = 98
    · by_cases h3 : w = 1
      · simp [h2, h3]
      · simp [h2, h3]
    · simp [h1, h2]
theorem r_isI (hc : m_mc 43 σ p) (ho : m_ok p) (hf : f < 8) (hi : i < m_cn p f) : F_X9_isInstruction (nI f) (nI i) σ = some (1, σ) := by
  have h14 := m_cn14 ho hf
  unfold F_X9_isInstruction
  rw [m_isF hf, m_bi, if_neg (by decide), m_ld (by omega) (by decide), r_cnt hc hf, show (1 : Int32) = nI 1 from rfl, pk_sub (by omega)]
  rw [show (F_X9_in (nI i).toInt64 0 (nI (m_cn p f - 1)).toInt64 σ) = some (m_b (decide (0 ≤ nI i ∧ nI i ≤ nI (m_cn p f - 1))), σ) from m_in (lo := 0), decide_eq_true (m_inn hi (by omega))]
  rfl
theorem r_isI0 (hc : m_mc 43 σ p) (ho : m_ok p) (hf : f < 8) {x : Int32} (hx : x < 0 ∨ nI (m_cn p f) ≤ x) : F_X9_isInstruction (nI f) x σ = some (0, σ) := by
  have h14 := m_cn14 ho hf
  unfold F_X9_isInstruction
  rw [m_isF hf, m_bi, if_neg (by decide), m_ld (by omega) (by decide), r_cnt hc hf]
  rw [show (F_X9_in x.toInt64 0 (nI (m_cn p f) - 1).toInt64 σ) = some (m_b (decide (0 ≤ x ∧ x ≤ nI (m_cn p f) - 1)), σ) from m_in (lo := 0)]
  have hn : ¬ (0 ≤ x ∧ x ≤ nI (m_cn p f) - 1) := by
    by_cases h0 : m_cn p f = 0
    · rw [h0]
      intro q
      have h1 := Int32.le_iff_toInt_le.mp q.1
      have h2 := Int32.le_iff_toInt_le.mp q.2
      rw [show (nI 0 - 1 : Int32).toInt = -1 by decide] at h2
      rw [show (0 : Int32).toInt = 0 by decide] at h1
      omega
    · rw [show (1 : Int32) = nI 1 from rfl, pk_sub (by omega)]
      exact m_out hx (by omega) (by omega)
  rw [decide_eq_false hn]
  rfl
end A31
