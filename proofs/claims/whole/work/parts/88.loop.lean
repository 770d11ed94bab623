/-! THE LAW'S LOOP -/
theorem v_end {i L : Nat} (hi : i < 2000) (hL : L < 2000) : (nI L - 3 < nI i) ↔ L < i + 3 := by
  rw [Int32.lt_iff_toInt_lt, show (3 : Int32) = nI 3 from rfl, pk_sub_toInt (by omega) (by omega), nI_toInt (by omega)]
  omega
section A88
variable {p : m_P} {σ : cv_St} {i L : Nat} {xs : Nat → Int32} {k : Int32 → cv_St → Option (Int32 × cv_St)}
theorem l_turn (h : v_I p σ) (hi : i + 2 < L) (hL : L ≤ 1536) : ∃ p' υ, B_L_law_b28 xs L k (nI i) σ = k (nI i + Int32.ofInt 3) υ ∧ v_I p' υ := by
  unfold B_L_law_b28
  rw [if_neg (fun z => by have := (v_end (by omega) (by omega)).mp z; omega), m_ldS (by omega) hL]
  generalize xs i &&& 63 = z
  by_cases c0 : z = 0
  · rw [if_pos c0]; obtain ⟨υ, u1, u2⟩ := l_append (xs := xs) (L := L) (k := k) (i := i) h hi hL; exact ⟨p, υ, u1, u2⟩
  rw [if_neg c0]
  by_cases c1 : z = 1
  · rw [if_pos c1]; exact l_setBody h hi hL
  rw [if_neg c1]
  by_cases c2 : z = 2
  · rw [if_pos c2]; obtain ⟨υ, u1, u2⟩ := l_faultPosition (xs := xs) (L := L) (k := k) (i := i) h; exact ⟨p, υ, u1, u2⟩
  rw [if_neg c2]
  by_cases c3 : z = 3
  · rw [if_pos c3]; obtain ⟨υ, u1, u2, u3⟩ := l_length (xs := xs) (L := L) (k := k) (i := i) h.1 hi hL; exact ⟨p, υ, u1, h.q u2 u3⟩
  rw [if_neg c3]
  by_cases c4 : z = 4
  · rw [if_pos c4]; obtain ⟨υ, u1, u2, u3⟩ := l_instruction (xs := xs) (L := L) (k := k) (i := i) h.1 hi hL; exact ⟨p, υ, u1, h.q u2 u3⟩
  rw [if_neg c4]
  by_cases c5 : z = 5
  · rw [if_pos c5]; obtain ⟨υ, u1, u2, u3⟩ := l_operand (xs := xs) (L := L) (k := k) (i := i) h.1 hi hL; exact ⟨p, υ, u1, h.q u2 u3⟩
  rw [if_neg c5]
  by_cases c6 : z = 6
  · rw [if_pos c6]; exact l_remove h hi hL
  rw [if_neg c6]
  by_cases c7 : z = 7
  · rw [if_pos c7]; obtain ⟨υ, u1, u2, u3⟩ := l_isReachable (xs := xs) (L := L) (k := k) (i := i) h.1 hi hL; exact ⟨p, υ, u1, h.q u2 u3⟩
  rw [if_neg c7]
  by_cases c8 : z = 8
  · rw [if_pos c8]; obtain ⟨υ, u1, u2, u3⟩ := l_isBalanced (xs := xs) (L := L) (k := k) (i := i) h.1 hi hL; exact ⟨p, υ, u1, h.q u2 u3⟩
  rw [if_neg c8]
  by_cases c9 : z = 9
  · rw [if_pos c9]; obtain ⟨υ, u1, u2, u3⟩ := l_preserved (xs := xs) (L := L) (k := k) (i := i) h.1 hi hL; exact ⟨p, υ, u1, h.q u2 u3⟩
  rw [if_neg c9]
  by_cases c10 : z = 10
  · rw [if_pos c10]; obtain ⟨υ, u1, u2, u3⟩ := l_surelyDefined (xs := xs) (L := L) (k := k) (i := i) h.1 hi hL; exact ⟨p, υ, u1, h.q u2 u3⟩
  rw [if_neg c10]
  by_cases c11 : z = 11
  · rw [if_pos c11]; obtain ⟨υ, u1, u2, u3⟩ := l_arguments (xs := xs) (L := L) (k := k) (i := i) h.1 hi hL; exact ⟨p, υ, u1, h.q u2 u3⟩
  rw [if_neg c11]
  by_cases c12 : z = 12
  · rw [if_pos c12]; obtain ⟨υ, u1, u2, u3⟩ := l_results (xs := xs) (L := L) (k := k) (i := i) h.1 hi hL; exact ⟨p, υ, u1, h.q u2 u3⟩
  rw [if_neg c12]
  by_cases c13 : z = 13
  · rw [if_pos c13]; obtain ⟨υ, u1, u2, u3⟩ := l_liveBefore (xs := xs) (L := L) (k := k) (i := i) h.1 hi hL; exact ⟨p, υ, u1, h.q u2 u3⟩
  rw [if_neg c13]
  by_cases c14 : z = 14
  · rw [if_pos c14]; obtain ⟨υ, u1, u2, u3⟩ := l_neededSlots (xs := xs) (L := L) (k := k) (i := i) h.1 hi hL; exact ⟨p, υ, u1, h.q u2 u3⟩
  rw [if_neg c14]
  by_cases c15 : z = 15
  · rw [if_pos c15]; obtain ⟨υ, u1, u2, u3⟩ := l_isVariadic (xs := xs) (L := L) (k := k) (i := i) h.1 hi hL; exact ⟨p, υ, u1, h.q u2 u3⟩
  rw [if_neg c15]
  by_cases c16 : z = 16
  · rw [if_pos c16]; obtain ⟨υ, u1, u2, u3⟩ := l_callees (xs := xs) (L := L) (k := k) (i := i) h.1 hi hL; exact ⟨p, υ, u1, h.q u2 u3⟩
  rw [if_neg c16]
  by_cases c17 : z = 17
  · rw [if_pos c17]; obtain ⟨υ, u1, u2, u3⟩ := l_callersOf (xs := xs) (L := L) (k := k) (i := i) h.1 hi hL; exact ⟨p, υ, u1, h.q u2 u3⟩
  rw [if_neg c17]
  by_cases c18 : z = 18
  · rw [if_pos c18]; obtain ⟨υ, u1, u2, u3⟩ := l_isRecursive (xs := xs) (L := L) (k := k) (i := i) h.1 hi hL; exact ⟨p, υ, u1, h.q u2 u3⟩
  rw [if_neg c18]
  by_cases c19 : z = 19
  · rw [if_pos c19]; obtain ⟨υ, u1, u2, u3⟩ := l_siteCount (xs := xs) (L := L) (k := k) (i := i) h.1; exact ⟨p, υ, u1, h.q u2 u3⟩
  rw [if_neg c19]
  by_cases c20 : z = 20
  · rw [if_pos c20]; obtain ⟨υ, u1, u2, u3⟩ := l_site (xs := xs) (L := L) (k := k) (i := i) h.1 hi hL; exact ⟨p, υ, u1, h.q u2 u3⟩
  rw [if_neg c20]
  by_cases c21 : z = 21
  · rw [if_pos c21]; obtain ⟨υ, u1, u2, u3⟩ := l_passedSlots (xs := xs) (L := L) (k := k) (i := i) h.1 hi hL; exact ⟨p, υ, u1, h.q u2 u3⟩
  rw [if_neg c21]
  by_cases c22 : z = 22
  · rw [if_pos c22]; obtain ⟨υ, u1, u2, u3⟩ := l_missingSlots (xs := xs) (L := L) (k := k) (i := i) h.1 hi hL; exact ⟨p, υ, u1, h.q u2 u3⟩
  rw [if_neg c22]
  by_cases c23 : z = 23
  · rw [if_pos c23]; obtain ⟨υ, u1, u2, u3⟩ := l_lostRegisters (xs := xs) (L := L) (k := k) (i := i) h.1 hi hL; exact ⟨p, υ, u1, h.q u2 u3⟩
  rw [if_neg c23]
  by_cases c24 : z = 24
  · rw [if_pos c24]; obtain ⟨υ, u1, u2, u3⟩ := l_liveBehind (xs := xs) (L := L) (k := k) (i := i) h.1 hi hL; exact ⟨p, υ, u1, h.q u2 u3⟩
  rw [if_neg c24]
  by_cases c25 : z = 25
  · rw [if_pos c25]; obtain ⟨υ, u1, u2, u3⟩ := l_problems (xs := xs) (L := L) (k := k) (i := i) h.1; exact ⟨p, υ, u1, h.q u2 u3⟩
  rw [if_neg c25]
  by_cases c26 : z = 26
  · rw [if_pos c26]; obtain ⟨υ, u1, u2, u3⟩ := l_firstProblem (xs := xs) (L := L) (k := k) (i := i) h.1; exact ⟨p, υ, u1, h.q u2 u3⟩
  rw [if_neg c26]
  by_cases c27 : z = 27
  · rw [if_pos c27]; obtain ⟨υ, u1, u2, u3⟩ := l_votes (xs := xs) (L := L) (k := k) (i := i) h.1 hi hL; exact ⟨p, υ, u1, h.q u2 u3⟩
  rw [if_neg c27]
  by_cases c28 : z = 28
  · rw [if_pos c28]; obtain ⟨υ, u1, u2, u3⟩ := l_role (xs := xs) (L := L) (k := k) (i := i) h.1 hi hL; exact ⟨p, υ, u1, h.q u2 u3⟩
  rw [if_neg c28]
  by_cases c29 : z = 29
  · rw [if_pos c29]; obtain ⟨υ, u1, u2⟩ := l_run (xs := xs) (L := L) (k := k) (i := i) h hi hL; exact ⟨p, υ, u1, u2⟩
  rw [if_neg c29]
  by_cases c30 : z = 30
  · rw [if_pos c30]; obtain ⟨υ, u1, u2⟩ := l_isCut (xs := xs) (L := L) (k := k) (i := i) h; exact ⟨p, υ, u1, u2⟩
  rw [if_neg c30]
  by_cases c31 : z = 31
  · rw [if_pos c31]; obtain ⟨υ, u1, u2⟩ := l_observed (xs := xs) (L := L) (k := k) (i := i) h; exact ⟨p, υ, u1, u2⟩
  rw [if_neg c31]
  by_cases c32 : z = 32
  · rw [if_pos c32]; obtain ⟨υ, u1, u2⟩ := l_origin (xs := xs) (L := L) (k := k) (i := i) h hi hL; exact ⟨p, υ, u1, u2⟩
  rw [if_neg c32]
  by_cases c33 : z = 33
  · rw [if_pos c33]; obtain ⟨υ, u1, u2, u3⟩ := l_preservedShare (xs := xs) (L := L) (k := k) (i := i) h.1; exact ⟨p, υ, u1, h.q u2 u3⟩
  rw [if_neg c33]
  by_cases c34 : z = 34
  · rw [if_pos c34]; obtain ⟨υ, u1, u2, u3⟩ := l_problemShare (xs := xs) (L := L) (k := k) (i := i) h.1; exact ⟨p, υ, u1, h.q u2 u3⟩
  rw [if_neg c34]
  by_cases c35 : z = 35
  · rw [if_pos c35]; obtain ⟨υ, u1, u2⟩ := l_save (xs := xs) (L := L) (k := k) (i := i) h; exact ⟨p, υ, u1, u2⟩
  rw [if_neg c35]
  by_cases c36 : z = 36
  · rw [if_pos c36]; exact l_restore h
  rw [if_neg c36]
  exact ⟨p, σ, rfl, h⟩
theorem l_loop (hL : L ≤ 1536) : ∀ (n i : Nat) (p : m_P) (σ : cv_St), L < i + 3 * n → i ≤ L → v_I p σ → ∃ u, F_L_law_b28 xs L n (nI i) σ = some (1, u) := by
  intro n
  induction n with
  | zero => intro i p σ h1 h2; omega
  | succ n ih =>
    intro i p σ hn hi h
    show ∃ u, B_L_law_b28 xs L (F_L_law_b28 xs L n) (nI i) σ = _
    by_cases hq : i + 2 < L
    · obtain ⟨p', υ, u1, u2⟩ := l_turn (xs := xs) (k := F_L_law_b28 xs L n) h hq hL
      rw [u1, m_i3, m_add]
      exact ih (i + 3) p' υ (by omega) (by omega) u2
    · unfold B_L_law_b28
      rw [if_pos ((v_end (by omega) (by omega)).mpr (by omega))]
      exact ⟨σ, rfl⟩
end A88
def v_p0 : m_P := (fun _ => 0, fun _ _ => 0, fun _ _ => 0, fun _ _ => 0)
theorem v_I0 : v_I v_p0 cv_s0 := by
  refine ⟨⟨fun f hf => ⟨Nat.zero_le _, fun i hi => absurd hi (Nat.not_lt_zero _)⟩, fun f hf => ⟨rfl, fun i hi => absurd hi (Nat.not_lt_zero _)⟩, fun f hf => ⟨rfl, fun i hi => absurd hi (Nat.not_lt_zero _)⟩, ⟨true, rfl, fun z => by cases z⟩, ⟨false, rfl, fun z => by cases z⟩⟩, v_0 rfl rfl, rfl, ⟨false, rfl, rfl, fun z => by cases z⟩, ⟨by decide +kernel, by decide +kernel⟩, ⟨false, rfl, rfl, fun z => by cases z⟩⟩
theorem law_math : ∀ (xs : Nat → Int32) (L : Nat), L ≤ 1536 → ∃ u, F_L_law_b28 xs L 1000 0 cv_s0 = some (1, u) := fun xs L hL => l_loop (xs := xs) hL 1000 0 v_p0 cv_s0 (by omega) (Nat.zero_le _) v_I0
