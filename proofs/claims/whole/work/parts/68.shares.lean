/-! THE TWO SHARES -/
theorem g_dd : ∀ s, s < 65 → ∀ m, m < 9 → (m = 0 ∨ FP.ddiv (FP.i2d (nI s)) (FP.i2d (nI m)) &&& 0x7fffffffffffffff ≤ 0x7ff0000000000000) := by decide +kernel
theorem g_ff : ∀ c, c < 113 → ∀ s, s < c + 1 → (c = 0 ∨ (FP.fdiv (FP.i2f (nI s)) (FP.i2f (nI c)) &&& 0x7fffffff ≤ 0x7f800000 ∧ FP.f2d (FP.fdiv (FP.i2f (nI s)) (FP.i2f (nI c))) &&& 0x7fffffffffffffff ≤ 0x7ff0000000000000 ∧ Op.cmpValue (FP.dcmp (FP.f2d (FP.fdiv (FP.i2f (nI s)) (FP.i2f (nI c)))) (FP.f2d (FP.fdiv (FP.i2f (nI s)) (FP.i2f (nI c))))) .l = 0)) := by decide +kernel
section A68
variable {p : m_P} {σ τ : cv_St} {xs : Nat → Int32} {L i j f : Nat} {k : Int32 → cv_St → Option (Int32 × cv_St)}
def g_vs (p : m_P) (σ : cv_St) : Nat → Nat
  | 0 => 0
  | r + 1 => g_vs p σ r + m_ct (m_vp p σ r 3) 8
theorem g_vs_le : ∀ r, g_vs p σ r ≤ 8 * r := by
  intro r
  induction r with
  | zero => exact Nat.le_refl _
  | succ r ih =>
    have := m_ct_le (m_vp p σ r 3) 8
    show g_vs p σ r + m_ct (m_vp p σ r 3) 8 ≤ _
    omega
theorem c_pshare (hc : m_cc 14 15 16 σ p) (ho : m_ok p) {m : Nat} (hm : m < 9) (hm0 : m ≠ 0) : ∀ n r, 8 - r < n → r ≤ 8 → F_X8_preservedShare_b30 n (nI m) (nI (g_vs p σ r)) (nI r) σ = some (0, FP.ddiv (FP.i2d (nI (g_vs p σ 8))) (FP.i2d (nI m)), σ) := by
  intro n
  induction n with
  | zero => intro r h; omega
  | succ n ih =>
    intro r hn hr
    show B_X8_preservedShare_b30 (F_X8_preservedShare_b30 n) _ _ _ _ = _
    unfold B_X8_preservedShare_b30
    rw [show (8 : Int32) = nI 8 from rfl, m_lei (by omega) (by omega)]
    by_cases hq : 8 ≤ r
    · have hr8 : r = 8 := by omega
      subst hr8
      have hs := g_vs_le (p := p) (σ := σ) 8
      rw [if_pos hq]
      unfold cv_ddv
      rw [if_pos ((g_dd _ (by omega) m hm).resolve_left hm0)]
    · rw [if_neg hq, show (F_X8_countVotes (nI r) 3 σ) = _ from c_countV (w := 3) hc ho (show r < 8 by omega) (by omega), m_bi, m_add, m_i1, m_add]
      exact ih (r + 1) (by omega) (by omega)
theorem r_pshare (hc : m_mc 43 τ p) (ho : m_ok p) (hA : m_CA p σ) (hM : m_MA p τ) {m : Nat} (hm : m < 9) (hm0 : m ≠ 0) : ∀ n r, 8 - r < n → r ≤ 8 → F_X9_preservedShare_b35 n (nI m) (nI (g_vs p σ r)) (nI r) τ = some (FP.ddiv (FP.i2d (nI (g_vs p σ 8))) (FP.i2d (nI m)), τ) := by
  intro n
  induction n with
  | zero => intro r h; omega
  | succ n ih =>
    intro r hn hr
    show B_X9_preservedShare_b35 (F_X9_preservedShare_b35 n) _ _ _ _ = _
    unfold B_X9_preservedShare_b35
    rw [show (8 : Int32) = nI 8 from rfl, m_lei (by omega) (by omega)]
    by_cases hq : 8 ≤ r
    · have hr8 : r = 8 := by omega
      subst hr8
      have hs := g_vs_le (p := p) (σ := σ) 8
      rw [if_pos hq]
      unfold cv_ddv
      rw [if_pos ((g_dd _ (by omega) m hm).resolve_left hm0)]
    · rw [if_neg hq, show (F_X9_countVotes (nI r) 3 τ) = _ from r_countV (w := 3) hc ho hA hM (show r < 8 by omega) (by omega), m_bi, m_add, m_i1, m_add]
      exact ih (r + 1) (by omega) (by omega)
theorem m_stD {α : Type} {σ : cv_St} {v : UInt64} {K : cv_St → Option α} : cv_stD σ 0 v K = K (cv_sD σ (vf_upd σ.2.2.2 0 v)) := by
  unfold cv_stD
  rw [if_neg (by decide)]; rfl
theorem m_ldD {α : Type} {σ : cv_St} {K : UInt64 → Option α} : cv_ldD σ 0 K = K (σ.2.2.2 0) := by
  unfold cv_ldD
  rw [if_neg (by decide)]; rfl
theorem m_D_gf {as ss : List Nat} {σ : cv_St} {g : Nat → UInt64} : m_gf as ss σ (cv_sD σ g) := ⟨fun _ _ => rfl, fun _ _ => rfl⟩
theorem m_bd {α : Type} {v : UInt64} {u : cv_St} {K : UInt64 → cv_St → Option α} : cv_bd (some (v, u)) K = K v u := rfl
theorem m_bf {α : Type} {v : UInt32} {u : cv_St} {K : UInt32 → cv_St → Option α} : cv_bf (some (v, u)) K = K v u := rfl
theorem m_D_out {σ : cv_St} {v : UInt64} : (cv_sD σ (vf_upd σ.2.2.2 0 v)).2.2.2 0 = v := by simp [cv_sD, vf_upd]
theorem m_f2d {α : Type} {x : UInt32} {K : UInt64 → Option α} (h : FP.f2d x &&& 0x7fffffffffffffff ≤ 0x7ff0000000000000) : cv_f2d x K = K (FP.f2d x) := if_pos h
theorem m_fdv {α : Type} {x y w : UInt32} {K : UInt32 → Option α} (hw : FP.fdiv x y = w) (h : w &&& 0x7fffffff ≤ 0x7f800000) : cv_fdv x y K = K w := by
  unfold cv_fdv
  rw [hw, if_pos h]
theorem l_preservedShare (h : m_X p σ) : ∃ υ, F_L_law_b2022 xs L k (nI i) σ = k (nI i + Int32.ofInt 3) υ ∧ m_X p υ ∧ m_gf m_QA m_QS σ υ := by
  have hct := m_ct_le (m_fp p) 8
  unfold F_L_law_b2022 F_L_law_b2084 F_L_law_b2188
  by_cases h0 : m_ct (m_fp p) 8 = 0
  · have e1 : F_L_preservedShare σ = some (1, σ) := by
      unfold F_L_preservedShare F_X8_preservedShare
      rw [c_filled h.2.1 h.1, m_bi, m_eqki (by omega) (by decide), if_pos h0, m_bh1 (by decide) rfl]
    have e2 : F_X9_preservedShare σ = some (FP.dconst0, cv_sF σ 17 1) := by
      unfold F_X9_preservedShare F_X9_preservedShare_b15
      rw [r_filled h.2.2.1 h.1, m_bi, m_eqki (by omega) (by decide), if_pos h0, m_pui, m_F_eq, if_neg (by decide)]
    rw [e1, m_bi, e2, m_bd]
    unfold F_X9_thrown
    rw [m_bi, m_F_eq, if_pos rfl, if_neg (by decide)]
    exact ⟨_, rfl, h.gf (m_F_gf (as := []) (ss := [17]) (by decide)) (by decide) (by decide), m_F_gf (by decide)⟩
  · obtain ⟨s1, a1, a2, a3, a4, a5, a6⟩ := c_fx h
    have q1 := c_pshare a5.2.1 h.1 (show m_ct (m_fp p) 8 < 9 by omega) h0 1000 0 (by omega) (by omega)
    obtain ⟨w, hw⟩ : ∃ w, FP.ddiv (FP.i2d (nI (g_vs p s1 8))) (FP.i2d (nI (m_ct (m_fp p) 8))) = w := ⟨_, rfl⟩
    rw [hw] at q1
    have q1 : F_X8_preservedShare_b30 1000 (nI (m_ct (m_fp p) 8)) 0 0 s1 = some (0, w, s1) := q1
    have e1 : F_L_preservedShare σ = some (0, cv_sD s1 (vf_upd s1.2.2.2 0 w)) := by
      unfold F_L_preservedShare F_X8_preservedShare
      rw [c_filled h.2.1 h.1, m_bi, m_eqki (by omega) (by decide), if_neg h0, a1, m_bv, q1, m_bh0, m_stD]
    have hX2 : m_X p (cv_sD s1 (vf_upd s1.2.2.2 0 w)) := a5.gf (m_D_gf (as := []) (ss := [])) (by decide) (by decide)
    obtain ⟨s4, c1, c2, c3, c4, c5, c6⟩ := r_fx (hX2.gf (m_F_gf (as := []) (ss := [17]) (k := 17) (v := 0) (by decide)) (by decide) (by decide))
    have q2 := r_pshare c5.2.2.1 h.1 a6 c6 (show m_ct (m_fp p) 8 < 9 by omega) h0 1000 0 (by omega) (by omega)
    rw [hw] at q2
    have q2 : F_X9_preservedShare_b35 1000 (nI (m_ct (m_fp p) 8)) 0 0 s4 = some (w, s4) := q2
    have e2 : F_X9_preservedShare (cv_sD s1 (vf_upd s1.2.2.2 0 w)) = some (w, s4) := by
      unfold F_X9_preservedShare F_X9_preservedShare_b15
      rw [r_filled hX2.2.2.1 h.1, m_bi, m_eqki (by omega) (by decide), if_neg h0, m_pui, m_F_eq, if_pos (by decide), c1, m_bv, q2]
    have hD : s4.2.2.2 0 = w := by rw [c3, m_F_22, m_D_out]
    rw [e1, m_bi, e2, m_bd]
    unfold F_X9_thrown
    rw [m_bi, c4, m_F_eq, if_pos rfl, if_pos rfl, m_ldD, m_ldD, m_ldD, hD]
    refine ⟨s4, ?_, c5, a2.trans (m_D_gf.trans ((m_F_gf (by decide)).trans c2))⟩
    by_cases hz : Op.cmpValue (FP.dcmp w w) .l = 0
    · rw [if_pos hz]
    · rw [if_neg hz, if_neg hz, if_neg hz]
theorem l_problemShare (h : m_X p σ) : ∃ υ, F_L_law_b2087 xs L k (nI i) σ = k (nI i + Int32.ofInt 3) υ ∧ m_X p υ ∧ m_gf m_QA m_QS σ υ := by
  have hlen := m_sF_len h.1 8 (Nat.le_refl _)
  unfold F_L_law_b2087 F_L_law_b2150 F_L_law_b2188
  obtain ⟨s1, a1, a2, a3, a4, a5, a6⟩ := c_fx h
  by_cases h0 : (m_sF p 8).length = 0
  · have e1 : F_L_problemShare σ = some (1, s1) := by
      unfold F_L_problemShare F_X8_problemShare
      rw [a1, m_bv, a6.2.2.2.2.2.2.1.1, m_eqki (by omega) (by decide), if_pos h0, m_bh1 (by decide) rfl]
    obtain ⟨s4, c1, c2, c3, c4, c5, c6⟩ := r_fx a5
    have e2 : F_X9_problemShare s1 = some (FP.fconst0, cv_sF s4 17 1) := by
      unfold F_X9_problemShare F_X9_problemShare_b17 F_X9_problemShare_b42
      rw [c1, m_bv, c6.2.2.1.1, m_eqki (by omega) (by decide), if_pos h0, m_pui, m_F_eq, if_neg (by decide)]
    rw [e1, m_bi, e2, m_bf]
    unfold F_X9_thrown
    rw [m_bi, m_F_eq, if_pos rfl, if_neg (by decide)]
    exact ⟨_, rfl, c5.gf (m_F_gf (as := []) (ss := [17]) (by decide)) (by decide) (by decide), a2.trans (c2.trans (m_F_gf (by decide)))⟩
  · have hle := m_ct_le (m_hj p s1) (m_sF p 8).length
    have hff := (g_ff (m_sF p 8).length (by omega) (m_ct (m_hj p s1) (m_sF p 8).length) (by omega)).resolve_left h0
    obtain ⟨w, hw⟩ : ∃ w, FP.fdiv (FP.i2f (nI (m_ct (m_hj p s1) (m_sF p 8).length))) (FP.i2f (nI (m_sF p 8).length)) = w := ⟨_, rfl⟩
    rw [hw] at hff
    obtain ⟨f1, f2, f3⟩ := hff
    have e1 : F_L_problemShare σ = some (0, cv_sD s1 (vf_upd s1.2.2.2 0 (FP.f2d w))) := by
      unfold F_L_problemShare F_X8_problemShare
      rw [a1, m_bv, a6.2.2.2.2.2.2.1.1, m_eqki (by omega) (by decide), if_neg h0, c_countP a5.2.1 h.1 a6, m_bi, a6.2.2.2.2.2.2.1.1, m_fdv hw f1, m_bh0, m_f2d f2, m_stD]
    have hX2 : m_X p (cv_sD s1 (vf_upd s1.2.2.2 0 (FP.f2d w))) := a5.gf (m_D_gf (as := []) (ss := [])) (by decide) (by decide)
    obtain ⟨s4, c1, c2, c3, c4, c5, c6⟩ := r_fx hX2
    have hX4 : m_X p (cv_sF s4 17 0) := c5.gf (m_F_gf (as := []) (ss := [17]) (by decide)) (by decide) (by decide)
    have hM4 : m_MA p (cv_sF s4 17 0) := c6.gf (m_F_gf (as := []) (ss := [17]) (by decide)) (by decide) (by decide)
    have e2 : F_X9_problemShare (cv_sD s1 (vf_upd s1.2.2.2 0 (FP.f2d w))) = some (w, cv_sF s4 17 0) := by
      unfold F_X9_problemShare F_X9_problemShare_b17 F_X9_problemShare_b42
      rw [c1, m_bv, c6.2.2.1.1, m_eqki (by omega) (by decide), if_neg h0, m_pui, m_F_eq, if_pos (by decide), r_countP hX4.2.2.1 h.1 a6 hM4, m_bi, hM4.2.2.1.1, m_fdv hw f1]
    have hD : (cv_sF s4 17 0).2.2.2 0 = FP.f2d w := by rw [m_F_22, c3, m_D_out]
    rw [e1, m_bi, e2, m_bf]
    unfold F_X9_thrown
    rw [m_bi, m_F_eq, if_pos rfl, if_pos rfl, m_ldD, m_f2d f2, hD, if_pos f3]
    exact ⟨_, rfl, hX4, a2.trans (m_D_gf.trans (c2.trans (m_F_gf (by decide))))⟩
end A68
