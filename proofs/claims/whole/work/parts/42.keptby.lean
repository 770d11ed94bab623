/-- a height once set stays -/
theorem m_hs_keep {p : m_P} {f : Nat} {H : Nat → Option Nat} (hH : m_hs p f (m_cn p f) = some H) : ∀ dd i (h : Nat → Option Nat), i + dd = m_cn p f → m_hs p f i = some h → ∀ x e, h x = some e → H x = some e := by
  intro dd
  induction dd with
  | zero =>
    intro i h hi hh x e hx
    rw [show i = m_cn p f by omega, hH] at hh
    cases hh; exact hx
  | succ dd ih =>
    intro i h hi hh x e hx
    obtain ⟨h', e1, -⟩ := m_hs_pre hH (i + 1) (by omega)
    have e2 : m_hi p f i h = some h' := by rw [m_hs_s, hh] at e1; exact e1
    refine ih (i + 1) h' (by omega) e1 x e ?_
    rcases m_hi_some e2 with ⟨-, rfl⟩ | ⟨d', e', -, -, h3, h4⟩
    · exact hx
    · rw [h3 x]
      by_cases hz : x = m_nx p f i 0 ∨ x = m_nx p f i 1
      · rw [if_pos hz]
        rcases h4 x hz with h4 | h4
        · rw [h4] at hx; cases hx
        · rw [← h4, hx]
      · rw [if_neg hz]; exact hx
theorem m_hs_go {p : m_P} {f i d : Nat} {H : Nat → Option Nat} (hH : m_hs p f (m_cn p f) = some H) (hi : i < m_cn p f) (hd : H i = some d) : m_ht p f i = d ∧ ∃ e, m_gr (m_kd p f i) d = some e ∧ H (m_nx p f i 0) = some e ∧ H (m_nx p f i 1) = some e := by
  obtain ⟨h, e1, e2⟩ := m_hs_pre hH i (by omega)
  obtain ⟨h', f1, f2⟩ := m_hs_pre hH (i + 1) (by omega)
  have hhi : h i = some d := by rw [e2 i (Nat.le_refl _)]; exact hd
  refine ⟨m_ht_eq e1 hhi, ?_⟩
  have g2 : m_hi p f i h = some h' := by rw [m_hs_s, e1] at f1; exact f1
  rcases m_hi_some g2 with ⟨z, -⟩ | ⟨d', e', z1, z2, h3, h4⟩
  · rw [hhi] at z; cases z
  · rw [hhi] at z1; cases z1
    refine ⟨e', z2, m_hs_keep hH (m_cn p f - (i + 1)) (i + 1) h' (by omega) f1 _ _ ?_, m_hs_keep hH (m_cn p f - (i + 1)) (i + 1) h' (by omega) f1 _ _ ?_⟩
    · rw [h3, if_pos (Or.inl rfl)]
    · rw [h3, if_pos (Or.inr rfl)]
theorem m_hs_0 {p : m_P} {f : Nat} {H : Nat → Option Nat} (hH : m_hs p f (m_cn p f) = some H) : H 0 = some 0 := m_hs_keep hH (m_cn p f) 0 _ (by omega) rfl 0 0 rfl
theorem m_bl_H {p : m_P} {f : Nat} (h : m_bl p f = true) : ∃ H, m_hs p f (m_cn p f) = some H ∧ H (m_cn p f) = some 0 := by
  unfold m_bl at h
  cases hh : m_hs p f (m_cn p f) with
  | none => rw [hh] at h; cases h
  | some H => rw [hh] at h; exact ⟨H, rfl, of_decide_eq_true h⟩
section A42
variable {p : m_P} {σ τ : cv_St} {f i : Nat}
theorem c_forget {v : Int32} : ∀ (n q : Nat) (g : Nat → Int32), 8 - q < n → q ≤ 8 →
    ∃ g', F_X7_forget_b2 n v (nI q) (cv_sR τ 26 g) = some (cv_sR τ 26 g') ∧ ∀ y, g' y = if q ≤ y ∧ y < 8 ∧ bt v y = true then -1 else g y := by
  intro n
  induction n with
  | zero => intro q g h; omega
  | succ n ih =>
    intro q g hn hq
    show ∃ g', B_X7_forget_b2 (F_X7_forget_b2 n) v (nI q) (cv_sR τ 26 g) = _ ∧ _
    unfold B_X7_forget_b2 F_X7_forget_b23
    rw [show (8 : Int32) = nI 8 from rfl, m_lei (by omega) (by omega)]
    by_cases h8 : 8 ≤ q
    · rw [if_pos h8]
      exact ⟨g, rfl, fun y => (if_neg (by omega)).symm⟩
    · rw [if_neg h8, c_contains (by omega), m_bi, m_b0i]
      cases hb : bt v q with
      | false =>
        rw [if_pos rfl, m_i1, m_add]
        obtain ⟨g', k1, k2⟩ := ih (q + 1) g (by omega) (by omega)
        refine ⟨g', k1, fun y => ?_⟩
        rw [k2 y]
        by_cases hy : q + 1 ≤ y ∧ y < 8 ∧ bt v y = true
        · rw [if_pos hy, if_pos ⟨by omega, hy.2.1, hy.2.2⟩]
        · rw [if_neg hy, if_neg (fun z => hy ⟨by
            have : y ≠ q := fun w => by rw [w, hb] at z; cases z.2.2
            omega, z.2.1, z.2.2⟩)]
      | true =>
        rw [if_neg (by simp), m_st (by omega) (by decide), m_AR, m_i1, m_add]
        obtain ⟨g', k1, k2⟩ := ih (q + 1) (upd g q (-1)) (by omega) (by omega)
        refine ⟨g', k1, fun y => ?_⟩
        rw [k2 y]
        by_cases hyq : y = q
        · rw [if_neg (by omega), hyq, m_u_eq, if_pos ⟨Nat.le_refl _, by omega, hb⟩]
        · rw [m_u_ne hyq]
          by_cases hy : q + 1 ≤ y ∧ y < 8 ∧ bt v y = true
          · rw [if_pos hy, if_pos ⟨by omega, hy.2.1, hy.2.2⟩]
          · rw [if_neg hy, if_neg (fun z => hy ⟨by omega, z.2.1, z.2.2⟩)]
theorem c_step (hc : m_cc 14 15 16 τ p) (ho : m_ok p) (hf : f < 8) (hi : i < m_cn p f) {d e : Nat} (hd : d ≤ 6) (h24 : τ.1 24 (f * 15 + i) = nI d) (he : m_gr (m_kd p f i) d = some e) :
    ∃ υ, F_X7_step (nI f) (nI i) τ = some υ ∧ m_fr [26] [] τ υ ∧ ∀ q, q < 8 + e → υ.1 26 q = m_do p (τ.1 23) f i d (τ.1 26) q := by
  have h14 := m_cn14 ho hf
  have hv := m_val_k (m_vl ho hf hi)
  unfold F_X7_step
  rw [c_kindAt hc ho hf hi, m_bi, c_numberAt hc ho hf hi, m_bi, m_j15, m_ld (by omega) (by decide), h24, m_eqki (by omega) (by decide), m_eqki (by omega) (by decide), m_eqki (by omega) (by decide)]
  unfold m_do
  unfold m_gr at he
  by_cases h4 : m_kd p f i = 100
  · have ha := m_fa8 ho hf hi (by omega)
    rw [if_pos h4, m_num_c (by omega), m_st (by omega) (by decide)]
    refine ⟨_, rfl, m_fr.A (by decide), fun q hq => ?_⟩
    rw [if_neg (show ¬ m_kd p f i = 43 by omega), if_neg (show ¬ m_kd p f i = 45 by omega), if_neg (show ¬ m_kd p f i = 99 by omega), if_pos h4, m_A_eq]
    by_cases hz : q = m_fa p f i
    · rw [hz, m_u_eq, if_pos rfl]
    · rw [m_u_ne hz, if_neg hz]
  · rw [if_neg h4]
    by_cases h5 : m_kd p f i = 109
    · have ha := m_fa8 ho hf hi (by omega)
      have hn : m_num (m_kd p f i) (m_fa p f i) (m_sb p f i) = 10 * m_fa p f i + m_sb p f i := if_pos h5
      rw [if_pos h5, hn, m_mod10 (by omega) (by omega), m_div10 (by omega) (by omega), m_ld (by omega) (by decide), m_st (by omega) (by decide)]
      refine ⟨_, rfl, m_fr.A (by decide), fun q hq => ?_⟩
      rw [if_neg (show ¬ m_kd p f i = 43 by omega), if_neg (show ¬ m_kd p f i = 45 by omega), if_neg (show ¬ m_kd p f i = 99 by omega), if_neg h4, if_pos h5, m_A_eq]
      by_cases hz : q = m_fa p f i
      · rw [hz, m_u_eq, if_pos rfl]
      · rw [m_u_ne hz, if_neg hz]
    · rw [if_neg h5, m_num_c h5]
      by_cases h1 : m_kd p f i = 43
      · have ha := m_fa8 ho hf hi (by omega)
        rw [if_pos h1] at he
        split at he
        · cases he
          rw [if_pos h1, show (6 : Int32) = nI 6 from rfl, m_lei (by omega) (by omega), if_neg (by omega), m_ld (by omega) (by decide), show (8 : Int32) = nI 8 from rfl, m_add, m_st (by omega) (by decide)]
          refine ⟨_, rfl, m_fr.A (by decide), fun q hq => ?_⟩
          rw [if_pos h1, m_A_eq]
          by_cases hz : q = 8 + d
          · rw [hz, m_u_eq, if_pos rfl]
          · rw [m_u_ne hz, if_neg hz]
        · cases he
      · rw [if_neg h1] at he ⊢
        unfold F_X7_step_b113
        rw [m_eqki (by omega) (by decide)]
        by_cases h2 : m_kd p f i = 45
        · have ha := m_fa8 ho hf hi (by omega)
          rw [if_pos h2] at he
          split at he
          · cases he
            have hs : nI (8 + d) - 1 = nI (8 + d - 1) := by
              have := nI_add (8 + d - 1) 1
              rw [show 8 + d - 1 + 1 = 8 + d by omega] at this
              rw [← this, show (1 : Int32) = nI 1 from rfl, Int32.add_sub_cancel]
            rw [if_pos h2, show (0 : Int32) = nI 0 from rfl, m_lei (by omega) (by omega), if_neg (by omega), show (8 : Int32) = nI 8 from rfl, m_add, hs, m_ld (by omega) (by decide), m_st (by omega) (by decide)]
            refine ⟨_, rfl, m_fr.A (by decide), fun q hq => ?_⟩
            rw [if_neg h1, if_pos h2, m_A_eq]
            by_cases hz : q = m_fa p f i
            · rw [hz, m_u_eq, if_pos rfl]
            · rw [m_u_ne hz, if_neg hz]
          · cases he
        · rw [if_neg h2]
          unfold F_X7_step_b146
          rw [m_eqki (by omega) (by decide)]
          by_cases h3 : m_kd p f i = 99
          · have ha := m_fa8 ho hf hi (by omega)
            rw [if_pos h3]
            unfold F_X7_clobbered F_X7_forget
            rw [m_ld (by omega) (by decide), m_bi]
            obtain ⟨g', k1, k2⟩ := c_forget (τ := τ) (v := 255 &&& (τ.1 23 (m_fa p f i) ^^^ (-1))) 1000 0 (τ.1 26) (by omega) (by omega)
            rw [m_Rid] at k1
            have k1 : F_X7_forget_b2 1000 (255 &&& (τ.1 23 (m_fa p f i) ^^^ (-1))) 0 τ = _ := k1
            rw [k1, m_bv]
            refine ⟨_, rfl, m_fr.R (by decide), fun q hq => ?_⟩
            rw [if_neg h1, if_neg h2, if_pos h3, m_R_eq, k2 q]
            by_cases h8 : q < 8
            · have hbb : bt (255 &&& (τ.1 23 (m_fa p f i) ^^^ (-1))) q = !bt (τ.1 23 (m_fa p f i)) q := by rw [b_and, b_255, b_xor, b_m1 q (by omega), decide_eq_true h8, Bool.true_and, Bool.xor_true]
              rw [hbb]
              cases bt (τ.1 23 (m_fa p f i)) q with
              | true => rw [if_neg (fun z => by cases z.2.2), if_neg (fun z => by cases z.2)]
              | false => rw [if_pos ⟨by omega, h8, rfl⟩, if_pos ⟨h8, rfl⟩]
            · rw [if_neg (fun z => h8 z.2.1), if_neg (fun z => h8 z.1)]
          · rw [if_neg h3]
            refine ⟨_, rfl, m_fr.rfl', fun q hq => ?_⟩
            rw [if_neg h1, if_neg h2, if_neg h3, if_neg h4, if_neg h5]
theorem c_mg_loop {x : Nat} (hx : x < 15) (c : Bool) : ∀ (n q : Nat) (g : Nat → Int32), 14 - q < n → q ≤ 14 →
    ∃ g', F_X7_merge_b19 n (nI x) (m_b (!c)) (nI q) (cv_sR τ 25 g) = some (cv_sF (cv_sR τ 25 g') 6 (τ.2.1 6 ||| m_bit x)) ∧ (∀ y, q ≤ y → y < 14 → g' (x * 14 + y) = m_mg c (g (x * 14 + y)) (τ.1 26 y)) ∧ ∀ j, (j < x * 14 + q ∨ x * 14 + 14 ≤ j) → g' j = g j := by
  intro n
  induction n with
  | zero => intro q g h; omega
  | succ n ih =>
    intro q g hn hq
    show ∃ g', B_X7_merge_b19 (F_X7_merge_b19 n) (nI x) (m_b (!c)) (nI q) (cv_sR τ 25 g) = _ ∧ _
    unfold B_X7_merge_b19 F_X7_merge_b77
    rw [show (14 : Int32) = nI 14 from rfl, m_lei (by omega) (by omega)]
    by_cases h14 : 14 ≤ q
    · rw [if_pos h14, m_pui]
      exact ⟨g, rfl, fun y _ _ => by omega, fun _ _ => rfl⟩
    · have hstep : ∀ v, v = m_mg c (g (x * 14 + q)) (τ.1 26 q) → ∃ g', F_X7_merge_b19 n (nI x) (m_b (!c)) (nI (q + 1)) (cv_sR τ 25 (upd g (x * 14 + q) v)) = some (cv_sF (cv_sR τ 25 g') 6 (τ.2.1 6 ||| m_bit x)) ∧ (∀ y, q ≤ y → y < 14 → g' (x * 14 + y) = m_mg c (g (x * 14 + y)) (τ.1 26 y)) ∧ ∀ j, (j < x * 14 + q ∨ x * 14 + 14 ≤ j) → g' j = g j := by
        intro v hv
        obtain ⟨g', k1, k2, k3⟩ := ih (q + 1) (upd g (x * 14 + q) v) (by omega) (by omega)
        refine ⟨g', k1, fun y hy1 hy2 => ?_, fun j hj => ?_⟩
        · by_cases hyq : y = q
          · rw [hyq, k3 _ (by omega), m_u_eq, hv]
          · rw [k2 y (by omega) hy2, m_u_ne (by omega)]
        · rw [k3 j (by omega), m_u_ne (by omega)]
      rw [if_neg h14, m_b0i, m_i1, m_add, m_mul, m_add]
      cases c with
      | true =>
        rw [if_pos (show (!true) = false from rfl), m_ld (by omega) (by decide), m_R_eq, m_ld (by omega) (by decide), m_R_ne (by decide)]
        by_cases hv : g (x * 14 + q) = τ.1 26 q
        · rw [if_pos hv]
          have := hstep (g (x * 14 + q)) (by rw [show m_mg true (g (x * 14 + q)) (τ.1 26 q) = τ.1 26 q from if_pos (Or.inr hv)]; exact hv)
          rw [m_upd_self] at this
          exact this
        · rw [if_neg hv, m_st (by omega) (by decide), m_AR]
          exact hstep _ (if_neg (fun z => z.elim (fun z => by cases z) hv)).symm
      | false =>
        rw [if_neg (show ¬ (!false) = false from by simp), m_ld (by omega) (by decide), m_R_ne (by decide), m_st (by omega) (by decide), m_AR]
        exact hstep _ (m_mg_f _ _).symm
def m_CL (p : m_P) (f : Nat) (H : Nat → Option Nat) (b : Nat → Bool) (R : Nat → Nat → Int32) (τ : cv_St) : Prop := (∀ x, x ≤ m_cn p f → bt (τ.2.1 6) (m_nd p f x) = b x) ∧ ∀ x d, x ≤ m_cn p f → H x = some d → b x = true → ∀ q, q < 8 + d → τ.1 25 (m_nd p f x * 14 + q) = R x q
theorem c_merge (ho : m_ok p) (hf : f < 8) {H : Nat → Option Nat} {b : Nat → Bool} {R : Nat → Nat → Int32} (hH : ∀ x d, H x = some d → d ≤ 6) (hr : m_CL p f H b R τ) {x e : Nat} (hx : x ≤ m_cn p f) (he : H x = some e) {N : Nat → Int32} (hN : ∀ q, q < 8 + e → τ.1 26 q = N q) :
    ∃ υ, F_X7_merge (nI (m_nd p f x)) τ = some υ ∧ m_fr [25] [6] τ υ ∧ m_CL p f H (fun y => b y || decide (y = x)) (fun y q => if y = x then m_mg (b x) (R x q) (N q) else R y q) υ := by
  have l := m_nd_lt ho hf hx
  have he6 := hH x e he
  unfold F_X7_merge
  rw [c_contains (by omega), m_bi, m_b0i, hr.1 x hx]
  obtain ⟨g', k1, k2, k3⟩ := c_mg_loop (τ := τ) l (b x) 1000 0 (τ.1 25) (by omega) (by omega)
  rw [m_Rid] at k1
  refine ⟨cv_sF (cv_sR τ 25 g') 6 (τ.2.1 6 ||| m_bit (m_nd p f x)), ?_, (m_fr.R (k := 25) (by decide)).trans (m_fr.F (k := 6) (by decide)), fun y hy => ?_, fun y d hy hyd hby q hq => ?_⟩
  · unfold F_X7_merge_b16
    cases hb : b x with
    | false =>
      rw [hb, show m_b (!false) = 1 from rfl] at k1
      rw [if_pos rfl]; exact k1
    | true =>
      rw [hb, show m_b (!true) = 0 from rfl] at k1
      rw [if_neg (by simp)]; exact k1
  · rw [m_F_eq, b_or, hr.1 y hy, b_bit (by omega), show decide (m_nd p f y = m_nd p f x) = decide (y = x) from decide_eq_decide.mpr (m_nd_inj ho hf hy hx)]
  · rw [m_F_1, m_R_eq]
    have hd6 := hH y d hyd
    have ly := m_nd_lt ho hf hy
    show _ = if y = x then _ else _
    by_cases hyx : y = x
    · subst hyx
      rw [hyd] at he; cases he
      rw [if_pos rfl, k2 q (by omega) (by omega), hN q hq]
      cases hb : b y with
      | false => exact (m_mg_f _ _).trans (m_mg_f _ _).symm
      | true => rw [hr.2 y _ hy hyd hb q hq]
    · have hne : m_nd p f y ≠ m_nd p f x := fun w => hyx ((m_nd_inj ho hf hy hx).mp w)
      rw [if_neg hyx, k3 _ (by omega)]
      have hby : (b y || decide (y = x)) = true := hby
      rw [decide_eq_false hyx, Bool.or_false] at hby
      exact hr.2 y d hy hyd hby q hq
theorem c_kb_end (ho : m_ok p) (hf : f < 8) : ∀ (n q : Nat), 8 - q < n → q ≤ 8 → F_X7_keptBy_b147 n (m_bs (fun q => decide (τ.1 25 (196 + q) = nI q)) q) (nI q) τ = some (m_bs (fun q => decide (τ.1 25 (196 + q) = nI q)) 8, τ) := by
  intro n
  induction n with
  | zero => intro q h; omega
  | succ n ih =>
    intro q hn hq
    show B_X7_keptBy_b147 (F_X7_keptBy_b147 n) _ _ _ = _
    unfold B_X7_keptBy_b147
    rw [show (8 : Int32) = nI 8 from rfl, m_lei (by omega) (by omega)]
    by_cases h8 : 8 ≤ q
    · rw [if_pos h8, show q = 8 by omega]
    · rw [if_neg h8, show (196 : Int32) = nI 196 from rfl, m_add, m_ld (by omega) (by decide)]
      unfold F_X7_keptBy_b173
      have := ih (q + 1) (by omega) (by omega)
      by_cases hv : τ.1 25 (196 + q) = nI q
      · rw [if_pos hv, m_i1, m_add, ← this]
        show F_X7_keptBy_b147 n _ _ τ = F_X7_keptBy_b147 n (m_bs _ q ||| (if decide (τ.1 25 (196 + q) = nI q) = true then m_bit q else 0)) _ τ
        rw [if_pos (decide_eq_true hv)]; rfl
      · rw [if_neg hv, m_i1, m_add, ← this]
        show F_X7_keptBy_b147 n _ _ τ = F_X7_keptBy_b147 n (m_bs _ q ||| (if decide (τ.1 25 (196 + q) = nI q) = true then m_bit q else 0)) _ τ
        rw [if_neg (fun z => hv (of_decide_eq_true z)), b_or0]
theorem m_CL_eq {H : Nat → Option Nat} {b b' : Nat → Bool} {R R' : Nat → Nat → Int32} (h : m_CL p f H b R τ) (hb : ∀ x, x ≤ m_cn p f → b x = b' x) (hR : ∀ x q, x ≤ m_cn p f → R x q = R' x q) : m_CL p f H b' R' τ := ⟨fun x hx => (h.1 x hx).trans (hb x hx), fun x d hx hd hbx q hq => (h.2 x d hx hd ((hb x hx).trans hbx) q hq).trans (hR x q hx)⟩
theorem c_kb_loop (hc : m_cc 14 15 16 σ p) (ho : m_ok p) (hf : f < 8) (hF : m_CF p σ 8) {H : Nat → Option Nat} (hH : m_hs p f (m_cn p f) = some H) (hE : H (m_cn p f) = some 0) (h24 : ∀ y, y ≤ m_cn p f → σ.1 24 (f * 15 + m_nd p f y) = m_eh (H y)) : ∀ (n i : Nat) (τ : cv_St), m_cn p f - i < n → i ≤ m_cn p f → m_fr [25, 26] [6] σ τ → m_CL p f H (m_rs p f i) (m_ro p (σ.1 23) f i) τ →
    ∃ υ, F_X7_keptBy_b50 n (nI f) (nI i) τ = some (m_kb p (σ.1 23) f, υ) ∧ m_fr [25, 26] [6] σ υ := by
  have h14 := m_cn14 ho hf
  obtain ⟨a1, a2⟩ := m_hs_rs _ H (Nat.le_refl _) hH
  intro n
  induction n with
  | zero => intro i τ h; omega
  | succ n ih =>
    intro i τ hn hi hfr hr
    have hcR := hc.fr hfr (by decide) (by decide) (by decide)
    have hFR : m_CF p τ 8 := fun f hf => by rw [hfr.1 20 (by decide), hfr.1 21 (by decide)]; exact hF f hf
    show ∃ υ, B_X7_keptBy_b50 (F_X7_keptBy_b50 n) (nI f) (nI i) τ = _ ∧ _
    unfold B_X7_keptBy_b50
    rw [m_ld (by omega) (by decide), c_cnt hcR hf, m_lei (by omega) (by omega)]
    by_cases hq : m_cn p f ≤ i
    · have he : i = m_cn p f := by omega
      subst he
      rw [if_pos hq]
      have := c_kb_end (τ := τ) ho hf 1000 0 (by omega) (by omega)
      have this : F_X7_keptBy_b147 1000 0 0 τ = _ := this
      rw [this]
      refine ⟨τ, ?_, hfr⟩
      unfold m_kb
      refine congrArg (fun v => some (v, τ)) (m_bs_ext 8 (fun q hq => ?_))
      have e1 := hr.2 _ 0 (Nat.le_refl _) hE m_rh_end q (by omega)
      rw [m_nd_end] at e1
      show decide (τ.1 25 (14 * 14 + q) = nI q) = decide (_ = nI q)
      rw [e1]
    · have hlt : i < m_cn p f := by omega
      rw [if_neg hq, c_reaches hFR ho hf hlt, m_bi, m_b0i]
      by_cases hrh : m_rh p f i = false
      · rw [if_pos hrh]
        unfold F_X7_keptBy_b137
        rw [m_i1, m_add]
        have hii : m_rs p f i i = false := by rw [← m_rh_at hi]; exact hrh
        refine ih (i + 1) τ (by omega) (by omega) hfr (m_CL_eq hr (fun x hx => ?_) (fun x q hx => ?_))
        · show _ = (m_rs p f i x || (m_rs p f i i && _))
          rw [hii, Bool.false_and, Bool.or_false]
        · show _ = if m_rh p f i = true ∧ (x = m_nx p f i 0 ∨ x = m_nx p f i 1) then _ else _
          rw [if_neg (by rw [hrh]; simp)]
      · have hrh' : m_rh p f i = true := by simpa using hrh
        have hii : m_rs p f i i = true := by rw [← m_rh_at hi]; exact hrh'
        have hsome : (H i).isSome = true := by rw [a1 i]; exact hrh'
        obtain ⟨d, hd⟩ := Option.isSome_iff_exists.mp hsome
        have hd6 := a2 i d hd
        obtain ⟨hht, e, he1, he2, he3⟩ := m_hs_go hH hlt hd
        rw [if_neg hrh, show (14 : Int32) = nI 14 from rfl, m_mul, m_cpy (by omega) (by omega) (by decide)]
        have hfrC : m_fr [25, 26] [6] σ (cv_sR τ 26 (va_cpy (τ.1 25) (τ.1 26) (i * 14) 0 14)) := hfr.trans (m_fr.R (by decide))
        have h24i : (cv_sR τ 26 (va_cpy (τ.1 25) (τ.1 26) (i * 14) 0 14)).1 24 (f * 15 + i) = nI d := by
          have := h24 i hi
          rw [m_nd_at hlt, hd] at this
          rw [hfrC.1 24 (by decide)]; exact this
        obtain ⟨υ, k1, k2, k3⟩ := c_step (hc.fr hfrC (by decide) (by decide) (by decide)) ho hf hlt hd6 h24i he1
        have hfr2 : m_fr [25, 26] [6] σ υ := hfrC.trans (k2.mono (by decide) (by decide))
        have hN : ∀ q, q < 8 + e → υ.1 26 q = m_do p (σ.1 23) f i d (m_ro p (σ.1 23) f i i) q := fun q hq => by
          rw [k3 q hq, hfrC.1 23 (by decide)]
          refine m_do_ag ho hf hlt (fun y hy => ?_) he1 q hq
          rw [m_R_eq, m_cpy_at (by omega)]
          have := hr.2 i d hi hd hii y hy
          rw [m_nd_at hlt] at this
          exact this
        have hrυ : m_CL p f H (m_rs p f i) (m_ro p (σ.1 23) f i) υ := ⟨fun x hx => by rw [k2.2.1 6 (by decide)]; exact hr.1 x hx, fun x d' hx hxd hb q hq => by rw [k2.1 25 (by decide), m_R_ne (by decide)]; exact hr.2 x d' hx hxd hb q hq⟩
        have l0 := m_nd_lt ho hf (m_nx_le p f i 0)
        have l1 := m_nd_lt ho hf (m_nx_le p f i 1)
        have hc2 := hc.fr hfr2 (by decide) (by decide) (by decide)
        rw [k1, m_bv, c_next hc2 ho hf hlt, m_bi, c_other hc2 ho hf hlt, m_bi]
        obtain ⟨ω, j1, j2, j3⟩ := c_merge ho hf a2 hrυ (m_nx_le p f i 0) he2 hN
        have hfr3 : m_fr [25, 26] [6] σ ω := hfr2.trans (j2.mono (by decide) (by decide))
        rw [j1, m_bv, m_eqi (by omega) (by omega)]
        have hrs : ∀ x, m_rs p f (i + 1) x = (m_rs p f i x || (decide (x = m_nx p f i 0) || decide (x = m_nx p f i 1))) := fun x => by
          show (m_rs p f i x || (m_rs p f i i && _)) = _
          rw [hii, Bool.true_and]
        have hro : ∀ x q, m_ro p (σ.1 23) f (i + 1) x q = if x = m_nx p f i 0 ∨ x = m_nx p f i 1 then m_mg (m_rs p f i x) (m_ro p (σ.1 23) f i x q) (m_do p (σ.1 23) f i d (m_ro p (σ.1 23) f i i) q) else m_ro p (σ.1 23) f i x q := fun x q => by
          show (if m_rh p f i = true ∧ (x = m_nx p f i 0 ∨ x = m_nx p f i 1) then _ else _) = _
          rw [hht]
          by_cases hz : x = m_nx p f i 0 ∨ x = m_nx p f i 1
          · rw [if_pos hz, if_pos ⟨hrh', hz⟩]
          · rw [if_neg hz, if_neg (fun w => hz w.2)]
        unfold F_X7_keptBy_b137
        rw [m_i1, m_add]
        by_cases h10 : m_nd p f (m_nx p f i 1) = m_nd p f (m_nx p f i 0)
        · have h10' := (m_nd_inj ho hf (m_nx_le p f i 1) (m_nx_le p f i 0)).mp h10
          rw [if_pos h10]
          refine ih (i + 1) ω (by omega) (by omega) hfr3 (m_CL_eq j3 (fun x hx => ?_) (fun x q hx => ?_))
          · rw [hrs x, h10', Bool.or_self]
          · rw [hro x q, h10']
            show (if x = m_nx p f i 0 then m_mg (m_rs p f i (m_nx p f i 0)) _ _ else _) = _
            by_cases x0 : x = m_nx p f i 0
            · rw [if_pos x0, if_pos (Or.inl x0), x0]
            · rw [if_neg x0, if_neg (fun z => z.elim x0 x0)]
        · have h10' : ¬ m_nx p f i 1 = m_nx p f i 0 := fun w => h10 (by rw [w])
          rw [if_neg h10]
          obtain ⟨ψ, q1, q2, q3⟩ := c_merge (N := m_do p (σ.1 23) f i d (m_ro p (σ.1 23) f i i)) ho hf a2 j3 (m_nx_le p f i 1) he3 (fun q hq => by rw [j2.1 26 (by decide)]; exact hN q hq)
          have hfr4 : m_fr [25, 26] [6] σ ψ := hfr3.trans (q2.mono (by decide) (by decide))
          rw [q1, m_bv]
          refine ih (i + 1) ψ (by omega) (by omega) hfr4 (m_CL_eq q3 (fun x hx => ?_) (fun x q hx => ?_))
          · rw [hrs x]
            show ((m_rs p f i x || decide (x = m_nx p f i 0)) || decide (x = m_nx p f i 1)) = _
            rw [Bool.or_assoc]
          · rw [hro x q]
            show (if x = m_nx p f i 1 then m_mg (m_rs p f i (m_nx p f i 1) || decide (m_nx p f i 1 = m_nx p f i 0)) (if m_nx p f i 1 = m_nx p f i 0 then _ else m_ro p (σ.1 23) f i (m_nx p f i 1) q) _ else if x = m_nx p f i 0 then m_mg (m_rs p f i (m_nx p f i 0)) (m_ro p (σ.1 23) f i (m_nx p f i 0) q) _ else _) = _
            by_cases x1 : x = m_nx p f i 1
            · rw [if_pos x1, if_pos (Or.inr x1), if_neg h10', decide_eq_false h10', Bool.or_false, x1]
            · rw [if_neg x1]
              by_cases x0 : x = m_nx p f i 0
              · rw [if_pos x0, if_pos (Or.inl x0), x0]
              · rw [if_neg x0, if_neg (fun z => z.elim x0 x1)]
theorem c_kb_ini (hc : m_cc 14 15 16 σ p) (ho : m_ok p) (hf : f < 8) (hF : m_CF p σ 8) {H : Nat → Option Nat} (hH : m_hs p f (m_cn p f) = some H) (hE : H (m_cn p f) = some 0) (h24 : ∀ y, y ≤ m_cn p f → σ.1 24 (f * 15 + m_nd p f y) = m_eh (H y)) : ∀ (n i : Nat) (g : Nat → Int32), 14 - i < n → i ≤ 14 → (∀ q, q < i → g q = if q < 8 then nI q else -1) →
    ∃ υ, F_X7_keptBy_b2 n (nI f) (nI i) (cv_sR σ 26 g) = some (m_kb p (σ.1 23) f, υ) ∧ m_fr [25, 26] [6] σ υ := by
  have h14 := m_cn14 ho hf
  obtain ⟨a1, a2⟩ := m_hs_rs _ H (Nat.le_refl _) hH
  intro n
  induction n with
  | zero => intro i g h; omega
  | succ n ih =>
    intro i g hn hi hg
    show ∃ υ, B_X7_keptBy_b2 (F_X7_keptBy_b2 n) (nI f) (nI i) (cv_sR σ 26 g) = _ ∧ _
    unfold B_X7_keptBy_b2
    rw [show (14 : Int32) = nI 14 from rfl, m_lei (by omega) (by omega)]
    by_cases hq : 14 ≤ i
    · rw [if_pos hq, m_pui]
      have hfr : m_fr [25, 26] [6] σ (cv_sF (cv_sR σ 26 g) 6 0) := (m_fr.R (by decide)).trans (m_fr.F (by decide))
      rw [c_entry (hc.fr hfr (by decide) (by decide) (by decide)) ho hf, m_bi]
      have hr0 : m_CL p f H (fun _ => false) (fun _ _ => 0) (cv_sF (cv_sR σ 26 g) 6 0) := ⟨fun x hx => by rw [m_F_eq, b_0], fun x d _ _ hb => by cases hb⟩
      obtain ⟨υ, k1, k2, k3⟩ := c_merge (N := g) ho hf a2 hr0 (Nat.zero_le _) (m_hs_0 hH) (fun q hq => by rw [m_F_1, m_R_eq])
      rw [k1, m_bv]
      refine c_kb_loop hc ho hf hF hH hE h24 1000 0 υ (by omega) (by omega) (hfr.trans (k2.mono (by decide) (by decide))) ⟨fun x hx => ?_, fun x d hx hd hb q hq => ?_⟩
      · rw [k3.1 x hx]; rfl
      · have hx0 : x = 0 := of_decide_eq_true hb
        have hd6 := a2 x d hd
        rw [k3.2 x d hx hd (by rw [hx0]; rfl) q hq]
        show (if x = 0 then m_mg false 0 (g q) else 0) = if q < 8 then nI q else -1
        rw [if_pos hx0, m_mg_f, hg q (by omega)]
    · rw [if_neg hq, show (8 : Int32) = nI 8 from rfl, m_lei (by omega) (by omega)]
      unfold F_X7_keptBy_b24
      by_cases h8 : 8 ≤ i
      · rw [if_pos h8, m_st (by omega) (by decide), m_AR, m_i1, m_add]
        refine ih (i + 1) _ (by omega) (by omega) (fun q hq => ?_)
        by_cases hqi : q = i
        · rw [hqi, m_u_eq, if_neg (by omega)]
        · rw [m_u_ne hqi]; exact hg q (by omega)
      · rw [if_neg h8, m_st (by omega) (by decide), m_AR, m_i1, m_add]
        refine ih (i + 1) _ (by omega) (by omega) (fun q hq => ?_)
        by_cases hqi : q = i
        · rw [hqi, m_u_eq, if_pos (by omega)]
        · rw [m_u_ne hqi]; exact hg q (by omega)
theorem c_keptBy (hc : m_cc 14 15 16 σ p) (ho : m_ok p) (hf : f < 8) (hF : m_CF p σ 8) (hb : m_bl p f = true) (h24 : ∀ H, m_hs p f (m_cn p f) = some H → ∀ y, y ≤ m_cn p f → σ.1 24 (f * 15 + m_nd p f y) = m_eh (H y)) : ∃ υ, F_X7_keptBy (nI f) σ = some (m_kb p (σ.1 23) f, υ) ∧ m_fr [25, 26] [6] σ υ := by
  obtain ⟨H, hH, hE⟩ := m_bl_H hb
  have := c_kb_ini hc ho hf hF hH hE (h24 H hH) 1000 0 (σ.1 26) (by omega) (by omega) (fun q hq => by omega)
  rw [m_Rid] at this
  exact this
end A42
