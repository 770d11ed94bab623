section A67
variable {p : m_P} {σ τ : cv_St} {xs : Nat → Int32} {L i j f : Nat} {k : Int32 → cv_St → Option (Int32 × cv_St)}
def g_C (p : m_P) (g : Nat) : Int32 := m_cal p g (m_cn p g)
theorem g_C8 (ho : m_ok p) : ∀ c, c < 8 → ∀ b, bt (g_C p c) b = true → b < 8 := fun c hc b hb => by
  obtain ⟨x, x1, x2, x3, x4⟩ := (b_cal ho hc _ (Nat.le_refl _) b).mp hb
  rw [← x4]
  exact m_fa8 ho hc x1 (by omega)
theorem c_rec_in (ho : m_ok p) (h : m_CA p σ) {K : Int32 → Int32 → cv_St → Option (Int32 × cv_St)} {v l3 : Int32} : ∀ (n c : Nat) (w : Int32), 8 - c < n → c ≤ 8 → g_sub v w → (∀ T, g_clo (g_C p) T → g_sub v T → g_sub w T) → (∀ x, x < c → bt v x = true → ∀ b, bt (g_C p x) b = true → bt w b = true) → ∃ w', F_X2_calledInAll_b21 K n v l3 w (nI c) σ = K w' (l3 + Int32.ofInt 1) σ ∧ g_rd (g_C p) v w' := by
  intro n
  induction n with
  | zero => intro c w h; omega
  | succ n ih =>
    intro c w hn hc h1 h2 h3
    show ∃ w', B_X2_calledInAll_b21 K (F_X2_calledInAll_b21 K n) v l3 w (nI c) σ = _ ∧ _
    unfold B_X2_calledInAll_b21 F_X2_calledInAll_b50
    rw [show (8 : Int32) = nI 8 from rfl, m_lei (by omega) (by omega)]
    by_cases hq : 8 ≤ c
    · rw [if_pos hq]
      exact ⟨w, rfl, g_rdm (g_C8 ho) h1 h2 (fun x hx => h3 x (by omega))⟩
    · have hc8 : c < 8 := by omega
      rw [if_neg hq, c_contains (by omega), m_bi, m_b0i, m_ld hc8 (by decide), (h.1 c hc8).2, m_i1, m_add, b_or0]
      by_cases hb : bt v c = false
      · rw [if_pos hb]
        refine ih (c + 1) w (by omega) (by omega) h1 h2 (fun x hx hv => ?_)
        have : x ≠ c := fun e => by rw [e, hb] at hv; cases hv
        exact h3 x (by omega) hv
      · rw [if_neg hb]
        have hb : bt v c = true := by cases hh : bt v c <;> simp_all
        refine ih (c + 1) (w ||| g_C p c) (by omega) (by omega) (fun b hv => ?_) (fun T t1 t2 b hv => ?_) (fun x hx hv b hb' => ?_)
        · rw [b_or, h1 b hv]; rfl
        · rw [b_or, Bool.or_eq_true] at hv
          rcases hv with hv | hv
          · exact h2 T t1 t2 b hv
          · exact t1 c hc8 (t2 c hb) b hv
        · rw [b_or, Bool.or_eq_true]
          by_cases hxc : x = c
          · rw [hxc] at hb'; exact Or.inr hb'
          · exact Or.inl (h3 x (by omega) hv b hb')
theorem c_rec (ho : m_ok p) (h : m_CA p σ) {v0 : Int32} : ∀ (n r : Nat) (v : Int32), 8 - r < n → 1 ≤ r → r ≤ 8 → g_cI (g_C p) v0 (r - 1) v → ∃ w, F_X2_calledInAll_b9 n v (nI r) σ = some (w, σ) ∧ g_cI (g_C p) v0 7 w := by
  intro n
  induction n with
  | zero => intro r v h; omega
  | succ n ih =>
    intro r v hn hr1 hr hv
    show ∃ w, B_X2_calledInAll_b9 (F_X2_calledInAll_b9 n) v (nI r) σ = _ ∧ _
    unfold B_X2_calledInAll_b9
    rw [show (8 : Int32) = nI 8 from rfl, m_lei (by omega) (by omega)]
    by_cases hq : 8 ≤ r
    · have hr8 : r = 8 := by omega
      rw [hr8] at hv
      rw [if_pos hq]
      exact ⟨v, rfl, hv⟩
    · obtain ⟨w, w1, w2⟩ := c_rec_in ho h (K := F_X2_calledInAll_b9 n) (v := v) (l3 := nI r) 1000 0 v (by omega) (by omega) (fun b hb => hb) (fun T _ t2 => t2) (fun x hx => absurd hx (Nat.not_lt_zero _))
      have w1 : F_X2_calledInAll_b21 (F_X2_calledInAll_b9 n) 1000 v (nI r) v 0 σ = F_X2_calledInAll_b9 n w (nI r + Int32.ofInt 1) σ := w1
      rw [if_neg hq, w1, m_i1, m_add]
      have := g_cIs hv w2
      rw [show r - 1 + 1 = r + 1 - 1 by omega] at this
      exact ih (r + 1) w (by omega) (by omega) (by omega) this
theorem r_rec_in (hc : m_mc 43 σ p) (ho : m_ok p) (hM : m_MA p σ) {K : Int32 → Int32 → Int32 → cv_St → Option (Int32 × cv_St)} {v l1 l3 : Int32} : ∀ (n c : Nat) (w : Int32), 8 - c < n → c ≤ 8 → g_sub v w → (∀ T, g_clo (g_C p) T → g_sub v T → g_sub w T) → (∀ x, x < c → bt v x = true → ∀ b, bt (g_C p x) b = true → bt w b = true) → ∃ w', F_X9_isRecursive_b46 K n l1 w l3 (nI c) σ = K l1 w' (l3 + Int32.ofInt 1) σ ∧ g_rd (g_C p) v w' := by
  intro n
  induction n with
  | zero => intro c w h; omega
  | succ n ih =>
    intro c w hn hcc h1 h2 h3
    show ∃ w', B_X9_isRecursive_b46 K (F_X9_isRecursive_b46 K n) l1 w l3 (nI c) σ = _ ∧ _
    unfold B_X9_isRecursive_b46 F_X9_isRecursive_b74
    rw [show (8 : Int32) = nI 8 from rfl, m_lei (by omega) (by omega)]
    by_cases hq : 8 ≤ c
    · rw [if_pos hq]
      exact ⟨w, rfl, g_rdm (g_C8 ho) h1 h2 (fun x hx => h3 x (by omega))⟩
    · have hc8 : c < 8 := by omega
      rw [if_neg hq, b_tst (by omega), r_calleesOf hc ho hM hc8, m_bi, m_i1, m_add, b_or0]
      cases hb : bt w c with
      | false =>
        rw [if_neg (by decide)]
        refine ih (c + 1) w (by omega) (by omega) h1 h2 (fun x hx hv => ?_)
        have : x ≠ c := fun e => by rw [e] at hv; rw [h1 c hv] at hb; cases hb
        exact h3 x (by omega) hv
      | true =>
        rw [if_pos (by decide)]
        refine ih (c + 1) (w ||| g_C p c) (by omega) (by omega) (fun b hv => ?_) (fun T t1 t2 b hv => ?_) (fun x hx hv b hb' => ?_)
        · rw [b_or, h1 b hv]; rfl
        · rw [b_or, Bool.or_eq_true] at hv
          rcases hv with hv | hv
          · exact h2 T t1 t2 b hv
          · exact t1 c hc8 (h2 T t1 t2 c hb) b hv
        · rw [b_or, Bool.or_eq_true]
          by_cases hxc : x = c
          · rw [hxc] at hb'; exact Or.inr hb'
          · exact Or.inl (h3 x (by omega) hv b hb')
theorem r_rec (hc : m_mc 43 σ p) (ho : m_ok p) (hM : m_MA p σ) (hf : f < 8) {v0 : Int32} : ∀ (n r : Nat) (v : Int32), 8 - r < n → r ≤ 8 → g_cI (g_C p) v0 r v → ∃ w, F_X9_isRecursive_b37 n (nI f) v (nI r) σ = some (m_b (bt w f), σ) ∧ g_cI (g_C p) v0 8 w := by
  intro n
  induction n with
  | zero => intro r v h; omega
  | succ n ih =>
    intro r v hn hr hv
    show ∃ w, B_X9_isRecursive_b37 (F_X9_isRecursive_b37 n) (nI f) v (nI r) σ = _ ∧ _
    unfold B_X9_isRecursive_b37
    rw [show (8 : Int32) = nI 8 from rfl, m_lei (by omega) (by omega)]
    by_cases hq : 8 ≤ r
    · have hr8 : r = 8 := by omega
      rw [hr8] at hv
      rw [if_pos hq, b_tst (by omega)]
      refine ⟨v, ?_, hv⟩
      cases bt v f with
      | false => rw [if_neg (by decide)]; rfl
      | true => rw [if_pos (by decide)]; rfl
    · obtain ⟨w, w1, w2⟩ := r_rec_in hc ho hM (K := F_X9_isRecursive_b37 n) (v := v) (l1 := nI f) (l3 := nI r) 1000 0 v (by omega) (by omega) (fun b hb => hb) (fun T _ t2 => t2) (fun x hx => absurd hx (Nat.not_lt_zero _))
      have w1 : F_X9_isRecursive_b46 (F_X9_isRecursive_b37 n) 1000 (nI f) v (nI r) 0 σ = F_X9_isRecursive_b37 n (nI f) w (nI r + Int32.ofInt 1) σ := w1
      rw [if_neg hq, w1, m_i1, m_add]
      exact ih (r + 1) w (by omega) (by omega) (g_cIs hv w2)
theorem l_isRecursive (h : m_X p σ) (hi : i + 2 < L) (hL : L ≤ 1536) : ∃ υ, F_L_law_b1254 xs L k (nI i) σ = k (nI i + Int32.ofInt 3) υ ∧ m_X p υ ∧ m_gf m_QA m_QS σ υ := by
  unfold F_L_law_b1254 F_L_law_b1308 F_L_law_b1314 F_L_law_b2188
  rw [m_idx1, m_ldS (by omega) hL]
  rcases m_ixc (xs (i + 1)) 8 (by decide) with hx | ⟨f, hf, hx⟩
  · have e1 : F_L_isRecursive (xs (i + 1)) σ = some (1, σ) := by
      unfold F_L_isRecursive F_X8_isRecursive
      rw [c_ckF0 hx, m_bx1 (by decide), m_bh1 (by decide) rfl]
    have e2 : F_X9_isRecursive (xs (i + 1)) σ = some (m_b false, cv_sF σ 17 1) := by
      unfold F_X9_isRecursive F_X9_isRecursive_b13
      rw [m_isF0 hx, m_bi, if_pos rfl, m_pui, m_F_eq, if_neg (by decide)]; rfl
    rw [e1, m_bi, m_ldS (by omega) hL, e2, m_bi, m_tailB m_F_eq (fun z => absurd z (by decide))]
    exact ⟨_, rfl, h.gf (m_F_gf (as := []) (ss := [17]) (by decide)) (by decide) (by decide), m_F_gf (by decide)⟩
  · rw [hx]
    obtain ⟨s1, a1, a2, a3, a4, a5, a6⟩ := c_fx h
    obtain ⟨V, v1, v2⟩ := c_rec h.1 a6 (v0 := g_C p f) 1000 1 (g_C p f) (by omega) (by omega) (by omega) (g_cI0 _ _)
    have v1 : F_X2_calledInAll_b9 1000 (g_C p f) 1 s1 = some (V, s1) := v1
    have v3 : F_X2_calledInAll (nI f) s1 = some (V, s1) := by
      unfold F_X2_calledInAll
      rw [m_ld hf (by decide), (a6.1 f hf).2]
      exact v1
    have e1 : F_L_isRecursive (nI f) σ = some (0, cv_sL s1 (vp_updL s1.2.2.1 0 (if bt V f = false then 0 else 1))) := by
      unfold F_L_isRecursive F_X8_isRecursive F_L_isRecursive_b15
      rw [c_ckF hf, m_bx0, a1, m_bv, v3, m_bi, c_contains (by omega), m_bi, m_rxzb, m_bh0, m_stL, m_stL, m_b0i]
      by_cases hb : bt V f = false
      · rw [if_pos hb, if_pos hb]
      · rw [if_neg hb, if_neg hb]
    have hX2 : m_X p (cv_sF (cv_sL s1 (vp_updL s1.2.2.1 0 (if bt V f = false then 0 else 1))) 17 0) := (a5.gf (m_L_gf (as := []) (ss := [])) (by decide) (by decide)).gf (m_F_gf (as := []) (ss := [17]) (by decide)) (by decide) (by decide)
    obtain ⟨s4, c1, c2, c3, c4, c5, c6⟩ := r_fx hX2
    obtain ⟨W, w1, w2⟩ := r_rec c5.2.2.1 h.1 c6 hf (v0 := g_C p f) 1000 0 (g_C p f) (by omega) (by omega) (g_cI0 _ _)
    have w1 : F_X9_isRecursive_b37 1000 (nI f) (g_C p f) 0 s4 = some (m_b (bt W f), s4) := w1
    have hVW : W = V := g_cI_eq (g_C8 h.1) w2 v2 (by omega) (by omega)
    have e2 : F_X9_isRecursive (nI f) (cv_sL s1 (vp_updL s1.2.2.1 0 (if bt V f = false then 0 else 1))) = some (m_b (bt V f), s4) := by
      unfold F_X9_isRecursive F_X9_isRecursive_b13
      rw [m_isF hf, m_bi, if_neg (by decide), m_pui, m_F_eq, if_pos (by decide), c1, m_bv, r_calleesOf c5.2.2.1 h.1 c6 hf, m_bi, ← hVW]
      exact w1
    rw [e1, m_bi, m_ldS (by omega) hL, hx, e2, m_bi, m_tailB (c4.trans m_F_eq) (fun _ => by rw [c3, m_F_22, m_L_out])]
    exact ⟨s4, rfl, c5, a2.trans (m_L_gf.trans ((m_F_gf (by decide)).trans c2))⟩
end A67
