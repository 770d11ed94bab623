theorem m_cpy {α : Type} {σ : cv_St} {k0 n0 k1 n1 s n : Nat} {K : cv_St → Option α} (h1 : s + n ≤ n0) (h2 : n ≤ n1) (h3 : n0 < 2147483648) : cv_cp σ k0 n0 k1 n1 (nI s) 0 (nI n) K = K (cv_sR σ k1 (va_cpy (σ.1 k0) (σ.1 k1) s 0 n)) := by
  unfold cv_cp
  rw [m_cl (by omega), m_cl (by omega), show (0 : Int32).toNatClampNeg = 0 from rfl, if_neg (fun z => by
    rcases z with z | z | z | z | z
    · exact nI_pos (by omega) z
    · exact absurd z (by decide)
    · exact nI_pos (by omega) z
    · omega
    · omega)]
theorem m_cpy_at {f g : Nat → Int32} {s n k : Nat} (h : k < n) : va_cpy f g s 0 n k = f (s + k) := by
  unfold va_cpy
  rw [if_pos ⟨Nat.zero_le _, by omega⟩, Nat.sub_zero]
section A41
variable {p : m_P} {σ τ : cv_St} {f i : Nat}
theorem r_do_call {a d : Nat} (ha : a < 8) : ∀ (n q : Nat) (g : Nat → Int32), 8 - q < n → q ≤ 8 →
    ∃ g', F_X9_does_b171 n (nI d) (nI a) (nI q) (cv_sR τ 54 g) = some (nI d, cv_sR τ 54 g') ∧ ∀ y, g' y = if q ≤ y ∧ y < 8 ∧ bt (τ.1 51 a) y = false then -1 else g y := by
  intro n
  induction n with
  | zero => intro q g h; omega
  | succ n ih =>
    intro q g hn hq
    show ∃ g', B_X9_does_b171 (F_X9_does_b171 n) (nI d) (nI a) (nI q) (cv_sR τ 54 g) = _ ∧ _
    unfold B_X9_does_b171
    rw [show (8 : Int32) = nI 8 from rfl, m_lei (by omega) (by omega)]
    by_cases h8 : 8 ≤ q
    · rw [if_pos h8]
      exact ⟨g, rfl, fun y => (if_neg (by omega)).symm⟩
    · rw [if_neg h8, m_ld ha (by decide), m_R_ne (by decide), b_tst (by omega), m_b1i]
      cases hb : bt (τ.1 51 a) q with
      | true =>
        rw [if_pos rfl, m_ld (by omega) (by decide), m_R_eq]
        unfold F_X9_does_b211
        rw [m_st (by omega) (by decide), m_AR, m_i1, m_add, m_upd_self]
        obtain ⟨g', k1, k2⟩ := ih (q + 1) g (by omega) (by omega)
        refine ⟨g', k1, fun y => ?_⟩
        rw [k2 y]
        by_cases hy : q + 1 ≤ y ∧ y < 8 ∧ bt (τ.1 51 a) y = false
        · rw [if_pos hy, if_pos ⟨by omega, hy.2.1, hy.2.2⟩]
        · rw [if_neg hy, if_neg (fun z => hy ⟨by
            have : y ≠ q := fun w => by rw [w, hb] at z; cases z.2.2
            omega, z.2.1, z.2.2⟩)]
      | false =>
        rw [if_neg (by simp)]
        unfold F_X9_does_b211
        rw [m_st (by omega) (by decide), m_AR, m_i1, m_add]
        obtain ⟨g', k1, k2⟩ := ih (q + 1) (upd g q (-1)) (by omega) (by omega)
        refine ⟨g', k1, fun y => ?_⟩
        rw [k2 y]
        by_cases hyq : y = q
        · rw [if_neg (by omega), hyq, m_u_eq, if_pos ⟨Nat.le_refl _, by omega, hb⟩]
        · rw [m_u_ne hyq]
          by_cases hy : q + 1 ≤ y ∧ y < 8 ∧ bt (τ.1 51 a) y = false
          · rw [if_pos hy, if_pos ⟨by omega, hy.2.1, hy.2.2⟩]
          · rw [if_neg hy, if_neg (fun z => hy ⟨by omega, z.2.1, z.2.2⟩)]
theorem r_does (hc : m_mc 43 τ p) (ho : m_ok p) (hf : f < 8) (hi : i < m_cn p f) {d : Nat} (hd : d ≤ 6) :
    ∃ v υ, F_X9_does (nI f) (nI i) (nI d) τ = some (v, υ) ∧ m_fr [54] [] τ υ ∧ ((m_gr (m_kd p f i) d = none ∧ v < 0) ∨ ∃ e, m_gr (m_kd p f i) d = some e ∧ e ≤ 6 ∧ v = nI e ∧ ∀ q, q < 8 + e → υ.1 54 q = m_do p (τ.1 51) f i d (τ.1 54) q) := by
  have hv := m_val_k (m_vl ho hf hi)
  unfold F_X9_does
  rw [r_first hc ho hf hi, m_bi, r_kind hc ho hf hi, m_bi, m_eqki (by omega) (by decide)]
  unfold m_gr m_do
  by_cases h1 : m_kd p f i = 43
  · have ha := m_fa8 ho hf hi (by omega)
    rw [if_pos h1, if_pos h1, show (6 : Int32) = nI 6 from rfl, m_lei (by omega) (by omega)]
    by_cases h6 : 6 ≤ d
    · rw [if_pos h6]
      unfold F_X9_does_b116
      rw [show (6 : Int32) = nI 6 from rfl, m_lei (by omega) (by omega), if_pos h6]
      exact ⟨_, _, rfl, m_fr.rfl', Or.inl ⟨if_neg (by omega), by decide⟩⟩
    · rw [if_neg h6, m_ld (by omega) (by decide), show (8 : Int32) = nI 8 from rfl, m_add, m_st (by omega) (by decide)]
      unfold F_X9_does_b116
      rw [show (6 : Int32) = nI 6 from rfl, m_lei (by omega) (by omega), if_neg h6]
      refine ⟨_, _, rfl, m_fr.A (by decide), Or.inr ⟨d + 1, if_pos (by omega), by omega, nI_add d 1, fun q hq => ?_⟩⟩
      rw [if_pos h1, m_A_eq]
      by_cases hz : q = 8 + d
      · rw [hz, m_u_eq, if_pos rfl]
      · rw [m_u_ne hz, if_neg hz]
  · rw [if_neg h1, if_neg h1, m_eqki (by omega) (by decide)]
    by_cases h2 : m_kd p f i = 45
    · have ha := m_fa8 ho hf hi (by omega)
      rw [if_pos h2, if_pos h2, show (0 : Int32) = nI 0 from rfl, m_lei (by omega) (by omega)]
      unfold F_X9_does_b164
      by_cases h0 : d ≤ 0
      · rw [if_pos h0, show d = 0 by omega]
        exact ⟨_, _, rfl, m_fr.rfl', Or.inl ⟨rfl, by decide⟩⟩
      · have hs : nI (8 + d) - 1 = nI (8 + d - 1) := by
          have := nI_add (8 + d - 1) 1
          rw [show 8 + d - 1 + 1 = 8 + d by omega] at this
          rw [← this, show (1 : Int32) = nI 1 from rfl, Int32.add_sub_cancel]
        have hs2 : nI d - 1 = nI (d - 1) := by
          have := nI_add (d - 1) 1
          rw [show d - 1 + 1 = d by omega] at this
          rw [← this, show (1 : Int32) = nI 1 from rfl, Int32.add_sub_cancel]
        rw [if_neg h0, show (8 : Int32) = nI 8 from rfl, m_add, hs, m_ld (by omega) (by decide), m_st (by omega) (by decide), m_st (by omega) (by decide)]
        refine ⟨_, _, rfl, (m_fr.A (by decide)).trans (m_fr.A (by decide)), Or.inr ⟨d - 1, if_pos (by omega), by omega, hs2, fun q hq => ?_⟩⟩
        rw [if_neg h1, if_pos h2, m_A_eq, m_u_ne (by omega), m_A_eq]
        by_cases hz : q = m_fa p f i
        · rw [hz, m_u_eq, if_pos rfl]
        · rw [m_u_ne hz, if_neg hz]
    · rw [if_neg h2, if_neg h2, m_eqki (by omega) (by decide)]
      by_cases h3 : m_kd p f i = 99
      · have ha := m_fa8 ho hf hi (by omega)
        rw [if_pos h3]
        obtain ⟨g', k1, k2⟩ := r_do_call (τ := τ) (d := d) ha 1000 0 (τ.1 54) (by omega) (by omega)
        rw [m_Rid] at k1
        refine ⟨_, _, k1, m_fr.R (by decide), Or.inr ⟨d, rfl, hd, rfl, fun q hq => ?_⟩⟩
        rw [if_neg h1, if_neg h2, if_pos h3, m_R_eq, k2 q]
        by_cases hz : q < 8 ∧ bt (τ.1 51 (m_fa p f i)) q = false
        · rw [if_pos hz, if_pos ⟨by omega, hz⟩]
        · rw [if_neg hz, if_neg (fun w => hz w.2)]
      · rw [if_neg h3, m_eqki (by omega) (by decide)]
        by_cases h4 : m_kd p f i = 100
        · have ha := m_fa8 ho hf hi (by omega)
          rw [if_pos h4, m_st (by omega) (by decide)]
          refine ⟨_, _, rfl, m_fr.A (by decide), Or.inr ⟨d, rfl, hd, rfl, fun q hq => ?_⟩⟩
          rw [if_neg h1, if_neg h2, if_neg h3, if_pos h4, m_A_eq]
          by_cases hz : q = m_fa p f i
          · rw [hz, m_u_eq, if_pos rfl]
          · rw [m_u_ne hz, if_neg hz]
        · rw [if_neg h4, m_eqki (by omega) (by decide)]
          by_cases h5 : m_kd p f i = 109
          · have ha := m_fa8 ho hf hi (by omega)
            rw [if_pos h5, r_second hc ho hf hi, m_bi, m_ld (by omega) (by decide), m_st (by omega) (by decide)]
            refine ⟨_, _, rfl, m_fr.A (by decide), Or.inr ⟨d, rfl, hd, rfl, fun q hq => ?_⟩⟩
            rw [if_neg h1, if_neg h2, if_neg h3, if_neg h4, if_pos h5, m_A_eq]
            by_cases hz : q = m_fa p f i
            · rw [hz, m_u_eq, if_pos rfl]
            · rw [m_u_ne hz, if_neg hz]
          · rw [if_neg h5]
            refine ⟨_, _, rfl, m_fr.rfl', Or.inr ⟨d, rfl, hd, rfl, fun q hq => ?_⟩⟩
            rw [if_neg h1, if_neg h2, if_neg h3, if_neg h4, if_neg h5]
theorem r_fo_0 (hc : m_mc 43 τ p) (ho : m_ok p) (hf : f < 8) (hi : i ≤ 14) : ∀ n, 0 < n → F_X9_follows_b61 n (nI f) 0 (nI i) τ = some (0, τ) := by
  intro n hn
  obtain ⟨m, rfl⟩ : ∃ m, n = m + 1 := ⟨n - 1, by omega⟩
  show B_X9_follows_b61 (F_X9_follows_b61 m) (nI f) 0 (nI i) τ = _
  unfold B_X9_follows_b61 F_X9_follows_b167
  rw [m_ld (by omega) (by decide), if_pos (show (0 : Int32) = 0 from rfl)]
  split <;> rfl
theorem r_fo_in (hc : m_mc 43 τ p) (ho : m_ok p) (hf : f < 8) (hi : i < m_cn p f) {h : Nat → Option Nat} {R : Nat → Nat → Int32} (hh : ∀ x d, h x = some d → d ≤ 6) (hr : m_RL p f h R τ) {e : Nat} (he : e ≤ 6) {N : Nat → Int32} (hN : ∀ q, q < 8 + e → τ.1 54 q = N q) (k : Int32 → Int32 → Int32 → cv_St → Option (Int32 × cv_St)) (n : Nat) (hn : 3 ≤ n) :
    ∃ υ, F_X9_follows_b130 k n (nI f) 1 (nI i) (nI e) (nI 0) τ = k (nI f) (m_b ((m_hp h (m_nx p f i 0) e).bind (fun h' => m_hp h' (m_nx p f i 1) e)).isSome) (nI (i + 1)) υ ∧ m_fr [52, 53] [] τ υ ∧
      ∀ h'', (m_hp h (m_nx p f i 0) e).bind (fun h' => m_hp h' (m_nx p f i 1) e) = some h'' → m_RL p f h'' (fun x q => if x = m_nx p f i 0 ∨ x = m_nx p f i 1 then m_mg (h x).isSome (R x q) (N q) else R x q) υ := by
  have h14 := m_cn14 ho hf
  obtain ⟨m, rfl⟩ : ∃ m, n = m + 3 := ⟨n - 3, by omega⟩
  show ∃ υ, B_X9_follows_b130 k (F_X9_follows_b130 k (m + 2)) (nI f) 1 (nI i) (nI e) (nI 0) τ = _ ∧ _
  unfold B_X9_follows_b130
  rw [show (2 : Int32) = nI 2 from rfl, m_lei (by omega) (by omega), if_neg (by omega), if_neg (by decide), r_next hc ho hf hi (by omega), m_bi]
  obtain ⟨υ, a1, a2, a3⟩ := r_comes ho hf hh hr (m_nx_le p f i 0) he hN
  rw [a1, m_bi, m_i1, m_add]
  show ∃ υ', B_X9_follows_b130 k (F_X9_follows_b130 k (m + 1)) (nI f) _ (nI i) (nI e) (nI 1) υ = _ ∧ _
  unfold B_X9_follows_b130
  rw [show (2 : Int32) = nI 2 from rfl, m_lei (by omega) (by omega), if_neg (by omega), m_b0i]
  cases hp1 : m_hp h (m_nx p f i 0) e with
  | none =>
    rw [if_pos (show (none : Option (Nat → Option Nat)).isSome = false from rfl)]
    unfold F_X9_follows_b161
    rw [m_i1, m_add]
    exact ⟨υ, rfl, a2, fun h'' z => by cases z⟩
  | some h2 =>
    obtain ⟨b1, b2⟩ := m_hp_at hp1
    have hh2 : ∀ x d, h2 x = some d → d ≤ 6 := fun x d' hx => by
      by_cases hxx : x = m_nx p f i 0
      · rw [hxx, b1] at hx; cases hx; exact he
      · rw [b2 x hxx] at hx; exact hh x d' hx
    rw [if_neg (by simp), r_next (hc.fr a2 (by decide)) ho hf hi (by omega), m_bi]
    obtain ⟨ω, c1, c2, c3⟩ := r_comes (N := N) ho hf hh2 (a3 h2 hp1) (m_nx_le p f i 1) he (fun q hq => by rw [a2.1 54 (by decide)]; exact hN q hq)
    rw [c1, m_bi, m_i1, m_add]
    show ∃ υ', B_X9_follows_b130 k (F_X9_follows_b130 k m) (nI f) _ (nI i) (nI e) (nI 2) ω = _ ∧ _
    unfold B_X9_follows_b130
    rw [show (2 : Int32) = nI 2 from rfl, if_pos (Int32.le_refl _)]
    unfold F_X9_follows_b161
    rw [m_i1, m_add]
    refine ⟨ω, rfl, a2.trans c2, fun h'' hp2 => ?_⟩
    have hp2 : m_hp h2 (m_nx p f i 1) e = some h'' := hp2
    obtain ⟨d1, d2⟩ := c3 h'' hp2
    refine ⟨d1, fun x d hx hxd q hq => ?_⟩
    rw [d2 x d hx hxd q hq]
    show (if x = m_nx p f i 1 then m_mg (h2 (m_nx p f i 1)).isSome (if m_nx p f i 1 = m_nx p f i 0 then m_mg (h (m_nx p f i 0)).isSome (R (m_nx p f i 0) q) (N q) else R (m_nx p f i 1) q) (N q) else if x = m_nx p f i 0 then m_mg (h (m_nx p f i 0)).isSome (R (m_nx p f i 0) q) (N q) else R x q) = if x = m_nx p f i 0 ∨ x = m_nx p f i 1 then m_mg (h x).isSome (R x q) (N q) else R x q
    by_cases x1 : x = m_nx p f i 1
    · rw [if_pos x1, if_pos (Or.inr x1), x1]
      by_cases x0 : m_nx p f i 1 = m_nx p f i 0
      · rw [if_pos x0, x0, b1]; exact m_mg_2 _ _ _
      · rw [if_neg x0, b2 _ x0]
    · rw [if_neg x1]
      by_cases x0 : x = m_nx p f i 0
      · rw [if_pos x0, if_pos (Or.inl x0), x0]
      · rw [if_neg x0, if_neg (fun z => z.elim x0 x1)]
theorem m_hs_rh {h : Nat → Option Nat} (hi : i ≤ m_cn p f) (hh : m_hs p f i = some h) : (h i).isSome = m_rh p f i := by
  rw [m_rh_at hi]; exact (m_hs_rs i h hi hh).1 i
theorem r_fo_loop (hc : m_mc 43 σ p) (ho : m_ok p) (hf : f < 8) : ∀ (n i : Nat) (τ : cv_St) (h : Nat → Option Nat), m_cn p f - i + 1 < n → i ≤ m_cn p f → m_fr [52, 53, 54] [] σ τ → m_hs p f i = some h → m_RL p f h (m_ro p (σ.1 51) f i) τ →
    ∃ υ, F_X9_follows_b61 n (nI f) 1 (nI i) τ = some (m_b (m_bl p f), υ) ∧ m_fr [52, 53, 54] [] σ υ ∧ (m_bl p f = true → ∀ q, q < 8 → υ.1 53 (14 * m_cn p f + q) = m_ro p (σ.1 51) f (m_cn p f) (m_cn p f) q) := by
  have h14 := m_cn14 ho hf
  intro n
  induction n with
  | zero => intro i τ h q; omega
  | succ n ih =>
    intro i τ h hn hi hfr hh hr
    have hcR := hc.fr hfr (by decide)
    obtain ⟨a1, a2⟩ := m_hs_rs i h hi hh
    show ∃ υ, B_X9_follows_b61 (F_X9_follows_b61 n) (nI f) 1 (nI i) τ = _ ∧ _
    unfold B_X9_follows_b61
    rw [m_ld (by omega) (by decide), r_cnt hcR hf, m_lei (by omega) (by omega)]
    by_cases hq : m_cn p f ≤ i
    · have he : i = m_cn p f := by omega
      subst he
      rw [if_pos hq]
      unfold F_X9_follows_b167
      rw [if_neg (by decide), m_ld (by omega) (by decide), r_cnt hcR hf, m_ld (by omega) (by decide), hr.1 _ (Nat.le_refl _)]
      have hbl : m_bl p f = decide (h (m_cn p f) = some 0) := by unfold m_bl; rw [hh]
      have hiff : m_eh (h (m_cn p f)) = 0 ↔ h (m_cn p f) = some 0 := m_eh_inj (o := h (m_cn p f)) (e := 0) (a2 _) (by omega)
      refine ⟨τ, ?_, hfr, fun hb q hq8 => ?_⟩
      · rw [hbl]
        by_cases hz : h (m_cn p f) = some 0
        · rw [if_pos (hiff.mpr hz), m_rz1, decide_eq_true hz]; rfl
        · rw [if_neg (fun w => hz (hiff.mp w)), m_rz0, decide_eq_false hz]; rfl
      · rw [hbl] at hb
        exact hr.2 _ 0 (Nat.le_refl _) (of_decide_eq_true hb) q (by omega)
    · have hlt : i < m_cn p f := by omega
      have hs : m_hs p f (i + 1) = m_hi p f i h := by rw [m_hs_s, hh]; rfl
      have hii := m_hs_rh hi hh
      rw [if_neg hq, if_neg (by decide), m_ld (by omega) (by decide), hr.1 i hi]
      cases hd : h i with
      | none =>
        rw [hd] at hii
        rw [if_pos (show m_eh none < 0 from by decide)]
        unfold F_X9_follows_b161
        rw [m_i1, m_add]
        refine ih (i + 1) τ h (by omega) (by omega) hfr ?_ ⟨hr.1, fun x d hx hxd q hq => ?_⟩
        · rw [hs]; unfold m_hi; rw [hd]
        · rw [hr.2 x d hx hxd q hq]
          show _ = if m_rh p f i = true ∧ (x = m_nx p f i 0 ∨ x = m_nx p f i 1) then _ else _
          rw [if_neg (fun z => by rw [← hii] at z; cases z.1)]
      | some d =>
        have hd6 := a2 i d hd
        rw [hd] at hii
        have hs2 : m_hs p f (i + 1) = (m_gr (m_kd p f i) d).bind (fun e => (m_hp h (m_nx p f i 0) e).bind (fun h' => m_hp h' (m_nx p f i 1) e)) := by rw [hs]; unfold m_hi; rw [hd]
        have hht := m_ht_eq hh hd
        rw [if_neg (show ¬ m_eh (some d) < 0 from nI_pos (by omega))]
        rw [show (14 : Int32) = nI 14 from rfl, m_mul, m_cpy (by omega) (by omega) (by decide)]
        have hfrC : m_fr [52, 53, 54] [] σ (cv_sR τ 54 (va_cpy (τ.1 53) (τ.1 54) (14 * i) 0 14)) := hfr.trans (m_fr.R (by decide))
        rw [m_ld (by omega) (by decide), m_R_ne (by decide), hr.1 i hi, hd, show m_eh (some d) = nI d from rfl]
        obtain ⟨v, υ, k1, k2, k3⟩ := r_does (hc.fr hfrC (by decide)) ho hf hlt hd6
        have hfr2 : m_fr [52, 53, 54] [] σ υ := hfrC.trans (k2.mono (by decide) (by decide))
        rw [k1, m_bi]
        rcases k3 with ⟨k3, k4⟩ | ⟨e, k3, k4, k5, k6⟩
        · have hbf := m_bl_none (p := p) (f := f) (show i + 1 ≤ m_cn p f by omega) (by rw [hs2, k3]; rfl)
          rw [if_pos k4]
          unfold F_X9_follows_b126
          show ∃ υ', B_X9_follows_b130 (F_X9_follows_b61 n) (F_X9_follows_b130 (F_X9_follows_b61 n) 999) (nI f) 0 (nI i) v (nI 0) υ = _ ∧ _
          unfold B_X9_follows_b130
          rw [show (2 : Int32) = nI 2 from rfl, m_lei (by omega) (by omega), if_neg (by omega), if_pos (show (0 : Int32) = 0 from rfl)]
          unfold F_X9_follows_b161
          rw [m_i1, m_add, r_fo_0 (hc.fr hfr2 (by decide)) ho hf (by omega) n (by omega), hbf]
          exact ⟨υ, rfl, hfr2, fun z => by cases z⟩
        · rw [k5, if_neg (nI_pos (by omega))]
          unfold F_X9_follows_b126
          have hrυ : m_RL p f h (m_ro p (σ.1 51) f i) υ := ⟨fun x hx => by rw [k2.1 52 (by decide), m_R_ne (by decide)]; exact hr.1 x hx, fun x d' hx hxd q hq => by rw [k2.1 53 (by decide), m_R_ne (by decide)]; exact hr.2 x d' hx hxd q hq⟩
          have hN : ∀ q, q < 8 + e → υ.1 54 q = m_do p (σ.1 51) f i d (m_ro p (σ.1 51) f i i) q := fun q hq => by
            rw [k6 q hq, hfrC.1 51 (by decide)]
            refine m_do_ag ho hf hlt (fun y hy => ?_) k3 q hq
            rw [m_R_eq, m_cpy_at (by omega)]
            exact hr.2 i d hi hd y hy
          obtain ⟨ω, j1, j2, j3⟩ := r_fo_in (hc.fr hfr2 (by decide)) ho hf hlt a2 hrυ k4 hN (F_X9_follows_b61 n) 1000 (by omega)
          have hfr3 : m_fr [52, 53, 54] [] σ ω := hfr2.trans (j2.mono (by decide) (by decide))
          show ∃ υ', F_X9_follows_b130 (F_X9_follows_b61 n) 1000 (nI f) 1 (nI i) (nI e) (nI 0) υ = _ ∧ _
          rw [j1]
          have hs3 : m_hs p f (i + 1) = (m_hp h (m_nx p f i 0) e).bind (fun h' => m_hp h' (m_nx p f i 1) e) := by rw [hs2, k3]; rfl
          cases hb : (m_hp h (m_nx p f i 0) e).bind (fun h' => m_hp h' (m_nx p f i 1) e) with
          | none =>
            have hbf := m_bl_none (p := p) (f := f) (show i + 1 ≤ m_cn p f by omega) (hs3.trans hb)
            rw [show m_b (none : Option (Nat → Option Nat)).isSome = 0 from rfl, r_fo_0 (hc.fr hfr3 (by decide)) ho hf (by omega) n (by omega), hbf]
            exact ⟨ω, rfl, hfr3, fun z => by cases z⟩
          | some h'' =>
            rw [show m_b (some h'').isSome = 1 from rfl]
            refine ih (i + 1) ω h'' (by omega) (by omega) hfr3 (hs3.trans hb) ⟨(j3 h'' hb).1, fun x d' hx hxd q hq => ?_⟩
            rw [(j3 h'' hb).2 x d' hx hxd q hq]
            show (if x = m_nx p f i 0 ∨ x = m_nx p f i 1 then _ else _) = if m_rh p f i = true ∧ (x = m_nx p f i 0 ∨ x = m_nx p f i 1) then m_mg (m_rs p f i x) (m_ro p (σ.1 51) f i x q) (m_do p (σ.1 51) f i (m_ht p f i) (m_ro p (σ.1 51) f i i) q) else _
            rw [hht, ← a1 x]
            by_cases hz : x = m_nx p f i 0 ∨ x = m_nx p f i 1
            · rw [if_pos hz, if_pos ⟨hii.symm, hz⟩]
            · rw [if_neg hz, if_neg (fun w => hz w.2)]
theorem r_fo_n {l : Int32} : ∀ (n i : Nat) (g : Nat → Int32), 14 - i < n → i ≤ 14 → (∀ q, q < i → g q = if q < 8 then nI q else -1) → ∃ g', F_X9_follows_b23 n l (nI i) (cv_sR τ 54 g) = cv_bi (F_X9_comes 0 0 (cv_sR τ 54 g')) (fun v2 s1 => F_X9_follows_b61 1000 l v2 0 s1) ∧ ∀ q, q < 14 → g' q = if q < 8 then nI q else -1 := by
  intro n
  induction n with
  | zero => intro i g h; omega
  | succ n ih =>
    intro i g hn hi hg
    show ∃ g', B_X9_follows_b23 (F_X9_follows_b23 n) l (nI i) (cv_sR τ 54 g) = _ ∧ _
    unfold B_X9_follows_b23
    rw [show (14 : Int32) = nI 14 from rfl, m_lei (by omega) (by omega)]
    by_cases h14 : 14 ≤ i
    · rw [if_pos h14]
      exact ⟨g, rfl, fun q hq => hg q (by omega)⟩
    · rw [if_neg h14, show (8 : Int32) = nI 8 from rfl, m_lei (by omega) (by omega)]
      unfold F_X9_follows_b45
      by_cases h8 : 8 ≤ i
      · rw [if_pos h8, m_st (by omega) (by decide), m_AR, m_i1, m_add]
        refine ih (i + 1) _ (by omega) (by omega) (fun q hq => ?_)
        by_cases hqi : q = i
        · rw [hqi, m_u_eq, if_neg (by omega)]
        · rw [m_u_ne hqi]; exact hg q (by omega)
      · rw [if_neg h8, m_st (by omega) (by decide), m_AR, m_i1, m_add]
        refine ih (i + 1) _ (by omega) (by omega) (fun q hq => ?_)
        by_cases hqi : q = i
        · rw [hqi, m_u_eq, if_pos (by omega)]
        · rw [m_u_ne hqi]; exact hg q (by omega)
theorem r_fo_h {l : Int32} : ∀ (n i : Nat) (g : Nat → Int32), 15 - i < n → i ≤ 15 → (∀ q, q < i → g q = -1) → ∃ g', F_X9_follows_b2 n l (nI i) (cv_sR τ 52 g) = F_X9_follows_b23 1000 l 0 (cv_sR τ 52 g') ∧ ∀ q, q < 15 → g' q = -1 := by
  intro n
  induction n with
  | zero => intro i g h; omega
  | succ n ih =>
    intro i g hn hi hg
    show ∃ g', B_X9_follows_b2 (F_X9_follows_b2 n) l (nI i) (cv_sR τ 52 g) = _ ∧ _
    unfold B_X9_follows_b2
    rw [show (15 : Int32) = nI 15 from rfl, m_lei (by omega) (by omega)]
    by_cases h15 : 15 ≤ i
    · rw [if_pos h15]
      exact ⟨g, rfl, fun q hq => hg q (by omega)⟩
    · rw [if_neg h15, m_st (by omega) (by decide), m_AR, m_i1, m_add]
      refine ih (i + 1) _ (by omega) (by omega) (fun q hq => ?_)
      by_cases hqi : q = i
      · rw [hqi, m_u_eq]
      · rw [m_u_ne hqi]; exact hg q (by omega)
theorem r_follows (hc : m_mc 43 σ p) (ho : m_ok p) (hf : f < 8) : ∃ υ, F_X9_follows (nI f) σ = some (m_b (m_bl p f), υ) ∧ m_fr [52, 53, 54] [] σ υ ∧ (m_bl p f = true → ∀ q, q < 8 → υ.1 53 (14 * m_cn p f + q) = m_ro p (σ.1 51) f (m_cn p f) (m_cn p f) q) := by
  have h14 := m_cn14 ho hf
  unfold F_X9_follows
  obtain ⟨g, a1, a2⟩ := r_fo_h (τ := σ) (l := nI f) 1000 0 (σ.1 52) (by omega) (by omega) (fun q hq => by omega)
  rw [m_Rid] at a1
  have a1 : F_X9_follows_b2 1000 (nI f) 0 σ = _ := a1
  obtain ⟨N, b1, b2⟩ := r_fo_n (τ := cv_sR σ 52 g) (l := nI f) 1000 0 ((cv_sR σ 52 g).1 54) (by omega) (by omega) (fun q hq => by omega)
  rw [m_Rid] at b1
  have b1 : F_X9_follows_b23 1000 (nI f) 0 (cv_sR σ 52 g) = _ := b1
  rw [a1, b1]
  have hfr : m_fr [52, 53, 54] [] σ (cv_sR (cv_sR σ 52 g) 54 N) := (m_fr.R (by decide)).trans (m_fr.R (by decide))
  have hrl : m_RL p f (fun _ => none) (fun _ _ => 0) (cv_sR (cv_sR σ 52 g) 54 N) := ⟨fun x hx => by rw [m_R_ne (by decide), m_R_eq, a2 x (by omega)]; rfl, fun x d hx hxd => by cases hxd⟩
  obtain ⟨υ, c1, c2, c3⟩ := r_comes (x := 0) (e := 0) (N := N) ho hf (fun x d hxd => by cases hxd) hrl (Nat.zero_le _) (by omega) (fun q hq => by rw [m_R_eq])
  have c1 : F_X9_comes 0 0 (cv_sR (cv_sR σ 52 g) 54 N) = some (1, υ) := c1
  rw [c1, m_bi]
  obtain ⟨d1, d2⟩ := c3 (fun y => if y = 0 then some 0 else none) rfl
  refine r_fo_loop hc ho hf 1000 0 υ (fun y => if y = 0 then some 0 else none) (by omega) (by omega) (hfr.trans (c2.mono (by decide) (by decide))) rfl ⟨d1, fun x d hx hxd q hq => ?_⟩
  rw [d2 x d hx hxd q hq]
  have hxd : (if x = 0 then some 0 else none) = some d := hxd
  by_cases h0 : x = 0
  · rw [if_pos h0] at hxd
    cases hxd
    show (if x = 0 then m_mg false 0 (N q) else 0) = if q < 8 then nI q else -1
    rw [if_pos h0, m_mg_f, b2 q (by omega)]
  · rw [if_neg h0] at hxd; cases hxd
theorem r_pb_loop (hc : m_mc 43 τ p) (ho : m_ok p) (hf : f < 8) : ∀ (n q : Nat), 8 - q < n → q ≤ 8 → F_X9_preservedBy_b12 n (nI f) (m_bs (fun q => decide (τ.1 53 (14 * m_cn p f + q) = nI q)) q) (nI q) τ = some (m_bs (fun q => decide (τ.1 53 (14 * m_cn p f + q) = nI q)) 8, τ) := by
  have h14 := m_cn14 ho hf
  intro n
  induction n with
  | zero => intro q h; omega
  | succ n ih =>
    intro q hn hq
    show B_X9_preservedBy_b12 (F_X9_preservedBy_b12 n) _ _ _ _ = _
    unfold B_X9_preservedBy_b12
    rw [show (8 : Int32) = nI 8 from rfl, m_lei (by omega) (by omega)]
    by_cases h8 : 8 ≤ q
    · rw [if_pos h8, show q = 8 by omega]
    · rw [if_neg h8, m_ld (by omega) (by decide), r_cnt hc hf, show (14 : Int32) = nI 14 from rfl, m_mul, m_add, m_ld (by omega) (by decide)]
      unfold F_X9_preservedBy_b46
      have := ih (q + 1) (by omega) (by omega)
      by_cases hv : τ.1 53 (14 * m_cn p f + q) = nI q
      · rw [if_pos hv, m_i1, m_add, ← this]
        show F_X9_preservedBy_b12 n (nI f) _ _ τ = F_X9_preservedBy_b12 n (nI f) (m_bs _ q ||| (if decide (τ.1 53 (14 * m_cn p f + q) = nI q) = true then m_bit q else 0)) _ τ
        rw [if_pos (decide_eq_true hv)]; rfl
      · rw [if_neg hv, m_i1, m_add, ← this]
        show F_X9_preservedBy_b12 n (nI f) _ _ τ = F_X9_preservedBy_b12 n (nI f) (m_bs _ q ||| (if decide (τ.1 53 (14 * m_cn p f + q) = nI q) = true then m_bit q else 0)) _ τ
        rw [if_neg (fun z => hv (of_decide_eq_true z))]
theorem m_bs_ext {P Q : Nat → Bool} : ∀ n, (∀ q, q < n → P q = Q q) → m_bs P n = m_bs Q n := by
  intro n
  induction n with
  | zero => intro _; rfl
  | succ n ih =>
    intro h
    show m_bs P n ||| _ = m_bs Q n ||| _
    rw [ih (fun q hq => h q (by omega)), h n (by omega)]
theorem r_preservedBy (hc : m_mc 43 σ p) (ho : m_ok p) (hf : f < 8) : ∃ υ, F_X9_preservedBy (nI f) σ = some (if m_bl p f = true then m_kb p (σ.1 51) f else 0, υ) ∧ m_fr [52, 53, 54] [] σ υ := by
  unfold F_X9_preservedBy
  obtain ⟨υ, a1, a2, a3⟩ := r_follows hc ho hf
  rw [a1, m_bi, m_b0i]
  by_cases hb : m_bl p f = true
  · rw [if_neg (by rw [hb]; simp), if_pos hb]
    have := r_pb_loop (hc.fr a2 (by decide)) ho hf 1000 0 (by omega) (by omega)
    refine ⟨υ, ?_, a2⟩
    have this : F_X9_preservedBy_b12 1000 (nI f) 0 0 υ = _ := this
    rw [this]
    unfold m_kb
    rw [m_bs_ext 8 (fun q hq => by rw [a3 hb q hq])]
  · rw [if_pos (by simpa using hb), if_neg hb]
    exact ⟨υ, rfl, a2⟩
end A41
