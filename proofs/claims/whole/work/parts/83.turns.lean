section A83
variable {p : m_P} {σ τ υ s t s' t' : cv_St} {d e f h i j br a b : Nat} {cut : Bool}
def u_R (p : m_P) (σ τ : cv_St) (e br : Nat) (cut : Bool) : Prop := m_cc 14 15 16 σ p ∧ m_mc 43 τ p ∧ (∀ r, r < 8 → σ.1 38 r = τ.1 63 r) ∧ (σ.2.1 9 = nI e ∧ τ.2.1 25 = nI e ∧ e ≤ 300) ∧ (σ.2.1 10 = nI br ∧ τ.2.1 26 = nI br ∧ br ≤ e) ∧ σ.2.1 11 = τ.2.1 27 ∧ σ.2.1 12 = τ.2.1 28 ∧ σ.2.1 13 = m_b cut ∧ τ.2.1 24 = m_b cut
def u_H (d : Nat) (σ τ : cv_St) (h : Nat) : Prop := h ≤ 6 ∧ σ.1 41 d = nI h ∧ τ.1 65 d = nI h ∧ ∀ z, z < h → σ.1 42 (d * 6 + z) = τ.1 64 (6 * d + z)
def u_P (p : m_P) (d f i : Nat) (σ : cv_St) : Prop := ∃ j, j < 100 ∧ σ.1 40 d = nI j ∧ i = min j (m_cn p f)
def u_FC (d : Nat) (σ τ : cv_St) : Prop := m_fr [38, 39, 40, 41, 42] [8, 9, 10, 12, 13] σ τ ∧ (∀ x, x < d → τ.1 39 x = σ.1 39 x ∧ τ.1 40 x = σ.1 40 x ∧ τ.1 41 x = σ.1 41 x) ∧ ∀ z, z < d * 6 → τ.1 42 z = σ.1 42 z
def u_FM (d : Nat) (σ τ : cv_St) : Prop := m_fr [63, 64, 65] [24, 25, 26, 28] σ τ ∧ (∀ x, x < d → τ.1 65 x = σ.1 65 x) ∧ ∀ z, z < 6 * d → τ.1 64 z = σ.1 64 z
theorem u_FC.tr (h : u_FC d σ τ) (g : u_FC d τ υ) : u_FC d σ υ := ⟨h.1.trans g.1, fun x hx => ⟨(g.2.1 x hx).1.trans (h.2.1 x hx).1, (g.2.1 x hx).2.1.trans (h.2.1 x hx).2.1, (g.2.1 x hx).2.2.trans (h.2.1 x hx).2.2⟩, fun z hz => (g.2.2 z hz).trans (h.2.2 z hz)⟩
theorem u_FM.tr (h : u_FM d σ τ) (g : u_FM d τ υ) : u_FM d σ υ := ⟨h.1.trans g.1, fun x hx => (g.2.1 x hx).trans (h.2.1 x hx), fun z hz => (g.2.2 z hz).trans (h.2.2 z hz)⟩
theorem u_FC.F {k : Nat} {v : Int32} (hk : k ∈ [8, 9, 10, 12, 13]) : u_FC d σ (cv_sF σ k v) := ⟨m_fr.F hk, fun _ _ => ⟨rfl, rfl, rfl⟩, fun _ _ => rfl⟩
theorem u_FM.F {k : Nat} {v : Int32} (hk : k ∈ [24, 25, 26, 28]) : u_FM d σ (cv_sF σ k v) := ⟨m_fr.F hk, fun _ _ => rfl, fun _ _ => rfl⟩
theorem u_FC.reg {v : Int32} : u_FC d σ (cv_sA σ 38 a v) := ⟨m_fr.A (by decide), fun _ _ => ⟨by rw [m_A_ne (by decide)], by rw [m_A_ne (by decide)], by rw [m_A_ne (by decide)]⟩, fun _ _ => by rw [m_A_ne (by decide)]⟩
theorem u_FM.reg {v : Int32} : u_FM d σ (cv_sA σ 63 a v) := ⟨m_fr.A (by decide), fun _ _ => by rw [m_A_ne (by decide)], fun _ _ => by rw [m_A_ne (by decide)]⟩
theorem u_FC.act {k : Nat} {v : Int32} (hk : k = 39 ∨ k = 40 ∨ k = 41) (ha : d ≤ a) : u_FC d σ (cv_sA σ k a v) := by
  refine ⟨m_fr.A (by rcases hk with e | e | e <;> (subst e; decide)), fun x hx => ?_, fun z _ => by rw [m_A_ne (by omega)]⟩
  have e : ∀ l, (cv_sA σ k a v).1 l x = σ.1 l x := fun l => by
    by_cases hl : l = k
    · rw [hl, m_A_eq, m_u_ne (by omega)]
    · rw [m_A_ne hl]
  exact ⟨e 39, e 40, e 41⟩
theorem u_FC.stk {v : Int32} (ha : d * 6 ≤ a) : u_FC d σ (cv_sA σ 42 a v) := ⟨m_fr.A (by decide), fun _ _ => ⟨by rw [m_A_ne (by decide)], by rw [m_A_ne (by decide)], by rw [m_A_ne (by decide)]⟩, fun z hz => by rw [m_A_eq, m_u_ne (by omega)]⟩
theorem u_FM.hgt {v : Int32} (ha : d ≤ a) : u_FM d σ (cv_sA σ 65 a v) := ⟨m_fr.A (by decide), fun x hx => by rw [m_A_eq, m_u_ne (by omega)], fun _ _ => by rw [m_A_ne (by decide)]⟩
theorem u_FM.stk {v : Int32} (ha : 6 * d ≤ a) : u_FM d σ (cv_sA σ 64 a v) := ⟨m_fr.A (by decide), fun _ _ => by rw [m_A_ne (by decide)], fun z hz => by rw [m_A_eq, m_u_ne (by omega)]⟩
/-- registers and the fresh value alone have changed -/
theorem u_R.mk' (h : u_R p s t e br cut) (g : m_gf [38, 39, 40, 41, 42] [8, 12] s s') (g' : m_gf [63, 64, 65] [28] t t') (hr : ∀ r, r < 8 → s'.1 38 r = t'.1 63 r) (h12 : s'.2.1 12 = t'.2.1 28) : u_R p s' t' e br cut := by
  obtain ⟨h1, h2, h3, h4, h5, h6, h7, h8, h9⟩ := h
  refine ⟨fun x hx => ?_, fun x hx => ?_, hr, ?_, ?_, ?_, h12, ?_, ?_⟩
  · rw [g.1 14 (by decide), g.1 15 (by decide), g.1 16 (by decide)]; exact h1 x hx
  · rw [g'.1 43 (by decide)]; exact h2 x hx
  · rw [g.2 9 (by decide), g'.2 25 (by decide)]; exact h4
  · rw [g.2 10 (by decide), g'.2 26 (by decide)]; exact h5
  · rw [g.2 11 (by decide), g'.2 27 (by decide)]; exact h6
  · rw [g.2 13 (by decide)]; exact h8
  · rw [g'.2 24 (by decide)]; exact h9
def u_w (p : m_P) (f i br : Nat) (ch : Int32) : Nat := if m_kd p f i = 98 then (if bt ch (br % 32) = false then 0 else 1) else 0
def u_ta (p : m_P) (f i e br : Nat) (τ : cv_St) : cv_St := if m_kd p f i = 98 then cv_sF (cv_sF (cv_sF τ 24 0) 25 (nI (e + 1))) 26 (nI (br + 1)) else cv_sF (cv_sF τ 24 0) 25 (nI (e + 1))
theorem u_mod (hb : br ≤ 300) : nI br - nI br / 32 * 32 = nI (br % 32) := by
  rw [show (32 : Int32) = nI 32 from rfl, pk_div (by omega) (by omega) (by omega), m_mul, pk_sub (by omega), show br - br / 32 * 32 = br % 32 by omega]
theorem r_bod {E : Int32 → Int32 → cv_St → Option cv_St} {K : Int32 → Int32 → Int32 → cv_St → Option cv_St} (ho : m_ok p) (hm : m_mc 43 τ p) (hf : f < 8) (hi : i < m_cn p f) (hd : d < 8) (hh : h ≤ 6) (he : e ≤ 300) (h65 : τ.1 65 d = nI h) (h25 : τ.2.1 25 = nI e) (h24 : τ.2.1 24 = 0) (h26 : τ.2.1 26 = nI br) (hbr : br ≤ 300) (hX : (decide (e = 300) || u_b p f i h d) = false) : B_X9_execute_b9 E K (nI f) (nI d) (nI i) τ = F_X9_execute_b94 E K (nI f) (nI d) (nI i) (nI (u_w p f i br (τ.2.1 27))) (u_ta p f i e br τ) := by
  have h14 := m_cn14 ho hf
  have hk := (m_val_k (m_vl ho hf hi)).1
  unfold B_X9_execute_b9
  rw [m_ld (by omega) (by decide), r_cnt hm hf, m_lei (by omega) (by omega), if_neg (by omega), h24, if_pos rfl, r_cuts hm ho hf hi hd hh he h65 h25, m_bi, hX, show m_b false = 0 from rfl, m_puz0, m_F_eq, if_pos rfl, m_pui, m_F_ne (by decide), h25, show (1 : Int32) = nI 1 from rfl, m_add]
  have hm6 : m_mc 43 (cv_sF (cv_sF τ 24 0) 25 (nI (e + 1))) p := hm
  rw [r_kind hm6 ho hf hi, m_bi, m_eqki (by omega) (by decide)]
  unfold u_w u_ta
  by_cases h98 : m_kd p f i = 98
  · rw [if_pos h98, if_pos h98, if_pos h98, m_pui, show (cv_sF (cv_sF τ 24 0) 25 (nI (e + 1))).2.1 26 = nI br by rw [m_F_ne (by decide), m_F_ne (by decide)]; exact h26, show (cv_sF (cv_sF τ 24 0) 25 (nI (e + 1))).2.1 27 = τ.2.1 27 by rw [m_F_ne (by decide), m_F_ne (by decide)], u_mod hbr, show nI 1 = (1 : Int32) from rfl, b_tst (by omega), show (1 : Int32) = nI 1 from rfl, m_add]
    cases bt (τ.2.1 27) (br % 32) <;> rfl
  · rw [if_neg h98, if_neg h98, if_neg h98]
    rfl
end A83
