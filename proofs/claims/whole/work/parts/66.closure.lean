/-! the closure of a relation over eight elements, by rounds -/
def g_clo (C : Nat → Int32) (v : Int32) : Prop := ∀ c, c < 8 → bt v c = true → ∀ b, bt (C c) b = true → bt v b = true
def g_sub (v w : Int32) : Prop := ∀ b, bt v b = true → bt w b = true
def g_rd (C : Nat → Int32) (v w : Int32) : Prop := g_sub v w ∧ (∀ T, g_clo C T → g_sub v T → g_sub w T) ∧ (g_clo C v ∨ ∃ b, b < 8 ∧ bt v b = false ∧ bt w b = true)
def g_cI (C : Nat → Int32) (v0 : Int32) (k : Nat) (v : Int32) : Prop := g_sub v0 v ∧ (∀ T, g_clo C T → g_sub v0 T → g_sub v T) ∧ (g_clo C v ∨ k + 1 ≤ m_ct (bt v) 8)
theorem m_ct_mono {P Q : Nat → Bool} : ∀ n, (∀ b, b < n → P b = true → Q b = true) → m_ct P n ≤ m_ct Q n := by
  intro n
  induction n with
  | zero => intro _; exact Nat.le_refl _
  | succ n ih =>
    intro h
    have h1 := ih (fun b hb => h b (by omega))
    have h2 := h n (by omega)
    rw [m_ct_s, m_ct_s]
    cases hp : P n
    · rw [if_pos rfl]; omega
    · rw [h2 hp]; omega
theorem m_ct_lt {P Q : Nat → Bool} : ∀ n, (∀ b, b < n → P b = true → Q b = true) → (∃ b, b < n ∧ P b = false ∧ Q b = true) → m_ct P n < m_ct Q n := by
  intro n
  induction n with
  | zero => intro _ ⟨b, hb, _⟩; omega
  | succ n ih =>
    intro h ⟨b, hb, b1, b2⟩
    have h1 := m_ct_mono n (fun b hb => h b (by omega))
    have h2 := h n (by omega)
    rw [m_ct_s, m_ct_s]
    by_cases hbn : b = n
    · rw [← hbn, b1, b2, if_pos rfl, if_neg (by simp), hbn]; omega
    · have h3 := ih (fun b hb => h b (by omega)) ⟨b, by omega, b1, b2⟩
      cases hp : P n
      · rw [if_pos rfl]; omega
      · rw [h2 hp]; omega
theorem m_ct_full {P : Nat → Bool} : ∀ n, n ≤ m_ct P n → ∀ b, b < n → P b = true := by
  intro n
  induction n with
  | zero => intro _ b hb; omega
  | succ n ih =>
    intro h b hb
    have h1 := m_ct_le P n
    rw [m_ct_s] at h
    cases hp : P n with
    | false => rw [hp, if_pos rfl] at h; omega
    | true =>
      rw [hp, if_neg (by simp)] at h
      by_cases hbn : b = n
      · rw [hbn]; exact hp
      · exact ih (by omega) b (by omega)
theorem m_ct_none {P : Nat → Bool} : ∀ n, m_ct P n = 0 → ∀ b, b < n → P b = false := by
  intro n
  induction n with
  | zero => intro _ b hb; omega
  | succ n ih =>
    intro h b hb
    rw [m_ct_s] at h
    cases hp : P n with
    | true => rw [hp, if_neg (by simp)] at h; omega
    | false =>
      by_cases hbn : b = n
      · rw [hbn]; exact hp
      · exact ih (by omega) b (by omega)
theorem g_cI0 (C : Nat → Int32) (v : Int32) : g_cI C v 0 v := by
  refine ⟨fun b h => h, fun T _ h => h, ?_⟩
  by_cases h : m_ct (bt v) 8 = 0
  · refine Or.inl (fun c hc h1 => ?_)
    rw [m_ct_none 8 h c hc] at h1; cases h1
  · exact Or.inr (by omega)
theorem g_cIs {C : Nat → Int32} {v0 v w : Int32} {k : Nat} (h : g_cI C v0 k v) (r : g_rd C v w) : g_cI C v0 (k + 1) w := by
  refine ⟨fun b hb => r.1 b (h.1 b hb), fun T h1 h2 => r.2.1 T h1 (h.2.1 T h1 h2), ?_⟩
  have hclo : g_clo C v → g_clo C w := fun hc => by
    have e : g_sub w v := r.2.1 v hc (fun b hb => hb)
    exact fun c c8 h1 b h2 => r.1 b (hc c c8 (e c h1) b h2)
  rcases r.2.2 with hc | hb
  · exact Or.inl (hclo hc)
  · rcases h.2.2 with hc | hk
    · exact Or.inl (hclo hc)
    · have := m_ct_lt (P := bt v) (Q := bt w) 8 (fun b _ => r.1 b) hb
      exact Or.inr (by omega)
theorem g_cIe {C : Nat → Int32} {v0 v : Int32} {k : Nat} (hC : ∀ c, c < 8 → ∀ b, bt (C c) b = true → b < 8) (h : g_cI C v0 k v) (hk : 7 ≤ k) : g_clo C v := by
  rcases h.2.2 with hc | h8
  · exact hc
  · exact fun c hc _ b hb => m_ct_full 8 (by omega) b (hC c hc b hb)
theorem g_cI_eq {C : Nat → Int32} {v0 v w : Int32} {k l : Nat} (hC : ∀ c, c < 8 → ∀ b, bt (C c) b = true → b < 8) (h : g_cI C v0 k v) (g : g_cI C v0 l w) (hk : 7 ≤ k) (hl : 7 ≤ l) : v = w :=
  b_iff (fun b => ⟨h.2.1 w (g_cIe hC g hl) g.1 b, g.2.1 v (g_cIe hC h hk) h.1 b⟩)
theorem g_rdm {C : Nat → Int32} {v w : Int32} (hC : ∀ c, c < 8 → ∀ b, bt (C c) b = true → b < 8) (h1 : g_sub v w) (h2 : ∀ T, g_clo C T → g_sub v T → g_sub w T) (h3 : ∀ c, c < 8 → bt v c = true → ∀ b, bt (C c) b = true → bt w b = true) : g_rd C v w := by
  refine ⟨h1, h2, ?_⟩
  by_cases hb : ∃ b, b < 8 ∧ bt v b = false ∧ bt w b = true
  · exact Or.inr hb
  · refine Or.inl (fun c hc h4 b h5 => ?_)
    cases hv : bt v b with
    | true => rfl
    | false => exact absurd ⟨b, hC c hc b h5, hv, h3 c hc h4 b h5⟩ hb
