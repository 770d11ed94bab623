theorem c_fill_27 {σ : cv_St} (v : Int32) : ∃ g, F_J7_fill_53178_27 v σ = some (cv_sR σ 27 g) ∧ ∀ x, x < 8 → g x = v := by
  have key : ∀ (m i : Nat) (g : Nat → Int32), 8 - i < m → i ≤ 8 → (∀ x, x < i → g x = v) → ∃ g', F_J7_fill_53178_27_b5 m v (nI i) (nI 8) (cv_sR σ 27 g) = some (cv_sR σ 27 g') ∧ ∀ x, x < 8 → g' x = v := by
    intro m
    induction m with
    | zero => intro i g h; omega
    | succ m ih =>
      intro i g hm hi hg
      show ∃ g', B_J7_fill_53178_27_b5 (F_J7_fill_53178_27_b5 m) v (nI i) (nI 8) (cv_sR σ 27 g) = _ ∧ _
      unfold B_J7_fill_53178_27_b5
      rw [m_lei (by omega) (by omega)]
      by_cases hq : 8 ≤ i
      · rw [if_pos hq]
        exact ⟨g, rfl, fun x hx => hg x (by omega)⟩
      · rw [if_neg hq, m_st (by omega) (by decide), m_AR, m_i1, m_add]
        refine ih (i + 1) _ (by omega) (by omega) (fun x hx => ?_)
        by_cases h : x = i
        · rw [h, m_u_eq]
        · rw [m_u_ne h]; exact hg x (by omega)
  unfold F_J7_fill_53178_27
  have := key 1000 0 (σ.1 27) (by omega) (by omega) (fun x hx => by omega)
  rwa [m_Rid] at this
theorem c_fill_28 {σ : cv_St} (v : Int32) : ∃ g, F_J7_fill_53178_28 v σ = some (cv_sR σ 28 g) ∧ ∀ x, x < 15 → g x = v := by
  have key : ∀ (m i : Nat) (g : Nat → Int32), 15 - i < m → i ≤ 15 → (∀ x, x < i → g x = v) → ∃ g', F_J7_fill_53178_28_b5 m v (nI i) (nI 15) (cv_sR σ 28 g) = some (cv_sR σ 28 g') ∧ ∀ x, x < 15 → g' x = v := by
    intro m
    induction m with
    | zero => intro i g h; omega
    | succ m ih =>
      intro i g hm hi hg
      show ∃ g', B_J7_fill_53178_28_b5 (F_J7_fill_53178_28_b5 m) v (nI i) (nI 15) (cv_sR σ 28 g) = _ ∧ _
      unfold B_J7_fill_53178_28_b5
      rw [m_lei (by omega) (by omega)]
      by_cases hq : 15 ≤ i
      · rw [if_pos hq]
        exact ⟨g, rfl, fun x hx => hg x (by omega)⟩
      · rw [if_neg hq, m_st (by omega) (by decide), m_AR, m_i1, m_add]
        refine ih (i + 1) _ (by omega) (by omega) (fun x hx => ?_)
        by_cases h : x = i
        · rw [h, m_u_eq]
        · rw [m_u_ne h]; exact hg x (by omega)
  unfold F_J7_fill_53178_28
  have := key 1000 0 (σ.1 28) (by omega) (by omega) (fun x hx => by omega)
  rwa [m_Rid] at this
theorem c_fill_29 {σ : cv_St} (v : Int32) : ∃ g, F_J7_fill_53178_29 v σ = some (cv_sR σ 29 g) ∧ ∀ x, x < 120 → g x = v := by
  have key : ∀ (m i : Nat) (g : Nat → Int32), 120 - i < m → i ≤ 120 → (∀ x, x < i → g x = v) → ∃ g', F_J7_fill_53178_29_b5 m v (nI i) (nI 120) (cv_sR σ 29 g) = some (cv_sR σ 29 g') ∧ ∀ x, x < 120 → g' x = v := by
    intro m
    induction m with
    | zero => intro i g h; omega
    | succ m ih =>
      intro i g hm hi hg
      show ∃ g', B_J7_fill_53178_29_b5 (F_J7_fill_53178_29_b5 m) v (nI i) (nI 120) (cv_sR σ 29 g) = _ ∧ _
      unfold B_J7_fill_53178_29_b5
      rw [m_lei (by omega) (by omega)]
      by_cases hq : 120 ≤ i
      · rw [if_pos hq]
        exact ⟨g, rfl, fun x hx => hg x (by omega)⟩
      · rw [if_neg hq, m_st (by omega) (by decide), m_AR, m_i1, m_add]
        refine ih (i + 1) _ (by omega) (by omega) (fun x hx => ?_)
        by_cases h : x = i
        · rw [h, m_u_eq]
        · rw [m_u_ne h]; exact hg x (by omega)
  unfold F_J7_fill_53178_29
  have := key 1000 0 (σ.1 29) (by omega) (by omega) (fun x hx => by omega)
  rwa [m_Rid] at this
theorem c_fill_30 {σ : cv_St} (v : Int32) : ∃ g, F_J7_fill_53178_30 v σ = some (cv_sR σ 30 g) ∧ ∀ x, x < 8 → g x = v := by
  have key : ∀ (m i : Nat) (g : Nat → Int32), 8 - i < m → i ≤ 8 → (∀ x, x < i → g x = v) → ∃ g', F_J7_fill_53178_30_b5 m v (nI i) (nI 8) (cv_sR σ 30 g) = some (cv_sR σ 30 g') ∧ ∀ x, x < 8 → g' x = v := by
    intro m
    induction m with
    | zero => intro i g h; omega
    | succ m ih =>
      intro i g hm hi hg
      show ∃ g', B_J7_fill_53178_30_b5 (F_J7_fill_53178_30_b5 m) v (nI i) (nI 8) (cv_sR σ 30 g) = _ ∧ _
      unfold B_J7_fill_53178_30_b5
      rw [m_lei (by omega) (by omega)]
      by_cases hq : 8 ≤ i
      · rw [if_pos hq]
        exact ⟨g, rfl, fun x hx => hg x (by omega)⟩
      · rw [if_neg hq, m_st (by omega) (by decide), m_AR, m_i1, m_add]
        refine ih (i + 1) _ (by omega) (by omega) (fun x hx => ?_)
        by_cases h : x = i
        · rw [h, m_u_eq]
        · rw [m_u_ne h]; exact hg x (by omega)
  unfold F_J7_fill_53178_30
  have := key 1000 0 (σ.1 30) (by omega) (by omega) (fun x hx => by omega)
  rwa [m_Rid] at this
theorem c_fill_31 {σ : cv_St} (v : Int32) : ∃ g, F_J7_fill_53178_31 v σ = some (cv_sR σ 31 g) ∧ ∀ x, x < 8 → g x = v := by
  have key : ∀ (m i : Nat) (g : Nat → Int32), 8 - i < m → i ≤ 8 → (∀ x, x < i → g x = v) → ∃ g', F_J7_fill_53178_31_b5 m v (nI i) (nI 8) (cv_sR σ 31 g) = some (cv_sR σ 31 g') ∧ ∀ x, x < 8 → g' x = v := by
    intro m
    induction m with
    | zero => intro i g h; omega
    | succ m ih =>
      intro i g hm hi hg
      show ∃ g', B_J7_fill_53178_31_b5 (F_J7_fill_53178_31_b5 m) v (nI i) (nI 8) (cv_sR σ 31 g) = _ ∧ _
      unfold B_J7_fill_53178_31_b5
      rw [m_lei (by omega) (by omega)]
      by_cases hq : 8 ≤ i
      · rw [if_pos hq]
        exact ⟨g, rfl, fun x hx => hg x (by omega)⟩
      · rw [if_neg hq, m_st (by omega) (by decide), m_AR, m_i1, m_add]
        refine ih (i + 1) _ (by omega) (by omega) (fun x hx => ?_)
        by_cases h : x = i
        · rw [h, m_u_eq]
        · rw [m_u_ne h]; exact hg x (by omega)
  unfold F_J7_fill_53178_31
  have := key 1000 0 (σ.1 31) (by omega) (by omega) (fun x hx => by omega)
  rwa [m_Rid] at this
theorem c_fill_37 {σ : cv_St} (v : Int32) : ∃ g, F_J7_fill_53178_37 v σ = some (cv_sR σ 37 g) ∧ ∀ x, x < 15 → g x = v := by
  have key : ∀ (m i : Nat) (g : Nat → Int32), 15 - i < m → i ≤ 15 → (∀ x, x < i → g x = v) → ∃ g', F_J7_fill_53178_37_b5 m v (nI i) (nI 15) (cv_sR σ 37 g) = some (cv_sR σ 37 g') ∧ ∀ x, x < 15 → g' x = v := by
    intro m
    induction m with
    | zero => intro i g h; omega
    | succ m ih =>
      intro i g hm hi hg
      show ∃ g', B_J7_fill_53178_37_b5 (F_J7_fill_53178_37_b5 m) v (nI i) (nI 15) (cv_sR σ 37 g) = _ ∧ _
      unfold B_J7_fill_53178_37_b5
      rw [m_lei (by omega) (by omega)]
      by_cases hq : 15 ≤ i
      · rw [if_pos hq]
        exact ⟨g, rfl, fun x hx => hg x (by omega)⟩
      · rw [if_neg hq, m_st (by omega) (by decide), m_AR, m_i1, m_add]
        refine ih (i + 1) _ (by omega) (by omega) (fun x hx => ?_)
        by_cases h : x = i
        · rw [h, m_u_eq]
        · rw [m_u_ne h]; exact hg x (by omega)
  unfold F_J7_fill_53178_37
  have := key 1000 0 (σ.1 37) (by omega) (by omega) (fun x hx => by omega)
  rwa [m_Rid] at this
/-! SURE DEFINITIONS -/
theorem m_fa8 {p : m_P} {f i : Nat} (ho : m_ok p) (hf : f < 8) (hi : i < m_cn p f) (h : ¬ m_kd p f i = 98) : m_fa p f i < 8 := by
  have := m_vl ho hf hi
  unfold m_val at this
  omega
theorem m_wr_sub {p : m_P} {f i : Nat} (ho : m_ok p) (hf : f < 8) (hi : i < m_cn p f) : m_sub (m_wr p f i) 255 := by
  unfold m_wr
  split
  · exact m_sub_bit8 (m_fa8 ho hf hi (by omega))
  · exact m_sub_0
theorem m_dt_add {p : m_P} {D : Nat → Int32} {f i : Nat} (ho : m_ok p) (hf : f < 8) (hi : i < m_cn p f) (hD : ∀ g, g < 8 → m_sub (D g) 255) : m_sub (if m_kd p f i = 99 then D (m_fa p f i) else m_wr p f i) 255 := by
  split
  · exact hD _ (m_fa8 ho hf hi (by omega))
  · exact m_wr_sub ho hf hi
theorem m_db_dom {p : m_P} {D : Nat → Int32} {f : Nat} (ho : m_ok p) (hf : f < 8) (hD : ∀ g, g < 8 → m_sub (D g) 255) : m_sub (m_db p D f) 255 :=
  m_df_end (fun _ _ hi hv => m_sub_or hv (m_dt_add ho hf hi hD))
theorem m_sub_and2 {a b c d : Int32} (h : m_sub a b) (g : m_sub c d) : m_sub (a &&& c) (b &&& d) := m_sub_bt.mpr (fun i hi hb => by
  rw [b_and, Bool.and_eq_true] at hb
  rw [b_and, Bool.and_eq_true]
  exact ⟨m_sub_bt.mp h i hi hb.1, m_sub_bt.mp g i hi hb.2⟩)
theorem m_sub_or2 {a b c d : Int32} (h : m_sub a b) (g : m_sub c d) : m_sub (a ||| c) (b ||| d) := m_sub_bt.mpr (fun i hi hb => by
  rw [b_or, Bool.or_eq_true] at hb
  rw [b_or, Bool.or_eq_true]
  exact hb.imp (m_sub_bt.mp h i hi) (m_sub_bt.mp g i hi))
theorem m_df_mono {p : m_P} {f : Nat} {tf tg : Nat → Int32 → Int32} (h : ∀ i v w, i < m_cn p f → m_sub v w → m_sub (tf i v) (tg i w)) : ∀ i x, i ≤ m_cn p f → m_sub (m_df p f tf i x) (m_df p f tg i x) := by
  intro i
  induction i with
  | zero => intro x _; exact m_sub_refl _
  | succ i ih =>
    intro x hi
    show m_sub (if m_rh p f i = true ∧ _ then _ else _) (if m_rh p f i = true ∧ _ then _ else _)
    by_cases hq : m_rh p f i = true ∧ (x = m_nx p f i 0 ∨ x = m_nx p f i 1)
    · rw [if_pos hq, if_pos hq]
      exact m_sub_and2 (ih x (by omega)) (h i _ _ (by omega) (ih i (by omega)))
    · rw [if_neg hq, if_neg hq]
      exact ih x (by omega)
theorem m_db_mono {p : m_P} {D E : Nat → Int32} {f : Nat} (ho : m_ok p) (hf : f < 8) (h : ∀ g, g < 8 → m_sub (D g) (E g)) : m_sub (m_db p D f) (m_db p E f) :=
  m_df_mono (fun i v w hi hv => m_sub_or2 hv (by
    by_cases hk : m_kd p f i = 99
    · rw [if_pos hk, if_pos hk]; exact h _ (m_fa8 ho hf hi (by omega))
    · rw [if_neg hk, if_neg hk]; exact m_sub_refl _)) _ _ (Nat.le_refl _)
def m_Sd (p : m_P) : Nat → (Nat → Int32) → Int32 := fun j D => m_db p D j
theorem m_sysd {p : m_P} (ho : m_ok p) : m_sys m_sub m_pc (fun x => m_sub x 255) (m_Sd p) :=
  m_sys_up (fun _ _ hj hD => m_db_dom ho hj hD) (fun _ _ _ hj _ _ h => m_db_mono ho hj h)
/-- the least solution -/
def m_Ld (p : m_P) (D : Nat → Int32) : Prop := (∀ f, f < 8 → m_sub (D f) 255) ∧ (∀ f, f < 8 → m_db p D f = D f) ∧ ∀ E, (∀ f, f < 8 → m_sub (E f) 255) → (∀ f, f < 8 → m_sub (m_db p E f) (E f)) → ∀ f, f < 8 → m_sub (D f) (E f)
theorem m_Ld_uniq {p : m_P} {D E : Nat → Int32} (h : m_Ld p D) (g : m_Ld p E) : ∀ f, f < 8 → D f = E f := fun f hf =>
  m_sub_anti (h.2.2 E g.1 (fun k hk => by rw [g.2.1 k hk]; exact m_sub_refl _) f hf) (g.2.2 D h.1 (fun k hk => by rw [h.2.1 k hk]; exact m_sub_refl _) f hf)
theorem m_Ld_it {p : m_P} (ho : m_ok p) {D : Nat → Int32} (h0 : ∀ f, f < 8 → D f = 0) {K : Nat} (hK : m_ch (m_Sd p) 8 (m_it (m_Sd p) D K) = false) : m_Ld p (m_it (m_Sd p) D K) := by
  have hI : m_inv m_sub (fun x => m_sub x 255) (m_Sd p) D := ⟨fun f hf => by rw [h0 f hf]; exact m_sub_0, fun f hf => by rw [h0 f hf]; exact m_sub_0⟩
  exact ⟨(m_it_inv (m_sysd ho) hI K).1, (m_ch_f 8 hK).2, fun E hE hc => m_it_bd (m_sysd ho) hI hE hc (fun f hf => by rw [h0 f hf]; exact m_sub_0) K⟩
theorem m_inv0 {p : m_P} {D : Nat → Int32} (h0 : ∀ f, f < 8 → D f = 0) : m_inv m_sub (fun x => m_sub x 255) (m_Sd p) D := ⟨fun f hf => by rw [h0 f hf]; exact m_sub_0, fun f hf => by rw [h0 f hf]; exact m_sub_0⟩
-- the class's own pass
theorem m_div10 {a b : Nat} (hb : b < 10) (ha : a < 1000) : nI (10 * a + b) / 10 = nI a := by
  rw [show (10 : Int32) = nI 10 from rfl, pk_div (by omega) (by decide) (by decide)]
  congr 1; omega
theorem m_mod10 {a b : Nat} (hb : b < 10) (ha : a < 1000) : nI (10 * a + b) - nI (10 * a + b) / 10 * 10 = nI b := by
  rw [show (10 : Int32) = nI 10 from rfl, pk_rem (by omega) (by decide) (by decide)]
  congr 1; omega
section A35
variable {p : m_P} {σ : cv_St} {f i : Nat}
theorem c_writtenBy (hc : m_cc 14 15 16 σ p) (ho : m_ok p) (hf : f < 8) (hi : i < m_cn p f) : F_X0_writtenBy (nI f) (nI i) σ = some (m_wr p f i, σ) := by
  have hv := m_val_k (m_vl ho hf hi)
  unfold F_X0_writtenBy F_X0_writtenBy_b27
  rw [c_kindAt hc ho hf hi, m_bi, c_numberAt hc ho hf hi, m_bi, m_eqki (by omega) (by decide), m_eqki (by omega) (by decide), m_eqki (by omega) (by decide)]
  unfold m_wr
  by_cases h1 : m_kd p f i = 100
  · rw [if_pos h1, if_pos (Or.inl h1), m_num_c (by omega)]; rfl
  · rw [if_neg h1]
    by_cases h2 : m_kd p f i = 45
    · rw [if_pos h2, if_pos (Or.inr (Or.inr h2)), m_num_c (by omega)]; rfl
    · rw [if_neg h2]
      by_cases h3 : m_kd p f i = 109
      · rw [if_pos h3, if_pos (Or.inr (Or.inl h3)), show m_num (m_kd p f i) (m_fa p f i) (m_sb p f i) = 10 * m_fa p f i + m_sb p f i by unfold m_num; rw [if_pos h3], m_div10 (by omega) (by omega)]; rfl
      · rw [if_neg h3, if_neg (by omega)]
theorem c_definedAt (hc : m_cc 14 15 16 σ p) (ho : m_ok p) (hf : f < 8) (hi : i < m_cn p f) : F_X1_definedAt (nI f) (nI i) σ = some (if m_kd p f i = 99 then σ.1 27 (m_fa p f i) else m_wr p f i, σ) := by
  unfold F_X1_definedAt
  rw [c_isCall hc ho hf hi, m_bi, m_b0i]
  by_cases h : m_kd p f i = 99
  · rw [if_neg (by simp [h]), if_pos h, c_numberAt hc ho hf hi, m_bi, m_num_c (by omega), m_ld (m_fa8 ho hf hi (by omega)) (by decide)]
  · rw [if_pos (by simp [h]), if_neg h, c_writtenBy hc ho hf hi, m_bi]
theorem b_mk {a d M : Int32} (h : m_sub d M) : (a &&& M) ||| d = (a ||| d) &&& M := b_ext (fun i hi => by
  rw [b_or, b_and, b_and, b_or]
  cases hd : bt d i
  · simp
  · rw [m_sub_bt.mp h i hi hd]; simp)
theorem b_ak {a b M : Int32} : (a &&& M) &&& (b &&& M) = (a &&& b) &&& M := b_ext (fun i hi => by
  rw [b_and, b_and, b_and, b_and, b_and]
  cases bt a i <;> cases bt b i <;> cases bt M i <;> rfl)
/-- two sets brought to the nodes behind an instruction -/
theorem c_bring (ho : m_ok p) (hf : f < 8) {g : Nat → Int32} {tf : Nat → Int32 → Int32} {M now : Int32} (hr : m_rh p f i = true) (hg : ∀ x, x ≤ m_cn p f → g (m_nd p f x) = m_df p f tf i x &&& M) (hn : now = tf i (m_df p f tf i i) &&& M) :
    ∀ x, x ≤ m_cn p f → upd (upd g (m_nd p f (m_nx p f i 0)) (g (m_nd p f (m_nx p f i 0)) &&& now)) (m_nd p f (m_nx p f i 1)) (upd g (m_nd p f (m_nx p f i 0)) (g (m_nd p f (m_nx p f i 0)) &&& now) (m_nd p f (m_nx p f i 1)) &&& now) (m_nd p f x) = m_df p f tf (i + 1) x &&& M := by
  intro x hx
  have l0 := m_nx_le p f i 0
  have l1 := m_nx_le p f i 1
  have e0 := m_nd_inj ho hf hx l0
  have e1 := m_nd_inj ho hf hx l1
  have e2 := m_nd_inj ho hf l1 l0
  show _ = (if m_rh p f i = true ∧ (x = m_nx p f i 0 ∨ x = m_nx p f i 1) then _ else _) &&& M
  by_cases h1 : x = m_nx p f i 1
  · rw [if_pos (show m_rh p f i = true ∧ (x = m_nx p f i 0 ∨ x = m_nx p f i 1) from ⟨hr, Or.inr h1⟩)]
    subst h1
    rw [m_u_eq]
    by_cases h0 : m_nx p f i 1 = m_nx p f i 0
    · rw [h0, m_u_eq, b_and_idem, hg _ l0, hn, b_ak]
    · rw [m_u_ne (fun q => h0 (e2.mp q)), hg _ l1, hn, b_ak]
  · rw [m_u_ne (fun q => h1 (e1.mp q))]
    by_cases h0 : x = m_nx p f i 0
    · rw [if_pos (show m_rh p f i = true ∧ (x = m_nx p f i 0 ∨ x = m_nx p f i 1) from ⟨hr, Or.inl h0⟩)]
      subst h0
      rw [m_u_eq, hg _ l0, hn, b_ak]
    · rw [m_u_ne (fun q => h0 (e0.mp q)), hg x hx, if_neg (show ¬ (m_rh p f i = true ∧ (x = m_nx p f i 0 ∨ x = m_nx p f i 1)) from fun q => q.2.elim h0 h1)]
theorem c_db_loop (hc : m_cc 14 15 16 σ p) (ho : m_ok p) (hf : f < 8) (hF : m_CF p σ 8) (hD : ∀ g, g < 8 → m_sub (σ.1 27 g) 255) : ∀ (n i : Nat) (g : Nat → Int32), m_cn p f - i < n → i ≤ m_cn p f → (∀ x, x ≤ m_cn p f → g (m_nd p f x) = m_df p f (m_dt p (σ.1 27) f) i x &&& 255) →
    ∃ g', F_X1_definedBy_b26 n (nI f) (nI i) (cv_sR σ 28 g) = some (m_db p (σ.1 27) f, cv_sR σ 28 g') := by
  have h14 := m_cn14 ho hf
  have hfR : ∀ g : Nat → Int32, m_fr [28] [] σ (cv_sR σ 28 g) := fun g => m_fr.R (by decide)
  have hcR : ∀ g : Nat → Int32, m_cc 14 15 16 (cv_sR σ 28 g) p := fun g => hc.fr (hfR g) (by decide) (by decide) (by decide)
  have hFR : ∀ g : Nat → Int32, m_CF p (cv_sR σ 28 g) 8 := fun g f hf => by rw [m_R_ne (by decide), m_R_ne (by decide)]; exact hF f hf
  intro n
  induction n with
  | zero => intro i g h; omega
  | succ n ih =>
    intro i g hn hi hg
    show ∃ g', B_X1_definedBy_b26 (F_X1_definedBy_b26 n) (nI f) (nI i) (cv_sR σ 28 g) = _
    unfold B_X1_definedBy_b26
    rw [m_ld (by omega) (by decide), m_R_ne (by decide), c_cnt hc hf, m_lei (by omega) (by omega)]
    by_cases hq : m_cn p f ≤ i
    · have he : i = m_cn p f := by omega
      subst he
      rw [if_pos hq, show (14 : Int32) = nI 14 from rfl, m_ld (by omega) (by decide), m_R_eq]
      have := hg _ (Nat.le_refl _)
      rw [m_nd_end] at this
      rw [this, show m_df p f (m_dt p (σ.1 27) f) (m_cn p f) (m_cn p f) &&& 255 = m_db p (σ.1 27) f from m_db_dom ho hf hD]
      exact ⟨g, rfl⟩
    · have hlt : i < m_cn p f := by omega
      rw [if_neg hq, c_reaches (hFR g) ho hf hlt, m_bi, m_b0i]
      by_cases hr : m_rh p f i = false
      · rw [if_pos hr]
        unfold F_X1_definedBy_b101
        rw [m_i1, m_add]
        refine ih (i + 1) g (by omega) (by omega) (fun x hx => ?_)
        rw [hg x hx]
        show _ = (if m_rh p f i = true ∧ _ then _ else _) &&& 255
        rw [if_neg (by rw [hr]; simp)]
      · have hr' : m_rh p f i = true := by simpa using hr
        have l0 := m_nd_lt ho hf (m_nx_le p f i 0)
        have l1 := m_nd_lt ho hf (m_nx_le p f i 1)
        have hgi := hg i (by omega)
        rw [m_nd_at hlt] at hgi
        rw [if_neg hr, m_ld (by omega) (by decide), m_R_eq, c_definedAt (hcR g) ho hf hlt, m_bi, m_R_ne (by decide), c_next (hcR g) ho hf hlt, m_bi, m_ld (by omega) (by decide), m_R_eq, m_st (by omega) (by decide), m_AR, c_other (hcR _) ho hf hlt, m_bi, m_ld (by omega) (by decide), m_R_eq, m_st (by omega) (by decide), m_AR]
        unfold F_X1_definedBy_b101
        rw [m_i1, m_add]
        exact ih (i + 1) _ (by omega) (by omega) (c_bring ho hf hr' hg (by rw [hgi, b_mk (m_dt_add ho hf hlt hD)]; rfl))
theorem c_definedBy (hc : m_cc 14 15 16 σ p) (ho : m_ok p) (hf : f < 8) (hF : m_CF p σ 8) (hD : ∀ g, g < 8 → m_sub (σ.1 27 g) 255) : ∃ g', F_X1_definedBy (nI f) σ = some (m_db p (σ.1 27) f, cv_sR σ 28 g') := by
  have h14 := m_cn14 ho hf
  have l0 := m_nd_lt ho hf (Nat.zero_le (m_cn p f))
  unfold F_X1_definedBy
  obtain ⟨g, h1, h2⟩ := c_fill_28 (σ := σ) 255
  rw [h1, m_bv, c_entry (hc.fr (m_fr.R (as := [28]) (ss := []) (by decide)) (by decide) (by decide) (by decide)) ho hf, m_bi, m_st (by omega) (by decide), m_AR]
  refine c_db_loop hc ho hf hF hD 1000 0 _ (by omega) (by omega) (fun x hx => ?_)
  show _ = (if x = 0 then 0 else -1) &&& 255
  by_cases h : x = 0
  · subst h; rw [m_u_eq, if_pos rfl]; rfl
  · rw [m_u_ne (fun q => h ((m_nd_inj ho hf hx (Nat.zero_le _)).mp q)), if_neg h, h2 _ (m_nd_lt ho hf hx)]; rfl
end A35
