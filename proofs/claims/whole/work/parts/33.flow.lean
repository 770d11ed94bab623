/-! sets that flow forward: the reference's findReached, definedBy, findPassed -/
theorem b_and_idem (x v : Int32) : (x &&& v) &&& v = x &&& v := b_ext (fun i _ => by rw [b_and, b_and]; cases bt x i <;> cases bt v i <;> rfl)
def m_df (p : m_P) (f : Nat) (tf : Nat → Int32 → Int32) : Nat → Nat → Int32
  | 0, x => if x = 0 then 0 else -1
  | i + 1, x => if m_rh p f i = true ∧ (x = m_nx p f i 0 ∨ x = m_nx p f i 1) then m_df p f tf i x &&& tf i (m_df p f tf i i) else m_df p f tf i x
theorem m_df_st {p : m_P} {f x : Nat} {tf : Nat → Int32 → Int32} {i : Nat} (hx : x ≤ i) (hi : i ≤ m_cn p f) : m_df p f tf (m_cn p f) x = m_df p f tf i x := by
  obtain ⟨d, hd⟩ : ∃ d, m_cn p f = i + d := ⟨m_cn p f - i, by omega⟩
  have key : ∀ d, i + d ≤ m_cn p f → m_df p f tf (i + d) x = m_df p f tf i x := by
    intro d
    induction d with
    | zero => intro _; rfl
    | succ d ih =>
      intro h
      rw [← Nat.add_assoc]
      have g0 := m_nx_gt (p := p) (f := f) (i := i + d) (by omega) 0
      have g1 := m_nx_gt (p := p) (f := f) (i := i + d) (by omega) 1
      show (if m_rh p f (i + d) = true ∧ (x = m_nx p f (i + d) 0 ∨ x = m_nx p f (i + d) 1) then _ else _) = _
      rw [if_neg (by omega)]
      exact ih (by omega)
  rw [hd]
  exact key d (by omega)
/-- x lies in the mask M -/
def m_sub (x M : Int32) : Prop := x &&& M = x
theorem m_sub_bt {x M : Int32} : m_sub x M ↔ ∀ i, i < 32 → bt x i = true → bt M i = true := by
  constructor
  · intro h i _ hb
    have := congrArg (fun z => bt z i) h
    simp only [b_and] at this
    rw [hb] at this
    simpa using this
  · intro h
    apply b_ext
    intro i hi
    rw [b_and]
    cases hx : bt x i
    · rfl
    · rw [h i hi hx]; rfl
theorem m_sub_and {x y M : Int32} (h : m_sub y M) : m_sub (x &&& y) M := m_sub_bt.mpr (fun i hi hb => by
  rw [b_and, Bool.and_eq_true] at hb
  exact m_sub_bt.mp h i hi hb.2)
theorem m_sub_or {x y M : Int32} (h : m_sub x M) (g : m_sub y M) : m_sub (x ||| y) M := m_sub_bt.mpr (fun i hi hb => by
  rw [b_or, Bool.or_eq_true] at hb
  exact hb.elim (m_sub_bt.mp h i hi) (m_sub_bt.mp g i hi))
theorem m_sub_0 {M : Int32} : m_sub 0 M := m_sub_bt.mpr (fun i hi hb => by rw [b_0] at hb; cases hb)
theorem m_sub_bit8 {j : Nat} (h : j < 8) : m_sub (m_bit j) 255 := m_sub_bt.mpr (fun i hi hb => by
  rw [b_bit (by omega), decide_eq_true_eq] at hb
  rw [b_255, decide_eq_true_eq]; omega)
theorem b_15 (i : Nat) : bt 15 i = decide (i < 4) := by
  rcases Nat.lt_or_ge i 32 with h | h
  · exact (by decide +kernel : ∀ i, i < 32 → bt 15 i = decide (i < 4)) i h
  · rw [b_big h, decide_eq_false (by omega)]
theorem m_sub_bit4 {j : Nat} (h : j < 4) : m_sub (m_bit j) 15 := m_sub_bt.mpr (fun i hi hb => by
  rw [b_bit (by omega), decide_eq_true_eq] at hb
  rw [b_15, decide_eq_true_eq]; omega)
theorem m_df_sub {p : m_P} {f : Nat} {tf : Nat → Int32 → Int32} {M : Int32} (htf : ∀ i v, i < m_cn p f → m_sub v M → m_sub (tf i v) M) : ∀ i x, i ≤ m_cn p f → m_rs p f i x = true → m_sub (m_df p f tf i x) M := by
  intro i
  induction i with
  | zero =>
    intro x _ h
    have : x = 0 := by simpa [m_rs] using h
    subst this
    exact m_sub_0
  | succ i ih =>
    intro x hi h
    show m_sub (if m_rh p f i = true ∧ (x = m_nx p f i 0 ∨ x = m_nx p f i 1) then _ else _) M
    by_cases hq : m_rh p f i = true ∧ (x = m_nx p f i 0 ∨ x = m_nx p f i 1)
    · rw [if_pos hq]
      exact m_sub_and (htf i _ (by omega) (ih i (by omega) (by rw [← m_rh_at (by omega)]; exact hq.1)))
    · rw [if_neg hq]
      apply ih x (by omega)
      have h2 : (m_rs p f i x || (m_rs p f i i && (decide (x = m_nx p f i 0) || decide (x = m_nx p f i 1)))) = true := h
      rw [← m_rh_at (show i ≤ m_cn p f by omega)] at h2
      rw [Bool.or_eq_true] at h2
      rcases h2 with h2 | h2
      · exact h2
      · exact absurd (by simpa using h2) hq
theorem m_df_end {p : m_P} {f : Nat} {tf : Nat → Int32 → Int32} {M : Int32} (htf : ∀ i v, i < m_cn p f → m_sub v M → m_sub (tf i v) M) : m_sub (m_df p f tf (m_cn p f) (m_cn p f)) M := m_df_sub htf _ _ (Nat.le_refl _) m_rh_end
theorem m_df_at {p : m_P} {f i : Nat} {tf : Nat → Int32 → Int32} {M : Int32} (htf : ∀ i v, i < m_cn p f → m_sub v M → m_sub (tf i v) M) (hi : i ≤ m_cn p f) (h : m_rh p f i = true) : m_sub (m_df p f tf i i) M := m_df_sub htf _ _ hi (by rw [← m_rh_at hi]; exact h)
section A33
variable {p : m_P} {σ : cv_St} {f i : Nat}
theorem r_reached (hR : ∀ x, x ≤ m_cn p f → σ.1 49 (15 * f + x) = m_b (m_rh p f x)) (ho : m_ok p) (hf : f < 8) (hi : i ≤ m_cn p f) : F_X9_reached (nI f) (nI i) σ = some (m_b (m_rh p f i), σ) := by
  have h14 := m_cn14 ho hf
  unfold F_X9_reached
  rw [m_i15, m_ld (by omega) (by decide), hR i hi, m_rzb]
theorem r_fr_in (hc : m_mc 43 σ p) (ho : m_ok p) (hf : f < 8) (hi : i < m_cn p f) {g : Nat → Int32} (hg : ∀ x, x ≤ m_cn p f → g (15 * f + x) = m_b (m_rs p f i x)) (k : Int32 → Int32 → cv_St → Option cv_St) (n : Nat) :
    ∃ g', F_X9_findReached_b48 k (n + 3) (nI f) (nI i) 0 (cv_sR σ 49 g) = k (nI f) (nI (i + 1)) (cv_sR σ 49 g') ∧ (∀ x, x ≤ m_cn p f → g' (15 * f + x) = m_b (m_rs p f (i + 1) x)) ∧ ∀ j, (j < 15 * f ∨ 15 * f + 15 ≤ j) → g' j = g j := by
  have h14 := m_cn14 ho hf
  have hrd : ∀ (g : Nat → Int32) (b : Bool), g (15 * f + i) = m_b b → F_X9_reached (nI f) (nI i) (cv_sR σ 49 g) = some (m_b b, cv_sR σ 49 g) := by
    intro g b hb
    unfold F_X9_reached
    rw [m_i15, m_ld (by omega) (by decide), m_R_eq, hb, m_rzb]
  have hcR : ∀ g : Nat → Int32, m_mc 43 (cv_sR σ 49 g) p := fun g => hc.fr (m_fr.R (as := [49]) (ss := []) (by decide)) (by decide)
  have hend : ∀ g : Nat → Int32, F_X9_findReached_b86 k (nI f) (nI i) (cv_sR σ 49 g) = k (nI f) (nI (i + 1)) (cv_sR σ 49 g) := by
    intro g; unfold F_X9_findReached_b86; rw [m_i1, m_add]
  show ∃ g', B_X9_findReached_b48 k (F_X9_findReached_b48 k (n + 2)) (nI f) (nI i) 0 (cv_sR σ 49 g) = _ ∧ _
  unfold B_X9_findReached_b48
  rw [if_neg (by decide), hrd g _ (hg i (by omega)), m_bi, m_b0i]
  by_cases hr : m_rs p f i i = false
  · rw [if_pos hr, hend]
    refine ⟨g, rfl, fun x hx => ?_, fun _ _ => rfl⟩
    rw [hg x hx]
    show _ = m_b (m_rs p f i x || (m_rs p f i i && _))
    rw [hr, Bool.false_and, Bool.or_false]
  · have hr' : m_rs p f i i = true := by simpa using hr
    have l0 := m_nx_le p f i 0
    have l1 := m_nx_le p f i 1
    have e0 := m_nx_gt (p := p) (f := f) hi 0
    rw [if_neg hr, show (0 : Int32) = nI 0 from rfl, r_next (hcR g) ho hf hi (by decide), m_bi, m_i15, m_st (by omega) (by decide), m_AR, m_i1, m_add, show vp_nar .boolean 1 = 1 from rfl]
    show ∃ g', B_X9_findReached_b48 k (F_X9_findReached_b48 k (n + 1)) (nI f) (nI i) (nI 1) _ = _ ∧ _
    unfold B_X9_findReached_b48
    rw [if_neg (by decide), hrd _ true (by rw [m_u_ne (by omega), hg i (by omega), hr']), m_bi, m_b0i, if_neg (by decide), r_next (hcR _) ho hf hi (by decide), m_bi, m_i15, m_st (by omega) (by decide), m_AR, m_i1, m_add, show vp_nar .boolean 1 = 1 from rfl]
    show ∃ g', B_X9_findReached_b48 k (F_X9_findReached_b48 k n) (nI f) (nI i) (nI 2) _ = _ ∧ _
    unfold B_X9_findReached_b48
    rw [if_pos (by decide), hend]
    refine ⟨_, rfl, fun x hx => ?_, fun j hj => ?_⟩
    · show _ = m_b (m_rs p f i x || (m_rs p f i i && _))
      rw [hr', Bool.true_and]
      by_cases h1 : x = m_nx p f i 1
      · subst h1
        rw [m_u_eq]
        simp [m_b]
      · rw [m_u_ne (by omega)]
        by_cases h0 : x = m_nx p f i 0
        · subst h0
          rw [m_u_eq]
          simp [m_b]
        · rw [m_u_ne (by omega), hg x hx]
          simp [h0, h1]
    · rw [m_u_ne (by omega), m_u_ne (by omega)]
theorem r_fr_mid (hc : m_mc 43 σ p) (ho : m_ok p) (hf : f < 8) : ∀ (n i : Nat) (g : Nat → Int32), m_cn p f - i < n → i ≤ m_cn p f → (∀ x, x ≤ m_cn p f → g (15 * f + x) = m_b (m_rs p f i x)) →
    ∃ g', F_X9_findReached_b36 n (nI f) (nI i) (cv_sR σ 49 g) = some (cv_sR σ 49 g') ∧ (∀ x, x ≤ m_cn p f → g' (15 * f + x) = m_b (m_rh p f x)) ∧ ∀ j, (j < 15 * f ∨ 15 * f + 15 ≤ j) → g' j = g j := by
  have h14 := m_cn14 ho hf
  intro n
  induction n with
  | zero => intro i g h; omega
  | succ n ih =>
    intro i g hn hi hg
    show ∃ g', B_X9_findReached_b36 (F_X9_findReached_b36 n) (nI f) (nI i) (cv_sR σ 49 g) = _ ∧ _
    unfold B_X9_findReached_b36
    rw [m_ld (by omega) (by decide), m_R_ne (by decide), r_cnt hc hf, m_lei (by omega) (by omega)]
    by_cases hq : m_cn p f ≤ i
    · rw [if_pos hq]
      refine ⟨g, rfl, ?_, fun _ _ => rfl⟩
      rwa [show i = m_cn p f by omega] at hg
    · rw [if_neg hq]
      obtain ⟨g1, h1, h2, h3⟩ := r_fr_in hc ho hf (show i < m_cn p f by omega) hg (F_X9_findReached_b36 n) 997
      rw [h1]
      obtain ⟨g2, q1, q2, q3⟩ := ih (i + 1) g1 (by omega) (by omega) h2
      exact ⟨g2, q1, q2, fun j hj => (q3 j hj).trans (h3 j hj)⟩
theorem r_fr_ini (hc : m_mc 43 σ p) (ho : m_ok p) (hf : f < 8) : ∀ (n i : Nat) (g : Nat → Int32), 15 - i < n → i ≤ 15 → (∀ x, x < i → g (15 * f + x) = m_b (decide (x = 0))) →
    ∃ g', F_X9_findReached_b2 n (nI f) (nI i) (cv_sR σ 49 g) = some (cv_sR σ 49 g') ∧ (∀ x, x ≤ m_cn p f → g' (15 * f + x) = m_b (m_rh p f x)) ∧ ∀ j, (j < 15 * f ∨ 15 * f + 15 ≤ j) → g' j = g j := by
  have h14 := m_cn14 ho hf
  intro n
  induction n with
  | zero => intro i g h; omega
  | succ n ih =>
    intro i g hn hi hg
    show ∃ g', B_X9_findReached_b2 (F_X9_findReached_b2 n) (nI f) (nI i) (cv_sR σ 49 g) = _ ∧ _
    unfold B_X9_findReached_b2
    rw [show (15 : Int32) = nI 15 from rfl, m_lei (by omega) (by omega)]
    by_cases hq : 15 ≤ i
    · rw [if_pos hq]
      exact r_fr_mid hc ho hf 1000 0 g (by omega) (by omega) (fun x hx => hg x (by omega))
    · rw [if_neg hq]
      have key : ∀ v : Int32, v = m_b (decide (i = 0)) → ∃ g', F_X9_findReached_b27 (F_X9_findReached_b2 n) (nI f) (nI i) v (nI 15 * nI f + nI i) (cv_sR σ 49 g) = some (cv_sR σ 49 g') ∧ (∀ x, x ≤ m_cn p f → g' (15 * f + x) = m_b (m_rh p f x)) ∧ ∀ j, (j < 15 * f ∨ 15 * f + 15 ≤ j) → g' j = g j := by
        intro v hv
        unfold F_X9_findReached_b27
        rw [m_mul, m_add, m_st (by omega) (by decide), m_AR, m_i1, m_add, hv, m_narb]
        obtain ⟨g2, q1, q2, q3⟩ := ih (i + 1) (upd g (15 * f + i) (m_b (decide (i = 0)))) (by omega) (by omega) (fun x hx => by
          by_cases h : x = i
          · subst h; rw [m_u_eq]
          · rw [m_u_ne (by omega)]; exact hg x (by omega))
        exact ⟨g2, q1, q2, fun j hj => (q3 j hj).trans (m_u_ne (by omega))⟩
      rw [show (0 : Int32) = nI 0 from rfl, m_eqi (by omega) (by omega)]
      by_cases h0 : i = 0
      · rw [if_pos h0]
        exact key 1 (by simp [h0, m_b])
      · rw [if_neg h0]
        exact key 0 (by simp [h0, m_b])
theorem r_findReached (hc : m_mc 43 σ p) (ho : m_ok p) (hf : f < 8) : ∃ g', F_X9_findReached (nI f) σ = some (cv_sR σ 49 g') ∧ (∀ x, x ≤ m_cn p f → g' (15 * f + x) = m_b (m_rh p f x)) ∧ ∀ j, (j < 15 * f ∨ 15 * f + 15 ≤ j) → g' j = σ.1 49 j := by
  unfold F_X9_findReached
  have := r_fr_ini hc ho hf 1000 0 (σ.1 49) (by omega) (by omega) (fun x hx => by omega)
  rwa [m_Rid] at this
theorem r_begin_loop : ∀ (n i : Nat) (g : Nat → Int32), 15 - i < n → i ≤ 15 → (∀ x, x < i → g x = if x = 0 then 0 else -1) → ∃ g', F_X9_beginSets_b2 n (nI i) (cv_sR σ 56 g) = some (cv_sR σ 56 g') ∧ ∀ x, x < 15 → g' x = if x = 0 then 0 else -1 := by
  intro n
  induction n with
  | zero => intro i g h; omega
  | succ n ih =>
    intro i g hn hi hg
    show ∃ g', B_X9_beginSets_b2 (F_X9_beginSets_b2 n) (nI i) (cv_sR σ 56 g) = _ ∧ _
    unfold B_X9_beginSets_b2
    rw [show (15 : Int32) = nI 15 from rfl, m_lei (by omega) (by omega)]
    by_cases hq : 15 ≤ i
    · rw [if_pos hq]
      exact ⟨g, rfl, fun x hx => hg x (by omega)⟩
    · rw [if_neg hq]
      have key : ∀ v : Int32, (v = if i = 0 then 0 else -1) → ∃ g', F_X9_beginSets_b22 (F_X9_beginSets_b2 n) (nI i) v (nI i) (cv_sR σ 56 g) = some (cv_sR σ 56 g') ∧ ∀ x, x < 15 → g' x = if x = 0 then 0 else -1 := by
        intro v hv
        unfold F_X9_beginSets_b22
        rw [m_st (by omega) (by decide), m_AR, m_i1, m_add]
        refine ih (i + 1) _ (by omega) (by omega) (fun x hx => ?_)
        by_cases h : x = i
        · subst h; rw [m_u_eq, hv]
        · rw [m_u_ne h]; exact hg x (by omega)
      rw [show (0 : Int32) = nI 0 from rfl, m_eqi (by omega) (by omega)]
      by_cases h0 : i = 0
      · rw [if_pos h0]; exact key _ (by rw [if_pos h0]; rfl)
      · rw [if_neg h0]; exact key _ (by rw [if_neg h0])
theorem r_begin {l : Int32} : ∃ g', F_X9_beginSets l σ = some (cv_sR σ 56 g') ∧ ∀ x, x < 15 → g' x = if x = 0 then 0 else -1 := by
  unfold F_X9_beginSets
  have := r_begin_loop (σ := σ) 1000 0 (σ.1 56) (by omega) (by omega) (fun x hx => by omega)
  rwa [m_Rid] at this
theorem r_bring (hc : m_mc 43 σ p) (ho : m_ok p) (hf : f < 8) (hi : i < m_cn p f) (g : Nat → Int32) (v : Int32) : ∃ g', F_X9_bringSet (nI f) (nI i) v (cv_sR σ 56 g) = some (cv_sR σ 56 g') ∧ ∀ x, g' x = if x = m_nx p f i 0 ∨ x = m_nx p f i 1 then g x &&& v else g x := by
  have h14 := m_cn14 ho hf
  have hcR : ∀ g : Nat → Int32, m_mc 43 (cv_sR σ 56 g) p := fun g => hc.fr (m_fr.R (as := [56]) (ss := []) (by decide)) (by decide)
  have l0 := m_nx_le p f i 0
  have l1 := m_nx_le p f i 1
  unfold F_X9_bringSet
  show ∃ g', B_X9_bringSet_b3 (F_X9_bringSet_b3 999) (nI f) (nI i) v 0 (cv_sR σ 56 g) = _ ∧ _
  unfold B_X9_bringSet_b3
  rw [if_neg (by decide), show (0 : Int32) = nI 0 from rfl, r_next (hcR g) ho hf hi (by decide), m_bi, m_ld (by omega) (by decide), m_R_eq, m_st (by omega) (by decide), m_AR, m_i1, m_add]
  show ∃ g', B_X9_bringSet_b3 (F_X9_bringSet_b3 998) (nI f) (nI i) v (nI 1) (cv_sR σ 56 _) = _ ∧ _
  unfold B_X9_bringSet_b3
  rw [if_neg (by decide), r_next (hcR _) ho hf hi (by decide), m_bi, m_ld (by omega) (by decide), m_R_eq, m_st (by omega) (by decide), m_AR, m_i1, m_add]
  show ∃ g', B_X9_bringSet_b3 (F_X9_bringSet_b3 997) (nI f) (nI i) v (nI 2) (cv_sR σ 56 _) = _ ∧ _
  unfold B_X9_bringSet_b3
  rw [if_pos (by decide)]
  refine ⟨_, rfl, fun x => ?_⟩
  show upd (upd g (m_nx p f i 0) (g (m_nx p f i 0) &&& v)) (m_nx p f i 1) (upd g (m_nx p f i 0) (g (m_nx p f i 0) &&& v) (m_nx p f i 1) &&& v) x = _
  by_cases h1 : x = m_nx p f i 1
  · rw [if_pos (Or.inr h1)]
    subst h1
    rw [m_u_eq]
    by_cases h0 : m_nx p f i 1 = m_nx p f i 0
    · rw [h0, m_u_eq, b_and_idem]
    · rw [m_u_ne h0]
  · rw [m_u_ne h1]
    by_cases h0 : x = m_nx p f i 0
    · rw [if_pos (Or.inl h0)]
      subst h0
      rw [m_u_eq]
    · rw [m_u_ne h0, if_neg (by omega)]
/-- what an instruction writes, but a call -/
def m_wr (p : m_P) (f i : Nat) : Int32 := if m_kd p f i = 100 ∨ m_kd p f i = 109 ∨ m_kd p f i = 45 then m_bit (m_fa p f i) else 0
def m_dt (p : m_P) (D : Nat → Int32) (f i : Nat) (v : Int32) : Int32 := v ||| (if m_kd p f i = 99 then D (m_fa p f i) else m_wr p f i)
def m_db (p : m_P) (D : Nat → Int32) (f : Nat) : Int32 := m_df p f (m_dt p D f) (m_cn p f) (m_cn p f)
theorem r_db_loop (hc : m_mc 43 σ p) (ho : m_ok p) (hf : f < 8) (hR : ∀ x, x ≤ m_cn p f → σ.1 49 (15 * f + x) = m_b (m_rh p f x)) : ∀ (n i : Nat) (g : Nat → Int32), m_cn p f - i < n → i ≤ m_cn p f → (∀ x, x ≤ m_cn p f → g x = m_df p f (m_dt p (σ.1 55) f) i x) →
    ∃ g', F_X9_definedBy_b7 n (nI f) (nI i) (cv_sR σ 56 g) = some (m_db p (σ.1 55) f, cv_sR σ 56 g') := by
  have h14 := m_cn14 ho hf
  have hcR : ∀ g : Nat → Int32, m_mc 43 (cv_sR σ 56 g) p := fun g => hc.fr (m_fr.R (as := [56]) (ss := []) (by decide)) (by decide)
  intro n
  induction n with
  | zero => intro i g h; omega
  | succ n ih =>
    intro i g hn hi hg
    show ∃ g', B_X9_definedBy_b7 (F_X9_definedBy_b7 n) (nI f) (nI i) (cv_sR σ 56 g) = _
    unfold B_X9_definedBy_b7
    rw [m_ld (by omega) (by decide), m_R_ne (by decide), r_cnt hc hf, m_lei (by omega) (by omega)]
    by_cases hq : m_cn p f ≤ i
    · rw [if_pos hq, m_ld (by omega) (by decide), m_R_ne (by decide), r_cnt hc hf, m_ld (by omega) (by decide), m_R_eq, hg _ (Nat.le_refl _), show i = m_cn p f by omega]
      exact ⟨g, rfl⟩
    · have hlt : i < m_cn p f := by omega
      rw [if_neg hq, r_reached (σ := cv_sR σ 56 g) (by rw [m_R_ne (by decide)]; exact hR) ho hf (by omega), m_bi, m_b0i]
      by_cases hr : m_rh p f i = false
      · rw [if_pos hr]
        unfold F_X9_definedBy_b100
        rw [m_i1, m_add]
        refine ih (i + 1) g (by omega) (by omega) (fun x hx => ?_)
        rw [hg x hx]
        show _ = if m_rh p f i = true ∧ _ then _ else _
        rw [if_neg (by rw [hr]; simp)]
      · have hr' : m_rh p f i = true := by simpa using hr
        have key : ∀ t, (t = if m_kd p f i = 99 then σ.1 55 (m_fa p f i) else m_wr p f i) → ∃ g', F_X9_definedBy_b83 (F_X9_definedBy_b7 n) (nI f) (nI i) t (cv_sR σ 56 g) = some (m_db p (σ.1 55) f, cv_sR σ 56 g') := by
          intro t ht
          unfold F_X9_definedBy_b83 F_X9_definedBy_b100
          rw [m_ld (by omega) (by decide), m_R_eq]
          obtain ⟨g1, h1, h2⟩ := r_bring hc ho hf hlt g (g i ||| t)
          rw [h1, m_bv, m_i1, m_add]
          refine ih (i + 1) g1 (by omega) (by omega) (fun x hx => ?_)
          rw [h2 x, hg x hx, hg i (by omega), ht]
          show _ = if m_rh p f i = true ∧ _ then _ else _
          by_cases hx2 : x = m_nx p f i 0 ∨ x = m_nx p f i 1
          · rw [if_pos hx2, if_pos (show m_rh p f i = true ∧ (x = m_nx p f i 0 ∨ x = m_nx p f i 1) from ⟨hr', hx2⟩)]; rfl
          · rw [if_neg hx2, if_neg (fun h => hx2 h.2)]
        have hv := m_val_k (m_vl ho hf hlt)
        have kb : (m_kd p f i = 100 ∨ m_kd p f i = 109 ∨ m_kd p f i = 45) → ∃ g', F_X9_definedBy_b51 (F_X9_definedBy_b7 n) (nI f) (nI i) (cv_sR σ 56 g) = some (m_db p (σ.1 55) f, cv_sR σ 56 g') := by
          intro h
          unfold F_X9_definedBy_b51
          rw [r_first (hcR g) ho hf hlt, m_bi]
          refine key _ ?_
          rw [if_neg (by omega)]
          unfold m_wr
          rw [if_pos h]; rfl
        rw [if_neg hr, r_kind (hcR g) ho hf hlt, m_bi, m_eqki (by omega) (by decide), m_eqki (by omega) (by decide), m_eqki (by omega) (by decide), m_eqki (by omega) (by decide)]
        by_cases h1 : m_kd p f i = 100
        · rw [if_pos h1]; exact kb (Or.inl h1)
        · rw [if_neg h1]
          by_cases h2 : m_kd p f i = 109
          · rw [if_pos h2]; exact kb (Or.inr (Or.inl h2))
          · rw [if_neg h2]
            by_cases h3 : m_kd p f i = 45
            · rw [if_pos h3]; exact kb (Or.inr (Or.inr h3))
            · rw [if_neg h3]
              by_cases h4 : m_kd p f i = 99
              · have hfa : m_fa p f i < 8 := by
                  have := m_vl ho hf hlt
                  unfold m_val at this
                  omega
                rw [if_pos h4, r_first (hcR g) ho hf hlt, m_bi, m_ld (by omega) (by decide), m_R_ne (by decide)]
                exact key _ (by rw [if_pos h4])
              · rw [if_neg h4]
                refine key _ ?_
                rw [if_neg h4]
                unfold m_wr
                rw [if_neg (by omega)]
theorem r_definedBy (hc : m_mc 43 σ p) (ho : m_ok p) (hf : f < 8) (hR : ∀ x, x ≤ m_cn p f → σ.1 49 (15 * f + x) = m_b (m_rh p f x)) : ∃ g', F_X9_definedBy (nI f) σ = some (m_db p (σ.1 55) f, cv_sR σ 56 g') := by
  have h14 := m_cn14 ho hf
  unfold F_X9_definedBy
  obtain ⟨g, h1, h2⟩ := r_begin (σ := σ) (l := nI f)
  rw [h1, m_bv]
  exact r_db_loop hc ho hf hR 1000 0 g (by omega) (by omega) (fun x hx => h2 x (by omega))
end A33
