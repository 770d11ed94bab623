/-! ROUNDS over eight functions, each set in its turn, until nothing changes -/
theorem m_upd_self {D : Nat → Int32} {k : Nat} : upd D k (D k) = D := by
  funext j
  unfold upd
  by_cases h : j = k
  · rw [if_pos h, h]
  · rw [if_neg h]
def m_dr (S : Nat → (Nat → Int32) → Int32) : Nat → (Nat → Int32) → Nat → Int32
  | 0, D => D
  | k + 1, D => upd (m_dr S k D) k (S k (m_dr S k D))
def m_ch (S : Nat → (Nat → Int32) → Int32) : Nat → (Nat → Int32) → Bool
  | 0, _ => false
  | k + 1, D => m_ch S k D || decide (¬ S k (m_dr S k D) = m_dr S k D k)
def m_it (S : Nat → (Nat → Int32) → Int32) (D : Nat → Int32) : Nat → Nat → Int32
  | 0 => D
  | r + 1 => m_dr S 8 (m_it S D r)
theorem m_ch_f {S : Nat → (Nat → Int32) → Int32} {D : Nat → Int32} : ∀ k, m_ch S k D = false → m_dr S k D = D ∧ ∀ j, j < k → S j D = D j := by
  intro k
  induction k with
  | zero => intro _; exact ⟨rfl, fun j hj => by omega⟩
  | succ k ih =>
    intro h
    have h1 : (m_ch S k D || decide (¬ S k (m_dr S k D) = m_dr S k D k)) = false := h
    rw [Bool.or_eq_false_iff] at h1
    obtain ⟨e1, e2⟩ := ih h1.1
    have h2 := h1.2
    rw [e1] at h2
    have h3 : S k D = D k := by simpa using h2
    refine ⟨?_, fun j hj => ?_⟩
    · show upd (m_dr S k D) k (S k (m_dr S k D)) = D
      rw [e1, h3, m_upd_self]
    · by_cases hj2 : j = k
      · rw [hj2]; exact h3
      · exact e2 j (by omega)
/-- what is asked of the steps: an order R, a measure, a domain -/
def m_sys (R : Int32 → Int32 → Prop) (μ : Int32 → Nat) (dom : Int32 → Prop) (S : Nat → (Nat → Int32) → Int32) : Prop :=
  (∀ x, R x x) ∧ (∀ x y z, R x y → R y z → R x z) ∧ (∀ x y, dom x → dom y → R x y → μ x ≤ μ y) ∧ (∀ x y, dom x → dom y → R x y → ¬ x = y → μ x < μ y) ∧ (∀ x, dom x → μ x ≤ 8) ∧ (∀ j D, j < 8 → (∀ f, f < 8 → dom (D f)) → dom (S j D)) ∧ (∀ j D E, j < 8 → (∀ f, f < 8 → dom (D f)) → (∀ f, f < 8 → dom (E f)) → (∀ f, f < 8 → R (D f) (E f)) → R (S j D) (S j E))
def m_inv (R : Int32 → Int32 → Prop) (dom : Int32 → Prop) (S : Nat → (Nat → Int32) → Int32) (D : Nat → Int32) : Prop := (∀ f, f < 8 → dom (D f)) ∧ ∀ f, f < 8 → R (D f) (S f D)
def m_w (μ : Int32 → Nat) (D : Nat → Int32) : Nat := μ (D 0) + μ (D 1) + μ (D 2) + μ (D 3) + μ (D 4) + μ (D 5) + μ (D 6) + μ (D 7)
section I34
variable {R : Int32 → Int32 → Prop} {μ : Int32 → Nat} {dom : Int32 → Prop} {S : Nat → (Nat → Int32) → Int32}
theorem m_inv1 (H : m_sys R μ dom S) {D : Nat → Int32} (hI : m_inv R dom S D) {k : Nat} (hk : k < 8) : m_inv R dom S (upd D k (S k D)) ∧ ∀ f, f < 8 → R (D f) (upd D k (S k D) f) := by
  obtain ⟨h1, h2, h3, h4, h5, h6, h7⟩ := H
  have hd : ∀ f, f < 8 → dom (upd D k (S k D) f) := fun f hf => by
    by_cases h : f = k
    · subst h; rw [m_u_eq]; exact h6 f D hf hI.1
    · rw [m_u_ne h]; exact hI.1 f hf
  have hle : ∀ f, f < 8 → R (D f) (upd D k (S k D) f) := fun f hf => by
    by_cases h : f = k
    · subst h; rw [m_u_eq]; exact hI.2 f hf
    · rw [m_u_ne h]; exact h1 _
  refine ⟨⟨hd, fun f hf => ?_⟩, hle⟩
  have hm := h7 f D (upd D k (S k D)) hf hI.1 hd hle
  by_cases h : f = k
  · subst h; rw [m_u_eq]; exact hm
  · rw [m_u_ne h]; exact h2 _ _ _ (hI.2 f hf) hm
theorem m_invk (H : m_sys R μ dom S) {D : Nat → Int32} (hI : m_inv R dom S D) : ∀ k, k ≤ 8 → m_inv R dom S (m_dr S k D) ∧ ∀ f, f < 8 → R (D f) (m_dr S k D f) := by
  intro k
  induction k with
  | zero => intro _; exact ⟨hI, fun f _ => H.1 _⟩
  | succ k ih =>
    intro hk
    obtain ⟨a1, a2⟩ := ih (by omega)
    obtain ⟨b1, b2⟩ := m_inv1 H a1 (show k < 8 by omega)
    exact ⟨b1, fun f hf => H.2.1 _ _ _ (a2 f hf) (b2 f hf)⟩
theorem m_w_le {D E : Nat → Int32} (h : ∀ f, f < 8 → μ (D f) ≤ μ (E f)) : m_w μ D ≤ m_w μ E := by
  unfold m_w
  have h0 := h 0 (by decide); have h1 := h 1 (by decide); have h2 := h 2 (by decide); have h3 := h 3 (by decide)
  have h4 := h 4 (by decide); have h5 := h 5 (by decide); have h6 := h 6 (by decide); have h7 := h 7 (by decide)
  omega
theorem m_w_lt {D E : Nat → Int32} (h : ∀ f, f < 8 → μ (D f) ≤ μ (E f)) {k : Nat} (hk : k < 8) (hl : μ (D k) < μ (E k)) : m_w μ D < m_w μ E := by
  unfold m_w
  have h0 := h 0 (by decide); have h1 := h 1 (by decide); have h2 := h 2 (by decide); have h3 := h 3 (by decide)
  have h4 := h 4 (by decide); have h5 := h 5 (by decide); have h6 := h 6 (by decide); have h7 := h 7 (by decide)
  rcases (show k = 0 ∨ k = 1 ∨ k = 2 ∨ k = 3 ∨ k = 4 ∨ k = 5 ∨ k = 6 ∨ k = 7 by omega) with rfl | rfl | rfl | rfl | rfl | rfl | rfl | rfl <;> omega
theorem m_w_64 (H : m_sys R μ dom S) {D : Nat → Int32} (hd : ∀ f, f < 8 → dom (D f)) : m_w μ D ≤ 64 := by
  unfold m_w
  have h := fun f hf => H.2.2.2.2.1 (D f) (hd f hf)
  have h0 := h 0 (by decide); have h1 := h 1 (by decide); have h2 := h 2 (by decide); have h3 := h 3 (by decide)
  have h4 := h 4 (by decide); have h5 := h 5 (by decide); have h6 := h 6 (by decide); have h7 := h 7 (by decide)
  omega
theorem m_chk (H : m_sys R μ dom S) {D : Nat → Int32} (hI : m_inv R dom S D) : ∀ k, k ≤ 8 → m_ch S k D = true → m_w μ D < m_w μ (m_dr S k D) := by
  intro k
  induction k with
  | zero => intro _ h; cases h
  | succ k ih =>
    intro hk h
    have h1 : (m_ch S k D || decide (¬ S k (m_dr S k D) = m_dr S k D k)) = true := h
    obtain ⟨a1, a2⟩ := m_invk H hI k (by omega)
    obtain ⟨b1, b2⟩ := m_inv1 H a1 (show k < 8 by omega)
    have hle : ∀ f, f < 8 → μ (m_dr S k D f) ≤ μ (m_dr S (k + 1) D f) := fun f hf => H.2.2.1 _ _ (a1.1 f hf) (b1.1 f hf) (b2 f hf)
    have hle0 : ∀ f, f < 8 → μ (D f) ≤ μ (m_dr S k D f) := fun f hf => H.2.2.1 _ _ (hI.1 f hf) (a1.1 f hf) (a2 f hf)
    rw [Bool.or_eq_true] at h1
    rcases h1 with h1 | h1
    · exact Nat.lt_of_lt_of_le (ih (by omega) h1) (m_w_le hle)
    · refine Nat.lt_of_le_of_lt (m_w_le hle0) (m_w_lt hle (show k < 8 by omega) ?_)
      have hne : ¬ S k (m_dr S k D) = m_dr S k D k := by simpa using h1
      have hb := b2 k (by omega)
      have he : m_dr S (k + 1) D k = S k (m_dr S k D) := m_u_eq
      rw [he]
      rw [m_u_eq] at hb
      have hdm := b1.1 k (by omega)
      rw [m_u_eq] at hdm
      exact H.2.2.2.1 _ _ (a1.1 k (by omega)) hdm hb (fun q => hne q.symm)
theorem m_it_inv (H : m_sys R μ dom S) {D : Nat → Int32} (hI : m_inv R dom S D) : ∀ r, m_inv R dom S (m_it S D r) := by
  intro r
  induction r with
  | zero => exact hI
  | succ r ih => exact (m_invk H ih 8 (Nat.le_refl _)).1
theorem m_it_bd (H : m_sys R μ dom S) {D E : Nat → Int32} (hI : m_inv R dom S D) (hE : ∀ f, f < 8 → dom (E f)) (hc : ∀ f, f < 8 → R (S f E) (E f)) (h0 : ∀ f, f < 8 → R (D f) (E f)) : ∀ r, ∀ f, f < 8 → R (m_it S D r f) (E f) := by
  have key : ∀ D, m_inv R dom S D → (∀ f, f < 8 → R (D f) (E f)) → ∀ k, k ≤ 8 → ∀ f, f < 8 → R (m_dr S k D f) (E f) := by
    intro D hI h0 k
    induction k with
    | zero => intro _; exact h0
    | succ k ih =>
      intro hk f hf
      show R (upd (m_dr S k D) k (S k (m_dr S k D)) f) (E f)
      by_cases h : f = k
      · subst h
        rw [m_u_eq]
        exact H.2.1 _ _ _ (H.2.2.2.2.2.2 f _ E hf (m_invk H hI f (by omega)).1.1 hE (ih (by omega))) (hc f hf)
      · rw [m_u_ne h]
        exact ih (by omega) f hf
  intro r
  induction r with
  | zero => exact h0
  | succ r ih => exact key _ (m_it_inv H hI r) ih 8 (Nat.le_refl _)
/-- the round that changes nothing comes within 65 -/
theorem m_it_end (H : m_sys R μ dom S) {D : Nat → Int32} (hI : m_inv R dom S D) : ∃ K, K ≤ 64 ∧ (∀ j, j < K → m_ch S 8 (m_it S D j) = true) ∧ m_ch S 8 (m_it S D K) = false := by
  obtain ⟨K, hK, hl⟩ := pk_least (fun k => m_ch S 8 (m_it S D k) = false) (by
    refine Classical.byContradiction fun hn => ?_
    have hall : ∀ k, m_ch S 8 (m_it S D k) = true := fun k => by
      cases h : m_ch S 8 (m_it S D k)
      · exact absurd ⟨k, h⟩ hn
      · rfl
    have hw : ∀ k, k ≤ m_w μ (m_it S D k) := by
      intro k
      induction k with
      | zero => exact Nat.zero_le _
      | succ k ih => exact Nat.succ_le_of_lt (Nat.lt_of_le_of_lt ih (m_chk H (m_it_inv H hI k) 8 (Nat.le_refl _) (hall k)))
    have := hw 65
    have := m_w_64 H (m_it_inv H hI 65).1
    omega)
  have hc : ∀ j, j < K → m_ch S 8 (m_it S D j) = true := fun j hj => by
    cases h : m_ch S 8 (m_it S D j)
    · exact absurd h (hl j hj)
    · rfl
  refine ⟨K, ?_, hc, hK⟩
  have hw : ∀ k, k ≤ K → k ≤ m_w μ (m_it S D k) := by
    intro k
    induction k with
    | zero => intro _; exact Nat.zero_le _
    | succ k ih => intro hk; exact Nat.succ_le_of_lt (Nat.lt_of_le_of_lt (ih (by omega)) (m_chk H (m_it_inv H hI k) 8 (Nat.le_refl _) (hc k (by omega))))
  have h1 := hw K (Nat.le_refl _)
  have h2 := m_w_64 H (m_it_inv H hI K).1
  omega
end I34
/-- bits among the first eight -/
def m_pc (x : Int32) : Nat := (bt x 0).toNat + (bt x 1).toNat + (bt x 2).toNat + (bt x 3).toNat + (bt x 4).toNat + (bt x 5).toNat + (bt x 6).toNat + (bt x 7).toNat
theorem m_bn {a b : Bool} (h : a = true → b = true) : a.toNat ≤ b.toNat := by
  cases a <;> cases b <;> simp_all
theorem m_bn1 {a : Bool} : a.toNat ≤ 1 := by cases a <;> decide
theorem m_sub_refl (x : Int32) : m_sub x x := m_sub_bt.mpr (fun _ _ h => h)
theorem m_sub_trans (x y z : Int32) (h : m_sub x y) (g : m_sub y z) : m_sub x z := m_sub_bt.mpr (fun i hi hb => m_sub_bt.mp g i hi (m_sub_bt.mp h i hi hb))
theorem m_sub_anti {x y : Int32} (h : m_sub x y) (g : m_sub y x) : x = y := b_ext (fun i hi => by
  cases hx : bt x i
  · cases hy : bt y i
    · rfl
    · rw [m_sub_bt.mp g i hi hy] at hx; cases hx
  · rw [m_sub_bt.mp h i hi hx])
theorem m_pc_le {x y : Int32} (h : m_sub x y) : m_pc x ≤ m_pc y := by
  have hb := fun i hi => m_bn (m_sub_bt.mp h i hi)
  unfold m_pc
  have h0 := hb 0 (by decide); have h1 := hb 1 (by decide); have h2 := hb 2 (by decide); have h3 := hb 3 (by decide)
  have h4 := hb 4 (by decide); have h5 := hb 5 (by decide); have h6 := hb 6 (by decide); have h7 := hb 7 (by decide)
  omega
theorem m_pc_8 (x : Int32) : m_pc x ≤ 8 := by
  unfold m_pc
  have h0 := @m_bn1 (bt x 0); have h1 := @m_bn1 (bt x 1); have h2 := @m_bn1 (bt x 2); have h3 := @m_bn1 (bt x 3)
  have h4 := @m_bn1 (bt x 4); have h5 := @m_bn1 (bt x 5); have h6 := @m_bn1 (bt x 6); have h7 := @m_bn1 (bt x 7)
  omega
theorem m_pc_lt {x y : Int32} (hx : m_sub x 255) (hy : m_sub y 255) (h : m_sub x y) (hne : ¬ x = y) : m_pc x < m_pc y := by
  obtain ⟨j, hj, h1, h2⟩ : ∃ j, j < 8 ∧ bt x j = false ∧ bt y j = true := by
    refine Classical.byContradiction fun hn => hne (m_sub_anti h (m_sub_bt.mpr (fun i hi hb => ?_)))
    have h8 : i < 8 := by
      have := m_sub_bt.mp hy i hi hb
      rw [b_255, decide_eq_true_eq] at this
      exact this
    cases hxi : bt x i
    · exact absurd ⟨i, h8, hxi, hb⟩ hn
    · rfl
  have hb := fun i hi => m_bn (m_sub_bt.mp h i hi)
  have hs : (bt x j).toNat < (bt y j).toNat := by rw [h1, h2]; decide
  unfold m_pc
  have h0 := hb 0 (by decide); have h1 := hb 1 (by decide); have h2 := hb 2 (by decide); have h3 := hb 3 (by decide)
  have h4 := hb 4 (by decide); have h5 := hb 5 (by decide); have h6 := hb 6 (by decide); have h7 := hb 7 (by decide)
  rcases (show j = 0 ∨ j = 1 ∨ j = 2 ∨ j = 3 ∨ j = 4 ∨ j = 5 ∨ j = 6 ∨ j = 7 by omega) with rfl | rfl | rfl | rfl | rfl | rfl | rfl | rfl <;> omega
/-- growing sets -/
theorem m_sys_up {S : Nat → (Nat → Int32) → Int32} (h1 : ∀ j D, j < 8 → (∀ f, f < 8 → m_sub (D f) 255) → m_sub (S j D) 255) (h2 : ∀ j D E, j < 8 → (∀ f, f < 8 → m_sub (D f) 255) → (∀ f, f < 8 → m_sub (E f) 255) → (∀ f, f < 8 → m_sub (D f) (E f)) → m_sub (S j D) (S j E)) : m_sys m_sub m_pc (fun x => m_sub x 255) S :=
  ⟨m_sub_refl, m_sub_trans, fun _ _ _ _ h => m_pc_le h, fun _ _ hx hy h hne => m_pc_lt hx hy h hne, fun x _ => m_pc_8 x, h1, h2⟩
/-- falling sets -/
theorem m_sys_dn {S : Nat → (Nat → Int32) → Int32} (h1 : ∀ j D, j < 8 → (∀ f, f < 8 → m_sub (D f) 255) → m_sub (S j D) 255) (h2 : ∀ j D E, j < 8 → (∀ f, f < 8 → m_sub (D f) 255) → (∀ f, f < 8 → m_sub (E f) 255) → (∀ f, f < 8 → m_sub (E f) (D f)) → m_sub (S j E) (S j D)) : m_sys (fun x y => m_sub y x) (fun x => 8 - m_pc x) (fun x => m_sub x 255) S :=
  ⟨m_sub_refl, fun x y z h g => m_sub_trans z y x g h, fun x y _ _ h => by have := m_pc_le h; show 8 - m_pc x ≤ 8 - m_pc y; omega, fun x y hx hy h hne => by
    have h1 := m_pc_lt hy hx h (fun q => hne q.symm)
    have h2 := m_pc_8 x
    show 8 - m_pc x < 8 - m_pc y
    omega, fun x _ => by show 8 - m_pc x ≤ 8; omega, h1, h2⟩
