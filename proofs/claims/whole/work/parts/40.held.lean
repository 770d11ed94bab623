/-! KEPT: the rows of what is held, and the reference's walk -/
def m_do (p : m_P) (K : Nat → Int32) (f i d : Nat) (r : Nat → Int32) (q : Nat) : Int32 :=
  if m_kd p f i = 43 then (if q = 8 + d then r (m_fa p f i) else r q)
  else if m_kd p f i = 45 then (if q = m_fa p f i then r (8 + d - 1) else r q)
  else if m_kd p f i = 99 then (if q < 8 ∧ bt (K (m_fa p f i)) q = false then -1 else r q)
  else if m_kd p f i = 100 then (if q = m_fa p f i then -1 else r q)
  else if m_kd p f i = 109 then (if q = m_fa p f i then r (m_sb p f i) else r q)
  else r q
def m_mg (b : Bool) (r n : Int32) : Int32 := if b = false ∨ r = n then n else -1
theorem m_mg_f (r n : Int32) : m_mg false r n = n := if_pos (Or.inl rfl)
theorem m_mg_2 (b : Bool) (r n : Int32) : m_mg true (m_mg b r n) n = m_mg b r n := by
  by_cases h : b = false ∨ r = n
  · rw [show m_mg b r n = n from if_pos h]
    exact if_pos (Or.inr rfl)
  · rw [show m_mg b r n = -1 from if_neg h]
    by_cases g : (-1 : Int32) = n
    · rw [← g]; exact if_pos (Or.inr rfl)
    · exact if_neg (fun z => z.elim (fun z => by cases z) g)
def m_ht (p : m_P) (f i : Nat) : Nat := match m_hs p f i with
  | none => 0
  | some h => (h i).getD 0
theorem m_ht_eq {p : m_P} {f i d : Nat} {h : Nat → Option Nat} (hh : m_hs p f i = some h) (hd : h i = some d) : m_ht p f i = d := by
  unfold m_ht; rw [hh]; show (h i).getD 0 = d; rw [hd]; rfl
def m_ro (p : m_P) (K : Nat → Int32) (f : Nat) : Nat → Nat → Nat → Int32
  | 0, _, q => if q < 8 then nI q else -1
  | i + 1, x, q => if m_rh p f i = true ∧ (x = m_nx p f i 0 ∨ x = m_nx p f i 1) then m_mg (m_rs p f i x) (m_ro p K f i x q) (m_do p K f i (m_ht p f i) (m_ro p K f i i) q) else m_ro p K f i x q
def m_bs (P : Nat → Bool) : Nat → Int32
  | 0 => 0
  | n + 1 => m_bs P n ||| (if P n = true then m_bit n else 0)
theorem b_bs (P : Nat → Bool) : ∀ n, n ≤ 32 → ∀ i, bt (m_bs P n) i = (decide (i < n) && P i) := by
  intro n
  induction n with
  | zero => intro _ i; show bt 0 i = _; rw [b_0]; simp
  | succ n ih =>
    intro hn i
    show bt (m_bs P n ||| _) i = _
    rw [b_or, ih (by omega)]
    by_cases hi : i = n
    · subst hi
      cases hp : P i with
      | true => rw [if_pos rfl, b_bit (by omega)]; simp
      | false => rw [if_neg (by simp), b_0]; simp
    · cases hp : P n with
      | true => rw [if_pos rfl, b_bit (by omega), decide_eq_false hi, Bool.or_false, show decide (i < n + 1) = decide (i < n) from decide_eq_decide.mpr (by omega)]
      | false => rw [if_neg (by simp), b_0, Bool.or_false, show decide (i < n + 1) = decide (i < n) from decide_eq_decide.mpr (by omega)]
def m_kb (p : m_P) (K : Nat → Int32) (f : Nat) : Int32 := m_bs (fun q => decide (m_ro p K f (m_cn p f) (m_cn p f) q = nI q)) 8
/-- the order of what is known: -1 knows nothing -/
def m_lo (u v : Int32) : Prop := u = -1 ∨ u = v
theorem m_lo_mg {b : Bool} {r n r' n' : Int32} (h : m_lo r r') (g : m_lo n n') : m_lo (m_mg b r n) (m_mg b r' n') := by
  by_cases h1 : b = false ∨ r = n
  · rw [show m_mg b r n = n from if_pos h1]
    by_cases h2 : b = false ∨ r' = n'
    · rw [show m_mg b r' n' = n' from if_pos h2]; exact g
    · rcases g with g | g
      · exact Or.inl g
      · rcases h with h | h
        · rcases h1 with h1 | h1
          · exact absurd (Or.inl h1) h2
          · exact Or.inl (h1 ▸ h)
        · rcases h1 with h1 | h1
          · exact absurd (Or.inl h1) h2
          · exact absurd (Or.inr (by rw [← h, ← g, h1])) h2
  · rw [show m_mg b r n = -1 from if_neg h1]; exact Or.inl rfl
theorem m_lo_do {p : m_P} {K K' : Nat → Int32} {f i d : Nat} {r r' : Nat → Int32} (hK : m_kd p f i = 99 → ∀ q, q < 8 → bt (K (m_fa p f i)) q = true → bt (K' (m_fa p f i)) q = true) (h : ∀ q, m_lo (r q) (r' q)) (q : Nat) : m_lo (m_do p K f i d r q) (m_do p K' f i d r' q) := by
  unfold m_do
  by_cases h1 : m_kd p f i = 43
  · rw [if_pos h1, if_pos h1]
    by_cases hq : q = 8 + d
    · rw [if_pos hq, if_pos hq]; exact h _
    · rw [if_neg hq, if_neg hq]; exact h _
  · rw [if_neg h1, if_neg h1]
    by_cases h2 : m_kd p f i = 45
    · rw [if_pos h2, if_pos h2]
      by_cases hq : q = m_fa p f i
      · rw [if_pos hq, if_pos hq]; exact h _
      · rw [if_neg hq, if_neg hq]; exact h _
    · rw [if_neg h2, if_neg h2]
      by_cases h3 : m_kd p f i = 99
      · rw [if_pos h3, if_pos h3]
        by_cases hq : q < 8 ∧ bt (K (m_fa p f i)) q = false
        · rw [if_pos hq]; exact Or.inl rfl
        · have : ¬ (q < 8 ∧ bt (K' (m_fa p f i)) q = false) := fun z => hq ⟨z.1, by
            cases hb : bt (K (m_fa p f i)) q with
            | false => rfl
            | true => rw [hK h3 q z.1 hb] at z; exact z.2⟩
          rw [if_neg hq, if_neg this]; exact h _
      · rw [if_neg h3, if_neg h3]
        by_cases h4 : m_kd p f i = 100
        · rw [if_pos h4, if_pos h4]
          by_cases hq : q = m_fa p f i
          · rw [if_pos hq, if_pos hq]; exact Or.inl rfl
          · rw [if_neg hq, if_neg hq]; exact h _
        · rw [if_neg h4, if_neg h4]
          by_cases h5 : m_kd p f i = 109
          · rw [if_pos h5, if_pos h5]
            by_cases hq : q = m_fa p f i
            · rw [if_pos hq, if_pos hq]; exact h _
            · rw [if_neg hq, if_neg hq]; exact h _
          · rw [if_neg h5, if_neg h5]; exact h _
theorem m_lo_ro {p : m_P} {K K' : Nat → Int32} {f : Nat} (ho : m_ok p) (hf : f < 8) (hK : ∀ g, g < 8 → m_sub (K g) (K' g)) : ∀ i, i ≤ m_cn p f → ∀ x q, m_lo (m_ro p K f i x q) (m_ro p K' f i x q) := by
  intro i
  induction i with
  | zero => intro _ x q; exact Or.inr rfl
  | succ i ih =>
    intro hi x q
    have ih := ih (by omega)
    show m_lo (if _ then _ else _) (if _ then _ else _)
    by_cases hc : m_rh p f i = true ∧ (x = m_nx p f i 0 ∨ x = m_nx p f i 1)
    · rw [if_pos hc, if_pos hc]
      exact m_lo_mg (ih x q) (m_lo_do (fun h99 y hy => m_sub_bt.mp (hK _ (m_fa8 ho hf (by omega) (by omega))) y (by omega)) (ih i) q)
    · rw [if_neg hc, if_neg hc]; exact ih x q
theorem m_nI_m1 {q : Nat} (h : q < 2147483648) : ¬ nI q = -1 := fun z => by
  have : (nI q).toInt = -1 := by rw [z]; decide
  rw [nI_toInt h] at this
  omega
theorem m_kb_mono {p : m_P} {K K' : Nat → Int32} {f : Nat} (ho : m_ok p) (hf : f < 8) (hK : ∀ g, g < 8 → m_sub (K g) (K' g)) : m_sub (m_kb p K f) (m_kb p K' f) := m_sub_bt.mpr (fun i hi hb => by
  unfold m_kb at hb ⊢
  rw [b_bs _ 8 (by omega)] at hb ⊢
  rw [Bool.and_eq_true] at hb ⊢
  refine ⟨hb.1, decide_eq_true ?_⟩
  have h1 := of_decide_eq_true hb.2
  rcases m_lo_ro ho hf hK _ (Nat.le_refl _) (m_cn p f) i with h | h
  · rw [h] at h1; exact absurd h1.symm (m_nI_m1 (by omega))
  · rw [← h]; exact h1)
theorem m_kb_dom {p : m_P} {K : Nat → Int32} {f : Nat} : m_sub (m_kb p K f) 255 := m_sub_bt.mpr (fun i hi hb => by
  unfold m_kb at hb
  rw [b_bs _ 8 (by omega), Bool.and_eq_true] at hb
  rw [b_255]; exact hb.1)
/-- two rows that agree below the height agree below the next -/
theorem m_do_ag {p : m_P} {K : Nat → Int32} {f i d e : Nat} (ho : m_ok p) (hf : f < 8) (hi : i < m_cn p f) {r r' : Nat → Int32} (h : ∀ q, q < 8 + d → r q = r' q) (he : m_gr (m_kd p f i) d = some e) (q : Nat) (hq : q < 8 + e) : m_do p K f i d r q = m_do p K f i d r' q := by
  have hb := (m_val_k (m_vl ho hf hi)).2.2.1
  unfold m_gr at he
  unfold m_do
  by_cases h1 : m_kd p f i = 43
  · have ha := m_fa8 ho hf hi (by omega)
    rw [if_pos h1] at he
    rw [if_pos h1, if_pos h1]
    split at he
    · cases he
      by_cases hz : q = 8 + d
      · rw [if_pos hz, if_pos hz]; exact h _ (by omega)
      · rw [if_neg hz, if_neg hz]; exact h _ (by omega)
    · cases he
  · rw [if_neg h1] at he
    rw [if_neg h1, if_neg h1]
    by_cases h2 : m_kd p f i = 45
    · rw [if_pos h2] at he
      rw [if_pos h2, if_pos h2]
      split at he
      · cases he
        by_cases hz : q = m_fa p f i
        · rw [if_pos hz, if_pos hz]; exact h _ (by omega)
        · rw [if_neg hz, if_neg hz]; exact h _ (by omega)
      · cases he
    · rw [if_neg h2] at he
      cases he
      rw [if_neg h2, if_neg h2, h q hq]
      by_cases h3 : m_kd p f i = 99
      · rw [if_pos h3, if_pos h3]
      · rw [if_neg h3, if_neg h3]
        by_cases h4 : m_kd p f i = 100
        · rw [if_pos h4, if_pos h4]
        · rw [if_neg h4, if_neg h4]
          by_cases h5 : m_kd p f i = 109
          · rw [if_pos h5, if_pos h5, h _ (by omega)]
          · rw [if_neg h5, if_neg h5]
theorem m_b1i {α : Type} {b : Bool} [Decidable (m_b b = 1)] {x y : α} : (if m_b b = 1 then x else y) = (if b = true then x else y) := m_ifc (by cases b; exact ⟨fun z => absurd z (show ¬ ((0 : Int32) = 1) by decide), fun z => by cases z⟩; exact ⟨fun _ => rfl, fun _ => rfl⟩)
section A40
variable {p : m_P} {σ τ : cv_St} {f i : Nat}
theorem r_co_loop {x e : Nat} (hx : x < 15) {c : Bool} (hcx : τ.1 52 x < 0 ↔ c = false) : ∀ (n q : Nat) (g : Nat → Int32), 14 - q < n → q ≤ 14 →
    ∃ g', F_X9_comes_b23 n (nI x) (nI e) (nI q) (cv_sR τ 53 g) = some (1, cv_sA (cv_sR τ 53 g') 52 x (nI e)) ∧ (∀ y, q ≤ y → y < 14 → g' (14 * x + y) = m_mg c (g (14 * x + y)) (τ.1 54 y)) ∧ ∀ j, (j < 14 * x + q ∨ 14 * x + 14 ≤ j) → g' j = g j := by
  intro n
  induction n with
  | zero => intro q g h; omega
  | succ n ih =>
    intro q g hn hq
    show ∃ g', B_X9_comes_b23 (F_X9_comes_b23 n) (nI x) (nI e) (nI q) (cv_sR τ 53 g) = _ ∧ _
    unfold B_X9_comes_b23
    rw [show (14 : Int32) = nI 14 from rfl, m_lei (by omega) (by omega)]
    by_cases h14 : 14 ≤ q
    · rw [if_pos h14, m_st hx (by decide)]
      exact ⟨g, rfl, fun y _ _ => by omega, fun _ _ => rfl⟩
    · have hstep : ∀ v, ∃ g', F_X9_comes_b90 (F_X9_comes_b23 n) (nI x) (nI e) (nI q) v (nI (14 * x + q)) (cv_sR τ 53 g) = some (1, cv_sA (cv_sR τ 53 g') 52 x (nI e)) ∧ g' (14 * x + q) = v ∧ (∀ y, q + 1 ≤ y → y < 14 → g' (14 * x + y) = m_mg c (g (14 * x + y)) (τ.1 54 y)) ∧ ∀ j, (j < 14 * x + q ∨ 14 * x + 14 ≤ j) → g' j = g j := by
        intro v
        unfold F_X9_comes_b90
        rw [m_st (by omega) (by decide), m_AR, m_i1, m_add]
        obtain ⟨g', k1, k2, k3⟩ := ih (q + 1) (upd g (14 * x + q) v) (by omega) (by omega)
        refine ⟨g', k1, by rw [k3 _ (by omega), m_u_eq], fun y hy1 hy2 => ?_, fun j hj => ?_⟩
        · rw [k2 y hy1 hy2, m_u_ne (by omega)]
        · rw [k3 j (by omega), m_u_ne (by omega)]
      have hfin : ∀ v, v = m_mg c (g (14 * x + q)) (τ.1 54 q) → ∃ g', F_X9_comes_b90 (F_X9_comes_b23 n) (nI x) (nI e) (nI q) v (nI (14 * x + q)) (cv_sR τ 53 g) = some (1, cv_sA (cv_sR τ 53 g') 52 x (nI e)) ∧ (∀ y, q ≤ y → y < 14 → g' (14 * x + y) = m_mg c (g (14 * x + y)) (τ.1 54 y)) ∧ ∀ j, (j < 14 * x + q ∨ 14 * x + 14 ≤ j) → g' j = g j := by
        intro v hv
        obtain ⟨g', k1, k2, k3, k4⟩ := hstep v
        refine ⟨g', k1, fun y hy1 hy2 => ?_, k4⟩
        by_cases hyq : y = q
        · rw [hyq, k2, hv]
        · exact k3 y (by omega) hy2
      rw [if_neg h14, m_ld hx (by decide), m_R_ne (by decide)]
      cases c with
      | false =>
        rw [if_pos (hcx.mpr rfl)]
        unfold F_X9_comes_b58 F_X9_comes_b63
        rw [if_neg (by decide), m_ld (by omega) (by decide), m_R_ne (by decide), show (14 : Int32) = nI 14 from rfl, m_mul, m_add]
        exact hfin _ (m_mg_f _ _).symm
      | true =>
        rw [if_neg (fun z => by have := hcx.mp z; cases this), m_mul, m_add, m_ld (by omega) (by decide), m_R_eq, m_ld (by omega) (by decide), m_R_ne (by decide)]
        by_cases hv : g (14 * x + q) = τ.1 54 q
        · rw [if_pos hv]
          unfold F_X9_comes_b58 F_X9_comes_b63
          rw [if_neg (by decide), m_ld (by omega) (by decide), m_R_ne (by decide), show (14 : Int32) = nI 14 from rfl, m_mul, m_add]
          exact hfin _ (if_pos (Or.inr hv)).symm
        · rw [if_neg hv]
          unfold F_X9_comes_b63
          rw [if_pos rfl, show (14 : Int32) = nI 14 from rfl, m_mul, m_add]
          exact hfin _ (if_neg (fun z => z.elim (fun z => by cases z) hv)).symm
def m_RL (p : m_P) (f : Nat) (h : Nat → Option Nat) (R : Nat → Nat → Int32) (τ : cv_St) : Prop := (∀ x, x ≤ m_cn p f → τ.1 52 x = m_eh (h x)) ∧ ∀ x d, x ≤ m_cn p f → h x = some d → ∀ q, q < 8 + d → τ.1 53 (14 * x + q) = R x q
theorem r_comes (ho : m_ok p) (hf : f < 8) {h : Nat → Option Nat} {R : Nat → Nat → Int32} (hh : ∀ x d, h x = some d → d ≤ 6) (hr : m_RL p f h R τ) {x e : Nat} (hx : x ≤ m_cn p f) (he : e ≤ 6) {N : Nat → Int32} (hN : ∀ q, q < 8 + e → τ.1 54 q = N q) :
    ∃ υ, F_X9_comes (nI x) (nI e) τ = some (m_b (m_hp h x e).isSome, υ) ∧ m_fr [52, 53] [] τ υ ∧ ∀ h', m_hp h x e = some h' → m_RL p f h' (fun y q => if y = x then m_mg (h x).isSome (R x q) (N q) else R y q) υ := by
  have h14 := m_cn14 ho hf
  have hgo : ∀ c : Bool, (τ.1 52 x < 0 ↔ c = false) → (∀ d, h x = some d → d = e) → c = (h x).isSome → ∃ υ, F_X9_comes_b21 (nI x) (nI e) τ = some (1, υ) ∧ m_fr [52, 53] [] τ υ ∧ ∀ h', m_hp h x e = some h' → m_RL p f h' (fun y q => if y = x then m_mg (h x).isSome (R x q) (N q) else R y q) υ := by
    intro c hc hd hce
    obtain ⟨g', k1, k2, k3⟩ := r_co_loop (τ := τ) (x := x) (e := e) (by omega) hc 1000 0 (τ.1 53) (by omega) (by omega)
    rw [m_Rid] at k1
    refine ⟨_, k1, (m_fr.R (by decide)).trans (m_fr.A (by decide)), fun h' hh' => ?_⟩
    obtain ⟨b1, b2⟩ := m_hp_at hh'
    refine ⟨fun y hy => ?_, fun y d hy hyd q hq => ?_⟩
    · rw [m_A_eq]
      by_cases hyx : y = x
      · rw [hyx, m_u_eq, b1]; rfl
      · rw [m_u_ne hyx, m_R_ne (by decide), hr.1 y hy, b2 y hyx]
    · rw [m_A_ne (by decide), m_R_eq]
      by_cases hyx : y = x
      · subst hyx
        rw [b1] at hyd
        cases hyd
        rw [k2 q (by omega) (by omega), hN q hq]
        show _ = if y = y then _ else _
        rw [if_pos rfl, ← hce]
        cases hxx : h y with
        | none => rw [hce, hxx]; exact (m_mg_f _ _).trans (m_mg_f _ _).symm
        | some d => rw [hr.2 y d hy hxx q (by rw [hd d hxx]; exact hq)]
      · show _ = if y = x then _ else _
        have hq14 : q < 14 := by
          rw [b2 y hyx] at hyd
          have := hh y d hyd
          omega
        rw [if_neg hyx, k3 _ (by omega)]
        rw [b2 y hyx] at hyd
        exact hr.2 y d hy hyd q hq
  unfold F_X9_comes
  rw [m_ld (by omega) (by decide), hr.1 x hx]
  cases hq : h x with
  | none =>
    rw [if_pos (show m_eh none < 0 from by decide)]
    have hp : (m_hp h x e).isSome = true := by unfold m_hp; rw [hq]; rfl
    obtain ⟨υ, k1, k2, k3⟩ := hgo false ⟨fun _ => rfl, fun _ => by rw [hr.1 x hx, hq]; decide⟩ (fun d hd => by rw [hq] at hd; cases hd) (by rw [hq]; rfl)
    rw [hq] at k3
    exact ⟨υ, by rw [hp]; exact k1, k2, k3⟩
  | some d =>
    have hd := hh x d hq
    have hnn : ¬ nI d < 0 := nI_pos (by omega)
    rw [if_neg (show ¬ m_eh (some d) < 0 from hnn), m_ld (by omega) (by decide), hr.1 x hx, hq, show m_eh (some d) = nI d from rfl, m_eqi (by omega) (by omega)]
    have hp : m_hp h x e = if d = e then some h else none := by unfold m_hp; rw [hq]
    by_cases hde : d = e
    · obtain ⟨υ, k1, k2, k3⟩ := hgo true ⟨fun z => by rw [hr.1 x hx, hq] at z; exact absurd z hnn, fun z => by cases z⟩ (fun d' hd' => by rw [hq] at hd'; cases hd'; exact hde) (by rw [hq]; rfl)
      rw [hq] at k3
      exact ⟨υ, by rw [if_pos hde, hp, if_pos hde]; exact k1, k2, k3⟩
    · refine ⟨τ, by rw [if_neg hde, hp, if_neg hde]; rfl, m_fr.rfl', fun h' z => ?_⟩
      rw [hp, if_neg hde] at z
      cases z
end A40
