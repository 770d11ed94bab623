/-! BALANCE: the heights of the stack -/
def m_hp (h : Nat → Option Nat) (x d : Nat) : Option (Nat → Option Nat) := match h x with
  | none => some (fun y => if y = x then some d else h y)
  | some e => if e = d then some h else none
def m_gr (k d : Nat) : Option Nat := if k = 43 then (if d < 6 then some (d + 1) else none) else if k = 45 then (if 0 < d then some (d - 1) else none) else some d
def m_hi (p : m_P) (f i : Nat) (h : Nat → Option Nat) : Option (Nat → Option Nat) := match h i with
  | none => some h
  | some d => (m_gr (m_kd p f i) d).bind (fun e => (m_hp h (m_nx p f i 0) e).bind (fun h' => m_hp h' (m_nx p f i 1) e))
def m_hs (p : m_P) (f : Nat) : Nat → Option (Nat → Option Nat)
  | 0 => some (fun x => if x = 0 then some 0 else none)
  | i + 1 => (m_hs p f i).bind (m_hi p f i)
def m_bl (p : m_P) (f : Nat) : Bool := match m_hs p f (m_cn p f) with
  | none => false
  | some h => decide (h (m_cn p f) = some 0)
def m_eh : Option Nat → Int32 := fun o => match o with
  | none => -1
  | some d => nI d
theorem m_gr_le {k d e : Nat} (h : m_gr k d = some e) (hd : d ≤ 6) : e ≤ 6 := by
  unfold m_gr at h
  split at h
  · split at h
    · cases h; omega
    · cases h
  · split at h
    · split at h
      · cases h; omega
      · cases h
    · cases h; exact hd
theorem m_hp_at {h h' : Nat → Option Nat} {x d : Nat} (q : m_hp h x d = some h') : h' x = some d ∧ ∀ y, y ≠ x → h' y = h y := by
  unfold m_hp at q
  split at q
  · cases q
    exact ⟨if_pos rfl, fun y hy => if_neg hy⟩
  · rename_i e he
    split at q
    · rename_i hed
      cases q
      rw [he, hed]
      exact ⟨rfl, fun _ _ => rfl⟩
    · cases q
theorem m_hs_none {p : m_P} {f i : Nat} (h : m_hs p f i = none) (d : Nat) : m_hs p f (i + d) = none := by
  induction d with
  | zero => exact h
  | succ d ih =>
    rw [← Nat.add_assoc]
    show (m_hs p f (i + d)).bind _ = none
    rw [ih]; rfl
theorem m_hs_s {p : m_P} {f i : Nat} : m_hs p f (i + 1) = (m_hs p f i).bind (m_hi p f i) := rfl
/-- what the heights say of the places that are reached -/
theorem m_hs_rs {p : m_P} {f : Nat} : ∀ i (h : Nat → Option Nat), i ≤ m_cn p f → m_hs p f i = some h → (∀ x, (h x).isSome = m_rs p f i x) ∧ ∀ x d, h x = some d → d ≤ 6 := by
  intro i
  induction i with
  | zero =>
    intro h _ q
    cases q
    refine ⟨fun x => ?_, fun x d hx => ?_⟩
    · show (if x = 0 then some 0 else none).isSome = decide (x = 0)
      by_cases hx : x = 0 <;> simp [hx]
    · have hx : (if x = 0 then some 0 else none) = some d := hx
      by_cases h0 : x = 0
      · rw [if_pos h0] at hx; cases hx; omega
      · rw [if_neg h0] at hx; cases hx
  | succ i ih =>
    intro h' hi q
    rw [m_hs_s] at q
    cases hh : m_hs p f i with
    | none => rw [hh] at q; cases q
    | some h =>
      rw [hh] at q
      have q : m_hi p f i h = some h' := q
      obtain ⟨a1, a2⟩ := ih h (by omega) hh
      have hrs : ∀ x, m_rs p f (i + 1) x = (m_rs p f i x || (m_rs p f i i && (decide (x = m_nx p f i 0) || decide (x = m_nx p f i 1)))) := fun _ => rfl
      unfold m_hi at q
      cases hd : h i with
      | none =>
        rw [hd] at q
        cases q
        refine ⟨fun x => ?_, a2⟩
        rw [hrs, ← a1 i, hd, a1 x]; simp
      | some d =>
        rw [hd] at q
        have q : (m_gr (m_kd p f i) d).bind (fun e => (m_hp h (m_nx p f i 0) e).bind (fun h' => m_hp h' (m_nx p f i 1) e)) = some h' := q
        cases hg : m_gr (m_kd p f i) d with
        | none => rw [hg] at q; cases q
        | some e =>
          rw [hg] at q
          have q : (m_hp h (m_nx p f i 0) e).bind (fun h' => m_hp h' (m_nx p f i 1) e) = some h' := q
          cases h1 : m_hp h (m_nx p f i 0) e with
          | none => rw [h1] at q; cases q
          | some h2 =>
            rw [h1] at q
            have q : m_hp h2 (m_nx p f i 1) e = some h' := q
            obtain ⟨b1, b2⟩ := m_hp_at h1
            obtain ⟨c1, c2⟩ := m_hp_at q
            have he := m_gr_le hg (a2 i d hd)
            have hii : m_rs p f i i = true := by rw [← a1 i, hd]; rfl
            have hcase : ∀ x, h' x = if x = m_nx p f i 0 ∨ x = m_nx p f i 1 then some e else h x := by
              intro x
              by_cases x1 : x = m_nx p f i 1
              · rw [if_pos (Or.inr x1), x1, c1]
              · rw [c2 x x1]
                by_cases x0 : x = m_nx p f i 0
                · rw [if_pos (Or.inl x0), x0, b1]
                · rw [b2 x x0, if_neg (by omega)]
            refine ⟨fun x => ?_, fun x d' hx => ?_⟩
            · rw [hcase x, hrs, hii]
              by_cases hx : x = m_nx p f i 0 ∨ x = m_nx p f i 1
              · rw [if_pos hx]
                rcases hx with hx | hx <;> simp [hx]
              · rw [if_neg hx, a1 x]
                have x0 : ¬ x = m_nx p f i 0 := fun z => hx (Or.inl z)
                have x1 : ¬ x = m_nx p f i 1 := fun z => hx (Or.inr z)
                simp [x0, x1]
            · rw [hcase x] at hx
              by_cases hz : x = m_nx p f i 0 ∨ x = m_nx p f i 1
              · rw [if_pos hz] at hx; cases hx; exact he
              · rw [if_neg hz] at hx; exact a2 x d' hx
/-- a step that works, in full -/
theorem m_hi_some {p : m_P} {f i : Nat} {h h' : Nat → Option Nat} (q : m_hi p f i h = some h') : (h i = none ∧ h' = h) ∨ ∃ d e, h i = some d ∧ m_gr (m_kd p f i) d = some e ∧ (∀ x, h' x = if x = m_nx p f i 0 ∨ x = m_nx p f i 1 then some e else h x) ∧ (∀ x, x = m_nx p f i 0 ∨ x = m_nx p f i 1 → h x = none ∨ h x = some e) := by
  unfold m_hi at q
  cases hd : h i with
  | none =>
    rw [hd] at q
    cases q
    exact Or.inl ⟨rfl, rfl⟩
  | some d =>
    rw [hd] at q
    have q : (m_gr (m_kd p f i) d).bind (fun e => (m_hp h (m_nx p f i 0) e).bind (fun h' => m_hp h' (m_nx p f i 1) e)) = some h' := q
    cases hg : m_gr (m_kd p f i) d with
    | none => rw [hg] at q; cases q
    | some e =>
      rw [hg] at q
      have q : (m_hp h (m_nx p f i 0) e).bind (fun h' => m_hp h' (m_nx p f i 1) e) = some h' := q
      cases h1 : m_hp h (m_nx p f i 0) e with
      | none => rw [h1] at q; cases q
      | some h2 =>
        rw [h1] at q
        have q : m_hp h2 (m_nx p f i 1) e = some h' := q
        obtain ⟨b1, b2⟩ := m_hp_at h1
        obtain ⟨c1, c2⟩ := m_hp_at q
        have hold : ∀ (g g' : Nat → Option Nat) (x : Nat), m_hp g x e = some g' → g x = none ∨ g x = some e := by
          intro g g' x z
          unfold m_hp at z
          split at z
          · rename_i w; exact Or.inl w
          · rename_i e' w
            split at z
            · rename_i w2; rw [w, w2]; exact Or.inr rfl
            · cases z
        refine Or.inr ⟨d, e, rfl, hg, fun x => ?_, fun x hx => ?_⟩
        · by_cases x1 : x = m_nx p f i 1
          · rw [if_pos (Or.inr x1), x1, c1]
          · rw [c2 x x1]
            by_cases x0 : x = m_nx p f i 0
            · rw [if_pos (Or.inl x0), x0, b1]
            · rw [b2 x x0, if_neg (by omega)]
        · by_cases x0 : x = m_nx p f i 0
          · rw [x0]; exact hold _ _ _ h1
          · have x1 : x = m_nx p f i 1 := by omega
            have := hold _ _ _ q
            rw [b2 _ (by omega)] at this
            rw [x1]; exact this
/-- the heights at the end, and on the way -/
theorem m_hs_pre {p : m_P} {f : Nat} {H : Nat → Option Nat} (hH : m_hs p f (m_cn p f) = some H) : ∀ i, i ≤ m_cn p f → ∃ h, m_hs p f i = some h ∧ ∀ x, x ≤ i → h x = H x := by
  have key : ∀ d i, i + d = m_cn p f → ∃ h, m_hs p f i = some h ∧ ∀ x, x ≤ i → h x = H x := by
    intro d
    induction d with
    | zero => intro i hi; exact ⟨H, by rw [← hH, ← hi, Nat.add_zero], fun _ _ => rfl⟩
    | succ d ih =>
      intro i hi
      obtain ⟨h', e1, e2⟩ := ih (i + 1) (by omega)
      rw [m_hs_s] at e1
      cases hh : m_hs p f i with
      | none => rw [hh] at e1; cases e1
      | some h =>
        rw [hh] at e1
        refine ⟨h, rfl, fun x hx => ?_⟩
        rw [← e2 x (by omega)]
        have g0 := m_nx_gt (p := p) (f := f) (i := i) (by omega) 0
        have g1 := m_nx_gt (p := p) (f := f) (i := i) (by omega) 1
        rcases m_hi_some e1 with ⟨-, rfl⟩ | ⟨d', e, -, -, h3, -⟩
        · rfl
        · rw [h3 x, if_neg (by omega)]
  intro i hi
  exact key (m_cn p f - i) i (by omega)
section A39
variable {p : m_P} {σ : cv_St} {f i : Nat}
theorem m_eh_none {o : Option Nat} (h : ∀ d, o = some d → d ≤ 6) : m_eh o = -1 ↔ o = none := by
  cases o with
  | none => exact ⟨fun _ => rfl, fun _ => rfl⟩
  | some d =>
    constructor
    · intro q
      have hd := h d rfl
      have : (nI d).toInt = -1 := by rw [show nI d = -1 from q]; decide
      rw [nI_toInt (by omega)] at this
      omega
    · intro q; cases q
theorem m_eh_inj {o : Option Nat} {e : Nat} (h : ∀ d, o = some d → d ≤ 6) (he : e ≤ 6) : m_eh o = nI e ↔ o = some e := by
  cases o with
  | none =>
    constructor
    · intro q
      have : (nI e).toInt = -1 := by rw [show nI e = -1 from q.symm]; decide
      rw [nI_toInt (by omega)] at this
      omega
    · intro q; cases q
  | some d =>
    have hd := h d rfl
    show nI d = nI e ↔ _
    rw [nI_eq (by omega) (by omega)]
    exact ⟨fun q => by rw [q], fun q => by cases q; rfl⟩
theorem c_agrees (ho : m_ok p) (hf : f < 8) {h : Nat → Option Nat} (hh : ∀ x d, h x = some d → d ≤ 6) {g : Nat → Int32} (hg : ∀ y, y ≤ m_cn p f → g (f * 15 + m_nd p f y) = m_eh (h y)) {x e : Nat} (hx : x ≤ m_cn p f) (he : e ≤ 6) :
    ∃ g', F_X7_agrees (nI (f * 15 + m_nd p f x)) (nI e) (cv_sR σ 24 g) = some (m_b (m_hp h x e).isSome, cv_sR σ 24 g') ∧ (∀ h', m_hp h x e = some h' → ∀ y, y ≤ m_cn p f → g' (f * 15 + m_nd p f y) = m_eh (h' y)) ∧ ∀ j, (j < f * 15 ∨ f * 15 + 15 ≤ j) → g' j = g j := by
  have l := m_nd_lt ho hf hx
  unfold F_X7_agrees F_X7_agrees_b17
  rw [m_ld (by omega) (by decide), m_R_eq, hg x hx]
  cases hq : h x with
  | none =>
    rw [show m_eh none = -1 from rfl, if_pos rfl, m_st (by omega) (by decide), m_AR, m_ld (by omega) (by decide), m_R_eq, m_u_eq, if_pos rfl, m_rz1]
    have hp : m_hp h x e = some (fun y => if y = x then some e else h y) := by unfold m_hp; rw [hq]
    refine ⟨_, by rw [hp]; rfl, fun h' z y hy => ?_, fun j hj => m_u_ne (by omega)⟩
    rw [hp] at z
    cases z
    show _ = m_eh (if y = x then some e else h y)
    by_cases hyx : y = x
    · rw [hyx, m_u_eq, if_pos rfl]; rfl
    · rw [m_u_ne (fun w => hyx ((m_nd_inj ho hf hy hx).mp (by omega))), if_neg hyx, hg y hy]
  | some d =>
    have hd := hh x d hq
    rw [if_neg (show ¬ m_eh (some d) = -1 from fun z => by have := (m_eh_none (o := some d) (fun d' hd' => by cases hd'; exact hd)).mp z; cases this), m_ld (by omega) (by decide), m_R_eq, hg x hx, hq]
    have hp : m_hp h x e = if d = e then some h else none := by unfold m_hp; rw [hq]
    rw [show m_eh (some d) = nI d from rfl, m_eqi (by omega) (by omega), hp]
    by_cases hde : d = e
    · rw [if_pos hde, if_pos hde, m_rz1]
      refine ⟨g, rfl, fun h' z y hy => ?_, fun _ _ => rfl⟩
      cases z
      exact hg y hy
    · rw [if_neg hde, if_neg hde, m_rz0]
      exact ⟨g, rfl, fun h' z => (by cases z), fun _ _ => rfl⟩
theorem c_growth {k d : Nat} (hk : k < 128) (hd : d ≤ 6) : ∃ v, F_X7_growth (nI k) σ = some (v, σ) ∧ ((m_gr k d = none ∧ (nI d + v < 0 ∨ (¬ nI d + v < 0 ∧ 6 < nI d + v))) ∨ ∃ e, m_gr k d = some e ∧ e ≤ 6 ∧ nI d + v = nI e) := by
  unfold F_X7_growth m_gr
  rw [m_eqki (by omega) (by decide), m_eqki (by omega) (by decide)]
  by_cases h1 : k = 43
  · rw [if_pos h1, if_pos h1]
    refine ⟨1, rfl, ?_⟩
    by_cases h6 : d < 6
    · rw [if_pos h6]
      exact Or.inr ⟨d + 1, rfl, by omega, nI_add d 1⟩
    · rw [if_neg h6, show d = 6 by omega]
      exact Or.inl ⟨rfl, Or.inr ⟨by decide, by decide⟩⟩
  · rw [if_neg h1, if_neg h1]
    by_cases h2 : k = 45
    · rw [if_pos h2, if_pos h2]
      refine ⟨-1, rfl, ?_⟩
      by_cases h0 : 0 < d
      · rw [if_pos h0]
        refine Or.inr ⟨d - 1, rfl, by omega, ?_⟩
        have := pk_m1 (d - 1)
        rwa [show d - 1 + 1 = d by omega] at this
      · rw [if_neg h0, show d = 0 by omega]
        exact Or.inl ⟨rfl, Or.inl (by decide)⟩
    · rw [if_neg h2, if_neg h2]
      exact ⟨0, rfl, Or.inr ⟨d, rfl, hd, nI_add d 0⟩⟩
theorem m_bl_none {i : Nat} (hi : i ≤ m_cn p f) (h : m_hs p f i = none) : m_bl p f = false := by
  have := m_hs_none h (m_cn p f - i)
  rw [show i + (m_cn p f - i) = m_cn p f by omega] at this
  unfold m_bl
  rw [this]
theorem c_me_loop (hc : m_cc 14 15 16 σ p) (ho : m_ok p) (hf : f < 8) : ∀ (n i : Nat) (g : Nat → Int32) (h : Nat → Option Nat), m_cn p f - i < n → i ≤ m_cn p f → m_hs p f i = some h → (∀ y, y ≤ m_cn p f → g (f * 15 + m_nd p f y) = m_eh (h y)) →
    ∃ g', F_X7_measure_b46 n (nI f) (nI (f * 15)) (nI i) (cv_sR σ 24 g) = some (m_b (m_bl p f), cv_sR σ 24 g') ∧ (m_bl p f = true → ∀ H, m_hs p f (m_cn p f) = some H → ∀ y, y ≤ m_cn p f → g' (f * 15 + m_nd p f y) = m_eh (H y)) ∧ ∀ j, (j < f * 15 ∨ f * 15 + 15 ≤ j) → g' j = g j := by
  have h14 := m_cn14 ho hf
  have hcR : ∀ g : Nat → Int32, m_cc 14 15 16 (cv_sR σ 24 g) p := fun g => hc.fr (m_fr.R (as := [24]) (ss := []) (by decide)) (by decide) (by decide) (by decide)
  intro n
  induction n with
  | zero => intro i g h q; omega
  | succ n ih =>
    intro i g h hn hi hh hg
    obtain ⟨a1, a2⟩ := m_hs_rs i h hi hh
    show ∃ g', B_X7_measure_b46 (F_X7_measure_b46 n) (nI f) (nI (f * 15)) (nI i) (cv_sR σ 24 g) = _ ∧ _
    unfold B_X7_measure_b46
    rw [m_ld (by omega) (by decide), c_cnt (hcR g) hf, m_lei (by omega) (by omega)]
    by_cases hq : m_cn p f ≤ i
    · have he : i = m_cn p f := by omega
      subst he
      have hgE := hg _ (Nat.le_refl _)
      rw [m_nd_end] at hgE
      rw [if_pos hq, show (14 : Int32) = nI 14 from rfl, m_add, m_ld (by omega) (by decide), m_R_eq, hgE]
      have hbl : m_bl p f = decide (h (m_cn p f) = some 0) := by unfold m_bl; rw [hh]
      refine ⟨g, ?_, fun _ H hH y hy => ?_, fun _ _ => rfl⟩
      · rw [hbl]
        have hiff : m_eh (h (m_cn p f)) = 0 ↔ h (m_cn p f) = some 0 := m_eh_inj (o := h (m_cn p f)) (e := 0) (a2 _) (by omega)
        by_cases hz : h (m_cn p f) = some 0
        · rw [if_pos (hiff.mpr hz), m_rz1, decide_eq_true hz]; rfl
        · rw [if_neg (fun w => hz (hiff.mp w)), m_rz0, decide_eq_false hz]; rfl
      · rw [hh] at hH; cases hH; exact hg y hy
    · have hlt : i < m_cn p f := by omega
      have hv := m_val_k (m_vl ho hf hlt)
      have hgi := hg i (by omega)
      rw [m_nd_at hlt] at hgi
      rw [if_neg hq, m_add, m_ld (by omega) (by decide), m_R_eq, hgi]
      have hs : m_hs p f (i + 1) = m_hi p f i h := by rw [m_hs_s, hh]; rfl
      cases hd : h i with
      | none =>
        rw [show m_eh none = -1 from rfl, if_pos rfl]
        unfold F_X7_measure_b148
        rw [m_i1, m_add]
        refine ih (i + 1) g h (by omega) (by omega) ?_ hg
        rw [hs]; unfold m_hi; rw [hd]
      | some d =>
        have hd6 := a2 i d hd
        have hs2 : m_hs p f (i + 1) = (m_gr (m_kd p f i) d).bind (fun e => (m_hp h (m_nx p f i 0) e).bind (fun h' => m_hp h' (m_nx p f i 1) e)) := by rw [hs]; unfold m_hi; rw [hd]
        rw [if_neg (show ¬ m_eh (some d) = -1 from fun z => by have := (m_eh_none (o := some d) (fun d' hd' => by cases hd'; exact hd6)).mp z; cases this), m_ld (by omega) (by decide), m_R_eq, hgi, hd, show m_eh (some d) = nI d from rfl, c_kindAt (hcR g) ho hf hlt, m_bi]
        obtain ⟨v, g1, g2⟩ := c_growth (σ := cv_sR σ 24 g) hv.1 hd6
        rw [g1, m_bi]
        rcases g2 with ⟨g3, g4⟩ | ⟨e, g3, g4, g5⟩
        · have hnone : m_hs p f (i + 1) = none := by rw [hs2, g3]; rfl
          have hbf := m_bl_none (p := p) (f := f) (show i + 1 ≤ m_cn p f by omega) hnone
          refine ⟨g, ?_, fun z => (by rw [hbf] at z; cases z), fun _ _ => rfl⟩
          rw [hbf]
          rcases g4 with g4 | ⟨g4, g6⟩
          · rw [if_pos g4]; rfl
          · rw [if_neg g4, if_pos g6]; rfl
        · rw [g5, if_neg (nI_pos (by omega)), show (6 : Int32) = nI 6 from rfl, m_lti (by omega) (by omega), if_neg (by omega), c_next (hcR g) ho hf hlt, m_bi, m_add]
          obtain ⟨ga, k1, k2, k3⟩ := c_agrees (σ := σ) ho hf a2 hg (m_nx_le p f i 0) g4
          rw [k1, m_bi, m_b0i]
          cases hp1 : m_hp h (m_nx p f i 0) e with
          | none =>
            have hnone : m_hs p f (i + 1) = none := by rw [hs2, g3]; show (m_hp h (m_nx p f i 0) e).bind _ = none; rw [hp1]; rfl
            have hbf := m_bl_none (p := p) (f := f) (show i + 1 ≤ m_cn p f by omega) hnone
            rw [if_pos (show (none : Option (Nat → Option Nat)).isSome = false from rfl), hbf]
            exact ⟨ga, rfl, fun z => (by cases z), k3⟩
          | some h2 =>
            obtain ⟨b1, b2⟩ := m_hp_at hp1
            have a2' : ∀ x d, h2 x = some d → d ≤ 6 := fun x d' hx => by
              by_cases hxx : x = m_nx p f i 0
              · rw [hxx, b1] at hx; cases hx; exact g4
              · rw [b2 x hxx] at hx; exact a2 x d' hx
            rw [if_neg (by simp), c_other (hcR ga) ho hf hlt, m_bi, m_add]
            obtain ⟨gb, j1, j2, j3⟩ := c_agrees (σ := σ) ho hf a2' (k2 h2 hp1) (m_nx_le p f i 1) g4
            rw [j1, m_bi, m_b0i]
            cases hp2 : m_hp h2 (m_nx p f i 1) e with
            | none =>
              have hnone : m_hs p f (i + 1) = none := by rw [hs2, g3]; show (m_hp h (m_nx p f i 0) e).bind _ = none; rw [hp1]; exact hp2
              have hbf := m_bl_none (p := p) (f := f) (show i + 1 ≤ m_cn p f by omega) hnone
              rw [if_pos (show (none : Option (Nat → Option Nat)).isSome = false from rfl), hbf]
              exact ⟨gb, rfl, fun z => (by cases z), fun j hj => (j3 j hj).trans (k3 j hj)⟩
            | some h3 =>
              have hsome : m_hs p f (i + 1) = some h3 := by rw [hs2, g3]; show (m_hp h (m_nx p f i 0) e).bind _ = some h3; rw [hp1]; exact hp2
              rw [if_neg (by simp)]
              unfold F_X7_measure_b148
              rw [m_i1, m_add]
              obtain ⟨gc, q1, q2, q3⟩ := ih (i + 1) gb h3 (by omega) (by omega) hsome (j2 h3 hp2)
              exact ⟨gc, q1, q2, fun j hj => (q3 j hj).trans ((j3 j hj).trans (k3 j hj))⟩
theorem c_measure (hc : m_cc 14 15 16 σ p) (ho : m_ok p) (hf : f < 8) : ∃ g', F_X7_measure (nI f) σ = some (m_b (m_bl p f), cv_sR σ 24 g') ∧ (m_bl p f = true → ∀ H, m_hs p f (m_cn p f) = some H → ∀ y, y ≤ m_cn p f → g' (f * 15 + m_nd p f y) = m_eh (H y)) ∧ ∀ j, (j < f * 15 ∨ f * 15 + 15 ≤ j) → g' j = σ.1 24 j := by
  have h14 := m_cn14 ho hf
  have key : ∀ (n i : Nat) (g : Nat → Int32), 15 - i < n → i ≤ 15 → (∀ x, x < i → g (f * 15 + x) = -1) → ∃ g', F_X7_measure_b7 n (nI f) (nI (f * 15)) (nI i) (cv_sR σ 24 g) = some (m_b (m_bl p f), cv_sR σ 24 g') ∧ (m_bl p f = true → ∀ H, m_hs p f (m_cn p f) = some H → ∀ y, y ≤ m_cn p f → g' (f * 15 + m_nd p f y) = m_eh (H y)) ∧ ∀ j, (j < f * 15 ∨ f * 15 + 15 ≤ j) → g' j = g j := by
    intro n
    induction n with
    | zero => intro i g h; omega
    | succ n ih =>
      intro i g hn hi hg
      show ∃ g', B_X7_measure_b7 (F_X7_measure_b7 n) (nI f) (nI (f * 15)) (nI i) (cv_sR σ 24 g) = _ ∧ _
      unfold B_X7_measure_b7
      rw [show (15 : Int32) = nI 15 from rfl, m_lei (by omega) (by omega)]
      by_cases hq : 15 ≤ i
      · have l0 := m_nd_lt ho hf (Nat.zero_le (m_cn p f))
        rw [if_pos hq, c_entry (hc.fr (m_fr.R (as := [24]) (ss := []) (by decide)) (by decide) (by decide) (by decide)) ho hf, m_bi, m_add, m_st (by omega) (by decide), m_AR]
        obtain ⟨g', q1, q2, q3⟩ := c_me_loop hc ho hf 1000 0 (upd g (f * 15 + m_nd p f 0) 0) _ (by omega) (by omega) rfl (fun y hy => by
          show _ = m_eh (if y = 0 then some 0 else none)
          by_cases hy0 : y = 0
          · rw [hy0, m_u_eq, if_pos rfl]; rfl
          · have := m_nd_lt ho hf hy
            rw [m_u_ne (fun w => hy0 ((m_nd_inj ho hf hy (Nat.zero_le _)).mp (by omega))), if_neg hy0, hg _ (by omega)]; rfl)
        exact ⟨g', q1, q2, fun j hj => (q3 j hj).trans (m_u_ne (by omega))⟩
      · rw [if_neg hq, m_add, m_st (by omega) (by decide), m_AR, m_i1, m_add]
        obtain ⟨g', q1, q2, q3⟩ := ih (i + 1) (upd g (f * 15 + i) (-1)) (by omega) (by omega) (fun x hx => by
          by_cases hxi : x = i
          · rw [hxi, m_u_eq]
          · rw [m_u_ne (by omega)]; exact hg x (by omega))
        exact ⟨g', q1, q2, fun j hj => (q3 j hj).trans (m_u_ne (by omega))⟩
  unfold F_X7_measure
  have := key 1000 0 (σ.1 24) (by omega) (by omega) (fun x hx => by omega)
  rw [m_Rid] at this
  rw [show (15 : Int32) = nI 15 from rfl, m_mul]
  exact this
end A39
