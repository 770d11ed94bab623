section A75
variable {c : Nat → Nat} {n x : Nat} {τ : cv_St}
def t_H (τ υ : cv_St) (r : Option Nat × t_L) : Prop := m_fr [46, 47, 48] [18, 19, 20] τ υ ∧ (∀ y, r.1 = some y → υ.2.1 18 = nI y) ∧ (r.1 = none → t_M υ r.2)
theorem r_more0 {m : Nat} {l1 : Int32} (hU : t_U c n τ) (h18 : τ.2.1 18 = nI x) (hx : x < 1000) (b : Bool) (h19 : τ.2.1 19 = m_b b) : F_X9_setBody_b53 (m + 1) l1 0 τ = F_X9_setBody_b128 l1 (m_b (b || decide (x < n))) τ := by
  have h60 := hU.1
  show B_X9_setBody_b53 (F_X9_setBody_b53 m) l1 0 τ = _
  unfold B_X9_setBody_b53 F_X9_setBody_b123
  rw [if_pos rfl, h19, m_b0i, hU.2.1, h18, m_lei (by omega) (by omega)]
  cases b with
  | true => rw [if_neg (by simp)]; rfl
  | false =>
    rw [if_pos rfl]
    by_cases h : n ≤ x
    · rw [if_pos h, decide_eq_false (by omega)]; rfl
    · rw [if_neg h, decide_eq_true (by omega)]; rfl
theorem t_isS {o : Option Nat} {y : Nat} (h : o = some y) : o.isSome = true := by rw [h]; rfl
theorem r_text {l1 : Int32} : ∀ (s m x : Nat) (τ : cv_St) (acc : t_L), t_U c n τ → τ.2.1 18 = nI x → τ.2.1 19 = 0 → t_M τ acc → acc.length ≤ x → x ≤ n → n - x < s → n - x + 1 < m → ∃ υ, F_X9_setBody_b53 m l1 1 τ = F_X9_setBody_b128 l1 (m_b (t_ps c n s x acc).1.isSome) υ ∧ t_H τ υ (t_ps c n s x acc) := by
  intro s
  induction s with
  | zero => intro m x τ acc _ _ _ _ _ h1 h2; omega
  | succ s ih =>
    intro m x τ acc hU h18 h19 hM hl hxn hs hm
    have h60 := hU.1
    obtain ⟨m, rfl⟩ : ∃ m', m = m' + 1 + 1 := ⟨m - 2, by omega⟩
    obtain ⟨s1, a1, a2, a3, a4⟩ := r_read hU h18 h19 hM hl hxn
    have hU1 := hU.fr a2 (by decide) (by decide)
    show ∃ υ, B_X9_setBody_b53 (F_X9_setBody_b53 (m + 1)) l1 1 τ = _ ∧ _
    unfold B_X9_setBody_b53 F_X9_setBody_b81 F_X9_setBody_b82 F_X9_setBody_b97
    rw [if_neg (by decide), a1, m_bv]
    cases hb : t_bad c n x with
    | some y =>
      obtain ⟨b1, b2⟩ := a3 y hb
      have hy := t_bad_le hxn hb
      rw [t_ps_b hb, b1, if_neg (by decide), if_pos rfl, b2, m_pui, show nI y + 0 = nI y from nI_add y 0]
      have hU2 : t_U c n (cv_sF s1 18 (nI y)) := hU1.fr (m_fr.F (as := []) (ss := [18]) (by decide)) (by decide) (by decide)
      rw [r_more0 (x := y) hU2 m_F_eq (by omega) true (by rw [m_F_ne (by decide)]; exact b1)]
      exact ⟨_, rfl, a2.trans (m_fr.F (by decide)), fun z hz => (by cases hz; exact m_F_eq), fun z => by cases z⟩
    | none =>
      obtain ⟨b1, b2, b3⟩ := a4 hb
      obtain ⟨v1, v2⟩ := t_val hb
      have hat := t_at128 (x := x + 1 + t_dl (t_at c n x)) hU
      obtain ⟨e, he⟩ : ∃ e, x + 1 + t_dl (t_at c n x) = e := ⟨_, rfl⟩
      have hlen : (acc ++ [t_it c n x]).length = acc.length + 1 := by simp
      rw [he] at b2 hat
      rw [t_ps_n hb, he, b1, if_pos rfl, r_here hU1 b2 (by omega), m_bi, m_eqki (by omega) (by decide)]
      have hUe : ∀ v, t_U c n (cv_sF s1 18 v) := fun v => hU1.fr (m_fr.F (as := []) (ss := [18]) (by decide)) (by decide) (by decide)
      have hMe : ∀ v, t_M (cv_sF s1 18 v) (acc ++ [t_it c n x]) := fun v => ⟨by rw [m_F_ne (by decide)]; exact b3.1, b3.2⟩
      by_cases h59 : t_at c n e = 59
      · have hen : e < n := by
          apply Classical.byContradiction
          intro hn
          rw [t_at_ge (by omega)] at h59
          cases h59
        rw [t_at_lt hen] at h59
        rw [t_at_lt hen, if_pos h59, if_neg (show ¬ n ≤ e by omega), if_pos h59, if_neg (by decide), b2, m_pui, show nI e + 1 = nI (e + 1) from nI_add e 1]
        obtain ⟨υ, u1, u2, u3, u4⟩ := ih (m + 1) (e + 1) (cv_sF s1 18 (nI (e + 1))) (acc ++ [t_it c n x]) (hUe _) m_F_eq (by rw [m_F_ne (by decide)]; exact b1) (hMe _) (by omega) (by omega) (by omega) (by omega)
        exact ⟨υ, u1, (a2.trans (m_fr.F (by decide))).trans u2, u3, u4⟩
      · rw [if_neg h59, if_pos rfl, b2, m_pui, show nI e + 0 = nI e from nI_add e 0, r_more0 (x := e) (hUe _) m_F_eq (by omega) false (by rw [m_F_ne (by decide)]; exact b1)]
        by_cases hne : n ≤ e
        · rw [if_pos hne, decide_eq_false (by omega)]
          exact ⟨_, rfl, a2.trans (m_fr.F (by decide)), fun z hz => (by cases hz), fun _ => hMe _⟩
        · rw [t_at_lt (by omega)] at h59
          rw [if_neg hne, if_neg h59, decide_eq_true (by omega)]
          exact ⟨_, rfl, a2.trans (m_fr.F (by decide)), fun z hz => (by cases hz; exact m_F_eq), fun z => by cases z⟩
/-- the reference's reading from its beginning -/
theorem r_readsT {l1 : Int32} (hU : t_U c n τ) (h18 : τ.2.1 18 = 0) (h19 : τ.2.1 19 = 0) (h20 : τ.2.1 20 = 0) : ∃ υ, (if (τ.2.1 15) ≤ 0 then F_X9_setBody_b52 l1 0 τ else F_X9_setBody_b52 l1 1 τ) = F_X9_setBody_b128 l1 (m_b (t_res c n).1.isSome) υ ∧ t_H τ υ (t_res c n) := by
  have h60 := hU.1
  have hM : t_M τ [] := ⟨h20, fun j q h => by rw [List.getElem?_nil] at h; cases h⟩
  unfold F_X9_setBody_b52 t_res
  rw [hU.2.1, show (0 : Int32) = nI 0 from rfl, m_lei (by omega) (by omega)]
  by_cases h0 : n = 0
  · rw [if_pos (show n ≤ 0 by omega), if_pos h0, show F_X9_setBody_b53 1000 l1 (nI 0) τ = _ from r_more0 (m := 999) (x := 0) hU h18 (by omega) false h19, decide_eq_false (by omega)]
    exact ⟨τ, rfl, m_fr.rfl', fun y hy => (by cases hy), fun _ => hM⟩
  · rw [if_neg (show ¬ n ≤ 0 by omega), if_neg h0]
    exact r_text 61 1000 0 τ [] hU h18 h19 hM (Nat.le_refl _) (by omega) (by omega) (by omega)
end A75
