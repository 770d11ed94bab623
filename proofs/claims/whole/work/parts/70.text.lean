/-! THE TEXT: what it reads as -/
def t_at (c : Nat → Nat) (n x : Nat) : Nat := if x < n then c x else 0
def t_dl (k : Nat) : Nat := if k = 109 then 2 else if k = 114 then 0 else if k = 117 ∨ k = 100 ∨ k = 43 ∨ k = 45 ∨ k = 99 ∨ k = 108 ∨ k = 115 ∨ k = 98 then 1 else 3
def t_lo (k : Nat) : Nat := if k = 98 then 1 else 0
def t_hi (k : Nat) : Nat := if k = 98 then 9 else if k = 108 ∨ k = 115 then 3 else 7
def t_ft (k d : Nat) : Bool := decide (48 + t_lo k ≤ d ∧ d ≤ 48 + t_hi k)
def t_bad (c : Nat → Nat) (n x : Nat) : Option Nat := if t_dl (t_at c n x) = 3 then some x else if t_dl (t_at c n x) = 0 then none else if t_ft (t_at c n x) (t_at c n (x + 1)) = false then some (x + 1) else if t_dl (t_at c n x) = 1 then none else if t_ft (t_at c n x) (t_at c n (x + 2)) = false then some (x + 2) else none
def t_a (c : Nat → Nat) (n x : Nat) : Nat := if t_dl (t_at c n x) = 0 then 0 else t_at c n (x + 1) - 48
def t_b (c : Nat → Nat) (n x : Nat) : Nat := if t_dl (t_at c n x) = 2 then t_at c n (x + 2) - 48 else 0
abbrev t_L : Type := List (Nat × Nat × Nat)
def t_it (c : Nat → Nat) (n x : Nat) : Nat × Nat × Nat := (t_at c n x, t_a c n x, t_b c n x)
def t_ps (c : Nat → Nat) (n : Nat) : Nat → Nat → t_L → Option Nat × t_L
  | 0, x, acc => (some x, acc)
  | s + 1, x, acc => if t_bad c n x = none then (if n ≤ x + 1 + t_dl (t_at c n x) then (none, acc ++ [t_it c n x]) else if c (x + 1 + t_dl (t_at c n x)) = 59 then t_ps c n s (x + 1 + t_dl (t_at c n x) + 1) (acc ++ [t_it c n x]) else (some (x + 1 + t_dl (t_at c n x)), acc ++ [t_it c n x])) else (t_bad c n x, acc)
theorem t_ps_n {c : Nat → Nat} {n s x : Nat} {acc : t_L} (h : t_bad c n x = none) : t_ps c n (s + 1) x acc = (if n ≤ x + 1 + t_dl (t_at c n x) then (none, acc ++ [t_it c n x]) else if c (x + 1 + t_dl (t_at c n x)) = 59 then t_ps c n s (x + 1 + t_dl (t_at c n x) + 1) (acc ++ [t_it c n x]) else (some (x + 1 + t_dl (t_at c n x)), acc ++ [t_it c n x])) := by
  show (if _ then _ else _) = _
  rw [if_pos h]
theorem t_ps_b {c : Nat → Nat} {n s x y : Nat} {acc : t_L} (h : t_bad c n x = some y) : t_ps c n (s + 1) x acc = (some y, acc) := by
  show (if _ then _ else _) = _
  rw [if_neg (fun z => by rw [h] at z; cases z), h]
theorem t_dl_c (k : Nat) : (t_dl k = 0 ∧ k = 114) ∨ (t_dl k = 2 ∧ k = 109) ∨ (t_dl k = 1 ∧ (k = 117 ∨ k = 100 ∨ k = 43 ∨ k = 45 ∨ k = 99 ∨ k = 108 ∨ k = 115 ∨ k = 98)) ∨ (t_dl k = 3 ∧ k ≠ 109 ∧ k ≠ 114 ∧ k ≠ 117 ∧ k ≠ 100 ∧ k ≠ 43 ∧ k ≠ 45 ∧ k ≠ 99 ∧ k ≠ 108 ∧ k ≠ 115 ∧ k ≠ 98) := by
  unfold t_dl
  split
  · omega
  · split
    · omega
    · split <;> omega
theorem t_ft0 (k : Nat) : t_ft k 0 = false := decide_eq_false (by omega)
theorem t_at_lt {c : Nat → Nat} {n x : Nat} (h : x < n) : t_at c n x = c x := if_pos h
theorem t_at_ge {c : Nat → Nat} {n x : Nat} (h : n ≤ x) : t_at c n x = 0 := if_neg (by omega)
theorem t_ft_t {k d : Nat} (h : ¬ t_ft k d = false) : 48 + t_lo k ≤ d ∧ d ≤ 48 + t_hi k := by
  cases hb : t_ft k d with
  | false => exact absurd hb h
  | true => exact of_decide_eq_true hb
theorem t_lt_ft {c : Nat → Nat} {n x k : Nat} (h : ¬ t_ft k (t_at c n x) = false) : x < n := by
  apply Classical.byContradiction
  intro hn
  rw [t_at_ge (by omega)] at h
  exact h (t_ft0 k)
theorem t_val {c : Nat → Nat} {n x : Nat} (h : t_bad c n x = none) : m_val (t_at c n x) (t_a c n x) (t_b c n x) ∧ x + t_dl (t_at c n x) < n := by
  unfold t_bad at h
  have hx : t_dl (t_at c n x) ≠ 3 → x < n := fun h3 => by
    apply Classical.byContradiction
    intro hn
    rw [t_at_ge (by omega)] at h3
    exact h3 (by decide)
  unfold t_a t_b
  rcases t_dl_c (t_at c n x) with ⟨hd, hk⟩ | ⟨hd, hk⟩ | ⟨hd, hk⟩ | ⟨hd, hk⟩
  · rw [if_pos hd, if_neg (by omega)]
    have := hx (by omega)
    exact ⟨Or.inr (Or.inr (Or.inr (Or.inr ⟨hk, rfl, rfl⟩))), by omega⟩
  · rw [if_neg (by omega), if_neg (by omega)] at h
    by_cases f1 : t_ft (t_at c n x) (t_at c n (x + 1)) = false
    · rw [if_pos f1] at h; cases h
    · rw [if_neg f1, if_neg (by omega)] at h
      by_cases f2 : t_ft (t_at c n x) (t_at c n (x + 2)) = false
      · rw [if_pos f2] at h; cases h
      · have g1 := t_ft_t f1
        have g2 := t_ft_t f2
        have g3 := t_lt_ft f2
        rw [show t_hi (t_at c n x) = 7 by rw [hk]; rfl] at g1 g2
        rw [if_neg (by omega), if_pos hd]
        exact ⟨Or.inr (Or.inl ⟨hk, by omega, by omega⟩), by omega⟩
  · rw [if_neg (by omega), if_neg (by omega)] at h
    by_cases f1 : t_ft (t_at c n x) (t_at c n (x + 1)) = false
    · rw [if_pos f1] at h; cases h
    · have g1 := t_ft_t f1
      have g3 := t_lt_ft f1
      rw [if_neg (by omega), if_neg (by omega)]
      refine ⟨?_, by omega⟩
      unfold t_lo t_hi at g1
      by_cases k98 : t_at c n x = 98
      · rw [if_pos k98, if_pos k98] at g1
        exact Or.inr (Or.inr (Or.inr (Or.inl ⟨k98, by omega, by omega, rfl⟩)))
      · rw [if_neg k98, if_neg k98] at g1
        by_cases k108 : t_at c n x = 108 ∨ t_at c n x = 115
        · rw [if_pos k108] at g1
          exact Or.inr (Or.inr (Or.inl ⟨k108, by omega, rfl⟩))
        · rw [if_neg k108] at g1
          exact Or.inl ⟨by omega, by omega, rfl⟩
  · rw [if_pos hd] at h; cases h
theorem t_bad_le {c : Nat → Nat} {n x y : Nat} (hx : x ≤ n) (h : t_bad c n x = some y) : y ≤ n := by
  unfold t_bad at h
  by_cases h3 : t_dl (t_at c n x) = 3
  · rw [if_pos h3] at h; cases h; exact hx
  · have hxn : x < n := by
      apply Classical.byContradiction
      intro hn
      rw [t_at_ge (by omega)] at h3
      exact h3 (by decide)
    rw [if_neg h3] at h
    by_cases h0 : t_dl (t_at c n x) = 0
    · rw [if_pos h0] at h; cases h
    · rw [if_neg h0] at h
      by_cases f1 : t_ft (t_at c n x) (t_at c n (x + 1)) = false
      · rw [if_pos f1] at h; cases h; omega
      · have g1 := t_lt_ft f1
        rw [if_neg f1] at h
        by_cases h1 : t_dl (t_at c n x) = 1
        · rw [if_pos h1] at h; cases h
        · rw [if_neg h1] at h
          by_cases f2 : t_ft (t_at c n x) (t_at c n (x + 2)) = false
          · rw [if_pos f2] at h; cases h; omega
          · rw [if_neg f2] at h; cases h
def t_V (acc : t_L) : Prop := ∀ q, q ∈ acc → m_val q.1 q.2.1 q.2.2
theorem t_ps_ok {c : Nat → Nat} {n : Nat} : ∀ s x acc, x ≤ n → n - x < s → acc.length ≤ x → t_V acc → (∀ y, (t_ps c n s x acc).1 = some y → y ≤ n) ∧ ((t_ps c n s x acc).1 = none → t_V (t_ps c n s x acc).2 ∧ (t_ps c n s x acc).2.length ≤ n) := by
  intro s
  induction s with
  | zero => intro x acc h1 h2; omega
  | succ s ih =>
    intro x acc hx hs hl hV
    cases hb : t_bad c n x with
    | some y =>
      rw [t_ps_b hb]
      exact ⟨fun z hz => (by cases hz; exact t_bad_le hx hb), fun z => (by cases z)⟩
    | none =>
      have hv := t_val hb
      have hV' : t_V (acc ++ [t_it c n x]) := fun q hq => by
        rcases List.mem_append.mp hq with hq | hq
        · exact hV q hq
        · rw [List.mem_singleton.mp hq]; exact hv.1
      have hl' : (acc ++ [t_it c n x]).length = acc.length + 1 := by simp
      rw [t_ps_n hb]
      by_cases h1 : n ≤ x + 1 + t_dl (t_at c n x)
      · rw [if_pos h1]
        exact ⟨fun y hy => (by cases hy), fun _ => ⟨hV', by rw [hl']; omega⟩⟩
      · rw [if_neg h1]
        by_cases h2 : c (x + 1 + t_dl (t_at c n x)) = 59
        · rw [if_pos h2]
          exact ih _ _ (by omega) (by omega) (by rw [hl']; omega) hV'
        · rw [if_neg h2]
          exact ⟨fun y hy => (by cases hy; omega), fun z => (by cases z)⟩
def t_res (c : Nat → Nat) (n : Nat) : Option Nat × t_L := if n = 0 then (none, []) else t_ps c n 61 0 []
theorem t_res_ok {c : Nat → Nat} {n : Nat} (hn : n ≤ 60) : (∀ y, (t_res c n).1 = some y → y ≤ 60) ∧ ((t_res c n).1 = none → t_V (t_res c n).2 ∧ (t_res c n).2.length ≤ 60) := by
  unfold t_res
  have hV : t_V [] := fun q hq => absurd hq (by simp)
  by_cases h0 : n = 0
  · rw [if_pos h0]
    exact ⟨fun y hy => (by cases hy), fun _ => ⟨hV, Nat.zero_le _⟩⟩
  · rw [if_neg h0]
    have := t_ps_ok (c := c) (n := n) 61 0 [] (by omega) (by omega) (Nat.le_refl _) hV
    exact ⟨fun y hy => Nat.le_trans (this.1 y hy) hn, fun z => ⟨(this.2 z).1, Nat.le_trans (this.2 z).2 hn⟩⟩
