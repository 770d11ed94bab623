/-! HALF II: numbers, reads and writes of the state -/
theorem m_lit (n : Nat) : (OfNat.ofNat n : Int32) = nI n := rfl
theorem m_i1 : Int32.ofInt 1 = nI 1 := by decide
theorem m_i3 : Int32.ofInt 3 = nI 3 := by decide
theorem m_im1 : Int32.ofInt (-1) = -1 := by decide
theorem m_add (a b : Nat) : nI a + nI b = nI (a + b) := nI_add a b
theorem m_mul (a b : Nat) : nI a * nI b = nI (a * b) := pk_mul a b
theorem m_lt {a b : Nat} (ha : a < 2147483648) (hb : b < 2147483648) : (nI a < nI b) = (a < b) := propext (nI_ltI ha hb)
theorem m_le {a b : Nat} (ha : a < 2147483648) (hb : b < 2147483648) : (nI a ≤ nI b) = (a ≤ b) := propext (nI_leI ha hb)
theorem m_eq {a b : Nat} (ha : a < 2147483648) (hb : b < 2147483648) : (nI a = nI b) = (a = b) := propext (nI_eq ha hb)
theorem m_cl {n : Nat} (h : n < 2147483648) : (nI n).toNatClampNeg = n := nI_clamp h
theorem m_ld {α : Type} {σ : cv_St} {k n j : Nat} {K : Int32 → Option α} (h : j < n) (hn : n < 2147483648) : cv_ld σ k n (nI j) K = K (σ.1 k j) := by
  unfold cv_ld
  rw [m_cl (Nat.lt_trans h hn), if_neg]
  intro q
  rcases q with q | q
  · exact nI_pos (Nat.lt_trans h hn) q
  · omega
theorem m_st {α : Type} {σ : cv_St} {k n j : Nat} {v : Int32} {K : cv_St → Option α} (h : j < n) (hn : n < 2147483648) : cv_st σ k n (nI j) v K = K (cv_sA σ k j v) := by
  unfold cv_st
  rw [m_cl (Nat.lt_trans h hn), if_neg]
  intro q
  rcases q with q | q
  · exact nI_pos (Nat.lt_trans h hn) q
  · omega
theorem m_bi {α : Type} {v : Int32} {u : cv_St} {K : Int32 → cv_St → Option α} : cv_bi (some (v, u)) K = K v u := rfl
theorem m_bv {α : Type} {u : cv_St} {K : cv_St → Option α} : cv_bv (some u) K = K u := rfl
theorem m_pui {α : Type} {σ : cv_St} {j : Nat} {v : Int32} {K : cv_St → Option α} : cv_pui σ j v K = K (cv_sF σ j v) := rfl
theorem m_puz1 {α : Type} {σ : cv_St} {j : Nat} {K : cv_St → Option α} : cv_puz σ j 1 K = K (cv_sF σ j 1) := rfl
theorem m_puz0 {α : Type} {σ : cv_St} {j : Nat} {K : cv_St → Option α} : cv_puz σ j 0 K = K (cv_sF σ j 0) := rfl
theorem m_rz0 {σ : cv_St} : cv_rz 0 σ = some (0, σ) := rfl
theorem m_rz1 {σ : cv_St} : cv_rz 1 σ = some (1, σ) := rfl
/-- a boolean as a number -/
def m_b (b : Bool) : Int32 := if b then 1 else 0
theorem m_rzb {σ : cv_St} {b : Bool} : cv_rz (m_b b) σ = some (m_b b, σ) := by cases b <;> rfl
theorem m_puzb {α : Type} {σ : cv_St} {j : Nat} {b : Bool} {K : cv_St → Option α} : cv_puz σ j (m_b b) K = K (cv_sF σ j (m_b b)) := by cases b <;> rfl
theorem m_b0 {b : Bool} : (m_b b = 0) = (b = false) := by cases b <;> decide
theorem m_narb {b : Bool} : vp_nar .boolean (m_b b) = m_b b := by cases b <;> decide
theorem m_rc {σ : cv_St} {k : Nat} (h : k < 65536) : cv_rc (nI k) σ = some (nI k, σ) := by
  unfold cv_rc
  rw [if_pos ⟨nI_pos' (by omega), nI_lt (a := k) (b := 65536) h (by decide)⟩]
theorem m_narc {k : Nat} (h : k < 65536) : vp_nar .char (nI k) = nI k := by
  unfold vp_nar
  rw [(pk_charN h).1]
-- reads behind writes
theorem m_A_eq {σ : cv_St} {k i : Nat} {v : Int32} : (cv_sA σ k i v).1 k = upd (σ.1 k) i v := by simp [cv_sA, cv_sR, va_up]
theorem m_A_ne {σ : cv_St} {k k' i : Nat} {v : Int32} (h : k' ≠ k) : (cv_sA σ k i v).1 k' = σ.1 k' := by simp [cv_sA, cv_sR, va_up, h]
theorem m_A_2 {σ : cv_St} {k i : Nat} {v : Int32} : (cv_sA σ k i v).2 = σ.2 := rfl
theorem m_R_eq {σ : cv_St} {k : Nat} {f : Nat → Int32} : (cv_sR σ k f).1 k = f := by simp [cv_sR, va_up]
theorem m_R_ne {σ : cv_St} {k k' : Nat} {f : Nat → Int32} (h : k' ≠ k) : (cv_sR σ k f).1 k' = σ.1 k' := by simp [cv_sR, va_up, h]
theorem m_R_2 {σ : cv_St} {k : Nat} {f : Nat → Int32} : (cv_sR σ k f).2 = σ.2 := rfl
theorem m_F_1 {σ : cv_St} {k : Nat} {v : Int32} : (cv_sF σ k v).1 = σ.1 := rfl
theorem m_F_eq {σ : cv_St} {k : Nat} {v : Int32} : (cv_sF σ k v).2.1 k = v := by simp [cv_sF, upd]
theorem m_F_ne {σ : cv_St} {k k' : Nat} {v : Int32} (h : k' ≠ k) : (cv_sF σ k v).2.1 k' = σ.2.1 k' := by simp [cv_sF, upd, h]
theorem m_F_22 {σ : cv_St} {k : Nat} {v : Int32} : (cv_sF σ k v).2.2 = σ.2.2 := rfl
theorem m_u_eq {f : Nat → Int32} {k : Nat} {v : Int32} : upd f k v k = v := by simp [upd]
theorem m_u_ne {f : Nat → Int32} {k j : Nat} {v : Int32} (h : j ≠ k) : upd f k v j = f j := by simp [upd, h]
/-- what a call leaves alone: all arrays but as, all scalars but ss -/
def m_fr (as ss : List Nat) (σ τ : cv_St) : Prop := (∀ k, k ∉ as → τ.1 k = σ.1 k) ∧ (∀ j, j ∉ ss → τ.2.1 j = σ.2.1 j) ∧ τ.2.2 = σ.2.2
theorem m_fr.rfl' {as ss : List Nat} {σ : cv_St} : m_fr as ss σ σ := ⟨fun _ _ => rfl, fun _ _ => rfl, rfl⟩
theorem m_fr.trans {as ss : List Nat} {σ τ υ : cv_St} (h : m_fr as ss σ τ) (g : m_fr as ss τ υ) : m_fr as ss σ υ := ⟨fun k hk => (g.1 k hk).trans (h.1 k hk), fun j hj => (g.2.1 j hj).trans (h.2.1 j hj), g.2.2.trans h.2.2⟩
theorem m_fr.mono {as ss as' ss' : List Nat} {σ τ : cv_St} (h : m_fr as ss σ τ) (ha : ∀ k, k ∈ as → k ∈ as') (hs : ∀ k, k ∈ ss → k ∈ ss') : m_fr as' ss' σ τ := ⟨fun k hk => h.1 k (fun q => hk (ha k q)), fun j hj => h.2.1 j (fun q => hj (hs j q)), h.2.2⟩
theorem m_fr.A {as ss : List Nat} {σ : cv_St} {k i : Nat} {v : Int32} (h : k ∈ as) : m_fr as ss σ (cv_sA σ k i v) := ⟨fun k' hk => m_A_ne (fun e => hk (e ▸ h)), fun _ _ => rfl, rfl⟩
theorem m_fr.R {as ss : List Nat} {σ : cv_St} {k : Nat} {f : Nat → Int32} (h : k ∈ as) : m_fr as ss σ (cv_sR σ k f) := ⟨fun k' hk => m_R_ne (fun e => hk (e ▸ h)), fun _ _ => rfl, rfl⟩
theorem m_fr.F {as ss : List Nat} {σ : cv_St} {k : Nat} {v : Int32} (h : k ∈ ss) : m_fr as ss σ (cv_sF σ k v) := ⟨fun _ _ => rfl, fun j hj => m_F_ne (fun e => hj (e ▸ h)), rfl⟩
/-! THE PROGRAM that both sides hold: counts, kinds, first and second numbers -/
abbrev m_P : Type := (Nat → Nat) × (Nat → Nat → Nat) × (Nat → Nat → Nat) × (Nat → Nat → Nat)
def m_cn (p : m_P) (f : Nat) : Nat := p.1 f
def m_kd (p : m_P) (f i : Nat) : Nat := p.2.1 f i
def m_fa (p : m_P) (f i : Nat) : Nat := p.2.2.1 f i
def m_sb (p : m_P) (f i : Nat) : Nat := p.2.2.2 f i
/-- an instruction as the document has it -/
def m_val (k a b : Nat) : Prop := ((k = 117 ∨ k = 100 ∨ k = 43 ∨ k = 45 ∨ k = 99) ∧ a < 8 ∧ b = 0) ∨ (k = 109 ∧ a < 8 ∧ b < 8) ∨ ((k = 108 ∨ k = 115) ∧ a < 4 ∧ b = 0) ∨ (k = 98 ∧ 1 ≤ a ∧ a < 10 ∧ b = 0) ∨ (k = 114 ∧ a = 0 ∧ b = 0)
def m_num (k a b : Nat) : Nat := if k = 109 then 10 * a + b else a
def m_ok (p : m_P) : Prop := ∀ f, f < 8 → m_cn p f ≤ 14 ∧ ∀ i, i < m_cn p f → m_val (m_kd p f i) (m_fa p f i) (m_sb p f i)
/-- the class's arrays hold p: counts at c, kinds at k, numbers at n -/
def m_cc (c k n : Nat) (σ : cv_St) (p : m_P) : Prop := ∀ f, f < 8 → σ.1 c f = nI (m_cn p f) ∧ ∀ i, i < m_cn p f → σ.1 k (f * 14 + i) = nI (m_kd p f i) ∧ σ.1 n (f * 14 + i) = nI (m_num (m_kd p f i) (m_fa p f i) (m_sb p f i))
/-- the reference's array a holds p -/
def m_mc (a : Nat) (σ : cv_St) (p : m_P) : Prop := ∀ f, f < 8 → σ.1 a f = nI (m_cn p f) ∧ ∀ i, i < m_cn p f → σ.1 a (8 + 14 * f + i) = nI (m_kd p f i) ∧ σ.1 a (120 + 14 * f + i) = nI (m_fa p f i) ∧ σ.1 a (232 + 14 * f + i) = nI (m_sb p f i)
theorem m_val_k {k a b : Nat} (h : m_val k a b) : k < 128 ∧ a < 10 ∧ b < 8 ∧ m_num k a b < 78 := by
  unfold m_num
  rcases h with ⟨h, h1, h2⟩ | ⟨h, h1, h2⟩ | ⟨h, h1, h2⟩ | ⟨h, h1, h2, h3⟩ | ⟨h, h1, h2⟩ <;> split <;> omega
theorem m_ifc {α : Type} {c d : Prop} [Decidable c] [Decidable d] (h : c ↔ d) {x y : α} : (if c then x else y) = (if d then x else y) := by
  by_cases hd : d
  · rw [if_pos hd, if_pos (h.mpr hd)]
  · rw [if_neg hd, if_neg (fun q => hd (h.mp q))]
theorem m_lti {α : Type} {a b : Nat} [Decidable (nI a < nI b)] (ha : a < 2147483648) (hb : b < 2147483648) {x y : α} : (if nI a < nI b then x else y) = (if a < b then x else y) := m_ifc (nI_ltI ha hb)
theorem m_lei {α : Type} {a b : Nat} [Decidable (nI a ≤ nI b)] (ha : a < 2147483648) (hb : b < 2147483648) {x y : α} : (if nI a ≤ nI b then x else y) = (if a ≤ b then x else y) := m_ifc (nI_leI ha hb)
theorem m_eqi {α : Type} {a b : Nat} [Decidable (nI a = nI b)] (ha : a < 2147483648) (hb : b < 2147483648) {x y : α} : (if nI a = nI b then x else y) = (if a = b then x else y) := m_ifc (nI_eq ha hb)
theorem m_eqki {α : Type} {k n : Nat} [Decidable (nI k = (OfNat.ofNat n : Int32))] (h : k < 2147483648) (hn : n < 2147483648) {x y : α} : (if nI k = (OfNat.ofNat n : Int32) then x else y) = (if k = n then x else y) := m_ifc (c := nI k = OfNat.ofNat n) (nI_eq h hn)
theorem m_b0i {α : Type} {b : Bool} [Decidable (m_b b = 0)] {x y : α} : (if m_b b = 0 then x else y) = (if b = false then x else y) := m_ifc (Iff.of_eq m_b0)
