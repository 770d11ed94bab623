theorem m_ARc {σ : cv_St} {k k' j : Nat} {g : Nat → Int32} {v : Int32} (h : k ≠ k') : cv_sA (cv_sR σ k' g) k j v = cv_sR (cv_sA σ k j v) k' g := by
  rw [m_A0, m_R_ne h, m_A0]
  unfold cv_sR
  congr 1
  funext a
  unfold va_up
  by_cases h1 : a = k
  · subst h1; simp [h]
  · simp [h1]
theorem m_FR {σ : cv_St} {k j : Nat} {g : Nat → Int32} {v : Int32} : cv_sF (cv_sR σ k g) j v = cv_sR (cv_sF σ j v) k g := rfl
section A38
variable {p : m_P} {σ : cv_St} {f i : Nat}
theorem c_collect (hc : m_cc 14 15 16 σ p) (ho : m_ok p) (hf : f < 8) (hF : m_CF p σ 8) (hS : m_CS p σ (m_sF p f)) (h36 : σ.1 36 f = 0) : ∃ υ, F_X5_collect (nI f) σ = some υ ∧ m_fr [32, 33, 34, 35, 36, 37] [7] σ υ ∧ m_CS p υ (m_sF p (f + 1)) ∧ υ.1 36 = upd (σ.1 36) f (nI (m_ne p f (m_cn p f))) := by
  have h14 := m_cn14 ho hf
  have l0 := m_nd_lt ho hf (Nat.zero_le (m_cn p f))
  unfold F_X5_collect
  obtain ⟨g, h1, h2⟩ := c_fill_37 (σ := σ) 15
  rw [h1, m_bv, c_entry (hc.fr (m_fr.R (as := [37]) (ss := []) (by decide)) (by decide) (by decide) (by decide)) ho hf, m_bi, m_st (by omega) (by decide), m_AR]
  have hl := m_sF_len ho f (by omega)
  refine c_col_loop hc ho hf hF hl 1000 0 _ (by omega) (by omega) (m_fr.R (by decide)) ?_ ?_ (fun x hx => ?_)
  · show m_CS p _ (m_sF p f ++ [])
    rw [List.append_nil]
    refine ⟨hS.1, fun k q hq => ?_⟩
    rw [m_R_ne (by decide), m_R_ne (by decide), m_R_ne (by decide), m_R_ne (by decide)]
    exact hS.2 k q hq
  · rw [m_R_ne (by decide)]
    show _ = upd (σ.1 36) f 0
    rw [← h36, m_upd_self]
  · rw [m_R_eq]
    show _ = (if x = 0 then 0 else -1) &&& 15
    by_cases h : x = 0
    · subst h; rw [m_u_eq, if_pos rfl]; rfl
    · rw [m_u_ne (fun q => h ((m_nd_inj ho hf hx (Nat.zero_le _)).mp q)), if_neg h, h2 _ (m_nd_lt ho hf hx)]; rfl
theorem c_inferS (hc : m_cc 14 15 16 σ p) (ho : m_ok p) (hF : m_CF p σ 8) : ∃ υ, F_X5_infer σ = some υ ∧ m_fr [32, 33, 34, 35, 36, 37] [7] σ υ ∧ m_CS p υ (m_sF p 8) ∧ ∀ f, f < 8 → υ.1 36 f = nI (m_ne p f (m_cn p f)) := by
  have key : ∀ (n i : Nat) (τ : cv_St), 8 - i < n → i ≤ 8 → m_fr [32, 33, 34, 35, 36, 37] [7] σ τ → m_CS p τ (m_sF p i) → (∀ f, f < i → τ.1 36 f = nI (m_ne p f (m_cn p f))) → ∃ υ, F_X5_infer_b7 n (nI i) τ = some υ ∧ m_fr [32, 33, 34, 35, 36, 37] [7] σ υ ∧ m_CS p υ (m_sF p 8) ∧ ∀ f, f < 8 → υ.1 36 f = nI (m_ne p f (m_cn p f)) := by
    intro n
    induction n with
    | zero => intro i τ h; omega
    | succ n ih =>
      intro i τ hn hi hfr hS h36
      show ∃ υ, B_X5_infer_b7 (F_X5_infer_b7 n) (nI i) τ = _ ∧ _
      unfold B_X5_infer_b7
      rw [show (8 : Int32) = nI 8 from rfl, m_lei (by omega) (by omega)]
      by_cases hq : 8 ≤ i
      · have he : i = 8 := by omega
        subst he
        rw [if_pos hq]
        exact ⟨τ, rfl, hfr, hS, h36⟩
      · have hfr1 : m_fr [32, 33, 34, 35, 36, 37] [7] σ (cv_sA τ 36 i 0) := hfr.trans (m_fr.A (by decide))
        rw [if_neg hq, m_st (by omega) (by decide)]
        obtain ⟨υ, q1, q2, q3, q4⟩ := c_collect (σ := cv_sA τ 36 i 0) (hc.fr hfr1 (by decide) (by decide) (by decide)) ho (show i < 8 by omega) (fun g hg => by rw [hfr1.1 20 (by decide), hfr1.1 21 (by decide)]; exact hF g hg) (by
          refine ⟨hS.1, fun k q hq => ?_⟩
          rw [m_A_ne (by decide), m_A_ne (by decide), m_A_ne (by decide), m_A_ne (by decide)]
          exact hS.2 k q hq) (by rw [m_A_eq, m_u_eq])
        rw [q1, m_bv, m_i1, m_add]
        refine ih (i + 1) υ (by omega) (by omega) (hfr1.trans q2) q3 (fun f hf => ?_)
        rw [q4]
        by_cases h : f = i
        · rw [h, m_u_eq]
        · rw [m_u_ne h, m_A_eq, m_u_ne h]; exact h36 f (by omega)
  unfold F_X5_infer
  rw [m_pui]
  obtain ⟨υ, q1, q2, q3, q4⟩ := key 1000 0 (cv_sF σ 7 0) (by omega) (by omega) (m_fr.F (by decide)) ⟨m_F_eq, fun k q h => by cases h⟩ (fun f hf => by omega)
  exact ⟨υ, q1, q2, q3, q4⟩
-- the reference
theorem r_fp_loop (hc : m_mc 43 σ p) (ho : m_ok p) (hf : f < 8) (hR : ∀ x, x ≤ m_cn p f → σ.1 49 (15 * f + x) = m_b (m_rh p f x)) : ∀ (n i : Nat) (g h : Nat → Int32), m_cn p f - i < n → i ≤ m_cn p f → (∀ x, x ≤ m_cn p f → g x = m_df p f (m_pt p f) i x) → (∀ j, j < i → m_rh p f j = true → h (14 * f + j) = m_pa p f j) →
    ∃ g' h', F_X9_findPassed_b7 n (nI f) (nI i) (cv_sR (cv_sR σ 57 h) 56 g) = some (cv_sR (cv_sR σ 57 h') 56 g') ∧ (∀ j, j < m_cn p f → m_rh p f j = true → h' (14 * f + j) = m_pa p f j) ∧ ∀ j, (j < 14 * f ∨ 14 * f + 14 ≤ j) → h' j = h j := by
  have h14 := m_cn14 ho hf
  have hc7 : ∀ h : Nat → Int32, m_mc 43 (cv_sR σ 57 h) p := fun h => hc.fr (m_fr.R (as := [57]) (ss := []) (by decide)) (by decide)
  have hcR : ∀ h g : Nat → Int32, m_mc 43 (cv_sR (cv_sR σ 57 h) 56 g) p := fun h g => (hc7 h).fr (m_fr.R (as := [56]) (ss := []) (by decide)) (by decide)
  intro n
  induction n with
  | zero => intro i g h q; omega
  | succ n ih =>
    intro i g h hn hi hg hh
    show ∃ g' h', B_X9_findPassed_b7 (F_X9_findPassed_b7 n) (nI f) (nI i) _ = _ ∧ _
    unfold B_X9_findPassed_b7
    rw [m_ld (by omega) (by decide), r_cnt (hcR h g) hf, m_lei (by omega) (by omega)]
    by_cases hq : m_cn p f ≤ i
    · have he : i = m_cn p f := by omega
      subst he
      rw [if_pos hq]
      exact ⟨g, h, rfl, hh, fun _ _ => rfl⟩
    · have hlt : i < m_cn p f := by omega
      rw [if_neg hq, r_reached (p := p) (by rw [m_R_ne (by decide), m_R_ne (by decide)]; exact hR) ho hf (by omega), m_bi, m_b0i]
      by_cases hr : m_rh p f i = false
      · rw [if_pos hr]
        unfold F_X9_findPassed_b96
        rw [m_i1, m_add]
        refine ih (i + 1) g h (by omega) (by omega) (fun x hx => ?_) (fun j hj hrj => ?_)
        · rw [hg x hx]
          show _ = if m_rh p f i = true ∧ _ then _ else _
          rw [if_neg (by rw [hr]; simp)]
        · by_cases hji : j = i
          · rw [hji, hr] at hrj; cases hrj
          · exact hh j (by omega) hrj
      · have hr' : m_rh p f i = true := by simpa using hr
        have hv := m_val_k (m_vl ho hf hlt)
        rw [if_neg hr, m_ld (by omega) (by decide), m_R_eq, show (14 : Int32) = nI 14 from rfl, m_mul, m_add, m_st (by omega) (by decide), m_ARc (by decide), m_AR, r_kind (hcR _ g) ho hf hlt, m_bi, m_eqki (by omega) (by decide), m_eqki (by omega) (by decide), m_ld (by omega) (by decide), m_R_eq, r_first (hcR _ g) ho hf hlt, m_bi]
        have key : ∀ t : Int32, t = m_pt p f i (g i) → ∃ g' h', F_X9_findPassed_b93 (F_X9_findPassed_b7 n) (nI f) (nI i) t (nI i) (nI f) (cv_sR (cv_sR σ 57 (upd h (14 * f + i) (g i))) 56 g) = some (cv_sR (cv_sR σ 57 h') 56 g') ∧ (∀ j, j < m_cn p f → m_rh p f j = true → h' (14 * f + j) = m_pa p f j) ∧ ∀ j, (j < 14 * f ∨ 14 * f + 14 ≤ j) → h' j = h j := by
          intro t ht
          unfold F_X9_findPassed_b93 F_X9_findPassed_b96
          obtain ⟨g1, b1, b2⟩ := r_bring (hc7 (upd h (14 * f + i) (g i))) ho hf hlt g t
          rw [b1, m_bv, m_i1, m_add]
          obtain ⟨g2, h2, e1, e2, e3⟩ := ih (i + 1) g1 (upd h (14 * f + i) (g i)) (by omega) (by omega) (fun x hx => by
            rw [b2 x, hg x hx, ht, hg i (by omega)]
            show _ = if m_rh p f i = true ∧ _ then _ else _
            by_cases hx2 : x = m_nx p f i 0 ∨ x = m_nx p f i 1
            · rw [if_pos hx2, if_pos (show m_rh p f i = true ∧ (x = m_nx p f i 0 ∨ x = m_nx p f i 1) from ⟨hr', hx2⟩)]
            · rw [if_neg hx2, if_neg (show ¬ (m_rh p f i = true ∧ (x = m_nx p f i 0 ∨ x = m_nx p f i 1)) from fun q => hx2 q.2)]) (fun j hj hrj => by
            by_cases hji : j = i
            · rw [hji, m_u_eq, hg i (by omega)]; rfl
            · rw [m_u_ne (by omega)]; exact hh j (by omega) hrj)
          exact ⟨g2, h2, e1, e2, fun j hj => (e3 j hj).trans (m_u_ne (by omega))⟩
        by_cases h1 : m_kd p f i = 99
        · rw [if_pos h1]; exact key 0 (by unfold m_pt; rw [if_pos h1])
        · rw [if_neg h1]
          by_cases h2 : m_kd p f i = 115
          · rw [if_pos h2]; exact key _ (by unfold m_pt; rw [if_neg h1, if_pos h2]; rfl)
          · rw [if_neg h2, m_ld (by omega) (by decide), m_R_eq]; exact key _ (by unfold m_pt; rw [if_neg h1, if_neg h2])
theorem r_findPassed (hc : m_mc 43 σ p) (ho : m_ok p) (hf : f < 8) (hR : ∀ x, x ≤ m_cn p f → σ.1 49 (15 * f + x) = m_b (m_rh p f x)) : ∃ υ, F_X9_findPassed (nI f) σ = some υ ∧ m_fr [56, 57] [] σ υ ∧ (∀ j, j < m_cn p f → m_rh p f j = true → υ.1 57 (14 * f + j) = m_pa p f j) ∧ ∀ j, (j < 14 * f ∨ 14 * f + 14 ≤ j) → υ.1 57 j = σ.1 57 j := by
  have h14 := m_cn14 ho hf
  unfold F_X9_findPassed
  obtain ⟨g, h1, h2⟩ := r_begin (σ := σ) (l := nI f)
  rw [h1, m_bv]
  have := r_fp_loop hc ho hf hR 1000 0 g (σ.1 57) (by omega) (by omega) (fun x hx => h2 x (by omega)) (fun j hj => by omega)
  rw [m_Rid] at this
  obtain ⟨g', h', e1, e2, e3⟩ := this
  refine ⟨_, e1, (m_fr.R (by decide)).trans (m_fr.R (by decide)), fun j hj hr => ?_, fun j hj => ?_⟩
  · rw [m_R_ne (by decide), m_R_eq]; exact e2 j hj hr
  · rw [m_R_ne (by decide), m_R_eq]; exact e3 j hj
theorem r_fs_in (hc : m_mc 43 σ p) (ho : m_ok p) (hf : f < 8) (hR : ∀ x, x ≤ m_cn p f → σ.1 49 (15 * f + x) = m_b (m_rh p f x)) {l0 : List (Nat × Nat)} (hl0 : l0.length ≤ 14 * f) (k : Int32 → cv_St → Option cv_St) : ∀ (n i : Nat) (τ : cv_St), m_cn p f - i < n → i ≤ m_cn p f → m_fr [61, 62] [21] σ τ → m_MS τ (l0 ++ m_sI p f i) →
    ∃ υ, F_X9_findSites_b15 k n (nI f) (nI i) τ = k (nI (f + 1)) υ ∧ m_fr [61, 62] [21] σ υ ∧ m_MS υ (l0 ++ m_sI p f (m_cn p f)) := by
  have h14 := m_cn14 ho hf
  intro n
  induction n with
  | zero => intro i τ h; omega
  | succ n ih =>
    intro i τ hn hi hfr hS
    have hcτ := hc.fr hfr (by decide)
    show ∃ υ, B_X9_findSites_b15 k (F_X9_findSites_b15 k n) (nI f) (nI i) τ = _ ∧ _
    unfold B_X9_findSites_b15
    rw [m_ld (by omega) (by decide), r_cnt hcτ hf, m_lei (by omega) (by omega)]
    by_cases hq : m_cn p f ≤ i
    · have he : i = m_cn p f := by omega
      subst he
      rw [if_pos hq, m_i1, m_add]
      exact ⟨τ, rfl, hfr, hS⟩
    · have hlt : i < m_cn p f := by omega
      have hv := m_val_k (m_vl ho hf hlt)
      rw [if_neg hq, r_reached (p := p) (by rw [hfr.1 49 (by decide)]; exact hR) ho hf (by omega), m_bi, m_b0i]
      have skip : (¬ (m_rh p f i = true ∧ m_kd p f i = 99)) → ∃ υ, F_X9_findSites_b75 k (F_X9_findSites_b15 k n) (nI f) (nI i) τ = k (nI (f + 1)) υ ∧ m_fr [61, 62] [21] σ υ ∧ m_MS υ (l0 ++ m_sI p f (m_cn p f)) := by
        intro hno
        unfold F_X9_findSites_b75
        rw [m_i1, m_add]
        refine ih (i + 1) τ (by omega) (by omega) hfr ?_
        show m_MS τ (l0 ++ (m_sI p f i ++ _))
        rw [if_neg hno, List.append_nil]; exact hS
      by_cases hr : m_rh p f i = false
      · rw [if_pos hr]; exact skip (by rw [hr]; simp)
      · have hr' : m_rh p f i = true := by simpa using hr
        rw [if_neg hr, r_kind hcτ ho hf hlt, m_bi, m_eqki (by omega) (by decide)]
        by_cases h1 : m_kd p f i = 99
        · have hlen := m_sI_len (p := p) (f := f) i
          have hL : (l0 ++ m_sI p f i).length < 112 := by rw [List.length_append]; omega
          rw [if_pos h1, hS.1, m_st (by omega) (by decide)]
          simp only [m_A_2, hS.1]
          rw [m_st (by omega) (by decide), m_pui]
          unfold F_X9_findSites_b75
          rw [m_i1, m_add]
          refine ih (i + 1) _ (by omega) (by omega) (hfr.trans ((m_fr.A (by decide)).trans ((m_fr.A (by decide)).trans (m_fr.F (by decide))))) ?_
          show m_MS _ (l0 ++ (m_sI p f i ++ _))
          rw [if_pos ⟨hr', h1⟩, ← List.append_assoc]
          refine ⟨?_, fun k q hq => ?_⟩
          · rw [m_F_eq]
            show τ.2.1 21 + 1 = _
            rw [hS.1, show (1 : Int32) = nI 1 from rfl, m_add, List.length_append (bs := [(f, i)])]; rfl
          · simp only [m_F_1, m_A_eq, m_A_ne (show 61 ≠ 62 by decide), m_A_ne (show 62 ≠ 61 by decide)]
            by_cases hk : k < (l0 ++ m_sI p f i).length
            · rw [List.getElem?_append_left hk] at hq
              rw [m_u_ne (by omega), m_u_ne (by omega)]
              exact hS.2 k q hq
            · rw [List.getElem?_append_right (by omega)] at hq
              have hz : k - (l0 ++ m_sI p f i).length < 1 := (List.getElem?_eq_some_iff.mp hq).1
              have hk2 : k = (l0 ++ m_sI p f i).length := by omega
              subst hk2
              rw [Nat.sub_self] at hq
              cases hq
              rw [m_u_eq, m_u_eq]
              exact ⟨rfl, rfl⟩
        · rw [if_neg h1]; exact skip (fun h => h1 h.2)
theorem r_findSites (hc : m_mc 43 σ p) (ho : m_ok p) (hR : ∀ f, f < 8 → ∀ x, x ≤ m_cn p f → σ.1 49 (15 * f + x) = m_b (m_rh p f x)) : ∃ υ, F_X9_findSites σ = some υ ∧ m_fr [61, 62] [21] σ υ ∧ m_MS υ (m_sF p 8) := by
  have key : ∀ (n i : Nat) (τ : cv_St), 8 - i < n → i ≤ 8 → m_fr [61, 62] [21] σ τ → m_MS τ (m_sF p i) → ∃ υ, F_X9_findSites_b7 n (nI i) τ = some υ ∧ m_fr [61, 62] [21] σ υ ∧ m_MS υ (m_sF p 8) := by
    intro n
    induction n with
    | zero => intro i τ h; omega
    | succ n ih =>
      intro i τ hn hi hfr hS
      show ∃ υ, B_X9_findSites_b7 (F_X9_findSites_b7 n) (nI i) τ = _ ∧ _
      unfold B_X9_findSites_b7
      rw [show (8 : Int32) = nI 8 from rfl, m_lei (by omega) (by omega)]
      by_cases hq : 8 ≤ i
      · have he : i = 8 := by omega
        subst he
        rw [if_pos hq]
        exact ⟨τ, rfl, hfr, hS⟩
      · have h14 := m_cn14 ho (show i < 8 by omega)
        rw [if_neg hq]
        obtain ⟨υ, q1, q2, q3⟩ := r_fs_in (σ := τ) (hc.fr hfr (by decide)) ho (show i < 8 by omega) (by rw [hfr.1 49 (by decide)]; exact hR i (by omega)) (m_sF_len ho i (by omega)) (F_X9_findSites_b7 n) 1000 0 τ (by omega) (by omega) m_fr.rfl' (by show m_MS τ (m_sF p i ++ []); rw [List.append_nil]; exact hS)
        have q1' : F_X9_findSites_b15 (F_X9_findSites_b7 n) 1000 (nI i) 0 τ = F_X9_findSites_b7 n (nI (i + 1)) υ := q1
        rw [q1']
        exact ih (i + 1) υ (by omega) (by omega) (hfr.trans q2) q3
  unfold F_X9_findSites
  rw [m_pui]
  exact key 1000 0 (cv_sF σ 21 0) (by omega) (by omega) (m_fr.F (by decide)) ⟨m_F_eq, fun k q h => by cases h⟩
theorem r_neededBy (hc : m_mc 43 σ p) (ho : m_ok p) (hf : f < 8) (hR : ∀ x, x ≤ m_cn p f → σ.1 49 (15 * f + x) = m_b (m_rh p f x)) : F_X9_neededBy (nI f) σ = some (nI (m_ne p f (m_cn p f)), σ) := by
  have h14 := m_cn14 ho hf
  have key : ∀ (n i : Nat), m_cn p f - i < n → i ≤ m_cn p f → F_X9_neededBy_b4 n (nI f) (nI (m_ne p f i)) (nI i) σ = some (nI (m_ne p f (m_cn p f)), σ) := by
    intro n
    induction n with
    | zero => intro i h; omega
    | succ n ih =>
      intro i hn hi
      have hne := m_ne_le ho hf i hi
      show B_X9_neededBy_b4 (F_X9_neededBy_b4 n) (nI f) (nI (m_ne p f i)) (nI i) σ = _
      unfold B_X9_neededBy_b4
      rw [m_ld (by omega) (by decide), r_cnt hc hf, m_lei (by omega) (by omega)]
      by_cases hq : m_cn p f ≤ i
      · rw [if_pos hq, show i = m_cn p f by omega]
      · have hlt : i < m_cn p f := by omega
        have hv := m_val_k (m_vl ho hf hlt)
        have hs : m_ne p f (i + 1) = if m_rh p f i = true ∧ m_kd p f i = 108 then max (m_ne p f i) (m_fa p f i + 1) else m_ne p f i := rfl
        unfold F_X9_neededBy_b49 F_X9_neededBy_b50
        have hih := ih (i + 1) (by omega) (by omega)
        rw [if_neg hq, r_reached (p := p) hR ho hf (by omega), m_bi, m_b0i, m_i1, m_add]
        by_cases hr : m_rh p f i = false
        · rw [if_pos hr]
          rw [hs, if_neg (by rw [hr]; simp)] at hih
          exact hih
        · have hr' : m_rh p f i = true := by simpa using hr
          rw [if_neg hr, r_kind hc ho hf hlt, m_bi, m_eqki (by omega) (by decide)]
          by_cases h1 : m_kd p f i = 108
          · rw [if_pos h1, r_first hc ho hf hlt, m_bi, show (1 : Int32) = nI 1 from rfl, m_add, m_lti (by omega) (by omega)]
            rw [hs, if_pos ⟨hr', h1⟩] at hih
            by_cases h2 : m_ne p f i < m_fa p f i + 1
            · rw [if_pos h2]
              rw [Nat.max_eq_right (by omega)] at hih
              exact hih
            · rw [if_neg h2]
              rw [Nat.max_eq_left (by omega)] at hih
              exact hih
          · rw [if_neg h1]
            rw [hs, if_neg (fun h => h1 h.2)] at hih
            exact hih
  unfold F_X9_neededBy
  exact key 1000 0 (by omega) (by omega)
end A38
