def m_Sk (p : m_P) : Nat → (Nat → Int32) → Int32 := fun j D => if m_bl p j = true then m_kb p D j else 0
theorem m_Sk_dom {p : m_P} {D : Nat → Int32} {j : Nat} : m_sub (m_Sk p j D) 255 := by
  unfold m_Sk
  by_cases h : m_bl p j = true
  · rw [if_pos h]; exact m_kb_dom
  · rw [if_neg h]; exact m_sub_0
theorem m_sysk {p : m_P} (ho : m_ok p) : m_sys (fun x y => m_sub y x) (fun x => 8 - m_pc x) (fun x => m_sub x 255) (m_Sk p) :=
  m_sys_dn (fun _ _ _ _ => m_Sk_dom) (fun j D E hj _ _ h => by
    unfold m_Sk
    by_cases hb : m_bl p j = true
    · rw [if_pos hb, if_pos hb]; exact m_kb_mono ho hj h
    · rw [if_neg hb, if_neg hb]; exact m_sub_0)
/-- the greatest solution -/
def m_Gk (p : m_P) (D : Nat → Int32) : Prop := (∀ f, f < 8 → m_sub (D f) 255) ∧ (∀ f, f < 8 → m_Sk p f D = D f) ∧ ∀ E, (∀ f, f < 8 → m_sub (E f) 255) → (∀ f, f < 8 → m_sub (E f) (m_Sk p f E)) → ∀ f, f < 8 → m_sub (E f) (D f)
theorem m_Gk_uniq {p : m_P} {D E : Nat → Int32} (h : m_Gk p D) (g : m_Gk p E) : ∀ f, f < 8 → D f = E f := fun f hf =>
  m_sub_anti (g.2.2 D h.1 (fun k hk => by rw [h.2.1 k hk]; exact m_sub_refl _) f hf) (h.2.2 E g.1 (fun k hk => by rw [g.2.1 k hk]; exact m_sub_refl _) f hf)
theorem m_inv255 {p : m_P} {D : Nat → Int32} (h0 : ∀ f, f < 8 → D f = if m_bl p f = true then 255 else 0) : m_inv (fun x y => m_sub y x) (fun x => m_sub x 255) (m_Sk p) D := by
  refine ⟨fun f hf => ?_, fun f hf => ?_⟩
  · rw [h0 f hf]
    by_cases hb : m_bl p f = true
    · rw [if_pos hb]; exact m_sub_refl _
    · rw [if_neg hb]; exact m_sub_0
  · show m_sub (m_Sk p f D) (D f)
    rw [h0 f hf]
    unfold m_Sk
    by_cases hb : m_bl p f = true
    · rw [if_pos hb, if_pos hb]; exact m_kb_dom
    · rw [if_neg hb, if_neg hb]; exact m_sub_0
theorem m_Gk_it {p : m_P} (ho : m_ok p) {D : Nat → Int32} (h0 : ∀ f, f < 8 → D f = if m_bl p f = true then 255 else 0) {K : Nat} (hK : m_ch (m_Sk p) 8 (m_it (m_Sk p) D K) = false) : m_Gk p (m_it (m_Sk p) D K) := by
  have hI := m_inv255 h0
  refine ⟨(m_it_inv (m_sysk ho) hI K).1, (m_ch_f 8 hK).2, fun E hE hc => m_it_bd (m_sysk ho) hI hE hc (fun f hf => ?_) K⟩
  show m_sub (E f) (D f)
  rw [h0 f hf]
  by_cases hb : m_bl p f = true
  · rw [if_pos hb]; exact hE f hf
  · rw [if_neg hb]
    have := hc f hf
    unfold m_Sk at this
    rw [if_neg hb] at this
    exact this
/-- what the class keeps of the heights -/
def m_CB (p : m_P) (σ : cv_St) (k : Nat) : Prop := ∀ f, f < k → σ.1 22 f = m_b (m_bl p f) ∧ (m_bl p f = true → ∀ H, m_hs p f (m_cn p f) = some H → ∀ y, y ≤ m_cn p f → σ.1 24 (f * 15 + m_nd p f y) = m_eh (H y))
section A43
variable {p : m_P} {σ : cv_St}
theorem c_ki_in (hc : m_cc 14 15 16 σ p) (ho : m_ok p) (hF : m_CF p σ 8) (hB : m_CB p σ 8) {D : Nat → Int32} (k : Int32 → Int32 → cv_St → Option cv_St) (l2 : Int32) : ∀ (n i : Nat) (τ : cv_St), 8 - i < n → i ≤ 8 → m_fr [23, 25, 26] [6] σ τ → τ.1 23 = m_dr (m_Sk p) i D →
    ∃ υ, F_X7_infer_b65 k n (m_b (m_ch (m_Sk p) i D)) l2 (nI i) τ = k (m_b (m_ch (m_Sk p) 8 D)) (l2 + Int32.ofInt 1) υ ∧ m_fr [23, 25, 26] [6] σ υ ∧ υ.1 23 = m_dr (m_Sk p) 8 D := by
  intro n
  induction n with
  | zero => intro i τ h; omega
  | succ n ih =>
    intro i τ hn hi hfr hD
    show ∃ υ, B_X7_infer_b65 k (F_X7_infer_b65 k n) _ l2 (nI i) τ = _ ∧ _
    unfold B_X7_infer_b65
    rw [show (8 : Int32) = nI 8 from rfl, m_lei (by omega) (by omega)]
    by_cases hq : 8 ≤ i
    · have he : i = 8 := by omega
      subst he
      rw [if_pos hq]
      exact ⟨τ, rfl, hfr, hD⟩
    · have hF' : m_CF p τ 8 := fun f hf => by rw [hfr.1 20 (by decide), hfr.1 21 (by decide)]; exact hF f hf
      have hgo : ∀ (ω : cv_St) (t : Int32), m_fr [25, 26] [6] τ ω → t = m_Sk p i (τ.1 23) → ∃ υ, F_X7_infer_b89 k (F_X7_infer_b65 k n) (m_b (m_ch (m_Sk p) i D)) l2 (nI i) t ω = k (m_b (m_ch (m_Sk p) 8 D)) (l2 + Int32.ofInt 1) υ ∧ m_fr [23, 25, 26] [6] σ υ ∧ υ.1 23 = m_dr (m_Sk p) 8 D := by
        intro ω t hω ht
        have h23 : ω.1 23 = τ.1 23 := hω.1 23 (by decide)
        have hfr2 : m_fr [23, 25, 26] [6] σ (cv_sA ω 23 i t) := (hfr.trans (hω.mono (by decide) (by decide))).trans (m_fr.A (by decide))
        have hD2 : (cv_sA ω 23 i t).1 23 = m_dr (m_Sk p) (i + 1) D := by rw [m_A_eq, h23, m_dr_s, ht, ← hD]
        unfold F_X7_infer_b89 F_X7_infer_b112
        rw [m_ld (by omega) (by decide), h23, m_st (by omega) (by decide), m_i1, m_add]
        have := ih (i + 1) _ (by omega) (by omega) hfr2 hD2
        by_cases hch : t = τ.1 23 i
        · rw [if_pos hch]
          rw [m_ch_s, decide_eq_false (show ¬ ¬ m_Sk p i (m_dr (m_Sk p) i D) = m_dr (m_Sk p) i D i by rw [← hD, ← ht]; exact not_not_intro hch), Bool.or_false, m_Aid (show t = ω.1 23 i by rw [h23]; exact hch)] at this
          exact this
        · rw [if_neg hch]
          rw [m_ch_s, decide_eq_true (show ¬ m_Sk p i (m_dr (m_Sk p) i D) = m_dr (m_Sk p) i D i by rw [← hD, ← ht]; exact hch), Bool.or_true, m_bt1] at this
          exact this
      rw [if_neg hq, m_ld (by omega) (by decide), hfr.1 22 (by decide), (hB i (by omega)).1, m_b0i]
      by_cases hb : m_bl p i = true
      · rw [if_neg (by rw [hb]; simp)]
        obtain ⟨ω, k1, k2⟩ := c_keptBy (hc.fr hfr (by decide) (by decide) (by decide)) ho (show i < 8 by omega) hF' hb (fun H hH y hy => by rw [hfr.1 24 (by decide)]; exact (hB i (by omega)).2 hb H hH y hy)
        rw [k1, m_bi]
        exact hgo ω _ k2 (if_pos hb).symm
      · rw [if_pos (by simpa using hb)]
        exact hgo τ 0 m_fr.rfl' (if_neg hb).symm
theorem c_ki_out (hc : m_cc 14 15 16 σ p) (ho : m_ok p) (hF : m_CF p σ 8) (hB : m_CB p σ 8) {D : Nat → Int32} {K : Nat} (hK : K ≤ 64) (hK1 : ∀ j, j < K → m_ch (m_Sk p) 8 (m_it (m_Sk p) D j) = true) (hK2 : m_ch (m_Sk p) 8 (m_it (m_Sk p) D K) = false) : ∀ (n r : Nat) (τ : cv_St) (fl : Int32), K + 2 - r < n → r ≤ K + 1 → m_fr [23, 25, 26] [6] σ τ → τ.1 23 = m_it (m_Sk p) D r → fl = m_b (decide (r ≤ K)) →
    ∃ υ, F_X7_infer_b51 n fl (nI r) τ = some υ ∧ m_fr [23, 25, 26] [6] σ υ ∧ υ.1 23 = m_it (m_Sk p) D K := by
  intro n
  induction n with
  | zero => intro r τ fl h; omega
  | succ n ih =>
    intro r τ fl hn hr hfr hD hfl
    show ∃ υ, B_X7_infer_b51 (F_X7_infer_b51 n) fl (nI r) τ = _ ∧ _
    unfold B_X7_infer_b51
    rw [hfl, m_b0i]
    by_cases hq : r ≤ K
    · rw [if_neg (by simp [hq]), show (64 : Int32) = nI 64 from rfl, m_lti (by omega) (by omega), if_neg (by omega)]
      obtain ⟨υ, h1, h2, h3⟩ := c_ki_in hc ho hF hB (F_X7_infer_b51 n) (nI r) 1000 0 τ (by omega) (by omega) hfr hD
      have h1' : F_X7_infer_b65 (F_X7_infer_b51 n) 1000 0 (nI r) 0 τ = F_X7_infer_b51 n (m_b (m_ch (m_Sk p) 8 (m_it (m_Sk p) D r))) (nI r + Int32.ofInt 1) υ := h1
      rw [h1', m_i1, m_add]
      refine ih (r + 1) υ _ (by omega) (by omega) h2 h3 ?_
      by_cases hrK : r = K
      · rw [hrK, hK2, decide_eq_false (by omega)]
      · rw [hK1 r (by omega), decide_eq_true (by omega)]
    · rw [if_pos (by simp [hq])]
      refine ⟨τ, rfl, hfr, ?_⟩
      rw [hD, show r = K + 1 by omega]
      exact (m_ch_f 8 hK2).1
theorem c_inferK (hc : m_cc 14 15 16 σ p) (ho : m_ok p) (hF : m_CF p σ 8) : ∃ υ, F_X7_infer σ = some υ ∧ m_fr [22, 23, 24, 25, 26] [6] σ υ ∧ m_CB p υ 8 ∧ m_Gk p (υ.1 23) := by
  have key : ∀ (n i : Nat) (τ : cv_St), 8 - i < n → i ≤ 8 → m_fr [22, 23, 24, 25, 26] [6] σ τ → m_CB p τ i → (∀ f, f < i → τ.1 23 f = if m_bl p f = true then 255 else 0) → ∃ υ, F_X7_infer_b2 n (nI i) τ = some υ ∧ m_fr [22, 23, 24, 25, 26] [6] σ υ ∧ m_CB p υ 8 ∧ m_Gk p (υ.1 23) := by
    intro n
    induction n with
    | zero => intro i τ h; omega
    | succ n ih =>
      intro i τ hn hi hfr hB h0
      have hc' := hc.fr hfr (by decide) (by decide) (by decide)
      show ∃ υ, B_X7_infer_b2 (F_X7_infer_b2 n) (nI i) τ = _ ∧ _
      unfold B_X7_infer_b2
      rw [show (8 : Int32) = nI 8 from rfl, m_lei (by omega) (by omega)]
      by_cases hq : 8 ≤ i
      · have he : i = 8 := by omega
        subst he
        rw [if_pos hq]
        have hF' : m_CF p τ 8 := fun f hf => by rw [hfr.1 20 (by decide), hfr.1 21 (by decide)]; exact hF f hf
        obtain ⟨K, k1, k2, k3⟩ := m_it_end (m_sysk ho) (m_inv255 (p := p) h0)
        obtain ⟨υ, q1, q2, q3⟩ := c_ki_out hc' ho hF' hB k1 k2 k3 1000 0 τ 1 (by omega) (by omega) m_fr.rfl' rfl (by rw [decide_eq_true (by omega)]; rfl)
        refine ⟨υ, q1, hfr.trans (q2.mono (by decide) (by decide)), fun f hf => ?_, by rw [q3]; exact m_Gk_it ho h0 k3⟩
        rw [q2.1 22 (by decide), q2.1 24 (by decide)]
        exact hB f hf
      · obtain ⟨g', a1, a2, a3⟩ := c_measure hc' ho (show i < 8 by omega)
        rw [if_neg hq, a1, m_bi, m_narb, m_st (by omega) (by decide), m_ld (by omega) (by decide), m_A_eq, m_u_eq, m_b0i]
        have hgo : ∀ v : Int32, v = (if m_bl p i = true then 255 else 0) → ∃ υ, F_X7_infer_b40 (F_X7_infer_b2 n) (nI i) v (nI i) (cv_sA (cv_sR τ 24 g') 22 i (m_b (m_bl p i))) = some υ ∧ m_fr [22, 23, 24, 25, 26] [6] σ υ ∧ m_CB p υ 8 ∧ m_Gk p (υ.1 23) := by
          intro v hv
          unfold F_X7_infer_b40
          rw [m_st (by omega) (by decide), m_i1, m_add]
          refine ih (i + 1) _ (by omega) (by omega) (hfr.trans (((m_fr.R (by decide)).trans (m_fr.A (by decide))).trans (m_fr.A (by decide)))) (fun f hf => ?_) (fun f hf => ?_)
          · rw [m_A_ne (by decide), m_A_eq, m_R_ne (by decide), m_A_ne (by decide), m_A_ne (by decide), m_R_eq]
            by_cases hfi : f = i
            · rw [hfi, m_u_eq]; exact ⟨rfl, a2⟩
            · rw [m_u_ne hfi]
              refine ⟨(hB f (by omega)).1, fun hb H hH y hy => ?_⟩
              have := m_nd_lt ho (show f < 8 by omega) hy
              rw [a3 _ (by omega)]
              exact (hB f (by omega)).2 hb H hH y hy
          · rw [m_A_eq, m_A_ne (by decide), m_R_ne (by decide)]
            by_cases hfi : f = i
            · rw [hfi, m_u_eq]; exact hv
            · rw [m_u_ne hfi]; exact h0 f (by omega)
        by_cases hb : m_bl p i = true
        · rw [if_neg (by rw [hb]; simp)]
          exact hgo 255 (if_pos hb).symm
        · rw [if_pos (by simpa using hb)]
          exact hgo 0 (if_neg hb).symm
  unfold F_X7_infer
  exact key 1000 0 σ (by omega) (by omega) m_fr.rfl' (fun f hf => by omega) (fun f hf => by omega)
-- the reference
theorem r_ki_in (hc : m_mc 43 σ p) (ho : m_ok p) {D : Nat → Int32} (k : Int32 → cv_St → Option cv_St) : ∀ (n i : Nat) (τ : cv_St), 8 - i < n → i ≤ 8 → m_fr [51, 52, 53, 54] [] σ τ → τ.1 51 = m_dr (m_Sk p) i D →
    ∃ υ, F_X9_findPreserved_b57 k n (m_b (m_ch (m_Sk p) i D)) (nI i) τ = k (m_b (m_ch (m_Sk p) 8 D)) υ ∧ m_fr [51, 52, 53, 54] [] σ υ ∧ υ.1 51 = m_dr (m_Sk p) 8 D := by
  intro n
  induction n with
  | zero => intro i τ h; omega
  | succ n ih =>
    intro i τ hn hi hfr hD
    show ∃ υ, B_X9_findPreserved_b57 k (F_X9_findPreserved_b57 k n) _ (nI i) τ = _ ∧ _
    unfold B_X9_findPreserved_b57
    rw [show (8 : Int32) = nI 8 from rfl, m_lei (by omega) (by omega)]
    by_cases hq : 8 ≤ i
    · have he : i = 8 := by omega
      subst he
      rw [if_pos hq]
      exact ⟨τ, rfl, hfr, hD⟩
    · obtain ⟨ω, h1, h2⟩ := r_preservedBy (σ := τ) (hc.fr hfr (by decide)) ho (show i < 8 by omega)
      have h1 : F_X9_preservedBy (nI i) τ = some (m_Sk p i (τ.1 51), ω) := h1
      have h51 : ω.1 51 = τ.1 51 := h2.1 51 (by decide)
      rw [if_neg hq, h1, m_bi, m_ld (by omega) (by decide), h51]
      have hfr2 : m_fr [51, 52, 53, 54] [] σ (cv_sA ω 51 i (m_Sk p i (τ.1 51))) := (hfr.trans (h2.mono (by decide) (by decide))).trans (m_fr.A (by decide))
      have hD2 : (cv_sA ω 51 i (m_Sk p i (τ.1 51))).1 51 = m_dr (m_Sk p) (i + 1) D := by
        rw [m_A_eq, h51, m_dr_s, ← hD]
      have hih := ih (i + 1) _ (by omega) (by omega) hfr2 hD2
      have hst : ∀ t : Int32, F_X9_findPreserved_b88 k (F_X9_findPreserved_b57 k n) (nI i) (m_Sk p i (τ.1 51)) t ω = F_X9_findPreserved_b57 k n t (nI (i + 1)) (cv_sA ω 51 i (m_Sk p i (τ.1 51))) := by
        intro t
        unfold F_X9_findPreserved_b88
        rw [m_st (by omega) (by decide), m_i1, m_add]
      unfold F_X9_findPreserved_b83
      rw [hst, hst, m_b0i]
      by_cases hf0 : m_ch (m_Sk p) i D = false
      · rw [if_pos hf0]
        by_cases hch : m_Sk p i (τ.1 51) = τ.1 51 i
        · rw [if_pos hch]
          rw [m_ch_s, decide_eq_false (show ¬ ¬ m_Sk p i (m_dr (m_Sk p) i D) = m_dr (m_Sk p) i D i by rw [← hD]; exact not_not_intro hch), Bool.or_false, hf0] at hih
          exact hih
        · rw [if_neg hch]
          rw [m_ch_s, decide_eq_true (show ¬ m_Sk p i (m_dr (m_Sk p) i D) = m_dr (m_Sk p) i D i by rw [← hD]; exact hch), Bool.or_true] at hih
          exact hih
      · rw [if_neg hf0]
        rw [m_ch_s, show m_ch (m_Sk p) i D = true by simpa using hf0, Bool.true_or] at hih
        exact hih
theorem r_ki_out (hc : m_mc 43 σ p) (ho : m_ok p) {D : Nat → Int32} {K : Nat} (hK : K ≤ 64) (hK1 : ∀ j, j < K → m_ch (m_Sk p) 8 (m_it (m_Sk p) D j) = true) (hK2 : m_ch (m_Sk p) 8 (m_it (m_Sk p) D K) = false) : ∀ (n r : Nat) (τ : cv_St) (fl : Int32), K + 2 - r < n → r ≤ K + 1 → m_fr [51, 52, 53, 54] [] σ τ → τ.1 51 = m_it (m_Sk p) D r → fl = m_b (decide (r ≤ K)) →
    ∃ υ, F_X9_findPreserved_b49 n fl τ = some υ ∧ m_fr [51, 52, 53, 54] [] σ υ ∧ υ.1 51 = m_it (m_Sk p) D K := by
  intro n
  induction n with
  | zero => intro r τ fl h; omega
  | succ n ih =>
    intro r τ fl hn hr hfr hD hfl
    show ∃ υ, B_X9_findPreserved_b49 (F_X9_findPreserved_b49 n) fl τ = _ ∧ _
    unfold B_X9_findPreserved_b49
    rw [hfl, m_b0i]
    by_cases hq : r ≤ K
    · rw [if_neg (by simp [hq])]
      obtain ⟨υ, h1, h2, h3⟩ := r_ki_in hc ho (F_X9_findPreserved_b49 n) 1000 0 τ (by omega) (by omega) hfr hD
      have h1' : F_X9_findPreserved_b57 (F_X9_findPreserved_b49 n) 1000 0 0 τ = F_X9_findPreserved_b49 n (m_b (m_ch (m_Sk p) 8 (m_it (m_Sk p) D r))) υ := h1
      rw [h1']
      refine ih (r + 1) υ _ (by omega) (by omega) h2 h3 ?_
      by_cases hrK : r = K
      · rw [hrK, hK2, decide_eq_false (by omega)]
      · rw [hK1 r (by omega), decide_eq_true (by omega)]
    · rw [if_pos (by simp [hq])]
      refine ⟨τ, rfl, hfr, ?_⟩
      rw [hD, show r = K + 1 by omega]
      exact (m_ch_f 8 hK2).1
theorem r_findPreserved (hc : m_mc 43 σ p) (ho : m_ok p) : ∃ υ, F_X9_findPreserved σ = some υ ∧ m_fr [50, 51, 52, 53, 54] [] σ υ ∧ (∀ f, f < 8 → υ.1 50 f = m_b (m_bl p f)) ∧ m_Gk p (υ.1 51) := by
  have key : ∀ (n i : Nat) (τ : cv_St), 8 - i < n → i ≤ 8 → m_fr [50, 51, 52, 53, 54] [] σ τ → (∀ f, f < i → τ.1 50 f = m_b (m_bl p f)) → (∀ f, f < i → τ.1 51 f = if m_bl p f = true then 255 else 0) → ∃ υ, F_X9_findPreserved_b2 n (nI i) τ = some υ ∧ m_fr [50, 51, 52, 53, 54] [] σ υ ∧ (∀ f, f < 8 → υ.1 50 f = m_b (m_bl p f)) ∧ m_Gk p (υ.1 51) := by
    intro n
    induction n with
    | zero => intro i τ h; omega
    | succ n ih =>
      intro i τ hn hi hfr hB h0
      have hc' := hc.fr hfr (by decide)
      show ∃ υ, B_X9_findPreserved_b2 (F_X9_findPreserved_b2 n) (nI i) τ = _ ∧ _
      unfold B_X9_findPreserved_b2
      rw [show (8 : Int32) = nI 8 from rfl, m_lei (by omega) (by omega)]
      by_cases hq : 8 ≤ i
      · have he : i = 8 := by omega
        subst he
        rw [if_pos hq]
        obtain ⟨K, k1, k2, k3⟩ := m_it_end (m_sysk ho) (m_inv255 (p := p) h0)
        obtain ⟨υ, q1, q2, q3⟩ := r_ki_out hc' ho k1 k2 k3 1000 0 τ 1 (by omega) (by omega) m_fr.rfl' rfl (by rw [decide_eq_true (by omega)]; rfl)
        refine ⟨υ, q1, hfr.trans (q2.mono (by decide) (by decide)), fun f hf => ?_, by rw [q3]; exact m_Gk_it ho h0 k3⟩
        rw [q2.1 50 (by decide)]
        exact hB f hf
      · obtain ⟨ω, a1, a2, -⟩ := r_follows hc' ho (show i < 8 by omega)
        rw [if_neg hq, a1, m_bi, m_narb, m_st (by omega) (by decide), m_ld (by omega) (by decide), m_A_eq, m_u_eq, m_b0i]
        have hgo : ∀ v : Int32, v = (if m_bl p i = true then 255 else 0) → ∃ υ, F_X9_findPreserved_b40 (F_X9_findPreserved_b2 n) (nI i) v (nI i) (cv_sA ω 50 i (m_b (m_bl p i))) = some υ ∧ m_fr [50, 51, 52, 53, 54] [] σ υ ∧ (∀ f, f < 8 → υ.1 50 f = m_b (m_bl p f)) ∧ m_Gk p (υ.1 51) := by
          intro v hv
          unfold F_X9_findPreserved_b40
          rw [m_st (by omega) (by decide), m_i1, m_add]
          refine ih (i + 1) _ (by omega) (by omega) ((hfr.trans (a2.mono (by decide) (by decide))).trans ((m_fr.A (by decide)).trans (m_fr.A (by decide)))) (fun f hf => ?_) (fun f hf => ?_)
          · rw [m_A_ne (by decide), m_A_eq, a2.1 50 (by decide)]
            by_cases hfi : f = i
            · rw [hfi, m_u_eq]
            · rw [m_u_ne hfi]; exact hB f (by omega)
          · rw [m_A_eq, m_A_ne (by decide), a2.1 51 (by decide)]
            by_cases hfi : f = i
            · rw [hfi, m_u_eq]; exact hv
            · rw [m_u_ne hfi]; exact h0 f (by omega)
        by_cases hb : m_bl p i = true
        · rw [if_neg (by rw [hb]; simp)]
          exact hgo 255 (if_pos hb).symm
        · rw [if_pos (by simpa using hb)]
          exact hgo 0 (if_neg hb).symm
  unfold F_X9_findPreserved
  exact key 1000 0 σ (by omega) (by omega) m_fr.rfl' (fun f hf => by omega) (fun f hf => by omega)
end A43
