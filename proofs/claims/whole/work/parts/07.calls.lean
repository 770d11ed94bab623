/-- words of a call: the link, the callee's own -/
def cv_VM (y : MethodName) (bytes : ByteArray) (maxL : Nat) (rt : Option FieldType) (n : Nat) : Prop := Cond.instanceMethod y ∈ cv_gw ∧ Cond.selects y.cls y y ∈ cv_gw ∧ Cond.initialized y.cls ∈ cv_gw ∧ Cond.code y bytes maxL rt ∈ cv_gw ∧ y.cls ≠ "java/lang/invoke/MethodHandle" ∧ y.cls ≠ "java/lang/invoke/VarHandle" ∧ (parseMethodDescriptor y.desc).map (fun d => d.parameters.length) = some n
def cv_SM (y : MethodName) (bytes : ByteArray) (maxL : Nat) (rt : Option FieldType) (n : Nat) : Prop := Cond.static y ∈ cv_gw ∧ Cond.initialized y.cls ∈ cv_gw ∧ Cond.code y bytes maxL rt ∈ cv_gw ∧ y.cls ≠ "java/lang/invoke/MethodHandle" ∧ y.cls ≠ "java/lang/invoke/VarHandle" ∧ (parseMethodDescriptor y.desc).map (fun d => d.parameters.length) = some n
def cv_ob (G : cv_G) (ob : Nat) (C : String) : Prop := ∃ (T : u_T) (N ci : Nat) (fs : cv_St → List Value), cv_cl[ci]? = some (C, T, N) ∧ ∀ σ, (cv_w G σ)[ob]? = some (G.1 ob, .inr (ci, fs σ))
theorem cv_good {y : MethodName} {bytes : ByteArray} {maxL : Nat} {rt : Option FieldType} (h : Cond.code y bytes maxL rt ∈ cv_gw) : GoodIn cv_gw (Cond.code y bytes maxL rt :: cv_gw) := fun w hw => by
  have h1 : w ∈ cv_gw := (List.mem_cons.mp hw).elim (fun e => e ▸ h) id
  exact ⟨h1, good_of_word (cv_gw_good h1)⟩
theorem cv_A_in {G : cv_G} {s : State} {H : Heap} {locs : List Loc} (hS : va_S (cv_A G s.heap.size) s.heap H locs) : ∀ q, cv_A G H.size q → cv_A G s.heap.size q := fun q h => h.elim Or.inl (fun h => Or.inr (Nat.le_trans hS.1 h))
section R07
variable {X : cv_X} {G : cv_G} {l0 : Launch} {own : String} {cc : ByteArray} {nL : Nat} {ret : Option FieldType} {rm : Room} {cells slots : Nat} {α : Type} {Qf : α → State → Prop} {pc : Nat} {lv : List (Nat × Value)} {st : List Value} {σ : cv_St} {F : Option α}
theorem cv_iret (hC : cv_C X G l0 own cc nL (some .int) rm) {v : Int32} (d : decode cc pc = .ok (.ireturn, 1)) : cv_J X G nL 0 0 (cv_QI X G) pc lv [.int v] σ (some (v, σ)) := by
  obtain ⟨p, l, e, R, s, m, args, below, meth, c⟩ := X
  intro ls H locs hl hP hS r hF
  obtain ⟨hx, hb, hml, hown, hts, hr, hlk, hE, rfl, rfl⟩ := hC
  exact W.iret (v := v) hx hb hr (fun t ht hW => ⟨⟨v, σ, rfl, Option.some.inj hF, by rw [cv_B, ht]; exact hP⟩, hS.F ht⟩) hS.2.2 d
/-- a boolean, a char that is one -/
def cv_rz (v : Int32) (σ : cv_St) : Option (Int32 × cv_St) := if v = 0 ∨ v = 1 then some (v, σ) else none
def cv_rc (v : Int32) (σ : cv_St) : Option (Int32 × cv_St) := if 0 ≤ v ∧ v < 65536 then some (v, σ) else none
theorem cv_zret (hC : cv_C X G l0 own cc nL (some .boolean) rm) {v : Int32} (d : decode cc pc = .ok (.ireturn, 1)) : cv_J X G nL 0 0 (cv_QI X G) pc lv [.int v] σ (cv_rz v σ) := by
  obtain ⟨p, l, e, R, s, m, args, below, meth, c⟩ := X
  intro ls H locs hl hP hS r hF
  obtain ⟨hx, hb, hml, hown, hts, hr, hlk, hE, rfl, rfl⟩ := hC
  unfold cv_rz at hF
  by_cases hc : v = 0 ∨ v = 1
  · rw [if_pos hc] at hF
    exact W.zret (v := v) hx hb hr (by rcases hc with rfl | rfl <;> rfl) (fun t ht hW => ⟨⟨v, σ, rfl, Option.some.inj hF, by rw [cv_B, ht]; exact hP⟩, hS.F ht⟩) hS.2.2 d
  · rw [if_neg hc] at hF; cases hF
theorem cv_nc {v : Int32} (h : 0 ≤ v ∧ v < 65536) : narrow .char (.int v) = .int v ∧ fits .char (.int v) = true := by
  obtain ⟨j, hj, rfl⟩ := nI_of (x := v) (by intro h2; have h3 := Int32.lt_iff_toInt_lt.mp h2; have h4 := Int32.le_iff_toInt_le.mp h.1; omega)
  have h2 : j < 65536 := (nI_ltI hj (by decide)).mp (show nI j < nI 65536 from h.2)
  exact pk_charN h2
theorem cv_cret (hC : cv_C X G l0 own cc nL (some .char) rm) {v : Int32} (d : decode cc pc = .ok (.ireturn, 1)) : cv_J X G nL 0 0 (cv_QI X G) pc lv [.int v] σ (cv_rc v σ) := by
  obtain ⟨p, l, e, R, s, m, args, below, meth, c⟩ := X
  intro ls H locs hl hP hS r hF
  obtain ⟨hx, hb, hml, hown, hts, hr, hlk, hE, rfl, rfl⟩ := hC
  unfold cv_rc at hF
  by_cases hc : 0 ≤ v ∧ v < 65536
  · rw [if_pos hc] at hF
    exact W.zret (v := v) hx hb hr (cv_nc hc).1 (fun t ht hW => ⟨⟨v, σ, rfl, Option.some.inj hF, by rw [cv_B, ht]; exact hP⟩, hS.F ht⟩) hS.2.2 d
  · rw [if_neg hc] at hF; cases hF
theorem cv_vret (hC : cv_C X G l0 own cc nL none rm) (d : decode cc pc = .ok (.return_, 1)) : cv_J X G nL 0 0 (cv_QV X G) pc lv [] σ (some σ) := by
  obtain ⟨p, l, e, R, s, m, args, below, meth, c⟩ := X
  intro ls H locs hl hP hS r hF
  obtain ⟨hx, hb, hml, hown, hts, hr, hlk, hE, rfl, rfl⟩ := hC
  exact W.vret hx hb hr (fun t ht hW => ⟨⟨σ, rfl, Option.some.inj hF, by rw [cv_B, ht]; exact hP⟩, hS.F ht⟩) hS.2.2 d
/-- F goes on behind a call -/
def cv_bi {α : Type} (A : Option (Int32 × cv_St)) (K : Int32 → cv_St → Option α) : Option α := A.bind (fun z => K z.1 z.2)
def cv_bv {α : Type} (A : Option cv_St) (K : cv_St → Option α) : Option α := A.bind K
theorem cv_callVi (hC : cv_C X G l0 own cc nL ret rm) {y : MethodName} {bytes : ByteArray} {maxL fr lo index n ob : Nat} {rt : Option FieldType} (As rest : List Value) {st0 : List Value} {Fc : Option (Int32 × cv_St)} {K : Int32 → cv_St → Option α} (hM : cv_MI l0 G y bytes maxL rt fr lo (.ref (G.1 ob) :: As) σ Fc)
    (hl0 : Cond.methodLink own index y ∈ cv_gw) (hw : cv_VM y bytes maxL rt n) (ho : cv_ob G ob y.cls) (hn : As.length = n) (hst : st0 = As.reverse ++ .ref (G.1 ob) :: rest) (hs : (rest.map fun v => v.category).sum ≤ 8) (hR : fr + 1 ≤ rm.frames ∧ 8 + (maxL + 11) + lo ≤ rm.locals) (hcs : cells ≤ rm.cells ∧ slots ≤ rm.slots) (d : decode cc pc = .ok (.invokevirtual index, 3))
    (kk : ∀ (v : Int32) (u : cv_St), cv_J X G nL cells slots Qf (pc + 3) lv (.int v :: rest) u (K v u)) : cv_J X G nL cells slots Qf pc lv st0 σ (cv_bi Fc K) := by
  obtain ⟨p, l, e, R, s, m, args, below, meth, c⟩ := X
  intro ls H locs hl hP hS r hF
  obtain ⟨hx, hb, hml, hown, hts, hr, hlk, hE, rfl, rfl⟩ := hC
  obtain ⟨w1, w2, w3, w4, w5, w6, w7⟩ := hw
  obtain ⟨T, N, ci, fs, o1, o2⟩ := ho
  unfold cv_bi at hF
  cases hFc : Fc with
  | none => rw [hFc] at hF; cases hF
  | some z =>
    rw [hFc] at hF
    refine va_calli (A0 := cv_A G s.heap.size) (H0 := s.heap) (va_runV (As := As) (rest := rest) (C := y.cls) ⟨hx, hb, hml, hown, hts⟩ (hM H.size z hFc) ⟨callB_of n hts (cv_good w4) rfl rfl rfl (hts _ w3) (hts _ hl0) ⟨w5, w6, w7⟩ hR, hts _ w1, hts _ w2⟩ ⟨cv_blind G H.size _ σ, va_recv hE.1 hP o1 (o2 σ), fun U hU hW => ⟨rfl, by rw [hU], by rw [hU]; exact hP, hE.warm hW⟩⟩ rfl hn hl.1 hst (lv_room hs) d hcs) hS (fun q _ h => cv_A_in hS q h) (cv_A_in hS) (fun v u t H1 locs1 ht hvm hw hB hz1 hk1 hS1 => ?_)
    subst hw
    rw [cv_B, ht] at hB
    exact kk v u ls H1 locs1 hl hB hS1 r hF
theorem cv_callVv (hC : cv_C X G l0 own cc nL ret rm) {y : MethodName} {bytes : ByteArray} {maxL fr lo index n ob : Nat} (As rest : List Value) {st0 : List Value} {Fc : Option cv_St} {K : cv_St → Option α} (hM : cv_MV l0 G y bytes maxL fr lo (.ref (G.1 ob) :: As) σ Fc)
    (hl0 : Cond.methodLink own index y ∈ cv_gw) (hw : cv_VM y bytes maxL none n) (ho : cv_ob G ob y.cls) (hn : As.length = n) (hst : st0 = As.reverse ++ .ref (G.1 ob) :: rest) (hs : (rest.map fun v => v.category).sum ≤ 8) (hR : fr + 1 ≤ rm.frames ∧ 8 + (maxL + 11) + lo ≤ rm.locals) (hcs : cells ≤ rm.cells ∧ slots ≤ rm.slots) (d : decode cc pc = .ok (.invokevirtual index, 3))
    (kk : ∀ (u : cv_St), cv_J X G nL cells slots Qf (pc + 3) lv rest u (K u)) : cv_J X G nL cells slots Qf pc lv st0 σ (cv_bv Fc K) := by
  obtain ⟨p, l, e, R, s, m, args, below, meth, c⟩ := X
  intro ls H locs hl hP hS r hF
  obtain ⟨hx, hb, hml, hown, hts, hr, hlk, hE, rfl, rfl⟩ := hC
  obtain ⟨w1, w2, w3, w4, w5, w6, w7⟩ := hw
  obtain ⟨T, N, ci, fs, o1, o2⟩ := ho
  unfold cv_bv at hF
  cases hFc : Fc with
  | none => rw [hFc] at hF; cases hF
  | some z =>
    rw [hFc] at hF
    refine va_callv (A0 := cv_A G s.heap.size) (H0 := s.heap) (va_runV (As := As) (rest := rest) (C := y.cls) ⟨hx, hb, hml, hown, hts⟩ (hM H.size z hFc) ⟨callB_of n hts (cv_good w4) rfl rfl rfl (hts _ w3) (hts _ hl0) ⟨w5, w6, w7⟩ hR, hts _ w1, hts _ w2⟩ ⟨cv_blind G H.size _ σ, va_recv hE.1 hP o1 (o2 σ), fun U hU hW => ⟨rfl, by rw [hU], by rw [hU]; exact hP, hE.warm hW⟩⟩ rfl hn hl.1 hst (lv_room hs) d hcs) hS (fun q _ h => cv_A_in hS q h) (cv_A_in hS) (fun u t H1 locs1 ht hvm hw hB hz1 hk1 hS1 => ?_)
    subst hw
    rw [cv_B, ht] at hB
    exact kk u ls H1 locs1 hl hB hS1 r hF
theorem cv_callSi (hC : cv_C X G l0 own cc nL ret rm) {y : MethodName} {bytes : ByteArray} {maxL fr lo index n : Nat} {rt : Option FieldType} (As rest : List Value) {st0 : List Value} {Fc : Option (Int32 × cv_St)} {K : Int32 → cv_St → Option α} (hM : cv_MI l0 G y bytes maxL rt fr lo As σ Fc)
    (hl0 : Cond.methodLink own index y ∈ cv_gw) (hw : cv_SM y bytes maxL rt n) (hn : As.length = n) (hst : st0 = As.reverse ++ rest) (hs : (rest.map fun v => v.category).sum ≤ 8) (hR : fr + 1 ≤ rm.frames ∧ 8 + (maxL + 11) + lo ≤ rm.locals) (hcs : cells ≤ rm.cells ∧ slots ≤ rm.slots) (d : decode cc pc = .ok (.invokestatic index, 3))
    (kk : ∀ (v : Int32) (u : cv_St), cv_J X G nL cells slots Qf (pc + 3) lv (.int v :: rest) u (K v u)) : cv_J X G nL cells slots Qf pc lv st0 σ (cv_bi Fc K) := by
  obtain ⟨p, l, e, R, s, m, args, below, meth, c⟩ := X
  intro ls H locs hl hP hS r hF
  obtain ⟨hx, hb, hml, hown, hts, hr, hlk, hE, rfl, rfl⟩ := hC
  obtain ⟨w1, w3, w4, w5, w6, w7⟩ := hw
  unfold cv_bi at hF
  cases hFc : Fc with
  | none => rw [hFc] at hF; cases hF
  | some z =>
    rw [hFc] at hF
    refine va_calli (A0 := cv_A G s.heap.size) (H0 := s.heap) (va_runS (As := As) (rest := rest) ⟨hx, hb, hml, hown, hts⟩ (hM H.size z hFc) ⟨callB_of n hts (cv_good w4) rfl rfl rfl (hts _ w3) (hts _ hl0) ⟨w5, w6, w7⟩ hR, hts _ w1⟩ ⟨cv_blind G H.size _ σ, fun U hU hW => ⟨rfl, by rw [hU], by rw [hU]; exact hP, hE.warm hW⟩⟩ rfl hn hl.1 hst (lv_room hs) d hcs) hS (fun q _ h => cv_A_in hS q h) (cv_A_in hS) (fun v u t H1 locs1 ht hvm hw hB hz1 hk1 hS1 => ?_)
    subst hw
    rw [cv_B, ht] at hB
    exact kk v u ls H1 locs1 hl hB hS1 r hF
theorem cv_callSv (hC : cv_C X G l0 own cc nL ret rm) {y : MethodName} {bytes : ByteArray} {maxL fr lo index n : Nat} (As rest : List Value) {st0 : List Value} {Fc : Option cv_St} {K : cv_St → Option α} (hM : cv_MV l0 G y bytes maxL fr lo As σ Fc)
    (hl0 : Cond.methodLink own index y ∈ cv_gw) (hw : cv_SM y bytes maxL none n) (hn : As.length = n) (hst : st0 = As.reverse ++ rest) (hs : (rest.map fun v => v.category).sum ≤ 8) (hR : fr + 1 ≤ rm.frames ∧ 8 + (maxL + 11) + lo ≤ rm.locals) (hcs : cells ≤ rm.cells ∧ slots ≤ rm.slots) (d : decode cc pc = .ok (.invokestatic index, 3))
    (kk : ∀ (u : cv_St), cv_J X G nL cells slots Qf (pc + 3) lv rest u (K u)) : cv_J X G nL cells slots Qf pc lv st0 σ (cv_bv Fc K) := by
  obtain ⟨p, l, e, R, s, m, args, below, meth, c⟩ := X
  intro ls H locs hl hP hS r hF
  obtain ⟨hx, hb, hml, hown, hts, hr, hlk, hE, rfl, rfl⟩ := hC
  obtain ⟨w1, w3, w4, w5, w6, w7⟩ := hw
  unfold cv_bv at hF
  cases hFc : Fc with
  | none => rw [hFc] at hF; cases hF
  | some z =>
    rw [hFc] at hF
    refine va_callv (A0 := cv_A G s.heap.size) (H0 := s.heap) (va_runS (As := As) (rest := rest) ⟨hx, hb, hml, hown, hts⟩ (hM H.size z hFc) ⟨callB_of n hts (cv_good w4) rfl rfl rfl (hts _ w3) (hts _ hl0) ⟨w5, w6, w7⟩ hR, hts _ w1⟩ ⟨cv_blind G H.size _ σ, fun U hU hW => ⟨rfl, by rw [hU], by rw [hU]; exact hP, hE.warm hW⟩⟩ rfl hn hl.1 hst (lv_room hs) d hcs) hS (fun q _ h => cv_A_in hS q h) (cv_A_in hS) (fun u t H1 locs1 ht hvm hw hB hz1 hk1 hS1 => ?_)
    subst hw
    rw [cv_B, ht] at hB
    exact kk u ls H1 locs1 hl hB hS1 r hF
/-- a nest mate's static method -/
theorem cv_callNi (hC : cv_C X G l0 own cc nL ret rm) {y : MethodName} {bytes : ByteArray} {maxL fr lo index n : Nat} {rt : Option FieldType} {host : String} (As rest : List Value) {st0 : List Value} {Fc : Option (Int32 × cv_St)} {K : Int32 → cv_St → Option α} (hM : cv_MI l0 G y bytes maxL rt fr lo As σ Fc)
    (hl0 : ∀ U, cv_N U → va_Nw (.methodLinkNest own index y host) U) (hw : cv_SM y bytes maxL rt n) (hn : As.length = n) (hst : st0 = As.reverse ++ rest) (hs : (rest.map fun v => v.category).sum ≤ 8) (hR : fr + 1 ≤ rm.frames ∧ 8 + (maxL + 11) + lo ≤ rm.locals) (hcs : cells ≤ rm.cells ∧ slots ≤ rm.slots) (d : decode cc pc = .ok (.invokestatic index, 3))
    (kk : ∀ (v : Int32) (u : cv_St), cv_J X G nL cells slots Qf (pc + 3) lv (.int v :: rest) u (K v u)) : cv_J X G nL cells slots Qf pc lv st0 σ (cv_bi Fc K) := by
  obtain ⟨p, l, e, R, s, m, args, below, meth, c⟩ := X
  intro ls H locs hl hP hS r hF
  obtain ⟨hx, hb, hml, hown, hts, hr, hlk, hE, rfl, rfl⟩ := hC
  obtain ⟨w1, w3, w4, w5, w6, w7⟩ := hw
  unfold cv_bi at hF
  cases hFc : Fc with
  | none => rw [hFc] at hF; cases hF
  | some z =>
    rw [hFc] at hF
    refine va_calli (A0 := cv_A G s.heap.size) (H0 := s.heap) (va_runSN (As := As) (rest := rest) (host := host) ⟨hx, hb, hml, hown, hts⟩ (hM H.size z hFc) ⟨va_cnB n hts (cv_good w4) rfl rfl rfl (hl0 s hE.2.1) (hts _ w3) ⟨w5, w6, w7⟩ hR, hts _ w1, trivial⟩ ⟨cv_blind G H.size _ σ, fun U hU hW => ⟨rfl, by rw [hU], by rw [hU]; exact hP, hE.warm hW⟩⟩ rfl hn hl.1 hst (lv_room hs) d hcs) hS (fun q _ h => cv_A_in hS q h) (cv_A_in hS) (fun v u t H1 locs1 ht hvm hw hB hz1 hk1 hS1 => ?_)
    subst hw
    rw [cv_B, ht] at hB
    exact kk v u ls H1 locs1 hl hB hS1 r hF
/-- Math.max, Math.min -/
theorem cv_mmax (hC : cv_C X G l0 own cc nL ret rm) {index : Nat} {x y : Int32} (hl0 : Cond.methodLink own index Lib.Math.max.name ∈ cv_gw) (h2 : Cond.static Lib.Math.max.name ∈ cv_gw) (h3 : Cond.initialized "java/lang/Math" ∈ cv_gw) (h4 : Cond.code Lib.Math.max.name Lib.Math.max.code 2 (some .int) ∈ cv_gw) (hR : 1 ≤ rm.frames ∧ (st.map fun v => v.category).sum + 13 ≤ rm.locals) (hcs : cells ≤ rm.cells ∧ slots ≤ rm.slots) (d : decode cc pc = .ok (.invokestatic index, 3))
    (k : cv_J X G nL cells slots Qf (pc + 3) lv (.int (if x < y then y else x) :: st) σ F) : cv_J X G nL cells slots Qf pc lv (.int y :: .int x :: st) σ F := by
  obtain ⟨p, l, e, R, s, m, args, below, meth, c⟩ := X
  intro ls H locs hl hP hS r hF
  obtain ⟨hx, hb, hml, hown, hts, hr, hlk, hE, rfl, rfl⟩ := hC
  exact va_mmax hx hb (by rw [hml]; exact hl.1.symm) hown (hts _ hl0) (hts _ h2) (hts _ h3) (hts _ h4) hR.1 hR.2 hcs.1 hcs.2 d (k ls H locs hl hP hS r hF)
theorem cv_mmin (hC : cv_C X G l0 own cc nL ret rm) {index : Nat} {x y : Int32} (hl0 : Cond.methodLink own index Lib.Math.min.name ∈ cv_gw) (h2 : Cond.static Lib.Math.min.name ∈ cv_gw) (h3 : Cond.initialized "java/lang/Math" ∈ cv_gw) (h4 : Cond.code Lib.Math.min.name Lib.Math.min.code 2 (some .int) ∈ cv_gw) (hR : 1 ≤ rm.frames ∧ (st.map fun v => v.category).sum + 13 ≤ rm.locals) (hcs : cells ≤ rm.cells ∧ slots ≤ rm.slots) (d : decode cc pc = .ok (.invokestatic index, 3))
    (k : cv_J X G nL cells slots Qf (pc + 3) lv (.int (if y < x then y else x) :: st) σ F) : cv_J X G nL cells slots Qf pc lv (.int y :: .int x :: st) σ F := by
  obtain ⟨p, l, e, R, s, m, args, below, meth, c⟩ := X
  intro ls H locs hl hP hS r hF
  obtain ⟨hx, hb, hml, hown, hts, hr, hlk, hE, rfl, rfl⟩ := hC
  exact va_mmin hx hb (by rw [hml]; exact hl.1.symm) hown (hts _ hl0) (hts _ h2) (hts _ h3) (hts _ h4) hR.1 hR.2 hcs.1 hcs.2 d (k ls H locs hl hP hS r hF)
/-- System.arraycopy between two arrays of the world -/
def cv_cp {α : Type} (σ : cv_St) (k0 n0 k1 n1 : Nat) (sp dp n : Int32) (K : cv_St → Option α) : Option α := if sp < 0 ∨ dp < 0 ∨ n < 0 ∨ n0 < sp.toNatClampNeg + n.toNatClampNeg ∨ n1 < dp.toNatClampNeg + n.toNatClampNeg then none else K (cv_sR σ k1 (va_cpy (σ.1 k0) (σ.1 k1) sp.toNatClampNeg dp.toNatClampNeg n.toNatClampNeg))
def cv_allC (f : Nat → Int32) (n : Nat) : Bool := (List.range n).all (fun i => decide (0 ≤ f i) && decide (f i < 65536))
theorem cv_allC_at {f : Nat → Int32} {n : Nat} (h : cv_allC f n = true) {i : Nat} (hi : i < n) : 0 ≤ f i ∧ f i < 65536 := by
  have h1 := List.all_eq_true.mp h i (List.mem_range.mpr hi)
  simpa [Bool.and_eq_true, decide_eq_true_eq] using h1
theorem cv_copyI (hC : cv_C X G l0 own cc nL ret rm) {index k0 k1 n0 n1 : Nat} {sp dp n : Int32} {K : cv_St → Option α} (hl0 : Cond.methodLink own index arraycopyName ∈ cv_gw) (h2 : Cond.native arraycopyName ∈ cv_gw) (h3 : Cond.static arraycopyName ∈ cv_gw) (h4 : Cond.initialized "java/lang/System" ∈ cv_gw) (ha0 : cv_ai G k0 n0 0 .int) (ha1 : cv_ai G k1 n1 0 .int) (hR : 1 ≤ rm.frames ∧ (st.map fun v => v.category).sum + (nativeFrameWords "java/lang/System" "arraycopy" 5 + 11) ≤ rm.locals) (d : decode cc pc = .ok (.invokestatic index, 3))
    (kk : ∀ u : cv_St, cv_J X G nL cells slots Qf (pc + 3) lv st u (K u)) : cv_J X G nL cells slots Qf pc lv (.int n :: .int dp :: .ref (G.1 k1) :: .int sp :: .ref (G.1 k0) :: st) σ (cv_cp σ k0 n0 k1 n1 sp dp n K) := by
  obtain ⟨p, l, e, R, s, m, args, below, meth, c⟩ := X
  intro ls H locs hl hP hS r hF
  obtain ⟨hx, hb, hml, hown, hts, hr, hlk, hE, rfl, rfl⟩ := hC
  unfold cv_cp at hF
  by_cases hc : sp < 0 ∨ dp < 0 ∨ n < 0 ∨ n0 < sp.toNatClampNeg + n.toNatClampNeg ∨ n1 < dp.toNatClampNeg + n.toNatClampNeg
  · rw [if_pos hc] at hF; cases hF
  · rw [if_neg hc] at hF
    refine va_copyi hx hb (by rw [hml]; exact hl.1.symm) hown (hts _ hl0) (hts _ h2) (hts _ h3) (hts _ h4) hE.1 hP (cv_D hE.2.2 _) hS k0 k1 0 0 (ha0.1 σ) (ha1.1 σ) ha0.2.2 ha1.2.2 rfl (fun h => hc (Or.inl h)) (fun h => hc (Or.inr (Or.inl h))) (fun h => hc (Or.inr (Or.inr (Or.inl h)))) (Nat.not_lt.mp fun h => hc (Or.inr (Or.inr (Or.inr (Or.inl h))))) (Nat.not_lt.mp fun h => hc (Or.inr (Or.inr (Or.inr (Or.inr h))))) (fun _ _ => rfl) hR.1 hR.2 d (fun H1 locs1 hP1 _ hS1 => ?_)
    rw [ha1.2.1] at hP1
    exact kk _ ls H1 locs1 hl hP1 hS1 r hF
theorem cv_copyC (hC : cv_C X G l0 own cc nL ret rm) {index k0 k1 n0 n1 : Nat} {sp dp n : Int32} {K : cv_St → Option α} (hl0 : Cond.methodLink own index arraycopyName ∈ cv_gw) (h2 : Cond.native arraycopyName ∈ cv_gw) (h3 : Cond.static arraycopyName ∈ cv_gw) (h4 : Cond.initialized "java/lang/System" ∈ cv_gw) (ha0 : cv_ai G k0 n0 1 .char) (ha1 : cv_ai G k1 n1 1 .char) (hR : 1 ≤ rm.frames ∧ (st.map fun v => v.category).sum + (nativeFrameWords "java/lang/System" "arraycopy" 5 + 11) ≤ rm.locals) (d : decode cc pc = .ok (.invokestatic index, 3))
    (kk : ∀ u : cv_St, cv_J X G nL cells slots Qf (pc + 3) lv st u (K u)) : cv_J X G nL cells slots Qf pc lv (.int n :: .int dp :: .ref (G.1 k1) :: .int sp :: .ref (G.1 k0) :: st) σ (if cv_allC (σ.1 k0) n0 = true then cv_cp σ k0 n0 k1 n1 sp dp n K else none) := by
  obtain ⟨p, l, e, R, s, m, args, below, meth, c⟩ := X
  intro ls H locs hl hP hS r hF
  obtain ⟨hx, hb, hml, hown, hts, hr, hlk, hE, rfl, rfl⟩ := hC
  by_cases hz : cv_allC (σ.1 k0) n0 = true
  · rw [if_pos hz] at hF
    unfold cv_cp at hF
    by_cases hc : sp < 0 ∨ dp < 0 ∨ n < 0 ∨ n0 < sp.toNatClampNeg + n.toNatClampNeg ∨ n1 < dp.toNatClampNeg + n.toNatClampNeg
    · rw [if_pos hc] at hF; cases hF
    · rw [if_neg hc] at hF
      have hn0 := Nat.not_lt.mp fun h => hc (Or.inr (Or.inr (Or.inr (Or.inl h))))
      refine va_copyi hx hb (by rw [hml]; exact hl.1.symm) hown (hts _ hl0) (hts _ h2) (hts _ h3) (hts _ h4) hE.1 hP (cv_D hE.2.2 _) hS k0 k1 1 1 (ha0.1 σ) (ha1.1 σ) ha0.2.2 ha1.2.2 rfl (fun h => hc (Or.inl h)) (fun h => hc (Or.inr (Or.inl h))) (fun h => hc (Or.inr (Or.inr (Or.inl h)))) hn0 (Nat.not_lt.mp fun h => hc (Or.inr (Or.inr (Or.inr (Or.inr h))))) (fun i hi => (cv_nc (cv_allC_at hz (i := sp.toNatClampNeg + i) (by omega))).2) hR.1 hR.2 d (fun H1 locs1 hP1 _ hS1 => ?_)
      rw [ha1.2.1] at hP1
      exact kk _ ls H1 locs1 hl hP1 hS1 r hF
  · rw [if_neg hz] at hF; cases hF
/-- a case split of F -/
theorem cv_ite {c : Prop} [Decidable c] {F1 F2 : Option α} (k1 : c → cv_J X G nL cells slots Qf pc lv st σ F1) (k2 : ¬ c → cv_J X G nL cells slots Qf pc lv st σ F2) : cv_J X G nL cells slots Qf pc lv st σ (if c then F1 else F2) := by
  by_cases hc : c
  · rw [if_pos hc]; exact k1 hc
  · rw [if_neg hc]; exact k2 hc
theorem cv_lookup (hC : cv_C X G l0 own cc nL ret rm) {dflt : Int} {ps : Array (Int × Int)} {len : Nat} {x : Int32} {off : Int} {tgt : Nat} (d : decode cc pc = .ok (.lookupswitch dflt ps, len)) (hp : (ps.toList.zip (ps.toList.drop 1)).all (fun (a, next) => a.1 < next.1) = true) (ho : Op.lookupswitch.offset ps.toList dflt x.toInt = off) (ht : (pc : Int) + off = (tgt : Int)) (k : cv_J X G nL cells slots Qf tgt lv st σ F) : cv_J X G nL cells slots Qf pc lv (.int x :: st) σ F := by
  obtain ⟨p, l, e, R, s, m, args, below, meth, c⟩ := X
  intro ls H locs hl hP hS r hF
  exact lv_lookup hC.1 hC.2.1 d hp ho ht (k ls H locs hl hP hS r hF)
theorem cv_tableIn (hC : cv_C X G l0 own cc nL ret rm) {dflt lo hi : Int} {offs : Array Int} {len : Nat} {x : Int32} {off : Int} {tgt : Nat} (d : decode cc pc = .ok (.tableswitch dflt lo hi offs, len)) (h1 : ¬ x.toInt < lo) (h2 : ¬ hi < x.toInt) (ho : offs[(x.toInt - lo).toNat]? = some off) (ht : (pc : Int) + off = (tgt : Int)) (k : cv_J X G nL cells slots Qf tgt lv st σ F) : cv_J X G nL cells slots Qf pc lv (.int x :: st) σ F := by
  obtain ⟨p, l, e, R, s, m, args, below, meth, c⟩ := X
  intro ls H locs hl hP hS r hF
  exact lv_tableIn hC.1 hC.2.1 d h1 h2 ho ht (k ls H locs hl hP hS r hF)
theorem cv_tableOut (hC : cv_C X G l0 own cc nL ret rm) {dflt lo hi : Int} {offs : Array Int} {len : Nat} {x : Int32} {tgt : Nat} (d : decode cc pc = .ok (.tableswitch dflt lo hi offs, len)) (h1 : x.toInt < lo ∨ hi < x.toInt) (ht : (pc : Int) + dflt = (tgt : Int)) (k : cv_J X G nL cells slots Qf tgt lv st σ F) : cv_J X G nL cells slots Qf pc lv (.int x :: st) σ F := by
  obtain ⟨p, l, e, R, s, m, args, below, meth, c⟩ := X
  intro ls H locs hl hP hS r hF
  exact lv_tableOut hC.1 hC.2.1 d h1 ht (k ls H locs hl hP hS r hF)
end R07
