/-! THE CLAIM OUT OF ONE WALK OF THE LAW'S BODY. Your part is whole_start (and what it stands on); all else here is the same for every law, but numbers. -/
def R_law : String := "ConventionInferenceLaw"
def lw_P (b : Addr) (xs : List Int32) (args : Array Value) (s : State) : Prop := args = #[.ref b] ∧ s.IntsAt b xs ∧ xs.length ≤ 1536 ∧ (Jvm.Cond.and given_1 narrow_1).before args s = true
/-- what a walk over the start with the record d0 says of its end, said of the start itself -/
theorem lw_closed {s t : State} {o : Outcome} {d0 : Drawn} {L : List Loc} {k n : Nat} (hd0 : s.drawn.sameBut d0 lw_cs) (hv : ∃ v, o = .returned v) (hW : (s.setDrawn d0).WarmedH t.vm) (hs : (s.setDrawn d0).sameButNew ({ t with vm := s.vm } : State) L k n) : State.butDraws s t lw_cs (fun t1 => Framed s o t1 L k n) := by
  have h2 : t.drawn = d0 := congrArg State.drawn hs.1
  refine ⟨⟨hv, hW, State.sameButNew.setDrawn hs s.drawn⟩, ?_, by decide⟩
  rw [h2]
  exact hd0
def lw_Q (_ : Array Value) (s : State) (o : Outcome) (t : State) : Prop := o = .returned (some (.int 1)) ∧ State.butDraws s t lw_cs (fun t1 => Framed s o t1 [] 603072 7161962)
def lw_Z (below : List Frame) (a : Array Value) (s : State) : State → Prop := fun t => ∃ o, t.status = .running ∧ Ended t below o ∧ lw_Q a s o t
/-- the law's own end, with 1 on the stack, nothing written that was there before, its room as the claim has it; d0: the record of draws at this point (at the entry s.drawn: begin with 'refine W.base ?_' and 'have hd0 := Drawn.sameBut.refl s.drawn lw_cs') -/
theorem lw_ret {p : Program} {l : Launch} {e : Env} {s : State} {m : MethodId} {below : List Frame} {meth : Method} {c : Code} {b : Nat} {d0 : Drawn} (hd0 : s.drawn.sameBut d0 lw_cs) (hx : p.tables.exec = Jvm.exec) (hb : c.code = code) (hr : meth.sig.returnType = ret) (hlocks : meth.locks = false) {pc : Nat} {H : Heap} {ls : Array Slot} (hdg : decode code pc = .ok (.ireturn, 1)) : W p l e room_1 (s.setDrawn d0) m #[Value.ref b] below meth c H [] 603072 7161962 (lw_Z below #[Value.ref b] s) (F0 m pc ls [.int 1]) := by
  intro T hT X
  obtain ⟨fs, hret, hrun, hended, hW, hframe⟩ := X.leave (v := some (.int 1)) (hlocks := hlocks) (fun h => by rw [hr] at h; cases h)
  have hmeth' : T.vm.method? m = some meth := X.method'
  refine ⟨T.setFrames fs, ?_, .returned (some (.int 1)), hrun, hended, rfl, lw_closed hd0 ⟨_, rfl⟩ hW hframe⟩
  jvm_step X.here [X.here.top, hx, hb, hdg, hmeth', hr, ret, narrow_b1]
  (try refine ⟨rfl, ?_⟩); (try refine ⟨rfl, ?_⟩)
  first | (intro acts; rw [hret _ acts rfl rfl rfl]) | rw [hret _ _ rfl rfl rfl]
  exact Steps.refl _
/-- what holds at the law's entry: the machine, the code, the tables' words (any of lw_tbl by 'hts w (by decide +kernel)'), the script of L ints xs at the cell b, what the Statement gives of the start (any of its parts by flat_of_before) -/
def lw_At (p : Program) (s : State) (m : MethodId) (meth : Method) (c : Code) (b L : Nat) (xs : Nat → Int32) : Prop :=
  p.tables.exec = Jvm.exec ∧ c.code = code ∧ meth.sig.returnType = ret ∧ c.maxLocals = 9 ∧ s.vm.findClass R_law = some m.cls ∧ (∀ w ∈ lw_tbl, w.before #[Value.ref b] s = true) ∧ va_X b L xs s s.heap ∧ b < s.heap.size ∧ meth.locks = false ∧ (Jvm.Cond.and given_1 narrow_1).before #[Value.ref b] s = true

/-- in the law's own body: the script, the exceptions' world, where the cells lie -/
def cv_CL (X : cv_X) (G : cv_G) (b L : Nat) (xs : Nat → Int32) : Prop := match X with
  | (_, l, _, _, s, _, _, _, _, _) => cv_EXC G s.heap.size s ∧ l.stackTraces = false ∧ va_X b L xs s s.heap ∧ b < s.heap.size ∧ ∀ k, k < 68 → s.heap.size ≤ G.1 k
def cv_QL (X : cv_X) (b : Nat) : Int32 × cv_St → State → Prop := match X with
  | (_, _, _, _, s, _, _, below, _, _) => fun r => if r.1 = 1 then lw_Z below #[Value.ref b] s else fun _ => True
theorem cv_notA {G : cv_G} {sz b : Nat} (h : ∀ k, k < 68 → sz ≤ G.1 k) (hb : b < sz) : ¬ cv_A G sz b := fun q => q.elim (fun ⟨k, hk, e⟩ => absurd (h k hk) (by omega)) (fun q => by omega)
def cv_ldS {α : Type} (xs : Nat → Int32) (L : Nat) (i : Int32) (K : Int32 → Option α) : Option α := if i < 0 ∨ L ≤ i.toNatClampNeg then none else K (xs i.toNatClampNeg)
section R20
variable {X : cv_X} {G : cv_G} {l0 : Launch} {own : String} {cc : ByteArray} {nL : Nat} {ret : Option FieldType} {rm : Room} {cells slots mc ms : Nat} {α : Type} {Qf : α → State → Prop} {pc : Nat} {lv : List (Nat × Value)} {st : List Value} {σ : cv_St} {F : Option α} {hh : List (Nat × Nat × Nat × Nat)} {b L : Nat} {xs : Nat → Int32}
theorem cv_slen (hX : cv_CL X G b L xs) (hC : cv_C X G l0 own cc nL ret rm) (d : decode cc pc = .ok (.arraylength, 1)) (k : cv_J X G nL cells slots Qf (pc + 1) lv (.int (nI L) :: st) σ F) : cv_J X G nL cells slots Qf pc lv (.ref b :: st) σ F := by
  obtain ⟨p, l, e, R, s, m, args, below, meth, c⟩ := X
  intro ls H locs hl hP hS r hF
  obtain ⟨-, -, h1, h2, h3⟩ := hX
  exact va_slen hC.1 hC.2.1 h1 h2 (cv_notA h3 h2) hS d (k ls H locs hl hP hS r hF)
theorem cv_sld (hX : cv_CL X G b L xs) (hC : cv_C X G l0 own cc nL ret rm) {i : Int32} {K : Int32 → Option α} (d : decode cc pc = .ok (.iaload, 1)) (kk : ∀ v : Int32, cv_J X G nL cells slots Qf (pc + 1) lv (.int v :: st) σ (K v)) : cv_J X G nL cells slots Qf pc lv (.int i :: .ref b :: st) σ (cv_ldS xs L i K) := by
  obtain ⟨p, l, e, R, s, m, args, below, meth, c⟩ := X
  intro ls H locs hl hP hS r hF
  obtain ⟨-, -, h1, h2, h3⟩ := hX
  unfold cv_ldS at hF
  by_cases hc : i < 0 ∨ L ≤ i.toNatClampNeg
  · rw [if_pos hc] at hF; cases hF
  · rw [if_neg hc] at hF
    exact va_sld hC.1 hC.2.1 h1 h2 (cv_notA h3 h2) hS hc d (kk _ ls H locs hl hP hS r hF)
theorem cv_dstore (hC : cv_C X G l0 own cc nL ret rm) {i : Nat} {x : UInt64} {lv' : List (Nat × Value)} (d : decode cc pc = .ok (.dstore i, 2)) (hn : i + 1 < nL) (hq : (i, Value.double x) :: lv.filter (fun q => !(q.1 == i) && (!(q.1 == i + 1) && !(q.1 + 1 == i && q.2.category == 2))) = lv') (k : cv_J X G nL cells slots Qf (pc + 2) lv' st σ F) : cv_J X G nL cells slots Qf pc lv (.double x :: st) σ F := by
  obtain ⟨p, l, e, R, s, m, args, below, meth, c⟩ := X
  intro ls H locs hl hP hS r hF
  exact lv_dstore hC.1 hC.2.1 d hl hn hq (fun ls2 hl2 => k ls2 H locs hl2 hP hS r hF)
theorem cv_fstore (hC : cv_C X G l0 own cc nL ret rm) {i : Nat} {x : UInt32} {lv' : List (Nat × Value)} (d : decode cc pc = .ok (.fstore i, 2)) (hn : i < nL) (hq : (i, Value.float x) :: lv.filter (fun q => !(q.1 == i) && !(q.1 + 1 == i && q.2.category == 2)) = lv') (k : cv_J X G nL cells slots Qf (pc + 2) lv' st σ F) : cv_J X G nL cells slots Qf pc lv (.float x :: st) σ F := by
  obtain ⟨p, l, e, R, s, m, args, below, meth, c⟩ := X
  intro ls H locs hl hP hS r hF
  exact lv_fstore hC.1 hC.2.1 d hl hn hq (fun ls2 hl2 => k ls2 H locs hl2 hP hS r hF)
def cv_bd {α : Type} (A : Option (UInt64 × cv_St)) (K : UInt64 → cv_St → Option α) : Option α := A.bind (fun z => K z.1 z.2)
theorem cv_callVd (hC : cv_C X G l0 own cc nL ret rm) {y : MethodName} {bytes : ByteArray} {maxL fr lo index n ob : Nat} (As rest : List Value) {st0 : List Value} {Fc : Option (UInt64 × cv_St)} {K : UInt64 → cv_St → Option α} (hM : cv_MD l0 G y bytes maxL fr lo (.ref (G.1 ob) :: As) σ Fc)
    (hl0 : Cond.methodLink own index y ∈ cv_gw) (hw : cv_VM y bytes maxL (some .double) n) (ho : cv_ob G ob y.cls) (hn : As.length = n) (hst : st0 = As.reverse ++ .ref (G.1 ob) :: rest) (hs : (rest.map fun v => v.category).sum ≤ 8) (hR : fr + 1 ≤ rm.frames ∧ 8 + (maxL + 11) + lo ≤ rm.locals) (hcs : cells ≤ rm.cells ∧ slots ≤ rm.slots) (d : decode cc pc = .ok (.invokevirtual index, 3))
    (kk : ∀ (v : UInt64) (u : cv_St), cv_J X G nL cells slots Qf (pc + 3) lv (.double v :: rest) u (K v u)) : cv_J X G nL cells slots Qf pc lv st0 σ (cv_bd Fc K) := by
  obtain ⟨p, l, e, R, s, m, args, below, meth, c⟩ := X
  intro ls H locs hl hP hS r hF
  obtain ⟨hx, hb, hml, hown, hts, hr, hlk, hE, rfl, rfl⟩ := hC
  obtain ⟨w1, w2, w3, w4, w5, w6, w7⟩ := hw
  obtain ⟨T, N, ci, fs, o1, o2⟩ := ho
  unfold cv_bd at hF
  cases hFc : Fc with
  | none => rw [hFc] at hF; cases hF
  | some z =>
    rw [hFc] at hF
    refine va_calld (A0 := cv_A G s.heap.size) (H0 := s.heap) (va_runV (As := As) (rest := rest) (C := y.cls) ⟨hx, hb, hml, hown, hts⟩ (hM H.size z hFc) ⟨callB_of n hts (cv_good w4) rfl rfl rfl (hts _ w3) (hts _ hl0) ⟨w5, w6, w7⟩ hR, hts _ w1, hts _ w2⟩ ⟨cv_blind G H.size _ σ, va_recv hE.1 hP o1 (o2 σ), fun U hU hW => ⟨rfl, by rw [hU], by rw [hU]; exact hP, hE.warm hW⟩⟩ rfl hn hl.1 hst (lv_room hs) d hcs) hS (fun q _ h => cv_A_in hS q h) (cv_A_in hS) (fun v u t H1 locs1 ht hvm hw hB hz1 hk1 hS1 => ?_)
    subst hw
    rw [cv_B, ht] at hB
    exact kk v u ls H1 locs1 hl hB hS1 r hF
def cv_bf {α : Type} (A : Option (UInt32 × cv_St)) (K : UInt32 → cv_St → Option α) : Option α := A.bind (fun z => K z.1 z.2)
theorem cv_callVf (hC : cv_C X G l0 own cc nL ret rm) {y : MethodName} {bytes : ByteArray} {maxL fr lo index n ob : Nat} (As rest : List Value) {st0 : List Value} {Fc : Option (UInt32 × cv_St)} {K : UInt32 → cv_St → Option α} (hM : cv_MS l0 G y bytes maxL fr lo (.ref (G.1 ob) :: As) σ Fc)
    (hl0 : Cond.methodLink own index y ∈ cv_gw) (hw : cv_VM y bytes maxL (some .float) n) (ho : cv_ob G ob y.cls) (hn : As.length = n) (hst : st0 = As.reverse ++ .ref (G.1 ob) :: rest) (hs : (rest.map fun v => v.category).sum ≤ 8) (hR : fr + 1 ≤ rm.frames ∧ 8 + (maxL + 11) + lo ≤ rm.locals) (hcs : cells ≤ rm.cells ∧ slots ≤ rm.slots) (d : decode cc pc = .ok (.invokevirtual index, 3))
    (kk : ∀ (v : UInt32) (u : cv_St), cv_J X G nL cells slots Qf (pc + 3) lv (.float v :: rest) u (K v u)) : cv_J X G nL cells slots Qf pc lv st0 σ (cv_bf Fc K) := by
  obtain ⟨p, l, e, R, s, m, args, below, meth, c⟩ := X
  intro ls H locs hl hP hS r hF
  obtain ⟨hx, hb, hml, hown, hts, hr, hlk, hE, rfl, rfl⟩ := hC
  obtain ⟨w1, w2, w3, w4, w5, w6, w7⟩ := hw
  obtain ⟨T, N, ci, fs, o1, o2⟩ := ho
  unfold cv_bf at hF
  cases hFc : Fc with
  | none => rw [hFc] at hF; cases hF
  | some z =>
    rw [hFc] at hF
    refine va_callf (A0 := cv_A G s.heap.size) (H0 := s.heap) (va_runV (As := As) (rest := rest) (C := y.cls) ⟨hx, hb, hml, hown, hts⟩ (hM H.size z hFc) ⟨callB_of n hts (cv_good w4) rfl rfl rfl (hts _ w3) (hts _ hl0) ⟨w5, w6, w7⟩ hR, hts _ w1, hts _ w2⟩ ⟨cv_blind G H.size _ σ, va_recv hE.1 hP o1 (o2 σ), fun U hU hW => ⟨rfl, by rw [hU], by rw [hU]; exact hP, hE.warm hW⟩⟩ rfl hn hl.1 hst (lv_room hs) d hcs) hS (fun q _ h => cv_A_in hS q h) (cv_A_in hS) (fun v u t H1 locs1 ht hvm hw hB hz1 hk1 hS1 => ?_)
    subst hw
    rw [cv_B, ht] at hB
    exact kk v u ls H1 locs1 hl hB hS1 r hF
def cv_SH (y : MethodName) (bytes : ByteArray) (maxL : Nat) (hh : List (Nat × Nat × Nat × Nat)) (n : Nat) : Prop := Cond.static y ∈ cv_gw ∧ Cond.initialized y.cls ∈ cv_gw ∧ Cond.codeWith y bytes maxL (some .int) hh ∈ cv_gw ∧ y.cls ≠ "java/lang/invoke/MethodHandle" ∧ y.cls ≠ "java/lang/invoke/VarHandle" ∧ (parseMethodDescriptor y.desc).map (fun d => d.parameters.length) = some n
theorem cv_goodH {y : MethodName} {bytes : ByteArray} {maxL : Nat} {rt : Option FieldType} {hh : List (Nat × Nat × Nat × Nat)} (h : Cond.codeWith y bytes maxL rt hh ∈ cv_gw) : GoodIn cv_gw (Cond.codeWith y bytes maxL rt hh :: cv_gw) := fun w hw => by
  have h1 : w ∈ cv_gw := (List.mem_cons.mp hw).elim (fun e => e ▸ h) id
  exact ⟨h1, good_of_word (cv_gw_good h1)⟩
/-- a wrapper's call -/
theorem cv_callLi (hX : cv_CL X G b L xs) (hC : cv_C X G l0 own cc nL ret rm) {y : MethodName} {bytes : ByteArray} {maxL fr lo kc ks index n : Nat} (As rest : List Value) {st0 : List Value} {Fc : Option (Int32 × cv_St)} {K : Int32 → cv_St → Option α} (hM : cv_MH l0 G y bytes maxL hh fr lo kc ks As σ Fc)
    (hl0 : Cond.methodLink own index y ∈ cv_gw) (hw : cv_SH y bytes maxL hh n) (hn : As.length = n) (hst : st0 = As.reverse ++ rest) (hs : (rest.map fun v => v.category).sum ≤ 8) (hR : fr + 1 ≤ rm.frames ∧ 8 + (maxL + 11) + lo ≤ rm.locals) (hcs : cells + kc ≤ rm.cells ∧ slots + ks ≤ rm.slots) (d : decode cc pc = .ok (.invokestatic index, 3))
    (kk : ∀ (v : Int32) (u : cv_St), cv_J X G nL (cells + kc) (slots + ks) Qf (pc + 3) lv (.int v :: rest) u (K v u)) : cv_J X G nL cells slots Qf pc lv st0 σ (cv_bi Fc K) := by
  obtain ⟨p, l, e, R, s, m, args, below, meth, c⟩ := X
  intro ls H locs hl hP hS r hF
  obtain ⟨hx, hb, hml, hown, hts, hr, hlk, hE, rfl, rfl⟩ := hC
  obtain ⟨w1, w3, w4, w5, w6, w7⟩ := hw
  obtain ⟨hEX, -, -, -, -⟩ := hX
  unfold cv_bi at hF
  cases hFc : Fc with
  | none => rw [hFc] at hF; cases hF
  | some z =>
    rw [hFc] at hF
    refine va_calli (A0 := cv_A G s.heap.size) (H0 := s.heap) (vx_runSW (As := As) (rest := rest) (hh := hh) ⟨hx, hb, hml, hown, hts⟩ (hM H.size z hFc) ⟨⟨rfl, rfl, hR.1, hR.2, pay_in hts (cv_goodH w4), List.mem_cons_self⟩, hts _ w4, hts _ w3, ⟨w5, w6⟩, fun sig h => by rw [h] at w7; exact (Option.some.inj w7).symm, hts _ hl0, hts _ w1⟩ ⟨cv_blindX G H.size _ σ, fun U hU hW => ⟨rfl, by rw [hU], by rw [hU]; exact hP, hE.warm hW, hEX.next hS hU hW⟩⟩ rfl hn hl.1 hst (lv_room hs) d hcs) hS (fun q _ h => cv_A_in hS q h) (cv_A_in hS) (fun v u t H1 locs1 ht hvm hw hB hz1 hk1 hS1 => ?_)
    subst hw
    rw [cv_B, ht] at hB
    exact kk v u ls H1 locs1 hl hB hS1 r hF
theorem cv_tabdef {x : Int32} (h : ∀ k : Nat, k < 37 → ¬ x = nI k) : x.toInt < 0 ∨ 36 < x.toInt := by
  by_cases h0 : x.toInt < 0
  · exact Or.inl h0
  · refine Or.inr (Int.not_le.mp fun h1 => ?_)
    obtain ⟨j, hj, rfl⟩ := nI_of (x := x) (by intro h2; have h3 := Int32.lt_iff_toInt_lt.mp h2; exact h0 h3)
    rw [nI_toInt hj] at h1
    exact h j (by omega) rfl
theorem cv_lret0 {v : Int32} (hv : ¬ v = 1) : cv_J X G nL cells slots (cv_QL X b) pc lv st σ (some (v, σ)) := by
  obtain ⟨p, l, e, R, s, m, args, below, meth, c⟩ := X
  intro ls H locs hl hP hS r hF
  cases Option.some.inj hF
  intro T hT X
  refine ⟨_, Steps.refl _, ?_⟩
  show (if v = 1 then lw_Z below #[Value.ref b] s else fun _ => True) _
  rw [if_neg hv]
  trivial
end R20
theorem cv_lret1 {p : Program} {l : Launch} {e : Env} {s : State} {m : MethodId} {below : List Frame} {meth : Method} {c : Code} {G : cv_G} {l0 : Launch} {b L : Nat} {xs : Nat → Int32} {cells slots pc : Nat} {lv : List (Nat × Value)} {σ : cv_St} (hX : cv_CL (p, l, e, room_1, s, m, #[Value.ref b], below, meth, c) G b L xs) (hC : cv_C (p, l, e, room_1, s, m, #[Value.ref b], below, meth, c) G l0 RL cL_law 9 (some .boolean) room_1) (h1 : cells ≤ 603072) (h2 : slots ≤ 7161962) (d : decode cL_law pc = .ok (.ireturn, 1)) : cv_J (p, l, e, room_1, s, m, #[Value.ref b], below, meth, c) G 9 cells slots (cv_QL (p, l, e, room_1, s, m, #[Value.ref b], below, meth, c) b) pc lv [.int 1] σ (some (1, σ)) := by
  intro ls H locs hl hP hS r hF
  cases Option.some.inj hF
  obtain ⟨hx, hb, hml, hown, hts, hr, hlk, hE, hrm, rfl⟩ := hC
  obtain ⟨-, -, -, -, hg⟩ := hX
  refine va_forget (fun q hq => (hS.2.2 q hq).elim (fun ⟨k, hk, e⟩ => e ▸ hg k hk) id) ?_
  refine W.widen (k := 603072) (n := 7161962) h1 h2 ?_
  exact lw_ret (d0 := s.drawn) (Drawn.sameBut.refl s.drawn lw_cs) hx hb hr hlk d
theorem cv_rmc {k : Nat} (h : k ≤ 603072) : k ≤ room_1.cells := h
theorem cv_rms {k : Nat} (h : k ≤ 7161962) : k ≤ room_1.slots := h
