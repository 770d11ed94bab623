/-- the wrappers of the law: methods with handlers that themselves throw nothing -/
def cv_CH (X : cv_X) (G : cv_G) (hh : List (Nat × Nat × Nat × Nat)) : Prop := match X with
  | (_, l, _, _, s, _, _, _, _, c) => cv_EXC G s.heap.size s ∧ l.stackTraces = false ∧ c.exceptionTable.toList = tableOf hh
def cv_QH (X : cv_X) (G : cv_G) (mc ms : Nat) : Int32 × cv_St → State → Prop := match X with
  | (_, _, _, _, s, _, args, below, _, _) => fun r => MQ below (va_Qi (fun v u => (v, u) = r) (cv_B G) (cv_A G s.heap.size)) args s mc ms (cv_A G s.heap.size)
def cv_MH (l : Launch) (G : cv_G) (y : MethodName) (cc : ByteArray) (maxL : Nat) (hh : List (Nat × Nat × Nat × Nat)) (fr lo mc ms : Nat) (av : List Value) (σ : cv_St) (F : Option (Int32 × cv_St)) : Prop :=
  ∀ (sz : Nat) (r : Int32 × cv_St), F = some r → Met l y (Cond.codeWith y cc maxL (some .int) hh :: cv_gw) { frames := fr, cells := mc, slots := ms, locals := lo } (cv_PcX G sz av σ) (va_Qi (fun v u => (v, u) = r) (cv_B G) (cv_A G sz)) mc ms (cv_A G sz)
theorem cv_mkH {l : Launch} (htr : l.stackTraces = false) {G : cv_G} {y : MethodName} {cc : ByteArray} {maxL : Nat} {hh : List (Nat × Nat × Nat × Nat)} {fr lo mc ms : Nat} {av : List Value} {σ : cv_St} {F : Option (Int32 × cv_St)} (hy : plainName y.cls = true) (hlen : (lg_sl av).length ≤ maxL)
    (body : ∀ X : cv_X, cv_CH X G hh → cv_C X G l y.cls cc maxL (some .int) { frames := fr, cells := mc, slots := ms, locals := lo } → cv_J X G maxL 0 0 (cv_QH X G mc ms) 0 (lv_args 0 av) [] σ F) : cv_MH l G y cc maxL hh fr lo mc ms av σ F := by
  intro sz r hF
  refine va_MetW (cc := cc) (maxL := maxL) (ret := (some .int)) (hh := hh) hy rfl ?_
  intro p e s m args below meth c s₁ B hml hv
  obtain ⟨rfl, hsz, hP, hE, hEX⟩ := hv
  subst hsz
  have hts := atoms_spec (ws := Cond.codeWith y cc maxL (some .int) hh :: cv_gw) B.pre
  have hown : s.vm.findClass y.cls = some m.cls := findClass_of_methodNamed B.named
  have htb := vx_table (x := y) B (hts _ List.mem_cons_self)
  have hl := lv_entry av (n := maxL) hlen
  rw [lg_entry_eq]
  exact body (p, l, e, _, s, m, av.toArray, below, meth, c) ⟨hEX, htr, htb⟩ ⟨B.exec, B.bytes, hml, hown, fun w h => hts w (List.mem_cons_of_mem _ h), B.returns, B.notSynchronized, hE, rfl, rfl⟩ _ s.heap [] hl hP va_S.rf r hF
/-- a handler: which row of the table takes this exception at pc, and that it answers kv -/
def cv_HND (cc : ByteArray) (nL : Nat) (hh : List (Nat × Nat × Nat × Nat)) (pc code : Nat) (kv : Int32) : Prop :=
  ∃ (pre : List ExceptionTableEntry) (x : ExceptionTableEntry) (suf : List ExceptionTableEntry), tableOf hh = pre ++ x :: suf ∧ (∀ z ∈ pre, z.catchType ≠ 0 ∧ ∃ nm : String, Cond.classLink RL z.catchType nm ∈ cv_gw ∧ (cv_exn code, nm) ∈ cv_ncs) ∧ covers x pc = true ∧ x.catchType ≠ 0 ∧ Cond.classLink RL x.catchType (cv_exn code) ∈ cv_gw ∧ cv_exn code ∈ cv_exs ∧
  ∃ (k sl : Nat) (n : Int), ((∃ q : Fin 4, decode cc x.handlerPc = .ok (.astore_n q, 1) ∧ (q : Nat) = sl ∧ k = 1) ∨ (decode cc x.handlerPc = .ok (.astore sl, 2) ∧ k = 2)) ∧ sl < nL ∧ decode cc (x.handlerPc + k) = .ok (.iconst n, 1) ∧ Int32.ofInt n = kv ∧ decode cc (x.handlerPc + k + 1) = .ok (.ireturn, 1)
section R19
variable {X : cv_X} {G : cv_G} {l0 : Launch} {own : String} {cc : ByteArray} {nL : Nat} {ret : Option FieldType} {rm : Room} {cells slots mc ms : Nat} {α : Type} {Qf : α → State → Prop} {pc : Nat} {lv : List (Nat × Value)} {st : List Value} {σ : cv_St} {F : Option α} {hh : List (Nat × Nat × Nat × Nat)}
theorem cv_hiret (hC : cv_C X G l0 own cc nL (some .int) rm) {v : Int32} (hc : cells ≤ mc ∧ slots ≤ ms) (d : decode cc pc = .ok (.ireturn, 1)) : cv_J X G nL cells slots (cv_QH X G mc ms) pc lv [.int v] σ (some (v, σ)) := by
  obtain ⟨p, l, e, R, s, m, args, below, meth, c⟩ := X
  intro ls H locs hl hP hS r hF
  obtain ⟨hx, hb, hml, hown, hts, hr, hlk, hE, rfl, rfl⟩ := hC
  exact W.widen (k := mc) (n := ms) hc.1 hc.2 (W.iret (v := v) hx hb hr (fun t ht hW => ⟨⟨v, σ, rfl, Option.some.inj hF, by rw [cv_B, ht]; exact hP⟩, hS.F ht⟩) hS.2.2 d)
theorem cv_hand {p : Program} {l : Launch} {e : Env} {R : Room} {s : State} {m : MethodId} {args : Array Value} {below : List Frame} {meth : Method} {c : Code} (hX : cv_CH (p, l, e, R, s, m, args, below, meth, c) G hh) (hC : cv_C (p, l, e, R, s, m, args, below, meth, c) G l0 RL cc nL (some .int) rm) {code : Nat} {kv : Int32} (hn : cv_HND cc nL hh pc code kv) (hc : cells ≤ mc ∧ slots ≤ ms) {ls : Array Slot} {H : Heap} {locs : List Loc} {rest : List Value} (hl : lv_has ls nL lv) (hP : va_P G.2.1 cv_cl (cv_w G σ) H) (hS : va_S (cv_A G s.heap.size) s.heap H locs) {q : Addr} {ce : Cell} (hce : H[q]? = some ce) (hcv : ce.vm = .none) (hcl : s.vm.findClass (cv_exn code) = some ce.cls) :
    vx_W p l e R s m args below meth c H locs cells slots (cv_QH (p, l, e, R, s, m, args, below, meth, c) G mc ms (kv, σ)) (F0 m pc ls rest) q := by
  obtain ⟨hx, hb, hml, hown, hts, hr, hlk, hE, rfl, rfl⟩ := hC
  obtain ⟨hEX, htr, htb⟩ := hX
  obtain ⟨pre, x, suf, h1, h2, h3, h4, h5, h6, k, sl, n, h7, h8, h9, ha, hb2⟩ := hn
  refine vx_catch hown pre x suf (htb.trans h1) (fun z hz => ?_) h3 h4 (hts _ h5) (va_Nw.use rfl (hEX.2.1 _ h6)) hce hcv hcl ?_
  · obtain ⟨g1, nm, g2, g3⟩ := h2 z hz
    exact Or.inr ⟨g1, nm, hts _ g2, hEX.2.2.1 _ g3⟩
  · have fin : ∀ ls2 : Array Slot, W p l e R s m args below meth c H locs cells slots (cv_QH (p, l, e, R, s, m, args, below, meth, c) G mc ms (kv, σ)) (F0 m (x.handlerPc + k) ls2 []) := fun ls2 =>
      lv_iconst hx hb h9 ha (W.widen (k := mc) (n := ms) hc.1 hc.2 (W.iret (v := kv) hx hb hr (fun t ht hW => ⟨⟨kv, σ, rfl, rfl, by rw [cv_B, ht]; exact hP⟩, hS.F ht⟩) hS.2.2 hb2))
    rcases h7 with ⟨qn, g1, g2, rfl⟩ | ⟨g1, rfl⟩
    · exact lv_astore_n hx hb g1 g2 hl h8 rfl (fun ls2 _ => fin ls2)
    · exact lv_astore hx hb g1 hl h8 rfl (fun ls2 _ => fin ls2)
def cv_bh {β : Type} (h : Nat → Option Int32) (A : Option (Nat × β × cv_St)) (K : β → cv_St → Option (Int32 × cv_St)) : Option (Int32 × cv_St) := A.bind (fun z => if z.1 = 0 then K z.2.1 z.2.2 else (h z.1).bind (fun kv => some (kv, z.2.2)))
theorem cv_callHI (hX : cv_CH X G hh) (hC : cv_C X G l0 RL cc nL (some .int) rm) {y : MethodName} {bytes : ByteArray} {maxL fr lo kc ks index n ob : Nat} {rt : Option FieldType} (As rest : List Value) {st0 : List Value} {h : Nat → Option Int32} {Fc : Option (Nat × Int32 × cv_St)} {K : Int32 → cv_St → Option (Int32 × cv_St)} (hM : cv_MXI l0 G y bytes maxL rt fr lo kc ks (.ref (G.1 ob) :: As) σ Fc)
    (hl0 : Cond.methodLink RL index y ∈ cv_gw) (hw : cv_VM y bytes maxL rt n) (ho : cv_ob G ob y.cls) (hn : As.length = n) (hst : st0 = As.reverse ++ .ref (G.1 ob) :: rest) (hs : (rest.map fun v => v.category).sum ≤ 8) (hR : fr + 1 ≤ rm.frames ∧ 8 + (maxL + 11) + lo ≤ rm.locals) (hcs : cells + kc ≤ rm.cells ∧ slots + ks ≤ rm.slots) (hc : cells + kc ≤ mc ∧ slots + ks ≤ ms) (d : decode cc pc = .ok (.invokevirtual index, 3)) (hhd : ∀ code kv, h code = some kv → cv_HND cc nL hh pc code kv)
    (kk : ∀ (v : Int32) (u : cv_St), cv_J X G nL (cells + kc) (slots + ks) (cv_QH X G mc ms) (pc + 3) lv (.int v :: rest) u (K v u)) : cv_J X G nL cells slots (cv_QH X G mc ms) pc lv st0 σ (cv_bh h Fc K) := by
  obtain ⟨p, l, e, R, s, m, args, below, meth, c⟩ := X
  intro ls H locs hl hP hS r hF
  have hC0 := hC
  obtain ⟨hx, hb, hml, hown, hts, hr, hlk, hE, rfl, rfl⟩ := hC
  obtain ⟨w1, w2, w3, w4, w5, w6, w7⟩ := hw
  obtain ⟨T, N, ci, fs, o1, o2⟩ := ho
  unfold cv_bh at hF
  cases hFc : Fc with
  | none => rw [hFc] at hF; cases hF
  | some z =>
    rw [hFc] at hF
    replace hF : (if z.1 = 0 then K z.2.1 z.2.2 else (h z.1).bind (fun kv => some (kv, z.2.2))) = some r := hF
    refine vx_calli (A0 := cv_A G s.heap.size) (H0 := s.heap) (AX := cv_A G H.size) (px := fun u : cv_St => u = z.2.2 ∧ ¬ z.1 = 0) (BX := fun E u t => E = cv_exn z.1 ∧ va_P G.2.1 cv_cl (cv_w G u) t.heap) (vx_runV (As := As) (rest := rest) (C := y.cls) ⟨hx, hb, hml, hown, hts⟩ (hM H.size z hFc) ⟨callB_of n hts (cv_good w4) rfl rfl rfl (hts _ w3) (hts _ hl0) ⟨w5, w6, w7⟩ hR, hts _ w1, hts _ w2⟩ ⟨cv_blindX G H.size _ σ, va_recv hE.1 hP o1 (o2 σ), fun U hU hW => ⟨rfl, by rw [hU], by rw [hU]; exact hP, hE.warm hW, hX.1.next hS hU hW⟩⟩ rfl hn hl.1 hst (lv_room hs) d hcs) hS (fun q _ h => cv_A_in hS q h) (cv_A_in hS) (fun q _ h => cv_A_in hS q h) (fun E ce q9 u t H1 locs1 ht hvm hpx hBX hz1 hk1 hS1 hce hcv hcl => ?_) (fun v u t H1 locs1 ht hvm hw hB hz1 hk1 hS1 => ?_)
    · obtain ⟨rfl, hz⟩ := hpx
      rw [if_neg hz] at hF
      obtain ⟨rfl, hBX⟩ := hBX
      rw [ht] at hBX
      cases hk : h z.1 with
      | none => rw [hk] at hF; cases hF
      | some kv =>
        rw [hk] at hF
        cases Option.some.inj hF
        exact cv_hand hX hC0 (hhd _ _ hk) hc hl hBX hS1 hce hcv hcl
    · subst hw
      rw [if_pos rfl] at hF
      rw [cv_B, ht] at hB
      exact kk v u ls H1 locs1 hl hB hS1 r hF
theorem cv_callHV (hX : cv_CH X G hh) (hC : cv_C X G l0 RL cc nL (some .int) rm) {y : MethodName} {bytes : ByteArray} {maxL fr lo kc ks index n ob : Nat} (As rest : List Value) {st0 : List Value} {h : Nat → Option Int32} {Fc : Option (Nat × Int32 × cv_St)} {K : Int32 → cv_St → Option (Int32 × cv_St)} (hM : cv_MXV l0 G y bytes maxL fr lo kc ks (.ref (G.1 ob) :: As) σ Fc)
    (hl0 : Cond.methodLink RL index y ∈ cv_gw) (hw : cv_VM y bytes maxL none n) (ho : cv_ob G ob y.cls) (hn : As.length = n) (hst : st0 = As.reverse ++ .ref (G.1 ob) :: rest) (hs : (rest.map fun v => v.category).sum ≤ 8) (hR : fr + 1 ≤ rm.frames ∧ 8 + (maxL + 11) + lo ≤ rm.locals) (hcs : cells + kc ≤ rm.cells ∧ slots + ks ≤ rm.slots) (hc : cells + kc ≤ mc ∧ slots + ks ≤ ms) (d : decode cc pc = .ok (.invokevirtual index, 3)) (hhd : ∀ code kv, h code = some kv → cv_HND cc nL hh pc code kv)
    (kk : ∀ (u : cv_St), cv_J X G nL (cells + kc) (slots + ks) (cv_QH X G mc ms) (pc + 3) lv rest u (K 0 u)) : cv_J X G nL cells slots (cv_QH X G mc ms) pc lv st0 σ (cv_bh h Fc K) := by
  obtain ⟨p, l, e, R, s, m, args, below, meth, c⟩ := X
  intro ls H locs hl hP hS r hF
  have hC0 := hC
  obtain ⟨hx, hb, hml, hown, hts, hr, hlk, hE, rfl, rfl⟩ := hC
  obtain ⟨w1, w2, w3, w4, w5, w6, w7⟩ := hw
  obtain ⟨T, N, ci, fs, o1, o2⟩ := ho
  unfold cv_bh at hF
  cases hFc : Fc with
  | none => rw [hFc] at hF; cases hF
  | some z =>
    rw [hFc] at hF
    replace hF : (if z.1 = 0 then K z.2.1 z.2.2 else (h z.1).bind (fun kv => some (kv, z.2.2))) = some r := hF
    refine vx_callv (A0 := cv_A G s.heap.size) (H0 := s.heap) (AX := cv_A G H.size) (px := fun u : cv_St => u = z.2.2 ∧ ¬ z.1 = 0) (BX := fun E u t => E = cv_exn z.1 ∧ va_P G.2.1 cv_cl (cv_w G u) t.heap) (vx_runV (As := As) (rest := rest) (C := y.cls) ⟨hx, hb, hml, hown, hts⟩ (hM H.size z hFc) ⟨callB_of n hts (cv_good w4) rfl rfl rfl (hts _ w3) (hts _ hl0) ⟨w5, w6, w7⟩ hR, hts _ w1, hts _ w2⟩ ⟨cv_blindX G H.size _ σ, va_recv hE.1 hP o1 (o2 σ), fun U hU hW => ⟨rfl, by rw [hU], by rw [hU]; exact hP, hE.warm hW, hX.1.next hS hU hW⟩⟩ rfl hn hl.1 hst (lv_room hs) d hcs) hS (fun q _ h => cv_A_in hS q h) (cv_A_in hS) (fun q _ h => cv_A_in hS q h) (fun E ce q9 u t H1 locs1 ht hvm hpx hBX hz1 hk1 hS1 hce hcv hcl => ?_) (fun u t H1 locs1 ht hvm hw hB hz1 hk1 hS1 => ?_)
    · obtain ⟨rfl, hz⟩ := hpx
      rw [if_neg hz] at hF
      obtain ⟨rfl, hBX⟩ := hBX
      rw [ht] at hBX
      cases hk : h z.1 with
      | none => rw [hk] at hF; cases hF
      | some kv =>
        rw [hk] at hF
        cases Option.some.inj hF
        exact cv_hand hX hC0 (hhd _ _ hk) hc hl hBX hS1 hce hcv hcl
    · subst hw
      rw [if_pos rfl] at hF
      rw [cv_B, ht] at hB
      exact kk u ls H1 locs1 hl hB hS1 r hF
theorem cv_callHD (hX : cv_CH X G hh) (hC : cv_C X G l0 RL cc nL (some .int) rm) {y : MethodName} {bytes : ByteArray} {maxL fr lo kc ks index n ob : Nat} (As rest : List Value) {st0 : List Value} {h : Nat → Option Int32} {Fc : Option (Nat × UInt64 × cv_St)} {K : UInt64 → cv_St → Option (Int32 × cv_St)} (hM : cv_MXD l0 G y bytes maxL fr lo kc ks (.ref (G.1 ob) :: As) σ Fc)
    (hl0 : Cond.methodLink RL index y ∈ cv_gw) (hw : cv_VM y bytes maxL (some .double) n) (ho : cv_ob G ob y.cls) (hn : As.length = n) (hst : st0 = As.reverse ++ .ref (G.1 ob) :: rest) (hs : (rest.map fun v => v.category).sum ≤ 8) (hR : fr + 1 ≤ rm.frames ∧ 8 + (maxL + 11) + lo ≤ rm.locals) (hcs : cells + kc ≤ rm.cells ∧ slots + ks ≤ rm.slots) (hc : cells + kc ≤ mc ∧ slots + ks ≤ ms) (d : decode cc pc = .ok (.invokevirtual index, 3)) (hhd : ∀ code kv, h code = some kv → cv_HND cc nL hh pc code kv)
    (kk : ∀ (v : UInt64) (u : cv_St), cv_J X G nL (cells + kc) (slots + ks) (cv_QH X G mc ms) (pc + 3) lv (.double v :: rest) u (K v u)) : cv_J X G nL cells slots (cv_QH X G mc ms) pc lv st0 σ (cv_bh h Fc K) := by
  obtain ⟨p, l, e, R, s, m, args, below, meth, c⟩ := X
  intro ls H locs hl hP hS r hF
  have hC0 := hC
  obtain ⟨hx, hb, hml, hown, hts, hr, hlk, hE, rfl, rfl⟩ := hC
  obtain ⟨w1, w2, w3, w4, w5, w6, w7⟩ := hw
  obtain ⟨T, N, ci, fs, o1, o2⟩ := ho
  unfold cv_bh at hF
  cases hFc : Fc with
  | none => rw [hFc] at hF; cases hF
  | some z =>
    rw [hFc] at hF
    replace hF : (if z.1 = 0 then K z.2.1 z.2.2 else (h z.1).bind (fun kv => some (kv, z.2.2))) = some r := hF
    refine vx_calld (A0 := cv_A G s.heap.size) (H0 := s.heap) (AX := cv_A G H.size) (px := fun u : cv_St => u = z.2.2 ∧ ¬ z.1 = 0) (BX := fun E u t => E = cv_exn z.1 ∧ va_P G.2.1 cv_cl (cv_w G u) t.heap) (vx_runV (As := As) (rest := rest) (C := y.cls) ⟨hx, hb, hml, hown, hts⟩ (hM H.size z hFc) ⟨callB_of n hts (cv_good w4) rfl rfl rfl (hts _ w3) (hts _ hl0) ⟨w5, w6, w7⟩ hR, hts _ w1, hts _ w2⟩ ⟨cv_blindX G H.size _ σ, va_recv hE.1 hP o1 (o2 σ), fun U hU hW => ⟨rfl, by rw [hU], by rw [hU]; exact hP, hE.warm hW, hX.1.next hS hU hW⟩⟩ rfl hn hl.1 hst (lv_room hs) d hcs) hS (fun q _ h => cv_A_in hS q h) (cv_A_in hS) (fun q _ h => cv_A_in hS q h) (fun E ce q9 u t H1 locs1 ht hvm hpx hBX hz1 hk1 hS1 hce hcv hcl => ?_) (fun v u t H1 locs1 ht hvm hw hB hz1 hk1 hS1 => ?_)
    · obtain ⟨rfl, hz⟩ := hpx
      rw [if_neg hz] at hF
      obtain ⟨rfl, hBX⟩ := hBX
      rw [ht] at hBX
      cases hk : h z.1 with
      | none => rw [hk] at hF; cases hF
      | some kv =>
        rw [hk] at hF
        cases Option.some.inj hF
        exact cv_hand hX hC0 (hhd _ _ hk) hc hl hBX hS1 hce hcv hcl
    · subst hw
      rw [if_pos rfl] at hF
      rw [cv_B, ht] at hB
      exact kk v u ls H1 locs1 hl hB hS1 r hF
theorem cv_callHS (hX : cv_CH X G hh) (hC : cv_C X G l0 RL cc nL (some .int) rm) {y : MethodName} {bytes : ByteArray} {maxL fr lo kc ks index n ob : Nat} (As rest : List Value) {st0 : List Value} {h : Nat → Option Int32} {Fc : Option (Nat × UInt32 × cv_St)} {K : UInt32 → cv_St → Option (Int32 × cv_St)} (hM : cv_MXS l0 G y bytes maxL fr lo kc ks (.ref (G.1 ob) :: As) σ Fc)
    (hl0 : Cond.methodLink RL index y ∈ cv_gw) (hw : cv_VM y bytes maxL (some .float) n) (ho : cv_ob G ob y.cls) (hn : As.length = n) (hst : st0 = As.reverse ++ .ref (G.1 ob) :: rest) (hs : (rest.map fun v => v.category).sum ≤ 8) (hR : fr + 1 ≤ rm.frames ∧ 8 + (maxL + 11) + lo ≤ rm.locals) (hcs : cells + kc ≤ rm.cells ∧ slots + ks ≤ rm.slots) (hc : cells + kc ≤ mc ∧ slots + ks ≤ ms) (d : decode cc pc = .ok (.invokevirtual index, 3)) (hhd : ∀ code kv, h code = some kv → cv_HND cc nL hh pc code kv)
    (kk : ∀ (v : UInt32) (u : cv_St), cv_J X G nL (cells + kc) (slots + ks) (cv_QH X G mc ms) (pc + 3) lv (.float v :: rest) u (K v u)) : cv_J X G nL cells slots (cv_QH X G mc ms) pc lv st0 σ (cv_bh h Fc K) := by
  obtain ⟨p, l, e, R, s, m, args, below, meth, c⟩ := X
  intro ls H locs hl hP hS r hF
  have hC0 := hC
  obtain ⟨hx, hb, hml, hown, hts, hr, hlk, hE, rfl, rfl⟩ := hC
  obtain ⟨w1, w2, w3, w4, w5, w6, w7⟩ := hw
  obtain ⟨T, N, ci, fs, o1, o2⟩ := ho
  unfold cv_bh at hF
  cases hFc : Fc with
  | none => rw [hFc] at hF; cases hF
  | some z =>
    rw [hFc] at hF
    replace hF : (if z.1 = 0 then K z.2.1 z.2.2 else (h z.1).bind (fun kv => some (kv, z.2.2))) = some r := hF
    refine vx_callf (A0 := cv_A G s.heap.size) (H0 := s.heap) (AX := cv_A G H.size) (px := fun u : cv_St => u = z.2.2 ∧ ¬ z.1 = 0) (BX := fun E u t => E = cv_exn z.1 ∧ va_P G.2.1 cv_cl (cv_w G u) t.heap) (vx_runV (As := As) (rest := rest) (C := y.cls) ⟨hx, hb, hml, hown, hts⟩ (hM H.size z hFc) ⟨callB_of n hts (cv_good w4) rfl rfl rfl (hts _ w3) (hts _ hl0) ⟨w5, w6, w7⟩ hR, hts _ w1, hts _ w2⟩ ⟨cv_blindX G H.size _ σ, va_recv hE.1 hP o1 (o2 σ), fun U hU hW => ⟨rfl, by rw [hU], by rw [hU]; exact hP, hE.warm hW, hX.1.next hS hU hW⟩⟩ rfl hn hl.1 hst (lv_room hs) d hcs) hS (fun q _ h => cv_A_in hS q h) (cv_A_in hS) (fun q _ h => cv_A_in hS q h) (fun E ce q9 u t H1 locs1 ht hvm hpx hBX hz1 hk1 hS1 hce hcv hcl => ?_) (fun v u t H1 locs1 ht hvm hw hB hz1 hk1 hS1 => ?_)
    · obtain ⟨rfl, hz⟩ := hpx
      rw [if_neg hz] at hF
      obtain ⟨rfl, hBX⟩ := hBX
      rw [ht] at hBX
      cases hk : h z.1 with
      | none => rw [hk] at hF; cases hF
      | some kv =>
        rw [hk] at hF
        cases Option.some.inj hF
        exact cv_hand hX hC0 (hhd _ _ hk) hc hl hBX hS1 hce hcv hcl
    · subst hw
      rw [if_pos rfl] at hF
      rw [cv_B, ht] at hB
      exact kk v u ls H1 locs1 hl hB hS1 r hF
def cv_stL {α : Type} (σ : cv_St) (i : Int32) (v : Int64) (K : cv_St → Option α) : Option α := if i < 0 ∨ 1 ≤ i.toNatClampNeg then none else K (cv_sL σ (vp_updL σ.2.2.1 i.toNatClampNeg v))
def cv_stD {α : Type} (σ : cv_St) (i : Int32) (v : UInt64) (K : cv_St → Option α) : Option α := if i < 0 ∨ 1 ≤ i.toNatClampNeg then none else K (cv_sD σ (vf_upd σ.2.2.2 i.toNatClampNeg v))
def cv_ldL {α : Type} (σ : cv_St) (i : Int32) (K : Int64 → Option α) : Option α := if i < 0 ∨ 1 ≤ i.toNatClampNeg then none else K (σ.2.2.1 i.toNatClampNeg)
def cv_ldD {α : Type} (σ : cv_St) (i : Int32) (K : UInt64 → Option α) : Option α := if i < 0 ∨ 1 ≤ i.toNatClampNeg then none else K (σ.2.2.2 i.toNatClampNeg)
theorem cv_last (hC : cv_C X G l0 own cc nL ret rm) {i : Int32} {x : Int64} {K : cv_St → Option α} (d : decode cc pc = .ok (.lastore, 1)) (kk : ∀ u : cv_St, cv_J X G nL cells slots Qf (pc + 1) lv st u (K u)) : cv_J X G nL cells slots Qf pc lv (.long x :: .int i :: .ref (G.1 66) :: st) σ (cv_stL σ i x K) := by
  obtain ⟨p, l, e, R, s, m, args, below, meth, c⟩ := X
  intro ls H locs hl hP hS r hF
  unfold cv_stL at hF
  by_cases hc : i < 0 ∨ 1 ≤ i.toNatClampNeg
  · rw [if_pos hc] at hF; cases hF
  · rw [if_neg hc] at hF
    refine va_last hC.1 hC.2.1 hC.2.2.2.2.2.2.2.1.1 hP (cv_D hC.2.2.2.2.2.2.2.1.2.2 _) hS 66 3 (cv_a66 G σ) rfl hc d (fun H1 locs1 hP1 _ hS1 => ?_)
    rw [cv_s66] at hP1
    exact kk _ ls H1 locs1 hl hP1 hS1 r hF
theorem cv_dast (hC : cv_C X G l0 own cc nL ret rm) {i : Int32} {x : UInt64} {K : cv_St → Option α} (d : decode cc pc = .ok (.dastore, 1)) (kk : ∀ u : cv_St, cv_J X G nL cells slots Qf (pc + 1) lv st u (K u)) : cv_J X G nL cells slots Qf pc lv (.double x :: .int i :: .ref (G.1 67) :: st) σ (cv_stD σ i x K) := by
  obtain ⟨p, l, e, R, s, m, args, below, meth, c⟩ := X
  intro ls H locs hl hP hS r hF
  unfold cv_stD at hF
  by_cases hc : i < 0 ∨ 1 ≤ i.toNatClampNeg
  · rw [if_pos hc] at hF; cases hF
  · rw [if_neg hc] at hF
    refine va_dast hC.1 hC.2.1 hC.2.2.2.2.2.2.2.1.1 hP (cv_D hC.2.2.2.2.2.2.2.1.2.2 _) hS 67 4 (cv_a67 G σ) rfl hc d (fun H1 locs1 hP1 _ hS1 => ?_)
    rw [cv_s67] at hP1
    exact kk _ ls H1 locs1 hl hP1 hS1 r hF
theorem cv_lald (hC : cv_C X G l0 own cc nL ret rm) {i : Int32} {K : Int64 → Option α} (d : decode cc pc = .ok (.laload, 1)) (kk : ∀ v : Int64, cv_J X G nL cells slots Qf (pc + 1) lv (.long v :: st) σ (K v)) : cv_J X G nL cells slots Qf pc lv (.int i :: .ref (G.1 66) :: st) σ (cv_ldL σ i K) := by
  obtain ⟨p, l, e, R, s, m, args, below, meth, c⟩ := X
  intro ls H locs hl hP hS r hF
  unfold cv_ldL at hF
  by_cases hc : i < 0 ∨ 1 ≤ i.toNatClampNeg
  · rw [if_pos hc] at hF; cases hF
  · rw [if_neg hc] at hF
    exact va_lald hC.1 hC.2.1 hC.2.2.2.2.2.2.2.1.1 hP 66 3 (cv_a66 G σ) rfl hc d (kk _ ls H locs hl hP hS r hF)
theorem cv_dald (hC : cv_C X G l0 own cc nL ret rm) {i : Int32} {K : UInt64 → Option α} (d : decode cc pc = .ok (.daload, 1)) (kk : ∀ v : UInt64, cv_J X G nL cells slots Qf (pc + 1) lv (.double v :: st) σ (K v)) : cv_J X G nL cells slots Qf pc lv (.int i :: .ref (G.1 67) :: st) σ (cv_ldD σ i K) := by
  obtain ⟨p, l, e, R, s, m, args, below, meth, c⟩ := X
  intro ls H locs hl hP hS r hF
  unfold cv_ldD at hF
  by_cases hc : i < 0 ∨ 1 ≤ i.toNatClampNeg
  · rw [if_pos hc] at hF; cases hF
  · rw [if_neg hc] at hF
    exact va_dald hC.1 hC.2.1 hC.2.2.2.2.2.2.2.1.1 hP 67 4 (cv_a67 G σ) rfl hc d (kk _ ls H locs hl hP hS r hF)
end R19
