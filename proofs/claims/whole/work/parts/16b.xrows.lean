/-- the exceptions by their numbers -/
def cv_exn : Nat → String := fun k => match k with
  | 1 => "java/lang/IndexOutOfBoundsException"
  | 2 => "java/lang/IllegalArgumentException"
  | 3 => "java/lang/IllegalStateException"
  | 4 => "java/lang/UnsupportedOperationException"
  | 5 => "java/util/NoSuchElementException"
  | _ => "java/lang/ArithmeticException"
def cv_S8 : List (Nat × String) := [(86, "not a character from 33 to 126"), (97, "the text is full"), (114, "the text has a fault"), (119, "too many instructions"), (142, "a return has no operand"), (175, "the instruction is not reachable"), (204, "no such part"), (235, "no call site has a problem"), (241, "no such kind"), (249, "all bodies are empty"), (269, "the value is not an initial one"), (274, "there are no call sites"), (279, "nothing was saved"), (283, "no such function"), (286, "no such instruction"), (288, "no such register"), (290, "no such call site"), (292, "there was no run of these bodies"), (294, "the run was cut")]
def cv_exs : List String := ["java/lang/IndexOutOfBoundsException", "java/lang/IllegalArgumentException", "java/lang/IllegalStateException", "java/lang/UnsupportedOperationException", "java/util/NoSuchElementException", "java/lang/ArithmeticException"]
def cv_ncs : List (String × String) := [("java/lang/IndexOutOfBoundsException", "java/lang/IllegalArgumentException"), ("java/lang/IndexOutOfBoundsException", "java/lang/IllegalStateException"), ("java/lang/IndexOutOfBoundsException", "java/lang/UnsupportedOperationException"), ("java/lang/IndexOutOfBoundsException", "java/util/NoSuchElementException"), ("java/lang/IndexOutOfBoundsException", "java/lang/ArithmeticException"), ("java/lang/IllegalArgumentException", "java/lang/IndexOutOfBoundsException"), ("java/lang/IllegalArgumentException", "java/lang/IllegalStateException"), ("java/lang/IllegalArgumentException", "java/lang/UnsupportedOperationException"), ("java/lang/IllegalArgumentException", "java/util/NoSuchElementException"), ("java/lang/IllegalArgumentException", "java/lang/ArithmeticException"), ("java/lang/IllegalStateException", "java/lang/IndexOutOfBoundsException"), ("java/lang/IllegalStateException", "java/lang/IllegalArgumentException"), ("java/lang/IllegalStateException", "java/lang/UnsupportedOperationException"), ("java/lang/IllegalStateException", "java/util/NoSuchElementException"), ("java/lang/IllegalStateException", "java/lang/ArithmeticException"), ("java/lang/UnsupportedOperationException", "java/lang/IndexOutOfBoundsException"), ("java/lang/UnsupportedOperationException", "java/lang/IllegalArgumentException"), ("java/lang/UnsupportedOperationException", "java/lang/IllegalStateException"), ("java/lang/UnsupportedOperationException", "java/util/NoSuchElementException"), ("java/lang/UnsupportedOperationException", "java/lang/ArithmeticException"), ("java/util/NoSuchElementException", "java/lang/IndexOutOfBoundsException"), ("java/util/NoSuchElementException", "java/lang/IllegalArgumentException"), ("java/util/NoSuchElementException", "java/lang/IllegalStateException"), ("java/util/NoSuchElementException", "java/lang/UnsupportedOperationException"), ("java/util/NoSuchElementException", "java/lang/ArithmeticException"), ("java/lang/ArithmeticException", "java/lang/IndexOutOfBoundsException"), ("java/lang/ArithmeticException", "java/lang/IllegalArgumentException"), ("java/lang/ArithmeticException", "java/lang/IllegalStateException"), ("java/lang/ArithmeticException", "java/lang/UnsupportedOperationException"), ("java/lang/ArithmeticException", "java/util/NoSuchElementException")]
def cv_dcs : List String := ["java/lang/RuntimeException", "java/lang/Exception", Bundle.tN]
/-- what the throws need: the texts, what may be cast and what not, two static fields of Throwable -/
def cv_EXC (G : cv_G) (sz : Nat) (U : State) : Prop := (∀ q ∈ cv_S8, ∃ sa, vk_R RX8 q.1 q.2 sa U) ∧ (∀ E ∈ cv_exs, va_Nw (.castable E E) U) ∧ (∀ q ∈ cv_ncs, va_Nc q.1 q.2 U) ∧ (∀ Y ∈ cv_dcs, va_Nw (.declares (Bundle.initS Y)) U) ∧ vx_Zq Bundle.tN "UNASSIGNED_STACK" Bundle.steD (cv_A G sz) U U.heap ∧ vx_Zq Bundle.tN "SUPPRESSED_SENTINEL" Bundle.listD (cv_A G sz) U U.heap
theorem cv_EXC.same {G : cv_G} {sz : Nat} {u U : State} (h : cv_EXC G sz u) (hv : u.vm = U.vm) (hh : u.heap = U.heap) : cv_EXC G sz U := by
  obtain ⟨h1, h2, h3, h6, h4, h5⟩ := h
  have ha : u.vm.Alike U.vm := by rw [hv]; exact Vm.Alike.refl U.vm
  refine ⟨fun q hq => ?_, fun E hE => va_Nw.same rfl hv (h2 E hE), fun q hq => va_Nc.moved ha (h3 q hq), fun Y hY => va_Nw.same rfl hv (h6 Y hY), ?_, ?_⟩
  · obtain ⟨sa, h⟩ := h1 q hq
    exact ⟨sa, vk_R.same hv.symm h⟩
  · rw [← hh]; exact vx_Zq.moved ha h4
  · rw [← hh]; exact vx_Zq.moved ha h5
theorem cv_EXC.next {G : cv_G} {s U : State} {H : Heap} {locs : List Loc} (h : cv_EXC G s.heap.size s) (hS : va_S (cv_A G s.heap.size) s.heap H locs) (hU : U.heap = H) (hW : s.WarmedH U.vm) : cv_EXC G H.size U := by
  obtain ⟨h1, h2, h3, h6, h4, h5⟩ := h
  refine ⟨fun q hq => ?_, fun E hE => va_Nw.warmC hW (h2 E hE), fun q hq => va_Nc.moved hW.alike (h3 q hq), fun Y hY => va_Nw.warmD hW (h6 Y hY), ?_, ?_⟩
  · obtain ⟨sa, h⟩ := h1 q hq
    exact ⟨sa, vk_R.warm hW h⟩
  · rw [hU]; exact vx_Zq.moved hW.alike (vx_Zq.narrow (vx_Zq.kept h4 hS.2.1) (cv_A_in hS))
  · rw [hU]; exact vx_Zq.moved hW.alike (vx_Zq.narrow (vx_Zq.kept h5 hS.2.1) (cv_A_in hS))
def cv_PcX (G : cv_G) (sz : Nat) (av : List Value) (σ : cv_St) : Array Value → State → Prop := va_Pc av (fun U => U.heap.size = sz ∧ va_P G.2.1 cv_cl (cv_w G σ) U.heap ∧ cv_E G U ∧ cv_EXC G sz U)
theorem cv_blindX (G : cv_G) (sz : Nat) (av : List Value) (σ : cv_St) : FrameBlind (cv_PcX G sz av σ) := fun a U g mk q => by
  obtain ⟨q0, q1, q2, q3, q4⟩ := q
  exact ⟨q0, q1, q2, cv_E.same (u := U) (U := U.calling g mk a) q3 rfl, cv_EXC.same (u := U) (U := U.calling g mk a) q4 rfl rfl⟩
/-- how a method that throws ends: the exception's number (0: none), the answer, the state -/
def cv_XX {β : Type} (G : cv_G) (sz : Nat) (r : Nat × β × cv_St) : String → State → State → Prop := vx_X (fun u : cv_St => u = r.2.2 ∧ ¬ r.1 = 0) (fun E u t => E = cv_exn r.1 ∧ va_P G.2.1 cv_cl (cv_w G u) t.heap) (cv_A G sz)
def cv_MXI (l : Launch) (G : cv_G) (y : MethodName) (cc : ByteArray) (maxL : Nat) (ret : Option FieldType) (fr lo mc ms : Nat) (av : List Value) (σ : cv_St) (F : Option (Nat × Int32 × cv_St)) : Prop :=
  ∀ (sz : Nat) (r : Nat × Int32 × cv_St), F = some r → vx_Met l y (Cond.code y cc maxL ret :: cv_gw) { frames := fr, cells := mc, slots := ms, locals := lo } (cv_PcX G sz av σ) (va_Qi (fun v u => (0, v, u) = r) (cv_B G) (cv_A G sz)) (cv_XX G sz r) mc ms (cv_A G sz)
def cv_MXV (l : Launch) (G : cv_G) (y : MethodName) (cc : ByteArray) (maxL : Nat) (fr lo mc ms : Nat) (av : List Value) (σ : cv_St) (F : Option (Nat × Int32 × cv_St)) : Prop :=
  ∀ (sz : Nat) (r : Nat × Int32 × cv_St), F = some r → vx_Met l y (Cond.code y cc maxL none :: cv_gw) { frames := fr, cells := mc, slots := ms, locals := lo } (cv_PcX G sz av σ) (va_Qv (fun u => (0, 0, u) = r) (cv_B G) (cv_A G sz)) (cv_XX G sz r) mc ms (cv_A G sz)
def cv_MXD (l : Launch) (G : cv_G) (y : MethodName) (cc : ByteArray) (maxL : Nat) (fr lo mc ms : Nat) (av : List Value) (σ : cv_St) (F : Option (Nat × UInt64 × cv_St)) : Prop :=
  ∀ (sz : Nat) (r : Nat × UInt64 × cv_St), F = some r → vx_Met l y (Cond.code y cc maxL (some .double) :: cv_gw) { frames := fr, cells := mc, slots := ms, locals := lo } (cv_PcX G sz av σ) (va_Qd (fun v u => (0, v, u) = r) (cv_B G) (cv_A G sz)) (cv_XX G sz r) mc ms (cv_A G sz)
def cv_MXS (l : Launch) (G : cv_G) (y : MethodName) (cc : ByteArray) (maxL : Nat) (fr lo mc ms : Nat) (av : List Value) (σ : cv_St) (F : Option (Nat × UInt32 × cv_St)) : Prop :=
  ∀ (sz : Nat) (r : Nat × UInt32 × cv_St), F = some r → vx_Met l y (Cond.code y cc maxL (some .float) :: cv_gw) { frames := fr, cells := mc, slots := ms, locals := lo } (cv_PcX G sz av σ) (va_Qf (fun v u => (0, v, u) = r) (cv_B G) (cv_A G sz)) (cv_XX G sz r) mc ms (cv_A G sz)
def cv_QXI (X : cv_X) (G : cv_G) (mc ms : Nat) : Nat × Int32 × cv_St → State → Prop := match X with
  | (_, _, _, _, s, _, args, below, _, _) => fun r => vx_MQ below (va_Qi (fun v u => (0, v, u) = r) (cv_B G) (cv_A G s.heap.size)) (cv_XX G s.heap.size r) args s mc ms (cv_A G s.heap.size)
def cv_QXV (X : cv_X) (G : cv_G) (mc ms : Nat) : Nat × Int32 × cv_St → State → Prop := match X with
  | (_, _, _, _, s, _, args, below, _, _) => fun r => vx_MQ below (va_Qv (fun u => (0, 0, u) = r) (cv_B G) (cv_A G s.heap.size)) (cv_XX G s.heap.size r) args s mc ms (cv_A G s.heap.size)
def cv_QXD (X : cv_X) (G : cv_G) (mc ms : Nat) : Nat × UInt64 × cv_St → State → Prop := match X with
  | (_, _, _, _, s, _, args, below, _, _) => fun r => vx_MQ below (va_Qd (fun v u => (0, v, u) = r) (cv_B G) (cv_A G s.heap.size)) (cv_XX G s.heap.size r) args s mc ms (cv_A G s.heap.size)
def cv_QXS (X : cv_X) (G : cv_G) (mc ms : Nat) : Nat × UInt32 × cv_St → State → Prop := match X with
  | (_, _, _, _, s, _, args, below, _, _) => fun r => vx_MQ below (va_Qf (fun v u => (0, v, u) = r) (cv_B G) (cv_A G s.heap.size)) (cv_XX G s.heap.size r) args s mc ms (cv_A G s.heap.size)
/-- beside cv_C, in a method that may throw and has no handlers -/
def cv_CX (X : cv_X) (G : cv_G) : Prop := match X with
  | (_, l, _, _, s, _, _, _, _, c) => cv_EXC G s.heap.size s ∧ l.stackTraces = false ∧ ∀ x ∈ c.exceptionTable.toList, False
theorem cv_mkXI {l : Launch} (htr : l.stackTraces = false) {G : cv_G} {y : MethodName} {cc : ByteArray} {maxL : Nat} {ret : Option FieldType} {fr lo mc ms : Nat} {av : List Value} {σ : cv_St} {F : Option (Nat × Int32 × cv_St)} (hy : plainName y.cls = true) (hlen : (lg_sl av).length ≤ maxL)
    (body : ∀ X : cv_X, cv_CX X G → cv_C X G l y.cls cc maxL ret { frames := fr, cells := mc, slots := ms, locals := lo } → cv_J X G maxL 0 0 (cv_QXI X G mc ms) 0 (lv_args 0 av) [] σ F) : cv_MXI l G y cc maxL ret fr lo mc ms av σ F := by
  intro sz r hF
  refine vx_ofW (cc := cc) (maxL := maxL) (ret := ret) hy rfl ?_
  intro p e s m args below meth c s₁ B hml hno hv
  obtain ⟨rfl, hsz, hP, hE, hEX⟩ := hv
  subst hsz
  have hts := atoms_spec (ws := Cond.code y cc maxL ret :: cv_gw) B.pre
  have hown : s.vm.findClass y.cls = some m.cls := findClass_of_methodNamed B.named
  have hl := lv_entry av (n := maxL) hlen
  rw [lg_entry_eq]
  exact body (p, l, e, _, s, m, av.toArray, below, meth, c) ⟨hEX, htr, hno⟩ ⟨B.exec, B.bytes, hml, hown, fun w h => hts w (List.mem_cons_of_mem _ h), B.returns, B.notSynchronized, hE, rfl, rfl⟩ _ s.heap [] hl hP va_S.rf r hF
theorem cv_mkXV {l : Launch} (htr : l.stackTraces = false) {G : cv_G} {y : MethodName} {cc : ByteArray} {maxL : Nat}  {fr lo mc ms : Nat} {av : List Value} {σ : cv_St} {F : Option (Nat × Int32 × cv_St)} (hy : plainName y.cls = true) (hlen : (lg_sl av).length ≤ maxL)
    (body : ∀ X : cv_X, cv_CX X G → cv_C X G l y.cls cc maxL none { frames := fr, cells := mc, slots := ms, locals := lo } → cv_J X G maxL 0 0 (cv_QXV X G mc ms) 0 (lv_args 0 av) [] σ F) : cv_MXV l G y cc maxL fr lo mc ms av σ F := by
  intro sz r hF
  refine vx_ofW (cc := cc) (maxL := maxL) (ret := none) hy rfl ?_
  intro p e s m args below meth c s₁ B hml hno hv
  obtain ⟨rfl, hsz, hP, hE, hEX⟩ := hv
  subst hsz
  have hts := atoms_spec (ws := Cond.code y cc maxL none :: cv_gw) B.pre
  have hown : s.vm.findClass y.cls = some m.cls := findClass_of_methodNamed B.named
  have hl := lv_entry av (n := maxL) hlen
  rw [lg_entry_eq]
  exact body (p, l, e, _, s, m, av.toArray, below, meth, c) ⟨hEX, htr, hno⟩ ⟨B.exec, B.bytes, hml, hown, fun w h => hts w (List.mem_cons_of_mem _ h), B.returns, B.notSynchronized, hE, rfl, rfl⟩ _ s.heap [] hl hP va_S.rf r hF
theorem cv_mkXD {l : Launch} (htr : l.stackTraces = false) {G : cv_G} {y : MethodName} {cc : ByteArray} {maxL : Nat}  {fr lo mc ms : Nat} {av : List Value} {σ : cv_St} {F : Option (Nat × UInt64 × cv_St)} (hy : plainName y.cls = true) (hlen : (lg_sl av).length ≤ maxL)
    (body : ∀ X : cv_X, cv_CX X G → cv_C X G l y.cls cc maxL (some .double) { frames := fr, cells := mc, slots := ms, locals := lo } → cv_J X G maxL 0 0 (cv_QXD X G mc ms) 0 (lv_args 0 av) [] σ F) : cv_MXD l G y cc maxL fr lo mc ms av σ F := by
  intro sz r hF
  refine vx_ofW (cc := cc) (maxL := maxL) (ret := (some .double)) hy rfl ?_
  intro p e s m args below meth c s₁ B hml hno hv
  obtain ⟨rfl, hsz, hP, hE, hEX⟩ := hv
  subst hsz
  have hts := atoms_spec (ws := Cond.code y cc maxL (some .double) :: cv_gw) B.pre
  have hown : s.vm.findClass y.cls = some m.cls := findClass_of_methodNamed B.named
  have hl := lv_entry av (n := maxL) hlen
  rw [lg_entry_eq]
  exact body (p, l, e, _, s, m, av.toArray, below, meth, c) ⟨hEX, htr, hno⟩ ⟨B.exec, B.bytes, hml, hown, fun w h => hts w (List.mem_cons_of_mem _ h), B.returns, B.notSynchronized, hE, rfl, rfl⟩ _ s.heap [] hl hP va_S.rf r hF
theorem cv_mkXS {l : Launch} (htr : l.stackTraces = false) {G : cv_G} {y : MethodName} {cc : ByteArray} {maxL : Nat}  {fr lo mc ms : Nat} {av : List Value} {σ : cv_St} {F : Option (Nat × UInt32 × cv_St)} (hy : plainName y.cls = true) (hlen : (lg_sl av).length ≤ maxL)
    (body : ∀ X : cv_X, cv_CX X G → cv_C X G l y.cls cc maxL (some .float) { frames := fr, cells := mc, slots := ms, locals := lo } → cv_J X G maxL 0 0 (cv_QXS X G mc ms) 0 (lv_args 0 av) [] σ F) : cv_MXS l G y cc maxL fr lo mc ms av σ F := by
  intro sz r hF
  refine vx_ofW (cc := cc) (maxL := maxL) (ret := (some .float)) hy rfl ?_
  intro p e s m args below meth c s₁ B hml hno hv
  obtain ⟨rfl, hsz, hP, hE, hEX⟩ := hv
  subst hsz
  have hts := atoms_spec (ws := Cond.code y cc maxL (some .float) :: cv_gw) B.pre
  have hown : s.vm.findClass y.cls = some m.cls := findClass_of_methodNamed B.named
  have hl := lv_entry av (n := maxL) hlen
  rw [lg_entry_eq]
  exact body (p, l, e, _, s, m, av.toArray, below, meth, c) ⟨hEX, htr, hno⟩ ⟨B.exec, B.bytes, hml, hown, fun w h => hts w (List.mem_cons_of_mem _ h), B.returns, B.notSynchronized, hE, rfl, rfl⟩ _ s.heap [] hl hP va_S.rf r hF
section R16
variable {X : cv_X} {G : cv_G} {l0 : Launch} {own : String} {cc : ByteArray} {nL : Nat} {ret : Option FieldType} {rm : Room} {cells slots mc ms : Nat} {α : Type} {Qf : α → State → Prop} {pc : Nat} {lv : List (Nat × Value)} {st : List Value} {σ : cv_St} {F : Option α}
theorem cv_widen {k n : Nat} (h1 : cells ≤ k) (h2 : slots ≤ n) (kk : cv_J X G nL k n Qf pc lv st σ F) : cv_J X G nL cells slots Qf pc lv st σ F := by
  obtain ⟨p, l, e, R, s, m, args, below, meth, c⟩ := X
  intro ls H locs hl hP hS r hF
  exact W.widen (k := k) (n := n) h1 h2 (kk ls H locs hl hP hS r hF)
theorem cv_xiret (hC : cv_C X G l0 own cc nL (some .int) rm) {v : Int32} (hc : cells ≤ mc ∧ slots ≤ ms) (d : decode cc pc = .ok (.ireturn, 1)) : cv_J X G nL cells slots (cv_QXI X G mc ms) pc lv [.int v] σ (some (0, v, σ)) := by
  obtain ⟨p, l, e, R, s, m, args, below, meth, c⟩ := X
  intro ls H locs hl hP hS r hF
  obtain ⟨hx, hb, hml, hown, hts, hr, hlk, hE, rfl, rfl⟩ := hC
  exact vx_ret (W.widen (k := mc) (n := ms) hc.1 hc.2 (W.iret (v := v) hx hb hr (fun t ht hW => ⟨⟨v, σ, rfl, Option.some.inj hF, by rw [cv_B, ht]; exact hP⟩, hS.F ht⟩) hS.2.2 d))
def cv_rxz (v : Int32) (σ : cv_St) : Option (Nat × Int32 × cv_St) := if v = 0 ∨ v = 1 then some (0, v, σ) else none
def cv_rxc (v : Int32) (σ : cv_St) : Option (Nat × Int32 × cv_St) := if 0 ≤ v ∧ v < 65536 then some (0, v, σ) else none
theorem cv_xzret (hC : cv_C X G l0 own cc nL (some .boolean) rm) {v : Int32} (hc : cells ≤ mc ∧ slots ≤ ms) (d : decode cc pc = .ok (.ireturn, 1)) : cv_J X G nL cells slots (cv_QXI X G mc ms) pc lv [.int v] σ (cv_rxz v σ) := by
  obtain ⟨p, l, e, R, s, m, args, below, meth, c⟩ := X
  intro ls H locs hl hP hS r hF
  obtain ⟨hx, hb, hml, hown, hts, hr, hlk, hE, rfl, rfl⟩ := hC
  unfold cv_rxz at hF
  by_cases hq : v = 0 ∨ v = 1
  · rw [if_pos hq] at hF
    exact vx_ret (W.widen (k := mc) (n := ms) hc.1 hc.2 (W.zret (v := v) hx hb hr (by rcases hq with rfl | rfl <;> rfl) (fun t ht hW => ⟨⟨v, σ, rfl, Option.some.inj hF, by rw [cv_B, ht]; exact hP⟩, hS.F ht⟩) hS.2.2 d))
  · rw [if_neg hq] at hF; cases hF
theorem cv_xcret (hC : cv_C X G l0 own cc nL (some .char) rm) {v : Int32} (hc : cells ≤ mc ∧ slots ≤ ms) (d : decode cc pc = .ok (.ireturn, 1)) : cv_J X G nL cells slots (cv_QXI X G mc ms) pc lv [.int v] σ (cv_rxc v σ) := by
  obtain ⟨p, l, e, R, s, m, args, below, meth, c⟩ := X
  intro ls H locs hl hP hS r hF
  obtain ⟨hx, hb, hml, hown, hts, hr, hlk, hE, rfl, rfl⟩ := hC
  unfold cv_rxc at hF
  by_cases hq : 0 ≤ v ∧ v < 65536
  · rw [if_pos hq] at hF
    exact vx_ret (W.widen (k := mc) (n := ms) hc.1 hc.2 (W.zret (v := v) hx hb hr (cv_nc hq).1 (fun t ht hW => ⟨⟨v, σ, rfl, Option.some.inj hF, by rw [cv_B, ht]; exact hP⟩, hS.F ht⟩) hS.2.2 d))
  · rw [if_neg hq] at hF; cases hF
theorem cv_xvret (hC : cv_C X G l0 own cc nL none rm) (hc : cells ≤ mc ∧ slots ≤ ms) (d : decode cc pc = .ok (.return_, 1)) : cv_J X G nL cells slots (cv_QXV X G mc ms) pc lv [] σ (some (0, 0, σ)) := by
  obtain ⟨p, l, e, R, s, m, args, below, meth, c⟩ := X
  intro ls H locs hl hP hS r hF
  obtain ⟨hx, hb, hml, hown, hts, hr, hlk, hE, rfl, rfl⟩ := hC
  exact vx_ret (W.widen (k := mc) (n := ms) hc.1 hc.2 (W.vret hx hb hr (fun t ht hW => ⟨⟨σ, rfl, Option.some.inj hF, by rw [cv_B, ht]; exact hP⟩, hS.F ht⟩) hS.2.2 d))
theorem cv_xdret (hC : cv_C X G l0 own cc nL (some .double) rm) {v : UInt64} (hc : cells ≤ mc ∧ slots ≤ ms) (d : decode cc pc = .ok (.dreturn, 1)) : cv_J X G nL cells slots (cv_QXD X G mc ms) pc lv [.double v] σ (some (0, v, σ)) := by
  obtain ⟨p, l, e, R, s, m, args, below, meth, c⟩ := X
  intro ls H locs hl hP hS r hF
  obtain ⟨hx, hb, hml, hown, hts, hr, hlk, hE, rfl, rfl⟩ := hC
  exact vx_ret (W.widen (k := mc) (n := ms) hc.1 hc.2 (W.dret (v := v) hx hb hr (fun t ht hW => ⟨⟨v, σ, rfl, Option.some.inj hF, by rw [cv_B, ht]; exact hP⟩, hS.F ht⟩) hS.2.2 d))
theorem cv_xfret (hC : cv_C X G l0 own cc nL (some .float) rm) {v : UInt32} (hc : cells ≤ mc ∧ slots ≤ ms) (d : decode cc pc = .ok (.freturn, 1)) : cv_J X G nL cells slots (cv_QXS X G mc ms) pc lv [.float v] σ (some (0, v, σ)) := by
  obtain ⟨p, l, e, R, s, m, args, below, meth, c⟩ := X
  intro ls H locs hl hP hS r hF
  obtain ⟨hx, hb, hml, hown, hts, hr, hlk, hE, rfl, rfl⟩ := hC
  exact vx_ret (W.widen (k := mc) (n := ms) hc.1 hc.2 (W.fret (v := v) hx hb hr (fun t ht hW => ⟨⟨v, σ, rfl, Option.some.inj hF, by rw [cv_B, ht]; exact hP⟩, hS.F ht⟩) hS.2.2 d))
/-- the words of 'throw new E("text")' -/
def cv_TW (code ik is ic : Nat) (text : String) (names : List String) : Prop := Bundle.fit (cv_exn code) = true ∧ (∀ n ∈ names, Bundle.fit n = true) ∧ Cond.classLink RX8 ik (cv_exn code) ∈ cv_gw ∧ Cond.initialized (cv_exn code) ∈ cv_gw ∧ (is, text) ∈ cv_S8 ∧ (∀ w ∈ (vx_atS RX8 ic (cv_exn code) names).filter goodWord, w ∈ cv_gw) ∧ (∀ w ∈ (vx_atS RX8 ic (cv_exn code) names).filter (fun w => !goodWord w), w ∈ [Cond.castable (cv_exn code) (cv_exn code), Cond.declares (Bundle.initS "java/lang/RuntimeException"), Cond.declares (Bundle.initS "java/lang/Exception"), Cond.declares (Bundle.initS Bundle.tN)]) ∧ (∀ w ∈ Cond.classLink RX8 ik (cv_exn code) :: Cond.initialized (cv_exn code) :: vx_atS RX8 ic (cv_exn code) names, vx_ot w = true) ∧ cv_exn code ∈ cv_exs ∧ ¬ code = 0
theorem cv_throwIS {v : Int32} (hX : cv_CX X G) (hC : cv_C X G l0 RX8 cc nL ret rm) (code : Nat) {ik is ic : Nat} {text : String} {names : List String} (ht : cv_TW code ik is ic text names) (hR : names.length + 3 < rm.frames ∧ (st.map fun v => v.category).sum + (13 * (names.length + 1) + 43) ≤ rm.locals) (hcs : cells + 1 ≤ rm.cells ∧ slots + 6 ≤ rm.slots) (hc : cells + 1 ≤ mc ∧ slots + 6 ≤ ms)
    (d0 : decode cc pc = .ok (.new ik, 3)) (d3 : decode cc (pc + 3) = .ok (.dup, 1)) (d4 : decode cc (pc + 4) = .ok (.ldc is, 2)) (d6 : decode cc (pc + 6) = .ok (.invokespecial ic, 3)) (d9 : decode cc (pc + 9) = .ok (.athrow, 1)) : cv_J X G nL cells slots (cv_QXI X G mc ms) pc lv st σ (some (code, v, σ)) := by
  obtain ⟨p, l, e, R, s, m, args, below, meth, c⟩ := X
  intro ls H locs hl hP hS r hF
  obtain ⟨hx, hb, hml, hown, hts, hr, hlk, hE, rfl, rfl⟩ := hC
  obtain ⟨⟨x1, x2, x3, x6, x4, x5⟩, htr, hno⟩ := hX
  obtain ⟨t1, t2, t3, t4, t5, t6, t7, t8, t9, ta⟩ := ht
  obtain ⟨sa, hsa⟩ := x1 _ t5
  cases Option.some.inj hF
  refine vx_throwS (A := cv_A G s.heap.size) hx hb htr hown t1 t2 (hts _ t3) (hts _ t4) hsa (vx_hat (fun w h => hts w (t6 w h)) t7 (vx_c (va_Nw.use rfl (x2 _ t9)) (vx_c (va_Nw.use rfl (x6 _ List.mem_cons_self)) (vx_c (va_Nw.use rfl (x6 _ (List.mem_cons_of_mem _ List.mem_cons_self))) (vx_c (va_Nw.use rfl (x6 _ (List.mem_cons_of_mem _ (List.mem_cons_of_mem _ List.mem_cons_self)))) vx_n))))) t8 x4 x5 hS (hl.1.trans hml.symm) d0 d3 d4 d6 d9 (fun z hz => (hno z hz).elim) hR.1 hR.2 hcs.1 hcs.2 hlk (fun t hvm hsz hk => ?_) hS.2.2 hc.1 hc.2
  exact ⟨σ, ⟨rfl, ta⟩, ⟨rfl, hP.kept (fun k q hq => hk q.1 (hP k q hq).lt)⟩, Nat.le_trans hS.1 hsz, fun q hq hA => (hk q (Nat.lt_of_lt_of_le hq hS.1)).trans (hS.2.1 q hq hA)⟩
theorem cv_throwISW {v : Int32} (hX : cv_CX X G) (hC : cv_C X G l0 RX8 cc nL ret rm) (code : Nat) {ik is ic : Nat} {text : String} {names : List String} (ht : cv_TW code ik is ic text names) (hR : names.length + 3 < rm.frames ∧ (st.map fun v => v.category).sum + (13 * (names.length + 1) + 43) ≤ rm.locals) (hcs : cells + 1 ≤ rm.cells ∧ slots + 6 ≤ rm.slots) (hc : cells + 1 ≤ mc ∧ slots + 6 ≤ ms)
    (d0 : decode cc pc = .ok (.new ik, 3)) (d3 : decode cc (pc + 3) = .ok (.dup, 1)) (d4 : decode cc (pc + 4) = .ok (.ldc_w is, 3)) (d6 : decode cc (pc + 7) = .ok (.invokespecial ic, 3)) (d9 : decode cc (pc + 10) = .ok (.athrow, 1)) : cv_J X G nL cells slots (cv_QXI X G mc ms) pc lv st σ (some (code, v, σ)) := by
  obtain ⟨p, l, e, R, s, m, args, below, meth, c⟩ := X
  intro ls H locs hl hP hS r hF
  obtain ⟨hx, hb, hml, hown, hts, hr, hlk, hE, rfl, rfl⟩ := hC
  obtain ⟨⟨x1, x2, x3, x6, x4, x5⟩, htr, hno⟩ := hX
  obtain ⟨t1, t2, t3, t4, t5, t6, t7, t8, t9, ta⟩ := ht
  obtain ⟨sa, hsa⟩ := x1 _ t5
  cases Option.some.inj hF
  refine vx_throwSW (A := cv_A G s.heap.size) hx hb htr hown t1 t2 (hts _ t3) (hts _ t4) hsa (vx_hat (fun w h => hts w (t6 w h)) t7 (vx_c (va_Nw.use rfl (x2 _ t9)) (vx_c (va_Nw.use rfl (x6 _ List.mem_cons_self)) (vx_c (va_Nw.use rfl (x6 _ (List.mem_cons_of_mem _ List.mem_cons_self))) (vx_c (va_Nw.use rfl (x6 _ (List.mem_cons_of_mem _ (List.mem_cons_of_mem _ List.mem_cons_self)))) vx_n))))) t8 x4 x5 hS (hl.1.trans hml.symm) d0 d3 d4 d6 d9 (fun z hz => (hno z hz).elim) hR.1 hR.2 hcs.1 hcs.2 hlk (fun t hvm hsz hk => ?_) hS.2.2 hc.1 hc.2
  exact ⟨σ, ⟨rfl, ta⟩, ⟨rfl, hP.kept (fun k q hq => hk q.1 (hP k q hq).lt)⟩, Nat.le_trans hS.1 hsz, fun q hq hA => (hk q (Nat.lt_of_lt_of_le hq hS.1)).trans (hS.2.1 q hq hA)⟩
theorem cv_throwVS {v : Int32} (hX : cv_CX X G) (hC : cv_C X G l0 RX8 cc nL ret rm) (code : Nat) {ik is ic : Nat} {text : String} {names : List String} (ht : cv_TW code ik is ic text names) (hR : names.length + 3 < rm.frames ∧ (st.map fun v => v.category).sum + (13 * (names.length + 1) + 43) ≤ rm.locals) (hcs : cells + 1 ≤ rm.cells ∧ slots + 6 ≤ rm.slots) (hc : cells + 1 ≤ mc ∧ slots + 6 ≤ ms)
    (d0 : decode cc pc = .ok (.new ik, 3)) (d3 : decode cc (pc + 3) = .ok (.dup, 1)) (d4 : decode cc (pc + 4) = .ok (.ldc is, 2)) (d6 : decode cc (pc + 6) = .ok (.invokespecial ic, 3)) (d9 : decode cc (pc + 9) = .ok (.athrow, 1)) : cv_J X G nL cells slots (cv_QXV X G mc ms) pc lv st σ (some (code, v, σ)) := by
  obtain ⟨p, l, e, R, s, m, args, below, meth, c⟩ := X
  intro ls H locs hl hP hS r hF
  obtain ⟨hx, hb, hml, hown, hts, hr, hlk, hE, rfl, rfl⟩ := hC
  obtain ⟨⟨x1, x2, x3, x6, x4, x5⟩, htr, hno⟩ := hX
  obtain ⟨t1, t2, t3, t4, t5, t6, t7, t8, t9, ta⟩ := ht
  obtain ⟨sa, hsa⟩ := x1 _ t5
  cases Option.some.inj hF
  refine vx_throwS (A := cv_A G s.heap.size) hx hb htr hown t1 t2 (hts _ t3) (hts _ t4) hsa (vx_hat (fun w h => hts w (t6 w h)) t7 (vx_c (va_Nw.use rfl (x2 _ t9)) (vx_c (va_Nw.use rfl (x6 _ List.mem_cons_self)) (vx_c (va_Nw.use rfl (x6 _ (List.mem_cons_of_mem _ List.mem_cons_self))) (vx_c (va_Nw.use rfl (x6 _ (List.mem_cons_of_mem _ (List.mem_cons_of_mem _ List.mem_cons_self)))) vx_n))))) t8 x4 x5 hS (hl.1.trans hml.symm) d0 d3 d4 d6 d9 (fun z hz => (hno z hz).elim) hR.1 hR.2 hcs.1 hcs.2 hlk (fun t hvm hsz hk => ?_) hS.2.2 hc.1 hc.2
  exact ⟨σ, ⟨rfl, ta⟩, ⟨rfl, hP.kept (fun k q hq => hk q.1 (hP k q hq).lt)⟩, Nat.le_trans hS.1 hsz, fun q hq hA => (hk q (Nat.lt_of_lt_of_le hq hS.1)).trans (hS.2.1 q hq hA)⟩
theorem cv_throwVSW {v : Int32} (hX : cv_CX X G) (hC : cv_C X G l0 RX8 cc nL ret rm) (code : Nat) {ik is ic : Nat} {text : String} {names : List String} (ht : cv_TW code ik is ic text names) (hR : names.length + 3 < rm.frames ∧ (st.map fun v => v.category).sum + (13 * (names.length + 1) + 43) ≤ rm.locals) (hcs : cells + 1 ≤ rm.cells ∧ slots + 6 ≤ rm.slots) (hc : cells + 1 ≤ mc ∧ slots + 6 ≤ ms)
    (d0 : decode cc pc = .ok (.new ik, 3)) (d3 : decode cc (pc + 3) = .ok (.dup, 1)) (d4 : decode cc (pc + 4) = .ok (.ldc_w is, 3)) (d6 : decode cc (pc + 7) = .ok (.invokespecial ic, 3)) (d9 : decode cc (pc + 10) = .ok (.athrow, 1)) : cv_J X G nL cells slots (cv_QXV X G mc ms) pc lv st σ (some (code, v, σ)) := by
  obtain ⟨p, l, e, R, s, m, args, below, meth, c⟩ := X
  intro ls H locs hl hP hS r hF
  obtain ⟨hx, hb, hml, hown, hts, hr, hlk, hE, rfl, rfl⟩ := hC
  obtain ⟨⟨x1, x2, x3, x6, x4, x5⟩, htr, hno⟩ := hX
  obtain ⟨t1, t2, t3, t4, t5, t6, t7, t8, t9, ta⟩ := ht
  obtain ⟨sa, hsa⟩ := x1 _ t5
  cases Option.some.inj hF
  refine vx_throwSW (A := cv_A G s.heap.size) hx hb htr hown t1 t2 (hts _ t3) (hts _ t4) hsa (vx_hat (fun w h => hts w (t6 w h)) t7 (vx_c (va_Nw.use rfl (x2 _ t9)) (vx_c (va_Nw.use rfl (x6 _ List.mem_cons_self)) (vx_c (va_Nw.use rfl (x6 _ (List.mem_cons_of_mem _ List.mem_cons_self))) (vx_c (va_Nw.use rfl (x6 _ (List.mem_cons_of_mem _ (List.mem_cons_of_mem _ List.mem_cons_self)))) vx_n))))) t8 x4 x5 hS (hl.1.trans hml.symm) d0 d3 d4 d6 d9 (fun z hz => (hno z hz).elim) hR.1 hR.2 hcs.1 hcs.2 hlk (fun t hvm hsz hk => ?_) hS.2.2 hc.1 hc.2
  exact ⟨σ, ⟨rfl, ta⟩, ⟨rfl, hP.kept (fun k q hq => hk q.1 (hP k q hq).lt)⟩, Nat.le_trans hS.1 hsz, fun q hq hA => (hk q (Nat.lt_of_lt_of_le hq hS.1)).trans (hS.2.1 q hq hA)⟩
theorem cv_throwDS {v : UInt64} (hX : cv_CX X G) (hC : cv_C X G l0 RX8 cc nL ret rm) (code : Nat) {ik is ic : Nat} {text : String} {names : List String} (ht : cv_TW code ik is ic text names) (hR : names.length + 3 < rm.frames ∧ (st.map fun v => v.category).sum + (13 * (names.length + 1) + 43) ≤ rm.locals) (hcs : cells + 1 ≤ rm.cells ∧ slots + 6 ≤ rm.slots) (hc : cells + 1 ≤ mc ∧ slots + 6 ≤ ms)
    (d0 : decode cc pc = .ok (.new ik, 3)) (d3 : decode cc (pc + 3) = .ok (.dup, 1)) (d4 : decode cc (pc + 4) = .ok (.ldc is, 2)) (d6 : decode cc (pc + 6) = .ok (.invokespecial ic, 3)) (d9 : decode cc (pc + 9) = .ok (.athrow, 1)) : cv_J X G nL cells slots (cv_QXD X G mc ms) pc lv st σ (some (code, v, σ)) := by
  obtain ⟨p, l, e, R, s, m, args, below, meth, c⟩ := X
  intro ls H locs hl hP hS r hF
  obtain ⟨hx, hb, hml, hown, hts, hr, hlk, hE, rfl, rfl⟩ := hC
  obtain ⟨⟨x1, x2, x3, x6, x4, x5⟩, htr, hno⟩ := hX
  obtain ⟨t1, t2, t3, t4, t5, t6, t7, t8, t9, ta⟩ := ht
  obtain ⟨sa, hsa⟩ := x1 _ t5
  cases Option.some.inj hF
  refine vx_throwS (A := cv_A G s.heap.size) hx hb htr hown t1 t2 (hts _ t3) (hts _ t4) hsa (vx_hat (fun w h => hts w (t6 w h)) t7 (vx_c (va_Nw.use rfl (x2 _ t9)) (vx_c (va_Nw.use rfl (x6 _ List.mem_cons_self)) (vx_c (va_Nw.use rfl (x6 _ (List.mem_cons_of_mem _ List.mem_cons_self))) (vx_c (va_Nw.use rfl (x6 _ (List.mem_cons_of_mem _ (List.mem_cons_of_mem _ List.mem_cons_self)))) vx_n))))) t8 x4 x5 hS (hl.1.trans hml.symm) d0 d3 d4 d6 d9 (fun z hz => (hno z hz).elim) hR.1 hR.2 hcs.1 hcs.2 hlk (fun t hvm hsz hk => ?_) hS.2.2 hc.1 hc.2
  exact ⟨σ, ⟨rfl, ta⟩, ⟨rfl, hP.kept (fun k q hq => hk q.1 (hP k q hq).lt)⟩, Nat.le_trans hS.1 hsz, fun q hq hA => (hk q (Nat.lt_of_lt_of_le hq hS.1)).trans (hS.2.1 q hq hA)⟩
theorem cv_throwDSW {v : UInt64} (hX : cv_CX X G) (hC : cv_C X G l0 RX8 cc nL ret rm) (code : Nat) {ik is ic : Nat} {text : String} {names : List String} (ht : cv_TW code ik is ic text names) (hR : names.length + 3 < rm.frames ∧ (st.map fun v => v.category).sum + (13 * (names.length + 1) + 43) ≤ rm.locals) (hcs : cells + 1 ≤ rm.cells ∧ slots + 6 ≤ rm.slots) (hc : cells + 1 ≤ mc ∧ slots + 6 ≤ ms)
    (d0 : decode cc pc = .ok (.new ik, 3)) (d3 : decode cc (pc + 3) = .ok (.dup, 1)) (d4 : decode cc (pc + 4) = .ok (.ldc_w is, 3)) (d6 : decode cc (pc + 7) = .ok (.invokespecial ic, 3)) (d9 : decode cc (pc + 10) = .ok (.athrow, 1)) : cv_J X G nL cells slots (cv_QXD X G mc ms) pc lv st σ (some (code, v, σ)) := by
  obtain ⟨p, l, e, R, s, m, args, below, meth, c⟩ := X
  intro ls H locs hl hP hS r hF
  obtain ⟨hx, hb, hml, hown, hts, hr, hlk, hE, rfl, rfl⟩ := hC
  obtain ⟨⟨x1, x2, x3, x6, x4, x5⟩, htr, hno⟩ := hX
  obtain ⟨t1, t2, t3, t4, t5, t6, t7, t8, t9, ta⟩ := ht
  obtain ⟨sa, hsa⟩ := x1 _ t5
  cases Option.some.inj hF
  refine vx_throwSW (A := cv_A G s.heap.size) hx hb htr hown t1 t2 (hts _ t3) (hts _ t4) hsa (vx_hat (fun w h => hts w (t6 w h)) t7 (vx_c (va_Nw.use rfl (x2 _ t9)) (vx_c (va_Nw.use rfl (x6 _ List.mem_cons_self)) (vx_c (va_Nw.use rfl (x6 _ (List.mem_cons_of_mem _ List.mem_cons_self))) (vx_c (va_Nw.use rfl (x6 _ (List.mem_cons_of_mem _ (List.mem_cons_of_mem _ List.mem_cons_self)))) vx_n))))) t8 x4 x5 hS (hl.1.trans hml.symm) d0 d3 d4 d6 d9 (fun z hz => (hno z hz).elim) hR.1 hR.2 hcs.1 hcs.2 hlk (fun t hvm hsz hk => ?_) hS.2.2 hc.1 hc.2
  exact ⟨σ, ⟨rfl, ta⟩, ⟨rfl, hP.kept (fun k q hq => hk q.1 (hP k q hq).lt)⟩, Nat.le_trans hS.1 hsz, fun q hq hA => (hk q (Nat.lt_of_lt_of_le hq hS.1)).trans (hS.2.1 q hq hA)⟩
theorem cv_throwSS {v : UInt32} (hX : cv_CX X G) (hC : cv_C X G l0 RX8 cc nL ret rm) (code : Nat) {ik is ic : Nat} {text : String} {names : List String} (ht : cv_TW code ik is ic text names) (hR : names.length + 3 < rm.frames ∧ (st.map fun v => v.category).sum + (13 * (names.length + 1) + 43) ≤ rm.locals) (hcs : cells + 1 ≤ rm.cells ∧ slots + 6 ≤ rm.slots) (hc : cells + 1 ≤ mc ∧ slots + 6 ≤ ms)
    (d0 : decode cc pc = .ok (.new ik, 3)) (d3 : decode cc (pc + 3) = .ok (.dup, 1)) (d4 : decode cc (pc + 4) = .ok (.ldc is, 2)) (d6 : decode cc (pc + 6) = .ok (.invokespecial ic, 3)) (d9 : decode cc (pc + 9) = .ok (.athrow, 1)) : cv_J X G nL cells slots (cv_QXS X G mc ms) pc lv st σ (some (code, v, σ)) := by
  obtain ⟨p, l, e, R, s, m, args, below, meth, c⟩ := X
  intro ls H locs hl hP hS r hF
  obtain ⟨hx, hb, hml, hown, hts, hr, hlk, hE, rfl, rfl⟩ := hC
  obtain ⟨⟨x1, x2, x3, x6, x4, x5⟩, htr, hno⟩ := hX
  obtain ⟨t1, t2, t3, t4, t5, t6, t7, t8, t9, ta⟩ := ht
  obtain ⟨sa, hsa⟩ := x1 _ t5
  cases Option.some.inj hF
  refine vx_throwS (A := cv_A G s.heap.size) hx hb htr hown t1 t2 (hts _ t3) (hts _ t4) hsa (vx_hat (fun w h => hts w (t6 w h)) t7 (vx_c (va_Nw.use rfl (x2 _ t9)) (vx_c (va_Nw.use rfl (x6 _ List.mem_cons_self)) (vx_c (va_Nw.use rfl (x6 _ (List.mem_cons_of_mem _ List.mem_cons_self))) (vx_c (va_Nw.use rfl (x6 _ (List.mem_cons_of_mem _ (List.mem_cons_of_mem _ List.mem_cons_self)))) vx_n))))) t8 x4 x5 hS (hl.1.trans hml.symm) d0 d3 d4 d6 d9 (fun z hz => (hno z hz).elim) hR.1 hR.2 hcs.1 hcs.2 hlk (fun t hvm hsz hk => ?_) hS.2.2 hc.1 hc.2
  exact ⟨σ, ⟨rfl, ta⟩, ⟨rfl, hP.kept (fun k q hq => hk q.1 (hP k q hq).lt)⟩, Nat.le_trans hS.1 hsz, fun q hq hA => (hk q (Nat.lt_of_lt_of_le hq hS.1)).trans (hS.2.1 q hq hA)⟩
theorem cv_throwSSW {v : UInt32} (hX : cv_CX X G) (hC : cv_C X G l0 RX8 cc nL ret rm) (code : Nat) {ik is ic : Nat} {text : String} {names : List String} (ht : cv_TW code ik is ic text names) (hR : names.length + 3 < rm.frames ∧ (st.map fun v => v.category).sum + (13 * (names.length + 1) + 43) ≤ rm.locals) (hcs : cells + 1 ≤ rm.cells ∧ slots + 6 ≤ rm.slots) (hc : cells + 1 ≤ mc ∧ slots + 6 ≤ ms)
    (d0 : decode cc pc = .ok (.new ik, 3)) (d3 : decode cc (pc + 3) = .ok (.dup, 1)) (d4 : decode cc (pc + 4) = .ok (.ldc_w is, 3)) (d6 : decode cc (pc + 7) = .ok (.invokespecial ic, 3)) (d9 : decode cc (pc + 10) = .ok (.athrow, 1)) : cv_J X G nL cells slots (cv_QXS X G mc ms) pc lv st σ (some (code, v, σ)) := by
  obtain ⟨p, l, e, R, s, m, args, below, meth, c⟩ := X
  intro ls H locs hl hP hS r hF
  obtain ⟨hx, hb, hml, hown, hts, hr, hlk, hE, rfl, rfl⟩ := hC
  obtain ⟨⟨x1, x2, x3, x6, x4, x5⟩, htr, hno⟩ := hX
  obtain ⟨t1, t2, t3, t4, t5, t6, t7, t8, t9, ta⟩ := ht
  obtain ⟨sa, hsa⟩ := x1 _ t5
  cases Option.some.inj hF
  refine vx_throwSW (A := cv_A G s.heap.size) hx hb htr hown t1 t2 (hts _ t3) (hts _ t4) hsa (vx_hat (fun w h => hts w (t6 w h)) t7 (vx_c (va_Nw.use rfl (x2 _ t9)) (vx_c (va_Nw.use rfl (x6 _ List.mem_cons_self)) (vx_c (va_Nw.use rfl (x6 _ (List.mem_cons_of_mem _ List.mem_cons_self))) (vx_c (va_Nw.use rfl (x6 _ (List.mem_cons_of_mem _ (List.mem_cons_of_mem _ List.mem_cons_self)))) vx_n))))) t8 x4 x5 hS (hl.1.trans hml.symm) d0 d3 d4 d6 d9 (fun z hz => (hno z hz).elim) hR.1 hR.2 hcs.1 hcs.2 hlk (fun t hvm hsz hk => ?_) hS.2.2 hc.1 hc.2
  exact ⟨σ, ⟨rfl, ta⟩, ⟨rfl, hP.kept (fun k q hq => hk q.1 (hP k q hq).lt)⟩, Nat.le_trans hS.1 hsz, fun q hq hA => (hk q (Nat.lt_of_lt_of_le hq hS.1)).trans (hS.2.1 q hq hA)⟩
def cv_bx {β γ : Type} (d : γ) (A : Option (Nat × β × cv_St)) (K : β → cv_St → Option (Nat × γ × cv_St)) : Option (Nat × γ × cv_St) := A.bind (fun z => if z.1 = 0 then K z.2.1 z.2.2 else some (z.1, d, z.2.2))
theorem cv_callXII (hX : cv_CX X G) (hC : cv_C X G l0 own cc nL ret rm) {y : MethodName} {bytes : ByteArray} {maxL fr lo kc ks index n ob : Nat} {rt : Option FieldType} (As rest : List Value) {st0 : List Value} {dv : Int32} {Fc : Option (Nat × Int32 × cv_St)} {K : Int32 → cv_St → Option (Nat × Int32 × cv_St)} (hM : cv_MXI l0 G y bytes maxL rt fr lo kc ks (.ref (G.1 ob) :: As) σ Fc)
    (hl0 : Cond.methodLink own index y ∈ cv_gw) (hw : cv_VM y bytes maxL rt n) (ho : cv_ob G ob y.cls) (hn : As.length = n) (hst : st0 = As.reverse ++ .ref (G.1 ob) :: rest) (hs : (rest.map fun v => v.category).sum ≤ 8) (hR : fr + 1 ≤ rm.frames ∧ 8 + (maxL + 11) + lo ≤ rm.locals) (hcs : cells + kc ≤ rm.cells ∧ slots + ks ≤ rm.slots) (hc : cells + kc ≤ mc ∧ slots + ks ≤ ms) (d : decode cc pc = .ok (.invokevirtual index, 3))
    (kk : ∀ (v : Int32) (u : cv_St), cv_J X G nL (cells + kc) (slots + ks) (cv_QXI X G mc ms) (pc + 3) lv (.int v :: rest) u (K v u)) : cv_J X G nL cells slots (cv_QXI X G mc ms) pc lv st0 σ (cv_bx dv Fc K) := by
  obtain ⟨p, l, e, R, s, m, args, below, meth, c⟩ := X
  intro ls H locs hl hP hS r hF
  obtain ⟨hx, hb, hml, hown, hts, hr, hlk, hE, rfl, rfl⟩ := hC
  obtain ⟨hEX, htr, hno⟩ := hX
  obtain ⟨w1, w2, w3, w4, w5, w6, w7⟩ := hw
  obtain ⟨T, N, ci, fs, o1, o2⟩ := ho
  unfold cv_bx at hF
  cases hFc : Fc with
  | none => rw [hFc] at hF; cases hF
  | some z =>
    rw [hFc] at hF
    replace hF : (if z.1 = 0 then K z.2.1 z.2.2 else some (z.1, dv, z.2.2)) = some r := hF
    refine vx_calli (A0 := cv_A G s.heap.size) (H0 := s.heap) (AX := cv_A G H.size) (px := fun u : cv_St => u = z.2.2 ∧ ¬ z.1 = 0) (BX := fun E u t => E = cv_exn z.1 ∧ va_P G.2.1 cv_cl (cv_w G u) t.heap) (vx_runV (As := As) (rest := rest) (C := y.cls) ⟨hx, hb, hml, hown, hts⟩ (hM H.size z hFc) ⟨callB_of n hts (cv_good w4) rfl rfl rfl (hts _ w3) (hts _ hl0) ⟨w5, w6, w7⟩ hR, hts _ w1, hts _ w2⟩ ⟨cv_blindX G H.size _ σ, va_recv hE.1 hP o1 (o2 σ), fun U hU hW => ⟨rfl, by rw [hU], by rw [hU]; exact hP, hE.warm hW, hEX.next hS hU hW⟩⟩ rfl hn hl.1 hst (lv_room hs) d hcs) hS (fun q _ h => cv_A_in hS q h) (cv_A_in hS) (fun q _ h => cv_A_in hS q h) (fun E ce q9 u t H1 locs1 ht hvm hpx hBX hz1 hk1 hS1 hce hcv hcl => ?_) (fun v u t H1 locs1 ht hvm hw hB hz1 hk1 hS1 => ?_)
    · obtain ⟨rfl, hz⟩ := hpx
      rw [if_neg hz] at hF
      cases Option.some.inj hF
      rw [ht] at hBX
      exact vx_out (fun x hx => (hno x hx).elim) hlk hce hcv hcl (fun t2 ht2 hvm2 => ⟨z.2.2, ⟨rfl, hz⟩, ⟨hBX.1, by rw [ht2]; exact hBX.2⟩, by rw [ht2]; exact hS1.1, fun q hq hA => by rw [ht2]; exact hS1.2.1 q hq hA⟩) hS1.2.2 hc.1 hc.2
    · subst hw
      rw [if_pos rfl] at hF
      rw [cv_B, ht] at hB
      exact kk v u ls H1 locs1 hl hB hS1 r hF
theorem cv_callXIV (hX : cv_CX X G) (hC : cv_C X G l0 own cc nL ret rm) {y : MethodName} {bytes : ByteArray} {maxL fr lo kc ks index n ob : Nat} {rt : Option FieldType} (As rest : List Value) {st0 : List Value} {dv : Int32} {Fc : Option (Nat × Int32 × cv_St)} {K : Int32 → cv_St → Option (Nat × Int32 × cv_St)} (hM : cv_MXI l0 G y bytes maxL rt fr lo kc ks (.ref (G.1 ob) :: As) σ Fc)
    (hl0 : Cond.methodLink own index y ∈ cv_gw) (hw : cv_VM y bytes maxL rt n) (ho : cv_ob G ob y.cls) (hn : As.length = n) (hst : st0 = As.reverse ++ .ref (G.1 ob) :: rest) (hs : (rest.map fun v => v.category).sum ≤ 8) (hR : fr + 1 ≤ rm.frames ∧ 8 + (maxL + 11) + lo ≤ rm.locals) (hcs : cells + kc ≤ rm.cells ∧ slots + ks ≤ rm.slots) (hc : cells + kc ≤ mc ∧ slots + ks ≤ ms) (d : decode cc pc = .ok (.invokevirtual index, 3))
    (kk : ∀ (v : Int32) (u : cv_St), cv_J X G nL (cells + kc) (slots + ks) (cv_QXV X G mc ms) (pc + 3) lv (.int v :: rest) u (K v u)) : cv_J X G nL cells slots (cv_QXV X G mc ms) pc lv st0 σ (cv_bx dv Fc K) := by
  obtain ⟨p, l, e, R, s, m, args, below, meth, c⟩ := X
  intro ls H locs hl hP hS r hF
  obtain ⟨hx, hb, hml, hown, hts, hr, hlk, hE, rfl, rfl⟩ := hC
  obtain ⟨hEX, htr, hno⟩ := hX
  obtain ⟨w1, w2, w3, w4, w5, w6, w7⟩ := hw
  obtain ⟨T, N, ci, fs, o1, o2⟩ := ho
  unfold cv_bx at hF
  cases hFc : Fc with
  | none => rw [hFc] at hF; cases hF
  | some z =>
    rw [hFc] at hF
    replace hF : (if z.1 = 0 then K z.2.1 z.2.2 else some (z.1, dv, z.2.2)) = some r := hF
    refine vx_calli (A0 := cv_A G s.heap.size) (H0 := s.heap) (AX := cv_A G H.size) (px := fun u : cv_St => u = z.2.2 ∧ ¬ z.1 = 0) (BX := fun E u t => E = cv_exn z.1 ∧ va_P G.2.1 cv_cl (cv_w G u) t.heap) (vx_runV (As := As) (rest := rest) (C := y.cls) ⟨hx, hb, hml, hown, hts⟩ (hM H.size z hFc) ⟨callB_of n hts (cv_good w4) rfl rfl rfl (hts _ w3) (hts _ hl0) ⟨w5, w6, w7⟩ hR, hts _ w1, hts _ w2⟩ ⟨cv_blindX G H.size _ σ, va_recv hE.1 hP o1 (o2 σ), fun U hU hW => ⟨rfl, by rw [hU], by rw [hU]; exact hP, hE.warm hW, hEX.next hS hU hW⟩⟩ rfl hn hl.1 hst (lv_room hs) d hcs) hS (fun q _ h => cv_A_in hS q h) (cv_A_in hS) (fun q _ h => cv_A_in hS q h) (fun E ce q9 u t H1 locs1 ht hvm hpx hBX hz1 hk1 hS1 hce hcv hcl => ?_) (fun v u t H1 locs1 ht hvm hw hB hz1 hk1 hS1 => ?_)
    · obtain ⟨rfl, hz⟩ := hpx
      rw [if_neg hz] at hF
      cases Option.some.inj hF
      rw [ht] at hBX
      exact vx_out (fun x hx => (hno x hx).elim) hlk hce hcv hcl (fun t2 ht2 hvm2 => ⟨z.2.2, ⟨rfl, hz⟩, ⟨hBX.1, by rw [ht2]; exact hBX.2⟩, by rw [ht2]; exact hS1.1, fun q hq hA => by rw [ht2]; exact hS1.2.1 q hq hA⟩) hS1.2.2 hc.1 hc.2
    · subst hw
      rw [if_pos rfl] at hF
      rw [cv_B, ht] at hB
      exact kk v u ls H1 locs1 hl hB hS1 r hF
theorem cv_callXVI (hX : cv_CX X G) (hC : cv_C X G l0 own cc nL ret rm) {y : MethodName} {bytes : ByteArray} {maxL fr lo kc ks index n ob : Nat} (As rest : List Value) {st0 : List Value} {dv : Int32} {Fc : Option (Nat × Int32 × cv_St)} {K : Int32 → cv_St → Option (Nat × Int32 × cv_St)} (hM : cv_MXV l0 G y bytes maxL fr lo kc ks (.ref (G.1 ob) :: As) σ Fc)
    (hl0 : Cond.methodLink own index y ∈ cv_gw) (hw : cv_VM y bytes maxL none n) (ho : cv_ob G ob y.cls) (hn : As.length = n) (hst : st0 = As.reverse ++ .ref (G.1 ob) :: rest) (hs : (rest.map fun v => v.category).sum ≤ 8) (hR : fr + 1 ≤ rm.frames ∧ 8 + (maxL + 11) + lo ≤ rm.locals) (hcs : cells + kc ≤ rm.cells ∧ slots + ks ≤ rm.slots) (hc : cells + kc ≤ mc ∧ slots + ks ≤ ms) (d : decode cc pc = .ok (.invokevirtual index, 3))
    (kk : ∀ (u : cv_St), cv_J X G nL (cells + kc) (slots + ks) (cv_QXI X G mc ms) (pc + 3) lv rest u (K 0 u)) : cv_J X G nL cells slots (cv_QXI X G mc ms) pc lv st0 σ (cv_bx dv Fc K) := by
  obtain ⟨p, l, e, R, s, m, args, below, meth, c⟩ := X
  intro ls H locs hl hP hS r hF
  obtain ⟨hx, hb, hml, hown, hts, hr, hlk, hE, rfl, rfl⟩ := hC
  obtain ⟨hEX, htr, hno⟩ := hX
  obtain ⟨w1, w2, w3, w4, w5, w6, w7⟩ := hw
  obtain ⟨T, N, ci, fs, o1, o2⟩ := ho
  unfold cv_bx at hF
  cases hFc : Fc with
  | none => rw [hFc] at hF; cases hF
  | some z =>
    rw [hFc] at hF
    replace hF : (if z.1 = 0 then K z.2.1 z.2.2 else some (z.1, dv, z.2.2)) = some r := hF
    refine vx_callv (A0 := cv_A G s.heap.size) (H0 := s.heap) (AX := cv_A G H.size) (px := fun u : cv_St => u = z.2.2 ∧ ¬ z.1 = 0) (BX := fun E u t => E = cv_exn z.1 ∧ va_P G.2.1 cv_cl (cv_w G u) t.heap) (vx_runV (As := As) (rest := rest) (C := y.cls) ⟨hx, hb, hml, hown, hts⟩ (hM H.size z hFc) ⟨callB_of n hts (cv_good w4) rfl rfl rfl (hts _ w3) (hts _ hl0) ⟨w5, w6, w7⟩ hR, hts _ w1, hts _ w2⟩ ⟨cv_blindX G H.size _ σ, va_recv hE.1 hP o1 (o2 σ), fun U hU hW => ⟨rfl, by rw [hU], by rw [hU]; exact hP, hE.warm hW, hEX.next hS hU hW⟩⟩ rfl hn hl.1 hst (lv_room hs) d hcs) hS (fun q _ h => cv_A_in hS q h) (cv_A_in hS) (fun q _ h => cv_A_in hS q h) (fun E ce q9 u t H1 locs1 ht hvm hpx hBX hz1 hk1 hS1 hce hcv hcl => ?_) (fun u t H1 locs1 ht hvm hw hB hz1 hk1 hS1 => ?_)
    · obtain ⟨rfl, hz⟩ := hpx
      rw [if_neg hz] at hF
      cases Option.some.inj hF
      rw [ht] at hBX
      exact vx_out (fun x hx => (hno x hx).elim) hlk hce hcv hcl (fun t2 ht2 hvm2 => ⟨z.2.2, ⟨rfl, hz⟩, ⟨hBX.1, by rw [ht2]; exact hBX.2⟩, by rw [ht2]; exact hS1.1, fun q hq hA => by rw [ht2]; exact hS1.2.1 q hq hA⟩) hS1.2.2 hc.1 hc.2
    · subst hw
      rw [if_pos rfl] at hF
      rw [cv_B, ht] at hB
      exact kk u ls H1 locs1 hl hB hS1 r hF
theorem cv_callXVV (hX : cv_CX X G) (hC : cv_C X G l0 own cc nL ret rm) {y : MethodName} {bytes : ByteArray} {maxL fr lo kc ks index n ob : Nat} (As rest : List Value) {st0 : List Value} {dv : Int32} {Fc : Option (Nat × Int32 × cv_St)} {K : Int32 → cv_St → Option (Nat × Int32 × cv_St)} (hM : cv_MXV l0 G y bytes maxL fr lo kc ks (.ref (G.1 ob) :: As) σ Fc)
    (hl0 : Cond.methodLink own index y ∈ cv_gw) (hw : cv_VM y bytes maxL none n) (ho : cv_ob G ob y.cls) (hn : As.length = n) (hst : st0 = As.reverse ++ .ref (G.1 ob) :: rest) (hs : (rest.map fun v => v.category).sum ≤ 8) (hR : fr + 1 ≤ rm.frames ∧ 8 + (maxL + 11) + lo ≤ rm.locals) (hcs : cells + kc ≤ rm.cells ∧ slots + ks ≤ rm.slots) (hc : cells + kc ≤ mc ∧ slots + ks ≤ ms) (d : decode cc pc = .ok (.invokevirtual index, 3))
    (kk : ∀ (u : cv_St), cv_J X G nL (cells + kc) (slots + ks) (cv_QXV X G mc ms) (pc + 3) lv rest u (K 0 u)) : cv_J X G nL cells slots (cv_QXV X G mc ms) pc lv st0 σ (cv_bx dv Fc K) := by
  obtain ⟨p, l, e, R, s, m, args, below, meth, c⟩ := X
  intro ls H locs hl hP hS r hF
  obtain ⟨hx, hb, hml, hown, hts, hr, hlk, hE, rfl, rfl⟩ := hC
  obtain ⟨hEX, htr, hno⟩ := hX
  obtain ⟨w1, w2, w3, w4, w5, w6, w7⟩ := hw
  obtain ⟨T, N, ci, fs, o1, o2⟩ := ho
  unfold cv_bx at hF
  cases hFc : Fc with
  | none => rw [hFc] at hF; cases hF
  | some z =>
    rw [hFc] at hF
    replace hF : (if z.1 = 0 then K z.2.1 z.2.2 else some (z.1, dv, z.2.2)) = some r := hF
    refine vx_callv (A0 := cv_A G s.heap.size) (H0 := s.heap) (AX := cv_A G H.size) (px := fun u : cv_St => u = z.2.2 ∧ ¬ z.1 = 0) (BX := fun E u t => E = cv_exn z.1 ∧ va_P G.2.1 cv_cl (cv_w G u) t.heap) (vx_runV (As := As) (rest := rest) (C := y.cls) ⟨hx, hb, hml, hown, hts⟩ (hM H.size z hFc) ⟨callB_of n hts (cv_good w4) rfl rfl rfl (hts _ w3) (hts _ hl0) ⟨w5, w6, w7⟩ hR, hts _ w1, hts _ w2⟩ ⟨cv_blindX G H.size _ σ, va_recv hE.1 hP o1 (o2 σ), fun U hU hW => ⟨rfl, by rw [hU], by rw [hU]; exact hP, hE.warm hW, hEX.next hS hU hW⟩⟩ rfl hn hl.1 hst (lv_room hs) d hcs) hS (fun q _ h => cv_A_in hS q h) (cv_A_in hS) (fun q _ h => cv_A_in hS q h) (fun E ce q9 u t H1 locs1 ht hvm hpx hBX hz1 hk1 hS1 hce hcv hcl => ?_) (fun u t H1 locs1 ht hvm hw hB hz1 hk1 hS1 => ?_)
    · obtain ⟨rfl, hz⟩ := hpx
      rw [if_neg hz] at hF
      cases Option.some.inj hF
      rw [ht] at hBX
      exact vx_out (fun x hx => (hno x hx).elim) hlk hce hcv hcl (fun t2 ht2 hvm2 => ⟨z.2.2, ⟨rfl, hz⟩, ⟨hBX.1, by rw [ht2]; exact hBX.2⟩, by rw [ht2]; exact hS1.1, fun q hq hA => by rw [ht2]; exact hS1.2.1 q hq hA⟩) hS1.2.2 hc.1 hc.2
    · subst hw
      rw [if_pos rfl] at hF
      rw [cv_B, ht] at hB
      exact kk u ls H1 locs1 hl hB hS1 r hF
theorem cv_callXVD (hX : cv_CX X G) (hC : cv_C X G l0 own cc nL ret rm) {y : MethodName} {bytes : ByteArray} {maxL fr lo kc ks index n ob : Nat} (As rest : List Value) {st0 : List Value} {dv : UInt64} {Fc : Option (Nat × Int32 × cv_St)} {K : Int32 → cv_St → Option (Nat × UInt64 × cv_St)} (hM : cv_MXV l0 G y bytes maxL fr lo kc ks (.ref (G.1 ob) :: As) σ Fc)
    (hl0 : Cond.methodLink own index y ∈ cv_gw) (hw : cv_VM y bytes maxL none n) (ho : cv_ob G ob y.cls) (hn : As.length = n) (hst : st0 = As.reverse ++ .ref (G.1 ob) :: rest) (hs : (rest.map fun v => v.category).sum ≤ 8) (hR : fr + 1 ≤ rm.frames ∧ 8 + (maxL + 11) + lo ≤ rm.locals) (hcs : cells + kc ≤ rm.cells ∧ slots + ks ≤ rm.slots) (hc : cells + kc ≤ mc ∧ slots + ks ≤ ms) (d : decode cc pc = .ok (.invokevirtual index, 3))
    (kk : ∀ (u : cv_St), cv_J X G nL (cells + kc) (slots + ks) (cv_QXD X G mc ms) (pc + 3) lv rest u (K 0 u)) : cv_J X G nL cells slots (cv_QXD X G mc ms) pc lv st0 σ (cv_bx dv Fc K) := by
  obtain ⟨p, l, e, R, s, m, args, below, meth, c⟩ := X
  intro ls H locs hl hP hS r hF
  obtain ⟨hx, hb, hml, hown, hts, hr, hlk, hE, rfl, rfl⟩ := hC
  obtain ⟨hEX, htr, hno⟩ := hX
  obtain ⟨w1, w2, w3, w4, w5, w6, w7⟩ := hw
  obtain ⟨T, N, ci, fs, o1, o2⟩ := ho
  unfold cv_bx at hF
  cases hFc : Fc with
  | none => rw [hFc] at hF; cases hF
  | some z =>
    rw [hFc] at hF
    replace hF : (if z.1 = 0 then K z.2.1 z.2.2 else some (z.1, dv, z.2.2)) = some r := hF
    refine vx_callv (A0 := cv_A G s.heap.size) (H0 := s.heap) (AX := cv_A G H.size) (px := fun u : cv_St => u = z.2.2 ∧ ¬ z.1 = 0) (BX := fun E u t => E = cv_exn z.1 ∧ va_P G.2.1 cv_cl (cv_w G u) t.heap) (vx_runV (As := As) (rest := rest) (C := y.cls) ⟨hx, hb, hml, hown, hts⟩ (hM H.size z hFc) ⟨callB_of n hts (cv_good w4) rfl rfl rfl (hts _ w3) (hts _ hl0) ⟨w5, w6, w7⟩ hR, hts _ w1, hts _ w2⟩ ⟨cv_blindX G H.size _ σ, va_recv hE.1 hP o1 (o2 σ), fun U hU hW => ⟨rfl, by rw [hU], by rw [hU]; exact hP, hE.warm hW, hEX.next hS hU hW⟩⟩ rfl hn hl.1 hst (lv_room hs) d hcs) hS (fun q _ h => cv_A_in hS q h) (cv_A_in hS) (fun q _ h => cv_A_in hS q h) (fun E ce q9 u t H1 locs1 ht hvm hpx hBX hz1 hk1 hS1 hce hcv hcl => ?_) (fun u t H1 locs1 ht hvm hw hB hz1 hk1 hS1 => ?_)
    · obtain ⟨rfl, hz⟩ := hpx
      rw [if_neg hz] at hF
      cases Option.some.inj hF
      rw [ht] at hBX
      exact vx_out (fun x hx => (hno x hx).elim) hlk hce hcv hcl (fun t2 ht2 hvm2 => ⟨z.2.2, ⟨rfl, hz⟩, ⟨hBX.1, by rw [ht2]; exact hBX.2⟩, by rw [ht2]; exact hS1.1, fun q hq hA => by rw [ht2]; exact hS1.2.1 q hq hA⟩) hS1.2.2 hc.1 hc.2
    · subst hw
      rw [if_pos rfl] at hF
      rw [cv_B, ht] at hB
      exact kk u ls H1 locs1 hl hB hS1 r hF
theorem cv_callXVS (hX : cv_CX X G) (hC : cv_C X G l0 own cc nL ret rm) {y : MethodName} {bytes : ByteArray} {maxL fr lo kc ks index n ob : Nat} (As rest : List Value) {st0 : List Value} {dv : UInt32} {Fc : Option (Nat × Int32 × cv_St)} {K : Int32 → cv_St → Option (Nat × UInt32 × cv_St)} (hM : cv_MXV l0 G y bytes maxL fr lo kc ks (.ref (G.1 ob) :: As) σ Fc)
    (hl0 : Cond.methodLink own index y ∈ cv_gw) (hw : cv_VM y bytes maxL none n) (ho : cv_ob G ob y.cls) (hn : As.length = n) (hst : st0 = As.reverse ++ .ref (G.1 ob) :: rest) (hs : (rest.map fun v => v.category).sum ≤ 8) (hR : fr + 1 ≤ rm.frames ∧ 8 + (maxL + 11) + lo ≤ rm.locals) (hcs : cells + kc ≤ rm.cells ∧ slots + ks ≤ rm.slots) (hc : cells + kc ≤ mc ∧ slots + ks ≤ ms) (d : decode cc pc = .ok (.invokevirtual index, 3))
    (kk : ∀ (u : cv_St), cv_J X G nL (cells + kc) (slots + ks) (cv_QXS X G mc ms) (pc + 3) lv rest u (K 0 u)) : cv_J X G nL cells slots (cv_QXS X G mc ms) pc lv st0 σ (cv_bx dv Fc K) := by
  obtain ⟨p, l, e, R, s, m, args, below, meth, c⟩ := X
  intro ls H locs hl hP hS r hF
  obtain ⟨hx, hb, hml, hown, hts, hr, hlk, hE, rfl, rfl⟩ := hC
  obtain ⟨hEX, htr, hno⟩ := hX
  obtain ⟨w1, w2, w3, w4, w5, w6, w7⟩ := hw
  obtain ⟨T, N, ci, fs, o1, o2⟩ := ho
  unfold cv_bx at hF
  cases hFc : Fc with
  | none => rw [hFc] at hF; cases hF
  | some z =>
    rw [hFc] at hF
    replace hF : (if z.1 = 0 then K z.2.1 z.2.2 else some (z.1, dv, z.2.2)) = some r := hF
    refine vx_callv (A0 := cv_A G s.heap.size) (H0 := s.heap) (AX := cv_A G H.size) (px := fun u : cv_St => u = z.2.2 ∧ ¬ z.1 = 0) (BX := fun E u t => E = cv_exn z.1 ∧ va_P G.2.1 cv_cl (cv_w G u) t.heap) (vx_runV (As := As) (rest := rest) (C := y.cls) ⟨hx, hb, hml, hown, hts⟩ (hM H.size z hFc) ⟨callB_of n hts (cv_good w4) rfl rfl rfl (hts _ w3) (hts _ hl0) ⟨w5, w6, w7⟩ hR, hts _ w1, hts _ w2⟩ ⟨cv_blindX G H.size _ σ, va_recv hE.1 hP o1 (o2 σ), fun U hU hW => ⟨rfl, by rw [hU], by rw [hU]; exact hP, hE.warm hW, hEX.next hS hU hW⟩⟩ rfl hn hl.1 hst (lv_room hs) d hcs) hS (fun q _ h => cv_A_in hS q h) (cv_A_in hS) (fun q _ h => cv_A_in hS q h) (fun E ce q9 u t H1 locs1 ht hvm hpx hBX hz1 hk1 hS1 hce hcv hcl => ?_) (fun u t H1 locs1 ht hvm hw hB hz1 hk1 hS1 => ?_)
    · obtain ⟨rfl, hz⟩ := hpx
      rw [if_neg hz] at hF
      cases Option.some.inj hF
      rw [ht] at hBX
      exact vx_out (fun x hx => (hno x hx).elim) hlk hce hcv hcl (fun t2 ht2 hvm2 => ⟨z.2.2, ⟨rfl, hz⟩, ⟨hBX.1, by rw [ht2]; exact hBX.2⟩, by rw [ht2]; exact hS1.1, fun q hq hA => by rw [ht2]; exact hS1.2.1 q hq hA⟩) hS1.2.2 hc.1 hc.2
    · subst hw
      rw [if_pos rfl] at hF
      rw [cv_B, ht] at hB
      exact kk u ls H1 locs1 hl hB hS1 r hF
def cv_ddv {α : Type} (x y : UInt64) (K : UInt64 → Option α) : Option α := if FP.ddiv x y &&& 0x7fffffffffffffff ≤ 0x7ff0000000000000 then K (FP.ddiv x y) else none
def cv_fdv {α : Type} (x y : UInt32) (K : UInt32 → Option α) : Option α := if FP.fdiv x y &&& 0x7fffffff ≤ 0x7f800000 then K (FP.fdiv x y) else none
def cv_f2d {α : Type} (x : UInt32) (K : UInt64 → Option α) : Option α := if FP.f2d x &&& 0x7fffffffffffffff ≤ 0x7ff0000000000000 then K (FP.f2d x) else none
theorem cv_ddiv (hC : cv_C X G l0 own cc nL ret rm) {x y : UInt64} {K : UInt64 → Option α} (d : decode cc pc = .ok (.ddiv, 1)) (kk : ∀ v : UInt64, cv_J X G nL cells slots Qf (pc + 1) lv (.double v :: st) σ (K v)) : cv_J X G nL cells slots Qf pc lv (.double y :: .double x :: st) σ (cv_ddv x y K) := by
  obtain ⟨p, l, e, R, s, m, args, below, meth, c⟩ := X
  intro ls H locs hl hP hS r hF
  unfold cv_ddv at hF
  split at hF
  · rename_i hc
    exact lv_ddiv hC.1 hC.2.1 d hc (kk _ ls H locs hl hP hS r hF)
  · cases hF
theorem cv_fdiv (hC : cv_C X G l0 own cc nL ret rm) {x y : UInt32} {K : UInt32 → Option α} (d : decode cc pc = .ok (.fdiv, 1)) (kk : ∀ v : UInt32, cv_J X G nL cells slots Qf (pc + 1) lv (.float v :: st) σ (K v)) : cv_J X G nL cells slots Qf pc lv (.float y :: .float x :: st) σ (cv_fdv x y K) := by
  obtain ⟨p, l, e, R, s, m, args, below, meth, c⟩ := X
  intro ls H locs hl hP hS r hF
  unfold cv_fdv at hF
  split at hF
  · rename_i hc
    exact lv_fdiv hC.1 hC.2.1 d hc (kk _ ls H locs hl hP hS r hF)
  · cases hF
theorem cv_f2dr (hC : cv_C X G l0 own cc nL ret rm) {x : UInt32} {K : UInt64 → Option α} (d : decode cc pc = .ok (.f2d, 1)) (kk : ∀ v : UInt64, cv_J X G nL cells slots Qf (pc + 1) lv (.double v :: st) σ (K v)) : cv_J X G nL cells slots Qf pc lv (.float x :: st) σ (cv_f2d x K) := by
  obtain ⟨p, l, e, R, s, m, args, below, meth, c⟩ := X
  intro ls H locs hl hP hS r hF
  unfold cv_f2d at hF
  split at hF
  · rename_i hc
    exact lv_f2d hC.1 hC.2.1 d hc (kk _ ls H locs hl hP hS r hF)
  · cases hF
theorem cv_i2d (hC : cv_C X G l0 own cc nL ret rm) {x : Int32} (d : decode cc pc = .ok (.i2d, 1)) (k : cv_J X G nL cells slots Qf (pc + 1) lv (.double (FP.i2d x) :: st) σ F) : cv_J X G nL cells slots Qf pc lv (.int x :: st) σ F := by
  obtain ⟨p, l, e, R, s, m, args, below, meth, c⟩ := X
  intro ls H locs hl hP hS r hF
  exact lv_i2d hC.1 hC.2.1 d (k ls H locs hl hP hS r hF)
theorem cv_i2f (hC : cv_C X G l0 own cc nL ret rm) {x : Int32} (d : decode cc pc = .ok (.i2f, 1)) (k : cv_J X G nL cells slots Qf (pc + 1) lv (.float (FP.i2f x) :: st) σ F) : cv_J X G nL cells slots Qf pc lv (.int x :: st) σ F := by
  obtain ⟨p, l, e, R, s, m, args, below, meth, c⟩ := X
  intro ls H locs hl hP hS r hF
  exact lv_i2f hC.1 hC.2.1 d (k ls H locs hl hP hS r hF)
theorem cv_dconst0 (hC : cv_C X G l0 own cc nL ret rm)  (d : decode cc pc = .ok (.dconst 0, 1)) (k : cv_J X G nL cells slots Qf (pc + 1) lv (.double FP.dconst0 :: st) σ F) : cv_J X G nL cells slots Qf pc lv (st) σ F := by
  obtain ⟨p, l, e, R, s, m, args, below, meth, c⟩ := X
  intro ls H locs hl hP hS r hF
  exact lv_dconst0 hC.1 hC.2.1 d (k ls H locs hl hP hS r hF)
theorem cv_fconst0 (hC : cv_C X G l0 own cc nL ret rm)  (d : decode cc pc = .ok (.fconst 0, 1)) (k : cv_J X G nL cells slots Qf (pc + 1) lv (.float FP.fconst0 :: st) σ F) : cv_J X G nL cells slots Qf pc lv (st) σ F := by
  obtain ⟨p, l, e, R, s, m, args, below, meth, c⟩ := X
  intro ls H locs hl hP hS r hF
  exact lv_fconst0 hC.1 hC.2.1 d (k ls H locs hl hP hS r hF)
theorem cv_dcmp (hC : cv_C X G l0 own cc nL ret rm) {x y : UInt64} {op : CmpOp} (d : decode cc pc = .ok (.dcmp op, 1)) (k : cv_J X G nL cells slots Qf (pc + 1) lv (.int (Op.cmpValue (FP.dcmp x y) op) :: st) σ F) : cv_J X G nL cells slots Qf pc lv (.double y :: .double x :: st) σ F := by
  obtain ⟨p, l, e, R, s, m, args, below, meth, c⟩ := X
  intro ls H locs hl hP hS r hF
  exact lv_dcmp hC.1 hC.2.1 d (k ls H locs hl hP hS r hF)
theorem cv_fcmp (hC : cv_C X G l0 own cc nL ret rm) {x y : UInt32} {op : CmpOp} (d : decode cc pc = .ok (.fcmp op, 1)) (k : cv_J X G nL cells slots Qf (pc + 1) lv (.int (Op.cmpValue (FP.fcmp x y) op) :: st) σ F) : cv_J X G nL cells slots Qf pc lv (.float y :: .float x :: st) σ F := by
  obtain ⟨p, l, e, R, s, m, args, below, meth, c⟩ := X
  intro ls H locs hl hP hS r hF
  exact lv_fcmp hC.1 hC.2.1 d (k ls H locs hl hP hS r hF)
theorem cv_dload (hC : cv_C X G l0 own cc nL ret rm) {i : Nat} {x : UInt64} (q : Nat) (d : decode cc pc = .ok (.dload i, 2)) (hq : lv[q]? = some (i, .double x)) (k : cv_J X G nL cells slots Qf (pc + 2) lv (.double x :: st) σ F) : cv_J X G nL cells slots Qf pc lv (st) σ F := by
  obtain ⟨p, l, e, R, s, m, args, below, meth, c⟩ := X
  intro ls H locs hl hP hS r hF
  exact lv_dload hC.1 hC.2.1 d (lv_at hl q hq) (k ls H locs hl hP hS r hF)
theorem cv_fload (hC : cv_C X G l0 own cc nL ret rm) {i : Nat} {x : UInt32} (q : Nat) (d : decode cc pc = .ok (.fload i, 2)) (hq : lv[q]? = some (i, .float x)) (k : cv_J X G nL cells slots Qf (pc + 2) lv (.float x :: st) σ F) : cv_J X G nL cells slots Qf pc lv (st) σ F := by
  obtain ⟨p, l, e, R, s, m, args, below, meth, c⟩ := X
  intro ls H locs hl hP hS r hF
  exact lv_fload hC.1 hC.2.1 d (lv_at hl q hq) (k ls H locs hl hP hS r hF)
/-- the words of 'throw new NoSuchElementException("text")' -/
def cv_TN (ik is ic ix : Nat) (rx : ByteArray) (text : String) : Prop := (decode rx 0 = .ok (.aload_n 0, 1) ∧ decode rx 1 = .ok (.aload_n 1, 1) ∧ decode rx 2 = .ok (.invokespecial ix, 3) ∧ decode rx 5 = .ok (.return_, 1)) ∧ Cond.classLink RX8 ik (cv_exn 5) ∈ cv_gw ∧ Cond.initialized (cv_exn 5) ∈ cv_gw ∧ (is, text) ∈ cv_S8 ∧ (∀ w ∈ (cv_atX RX8 ic (cv_exn 5) "java/lang/RuntimeException" ix rx ["java/lang/Exception"]).filter goodWord, w ∈ cv_gw) ∧ (∀ w ∈ (cv_atX RX8 ic (cv_exn 5) "java/lang/RuntimeException" ix rx ["java/lang/Exception"]).filter (fun w => !goodWord w), w ∈ [Cond.castable (cv_exn 5) (cv_exn 5), Cond.declares (Bundle.initS "java/lang/RuntimeException"), Cond.declares (Bundle.initS "java/lang/Exception"), Cond.declares (Bundle.initS Bundle.tN)]) ∧ (∀ w ∈ Cond.classLink RX8 ik (cv_exn 5) :: Cond.initialized (cv_exn 5) :: cv_atX RX8 ic (cv_exn 5) "java/lang/RuntimeException" ix rx ["java/lang/Exception"], vx_ot w = true) ∧ cv_exn 5 ∈ cv_exs
theorem cv_nthrowIS {v : Int32} (hX : cv_CX X G) (hC : cv_C X G l0 RX8 cc nL ret rm) {ik is ic ix : Nat} {rx : ByteArray} {text : String} (ht : cv_TN ik is ic ix rx text) (hR : 5 < rm.frames ∧ (st.map fun v => v.category).sum + 82 ≤ rm.locals) (hcs : cells + 1 ≤ rm.cells ∧ slots + 6 ≤ rm.slots) (hc : cells + 1 ≤ mc ∧ slots + 6 ≤ ms)
    (d0 : decode cc pc = .ok (.new ik, 3)) (d3 : decode cc (pc + 3) = .ok (.dup, 1)) (d4 : decode cc (pc + 4) = .ok (.ldc is, 2)) (d6 : decode cc (pc + 6) = .ok (.invokespecial ic, 3)) (d9 : decode cc (pc + 9) = .ok (.athrow, 1)) : cv_J X G nL cells slots (cv_QXI X G mc ms) pc lv st σ (some (5, v, σ)) := by
  obtain ⟨p, l, e, R, s, m, args, below, meth, c⟩ := X
  intro ls H locs hl hP hS r hF
  obtain ⟨hx, hb, hml, hown, hts, hr, hlk, hE, rfl, rfl⟩ := hC
  obtain ⟨⟨x1, x2, x3, x6, x4, x5⟩, htr, hno⟩ := hX
  obtain ⟨⟨y0, y1, y2, y5⟩, t3, t4, t5, t6, t7, t8, t9⟩ := ht
  obtain ⟨sa, hsa⟩ := x1 _ t5
  cases Option.some.inj hF
  refine cv_throwX (A := cv_A G s.heap.size) (names := ["java/lang/Exception"]) hx hb htr y0 y1 y2 y5 (by decide +kernel) hown (by decide +kernel) (by decide +kernel) (hts _ t3) (hts _ t4) hsa (vx_hat (fun w h => hts w (t6 w h)) t7 (vx_c (va_Nw.use rfl (x2 _ t9)) (vx_c (va_Nw.use rfl (x6 _ List.mem_cons_self)) (vx_c (va_Nw.use rfl (x6 _ (List.mem_cons_of_mem _ List.mem_cons_self))) (vx_c (va_Nw.use rfl (x6 _ (List.mem_cons_of_mem _ (List.mem_cons_of_mem _ List.mem_cons_self)))) vx_n))))) t8 x4 x5 hS (hl.1.trans hml.symm) d0 d3 d4 d6 d9 (fun z hz => (hno z hz).elim) hR.1 hR.2 hcs.1 hcs.2 hlk (fun t hvm hsz hk => ?_) hS.2.2 hc.1 hc.2
  exact ⟨σ, ⟨rfl, show ¬ (5 : Nat) = 0 by decide⟩, ⟨rfl, hP.kept (fun k q hq => hk q.1 (hP k q hq).lt)⟩, Nat.le_trans hS.1 hsz, fun q hq hA => (hk q (Nat.lt_of_lt_of_le hq hS.1)).trans (hS.2.1 q hq hA)⟩
theorem cv_nthrowISW {v : Int32} (hX : cv_CX X G) (hC : cv_C X G l0 RX8 cc nL ret rm) {ik is ic ix : Nat} {rx : ByteArray} {text : String} (ht : cv_TN ik is ic ix rx text) (hR : 5 < rm.frames ∧ (st.map fun v => v.category).sum + 82 ≤ rm.locals) (hcs : cells + 1 ≤ rm.cells ∧ slots + 6 ≤ rm.slots) (hc : cells + 1 ≤ mc ∧ slots + 6 ≤ ms)
    (d0 : decode cc pc = .ok (.new ik, 3)) (d3 : decode cc (pc + 3) = .ok (.dup, 1)) (d4 : decode cc (pc + 4) = .ok (.ldc_w is, 3)) (d6 : decode cc (pc + 7) = .ok (.invokespecial ic, 3)) (d9 : decode cc (pc + 10) = .ok (.athrow, 1)) : cv_J X G nL cells slots (cv_QXI X G mc ms) pc lv st σ (some (5, v, σ)) := by
  obtain ⟨p, l, e, R, s, m, args, below, meth, c⟩ := X
  intro ls H locs hl hP hS r hF
  obtain ⟨hx, hb, hml, hown, hts, hr, hlk, hE, rfl, rfl⟩ := hC
  obtain ⟨⟨x1, x2, x3, x6, x4, x5⟩, htr, hno⟩ := hX
  obtain ⟨⟨y0, y1, y2, y5⟩, t3, t4, t5, t6, t7, t8, t9⟩ := ht
  obtain ⟨sa, hsa⟩ := x1 _ t5
  cases Option.some.inj hF
  refine cv_throwXW (A := cv_A G s.heap.size) (names := ["java/lang/Exception"]) hx hb htr y0 y1 y2 y5 (by decide +kernel) hown (by decide +kernel) (by decide +kernel) (hts _ t3) (hts _ t4) hsa (vx_hat (fun w h => hts w (t6 w h)) t7 (vx_c (va_Nw.use rfl (x2 _ t9)) (vx_c (va_Nw.use rfl (x6 _ List.mem_cons_self)) (vx_c (va_Nw.use rfl (x6 _ (List.mem_cons_of_mem _ List.mem_cons_self))) (vx_c (va_Nw.use rfl (x6 _ (List.mem_cons_of_mem _ (List.mem_cons_of_mem _ List.mem_cons_self)))) vx_n))))) t8 x4 x5 hS (hl.1.trans hml.symm) d0 d3 d4 d6 d9 (fun z hz => (hno z hz).elim) hR.1 hR.2 hcs.1 hcs.2 hlk (fun t hvm hsz hk => ?_) hS.2.2 hc.1 hc.2
  exact ⟨σ, ⟨rfl, show ¬ (5 : Nat) = 0 by decide⟩, ⟨rfl, hP.kept (fun k q hq => hk q.1 (hP k q hq).lt)⟩, Nat.le_trans hS.1 hsz, fun q hq hA => (hk q (Nat.lt_of_lt_of_le hq hS.1)).trans (hS.2.1 q hq hA)⟩
theorem cv_nthrowVS {v : Int32} (hX : cv_CX X G) (hC : cv_C X G l0 RX8 cc nL ret rm) {ik is ic ix : Nat} {rx : ByteArray} {text : String} (ht : cv_TN ik is ic ix rx text) (hR : 5 < rm.frames ∧ (st.map fun v => v.category).sum + 82 ≤ rm.locals) (hcs : cells + 1 ≤ rm.cells ∧ slots + 6 ≤ rm.slots) (hc : cells + 1 ≤ mc ∧ slots + 6 ≤ ms)
    (d0 : decode cc pc = .ok (.new ik, 3)) (d3 : decode cc (pc + 3) = .ok (.dup, 1)) (d4 : decode cc (pc + 4) = .ok (.ldc is, 2)) (d6 : decode cc (pc + 6) = .ok (.invokespecial ic, 3)) (d9 : decode cc (pc + 9) = .ok (.athrow, 1)) : cv_J X G nL cells slots (cv_QXV X G mc ms) pc lv st σ (some (5, v, σ)) := by
  obtain ⟨p, l, e, R, s, m, args, below, meth, c⟩ := X
  intro ls H locs hl hP hS r hF
  obtain ⟨hx, hb, hml, hown, hts, hr, hlk, hE, rfl, rfl⟩ := hC
  obtain ⟨⟨x1, x2, x3, x6, x4, x5⟩, htr, hno⟩ := hX
  obtain ⟨⟨y0, y1, y2, y5⟩, t3, t4, t5, t6, t7, t8, t9⟩ := ht
  obtain ⟨sa, hsa⟩ := x1 _ t5
  cases Option.some.inj hF
  refine cv_throwX (A := cv_A G s.heap.size) (names := ["java/lang/Exception"]) hx hb htr y0 y1 y2 y5 (by decide +kernel) hown (by decide +kernel) (by decide +kernel) (hts _ t3) (hts _ t4) hsa (vx_hat (fun w h => hts w (t6 w h)) t7 (vx_c (va_Nw.use rfl (x2 _ t9)) (vx_c (va_Nw.use rfl (x6 _ List.mem_cons_self)) (vx_c (va_Nw.use rfl (x6 _ (List.mem_cons_of_mem _ List.mem_cons_self))) (vx_c (va_Nw.use rfl (x6 _ (List.mem_cons_of_mem _ (List.mem_cons_of_mem _ List.mem_cons_self)))) vx_n))))) t8 x4 x5 hS (hl.1.trans hml.symm) d0 d3 d4 d6 d9 (fun z hz => (hno z hz).elim) hR.1 hR.2 hcs.1 hcs.2 hlk (fun t hvm hsz hk => ?_) hS.2.2 hc.1 hc.2
  exact ⟨σ, ⟨rfl, show ¬ (5 : Nat) = 0 by decide⟩, ⟨rfl, hP.kept (fun k q hq => hk q.1 (hP k q hq).lt)⟩, Nat.le_trans hS.1 hsz, fun q hq hA => (hk q (Nat.lt_of_lt_of_le hq hS.1)).trans (hS.2.1 q hq hA)⟩
theorem cv_nthrowVSW {v : Int32} (hX : cv_CX X G) (hC : cv_C X G l0 RX8 cc nL ret rm) {ik is ic ix : Nat} {rx : ByteArray} {text : String} (ht : cv_TN ik is ic ix rx text) (hR : 5 < rm.frames ∧ (st.map fun v => v.category).sum + 82 ≤ rm.locals) (hcs : cells + 1 ≤ rm.cells ∧ slots + 6 ≤ rm.slots) (hc : cells + 1 ≤ mc ∧ slots + 6 ≤ ms)
    (d0 : decode cc pc = .ok (.new ik, 3)) (d3 : decode cc (pc + 3) = .ok (.dup, 1)) (d4 : decode cc (pc + 4) = .ok (.ldc_w is, 3)) (d6 : decode cc (pc + 7) = .ok (.invokespecial ic, 3)) (d9 : decode cc (pc + 10) = .ok (.athrow, 1)) : cv_J X G nL cells slots (cv_QXV X G mc ms) pc lv st σ (some (5, v, σ)) := by
  obtain ⟨p, l, e, R, s, m, args, below, meth, c⟩ := X
  intro ls H locs hl hP hS r hF
  obtain ⟨hx, hb, hml, hown, hts, hr, hlk, hE, rfl, rfl⟩ := hC
  obtain ⟨⟨x1, x2, x3, x6, x4, x5⟩, htr, hno⟩ := hX
  obtain ⟨⟨y0, y1, y2, y5⟩, t3, t4, t5, t6, t7, t8, t9⟩ := ht
  obtain ⟨sa, hsa⟩ := x1 _ t5
  cases Option.some.inj hF
  refine cv_throwXW (A := cv_A G s.heap.size) (names := ["java/lang/Exception"]) hx hb htr y0 y1 y2 y5 (by decide +kernel) hown (by decide +kernel) (by decide +kernel) (hts _ t3) (hts _ t4) hsa (vx_hat (fun w h => hts w (t6 w h)) t7 (vx_c (va_Nw.use rfl (x2 _ t9)) (vx_c (va_Nw.use rfl (x6 _ List.mem_cons_self)) (vx_c (va_Nw.use rfl (x6 _ (List.mem_cons_of_mem _ List.mem_cons_self))) (vx_c (va_Nw.use rfl (x6 _ (List.mem_cons_of_mem _ (List.mem_cons_of_mem _ List.mem_cons_self)))) vx_n))))) t8 x4 x5 hS (hl.1.trans hml.symm) d0 d3 d4 d6 d9 (fun z hz => (hno z hz).elim) hR.1 hR.2 hcs.1 hcs.2 hlk (fun t hvm hsz hk => ?_) hS.2.2 hc.1 hc.2
  exact ⟨σ, ⟨rfl, show ¬ (5 : Nat) = 0 by decide⟩, ⟨rfl, hP.kept (fun k q hq => hk q.1 (hP k q hq).lt)⟩, Nat.le_trans hS.1 hsz, fun q hq hA => (hk q (Nat.lt_of_lt_of_le hq hS.1)).trans (hS.2.1 q hq hA)⟩
end R16
def cv_MD (l : Launch) (G : cv_G) (y : MethodName) (cc : ByteArray) (maxL : Nat) (fr lo : Nat) (av : List Value) (σ : cv_St) (F : Option (UInt64 × cv_St)) : Prop :=
  ∀ (sz : Nat) (r : UInt64 × cv_St), F = some r → Met l y (Cond.code y cc maxL (some .double) :: cv_gw) { frames := fr, cells := 0, slots := 0, locals := lo } (cv_Pc G sz av σ) (va_Qd (fun v u => (v, u) = r) (cv_B G) (cv_A G sz)) 0 0 (cv_A G sz)
def cv_QD (X : cv_X) (G : cv_G) : UInt64 × cv_St → State → Prop := match X with
  | (_, _, _, _, s, _, args, below, _, _) => fun r => MQ below (va_Qd (fun v u => (v, u) = r) (cv_B G) (cv_A G s.heap.size)) args s 0 0 (cv_A G s.heap.size)
theorem cv_mkD {l : Launch} {G : cv_G} {y : MethodName} {cc : ByteArray} {maxL : Nat} {fr lo : Nat} {av : List Value} {σ : cv_St} {F : Option (UInt64 × cv_St)} (hy : plainName y.cls = true) (hlen : (lg_sl av).length ≤ maxL)
    (body : ∀ X : cv_X, cv_C X G l y.cls cc maxL (some .double) { frames := fr, cells := 0, slots := 0, locals := lo } → cv_J X G maxL 0 0 (cv_QD X G) 0 (lv_args 0 av) [] σ F) : cv_MD l G y cc maxL fr lo av σ F := by
  intro sz r hF
  refine Met.ofW (cc := cc) (maxL := maxL) (ret := (some .double)) hy rfl ?_
  intro p e s m args below meth c s₁ B hml hv
  obtain ⟨rfl, hsz, hP, hE⟩ := hv
  subst hsz
  have hts := atoms_spec (ws := Cond.code y cc maxL (some .double) :: cv_gw) B.pre
  have hown : s.vm.findClass y.cls = some m.cls := findClass_of_methodNamed B.named
  have hl := lv_entry av (n := maxL) hlen
  rw [lg_entry_eq]
  exact body (p, l, e, _, s, m, av.toArray, below, meth, c) ⟨B.exec, B.bytes, hml, hown, fun w h => hts w (List.mem_cons_of_mem _ h), B.returns, B.notSynchronized, hE, rfl, rfl⟩ _ s.heap [] hl hP va_S.rf r hF
theorem cv_dret {X : cv_X} {G : cv_G} {l0 : Launch} {own : String} {cc : ByteArray} {nL : Nat} {rm : Room} {pc : Nat} {lv : List (Nat × Value)} {σ : cv_St} (hC : cv_C X G l0 own cc nL (some .double) rm) {v : UInt64} (d : decode cc pc = .ok (.dreturn, 1)) : cv_J X G nL 0 0 (cv_QD X G) pc lv [.double v] σ (some (v, σ)) := by
  obtain ⟨p, l, e, R, s, m, args, below, meth, c⟩ := X
  intro ls H locs hl hP hS r hF
  obtain ⟨hx, hb, hml, hown, hts, hr, hlk, hE, rfl, rfl⟩ := hC
  exact W.dret (v := v) hx hb hr (fun t ht hW => ⟨⟨v, σ, rfl, Option.some.inj hF, by rw [cv_B, ht]; exact hP⟩, hS.F ht⟩) hS.2.2 d
def cv_MS (l : Launch) (G : cv_G) (y : MethodName) (cc : ByteArray) (maxL : Nat) (fr lo : Nat) (av : List Value) (σ : cv_St) (F : Option (UInt32 × cv_St)) : Prop :=
  ∀ (sz : Nat) (r : UInt32 × cv_St), F = some r → Met l y (Cond.code y cc maxL (some .float) :: cv_gw) { frames := fr, cells := 0, slots := 0, locals := lo } (cv_Pc G sz av σ) (va_Qf (fun v u => (v, u) = r) (cv_B G) (cv_A G sz)) 0 0 (cv_A G sz)
def cv_QS (X : cv_X) (G : cv_G) : UInt32 × cv_St → State → Prop := match X with
  | (_, _, _, _, s, _, args, below, _, _) => fun r => MQ below (va_Qf (fun v u => (v, u) = r) (cv_B G) (cv_A G s.heap.size)) args s 0 0 (cv_A G s.heap.size)
theorem cv_mkS {l : Launch} {G : cv_G} {y : MethodName} {cc : ByteArray} {maxL : Nat} {fr lo : Nat} {av : List Value} {σ : cv_St} {F : Option (UInt32 × cv_St)} (hy : plainName y.cls = true) (hlen : (lg_sl av).length ≤ maxL)
    (body : ∀ X : cv_X, cv_C X G l y.cls cc maxL (some .float) { frames := fr, cells := 0, slots := 0, locals := lo } → cv_J X G maxL 0 0 (cv_QS X G) 0 (lv_args 0 av) [] σ F) : cv_MS l G y cc maxL fr lo av σ F := by
  intro sz r hF
  refine Met.ofW (cc := cc) (maxL := maxL) (ret := (some .float)) hy rfl ?_
  intro p e s m args below meth c s₁ B hml hv
  obtain ⟨rfl, hsz, hP, hE⟩ := hv
  subst hsz
  have hts := atoms_spec (ws := Cond.code y cc maxL (some .float) :: cv_gw) B.pre
  have hown : s.vm.findClass y.cls = some m.cls := findClass_of_methodNamed B.named
  have hl := lv_entry av (n := maxL) hlen
  rw [lg_entry_eq]
  exact body (p, l, e, _, s, m, av.toArray, below, meth, c) ⟨B.exec, B.bytes, hml, hown, fun w h => hts w (List.mem_cons_of_mem _ h), B.returns, B.notSynchronized, hE, rfl, rfl⟩ _ s.heap [] hl hP va_S.rf r hF
theorem cv_fret {X : cv_X} {G : cv_G} {l0 : Launch} {own : String} {cc : ByteArray} {nL : Nat} {rm : Room} {pc : Nat} {lv : List (Nat × Value)} {σ : cv_St} (hC : cv_C X G l0 own cc nL (some .float) rm) {v : UInt32} (d : decode cc pc = .ok (.freturn, 1)) : cv_J X G nL 0 0 (cv_QS X G) pc lv [.float v] σ (some (v, σ)) := by
  obtain ⟨p, l, e, R, s, m, args, below, meth, c⟩ := X
  intro ls H locs hl hP hS r hF
  obtain ⟨hx, hb, hml, hown, hts, hr, hlk, hE, rfl, rfl⟩ := hC
  exact W.fret (v := v) hx hb hr (fun t ht hW => ⟨⟨v, σ, rfl, Option.some.inj hF, by rw [cv_B, ht]; exact hP⟩, hS.F ht⟩) hS.2.2 d
