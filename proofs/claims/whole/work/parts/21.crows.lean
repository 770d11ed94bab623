/-! THE CONSTRUCTORS: worlds that grow -/
def cv_NK (U : State) : Prop := va_Nw (.methodLinkNest RX8 11 yX6_init RX8) U ∧ va_Nw (.methodLinkNest RX8 18 yX0_init RX8) U
def cv_EK (G : cv_G) (U : State) : Prop := va_K G.2.1 cv_cl (cv_tys G) U ∧ cv_NK U
theorem cv_EK.warm {G : cv_G} {s U : State} (h : cv_EK G s) (hW : s.WarmedH U.vm) : cv_EK G U := ⟨va_K.moved hW.alike h.1, va_Nw.warmM hW h.2.1, va_Nw.warmM hW h.2.2⟩
theorem cv_EK.same {G : cv_G} {u U : State} (h : cv_EK G u) (hv : u.vm = U.vm) : cv_EK G U := ⟨va_K.moved (by rw [hv]; exact Vm.Alike.refl U.vm) h.1, va_Nw.same rfl hv h.2.1, va_Nw.same rfl hv h.2.2⟩
def cv_KC (X : cv_X) (G : cv_G) (l0 : Launch) (own : String) (cc : ByteArray) (nL : Nat) (rm : Room) (A : Nat → Prop) : Prop := match X with
  | (p, l, _, R, s, m, args, _, meth, c) => p.tables.exec = Jvm.exec ∧ c.code = cc ∧ c.maxLocals = nL ∧ s.vm.findClass own = some m.cls ∧ (∀ w ∈ cv_gw, w.before args s = true) ∧ meth.locks = false ∧ cv_EK G s ∧ R = rm ∧ l = l0 ∧ ∀ q, s.heap.size ≤ q → A q
def cv_KI (X : cv_X) : Prop := match X with
  | (_, _, _, _, _, _, _, _, meth, _) => meth.sig.returnType = none ∧ meth.name = "<init>"
def cv_KJ (X : cv_X) (G : cv_G) (nL cells slots : Nat) (A : Nat → Prop) (Q : State → Prop) (pc : Nat) (lv : List (Nat × Value)) (st : List Value) (ws : va_W) : Prop := match X with
  | (p, l, e, R, s, m, args, below, meth, c) => ∀ (ls : Array Slot) (H : Heap) (locs : List Loc), lv_has ls nL lv → va_P G.2.1 cv_cl ws H → va_D A ws → va_S A s.heap H locs → W p l e R s m args below meth c H locs cells slots Q (F0 m pc ls st)
def cv_MC (l : Launch) (G : cv_G) (y : MethodName) (cc : ByteArray) (maxL fr lo mc ms ci : Nat) (fs0 As : List Value) (tlF : Nat → (Nat → Nat) → va_W) : Prop := ∀ (ws0 : va_W) (h0 sz : Nat), Met l y (Cond.code y cc maxL none :: cv_gw) { frames := fr, cells := mc, slots := ms, locals := lo } (va_Pc (.ref h0 :: As) (fun U => U.heap.size = sz ∧ va_P G.2.1 cv_cl (ws0 ++ [(h0, .inr (ci, fs0))]) U.heap ∧ va_D (fun _ => True) (ws0 ++ [(h0, .inr (ci, fs0))]) ∧ cv_EK G U)) (va_Qv (fun _ : Nat → Nat => True) (fun u t => va_P G.2.1 cv_cl (ws0 ++ tlF h0 u) t.heap ∧ va_D (va_A (ws0 ++ [(h0, .inr (ci, fs0))]) sz) (ws0 ++ tlF h0 u)) (va_A (ws0 ++ [(h0, .inr (ci, fs0))]) sz)) mc ms (va_A (ws0 ++ [(h0, .inr (ci, fs0))]) sz)
def cv_KQ (X : cv_X) (G : cv_G) (ws0 : va_W) (tl : (Nat → Nat) → va_W) (A : Nat → Prop) (mc ms : Nat) : State → Prop := match X with
  | (_, _, _, _, s, _, args, below, _, _) => MQ below (va_Qv (fun _ : Nat → Nat => True) (fun u t => va_P G.2.1 cv_cl (ws0 ++ tl u) t.heap ∧ va_D A (ws0 ++ tl u)) A) args s mc ms A
theorem cv_mkC {l : Launch} {G : cv_G} {y : MethodName} {cc : ByteArray} {maxL fr lo mc ms ci : Nat} {fs0 As : List Value} {tlF : Nat → (Nat → Nat) → va_W} (hy : plainName y.cls = true) (hyn : y.name = "<init>") (hlen : ∀ h0, (lg_sl (.ref h0 :: As)).length ≤ maxL)
    (body : ∀ (X : cv_X) (ws0 : va_W) (h0 : Nat) (A : Nat → Prop), cv_KI X → cv_KC X G l y.cls cc maxL { frames := fr, cells := mc, slots := ms, locals := lo } A → cv_KJ X G maxL 0 0 A (cv_KQ X G ws0 (tlF h0) A mc ms) 0 (lv_args 0 (.ref h0 :: As)) [] (ws0 ++ [(h0, .inr (ci, fs0))])) : cv_MC l G y cc maxL fr lo mc ms ci fs0 As tlF := by
  intro ws0 h0 sz
  refine Met.ofW (cc := cc) (maxL := maxL) (ret := none) hy rfl ?_
  intro p e s m args below meth c s₁ B hml hv
  obtain ⟨rfl, hsz, hP, hD0, hE⟩ := hv
  subst hsz
  have hts := atoms_spec (ws := Cond.code y cc maxL none :: cv_gw) B.pre
  have hown : s.vm.findClass y.cls = some m.cls := findClass_of_methodNamed B.named
  have hl := lv_entry (.ref h0 :: As) (n := maxL) (hlen h0)
  have hin : meth.name = "<init>" := (name_of_methodNamed B.named B.method).1.trans hyn
  rw [lg_entry_eq]
  exact body (p, l, e, _, s, m, (Value.ref h0 :: As).toArray, below, meth, c) ws0 h0 (va_A (ws0 ++ [(h0, .inr (ci, fs0))]) s.heap.size) ⟨B.returns, hin⟩ ⟨B.exec, B.bytes, hml, hown, fun w h => hts w (List.mem_cons_of_mem _ h), B.notSynchronized, hE, rfl, rfl, fun q h => Or.inr h⟩ _ s.heap [] hl hP (hD0.self (sz := s.heap.size)) va_S.rf
theorem cv_at0 {ws0 tl : va_W} {k : Nat} {x : Nat × va_E} (h : tl[k]? = some x) : (ws0 ++ tl)[ws0.length + k]? = some x := by
  rw [List.getElem?_append_right (by omega), Nat.add_sub_cancel_left]; exact h
theorem cv_set0 {ws0 tl tl' : va_W} {k : Nat} {x : Nat × va_E} (h : tl.set k x = tl') : (ws0 ++ tl).set (ws0.length + k) x = ws0 ++ tl' := by
  rw [List.set_append_right _ _ (by omega), Nat.add_sub_cancel_left, h]
theorem cv_apps {a b c d : va_W} (h : b ++ c = d) : a ++ d = (a ++ b) ++ c := by rw [List.append_assoc, h]
theorem cv_appf {a b c d : va_W} (h : b ++ c = d) : (a ++ b) ++ c = a ++ d := by rw [List.append_assoc, h]
section R21
variable {X : cv_X} {G : cv_G} {l0 : Launch} {own : String} {cc : ByteArray} {nL : Nat} {rm : Room} {cells slots : Nat} {A : Nat → Prop} {Q : State → Prop} {pc : Nat} {lv : List (Nat × Value)} {st : List Value} {ws ws' : va_W}
theorem ck_iconst (hC : cv_KC X G l0 own cc nL rm A) {n : Int} {v : Int32} (d : decode cc pc = .ok (.iconst n, 1)) (hv : Int32.ofInt n = v) (k : cv_KJ X G nL cells slots A Q (pc + 1) lv (.int v :: st) ws) : cv_KJ X G nL cells slots A Q pc lv (st) ws := by
  obtain ⟨p, l, e, R, s, m, args, below, meth, c⟩ := X
  intro ls H locs hl hP hD hS
  obtain ⟨hx, hb, hml, hown, hts, hlk, hE, rfl, rfl, hA⟩ := hC
  exact lv_iconst hx hb d hv (k ls H locs hl hP hD hS)
theorem ck_bipush (hC : cv_KC X G l0 own cc nL rm A) {n : Int} {v : Int32} (d : decode cc pc = .ok (.bipush n, 2)) (hv : (Int8.ofInt n).toInt32 = v) (k : cv_KJ X G nL cells slots A Q (pc + 2) lv (.int v :: st) ws) : cv_KJ X G nL cells slots A Q pc lv (st) ws := by
  obtain ⟨p, l, e, R, s, m, args, below, meth, c⟩ := X
  intro ls H locs hl hP hD hS
  obtain ⟨hx, hb, hml, hown, hts, hlk, hE, rfl, rfl, hA⟩ := hC
  exact lv_bipush hx hb d hv (k ls H locs hl hP hD hS)
theorem ck_sipush (hC : cv_KC X G l0 own cc nL rm A) {n : Int} {v : Int32} (d : decode cc pc = .ok (.sipush n, 3)) (hv : (Int16.ofInt n).toInt32 = v) (k : cv_KJ X G nL cells slots A Q (pc + 3) lv (.int v :: st) ws) : cv_KJ X G nL cells slots A Q pc lv (st) ws := by
  obtain ⟨p, l, e, R, s, m, args, below, meth, c⟩ := X
  intro ls H locs hl hP hD hS
  obtain ⟨hx, hb, hml, hown, hts, hlk, hE, rfl, rfl, hA⟩ := hC
  exact lv_sipush hx hb d hv (k ls H locs hl hP hD hS)
theorem ck_aload_n (hC : cv_KC X G l0 own cc nL rm A) {n : Fin 4} {i : Nat} {x : Nat} (q : Nat) (d : decode cc pc = .ok (.aload_n n, 1)) (hi : (n : Nat) = i) (hq : lv[q]? = some (i, .ref x)) (k : cv_KJ X G nL cells slots A Q (pc + 1) lv (.ref x :: st) ws) : cv_KJ X G nL cells slots A Q pc lv (st) ws := by
  obtain ⟨p, l, e, R, s, m, args, below, meth, c⟩ := X
  intro ls H locs hl hP hD hS
  obtain ⟨hx, hb, hml, hown, hts, hlk, hE, rfl, rfl, hA⟩ := hC
  exact lv_aload_n hx hb d hi (lv_at hl q hq) (k ls H locs hl hP hD hS)
theorem ck_aload (hC : cv_KC X G l0 own cc nL rm A) {i : Nat} {x : Nat} (q : Nat) (d : decode cc pc = .ok (.aload i, 2)) (hq : lv[q]? = some (i, .ref x)) (k : cv_KJ X G nL cells slots A Q (pc + 2) lv (.ref x :: st) ws) : cv_KJ X G nL cells slots A Q pc lv (st) ws := by
  obtain ⟨p, l, e, R, s, m, args, below, meth, c⟩ := X
  intro ls H locs hl hP hD hS
  obtain ⟨hx, hb, hml, hown, hts, hlk, hE, rfl, rfl, hA⟩ := hC
  exact lv_aload hx hb d (lv_at hl q hq) (k ls H locs hl hP hD hS)
theorem ck_dup (hC : cv_KC X G l0 own cc nL rm A) {va : Value} (d : decode cc pc = .ok (.dup, 1)) (h1 : va.category = 1) (k : cv_KJ X G nL cells slots A Q (pc + 1) lv (va :: va :: st) ws) : cv_KJ X G nL cells slots A Q pc lv (va :: st) ws := by
  obtain ⟨p, l, e, R, s, m, args, below, meth, c⟩ := X
  intro ls H locs hl hP hD hS
  obtain ⟨hx, hb, hml, hown, hts, hlk, hE, rfl, rfl, hA⟩ := hC
  exact lv_dup hx hb d h1 (k ls H locs hl hP hD hS)
theorem ck_objInit (hC : cv_KC X G l0 own cc nL rm A) {idx a : Nat} (h1 : Cond.methodLink own idx Lib.objectInit ∈ cv_gw) (h2 : Cond.instanceMethod Lib.objectInit ∈ cv_gw) (h3 : Cond.code Lib.objectInit ⟨#[0xb1]⟩ 1 none ∈ cv_gw) (hR : 1 ≤ rm.frames ∧ (st.map fun v => v.category).sum + 12 ≤ rm.locals) (d : decode cc pc = .ok (.invokespecial idx, 3)) (k : cv_KJ X G nL cells slots A Q (pc + 3) lv st ws) : cv_KJ X G nL cells slots A Q pc lv (.ref a :: st) ws := by
  obtain ⟨p, l, e, R, s, m, args, below, meth, c⟩ := X
  intro ls H locs hl hP hD hS
  obtain ⟨hx, hb, hml, hown, hts, hlk, hE, rfl, rfl, hA⟩ := hC
  exact W.objInit hx hb hown (hts _ h1) (hts _ h2) (hts _ h3) rfl (by rw [hml]; exact hl.1) rfl d hR.1 (by show 2 * 0 + _ + 12 ≤ _; have := hR.2; omega) (k ls H locs hl hP hD hS)
theorem ck_newa (hC : cv_KC X G l0 own cc nL rm A) {atype : ArrayType} {ty : FieldType} {n : Int32} {N t : Nat} {a0 : (Nat → Int32) ⊕ (Nat → Int64) ⊕ (Nat → UInt32) ⊕ (Nat → UInt64) ⊕ (Nat → Option Nat)} (harr : Cond.arrayClass (newarray.typeOf atype) ∈ cv_gw) (hty : newarray.typeOf atype = ty) (ht : (cv_tys G)[t]? = some (G.2.2 t, ty)) (hra : ∀ (U : State) (cA : ClassId), va_RA U cA ty → U.vm.findClass ("[" ++ ty.toString) = some cA) (ha : ∀ cA : ClassId, vp_cell cA (N, a0) = arrV cA N (fun _ => defaultValue ty)) (hn : ¬ n < 0) (hN : n.toNatClampNeg = N) (hbytes : N * componentBytes ty ≤ 536870912) (hcs : cells + 1 ≤ rm.cells ∧ slots + N ≤ rm.slots) (d : decode cc pc = .ok (.newarray atype, 2)) {wf : Nat → va_W} (hw : ∀ q, ws ++ [(q, .inl (G.2.2 t, N, a0))] = wf q)
    (k : ∀ q, cv_KJ X G nL (cells + 1) (slots + N) A Q (pc + 2) lv (.ref q :: st) (wf q)) : cv_KJ X G nL cells slots A Q pc lv (.int n :: st) ws := by
  obtain ⟨p, l, e, R, s, m, args, below, meth, c⟩ := X
  intro ls H locs hl hP hD hS
  obtain ⟨hx, hb, hml, hown, hts, hlk, hE, rfl, rfl, hA⟩ := hC
  refine va_newa (a0 := (N, a0)) hx hb (hts _ harr) hty hE.1 hP hD hS hA ha hn hN hbytes hcs.1 hcs.2 d (fun q cA H1 hK1 hP1 hD1 hS1 => ?_)
  have e1 := hra _ _ (hK1.2 (cv_tys G).length (cA, ty) (by rw [List.getElem?_append_right (Nat.le_refl _), Nat.sub_self]; rfl)).2
  have e2 := hra _ _ (hE.1.2 t _ ht).2
  have e3 : cA = G.2.2 t := Option.some.inj (e1.symm.trans e2)
  subst e3
  rw [hw q] at hP1 hD1
  exact k q ls H1 locs hl hP1 hD1 hS1
theorem ck_new (hC : cv_KC X G l0 own cc nL rm A) {C : String} {T : u_T} {N ci index : Nat} {fs : List Value} (ty : Nat → FieldType) (hin : ∀ w ∈ u_ws C T N, w ∈ cv_gw) (hty : ∀ k, k < N → parseFieldDescriptor (T k).2.2.1 = some (ty k)) (h1 : Cond.classLink own index C ∈ cv_gw) (h2 : Cond.instantiable C N ∈ cv_gw) (h3 : Cond.initialized C ∈ cv_gw) (hc : cv_cl[ci]? = some (C, T, N)) (hfs : ∀ j, j < N → defaultValue (ty j) = vp_V fs j) (hcs : cells + 1 ≤ rm.cells ∧ slots + N ≤ rm.slots) (d : decode cc pc = .ok (.new index, 3)) {wf : Nat → va_W} (hw : ∀ q, ws ++ [(q, .inr (ci, fs))] = wf q)
    (k : ∀ q, cv_KJ X G nL (cells + 1) (slots + N) A Q (pc + 3) lv (.ref q :: st) (wf q)) : cv_KJ X G nL cells slots A Q pc lv st ws := by
  obtain ⟨p, l, e, R, s, m, args, below, meth, c⟩ := X
  intro ls H locs hl hP hD hS
  obtain ⟨hx, hb, hml, hown, hts, hlk, hE, rfl, rfl, hA⟩ := hC
  refine va_new (ci := ci) (fs := fs) hx hb hts hin ty hty hown (hts _ h1) (hts _ h2) (hts _ h3) hE.1 hP hD hS hA hc hfs hcs.1 hcs.2 d (fun q H1 hP1 hD1 hS1 => ?_)
  rw [hw q] at hP1 hD1
  exact k q ls H1 locs hl hP1 hD1 hS1
theorem ck_putF (hI : cv_KI X) (hC : cv_KC X G l0 own cc nL rm A) {C : String} {T : u_T} {N ci index a k q0 : Nat} {fs : List Value} {v : Value} {ty : FieldType} (ty0 : Nat → FieldType) (hin : ∀ w ∈ u_ws C T N, w ∈ cv_gw) (hty : ∀ k, k < N → parseFieldDescriptor (T k).2.2.1 = some (ty0 k)) (hnm : ∀ a, a < N → ∀ b, b < N → a ≠ b → (T a).2.1 ≠ (T b).2.1) (he : ws[q0]? = some (a, .inr (ci, fs))) (hc : cv_cl[ci]? = some (C, T, N)) (hk : k < N) (hl0 : Cond.fieldLink own index (T k).1 (T k).2.1 (T k).2.2.1 ∈ cv_gw) (hfin : (T k).2.2.2 = true) (hoT : (T k).1 = own) (hd : parseFieldDescriptor (T k).2.2.1 = some ty) (hn : narrow ty v = v) (hfit : fits ty v = true) (hlen : k < fs.length) (d : decode cc pc = .ok (.putfield index, 3)) (hw : ws.set q0 (a, .inr (ci, fs.set k v)) = ws')
    (kk : cv_KJ X G nL cells slots A Q (pc + 3) lv st ws') : cv_KJ X G nL cells slots A Q pc lv (v :: .ref a :: st) ws := by
  obtain ⟨p, l, e, R, s, m, args, below, meth, c⟩ := X
  intro ls H locs hl hP hD hS
  obtain ⟨hx, hb, hml, hown, hts, hlk, hE, rfl, rfl, hA⟩ := hC
  refine va_putF hx hb hts hin ty0 hty hnm hown hE.1 hP hD hS q0 he hc k hk (hts _ hl0) (fun _ h9 => h9) hfin hI.2 hoT hd hn hfit hlen d (fun H1 locs1 hP1 hD1 hS1 => ?_)
  rw [hw] at hP1 hD1
  exact kk ls H1 locs1 hl hP1 hD1 hS1
theorem ck_put  (hC : cv_KC X G l0 own cc nL rm A) {C : String} {T : u_T} {N ci index a k q0 : Nat} {fs : List Value} {v : Value} {ty : FieldType} (ty0 : Nat → FieldType) (hin : ∀ w ∈ u_ws C T N, w ∈ cv_gw) (hty : ∀ k, k < N → parseFieldDescriptor (T k).2.2.1 = some (ty0 k)) (hnm : ∀ a, a < N → ∀ b, b < N → a ≠ b → (T a).2.1 ≠ (T b).2.1) (he : ws[q0]? = some (a, .inr (ci, fs))) (hc : cv_cl[ci]? = some (C, T, N)) (hk : k < N) (hl0 : Cond.fieldLink own index (T k).1 (T k).2.1 (T k).2.2.1 ∈ cv_gw) (hfin : (T k).2.2.2 = false) (hd : parseFieldDescriptor (T k).2.2.1 = some ty) (hn : narrow ty v = v) (hfit : fits ty v = true) (hlen : k < fs.length) (d : decode cc pc = .ok (.putfield index, 3)) (hw : ws.set q0 (a, .inr (ci, fs.set k v)) = ws')
    (kk : cv_KJ X G nL cells slots A Q (pc + 3) lv st ws') : cv_KJ X G nL cells slots A Q pc lv (v :: .ref a :: st) ws := by
  obtain ⟨p, l, e, R, s, m, args, below, meth, c⟩ := X
  intro ls H locs hl hP hD hS
  obtain ⟨hx, hb, hml, hown, hts, hlk, hE, rfl, rfl, hA⟩ := hC
  refine va_put hx hb hts hin ty0 hty hnm hown hE.1 hP hD hS q0 he hc k hk (hts _ hl0) (fun _ h9 => h9) hfin hd hn hfit hlen d (fun H1 locs1 hP1 hD1 hS1 => ?_)
  rw [hw] at hP1 hD1
  exact kk ls H1 locs1 hl hP1 hD1 hS1
theorem ck_ret (hI : cv_KI X) (hC : cv_KC X G l0 own cc nL rm A) {mc ms : Nat} {ws0 : va_W} {tl : (Nat → Nat) → va_W} (u : Nat → Nat) (hc : cells ≤ mc ∧ slots ≤ ms) (d : decode cc pc = .ok (.return_, 1)) (hw : ws = ws0 ++ tl u) : cv_KJ X G nL cells slots A (cv_KQ X G ws0 tl A mc ms) pc lv [] ws := by
  subst hw
  obtain ⟨p, l, e, R, s, m, args, below, meth, c⟩ := X
  intro ls H locs hl hP hD hS
  obtain ⟨hx, hb, hml, hown, hts, hlk, hE, rfl, rfl, hA⟩ := hC
  exact W.widen (k := mc) (n := ms) hc.1 hc.2 (W.vret hx hb hI.1 (fun t ht hW => ⟨⟨u, rfl, trivial, by rw [ht]; exact hP, hD⟩, hS.F ht⟩) hS.2.2 d)
theorem cv_blindC (G : cv_G) (ws : va_W) (sz : Nat) (av : List Value) : FrameBlind (va_Pc av (fun U => U.heap.size = sz ∧ va_P G.2.1 cv_cl ws U.heap ∧ va_D (fun _ => True) ws ∧ cv_EK G U)) := fun a U g mk q => by
  obtain ⟨q0, q1, q2, q3, q4⟩ := q
  exact ⟨q0, q1, q2, q3, cv_EK.same (u := U) (U := U.calling g mk a) q4 rfl⟩
theorem ck_callI (hC : cv_KC X G l0 own cc nL rm A) {y : MethodName} {bytes : ByteArray} {maxL fr lo kc ks index n ci h0 : Nat} {fs0 : List Value} {tlF : Nat → (Nat → Nat) → va_W} (As rest : List Value) {st0 : List Value} {ws0 : va_W} (hM : cv_MC l0 G y bytes maxL fr lo kc ks ci fs0 As tlF) (hyn : y.name = "<init>") (hl0 : Cond.methodLink own index y ∈ cv_gw) (hw : Cond.instanceMethod y ∈ cv_gw ∧ Cond.initialized y.cls ∈ cv_gw ∧ Cond.code y bytes maxL none ∈ cv_gw ∧ y.cls ≠ "java/lang/invoke/MethodHandle" ∧ y.cls ≠ "java/lang/invoke/VarHandle" ∧ (parseMethodDescriptor y.desc).map (fun d => d.parameters.length) = some n) (hws : ws = ws0 ++ [(h0, .inr (ci, fs0))]) (hn : As.length = n) (hst : st0 = As.reverse ++ .ref h0 :: rest) (hs : (rest.map fun v => v.category).sum ≤ 8) (hR : fr + 1 ≤ rm.frames ∧ 8 + (maxL + 11) + lo ≤ rm.locals) (hcs : cells + kc ≤ rm.cells ∧ slots + ks ≤ rm.slots) (d : decode cc pc = .ok (.invokespecial index, 3)) {wf : (Nat → Nat) → va_W} (hwf : ∀ u, ws0 ++ tlF h0 u = wf u)
    (kk : ∀ u, cv_KJ X G nL (cells + kc) (slots + ks) A Q (pc + 3) lv rest (wf u)) : cv_KJ X G nL cells slots A Q pc lv st0 ws := by
  subst hws
  obtain ⟨p, l, e, R, s, m, args, below, meth, c⟩ := X
  intro ls H locs hl hP hD hS
  obtain ⟨hx, hb, hml, hown, hts, hlk, hE, rfl, rfl, hA⟩ := hC
  obtain ⟨w1, w3, w4, w5, w6, w7⟩ := hw
  have hA1 : ∀ q, va_A (ws0 ++ [(h0, .inr (ci, fs0))]) H.size q → A q := fun q h => h.elim (fun ⟨k, e, hk⟩ => hD.2 k _ hk) (fun h => hA q (Nat.le_trans hS.1 h))
  refine va_callv (A0 := A) (H0 := s.heap) (va_runI (As := As) (rest := rest) ⟨hx, hb, hml, hown, hts⟩ (hM ws0 h0 H.size) ⟨callB_of n hts (cv_good w4) rfl rfl rfl (hts _ w3) (hts _ hl0) ⟨w5, w6, w7⟩ hR, hyn, hts _ w1⟩ ⟨cv_blindC G _ H.size _, fun U hU hW => ⟨rfl, by rw [hU], by rw [hU]; exact hP, hD.weaken (fun _ _ _ _ => trivial), hE.warm hW⟩⟩ rfl hn hl.1 hst (lv_room hs) d hcs) hS (fun q _ h => hA1 q h) hA1 (fun u t H1 locs1 ht hvm hw hB hz1 hk1 hS1 => ?_)
  obtain ⟨hP1, hD1⟩ := hB
  rw [ht] at hP1
  rw [hwf u] at hP1 hD1
  exact kk u ls H1 locs1 hl hP1 (hD1.weaken (fun k q hq h => hA1 _ h)) hS1
theorem ck_callIN (hC : cv_KC X G l0 own cc nL rm A) {y : MethodName} {bytes : ByteArray} {maxL fr lo kc ks index n ci h0 : Nat} {fs0 : List Value} {tlF : Nat → (Nat → Nat) → va_W} (As rest : List Value) {st0 : List Value} {ws0 : va_W} (hM : cv_MC l0 G y bytes maxL fr lo kc ks ci fs0 As tlF) (hyn : y.name = "<init>") (hl0 : ∀ U, cv_NK U → va_Nw (.methodLinkNest own index y RX8) U) (hw : Cond.instanceMethod y ∈ cv_gw ∧ Cond.initialized y.cls ∈ cv_gw ∧ Cond.code y bytes maxL none ∈ cv_gw ∧ y.cls ≠ "java/lang/invoke/MethodHandle" ∧ y.cls ≠ "java/lang/invoke/VarHandle" ∧ (parseMethodDescriptor y.desc).map (fun d => d.parameters.length) = some n) (hws : ws = ws0 ++ [(h0, .inr (ci, fs0))]) (hn : As.length = n) (hst : st0 = As.reverse ++ .ref h0 :: rest) (hs : (rest.map fun v => v.category).sum ≤ 8) (hR : fr + 1 ≤ rm.frames ∧ 8 + (maxL + 11) + lo ≤ rm.locals) (hcs : cells + kc ≤ rm.cells ∧ slots + ks ≤ rm.slots) (d : decode cc pc = .ok (.invokespecial index, 3)) {wf : (Nat → Nat) → va_W} (hwf : ∀ u, ws0 ++ tlF h0 u = wf u)
    (kk : ∀ u, cv_KJ X G nL (cells + kc) (slots + ks) A Q (pc + 3) lv rest (wf u)) : cv_KJ X G nL cells slots A Q pc lv st0 ws := by
  subst hws
  obtain ⟨p, l, e, R, s, m, args, below, meth, c⟩ := X
  intro ls H locs hl hP hD hS
  obtain ⟨hx, hb, hml, hown, hts, hlk, hE, rfl, rfl, hA⟩ := hC
  obtain ⟨w1, w3, w4, w5, w6, w7⟩ := hw
  have hA1 : ∀ q, va_A (ws0 ++ [(h0, .inr (ci, fs0))]) H.size q → A q := fun q h => h.elim (fun ⟨k, e, hk⟩ => hD.2 k _ hk) (fun h => hA q (Nat.le_trans hS.1 h))
  refine va_callv (A0 := A) (H0 := s.heap) (va_runIN (host := RX8) (As := As) (rest := rest) ⟨hx, hb, hml, hown, hts⟩ (hM ws0 h0 H.size) ⟨va_cnB n hts (cv_good w4) rfl rfl rfl (hl0 s hE.2) (hts _ w3) ⟨w5, w6, w7⟩ hR, hyn, hts _ w1⟩ ⟨cv_blindC G _ H.size _, fun U hU hW => ⟨rfl, by rw [hU], by rw [hU]; exact hP, hD.weaken (fun _ _ _ _ => trivial), hE.warm hW⟩⟩ rfl hn hl.1 hst (lv_room hs) d hcs) hS (fun q _ h => hA1 q h) hA1 (fun u t H1 locs1 ht hvm hw hB hz1 hk1 hS1 => ?_)
  obtain ⟨hP1, hD1⟩ := hB
  rw [ht] at hP1
  rw [hwf u] at hP1 hD1
  exact kk u ls H1 locs1 hl hP1 (hD1.weaken (fun k q hq h => hA1 _ h)) hS1
theorem ck_astore_n (hC : cv_KC X G l0 own cc nL rm A) {n : Fin 4} {i x : Nat} {lv' : List (Nat × Value)} (d : decode cc pc = .ok (.astore_n n, 1)) (hi : (n : Nat) = i) (hn : i < nL) (hq : (i, Value.ref x) :: lv.filter (fun q => !(q.1 == i) && !(q.1 + 1 == i && q.2.category == 2)) = lv') (k : cv_KJ X G nL cells slots A Q (pc + 1) lv' st ws) : cv_KJ X G nL cells slots A Q pc lv (.ref x :: st) ws := by
  obtain ⟨p, l, e, R, s, m, args, below, meth, c⟩ := X
  intro ls H locs hl hP hD hS
  obtain ⟨hx, hb, hml, hown, hts, hlk, hE, rfl, rfl, hA⟩ := hC
  exact lv_astore_n hx hb d hi hl hn hq (fun ls2 hl2 => k ls2 H locs hl2 hP hD hS)
theorem ck_astore (hC : cv_KC X G l0 own cc nL rm A) {i x : Nat} {lv' : List (Nat × Value)} (d : decode cc pc = .ok (.astore i, 2)) (hn : i < nL) (hq : (i, Value.ref x) :: lv.filter (fun q => !(q.1 == i) && !(q.1 + 1 == i && q.2.category == 2)) = lv') (k : cv_KJ X G nL cells slots A Q (pc + 2) lv' st ws) : cv_KJ X G nL cells slots A Q pc lv (.ref x :: st) ws := by
  obtain ⟨p, l, e, R, s, m, args, below, meth, c⟩ := X
  intro ls H locs hl hP hD hS
  obtain ⟨hx, hb, hml, hown, hts, hlk, hE, rfl, rfl, hA⟩ := hC
  exact lv_astore hx hb d hl hn hq (fun ls2 hl2 => k ls2 H locs hl2 hP hD hS)
theorem ck_istore (hC : cv_KC X G l0 own cc nL rm A) {i : Nat} {x : Int32} {lv' : List (Nat × Value)} (d : decode cc pc = .ok (.istore i, 2)) (hn : i < nL) (hq : (i, Value.int x) :: lv.filter (fun q => !(q.1 == i) && !(q.1 + 1 == i && q.2.category == 2)) = lv') (k : cv_KJ X G nL cells slots A Q (pc + 2) lv' st ws) : cv_KJ X G nL cells slots A Q pc lv (.int x :: st) ws := by
  obtain ⟨p, l, e, R, s, m, args, below, meth, c⟩ := X
  intro ls H locs hl hP hD hS
  obtain ⟨hx, hb, hml, hown, hts, hlk, hE, rfl, rfl, hA⟩ := hC
  exact lv_istore hx hb d hl hn hq (fun ls2 hl2 => k ls2 H locs hl2 hP hD hS)
theorem ck_get (hC : cv_KC X G l0 own cc nL rm A) {C : String} {T : u_T} {N ci index a k q0 : Nat} {fs : List Value} {v : Value} (hin : ∀ w ∈ u_ws C T N, w ∈ cv_gw) (he : ws[q0]? = some (a, .inr (ci, fs))) (hc : cv_cl[ci]? = some (C, T, N)) (hk : k < N) (hl0 : Cond.fieldLink own index (T k).1 (T k).2.1 (T k).2.2.1 ∈ cv_gw) (hv : fs[k]? = some v) (d : decode cc pc = .ok (.getfield index, 3)) (kk : cv_KJ X G nL cells slots A Q (pc + 3) lv (v :: st) ws) : cv_KJ X G nL cells slots A Q pc lv (.ref a :: st) ws := by
  obtain ⟨p, l, e, R, s, m, args, below, meth, c⟩ := X
  intro ls H locs hl hP hD hS
  obtain ⟨hx, hb, hml, hown, hts, hlk, hE, rfl, rfl, hA⟩ := hC
  exact va_get hx hb hts hin hown hE.1 hP q0 he hc k hk (hts _ hl0) (fun _ h9 => h9) hv d (kk ls H locs hl hP hD hS)
end R21
