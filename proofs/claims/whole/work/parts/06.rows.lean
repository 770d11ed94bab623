abbrev cv_X : Type := Program × Launch × Env × Room × State × MethodId × Array Value × List Frame × Method × Code
def cv_A (G : cv_G) (sz : Nat) : Nat → Prop := fun q => (∃ k, k < 68 ∧ G.1 k = q) ∨ sz ≤ q
def cv_inj (G : cv_G) : Prop := ∀ i j, i < 68 → j < 68 → G.1 i = G.1 j → i = j
/-- the nest mates' links -/
def cv_N (U : State) : Prop := va_Nw (.methodLinkNest RX2 35 yX8_contains RX8) U ∧ va_Nw (.methodLinkNest RX7 94 yX8_contains RX8) U ∧ va_Nw (.methodLinkNest RX4 83 yX8_contains RX8) U
def cv_E (G : cv_G) (U : State) : Prop := va_K G.2.1 cv_cl (cv_tys G) U ∧ cv_N U ∧ cv_inj G
theorem cv_E.warm {G : cv_G} {s U : State} (h : cv_E G s) (hW : s.WarmedH U.vm) : cv_E G U := ⟨va_K.moved hW.alike h.1, ⟨va_Nw.warmM hW h.2.1.1, va_Nw.warmM hW h.2.1.2.1, va_Nw.warmM hW h.2.1.2.2⟩, h.2.2⟩
theorem cv_E.same {G : cv_G} {u U : State} (h : cv_E G u) (hv : u.vm = U.vm) : cv_E G U := ⟨va_K.moved (by rw [hv]; exact Vm.Alike.refl U.vm) h.1, ⟨va_Nw.same rfl hv h.2.1.1, va_Nw.same rfl hv h.2.1.2.1, va_Nw.same rfl hv h.2.1.2.2⟩, h.2.2⟩
theorem cv_w_at {G : cv_G} {σ : cv_St} {i : Nat} {q : Nat × va_E} (h : (cv_w G σ)[i]? = some q) : i < 68 ∧ q.1 = G.1 i := by
  have h1 : ((cv_w G σ).map (fun z => z.1))[i]? = some q.1 := by rw [List.getElem?_map, h]; rfl
  have h2 : (cv_w G σ).map (fun z => z.1) = (List.range 68).map G.1 := rfl
  rw [h2, List.getElem?_map] at h1
  have hlt : i < 68 := by
    rcases Nat.lt_or_ge i 68 with hh | hh
    · exact hh
    · rw [List.getElem?_eq_none (by simpa using hh)] at h1
      simp at h1
  rw [List.getElem?_range hlt] at h1
  exact ⟨hlt, (Option.some.inj h1).symm⟩
theorem cv_D {G : cv_G} {σ : cv_St} (hG : cv_inj G) (sz : Nat) : va_D (cv_A G sz) (cv_w G σ) :=
  ⟨fun i j a b hi hj he => by
    obtain ⟨h1, h2⟩ := cv_w_at hi
    obtain ⟨h3, h4⟩ := cv_w_at hj
    exact hG i j h1 h3 (by rw [← h2, ← h4]; exact he),
   fun k q h => by
    obtain ⟨h1, h2⟩ := cv_w_at h
    exact Or.inl ⟨k, h1, h2.symm⟩⟩
/-- what holds in a method's body: the machine, its code, its class, the words, the world's classes -/
def cv_C (X : cv_X) (G : cv_G) (l0 : Launch) (own : String) (cc : ByteArray) (nL : Nat) (ret : Option FieldType) (rm : Room) : Prop := match X with
  | (p, l, _, R, s, m, args, _, meth, c) => p.tables.exec = Jvm.exec ∧ c.code = cc ∧ c.maxLocals = nL ∧ s.vm.findClass own = some m.cls ∧ (∀ w ∈ cv_gw, w.before args s = true) ∧ meth.sig.returnType = ret ∧ meth.locks = false ∧ cv_E G s ∧ R = rm ∧ l = l0
/-- from pc with these locals and this stack the machine ends as F says -/
def cv_J (X : cv_X) (G : cv_G) (nL cells slots : Nat) {α : Type} (Qf : α → State → Prop) (pc : Nat) (lv : List (Nat × Value)) (st : List Value) (σ : cv_St) (F : Option α) : Prop := match X with
  | (p, l, e, R, s, m, args, below, meth, c) => ∀ (ls : Array Slot) (H : Heap) (locs : List Loc), lv_has ls nL lv → va_P G.2.1 cv_cl (cv_w G σ) H → va_S (cv_A G s.heap.size) s.heap H locs → ∀ r, F = some r → W p l e R s m args below meth c H locs cells slots (Qf r) (F0 m pc ls st)
def cv_Pc (G : cv_G) (sz : Nat) (av : List Value) (σ : cv_St) : Array Value → State → Prop := va_Pc av (fun U => U.heap.size = sz ∧ va_P G.2.1 cv_cl (cv_w G σ) U.heap ∧ cv_E G U)
def cv_B (G : cv_G) (u : cv_St) (t : State) : Prop := va_P G.2.1 cv_cl (cv_w G u) t.heap
/-- contracts: a whole number, nothing -/
def cv_MI (l : Launch) (G : cv_G) (y : MethodName) (cc : ByteArray) (maxL : Nat) (ret : Option FieldType) (fr lo : Nat) (av : List Value) (σ : cv_St) (F : Option (Int32 × cv_St)) : Prop :=
  ∀ (sz : Nat) (r : Int32 × cv_St), F = some r → Met l y (Cond.code y cc maxL ret :: cv_gw) { frames := fr, cells := 0, slots := 0, locals := lo } (cv_Pc G sz av σ) (va_Qi (fun v u => (v, u) = r) (cv_B G) (cv_A G sz)) 0 0 (cv_A G sz)
def cv_MV (l : Launch) (G : cv_G) (y : MethodName) (cc : ByteArray) (maxL : Nat) (fr lo : Nat) (av : List Value) (σ : cv_St) (F : Option cv_St) : Prop :=
  ∀ (sz : Nat) (r : cv_St), F = some r → Met l y (Cond.code y cc maxL none :: cv_gw) { frames := fr, cells := 0, slots := 0, locals := lo } (cv_Pc G sz av σ) (va_Qv (fun u => u = r) (cv_B G) (cv_A G sz)) 0 0 (cv_A G sz)
def cv_QI (X : cv_X) (G : cv_G) : Int32 × cv_St → State → Prop := match X with
  | (_, _, _, _, s, _, args, below, _, _) => fun r => MQ below (va_Qi (fun v u => (v, u) = r) (cv_B G) (cv_A G s.heap.size)) args s 0 0 (cv_A G s.heap.size)
def cv_QV (X : cv_X) (G : cv_G) : cv_St → State → Prop := match X with
  | (_, _, _, _, s, _, args, below, _, _) => fun r => MQ below (va_Qv (fun u => u = r) (cv_B G) (cv_A G s.heap.size)) args s 0 0 (cv_A G s.heap.size)
theorem cv_blind (G : cv_G) (sz : Nat) (av : List Value) (σ : cv_St) : FrameBlind (cv_Pc G sz av σ) := fun a U g mk q => by
  obtain ⟨q0, q1, q2, q3⟩ := q
  exact ⟨q0, q1, q2, cv_E.same (u := U) (U := U.calling g mk a) q3 rfl⟩
/-- a method's contract out of its body -/
theorem cv_mkI {l : Launch} {G : cv_G} {y : MethodName} {cc : ByteArray} {maxL : Nat} {ret : Option FieldType} {fr lo : Nat} {av : List Value} {σ : cv_St} {F : Option (Int32 × cv_St)} (hy : plainName y.cls = true) (hlen : (lg_sl av).length ≤ maxL)
    (body : ∀ X : cv_X, cv_C X G l y.cls cc maxL ret { frames := fr, cells := 0, slots := 0, locals := lo } → cv_J X G maxL 0 0 (cv_QI X G) 0 (lv_args 0 av) [] σ F) : cv_MI l G y cc maxL ret fr lo av σ F := by
  intro sz r hF
  refine Met.ofW (cc := cc) (maxL := maxL) (ret := ret) hy rfl ?_
  intro p e s m args below meth c s₁ B hml hv
  obtain ⟨rfl, hsz, hP, hE⟩ := hv
  subst hsz
  have hts := atoms_spec (ws := Cond.code y cc maxL ret :: cv_gw) B.pre
  have hown : s.vm.findClass y.cls = some m.cls := findClass_of_methodNamed B.named
  have hl := lv_entry av (n := maxL) hlen
  rw [lg_entry_eq]
  exact body (p, l, e, _, s, m, av.toArray, below, meth, c) ⟨B.exec, B.bytes, hml, hown, fun w h => hts w (List.mem_cons_of_mem _ h), B.returns, B.notSynchronized, hE, rfl, rfl⟩ _ s.heap [] hl hP va_S.rf r hF
theorem cv_mkV {l : Launch} {G : cv_G} {y : MethodName} {cc : ByteArray} {maxL : Nat} {fr lo : Nat} {av : List Value} {σ : cv_St} {F : Option cv_St} (hy : plainName y.cls = true) (hlen : (lg_sl av).length ≤ maxL)
    (body : ∀ X : cv_X, cv_C X G l y.cls cc maxL none { frames := fr, cells := 0, slots := 0, locals := lo } → cv_J X G maxL 0 0 (cv_QV X G) 0 (lv_args 0 av) [] σ F) : cv_MV l G y cc maxL fr lo av σ F := by
  intro sz r hF
  refine Met.ofW (cc := cc) (maxL := maxL) (ret := none) hy rfl ?_
  intro p e s m args below meth c s₁ B hml hv
  obtain ⟨rfl, hsz, hP, hE⟩ := hv
  subst hsz
  have hts := atoms_spec (ws := Cond.code y cc maxL none :: cv_gw) B.pre
  have hown : s.vm.findClass y.cls = some m.cls := findClass_of_methodNamed B.named
  have hl := lv_entry av (n := maxL) hlen
  rw [lg_entry_eq]
  exact body (p, l, e, _, s, m, av.toArray, below, meth, c) ⟨B.exec, B.bytes, hml, hown, fun w h => hts w (List.mem_cons_of_mem _ h), B.returns, B.notSynchronized, hE, rfl, rfl⟩ _ s.heap [] hl hP va_S.rf r hF
/-- the pieces that F is made of -/
def cv_ld {α : Type} (σ : cv_St) (k n : Nat) (i : Int32) (K : Int32 → Option α) : Option α := if i < 0 ∨ n ≤ i.toNatClampNeg then none else K (σ.1 k i.toNatClampNeg)
def cv_st {α : Type} (σ : cv_St) (k n : Nat) (i v : Int32) (K : cv_St → Option α) : Option α := if i < 0 ∨ n ≤ i.toNatClampNeg then none else K (cv_sA σ k i.toNatClampNeg v)
def cv_isZ (v : Int32) : Prop := v = 0 ∨ v = 1
def cv_isC (v : Int32) : Prop := 0 ≤ v ∧ v < 65536
section R06
variable {X : cv_X} {G : cv_G} {l0 : Launch} {own : String} {cc : ByteArray} {nL : Nat} {ret : Option FieldType} {rm : Room} {cells slots : Nat} {α : Type} {Qf : α → State → Prop} {pc : Nat} {lv : List (Nat × Value)} {st : List Value} {σ : cv_St} {F : Option α}
theorem cv_none : cv_J X G nL cells slots Qf pc lv st σ none := by
  obtain ⟨p, l, e, R, s, m, args, below, meth, c⟩ := X
  intro ls H locs _ _ _ r h
  cases h
theorem cv_sub {lv' : List (Nat × Value)} (ks : List Nat) (h : lv_pick lv ks = lv') (k : cv_J X G nL cells slots Qf pc lv' st σ F) : cv_J X G nL cells slots Qf pc lv st σ F := by
  obtain ⟨p, l, e, R, s, m, args, below, meth, c⟩ := X
  intro ls H locs hl hP hS r hF
  exact k ls H locs (lv_sub hl ks h) hP hS r hF
theorem cv_iconst (hC : cv_C X G l0 own cc nL ret rm) {n : Int} {v : Int32} (d : decode cc pc = .ok (.iconst n, 1)) (hv : Int32.ofInt n = v) (k : cv_J X G nL cells slots Qf (pc + 1) lv (.int v :: st) σ F) : cv_J X G nL cells slots Qf pc lv (st) σ F := by
  obtain ⟨p, l, e, R, s, m, args, below, meth, c⟩ := X
  intro ls H locs hl hP hS r hF
  exact lv_iconst hC.1 hC.2.1 d hv (k ls H locs hl hP hS r hF)
theorem cv_bipush (hC : cv_C X G l0 own cc nL ret rm) {n : Int} {v : Int32} (d : decode cc pc = .ok (.bipush n, 2)) (hv : (Int8.ofInt n).toInt32 = v) (k : cv_J X G nL cells slots Qf (pc + 2) lv (.int v :: st) σ F) : cv_J X G nL cells slots Qf pc lv (st) σ F := by
  obtain ⟨p, l, e, R, s, m, args, below, meth, c⟩ := X
  intro ls H locs hl hP hS r hF
  exact lv_bipush hC.1 hC.2.1 d hv (k ls H locs hl hP hS r hF)
theorem cv_sipush (hC : cv_C X G l0 own cc nL ret rm) {n : Int} {v : Int32} (d : decode cc pc = .ok (.sipush n, 3)) (hv : (Int16.ofInt n).toInt32 = v) (k : cv_J X G nL cells slots Qf (pc + 3) lv (.int v :: st) σ F) : cv_J X G nL cells slots Qf pc lv (st) σ F := by
  obtain ⟨p, l, e, R, s, m, args, below, meth, c⟩ := X
  intro ls H locs hl hP hS r hF
  exact lv_sipush hC.1 hC.2.1 d hv (k ls H locs hl hP hS r hF)
theorem cv_lconst (hC : cv_C X G l0 own cc nL ret rm) {n : Fin 2} {v : Int64} (d : decode cc pc = .ok (.lconst n, 1)) (hv : Int64.ofNat (n : Nat) = v) (k : cv_J X G nL cells slots Qf (pc + 1) lv (.long v :: st) σ F) : cv_J X G nL cells slots Qf pc lv (st) σ F := by
  obtain ⟨p, l, e, R, s, m, args, below, meth, c⟩ := X
  intro ls H locs hl hP hS r hF
  exact lv_lconst hC.1 hC.2.1 d hv (k ls H locs hl hP hS r hF)
theorem cv_iload_n (hC : cv_C X G l0 own cc nL ret rm) {n : Fin 4} {i : Nat} {x : Int32} (q : Nat) (d : decode cc pc = .ok (.iload_n n, 1)) (hi : (n : Nat) = i) (hq : lv[q]? = some (i, .int x)) (k : cv_J X G nL cells slots Qf (pc + 1) lv (.int x :: st) σ F) : cv_J X G nL cells slots Qf pc lv (st) σ F := by
  obtain ⟨p, l, e, R, s, m, args, below, meth, c⟩ := X
  intro ls H locs hl hP hS r hF
  exact lv_iload_n hC.1 hC.2.1 d hi (lv_at hl q hq) (k ls H locs hl hP hS r hF)
theorem cv_iload (hC : cv_C X G l0 own cc nL ret rm) {i : Nat} {x : Int32} (q : Nat) (d : decode cc pc = .ok (.iload i, 2)) (hq : lv[q]? = some (i, .int x)) (k : cv_J X G nL cells slots Qf (pc + 2) lv (.int x :: st) σ F) : cv_J X G nL cells slots Qf pc lv (st) σ F := by
  obtain ⟨p, l, e, R, s, m, args, below, meth, c⟩ := X
  intro ls H locs hl hP hS r hF
  exact lv_iload hC.1 hC.2.1 d (lv_at hl q hq) (k ls H locs hl hP hS r hF)
theorem cv_aload_n (hC : cv_C X G l0 own cc nL ret rm) {n : Fin 4} {i : Nat} {x : Nat} (q : Nat) (d : decode cc pc = .ok (.aload_n n, 1)) (hi : (n : Nat) = i) (hq : lv[q]? = some (i, .ref x)) (k : cv_J X G nL cells slots Qf (pc + 1) lv (.ref x :: st) σ F) : cv_J X G nL cells slots Qf pc lv (st) σ F := by
  obtain ⟨p, l, e, R, s, m, args, below, meth, c⟩ := X
  intro ls H locs hl hP hS r hF
  exact lv_aload_n hC.1 hC.2.1 d hi (lv_at hl q hq) (k ls H locs hl hP hS r hF)
theorem cv_aload (hC : cv_C X G l0 own cc nL ret rm) {i : Nat} {x : Nat} (q : Nat) (d : decode cc pc = .ok (.aload i, 2)) (hq : lv[q]? = some (i, .ref x)) (k : cv_J X G nL cells slots Qf (pc + 2) lv (.ref x :: st) σ F) : cv_J X G nL cells slots Qf pc lv (st) σ F := by
  obtain ⟨p, l, e, R, s, m, args, below, meth, c⟩ := X
  intro ls H locs hl hP hS r hF
  exact lv_aload hC.1 hC.2.1 d (lv_at hl q hq) (k ls H locs hl hP hS r hF)
theorem cv_lload_n (hC : cv_C X G l0 own cc nL ret rm) {n : Fin 4} {i : Nat} {x : Int64} (q : Nat) (d : decode cc pc = .ok (.lload_n n, 1)) (hi : (n : Nat) = i) (hq : lv[q]? = some (i, .long x)) (k : cv_J X G nL cells slots Qf (pc + 1) lv (.long x :: st) σ F) : cv_J X G nL cells slots Qf pc lv (st) σ F := by
  obtain ⟨p, l, e, R, s, m, args, below, meth, c⟩ := X
  intro ls H locs hl hP hS r hF
  exact lv_lload_n hC.1 hC.2.1 d hi (lv_at hl q hq) (k ls H locs hl hP hS r hF)
theorem cv_lload (hC : cv_C X G l0 own cc nL ret rm) {i : Nat} {x : Int64} (q : Nat) (d : decode cc pc = .ok (.lload i, 2)) (hq : lv[q]? = some (i, .long x)) (k : cv_J X G nL cells slots Qf (pc + 2) lv (.long x :: st) σ F) : cv_J X G nL cells slots Qf pc lv (st) σ F := by
  obtain ⟨p, l, e, R, s, m, args, below, meth, c⟩ := X
  intro ls H locs hl hP hS r hF
  exact lv_lload hC.1 hC.2.1 d (lv_at hl q hq) (k ls H locs hl hP hS r hF)
theorem cv_iadd (hC : cv_C X G l0 own cc nL ret rm) {x y : Int32} (d : decode cc pc = .ok (.iadd, 1)) (k : cv_J X G nL cells slots Qf (pc + 1) lv (.int (x + y) :: st) σ F) : cv_J X G nL cells slots Qf pc lv (.int y :: .int x :: st) σ F := by
  obtain ⟨p, l, e, R, s, m, args, below, meth, c⟩ := X
  intro ls H locs hl hP hS r hF
  exact lv_iadd hC.1 hC.2.1 d (k ls H locs hl hP hS r hF)
theorem cv_isub (hC : cv_C X G l0 own cc nL ret rm) {x y : Int32} (d : decode cc pc = .ok (.isub, 1)) (k : cv_J X G nL cells slots Qf (pc + 1) lv (.int (x - y) :: st) σ F) : cv_J X G nL cells slots Qf pc lv (.int y :: .int x :: st) σ F := by
  obtain ⟨p, l, e, R, s, m, args, below, meth, c⟩ := X
  intro ls H locs hl hP hS r hF
  exact lv_isub hC.1 hC.2.1 d (k ls H locs hl hP hS r hF)
theorem cv_imul (hC : cv_C X G l0 own cc nL ret rm) {x y : Int32} (d : decode cc pc = .ok (.imul, 1)) (k : cv_J X G nL cells slots Qf (pc + 1) lv (.int (x * y) :: st) σ F) : cv_J X G nL cells slots Qf pc lv (.int y :: .int x :: st) σ F := by
  obtain ⟨p, l, e, R, s, m, args, below, meth, c⟩ := X
  intro ls H locs hl hP hS r hF
  exact lv_imul hC.1 hC.2.1 d (k ls H locs hl hP hS r hF)
theorem cv_iand (hC : cv_C X G l0 own cc nL ret rm) {x y : Int32} (d : decode cc pc = .ok (.iand, 1)) (k : cv_J X G nL cells slots Qf (pc + 1) lv (.int (x &&& y) :: st) σ F) : cv_J X G nL cells slots Qf pc lv (.int y :: .int x :: st) σ F := by
  obtain ⟨p, l, e, R, s, m, args, below, meth, c⟩ := X
  intro ls H locs hl hP hS r hF
  exact lv_iand hC.1 hC.2.1 d (k ls H locs hl hP hS r hF)
theorem cv_ior (hC : cv_C X G l0 own cc nL ret rm) {x y : Int32} (d : decode cc pc = .ok (.ior, 1)) (k : cv_J X G nL cells slots Qf (pc + 1) lv (.int (x ||| y) :: st) σ F) : cv_J X G nL cells slots Qf pc lv (.int y :: .int x :: st) σ F := by
  obtain ⟨p, l, e, R, s, m, args, below, meth, c⟩ := X
  intro ls H locs hl hP hS r hF
  exact lv_ior hC.1 hC.2.1 d (k ls H locs hl hP hS r hF)
theorem cv_ixor (hC : cv_C X G l0 own cc nL ret rm) {x y : Int32} (d : decode cc pc = .ok (.ixor, 1)) (k : cv_J X G nL cells slots Qf (pc + 1) lv (.int (x ^^^ y) :: st) σ F) : cv_J X G nL cells slots Qf pc lv (.int y :: .int x :: st) σ F := by
  obtain ⟨p, l, e, R, s, m, args, below, meth, c⟩ := X
  intro ls H locs hl hP hS r hF
  exact lv_ixor hC.1 hC.2.1 d (k ls H locs hl hP hS r hF)
theorem cv_ishl (hC : cv_C X G l0 own cc nL ret rm) {x y : Int32} (d : decode cc pc = .ok (.ishl, 1)) (k : cv_J X G nL cells slots Qf (pc + 1) lv (.int (x <<< (y &&& 31)) :: st) σ F) : cv_J X G nL cells slots Qf pc lv (.int y :: .int x :: st) σ F := by
  obtain ⟨p, l, e, R, s, m, args, below, meth, c⟩ := X
  intro ls H locs hl hP hS r hF
  exact lv_ishl hC.1 hC.2.1 d (k ls H locs hl hP hS r hF)
theorem cv_ishr (hC : cv_C X G l0 own cc nL ret rm) {x y : Int32} (d : decode cc pc = .ok (.ishr, 1)) (k : cv_J X G nL cells slots Qf (pc + 1) lv (.int (x >>> (y &&& 31)) :: st) σ F) : cv_J X G nL cells slots Qf pc lv (.int y :: .int x :: st) σ F := by
  obtain ⟨p, l, e, R, s, m, args, below, meth, c⟩ := X
  intro ls H locs hl hP hS r hF
  exact lv_ishr hC.1 hC.2.1 d (k ls H locs hl hP hS r hF)
theorem cv_idiv (hC : cv_C X G l0 own cc nL ret rm) {x y : Int32} (d : decode cc pc = .ok (.idiv, 1)) (hne : ¬ y = 0) (k : cv_J X G nL cells slots Qf (pc + 1) lv (.int (x / y) :: st) σ F) : cv_J X G nL cells slots Qf pc lv (.int y :: .int x :: st) σ F := by
  obtain ⟨p, l, e, R, s, m, args, below, meth, c⟩ := X
  intro ls H locs hl hP hS r hF
  exact lv_idiv hC.1 hC.2.1 d hne (k ls H locs hl hP hS r hF)
theorem cv_irem (hC : cv_C X G l0 own cc nL ret rm) {x y : Int32} (d : decode cc pc = .ok (.irem, 1)) (hne : ¬ y = 0) (k : cv_J X G nL cells slots Qf (pc + 1) lv (.int (x - x / y * y) :: st) σ F) : cv_J X G nL cells slots Qf pc lv (.int y :: .int x :: st) σ F := by
  obtain ⟨p, l, e, R, s, m, args, below, meth, c⟩ := X
  intro ls H locs hl hP hS r hF
  exact lv_irem hC.1 hC.2.1 d hne (k ls H locs hl hP hS r hF)
theorem cv_i2l (hC : cv_C X G l0 own cc nL ret rm) {x : Int32} (d : decode cc pc = .ok (.i2l, 1)) (k : cv_J X G nL cells slots Qf (pc + 1) lv (.long x.toInt64 :: st) σ F) : cv_J X G nL cells slots Qf pc lv (.int x :: st) σ F := by
  obtain ⟨p, l, e, R, s, m, args, below, meth, c⟩ := X
  intro ls H locs hl hP hS r hF
  exact lv_i2l hC.1 hC.2.1 d rfl (k ls H locs hl hP hS r hF)
theorem cv_i2c (hC : cv_C X G l0 own cc nL ret rm) {x : Int32} (d : decode cc pc = .ok (.i2c, 1)) (k : cv_J X G nL cells slots Qf (pc + 1) lv (.int (x.toUInt32 % 65536).toInt32 :: st) σ F) : cv_J X G nL cells slots Qf pc lv (.int x :: st) σ F := by
  obtain ⟨p, l, e, R, s, m, args, below, meth, c⟩ := X
  intro ls H locs hl hP hS r hF
  exact lv_i2c hC.1 hC.2.1 d rfl (k ls H locs hl hP hS r hF)
theorem cv_lcmp (hC : cv_C X G l0 own cc nL ret rm) {x y : Int64} (d : decode cc pc = .ok (.lcmp, 1)) (k : cv_J X G nL cells slots Qf (pc + 1) lv (.int (lg_cmp x y) :: st) σ F) : cv_J X G nL cells slots Qf pc lv (.long y :: .long x :: st) σ F := by
  obtain ⟨p, l, e, R, s, m, args, below, meth, c⟩ := X
  intro ls H locs hl hP hS r hF
  exact W.lcmp hC.1 hC.2.1 d (k ls H locs hl hP hS r hF)
theorem cv_dup (hC : cv_C X G l0 own cc nL ret rm) {va : Value} (d : decode cc pc = .ok (.dup, 1)) (h1 : va.category = 1) (k : cv_J X G nL cells slots Qf (pc + 1) lv (va :: va :: st) σ F) : cv_J X G nL cells slots Qf pc lv (va :: st) σ F := by
  obtain ⟨p, l, e, R, s, m, args, below, meth, c⟩ := X
  intro ls H locs hl hP hS r hF
  exact lv_dup hC.1 hC.2.1 d h1 (k ls H locs hl hP hS r hF)
theorem cv_dup2 (hC : cv_C X G l0 own cc nL ret rm) {va vb : Value} (d : decode cc pc = .ok (.dup2, 1)) (h1 : va.category = 1) (h2 : vb.category = 1) (k : cv_J X G nL cells slots Qf (pc + 1) lv (va :: vb :: va :: vb :: st) σ F) : cv_J X G nL cells slots Qf pc lv (va :: vb :: st) σ F := by
  obtain ⟨p, l, e, R, s, m, args, below, meth, c⟩ := X
  intro ls H locs hl hP hS r hF
  exact lv_dup2_11 hC.1 hC.2.1 d h1 h2 (k ls H locs hl hP hS r hF)
theorem cv_goto (hC : cv_C X G l0 own cc nL ret rm) {off : Int} {tgt : Nat} (d : decode cc pc = .ok (.goto off, 3)) (ht : (pc : Int) + off = (tgt : Int)) (k : cv_J X G nL cells slots Qf tgt lv st σ F) : cv_J X G nL cells slots Qf pc lv st σ F := by
  obtain ⟨p, l, e, R, s, m, args, below, meth, c⟩ := X
  intro ls H locs hl hP hS r hF
  exact lv_goto hC.1 hC.2.1 d ht (k ls H locs hl hP hS r hF)
theorem cv_istore_n (hC : cv_C X G l0 own cc nL ret rm) {n : Fin 4} {i : Nat} {x : Int32} {lv' : List (Nat × Value)} (d : decode cc pc = .ok (.istore_n n, 1)) (hi : (n : Nat) = i) (hn : i < nL) (hq : (i, Value.int x) :: lv.filter (fun q => !(q.1 == i) && !(q.1 + 1 == i && q.2.category == 2)) = lv') (k : cv_J X G nL cells slots Qf (pc + 1) lv' st σ F) : cv_J X G nL cells slots Qf pc lv (.int x :: st) σ F := by
  obtain ⟨p, l, e, R, s, m, args, below, meth, c⟩ := X
  intro ls H locs hl hP hS r hF
  exact lv_istore_n hC.1 hC.2.1 d hi hl hn hq (fun ls2 hl2 => k ls2 H locs hl2 hP hS r hF)
theorem cv_istore (hC : cv_C X G l0 own cc nL ret rm) {i : Nat} {x : Int32} {lv' : List (Nat × Value)} (d : decode cc pc = .ok (.istore i, 2)) (hn : i < nL) (hq : (i, Value.int x) :: lv.filter (fun q => !(q.1 == i) && !(q.1 + 1 == i && q.2.category == 2)) = lv') (k : cv_J X G nL cells slots Qf (pc + 2) lv' st σ F) : cv_J X G nL cells slots Qf pc lv (.int x :: st) σ F := by
  obtain ⟨p, l, e, R, s, m, args, below, meth, c⟩ := X
  intro ls H locs hl hP hS r hF
  exact lv_istore hC.1 hC.2.1 d hl hn hq (fun ls2 hl2 => k ls2 H locs hl2 hP hS r hF)
theorem cv_astore_n (hC : cv_C X G l0 own cc nL ret rm) {n : Fin 4} {i : Nat} {x : Nat} {lv' : List (Nat × Value)} (d : decode cc pc = .ok (.astore_n n, 1)) (hi : (n : Nat) = i) (hn : i < nL) (hq : (i, Value.ref x) :: lv.filter (fun q => !(q.1 == i) && !(q.1 + 1 == i && q.2.category == 2)) = lv') (k : cv_J X G nL cells slots Qf (pc + 1) lv' st σ F) : cv_J X G nL cells slots Qf pc lv (.ref x :: st) σ F := by
  obtain ⟨p, l, e, R, s, m, args, below, meth, c⟩ := X
  intro ls H locs hl hP hS r hF
  exact lv_astore_n hC.1 hC.2.1 d hi hl hn hq (fun ls2 hl2 => k ls2 H locs hl2 hP hS r hF)
theorem cv_astore (hC : cv_C X G l0 own cc nL ret rm) {i : Nat} {x : Nat} {lv' : List (Nat × Value)} (d : decode cc pc = .ok (.astore i, 2)) (hn : i < nL) (hq : (i, Value.ref x) :: lv.filter (fun q => !(q.1 == i) && !(q.1 + 1 == i && q.2.category == 2)) = lv') (k : cv_J X G nL cells slots Qf (pc + 2) lv' st σ F) : cv_J X G nL cells slots Qf pc lv (.ref x :: st) σ F := by
  obtain ⟨p, l, e, R, s, m, args, below, meth, c⟩ := X
  intro ls H locs hl hP hS r hF
  exact lv_astore hC.1 hC.2.1 d hl hn hq (fun ls2 hl2 => k ls2 H locs hl2 hP hS r hF)
theorem cv_iinc (hC : cv_C X G l0 own cc nL ret rm) {i : Nat} {n : Int} {x : Int32} {lv' : List (Nat × Value)} (q : Nat) (d : decode cc pc = .ok (.iinc i n, 3)) (hq : lv[q]? = some (i, .int x)) (hn : i < nL) (hv : (i, Value.int (x + Int32.ofInt n)) :: lv.filter (fun q => !(q.1 == i) && !(q.1 + 1 == i && q.2.category == 2)) = lv') (k : cv_J X G nL cells slots Qf (pc + 3) lv' st σ F) : cv_J X G nL cells slots Qf pc lv st σ F := by
  obtain ⟨p, l, e, R, s, m, args, below, meth, c⟩ := X
  intro ls H locs hl hP hS r hF
  exact lv_iinc hC.1 hC.2.1 d hl hq rfl hn hv (fun ls2 hl2 => k ls2 H locs hl2 hP hS r hF)
theorem cv_if_eq (hC : cv_C X G l0 own cc nL ret rm) {x : Int32} {off : Int} {tgt : Nat} {F1 F2 : Option α} (d : decode cc pc = .ok (.ifCond .eq off, 3)) (ht : (pc : Int) + off = (tgt : Int)) (k1 : cv_J X G nL cells slots Qf tgt lv st σ F1) (k2 : cv_J X G nL cells slots Qf (pc + 3) lv st σ F2) : cv_J X G nL cells slots Qf pc lv (.int x :: st) σ (if x = 0 then F1 else F2) := by
  obtain ⟨p, l, e, R, s, m, args, below, meth, c⟩ := X
  intro ls H locs hl hP hS r hF
  refine lv_if_eq hC.1 hC.2.1 d ht (fun hc => ?_) (fun hc => ?_)
  · rw [if_pos hc] at hF
    exact k1 ls H locs hl hP hS r hF
  · rw [if_neg hc] at hF
    exact k2 ls H locs hl hP hS r hF
theorem cv_if_ne (hC : cv_C X G l0 own cc nL ret rm) {x : Int32} {off : Int} {tgt : Nat} {F1 F2 : Option α} (d : decode cc pc = .ok (.ifCond .ne off, 3)) (ht : (pc : Int) + off = (tgt : Int)) (k1 : cv_J X G nL cells slots Qf tgt lv st σ F1) (k2 : cv_J X G nL cells slots Qf (pc + 3) lv st σ F2) : cv_J X G nL cells slots Qf pc lv (.int x :: st) σ (if x = 0 then F2 else F1) := by
  obtain ⟨p, l, e, R, s, m, args, below, meth, c⟩ := X
  intro ls H locs hl hP hS r hF
  refine lv_if_ne hC.1 hC.2.1 d ht (fun hc => ?_) (fun hc => ?_)
  · rw [if_neg hc] at hF
    exact k1 ls H locs hl hP hS r hF
  · rw [if_pos hc] at hF
    exact k2 ls H locs hl hP hS r hF
theorem cv_if_lt (hC : cv_C X G l0 own cc nL ret rm) {x : Int32} {off : Int} {tgt : Nat} {F1 F2 : Option α} (d : decode cc pc = .ok (.ifCond .lt off, 3)) (ht : (pc : Int) + off = (tgt : Int)) (k1 : cv_J X G nL cells slots Qf tgt lv st σ F1) (k2 : cv_J X G nL cells slots Qf (pc + 3) lv st σ F2) : cv_J X G nL cells slots Qf pc lv (.int x :: st) σ (if x < 0 then F1 else F2) := by
  obtain ⟨p, l, e, R, s, m, args, below, meth, c⟩ := X
  intro ls H locs hl hP hS r hF
  refine lv_if_lt hC.1 hC.2.1 d ht (fun hc => ?_) (fun hc => ?_)
  · rw [if_pos hc] at hF
    exact k1 ls H locs hl hP hS r hF
  · rw [if_neg hc] at hF
    exact k2 ls H locs hl hP hS r hF
theorem cv_if_ge (hC : cv_C X G l0 own cc nL ret rm) {x : Int32} {off : Int} {tgt : Nat} {F1 F2 : Option α} (d : decode cc pc = .ok (.ifCond .ge off, 3)) (ht : (pc : Int) + off = (tgt : Int)) (k1 : cv_J X G nL cells slots Qf tgt lv st σ F1) (k2 : cv_J X G nL cells slots Qf (pc + 3) lv st σ F2) : cv_J X G nL cells slots Qf pc lv (.int x :: st) σ (if 0 ≤ x then F1 else F2) := by
  obtain ⟨p, l, e, R, s, m, args, below, meth, c⟩ := X
  intro ls H locs hl hP hS r hF
  refine lv_if_ge hC.1 hC.2.1 d ht (fun hc => ?_) (fun hc => ?_)
  · rw [if_pos hc] at hF
    exact k1 ls H locs hl hP hS r hF
  · rw [if_neg hc] at hF
    exact k2 ls H locs hl hP hS r hF
theorem cv_if_gt (hC : cv_C X G l0 own cc nL ret rm) {x : Int32} {off : Int} {tgt : Nat} {F1 F2 : Option α} (d : decode cc pc = .ok (.ifCond .gt off, 3)) (ht : (pc : Int) + off = (tgt : Int)) (k1 : cv_J X G nL cells slots Qf tgt lv st σ F1) (k2 : cv_J X G nL cells slots Qf (pc + 3) lv st σ F2) : cv_J X G nL cells slots Qf pc lv (.int x :: st) σ (if 0 < x then F1 else F2) := by
  obtain ⟨p, l, e, R, s, m, args, below, meth, c⟩ := X
  intro ls H locs hl hP hS r hF
  refine lv_if_gt hC.1 hC.2.1 d ht (fun hc => ?_) (fun hc => ?_)
  · rw [if_pos hc] at hF
    exact k1 ls H locs hl hP hS r hF
  · rw [if_neg hc] at hF
    exact k2 ls H locs hl hP hS r hF
theorem cv_if_le (hC : cv_C X G l0 own cc nL ret rm) {x : Int32} {off : Int} {tgt : Nat} {F1 F2 : Option α} (d : decode cc pc = .ok (.ifCond .le off, 3)) (ht : (pc : Int) + off = (tgt : Int)) (k1 : cv_J X G nL cells slots Qf tgt lv st σ F1) (k2 : cv_J X G nL cells slots Qf (pc + 3) lv st σ F2) : cv_J X G nL cells slots Qf pc lv (.int x :: st) σ (if x ≤ 0 then F1 else F2) := by
  obtain ⟨p, l, e, R, s, m, args, below, meth, c⟩ := X
  intro ls H locs hl hP hS r hF
  refine lv_if_le hC.1 hC.2.1 d ht (fun hc => ?_) (fun hc => ?_)
  · rw [if_pos hc] at hF
    exact k1 ls H locs hl hP hS r hF
  · rw [if_neg hc] at hF
    exact k2 ls H locs hl hP hS r hF
theorem cv_icmp_eq (hC : cv_C X G l0 own cc nL ret rm) {x y : Int32} {off : Int} {tgt : Nat} {F1 F2 : Option α} (d : decode cc pc = .ok (.if_icmp .eq off, 3)) (ht : (pc : Int) + off = (tgt : Int)) (k1 : cv_J X G nL cells slots Qf tgt lv st σ F1) (k2 : cv_J X G nL cells slots Qf (pc + 3) lv st σ F2) : cv_J X G nL cells slots Qf pc lv (.int y :: .int x :: st) σ (if x = y then F1 else F2) := by
  obtain ⟨p, l, e, R, s, m, args, below, meth, c⟩ := X
  intro ls H locs hl hP hS r hF
  refine lv_icmp_eq hC.1 hC.2.1 d ht (fun hc => ?_) (fun hc => ?_)
  · rw [if_pos hc] at hF
    exact k1 ls H locs hl hP hS r hF
  · rw [if_neg hc] at hF
    exact k2 ls H locs hl hP hS r hF
theorem cv_icmp_ne (hC : cv_C X G l0 own cc nL ret rm) {x y : Int32} {off : Int} {tgt : Nat} {F1 F2 : Option α} (d : decode cc pc = .ok (.if_icmp .ne off, 3)) (ht : (pc : Int) + off = (tgt : Int)) (k1 : cv_J X G nL cells slots Qf tgt lv st σ F1) (k2 : cv_J X G nL cells slots Qf (pc + 3) lv st σ F2) : cv_J X G nL cells slots Qf pc lv (.int y :: .int x :: st) σ (if x = y then F2 else F1) := by
  obtain ⟨p, l, e, R, s, m, args, below, meth, c⟩ := X
  intro ls H locs hl hP hS r hF
  refine lv_icmp_ne hC.1 hC.2.1 d ht (fun hc => ?_) (fun hc => ?_)
  · rw [if_neg hc] at hF
    exact k1 ls H locs hl hP hS r hF
  · rw [if_pos hc] at hF
    exact k2 ls H locs hl hP hS r hF
theorem cv_icmp_lt (hC : cv_C X G l0 own cc nL ret rm) {x y : Int32} {off : Int} {tgt : Nat} {F1 F2 : Option α} (d : decode cc pc = .ok (.if_icmp .lt off, 3)) (ht : (pc : Int) + off = (tgt : Int)) (k1 : cv_J X G nL cells slots Qf tgt lv st σ F1) (k2 : cv_J X G nL cells slots Qf (pc + 3) lv st σ F2) : cv_J X G nL cells slots Qf pc lv (.int y :: .int x :: st) σ (if x < y then F1 else F2) := by
  obtain ⟨p, l, e, R, s, m, args, below, meth, c⟩ := X
  intro ls H locs hl hP hS r hF
  refine lv_icmp_lt hC.1 hC.2.1 d ht (fun hc => ?_) (fun hc => ?_)
  · rw [if_pos hc] at hF
    exact k1 ls H locs hl hP hS r hF
  · rw [if_neg hc] at hF
    exact k2 ls H locs hl hP hS r hF
theorem cv_icmp_ge (hC : cv_C X G l0 own cc nL ret rm) {x y : Int32} {off : Int} {tgt : Nat} {F1 F2 : Option α} (d : decode cc pc = .ok (.if_icmp .ge off, 3)) (ht : (pc : Int) + off = (tgt : Int)) (k1 : cv_J X G nL cells slots Qf tgt lv st σ F1) (k2 : cv_J X G nL cells slots Qf (pc + 3) lv st σ F2) : cv_J X G nL cells slots Qf pc lv (.int y :: .int x :: st) σ (if y ≤ x then F1 else F2) := by
  obtain ⟨p, l, e, R, s, m, args, below, meth, c⟩ := X
  intro ls H locs hl hP hS r hF
  refine lv_icmp_ge hC.1 hC.2.1 d ht (fun hc => ?_) (fun hc => ?_)
  · rw [if_pos hc] at hF
    exact k1 ls H locs hl hP hS r hF
  · rw [if_neg hc] at hF
    exact k2 ls H locs hl hP hS r hF
theorem cv_icmp_gt (hC : cv_C X G l0 own cc nL ret rm) {x y : Int32} {off : Int} {tgt : Nat} {F1 F2 : Option α} (d : decode cc pc = .ok (.if_icmp .gt off, 3)) (ht : (pc : Int) + off = (tgt : Int)) (k1 : cv_J X G nL cells slots Qf tgt lv st σ F1) (k2 : cv_J X G nL cells slots Qf (pc + 3) lv st σ F2) : cv_J X G nL cells slots Qf pc lv (.int y :: .int x :: st) σ (if y < x then F1 else F2) := by
  obtain ⟨p, l, e, R, s, m, args, below, meth, c⟩ := X
  intro ls H locs hl hP hS r hF
  refine lv_icmp_gt hC.1 hC.2.1 d ht (fun hc => ?_) (fun hc => ?_)
  · rw [if_pos hc] at hF
    exact k1 ls H locs hl hP hS r hF
  · rw [if_neg hc] at hF
    exact k2 ls H locs hl hP hS r hF
theorem cv_icmp_le (hC : cv_C X G l0 own cc nL ret rm) {x y : Int32} {off : Int} {tgt : Nat} {F1 F2 : Option α} (d : decode cc pc = .ok (.if_icmp .le off, 3)) (ht : (pc : Int) + off = (tgt : Int)) (k1 : cv_J X G nL cells slots Qf tgt lv st σ F1) (k2 : cv_J X G nL cells slots Qf (pc + 3) lv st σ F2) : cv_J X G nL cells slots Qf pc lv (.int y :: .int x :: st) σ (if x ≤ y then F1 else F2) := by
  obtain ⟨p, l, e, R, s, m, args, below, meth, c⟩ := X
  intro ls H locs hl hP hS r hF
  refine lv_icmp_le hC.1 hC.2.1 d ht (fun hc => ?_) (fun hc => ?_)
  · rw [if_pos hc] at hF
    exact k1 ls H locs hl hP hS r hF
  · rw [if_neg hc] at hF
    exact k2 ls H locs hl hP hS r hF
theorem cv_iald (hC : cv_C X G l0 own cc nL ret rm) {k n t : Nat} {i : Int32} {K : Int32 → Option α} (ha : cv_ai G k n t .int) (d : decode cc pc = .ok (.iaload, 1)) (kk : ∀ v : Int32, cv_J X G nL cells slots Qf (pc + 1) lv (.int v :: st) σ (K v)) : cv_J X G nL cells slots Qf pc lv (.int i :: .ref (G.1 k) :: st) σ (cv_ld σ k n i K) := by
  obtain ⟨p, l, e, R, s, m, args, below, meth, c⟩ := X
  intro ls H locs hl hP hS r hF
  unfold cv_ld at hF
  by_cases hc : i < 0 ∨ n ≤ i.toNatClampNeg
  · rw [if_pos hc] at hF; cases hF
  · rw [if_neg hc] at hF
    exact va_iald hC.1 hC.2.1 hC.2.2.2.2.2.2.2.1.1 hP k t (ha.1 σ) ha.2.2 hc d (kk _ ls H locs hl hP hS r hF)
theorem cv_cald (hC : cv_C X G l0 own cc nL ret rm) {k n t : Nat} {i : Int32} {K : Int32 → Option α} (ha : cv_ai G k n t .char) (d : decode cc pc = .ok (.caload, 1)) (kk : ∀ v : Int32, cv_J X G nL cells slots Qf (pc + 1) lv (.int v :: st) σ (K v)) : cv_J X G nL cells slots Qf pc lv (.int i :: .ref (G.1 k) :: st) σ (cv_ld σ k n i K) := by
  obtain ⟨p, l, e, R, s, m, args, below, meth, c⟩ := X
  intro ls H locs hl hP hS r hF
  unfold cv_ld at hF
  by_cases hc : i < 0 ∨ n ≤ i.toNatClampNeg
  · rw [if_pos hc] at hF; cases hF
  · rw [if_neg hc] at hF
    exact va_cald hC.1 hC.2.1 hC.2.2.2.2.2.2.2.1.1 hP k t (ha.1 σ) ha.2.2 hc d (kk _ ls H locs hl hP hS r hF)
theorem cv_zald (hC : cv_C X G l0 own cc nL ret rm) {k n t : Nat} {i : Int32} {K : Int32 → Option α} (ha : cv_ai G k n t .boolean) (d : decode cc pc = .ok (.baload, 1)) (kk : ∀ v : Int32, cv_J X G nL cells slots Qf (pc + 1) lv (.int v :: st) σ (K v)) : cv_J X G nL cells slots Qf pc lv (.int i :: .ref (G.1 k) :: st) σ (cv_ld σ k n i K) := by
  obtain ⟨p, l, e, R, s, m, args, below, meth, c⟩ := X
  intro ls H locs hl hP hS r hF
  unfold cv_ld at hF
  by_cases hc : i < 0 ∨ n ≤ i.toNatClampNeg
  · rw [if_pos hc] at hF; cases hF
  · rw [if_neg hc] at hF
    exact va_zald hC.1 hC.2.1 hC.2.2.2.2.2.2.2.1.1 hP k t (ha.1 σ) ha.2.2 hc d (kk _ ls H locs hl hP hS r hF)
theorem cv_iast (hC : cv_C X G l0 own cc nL ret rm) {k n t : Nat} {i x : Int32} {K : cv_St → Option α} (ha : cv_ai G k n t .int) (d : decode cc pc = .ok (.iastore, 1)) (kk : ∀ u : cv_St, cv_J X G nL cells slots Qf (pc + 1) lv st u (K u)) : cv_J X G nL cells slots Qf pc lv (.int x :: .int i :: .ref (G.1 k) :: st) σ (cv_st σ k n i (x) K) := by
  obtain ⟨p, l, e, R, s, m, args, below, meth, c⟩ := X
  intro ls H locs hl hP hS r hF
  unfold cv_st at hF
  by_cases hc : i < 0 ∨ n ≤ i.toNatClampNeg
  · rw [if_pos hc] at hF; cases hF
  · rw [if_neg hc] at hF
    refine va_iast hC.1 hC.2.1 hC.2.2.2.2.2.2.2.1.1 hP (cv_D hC.2.2.2.2.2.2.2.1.2.2 _) hS k t (ha.1 σ) ha.2.2 hc d (fun H1 locs1 hP1 _ hS1 => ?_)
    rw [ha.2.1] at hP1
    exact kk _ ls H1 locs1 hl hP1 hS1 r hF
theorem cv_cast (hC : cv_C X G l0 own cc nL ret rm) {k n t : Nat} {i x : Int32} {K : cv_St → Option α} (ha : cv_ai G k n t .char) (d : decode cc pc = .ok (.castore, 1)) (kk : ∀ u : cv_St, cv_J X G nL cells slots Qf (pc + 1) lv st u (K u)) : cv_J X G nL cells slots Qf pc lv (.int x :: .int i :: .ref (G.1 k) :: st) σ (cv_st σ k n i (vp_nar .char x) K) := by
  obtain ⟨p, l, e, R, s, m, args, below, meth, c⟩ := X
  intro ls H locs hl hP hS r hF
  unfold cv_st at hF
  by_cases hc : i < 0 ∨ n ≤ i.toNatClampNeg
  · rw [if_pos hc] at hF; cases hF
  · rw [if_neg hc] at hF
    refine va_cast hC.1 hC.2.1 hC.2.2.2.2.2.2.2.1.1 hP (cv_D hC.2.2.2.2.2.2.2.1.2.2 _) hS k t (ha.1 σ) ha.2.2 hc d (fun H1 locs1 hP1 _ hS1 => ?_)
    rw [ha.2.1] at hP1
    exact kk _ ls H1 locs1 hl hP1 hS1 r hF
theorem cv_zast (hC : cv_C X G l0 own cc nL ret rm) {k n t : Nat} {i x : Int32} {K : cv_St → Option α} (ha : cv_ai G k n t .boolean) (d : decode cc pc = .ok (.bastore, 1)) (kk : ∀ u : cv_St, cv_J X G nL cells slots Qf (pc + 1) lv st u (K u)) : cv_J X G nL cells slots Qf pc lv (.int x :: .int i :: .ref (G.1 k) :: st) σ (cv_st σ k n i (vp_nar .boolean x) K) := by
  obtain ⟨p, l, e, R, s, m, args, below, meth, c⟩ := X
  intro ls H locs hl hP hS r hF
  unfold cv_st at hF
  by_cases hc : i < 0 ∨ n ≤ i.toNatClampNeg
  · rw [if_pos hc] at hF; cases hF
  · rw [if_neg hc] at hF
    refine va_zast hC.1 hC.2.1 hC.2.2.2.2.2.2.2.1.1 hP (cv_D hC.2.2.2.2.2.2.2.1.2.2 _) hS k t (ha.1 σ) ha.2.2 hc d (fun H1 locs1 hP1 _ hS1 => ?_)
    rw [ha.2.1] at hP1
    exact kk _ ls H1 locs1 hl hP1 hS1 r hF
theorem cv_geti (hC : cv_C X G l0 own cc nL ret rm) {index ob j : Nat} (hf : cv_GI G own index ob j) (d : decode cc pc = .ok (.getfield index, 3)) (k : cv_J X G nL cells slots Qf (pc + 3) lv (.int (σ.2.1 j) :: st) σ F) : cv_J X G nL cells slots Qf pc lv (.ref (G.1 ob) :: st) σ F := by
  obtain ⟨C, T, N, ci, kx, fs, h1, h2, h3, h4, h5, h6⟩ := hf
  obtain ⟨p, l, e, R, s, m, args, below, meth, c⟩ := X
  intro ls H locs hl hP hS r hF
  exact va_get hC.1 hC.2.1 hC.2.2.2.2.1 h2 hC.2.2.2.1 hC.2.2.2.2.2.2.2.1.1 hP ob (h5 σ) h1 kx h3 (hC.2.2.2.2.1 _ h4) (fun _ h9 => h9) (h6 σ) d (k ls H locs hl hP hS r hF)
theorem cv_getr (hC : cv_C X G l0 own cc nL ret rm) {index ob j : Nat} (hf : cv_GR G own index ob j) (d : decode cc pc = .ok (.getfield index, 3)) (k : cv_J X G nL cells slots Qf (pc + 3) lv (.ref (G.1 j) :: st) σ F) : cv_J X G nL cells slots Qf pc lv (.ref (G.1 ob) :: st) σ F := by
  obtain ⟨C, T, N, ci, kx, fs, h1, h2, h3, h4, h5, h6⟩ := hf
  obtain ⟨p, l, e, R, s, m, args, below, meth, c⟩ := X
  intro ls H locs hl hP hS r hF
  exact va_get hC.1 hC.2.1 hC.2.2.2.2.1 h2 hC.2.2.2.1 hC.2.2.2.2.2.2.2.1.1 hP ob (h5 σ) h1 kx h3 (hC.2.2.2.2.1 _ h4) (fun _ h9 => h9) (h6 σ) d (k ls H locs hl hP hS r hF)
def cv_pui {α : Type} (σ : cv_St) (j : Nat) (v : Int32) (K : cv_St → Option α) : Option α := K (cv_sF σ j v)
def cv_puz {α : Type} (σ : cv_St) (j : Nat) (v : Int32) (K : cv_St → Option α) : Option α := if v = 0 ∨ v = 1 then K (cv_sF σ j v) else none
theorem cv_puti (hC : cv_C X G l0 own cc nL ret rm) {index ob j : Nat} {x : Int32} {K : cv_St → Option α} (hf : cv_PI G own index ob j .int) (d : decode cc pc = .ok (.putfield index, 3)) (k : ∀ u : cv_St, cv_J X G nL cells slots Qf (pc + 3) lv st u (K u)) : cv_J X G nL cells slots Qf pc lv (.int x :: .ref (G.1 ob) :: st) σ (cv_pui σ j x K) := by
  obtain ⟨C, T, ty0, N, ci, kx, fs, h1, h2, h3, h4, h5, h6, h7, h8, h9, ha, hb⟩ := hf
  obtain ⟨p, l, e, R, s, m, args, below, meth, c⟩ := X
  intro ls H locs hl hP hS r hF
  refine va_put hC.1 hC.2.1 hC.2.2.2.2.1 h2 ty0 h6 h7 hC.2.2.2.1 hC.2.2.2.2.2.2.2.1.1 hP (cv_D hC.2.2.2.2.2.2.2.1.2.2 _) hS ob (h5 σ) h1 kx h3 (hC.2.2.2.2.1 _ h4) (fun _ h9 => h9) h8 h9 (vp_nar_int x) rfl (ha σ) d (fun H1 locs1 hP1 _ hS1 => ?_)
  rw [hb] at hP1
  exact k _ ls H1 locs1 hl hP1 hS1 r hF
theorem cv_putz (hC : cv_C X G l0 own cc nL ret rm) {index ob j : Nat} {x : Int32} {K : cv_St → Option α} (hf : cv_PI G own index ob j .boolean) (d : decode cc pc = .ok (.putfield index, 3)) (k : ∀ u : cv_St, cv_J X G nL cells slots Qf (pc + 3) lv st u (K u)) : cv_J X G nL cells slots Qf pc lv (.int x :: .ref (G.1 ob) :: st) σ (cv_puz σ j x K) := by
  obtain ⟨C, T, ty0, N, ci, kx, fs, h1, h2, h3, h4, h5, h6, h7, h8, h9, ha, hb⟩ := hf
  obtain ⟨p, l, e, R, s, m, args, below, meth, c⟩ := X
  intro ls H locs hl hP hS r hF
  unfold cv_puz at hF
  by_cases hz : x = 0 ∨ x = 1
  · rw [if_pos hz] at hF
    refine va_put hC.1 hC.2.1 hC.2.2.2.2.1 h2 ty0 h6 h7 hC.2.2.2.1 hC.2.2.2.2.2.2.2.1.1 hP (cv_D hC.2.2.2.2.2.2.2.1.2.2 _) hS ob (h5 σ) h1 kx h3 (hC.2.2.2.2.1 _ h4) (fun _ h9 => h9) h8 h9 (by rcases hz with rfl | rfl <;> rfl) (by rcases hz with rfl | rfl <;> rfl) (ha σ) d (fun H1 locs1 hP1 _ hS1 => ?_)
    rw [hb] at hP1
    exact k _ ls H1 locs1 hl hP1 hS1 r hF
  · rw [if_neg hz] at hF; cases hF
theorem cv_alen (hC : cv_C X G l0 own cc nL ret rm) {k n t : Nat} {ty : FieldType} (ha : cv_ai G k n t ty) (d : decode cc pc = .ok (.arraylength, 1)) (kk : cv_J X G nL cells slots Qf (pc + 1) lv (.int (nI n) :: st) σ F) : cv_J X G nL cells slots Qf pc lv (.ref (G.1 k) :: st) σ F := by
  obtain ⟨p, l, e, R, s, m, args, below, meth, c⟩ := X
  intro ls H locs hl hP hS r hF
  exact va_alen hC.1 hC.2.1 hC.2.2.2.2.2.2.2.1.1 hP k t (ha.1 σ) ha.2.2 rfl d (kk ls H locs hl hP hS r hF)
theorem cv_ldc2 (hC : cv_C X G l0 own cc nL ret rm) {index : Nat} {v : Int64} (hk : Cond.constantLong own index v ∈ cv_gw) (d : decode cc pc = .ok (.ldc2_w index, 3)) (k : cv_J X G nL cells slots Qf (pc + 3) lv (.long v :: st) σ F) : cv_J X G nL cells slots Qf pc lv st σ F := by
  obtain ⟨p, l, e, R, s, m, args, below, meth, c⟩ := X
  intro ls H locs hl hP hS r hF
  exact lv_ldc2 hC.1 hC.2.1 hC.2.2.2.1 (hC.2.2.2.2.1 _ hk) d (k ls H locs hl hP hS r hF)
end R06
