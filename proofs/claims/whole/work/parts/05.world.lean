/-! THE STATE of class, reference and law in one: arrays by the number of their cell, whole numbers and booleans by a number, the law's long and double. -/
abbrev cv_St : Type := (Nat → Nat → Int32) × (Nat → Int32) × (Nat → Int64) × (Nat → UInt64)
def cv_sR (σ : cv_St) (k : Nat) (f : Nat → Int32) : cv_St := (va_up σ.1 k f, σ.2)
def cv_sA (σ : cv_St) (k i : Nat) (v : Int32) : cv_St := cv_sR σ k (upd (σ.1 k) i v)
def cv_sF (σ : cv_St) (k : Nat) (v : Int32) : cv_St := (σ.1, upd σ.2.1 k v, σ.2.2)
def cv_sL (σ : cv_St) (f : Nat → Int64) : cv_St := (σ.1, σ.2.1, f, σ.2.2.2)
def cv_sD (σ : cv_St) (f : Nat → UInt64) : cv_St := (σ.1, σ.2.1, σ.2.2.1, f)
/-- where the cells lie; the classes' numbers and slots; the array classes -/
abbrev cv_G : Type := (Nat → Nat) × va_G × (Nat → ClassId)
abbrev cv_cl : List vw_C := [(RX0, TX0, 3), (RX1, TX1, 4), (RX2, TX2, 3), (RX3, TX3, 7), (RX4, TX4, 12), (RX5, TX5, 9), (RX6, TX6, 6), (RX7, TX7, 8), (RX8, TX8, 12), (RX9, TX9, 38)]
def cv_tys (G : cv_G) : List (ClassId × FieldType) := [(G.2.2 0, .int), (G.2.2 1, .char), (G.2.2 2, .boolean), (G.2.2 3, .long), (G.2.2 4, .double)]
def cv_f0 (G : cv_G) (σ : cv_St) : List Value := [.ref (G.1 1), .ref (G.1 2), .ref (G.1 3), .ref (G.1 4), .ref (G.1 5), .ref (G.1 6), .ref (G.1 7), .ref (G.1 8), .ref (G.1 9), .int (σ.2.1 0), .int (σ.2.1 1), .int (σ.2.1 2)]
def cv_f1 (G : cv_G) (σ : cv_St) : List Value := [.ref (G.1 11), .ref (G.1 12), .ref (G.1 13), .int (σ.2.1 3), .int (σ.2.1 4), .int (σ.2.1 5)]
def cv_f2 (G : cv_G) (σ : cv_St) : List Value := [.ref (G.1 14), .ref (G.1 15), .ref (G.1 16)]
def cv_f3 (G : cv_G) (σ : cv_St) : List Value := [.ref (G.1 17), .ref (G.1 18), .ref (G.1 19)]
def cv_f4 (G : cv_G) (σ : cv_St) : List Value := [.ref (G.1 2), .ref (G.1 20), .ref (G.1 21)]
def cv_f5 (G : cv_G) (σ : cv_St) : List Value := [.ref (G.1 2), .ref (G.1 4), .ref (G.1 22), .ref (G.1 23), .ref (G.1 24), .ref (G.1 25), .ref (G.1 26), .int (σ.2.1 6)]
def cv_f6 (G : cv_G) (σ : cv_St) : List Value := [.ref (G.1 2), .ref (G.1 4), .ref (G.1 27), .ref (G.1 28)]
def cv_f7 (G : cv_G) (σ : cv_St) : List Value := [.ref (G.1 2), .ref (G.1 4), .ref (G.1 5), .ref (G.1 6), .ref (G.1 29), .ref (G.1 30), .ref (G.1 31)]
def cv_f8 (G : cv_G) (σ : cv_St) : List Value := [.ref (G.1 2), .ref (G.1 4), .ref (G.1 32), .ref (G.1 33), .ref (G.1 34), .ref (G.1 35), .ref (G.1 36), .ref (G.1 37), .int (σ.2.1 7)]
def cv_f9 (G : cv_G) (σ : cv_St) : List Value := [.ref (G.1 2), .ref (G.1 38), .ref (G.1 39), .ref (G.1 40), .ref (G.1 41), .ref (G.1 42), .int (σ.2.1 8), .int (σ.2.1 9), .int (σ.2.1 10), .int (σ.2.1 11), .int (σ.2.1 12), .int (σ.2.1 13)]
def cv_f10 (G : cv_G) (σ : cv_St) : List Value := [.ref (G.1 43), .ref (G.1 44), .int (σ.2.1 14), .ref (G.1 45), .int (σ.2.1 15), .int (σ.2.1 16), .int (σ.2.1 17), .int (σ.2.1 18), .int (σ.2.1 19), .int (σ.2.1 20), .ref (G.1 46), .ref (G.1 47), .ref (G.1 48), .ref (G.1 49), .ref (G.1 50), .ref (G.1 51), .ref (G.1 52), .ref (G.1 53), .ref (G.1 54), .ref (G.1 55), .ref (G.1 56), .ref (G.1 57), .ref (G.1 58), .ref (G.1 59), .ref (G.1 60), .int (σ.2.1 21), .ref (G.1 61), .ref (G.1 62), .int (σ.2.1 22), .int (σ.2.1 23), .int (σ.2.1 24), .int (σ.2.1 25), .int (σ.2.1 26), .int (σ.2.1 27), .int (σ.2.1 28), .ref (G.1 63), .ref (G.1 64), .ref (G.1 65)]
def cv_w (G : cv_G) (σ : cv_St) : va_W := [(G.1 0, .inr (8, cv_f0 G σ)), (G.1 1, .inr (6, cv_f1 G σ)), (G.1 2, .inr (0, cv_f2 G σ)), (G.1 3, .inr (0, cv_f3 G σ)), (G.1 4, .inr (2, cv_f4 G σ)), (G.1 5, .inr (7, cv_f5 G σ)), (G.1 6, .inr (1, cv_f6 G σ)), (G.1 7, .inr (3, cv_f7 G σ)), (G.1 8, .inr (5, cv_f8 G σ)), (G.1 9, .inr (4, cv_f9 G σ)), (G.1 10, .inr (9, cv_f10 G σ)), (G.1 11, .inl (G.2.2 1, 60, .inl (σ.1 11))), (G.1 12, .inl (G.2.2 1, 14, .inl (σ.1 12))), (G.1 13, .inl (G.2.2 0, 14, .inl (σ.1 13))), (G.1 14, .inl (G.2.2 0, 8, .inl (σ.1 14))), (G.1 15, .inl (G.2.2 1, 112, .inl (σ.1 15))), (G.1 16, .inl (G.2.2 0, 112, .inl (σ.1 16))), (G.1 17, .inl (G.2.2 0, 8, .inl (σ.1 17))), (G.1 18, .inl (G.2.2 1, 112, .inl (σ.1 18))), (G.1 19, .inl (G.2.2 0, 112, .inl (σ.1 19))), (G.1 20, .inl (G.2.2 0, 8, .inl (σ.1 20))), (G.1 21, .inl (G.2.2 0, 8, .inl (σ.1 21))), (G.1 22, .inl (G.2.2 2, 8, .inl (σ.1 22))), (G.1 23, .inl (G.2.2 0, 8, .inl (σ.1 23))), (G.1 24, .inl (G.2.2 0, 120, .inl (σ.1 24))), (G.1 25, .inl (G.2.2 0, 210, .inl (σ.1 25))), (G.1 26, .inl (G.2.2 0, 14, .inl (σ.1 26))), (G.1 27, .inl (G.2.2 0, 8, .inl (σ.1 27))), (G.1 28, .inl (G.2.2 0, 15, .inl (σ.1 28))), (G.1 29, .inl (G.2.2 0, 120, .inl (σ.1 29))), (G.1 30, .inl (G.2.2 0, 8, .inl (σ.1 30))), (G.1 31, .inl (G.2.2 0, 8, .inl (σ.1 31))), (G.1 32, .inl (G.2.2 0, 112, .inl (σ.1 32))), (G.1 33, .inl (G.2.2 0, 112, .inl (σ.1 33))), (G.1 34, .inl (G.2.2 0, 112, .inl (σ.1 34))), (G.1 35, .inl (G.2.2 0, 112, .inl (σ.1 35))), (G.1 36, .inl (G.2.2 0, 8, .inl (σ.1 36))), (G.1 37, .inl (G.2.2 0, 15, .inl (σ.1 37))), (G.1 38, .inl (G.2.2 0, 8, .inl (σ.1 38))), (G.1 39, .inl (G.2.2 0, 8, .inl (σ.1 39))), (G.1 40, .inl (G.2.2 0, 8, .inl (σ.1 40))), (G.1 41, .inl (G.2.2 0, 8, .inl (σ.1 41))), (G.1 42, .inl (G.2.2 0, 48, .inl (σ.1 42))), (G.1 43, .inl (G.2.2 0, 344, .inl (σ.1 43))), (G.1 44, .inl (G.2.2 0, 344, .inl (σ.1 44))), (G.1 45, .inl (G.2.2 0, 60, .inl (σ.1 45))), (G.1 46, .inl (G.2.2 0, 60, .inl (σ.1 46))), (G.1 47, .inl (G.2.2 0, 60, .inl (σ.1 47))), (G.1 48, .inl (G.2.2 0, 60, .inl (σ.1 48))), (G.1 49, .inl (G.2.2 2, 120, .inl (σ.1 49))), (G.1 50, .inl (G.2.2 2, 8, .inl (σ.1 50))), (G.1 51, .inl (G.2.2 0, 8, .inl (σ.1 51))), (G.1 52, .inl (G.2.2 0, 15, .inl (σ.1 52))), (G.1 53, .inl (G.2.2 0, 210, .inl (σ.1 53))), (G.1 54, .inl (G.2.2 0, 14, .inl (σ.1 54))), (G.1 55, .inl (G.2.2 0, 8, .inl (σ.1 55))), (G.1 56, .inl (G.2.2 0, 15, .inl (σ.1 56))), (G.1 57, .inl (G.2.2 0, 112, .inl (σ.1 57))), (G.1 58, .inl (G.2.2 0, 8, .inl (σ.1 58))), (G.1 59, .inl (G.2.2 0, 8, .inl (σ.1 59))), (G.1 60, .inl (G.2.2 0, 120, .inl (σ.1 60))), (G.1 61, .inl (G.2.2 0, 112, .inl (σ.1 61))), (G.1 62, .inl (G.2.2 0, 112, .inl (σ.1 62))), (G.1 63, .inl (G.2.2 0, 8, .inl (σ.1 63))), (G.1 64, .inl (G.2.2 0, 48, .inl (σ.1 64))), (G.1 65, .inl (G.2.2 0, 8, .inl (σ.1 65))), (G.1 66, .inl (G.2.2 3, 1, .inr (.inl σ.2.2.1))), (G.1 67, .inl (G.2.2 4, 1, .inr (.inr (.inr (.inl σ.2.2.2)))))]
def cv_ai (G : cv_G) (k n t : Nat) (ty : FieldType) : Prop := (∀ σ : cv_St, (cv_w G σ)[k]? = some (G.1 k, .inl (G.2.2 t, n, .inl (σ.1 k)))) ∧ (∀ (σ : cv_St) (f : Nat → Int32), (cv_w G σ).set k (G.1 k, .inl (G.2.2 t, n, .inl f)) = cv_w G (cv_sR σ k f)) ∧ (cv_tys G)[t]? = some (G.2.2 t, ty)
theorem cv_a11 (G : cv_G) : cv_ai G 11 60 1 .char := ⟨fun _ => rfl, fun _ _ => rfl, rfl⟩
theorem cv_a12 (G : cv_G) : cv_ai G 12 14 1 .char := ⟨fun _ => rfl, fun _ _ => rfl, rfl⟩
theorem cv_a13 (G : cv_G) : cv_ai G 13 14 0 .int := ⟨fun _ => rfl, fun _ _ => rfl, rfl⟩
theorem cv_a14 (G : cv_G) : cv_ai G 14 8 0 .int := ⟨fun _ => rfl, fun _ _ => rfl, rfl⟩
theorem cv_a15 (G : cv_G) : cv_ai G 15 112 1 .char := ⟨fun _ => rfl, fun _ _ => rfl, rfl⟩
theorem cv_a16 (G : cv_G) : cv_ai G 16 112 0 .int := ⟨fun _ => rfl, fun _ _ => rfl, rfl⟩
theorem cv_a17 (G : cv_G) : cv_ai G 17 8 0 .int := ⟨fun _ => rfl, fun _ _ => rfl, rfl⟩
theorem cv_a18 (G : cv_G) : cv_ai G 18 112 1 .char := ⟨fun _ => rfl, fun _ _ => rfl, rfl⟩
theorem cv_a19 (G : cv_G) : cv_ai G 19 112 0 .int := ⟨fun _ => rfl, fun _ _ => rfl, rfl⟩
theorem cv_a20 (G : cv_G) : cv_ai G 20 8 0 .int := ⟨fun _ => rfl, fun _ _ => rfl, rfl⟩
theorem cv_a21 (G : cv_G) : cv_ai G 21 8 0 .int := ⟨fun _ => rfl, fun _ _ => rfl, rfl⟩
theorem cv_a22 (G : cv_G) : cv_ai G 22 8 2 .boolean := ⟨fun _ => rfl, fun _ _ => rfl, rfl⟩
theorem cv_a23 (G : cv_G) : cv_ai G 23 8 0 .int := ⟨fun _ => rfl, fun _ _ => rfl, rfl⟩
theorem cv_a24 (G : cv_G) : cv_ai G 24 120 0 .int := ⟨fun _ => rfl, fun _ _ => rfl, rfl⟩
theorem cv_a25 (G : cv_G) : cv_ai G 25 210 0 .int := ⟨fun _ => rfl, fun _ _ => rfl, rfl⟩
theorem cv_a26 (G : cv_G) : cv_ai G 26 14 0 .int := ⟨fun _ => rfl, fun _ _ => rfl, rfl⟩
theorem cv_a27 (G : cv_G) : cv_ai G 27 8 0 .int := ⟨fun _ => rfl, fun _ _ => rfl, rfl⟩
theorem cv_a28 (G : cv_G) : cv_ai G 28 15 0 .int := ⟨fun _ => rfl, fun _ _ => rfl, rfl⟩
theorem cv_a29 (G : cv_G) : cv_ai G 29 120 0 .int := ⟨fun _ => rfl, fun _ _ => rfl, rfl⟩
theorem cv_a30 (G : cv_G) : cv_ai G 30 8 0 .int := ⟨fun _ => rfl, fun _ _ => rfl, rfl⟩
theorem cv_a31 (G : cv_G) : cv_ai G 31 8 0 .int := ⟨fun _ => rfl, fun _ _ => rfl, rfl⟩
theorem cv_a32 (G : cv_G) : cv_ai G 32 112 0 .int := ⟨fun _ => rfl, fun _ _ => rfl, rfl⟩
theorem cv_a33 (G : cv_G) : cv_ai G 33 112 0 .int := ⟨fun _ => rfl, fun _ _ => rfl, rfl⟩
theorem cv_a34 (G : cv_G) : cv_ai G 34 112 0 .int := ⟨fun _ => rfl, fun _ _ => rfl, rfl⟩
theorem cv_a35 (G : cv_G) : cv_ai G 35 112 0 .int := ⟨fun _ => rfl, fun _ _ => rfl, rfl⟩
theorem cv_a36 (G : cv_G) : cv_ai G 36 8 0 .int := ⟨fun _ => rfl, fun _ _ => rfl, rfl⟩
theorem cv_a37 (G : cv_G) : cv_ai G 37 15 0 .int := ⟨fun _ => rfl, fun _ _ => rfl, rfl⟩
theorem cv_a38 (G : cv_G) : cv_ai G 38 8 0 .int := ⟨fun _ => rfl, fun _ _ => rfl, rfl⟩
theorem cv_a39 (G : cv_G) : cv_ai G 39 8 0 .int := ⟨fun _ => rfl, fun _ _ => rfl, rfl⟩
theorem cv_a40 (G : cv_G) : cv_ai G 40 8 0 .int := ⟨fun _ => rfl, fun _ _ => rfl, rfl⟩
theorem cv_a41 (G : cv_G) : cv_ai G 41 8 0 .int := ⟨fun _ => rfl, fun _ _ => rfl, rfl⟩
theorem cv_a42 (G : cv_G) : cv_ai G 42 48 0 .int := ⟨fun _ => rfl, fun _ _ => rfl, rfl⟩
theorem cv_a43 (G : cv_G) : cv_ai G 43 344 0 .int := ⟨fun _ => rfl, fun _ _ => rfl, rfl⟩
theorem cv_a44 (G : cv_G) : cv_ai G 44 344 0 .int := ⟨fun _ => rfl, fun _ _ => rfl, rfl⟩
theorem cv_a45 (G : cv_G) : cv_ai G 45 60 0 .int := ⟨fun _ => rfl, fun _ _ => rfl, rfl⟩
theorem cv_a46 (G : cv_G) : cv_ai G 46 60 0 .int := ⟨fun _ => rfl, fun _ _ => rfl, rfl⟩
theorem cv_a47 (G : cv_G) : cv_ai G 47 60 0 .int := ⟨fun _ => rfl, fun _ _ => rfl, rfl⟩
theorem cv_a48 (G : cv_G) : cv_ai G 48 60 0 .int := ⟨fun _ => rfl, fun _ _ => rfl, rfl⟩
theorem cv_a49 (G : cv_G) : cv_ai G 49 120 2 .boolean := ⟨fun _ => rfl, fun _ _ => rfl, rfl⟩
theorem cv_a50 (G : cv_G) : cv_ai G 50 8 2 .boolean := ⟨fun _ => rfl, fun _ _ => rfl, rfl⟩
theorem cv_a51 (G : cv_G) : cv_ai G 51 8 0 .int := ⟨fun _ => rfl, fun _ _ => rfl, rfl⟩
theorem cv_a52 (G : cv_G) : cv_ai G 52 15 0 .int := ⟨fun _ => rfl, fun _ _ => rfl, rfl⟩
theorem cv_a53 (G : cv_G) : cv_ai G 53 210 0 .int := ⟨fun _ => rfl, fun _ _ => rfl, rfl⟩
theorem cv_a54 (G : cv_G) : cv_ai G 54 14 0 .int := ⟨fun _ => rfl, fun _ _ => rfl, rfl⟩
theorem cv_a55 (G : cv_G) : cv_ai G 55 8 0 .int := ⟨fun _ => rfl, fun _ _ => rfl, rfl⟩
theorem cv_a56 (G : cv_G) : cv_ai G 56 15 0 .int := ⟨fun _ => rfl, fun _ _ => rfl, rfl⟩
theorem cv_a57 (G : cv_G) : cv_ai G 57 112 0 .int := ⟨fun _ => rfl, fun _ _ => rfl, rfl⟩
theorem cv_a58 (G : cv_G) : cv_ai G 58 8 0 .int := ⟨fun _ => rfl, fun _ _ => rfl, rfl⟩
theorem cv_a59 (G : cv_G) : cv_ai G 59 8 0 .int := ⟨fun _ => rfl, fun _ _ => rfl, rfl⟩
theorem cv_a60 (G : cv_G) : cv_ai G 60 120 0 .int := ⟨fun _ => rfl, fun _ _ => rfl, rfl⟩
theorem cv_a61 (G : cv_G) : cv_ai G 61 112 0 .int := ⟨fun _ => rfl, fun _ _ => rfl, rfl⟩
theorem cv_a62 (G : cv_G) : cv_ai G 62 112 0 .int := ⟨fun _ => rfl, fun _ _ => rfl, rfl⟩
theorem cv_a63 (G : cv_G) : cv_ai G 63 8 0 .int := ⟨fun _ => rfl, fun _ _ => rfl, rfl⟩
theorem cv_a64 (G : cv_G) : cv_ai G 64 48 0 .int := ⟨fun _ => rfl, fun _ _ => rfl, rfl⟩
theorem cv_a65 (G : cv_G) : cv_ai G 65 8 0 .int := ⟨fun _ => rfl, fun _ _ => rfl, rfl⟩
theorem cv_a66 (G : cv_G) (σ : cv_St) : (cv_w G σ)[66]? = some (G.1 66, .inl (G.2.2 3, 1, .inr (.inl σ.2.2.1))) := rfl
theorem cv_s66 (G : cv_G) (σ : cv_St) (f : Nat → Int64) : (cv_w G σ).set 66 (G.1 66, .inl (G.2.2 3, 1, .inr (.inl f))) = cv_w G (cv_sL σ f) := rfl
theorem cv_a67 (G : cv_G) (σ : cv_St) : (cv_w G σ)[67]? = some (G.1 67, .inl (G.2.2 4, 1, .inr (.inr (.inr (.inl σ.2.2.2))))) := rfl
theorem cv_s67 (G : cv_G) (σ : cv_St) (f : Nat → UInt64) : (cv_w G σ).set 67 (G.1 67, .inl (G.2.2 4, 1, .inr (.inr (.inr (.inl f))))) = cv_w G (cv_sD σ f) := rfl
/-- the good words of the tables -/
def cv_gw : List Cond := lw_tbl.filter goodWord
theorem cv_gw_good {w : Cond} (h : w ∈ cv_gw) : goodWord w = true := (List.mem_filter.mp h).2
theorem cv_gw_in {w : Cond} (h : w ∈ cv_gw) : w ∈ lw_tbl := (List.mem_filter.mp h).1
theorem cv_mT {w : Cond} (i : Nat) (h : tables_1[i]? = some w) (g : goodWord w = true) : w ∈ cv_gw := List.mem_filter.mpr ⟨List.mem_append_right _ (List.mem_of_getElem? h), g⟩
theorem cv_mS {w : Cond} (i : Nat) (h : (k2_sels lw_privs)[i]? = some w) (g : goodWord w = true) : w ∈ cv_gw := List.mem_filter.mpr ⟨List.mem_append_left _ (List.mem_of_getElem? h), g⟩
theorem cv_mU (ws : List Cond) (ps : List Nat) (hp : ws = ps.filterMap (fun i => tables_1[i]?)) (h : ws.all goodWord = true) : ∀ w ∈ ws, w ∈ cv_gw := by
  intro w hw
  have h1 := List.all_eq_true.mp h w hw
  rw [hp] at hw
  obtain ⟨i, -, hi⟩ := List.mem_filterMap.mp hw
  exact cv_mT i hi h1
/-- the field of a whole number: its slot's word, its cell -/
def cv_GI (G : cv_G) (own : String) (index ob j : Nat) : Prop := ∃ (C : String) (T : u_T) (N ci k : Nat) (fs : cv_St → List Value), cv_cl[ci]? = some (C, T, N) ∧ (∀ w ∈ u_ws C T N, w ∈ cv_gw) ∧ k < N ∧ Cond.fieldLink own index (T k).1 (T k).2.1 (T k).2.2.1 ∈ cv_gw ∧ (∀ σ, (cv_w G σ)[ob]? = some (G.1 ob, .inr (ci, fs σ))) ∧ (∀ σ, (fs σ)[k]? = some (.int (σ.2.1 j)))
def cv_GR (G : cv_G) (own : String) (index ob r : Nat) : Prop := ∃ (C : String) (T : u_T) (N ci k : Nat) (fs : cv_St → List Value), cv_cl[ci]? = some (C, T, N) ∧ (∀ w ∈ u_ws C T N, w ∈ cv_gw) ∧ k < N ∧ Cond.fieldLink own index (T k).1 (T k).2.1 (T k).2.2.1 ∈ cv_gw ∧ (∀ σ, (cv_w G σ)[ob]? = some (G.1 ob, .inr (ci, fs σ))) ∧ (∀ σ, (fs σ)[k]? = some (.ref (G.1 r)))
def cv_PI (G : cv_G) (own : String) (index ob j : Nat) (ty : FieldType) : Prop := ∃ (C : String) (T : u_T) (ty0 : Nat → FieldType) (N ci k : Nat) (fs : cv_St → List Value), cv_cl[ci]? = some (C, T, N) ∧ (∀ w ∈ u_ws C T N, w ∈ cv_gw) ∧ k < N ∧ Cond.fieldLink own index (T k).1 (T k).2.1 (T k).2.2.1 ∈ cv_gw ∧ (∀ σ, (cv_w G σ)[ob]? = some (G.1 ob, .inr (ci, fs σ))) ∧ (∀ k, k < N → parseFieldDescriptor (T k).2.2.1 = some (ty0 k)) ∧ (∀ a, a < N → ∀ b, b < N → a ≠ b → (T a).2.1 ≠ (T b).2.1) ∧ (T k).2.2.2 = false ∧ parseFieldDescriptor (T k).2.2.1 = some ty ∧ (∀ σ, k < (fs σ).length) ∧ (∀ (σ : cv_St) (v : Int32), (cv_w G σ).set ob (G.1 ob, .inr (ci, (fs σ).set k (.int v))) = cv_w G (cv_sF σ j v))
