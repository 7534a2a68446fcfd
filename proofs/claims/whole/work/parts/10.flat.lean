/-! THE FLAT WORLD. Cells have numbers (0: the solver, 1..29 its arrays and lattices, 30: the model, 31..36 its arrays); cell k lies at ad k. What they hold is two tables: I k j (ints), J k j (longs); all references are fixed by the layout. -/
theorem fl_goodIn {big ws : List Cond} (h : ∀ w ∈ ws, w ∈ fl_tb) (hb : ∀ w ∈ fl_tb, w ∈ big) : GoodIn big ws := fun w hw => ⟨hb w (h w hw), good_of_word (List.mem_filter.mp (h w hw)).2⟩
theorem fl_w0 : ∀ w ∈ u_ws RX0 TX0 5, w ∈ fl_tb := by decide +kernel
theorem fl_w1 : ∀ w ∈ u_ws RX1 TX1 11, w ∈ fl_tb := by decide +kernel
theorem fl_w2 : ∀ w ∈ u_ws RX2 TX2 9, w ∈ fl_tb := by decide +kernel
abbrev fl_cl : List vw_C := [(RX0, TX0, 5), (RX1, TX1, 11), (RX2, TX2, 9)]
/-- kinds: 0 int[], 1 long[], 2 int[][], 3 long[][], 4 a lattice, 5 the solver, 6 the model -/
def fl_k (k : Nat) : Nat := [5, 2, 0, 0, 0, 0, 4, 3, 1, 1, 1, 1, 0, 4, 3, 1, 1, 1, 1, 1, 1, 0, 1, 1, 3, 1, 1, 1, 1, 1, 6, 0, 0, 1, 0, 1, 1].getD k 9
def fl_n (k : Nat) : Nat := [0, 3, 4, 4, 4, 3, 0, 4, 7, 7, 7, 7, 4, 0, 6, 3, 3, 3, 3, 3, 3, 6, 7, 7, 5, 4, 4, 4, 4, 4, 0, 12, 3, 64, 8, 3, 4].getD k 0
abbrev fl_TI : Type := Nat → Nat → Int32
abbrev fl_TJ : Type := Nat → Nat → Int64
def fl_c (dA : Nat → ClassId) (ad : Nat → Nat) (I : fl_TI) (J : fl_TJ) (k : Nat) : va_E := match fl_k k with
  | 0 => .inl (dA 0, fl_n k, .inl (I k))
  | 1 => .inl (dA 1, fl_n k, .inr (.inl (J k)))
  | 2 => .inl (dA 2, fl_n k, .inr (.inr (.inr (.inr (fun i => if i < fl_n k then some (ad (k + 1 + i)) else none)))))
  | 3 => .inl (dA 3, fl_n k, .inr (.inr (.inr (.inr (fun i => if i < fl_n k then some (ad (k + 1 + i)) else none)))))
  | 4 => .inr (0, [.ref (ad (k + 1)), .ref (ad (k + 2 + fl_n (k + 1))), .int (I k 2), .int (I k 3), .int (I k 4)])
  | 5 => .inr (1, [.ref (ad 1), .ref (ad 5), .int (I k 2), .int (I k 3), .ref (ad 6), .ref (ad 13), .int (I k 6), .ref (ad 22), .int (I k 8), .ref (ad 23), .ref (ad 24)])
  | _ => .inr (2, [.int (I k 0), .int (I k 1), .ref (ad 31), .ref (ad 32), .ref (ad 33), .int (I k 5), .ref (ad 34), .ref (ad 35), .ref (ad 36)])
def fl_w (dA : Nat → ClassId) (ad : Nat → Nat) (N : Nat) (I : fl_TI) (J : fl_TJ) : va_W := (List.range N).map (fun k => (ad k, fl_c dA ad I J k))
theorem fl_w_at {dA : Nat → ClassId} {ad : Nat → Nat} {N : Nat} {I : fl_TI} {J : fl_TJ} {k : Nat} (h : k < N) : (fl_w dA ad N I J)[k]? = some (ad k, fl_c dA ad I J k) := by
  unfold fl_w
  rw [List.getElem?_map, List.getElem?_range h]
  rfl
def fl_up {α : Type} (I : Nat → Nat → α) (k j : Nat) (x : α) : Nat → Nat → α := fun a b => if a = k ∧ b = j then x else I a b
theorem fl_up_s {α : Type} {I : Nat → Nat → α} {k j : Nat} {x : α} : fl_up I k j x k j = x := if_pos ⟨rfl, rfl⟩
theorem fl_up_k {α : Type} {I : Nat → Nat → α} {k j a b : Nat} {x : α} (h : a ≠ k) : fl_up I k j x a b = I a b := if_neg (fun q => h q.1)
theorem fl_up_j {α : Type} {I : Nat → Nat → α} {k j a b : Nat} {x : α} (h : b ≠ j) : fl_up I k j x a b = I a b := if_neg (fun q => h q.2)
theorem fl_c_J {dA : Nat → ClassId} {ad : Nat → Nat} {I : fl_TI} {J : fl_TJ} {k : Nat} (h : fl_k k = 1) : fl_c dA ad I J k = .inl (dA 1, fl_n k, .inr (.inl (J k))) := by unfold fl_c; simp only [h]
theorem fl_c_I {dA : Nat → ClassId} {ad : Nat → Nat} {I : fl_TI} {J : fl_TJ} {k : Nat} (h : fl_k k = 0) : fl_c dA ad I J k = .inl (dA 0, fl_n k, .inl (I k)) := by unfold fl_c; simp only [h]
theorem fl_c_II {dA : Nat → ClassId} {ad : Nat → Nat} {I : fl_TI} {J : fl_TJ} {k : Nat} (h : fl_k k = 2) : fl_c dA ad I J k = .inl (dA 2, fl_n k, .inr (.inr (.inr (.inr (fun i => if i < fl_n k then some (ad (k + 1 + i)) else none))))) := by unfold fl_c; simp only [h]
theorem fl_c_JJ {dA : Nat → ClassId} {ad : Nat → Nat} {I : fl_TI} {J : fl_TJ} {k : Nat} (h : fl_k k = 3) : fl_c dA ad I J k = .inl (dA 3, fl_n k, .inr (.inr (.inr (.inr (fun i => if i < fl_n k then some (ad (k + 1 + i)) else none))))) := by unfold fl_c; simp only [h]
theorem fl_c_4 {dA : Nat → ClassId} {ad : Nat → Nat} {I : fl_TI} {J : fl_TJ} {k : Nat} (h : fl_k k = 4) : fl_c dA ad I J k = .inr (0, [.ref (ad (k + 1)), .ref (ad (k + 2 + fl_n (k + 1))), .int (I k 2), .int (I k 3), .int (I k 4)]) := by unfold fl_c; simp only [h]
theorem fl_c_5 {dA : Nat → ClassId} {ad : Nat → Nat} {I : fl_TI} {J : fl_TJ} : fl_c dA ad I J 0 = .inr (1, [.ref (ad 1), .ref (ad 5), .int (I 0 2), .int (I 0 3), .ref (ad 6), .ref (ad 13), .int (I 0 6), .ref (ad 22), .int (I 0 8), .ref (ad 23), .ref (ad 24)]) := rfl
theorem fl_c_6 {dA : Nat → ClassId} {ad : Nat → Nat} {I : fl_TI} {J : fl_TJ} : fl_c dA ad I J 30 = .inr (2, [.int (I 30 0), .int (I 30 1), .ref (ad 31), .ref (ad 32), .ref (ad 33), .int (I 30 5), .ref (ad 34), .ref (ad 35), .ref (ad 36)]) := rfl
/-- a cell other than k is as it was -/
theorem fl_c_far {dA : Nat → ClassId} {ad : Nat → Nat} {I I' : fl_TI} {J J' : fl_TJ} {a : Nat} (hI : I' a = I a) (hJ : J' a = J a) : fl_c dA ad I' J' a = fl_c dA ad I J a := by
  unfold fl_c
  rw [hI, hJ]
theorem fl_up_row {α : Type} {I : Nat → Nat → α} {k j a : Nat} {x : α} (h : a ≠ k) : fl_up I k j x a = I a := funext fun _ => fl_up_k h
theorem fl_up_J {J : fl_TJ} {k j : Nat} {x : Int64} : vp_updL (J k) j x = fl_up J k j x k := by
  funext b
  unfold vp_updL fl_up
  by_cases h : b = j <;> simp [h]
theorem fl_up_I {I : fl_TI} {k j : Nat} {x : Int32} : upd (I k) j x = fl_up I k j x k := by
  funext b
  unfold upd fl_up
  by_cases h : b = j <;> simp [h]
theorem fl_w_set {dA : Nat → ClassId} {ad : Nat → Nat} {N : Nat} {I I' : fl_TI} {J J' : fl_TJ} {k : Nat} {e : va_E} (he : fl_c dA ad I' J' k = e) (hI : ∀ a, a ≠ k → I' a = I a) (hJ : ∀ a, a ≠ k → J' a = J a) : (fl_w dA ad N I J).set k (ad k, e) = fl_w dA ad N I' J' := by
  apply List.ext_getElem?
  intro i
  rw [List.getElem?_set]
  unfold fl_w
  by_cases hi : i < N
  · by_cases hk : k = i
    · subst hk
      rw [if_pos rfl, if_pos (by rw [List.length_map, List.length_range]; exact hi), List.getElem?_map, List.getElem?_range hi, ← he]
      rfl
    · rw [if_neg hk, List.getElem?_map, List.getElem?_map, List.getElem?_range hi]
      show some (ad i, fl_c dA ad I J i) = some (ad i, fl_c dA ad I' J' i)
      rw [fl_c_far (hI i (Ne.symm hk)) (hJ i (Ne.symm hk))]
  · have hn : (List.range N)[i]? = none := List.getElem?_eq_none (by rw [List.length_range]; omega)
    by_cases hk : k = i
    · subst hk
      rw [if_pos rfl, if_neg (by rw [List.length_map, List.length_range]; exact hi), List.getElem?_map, hn]
      rfl
    · rw [if_neg hk, List.getElem?_map, List.getElem?_map, hn]
      rfl
abbrev fl_t (dA : Nat → ClassId) : List (ClassId × FieldType) := [(dA 0, .int), (dA 1, .long), (dA 2, .array .int), (dA 3, .array .long)]
/-- what a method may change: the world's cells and what is new -/
def fl_A (ad : Nat → Nat) (N sz : Nat) : Nat → Prop := fun q => (∃ k, k < N ∧ ad k = q) ∨ sz ≤ q
/-- what the tables say, in any state of the run -/
def fl_K (D : va_G) (dA : Nat → ClassId) (U : State) : Prop := va_K D fl_cl (fl_t dA) U ∧ va_Nw (.methodLinkNest RX0 30 yX1_fillWithZero RX1) U
/-- the world stands in the heap H -/
def fl_I (D : va_G) (dA : Nat → ClassId) (ad : Nat → Nat) (N : Nat) (I : fl_TI) (J : fl_TJ) (A : Nat → Prop) (s : State) (H0 H : Heap) (locs : List Loc) : Prop :=
  fl_K D dA s ∧ va_P D fl_cl (fl_w dA ad N I J) H ∧ va_D A (fl_w dA ad N I J) ∧ va_S A H0 H locs ∧ ∀ q, H0.size ≤ q → A q
def fl_B (D : va_G) (dA : Nat → ClassId) (ad : Nat → Nat) (N : Nat) (I : fl_TI) (J : fl_TJ) (A : Nat → Prop) (H : Heap) : Prop :=
  va_P D fl_cl (fl_w dA ad N I J) H ∧ va_D A (fl_w dA ad N I J)
def fl_Q (D : va_G) (dA : Nat → ClassId) (ad : Nat → Nat) (N : Nat) (post : Option Value → fl_TI → fl_TJ → Prop) (A : Nat → Prop) : Array Value → State → Outcome → State → Prop := fun _ st oc t =>
  (∃ (v : Option Value) (I' : fl_TI) (J' : fl_TJ), oc = .returned v ∧ post v I' J' ∧ fl_B D dA ad N I' J' A t.heap) ∧ va_F A st t
abbrev fl_rm (d : Nat) : Room := { frames := d, cells := 0, slots := 0, locals := 40 * d }
abbrev fl_ws (y : MethodName) (cc : ByteArray) (nL : Nat) (ret : Option FieldType) : List Cond := Cond.code y cc nL ret :: fl_tb
abbrev fl_Pc (D : va_G) (dA : Nat → ClassId) (ad : Nat → Nat) (N : Nat) (av : List Value) (I : fl_TI) (J : fl_TJ) (sz : Nat) : Array Value → State → Prop := va_Pc av (fun U => U.heap.size = sz ∧ fl_K D dA U ∧ fl_B D dA ad N I J (fun _ => True) U.heap)
/-- a method's contract over the flat world -/
def FM (y : MethodName) (cc : ByteArray) (nL : Nat) (ret : Option FieldType) (d : Nat) (D : va_G) (dA : Nat → ClassId) (ad : Nat → Nat) (N : Nat) (av : List Value) (I : fl_TI) (J : fl_TJ) (post : Option Value → fl_TI → fl_TJ → Prop) : Prop :=
  ∀ (l : Launch) (sz : Nat), Met l y (fl_ws y cc nL ret) (fl_rm d) (fl_Pc D dA ad N av I J sz) (fl_Q D dA ad N post (fl_A ad N sz)) 0 0 (fl_A ad N sz)
theorem fl_D_A {dA : Nat → ClassId} {ad : Nat → Nat} {N : Nat} {I : fl_TI} {J : fl_TJ} {A : Nat → Prop} (h : va_D A (fl_w dA ad N I J)) (sz : Nat) : va_D (fl_A ad N sz) (fl_w dA ad N I J) := ⟨h.1, fun k q hk => by
  unfold fl_w at hk
  rw [List.getElem?_map] at hk
  by_cases hi : k < N
  · rw [List.getElem?_range hi] at hk
    cases hk
    exact Or.inl ⟨k, hi, rfl⟩
  · rw [List.getElem?_eq_none (by rw [List.length_range]; omega)] at hk
    cases hk⟩
theorem fl_A_in {dA : Nat → ClassId} {ad : Nat → Nat} {N : Nat} {I : fl_TI} {J : fl_TJ} {A : Nat → Prop} {sz : Nat} (h : va_D A (fl_w dA ad N I J)) (hA : ∀ q, sz ≤ q → A q) : ∀ q, fl_A ad N sz q → A q := fun q hq => by
  rcases hq with ⟨k, hk, rfl⟩ | hq
  · exact h.2 k _ (fl_w_at hk)
  · exact hA q hq
/-- the addresses alone decide whether cells are apart -/
theorem fl_D_to {dA : Nat → ClassId} {ad : Nat → Nat} {N : Nat} {I I' : fl_TI} {J J' : fl_TJ} {A : Nat → Prop} (h : va_D A (fl_w dA ad N I J)) : va_D A (fl_w dA ad N I' J') := by
  have hg : ∀ (I I' : fl_TI) (J J' : fl_TJ) (k : Nat) (q : Nat × va_E), (fl_w dA ad N I J)[k]? = some q → (fl_w dA ad N I' J')[k]? = some (q.1, fl_c dA ad I' J' k) := by
    intro I I' J J' k q hk
    unfold fl_w at hk ⊢
    rw [List.getElem?_map] at hk ⊢
    by_cases hi : k < N
    · rw [List.getElem?_range hi] at hk ⊢
      cases hk
      rfl
    · rw [List.getElem?_eq_none (by rw [List.length_range]; omega)] at hk
      cases hk
  refine ⟨fun i j p q hi hj e => ?_, fun k q hk => ?_⟩
  · exact h.1 i j _ _ (hg _ _ _ _ i p hi) (hg _ _ _ _ j q hj) e
  · exact h.2 k (q.1, fl_c dA ad I J k) (hg _ _ _ _ k q hk)
theorem fl_K.warm {D : va_G} {dA : Nat → ClassId} {s U : State} (h : fl_K D dA s) (hW : s.WarmedH U.vm) : fl_K D dA U := ⟨va_K.moved hW.alike h.1, va_Nw.warmM hW h.2⟩
theorem fl_blind {D : va_G} {dA : Nat → ClassId} {ad : Nat → Nat} {N : Nat} {av : List Value} {I : fl_TI} {J : fl_TJ} {sz : Nat} : FrameBlind (fl_Pc D dA ad N av I J sz) := fun a U g mk q => by
  obtain ⟨q0, q1, qK, qB⟩ := q
  exact ⟨q0, q1, ⟨va_K.moved (u := U) (U := U.calling g mk a) (Vm.Alike.refl U.vm) qK.1, va_Nw.same rfl rfl qK.2⟩, qB⟩
