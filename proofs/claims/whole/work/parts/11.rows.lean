/-! ROWS over the flat world: fields, arrays, calls, entry and end -/
section FLR
variable {p : Program} {l : Launch} {e : Env} {R : Room} {s : State} {m : MethodId} {args : Array Value} {below : List Frame} {meth : Method} {c : Code} {H : Heap} {locs : List Loc} {Q : State → Prop}
variable {cc : ByteArray} {nL pc : Nat} {own : String} {ls : Array Slot} {rest : List Value} {D : va_G} {dA : Nat → ClassId} {ad : Nat → Nat} {N : Nat} {I : fl_TI} {J : fl_TJ} {A : Nat → Prop} {H0 : Heap}
theorem fl_lald (X : CallFix p m c cc nL s args fl_tb own) (hI : fl_I D dA ad N I J A s H0 H locs) (hdg : decode cc pc = .ok (.laload, 1)) {k : Nat} (hk : k < N) (h1 : fl_k k = 1) {i : Int32} (hin : vp_in i (fl_n k))
    (kk : W p l e R s m args below meth c H locs 0 0 Q (F0 m (pc + 1) ls (.long (J k i.toNatClampNeg) :: rest))) : W p l e R s m args below meth c H locs 0 0 Q (F0 m pc ls (.int i :: .ref (ad k) :: rest)) :=
  va_lald (cA := dA 1) (n := fl_n k) X.1 X.2.1 hI.1.1 hI.2.1 k 1 (by rw [fl_w_at hk, fl_c_J h1]) rfl hin hdg kk
theorem fl_iald (X : CallFix p m c cc nL s args fl_tb own) (hI : fl_I D dA ad N I J A s H0 H locs) (hdg : decode cc pc = .ok (.iaload, 1)) {k : Nat} (hk : k < N) (h1 : fl_k k = 0) {i : Int32} (hin : vp_in i (fl_n k))
    (kk : W p l e R s m args below meth c H locs 0 0 Q (F0 m (pc + 1) ls (.int (I k i.toNatClampNeg) :: rest))) : W p l e R s m args below meth c H locs 0 0 Q (F0 m pc ls (.int i :: .ref (ad k) :: rest)) :=
  va_iald (cA := dA 0) (n := fl_n k) X.1 X.2.1 hI.1.1 hI.2.1 k 0 (by rw [fl_w_at hk, fl_c_I h1]) rfl hin hdg kk
theorem fl_last (X : CallFix p m c cc nL s args fl_tb own) (hI : fl_I D dA ad N I J A s H0 H locs) (hdg : decode cc pc = .ok (.lastore, 1)) {k : Nat} (hk : k < N) (h1 : fl_k k = 1) {i : Int32} {x : Int64} (hin : vp_in i (fl_n k))
    (kk : ∀ (H1 : Heap) (locs1 : List Loc), fl_I D dA ad N I (fl_up J k i.toNatClampNeg x) A s H0 H1 locs1 → W p l e R s m args below meth c H1 locs1 0 0 Q (F0 m (pc + 1) ls rest)) : W p l e R s m args below meth c H locs 0 0 Q (F0 m pc ls (.long x :: .int i :: .ref (ad k) :: rest)) := by
  refine va_last (cA := dA 1) (n := fl_n k) X.1 X.2.1 hI.1.1 hI.2.1 hI.2.2.1 hI.2.2.2.1 k 1 (by rw [fl_w_at hk, fl_c_J h1]) rfl hin hdg (fun H1 locs1 hP hD hS => ?_)
  have e := fl_w_set (dA := dA) (ad := ad) (N := N) (I := I) (I' := I) (J := J) (J' := fl_up J k i.toNatClampNeg x) (k := k) (e := .inl (dA 1, fl_n k, .inr (.inl (vp_updL (J k) i.toNatClampNeg x)))) (by rw [fl_c_J h1, fl_up_J]) (fun _ _ => rfl) (fun a h => fl_up_row h)
  rw [e] at hP hD
  exact kk H1 locs1 ⟨hI.1, hP, hD, hS, hI.2.2.2.2⟩
theorem fl_iast (X : CallFix p m c cc nL s args fl_tb own) (hI : fl_I D dA ad N I J A s H0 H locs) (hdg : decode cc pc = .ok (.iastore, 1)) {k : Nat} (hk : k < N) (h1 : fl_k k = 0) {i x : Int32} (hin : vp_in i (fl_n k))
    (kk : ∀ (H1 : Heap) (locs1 : List Loc), fl_I D dA ad N (fl_up I k i.toNatClampNeg x) J A s H0 H1 locs1 → W p l e R s m args below meth c H1 locs1 0 0 Q (F0 m (pc + 1) ls rest)) : W p l e R s m args below meth c H locs 0 0 Q (F0 m pc ls (.int x :: .int i :: .ref (ad k) :: rest)) := by
  refine va_iast (cA := dA 0) (n := fl_n k) X.1 X.2.1 hI.1.1 hI.2.1 hI.2.2.1 hI.2.2.2.1 k 0 (by rw [fl_w_at hk, fl_c_I h1]) rfl hin hdg (fun H1 locs1 hP hD hS => ?_)
  have e := fl_w_set (dA := dA) (ad := ad) (N := N) (I := I) (I' := fl_up I k i.toNatClampNeg x) (J := J) (J' := J) (k := k) (e := .inl (dA 0, fl_n k, .inl (upd (I k) i.toNatClampNeg x))) (by rw [fl_c_I h1, fl_up_I]) (fun a h => fl_up_row h) (fun _ _ => rfl)
  rw [e] at hP hD
  exact kk H1 locs1 ⟨hI.1, hP, hD, hS, hI.2.2.2.2⟩
/-- a row of a grid -/
theorem fl_aald3 (X : CallFix p m c cc nL s args fl_tb own) (hI : fl_I D dA ad N I J A s H0 H locs) (hdg : decode cc pc = .ok (.aaload, 1)) {k : Nat} (hk : k < N) (h1 : fl_k k = 3) {i : Int32} (hin : vp_in i (fl_n k))
    (kk : W p l e R s m args below meth c H locs 0 0 Q (F0 m (pc + 1) ls (.ref (ad (k + 1 + i.toNatClampNeg)) :: rest))) : W p l e R s m args below meth c H locs 0 0 Q (F0 m pc ls (.int i :: .ref (ad k) :: rest)) := by
  have hlt : i.toNatClampNeg < fl_n k := Nat.not_le.mp fun q => hin (Or.inr q)
  have hc := hI.2.1 k _ (fl_w_at (dA := dA) (ad := ad) (I := I) (J := J) hk)
  rw [fl_c_JJ h1] at hc
  exact W.aald (v := .ref (ad (k + 1 + i.toNatClampNeg))) (ty := .array .long) X.1 X.2.1 hc ((hI.1.1.2 3 _ rfl).1 (fl_n k) (fun j => va_rf (if j < fl_n k then some (ad (k + 1 + j)) else none))) rfl (fun q => by cases q) (by show ¬ (i < 0 ∨ (arrV _ _ _).slots.size ≤ _); rw [arrV_size]; exact hin) (by show (arrV _ _ _).slots[_]? = _; rw [arrV_read _ _ hlt]; show some (va_rf (if i.toNatClampNeg < fl_n k then some (ad (k + 1 + i.toNatClampNeg)) else none)) = _; rw [if_pos hlt]; rfl) rfl rfl hdg kk
theorem fl_aald2 (X : CallFix p m c cc nL s args fl_tb own) (hI : fl_I D dA ad N I J A s H0 H locs) (hdg : decode cc pc = .ok (.aaload, 1)) {k : Nat} (hk : k < N) (h1 : fl_k k = 2) {i : Int32} (hin : vp_in i (fl_n k))
    (kk : W p l e R s m args below meth c H locs 0 0 Q (F0 m (pc + 1) ls (.ref (ad (k + 1 + i.toNatClampNeg)) :: rest))) : W p l e R s m args below meth c H locs 0 0 Q (F0 m pc ls (.int i :: .ref (ad k) :: rest)) := by
  have hlt : i.toNatClampNeg < fl_n k := Nat.not_le.mp fun q => hin (Or.inr q)
  have hc := hI.2.1 k _ (fl_w_at (dA := dA) (ad := ad) (I := I) (J := J) hk)
  rw [fl_c_II h1] at hc
  exact W.aald (v := .ref (ad (k + 1 + i.toNatClampNeg))) (ty := .array .int) X.1 X.2.1 hc ((hI.1.1.2 2 _ rfl).1 (fl_n k) (fun j => va_rf (if j < fl_n k then some (ad (k + 1 + j)) else none))) rfl (fun q => by cases q) (by show ¬ (i < 0 ∨ (arrV _ _ _).slots.size ≤ _); rw [arrV_size]; exact hin) (by show (arrV _ _ _).slots[_]? = _; rw [arrV_read _ _ hlt]; show some (va_rf (if i.toNatClampNeg < fl_n k then some (ad (k + 1 + i.toNatClampNeg)) else none)) = _; rw [if_pos hlt]; rfl) rfl rfl hdg kk
/-- arraylength of an array of longs -/
theorem fl_alen1 (X : CallFix p m c cc nL s args fl_tb own) (hI : fl_I D dA ad N I J A s H0 H locs) (hdg : decode cc pc = .ok (.arraylength, 1)) {k : Nat} (hk : k < N) (h1 : fl_k k = 1)
    (kk : W p l e R s m args below meth c H locs 0 0 Q (F0 m (pc + 1) ls (.int (nI (fl_n k)) :: rest))) : W p l e R s m args below meth c H locs 0 0 Q (F0 m pc ls (.ref (ad k) :: rest)) :=
  va_alen (cA := dA 1) (x := (fl_n k, .inr (.inl (J k)))) X.1 X.2.1 hI.1.1 hI.2.1 k 1 (by rw [fl_w_at hk, fl_c_J h1]) rfl rfl hdg kk
/-- a field read -/
theorem fl_get {ci Nf index : Nat} {C : String} {T : u_T} {fs : List Value} (X : CallFix p m c cc nL s args fl_tb own) (hI : fl_I D dA ad N I J A s H0 H locs) (hdg : decode cc pc = .ok (.getfield index, 3)) {k : Nat} (hk : k < N) (he : fl_c dA ad I J k = .inr (ci, fs)) (hc : fl_cl[ci]? = some (C, T, Nf)) (hin : ∀ w ∈ u_ws C T Nf, w ∈ fl_tb) (f : Nat) (hf : f < Nf) (hlink : Cond.fieldLink own index (T f).1 (T f).2.1 (T f).2.2.1 ∈ fl_tb) {v : Value} (hv : fs[f]? = some v)
    (kk : W p l e R s m args below meth c H locs 0 0 Q (F0 m (pc + 3) ls (v :: rest))) : W p l e R s m args below meth c H locs 0 0 Q (F0 m pc ls (.ref (ad k) :: rest)) :=
  va_get (C := C) (T := T) (N := Nf) (ci := ci) X.1 X.2.1 X.2.2.2.2 hin X.2.2.2.1 hI.1.1 hI.2.1 k (by rw [fl_w_at hk, he]) hc f hf (X.2.2.2.2 _ hlink) (fun _ h => h) hv hdg kk
theorem fl_put {ci Nf index : Nat} {C : String} {T : u_T} {fs : List Value} {ty0 : Nat → FieldType} (X : CallFix p m c cc nL s args fl_tb own) (hI : fl_I D dA ad N I J A s H0 H locs) (hdg : decode cc pc = .ok (.putfield index, 3)) {k : Nat} (hk : k < N) (he : fl_c dA ad I J k = .inr (ci, fs)) (hc : fl_cl[ci]? = some (C, T, Nf)) (hin : ∀ w ∈ u_ws C T Nf, w ∈ fl_tb) (hty : ∀ k, k < Nf → parseFieldDescriptor (T k).2.2.1 = some (ty0 k)) (hnm : ∀ a, a < Nf → ∀ b, b < Nf → a ≠ b → (T a).2.1 ≠ (T b).2.1) (f : Nat) (hf : f < Nf) (hlink : Cond.fieldLink own index (T f).1 (T f).2.1 (T f).2.2.1 ∈ fl_tb) (hfin : (T f).2.2.2 = false) (hd : parseFieldDescriptor (T f).2.2.1 = some .int) {x : Int32} (hl : f < fs.length)
    (he2 : fl_c dA ad (fl_up I k f x) J k = .inr (ci, fs.set f (.int x)))
    (kk : ∀ (H1 : Heap) (locs1 : List Loc), fl_I D dA ad N (fl_up I k f x) J A s H0 H1 locs1 → W p l e R s m args below meth c H1 locs1 0 0 Q (F0 m (pc + 3) ls rest)) : W p l e R s m args below meth c H locs 0 0 Q (F0 m pc ls (.int x :: .ref (ad k) :: rest)) := by
  refine va_put (C := C) (T := T) (N := Nf) (ci := ci) (v := .int x) (ty := .int) X.1 X.2.1 X.2.2.2.2 hin ty0 hty hnm X.2.2.2.1 hI.1.1 hI.2.1 hI.2.2.1 hI.2.2.2.1 k (by rw [fl_w_at hk, he]) hc f hf (X.2.2.2.2 _ hlink) (fun _ h => h) hfin hd rfl rfl hl hdg (fun H1 locs1 hP hD hS => ?_)
  have e := fl_w_set (dA := dA) (ad := ad) (N := N) (I := I) (I' := fl_up I k f x) (J := J) (J' := J) (k := k) he2 (fun a h => fl_up_row h) (fun _ _ => rfl)
  rw [e] at hP hD
  exact kk H1 locs1 ⟨hI.1, hP, hD, hS, hI.2.2.2.2⟩
theorem fl_get0 {index : Nat} (X : CallFix p m c cc nL s args fl_tb RX0) (hI : fl_I D dA ad N I J A s H0 H locs) (hdg : decode cc pc = .ok (.getfield index, 3)) {k : Nat} (hk : k < N) (h4 : fl_k k = 4) (f : Nat) (hf : f < 5) (hlink : Cond.fieldLink RX0 index (TX0 f).1 (TX0 f).2.1 (TX0 f).2.2.1 ∈ fl_tb) {v : Value} (hv : ([.ref (ad (k + 1)), .ref (ad (k + 2 + fl_n (k + 1))), .int (I k 2), .int (I k 3), .int (I k 4)] : List Value)[f]? = some v)
    (kk : W p l e R s m args below meth c H locs 0 0 Q (F0 m (pc + 3) ls (v :: rest))) : W p l e R s m args below meth c H locs 0 0 Q (F0 m pc ls (.ref (ad k) :: rest)) :=
  fl_get (ci := 0) (C := RX0) (T := TX0) (Nf := 5) X hI hdg hk (fl_c_4 h4) rfl fl_w0 f hf hlink hv kk
theorem fl_get1 {index : Nat} (X : CallFix p m c cc nL s args fl_tb RX1) (hI : fl_I D dA ad N I J A s H0 H locs) (hdg : decode cc pc = .ok (.getfield index, 3)) (hk : 0 < N) (f : Nat) (hf : f < 11) (hlink : Cond.fieldLink RX1 index (TX1 f).1 (TX1 f).2.1 (TX1 f).2.2.1 ∈ fl_tb) {v : Value} (hv : ([.ref (ad 1), .ref (ad 5), .int (I 0 2), .int (I 0 3), .ref (ad 6), .ref (ad 13), .int (I 0 6), .ref (ad 22), .int (I 0 8), .ref (ad 23), .ref (ad 24)] : List Value)[f]? = some v)
    (kk : W p l e R s m args below meth c H locs 0 0 Q (F0 m (pc + 3) ls (v :: rest))) : W p l e R s m args below meth c H locs 0 0 Q (F0 m pc ls (.ref (ad 0) :: rest)) :=
  fl_get (ci := 1) (C := RX1) (T := TX1) (Nf := 11) X hI hdg hk fl_c_5 rfl fl_w1 f hf hlink hv kk
theorem fl_get2 {index : Nat} (X : CallFix p m c cc nL s args fl_tb RX2) (hI : fl_I D dA ad N I J A s H0 H locs) (hdg : decode cc pc = .ok (.getfield index, 3)) (hk : 30 < N) (f : Nat) (hf : f < 9) (hlink : Cond.fieldLink RX2 index (TX2 f).1 (TX2 f).2.1 (TX2 f).2.2.1 ∈ fl_tb) {v : Value} (hv : ([.int (I 30 0), .int (I 30 1), .ref (ad 31), .ref (ad 32), .ref (ad 33), .int (I 30 5), .ref (ad 34), .ref (ad 35), .ref (ad 36)] : List Value)[f]? = some v)
    (kk : W p l e R s m args below meth c H locs 0 0 Q (F0 m (pc + 3) ls (v :: rest))) : W p l e R s m args below meth c H locs 0 0 Q (F0 m pc ls (.ref (ad 30) :: rest)) :=
  fl_get (ci := 2) (C := RX2) (T := TX2) (Nf := 9) X hI hdg hk fl_c_6 rfl fl_w2 f hf hlink hv kk
theorem fl_put0 {index : Nat} (X : CallFix p m c cc nL s args fl_tb RX0) (hI : fl_I D dA ad N I J A s H0 H locs) (hdg : decode cc pc = .ok (.putfield index, 3)) {k : Nat} (hk : k < N) (h4 : fl_k k = 4) (f : Nat) (hf : f = 2 ∨ f = 3 ∨ f = 4) (hlink : Cond.fieldLink RX0 index (TX0 f).1 (TX0 f).2.1 (TX0 f).2.2.1 ∈ fl_tb) {x : Int32}
    (kk : ∀ (H1 : Heap) (locs1 : List Loc), fl_I D dA ad N (fl_up I k f x) J A s H0 H1 locs1 → W p l e R s m args below meth c H1 locs1 0 0 Q (F0 m (pc + 3) ls rest)) : W p l e R s m args below meth c H locs 0 0 Q (F0 m pc ls (.int x :: .ref (ad k) :: rest)) := by
  refine fl_put (ci := 0) (C := RX0) (T := TX0) (Nf := 5) (ty0 := tyX0) X hI hdg hk (fl_c_4 h4) rfl fl_w0 tyX0_ok nmX0 f (by omega) hlink (by rcases hf with rfl | rfl | rfl <;> rfl) (by rcases hf with rfl | rfl | rfl <;> decide +kernel) (by show f < 5; omega) ?_ kk
  rw [fl_c_4 h4]
  rcases hf with rfl | rfl | rfl <;> simp [fl_up]
theorem fl_put1 {index : Nat} (X : CallFix p m c cc nL s args fl_tb RX1) (hI : fl_I D dA ad N I J A s H0 H locs) (hdg : decode cc pc = .ok (.putfield index, 3)) (hk : 0 < N) (f : Nat) (hf : f = 2 ∨ f = 3 ∨ f = 6 ∨ f = 8) (hlink : Cond.fieldLink RX1 index (TX1 f).1 (TX1 f).2.1 (TX1 f).2.2.1 ∈ fl_tb) {x : Int32}
    (kk : ∀ (H1 : Heap) (locs1 : List Loc), fl_I D dA ad N (fl_up I 0 f x) J A s H0 H1 locs1 → W p l e R s m args below meth c H1 locs1 0 0 Q (F0 m (pc + 3) ls rest)) : W p l e R s m args below meth c H locs 0 0 Q (F0 m pc ls (.int x :: .ref (ad 0) :: rest)) := by
  refine fl_put (ci := 1) (C := RX1) (T := TX1) (Nf := 11) (ty0 := tyX1) X hI hdg hk fl_c_5 rfl fl_w1 tyX1_ok nmX1 f (by omega) hlink (by rcases hf with rfl | rfl | rfl | rfl <;> rfl) (by rcases hf with rfl | rfl | rfl | rfl <;> decide +kernel) (by show f < 11; omega) ?_ kk
  rw [fl_c_5]
  rcases hf with rfl | rfl | rfl | rfl <;> simp [fl_up]
theorem fl_put2 {index : Nat} (X : CallFix p m c cc nL s args fl_tb RX2) (hI : fl_I D dA ad N I J A s H0 H locs) (hdg : decode cc pc = .ok (.putfield index, 3)) (hk : 30 < N) (f : Nat) (hf : f = 0 ∨ f = 1 ∨ f = 5) (hlink : Cond.fieldLink RX2 index (TX2 f).1 (TX2 f).2.1 (TX2 f).2.2.1 ∈ fl_tb) {x : Int32}
    (kk : ∀ (H1 : Heap) (locs1 : List Loc), fl_I D dA ad N (fl_up I 30 f x) J A s H0 H1 locs1 → W p l e R s m args below meth c H1 locs1 0 0 Q (F0 m (pc + 3) ls rest)) : W p l e R s m args below meth c H locs 0 0 Q (F0 m pc ls (.int x :: .ref (ad 30) :: rest)) := by
  refine fl_put (ci := 2) (C := RX2) (T := TX2) (Nf := 9) (ty0 := tyX2) X hI hdg hk fl_c_6 rfl fl_w2 tyX2_ok nmX2 f (by omega) hlink (by rcases hf with rfl | rfl | rfl <;> rfl) (by rcases hf with rfl | rfl | rfl <;> decide +kernel) (by show f < 9; omega) ?_ kk
  rw [fl_c_6]
  rcases hf with rfl | rfl | rfl <;> simp [fl_up]
/-- behind a call -/
theorem fl_run {post : Option Value → fl_TI → fl_TJ → Prop} {a : Array Value} {st0 : List Value} (hr : va_Run p l e R s m args below meth c H locs 0 0 0 0 (F0 m pc ls st0) rest (fl_Q D dA ad N post (fl_A ad N H.size) a) (fl_A ad N H.size)) (hI : fl_I D dA ad N I J A s H0 H locs)
    (kk : ∀ (v : Option Value) (I' : fl_TI) (J' : fl_TJ) (H1 : Heap) (locs1 : List Loc), post v I' J' → fl_I D dA ad N I' J' A s H0 H1 locs1 → W p l e R s m args below meth c H1 locs1 0 0 Q (F0 m (pc + 3) ls (v.toList ++ rest))) : W p l e R s m args below meth c H locs 0 0 Q (F0 m pc ls st0) := by
  intro T hT X
  obtain ⟨v0, st₀, t, T', L, h0, X', hL, e1, e2, ⟨⟨v, I', J', hv, hp, hP1, hD1⟩, hz, hk⟩, st⟩ := hr T hT X
  cases hv
  rw [h0] at hz hk
  obtain ⟨hK, hP, hD, hS, hA⟩ := hI
  have hin := fl_A_in (sz := H.size) hD (fun q h => hA q (Nat.le_trans hS.1 h))
  obtain ⟨t2, a1, b1⟩ := kk v0 I' J' T'.heap (locs ++ L) hp ⟨hK, by rw [e1]; exact hP1, fl_D_to hD, ⟨Nat.le_trans hS.1 (by rw [e1]; exact hz), fun q h1 h2 => by rw [e1, hk q (Nat.lt_of_lt_of_le h1 hS.1) (fun z => h2 (hin q z))]; exact hS.2.1 q h1 h2, fun q hq => by
      rcases List.mem_append.mp hq with h | h
      · exact hS.2.2 q h
      · exact hin _ (hL q h)⟩, hA⟩ T' rfl X'
  exact ⟨t2, st t2 a1, b1⟩
theorem fl_ws_in {y : MethodName} {bytes : ByteArray} {maxL : Nat} {ret : Option FieldType} (h : Cond.code y bytes maxL ret ∈ fl_tb) : ∀ w ∈ fl_ws y bytes maxL ret, w ∈ fl_tb := fun w hw => by
  rcases List.mem_cons.mp hw with rfl | h2
  · exact h
  · exact h2
/-- invokestatic -/
theorem fl_callS {y : MethodName} {bytes : ByteArray} {maxL index n d : Nat} {ret : Option FieldType} {As : List Value} {post : Option Value → fl_TI → fl_TJ → Prop} (X : CallFix p m c cc nL s args fl_tb own) (hI : fl_I D dA ad N I J A s H0 H locs) (hdg : decode cc pc = .ok (.invokestatic index, 3)) (hM : FM y bytes maxL ret d D dA ad N As I J post)
    (wc : Cond.code y bytes maxL ret ∈ fl_tb) (wm : Cond.methodLink own index y ∈ fl_tb) (ws : Cond.static y ∈ fl_tb) (wn : Cond.initialized y.cls ∈ fl_tb) (hd : y.cls ≠ "java/lang/invoke/MethodHandle" ∧ y.cls ≠ "java/lang/invoke/VarHandle" ∧ (parseMethodDescriptor y.desc).map (fun d => d.parameters.length) = some n) (hn : As.length = n) (hR : d + 1 ≤ R.frames ∧ 8 + (maxL + 11) + 40 * d ≤ R.locals) (hl : ls.size = nL) (hst : (rest.map fun v => v.category).sum ≤ 8)
    (kk : ∀ (v : Option Value) (I' : fl_TI) (J' : fl_TJ) (H1 : Heap) (locs1 : List Loc), post v I' J' → fl_I D dA ad N I' J' A s H0 H1 locs1 → W p l e R s m args below meth c H1 locs1 0 0 Q (F0 m (pc + 3) ls (v.toList ++ rest))) : W p l e R s m args below meth c H locs 0 0 Q (F0 m pc ls (As.reverse ++ rest)) := by
  refine fl_run (post := post) (va_runS (n := n) (As := As) (rest := rest) X (hM l H.size) ⟨callB_of n X.2.2.2.2 (fl_goodIn (fl_ws_in wc) (fun _ h => h)) rfl rfl rfl (X.2.2.2.2 _ wn) (X.2.2.2.2 _ wm) hd hR, X.2.2.2.2 _ ws⟩ ⟨fl_blind, fun U hU hW => ⟨rfl, by rw [hU], hI.1.warm hW, by rw [hU]; exact ⟨hI.2.1, hI.2.2.1.weaken (fun _ _ _ _ => trivial)⟩⟩⟩ rfl hn hl rfl (lv_room hst) hdg ⟨Nat.zero_le _, Nat.zero_le _⟩) hI kk
/-- invokevirtual of a cell of the world -/
theorem fl_callV {y : MethodName} {bytes : ByteArray} {maxL index n d k ci : Nat} {fs : List Value} {rc : vw_C} {ret : Option FieldType} {As : List Value} {post : Option Value → fl_TI → fl_TJ → Prop} (X : CallFix p m c cc nL s args fl_tb own) (hI : fl_I D dA ad N I J A s H0 H locs) (hdg : decode cc pc = .ok (.invokevirtual index, 3)) (hM : FM y bytes maxL ret d D dA ad N (.ref (ad k) :: As) I J post)
    (hk : k < N) (he : fl_c dA ad I J k = .inr (ci, fs)) (hc : fl_cl[ci]? = some rc) (hcl : y.cls = rc.1) (wc : Cond.code y bytes maxL ret ∈ fl_tb) (wm : Cond.methodLink own index y ∈ fl_tb) (wi : Cond.instanceMethod y ∈ fl_tb) (wl : Cond.selects rc.1 y y ∈ fl_tb) (wn : Cond.initialized y.cls ∈ fl_tb) (hd : y.cls ≠ "java/lang/invoke/MethodHandle" ∧ y.cls ≠ "java/lang/invoke/VarHandle" ∧ (parseMethodDescriptor y.desc).map (fun d => d.parameters.length) = some n) (hn : As.length = n) (hR : d + 1 ≤ R.frames ∧ 8 + (maxL + 11) + 40 * d ≤ R.locals) (hl : ls.size = nL) (hst : (rest.map fun v => v.category).sum ≤ 8)
    (kk : ∀ (v : Option Value) (I' : fl_TI) (J' : fl_TJ) (H1 : Heap) (locs1 : List Loc), post v I' J' → fl_I D dA ad N I' J' A s H0 H1 locs1 → W p l e R s m args below meth c H1 locs1 0 0 Q (F0 m (pc + 3) ls (v.toList ++ rest))) : W p l e R s m args below meth c H locs 0 0 Q (F0 m pc ls (As.reverse ++ .ref (ad k) :: rest)) := by
  refine fl_run (post := post) (va_runV (C := rc.1) (b := ad k) (n := n) (As := As) (rest := rest) X (hM l H.size) ⟨callB_of n X.2.2.2.2 (fl_goodIn (fl_ws_in wc) (fun _ h => h)) rfl rfl rfl (X.2.2.2.2 _ wn) (X.2.2.2.2 _ wm) hd hR, X.2.2.2.2 _ wi, X.2.2.2.2 _ wl⟩ ⟨fl_blind, va_recv (q0 := k) hI.1.1 hI.2.1 hc (by rw [fl_w_at hk, he]), fun U hU hW => ⟨rfl, by rw [hU], hI.1.warm hW, by rw [hU]; exact ⟨hI.2.1, hI.2.2.1.weaken (fun _ _ _ _ => trivial)⟩⟩⟩ rfl hn hl rfl (lv_room hst) hdg ⟨Nat.zero_le _, Nat.zero_le _⟩) hI kk
end FLR
/-- a contract out of a walk -/
theorem FM.ofW {y : MethodName} {cc : ByteArray} {nL d N : Nat} {ret : Option FieldType} {D : va_G} {dA : Nat → ClassId} {ad : Nat → Nat} {av : List Value} {I : fl_TI} {J : fl_TJ} {post : Option Value → fl_TI → fl_TJ → Prop} (own : String) (hown : y.cls = own) (hy : plainFor y = true) (hav : (lg_sl av).length ≤ nL)
    (body : ∀ (p : Program) (l : Launch) (e : Env) (s : State) (m : MethodId) (args : Array Value) (below : List Frame) (meth : Method) (c : Code) (ls : Array Slot), CallFix p m c cc nL s args fl_tb own → meth.sig.returnType = ret → meth.locks = false → fl_I D dA ad N I J (fl_A ad N s.heap.size) s s.heap s.heap [] → lv_has ls nL (lv_args 0 av) →
      W p l e (fl_rm d) s m args below meth c s.heap [] 0 0 (MQ below (fl_Q D dA ad N post (fl_A ad N s.heap.size)) args s 0 0 (fl_A ad N s.heap.size)) (F0 m 0 ls [])) : FM y cc nL ret d D dA ad N av I J post := by
  intro l sz
  refine va_MetF (cc := cc) (maxL := nL) (ret := ret) hy rfl ?_
  intro p e s m args below meth c s₁ B hml hv
  obtain ⟨rfl, hsz, hK, hP, hD0⟩ := hv
  have hts := atoms_spec (ws := fl_ws y cc nL ret) B.pre
  have hown2 : s.vm.findClass y.cls = some m.cls := findClass_of_methodNamed B.named
  subst hsz
  have hl := lv_entry av (n := nL) hav
  rw [lg_entry_eq]
  exact body p l e s m _ below meth c _ ⟨B.exec, B.bytes, hml, by rw [← hown]; exact hown2, fun w hw => hts w (List.mem_cons_of_mem _ hw)⟩ B.returns B.notSynchronized ⟨hK, hP, fl_D_A hD0 _, va_S.rf, fun q h => Or.inr h⟩ hl
section FLE
variable {p : Program} {l : Launch} {e : Env} {R : Room} {s : State} {m : MethodId} {args : Array Value} {below : List Frame} {meth : Method} {c : Code} {H : Heap} {locs : List Loc}
variable {cc : ByteArray} {nL pc : Nat} {own : String} {ls : Array Slot} {D : va_G} {dA : Nat → ClassId} {ad : Nat → Nat} {N : Nat} {I : fl_TI} {J : fl_TJ} {A : Nat → Prop} {post : Option Value → fl_TI → fl_TJ → Prop}
theorem fl_iret {v : Int32} (X : CallFix p m c cc nL s args fl_tb own) (hr : meth.sig.returnType = some .int) (hlk : meth.locks = false) (hI : fl_I D dA ad N I J A s s.heap H locs) (hdg : decode cc pc = .ok (.ireturn, 1)) (hp : post (some (.int v)) I J) : W p l e R s m args below meth c H locs 0 0 (MQ below (fl_Q D dA ad N post A) args s 0 0 A) (F0 m pc ls [.int v]) :=
  W.iret X.1 X.2.1 hr (fun t ht hW => ⟨⟨_, I, J, rfl, hp, by rw [ht]; exact hI.2.1, hI.2.2.1⟩, hI.2.2.2.1.F ht⟩) hI.2.2.2.1.2.2 hdg hlk
theorem fl_zret {v : Int32} (X : CallFix p m c cc nL s args fl_tb own) (hr : meth.sig.returnType = some .boolean) (hlk : meth.locks = false) (hI : fl_I D dA ad N I J A s s.heap H locs) (hdg : decode cc pc = .ok (.ireturn, 1)) (hn : narrow .boolean (.int v) = .int v) (hp : post (some (.int v)) I J) : W p l e R s m args below meth c H locs 0 0 (MQ below (fl_Q D dA ad N post A) args s 0 0 A) (F0 m pc ls [.int v]) :=
  W.zret X.1 X.2.1 hr hn (fun t ht hW => ⟨⟨_, I, J, rfl, hp, by rw [ht]; exact hI.2.1, hI.2.2.1⟩, hI.2.2.2.1.F ht⟩) hI.2.2.2.1.2.2 hdg hlk
theorem fl_lret {v : Int64} (X : CallFix p m c cc nL s args fl_tb own) (hr : meth.sig.returnType = some .long) (hlk : meth.locks = false) (hI : fl_I D dA ad N I J A s s.heap H locs) (hdg : decode cc pc = .ok (.lreturn, 1)) (hp : post (some (.long v)) I J) : W p l e R s m args below meth c H locs 0 0 (MQ below (fl_Q D dA ad N post A) args s 0 0 A) (F0 m pc ls [.long v]) :=
  W.lret X.1 X.2.1 hr (fun t ht hW => ⟨⟨_, I, J, rfl, hp, by rw [ht]; exact hI.2.1, hI.2.2.1⟩, hI.2.2.2.1.F ht⟩) hI.2.2.2.1.2.2 hdg hlk
theorem fl_vret (X : CallFix p m c cc nL s args fl_tb own) (hr : meth.sig.returnType = none) (hlk : meth.locks = false) (hI : fl_I D dA ad N I J A s s.heap H locs) (hdg : decode cc pc = .ok (.return_, 1)) (hp : post none I J) : W p l e R s m args below meth c H locs 0 0 (MQ below (fl_Q D dA ad N post A) args s 0 0 A) (F0 m pc ls []) :=
  W.vret X.1 X.2.1 hr (fun t ht hW => ⟨⟨_, I, J, rfl, hp, by rw [ht]; exact hI.2.1, hI.2.2.1⟩, hI.2.2.2.1.F ht⟩) hI.2.2.2.1.2.2 hdg hlk
theorem fl_aret {v : Value} {rt : FieldType} (X : CallFix p m c cc nL s args fl_tb own) (hr : meth.sig.returnType = some rt) (hlk : meth.locks = false) (hI : fl_I D dA ad N I J A s s.heap H locs) (hdg : decode cc pc = .ok (.areturn, 1)) (hrt : rt = .array .long) {k : Nat} (hv : v = .ref k) (hp : post (some v) I J) : W p l e R s m args below meth c H locs 0 0 (MQ below (fl_Q D dA ad N post A) args s 0 0 A) (F0 m pc ls [v]) := by
  subst hv
  subst hrt
  exact W.aret X.1 X.2.1 hr (Or.inr ⟨_, rfl⟩) (Or.inr ⟨_, rfl⟩) (fun t ht hW => ⟨⟨_, I, J, rfl, hp, by rw [ht]; exact hI.2.1, hI.2.2.1⟩, hI.2.2.2.1.F ht⟩) hI.2.2.2.1.2.2 hdg hlk
end FLE
