/-! rows at any number of new cells; the constructors -/
section FLG
variable {p : Program} {l : Launch} {e : Env} {R : Room} {s : State} {m : MethodId} {args : Array Value} {below : List Frame} {meth : Method} {c : Code} {H : Heap} {locs : List Loc} {Q : State → Prop} {cells slots : Nat}
variable {cc : ByteArray} {nL pc : Nat} {own : String} {ls : Array Slot} {rest : List Value} {D : va_G} {dA : Nat → ClassId} {ad : Nat → Nat} {N : Nat} {I : fl_TI} {J : fl_TJ} {A : Nat → Prop} {H0 : Heap}
theorem fl_runG {post : Option Value → fl_TI → fl_TJ → Prop} {a : Array Value} {st0 : List Value} (hr : va_Run p l e R s m args below meth c H locs cells slots 0 0 (F0 m pc ls st0) rest (fl_Q D dA ad N post (fl_A ad N H.size) a) (fl_A ad N H.size)) (hI : fl_I D dA ad N I J A s H0 H locs)
    (kk : ∀ (v : Option Value) (I' : fl_TI) (J' : fl_TJ) (H1 : Heap) (locs1 : List Loc), post v I' J' → fl_I D dA ad N I' J' A s H0 H1 locs1 → W p l e R s m args below meth c H1 locs1 cells slots Q (F0 m (pc + 3) ls (v.toList ++ rest))) : W p l e R s m args below meth c H locs cells slots Q (F0 m pc ls st0) := by
  intro T hT X
  obtain ⟨v0, st₀, t, T', L, h0, X', hL, e1, e2, ⟨⟨v, I', J', hv, hp, hP1, hD1⟩, hz, hk⟩, st⟩ := hr T hT X
  cases hv
  rw [h0] at hz hk
  obtain ⟨hK, hP, hD, hS, hA⟩ := hI
  have hin := fl_A_in (sz := H.size) hD (fun q h => hA q (Nat.le_trans hS.1 h))
  obtain ⟨t2, a1, b1⟩ := kk v0 I' J' T'.heap (locs ++ L) hp ⟨hK, by rw [e1]; exact hP1, fl_D_to hD, ⟨Nat.le_trans hS.1 (by rw [e1]; exact hz), fun q h1 h2 => by rw [e1, hk q (Nat.lt_of_lt_of_le h1 hS.1) (fun z => h2 (hin q z))]; exact hS.2.1 q h1 h2, fun q hq => by
      rcases List.mem_append.mp hq with h | h
      · exact hS.2.2 q h
      · exact hin _ (hL q h)⟩, hA⟩ T' rfl X'
  exact ⟨t2, st t2 a1, b1⟩
theorem fl_callVG {y : MethodName} {bytes : ByteArray} {maxL index n d k ci : Nat} {fs : List Value} {rc : vw_C} {ret : Option FieldType} {As : List Value} {post : Option Value → fl_TI → fl_TJ → Prop} (X : CallFix p m c cc nL s args fl_tb own) (hI : fl_I D dA ad N I J A s H0 H locs) (hdg : decode cc pc = .ok (.invokevirtual index, 3)) (hM : FM y bytes maxL ret d D dA ad N (.ref (ad k) :: As) I J post)
    (hk : k < N) (he : fl_c dA ad I J k = .inr (ci, fs)) (hc : fl_cl[ci]? = some rc) (hcl : y.cls = rc.1) (wc : Cond.code y bytes maxL ret ∈ fl_tb) (wm : Cond.methodLink own index y ∈ fl_tb) (wi : Cond.instanceMethod y ∈ fl_tb) (wl : Cond.selects rc.1 y y ∈ fl_tb) (wn : Cond.initialized y.cls ∈ fl_tb) (hd : y.cls ≠ "java/lang/invoke/MethodHandle" ∧ y.cls ≠ "java/lang/invoke/VarHandle" ∧ (parseMethodDescriptor y.desc).map (fun d => d.parameters.length) = some n) (hn : As.length = n) (hR : d + 1 ≤ R.frames ∧ 8 + (maxL + 11) + 40 * d ≤ R.locals) (hcs : cells ≤ R.cells ∧ slots ≤ R.slots) (hl : ls.size = nL) (hst : (rest.map fun v => v.category).sum ≤ 8)
    (kk : ∀ (v : Option Value) (I' : fl_TI) (J' : fl_TJ) (H1 : Heap) (locs1 : List Loc), post v I' J' → fl_I D dA ad N I' J' A s H0 H1 locs1 → W p l e R s m args below meth c H1 locs1 cells slots Q (F0 m (pc + 3) ls (v.toList ++ rest))) : W p l e R s m args below meth c H locs cells slots Q (F0 m pc ls (As.reverse ++ .ref (ad k) :: rest)) := by
  refine fl_runG (post := post) (va_runV (C := rc.1) (b := ad k) (n := n) (As := As) (rest := rest) X (hM l H.size) ⟨callB_of n X.2.2.2.2 (fl_goodIn (fl_ws_in wc) (fun _ h => h)) rfl rfl rfl (X.2.2.2.2 _ wn) (X.2.2.2.2 _ wm) hd hR, X.2.2.2.2 _ wi, X.2.2.2.2 _ wl⟩ ⟨fl_blind, va_recv (q0 := k) hI.1.1 hI.2.1 hc (by rw [fl_w_at hk, he]), fun U hU hW => ⟨rfl, by rw [hU], hI.1.warm hW, by rw [hU]; exact ⟨hI.2.1, hI.2.2.1.weaken (fun _ _ _ _ => trivial)⟩⟩⟩ rfl hn hl rfl (lv_room hst) hdg hcs) hI kk
end FLG
theorem va_AOA.moved {t : FieldType} {u U : State} (hvm : u.vm.Alike U.vm) (h : va_AOA t u) : va_AOA t U := over_moved (a := #[]) (a' := #[]) hvm h
theorem pl_new {l : List Nat} {f : Nat → va_E} {v : va_E} : va_pl l (vr_up f l v) = l.map (fun a => (a, v)) := by
  unfold va_pl
  exact List.map_congr_left (fun a ha => by rw [vr_up_in ha])
theorem K_eq {D : va_G} {dA : Nat → ClassId} {tys : List (ClassId × FieldType)} {s : State} {cA : ClassId} {ty : FieldType} {i : Nat} (hty : (fl_t dA)[i]? = some (dA i, ty)) (hno : ∀ C, ty ≠ .object C) (hK : va_K D fl_cl (fl_t dA) s) (h2 : va_K D fl_cl (tys ++ [(cA, ty)]) s) : cA = dA i := by
  have a := (hK.2 i _ hty).2
  have b := (h2.2 tys.length (cA, ty) (by rw [List.getElem?_append_right (Nat.le_refl _), Nat.sub_self]; rfl)).2
  cases ty with
  | object C => exact absurd rfl (hno C)
  | _ => exact Option.some.inj (b.symm.trans a)
abbrev latw4 (dA : Nat → ClassId) (h0 : Nat) (u : Nat → Nat) : va_W := [(h0, .inr (0, [.ref (u 0), .ref (u 5), .int 0, .int 0, .int 0])), (u 0, .inl (dA 3, 4, .inr (.inr (.inr (.inr (fun i => if i < 4 then some (u (1 + i)) else none)))))), (u 1, .inl (dA 1, 7, .inr (.inl (fun _ => 0)))), (u 2, .inl (dA 1, 7, .inr (.inl (fun _ => 0)))), (u 3, .inl (dA 1, 7, .inr (.inl (fun _ => 0)))), (u 4, .inl (dA 1, 7, .inr (.inl (fun _ => 0)))), (u 5, .inl (dA 0, 4, .inl (fun _ => 0)))]
set_option maxHeartbeats 200000 in
set_option maxRecDepth 100000 in
theorem c_X0_init4 (l : Launch) (D : va_G) (dA : Nat → ClassId) (h0 sz : Nat) : Met l yX0_init (fl_ws yX0_init cX0_init 3 none) ({ frames := 1, cells := 6, slots := 36, locals := 40 }) (va_Pc [.ref h0, .int (nI 4), .int (nI 7)] (fun U => U.heap.size = sz ∧ fl_K D dA U ∧ va_AOA .long U ∧ va_P D fl_cl [(h0, .inr (0, [.null, .null, .int 0, .int 0, .int 0]))] U.heap ∧ va_D (fun _ => True) [(h0, .inr (0, [.null, .null, .int 0, .int 0, .int 0]))])) (va_Qv (fun _ : Nat → Nat => True) (fun u t => va_P D fl_cl (latw4 dA h0 u) t.heap ∧ va_D (va_A [(h0, .inr (0, [.null, .null, .int 0, .int 0, .int 0]))] sz) (latw4 dA h0 u)) (va_A [(h0, .inr (0, [.null, .null, .int 0, .int 0, .int 0]))] sz)) 6 36 (va_A [(h0, .inr (0, [.null, .null, .int 0, .int 0, .int 0]))] sz) := by
  refine Met.ofW (cc := cX0_init) (maxL := 3) (ret := none) (by decide) rfl ?_
  intro p e s m args below meth c s₁ B hml hv
  obtain ⟨rfl, hsz, hfK, hAO, hP, hD0⟩ := hv
  have hK := hfK.1
  have hx := B.exec
  have hb := B.bytes
  have hr := B.returns
  have hts := atoms_spec (ws := fl_ws yX0_init cX0_init 3 none) B.pre
  have htf : ∀ w ∈ fl_tb, w.before #[.ref h0, .int (nI 4), .int (nI 7)] s = true := fun w hw => hts w (List.mem_cons_of_mem _ hw)
  have hown : s.vm.findClass RX0 = some m.cls := findClass_of_methodNamed B.named
  have hlocks := B.notSynchronized
  have hin : meth.name = "<init>" := (name_of_methodNamed B.named B.method).1
  subst hsz
  have hD := hD0.self (sz := s.heap.size)
  generalize hAe : va_A [(h0, .inr (0, [.null, .null, .int 0, .int 0, .int 0]))] s.heap.size = A at hD ⊢
  have hA : ∀ q : Nat, s.heap.size ≤ q → A q := fun q h => by rw [← hAe]; exact Or.inr h
  have hS : va_S A s.heap s.heap [] := va_S.rf
  have hP : va_P D fl_cl [(h0, .inr (0, [.null, .null, .int 0, .int 0, .int 0]))] s.heap := hP
  have hl := lv_entry ([.ref h0, .int (nI 4), .int (nI 7)]) (n := 3) (Nat.le_of_ble_eq_true rfl)
  rw [lg_entry_eq]
  generalize (lg_sl ([.ref h0, .int (nI 4), .int (nI 7)]) ++ List.replicate (3 - (lg_sl ([.ref h0, .int (nI 4), .int (nI 7)])).length) Slot.unset).toArray = ls at hl ⊢
  have hl : lv_has ls 3 [(0, .ref h0), (1, .int (nI 4)), (2, .int (nI 7))] := hl
  refine lv_aload_n hx hb dX0_init_0 rfl (lv_at hl 0 rfl) ?_
  refine W.objInit hx hb hown (htf (.methodLink RX0 3 objectInit) (by decide +kernel)) (htf (.instanceMethod objectInit) (by decide +kernel)) (htf _ (fl_mem (i := 13) rfl (by decide +kernel))) rfl (by rw [hml]; exact hl.1) rfl dX0_init_1 (Nat.le_of_ble_eq_true rfl) (Nat.le_of_ble_eq_true rfl) ?_
  refine W.eq (g2 := F0 m 4 ls []) rfl ?_
  refine lv_aload_n hx hb dX0_init_4 rfl (lv_at hl 0 rfl) ?_
  refine lv_iload_n hx hb dX0_init_5 rfl (lv_at hl 1 rfl) ?_
  refine lv_iload_n hx hb dX0_init_6 rfl (lv_at hl 2 rfl) ?_
  refine va_mna (D := D) (cl := fl_cl) (X := [(h0, .inr (0, [.null, .null, .int 0, .int 0, .int 0]))]) (L := []) (f := fun _ => .inr (0, [])) (ty := .long) (cy := dA 1) (own := RX0) (z := (7, .inr (.inl (fun _ => 0)))) (N' := 4) (K' := 7) hx hb hown (htf _ (by decide +kernel)) hAO (htf (.arrayClass .long) (by decide +kernel)) (hK.2 1 _ rfl).2 hK hP hD hS hA (by decide) (by decide) rfl rfl (by decide) (by decide) (by decide) rfl rfl (Nat.le_of_ble_eq_true rfl) (Nat.le_of_ble_eq_true rfl) (fun c9 => arrV_new c9 7 (.long 0)) dX0_init_7 (fun q7 r cA H hr1 hr2 hK2 hP hD hS => ?_)
  have eA : cA = dA 3 := K_eq (i := 3) rfl (fun C h => by cases h) hK hK2
  subst eA
  rw [List.nil_append, pl_new] at hP hD
  have hP : va_P D fl_cl [(h0, .inr (0, [.null, .null, .int 0, .int 0, .int 0])), (q7, .inl (dA 3, 4, .inr (.inr (.inr (.inr (fun i => if i < 4 then some (r i) else none)))))), (r 0, .inl (dA 1, 7, .inr (.inl (fun _ => 0)))), (r 1, .inl (dA 1, 7, .inr (.inl (fun _ => 0)))), (r 2, .inl (dA 1, 7, .inr (.inl (fun _ => 0)))), (r 3, .inl (dA 1, 7, .inr (.inl (fun _ => 0))))] H := hP
  have hD : va_D A [(h0, .inr (0, [.null, .null, .int 0, .int 0, .int 0])), (q7, .inl (dA 3, 4, .inr (.inr (.inr (.inr (fun i => if i < 4 then some (r i) else none)))))), (r 0, .inl (dA 1, 7, .inr (.inl (fun _ => 0)))), (r 1, .inl (dA 1, 7, .inr (.inl (fun _ => 0)))), (r 2, .inl (dA 1, 7, .inr (.inl (fun _ => 0)))), (r 3, .inl (dA 1, 7, .inr (.inl (fun _ => 0))))] := hD
  refine W.widen (k := 5) (n := 32) (by omega) (by omega) ?_
  refine va_putF (D := D) (ci := 0) (v := .ref q7) (ty := .array (.array .long)) (C := RX0) (T := TX0) (N := 5) hx hb htf fl_w0 tyX0 tyX0_ok nmX0 hown hK hP hD hS 0 rfl rfl 0 (by decide) (htf (.fieldLink RX0 11 RX0 "rows" "[[J") (by decide +kernel)) (fun _ h9 => h9) rfl hin rfl (by decide +kernel) rfl rfl (Nat.le_of_ble_eq_true rfl) dX0_init_11 (fun H locs hP hD hS => ?_)
  have hP : va_P D fl_cl [(h0, .inr (0, [.ref q7, .null, .int 0, .int 0, .int 0])), (q7, .inl (dA 3, 4, .inr (.inr (.inr (.inr (fun i => if i < 4 then some (r i) else none)))))), (r 0, .inl (dA 1, 7, .inr (.inl (fun _ => 0)))), (r 1, .inl (dA 1, 7, .inr (.inl (fun _ => 0)))), (r 2, .inl (dA 1, 7, .inr (.inl (fun _ => 0)))), (r 3, .inl (dA 1, 7, .inr (.inl (fun _ => 0))))] H := hP
  have hD : va_D A [(h0, .inr (0, [.ref q7, .null, .int 0, .int 0, .int 0])), (q7, .inl (dA 3, 4, .inr (.inr (.inr (.inr (fun i => if i < 4 then some (r i) else none)))))), (r 0, .inl (dA 1, 7, .inr (.inl (fun _ => 0)))), (r 1, .inl (dA 1, 7, .inr (.inl (fun _ => 0)))), (r 2, .inl (dA 1, 7, .inr (.inl (fun _ => 0)))), (r 3, .inl (dA 1, 7, .inr (.inl (fun _ => 0))))] := hD
  refine lv_aload_n hx hb dX0_init_14 rfl (lv_at hl 0 rfl) ?_
  refine lv_iload_n hx hb dX0_init_15 rfl (lv_at hl 1 rfl) ?_
  refine va_newa (atype := .int) (ty := .int) (a0 := (4, .inl (fun _ => 0))) (N' := 4) hx hb (htf (.arrayClass .int) (by decide +kernel)) rfl hK hP hD hS hA (fun _ => rfl) (by decide) rfl (by decide) (Nat.le_of_ble_eq_true rfl) (Nat.le_of_ble_eq_true rfl) dX0_init_16 (fun q16 cB H hK3 hP hD hS => ?_)
  have eB : cB = dA 0 := K_eq (i := 0) rfl (fun C h => by cases h) hK hK3
  subst eB
  have hP : va_P D fl_cl [(h0, .inr (0, [.ref q7, .null, .int 0, .int 0, .int 0])), (q7, .inl (dA 3, 4, .inr (.inr (.inr (.inr (fun i => if i < 4 then some (r i) else none)))))), (r 0, .inl (dA 1, 7, .inr (.inl (fun _ => 0)))), (r 1, .inl (dA 1, 7, .inr (.inl (fun _ => 0)))), (r 2, .inl (dA 1, 7, .inr (.inl (fun _ => 0)))), (r 3, .inl (dA 1, 7, .inr (.inl (fun _ => 0)))), (q16, .inl (dA 0, 4, .inl (fun _ => 0)))] H := hP
  have hD : va_D A [(h0, .inr (0, [.ref q7, .null, .int 0, .int 0, .int 0])), (q7, .inl (dA 3, 4, .inr (.inr (.inr (.inr (fun i => if i < 4 then some (r i) else none)))))), (r 0, .inl (dA 1, 7, .inr (.inl (fun _ => 0)))), (r 1, .inl (dA 1, 7, .inr (.inl (fun _ => 0)))), (r 2, .inl (dA 1, 7, .inr (.inl (fun _ => 0)))), (r 3, .inl (dA 1, 7, .inr (.inl (fun _ => 0)))), (q16, .inl (dA 0, 4, .inl (fun _ => 0)))] := hD
  refine va_putF (D := D) (ci := 0) (v := .ref q16) (ty := .array .int) (C := RX0) (T := TX0) (N := 5) hx hb htf fl_w0 tyX0 tyX0_ok nmX0 hown hK hP hD hS 0 rfl rfl 1 (by decide) (htf (.fieldLink RX0 16 RX0 "leads" "[I") (by decide +kernel)) (fun _ h9 => h9) rfl hin rfl (by decide +kernel) rfl rfl (Nat.le_of_ble_eq_true rfl) dX0_init_18 (fun H locs hP hD hS => ?_)
  have hP : va_P D fl_cl [(h0, .inr (0, [.ref q7, .ref q16, .int 0, .int 0, .int 0])), (q7, .inl (dA 3, 4, .inr (.inr (.inr (.inr (fun i => if i < 4 then some (r i) else none)))))), (r 0, .inl (dA 1, 7, .inr (.inl (fun _ => 0)))), (r 1, .inl (dA 1, 7, .inr (.inl (fun _ => 0)))), (r 2, .inl (dA 1, 7, .inr (.inl (fun _ => 0)))), (r 3, .inl (dA 1, 7, .inr (.inl (fun _ => 0)))), (q16, .inl (dA 0, 4, .inl (fun _ => 0)))] H := hP
  have hD : va_D A [(h0, .inr (0, [.ref q7, .ref q16, .int 0, .int 0, .int 0])), (q7, .inl (dA 3, 4, .inr (.inr (.inr (.inr (fun i => if i < 4 then some (r i) else none)))))), (r 0, .inl (dA 1, 7, .inr (.inl (fun _ => 0)))), (r 1, .inl (dA 1, 7, .inr (.inl (fun _ => 0)))), (r 2, .inl (dA 1, 7, .inr (.inl (fun _ => 0)))), (r 3, .inl (dA 1, 7, .inr (.inl (fun _ => 0)))), (q16, .inl (dA 0, 4, .inl (fun _ => 0)))] := hD
  obtain ⟨u, hu⟩ : ∃ u : Nat → Nat, u = fun k => if k = 0 then q7 else if k = 5 then q16 else r (k - 1) := ⟨_, rfl⟩
  have eo : (fun i => if i < 4 then some (r i) else none) = fun i => if i < 4 then some (u (1 + i)) else none := by
    funext i
    by_cases h : i < 4
    · rw [if_pos h, if_pos h, hu]
      show some (r i) = some (if 1 + i = 0 then q7 else if 1 + i = 5 then q16 else r (1 + i - 1))
      rw [if_neg (by omega), if_neg (by omega), show 1 + i - 1 = i from by omega]
    · rw [if_neg h, if_neg h]
  rw [eo] at hP hD
  have hP9 : va_P D fl_cl (latw4 dA h0 u) H := by subst hu; exact hP
  have hD9 : va_D A (latw4 dA h0 u) := by subst hu; exact hD
  refine W.widen (k := 6) (n := 36) (by omega) (by omega) ?_
  exact W.vret hx hb hr (fun t ht hW => ⟨⟨u, rfl, trivial, by rw [ht]; exact hP9, hD9⟩, hS.F ht⟩) hS.2.2 dX0_init_21
abbrev latw6 (dA : Nat → ClassId) (h0 : Nat) (u : Nat → Nat) : va_W := [(h0, .inr (0, [.ref (u 0), .ref (u 7), .int 0, .int 0, .int 0])), (u 0, .inl (dA 3, 6, .inr (.inr (.inr (.inr (fun i => if i < 6 then some (u (1 + i)) else none)))))), (u 1, .inl (dA 1, 3, .inr (.inl (fun _ => 0)))), (u 2, .inl (dA 1, 3, .inr (.inl (fun _ => 0)))), (u 3, .inl (dA 1, 3, .inr (.inl (fun _ => 0)))), (u 4, .inl (dA 1, 3, .inr (.inl (fun _ => 0)))), (u 5, .inl (dA 1, 3, .inr (.inl (fun _ => 0)))), (u 6, .inl (dA 1, 3, .inr (.inl (fun _ => 0)))), (u 7, .inl (dA 0, 6, .inl (fun _ => 0)))]
set_option maxHeartbeats 200000 in
set_option maxRecDepth 100000 in
theorem c_X0_init6 (l : Launch) (D : va_G) (dA : Nat → ClassId) (h0 sz : Nat) : Met l yX0_init (fl_ws yX0_init cX0_init 3 none) ({ frames := 1, cells := 8, slots := 30, locals := 40 }) (va_Pc [.ref h0, .int (nI 6), .int (nI 3)] (fun U => U.heap.size = sz ∧ fl_K D dA U ∧ va_AOA .long U ∧ va_P D fl_cl [(h0, .inr (0, [.null, .null, .int 0, .int 0, .int 0]))] U.heap ∧ va_D (fun _ => True) [(h0, .inr (0, [.null, .null, .int 0, .int 0, .int 0]))])) (va_Qv (fun _ : Nat → Nat => True) (fun u t => va_P D fl_cl (latw6 dA h0 u) t.heap ∧ va_D (va_A [(h0, .inr (0, [.null, .null, .int 0, .int 0, .int 0]))] sz) (latw6 dA h0 u)) (va_A [(h0, .inr (0, [.null, .null, .int 0, .int 0, .int 0]))] sz)) 8 30 (va_A [(h0, .inr (0, [.null, .null, .int 0, .int 0, .int 0]))] sz) := by
  refine Met.ofW (cc := cX0_init) (maxL := 3) (ret := none) (by decide) rfl ?_
  intro p e s m args below meth c s₁ B hml hv
  obtain ⟨rfl, hsz, hfK, hAO, hP, hD0⟩ := hv
  have hK := hfK.1
  have hx := B.exec
  have hb := B.bytes
  have hr := B.returns
  have hts := atoms_spec (ws := fl_ws yX0_init cX0_init 3 none) B.pre
  have htf : ∀ w ∈ fl_tb, w.before #[.ref h0, .int (nI 6), .int (nI 3)] s = true := fun w hw => hts w (List.mem_cons_of_mem _ hw)
  have hown : s.vm.findClass RX0 = some m.cls := findClass_of_methodNamed B.named
  have hlocks := B.notSynchronized
  have hin : meth.name = "<init>" := (name_of_methodNamed B.named B.method).1
  subst hsz
  have hD := hD0.self (sz := s.heap.size)
  generalize hAe : va_A [(h0, .inr (0, [.null, .null, .int 0, .int 0, .int 0]))] s.heap.size = A at hD ⊢
  have hA : ∀ q : Nat, s.heap.size ≤ q → A q := fun q h => by rw [← hAe]; exact Or.inr h
  have hS : va_S A s.heap s.heap [] := va_S.rf
  have hP : va_P D fl_cl [(h0, .inr (0, [.null, .null, .int 0, .int 0, .int 0]))] s.heap := hP
  have hl := lv_entry ([.ref h0, .int (nI 6), .int (nI 3)]) (n := 3) (Nat.le_of_ble_eq_true rfl)
  rw [lg_entry_eq]
  generalize (lg_sl ([.ref h0, .int (nI 6), .int (nI 3)]) ++ List.replicate (3 - (lg_sl ([.ref h0, .int (nI 6), .int (nI 3)])).length) Slot.unset).toArray = ls at hl ⊢
  have hl : lv_has ls 3 [(0, .ref h0), (1, .int (nI 6)), (2, .int (nI 3))] := hl
  refine lv_aload_n hx hb dX0_init_0 rfl (lv_at hl 0 rfl) ?_
  refine W.objInit hx hb hown (htf (.methodLink RX0 3 objectInit) (by decide +kernel)) (htf (.instanceMethod objectInit) (by decide +kernel)) (htf _ (fl_mem (i := 13) rfl (by decide +kernel))) rfl (by rw [hml]; exact hl.1) rfl dX0_init_1 (Nat.le_of_ble_eq_true rfl) (Nat.le_of_ble_eq_true rfl) ?_
  refine W.eq (g2 := F0 m 4 ls []) rfl ?_
  refine lv_aload_n hx hb dX0_init_4 rfl (lv_at hl 0 rfl) ?_
  refine lv_iload_n hx hb dX0_init_5 rfl (lv_at hl 1 rfl) ?_
  refine lv_iload_n hx hb dX0_init_6 rfl (lv_at hl 2 rfl) ?_
  refine va_mna (D := D) (cl := fl_cl) (X := [(h0, .inr (0, [.null, .null, .int 0, .int 0, .int 0]))]) (L := []) (f := fun _ => .inr (0, [])) (ty := .long) (cy := dA 1) (own := RX0) (z := (3, .inr (.inl (fun _ => 0)))) (N' := 6) (K' := 3) hx hb hown (htf _ (by decide +kernel)) hAO (htf (.arrayClass .long) (by decide +kernel)) (hK.2 1 _ rfl).2 hK hP hD hS hA (by decide) (by decide) rfl rfl (by decide) (by decide) (by decide) rfl rfl (Nat.le_of_ble_eq_true rfl) (Nat.le_of_ble_eq_true rfl) (fun c9 => arrV_new c9 3 (.long 0)) dX0_init_7 (fun q7 r cA H hr1 hr2 hK2 hP hD hS => ?_)
  have eA : cA = dA 3 := K_eq (i := 3) rfl (fun C h => by cases h) hK hK2
  subst eA
  rw [List.nil_append, pl_new] at hP hD
  have hP : va_P D fl_cl [(h0, .inr (0, [.null, .null, .int 0, .int 0, .int 0])), (q7, .inl (dA 3, 6, .inr (.inr (.inr (.inr (fun i => if i < 6 then some (r i) else none)))))), (r 0, .inl (dA 1, 3, .inr (.inl (fun _ => 0)))), (r 1, .inl (dA 1, 3, .inr (.inl (fun _ => 0)))), (r 2, .inl (dA 1, 3, .inr (.inl (fun _ => 0)))), (r 3, .inl (dA 1, 3, .inr (.inl (fun _ => 0)))), (r 4, .inl (dA 1, 3, .inr (.inl (fun _ => 0)))), (r 5, .inl (dA 1, 3, .inr (.inl (fun _ => 0))))] H := hP
  have hD : va_D A [(h0, .inr (0, [.null, .null, .int 0, .int 0, .int 0])), (q7, .inl (dA 3, 6, .inr (.inr (.inr (.inr (fun i => if i < 6 then some (r i) else none)))))), (r 0, .inl (dA 1, 3, .inr (.inl (fun _ => 0)))), (r 1, .inl (dA 1, 3, .inr (.inl (fun _ => 0)))), (r 2, .inl (dA 1, 3, .inr (.inl (fun _ => 0)))), (r 3, .inl (dA 1, 3, .inr (.inl (fun _ => 0)))), (r 4, .inl (dA 1, 3, .inr (.inl (fun _ => 0)))), (r 5, .inl (dA 1, 3, .inr (.inl (fun _ => 0))))] := hD
  refine W.widen (k := 7) (n := 24) (by omega) (by omega) ?_
  refine va_putF (D := D) (ci := 0) (v := .ref q7) (ty := .array (.array .long)) (C := RX0) (T := TX0) (N := 5) hx hb htf fl_w0 tyX0 tyX0_ok nmX0 hown hK hP hD hS 0 rfl rfl 0 (by decide) (htf (.fieldLink RX0 11 RX0 "rows" "[[J") (by decide +kernel)) (fun _ h9 => h9) rfl hin rfl (by decide +kernel) rfl rfl (Nat.le_of_ble_eq_true rfl) dX0_init_11 (fun H locs hP hD hS => ?_)
  have hP : va_P D fl_cl [(h0, .inr (0, [.ref q7, .null, .int 0, .int 0, .int 0])), (q7, .inl (dA 3, 6, .inr (.inr (.inr (.inr (fun i => if i < 6 then some (r i) else none)))))), (r 0, .inl (dA 1, 3, .inr (.inl (fun _ => 0)))), (r 1, .inl (dA 1, 3, .inr (.inl (fun _ => 0)))), (r 2, .inl (dA 1, 3, .inr (.inl (fun _ => 0)))), (r 3, .inl (dA 1, 3, .inr (.inl (fun _ => 0)))), (r 4, .inl (dA 1, 3, .inr (.inl (fun _ => 0)))), (r 5, .inl (dA 1, 3, .inr (.inl (fun _ => 0))))] H := hP
  have hD : va_D A [(h0, .inr (0, [.ref q7, .null, .int 0, .int 0, .int 0])), (q7, .inl (dA 3, 6, .inr (.inr (.inr (.inr (fun i => if i < 6 then some (r i) else none)))))), (r 0, .inl (dA 1, 3, .inr (.inl (fun _ => 0)))), (r 1, .inl (dA 1, 3, .inr (.inl (fun _ => 0)))), (r 2, .inl (dA 1, 3, .inr (.inl (fun _ => 0)))), (r 3, .inl (dA 1, 3, .inr (.inl (fun _ => 0)))), (r 4, .inl (dA 1, 3, .inr (.inl (fun _ => 0)))), (r 5, .inl (dA 1, 3, .inr (.inl (fun _ => 0))))] := hD
  refine lv_aload_n hx hb dX0_init_14 rfl (lv_at hl 0 rfl) ?_
  refine lv_iload_n hx hb dX0_init_15 rfl (lv_at hl 1 rfl) ?_
  refine va_newa (atype := .int) (ty := .int) (a0 := (6, .inl (fun _ => 0))) (N' := 6) hx hb (htf (.arrayClass .int) (by decide +kernel)) rfl hK hP hD hS hA (fun _ => rfl) (by decide) rfl (by decide) (Nat.le_of_ble_eq_true rfl) (Nat.le_of_ble_eq_true rfl) dX0_init_16 (fun q16 cB H hK3 hP hD hS => ?_)
  have eB : cB = dA 0 := K_eq (i := 0) rfl (fun C h => by cases h) hK hK3
  subst eB
  have hP : va_P D fl_cl [(h0, .inr (0, [.ref q7, .null, .int 0, .int 0, .int 0])), (q7, .inl (dA 3, 6, .inr (.inr (.inr (.inr (fun i => if i < 6 then some (r i) else none)))))), (r 0, .inl (dA 1, 3, .inr (.inl (fun _ => 0)))), (r 1, .inl (dA 1, 3, .inr (.inl (fun _ => 0)))), (r 2, .inl (dA 1, 3, .inr (.inl (fun _ => 0)))), (r 3, .inl (dA 1, 3, .inr (.inl (fun _ => 0)))), (r 4, .inl (dA 1, 3, .inr (.inl (fun _ => 0)))), (r 5, .inl (dA 1, 3, .inr (.inl (fun _ => 0)))), (q16, .inl (dA 0, 6, .inl (fun _ => 0)))] H := hP
  have hD : va_D A [(h0, .inr (0, [.ref q7, .null, .int 0, .int 0, .int 0])), (q7, .inl (dA 3, 6, .inr (.inr (.inr (.inr (fun i => if i < 6 then some (r i) else none)))))), (r 0, .inl (dA 1, 3, .inr (.inl (fun _ => 0)))), (r 1, .inl (dA 1, 3, .inr (.inl (fun _ => 0)))), (r 2, .inl (dA 1, 3, .inr (.inl (fun _ => 0)))), (r 3, .inl (dA 1, 3, .inr (.inl (fun _ => 0)))), (r 4, .inl (dA 1, 3, .inr (.inl (fun _ => 0)))), (r 5, .inl (dA 1, 3, .inr (.inl (fun _ => 0)))), (q16, .inl (dA 0, 6, .inl (fun _ => 0)))] := hD
  refine va_putF (D := D) (ci := 0) (v := .ref q16) (ty := .array .int) (C := RX0) (T := TX0) (N := 5) hx hb htf fl_w0 tyX0 tyX0_ok nmX0 hown hK hP hD hS 0 rfl rfl 1 (by decide) (htf (.fieldLink RX0 16 RX0 "leads" "[I") (by decide +kernel)) (fun _ h9 => h9) rfl hin rfl (by decide +kernel) rfl rfl (Nat.le_of_ble_eq_true rfl) dX0_init_18 (fun H locs hP hD hS => ?_)
  have hP : va_P D fl_cl [(h0, .inr (0, [.ref q7, .ref q16, .int 0, .int 0, .int 0])), (q7, .inl (dA 3, 6, .inr (.inr (.inr (.inr (fun i => if i < 6 then some (r i) else none)))))), (r 0, .inl (dA 1, 3, .inr (.inl (fun _ => 0)))), (r 1, .inl (dA 1, 3, .inr (.inl (fun _ => 0)))), (r 2, .inl (dA 1, 3, .inr (.inl (fun _ => 0)))), (r 3, .inl (dA 1, 3, .inr (.inl (fun _ => 0)))), (r 4, .inl (dA 1, 3, .inr (.inl (fun _ => 0)))), (r 5, .inl (dA 1, 3, .inr (.inl (fun _ => 0)))), (q16, .inl (dA 0, 6, .inl (fun _ => 0)))] H := hP
  have hD : va_D A [(h0, .inr (0, [.ref q7, .ref q16, .int 0, .int 0, .int 0])), (q7, .inl (dA 3, 6, .inr (.inr (.inr (.inr (fun i => if i < 6 then some (r i) else none)))))), (r 0, .inl (dA 1, 3, .inr (.inl (fun _ => 0)))), (r 1, .inl (dA 1, 3, .inr (.inl (fun _ => 0)))), (r 2, .inl (dA 1, 3, .inr (.inl (fun _ => 0)))), (r 3, .inl (dA 1, 3, .inr (.inl (fun _ => 0)))), (r 4, .inl (dA 1, 3, .inr (.inl (fun _ => 0)))), (r 5, .inl (dA 1, 3, .inr (.inl (fun _ => 0)))), (q16, .inl (dA 0, 6, .inl (fun _ => 0)))] := hD
  obtain ⟨u, hu⟩ : ∃ u : Nat → Nat, u = fun k => if k = 0 then q7 else if k = 7 then q16 else r (k - 1) := ⟨_, rfl⟩
  have eo : (fun i => if i < 6 then some (r i) else none) = fun i => if i < 6 then some (u (1 + i)) else none := by
    funext i
    by_cases h : i < 6
    · rw [if_pos h, if_pos h, hu]
      show some (r i) = some (if 1 + i = 0 then q7 else if 1 + i = 7 then q16 else r (1 + i - 1))
      rw [if_neg (by omega), if_neg (by omega), show 1 + i - 1 = i from by omega]
    · rw [if_neg h, if_neg h]
  rw [eo] at hP hD
  have hP9 : va_P D fl_cl (latw6 dA h0 u) H := by subst hu; exact hP
  have hD9 : va_D A (latw6 dA h0 u) := by subst hu; exact hD
  refine W.widen (k := 8) (n := 30) (by omega) (by omega) ?_
  exact W.vret hx hb hr (fun t ht hW => ⟨⟨u, rfl, trivial, by rw [ht]; exact hP9, hD9⟩, hS.F ht⟩) hS.2.2 dX0_init_21
