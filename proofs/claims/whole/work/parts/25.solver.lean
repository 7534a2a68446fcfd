/-! the solver: rows, solution, form -/
theorem m_X1_isFactor (D : va_G) (dA : Nat → ClassId) (ad : Nat → Nat) (N : Nat) (I : fl_TI) (J : fl_TJ) (hN : 30 ≤ N) {n j : Nat} (x : Int32) (hn : I 0 2 = nI n) (hn4 : n ≤ 4) (hj : j ≤ 4) : FM yX1_isFactor cX1_isFactor 3 (some .boolean) 0 D dA ad N [.ref (ad 0), .int (nI j), .int x] I J (fun v I' J' => v = some (.int (if n ≤ j ∨ (¬ x < -9 ∧ ¬ nI 9 < x) then nI 1 else nI 0)) ∧ I' = I ∧ J' = J) := by
  refine FM.ofW RX1 rfl (by decide +kernel) (Nat.le_of_ble_eq_true rfl) ?_
  intro p l e s m args below meth c ls X hr hlk hI hl
  have hx := X.1
  have hb := X.2.1
  have hl : lv_has ls 3 [(0, .ref (ad 0)), (1, .int (nI j)), (2, .int x)] := hl
  refine lv_iload_n hx hb dX1_isFactor_0 rfl (lv_at hl 1 rfl) ?_
  refine lv_aload_n hx hb dX1_isFactor_1 rfl (lv_at hl 0 rfl) ?_
  refine fl_get1 X hI dX1_isFactor_2 (by omega) 2 (by decide) wf_X1_42 rfl ?_
  refine W.eq (g2 := F0 m 5 ls [.int (nI n), .int (nI j)]) (by rw [hn]) ?_
  refine fn_icmp_ge X (tgt := 20) dX1_isFactor_5 (by decide) (by omega) (by omega) (fun c1 => ?_) (fun c1 => ?_)
  · refine lv_iconst (v := nI 1) hx hb dX1_isFactor_20 (by decide) ?_
    refine lv_goto (tgt := 25) hx hb dX1_isFactor_21 (by decide) ?_
    exact fl_zret X hr hlk hI dX1_isFactor_25 (by decide) ⟨by simp [*]; try omega, rfl, rfl⟩
  · refine lv_iload_n hx hb dX1_isFactor_8 rfl (lv_at hl 2 rfl) ?_
    refine lv_bipush (v := (-9)) hx hb dX1_isFactor_9 (by decide) ?_
    refine lv_icmp_lt (tgt := 24) hx hb dX1_isFactor_11 (by decide) (fun c2 => ?_) (fun c2 => ?_)
    · refine lv_iconst (v := nI 0) hx hb dX1_isFactor_24 (by decide) ?_
      exact fl_zret X hr hlk hI dX1_isFactor_25 (by decide) ⟨by simp [*]; try omega, rfl, rfl⟩
    · refine lv_iload_n hx hb dX1_isFactor_14 rfl (lv_at hl 2 rfl) ?_
      refine lv_bipush (v := nI 9) hx hb dX1_isFactor_15 (by decide) ?_
      refine lv_icmp_gt (tgt := 24) hx hb dX1_isFactor_17 (by decide) (fun c3 => ?_) (fun c3 => ?_)
      · refine lv_iconst (v := nI 0) hx hb dX1_isFactor_24 (by decide) ?_
        exact fl_zret X hr hlk hI dX1_isFactor_25 (by decide) ⟨by simp [*]; try omega, rfl, rfl⟩
      · refine lv_iconst (v := nI 1) hx hb dX1_isFactor_20 (by decide) ?_
        refine lv_goto (tgt := 25) hx hb dX1_isFactor_21 (by decide) ?_
        exact fl_zret X hr hlk hI dX1_isFactor_25 (by decide) ⟨by simp [*]; try omega, rfl, rfl⟩
theorem m_X1_basisRows (D : va_G) (dA : Nat → ClassId) (ad : Nat → Nat) (N : Nat) (I : fl_TI) (J : fl_TJ) (hN : 30 ≤ N) {n rr : Nat} (hn : I 0 2 = nI n) (hrr : I 0 6 = nI rr) (hrn : rr ≤ n) : FM yX1_basisRows cX1_basisRows 1 (some .int) 0 D dA ad N [.ref (ad 0)] I J (fun v I' J' => v = some (.int (nI (n - rr))) ∧ I' = I ∧ J' = J) := by
  refine FM.ofW RX1 rfl (by decide +kernel) (Nat.le_of_ble_eq_true rfl) ?_
  intro p l e s m args below meth c ls X hr hlk hI hl
  have hx := X.1
  have hb := X.2.1
  have hl : lv_has ls 1 [(0, .ref (ad 0))] := hl
  refine lv_aload_n hx hb dX1_basisRows_0 rfl (lv_at hl 0 rfl) ?_
  refine fl_get1 X hI dX1_basisRows_1 (by omega) 2 (by decide) wf_X1_42 rfl ?_
  refine W.eq (g2 := F0 m 4 ls [.int (nI n)]) (by rw [hn]) ?_
  refine lv_aload_n hx hb dX1_basisRows_4 rfl (lv_at hl 0 rfl) ?_
  refine fl_get1 X hI dX1_basisRows_5 (by omega) 6 (by decide) wf_X1_76 rfl ?_
  refine W.eq (g2 := F0 m 8 ls [.int (nI rr), .int (nI n)]) (by rw [hrr]) ?_
  refine fn_isub X dX1_basisRows_8 (by omega) ?_
  exact fl_iret X hr hlk hI dX1_basisRows_9 ⟨rfl, rfl, rfl⟩
theorem m_X1_basisNumber (D : va_G) (dA : Nat → ClassId) (ad : Nat → Nat) (N : Nat) (I : fl_TI) (J : fl_TJ) (hN : 30 ≤ N) {eq rr i j : Nat} (he : I 0 3 = nI eq) (hrr : I 0 6 = nI rr) (hi : rr + i < 4) (hj : eq + j < 7) : FM yX1_basisNumber cX1_basisNumber 3 (some .long) 1 D dA ad N [.ref (ad 0), .int (nI i), .int (nI j)] I J (fun v I' J' => v = some (.long (J (6 + 2 + (rr + i)) (eq + j))) ∧ I' = I ∧ J' = J) := by
  refine FM.ofW RX1 rfl (by decide +kernel) (Nat.le_of_ble_eq_true rfl) ?_
  intro p l e s m args below meth c ls X hr hlk hI hl
  have hx := X.1
  have hb := X.2.1
  have hl : lv_has ls 3 [(0, .ref (ad 0)), (1, .int (nI i)), (2, .int (nI j))] := hl
  refine lv_aload_n hx hb dX1_basisNumber_0 rfl (lv_at hl 0 rfl) ?_
  refine fl_get1 X hI dX1_basisNumber_1 (by omega) 4 (by decide) wf_X1_23 rfl ?_
  refine lv_aload_n hx hb dX1_basisNumber_4 rfl (lv_at hl 0 rfl) ?_
  refine fl_get1 X hI dX1_basisNumber_5 (by omega) 6 (by decide) wf_X1_76 rfl ?_
  refine W.eq (g2 := F0 m 8 ls [.int (nI rr), .ref (ad 6)]) (by rw [hrr]) ?_
  refine lv_iload_n hx hb dX1_basisNumber_8 rfl (lv_at hl 1 rfl) ?_
  refine fn_iadd X dX1_basisNumber_9 ?_
  refine lv_aload_n hx hb dX1_basisNumber_10 rfl (lv_at hl 0 rfl) ?_
  refine fl_get1 X hI dX1_basisNumber_11 (by omega) 3 (by decide) wf_X1_46 rfl ?_
  refine W.eq (g2 := F0 m 14 ls [.int (nI eq), .int (nI (rr + i)), .ref (ad 6)]) (by rw [he]) ?_
  refine lv_iload_n hx hb dX1_basisNumber_14 rfl (lv_at hl 2 rfl) ?_
  refine fn_iadd X dX1_basisNumber_15 ?_
  refine fl_callV (k := 6) (As := [.int (nI (rr + i)), .int (nI (eq + j))]) (rest := []) X hI dX1_basisNumber_16 (m_X0_at D dA ad N I J hN lat6 (by omega) (by omega)) (by omega) (fl_c_4 rfl) rfl rfl wc_yX0_at wm_X1_79 wi_yX0_at wl_yX0_at wn_X0 hd_yX0_at rfl ⟨by first | decide | omega, by first | decide | omega⟩ hl.1 (Nat.le_of_ble_eq_true rfl) (fun v I2 J2 H locs hp hI => ?_)
  obtain ⟨hv, hI2, hJ2⟩ := hp
  subst hv
  rw [hI2, hJ2] at hI
  refine W.eq (g2 := F0 m 19 ls [.long (J (6 + 2 + (rr + i)) (eq + j))]) rfl ?_
  exact fl_lret X hr hlk hI dX1_basisNumber_19 ⟨rfl, rfl, rfl⟩
theorem m_X1_leadUnknown (D : va_G) (dA : Nat → ClassId) (ad : Nat → Nat) (N : Nat) (I : fl_TI) (J : fl_TJ) (hN : 30 ≤ N) {n eq rr i : Nat} (hn : I 0 2 = nI n) (he : I 0 3 = nI eq) (hrr : I 0 6 = nI rr) (hrn : rr ≤ n) (hn4 : n ≤ 4) (hi4 : i ≤ 5) (hld : rr + i < n → I 12 (rr + i) = nI (ldI I 12 (rr + i)) ∧ eq ≤ ldI I 12 (rr + i)) : FM yX1_leadUnknown cX1_leadUnknown 2 (some .int) 1 D dA ad N [.ref (ad 0), .int (nI i)] I J (fun v I' J' => v = some (.int (nI (if rr + i < n then ldI I 12 (rr + i) - eq else n))) ∧ I' = I ∧ J' = J) := by
  refine FM.ofW RX1 rfl (by decide +kernel) (Nat.le_of_ble_eq_true rfl) ?_
  intro p l e s m args below meth c ls X hr hlk hI hl
  have hx := X.1
  have hb := X.2.1
  have hl : lv_has ls 2 [(0, .ref (ad 0)), (1, .int (nI i))] := hl
  refine lv_iload_n hx hb dX1_leadUnknown_0 rfl (lv_at hl 1 rfl) ?_
  refine lv_aload_n hx hb dX1_leadUnknown_1 rfl (lv_at hl 0 rfl) ?_
  refine fl_callV (k := 0) (As := []) (rest := [.int (nI i)]) X hI dX1_leadUnknown_2 (m_X1_basisRows D dA ad N I J hN hn hrr hrn) (by omega) fl_c_5 rfl rfl wc_yX1_basisRows wm_X1_66 wi_yX1_basisRows wl_yX1_basisRows wn_X1 hd_yX1_basisRows rfl ⟨by first | decide | omega, by first | decide | omega⟩ hl.1 (Nat.le_of_ble_eq_true rfl) (fun v I2 J2 H locs hp hI => ?_)
  obtain ⟨hv, hI2, hJ2⟩ := hp
  subst hv
  rw [hI2, hJ2] at hI
  refine W.eq (g2 := F0 m 5 ls [.int (nI (n - rr)), .int (nI i)]) rfl ?_
  refine fn_icmp_ge X (tgt := 29) dX1_leadUnknown_5 (by decide) (by omega) (by omega) (fun c1 => ?_) (fun c1 => ?_)
  · refine lv_aload_n hx hb dX1_leadUnknown_29 rfl (lv_at hl 0 rfl) ?_
    refine fl_get1 X hI dX1_leadUnknown_30 (by omega) 2 (by decide) wf_X1_42 rfl ?_
    refine W.eq (g2 := F0 m 33 ls [.int (nI n)]) (by rw [hn]) ?_
    exact fl_iret X hr hlk hI dX1_leadUnknown_33 ⟨by first | rw [if_pos (by omega)] | rw [if_neg (by omega)], rfl, rfl⟩
  · refine lv_aload_n hx hb dX1_leadUnknown_8 rfl (lv_at hl 0 rfl) ?_
    refine fl_get1 X hI dX1_leadUnknown_9 (by omega) 4 (by decide) wf_X1_23 rfl ?_
    refine lv_aload_n hx hb dX1_leadUnknown_12 rfl (lv_at hl 0 rfl) ?_
    refine fl_get1 X hI dX1_leadUnknown_13 (by omega) 6 (by decide) wf_X1_76 rfl ?_
    refine W.eq (g2 := F0 m 16 ls [.int (nI rr), .ref (ad 6)]) (by rw [hrr]) ?_
    refine lv_iload_n hx hb dX1_leadUnknown_16 rfl (lv_at hl 1 rfl) ?_
    refine fn_iadd X dX1_leadUnknown_17 ?_
    refine fl_callV (k := 6) (As := [.int (nI (rr + i))]) (rest := []) X hI dX1_leadUnknown_18 (m_X0_leadColumn D dA ad N I J hN lat6 (by omega)) (by omega) (fl_c_4 rfl) rfl rfl wc_yX0_leadColumn wm_X1_124 wi_yX0_leadColumn wl_yX0_leadColumn wn_X0 hd_yX0_leadColumn rfl ⟨by first | decide | omega, by first | decide | omega⟩ hl.1 (Nat.le_of_ble_eq_true rfl) (fun v I2 J2 H locs hp hI => ?_)
    obtain ⟨hv, hI2, hJ2⟩ := hp
    subst hv
    rw [hI2, hJ2] at hI
    refine W.eq (g2 := F0 m 21 ls [.int (I (6 + 2 + 4) (rr + i))]) rfl ?_
    refine W.eq (g2 := F0 m 21 ls [.int (nI (ldI I 12 (rr + i)))]) (by rw [show I (6 + 2 + 4) (rr + i) = nI (ldI I 12 (rr + i)) from (hld (by omega)).1]) ?_
    refine lv_aload_n hx hb dX1_leadUnknown_21 rfl (lv_at hl 0 rfl) ?_
    refine fl_get1 X hI dX1_leadUnknown_22 (by omega) 3 (by decide) wf_X1_46 rfl ?_
    refine W.eq (g2 := F0 m 25 ls [.int (nI eq), .int (nI (ldI I 12 (rr + i)))]) (by rw [he]) ?_
    have h9 := (hld (by omega)).2
    refine fn_isub X dX1_leadUnknown_25 (by omega) ?_
    refine lv_goto (tgt := 33) hx hb dX1_leadUnknown_26 (by decide) ?_
    exact fl_iret X hr hlk hI dX1_leadUnknown_33 ⟨by first | rw [if_pos (by omega)] | rw [if_neg (by omega)], rfl, rfl⟩
def x_first (q : Nat) (J : fl_TJ) : Nat → Nat → Int32
  | 0, _ => -1
  | k + 1, i => if J q i = 0 then x_first q J k (i + 1) else nI i
theorem lp_first {p : Program} {l : Launch} {e : Env} {R : Room} {s : State} {m : MethodId} {args : Array Value} {below : List Frame} {meth : Method} {c : Code} {D : va_G} {dA : Nat → ClassId} {ad : Nat → Nat} {N : Nat} {A : Nat → Prop} {I : fl_TI} {J : fl_TJ} {post : Option Value → fl_TI → fl_TJ → Prop} (X : CallFix p m c cX1_firstNotZero 3 s args fl_tb RX1) (hr : meth.sig.returnType = some .int) (hlk : meth.locks = false) (hN : 30 ≤ N) {q eq : Nat} (hq : q < N) (hq1 : fl_k q = 1) (he : I 0 3 = nI eq) (he3 : eq ≤ 3) (heq : eq ≤ fl_n q) :
    ∀ (k i : Nat) (H : Heap) (locs : List Loc) (ls : Array Slot), i + k = eq → fl_I D dA ad N I J A s s.heap H locs → lv_has ls 3 [(2, .int (nI i)), (0, .ref (ad 0)), (1, .ref (ad q))] → post (some (.int (x_first q J k i))) I J → W p l e R s m args below meth c H locs 0 0 (MQ below (fl_Q D dA ad N post A) args s 0 0 A) (F0 m 2 ls []) := by
  have hx := X.1
  have hb := X.2.1
  intro k
  induction k with
  | zero =>
    intro i H locs ls hk hI hl hF
    have hk : eq = i := by omega
    subst hk
    refine lv_iload_n hx hb dX1_firstNotZero_2 rfl (lv_at hl 0 rfl) ?_
    refine lv_aload_n hx hb dX1_firstNotZero_3 rfl (lv_at hl 1 rfl) ?_
    refine fl_get1 X hI dX1_firstNotZero_4 (by omega) 3 (by decide) wf_X1_46 rfl ?_
    refine W.eq (g2 := F0 m 7 ls [.int (nI eq), .int (nI eq)]) (by rw [he]) ?_
    refine fn_icmp_ge X (tgt := 26) dX1_firstNotZero_7 (by decide) (by omega) (by omega) (fun c1 => ?_) (fun c1 => absurd c1 (by omega))
    refine lv_iconst (v := (-1)) hx hb dX1_firstNotZero_26 (by decide) ?_
    exact fl_iret X hr hlk hI dX1_firstNotZero_27 hF
  | succ k ih =>
    intro i H locs ls hk hI hl hF
    refine lv_iload_n hx hb dX1_firstNotZero_2 rfl (lv_at hl 0 rfl) ?_
    refine lv_aload_n hx hb dX1_firstNotZero_3 rfl (lv_at hl 1 rfl) ?_
    refine fl_get1 X hI dX1_firstNotZero_4 (by omega) 3 (by decide) wf_X1_46 rfl ?_
    refine W.eq (g2 := F0 m 7 ls [.int (nI eq), .int (nI i)]) (by rw [he]) ?_
    refine fn_icmp_ge X (tgt := 26) dX1_firstNotZero_7 (by decide) (by omega) (by omega) (fun c1 => absurd c1 (by omega)) (fun c1 => ?_)
    refine lv_aload_n hx hb dX1_firstNotZero_10 rfl (lv_at hl 2 rfl) ?_
    refine lv_iload_n hx hb dX1_firstNotZero_11 rfl (lv_at hl 0 rfl) ?_
    refine fn_lald (k := q) X hI dX1_firstNotZero_12 hq hq1 (by omega) ?_
    refine lv_lconst (v := 0) hx hb dX1_firstNotZero_13 rfl ?_
    refine fl_lc_eq (tgt := 20) hx hb dX1_firstNotZero_14 dX1_firstNotZero_15 (by decide) (fun c2 => ?_) (fun c2 => ?_)
    · refine fn_iinc (a := i) (lv' := [(2, .int (nI (i + 1))), (0, .ref (ad 0)), (1, .ref (ad q))]) X dX1_firstNotZero_20 hl (k := 0) rfl (by decide) rfl (fun ls hl => ?_)
      refine lv_goto (tgt := 2) hx hb dX1_firstNotZero_23 (by decide) ?_
      exact ih (i + 1) _ _ _ (by omega) hI (lv_sub hl [0, 1, 2] rfl) (by have h9 := hF; simp only [x_first] at h9; rw [if_pos c2] at h9; exact h9)
    · refine lv_iload_n hx hb dX1_firstNotZero_18 rfl (lv_at hl 0 rfl) ?_
      exact fl_iret X hr hlk hI dX1_firstNotZero_19 (by have h9 := hF; simp only [x_first] at h9; rw [if_neg c2] at h9; exact h9)
theorem m_X1_firstNotZero (D : va_G) (dA : Nat → ClassId) (ad : Nat → Nat) (N : Nat) (I : fl_TI) (J : fl_TJ) (hN : 30 ≤ N) {q eq : Nat} (hq : q < N) (hq1 : fl_k q = 1) (he : I 0 3 = nI eq) (he3 : eq ≤ 3) (heq : eq ≤ fl_n q) : FM yX1_firstNotZero cX1_firstNotZero 3 (some .int) 0 D dA ad N [.ref (ad 0), .ref (ad q)] I J (fun v I' J' => v = some (.int (x_first q J eq 0)) ∧ I' = I ∧ J' = J) := by
  refine FM.ofW RX1 rfl (by decide +kernel) (Nat.le_of_ble_eq_true rfl) ?_
  intro p l e s m args below meth c ls X hr hlk hI hl
  have hx := X.1
  have hb := X.2.1
  have hl : lv_has ls 3 [(0, .ref (ad 0)), (1, .ref (ad q))] := hl
  refine lv_iconst (v := nI 0) hx hb dX1_firstNotZero_0 (by decide) ?_
  refine lv_istore_n (lv' := [(2, .int (nI 0)), (0, .ref (ad 0)), (1, .ref (ad q))]) hx hb dX1_firstNotZero_1 rfl hl (by decide) rfl (fun ls hl => ?_)
  exact lp_first X hr hlk hN hq hq1 he he3 heq eq 0 _ _ _ (Nat.zero_add _) hI hl ⟨rfl, rfl, rfl⟩
def j_negs (eq : Nat) (I : fl_TI) (J : fl_TJ) : fl_TJ := fl_it (fun i J => fl_up J 22 i ((-(I 5 i)).toInt64)) eq 0 J
def j_settle (eq n rk : Nat) (I : fl_TI) (J : fl_TJ) : fl_TJ := j_reduce 6 22 (eq + n) rk (ldI I 12) (j_negs eq I (j_fill 22 J))
def i_settle (eq n rk : Nat) (I : fl_TI) (J : fl_TJ) : fl_TI := fl_up I 0 8 (x_first 22 (j_settle eq n rk I J) eq 0)
theorem lp_negs {p : Program} {l : Launch} {e : Env} {R : Room} {s : State} {m : MethodId} {args : Array Value} {below : List Frame} {meth : Method} {c : Code} {Q : State → Prop} {D : va_G} {dA : Nat → ClassId} {ad : Nat → Nat} {N : Nat} {A : Nat → Prop} {H0 : Heap} {I : fl_TI} {J9 : fl_TJ} (X : CallFix p m c cX1_settleSolution 2 s args fl_tb RX1) {eq : Nat} (hN : 30 ≤ N) (he : I 0 3 = nI eq) (he3 : eq ≤ 3)
    (kx : ∀ (H : Heap) (locs : List Loc) (ls : Array Slot), fl_I D dA ad N I J9 A s H0 H locs → lv_has ls 2 [(1, .int (nI eq)), (0, .ref (ad 0))] → W p l e R s m args below meth c H locs 0 0 Q (F0 m 37 ls [])) :
    ∀ (k i : Nat) (J : fl_TJ) (H : Heap) (locs : List Loc) (ls : Array Slot), i + k = eq → fl_I D dA ad N I J A s H0 H locs → lv_has ls 2 [(1, .int (nI i)), (0, .ref (ad 0))] → fl_it (fun i J => fl_up J 22 i ((-(I 5 i)).toInt64)) k i J = J9 → W p l e R s m args below meth c H locs 0 0 Q (F0 m 9 ls []) := by
  have hx := X.1
  have hb := X.2.1
  intro k
  induction k with
  | zero =>
    intro i J H locs ls hk hI hl hF
    have hF : J = J9 := hF
    subst hF
    have hk : eq = i := by omega
    subst hk
    refine lv_iload_n hx hb dX1_settleSolution_9 rfl (lv_at hl 0 rfl) ?_
    refine lv_aload_n hx hb dX1_settleSolution_10 rfl (lv_at hl 1 rfl) ?_
    refine fl_get1 X hI dX1_settleSolution_11 (by omega) 3 (by decide) wf_X1_46 rfl ?_
    refine W.eq (g2 := F0 m 14 ls [.int (nI eq), .int (nI eq)]) (by rw [he]) ?_
    refine fn_icmp_ge X (tgt := 37) dX1_settleSolution_14 (by decide) (by omega) (by omega) (fun c1 => ?_) (fun c1 => absurd c1 (by omega))
    exact kx _ _ _ hI (lv_sub hl [0, 1] rfl)
  | succ k ih =>
    intro i J H locs ls hk hI hl hF
    refine lv_iload_n hx hb dX1_settleSolution_9 rfl (lv_at hl 0 rfl) ?_
    refine lv_aload_n hx hb dX1_settleSolution_10 rfl (lv_at hl 1 rfl) ?_
    refine fl_get1 X hI dX1_settleSolution_11 (by omega) 3 (by decide) wf_X1_46 rfl ?_
    refine W.eq (g2 := F0 m 14 ls [.int (nI eq), .int (nI i)]) (by rw [he]) ?_
    refine fn_icmp_ge X (tgt := 37) dX1_settleSolution_14 (by decide) (by omega) (by omega) (fun c1 => absurd c1 (by omega)) (fun c1 => ?_)
    refine lv_aload_n hx hb dX1_settleSolution_17 rfl (lv_at hl 1 rfl) ?_
    refine fl_get1 X hI dX1_settleSolution_18 (by omega) 7 (by decide) wf_X1_30 rfl ?_
    refine lv_iload_n hx hb dX1_settleSolution_21 rfl (lv_at hl 0 rfl) ?_
    refine lv_aload_n hx hb dX1_settleSolution_22 rfl (lv_at hl 1 rfl) ?_
    refine fl_get1 X hI dX1_settleSolution_23 (by omega) 1 (by decide) wf_X1_14 rfl ?_
    refine lv_iload_n hx hb dX1_settleSolution_26 rfl (lv_at hl 0 rfl) ?_
    refine fn_iald (k := 5) X hI dX1_settleSolution_27 (by omega) rfl (show i < 3 by omega) ?_
    refine lv_ineg hx hb dX1_settleSolution_28 ?_
    refine lv_i2l hx hb dX1_settleSolution_29 rfl ?_
    refine fn_last (k := 22) X hI dX1_settleSolution_30 (by omega) rfl (show i < 7 by omega) (fun H locs hI => ?_)
    refine fn_iinc (a := i) (lv' := [(1, .int (nI (i + 1))), (0, .ref (ad 0))]) X dX1_settleSolution_31 hl (k := 0) rfl (by decide) rfl (fun ls hl => ?_)
    refine lv_goto (tgt := 9) hx hb dX1_settleSolution_34 (by decide) ?_
    exact ih (i + 1) _ _ _ _ (by omega) hI (lv_sub hl [0, 1] rfl) hF
theorem m_X1_settle (D : va_G) (dA : Nat → ClassId) (ad : Nat → Nat) (N : Nat) (I : fl_TI) (J : fl_TJ) (hN : 30 ≤ N) {n eq rk : Nat} (he : I 0 3 = nI eq) (he3 : eq ≤ 3) (hn4 : n ≤ 4) (hw : I 6 3 = nI (eq + n)) (hrk : I 6 4 = nI rk) (hrk4 : rk ≤ 4) (hld : ∀ i, i < rk → I 12 i = nI (ldI I 12 i) ∧ ldI I 12 i < eq + n) : FM yX1_settleSolution cX1_settleSolution 2 none 3 D dA ad N [.ref (ad 0)] I J (fun v I' J' => v = none ∧ I' = i_settle eq n rk I J ∧ J' = j_settle eq n rk I J) := by
  refine FM.ofW RX1 rfl (by decide +kernel) (Nat.le_of_ble_eq_true rfl) ?_
  intro p l e s m args below meth c ls X hr hlk hI hl
  have hx := X.1
  have hb := X.2.1
  have hl : lv_has ls 2 [(0, .ref (ad 0))] := hl
  refine lv_aload_n hx hb dX1_settleSolution_0 rfl (lv_at hl 0 rfl) ?_
  refine fl_get1 X hI dX1_settleSolution_1 (by omega) 7 (by decide) wf_X1_30 rfl ?_
  refine fl_callS (As := [.ref (ad 22)]) (rest := []) X hI dX1_settleSolution_4 (m_fill D dA ad N I J (q := 22) (by omega) rfl) wc_yX1_fillWithZero wm_X1_82 ws_yX1_fillWithZero wn_X1 hd_yX1_fillWithZero rfl ⟨by first | decide | omega, by first | decide | omega⟩ hl.1 (Nat.le_of_ble_eq_true rfl) (fun v I2 J2 H locs hp hI => ?_)
  obtain ⟨hv, hI2, hJ2⟩ := hp
  subst hv
  rw [hI2, hJ2] at hI
  refine W.eq (g2 := F0 m 7 ls []) rfl ?_
  refine lv_iconst (v := nI 0) hx hb dX1_settleSolution_7 (by decide) ?_
  refine lv_istore_n (lv' := [(1, .int (nI 0)), (0, .ref (ad 0))]) hx hb dX1_settleSolution_8 rfl hl (by decide) rfl (fun ls hl => ?_)
  refine lp_negs X hN he he3 (J9 := j_negs eq I (j_fill 22 J)) (fun H locs ls hI hl => ?_) eq 0 _ _ _ _ (Nat.zero_add _) hI hl rfl
  refine lv_aload_n hx hb dX1_settleSolution_37 rfl (lv_at hl 1 rfl) ?_
  refine fl_get1 X hI dX1_settleSolution_38 (by omega) 4 (by decide) wf_X1_23 rfl ?_
  refine lv_aload_n hx hb dX1_settleSolution_41 rfl (lv_at hl 1 rfl) ?_
  refine fl_get1 X hI dX1_settleSolution_42 (by omega) 7 (by decide) wf_X1_30 rfl ?_
  refine fl_callV (k := 6) (As := [.ref (ad 22)]) (rest := []) X hI dX1_settleSolution_45 (m_X0_reduce D dA ad N I (j_negs eq I (j_fill 22 J)) hN lat6 (q := 22) (by omega) rfl hw (by omega) (show _ ≤ 7 by omega) hrk (by omega) (fun i hi => ⟨(hld i hi).1, by have := (hld i hi).2; omega, by have := (hld i hi).2; show _ < 7; omega⟩)) (by omega) (fl_c_4 rfl) rfl rfl wc_yX0_reduce wm_X1_86 wi_yX0_reduce wl_yX0_reduce wn_X0 hd_yX0_reduce rfl ⟨by first | decide | omega, by first | decide | omega⟩ hl.1 (Nat.le_of_ble_eq_true rfl) (fun v I2 J2 H locs hp hI => ?_)
  obtain ⟨hv, hI2, hJ2⟩ := hp
  subst hv
  rw [hI2, hJ2] at hI
  refine W.eq (g2 := F0 m 48 ls []) rfl ?_
  refine lv_aload_n hx hb dX1_settleSolution_48 rfl (lv_at hl 1 rfl) ?_
  refine lv_aload_n hx hb dX1_settleSolution_49 rfl (lv_at hl 1 rfl) ?_
  refine lv_aload_n hx hb dX1_settleSolution_50 rfl (lv_at hl 1 rfl) ?_
  refine fl_get1 X hI dX1_settleSolution_51 (by omega) 7 (by decide) wf_X1_30 rfl ?_
  refine fl_callV (k := 0) (As := [.ref (ad 22)]) (rest := [.ref (ad 0)]) X hI dX1_settleSolution_54 (m_X1_firstNotZero D dA ad N I (j_reduce 6 22 (eq + n) rk (ldI I 12) (j_negs eq I (j_fill 22 J))) hN (q := 22) (by omega) rfl he he3 (show _ ≤ 7 by omega)) (by omega) fl_c_5 rfl rfl wc_yX1_firstNotZero wm_X1_89 wi_yX1_firstNotZero wl_yX1_firstNotZero wn_X1 hd_yX1_firstNotZero rfl ⟨by first | decide | omega, by first | decide | omega⟩ hl.1 (Nat.le_of_ble_eq_true rfl) (fun v I2 J2 H locs hp hI => ?_)
  obtain ⟨hv, hI2, hJ2⟩ := hp
  subst hv
  rw [hI2, hJ2] at hI
  refine W.eq (g2 := F0 m 57 ls [.int (x_first 22 (j_reduce 6 22 (eq + n) rk (ldI I 12) (j_negs eq I (j_fill 22 J))) eq 0), .ref (ad 0)]) rfl ?_
  refine fl_put1 X hI dX1_settleSolution_57 (by omega) 8 (by decide) wf_X1_63 (fun H locs hI => ?_)
  exact fl_vret X hr hlk hI dX1_settleSolution_60 ⟨rfl, rfl, rfl⟩
