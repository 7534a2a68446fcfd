/-! check, modulo -/
theorem lp_check {p : Program} {l : Launch} {e : Env} {R : Room} {s : State} {m : MethodId} {args : Array Value} {below : List Frame} {meth : Method} {c : Code} {Q : State → Prop} {D : va_G} {dA : Nat → ClassId} {ad : Nat → Nat} {N : Nat} {A : Nat → Prop} {H0 : Heap} {I : fl_TI} {J : fl_TJ} {zz9 : Nat} (X : CallFix p m c cX1_check 3 s args fl_tb RX1) {n eq : Nat} (hN : 30 ≤ N) (hn : I 0 2 = nI n) (hn4 : n ≤ 4) (he : I 0 3 = nI eq) (he3 : eq ≤ 3) (hrow : ∀ i, i < n → x_rowh n eq I J i eq 0 = nI 1) (hR : 1 + 1 ≤ R.frames ∧ 8 + (3 + 11) + 40 * 1 ≤ R.locals)
    (kx : ∀ (H : Heap) (locs : List Loc) (ls : Array Slot), fl_I D dA ad N I J A s H0 H locs → lv_has ls 3 [(2, .int (nI n)), (1, .int (nI 1)), (0, .ref (ad 0))] → W p l e R s m args below meth c H locs 0 0 Q (F0 m 55 ls [])) :
    ∀ (k i : Nat) (zz : Nat) (H : Heap) (locs : List Loc) (ls : Array Slot), i + k = n → fl_I D dA ad N I J A s H0 H locs → lv_has ls 3 [(2, .int (nI i)), (1, .int (nI 1)), (0, .ref (ad 0))] → fl_it (fun _ z => z) k i zz = zz9 → W p l e R s m args below meth c H locs 0 0 Q (F0 m 23 ls []) := by
  have hx := X.1
  have hb := X.2.1
  intro k
  induction k with
  | zero =>
    intro i zz H locs ls hk hI hl hF
    have hF : zz = zz9 := hF
    subst hF
    have hk : n = i := by omega
    subst hk
    refine lv_iload_n hx hb dX1_check_23 rfl (lv_at hl 0 rfl) ?_
    refine lv_aload_n hx hb dX1_check_24 rfl (lv_at hl 2 rfl) ?_
    refine fl_get1 X hI dX1_check_25 (by omega) 2 (by decide) wf_X1_42 rfl ?_
    refine W.eq (g2 := F0 m 28 ls [.int (nI n), .int (nI n)]) (by rw [hn]) ?_
    refine fn_icmp_ge X (tgt := 55) dX1_check_28 (by decide) (by omega) (by omega) (fun c1 => ?_) (fun c1 => absurd c1 (by omega))
    exact kx _ _ _ hI (lv_sub hl [0, 1, 2] rfl)
  | succ k ih =>
    intro i zz H locs ls hk hI hl hF
    refine lv_iload_n hx hb dX1_check_23 rfl (lv_at hl 0 rfl) ?_
    refine lv_aload_n hx hb dX1_check_24 rfl (lv_at hl 2 rfl) ?_
    refine fl_get1 X hI dX1_check_25 (by omega) 2 (by decide) wf_X1_42 rfl ?_
    refine W.eq (g2 := F0 m 28 ls [.int (nI n), .int (nI i)]) (by rw [hn]) ?_
    refine fn_icmp_ge X (tgt := 55) dX1_check_28 (by decide) (by omega) (by omega) (fun c1 => absurd c1 (by omega)) (fun c1 => ?_)
    refine lv_iload_n hx hb dX1_check_31 rfl (lv_at hl 1 rfl) ?_
    refine fn_if_eq X (tgt := 47) dX1_check_32 (by decide) (by omega) (fun c2 => absurd c2 (by omega)) (fun c2 => ?_)
    refine lv_aload_n hx hb dX1_check_35 rfl (lv_at hl 2 rfl) ?_
    refine lv_iload_n hx hb dX1_check_36 rfl (lv_at hl 0 rfl) ?_
    refine fl_callV (k := 0) (As := [.int (nI i)]) (rest := []) X hI dX1_check_37 (m_X1_rowHolds D dA ad N I J hN hn hn4 he he3 (a := i) (by omega)) (by omega) fl_c_5 rfl rfl wc_yX1_rowHolds wm_X1_121 wi_yX1_rowHolds wl_yX1_rowHolds wn_X1 hd_yX1_rowHolds rfl ⟨by first | decide | omega, by first | decide | omega⟩ hl.1 (Nat.le_of_ble_eq_true rfl) (fun v I2 J2 H locs hp hI => ?_)
    obtain ⟨hv, hI2, hJ2⟩ := hp
    subst hv
    rw [hI2, hJ2] at hI
    refine W.eq (g2 := F0 m 40 ls [.int (nI 1)]) (by rw [hrow _ (by omega)]; rfl) ?_
    refine fn_if_eq X (tgt := 47) dX1_check_40 (by decide) (by omega) (fun c3 => absurd c3 (by omega)) (fun c3 => ?_)
    refine lv_iconst (v := nI 1) hx hb dX1_check_43 (by decide) ?_
    refine lv_goto (tgt := 48) hx hb dX1_check_44 (by decide) ?_
    refine lv_istore_n (lv' := [(1, .int (nI 1)), (2, .int (nI i)), (0, .ref (ad 0))]) hx hb dX1_check_48 rfl hl (by decide) rfl (fun ls hl => ?_)
    refine fn_iinc (a := i) (lv' := [(2, .int (nI (i + 1))), (1, .int (nI 1)), (0, .ref (ad 0))]) X dX1_check_49 hl (k := 1) rfl (by decide) rfl (fun ls hl => ?_)
    refine lv_goto (tgt := 23) hx hb dX1_check_52 (by decide) ?_
    exact ih (i + 1) _ _ _ _ (by omega) hI (lv_sub hl [0, 1, 2] rfl) hF
theorem m_X1_check (D : va_G) (dA : Nat → ClassId) (ad : Nat → Nat) (N : Nat) (I : fl_TI) (J : fl_TJ) (hN : 30 ≤ N) {n eq rr rk : Nat} (ok : x_ok I n eq rr rk) (hrow : ∀ i, i < n → x_rowh n eq I J i eq 0 = nI 1) (hsol : I 0 8 = -1 → x_solh n eq I J eq 0 = nI 1) : FM yX1_check cX1_check 3 (some .int) 2 D dA ad N [.ref (ad 0)] I J (fun v I' J' => v = some (.int (nI 1)) ∧ I' = I ∧ J' = J) := by
  refine FM.ofW RX1 rfl (by decide +kernel) (Nat.le_of_ble_eq_true rfl) ?_
  intro p l e s m args below meth c ls X hr hlk hI hl
  have hx := X.1
  have hb := X.2.1
  have hl : lv_has ls 3 [(0, .ref (ad 0))] := hl
  obtain ⟨hn, ⟨hn1, hn4⟩, he, he3, hrr, hrn, hh, hw, hrk, hrk4, hld⟩ := ok
  refine lv_aload_n hx hb dX1_check_0 rfl (lv_at hl 0 rfl) ?_
  refine fl_get1 X hI dX1_check_1 (by omega) 8 (by decide) wf_X1_63 rfl ?_
  refine lv_iconst (v := (-1)) hx hb dX1_check_4 (by decide) ?_
  refine lv_icmp_ne (tgt := 15) hx hb dX1_check_5 (by decide) (fun c1 => ?_) (fun c1 => ?_)
  · refine lv_iconst (v := nI 1) hx hb dX1_check_15 (by decide) ?_
    refine lv_goto (tgt := 20) hx hb dX1_check_16 (by decide) ?_
    refine lv_istore_n (lv' := [(1, .int (nI 1)), (0, .ref (ad 0))]) hx hb dX1_check_20 rfl hl (by decide) rfl (fun ls hl => ?_)
    refine lv_iconst (v := nI 0) hx hb dX1_check_21 (by decide) ?_
    refine lv_istore_n (lv' := [(2, .int (nI 0)), (1, .int (nI 1)), (0, .ref (ad 0))]) hx hb dX1_check_22 rfl hl (by decide) rfl (fun ls hl => ?_)
    refine lp_check X hN hn hn4 he he3 hrow ⟨by decide, by decide⟩ (zz9 := fl_it (fun _ z => z) n 0 0) (fun H locs ls hI hl => ?_) n 0 0 _ _ _ (Nat.zero_add _) hI (lv_sub hl [0, 1, 2] rfl) rfl
    refine lv_iload_n hx hb dX1_check_55 rfl (lv_at hl 1 rfl) ?_
    refine fn_if_eq X (tgt := 63) dX1_check_56 (by decide) (by omega) (fun c2 => absurd c2 (by omega)) (fun c2 => ?_)
    refine lv_iconst (v := nI 1) hx hb dX1_check_59 (by decide) ?_
    refine lv_goto (tgt := 64) hx hb dX1_check_60 (by decide) ?_
    exact fl_iret X hr hlk hI dX1_check_64 ⟨rfl, rfl, rfl⟩
  · refine lv_aload_n hx hb dX1_check_8 rfl (lv_at hl 0 rfl) ?_
    refine fl_callV (k := 0) (As := []) (rest := []) X hI dX1_check_9 (m_X1_solutionHolds D dA ad N I J hN hn hn4 he he3) (by omega) fl_c_5 rfl rfl wc_yX1_solutionHolds wm_X1_117 wi_yX1_solutionHolds wl_yX1_solutionHolds wn_X1 hd_yX1_solutionHolds rfl ⟨by first | decide | omega, by first | decide | omega⟩ hl.1 (Nat.le_of_ble_eq_true rfl) (fun v I2 J2 H locs hp hI => ?_)
    obtain ⟨hv, hI2, hJ2⟩ := hp
    subst hv
    rw [hI2, hJ2] at hI
    refine W.eq (g2 := F0 m 12 ls [.int (nI 1)]) (by rw [hsol (by assumption)]; rfl) ?_
    refine fn_if_eq X (tgt := 19) dX1_check_12 (by decide) (by omega) (fun c3 => absurd c3 (by omega)) (fun c3 => ?_)
    refine lv_iconst (v := nI 1) hx hb dX1_check_15 (by decide) ?_
    refine lv_goto (tgt := 20) hx hb dX1_check_16 (by decide) ?_
    refine lv_istore_n (lv' := [(1, .int (nI 1)), (0, .ref (ad 0))]) hx hb dX1_check_20 rfl hl (by decide) rfl (fun ls hl => ?_)
    refine lv_iconst (v := nI 0) hx hb dX1_check_21 (by decide) ?_
    refine lv_istore_n (lv' := [(2, .int (nI 0)), (1, .int (nI 1)), (0, .ref (ad 0))]) hx hb dX1_check_22 rfl hl (by decide) rfl (fun ls hl => ?_)
    refine lp_check X hN hn hn4 he he3 hrow ⟨by decide, by decide⟩ (zz9 := fl_it (fun _ z => z) n 0 0) (fun H locs ls hI hl => ?_) n 0 0 _ _ _ (Nat.zero_add _) hI (lv_sub hl [0, 1, 2] rfl) rfl
    refine lv_iload_n hx hb dX1_check_55 rfl (lv_at hl 1 rfl) ?_
    refine fn_if_eq X (tgt := 63) dX1_check_56 (by decide) (by omega) (fun c4 => absurd c4 (by omega)) (fun c4 => ?_)
    refine lv_iconst (v := nI 1) hx hb dX1_check_59 (by decide) ?_
    refine lv_goto (tgt := 64) hx hb dX1_check_60 (by decide) ?_
    exact fl_iret X hr hlk hI dX1_check_64 ⟨rfl, rfl, rfl⟩
def i_r0 (eq rr : Nat) (I : fl_TI) : fl_TI := i_clear 13 (nI (rr + eq)) (nI eq) I
def j_rem1 (rr a : Nat) (J : fl_TJ) : fl_TJ := fl_it (fun i J => fl_up J (13 + 2 + i) a (J (6 + 2 + i) a)) rr 0 J
def j_rem (eq rr mm : Nat) (J : fl_TJ) : fl_TJ := fl_it (fun a J => fl_up (j_rem1 rr a J) (13 + 2 + (rr + a)) a ((nI mm).toInt64)) eq 0 J
def x_r (eq rr mm : Nat) (I : fl_TI) (J : fl_TJ) : Nat × fl_TI × fl_TJ := b_form 13 6 (rr + eq) eq eq 0 (0, i_r0 eq rr I, j_rem eq rr mm (j_clear 13 (rr + eq) J))
theorem lp_rem1 {p : Program} {l : Launch} {e : Env} {R : Room} {s : State} {m : MethodId} {args : Array Value} {below : List Frame} {meth : Method} {c : Code} {Q : State → Prop} {D : va_G} {dA : Nat → ClassId} {ad : Nat → Nat} {N : Nat} {A : Nat → Prop} {H0 : Heap} {I : fl_TI} {J9 : fl_TJ} (X : CallFix p m c cX1_formRemainders 4 s args fl_tb RX1) {eq rr a mm : Nat} (hN : 30 ≤ N) (he : I 0 3 = nI eq) (he3 : eq ≤ 3) (hrr : I 0 6 = nI rr) (hre : rr ≤ eq) (ha : a < eq) (hR : 0 + 1 ≤ R.frames ∧ 8 + (5 + 11) + 40 * 0 ≤ R.locals)
    (kx : ∀ (H : Heap) (locs : List Loc) (ls : Array Slot), fl_I D dA ad N I J9 A s H0 H locs → lv_has ls 4 [(3, .int (nI rr)), (2, .int (nI a)), (0, .ref (ad 0)), (1, .int (nI mm))] → W p l e R s m args below meth c H locs 0 0 Q (F0 m 64 ls [])) :
    ∀ (k i : Nat) (J : fl_TJ) (H : Heap) (locs : List Loc) (ls : Array Slot), i + k = rr → fl_I D dA ad N I J A s H0 H locs → lv_has ls 4 [(3, .int (nI i)), (2, .int (nI a)), (0, .ref (ad 0)), (1, .int (nI mm))] → fl_it (fun i J => fl_up J (13 + 2 + i) a (J (6 + 2 + i) a)) k i J = J9 → W p l e R s m args below meth c H locs 0 0 Q (F0 m 32 ls []) := by
  have hx := X.1
  have hb := X.2.1
  intro k
  induction k with
  | zero =>
    intro i J H locs ls hk hI hl hF
    have hF : J = J9 := hF
    subst hF
    have hk : rr = i := by omega
    subst hk
    refine lv_iload_n hx hb dX1_formRemainders_32 rfl (lv_at hl 0 rfl) ?_
    refine lv_aload_n hx hb dX1_formRemainders_33 rfl (lv_at hl 2 rfl) ?_
    refine fl_get1 X hI dX1_formRemainders_34 (by omega) 6 (by decide) wf_X1_76 rfl ?_
    refine W.eq (g2 := F0 m 37 ls [.int (nI rr), .int (nI rr)]) (by rw [hrr]) ?_
    refine fn_icmp_ge X (tgt := 64) dX1_formRemainders_37 (by decide) (by omega) (by omega) (fun c1 => ?_) (fun c1 => absurd c1 (by omega))
    exact kx _ _ _ hI (lv_sub hl [0, 1, 2, 3] rfl)
  | succ k ih =>
    intro i J H locs ls hk hI hl hF
    refine lv_iload_n hx hb dX1_formRemainders_32 rfl (lv_at hl 0 rfl) ?_
    refine lv_aload_n hx hb dX1_formRemainders_33 rfl (lv_at hl 2 rfl) ?_
    refine fl_get1 X hI dX1_formRemainders_34 (by omega) 6 (by decide) wf_X1_76 rfl ?_
    refine W.eq (g2 := F0 m 37 ls [.int (nI rr), .int (nI i)]) (by rw [hrr]) ?_
    refine fn_icmp_ge X (tgt := 64) dX1_formRemainders_37 (by decide) (by omega) (by omega) (fun c1 => absurd c1 (by omega)) (fun c1 => ?_)
    refine lv_aload_n hx hb dX1_formRemainders_40 rfl (lv_at hl 2 rfl) ?_
    refine fl_get1 X hI dX1_formRemainders_41 (by omega) 5 (by decide) wf_X1_27 rfl ?_
    refine lv_iload_n hx hb dX1_formRemainders_44 rfl (lv_at hl 0 rfl) ?_
    refine lv_iload_n hx hb dX1_formRemainders_45 rfl (lv_at hl 1 rfl) ?_
    refine lv_aload_n hx hb dX1_formRemainders_46 rfl (lv_at hl 2 rfl) ?_
    refine fl_get1 X hI dX1_formRemainders_47 (by omega) 4 (by decide) wf_X1_23 rfl ?_
    refine lv_iload_n hx hb dX1_formRemainders_50 rfl (lv_at hl 0 rfl) ?_
    refine lv_iload_n hx hb dX1_formRemainders_51 rfl (lv_at hl 1 rfl) ?_
    refine fl_callV (k := 6) (As := [.int (nI i), .int (nI a)]) (rest := [.int (nI a), .int (nI i), .ref (ad 13)]) X hI dX1_formRemainders_52 (m_X0_at D dA ad N I J hN lat6 (i := i) (j := a) (by omega) (by omega)) (by omega) (fl_c_4 rfl) rfl rfl wc_yX0_at wm_X1_79 wi_yX0_at wl_yX0_at wn_X0 hd_yX0_at rfl ⟨by first | decide | omega, by first | decide | omega⟩ hl.1 (Nat.le_of_ble_eq_true rfl) (fun v I2 J2 H locs hp hI => ?_)
    obtain ⟨hv, hI2, hJ2⟩ := hp
    subst hv
    rw [hI2, hJ2] at hI
    refine W.eq (g2 := F0 m 55 ls [.long (J (6 + 2 + i) a), .int (nI a), .int (nI i), .ref (ad 13)]) rfl ?_
    refine fl_callV (k := 13) (As := [.int (nI i), .int (nI a), .long (J (6 + 2 + i) a)]) (rest := []) X hI dX1_formRemainders_55 (m_X0_put D dA ad N I J hN lat13 (J (6 + 2 + i) a) (by omega) (by omega)) (by omega) (fl_c_4 rfl) rfl rfl wc_yX0_put wm_X1_131 wi_yX0_put wl_yX0_put wn_X0 hd_yX0_put rfl ⟨by first | decide | omega, by first | decide | omega⟩ hl.1 (Nat.le_of_ble_eq_true rfl) (fun v I2 J2 H locs hp hI => ?_)
    obtain ⟨hv, hI2, hJ2⟩ := hp
    subst hv
    rw [hI2, hJ2] at hI
    refine W.eq (g2 := F0 m 58 ls []) rfl ?_
    refine fn_iinc (a := i) (lv' := [(3, .int (nI (i + 1))), (2, .int (nI a)), (0, .ref (ad 0)), (1, .int (nI mm))]) X dX1_formRemainders_58 hl (k := 0) rfl (by decide) rfl (fun ls hl => ?_)
    refine lv_goto (tgt := 32) hx hb dX1_formRemainders_61 (by decide) ?_
    exact ih (i + 1) _ _ _ _ (by omega) hI (lv_sub hl [0, 1, 2, 3] rfl) hF
theorem lp_rem {p : Program} {l : Launch} {e : Env} {R : Room} {s : State} {m : MethodId} {args : Array Value} {below : List Frame} {meth : Method} {c : Code} {Q : State → Prop} {D : va_G} {dA : Nat → ClassId} {ad : Nat → Nat} {N : Nat} {A : Nat → Prop} {H0 : Heap} {I : fl_TI} {J9 : fl_TJ} (X : CallFix p m c cX1_formRemainders 4 s args fl_tb RX1) {eq rr mm : Nat} (hN : 30 ≤ N) (he : I 0 3 = nI eq) (he3 : eq ≤ 3) (hrr : I 0 6 = nI rr) (hre : rr ≤ eq) (hR : 0 + 1 ≤ R.frames ∧ 8 + (5 + 11) + 40 * 0 ≤ R.locals)
    (kx : ∀ (H : Heap) (locs : List Loc) (ls : Array Slot), fl_I D dA ad N I J9 A s H0 H locs → lv_has ls 4 [(2, .int (nI eq)), (0, .ref (ad 0)), (1, .int (nI mm))] → W p l e R s m args below meth c H locs 0 0 Q (F0 m 86 ls [])) :
    ∀ (k i : Nat) (J : fl_TJ) (H : Heap) (locs : List Loc) (ls : Array Slot), i + k = eq → fl_I D dA ad N I J A s H0 H locs → lv_has ls 4 [(2, .int (nI i)), (0, .ref (ad 0)), (1, .int (nI mm))] → fl_it (fun a J => fl_up (j_rem1 rr a J) (13 + 2 + (rr + a)) a ((nI mm).toInt64)) k i J = J9 → W p l e R s m args below meth c H locs 0 0 Q (F0 m 22 ls []) := by
  have hx := X.1
  have hb := X.2.1
  intro k
  induction k with
  | zero =>
    intro i J H locs ls hk hI hl hF
    have hF : J = J9 := hF
    subst hF
    have hk : eq = i := by omega
    subst hk
    refine lv_iload_n hx hb dX1_formRemainders_22 rfl (lv_at hl 0 rfl) ?_
    refine lv_aload_n hx hb dX1_formRemainders_23 rfl (lv_at hl 1 rfl) ?_
    refine fl_get1 X hI dX1_formRemainders_24 (by omega) 3 (by decide) wf_X1_46 rfl ?_
    refine W.eq (g2 := F0 m 27 ls [.int (nI eq), .int (nI eq)]) (by rw [he]) ?_
    refine fn_icmp_ge X (tgt := 86) dX1_formRemainders_27 (by decide) (by omega) (by omega) (fun c1 => ?_) (fun c1 => absurd c1 (by omega))
    exact kx _ _ _ hI (lv_sub hl [0, 1, 2] rfl)
  | succ k ih =>
    intro i J H locs ls hk hI hl hF
    refine lv_iload_n hx hb dX1_formRemainders_22 rfl (lv_at hl 0 rfl) ?_
    refine lv_aload_n hx hb dX1_formRemainders_23 rfl (lv_at hl 1 rfl) ?_
    refine fl_get1 X hI dX1_formRemainders_24 (by omega) 3 (by decide) wf_X1_46 rfl ?_
    refine W.eq (g2 := F0 m 27 ls [.int (nI eq), .int (nI i)]) (by rw [he]) ?_
    refine fn_icmp_ge X (tgt := 86) dX1_formRemainders_27 (by decide) (by omega) (by omega) (fun c1 => absurd c1 (by omega)) (fun c1 => ?_)
    refine lv_iconst (v := nI 0) hx hb dX1_formRemainders_30 (by decide) ?_
    refine lv_istore_n (lv' := [(3, .int (nI 0)), (2, .int (nI i)), (0, .ref (ad 0)), (1, .int (nI mm))]) hx hb dX1_formRemainders_31 rfl hl (by decide) rfl (fun ls hl => ?_)
    refine lp_rem1 X hN he he3 hrr hre (by omega) hR (J9 := j_rem1 rr i J) (fun H locs ls hI hl => ?_) rr 0 _ _ _ _ (Nat.zero_add _) hI (lv_sub hl [0, 1, 2, 3] rfl) rfl
    refine lv_aload_n hx hb dX1_formRemainders_64 rfl (lv_at hl 2 rfl) ?_
    refine fl_get1 X hI dX1_formRemainders_65 (by omega) 5 (by decide) wf_X1_27 rfl ?_
    refine lv_aload_n hx hb dX1_formRemainders_68 rfl (lv_at hl 2 rfl) ?_
    refine fl_get1 X hI dX1_formRemainders_69 (by omega) 6 (by decide) wf_X1_76 rfl ?_
    refine W.eq (g2 := F0 m 72 ls [.int (nI rr), .ref (ad 13)]) (by rw [hrr]) ?_
    refine lv_iload_n hx hb dX1_formRemainders_72 rfl (lv_at hl 1 rfl) ?_
    refine fn_iadd X dX1_formRemainders_73 ?_
    refine lv_iload_n hx hb dX1_formRemainders_74 rfl (lv_at hl 1 rfl) ?_
    refine lv_iload_n hx hb dX1_formRemainders_75 rfl (lv_at hl 3 rfl) ?_
    refine lv_i2l hx hb dX1_formRemainders_76 rfl ?_
    refine fl_callV (k := 13) (As := [.int (nI (rr + i)), .int (nI i), .long ((nI mm).toInt64)]) (rest := []) X hI dX1_formRemainders_77 (m_X0_put D dA ad N I (j_rem1 rr i J) hN lat13 ((nI mm).toInt64) (by omega) (by omega)) (by omega) (fl_c_4 rfl) rfl rfl wc_yX0_put wm_X1_131 wi_yX0_put wl_yX0_put wn_X0 hd_yX0_put rfl ⟨by first | decide | omega, by first | decide | omega⟩ hl.1 (Nat.le_of_ble_eq_true rfl) (fun v I2 J2 H locs hp hI => ?_)
    obtain ⟨hv, hI2, hJ2⟩ := hp
    subst hv
    rw [hI2, hJ2] at hI
    refine W.eq (g2 := F0 m 80 ls []) rfl ?_
    refine fn_iinc (a := i) (lv' := [(2, .int (nI (i + 1))), (3, .int (nI rr)), (0, .ref (ad 0)), (1, .int (nI mm))]) X dX1_formRemainders_80 hl (k := 1) rfl (by decide) rfl (fun ls hl => ?_)
    refine lv_goto (tgt := 22) hx hb dX1_formRemainders_83 (by decide) ?_
    exact ih (i + 1) _ _ _ _ (by omega) hI (lv_sub hl [0, 2, 3] rfl) hF
theorem m_X1_formRemainders (D : va_G) (dA : Nat → ClassId) (ad : Nat → Nat) (N : Nat) (I : fl_TI) (J : fl_TJ) {eq rr mm : Nat} (hN : 30 ≤ N) (he : I 0 3 = nI eq) (he3 : eq ≤ 3) (hrr : I 0 6 = nI rr) (hre : rr ≤ eq) : FM yX1_formRemainders cX1_formRemainders 4 none 4 D dA ad N [.ref (ad 0), .int (nI mm)] I J (fun v I' J' => v = none ∧ I' = (x_r eq rr mm I J).2.1 ∧ J' = (x_r eq rr mm I J).2.2) := by
  refine FM.ofW RX1 rfl (by decide +kernel) (Nat.le_of_ble_eq_true rfl) ?_
  intro p l e s m args below meth c ls X hr hlk hI hl
  have hx := X.1
  have hb := X.2.1
  have hl : lv_has ls 4 [(0, .ref (ad 0)), (1, .int (nI mm))] := hl
  refine lv_aload_n hx hb dX1_formRemainders_0 rfl (lv_at hl 0 rfl) ?_
  refine fl_get1 X hI dX1_formRemainders_1 (by omega) 5 (by decide) wf_X1_27 rfl ?_
  refine lv_aload_n hx hb dX1_formRemainders_4 rfl (lv_at hl 0 rfl) ?_
  refine fl_get1 X hI dX1_formRemainders_5 (by omega) 6 (by decide) wf_X1_76 rfl ?_
  refine W.eq (g2 := F0 m 8 ls [.int (nI rr), .ref (ad 13)]) (by rw [hrr]) ?_
  refine lv_aload_n hx hb dX1_formRemainders_8 rfl (lv_at hl 0 rfl) ?_
  refine fl_get1 X hI dX1_formRemainders_9 (by omega) 3 (by decide) wf_X1_46 rfl ?_
  refine W.eq (g2 := F0 m 12 ls [.int (nI eq), .int (nI rr), .ref (ad 13)]) (by rw [he]) ?_
  refine fn_iadd X dX1_formRemainders_12 ?_
  refine lv_aload_n hx hb dX1_formRemainders_13 rfl (lv_at hl 0 rfl) ?_
  refine fl_get1 X hI dX1_formRemainders_14 (by omega) 3 (by decide) wf_X1_46 rfl ?_
  refine W.eq (g2 := F0 m 17 ls [.int (nI eq), .int (nI (rr + eq)), .ref (ad 13)]) (by rw [he]) ?_
  refine fl_callV (k := 13) (As := [.int (nI (rr + eq)), .int (nI eq)]) (rest := []) X hI dX1_formRemainders_17 (m_X0_clear D dA ad N I J hN lat13 (h := rr + eq) (w := eq) (by omega)) (by omega) (fl_c_4 rfl) rfl rfl wc_yX0_clear wm_X1_128 wi_yX0_clear wl_yX0_clear wn_X0 hd_yX0_clear rfl ⟨by first | decide | omega, by first | decide | omega⟩ hl.1 (Nat.le_of_ble_eq_true rfl) (fun v I2 J2 H locs hp hI => ?_)
  obtain ⟨hv, hI2, hJ2⟩ := hp
  subst hv
  rw [hI2, hJ2] at hI
  refine W.eq (g2 := F0 m 20 ls []) rfl ?_
  refine lv_iconst (v := nI 0) hx hb dX1_formRemainders_20 (by decide) ?_
  refine lv_istore_n (lv' := [(2, .int (nI 0)), (0, .ref (ad 0)), (1, .int (nI mm))]) hx hb dX1_formRemainders_21 rfl hl (by decide) rfl (fun ls hl => ?_)
  have he2 : i_r0 eq rr I 0 3 = nI eq := by unfold i_r0; rw [i_clear_far (by omega)]; exact he
  have hrr2 : i_r0 eq rr I 0 6 = nI rr := by unfold i_r0; rw [i_clear_far (by omega)]; exact hrr
  refine lp_rem (I := i_r0 eq rr I) X hN he2 he3 hrr2 hre ⟨by decide, by decide⟩ (J9 := j_rem eq rr mm (j_clear 13 (rr + eq) J)) (fun H locs ls hI hl => ?_) eq 0 _ _ _ _ (Nat.zero_add _) hI (lv_sub hl [0, 1, 2] rfl) rfl
  refine lv_aload_n hx hb dX1_formRemainders_86 rfl (lv_at hl 1 rfl) ?_
  refine fl_get1 X hI dX1_formRemainders_87 (by omega) 5 (by decide) wf_X1_27 rfl ?_
  refine fl_callV (k := 13) (As := []) (rest := []) X hI dX1_formRemainders_90 (m_X0_bringToForm D dA ad N (i_r0 eq rr I) (j_rem eq rr mm (j_clear 13 (rr + eq) J)) hN lat13 (h := rr + eq) (w := eq) (rk := 0) (by unfold i_r0 i_clear; rw [fl_up_j (by omega), fl_up_j (by omega), fl_up_s]) (by omega) (by unfold i_r0 i_clear; rw [fl_up_j (by omega), fl_up_s]) (by omega) (by unfold i_r0 i_clear; rw [fl_up_s]) (Nat.zero_le _)) (by omega) (fl_c_4 rfl) rfl rfl wc_yX0_bringToForm wm_X1_135 wi_yX0_bringToForm wl_yX0_bringToForm wn_X0 hd_yX0_bringToForm rfl ⟨by first | decide | omega, by first | decide | omega⟩ hl.1 (Nat.le_of_ble_eq_true rfl) (fun v I2 J2 H locs hp hI => ?_)
  obtain ⟨hv, hI2, hJ2⟩ := hp
  subst hv
  rw [hI2, hJ2] at hI
  refine W.eq (g2 := F0 m 93 ls []) rfl ?_
  exact fl_vret X hr hlk hI dX1_formRemainders_93 ⟨rfl, rfl, rfl⟩
def x_pw (mm n : Nat) : Int64 := fl_it (fun _ w => w * (nI mm).toInt64) n 0 1
def x_wy (mm eq : Nat) (J : fl_TJ) (w0 : Int64) : Int64 × Int64 := fl_it (fun i (x : Int64 × Int64) => (x.1 * J (13 + 2 + i) i, x.2 * (nI mm).toInt64)) eq 0 (w0, 1)
def x_ways (mm n eq : Nat) (J : fl_TJ) : Int64 := if (x_wy mm eq J (x_pw mm n)).2 = 0 then 0 else (x_wy mm eq J (x_pw mm n)).1 / (x_wy mm eq J (x_pw mm n)).2
theorem lp_pw {p : Program} {l : Launch} {e : Env} {R : Room} {s : State} {m : MethodId} {args : Array Value} {below : List Frame} {meth : Method} {c : Code} {Q : State → Prop} {D : va_G} {dA : Nat → ClassId} {ad : Nat → Nat} {N : Nat} {A : Nat → Prop} {H0 : Heap} {I : fl_TI} {J : fl_TJ} {ww9 : Int64} (X : CallFix p m c cX1_waysToEachSum 7 s args fl_tb RX1) {n eq mm : Nat} (hN : 30 ≤ N) (hn : I 0 2 = nI n) (hn4 : n ≤ 4) (he : I 0 3 = nI eq) (he3 : eq ≤ 3)
    (kx : ∀ (H : Heap) (locs : List Loc) (ls : Array Slot), fl_I D dA ad N I J A s H0 H locs → lv_has ls 7 [(4, .int (nI n)), (2, .long ww9), (0, .ref (ad 0)), (1, .int (nI mm))] → W p l e R s m args below meth c H locs 0 0 Q (F0 m 25 ls [])) :
    ∀ (k i : Nat) (ww : Int64) (H : Heap) (locs : List Loc) (ls : Array Slot), i + k = n → fl_I D dA ad N I J A s H0 H locs → lv_has ls 7 [(4, .int (nI i)), (2, .long ww), (0, .ref (ad 0)), (1, .int (nI mm))] → fl_it (fun _ w => w * (nI mm).toInt64) k i ww = ww9 → W p l e R s m args below meth c H locs 0 0 Q (F0 m 5 ls []) := by
  have hx := X.1
  have hb := X.2.1
  intro k
  induction k with
  | zero =>
    intro i ww H locs ls hk hI hl hF
    have hF : ww = ww9 := hF
    subst hF
    have hk : n = i := by omega
    subst hk
    refine lv_iload hx hb dX1_waysToEachSum_5 (lv_at hl 0 rfl) ?_
    refine lv_aload_n hx hb dX1_waysToEachSum_7 rfl (lv_at hl 2 rfl) ?_
    refine fl_get1 X hI dX1_waysToEachSum_8 (by omega) 2 (by decide) wf_X1_42 rfl ?_
    refine W.eq (g2 := F0 m 11 ls [.int (nI n), .int (nI n)]) (by rw [hn]) ?_
    refine fn_icmp_ge X (tgt := 25) dX1_waysToEachSum_11 (by decide) (by omega) (by omega) (fun c1 => ?_) (fun c1 => absurd c1 (by omega))
    exact kx _ _ _ hI (lv_sub hl [0, 1, 2, 3] rfl)
  | succ k ih =>
    intro i ww H locs ls hk hI hl hF
    refine lv_iload hx hb dX1_waysToEachSum_5 (lv_at hl 0 rfl) ?_
    refine lv_aload_n hx hb dX1_waysToEachSum_7 rfl (lv_at hl 2 rfl) ?_
    refine fl_get1 X hI dX1_waysToEachSum_8 (by omega) 2 (by decide) wf_X1_42 rfl ?_
    refine W.eq (g2 := F0 m 11 ls [.int (nI n), .int (nI i)]) (by rw [hn]) ?_
    refine fn_icmp_ge X (tgt := 25) dX1_waysToEachSum_11 (by decide) (by omega) (by omega) (fun c1 => absurd c1 (by omega)) (fun c1 => ?_)
    refine lv_lload_n hx hb dX1_waysToEachSum_14 rfl (lv_at hl 1 rfl) ?_
    refine lv_iload_n hx hb dX1_waysToEachSum_15 rfl (lv_at hl 3 rfl) ?_
    refine lv_i2l hx hb dX1_waysToEachSum_16 rfl ?_
    refine lv_lmul hx hb dX1_waysToEachSum_17 ?_
    refine lv_lstore_n (lv' := [(2, .long (ww * ((nI mm).toInt64))), (4, .int (nI i)), (0, .ref (ad 0)), (1, .int (nI mm))]) hx hb dX1_waysToEachSum_18 rfl hl (by decide) rfl (fun ls hl => ?_)
    refine fn_iinc (a := i) (lv' := [(4, .int (nI (i + 1))), (2, .long (ww * ((nI mm).toInt64))), (0, .ref (ad 0)), (1, .int (nI mm))]) X dX1_waysToEachSum_19 hl (k := 1) rfl (by decide) rfl (fun ls hl => ?_)
    refine lv_goto (tgt := 5) hx hb dX1_waysToEachSum_22 (by decide) ?_
    exact ih (i + 1) _ _ _ _ (by omega) hI (lv_sub hl [0, 1, 2, 3] rfl) hF
theorem lp_wy {p : Program} {l : Launch} {e : Env} {R : Room} {s : State} {m : MethodId} {args : Array Value} {below : List Frame} {meth : Method} {c : Code} {Q : State → Prop} {D : va_G} {dA : Nat → ClassId} {ad : Nat → Nat} {N : Nat} {A : Nat → Prop} {H0 : Heap} {I : fl_TI} {J : fl_TJ} {ww9 : Int64} {rw9 : Int64} (X : CallFix p m c cX1_waysToEachSum 7 s args fl_tb RX1) {n eq mm : Nat} (hN : 30 ≤ N) (hn : I 0 2 = nI n) (hn4 : n ≤ 4) (he : I 0 3 = nI eq) (he3 : eq ≤ 3) (hR : 0 + 1 ≤ R.frames ∧ 8 + (3 + 11) + 40 * 0 ≤ R.locals)
    (kx : ∀ (H : Heap) (locs : List Loc) (ls : Array Slot), fl_I D dA ad N I J A s H0 H locs → lv_has ls 7 [(6, .int (nI eq)), (4, .long rw9), (2, .long ww9), (0, .ref (ad 0)), (1, .int (nI mm))] → W p l e R s m args below meth c H locs 0 0 Q (F0 m 67 ls [])) :
    ∀ (k i : Nat) (ww : Int64) (rw : Int64) (H : Heap) (locs : List Loc) (ls : Array Slot), i + k = eq → fl_I D dA ad N I J A s H0 H locs → lv_has ls 7 [(6, .int (nI i)), (4, .long rw), (2, .long ww), (0, .ref (ad 0)), (1, .int (nI mm))] → fl_it (fun i (x : Int64 × Int64) => (x.1 * J (13 + 2 + i) i, x.2 * (nI mm).toInt64)) k i (ww, rw) = (ww9, rw9) → W p l e R s m args below meth c H locs 0 0 Q (F0 m 31 ls []) := by
  have hx := X.1
  have hb := X.2.1
  intro k
  induction k with
  | zero =>
    intro i ww rw H locs ls hk hI hl hF
    have hF : (ww, rw) = (ww9, rw9) := hF
    cases hF
    have hk : eq = i := by omega
    subst hk
    refine lv_iload hx hb dX1_waysToEachSum_31 (lv_at hl 0 rfl) ?_
    refine lv_aload_n hx hb dX1_waysToEachSum_33 rfl (lv_at hl 3 rfl) ?_
    refine fl_get1 X hI dX1_waysToEachSum_34 (by omega) 3 (by decide) wf_X1_46 rfl ?_
    refine W.eq (g2 := F0 m 37 ls [.int (nI eq), .int (nI eq)]) (by rw [he]) ?_
    refine fn_icmp_ge X (tgt := 67) dX1_waysToEachSum_37 (by decide) (by omega) (by omega) (fun c1 => ?_) (fun c1 => absurd c1 (by omega))
    exact kx _ _ _ hI (lv_sub hl [0, 1, 2, 3, 4] rfl)
  | succ k ih =>
    intro i ww rw H locs ls hk hI hl hF
    refine lv_iload hx hb dX1_waysToEachSum_31 (lv_at hl 0 rfl) ?_
    refine lv_aload_n hx hb dX1_waysToEachSum_33 rfl (lv_at hl 3 rfl) ?_
    refine fl_get1 X hI dX1_waysToEachSum_34 (by omega) 3 (by decide) wf_X1_46 rfl ?_
    refine W.eq (g2 := F0 m 37 ls [.int (nI eq), .int (nI i)]) (by rw [he]) ?_
    refine fn_icmp_ge X (tgt := 67) dX1_waysToEachSum_37 (by decide) (by omega) (by omega) (fun c1 => absurd c1 (by omega)) (fun c1 => ?_)
    refine lv_lload_n hx hb dX1_waysToEachSum_40 rfl (lv_at hl 2 rfl) ?_
    refine lv_aload_n hx hb dX1_waysToEachSum_41 rfl (lv_at hl 3 rfl) ?_
    refine fl_get1 X hI dX1_waysToEachSum_42 (by omega) 5 (by decide) wf_X1_27 rfl ?_
    refine lv_iload hx hb dX1_waysToEachSum_45 (lv_at hl 0 rfl) ?_
    refine lv_iload hx hb dX1_waysToEachSum_47 (lv_at hl 0 rfl) ?_
    refine fl_callV (k := 13) (As := [.int (nI i), .int (nI i)]) (rest := [.long ww]) X hI dX1_waysToEachSum_49 (m_X0_at D dA ad N I J hN lat13 (i := i) (j := i) (by omega) (by omega)) (by omega) (fl_c_4 rfl) rfl rfl wc_yX0_at wm_X1_79 wi_yX0_at wl_yX0_at wn_X0 hd_yX0_at rfl ⟨by first | decide | omega, by first | decide | omega⟩ hl.1 (Nat.le_of_ble_eq_true rfl) (fun v I2 J2 H locs hp hI => ?_)
    obtain ⟨hv, hI2, hJ2⟩ := hp
    subst hv
    rw [hI2, hJ2] at hI
    refine W.eq (g2 := F0 m 52 ls [.long (J (13 + 2 + i) i), .long ww]) rfl ?_
    refine lv_lmul hx hb dX1_waysToEachSum_52 ?_
    refine lv_lstore_n (lv' := [(2, .long (ww * (J (13 + 2 + i) i))), (6, .int (nI i)), (4, .long rw), (0, .ref (ad 0)), (1, .int (nI mm))]) hx hb dX1_waysToEachSum_53 rfl hl (by decide) rfl (fun ls hl => ?_)
    refine lv_lload hx hb dX1_waysToEachSum_54 (lv_at hl 2 rfl) ?_
    refine lv_iload_n hx hb dX1_waysToEachSum_56 rfl (lv_at hl 4 rfl) ?_
    refine lv_i2l hx hb dX1_waysToEachSum_57 rfl ?_
    refine lv_lmul hx hb dX1_waysToEachSum_58 ?_
    refine lv_lstore (lv' := [(4, .long (rw * ((nI mm).toInt64))), (2, .long (ww * (J (13 + 2 + i) i))), (6, .int (nI i)), (0, .ref (ad 0)), (1, .int (nI mm))]) hx hb dX1_waysToEachSum_59 hl (by decide) rfl (fun ls hl => ?_)
    refine fn_iinc (a := i) (lv' := [(6, .int (nI (i + 1))), (4, .long (rw * ((nI mm).toInt64))), (2, .long (ww * (J (13 + 2 + i) i))), (0, .ref (ad 0)), (1, .int (nI mm))]) X dX1_waysToEachSum_61 hl (k := 2) rfl (by decide) rfl (fun ls hl => ?_)
    refine lv_goto (tgt := 31) hx hb dX1_waysToEachSum_64 (by decide) ?_
    exact ih (i + 1) _ _ _ _ _ (by omega) hI (lv_sub hl [0, 1, 2, 3, 4] rfl) hF
theorem m_X1_ways (D : va_G) (dA : Nat → ClassId) (ad : Nat → Nat) (N : Nat) (I : fl_TI) (J : fl_TJ) {n eq mm : Nat} (hN : 30 ≤ N) (hn : I 0 2 = nI n) (hn4 : n ≤ 4) (he : I 0 3 = nI eq) (he3 : eq ≤ 3) : FM yX1_waysToEachSum cX1_waysToEachSum 7 (some .long) 1 D dA ad N [.ref (ad 0), .int (nI mm)] I J (fun v I' J' => v = some (.long (x_ways mm n eq J)) ∧ I' = I ∧ J' = J) := by
  refine FM.ofW RX1 rfl (by decide +kernel) (Nat.le_of_ble_eq_true rfl) ?_
  intro p l e s m args below meth c ls X hr hlk hI hl
  have hx := X.1
  have hb := X.2.1
  have hl : lv_has ls 7 [(0, .ref (ad 0)), (1, .int (nI mm))] := hl
  refine lv_lconst (v := 1) hx hb dX1_waysToEachSum_0 rfl ?_
  refine lv_lstore_n (lv' := [(2, .long 1), (0, .ref (ad 0)), (1, .int (nI mm))]) hx hb dX1_waysToEachSum_1 rfl hl (by decide) rfl (fun ls hl => ?_)
  refine lv_iconst (v := nI 0) hx hb dX1_waysToEachSum_2 (by decide) ?_
  refine lv_istore (lv' := [(4, .int (nI 0)), (2, .long 1), (0, .ref (ad 0)), (1, .int (nI mm))]) hx hb dX1_waysToEachSum_3 hl (by decide) rfl (fun ls hl => ?_)
  refine lp_pw X hN hn hn4 he he3 (ww9 := x_pw mm n) (fun H locs ls hI hl => ?_) n 0 _ _ _ _ (Nat.zero_add _) hI (lv_sub hl [0, 1, 2, 3] rfl) rfl
  refine lv_lconst (v := 1) hx hb dX1_waysToEachSum_25 rfl ?_
  refine lv_lstore (lv' := [(4, .long 1), (2, .long (x_pw mm n)), (0, .ref (ad 0)), (1, .int (nI mm))]) hx hb dX1_waysToEachSum_26 hl (by decide) rfl (fun ls hl => ?_)
  refine lv_iconst (v := nI 0) hx hb dX1_waysToEachSum_28 (by decide) ?_
  refine lv_istore (lv' := [(6, .int (nI 0)), (4, .long 1), (2, .long (x_pw mm n)), (0, .ref (ad 0)), (1, .int (nI mm))]) hx hb dX1_waysToEachSum_29 hl (by decide) rfl (fun ls hl => ?_)
  refine lp_wy X hN hn hn4 he he3 ⟨by decide, by decide⟩ (ww9 := (x_wy mm eq J (x_pw mm n)).1) (rw9 := (x_wy mm eq J (x_pw mm n)).2) (fun H locs ls hI hl => ?_) eq 0 _ _ _ _ _ (Nat.zero_add _) hI (lv_sub hl [0, 1, 2, 3, 4] rfl) rfl
  refine lv_lload hx hb dX1_waysToEachSum_67 (lv_at hl 1 rfl) ?_
  refine lv_lconst (v := 0) hx hb dX1_waysToEachSum_69 rfl ?_
  refine fl_lc_ne (tgt := 78) hx hb dX1_waysToEachSum_70 dX1_waysToEachSum_71 (by decide) (fun c1 => ?_) (fun c1 => ?_)
  · refine lv_lload_n hx hb dX1_waysToEachSum_78 rfl (lv_at hl 2 rfl) ?_
    refine lv_lload hx hb dX1_waysToEachSum_79 (lv_at hl 1 rfl) ?_
    refine lv_ldiv hx hb dX1_waysToEachSum_81 c1 ?_
    exact fl_lret X hr hlk hI dX1_waysToEachSum_82 ⟨by unfold x_ways; first | rw [if_pos c1] | rw [if_neg c1], rfl, rfl⟩
  · refine lv_lconst (v := 0) hx hb dX1_waysToEachSum_74 rfl ?_
    refine lv_goto (tgt := 82) hx hb dX1_waysToEachSum_75 (by decide) ?_
    exact fl_lret X hr hlk hI dX1_waysToEachSum_82 ⟨by unfold x_ways; first | rw [if_pos c1] | rw [if_neg c1], rfl, rfl⟩
