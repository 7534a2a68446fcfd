/-! the model: spread, check, invariant -/
def k_sp1 (n eq : Nat) (J : fl_TJ) (r : Nat) (dv : Int64) : Int64 := fl_it (fun j dv => cm64 dv (J 33 (8 * r + eq + j))) n 0 dv
def k_spr (n eq tp : Nat) (I : fl_TI) (J : fl_TJ) : Int64 := fl_it (k_sp1 n eq J) (tp - k_bef I eq tp 0) (k_bef I eq tp 0) 0
theorem lp_sp1 {p : Program} {l : Launch} {e : Env} {R : Room} {s : State} {m : MethodId} {args : Array Value} {below : List Frame} {meth : Method} {c : Code} {Q : State → Prop} {D : va_G} {dA : Nat → ClassId} {ad : Nat → Nat} {N : Nat} {A : Nat → Prop} {H0 : Heap} {I : fl_TI} {J : fl_TJ} {dv9 : Int64} (X : CallFix p m c cX2_spread 5 s args fl_tb RX2) {n eq r : Nat} (hN : 37 ≤ N) (hn : I 30 0 = nI n) (hn4 : n ≤ 4) (he : I 30 1 = nI eq) (he3 : eq ≤ 3) (hr8 : r < 8) (hR : 1 + 1 ≤ R.frames ∧ 8 + (10 + 11) + 40 * 1 ≤ R.locals)
    (kx : ∀ (H : Heap) (locs : List Loc) (ls : Array Slot), fl_I D dA ad N I J A s H0 H locs → lv_has ls 5 [(4, .int (nI n)), (3, .int (nI r)), (1, .long dv9), (0, .ref (ad 30))] → W p l e R s m args below meth c H locs 0 0 Q (F0 m 74 ls [])) :
    ∀ (k i : Nat) (dv : Int64) (H : Heap) (locs : List Loc) (ls : Array Slot), i + k = n → fl_I D dA ad N I J A s H0 H locs → lv_has ls 5 [(4, .int (nI i)), (3, .int (nI r)), (1, .long dv), (0, .ref (ad 30))] → fl_it (fun j dv => cm64 dv (J 33 (8 * r + eq + j))) k i dv = dv9 → W p l e R s m args below meth c H locs 0 0 Q (F0 m 37 ls []) := by
  have hx := X.1
  have hb := X.2.1
  intro k
  induction k with
  | zero =>
    intro i dv H locs ls hk hI hl hF
    have hF : dv = dv9 := hF
    subst hF
    have hk : n = i := by omega
    subst hk
    refine lv_iload hx hb dX2_spread_37 (lv_at hl 0 rfl) ?_
    refine lv_aload_n hx hb dX2_spread_39 rfl (lv_at hl 3 rfl) ?_
    refine fl_get2 X hI dX2_spread_40 (by omega) 0 (by decide) wf_X2_7 rfl ?_
    refine W.eq (g2 := F0 m 43 ls [.int (nI n), .int (nI n)]) (by rw [hn]) ?_
    refine fn_icmp_ge X (tgt := 74) dX2_spread_43 (by decide) (by omega) (by omega) (fun c1 => ?_) (fun c1 => absurd c1 (by omega))
    exact kx _ _ _ hI (lv_sub hl [0, 1, 2, 3] rfl)
  | succ k ih =>
    intro i dv H locs ls hk hI hl hF
    refine lv_iload hx hb dX2_spread_37 (lv_at hl 0 rfl) ?_
    refine lv_aload_n hx hb dX2_spread_39 rfl (lv_at hl 3 rfl) ?_
    refine fl_get2 X hI dX2_spread_40 (by omega) 0 (by decide) wf_X2_7 rfl ?_
    refine W.eq (g2 := F0 m 43 ls [.int (nI n), .int (nI i)]) (by rw [hn]) ?_
    refine fn_icmp_ge X (tgt := 74) dX2_spread_43 (by decide) (by omega) (by omega) (fun c1 => absurd c1 (by omega)) (fun c1 => ?_)
    refine lv_lload_n hx hb dX2_spread_46 rfl (lv_at hl 2 rfl) ?_
    refine lv_aload_n hx hb dX2_spread_47 rfl (lv_at hl 3 rfl) ?_
    refine fl_get2 X hI dX2_spread_48 (by omega) 4 (by decide) wf_X2_20 rfl ?_
    refine lv_bipush (v := nI 8) hx hb dX2_spread_51 (by decide) ?_
    refine lv_iload_n hx hb dX2_spread_53 rfl (lv_at hl 1 rfl) ?_
    refine fn_imul X dX2_spread_54 ?_
    refine lv_aload_n hx hb dX2_spread_55 rfl (lv_at hl 3 rfl) ?_
    refine fl_get2 X hI dX2_spread_56 (by omega) 1 (by decide) wf_X2_33 rfl ?_
    refine W.eq (g2 := F0 m 59 ls [.int (nI eq), .int (nI (8 * r)), .ref (ad 33), .long dv]) (by rw [he]) ?_
    refine fn_iadd X dX2_spread_59 ?_
    refine lv_iload hx hb dX2_spread_60 (lv_at hl 0 rfl) ?_
    refine fn_iadd X dX2_spread_62 ?_
    refine fn_lald (k := 33) X hI dX2_spread_63 (by omega) rfl (show ((8 * r) + eq) + i < 64 by omega) ?_
    refine fl_callS (As := [.long dv, .long (J 33 (((8 * r) + eq) + i))]) (rest := []) X hI dX2_spread_64 (m_X2_common D dA ad N I J dv (J 33 (((8 * r) + eq) + i))) wc_yX2_common wm_X2_107 ws_yX2_common wn_X2 hd_yX2_common rfl ⟨by first | decide | omega, by first | decide | omega⟩ hl.1 (Nat.le_of_ble_eq_true rfl) (fun v I2 J2 H locs hp hI => ?_)
    obtain ⟨hv, hI2, hJ2⟩ := hp
    subst hv
    rw [hI2, hJ2] at hI
    refine W.eq (g2 := F0 m 67 ls [.long (cm64 dv (J 33 (((8 * r) + eq) + i)))]) rfl ?_
    refine lv_lstore_n (lv' := [(1, .long (cm64 dv (J 33 (((8 * r) + eq) + i)))), (4, .int (nI i)), (3, .int (nI r)), (0, .ref (ad 30))]) hx hb dX2_spread_67 rfl hl (by decide) rfl (fun ls hl => ?_)
    refine fn_iinc (a := i) (lv' := [(4, .int (nI (i + 1))), (1, .long (cm64 dv (J 33 (((8 * r) + eq) + i)))), (3, .int (nI r)), (0, .ref (ad 30))]) X dX2_spread_68 hl (k := 1) rfl (by decide) rfl (fun ls hl => ?_)
    refine lv_goto (tgt := 37) hx hb dX2_spread_71 (by decide) ?_
    exact ih (i + 1) _ _ _ _ (by omega) hI (lv_sub hl [0, 2, 1, 3] rfl) hF
theorem lp_spk {p : Program} {l : Launch} {e : Env} {R : Room} {s : State} {m : MethodId} {args : Array Value} {below : List Frame} {meth : Method} {c : Code} {Q : State → Prop} {D : va_G} {dA : Nat → ClassId} {ad : Nat → Nat} {N : Nat} {A : Nat → Prop} {H0 : Heap} {I : fl_TI} {J : fl_TJ} {dv9 : Int64} (X : CallFix p m c cX2_spread 5 s args fl_tb RX2) {n eq tp : Nat} (hN : 37 ≤ N) (hn : I 30 0 = nI n) (hn4 : n ≤ 4) (he : I 30 1 = nI eq) (he3 : eq ≤ 3) (hrk : I 30 5 = nI tp) (htp : tp ≤ 4) (hR : 1 + 1 ≤ R.frames ∧ 8 + (10 + 11) + 40 * 1 ≤ R.locals)
    (kx : ∀ (H : Heap) (locs : List Loc) (ls : Array Slot), fl_I D dA ad N I J A s H0 H locs → lv_has ls 5 [(3, .int (nI tp)), (1, .long dv9), (0, .ref (ad 30))] → W p l e R s m args below meth c H locs 0 0 Q (F0 m 80 ls [])) :
    ∀ (k i : Nat) (dv : Int64) (H : Heap) (locs : List Loc) (ls : Array Slot), i + k = tp → fl_I D dA ad N I J A s H0 H locs → lv_has ls 5 [(3, .int (nI i)), (1, .long dv), (0, .ref (ad 30))] → fl_it (k_sp1 n eq J) k i dv = dv9 → W p l e R s m args below meth c H locs 0 0 Q (F0 m 26 ls []) := by
  have hx := X.1
  have hb := X.2.1
  intro k
  induction k with
  | zero =>
    intro i dv H locs ls hk hI hl hF
    have hF : dv = dv9 := hF
    subst hF
    have hk : tp = i := by omega
    subst hk
    refine lv_iload_n hx hb dX2_spread_26 rfl (lv_at hl 0 rfl) ?_
    refine lv_aload_n hx hb dX2_spread_27 rfl (lv_at hl 2 rfl) ?_
    refine fl_get2 X hI dX2_spread_28 (by omega) 5 (by decide) wf_X2_66 rfl ?_
    refine W.eq (g2 := F0 m 31 ls [.int (nI tp), .int (nI tp)]) (by rw [hrk]) ?_
    refine fn_icmp_ge X (tgt := 80) dX2_spread_31 (by decide) (by omega) (by omega) (fun c1 => ?_) (fun c1 => absurd c1 (by omega))
    exact kx _ _ _ hI (lv_sub hl [0, 1, 2] rfl)
  | succ k ih =>
    intro i dv H locs ls hk hI hl hF
    refine lv_iload_n hx hb dX2_spread_26 rfl (lv_at hl 0 rfl) ?_
    refine lv_aload_n hx hb dX2_spread_27 rfl (lv_at hl 2 rfl) ?_
    refine fl_get2 X hI dX2_spread_28 (by omega) 5 (by decide) wf_X2_66 rfl ?_
    refine W.eq (g2 := F0 m 31 ls [.int (nI tp), .int (nI i)]) (by rw [hrk]) ?_
    refine fn_icmp_ge X (tgt := 80) dX2_spread_31 (by decide) (by omega) (by omega) (fun c1 => absurd c1 (by omega)) (fun c1 => ?_)
    refine lv_iconst (v := nI 0) hx hb dX2_spread_34 (by decide) ?_
    refine lv_istore (lv' := [(4, .int (nI 0)), (3, .int (nI i)), (1, .long dv), (0, .ref (ad 30))]) hx hb dX2_spread_35 hl (by decide) rfl (fun ls hl => ?_)
    refine lp_sp1 X hN hn hn4 he he3 (r := i) (by omega) hR (dv9 := k_sp1 n eq J i dv) (fun H locs ls hI hl => ?_) n 0 _ _ _ _ (Nat.zero_add _) hI (lv_sub hl [0, 1, 2, 3] rfl) rfl
    refine fn_iinc (a := i) (lv' := [(3, .int (nI (i + 1))), (4, .int (nI n)), (1, .long (k_sp1 n eq J i dv)), (0, .ref (ad 30))]) X dX2_spread_74 hl (k := 1) rfl (by decide) rfl (fun ls hl => ?_)
    refine lv_goto (tgt := 26) hx hb dX2_spread_77 (by decide) ?_
    exact ih (i + 1) _ _ _ _ (by omega) hI (lv_sub hl [0, 2, 3] rfl) hF
theorem m_X2_spread_none (D : va_G) (dA : Nat → ClassId) (ad : Nat → Nat) (N : Nat) (I : fl_TI) (J : fl_TJ) {fu n eq tp : Nat} {Ir : fl_TI} {Jr : fl_TJ} (hN : 37 ≤ N) (hn : I 30 0 = nI n) (hn4 : n ≤ 4) (he : I 30 1 = nI eq) (he3 : eq ≤ 3) (hk : k_R fu n eq I J Ir Jr tp) (h0 : (k_goes n eq tp Ir Jr).1 = 0) : FM yX2_spread cX2_spread 5 (some .long) 5 D dA ad N [.ref (ad 30)] I J (fun v I' J' => v = some (.long (-1)) ∧ I' = Ir ∧ J' = (k_goes n eq tp Ir Jr).2) := by
  refine FM.ofW RX2 rfl (by decide +kernel) (Nat.le_of_ble_eq_true rfl) ?_
  intro p l e s m args below meth c ls X hr hlk hI hl
  have hx := X.1
  have hb := X.2.1
  have hl : lv_has ls 5 [(0, .ref (ad 30))] := hl
  obtain ⟨k1, k2, k3, k4⟩ := k_R_facts (by omega) hk
  have k5 := hk.choose_spec.2.2
  have kn : Ir 30 0 = nI n := by rw [k4 30 0 (by omega) (by omega)]; exact hn
  have ke : Ir 30 1 = nI eq := by rw [k4 30 1 (by omega) (by omega)]; exact he
  have kl : ∀ i, i < tp → Ir 34 i = nI (ldI Ir 34 i) ∧ ldI Ir 34 i < 8 := fun i hi => ⟨(k3 i hi).1, by have := (k3 i hi).2; omega⟩
  obtain ⟨b1, b2, b3⟩ := k_bef_le Ir eq tp 0
  refine lv_aload_n hx hb dX2_spread_0 rfl (lv_at hl 0 rfl) ?_
  refine lv_aload_n hx hb dX2_spread_1 rfl (lv_at hl 0 rfl) ?_
  refine fl_get2 X hI dX2_spread_2 (by omega) 1 (by decide) wf_X2_33 rfl ?_
  refine W.eq (g2 := F0 m 5 ls [.int (nI eq), .ref (ad 30)]) (by rw [he]) ?_
  refine fl_callV (k := 30) (As := [.int (nI eq)]) (rest := []) X hI dX2_spread_5 (m_X2_goes D dA ad N I J hN hn hn4 he3 hk) (by omega) fl_c_6 rfl rfl wc_yX2_goes wm_X2_83 wi_yX2_goes wl_yX2_goes wn_X2 hd_yX2_goes rfl ⟨by first | decide | omega, by first | decide | omega⟩ hl.1 (Nat.le_of_ble_eq_true rfl) (fun v I2 J2 H locs hp hI => ?_)
  obtain ⟨hv, hI2, hJ2⟩ := hp
  subst hv
  rw [hI2, hJ2] at hI
  refine W.eq (g2 := F0 m 8 ls [.int (nI ((k_goes n eq tp Ir Jr).1))]) rfl ?_
  refine fn_if_ne X (tgt := 15) dX2_spread_8 (by decide) (by omega) (fun c1 => absurd c1 (by omega)) (fun c1 => ?_)
  refine W.ldc2 (v := (-1)) hx hb X.2.2.2.1 (X.2.2.2.2 _ wk_X2_122) rfl dX2_spread_11 ?_
  refine W.eq (g2 := F0 m 14 ls [.long ((-1))]) rfl ?_
  exact fl_lret X hr hlk hI dX2_spread_14 ⟨rfl, rfl, rfl⟩
theorem m_X2_spread (D : va_G) (dA : Nat → ClassId) (ad : Nat → Nat) (N : Nat) (I : fl_TI) (J : fl_TJ) {fu n eq tp : Nat} {Ir : fl_TI} {Jr : fl_TJ} (hN : 37 ≤ N) (hn : I 30 0 = nI n) (hn4 : n ≤ 4) (he : I 30 1 = nI eq) (he3 : eq ≤ 3) (hk : k_R fu n eq I J Ir Jr tp) (h0 : ¬ (k_goes n eq tp Ir Jr).1 = 0) : FM yX2_spread cX2_spread 5 (some .long) 5 D dA ad N [.ref (ad 30)] I J (fun v I' J' => v = some (.long (k_spr n eq tp Ir (k_goes n eq tp Ir Jr).2)) ∧ I' = Ir ∧ J' = (k_goes n eq tp Ir Jr).2) := by
  refine FM.ofW RX2 rfl (by decide +kernel) (Nat.le_of_ble_eq_true rfl) ?_
  intro p l e s m args below meth c ls X hr hlk hI hl
  have hx := X.1
  have hb := X.2.1
  have hl : lv_has ls 5 [(0, .ref (ad 30))] := hl
  obtain ⟨k1, k2, k3, k4⟩ := k_R_facts (by omega) hk
  have k5 := hk.choose_spec.2.2
  have kn : Ir 30 0 = nI n := by rw [k4 30 0 (by omega) (by omega)]; exact hn
  have ke : Ir 30 1 = nI eq := by rw [k4 30 1 (by omega) (by omega)]; exact he
  have kl : ∀ i, i < tp → Ir 34 i = nI (ldI Ir 34 i) ∧ ldI Ir 34 i < 8 := fun i hi => ⟨(k3 i hi).1, by have := (k3 i hi).2; omega⟩
  obtain ⟨b1, b2, b3⟩ := k_bef_le Ir eq tp 0
  have kg : (k_goes n eq tp Ir Jr).1 ≤ 1 := k_com_le
  refine lv_aload_n hx hb dX2_spread_0 rfl (lv_at hl 0 rfl) ?_
  refine lv_aload_n hx hb dX2_spread_1 rfl (lv_at hl 0 rfl) ?_
  refine fl_get2 X hI dX2_spread_2 (by omega) 1 (by decide) wf_X2_33 rfl ?_
  refine W.eq (g2 := F0 m 5 ls [.int (nI eq), .ref (ad 30)]) (by rw [he]) ?_
  refine fl_callV (k := 30) (As := [.int (nI eq)]) (rest := []) X hI dX2_spread_5 (m_X2_goes D dA ad N I J hN hn hn4 he3 hk) (by omega) fl_c_6 rfl rfl wc_yX2_goes wm_X2_83 wi_yX2_goes wl_yX2_goes wn_X2 hd_yX2_goes rfl ⟨by first | decide | omega, by first | decide | omega⟩ hl.1 (Nat.le_of_ble_eq_true rfl) (fun v I2 J2 H locs hp hI => ?_)
  obtain ⟨hv, hI2, hJ2⟩ := hp
  subst hv
  rw [hI2, hJ2] at hI
  refine W.eq (g2 := F0 m 8 ls [.int (nI ((k_goes n eq tp Ir Jr).1))]) rfl ?_
  refine fn_if_ne X (tgt := 15) dX2_spread_8 (by decide) (by omega) (fun c1 => ?_) (fun c1 => absurd c1 (by omega))
  refine lv_lconst (v := 0) hx hb dX2_spread_15 rfl ?_
  refine lv_lstore_n (lv' := [(1, .long 0), (0, .ref (ad 30))]) hx hb dX2_spread_16 rfl hl (by decide) rfl (fun ls hl => ?_)
  refine lv_aload_n hx hb dX2_spread_17 rfl (lv_at hl 1 rfl) ?_
  refine lv_aload_n hx hb dX2_spread_18 rfl (lv_at hl 1 rfl) ?_
  refine fl_get2 X hI dX2_spread_19 (by omega) 1 (by decide) wf_X2_33 rfl ?_
  refine W.eq (g2 := F0 m 22 ls [.int (nI eq), .ref (ad 30)]) (by rw [ke]) ?_
  refine fl_callV (k := 30) (As := [.int (nI eq)]) (rest := []) X hI dX2_spread_22 (m_X2_before D dA ad N Ir ((k_goes n eq tp Ir Jr).2) hN k2 (by omega) (by omega) kl) (by omega) fl_c_6 rfl rfl wc_yX2_before wm_X2_72 wi_yX2_before wl_yX2_before wn_X2 hd_yX2_before rfl ⟨by first | decide | omega, by first | decide | omega⟩ hl.1 (Nat.le_of_ble_eq_true rfl) (fun v I2 J2 H locs hp hI => ?_)
  obtain ⟨hv, hI2, hJ2⟩ := hp
  subst hv
  rw [hI2, hJ2] at hI
  refine W.eq (g2 := F0 m 25 ls [.int (nI (k_bef Ir eq tp 0))]) rfl ?_
  refine lv_istore_n (lv' := [(3, .int (nI (k_bef Ir eq tp 0))), (1, .long 0), (0, .ref (ad 30))]) hx hb dX2_spread_25 rfl hl (by decide) rfl (fun ls hl => ?_)
  refine lp_spk (I := Ir) X hN kn hn4 ke he3 k2 (by omega) ⟨by decide, by decide⟩ (dv9 := k_spr n eq tp Ir (k_goes n eq tp Ir Jr).2) (fun H locs ls hI hl => ?_) (tp - k_bef Ir eq tp 0) (k_bef Ir eq tp 0) _ _ _ _ (by omega) hI (lv_sub hl [0, 1, 2] rfl) rfl
  refine lv_lload_n hx hb dX2_spread_80 rfl (lv_at hl 1 rfl) ?_
  exact fl_lret X hr hlk hI dX2_spread_81 ⟨rfl, rfl, rfl⟩
theorem m_X2_check (D : va_G) (dA : Nat → ClassId) (ad : Nat → Nat) (N : Nat) (I : fl_TI) (J : fl_TJ) (hN : 37 ≤ N) : FM yX2_check cX2_check 1 (some .int) 0 D dA ad N [.ref (ad 30)] I J (fun v I' J' => v = some (.int (nI 1)) ∧ I' = I ∧ J' = J) := by
  refine FM.ofW RX2 rfl (by decide +kernel) (Nat.le_of_ble_eq_true rfl) ?_
  intro p l e s m args below meth c ls X hr hlk hI hl
  have hx := X.1
  have hb := X.2.1
  have hl : lv_has ls 1 [(0, .ref (ad 30))] := hl
  refine lv_iconst (v := nI 1) hx hb dX2_check_0 (by decide) ?_
  exact fl_iret X hr hlk hI dX2_check_1 ⟨rfl, rfl, rfl⟩
theorem m_X2_ones (D : va_G) (dA : Nat → ClassId) (ad : Nat → Nat) (N : Nat) (I : fl_TI) (J : fl_TJ) {k : Nat} (hk : k < 16) : FM yX2_ones cX2_ones 1 (some .int) 0 D dA ad N [.int (nI k)] I J (fun v I' J' => v = some (.int (nI (pop4 k))) ∧ I' = I ∧ J' = J) := by
  refine FM.ofW RX2 rfl (by decide +kernel) (Nat.le_of_ble_eq_true rfl) ?_
  intro p l e s m args below meth c ls X hr hlk hI hl
  have hx := X.1
  have hb := X.2.1
  have hl : lv_has ls 1 [(0, .int (nI k))] := hl
  refine lv_iload_n hx hb dX2_ones_0 rfl (lv_at hl 0 rfl) ?_
  refine lv_iconst (v := nI 1) hx hb dX2_ones_1 (by decide) ?_
  refine lv_iand hx hb dX2_ones_2 ?_
  refine lv_iload_n hx hb dX2_ones_3 rfl (lv_at hl 0 rfl) ?_
  refine lv_iconst (v := nI 1) hx hb dX2_ones_4 (by decide) ?_
  refine lv_ishr hx hb dX2_ones_5 ?_
  refine lv_iconst (v := nI 1) hx hb dX2_ones_6 (by decide) ?_
  refine lv_iand hx hb dX2_ones_7 ?_
  refine lv_iadd hx hb dX2_ones_8 ?_
  refine lv_iload_n hx hb dX2_ones_9 rfl (lv_at hl 0 rfl) ?_
  refine lv_iconst (v := nI 2) hx hb dX2_ones_10 (by decide) ?_
  refine lv_ishr hx hb dX2_ones_11 ?_
  refine lv_iconst (v := nI 1) hx hb dX2_ones_12 (by decide) ?_
  refine lv_iand hx hb dX2_ones_13 ?_
  refine lv_iadd hx hb dX2_ones_14 ?_
  refine lv_iload_n hx hb dX2_ones_15 rfl (lv_at hl 0 rfl) ?_
  refine lv_iconst (v := nI 3) hx hb dX2_ones_16 (by decide) ?_
  refine lv_ishr hx hb dX2_ones_17 ?_
  refine lv_iconst (v := nI 1) hx hb dX2_ones_18 (by decide) ?_
  refine lv_iand hx hb dX2_ones_19 ?_
  refine lv_iadd hx hb dX2_ones_20 ?_
  exact fl_iret X hr hlk hI dX2_ones_21 ⟨by have h9 := (by decide +kernel : ∀ k, k < 16 → (((((nI k) &&& (nI 1)) + (((nI k) >>> ((nI 1) &&& 31)) &&& (nI 1))) + (((nI k) >>> ((nI 2) &&& 31)) &&& (nI 1))) + (((nI k) >>> ((nI 3) &&& 31)) &&& (nI 1)) : Int32) = nI (pop4 k)) k hk; exact congrArg (fun z => some (Value.int z)) h9, rfl, rfl⟩
def k_pl (u : Nat) : Nat → Nat → Nat → Option Nat
  | 0, _, _ => none
  | f + 1, a, lf => if u / 2 ^ a % 2 = 0 then k_pl u f (a + 1) lf else if 0 < lf then k_pl u f (a + 1) (lf - 1) else some a
def kpl (u k : Nat) : Nat := (k_pl u 4 0 k).getD 0
theorem pl_ok {u k : Nat} (hu : u < 16) (hk : k < pop4 u) : k_pl u 4 0 k = some (kpl u k) ∧ kpl u k < 4 ∧ (u < 8 → kpl u k < 3) := by
  have h4 : k < 4 := by have := pop_le u; omega
  exact (by decide +kernel : ∀ u, u < 16 → ∀ k, k < 4 → k < pop4 u → k_pl u 4 0 k = some (kpl u k) ∧ kpl u k < 4 ∧ (u < 8 → kpl u k < 3)) u hu k h4 hk
theorem nI_pos0 {a : Nat} (h : a < 2 ^ 31) : 0 < nI a ↔ 0 < a := by
  have := nI_ltI (a := 0) (b := a) (by decide) h
  exact this
theorem lp_pl {p : Program} {l : Launch} {e : Env} {R : Room} {s : State} {m : MethodId} {args : Array Value} {below : List Frame} {meth : Method} {c : Code} {D : va_G} {dA : Nat → ClassId} {ad : Nat → Nat} {N : Nat} {A : Nat → Prop} {I : fl_TI} {J : fl_TJ} {post : Option Value → fl_TI → fl_TJ → Prop} {u k0 r : Nat} (X : CallFix p m c cX2_place 4 s args fl_tb RX2) (hr : meth.sig.returnType = some .int) (hlk : meth.locks = false) (hu : u < 16) (hp : post (some (.int (nI r))) I J) :
    ∀ (f a lf : Nat) (H : Heap) (locs : List Loc) (ls : Array Slot), a + f ≤ 8 → lf ≤ 8 → fl_I D dA ad N I J A s s.heap H locs → lv_has ls 4 [(3, .int (nI lf)), (2, .int (nI a)), (0, .int (nI u)), (1, .int (nI k0))] → k_pl u f a lf = some r → W p l e R s m args below meth c H locs 0 0 (MQ below (fl_Q D dA ad N post A) args s 0 0 A) (F0 m 4 ls []) := by
  have hx := X.1
  have hb := X.2.1
  intro f
  induction f with
  | zero =>
    intro a lf H locs ls ha hlf hI hl hF
    cases hF
  | succ f ih =>
    intro a lf H locs ls ha hlf hI hl hF
    simp only [k_pl] at hF
    refine lv_iload_n hx hb dX2_place_4 rfl (lv_at hl 2 rfl) ?_
    refine lv_iload_n hx hb dX2_place_5 rfl (lv_at hl 1 rfl) ?_
    refine lv_ishr hx hb dX2_place_6 ?_
    refine lv_iconst (v := nI 1) hx hb dX2_place_7 (by decide) ?_
    refine lv_iand hx hb dX2_place_8 ?_
    refine W.eq (g2 := F0 m 9 ls [.int (nI (u / 2 ^ a % 2))]) (by rw [bit_ok hu (by omega)]) ?_
    refine fn_if_eq X (tgt := 16) dX2_place_9 (by decide) (by omega) (fun c1 => ?_) (fun c1 => ?_)
    · refine lv_iload_n hx hb dX2_place_16 rfl (lv_at hl 0 rfl) ?_
      refine lv_iload_n hx hb dX2_place_17 rfl (lv_at hl 2 rfl) ?_
      refine lv_iload_n hx hb dX2_place_18 rfl (lv_at hl 1 rfl) ?_
      refine lv_ishr hx hb dX2_place_19 ?_
      refine lv_iconst (v := nI 1) hx hb dX2_place_20 (by decide) ?_
      refine lv_iand hx hb dX2_place_21 ?_
      refine W.eq (g2 := F0 m 22 ls [.int (nI (u / 2 ^ a % 2)), .int (nI lf)]) (by rw [bit_ok hu (by omega)]) ?_
      refine fn_isub X dX2_place_22 (by omega) ?_
      refine lv_istore_n (lv' := [(3, .int (nI (lf - (u / 2 ^ a % 2)))), (2, .int (nI a)), (0, .int (nI u)), (1, .int (nI k0))]) hx hb dX2_place_23 rfl hl (by decide) rfl (fun ls hl => ?_)
      refine fn_iinc (a := a) (lv' := [(2, .int (nI (a + 1))), (3, .int (nI (lf - (u / 2 ^ a % 2)))), (0, .int (nI u)), (1, .int (nI k0))]) X dX2_place_24 hl (k := 1) rfl (by decide) rfl (fun ls hl => ?_)
      refine lv_goto (tgt := 4) hx hb dX2_place_27 (by decide) ?_
      rw [if_pos c1] at hF
      exact ih (a + 1) (lf - u / 2 ^ a % 2) _ _ _ (by omega) (by omega) hI (lv_sub hl [1, 0, 2, 3] rfl) (by rw [c1]; exact hF)
    · refine lv_iload_n hx hb dX2_place_12 rfl (lv_at hl 0 rfl) ?_
      refine lv_if_le (tgt := 30) hx hb dX2_place_13 (by decide) (fun c2 => ?_) (fun c2 => ?_)
      · refine lv_iload_n hx hb dX2_place_30 rfl (lv_at hl 1 rfl) ?_
        exact fl_iret X hr hlk hI dX2_place_31 (by rw [if_neg (by omega), if_neg (fun q => (fl_i1 _).mp c2 ((nI_pos0 (by omega)).mpr q))] at hF; cases hF; exact hp)
      · refine lv_iload_n hx hb dX2_place_16 rfl (lv_at hl 0 rfl) ?_
        refine lv_iload_n hx hb dX2_place_17 rfl (lv_at hl 2 rfl) ?_
        refine lv_iload_n hx hb dX2_place_18 rfl (lv_at hl 1 rfl) ?_
        refine lv_ishr hx hb dX2_place_19 ?_
        refine lv_iconst (v := nI 1) hx hb dX2_place_20 (by decide) ?_
        refine lv_iand hx hb dX2_place_21 ?_
        refine W.eq (g2 := F0 m 22 ls [.int (nI (u / 2 ^ a % 2)), .int (nI lf)]) (by rw [bit_ok hu (by omega)]) ?_
        have h1c : 0 < lf := (nI_pos0 (by omega)).mp (by rw [fl_i1] at c2; exact Classical.not_not.mp c2)
        refine fn_isub X dX2_place_22 (by omega) ?_
        refine lv_istore_n (lv' := [(3, .int (nI (lf - (u / 2 ^ a % 2)))), (2, .int (nI a)), (0, .int (nI u)), (1, .int (nI k0))]) hx hb dX2_place_23 rfl hl (by decide) rfl (fun ls hl => ?_)
        refine fn_iinc (a := a) (lv' := [(2, .int (nI (a + 1))), (3, .int (nI (lf - (u / 2 ^ a % 2)))), (0, .int (nI u)), (1, .int (nI k0))]) X dX2_place_24 hl (k := 1) rfl (by decide) rfl (fun ls hl => ?_)
        refine lv_goto (tgt := 4) hx hb dX2_place_27 (by decide) ?_
        have h1b : u / 2 ^ a % 2 = 1 := by omega
        rw [if_neg (by omega), if_pos ((nI_pos0 (by omega)).mp (by rw [fl_i1] at c2; exact Classical.not_not.mp c2))] at hF
        exact ih (a + 1) (lf - u / 2 ^ a % 2) _ _ _ (by omega) (by omega) hI (lv_sub hl [1, 0, 2, 3] rfl) (by rw [h1b]; exact hF)
theorem m_X2_place (D : va_G) (dA : Nat → ClassId) (ad : Nat → Nat) (N : Nat) (I : fl_TI) (J : fl_TJ) {u k0 r : Nat} (hu : u < 16) (hk : k0 ≤ 8) (hF : k_pl u 4 0 k0 = some r) : FM yX2_place cX2_place 4 (some .int) 0 D dA ad N [.int (nI u), .int (nI k0)] I J (fun v I' J' => v = some (.int (nI r)) ∧ I' = I ∧ J' = J) := by
  refine FM.ofW RX2 rfl (by decide +kernel) (Nat.le_of_ble_eq_true rfl) ?_
  intro p l e s m args below meth c ls X hr hlk hI hl
  have hx := X.1
  have hb := X.2.1
  have hl : lv_has ls 4 [(0, .int (nI u)), (1, .int (nI k0))] := hl
  refine lv_iconst (v := nI 0) hx hb dX2_place_0 (by decide) ?_
  refine lv_istore_n (lv' := [(2, .int (nI 0)), (0, .int (nI u)), (1, .int (nI k0))]) hx hb dX2_place_1 rfl hl (by decide) rfl (fun ls hl => ?_)
  refine lv_iload_n hx hb dX2_place_2 rfl (lv_at hl 2 rfl) ?_
  refine lv_istore_n (lv' := [(3, .int (nI k0)), (2, .int (nI 0)), (0, .int (nI u)), (1, .int (nI k0))]) hx hb dX2_place_3 rfl hl (by decide) rfl (fun ls hl => ?_)
  exact lp_pl X hr hlk hu ⟨rfl, rfl, rfl⟩ 4 0 k0 _ _ _ (by omega) (by omega) hI (lv_sub hl [0, 1, 2, 3] rfl) hF
def k_two (I : fl_TI) (a b q z : Nat) : Int64 := (I 31 (4 * a + q)).toInt64 * (I 31 (4 * b + z)).toInt64 - (I 31 (4 * a + z)).toInt64 * (I 31 (4 * b + q)).toInt64
def k_det (I : fl_TI) (u w k : Nat) : Int64 := if k = 1 then (I 31 (4 * kpl u 0 + kpl w 0)).toInt64 else if k = 2 then k_two I (kpl u 0) (kpl u 1) (kpl w 0) (kpl w 1)
  else (I 31 (4 * kpl u 0 + kpl w 0)).toInt64 * k_two I (kpl u 1) (kpl u 2) (kpl w 1) (kpl w 2) - (I 31 (4 * kpl u 0 + kpl w 1)).toInt64 * k_two I (kpl u 1) (kpl u 2) (kpl w 0) (kpl w 2) + (I 31 (4 * kpl u 0 + kpl w 2)).toInt64 * k_two I (kpl u 1) (kpl u 2) (kpl w 0) (kpl w 1)
theorem m_X2_two (D : va_G) (dA : Nat → ClassId) (ad : Nat → Nat) (N : Nat) (I : fl_TI) (J : fl_TJ) (hN : 37 ≤ N) {a b q z : Nat} (ha : a < 3) (hb2 : b < 3) (hq : q < 4) (hz : z < 4) : FM yX2_two cX2_two 5 (some .long) 0 D dA ad N [.ref (ad 30), .int (nI a), .int (nI b), .int (nI q), .int (nI z)] I J (fun v I' J' => v = some (.long (k_two I a b q z)) ∧ I' = I ∧ J' = J) := by
  refine FM.ofW RX2 rfl (by decide +kernel) (Nat.le_of_ble_eq_true rfl) ?_
  intro p l e s m args below meth c ls X hr hlk hI hl
  have hx := X.1
  have hb := X.2.1
  have hl : lv_has ls 5 [(0, .ref (ad 30)), (1, .int (nI a)), (2, .int (nI b)), (3, .int (nI q)), (4, .int (nI z))] := hl
  refine lv_aload_n hx hb dX2_two_0 rfl (lv_at hl 0 rfl) ?_
  refine fl_get2 X hI dX2_two_1 (by omega) 2 (by decide) wf_X2_13 rfl ?_
  refine lv_iconst (v := nI 4) hx hb dX2_two_4 (by decide) ?_
  refine lv_iload_n hx hb dX2_two_5 rfl (lv_at hl 1 rfl) ?_
  refine fn_imul X dX2_two_6 ?_
  refine lv_iload_n hx hb dX2_two_7 rfl (lv_at hl 3 rfl) ?_
  refine fn_iadd X dX2_two_8 ?_
  refine fn_iald (k := 31) X hI dX2_two_9 (by omega) rfl (show (4 * a) + q < 12 by omega) ?_
  refine lv_i2l hx hb dX2_two_10 rfl ?_
  refine lv_aload_n hx hb dX2_two_11 rfl (lv_at hl 0 rfl) ?_
  refine fl_get2 X hI dX2_two_12 (by omega) 2 (by decide) wf_X2_13 rfl ?_
  refine lv_iconst (v := nI 4) hx hb dX2_two_15 (by decide) ?_
  refine lv_iload_n hx hb dX2_two_16 rfl (lv_at hl 2 rfl) ?_
  refine fn_imul X dX2_two_17 ?_
  refine lv_iload hx hb dX2_two_18 (lv_at hl 4 rfl) ?_
  refine fn_iadd X dX2_two_20 ?_
  refine fn_iald (k := 31) X hI dX2_two_21 (by omega) rfl (show (4 * b) + z < 12 by omega) ?_
  refine lv_i2l hx hb dX2_two_22 rfl ?_
  refine lv_lmul hx hb dX2_two_23 ?_
  refine lv_aload_n hx hb dX2_two_24 rfl (lv_at hl 0 rfl) ?_
  refine fl_get2 X hI dX2_two_25 (by omega) 2 (by decide) wf_X2_13 rfl ?_
  refine lv_iconst (v := nI 4) hx hb dX2_two_28 (by decide) ?_
  refine lv_iload_n hx hb dX2_two_29 rfl (lv_at hl 1 rfl) ?_
  refine fn_imul X dX2_two_30 ?_
  refine lv_iload hx hb dX2_two_31 (lv_at hl 4 rfl) ?_
  refine fn_iadd X dX2_two_33 ?_
  refine fn_iald (k := 31) X hI dX2_two_34 (by omega) rfl (show (4 * a) + z < 12 by omega) ?_
  refine lv_i2l hx hb dX2_two_35 rfl ?_
  refine lv_aload_n hx hb dX2_two_36 rfl (lv_at hl 0 rfl) ?_
  refine fl_get2 X hI dX2_two_37 (by omega) 2 (by decide) wf_X2_13 rfl ?_
  refine lv_iconst (v := nI 4) hx hb dX2_two_40 (by decide) ?_
  refine lv_iload_n hx hb dX2_two_41 rfl (lv_at hl 2 rfl) ?_
  refine fn_imul X dX2_two_42 ?_
  refine lv_iload_n hx hb dX2_two_43 rfl (lv_at hl 3 rfl) ?_
  refine fn_iadd X dX2_two_44 ?_
  refine fn_iald (k := 31) X hI dX2_two_45 (by omega) rfl (show (4 * b) + q < 12 by omega) ?_
  refine lv_i2l hx hb dX2_two_46 rfl ?_
  refine lv_lmul hx hb dX2_two_47 ?_
  refine lv_lsub hx hb dX2_two_48 ?_
  exact fl_lret X hr hlk hI dX2_two_49 ⟨rfl, rfl, rfl⟩
theorem m_X2_det1 (D : va_G) (dA : Nat → ClassId) (ad : Nat → Nat) (N : Nat) (I : fl_TI) (J : fl_TJ) (hN : 37 ≤ N) {u w : Nat} (hu : u < 8) (hw : w < 16) (hpu : pop4 u = 1) (hpw : pop4 w = 1) : FM yX2_determinant cX2_determinant 10 (some .long) 1 D dA ad N [.ref (ad 30), .int (nI u), .int (nI w), .int (nI 1)] I J (fun v I' J' => v = some (.long (k_det I u w 1)) ∧ I' = I ∧ J' = J) := by
  refine FM.ofW RX2 rfl (by decide +kernel) (Nat.le_of_ble_eq_true rfl) ?_
  intro p l e s m args below meth c ls X hr hlk hI hl
  have hx := X.1
  have hb := X.2.1
  have hl : lv_has ls 10 [(0, .ref (ad 30)), (1, .int (nI u)), (2, .int (nI w)), (3, .int (nI 1))] := hl
  have p0 := pl_ok (u := u) (k := 0) (by omega) (by omega)
  have q0 := pl_ok (u := w) (k := 0) hw (by omega)
  have r0 := p0.2.2 hu
  refine lv_iload_n hx hb dX2_determinant_0 rfl (lv_at hl 1 rfl) ?_
  refine lv_iconst (v := nI 0) hx hb dX2_determinant_1 (by decide) ?_
  refine fl_callS (As := [.int (nI u), .int (nI 0)]) (rest := []) X hI dX2_determinant_2 (m_X2_place D dA ad N I J (by omega : u < 16) (by omega) (pl_ok (by omega : u < 16) (by omega)).1) wc_yX2_place wm_X2_92 ws_yX2_place wn_X2 hd_yX2_place rfl ⟨by first | decide | omega, by first | decide | omega⟩ hl.1 (Nat.le_of_ble_eq_true rfl) (fun v I2 J2 H locs hp hI => ?_)
  obtain ⟨hv, hI2, hJ2⟩ := hp
  subst hv
  rw [hI2, hJ2] at hI
  refine W.eq (g2 := F0 m 5 ls [.int (nI (kpl u 0))]) rfl ?_
  refine lv_istore (lv' := [(4, .int (nI (kpl u 0))), (0, .ref (ad 30)), (1, .int (nI u)), (2, .int (nI w)), (3, .int (nI 1))]) hx hb dX2_determinant_5 hl (by decide) rfl (fun ls hl => ?_)
  refine lv_iload_n hx hb dX2_determinant_7 rfl (lv_at hl 3 rfl) ?_
  refine lv_iconst (v := nI 0) hx hb dX2_determinant_8 (by decide) ?_
  refine fl_callS (As := [.int (nI w), .int (nI 0)]) (rest := []) X hI dX2_determinant_9 (m_X2_place D dA ad N I J hw (by omega) (pl_ok hw (by omega)).1) wc_yX2_place wm_X2_92 ws_yX2_place wn_X2 hd_yX2_place rfl ⟨by first | decide | omega, by first | decide | omega⟩ hl.1 (Nat.le_of_ble_eq_true rfl) (fun v I2 J2 H locs hp hI => ?_)
  obtain ⟨hv, hI2, hJ2⟩ := hp
  subst hv
  rw [hI2, hJ2] at hI
  refine W.eq (g2 := F0 m 12 ls [.int (nI (kpl w 0))]) rfl ?_
  refine lv_istore (lv' := [(5, .int (nI (kpl w 0))), (4, .int (nI (kpl u 0))), (0, .ref (ad 30)), (1, .int (nI u)), (2, .int (nI w)), (3, .int (nI 1))]) hx hb dX2_determinant_12 hl (by decide) rfl (fun ls hl => ?_)
  refine lv_iload_n hx hb dX2_determinant_14 rfl (lv_at hl 5 rfl) ?_
  refine lv_iconst (v := nI 1) hx hb dX2_determinant_15 (by decide) ?_
  refine fn_icmp_ne X (tgt := 33) dX2_determinant_16 (by decide) (by omega) (by omega) (fun c1 => absurd c1 (by omega)) (fun c1 => ?_)
  refine lv_aload_n hx hb dX2_determinant_19 rfl (lv_at hl 2 rfl) ?_
  refine fl_get2 X hI dX2_determinant_20 (by omega) 2 (by decide) wf_X2_13 rfl ?_
  refine lv_iconst (v := nI 4) hx hb dX2_determinant_23 (by decide) ?_
  refine lv_iload hx hb dX2_determinant_24 (lv_at hl 1 rfl) ?_
  refine fn_imul X dX2_determinant_26 ?_
  refine lv_iload hx hb dX2_determinant_27 (lv_at hl 0 rfl) ?_
  refine fn_iadd X dX2_determinant_29 ?_
  refine fn_iald (k := 31) X hI dX2_determinant_30 (by omega) rfl (show (4 * (kpl u 0)) + (kpl w 0) < 12 by omega) ?_
  refine lv_i2l hx hb dX2_determinant_31 rfl ?_
  exact fl_lret X hr hlk hI dX2_determinant_32 ⟨rfl, rfl, rfl⟩
theorem m_X2_det2 (D : va_G) (dA : Nat → ClassId) (ad : Nat → Nat) (N : Nat) (I : fl_TI) (J : fl_TJ) (hN : 37 ≤ N) {u w : Nat} (hu : u < 8) (hw : w < 16) (hpu : pop4 u = 2) (hpw : pop4 w = 2) : FM yX2_determinant cX2_determinant 10 (some .long) 1 D dA ad N [.ref (ad 30), .int (nI u), .int (nI w), .int (nI 2)] I J (fun v I' J' => v = some (.long (k_det I u w 2)) ∧ I' = I ∧ J' = J) := by
  refine FM.ofW RX2 rfl (by decide +kernel) (Nat.le_of_ble_eq_true rfl) ?_
  intro p l e s m args below meth c ls X hr hlk hI hl
  have hx := X.1
  have hb := X.2.1
  have hl : lv_has ls 10 [(0, .ref (ad 30)), (1, .int (nI u)), (2, .int (nI w)), (3, .int (nI 2))] := hl
  have p0 := pl_ok (u := u) (k := 0) (by omega) (by omega)
  have q0 := pl_ok (u := w) (k := 0) hw (by omega)
  have r0 := p0.2.2 hu
  have p1 := pl_ok (u := u) (k := 1) (by omega) (by omega)
  have q1 := pl_ok (u := w) (k := 1) hw (by omega)
  have r1 := p1.2.2 hu
  refine lv_iload_n hx hb dX2_determinant_0 rfl (lv_at hl 1 rfl) ?_
  refine lv_iconst (v := nI 0) hx hb dX2_determinant_1 (by decide) ?_
  refine fl_callS (As := [.int (nI u), .int (nI 0)]) (rest := []) X hI dX2_determinant_2 (m_X2_place D dA ad N I J (by omega : u < 16) (by omega) (pl_ok (by omega : u < 16) (by omega)).1) wc_yX2_place wm_X2_92 ws_yX2_place wn_X2 hd_yX2_place rfl ⟨by first | decide | omega, by first | decide | omega⟩ hl.1 (Nat.le_of_ble_eq_true rfl) (fun v I2 J2 H locs hp hI => ?_)
  obtain ⟨hv, hI2, hJ2⟩ := hp
  subst hv
  rw [hI2, hJ2] at hI
  refine W.eq (g2 := F0 m 5 ls [.int (nI (kpl u 0))]) rfl ?_
  refine lv_istore (lv' := [(4, .int (nI (kpl u 0))), (0, .ref (ad 30)), (1, .int (nI u)), (2, .int (nI w)), (3, .int (nI 2))]) hx hb dX2_determinant_5 hl (by decide) rfl (fun ls hl => ?_)
  refine lv_iload_n hx hb dX2_determinant_7 rfl (lv_at hl 3 rfl) ?_
  refine lv_iconst (v := nI 0) hx hb dX2_determinant_8 (by decide) ?_
  refine fl_callS (As := [.int (nI w), .int (nI 0)]) (rest := []) X hI dX2_determinant_9 (m_X2_place D dA ad N I J hw (by omega) (pl_ok hw (by omega)).1) wc_yX2_place wm_X2_92 ws_yX2_place wn_X2 hd_yX2_place rfl ⟨by first | decide | omega, by first | decide | omega⟩ hl.1 (Nat.le_of_ble_eq_true rfl) (fun v I2 J2 H locs hp hI => ?_)
  obtain ⟨hv, hI2, hJ2⟩ := hp
  subst hv
  rw [hI2, hJ2] at hI
  refine W.eq (g2 := F0 m 12 ls [.int (nI (kpl w 0))]) rfl ?_
  refine lv_istore (lv' := [(5, .int (nI (kpl w 0))), (4, .int (nI (kpl u 0))), (0, .ref (ad 30)), (1, .int (nI u)), (2, .int (nI w)), (3, .int (nI 2))]) hx hb dX2_determinant_12 hl (by decide) rfl (fun ls hl => ?_)
  refine lv_iload_n hx hb dX2_determinant_14 rfl (lv_at hl 5 rfl) ?_
  refine lv_iconst (v := nI 1) hx hb dX2_determinant_15 (by decide) ?_
  refine fn_icmp_ne X (tgt := 33) dX2_determinant_16 (by decide) (by omega) (by omega) (fun c1 => ?_) (fun c1 => absurd c1 (by omega))
  refine lv_iload_n hx hb dX2_determinant_33 rfl (lv_at hl 3 rfl) ?_
  refine lv_iconst (v := nI 1) hx hb dX2_determinant_34 (by decide) ?_
  refine fl_callS (As := [.int (nI u), .int (nI 1)]) (rest := []) X hI dX2_determinant_35 (m_X2_place D dA ad N I J (by omega : u < 16) (by omega) (pl_ok (by omega : u < 16) (by omega)).1) wc_yX2_place wm_X2_92 ws_yX2_place wn_X2 hd_yX2_place rfl ⟨by first | decide | omega, by first | decide | omega⟩ hl.1 (Nat.le_of_ble_eq_true rfl) (fun v I2 J2 H locs hp hI => ?_)
  obtain ⟨hv, hI2, hJ2⟩ := hp
  subst hv
  rw [hI2, hJ2] at hI
  refine W.eq (g2 := F0 m 38 ls [.int (nI (kpl u 1))]) rfl ?_
  refine lv_istore (lv' := [(6, .int (nI (kpl u 1))), (5, .int (nI (kpl w 0))), (4, .int (nI (kpl u 0))), (0, .ref (ad 30)), (1, .int (nI u)), (2, .int (nI w)), (3, .int (nI 2))]) hx hb dX2_determinant_38 hl (by decide) rfl (fun ls hl => ?_)
  refine lv_iload_n hx hb dX2_determinant_40 rfl (lv_at hl 5 rfl) ?_
  refine lv_iconst (v := nI 1) hx hb dX2_determinant_41 (by decide) ?_
  refine fl_callS (As := [.int (nI w), .int (nI 1)]) (rest := []) X hI dX2_determinant_42 (m_X2_place D dA ad N I J hw (by omega) (pl_ok hw (by omega)).1) wc_yX2_place wm_X2_92 ws_yX2_place wn_X2 hd_yX2_place rfl ⟨by first | decide | omega, by first | decide | omega⟩ hl.1 (Nat.le_of_ble_eq_true rfl) (fun v I2 J2 H locs hp hI => ?_)
  obtain ⟨hv, hI2, hJ2⟩ := hp
  subst hv
  rw [hI2, hJ2] at hI
  refine W.eq (g2 := F0 m 45 ls [.int (nI (kpl w 1))]) rfl ?_
  refine lv_istore (lv' := [(7, .int (nI (kpl w 1))), (6, .int (nI (kpl u 1))), (5, .int (nI (kpl w 0))), (4, .int (nI (kpl u 0))), (0, .ref (ad 30)), (1, .int (nI u)), (2, .int (nI w)), (3, .int (nI 2))]) hx hb dX2_determinant_45 hl (by decide) rfl (fun ls hl => ?_)
  refine lv_iload_n hx hb dX2_determinant_47 rfl (lv_at hl 7 rfl) ?_
  refine lv_iconst (v := nI 2) hx hb dX2_determinant_48 (by decide) ?_
  refine fn_icmp_ne X (tgt := 65) dX2_determinant_49 (by decide) (by omega) (by omega) (fun c2 => absurd c2 (by omega)) (fun c2 => ?_)
  refine lv_aload_n hx hb dX2_determinant_52 rfl (lv_at hl 4 rfl) ?_
  refine lv_iload hx hb dX2_determinant_53 (lv_at hl 3 rfl) ?_
  refine lv_iload hx hb dX2_determinant_55 (lv_at hl 1 rfl) ?_
  refine lv_iload hx hb dX2_determinant_57 (lv_at hl 2 rfl) ?_
  refine lv_iload hx hb dX2_determinant_59 (lv_at hl 0 rfl) ?_
  refine fl_callV (k := 30) (As := [.int (nI (kpl u 0)), .int (nI (kpl u 1)), .int (nI (kpl w 0)), .int (nI (kpl w 1))]) (rest := []) X hI dX2_determinant_61 (m_X2_two D dA ad N I J hN (by omega) (by omega) (by omega) (by omega)) (by omega) fl_c_6 rfl rfl wc_yX2_two wm_X2_96 wi_yX2_two wl_yX2_two wn_X2 hd_yX2_two rfl ⟨by first | decide | omega, by first | decide | omega⟩ hl.1 (Nat.le_of_ble_eq_true rfl) (fun v I2 J2 H locs hp hI => ?_)
  obtain ⟨hv, hI2, hJ2⟩ := hp
  subst hv
  rw [hI2, hJ2] at hI
  refine W.eq (g2 := F0 m 64 ls [.long (k_two I (kpl u 0) (kpl u 1) (kpl w 0) (kpl w 1))]) rfl ?_
  exact fl_lret X hr hlk hI dX2_determinant_64 ⟨rfl, rfl, rfl⟩
theorem m_X2_det3 (D : va_G) (dA : Nat → ClassId) (ad : Nat → Nat) (N : Nat) (I : fl_TI) (J : fl_TJ) (hN : 37 ≤ N) {u w : Nat} (hu : u < 8) (hw : w < 16) (hpu : pop4 u = 3) (hpw : pop4 w = 3) : FM yX2_determinant cX2_determinant 10 (some .long) 1 D dA ad N [.ref (ad 30), .int (nI u), .int (nI w), .int (nI 3)] I J (fun v I' J' => v = some (.long (k_det I u w 3)) ∧ I' = I ∧ J' = J) := by
  refine FM.ofW RX2 rfl (by decide +kernel) (Nat.le_of_ble_eq_true rfl) ?_
  intro p l e s m args below meth c ls X hr hlk hI hl
  have hx := X.1
  have hb := X.2.1
  have hl : lv_has ls 10 [(0, .ref (ad 30)), (1, .int (nI u)), (2, .int (nI w)), (3, .int (nI 3))] := hl
  have p0 := pl_ok (u := u) (k := 0) (by omega) (by omega)
  have q0 := pl_ok (u := w) (k := 0) hw (by omega)
  have r0 := p0.2.2 hu
  have p1 := pl_ok (u := u) (k := 1) (by omega) (by omega)
  have q1 := pl_ok (u := w) (k := 1) hw (by omega)
  have r1 := p1.2.2 hu
  have p2 := pl_ok (u := u) (k := 2) (by omega) (by omega)
  have q2 := pl_ok (u := w) (k := 2) hw (by omega)
  have r2 := p2.2.2 hu
  refine lv_iload_n hx hb dX2_determinant_0 rfl (lv_at hl 1 rfl) ?_
  refine lv_iconst (v := nI 0) hx hb dX2_determinant_1 (by decide) ?_
  refine fl_callS (As := [.int (nI u), .int (nI 0)]) (rest := []) X hI dX2_determinant_2 (m_X2_place D dA ad N I J (by omega : u < 16) (by omega) (pl_ok (by omega : u < 16) (by omega)).1) wc_yX2_place wm_X2_92 ws_yX2_place wn_X2 hd_yX2_place rfl ⟨by first | decide | omega, by first | decide | omega⟩ hl.1 (Nat.le_of_ble_eq_true rfl) (fun v I2 J2 H locs hp hI => ?_)
  obtain ⟨hv, hI2, hJ2⟩ := hp
  subst hv
  rw [hI2, hJ2] at hI
  refine W.eq (g2 := F0 m 5 ls [.int (nI (kpl u 0))]) rfl ?_
  refine lv_istore (lv' := [(4, .int (nI (kpl u 0))), (0, .ref (ad 30)), (1, .int (nI u)), (2, .int (nI w)), (3, .int (nI 3))]) hx hb dX2_determinant_5 hl (by decide) rfl (fun ls hl => ?_)
  refine lv_iload_n hx hb dX2_determinant_7 rfl (lv_at hl 3 rfl) ?_
  refine lv_iconst (v := nI 0) hx hb dX2_determinant_8 (by decide) ?_
  refine fl_callS (As := [.int (nI w), .int (nI 0)]) (rest := []) X hI dX2_determinant_9 (m_X2_place D dA ad N I J hw (by omega) (pl_ok hw (by omega)).1) wc_yX2_place wm_X2_92 ws_yX2_place wn_X2 hd_yX2_place rfl ⟨by first | decide | omega, by first | decide | omega⟩ hl.1 (Nat.le_of_ble_eq_true rfl) (fun v I2 J2 H locs hp hI => ?_)
  obtain ⟨hv, hI2, hJ2⟩ := hp
  subst hv
  rw [hI2, hJ2] at hI
  refine W.eq (g2 := F0 m 12 ls [.int (nI (kpl w 0))]) rfl ?_
  refine lv_istore (lv' := [(5, .int (nI (kpl w 0))), (4, .int (nI (kpl u 0))), (0, .ref (ad 30)), (1, .int (nI u)), (2, .int (nI w)), (3, .int (nI 3))]) hx hb dX2_determinant_12 hl (by decide) rfl (fun ls hl => ?_)
  refine lv_iload_n hx hb dX2_determinant_14 rfl (lv_at hl 5 rfl) ?_
  refine lv_iconst (v := nI 1) hx hb dX2_determinant_15 (by decide) ?_
  refine fn_icmp_ne X (tgt := 33) dX2_determinant_16 (by decide) (by omega) (by omega) (fun c1 => ?_) (fun c1 => absurd c1 (by omega))
  refine lv_iload_n hx hb dX2_determinant_33 rfl (lv_at hl 3 rfl) ?_
  refine lv_iconst (v := nI 1) hx hb dX2_determinant_34 (by decide) ?_
  refine fl_callS (As := [.int (nI u), .int (nI 1)]) (rest := []) X hI dX2_determinant_35 (m_X2_place D dA ad N I J (by omega : u < 16) (by omega) (pl_ok (by omega : u < 16) (by omega)).1) wc_yX2_place wm_X2_92 ws_yX2_place wn_X2 hd_yX2_place rfl ⟨by first | decide | omega, by first | decide | omega⟩ hl.1 (Nat.le_of_ble_eq_true rfl) (fun v I2 J2 H locs hp hI => ?_)
  obtain ⟨hv, hI2, hJ2⟩ := hp
  subst hv
  rw [hI2, hJ2] at hI
  refine W.eq (g2 := F0 m 38 ls [.int (nI (kpl u 1))]) rfl ?_
  refine lv_istore (lv' := [(6, .int (nI (kpl u 1))), (5, .int (nI (kpl w 0))), (4, .int (nI (kpl u 0))), (0, .ref (ad 30)), (1, .int (nI u)), (2, .int (nI w)), (3, .int (nI 3))]) hx hb dX2_determinant_38 hl (by decide) rfl (fun ls hl => ?_)
  refine lv_iload_n hx hb dX2_determinant_40 rfl (lv_at hl 5 rfl) ?_
  refine lv_iconst (v := nI 1) hx hb dX2_determinant_41 (by decide) ?_
  refine fl_callS (As := [.int (nI w), .int (nI 1)]) (rest := []) X hI dX2_determinant_42 (m_X2_place D dA ad N I J hw (by omega) (pl_ok hw (by omega)).1) wc_yX2_place wm_X2_92 ws_yX2_place wn_X2 hd_yX2_place rfl ⟨by first | decide | omega, by first | decide | omega⟩ hl.1 (Nat.le_of_ble_eq_true rfl) (fun v I2 J2 H locs hp hI => ?_)
  obtain ⟨hv, hI2, hJ2⟩ := hp
  subst hv
  rw [hI2, hJ2] at hI
  refine W.eq (g2 := F0 m 45 ls [.int (nI (kpl w 1))]) rfl ?_
  refine lv_istore (lv' := [(7, .int (nI (kpl w 1))), (6, .int (nI (kpl u 1))), (5, .int (nI (kpl w 0))), (4, .int (nI (kpl u 0))), (0, .ref (ad 30)), (1, .int (nI u)), (2, .int (nI w)), (3, .int (nI 3))]) hx hb dX2_determinant_45 hl (by decide) rfl (fun ls hl => ?_)
  refine lv_iload_n hx hb dX2_determinant_47 rfl (lv_at hl 7 rfl) ?_
  refine lv_iconst (v := nI 2) hx hb dX2_determinant_48 (by decide) ?_
  refine fn_icmp_ne X (tgt := 65) dX2_determinant_49 (by decide) (by omega) (by omega) (fun c2 => ?_) (fun c2 => absurd c2 (by omega))
  refine lv_iload_n hx hb dX2_determinant_65 rfl (lv_at hl 5 rfl) ?_
  refine lv_iconst (v := nI 2) hx hb dX2_determinant_66 (by decide) ?_
  refine fl_callS (As := [.int (nI u), .int (nI 2)]) (rest := []) X hI dX2_determinant_67 (m_X2_place D dA ad N I J (by omega : u < 16) (by omega) (pl_ok (by omega : u < 16) (by omega)).1) wc_yX2_place wm_X2_92 ws_yX2_place wn_X2 hd_yX2_place rfl ⟨by first | decide | omega, by first | decide | omega⟩ hl.1 (Nat.le_of_ble_eq_true rfl) (fun v I2 J2 H locs hp hI => ?_)
  obtain ⟨hv, hI2, hJ2⟩ := hp
  subst hv
  rw [hI2, hJ2] at hI
  refine W.eq (g2 := F0 m 70 ls [.int (nI (kpl u 2))]) rfl ?_
  refine lv_istore (lv' := [(8, .int (nI (kpl u 2))), (7, .int (nI (kpl w 1))), (6, .int (nI (kpl u 1))), (5, .int (nI (kpl w 0))), (4, .int (nI (kpl u 0))), (0, .ref (ad 30)), (1, .int (nI u)), (2, .int (nI w)), (3, .int (nI 3))]) hx hb dX2_determinant_70 hl (by decide) rfl (fun ls hl => ?_)
  refine lv_iload_n hx hb dX2_determinant_72 rfl (lv_at hl 7 rfl) ?_
  refine lv_iconst (v := nI 2) hx hb dX2_determinant_73 (by decide) ?_
  refine fl_callS (As := [.int (nI w), .int (nI 2)]) (rest := []) X hI dX2_determinant_74 (m_X2_place D dA ad N I J hw (by omega) (pl_ok hw (by omega)).1) wc_yX2_place wm_X2_92 ws_yX2_place wn_X2 hd_yX2_place rfl ⟨by first | decide | omega, by first | decide | omega⟩ hl.1 (Nat.le_of_ble_eq_true rfl) (fun v I2 J2 H locs hp hI => ?_)
  obtain ⟨hv, hI2, hJ2⟩ := hp
  subst hv
  rw [hI2, hJ2] at hI
  refine W.eq (g2 := F0 m 77 ls [.int (nI (kpl w 2))]) rfl ?_
  refine lv_istore (lv' := [(9, .int (nI (kpl w 2))), (8, .int (nI (kpl u 2))), (7, .int (nI (kpl w 1))), (6, .int (nI (kpl u 1))), (5, .int (nI (kpl w 0))), (4, .int (nI (kpl u 0))), (0, .ref (ad 30)), (1, .int (nI u)), (2, .int (nI w)), (3, .int (nI 3))]) hx hb dX2_determinant_77 hl (by decide) rfl (fun ls hl => ?_)
  refine lv_aload_n hx hb dX2_determinant_79 rfl (lv_at hl 6 rfl) ?_
  refine fl_get2 X hI dX2_determinant_80 (by omega) 2 (by decide) wf_X2_13 rfl ?_
  refine lv_iconst (v := nI 4) hx hb dX2_determinant_83 (by decide) ?_
  refine lv_iload hx hb dX2_determinant_84 (lv_at hl 5 rfl) ?_
  refine fn_imul X dX2_determinant_86 ?_
  refine lv_iload hx hb dX2_determinant_87 (lv_at hl 4 rfl) ?_
  refine fn_iadd X dX2_determinant_89 ?_
  refine fn_iald (k := 31) X hI dX2_determinant_90 (by omega) rfl (show (4 * (kpl u 0)) + (kpl w 0) < 12 by omega) ?_
  refine lv_i2l hx hb dX2_determinant_91 rfl ?_
  refine lv_aload_n hx hb dX2_determinant_92 rfl (lv_at hl 6 rfl) ?_
  refine lv_iload hx hb dX2_determinant_93 (lv_at hl 3 rfl) ?_
  refine lv_iload hx hb dX2_determinant_95 (lv_at hl 1 rfl) ?_
  refine lv_iload hx hb dX2_determinant_97 (lv_at hl 2 rfl) ?_
  refine lv_iload hx hb dX2_determinant_99 (lv_at hl 0 rfl) ?_
  refine fl_callV (k := 30) (As := [.int (nI (kpl u 1)), .int (nI (kpl u 2)), .int (nI (kpl w 1)), .int (nI (kpl w 2))]) (rest := [.long ((I 31 ((4 * (kpl u 0)) + (kpl w 0))).toInt64)]) X hI dX2_determinant_101 (m_X2_two D dA ad N I J hN (by omega) (by omega) (by omega) (by omega)) (by omega) fl_c_6 rfl rfl wc_yX2_two wm_X2_96 wi_yX2_two wl_yX2_two wn_X2 hd_yX2_two rfl ⟨by first | decide | omega, by first | decide | omega⟩ hl.1 (Nat.le_of_ble_eq_true rfl) (fun v I2 J2 H locs hp hI => ?_)
  obtain ⟨hv, hI2, hJ2⟩ := hp
  subst hv
  rw [hI2, hJ2] at hI
  refine W.eq (g2 := F0 m 104 ls [.long (k_two I (kpl u 1) (kpl u 2) (kpl w 1) (kpl w 2)), .long ((I 31 ((4 * (kpl u 0)) + (kpl w 0))).toInt64)]) rfl ?_
  refine lv_lmul hx hb dX2_determinant_104 ?_
  refine lv_aload_n hx hb dX2_determinant_105 rfl (lv_at hl 6 rfl) ?_
  refine fl_get2 X hI dX2_determinant_106 (by omega) 2 (by decide) wf_X2_13 rfl ?_
  refine lv_iconst (v := nI 4) hx hb dX2_determinant_109 (by decide) ?_
  refine lv_iload hx hb dX2_determinant_110 (lv_at hl 5 rfl) ?_
  refine fn_imul X dX2_determinant_112 ?_
  refine lv_iload hx hb dX2_determinant_113 (lv_at hl 2 rfl) ?_
  refine fn_iadd X dX2_determinant_115 ?_
  refine fn_iald (k := 31) X hI dX2_determinant_116 (by omega) rfl (show (4 * (kpl u 0)) + (kpl w 1) < 12 by omega) ?_
  refine lv_i2l hx hb dX2_determinant_117 rfl ?_
  refine lv_aload_n hx hb dX2_determinant_118 rfl (lv_at hl 6 rfl) ?_
  refine lv_iload hx hb dX2_determinant_119 (lv_at hl 3 rfl) ?_
  refine lv_iload hx hb dX2_determinant_121 (lv_at hl 1 rfl) ?_
  refine lv_iload hx hb dX2_determinant_123 (lv_at hl 4 rfl) ?_
  refine lv_iload hx hb dX2_determinant_125 (lv_at hl 0 rfl) ?_
  refine fl_callV (k := 30) (As := [.int (nI (kpl u 1)), .int (nI (kpl u 2)), .int (nI (kpl w 0)), .int (nI (kpl w 2))]) (rest := [.long ((I 31 ((4 * (kpl u 0)) + (kpl w 1))).toInt64), .long (((I 31 ((4 * (kpl u 0)) + (kpl w 0))).toInt64) * (k_two I (kpl u 1) (kpl u 2) (kpl w 1) (kpl w 2)))]) X hI dX2_determinant_127 (m_X2_two D dA ad N I J hN (by omega) (by omega) (by omega) (by omega)) (by omega) fl_c_6 rfl rfl wc_yX2_two wm_X2_96 wi_yX2_two wl_yX2_two wn_X2 hd_yX2_two rfl ⟨by first | decide | omega, by first | decide | omega⟩ hl.1 (Nat.le_of_ble_eq_true rfl) (fun v I2 J2 H locs hp hI => ?_)
  obtain ⟨hv, hI2, hJ2⟩ := hp
  subst hv
  rw [hI2, hJ2] at hI
  refine W.eq (g2 := F0 m 130 ls [.long (k_two I (kpl u 1) (kpl u 2) (kpl w 0) (kpl w 2)), .long ((I 31 ((4 * (kpl u 0)) + (kpl w 1))).toInt64), .long (((I 31 ((4 * (kpl u 0)) + (kpl w 0))).toInt64) * (k_two I (kpl u 1) (kpl u 2) (kpl w 1) (kpl w 2)))]) rfl ?_
  refine lv_lmul hx hb dX2_determinant_130 ?_
  refine lv_lsub hx hb dX2_determinant_131 ?_
  refine lv_aload_n hx hb dX2_determinant_132 rfl (lv_at hl 6 rfl) ?_
  refine fl_get2 X hI dX2_determinant_133 (by omega) 2 (by decide) wf_X2_13 rfl ?_
  refine lv_iconst (v := nI 4) hx hb dX2_determinant_136 (by decide) ?_
  refine lv_iload hx hb dX2_determinant_137 (lv_at hl 5 rfl) ?_
  refine fn_imul X dX2_determinant_139 ?_
  refine lv_iload hx hb dX2_determinant_140 (lv_at hl 0 rfl) ?_
  refine fn_iadd X dX2_determinant_142 ?_
  refine fn_iald (k := 31) X hI dX2_determinant_143 (by omega) rfl (show (4 * (kpl u 0)) + (kpl w 2) < 12 by omega) ?_
  refine lv_i2l hx hb dX2_determinant_144 rfl ?_
  refine lv_aload_n hx hb dX2_determinant_145 rfl (lv_at hl 6 rfl) ?_
  refine lv_iload hx hb dX2_determinant_146 (lv_at hl 3 rfl) ?_
  refine lv_iload hx hb dX2_determinant_148 (lv_at hl 1 rfl) ?_
  refine lv_iload hx hb dX2_determinant_150 (lv_at hl 4 rfl) ?_
  refine lv_iload hx hb dX2_determinant_152 (lv_at hl 2 rfl) ?_
  refine fl_callV (k := 30) (As := [.int (nI (kpl u 1)), .int (nI (kpl u 2)), .int (nI (kpl w 0)), .int (nI (kpl w 1))]) (rest := [.long ((I 31 ((4 * (kpl u 0)) + (kpl w 2))).toInt64), .long ((((I 31 ((4 * (kpl u 0)) + (kpl w 0))).toInt64) * (k_two I (kpl u 1) (kpl u 2) (kpl w 1) (kpl w 2))) - (((I 31 ((4 * (kpl u 0)) + (kpl w 1))).toInt64) * (k_two I (kpl u 1) (kpl u 2) (kpl w 0) (kpl w 2))))]) X hI dX2_determinant_154 (m_X2_two D dA ad N I J hN (by omega) (by omega) (by omega) (by omega)) (by omega) fl_c_6 rfl rfl wc_yX2_two wm_X2_96 wi_yX2_two wl_yX2_two wn_X2 hd_yX2_two rfl ⟨by first | decide | omega, by first | decide | omega⟩ hl.1 (Nat.le_of_ble_eq_true rfl) (fun v I2 J2 H locs hp hI => ?_)
  obtain ⟨hv, hI2, hJ2⟩ := hp
  subst hv
  rw [hI2, hJ2] at hI
  refine W.eq (g2 := F0 m 157 ls [.long (k_two I (kpl u 1) (kpl u 2) (kpl w 0) (kpl w 1)), .long ((I 31 ((4 * (kpl u 0)) + (kpl w 2))).toInt64), .long ((((I 31 ((4 * (kpl u 0)) + (kpl w 0))).toInt64) * (k_two I (kpl u 1) (kpl u 2) (kpl w 1) (kpl w 2))) - (((I 31 ((4 * (kpl u 0)) + (kpl w 1))).toInt64) * (k_two I (kpl u 1) (kpl u 2) (kpl w 0) (kpl w 2))))]) rfl ?_
  refine lv_lmul hx hb dX2_determinant_157 ?_
  refine lv_ladd hx hb dX2_determinant_158 ?_
  exact fl_lret X hr hlk hI dX2_determinant_159 ⟨rfl, rfl, rfl⟩
