/-! modulo, invariant -/
def j_sums (eq : Nat) (I : fl_TI) (J : fl_TJ) : fl_TJ := fl_it (fun i J => fl_up J 23 i ((I 5 i).toInt64)) eq 0 J
def j_mod (eq rk : Nat) (I : fl_TI) (J : fl_TJ) : fl_TJ := j_reduce 13 23 eq rk (ldI I (13 + 2 + 6)) (j_sums eq I (j_fill 23 J))
def x_mod (mm n eq : Nat) (J : fl_TJ) : Int32 := if x_first 23 J eq 0 = -1 then (x_ways mm n eq J).toInt32 else nI 0
theorem lp_sums {p : Program} {l : Launch} {e : Env} {R : Room} {s : State} {m : MethodId} {args : Array Value} {below : List Frame} {meth : Method} {c : Code} {Q : State → Prop} {D : va_G} {dA : Nat → ClassId} {ad : Nat → Nat} {N : Nat} {A : Nat → Prop} {H0 : Heap} {I : fl_TI} {J9 : fl_TJ} (X : CallFix p m c cX1_modulo 3 s args fl_tb RX1) {eq mm : Nat} (hN : 30 ≤ N) (he : I 0 3 = nI eq) (he3 : eq ≤ 3)
    (kx : ∀ (H : Heap) (locs : List Loc) (ls : Array Slot), fl_I D dA ad N I J9 A s H0 H locs → lv_has ls 3 [(2, .int (nI eq)), (0, .ref (ad 0)), (1, .int (nI mm))] → W p l e R s m args below meth c H locs 0 0 Q (F0 m 54 ls [])) :
    ∀ (k i : Nat) (J : fl_TJ) (H : Heap) (locs : List Loc) (ls : Array Slot), i + k = eq → fl_I D dA ad N I J A s H0 H locs → lv_has ls 3 [(2, .int (nI i)), (0, .ref (ad 0)), (1, .int (nI mm))] → fl_it (fun i J => fl_up J 23 i ((I 5 i).toInt64)) k i J = J9 → W p l e R s m args below meth c H locs 0 0 Q (F0 m 27 ls []) := by
  have hx := X.1
  have hb := X.2.1
  intro k
  induction k with
  | zero =>
    intro i J H locs ls hk hI hl hF
    have hF : J = J9 := hF
    subst hF
    have hk : eq = i := by omega
    subst hk
    refine lv_iload_n hx hb dX1_modulo_27 rfl (lv_at hl 0 rfl) ?_
    refine lv_aload_n hx hb dX1_modulo_28 rfl (lv_at hl 1 rfl) ?_
    refine fl_get1 X hI dX1_modulo_29 (by omega) 3 (by decide) wf_X1_46 rfl ?_
    refine W.eq (g2 := F0 m 32 ls [.int (nI eq), .int (nI eq)]) (by rw [he]) ?_
    refine fn_icmp_ge X (tgt := 54) dX1_modulo_32 (by decide) (by omega) (by omega) (fun c1 => ?_) (fun c1 => absurd c1 (by omega))
    exact kx _ _ _ hI (lv_sub hl [0, 1, 2] rfl)
  | succ k ih =>
    intro i J H locs ls hk hI hl hF
    refine lv_iload_n hx hb dX1_modulo_27 rfl (lv_at hl 0 rfl) ?_
    refine lv_aload_n hx hb dX1_modulo_28 rfl (lv_at hl 1 rfl) ?_
    refine fl_get1 X hI dX1_modulo_29 (by omega) 3 (by decide) wf_X1_46 rfl ?_
    refine W.eq (g2 := F0 m 32 ls [.int (nI eq), .int (nI i)]) (by rw [he]) ?_
    refine fn_icmp_ge X (tgt := 54) dX1_modulo_32 (by decide) (by omega) (by omega) (fun c1 => absurd c1 (by omega)) (fun c1 => ?_)
    refine lv_aload_n hx hb dX1_modulo_35 rfl (lv_at hl 1 rfl) ?_
    refine fl_get1 X hI dX1_modulo_36 (by omega) 9 (by decide) wf_X1_34 rfl ?_
    refine lv_iload_n hx hb dX1_modulo_39 rfl (lv_at hl 0 rfl) ?_
    refine lv_aload_n hx hb dX1_modulo_40 rfl (lv_at hl 1 rfl) ?_
    refine fl_get1 X hI dX1_modulo_41 (by omega) 1 (by decide) wf_X1_14 rfl ?_
    refine lv_iload_n hx hb dX1_modulo_44 rfl (lv_at hl 0 rfl) ?_
    refine fn_iald (k := 5) X hI dX1_modulo_45 (by omega) rfl (show i < 3 by omega) ?_
    refine lv_i2l hx hb dX1_modulo_46 rfl ?_
    refine fn_last (k := 23) X hI dX1_modulo_47 (by omega) rfl (show i < 7 by omega) (fun H locs hI => ?_)
    refine fn_iinc (a := i) (lv' := [(2, .int (nI (i + 1))), (0, .ref (ad 0)), (1, .int (nI mm))]) X dX1_modulo_48 hl (k := 0) rfl (by decide) rfl (fun ls hl => ?_)
    refine lv_goto (tgt := 27) hx hb dX1_modulo_51 (by decide) ?_
    exact ih (i + 1) _ _ _ _ (by omega) hI (lv_sub hl [0, 1, 2] rfl) hF
theorem tl_mod {p : Program} {l : Launch} {e : Env} {s : State} {m : MethodId} {args : Array Value} {below : List Frame} {meth : Method} {c : Code} {D : va_G} {dA : Nat → ClassId} {ad : Nat → Nat} {N : Nat} {A : Nat → Prop} {I : fl_TI} {J : fl_TJ} {post : Option Value → fl_TI → fl_TJ → Prop} {H : Heap} {locs : List Loc} {ls : Array Slot} (X : CallFix p m c cX1_modulo 3 s args fl_tb RX1) (hr : meth.sig.returnType = some .int) (hlk : meth.locks = false) {n eq rk mm : Nat} (hN : 30 ≤ N) (hn : I 0 2 = nI n) (hn4 : n ≤ 4) (he : I 0 3 = nI eq) (he3 : eq ≤ 3) (hw : I 13 3 = nI eq) (hrk : I 13 4 = nI rk) (hrk6 : rk ≤ 6) (hld : ∀ i, i < rk → I (13 + 2 + 6) i = nI (ldI I (13 + 2 + 6) i) ∧ ldI I (13 + 2 + 6) i < eq) (hI : fl_I D dA ad N I J A s s.heap H locs) (hl : lv_has ls 3 [(0, .ref (ad 0)), (1, .int (nI mm))]) (hp : post (some (.int (x_mod mm n eq (j_mod eq rk I J)))) I (j_mod eq rk I J)) : W p l e (fl_rm 5) s m args below meth c H locs 0 0 (MQ below (fl_Q D dA ad N post A) args s 0 0 A) (F0 m 18 ls []) := by
  have hx := X.1
  have hb := X.2.1
  refine lv_aload_n hx hb dX1_modulo_18 rfl (lv_at hl 0 rfl) ?_
  refine fl_get1 X hI dX1_modulo_19 (by omega) 9 (by decide) wf_X1_34 rfl ?_
  refine fl_callS (As := [.ref (ad 23)]) (rest := []) X hI dX1_modulo_22 (m_fill D dA ad N I J (q := 23) (by omega) rfl) wc_yX1_fillWithZero wm_X1_82 ws_yX1_fillWithZero wn_X1 hd_yX1_fillWithZero rfl ⟨by first | decide | omega, by first | decide | omega⟩ hl.1 (Nat.le_of_ble_eq_true rfl) (fun v I2 J2 H locs hp hI => ?_)
  obtain ⟨hv, hI2, hJ2⟩ := hp
  subst hv
  rw [hI2, hJ2] at hI
  refine W.eq (g2 := F0 m 25 ls []) rfl ?_
  refine lv_iconst (v := nI 0) hx hb dX1_modulo_25 (by decide) ?_
  refine lv_istore_n (lv' := [(2, .int (nI 0)), (0, .ref (ad 0)), (1, .int (nI mm))]) hx hb dX1_modulo_26 rfl hl (by decide) rfl (fun ls hl => ?_)
  refine lp_sums X hN he he3 (J9 := j_sums eq I (j_fill 23 J)) (fun H locs ls hI hl => ?_) eq 0 _ _ _ _ (Nat.zero_add _) hI (lv_sub hl [0, 1, 2] rfl) rfl
  refine lv_aload_n hx hb dX1_modulo_54 rfl (lv_at hl 1 rfl) ?_
  refine fl_get1 X hI dX1_modulo_55 (by omega) 5 (by decide) wf_X1_27 rfl ?_
  refine lv_aload_n hx hb dX1_modulo_58 rfl (lv_at hl 1 rfl) ?_
  refine fl_get1 X hI dX1_modulo_59 (by omega) 9 (by decide) wf_X1_34 rfl ?_
  refine fl_callV (k := 13) (As := [.ref (ad 23)]) (rest := []) X hI dX1_modulo_62 (m_X0_reduce D dA ad N I (j_sums eq I (j_fill 23 J)) hN lat13 (q := 23) (by omega) rfl hw (by omega) (show _ ≤ 7 by omega) hrk (by omega) (fun i hi => ⟨(hld i hi).1, by have := (hld i hi).2; omega, by have := (hld i hi).2; show _ < 7; omega⟩)) (by omega) (fl_c_4 rfl) rfl rfl wc_yX0_reduce wm_X1_86 wi_yX0_reduce wl_yX0_reduce wn_X0 hd_yX0_reduce rfl ⟨by first | decide | omega, by first | decide | omega⟩ hl.1 (Nat.le_of_ble_eq_true rfl) (fun v I2 J2 H locs hp hI => ?_)
  obtain ⟨hv, hI2, hJ2⟩ := hp
  subst hv
  rw [hI2, hJ2] at hI
  refine W.eq (g2 := F0 m 65 ls []) rfl ?_
  refine lv_aload_n hx hb dX1_modulo_65 rfl (lv_at hl 1 rfl) ?_
  refine lv_aload_n hx hb dX1_modulo_66 rfl (lv_at hl 1 rfl) ?_
  refine fl_get1 X hI dX1_modulo_67 (by omega) 9 (by decide) wf_X1_34 rfl ?_
  refine fl_callV (k := 0) (As := [.ref (ad 23)]) (rest := []) X hI dX1_modulo_70 (m_X1_firstNotZero D dA ad N I (j_mod eq rk I J) hN (q := 23) (by omega) rfl he he3 (show _ ≤ 7 by omega)) (by omega) fl_c_5 rfl rfl wc_yX1_firstNotZero wm_X1_89 wi_yX1_firstNotZero wl_yX1_firstNotZero wn_X1 hd_yX1_firstNotZero rfl ⟨by first | decide | omega, by first | decide | omega⟩ hl.1 (Nat.le_of_ble_eq_true rfl) (fun v I2 J2 H locs hp hI => ?_)
  obtain ⟨hv, hI2, hJ2⟩ := hp
  subst hv
  rw [hI2, hJ2] at hI
  refine W.eq (g2 := F0 m 73 ls [.int (x_first 23 (j_mod eq rk I J) eq 0)]) rfl ?_
  refine lv_iconst (v := (-1)) hx hb dX1_modulo_73 (by decide) ?_
  refine lv_icmp_ne (tgt := 86) hx hb dX1_modulo_74 (by decide) (fun c1 => ?_) (fun c1 => ?_)
  · refine lv_iconst (v := nI 0) hx hb dX1_modulo_86 (by decide) ?_
    exact fl_iret X hr hlk hI dX1_modulo_87 (by have h9 := hp; unfold x_mod at h9; first | (rw [if_pos c1] at h9; exact h9) | (rw [if_neg c1] at h9; exact h9))
  · refine lv_aload_n hx hb dX1_modulo_77 rfl (lv_at hl 1 rfl) ?_
    refine lv_iload_n hx hb dX1_modulo_78 rfl (lv_at hl 2 rfl) ?_
    refine fl_callV (k := 0) (As := [.int (nI mm)]) (rest := []) X hI dX1_modulo_79 (m_X1_ways D dA ad N I (j_mod eq rk I J) hN hn hn4 he he3) (by omega) fl_c_5 rfl rfl wc_yX1_waysToEachSum wm_X1_108 wi_yX1_waysToEachSum wl_yX1_waysToEachSum wn_X1 hd_yX1_waysToEachSum rfl ⟨by first | decide | omega, by first | decide | omega⟩ hl.1 (Nat.le_of_ble_eq_true rfl) (fun v I2 J2 H locs hp hI => ?_)
    obtain ⟨hv, hI2, hJ2⟩ := hp
    subst hv
    rw [hI2, hJ2] at hI
    refine W.eq (g2 := F0 m 82 ls [.long (x_ways mm n eq (j_mod eq rk I J))]) rfl ?_
    refine lv_l2i hx hb dX1_modulo_82 rfl ?_
    refine lv_goto (tgt := 87) hx hb dX1_modulo_83 (by decide) ?_
    exact fl_iret X hr hlk hI dX1_modulo_87 (by have h9 := hp; unfold x_mod at h9; first | (rw [if_pos c1] at h9; exact h9) | (rw [if_neg c1] at h9; exact h9))
theorem m_X1_modulo_bad (D : va_G) (dA : Nat → ClassId) (ad : Nat → Nat) (N : Nat) (I : fl_TI) (J : fl_TJ) (hN : 30 ≤ N) (x : Int32) (h : x < nI 1 ∨ ¬ x ≤ nI 40) : FM yX1_modulo cX1_modulo 3 (some .int) 5 D dA ad N [.ref (ad 0), .int x] I J (fun v I' J' => v = some (.int (-1)) ∧ I' = I ∧ J' = J) := by
  refine FM.ofW RX1 rfl (by decide +kernel) (Nat.le_of_ble_eq_true rfl) ?_
  intro p l e s m args below meth c ls X hr hlk hI hl
  have hx := X.1
  have hb := X.2.1
  have hl : lv_has ls 3 [(0, .ref (ad 0)), (1, .int x)] := hl
  refine lv_iload_n hx hb dX1_modulo_0 rfl (lv_at hl 1 rfl) ?_
  refine lv_iconst (v := nI 1) hx hb dX1_modulo_1 (by decide) ?_
  refine lv_icmp_lt (tgt := 11) hx hb dX1_modulo_2 (by decide) (fun c1 => ?_) (fun c1 => ?_)
  · refine lv_iconst (v := (-1)) hx hb dX1_modulo_11 (by decide) ?_
    exact fl_iret X hr hlk hI dX1_modulo_12 ⟨rfl, rfl, rfl⟩
  · refine lv_iload_n hx hb dX1_modulo_5 rfl (lv_at hl 1 rfl) ?_
    refine lv_bipush (v := nI 40) hx hb dX1_modulo_6 (by decide) ?_
    refine lv_icmp_le (tgt := 13) hx hb dX1_modulo_8 (by decide) (fun c2 => ?_) (fun c2 => ?_)
    · exact absurd h (fun q => q.elim c1 (fun z => z c2))
    · refine lv_iconst (v := (-1)) hx hb dX1_modulo_11 (by decide) ?_
      exact fl_iret X hr hlk hI dX1_modulo_12 ⟨rfl, rfl, rfl⟩
theorem m_X1_modulo (D : va_G) (dA : Nat → ClassId) (ad : Nat → Nat) (N : Nat) (I : fl_TI) (J : fl_TJ) (hN : 30 ≤ N) {n eq rr rk : Nat} (ok : x_ok I n eq rr rk) {mm : Nat} (hre : rr ≤ eq) (hm1 : 1 ≤ mm) (hm : mm ≤ 40) : FM yX1_modulo cX1_modulo 3 (some .int) 5 D dA ad N [.ref (ad 0), .int (nI mm)] I J (fun v I' J' => v = some (.int (x_mod mm n eq (j_mod eq (x_r eq rr mm I J).1 (x_r eq rr mm I J).2.1 (x_r eq rr mm I J).2.2))) ∧ I' = (x_r eq rr mm I J).2.1 ∧ J' = j_mod eq (x_r eq rr mm I J).1 (x_r eq rr mm I J).2.1 (x_r eq rr mm I J).2.2) := by
  refine FM.ofW RX1 rfl (by decide +kernel) (Nat.le_of_ble_eq_true rfl) ?_
  intro p l e s m args below meth c ls X hr hlk hI hl
  have hx := X.1
  have hb := X.2.1
  have hl : lv_has ls 3 [(0, .ref (ad 0)), (1, .int (nI mm))] := hl
  obtain ⟨hn, ⟨hn1, hn4⟩, he, he3, hrr, hrn, hh, hw, hrk, hrk4, hld⟩ := ok
  refine lv_iload_n hx hb dX1_modulo_0 rfl (lv_at hl 1 rfl) ?_
  refine lv_iconst (v := nI 1) hx hb dX1_modulo_1 (by decide) ?_
  refine fn_icmp_lt X (tgt := 11) dX1_modulo_2 (by decide) (by omega) (by omega) (fun c1 => absurd c1 (by omega)) (fun c1 => ?_)
  refine lv_iload_n hx hb dX1_modulo_5 rfl (lv_at hl 1 rfl) ?_
  refine lv_bipush (v := nI 40) hx hb dX1_modulo_6 (by decide) ?_
  refine fn_icmp_le X (tgt := 13) dX1_modulo_8 (by decide) (by omega) (by omega) (fun c2 => ?_) (fun c2 => absurd c2 (by omega))
  refine lv_aload_n hx hb dX1_modulo_13 rfl (lv_at hl 0 rfl) ?_
  refine lv_iload_n hx hb dX1_modulo_14 rfl (lv_at hl 1 rfl) ?_
  refine fl_callV (k := 0) (As := [.int (nI mm)]) (rest := []) X hI dX1_modulo_15 (m_X1_formRemainders D dA ad N I J hN he he3 hrr hre) (by omega) fl_c_5 rfl rfl wc_yX1_formRemainders wm_X1_104 wi_yX1_formRemainders wl_yX1_formRemainders wn_X1 hd_yX1_formRemainders rfl ⟨by first | decide | omega, by first | decide | omega⟩ hl.1 (Nat.le_of_ble_eq_true rfl) (fun v I2 J2 H locs hp hI => ?_)
  obtain ⟨hv, hI2, hJ2⟩ := hp
  subst hv
  rw [hI2, hJ2] at hI
  refine W.eq (g2 := F0 m 18 ls []) rfl ?_
  obtain ⟨g1, g2, g3, g4⟩ := b_form_I 13 6 (rr + eq) eq (by omega) eq 0 0 (i_r0 eq rr I) (j_rem eq rr mm (j_clear 13 (rr + eq) J)) (Nat.zero_add _) (by unfold i_r0 i_clear; rw [fl_up_s]) (Nat.zero_le _) (fun i hi => absurd hi (Nat.not_lt_zero _))
  have gf : ∀ b, b ≠ 4 → (x_r eq rr mm I J).2.1 0 b = I 0 b := fun b _ => by unfold x_r; rw [g4 0 b (by omega) (by omega)]; unfold i_r0; rw [i_clear_far (by omega)]
  have k1 : (x_r eq rr mm I J).2.1 0 2 = nI n := by rw [gf 2 (by omega)]; exact hn
  have k2 : (x_r eq rr mm I J).2.1 0 3 = nI eq := by rw [gf 3 (by omega)]; exact he
  have k3 : (x_r eq rr mm I J).2.1 13 3 = nI eq := by unfold x_r; rw [g4 13 3 (by omega) (by omega)]; unfold i_r0 i_clear; rw [fl_up_j (by omega), fl_up_s]
  have k4 : (x_r eq rr mm I J).1 ≤ rr + eq := g1
  exact tl_mod (I := (x_r eq rr mm I J).2.1) X hr hlk hN k1 hn4 k2 he3 (rk := (x_r eq rr mm I J).1) k3 g2 (by omega) g3 hI hl ⟨rfl, rfl, rfl⟩
def pop4 (k : Nat) : Nat := k % 2 + k / 2 % 2 + k / 4 % 2 + k / 8 % 2
theorem m_bitCount (D : va_G) (dA : Nat → ClassId) (ad : Nat → Nat) (N : Nat) (I : fl_TI) (J : fl_TJ) {k : Nat} (hk : k < 16) : FM yJ6_bitCount_0f7a4 cJ6_bitCount_0f7a4 1 (some .int) 0 D dA ad N [.int (nI k)] I J (fun v I' J' => v = some (.int (nI (pop4 k))) ∧ I' = I ∧ J' = J) := by
  refine FM.ofW RJ6 rfl (by decide +kernel) (Nat.le_of_ble_eq_true rfl) ?_
  intro p l e s m args below meth c ls X hr hlk hI hl
  have hx := X.1
  have hb := X.2.1
  have hl : lv_has ls 1 [(0, .int (nI k))] := hl
  refine lv_iload_n hx hb dJ6_bitCount_0f7a4_0 rfl (lv_at hl 0 rfl) ?_
  refine lv_iload_n hx hb dJ6_bitCount_0f7a4_1 rfl (lv_at hl 0 rfl) ?_
  refine lv_iconst (v := nI 1) hx hb dJ6_bitCount_0f7a4_2 (by decide) ?_
  refine lv_iushr hx hb dJ6_bitCount_0f7a4_3 rfl ?_
  refine lv_ldcw (v := (1431655765)) hx hb X.2.2.2.1 (X.2.2.2.2 _ wk_J6_265) dJ6_bitCount_0f7a4_4 ?_
  refine lv_iand hx hb dJ6_bitCount_0f7a4_7 ?_
  refine lv_isub hx hb dJ6_bitCount_0f7a4_8 ?_
  refine lv_istore_n (lv' := [(0, .int ((nI k) - ((((nI k).toUInt32 >>> ((nI 1).toUInt32 &&& Int32.toUInt32 31)).toInt32) &&& ((1431655765)))))]) hx hb dJ6_bitCount_0f7a4_9 rfl hl (by decide) rfl (fun ls hl => ?_)
  refine lv_iload_n hx hb dJ6_bitCount_0f7a4_10 rfl (lv_at hl 0 rfl) ?_
  refine lv_ldcw (v := (858993459)) hx hb X.2.2.2.1 (X.2.2.2.2 _ wk_J6_266) dJ6_bitCount_0f7a4_11 ?_
  refine lv_iand hx hb dJ6_bitCount_0f7a4_14 ?_
  refine lv_iload_n hx hb dJ6_bitCount_0f7a4_15 rfl (lv_at hl 0 rfl) ?_
  refine lv_iconst (v := nI 2) hx hb dJ6_bitCount_0f7a4_16 (by decide) ?_
  refine lv_iushr hx hb dJ6_bitCount_0f7a4_17 rfl ?_
  refine lv_ldcw (v := (858993459)) hx hb X.2.2.2.1 (X.2.2.2.2 _ wk_J6_266) dJ6_bitCount_0f7a4_18 ?_
  refine lv_iand hx hb dJ6_bitCount_0f7a4_21 ?_
  refine lv_iadd hx hb dJ6_bitCount_0f7a4_22 ?_
  refine lv_istore_n (lv' := [(0, .int ((((nI k) - ((((nI k).toUInt32 >>> ((nI 1).toUInt32 &&& Int32.toUInt32 31)).toInt32) &&& ((1431655765)))) &&& ((858993459))) + (((((nI k) - ((((nI k).toUInt32 >>> ((nI 1).toUInt32 &&& Int32.toUInt32 31)).toInt32) &&& ((1431655765)))).toUInt32 >>> ((nI 2).toUInt32 &&& Int32.toUInt32 31)).toInt32) &&& ((858993459)))))]) hx hb dJ6_bitCount_0f7a4_23 rfl hl (by decide) rfl (fun ls hl => ?_)
  refine lv_iload_n hx hb dJ6_bitCount_0f7a4_24 rfl (lv_at hl 0 rfl) ?_
  refine lv_iload_n hx hb dJ6_bitCount_0f7a4_25 rfl (lv_at hl 0 rfl) ?_
  refine lv_iconst (v := nI 4) hx hb dJ6_bitCount_0f7a4_26 (by decide) ?_
  refine lv_iushr hx hb dJ6_bitCount_0f7a4_27 rfl ?_
  refine lv_iadd hx hb dJ6_bitCount_0f7a4_28 ?_
  refine lv_ldcw (v := (252645135)) hx hb X.2.2.2.1 (X.2.2.2.2 _ wk_J6_267) dJ6_bitCount_0f7a4_29 ?_
  refine lv_iand hx hb dJ6_bitCount_0f7a4_32 ?_
  refine lv_istore_n (lv' := [(0, .int ((((((nI k) - ((((nI k).toUInt32 >>> ((nI 1).toUInt32 &&& Int32.toUInt32 31)).toInt32) &&& ((1431655765)))) &&& ((858993459))) + (((((nI k) - ((((nI k).toUInt32 >>> ((nI 1).toUInt32 &&& Int32.toUInt32 31)).toInt32) &&& ((1431655765)))).toUInt32 >>> ((nI 2).toUInt32 &&& Int32.toUInt32 31)).toInt32) &&& ((858993459)))) + ((((((nI k) - ((((nI k).toUInt32 >>> ((nI 1).toUInt32 &&& Int32.toUInt32 31)).toInt32) &&& ((1431655765)))) &&& ((858993459))) + (((((nI k) - ((((nI k).toUInt32 >>> ((nI 1).toUInt32 &&& Int32.toUInt32 31)).toInt32) &&& ((1431655765)))).toUInt32 >>> ((nI 2).toUInt32 &&& Int32.toUInt32 31)).toInt32) &&& ((858993459)))).toUInt32 >>> ((nI 4).toUInt32 &&& Int32.toUInt32 31)).toInt32)) &&& ((252645135))))]) hx hb dJ6_bitCount_0f7a4_33 rfl hl (by decide) rfl (fun ls hl => ?_)
  refine lv_iload_n hx hb dJ6_bitCount_0f7a4_34 rfl (lv_at hl 0 rfl) ?_
  refine lv_iload_n hx hb dJ6_bitCount_0f7a4_35 rfl (lv_at hl 0 rfl) ?_
  refine lv_bipush (v := nI 8) hx hb dJ6_bitCount_0f7a4_36 (by decide) ?_
  refine lv_iushr hx hb dJ6_bitCount_0f7a4_38 rfl ?_
  refine lv_iadd hx hb dJ6_bitCount_0f7a4_39 ?_
  refine lv_istore_n (lv' := [(0, .int (((((((nI k) - ((((nI k).toUInt32 >>> ((nI 1).toUInt32 &&& Int32.toUInt32 31)).toInt32) &&& ((1431655765)))) &&& ((858993459))) + (((((nI k) - ((((nI k).toUInt32 >>> ((nI 1).toUInt32 &&& Int32.toUInt32 31)).toInt32) &&& ((1431655765)))).toUInt32 >>> ((nI 2).toUInt32 &&& Int32.toUInt32 31)).toInt32) &&& ((858993459)))) + ((((((nI k) - ((((nI k).toUInt32 >>> ((nI 1).toUInt32 &&& Int32.toUInt32 31)).toInt32) &&& ((1431655765)))) &&& ((858993459))) + (((((nI k) - ((((nI k).toUInt32 >>> ((nI 1).toUInt32 &&& Int32.toUInt32 31)).toInt32) &&& ((1431655765)))).toUInt32 >>> ((nI 2).toUInt32 &&& Int32.toUInt32 31)).toInt32) &&& ((858993459)))).toUInt32 >>> ((nI 4).toUInt32 &&& Int32.toUInt32 31)).toInt32)) &&& ((252645135))) + ((((((((nI k) - ((((nI k).toUInt32 >>> ((nI 1).toUInt32 &&& Int32.toUInt32 31)).toInt32) &&& ((1431655765)))) &&& ((858993459))) + (((((nI k) - ((((nI k).toUInt32 >>> ((nI 1).toUInt32 &&& Int32.toUInt32 31)).toInt32) &&& ((1431655765)))).toUInt32 >>> ((nI 2).toUInt32 &&& Int32.toUInt32 31)).toInt32) &&& ((858993459)))) + ((((((nI k) - ((((nI k).toUInt32 >>> ((nI 1).toUInt32 &&& Int32.toUInt32 31)).toInt32) &&& ((1431655765)))) &&& ((858993459))) + (((((nI k) - ((((nI k).toUInt32 >>> ((nI 1).toUInt32 &&& Int32.toUInt32 31)).toInt32) &&& ((1431655765)))).toUInt32 >>> ((nI 2).toUInt32 &&& Int32.toUInt32 31)).toInt32) &&& ((858993459)))).toUInt32 >>> ((nI 4).toUInt32 &&& Int32.toUInt32 31)).toInt32)) &&& ((252645135))).toUInt32 >>> ((nI 8).toUInt32 &&& Int32.toUInt32 31)).toInt32)))]) hx hb dJ6_bitCount_0f7a4_40 rfl hl (by decide) rfl (fun ls hl => ?_)
  refine lv_iload_n hx hb dJ6_bitCount_0f7a4_41 rfl (lv_at hl 0 rfl) ?_
  refine lv_iload_n hx hb dJ6_bitCount_0f7a4_42 rfl (lv_at hl 0 rfl) ?_
  refine lv_bipush (v := nI 16) hx hb dJ6_bitCount_0f7a4_43 (by decide) ?_
  refine lv_iushr hx hb dJ6_bitCount_0f7a4_45 rfl ?_
  refine lv_iadd hx hb dJ6_bitCount_0f7a4_46 ?_
  refine lv_istore_n (lv' := [(0, .int ((((((((nI k) - ((((nI k).toUInt32 >>> ((nI 1).toUInt32 &&& Int32.toUInt32 31)).toInt32) &&& ((1431655765)))) &&& ((858993459))) + (((((nI k) - ((((nI k).toUInt32 >>> ((nI 1).toUInt32 &&& Int32.toUInt32 31)).toInt32) &&& ((1431655765)))).toUInt32 >>> ((nI 2).toUInt32 &&& Int32.toUInt32 31)).toInt32) &&& ((858993459)))) + ((((((nI k) - ((((nI k).toUInt32 >>> ((nI 1).toUInt32 &&& Int32.toUInt32 31)).toInt32) &&& ((1431655765)))) &&& ((858993459))) + (((((nI k) - ((((nI k).toUInt32 >>> ((nI 1).toUInt32 &&& Int32.toUInt32 31)).toInt32) &&& ((1431655765)))).toUInt32 >>> ((nI 2).toUInt32 &&& Int32.toUInt32 31)).toInt32) &&& ((858993459)))).toUInt32 >>> ((nI 4).toUInt32 &&& Int32.toUInt32 31)).toInt32)) &&& ((252645135))) + ((((((((nI k) - ((((nI k).toUInt32 >>> ((nI 1).toUInt32 &&& Int32.toUInt32 31)).toInt32) &&& ((1431655765)))) &&& ((858993459))) + (((((nI k) - ((((nI k).toUInt32 >>> ((nI 1).toUInt32 &&& Int32.toUInt32 31)).toInt32) &&& ((1431655765)))).toUInt32 >>> ((nI 2).toUInt32 &&& Int32.toUInt32 31)).toInt32) &&& ((858993459)))) + ((((((nI k) - ((((nI k).toUInt32 >>> ((nI 1).toUInt32 &&& Int32.toUInt32 31)).toInt32) &&& ((1431655765)))) &&& ((858993459))) + (((((nI k) - ((((nI k).toUInt32 >>> ((nI 1).toUInt32 &&& Int32.toUInt32 31)).toInt32) &&& ((1431655765)))).toUInt32 >>> ((nI 2).toUInt32 &&& Int32.toUInt32 31)).toInt32) &&& ((858993459)))).toUInt32 >>> ((nI 4).toUInt32 &&& Int32.toUInt32 31)).toInt32)) &&& ((252645135))).toUInt32 >>> ((nI 8).toUInt32 &&& Int32.toUInt32 31)).toInt32)) + (((((((((nI k) - ((((nI k).toUInt32 >>> ((nI 1).toUInt32 &&& Int32.toUInt32 31)).toInt32) &&& ((1431655765)))) &&& ((858993459))) + (((((nI k) - ((((nI k).toUInt32 >>> ((nI 1).toUInt32 &&& Int32.toUInt32 31)).toInt32) &&& ((1431655765)))).toUInt32 >>> ((nI 2).toUInt32 &&& Int32.toUInt32 31)).toInt32) &&& ((858993459)))) + ((((((nI k) - ((((nI k).toUInt32 >>> ((nI 1).toUInt32 &&& Int32.toUInt32 31)).toInt32) &&& ((1431655765)))) &&& ((858993459))) + (((((nI k) - ((((nI k).toUInt32 >>> ((nI 1).toUInt32 &&& Int32.toUInt32 31)).toInt32) &&& ((1431655765)))).toUInt32 >>> ((nI 2).toUInt32 &&& Int32.toUInt32 31)).toInt32) &&& ((858993459)))).toUInt32 >>> ((nI 4).toUInt32 &&& Int32.toUInt32 31)).toInt32)) &&& ((252645135))) + ((((((((nI k) - ((((nI k).toUInt32 >>> ((nI 1).toUInt32 &&& Int32.toUInt32 31)).toInt32) &&& ((1431655765)))) &&& ((858993459))) + (((((nI k) - ((((nI k).toUInt32 >>> ((nI 1).toUInt32 &&& Int32.toUInt32 31)).toInt32) &&& ((1431655765)))).toUInt32 >>> ((nI 2).toUInt32 &&& Int32.toUInt32 31)).toInt32) &&& ((858993459)))) + ((((((nI k) - ((((nI k).toUInt32 >>> ((nI 1).toUInt32 &&& Int32.toUInt32 31)).toInt32) &&& ((1431655765)))) &&& ((858993459))) + (((((nI k) - ((((nI k).toUInt32 >>> ((nI 1).toUInt32 &&& Int32.toUInt32 31)).toInt32) &&& ((1431655765)))).toUInt32 >>> ((nI 2).toUInt32 &&& Int32.toUInt32 31)).toInt32) &&& ((858993459)))).toUInt32 >>> ((nI 4).toUInt32 &&& Int32.toUInt32 31)).toInt32)) &&& ((252645135))).toUInt32 >>> ((nI 8).toUInt32 &&& Int32.toUInt32 31)).toInt32)).toUInt32 >>> ((nI 16).toUInt32 &&& Int32.toUInt32 31)).toInt32)))]) hx hb dJ6_bitCount_0f7a4_47 rfl hl (by decide) rfl (fun ls hl => ?_)
  refine lv_iload_n hx hb dJ6_bitCount_0f7a4_48 rfl (lv_at hl 0 rfl) ?_
  refine lv_bipush (v := nI 63) hx hb dJ6_bitCount_0f7a4_49 (by decide) ?_
  refine lv_iand hx hb dJ6_bitCount_0f7a4_51 ?_
  exact fl_iret X hr hlk hI dJ6_bitCount_0f7a4_52 ⟨by have h9 := (by decide +kernel : ∀ k, k < 16 → (((((((((nI k) - ((((nI k).toUInt32 >>> ((nI 1).toUInt32 &&& Int32.toUInt32 31)).toInt32) &&& ((1431655765)))) &&& ((858993459))) + (((((nI k) - ((((nI k).toUInt32 >>> ((nI 1).toUInt32 &&& Int32.toUInt32 31)).toInt32) &&& ((1431655765)))).toUInt32 >>> ((nI 2).toUInt32 &&& Int32.toUInt32 31)).toInt32) &&& ((858993459)))) + ((((((nI k) - ((((nI k).toUInt32 >>> ((nI 1).toUInt32 &&& Int32.toUInt32 31)).toInt32) &&& ((1431655765)))) &&& ((858993459))) + (((((nI k) - ((((nI k).toUInt32 >>> ((nI 1).toUInt32 &&& Int32.toUInt32 31)).toInt32) &&& ((1431655765)))).toUInt32 >>> ((nI 2).toUInt32 &&& Int32.toUInt32 31)).toInt32) &&& ((858993459)))).toUInt32 >>> ((nI 4).toUInt32 &&& Int32.toUInt32 31)).toInt32)) &&& ((252645135))) + ((((((((nI k) - ((((nI k).toUInt32 >>> ((nI 1).toUInt32 &&& Int32.toUInt32 31)).toInt32) &&& ((1431655765)))) &&& ((858993459))) + (((((nI k) - ((((nI k).toUInt32 >>> ((nI 1).toUInt32 &&& Int32.toUInt32 31)).toInt32) &&& ((1431655765)))).toUInt32 >>> ((nI 2).toUInt32 &&& Int32.toUInt32 31)).toInt32) &&& ((858993459)))) + ((((((nI k) - ((((nI k).toUInt32 >>> ((nI 1).toUInt32 &&& Int32.toUInt32 31)).toInt32) &&& ((1431655765)))) &&& ((858993459))) + (((((nI k) - ((((nI k).toUInt32 >>> ((nI 1).toUInt32 &&& Int32.toUInt32 31)).toInt32) &&& ((1431655765)))).toUInt32 >>> ((nI 2).toUInt32 &&& Int32.toUInt32 31)).toInt32) &&& ((858993459)))).toUInt32 >>> ((nI 4).toUInt32 &&& Int32.toUInt32 31)).toInt32)) &&& ((252645135))).toUInt32 >>> ((nI 8).toUInt32 &&& Int32.toUInt32 31)).toInt32)) + (((((((((nI k) - ((((nI k).toUInt32 >>> ((nI 1).toUInt32 &&& Int32.toUInt32 31)).toInt32) &&& ((1431655765)))) &&& ((858993459))) + (((((nI k) - ((((nI k).toUInt32 >>> ((nI 1).toUInt32 &&& Int32.toUInt32 31)).toInt32) &&& ((1431655765)))).toUInt32 >>> ((nI 2).toUInt32 &&& Int32.toUInt32 31)).toInt32) &&& ((858993459)))) + ((((((nI k) - ((((nI k).toUInt32 >>> ((nI 1).toUInt32 &&& Int32.toUInt32 31)).toInt32) &&& ((1431655765)))) &&& ((858993459))) + (((((nI k) - ((((nI k).toUInt32 >>> ((nI 1).toUInt32 &&& Int32.toUInt32 31)).toInt32) &&& ((1431655765)))).toUInt32 >>> ((nI 2).toUInt32 &&& Int32.toUInt32 31)).toInt32) &&& ((858993459)))).toUInt32 >>> ((nI 4).toUInt32 &&& Int32.toUInt32 31)).toInt32)) &&& ((252645135))) + ((((((((nI k) - ((((nI k).toUInt32 >>> ((nI 1).toUInt32 &&& Int32.toUInt32 31)).toInt32) &&& ((1431655765)))) &&& ((858993459))) + (((((nI k) - ((((nI k).toUInt32 >>> ((nI 1).toUInt32 &&& Int32.toUInt32 31)).toInt32) &&& ((1431655765)))).toUInt32 >>> ((nI 2).toUInt32 &&& Int32.toUInt32 31)).toInt32) &&& ((858993459)))) + ((((((nI k) - ((((nI k).toUInt32 >>> ((nI 1).toUInt32 &&& Int32.toUInt32 31)).toInt32) &&& ((1431655765)))) &&& ((858993459))) + (((((nI k) - ((((nI k).toUInt32 >>> ((nI 1).toUInt32 &&& Int32.toUInt32 31)).toInt32) &&& ((1431655765)))).toUInt32 >>> ((nI 2).toUInt32 &&& Int32.toUInt32 31)).toInt32) &&& ((858993459)))).toUInt32 >>> ((nI 4).toUInt32 &&& Int32.toUInt32 31)).toInt32)) &&& ((252645135))).toUInt32 >>> ((nI 8).toUInt32 &&& Int32.toUInt32 31)).toInt32)).toUInt32 >>> ((nI 16).toUInt32 &&& Int32.toUInt32 31)).toInt32)) &&& (nI 63) : Int32) = nI (pop4 k)) k hk; exact congrArg (fun z => some (Value.int z)) h9, rfl, rfl⟩
theorem bit_ok {u a : Nat} (hu : u < 16) (ha : a < 8) : (nI u >>> (nI a &&& 31)) &&& nI 1 = nI (u / 2 ^ a % 2) := (by decide +kernel : ∀ u, u < 16 → ∀ a, a < 8 → (nI u >>> (nI a &&& 31)) &&& nI 1 = nI (u / 2 ^ a % 2)) u hu a ha
theorem shl_ok {a : Nat} (ha : a < 8) : nI 1 <<< (nI a &&& 31) = nI (2 ^ a) := (by decide +kernel : ∀ a, a < 8 → nI 1 <<< (nI a &&& 31) = nI (2 ^ a)) a ha
theorem bit_le {w j : Nat} (h : w / 2 ^ j % 2 = 1) : 2 ^ j ≤ w := by
  rcases Nat.lt_or_ge w (2 ^ j) with q | q
  · rw [Nat.div_eq_of_lt q] at h; omega
  · exact q
def x_det (n : Nat) (I : fl_TI) (u : Nat) : Nat → Nat → Nat → Int64
  | 0, _, _ => 1
  | k + 1, a, w => if u / 2 ^ a % 2 = 0 then x_det n I u k (a + 1) w else (fl_it (fun j (x : Int64 × Int64) => if w / 2 ^ j % 2 = 1 then (x.1 + x.2 * (I (2 + a) j).toInt64 * x_det n I u k (a + 1) (w - 2 ^ j), -x.2) else x) n 0 (0, 1)).1
theorem lp_det {p : Program} {l : Launch} {e : Env} {R : Room} {s : State} {m : MethodId} {args : Array Value} {below : List Frame} {meth : Method} {c : Code} {Q : State → Prop} {D : va_G} {dA : Nat → ClassId} {ad : Nat → Nat} {N : Nat} {A : Nat → Prop} {H0 : Heap} {I : fl_TI} {J : fl_TJ} {vv9 : Int64} {sg9 : Int64} (X : CallFix p m c cX1_determinant 9 s args fl_tb RX1) {n eq a u w kd : Nat} (hN : 30 ≤ N) (hn : I 0 2 = nI n) (hn4 : n ≤ 4) (he : I 0 3 = nI eq) (he3 : eq ≤ 3) (ha : a < eq) (hu : u < 16) (hw : w < 16) (hM : ∀ w, w < 16 → FM yX1_determinant cX1_determinant 9 (some .long) kd D dA ad N [.ref (ad 0), .int (nI (a + 1)), .int (nI u), .int (nI w)] I J (fun v I' J' => v = some (.long (x_det n I u kd (a + 1) w)) ∧ I' = I ∧ J' = J)) (hR : kd + 1 ≤ R.frames ∧ 8 + (9 + 11) + 40 * kd ≤ R.locals)
    (kx : ∀ (H : Heap) (locs : List Loc) (ls : Array Slot), fl_I D dA ad N I J A s H0 H locs → lv_has ls 9 [(8, .int (nI n)), (6, .long sg9), (4, .long vv9), (0, .ref (ad 0)), (1, .int (nI a)), (2, .int (nI u)), (3, .int (nI w))] → W p l e R s m args below meth c H locs 0 0 Q (F0 m 100 ls [])) :
    ∀ (k i : Nat) (vv : Int64) (sg : Int64) (H : Heap) (locs : List Loc) (ls : Array Slot), i + k = n → fl_I D dA ad N I J A s H0 H locs → lv_has ls 9 [(8, .int (nI i)), (6, .long sg), (4, .long vv), (0, .ref (ad 0)), (1, .int (nI a)), (2, .int (nI u)), (3, .int (nI w))] → fl_it (fun j (x : Int64 × Int64) => if w / 2 ^ j % 2 = 1 then (x.1 + x.2 * (I (2 + a) j).toInt64 * x_det n I u kd (a + 1) (w - 2 ^ j), -x.2) else x) k i (vv, sg) = (vv9, sg9) → W p l e R s m args below meth c H locs 0 0 Q (F0 m 37 ls []) := by
  have hx := X.1
  have hb := X.2.1
  intro k
  induction k with
  | zero =>
    intro i vv sg H locs ls hk hI hl hF
    have hF : (vv, sg) = (vv9, sg9) := hF
    cases hF
    have hk : n = i := by omega
    subst hk
    refine lv_iload hx hb dX1_determinant_37 (lv_at hl 0 rfl) ?_
    refine lv_aload_n hx hb dX1_determinant_39 rfl (lv_at hl 3 rfl) ?_
    refine fl_get1 X hI dX1_determinant_40 (by omega) 2 (by decide) wf_X1_42 rfl ?_
    refine W.eq (g2 := F0 m 43 ls [.int (nI n), .int (nI n)]) (by rw [hn]) ?_
    refine fn_icmp_ge X (tgt := 100) dX1_determinant_43 (by decide) (by omega) (by omega) (fun c1 => ?_) (fun c1 => absurd c1 (by omega))
    exact kx _ _ _ hI (lv_sub hl [0, 1, 2, 3, 4, 5, 6] rfl)
  | succ k ih =>
    intro i vv sg H locs ls hk hI hl hF
    refine lv_iload hx hb dX1_determinant_37 (lv_at hl 0 rfl) ?_
    refine lv_aload_n hx hb dX1_determinant_39 rfl (lv_at hl 3 rfl) ?_
    refine fl_get1 X hI dX1_determinant_40 (by omega) 2 (by decide) wf_X1_42 rfl ?_
    refine W.eq (g2 := F0 m 43 ls [.int (nI n), .int (nI i)]) (by rw [hn]) ?_
    refine fn_icmp_ge X (tgt := 100) dX1_determinant_43 (by decide) (by omega) (by omega) (fun c1 => absurd c1 (by omega)) (fun c1 => ?_)
    refine lv_iload_n hx hb dX1_determinant_46 rfl (lv_at hl 6 rfl) ?_
    refine lv_iload hx hb dX1_determinant_47 (lv_at hl 0 rfl) ?_
    refine lv_ishr hx hb dX1_determinant_49 ?_
    refine lv_iconst (v := nI 1) hx hb dX1_determinant_50 (by decide) ?_
    refine lv_iand hx hb dX1_determinant_51 ?_
    refine W.eq (g2 := F0 m 52 ls [.int (nI (w / 2 ^ i % 2))]) (by rw [bit_ok hw (by omega)]) ?_
    refine lv_iconst (v := nI 1) hx hb dX1_determinant_52 (by decide) ?_
    refine fn_icmp_ne X (tgt := 94) dX1_determinant_53 (by decide) (by omega) (by omega) (fun c2 => ?_) (fun c2 => ?_)
    · refine fn_iinc (a := i) (lv' := [(8, .int (nI (i + 1))), (6, .long sg), (4, .long vv), (0, .ref (ad 0)), (1, .int (nI a)), (2, .int (nI u)), (3, .int (nI w))]) X dX1_determinant_94 hl (k := 0) rfl (by decide) rfl (fun ls hl => ?_)
      refine lv_goto (tgt := 37) hx hb dX1_determinant_97 (by decide) ?_
      exact ih (i + 1) _ _ _ _ _ (by omega) hI (lv_sub hl [0, 1, 2, 3, 4, 5, 6] rfl) (by have h9 := hF; simp only [fl_it] at h9; first | (rw [if_pos c2] at h9; exact h9) | (rw [if_neg c2] at h9; exact h9))
    · refine lv_lload hx hb dX1_determinant_56 (lv_at hl 2 rfl) ?_
      refine lv_lload hx hb dX1_determinant_58 (lv_at hl 1 rfl) ?_
      refine lv_aload_n hx hb dX1_determinant_60 rfl (lv_at hl 3 rfl) ?_
      refine fl_get1 X hI dX1_determinant_61 (by omega) 0 (by decide) wf_X1_11 rfl ?_
      refine lv_iload_n hx hb dX1_determinant_64 rfl (lv_at hl 4 rfl) ?_
      refine fn_aald2 (k := 1) X hI dX1_determinant_65 (by omega) rfl (show a < 3 by omega) ?_
      refine lv_iload hx hb dX1_determinant_66 (lv_at hl 0 rfl) ?_
      refine fn_iald (k := 2 + a) X hI dX1_determinant_68 (by omega) (fk2 (by omega)) (by rw [fn2 (by omega)]; omega) ?_
      refine lv_i2l hx hb dX1_determinant_69 rfl ?_
      refine lv_lmul hx hb dX1_determinant_70 ?_
      refine lv_aload_n hx hb dX1_determinant_71 rfl (lv_at hl 3 rfl) ?_
      refine lv_iload_n hx hb dX1_determinant_72 rfl (lv_at hl 4 rfl) ?_
      refine lv_iconst (v := nI 1) hx hb dX1_determinant_73 (by decide) ?_
      refine fn_iadd X dX1_determinant_74 ?_
      refine lv_iload_n hx hb dX1_determinant_75 rfl (lv_at hl 5 rfl) ?_
      refine lv_iload_n hx hb dX1_determinant_76 rfl (lv_at hl 6 rfl) ?_
      refine lv_iconst (v := nI 1) hx hb dX1_determinant_77 (by decide) ?_
      refine lv_iload hx hb dX1_determinant_78 (lv_at hl 0 rfl) ?_
      refine lv_ishl hx hb dX1_determinant_80 ?_
      refine W.eq (g2 := F0 m 81 ls [.int (nI (2 ^ i)), .int (nI w), .int (nI u), .int (nI (a + 1)), .ref (ad 0), .long (sg * ((I (2 + a) i).toInt64)), .long vv]) (by rw [shl_ok (by omega)]) ?_
      have h77 := bit_le c2
      refine fn_isub X dX1_determinant_81 (by omega) ?_
      refine fl_callV (k := 0) (As := [.int (nI (a + 1)), .int (nI u), .int (nI (w - (2 ^ i)))]) (rest := [.long (sg * ((I (2 + a) i).toInt64)), .long vv]) X hI dX1_determinant_82 (hM (w - 2 ^ i) (Nat.lt_of_le_of_lt (Nat.sub_le _ _) hw)) (by omega) fl_c_5 rfl rfl wc_yX1_determinant wm_X1_149 wi_yX1_determinant wl_yX1_determinant wn_X1 hd_yX1_determinant rfl ⟨by first | decide | omega, by first | decide | omega⟩ hl.1 (Nat.le_of_ble_eq_true rfl) (fun v I2 J2 H locs hp hI => ?_)
      obtain ⟨hv, hI2, hJ2⟩ := hp
      subst hv
      rw [hI2, hJ2] at hI
      refine W.eq (g2 := F0 m 85 ls [.long (x_det n I u kd (a + 1) (w - 2 ^ i)), .long (sg * ((I (2 + a) i).toInt64)), .long vv]) rfl ?_
      refine lv_lmul hx hb dX1_determinant_85 ?_
      refine lv_ladd hx hb dX1_determinant_86 ?_
      refine lv_lstore (lv' := [(4, .long (vv + ((sg * ((I (2 + a) i).toInt64)) * (x_det n I u kd (a + 1) (w - 2 ^ i))))), (8, .int (nI i)), (6, .long sg), (0, .ref (ad 0)), (1, .int (nI a)), (2, .int (nI u)), (3, .int (nI w))]) hx hb dX1_determinant_87 hl (by decide) rfl (fun ls hl => ?_)
      refine lv_lload hx hb dX1_determinant_89 (lv_at hl 2 rfl) ?_
      refine lv_lneg hx hb dX1_determinant_91 ?_
      refine lv_lstore (lv' := [(6, .long (-sg)), (4, .long (vv + ((sg * ((I (2 + a) i).toInt64)) * (x_det n I u kd (a + 1) (w - 2 ^ i))))), (8, .int (nI i)), (0, .ref (ad 0)), (1, .int (nI a)), (2, .int (nI u)), (3, .int (nI w))]) hx hb dX1_determinant_92 hl (by decide) rfl (fun ls hl => ?_)
      refine fn_iinc (a := i) (lv' := [(8, .int (nI (i + 1))), (6, .long (-sg)), (4, .long (vv + ((sg * ((I (2 + a) i).toInt64)) * (x_det n I u kd (a + 1) (w - 2 ^ i))))), (0, .ref (ad 0)), (1, .int (nI a)), (2, .int (nI u)), (3, .int (nI w))]) X dX1_determinant_94 hl (k := 2) rfl (by decide) rfl (fun ls hl => ?_)
      refine lv_goto (tgt := 37) hx hb dX1_determinant_97 (by decide) ?_
      exact ih (i + 1) _ _ _ _ _ (by omega) hI (lv_sub hl [0, 1, 2, 3, 4, 5, 6] rfl) (by have h9 := hF; simp only [fl_it] at h9; first | (rw [if_pos c2] at h9; exact h9) | (rw [if_neg c2] at h9; exact h9))
theorem m_det (D : va_G) (dA : Nat → ClassId) (ad : Nat → Nat) (N : Nat) (I : fl_TI) (J : fl_TJ) (hN : 30 ≤ N) {n eq u : Nat} (hn : I 0 2 = nI n) (hn4 : n ≤ 4) (he : I 0 3 = nI eq) (he3 : eq ≤ 3) (hu : u < 16) : ∀ (kd a w : Nat), a + kd = eq → w < 16 → FM yX1_determinant cX1_determinant 9 (some .long) kd D dA ad N [.ref (ad 0), .int (nI a), .int (nI u), .int (nI w)] I J (fun v I' J' => v = some (.long (x_det n I u kd a w)) ∧ I' = I ∧ J' = J) := by
  intro kd
  induction kd with
  | zero =>
    intro a w hk hw
    have hk : eq = a := by omega
    subst hk
    refine FM.ofW RX1 rfl (by decide +kernel) (Nat.le_of_ble_eq_true rfl) ?_
    intro p l e s m args below meth c ls X hr hlk hI hl
    have hx := X.1
    have hb := X.2.1
    have hl : lv_has ls 9 [(0, .ref (ad 0)), (1, .int (nI eq)), (2, .int (nI u)), (3, .int (nI w))] := hl
    refine lv_iload_n hx hb dX1_determinant_0 rfl (lv_at hl 1 rfl) ?_
    refine lv_aload_n hx hb dX1_determinant_1 rfl (lv_at hl 0 rfl) ?_
    refine fl_get1 X hI dX1_determinant_2 (by omega) 3 (by decide) wf_X1_46 rfl ?_
    refine W.eq (g2 := F0 m 5 ls [.int (nI eq), .int (nI eq)]) (by rw [he]) ?_
    refine fn_icmp_lt X (tgt := 10) dX1_determinant_5 (by decide) (by omega) (by omega) (fun c1 => absurd c1 (by omega)) (fun c1 => ?_)
    refine lv_lconst (v := 1) hx hb dX1_determinant_8 rfl ?_
    exact fl_lret X hr hlk hI dX1_determinant_9 ⟨rfl, rfl, rfl⟩
  | succ kd ih =>
    intro a w hk hw
    refine FM.ofW RX1 rfl (by decide +kernel) (Nat.le_of_ble_eq_true rfl) ?_
    intro p l e s m args below meth c ls X hr hlk hI hl
    have hx := X.1
    have hb := X.2.1
    have hl : lv_has ls 9 [(0, .ref (ad 0)), (1, .int (nI a)), (2, .int (nI u)), (3, .int (nI w))] := hl
    refine lv_iload_n hx hb dX1_determinant_0 rfl (lv_at hl 1 rfl) ?_
    refine lv_aload_n hx hb dX1_determinant_1 rfl (lv_at hl 0 rfl) ?_
    refine fl_get1 X hI dX1_determinant_2 (by omega) 3 (by decide) wf_X1_46 rfl ?_
    refine W.eq (g2 := F0 m 5 ls [.int (nI eq), .int (nI a)]) (by rw [he]) ?_
    refine fn_icmp_lt X (tgt := 10) dX1_determinant_5 (by decide) (by omega) (by omega) (fun c1 => ?_) (fun c1 => absurd c1 (by omega))
    refine lv_iload_n hx hb dX1_determinant_10 rfl (lv_at hl 2 rfl) ?_
    refine lv_iload_n hx hb dX1_determinant_11 rfl (lv_at hl 1 rfl) ?_
    refine lv_ishr hx hb dX1_determinant_12 ?_
    refine lv_iconst (v := nI 1) hx hb dX1_determinant_13 (by decide) ?_
    refine lv_iand hx hb dX1_determinant_14 ?_
    refine W.eq (g2 := F0 m 15 ls [.int (nI (u / 2 ^ a % 2))]) (by rw [bit_ok hu (by omega)]) ?_
    refine fn_if_ne X (tgt := 28) dX1_determinant_15 (by decide) (by omega) (fun c2 => ?_) (fun c2 => ?_)
    · refine lv_lconst (v := 0) hx hb dX1_determinant_28 rfl ?_
      refine lv_lstore (lv' := [(4, .long 0), (0, .ref (ad 0)), (1, .int (nI a)), (2, .int (nI u)), (3, .int (nI w))]) hx hb dX1_determinant_29 hl (by decide) rfl (fun ls hl => ?_)
      refine lv_lconst (v := 1) hx hb dX1_determinant_31 rfl ?_
      refine lv_lstore (lv' := [(6, .long 1), (4, .long 0), (0, .ref (ad 0)), (1, .int (nI a)), (2, .int (nI u)), (3, .int (nI w))]) hx hb dX1_determinant_32 hl (by decide) rfl (fun ls hl => ?_)
      refine lv_iconst (v := nI 0) hx hb dX1_determinant_34 (by decide) ?_
      refine lv_istore (lv' := [(8, .int (nI 0)), (6, .long 1), (4, .long 0), (0, .ref (ad 0)), (1, .int (nI a)), (2, .int (nI u)), (3, .int (nI w))]) hx hb dX1_determinant_35 hl (by decide) rfl (fun ls hl => ?_)
      refine lp_det X hN hn hn4 he he3 (by omega) hu hw (fun w hw => ih (a + 1) w (by omega) hw) ⟨Nat.le_refl _, (show _ ≤ 40 * (kd + 1) by omega)⟩ (vv9 := x_det n I u (kd + 1) a w) (sg9 := (fl_it (fun j (x : Int64 × Int64) => if w / 2 ^ j % 2 = 1 then (x.1 + x.2 * (I (2 + a) j).toInt64 * x_det n I u kd (a + 1) (w - 2 ^ j), -x.2) else x) n 0 (0, 1)).2) (fun H locs ls hI hl => ?_) n 0 _ _ _ _ _ (Nat.zero_add _) hI (lv_sub hl [0, 1, 2, 3, 4, 5, 6] rfl) (by rw [x_det, if_neg (by omega)])
      refine lv_lload hx hb dX1_determinant_100 (lv_at hl 2 rfl) ?_
      exact fl_lret X hr hlk hI dX1_determinant_102 ⟨rfl, rfl, rfl⟩
    · refine lv_aload_n hx hb dX1_determinant_18 rfl (lv_at hl 0 rfl) ?_
      refine lv_iload_n hx hb dX1_determinant_19 rfl (lv_at hl 1 rfl) ?_
      refine lv_iconst (v := nI 1) hx hb dX1_determinant_20 (by decide) ?_
      refine fn_iadd X dX1_determinant_21 ?_
      refine lv_iload_n hx hb dX1_determinant_22 rfl (lv_at hl 2 rfl) ?_
      refine lv_iload_n hx hb dX1_determinant_23 rfl (lv_at hl 3 rfl) ?_
      refine fl_callV (k := 0) (As := [.int (nI (a + 1)), .int (nI u), .int (nI w)]) (rest := []) X hI dX1_determinant_24 (ih (a + 1) w (by omega) hw) (by omega) fl_c_5 rfl rfl wc_yX1_determinant wm_X1_149 wi_yX1_determinant wl_yX1_determinant wn_X1 hd_yX1_determinant rfl ⟨Nat.le_refl _, (show _ ≤ 40 * (kd + 1) by omega)⟩ hl.1 (Nat.le_of_ble_eq_true rfl) (fun v I2 J2 H locs hp hI => ?_)
      obtain ⟨hv, hI2, hJ2⟩ := hp
      subst hv
      rw [hI2, hJ2] at hI
      refine W.eq (g2 := F0 m 27 ls [.long (x_det n I u kd (a + 1) w)]) rfl ?_
      exact fl_lret X hr hlk hI dX1_determinant_27 ⟨by rw [x_det, if_pos c2], rfl, rfl⟩
