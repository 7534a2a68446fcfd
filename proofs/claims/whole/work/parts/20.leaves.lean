/-! leaves -/
/-- Math.floorDiv of longs -/
def fd64 (a b : Int64) : Int64 := if (a ^^^ b) < 0 then (if a / b * b = a then a / b else a / b - 1) else a / b
theorem m_floorDiv (D : va_G) (dA : Nat → ClassId) (ad : Nat → Nat) (N : Nat) (I : fl_TI) (J : fl_TJ) (a b : Int64) (hb0 : ¬ b = 0) : FM yJ9_floorDiv_f86c9 cJ9_floorDiv_f86c9 6 (some .long) 0 D dA ad N [.long a, .long b] I J (fun v I' J' => v = some (.long (fd64 a b)) ∧ I' = I ∧ J' = J) := by
  refine FM.ofW RJ9 rfl (by decide +kernel) (Nat.le_of_ble_eq_true rfl) ?_
  intro p l e s m args below meth c ls X hr hlk hI hl
  have hx := X.1
  have hb := X.2.1
  have hl : lv_has ls 6 [(0, .long a), (2, .long b)] := hl
  refine lv_lload_n hx hb dJ9_floorDiv_f86c9_0 rfl (lv_at hl 0 rfl) ?_
  refine lv_lload_n hx hb dJ9_floorDiv_f86c9_1 rfl (lv_at hl 1 rfl) ?_
  refine lv_ldiv hx hb dJ9_floorDiv_f86c9_2 (by assumption) ?_
  refine lv_lstore (lv' := [(4, .long (a / b)), (0, .long a), (2, .long b)]) hx hb dJ9_floorDiv_f86c9_3 hl (by decide) rfl (fun ls hl => ?_)
  refine lv_lload_n hx hb dJ9_floorDiv_f86c9_5 rfl (lv_at hl 1 rfl) ?_
  refine lv_lload_n hx hb dJ9_floorDiv_f86c9_6 rfl (lv_at hl 2 rfl) ?_
  refine lv_lxor hx hb dJ9_floorDiv_f86c9_7 ?_
  refine lv_lconst (v := 0) hx hb dJ9_floorDiv_f86c9_8 rfl ?_
  refine fl_lc_ge (tgt := 27) hx hb dJ9_floorDiv_f86c9_9 dJ9_floorDiv_f86c9_10 (by decide) (fun c1 => ?_) (fun c1 => ?_)
  · refine lv_lload hx hb dJ9_floorDiv_f86c9_27 (lv_at hl 0 rfl) ?_
    exact fl_lret X hr hlk hI dJ9_floorDiv_f86c9_29 ⟨by unfold fd64; simp [*], rfl, rfl⟩
  · refine lv_lload hx hb dJ9_floorDiv_f86c9_13 (lv_at hl 0 rfl) ?_
    refine lv_lload_n hx hb dJ9_floorDiv_f86c9_15 rfl (lv_at hl 2 rfl) ?_
    refine lv_lmul hx hb dJ9_floorDiv_f86c9_16 ?_
    refine lv_lload_n hx hb dJ9_floorDiv_f86c9_17 rfl (lv_at hl 1 rfl) ?_
    refine fl_lc_eq (tgt := 27) hx hb dJ9_floorDiv_f86c9_18 dJ9_floorDiv_f86c9_19 (by decide) (fun c2 => ?_) (fun c2 => ?_)
    · refine lv_lload hx hb dJ9_floorDiv_f86c9_27 (lv_at hl 0 rfl) ?_
      exact fl_lret X hr hlk hI dJ9_floorDiv_f86c9_29 ⟨by unfold fd64; simp [*], rfl, rfl⟩
    · refine lv_lload hx hb dJ9_floorDiv_f86c9_22 (lv_at hl 0 rfl) ?_
      refine lv_lconst (v := 1) hx hb dJ9_floorDiv_f86c9_24 rfl ?_
      refine lv_lsub hx hb dJ9_floorDiv_f86c9_25 ?_
      exact fl_lret X hr hlk hI dJ9_floorDiv_f86c9_26 ⟨by unfold fd64; simp [*], rfl, rfl⟩
theorem m_X0_at (D : va_G) (dA : Nat → ClassId) (ad : Nat → Nat) (N : Nat) (I : fl_TI) (J : fl_TJ) {o nr mw : Nat} (hN : 30 ≤ N) (hL : fl_lat o nr mw) {i j : Nat} (hi : i < nr) (hj : j < mw) : FM yX0_at cX0_at 3 (some .long) 0 D dA ad N [.ref (ad o), .int (nI i), .int (nI j)] I J (fun v I' J' => v = some (.long (J (o + 2 + i) j)) ∧ I' = I ∧ J' = J) := by
  refine FM.ofW RX0 rfl (by decide +kernel) (Nat.le_of_ble_eq_true rfl) ?_
  intro p l e s m args below meth c ls X hr hlk hI hl
  have hx := X.1
  have hb := X.2.1
  have hl : lv_has ls 3 [(0, .ref (ad o)), (1, .int (nI i)), (2, .int (nI j))] := hl
  refine lv_aload_n hx hb dX0_at_0 rfl (lv_at hl 0 rfl) ?_
  refine fl_getL X hI dX0_at_1 hN hL 0 (by decide) wf_X0_11 rfl ?_
  refine lv_iload_n hx hb dX0_at_4 rfl (lv_at hl 1 rfl) ?_
  refine fn_aald3 (k := o + 1) X hI dX0_at_5 (by have := lat_b hL; omega) (lat_k1 hL) (by rw [lat_n1 hL]; omega) ?_
  refine lv_iload_n hx hb dX0_at_6 rfl (lv_at hl 2 rfl) ?_
  refine fn_lald (k := o + 2 + i) X hI dX0_at_7 (by have := lat_b hL; omega) (lat_k2 hL (by omega)) (by rw [lat_n2 hL (by omega)]; omega) ?_
  exact fl_lret X hr hlk hI dX0_at_8 ⟨rfl, rfl, rfl⟩
theorem m_X0_put (D : va_G) (dA : Nat → ClassId) (ad : Nat → Nat) (N : Nat) (I : fl_TI) (J : fl_TJ) {o nr mw : Nat} (hN : 30 ≤ N) (hL : fl_lat o nr mw) {i j : Nat} (x : Int64) (hi : i < nr) (hj : j < mw) : FM yX0_put cX0_put 5 none 0 D dA ad N [.ref (ad o), .int (nI i), .int (nI j), .long x] I J (fun v I' J' => v = none ∧ I' = I ∧ J' = fl_up J (o + 2 + i) j x) := by
  refine FM.ofW RX0 rfl (by decide +kernel) (Nat.le_of_ble_eq_true rfl) ?_
  intro p l e s m args below meth c ls X hr hlk hI hl
  have hx := X.1
  have hb := X.2.1
  have hl : lv_has ls 5 [(0, .ref (ad o)), (1, .int (nI i)), (2, .int (nI j)), (3, .long x)] := hl
  refine lv_aload_n hx hb dX0_put_0 rfl (lv_at hl 0 rfl) ?_
  refine fl_getL X hI dX0_put_1 hN hL 0 (by decide) wf_X0_11 rfl ?_
  refine lv_iload_n hx hb dX0_put_4 rfl (lv_at hl 1 rfl) ?_
  refine fn_aald3 (k := o + 1) X hI dX0_put_5 (by have := lat_b hL; omega) (lat_k1 hL) (by rw [lat_n1 hL]; omega) ?_
  refine lv_iload_n hx hb dX0_put_6 rfl (lv_at hl 2 rfl) ?_
  refine lv_lload_n hx hb dX0_put_7 rfl (lv_at hl 3 rfl) ?_
  refine fn_last (k := o + 2 + i) X hI dX0_put_8 (by have := lat_b hL; omega) (lat_k2 hL (by omega)) (by rw [lat_n2 hL (by omega)]; omega) (fun H locs hI => ?_)
  exact fl_vret X hr hlk hI dX0_put_9 ⟨rfl, rfl, rfl⟩
theorem m_X0_leadColumn (D : va_G) (dA : Nat → ClassId) (ad : Nat → Nat) (N : Nat) (I : fl_TI) (J : fl_TJ) {o nr mw : Nat} (hN : 30 ≤ N) (hL : fl_lat o nr mw) {i : Nat} (hi : i < nr) : FM yX0_leadColumn cX0_leadColumn 2 (some .int) 0 D dA ad N [.ref (ad o), .int (nI i)] I J (fun v I' J' => v = some (.int (I (o + 2 + nr) i)) ∧ I' = I ∧ J' = J) := by
  refine FM.ofW RX0 rfl (by decide +kernel) (Nat.le_of_ble_eq_true rfl) ?_
  intro p l e s m args below meth c ls X hr hlk hI hl
  have hx := X.1
  have hb := X.2.1
  have hl : lv_has ls 2 [(0, .ref (ad o)), (1, .int (nI i))] := hl
  refine lv_aload_n hx hb dX0_leadColumn_0 rfl (lv_at hl 0 rfl) ?_
  refine fl_getL X hI dX0_leadColumn_1 hN hL 1 (by decide) wf_X0_16 rfl ?_
  refine lv_iload_n hx hb dX0_leadColumn_4 rfl (lv_at hl 1 rfl) ?_
  refine fn_iald (k := o + 2 + nr) X hI dX0_leadColumn_5 (by have := lat_b hL; omega) (lat_kl hL) (by rw [lat_nl hL]; omega) ?_
  exact fl_iret X hr hlk hI dX0_leadColumn_6 ⟨rfl, rfl, rfl⟩
theorem m_X1_isSum (D : va_G) (dA : Nat → ClassId) (ad : Nat → Nat) (N : Nat) (I : fl_TI) (J : fl_TJ) (x : Int32) : FM yX1_isSum cX1_isSum 1 (some .boolean) 0 D dA ad N [.int x] I J (fun v I' J' => v = some (.int (if ¬ x < -1000 ∧ ¬ nI 1000 < x then nI 1 else nI 0)) ∧ I' = I ∧ J' = J) := by
  refine FM.ofW RX1 rfl (by decide +kernel) (Nat.le_of_ble_eq_true rfl) ?_
  intro p l e s m args below meth c ls X hr hlk hI hl
  have hx := X.1
  have hb := X.2.1
  have hl : lv_has ls 1 [(0, .int x)] := hl
  refine lv_iload_n hx hb dX1_isSum_0 rfl (lv_at hl 0 rfl) ?_
  refine lv_sipush (v := (-1000)) hx hb dX1_isSum_1 (by decide) ?_
  refine lv_icmp_lt (tgt := 18) hx hb dX1_isSum_4 (by decide) (fun c1 => ?_) (fun c1 => ?_)
  · refine lv_iconst (v := nI 0) hx hb dX1_isSum_18 (by decide) ?_
    exact fl_zret X hr hlk hI dX1_isSum_19 (by decide) ⟨by simp [*], rfl, rfl⟩
  · refine lv_iload_n hx hb dX1_isSum_7 rfl (lv_at hl 0 rfl) ?_
    refine lv_sipush (v := nI 1000) hx hb dX1_isSum_8 (by decide) ?_
    refine lv_icmp_gt (tgt := 18) hx hb dX1_isSum_11 (by decide) (fun c2 => ?_) (fun c2 => ?_)
    · refine lv_iconst (v := nI 0) hx hb dX1_isSum_18 (by decide) ?_
      exact fl_zret X hr hlk hI dX1_isSum_19 (by decide) ⟨by simp [*], rfl, rfl⟩
    · refine lv_iconst (v := nI 1) hx hb dX1_isSum_14 (by decide) ?_
      refine lv_goto (tgt := 19) hx hb dX1_isSum_15 (by decide) ?_
      exact fl_zret X hr hlk hI dX1_isSum_19 (by decide) ⟨by simp [*], rfl, rfl⟩
theorem m_X2_isSum (D : va_G) (dA : Nat → ClassId) (ad : Nat → Nat) (N : Nat) (I : fl_TI) (J : fl_TJ) (x : Int32) : FM yX2_isSum cX2_isSum 1 (some .boolean) 0 D dA ad N [.int x] I J (fun v I' J' => v = some (.int (if ¬ x < -1000 ∧ ¬ nI 1000 < x then nI 1 else nI 0)) ∧ I' = I ∧ J' = J) := by
  refine FM.ofW RX2 rfl (by decide +kernel) (Nat.le_of_ble_eq_true rfl) ?_
  intro p l e s m args below meth c ls X hr hlk hI hl
  have hx := X.1
  have hb := X.2.1
  have hl : lv_has ls 1 [(0, .int x)] := hl
  refine lv_iload_n hx hb dX2_isSum_0 rfl (lv_at hl 0 rfl) ?_
  refine lv_sipush (v := (-1000)) hx hb dX2_isSum_1 (by decide) ?_
  refine lv_icmp_lt (tgt := 18) hx hb dX2_isSum_4 (by decide) (fun c1 => ?_) (fun c1 => ?_)
  · refine lv_iconst (v := nI 0) hx hb dX2_isSum_18 (by decide) ?_
    exact fl_zret X hr hlk hI dX2_isSum_19 (by decide) ⟨by simp [*], rfl, rfl⟩
  · refine lv_iload_n hx hb dX2_isSum_7 rfl (lv_at hl 0 rfl) ?_
    refine lv_sipush (v := nI 1000) hx hb dX2_isSum_8 (by decide) ?_
    refine lv_icmp_gt (tgt := 18) hx hb dX2_isSum_11 (by decide) (fun c2 => ?_) (fun c2 => ?_)
    · refine lv_iconst (v := nI 0) hx hb dX2_isSum_18 (by decide) ?_
      exact fl_zret X hr hlk hI dX2_isSum_19 (by decide) ⟨by simp [*], rfl, rfl⟩
    · refine lv_iconst (v := nI 1) hx hb dX2_isSum_14 (by decide) ?_
      refine lv_goto (tgt := 19) hx hb dX2_isSum_15 (by decide) ?_
      exact fl_zret X hr hlk hI dX2_isSum_19 (by decide) ⟨by simp [*], rfl, rfl⟩
