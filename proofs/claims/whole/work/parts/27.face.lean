/-! the face of the solver, but for invariant, box, modulo, spread, check -/
theorem b_t {C : Prop} [Decidable C] (h : ¬ (if C then nI 1 else nI 0) = 0) : C := by
  by_cases q : C
  · exact q
  · rw [if_neg q] at h; exact absurd rfl h
theorem b_f {C : Prop} [Decidable C] (h : (if C then nI 1 else nI 0) = 0) : ¬ C := fun q => by
  rw [if_pos q] at h
  exact absurd h (by decide)
theorem m_X1_unknowns_bad (D : va_G) (dA : Nat → ClassId) (ad : Nat → Nat) (N : Nat) (I : fl_TI) (J : fl_TJ) (hN : 30 ≤ N) (x : Int32) (h : x < nI 1 ∨ ¬ x ≤ nI 4) : FM yX1_unknowns cX1_unknowns 2 (some .int) 5 D dA ad N [.ref (ad 0), .int x] I J (fun v I' J' => v = some (.int (nI 0)) ∧ I' = I ∧ J' = J) := by
  refine FM.ofW RX1 rfl (by decide +kernel) (Nat.le_of_ble_eq_true rfl) ?_
  intro p l e s m args below meth c ls X hr hlk hI hl
  have hx := X.1
  have hb := X.2.1
  have hl : lv_has ls 2 [(0, .ref (ad 0)), (1, .int x)] := hl
  refine lv_iload_n hx hb dX1_unknowns_0 rfl (lv_at hl 1 rfl) ?_
  refine lv_iconst (v := nI 1) hx hb dX1_unknowns_1 (by decide) ?_
  refine lv_icmp_lt (tgt := 10) hx hb dX1_unknowns_2 (by decide) (fun c1 => ?_) (fun c1 => ?_)
  · refine lv_iconst (v := nI 0) hx hb dX1_unknowns_10 (by decide) ?_
    exact fl_iret X hr hlk hI dX1_unknowns_11 ⟨rfl, rfl, rfl⟩
  · refine lv_iload_n hx hb dX1_unknowns_5 rfl (lv_at hl 1 rfl) ?_
    refine lv_iconst (v := nI 4) hx hb dX1_unknowns_6 (by decide) ?_
    refine lv_icmp_le (tgt := 12) hx hb dX1_unknowns_7 (by decide) (fun c2 => ?_) (fun c2 => ?_)
    · exact absurd h (fun q => q.elim c1 (fun z => z c2))
    · refine lv_iconst (v := nI 0) hx hb dX1_unknowns_10 (by decide) ?_
      exact fl_iret X hr hlk hI dX1_unknowns_11 ⟨rfl, rfl, rfl⟩
theorem m_X1_unknowns (D : va_G) (dA : Nat → ClassId) (ad : Nat → Nat) (N : Nat) (I : fl_TI) (J : fl_TJ) (hN : 30 ≤ N) {n : Nat} (hn1 : 1 ≤ n) (hn4 : n ≤ 4) : FM yX1_unknowns cX1_unknowns 2 (some .int) 5 D dA ad N [.ref (ad 0), .int (nI n)] I J (fun v I' J' => v = some (.int (nI 1)) ∧ I' = x_formI n 0 (fl_up (fl_up I 0 2 (nI n)) 0 3 (nI 0)) J ∧ J' = x_formJ n 0 (fl_up (fl_up I 0 2 (nI n)) 0 3 (nI 0)) J) := by
  refine FM.ofW RX1 rfl (by decide +kernel) (Nat.le_of_ble_eq_true rfl) ?_
  intro p l e s m args below meth c ls X hr hlk hI hl
  have hx := X.1
  have hb := X.2.1
  have hl : lv_has ls 2 [(0, .ref (ad 0)), (1, .int (nI n))] := hl
  refine lv_iload_n hx hb dX1_unknowns_0 rfl (lv_at hl 1 rfl) ?_
  refine lv_iconst (v := nI 1) hx hb dX1_unknowns_1 (by decide) ?_
  refine fn_icmp_lt X (tgt := 10) dX1_unknowns_2 (by decide) (by omega) (by omega) (fun c1 => absurd c1 (by omega)) (fun c1 => ?_)
  refine lv_iload_n hx hb dX1_unknowns_5 rfl (lv_at hl 1 rfl) ?_
  refine lv_iconst (v := nI 4) hx hb dX1_unknowns_6 (by decide) ?_
  refine fn_icmp_le X (tgt := 12) dX1_unknowns_7 (by decide) (by omega) (by omega) (fun c2 => ?_) (fun c2 => absurd c2 (by omega))
  refine lv_aload_n hx hb dX1_unknowns_12 rfl (lv_at hl 0 rfl) ?_
  refine lv_iload_n hx hb dX1_unknowns_13 rfl (lv_at hl 1 rfl) ?_
  refine fl_put1 X hI dX1_unknowns_14 (by omega) 2 (by decide) wf_X1_42 (fun H locs hI => ?_)
  refine lv_aload_n hx hb dX1_unknowns_17 rfl (lv_at hl 0 rfl) ?_
  refine lv_iconst (v := nI 0) hx hb dX1_unknowns_18 (by decide) ?_
  refine fl_put1 X hI dX1_unknowns_19 (by omega) 3 (by decide) wf_X1_46 (fun H locs hI => ?_)
  refine lv_aload_n hx hb dX1_unknowns_22 rfl (lv_at hl 0 rfl) ?_
  refine fl_callV (k := 0) (As := []) (rest := []) X hI dX1_unknowns_23 (m_X1_formWhole D dA ad N (fl_up (fl_up I 0 2 (nI n)) 0 3 (nI 0)) J hN (n := n) (eq := 0) (by rw [fl_up_j (by omega), fl_up_s]) (by omega) fl_up_s (by omega)) (by omega) fl_c_5 rfl rfl wc_yX1_formWhole wm_X1_49 wi_yX1_formWhole wl_yX1_formWhole wn_X1 hd_yX1_formWhole rfl ⟨by first | decide | omega, by first | decide | omega⟩ hl.1 (Nat.le_of_ble_eq_true rfl) (fun v I2 J2 H locs hp hI => ?_)
  obtain ⟨hv, hI2, hJ2⟩ := hp
  subst hv
  rw [hI2, hJ2] at hI
  refine W.eq (g2 := F0 m 26 ls []) rfl ?_
  refine lv_iconst (v := nI 1) hx hb dX1_unknowns_26 (by decide) ?_
  exact fl_iret X hr hlk hI dX1_unknowns_27 ⟨rfl, rfl, rfl⟩
def i_eqn (eq : Nat) (x0 x1 x2 x3 xs : Int32) (I : fl_TI) : fl_TI := fl_up (fl_up (fl_up (fl_up (fl_up (fl_up I (2 + eq) 0 x0) (2 + eq) 1 x1) (2 + eq) 2 x2) (2 + eq) 3 x3) 5 eq xs) 0 3 (nI (eq + 1))
theorem i_eqn_02 {eq : Nat} {x0 x1 x2 x3 xs : Int32} {I : fl_TI} : i_eqn eq x0 x1 x2 x3 xs I 0 2 = I 0 2 := by unfold i_eqn; rw [fl_up_j (by omega), fl_up_k (by omega), fl_up_k (by omega), fl_up_k (by omega), fl_up_k (by omega), fl_up_k (by omega)]
theorem m_X1_equation_bad (D : va_G) (dA : Nat → ClassId) (ad : Nat → Nat) (N : Nat) (I : fl_TI) (J : fl_TJ) (hN : 30 ≤ N) {n eq : Nat} {x0 x1 x2 x3 xs : Int32} (hn : I 0 2 = nI n) (hn4 : n ≤ 4) (he : I 0 3 = nI eq) (he3 : eq ≤ 3) (hbad : ¬ (eq < 3 ∧ (¬ xs < -1000 ∧ ¬ nI 1000 < xs) ∧ (n ≤ 0 ∨ (¬ x0 < -9 ∧ ¬ nI 9 < x0)) ∧ (n ≤ 1 ∨ (¬ x1 < -9 ∧ ¬ nI 9 < x1)) ∧ (n ≤ 2 ∨ (¬ x2 < -9 ∧ ¬ nI 9 < x2)) ∧ (n ≤ 3 ∨ (¬ x3 < -9 ∧ ¬ nI 9 < x3)))) : FM yX1_equation cX1_equation 7 (some .int) 5 D dA ad N [.ref (ad 0), .int x0, .int x1, .int x2, .int x3, .int xs] I J (fun v I' J' => v = some (.int (-1)) ∧ I' = I ∧ J' = J) := by
  refine FM.ofW RX1 rfl (by decide +kernel) (Nat.le_of_ble_eq_true rfl) ?_
  intro p l e s m args below meth c ls X hr hlk hI hl
  have hx := X.1
  have hb := X.2.1
  have hl : lv_has ls 7 [(0, .ref (ad 0)), (1, .int x0), (2, .int x1), (3, .int x2), (4, .int x3), (5, .int xs)] := hl
  refine lv_aload_n hx hb dX1_equation_0 rfl (lv_at hl 0 rfl) ?_
  refine fl_get1 X hI dX1_equation_1 (by omega) 3 (by decide) wf_X1_46 rfl ?_
  refine W.eq (g2 := F0 m 4 ls [.int (nI eq)]) (by rw [he]) ?_
  refine lv_iconst (v := nI 3) hx hb dX1_equation_4 (by decide) ?_
  refine fn_icmp_ge X (tgt := 16) dX1_equation_5 (by decide) (by omega) (by omega) (fun c1 => ?_) (fun c1 => ?_)
  · refine lv_iconst (v := (-1)) hx hb dX1_equation_16 (by decide) ?_
    exact fl_iret X hr hlk hI dX1_equation_17 ⟨rfl, rfl, rfl⟩
  · refine lv_iload hx hb dX1_equation_8 (lv_at hl 5 rfl) ?_
    refine fl_callS (As := [.int xs]) (rest := []) X hI dX1_equation_10 (m_X1_isSum D dA ad N I J xs) wc_yX1_isSum wm_X1_52 ws_yX1_isSum wn_X1 hd_yX1_isSum rfl ⟨by first | decide | omega, by first | decide | omega⟩ hl.1 (Nat.le_of_ble_eq_true rfl) (fun v I2 J2 H locs hp hI => ?_)
    obtain ⟨hv, hI2, hJ2⟩ := hp
    subst hv
    rw [hI2, hJ2] at hI
    refine W.eq (g2 := F0 m 13 ls [.int (if ¬ xs < -1000 ∧ ¬ nI 1000 < xs then nI 1 else nI 0)]) rfl ?_
    refine lv_if_ne (tgt := 18) hx hb dX1_equation_13 (by decide) (fun c2 => ?_) (fun c2 => ?_)
    · refine lv_aload_n hx hb dX1_equation_18 rfl (lv_at hl 0 rfl) ?_
      refine lv_iconst (v := nI 0) hx hb dX1_equation_19 (by decide) ?_
      refine lv_iload_n hx hb dX1_equation_20 rfl (lv_at hl 1 rfl) ?_
      refine fl_callV (k := 0) (As := [.int (nI 0), .int x0]) (rest := []) X hI dX1_equation_21 (m_X1_isFactor D dA ad N I J hN x0 hn hn4 (by omega)) (by omega) fl_c_5 rfl rfl wc_yX1_isFactor wm_X1_56 wi_yX1_isFactor wl_yX1_isFactor wn_X1 hd_yX1_isFactor rfl ⟨by first | decide | omega, by first | decide | omega⟩ hl.1 (Nat.le_of_ble_eq_true rfl) (fun v I2 J2 H locs hp hI => ?_)
      obtain ⟨hv, hI2, hJ2⟩ := hp
      subst hv
      rw [hI2, hJ2] at hI
      refine W.eq (g2 := F0 m 24 ls [.int (if n ≤ 0 ∨ (¬ x0 < -9 ∧ ¬ nI 9 < x0) then nI 1 else nI 0)]) rfl ?_
      refine lv_if_eq (tgt := 55) hx hb dX1_equation_24 (by decide) (fun c3 => ?_) (fun c3 => ?_)
      · refine lv_iconst (v := (-1)) hx hb dX1_equation_55 (by decide) ?_
        exact fl_iret X hr hlk hI dX1_equation_56 ⟨rfl, rfl, rfl⟩
      · refine lv_aload_n hx hb dX1_equation_27 rfl (lv_at hl 0 rfl) ?_
        refine lv_iconst (v := nI 1) hx hb dX1_equation_28 (by decide) ?_
        refine lv_iload_n hx hb dX1_equation_29 rfl (lv_at hl 2 rfl) ?_
        refine fl_callV (k := 0) (As := [.int (nI 1), .int x1]) (rest := []) X hI dX1_equation_30 (m_X1_isFactor D dA ad N I J hN x1 hn hn4 (by omega)) (by omega) fl_c_5 rfl rfl wc_yX1_isFactor wm_X1_56 wi_yX1_isFactor wl_yX1_isFactor wn_X1 hd_yX1_isFactor rfl ⟨by first | decide | omega, by first | decide | omega⟩ hl.1 (Nat.le_of_ble_eq_true rfl) (fun v I2 J2 H locs hp hI => ?_)
        obtain ⟨hv, hI2, hJ2⟩ := hp
        subst hv
        rw [hI2, hJ2] at hI
        refine W.eq (g2 := F0 m 33 ls [.int (if n ≤ 1 ∨ (¬ x1 < -9 ∧ ¬ nI 9 < x1) then nI 1 else nI 0)]) rfl ?_
        refine lv_if_eq (tgt := 55) hx hb dX1_equation_33 (by decide) (fun c4 => ?_) (fun c4 => ?_)
        · refine lv_iconst (v := (-1)) hx hb dX1_equation_55 (by decide) ?_
          exact fl_iret X hr hlk hI dX1_equation_56 ⟨rfl, rfl, rfl⟩
        · refine lv_aload_n hx hb dX1_equation_36 rfl (lv_at hl 0 rfl) ?_
          refine lv_iconst (v := nI 2) hx hb dX1_equation_37 (by decide) ?_
          refine lv_iload_n hx hb dX1_equation_38 rfl (lv_at hl 3 rfl) ?_
          refine fl_callV (k := 0) (As := [.int (nI 2), .int x2]) (rest := []) X hI dX1_equation_39 (m_X1_isFactor D dA ad N I J hN x2 hn hn4 (by omega)) (by omega) fl_c_5 rfl rfl wc_yX1_isFactor wm_X1_56 wi_yX1_isFactor wl_yX1_isFactor wn_X1 hd_yX1_isFactor rfl ⟨by first | decide | omega, by first | decide | omega⟩ hl.1 (Nat.le_of_ble_eq_true rfl) (fun v I2 J2 H locs hp hI => ?_)
          obtain ⟨hv, hI2, hJ2⟩ := hp
          subst hv
          rw [hI2, hJ2] at hI
          refine W.eq (g2 := F0 m 42 ls [.int (if n ≤ 2 ∨ (¬ x2 < -9 ∧ ¬ nI 9 < x2) then nI 1 else nI 0)]) rfl ?_
          refine lv_if_eq (tgt := 55) hx hb dX1_equation_42 (by decide) (fun c5 => ?_) (fun c5 => ?_)
          · refine lv_iconst (v := (-1)) hx hb dX1_equation_55 (by decide) ?_
            exact fl_iret X hr hlk hI dX1_equation_56 ⟨rfl, rfl, rfl⟩
          · refine lv_aload_n hx hb dX1_equation_45 rfl (lv_at hl 0 rfl) ?_
            refine lv_iconst (v := nI 3) hx hb dX1_equation_46 (by decide) ?_
            refine lv_iload hx hb dX1_equation_47 (lv_at hl 4 rfl) ?_
            refine fl_callV (k := 0) (As := [.int (nI 3), .int x3]) (rest := []) X hI dX1_equation_49 (m_X1_isFactor D dA ad N I J hN x3 hn hn4 (by omega)) (by omega) fl_c_5 rfl rfl wc_yX1_isFactor wm_X1_56 wi_yX1_isFactor wl_yX1_isFactor wn_X1 hd_yX1_isFactor rfl ⟨by first | decide | omega, by first | decide | omega⟩ hl.1 (Nat.le_of_ble_eq_true rfl) (fun v I2 J2 H locs hp hI => ?_)
            obtain ⟨hv, hI2, hJ2⟩ := hp
            subst hv
            rw [hI2, hJ2] at hI
            refine W.eq (g2 := F0 m 52 ls [.int (if n ≤ 3 ∨ (¬ x3 < -9 ∧ ¬ nI 9 < x3) then nI 1 else nI 0)]) rfl ?_
            refine lv_if_ne (tgt := 57) hx hb dX1_equation_52 (by decide) (fun c6 => ?_) (fun c6 => ?_)
            · exact absurd ⟨c1, b_t c2, b_t c3, b_t c4, b_t c5, b_t c6⟩ hbad
            · refine lv_iconst (v := (-1)) hx hb dX1_equation_55 (by decide) ?_
              exact fl_iret X hr hlk hI dX1_equation_56 ⟨rfl, rfl, rfl⟩
    · refine lv_iconst (v := (-1)) hx hb dX1_equation_16 (by decide) ?_
      exact fl_iret X hr hlk hI dX1_equation_17 ⟨rfl, rfl, rfl⟩
theorem m_X1_equation (D : va_G) (dA : Nat → ClassId) (ad : Nat → Nat) (N : Nat) (I : fl_TI) (J : fl_TJ) (hN : 30 ≤ N) {n eq : Nat} {x0 x1 x2 x3 xs : Int32} (hn : I 0 2 = nI n) (hn4 : n ≤ 4) (he : I 0 3 = nI eq) (he3 : eq ≤ 3) (h3 : eq < 3) (hs : (¬ xs < -1000 ∧ ¬ nI 1000 < xs)) (hf0 : (n ≤ 0 ∨ (¬ x0 < -9 ∧ ¬ nI 9 < x0))) (hf1 : (n ≤ 1 ∨ (¬ x1 < -9 ∧ ¬ nI 9 < x1))) (hf2 : (n ≤ 2 ∨ (¬ x2 < -9 ∧ ¬ nI 9 < x2))) (hf3 : (n ≤ 3 ∨ (¬ x3 < -9 ∧ ¬ nI 9 < x3))) : FM yX1_equation cX1_equation 7 (some .int) 5 D dA ad N [.ref (ad 0), .int x0, .int x1, .int x2, .int x3, .int xs] I J (fun v I' J' => v = some (.int (nI eq)) ∧ I' = x_formI n (eq + 1) (i_eqn eq x0 x1 x2 x3 xs I) J ∧ J' = x_formJ n (eq + 1) (i_eqn eq x0 x1 x2 x3 xs I) J) := by
  refine FM.ofW RX1 rfl (by decide +kernel) (Nat.le_of_ble_eq_true rfl) ?_
  intro p l e s m args below meth c ls X hr hlk hI hl
  have hx := X.1
  have hb := X.2.1
  have hl : lv_has ls 7 [(0, .ref (ad 0)), (1, .int x0), (2, .int x1), (3, .int x2), (4, .int x3), (5, .int xs)] := hl
  refine lv_aload_n hx hb dX1_equation_0 rfl (lv_at hl 0 rfl) ?_
  refine fl_get1 X hI dX1_equation_1 (by omega) 3 (by decide) wf_X1_46 rfl ?_
  refine W.eq (g2 := F0 m 4 ls [.int (nI eq)]) (by rw [he]) ?_
  refine lv_iconst (v := nI 3) hx hb dX1_equation_4 (by decide) ?_
  refine fn_icmp_ge X (tgt := 16) dX1_equation_5 (by decide) (by omega) (by omega) (fun c1 => ?_) (fun c1 => ?_)
  · first | exact absurd h3 (by omega) | exact absurd hs (b_f c2)
  · refine lv_iload hx hb dX1_equation_8 (lv_at hl 5 rfl) ?_
    refine fl_callS (As := [.int xs]) (rest := []) X hI dX1_equation_10 (m_X1_isSum D dA ad N I J xs) wc_yX1_isSum wm_X1_52 ws_yX1_isSum wn_X1 hd_yX1_isSum rfl ⟨by first | decide | omega, by first | decide | omega⟩ hl.1 (Nat.le_of_ble_eq_true rfl) (fun v I2 J2 H locs hp hI => ?_)
    obtain ⟨hv, hI2, hJ2⟩ := hp
    subst hv
    rw [hI2, hJ2] at hI
    refine W.eq (g2 := F0 m 13 ls [.int (if ¬ xs < -1000 ∧ ¬ nI 1000 < xs then nI 1 else nI 0)]) rfl ?_
    refine lv_if_ne (tgt := 18) hx hb dX1_equation_13 (by decide) (fun c2 => ?_) (fun c2 => ?_)
    · refine lv_aload_n hx hb dX1_equation_18 rfl (lv_at hl 0 rfl) ?_
      refine lv_iconst (v := nI 0) hx hb dX1_equation_19 (by decide) ?_
      refine lv_iload_n hx hb dX1_equation_20 rfl (lv_at hl 1 rfl) ?_
      refine fl_callV (k := 0) (As := [.int (nI 0), .int x0]) (rest := []) X hI dX1_equation_21 (m_X1_isFactor D dA ad N I J hN x0 hn hn4 (by omega)) (by omega) fl_c_5 rfl rfl wc_yX1_isFactor wm_X1_56 wi_yX1_isFactor wl_yX1_isFactor wn_X1 hd_yX1_isFactor rfl ⟨by first | decide | omega, by first | decide | omega⟩ hl.1 (Nat.le_of_ble_eq_true rfl) (fun v I2 J2 H locs hp hI => ?_)
      obtain ⟨hv, hI2, hJ2⟩ := hp
      subst hv
      rw [hI2, hJ2] at hI
      refine W.eq (g2 := F0 m 24 ls [.int (if n ≤ 0 ∨ (¬ x0 < -9 ∧ ¬ nI 9 < x0) then nI 1 else nI 0)]) rfl ?_
      refine lv_if_eq (tgt := 55) hx hb dX1_equation_24 (by decide) (fun c3 => ?_) (fun c3 => ?_)
      · first | exact absurd hf0 (b_f (by assumption)) | exact absurd hf1 (b_f (by assumption)) | exact absurd hf2 (b_f (by assumption)) | exact absurd hf3 (b_f (by assumption))
      · refine lv_aload_n hx hb dX1_equation_27 rfl (lv_at hl 0 rfl) ?_
        refine lv_iconst (v := nI 1) hx hb dX1_equation_28 (by decide) ?_
        refine lv_iload_n hx hb dX1_equation_29 rfl (lv_at hl 2 rfl) ?_
        refine fl_callV (k := 0) (As := [.int (nI 1), .int x1]) (rest := []) X hI dX1_equation_30 (m_X1_isFactor D dA ad N I J hN x1 hn hn4 (by omega)) (by omega) fl_c_5 rfl rfl wc_yX1_isFactor wm_X1_56 wi_yX1_isFactor wl_yX1_isFactor wn_X1 hd_yX1_isFactor rfl ⟨by first | decide | omega, by first | decide | omega⟩ hl.1 (Nat.le_of_ble_eq_true rfl) (fun v I2 J2 H locs hp hI => ?_)
        obtain ⟨hv, hI2, hJ2⟩ := hp
        subst hv
        rw [hI2, hJ2] at hI
        refine W.eq (g2 := F0 m 33 ls [.int (if n ≤ 1 ∨ (¬ x1 < -9 ∧ ¬ nI 9 < x1) then nI 1 else nI 0)]) rfl ?_
        refine lv_if_eq (tgt := 55) hx hb dX1_equation_33 (by decide) (fun c4 => ?_) (fun c4 => ?_)
        · first | exact absurd hf0 (b_f (by assumption)) | exact absurd hf1 (b_f (by assumption)) | exact absurd hf2 (b_f (by assumption)) | exact absurd hf3 (b_f (by assumption))
        · refine lv_aload_n hx hb dX1_equation_36 rfl (lv_at hl 0 rfl) ?_
          refine lv_iconst (v := nI 2) hx hb dX1_equation_37 (by decide) ?_
          refine lv_iload_n hx hb dX1_equation_38 rfl (lv_at hl 3 rfl) ?_
          refine fl_callV (k := 0) (As := [.int (nI 2), .int x2]) (rest := []) X hI dX1_equation_39 (m_X1_isFactor D dA ad N I J hN x2 hn hn4 (by omega)) (by omega) fl_c_5 rfl rfl wc_yX1_isFactor wm_X1_56 wi_yX1_isFactor wl_yX1_isFactor wn_X1 hd_yX1_isFactor rfl ⟨by first | decide | omega, by first | decide | omega⟩ hl.1 (Nat.le_of_ble_eq_true rfl) (fun v I2 J2 H locs hp hI => ?_)
          obtain ⟨hv, hI2, hJ2⟩ := hp
          subst hv
          rw [hI2, hJ2] at hI
          refine W.eq (g2 := F0 m 42 ls [.int (if n ≤ 2 ∨ (¬ x2 < -9 ∧ ¬ nI 9 < x2) then nI 1 else nI 0)]) rfl ?_
          refine lv_if_eq (tgt := 55) hx hb dX1_equation_42 (by decide) (fun c5 => ?_) (fun c5 => ?_)
          · first | exact absurd hf0 (b_f (by assumption)) | exact absurd hf1 (b_f (by assumption)) | exact absurd hf2 (b_f (by assumption)) | exact absurd hf3 (b_f (by assumption))
          · refine lv_aload_n hx hb dX1_equation_45 rfl (lv_at hl 0 rfl) ?_
            refine lv_iconst (v := nI 3) hx hb dX1_equation_46 (by decide) ?_
            refine lv_iload hx hb dX1_equation_47 (lv_at hl 4 rfl) ?_
            refine fl_callV (k := 0) (As := [.int (nI 3), .int x3]) (rest := []) X hI dX1_equation_49 (m_X1_isFactor D dA ad N I J hN x3 hn hn4 (by omega)) (by omega) fl_c_5 rfl rfl wc_yX1_isFactor wm_X1_56 wi_yX1_isFactor wl_yX1_isFactor wn_X1 hd_yX1_isFactor rfl ⟨by first | decide | omega, by first | decide | omega⟩ hl.1 (Nat.le_of_ble_eq_true rfl) (fun v I2 J2 H locs hp hI => ?_)
            obtain ⟨hv, hI2, hJ2⟩ := hp
            subst hv
            rw [hI2, hJ2] at hI
            refine W.eq (g2 := F0 m 52 ls [.int (if n ≤ 3 ∨ (¬ x3 < -9 ∧ ¬ nI 9 < x3) then nI 1 else nI 0)]) rfl ?_
            refine lv_if_ne (tgt := 57) hx hb dX1_equation_52 (by decide) (fun c6 => ?_) (fun c6 => ?_)
            · refine lv_aload_n hx hb dX1_equation_57 rfl (lv_at hl 0 rfl) ?_
              refine fl_get1 X hI dX1_equation_58 (by omega) 3 (by decide) wf_X1_46 rfl ?_
              refine W.eq (g2 := F0 m 61 ls [.int (nI eq)]) (by rw [he]) ?_
              refine lv_istore (lv' := [(6, .int (nI eq)), (0, .ref (ad 0)), (1, .int x0), (2, .int x1), (3, .int x2), (4, .int x3), (5, .int xs)]) hx hb dX1_equation_61 hl (by decide) rfl (fun ls hl => ?_)
              refine lv_aload_n hx hb dX1_equation_63 rfl (lv_at hl 1 rfl) ?_
              refine fl_get1 X hI dX1_equation_64 (by omega) 0 (by decide) wf_X1_11 rfl ?_
              refine lv_iload hx hb dX1_equation_67 (lv_at hl 0 rfl) ?_
              refine fn_aald2 (k := 1) X hI dX1_equation_69 (by omega) rfl (show eq < 3 by omega) ?_
              refine lv_iconst (v := nI 0) hx hb dX1_equation_70 (by decide) ?_
              refine lv_iload_n hx hb dX1_equation_71 rfl (lv_at hl 2 rfl) ?_
              refine fn_iast (k := 2 + eq) X hI dX1_equation_72 (by omega) (fk2 (by omega)) (by rw [fn2 (by omega)]; omega) (fun H locs hI => ?_)
              refine lv_aload_n hx hb dX1_equation_73 rfl (lv_at hl 1 rfl) ?_
              refine fl_get1 X hI dX1_equation_74 (by omega) 0 (by decide) wf_X1_11 rfl ?_
              refine lv_iload hx hb dX1_equation_77 (lv_at hl 0 rfl) ?_
              refine fn_aald2 (k := 1) X hI dX1_equation_79 (by omega) rfl (show eq < 3 by omega) ?_
              refine lv_iconst (v := nI 1) hx hb dX1_equation_80 (by decide) ?_
              refine lv_iload_n hx hb dX1_equation_81 rfl (lv_at hl 3 rfl) ?_
              refine fn_iast (k := 2 + eq) X hI dX1_equation_82 (by omega) (fk2 (by omega)) (by rw [fn2 (by omega)]; omega) (fun H locs hI => ?_)
              refine lv_aload_n hx hb dX1_equation_83 rfl (lv_at hl 1 rfl) ?_
              refine fl_get1 X hI dX1_equation_84 (by omega) 0 (by decide) wf_X1_11 rfl ?_
              refine lv_iload hx hb dX1_equation_87 (lv_at hl 0 rfl) ?_
              refine fn_aald2 (k := 1) X hI dX1_equation_89 (by omega) rfl (show eq < 3 by omega) ?_
              refine lv_iconst (v := nI 2) hx hb dX1_equation_90 (by decide) ?_
              refine lv_iload_n hx hb dX1_equation_91 rfl (lv_at hl 4 rfl) ?_
              refine fn_iast (k := 2 + eq) X hI dX1_equation_92 (by omega) (fk2 (by omega)) (by rw [fn2 (by omega)]; omega) (fun H locs hI => ?_)
              refine lv_aload_n hx hb dX1_equation_93 rfl (lv_at hl 1 rfl) ?_
              refine fl_get1 X hI dX1_equation_94 (by omega) 0 (by decide) wf_X1_11 rfl ?_
              refine lv_iload hx hb dX1_equation_97 (lv_at hl 0 rfl) ?_
              refine fn_aald2 (k := 1) X hI dX1_equation_99 (by omega) rfl (show eq < 3 by omega) ?_
              refine lv_iconst (v := nI 3) hx hb dX1_equation_100 (by decide) ?_
              refine lv_iload hx hb dX1_equation_101 (lv_at hl 5 rfl) ?_
              refine fn_iast (k := 2 + eq) X hI dX1_equation_103 (by omega) (fk2 (by omega)) (by rw [fn2 (by omega)]; omega) (fun H locs hI => ?_)
              refine lv_aload_n hx hb dX1_equation_104 rfl (lv_at hl 1 rfl) ?_
              refine fl_get1 X hI dX1_equation_105 (by omega) 1 (by decide) wf_X1_14 rfl ?_
              refine lv_iload hx hb dX1_equation_108 (lv_at hl 0 rfl) ?_
              refine lv_iload hx hb dX1_equation_110 (lv_at hl 6 rfl) ?_
              refine fn_iast (k := 5) X hI dX1_equation_112 (by omega) rfl (show eq < 3 by omega) (fun H locs hI => ?_)
              refine lv_aload_n hx hb dX1_equation_113 rfl (lv_at hl 1 rfl) ?_
              refine lv_iload hx hb dX1_equation_114 (lv_at hl 0 rfl) ?_
              refine lv_iconst (v := nI 1) hx hb dX1_equation_116 (by decide) ?_
              refine fn_iadd X dX1_equation_117 ?_
              refine fl_put1 X hI dX1_equation_118 (by omega) 3 (by decide) wf_X1_46 (fun H locs hI => ?_)
              have hI : fl_I D dA ad N (i_eqn eq x0 x1 x2 x3 xs I) J (fl_A ad N s.heap.size) s s.heap H locs := hI
              refine lv_aload_n hx hb dX1_equation_121 rfl (lv_at hl 1 rfl) ?_
              refine fl_callV (k := 0) (As := []) (rest := []) X hI dX1_equation_122 (m_X1_formWhole D dA ad N (i_eqn eq x0 x1 x2 x3 xs I) J hN (n := n) (eq := eq + 1) (by rw [i_eqn_02]; exact hn) (by omega) (by unfold i_eqn; exact fl_up_s) (by omega)) (by omega) fl_c_5 rfl rfl wc_yX1_formWhole wm_X1_49 wi_yX1_formWhole wl_yX1_formWhole wn_X1 hd_yX1_formWhole rfl ⟨by first | decide | omega, by first | decide | omega⟩ hl.1 (Nat.le_of_ble_eq_true rfl) (fun v I2 J2 H locs hp hI => ?_)
              obtain ⟨hv, hI2, hJ2⟩ := hp
              subst hv
              rw [hI2, hJ2] at hI
              refine W.eq (g2 := F0 m 125 ls []) rfl ?_
              refine lv_iload hx hb dX1_equation_125 (lv_at hl 0 rfl) ?_
              exact fl_iret X hr hlk hI dX1_equation_127 ⟨rfl, rfl, rfl⟩
            · first | exact absurd hf0 (b_f (by assumption)) | exact absurd hf1 (b_f (by assumption)) | exact absurd hf2 (b_f (by assumption)) | exact absurd hf3 (b_f (by assumption))
    · first | exact absurd h3 (by omega) | exact absurd hs (b_f c2)
theorem m_X1_sum_bad (D : va_G) (dA : Nat → ClassId) (ad : Nat → Nat) (N : Nat) (I : fl_TI) (J : fl_TJ) (hN : 30 ≤ N) {n eq rr rk : Nat} (ok : x_ok I n eq rr rk) {x xs : Int32} (hbad : ¬ (¬ x < 0 ∧ ¬ nI eq ≤ x ∧ (¬ xs < -1000 ∧ ¬ nI 1000 < xs))) : FM yX1_sum cX1_sum 3 (some .int) 4 D dA ad N [.ref (ad 0), .int x, .int xs] I J (fun v I' J' => v = some (.int (nI 0)) ∧ I' = I ∧ J' = J) := by
  refine FM.ofW RX1 rfl (by decide +kernel) (Nat.le_of_ble_eq_true rfl) ?_
  intro p l e s m args below meth c ls X hr hlk hI hl
  have hx := X.1
  have hb := X.2.1
  have hl : lv_has ls 3 [(0, .ref (ad 0)), (1, .int x), (2, .int xs)] := hl
  obtain ⟨hn, ⟨hn1, hn4⟩, he, he3, hrr, hrn, hh, hw, hrk, hrk4, hld⟩ := ok
  refine lv_iload_n hx hb dX1_sum_0 rfl (lv_at hl 1 rfl) ?_
  refine lv_if_lt (tgt := 19) hx hb dX1_sum_1 (by decide) (fun c1 => ?_) (fun c1 => ?_)
  · refine lv_iconst (v := nI 0) hx hb dX1_sum_19 (by decide) ?_
    exact fl_iret X hr hlk hI dX1_sum_20 ⟨rfl, rfl, rfl⟩
  · refine lv_iload_n hx hb dX1_sum_4 rfl (lv_at hl 1 rfl) ?_
    refine lv_aload_n hx hb dX1_sum_5 rfl (lv_at hl 0 rfl) ?_
    refine fl_get1 X hI dX1_sum_6 (by omega) 3 (by decide) wf_X1_46 rfl ?_
    refine W.eq (g2 := F0 m 9 ls [.int (nI eq), .int x]) (by rw [he]) ?_
    refine lv_icmp_ge (tgt := 19) hx hb dX1_sum_9 (by decide) (fun c2 => ?_) (fun c2 => ?_)
    · refine lv_iconst (v := nI 0) hx hb dX1_sum_19 (by decide) ?_
      exact fl_iret X hr hlk hI dX1_sum_20 ⟨rfl, rfl, rfl⟩
    · refine lv_iload_n hx hb dX1_sum_12 rfl (lv_at hl 2 rfl) ?_
      refine fl_callS (As := [.int xs]) (rest := []) X hI dX1_sum_13 (m_X1_isSum D dA ad N I J xs) wc_yX1_isSum wm_X1_52 ws_yX1_isSum wn_X1 hd_yX1_isSum rfl ⟨by first | decide | omega, by first | decide | omega⟩ hl.1 (Nat.le_of_ble_eq_true rfl) (fun v I2 J2 H locs hp hI => ?_)
      obtain ⟨hv, hI2, hJ2⟩ := hp
      subst hv
      rw [hI2, hJ2] at hI
      refine W.eq (g2 := F0 m 16 ls [.int (if ¬ xs < -1000 ∧ ¬ nI 1000 < xs then nI 1 else nI 0)]) rfl ?_
      refine lv_if_ne (tgt := 21) hx hb dX1_sum_16 (by decide) (fun c3 => ?_) (fun c3 => ?_)
      · exact absurd ⟨c1, c2, b_t c3⟩ hbad
      · refine lv_iconst (v := nI 0) hx hb dX1_sum_19 (by decide) ?_
        exact fl_iret X hr hlk hI dX1_sum_20 ⟨rfl, rfl, rfl⟩
theorem m_X1_sum (D : va_G) (dA : Nat → ClassId) (ad : Nat → Nat) (N : Nat) (I : fl_TI) (J : fl_TJ) (hN : 30 ≤ N) {n eq rr rk : Nat} (ok : x_ok I n eq rr rk) {a : Nat} {xs : Int32} (ha : a < eq) (hs : (¬ xs < -1000 ∧ ¬ nI 1000 < xs)) : FM yX1_sum cX1_sum 3 (some .int) 4 D dA ad N [.ref (ad 0), .int (nI a), .int xs] I J (fun v I' J' => v = some (.int (nI 1)) ∧ I' = i_settle eq n rk (fl_up I 5 a xs) J ∧ J' = j_settle eq n rk (fl_up I 5 a xs) J) := by
  refine FM.ofW RX1 rfl (by decide +kernel) (Nat.le_of_ble_eq_true rfl) ?_
  intro p l e s m args below meth c ls X hr hlk hI hl
  have hx := X.1
  have hb := X.2.1
  have hl : lv_has ls 3 [(0, .ref (ad 0)), (1, .int (nI a)), (2, .int xs)] := hl
  obtain ⟨hn, ⟨hn1, hn4⟩, he, he3, hrr, hrn, hh, hw, hrk, hrk4, hld⟩ := ok
  refine lv_iload_n hx hb dX1_sum_0 rfl (lv_at hl 1 rfl) ?_
  refine lv_if_lt (tgt := 19) hx hb dX1_sum_1 (by decide) (fun c1 => absurd c1 (nI_pos (by omega))) (fun c1 => ?_)
  refine lv_iload_n hx hb dX1_sum_4 rfl (lv_at hl 1 rfl) ?_
  refine lv_aload_n hx hb dX1_sum_5 rfl (lv_at hl 0 rfl) ?_
  refine fl_get1 X hI dX1_sum_6 (by omega) 3 (by decide) wf_X1_46 rfl ?_
  refine W.eq (g2 := F0 m 9 ls [.int (nI eq), .int (nI a)]) (by rw [he]) ?_
  refine fn_icmp_ge X (tgt := 19) dX1_sum_9 (by decide) (by omega) (by omega) (fun c2 => absurd c2 (by omega)) (fun c2 => ?_)
  refine lv_iload_n hx hb dX1_sum_12 rfl (lv_at hl 2 rfl) ?_
  refine fl_callS (As := [.int xs]) (rest := []) X hI dX1_sum_13 (m_X1_isSum D dA ad N I J xs) wc_yX1_isSum wm_X1_52 ws_yX1_isSum wn_X1 hd_yX1_isSum rfl ⟨by first | decide | omega, by first | decide | omega⟩ hl.1 (Nat.le_of_ble_eq_true rfl) (fun v I2 J2 H locs hp hI => ?_)
  obtain ⟨hv, hI2, hJ2⟩ := hp
  subst hv
  rw [hI2, hJ2] at hI
  refine W.eq (g2 := F0 m 16 ls [.int (if ¬ xs < -1000 ∧ ¬ nI 1000 < xs then nI 1 else nI 0)]) rfl ?_
  refine lv_if_ne (tgt := 21) hx hb dX1_sum_16 (by decide) (fun c3 => ?_) (fun c3 => ?_)
  · refine lv_aload_n hx hb dX1_sum_21 rfl (lv_at hl 0 rfl) ?_
    refine fl_get1 X hI dX1_sum_22 (by omega) 1 (by decide) wf_X1_14 rfl ?_
    refine lv_iload_n hx hb dX1_sum_25 rfl (lv_at hl 1 rfl) ?_
    refine lv_iload_n hx hb dX1_sum_26 rfl (lv_at hl 2 rfl) ?_
    refine fn_iast (k := 5) X hI dX1_sum_27 (by omega) rfl (show a < 3 by omega) (fun H locs hI => ?_)
    refine lv_aload_n hx hb dX1_sum_28 rfl (lv_at hl 0 rfl) ?_
    refine fl_callV (k := 0) (As := []) (rest := []) X hI dX1_sum_29 (m_X1_settle D dA ad N (fl_up I 5 a xs) J hN (n := n) (eq := eq) (rk := rk) (by rw [fl_up_k (by omega)]; exact he) he3 hn4 (by rw [fl_up_k (by omega)]; exact hw) (by rw [fl_up_k (by omega)]; exact hrk) (by omega) (fun i hi => by unfold ldI; rw [fl_up_k (by omega)]; exact hld i hi)) (by omega) fl_c_5 rfl rfl wc_yX1_settleSolution wm_X1_60 wi_yX1_settleSolution wl_yX1_settleSolution wn_X1 hd_yX1_settleSolution rfl ⟨by first | decide | omega, by first | decide | omega⟩ hl.1 (Nat.le_of_ble_eq_true rfl) (fun v I2 J2 H locs hp hI => ?_)
    obtain ⟨hv, hI2, hJ2⟩ := hp
    subst hv
    rw [hI2, hJ2] at hI
    refine W.eq (g2 := F0 m 32 ls []) rfl ?_
    refine lv_iconst (v := nI 1) hx hb dX1_sum_32 (by decide) ?_
    exact fl_iret X hr hlk hI dX1_sum_33 ⟨rfl, rfl, rfl⟩
  · exact absurd hs (b_f (by assumption))
theorem m_X1_drop_bad (D : va_G) (dA : Nat → ClassId) (ad : Nat → Nat) (N : Nat) (I : fl_TI) (J : fl_TJ) (hN : 30 ≤ N) (he : I 0 3 = nI 0) : FM yX1_drop cX1_drop 1 (some .int) 5 D dA ad N [.ref (ad 0)] I J (fun v I' J' => v = some (.int (-1)) ∧ I' = I ∧ J' = J) := by
  refine FM.ofW RX1 rfl (by decide +kernel) (Nat.le_of_ble_eq_true rfl) ?_
  intro p l e s m args below meth c ls X hr hlk hI hl
  have hx := X.1
  have hb := X.2.1
  have hl : lv_has ls 1 [(0, .ref (ad 0))] := hl
  refine lv_aload_n hx hb dX1_drop_0 rfl (lv_at hl 0 rfl) ?_
  refine fl_get1 X hI dX1_drop_1 (by omega) 3 (by decide) wf_X1_46 rfl ?_
  refine W.eq (g2 := F0 m 4 ls [.int (nI 0)]) (by rw [he]) ?_
  refine fn_if_ne X (tgt := 9) dX1_drop_4 (by decide) (by omega) (fun c1 => absurd c1 (by omega)) (fun c1 => ?_)
  refine lv_iconst (v := (-1)) hx hb dX1_drop_7 (by decide) ?_
  exact fl_iret X hr hlk hI dX1_drop_8 ⟨rfl, rfl, rfl⟩
theorem m_X1_drop (D : va_G) (dA : Nat → ClassId) (ad : Nat → Nat) (N : Nat) (I : fl_TI) (J : fl_TJ) (hN : 30 ≤ N) {n eq : Nat} (hn : I 0 2 = nI n) (hn1 : 1 ≤ n) (hn4 : n ≤ 4) (he : I 0 3 = nI (eq + 1)) (he3 : eq < 3) : FM yX1_drop cX1_drop 1 (some .int) 5 D dA ad N [.ref (ad 0)] I J (fun v I' J' => v = some (.int (nI eq)) ∧ I' = x_formI n eq (fl_up I 0 3 (nI eq)) J ∧ J' = x_formJ n eq (fl_up I 0 3 (nI eq)) J) := by
  refine FM.ofW RX1 rfl (by decide +kernel) (Nat.le_of_ble_eq_true rfl) ?_
  intro p l e s m args below meth c ls X hr hlk hI hl
  have hx := X.1
  have hb := X.2.1
  have hl : lv_has ls 1 [(0, .ref (ad 0))] := hl
  refine lv_aload_n hx hb dX1_drop_0 rfl (lv_at hl 0 rfl) ?_
  refine fl_get1 X hI dX1_drop_1 (by omega) 3 (by decide) wf_X1_46 rfl ?_
  refine W.eq (g2 := F0 m 4 ls [.int (nI (eq + 1))]) (by rw [he]) ?_
  refine fn_if_ne X (tgt := 9) dX1_drop_4 (by decide) (by omega) (fun c1 => ?_) (fun c1 => absurd c1 (by omega))
  refine lv_aload_n hx hb dX1_drop_9 rfl (lv_at hl 0 rfl) ?_
  refine lv_aload_n hx hb dX1_drop_10 rfl (lv_at hl 0 rfl) ?_
  refine fl_get1 X hI dX1_drop_11 (by omega) 3 (by decide) wf_X1_46 rfl ?_
  refine W.eq (g2 := F0 m 14 ls [.int (nI (eq + 1)), .ref (ad 0)]) (by rw [he]) ?_
  refine lv_iconst (v := nI 1) hx hb dX1_drop_14 (by decide) ?_
  refine fn_isub X dX1_drop_15 (by omega) ?_
  refine fl_put1 X hI dX1_drop_16 (by omega) 3 (by decide) wf_X1_46 (fun H locs hI => ?_)
  have hI : fl_I D dA ad N (fl_up I 0 3 (nI eq)) J (fl_A ad N s.heap.size) s s.heap H locs := hI
  refine lv_aload_n hx hb dX1_drop_19 rfl (lv_at hl 0 rfl) ?_
  refine fl_callV (k := 0) (As := []) (rest := []) X hI dX1_drop_20 (m_X1_formWhole D dA ad N (fl_up I 0 3 (nI eq)) J hN (n := n) (eq := eq) (by rw [fl_up_j (by omega)]; exact hn) (by omega) fl_up_s (by omega)) (by omega) fl_c_5 rfl rfl wc_yX1_formWhole wm_X1_49 wi_yX1_formWhole wl_yX1_formWhole wn_X1 hd_yX1_formWhole rfl ⟨by first | decide | omega, by first | decide | omega⟩ hl.1 (Nat.le_of_ble_eq_true rfl) (fun v I2 J2 H locs hp hI => ?_)
  obtain ⟨hv, hI2, hJ2⟩ := hp
  subst hv
  rw [hI2, hJ2] at hI
  refine W.eq (g2 := F0 m 23 ls []) rfl ?_
  refine lv_aload_n hx hb dX1_drop_23 rfl (lv_at hl 0 rfl) ?_
  refine fl_get1 X hI dX1_drop_24 (by omega) 3 (by decide) wf_X1_46 rfl ?_
  refine W.eq (g2 := F0 m 27 ls [.int (nI eq)]) (by rw [show x_formI n eq (fl_up I 0 3 (nI eq)) J 0 3 = nI eq from (x_form_ok (by rw [fl_up_j (by omega)]; exact hn) ⟨hn1, hn4⟩ fl_up_s (by omega)).1.2.2.1]) ?_
  exact fl_iret X hr hlk hI dX1_drop_27 ⟨rfl, rfl, rfl⟩
theorem m_X1_solve (D : va_G) (dA : Nat → ClassId) (ad : Nat → Nat) (N : Nat) (I : fl_TI) (J : fl_TJ) (hN : 30 ≤ N) {n eq rr rk : Nat} (ok : x_ok I n eq rr rk) : FM yX1_solve cX1_solve 1 (some .int) 1 D dA ad N [.ref (ad 0)] I J (fun v I' J' => v = some (.int (if I 0 8 = -1 then nI (n - rr) else -1)) ∧ I' = I ∧ J' = J) := by
  refine FM.ofW RX1 rfl (by decide +kernel) (Nat.le_of_ble_eq_true rfl) ?_
  intro p l e s m args below meth c ls X hr hlk hI hl
  have hx := X.1
  have hb := X.2.1
  have hl : lv_has ls 1 [(0, .ref (ad 0))] := hl
  obtain ⟨hn, ⟨hn1, hn4⟩, he, he3, hrr, hrn, hh, hw, hrk, hrk4, hld⟩ := ok
  refine lv_aload_n hx hb dX1_solve_0 rfl (lv_at hl 0 rfl) ?_
  refine fl_get1 X hI dX1_solve_1 (by omega) 8 (by decide) wf_X1_63 rfl ?_
  refine lv_iconst (v := (-1)) hx hb dX1_solve_4 (by decide) ?_
  refine lv_icmp_ne (tgt := 15) hx hb dX1_solve_5 (by decide) (fun c1 => ?_) (fun c1 => ?_)
  · refine lv_iconst (v := (-1)) hx hb dX1_solve_15 (by decide) ?_
    exact fl_iret X hr hlk hI dX1_solve_16 ⟨by simp [*], rfl, rfl⟩
  · refine lv_aload_n hx hb dX1_solve_8 rfl (lv_at hl 0 rfl) ?_
    refine fl_callV (k := 0) (As := []) (rest := []) X hI dX1_solve_9 (m_X1_basisRows D dA ad N I J hN hn hrr hrn) (by omega) fl_c_5 rfl rfl wc_yX1_basisRows wm_X1_66 wi_yX1_basisRows wl_yX1_basisRows wn_X1 hd_yX1_basisRows rfl ⟨by first | decide | omega, by first | decide | omega⟩ hl.1 (Nat.le_of_ble_eq_true rfl) (fun v I2 J2 H locs hp hI => ?_)
    obtain ⟨hv, hI2, hJ2⟩ := hp
    subst hv
    rw [hI2, hJ2] at hI
    refine W.eq (g2 := F0 m 12 ls [.int (nI (n - rr))]) rfl ?_
    refine lv_goto (tgt := 16) hx hb dX1_solve_12 (by decide) ?_
    exact fl_iret X hr hlk hI dX1_solve_16 ⟨by simp [*], rfl, rfl⟩
theorem m_X1_fails (D : va_G) (dA : Nat → ClassId) (ad : Nat → Nat) (N : Nat) (I : fl_TI) (J : fl_TJ) (hN : 30 ≤ N) : FM yX1_fails cX1_fails 1 (some .int) 0 D dA ad N [.ref (ad 0)] I J (fun v I' J' => v = some (.int (I 0 8)) ∧ I' = I ∧ J' = J) := by
  refine FM.ofW RX1 rfl (by decide +kernel) (Nat.le_of_ble_eq_true rfl) ?_
  intro p l e s m args below meth c ls X hr hlk hI hl
  have hx := X.1
  have hb := X.2.1
  have hl : lv_has ls 1 [(0, .ref (ad 0))] := hl
  refine lv_aload_n hx hb dX1_fails_0 rfl (lv_at hl 0 rfl) ?_
  refine fl_get1 X hI dX1_fails_1 (by omega) 8 (by decide) wf_X1_63 rfl ?_
  exact fl_iret X hr hlk hI dX1_fails_4 ⟨rfl, rfl, rfl⟩
theorem m_X1_solution_bad (D : va_G) (dA : Nat → ClassId) (ad : Nat → Nat) (N : Nat) (I : fl_TI) (J : fl_TJ) (hN : 30 ≤ N) {n eq rr rk : Nat} (ok : x_ok I n eq rr rk) {x : Int32} (hbad : ¬ (I 0 8 = -1 ∧ ¬ x < 0 ∧ x < nI n)) : FM yX1_solution cX1_solution 2 (some .long) 0 D dA ad N [.ref (ad 0), .int x] I J (fun v I' J' => v = some (.long (-1000000000000000)) ∧ I' = I ∧ J' = J) := by
  refine FM.ofW RX1 rfl (by decide +kernel) (Nat.le_of_ble_eq_true rfl) ?_
  intro p l e s m args below meth c ls X hr hlk hI hl
  have hx := X.1
  have hb := X.2.1
  have hl : lv_has ls 2 [(0, .ref (ad 0)), (1, .int x)] := hl
  obtain ⟨hn, ⟨hn1, hn4⟩, he, he3, hrr, hrn, hh, hw, hrk, hrk4, hld⟩ := ok
  refine lv_aload_n hx hb dX1_solution_0 rfl (lv_at hl 0 rfl) ?_
  refine fl_get1 X hI dX1_solution_1 (by omega) 8 (by decide) wf_X1_63 rfl ?_
  refine lv_iconst (v := (-1)) hx hb dX1_solution_4 (by decide) ?_
  refine lv_icmp_ne (tgt := 20) hx hb dX1_solution_5 (by decide) (fun c1 => ?_) (fun c1 => ?_)
  · refine W.ldc2 (v := (-1000000000000000)) hx hb X.2.2.2.1 (X.2.2.2.2 _ wk_X1_70) rfl dX1_solution_20 ?_
    refine W.eq (g2 := F0 m 23 ls [.long ((-1000000000000000))]) rfl ?_
    exact fl_lret X hr hlk hI dX1_solution_23 ⟨rfl, rfl, rfl⟩
  · refine lv_iload_n hx hb dX1_solution_8 rfl (lv_at hl 1 rfl) ?_
    refine lv_if_lt (tgt := 20) hx hb dX1_solution_9 (by decide) (fun c2 => ?_) (fun c2 => ?_)
    · refine W.ldc2 (v := (-1000000000000000)) hx hb X.2.2.2.1 (X.2.2.2.2 _ wk_X1_70) rfl dX1_solution_20 ?_
      refine W.eq (g2 := F0 m 23 ls [.long ((-1000000000000000))]) rfl ?_
      exact fl_lret X hr hlk hI dX1_solution_23 ⟨rfl, rfl, rfl⟩
    · refine lv_iload_n hx hb dX1_solution_12 rfl (lv_at hl 1 rfl) ?_
      refine lv_aload_n hx hb dX1_solution_13 rfl (lv_at hl 0 rfl) ?_
      refine fl_get1 X hI dX1_solution_14 (by omega) 2 (by decide) wf_X1_42 rfl ?_
      refine W.eq (g2 := F0 m 17 ls [.int (nI n), .int x]) (by rw [hn]) ?_
      refine lv_icmp_lt (tgt := 24) hx hb dX1_solution_17 (by decide) (fun c3 => ?_) (fun c3 => ?_)
      · exact absurd ⟨c1, c2, c3⟩ hbad
      · refine W.ldc2 (v := (-1000000000000000)) hx hb X.2.2.2.1 (X.2.2.2.2 _ wk_X1_70) rfl dX1_solution_20 ?_
        refine W.eq (g2 := F0 m 23 ls [.long ((-1000000000000000))]) rfl ?_
        exact fl_lret X hr hlk hI dX1_solution_23 ⟨rfl, rfl, rfl⟩
theorem m_X1_solution (D : va_G) (dA : Nat → ClassId) (ad : Nat → Nat) (N : Nat) (I : fl_TI) (J : fl_TJ) (hN : 30 ≤ N) {n eq rr rk : Nat} (ok : x_ok I n eq rr rk) {j : Nat} (h8 : I 0 8 = -1) (hj : j < n) : FM yX1_solution cX1_solution 2 (some .long) 0 D dA ad N [.ref (ad 0), .int (nI j)] I J (fun v I' J' => v = some (.long (J 22 (eq + j))) ∧ I' = I ∧ J' = J) := by
  refine FM.ofW RX1 rfl (by decide +kernel) (Nat.le_of_ble_eq_true rfl) ?_
  intro p l e s m args below meth c ls X hr hlk hI hl
  have hx := X.1
  have hb := X.2.1
  have hl : lv_has ls 2 [(0, .ref (ad 0)), (1, .int (nI j))] := hl
  obtain ⟨hn, ⟨hn1, hn4⟩, he, he3, hrr, hrn, hh, hw, hrk, hrk4, hld⟩ := ok
  refine lv_aload_n hx hb dX1_solution_0 rfl (lv_at hl 0 rfl) ?_
  refine fl_get1 X hI dX1_solution_1 (by omega) 8 (by decide) wf_X1_63 rfl ?_
  refine lv_iconst (v := (-1)) hx hb dX1_solution_4 (by decide) ?_
  refine lv_icmp_ne (tgt := 20) hx hb dX1_solution_5 (by decide) (fun c1 => absurd h8 c1) (fun c1 => ?_)
  refine lv_iload_n hx hb dX1_solution_8 rfl (lv_at hl 1 rfl) ?_
  refine lv_if_lt (tgt := 20) hx hb dX1_solution_9 (by decide) (fun c2 => absurd c2 (nI_pos (by omega))) (fun c2 => ?_)
  refine lv_iload_n hx hb dX1_solution_12 rfl (lv_at hl 1 rfl) ?_
  refine lv_aload_n hx hb dX1_solution_13 rfl (lv_at hl 0 rfl) ?_
  refine fl_get1 X hI dX1_solution_14 (by omega) 2 (by decide) wf_X1_42 rfl ?_
  refine W.eq (g2 := F0 m 17 ls [.int (nI n), .int (nI j)]) (by rw [hn]) ?_
  refine fn_icmp_lt X (tgt := 24) dX1_solution_17 (by decide) (by omega) (by omega) (fun c3 => ?_) (fun c3 => absurd c3 (by omega))
  refine lv_aload_n hx hb dX1_solution_24 rfl (lv_at hl 0 rfl) ?_
  refine fl_get1 X hI dX1_solution_25 (by omega) 7 (by decide) wf_X1_30 rfl ?_
  refine lv_aload_n hx hb dX1_solution_28 rfl (lv_at hl 0 rfl) ?_
  refine fl_get1 X hI dX1_solution_29 (by omega) 3 (by decide) wf_X1_46 rfl ?_
  refine W.eq (g2 := F0 m 32 ls [.int (nI eq), .ref (ad 22)]) (by rw [he]) ?_
  refine lv_iload_n hx hb dX1_solution_32 rfl (lv_at hl 1 rfl) ?_
  refine fn_iadd X dX1_solution_33 ?_
  refine fn_lald (k := 22) X hI dX1_solution_34 (by omega) rfl (show eq + j < 7 by omega) ?_
  exact fl_lret X hr hlk hI dX1_solution_35 ⟨rfl, rfl, rfl⟩
theorem m_X1_basis_bad (D : va_G) (dA : Nat → ClassId) (ad : Nat → Nat) (N : Nat) (I : fl_TI) (J : fl_TJ) (hN : 30 ≤ N) {n eq rr rk : Nat} (ok : x_ok I n eq rr rk) {x y : Int32} (hbad : ¬ (¬ x < 0 ∧ ¬ nI (n - rr) ≤ x ∧ ¬ y < 0 ∧ y < nI n)) : FM yX1_basis cX1_basis 3 (some .long) 2 D dA ad N [.ref (ad 0), .int x, .int y] I J (fun v I' J' => v = some (.long (-1000000000000000)) ∧ I' = I ∧ J' = J) := by
  refine FM.ofW RX1 rfl (by decide +kernel) (Nat.le_of_ble_eq_true rfl) ?_
  intro p l e s m args below meth c ls X hr hlk hI hl
  have hx := X.1
  have hb := X.2.1
  have hl : lv_has ls 3 [(0, .ref (ad 0)), (1, .int x), (2, .int y)] := hl
  obtain ⟨hn, ⟨hn1, hn4⟩, he, he3, hrr, hrn, hh, hw, hrk, hrk4, hld⟩ := ok
  refine lv_iload_n hx hb dX1_basis_0 rfl (lv_at hl 1 rfl) ?_
  refine lv_if_lt (tgt := 24) hx hb dX1_basis_1 (by decide) (fun c1 => ?_) (fun c1 => ?_)
  · refine W.ldc2 (v := (-1000000000000000)) hx hb X.2.2.2.1 (X.2.2.2.2 _ wk_X1_70) rfl dX1_basis_24 ?_
    refine W.eq (g2 := F0 m 27 ls [.long ((-1000000000000000))]) rfl ?_
    exact fl_lret X hr hlk hI dX1_basis_27 ⟨rfl, rfl, rfl⟩
  · refine lv_iload_n hx hb dX1_basis_4 rfl (lv_at hl 1 rfl) ?_
    refine lv_aload_n hx hb dX1_basis_5 rfl (lv_at hl 0 rfl) ?_
    refine fl_callV (k := 0) (As := []) (rest := [.int x]) X hI dX1_basis_6 (m_X1_basisRows D dA ad N I J hN hn hrr hrn) (by omega) fl_c_5 rfl rfl wc_yX1_basisRows wm_X1_66 wi_yX1_basisRows wl_yX1_basisRows wn_X1 hd_yX1_basisRows rfl ⟨by first | decide | omega, by first | decide | omega⟩ hl.1 (Nat.le_of_ble_eq_true rfl) (fun v I2 J2 H locs hp hI => ?_)
    obtain ⟨hv, hI2, hJ2⟩ := hp
    subst hv
    rw [hI2, hJ2] at hI
    refine W.eq (g2 := F0 m 9 ls [.int (nI (n - rr)), .int x]) rfl ?_
    refine lv_icmp_ge (tgt := 24) hx hb dX1_basis_9 (by decide) (fun c2 => ?_) (fun c2 => ?_)
    · refine W.ldc2 (v := (-1000000000000000)) hx hb X.2.2.2.1 (X.2.2.2.2 _ wk_X1_70) rfl dX1_basis_24 ?_
      refine W.eq (g2 := F0 m 27 ls [.long ((-1000000000000000))]) rfl ?_
      exact fl_lret X hr hlk hI dX1_basis_27 ⟨rfl, rfl, rfl⟩
    · refine lv_iload_n hx hb dX1_basis_12 rfl (lv_at hl 2 rfl) ?_
      refine lv_if_lt (tgt := 24) hx hb dX1_basis_13 (by decide) (fun c3 => ?_) (fun c3 => ?_)
      · refine W.ldc2 (v := (-1000000000000000)) hx hb X.2.2.2.1 (X.2.2.2.2 _ wk_X1_70) rfl dX1_basis_24 ?_
        refine W.eq (g2 := F0 m 27 ls [.long ((-1000000000000000))]) rfl ?_
        exact fl_lret X hr hlk hI dX1_basis_27 ⟨rfl, rfl, rfl⟩
      · refine lv_iload_n hx hb dX1_basis_16 rfl (lv_at hl 2 rfl) ?_
        refine lv_aload_n hx hb dX1_basis_17 rfl (lv_at hl 0 rfl) ?_
        refine fl_get1 X hI dX1_basis_18 (by omega) 2 (by decide) wf_X1_42 rfl ?_
        refine W.eq (g2 := F0 m 21 ls [.int (nI n), .int y]) (by rw [hn]) ?_
        refine lv_icmp_lt (tgt := 28) hx hb dX1_basis_21 (by decide) (fun c4 => ?_) (fun c4 => ?_)
        · exact absurd ⟨c1, c2, c3, c4⟩ hbad
        · refine W.ldc2 (v := (-1000000000000000)) hx hb X.2.2.2.1 (X.2.2.2.2 _ wk_X1_70) rfl dX1_basis_24 ?_
          refine W.eq (g2 := F0 m 27 ls [.long ((-1000000000000000))]) rfl ?_
          exact fl_lret X hr hlk hI dX1_basis_27 ⟨rfl, rfl, rfl⟩
theorem m_X1_basis (D : va_G) (dA : Nat → ClassId) (ad : Nat → Nat) (N : Nat) (I : fl_TI) (J : fl_TJ) (hN : 30 ≤ N) {n eq rr rk : Nat} (ok : x_ok I n eq rr rk) {i j : Nat} (hi : i < n - rr) (hj : j < n) : FM yX1_basis cX1_basis 3 (some .long) 2 D dA ad N [.ref (ad 0), .int (nI i), .int (nI j)] I J (fun v I' J' => v = some (.long (J (6 + 2 + (rr + i)) (eq + j))) ∧ I' = I ∧ J' = J) := by
  refine FM.ofW RX1 rfl (by decide +kernel) (Nat.le_of_ble_eq_true rfl) ?_
  intro p l e s m args below meth c ls X hr hlk hI hl
  have hx := X.1
  have hb := X.2.1
  have hl : lv_has ls 3 [(0, .ref (ad 0)), (1, .int (nI i)), (2, .int (nI j))] := hl
  obtain ⟨hn, ⟨hn1, hn4⟩, he, he3, hrr, hrn, hh, hw, hrk, hrk4, hld⟩ := ok
  refine lv_iload_n hx hb dX1_basis_0 rfl (lv_at hl 1 rfl) ?_
  refine lv_if_lt (tgt := 24) hx hb dX1_basis_1 (by decide) (fun c1 => absurd c1 (nI_pos (by omega))) (fun c1 => ?_)
  refine lv_iload_n hx hb dX1_basis_4 rfl (lv_at hl 1 rfl) ?_
  refine lv_aload_n hx hb dX1_basis_5 rfl (lv_at hl 0 rfl) ?_
  refine fl_callV (k := 0) (As := []) (rest := [.int (nI i)]) X hI dX1_basis_6 (m_X1_basisRows D dA ad N I J hN hn hrr hrn) (by omega) fl_c_5 rfl rfl wc_yX1_basisRows wm_X1_66 wi_yX1_basisRows wl_yX1_basisRows wn_X1 hd_yX1_basisRows rfl ⟨by first | decide | omega, by first | decide | omega⟩ hl.1 (Nat.le_of_ble_eq_true rfl) (fun v I2 J2 H locs hp hI => ?_)
  obtain ⟨hv, hI2, hJ2⟩ := hp
  subst hv
  rw [hI2, hJ2] at hI
  refine W.eq (g2 := F0 m 9 ls [.int (nI (n - rr)), .int (nI i)]) rfl ?_
  refine fn_icmp_ge X (tgt := 24) dX1_basis_9 (by decide) (by omega) (by omega) (fun c2 => absurd c2 (by omega)) (fun c2 => ?_)
  refine lv_iload_n hx hb dX1_basis_12 rfl (lv_at hl 2 rfl) ?_
  refine lv_if_lt (tgt := 24) hx hb dX1_basis_13 (by decide) (fun c3 => absurd c3 (nI_pos (by omega))) (fun c3 => ?_)
  refine lv_iload_n hx hb dX1_basis_16 rfl (lv_at hl 2 rfl) ?_
  refine lv_aload_n hx hb dX1_basis_17 rfl (lv_at hl 0 rfl) ?_
  refine fl_get1 X hI dX1_basis_18 (by omega) 2 (by decide) wf_X1_42 rfl ?_
  refine W.eq (g2 := F0 m 21 ls [.int (nI n), .int (nI j)]) (by rw [hn]) ?_
  refine fn_icmp_lt X (tgt := 28) dX1_basis_21 (by decide) (by omega) (by omega) (fun c4 => ?_) (fun c4 => absurd c4 (by omega))
  refine lv_aload_n hx hb dX1_basis_28 rfl (lv_at hl 0 rfl) ?_
  refine lv_iload_n hx hb dX1_basis_29 rfl (lv_at hl 1 rfl) ?_
  refine lv_iload_n hx hb dX1_basis_30 rfl (lv_at hl 2 rfl) ?_
  refine fl_callV (k := 0) (As := [.int (nI i), .int (nI j)]) (rest := []) X hI dX1_basis_31 (m_X1_basisNumber D dA ad N I J hN he hrr (by omega) (by omega)) (by omega) fl_c_5 rfl rfl wc_yX1_basisNumber wm_X1_72 wi_yX1_basisNumber wl_yX1_basisNumber wn_X1 hd_yX1_basisNumber rfl ⟨by first | decide | omega, by first | decide | omega⟩ hl.1 (Nat.le_of_ble_eq_true rfl) (fun v I2 J2 H locs hp hI => ?_)
  obtain ⟨hv, hI2, hJ2⟩ := hp
  subst hv
  rw [hI2, hJ2] at hI
  refine W.eq (g2 := F0 m 34 ls [.long (J (6 + 2 + (rr + i)) (eq + j))]) rfl ?_
  exact fl_lret X hr hlk hI dX1_basis_34 ⟨rfl, rfl, rfl⟩
theorem m_X1_reach_bad (D : va_G) (dA : Nat → ClassId) (ad : Nat → Nat) (N : Nat) (I : fl_TI) (J : fl_TJ) (hN : 30 ≤ N) {n eq rr rk : Nat} (ok : x_ok I n eq rr rk) {x y : Int32} (hbad : ¬ (¬ x < 0 ∧ ¬ nI rr ≤ x ∧ ¬ y < 0 ∧ y < nI eq)) : FM yX1_reach cX1_reach 3 (some .long) 1 D dA ad N [.ref (ad 0), .int x, .int y] I J (fun v I' J' => v = some (.long (-1000000000000000)) ∧ I' = I ∧ J' = J) := by
  refine FM.ofW RX1 rfl (by decide +kernel) (Nat.le_of_ble_eq_true rfl) ?_
  intro p l e s m args below meth c ls X hr hlk hI hl
  have hx := X.1
  have hb := X.2.1
  have hl : lv_has ls 3 [(0, .ref (ad 0)), (1, .int x), (2, .int y)] := hl
  obtain ⟨hn, ⟨hn1, hn4⟩, he, he3, hrr, hrn, hh, hw, hrk, hrk4, hld⟩ := ok
  refine lv_iload_n hx hb dX1_reach_0 rfl (lv_at hl 1 rfl) ?_
  refine lv_if_lt (tgt := 24) hx hb dX1_reach_1 (by decide) (fun c1 => ?_) (fun c1 => ?_)
  · refine W.ldc2 (v := (-1000000000000000)) hx hb X.2.2.2.1 (X.2.2.2.2 _ wk_X1_70) rfl dX1_reach_24 ?_
    refine W.eq (g2 := F0 m 27 ls [.long ((-1000000000000000))]) rfl ?_
    exact fl_lret X hr hlk hI dX1_reach_27 ⟨rfl, rfl, rfl⟩
  · refine lv_iload_n hx hb dX1_reach_4 rfl (lv_at hl 1 rfl) ?_
    refine lv_aload_n hx hb dX1_reach_5 rfl (lv_at hl 0 rfl) ?_
    refine fl_get1 X hI dX1_reach_6 (by omega) 6 (by decide) wf_X1_76 rfl ?_
    refine W.eq (g2 := F0 m 9 ls [.int (nI rr), .int x]) (by rw [hrr]) ?_
    refine lv_icmp_ge (tgt := 24) hx hb dX1_reach_9 (by decide) (fun c2 => ?_) (fun c2 => ?_)
    · refine W.ldc2 (v := (-1000000000000000)) hx hb X.2.2.2.1 (X.2.2.2.2 _ wk_X1_70) rfl dX1_reach_24 ?_
      refine W.eq (g2 := F0 m 27 ls [.long ((-1000000000000000))]) rfl ?_
      exact fl_lret X hr hlk hI dX1_reach_27 ⟨rfl, rfl, rfl⟩
    · refine lv_iload_n hx hb dX1_reach_12 rfl (lv_at hl 2 rfl) ?_
      refine lv_if_lt (tgt := 24) hx hb dX1_reach_13 (by decide) (fun c3 => ?_) (fun c3 => ?_)
      · refine W.ldc2 (v := (-1000000000000000)) hx hb X.2.2.2.1 (X.2.2.2.2 _ wk_X1_70) rfl dX1_reach_24 ?_
        refine W.eq (g2 := F0 m 27 ls [.long ((-1000000000000000))]) rfl ?_
        exact fl_lret X hr hlk hI dX1_reach_27 ⟨rfl, rfl, rfl⟩
      · refine lv_iload_n hx hb dX1_reach_16 rfl (lv_at hl 2 rfl) ?_
        refine lv_aload_n hx hb dX1_reach_17 rfl (lv_at hl 0 rfl) ?_
        refine fl_get1 X hI dX1_reach_18 (by omega) 3 (by decide) wf_X1_46 rfl ?_
        refine W.eq (g2 := F0 m 21 ls [.int (nI eq), .int y]) (by rw [he]) ?_
        refine lv_icmp_lt (tgt := 28) hx hb dX1_reach_21 (by decide) (fun c4 => ?_) (fun c4 => ?_)
        · exact absurd ⟨c1, c2, c3, c4⟩ hbad
        · refine W.ldc2 (v := (-1000000000000000)) hx hb X.2.2.2.1 (X.2.2.2.2 _ wk_X1_70) rfl dX1_reach_24 ?_
          refine W.eq (g2 := F0 m 27 ls [.long ((-1000000000000000))]) rfl ?_
          exact fl_lret X hr hlk hI dX1_reach_27 ⟨rfl, rfl, rfl⟩
theorem m_X1_reach (D : va_G) (dA : Nat → ClassId) (ad : Nat → Nat) (N : Nat) (I : fl_TI) (J : fl_TJ) (hN : 30 ≤ N) {n eq rr rk : Nat} (ok : x_ok I n eq rr rk) {i j : Nat} (hi : i < rr) (hj : j < eq) : FM yX1_reach cX1_reach 3 (some .long) 1 D dA ad N [.ref (ad 0), .int (nI i), .int (nI j)] I J (fun v I' J' => v = some (.long (J (6 + 2 + i) j)) ∧ I' = I ∧ J' = J) := by
  refine FM.ofW RX1 rfl (by decide +kernel) (Nat.le_of_ble_eq_true rfl) ?_
  intro p l e s m args below meth c ls X hr hlk hI hl
  have hx := X.1
  have hb := X.2.1
  have hl : lv_has ls 3 [(0, .ref (ad 0)), (1, .int (nI i)), (2, .int (nI j))] := hl
  obtain ⟨hn, ⟨hn1, hn4⟩, he, he3, hrr, hrn, hh, hw, hrk, hrk4, hld⟩ := ok
  refine lv_iload_n hx hb dX1_reach_0 rfl (lv_at hl 1 rfl) ?_
  refine lv_if_lt (tgt := 24) hx hb dX1_reach_1 (by decide) (fun c1 => absurd c1 (nI_pos (by omega))) (fun c1 => ?_)
  refine lv_iload_n hx hb dX1_reach_4 rfl (lv_at hl 1 rfl) ?_
  refine lv_aload_n hx hb dX1_reach_5 rfl (lv_at hl 0 rfl) ?_
  refine fl_get1 X hI dX1_reach_6 (by omega) 6 (by decide) wf_X1_76 rfl ?_
  refine W.eq (g2 := F0 m 9 ls [.int (nI rr), .int (nI i)]) (by rw [hrr]) ?_
  refine fn_icmp_ge X (tgt := 24) dX1_reach_9 (by decide) (by omega) (by omega) (fun c2 => absurd c2 (by omega)) (fun c2 => ?_)
  refine lv_iload_n hx hb dX1_reach_12 rfl (lv_at hl 2 rfl) ?_
  refine lv_if_lt (tgt := 24) hx hb dX1_reach_13 (by decide) (fun c3 => absurd c3 (nI_pos (by omega))) (fun c3 => ?_)
  refine lv_iload_n hx hb dX1_reach_16 rfl (lv_at hl 2 rfl) ?_
  refine lv_aload_n hx hb dX1_reach_17 rfl (lv_at hl 0 rfl) ?_
  refine fl_get1 X hI dX1_reach_18 (by omega) 3 (by decide) wf_X1_46 rfl ?_
  refine W.eq (g2 := F0 m 21 ls [.int (nI eq), .int (nI j)]) (by rw [he]) ?_
  refine fn_icmp_lt X (tgt := 28) dX1_reach_21 (by decide) (by omega) (by omega) (fun c4 => ?_) (fun c4 => absurd c4 (by omega))
  refine lv_aload_n hx hb dX1_reach_28 rfl (lv_at hl 0 rfl) ?_
  refine fl_get1 X hI dX1_reach_29 (by omega) 4 (by decide) wf_X1_23 rfl ?_
  refine lv_iload_n hx hb dX1_reach_32 rfl (lv_at hl 1 rfl) ?_
  refine lv_iload_n hx hb dX1_reach_33 rfl (lv_at hl 2 rfl) ?_
  refine fl_callV (k := 6) (As := [.int (nI i), .int (nI j)]) (rest := []) X hI dX1_reach_34 (m_X0_at D dA ad N I J hN lat6 (by omega) (by omega)) (by omega) (fl_c_4 rfl) rfl rfl wc_yX0_at wm_X1_79 wi_yX0_at wl_yX0_at wn_X0 hd_yX0_at rfl ⟨by first | decide | omega, by first | decide | omega⟩ hl.1 (Nat.le_of_ble_eq_true rfl) (fun v I2 J2 H locs hp hI => ?_)
  obtain ⟨hv, hI2, hJ2⟩ := hp
  subst hv
  rw [hI2, hJ2] at hI
  refine W.eq (g2 := F0 m 37 ls [.long (J (6 + 2 + i) j)]) rfl ?_
  exact fl_lret X hr hlk hI dX1_reach_37 ⟨rfl, rfl, rfl⟩
theorem m_X1_count0 (D : va_G) (dA : Nat → ClassId) (ad : Nat → Nat) (N : Nat) (I : fl_TI) (J : fl_TJ) (hN : 30 ≤ N) {n eq rr rk : Nat} (ok : x_ok I n eq rr rk) : FM yX1_count cX1_count 2 (some .int) 1 D dA ad N [.ref (ad 0), .int (nI 0)] I J (fun v I' J' => v = some (.int (nI rr)) ∧ I' = I ∧ J' = J) := by
  refine FM.ofW RX1 rfl (by decide +kernel) (Nat.le_of_ble_eq_true rfl) ?_
  intro p l e s m args below meth c ls X hr hlk hI hl
  have hx := X.1
  have hb := X.2.1
  have hl : lv_has ls 2 [(0, .ref (ad 0)), (1, .int (nI 0))] := hl
  obtain ⟨hn, ⟨hn1, hn4⟩, he, he3, hrr, hrn, hh, hw, hrk, hrk4, hld⟩ := ok
  refine lv_iload_n hx hb dX1_count_0 rfl (lv_at hl 1 rfl) ?_
  refine lv_tableIn (tgt := 32) hx hb dX1_count_1 (by decide) (by decide) (off := 31) (by decide) (by decide) ?_
  refine lv_aload_n hx hb dX1_count_32 rfl (lv_at hl 0 rfl) ?_
  refine fl_get1 X hI dX1_count_33 (by omega) 6 (by decide) wf_X1_76 rfl ?_
  refine W.eq (g2 := F0 m 36 ls [.int (nI rr)]) (by rw [hrr]) ?_
  exact fl_iret X hr hlk hI dX1_count_36 ⟨rfl, rfl, rfl⟩
theorem m_X1_count1 (D : va_G) (dA : Nat → ClassId) (ad : Nat → Nat) (N : Nat) (I : fl_TI) (J : fl_TJ) (hN : 30 ≤ N) {n eq rr rk : Nat} (ok : x_ok I n eq rr rk) : FM yX1_count cX1_count 2 (some .int) 1 D dA ad N [.ref (ad 0), .int (nI 1)] I J (fun v I' J' => v = some (.int (nI (n - rr))) ∧ I' = I ∧ J' = J) := by
  refine FM.ofW RX1 rfl (by decide +kernel) (Nat.le_of_ble_eq_true rfl) ?_
  intro p l e s m args below meth c ls X hr hlk hI hl
  have hx := X.1
  have hb := X.2.1
  have hl : lv_has ls 2 [(0, .ref (ad 0)), (1, .int (nI 1))] := hl
  obtain ⟨hn, ⟨hn1, hn4⟩, he, he3, hrr, hrn, hh, hw, hrk, hrk4, hld⟩ := ok
  refine lv_iload_n hx hb dX1_count_0 rfl (lv_at hl 1 rfl) ?_
  refine lv_tableIn (tgt := 37) hx hb dX1_count_1 (by decide) (by decide) (off := 36) (by decide) (by decide) ?_
  refine lv_aload_n hx hb dX1_count_37 rfl (lv_at hl 0 rfl) ?_
  refine fl_callV (k := 0) (As := []) (rest := []) X hI dX1_count_38 (m_X1_basisRows D dA ad N I J hN hn hrr hrn) (by omega) fl_c_5 rfl rfl wc_yX1_basisRows wm_X1_66 wi_yX1_basisRows wl_yX1_basisRows wn_X1 hd_yX1_basisRows rfl ⟨by first | decide | omega, by first | decide | omega⟩ hl.1 (Nat.le_of_ble_eq_true rfl) (fun v I2 J2 H locs hp hI => ?_)
  obtain ⟨hv, hI2, hJ2⟩ := hp
  subst hv
  rw [hI2, hJ2] at hI
  refine W.eq (g2 := F0 m 41 ls [.int (nI (n - rr))]) rfl ?_
  exact fl_iret X hr hlk hI dX1_count_41 ⟨rfl, rfl, rfl⟩
theorem m_X1_count2 (D : va_G) (dA : Nat → ClassId) (ad : Nat → Nat) (N : Nat) (I : fl_TI) (J : fl_TJ) (hN : 30 ≤ N) {n eq rr rk : Nat} (ok : x_ok I n eq rr rk) : FM yX1_count cX1_count 2 (some .int) 1 D dA ad N [.ref (ad 0), .int (nI 2)] I J (fun v I' J' => v = some (.int (nI eq)) ∧ I' = I ∧ J' = J) := by
  refine FM.ofW RX1 rfl (by decide +kernel) (Nat.le_of_ble_eq_true rfl) ?_
  intro p l e s m args below meth c ls X hr hlk hI hl
  have hx := X.1
  have hb := X.2.1
  have hl : lv_has ls 2 [(0, .ref (ad 0)), (1, .int (nI 2))] := hl
  obtain ⟨hn, ⟨hn1, hn4⟩, he, he3, hrr, hrn, hh, hw, hrk, hrk4, hld⟩ := ok
  refine lv_iload_n hx hb dX1_count_0 rfl (lv_at hl 1 rfl) ?_
  refine lv_tableIn (tgt := 42) hx hb dX1_count_1 (by decide) (by decide) (off := 41) (by decide) (by decide) ?_
  refine lv_aload_n hx hb dX1_count_42 rfl (lv_at hl 0 rfl) ?_
  refine fl_get1 X hI dX1_count_43 (by omega) 3 (by decide) wf_X1_46 rfl ?_
  refine W.eq (g2 := F0 m 46 ls [.int (nI eq)]) (by rw [he]) ?_
  exact fl_iret X hr hlk hI dX1_count_46 ⟨rfl, rfl, rfl⟩
theorem m_X1_count3 (D : va_G) (dA : Nat → ClassId) (ad : Nat → Nat) (N : Nat) (I : fl_TI) (J : fl_TJ) (hN : 30 ≤ N) {n eq rr rk : Nat} (ok : x_ok I n eq rr rk) : FM yX1_count cX1_count 2 (some .int) 1 D dA ad N [.ref (ad 0), .int (nI 3)] I J (fun v I' J' => v = some (.int (nI n)) ∧ I' = I ∧ J' = J) := by
  refine FM.ofW RX1 rfl (by decide +kernel) (Nat.le_of_ble_eq_true rfl) ?_
  intro p l e s m args below meth c ls X hr hlk hI hl
  have hx := X.1
  have hb := X.2.1
  have hl : lv_has ls 2 [(0, .ref (ad 0)), (1, .int (nI 3))] := hl
  obtain ⟨hn, ⟨hn1, hn4⟩, he, he3, hrr, hrn, hh, hw, hrk, hrk4, hld⟩ := ok
  refine lv_iload_n hx hb dX1_count_0 rfl (lv_at hl 1 rfl) ?_
  refine lv_tableIn (tgt := 47) hx hb dX1_count_1 (by decide) (by decide) (off := 46) (by decide) (by decide) ?_
  refine lv_aload_n hx hb dX1_count_47 rfl (lv_at hl 0 rfl) ?_
  refine fl_get1 X hI dX1_count_48 (by omega) 2 (by decide) wf_X1_42 rfl ?_
  refine W.eq (g2 := F0 m 51 ls [.int (nI n)]) (by rw [hn]) ?_
  exact fl_iret X hr hlk hI dX1_count_51 ⟨rfl, rfl, rfl⟩
theorem m_X1_count_bad (D : va_G) (dA : Nat → ClassId) (ad : Nat → Nat) (N : Nat) (I : fl_TI) (J : fl_TJ) (hN : 30 ≤ N) {x : Int32} (hbad : x.toInt < 0 ∨ 3 < x.toInt) : FM yX1_count cX1_count 2 (some .int) 1 D dA ad N [.ref (ad 0), .int x] I J (fun v I' J' => v = some (.int (-1)) ∧ I' = I ∧ J' = J) := by
  refine FM.ofW RX1 rfl (by decide +kernel) (Nat.le_of_ble_eq_true rfl) ?_
  intro p l e s m args below meth c ls X hr hlk hI hl
  have hx := X.1
  have hb := X.2.1
  have hl : lv_has ls 2 [(0, .ref (ad 0)), (1, .int x)] := hl
  refine lv_iload_n hx hb dX1_count_0 rfl (lv_at hl 1 rfl) ?_
  refine lv_tableOut (tgt := 52) hx hb dX1_count_1 (by have := hbad; omega) (by decide) ?_
  refine lv_iconst (v := (-1)) hx hb dX1_count_52 (by decide) ?_
  exact fl_iret X hr hlk hI dX1_count_53 ⟨rfl, rfl, rfl⟩
def j_reached (eq n rk : Nat) (x0 x1 x2 : Int32) (I : fl_TI) (J : fl_TJ) : fl_TJ := j_reduce 6 23 (eq + n) rk (ldI I 12) (fl_up (fl_up (fl_up (j_fill 23 J) 23 0 (x0.toInt64)) 23 1 (x1.toInt64)) 23 2 (x2.toInt64))
theorem m_X1_reached (D : va_G) (dA : Nat → ClassId) (ad : Nat → Nat) (N : Nat) (I : fl_TI) (J : fl_TJ) (hN : 30 ≤ N) {n eq rr rk : Nat} (ok : x_ok I n eq rr rk) {x0 x1 x2 : Int32} : FM yX1_reached cX1_reached 4 (some .int) 3 D dA ad N [.ref (ad 0), .int x0, .int x1, .int x2] I J (fun v I' J' => v = some (.int (if x_first 23 (j_reached eq n rk x0 x1 x2 I J) eq 0 = -1 then nI 1 else nI 0)) ∧ I' = I ∧ J' = j_reached eq n rk x0 x1 x2 I J) := by
  refine FM.ofW RX1 rfl (by decide +kernel) (Nat.le_of_ble_eq_true rfl) ?_
  intro p l e s m args below meth c ls X hr hlk hI hl
  have hx := X.1
  have hb := X.2.1
  have hl : lv_has ls 4 [(0, .ref (ad 0)), (1, .int x0), (2, .int x1), (3, .int x2)] := hl
  obtain ⟨hn, ⟨hn1, hn4⟩, he, he3, hrr, hrn, hh, hw, hrk, hrk4, hld⟩ := ok
  refine lv_aload_n hx hb dX1_reached_0 rfl (lv_at hl 0 rfl) ?_
  refine fl_get1 X hI dX1_reached_1 (by omega) 9 (by decide) wf_X1_34 rfl ?_
  refine fl_callS (As := [.ref (ad 23)]) (rest := []) X hI dX1_reached_4 (m_fill D dA ad N I J (q := 23) (by omega) rfl) wc_yX1_fillWithZero wm_X1_82 ws_yX1_fillWithZero wn_X1 hd_yX1_fillWithZero rfl ⟨by first | decide | omega, by first | decide | omega⟩ hl.1 (Nat.le_of_ble_eq_true rfl) (fun v I2 J2 H locs hp hI => ?_)
  obtain ⟨hv, hI2, hJ2⟩ := hp
  subst hv
  rw [hI2, hJ2] at hI
  refine W.eq (g2 := F0 m 7 ls []) rfl ?_
  refine lv_aload_n hx hb dX1_reached_7 rfl (lv_at hl 0 rfl) ?_
  refine fl_get1 X hI dX1_reached_8 (by omega) 9 (by decide) wf_X1_34 rfl ?_
  refine lv_iconst (v := nI 0) hx hb dX1_reached_11 (by decide) ?_
  refine lv_iload_n hx hb dX1_reached_12 rfl (lv_at hl 1 rfl) ?_
  refine lv_i2l hx hb dX1_reached_13 rfl ?_
  refine fn_last (k := 23) X hI dX1_reached_14 (by omega) rfl (show 0 < 7 by omega) (fun H locs hI => ?_)
  refine lv_aload_n hx hb dX1_reached_15 rfl (lv_at hl 0 rfl) ?_
  refine fl_get1 X hI dX1_reached_16 (by omega) 9 (by decide) wf_X1_34 rfl ?_
  refine lv_iconst (v := nI 1) hx hb dX1_reached_19 (by decide) ?_
  refine lv_iload_n hx hb dX1_reached_20 rfl (lv_at hl 2 rfl) ?_
  refine lv_i2l hx hb dX1_reached_21 rfl ?_
  refine fn_last (k := 23) X hI dX1_reached_22 (by omega) rfl (show 1 < 7 by omega) (fun H locs hI => ?_)
  refine lv_aload_n hx hb dX1_reached_23 rfl (lv_at hl 0 rfl) ?_
  refine fl_get1 X hI dX1_reached_24 (by omega) 9 (by decide) wf_X1_34 rfl ?_
  refine lv_iconst (v := nI 2) hx hb dX1_reached_27 (by decide) ?_
  refine lv_iload_n hx hb dX1_reached_28 rfl (lv_at hl 3 rfl) ?_
  refine lv_i2l hx hb dX1_reached_29 rfl ?_
  refine fn_last (k := 23) X hI dX1_reached_30 (by omega) rfl (show 2 < 7 by omega) (fun H locs hI => ?_)
  refine lv_aload_n hx hb dX1_reached_31 rfl (lv_at hl 0 rfl) ?_
  refine fl_get1 X hI dX1_reached_32 (by omega) 4 (by decide) wf_X1_23 rfl ?_
  refine lv_aload_n hx hb dX1_reached_35 rfl (lv_at hl 0 rfl) ?_
  refine fl_get1 X hI dX1_reached_36 (by omega) 9 (by decide) wf_X1_34 rfl ?_
  refine fl_callV (k := 6) (As := [.ref (ad 23)]) (rest := []) X hI dX1_reached_39 (m_X0_reduce D dA ad N I (fl_up (fl_up (fl_up (j_fill 23 J) 23 0 x0.toInt64) 23 1 x1.toInt64) 23 2 x2.toInt64) hN lat6 (q := 23) (by omega) rfl hw (by omega) (show _ ≤ 7 by omega) hrk (by omega) (fun i hi => ⟨(hld i hi).1, by have := (hld i hi).2; omega, by have := (hld i hi).2; show _ < 7; omega⟩)) (by omega) (fl_c_4 rfl) rfl rfl wc_yX0_reduce wm_X1_86 wi_yX0_reduce wl_yX0_reduce wn_X0 hd_yX0_reduce rfl ⟨by first | decide | omega, by first | decide | omega⟩ hl.1 (Nat.le_of_ble_eq_true rfl) (fun v I2 J2 H locs hp hI => ?_)
  obtain ⟨hv, hI2, hJ2⟩ := hp
  subst hv
  rw [hI2, hJ2] at hI
  refine W.eq (g2 := F0 m 42 ls []) rfl ?_
  refine lv_aload_n hx hb dX1_reached_42 rfl (lv_at hl 0 rfl) ?_
  refine lv_aload_n hx hb dX1_reached_43 rfl (lv_at hl 0 rfl) ?_
  refine fl_get1 X hI dX1_reached_44 (by omega) 9 (by decide) wf_X1_34 rfl ?_
  refine fl_callV (k := 0) (As := [.ref (ad 23)]) (rest := []) X hI dX1_reached_47 (m_X1_firstNotZero D dA ad N I (j_reduce 6 23 (eq + n) rk (ldI I 12) (fl_up (fl_up (fl_up (j_fill 23 J) 23 0 x0.toInt64) 23 1 x1.toInt64) 23 2 x2.toInt64)) hN (q := 23) (by omega) rfl he he3 (show _ ≤ 7 by omega)) (by omega) fl_c_5 rfl rfl wc_yX1_firstNotZero wm_X1_89 wi_yX1_firstNotZero wl_yX1_firstNotZero wn_X1 hd_yX1_firstNotZero rfl ⟨by first | decide | omega, by first | decide | omega⟩ hl.1 (Nat.le_of_ble_eq_true rfl) (fun v I2 J2 H locs hp hI => ?_)
  obtain ⟨hv, hI2, hJ2⟩ := hp
  subst hv
  rw [hI2, hJ2] at hI
  refine W.eq (g2 := F0 m 50 ls [.int (x_first 23 (j_reduce 6 23 (eq + n) rk (ldI I 12) (fl_up (fl_up (fl_up (j_fill 23 J) 23 0 x0.toInt64) 23 1 x1.toInt64) 23 2 x2.toInt64)) eq 0)]) rfl ?_
  refine lv_iconst (v := (-1)) hx hb dX1_reached_50 (by decide) ?_
  refine lv_icmp_ne (tgt := 58) hx hb dX1_reached_51 (by decide) (fun c1 => ?_) (fun c1 => ?_)
  · refine lv_iconst (v := nI 0) hx hb dX1_reached_58 (by decide) ?_
    exact fl_iret X hr hlk hI dX1_reached_59 ⟨by unfold j_reached; simp [*], rfl, rfl⟩
  · refine lv_iconst (v := nI 1) hx hb dX1_reached_54 (by decide) ?_
    refine lv_goto (tgt := 59) hx hb dX1_reached_55 (by decide) ?_
    exact fl_iret X hr hlk hI dX1_reached_59 ⟨by unfold j_reached; simp [*], rfl, rfl⟩
