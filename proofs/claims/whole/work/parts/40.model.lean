/-! the model: state, small methods -/
theorem m_X2_unknowns_bad (D : va_G) (dA : Nat → ClassId) (ad : Nat → Nat) (N : Nat) (I : fl_TI) (J : fl_TJ) (hN : 37 ≤ N) (x : Int32) (h : x < nI 1 ∨ ¬ x ≤ nI 4) : FM yX2_unknowns cX2_unknowns 2 (some .int) 0 D dA ad N [.ref (ad 30), .int x] I J (fun v I' J' => v = some (.int (nI 0)) ∧ I' = I ∧ J' = J) := by
  refine FM.ofW RX2 rfl (by decide +kernel) (Nat.le_of_ble_eq_true rfl) ?_
  intro p l e s m args below meth c ls X hr hlk hI hl
  have hx := X.1
  have hb := X.2.1
  have hl : lv_has ls 2 [(0, .ref (ad 30)), (1, .int x)] := hl
  refine lv_iload_n hx hb dX2_unknowns_0 rfl (lv_at hl 1 rfl) ?_
  refine lv_iconst (v := nI 1) hx hb dX2_unknowns_1 (by decide) ?_
  refine lv_icmp_lt (tgt := 10) hx hb dX2_unknowns_2 (by decide) (fun c1 => ?_) (fun c1 => ?_)
  · refine lv_iconst (v := nI 0) hx hb dX2_unknowns_10 (by decide) ?_
    exact fl_iret X hr hlk hI dX2_unknowns_11 ⟨rfl, rfl, rfl⟩
  · refine lv_iload_n hx hb dX2_unknowns_5 rfl (lv_at hl 1 rfl) ?_
    refine lv_iconst (v := nI 4) hx hb dX2_unknowns_6 (by decide) ?_
    refine lv_icmp_le (tgt := 12) hx hb dX2_unknowns_7 (by decide) (fun c2 => ?_) (fun c2 => ?_)
    · exact absurd h (fun q => q.elim c1 (fun z => z c2))
    · refine lv_iconst (v := nI 0) hx hb dX2_unknowns_10 (by decide) ?_
      exact fl_iret X hr hlk hI dX2_unknowns_11 ⟨rfl, rfl, rfl⟩
theorem m_X2_unknowns (D : va_G) (dA : Nat → ClassId) (ad : Nat → Nat) (N : Nat) (I : fl_TI) (J : fl_TJ) (hN : 37 ≤ N) {n : Nat} (hn1 : 1 ≤ n) (hn4 : n ≤ 4) : FM yX2_unknowns cX2_unknowns 2 (some .int) 0 D dA ad N [.ref (ad 30), .int (nI n)] I J (fun v I' J' => v = some (.int (nI 1)) ∧ I' = fl_up (fl_up I 30 0 (nI n)) 30 1 (nI 0) ∧ J' = J) := by
  refine FM.ofW RX2 rfl (by decide +kernel) (Nat.le_of_ble_eq_true rfl) ?_
  intro p l e s m args below meth c ls X hr hlk hI hl
  have hx := X.1
  have hb := X.2.1
  have hl : lv_has ls 2 [(0, .ref (ad 30)), (1, .int (nI n))] := hl
  refine lv_iload_n hx hb dX2_unknowns_0 rfl (lv_at hl 1 rfl) ?_
  refine lv_iconst (v := nI 1) hx hb dX2_unknowns_1 (by decide) ?_
  refine fn_icmp_lt X (tgt := 10) dX2_unknowns_2 (by decide) (by omega) (by omega) (fun c1 => absurd c1 (by omega)) (fun c1 => ?_)
  refine lv_iload_n hx hb dX2_unknowns_5 rfl (lv_at hl 1 rfl) ?_
  refine lv_iconst (v := nI 4) hx hb dX2_unknowns_6 (by decide) ?_
  refine fn_icmp_le X (tgt := 12) dX2_unknowns_7 (by decide) (by omega) (by omega) (fun c2 => ?_) (fun c2 => absurd c2 (by omega))
  refine lv_aload_n hx hb dX2_unknowns_12 rfl (lv_at hl 0 rfl) ?_
  refine lv_iload_n hx hb dX2_unknowns_13 rfl (lv_at hl 1 rfl) ?_
  refine fl_put2 X hI dX2_unknowns_14 (by omega) 0 (by decide) wf_X2_7 (fun H locs hI => ?_)
  refine lv_aload_n hx hb dX2_unknowns_17 rfl (lv_at hl 0 rfl) ?_
  refine lv_iconst (v := nI 0) hx hb dX2_unknowns_18 (by decide) ?_
  refine fl_put2 X hI dX2_unknowns_19 (by omega) 1 (by decide) wf_X2_33 (fun H locs hI => ?_)
  refine lv_iconst (v := nI 1) hx hb dX2_unknowns_22 (by decide) ?_
  exact fl_iret X hr hlk hI dX2_unknowns_23 ⟨rfl, rfl, rfl⟩
theorem m_X2_isFactor (D : va_G) (dA : Nat → ClassId) (ad : Nat → Nat) (N : Nat) (I : fl_TI) (J : fl_TJ) (hN : 37 ≤ N) {n j : Nat} (x : Int32) (hn : I 30 0 = nI n) (hn4 : n ≤ 4) (hj : j ≤ 4) : FM yX2_isFactor cX2_isFactor 3 (some .boolean) 0 D dA ad N [.ref (ad 30), .int (nI j), .int x] I J (fun v I' J' => v = some (.int (if n ≤ j ∨ (¬ x < -9 ∧ ¬ nI 9 < x) then nI 1 else nI 0)) ∧ I' = I ∧ J' = J) := by
  refine FM.ofW RX2 rfl (by decide +kernel) (Nat.le_of_ble_eq_true rfl) ?_
  intro p l e s m args below meth c ls X hr hlk hI hl
  have hx := X.1
  have hb := X.2.1
  have hl : lv_has ls 3 [(0, .ref (ad 30)), (1, .int (nI j)), (2, .int x)] := hl
  refine lv_iload_n hx hb dX2_isFactor_0 rfl (lv_at hl 1 rfl) ?_
  refine lv_aload_n hx hb dX2_isFactor_1 rfl (lv_at hl 0 rfl) ?_
  refine fl_get2 X hI dX2_isFactor_2 (by omega) 0 (by decide) wf_X2_7 rfl ?_
  refine W.eq (g2 := F0 m 5 ls [.int (nI n), .int (nI j)]) (by rw [hn]) ?_
  refine fn_icmp_ge X (tgt := 20) dX2_isFactor_5 (by decide) (by omega) (by omega) (fun c1 => ?_) (fun c1 => ?_)
  · refine lv_iconst (v := nI 1) hx hb dX2_isFactor_20 (by decide) ?_
    refine lv_goto (tgt := 25) hx hb dX2_isFactor_21 (by decide) ?_
    exact fl_zret X hr hlk hI dX2_isFactor_25 (by decide) ⟨by simp [*]; try omega, rfl, rfl⟩
  · refine lv_iload_n hx hb dX2_isFactor_8 rfl (lv_at hl 2 rfl) ?_
    refine lv_bipush (v := (-9)) hx hb dX2_isFactor_9 (by decide) ?_
    refine lv_icmp_lt (tgt := 24) hx hb dX2_isFactor_11 (by decide) (fun c2 => ?_) (fun c2 => ?_)
    · refine lv_iconst (v := nI 0) hx hb dX2_isFactor_24 (by decide) ?_
      exact fl_zret X hr hlk hI dX2_isFactor_25 (by decide) ⟨by simp [*]; try omega, rfl, rfl⟩
    · refine lv_iload_n hx hb dX2_isFactor_14 rfl (lv_at hl 2 rfl) ?_
      refine lv_bipush (v := nI 9) hx hb dX2_isFactor_15 (by decide) ?_
      refine lv_icmp_gt (tgt := 24) hx hb dX2_isFactor_17 (by decide) (fun c3 => ?_) (fun c3 => ?_)
      · refine lv_iconst (v := nI 0) hx hb dX2_isFactor_24 (by decide) ?_
        exact fl_zret X hr hlk hI dX2_isFactor_25 (by decide) ⟨by simp [*]; try omega, rfl, rfl⟩
      · refine lv_iconst (v := nI 1) hx hb dX2_isFactor_20 (by decide) ?_
        refine lv_goto (tgt := 25) hx hb dX2_isFactor_21 (by decide) ?_
        exact fl_zret X hr hlk hI dX2_isFactor_25 (by decide) ⟨by simp [*]; try omega, rfl, rfl⟩
theorem m_X2_equation_bad (D : va_G) (dA : Nat → ClassId) (ad : Nat → Nat) (N : Nat) (I : fl_TI) (J : fl_TJ) (hN : 37 ≤ N) {n eq : Nat} {x0 x1 x2 x3 xs : Int32} (hn : I 30 0 = nI n) (hn4 : n ≤ 4) (he : I 30 1 = nI eq) (he3 : eq ≤ 3) (hbad : ¬ (eq < 3 ∧ (¬ xs < -1000 ∧ ¬ nI 1000 < xs) ∧ (n ≤ 0 ∨ (¬ x0 < -9 ∧ ¬ nI 9 < x0)) ∧ (n ≤ 1 ∨ (¬ x1 < -9 ∧ ¬ nI 9 < x1)) ∧ (n ≤ 2 ∨ (¬ x2 < -9 ∧ ¬ nI 9 < x2)) ∧ (n ≤ 3 ∨ (¬ x3 < -9 ∧ ¬ nI 9 < x3)))) : FM yX2_equation cX2_equation 7 (some .int) 1 D dA ad N [.ref (ad 30), .int x0, .int x1, .int x2, .int x3, .int xs] I J (fun v I' J' => v = some (.int (-1)) ∧ I' = I ∧ J' = J) := by
  refine FM.ofW RX2 rfl (by decide +kernel) (Nat.le_of_ble_eq_true rfl) ?_
  intro p l e s m args below meth c ls X hr hlk hI hl
  have hx := X.1
  have hb := X.2.1
  have hl : lv_has ls 7 [(0, .ref (ad 30)), (1, .int x0), (2, .int x1), (3, .int x2), (4, .int x3), (5, .int xs)] := hl
  refine lv_aload_n hx hb dX2_equation_0 rfl (lv_at hl 0 rfl) ?_
  refine lv_iconst (v := nI 0) hx hb dX2_equation_1 (by decide) ?_
  refine lv_iload_n hx hb dX2_equation_2 rfl (lv_at hl 1 rfl) ?_
  refine fl_callV (k := 30) (As := [.int (nI 0), .int x0]) (rest := []) X hI dX2_equation_3 (m_X2_isFactor D dA ad N I J hN x0 hn hn4 (by omega)) (by omega) fl_c_6 rfl rfl wc_yX2_isFactor wm_X2_36 wi_yX2_isFactor wl_yX2_isFactor wn_X2 hd_yX2_isFactor rfl ⟨by first | decide | omega, by first | decide | omega⟩ hl.1 (Nat.le_of_ble_eq_true rfl) (fun v I2 J2 H locs hp hI => ?_)
  obtain ⟨hv, hI2, hJ2⟩ := hp
  subst hv
  rw [hI2, hJ2] at hI
  refine W.eq (g2 := F0 m 6 ls [.int (if n ≤ 0 ∨ (¬ x0 < -9 ∧ ¬ nI 9 < x0) then nI 1 else nI 0)]) rfl ?_
  refine lv_if_eq (tgt := 53) hx hb dX2_equation_6 (by decide) (fun c1 => ?_) (fun c1 => ?_)
  · refine lv_iconst (v := (-1)) hx hb dX2_equation_53 (by decide) ?_
    exact fl_iret X hr hlk hI dX2_equation_54 ⟨rfl, rfl, rfl⟩
  · refine lv_aload_n hx hb dX2_equation_9 rfl (lv_at hl 0 rfl) ?_
    refine lv_iconst (v := nI 1) hx hb dX2_equation_10 (by decide) ?_
    refine lv_iload_n hx hb dX2_equation_11 rfl (lv_at hl 2 rfl) ?_
    refine fl_callV (k := 30) (As := [.int (nI 1), .int x1]) (rest := []) X hI dX2_equation_12 (m_X2_isFactor D dA ad N I J hN x1 hn hn4 (by omega)) (by omega) fl_c_6 rfl rfl wc_yX2_isFactor wm_X2_36 wi_yX2_isFactor wl_yX2_isFactor wn_X2 hd_yX2_isFactor rfl ⟨by first | decide | omega, by first | decide | omega⟩ hl.1 (Nat.le_of_ble_eq_true rfl) (fun v I2 J2 H locs hp hI => ?_)
    obtain ⟨hv, hI2, hJ2⟩ := hp
    subst hv
    rw [hI2, hJ2] at hI
    refine W.eq (g2 := F0 m 15 ls [.int (if n ≤ 1 ∨ (¬ x1 < -9 ∧ ¬ nI 9 < x1) then nI 1 else nI 0)]) rfl ?_
    refine lv_if_eq (tgt := 53) hx hb dX2_equation_15 (by decide) (fun c2 => ?_) (fun c2 => ?_)
    · refine lv_iconst (v := (-1)) hx hb dX2_equation_53 (by decide) ?_
      exact fl_iret X hr hlk hI dX2_equation_54 ⟨rfl, rfl, rfl⟩
    · refine lv_aload_n hx hb dX2_equation_18 rfl (lv_at hl 0 rfl) ?_
      refine lv_iconst (v := nI 2) hx hb dX2_equation_19 (by decide) ?_
      refine lv_iload_n hx hb dX2_equation_20 rfl (lv_at hl 3 rfl) ?_
      refine fl_callV (k := 30) (As := [.int (nI 2), .int x2]) (rest := []) X hI dX2_equation_21 (m_X2_isFactor D dA ad N I J hN x2 hn hn4 (by omega)) (by omega) fl_c_6 rfl rfl wc_yX2_isFactor wm_X2_36 wi_yX2_isFactor wl_yX2_isFactor wn_X2 hd_yX2_isFactor rfl ⟨by first | decide | omega, by first | decide | omega⟩ hl.1 (Nat.le_of_ble_eq_true rfl) (fun v I2 J2 H locs hp hI => ?_)
      obtain ⟨hv, hI2, hJ2⟩ := hp
      subst hv
      rw [hI2, hJ2] at hI
      refine W.eq (g2 := F0 m 24 ls [.int (if n ≤ 2 ∨ (¬ x2 < -9 ∧ ¬ nI 9 < x2) then nI 1 else nI 0)]) rfl ?_
      refine lv_if_eq (tgt := 53) hx hb dX2_equation_24 (by decide) (fun c3 => ?_) (fun c3 => ?_)
      · refine lv_iconst (v := (-1)) hx hb dX2_equation_53 (by decide) ?_
        exact fl_iret X hr hlk hI dX2_equation_54 ⟨rfl, rfl, rfl⟩
      · refine lv_aload_n hx hb dX2_equation_27 rfl (lv_at hl 0 rfl) ?_
        refine lv_iconst (v := nI 3) hx hb dX2_equation_28 (by decide) ?_
        refine lv_iload hx hb dX2_equation_29 (lv_at hl 4 rfl) ?_
        refine fl_callV (k := 30) (As := [.int (nI 3), .int x3]) (rest := []) X hI dX2_equation_31 (m_X2_isFactor D dA ad N I J hN x3 hn hn4 (by omega)) (by omega) fl_c_6 rfl rfl wc_yX2_isFactor wm_X2_36 wi_yX2_isFactor wl_yX2_isFactor wn_X2 hd_yX2_isFactor rfl ⟨by first | decide | omega, by first | decide | omega⟩ hl.1 (Nat.le_of_ble_eq_true rfl) (fun v I2 J2 H locs hp hI => ?_)
        obtain ⟨hv, hI2, hJ2⟩ := hp
        subst hv
        rw [hI2, hJ2] at hI
        refine W.eq (g2 := F0 m 34 ls [.int (if n ≤ 3 ∨ (¬ x3 < -9 ∧ ¬ nI 9 < x3) then nI 1 else nI 0)]) rfl ?_
        refine lv_if_eq (tgt := 53) hx hb dX2_equation_34 (by decide) (fun c4 => ?_) (fun c4 => ?_)
        · refine lv_iconst (v := (-1)) hx hb dX2_equation_53 (by decide) ?_
          exact fl_iret X hr hlk hI dX2_equation_54 ⟨rfl, rfl, rfl⟩
        · refine lv_iload hx hb dX2_equation_37 (lv_at hl 5 rfl) ?_
          refine fl_callS (As := [.int xs]) (rest := []) X hI dX2_equation_39 (m_X2_isSum D dA ad N I J xs) wc_yX2_isSum wm_X2_40 ws_yX2_isSum wn_X2 hd_yX2_isSum rfl ⟨by first | decide | omega, by first | decide | omega⟩ hl.1 (Nat.le_of_ble_eq_true rfl) (fun v I2 J2 H locs hp hI => ?_)
          obtain ⟨hv, hI2, hJ2⟩ := hp
          subst hv
          rw [hI2, hJ2] at hI
          refine W.eq (g2 := F0 m 42 ls [.int (if ¬ xs < -1000 ∧ ¬ nI 1000 < xs then nI 1 else nI 0)]) rfl ?_
          refine lv_if_eq (tgt := 53) hx hb dX2_equation_42 (by decide) (fun c5 => ?_) (fun c5 => ?_)
          · refine lv_iconst (v := (-1)) hx hb dX2_equation_53 (by decide) ?_
            exact fl_iret X hr hlk hI dX2_equation_54 ⟨rfl, rfl, rfl⟩
          · refine lv_aload_n hx hb dX2_equation_45 rfl (lv_at hl 0 rfl) ?_
            refine fl_get2 X hI dX2_equation_46 (by omega) 1 (by decide) wf_X2_33 rfl ?_
            refine W.eq (g2 := F0 m 49 ls [.int (nI eq)]) (by rw [he]) ?_
            refine lv_iconst (v := nI 3) hx hb dX2_equation_49 (by decide) ?_
            refine fn_icmp_ne X (tgt := 55) dX2_equation_50 (by decide) (by omega) (by omega) (fun c6 => ?_) (fun c6 => ?_)
            · exact absurd ⟨by omega, b_t c5, b_t c1, b_t c2, b_t c3, b_t c4⟩ hbad
            · refine lv_iconst (v := (-1)) hx hb dX2_equation_53 (by decide) ?_
              exact fl_iret X hr hlk hI dX2_equation_54 ⟨rfl, rfl, rfl⟩
def k_eqn (eq : Nat) (x0 x1 x2 x3 xs : Int32) (I : fl_TI) : fl_TI := fl_up (fl_up (fl_up (fl_up (fl_up (fl_up I 31 (4 * eq) x0) 31 (4 * eq + 1) x1) 31 (4 * eq + 2) x2) 31 (4 * eq + 3) x3) 32 eq xs) 30 1 (nI (eq + 1))
theorem m_X2_equation (D : va_G) (dA : Nat → ClassId) (ad : Nat → Nat) (N : Nat) (I : fl_TI) (J : fl_TJ) (hN : 37 ≤ N) {n eq : Nat} {x0 x1 x2 x3 xs : Int32} (hn : I 30 0 = nI n) (hn4 : n ≤ 4) (he : I 30 1 = nI eq) (he3 : eq ≤ 3) (h3 : eq < 3) (hs : (¬ xs < -1000 ∧ ¬ nI 1000 < xs)) (hf0 : (n ≤ 0 ∨ (¬ x0 < -9 ∧ ¬ nI 9 < x0))) (hf1 : (n ≤ 1 ∨ (¬ x1 < -9 ∧ ¬ nI 9 < x1))) (hf2 : (n ≤ 2 ∨ (¬ x2 < -9 ∧ ¬ nI 9 < x2))) (hf3 : (n ≤ 3 ∨ (¬ x3 < -9 ∧ ¬ nI 9 < x3))) : FM yX2_equation cX2_equation 7 (some .int) 1 D dA ad N [.ref (ad 30), .int x0, .int x1, .int x2, .int x3, .int xs] I J (fun v I' J' => v = some (.int (nI eq)) ∧ I' = k_eqn eq x0 x1 x2 x3 xs I ∧ J' = J) := by
  refine FM.ofW RX2 rfl (by decide +kernel) (Nat.le_of_ble_eq_true rfl) ?_
  intro p l e s m args below meth c ls X hr hlk hI hl
  have hx := X.1
  have hb := X.2.1
  have hl : lv_has ls 7 [(0, .ref (ad 30)), (1, .int x0), (2, .int x1), (3, .int x2), (4, .int x3), (5, .int xs)] := hl
  refine lv_aload_n hx hb dX2_equation_0 rfl (lv_at hl 0 rfl) ?_
  refine lv_iconst (v := nI 0) hx hb dX2_equation_1 (by decide) ?_
  refine lv_iload_n hx hb dX2_equation_2 rfl (lv_at hl 1 rfl) ?_
  refine fl_callV (k := 30) (As := [.int (nI 0), .int x0]) (rest := []) X hI dX2_equation_3 (m_X2_isFactor D dA ad N I J hN x0 hn hn4 (by omega)) (by omega) fl_c_6 rfl rfl wc_yX2_isFactor wm_X2_36 wi_yX2_isFactor wl_yX2_isFactor wn_X2 hd_yX2_isFactor rfl ⟨by first | decide | omega, by first | decide | omega⟩ hl.1 (Nat.le_of_ble_eq_true rfl) (fun v I2 J2 H locs hp hI => ?_)
  obtain ⟨hv, hI2, hJ2⟩ := hp
  subst hv
  rw [hI2, hJ2] at hI
  refine W.eq (g2 := F0 m 6 ls [.int (if n ≤ 0 ∨ (¬ x0 < -9 ∧ ¬ nI 9 < x0) then nI 1 else nI 0)]) rfl ?_
  refine lv_if_eq (tgt := 53) hx hb dX2_equation_6 (by decide) (fun c1 => ?_) (fun c1 => ?_)
  · first | exact absurd hf0 (b_f (by assumption)) | exact absurd hf1 (b_f (by assumption)) | exact absurd hf2 (b_f (by assumption)) | exact absurd hf3 (b_f (by assumption)) | exact absurd hs (b_f (by assumption)) | exact absurd h3 (by omega)
  · refine lv_aload_n hx hb dX2_equation_9 rfl (lv_at hl 0 rfl) ?_
    refine lv_iconst (v := nI 1) hx hb dX2_equation_10 (by decide) ?_
    refine lv_iload_n hx hb dX2_equation_11 rfl (lv_at hl 2 rfl) ?_
    refine fl_callV (k := 30) (As := [.int (nI 1), .int x1]) (rest := []) X hI dX2_equation_12 (m_X2_isFactor D dA ad N I J hN x1 hn hn4 (by omega)) (by omega) fl_c_6 rfl rfl wc_yX2_isFactor wm_X2_36 wi_yX2_isFactor wl_yX2_isFactor wn_X2 hd_yX2_isFactor rfl ⟨by first | decide | omega, by first | decide | omega⟩ hl.1 (Nat.le_of_ble_eq_true rfl) (fun v I2 J2 H locs hp hI => ?_)
    obtain ⟨hv, hI2, hJ2⟩ := hp
    subst hv
    rw [hI2, hJ2] at hI
    refine W.eq (g2 := F0 m 15 ls [.int (if n ≤ 1 ∨ (¬ x1 < -9 ∧ ¬ nI 9 < x1) then nI 1 else nI 0)]) rfl ?_
    refine lv_if_eq (tgt := 53) hx hb dX2_equation_15 (by decide) (fun c2 => ?_) (fun c2 => ?_)
    · first | exact absurd hf0 (b_f (by assumption)) | exact absurd hf1 (b_f (by assumption)) | exact absurd hf2 (b_f (by assumption)) | exact absurd hf3 (b_f (by assumption)) | exact absurd hs (b_f (by assumption)) | exact absurd h3 (by omega)
    · refine lv_aload_n hx hb dX2_equation_18 rfl (lv_at hl 0 rfl) ?_
      refine lv_iconst (v := nI 2) hx hb dX2_equation_19 (by decide) ?_
      refine lv_iload_n hx hb dX2_equation_20 rfl (lv_at hl 3 rfl) ?_
      refine fl_callV (k := 30) (As := [.int (nI 2), .int x2]) (rest := []) X hI dX2_equation_21 (m_X2_isFactor D dA ad N I J hN x2 hn hn4 (by omega)) (by omega) fl_c_6 rfl rfl wc_yX2_isFactor wm_X2_36 wi_yX2_isFactor wl_yX2_isFactor wn_X2 hd_yX2_isFactor rfl ⟨by first | decide | omega, by first | decide | omega⟩ hl.1 (Nat.le_of_ble_eq_true rfl) (fun v I2 J2 H locs hp hI => ?_)
      obtain ⟨hv, hI2, hJ2⟩ := hp
      subst hv
      rw [hI2, hJ2] at hI
      refine W.eq (g2 := F0 m 24 ls [.int (if n ≤ 2 ∨ (¬ x2 < -9 ∧ ¬ nI 9 < x2) then nI 1 else nI 0)]) rfl ?_
      refine lv_if_eq (tgt := 53) hx hb dX2_equation_24 (by decide) (fun c3 => ?_) (fun c3 => ?_)
      · first | exact absurd hf0 (b_f (by assumption)) | exact absurd hf1 (b_f (by assumption)) | exact absurd hf2 (b_f (by assumption)) | exact absurd hf3 (b_f (by assumption)) | exact absurd hs (b_f (by assumption)) | exact absurd h3 (by omega)
      · refine lv_aload_n hx hb dX2_equation_27 rfl (lv_at hl 0 rfl) ?_
        refine lv_iconst (v := nI 3) hx hb dX2_equation_28 (by decide) ?_
        refine lv_iload hx hb dX2_equation_29 (lv_at hl 4 rfl) ?_
        refine fl_callV (k := 30) (As := [.int (nI 3), .int x3]) (rest := []) X hI dX2_equation_31 (m_X2_isFactor D dA ad N I J hN x3 hn hn4 (by omega)) (by omega) fl_c_6 rfl rfl wc_yX2_isFactor wm_X2_36 wi_yX2_isFactor wl_yX2_isFactor wn_X2 hd_yX2_isFactor rfl ⟨by first | decide | omega, by first | decide | omega⟩ hl.1 (Nat.le_of_ble_eq_true rfl) (fun v I2 J2 H locs hp hI => ?_)
        obtain ⟨hv, hI2, hJ2⟩ := hp
        subst hv
        rw [hI2, hJ2] at hI
        refine W.eq (g2 := F0 m 34 ls [.int (if n ≤ 3 ∨ (¬ x3 < -9 ∧ ¬ nI 9 < x3) then nI 1 else nI 0)]) rfl ?_
        refine lv_if_eq (tgt := 53) hx hb dX2_equation_34 (by decide) (fun c4 => ?_) (fun c4 => ?_)
        · first | exact absurd hf0 (b_f (by assumption)) | exact absurd hf1 (b_f (by assumption)) | exact absurd hf2 (b_f (by assumption)) | exact absurd hf3 (b_f (by assumption)) | exact absurd hs (b_f (by assumption)) | exact absurd h3 (by omega)
        · refine lv_iload hx hb dX2_equation_37 (lv_at hl 5 rfl) ?_
          refine fl_callS (As := [.int xs]) (rest := []) X hI dX2_equation_39 (m_X2_isSum D dA ad N I J xs) wc_yX2_isSum wm_X2_40 ws_yX2_isSum wn_X2 hd_yX2_isSum rfl ⟨by first | decide | omega, by first | decide | omega⟩ hl.1 (Nat.le_of_ble_eq_true rfl) (fun v I2 J2 H locs hp hI => ?_)
          obtain ⟨hv, hI2, hJ2⟩ := hp
          subst hv
          rw [hI2, hJ2] at hI
          refine W.eq (g2 := F0 m 42 ls [.int (if ¬ xs < -1000 ∧ ¬ nI 1000 < xs then nI 1 else nI 0)]) rfl ?_
          refine lv_if_eq (tgt := 53) hx hb dX2_equation_42 (by decide) (fun c5 => ?_) (fun c5 => ?_)
          · first | exact absurd hf0 (b_f (by assumption)) | exact absurd hf1 (b_f (by assumption)) | exact absurd hf2 (b_f (by assumption)) | exact absurd hf3 (b_f (by assumption)) | exact absurd hs (b_f (by assumption)) | exact absurd h3 (by omega)
          · refine lv_aload_n hx hb dX2_equation_45 rfl (lv_at hl 0 rfl) ?_
            refine fl_get2 X hI dX2_equation_46 (by omega) 1 (by decide) wf_X2_33 rfl ?_
            refine W.eq (g2 := F0 m 49 ls [.int (nI eq)]) (by rw [he]) ?_
            refine lv_iconst (v := nI 3) hx hb dX2_equation_49 (by decide) ?_
            refine fn_icmp_ne X (tgt := 55) dX2_equation_50 (by decide) (by omega) (by omega) (fun c6 => ?_) (fun c6 => ?_)
            · refine lv_iconst (v := nI 4) hx hb dX2_equation_55 (by decide) ?_
              refine lv_aload_n hx hb dX2_equation_56 rfl (lv_at hl 0 rfl) ?_
              refine fl_get2 X hI dX2_equation_57 (by omega) 1 (by decide) wf_X2_33 rfl ?_
              refine W.eq (g2 := F0 m 60 ls [.int (nI eq), .int (nI 4)]) (by rw [he]) ?_
              refine fn_imul X dX2_equation_60 ?_
              refine lv_istore (lv' := [(6, .int (nI (4 * eq))), (0, .ref (ad 30)), (1, .int x0), (2, .int x1), (3, .int x2), (4, .int x3), (5, .int xs)]) hx hb dX2_equation_61 hl (by decide) rfl (fun ls hl => ?_)
              refine lv_aload_n hx hb dX2_equation_63 rfl (lv_at hl 1 rfl) ?_
              refine fl_get2 X hI dX2_equation_64 (by omega) 2 (by decide) wf_X2_13 rfl ?_
              refine lv_iload hx hb dX2_equation_67 (lv_at hl 0 rfl) ?_
              refine lv_iload_n hx hb dX2_equation_69 rfl (lv_at hl 2 rfl) ?_
              refine fn_iast (k := 31) X hI dX2_equation_70 (by omega) rfl (show 4 * eq < 12 by omega) (fun H locs hI => ?_)
              refine lv_aload_n hx hb dX2_equation_71 rfl (lv_at hl 1 rfl) ?_
              refine fl_get2 X hI dX2_equation_72 (by omega) 2 (by decide) wf_X2_13 rfl ?_
              refine lv_iload hx hb dX2_equation_75 (lv_at hl 0 rfl) ?_
              refine lv_iconst (v := nI 1) hx hb dX2_equation_77 (by decide) ?_
              refine fn_iadd X dX2_equation_78 ?_
              refine lv_iload_n hx hb dX2_equation_79 rfl (lv_at hl 3 rfl) ?_
              refine fn_iast (k := 31) X hI dX2_equation_80 (by omega) rfl (show (4 * eq) + 1 < 12 by omega) (fun H locs hI => ?_)
              refine lv_aload_n hx hb dX2_equation_81 rfl (lv_at hl 1 rfl) ?_
              refine fl_get2 X hI dX2_equation_82 (by omega) 2 (by decide) wf_X2_13 rfl ?_
              refine lv_iload hx hb dX2_equation_85 (lv_at hl 0 rfl) ?_
              refine lv_iconst (v := nI 2) hx hb dX2_equation_87 (by decide) ?_
              refine fn_iadd X dX2_equation_88 ?_
              refine lv_iload_n hx hb dX2_equation_89 rfl (lv_at hl 4 rfl) ?_
              refine fn_iast (k := 31) X hI dX2_equation_90 (by omega) rfl (show (4 * eq) + 2 < 12 by omega) (fun H locs hI => ?_)
              refine lv_aload_n hx hb dX2_equation_91 rfl (lv_at hl 1 rfl) ?_
              refine fl_get2 X hI dX2_equation_92 (by omega) 2 (by decide) wf_X2_13 rfl ?_
              refine lv_iload hx hb dX2_equation_95 (lv_at hl 0 rfl) ?_
              refine lv_iconst (v := nI 3) hx hb dX2_equation_97 (by decide) ?_
              refine fn_iadd X dX2_equation_98 ?_
              refine lv_iload hx hb dX2_equation_99 (lv_at hl 5 rfl) ?_
              refine fn_iast (k := 31) X hI dX2_equation_101 (by omega) rfl (show (4 * eq) + 3 < 12 by omega) (fun H locs hI => ?_)
              refine lv_aload_n hx hb dX2_equation_102 rfl (lv_at hl 1 rfl) ?_
              refine fl_get2 X hI dX2_equation_103 (by omega) 3 (by decide) wf_X2_17 rfl ?_
              refine lv_aload_n hx hb dX2_equation_106 rfl (lv_at hl 1 rfl) ?_
              refine fl_get2 X hI dX2_equation_107 (by omega) 1 (by decide) wf_X2_33 rfl ?_
              refine W.eq (g2 := F0 m 110 ls [.int (nI eq), .ref (ad 32)]) (by rw [fl_up_k (by omega), fl_up_k (by omega), fl_up_k (by omega), fl_up_k (by omega), he]) ?_
              refine lv_iload hx hb dX2_equation_110 (lv_at hl 6 rfl) ?_
              refine fn_iast (k := 32) X hI dX2_equation_112 (by omega) rfl (show eq < 3 by omega) (fun H locs hI => ?_)
              refine lv_aload_n hx hb dX2_equation_113 rfl (lv_at hl 1 rfl) ?_
              refine lv_dup hx hb dX2_equation_114 rfl ?_
              refine fl_get2 X hI dX2_equation_115 (by omega) 1 (by decide) wf_X2_33 rfl ?_
              refine W.eq (g2 := F0 m 118 ls [.int (nI eq), .ref (ad 30)]) (by rw [fl_up_k (by omega), fl_up_k (by omega), fl_up_k (by omega), fl_up_k (by omega), fl_up_k (by omega), he]) ?_
              refine lv_iconst (v := nI 1) hx hb dX2_equation_118 (by decide) ?_
              refine fn_iadd X dX2_equation_119 ?_
              refine fl_put2 X hI dX2_equation_120 (by omega) 1 (by decide) wf_X2_33 (fun H locs hI => ?_)
              refine lv_aload_n hx hb dX2_equation_123 rfl (lv_at hl 1 rfl) ?_
              refine fl_get2 X hI dX2_equation_124 (by omega) 1 (by decide) wf_X2_33 rfl ?_
              refine W.eq (g2 := F0 m 127 ls [.int (nI (eq + 1))]) (by rw [fl_up_s]) ?_
              refine lv_iconst (v := nI 1) hx hb dX2_equation_127 (by decide) ?_
              refine fn_isub X dX2_equation_128 (by omega) ?_
              exact fl_iret X hr hlk hI dX2_equation_129 ⟨rfl, rfl, rfl⟩
            · first | exact absurd hf0 (b_f (by assumption)) | exact absurd hf1 (b_f (by assumption)) | exact absurd hf2 (b_f (by assumption)) | exact absurd hf3 (b_f (by assumption)) | exact absurd hs (b_f (by assumption)) | exact absurd h3 (by omega)
theorem m_X2_sum_bad (D : va_G) (dA : Nat → ClassId) (ad : Nat → Nat) (N : Nat) (I : fl_TI) (J : fl_TJ) (hN : 37 ≤ N) {eq : Nat} {x xs : Int32} (he : I 30 1 = nI eq) (hbad : ¬ (¬ x < 0 ∧ ¬ nI eq ≤ x ∧ (¬ xs < -1000 ∧ ¬ nI 1000 < xs))) : FM yX2_sum cX2_sum 3 (some .int) 1 D dA ad N [.ref (ad 30), .int x, .int xs] I J (fun v I' J' => v = some (.int (nI 0)) ∧ I' = I ∧ J' = J) := by
  refine FM.ofW RX2 rfl (by decide +kernel) (Nat.le_of_ble_eq_true rfl) ?_
  intro p l e s m args below meth c ls X hr hlk hI hl
  have hx := X.1
  have hb := X.2.1
  have hl : lv_has ls 3 [(0, .ref (ad 30)), (1, .int x), (2, .int xs)] := hl
  refine lv_iload_n hx hb dX2_sum_0 rfl (lv_at hl 1 rfl) ?_
  refine lv_if_lt (tgt := 19) hx hb dX2_sum_1 (by decide) (fun c1 => ?_) (fun c1 => ?_)
  · refine lv_iconst (v := nI 0) hx hb dX2_sum_19 (by decide) ?_
    exact fl_iret X hr hlk hI dX2_sum_20 ⟨rfl, rfl, rfl⟩
  · refine lv_iload_n hx hb dX2_sum_4 rfl (lv_at hl 1 rfl) ?_
    refine lv_aload_n hx hb dX2_sum_5 rfl (lv_at hl 0 rfl) ?_
    refine fl_get2 X hI dX2_sum_6 (by omega) 1 (by decide) wf_X2_33 rfl ?_
    refine W.eq (g2 := F0 m 9 ls [.int (nI eq), .int x]) (by rw [he]) ?_
    refine lv_icmp_ge (tgt := 19) hx hb dX2_sum_9 (by decide) (fun c2 => ?_) (fun c2 => ?_)
    · refine lv_iconst (v := nI 0) hx hb dX2_sum_19 (by decide) ?_
      exact fl_iret X hr hlk hI dX2_sum_20 ⟨rfl, rfl, rfl⟩
    · refine lv_iload_n hx hb dX2_sum_12 rfl (lv_at hl 2 rfl) ?_
      refine fl_callS (As := [.int xs]) (rest := []) X hI dX2_sum_13 (m_X2_isSum D dA ad N I J xs) wc_yX2_isSum wm_X2_40 ws_yX2_isSum wn_X2 hd_yX2_isSum rfl ⟨by first | decide | omega, by first | decide | omega⟩ hl.1 (Nat.le_of_ble_eq_true rfl) (fun v I2 J2 H locs hp hI => ?_)
      obtain ⟨hv, hI2, hJ2⟩ := hp
      subst hv
      rw [hI2, hJ2] at hI
      refine W.eq (g2 := F0 m 16 ls [.int (if ¬ xs < -1000 ∧ ¬ nI 1000 < xs then nI 1 else nI 0)]) rfl ?_
      refine lv_if_ne (tgt := 21) hx hb dX2_sum_16 (by decide) (fun c3 => ?_) (fun c3 => ?_)
      · exact absurd ⟨c1, c2, b_t c3⟩ hbad
      · refine lv_iconst (v := nI 0) hx hb dX2_sum_19 (by decide) ?_
        exact fl_iret X hr hlk hI dX2_sum_20 ⟨rfl, rfl, rfl⟩
theorem m_X2_sum (D : va_G) (dA : Nat → ClassId) (ad : Nat → Nat) (N : Nat) (I : fl_TI) (J : fl_TJ) (hN : 37 ≤ N) {eq a : Nat} {xs : Int32} (he : I 30 1 = nI eq) (he3 : eq ≤ 3) (ha : a < eq) (hs : (¬ xs < -1000 ∧ ¬ nI 1000 < xs)) : FM yX2_sum cX2_sum 3 (some .int) 1 D dA ad N [.ref (ad 30), .int (nI a), .int xs] I J (fun v I' J' => v = some (.int (nI 1)) ∧ I' = fl_up I 32 a xs ∧ J' = J) := by
  refine FM.ofW RX2 rfl (by decide +kernel) (Nat.le_of_ble_eq_true rfl) ?_
  intro p l e s m args below meth c ls X hr hlk hI hl
  have hx := X.1
  have hb := X.2.1
  have hl : lv_has ls 3 [(0, .ref (ad 30)), (1, .int (nI a)), (2, .int xs)] := hl
  refine lv_iload_n hx hb dX2_sum_0 rfl (lv_at hl 1 rfl) ?_
  refine lv_if_lt (tgt := 19) hx hb dX2_sum_1 (by decide) (fun c1 => absurd c1 (nI_pos (by omega))) (fun c1 => ?_)
  refine lv_iload_n hx hb dX2_sum_4 rfl (lv_at hl 1 rfl) ?_
  refine lv_aload_n hx hb dX2_sum_5 rfl (lv_at hl 0 rfl) ?_
  refine fl_get2 X hI dX2_sum_6 (by omega) 1 (by decide) wf_X2_33 rfl ?_
  refine W.eq (g2 := F0 m 9 ls [.int (nI eq), .int (nI a)]) (by rw [he]) ?_
  refine fn_icmp_ge X (tgt := 19) dX2_sum_9 (by decide) (by omega) (by omega) (fun c2 => absurd c2 (by omega)) (fun c2 => ?_)
  refine lv_iload_n hx hb dX2_sum_12 rfl (lv_at hl 2 rfl) ?_
  refine fl_callS (As := [.int xs]) (rest := []) X hI dX2_sum_13 (m_X2_isSum D dA ad N I J xs) wc_yX2_isSum wm_X2_40 ws_yX2_isSum wn_X2 hd_yX2_isSum rfl ⟨by first | decide | omega, by first | decide | omega⟩ hl.1 (Nat.le_of_ble_eq_true rfl) (fun v I2 J2 H locs hp hI => ?_)
  obtain ⟨hv, hI2, hJ2⟩ := hp
  subst hv
  rw [hI2, hJ2] at hI
  refine W.eq (g2 := F0 m 16 ls [.int (if ¬ xs < -1000 ∧ ¬ nI 1000 < xs then nI 1 else nI 0)]) rfl ?_
  refine lv_if_ne (tgt := 21) hx hb dX2_sum_16 (by decide) (fun c3 => ?_) (fun c3 => ?_)
  · refine lv_aload_n hx hb dX2_sum_21 rfl (lv_at hl 0 rfl) ?_
    refine fl_get2 X hI dX2_sum_22 (by omega) 3 (by decide) wf_X2_17 rfl ?_
    refine lv_iload_n hx hb dX2_sum_25 rfl (lv_at hl 1 rfl) ?_
    refine lv_iload_n hx hb dX2_sum_26 rfl (lv_at hl 2 rfl) ?_
    refine fn_iast (k := 32) X hI dX2_sum_27 (by omega) rfl (show a < 3 by omega) (fun H locs hI => ?_)
    refine lv_iconst (v := nI 1) hx hb dX2_sum_28 (by decide) ?_
    exact fl_iret X hr hlk hI dX2_sum_29 ⟨rfl, rfl, rfl⟩
  · exact absurd hs (b_f (by assumption))
theorem m_X2_drop_bad (D : va_G) (dA : Nat → ClassId) (ad : Nat → Nat) (N : Nat) (I : fl_TI) (J : fl_TJ) (hN : 37 ≤ N) (he : I 30 1 = nI 0) : FM yX2_drop cX2_drop 1 (some .int) 0 D dA ad N [.ref (ad 30)] I J (fun v I' J' => v = some (.int (-1)) ∧ I' = I ∧ J' = J) := by
  refine FM.ofW RX2 rfl (by decide +kernel) (Nat.le_of_ble_eq_true rfl) ?_
  intro p l e s m args below meth c ls X hr hlk hI hl
  have hx := X.1
  have hb := X.2.1
  have hl : lv_has ls 1 [(0, .ref (ad 30))] := hl
  refine lv_aload_n hx hb dX2_drop_0 rfl (lv_at hl 0 rfl) ?_
  refine fl_get2 X hI dX2_drop_1 (by omega) 1 (by decide) wf_X2_33 rfl ?_
  refine W.eq (g2 := F0 m 4 ls [.int (nI 0)]) (by rw [he]) ?_
  refine fn_if_ne X (tgt := 9) dX2_drop_4 (by decide) (by omega) (fun c1 => absurd c1 (by omega)) (fun c1 => ?_)
  refine lv_iconst (v := (-1)) hx hb dX2_drop_7 (by decide) ?_
  exact fl_iret X hr hlk hI dX2_drop_8 ⟨rfl, rfl, rfl⟩
theorem m_X2_drop (D : va_G) (dA : Nat → ClassId) (ad : Nat → Nat) (N : Nat) (I : fl_TI) (J : fl_TJ) (hN : 37 ≤ N) {eq : Nat} (he : I 30 1 = nI (eq + 1)) (he3 : eq < 3) : FM yX2_drop cX2_drop 1 (some .int) 0 D dA ad N [.ref (ad 30)] I J (fun v I' J' => v = some (.int (nI eq)) ∧ I' = fl_up I 30 1 (nI eq) ∧ J' = J) := by
  refine FM.ofW RX2 rfl (by decide +kernel) (Nat.le_of_ble_eq_true rfl) ?_
  intro p l e s m args below meth c ls X hr hlk hI hl
  have hx := X.1
  have hb := X.2.1
  have hl : lv_has ls 1 [(0, .ref (ad 30))] := hl
  refine lv_aload_n hx hb dX2_drop_0 rfl (lv_at hl 0 rfl) ?_
  refine fl_get2 X hI dX2_drop_1 (by omega) 1 (by decide) wf_X2_33 rfl ?_
  refine W.eq (g2 := F0 m 4 ls [.int (nI (eq + 1))]) (by rw [he]) ?_
  refine fn_if_ne X (tgt := 9) dX2_drop_4 (by decide) (by omega) (fun c1 => ?_) (fun c1 => absurd c1 (by omega))
  refine lv_aload_n hx hb dX2_drop_9 rfl (lv_at hl 0 rfl) ?_
  refine lv_dup hx hb dX2_drop_10 rfl ?_
  refine fl_get2 X hI dX2_drop_11 (by omega) 1 (by decide) wf_X2_33 rfl ?_
  refine W.eq (g2 := F0 m 14 ls [.int (nI (eq + 1)), .ref (ad 30)]) (by rw [he]) ?_
  refine lv_iconst (v := nI 1) hx hb dX2_drop_14 (by decide) ?_
  refine fn_isub X dX2_drop_15 (by omega) ?_
  refine fl_put2 X hI dX2_drop_16 (by omega) 1 (by decide) wf_X2_33 (fun H locs hI => ?_)
  refine lv_aload_n hx hb dX2_drop_19 rfl (lv_at hl 0 rfl) ?_
  refine fl_get2 X hI dX2_drop_20 (by omega) 1 (by decide) wf_X2_33 rfl ?_
  refine W.eq (g2 := F0 m 23 ls [.int (nI (eq + 1 - 1))]) (by rw [fl_up_s]) ?_
  exact fl_iret X hr hlk hI dX2_drop_23 ⟨rfl, rfl, rfl⟩
def dn64 (a b : Int64) : Int64 := if a < a / b * b then a / b - 1 else a / b
def sz64 (a : Int64) : Int64 := if a < 0 then -a else a
theorem m_X2_down (D : va_G) (dA : Nat → ClassId) (ad : Nat → Nat) (N : Nat) (I : fl_TI) (J : fl_TJ) (a b : Int64) (hb0 : ¬ b = 0) : FM yX2_down cX2_down 6 (some .long) 0 D dA ad N [.long a, .long b] I J (fun v I' J' => v = some (.long (dn64 a b)) ∧ I' = I ∧ J' = J) := by
  refine FM.ofW RX2 rfl (by decide +kernel) (Nat.le_of_ble_eq_true rfl) ?_
  intro p l e s m args below meth c ls X hr hlk hI hl
  have hx := X.1
  have hb := X.2.1
  have hl : lv_has ls 6 [(0, .long a), (2, .long b)] := hl
  refine lv_lload_n hx hb dX2_down_0 rfl (lv_at hl 0 rfl) ?_
  refine lv_lload_n hx hb dX2_down_1 rfl (lv_at hl 1 rfl) ?_
  refine lv_ldiv hx hb dX2_down_2 (by assumption) ?_
  refine lv_lstore (lv' := [(4, .long (a / b)), (0, .long a), (2, .long b)]) hx hb dX2_down_3 hl (by decide) rfl (fun ls hl => ?_)
  refine lv_lload hx hb dX2_down_5 (lv_at hl 0 rfl) ?_
  refine lv_lload_n hx hb dX2_down_7 rfl (lv_at hl 2 rfl) ?_
  refine lv_lmul hx hb dX2_down_8 ?_
  refine lv_lload_n hx hb dX2_down_9 rfl (lv_at hl 1 rfl) ?_
  refine fl_lc_le (tgt := 21) hx hb dX2_down_10 dX2_down_11 (by decide) (fun c1 => ?_) (fun c1 => ?_)
  · refine lv_lload hx hb dX2_down_21 (lv_at hl 0 rfl) ?_
    exact fl_lret X hr hlk hI dX2_down_23 ⟨by unfold dn64; first | rw [if_pos c1] | rw [if_neg c1], rfl, rfl⟩
  · refine lv_lload hx hb dX2_down_14 (lv_at hl 0 rfl) ?_
    refine lv_lconst (v := 1) hx hb dX2_down_16 rfl ?_
    refine lv_lsub hx hb dX2_down_17 ?_
    refine lv_goto (tgt := 23) hx hb dX2_down_18 (by decide) ?_
    exact fl_lret X hr hlk hI dX2_down_23 ⟨by unfold dn64; first | rw [if_pos c1] | rw [if_neg c1], rfl, rfl⟩
theorem m_X2_size (D : va_G) (dA : Nat → ClassId) (ad : Nat → Nat) (N : Nat) (I : fl_TI) (J : fl_TJ) (a : Int64) : FM yX2_size cX2_size 2 (some .long) 0 D dA ad N [.long a] I J (fun v I' J' => v = some (.long (sz64 a)) ∧ I' = I ∧ J' = J) := by
  refine FM.ofW RX2 rfl (by decide +kernel) (Nat.le_of_ble_eq_true rfl) ?_
  intro p l e s m args below meth c ls X hr hlk hI hl
  have hx := X.1
  have hb := X.2.1
  have hl : lv_has ls 2 [(0, .long a)] := hl
  refine lv_lload_n hx hb dX2_size_0 rfl (lv_at hl 0 rfl) ?_
  refine lv_lconst (v := 0) hx hb dX2_size_1 rfl ?_
  refine fl_lc_ge (tgt := 11) hx hb dX2_size_2 dX2_size_3 (by decide) (fun c1 => ?_) (fun c1 => ?_)
  · refine lv_lload_n hx hb dX2_size_11 rfl (lv_at hl 0 rfl) ?_
    exact fl_lret X hr hlk hI dX2_size_12 ⟨by unfold sz64; first | rw [if_pos c1] | rw [if_neg c1], rfl, rfl⟩
  · refine lv_lload_n hx hb dX2_size_6 rfl (lv_at hl 0 rfl) ?_
    refine lv_lneg hx hb dX2_size_7 ?_
    refine lv_goto (tgt := 12) hx hb dX2_size_8 (by decide) ?_
    exact fl_lret X hr hlk hI dX2_size_12 ⟨by unfold sz64; first | rw [if_pos c1] | rw [if_neg c1], rfl, rfl⟩
def k_take (a b w : Nat) (t : Int64) (J : fl_TJ) : fl_TJ := fl_it (fun j J => fl_up J 33 (8 * a + j) (J 33 (8 * a + j) - t * J 33 (8 * b + j))) w 0 J
def k_chg (a b : Nat) (J : fl_TJ) : fl_TJ := fl_it (fun j J => fl_up (fl_up J 33 (8 * a + j) (J 33 (8 * b + j))) 33 (8 * b + j) (J 33 (8 * a + j))) 8 0 J
theorem lp_take {p : Program} {l : Launch} {e : Env} {R : Room} {s : State} {m : MethodId} {args : Array Value} {below : List Frame} {meth : Method} {c : Code} {Q : State → Prop} {D : va_G} {dA : Nat → ClassId} {ad : Nat → Nat} {N : Nat} {A : Nat → Prop} {H0 : Heap} {I : fl_TI} {J9 : fl_TJ} (X : CallFix p m c cX2_take 7 s args fl_tb RX2) {a b w : Nat} {t : Int64} (hN : 37 ≤ N) (ha : a < 8) (hb2 : b < 8) (hw : w ≤ 8)
    (kx : ∀ (H : Heap) (locs : List Loc) (ls : Array Slot), fl_I D dA ad N I J9 A s H0 H locs → lv_has ls 7 [(6, .int (nI w)), (0, .ref (ad 30)), (1, .int (nI a)), (2, .int (nI b)), (3, .long t), (5, .int (nI w))] → W p l e R s m args below meth c H locs 0 0 Q (F0 m 45 ls [])) :
    ∀ (k i : Nat) (J : fl_TJ) (H : Heap) (locs : List Loc) (ls : Array Slot), i + k = w → fl_I D dA ad N I J A s H0 H locs → lv_has ls 7 [(6, .int (nI i)), (0, .ref (ad 30)), (1, .int (nI a)), (2, .int (nI b)), (3, .long t), (5, .int (nI w))] → fl_it (fun j J => fl_up J 33 (8 * a + j) (J 33 (8 * a + j) - t * J 33 (8 * b + j))) k i J = J9 → W p l e R s m args below meth c H locs 0 0 Q (F0 m 3 ls []) := by
  have hx := X.1
  have hb := X.2.1
  intro k
  induction k with
  | zero =>
    intro i J H locs ls hk hI hl hF
    have hF : J = J9 := hF
    subst hF
    have hk : w = i := by omega
    subst hk
    refine lv_iload hx hb dX2_take_3 (lv_at hl 0 rfl) ?_
    refine lv_iload hx hb dX2_take_5 (lv_at hl 5 rfl) ?_
    refine fn_icmp_ge X (tgt := 45) dX2_take_7 (by decide) (by omega) (by omega) (fun c1 => ?_) (fun c1 => absurd c1 (by omega))
    exact kx _ _ _ hI (lv_sub hl [0, 1, 2, 3, 4, 5] rfl)
  | succ k ih =>
    intro i J H locs ls hk hI hl hF
    refine lv_iload hx hb dX2_take_3 (lv_at hl 0 rfl) ?_
    refine lv_iload hx hb dX2_take_5 (lv_at hl 5 rfl) ?_
    refine fn_icmp_ge X (tgt := 45) dX2_take_7 (by decide) (by omega) (by omega) (fun c1 => absurd c1 (by omega)) (fun c1 => ?_)
    refine lv_aload_n hx hb dX2_take_10 rfl (lv_at hl 1 rfl) ?_
    refine fl_get2 X hI dX2_take_11 (by omega) 4 (by decide) wf_X2_20 rfl ?_
    refine lv_bipush (v := nI 8) hx hb dX2_take_14 (by decide) ?_
    refine lv_iload_n hx hb dX2_take_16 rfl (lv_at hl 2 rfl) ?_
    refine fn_imul X dX2_take_17 ?_
    refine lv_iload hx hb dX2_take_18 (lv_at hl 0 rfl) ?_
    refine fn_iadd X dX2_take_20 ?_
    refine lv_dup2_11 hx hb dX2_take_21 rfl rfl ?_
    refine fn_lald (k := 33) X hI dX2_take_22 (by omega) rfl (show (8 * a) + i < 64 by omega) ?_
    refine lv_lload_n hx hb dX2_take_23 rfl (lv_at hl 4 rfl) ?_
    refine lv_aload_n hx hb dX2_take_24 rfl (lv_at hl 1 rfl) ?_
    refine fl_get2 X hI dX2_take_25 (by omega) 4 (by decide) wf_X2_20 rfl ?_
    refine lv_bipush (v := nI 8) hx hb dX2_take_28 (by decide) ?_
    refine lv_iload_n hx hb dX2_take_30 rfl (lv_at hl 3 rfl) ?_
    refine fn_imul X dX2_take_31 ?_
    refine lv_iload hx hb dX2_take_32 (lv_at hl 0 rfl) ?_
    refine fn_iadd X dX2_take_34 ?_
    refine fn_lald (k := 33) X hI dX2_take_35 (by omega) rfl (show (8 * b) + i < 64 by omega) ?_
    refine lv_lmul hx hb dX2_take_36 ?_
    refine lv_lsub hx hb dX2_take_37 ?_
    refine fn_last (k := 33) X hI dX2_take_38 (by omega) rfl (show (8 * a) + i < 64 by omega) (fun H locs hI => ?_)
    refine fn_iinc (a := i) (lv' := [(6, .int (nI (i + 1))), (0, .ref (ad 30)), (1, .int (nI a)), (2, .int (nI b)), (3, .long t), (5, .int (nI w))]) X dX2_take_39 hl (k := 0) rfl (by decide) rfl (fun ls hl => ?_)
    refine lv_goto (tgt := 3) hx hb dX2_take_42 (by decide) ?_
    exact ih (i + 1) _ _ _ _ (by omega) hI (lv_sub hl [0, 1, 2, 3, 4, 5] rfl) hF
theorem m_X2_take (D : va_G) (dA : Nat → ClassId) (ad : Nat → Nat) (N : Nat) (I : fl_TI) (J : fl_TJ) {a b w : Nat} {t : Int64} (hN : 37 ≤ N) (ha : a < 8) (hb2 : b < 8) (hw : w ≤ 8) : FM yX2_take cX2_take 7 none 0 D dA ad N [.ref (ad 30), .int (nI a), .int (nI b), .long t, .int (nI w)] I J (fun v I' J' => v = none ∧ I' = I ∧ J' = k_take a b w t J) := by
  refine FM.ofW RX2 rfl (by decide +kernel) (Nat.le_of_ble_eq_true rfl) ?_
  intro p l e s m args below meth c ls X hr hlk hI hl
  have hx := X.1
  have hb := X.2.1
  have hl : lv_has ls 7 [(0, .ref (ad 30)), (1, .int (nI a)), (2, .int (nI b)), (3, .long t), (5, .int (nI w))] := hl
  refine lv_iconst (v := nI 0) hx hb dX2_take_0 (by decide) ?_
  refine lv_istore (lv' := [(6, .int (nI 0)), (0, .ref (ad 30)), (1, .int (nI a)), (2, .int (nI b)), (3, .long t), (5, .int (nI w))]) hx hb dX2_take_1 hl (by decide) rfl (fun ls hl => ?_)
  exact lp_take X hN ha hb2 hw (J9 := k_take a b w t J) (fun H locs ls hI hl => fl_vret X hr hlk hI dX2_take_45 ⟨rfl, rfl, rfl⟩) w 0 _ _ _ _ (Nat.zero_add _) hI hl rfl
theorem lp_chg {p : Program} {l : Launch} {e : Env} {R : Room} {s : State} {m : MethodId} {args : Array Value} {below : List Frame} {meth : Method} {c : Code} {Q : State → Prop} {D : va_G} {dA : Nat → ClassId} {ad : Nat → Nat} {N : Nat} {A : Nat → Prop} {H0 : Heap} {I : fl_TI} {J9 : fl_TJ} (X : CallFix p m c cX2_change 6 s args fl_tb RX2) {a b : Nat} (hN : 37 ≤ N) (ha : a < 8) (hb2 : b < 8)
    (kx : ∀ (H : Heap) (locs : List Loc) (ls : Array Slot), fl_I D dA ad N I J9 A s H0 H locs → lv_has ls 6 [(3, .int (nI 8)), (0, .ref (ad 30)), (1, .int (nI a)), (2, .int (nI b))] → W p l e R s m args below meth c H locs 0 0 Q (F0 m 62 ls [])) :
    ∀ (k i : Nat) (J : fl_TJ) (H : Heap) (locs : List Loc) (ls : Array Slot), i + k = 8 → fl_I D dA ad N I J A s H0 H locs → lv_has ls 6 [(3, .int (nI i)), (0, .ref (ad 30)), (1, .int (nI a)), (2, .int (nI b))] → fl_it (fun j J => fl_up (fl_up J 33 (8 * a + j) (J 33 (8 * b + j))) 33 (8 * b + j) (J 33 (8 * a + j))) k i J = J9 → W p l e R s m args below meth c H locs 0 0 Q (F0 m 2 ls []) := by
  have hx := X.1
  have hb := X.2.1
  intro k
  induction k with
  | zero =>
    intro i J H locs ls hk hI hl hF
    have hF : J = J9 := hF
    subst hF
    have hk : 8 = i := by omega
    subst hk
    refine lv_iload_n hx hb dX2_change_2 rfl (lv_at hl 0 rfl) ?_
    refine lv_bipush (v := nI 8) hx hb dX2_change_3 (by decide) ?_
    refine fn_icmp_ge X (tgt := 62) dX2_change_5 (by decide) (by omega) (by omega) (fun c1 => ?_) (fun c1 => absurd c1 (by omega))
    exact kx _ _ _ hI (lv_sub hl [0, 1, 2, 3] rfl)
  | succ k ih =>
    intro i J H locs ls hk hI hl hF
    refine lv_iload_n hx hb dX2_change_2 rfl (lv_at hl 0 rfl) ?_
    refine lv_bipush (v := nI 8) hx hb dX2_change_3 (by decide) ?_
    refine fn_icmp_ge X (tgt := 62) dX2_change_5 (by decide) (by omega) (by omega) (fun c1 => absurd c1 (by omega)) (fun c1 => ?_)
    refine lv_aload_n hx hb dX2_change_8 rfl (lv_at hl 1 rfl) ?_
    refine fl_get2 X hI dX2_change_9 (by omega) 4 (by decide) wf_X2_20 rfl ?_
    refine lv_bipush (v := nI 8) hx hb dX2_change_12 (by decide) ?_
    refine lv_iload_n hx hb dX2_change_14 rfl (lv_at hl 2 rfl) ?_
    refine fn_imul X dX2_change_15 ?_
    refine lv_iload_n hx hb dX2_change_16 rfl (lv_at hl 0 rfl) ?_
    refine fn_iadd X dX2_change_17 ?_
    refine fn_lald (k := 33) X hI dX2_change_18 (by omega) rfl (show (8 * a) + i < 64 by omega) ?_
    refine lv_lstore (lv' := [(4, .long (J 33 ((8 * a) + i))), (3, .int (nI i)), (0, .ref (ad 30)), (1, .int (nI a)), (2, .int (nI b))]) hx hb dX2_change_19 hl (by decide) rfl (fun ls hl => ?_)
    refine lv_aload_n hx hb dX2_change_21 rfl (lv_at hl 2 rfl) ?_
    refine fl_get2 X hI dX2_change_22 (by omega) 4 (by decide) wf_X2_20 rfl ?_
    refine lv_bipush (v := nI 8) hx hb dX2_change_25 (by decide) ?_
    refine lv_iload_n hx hb dX2_change_27 rfl (lv_at hl 3 rfl) ?_
    refine fn_imul X dX2_change_28 ?_
    refine lv_iload_n hx hb dX2_change_29 rfl (lv_at hl 1 rfl) ?_
    refine fn_iadd X dX2_change_30 ?_
    refine lv_aload_n hx hb dX2_change_31 rfl (lv_at hl 2 rfl) ?_
    refine fl_get2 X hI dX2_change_32 (by omega) 4 (by decide) wf_X2_20 rfl ?_
    refine lv_bipush (v := nI 8) hx hb dX2_change_35 (by decide) ?_
    refine lv_iload_n hx hb dX2_change_37 rfl (lv_at hl 4 rfl) ?_
    refine fn_imul X dX2_change_38 ?_
    refine lv_iload_n hx hb dX2_change_39 rfl (lv_at hl 1 rfl) ?_
    refine fn_iadd X dX2_change_40 ?_
    refine fn_lald (k := 33) X hI dX2_change_41 (by omega) rfl (show (8 * b) + i < 64 by omega) ?_
    refine fn_last (k := 33) X hI dX2_change_42 (by omega) rfl (show (8 * a) + i < 64 by omega) (fun H locs hI => ?_)
    refine lv_aload_n hx hb dX2_change_43 rfl (lv_at hl 2 rfl) ?_
    refine fl_get2 X hI dX2_change_44 (by omega) 4 (by decide) wf_X2_20 rfl ?_
    refine lv_bipush (v := nI 8) hx hb dX2_change_47 (by decide) ?_
    refine lv_iload_n hx hb dX2_change_49 rfl (lv_at hl 4 rfl) ?_
    refine fn_imul X dX2_change_50 ?_
    refine lv_iload_n hx hb dX2_change_51 rfl (lv_at hl 1 rfl) ?_
    refine fn_iadd X dX2_change_52 ?_
    refine lv_lload hx hb dX2_change_53 (lv_at hl 0 rfl) ?_
    refine fn_last (k := 33) X hI dX2_change_55 (by omega) rfl (show (8 * b) + i < 64 by omega) (fun H locs hI => ?_)
    refine fn_iinc (a := i) (lv' := [(3, .int (nI (i + 1))), (4, .long (J 33 ((8 * a) + i))), (0, .ref (ad 30)), (1, .int (nI a)), (2, .int (nI b))]) X dX2_change_56 hl (k := 1) rfl (by decide) rfl (fun ls hl => ?_)
    refine lv_goto (tgt := 2) hx hb dX2_change_59 (by decide) ?_
    exact ih (i + 1) _ _ _ _ (by omega) hI (lv_sub hl [0, 2, 3, 4] rfl) hF
theorem m_X2_change (D : va_G) (dA : Nat → ClassId) (ad : Nat → Nat) (N : Nat) (I : fl_TI) (J : fl_TJ) {a b : Nat} (hN : 37 ≤ N) (ha : a < 8) (hb2 : b < 8) : FM yX2_change cX2_change 6 none 0 D dA ad N [.ref (ad 30), .int (nI a), .int (nI b)] I J (fun v I' J' => v = none ∧ I' = I ∧ J' = k_chg a b J) := by
  refine FM.ofW RX2 rfl (by decide +kernel) (Nat.le_of_ble_eq_true rfl) ?_
  intro p l e s m args below meth c ls X hr hlk hI hl
  have hx := X.1
  have hb := X.2.1
  have hl : lv_has ls 6 [(0, .ref (ad 30)), (1, .int (nI a)), (2, .int (nI b))] := hl
  refine lv_iconst (v := nI 0) hx hb dX2_change_0 (by decide) ?_
  refine lv_istore_n (lv' := [(3, .int (nI 0)), (0, .ref (ad 30)), (1, .int (nI a)), (2, .int (nI b))]) hx hb dX2_change_1 rfl hl (by decide) rfl (fun ls hl => ?_)
  exact lp_chg X hN ha hb2 (J9 := k_chg a b J) (fun H locs ls hI hl => fl_vret X hr hlk hI dX2_change_62 ⟨rfl, rfl, rfl⟩) 8 0 _ _ _ _ (Nat.zero_add _) hI hl rfl
def k_ob : Option Nat → Int32
  | none => -1
  | some b => nI b
def k_ls1 (pl : Nat) (J : fl_TJ) (i : Nat) : Option Nat → Option Nat
  | none => if 0 < sz64 (J 33 (8 * i + pl)) then some i else none
  | some b => if 0 < sz64 (J 33 (8 * i + pl)) then (if sz64 (J 33 (8 * i + pl)) < sz64 (J 33 (8 * b + pl)) then some i else some b) else some b
def k_least (fr pl many : Nat) (J : fl_TJ) : Option Nat := fl_it (k_ls1 pl J) (many - fr) fr none
theorem k_ls1_lt {pl : Nat} {J : fl_TJ} {i : Nat} {bo : Option Nat} {b : Nat} (h : k_ls1 pl J i bo = some b) (h0 : ∀ b, bo = some b → b < i) : b < i + 1 := by
  cases bo with
  | none =>
    simp only [k_ls1] at h
    by_cases q : 0 < sz64 (J 33 (8 * i + pl))
    · rw [if_pos q] at h; cases h; omega
    · rw [if_neg q] at h; cases h
  | some c =>
    have h1 := h0 c rfl
    simp only [k_ls1] at h
    by_cases q : 0 < sz64 (J 33 (8 * i + pl))
    · rw [if_pos q] at h
      by_cases q2 : sz64 (J 33 (8 * i + pl)) < sz64 (J 33 (8 * c + pl))
      · rw [if_pos q2] at h; cases h; omega
      · rw [if_neg q2] at h; cases h; omega
    · rw [if_neg q] at h; cases h; omega
theorem k_least_lt {pl : Nat} {J : fl_TJ} : ∀ (k i : Nat) (bo : Option Nat) (b : Nat), (∀ b, bo = some b → b < i) → fl_it (k_ls1 pl J) k i bo = some b → b < i + k := by
  intro k
  induction k with
  | zero => intro i bo b h0 h; exact h0 b h
  | succ k ih =>
    intro i bo b h0 h
    have := ih (i + 1) _ b (fun b hb => k_ls1_lt hb h0) h
    omega
theorem lp_least2 {p : Program} {l : Launch} {e : Env} {R : Room} {s : State} {m : MethodId} {args : Array Value} {below : List Frame} {meth : Method} {c : Code} {D : va_G} {dA : Nat → ClassId} {ad : Nat → Nat} {N : Nat} {A : Nat → Prop} {I : fl_TI} {J : fl_TJ} {post : Option Value → fl_TI → fl_TJ → Prop} {fr pl many : Nat} (X : CallFix p m c cX2_least 8 s args fl_tb RX2) (hr : meth.sig.returnType = some .int) (hlk : meth.locks = false) (hN : 37 ≤ N) (hpl : pl < 8) (hm : many ≤ 8) (hR : 0 + 1 ≤ R.frames ∧ 8 + (2 + 11) + 40 * 0 ≤ R.locals) :
    ∀ (k i : Nat) (bo : Option Nat) (H : Heap) (locs : List Loc) (ls : Array Slot), i + k = many → (∀ b, bo = some b → b < i) → fl_I D dA ad N I J A s s.heap H locs → lv_has ls 8 [(5, .int (nI i)), (4, .int (k_ob bo)), (0, .ref (ad 30)), (1, .int (nI fr)), (2, .int (nI pl)), (3, .int (nI many))] → post (some (.int (k_ob (fl_it (k_ls1 pl J) k i bo)))) I J → W p l e R s m args below meth c H locs 0 0 (MQ below (fl_Q D dA ad N post A) args s 0 0 A) (F0 m 6 ls []) := by
  have hx := X.1
  have hb := X.2.1
  intro k
  induction k with
  | zero =>
    intro i bo H locs ls hk hbo hI hl hF
    have hk : many = i := by omega
    subst hk
    refine lv_iload hx hb dX2_least_6 (lv_at hl 0 rfl) ?_
    refine lv_iload_n hx hb dX2_least_8 rfl (lv_at hl 5 rfl) ?_
    refine fn_icmp_ge X (tgt := 72) dX2_least_9 (by decide) (by omega) (by omega) (fun c1 => ?_) (fun c1 => absurd c1 (by omega))
    refine lv_iload hx hb dX2_least_72 (lv_at hl 1 rfl) ?_
    exact fl_iret X hr hlk hI dX2_least_74 hF
  | succ k ih =>
    intro i bo H locs ls hk hbo hI hl hF
    cases bo with
    | none =>
      have hl : lv_has ls 8 [(5, .int (nI i)), (4, .int ((-1))), (0, .ref (ad 30)), (1, .int (nI fr)), (2, .int (nI pl)), (3, .int (nI many))] := hl
      refine lv_iload hx hb dX2_least_6 (lv_at hl 0 rfl) ?_
      refine lv_iload_n hx hb dX2_least_8 rfl (lv_at hl 5 rfl) ?_
      refine fn_icmp_ge X (tgt := 72) dX2_least_9 (by decide) (by omega) (by omega) (fun c1 => absurd c1 (by omega)) (fun c1 => ?_)
      refine lv_aload_n hx hb dX2_least_12 rfl (lv_at hl 2 rfl) ?_
      refine fl_get2 X hI dX2_least_13 (by omega) 4 (by decide) wf_X2_20 rfl ?_
      refine lv_bipush (v := nI 8) hx hb dX2_least_16 (by decide) ?_
      refine lv_iload hx hb dX2_least_18 (lv_at hl 0 rfl) ?_
      refine fn_imul X dX2_least_20 ?_
      refine lv_iload_n hx hb dX2_least_21 rfl (lv_at hl 4 rfl) ?_
      refine fn_iadd X dX2_least_22 ?_
      refine fn_lald (k := 33) X hI dX2_least_23 (by omega) rfl (show (8 * i) + pl < 64 by omega) ?_
      refine fl_callS (As := [.long (J 33 ((8 * i) + pl))]) (rest := []) X hI dX2_least_24 (m_X2_size D dA ad N I J (J 33 ((8 * i) + pl))) wc_yX2_size wm_X2_44 ws_yX2_size wn_X2 hd_yX2_size rfl ⟨by first | decide | omega, by first | decide | omega⟩ hl.1 (Nat.le_of_ble_eq_true rfl) (fun v I2 J2 H locs hp hI => ?_)
      obtain ⟨hv, hI2, hJ2⟩ := hp
      subst hv
      rw [hI2, hJ2] at hI
      refine W.eq (g2 := F0 m 27 ls [.long (sz64 (J 33 ((8 * i) + pl)))]) rfl ?_
      refine lv_lstore (lv' := [(6, .long (sz64 (J 33 ((8 * i) + pl)))), (5, .int (nI i)), (4, .int ((-1))), (0, .ref (ad 30)), (1, .int (nI fr)), (2, .int (nI pl)), (3, .int (nI many))]) hx hb dX2_least_27 hl (by decide) rfl (fun ls hl => ?_)
      refine lv_lload hx hb dX2_least_29 (lv_at hl 0 rfl) ?_
      refine lv_lconst (v := 0) hx hb dX2_least_31 rfl ?_
      refine fl_lc_le (tgt := 66) hx hb dX2_least_32 dX2_least_33 (by decide) (fun c2 => ?_) (fun c2 => ?_)
      · refine fn_iinc (a := i) (lv' := [(5, .int (nI (i + 1))), (6, .long (sz64 (J 33 ((8 * i) + pl)))), (4, .int ((-1))), (0, .ref (ad 30)), (1, .int (nI fr)), (2, .int (nI pl)), (3, .int (nI many))]) X dX2_least_66 hl (k := 1) rfl (by decide) rfl (fun ls hl => ?_)
        refine lv_goto (tgt := 6) hx hb dX2_least_69 (by decide) ?_
        exact ih (i + 1) (none) _ _ _ (by omega) (fun z hz => by cases hz <;> omega) hI (lv_sub hl [0, 2, 3, 4, 5, 6] rfl) (by have h9 := hF; simp only [fl_it, k_ls1] at h9; (first | rw [if_pos c2] at h9 | rw [if_neg c2] at h9 | skip); exact h9)
      · refine lv_iload hx hb dX2_least_36 (lv_at hl 2 rfl) ?_
        refine lv_if_lt (tgt := 62) hx hb dX2_least_38 (by decide) (fun c3 => ?_) (fun c3 => absurd (by decide) c3)
        refine lv_iload hx hb dX2_least_62 (lv_at hl 1 rfl) ?_
        refine lv_istore (lv' := [(4, .int (nI i)), (6, .long (sz64 (J 33 ((8 * i) + pl)))), (5, .int (nI i)), (0, .ref (ad 30)), (1, .int (nI fr)), (2, .int (nI pl)), (3, .int (nI many))]) hx hb dX2_least_64 hl (by decide) rfl (fun ls hl => ?_)
        refine fn_iinc (a := i) (lv' := [(5, .int (nI (i + 1))), (4, .int (nI i)), (6, .long (sz64 (J 33 ((8 * i) + pl)))), (0, .ref (ad 30)), (1, .int (nI fr)), (2, .int (nI pl)), (3, .int (nI many))]) X dX2_least_66 hl (k := 2) rfl (by decide) rfl (fun ls hl => ?_)
        refine lv_goto (tgt := 6) hx hb dX2_least_69 (by decide) ?_
        exact ih (i + 1) (some i) _ _ _ (by omega) (fun z hz => by cases hz <;> omega) hI (lv_sub hl [0, 1, 3, 4, 5, 6] rfl) (by have h9 := hF; simp only [fl_it, k_ls1] at h9; (first | rw [if_pos c2] at h9 | rw [if_neg c2] at h9 | skip); exact h9)
    | some b =>
      have hb9 := hbo b rfl
      have hl : lv_has ls 8 [(5, .int (nI i)), (4, .int (nI b)), (0, .ref (ad 30)), (1, .int (nI fr)), (2, .int (nI pl)), (3, .int (nI many))] := hl
      refine lv_iload hx hb dX2_least_6 (lv_at hl 0 rfl) ?_
      refine lv_iload_n hx hb dX2_least_8 rfl (lv_at hl 5 rfl) ?_
      refine fn_icmp_ge X (tgt := 72) dX2_least_9 (by decide) (by omega) (by omega) (fun c1 => absurd c1 (by omega)) (fun c1 => ?_)
      refine lv_aload_n hx hb dX2_least_12 rfl (lv_at hl 2 rfl) ?_
      refine fl_get2 X hI dX2_least_13 (by omega) 4 (by decide) wf_X2_20 rfl ?_
      refine lv_bipush (v := nI 8) hx hb dX2_least_16 (by decide) ?_
      refine lv_iload hx hb dX2_least_18 (lv_at hl 0 rfl) ?_
      refine fn_imul X dX2_least_20 ?_
      refine lv_iload_n hx hb dX2_least_21 rfl (lv_at hl 4 rfl) ?_
      refine fn_iadd X dX2_least_22 ?_
      refine fn_lald (k := 33) X hI dX2_least_23 (by omega) rfl (show (8 * i) + pl < 64 by omega) ?_
      refine fl_callS (As := [.long (J 33 ((8 * i) + pl))]) (rest := []) X hI dX2_least_24 (m_X2_size D dA ad N I J (J 33 ((8 * i) + pl))) wc_yX2_size wm_X2_44 ws_yX2_size wn_X2 hd_yX2_size rfl ⟨by first | decide | omega, by first | decide | omega⟩ hl.1 (Nat.le_of_ble_eq_true rfl) (fun v I2 J2 H locs hp hI => ?_)
      obtain ⟨hv, hI2, hJ2⟩ := hp
      subst hv
      rw [hI2, hJ2] at hI
      refine W.eq (g2 := F0 m 27 ls [.long (sz64 (J 33 ((8 * i) + pl)))]) rfl ?_
      refine lv_lstore (lv' := [(6, .long (sz64 (J 33 ((8 * i) + pl)))), (5, .int (nI i)), (4, .int (nI b)), (0, .ref (ad 30)), (1, .int (nI fr)), (2, .int (nI pl)), (3, .int (nI many))]) hx hb dX2_least_27 hl (by decide) rfl (fun ls hl => ?_)
      refine lv_lload hx hb dX2_least_29 (lv_at hl 0 rfl) ?_
      refine lv_lconst (v := 0) hx hb dX2_least_31 rfl ?_
      refine fl_lc_le (tgt := 66) hx hb dX2_least_32 dX2_least_33 (by decide) (fun c2 => ?_) (fun c2 => ?_)
      · refine fn_iinc (a := i) (lv' := [(5, .int (nI (i + 1))), (6, .long (sz64 (J 33 ((8 * i) + pl)))), (4, .int (nI b)), (0, .ref (ad 30)), (1, .int (nI fr)), (2, .int (nI pl)), (3, .int (nI many))]) X dX2_least_66 hl (k := 1) rfl (by decide) rfl (fun ls hl => ?_)
        refine lv_goto (tgt := 6) hx hb dX2_least_69 (by decide) ?_
        exact ih (i + 1) (some b) _ _ _ (by omega) (fun z hz => by cases hz <;> omega) hI (lv_sub hl [0, 2, 3, 4, 5, 6] rfl) (by have h9 := hF; simp only [fl_it, k_ls1] at h9; (first | rw [if_pos c2] at h9 | rw [if_neg c2] at h9 | skip); exact h9)
      · refine lv_iload hx hb dX2_least_36 (lv_at hl 2 rfl) ?_
        refine lv_if_lt (tgt := 62) hx hb dX2_least_38 (by decide) (fun c3 => absurd c3 (nI_pos (by omega))) (fun c3 => ?_)
        refine lv_lload hx hb dX2_least_41 (lv_at hl 0 rfl) ?_
        refine lv_aload_n hx hb dX2_least_43 rfl (lv_at hl 3 rfl) ?_
        refine fl_get2 X hI dX2_least_44 (by omega) 4 (by decide) wf_X2_20 rfl ?_
        refine lv_bipush (v := nI 8) hx hb dX2_least_47 (by decide) ?_
        refine lv_iload hx hb dX2_least_49 (lv_at hl 2 rfl) ?_
        refine fn_imul X dX2_least_51 ?_
        refine lv_iload_n hx hb dX2_least_52 rfl (lv_at hl 5 rfl) ?_
        refine fn_iadd X dX2_least_53 ?_
        refine fn_lald (k := 33) X hI dX2_least_54 (by omega) rfl (show (8 * b) + pl < 64 by omega) ?_
        refine fl_callS (As := [.long (J 33 ((8 * b) + pl))]) (rest := [.long (sz64 (J 33 ((8 * i) + pl)))]) X hI dX2_least_55 (m_X2_size D dA ad N I J (J 33 ((8 * b) + pl))) wc_yX2_size wm_X2_44 ws_yX2_size wn_X2 hd_yX2_size rfl ⟨by first | decide | omega, by first | decide | omega⟩ hl.1 (Nat.le_of_ble_eq_true rfl) (fun v I2 J2 H locs hp hI => ?_)
        obtain ⟨hv, hI2, hJ2⟩ := hp
        subst hv
        rw [hI2, hJ2] at hI
        refine W.eq (g2 := F0 m 58 ls [.long (sz64 (J 33 ((8 * b) + pl))), .long (sz64 (J 33 ((8 * i) + pl)))]) rfl ?_
        refine fl_lc_ge (tgt := 66) hx hb dX2_least_58 dX2_least_59 (by decide) (fun c4 => ?_) (fun c4 => ?_)
        · refine fn_iinc (a := i) (lv' := [(5, .int (nI (i + 1))), (6, .long (sz64 (J 33 ((8 * i) + pl)))), (4, .int (nI b)), (0, .ref (ad 30)), (1, .int (nI fr)), (2, .int (nI pl)), (3, .int (nI many))]) X dX2_least_66 hl (k := 1) rfl (by decide) rfl (fun ls hl => ?_)
          refine lv_goto (tgt := 6) hx hb dX2_least_69 (by decide) ?_
          exact ih (i + 1) (some b) _ _ _ (by omega) (fun z hz => by cases hz <;> omega) hI (lv_sub hl [0, 2, 3, 4, 5, 6] rfl) (by have h9 := hF; simp only [fl_it, k_ls1] at h9; (first | rw [if_pos c2] at h9 | rw [if_neg c2] at h9 | skip); (first | rw [if_pos c4] at h9 | rw [if_neg c4] at h9 | skip); exact h9)
        · refine lv_iload hx hb dX2_least_62 (lv_at hl 1 rfl) ?_
          refine lv_istore (lv' := [(4, .int (nI i)), (6, .long (sz64 (J 33 ((8 * i) + pl)))), (5, .int (nI i)), (0, .ref (ad 30)), (1, .int (nI fr)), (2, .int (nI pl)), (3, .int (nI many))]) hx hb dX2_least_64 hl (by decide) rfl (fun ls hl => ?_)
          refine fn_iinc (a := i) (lv' := [(5, .int (nI (i + 1))), (4, .int (nI i)), (6, .long (sz64 (J 33 ((8 * i) + pl)))), (0, .ref (ad 30)), (1, .int (nI fr)), (2, .int (nI pl)), (3, .int (nI many))]) X dX2_least_66 hl (k := 2) rfl (by decide) rfl (fun ls hl => ?_)
          refine lv_goto (tgt := 6) hx hb dX2_least_69 (by decide) ?_
          exact ih (i + 1) (some i) _ _ _ (by omega) (fun z hz => by cases hz <;> omega) hI (lv_sub hl [0, 1, 3, 4, 5, 6] rfl) (by have h9 := hF; simp only [fl_it, k_ls1] at h9; (first | rw [if_pos c2] at h9 | rw [if_neg c2] at h9 | skip); (first | rw [if_pos c4] at h9 | rw [if_neg c4] at h9 | skip); exact h9)
theorem m_X2_least (D : va_G) (dA : Nat → ClassId) (ad : Nat → Nat) (N : Nat) (I : fl_TI) (J : fl_TJ) {fr pl many : Nat} (hN : 37 ≤ N) (hfr : fr ≤ many) (hpl : pl < 8) (hm : many ≤ 8) : FM yX2_least cX2_least 8 (some .int) 1 D dA ad N [.ref (ad 30), .int (nI fr), .int (nI pl), .int (nI many)] I J (fun v I' J' => v = some (.int (k_ob (k_least fr pl many J))) ∧ I' = I ∧ J' = J) := by
  refine FM.ofW RX2 rfl (by decide +kernel) (Nat.le_of_ble_eq_true rfl) ?_
  intro p l e s m args below meth c ls X hr hlk hI hl
  have hx := X.1
  have hb := X.2.1
  have hl : lv_has ls 8 [(0, .ref (ad 30)), (1, .int (nI fr)), (2, .int (nI pl)), (3, .int (nI many))] := hl
  refine lv_iconst (v := (-1)) hx hb dX2_least_0 (by decide) ?_
  refine lv_istore (lv' := [(4, .int ((-1))), (0, .ref (ad 30)), (1, .int (nI fr)), (2, .int (nI pl)), (3, .int (nI many))]) hx hb dX2_least_1 hl (by decide) rfl (fun ls hl => ?_)
  refine lv_iload_n hx hb dX2_least_3 rfl (lv_at hl 2 rfl) ?_
  refine lv_istore (lv' := [(5, .int (nI fr)), (4, .int ((-1))), (0, .ref (ad 30)), (1, .int (nI fr)), (2, .int (nI pl)), (3, .int (nI many))]) hx hb dX2_least_4 hl (by decide) rfl (fun ls hl => ?_)
  exact lp_least2 X hr hlk hN hpl hm ⟨by decide, by decide⟩ (many - fr) fr none _ _ _ (by omega) (fun z hz => by cases hz) hI hl ⟨rfl, rfl, rfl⟩
