/-! the model: divisor, invariant, modulo -/
def k_dv1 (n : Nat) (I : fl_TI) (k u : Nat) (dv : Int64) : Int64 := fl_it (fun w dv => if pop4 u = k ∧ pop4 w = k then cm64 dv (k_det I u w k) else dv) (2 ^ n - 1) 1 dv
def k_dv (n eq : Nat) (I : fl_TI) (k : Nat) : Int64 := fl_it (k_dv1 n I k) (2 ^ eq - 1) 1 0
theorem lp_dv1 {p : Program} {l : Launch} {e : Env} {R : Room} {s : State} {m : MethodId} {args : Array Value} {below : List Frame} {meth : Method} {c : Code} {Q : State → Prop} {D : va_G} {dA : Nat → ClassId} {ad : Nat → Nat} {N : Nat} {A : Nat → Prop} {H0 : Heap} {I : fl_TI} {J : fl_TJ} {dv9 : Int64} (X : CallFix p m c cX2_divisor 6 s args fl_tb RX2) {n eq u kk : Nat} (hN : 37 ≤ N) (hn : I 30 0 = nI n) (hn4 : n ≤ 4) (he : I 30 1 = nI eq) (he3 : eq ≤ 3) (hu : u < 8) (hkk : kk ≤ 4) (hM : ∀ u w, u < 8 → w < 16 → pop4 u = kk → pop4 w = kk → FM yX2_determinant cX2_determinant 10 (some .long) 1 D dA ad N [.ref (ad 30), .int (nI u), .int (nI w), .int (nI kk)] I J (fun v I' J' => v = some (.long (k_det I u w kk)) ∧ I' = I ∧ J' = J)) (hR : 1 + 1 ≤ R.frames ∧ 8 + (10 + 11) + 40 * 1 ≤ R.locals)
    (kx : ∀ (H : Heap) (locs : List Loc) (ls : Array Slot), fl_I D dA ad N I J A s H0 H locs → lv_has ls 6 [(5, .int (nI (2 ^ n))), (4, .int (nI u)), (2, .long dv9), (0, .ref (ad 30)), (1, .int (nI kk))] → W p l e R s m args below meth c H locs 0 0 Q (F0 m 80 ls [])) :
    ∀ (k i : Nat) (dv : Int64) (H : Heap) (locs : List Loc) (ls : Array Slot), i + k = 2 ^ n → fl_I D dA ad N I J A s H0 H locs → lv_has ls 6 [(5, .int (nI i)), (4, .int (nI u)), (2, .long dv), (0, .ref (ad 30)), (1, .int (nI kk))] → fl_it (fun w dv => if pop4 u = kk ∧ pop4 w = kk then cm64 dv (k_det I u w kk) else dv) k i dv = dv9 → W p l e R s m args below meth c H locs 0 0 Q (F0 m 31 ls []) := by
  have hx := X.1
  have hb := X.2.1
  have h16 := pw4 hn4
  intro k
  induction k with
  | zero =>
    intro i dv H locs ls hk hI hl hF
    have hF : dv = dv9 := hF
    subst hF
    have hk : 2 ^ n = i := by omega
    subst hk
    refine lv_iload hx hb dX2_divisor_31 (lv_at hl 0 rfl) ?_
    refine lv_iconst (v := nI 1) hx hb dX2_divisor_33 (by decide) ?_
    refine lv_aload_n hx hb dX2_divisor_34 rfl (lv_at hl 3 rfl) ?_
    refine fl_get2 X hI dX2_divisor_35 (by omega) 0 (by decide) wf_X2_7 rfl ?_
    refine W.eq (g2 := F0 m 38 ls [.int (nI n), .int (nI 1), .int (nI (2 ^ n))]) (by rw [hn]) ?_
    refine lv_ishl hx hb dX2_divisor_38 ?_
    refine W.eq (g2 := F0 m 39 ls [.int (nI (2 ^ n)), .int (nI (2 ^ n))]) (by rw [shl_ok (by omega)]) ?_
    refine fn_icmp_ge X (tgt := 80) dX2_divisor_39 (by decide) (by omega) (by omega) (fun c1 => ?_) (fun c1 => absurd c1 (by omega))
    exact kx _ _ _ hI (lv_sub hl [0, 1, 2, 3, 4] rfl)
  | succ k ih =>
    intro i dv H locs ls hk hI hl hF
    refine lv_iload hx hb dX2_divisor_31 (lv_at hl 0 rfl) ?_
    refine lv_iconst (v := nI 1) hx hb dX2_divisor_33 (by decide) ?_
    refine lv_aload_n hx hb dX2_divisor_34 rfl (lv_at hl 3 rfl) ?_
    refine fl_get2 X hI dX2_divisor_35 (by omega) 0 (by decide) wf_X2_7 rfl ?_
    refine W.eq (g2 := F0 m 38 ls [.int (nI n), .int (nI 1), .int (nI i)]) (by rw [hn]) ?_
    refine lv_ishl hx hb dX2_divisor_38 ?_
    refine W.eq (g2 := F0 m 39 ls [.int (nI (2 ^ n)), .int (nI i)]) (by rw [shl_ok (by omega)]) ?_
    refine fn_icmp_ge X (tgt := 80) dX2_divisor_39 (by decide) (by omega) (by omega) (fun c1 => absurd c1 (by omega)) (fun c1 => ?_)
    refine lv_iload hx hb dX2_divisor_42 (lv_at hl 1 rfl) ?_
    refine fl_callS (As := [.int (nI u)]) (rest := []) X hI dX2_divisor_44 (m_X2_ones D dA ad N I J (k := u) (by omega)) wc_yX2_ones wm_X2_100 ws_yX2_ones wn_X2 hd_yX2_ones rfl ⟨by first | decide | omega, by first | decide | omega⟩ hl.1 (Nat.le_of_ble_eq_true rfl) (fun v I2 J2 H locs hp hI => ?_)
    obtain ⟨hv, hI2, hJ2⟩ := hp
    subst hv
    rw [hI2, hJ2] at hI
    refine W.eq (g2 := F0 m 47 ls [.int (nI (pop4 u))]) rfl ?_
    refine lv_iload_n hx hb dX2_divisor_47 rfl (lv_at hl 4 rfl) ?_
    have h17 := pop_le u
    refine fn_icmp_ne X (tgt := 74) dX2_divisor_48 (by decide) (by omega) (by omega) (fun c2 => ?_) (fun c2 => ?_)
    · refine fn_iinc (a := i) (lv' := [(5, .int (nI (i + 1))), (4, .int (nI u)), (2, .long dv), (0, .ref (ad 30)), (1, .int (nI kk))]) X dX2_divisor_74 hl (k := 0) rfl (by decide) rfl (fun ls hl => ?_)
      refine lv_goto (tgt := 31) hx hb dX2_divisor_77 (by decide) ?_
      exact ih (i + 1) _ _ _ _ (by omega) hI (lv_sub hl [0, 1, 2, 3, 4] rfl) (by have h9 := hF; simp only [fl_it] at h9; rw [if_neg (fun q => c2 q.1)] at h9; exact h9)
    · refine lv_iload hx hb dX2_divisor_51 (lv_at hl 0 rfl) ?_
      refine fl_callS (As := [.int (nI i)]) (rest := []) X hI dX2_divisor_53 (m_X2_ones D dA ad N I J (k := i) (by omega)) wc_yX2_ones wm_X2_100 ws_yX2_ones wn_X2 hd_yX2_ones rfl ⟨by first | decide | omega, by first | decide | omega⟩ hl.1 (Nat.le_of_ble_eq_true rfl) (fun v I2 J2 H locs hp hI => ?_)
      obtain ⟨hv, hI2, hJ2⟩ := hp
      subst hv
      rw [hI2, hJ2] at hI
      refine W.eq (g2 := F0 m 56 ls [.int (nI (pop4 i))]) rfl ?_
      refine lv_iload_n hx hb dX2_divisor_56 rfl (lv_at hl 4 rfl) ?_
      have h18 := pop_le i
      refine fn_icmp_ne X (tgt := 74) dX2_divisor_57 (by decide) (by omega) (by omega) (fun c3 => ?_) (fun c3 => ?_)
      · refine fn_iinc (a := i) (lv' := [(5, .int (nI (i + 1))), (4, .int (nI u)), (2, .long dv), (0, .ref (ad 30)), (1, .int (nI kk))]) X dX2_divisor_74 hl (k := 0) rfl (by decide) rfl (fun ls hl => ?_)
        refine lv_goto (tgt := 31) hx hb dX2_divisor_77 (by decide) ?_
        exact ih (i + 1) _ _ _ _ (by omega) hI (lv_sub hl [0, 1, 2, 3, 4] rfl) (by have h9 := hF; simp only [fl_it] at h9; rw [if_neg (fun q => c3 q.2)] at h9; exact h9)
      · refine lv_lload_n hx hb dX2_divisor_60 rfl (lv_at hl 2 rfl) ?_
        refine lv_aload_n hx hb dX2_divisor_61 rfl (lv_at hl 3 rfl) ?_
        refine lv_iload hx hb dX2_divisor_62 (lv_at hl 1 rfl) ?_
        refine lv_iload hx hb dX2_divisor_64 (lv_at hl 0 rfl) ?_
        refine lv_iload_n hx hb dX2_divisor_66 rfl (lv_at hl 4 rfl) ?_
        refine fl_callV (k := 30) (As := [.int (nI u), .int (nI i), .int (nI kk)]) (rest := [.long dv]) X hI dX2_divisor_67 (hM u i hu (by omega) c2 c3) (by omega) fl_c_6 rfl rfl wc_yX2_determinant wm_X2_103 wi_yX2_determinant wl_yX2_determinant wn_X2 hd_yX2_determinant rfl ⟨by first | decide | omega, by first | decide | omega⟩ hl.1 (Nat.le_of_ble_eq_true rfl) (fun v I2 J2 H locs hp hI => ?_)
        obtain ⟨hv, hI2, hJ2⟩ := hp
        subst hv
        rw [hI2, hJ2] at hI
        refine W.eq (g2 := F0 m 70 ls [.long (k_det I u i kk), .long dv]) rfl ?_
        refine fl_callS (As := [.long dv, .long (k_det I u i kk)]) (rest := []) X hI dX2_divisor_70 (m_X2_common D dA ad N I J dv (k_det I u i kk)) wc_yX2_common wm_X2_107 ws_yX2_common wn_X2 hd_yX2_common rfl ⟨by first | decide | omega, by first | decide | omega⟩ hl.1 (Nat.le_of_ble_eq_true rfl) (fun v I2 J2 H locs hp hI => ?_)
        obtain ⟨hv, hI2, hJ2⟩ := hp
        subst hv
        rw [hI2, hJ2] at hI
        refine W.eq (g2 := F0 m 73 ls [.long (cm64 dv (k_det I u i kk))]) rfl ?_
        refine lv_lstore_n (lv' := [(2, .long (cm64 dv (k_det I u i kk))), (5, .int (nI i)), (4, .int (nI u)), (0, .ref (ad 30)), (1, .int (nI kk))]) hx hb dX2_divisor_73 rfl hl (by decide) rfl (fun ls hl => ?_)
        refine fn_iinc (a := i) (lv' := [(5, .int (nI (i + 1))), (2, .long (cm64 dv (k_det I u i kk))), (4, .int (nI u)), (0, .ref (ad 30)), (1, .int (nI kk))]) X dX2_divisor_74 hl (k := 1) rfl (by decide) rfl (fun ls hl => ?_)
        refine lv_goto (tgt := 31) hx hb dX2_divisor_77 (by decide) ?_
        exact ih (i + 1) _ _ _ _ (by omega) hI (lv_sub hl [0, 2, 1, 3, 4] rfl) (by have h9 := hF; simp only [fl_it] at h9; rw [if_pos ⟨c2, c3⟩] at h9; exact h9)
theorem pw3 {n : Nat} (h : n ≤ 3) : 2 ^ n ≤ 8 ∧ 1 ≤ 2 ^ n := by
  rcases (show n = 0 ∨ n = 1 ∨ n = 2 ∨ n = 3 by omega) with rfl | rfl | rfl | rfl <;> decide
theorem lp_dv {p : Program} {l : Launch} {e : Env} {R : Room} {s : State} {m : MethodId} {args : Array Value} {below : List Frame} {meth : Method} {c : Code} {Q : State → Prop} {D : va_G} {dA : Nat → ClassId} {ad : Nat → Nat} {N : Nat} {A : Nat → Prop} {H0 : Heap} {I : fl_TI} {J : fl_TJ} {dv9 : Int64} (X : CallFix p m c cX2_divisor 6 s args fl_tb RX2) {n eq kk : Nat} (hN : 37 ≤ N) (hn : I 30 0 = nI n) (hn4 : n ≤ 4) (he : I 30 1 = nI eq) (he3 : eq ≤ 3) (hkk : kk ≤ 4) (hk1 : 1 ≤ kk) (hM : ∀ u w, u < 8 → w < 16 → pop4 u = kk → pop4 w = kk → FM yX2_determinant cX2_determinant 10 (some .long) 1 D dA ad N [.ref (ad 30), .int (nI u), .int (nI w), .int (nI kk)] I J (fun v I' J' => v = some (.long (k_det I u w kk)) ∧ I' = I ∧ J' = J)) (hR : 1 + 1 ≤ R.frames ∧ 8 + (10 + 11) + 40 * 1 ≤ R.locals)
    (kx : ∀ (H : Heap) (locs : List Loc) (ls : Array Slot), fl_I D dA ad N I J A s H0 H locs → lv_has ls 6 [(4, .int (nI (2 ^ eq))), (2, .long dv9), (0, .ref (ad 30)), (1, .int (nI kk))] → W p l e R s m args below meth c H locs 0 0 Q (F0 m 86 ls [])) :
    ∀ (k i : Nat) (dv : Int64) (H : Heap) (locs : List Loc) (ls : Array Slot), i + k = 2 ^ eq → fl_I D dA ad N I J A s H0 H locs → lv_has ls 6 [(4, .int (nI i)), (2, .long dv), (0, .ref (ad 30)), (1, .int (nI kk))] → fl_it (k_dv1 n I kk) k i dv = dv9 → W p l e R s m args below meth c H locs 0 0 Q (F0 m 13 ls []) := by
  have hx := X.1
  have hb := X.2.1
  have h16 := pw4 hn4
  have h15 := pw3 he3
  intro k
  induction k with
  | zero =>
    intro i dv H locs ls hk hI hl hF
    have hF : dv = dv9 := hF
    subst hF
    have hk : 2 ^ eq = i := by omega
    subst hk
    refine lv_iload hx hb dX2_divisor_13 (lv_at hl 0 rfl) ?_
    refine lv_iconst (v := nI 1) hx hb dX2_divisor_15 (by decide) ?_
    refine lv_aload_n hx hb dX2_divisor_16 rfl (lv_at hl 2 rfl) ?_
    refine fl_get2 X hI dX2_divisor_17 (by omega) 1 (by decide) wf_X2_33 rfl ?_
    refine W.eq (g2 := F0 m 20 ls [.int (nI eq), .int (nI 1), .int (nI (2 ^ eq))]) (by rw [he]) ?_
    refine lv_ishl hx hb dX2_divisor_20 ?_
    refine W.eq (g2 := F0 m 21 ls [.int (nI (2 ^ eq)), .int (nI (2 ^ eq))]) (by rw [shl_ok (by omega)]) ?_
    refine fn_icmp_ge X (tgt := 86) dX2_divisor_21 (by decide) (by omega) (by omega) (fun c1 => ?_) (fun c1 => absurd c1 (by omega))
    exact kx _ _ _ hI (lv_sub hl [0, 1, 2, 3] rfl)
  | succ k ih =>
    intro i dv H locs ls hk hI hl hF
    refine lv_iload hx hb dX2_divisor_13 (lv_at hl 0 rfl) ?_
    refine lv_iconst (v := nI 1) hx hb dX2_divisor_15 (by decide) ?_
    refine lv_aload_n hx hb dX2_divisor_16 rfl (lv_at hl 2 rfl) ?_
    refine fl_get2 X hI dX2_divisor_17 (by omega) 1 (by decide) wf_X2_33 rfl ?_
    refine W.eq (g2 := F0 m 20 ls [.int (nI eq), .int (nI 1), .int (nI i)]) (by rw [he]) ?_
    refine lv_ishl hx hb dX2_divisor_20 ?_
    refine W.eq (g2 := F0 m 21 ls [.int (nI (2 ^ eq)), .int (nI i)]) (by rw [shl_ok (by omega)]) ?_
    refine fn_icmp_ge X (tgt := 86) dX2_divisor_21 (by decide) (by omega) (by omega) (fun c1 => absurd c1 (by omega)) (fun c1 => ?_)
    refine lv_iload_n hx hb dX2_divisor_24 rfl (lv_at hl 3 rfl) ?_
    refine lv_if_le (tgt := 86) hx hb dX2_divisor_25 (by decide) (fun c2 => absurd c2 (nI_nle (by omega) (by omega))) (fun c2 => ?_)
    refine lv_iconst (v := nI 1) hx hb dX2_divisor_28 (by decide) ?_
    refine lv_istore (lv' := [(5, .int (nI 1)), (4, .int (nI i)), (2, .long dv), (0, .ref (ad 30)), (1, .int (nI kk))]) hx hb dX2_divisor_29 hl (by decide) rfl (fun ls hl => ?_)
    refine lp_dv1 X hN hn hn4 he he3 (u := i) (by omega) hkk hM hR (dv9 := k_dv1 n I kk i dv) (fun H locs ls hI hl => ?_) (2 ^ n - 1) 1 _ _ _ _ (by omega) hI (lv_sub hl [0, 1, 2, 3, 4] rfl) rfl
    refine fn_iinc (a := i) (lv' := [(4, .int (nI (i + 1))), (5, .int (nI (2 ^ n))), (2, .long (k_dv1 n I kk i dv)), (0, .ref (ad 30)), (1, .int (nI kk))]) X dX2_divisor_80 hl (k := 1) rfl (by decide) rfl (fun ls hl => ?_)
    refine lv_goto (tgt := 13) hx hb dX2_divisor_83 (by decide) ?_
    exact ih (i + 1) _ _ _ _ (by omega) hI (lv_sub hl [0, 2, 3, 4] rfl) hF
theorem m_X2_divisor_g (D : va_G) (dA : Nat → ClassId) (ad : Nat → Nat) (N : Nat) (I : fl_TI) (J : fl_TJ) {n eq kk : Nat} (hN : 37 ≤ N) (hn : I 30 0 = nI n) (hn4 : n ≤ 4) (he : I 30 1 = nI eq) (he3 : eq ≤ 3) (hkk : kk ≤ 4) (hk1 : 1 ≤ kk) (hM : ∀ u w, u < 8 → w < 16 → pop4 u = kk → pop4 w = kk → FM yX2_determinant cX2_determinant 10 (some .long) 1 D dA ad N [.ref (ad 30), .int (nI u), .int (nI w), .int (nI kk)] I J (fun v I' J' => v = some (.long (k_det I u w kk)) ∧ I' = I ∧ J' = J)) : FM yX2_divisor cX2_divisor 6 (some .long) 2 D dA ad N [.ref (ad 30), .int (nI kk)] I J (fun v I' J' => v = some (.long (k_dv n eq I kk)) ∧ I' = I ∧ J' = J) := by
  refine FM.ofW RX2 rfl (by decide +kernel) (Nat.le_of_ble_eq_true rfl) ?_
  intro p l e s m args below meth c ls X hr hlk hI hl
  have hx := X.1
  have hb := X.2.1
  have hl : lv_has ls 6 [(0, .ref (ad 30)), (1, .int (nI kk))] := hl
  refine lv_iload_n hx hb dX2_divisor_0 rfl (lv_at hl 1 rfl) ?_
  refine fn_if_ne X (tgt := 8) dX2_divisor_1 (by decide) (by omega) (fun c1 => ?_) (fun c1 => absurd c1 (by omega))
  refine lv_lconst (v := 0) hx hb dX2_divisor_8 rfl ?_
  refine lv_lstore_n (lv' := [(2, .long 0), (0, .ref (ad 30)), (1, .int (nI kk))]) hx hb dX2_divisor_9 rfl hl (by decide) rfl (fun ls hl => ?_)
  refine lv_iconst (v := nI 1) hx hb dX2_divisor_10 (by decide) ?_
  refine lv_istore (lv' := [(4, .int (nI 1)), (2, .long 0), (0, .ref (ad 30)), (1, .int (nI kk))]) hx hb dX2_divisor_11 hl (by decide) rfl (fun ls hl => ?_)
  have h15 := pw3 he3
  refine lp_dv X hN hn hn4 he he3 hkk hk1 hM ⟨by decide, by decide⟩ (dv9 := k_dv n eq I kk) (fun H locs ls hI hl => ?_) (2 ^ eq - 1) 1 _ _ _ _ (by omega) hI (lv_sub hl [0, 1, 2, 3] rfl) rfl
  refine lv_lload_n hx hb dX2_divisor_86 rfl (lv_at hl 1 rfl) ?_
  exact fl_lret X hr hlk hI dX2_divisor_87 ⟨rfl, rfl, rfl⟩
theorem m_X2_divisor0 (D : va_G) (dA : Nat → ClassId) (ad : Nat → Nat) (N : Nat) (I : fl_TI) (J : fl_TJ) {eq : Nat} (hN : 37 ≤ N) (he : I 30 1 = nI eq) (he3 : eq ≤ 3) : FM yX2_divisor cX2_divisor 6 (some .long) 2 D dA ad N [.ref (ad 30), .int (nI 0)] I J (fun v I' J' => v = some (.long 1) ∧ I' = I ∧ J' = J) := by
  refine FM.ofW RX2 rfl (by decide +kernel) (Nat.le_of_ble_eq_true rfl) ?_
  intro p l e s m args below meth c ls X hr hlk hI hl
  have hx := X.1
  have hb := X.2.1
  have hl : lv_has ls 6 [(0, .ref (ad 30)), (1, .int (nI 0))] := hl
  have h15 := pw3 he3
  refine lv_iload_n hx hb dX2_divisor_0 rfl (lv_at hl 1 rfl) ?_
  refine fn_if_ne X (tgt := 8) dX2_divisor_1 (by decide) (by omega) (fun c1 => absurd c1 (by omega)) (fun c1 => ?_)
  refine lv_lconst (v := 1) hx hb dX2_divisor_4 rfl ?_
  refine lv_goto (tgt := 9) hx hb dX2_divisor_5 (by decide) ?_
  refine lv_lstore_n (lv' := [(2, .long 1), (0, .ref (ad 30)), (1, .int (nI 0))]) hx hb dX2_divisor_9 rfl hl (by decide) rfl (fun ls hl => ?_)
  refine lv_iconst (v := nI 1) hx hb dX2_divisor_10 (by decide) ?_
  refine lv_istore (lv' := [(4, .int (nI 1)), (2, .long 1), (0, .ref (ad 30)), (1, .int (nI 0))]) hx hb dX2_divisor_11 hl (by decide) rfl (fun ls hl => ?_)
  refine lv_iload hx hb dX2_divisor_13 (lv_at hl 0 rfl) ?_
  refine lv_iconst (v := nI 1) hx hb dX2_divisor_15 (by decide) ?_
  refine lv_aload_n hx hb dX2_divisor_16 rfl (lv_at hl 2 rfl) ?_
  refine fl_get2 X hI dX2_divisor_17 (by omega) 1 (by decide) wf_X2_33 rfl ?_
  refine W.eq (g2 := F0 m 20 ls [.int (nI eq), .int (nI 1), .int (nI 1)]) (by rw [he]) ?_
  refine lv_ishl hx hb dX2_divisor_20 ?_
  refine W.eq (g2 := F0 m 21 ls [.int (nI (2 ^ eq)), .int (nI 1)]) (by rw [shl_ok (by omega)]) ?_
  refine fn_icmp_ge X (tgt := 86) dX2_divisor_21 (by decide) (by omega) (by omega) (fun c2 => ?_) (fun c2 => ?_)
  · refine lv_lload_n hx hb dX2_divisor_86 rfl (lv_at hl 1 rfl) ?_
    exact fl_lret X hr hlk hI dX2_divisor_87 ⟨rfl, rfl, rfl⟩
  · refine lv_iload_n hx hb dX2_divisor_24 rfl (lv_at hl 3 rfl) ?_
    refine lv_if_le (tgt := 86) hx hb dX2_divisor_25 (by decide) (fun c3 => ?_) (fun c3 => absurd (by decide) c3)
    refine lv_lload_n hx hb dX2_divisor_86 rfl (lv_at hl 1 rfl) ?_
    exact fl_lret X hr hlk hI dX2_divisor_87 ⟨rfl, rfl, rfl⟩
def k_dvd (n eq : Nat) (I : fl_TI) (k : Nat) : Int64 := if k = 0 then 1 else k_dv n eq I k
theorem m_X2_divisor (D : va_G) (dA : Nat → ClassId) (ad : Nat → Nat) (N : Nat) (I : fl_TI) (J : fl_TJ) {n eq kk : Nat} (hN : 37 ≤ N) (hn : I 30 0 = nI n) (hn4 : n ≤ 4) (he : I 30 1 = nI eq) (he3 : eq ≤ 3) (hk3 : kk ≤ 3) : FM yX2_divisor cX2_divisor 6 (some .long) 2 D dA ad N [.ref (ad 30), .int (nI kk)] I J (fun v I' J' => v = some (.long (k_dvd n eq I kk)) ∧ I' = I ∧ J' = J) := by
  rcases (show kk = 0 ∨ kk = 1 ∨ kk = 2 ∨ kk = 3 by omega) with rfl | rfl | rfl | rfl
  · exact m_X2_divisor0 D dA ad N I J hN he he3
  · exact m_X2_divisor_g D dA ad N I J hN hn hn4 he he3 (by omega) (by omega) (fun u w h1 h2 h3 h4 => m_X2_det1 D dA ad N I J hN h1 h2 h3 h4)
  · exact m_X2_divisor_g D dA ad N I J hN hn hn4 he he3 (by omega) (by omega) (fun u w h1 h2 h3 h4 => m_X2_det2 D dA ad N I J hN h1 h2 h3 h4)
  · exact m_X2_divisor_g D dA ad N I J hN hn hn4 he he3 (by omega) (by omega) (fun u w h1 h2 h3 h4 => m_X2_det3 D dA ad N I J hN h1 h2 h3 h4)
theorem m_X2_invariant_bad (D : va_G) (dA : Nat → ClassId) (ad : Nat → Nat) (N : Nat) (I : fl_TI) (J : fl_TJ) (hN : 37 ≤ N) {n eq : Nat} (hn : I 30 0 = nI n) (hn4 : n ≤ 4) (he : I 30 1 = nI eq) (he3 : eq ≤ 3) {x : Int32} (hbad : x < nI 1 ∨ nI eq < x ∨ ¬ x ≤ nI n) : FM yX2_invariant cX2_invariant 4 (some .long) 3 D dA ad N [.ref (ad 30), .int x] I J (fun v I' J' => v = some (.long (-1000000000000000)) ∧ I' = I ∧ J' = J) := by
  refine FM.ofW RX2 rfl (by decide +kernel) (Nat.le_of_ble_eq_true rfl) ?_
  intro p l e s m args below meth c ls X hr hlk hI hl
  have hx := X.1
  have hb := X.2.1
  have hl : lv_has ls 4 [(0, .ref (ad 30)), (1, .int x)] := hl
  refine lv_iload_n hx hb dX2_invariant_0 rfl (lv_at hl 1 rfl) ?_
  refine lv_iconst (v := nI 1) hx hb dX2_invariant_1 (by decide) ?_
  refine lv_icmp_lt (tgt := 21) hx hb dX2_invariant_2 (by decide) (fun c1 => ?_) (fun c1 => ?_)
  · refine W.ldc2 (v := (-1000000000000000)) hx hb X.2.2.2.1 (X.2.2.2.2 _ wk_X2_90) rfl dX2_invariant_21 ?_
    refine W.eq (g2 := F0 m 24 ls [.long ((-1000000000000000))]) rfl ?_
    exact fl_lret X hr hlk hI dX2_invariant_24 ⟨rfl, rfl, rfl⟩
  · refine lv_iload_n hx hb dX2_invariant_5 rfl (lv_at hl 1 rfl) ?_
    refine lv_aload_n hx hb dX2_invariant_6 rfl (lv_at hl 0 rfl) ?_
    refine fl_get2 X hI dX2_invariant_7 (by omega) 1 (by decide) wf_X2_33 rfl ?_
    refine W.eq (g2 := F0 m 10 ls [.int (nI eq), .int x]) (by rw [he]) ?_
    refine lv_icmp_gt (tgt := 21) hx hb dX2_invariant_10 (by decide) (fun c2 => ?_) (fun c2 => ?_)
    · refine W.ldc2 (v := (-1000000000000000)) hx hb X.2.2.2.1 (X.2.2.2.2 _ wk_X2_90) rfl dX2_invariant_21 ?_
      refine W.eq (g2 := F0 m 24 ls [.long ((-1000000000000000))]) rfl ?_
      exact fl_lret X hr hlk hI dX2_invariant_24 ⟨rfl, rfl, rfl⟩
    · refine lv_iload_n hx hb dX2_invariant_13 rfl (lv_at hl 1 rfl) ?_
      refine lv_aload_n hx hb dX2_invariant_14 rfl (lv_at hl 0 rfl) ?_
      refine fl_get2 X hI dX2_invariant_15 (by omega) 0 (by decide) wf_X2_7 rfl ?_
      refine W.eq (g2 := F0 m 18 ls [.int (nI n), .int x]) (by rw [hn]) ?_
      refine lv_icmp_le (tgt := 25) hx hb dX2_invariant_18 (by decide) (fun c3 => ?_) (fun c3 => ?_)
      · exact absurd hbad (fun q => q.elim c1 (fun q => q.elim c2 (fun z => z c3)))
      · refine W.ldc2 (v := (-1000000000000000)) hx hb X.2.2.2.1 (X.2.2.2.2 _ wk_X2_90) rfl dX2_invariant_21 ?_
        refine W.eq (g2 := F0 m 24 ls [.long ((-1000000000000000))]) rfl ?_
        exact fl_lret X hr hlk hI dX2_invariant_24 ⟨rfl, rfl, rfl⟩
def k_inv (n eq : Nat) (I : fl_TI) (kk : Nat) : Int64 := if k_dvd n eq I kk = 0 then 0 else k_dvd n eq I kk / k_dvd n eq I (kk - 1)
theorem m_X2_invariant (D : va_G) (dA : Nat → ClassId) (ad : Nat → Nat) (N : Nat) (I : fl_TI) (J : fl_TJ) {n eq kk : Nat} (hN : 37 ≤ N) (hn : I 30 0 = nI n) (hn4 : n ≤ 4) (he : I 30 1 = nI eq) (he3 : eq ≤ 3) (h1 : 1 ≤ kk) (h2 : kk ≤ eq) (h3 : kk ≤ n) (hne : ¬ k_dvd n eq I kk = 0 → ¬ k_dvd n eq I (kk - 1) = 0) : FM yX2_invariant cX2_invariant 4 (some .long) 3 D dA ad N [.ref (ad 30), .int (nI kk)] I J (fun v I' J' => v = some (.long (k_inv n eq I kk)) ∧ I' = I ∧ J' = J) := by
  refine FM.ofW RX2 rfl (by decide +kernel) (Nat.le_of_ble_eq_true rfl) ?_
  intro p l e s m args below meth c ls X hr hlk hI hl
  have hx := X.1
  have hb := X.2.1
  have hl : lv_has ls 4 [(0, .ref (ad 30)), (1, .int (nI kk))] := hl
  refine lv_iload_n hx hb dX2_invariant_0 rfl (lv_at hl 1 rfl) ?_
  refine lv_iconst (v := nI 1) hx hb dX2_invariant_1 (by decide) ?_
  refine fn_icmp_lt X (tgt := 21) dX2_invariant_2 (by decide) (by omega) (by omega) (fun c1 => absurd c1 (by omega)) (fun c1 => ?_)
  refine lv_iload_n hx hb dX2_invariant_5 rfl (lv_at hl 1 rfl) ?_
  refine lv_aload_n hx hb dX2_invariant_6 rfl (lv_at hl 0 rfl) ?_
  refine fl_get2 X hI dX2_invariant_7 (by omega) 1 (by decide) wf_X2_33 rfl ?_
  refine W.eq (g2 := F0 m 10 ls [.int (nI eq), .int (nI kk)]) (by rw [he]) ?_
  refine fn_icmp_gt X (tgt := 21) dX2_invariant_10 (by decide) (by omega) (by omega) (fun c2 => absurd c2 (by omega)) (fun c2 => ?_)
  refine lv_iload_n hx hb dX2_invariant_13 rfl (lv_at hl 1 rfl) ?_
  refine lv_aload_n hx hb dX2_invariant_14 rfl (lv_at hl 0 rfl) ?_
  refine fl_get2 X hI dX2_invariant_15 (by omega) 0 (by decide) wf_X2_7 rfl ?_
  refine W.eq (g2 := F0 m 18 ls [.int (nI n), .int (nI kk)]) (by rw [hn]) ?_
  refine fn_icmp_le X (tgt := 25) dX2_invariant_18 (by decide) (by omega) (by omega) (fun c3 => ?_) (fun c3 => absurd c3 (by omega))
  refine lv_aload_n hx hb dX2_invariant_25 rfl (lv_at hl 0 rfl) ?_
  refine lv_iload_n hx hb dX2_invariant_26 rfl (lv_at hl 1 rfl) ?_
  refine fl_callV (k := 30) (As := [.int (nI kk)]) (rest := []) X hI dX2_invariant_27 (m_X2_divisor D dA ad N I J hN hn hn4 he he3 (kk := kk) (by omega)) (by omega) fl_c_6 rfl rfl wc_yX2_divisor wm_X2_110 wi_yX2_divisor wl_yX2_divisor wn_X2 hd_yX2_divisor rfl ⟨by first | decide | omega, by first | decide | omega⟩ hl.1 (Nat.le_of_ble_eq_true rfl) (fun v I2 J2 H locs hp hI => ?_)
  obtain ⟨hv, hI2, hJ2⟩ := hp
  subst hv
  rw [hI2, hJ2] at hI
  refine W.eq (g2 := F0 m 30 ls [.long (k_dvd n eq I kk)]) rfl ?_
  refine lv_lstore_n (lv' := [(2, .long (k_dvd n eq I kk)), (0, .ref (ad 30)), (1, .int (nI kk))]) hx hb dX2_invariant_30 rfl hl (by decide) rfl (fun ls hl => ?_)
  refine lv_lload_n hx hb dX2_invariant_31 rfl (lv_at hl 0 rfl) ?_
  refine lv_lconst (v := 0) hx hb dX2_invariant_32 rfl ?_
  refine fl_lc_ne (tgt := 41) hx hb dX2_invariant_33 dX2_invariant_34 (by decide) (fun c4 => ?_) (fun c4 => ?_)
  · refine lv_lload_n hx hb dX2_invariant_41 rfl (lv_at hl 0 rfl) ?_
    refine lv_aload_n hx hb dX2_invariant_42 rfl (lv_at hl 1 rfl) ?_
    refine lv_iload_n hx hb dX2_invariant_43 rfl (lv_at hl 2 rfl) ?_
    refine lv_iconst (v := nI 1) hx hb dX2_invariant_44 (by decide) ?_
    refine fn_isub X dX2_invariant_45 (by omega) ?_
    refine fl_callV (k := 30) (As := [.int (nI (kk - 1))]) (rest := [.long (k_dvd n eq I kk)]) X hI dX2_invariant_46 (m_X2_divisor D dA ad N I J hN hn hn4 he he3 (kk := kk - 1) (by omega)) (by omega) fl_c_6 rfl rfl wc_yX2_divisor wm_X2_110 wi_yX2_divisor wl_yX2_divisor wn_X2 hd_yX2_divisor rfl ⟨by first | decide | omega, by first | decide | omega⟩ hl.1 (Nat.le_of_ble_eq_true rfl) (fun v I2 J2 H locs hp hI => ?_)
    obtain ⟨hv, hI2, hJ2⟩ := hp
    subst hv
    rw [hI2, hJ2] at hI
    refine W.eq (g2 := F0 m 49 ls [.long (k_dvd n eq I (kk - 1)), .long (k_dvd n eq I kk)]) rfl ?_
    refine lv_ldiv hx hb dX2_invariant_49 (hne c4) ?_
    exact fl_lret X hr hlk hI dX2_invariant_50 ⟨by unfold k_inv; first | rw [if_pos c4] | rw [if_neg c4], rfl, rfl⟩
  · refine lv_lconst (v := 0) hx hb dX2_invariant_37 rfl ?_
    refine lv_goto (tgt := 50) hx hb dX2_invariant_38 (by decide) ?_
    exact fl_lret X hr hlk hI dX2_invariant_50 ⟨by unfold k_inv; first | rw [if_pos c4] | rw [if_neg c4], rfl, rfl⟩
def k_mr1 (n eq mm r : Nat) (I : fl_TI) (J : fl_TJ) : fl_TJ := fl_it (fun q J => fl_up J 33 (8 * r + q) (if q < eq then (if n ≤ r then (if q = r - n then (nI mm).toInt64 else 0) else (I 31 (4 * q + r)).toInt64) else 0)) 8 0 J
def k_mr (n eq mm : Nat) (I : fl_TI) (J : fl_TJ) : fl_TJ := fl_it (fun r J => k_mr1 n eq mm r I J) (n + eq) 0 J
def k_RM (fu n eq mm : Nat) (I : fl_TI) (J : fl_TJ) (Ir : fl_TI) (Jr : fl_TJ) (tp : Nat) : Prop := ∃ I9, k_form fu (n + eq) eq eq 0 (0, I, k_mr n eq mm I J) = some (tp, I9, Jr) ∧ Ir = fl_up I9 30 5 (nI tp) ∧ ∀ r, r < tp → Jr 33 (8 * r + ldI Ir 34 r) ≠ 0
theorem k_RM_facts {fu n eq mm tp : Nat} {I Ir : fl_TI} {J Jr : fl_TJ} (hw : eq ≤ 3) (h : k_RM fu n eq mm I J Ir Jr tp) : tp ≤ n + eq ∧ Ir 30 5 = nI tp ∧ (∀ i, i < tp → Ir 34 i = nI (ldI Ir 34 i) ∧ ldI Ir 34 i < eq) ∧ (∀ a b, a ≠ 34 → ¬ (a = 30 ∧ b = 5) → Ir a b = I a b) := by
  obtain ⟨I9, h1, h2, -⟩ := h
  obtain ⟨g1, g2, g3⟩ := k_form_I fu (n + eq) eq (by omega) eq 0 0 I _ _ (Nat.zero_add _) (Nat.zero_le _) (fun i hi => absurd hi (Nat.not_lt_zero _)) h1
  subst h2
  refine ⟨g1, fl_up_s, fun i hi => ?_, fun a b h1 h2 => ?_⟩
  · unfold ldI
    rw [fl_up_k (by omega)]
    exact g2 i hi
  · by_cases e : a = 30
    · subst e; rw [fl_up_j (fun q => h2 ⟨rfl, q⟩)]; exact g3 _ b h1
    · rw [fl_up_k e]; exact g3 a b h1
theorem lp_mr1 {p : Program} {l : Launch} {e : Env} {R : Room} {s : State} {m : MethodId} {args : Array Value} {below : List Frame} {meth : Method} {c : Code} {Q : State → Prop} {D : va_G} {dA : Nat → ClassId} {ad : Nat → Nat} {N : Nat} {A : Nat → Prop} {H0 : Heap} {I : fl_TI} {J9 : fl_TJ} (X : CallFix p m c cX2_modulo 5 s args fl_tb RX2) {n eq r mm : Nat} (hN : 37 ≤ N) (hn : I 30 0 = nI n) (hn4 : n ≤ 4) (he : I 30 1 = nI eq) (he3 : eq ≤ 3) (hr2 : r < n + eq)
    (kx : ∀ (H : Heap) (locs : List Loc) (ls : Array Slot), fl_I D dA ad N I J9 A s H0 H locs → lv_has ls 5 [(3, .int (nI 8)), (2, .int (nI r)), (0, .ref (ad 30)), (1, .int (nI mm))] → W p l e R s m args below meth c H locs 0 0 Q (F0 m 103 ls [])) :
    ∀ (k i : Nat) (J : fl_TJ) (H : Heap) (locs : List Loc) (ls : Array Slot), i + k = 8 → fl_I D dA ad N I J A s H0 H locs → lv_has ls 5 [(3, .int (nI i)), (2, .int (nI r)), (0, .ref (ad 30)), (1, .int (nI mm))] → fl_it (fun q J => fl_up J 33 (8 * r + q) (if q < eq then (if n ≤ r then (if q = r - n then (nI mm).toInt64 else 0) else (I 31 (4 * q + r)).toInt64) else 0)) k i J = J9 → W p l e R s m args below meth c H locs 0 0 Q (F0 m 30 ls []) := by
  have hx := X.1
  have hb := X.2.1
  intro k
  induction k with
  | zero =>
    intro i J H locs ls hk hI hl hF
    have hF : J = J9 := hF
    subst hF
    have hk : 8 = i := by omega
    subst hk
    refine lv_iload_n hx hb dX2_modulo_30 rfl (lv_at hl 0 rfl) ?_
    refine lv_bipush (v := nI 8) hx hb dX2_modulo_31 (by decide) ?_
    refine fn_icmp_ge X (tgt := 103) dX2_modulo_33 (by decide) (by omega) (by omega) (fun c1 => ?_) (fun c1 => absurd c1 (by omega))
    exact kx _ _ _ hI (lv_sub hl [0, 1, 2, 3] rfl)
  | succ k ih =>
    intro i J H locs ls hk hI hl hF
    refine lv_iload_n hx hb dX2_modulo_30 rfl (lv_at hl 0 rfl) ?_
    refine lv_bipush (v := nI 8) hx hb dX2_modulo_31 (by decide) ?_
    refine fn_icmp_ge X (tgt := 103) dX2_modulo_33 (by decide) (by omega) (by omega) (fun c1 => absurd c1 (by omega)) (fun c1 => ?_)
    refine lv_aload_n hx hb dX2_modulo_36 rfl (lv_at hl 2 rfl) ?_
    refine fl_get2 X hI dX2_modulo_37 (by omega) 4 (by decide) wf_X2_20 rfl ?_
    refine lv_bipush (v := nI 8) hx hb dX2_modulo_40 (by decide) ?_
    refine lv_iload_n hx hb dX2_modulo_42 rfl (lv_at hl 1 rfl) ?_
    refine fn_imul X dX2_modulo_43 ?_
    refine lv_iload_n hx hb dX2_modulo_44 rfl (lv_at hl 0 rfl) ?_
    refine fn_iadd X dX2_modulo_45 ?_
    refine lv_iload_n hx hb dX2_modulo_46 rfl (lv_at hl 0 rfl) ?_
    refine lv_aload_n hx hb dX2_modulo_47 rfl (lv_at hl 2 rfl) ?_
    refine fl_get2 X hI dX2_modulo_48 (by omega) 1 (by decide) wf_X2_33 rfl ?_
    refine W.eq (g2 := F0 m 51 ls [.int (nI eq), .int (nI i), .int (nI ((8 * r) + i)), .ref (ad 33)]) (by rw [he]) ?_
    refine fn_icmp_lt X (tgt := 58) dX2_modulo_51 (by decide) (by omega) (by omega) (fun c2 => ?_) (fun c2 => ?_)
    · refine lv_iload_n hx hb dX2_modulo_58 rfl (lv_at hl 1 rfl) ?_
      refine lv_aload_n hx hb dX2_modulo_59 rfl (lv_at hl 2 rfl) ?_
      refine fl_get2 X hI dX2_modulo_60 (by omega) 0 (by decide) wf_X2_7 rfl ?_
      refine W.eq (g2 := F0 m 63 ls [.int (nI n), .int (nI r), .int (nI ((8 * r) + i)), .ref (ad 33)]) (by rw [hn]) ?_
      refine fn_icmp_ge X (tgt := 80) dX2_modulo_63 (by decide) (by omega) (by omega) (fun c3 => ?_) (fun c3 => ?_)
      · refine lv_iload_n hx hb dX2_modulo_80 rfl (lv_at hl 0 rfl) ?_
        refine lv_iload_n hx hb dX2_modulo_81 rfl (lv_at hl 1 rfl) ?_
        refine lv_aload_n hx hb dX2_modulo_82 rfl (lv_at hl 2 rfl) ?_
        refine fl_get2 X hI dX2_modulo_83 (by omega) 0 (by decide) wf_X2_7 rfl ?_
        refine W.eq (g2 := F0 m 86 ls [.int (nI n), .int (nI r), .int (nI i), .int (nI ((8 * r) + i)), .ref (ad 33)]) (by rw [hn]) ?_
        refine fn_isub X dX2_modulo_86 (by omega) ?_
        refine fn_icmp_ne X (tgt := 95) dX2_modulo_87 (by decide) (by omega) (by omega) (fun c4 => ?_) (fun c4 => ?_)
        · refine lv_lconst (v := 0) hx hb dX2_modulo_95 rfl ?_
          refine fn_last (k := 33) X hI dX2_modulo_96 (by omega) rfl (show (8 * r) + i < 64 by omega) (fun H locs hI => ?_)
          refine fn_iinc (a := i) (lv' := [(3, .int (nI (i + 1))), (2, .int (nI r)), (0, .ref (ad 30)), (1, .int (nI mm))]) X dX2_modulo_97 hl (k := 0) rfl (by decide) rfl (fun ls hl => ?_)
          refine lv_goto (tgt := 30) hx hb dX2_modulo_100 (by decide) ?_
          exact ih (i + 1) _ _ _ _ (by omega) hI (lv_sub hl [0, 1, 2, 3] rfl) (by have h9 := hF; simp only [fl_it] at h9; (first | rw [if_pos c2] at h9 | rw [if_neg c2] at h9 | rw [if_neg (by omega : ¬ i < eq)] at h9 | rw [if_neg (by omega : ¬ n ≤ r)] at h9 | skip); (first | rw [if_pos c3] at h9 | rw [if_neg c3] at h9 | rw [if_neg (by omega : ¬ i < eq)] at h9 | rw [if_neg (by omega : ¬ n ≤ r)] at h9 | skip); (first | rw [if_pos c4] at h9 | rw [if_neg c4] at h9 | rw [if_neg (by omega : ¬ i < eq)] at h9 | rw [if_neg (by omega : ¬ n ≤ r)] at h9 | skip); exact h9)
        · refine lv_iload_n hx hb dX2_modulo_90 rfl (lv_at hl 3 rfl) ?_
          refine lv_i2l hx hb dX2_modulo_91 rfl ?_
          refine lv_goto (tgt := 96) hx hb dX2_modulo_92 (by decide) ?_
          refine fn_last (k := 33) X hI dX2_modulo_96 (by omega) rfl (show (8 * r) + i < 64 by omega) (fun H locs hI => ?_)
          refine fn_iinc (a := i) (lv' := [(3, .int (nI (i + 1))), (2, .int (nI r)), (0, .ref (ad 30)), (1, .int (nI mm))]) X dX2_modulo_97 hl (k := 0) rfl (by decide) rfl (fun ls hl => ?_)
          refine lv_goto (tgt := 30) hx hb dX2_modulo_100 (by decide) ?_
          exact ih (i + 1) _ _ _ _ (by omega) hI (lv_sub hl [0, 1, 2, 3] rfl) (by have h9 := hF; simp only [fl_it] at h9; (first | rw [if_pos c2] at h9 | rw [if_neg c2] at h9 | rw [if_neg (by omega : ¬ i < eq)] at h9 | rw [if_neg (by omega : ¬ n ≤ r)] at h9 | skip); (first | rw [if_pos c3] at h9 | rw [if_neg c3] at h9 | rw [if_neg (by omega : ¬ i < eq)] at h9 | rw [if_neg (by omega : ¬ n ≤ r)] at h9 | skip); (first | rw [if_pos c4] at h9 | rw [if_neg c4] at h9 | rw [if_neg (by omega : ¬ i < eq)] at h9 | rw [if_neg (by omega : ¬ n ≤ r)] at h9 | skip); exact h9)
      · refine lv_aload_n hx hb dX2_modulo_66 rfl (lv_at hl 2 rfl) ?_
        refine fl_get2 X hI dX2_modulo_67 (by omega) 2 (by decide) wf_X2_13 rfl ?_
        refine lv_iconst (v := nI 4) hx hb dX2_modulo_70 (by decide) ?_
        refine lv_iload_n hx hb dX2_modulo_71 rfl (lv_at hl 0 rfl) ?_
        refine fn_imul X dX2_modulo_72 ?_
        refine lv_iload_n hx hb dX2_modulo_73 rfl (lv_at hl 1 rfl) ?_
        refine fn_iadd X dX2_modulo_74 ?_
        refine fn_iald (k := 31) X hI dX2_modulo_75 (by omega) rfl (show (4 * i) + r < 12 by omega) ?_
        refine lv_i2l hx hb dX2_modulo_76 rfl ?_
        refine lv_goto (tgt := 96) hx hb dX2_modulo_77 (by decide) ?_
        refine fn_last (k := 33) X hI dX2_modulo_96 (by omega) rfl (show (8 * r) + i < 64 by omega) (fun H locs hI => ?_)
        refine fn_iinc (a := i) (lv' := [(3, .int (nI (i + 1))), (2, .int (nI r)), (0, .ref (ad 30)), (1, .int (nI mm))]) X dX2_modulo_97 hl (k := 0) rfl (by decide) rfl (fun ls hl => ?_)
        refine lv_goto (tgt := 30) hx hb dX2_modulo_100 (by decide) ?_
        exact ih (i + 1) _ _ _ _ (by omega) hI (lv_sub hl [0, 1, 2, 3] rfl) (by have h9 := hF; simp only [fl_it] at h9; (first | rw [if_pos c2] at h9 | rw [if_neg c2] at h9 | rw [if_neg (by omega : ¬ i < eq)] at h9 | rw [if_neg (by omega : ¬ n ≤ r)] at h9 | skip); (first | rw [if_pos c3] at h9 | rw [if_neg c3] at h9 | rw [if_neg (by omega : ¬ i < eq)] at h9 | rw [if_neg (by omega : ¬ n ≤ r)] at h9 | skip); exact h9)
    · refine lv_lconst (v := 0) hx hb dX2_modulo_54 rfl ?_
      refine lv_goto (tgt := 96) hx hb dX2_modulo_55 (by decide) ?_
      refine fn_last (k := 33) X hI dX2_modulo_96 (by omega) rfl (show (8 * r) + i < 64 by omega) (fun H locs hI => ?_)
      refine fn_iinc (a := i) (lv' := [(3, .int (nI (i + 1))), (2, .int (nI r)), (0, .ref (ad 30)), (1, .int (nI mm))]) X dX2_modulo_97 hl (k := 0) rfl (by decide) rfl (fun ls hl => ?_)
      refine lv_goto (tgt := 30) hx hb dX2_modulo_100 (by decide) ?_
      exact ih (i + 1) _ _ _ _ (by omega) hI (lv_sub hl [0, 1, 2, 3] rfl) (by have h9 := hF; simp only [fl_it] at h9; (first | rw [if_pos c2] at h9 | rw [if_neg c2] at h9 | rw [if_neg (by omega : ¬ i < eq)] at h9 | rw [if_neg (by omega : ¬ n ≤ r)] at h9 | skip); exact h9)
theorem lp_mr {p : Program} {l : Launch} {e : Env} {R : Room} {s : State} {m : MethodId} {args : Array Value} {below : List Frame} {meth : Method} {c : Code} {Q : State → Prop} {D : va_G} {dA : Nat → ClassId} {ad : Nat → Nat} {N : Nat} {A : Nat → Prop} {H0 : Heap} {I : fl_TI} {J9 : fl_TJ} (X : CallFix p m c cX2_modulo 5 s args fl_tb RX2) {n eq mm : Nat} (hN : 37 ≤ N) (hn : I 30 0 = nI n) (hn4 : n ≤ 4) (he : I 30 1 = nI eq) (he3 : eq ≤ 3)
    (kx : ∀ (H : Heap) (locs : List Loc) (ls : Array Slot), fl_I D dA ad N I J9 A s H0 H locs → lv_has ls 5 [(2, .int (nI (n + eq))), (0, .ref (ad 30)), (1, .int (nI mm))] → W p l e R s m args below meth c H locs 0 0 Q (F0 m 109 ls [])) :
    ∀ (k i : Nat) (J : fl_TJ) (H : Heap) (locs : List Loc) (ls : Array Slot), i + k = n + eq → fl_I D dA ad N I J A s H0 H locs → lv_has ls 5 [(2, .int (nI i)), (0, .ref (ad 30)), (1, .int (nI mm))] → fl_it (fun r J => k_mr1 n eq mm r I J) k i J = J9 → W p l e R s m args below meth c H locs 0 0 Q (F0 m 15 ls []) := by
  have hx := X.1
  have hb := X.2.1
  intro k
  induction k with
  | zero =>
    intro i J H locs ls hk hI hl hF
    have hF : J = J9 := hF
    subst hF
    have hk : n + eq = i := by omega
    subst hk
    refine lv_iload_n hx hb dX2_modulo_15 rfl (lv_at hl 0 rfl) ?_
    refine lv_aload_n hx hb dX2_modulo_16 rfl (lv_at hl 1 rfl) ?_
    refine fl_get2 X hI dX2_modulo_17 (by omega) 0 (by decide) wf_X2_7 rfl ?_
    refine W.eq (g2 := F0 m 20 ls [.int (nI n), .int (nI (n + eq))]) (by rw [hn]) ?_
    refine lv_aload_n hx hb dX2_modulo_20 rfl (lv_at hl 1 rfl) ?_
    refine fl_get2 X hI dX2_modulo_21 (by omega) 1 (by decide) wf_X2_33 rfl ?_
    refine W.eq (g2 := F0 m 24 ls [.int (nI eq), .int (nI n), .int (nI (n + eq))]) (by rw [he]) ?_
    refine fn_iadd X dX2_modulo_24 ?_
    refine fn_icmp_ge X (tgt := 109) dX2_modulo_25 (by decide) (by omega) (by omega) (fun c1 => ?_) (fun c1 => absurd c1 (by omega))
    exact kx _ _ _ hI (lv_sub hl [0, 1, 2] rfl)
  | succ k ih =>
    intro i J H locs ls hk hI hl hF
    refine lv_iload_n hx hb dX2_modulo_15 rfl (lv_at hl 0 rfl) ?_
    refine lv_aload_n hx hb dX2_modulo_16 rfl (lv_at hl 1 rfl) ?_
    refine fl_get2 X hI dX2_modulo_17 (by omega) 0 (by decide) wf_X2_7 rfl ?_
    refine W.eq (g2 := F0 m 20 ls [.int (nI n), .int (nI i)]) (by rw [hn]) ?_
    refine lv_aload_n hx hb dX2_modulo_20 rfl (lv_at hl 1 rfl) ?_
    refine fl_get2 X hI dX2_modulo_21 (by omega) 1 (by decide) wf_X2_33 rfl ?_
    refine W.eq (g2 := F0 m 24 ls [.int (nI eq), .int (nI n), .int (nI i)]) (by rw [he]) ?_
    refine fn_iadd X dX2_modulo_24 ?_
    refine fn_icmp_ge X (tgt := 109) dX2_modulo_25 (by decide) (by omega) (by omega) (fun c1 => absurd c1 (by omega)) (fun c1 => ?_)
    refine lv_iconst (v := nI 0) hx hb dX2_modulo_28 (by decide) ?_
    refine lv_istore_n (lv' := [(3, .int (nI 0)), (2, .int (nI i)), (0, .ref (ad 30)), (1, .int (nI mm))]) hx hb dX2_modulo_29 rfl hl (by decide) rfl (fun ls hl => ?_)
    refine lp_mr1 X hN hn hn4 he he3 (r := i) (by omega) (J9 := k_mr1 n eq mm i I J) (fun H locs ls hI hl => ?_) 8 0 _ _ _ _ (Nat.zero_add _) hI (lv_sub hl [0, 1, 2, 3] rfl) rfl
    refine fn_iinc (a := i) (lv' := [(2, .int (nI (i + 1))), (3, .int (nI 8)), (0, .ref (ad 30)), (1, .int (nI mm))]) X dX2_modulo_103 hl (k := 1) rfl (by decide) rfl (fun ls hl => ?_)
    refine lv_goto (tgt := 15) hx hb dX2_modulo_106 (by decide) ?_
    exact ih (i + 1) _ _ _ _ (by omega) hI (lv_sub hl [0, 2, 3] rfl) hF
theorem lp_mw {p : Program} {l : Launch} {e : Env} {R : Room} {s : State} {m : MethodId} {args : Array Value} {below : List Frame} {meth : Method} {c : Code} {Q : State → Prop} {D : va_G} {dA : Nat → ClassId} {ad : Nat → Nat} {N : Nat} {A : Nat → Prop} {H0 : Heap} {I : fl_TI} {J9 : fl_TJ} (X : CallFix p m c cX2_modulo 5 s args fl_tb RX2) {n eq mm : Nat} (hN : 37 ≤ N) (hn : I 30 0 = nI n) (hn4 : n ≤ 4) (he : I 30 1 = nI eq) (he3 : eq ≤ 3)
    (kx : ∀ (H : Heap) (locs : List Loc) (ls : Array Slot), fl_I D dA ad N I J9 A s H0 H locs → lv_has ls 5 [(2, .int (nI eq)), (0, .ref (ad 30)), (1, .int (nI mm))] → W p l e R s m args below meth c H locs 0 0 Q (F0 m 155 ls [])) :
    ∀ (k i : Nat) (J : fl_TJ) (H : Heap) (locs : List Loc) (ls : Array Slot), i + k = eq → fl_I D dA ad N I J A s H0 H locs → lv_has ls 5 [(2, .int (nI i)), (0, .ref (ad 30)), (1, .int (nI mm))] → fl_it (fun q J => fl_up J 35 q ((I 32 q).toInt64)) k i J = J9 → W p l e R s m args below meth c H locs 0 0 Q (F0 m 128 ls []) := by
  have hx := X.1
  have hb := X.2.1
  intro k
  induction k with
  | zero =>
    intro i J H locs ls hk hI hl hF
    have hF : J = J9 := hF
    subst hF
    have hk : eq = i := by omega
    subst hk
    refine lv_iload_n hx hb dX2_modulo_128 rfl (lv_at hl 0 rfl) ?_
    refine lv_aload_n hx hb dX2_modulo_129 rfl (lv_at hl 1 rfl) ?_
    refine fl_get2 X hI dX2_modulo_130 (by omega) 1 (by decide) wf_X2_33 rfl ?_
    refine W.eq (g2 := F0 m 133 ls [.int (nI eq), .int (nI eq)]) (by rw [he]) ?_
    refine fn_icmp_ge X (tgt := 155) dX2_modulo_133 (by decide) (by omega) (by omega) (fun c1 => ?_) (fun c1 => absurd c1 (by omega))
    exact kx _ _ _ hI (lv_sub hl [0, 1, 2] rfl)
  | succ k ih =>
    intro i J H locs ls hk hI hl hF
    refine lv_iload_n hx hb dX2_modulo_128 rfl (lv_at hl 0 rfl) ?_
    refine lv_aload_n hx hb dX2_modulo_129 rfl (lv_at hl 1 rfl) ?_
    refine fl_get2 X hI dX2_modulo_130 (by omega) 1 (by decide) wf_X2_33 rfl ?_
    refine W.eq (g2 := F0 m 133 ls [.int (nI eq), .int (nI i)]) (by rw [he]) ?_
    refine fn_icmp_ge X (tgt := 155) dX2_modulo_133 (by decide) (by omega) (by omega) (fun c1 => absurd c1 (by omega)) (fun c1 => ?_)
    refine lv_aload_n hx hb dX2_modulo_136 rfl (lv_at hl 1 rfl) ?_
    refine fl_get2 X hI dX2_modulo_137 (by omega) 7 (by decide) wf_X2_27 rfl ?_
    refine lv_iload_n hx hb dX2_modulo_140 rfl (lv_at hl 0 rfl) ?_
    refine lv_aload_n hx hb dX2_modulo_141 rfl (lv_at hl 1 rfl) ?_
    refine fl_get2 X hI dX2_modulo_142 (by omega) 3 (by decide) wf_X2_17 rfl ?_
    refine lv_iload_n hx hb dX2_modulo_145 rfl (lv_at hl 0 rfl) ?_
    refine fn_iald (k := 32) X hI dX2_modulo_146 (by omega) rfl (show i < 3 by omega) ?_
    refine lv_i2l hx hb dX2_modulo_147 rfl ?_
    refine fn_last (k := 35) X hI dX2_modulo_148 (by omega) rfl (show i < 3 by omega) (fun H locs hI => ?_)
    refine fn_iinc (a := i) (lv' := [(2, .int (nI (i + 1))), (0, .ref (ad 30)), (1, .int (nI mm))]) X dX2_modulo_149 hl (k := 0) rfl (by decide) rfl (fun ls hl => ?_)
    refine lv_goto (tgt := 128) hx hb dX2_modulo_152 (by decide) ?_
    exact ih (i + 1) _ _ _ _ (by omega) hI (lv_sub hl [0, 1, 2] rfl) hF
def k_m1 (mm n : Nat) : Int64 := fl_it (fun _ w => w * (nI mm).toInt64) n 0 1
def k_m2 (eq : Nat) (J : fl_TJ) (w : Int64) : Int64 := fl_it (fun q w => w * J 33 (8 * q + q)) eq 0 w
def k_m3 (mm eq : Nat) (w : Int64) : Int64 := fl_it (fun _ w => w / (nI mm).toInt64) eq 0 w
theorem mm_ne {mm : Nat} (h1 : 1 ≤ mm) (h : mm ≤ 40) : ¬ (nI mm).toInt64 = 0 := (by decide +kernel : ∀ m, m < 41 → 1 ≤ m → ¬ (nI m).toInt64 = 0) mm (by omega) h1
theorem lp_m1 {p : Program} {l : Launch} {e : Env} {R : Room} {s : State} {m : MethodId} {args : Array Value} {below : List Frame} {meth : Method} {c : Code} {Q : State → Prop} {D : va_G} {dA : Nat → ClassId} {ad : Nat → Nat} {N : Nat} {A : Nat → Prop} {H0 : Heap} {I : fl_TI} {J : fl_TJ} {ww9 : Int64} (X : CallFix p m c cX2_modulo 5 s args fl_tb RX2) {n eq mm : Nat} (hN : 37 ≤ N) (hn : I 30 0 = nI n) (hn4 : n ≤ 4) (he : I 30 1 = nI eq) (he3 : eq ≤ 3)
    (kx : ∀ (H : Heap) (locs : List Loc) (ls : Array Slot), fl_I D dA ad N I J A s H0 H locs → lv_has ls 5 [(4, .int (nI n)), (2, .long ww9), (0, .ref (ad 30)), (1, .int (nI mm))] → W p l e R s m args below meth c H locs 0 0 Q (F0 m 193 ls [])) :
    ∀ (k i : Nat) (ww : Int64) (H : Heap) (locs : List Loc) (ls : Array Slot), i + k = n → fl_I D dA ad N I J A s H0 H locs → lv_has ls 5 [(4, .int (nI i)), (2, .long ww), (0, .ref (ad 30)), (1, .int (nI mm))] → fl_it (fun _ w => w * (nI mm).toInt64) k i ww = ww9 → W p l e R s m args below meth c H locs 0 0 Q (F0 m 173 ls []) := by
  have hx := X.1
  have hb := X.2.1
  intro k
  induction k with
  | zero =>
    intro i ww H locs ls hk hI hl hF
    have hF : ww = ww9 := hF
    subst hF
    have hk : n = i := by omega
    subst hk
    refine lv_iload hx hb dX2_modulo_173 (lv_at hl 0 rfl) ?_
    refine lv_aload_n hx hb dX2_modulo_175 rfl (lv_at hl 2 rfl) ?_
    refine fl_get2 X hI dX2_modulo_176 (by omega) 0 (by decide) wf_X2_7 rfl ?_
    refine W.eq (g2 := F0 m 179 ls [.int (nI n), .int (nI n)]) (by rw [hn]) ?_
    refine fn_icmp_ge X (tgt := 193) dX2_modulo_179 (by decide) (by omega) (by omega) (fun c1 => ?_) (fun c1 => absurd c1 (by omega))
    exact kx _ _ _ hI (lv_sub hl [0, 1, 2, 3] rfl)
  | succ k ih =>
    intro i ww H locs ls hk hI hl hF
    refine lv_iload hx hb dX2_modulo_173 (lv_at hl 0 rfl) ?_
    refine lv_aload_n hx hb dX2_modulo_175 rfl (lv_at hl 2 rfl) ?_
    refine fl_get2 X hI dX2_modulo_176 (by omega) 0 (by decide) wf_X2_7 rfl ?_
    refine W.eq (g2 := F0 m 179 ls [.int (nI n), .int (nI i)]) (by rw [hn]) ?_
    refine fn_icmp_ge X (tgt := 193) dX2_modulo_179 (by decide) (by omega) (by omega) (fun c1 => absurd c1 (by omega)) (fun c1 => ?_)
    refine lv_lload_n hx hb dX2_modulo_182 rfl (lv_at hl 1 rfl) ?_
    refine lv_iload_n hx hb dX2_modulo_183 rfl (lv_at hl 3 rfl) ?_
    refine lv_i2l hx hb dX2_modulo_184 rfl ?_
    refine lv_lmul hx hb dX2_modulo_185 ?_
    refine lv_lstore_n (lv' := [(2, .long (ww * ((nI mm).toInt64))), (4, .int (nI i)), (0, .ref (ad 30)), (1, .int (nI mm))]) hx hb dX2_modulo_186 rfl hl (by decide) rfl (fun ls hl => ?_)
    refine fn_iinc (a := i) (lv' := [(4, .int (nI (i + 1))), (2, .long (ww * ((nI mm).toInt64))), (0, .ref (ad 30)), (1, .int (nI mm))]) X dX2_modulo_187 hl (k := 1) rfl (by decide) rfl (fun ls hl => ?_)
    refine lv_goto (tgt := 173) hx hb dX2_modulo_190 (by decide) ?_
    exact ih (i + 1) _ _ _ _ (by omega) hI (lv_sub hl [0, 1, 2, 3] rfl) hF
theorem lp_m2 {p : Program} {l : Launch} {e : Env} {R : Room} {s : State} {m : MethodId} {args : Array Value} {below : List Frame} {meth : Method} {c : Code} {Q : State → Prop} {D : va_G} {dA : Nat → ClassId} {ad : Nat → Nat} {N : Nat} {A : Nat → Prop} {H0 : Heap} {I : fl_TI} {J : fl_TJ} {ww9 : Int64} (X : CallFix p m c cX2_modulo 5 s args fl_tb RX2) {n eq mm : Nat} (hN : 37 ≤ N) (hn : I 30 0 = nI n) (hn4 : n ≤ 4) (he : I 30 1 = nI eq) (he3 : eq ≤ 3)
    (kx : ∀ (H : Heap) (locs : List Loc) (ls : Array Slot), fl_I D dA ad N I J A s H0 H locs → lv_has ls 5 [(4, .int (nI eq)), (2, .long ww9), (0, .ref (ad 30)), (1, .int (nI mm))] → W p l e R s m args below meth c H locs 0 0 Q (F0 m 227 ls [])) :
    ∀ (k i : Nat) (ww : Int64) (H : Heap) (locs : List Loc) (ls : Array Slot), i + k = eq → fl_I D dA ad N I J A s H0 H locs → lv_has ls 5 [(4, .int (nI i)), (2, .long ww), (0, .ref (ad 30)), (1, .int (nI mm))] → fl_it (fun q w => w * J 33 (8 * q + q)) k i ww = ww9 → W p l e R s m args below meth c H locs 0 0 Q (F0 m 196 ls []) := by
  have hx := X.1
  have hb := X.2.1
  intro k
  induction k with
  | zero =>
    intro i ww H locs ls hk hI hl hF
    have hF : ww = ww9 := hF
    subst hF
    have hk : eq = i := by omega
    subst hk
    refine lv_iload hx hb dX2_modulo_196 (lv_at hl 0 rfl) ?_
    refine lv_aload_n hx hb dX2_modulo_198 rfl (lv_at hl 2 rfl) ?_
    refine fl_get2 X hI dX2_modulo_199 (by omega) 1 (by decide) wf_X2_33 rfl ?_
    refine W.eq (g2 := F0 m 202 ls [.int (nI eq), .int (nI eq)]) (by rw [he]) ?_
    refine fn_icmp_ge X (tgt := 227) dX2_modulo_202 (by decide) (by omega) (by omega) (fun c1 => ?_) (fun c1 => absurd c1 (by omega))
    exact kx _ _ _ hI (lv_sub hl [0, 1, 2, 3] rfl)
  | succ k ih =>
    intro i ww H locs ls hk hI hl hF
    refine lv_iload hx hb dX2_modulo_196 (lv_at hl 0 rfl) ?_
    refine lv_aload_n hx hb dX2_modulo_198 rfl (lv_at hl 2 rfl) ?_
    refine fl_get2 X hI dX2_modulo_199 (by omega) 1 (by decide) wf_X2_33 rfl ?_
    refine W.eq (g2 := F0 m 202 ls [.int (nI eq), .int (nI i)]) (by rw [he]) ?_
    refine fn_icmp_ge X (tgt := 227) dX2_modulo_202 (by decide) (by omega) (by omega) (fun c1 => absurd c1 (by omega)) (fun c1 => ?_)
    refine lv_lload_n hx hb dX2_modulo_205 rfl (lv_at hl 1 rfl) ?_
    refine lv_aload_n hx hb dX2_modulo_206 rfl (lv_at hl 2 rfl) ?_
    refine fl_get2 X hI dX2_modulo_207 (by omega) 4 (by decide) wf_X2_20 rfl ?_
    refine lv_bipush (v := nI 8) hx hb dX2_modulo_210 (by decide) ?_
    refine lv_iload hx hb dX2_modulo_212 (lv_at hl 0 rfl) ?_
    refine fn_imul X dX2_modulo_214 ?_
    refine lv_iload hx hb dX2_modulo_215 (lv_at hl 0 rfl) ?_
    refine fn_iadd X dX2_modulo_217 ?_
    refine fn_lald (k := 33) X hI dX2_modulo_218 (by omega) rfl (show (8 * i) + i < 64 by omega) ?_
    refine lv_lmul hx hb dX2_modulo_219 ?_
    refine lv_lstore_n (lv' := [(2, .long (ww * (J 33 ((8 * i) + i)))), (4, .int (nI i)), (0, .ref (ad 30)), (1, .int (nI mm))]) hx hb dX2_modulo_220 rfl hl (by decide) rfl (fun ls hl => ?_)
    refine fn_iinc (a := i) (lv' := [(4, .int (nI (i + 1))), (2, .long (ww * (J 33 ((8 * i) + i)))), (0, .ref (ad 30)), (1, .int (nI mm))]) X dX2_modulo_221 hl (k := 1) rfl (by decide) rfl (fun ls hl => ?_)
    refine lv_goto (tgt := 196) hx hb dX2_modulo_224 (by decide) ?_
    exact ih (i + 1) _ _ _ _ (by omega) hI (lv_sub hl [0, 1, 2, 3] rfl) hF
theorem lp_m3 {p : Program} {l : Launch} {e : Env} {R : Room} {s : State} {m : MethodId} {args : Array Value} {below : List Frame} {meth : Method} {c : Code} {Q : State → Prop} {D : va_G} {dA : Nat → ClassId} {ad : Nat → Nat} {N : Nat} {A : Nat → Prop} {H0 : Heap} {I : fl_TI} {J : fl_TJ} {ww9 : Int64} (X : CallFix p m c cX2_modulo 5 s args fl_tb RX2) {n eq mm : Nat} (hN : 37 ≤ N) (hn : I 30 0 = nI n) (hn4 : n ≤ 4) (he : I 30 1 = nI eq) (he3 : eq ≤ 3) (hm0 : ¬ (nI mm).toInt64 = 0)
    (kx : ∀ (H : Heap) (locs : List Loc) (ls : Array Slot), fl_I D dA ad N I J A s H0 H locs → lv_has ls 5 [(4, .int (nI eq)), (2, .long ww9), (0, .ref (ad 30)), (1, .int (nI mm))] → W p l e R s m args below meth c H locs 0 0 Q (F0 m 250 ls [])) :
    ∀ (k i : Nat) (ww : Int64) (H : Heap) (locs : List Loc) (ls : Array Slot), i + k = eq → fl_I D dA ad N I J A s H0 H locs → lv_has ls 5 [(4, .int (nI i)), (2, .long ww), (0, .ref (ad 30)), (1, .int (nI mm))] → fl_it (fun _ w => w / (nI mm).toInt64) k i ww = ww9 → W p l e R s m args below meth c H locs 0 0 Q (F0 m 230 ls []) := by
  have hx := X.1
  have hb := X.2.1
  intro k
  induction k with
  | zero =>
    intro i ww H locs ls hk hI hl hF
    have hF : ww = ww9 := hF
    subst hF
    have hk : eq = i := by omega
    subst hk
    refine lv_iload hx hb dX2_modulo_230 (lv_at hl 0 rfl) ?_
    refine lv_aload_n hx hb dX2_modulo_232 rfl (lv_at hl 2 rfl) ?_
    refine fl_get2 X hI dX2_modulo_233 (by omega) 1 (by decide) wf_X2_33 rfl ?_
    refine W.eq (g2 := F0 m 236 ls [.int (nI eq), .int (nI eq)]) (by rw [he]) ?_
    refine fn_icmp_ge X (tgt := 250) dX2_modulo_236 (by decide) (by omega) (by omega) (fun c1 => ?_) (fun c1 => absurd c1 (by omega))
    exact kx _ _ _ hI (lv_sub hl [0, 1, 2, 3] rfl)
  | succ k ih =>
    intro i ww H locs ls hk hI hl hF
    refine lv_iload hx hb dX2_modulo_230 (lv_at hl 0 rfl) ?_
    refine lv_aload_n hx hb dX2_modulo_232 rfl (lv_at hl 2 rfl) ?_
    refine fl_get2 X hI dX2_modulo_233 (by omega) 1 (by decide) wf_X2_33 rfl ?_
    refine W.eq (g2 := F0 m 236 ls [.int (nI eq), .int (nI i)]) (by rw [he]) ?_
    refine fn_icmp_ge X (tgt := 250) dX2_modulo_236 (by decide) (by omega) (by omega) (fun c1 => absurd c1 (by omega)) (fun c1 => ?_)
    refine lv_lload_n hx hb dX2_modulo_239 rfl (lv_at hl 1 rfl) ?_
    refine lv_iload_n hx hb dX2_modulo_240 rfl (lv_at hl 3 rfl) ?_
    refine lv_i2l hx hb dX2_modulo_241 rfl ?_
    refine lv_ldiv hx hb dX2_modulo_242 hm0 ?_
    refine lv_lstore_n (lv' := [(2, .long (ww / ((nI mm).toInt64))), (4, .int (nI i)), (0, .ref (ad 30)), (1, .int (nI mm))]) hx hb dX2_modulo_243 rfl hl (by decide) rfl (fun ls hl => ?_)
    refine fn_iinc (a := i) (lv' := [(4, .int (nI (i + 1))), (2, .long (ww / ((nI mm).toInt64))), (0, .ref (ad 30)), (1, .int (nI mm))]) X dX2_modulo_244 hl (k := 1) rfl (by decide) rfl (fun ls hl => ?_)
    refine lv_goto (tgt := 230) hx hb dX2_modulo_247 (by decide) ?_
    exact ih (i + 1) _ _ _ _ (by omega) hI (lv_sub hl [0, 1, 2, 3] rfl) hF
theorem m_X2_modulo_bad (D : va_G) (dA : Nat → ClassId) (ad : Nat → Nat) (N : Nat) (I : fl_TI) (J : fl_TJ) (hN : 37 ≤ N) (x : Int32) (h : x < nI 1 ∨ ¬ x ≤ nI 40) : FM yX2_modulo cX2_modulo 5 (some .int) 3 D dA ad N [.ref (ad 30), .int x] I J (fun v I' J' => v = some (.int (-1)) ∧ I' = I ∧ J' = J) := by
  refine FM.ofW RX2 rfl (by decide +kernel) (Nat.le_of_ble_eq_true rfl) ?_
  intro p l e s m args below meth c ls X hr hlk hI hl
  have hx := X.1
  have hb := X.2.1
  have hl : lv_has ls 5 [(0, .ref (ad 30)), (1, .int x)] := hl
  refine lv_iload_n hx hb dX2_modulo_0 rfl (lv_at hl 1 rfl) ?_
  refine lv_iconst (v := nI 1) hx hb dX2_modulo_1 (by decide) ?_
  refine lv_icmp_lt (tgt := 11) hx hb dX2_modulo_2 (by decide) (fun c1 => ?_) (fun c1 => ?_)
  · refine lv_iconst (v := (-1)) hx hb dX2_modulo_11 (by decide) ?_
    exact fl_iret X hr hlk hI dX2_modulo_12 ⟨rfl, rfl, rfl⟩
  · refine lv_iload_n hx hb dX2_modulo_5 rfl (lv_at hl 1 rfl) ?_
    refine lv_bipush (v := nI 40) hx hb dX2_modulo_6 (by decide) ?_
    refine lv_icmp_le (tgt := 13) hx hb dX2_modulo_8 (by decide) (fun c2 => ?_) (fun c2 => ?_)
    · exact absurd h (fun q => q.elim c1 (fun z => z c2))
    · refine lv_iconst (v := (-1)) hx hb dX2_modulo_11 (by decide) ?_
      exact fl_iret X hr hlk hI dX2_modulo_12 ⟨rfl, rfl, rfl⟩
theorem m_X2_modulo (D : va_G) (dA : Nat → ClassId) (ad : Nat → Nat) (N : Nat) (I : fl_TI) (J : fl_TJ) {fu n eq tp mm : Nat} {Ir : fl_TI} {Jr : fl_TJ} (hN : 37 ≤ N) (hn : I 30 0 = nI n) (hn4 : n ≤ 4) (he : I 30 1 = nI eq) (he3 : eq ≤ 3) (hk : k_RM fu n eq mm I J Ir Jr tp) (hm1 : 1 ≤ mm) (hm : mm ≤ 40) : FM yX2_modulo cX2_modulo 5 (some .int) 3 D dA ad N [.ref (ad 30), .int (nI mm)] I J (fun v I' J' => v = some (.int (if (k_goes n eq tp Ir Jr).1 = 0 then nI 0 else (k_m3 mm eq (k_m2 eq (k_goes n eq tp Ir Jr).2 (k_m1 mm n))).toInt32)) ∧ I' = Ir ∧ J' = (k_goes n eq tp Ir Jr).2) := by
  refine FM.ofW RX2 rfl (by decide +kernel) (Nat.le_of_ble_eq_true rfl) ?_
  intro p l e s m args below meth c ls X hr hlk hI hl
  have hx := X.1
  have hb := X.2.1
  have hl : lv_has ls 5 [(0, .ref (ad 30)), (1, .int (nI mm))] := hl
  obtain ⟨k1, k2, k3, k4⟩ := k_RM_facts he3 hk
  have k5 := hk.choose_spec.2.2
  have hk1 := hk.choose_spec.1
  have hk2 := hk.choose_spec.2.1
  have kn : Ir 30 0 = nI n := by rw [k4 30 0 (by omega) (by omega)]; exact hn
  have ke : Ir 30 1 = nI eq := by rw [k4 30 1 (by omega) (by omega)]; exact he
  have kl : ∀ i, i < tp → Ir 34 i = nI (ldI Ir 34 i) ∧ ldI Ir 34 i < 8 := fun i hi => ⟨(k3 i hi).1, by have := (k3 i hi).2; omega⟩
  have kg : (k_goes n eq tp Ir Jr).1 ≤ 1 := k_com_le
  refine lv_iload_n hx hb dX2_modulo_0 rfl (lv_at hl 1 rfl) ?_
  refine lv_iconst (v := nI 1) hx hb dX2_modulo_1 (by decide) ?_
  refine fn_icmp_lt X (tgt := 11) dX2_modulo_2 (by decide) (by omega) (by omega) (fun c1 => absurd c1 (by omega)) (fun c1 => ?_)
  refine lv_iload_n hx hb dX2_modulo_5 rfl (lv_at hl 1 rfl) ?_
  refine lv_bipush (v := nI 40) hx hb dX2_modulo_6 (by decide) ?_
  refine fn_icmp_le X (tgt := 13) dX2_modulo_8 (by decide) (by omega) (by omega) (fun c2 => ?_) (fun c2 => absurd c2 (by omega))
  refine lv_iconst (v := nI 0) hx hb dX2_modulo_13 (by decide) ?_
  refine lv_istore_n (lv' := [(2, .int (nI 0)), (0, .ref (ad 30)), (1, .int (nI mm))]) hx hb dX2_modulo_14 rfl hl (by decide) rfl (fun ls hl => ?_)
  refine lp_mr X hN hn hn4 he he3 (J9 := k_mr n eq mm I J) (fun H locs ls hI hl => ?_) (n + eq) 0 _ _ _ _ (Nat.zero_add _) hI (lv_sub hl [0, 1, 2] rfl) rfl
  refine lv_aload_n hx hb dX2_modulo_109 rfl (lv_at hl 1 rfl) ?_
  refine lv_aload_n hx hb dX2_modulo_110 rfl (lv_at hl 1 rfl) ?_
  refine fl_get2 X hI dX2_modulo_111 (by omega) 0 (by decide) wf_X2_7 rfl ?_
  refine W.eq (g2 := F0 m 114 ls [.int (nI n), .ref (ad 30)]) (by rw [hn]) ?_
  refine lv_aload_n hx hb dX2_modulo_114 rfl (lv_at hl 1 rfl) ?_
  refine fl_get2 X hI dX2_modulo_115 (by omega) 1 (by decide) wf_X2_33 rfl ?_
  refine W.eq (g2 := F0 m 118 ls [.int (nI eq), .int (nI n), .ref (ad 30)]) (by rw [he]) ?_
  refine fn_iadd X dX2_modulo_118 ?_
  refine lv_aload_n hx hb dX2_modulo_119 rfl (lv_at hl 1 rfl) ?_
  refine fl_get2 X hI dX2_modulo_120 (by omega) 1 (by decide) wf_X2_33 rfl ?_
  refine W.eq (g2 := F0 m 123 ls [.int (nI eq), .int (nI (n + eq)), .ref (ad 30)]) (by rw [he]) ?_
  refine fl_callV (k := 30) (As := [.int (nI (n + eq)), .int (nI eq)]) (rest := []) X hI dX2_modulo_123 (m_X2_form D dA ad N I (k_mr n eq mm I J) hN (fu := fu) (mn := n + eq) (w := eq) (by omega) (by omega) hk1) (by omega) fl_c_6 rfl rfl wc_yX2_form wm_X2_69 wi_yX2_form wl_yX2_form wn_X2 hd_yX2_form rfl ⟨by first | decide | omega, by first | decide | omega⟩ hl.1 (Nat.le_of_ble_eq_true rfl) (fun v I2 J2 H locs hp hI => ?_)
  obtain ⟨hv, hI2, hJ2⟩ := hp
  subst hv
  rw [hI2, hJ2, ← hk2] at hI
  refine W.eq (g2 := F0 m 126 ls []) rfl ?_
  refine lv_iconst (v := nI 0) hx hb dX2_modulo_126 (by decide) ?_
  refine lv_istore_n (lv' := [(2, .int (nI 0)), (0, .ref (ad 30)), (1, .int (nI mm))]) hx hb dX2_modulo_127 rfl hl (by decide) rfl (fun ls hl => ?_)
  refine lp_mw (I := Ir) X hN kn hn4 ke he3 (J9 := k_want eq Ir Jr) (fun H locs ls hI hl => ?_) eq 0 _ _ _ _ (Nat.zero_add _) hI (lv_sub hl [0, 1, 2] rfl) rfl
  refine lv_aload_n hx hb dX2_modulo_155 rfl (lv_at hl 1 rfl) ?_
  refine lv_aload_n hx hb dX2_modulo_156 rfl (lv_at hl 1 rfl) ?_
  refine fl_get2 X hI dX2_modulo_157 (by omega) 1 (by decide) wf_X2_33 rfl ?_
  refine W.eq (g2 := F0 m 160 ls [.int (nI eq), .ref (ad 30)]) (by rw [ke]) ?_
  refine fl_callV (k := 30) (As := [.int (nI eq)]) (rest := []) X hI dX2_modulo_160 (m_X2_comes D dA ad N Ir (k_want eq Ir Jr) hN he3 kn hn4 k2 (by omega) kl (fun r hr9 => by rw [k_want_33]; exact k5 r hr9)) (by omega) fl_c_6 rfl rfl wc_yX2_comes wm_X2_80 wi_yX2_comes wl_yX2_comes wn_X2 hd_yX2_comes rfl ⟨by first | decide | omega, by first | decide | omega⟩ hl.1 (Nat.le_of_ble_eq_true rfl) (fun v I2 J2 H locs hp hI => ?_)
  obtain ⟨hv, hI2, hJ2⟩ := hp
  subst hv
  rw [hI2, hJ2] at hI
  refine W.eq (g2 := F0 m 163 ls [.int (nI ((k_goes n eq tp Ir Jr).1))]) rfl ?_
  refine fn_if_ne X (tgt := 168) dX2_modulo_163 (by decide) (by omega) (fun c3 => ?_) (fun c3 => ?_)
  · refine lv_lconst (v := 1) hx hb dX2_modulo_168 rfl ?_
    refine lv_lstore_n (lv' := [(2, .long 1), (0, .ref (ad 30)), (1, .int (nI mm))]) hx hb dX2_modulo_169 rfl hl (by decide) rfl (fun ls hl => ?_)
    refine lv_iconst (v := nI 0) hx hb dX2_modulo_170 (by decide) ?_
    refine lv_istore (lv' := [(4, .int (nI 0)), (2, .long 1), (0, .ref (ad 30)), (1, .int (nI mm))]) hx hb dX2_modulo_171 hl (by decide) rfl (fun ls hl => ?_)
    refine lp_m1 (I := Ir) X hN kn hn4 ke he3 (ww9 := k_m1 mm n) (fun H locs ls hI hl => ?_) n 0 _ _ _ _ (Nat.zero_add _) hI (lv_sub hl [0, 1, 2, 3] rfl) rfl
    refine lv_iconst (v := nI 0) hx hb dX2_modulo_193 (by decide) ?_
    refine lv_istore (lv' := [(4, .int (nI 0)), (2, .long (k_m1 mm n)), (0, .ref (ad 30)), (1, .int (nI mm))]) hx hb dX2_modulo_194 hl (by decide) rfl (fun ls hl => ?_)
    refine lp_m2 (I := Ir) X hN kn hn4 ke he3 (ww9 := k_m2 eq (k_goes n eq tp Ir Jr).2 (k_m1 mm n)) (fun H locs ls hI hl => ?_) eq 0 _ _ _ _ (Nat.zero_add _) hI (lv_sub hl [0, 1, 2, 3] rfl) rfl
    refine lv_iconst (v := nI 0) hx hb dX2_modulo_227 (by decide) ?_
    refine lv_istore (lv' := [(4, .int (nI 0)), (2, .long (k_m2 eq (k_goes n eq tp Ir Jr).2 (k_m1 mm n))), (0, .ref (ad 30)), (1, .int (nI mm))]) hx hb dX2_modulo_228 hl (by decide) rfl (fun ls hl => ?_)
    refine lp_m3 (I := Ir) X hN kn hn4 ke he3 (mm_ne hm1 hm) (ww9 := k_m3 mm eq (k_m2 eq (k_goes n eq tp Ir Jr).2 (k_m1 mm n))) (fun H locs ls hI hl => ?_) eq 0 _ _ _ _ (Nat.zero_add _) hI (lv_sub hl [0, 1, 2, 3] rfl) rfl
    refine lv_lload_n hx hb dX2_modulo_250 rfl (lv_at hl 1 rfl) ?_
    refine lv_l2i hx hb dX2_modulo_251 rfl ?_
    exact fl_iret X hr hlk hI dX2_modulo_252 ⟨by first | rw [if_pos c3] | rw [if_neg (by omega)], rfl, rfl⟩
  · refine lv_iconst (v := nI 0) hx hb dX2_modulo_166 (by decide) ?_
    exact fl_iret X hr hlk hI dX2_modulo_167 ⟨by first | rw [if_pos c3] | rw [if_neg (by omega)], rfl, rfl⟩
