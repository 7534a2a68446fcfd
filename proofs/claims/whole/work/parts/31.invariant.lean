/-! invariant -/
def x_dvu (n eq : Nat) (I : fl_TI) (u sz : Nat) : Int64 := fl_it (fun w dv => if pop4 w = sz then cd64 dv (x_det n I u eq 0 w) else dv) (2 ^ n) 0 0
def x_dvd (n eq : Nat) (I : fl_TI) (sz : Nat) : Int64 := fl_it (fun u dv => if pop4 u = sz then cd64 dv (x_dvu n eq I u sz) else dv) (2 ^ eq) 0 0
theorem pw4 {n : Nat} (h : n ≤ 4) : 2 ^ n ≤ 16 ∧ 1 ≤ 2 ^ n := by
  rcases (show n = 0 ∨ n = 1 ∨ n = 2 ∨ n = 3 ∨ n = 4 by omega) with rfl | rfl | rfl | rfl | rfl <;> decide
theorem pop_le (k : Nat) : pop4 k ≤ 4 := by unfold pop4; omega
theorem lp_dvu {p : Program} {l : Launch} {e : Env} {R : Room} {s : State} {m : MethodId} {args : Array Value} {below : List Frame} {meth : Method} {c : Code} {Q : State → Prop} {D : va_G} {dA : Nat → ClassId} {ad : Nat → Nat} {N : Nat} {A : Nat → Prop} {H0 : Heap} {I : fl_TI} {J : fl_TJ} {dv9 : Int64} (X : CallFix p m c cX1_divisorOverUnknowns 6 s args fl_tb RX1) {n eq u sz : Nat} (hN : 30 ≤ N) (hn : I 0 2 = nI n) (hn4 : n ≤ 4) (he : I 0 3 = nI eq) (he3 : eq ≤ 3) (hu : u < 16) (hsz : sz ≤ 4) (hR : 3 + 1 ≤ R.frames ∧ 8 + (11 + 11) + 40 * 3 ≤ R.locals)
    (kx : ∀ (H : Heap) (locs : List Loc) (ls : Array Slot), fl_I D dA ad N I J A s H0 H locs → lv_has ls 6 [(5, .int (nI (2 ^ n))), (3, .long dv9), (0, .ref (ad 0)), (1, .int (nI u)), (2, .int (nI sz))] → W p l e R s m args below meth c H locs 0 0 Q (F0 m 44 ls [])) :
    ∀ (k i : Nat) (dv : Int64) (H : Heap) (locs : List Loc) (ls : Array Slot), i + k = 2 ^ n → fl_I D dA ad N I J A s H0 H locs → lv_has ls 6 [(5, .int (nI i)), (3, .long dv), (0, .ref (ad 0)), (1, .int (nI u)), (2, .int (nI sz))] → fl_it (fun w dv => if pop4 w = sz then cd64 dv (x_det n I u eq 0 w) else dv) k i dv = dv9 → W p l e R s m args below meth c H locs 0 0 Q (F0 m 5 ls []) := by
  have hx := X.1
  have hb := X.2.1
  have h16 := pw4 hn4
  have h18 := pw4 (n := eq) (by omega)
  intro k
  induction k with
  | zero =>
    intro i dv H locs ls hk hI hl hF
    have hF : dv = dv9 := hF
    subst hF
    have hk : 2 ^ n = i := by omega
    subst hk
    refine lv_iload hx hb dX1_divisorOverUnknowns_5 (lv_at hl 0 rfl) ?_
    refine lv_iconst (v := nI 1) hx hb dX1_divisorOverUnknowns_7 (by decide) ?_
    refine lv_aload_n hx hb dX1_divisorOverUnknowns_8 rfl (lv_at hl 2 rfl) ?_
    refine fl_get1 X hI dX1_divisorOverUnknowns_9 (by omega) 2 (by decide) wf_X1_42 rfl ?_
    refine W.eq (g2 := F0 m 12 ls [.int (nI n), .int (nI 1), .int (nI (2 ^ n))]) (by rw [hn]) ?_
    refine lv_ishl hx hb dX1_divisorOverUnknowns_12 ?_
    refine W.eq (g2 := F0 m 13 ls [.int (nI (2 ^ n)), .int (nI (2 ^ n))]) (by rw [shl_ok (by omega)]) ?_
    refine fn_icmp_ge X (tgt := 44) dX1_divisorOverUnknowns_13 (by decide) (by omega) (by omega) (fun c1 => ?_) (fun c1 => absurd c1 (by omega))
    exact kx _ _ _ hI (lv_sub hl [0, 1, 2, 3, 4] rfl)
  | succ k ih =>
    intro i dv H locs ls hk hI hl hF
    refine lv_iload hx hb dX1_divisorOverUnknowns_5 (lv_at hl 0 rfl) ?_
    refine lv_iconst (v := nI 1) hx hb dX1_divisorOverUnknowns_7 (by decide) ?_
    refine lv_aload_n hx hb dX1_divisorOverUnknowns_8 rfl (lv_at hl 2 rfl) ?_
    refine fl_get1 X hI dX1_divisorOverUnknowns_9 (by omega) 2 (by decide) wf_X1_42 rfl ?_
    refine W.eq (g2 := F0 m 12 ls [.int (nI n), .int (nI 1), .int (nI i)]) (by rw [hn]) ?_
    refine lv_ishl hx hb dX1_divisorOverUnknowns_12 ?_
    refine W.eq (g2 := F0 m 13 ls [.int (nI (2 ^ n)), .int (nI i)]) (by rw [shl_ok (by omega)]) ?_
    refine fn_icmp_ge X (tgt := 44) dX1_divisorOverUnknowns_13 (by decide) (by omega) (by omega) (fun c1 => absurd c1 (by omega)) (fun c1 => ?_)
    refine lv_iload hx hb dX1_divisorOverUnknowns_16 (lv_at hl 0 rfl) ?_
    refine fl_callS (As := [.int (nI i)]) (rest := []) X hI dX1_divisorOverUnknowns_18 (m_bitCount D dA ad N I J (k := i) (by omega)) wc_yJ6_bitCount_0f7a4 wm_X1_141 ws_yJ6_bitCount_0f7a4 wn_J6 hd_yJ6_bitCount_0f7a4 rfl ⟨by first | decide | omega, by first | decide | omega⟩ hl.1 (Nat.le_of_ble_eq_true rfl) (fun v I2 J2 H locs hp hI => ?_)
    obtain ⟨hv, hI2, hJ2⟩ := hp
    subst hv
    rw [hI2, hJ2] at hI
    refine W.eq (g2 := F0 m 21 ls [.int (nI (pop4 i))]) rfl ?_
    have h17 := pop_le i
    refine lv_iload_n hx hb dX1_divisorOverUnknowns_21 rfl (lv_at hl 4 rfl) ?_
    refine fn_icmp_ne X (tgt := 38) dX1_divisorOverUnknowns_22 (by decide) (by omega) (by omega) (fun c2 => ?_) (fun c2 => ?_)
    · refine fn_iinc (a := i) (lv' := [(5, .int (nI (i + 1))), (3, .long dv), (0, .ref (ad 0)), (1, .int (nI u)), (2, .int (nI sz))]) X dX1_divisorOverUnknowns_38 hl (k := 0) rfl (by decide) rfl (fun ls hl => ?_)
      refine lv_goto (tgt := 5) hx hb dX1_divisorOverUnknowns_41 (by decide) ?_
      exact ih (i + 1) _ _ _ _ (by omega) hI (lv_sub hl [0, 1, 2, 3, 4] rfl) (by have h9 := hF; simp only [fl_it] at h9; first | (rw [if_pos c2] at h9; exact h9) | (rw [if_neg c2] at h9; exact h9))
    · refine lv_lload_n hx hb dX1_divisorOverUnknowns_25 rfl (lv_at hl 1 rfl) ?_
      refine lv_aload_n hx hb dX1_divisorOverUnknowns_26 rfl (lv_at hl 2 rfl) ?_
      refine lv_iconst (v := nI 0) hx hb dX1_divisorOverUnknowns_27 (by decide) ?_
      refine lv_iload_n hx hb dX1_divisorOverUnknowns_28 rfl (lv_at hl 3 rfl) ?_
      refine lv_iload hx hb dX1_divisorOverUnknowns_29 (lv_at hl 0 rfl) ?_
      refine fl_callV (k := 0) (As := [.int (nI 0), .int (nI u), .int (nI i)]) (rest := [.long dv]) X hI dX1_divisorOverUnknowns_31 (m_det D dA ad N I J hN hn hn4 he he3 hu eq 0 i (by omega) (by omega)) (by omega) fl_c_5 rfl rfl wc_yX1_determinant wm_X1_149 wi_yX1_determinant wl_yX1_determinant wn_X1 hd_yX1_determinant rfl ⟨by first | decide | omega, by first | decide | omega⟩ hl.1 (Nat.le_of_ble_eq_true rfl) (fun v I2 J2 H locs hp hI => ?_)
      obtain ⟨hv, hI2, hJ2⟩ := hp
      subst hv
      rw [hI2, hJ2] at hI
      refine W.eq (g2 := F0 m 34 ls [.long (x_det n I u eq 0 i), .long dv]) rfl ?_
      refine fl_callS (As := [.long dv, .long (x_det n I u eq 0 i)]) (rest := []) X hI dX1_divisorOverUnknowns_34 (m_X1_commonDivisor D dA ad N I J dv (x_det n I u eq 0 i)) wc_yX1_commonDivisor wm_X1_113 ws_yX1_commonDivisor wn_X1 hd_yX1_commonDivisor rfl ⟨by first | decide | omega, by first | decide | omega⟩ hl.1 (Nat.le_of_ble_eq_true rfl) (fun v I2 J2 H locs hp hI => ?_)
      obtain ⟨hv, hI2, hJ2⟩ := hp
      subst hv
      rw [hI2, hJ2] at hI
      refine W.eq (g2 := F0 m 37 ls [.long (cd64 dv (x_det n I u eq 0 i))]) rfl ?_
      refine lv_lstore_n (lv' := [(3, .long (cd64 dv (x_det n I u eq 0 i))), (5, .int (nI i)), (0, .ref (ad 0)), (1, .int (nI u)), (2, .int (nI sz))]) hx hb dX1_divisorOverUnknowns_37 rfl hl (by decide) rfl (fun ls hl => ?_)
      refine fn_iinc (a := i) (lv' := [(5, .int (nI (i + 1))), (3, .long (cd64 dv (x_det n I u eq 0 i))), (0, .ref (ad 0)), (1, .int (nI u)), (2, .int (nI sz))]) X dX1_divisorOverUnknowns_38 hl (k := 1) rfl (by decide) rfl (fun ls hl => ?_)
      refine lv_goto (tgt := 5) hx hb dX1_divisorOverUnknowns_41 (by decide) ?_
      exact ih (i + 1) _ _ _ _ (by omega) hI (lv_sub hl [0, 1, 2, 3, 4] rfl) (by have h9 := hF; simp only [fl_it] at h9; first | (rw [if_pos c2] at h9; exact h9) | (rw [if_neg c2] at h9; exact h9))
theorem m_X1_dvu (D : va_G) (dA : Nat → ClassId) (ad : Nat → Nat) (N : Nat) (I : fl_TI) (J : fl_TJ) {n eq u sz : Nat} (hN : 30 ≤ N) (hn : I 0 2 = nI n) (hn4 : n ≤ 4) (he : I 0 3 = nI eq) (he3 : eq ≤ 3) (hu : u < 16) (hsz : sz ≤ 4) : FM yX1_divisorOverUnknowns cX1_divisorOverUnknowns 6 (some .long) 4 D dA ad N [.ref (ad 0), .int (nI u), .int (nI sz)] I J (fun v I' J' => v = some (.long (x_dvu n eq I u sz)) ∧ I' = I ∧ J' = J) := by
  refine FM.ofW RX1 rfl (by decide +kernel) (Nat.le_of_ble_eq_true rfl) ?_
  intro p l e s m args below meth c ls X hr hlk hI hl
  have hx := X.1
  have hb := X.2.1
  have hl : lv_has ls 6 [(0, .ref (ad 0)), (1, .int (nI u)), (2, .int (nI sz))] := hl
  refine lv_lconst (v := 0) hx hb dX1_divisorOverUnknowns_0 rfl ?_
  refine lv_lstore_n (lv' := [(3, .long 0), (0, .ref (ad 0)), (1, .int (nI u)), (2, .int (nI sz))]) hx hb dX1_divisorOverUnknowns_1 rfl hl (by decide) rfl (fun ls hl => ?_)
  refine lv_iconst (v := nI 0) hx hb dX1_divisorOverUnknowns_2 (by decide) ?_
  refine lv_istore (lv' := [(5, .int (nI 0)), (3, .long 0), (0, .ref (ad 0)), (1, .int (nI u)), (2, .int (nI sz))]) hx hb dX1_divisorOverUnknowns_3 hl (by decide) rfl (fun ls hl => ?_)
  have h16 := pw4 hn4
  refine lp_dvu X hN hn hn4 he he3 hu hsz ⟨by decide, by decide⟩ (dv9 := x_dvu n eq I u sz) (fun H locs ls hI hl => ?_) (2 ^ n) 0 _ _ _ _ (Nat.zero_add _) hI (lv_sub hl [0, 1, 2, 3, 4] rfl) rfl
  refine lv_lload_n hx hb dX1_divisorOverUnknowns_44 rfl (lv_at hl 1 rfl) ?_
  exact fl_lret X hr hlk hI dX1_divisorOverUnknowns_45 ⟨rfl, rfl, rfl⟩
theorem lp_dvd {p : Program} {l : Launch} {e : Env} {R : Room} {s : State} {m : MethodId} {args : Array Value} {below : List Frame} {meth : Method} {c : Code} {Q : State → Prop} {D : va_G} {dA : Nat → ClassId} {ad : Nat → Nat} {N : Nat} {A : Nat → Prop} {H0 : Heap} {I : fl_TI} {J : fl_TJ} {dv9 : Int64} (X : CallFix p m c cX1_divisorOfDeterminants 5 s args fl_tb RX1) {n eq sz : Nat} (hN : 30 ≤ N) (hn : I 0 2 = nI n) (hn4 : n ≤ 4) (he : I 0 3 = nI eq) (he3 : eq ≤ 3) (hsz : sz ≤ 4) (hR : 4 + 1 ≤ R.frames ∧ 8 + (11 + 11) + 40 * 4 ≤ R.locals)
    (kx : ∀ (H : Heap) (locs : List Loc) (ls : Array Slot), fl_I D dA ad N I J A s H0 H locs → lv_has ls 5 [(4, .int (nI (2 ^ eq))), (2, .long dv9), (0, .ref (ad 0)), (1, .int (nI sz))] → W p l e R s m args below meth c H locs 0 0 Q (F0 m 43 ls [])) :
    ∀ (k i : Nat) (dv : Int64) (H : Heap) (locs : List Loc) (ls : Array Slot), i + k = 2 ^ eq → fl_I D dA ad N I J A s H0 H locs → lv_has ls 5 [(4, .int (nI i)), (2, .long dv), (0, .ref (ad 0)), (1, .int (nI sz))] → fl_it (fun u dv => if pop4 u = sz then cd64 dv (x_dvu n eq I u sz) else dv) k i dv = dv9 → W p l e R s m args below meth c H locs 0 0 Q (F0 m 5 ls []) := by
  have hx := X.1
  have hb := X.2.1
  have h16 := pw4 hn4
  have h18 := pw4 (n := eq) (by omega)
  intro k
  induction k with
  | zero =>
    intro i dv H locs ls hk hI hl hF
    have hF : dv = dv9 := hF
    subst hF
    have hk : 2 ^ eq = i := by omega
    subst hk
    refine lv_iload hx hb dX1_divisorOfDeterminants_5 (lv_at hl 0 rfl) ?_
    refine lv_iconst (v := nI 1) hx hb dX1_divisorOfDeterminants_7 (by decide) ?_
    refine lv_aload_n hx hb dX1_divisorOfDeterminants_8 rfl (lv_at hl 2 rfl) ?_
    refine fl_get1 X hI dX1_divisorOfDeterminants_9 (by omega) 3 (by decide) wf_X1_46 rfl ?_
    refine W.eq (g2 := F0 m 12 ls [.int (nI eq), .int (nI 1), .int (nI (2 ^ eq))]) (by rw [he]) ?_
    refine lv_ishl hx hb dX1_divisorOfDeterminants_12 ?_
    refine W.eq (g2 := F0 m 13 ls [.int (nI (2 ^ eq)), .int (nI (2 ^ eq))]) (by rw [shl_ok (by omega)]) ?_
    refine fn_icmp_ge X (tgt := 43) dX1_divisorOfDeterminants_13 (by decide) (by omega) (by omega) (fun c1 => ?_) (fun c1 => absurd c1 (by omega))
    exact kx _ _ _ hI (lv_sub hl [0, 1, 2, 3] rfl)
  | succ k ih =>
    intro i dv H locs ls hk hI hl hF
    refine lv_iload hx hb dX1_divisorOfDeterminants_5 (lv_at hl 0 rfl) ?_
    refine lv_iconst (v := nI 1) hx hb dX1_divisorOfDeterminants_7 (by decide) ?_
    refine lv_aload_n hx hb dX1_divisorOfDeterminants_8 rfl (lv_at hl 2 rfl) ?_
    refine fl_get1 X hI dX1_divisorOfDeterminants_9 (by omega) 3 (by decide) wf_X1_46 rfl ?_
    refine W.eq (g2 := F0 m 12 ls [.int (nI eq), .int (nI 1), .int (nI i)]) (by rw [he]) ?_
    refine lv_ishl hx hb dX1_divisorOfDeterminants_12 ?_
    refine W.eq (g2 := F0 m 13 ls [.int (nI (2 ^ eq)), .int (nI i)]) (by rw [shl_ok (by omega)]) ?_
    refine fn_icmp_ge X (tgt := 43) dX1_divisorOfDeterminants_13 (by decide) (by omega) (by omega) (fun c1 => absurd c1 (by omega)) (fun c1 => ?_)
    refine lv_iload hx hb dX1_divisorOfDeterminants_16 (lv_at hl 0 rfl) ?_
    refine fl_callS (As := [.int (nI i)]) (rest := []) X hI dX1_divisorOfDeterminants_18 (m_bitCount D dA ad N I J (k := i) (by omega)) wc_yJ6_bitCount_0f7a4 wm_X1_141 ws_yJ6_bitCount_0f7a4 wn_J6 hd_yJ6_bitCount_0f7a4 rfl ⟨by first | decide | omega, by first | decide | omega⟩ hl.1 (Nat.le_of_ble_eq_true rfl) (fun v I2 J2 H locs hp hI => ?_)
    obtain ⟨hv, hI2, hJ2⟩ := hp
    subst hv
    rw [hI2, hJ2] at hI
    refine W.eq (g2 := F0 m 21 ls [.int (nI (pop4 i))]) rfl ?_
    have h17 := pop_le i
    refine lv_iload_n hx hb dX1_divisorOfDeterminants_21 rfl (lv_at hl 3 rfl) ?_
    refine fn_icmp_ne X (tgt := 37) dX1_divisorOfDeterminants_22 (by decide) (by omega) (by omega) (fun c2 => ?_) (fun c2 => ?_)
    · refine fn_iinc (a := i) (lv' := [(4, .int (nI (i + 1))), (2, .long dv), (0, .ref (ad 0)), (1, .int (nI sz))]) X dX1_divisorOfDeterminants_37 hl (k := 0) rfl (by decide) rfl (fun ls hl => ?_)
      refine lv_goto (tgt := 5) hx hb dX1_divisorOfDeterminants_40 (by decide) ?_
      exact ih (i + 1) _ _ _ _ (by omega) hI (lv_sub hl [0, 1, 2, 3] rfl) (by have h9 := hF; simp only [fl_it] at h9; first | (rw [if_pos c2] at h9; exact h9) | (rw [if_neg c2] at h9; exact h9))
    · refine lv_lload_n hx hb dX1_divisorOfDeterminants_25 rfl (lv_at hl 1 rfl) ?_
      refine lv_aload_n hx hb dX1_divisorOfDeterminants_26 rfl (lv_at hl 2 rfl) ?_
      refine lv_iload hx hb dX1_divisorOfDeterminants_27 (lv_at hl 0 rfl) ?_
      refine lv_iload_n hx hb dX1_divisorOfDeterminants_29 rfl (lv_at hl 3 rfl) ?_
      refine fl_callV (k := 0) (As := [.int (nI i), .int (nI sz)]) (rest := [.long dv]) X hI dX1_divisorOfDeterminants_30 (m_X1_dvu D dA ad N I J hN hn hn4 he he3 (u := i) (sz := sz) (by omega) hsz) (by omega) fl_c_5 rfl rfl wc_yX1_divisorOverUnknowns wm_X1_146 wi_yX1_divisorOverUnknowns wl_yX1_divisorOverUnknowns wn_X1 hd_yX1_divisorOverUnknowns rfl ⟨by first | decide | omega, by first | decide | omega⟩ hl.1 (Nat.le_of_ble_eq_true rfl) (fun v I2 J2 H locs hp hI => ?_)
      obtain ⟨hv, hI2, hJ2⟩ := hp
      subst hv
      rw [hI2, hJ2] at hI
      refine W.eq (g2 := F0 m 33 ls [.long (x_dvu n eq I i sz), .long dv]) rfl ?_
      refine fl_callS (As := [.long dv, .long (x_dvu n eq I i sz)]) (rest := []) X hI dX1_divisorOfDeterminants_33 (m_X1_commonDivisor D dA ad N I J dv (x_dvu n eq I i sz)) wc_yX1_commonDivisor wm_X1_113 ws_yX1_commonDivisor wn_X1 hd_yX1_commonDivisor rfl ⟨by first | decide | omega, by first | decide | omega⟩ hl.1 (Nat.le_of_ble_eq_true rfl) (fun v I2 J2 H locs hp hI => ?_)
      obtain ⟨hv, hI2, hJ2⟩ := hp
      subst hv
      rw [hI2, hJ2] at hI
      refine W.eq (g2 := F0 m 36 ls [.long (cd64 dv (x_dvu n eq I i sz))]) rfl ?_
      refine lv_lstore_n (lv' := [(2, .long (cd64 dv (x_dvu n eq I i sz))), (4, .int (nI i)), (0, .ref (ad 0)), (1, .int (nI sz))]) hx hb dX1_divisorOfDeterminants_36 rfl hl (by decide) rfl (fun ls hl => ?_)
      refine fn_iinc (a := i) (lv' := [(4, .int (nI (i + 1))), (2, .long (cd64 dv (x_dvu n eq I i sz))), (0, .ref (ad 0)), (1, .int (nI sz))]) X dX1_divisorOfDeterminants_37 hl (k := 1) rfl (by decide) rfl (fun ls hl => ?_)
      refine lv_goto (tgt := 5) hx hb dX1_divisorOfDeterminants_40 (by decide) ?_
      exact ih (i + 1) _ _ _ _ (by omega) hI (lv_sub hl [0, 1, 2, 3] rfl) (by have h9 := hF; simp only [fl_it] at h9; first | (rw [if_pos c2] at h9; exact h9) | (rw [if_neg c2] at h9; exact h9))
theorem m_X1_dvd (D : va_G) (dA : Nat → ClassId) (ad : Nat → Nat) (N : Nat) (I : fl_TI) (J : fl_TJ) {n eq sz : Nat} (hN : 30 ≤ N) (hn : I 0 2 = nI n) (hn4 : n ≤ 4) (he : I 0 3 = nI eq) (he3 : eq ≤ 3) (hsz : sz ≤ 4) : FM yX1_divisorOfDeterminants cX1_divisorOfDeterminants 5 (some .long) 5 D dA ad N [.ref (ad 0), .int (nI sz)] I J (fun v I' J' => v = some (.long (x_dvd n eq I sz)) ∧ I' = I ∧ J' = J) := by
  refine FM.ofW RX1 rfl (by decide +kernel) (Nat.le_of_ble_eq_true rfl) ?_
  intro p l e s m args below meth c ls X hr hlk hI hl
  have hx := X.1
  have hb := X.2.1
  have hl : lv_has ls 5 [(0, .ref (ad 0)), (1, .int (nI sz))] := hl
  refine lv_lconst (v := 0) hx hb dX1_divisorOfDeterminants_0 rfl ?_
  refine lv_lstore_n (lv' := [(2, .long 0), (0, .ref (ad 0)), (1, .int (nI sz))]) hx hb dX1_divisorOfDeterminants_1 rfl hl (by decide) rfl (fun ls hl => ?_)
  refine lv_iconst (v := nI 0) hx hb dX1_divisorOfDeterminants_2 (by decide) ?_
  refine lv_istore (lv' := [(4, .int (nI 0)), (2, .long 0), (0, .ref (ad 0)), (1, .int (nI sz))]) hx hb dX1_divisorOfDeterminants_3 hl (by decide) rfl (fun ls hl => ?_)
  refine lp_dvd X hN hn hn4 he he3 hsz ⟨by decide, by decide⟩ (dv9 := x_dvd n eq I sz) (fun H locs ls hI hl => ?_) (2 ^ eq) 0 _ _ _ _ (Nat.zero_add _) hI (lv_sub hl [0, 1, 2, 3] rfl) rfl
  refine lv_lload_n hx hb dX1_divisorOfDeterminants_43 rfl (lv_at hl 1 rfl) ?_
  exact fl_lret X hr hlk hI dX1_divisorOfDeterminants_44 ⟨rfl, rfl, rfl⟩
theorem m_X1_invariant_bad (D : va_G) (dA : Nat → ClassId) (ad : Nat → Nat) (N : Nat) (I : fl_TI) (J : fl_TJ) (hN : 30 ≤ N) {n eq rr rk : Nat} (ok : x_ok I n eq rr rk) {x : Int32} (hbad : x < nI 1 ∨ nI eq < x ∨ ¬ x ≤ nI n) : FM yX1_invariant cX1_invariant 6 (some .long) 6 D dA ad N [.ref (ad 0), .int x] I J (fun v I' J' => v = some (.long (-1000000000000000)) ∧ I' = I ∧ J' = J) := by
  refine FM.ofW RX1 rfl (by decide +kernel) (Nat.le_of_ble_eq_true rfl) ?_
  intro p l e s m args below meth c ls X hr hlk hI hl
  have hx := X.1
  have hb := X.2.1
  have hl : lv_has ls 6 [(0, .ref (ad 0)), (1, .int x)] := hl
  obtain ⟨hn, ⟨hn1, hn4⟩, he, he3, hrr, hrn, hh, hw, hrk, hrk4, hld⟩ := ok
  refine lv_iload_n hx hb dX1_invariant_0 rfl (lv_at hl 1 rfl) ?_
  refine lv_iconst (v := nI 1) hx hb dX1_invariant_1 (by decide) ?_
  refine lv_icmp_lt (tgt := 21) hx hb dX1_invariant_2 (by decide) (fun c1 => ?_) (fun c1 => ?_)
  · refine W.ldc2 (v := (-1000000000000000)) hx hb X.2.2.2.1 (X.2.2.2.2 _ wk_X1_70) rfl dX1_invariant_21 ?_
    refine W.eq (g2 := F0 m 24 ls [.long ((-1000000000000000))]) rfl ?_
    exact fl_lret X hr hlk hI dX1_invariant_24 ⟨rfl, rfl, rfl⟩
  · refine lv_iload_n hx hb dX1_invariant_5 rfl (lv_at hl 1 rfl) ?_
    refine lv_aload_n hx hb dX1_invariant_6 rfl (lv_at hl 0 rfl) ?_
    refine fl_get1 X hI dX1_invariant_7 (by omega) 3 (by decide) wf_X1_46 rfl ?_
    refine W.eq (g2 := F0 m 10 ls [.int (nI eq), .int x]) (by rw [he]) ?_
    refine lv_icmp_gt (tgt := 21) hx hb dX1_invariant_10 (by decide) (fun c2 => ?_) (fun c2 => ?_)
    · refine W.ldc2 (v := (-1000000000000000)) hx hb X.2.2.2.1 (X.2.2.2.2 _ wk_X1_70) rfl dX1_invariant_21 ?_
      refine W.eq (g2 := F0 m 24 ls [.long ((-1000000000000000))]) rfl ?_
      exact fl_lret X hr hlk hI dX1_invariant_24 ⟨rfl, rfl, rfl⟩
    · refine lv_iload_n hx hb dX1_invariant_13 rfl (lv_at hl 1 rfl) ?_
      refine lv_aload_n hx hb dX1_invariant_14 rfl (lv_at hl 0 rfl) ?_
      refine fl_get1 X hI dX1_invariant_15 (by omega) 2 (by decide) wf_X1_42 rfl ?_
      refine W.eq (g2 := F0 m 18 ls [.int (nI n), .int x]) (by rw [hn]) ?_
      refine lv_icmp_le (tgt := 25) hx hb dX1_invariant_18 (by decide) (fun c3 => ?_) (fun c3 => ?_)
      · exact absurd hbad (fun q => q.elim c1 (fun q => q.elim c2 (fun z => z c3)))
      · refine W.ldc2 (v := (-1000000000000000)) hx hb X.2.2.2.1 (X.2.2.2.2 _ wk_X1_70) rfl dX1_invariant_21 ?_
        refine W.eq (g2 := F0 m 24 ls [.long ((-1000000000000000))]) rfl ?_
        exact fl_lret X hr hlk hI dX1_invariant_24 ⟨rfl, rfl, rfl⟩
def x_inv (n eq : Nat) (I : fl_TI) (sz : Nat) : Int64 := if x_dvd n eq I (sz - 1) = 0 then 0 else x_dvd n eq I sz / x_dvd n eq I (sz - 1)
theorem m_X1_invariant (D : va_G) (dA : Nat → ClassId) (ad : Nat → Nat) (N : Nat) (I : fl_TI) (J : fl_TJ) (hN : 30 ≤ N) {n eq rr rk : Nat} (ok : x_ok I n eq rr rk) {sz : Nat} (h1 : 1 ≤ sz) (h2 : sz ≤ eq) (h3 : sz ≤ n) : FM yX1_invariant cX1_invariant 6 (some .long) 6 D dA ad N [.ref (ad 0), .int (nI sz)] I J (fun v I' J' => v = some (.long (x_inv n eq I sz)) ∧ I' = I ∧ J' = J) := by
  refine FM.ofW RX1 rfl (by decide +kernel) (Nat.le_of_ble_eq_true rfl) ?_
  intro p l e s m args below meth c ls X hr hlk hI hl
  have hx := X.1
  have hb := X.2.1
  have hl : lv_has ls 6 [(0, .ref (ad 0)), (1, .int (nI sz))] := hl
  obtain ⟨hn, ⟨hn1, hn4⟩, he, he3, hrr, hrn, hh, hw, hrk, hrk4, hld⟩ := ok
  refine lv_iload_n hx hb dX1_invariant_0 rfl (lv_at hl 1 rfl) ?_
  refine lv_iconst (v := nI 1) hx hb dX1_invariant_1 (by decide) ?_
  refine fn_icmp_lt X (tgt := 21) dX1_invariant_2 (by decide) (by omega) (by omega) (fun c1 => absurd c1 (by omega)) (fun c1 => ?_)
  refine lv_iload_n hx hb dX1_invariant_5 rfl (lv_at hl 1 rfl) ?_
  refine lv_aload_n hx hb dX1_invariant_6 rfl (lv_at hl 0 rfl) ?_
  refine fl_get1 X hI dX1_invariant_7 (by omega) 3 (by decide) wf_X1_46 rfl ?_
  refine W.eq (g2 := F0 m 10 ls [.int (nI eq), .int (nI sz)]) (by rw [he]) ?_
  refine fn_icmp_gt X (tgt := 21) dX1_invariant_10 (by decide) (by omega) (by omega) (fun c2 => absurd c2 (by omega)) (fun c2 => ?_)
  refine lv_iload_n hx hb dX1_invariant_13 rfl (lv_at hl 1 rfl) ?_
  refine lv_aload_n hx hb dX1_invariant_14 rfl (lv_at hl 0 rfl) ?_
  refine fl_get1 X hI dX1_invariant_15 (by omega) 2 (by decide) wf_X1_42 rfl ?_
  refine W.eq (g2 := F0 m 18 ls [.int (nI n), .int (nI sz)]) (by rw [hn]) ?_
  refine fn_icmp_le X (tgt := 25) dX1_invariant_18 (by decide) (by omega) (by omega) (fun c3 => ?_) (fun c3 => absurd c3 (by omega))
  refine lv_aload_n hx hb dX1_invariant_25 rfl (lv_at hl 0 rfl) ?_
  refine lv_iload_n hx hb dX1_invariant_26 rfl (lv_at hl 1 rfl) ?_
  refine fl_callV (k := 0) (As := [.int (nI sz)]) (rest := []) X hI dX1_invariant_27 (m_X1_dvd D dA ad N I J hN hn hn4 he he3 (sz := sz) (by omega)) (by omega) fl_c_5 rfl rfl wc_yX1_divisorOfDeterminants wm_X1_93 wi_yX1_divisorOfDeterminants wl_yX1_divisorOfDeterminants wn_X1 hd_yX1_divisorOfDeterminants rfl ⟨by first | decide | omega, by first | decide | omega⟩ hl.1 (Nat.le_of_ble_eq_true rfl) (fun v I2 J2 H locs hp hI => ?_)
  obtain ⟨hv, hI2, hJ2⟩ := hp
  subst hv
  rw [hI2, hJ2] at hI
  refine W.eq (g2 := F0 m 30 ls [.long (x_dvd n eq I sz)]) rfl ?_
  refine lv_lstore_n (lv' := [(2, .long (x_dvd n eq I sz)), (0, .ref (ad 0)), (1, .int (nI sz))]) hx hb dX1_invariant_30 rfl hl (by decide) rfl (fun ls hl => ?_)
  refine lv_aload_n hx hb dX1_invariant_31 rfl (lv_at hl 1 rfl) ?_
  refine lv_iload_n hx hb dX1_invariant_32 rfl (lv_at hl 2 rfl) ?_
  refine lv_iconst (v := nI 1) hx hb dX1_invariant_33 (by decide) ?_
  refine fn_isub X dX1_invariant_34 (by omega) ?_
  refine fl_callV (k := 0) (As := [.int (nI (sz - 1))]) (rest := []) X hI dX1_invariant_35 (m_X1_dvd D dA ad N I J hN hn hn4 he he3 (sz := sz - 1) (by omega)) (by omega) fl_c_5 rfl rfl wc_yX1_divisorOfDeterminants wm_X1_93 wi_yX1_divisorOfDeterminants wl_yX1_divisorOfDeterminants wn_X1 hd_yX1_divisorOfDeterminants rfl ⟨by first | decide | omega, by first | decide | omega⟩ hl.1 (Nat.le_of_ble_eq_true rfl) (fun v I2 J2 H locs hp hI => ?_)
  obtain ⟨hv, hI2, hJ2⟩ := hp
  subst hv
  rw [hI2, hJ2] at hI
  refine W.eq (g2 := F0 m 38 ls [.long (x_dvd n eq I (sz - 1))]) rfl ?_
  refine lv_lstore (lv' := [(4, .long (x_dvd n eq I (sz - 1))), (2, .long (x_dvd n eq I sz)), (0, .ref (ad 0)), (1, .int (nI sz))]) hx hb dX1_invariant_38 hl (by decide) rfl (fun ls hl => ?_)
  refine lv_lload hx hb dX1_invariant_40 (lv_at hl 0 rfl) ?_
  refine lv_lconst (v := 0) hx hb dX1_invariant_42 rfl ?_
  refine fl_lc_ne (tgt := 51) hx hb dX1_invariant_43 dX1_invariant_44 (by decide) (fun c4 => ?_) (fun c4 => ?_)
  · refine lv_lload_n hx hb dX1_invariant_51 rfl (lv_at hl 1 rfl) ?_
    refine lv_lload hx hb dX1_invariant_52 (lv_at hl 0 rfl) ?_
    refine lv_ldiv hx hb dX1_invariant_54 c4 ?_
    exact fl_lret X hr hlk hI dX1_invariant_55 ⟨by unfold x_inv; first | rw [if_pos c4] | rw [if_neg c4], rfl, rfl⟩
  · refine lv_lconst (v := 0) hx hb dX1_invariant_47 rfl ?_
    refine lv_goto (tgt := 55) hx hb dX1_invariant_48 (by decide) ?_
    exact fl_lret X hr hlk hI dX1_invariant_55 ⟨by unfold x_inv; first | rw [if_pos c4] | rw [if_neg c4], rfl, rfl⟩
