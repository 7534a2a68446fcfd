/-! the model: goes, and what its answers are read from -/
/-- relate(ea) from (I, J) comes to (Ir, Jr) with tp rows, no lead 0 -/
def k_R (fu n ea : Nat) (I : fl_TI) (J : fl_TJ) (Ir : fl_TI) (Jr : fl_TJ) (tp : Nat) : Prop := ∃ I9, k_form fu n (ea + n) (ea + n) 0 (0, I, k_rel n ea I J) = some (tp, I9, Jr) ∧ Ir = fl_up I9 30 5 (nI tp) ∧ ∀ r, r < tp → Jr 33 (8 * r + ldI Ir 34 r) ≠ 0
theorem k_R_facts {fu n ea tp : Nat} {I Ir : fl_TI} {J Jr : fl_TJ} (hw : ea + n ≤ 7) (h : k_R fu n ea I J Ir Jr tp) : tp ≤ n ∧ Ir 30 5 = nI tp ∧ (∀ i, i < tp → Ir 34 i = nI (ldI Ir 34 i) ∧ ldI Ir 34 i < ea + n) ∧ (∀ a b, a ≠ 34 → ¬ (a = 30 ∧ b = 5) → Ir a b = I a b) := by
  obtain ⟨I9, h1, h2, -⟩ := h
  obtain ⟨g1, g2, g3⟩ := k_form_I fu n (ea + n) (by omega) (ea + n) 0 0 I _ _ (Nat.zero_add _) (Nat.zero_le _) (fun i hi => absurd hi (Nat.not_lt_zero _)) h1
  subst h2
  refine ⟨g1, fl_up_s, fun i hi => ?_, fun a b h1 h2 => ?_⟩
  · unfold ldI
    rw [fl_up_k (by omega)]
    exact g2 i hi
  · by_cases e : a = 30
    · subst e; rw [fl_up_j (fun q => h2 ⟨rfl, q⟩)]; exact g3 _ b h1
    · rw [fl_up_k e]; exact g3 a b h1
theorem m_X2_rel (D : va_G) (dA : Nat → ClassId) (ad : Nat → Nat) (N : Nat) (I : fl_TI) (J : fl_TJ) {fu n ea tp : Nat} {Ir : fl_TI} {Jr : fl_TJ} (hN : 37 ≤ N) (hn : I 30 0 = nI n) (hn4 : n ≤ 4) (he3 : ea ≤ 3) (hk : k_R fu n ea I J Ir Jr tp) : FM yX2_relate cX2_relate 4 none 3 D dA ad N [.ref (ad 30), .int (nI ea)] I J (fun v I' J' => v = none ∧ I' = Ir ∧ J' = Jr) := by
  obtain ⟨I9, h1, h2, -⟩ := hk
  subst h2
  exact m_X2_relate D dA ad N I J hN hn hn4 he3 h1
def k_want (ea : Nat) (I : fl_TI) (J : fl_TJ) : fl_TJ := fl_it (fun q J => fl_up J 35 q ((I 32 q).toInt64)) ea 0 J
def k_goes (n ea tp : Nat) (Ir : fl_TI) (Jr : fl_TJ) : Nat × fl_TJ := k_com n ea tp Ir (k_want ea Ir Jr)
theorem k_want_33 {e : Nat} {I : fl_TI} {J : fl_TJ} {y : Nat} : k_want e I J 33 y = J 33 y := by
  unfold k_want
  exact fl_it_keep (fun J' : fl_TJ => J' 33 y = J 33 y) _ e 0 J rfl (fun j x _ _ h => by show fl_up x 35 j _ 33 y = _; rw [fl_up_k (by omega)]; exact h)
theorem k_cr_33 {n e : Nat} {I : fl_TI} {y : Nat} : ∀ (k r : Nat) (J : fl_TJ), (k_cr n e I k r J).2 33 y = J 33 y := by
  intro k
  induction k with
  | zero => intro r J; rfl
  | succ k ih =>
    intro r J
    rw [k_cr]
    split
    · rw [ih, k_cf_33, k_cw_33]
    · rfl
theorem k_com_33 {n e rk : Nat} {I : fl_TI} {J : fl_TJ} {y : Nat} : (k_com n e rk I J).2 33 y = J 33 y := by
  unfold k_com
  split
  · show (k_cr n e I _ 0 (k_f0 J)).2 33 y = _
    rw [k_cr_33, k_f0_33]
  · show (k_cr n e I _ 0 (k_f0 J)).2 33 y = _
    rw [k_cr_33, k_f0_33]
theorem k_goes_33 {n e tp : Nat} {I : fl_TI} {J : fl_TJ} {y : Nat} : (k_goes n e tp I J).2 33 y = J 33 y := by
  unfold k_goes
  rw [k_com_33, k_want_33]
theorem k_cz_le (J : fl_TJ) : ∀ k i, k_cz J k i ≤ 1 := by
  intro k
  induction k with
  | zero => intro i; exact Nat.le_refl _
  | succ k ih =>
    intro i
    rw [k_cz]
    split
    · exact ih _
    · omega
theorem k_com_le {n e rk : Nat} {I : fl_TI} {J : fl_TJ} : (k_com n e rk I J).1 ≤ 1 := by
  unfold k_com
  split
  · exact Nat.zero_le _
  · exact k_cz_le _ _ _
theorem lp_want {p : Program} {l : Launch} {e : Env} {R : Room} {s : State} {m : MethodId} {args : Array Value} {below : List Frame} {meth : Method} {c : Code} {Q : State → Prop} {D : va_G} {dA : Nat → ClassId} {ad : Nat → Nat} {N : Nat} {A : Nat → Prop} {H0 : Heap} {I : fl_TI} {J9 : fl_TJ} (X : CallFix p m c cX2_goes 3 s args fl_tb RX2) {ea : Nat} (hN : 37 ≤ N) (he3 : ea ≤ 3)
    (kx : ∀ (H : Heap) (locs : List Loc) (ls : Array Slot), fl_I D dA ad N I J9 A s H0 H locs → lv_has ls 3 [(2, .int (nI ea)), (0, .ref (ad 30)), (1, .int (nI ea))] → W p l e R s m args below meth c H locs 0 0 Q (F0 m 31 ls [])) :
    ∀ (k i : Nat) (J : fl_TJ) (H : Heap) (locs : List Loc) (ls : Array Slot), i + k = ea → fl_I D dA ad N I J A s H0 H locs → lv_has ls 3 [(2, .int (nI i)), (0, .ref (ad 30)), (1, .int (nI ea))] → fl_it (fun q J => fl_up J 35 q ((I 32 q).toInt64)) k i J = J9 → W p l e R s m args below meth c H locs 0 0 Q (F0 m 7 ls []) := by
  have hx := X.1
  have hb := X.2.1
  intro k
  induction k with
  | zero =>
    intro i J H locs ls hk hI hl hF
    have hF : J = J9 := hF
    subst hF
    have hk : ea = i := by omega
    subst hk
    refine lv_iload_n hx hb dX2_goes_7 rfl (lv_at hl 0 rfl) ?_
    refine lv_iload_n hx hb dX2_goes_8 rfl (lv_at hl 2 rfl) ?_
    refine fn_icmp_ge X (tgt := 31) dX2_goes_9 (by decide) (by omega) (by omega) (fun c1 => ?_) (fun c1 => absurd c1 (by omega))
    exact kx _ _ _ hI (lv_sub hl [0, 1, 2] rfl)
  | succ k ih =>
    intro i J H locs ls hk hI hl hF
    refine lv_iload_n hx hb dX2_goes_7 rfl (lv_at hl 0 rfl) ?_
    refine lv_iload_n hx hb dX2_goes_8 rfl (lv_at hl 2 rfl) ?_
    refine fn_icmp_ge X (tgt := 31) dX2_goes_9 (by decide) (by omega) (by omega) (fun c1 => absurd c1 (by omega)) (fun c1 => ?_)
    refine lv_aload_n hx hb dX2_goes_12 rfl (lv_at hl 1 rfl) ?_
    refine fl_get2 X hI dX2_goes_13 (by omega) 7 (by decide) wf_X2_27 rfl ?_
    refine lv_iload_n hx hb dX2_goes_16 rfl (lv_at hl 0 rfl) ?_
    refine lv_aload_n hx hb dX2_goes_17 rfl (lv_at hl 1 rfl) ?_
    refine fl_get2 X hI dX2_goes_18 (by omega) 3 (by decide) wf_X2_17 rfl ?_
    refine lv_iload_n hx hb dX2_goes_21 rfl (lv_at hl 0 rfl) ?_
    refine fn_iald (k := 32) X hI dX2_goes_22 (by omega) rfl (show i < 3 by omega) ?_
    refine lv_i2l hx hb dX2_goes_23 rfl ?_
    refine fn_last (k := 35) X hI dX2_goes_24 (by omega) rfl (show i < 3 by omega) (fun H locs hI => ?_)
    refine fn_iinc (a := i) (lv' := [(2, .int (nI (i + 1))), (0, .ref (ad 30)), (1, .int (nI ea))]) X dX2_goes_25 hl (k := 0) rfl (by decide) rfl (fun ls hl => ?_)
    refine lv_goto (tgt := 7) hx hb dX2_goes_28 (by decide) ?_
    exact ih (i + 1) _ _ _ _ (by omega) hI (lv_sub hl [0, 1, 2] rfl) hF
theorem m_X2_goes (D : va_G) (dA : Nat → ClassId) (ad : Nat → Nat) (N : Nat) (I : fl_TI) (J : fl_TJ) {fu n ea tp : Nat} {Ir : fl_TI} {Jr : fl_TJ} (hN : 37 ≤ N) (hn : I 30 0 = nI n) (hn4 : n ≤ 4) (he3 : ea ≤ 3) (hk : k_R fu n ea I J Ir Jr tp) : FM yX2_goes cX2_goes 3 (some .boolean) 4 D dA ad N [.ref (ad 30), .int (nI ea)] I J (fun v I' J' => v = some (.int (nI (k_goes n ea tp Ir Jr).1)) ∧ I' = Ir ∧ J' = (k_goes n ea tp Ir Jr).2) := by
  refine FM.ofW RX2 rfl (by decide +kernel) (Nat.le_of_ble_eq_true rfl) ?_
  intro p l e s m args below meth c ls X hr hlk hI hl
  have hx := X.1
  have hb := X.2.1
  have hl : lv_has ls 3 [(0, .ref (ad 30)), (1, .int (nI ea))] := hl
  obtain ⟨k1, k2, k3, k4⟩ := k_R_facts (by omega) hk
  have k5 := hk.choose_spec.2.2
  refine lv_aload_n hx hb dX2_goes_0 rfl (lv_at hl 0 rfl) ?_
  refine lv_iload_n hx hb dX2_goes_1 rfl (lv_at hl 1 rfl) ?_
  refine fl_callV (k := 30) (As := [.int (nI ea)]) (rest := []) X hI dX2_goes_2 (m_X2_rel D dA ad N I J hN hn hn4 (ea := ea) he3 hk) (by omega) fl_c_6 rfl rfl wc_yX2_relate wm_X2_76 wi_yX2_relate wl_yX2_relate wn_X2 hd_yX2_relate rfl ⟨by first | decide | omega, by first | decide | omega⟩ hl.1 (Nat.le_of_ble_eq_true rfl) (fun v I2 J2 H locs hp hI => ?_)
  obtain ⟨hv, hI2, hJ2⟩ := hp
  subst hv
  rw [hI2, hJ2] at hI
  refine W.eq (g2 := F0 m 5 ls []) rfl ?_
  refine lv_iconst (v := nI 0) hx hb dX2_goes_5 (by decide) ?_
  refine lv_istore_n (lv' := [(2, .int (nI 0)), (0, .ref (ad 30)), (1, .int (nI ea))]) hx hb dX2_goes_6 rfl hl (by decide) rfl (fun ls hl => ?_)
  refine lp_want X hN he3 (J9 := k_want ea Ir Jr) (fun H locs ls hI hl => ?_) ea 0 _ _ _ _ (Nat.zero_add _) hI (lv_sub hl [0, 1, 2] rfl) rfl
  refine lv_aload_n hx hb dX2_goes_31 rfl (lv_at hl 1 rfl) ?_
  refine lv_iload_n hx hb dX2_goes_32 rfl (lv_at hl 2 rfl) ?_
  refine fl_callV (k := 30) (As := [.int (nI ea)]) (rest := []) X hI dX2_goes_33 (m_X2_comes D dA ad N Ir (k_want ea Ir Jr) hN he3 (by rw [k4 30 0 (by omega) (by omega)]; exact hn) hn4 k2 (by omega) (fun i hi => ⟨(k3 i hi).1, by have := (k3 i hi).2; omega⟩) (fun r hr9 => by rw [k_want_33]; exact k5 r hr9)) (by omega) fl_c_6 rfl rfl wc_yX2_comes wm_X2_80 wi_yX2_comes wl_yX2_comes wn_X2 hd_yX2_comes rfl ⟨by first | decide | omega, by first | decide | omega⟩ hl.1 (Nat.le_of_ble_eq_true rfl) (fun v I2 J2 H locs hp hI => ?_)
  obtain ⟨hv, hI2, hJ2⟩ := hp
  subst hv
  rw [hI2, hJ2] at hI
  refine W.eq (g2 := F0 m 36 ls [.int (nI ((k_goes n ea tp Ir Jr).1))]) rfl ?_
  exact fl_zret X hr hlk hI dX2_goes_36 (by have h9 : (k_goes n ea tp Ir Jr).1 ≤ 1 := k_com_le; rcases (show (k_goes n ea tp Ir Jr).1 = 0 ∨ (k_goes n ea tp Ir Jr).1 = 1 by omega) with q | q <;> rw [q] <;> decide) ⟨rfl, rfl, rfl⟩
theorem m_X2_basisCount (D : va_G) (dA : Nat → ClassId) (ad : Nat → Nat) (N : Nat) (I : fl_TI) (J : fl_TJ) {eq rk : Nat} (hN : 37 ≤ N) (he : I 30 1 = nI eq) (he3 : eq ≤ 3) (hrk : I 30 5 = nI rk) (hrk8 : rk ≤ 8) (hld : ∀ i, i < rk → I 34 i = nI (ldI I 34 i) ∧ ldI I 34 i < 8) : FM yX2_basisCount cX2_basisCount 1 (some .int) 1 D dA ad N [.ref (ad 30)] I J (fun v I' J' => v = some (.int (nI (rk - k_bef I eq rk 0))) ∧ I' = I ∧ J' = J) := by
  refine FM.ofW RX2 rfl (by decide +kernel) (Nat.le_of_ble_eq_true rfl) ?_
  intro p l e s m args below meth c ls X hr hlk hI hl
  have hx := X.1
  have hb := X.2.1
  have hl : lv_has ls 1 [(0, .ref (ad 30))] := hl
  have h51 := k_bef_le I eq rk 0
  refine lv_aload_n hx hb dX2_basisCount_0 rfl (lv_at hl 0 rfl) ?_
  refine fl_get2 X hI dX2_basisCount_1 (by omega) 5 (by decide) wf_X2_66 rfl ?_
  refine W.eq (g2 := F0 m 4 ls [.int (nI rk)]) (by rw [hrk]) ?_
  refine lv_aload_n hx hb dX2_basisCount_4 rfl (lv_at hl 0 rfl) ?_
  refine lv_aload_n hx hb dX2_basisCount_5 rfl (lv_at hl 0 rfl) ?_
  refine fl_get2 X hI dX2_basisCount_6 (by omega) 1 (by decide) wf_X2_33 rfl ?_
  refine W.eq (g2 := F0 m 9 ls [.int (nI eq), .ref (ad 30), .int (nI rk)]) (by rw [he]) ?_
  refine fl_callV (k := 30) (As := [.int (nI eq)]) (rest := [.int (nI rk)]) X hI dX2_basisCount_9 (m_X2_before D dA ad N I J hN hrk hrk8 (by omega) hld) (by omega) fl_c_6 rfl rfl wc_yX2_before wm_X2_72 wi_yX2_before wl_yX2_before wn_X2 hd_yX2_before rfl ⟨by first | decide | omega, by first | decide | omega⟩ hl.1 (Nat.le_of_ble_eq_true rfl) (fun v I2 J2 H locs hp hI => ?_)
  obtain ⟨hv, hI2, hJ2⟩ := hp
  subst hv
  rw [hI2, hJ2] at hI
  refine W.eq (g2 := F0 m 12 ls [.int (nI (k_bef I eq rk 0)), .int (nI rk)]) rfl ?_
  refine fn_isub X dX2_basisCount_12 (by omega) ?_
  exact fl_iret X hr hlk hI dX2_basisCount_13 ⟨rfl, rfl, rfl⟩
theorem m_X2_solve (D : va_G) (dA : Nat → ClassId) (ad : Nat → Nat) (N : Nat) (I : fl_TI) (J : fl_TJ) {fu n eq tp : Nat} {Ir : fl_TI} {Jr : fl_TJ} (hN : 37 ≤ N) (hn : I 30 0 = nI n) (hn4 : n ≤ 4) (he : I 30 1 = nI eq) (he3 : eq ≤ 3) (hk : k_R fu n eq I J Ir Jr tp) : FM yX2_solve cX2_solve 1 (some .int) 5 D dA ad N [.ref (ad 30)] I J (fun v I' J' => v = some (.int (if (k_goes n eq tp Ir Jr).1 = 0 then -1 else nI (tp - k_bef Ir eq tp 0))) ∧ I' = Ir ∧ J' = (k_goes n eq tp Ir Jr).2) := by
  refine FM.ofW RX2 rfl (by decide +kernel) (Nat.le_of_ble_eq_true rfl) ?_
  intro p l e s m args below meth c ls X hr hlk hI hl
  have hx := X.1
  have hb := X.2.1
  have hl : lv_has ls 1 [(0, .ref (ad 30))] := hl
  obtain ⟨k1, k2, k3, k4⟩ := k_R_facts (by omega) hk
  have k5 := hk.choose_spec.2.2
  have kn : Ir 30 0 = nI n := by rw [k4 30 0 (by omega) (by omega)]; exact hn
  have ke : Ir 30 1 = nI eq := by rw [k4 30 1 (by omega) (by omega)]; exact he
  have kl : ∀ i, i < tp → Ir 34 i = nI (ldI Ir 34 i) ∧ ldI Ir 34 i < 8 := fun i hi => ⟨(k3 i hi).1, by have := (k3 i hi).2; omega⟩
  obtain ⟨b1, b2, b3⟩ := k_bef_le Ir eq tp 0
  have kg : (k_goes n eq tp Ir Jr).1 ≤ 1 := k_com_le
  refine lv_aload_n hx hb dX2_solve_0 rfl (lv_at hl 0 rfl) ?_
  refine lv_aload_n hx hb dX2_solve_1 rfl (lv_at hl 0 rfl) ?_
  refine fl_get2 X hI dX2_solve_2 (by omega) 1 (by decide) wf_X2_33 rfl ?_
  refine W.eq (g2 := F0 m 5 ls [.int (nI eq), .ref (ad 30)]) (by rw [he]) ?_
  refine fl_callV (k := 30) (As := [.int (nI eq)]) (rest := []) X hI dX2_solve_5 (m_X2_goes D dA ad N I J hN hn hn4 he3 hk) (by omega) fl_c_6 rfl rfl wc_yX2_goes wm_X2_83 wi_yX2_goes wl_yX2_goes wn_X2 hd_yX2_goes rfl ⟨by first | decide | omega, by first | decide | omega⟩ hl.1 (Nat.le_of_ble_eq_true rfl) (fun v I2 J2 H locs hp hI => ?_)
  obtain ⟨hv, hI2, hJ2⟩ := hp
  subst hv
  rw [hI2, hJ2] at hI
  refine W.eq (g2 := F0 m 8 ls [.int (nI ((k_goes n eq tp Ir Jr).1))]) rfl ?_
  refine fn_if_eq X (tgt := 18) dX2_solve_8 (by decide) (by omega) (fun c1 => ?_) (fun c1 => ?_)
  · refine lv_iconst (v := (-1)) hx hb dX2_solve_18 (by decide) ?_
    exact fl_iret X hr hlk hI dX2_solve_19 ⟨by first | rw [if_pos c1] | rw [if_neg (by omega)], rfl, rfl⟩
  · refine lv_aload_n hx hb dX2_solve_11 rfl (lv_at hl 0 rfl) ?_
    refine fl_callV (k := 30) (As := []) (rest := []) X hI dX2_solve_12 (m_X2_basisCount D dA ad N Ir ((k_goes n eq tp Ir Jr).2) hN ke he3 k2 (by omega) kl) (by omega) fl_c_6 rfl rfl wc_yX2_basisCount wm_X2_86 wi_yX2_basisCount wl_yX2_basisCount wn_X2 hd_yX2_basisCount rfl ⟨by first | decide | omega, by first | decide | omega⟩ hl.1 (Nat.le_of_ble_eq_true rfl) (fun v I2 J2 H locs hp hI => ?_)
    obtain ⟨hv, hI2, hJ2⟩ := hp
    subst hv
    rw [hI2, hJ2] at hI
    refine W.eq (g2 := F0 m 15 ls [.int (nI (tp - k_bef Ir eq tp 0))]) rfl ?_
    refine lv_goto (tgt := 19) hx hb dX2_solve_15 (by decide) ?_
    exact fl_iret X hr hlk hI dX2_solve_19 ⟨by first | rw [if_pos c1] | rw [if_neg (by omega)], rfl, rfl⟩
theorem m_X2_basis_bad (D : va_G) (dA : Nat → ClassId) (ad : Nat → Nat) (N : Nat) (I : fl_TI) (J : fl_TJ) {fu n eq tp : Nat} {Ir : fl_TI} {Jr : fl_TJ} (hN : 37 ≤ N) (hn : I 30 0 = nI n) (hn4 : n ≤ 4) (he : I 30 1 = nI eq) (he3 : eq ≤ 3) (hk : k_R fu n eq I J Ir Jr tp) {x y : Int32} (hbad : ¬ (¬ x < 0 ∧ ¬ nI (tp - k_bef Ir eq tp 0) ≤ x ∧ ¬ y < 0 ∧ y < nI n)) : FM yX2_basis cX2_basis 3 (some .long) 4 D dA ad N [.ref (ad 30), .int x, .int y] I J (fun v I' J' => v = some (.long (-1000000000000000)) ∧ I' = Ir ∧ J' = Jr) := by
  refine FM.ofW RX2 rfl (by decide +kernel) (Nat.le_of_ble_eq_true rfl) ?_
  intro p l e s m args below meth c ls X hr hlk hI hl
  have hx := X.1
  have hb := X.2.1
  have hl : lv_has ls 3 [(0, .ref (ad 30)), (1, .int x), (2, .int y)] := hl
  obtain ⟨k1, k2, k3, k4⟩ := k_R_facts (by omega) hk
  have k5 := hk.choose_spec.2.2
  have kn : Ir 30 0 = nI n := by rw [k4 30 0 (by omega) (by omega)]; exact hn
  have ke : Ir 30 1 = nI eq := by rw [k4 30 1 (by omega) (by omega)]; exact he
  have kl : ∀ i, i < tp → Ir 34 i = nI (ldI Ir 34 i) ∧ ldI Ir 34 i < 8 := fun i hi => ⟨(k3 i hi).1, by have := (k3 i hi).2; omega⟩
  obtain ⟨b1, b2, b3⟩ := k_bef_le Ir eq tp 0
  refine lv_aload_n hx hb dX2_basis_0 rfl (lv_at hl 0 rfl) ?_
  refine lv_aload_n hx hb dX2_basis_1 rfl (lv_at hl 0 rfl) ?_
  refine fl_get2 X hI dX2_basis_2 (by omega) 1 (by decide) wf_X2_33 rfl ?_
  refine W.eq (g2 := F0 m 5 ls [.int (nI eq), .ref (ad 30)]) (by rw [he]) ?_
  refine fl_callV (k := 30) (As := [.int (nI eq)]) (rest := []) X hI dX2_basis_5 (m_X2_rel D dA ad N I J hN hn hn4 (ea := eq) he3 hk) (by omega) fl_c_6 rfl rfl wc_yX2_relate wm_X2_76 wi_yX2_relate wl_yX2_relate wn_X2 hd_yX2_relate rfl ⟨by first | decide | omega, by first | decide | omega⟩ hl.1 (Nat.le_of_ble_eq_true rfl) (fun v I2 J2 H locs hp hI => ?_)
  obtain ⟨hv, hI2, hJ2⟩ := hp
  subst hv
  rw [hI2, hJ2] at hI
  refine W.eq (g2 := F0 m 8 ls []) rfl ?_
  refine lv_iload_n hx hb dX2_basis_8 rfl (lv_at hl 1 rfl) ?_
  refine lv_if_lt (tgt := 32) hx hb dX2_basis_9 (by decide) (fun c1 => ?_) (fun c1 => ?_)
  · refine W.ldc2 (v := (-1000000000000000)) hx hb X.2.2.2.1 (X.2.2.2.2 _ wk_X2_90) rfl dX2_basis_32 ?_
    refine W.eq (g2 := F0 m 35 ls [.long ((-1000000000000000))]) rfl ?_
    exact fl_lret X hr hlk hI dX2_basis_35 ⟨rfl, rfl, rfl⟩
  · refine lv_iload_n hx hb dX2_basis_12 rfl (lv_at hl 1 rfl) ?_
    refine lv_aload_n hx hb dX2_basis_13 rfl (lv_at hl 0 rfl) ?_
    refine fl_callV (k := 30) (As := []) (rest := [.int x]) X hI dX2_basis_14 (m_X2_basisCount D dA ad N Ir Jr hN ke he3 k2 (by omega) kl) (by omega) fl_c_6 rfl rfl wc_yX2_basisCount wm_X2_86 wi_yX2_basisCount wl_yX2_basisCount wn_X2 hd_yX2_basisCount rfl ⟨by first | decide | omega, by first | decide | omega⟩ hl.1 (Nat.le_of_ble_eq_true rfl) (fun v I2 J2 H locs hp hI => ?_)
    obtain ⟨hv, hI2, hJ2⟩ := hp
    subst hv
    rw [hI2, hJ2] at hI
    refine W.eq (g2 := F0 m 17 ls [.int (nI (tp - k_bef Ir eq tp 0)), .int x]) rfl ?_
    refine lv_icmp_ge (tgt := 32) hx hb dX2_basis_17 (by decide) (fun c2 => ?_) (fun c2 => ?_)
    · refine W.ldc2 (v := (-1000000000000000)) hx hb X.2.2.2.1 (X.2.2.2.2 _ wk_X2_90) rfl dX2_basis_32 ?_
      refine W.eq (g2 := F0 m 35 ls [.long ((-1000000000000000))]) rfl ?_
      exact fl_lret X hr hlk hI dX2_basis_35 ⟨rfl, rfl, rfl⟩
    · refine lv_iload_n hx hb dX2_basis_20 rfl (lv_at hl 2 rfl) ?_
      refine lv_if_lt (tgt := 32) hx hb dX2_basis_21 (by decide) (fun c3 => ?_) (fun c3 => ?_)
      · refine W.ldc2 (v := (-1000000000000000)) hx hb X.2.2.2.1 (X.2.2.2.2 _ wk_X2_90) rfl dX2_basis_32 ?_
        refine W.eq (g2 := F0 m 35 ls [.long ((-1000000000000000))]) rfl ?_
        exact fl_lret X hr hlk hI dX2_basis_35 ⟨rfl, rfl, rfl⟩
      · refine lv_iload_n hx hb dX2_basis_24 rfl (lv_at hl 2 rfl) ?_
        refine lv_aload_n hx hb dX2_basis_25 rfl (lv_at hl 0 rfl) ?_
        refine fl_get2 X hI dX2_basis_26 (by omega) 0 (by decide) wf_X2_7 rfl ?_
        refine W.eq (g2 := F0 m 29 ls [.int (nI n), .int y]) (by rw [kn]) ?_
        refine lv_icmp_lt (tgt := 36) hx hb dX2_basis_29 (by decide) (fun c4 => ?_) (fun c4 => ?_)
        · exact absurd ⟨c1, c2, c3, c4⟩ hbad
        · refine W.ldc2 (v := (-1000000000000000)) hx hb X.2.2.2.1 (X.2.2.2.2 _ wk_X2_90) rfl dX2_basis_32 ?_
          refine W.eq (g2 := F0 m 35 ls [.long ((-1000000000000000))]) rfl ?_
          exact fl_lret X hr hlk hI dX2_basis_35 ⟨rfl, rfl, rfl⟩
theorem m_X2_basis (D : va_G) (dA : Nat → ClassId) (ad : Nat → Nat) (N : Nat) (I : fl_TI) (J : fl_TJ) {fu n eq tp : Nat} {Ir : fl_TI} {Jr : fl_TJ} (hN : 37 ≤ N) (hn : I 30 0 = nI n) (hn4 : n ≤ 4) (he : I 30 1 = nI eq) (he3 : eq ≤ 3) (hk : k_R fu n eq I J Ir Jr tp) {i j : Nat} (hi : i < tp - k_bef Ir eq tp 0) (hj : j < n) : FM yX2_basis cX2_basis 3 (some .long) 4 D dA ad N [.ref (ad 30), .int (nI i), .int (nI j)] I J (fun v I' J' => v = some (.long (Jr 33 (8 * (k_bef Ir eq tp 0 + i) + eq + j))) ∧ I' = Ir ∧ J' = Jr) := by
  refine FM.ofW RX2 rfl (by decide +kernel) (Nat.le_of_ble_eq_true rfl) ?_
  intro p l e s m args below meth c ls X hr hlk hI hl
  have hx := X.1
  have hb := X.2.1
  have hl : lv_has ls 3 [(0, .ref (ad 30)), (1, .int (nI i)), (2, .int (nI j))] := hl
  obtain ⟨k1, k2, k3, k4⟩ := k_R_facts (by omega) hk
  have k5 := hk.choose_spec.2.2
  have kn : Ir 30 0 = nI n := by rw [k4 30 0 (by omega) (by omega)]; exact hn
  have ke : Ir 30 1 = nI eq := by rw [k4 30 1 (by omega) (by omega)]; exact he
  have kl : ∀ i, i < tp → Ir 34 i = nI (ldI Ir 34 i) ∧ ldI Ir 34 i < 8 := fun i hi => ⟨(k3 i hi).1, by have := (k3 i hi).2; omega⟩
  obtain ⟨b1, b2, b3⟩ := k_bef_le Ir eq tp 0
  refine lv_aload_n hx hb dX2_basis_0 rfl (lv_at hl 0 rfl) ?_
  refine lv_aload_n hx hb dX2_basis_1 rfl (lv_at hl 0 rfl) ?_
  refine fl_get2 X hI dX2_basis_2 (by omega) 1 (by decide) wf_X2_33 rfl ?_
  refine W.eq (g2 := F0 m 5 ls [.int (nI eq), .ref (ad 30)]) (by rw [he]) ?_
  refine fl_callV (k := 30) (As := [.int (nI eq)]) (rest := []) X hI dX2_basis_5 (m_X2_rel D dA ad N I J hN hn hn4 (ea := eq) he3 hk) (by omega) fl_c_6 rfl rfl wc_yX2_relate wm_X2_76 wi_yX2_relate wl_yX2_relate wn_X2 hd_yX2_relate rfl ⟨by first | decide | omega, by first | decide | omega⟩ hl.1 (Nat.le_of_ble_eq_true rfl) (fun v I2 J2 H locs hp hI => ?_)
  obtain ⟨hv, hI2, hJ2⟩ := hp
  subst hv
  rw [hI2, hJ2] at hI
  refine W.eq (g2 := F0 m 8 ls []) rfl ?_
  refine lv_iload_n hx hb dX2_basis_8 rfl (lv_at hl 1 rfl) ?_
  refine lv_if_lt (tgt := 32) hx hb dX2_basis_9 (by decide) (fun c1 => absurd c1 (nI_pos (by omega))) (fun c1 => ?_)
  refine lv_iload_n hx hb dX2_basis_12 rfl (lv_at hl 1 rfl) ?_
  refine lv_aload_n hx hb dX2_basis_13 rfl (lv_at hl 0 rfl) ?_
  refine fl_callV (k := 30) (As := []) (rest := [.int (nI i)]) X hI dX2_basis_14 (m_X2_basisCount D dA ad N Ir Jr hN ke he3 k2 (by omega) kl) (by omega) fl_c_6 rfl rfl wc_yX2_basisCount wm_X2_86 wi_yX2_basisCount wl_yX2_basisCount wn_X2 hd_yX2_basisCount rfl ⟨by first | decide | omega, by first | decide | omega⟩ hl.1 (Nat.le_of_ble_eq_true rfl) (fun v I2 J2 H locs hp hI => ?_)
  obtain ⟨hv, hI2, hJ2⟩ := hp
  subst hv
  rw [hI2, hJ2] at hI
  refine W.eq (g2 := F0 m 17 ls [.int (nI (tp - k_bef Ir eq tp 0)), .int (nI i)]) rfl ?_
  refine fn_icmp_ge X (tgt := 32) dX2_basis_17 (by decide) (by omega) (by omega) (fun c2 => absurd c2 (by omega)) (fun c2 => ?_)
  refine lv_iload_n hx hb dX2_basis_20 rfl (lv_at hl 2 rfl) ?_
  refine lv_if_lt (tgt := 32) hx hb dX2_basis_21 (by decide) (fun c3 => absurd c3 (nI_pos (by omega))) (fun c3 => ?_)
  refine lv_iload_n hx hb dX2_basis_24 rfl (lv_at hl 2 rfl) ?_
  refine lv_aload_n hx hb dX2_basis_25 rfl (lv_at hl 0 rfl) ?_
  refine fl_get2 X hI dX2_basis_26 (by omega) 0 (by decide) wf_X2_7 rfl ?_
  refine W.eq (g2 := F0 m 29 ls [.int (nI n), .int (nI j)]) (by rw [kn]) ?_
  refine fn_icmp_lt X (tgt := 36) dX2_basis_29 (by decide) (by omega) (by omega) (fun c4 => ?_) (fun c4 => absurd c4 (by omega))
  refine lv_aload_n hx hb dX2_basis_36 rfl (lv_at hl 0 rfl) ?_
  refine fl_get2 X hI dX2_basis_37 (by omega) 4 (by decide) wf_X2_20 rfl ?_
  refine lv_bipush (v := nI 8) hx hb dX2_basis_40 (by decide) ?_
  refine lv_aload_n hx hb dX2_basis_42 rfl (lv_at hl 0 rfl) ?_
  refine lv_aload_n hx hb dX2_basis_43 rfl (lv_at hl 0 rfl) ?_
  refine fl_get2 X hI dX2_basis_44 (by omega) 1 (by decide) wf_X2_33 rfl ?_
  refine W.eq (g2 := F0 m 47 ls [.int (nI eq), .ref (ad 30), .int (nI 8), .ref (ad 33)]) (by rw [ke]) ?_
  refine fl_callV (k := 30) (As := [.int (nI eq)]) (rest := [.int (nI 8), .ref (ad 33)]) X hI dX2_basis_47 (m_X2_before D dA ad N Ir Jr hN k2 (by omega) (by omega) kl) (by omega) fl_c_6 rfl rfl wc_yX2_before wm_X2_72 wi_yX2_before wl_yX2_before wn_X2 hd_yX2_before rfl ⟨by first | decide | omega, by first | decide | omega⟩ hl.1 (Nat.le_of_ble_eq_true rfl) (fun v I2 J2 H locs hp hI => ?_)
  obtain ⟨hv, hI2, hJ2⟩ := hp
  subst hv
  rw [hI2, hJ2] at hI
  refine W.eq (g2 := F0 m 50 ls [.int (nI (k_bef Ir eq tp 0)), .int (nI 8), .ref (ad 33)]) rfl ?_
  refine lv_iload_n hx hb dX2_basis_50 rfl (lv_at hl 1 rfl) ?_
  refine fn_iadd X dX2_basis_51 ?_
  refine fn_imul X dX2_basis_52 ?_
  refine lv_aload_n hx hb dX2_basis_53 rfl (lv_at hl 0 rfl) ?_
  refine fl_get2 X hI dX2_basis_54 (by omega) 1 (by decide) wf_X2_33 rfl ?_
  refine W.eq (g2 := F0 m 57 ls [.int (nI eq), .int (nI (8 * ((k_bef Ir eq tp 0) + i))), .ref (ad 33)]) (by rw [ke]) ?_
  refine fn_iadd X dX2_basis_57 ?_
  refine lv_iload_n hx hb dX2_basis_58 rfl (lv_at hl 2 rfl) ?_
  refine fn_iadd X dX2_basis_59 ?_
  refine fn_lald (k := 33) X hI dX2_basis_60 (by omega) rfl (show ((8 * ((k_bef Ir eq tp 0) + i)) + eq) + j < 64 by omega) ?_
  exact fl_lret X hr hlk hI dX2_basis_61 ⟨rfl, rfl, rfl⟩
theorem m_X2_reach_bad (D : va_G) (dA : Nat → ClassId) (ad : Nat → Nat) (N : Nat) (I : fl_TI) (J : fl_TJ) {fu n eq tp : Nat} {Ir : fl_TI} {Jr : fl_TJ} (hN : 37 ≤ N) (hn : I 30 0 = nI n) (hn4 : n ≤ 4) (he : I 30 1 = nI eq) (he3 : eq ≤ 3) (hk : k_R fu n eq I J Ir Jr tp) {x y : Int32} (hbad : ¬ (¬ x < 0 ∧ ¬ nI (k_bef Ir eq tp 0) ≤ x ∧ ¬ y < 0 ∧ y < nI eq)) : FM yX2_reach cX2_reach 3 (some .long) 4 D dA ad N [.ref (ad 30), .int x, .int y] I J (fun v I' J' => v = some (.long (-1000000000000000)) ∧ I' = Ir ∧ J' = Jr) := by
  refine FM.ofW RX2 rfl (by decide +kernel) (Nat.le_of_ble_eq_true rfl) ?_
  intro p l e s m args below meth c ls X hr hlk hI hl
  have hx := X.1
  have hb := X.2.1
  have hl : lv_has ls 3 [(0, .ref (ad 30)), (1, .int x), (2, .int y)] := hl
  obtain ⟨k1, k2, k3, k4⟩ := k_R_facts (by omega) hk
  have k5 := hk.choose_spec.2.2
  have kn : Ir 30 0 = nI n := by rw [k4 30 0 (by omega) (by omega)]; exact hn
  have ke : Ir 30 1 = nI eq := by rw [k4 30 1 (by omega) (by omega)]; exact he
  have kl : ∀ i, i < tp → Ir 34 i = nI (ldI Ir 34 i) ∧ ldI Ir 34 i < 8 := fun i hi => ⟨(k3 i hi).1, by have := (k3 i hi).2; omega⟩
  obtain ⟨b1, b2, b3⟩ := k_bef_le Ir eq tp 0
  refine lv_aload_n hx hb dX2_reach_0 rfl (lv_at hl 0 rfl) ?_
  refine lv_aload_n hx hb dX2_reach_1 rfl (lv_at hl 0 rfl) ?_
  refine fl_get2 X hI dX2_reach_2 (by omega) 1 (by decide) wf_X2_33 rfl ?_
  refine W.eq (g2 := F0 m 5 ls [.int (nI eq), .ref (ad 30)]) (by rw [he]) ?_
  refine fl_callV (k := 30) (As := [.int (nI eq)]) (rest := []) X hI dX2_reach_5 (m_X2_rel D dA ad N I J hN hn hn4 (ea := eq) he3 hk) (by omega) fl_c_6 rfl rfl wc_yX2_relate wm_X2_76 wi_yX2_relate wl_yX2_relate wn_X2 hd_yX2_relate rfl ⟨by first | decide | omega, by first | decide | omega⟩ hl.1 (Nat.le_of_ble_eq_true rfl) (fun v I2 J2 H locs hp hI => ?_)
  obtain ⟨hv, hI2, hJ2⟩ := hp
  subst hv
  rw [hI2, hJ2] at hI
  refine W.eq (g2 := F0 m 8 ls []) rfl ?_
  refine lv_iload_n hx hb dX2_reach_8 rfl (lv_at hl 1 rfl) ?_
  refine lv_if_lt (tgt := 36) hx hb dX2_reach_9 (by decide) (fun c1 => ?_) (fun c1 => ?_)
  · refine W.ldc2 (v := (-1000000000000000)) hx hb X.2.2.2.1 (X.2.2.2.2 _ wk_X2_90) rfl dX2_reach_36 ?_
    refine W.eq (g2 := F0 m 39 ls [.long ((-1000000000000000))]) rfl ?_
    exact fl_lret X hr hlk hI dX2_reach_39 ⟨rfl, rfl, rfl⟩
  · refine lv_iload_n hx hb dX2_reach_12 rfl (lv_at hl 1 rfl) ?_
    refine lv_aload_n hx hb dX2_reach_13 rfl (lv_at hl 0 rfl) ?_
    refine lv_aload_n hx hb dX2_reach_14 rfl (lv_at hl 0 rfl) ?_
    refine fl_get2 X hI dX2_reach_15 (by omega) 1 (by decide) wf_X2_33 rfl ?_
    refine W.eq (g2 := F0 m 18 ls [.int (nI eq), .ref (ad 30), .int x]) (by rw [ke]) ?_
    refine fl_callV (k := 30) (As := [.int (nI eq)]) (rest := [.int x]) X hI dX2_reach_18 (m_X2_before D dA ad N Ir Jr hN k2 (by omega) (by omega) kl) (by omega) fl_c_6 rfl rfl wc_yX2_before wm_X2_72 wi_yX2_before wl_yX2_before wn_X2 hd_yX2_before rfl ⟨by first | decide | omega, by first | decide | omega⟩ hl.1 (Nat.le_of_ble_eq_true rfl) (fun v I2 J2 H locs hp hI => ?_)
    obtain ⟨hv, hI2, hJ2⟩ := hp
    subst hv
    rw [hI2, hJ2] at hI
    refine W.eq (g2 := F0 m 21 ls [.int (nI (k_bef Ir eq tp 0)), .int x]) rfl ?_
    refine lv_icmp_ge (tgt := 36) hx hb dX2_reach_21 (by decide) (fun c2 => ?_) (fun c2 => ?_)
    · refine W.ldc2 (v := (-1000000000000000)) hx hb X.2.2.2.1 (X.2.2.2.2 _ wk_X2_90) rfl dX2_reach_36 ?_
      refine W.eq (g2 := F0 m 39 ls [.long ((-1000000000000000))]) rfl ?_
      exact fl_lret X hr hlk hI dX2_reach_39 ⟨rfl, rfl, rfl⟩
    · refine lv_iload_n hx hb dX2_reach_24 rfl (lv_at hl 2 rfl) ?_
      refine lv_if_lt (tgt := 36) hx hb dX2_reach_25 (by decide) (fun c3 => ?_) (fun c3 => ?_)
      · refine W.ldc2 (v := (-1000000000000000)) hx hb X.2.2.2.1 (X.2.2.2.2 _ wk_X2_90) rfl dX2_reach_36 ?_
        refine W.eq (g2 := F0 m 39 ls [.long ((-1000000000000000))]) rfl ?_
        exact fl_lret X hr hlk hI dX2_reach_39 ⟨rfl, rfl, rfl⟩
      · refine lv_iload_n hx hb dX2_reach_28 rfl (lv_at hl 2 rfl) ?_
        refine lv_aload_n hx hb dX2_reach_29 rfl (lv_at hl 0 rfl) ?_
        refine fl_get2 X hI dX2_reach_30 (by omega) 1 (by decide) wf_X2_33 rfl ?_
        refine W.eq (g2 := F0 m 33 ls [.int (nI eq), .int y]) (by rw [ke]) ?_
        refine lv_icmp_lt (tgt := 40) hx hb dX2_reach_33 (by decide) (fun c4 => ?_) (fun c4 => ?_)
        · exact absurd ⟨c1, c2, c3, c4⟩ hbad
        · refine W.ldc2 (v := (-1000000000000000)) hx hb X.2.2.2.1 (X.2.2.2.2 _ wk_X2_90) rfl dX2_reach_36 ?_
          refine W.eq (g2 := F0 m 39 ls [.long ((-1000000000000000))]) rfl ?_
          exact fl_lret X hr hlk hI dX2_reach_39 ⟨rfl, rfl, rfl⟩
theorem m_X2_reach (D : va_G) (dA : Nat → ClassId) (ad : Nat → Nat) (N : Nat) (I : fl_TI) (J : fl_TJ) {fu n eq tp : Nat} {Ir : fl_TI} {Jr : fl_TJ} (hN : 37 ≤ N) (hn : I 30 0 = nI n) (hn4 : n ≤ 4) (he : I 30 1 = nI eq) (he3 : eq ≤ 3) (hk : k_R fu n eq I J Ir Jr tp) {i j : Nat} (hi : i < k_bef Ir eq tp 0) (hj : j < eq) : FM yX2_reach cX2_reach 3 (some .long) 4 D dA ad N [.ref (ad 30), .int (nI i), .int (nI j)] I J (fun v I' J' => v = some (.long (Jr 33 (8 * i + j))) ∧ I' = Ir ∧ J' = Jr) := by
  refine FM.ofW RX2 rfl (by decide +kernel) (Nat.le_of_ble_eq_true rfl) ?_
  intro p l e s m args below meth c ls X hr hlk hI hl
  have hx := X.1
  have hb := X.2.1
  have hl : lv_has ls 3 [(0, .ref (ad 30)), (1, .int (nI i)), (2, .int (nI j))] := hl
  obtain ⟨k1, k2, k3, k4⟩ := k_R_facts (by omega) hk
  have k5 := hk.choose_spec.2.2
  have kn : Ir 30 0 = nI n := by rw [k4 30 0 (by omega) (by omega)]; exact hn
  have ke : Ir 30 1 = nI eq := by rw [k4 30 1 (by omega) (by omega)]; exact he
  have kl : ∀ i, i < tp → Ir 34 i = nI (ldI Ir 34 i) ∧ ldI Ir 34 i < 8 := fun i hi => ⟨(k3 i hi).1, by have := (k3 i hi).2; omega⟩
  obtain ⟨b1, b2, b3⟩ := k_bef_le Ir eq tp 0
  refine lv_aload_n hx hb dX2_reach_0 rfl (lv_at hl 0 rfl) ?_
  refine lv_aload_n hx hb dX2_reach_1 rfl (lv_at hl 0 rfl) ?_
  refine fl_get2 X hI dX2_reach_2 (by omega) 1 (by decide) wf_X2_33 rfl ?_
  refine W.eq (g2 := F0 m 5 ls [.int (nI eq), .ref (ad 30)]) (by rw [he]) ?_
  refine fl_callV (k := 30) (As := [.int (nI eq)]) (rest := []) X hI dX2_reach_5 (m_X2_rel D dA ad N I J hN hn hn4 (ea := eq) he3 hk) (by omega) fl_c_6 rfl rfl wc_yX2_relate wm_X2_76 wi_yX2_relate wl_yX2_relate wn_X2 hd_yX2_relate rfl ⟨by first | decide | omega, by first | decide | omega⟩ hl.1 (Nat.le_of_ble_eq_true rfl) (fun v I2 J2 H locs hp hI => ?_)
  obtain ⟨hv, hI2, hJ2⟩ := hp
  subst hv
  rw [hI2, hJ2] at hI
  refine W.eq (g2 := F0 m 8 ls []) rfl ?_
  refine lv_iload_n hx hb dX2_reach_8 rfl (lv_at hl 1 rfl) ?_
  refine lv_if_lt (tgt := 36) hx hb dX2_reach_9 (by decide) (fun c1 => absurd c1 (nI_pos (by omega))) (fun c1 => ?_)
  refine lv_iload_n hx hb dX2_reach_12 rfl (lv_at hl 1 rfl) ?_
  refine lv_aload_n hx hb dX2_reach_13 rfl (lv_at hl 0 rfl) ?_
  refine lv_aload_n hx hb dX2_reach_14 rfl (lv_at hl 0 rfl) ?_
  refine fl_get2 X hI dX2_reach_15 (by omega) 1 (by decide) wf_X2_33 rfl ?_
  refine W.eq (g2 := F0 m 18 ls [.int (nI eq), .ref (ad 30), .int (nI i)]) (by rw [ke]) ?_
  refine fl_callV (k := 30) (As := [.int (nI eq)]) (rest := [.int (nI i)]) X hI dX2_reach_18 (m_X2_before D dA ad N Ir Jr hN k2 (by omega) (by omega) kl) (by omega) fl_c_6 rfl rfl wc_yX2_before wm_X2_72 wi_yX2_before wl_yX2_before wn_X2 hd_yX2_before rfl ⟨by first | decide | omega, by first | decide | omega⟩ hl.1 (Nat.le_of_ble_eq_true rfl) (fun v I2 J2 H locs hp hI => ?_)
  obtain ⟨hv, hI2, hJ2⟩ := hp
  subst hv
  rw [hI2, hJ2] at hI
  refine W.eq (g2 := F0 m 21 ls [.int (nI (k_bef Ir eq tp 0)), .int (nI i)]) rfl ?_
  refine fn_icmp_ge X (tgt := 36) dX2_reach_21 (by decide) (by omega) (by omega) (fun c2 => absurd c2 (by omega)) (fun c2 => ?_)
  refine lv_iload_n hx hb dX2_reach_24 rfl (lv_at hl 2 rfl) ?_
  refine lv_if_lt (tgt := 36) hx hb dX2_reach_25 (by decide) (fun c3 => absurd c3 (nI_pos (by omega))) (fun c3 => ?_)
  refine lv_iload_n hx hb dX2_reach_28 rfl (lv_at hl 2 rfl) ?_
  refine lv_aload_n hx hb dX2_reach_29 rfl (lv_at hl 0 rfl) ?_
  refine fl_get2 X hI dX2_reach_30 (by omega) 1 (by decide) wf_X2_33 rfl ?_
  refine W.eq (g2 := F0 m 33 ls [.int (nI eq), .int (nI j)]) (by rw [ke]) ?_
  refine fn_icmp_lt X (tgt := 40) dX2_reach_33 (by decide) (by omega) (by omega) (fun c4 => ?_) (fun c4 => absurd c4 (by omega))
  refine lv_aload_n hx hb dX2_reach_40 rfl (lv_at hl 0 rfl) ?_
  refine fl_get2 X hI dX2_reach_41 (by omega) 4 (by decide) wf_X2_20 rfl ?_
  refine lv_bipush (v := nI 8) hx hb dX2_reach_44 (by decide) ?_
  refine lv_iload_n hx hb dX2_reach_46 rfl (lv_at hl 1 rfl) ?_
  refine fn_imul X dX2_reach_47 ?_
  refine lv_iload_n hx hb dX2_reach_48 rfl (lv_at hl 2 rfl) ?_
  refine fn_iadd X dX2_reach_49 ?_
  refine fn_lald (k := 33) X hI dX2_reach_50 (by omega) rfl (show (8 * i) + j < 64 by omega) ?_
  exact fl_lret X hr hlk hI dX2_reach_51 ⟨rfl, rfl, rfl⟩
theorem m_X2_count0 (D : va_G) (dA : Nat → ClassId) (ad : Nat → Nat) (N : Nat) (I : fl_TI) (J : fl_TJ) {fu n eq tp : Nat} {Ir : fl_TI} {Jr : fl_TJ} (hN : 37 ≤ N) (hn : I 30 0 = nI n) (hn4 : n ≤ 4) (he : I 30 1 = nI eq) (he3 : eq ≤ 3) (hk : k_R fu n eq I J Ir Jr tp) : FM yX2_count cX2_count 2 (some .int) 4 D dA ad N [.ref (ad 30), .int (nI 0)] I J (fun v I' J' => v = some (.int (nI (k_bef Ir eq tp 0))) ∧ I' = Ir ∧ J' = Jr) := by
  refine FM.ofW RX2 rfl (by decide +kernel) (Nat.le_of_ble_eq_true rfl) ?_
  intro p l e s m args below meth c ls X hr hlk hI hl
  have hx := X.1
  have hb := X.2.1
  have hl : lv_has ls 2 [(0, .ref (ad 30)), (1, .int (nI 0))] := hl
  obtain ⟨k1, k2, k3, k4⟩ := k_R_facts (by omega) hk
  have k5 := hk.choose_spec.2.2
  have kn : Ir 30 0 = nI n := by rw [k4 30 0 (by omega) (by omega)]; exact hn
  have ke : Ir 30 1 = nI eq := by rw [k4 30 1 (by omega) (by omega)]; exact he
  have kl : ∀ i, i < tp → Ir 34 i = nI (ldI Ir 34 i) ∧ ldI Ir 34 i < 8 := fun i hi => ⟨(k3 i hi).1, by have := (k3 i hi).2; omega⟩
  obtain ⟨b1, b2, b3⟩ := k_bef_le Ir eq tp 0
  refine lv_aload_n hx hb dX2_count_0 rfl (lv_at hl 0 rfl) ?_
  refine lv_aload_n hx hb dX2_count_1 rfl (lv_at hl 0 rfl) ?_
  refine fl_get2 X hI dX2_count_2 (by omega) 1 (by decide) wf_X2_33 rfl ?_
  refine W.eq (g2 := F0 m 5 ls [.int (nI eq), .ref (ad 30)]) (by rw [he]) ?_
  refine fl_callV (k := 30) (As := [.int (nI eq)]) (rest := []) X hI dX2_count_5 (m_X2_rel D dA ad N I J hN hn hn4 (ea := eq) he3 hk) (by omega) fl_c_6 rfl rfl wc_yX2_relate wm_X2_76 wi_yX2_relate wl_yX2_relate wn_X2 hd_yX2_relate rfl ⟨by first | decide | omega, by first | decide | omega⟩ hl.1 (Nat.le_of_ble_eq_true rfl) (fun v I2 J2 H locs hp hI => ?_)
  obtain ⟨hv, hI2, hJ2⟩ := hp
  subst hv
  rw [hI2, hJ2] at hI
  refine W.eq (g2 := F0 m 8 ls []) rfl ?_
  refine lv_iload_n hx hb dX2_count_8 rfl (lv_at hl 1 rfl) ?_
  refine fn_if_ne X (tgt := 23) dX2_count_9 (by decide) (by omega) (fun c1 => absurd c1 (by omega)) (fun c1 => ?_)
  refine lv_aload_n hx hb dX2_count_12 rfl (lv_at hl 0 rfl) ?_
  refine lv_aload_n hx hb dX2_count_13 rfl (lv_at hl 0 rfl) ?_
  refine fl_get2 X hI dX2_count_14 (by omega) 1 (by decide) wf_X2_33 rfl ?_
  refine W.eq (g2 := F0 m 17 ls [.int (nI eq), .ref (ad 30)]) (by rw [ke]) ?_
  refine fl_callV (k := 30) (As := [.int (nI eq)]) (rest := []) X hI dX2_count_17 (m_X2_before D dA ad N Ir Jr hN k2 (by omega) (by omega) kl) (by omega) fl_c_6 rfl rfl wc_yX2_before wm_X2_72 wi_yX2_before wl_yX2_before wn_X2 hd_yX2_before rfl ⟨by first | decide | omega, by first | decide | omega⟩ hl.1 (Nat.le_of_ble_eq_true rfl) (fun v I2 J2 H locs hp hI => ?_)
  obtain ⟨hv, hI2, hJ2⟩ := hp
  subst hv
  rw [hI2, hJ2] at hI
  refine W.eq (g2 := F0 m 20 ls [.int (nI (k_bef Ir eq tp 0))]) rfl ?_
  refine lv_goto (tgt := 60) hx hb dX2_count_20 (by decide) ?_
  exact fl_iret X hr hlk hI dX2_count_60 ⟨rfl, rfl, rfl⟩
theorem m_X2_count1 (D : va_G) (dA : Nat → ClassId) (ad : Nat → Nat) (N : Nat) (I : fl_TI) (J : fl_TJ) {fu n eq tp : Nat} {Ir : fl_TI} {Jr : fl_TJ} (hN : 37 ≤ N) (hn : I 30 0 = nI n) (hn4 : n ≤ 4) (he : I 30 1 = nI eq) (he3 : eq ≤ 3) (hk : k_R fu n eq I J Ir Jr tp) : FM yX2_count cX2_count 2 (some .int) 4 D dA ad N [.ref (ad 30), .int (nI 1)] I J (fun v I' J' => v = some (.int (nI (tp - k_bef Ir eq tp 0))) ∧ I' = Ir ∧ J' = Jr) := by
  refine FM.ofW RX2 rfl (by decide +kernel) (Nat.le_of_ble_eq_true rfl) ?_
  intro p l e s m args below meth c ls X hr hlk hI hl
  have hx := X.1
  have hb := X.2.1
  have hl : lv_has ls 2 [(0, .ref (ad 30)), (1, .int (nI 1))] := hl
  obtain ⟨k1, k2, k3, k4⟩ := k_R_facts (by omega) hk
  have k5 := hk.choose_spec.2.2
  have kn : Ir 30 0 = nI n := by rw [k4 30 0 (by omega) (by omega)]; exact hn
  have ke : Ir 30 1 = nI eq := by rw [k4 30 1 (by omega) (by omega)]; exact he
  have kl : ∀ i, i < tp → Ir 34 i = nI (ldI Ir 34 i) ∧ ldI Ir 34 i < 8 := fun i hi => ⟨(k3 i hi).1, by have := (k3 i hi).2; omega⟩
  obtain ⟨b1, b2, b3⟩ := k_bef_le Ir eq tp 0
  refine lv_aload_n hx hb dX2_count_0 rfl (lv_at hl 0 rfl) ?_
  refine lv_aload_n hx hb dX2_count_1 rfl (lv_at hl 0 rfl) ?_
  refine fl_get2 X hI dX2_count_2 (by omega) 1 (by decide) wf_X2_33 rfl ?_
  refine W.eq (g2 := F0 m 5 ls [.int (nI eq), .ref (ad 30)]) (by rw [he]) ?_
  refine fl_callV (k := 30) (As := [.int (nI eq)]) (rest := []) X hI dX2_count_5 (m_X2_rel D dA ad N I J hN hn hn4 (ea := eq) he3 hk) (by omega) fl_c_6 rfl rfl wc_yX2_relate wm_X2_76 wi_yX2_relate wl_yX2_relate wn_X2 hd_yX2_relate rfl ⟨by first | decide | omega, by first | decide | omega⟩ hl.1 (Nat.le_of_ble_eq_true rfl) (fun v I2 J2 H locs hp hI => ?_)
  obtain ⟨hv, hI2, hJ2⟩ := hp
  subst hv
  rw [hI2, hJ2] at hI
  refine W.eq (g2 := F0 m 8 ls []) rfl ?_
  refine lv_iload_n hx hb dX2_count_8 rfl (lv_at hl 1 rfl) ?_
  refine fn_if_ne X (tgt := 23) dX2_count_9 (by decide) (by omega) (fun c1 => ?_) (fun c1 => absurd c1 (by omega))
  refine lv_iload_n hx hb dX2_count_23 rfl (lv_at hl 1 rfl) ?_
  refine lv_iconst (v := nI 1) hx hb dX2_count_24 (by decide) ?_
  refine fn_icmp_ne X (tgt := 35) dX2_count_25 (by decide) (by omega) (by omega) (fun c2 => absurd c2 (by omega)) (fun c2 => ?_)
  refine lv_aload_n hx hb dX2_count_28 rfl (lv_at hl 0 rfl) ?_
  refine fl_callV (k := 30) (As := []) (rest := []) X hI dX2_count_29 (m_X2_basisCount D dA ad N Ir Jr hN ke he3 k2 (by omega) kl) (by omega) fl_c_6 rfl rfl wc_yX2_basisCount wm_X2_86 wi_yX2_basisCount wl_yX2_basisCount wn_X2 hd_yX2_basisCount rfl ⟨by first | decide | omega, by first | decide | omega⟩ hl.1 (Nat.le_of_ble_eq_true rfl) (fun v I2 J2 H locs hp hI => ?_)
  obtain ⟨hv, hI2, hJ2⟩ := hp
  subst hv
  rw [hI2, hJ2] at hI
  refine W.eq (g2 := F0 m 32 ls [.int (nI (tp - k_bef Ir eq tp 0))]) rfl ?_
  refine lv_goto (tgt := 60) hx hb dX2_count_32 (by decide) ?_
  exact fl_iret X hr hlk hI dX2_count_60 ⟨rfl, rfl, rfl⟩
theorem m_X2_count2 (D : va_G) (dA : Nat → ClassId) (ad : Nat → Nat) (N : Nat) (I : fl_TI) (J : fl_TJ) {fu n eq tp : Nat} {Ir : fl_TI} {Jr : fl_TJ} (hN : 37 ≤ N) (hn : I 30 0 = nI n) (hn4 : n ≤ 4) (he : I 30 1 = nI eq) (he3 : eq ≤ 3) (hk : k_R fu n eq I J Ir Jr tp) : FM yX2_count cX2_count 2 (some .int) 4 D dA ad N [.ref (ad 30), .int (nI 2)] I J (fun v I' J' => v = some (.int (nI eq)) ∧ I' = Ir ∧ J' = Jr) := by
  refine FM.ofW RX2 rfl (by decide +kernel) (Nat.le_of_ble_eq_true rfl) ?_
  intro p l e s m args below meth c ls X hr hlk hI hl
  have hx := X.1
  have hb := X.2.1
  have hl : lv_has ls 2 [(0, .ref (ad 30)), (1, .int (nI 2))] := hl
  obtain ⟨k1, k2, k3, k4⟩ := k_R_facts (by omega) hk
  have k5 := hk.choose_spec.2.2
  have kn : Ir 30 0 = nI n := by rw [k4 30 0 (by omega) (by omega)]; exact hn
  have ke : Ir 30 1 = nI eq := by rw [k4 30 1 (by omega) (by omega)]; exact he
  have kl : ∀ i, i < tp → Ir 34 i = nI (ldI Ir 34 i) ∧ ldI Ir 34 i < 8 := fun i hi => ⟨(k3 i hi).1, by have := (k3 i hi).2; omega⟩
  obtain ⟨b1, b2, b3⟩ := k_bef_le Ir eq tp 0
  refine lv_aload_n hx hb dX2_count_0 rfl (lv_at hl 0 rfl) ?_
  refine lv_aload_n hx hb dX2_count_1 rfl (lv_at hl 0 rfl) ?_
  refine fl_get2 X hI dX2_count_2 (by omega) 1 (by decide) wf_X2_33 rfl ?_
  refine W.eq (g2 := F0 m 5 ls [.int (nI eq), .ref (ad 30)]) (by rw [he]) ?_
  refine fl_callV (k := 30) (As := [.int (nI eq)]) (rest := []) X hI dX2_count_5 (m_X2_rel D dA ad N I J hN hn hn4 (ea := eq) he3 hk) (by omega) fl_c_6 rfl rfl wc_yX2_relate wm_X2_76 wi_yX2_relate wl_yX2_relate wn_X2 hd_yX2_relate rfl ⟨by first | decide | omega, by first | decide | omega⟩ hl.1 (Nat.le_of_ble_eq_true rfl) (fun v I2 J2 H locs hp hI => ?_)
  obtain ⟨hv, hI2, hJ2⟩ := hp
  subst hv
  rw [hI2, hJ2] at hI
  refine W.eq (g2 := F0 m 8 ls []) rfl ?_
  refine lv_iload_n hx hb dX2_count_8 rfl (lv_at hl 1 rfl) ?_
  refine fn_if_ne X (tgt := 23) dX2_count_9 (by decide) (by omega) (fun c1 => ?_) (fun c1 => absurd c1 (by omega))
  refine lv_iload_n hx hb dX2_count_23 rfl (lv_at hl 1 rfl) ?_
  refine lv_iconst (v := nI 1) hx hb dX2_count_24 (by decide) ?_
  refine fn_icmp_ne X (tgt := 35) dX2_count_25 (by decide) (by omega) (by omega) (fun c2 => ?_) (fun c2 => absurd c2 (by omega))
  refine lv_iload_n hx hb dX2_count_35 rfl (lv_at hl 1 rfl) ?_
  refine lv_iconst (v := nI 2) hx hb dX2_count_36 (by decide) ?_
  refine fn_icmp_ne X (tgt := 47) dX2_count_37 (by decide) (by omega) (by omega) (fun c3 => absurd c3 (by omega)) (fun c3 => ?_)
  refine lv_aload_n hx hb dX2_count_40 rfl (lv_at hl 0 rfl) ?_
  refine fl_get2 X hI dX2_count_41 (by omega) 1 (by decide) wf_X2_33 rfl ?_
  refine W.eq (g2 := F0 m 44 ls [.int (nI eq)]) (by rw [ke]) ?_
  refine lv_goto (tgt := 60) hx hb dX2_count_44 (by decide) ?_
  exact fl_iret X hr hlk hI dX2_count_60 ⟨rfl, rfl, rfl⟩
theorem m_X2_count3 (D : va_G) (dA : Nat → ClassId) (ad : Nat → Nat) (N : Nat) (I : fl_TI) (J : fl_TJ) {fu n eq tp : Nat} {Ir : fl_TI} {Jr : fl_TJ} (hN : 37 ≤ N) (hn : I 30 0 = nI n) (hn4 : n ≤ 4) (he : I 30 1 = nI eq) (he3 : eq ≤ 3) (hk : k_R fu n eq I J Ir Jr tp) : FM yX2_count cX2_count 2 (some .int) 4 D dA ad N [.ref (ad 30), .int (nI 3)] I J (fun v I' J' => v = some (.int (nI n)) ∧ I' = Ir ∧ J' = Jr) := by
  refine FM.ofW RX2 rfl (by decide +kernel) (Nat.le_of_ble_eq_true rfl) ?_
  intro p l e s m args below meth c ls X hr hlk hI hl
  have hx := X.1
  have hb := X.2.1
  have hl : lv_has ls 2 [(0, .ref (ad 30)), (1, .int (nI 3))] := hl
  obtain ⟨k1, k2, k3, k4⟩ := k_R_facts (by omega) hk
  have k5 := hk.choose_spec.2.2
  have kn : Ir 30 0 = nI n := by rw [k4 30 0 (by omega) (by omega)]; exact hn
  have ke : Ir 30 1 = nI eq := by rw [k4 30 1 (by omega) (by omega)]; exact he
  have kl : ∀ i, i < tp → Ir 34 i = nI (ldI Ir 34 i) ∧ ldI Ir 34 i < 8 := fun i hi => ⟨(k3 i hi).1, by have := (k3 i hi).2; omega⟩
  obtain ⟨b1, b2, b3⟩ := k_bef_le Ir eq tp 0
  refine lv_aload_n hx hb dX2_count_0 rfl (lv_at hl 0 rfl) ?_
  refine lv_aload_n hx hb dX2_count_1 rfl (lv_at hl 0 rfl) ?_
  refine fl_get2 X hI dX2_count_2 (by omega) 1 (by decide) wf_X2_33 rfl ?_
  refine W.eq (g2 := F0 m 5 ls [.int (nI eq), .ref (ad 30)]) (by rw [he]) ?_
  refine fl_callV (k := 30) (As := [.int (nI eq)]) (rest := []) X hI dX2_count_5 (m_X2_rel D dA ad N I J hN hn hn4 (ea := eq) he3 hk) (by omega) fl_c_6 rfl rfl wc_yX2_relate wm_X2_76 wi_yX2_relate wl_yX2_relate wn_X2 hd_yX2_relate rfl ⟨by first | decide | omega, by first | decide | omega⟩ hl.1 (Nat.le_of_ble_eq_true rfl) (fun v I2 J2 H locs hp hI => ?_)
  obtain ⟨hv, hI2, hJ2⟩ := hp
  subst hv
  rw [hI2, hJ2] at hI
  refine W.eq (g2 := F0 m 8 ls []) rfl ?_
  refine lv_iload_n hx hb dX2_count_8 rfl (lv_at hl 1 rfl) ?_
  refine fn_if_ne X (tgt := 23) dX2_count_9 (by decide) (by omega) (fun c1 => ?_) (fun c1 => absurd c1 (by omega))
  refine lv_iload_n hx hb dX2_count_23 rfl (lv_at hl 1 rfl) ?_
  refine lv_iconst (v := nI 1) hx hb dX2_count_24 (by decide) ?_
  refine fn_icmp_ne X (tgt := 35) dX2_count_25 (by decide) (by omega) (by omega) (fun c2 => ?_) (fun c2 => absurd c2 (by omega))
  refine lv_iload_n hx hb dX2_count_35 rfl (lv_at hl 1 rfl) ?_
  refine lv_iconst (v := nI 2) hx hb dX2_count_36 (by decide) ?_
  refine fn_icmp_ne X (tgt := 47) dX2_count_37 (by decide) (by omega) (by omega) (fun c3 => ?_) (fun c3 => absurd c3 (by omega))
  refine lv_iload_n hx hb dX2_count_47 rfl (lv_at hl 1 rfl) ?_
  refine lv_iconst (v := nI 3) hx hb dX2_count_48 (by decide) ?_
  refine fn_icmp_ne X (tgt := 59) dX2_count_49 (by decide) (by omega) (by omega) (fun c4 => absurd c4 (by omega)) (fun c4 => ?_)
  refine lv_aload_n hx hb dX2_count_52 rfl (lv_at hl 0 rfl) ?_
  refine fl_get2 X hI dX2_count_53 (by omega) 0 (by decide) wf_X2_7 rfl ?_
  refine W.eq (g2 := F0 m 56 ls [.int (nI n)]) (by rw [kn]) ?_
  refine lv_goto (tgt := 60) hx hb dX2_count_56 (by decide) ?_
  exact fl_iret X hr hlk hI dX2_count_60 ⟨rfl, rfl, rfl⟩
theorem m_X2_count_bad (D : va_G) (dA : Nat → ClassId) (ad : Nat → Nat) (N : Nat) (I : fl_TI) (J : fl_TJ) {fu n eq tp : Nat} {Ir : fl_TI} {Jr : fl_TJ} (hN : 37 ≤ N) (hn : I 30 0 = nI n) (hn4 : n ≤ 4) (he : I 30 1 = nI eq) (he3 : eq ≤ 3) (hk : k_R fu n eq I J Ir Jr tp) {x : Int32} (h0 : ¬ x = 0) (h1 : ¬ x = nI 1) (h2 : ¬ x = nI 2) (h3 : ¬ x = nI 3) : FM yX2_count cX2_count 2 (some .int) 4 D dA ad N [.ref (ad 30), .int x] I J (fun v I' J' => v = some (.int (-1)) ∧ I' = Ir ∧ J' = Jr) := by
  refine FM.ofW RX2 rfl (by decide +kernel) (Nat.le_of_ble_eq_true rfl) ?_
  intro p l e s m args below meth c ls X hr hlk hI hl
  have hx := X.1
  have hb := X.2.1
  have hl : lv_has ls 2 [(0, .ref (ad 30)), (1, .int x)] := hl
  obtain ⟨k1, k2, k3, k4⟩ := k_R_facts (by omega) hk
  have k5 := hk.choose_spec.2.2
  have kn : Ir 30 0 = nI n := by rw [k4 30 0 (by omega) (by omega)]; exact hn
  have ke : Ir 30 1 = nI eq := by rw [k4 30 1 (by omega) (by omega)]; exact he
  have kl : ∀ i, i < tp → Ir 34 i = nI (ldI Ir 34 i) ∧ ldI Ir 34 i < 8 := fun i hi => ⟨(k3 i hi).1, by have := (k3 i hi).2; omega⟩
  obtain ⟨b1, b2, b3⟩ := k_bef_le Ir eq tp 0
  refine lv_aload_n hx hb dX2_count_0 rfl (lv_at hl 0 rfl) ?_
  refine lv_aload_n hx hb dX2_count_1 rfl (lv_at hl 0 rfl) ?_
  refine fl_get2 X hI dX2_count_2 (by omega) 1 (by decide) wf_X2_33 rfl ?_
  refine W.eq (g2 := F0 m 5 ls [.int (nI eq), .ref (ad 30)]) (by rw [he]) ?_
  refine fl_callV (k := 30) (As := [.int (nI eq)]) (rest := []) X hI dX2_count_5 (m_X2_rel D dA ad N I J hN hn hn4 (ea := eq) he3 hk) (by omega) fl_c_6 rfl rfl wc_yX2_relate wm_X2_76 wi_yX2_relate wl_yX2_relate wn_X2 hd_yX2_relate rfl ⟨by first | decide | omega, by first | decide | omega⟩ hl.1 (Nat.le_of_ble_eq_true rfl) (fun v I2 J2 H locs hp hI => ?_)
  obtain ⟨hv, hI2, hJ2⟩ := hp
  subst hv
  rw [hI2, hJ2] at hI
  refine W.eq (g2 := F0 m 8 ls []) rfl ?_
  refine lv_iload_n hx hb dX2_count_8 rfl (lv_at hl 1 rfl) ?_
  refine lv_if_ne (tgt := 23) hx hb dX2_count_9 (by decide) (fun c1 => ?_) (fun c1 => absurd c1 h0)
  refine lv_iload_n hx hb dX2_count_23 rfl (lv_at hl 1 rfl) ?_
  refine lv_iconst (v := nI 1) hx hb dX2_count_24 (by decide) ?_
  refine lv_icmp_ne (tgt := 35) hx hb dX2_count_25 (by decide) (fun c2 => ?_) (fun c2 => absurd c2 h1)
  refine lv_iload_n hx hb dX2_count_35 rfl (lv_at hl 1 rfl) ?_
  refine lv_iconst (v := nI 2) hx hb dX2_count_36 (by decide) ?_
  refine lv_icmp_ne (tgt := 47) hx hb dX2_count_37 (by decide) (fun c3 => ?_) (fun c3 => absurd c3 h2)
  refine lv_iload_n hx hb dX2_count_47 rfl (lv_at hl 1 rfl) ?_
  refine lv_iconst (v := nI 3) hx hb dX2_count_48 (by decide) ?_
  refine lv_icmp_ne (tgt := 59) hx hb dX2_count_49 (by decide) (fun c4 => ?_) (fun c4 => absurd c4 h3)
  refine lv_iconst (v := (-1)) hx hb dX2_count_59 (by decide) ?_
  exact fl_iret X hr hlk hI dX2_count_60 ⟨rfl, rfl, rfl⟩
def k_rch (n eq tp : Nat) (x0 x1 x2 : Int32) (Ir : fl_TI) (Jr : fl_TJ) : Nat × fl_TJ := k_com n eq tp Ir (fl_up (fl_up (fl_up Jr 35 0 (x0.toInt64)) 35 1 (x1.toInt64)) 35 2 (x2.toInt64))
theorem m_X2_reached (D : va_G) (dA : Nat → ClassId) (ad : Nat → Nat) (N : Nat) (I : fl_TI) (J : fl_TJ) {fu n eq tp : Nat} {Ir : fl_TI} {Jr : fl_TJ} (hN : 37 ≤ N) (hn : I 30 0 = nI n) (hn4 : n ≤ 4) (he : I 30 1 = nI eq) (he3 : eq ≤ 3) (hk : k_R fu n eq I J Ir Jr tp) {x0 x1 x2 : Int32} : FM yX2_reached cX2_reached 4 (some .int) 4 D dA ad N [.ref (ad 30), .int x0, .int x1, .int x2] I J (fun v I' J' => v = some (.int (if (k_rch n eq tp x0 x1 x2 Ir Jr).1 = 0 then nI 0 else nI 1)) ∧ I' = Ir ∧ J' = (k_rch n eq tp x0 x1 x2 Ir Jr).2) := by
  refine FM.ofW RX2 rfl (by decide +kernel) (Nat.le_of_ble_eq_true rfl) ?_
  intro p l e s m args below meth c ls X hr hlk hI hl
  have hx := X.1
  have hb := X.2.1
  have hl : lv_has ls 4 [(0, .ref (ad 30)), (1, .int x0), (2, .int x1), (3, .int x2)] := hl
  obtain ⟨k1, k2, k3, k4⟩ := k_R_facts (by omega) hk
  have k5 := hk.choose_spec.2.2
  have kn : Ir 30 0 = nI n := by rw [k4 30 0 (by omega) (by omega)]; exact hn
  have ke : Ir 30 1 = nI eq := by rw [k4 30 1 (by omega) (by omega)]; exact he
  have kl : ∀ i, i < tp → Ir 34 i = nI (ldI Ir 34 i) ∧ ldI Ir 34 i < 8 := fun i hi => ⟨(k3 i hi).1, by have := (k3 i hi).2; omega⟩
  obtain ⟨b1, b2, b3⟩ := k_bef_le Ir eq tp 0
  have kg : (k_rch n eq tp x0 x1 x2 Ir Jr).1 ≤ 1 := k_com_le
  refine lv_aload_n hx hb dX2_reached_0 rfl (lv_at hl 0 rfl) ?_
  refine lv_aload_n hx hb dX2_reached_1 rfl (lv_at hl 0 rfl) ?_
  refine fl_get2 X hI dX2_reached_2 (by omega) 1 (by decide) wf_X2_33 rfl ?_
  refine W.eq (g2 := F0 m 5 ls [.int (nI eq), .ref (ad 30)]) (by rw [he]) ?_
  refine fl_callV (k := 30) (As := [.int (nI eq)]) (rest := []) X hI dX2_reached_5 (m_X2_rel D dA ad N I J hN hn hn4 (ea := eq) he3 hk) (by omega) fl_c_6 rfl rfl wc_yX2_relate wm_X2_76 wi_yX2_relate wl_yX2_relate wn_X2 hd_yX2_relate rfl ⟨by first | decide | omega, by first | decide | omega⟩ hl.1 (Nat.le_of_ble_eq_true rfl) (fun v I2 J2 H locs hp hI => ?_)
  obtain ⟨hv, hI2, hJ2⟩ := hp
  subst hv
  rw [hI2, hJ2] at hI
  refine W.eq (g2 := F0 m 8 ls []) rfl ?_
  refine lv_aload_n hx hb dX2_reached_8 rfl (lv_at hl 0 rfl) ?_
  refine fl_get2 X hI dX2_reached_9 (by omega) 7 (by decide) wf_X2_27 rfl ?_
  refine lv_iconst (v := nI 0) hx hb dX2_reached_12 (by decide) ?_
  refine lv_iload_n hx hb dX2_reached_13 rfl (lv_at hl 1 rfl) ?_
  refine lv_i2l hx hb dX2_reached_14 rfl ?_
  refine fn_last (k := 35) X hI dX2_reached_15 (by omega) rfl (show 0 < 3 by omega) (fun H locs hI => ?_)
  refine lv_aload_n hx hb dX2_reached_16 rfl (lv_at hl 0 rfl) ?_
  refine fl_get2 X hI dX2_reached_17 (by omega) 7 (by decide) wf_X2_27 rfl ?_
  refine lv_iconst (v := nI 1) hx hb dX2_reached_20 (by decide) ?_
  refine lv_iload_n hx hb dX2_reached_21 rfl (lv_at hl 2 rfl) ?_
  refine lv_i2l hx hb dX2_reached_22 rfl ?_
  refine fn_last (k := 35) X hI dX2_reached_23 (by omega) rfl (show 1 < 3 by omega) (fun H locs hI => ?_)
  refine lv_aload_n hx hb dX2_reached_24 rfl (lv_at hl 0 rfl) ?_
  refine fl_get2 X hI dX2_reached_25 (by omega) 7 (by decide) wf_X2_27 rfl ?_
  refine lv_iconst (v := nI 2) hx hb dX2_reached_28 (by decide) ?_
  refine lv_iload_n hx hb dX2_reached_29 rfl (lv_at hl 3 rfl) ?_
  refine lv_i2l hx hb dX2_reached_30 rfl ?_
  refine fn_last (k := 35) X hI dX2_reached_31 (by omega) rfl (show 2 < 3 by omega) (fun H locs hI => ?_)
  refine lv_aload_n hx hb dX2_reached_32 rfl (lv_at hl 0 rfl) ?_
  refine lv_aload_n hx hb dX2_reached_33 rfl (lv_at hl 0 rfl) ?_
  refine fl_get2 X hI dX2_reached_34 (by omega) 1 (by decide) wf_X2_33 rfl ?_
  refine W.eq (g2 := F0 m 37 ls [.int (nI eq), .ref (ad 30)]) (by rw [ke]) ?_
  refine fl_callV (k := 30) (As := [.int (nI eq)]) (rest := []) X hI dX2_reached_37 (m_X2_comes D dA ad N Ir (fl_up (fl_up (fl_up Jr 35 0 (x0.toInt64)) 35 1 (x1.toInt64)) 35 2 (x2.toInt64)) hN he3 kn hn4 k2 (by omega) kl (fun r hr9 => by rw [fl_up_k (by omega), fl_up_k (by omega), fl_up_k (by omega)]; exact k5 r hr9)) (by omega) fl_c_6 rfl rfl wc_yX2_comes wm_X2_80 wi_yX2_comes wl_yX2_comes wn_X2 hd_yX2_comes rfl ⟨by first | decide | omega, by first | decide | omega⟩ hl.1 (Nat.le_of_ble_eq_true rfl) (fun v I2 J2 H locs hp hI => ?_)
  obtain ⟨hv, hI2, hJ2⟩ := hp
  subst hv
  rw [hI2, hJ2] at hI
  refine W.eq (g2 := F0 m 40 ls [.int (nI ((k_rch n eq tp x0 x1 x2 Ir Jr).1))]) rfl ?_
  refine fn_if_eq X (tgt := 47) dX2_reached_40 (by decide) (by omega) (fun c1 => ?_) (fun c1 => ?_)
  · refine lv_iconst (v := nI 0) hx hb dX2_reached_47 (by decide) ?_
    exact fl_iret X hr hlk hI dX2_reached_48 ⟨by first | rw [if_pos c1] | rw [if_neg (by omega)], rfl, rfl⟩
  · refine lv_iconst (v := nI 1) hx hb dX2_reached_43 (by decide) ?_
    refine lv_goto (tgt := 48) hx hb dX2_reached_44 (by decide) ?_
    exact fl_iret X hr hlk hI dX2_reached_48 ⟨by first | rw [if_pos c1] | rw [if_neg (by omega)], rfl, rfl⟩
