/-! formWhole -/
def j_put1 (j eq : Nat) (I : fl_TI) (J : fl_TJ) : fl_TJ := fl_it (fun i J => fl_up J (6 + 2 + j) i ((I (2 + i) j).toInt64)) eq 0 J
def j_puts (n eq : Nat) (I : fl_TI) (J : fl_TJ) : fl_TJ := fl_it (fun j J => fl_up (j_put1 j eq I J) (6 + 2 + j) (eq + j) 1) n 0 J
theorem lp_put1 {p : Program} {l : Launch} {e : Env} {R : Room} {s : State} {m : MethodId} {args : Array Value} {below : List Frame} {meth : Method} {c : Code} {Q : State → Prop} {D : va_G} {dA : Nat → ClassId} {ad : Nat → Nat} {N : Nat} {A : Nat → Prop} {H0 : Heap} {I : fl_TI} {J9 : fl_TJ} (X : CallFix p m c cX1_formWhole 3 s args fl_tb RX1) {n eq j : Nat} (hN : 30 ≤ N) (hn : I 0 2 = nI n) (hn4 : n ≤ 4) (he : I 0 3 = nI eq) (he3 : eq ≤ 3) (hj : j < n) (hR : 0 + 1 ≤ R.frames ∧ 8 + (5 + 11) + 40 * 0 ≤ R.locals)
    (kx : ∀ (H : Heap) (locs : List Loc) (ls : Array Slot), fl_I D dA ad N I J9 A s H0 H locs → lv_has ls 3 [(2, .int (nI eq)), (1, .int (nI j)), (0, .ref (ad 0))] → W p l e R s m args below meth c H locs 0 0 Q (F0 m 64 ls [])) :
    ∀ (k i : Nat) (J : fl_TJ) (H : Heap) (locs : List Loc) (ls : Array Slot), i + k = eq → fl_I D dA ad N I J A s H0 H locs → lv_has ls 3 [(2, .int (nI i)), (1, .int (nI j)), (0, .ref (ad 0))] → fl_it (fun i J => fl_up J (6 + 2 + j) i ((I (2 + i) j).toInt64)) k i J = J9 → W p l e R s m args below meth c H locs 0 0 Q (F0 m 32 ls []) := by
  have hx := X.1
  have hb := X.2.1
  intro k
  induction k with
  | zero =>
    intro i J H locs ls hk hI hl hF
    have hF : J = J9 := hF
    subst hF
    have hk : eq = i := by omega
    subst hk
    refine lv_iload_n hx hb dX1_formWhole_32 rfl (lv_at hl 0 rfl) ?_
    refine lv_aload_n hx hb dX1_formWhole_33 rfl (lv_at hl 2 rfl) ?_
    refine fl_get1 X hI dX1_formWhole_34 (by omega) 3 (by decide) wf_X1_46 rfl ?_
    refine W.eq (g2 := F0 m 37 ls [.int (nI eq), .int (nI eq)]) (by rw [he]) ?_
    refine fn_icmp_ge X (tgt := 64) dX1_formWhole_37 (by decide) (by omega) (by omega) (fun c1 => ?_) (fun c1 => absurd c1 (by omega))
    exact kx _ _ _ hI (lv_sub hl [0, 1, 2] rfl)
  | succ k ih =>
    intro i J H locs ls hk hI hl hF
    refine lv_iload_n hx hb dX1_formWhole_32 rfl (lv_at hl 0 rfl) ?_
    refine lv_aload_n hx hb dX1_formWhole_33 rfl (lv_at hl 2 rfl) ?_
    refine fl_get1 X hI dX1_formWhole_34 (by omega) 3 (by decide) wf_X1_46 rfl ?_
    refine W.eq (g2 := F0 m 37 ls [.int (nI eq), .int (nI i)]) (by rw [he]) ?_
    refine fn_icmp_ge X (tgt := 64) dX1_formWhole_37 (by decide) (by omega) (by omega) (fun c1 => absurd c1 (by omega)) (fun c1 => ?_)
    refine lv_aload_n hx hb dX1_formWhole_40 rfl (lv_at hl 2 rfl) ?_
    refine fl_get1 X hI dX1_formWhole_41 (by omega) 4 (by decide) wf_X1_23 rfl ?_
    refine lv_iload_n hx hb dX1_formWhole_44 rfl (lv_at hl 1 rfl) ?_
    refine lv_iload_n hx hb dX1_formWhole_45 rfl (lv_at hl 0 rfl) ?_
    refine lv_aload_n hx hb dX1_formWhole_46 rfl (lv_at hl 2 rfl) ?_
    refine fl_get1 X hI dX1_formWhole_47 (by omega) 0 (by decide) wf_X1_11 rfl ?_
    refine lv_iload_n hx hb dX1_formWhole_50 rfl (lv_at hl 0 rfl) ?_
    refine fn_aald2 (k := 1) X hI dX1_formWhole_51 (by omega) rfl (show i < 3 by omega) ?_
    refine lv_iload_n hx hb dX1_formWhole_52 rfl (lv_at hl 1 rfl) ?_
    refine fn_iald (k := 2 + i) X hI dX1_formWhole_53 (by omega) (fk2 (by omega)) (by rw [fn2 (by omega)]; omega) ?_
    refine lv_i2l hx hb dX1_formWhole_54 rfl ?_
    refine fl_callV (k := 6) (As := [.int (nI j), .int (nI i), .long ((I (2 + i) j).toInt64)]) (rest := []) X hI dX1_formWhole_55 (m_X0_put D dA ad N I J hN lat6 ((I (2 + i) j).toInt64) (by omega) (by omega)) (by omega) (fl_c_4 rfl) rfl rfl wc_yX0_put wm_X1_131 wi_yX0_put wl_yX0_put wn_X0 hd_yX0_put rfl ⟨by first | decide | omega, by first | decide | omega⟩ hl.1 (Nat.le_of_ble_eq_true rfl) (fun v I2 J2 H locs hp hI => ?_)
    obtain ⟨hv, hI2, hJ2⟩ := hp
    subst hv
    rw [hI2, hJ2] at hI
    refine W.eq (g2 := F0 m 58 ls []) rfl ?_
    refine fn_iinc (a := i) (lv' := [(2, .int (nI (i + 1))), (1, .int (nI j)), (0, .ref (ad 0))]) X dX1_formWhole_58 hl (k := 0) rfl (by decide) rfl (fun ls hl => ?_)
    refine lv_goto (tgt := 32) hx hb dX1_formWhole_61 (by decide) ?_
    exact ih (i + 1) _ _ _ _ (by omega) hI (lv_sub hl [0, 1, 2] rfl) hF
theorem lp_puts {p : Program} {l : Launch} {e : Env} {R : Room} {s : State} {m : MethodId} {args : Array Value} {below : List Frame} {meth : Method} {c : Code} {Q : State → Prop} {D : va_G} {dA : Nat → ClassId} {ad : Nat → Nat} {N : Nat} {A : Nat → Prop} {H0 : Heap} {I : fl_TI} {J9 : fl_TJ} (X : CallFix p m c cX1_formWhole 3 s args fl_tb RX1) {n eq : Nat} (hN : 30 ≤ N) (hn : I 0 2 = nI n) (hn4 : n ≤ 4) (he : I 0 3 = nI eq) (he3 : eq ≤ 3) (hR : 0 + 1 ≤ R.frames ∧ 8 + (5 + 11) + 40 * 0 ≤ R.locals)
    (kx : ∀ (H : Heap) (locs : List Loc) (ls : Array Slot), fl_I D dA ad N I J9 A s H0 H locs → lv_has ls 3 [(1, .int (nI n)), (0, .ref (ad 0))] → W p l e R s m args below meth c H locs 0 0 Q (F0 m 85 ls [])) :
    ∀ (k i : Nat) (J : fl_TJ) (H : Heap) (locs : List Loc) (ls : Array Slot), i + k = n → fl_I D dA ad N I J A s H0 H locs → lv_has ls 3 [(1, .int (nI i)), (0, .ref (ad 0))] → fl_it (fun j J => fl_up (j_put1 j eq I J) (6 + 2 + j) (eq + j) 1) k i J = J9 → W p l e R s m args below meth c H locs 0 0 Q (F0 m 22 ls []) := by
  have hx := X.1
  have hb := X.2.1
  intro k
  induction k with
  | zero =>
    intro i J H locs ls hk hI hl hF
    have hF : J = J9 := hF
    subst hF
    have hk : n = i := by omega
    subst hk
    refine lv_iload_n hx hb dX1_formWhole_22 rfl (lv_at hl 0 rfl) ?_
    refine lv_aload_n hx hb dX1_formWhole_23 rfl (lv_at hl 1 rfl) ?_
    refine fl_get1 X hI dX1_formWhole_24 (by omega) 2 (by decide) wf_X1_42 rfl ?_
    refine W.eq (g2 := F0 m 27 ls [.int (nI n), .int (nI n)]) (by rw [hn]) ?_
    refine fn_icmp_ge X (tgt := 85) dX1_formWhole_27 (by decide) (by omega) (by omega) (fun c1 => ?_) (fun c1 => absurd c1 (by omega))
    exact kx _ _ _ hI (lv_sub hl [0, 1] rfl)
  | succ k ih =>
    intro i J H locs ls hk hI hl hF
    refine lv_iload_n hx hb dX1_formWhole_22 rfl (lv_at hl 0 rfl) ?_
    refine lv_aload_n hx hb dX1_formWhole_23 rfl (lv_at hl 1 rfl) ?_
    refine fl_get1 X hI dX1_formWhole_24 (by omega) 2 (by decide) wf_X1_42 rfl ?_
    refine W.eq (g2 := F0 m 27 ls [.int (nI n), .int (nI i)]) (by rw [hn]) ?_
    refine fn_icmp_ge X (tgt := 85) dX1_formWhole_27 (by decide) (by omega) (by omega) (fun c1 => absurd c1 (by omega)) (fun c1 => ?_)
    refine lv_iconst (v := nI 0) hx hb dX1_formWhole_30 (by decide) ?_
    refine lv_istore_n (lv' := [(2, .int (nI 0)), (1, .int (nI i)), (0, .ref (ad 0))]) hx hb dX1_formWhole_31 rfl hl (by decide) rfl (fun ls hl => ?_)
    refine lp_put1 X hN hn hn4 he he3 (by omega) hR (J9 := j_put1 i eq I J) (fun H locs ls hI hl => ?_) eq 0 _ _ _ _ (Nat.zero_add _) hI (lv_sub hl [0, 1, 2] rfl) rfl
    refine lv_aload_n hx hb dX1_formWhole_64 rfl (lv_at hl 2 rfl) ?_
    refine fl_get1 X hI dX1_formWhole_65 (by omega) 4 (by decide) wf_X1_23 rfl ?_
    refine lv_iload_n hx hb dX1_formWhole_68 rfl (lv_at hl 1 rfl) ?_
    refine lv_aload_n hx hb dX1_formWhole_69 rfl (lv_at hl 2 rfl) ?_
    refine fl_get1 X hI dX1_formWhole_70 (by omega) 3 (by decide) wf_X1_46 rfl ?_
    refine W.eq (g2 := F0 m 73 ls [.int (nI eq), .int (nI i), .ref (ad 6)]) (by rw [he]) ?_
    refine lv_iload_n hx hb dX1_formWhole_73 rfl (lv_at hl 1 rfl) ?_
    refine fn_iadd X dX1_formWhole_74 ?_
    refine lv_lconst (v := 1) hx hb dX1_formWhole_75 rfl ?_
    refine fl_callV (k := 6) (As := [.int (nI i), .int (nI (eq + i)), .long 1]) (rest := []) X hI dX1_formWhole_76 (m_X0_put D dA ad N I (j_put1 i eq I J) hN lat6 (1) (by omega) (by omega)) (by omega) (fl_c_4 rfl) rfl rfl wc_yX0_put wm_X1_131 wi_yX0_put wl_yX0_put wn_X0 hd_yX0_put rfl ⟨by first | decide | omega, by first | decide | omega⟩ hl.1 (Nat.le_of_ble_eq_true rfl) (fun v I2 J2 H locs hp hI => ?_)
    obtain ⟨hv, hI2, hJ2⟩ := hp
    subst hv
    rw [hI2, hJ2] at hI
    refine W.eq (g2 := F0 m 79 ls []) rfl ?_
    refine fn_iinc (a := i) (lv' := [(1, .int (nI (i + 1))), (2, .int (nI eq)), (0, .ref (ad 0))]) X dX1_formWhole_79 hl (k := 1) rfl (by decide) rfl (fun ls hl => ?_)
    refine lv_goto (tgt := 22) hx hb dX1_formWhole_82 (by decide) ?_
    exact ih (i + 1) _ _ _ _ (by omega) hI (lv_sub hl [0, 2] rfl) hF
def x_i1 (eq : Nat) (x : Nat × fl_TI × fl_TJ) : fl_TI := fl_up x.2.1 0 6 (nI (n_bef x.2.1 (6 + 2 + 4) (nI eq) x.1))
theorem tl_form {p : Program} {l : Launch} {e : Env} {s : State} {m : MethodId} {args : Array Value} {below : List Frame} {meth : Method} {c : Code} {D : va_G} {dA : Nat → ClassId} {ad : Nat → Nat} {N : Nat} {A : Nat → Prop} {I : fl_TI} {J : fl_TJ} {post : Option Value → fl_TI → fl_TJ → Prop} {H : Heap} {locs : List Loc} {ls : Array Slot} (X : CallFix p m c cX1_formWhole 3 s args fl_tb RX1) (hr : meth.sig.returnType = none) (hlk : meth.locks = false) {n eq : Nat} (hN : 30 ≤ N) (hn : I 0 2 = nI n) (hn4 : n ≤ 4) (he : I 0 3 = nI eq) (he3 : eq ≤ 3) (hh : I 6 2 = nI n) (hw : I 6 3 = nI (eq + n)) (hr0 : I 6 4 = nI 0) (hI : fl_I D dA ad N I J A s s.heap H locs) (hl : lv_has ls 3 [(0, .ref (ad 0))]) (hp : post none (i_settle eq n (b_form 6 4 n (eq + n) (eq + n) 0 (0, I, J)).1 (x_i1 eq (b_form 6 4 n (eq + n) (eq + n) 0 (0, I, J))) (b_form 6 4 n (eq + n) (eq + n) 0 (0, I, J)).2.2) (j_settle eq n (b_form 6 4 n (eq + n) (eq + n) 0 (0, I, J)).1 (x_i1 eq (b_form 6 4 n (eq + n) (eq + n) 0 (0, I, J))) (b_form 6 4 n (eq + n) (eq + n) 0 (0, I, J)).2.2)) : W p l e (fl_rm 4) s m args below meth c H locs 0 0 (MQ below (fl_Q D dA ad N post A) args s 0 0 A) (F0 m 85 ls []) := by
  have hx := X.1
  have hb := X.2.1
  obtain ⟨g1, g2, g3, g4⟩ := b_form_I 6 4 n (eq + n) (by omega) (eq + n) 0 0 I J (Nat.zero_add _) hr0 (Nat.zero_le _) (fun i hi => absurd hi (Nat.not_lt_zero _))
  have hM := m_X0_bringToForm D dA ad N I J hN lat6 hh hn4 hw (by omega) hr0 (Nat.zero_le _)
  generalize b_form 6 4 n (eq + n) (eq + n) 0 (0, I, J) = x9 at g1 g2 g3 g4 hM hp
  refine lv_aload_n hx hb dX1_formWhole_85 rfl (lv_at hl 0 rfl) ?_
  refine fl_get1 X hI dX1_formWhole_86 (by omega) 4 (by decide) wf_X1_23 rfl ?_
  refine fl_callV (k := 6) (As := []) (rest := []) X hI dX1_formWhole_89 hM (by omega) (fl_c_4 rfl) rfl rfl wc_yX0_bringToForm wm_X1_135 wi_yX0_bringToForm wl_yX0_bringToForm wn_X0 hd_yX0_bringToForm rfl ⟨by first | decide | omega, by first | decide | omega⟩ hl.1 (Nat.le_of_ble_eq_true rfl) (fun v I2 J2 H locs hp hI => ?_)
  obtain ⟨hv, hI2, hJ2⟩ := hp
  subst hv
  rw [hI2, hJ2] at hI
  refine W.eq (g2 := F0 m 92 ls []) rfl ?_
  refine lv_aload_n hx hb dX1_formWhole_92 rfl (lv_at hl 0 rfl) ?_
  refine lv_aload_n hx hb dX1_formWhole_93 rfl (lv_at hl 0 rfl) ?_
  refine fl_get1 X hI dX1_formWhole_94 (by omega) 4 (by decide) wf_X1_23 rfl ?_
  refine lv_aload_n hx hb dX1_formWhole_97 rfl (lv_at hl 0 rfl) ?_
  refine fl_get1 X hI dX1_formWhole_98 (by omega) 3 (by decide) wf_X1_46 rfl ?_
  refine W.eq (g2 := F0 m 101 ls [.int (nI eq), .ref (ad 6), .ref (ad 0)]) (by rw [g4 0 3 (by omega) (by omega), he]) ?_
  refine fl_callV (k := 6) (As := [.int (nI eq)]) (rest := [.ref (ad 0)]) X hI dX1_formWhole_101 (m_X0_leadsBefore D dA ad N x9.2.1 x9.2.2 hN lat6 g2 (by omega)) (by omega) (fl_c_4 rfl) rfl rfl wc_yX0_leadsBefore wm_X1_138 wi_yX0_leadsBefore wl_yX0_leadsBefore wn_X0 hd_yX0_leadsBefore rfl ⟨by first | decide | omega, by first | decide | omega⟩ hl.1 (Nat.le_of_ble_eq_true rfl) (fun v I2 J2 H locs hp hI => ?_)
  obtain ⟨hv, hI2, hJ2⟩ := hp
  subst hv
  rw [hI2, hJ2] at hI
  refine W.eq (g2 := F0 m 104 ls [.int (nI (n_bef x9.2.1 (6 + 2 + 4) (nI eq) x9.1)), .ref (ad 0)]) rfl ?_
  refine fl_put1 X hI dX1_formWhole_104 (by omega) 6 (by decide) wf_X1_76 (fun H locs hI => ?_)
  refine lv_aload_n hx hb dX1_formWhole_107 rfl (lv_at hl 0 rfl) ?_
  refine fl_callV (k := 0) (I := x_i1 eq x9) (As := []) (rest := []) X hI dX1_formWhole_108 (m_X1_settle D dA ad N (x_i1 eq x9) x9.2.2 hN (n := n) (by unfold x_i1; rw [fl_up_j (by omega), g4 0 3 (by omega) (by omega)]; exact he) he3 hn4 (by unfold x_i1; rw [fl_up_k (by omega), g4 6 3 (by omega) (by omega)]; exact hw) (by unfold x_i1; rw [fl_up_k (by omega)]; exact g2) (by omega) (fun i hi => by unfold ldI x_i1; rw [fl_up_k (by omega)]; exact g3 i hi)) (by omega) fl_c_5 rfl rfl wc_yX1_settleSolution wm_X1_60 wi_yX1_settleSolution wl_yX1_settleSolution wn_X1 hd_yX1_settleSolution rfl ⟨by first | decide | omega, by first | decide | omega⟩ hl.1 (Nat.le_of_ble_eq_true rfl) (fun v I2 J2 H locs hp hI => ?_)
  obtain ⟨hv, hI2, hJ2⟩ := hp
  subst hv
  rw [hI2, hJ2] at hI
  refine W.eq (g2 := F0 m 111 ls []) rfl ?_
  exact fl_vret X hr hlk hI dX1_formWhole_111 hp
def x_i0 (n eq : Nat) (I : fl_TI) : fl_TI := i_clear 6 (nI n) (nI (eq + n)) I
/-- the form of the lattice of n unknowns and eq equations-/
def x_b (n eq : Nat) (I : fl_TI) (J : fl_TJ) : Nat × fl_TI × fl_TJ := b_form 6 4 n (eq + n) (eq + n) 0 (0, x_i0 n eq I, j_puts n eq (x_i0 n eq I) (j_clear 6 n J))
def x_formI (n eq : Nat) (I : fl_TI) (J : fl_TJ) : fl_TI := i_settle eq n (x_b n eq I J).1 (x_i1 eq (x_b n eq I J)) (x_b n eq I J).2.2
def x_formJ (n eq : Nat) (I : fl_TI) (J : fl_TJ) : fl_TJ := j_settle eq n (x_b n eq I J).1 (x_i1 eq (x_b n eq I J)) (x_b n eq I J).2.2
theorem i_clear_far {o : Nat} {h w : Int32} {I : fl_TI} {a b : Nat} (ha : a ≠ o) : i_clear o h w I a b = I a b := by unfold i_clear; rw [fl_up_k ha, fl_up_k ha, fl_up_k ha]
theorem m_X1_formWhole (D : va_G) (dA : Nat → ClassId) (ad : Nat → Nat) (N : Nat) (I : fl_TI) (J : fl_TJ) {n eq : Nat} (hN : 30 ≤ N) (hn : I 0 2 = nI n) (hn4 : n ≤ 4) (he : I 0 3 = nI eq) (he3 : eq ≤ 3) : FM yX1_formWhole cX1_formWhole 3 none 4 D dA ad N [.ref (ad 0)] I J (fun v I' J' => v = none ∧ I' = x_formI n eq I J ∧ J' = x_formJ n eq I J) := by
  refine FM.ofW RX1 rfl (by decide +kernel) (Nat.le_of_ble_eq_true rfl) ?_
  intro p l e s m args below meth c ls X hr hlk hI hl
  have hx := X.1
  have hb := X.2.1
  have hl : lv_has ls 3 [(0, .ref (ad 0))] := hl
  refine lv_aload_n hx hb dX1_formWhole_0 rfl (lv_at hl 0 rfl) ?_
  refine fl_get1 X hI dX1_formWhole_1 (by omega) 4 (by decide) wf_X1_23 rfl ?_
  refine lv_aload_n hx hb dX1_formWhole_4 rfl (lv_at hl 0 rfl) ?_
  refine fl_get1 X hI dX1_formWhole_5 (by omega) 2 (by decide) wf_X1_42 rfl ?_
  refine W.eq (g2 := F0 m 8 ls [.int (nI n), .ref (ad 6)]) (by rw [hn]) ?_
  refine lv_aload_n hx hb dX1_formWhole_8 rfl (lv_at hl 0 rfl) ?_
  refine fl_get1 X hI dX1_formWhole_9 (by omega) 3 (by decide) wf_X1_46 rfl ?_
  refine W.eq (g2 := F0 m 12 ls [.int (nI eq), .int (nI n), .ref (ad 6)]) (by rw [he]) ?_
  refine lv_aload_n hx hb dX1_formWhole_12 rfl (lv_at hl 0 rfl) ?_
  refine fl_get1 X hI dX1_formWhole_13 (by omega) 2 (by decide) wf_X1_42 rfl ?_
  refine W.eq (g2 := F0 m 16 ls [.int (nI n), .int (nI eq), .int (nI n), .ref (ad 6)]) (by rw [hn]) ?_
  refine fn_iadd X dX1_formWhole_16 ?_
  refine fl_callV (k := 6) (As := [.int (nI n), .int (nI (eq + n))]) (rest := []) X hI dX1_formWhole_17 (m_X0_clear D dA ad N I J hN lat6 hn4) (by omega) (fl_c_4 rfl) rfl rfl wc_yX0_clear wm_X1_128 wi_yX0_clear wl_yX0_clear wn_X0 hd_yX0_clear rfl ⟨by first | decide | omega, by first | decide | omega⟩ hl.1 (Nat.le_of_ble_eq_true rfl) (fun v I2 J2 H locs hp hI => ?_)
  obtain ⟨hv, hI2, hJ2⟩ := hp
  subst hv
  rw [hI2, hJ2] at hI
  refine W.eq (g2 := F0 m 20 ls []) rfl ?_
  refine lv_iconst (v := nI 0) hx hb dX1_formWhole_20 (by decide) ?_
  refine lv_istore_n (lv' := [(1, .int (nI 0)), (0, .ref (ad 0))]) hx hb dX1_formWhole_21 rfl hl (by decide) rfl (fun ls hl => ?_)
  have hn2 : x_i0 n eq I 0 2 = nI n := by unfold x_i0; rw [i_clear_far (by omega)]; exact hn
  have he2 : x_i0 n eq I 0 3 = nI eq := by unfold x_i0; rw [i_clear_far (by omega)]; exact he
  refine lp_puts (I := x_i0 n eq I) X hN hn2 hn4 he2 he3 ⟨by decide, by decide⟩ (J9 := j_puts n eq (x_i0 n eq I) (j_clear 6 n J)) (fun H locs ls hI hl => ?_) n 0 _ _ _ _ (Nat.zero_add _) hI hl rfl
  exact tl_form X hr hlk hN hn2 hn4 he2 he3 (by unfold x_i0 i_clear; rw [fl_up_j (by omega), fl_up_j (by omega), fl_up_s]) (by unfold x_i0 i_clear; rw [fl_up_j (by omega), fl_up_s]) (by unfold x_i0 i_clear; rw [fl_up_s]) hI (lv_sub hl [1] rfl) ⟨rfl, rfl, rfl⟩
theorem x_form_ok {n eq : Nat} {I : fl_TI} {J : fl_TJ} (hn : I 0 2 = nI n) (hn1 : 1 ≤ n ∧ n ≤ 4) (he : I 0 3 = nI eq) (he3 : eq ≤ 3) :
    x_ok (x_formI n eq I J) n eq (n_bef (x_b n eq I J).2.1 (6 + 2 + 4) (nI eq) (x_b n eq I J).1) (x_b n eq I J).1 ∧ (∀ a b, a ≠ 0 → a ≠ 6 → a ≠ 12 → x_formI n eq I J a b = I a b) := by
  obtain ⟨g1, g2, g3, g4⟩ := b_form_I 6 4 n (eq + n) (by omega) (eq + n) 0 0 (x_i0 n eq I) (j_puts n eq (x_i0 n eq I) (j_clear 6 n J)) (Nat.zero_add _) (by unfold x_i0 i_clear; rw [fl_up_s]) (Nat.zero_le _) (fun i hi => absurd hi (Nat.not_lt_zero _))
  have gb : ∀ (I : fl_TI) (q : Nat) (col : Int32) (k i n : Nat), fl_it (i_bef I q col) k i n ≤ n + k := by
    intro I q col k
    induction k with
    | zero => intro i n; exact Nat.le_refl _
    | succ k ih =>
      intro i n
      have h9 := ih (i + 1) (i_bef I q col i n)
      have h8 : i_bef I q col i n ≤ n + 1 := by unfold i_bef; split <;> omega
      show fl_it (i_bef I q col) k (i + 1) (i_bef I q col i n) ≤ _
      omega
  have hb1 := gb (x_b n eq I J).2.1 (6 + 2 + 4) (nI eq) (x_b n eq I J).1 0 0
  unfold x_formI i_settle
  generalize hx : x_first 22 _ eq 0 = fz
  unfold x_b at hb1 ⊢
  generalize b_form 6 4 n (eq + n) (eq + n) 0 (0, x_i0 n eq I, j_puts n eq (x_i0 n eq I) (j_clear 6 n J)) = x9 at g1 g2 g3 g4 hb1 ⊢
  unfold x_i1
  have f0 : ∀ b, b ≠ 6 → b ≠ 8 → fl_up (fl_up x9.2.1 0 6 (nI (n_bef x9.2.1 (6 + 2 + 4) (nI eq) x9.1))) 0 8 fz 0 b = I 0 b := fun b h6 h8 => by
    rw [fl_up_j h8, fl_up_j h6, g4 0 b (by omega) (by omega)]
    unfold x_i0
    rw [i_clear_far (by omega)]
  have fa : ∀ a b, a ≠ 0 → fl_up (fl_up x9.2.1 0 6 (nI (n_bef x9.2.1 (6 + 2 + 4) (nI eq) x9.1))) 0 8 fz a b = x9.2.1 a b := fun a b h => by rw [fl_up_k h, fl_up_k h]
  refine ⟨⟨by rw [f0 2 (by omega) (by omega)]; exact hn, hn1, by rw [f0 3 (by omega) (by omega)]; exact he, he3, by rw [fl_up_j (by omega), fl_up_s], ?_, ?_, ?_, by rw [fa 6 4 (by omega)]; exact g2, g1, fun i hi => ?_⟩, fun a b h1 h2 h3 => ?_⟩
  · unfold n_bef; omega
  · rw [fa 6 2 (by omega), g4 6 2 (by omega) (by omega)]
    unfold x_i0 i_clear
    rw [fl_up_j (by omega), fl_up_j (by omega), fl_up_s]
  · rw [fa 6 3 (by omega), g4 6 3 (by omega) (by omega)]
    unfold x_i0 i_clear
    rw [fl_up_j (by omega), fl_up_s]
  · unfold ldI
    rw [fa 12 i (by omega)]
    exact g3 i hi
  · rw [fa a b h1, g4 a b (by omega) (by omega)]
    unfold x_i0
    rw [i_clear_far h2]
