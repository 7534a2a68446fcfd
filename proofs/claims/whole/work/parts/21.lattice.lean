/-! the lattice's loops -/
def fl_it {σ : Type} (f : Nat → σ → σ) : Nat → Nat → σ → σ
  | 0, _, x => x
  | k + 1, i, x => fl_it f k (i + 1) (f i x)
section FLN2
variable {p : Program} {l : Launch} {e : Env} {R : Room} {s : State} {m : MethodId} {args : Array Value} {below : List Frame} {meth : Method} {c : Code} {H : Heap} {locs : List Loc} {Q : State → Prop}
variable {cc : ByteArray} {nL pc : Nat} {ls : Array Slot} {rest : List Value} {D : va_G} {dA : Nat → ClassId} {ad : Nat → Nat} {N : Nat} {I : fl_TI} {J : fl_TJ} {A : Nat → Prop} {H0 : Heap}
/-- fillWithZero, called from the nest mate -/
theorem fl_callSN {d : Nat} {As : List Value} {post : Option Value → fl_TI → fl_TJ → Prop} (X : CallFix p m c cc nL s args fl_tb RX0) (hI : fl_I D dA ad N I J A s H0 H locs) (hdg : decode cc pc = .ok (.invokestatic 30, 3)) (hM : FM yX1_fillWithZero cX1_fillWithZero 2 none d D dA ad N As I J post)
    (hn : As.length = 1) (hR : d + 1 ≤ R.frames ∧ 8 + (2 + 11) + 40 * d ≤ R.locals) (hl : ls.size = nL) (hst : (rest.map fun v => v.category).sum ≤ 8)
    (kk : ∀ (v : Option Value) (I' : fl_TI) (J' : fl_TJ) (H1 : Heap) (locs1 : List Loc), post v I' J' → fl_I D dA ad N I' J' A s H0 H1 locs1 → W p l e R s m args below meth c H1 locs1 0 0 Q (F0 m (pc + 3) ls (v.toList ++ rest))) : W p l e R s m args below meth c H locs 0 0 Q (F0 m pc ls (As.reverse ++ rest)) := by
  refine fl_run (post := post) (va_runSN (host := RX1) (n := 1) (As := As) (rest := rest) X (hM l H.size) ⟨va_cnB 1 X.2.2.2.2 (fl_goodIn (fl_ws_in wc_yX1_fillWithZero) (fun _ h => h)) rfl rfl rfl hI.1.2 (X.2.2.2.2 _ wn_X1) hd_yX1_fillWithZero hR, X.2.2.2.2 _ ws_yX1_fillWithZero, trivial⟩ ⟨fl_blind, fun U hU hW => ⟨rfl, by rw [hU], hI.1.warm hW, by rw [hU]; exact ⟨hI.2.1, hI.2.2.1.weaken (fun _ _ _ _ => trivial)⟩⟩⟩ rfl hn hl rfl (lv_room hst) hdg ⟨Nat.zero_le _, Nat.zero_le _⟩) hI kk
end FLN2
theorem lp_fill {p : Program} {l : Launch} {e : Env} {R : Room} {s : State} {m : MethodId} {args : Array Value} {below : List Frame} {meth : Method} {c : Code} {Q : State → Prop} {D : va_G} {dA : Nat → ClassId} {ad : Nat → Nat} {N : Nat} {A : Nat → Prop} {H0 : Heap} {I : fl_TI} {J9 : fl_TJ} (X : CallFix p m c cX1_fillWithZero 2 s args fl_tb RX1) {q : Nat} (hq : q < N) (hq1 : fl_k q = 1) (hq2 : fl_n q ≤ 64)
    (kx : ∀ (H : Heap) (locs : List Loc) (ls : Array Slot), fl_I D dA ad N I J9 A s H0 H locs → lv_has ls 2 [(1, .int (nI (fl_n q))), (0, .ref (ad q))] → W p l e R s m args below meth c H locs 0 0 Q (F0 m 18 ls [])) :
    ∀ (k i : Nat) (J : fl_TJ) (H : Heap) (locs : List Loc) (ls : Array Slot), i + k = fl_n q → fl_I D dA ad N I J A s H0 H locs → lv_has ls 2 [(1, .int (nI i)), (0, .ref (ad q))] → fl_it (fun j J => fl_up J q j 0) k i J = J9 → W p l e R s m args below meth c H locs 0 0 Q (F0 m 2 ls []) := by
  have hx := X.1
  have hb := X.2.1
  intro k
  induction k with
  | zero =>
    intro i J H locs ls hk hI hl hF
    have hF : J = J9 := hF
    subst hF
    have hk : fl_n q = i := by omega
    subst hk
    refine lv_iload_n hx hb dX1_fillWithZero_2 rfl (lv_at hl 0 rfl) ?_
    refine lv_aload_n hx hb dX1_fillWithZero_3 rfl (lv_at hl 1 rfl) ?_
    refine fl_alen1 (k := q) X hI dX1_fillWithZero_4 hq hq1 ?_
    refine fn_icmp_ge X (tgt := 18) dX1_fillWithZero_5 (by decide) (by omega) (by omega) (fun c1 => ?_) (fun c1 => absurd c1 (by omega))
    exact kx _ _ _ hI (lv_sub hl [0, 1] rfl)
  | succ k ih =>
    intro i J H locs ls hk hI hl hF
    refine lv_iload_n hx hb dX1_fillWithZero_2 rfl (lv_at hl 0 rfl) ?_
    refine lv_aload_n hx hb dX1_fillWithZero_3 rfl (lv_at hl 1 rfl) ?_
    refine fl_alen1 (k := q) X hI dX1_fillWithZero_4 hq hq1 ?_
    refine fn_icmp_ge X (tgt := 18) dX1_fillWithZero_5 (by decide) (by omega) (by omega) (fun c1 => absurd c1 (by omega)) (fun c1 => ?_)
    refine lv_aload_n hx hb dX1_fillWithZero_8 rfl (lv_at hl 1 rfl) ?_
    refine lv_iload_n hx hb dX1_fillWithZero_9 rfl (lv_at hl 0 rfl) ?_
    refine lv_lconst (v := 0) hx hb dX1_fillWithZero_10 rfl ?_
    refine fn_last (k := q) X hI dX1_fillWithZero_11 hq hq1 (by omega) (fun H locs hI => ?_)
    refine fn_iinc (a := i) (lv' := [(1, .int (nI (i + 1))), (0, .ref (ad q))]) X dX1_fillWithZero_12 hl (k := 0) rfl (by decide) rfl (fun ls hl => ?_)
    refine lv_goto (tgt := 2) hx hb dX1_fillWithZero_15 (by decide) ?_
    exact ih (i + 1) _ _ _ _ (by omega) hI (lv_sub hl [0, 1] rfl) hF
def j_fill (q : Nat) (J : fl_TJ) : fl_TJ := fl_it (fun j J => fl_up J q j 0) (fl_n q) 0 J
theorem m_fill (D : va_G) (dA : Nat → ClassId) (ad : Nat → Nat) (N : Nat) (I : fl_TI) (J : fl_TJ) {q : Nat} (hq : q < N) (hq1 : fl_k q = 1) : FM yX1_fillWithZero cX1_fillWithZero 2 none 0 D dA ad N [.ref (ad q)] I J (fun v I' J' => v = none ∧ I' = I ∧ J' = j_fill q J) := by
  refine FM.ofW RX1 rfl (by decide +kernel) (Nat.le_of_ble_eq_true rfl) ?_
  intro p l e s m args below meth c ls X hr hlk hI hl
  have hx := X.1
  have hb := X.2.1
  have hl : lv_has ls 2 [(0, .ref (ad q))] := hl
  refine lv_iconst (v := nI 0) hx hb dX1_fillWithZero_0 (by decide) ?_
  refine lv_istore_n (lv' := [(1, .int (nI 0)), (0, .ref (ad q))]) hx hb dX1_fillWithZero_1 rfl hl (by decide) rfl (fun ls hl => ?_)
  exact lp_fill X hq hq1 (fl_n_le q) (fun H locs ls hI hl => fl_vret X hr hlk hI dX1_fillWithZero_18 ⟨rfl, rfl, rfl⟩) (fl_n q) 0 J _ _ _ (Nat.zero_add _) hI hl rfl
theorem m_X0_row (D : va_G) (dA : Nat → ClassId) (ad : Nat → Nat) (N : Nat) (I : fl_TI) (J : fl_TJ) {o nr mw : Nat} (hN : 30 ≤ N) (hL : fl_lat o nr mw) {i : Nat} (hi : i < nr) : FM yX0_row cX0_row 2 (some (.array .long)) 0 D dA ad N [.ref (ad o), .int (nI i)] I J (fun v I' J' => v = some (.ref (ad (o + 2 + i))) ∧ I' = I ∧ J' = J) := by
  refine FM.ofW RX0 rfl (by decide +kernel) (Nat.le_of_ble_eq_true rfl) ?_
  intro p l e s m args below meth c ls X hr hlk hI hl
  have hx := X.1
  have hb := X.2.1
  have hl : lv_has ls 2 [(0, .ref (ad o)), (1, .int (nI i))] := hl
  refine lv_aload_n hx hb dX0_row_0 rfl (lv_at hl 0 rfl) ?_
  refine fl_getL X hI dX0_row_1 hN hL 0 (by decide) wf_X0_11 rfl ?_
  refine lv_iload_n hx hb dX0_row_4 rfl (lv_at hl 1 rfl) ?_
  refine fn_aald3 (k := o + 1) X hI dX0_row_5 (by have := lat_b hL; omega) (lat_k1 hL) (by rw [lat_n1 hL]; omega) ?_
  exact fl_aret X hr hlk hI dX0_row_6 rfl rfl ⟨rfl, rfl, rfl⟩
theorem lp_clear {p : Program} {l : Launch} {e : Env} {R : Room} {s : State} {m : MethodId} {args : Array Value} {below : List Frame} {meth : Method} {c : Code} {Q : State → Prop} {D : va_G} {dA : Nat → ClassId} {ad : Nat → Nat} {N : Nat} {A : Nat → Prop} {H0 : Heap} {I : fl_TI} {J9 : fl_TJ} (X : CallFix p m c cX0_clear 4 s args fl_tb RX0) {o nr mw h w : Nat} (hN : 30 ≤ N) (hL : fl_lat o nr mw) (hh : I o 2 = nI h) (hhr : h ≤ nr) (hR : 0 + 1 ≤ R.frames ∧ 8 + (2 + 11) + 40 * 0 ≤ R.locals)
    (kx : ∀ (H : Heap) (locs : List Loc) (ls : Array Slot), fl_I D dA ad N I J9 A s H0 H locs → lv_has ls 4 [(3, .int (nI h)), (0, .ref (ad o)), (1, .int (nI h)), (2, .int (nI w))] → W p l e R s m args below meth c H locs 0 0 Q (F0 m 40 ls [])) :
    ∀ (k i : Nat) (J : fl_TJ) (H : Heap) (locs : List Loc) (ls : Array Slot), i + k = h → fl_I D dA ad N I J A s H0 H locs → lv_has ls 4 [(3, .int (nI i)), (0, .ref (ad o)), (1, .int (nI h)), (2, .int (nI w))] → fl_it (fun i J => j_fill (o + 2 + i) J) k i J = J9 → W p l e R s m args below meth c H locs 0 0 Q (F0 m 17 ls []) := by
  have hx := X.1
  have hb := X.2.1
  have h21 := lat_b hL
  intro k
  induction k with
  | zero =>
    intro i J H locs ls hk hI hl hF
    have hF : J = J9 := hF
    subst hF
    have hk : h = i := by omega
    subst hk
    refine lv_iload_n hx hb dX0_clear_17 rfl (lv_at hl 0 rfl) ?_
    refine lv_aload_n hx hb dX0_clear_18 rfl (lv_at hl 1 rfl) ?_
    refine fl_getL X hI dX0_clear_19 hN hL 2 (by decide) wf_X0_20 rfl ?_
    refine W.eq (g2 := F0 m 22 ls [.int (nI h), .int (nI h)]) (by rw [hh]) ?_
    refine fn_icmp_ge X (tgt := 40) dX0_clear_22 (by decide) (by omega) (by omega) (fun c1 => ?_) (fun c1 => absurd c1 (by omega))
    exact kx _ _ _ hI (lv_sub hl [0, 1, 2, 3] rfl)
  | succ k ih =>
    intro i J H locs ls hk hI hl hF
    have h22 := lat_b hL
    refine lv_iload_n hx hb dX0_clear_17 rfl (lv_at hl 0 rfl) ?_
    refine lv_aload_n hx hb dX0_clear_18 rfl (lv_at hl 1 rfl) ?_
    refine fl_getL X hI dX0_clear_19 hN hL 2 (by decide) wf_X0_20 rfl ?_
    refine W.eq (g2 := F0 m 22 ls [.int (nI h), .int (nI i)]) (by rw [hh]) ?_
    refine fn_icmp_ge X (tgt := 40) dX0_clear_22 (by decide) (by omega) (by omega) (fun c1 => absurd c1 (by omega)) (fun c1 => ?_)
    refine lv_aload_n hx hb dX0_clear_25 rfl (lv_at hl 1 rfl) ?_
    refine fl_getL X hI dX0_clear_26 hN hL 0 (by decide) wf_X0_11 rfl ?_
    refine lv_iload_n hx hb dX0_clear_29 rfl (lv_at hl 0 rfl) ?_
    refine fn_aald3 (k := o + 1) X hI dX0_clear_30 (by have := lat_b hL; omega) (lat_k1 hL) (by rw [lat_n1 hL]; omega) ?_
    refine fl_callSN (As := [.ref (ad (o + 2 + i))]) (rest := []) X hI dX0_clear_31 (m_fill D dA ad N I J (q := o + 2 + i) (by have := lat_b hL; omega) (lat_k2 hL (by omega))) rfl hR hl.1 (Nat.le_of_ble_eq_true rfl) (fun v I2 J2 H locs hp hI => ?_)
    obtain ⟨hv, hI2, hJ2⟩ := hp
    subst hv
    rw [hI2, hJ2] at hI
    refine W.eq (g2 := F0 m 34 ls []) rfl ?_
    refine fn_iinc (a := i) (lv' := [(3, .int (nI (i + 1))), (0, .ref (ad o)), (1, .int (nI h)), (2, .int (nI w))]) X dX0_clear_34 hl (k := 0) rfl (by decide) rfl (fun ls hl => ?_)
    refine lv_goto (tgt := 17) hx hb dX0_clear_37 (by decide) ?_
    exact ih (i + 1) _ _ _ _ (by omega) hI (lv_sub hl [0, 1, 2, 3] rfl) hF
def i_clear (o : Nat) (h w : Int32) (I : fl_TI) : fl_TI := fl_up (fl_up (fl_up I o 2 h) o 3 w) o 4 (nI 0)
def j_clear (o h : Nat) (J : fl_TJ) : fl_TJ := fl_it (fun i J => j_fill (o + 2 + i) J) h 0 J
theorem m_X0_clear (D : va_G) (dA : Nat → ClassId) (ad : Nat → Nat) (N : Nat) (I : fl_TI) (J : fl_TJ) {o nr mw h w : Nat} (hN : 30 ≤ N) (hL : fl_lat o nr mw) (hhr : h ≤ nr) : FM yX0_clear cX0_clear 4 none 1 D dA ad N [.ref (ad o), .int (nI h), .int (nI w)] I J (fun v I' J' => v = none ∧ I' = i_clear o (nI h) (nI w) I ∧ J' = j_clear o h J) := by
  refine FM.ofW RX0 rfl (by decide +kernel) (Nat.le_of_ble_eq_true rfl) ?_
  intro p l e s m args below meth c ls X hr hlk hI hl
  have hx := X.1
  have hb := X.2.1
  have hl : lv_has ls 4 [(0, .ref (ad o)), (1, .int (nI h)), (2, .int (nI w))] := hl
  refine lv_aload_n hx hb dX0_clear_0 rfl (lv_at hl 0 rfl) ?_
  refine lv_iload_n hx hb dX0_clear_1 rfl (lv_at hl 1 rfl) ?_
  refine fl_put0 X hI dX0_clear_2 (by have := lat_b hL; omega) (lat_k hL) 2 (by decide) wf_X0_20 (fun H locs hI => ?_)
  refine lv_aload_n hx hb dX0_clear_5 rfl (lv_at hl 0 rfl) ?_
  refine lv_iload_n hx hb dX0_clear_6 rfl (lv_at hl 2 rfl) ?_
  refine fl_put0 X hI dX0_clear_7 (by have := lat_b hL; omega) (lat_k hL) 3 (by decide) wf_X0_24 (fun H locs hI => ?_)
  refine lv_aload_n hx hb dX0_clear_10 rfl (lv_at hl 0 rfl) ?_
  refine lv_iconst (v := nI 0) hx hb dX0_clear_11 (by decide) ?_
  refine fl_put0 X hI dX0_clear_12 (by have := lat_b hL; omega) (lat_k hL) 4 (by decide) wf_X0_27 (fun H locs hI => ?_)
  refine lv_iconst (v := nI 0) hx hb dX0_clear_15 (by decide) ?_
  refine lv_istore_n (lv' := [(3, .int (nI 0)), (0, .ref (ad o)), (1, .int (nI h)), (2, .int (nI w))]) hx hb dX0_clear_16 rfl hl (by decide) rfl (fun ls hl => ?_)
  exact lp_clear X hN hL (by simp [fl_up]) hhr ⟨by decide, by decide⟩ (fun H locs ls hI hl => fl_vret X hr hlk hI dX0_clear_40 ⟨rfl, rfl, rfl⟩) h 0 J _ _ _ (Nat.zero_add _) hI hl rfl
def i_bef (I : fl_TI) (q : Nat) (col : Int32) : Nat → Nat → Nat := fun i n => if col ≤ I q i then n else n + 1
theorem lp_bef {p : Program} {l : Launch} {e : Env} {R : Room} {s : State} {m : MethodId} {args : Array Value} {below : List Frame} {meth : Method} {c : Code} {Q : State → Prop} {D : va_G} {dA : Nat → ClassId} {ad : Nat → Nat} {N : Nat} {A : Nat → Prop} {H0 : Heap} {I : fl_TI} {J : fl_TJ} {n9 : Nat} (X : CallFix p m c cX0_leadsBefore 4 s args fl_tb RX0) {o nr mw rk : Nat} {col : Int32} (hN : 30 ≤ N) (hL : fl_lat o nr mw) (hrk : I o 4 = nI rk) (hrr : rk ≤ nr)
    (kx : ∀ (H : Heap) (locs : List Loc) (ls : Array Slot), fl_I D dA ad N I J A s H0 H locs → lv_has ls 4 [(3, .int (nI rk)), (2, .int (nI n9)), (0, .ref (ad o)), (1, .int col)] → W p l e R s m args below meth c H locs 0 0 Q (F0 m 31 ls [])) :
    ∀ (k i : Nat) (n : Nat) (H : Heap) (locs : List Loc) (ls : Array Slot), i + k = rk → fl_I D dA ad N I J A s H0 H locs → lv_has ls 4 [(3, .int (nI i)), (2, .int (nI n)), (0, .ref (ad o)), (1, .int col)] → fl_it (i_bef I (o + 2 + nr) col) k i n = n9 → W p l e R s m args below meth c H locs 0 0 Q (F0 m 4 ls []) := by
  have hx := X.1
  have hb := X.2.1
  have h21 := lat_b hL
  intro k
  induction k with
  | zero =>
    intro i n H locs ls hk hI hl hF
    have hF : n = n9 := hF
    subst hF
    have hk : rk = i := by omega
    subst hk
    refine lv_iload_n hx hb dX0_leadsBefore_4 rfl (lv_at hl 0 rfl) ?_
    refine lv_aload_n hx hb dX0_leadsBefore_5 rfl (lv_at hl 2 rfl) ?_
    refine fl_getL X hI dX0_leadsBefore_6 hN hL 4 (by decide) wf_X0_27 rfl ?_
    refine W.eq (g2 := F0 m 9 ls [.int (nI rk), .int (nI rk)]) (by rw [hrk]) ?_
    refine fn_icmp_ge X (tgt := 31) dX0_leadsBefore_9 (by decide) (by omega) (by omega) (fun c1 => ?_) (fun c1 => absurd c1 (by omega))
    exact kx _ _ _ hI (lv_sub hl [0, 1, 2, 3] rfl)
  | succ k ih =>
    intro i n H locs ls hk hI hl hF
    refine lv_iload_n hx hb dX0_leadsBefore_4 rfl (lv_at hl 0 rfl) ?_
    refine lv_aload_n hx hb dX0_leadsBefore_5 rfl (lv_at hl 2 rfl) ?_
    refine fl_getL X hI dX0_leadsBefore_6 hN hL 4 (by decide) wf_X0_27 rfl ?_
    refine W.eq (g2 := F0 m 9 ls [.int (nI rk), .int (nI i)]) (by rw [hrk]) ?_
    refine fn_icmp_ge X (tgt := 31) dX0_leadsBefore_9 (by decide) (by omega) (by omega) (fun c1 => absurd c1 (by omega)) (fun c1 => ?_)
    refine lv_aload_n hx hb dX0_leadsBefore_12 rfl (lv_at hl 2 rfl) ?_
    refine fl_getL X hI dX0_leadsBefore_13 hN hL 1 (by decide) wf_X0_16 rfl ?_
    refine lv_iload_n hx hb dX0_leadsBefore_16 rfl (lv_at hl 0 rfl) ?_
    refine fn_iald (k := o + 2 + nr) X hI dX0_leadsBefore_17 (by have := lat_b hL; omega) (lat_kl hL) (by rw [lat_nl hL]; omega) ?_
    refine lv_iload_n hx hb dX0_leadsBefore_18 rfl (lv_at hl 3 rfl) ?_
    refine lv_icmp_ge (tgt := 25) hx hb dX0_leadsBefore_19 (by decide) (fun c2 => ?_) (fun c2 => ?_)
    · refine fn_iinc (a := i) (lv' := [(3, .int (nI (i + 1))), (2, .int (nI n)), (0, .ref (ad o)), (1, .int col)]) X dX0_leadsBefore_25 hl (k := 0) rfl (by decide) rfl (fun ls hl => ?_)
      refine lv_goto (tgt := 4) hx hb dX0_leadsBefore_28 (by decide) ?_
      exact ih (i + 1) _ _ _ _ (by omega) hI (lv_sub hl [0, 1, 2, 3] rfl) (by have h9 := hF; simp only [fl_it, i_bef] at h9; first | (rw [if_pos c2] at h9; exact h9) | (rw [if_neg c2] at h9; exact h9))
    · refine fn_iinc (a := n) (lv' := [(2, .int (nI (n + 1))), (3, .int (nI i)), (0, .ref (ad o)), (1, .int col)]) X dX0_leadsBefore_22 hl (k := 1) rfl (by decide) rfl (fun ls hl => ?_)
      refine fn_iinc (a := i) (lv' := [(3, .int (nI (i + 1))), (2, .int (nI (n + 1))), (0, .ref (ad o)), (1, .int col)]) X dX0_leadsBefore_25 hl (k := 1) rfl (by decide) rfl (fun ls hl => ?_)
      refine lv_goto (tgt := 4) hx hb dX0_leadsBefore_28 (by decide) ?_
      exact ih (i + 1) _ _ _ _ (by omega) hI (lv_sub hl [0, 1, 2, 3] rfl) (by have h9 := hF; simp only [fl_it, i_bef] at h9; first | (rw [if_pos c2] at h9; exact h9) | (rw [if_neg c2] at h9; exact h9))
def n_bef (I : fl_TI) (q : Nat) (col : Int32) (rk : Nat) : Nat := fl_it (i_bef I q col) rk 0 0
theorem m_X0_leadsBefore (D : va_G) (dA : Nat → ClassId) (ad : Nat → Nat) (N : Nat) (I : fl_TI) (J : fl_TJ) {o nr mw rk : Nat} {col : Int32} (hN : 30 ≤ N) (hL : fl_lat o nr mw) (hrk : I o 4 = nI rk) (hrr : rk ≤ nr) : FM yX0_leadsBefore cX0_leadsBefore 4 (some .int) 0 D dA ad N [.ref (ad o), .int col] I J (fun v I' J' => v = some (.int (nI (n_bef I (o + 2 + nr) col rk))) ∧ I' = I ∧ J' = J) := by
  refine FM.ofW RX0 rfl (by decide +kernel) (Nat.le_of_ble_eq_true rfl) ?_
  intro p l e s m args below meth c ls X hr hlk hI hl
  have hx := X.1
  have hb := X.2.1
  have hl : lv_has ls 4 [(0, .ref (ad o)), (1, .int col)] := hl
  refine lv_iconst (v := nI 0) hx hb dX0_leadsBefore_0 (by decide) ?_
  refine lv_istore_n (lv' := [(2, .int (nI 0)), (0, .ref (ad o)), (1, .int col)]) hx hb dX0_leadsBefore_1 rfl hl (by decide) rfl (fun ls hl => ?_)
  refine lv_iconst (v := nI 0) hx hb dX0_leadsBefore_2 (by decide) ?_
  refine lv_istore_n (lv' := [(3, .int (nI 0)), (2, .int (nI 0)), (0, .ref (ad o)), (1, .int col)]) hx hb dX0_leadsBefore_3 rfl hl (by decide) rfl (fun ls hl => ?_)
  refine lp_bef X hN hL hrk hrr (n9 := n_bef I (o + 2 + nr) col rk) (fun H locs ls hI hl => ?_) rk 0 0 _ _ _ (Nat.zero_add _) hI hl rfl
  refine lv_iload_n hx hb dX0_leadsBefore_31 rfl (lv_at hl 1 rfl) ?_
  exact fl_iret X hr hlk hI dX0_leadsBefore_32 ⟨rfl, rfl, rfl⟩
def j_red1 (q r w : Nat) (t : Int64) (J : fl_TJ) : fl_TJ := fl_it (fun j J => fl_up J q j (J q j - t * J r j)) w 0 J
def j_red (q r cl w : Nat) (J : fl_TJ) : fl_TJ := if J r cl = 0 then J else j_red1 q r w (fd64 (J q cl) (J r cl)) J
theorem lp_red {p : Program} {l : Launch} {e : Env} {R : Room} {s : State} {m : MethodId} {args : Array Value} {below : List Frame} {meth : Method} {c : Code} {Q : State → Prop} {D : va_G} {dA : Nat → ClassId} {ad : Nat → Nat} {N : Nat} {A : Nat → Prop} {H0 : Heap} {I : fl_TI} {J9 : fl_TJ} (X : CallFix p m c cX0_reduceBy 7 s args fl_tb RX0) {o nr mw q a w cl : Nat} {t : Int64} (hN : 30 ≤ N) (hL : fl_lat o nr mw) (hq : q < N) (hq1 : fl_k q = 1) (hi : a < nr) (hw : I o 3 = nI w) (hwm : w ≤ mw) (hwq : w ≤ fl_n q)
    (kx : ∀ (H : Heap) (locs : List Loc) (ls : Array Slot), fl_I D dA ad N I J9 A s H0 H locs → lv_has ls 7 [(6, .int (nI w)), (4, .long t), (3, .int (nI cl)), (0, .ref (ad o)), (1, .int (nI a)), (2, .ref (ad q))] → W p l e R s m args below meth c H locs 0 0 Q (F0 m 74 ls [])) :
    ∀ (k i : Nat) (J : fl_TJ) (H : Heap) (locs : List Loc) (ls : Array Slot), i + k = w → fl_I D dA ad N I J A s H0 H locs → lv_has ls 7 [(6, .int (nI i)), (4, .long t), (3, .int (nI cl)), (0, .ref (ad o)), (1, .int (nI a)), (2, .ref (ad q))] → fl_it (fun j J => fl_up J q j (J q j - t * J (o + 2 + a) j)) k i J = J9 → W p l e R s m args below meth c H locs 0 0 Q (F0 m 40 ls []) := by
  have hx := X.1
  have hb := X.2.1
  have h21 := lat_b hL
  intro k
  induction k with
  | zero =>
    intro i J H locs ls hk hI hl hF
    have hF : J = J9 := hF
    subst hF
    have hk : w = i := by omega
    subst hk
    refine lv_iload hx hb dX0_reduceBy_40 (lv_at hl 0 rfl) ?_
    refine lv_aload_n hx hb dX0_reduceBy_42 rfl (lv_at hl 3 rfl) ?_
    refine fl_getL X hI dX0_reduceBy_43 hN hL 3 (by decide) wf_X0_24 rfl ?_
    refine W.eq (g2 := F0 m 46 ls [.int (nI w), .int (nI w)]) (by rw [hw]) ?_
    refine fn_icmp_ge X (tgt := 74) dX0_reduceBy_46 (by decide) (by omega) (by omega) (fun c1 => ?_) (fun c1 => absurd c1 (by omega))
    exact kx _ _ _ hI (lv_sub hl [0, 1, 2, 3, 4, 5] rfl)
  | succ k ih =>
    intro i J H locs ls hk hI hl hF
    refine lv_iload hx hb dX0_reduceBy_40 (lv_at hl 0 rfl) ?_
    refine lv_aload_n hx hb dX0_reduceBy_42 rfl (lv_at hl 3 rfl) ?_
    refine fl_getL X hI dX0_reduceBy_43 hN hL 3 (by decide) wf_X0_24 rfl ?_
    refine W.eq (g2 := F0 m 46 ls [.int (nI w), .int (nI i)]) (by rw [hw]) ?_
    refine fn_icmp_ge X (tgt := 74) dX0_reduceBy_46 (by decide) (by omega) (by omega) (fun c1 => absurd c1 (by omega)) (fun c1 => ?_)
    refine lv_aload_n hx hb dX0_reduceBy_49 rfl (lv_at hl 5 rfl) ?_
    refine lv_iload hx hb dX0_reduceBy_50 (lv_at hl 0 rfl) ?_
    refine lv_dup2_11 hx hb dX0_reduceBy_52 rfl rfl ?_
    refine fn_lald (k := q) X hI dX0_reduceBy_53 hq hq1 (by omega) ?_
    refine lv_lload hx hb dX0_reduceBy_54 (lv_at hl 1 rfl) ?_
    refine lv_aload_n hx hb dX0_reduceBy_56 rfl (lv_at hl 3 rfl) ?_
    refine fl_getL X hI dX0_reduceBy_57 hN hL 0 (by decide) wf_X0_11 rfl ?_
    refine lv_iload_n hx hb dX0_reduceBy_60 rfl (lv_at hl 4 rfl) ?_
    refine fn_aald3 (k := o + 1) X hI dX0_reduceBy_61 (by have := lat_b hL; omega) (lat_k1 hL) (by rw [lat_n1 hL]; omega) ?_
    refine lv_iload hx hb dX0_reduceBy_62 (lv_at hl 0 rfl) ?_
    refine fn_lald (k := o + 2 + a) X hI dX0_reduceBy_64 (by have := lat_b hL; omega) (lat_k2 hL (by omega)) (by rw [lat_n2 hL (by omega)]; omega) ?_
    refine lv_lmul hx hb dX0_reduceBy_65 ?_
    refine lv_lsub hx hb dX0_reduceBy_66 ?_
    refine fn_last (k := q) X hI dX0_reduceBy_67 hq hq1 (by omega) (fun H locs hI => ?_)
    refine fn_iinc (a := i) (lv' := [(6, .int (nI (i + 1))), (4, .long t), (3, .int (nI cl)), (0, .ref (ad o)), (1, .int (nI a)), (2, .ref (ad q))]) X dX0_reduceBy_68 hl (k := 0) rfl (by decide) rfl (fun ls hl => ?_)
    refine lv_goto (tgt := 40) hx hb dX0_reduceBy_71 (by decide) ?_
    exact ih (i + 1) _ _ _ _ (by omega) hI (lv_sub hl [0, 1, 2, 3, 4, 5] rfl) hF
theorem m_X0_reduceBy (D : va_G) (dA : Nat → ClassId) (ad : Nat → Nat) (N : Nat) (I : fl_TI) (J : fl_TJ) {o nr mw q a w cl : Nat} (hN : 30 ≤ N) (hL : fl_lat o nr mw) (hq : q < N) (hq1 : fl_k q = 1) (hi : a < nr) (hw : I o 3 = nI w) (hwm : w ≤ mw) (hwq : w ≤ fl_n q) (hc : I (o + 2 + nr) a = nI cl) (hcm : cl < mw) (hcq : cl < fl_n q) : FM yX0_reduceBy cX0_reduceBy 7 none 1 D dA ad N [.ref (ad o), .int (nI a), .ref (ad q)] I J (fun v I' J' => v = none ∧ I' = I ∧ J' = j_red q (o + 2 + a) cl w J) := by
  refine FM.ofW RX0 rfl (by decide +kernel) (Nat.le_of_ble_eq_true rfl) ?_
  intro p l e s m args below meth c ls X hr hlk hI hl
  have hx := X.1
  have hb := X.2.1
  have hl : lv_has ls 7 [(0, .ref (ad o)), (1, .int (nI a)), (2, .ref (ad q))] := hl
  have h21 := lat_b hL
  refine lv_aload_n hx hb dX0_reduceBy_0 rfl (lv_at hl 0 rfl) ?_
  refine fl_getL X hI dX0_reduceBy_1 hN hL 1 (by decide) wf_X0_16 rfl ?_
  refine lv_iload_n hx hb dX0_reduceBy_4 rfl (lv_at hl 1 rfl) ?_
  refine fn_iald (k := o + 2 + nr) X hI dX0_reduceBy_5 (by have := lat_b hL; omega) (lat_kl hL) (by rw [lat_nl hL]; omega) ?_
  refine W.eq (g2 := F0 m 6 ls [.int (nI cl)]) (by rw [hc]) ?_
  refine lv_istore_n (lv' := [(3, .int (nI cl)), (0, .ref (ad o)), (1, .int (nI a)), (2, .ref (ad q))]) hx hb dX0_reduceBy_6 rfl hl (by decide) rfl (fun ls hl => ?_)
  refine lv_aload_n hx hb dX0_reduceBy_7 rfl (lv_at hl 1 rfl) ?_
  refine fl_getL X hI dX0_reduceBy_8 hN hL 0 (by decide) wf_X0_11 rfl ?_
  refine lv_iload_n hx hb dX0_reduceBy_11 rfl (lv_at hl 2 rfl) ?_
  refine fn_aald3 (k := o + 1) X hI dX0_reduceBy_12 (by have := lat_b hL; omega) (lat_k1 hL) (by rw [lat_n1 hL]; omega) ?_
  refine lv_iload_n hx hb dX0_reduceBy_13 rfl (lv_at hl 0 rfl) ?_
  refine fn_lald (k := o + 2 + a) X hI dX0_reduceBy_14 (by have := lat_b hL; omega) (lat_k2 hL (by omega)) (by rw [lat_n2 hL (by omega)]; omega) ?_
  refine lv_lconst (v := 0) hx hb dX0_reduceBy_15 rfl ?_
  refine fl_lc_ne (tgt := 21) hx hb dX0_reduceBy_16 dX0_reduceBy_17 (by decide) (fun c1 => ?_) (fun c1 => ?_)
  · refine lv_aload_n hx hb dX0_reduceBy_21 rfl (lv_at hl 3 rfl) ?_
    refine lv_iload_n hx hb dX0_reduceBy_22 rfl (lv_at hl 0 rfl) ?_
    refine fn_lald (k := q) X hI dX0_reduceBy_23 hq hq1 (by omega) ?_
    refine lv_aload_n hx hb dX0_reduceBy_24 rfl (lv_at hl 1 rfl) ?_
    refine fl_getL X hI dX0_reduceBy_25 hN hL 0 (by decide) wf_X0_11 rfl ?_
    refine lv_iload_n hx hb dX0_reduceBy_28 rfl (lv_at hl 2 rfl) ?_
    refine fn_aald3 (k := o + 1) X hI dX0_reduceBy_29 (by have := lat_b hL; omega) (lat_k1 hL) (by rw [lat_n1 hL]; omega) ?_
    refine lv_iload_n hx hb dX0_reduceBy_30 rfl (lv_at hl 0 rfl) ?_
    refine fn_lald (k := o + 2 + a) X hI dX0_reduceBy_31 (by have := lat_b hL; omega) (lat_k2 hL (by omega)) (by rw [lat_n2 hL (by omega)]; omega) ?_
    refine fl_callS (As := [.long (J q cl), .long (J (o + 2 + a) cl)]) (rest := []) X hI dX0_reduceBy_32 (m_floorDiv D dA ad N I J (J q cl) (J (o + 2 + a) cl) c1) wc_yJ9_floorDiv_f86c9 wm_X0_42 ws_yJ9_floorDiv_f86c9 wn_J9 hd_yJ9_floorDiv_f86c9 rfl ⟨by first | decide | omega, by first | decide | omega⟩ hl.1 (Nat.le_of_ble_eq_true rfl) (fun v I2 J2 H locs hp hI => ?_)
    obtain ⟨hv, hI2, hJ2⟩ := hp
    subst hv
    rw [hI2, hJ2] at hI
    refine W.eq (g2 := F0 m 35 ls [.long (fd64 (J q cl) (J (o + 2 + a) cl))]) rfl ?_
    refine lv_lstore (lv' := [(4, .long (fd64 (J q cl) (J (o + 2 + a) cl))), (3, .int (nI cl)), (0, .ref (ad o)), (1, .int (nI a)), (2, .ref (ad q))]) hx hb dX0_reduceBy_35 hl (by decide) rfl (fun ls hl => ?_)
    refine lv_iconst (v := nI 0) hx hb dX0_reduceBy_37 (by decide) ?_
    refine lv_istore (lv' := [(6, .int (nI 0)), (4, .long (fd64 (J q cl) (J (o + 2 + a) cl))), (3, .int (nI cl)), (0, .ref (ad o)), (1, .int (nI a)), (2, .ref (ad q))]) hx hb dX0_reduceBy_38 hl (by decide) rfl (fun ls hl => ?_)
    exact lp_red X hN hL hq hq1 hi hw hwm hwq (J9 := j_red q (o + 2 + a) cl w J) (fun H locs ls hI hl => fl_vret X hr hlk hI dX0_reduceBy_74 ⟨rfl, rfl, rfl⟩) w 0 J _ _ _ (Nat.zero_add _) hI hl (by unfold j_red; rw [if_neg c1]; rfl)
  · exact fl_vret X hr hlk hI dX0_reduceBy_20 ⟨rfl, rfl, by unfold j_red; rw [if_pos c1]⟩
