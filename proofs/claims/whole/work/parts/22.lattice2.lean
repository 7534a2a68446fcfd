/-! divideOut, addLead, reduce, bringToForm -/
def j_div1 (ru rl w : Nat) (t : Int64) (J : fl_TJ) : fl_TJ := fl_it (fun j J => fl_up (fl_up J ru j (J rl j)) rl j (J ru j - t * J rl j)) w 0 J
def j_div (ru rl cl w : Nat) : Nat → fl_TJ → fl_TJ
  | 0, J => J
  | k + 1, J => if J rl cl = 0 then J else j_div ru rl cl w k (j_div1 ru rl w (fd64 (J ru cl) (J rl cl)) J)
theorem lp_div1 {p : Program} {l : Launch} {e : Env} {R : Room} {s : State} {m : MethodId} {args : Array Value} {below : List Frame} {meth : Method} {c : Code} {Q : State → Prop} {D : va_G} {dA : Nat → ClassId} {ad : Nat → Nat} {N : Nat} {A : Nat → Prop} {H0 : Heap} {I : fl_TI} {J9 : fl_TJ} (X : CallFix p m c cX0_divideOut 10 s args fl_tb RX0) {o nr mw a b cl w g : Nat} {t : Int64} (hN : 30 ≤ N) (hL : fl_lat o nr mw) (ha : a < nr) (hb2 : b < nr) (hcl : cl < w) (hw : I o 3 = nI w) (hwm : w ≤ mw)
    (kx : ∀ (H : Heap) (locs : List Loc) (ls : Array Slot), fl_I D dA ad N I J9 A s H0 H locs → lv_has ls 10 [(7, .int (nI w)), (5, .long t), (4, .int (nI g)), (0, .ref (ad o)), (1, .int (nI a)), (2, .int (nI b)), (3, .int (nI cl))] → W p l e R s m args below meth c H locs 0 0 Q (F0 m 116 ls [])) :
    ∀ (k i : Nat) (J : fl_TJ) (H : Heap) (locs : List Loc) (ls : Array Slot), i + k = w → fl_I D dA ad N I J A s H0 H locs → lv_has ls 10 [(7, .int (nI i)), (5, .long t), (4, .int (nI g)), (0, .ref (ad o)), (1, .int (nI a)), (2, .int (nI b)), (3, .int (nI cl))] → fl_it (fun j J => fl_up (fl_up J (o + 2 + a) j (J (o + 2 + b) j)) (o + 2 + b) j (J (o + 2 + a) j - t * J (o + 2 + b) j)) k i J = J9 → W p l e R s m args below meth c H locs 0 0 Q (F0 m 48 ls []) := by
  have hx := X.1
  have hb := X.2.1
  have h21 := lat_b hL
  intro k
  induction k with
  | zero =>
    intro i J H locs ls hk hI hl hF
    have hF : J = J9 := hF
    subst hF
    have hk : w = i := by omega
    subst hk
    refine lv_iload hx hb dX0_divideOut_48 (lv_at hl 0 rfl) ?_
    refine lv_aload_n hx hb dX0_divideOut_50 rfl (lv_at hl 3 rfl) ?_
    refine fl_getL X hI dX0_divideOut_51 hN hL 3 (by decide) wf_X0_24 rfl ?_
    refine W.eq (g2 := F0 m 54 ls [.int (nI w), .int (nI w)]) (by rw [hw]) ?_
    refine fn_icmp_ge X (tgt := 116) dX0_divideOut_54 (by decide) (by omega) (by omega) (fun c1 => ?_) (fun c1 => absurd c1 (by omega))
    exact kx _ _ _ hI (lv_sub hl [0, 1, 2, 3, 4, 5, 6] rfl)
  | succ k ih =>
    intro i J H locs ls hk hI hl hF
    refine lv_iload hx hb dX0_divideOut_48 (lv_at hl 0 rfl) ?_
    refine lv_aload_n hx hb dX0_divideOut_50 rfl (lv_at hl 3 rfl) ?_
    refine fl_getL X hI dX0_divideOut_51 hN hL 3 (by decide) wf_X0_24 rfl ?_
    refine W.eq (g2 := F0 m 54 ls [.int (nI w), .int (nI i)]) (by rw [hw]) ?_
    refine fn_icmp_ge X (tgt := 116) dX0_divideOut_54 (by decide) (by omega) (by omega) (fun c1 => absurd c1 (by omega)) (fun c1 => ?_)
    refine lv_aload_n hx hb dX0_divideOut_57 rfl (lv_at hl 3 rfl) ?_
    refine fl_getL X hI dX0_divideOut_58 hN hL 0 (by decide) wf_X0_11 rfl ?_
    refine lv_iload_n hx hb dX0_divideOut_61 rfl (lv_at hl 4 rfl) ?_
    refine fn_aald3 (k := o + 1) X hI dX0_divideOut_62 (by have := lat_b hL; omega) (lat_k1 hL) (by rw [lat_n1 hL]; omega) ?_
    refine lv_iload hx hb dX0_divideOut_63 (lv_at hl 0 rfl) ?_
    refine fn_lald (k := o + 2 + a) X hI dX0_divideOut_65 (by have := lat_b hL; omega) (lat_k2 hL (by omega)) (by rw [lat_n2 hL (by omega)]; omega) ?_
    refine lv_lload hx hb dX0_divideOut_66 (lv_at hl 1 rfl) ?_
    refine lv_aload_n hx hb dX0_divideOut_68 rfl (lv_at hl 3 rfl) ?_
    refine fl_getL X hI dX0_divideOut_69 hN hL 0 (by decide) wf_X0_11 rfl ?_
    refine lv_iload_n hx hb dX0_divideOut_72 rfl (lv_at hl 5 rfl) ?_
    refine fn_aald3 (k := o + 1) X hI dX0_divideOut_73 (by have := lat_b hL; omega) (lat_k1 hL) (by rw [lat_n1 hL]; omega) ?_
    refine lv_iload hx hb dX0_divideOut_74 (lv_at hl 0 rfl) ?_
    refine fn_lald (k := o + 2 + b) X hI dX0_divideOut_76 (by have := lat_b hL; omega) (lat_k2 hL (by omega)) (by rw [lat_n2 hL (by omega)]; omega) ?_
    refine lv_lmul hx hb dX0_divideOut_77 ?_
    refine lv_lsub hx hb dX0_divideOut_78 ?_
    refine lv_lstore (lv' := [(8, .long ((J (o + 2 + a) i) - (t * (J (o + 2 + b) i)))), (7, .int (nI i)), (5, .long t), (4, .int (nI g)), (0, .ref (ad o)), (1, .int (nI a)), (2, .int (nI b)), (3, .int (nI cl))]) hx hb dX0_divideOut_79 hl (by decide) rfl (fun ls hl => ?_)
    refine lv_aload_n hx hb dX0_divideOut_81 rfl (lv_at hl 4 rfl) ?_
    refine fl_getL X hI dX0_divideOut_82 hN hL 0 (by decide) wf_X0_11 rfl ?_
    refine lv_iload_n hx hb dX0_divideOut_85 rfl (lv_at hl 5 rfl) ?_
    refine fn_aald3 (k := o + 1) X hI dX0_divideOut_86 (by have := lat_b hL; omega) (lat_k1 hL) (by rw [lat_n1 hL]; omega) ?_
    refine lv_iload hx hb dX0_divideOut_87 (lv_at hl 1 rfl) ?_
    refine lv_aload_n hx hb dX0_divideOut_89 rfl (lv_at hl 4 rfl) ?_
    refine fl_getL X hI dX0_divideOut_90 hN hL 0 (by decide) wf_X0_11 rfl ?_
    refine lv_iload_n hx hb dX0_divideOut_93 rfl (lv_at hl 6 rfl) ?_
    refine fn_aald3 (k := o + 1) X hI dX0_divideOut_94 (by have := lat_b hL; omega) (lat_k1 hL) (by rw [lat_n1 hL]; omega) ?_
    refine lv_iload hx hb dX0_divideOut_95 (lv_at hl 1 rfl) ?_
    refine fn_lald (k := o + 2 + b) X hI dX0_divideOut_97 (by have := lat_b hL; omega) (lat_k2 hL (by omega)) (by rw [lat_n2 hL (by omega)]; omega) ?_
    refine fn_last (k := o + 2 + a) X hI dX0_divideOut_98 (by have := lat_b hL; omega) (lat_k2 hL (by omega)) (by rw [lat_n2 hL (by omega)]; omega) (fun H locs hI => ?_)
    refine lv_aload_n hx hb dX0_divideOut_99 rfl (lv_at hl 4 rfl) ?_
    refine fl_getL X hI dX0_divideOut_100 hN hL 0 (by decide) wf_X0_11 rfl ?_
    refine lv_iload_n hx hb dX0_divideOut_103 rfl (lv_at hl 6 rfl) ?_
    refine fn_aald3 (k := o + 1) X hI dX0_divideOut_104 (by have := lat_b hL; omega) (lat_k1 hL) (by rw [lat_n1 hL]; omega) ?_
    refine lv_iload hx hb dX0_divideOut_105 (lv_at hl 1 rfl) ?_
    refine lv_lload hx hb dX0_divideOut_107 (lv_at hl 0 rfl) ?_
    refine fn_last (k := o + 2 + b) X hI dX0_divideOut_109 (by have := lat_b hL; omega) (lat_k2 hL (by omega)) (by rw [lat_n2 hL (by omega)]; omega) (fun H locs hI => ?_)
    refine fn_iinc (a := i) (lv' := [(7, .int (nI (i + 1))), (8, .long ((J (o + 2 + a) i) - (t * (J (o + 2 + b) i)))), (5, .long t), (4, .int (nI g)), (0, .ref (ad o)), (1, .int (nI a)), (2, .int (nI b)), (3, .int (nI cl))]) X dX0_divideOut_110 hl (k := 1) rfl (by decide) rfl (fun ls hl => ?_)
    refine lv_goto (tgt := 48) hx hb dX0_divideOut_113 (by decide) ?_
    exact ih (i + 1) _ _ _ _ (by omega) hI (lv_sub hl [0, 2, 3, 4, 5, 6, 7] rfl) hF
theorem lp_div {p : Program} {l : Launch} {e : Env} {R : Room} {s : State} {m : MethodId} {args : Array Value} {below : List Frame} {meth : Method} {c : Code} {Q : State → Prop} {D : va_G} {dA : Nat → ClassId} {ad : Nat → Nat} {N : Nat} {A : Nat → Prop} {H0 : Heap} {I : fl_TI} {J9 : fl_TJ} (X : CallFix p m c cX0_divideOut 10 s args fl_tb RX0) {o nr mw a b cl w : Nat} (hN : 30 ≤ N) (hL : fl_lat o nr mw) (ha : a < nr) (hb2 : b < nr) (hcl : cl < w) (hw : I o 3 = nI w) (hwm : w ≤ mw) (hR : 0 + 1 ≤ R.frames ∧ 8 + (6 + 11) + 40 * 0 ≤ R.locals)
    (kx : ∀ (g : Nat) (H : Heap) (locs : List Loc) (ls : Array Slot), fl_I D dA ad N I J9 A s H0 H locs → lv_has ls 10 [(4, .int (nI g)), (0, .ref (ad o)), (1, .int (nI a)), (2, .int (nI b)), (3, .int (nI cl))] → W p l e R s m args below meth c H locs 0 0 Q (F0 m 122 ls [])) :
    ∀ (k g : Nat) (J : fl_TJ) (H : Heap) (locs : List Loc) (ls : Array Slot), g + k = 200 → fl_I D dA ad N I J A s H0 H locs → lv_has ls 10 [(4, .int (nI g)), (0, .ref (ad o)), (1, .int (nI a)), (2, .int (nI b)), (3, .int (nI cl))] → j_div (o + 2 + a) (o + 2 + b) cl w k J = J9 → W p l e R s m args below meth c H locs 0 0 Q (F0 m 3 ls []) := by
  have hx := X.1
  have hb := X.2.1
  have h21 := lat_b hL
  intro k
  induction k with
  | zero =>
    intro g J H locs ls hk hI hl hF
    have hF : J = J9 := hF
    subst hF
    have hk : 200 = g := by omega
    subst hk
    refine lv_iload hx hb dX0_divideOut_3 (lv_at hl 0 rfl) ?_
    refine lv_sipush (v := nI 200) hx hb dX0_divideOut_5 (by decide) ?_
    refine fn_icmp_ge X (tgt := 122) dX0_divideOut_8 (by decide) (by omega) (by omega) (fun c1 => ?_) (fun c1 => absurd c1 (by omega))
    exact kx _ _ _ _ hI (lv_sub hl [0, 1, 2, 3, 4] rfl)
  | succ k ih =>
    intro g J H locs ls hk hI hl hF
    refine lv_iload hx hb dX0_divideOut_3 (lv_at hl 0 rfl) ?_
    refine lv_sipush (v := nI 200) hx hb dX0_divideOut_5 (by decide) ?_
    refine fn_icmp_ge X (tgt := 122) dX0_divideOut_8 (by decide) (by omega) (by omega) (fun c1 => absurd c1 (by omega)) (fun c1 => ?_)
    refine lv_aload_n hx hb dX0_divideOut_11 rfl (lv_at hl 1 rfl) ?_
    refine fl_getL X hI dX0_divideOut_12 hN hL 0 (by decide) wf_X0_11 rfl ?_
    refine lv_iload_n hx hb dX0_divideOut_15 rfl (lv_at hl 3 rfl) ?_
    refine fn_aald3 (k := o + 1) X hI dX0_divideOut_16 (by have := lat_b hL; omega) (lat_k1 hL) (by rw [lat_n1 hL]; omega) ?_
    refine lv_iload_n hx hb dX0_divideOut_17 rfl (lv_at hl 4 rfl) ?_
    refine fn_lald (k := o + 2 + b) X hI dX0_divideOut_18 (by have := lat_b hL; omega) (lat_k2 hL (by omega)) (by rw [lat_n2 hL (by omega)]; omega) ?_
    refine lv_lconst (v := 0) hx hb dX0_divideOut_19 rfl ?_
    refine fl_lc_eq (tgt := 122) hx hb dX0_divideOut_20 dX0_divideOut_21 (by decide) (fun c2 => ?_) (fun c2 => ?_)
    · have hF : J = J9 := by rw [← hF]; simp only [j_div]; rw [if_pos c2]
      subst hF
      exact kx _ _ _ _ hI (lv_sub hl [0, 1, 2, 3, 4] rfl)
    · refine lv_aload_n hx hb dX0_divideOut_24 rfl (lv_at hl 1 rfl) ?_
      refine fl_getL X hI dX0_divideOut_25 hN hL 0 (by decide) wf_X0_11 rfl ?_
      refine lv_iload_n hx hb dX0_divideOut_28 rfl (lv_at hl 2 rfl) ?_
      refine fn_aald3 (k := o + 1) X hI dX0_divideOut_29 (by have := lat_b hL; omega) (lat_k1 hL) (by rw [lat_n1 hL]; omega) ?_
      refine lv_iload_n hx hb dX0_divideOut_30 rfl (lv_at hl 4 rfl) ?_
      refine fn_lald (k := o + 2 + a) X hI dX0_divideOut_31 (by have := lat_b hL; omega) (lat_k2 hL (by omega)) (by rw [lat_n2 hL (by omega)]; omega) ?_
      refine lv_aload_n hx hb dX0_divideOut_32 rfl (lv_at hl 1 rfl) ?_
      refine fl_getL X hI dX0_divideOut_33 hN hL 0 (by decide) wf_X0_11 rfl ?_
      refine lv_iload_n hx hb dX0_divideOut_36 rfl (lv_at hl 3 rfl) ?_
      refine fn_aald3 (k := o + 1) X hI dX0_divideOut_37 (by have := lat_b hL; omega) (lat_k1 hL) (by rw [lat_n1 hL]; omega) ?_
      refine lv_iload_n hx hb dX0_divideOut_38 rfl (lv_at hl 4 rfl) ?_
      refine fn_lald (k := o + 2 + b) X hI dX0_divideOut_39 (by have := lat_b hL; omega) (lat_k2 hL (by omega)) (by rw [lat_n2 hL (by omega)]; omega) ?_
      refine fl_callS (As := [.long (J (o + 2 + a) cl), .long (J (o + 2 + b) cl)]) (rest := []) X hI dX0_divideOut_40 (m_floorDiv D dA ad N I J (J (o + 2 + a) cl) (J (o + 2 + b) cl) c2) wc_yJ9_floorDiv_f86c9 wm_X0_42 ws_yJ9_floorDiv_f86c9 wn_J9 hd_yJ9_floorDiv_f86c9 rfl ⟨by first | decide | omega, by first | decide | omega⟩ hl.1 (Nat.le_of_ble_eq_true rfl) (fun v I2 J2 H locs hp hI => ?_)
      obtain ⟨hv, hI2, hJ2⟩ := hp
      subst hv
      rw [hI2, hJ2] at hI
      refine W.eq (g2 := F0 m 43 ls [.long (fd64 (J (o + 2 + a) cl) (J (o + 2 + b) cl))]) rfl ?_
      refine lv_lstore (lv' := [(5, .long (fd64 (J (o + 2 + a) cl) (J (o + 2 + b) cl))), (4, .int (nI g)), (0, .ref (ad o)), (1, .int (nI a)), (2, .int (nI b)), (3, .int (nI cl))]) hx hb dX0_divideOut_43 hl (by decide) rfl (fun ls hl => ?_)
      refine lv_iconst (v := nI 0) hx hb dX0_divideOut_45 (by decide) ?_
      refine lv_istore (lv' := [(7, .int (nI 0)), (5, .long (fd64 (J (o + 2 + a) cl) (J (o + 2 + b) cl))), (4, .int (nI g)), (0, .ref (ad o)), (1, .int (nI a)), (2, .int (nI b)), (3, .int (nI cl))]) hx hb dX0_divideOut_46 hl (by decide) rfl (fun ls hl => ?_)
      refine lp_div1 X hN hL ha hb2 hcl hw hwm (J9 := j_div1 (o + 2 + a) (o + 2 + b) w (fd64 (J (o + 2 + a) cl) (J (o + 2 + b) cl)) J) (fun H locs ls hI hl => ?_) w 0 J _ _ _ (Nat.zero_add _) hI (lv_sub hl [0, 1, 2, 3, 4, 5, 6] rfl) rfl
      refine fn_iinc (a := g) (lv' := [(4, .int (nI (g + 1))), (7, .int (nI w)), (5, .long (fd64 (J (o + 2 + a) cl) (J (o + 2 + b) cl))), (0, .ref (ad o)), (1, .int (nI a)), (2, .int (nI b)), (3, .int (nI cl))]) X dX0_divideOut_116 hl (k := 2) rfl (by decide) rfl (fun ls hl => ?_)
      refine lv_goto (tgt := 3) hx hb dX0_divideOut_119 (by decide) ?_
      exact ih (g + 1) _ _ _ _ (by omega) hI (lv_sub hl [0, 3, 4, 5, 6] rfl) (by rw [← hF]; simp only [j_div]; rw [if_neg c2])
theorem m_X0_divideOut (D : va_G) (dA : Nat → ClassId) (ad : Nat → Nat) (N : Nat) (I : fl_TI) (J : fl_TJ) {o nr mw a b cl w : Nat} (hN : 30 ≤ N) (hL : fl_lat o nr mw) (ha : a < nr) (hb2 : b < nr) (hcl : cl < w) (hw : I o 3 = nI w) (hwm : w ≤ mw) : FM yX0_divideOut cX0_divideOut 10 none 1 D dA ad N [.ref (ad o), .int (nI a), .int (nI b), .int (nI cl)] I J (fun v I' J' => v = none ∧ I' = I ∧ J' = j_div (o + 2 + a) (o + 2 + b) cl w 200 J) := by
  refine FM.ofW RX0 rfl (by decide +kernel) (Nat.le_of_ble_eq_true rfl) ?_
  intro p l e s m args below meth c ls X hr hlk hI hl
  have hx := X.1
  have hb := X.2.1
  have hl : lv_has ls 10 [(0, .ref (ad o)), (1, .int (nI a)), (2, .int (nI b)), (3, .int (nI cl))] := hl
  refine lv_iconst (v := nI 0) hx hb dX0_divideOut_0 (by decide) ?_
  refine lv_istore (lv' := [(4, .int (nI 0)), (0, .ref (ad o)), (1, .int (nI a)), (2, .int (nI b)), (3, .int (nI cl))]) hx hb dX0_divideOut_1 hl (by decide) rfl (fun ls hl => ?_)
  exact lp_div X hN hL ha hb2 hcl hw hwm ⟨by decide, by decide⟩ (fun g H locs ls hI hl => fl_vret X hr hlk hI dX0_divideOut_122 ⟨rfl, rfl, rfl⟩) 200 0 J _ _ _ (Nat.zero_add _) hI hl rfl
theorem lp_reduce {p : Program} {l : Launch} {e : Env} {R : Room} {s : State} {m : MethodId} {args : Array Value} {below : List Frame} {meth : Method} {c : Code} {Q : State → Prop} {D : va_G} {dA : Nat → ClassId} {ad : Nat → Nat} {N : Nat} {A : Nat → Prop} {H0 : Heap} {I : fl_TI} {J9 : fl_TJ} (X : CallFix p m c cX0_reduce 3 s args fl_tb RX0) {o nr mw q w rk : Nat} {ld : Nat → Nat} (hN : 30 ≤ N) (hL : fl_lat o nr mw) (hq : q < N) (hq1 : fl_k q = 1) (hw : I o 3 = nI w) (hwm : w ≤ mw) (hwq : w ≤ fl_n q) (hrk : I o 4 = nI rk) (hrr : rk ≤ nr) (hld : ∀ i, i < rk → I (o + 2 + nr) i = nI (ld i) ∧ ld i < mw ∧ ld i < fl_n q) (hR : 1 + 1 ≤ R.frames ∧ 8 + (7 + 11) + 40 * 1 ≤ R.locals)
    (kx : ∀ (H : Heap) (locs : List Loc) (ls : Array Slot), fl_I D dA ad N I J9 A s H0 H locs → lv_has ls 3 [(2, .int (nI rk)), (0, .ref (ad o)), (1, .ref (ad q))] → W p l e R s m args below meth c H locs 0 0 Q (F0 m 22 ls [])) :
    ∀ (k i : Nat) (J : fl_TJ) (H : Heap) (locs : List Loc) (ls : Array Slot), i + k = rk → fl_I D dA ad N I J A s H0 H locs → lv_has ls 3 [(2, .int (nI i)), (0, .ref (ad o)), (1, .ref (ad q))] → fl_it (fun i J => j_red q (o + 2 + i) (ld i) w J) k i J = J9 → W p l e R s m args below meth c H locs 0 0 Q (F0 m 2 ls []) := by
  have hx := X.1
  have hb := X.2.1
  have h21 := lat_b hL
  intro k
  induction k with
  | zero =>
    intro i J H locs ls hk hI hl hF
    have hF : J = J9 := hF
    subst hF
    have hk : rk = i := by omega
    subst hk
    refine lv_iload_n hx hb dX0_reduce_2 rfl (lv_at hl 0 rfl) ?_
    refine lv_aload_n hx hb dX0_reduce_3 rfl (lv_at hl 1 rfl) ?_
    refine fl_getL X hI dX0_reduce_4 hN hL 4 (by decide) wf_X0_27 rfl ?_
    refine W.eq (g2 := F0 m 7 ls [.int (nI rk), .int (nI rk)]) (by rw [hrk]) ?_
    refine fn_icmp_ge X (tgt := 22) dX0_reduce_7 (by decide) (by omega) (by omega) (fun c1 => ?_) (fun c1 => absurd c1 (by omega))
    exact kx _ _ _ hI (lv_sub hl [0, 1, 2] rfl)
  | succ k ih =>
    intro i J H locs ls hk hI hl hF
    refine lv_iload_n hx hb dX0_reduce_2 rfl (lv_at hl 0 rfl) ?_
    refine lv_aload_n hx hb dX0_reduce_3 rfl (lv_at hl 1 rfl) ?_
    refine fl_getL X hI dX0_reduce_4 hN hL 4 (by decide) wf_X0_27 rfl ?_
    refine W.eq (g2 := F0 m 7 ls [.int (nI rk), .int (nI i)]) (by rw [hrk]) ?_
    refine fn_icmp_ge X (tgt := 22) dX0_reduce_7 (by decide) (by omega) (by omega) (fun c1 => absurd c1 (by omega)) (fun c1 => ?_)
    refine lv_aload_n hx hb dX0_reduce_10 rfl (lv_at hl 1 rfl) ?_
    refine lv_iload_n hx hb dX0_reduce_11 rfl (lv_at hl 0 rfl) ?_
    refine lv_aload_n hx hb dX0_reduce_12 rfl (lv_at hl 2 rfl) ?_
    refine fl_callV (k := o) (As := [.int (nI i), .ref (ad q)]) (rest := []) X hI dX0_reduce_13 (m_X0_reduceBy D dA ad N I J hN hL hq hq1 (by omega) hw hwm hwq (hld _ (by omega)).1 (hld _ (by omega)).2.1 (hld _ (by omega)).2.2) (by have := lat_b hL; omega) (fl_c_4 (lat_k hL)) rfl rfl wc_yX0_reduceBy wm_X0_48 wi_yX0_reduceBy wl_yX0_reduceBy wn_X0 hd_yX0_reduceBy rfl ⟨by first | decide | omega, by first | decide | omega⟩ hl.1 (Nat.le_of_ble_eq_true rfl) (fun v I2 J2 H locs hp hI => ?_)
    obtain ⟨hv, hI2, hJ2⟩ := hp
    subst hv
    rw [hI2, hJ2] at hI
    refine W.eq (g2 := F0 m 16 ls []) rfl ?_
    refine fn_iinc (a := i) (lv' := [(2, .int (nI (i + 1))), (0, .ref (ad o)), (1, .ref (ad q))]) X dX0_reduce_16 hl (k := 0) rfl (by decide) rfl (fun ls hl => ?_)
    refine lv_goto (tgt := 2) hx hb dX0_reduce_19 (by decide) ?_
    exact ih (i + 1) _ _ _ _ (by omega) hI (lv_sub hl [0, 1, 2] rfl) hF
def j_reduce (o q w rk : Nat) (ld : Nat → Nat) (J : fl_TJ) : fl_TJ := fl_it (fun i J => j_red q (o + 2 + i) (ld i) w J) rk 0 J
theorem m_X0_reduce (D : va_G) (dA : Nat → ClassId) (ad : Nat → Nat) (N : Nat) (I : fl_TI) (J : fl_TJ) {o nr mw q w rk : Nat} {ld : Nat → Nat} (hN : 30 ≤ N) (hL : fl_lat o nr mw) (hq : q < N) (hq1 : fl_k q = 1) (hw : I o 3 = nI w) (hwm : w ≤ mw) (hwq : w ≤ fl_n q) (hrk : I o 4 = nI rk) (hrr : rk ≤ nr) (hld : ∀ i, i < rk → I (o + 2 + nr) i = nI (ld i) ∧ ld i < mw ∧ ld i < fl_n q) : FM yX0_reduce cX0_reduce 3 none 2 D dA ad N [.ref (ad o), .ref (ad q)] I J (fun v I' J' => v = none ∧ I' = I ∧ J' = j_reduce o q w rk ld J) := by
  refine FM.ofW RX0 rfl (by decide +kernel) (Nat.le_of_ble_eq_true rfl) ?_
  intro p l e s m args below meth c ls X hr hlk hI hl
  have hx := X.1
  have hb := X.2.1
  have hl : lv_has ls 3 [(0, .ref (ad o)), (1, .ref (ad q))] := hl
  refine lv_iconst (v := nI 0) hx hb dX0_reduce_0 (by decide) ?_
  refine lv_istore_n (lv' := [(2, .int (nI 0)), (0, .ref (ad o)), (1, .ref (ad q))]) hx hb dX0_reduce_1 rfl hl (by decide) rfl (fun ls hl => ?_)
  exact lp_reduce X hN hL hq hq1 hw hwm hwq hrk hrr hld ⟨by decide, by decide⟩ (fun H locs ls hI hl => fl_vret X hr hlk hI dX0_reduce_22 ⟨rfl, rfl, rfl⟩) rk 0 J _ _ _ (Nat.zero_add _) hI hl rfl
def j_neg (r w : Nat) (J : fl_TJ) : fl_TJ := fl_it (fun j J => fl_up J r j (-(J r j))) w 0 J
def j_add1 (o rk cl w : Nat) (J : fl_TJ) : fl_TJ := fl_it (fun i J => j_red (o + 2 + i) (o + 2 + rk) cl w J) rk 0 J
def j_add (o rk cl w : Nat) (J : fl_TJ) : fl_TJ := j_add1 o rk cl w (if J (o + 2 + rk) cl < 0 then j_neg (o + 2 + rk) w J else J)
def i_add (o nr rk cl : Nat) (I : fl_TI) : fl_TI := fl_up (fl_up I (o + 2 + nr) rk (nI cl)) o 4 (nI (rk + 1))
theorem lp_neg {p : Program} {l : Launch} {e : Env} {R : Room} {s : State} {m : MethodId} {args : Array Value} {below : List Frame} {meth : Method} {c : Code} {Q : State → Prop} {D : va_G} {dA : Nat → ClassId} {ad : Nat → Nat} {N : Nat} {A : Nat → Prop} {H0 : Heap} {I : fl_TI} {J9 : fl_TJ} (X : CallFix p m c cX0_addLead 3 s args fl_tb RX0) {o nr mw rk cl w : Nat} (hN : 30 ≤ N) (hL : fl_lat o nr mw) (hrk : I o 4 = nI rk) (hrr : rk < nr) (hcl : cl < w) (hw : I o 3 = nI w) (hwm : w ≤ mw)
    (kx : ∀ (H : Heap) (locs : List Loc) (ls : Array Slot), fl_I D dA ad N I J9 A s H0 H locs → lv_has ls 3 [(2, .int (nI w)), (0, .ref (ad o)), (1, .int (nI cl))] → W p l e R s m args below meth c H locs 0 0 Q (F0 m 55 ls [])) :
    ∀ (k i : Nat) (J : fl_TJ) (H : Heap) (locs : List Loc) (ls : Array Slot), i + k = w → fl_I D dA ad N I J A s H0 H locs → lv_has ls 3 [(2, .int (nI i)), (0, .ref (ad o)), (1, .int (nI cl))] → fl_it (fun j J => fl_up J (o + 2 + rk) j (-(J (o + 2 + rk) j))) k i J = J9 → W p l e R s m args below meth c H locs 0 0 Q (F0 m 18 ls []) := by
  have hx := X.1
  have hb := X.2.1
  have h21 := lat_b hL
  intro k
  induction k with
  | zero =>
    intro i J H locs ls hk hI hl hF
    have hF : J = J9 := hF
    subst hF
    have hk : w = i := by omega
    subst hk
    refine lv_iload_n hx hb dX0_addLead_18 rfl (lv_at hl 0 rfl) ?_
    refine lv_aload_n hx hb dX0_addLead_19 rfl (lv_at hl 1 rfl) ?_
    refine fl_getL X hI dX0_addLead_20 hN hL 3 (by decide) wf_X0_24 rfl ?_
    refine W.eq (g2 := F0 m 23 ls [.int (nI w), .int (nI w)]) (by rw [hw]) ?_
    refine fn_icmp_ge X (tgt := 55) dX0_addLead_23 (by decide) (by omega) (by omega) (fun c1 => ?_) (fun c1 => absurd c1 (by omega))
    exact kx _ _ _ hI (lv_sub hl [0, 1, 2] rfl)
  | succ k ih =>
    intro i J H locs ls hk hI hl hF
    refine lv_iload_n hx hb dX0_addLead_18 rfl (lv_at hl 0 rfl) ?_
    refine lv_aload_n hx hb dX0_addLead_19 rfl (lv_at hl 1 rfl) ?_
    refine fl_getL X hI dX0_addLead_20 hN hL 3 (by decide) wf_X0_24 rfl ?_
    refine W.eq (g2 := F0 m 23 ls [.int (nI w), .int (nI i)]) (by rw [hw]) ?_
    refine fn_icmp_ge X (tgt := 55) dX0_addLead_23 (by decide) (by omega) (by omega) (fun c1 => absurd c1 (by omega)) (fun c1 => ?_)
    refine lv_aload_n hx hb dX0_addLead_26 rfl (lv_at hl 1 rfl) ?_
    refine fl_getL X hI dX0_addLead_27 hN hL 0 (by decide) wf_X0_11 rfl ?_
    refine lv_aload_n hx hb dX0_addLead_30 rfl (lv_at hl 1 rfl) ?_
    refine fl_getL X hI dX0_addLead_31 hN hL 4 (by decide) wf_X0_27 rfl ?_
    refine W.eq (g2 := F0 m 34 ls [.int (nI rk), .ref (ad (o + 1))]) (by rw [hrk]) ?_
    refine fn_aald3 (k := o + 1) X hI dX0_addLead_34 (by have := lat_b hL; omega) (lat_k1 hL) (by rw [lat_n1 hL]; omega) ?_
    refine lv_iload_n hx hb dX0_addLead_35 rfl (lv_at hl 0 rfl) ?_
    refine lv_aload_n hx hb dX0_addLead_36 rfl (lv_at hl 1 rfl) ?_
    refine fl_getL X hI dX0_addLead_37 hN hL 0 (by decide) wf_X0_11 rfl ?_
    refine lv_aload_n hx hb dX0_addLead_40 rfl (lv_at hl 1 rfl) ?_
    refine fl_getL X hI dX0_addLead_41 hN hL 4 (by decide) wf_X0_27 rfl ?_
    refine W.eq (g2 := F0 m 44 ls [.int (nI rk), .ref (ad (o + 1)), .int (nI i), .ref (ad (o + 2 + rk))]) (by rw [hrk]) ?_
    refine fn_aald3 (k := o + 1) X hI dX0_addLead_44 (by have := lat_b hL; omega) (lat_k1 hL) (by rw [lat_n1 hL]; omega) ?_
    refine lv_iload_n hx hb dX0_addLead_45 rfl (lv_at hl 0 rfl) ?_
    refine fn_lald (k := o + 2 + rk) X hI dX0_addLead_46 (by have := lat_b hL; omega) (lat_k2 hL (by omega)) (by rw [lat_n2 hL (by omega)]; omega) ?_
    refine lv_lneg hx hb dX0_addLead_47 ?_
    refine fn_last (k := o + 2 + rk) X hI dX0_addLead_48 (by have := lat_b hL; omega) (lat_k2 hL (by omega)) (by rw [lat_n2 hL (by omega)]; omega) (fun H locs hI => ?_)
    refine fn_iinc (a := i) (lv' := [(2, .int (nI (i + 1))), (0, .ref (ad o)), (1, .int (nI cl))]) X dX0_addLead_49 hl (k := 0) rfl (by decide) rfl (fun ls hl => ?_)
    refine lv_goto (tgt := 18) hx hb dX0_addLead_52 (by decide) ?_
    exact ih (i + 1) _ _ _ _ (by omega) hI (lv_sub hl [0, 1, 2] rfl) hF
theorem lp_addL {p : Program} {l : Launch} {e : Env} {R : Room} {s : State} {m : MethodId} {args : Array Value} {below : List Frame} {meth : Method} {c : Code} {Q : State → Prop} {D : va_G} {dA : Nat → ClassId} {ad : Nat → Nat} {N : Nat} {A : Nat → Prop} {H0 : Heap} {I : fl_TI} {J9 : fl_TJ} (X : CallFix p m c cX0_addLead 3 s args fl_tb RX0) {o nr mw rk cl w : Nat} (hN : 30 ≤ N) (hL : fl_lat o nr mw) (hrk : I o 4 = nI rk) (hrr : rk < nr) (hcl : cl < w) (hw : I o 3 = nI w) (hwm : w ≤ mw) (hlc : I (o + 2 + nr) rk = nI cl) (hR : 1 + 1 ≤ R.frames ∧ 8 + (7 + 11) + 40 * 1 ≤ R.locals)
    (kx : ∀ (H : Heap) (locs : List Loc) (ls : Array Slot), fl_I D dA ad N I J9 A s H0 H locs → lv_has ls 3 [(2, .int (nI rk)), (0, .ref (ad o)), (1, .int (nI cl))] → W p l e R s m args below meth c H locs 0 0 Q (F0 m 95 ls [])) :
    ∀ (k i : Nat) (J : fl_TJ) (H : Heap) (locs : List Loc) (ls : Array Slot), i + k = rk → fl_I D dA ad N I J A s H0 H locs → lv_has ls 3 [(2, .int (nI i)), (0, .ref (ad o)), (1, .int (nI cl))] → fl_it (fun i J => j_red (o + 2 + i) (o + 2 + rk) cl w J) k i J = J9 → W p l e R s m args below meth c H locs 0 0 Q (F0 m 67 ls []) := by
  have hx := X.1
  have hb := X.2.1
  have h21 := lat_b hL
  intro k
  induction k with
  | zero =>
    intro i J H locs ls hk hI hl hF
    have hF : J = J9 := hF
    subst hF
    have hk : rk = i := by omega
    subst hk
    refine lv_iload_n hx hb dX0_addLead_67 rfl (lv_at hl 0 rfl) ?_
    refine lv_aload_n hx hb dX0_addLead_68 rfl (lv_at hl 1 rfl) ?_
    refine fl_getL X hI dX0_addLead_69 hN hL 4 (by decide) wf_X0_27 rfl ?_
    refine W.eq (g2 := F0 m 72 ls [.int (nI rk), .int (nI rk)]) (by rw [hrk]) ?_
    refine fn_icmp_ge X (tgt := 95) dX0_addLead_72 (by decide) (by omega) (by omega) (fun c1 => ?_) (fun c1 => absurd c1 (by omega))
    exact kx _ _ _ hI (lv_sub hl [0, 1, 2] rfl)
  | succ k ih =>
    intro i J H locs ls hk hI hl hF
    refine lv_iload_n hx hb dX0_addLead_67 rfl (lv_at hl 0 rfl) ?_
    refine lv_aload_n hx hb dX0_addLead_68 rfl (lv_at hl 1 rfl) ?_
    refine fl_getL X hI dX0_addLead_69 hN hL 4 (by decide) wf_X0_27 rfl ?_
    refine W.eq (g2 := F0 m 72 ls [.int (nI rk), .int (nI i)]) (by rw [hrk]) ?_
    refine fn_icmp_ge X (tgt := 95) dX0_addLead_72 (by decide) (by omega) (by omega) (fun c1 => absurd c1 (by omega)) (fun c1 => ?_)
    refine lv_aload_n hx hb dX0_addLead_75 rfl (lv_at hl 1 rfl) ?_
    refine lv_aload_n hx hb dX0_addLead_76 rfl (lv_at hl 1 rfl) ?_
    refine fl_getL X hI dX0_addLead_77 hN hL 4 (by decide) wf_X0_27 rfl ?_
    refine W.eq (g2 := F0 m 80 ls [.int (nI rk), .ref (ad o)]) (by rw [hrk]) ?_
    refine lv_aload_n hx hb dX0_addLead_80 rfl (lv_at hl 1 rfl) ?_
    refine fl_getL X hI dX0_addLead_81 hN hL 0 (by decide) wf_X0_11 rfl ?_
    refine lv_iload_n hx hb dX0_addLead_84 rfl (lv_at hl 0 rfl) ?_
    refine fn_aald3 (k := o + 1) X hI dX0_addLead_85 (by have := lat_b hL; omega) (lat_k1 hL) (by rw [lat_n1 hL]; omega) ?_
    refine fl_callV (k := o) (As := [.int (nI rk), .ref (ad (o + 2 + i))]) (rest := []) X hI dX0_addLead_86 (m_X0_reduceBy D dA ad N I J hN hL (by omega) (lat_k2 hL (by omega)) hrr hw hwm (by rw [lat_n2 hL (by omega)]; omega) hlc (by omega) (by rw [lat_n2 hL (by omega)]; omega)) (by have := lat_b hL; omega) (fl_c_4 (lat_k hL)) rfl rfl wc_yX0_reduceBy wm_X0_48 wi_yX0_reduceBy wl_yX0_reduceBy wn_X0 hd_yX0_reduceBy rfl ⟨by first | decide | omega, by first | decide | omega⟩ hl.1 (Nat.le_of_ble_eq_true rfl) (fun v I2 J2 H locs hp hI => ?_)
    obtain ⟨hv, hI2, hJ2⟩ := hp
    subst hv
    rw [hI2, hJ2] at hI
    refine W.eq (g2 := F0 m 89 ls []) rfl ?_
    refine fn_iinc (a := i) (lv' := [(2, .int (nI (i + 1))), (0, .ref (ad o)), (1, .int (nI cl))]) X dX0_addLead_89 hl (k := 0) rfl (by decide) rfl (fun ls hl => ?_)
    refine lv_goto (tgt := 67) hx hb dX0_addLead_92 (by decide) ?_
    exact ih (i + 1) _ _ _ _ (by omega) hI (lv_sub hl [0, 1, 2] rfl) hF
theorem tl_add {p : Program} {l : Launch} {e : Env} {s : State} {m : MethodId} {args : Array Value} {below : List Frame} {meth : Method} {c : Code} {D : va_G} {dA : Nat → ClassId} {ad : Nat → Nat} {N : Nat} {A : Nat → Prop} {I : fl_TI} {J : fl_TJ} {H : Heap} {locs : List Loc} {ls : Array Slot} {post : Option Value → fl_TI → fl_TJ → Prop} (X : CallFix p m c cX0_addLead 3 s args fl_tb RX0) (hr : meth.sig.returnType = none) (hlk : meth.locks = false) {o nr mw rk cl w : Nat} (hN : 30 ≤ N) (hL : fl_lat o nr mw) (hrk : I o 4 = nI rk) (hrr : rk < nr) (hcl : cl < w) (hw : I o 3 = nI w) (hwm : w ≤ mw) (hI : fl_I D dA ad N I J A s s.heap H locs) (hl : lv_has ls 3 [(0, .ref (ad o)), (1, .int (nI cl))]) (hp : post none (i_add o nr rk cl I) (j_add1 o rk cl w J)) : W p l e (fl_rm 2) s m args below meth c H locs 0 0 (MQ below (fl_Q D dA ad N post A) args s 0 0 A) (F0 m 55 ls []) := by
  have hx := X.1
  have hb := X.2.1
  have h21 := lat_b hL
  refine lv_aload_n hx hb dX0_addLead_55 rfl (lv_at hl 0 rfl) ?_
  refine fl_getL X hI dX0_addLead_56 hN hL 1 (by decide) wf_X0_16 rfl ?_
  refine lv_aload_n hx hb dX0_addLead_59 rfl (lv_at hl 0 rfl) ?_
  refine fl_getL X hI dX0_addLead_60 hN hL 4 (by decide) wf_X0_27 rfl ?_
  refine W.eq (g2 := F0 m 63 ls [.int (nI rk), .ref (ad (o + 2 + nr))]) (by rw [hrk]) ?_
  refine lv_iload_n hx hb dX0_addLead_63 rfl (lv_at hl 1 rfl) ?_
  refine fn_iast (k := o + 2 + nr) X hI dX0_addLead_64 (by have := lat_b hL; omega) (lat_kl hL) (by rw [lat_nl hL]; omega) (fun H locs hI => ?_)
  refine lv_iconst (v := nI 0) hx hb dX0_addLead_65 (by decide) ?_
  refine lv_istore_n (lv' := [(2, .int (nI 0)), (0, .ref (ad o)), (1, .int (nI cl))]) hx hb dX0_addLead_66 rfl hl (by decide) rfl (fun ls hl => ?_)
  refine lp_addL X hN hL (by rw [fl_up_k (by omega)]; exact hrk) hrr hcl (by rw [fl_up_k (by omega)]; exact hw) hwm fl_up_s ⟨by decide, by decide⟩ (J9 := j_add1 o rk cl w J) (fun H locs ls hI hl => ?_) rk 0 J _ _ _ (Nat.zero_add _) hI hl rfl
  refine lv_aload_n hx hb dX0_addLead_95 rfl (lv_at hl 1 rfl) ?_
  refine lv_dup hx hb dX0_addLead_96 rfl ?_
  refine fl_getL X hI dX0_addLead_97 hN hL 4 (by decide) wf_X0_27 rfl ?_
  refine W.eq (g2 := F0 m 100 ls [.int (nI rk), .ref (ad o)]) (by rw [fl_up_k (by omega), hrk]) ?_
  refine lv_iconst (v := nI 1) hx hb dX0_addLead_100 (by decide) ?_
  refine fn_iadd X dX0_addLead_101 ?_
  refine fl_put0 X hI dX0_addLead_102 (by have := lat_b hL; omega) (lat_k hL) 4 (by decide) wf_X0_27 (fun H locs hI => ?_)
  exact fl_vret X hr hlk hI dX0_addLead_105 hp
theorem m_X0_addLead (D : va_G) (dA : Nat → ClassId) (ad : Nat → Nat) (N : Nat) (I : fl_TI) (J : fl_TJ) {o nr mw rk cl w : Nat} (hN : 30 ≤ N) (hL : fl_lat o nr mw) (hrk : I o 4 = nI rk) (hrr : rk < nr) (hcl : cl < w) (hw : I o 3 = nI w) (hwm : w ≤ mw) : FM yX0_addLead cX0_addLead 3 none 2 D dA ad N [.ref (ad o), .int (nI cl)] I J (fun v I' J' => v = none ∧ I' = i_add o nr rk cl I ∧ J' = j_add o rk cl w J) := by
  refine FM.ofW RX0 rfl (by decide +kernel) (Nat.le_of_ble_eq_true rfl) ?_
  intro p l e s m args below meth c ls X hr hlk hI hl
  have hx := X.1
  have hb := X.2.1
  have hl : lv_has ls 3 [(0, .ref (ad o)), (1, .int (nI cl))] := hl
  have h21 := lat_b hL
  refine lv_aload_n hx hb dX0_addLead_0 rfl (lv_at hl 0 rfl) ?_
  refine fl_getL X hI dX0_addLead_1 hN hL 0 (by decide) wf_X0_11 rfl ?_
  refine lv_aload_n hx hb dX0_addLead_4 rfl (lv_at hl 0 rfl) ?_
  refine fl_getL X hI dX0_addLead_5 hN hL 4 (by decide) wf_X0_27 rfl ?_
  refine W.eq (g2 := F0 m 8 ls [.int (nI rk), .ref (ad (o + 1))]) (by rw [hrk]) ?_
  refine fn_aald3 (k := o + 1) X hI dX0_addLead_8 (by have := lat_b hL; omega) (lat_k1 hL) (by rw [lat_n1 hL]; omega) ?_
  refine lv_iload_n hx hb dX0_addLead_9 rfl (lv_at hl 1 rfl) ?_
  refine fn_lald (k := o + 2 + rk) X hI dX0_addLead_10 (by have := lat_b hL; omega) (lat_k2 hL (by omega)) (by rw [lat_n2 hL (by omega)]; omega) ?_
  refine lv_lconst (v := 0) hx hb dX0_addLead_11 rfl ?_
  refine fl_lc_ge (tgt := 55) hx hb dX0_addLead_12 dX0_addLead_13 (by decide) (fun c1 => ?_) (fun c1 => ?_)
  · exact tl_add X hr hlk hN hL hrk hrr hcl hw hwm hI hl ⟨rfl, rfl, by unfold j_add; rw [if_neg c1]⟩
  · refine lv_iconst (v := nI 0) hx hb dX0_addLead_16 (by decide) ?_
    refine lv_istore_n (lv' := [(2, .int (nI 0)), (0, .ref (ad o)), (1, .int (nI cl))]) hx hb dX0_addLead_17 rfl hl (by decide) rfl (fun ls hl => ?_)
    refine lp_neg X hN hL hrk hrr hcl hw hwm (J9 := j_neg (o + 2 + rk) w J) (fun H locs ls hI hl => ?_) w 0 J _ _ _ (Nat.zero_add _) hI hl rfl
    exact tl_add X hr hlk hN hL hrk hrr hcl hw hwm hI (lv_sub hl [1, 2] rfl) ⟨rfl, rfl, by unfold j_add; rw [if_pos c1]⟩
