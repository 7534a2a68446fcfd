/-! bringToForm -/
def j_elim (o rk cl w h : Nat) (J : fl_TJ) : fl_TJ := fl_it (fun i J => j_div (o + 2 + rk) (o + 2 + i) cl w 200 J) (h - (rk + 1)) (rk + 1) J
def b_step (o nr h w cl : Nat) (x : Nat × fl_TI × fl_TJ) : Nat × fl_TI × fl_TJ :=
  if (j_elim o x.1 cl w h x.2.2) (o + 2 + x.1) cl = 0 then (x.1, x.2.1, j_elim o x.1 cl w h x.2.2) else (x.1 + 1, i_add o nr x.1 cl x.2.1, j_add o x.1 cl w (j_elim o x.1 cl w h x.2.2))
def b_form (o nr h w : Nat) : Nat → Nat → Nat × fl_TI × fl_TJ → Nat × fl_TI × fl_TJ
  | 0, _, x => x
  | k + 1, cl, x => if h ≤ x.1 then x else b_form o nr h w k (cl + 1) (b_step o nr h w cl x)
theorem lp_elim {p : Program} {l : Launch} {e : Env} {R : Room} {s : State} {m : MethodId} {args : Array Value} {below : List Frame} {meth : Method} {c : Code} {Q : State → Prop} {D : va_G} {dA : Nat → ClassId} {ad : Nat → Nat} {N : Nat} {A : Nat → Prop} {H0 : Heap} {I : fl_TI} {J9 : fl_TJ} (X : CallFix p m c cX0_bringToForm 3 s args fl_tb RX0) {o nr mw h w rk cl : Nat} (hN : 30 ≤ N) (hL : fl_lat o nr mw) (hh : I o 2 = nI h) (hhr : h ≤ nr) (hw : I o 3 = nI w) (hwm : w ≤ mw) (hrk : I o 4 = nI rk) (hrh : rk < h) (hcl : cl < w) (hR : 1 + 1 ≤ R.frames ∧ 8 + (10 + 11) + 40 * 1 ≤ R.locals)
    (kx : ∀ (H : Heap) (locs : List Loc) (ls : Array Slot), fl_I D dA ad N I J9 A s H0 H locs → lv_has ls 3 [(2, .int (nI h)), (1, .int (nI cl)), (0, .ref (ad o))] → W p l e R s m args below meth c H locs 0 0 Q (F0 m 52 ls [])) :
    ∀ (k i : Nat) (J : fl_TJ) (H : Heap) (locs : List Loc) (ls : Array Slot), i + k = h → fl_I D dA ad N I J A s H0 H locs → lv_has ls 3 [(2, .int (nI i)), (1, .int (nI cl)), (0, .ref (ad o))] → fl_it (fun i J => j_div (o + 2 + rk) (o + 2 + i) cl w 200 J) k i J = J9 → W p l e R s m args below meth c H locs 0 0 Q (F0 m 28 ls []) := by
  have hx := X.1
  have hb := X.2.1
  have h21 := lat_b hL
  intro k
  induction k with
  | zero =>
    intro i J H locs ls hk hI hl hF
    have hF : J = J9 := hF
    subst hF
    have hk : h = i := by omega
    subst hk
    refine lv_iload_n hx hb dX0_bringToForm_28 rfl (lv_at hl 0 rfl) ?_
    refine lv_aload_n hx hb dX0_bringToForm_29 rfl (lv_at hl 2 rfl) ?_
    refine fl_getL X hI dX0_bringToForm_30 hN hL 2 (by decide) wf_X0_20 rfl ?_
    refine W.eq (g2 := F0 m 33 ls [.int (nI h), .int (nI h)]) (by rw [hh]) ?_
    refine fn_icmp_ge X (tgt := 52) dX0_bringToForm_33 (by decide) (by omega) (by omega) (fun c1 => ?_) (fun c1 => absurd c1 (by omega))
    exact kx _ _ _ hI (lv_sub hl [0, 1, 2] rfl)
  | succ k ih =>
    intro i J H locs ls hk hI hl hF
    refine lv_iload_n hx hb dX0_bringToForm_28 rfl (lv_at hl 0 rfl) ?_
    refine lv_aload_n hx hb dX0_bringToForm_29 rfl (lv_at hl 2 rfl) ?_
    refine fl_getL X hI dX0_bringToForm_30 hN hL 2 (by decide) wf_X0_20 rfl ?_
    refine W.eq (g2 := F0 m 33 ls [.int (nI h), .int (nI i)]) (by rw [hh]) ?_
    refine fn_icmp_ge X (tgt := 52) dX0_bringToForm_33 (by decide) (by omega) (by omega) (fun c1 => absurd c1 (by omega)) (fun c1 => ?_)
    refine lv_aload_n hx hb dX0_bringToForm_36 rfl (lv_at hl 2 rfl) ?_
    refine lv_aload_n hx hb dX0_bringToForm_37 rfl (lv_at hl 2 rfl) ?_
    refine fl_getL X hI dX0_bringToForm_38 hN hL 4 (by decide) wf_X0_27 rfl ?_
    refine W.eq (g2 := F0 m 41 ls [.int (nI rk), .ref (ad o)]) (by rw [hrk]) ?_
    refine lv_iload_n hx hb dX0_bringToForm_41 rfl (lv_at hl 0 rfl) ?_
    refine lv_iload_n hx hb dX0_bringToForm_42 rfl (lv_at hl 1 rfl) ?_
    refine fl_callV (k := o) (As := [.int (nI rk), .int (nI i), .int (nI cl)]) (rest := []) X hI dX0_bringToForm_43 (m_X0_divideOut D dA ad N I J hN hL (by omega) (by omega) hcl hw hwm) (by have := lat_b hL; omega) (fl_c_4 (lat_k hL)) rfl rfl wc_yX0_divideOut wm_X0_34 wi_yX0_divideOut wl_yX0_divideOut wn_X0 hd_yX0_divideOut rfl ⟨by first | decide | omega, by first | decide | omega⟩ hl.1 (Nat.le_of_ble_eq_true rfl) (fun v I2 J2 H locs hp hI => ?_)
    obtain ⟨hv, hI2, hJ2⟩ := hp
    subst hv
    rw [hI2, hJ2] at hI
    refine W.eq (g2 := F0 m 46 ls []) rfl ?_
    refine fn_iinc (a := i) (lv' := [(2, .int (nI (i + 1))), (1, .int (nI cl)), (0, .ref (ad o))]) X dX0_bringToForm_46 hl (k := 0) rfl (by decide) rfl (fun ls hl => ?_)
    refine lv_goto (tgt := 28) hx hb dX0_bringToForm_49 (by decide) ?_
    exact ih (i + 1) _ _ _ _ (by omega) hI (lv_sub hl [0, 1, 2] rfl) hF
theorem lp_form {p : Program} {l : Launch} {e : Env} {R : Room} {s : State} {m : MethodId} {args : Array Value} {below : List Frame} {meth : Method} {c : Code} {Q : State → Prop} {D : va_G} {dA : Nat → ClassId} {ad : Nat → Nat} {N : Nat} {A : Nat → Prop} {H0 : Heap} {rk9 : Nat} {I9 : fl_TI} {J9 : fl_TJ} (X : CallFix p m c cX0_bringToForm 3 s args fl_tb RX0) {o nr mw h w : Nat} (hN : 30 ≤ N) (hL : fl_lat o nr mw) (hhr : h ≤ nr) (hwm : w ≤ mw) (hR : 2 + 1 ≤ R.frames ∧ 8 + (10 + 11) + 40 * 2 ≤ R.locals)
    (kx : ∀ (cl : Nat) (H : Heap) (locs : List Loc) (ls : Array Slot), fl_I D dA ad N I9 J9 A s H0 H locs → lv_has ls 3 [(1, .int (nI cl)), (0, .ref (ad o))] → W p l e R s m args below meth c H locs 0 0 Q (F0 m 79 ls [])) :
    ∀ (k cl rk : Nat) (I : fl_TI) (J : fl_TJ) (H : Heap) (locs : List Loc) (ls : Array Slot), cl + k = w → I o 2 = nI h → I o 3 = nI w → I o 4 = nI rk → rk ≤ h → fl_I D dA ad N I J A s H0 H locs → lv_has ls 3 [(1, .int (nI cl)), (0, .ref (ad o))] → b_form o nr h w k cl (rk, I, J) = (rk9, I9, J9) → W p l e R s m args below meth c H locs 0 0 Q (F0 m 2 ls []) := by
  have hx := X.1
  have hb := X.2.1
  have h21 := lat_b hL
  intro k
  induction k with
  | zero =>
    intro cl rk I J H locs ls hk hh hw hrk hrh hI hl hF
    have hF : (rk, I, J) = (rk9, I9, J9) := hF
    cases hF
    have hk : w = cl := by omega
    subst hk
    refine lv_iload_n hx hb dX0_bringToForm_2 rfl (lv_at hl 0 rfl) ?_
    refine lv_aload_n hx hb dX0_bringToForm_3 rfl (lv_at hl 1 rfl) ?_
    refine fl_getL X hI dX0_bringToForm_4 hN hL 3 (by decide) wf_X0_24 rfl ?_
    refine W.eq (g2 := F0 m 7 ls [.int (nI w), .int (nI w)]) (by rw [hw]) ?_
    refine fn_icmp_ge X (tgt := 79) dX0_bringToForm_7 (by decide) (by omega) (by omega) (fun c1 => ?_) (fun c1 => absurd c1 (by omega))
    exact kx _ _ _ _ hI (lv_sub hl [0, 1] rfl)
  | succ k ih =>
    intro cl rk I J H locs ls hk hh hw hrk hrh hI hl hF
    refine lv_iload_n hx hb dX0_bringToForm_2 rfl (lv_at hl 0 rfl) ?_
    refine lv_aload_n hx hb dX0_bringToForm_3 rfl (lv_at hl 1 rfl) ?_
    refine fl_getL X hI dX0_bringToForm_4 hN hL 3 (by decide) wf_X0_24 rfl ?_
    refine W.eq (g2 := F0 m 7 ls [.int (nI w), .int (nI cl)]) (by rw [hw]) ?_
    refine fn_icmp_ge X (tgt := 79) dX0_bringToForm_7 (by decide) (by omega) (by omega) (fun c1 => absurd c1 (by omega)) (fun c1 => ?_)
    refine lv_aload_n hx hb dX0_bringToForm_10 rfl (lv_at hl 1 rfl) ?_
    refine fl_getL X hI dX0_bringToForm_11 hN hL 4 (by decide) wf_X0_27 rfl ?_
    refine W.eq (g2 := F0 m 14 ls [.int (nI rk)]) (by rw [hrk]) ?_
    refine lv_aload_n hx hb dX0_bringToForm_14 rfl (lv_at hl 1 rfl) ?_
    refine fl_getL X hI dX0_bringToForm_15 hN hL 2 (by decide) wf_X0_20 rfl ?_
    refine W.eq (g2 := F0 m 18 ls [.int (nI h), .int (nI rk)]) (by rw [hh]) ?_
    refine fn_icmp_ge X (tgt := 79) dX0_bringToForm_18 (by decide) (by omega) (by omega) (fun c2 => ?_) (fun c2 => ?_)
    · have hF : (rk, I, J) = (rk9, I9, J9) := by rw [← hF]; simp only [b_form]; rw [if_pos c2]
      cases hF
      exact kx _ _ _ _ hI (lv_sub hl [0, 1] rfl)
    · refine lv_aload_n hx hb dX0_bringToForm_21 rfl (lv_at hl 1 rfl) ?_
      refine fl_getL X hI dX0_bringToForm_22 hN hL 4 (by decide) wf_X0_27 rfl ?_
      refine W.eq (g2 := F0 m 25 ls [.int (nI rk)]) (by rw [hrk]) ?_
      refine lv_iconst (v := nI 1) hx hb dX0_bringToForm_25 (by decide) ?_
      refine fn_iadd X dX0_bringToForm_26 ?_
      refine lv_istore_n (lv' := [(2, .int (nI (rk + 1))), (1, .int (nI cl)), (0, .ref (ad o))]) hx hb dX0_bringToForm_27 rfl hl (by decide) rfl (fun ls hl => ?_)
      refine lp_elim X hN hL hh hhr hw hwm hrk c2 c1 ⟨by omega, by omega⟩ (J9 := j_elim o rk cl w h J) (fun H locs ls hI hl => ?_) (h - (rk + 1)) (rk + 1) J _ _ _ (by omega) hI (lv_sub hl [0, 1, 2] rfl) rfl
      refine lv_aload_n hx hb dX0_bringToForm_52 rfl (lv_at hl 2 rfl) ?_
      refine fl_getL X hI dX0_bringToForm_53 hN hL 0 (by decide) wf_X0_11 rfl ?_
      refine lv_aload_n hx hb dX0_bringToForm_56 rfl (lv_at hl 2 rfl) ?_
      refine fl_getL X hI dX0_bringToForm_57 hN hL 4 (by decide) wf_X0_27 rfl ?_
      refine W.eq (g2 := F0 m 60 ls [.int (nI rk), .ref (ad (o + 1))]) (by rw [hrk]) ?_
      refine fn_aald3 (k := o + 1) X hI dX0_bringToForm_60 (by have := lat_b hL; omega) (lat_k1 hL) (by rw [lat_n1 hL]; omega) ?_
      refine lv_iload_n hx hb dX0_bringToForm_61 rfl (lv_at hl 1 rfl) ?_
      refine fn_lald (k := o + 2 + rk) X hI dX0_bringToForm_62 (by have := lat_b hL; omega) (lat_k2 hL (by omega)) (by rw [lat_n2 hL (by omega)]; omega) ?_
      refine lv_lconst (v := 0) hx hb dX0_bringToForm_63 rfl ?_
      refine fl_lc_eq (tgt := 73) hx hb dX0_bringToForm_64 dX0_bringToForm_65 (by decide) (fun c3 => ?_) (fun c3 => ?_)
      · refine fn_iinc (a := cl) (lv' := [(1, .int (nI (cl + 1))), (2, .int (nI h)), (0, .ref (ad o))]) X dX0_bringToForm_73 hl (k := 1) rfl (by decide) rfl (fun ls hl => ?_)
        refine lv_goto (tgt := 2) hx hb dX0_bringToForm_76 (by decide) ?_
        exact ih (cl + 1) rk I _ _ _ _ (by omega) hh hw hrk hrh hI (lv_sub hl [0, 2] rfl) (by rw [← hF]; simp only [b_form]; rw [if_neg (by omega)]; unfold b_step; rw [if_pos c3])
      · refine lv_aload_n hx hb dX0_bringToForm_68 rfl (lv_at hl 2 rfl) ?_
        refine lv_iload_n hx hb dX0_bringToForm_69 rfl (lv_at hl 1 rfl) ?_
        refine fl_callV (k := o) (As := [.int (nI cl)]) (rest := []) X hI dX0_bringToForm_70 (m_X0_addLead D dA ad N I (j_elim o rk cl w h J) hN hL hrk (by omega) c1 hw hwm) (by have := lat_b hL; omega) (fl_c_4 (lat_k hL)) rfl rfl wc_yX0_addLead wm_X0_38 wi_yX0_addLead wl_yX0_addLead wn_X0 hd_yX0_addLead rfl ⟨by first | decide | omega, by first | decide | omega⟩ hl.1 (Nat.le_of_ble_eq_true rfl) (fun v I2 J2 H locs hp hI => ?_)
        obtain ⟨hv, hI2, hJ2⟩ := hp
        subst hv
        rw [hI2, hJ2] at hI
        refine W.eq (g2 := F0 m 73 ls []) rfl ?_
        refine fn_iinc (a := cl) (lv' := [(1, .int (nI (cl + 1))), (2, .int (nI h)), (0, .ref (ad o))]) X dX0_bringToForm_73 hl (k := 1) rfl (by decide) rfl (fun ls hl => ?_)
        refine lv_goto (tgt := 2) hx hb dX0_bringToForm_76 (by decide) ?_
        exact ih (cl + 1) (rk + 1) (i_add o nr rk cl I) _ _ _ _ (by omega) (by unfold i_add; rw [fl_up_j (by omega), fl_up_k (by omega)]; exact hh) (by unfold i_add; rw [fl_up_j (by omega), fl_up_k (by omega)]; exact hw) (by unfold i_add; exact fl_up_s) (by omega) hI (lv_sub hl [0, 2] rfl) (by rw [← hF]; simp only [b_form]; rw [if_neg (by omega)]; unfold b_step; rw [if_neg c3])
theorem m_X0_bringToForm (D : va_G) (dA : Nat → ClassId) (ad : Nat → Nat) (N : Nat) (I : fl_TI) (J : fl_TJ) {o nr mw h w rk : Nat} (hN : 30 ≤ N) (hL : fl_lat o nr mw) (hh : I o 2 = nI h) (hhr : h ≤ nr) (hw : I o 3 = nI w) (hwm : w ≤ mw) (hrk : I o 4 = nI rk) (hrh : rk ≤ h) : FM yX0_bringToForm cX0_bringToForm 3 none 3 D dA ad N [.ref (ad o)] I J (fun v I' J' => v = none ∧ I' = (b_form o nr h w w 0 (rk, I, J)).2.1 ∧ J' = (b_form o nr h w w 0 (rk, I, J)).2.2) := by
  refine FM.ofW RX0 rfl (by decide +kernel) (Nat.le_of_ble_eq_true rfl) ?_
  intro p l e s m args below meth c ls X hr hlk hI hl
  have hx := X.1
  have hb := X.2.1
  have hl : lv_has ls 3 [(0, .ref (ad o))] := hl
  refine lv_iconst (v := nI 0) hx hb dX0_bringToForm_0 (by decide) ?_
  refine lv_istore_n (lv' := [(1, .int (nI 0)), (0, .ref (ad o))]) hx hb dX0_bringToForm_1 rfl hl (by decide) rfl (fun ls hl => ?_)
  generalize hF : b_form o nr h w w 0 (rk, I, J) = F
  obtain ⟨rk9, I9, J9⟩ := F
  exact lp_form X hN hL hhr hwm ⟨by decide, by decide⟩ (fun cl H locs ls hI hl => fl_vret X hr hlk hI dX0_bringToForm_79 ⟨rfl, rfl, rfl⟩) w 0 rk I J _ _ _ (Nat.zero_add _) hh hw hrk hrh hI hl hF
