/-! the model: form, its while loop and its columns -/
theorem k_rows_keep {mn tp cl w : Nat} {J : fl_TJ} (hw : w ≤ 8) (hcl : cl < w) : (k_rows mn tp cl w J).2 33 (8 * tp + cl) = J 33 (8 * tp + cl) ∧ (k_rows mn tp cl w J).1 ≤ 1 := by
  unfold k_rows
  refine fl_it_keep (fun x : Nat × fl_TJ => x.2 33 (8 * tp + cl) = J 33 (8 * tp + cl) ∧ x.1 ≤ 1) _ _ _ _ ⟨rfl, Nat.le_refl _⟩ (fun j x h1 h2 h3 => ?_)
  refine ⟨?_, ?_⟩
  · show k_take j tp w _ x.2 33 (8 * tp + cl) = _
    rw [k_take_far (by omega)]
    exact h3.1
  · show (if x.1 = 0 then 0 else _) ≤ 1
    by_cases q : x.1 = 0
    · rw [if_pos q]; omega
    · rw [if_neg q]
      split <;> omega
theorem k_pass_ne {mn tp b cl w : Nat} {J : fl_TJ} (h : J 33 (8 * b + cl) ≠ 0) (hw : w ≤ 8) (hcl : cl < w) : ¬ (k_pass mn tp b cl w J).2 33 (8 * tp + cl) = 0 := by
  unfold k_pass
  rw [(k_rows_keep hw hcl).1]
  exact k_piv_ne h hcl hw
theorem k_pass_le {mn tp b cl w : Nat} {J : fl_TJ} (hw : w ≤ 8) (hcl : cl < w) : (k_pass mn tp b cl w J).1 ≤ 1 := (k_rows_keep hw hcl).2
theorem lp_kel {p : Program} {l : Launch} {e : Env} {R : Room} {s : State} {m : MethodId} {args : Array Value} {below : List Frame} {meth : Method} {c : Code} {Q : State → Prop} {D : va_G} {dA : Nat → ClassId} {ad : Nat → Nat} {N : Nat} {A : Nat → Prop} {H0 : Heap} {I : fl_TI} {J9 : fl_TJ} {mn w cl tp : Nat} (X : CallFix p m c cX2_form 8 s args fl_tb RX2) (hN : 37 ≤ N) (hmn : mn ≤ 8) (hw : w ≤ 8) (hcl : cl < w) (htp : tp < mn) (hR : 1 + 1 ≤ R.frames ∧ 8 + (8 + 11) + 40 * 1 ≤ R.locals)
    (kx : ∀ (H : Heap) (locs : List Loc) (ls : Array Slot), fl_I D dA ad N I J9 A s H0 H locs → lv_has ls 8 [(4, .int (nI cl)), (3, .int (nI tp)), (0, .ref (ad 30)), (1, .int (nI mn)), (2, .int (nI w))] → ¬ J9 33 (8 * tp + cl) = 0 → W p l e R s m args below meth c H locs 0 0 Q (F0 m 170 ls [])) :
    ∀ (k b : Nat) (J : fl_TJ) (H : Heap) (locs : List Loc) (ls : Array Slot), tp ≤ b → b < mn → J 33 (8 * b + cl) ≠ 0 → fl_I D dA ad N I J A s H0 H locs → lv_has ls 8 [(6, .int (nI 0)), (5, .int (nI b)), (4, .int (nI cl)), (3, .int (nI tp)), (0, .ref (ad 30)), (1, .int (nI mn)), (2, .int (nI w))] → k_el mn tp cl w k b J = some J9 → W p l e R s m args below meth c H locs 0 0 Q (F0 m 32 ls []) := by
  have hx := X.1
  have hb := X.2.1
  intro k
  induction k with
  | zero =>
    intro b J H locs ls h1 h2 h3 hI hl hF
    cases hF
  | succ k ih =>
    intro b J H locs ls h1 h2 h3 hI hl hF
    refine lv_iload hx hb dX2_form_32 (lv_at hl 0 rfl) ?_
    refine fn_if_ne X (tgt := 170) dX2_form_34 (by decide) (by omega) (fun c1 => absurd c1 (by omega)) (fun c1 => ?_)
    refine lv_aload_n hx hb dX2_form_37 rfl (lv_at hl 4 rfl) ?_
    refine lv_iload_n hx hb dX2_form_38 rfl (lv_at hl 3 rfl) ?_
    refine lv_iload hx hb dX2_form_39 (lv_at hl 1 rfl) ?_
    refine fl_callV (k := 30) (As := [.int (nI tp), .int (nI b)]) (rest := []) X hI dX2_form_41 (m_X2_change D dA ad N I J hN (by omega) (by omega)) (by omega) fl_c_6 rfl rfl wc_yX2_change wm_X2_52 wi_yX2_change wl_yX2_change wn_X2 hd_yX2_change rfl ⟨by first | decide | omega, by first | decide | omega⟩ hl.1 (Nat.le_of_ble_eq_true rfl) (fun v I2 J2 H locs hp hI => ?_)
    obtain ⟨hv, hI2, hJ2⟩ := hp
    subst hv
    rw [hI2, hJ2] at hI
    refine W.eq (g2 := F0 m 44 ls []) rfl ?_
    refine lv_aload_n hx hb dX2_form_44 rfl (lv_at hl 4 rfl) ?_
    refine fl_get2 X hI dX2_form_45 (by omega) 4 (by decide) wf_X2_20 rfl ?_
    refine lv_bipush (v := nI 8) hx hb dX2_form_48 (by decide) ?_
    refine lv_iload_n hx hb dX2_form_50 rfl (lv_at hl 3 rfl) ?_
    refine fn_imul X dX2_form_51 ?_
    refine lv_iload hx hb dX2_form_52 (lv_at hl 2 rfl) ?_
    refine fn_iadd X dX2_form_54 ?_
    refine fn_lald (k := 33) X hI dX2_form_55 (by omega) rfl (show (8 * tp) + cl < 64 by omega) ?_
    refine lv_lconst (v := 0) hx hb dX2_form_56 rfl ?_
    refine fl_lc_ge (tgt := 71) hx hb dX2_form_57 dX2_form_58 (by decide) (fun c2 => ?_) (fun c2 => ?_)
    · have hI : fl_I D dA ad N I (k_piv tp b cl w J) A s H0 H locs := by unfold k_piv; first | (rw [if_pos c2]; exact hI) | (rw [if_neg c2]; exact hI)
      refine lv_iconst (v := nI 1) hx hb dX2_form_71 (by decide) ?_
      refine lv_istore (lv' := [(6, .int (nI 1)), (5, .int (nI b)), (4, .int (nI cl)), (3, .int (nI tp)), (0, .ref (ad 30)), (1, .int (nI mn)), (2, .int (nI w))]) hx hb dX2_form_72 hl (by decide) rfl (fun ls hl => ?_)
      refine lv_iload_n hx hb dX2_form_74 rfl (lv_at hl 3 rfl) ?_
      refine lv_iconst (v := nI 1) hx hb dX2_form_75 (by decide) ?_
      refine fn_iadd X dX2_form_76 ?_
      refine lv_istore (lv' := [(7, .int (nI (tp + 1))), (6, .int (nI 1)), (5, .int (nI b)), (4, .int (nI cl)), (3, .int (nI tp)), (0, .ref (ad 30)), (1, .int (nI mn)), (2, .int (nI w))]) hx hb dX2_form_77 hl (by decide) rfl (fun ls hl => ?_)
      refine lp_krow X hN hmn hw hcl htp (b := b) ⟨by omega, by omega⟩ (al9 := (k_pass mn tp b cl w J).1) (J9 := (k_pass mn tp b cl w J).2) (fun H locs ls hI hl => ?_) (mn - (tp + 1)) (tp + 1) 1 (k_piv tp b cl w J) _ _ _ (by omega) hI (lv_sub hl [0, 1, 2, 3, 4, 5, 6, 7] rfl) ⟨k_piv_ne h3 hcl hw, by omega, by omega⟩ rfl
      have hpv := k_pass_ne (mn := mn) (tp := tp) (b := b) (cl := cl) (w := w) (J := J) h3 hw hcl
      have hpl := k_pass_le (mn := mn) (tp := tp) (b := b) (cl := cl) (w := w) (J := J) hw hcl
      have hF9 := hF
      simp only [k_el] at hF9
      by_cases hal : (k_pass mn tp b cl w J).1 = 0
      · rw [if_pos hal] at hF9
        rw [hal] at hl
        cases hq : k_least tp cl mn (k_pass mn tp b cl w J).2 with
        | none => rw [hq] at hF9; cases hF9
        | some b2 =>
          rw [hq] at hF9
          obtain ⟨g1, g2, g3⟩ := k_least_spec (by omega) hq
          refine lv_aload_n hx hb dX2_form_157 rfl (lv_at hl 5 rfl) ?_
          refine lv_iload_n hx hb dX2_form_158 rfl (lv_at hl 4 rfl) ?_
          refine lv_iload hx hb dX2_form_159 (lv_at hl 3 rfl) ?_
          refine lv_iload_n hx hb dX2_form_161 rfl (lv_at hl 6 rfl) ?_
          refine fl_callV (k := 30) (As := [.int (nI tp), .int (nI cl), .int (nI mn)]) (rest := []) X hI dX2_form_162 (m_X2_least D dA ad N I (k_pass mn tp b cl w J).2 hN (by omega) (by omega) hmn) (by omega) fl_c_6 rfl rfl wc_yX2_least wm_X2_48 wi_yX2_least wl_yX2_least wn_X2 hd_yX2_least rfl ⟨by first | decide | omega, by first | decide | omega⟩ hl.1 (Nat.le_of_ble_eq_true rfl) (fun v I2 J2 H locs hp hI => ?_)
          obtain ⟨hv, hI2, hJ2⟩ := hp
          subst hv
          rw [hI2, hJ2] at hI
          refine W.eq (g2 := F0 m 165 ls [.int (nI b2)]) (by rw [hq]; rfl) ?_
          refine lv_istore (lv' := [(5, .int (nI b2)), (7, .int (nI mn)), (6, .int (nI 0)), (4, .int (nI cl)), (3, .int (nI tp)), (0, .ref (ad 30)), (1, .int (nI mn)), (2, .int (nI w))]) hx hb dX2_form_165 hl (by decide) rfl (fun ls hl => ?_)
          refine lv_goto (tgt := 32) hx hb dX2_form_167 (by decide) ?_
          exact ih b2 _ _ _ _ g1 g2 g3 hI (lv_sub hl [2, 0, 3, 4, 5, 6, 7] rfl) hF9
      · rw [if_neg hal] at hF9
        have hJ : (k_pass mn tp b cl w J).2 = J9 := Option.some.inj hF9
        refine lv_aload_n hx hb dX2_form_157 rfl (lv_at hl 5 rfl) ?_
        refine lv_iload_n hx hb dX2_form_158 rfl (lv_at hl 4 rfl) ?_
        refine lv_iload hx hb dX2_form_159 (lv_at hl 3 rfl) ?_
        refine lv_iload_n hx hb dX2_form_161 rfl (lv_at hl 6 rfl) ?_
        refine fl_callV (k := 30) (As := [.int (nI tp), .int (nI cl), .int (nI mn)]) (rest := []) X hI dX2_form_162 (m_X2_least D dA ad N I (k_pass mn tp b cl w J).2 hN (by omega) (by omega) hmn) (by omega) fl_c_6 rfl rfl wc_yX2_least wm_X2_48 wi_yX2_least wl_yX2_least wn_X2 hd_yX2_least rfl ⟨by first | decide | omega, by first | decide | omega⟩ hl.1 (Nat.le_of_ble_eq_true rfl) (fun v I2 J2 H locs hp hI => ?_)
        obtain ⟨hv, hI2, hJ2⟩ := hp
        subst hv
        rw [hI2, hJ2] at hI
        refine W.eq (g2 := F0 m 165 ls [.int (k_ob (k_least tp cl mn (k_pass mn tp b cl w J).2))]) rfl ?_
        refine lv_istore (lv' := [(5, .int (k_ob (k_least tp cl mn (k_pass mn tp b cl w J).2))), (7, .int (nI mn)), (6, .int (nI ((k_pass mn tp b cl w J).1))), (4, .int (nI cl)), (3, .int (nI tp)), (0, .ref (ad 30)), (1, .int (nI mn)), (2, .int (nI w))]) hx hb dX2_form_165 hl (by decide) rfl (fun ls hl => ?_)
        refine lv_goto (tgt := 32) hx hb dX2_form_167 (by decide) ?_
        refine lv_iload hx hb dX2_form_32 (lv_at hl 2 rfl) ?_
        refine fn_if_ne X (tgt := 170) dX2_form_34 (by decide) (by omega) (fun c71 => ?_) (fun c71 => absurd c71 (by omega))
        exact kx _ _ _ (by rw [← hJ]; exact hI) (lv_sub hl [3, 4, 5, 6, 7] rfl) (by rw [← hJ]; exact hpv)
    · refine lv_aload_n hx hb dX2_form_61 rfl (lv_at hl 4 rfl) ?_
      refine lv_iload_n hx hb dX2_form_62 rfl (lv_at hl 3 rfl) ?_
      refine lv_iload_n hx hb dX2_form_63 rfl (lv_at hl 3 rfl) ?_
      refine W.ldc2 (v := (2)) hx hb X.2.2.2.1 (X.2.2.2.2 _ wk_X2_56) rfl dX2_form_64 ?_
      refine W.eq (g2 := F0 m 67 ls [.long ((2)), .int (nI tp), .int (nI tp), .ref (ad 30)]) rfl ?_
      refine lv_iload_n hx hb dX2_form_67 rfl (lv_at hl 6 rfl) ?_
      refine fl_callV (k := 30) (As := [.int (nI tp), .int (nI tp), .long ((2)), .int (nI w)]) (rest := []) X hI dX2_form_68 (m_X2_take D dA ad N I (k_chg tp b J) hN (by omega) (by omega) (by omega)) (by omega) fl_c_6 rfl rfl wc_yX2_take wm_X2_58 wi_yX2_take wl_yX2_take wn_X2 hd_yX2_take rfl ⟨by first | decide | omega, by first | decide | omega⟩ hl.1 (Nat.le_of_ble_eq_true rfl) (fun v I2 J2 H locs hp hI => ?_)
      obtain ⟨hv, hI2, hJ2⟩ := hp
      subst hv
      rw [hI2, hJ2] at hI
      refine W.eq (g2 := F0 m 71 ls []) rfl ?_
      have hI : fl_I D dA ad N I (k_piv tp b cl w J) A s H0 H locs := by unfold k_piv; first | (rw [if_pos c2]; exact hI) | (rw [if_neg c2]; exact hI)
      refine lv_iconst (v := nI 1) hx hb dX2_form_71 (by decide) ?_
      refine lv_istore (lv' := [(6, .int (nI 1)), (5, .int (nI b)), (4, .int (nI cl)), (3, .int (nI tp)), (0, .ref (ad 30)), (1, .int (nI mn)), (2, .int (nI w))]) hx hb dX2_form_72 hl (by decide) rfl (fun ls hl => ?_)
      refine lv_iload_n hx hb dX2_form_74 rfl (lv_at hl 3 rfl) ?_
      refine lv_iconst (v := nI 1) hx hb dX2_form_75 (by decide) ?_
      refine fn_iadd X dX2_form_76 ?_
      refine lv_istore (lv' := [(7, .int (nI (tp + 1))), (6, .int (nI 1)), (5, .int (nI b)), (4, .int (nI cl)), (3, .int (nI tp)), (0, .ref (ad 30)), (1, .int (nI mn)), (2, .int (nI w))]) hx hb dX2_form_77 hl (by decide) rfl (fun ls hl => ?_)
      refine lp_krow X hN hmn hw hcl htp (b := b) ⟨by omega, by omega⟩ (al9 := (k_pass mn tp b cl w J).1) (J9 := (k_pass mn tp b cl w J).2) (fun H locs ls hI hl => ?_) (mn - (tp + 1)) (tp + 1) 1 (k_piv tp b cl w J) _ _ _ (by omega) hI (lv_sub hl [0, 1, 2, 3, 4, 5, 6, 7] rfl) ⟨k_piv_ne h3 hcl hw, by omega, by omega⟩ rfl
      have hpv := k_pass_ne (mn := mn) (tp := tp) (b := b) (cl := cl) (w := w) (J := J) h3 hw hcl
      have hpl := k_pass_le (mn := mn) (tp := tp) (b := b) (cl := cl) (w := w) (J := J) hw hcl
      have hF9 := hF
      simp only [k_el] at hF9
      by_cases hal : (k_pass mn tp b cl w J).1 = 0
      · rw [if_pos hal] at hF9
        rw [hal] at hl
        cases hq : k_least tp cl mn (k_pass mn tp b cl w J).2 with
        | none => rw [hq] at hF9; cases hF9
        | some b2 =>
          rw [hq] at hF9
          obtain ⟨g1, g2, g3⟩ := k_least_spec (by omega) hq
          refine lv_aload_n hx hb dX2_form_157 rfl (lv_at hl 5 rfl) ?_
          refine lv_iload_n hx hb dX2_form_158 rfl (lv_at hl 4 rfl) ?_
          refine lv_iload hx hb dX2_form_159 (lv_at hl 3 rfl) ?_
          refine lv_iload_n hx hb dX2_form_161 rfl (lv_at hl 6 rfl) ?_
          refine fl_callV (k := 30) (As := [.int (nI tp), .int (nI cl), .int (nI mn)]) (rest := []) X hI dX2_form_162 (m_X2_least D dA ad N I (k_pass mn tp b cl w J).2 hN (by omega) (by omega) hmn) (by omega) fl_c_6 rfl rfl wc_yX2_least wm_X2_48 wi_yX2_least wl_yX2_least wn_X2 hd_yX2_least rfl ⟨by first | decide | omega, by first | decide | omega⟩ hl.1 (Nat.le_of_ble_eq_true rfl) (fun v I2 J2 H locs hp hI => ?_)
          obtain ⟨hv, hI2, hJ2⟩ := hp
          subst hv
          rw [hI2, hJ2] at hI
          refine W.eq (g2 := F0 m 165 ls [.int (nI b2)]) (by rw [hq]; rfl) ?_
          refine lv_istore (lv' := [(5, .int (nI b2)), (7, .int (nI mn)), (6, .int (nI 0)), (4, .int (nI cl)), (3, .int (nI tp)), (0, .ref (ad 30)), (1, .int (nI mn)), (2, .int (nI w))]) hx hb dX2_form_165 hl (by decide) rfl (fun ls hl => ?_)
          refine lv_goto (tgt := 32) hx hb dX2_form_167 (by decide) ?_
          exact ih b2 _ _ _ _ g1 g2 g3 hI (lv_sub hl [2, 0, 3, 4, 5, 6, 7] rfl) hF9
      · rw [if_neg hal] at hF9
        have hJ : (k_pass mn tp b cl w J).2 = J9 := Option.some.inj hF9
        refine lv_aload_n hx hb dX2_form_157 rfl (lv_at hl 5 rfl) ?_
        refine lv_iload_n hx hb dX2_form_158 rfl (lv_at hl 4 rfl) ?_
        refine lv_iload hx hb dX2_form_159 (lv_at hl 3 rfl) ?_
        refine lv_iload_n hx hb dX2_form_161 rfl (lv_at hl 6 rfl) ?_
        refine fl_callV (k := 30) (As := [.int (nI tp), .int (nI cl), .int (nI mn)]) (rest := []) X hI dX2_form_162 (m_X2_least D dA ad N I (k_pass mn tp b cl w J).2 hN (by omega) (by omega) hmn) (by omega) fl_c_6 rfl rfl wc_yX2_least wm_X2_48 wi_yX2_least wl_yX2_least wn_X2 hd_yX2_least rfl ⟨by first | decide | omega, by first | decide | omega⟩ hl.1 (Nat.le_of_ble_eq_true rfl) (fun v I2 J2 H locs hp hI => ?_)
        obtain ⟨hv, hI2, hJ2⟩ := hp
        subst hv
        rw [hI2, hJ2] at hI
        refine W.eq (g2 := F0 m 165 ls [.int (k_ob (k_least tp cl mn (k_pass mn tp b cl w J).2))]) rfl ?_
        refine lv_istore (lv' := [(5, .int (k_ob (k_least tp cl mn (k_pass mn tp b cl w J).2))), (7, .int (nI mn)), (6, .int (nI ((k_pass mn tp b cl w J).1))), (4, .int (nI cl)), (3, .int (nI tp)), (0, .ref (ad 30)), (1, .int (nI mn)), (2, .int (nI w))]) hx hb dX2_form_165 hl (by decide) rfl (fun ls hl => ?_)
        refine lv_goto (tgt := 32) hx hb dX2_form_167 (by decide) ?_
        refine lv_iload hx hb dX2_form_32 (lv_at hl 2 rfl) ?_
        refine fn_if_ne X (tgt := 170) dX2_form_34 (by decide) (by omega) (fun c71 => ?_) (fun c71 => absurd c71 (by omega))
        exact kx _ _ _ (by rw [← hJ]; exact hI) (lv_sub hl [3, 4, 5, 6, 7] rfl) (by rw [← hJ]; exact hpv)
theorem lp_kform {p : Program} {l : Launch} {e : Env} {R : Room} {s : State} {m : MethodId} {args : Array Value} {below : List Frame} {meth : Method} {c : Code} {Q : State → Prop} {D : va_G} {dA : Nat → ClassId} {ad : Nat → Nat} {N : Nat} {A : Nat → Prop} {H0 : Heap} {tp9 : Nat} {I9 : fl_TI} {J9 : fl_TJ} {mn w fu : Nat} (X : CallFix p m c cX2_form 8 s args fl_tb RX2) (hN : 37 ≤ N) (hmn : mn ≤ 8) (hw : w ≤ 8) (hR : 1 + 1 ≤ R.frames ∧ 8 + (8 + 11) + 40 * 1 ≤ R.locals)
    (kx : ∀ (H : Heap) (locs : List Loc) (ls : Array Slot), fl_I D dA ad N I9 J9 A s H0 H locs → lv_has ls 8 [(3, .int (nI tp9)), (0, .ref (ad 30))] → W p l e R s m args below meth c H locs 0 0 Q (F0 m 238 ls [])) :
    ∀ (k cl tp : Nat) (I : fl_TI) (J : fl_TJ) (H : Heap) (locs : List Loc) (ls : Array Slot), cl + k = w → tp ≤ mn → fl_I D dA ad N I J A s H0 H locs → lv_has ls 8 [(4, .int (nI cl)), (3, .int (nI tp)), (0, .ref (ad 30)), (1, .int (nI mn)), (2, .int (nI w))] → k_form fu mn w k cl (tp, I, J) = some (tp9, I9, J9) → W p l e R s m args below meth c H locs 0 0 Q (F0 m 5 ls []) := by
  have hx := X.1
  have hb := X.2.1
  intro k
  induction k with
  | zero =>
    intro cl tp I J H locs ls hk htm hI hl hF
    have hF : (tp, I, J) = (tp9, I9, J9) := Option.some.inj hF
    cases hF
    have hk : w = cl := by omega
    subst hk
    refine lv_iload hx hb dX2_form_5 (lv_at hl 0 rfl) ?_
    refine lv_iload_n hx hb dX2_form_7 rfl (lv_at hl 4 rfl) ?_
    refine fn_icmp_ge X (tgt := 238) dX2_form_8 (by decide) (by omega) (by omega) (fun c1 => ?_) (fun c1 => absurd c1 (by omega))
    exact kx _ _ _ hI (lv_sub hl [1, 2] rfl)
  | succ k ih =>
    intro cl tp I J H locs ls hk htm hI hl hF
    simp only [k_form] at hF
    cases hq : k_least tp cl mn J with
    | none =>
      rw [hq] at hF
      refine lv_iload hx hb dX2_form_5 (lv_at hl 0 rfl) ?_
      refine lv_iload_n hx hb dX2_form_7 rfl (lv_at hl 4 rfl) ?_
      refine fn_icmp_ge X (tgt := 238) dX2_form_8 (by decide) (by omega) (by omega) (fun c1 => absurd c1 (by omega)) (fun c1 => ?_)
      refine lv_aload_n hx hb dX2_form_11 rfl (lv_at hl 2 rfl) ?_
      refine lv_iload_n hx hb dX2_form_12 rfl (lv_at hl 1 rfl) ?_
      refine lv_iload hx hb dX2_form_13 (lv_at hl 0 rfl) ?_
      refine lv_iload_n hx hb dX2_form_15 rfl (lv_at hl 3 rfl) ?_
      refine fl_callV (k := 30) (As := [.int (nI tp), .int (nI cl), .int (nI mn)]) (rest := []) X hI dX2_form_16 (m_X2_least D dA ad N I J hN htm (by omega) hmn) (by omega) fl_c_6 rfl rfl wc_yX2_least wm_X2_48 wi_yX2_least wl_yX2_least wn_X2 hd_yX2_least rfl ⟨by first | decide | omega, by first | decide | omega⟩ hl.1 (Nat.le_of_ble_eq_true rfl) (fun v I2 J2 H locs hp hI => ?_)
      obtain ⟨hv, hI2, hJ2⟩ := hp
      subst hv
      rw [hI2, hJ2] at hI
      refine W.eq (g2 := F0 m 19 ls [.int ((-1))]) (by rw [hq]; rfl) ?_
      refine lv_istore (lv' := [(5, .int ((-1))), (4, .int (nI cl)), (3, .int (nI tp)), (0, .ref (ad 30)), (1, .int (nI mn)), (2, .int (nI w))]) hx hb dX2_form_19 hl (by decide) rfl (fun ls hl => ?_)
      refine lv_iload hx hb dX2_form_21 (lv_at hl 0 rfl) ?_
      refine lv_if_ge (tgt := 29) hx hb dX2_form_23 (by decide) (fun c2 => absurd c2 (by decide)) (fun c2 => ?_)
      refine lv_goto (tgt := 232) hx hb dX2_form_26 (by decide) ?_
      refine fn_iinc (a := cl) (lv' := [(4, .int (nI (cl + 1))), (5, .int ((-1))), (3, .int (nI tp)), (0, .ref (ad 30)), (1, .int (nI mn)), (2, .int (nI w))]) X dX2_form_232 hl (k := 1) rfl (by decide) rfl (fun ls hl => ?_)
      refine lv_goto (tgt := 5) hx hb dX2_form_235 (by decide) ?_
      exact ih (cl + 1) tp I J _ _ _ (by omega) htm hI (lv_sub hl [0, 2, 3, 4, 5] rfl) hF
    | some b =>
      rw [hq] at hF
      dsimp only at hF
      obtain ⟨g1, g2, g3⟩ := k_least_spec htm hq
      cases hq2 : k_el mn tp cl w fu b J with
      | none => rw [hq2] at hF; cases hF
      | some J1 =>
        rw [hq2] at hF
        refine lv_iload hx hb dX2_form_5 (lv_at hl 0 rfl) ?_
        refine lv_iload_n hx hb dX2_form_7 rfl (lv_at hl 4 rfl) ?_
        refine fn_icmp_ge X (tgt := 238) dX2_form_8 (by decide) (by omega) (by omega) (fun c1 => absurd c1 (by omega)) (fun c1 => ?_)
        refine lv_aload_n hx hb dX2_form_11 rfl (lv_at hl 2 rfl) ?_
        refine lv_iload_n hx hb dX2_form_12 rfl (lv_at hl 1 rfl) ?_
        refine lv_iload hx hb dX2_form_13 (lv_at hl 0 rfl) ?_
        refine lv_iload_n hx hb dX2_form_15 rfl (lv_at hl 3 rfl) ?_
        refine fl_callV (k := 30) (As := [.int (nI tp), .int (nI cl), .int (nI mn)]) (rest := []) X hI dX2_form_16 (m_X2_least D dA ad N I J hN htm (by omega) hmn) (by omega) fl_c_6 rfl rfl wc_yX2_least wm_X2_48 wi_yX2_least wl_yX2_least wn_X2 hd_yX2_least rfl ⟨by first | decide | omega, by first | decide | omega⟩ hl.1 (Nat.le_of_ble_eq_true rfl) (fun v I2 J2 H locs hp hI => ?_)
        obtain ⟨hv, hI2, hJ2⟩ := hp
        subst hv
        rw [hI2, hJ2] at hI
        refine W.eq (g2 := F0 m 19 ls [.int (nI b)]) (by rw [hq]; rfl) ?_
        refine lv_istore (lv' := [(5, .int (nI b)), (4, .int (nI cl)), (3, .int (nI tp)), (0, .ref (ad 30)), (1, .int (nI mn)), (2, .int (nI w))]) hx hb dX2_form_19 hl (by decide) rfl (fun ls hl => ?_)
        refine lv_iload hx hb dX2_form_21 (lv_at hl 0 rfl) ?_
        refine lv_if_ge (tgt := 29) hx hb dX2_form_23 (by decide) (fun c2 => ?_) (fun c2 => absurd (nI_pos' (by omega)) c2)
        refine lv_iconst (v := nI 0) hx hb dX2_form_29 (by decide) ?_
        refine lv_istore (lv' := [(6, .int (nI 0)), (5, .int (nI b)), (4, .int (nI cl)), (3, .int (nI tp)), (0, .ref (ad 30)), (1, .int (nI mn)), (2, .int (nI w))]) hx hb dX2_form_30 hl (by decide) rfl (fun ls hl => ?_)
        refine lp_kel X hN hmn hw (by omega) (by omega) hR (J9 := J1) (fun H locs ls hI hl hne => ?_) fu b J _ _ _ g1 g2 g3 hI (lv_sub hl [0, 1, 2, 3, 4, 5, 6] rfl) hq2
        refine lv_iconst (v := nI 0) hx hb dX2_form_170 (by decide) ?_
        refine lv_istore (lv' := [(7, .int (nI 0)), (4, .int (nI cl)), (3, .int (nI tp)), (0, .ref (ad 30)), (1, .int (nI mn)), (2, .int (nI w))]) hx hb dX2_form_171 hl (by decide) rfl (fun ls hl => ?_)
        refine lp_kup X hN hmn hw (by omega) (by omega) ⟨by omega, by omega⟩ (J9 := k_up tp cl w J1) (fun H locs ls hI hl => ?_) tp 0 _ _ _ _ (Nat.zero_add _) hI (lv_sub hl [0, 1, 2, 3, 4, 5] rfl) hne rfl
        refine lv_aload_n hx hb dX2_form_221 rfl (lv_at hl 3 rfl) ?_
        refine fl_get2 X hI dX2_form_222 (by omega) 6 (by decide) wf_X2_24 rfl ?_
        refine lv_iload_n hx hb dX2_form_225 rfl (lv_at hl 2 rfl) ?_
        refine lv_iload hx hb dX2_form_226 (lv_at hl 1 rfl) ?_
        refine fn_iast (k := 34) X hI dX2_form_228 (by omega) rfl (show tp < 8 by omega) (fun H locs hI => ?_)
        refine fn_iinc (a := tp) (lv' := [(3, .int (nI (tp + 1))), (7, .int (nI tp)), (4, .int (nI cl)), (0, .ref (ad 30)), (1, .int (nI mn)), (2, .int (nI w))]) X dX2_form_229 hl (k := 2) rfl (by decide) rfl (fun ls hl => ?_)
        refine fn_iinc (a := cl) (lv' := [(4, .int (nI (cl + 1))), (3, .int (nI (tp + 1))), (7, .int (nI tp)), (0, .ref (ad 30)), (1, .int (nI mn)), (2, .int (nI w))]) X dX2_form_232 hl (k := 2) rfl (by decide) rfl (fun ls hl => ?_)
        refine lv_goto (tgt := 5) hx hb dX2_form_235 (by decide) ?_
        exact ih (cl + 1) (tp + 1) _ _ _ _ _ (by omega) (by omega) hI (lv_sub hl [0, 1, 3, 4, 5] rfl) hF
theorem m_X2_form (D : va_G) (dA : Nat → ClassId) (ad : Nat → Nat) (N : Nat) (I : fl_TI) (J : fl_TJ) {fu mn w tp9 : Nat} {I9 : fl_TI} {J9 : fl_TJ} (hN : 37 ≤ N) (hmn : mn ≤ 8) (hw : w ≤ 8) (hF : k_form fu mn w w 0 (0, I, J) = some (tp9, I9, J9)) : FM yX2_form cX2_form 8 none 2 D dA ad N [.ref (ad 30), .int (nI mn), .int (nI w)] I J (fun v I' J' => v = none ∧ I' = fl_up I9 30 5 (nI tp9) ∧ J' = J9) := by
  refine FM.ofW RX2 rfl (by decide +kernel) (Nat.le_of_ble_eq_true rfl) ?_
  intro p l e s m args below meth c ls X hr hlk hI hl
  have hx := X.1
  have hb := X.2.1
  have hl : lv_has ls 8 [(0, .ref (ad 30)), (1, .int (nI mn)), (2, .int (nI w))] := hl
  refine lv_iconst (v := nI 0) hx hb dX2_form_0 (by decide) ?_
  refine lv_istore_n (lv' := [(3, .int (nI 0)), (0, .ref (ad 30)), (1, .int (nI mn)), (2, .int (nI w))]) hx hb dX2_form_1 rfl hl (by decide) rfl (fun ls hl => ?_)
  refine lv_iconst (v := nI 0) hx hb dX2_form_2 (by decide) ?_
  refine lv_istore (lv' := [(4, .int (nI 0)), (3, .int (nI 0)), (0, .ref (ad 30)), (1, .int (nI mn)), (2, .int (nI w))]) hx hb dX2_form_3 hl (by decide) rfl (fun ls hl => ?_)
  refine lp_kform (fu := fu) X hN hmn hw ⟨by decide, by decide⟩ (fun H locs ls hI hl => ?_) w 0 0 I J _ _ _ (Nat.zero_add _) (Nat.zero_le _) hI (lv_sub hl [0, 1, 2, 3, 4] rfl) hF
  refine lv_aload_n hx hb dX2_form_238 rfl (lv_at hl 1 rfl) ?_
  refine lv_iload_n hx hb dX2_form_239 rfl (lv_at hl 0 rfl) ?_
  refine fl_put2 X hI dX2_form_240 (by omega) 5 (by decide) wf_X2_66 (fun H locs hI => ?_)
  exact fl_vret X hr hlk hI dX2_form_243 ⟨rfl, rfl, rfl⟩
