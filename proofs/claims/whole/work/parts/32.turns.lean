/-! box: the turns -/
theorem wc_max : Cond.code Lib.MathLoose.max_long.x Lib.MathLoose.max_long.code 4 (some .long) ∈ fl_tb := by
  have e1 : Lib.MathLoose.max_long.x = yJ9_max_f86c9 := rfl
  have e2 : Lib.MathLoose.max_long.code = cJ9_max_f86c9 := by decide +kernel
  rw [e1, e2]
  exact wc_yJ9_max_f86c9
theorem wc_min : Cond.code Lib.MathLoose.min_long.x Lib.MathLoose.min_long.code 4 (some .long) ∈ fl_tb := by
  have e1 : Lib.MathLoose.min_long.x = yJ9_min_f86c9 := rfl
  have e2 : Lib.MathLoose.min_long.code = cJ9_min_f86c9 := by decide +kernel
  rw [e1, e2]
  exact wc_yJ9_min_f86c9
def mx64 (x y : Int64) : Int64 := if y < x then x else y
def mn64 (x y : Int64) : Int64 := if y < x then y else x
section FLM2
variable {p : Program} {l : Launch} {e : Env} {R : Room} {s : State} {m : MethodId} {args : Array Value} {below : List Frame} {meth : Method} {c : Code} {H : Heap} {locs : List Loc} {Q : State → Prop}
variable {cc : ByteArray} {nL pc : Nat} {own : String} {ls : Array Slot} {rest : List Value}
theorem fl_max {index : Nat} {x y : Int64} (X : CallFix p m c cc nL s args fl_tb own) (hdg : decode cc pc = .ok (.invokestatic index, 3)) (wm : Cond.methodLink own index yJ9_max_f86c9 ∈ fl_tb) (hl : ls.size = nL) (hf : 1 ≤ R.frames) (hlo : (rest.map fun v => v.category).sum + 15 ≤ R.locals)
    (kk : W p l e R s m args below meth c H locs 0 0 Q (F0 m (pc + 3) ls (.long (mx64 x y) :: rest))) : W p l e R s m args below meth c H locs 0 0 Q (F0 m pc ls (.long y :: .long x :: rest)) :=
  va_mmax_long X.1 X.2.1 (X.2.2.1.trans hl.symm) X.2.2.2.1 (X.2.2.2.2 _ wm) (X.2.2.2.2 _ ws_yJ9_max_f86c9) (X.2.2.2.2 _ wn_J9) (X.2.2.2.2 _ wc_max) hf hlo (Nat.zero_le _) (Nat.zero_le _) hdg kk
theorem fl_min {index : Nat} {x y : Int64} (X : CallFix p m c cc nL s args fl_tb own) (hdg : decode cc pc = .ok (.invokestatic index, 3)) (wm : Cond.methodLink own index yJ9_min_f86c9 ∈ fl_tb) (hl : ls.size = nL) (hf : 1 ≤ R.frames) (hlo : (rest.map fun v => v.category).sum + 15 ≤ R.locals)
    (kk : W p l e R s m args below meth c H locs 0 0 Q (F0 m (pc + 3) ls (.long (mn64 x y) :: rest))) : W p l e R s m args below meth c H locs 0 0 Q (F0 m pc ls (.long y :: .long x :: rest)) :=
  va_mmin_long X.1 X.2.1 (X.2.2.1.trans hl.symm) X.2.2.2.1 (X.2.2.2.2 _ wm) (X.2.2.2.2 _ ws_yJ9_min_f86c9) (X.2.2.2.2 _ wn_J9) (X.2.2.2.2 _ wc_min) hf hlo (Nat.zero_le _) (Nat.zero_le _) hdg kk
end FLM2
def x_lu (n eq rr : Nat) (I : fl_TI) (i : Nat) : Nat := if rr + i < n then ldI I 12 (rr + i) - eq else n
/-- what the box asks of the leads -/
def x_ld (n eq rr : Nat) (I : fl_TI) : Prop := ∀ i, rr + i < n → I 12 (rr + i) = nI (ldI I 12 (rr + i)) ∧ eq ≤ ldI I 12 (rr + i) ∧ ldI I 12 (rr + i) < eq + n
theorem x_lu_le {n eq rr : Nat} {I : fl_TI} (h : x_ld n eq rr I) (i : Nat) : x_lu n eq rr I i ≤ n := by
  unfold x_lu
  by_cases q : rr + i < n
  · rw [if_pos q]; have := (h i q).2; omega
  · rw [if_neg q]; exact Nat.le_refl _
def x_lt1 (xl xh : Int32) (sp nw ls : Int64) : Int64 := if sp = 0 then (if nw < xl.toInt64 then 1000000000000000 else if xh.toInt64 < nw then 1000000000000000 else ls) else mx64 ls (-(fd64 (nw - (if 0 < sp then xl else xh).toInt64) sp))
def x_least (n eq rr : Nat) (xl xh : Int32) (I : fl_TI) (a : Nat) (J : fl_TJ) : Int64 := fl_it (fun j ls => x_lt1 xl xh (J (6 + 2 + (rr + a)) (eq + j)) (J (25 + a) j) ls) (x_lu n eq rr I (a + 1) - x_lu n eq rr I a) (x_lu n eq rr I a) (-1000000000000000)
def x_mt1 (xl xh : Int32) (sp nw ms : Int64) : Int64 := if sp = 0 then ms else mn64 ms (fd64 ((if 0 < sp then xh else xl).toInt64 - nw) sp)
def x_most (n eq rr : Nat) (xl xh : Int32) (I : fl_TI) (a : Nat) (J : fl_TJ) : Int64 := fl_it (fun j ms => x_mt1 xl xh (J (6 + 2 + (rr + a)) (eq + j)) (J (25 + a) j) ms) (x_lu n eq rr I (a + 1) - x_lu n eq rr I a) (x_lu n eq rr I a) 999999999999999
theorem lp_least {p : Program} {l : Launch} {e : Env} {R : Room} {s : State} {m : MethodId} {args : Array Value} {below : List Frame} {meth : Method} {c : Code} {Q : State → Prop} {D : va_G} {dA : Nat → ClassId} {ad : Nat → Nat} {N : Nat} {A : Nat → Prop} {H0 : Heap} {I : fl_TI} {J : fl_TJ} {lt9 : Int64} (X : CallFix p m c cX1_leastTurns 13 s args fl_tb RX1) {n eq rr a en : Nat} {xl xh : Int32} (hN : 30 ≤ N) (hn : I 0 2 = nI n) (hn4 : n ≤ 4) (he : I 0 3 = nI eq) (he3 : eq ≤ 3) (hrr : I 0 6 = nI rr) (hrn : rr ≤ n) (hxl : x_ld n eq rr I) (ha : rr + a < n) (hen : en ≤ n) (hR : 1 + 1 ≤ R.frames ∧ 8 + (13 + 11) + 40 * 1 ≤ R.locals)
    (kx : ∀ (H : Heap) (locs : List Loc) (ls : Array Slot), fl_I D dA ad N I J A s H0 H locs → lv_has ls 13 [(7, .int (nI en)), (5, .long lt9), (4, .int (nI en)), (0, .ref (ad 0)), (1, .int (nI a)), (2, .int xl), (3, .int xh)] → W p l e R s m args below meth c H locs 0 0 Q (F0 m 118 ls [])) :
    ∀ (k i : Nat) (lt : Int64) (H : Heap) (locs : List Loc) (ls : Array Slot), i + k = en → fl_I D dA ad N I J A s H0 H locs → lv_has ls 13 [(7, .int (nI i)), (5, .long lt), (4, .int (nI en)), (0, .ref (ad 0)), (1, .int (nI a)), (2, .int xl), (3, .int xh)] → fl_it (fun j ls => x_lt1 xl xh (J (6 + 2 + (rr + a)) (eq + j)) (J (25 + a) j) ls) k i lt = lt9 → W p l e R s m args below meth c H locs 0 0 Q (F0 m 21 ls []) := by
  have hx := X.1
  have hb := X.2.1
  intro k
  induction k with
  | zero =>
    intro i lt H locs ls hk hI hl hF
    have hF : lt = lt9 := hF
    subst hF
    have hk : en = i := by omega
    subst hk
    refine lv_iload hx hb dX1_leastTurns_21 (lv_at hl 0 rfl) ?_
    refine lv_iload hx hb dX1_leastTurns_23 (lv_at hl 2 rfl) ?_
    refine fn_icmp_ge X (tgt := 118) dX1_leastTurns_25 (by decide) (by omega) (by omega) (fun c1 => ?_) (fun c1 => absurd c1 (by omega))
    exact kx _ _ _ hI (lv_sub hl [0, 1, 2, 3, 4, 5, 6] rfl)
  | succ k ih =>
    intro i lt H locs ls hk hI hl hF
    refine lv_iload hx hb dX1_leastTurns_21 (lv_at hl 0 rfl) ?_
    refine lv_iload hx hb dX1_leastTurns_23 (lv_at hl 2 rfl) ?_
    refine fn_icmp_ge X (tgt := 118) dX1_leastTurns_25 (by decide) (by omega) (by omega) (fun c1 => absurd c1 (by omega)) (fun c1 => ?_)
    refine lv_aload_n hx hb dX1_leastTurns_28 rfl (lv_at hl 3 rfl) ?_
    refine lv_iload_n hx hb dX1_leastTurns_29 rfl (lv_at hl 4 rfl) ?_
    refine lv_iload hx hb dX1_leastTurns_30 (lv_at hl 0 rfl) ?_
    refine fl_callV (k := 0) (As := [.int (nI a), .int (nI i)]) (rest := []) X hI dX1_leastTurns_32 (m_X1_basisNumber D dA ad N I J hN he hrr (by omega) (by omega)) (by omega) fl_c_5 rfl rfl wc_yX1_basisNumber wm_X1_72 wi_yX1_basisNumber wl_yX1_basisNumber wn_X1 hd_yX1_basisNumber rfl ⟨by first | decide | omega, by first | decide | omega⟩ hl.1 (Nat.le_of_ble_eq_true rfl) (fun v I2 J2 H locs hp hI => ?_)
    obtain ⟨hv, hI2, hJ2⟩ := hp
    subst hv
    rw [hI2, hJ2] at hI
    refine W.eq (g2 := F0 m 35 ls [.long (J (6 + 2 + (rr + a)) (eq + i))]) rfl ?_
    refine lv_lstore (lv' := [(8, .long (J (6 + 2 + (rr + a)) (eq + i))), (7, .int (nI i)), (5, .long lt), (4, .int (nI en)), (0, .ref (ad 0)), (1, .int (nI a)), (2, .int xl), (3, .int xh)]) hx hb dX1_leastTurns_35 hl (by decide) rfl (fun ls hl => ?_)
    refine lv_aload_n hx hb dX1_leastTurns_37 rfl (lv_at hl 4 rfl) ?_
    refine fl_get1 X hI dX1_leastTurns_38 (by omega) 10 (by decide) wf_X1_39 rfl ?_
    refine lv_iload_n hx hb dX1_leastTurns_41 rfl (lv_at hl 5 rfl) ?_
    refine fn_aald3 (k := 24) X hI dX1_leastTurns_42 (by omega) rfl (show a < 5 by omega) ?_
    refine lv_iload hx hb dX1_leastTurns_43 (lv_at hl 1 rfl) ?_
    refine fn_lald (k := 25 + a) X hI dX1_leastTurns_45 (by omega) (fk25 (by omega)) (by rw [fn25 (by omega)]; omega) ?_
    refine lv_lstore (lv' := [(10, .long (J (25 + a) i)), (8, .long (J (6 + 2 + (rr + a)) (eq + i))), (7, .int (nI i)), (5, .long lt), (4, .int (nI en)), (0, .ref (ad 0)), (1, .int (nI a)), (2, .int xl), (3, .int xh)]) hx hb dX1_leastTurns_46 hl (by decide) rfl (fun ls hl => ?_)
    refine lv_lload hx hb dX1_leastTurns_48 (lv_at hl 1 rfl) ?_
    refine lv_lconst (v := 0) hx hb dX1_leastTurns_50 rfl ?_
    refine fl_lc_eq (tgt := 91) hx hb dX1_leastTurns_51 dX1_leastTurns_52 (by decide) (fun c2 => ?_) (fun c2 => ?_)
    · refine lv_lload hx hb dX1_leastTurns_91 (lv_at hl 0 rfl) ?_
      refine lv_iload_n hx hb dX1_leastTurns_93 rfl (lv_at hl 7 rfl) ?_
      refine lv_i2l hx hb dX1_leastTurns_94 rfl ?_
      refine fl_lc_lt (tgt := 107) hx hb dX1_leastTurns_95 dX1_leastTurns_96 (by decide) (fun c3 => ?_) (fun c3 => ?_)
      · refine W.ldc2 (v := (1000000000000000)) hx hb X.2.2.2.1 (X.2.2.2.2 _ wk_X1_180) rfl dX1_leastTurns_107 ?_
        refine W.eq (g2 := F0 m 110 ls [.long ((1000000000000000))]) rfl ?_
        refine lv_lstore (lv' := [(5, .long ((1000000000000000))), (10, .long (J (25 + a) i)), (8, .long (J (6 + 2 + (rr + a)) (eq + i))), (7, .int (nI i)), (4, .int (nI en)), (0, .ref (ad 0)), (1, .int (nI a)), (2, .int xl), (3, .int xh)]) hx hb dX1_leastTurns_110 hl (by decide) rfl (fun ls hl => ?_)
        refine fn_iinc (a := i) (lv' := [(7, .int (nI (i + 1))), (5, .long ((1000000000000000))), (10, .long (J (25 + a) i)), (8, .long (J (6 + 2 + (rr + a)) (eq + i))), (4, .int (nI en)), (0, .ref (ad 0)), (1, .int (nI a)), (2, .int xl), (3, .int xh)]) X dX1_leastTurns_112 hl (k := 3) rfl (by decide) rfl (fun ls hl => ?_)
        refine lv_goto (tgt := 21) hx hb dX1_leastTurns_115 (by decide) ?_
        exact ih (i + 1) _ _ _ _ (by omega) hI (lv_sub hl [0, 1, 4, 5, 6, 7, 8] rfl) (by have h9 := hF; simp only [fl_it, x_lt1] at h9; (first | rw [if_pos c2] at h9 | rw [if_neg c2] at h9 | skip); (first | rw [if_pos c3] at h9 | rw [if_neg c3] at h9 | skip); exact h9)
      · refine lv_lload hx hb dX1_leastTurns_99 (lv_at hl 0 rfl) ?_
        refine lv_iload_n hx hb dX1_leastTurns_101 rfl (lv_at hl 8 rfl) ?_
        refine lv_i2l hx hb dX1_leastTurns_102 rfl ?_
        refine fl_lc_le (tgt := 112) hx hb dX1_leastTurns_103 dX1_leastTurns_104 (by decide) (fun c4 => ?_) (fun c4 => ?_)
        · refine fn_iinc (a := i) (lv' := [(7, .int (nI (i + 1))), (10, .long (J (25 + a) i)), (8, .long (J (6 + 2 + (rr + a)) (eq + i))), (5, .long lt), (4, .int (nI en)), (0, .ref (ad 0)), (1, .int (nI a)), (2, .int xl), (3, .int xh)]) X dX1_leastTurns_112 hl (k := 2) rfl (by decide) rfl (fun ls hl => ?_)
          refine lv_goto (tgt := 21) hx hb dX1_leastTurns_115 (by decide) ?_
          exact ih (i + 1) _ _ _ _ (by omega) hI (lv_sub hl [0, 3, 4, 5, 6, 7, 8] rfl) (by have h9 := hF; simp only [fl_it, x_lt1] at h9; (first | rw [if_pos c2] at h9 | rw [if_neg c2] at h9 | skip); (first | rw [if_pos c3] at h9 | rw [if_neg c3] at h9 | skip); (first | rw [if_pos c4] at h9 | rw [if_neg c4] at h9 | skip); exact h9)
        · refine W.ldc2 (v := (1000000000000000)) hx hb X.2.2.2.1 (X.2.2.2.2 _ wk_X1_180) rfl dX1_leastTurns_107 ?_
          refine W.eq (g2 := F0 m 110 ls [.long ((1000000000000000))]) rfl ?_
          refine lv_lstore (lv' := [(5, .long ((1000000000000000))), (10, .long (J (25 + a) i)), (8, .long (J (6 + 2 + (rr + a)) (eq + i))), (7, .int (nI i)), (4, .int (nI en)), (0, .ref (ad 0)), (1, .int (nI a)), (2, .int xl), (3, .int xh)]) hx hb dX1_leastTurns_110 hl (by decide) rfl (fun ls hl => ?_)
          refine fn_iinc (a := i) (lv' := [(7, .int (nI (i + 1))), (5, .long ((1000000000000000))), (10, .long (J (25 + a) i)), (8, .long (J (6 + 2 + (rr + a)) (eq + i))), (4, .int (nI en)), (0, .ref (ad 0)), (1, .int (nI a)), (2, .int xl), (3, .int xh)]) X dX1_leastTurns_112 hl (k := 3) rfl (by decide) rfl (fun ls hl => ?_)
          refine lv_goto (tgt := 21) hx hb dX1_leastTurns_115 (by decide) ?_
          exact ih (i + 1) _ _ _ _ (by omega) hI (lv_sub hl [0, 1, 4, 5, 6, 7, 8] rfl) (by have h9 := hF; simp only [fl_it, x_lt1] at h9; (first | rw [if_pos c2] at h9 | rw [if_neg c2] at h9 | skip); (first | rw [if_pos c3] at h9 | rw [if_neg c3] at h9 | skip); (first | rw [if_pos c4] at h9 | rw [if_neg c4] at h9 | skip); exact h9)
    · refine lv_lload hx hb dX1_leastTurns_55 (lv_at hl 1 rfl) ?_
      refine lv_lconst (v := 0) hx hb dX1_leastTurns_57 rfl ?_
      refine fl_lc_le (tgt := 66) hx hb dX1_leastTurns_58 dX1_leastTurns_59 (by decide) (fun c5 => ?_) (fun c5 => ?_)
      · refine lv_iload_n hx hb dX1_leastTurns_66 rfl (lv_at hl 8 rfl) ?_
        refine lv_istore (lv' := [(12, .int xh), (10, .long (J (25 + a) i)), (8, .long (J (6 + 2 + (rr + a)) (eq + i))), (7, .int (nI i)), (5, .long lt), (4, .int (nI en)), (0, .ref (ad 0)), (1, .int (nI a)), (2, .int xl), (3, .int xh)]) hx hb dX1_leastTurns_67 hl (by decide) rfl (fun ls hl => ?_)
        refine lv_lload hx hb dX1_leastTurns_69 (lv_at hl 4 rfl) ?_
        refine lv_lload hx hb dX1_leastTurns_71 (lv_at hl 1 rfl) ?_
        refine lv_iload hx hb dX1_leastTurns_73 (lv_at hl 0 rfl) ?_
        refine lv_i2l hx hb dX1_leastTurns_75 rfl ?_
        refine lv_lsub hx hb dX1_leastTurns_76 ?_
        refine lv_lload hx hb dX1_leastTurns_77 (lv_at hl 2 rfl) ?_
        refine fl_callS (As := [.long ((J (25 + a) i) - xh.toInt64), .long (J (6 + 2 + (rr + a)) (eq + i))]) (rest := [.long lt]) X hI dX1_leastTurns_79 (m_floorDiv D dA ad N I J ((J (25 + a) i) - xh.toInt64) (J (6 + 2 + (rr + a)) (eq + i)) c2) wc_yJ9_floorDiv_f86c9 wm_X1_174 ws_yJ9_floorDiv_f86c9 wn_J9 hd_yJ9_floorDiv_f86c9 rfl ⟨by first | decide | omega, by first | decide | omega⟩ hl.1 (Nat.le_of_ble_eq_true rfl) (fun v I2 J2 H locs hp hI => ?_)
        obtain ⟨hv, hI2, hJ2⟩ := hp
        subst hv
        rw [hI2, hJ2] at hI
        refine W.eq (g2 := F0 m 82 ls [.long (fd64 ((J (25 + a) i) - xh.toInt64) (J (6 + 2 + (rr + a)) (eq + i))), .long lt]) rfl ?_
        refine lv_lneg hx hb dX1_leastTurns_82 ?_
        refine fl_max X dX1_leastTurns_83 wm_X1_177 hl.1 (by first | decide | omega) (by first | decide | (simp [Value.category]; omega)) ?_
        refine lv_lstore (lv' := [(5, .long (mx64 lt (-(fd64 ((J (25 + a) i) - xh.toInt64) (J (6 + 2 + (rr + a)) (eq + i)))))), (12, .int xh), (10, .long (J (25 + a) i)), (8, .long (J (6 + 2 + (rr + a)) (eq + i))), (7, .int (nI i)), (4, .int (nI en)), (0, .ref (ad 0)), (1, .int (nI a)), (2, .int xl), (3, .int xh)]) hx hb dX1_leastTurns_86 hl (by decide) rfl (fun ls hl => ?_)
        refine lv_goto (tgt := 112) hx hb dX1_leastTurns_88 (by decide) ?_
        refine fn_iinc (a := i) (lv' := [(7, .int (nI (i + 1))), (5, .long (mx64 lt (-(fd64 ((J (25 + a) i) - xh.toInt64) (J (6 + 2 + (rr + a)) (eq + i)))))), (12, .int xh), (10, .long (J (25 + a) i)), (8, .long (J (6 + 2 + (rr + a)) (eq + i))), (4, .int (nI en)), (0, .ref (ad 0)), (1, .int (nI a)), (2, .int xl), (3, .int xh)]) X dX1_leastTurns_112 hl (k := 4) rfl (by decide) rfl (fun ls hl => ?_)
        refine lv_goto (tgt := 21) hx hb dX1_leastTurns_115 (by decide) ?_
        exact ih (i + 1) _ _ _ _ (by omega) hI (lv_sub hl [0, 1, 5, 6, 7, 8, 9] rfl) (by have h9 := hF; simp only [fl_it, x_lt1] at h9; (first | rw [if_pos c2] at h9 | rw [if_neg c2] at h9 | skip); (first | rw [if_pos c5] at h9 | rw [if_neg c5] at h9 | skip); exact h9)
      · refine lv_iload_n hx hb dX1_leastTurns_62 rfl (lv_at hl 7 rfl) ?_
        refine lv_goto (tgt := 67) hx hb dX1_leastTurns_63 (by decide) ?_
        refine lv_istore (lv' := [(12, .int xl), (10, .long (J (25 + a) i)), (8, .long (J (6 + 2 + (rr + a)) (eq + i))), (7, .int (nI i)), (5, .long lt), (4, .int (nI en)), (0, .ref (ad 0)), (1, .int (nI a)), (2, .int xl), (3, .int xh)]) hx hb dX1_leastTurns_67 hl (by decide) rfl (fun ls hl => ?_)
        refine lv_lload hx hb dX1_leastTurns_69 (lv_at hl 4 rfl) ?_
        refine lv_lload hx hb dX1_leastTurns_71 (lv_at hl 1 rfl) ?_
        refine lv_iload hx hb dX1_leastTurns_73 (lv_at hl 0 rfl) ?_
        refine lv_i2l hx hb dX1_leastTurns_75 rfl ?_
        refine lv_lsub hx hb dX1_leastTurns_76 ?_
        refine lv_lload hx hb dX1_leastTurns_77 (lv_at hl 2 rfl) ?_
        refine fl_callS (As := [.long ((J (25 + a) i) - xl.toInt64), .long (J (6 + 2 + (rr + a)) (eq + i))]) (rest := [.long lt]) X hI dX1_leastTurns_79 (m_floorDiv D dA ad N I J ((J (25 + a) i) - xl.toInt64) (J (6 + 2 + (rr + a)) (eq + i)) c2) wc_yJ9_floorDiv_f86c9 wm_X1_174 ws_yJ9_floorDiv_f86c9 wn_J9 hd_yJ9_floorDiv_f86c9 rfl ⟨by first | decide | omega, by first | decide | omega⟩ hl.1 (Nat.le_of_ble_eq_true rfl) (fun v I2 J2 H locs hp hI => ?_)
        obtain ⟨hv, hI2, hJ2⟩ := hp
        subst hv
        rw [hI2, hJ2] at hI
        refine W.eq (g2 := F0 m 82 ls [.long (fd64 ((J (25 + a) i) - xl.toInt64) (J (6 + 2 + (rr + a)) (eq + i))), .long lt]) rfl ?_
        refine lv_lneg hx hb dX1_leastTurns_82 ?_
        refine fl_max X dX1_leastTurns_83 wm_X1_177 hl.1 (by first | decide | omega) (by first | decide | (simp [Value.category]; omega)) ?_
        refine lv_lstore (lv' := [(5, .long (mx64 lt (-(fd64 ((J (25 + a) i) - xl.toInt64) (J (6 + 2 + (rr + a)) (eq + i)))))), (12, .int xl), (10, .long (J (25 + a) i)), (8, .long (J (6 + 2 + (rr + a)) (eq + i))), (7, .int (nI i)), (4, .int (nI en)), (0, .ref (ad 0)), (1, .int (nI a)), (2, .int xl), (3, .int xh)]) hx hb dX1_leastTurns_86 hl (by decide) rfl (fun ls hl => ?_)
        refine lv_goto (tgt := 112) hx hb dX1_leastTurns_88 (by decide) ?_
        refine fn_iinc (a := i) (lv' := [(7, .int (nI (i + 1))), (5, .long (mx64 lt (-(fd64 ((J (25 + a) i) - xl.toInt64) (J (6 + 2 + (rr + a)) (eq + i)))))), (12, .int xl), (10, .long (J (25 + a) i)), (8, .long (J (6 + 2 + (rr + a)) (eq + i))), (4, .int (nI en)), (0, .ref (ad 0)), (1, .int (nI a)), (2, .int xl), (3, .int xh)]) X dX1_leastTurns_112 hl (k := 4) rfl (by decide) rfl (fun ls hl => ?_)
        refine lv_goto (tgt := 21) hx hb dX1_leastTurns_115 (by decide) ?_
        exact ih (i + 1) _ _ _ _ (by omega) hI (lv_sub hl [0, 1, 5, 6, 7, 8, 9] rfl) (by have h9 := hF; simp only [fl_it, x_lt1] at h9; (first | rw [if_pos c2] at h9 | rw [if_neg c2] at h9 | skip); (first | rw [if_pos c5] at h9 | rw [if_neg c5] at h9 | skip); exact h9)
/-- the leads of the basis stand further right from row to row -/
def x_inc (n rr : Nat) (I : fl_TI) : Prop := ∀ i, rr + i + 1 < n → ldI I 12 (rr + i) < ldI I 12 (rr + i + 1)
theorem x_lu_mono {n eq rr a : Nat} {I : fl_TI} (h : x_ld n eq rr I) (hi : x_inc n rr I) (ha : rr + a < n) : x_lu n eq rr I a ≤ x_lu n eq rr I (a + 1) := by
  unfold x_lu
  rw [if_pos ha]
  have h1 := (h a ha).2
  by_cases q : rr + (a + 1) < n
  · rw [if_pos q]
    have h2 := hi a (by omega)
    have h3 : ldI I 12 (rr + (a + 1)) = ldI I 12 (rr + a + 1) := rfl
    omega
  · rw [if_neg q]; omega
theorem m_X1_leastTurns (D : va_G) (dA : Nat → ClassId) (ad : Nat → Nat) (N : Nat) (I : fl_TI) (J : fl_TJ) {n eq rr a : Nat} {xl xh : Int32} (hN : 30 ≤ N) (hn : I 0 2 = nI n) (hn4 : n ≤ 4) (he : I 0 3 = nI eq) (he3 : eq ≤ 3) (hrr : I 0 6 = nI rr) (hrn : rr ≤ n) (hxl : x_ld n eq rr I) (hinc : x_inc n rr I) (ha : rr + a < n) : FM yX1_leastTurns cX1_leastTurns 13 (some .long) 2 D dA ad N [.ref (ad 0), .int (nI a), .int xl, .int xh] I J (fun v I' J' => v = some (.long (x_least n eq rr xl xh I a J)) ∧ I' = I ∧ J' = J) := by
  refine FM.ofW RX1 rfl (by decide +kernel) (Nat.le_of_ble_eq_true rfl) ?_
  intro p l e s m args below meth c ls X hr hlk hI hl
  have hx := X.1
  have hb := X.2.1
  have hl : lv_has ls 13 [(0, .ref (ad 0)), (1, .int (nI a)), (2, .int xl), (3, .int xh)] := hl
  refine lv_aload_n hx hb dX1_leastTurns_0 rfl (lv_at hl 0 rfl) ?_
  refine lv_iload_n hx hb dX1_leastTurns_1 rfl (lv_at hl 1 rfl) ?_
  refine lv_iconst (v := nI 1) hx hb dX1_leastTurns_2 (by decide) ?_
  refine fn_iadd X dX1_leastTurns_3 ?_
  refine fl_callV (k := 0) (As := [.int (nI (a + 1))]) (rest := []) X hI dX1_leastTurns_4 (m_X1_leadUnknown D dA ad N I J hN hn he hrr hrn hn4 (i := a + 1) (by omega) (fun h => ⟨(hxl _ h).1, (hxl _ h).2.1⟩)) (by omega) fl_c_5 rfl rfl wc_yX1_leadUnknown wm_X1_158 wi_yX1_leadUnknown wl_yX1_leadUnknown wn_X1 hd_yX1_leadUnknown rfl ⟨by first | decide | omega, by first | decide | omega⟩ hl.1 (Nat.le_of_ble_eq_true rfl) (fun v I2 J2 H locs hp hI => ?_)
  obtain ⟨hv, hI2, hJ2⟩ := hp
  subst hv
  rw [hI2, hJ2] at hI
  refine W.eq (g2 := F0 m 7 ls [.int (nI (x_lu n eq rr I (a + 1)))]) rfl ?_
  refine lv_istore (lv' := [(4, .int (nI (x_lu n eq rr I (a + 1)))), (0, .ref (ad 0)), (1, .int (nI a)), (2, .int xl), (3, .int xh)]) hx hb dX1_leastTurns_7 hl (by decide) rfl (fun ls hl => ?_)
  refine W.ldc2 (v := (-1000000000000000)) hx hb X.2.2.2.1 (X.2.2.2.2 _ wk_X1_70) rfl dX1_leastTurns_9 ?_
  refine W.eq (g2 := F0 m 12 ls [.long ((-1000000000000000))]) rfl ?_
  refine lv_lstore (lv' := [(5, .long ((-1000000000000000))), (4, .int (nI (x_lu n eq rr I (a + 1)))), (0, .ref (ad 0)), (1, .int (nI a)), (2, .int xl), (3, .int xh)]) hx hb dX1_leastTurns_12 hl (by decide) rfl (fun ls hl => ?_)
  refine lv_aload_n hx hb dX1_leastTurns_14 rfl (lv_at hl 2 rfl) ?_
  refine lv_iload_n hx hb dX1_leastTurns_15 rfl (lv_at hl 3 rfl) ?_
  refine fl_callV (k := 0) (As := [.int (nI a)]) (rest := []) X hI dX1_leastTurns_16 (m_X1_leadUnknown D dA ad N I J hN hn he hrr hrn hn4 (i := a) (by omega) (fun h => ⟨(hxl _ h).1, (hxl _ h).2.1⟩)) (by omega) fl_c_5 rfl rfl wc_yX1_leadUnknown wm_X1_158 wi_yX1_leadUnknown wl_yX1_leadUnknown wn_X1 hd_yX1_leadUnknown rfl ⟨by first | decide | omega, by first | decide | omega⟩ hl.1 (Nat.le_of_ble_eq_true rfl) (fun v I2 J2 H locs hp hI => ?_)
  obtain ⟨hv, hI2, hJ2⟩ := hp
  subst hv
  rw [hI2, hJ2] at hI
  refine W.eq (g2 := F0 m 19 ls [.int (nI (x_lu n eq rr I a))]) rfl ?_
  refine lv_istore (lv' := [(7, .int (nI (x_lu n eq rr I a))), (5, .long ((-1000000000000000))), (4, .int (nI (x_lu n eq rr I (a + 1)))), (0, .ref (ad 0)), (1, .int (nI a)), (2, .int xl), (3, .int xh)]) hx hb dX1_leastTurns_19 hl (by decide) rfl (fun ls hl => ?_)
  have h31 := x_lu_le hxl (a + 1)
  have h32 := x_lu_mono hxl hinc ha
  refine lp_least X hN hn hn4 he he3 hrr hrn hxl ha h31 ⟨by decide, by decide⟩ (lt9 := x_least n eq rr xl xh I a J) (fun H locs ls hI hl => ?_) (x_lu n eq rr I (a + 1) - x_lu n eq rr I a) (x_lu n eq rr I a) _ _ _ _ (by omega) hI (lv_sub hl [0, 1, 2, 3, 4, 5, 6] rfl) rfl
  refine lv_lload hx hb dX1_leastTurns_118 (lv_at hl 1 rfl) ?_
  exact fl_lret X hr hlk hI dX1_leastTurns_120 ⟨rfl, rfl, rfl⟩
theorem lp_most {p : Program} {l : Launch} {e : Env} {R : Room} {s : State} {m : MethodId} {args : Array Value} {below : List Frame} {meth : Method} {c : Code} {Q : State → Prop} {D : va_G} {dA : Nat → ClassId} {ad : Nat → Nat} {N : Nat} {A : Nat → Prop} {H0 : Heap} {I : fl_TI} {J : fl_TJ} {lt9 : Int64} (X : CallFix p m c cX1_mostTurns 11 s args fl_tb RX1) {n eq rr a en : Nat} {xl xh : Int32} (hN : 30 ≤ N) (hn : I 0 2 = nI n) (hn4 : n ≤ 4) (he : I 0 3 = nI eq) (he3 : eq ≤ 3) (hrr : I 0 6 = nI rr) (hrn : rr ≤ n) (hxl : x_ld n eq rr I) (ha : rr + a < n) (hen : en ≤ n) (hR : 1 + 1 ≤ R.frames ∧ 8 + (13 + 11) + 40 * 1 ≤ R.locals)
    (kx : ∀ (H : Heap) (locs : List Loc) (ls : Array Slot), fl_I D dA ad N I J A s H0 H locs → lv_has ls 11 [(7, .int (nI en)), (5, .long lt9), (4, .int (nI en)), (0, .ref (ad 0)), (1, .int (nI a)), (2, .int xl), (3, .int xh)] → W p l e R s m args below meth c H locs 0 0 Q (F0 m 89 ls [])) :
    ∀ (k i : Nat) (lt : Int64) (H : Heap) (locs : List Loc) (ls : Array Slot), i + k = en → fl_I D dA ad N I J A s H0 H locs → lv_has ls 11 [(7, .int (nI i)), (5, .long lt), (4, .int (nI en)), (0, .ref (ad 0)), (1, .int (nI a)), (2, .int xl), (3, .int xh)] → fl_it (fun j ms => x_mt1 xl xh (J (6 + 2 + (rr + a)) (eq + j)) (J (25 + a) j) ms) k i lt = lt9 → W p l e R s m args below meth c H locs 0 0 Q (F0 m 21 ls []) := by
  have hx := X.1
  have hb := X.2.1
  intro k
  induction k with
  | zero =>
    intro i lt H locs ls hk hI hl hF
    have hF : lt = lt9 := hF
    subst hF
    have hk : en = i := by omega
    subst hk
    refine lv_iload hx hb dX1_mostTurns_21 (lv_at hl 0 rfl) ?_
    refine lv_iload hx hb dX1_mostTurns_23 (lv_at hl 2 rfl) ?_
    refine fn_icmp_ge X (tgt := 89) dX1_mostTurns_25 (by decide) (by omega) (by omega) (fun c1 => ?_) (fun c1 => absurd c1 (by omega))
    exact kx _ _ _ hI (lv_sub hl [0, 1, 2, 3, 4, 5, 6] rfl)
  | succ k ih =>
    intro i lt H locs ls hk hI hl hF
    refine lv_iload hx hb dX1_mostTurns_21 (lv_at hl 0 rfl) ?_
    refine lv_iload hx hb dX1_mostTurns_23 (lv_at hl 2 rfl) ?_
    refine fn_icmp_ge X (tgt := 89) dX1_mostTurns_25 (by decide) (by omega) (by omega) (fun c1 => absurd c1 (by omega)) (fun c1 => ?_)
    refine lv_aload_n hx hb dX1_mostTurns_28 rfl (lv_at hl 3 rfl) ?_
    refine lv_iload_n hx hb dX1_mostTurns_29 rfl (lv_at hl 4 rfl) ?_
    refine lv_iload hx hb dX1_mostTurns_30 (lv_at hl 0 rfl) ?_
    refine fl_callV (k := 0) (As := [.int (nI a), .int (nI i)]) (rest := []) X hI dX1_mostTurns_32 (m_X1_basisNumber D dA ad N I J hN he hrr (by omega) (by omega)) (by omega) fl_c_5 rfl rfl wc_yX1_basisNumber wm_X1_72 wi_yX1_basisNumber wl_yX1_basisNumber wn_X1 hd_yX1_basisNumber rfl ⟨by first | decide | omega, by first | decide | omega⟩ hl.1 (Nat.le_of_ble_eq_true rfl) (fun v I2 J2 H locs hp hI => ?_)
    obtain ⟨hv, hI2, hJ2⟩ := hp
    subst hv
    rw [hI2, hJ2] at hI
    refine W.eq (g2 := F0 m 35 ls [.long (J (6 + 2 + (rr + a)) (eq + i))]) rfl ?_
    refine lv_lstore (lv' := [(8, .long (J (6 + 2 + (rr + a)) (eq + i))), (7, .int (nI i)), (5, .long lt), (4, .int (nI en)), (0, .ref (ad 0)), (1, .int (nI a)), (2, .int xl), (3, .int xh)]) hx hb dX1_mostTurns_35 hl (by decide) rfl (fun ls hl => ?_)
    refine lv_lload hx hb dX1_mostTurns_37 (lv_at hl 0 rfl) ?_
    refine lv_lconst (v := 0) hx hb dX1_mostTurns_39 rfl ?_
    refine fl_lc_eq (tgt := 83) hx hb dX1_mostTurns_40 dX1_mostTurns_41 (by decide) (fun c2 => ?_) (fun c2 => ?_)
    · refine fn_iinc (a := i) (lv' := [(7, .int (nI (i + 1))), (8, .long (J (6 + 2 + (rr + a)) (eq + i))), (5, .long lt), (4, .int (nI en)), (0, .ref (ad 0)), (1, .int (nI a)), (2, .int xl), (3, .int xh)]) X dX1_mostTurns_83 hl (k := 1) rfl (by decide) rfl (fun ls hl => ?_)
      refine lv_goto (tgt := 21) hx hb dX1_mostTurns_86 (by decide) ?_
      exact ih (i + 1) _ _ _ _ (by omega) hI (lv_sub hl [0, 2, 3, 4, 5, 6, 7] rfl) (by have h9 := hF; simp only [fl_it, x_mt1] at h9; (first | rw [if_pos c2] at h9 | rw [if_neg c2] at h9 | skip); exact h9)
    · refine lv_lload hx hb dX1_mostTurns_44 (lv_at hl 0 rfl) ?_
      refine lv_lconst (v := 0) hx hb dX1_mostTurns_46 rfl ?_
      refine fl_lc_le (tgt := 55) hx hb dX1_mostTurns_47 dX1_mostTurns_48 (by decide) (fun c3 => ?_) (fun c3 => ?_)
      · refine lv_iload_n hx hb dX1_mostTurns_55 rfl (lv_at hl 6 rfl) ?_
        refine lv_istore (lv' := [(10, .int xl), (8, .long (J (6 + 2 + (rr + a)) (eq + i))), (7, .int (nI i)), (5, .long lt), (4, .int (nI en)), (0, .ref (ad 0)), (1, .int (nI a)), (2, .int xl), (3, .int xh)]) hx hb dX1_mostTurns_56 hl (by decide) rfl (fun ls hl => ?_)
        refine lv_lload hx hb dX1_mostTurns_58 (lv_at hl 3 rfl) ?_
        refine lv_iload hx hb dX1_mostTurns_60 (lv_at hl 0 rfl) ?_
        refine lv_i2l hx hb dX1_mostTurns_62 rfl ?_
        refine lv_aload_n hx hb dX1_mostTurns_63 rfl (lv_at hl 5 rfl) ?_
        refine fl_get1 X hI dX1_mostTurns_64 (by omega) 10 (by decide) wf_X1_39 rfl ?_
        refine lv_iload_n hx hb dX1_mostTurns_67 rfl (lv_at hl 6 rfl) ?_
        refine fn_aald3 (k := 24) X hI dX1_mostTurns_68 (by omega) rfl (show a < 5 by omega) ?_
        refine lv_iload hx hb dX1_mostTurns_69 (lv_at hl 2 rfl) ?_
        refine fn_lald (k := 25 + a) X hI dX1_mostTurns_71 (by omega) (fk25 (by omega)) (by rw [fn25 (by omega)]; omega) ?_
        refine lv_lsub hx hb dX1_mostTurns_72 ?_
        refine lv_lload hx hb dX1_mostTurns_73 (lv_at hl 1 rfl) ?_
        refine fl_callS (As := [.long (xl.toInt64 - (J (25 + a) i)), .long (J (6 + 2 + (rr + a)) (eq + i))]) (rest := [.long lt]) X hI dX1_mostTurns_75 (m_floorDiv D dA ad N I J (xl.toInt64 - (J (25 + a) i)) (J (6 + 2 + (rr + a)) (eq + i)) c2) wc_yJ9_floorDiv_f86c9 wm_X1_174 ws_yJ9_floorDiv_f86c9 wn_J9 hd_yJ9_floorDiv_f86c9 rfl ⟨by first | decide | omega, by first | decide | omega⟩ hl.1 (Nat.le_of_ble_eq_true rfl) (fun v I2 J2 H locs hp hI => ?_)
        obtain ⟨hv, hI2, hJ2⟩ := hp
        subst hv
        rw [hI2, hJ2] at hI
        refine W.eq (g2 := F0 m 78 ls [.long (fd64 (xl.toInt64 - (J (25 + a) i)) (J (6 + 2 + (rr + a)) (eq + i))), .long lt]) rfl ?_
        refine fl_min X dX1_mostTurns_78 wm_X1_184 hl.1 (by first | decide | omega) (by first | decide | (simp [Value.category]; omega)) ?_
        refine lv_lstore (lv' := [(5, .long (mn64 lt (fd64 (xl.toInt64 - (J (25 + a) i)) (J (6 + 2 + (rr + a)) (eq + i))))), (10, .int xl), (8, .long (J (6 + 2 + (rr + a)) (eq + i))), (7, .int (nI i)), (4, .int (nI en)), (0, .ref (ad 0)), (1, .int (nI a)), (2, .int xl), (3, .int xh)]) hx hb dX1_mostTurns_81 hl (by decide) rfl (fun ls hl => ?_)
        refine fn_iinc (a := i) (lv' := [(7, .int (nI (i + 1))), (5, .long (mn64 lt (fd64 (xl.toInt64 - (J (25 + a) i)) (J (6 + 2 + (rr + a)) (eq + i))))), (10, .int xl), (8, .long (J (6 + 2 + (rr + a)) (eq + i))), (4, .int (nI en)), (0, .ref (ad 0)), (1, .int (nI a)), (2, .int xl), (3, .int xh)]) X dX1_mostTurns_83 hl (k := 3) rfl (by decide) rfl (fun ls hl => ?_)
        refine lv_goto (tgt := 21) hx hb dX1_mostTurns_86 (by decide) ?_
        exact ih (i + 1) _ _ _ _ (by omega) hI (lv_sub hl [0, 1, 4, 5, 6, 7, 8] rfl) (by have h9 := hF; simp only [fl_it, x_mt1] at h9; (first | rw [if_pos c2] at h9 | rw [if_neg c2] at h9 | skip); (first | rw [if_pos c3] at h9 | rw [if_neg c3] at h9 | skip); exact h9)
      · refine lv_iload_n hx hb dX1_mostTurns_51 rfl (lv_at hl 7 rfl) ?_
        refine lv_goto (tgt := 56) hx hb dX1_mostTurns_52 (by decide) ?_
        refine lv_istore (lv' := [(10, .int xh), (8, .long (J (6 + 2 + (rr + a)) (eq + i))), (7, .int (nI i)), (5, .long lt), (4, .int (nI en)), (0, .ref (ad 0)), (1, .int (nI a)), (2, .int xl), (3, .int xh)]) hx hb dX1_mostTurns_56 hl (by decide) rfl (fun ls hl => ?_)
        refine lv_lload hx hb dX1_mostTurns_58 (lv_at hl 3 rfl) ?_
        refine lv_iload hx hb dX1_mostTurns_60 (lv_at hl 0 rfl) ?_
        refine lv_i2l hx hb dX1_mostTurns_62 rfl ?_
        refine lv_aload_n hx hb dX1_mostTurns_63 rfl (lv_at hl 5 rfl) ?_
        refine fl_get1 X hI dX1_mostTurns_64 (by omega) 10 (by decide) wf_X1_39 rfl ?_
        refine lv_iload_n hx hb dX1_mostTurns_67 rfl (lv_at hl 6 rfl) ?_
        refine fn_aald3 (k := 24) X hI dX1_mostTurns_68 (by omega) rfl (show a < 5 by omega) ?_
        refine lv_iload hx hb dX1_mostTurns_69 (lv_at hl 2 rfl) ?_
        refine fn_lald (k := 25 + a) X hI dX1_mostTurns_71 (by omega) (fk25 (by omega)) (by rw [fn25 (by omega)]; omega) ?_
        refine lv_lsub hx hb dX1_mostTurns_72 ?_
        refine lv_lload hx hb dX1_mostTurns_73 (lv_at hl 1 rfl) ?_
        refine fl_callS (As := [.long (xh.toInt64 - (J (25 + a) i)), .long (J (6 + 2 + (rr + a)) (eq + i))]) (rest := [.long lt]) X hI dX1_mostTurns_75 (m_floorDiv D dA ad N I J (xh.toInt64 - (J (25 + a) i)) (J (6 + 2 + (rr + a)) (eq + i)) c2) wc_yJ9_floorDiv_f86c9 wm_X1_174 ws_yJ9_floorDiv_f86c9 wn_J9 hd_yJ9_floorDiv_f86c9 rfl ⟨by first | decide | omega, by first | decide | omega⟩ hl.1 (Nat.le_of_ble_eq_true rfl) (fun v I2 J2 H locs hp hI => ?_)
        obtain ⟨hv, hI2, hJ2⟩ := hp
        subst hv
        rw [hI2, hJ2] at hI
        refine W.eq (g2 := F0 m 78 ls [.long (fd64 (xh.toInt64 - (J (25 + a) i)) (J (6 + 2 + (rr + a)) (eq + i))), .long lt]) rfl ?_
        refine fl_min X dX1_mostTurns_78 wm_X1_184 hl.1 (by first | decide | omega) (by first | decide | (simp [Value.category]; omega)) ?_
        refine lv_lstore (lv' := [(5, .long (mn64 lt (fd64 (xh.toInt64 - (J (25 + a) i)) (J (6 + 2 + (rr + a)) (eq + i))))), (10, .int xh), (8, .long (J (6 + 2 + (rr + a)) (eq + i))), (7, .int (nI i)), (4, .int (nI en)), (0, .ref (ad 0)), (1, .int (nI a)), (2, .int xl), (3, .int xh)]) hx hb dX1_mostTurns_81 hl (by decide) rfl (fun ls hl => ?_)
        refine fn_iinc (a := i) (lv' := [(7, .int (nI (i + 1))), (5, .long (mn64 lt (fd64 (xh.toInt64 - (J (25 + a) i)) (J (6 + 2 + (rr + a)) (eq + i))))), (10, .int xh), (8, .long (J (6 + 2 + (rr + a)) (eq + i))), (4, .int (nI en)), (0, .ref (ad 0)), (1, .int (nI a)), (2, .int xl), (3, .int xh)]) X dX1_mostTurns_83 hl (k := 3) rfl (by decide) rfl (fun ls hl => ?_)
        refine lv_goto (tgt := 21) hx hb dX1_mostTurns_86 (by decide) ?_
        exact ih (i + 1) _ _ _ _ (by omega) hI (lv_sub hl [0, 1, 4, 5, 6, 7, 8] rfl) (by have h9 := hF; simp only [fl_it, x_mt1] at h9; (first | rw [if_pos c2] at h9 | rw [if_neg c2] at h9 | skip); (first | rw [if_pos c3] at h9 | rw [if_neg c3] at h9 | skip); exact h9)
theorem m_X1_mostTurns (D : va_G) (dA : Nat → ClassId) (ad : Nat → Nat) (N : Nat) (I : fl_TI) (J : fl_TJ) {n eq rr a : Nat} {xl xh : Int32} (hN : 30 ≤ N) (hn : I 0 2 = nI n) (hn4 : n ≤ 4) (he : I 0 3 = nI eq) (he3 : eq ≤ 3) (hrr : I 0 6 = nI rr) (hrn : rr ≤ n) (hxl : x_ld n eq rr I) (hinc : x_inc n rr I) (ha : rr + a < n) : FM yX1_mostTurns cX1_mostTurns 11 (some .long) 2 D dA ad N [.ref (ad 0), .int (nI a), .int xl, .int xh] I J (fun v I' J' => v = some (.long (x_most n eq rr xl xh I a J)) ∧ I' = I ∧ J' = J) := by
  refine FM.ofW RX1 rfl (by decide +kernel) (Nat.le_of_ble_eq_true rfl) ?_
  intro p l e s m args below meth c ls X hr hlk hI hl
  have hx := X.1
  have hb := X.2.1
  have hl : lv_has ls 11 [(0, .ref (ad 0)), (1, .int (nI a)), (2, .int xl), (3, .int xh)] := hl
  refine lv_aload_n hx hb dX1_mostTurns_0 rfl (lv_at hl 0 rfl) ?_
  refine lv_iload_n hx hb dX1_mostTurns_1 rfl (lv_at hl 1 rfl) ?_
  refine lv_iconst (v := nI 1) hx hb dX1_mostTurns_2 (by decide) ?_
  refine fn_iadd X dX1_mostTurns_3 ?_
  refine fl_callV (k := 0) (As := [.int (nI (a + 1))]) (rest := []) X hI dX1_mostTurns_4 (m_X1_leadUnknown D dA ad N I J hN hn he hrr hrn hn4 (i := a + 1) (by omega) (fun h => ⟨(hxl _ h).1, (hxl _ h).2.1⟩)) (by omega) fl_c_5 rfl rfl wc_yX1_leadUnknown wm_X1_158 wi_yX1_leadUnknown wl_yX1_leadUnknown wn_X1 hd_yX1_leadUnknown rfl ⟨by first | decide | omega, by first | decide | omega⟩ hl.1 (Nat.le_of_ble_eq_true rfl) (fun v I2 J2 H locs hp hI => ?_)
  obtain ⟨hv, hI2, hJ2⟩ := hp
  subst hv
  rw [hI2, hJ2] at hI
  refine W.eq (g2 := F0 m 7 ls [.int (nI (x_lu n eq rr I (a + 1)))]) rfl ?_
  refine lv_istore (lv' := [(4, .int (nI (x_lu n eq rr I (a + 1)))), (0, .ref (ad 0)), (1, .int (nI a)), (2, .int xl), (3, .int xh)]) hx hb dX1_mostTurns_7 hl (by decide) rfl (fun ls hl => ?_)
  refine W.ldc2 (v := (999999999999999)) hx hb X.2.2.2.1 (X.2.2.2.2 _ wk_X1_182) rfl dX1_mostTurns_9 ?_
  refine W.eq (g2 := F0 m 12 ls [.long ((999999999999999))]) rfl ?_
  refine lv_lstore (lv' := [(5, .long ((999999999999999))), (4, .int (nI (x_lu n eq rr I (a + 1)))), (0, .ref (ad 0)), (1, .int (nI a)), (2, .int xl), (3, .int xh)]) hx hb dX1_mostTurns_12 hl (by decide) rfl (fun ls hl => ?_)
  refine lv_aload_n hx hb dX1_mostTurns_14 rfl (lv_at hl 2 rfl) ?_
  refine lv_iload_n hx hb dX1_mostTurns_15 rfl (lv_at hl 3 rfl) ?_
  refine fl_callV (k := 0) (As := [.int (nI a)]) (rest := []) X hI dX1_mostTurns_16 (m_X1_leadUnknown D dA ad N I J hN hn he hrr hrn hn4 (i := a) (by omega) (fun h => ⟨(hxl _ h).1, (hxl _ h).2.1⟩)) (by omega) fl_c_5 rfl rfl wc_yX1_leadUnknown wm_X1_158 wi_yX1_leadUnknown wl_yX1_leadUnknown wn_X1 hd_yX1_leadUnknown rfl ⟨by first | decide | omega, by first | decide | omega⟩ hl.1 (Nat.le_of_ble_eq_true rfl) (fun v I2 J2 H locs hp hI => ?_)
  obtain ⟨hv, hI2, hJ2⟩ := hp
  subst hv
  rw [hI2, hJ2] at hI
  refine W.eq (g2 := F0 m 19 ls [.int (nI (x_lu n eq rr I a))]) rfl ?_
  refine lv_istore (lv' := [(7, .int (nI (x_lu n eq rr I a))), (5, .long ((999999999999999))), (4, .int (nI (x_lu n eq rr I (a + 1)))), (0, .ref (ad 0)), (1, .int (nI a)), (2, .int xl), (3, .int xh)]) hx hb dX1_mostTurns_19 hl (by decide) rfl (fun ls hl => ?_)
  have h31 := x_lu_le hxl (a + 1)
  have h32 := x_lu_mono hxl hinc ha
  refine lp_most X hN hn hn4 he he3 hrr hrn hxl ha h31 ⟨by decide, by decide⟩ (lt9 := x_most n eq rr xl xh I a J) (fun H locs ls hI hl => ?_) (x_lu n eq rr I (a + 1) - x_lu n eq rr I a) (x_lu n eq rr I a) _ _ _ _ (by omega) hI (lv_sub hl [0, 1, 2, 3, 4, 5, 6] rfl) rfl
  refine lv_lload hx hb dX1_mostTurns_89 (lv_at hl 1 rfl) ?_
  exact fl_lret X hr hlk hI dX1_mostTurns_91 ⟨rfl, rfl, rfl⟩
def j_turn (n eq rr a : Nat) (t : Int64) (J : fl_TJ) : fl_TJ := fl_it (fun j J => fl_up J (25 + (a + 1)) j (J (25 + a) j + t * J (6 + 2 + (rr + a)) (eq + j))) n 0 J
theorem lp_turn {p : Program} {l : Launch} {e : Env} {R : Room} {s : State} {m : MethodId} {args : Array Value} {below : List Frame} {meth : Method} {c : Code} {Q : State → Prop} {D : va_G} {dA : Nat → ClassId} {ad : Nat → Nat} {N : Nat} {A : Nat → Prop} {H0 : Heap} {I : fl_TI} {J9 : fl_TJ} (X : CallFix p m c cX1_turn 5 s args fl_tb RX1) {n eq rr a : Nat} {t : Int64} (hN : 30 ≤ N) (hn : I 0 2 = nI n) (hn4 : n ≤ 4) (he : I 0 3 = nI eq) (he3 : eq ≤ 3) (hrr : I 0 6 = nI rr) (hrn : rr ≤ n) (hxl : x_ld n eq rr I) (ha : rr + a < n) (hR : 1 + 1 ≤ R.frames ∧ 8 + (3 + 11) + 40 * 1 ≤ R.locals)
    (kx : ∀ (H : Heap) (locs : List Loc) (ls : Array Slot), fl_I D dA ad N I J9 A s H0 H locs → lv_has ls 5 [(4, .int (nI n)), (0, .ref (ad 0)), (1, .int (nI a)), (2, .long t)] → W p l e R s m args below meth c H locs 0 0 Q (F0 m 48 ls [])) :
    ∀ (k i : Nat) (J : fl_TJ) (H : Heap) (locs : List Loc) (ls : Array Slot), i + k = n → fl_I D dA ad N I J A s H0 H locs → lv_has ls 5 [(4, .int (nI i)), (0, .ref (ad 0)), (1, .int (nI a)), (2, .long t)] → fl_it (fun j J => fl_up J (25 + (a + 1)) j (J (25 + a) j + t * J (6 + 2 + (rr + a)) (eq + j))) k i J = J9 → W p l e R s m args below meth c H locs 0 0 Q (F0 m 3 ls []) := by
  have hx := X.1
  have hb := X.2.1
  intro k
  induction k with
  | zero =>
    intro i J H locs ls hk hI hl hF
    have hF : J = J9 := hF
    subst hF
    have hk : n = i := by omega
    subst hk
    refine lv_iload hx hb dX1_turn_3 (lv_at hl 0 rfl) ?_
    refine lv_aload_n hx hb dX1_turn_5 rfl (lv_at hl 1 rfl) ?_
    refine fl_get1 X hI dX1_turn_6 (by omega) 2 (by decide) wf_X1_42 rfl ?_
    refine W.eq (g2 := F0 m 9 ls [.int (nI n), .int (nI n)]) (by rw [hn]) ?_
    refine fn_icmp_ge X (tgt := 48) dX1_turn_9 (by decide) (by omega) (by omega) (fun c1 => ?_) (fun c1 => absurd c1 (by omega))
    exact kx _ _ _ hI (lv_sub hl [0, 1, 2, 3] rfl)
  | succ k ih =>
    intro i J H locs ls hk hI hl hF
    refine lv_iload hx hb dX1_turn_3 (lv_at hl 0 rfl) ?_
    refine lv_aload_n hx hb dX1_turn_5 rfl (lv_at hl 1 rfl) ?_
    refine fl_get1 X hI dX1_turn_6 (by omega) 2 (by decide) wf_X1_42 rfl ?_
    refine W.eq (g2 := F0 m 9 ls [.int (nI n), .int (nI i)]) (by rw [hn]) ?_
    refine fn_icmp_ge X (tgt := 48) dX1_turn_9 (by decide) (by omega) (by omega) (fun c1 => absurd c1 (by omega)) (fun c1 => ?_)
    refine lv_aload_n hx hb dX1_turn_12 rfl (lv_at hl 1 rfl) ?_
    refine fl_get1 X hI dX1_turn_13 (by omega) 10 (by decide) wf_X1_39 rfl ?_
    refine lv_iload_n hx hb dX1_turn_16 rfl (lv_at hl 2 rfl) ?_
    refine lv_iconst (v := nI 1) hx hb dX1_turn_17 (by decide) ?_
    refine fn_iadd X dX1_turn_18 ?_
    refine fn_aald3 (k := 24) X hI dX1_turn_19 (by omega) rfl (show a + 1 < 5 by omega) ?_
    refine lv_iload hx hb dX1_turn_20 (lv_at hl 0 rfl) ?_
    refine lv_aload_n hx hb dX1_turn_22 rfl (lv_at hl 1 rfl) ?_
    refine fl_get1 X hI dX1_turn_23 (by omega) 10 (by decide) wf_X1_39 rfl ?_
    refine lv_iload_n hx hb dX1_turn_26 rfl (lv_at hl 2 rfl) ?_
    refine fn_aald3 (k := 24) X hI dX1_turn_27 (by omega) rfl (show a < 5 by omega) ?_
    refine lv_iload hx hb dX1_turn_28 (lv_at hl 0 rfl) ?_
    refine fn_lald (k := 25 + a) X hI dX1_turn_30 (by omega) (fk25 (by omega)) (by rw [fn25 (by omega)]; omega) ?_
    refine lv_lload_n hx hb dX1_turn_31 rfl (lv_at hl 3 rfl) ?_
    refine lv_aload_n hx hb dX1_turn_32 rfl (lv_at hl 1 rfl) ?_
    refine lv_iload_n hx hb dX1_turn_33 rfl (lv_at hl 2 rfl) ?_
    refine lv_iload hx hb dX1_turn_34 (lv_at hl 0 rfl) ?_
    refine fl_callV (k := 0) (As := [.int (nI a), .int (nI i)]) (rest := [.long t, .long (J (25 + a) i), .int (nI i), .ref (ad (25 + (a + 1)))]) X hI dX1_turn_36 (m_X1_basisNumber D dA ad N I J hN he hrr (by omega) (by omega)) (by omega) fl_c_5 rfl rfl wc_yX1_basisNumber wm_X1_72 wi_yX1_basisNumber wl_yX1_basisNumber wn_X1 hd_yX1_basisNumber rfl ⟨by first | decide | omega, by first | decide | omega⟩ hl.1 (Nat.le_of_ble_eq_true rfl) (fun v I2 J2 H locs hp hI => ?_)
    obtain ⟨hv, hI2, hJ2⟩ := hp
    subst hv
    rw [hI2, hJ2] at hI
    refine W.eq (g2 := F0 m 39 ls [.long (J (6 + 2 + (rr + a)) (eq + i)), .long t, .long (J (25 + a) i), .int (nI i), .ref (ad (25 + (a + 1)))]) rfl ?_
    refine lv_lmul hx hb dX1_turn_39 ?_
    refine lv_ladd hx hb dX1_turn_40 ?_
    refine fn_last (k := 25 + (a + 1)) X hI dX1_turn_41 (by omega) (fk25 (by omega)) (by rw [fn25 (by omega)]; omega) (fun H locs hI => ?_)
    refine fn_iinc (a := i) (lv' := [(4, .int (nI (i + 1))), (0, .ref (ad 0)), (1, .int (nI a)), (2, .long t)]) X dX1_turn_42 hl (k := 0) rfl (by decide) rfl (fun ls hl => ?_)
    refine lv_goto (tgt := 3) hx hb dX1_turn_45 (by decide) ?_
    exact ih (i + 1) _ _ _ _ (by omega) hI (lv_sub hl [0, 1, 2, 3] rfl) hF
theorem m_X1_turn (D : va_G) (dA : Nat → ClassId) (ad : Nat → Nat) (N : Nat) (I : fl_TI) (J : fl_TJ) {n eq rr a : Nat} {t : Int64} (hN : 30 ≤ N) (hn : I 0 2 = nI n) (hn4 : n ≤ 4) (he : I 0 3 = nI eq) (he3 : eq ≤ 3) (hrr : I 0 6 = nI rr) (hrn : rr ≤ n) (hxl : x_ld n eq rr I) (ha : rr + a < n) : FM yX1_turn cX1_turn 5 none 2 D dA ad N [.ref (ad 0), .int (nI a), .long t] I J (fun v I' J' => v = none ∧ I' = I ∧ J' = j_turn n eq rr a t J) := by
  refine FM.ofW RX1 rfl (by decide +kernel) (Nat.le_of_ble_eq_true rfl) ?_
  intro p l e s m args below meth c ls X hr hlk hI hl
  have hx := X.1
  have hb := X.2.1
  have hl : lv_has ls 5 [(0, .ref (ad 0)), (1, .int (nI a)), (2, .long t)] := hl
  refine lv_iconst (v := nI 0) hx hb dX1_turn_0 (by decide) ?_
  refine lv_istore (lv' := [(4, .int (nI 0)), (0, .ref (ad 0)), (1, .int (nI a)), (2, .long t)]) hx hb dX1_turn_1 hl (by decide) rfl (fun ls hl => ?_)
  exact lp_turn X hN hn hn4 he he3 hrr hrn hxl ha ⟨by decide, by decide⟩ (J9 := j_turn n eq rr a t J) (fun H locs ls hI hl => fl_vret X hr hlk hI dX1_turn_48 ⟨rfl, rfl, rfl⟩) n 0 _ _ _ _ (Nat.zero_add _) hI (lv_sub hl [0, 1, 2, 3] rfl) rfl
def x_llu (eq rr a : Nat) (J : fl_TJ) : Nat → Nat → Int32
  | 0, _ => nI 1
  | k + 1, j => if J (6 + 2 + (rr + a)) (eq + j) = 0 then x_llu eq rr a J k (j + 1) else nI 0
def x_unm (xl xh : Int32) (J : fl_TJ) : Nat → Nat → Int32
  | 0, _ => nI 1
  | k + 1, j => if J (25 + 0) j < xl.toInt64 then nI 0 else if xh.toInt64 < J (25 + 0) j then nI 0 else x_unm xl xh J k (j + 1)
theorem lp_llu {p : Program} {l : Launch} {e : Env} {R : Room} {s : State} {m : MethodId} {args : Array Value} {below : List Frame} {meth : Method} {c : Code} {D : va_G} {dA : Nat → ClassId} {ad : Nat → Nat} {N : Nat} {A : Nat → Prop} {I : fl_TI} {J : fl_TJ} {post : Option Value → fl_TI → fl_TJ → Prop} (X : CallFix p m c cX1_leavesLaterUnknowns 3 s args fl_tb RX1) (hr : meth.sig.returnType = some .boolean) (hlk : meth.locks = false) {n eq rr a : Nat} (hN : 30 ≤ N) (hn : I 0 2 = nI n) (hn4 : n ≤ 4) (he : I 0 3 = nI eq) (he3 : eq ≤ 3) (hrr : I 0 6 = nI rr) (hrn : rr ≤ n) (hxl : x_ld n eq rr I) (ha : rr + a < n) (hR : 1 + 1 ≤ R.frames ∧ 8 + (3 + 11) + 40 * 1 ≤ R.locals) :
    ∀ (k i : Nat) (H : Heap) (locs : List Loc) (ls : Array Slot), i + k = n → fl_I D dA ad N I J A s s.heap H locs → lv_has ls 3 [(2, .int (nI i)), (0, .ref (ad 0)), (1, .int (nI a))] → post (some (.int (x_llu eq rr a J k i))) I J → W p l e R s m args below meth c H locs 0 0 (MQ below (fl_Q D dA ad N post A) args s 0 0 A) (F0 m 8 ls []) := by
  have hx := X.1
  have hb := X.2.1
  intro k
  induction k with
  | zero =>
    intro i H locs ls hk hI hl hF
    have hk : n = i := by omega
    subst hk
    refine lv_iload_n hx hb dX1_leavesLaterUnknowns_8 rfl (lv_at hl 0 rfl) ?_
    refine lv_aload_n hx hb dX1_leavesLaterUnknowns_9 rfl (lv_at hl 1 rfl) ?_
    refine fl_get1 X hI dX1_leavesLaterUnknowns_10 (by omega) 2 (by decide) wf_X1_42 rfl ?_
    refine W.eq (g2 := F0 m 13 ls [.int (nI n), .int (nI n)]) (by rw [hn]) ?_
    refine fn_icmp_ge X (tgt := 35) dX1_leavesLaterUnknowns_13 (by decide) (by omega) (by omega) (fun c1 => ?_) (fun c1 => absurd c1 (by omega))
    refine lv_iconst (v := nI 1) hx hb dX1_leavesLaterUnknowns_35 (by decide) ?_
    exact fl_zret X hr hlk hI dX1_leavesLaterUnknowns_36 (by decide) hF
  | succ k ih =>
    intro i H locs ls hk hI hl hF
    refine lv_iload_n hx hb dX1_leavesLaterUnknowns_8 rfl (lv_at hl 0 rfl) ?_
    refine lv_aload_n hx hb dX1_leavesLaterUnknowns_9 rfl (lv_at hl 1 rfl) ?_
    refine fl_get1 X hI dX1_leavesLaterUnknowns_10 (by omega) 2 (by decide) wf_X1_42 rfl ?_
    refine W.eq (g2 := F0 m 13 ls [.int (nI n), .int (nI i)]) (by rw [hn]) ?_
    refine fn_icmp_ge X (tgt := 35) dX1_leavesLaterUnknowns_13 (by decide) (by omega) (by omega) (fun c1 => absurd c1 (by omega)) (fun c1 => ?_)
    refine lv_aload_n hx hb dX1_leavesLaterUnknowns_16 rfl (lv_at hl 1 rfl) ?_
    refine lv_iload_n hx hb dX1_leavesLaterUnknowns_17 rfl (lv_at hl 2 rfl) ?_
    refine lv_iload_n hx hb dX1_leavesLaterUnknowns_18 rfl (lv_at hl 0 rfl) ?_
    refine fl_callV (k := 0) (As := [.int (nI a), .int (nI i)]) (rest := []) X hI dX1_leavesLaterUnknowns_19 (m_X1_basisNumber D dA ad N I J hN he hrr (by omega) (by omega)) (by omega) fl_c_5 rfl rfl wc_yX1_basisNumber wm_X1_72 wi_yX1_basisNumber wl_yX1_basisNumber wn_X1 hd_yX1_basisNumber rfl ⟨by first | decide | omega, by first | decide | omega⟩ hl.1 (Nat.le_of_ble_eq_true rfl) (fun v I2 J2 H locs hp hI => ?_)
    obtain ⟨hv, hI2, hJ2⟩ := hp
    subst hv
    rw [hI2, hJ2] at hI
    refine W.eq (g2 := F0 m 22 ls [.long (J (6 + 2 + (rr + a)) (eq + i))]) rfl ?_
    refine lv_lconst (v := 0) hx hb dX1_leavesLaterUnknowns_22 rfl ?_
    refine fl_lc_eq (tgt := 29) hx hb dX1_leavesLaterUnknowns_23 dX1_leavesLaterUnknowns_24 (by decide) (fun c2 => ?_) (fun c2 => ?_)
    · refine fn_iinc (a := i) (lv' := [(2, .int (nI (i + 1))), (0, .ref (ad 0)), (1, .int (nI a))]) X dX1_leavesLaterUnknowns_29 hl (k := 0) rfl (by decide) rfl (fun ls hl => ?_)
      refine lv_goto (tgt := 8) hx hb dX1_leavesLaterUnknowns_32 (by decide) ?_
      exact ih (i + 1) _ _ _ (by omega) hI (lv_sub hl [0, 1, 2] rfl) (by have h9 := hF; simp only [x_llu] at h9; (first | rw [if_pos c2] at h9 | rw [if_neg c2] at h9 | skip); exact h9)
    · refine lv_iconst (v := nI 0) hx hb dX1_leavesLaterUnknowns_27 (by decide) ?_
      exact fl_zret X hr hlk hI dX1_leavesLaterUnknowns_28 (by decide) (by have h9 := hF; simp only [x_llu] at h9; (first | rw [if_pos c2] at h9 | rw [if_neg c2] at h9 | skip); exact h9)
theorem m_X1_leavesLater (D : va_G) (dA : Nat → ClassId) (ad : Nat → Nat) (N : Nat) (I : fl_TI) (J : fl_TJ) {n eq rr a : Nat} (hN : 30 ≤ N) (hn : I 0 2 = nI n) (hn4 : n ≤ 4) (he : I 0 3 = nI eq) (he3 : eq ≤ 3) (hrr : I 0 6 = nI rr) (hrn : rr ≤ n) (hxl : x_ld n eq rr I) (ha : rr + a < n) : FM yX1_leavesLaterUnknowns cX1_leavesLaterUnknowns 3 (some .boolean) 2 D dA ad N [.ref (ad 0), .int (nI a)] I J (fun v I' J' => v = some (.int (x_llu eq rr a J (n - x_lu n eq rr I (a + 1)) (x_lu n eq rr I (a + 1)))) ∧ I' = I ∧ J' = J) := by
  refine FM.ofW RX1 rfl (by decide +kernel) (Nat.le_of_ble_eq_true rfl) ?_
  intro p l e s m args below meth c ls X hr hlk hI hl
  have hx := X.1
  have hb := X.2.1
  have hl : lv_has ls 3 [(0, .ref (ad 0)), (1, .int (nI a))] := hl
  refine lv_aload_n hx hb dX1_leavesLaterUnknowns_0 rfl (lv_at hl 0 rfl) ?_
  refine lv_iload_n hx hb dX1_leavesLaterUnknowns_1 rfl (lv_at hl 1 rfl) ?_
  refine lv_iconst (v := nI 1) hx hb dX1_leavesLaterUnknowns_2 (by decide) ?_
  refine fn_iadd X dX1_leavesLaterUnknowns_3 ?_
  refine fl_callV (k := 0) (As := [.int (nI (a + 1))]) (rest := []) X hI dX1_leavesLaterUnknowns_4 (m_X1_leadUnknown D dA ad N I J hN hn he hrr hrn hn4 (i := a + 1) (by omega) (fun h => ⟨(hxl _ h).1, (hxl _ h).2.1⟩)) (by omega) fl_c_5 rfl rfl wc_yX1_leadUnknown wm_X1_158 wi_yX1_leadUnknown wl_yX1_leadUnknown wn_X1 hd_yX1_leadUnknown rfl ⟨by first | decide | omega, by first | decide | omega⟩ hl.1 (Nat.le_of_ble_eq_true rfl) (fun v I2 J2 H locs hp hI => ?_)
  obtain ⟨hv, hI2, hJ2⟩ := hp
  subst hv
  rw [hI2, hJ2] at hI
  refine W.eq (g2 := F0 m 7 ls [.int (nI (x_lu n eq rr I (a + 1)))]) rfl ?_
  refine lv_istore_n (lv' := [(2, .int (nI (x_lu n eq rr I (a + 1)))), (0, .ref (ad 0)), (1, .int (nI a))]) hx hb dX1_leavesLaterUnknowns_7 rfl hl (by decide) rfl (fun ls hl => ?_)
  have h31 := x_lu_le hxl (a + 1)
  exact lp_llu X hr hlk hN hn hn4 he he3 hrr hrn hxl ha ⟨by decide, by decide⟩ (n - x_lu n eq rr I (a + 1)) (x_lu n eq rr I (a + 1)) _ _ _ (by omega) hI (lv_sub hl [0, 1, 2] rfl) ⟨rfl, rfl, rfl⟩
theorem lp_unm {p : Program} {l : Launch} {e : Env} {R : Room} {s : State} {m : MethodId} {args : Array Value} {below : List Frame} {meth : Method} {c : Code} {D : va_G} {dA : Nat → ClassId} {ad : Nat → Nat} {N : Nat} {A : Nat → Prop} {I : fl_TI} {J : fl_TJ} {post : Option Value → fl_TI → fl_TJ → Prop} (X : CallFix p m c cX1_unmovedLieInside 5 s args fl_tb RX1) (hr : meth.sig.returnType = some .boolean) (hlk : meth.locks = false) {en : Nat} {xl xh : Int32} (hN : 30 ≤ N) (hen : en ≤ 4)  :
    ∀ (k i : Nat) (H : Heap) (locs : List Loc) (ls : Array Slot), i + k = en → fl_I D dA ad N I J A s s.heap H locs → lv_has ls 5 [(4, .int (nI i)), (3, .int (nI en)), (0, .ref (ad 0)), (1, .int xl), (2, .int xh)] → post (some (.int (x_unm xl xh J k i))) I J → W p l e R s m args below meth c H locs 0 0 (MQ below (fl_Q D dA ad N post A) args s 0 0 A) (F0 m 9 ls []) := by
  have hx := X.1
  have hb := X.2.1
  intro k
  induction k with
  | zero =>
    intro i H locs ls hk hI hl hF
    have hk : en = i := by omega
    subst hk
    refine lv_iload hx hb dX1_unmovedLieInside_9 (lv_at hl 0 rfl) ?_
    refine lv_iload_n hx hb dX1_unmovedLieInside_11 rfl (lv_at hl 1 rfl) ?_
    refine fn_icmp_ge X (tgt := 53) dX1_unmovedLieInside_12 (by decide) (by omega) (by omega) (fun c1 => ?_) (fun c1 => absurd c1 (by omega))
    refine lv_iconst (v := nI 1) hx hb dX1_unmovedLieInside_53 (by decide) ?_
    exact fl_zret X hr hlk hI dX1_unmovedLieInside_54 (by decide) hF
  | succ k ih =>
    intro i H locs ls hk hI hl hF
    refine lv_iload hx hb dX1_unmovedLieInside_9 (lv_at hl 0 rfl) ?_
    refine lv_iload_n hx hb dX1_unmovedLieInside_11 rfl (lv_at hl 1 rfl) ?_
    refine fn_icmp_ge X (tgt := 53) dX1_unmovedLieInside_12 (by decide) (by omega) (by omega) (fun c1 => absurd c1 (by omega)) (fun c1 => ?_)
    refine lv_aload_n hx hb dX1_unmovedLieInside_15 rfl (lv_at hl 2 rfl) ?_
    refine fl_get1 X hI dX1_unmovedLieInside_16 (by omega) 10 (by decide) wf_X1_39 rfl ?_
    refine lv_iconst (v := nI 0) hx hb dX1_unmovedLieInside_19 (by decide) ?_
    refine fn_aald3 (k := 24) X hI dX1_unmovedLieInside_20 (by omega) rfl (show 0 < 5 by omega) ?_
    refine lv_iload hx hb dX1_unmovedLieInside_21 (lv_at hl 0 rfl) ?_
    refine fn_lald (k := 25 + 0) X hI dX1_unmovedLieInside_23 (by omega) (fk25 (by omega)) (by rw [fn25 (by omega)]; omega) ?_
    refine lv_iload_n hx hb dX1_unmovedLieInside_24 rfl (lv_at hl 3 rfl) ?_
    refine lv_i2l hx hb dX1_unmovedLieInside_25 rfl ?_
    refine fl_lc_lt (tgt := 45) hx hb dX1_unmovedLieInside_26 dX1_unmovedLieInside_27 (by decide) (fun c2 => ?_) (fun c2 => ?_)
    · refine lv_iconst (v := nI 0) hx hb dX1_unmovedLieInside_45 (by decide) ?_
      exact fl_zret X hr hlk hI dX1_unmovedLieInside_46 (by decide) (by have h9 := hF; simp only [x_unm] at h9; (first | rw [if_pos c2] at h9 | rw [if_neg c2] at h9 | skip); exact h9)
    · refine lv_aload_n hx hb dX1_unmovedLieInside_30 rfl (lv_at hl 2 rfl) ?_
      refine fl_get1 X hI dX1_unmovedLieInside_31 (by omega) 10 (by decide) wf_X1_39 rfl ?_
      refine lv_iconst (v := nI 0) hx hb dX1_unmovedLieInside_34 (by decide) ?_
      refine fn_aald3 (k := 24) X hI dX1_unmovedLieInside_35 (by omega) rfl (show 0 < 5 by omega) ?_
      refine lv_iload hx hb dX1_unmovedLieInside_36 (lv_at hl 0 rfl) ?_
      refine fn_lald (k := 25 + 0) X hI dX1_unmovedLieInside_38 (by omega) (fk25 (by omega)) (by rw [fn25 (by omega)]; omega) ?_
      refine lv_iload_n hx hb dX1_unmovedLieInside_39 rfl (lv_at hl 4 rfl) ?_
      refine lv_i2l hx hb dX1_unmovedLieInside_40 rfl ?_
      refine fl_lc_le (tgt := 47) hx hb dX1_unmovedLieInside_41 dX1_unmovedLieInside_42 (by decide) (fun c3 => ?_) (fun c3 => ?_)
      · refine fn_iinc (a := i) (lv' := [(4, .int (nI (i + 1))), (3, .int (nI en)), (0, .ref (ad 0)), (1, .int xl), (2, .int xh)]) X dX1_unmovedLieInside_47 hl (k := 0) rfl (by decide) rfl (fun ls hl => ?_)
        refine lv_goto (tgt := 9) hx hb dX1_unmovedLieInside_50 (by decide) ?_
        exact ih (i + 1) _ _ _ (by omega) hI (lv_sub hl [0, 1, 2, 3, 4] rfl) (by have h9 := hF; simp only [x_unm] at h9; (first | rw [if_pos c2] at h9 | rw [if_neg c2] at h9 | skip); (first | rw [if_pos c3] at h9 | rw [if_neg c3] at h9 | skip); exact h9)
      · refine lv_iconst (v := nI 0) hx hb dX1_unmovedLieInside_45 (by decide) ?_
        exact fl_zret X hr hlk hI dX1_unmovedLieInside_46 (by decide) (by have h9 := hF; simp only [x_unm] at h9; (first | rw [if_pos c2] at h9 | rw [if_neg c2] at h9 | skip); (first | rw [if_pos c3] at h9 | rw [if_neg c3] at h9 | skip); exact h9)
theorem m_X1_unmoved (D : va_G) (dA : Nat → ClassId) (ad : Nat → Nat) (N : Nat) (I : fl_TI) (J : fl_TJ) {n eq rr : Nat} {xl xh : Int32} (hN : 30 ≤ N) (hn : I 0 2 = nI n) (hn4 : n ≤ 4) (he : I 0 3 = nI eq) (he3 : eq ≤ 3) (hrr : I 0 6 = nI rr) (hrn : rr ≤ n) (hxl : x_ld n eq rr I) : FM yX1_unmovedLieInside cX1_unmovedLieInside 5 (some .boolean) 2 D dA ad N [.ref (ad 0), .int xl, .int xh] I J (fun v I' J' => v = some (.int (x_unm xl xh J (x_lu n eq rr I 0) 0)) ∧ I' = I ∧ J' = J) := by
  refine FM.ofW RX1 rfl (by decide +kernel) (Nat.le_of_ble_eq_true rfl) ?_
  intro p l e s m args below meth c ls X hr hlk hI hl
  have hx := X.1
  have hb := X.2.1
  have hl : lv_has ls 5 [(0, .ref (ad 0)), (1, .int xl), (2, .int xh)] := hl
  refine lv_aload_n hx hb dX1_unmovedLieInside_0 rfl (lv_at hl 0 rfl) ?_
  refine lv_iconst (v := nI 0) hx hb dX1_unmovedLieInside_1 (by decide) ?_
  refine fl_callV (k := 0) (As := [.int (nI 0)]) (rest := []) X hI dX1_unmovedLieInside_2 (m_X1_leadUnknown D dA ad N I J hN hn he hrr hrn hn4 (i := 0) (by omega) (fun h => ⟨(hxl _ h).1, (hxl _ h).2.1⟩)) (by omega) fl_c_5 rfl rfl wc_yX1_leadUnknown wm_X1_158 wi_yX1_leadUnknown wl_yX1_leadUnknown wn_X1 hd_yX1_leadUnknown rfl ⟨by first | decide | omega, by first | decide | omega⟩ hl.1 (Nat.le_of_ble_eq_true rfl) (fun v I2 J2 H locs hp hI => ?_)
  obtain ⟨hv, hI2, hJ2⟩ := hp
  subst hv
  rw [hI2, hJ2] at hI
  refine W.eq (g2 := F0 m 5 ls [.int (nI (x_lu n eq rr I 0))]) rfl ?_
  refine lv_istore_n (lv' := [(3, .int (nI (x_lu n eq rr I 0))), (0, .ref (ad 0)), (1, .int xl), (2, .int xh)]) hx hb dX1_unmovedLieInside_5 rfl hl (by decide) rfl (fun ls hl => ?_)
  refine lv_iconst (v := nI 0) hx hb dX1_unmovedLieInside_6 (by decide) ?_
  refine lv_istore (lv' := [(4, .int (nI 0)), (3, .int (nI (x_lu n eq rr I 0))), (0, .ref (ad 0)), (1, .int xl), (2, .int xh)]) hx hb dX1_unmovedLieInside_7 hl (by decide) rfl (fun ls hl => ?_)
  have h31 := x_lu_le hxl 0
  exact lp_unm X hr hlk hN (by omega) (x_lu n eq rr I 0) 0 _ _ _ (Nat.zero_add _) hI (lv_sub hl [0, 1, 2, 3, 4] rfl) ⟨rfl, rfl, rfl⟩
