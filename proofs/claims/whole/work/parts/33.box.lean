/-! box: countFrom, box -/
def x_cntL (f : Int64 → fl_TJ → Int64 × fl_TJ) : Nat → Int64 → Int64 × fl_TJ → Int64 × fl_TJ
  | 0, _, x => x
  | k + 1, t, x => x_cntL f k (t + 1) (x.1 + (f t x.2).1, (f t x.2).2)
def x_cnt (n eq rr : Nat) (xl xh : Int32) (I : fl_TI) : Nat → Nat → fl_TJ → Int64 × fl_TJ
  | 0, _, J => (1, J)
  | k + 1, a, J => if x_most n eq rr xl xh I a J < x_least n eq rr xl xh I a J then (0, J)
    else if x_llu eq rr a J (n - x_lu n eq rr I (a + 1)) (x_lu n eq rr I (a + 1)) = 0 then x_cntL (fun t J => x_cnt n eq rr xl xh I k (a + 1) (j_turn n eq rr a t J)) ((x_most n eq rr xl xh I a J).toInt + 1 - (x_least n eq rr xl xh I a J).toInt).toNat (x_least n eq rr xl xh I a J) (0, J)
    else ((x_most n eq rr xl xh I a J - x_least n eq rr xl xh I a J + 1) * (x_cnt n eq rr xl xh I k (a + 1) (j_turn n eq rr a 0 J)).1, (x_cnt n eq rr xl xh I k (a + 1) (j_turn n eq rr a 0 J)).2)
theorem mn64_le (x y : Int64) : (mn64 x y).toInt ≤ x.toInt := by
  unfold mn64
  by_cases h : y < x
  · rw [if_pos h]; rw [Int64.lt_iff_toInt_lt] at h; omega
  · rw [if_neg h]; exact Int.le_refl _
theorem x_most_le (n eq rr : Nat) (xl xh : Int32) (I : fl_TI) (a : Nat) (J : fl_TJ) : (x_most n eq rr xl xh I a J).toInt ≤ 999999999999999 := by
  have gen : ∀ (f : Nat → Int64 × Int64) (k i : Nat) (z : Int64), (fl_it (fun j ms => x_mt1 xl xh (f j).1 (f j).2 ms) k i z).toInt ≤ z.toInt := by
    intro f k
    induction k with
    | zero => intro i z; exact Int.le_refl _
    | succ k ih =>
      intro i z
      refine Int.le_trans (ih (i + 1) _) ?_
      show (x_mt1 xl xh (f i).1 (f i).2 z).toInt ≤ _
      unfold x_mt1
      by_cases h : (f i).1 = 0
      · rw [if_pos h]; exact Int.le_refl _
      · rw [if_neg h]; exact mn64_le _ _
  exact gen (fun j => (J (6 + 2 + (rr + a)) (eq + j), J (25 + a) j)) _ _ _
theorem i64_succ {t : Int64} (h : t.toInt ≤ 999999999999999) : (t + 1).toInt = t.toInt + 1 := by
  have h2 := t.le_toInt
  rw [Int64.toInt_add]
  show ((t.toInt + 1).bmod (2 ^ 64)) = _
  rw [Int.bmod_eq_of_le] <;> omega
theorem lp_cnt {p : Program} {l : Launch} {e : Env} {R : Room} {s : State} {m : MethodId} {args : Array Value} {below : List Frame} {meth : Method} {c : Code} {D : va_G} {dA : Nat → ClassId} {ad : Nat → Nat} {N : Nat} {A : Nat → Prop} {I : fl_TI} {post : Option Value → fl_TI → fl_TJ → Prop} {n eq rr a kd : Nat} {xl xh : Int32} {lt ms : Int64} (X : CallFix p m c cX1_countFrom 12 s args fl_tb RX1) (hr : meth.sig.returnType = some .long) (hlk : meth.locks = false) (hN : 30 ≤ N) (hn : I 0 2 = nI n) (hn4 : n ≤ 4) (he : I 0 3 = nI eq) (he3 : eq ≤ 3) (hrr : I 0 6 = nI rr) (hrn : rr ≤ n) (hxl : x_ld n eq rr I) (ha : rr + a < n) (hM : ∀ J, FM yX1_countFrom cX1_countFrom 12 (some .long) (kd + 3) D dA ad N [.ref (ad 0), .int (nI (a + 1)), .int xl, .int xh] I J (fun v I' J' => v = some (.long (x_cnt n eq rr xl xh I kd (a + 1) J).1) ∧ I' = I ∧ J' = (x_cnt n eq rr xl xh I kd (a + 1) J).2)) (hms : ms.toInt ≤ 999999999999999) (hR : kd + 3 + 1 ≤ R.frames ∧ 8 + (12 + 11) + 40 * (kd + 3) ≤ R.locals) :
    ∀ (k : Nat) (t tt : Int64) (J : fl_TJ) (H : Heap) (locs : List Loc) (ls : Array Slot), t.toInt + k = ms.toInt + 1 → fl_I D dA ad N I J A s s.heap H locs → lv_has ls 12 [(10, .long t), (8, .long tt), (6, .long ms), (4, .long lt), (0, .ref (ad 0)), (1, .int (nI a)), (2, .int xl), (3, .int xh)] → post (some (.long (x_cntL (fun t J => x_cnt n eq rr xl xh I kd (a + 1) (j_turn n eq rr a t J)) k t (tt, J)).1)) I (x_cntL (fun t J => x_cnt n eq rr xl xh I kd (a + 1) (j_turn n eq rr a t J)) k t (tt, J)).2 → W p l e R s m args below meth c H locs 0 0 (MQ below (fl_Q D dA ad N post A) args s 0 0 A) (F0 m 77 ls []) := by
  have hx := X.1
  have hb := X.2.1
  intro k
  induction k with
  | zero =>
    intro t tt J H locs ls hk hI hl hF
    refine lv_lload hx hb dX1_countFrom_77 (lv_at hl 0 rfl) ?_
    refine lv_lload hx hb dX1_countFrom_79 (lv_at hl 2 rfl) ?_
    refine fl_lc_gt (tgt := 115) hx hb dX1_countFrom_81 dX1_countFrom_82 (by decide) (fun c1 => ?_) (fun c1 => absurd (by rw [Int64.lt_iff_toInt_lt]; omega) c1)
    refine lv_lload hx hb dX1_countFrom_115 (lv_at hl 1 rfl) ?_
    exact fl_lret X hr hlk hI dX1_countFrom_117 hF
  | succ k ih =>
    intro t tt J H locs ls hk hI hl hF
    refine lv_lload hx hb dX1_countFrom_77 (lv_at hl 0 rfl) ?_
    refine lv_lload hx hb dX1_countFrom_79 (lv_at hl 2 rfl) ?_
    refine fl_lc_gt (tgt := 115) hx hb dX1_countFrom_81 dX1_countFrom_82 (by decide) (fun c1 => absurd c1 (by rw [Int64.lt_iff_toInt_lt]; omega)) (fun c1 => ?_)
    refine lv_aload_n hx hb dX1_countFrom_85 rfl (lv_at hl 4 rfl) ?_
    refine lv_iload_n hx hb dX1_countFrom_86 rfl (lv_at hl 5 rfl) ?_
    refine lv_lload hx hb dX1_countFrom_87 (lv_at hl 0 rfl) ?_
    refine fl_callV (k := 0) (As := [.int (nI a), .long t]) (rest := []) X hI dX1_countFrom_89 (m_X1_turn D dA ad N I J hN hn hn4 he he3 hrr hrn hxl ha) (by omega) fl_c_5 rfl rfl wc_yX1_turn wm_X1_170 wi_yX1_turn wl_yX1_turn wn_X1 hd_yX1_turn rfl ⟨by first | decide | omega, by first | decide | omega⟩ hl.1 (Nat.le_of_ble_eq_true rfl) (fun v I2 J2 H locs hp hI => ?_)
    obtain ⟨hv, hI2, hJ2⟩ := hp
    subst hv
    rw [hI2, hJ2] at hI
    refine W.eq (g2 := F0 m 92 ls []) rfl ?_
    refine lv_lload hx hb dX1_countFrom_92 (lv_at hl 1 rfl) ?_
    refine lv_aload_n hx hb dX1_countFrom_94 rfl (lv_at hl 4 rfl) ?_
    refine lv_iload_n hx hb dX1_countFrom_95 rfl (lv_at hl 5 rfl) ?_
    refine lv_iconst (v := nI 1) hx hb dX1_countFrom_96 (by decide) ?_
    refine fn_iadd X dX1_countFrom_97 ?_
    refine lv_iload_n hx hb dX1_countFrom_98 rfl (lv_at hl 6 rfl) ?_
    refine lv_iload_n hx hb dX1_countFrom_99 rfl (lv_at hl 7 rfl) ?_
    refine fl_callV (k := 0) (As := [.int (nI (a + 1)), .int xl, .int xh]) (rest := [.long tt]) X hI dX1_countFrom_100 (hM (j_turn n eq rr a t J)) (by omega) fl_c_5 rfl rfl wc_yX1_countFrom wm_X1_100 wi_yX1_countFrom wl_yX1_countFrom wn_X1 hd_yX1_countFrom rfl ⟨by first | decide | omega, by first | decide | omega⟩ hl.1 (Nat.le_of_ble_eq_true rfl) (fun v I2 J2 H locs hp hI => ?_)
    obtain ⟨hv, hI2, hJ2⟩ := hp
    subst hv
    rw [hI2, hJ2] at hI
    refine W.eq (g2 := F0 m 103 ls [.long ((x_cnt n eq rr xl xh I kd (a + 1) (j_turn n eq rr a t J)).1), .long tt]) rfl ?_
    refine lv_ladd hx hb dX1_countFrom_103 ?_
    refine lv_lstore (lv' := [(8, .long (tt + ((x_cnt n eq rr xl xh I kd (a + 1) (j_turn n eq rr a t J)).1))), (10, .long t), (6, .long ms), (4, .long lt), (0, .ref (ad 0)), (1, .int (nI a)), (2, .int xl), (3, .int xh)]) hx hb dX1_countFrom_104 hl (by decide) rfl (fun ls hl => ?_)
    refine lv_lload hx hb dX1_countFrom_106 (lv_at hl 1 rfl) ?_
    refine lv_lconst (v := 1) hx hb dX1_countFrom_108 rfl ?_
    refine lv_ladd hx hb dX1_countFrom_109 ?_
    refine lv_lstore (lv' := [(10, .long (t + 1)), (8, .long (tt + ((x_cnt n eq rr xl xh I kd (a + 1) (j_turn n eq rr a t J)).1))), (6, .long ms), (4, .long lt), (0, .ref (ad 0)), (1, .int (nI a)), (2, .int xl), (3, .int xh)]) hx hb dX1_countFrom_110 hl (by decide) rfl (fun ls hl => ?_)
    refine lv_goto (tgt := 77) hx hb dX1_countFrom_112 (by decide) ?_
    exact ih (t + 1) _ _ _ _ _ (by rw [i64_succ (by omega)]; omega) hI (lv_sub hl [0, 1, 2, 3, 4, 5, 6, 7] rfl) hF
theorem m_X1_countFrom (D : va_G) (dA : Nat → ClassId) (ad : Nat → Nat) (N : Nat) (I : fl_TI) {n eq rr : Nat} {xl xh : Int32} (hN : 30 ≤ N) (hn : I 0 2 = nI n) (hn4 : n ≤ 4) (he : I 0 3 = nI eq) (he3 : eq ≤ 3) (hrr : I 0 6 = nI rr) (hrn : rr ≤ n) (hxl : x_ld n eq rr I) (hinc : x_inc n rr I) : ∀ (kd a : Nat), rr + a + kd = n → ∀ J, FM yX1_countFrom cX1_countFrom 12 (some .long) (kd + 3) D dA ad N [.ref (ad 0), .int (nI a), .int xl, .int xh] I J (fun v I' J' => v = some (.long (x_cnt n eq rr xl xh I kd a J).1) ∧ I' = I ∧ J' = (x_cnt n eq rr xl xh I kd a J).2) := by
  intro kd
  induction kd with
  | zero =>
    intro a hk J
    refine FM.ofW RX1 rfl (by decide +kernel) (Nat.le_of_ble_eq_true rfl) ?_
    intro p l e s m args below meth c ls X hr hlk hI hl
    have hx := X.1
    have hb := X.2.1
    have hl : lv_has ls 12 [(0, .ref (ad 0)), (1, .int (nI a)), (2, .int xl), (3, .int xh)] := hl
    refine lv_iload_n hx hb dX1_countFrom_0 rfl (lv_at hl 1 rfl) ?_
    refine lv_aload_n hx hb dX1_countFrom_1 rfl (lv_at hl 0 rfl) ?_
    refine fl_callV (k := 0) (As := []) (rest := [.int (nI a)]) X hI dX1_countFrom_2 (m_X1_basisRows D dA ad N I J hN hn hrr hrn) (by omega) fl_c_5 rfl rfl wc_yX1_basisRows wm_X1_66 wi_yX1_basisRows wl_yX1_basisRows wn_X1 hd_yX1_basisRows rfl ⟨by first | decide | omega, by first | decide | omega⟩ hl.1 (Nat.le_of_ble_eq_true rfl) (fun v I2 J2 H locs hp hI => ?_)
    obtain ⟨hv, hI2, hJ2⟩ := hp
    subst hv
    rw [hI2, hJ2] at hI
    refine W.eq (g2 := F0 m 5 ls [.int (nI (n - rr)), .int (nI a)]) rfl ?_
    refine fn_icmp_lt X (tgt := 10) dX1_countFrom_5 (by decide) (by omega) (by omega) (fun c1 => absurd c1 (by omega)) (fun c1 => ?_)
    refine lv_lconst (v := 1) hx hb dX1_countFrom_8 rfl ?_
    exact fl_lret X hr hlk hI dX1_countFrom_9 ⟨rfl, rfl, rfl⟩
  | succ kd ih =>
    intro a hk J
    refine FM.ofW RX1 rfl (by decide +kernel) (Nat.le_of_ble_eq_true rfl) ?_
    intro p l e s m args below meth c ls X hr hlk hI hl
    have hx := X.1
    have hb := X.2.1
    have hl : lv_has ls 12 [(0, .ref (ad 0)), (1, .int (nI a)), (2, .int xl), (3, .int xh)] := hl
    refine lv_iload_n hx hb dX1_countFrom_0 rfl (lv_at hl 1 rfl) ?_
    refine lv_aload_n hx hb dX1_countFrom_1 rfl (lv_at hl 0 rfl) ?_
    refine fl_callV (k := 0) (As := []) (rest := [.int (nI a)]) X hI dX1_countFrom_2 (m_X1_basisRows D dA ad N I J hN hn hrr hrn) (by omega) fl_c_5 rfl rfl wc_yX1_basisRows wm_X1_66 wi_yX1_basisRows wl_yX1_basisRows wn_X1 hd_yX1_basisRows rfl ⟨by show _ ≤ kd + 1 + 3; omega, by show _ ≤ 40 * (kd + 1 + 3); omega⟩ hl.1 (Nat.le_of_ble_eq_true rfl) (fun v I2 J2 H locs hp hI => ?_)
    obtain ⟨hv, hI2, hJ2⟩ := hp
    subst hv
    rw [hI2, hJ2] at hI
    refine W.eq (g2 := F0 m 5 ls [.int (nI (n - rr)), .int (nI a)]) rfl ?_
    refine fn_icmp_lt X (tgt := 10) dX1_countFrom_5 (by decide) (by omega) (by omega) (fun c1 => ?_) (fun c1 => absurd c1 (by omega))
    refine lv_aload_n hx hb dX1_countFrom_10 rfl (lv_at hl 0 rfl) ?_
    refine lv_iload_n hx hb dX1_countFrom_11 rfl (lv_at hl 1 rfl) ?_
    refine lv_iload_n hx hb dX1_countFrom_12 rfl (lv_at hl 2 rfl) ?_
    refine lv_iload_n hx hb dX1_countFrom_13 rfl (lv_at hl 3 rfl) ?_
    refine fl_callV (k := 0) (As := [.int (nI a), .int xl, .int xh]) (rest := []) X hI dX1_countFrom_14 (m_X1_leastTurns D dA ad N I J hN hn hn4 he he3 hrr hrn hxl hinc (by omega)) (by omega) fl_c_5 rfl rfl wc_yX1_leastTurns wm_X1_161 wi_yX1_leastTurns wl_yX1_leastTurns wn_X1 hd_yX1_leastTurns rfl ⟨by show _ ≤ kd + 1 + 3; omega, by show _ ≤ 40 * (kd + 1 + 3); omega⟩ hl.1 (Nat.le_of_ble_eq_true rfl) (fun v I2 J2 H locs hp hI => ?_)
    obtain ⟨hv, hI2, hJ2⟩ := hp
    subst hv
    rw [hI2, hJ2] at hI
    refine W.eq (g2 := F0 m 17 ls [.long (x_least n eq rr xl xh I a J)]) rfl ?_
    refine lv_lstore (lv' := [(4, .long (x_least n eq rr xl xh I a J)), (0, .ref (ad 0)), (1, .int (nI a)), (2, .int xl), (3, .int xh)]) hx hb dX1_countFrom_17 hl (by decide) rfl (fun ls hl => ?_)
    refine lv_aload_n hx hb dX1_countFrom_19 rfl (lv_at hl 1 rfl) ?_
    refine lv_iload_n hx hb dX1_countFrom_20 rfl (lv_at hl 2 rfl) ?_
    refine lv_iload_n hx hb dX1_countFrom_21 rfl (lv_at hl 3 rfl) ?_
    refine lv_iload_n hx hb dX1_countFrom_22 rfl (lv_at hl 4 rfl) ?_
    refine fl_callV (k := 0) (As := [.int (nI a), .int xl, .int xh]) (rest := []) X hI dX1_countFrom_23 (m_X1_mostTurns D dA ad N I J hN hn hn4 he he3 hrr hrn hxl hinc (by omega)) (by omega) fl_c_5 rfl rfl wc_yX1_mostTurns wm_X1_164 wi_yX1_mostTurns wl_yX1_mostTurns wn_X1 hd_yX1_mostTurns rfl ⟨by show _ ≤ kd + 1 + 3; omega, by show _ ≤ 40 * (kd + 1 + 3); omega⟩ hl.1 (Nat.le_of_ble_eq_true rfl) (fun v I2 J2 H locs hp hI => ?_)
    obtain ⟨hv, hI2, hJ2⟩ := hp
    subst hv
    rw [hI2, hJ2] at hI
    refine W.eq (g2 := F0 m 26 ls [.long (x_most n eq rr xl xh I a J)]) rfl ?_
    refine lv_lstore (lv' := [(6, .long (x_most n eq rr xl xh I a J)), (4, .long (x_least n eq rr xl xh I a J)), (0, .ref (ad 0)), (1, .int (nI a)), (2, .int xl), (3, .int xh)]) hx hb dX1_countFrom_26 hl (by decide) rfl (fun ls hl => ?_)
    refine lv_lload hx hb dX1_countFrom_28 (lv_at hl 0 rfl) ?_
    refine lv_lload hx hb dX1_countFrom_30 (lv_at hl 1 rfl) ?_
    refine fl_lc_ge (tgt := 38) hx hb dX1_countFrom_32 dX1_countFrom_33 (by decide) (fun c2 => ?_) (fun c2 => ?_)
    · refine lv_aload_n hx hb dX1_countFrom_38 rfl (lv_at hl 2 rfl) ?_
      refine lv_iload_n hx hb dX1_countFrom_39 rfl (lv_at hl 3 rfl) ?_
      refine fl_callV (k := 0) (As := [.int (nI a)]) (rest := []) X hI dX1_countFrom_40 (m_X1_leavesLater D dA ad N I J hN hn hn4 he he3 hrr hrn hxl (a := a) (by omega)) (by omega) fl_c_5 rfl rfl wc_yX1_leavesLaterUnknowns wm_X1_167 wi_yX1_leavesLaterUnknowns wl_yX1_leavesLaterUnknowns wn_X1 hd_yX1_leavesLaterUnknowns rfl ⟨by show _ ≤ kd + 1 + 3; omega, by show _ ≤ 40 * (kd + 1 + 3); omega⟩ hl.1 (Nat.le_of_ble_eq_true rfl) (fun v I2 J2 H locs hp hI => ?_)
      obtain ⟨hv, hI2, hJ2⟩ := hp
      subst hv
      rw [hI2, hJ2] at hI
      refine W.eq (g2 := F0 m 43 ls [.int (x_llu eq rr a J (n - x_lu n eq rr I (a + 1)) (x_lu n eq rr I (a + 1)))]) rfl ?_
      refine lv_if_eq (tgt := 70) hx hb dX1_countFrom_43 (by decide) (fun c3 => ?_) (fun c3 => ?_)
      · refine lv_lconst (v := 0) hx hb dX1_countFrom_70 rfl ?_
        refine lv_lstore (lv' := [(8, .long 0), (6, .long (x_most n eq rr xl xh I a J)), (4, .long (x_least n eq rr xl xh I a J)), (0, .ref (ad 0)), (1, .int (nI a)), (2, .int xl), (3, .int xh)]) hx hb dX1_countFrom_71 hl (by decide) rfl (fun ls hl => ?_)
        refine lv_lload hx hb dX1_countFrom_73 (lv_at hl 2 rfl) ?_
        refine lv_lstore (lv' := [(10, .long (x_least n eq rr xl xh I a J)), (8, .long 0), (6, .long (x_most n eq rr xl xh I a J)), (4, .long (x_least n eq rr xl xh I a J)), (0, .ref (ad 0)), (1, .int (nI a)), (2, .int xl), (3, .int xh)]) hx hb dX1_countFrom_75 hl (by decide) rfl (fun ls hl => ?_)
        have h41 := x_most_le n eq rr xl xh I a J
        refine lp_cnt X hr hlk hN hn hn4 he he3 hrr hrn hxl (by omega) (fun J => ih (a + 1) (by omega) J) h41 ⟨Nat.le_refl _, (show _ ≤ 40 * (kd + 1 + 3) by omega)⟩ ((x_most n eq rr xl xh I a J).toInt + 1 - (x_least n eq rr xl xh I a J).toInt).toNat _ _ _ _ _ _ (by rw [Int64.lt_iff_toInt_lt] at c2; omega) hI (lv_sub hl [0, 1, 2, 3, 4, 5, 6, 7] rfl) ?_
        rw [x_cnt, if_neg c2, if_pos c3]
        exact ⟨rfl, rfl, rfl⟩
      · refine lv_aload_n hx hb dX1_countFrom_46 rfl (lv_at hl 2 rfl) ?_
        refine lv_iload_n hx hb dX1_countFrom_47 rfl (lv_at hl 3 rfl) ?_
        refine lv_lconst (v := 0) hx hb dX1_countFrom_48 rfl ?_
        refine fl_callV (k := 0) (As := [.int (nI a), .long 0]) (rest := []) X hI dX1_countFrom_49 (m_X1_turn D dA ad N I J hN hn hn4 he he3 hrr hrn hxl (a := a) (by omega)) (by omega) fl_c_5 rfl rfl wc_yX1_turn wm_X1_170 wi_yX1_turn wl_yX1_turn wn_X1 hd_yX1_turn rfl ⟨by show _ ≤ kd + 1 + 3; omega, by show _ ≤ 40 * (kd + 1 + 3); omega⟩ hl.1 (Nat.le_of_ble_eq_true rfl) (fun v I2 J2 H locs hp hI => ?_)
        obtain ⟨hv, hI2, hJ2⟩ := hp
        subst hv
        rw [hI2, hJ2] at hI
        refine W.eq (g2 := F0 m 52 ls []) rfl ?_
        refine lv_lload hx hb dX1_countFrom_52 (lv_at hl 0 rfl) ?_
        refine lv_lload hx hb dX1_countFrom_54 (lv_at hl 1 rfl) ?_
        refine lv_lsub hx hb dX1_countFrom_56 ?_
        refine lv_lconst (v := 1) hx hb dX1_countFrom_57 rfl ?_
        refine lv_ladd hx hb dX1_countFrom_58 ?_
        refine lv_aload_n hx hb dX1_countFrom_59 rfl (lv_at hl 2 rfl) ?_
        refine lv_iload_n hx hb dX1_countFrom_60 rfl (lv_at hl 3 rfl) ?_
        refine lv_iconst (v := nI 1) hx hb dX1_countFrom_61 (by decide) ?_
        refine fn_iadd X dX1_countFrom_62 ?_
        refine lv_iload_n hx hb dX1_countFrom_63 rfl (lv_at hl 4 rfl) ?_
        refine lv_iload_n hx hb dX1_countFrom_64 rfl (lv_at hl 5 rfl) ?_
        refine fl_callV (k := 0) (As := [.int (nI (a + 1)), .int xl, .int xh]) (rest := [.long (((x_most n eq rr xl xh I a J) - (x_least n eq rr xl xh I a J)) + 1)]) X hI dX1_countFrom_65 (ih (a + 1) (by omega) (j_turn n eq rr a 0 J)) (by omega) fl_c_5 rfl rfl wc_yX1_countFrom wm_X1_100 wi_yX1_countFrom wl_yX1_countFrom wn_X1 hd_yX1_countFrom rfl ⟨by show _ ≤ kd + 1 + 3; omega, by show _ ≤ 40 * (kd + 1 + 3); omega⟩ hl.1 (Nat.le_of_ble_eq_true rfl) (fun v I2 J2 H locs hp hI => ?_)
        obtain ⟨hv, hI2, hJ2⟩ := hp
        subst hv
        rw [hI2, hJ2] at hI
        refine W.eq (g2 := F0 m 68 ls [.long ((x_cnt n eq rr xl xh I kd (a + 1) (j_turn n eq rr a 0 J)).1), .long (((x_most n eq rr xl xh I a J) - (x_least n eq rr xl xh I a J)) + 1)]) rfl ?_
        refine lv_lmul hx hb dX1_countFrom_68 ?_
        exact fl_lret X hr hlk hI dX1_countFrom_69 ⟨by rw [x_cnt, if_neg c2, if_neg c3], rfl, by rw [x_cnt, if_neg c2, if_neg c3]⟩
    · refine lv_lconst (v := 0) hx hb dX1_countFrom_36 rfl ?_
      exact fl_lret X hr hlk hI dX1_countFrom_37 ⟨by rw [x_cnt, if_pos c2], rfl, by rw [x_cnt, if_pos c2]⟩
def j_spot (n eq : Nat) (J : fl_TJ) : fl_TJ := fl_it (fun j J => fl_up J (25 + 0) j (J 22 (eq + j))) n 0 J
theorem lp_spot {p : Program} {l : Launch} {e : Env} {R : Room} {s : State} {m : MethodId} {args : Array Value} {below : List Frame} {meth : Method} {c : Code} {Q : State → Prop} {D : va_G} {dA : Nat → ClassId} {ad : Nat → Nat} {N : Nat} {A : Nat → Prop} {H0 : Heap} {I : fl_TI} {J9 : fl_TJ} (X : CallFix p m c cX1_box 4 s args fl_tb RX1) {n eq : Nat} {xl xh : Int32} (hN : 30 ≤ N) (hn : I 0 2 = nI n) (hn4 : n ≤ 4) (he : I 0 3 = nI eq) (he3 : eq ≤ 3)
    (kx : ∀ (H : Heap) (locs : List Loc) (ls : Array Slot), fl_I D dA ad N I J9 A s H0 H locs → lv_has ls 4 [(3, .int (nI n)), (0, .ref (ad 0)), (1, .int xl), (2, .int xh)] → W p l e R s m args below meth c H locs 0 0 Q (F0 m 64 ls [])) :
    ∀ (k i : Nat) (J : fl_TJ) (H : Heap) (locs : List Loc) (ls : Array Slot), i + k = n → fl_I D dA ad N I J A s H0 H locs → lv_has ls 4 [(3, .int (nI i)), (0, .ref (ad 0)), (1, .int xl), (2, .int xh)] → fl_it (fun j J => fl_up J (25 + 0) j (J 22 (eq + j))) k i J = J9 → W p l e R s m args below meth c H locs 0 0 Q (F0 m 31 ls []) := by
  have hx := X.1
  have hb := X.2.1
  intro k
  induction k with
  | zero =>
    intro i J H locs ls hk hI hl hF
    have hF : J = J9 := hF
    subst hF
    have hk : n = i := by omega
    subst hk
    refine lv_iload_n hx hb dX1_box_31 rfl (lv_at hl 0 rfl) ?_
    refine lv_aload_n hx hb dX1_box_32 rfl (lv_at hl 1 rfl) ?_
    refine fl_get1 X hI dX1_box_33 (by omega) 2 (by decide) wf_X1_42 rfl ?_
    refine W.eq (g2 := F0 m 36 ls [.int (nI n), .int (nI n)]) (by rw [hn]) ?_
    refine fn_icmp_ge X (tgt := 64) dX1_box_36 (by decide) (by omega) (by omega) (fun c1 => ?_) (fun c1 => absurd c1 (by omega))
    exact kx _ _ _ hI (lv_sub hl [0, 1, 2, 3] rfl)
  | succ k ih =>
    intro i J H locs ls hk hI hl hF
    refine lv_iload_n hx hb dX1_box_31 rfl (lv_at hl 0 rfl) ?_
    refine lv_aload_n hx hb dX1_box_32 rfl (lv_at hl 1 rfl) ?_
    refine fl_get1 X hI dX1_box_33 (by omega) 2 (by decide) wf_X1_42 rfl ?_
    refine W.eq (g2 := F0 m 36 ls [.int (nI n), .int (nI i)]) (by rw [hn]) ?_
    refine fn_icmp_ge X (tgt := 64) dX1_box_36 (by decide) (by omega) (by omega) (fun c1 => absurd c1 (by omega)) (fun c1 => ?_)
    refine lv_aload_n hx hb dX1_box_39 rfl (lv_at hl 1 rfl) ?_
    refine fl_get1 X hI dX1_box_40 (by omega) 10 (by decide) wf_X1_39 rfl ?_
    refine lv_iconst (v := nI 0) hx hb dX1_box_43 (by decide) ?_
    refine fn_aald3 (k := 24) X hI dX1_box_44 (by omega) rfl (show 0 < 5 by omega) ?_
    refine lv_iload_n hx hb dX1_box_45 rfl (lv_at hl 0 rfl) ?_
    refine lv_aload_n hx hb dX1_box_46 rfl (lv_at hl 1 rfl) ?_
    refine fl_get1 X hI dX1_box_47 (by omega) 7 (by decide) wf_X1_30 rfl ?_
    refine lv_aload_n hx hb dX1_box_50 rfl (lv_at hl 1 rfl) ?_
    refine fl_get1 X hI dX1_box_51 (by omega) 3 (by decide) wf_X1_46 rfl ?_
    refine W.eq (g2 := F0 m 54 ls [.int (nI eq), .ref (ad 22), .int (nI i), .ref (ad (25 + 0))]) (by rw [he]) ?_
    refine lv_iload_n hx hb dX1_box_54 rfl (lv_at hl 0 rfl) ?_
    refine fn_iadd X dX1_box_55 ?_
    refine fn_lald (k := 22) X hI dX1_box_56 (by omega) rfl (show eq + i < 7 by omega) ?_
    refine fn_last (k := 25 + 0) X hI dX1_box_57 (by omega) (fk25 (by omega)) (by rw [fn25 (by omega)]; omega) (fun H locs hI => ?_)
    refine fn_iinc (a := i) (lv' := [(3, .int (nI (i + 1))), (0, .ref (ad 0)), (1, .int xl), (2, .int xh)]) X dX1_box_58 hl (k := 0) rfl (by decide) rfl (fun ls hl => ?_)
    refine lv_goto (tgt := 31) hx hb dX1_box_61 (by decide) ?_
    exact ih (i + 1) _ _ _ _ (by omega) hI (lv_sub hl [0, 1, 2, 3] rfl) hF
theorem m_X1_box_bad (D : va_G) (dA : Nat → ClassId) (ad : Nat → Nat) (N : Nat) (I : fl_TI) (J : fl_TJ) (hN : 30 ≤ N) {xl xh : Int32} (hbad : xl < -12 ∨ nI 12 < xh ∨ ¬ xl ≤ xh) : FM yX1_box cX1_box 4 (some .int) 9 D dA ad N [.ref (ad 0), .int xl, .int xh] I J (fun v I' J' => v = some (.int (-1)) ∧ I' = I ∧ J' = J) := by
  refine FM.ofW RX1 rfl (by decide +kernel) (Nat.le_of_ble_eq_true rfl) ?_
  intro p l e s m args below meth c ls X hr hlk hI hl
  have hx := X.1
  have hb := X.2.1
  have hl : lv_has ls 4 [(0, .ref (ad 0)), (1, .int xl), (2, .int xh)] := hl
  refine lv_iload_n hx hb dX1_box_0 rfl (lv_at hl 1 rfl) ?_
  refine lv_bipush (v := (-12)) hx hb dX1_box_1 (by decide) ?_
  refine lv_icmp_lt (tgt := 17) hx hb dX1_box_3 (by decide) (fun c1 => ?_) (fun c1 => ?_)
  · refine lv_iconst (v := (-1)) hx hb dX1_box_17 (by decide) ?_
    exact fl_iret X hr hlk hI dX1_box_18 ⟨rfl, rfl, rfl⟩
  · refine lv_iload_n hx hb dX1_box_6 rfl (lv_at hl 2 rfl) ?_
    refine lv_bipush (v := nI 12) hx hb dX1_box_7 (by decide) ?_
    refine lv_icmp_gt (tgt := 17) hx hb dX1_box_9 (by decide) (fun c2 => ?_) (fun c2 => ?_)
    · refine lv_iconst (v := (-1)) hx hb dX1_box_17 (by decide) ?_
      exact fl_iret X hr hlk hI dX1_box_18 ⟨rfl, rfl, rfl⟩
    · refine lv_iload_n hx hb dX1_box_12 rfl (lv_at hl 2 rfl) ?_
      refine lv_iload_n hx hb dX1_box_13 rfl (lv_at hl 1 rfl) ?_
      refine lv_icmp_ge (tgt := 19) hx hb dX1_box_14 (by decide) (fun c3 => ?_) (fun c3 => ?_)
      · exact absurd hbad (fun q => q.elim c1 (fun q => q.elim c2 (fun z => z c3)))
      · refine lv_iconst (v := (-1)) hx hb dX1_box_17 (by decide) ?_
        exact fl_iret X hr hlk hI dX1_box_18 ⟨rfl, rfl, rfl⟩
theorem m_X1_box_none (D : va_G) (dA : Nat → ClassId) (ad : Nat → Nat) (N : Nat) (I : fl_TI) (J : fl_TJ) (hN : 30 ≤ N) {xl xh : Int32} (h1 : ¬ xl < -12) (h2 : ¬ nI 12 < xh) (h3 : xl ≤ xh) (h8 : ¬ I 0 8 = -1) : FM yX1_box cX1_box 4 (some .int) 9 D dA ad N [.ref (ad 0), .int xl, .int xh] I J (fun v I' J' => v = some (.int (nI 0)) ∧ I' = I ∧ J' = J) := by
  refine FM.ofW RX1 rfl (by decide +kernel) (Nat.le_of_ble_eq_true rfl) ?_
  intro p l e s m args below meth c ls X hr hlk hI hl
  have hx := X.1
  have hb := X.2.1
  have hl : lv_has ls 4 [(0, .ref (ad 0)), (1, .int xl), (2, .int xh)] := hl
  refine lv_iload_n hx hb dX1_box_0 rfl (lv_at hl 1 rfl) ?_
  refine lv_bipush (v := (-12)) hx hb dX1_box_1 (by decide) ?_
  refine lv_icmp_lt (tgt := 17) hx hb dX1_box_3 (by decide) (fun c1 => absurd c1 h1) (fun c1 => ?_)
  refine lv_iload_n hx hb dX1_box_6 rfl (lv_at hl 2 rfl) ?_
  refine lv_bipush (v := nI 12) hx hb dX1_box_7 (by decide) ?_
  refine lv_icmp_gt (tgt := 17) hx hb dX1_box_9 (by decide) (fun c2 => absurd c2 h2) (fun c2 => ?_)
  refine lv_iload_n hx hb dX1_box_12 rfl (lv_at hl 2 rfl) ?_
  refine lv_iload_n hx hb dX1_box_13 rfl (lv_at hl 1 rfl) ?_
  refine lv_icmp_ge (tgt := 19) hx hb dX1_box_14 (by decide) (fun c3 => ?_) (fun c3 => absurd h3 c3)
  refine lv_aload_n hx hb dX1_box_19 rfl (lv_at hl 0 rfl) ?_
  refine fl_get1 X hI dX1_box_20 (by omega) 8 (by decide) wf_X1_63 rfl ?_
  refine lv_iconst (v := (-1)) hx hb dX1_box_23 (by decide) ?_
  refine lv_icmp_eq (tgt := 29) hx hb dX1_box_24 (by decide) (fun c4 => absurd c4 h8) (fun c4 => ?_)
  refine lv_iconst (v := nI 0) hx hb dX1_box_27 (by decide) ?_
  exact fl_iret X hr hlk hI dX1_box_28 ⟨rfl, rfl, rfl⟩
def x_box (n eq rr : Nat) (xl xh : Int32) (I : fl_TI) (J : fl_TJ) : Int32 × fl_TJ := if x_unm xl xh (j_spot n eq J) (x_lu n eq rr I 0) 0 = 0 then (nI 0, j_spot n eq J) else ((x_cnt n eq rr xl xh I (n - rr) 0 (j_spot n eq J)).1.toInt32, (x_cnt n eq rr xl xh I (n - rr) 0 (j_spot n eq J)).2)
theorem m_X1_box (D : va_G) (dA : Nat → ClassId) (ad : Nat → Nat) (N : Nat) (I : fl_TI) (J : fl_TJ) (hN : 30 ≤ N) {n eq rr rk : Nat} (ok : x_ok I n eq rr rk) {xl xh : Int32} (h1 : ¬ xl < -12) (h2 : ¬ nI 12 < xh) (h3 : xl ≤ xh) (h8 : I 0 8 = -1) (hxl : x_ld n eq rr I) (hinc : x_inc n rr I) : FM yX1_box cX1_box 4 (some .int) 9 D dA ad N [.ref (ad 0), .int xl, .int xh] I J (fun v I' J' => v = some (.int (x_box n eq rr xl xh I J).1) ∧ I' = I ∧ J' = (x_box n eq rr xl xh I J).2) := by
  refine FM.ofW RX1 rfl (by decide +kernel) (Nat.le_of_ble_eq_true rfl) ?_
  intro p l e s m args below meth c ls X hr hlk hI hl
  have hx := X.1
  have hb := X.2.1
  have hl : lv_has ls 4 [(0, .ref (ad 0)), (1, .int xl), (2, .int xh)] := hl
  obtain ⟨hn, ⟨hn1, hn4⟩, he, he3, hrr, hrn, hh, hw, hrk, hrk4, hld⟩ := ok
  refine lv_iload_n hx hb dX1_box_0 rfl (lv_at hl 1 rfl) ?_
  refine lv_bipush (v := (-12)) hx hb dX1_box_1 (by decide) ?_
  refine lv_icmp_lt (tgt := 17) hx hb dX1_box_3 (by decide) (fun c1 => absurd c1 h1) (fun c1 => ?_)
  refine lv_iload_n hx hb dX1_box_6 rfl (lv_at hl 2 rfl) ?_
  refine lv_bipush (v := nI 12) hx hb dX1_box_7 (by decide) ?_
  refine lv_icmp_gt (tgt := 17) hx hb dX1_box_9 (by decide) (fun c2 => absurd c2 h2) (fun c2 => ?_)
  refine lv_iload_n hx hb dX1_box_12 rfl (lv_at hl 2 rfl) ?_
  refine lv_iload_n hx hb dX1_box_13 rfl (lv_at hl 1 rfl) ?_
  refine lv_icmp_ge (tgt := 19) hx hb dX1_box_14 (by decide) (fun c3 => ?_) (fun c3 => absurd h3 c3)
  refine lv_aload_n hx hb dX1_box_19 rfl (lv_at hl 0 rfl) ?_
  refine fl_get1 X hI dX1_box_20 (by omega) 8 (by decide) wf_X1_63 rfl ?_
  refine lv_iconst (v := (-1)) hx hb dX1_box_23 (by decide) ?_
  refine lv_icmp_eq (tgt := 29) hx hb dX1_box_24 (by decide) (fun c4 => ?_) (fun c4 => absurd h8 c4)
  refine lv_iconst (v := nI 0) hx hb dX1_box_29 (by decide) ?_
  refine lv_istore_n (lv' := [(3, .int (nI 0)), (0, .ref (ad 0)), (1, .int xl), (2, .int xh)]) hx hb dX1_box_30 rfl hl (by decide) rfl (fun ls hl => ?_)
  refine lp_spot X hN hn hn4 he he3 (J9 := j_spot n eq J) (fun H locs ls hI hl => ?_) n 0 _ _ _ _ (Nat.zero_add _) hI (lv_sub hl [0, 1, 2, 3] rfl) rfl
  refine lv_aload_n hx hb dX1_box_64 rfl (lv_at hl 1 rfl) ?_
  refine lv_iload_n hx hb dX1_box_65 rfl (lv_at hl 2 rfl) ?_
  refine lv_iload_n hx hb dX1_box_66 rfl (lv_at hl 3 rfl) ?_
  refine fl_callV (k := 0) (As := [.int xl, .int xh]) (rest := []) X hI dX1_box_67 (m_X1_unmoved D dA ad N I (j_spot n eq J) hN hn hn4 he he3 hrr hrn hxl) (by omega) fl_c_5 rfl rfl wc_yX1_unmovedLieInside wm_X1_97 wi_yX1_unmovedLieInside wl_yX1_unmovedLieInside wn_X1 hd_yX1_unmovedLieInside rfl ⟨by first | decide | (show _ ≤ 9; omega), by first | decide | (show _ ≤ 360; omega)⟩ hl.1 (Nat.le_of_ble_eq_true rfl) (fun v I2 J2 H locs hp hI => ?_)
  obtain ⟨hv, hI2, hJ2⟩ := hp
  subst hv
  rw [hI2, hJ2] at hI
  refine W.eq (g2 := F0 m 70 ls [.int (x_unm xl xh (j_spot n eq J) (x_lu n eq rr I 0) 0)]) rfl ?_
  refine lv_if_eq (tgt := 84) hx hb dX1_box_70 (by decide) (fun c5 => ?_) (fun c5 => ?_)
  · refine lv_iconst (v := nI 0) hx hb dX1_box_84 (by decide) ?_
    exact fl_iret X hr hlk hI dX1_box_85 ⟨by unfold x_box; first | rw [if_pos c5] | rw [if_neg c5], rfl, by unfold x_box; first | rw [if_pos c5] | rw [if_neg c5]⟩
  · refine lv_aload_n hx hb dX1_box_73 rfl (lv_at hl 1 rfl) ?_
    refine lv_iconst (v := nI 0) hx hb dX1_box_74 (by decide) ?_
    refine lv_iload_n hx hb dX1_box_75 rfl (lv_at hl 2 rfl) ?_
    refine lv_iload_n hx hb dX1_box_76 rfl (lv_at hl 3 rfl) ?_
    refine fl_callV (k := 0) (As := [.int (nI 0), .int xl, .int xh]) (rest := []) X hI dX1_box_77 (m_X1_countFrom D dA ad N I hN hn hn4 he he3 hrr hrn hxl hinc (n - rr) 0 (by omega) (j_spot n eq J)) (by omega) fl_c_5 rfl rfl wc_yX1_countFrom wm_X1_100 wi_yX1_countFrom wl_yX1_countFrom wn_X1 hd_yX1_countFrom rfl ⟨by first | decide | (show _ ≤ 9; omega), by first | decide | (show _ ≤ 360; omega)⟩ hl.1 (Nat.le_of_ble_eq_true rfl) (fun v I2 J2 H locs hp hI => ?_)
    obtain ⟨hv, hI2, hJ2⟩ := hp
    subst hv
    rw [hI2, hJ2] at hI
    refine W.eq (g2 := F0 m 80 ls [.long ((x_cnt n eq rr xl xh I (n - rr) 0 (j_spot n eq J)).1)]) rfl ?_
    refine lv_l2i hx hb dX1_box_80 rfl ?_
    refine lv_goto (tgt := 85) hx hb dX1_box_81 (by decide) ?_
    exact fl_iret X hr hlk hI dX1_box_85 ⟨by unfold x_box; first | rw [if_pos c5] | rw [if_neg c5], rfl, by unfold x_box; first | rw [if_pos c5] | rw [if_neg c5]⟩
