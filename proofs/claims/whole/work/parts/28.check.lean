/-! commonDivisor, spread, check -/
theorem wc_abs : Cond.code Lib.MathLoose.abs_long.x Lib.MathLoose.abs_long.code 2 (some .long) ∈ fl_tb := by
  have e1 : Lib.MathLoose.abs_long.x = yJ9_abs_067f4 := rfl
  have e2 : Lib.MathLoose.abs_long.code = cJ9_abs_067f4 := by decide +kernel
  rw [e1, e2]
  exact wc_yJ9_abs_067f4
section FLM
variable {p : Program} {l : Launch} {e : Env} {R : Room} {s : State} {m : MethodId} {args : Array Value} {below : List Frame} {meth : Method} {c : Code} {H : Heap} {locs : List Loc} {Q : State → Prop}
variable {cc : ByteArray} {nL pc : Nat} {own : String} {ls : Array Slot} {rest : List Value}
def ab64 (x : Int64) : Int64 := if 0 < x then x else -x
theorem fl_abs {index : Nat} {x : Int64} (X : CallFix p m c cc nL s args fl_tb own) (hdg : decode cc pc = .ok (.invokestatic index, 3)) (wm : Cond.methodLink own index yJ9_abs_067f4 ∈ fl_tb) (hl : ls.size = nL) (hf : 1 ≤ R.frames) (hlo : (rest.map fun v => v.category).sum + 13 ≤ R.locals)
    (kk : W p l e R s m args below meth c H locs 0 0 Q (F0 m (pc + 3) ls (.long (ab64 x) :: rest))) : W p l e R s m args below meth c H locs 0 0 Q (F0 m pc ls (.long x :: rest)) :=
  va_mabs_long X.1 X.2.1 (X.2.2.1.trans hl.symm) X.2.2.2.1 (X.2.2.2.2 _ wm) (X.2.2.2.2 _ ws_yJ9_abs_067f4) (X.2.2.2.2 _ wn_J9) (X.2.2.2.2 _ wc_abs) hf hlo (Nat.zero_le _) (Nat.zero_le _) hdg kk
end FLM
def gc64 : Nat → Int64 → Int64 → Int64
  | 0, a, _ => a
  | k + 1, a, b => if b = 0 then a else gc64 k b (a - a / b * b)
def cd64 (a b : Int64) : Int64 := gc64 200 (ab64 a) (ab64 b)
theorem lp_gcd {p : Program} {l : Launch} {e : Env} {R : Room} {s : State} {m : MethodId} {args : Array Value} {below : List Frame} {meth : Method} {c : Code} {D : va_G} {dA : Nat → ClassId} {ad : Nat → Nat} {N : Nat} {A : Nat → Prop} {I : fl_TI} {J : fl_TJ} {post : Option Value → fl_TI → fl_TJ → Prop} {a0 b0 : Int64} (X : CallFix p m c cX1_commonDivisor 11 s args fl_tb RX1) (hr : meth.sig.returnType = some .long) (hlk : meth.locks = false) :
    ∀ (k i : Nat) (a b : Int64) (H : Heap) (locs : List Loc) (ls : Array Slot), i + k = 200 → fl_I D dA ad N I J A s s.heap H locs → lv_has ls 11 [(8, .int (nI i)), (6, .long b), (4, .long a), (0, .long a0), (2, .long b0)] → post (some (.long (gc64 k a b))) I J → W p l e R s m args below meth c H locs 0 0 (MQ below (fl_Q D dA ad N post A) args s 0 0 A) (F0 m 15 ls []) := by
  have hx := X.1
  have hb := X.2.1
  intro k
  induction k with
  | zero =>
    intro i a b H locs ls hk hI hl hF
    have hk : 200 = i := by omega
    subst hk
    refine lv_iload hx hb dX1_commonDivisor_15 (lv_at hl 0 rfl) ?_
    refine lv_sipush (v := nI 200) hx hb dX1_commonDivisor_17 (by decide) ?_
    refine fn_icmp_ge X (tgt := 51) dX1_commonDivisor_20 (by decide) (by omega) (by omega) (fun c1 => ?_) (fun c1 => absurd c1 (by omega))
    refine lv_lload hx hb dX1_commonDivisor_51 (lv_at hl 2 rfl) ?_
    exact fl_lret X hr hlk hI dX1_commonDivisor_53 hF
  | succ k ih =>
    intro i a b H locs ls hk hI hl hF
    refine lv_iload hx hb dX1_commonDivisor_15 (lv_at hl 0 rfl) ?_
    refine lv_sipush (v := nI 200) hx hb dX1_commonDivisor_17 (by decide) ?_
    refine fn_icmp_ge X (tgt := 51) dX1_commonDivisor_20 (by decide) (by omega) (by omega) (fun c1 => absurd c1 (by omega)) (fun c1 => ?_)
    refine lv_lload hx hb dX1_commonDivisor_23 (lv_at hl 1 rfl) ?_
    refine lv_lconst (v := 0) hx hb dX1_commonDivisor_25 rfl ?_
    refine fl_lc_eq (tgt := 51) hx hb dX1_commonDivisor_26 dX1_commonDivisor_27 (by decide) (fun c2 => ?_) (fun c2 => ?_)
    · refine lv_lload hx hb dX1_commonDivisor_51 (lv_at hl 2 rfl) ?_
      exact fl_lret X hr hlk hI dX1_commonDivisor_53 (by have h9 := hF; simp only [gc64] at h9; rw [if_pos c2] at h9; exact h9)
    · refine lv_lload hx hb dX1_commonDivisor_30 (lv_at hl 2 rfl) ?_
      refine lv_lload hx hb dX1_commonDivisor_32 (lv_at hl 1 rfl) ?_
      refine lv_lrem hx hb dX1_commonDivisor_34 c2 ?_
      refine lv_lstore (lv' := [(9, .long (a - a / b * b)), (8, .int (nI i)), (6, .long b), (4, .long a), (0, .long a0), (2, .long b0)]) hx hb dX1_commonDivisor_35 hl (by decide) rfl (fun ls hl => ?_)
      refine lv_lload hx hb dX1_commonDivisor_37 (lv_at hl 2 rfl) ?_
      refine lv_lstore (lv' := [(4, .long b), (9, .long (a - a / b * b)), (8, .int (nI i)), (6, .long b), (0, .long a0), (2, .long b0)]) hx hb dX1_commonDivisor_39 hl (by decide) rfl (fun ls hl => ?_)
      refine lv_lload hx hb dX1_commonDivisor_41 (lv_at hl 1 rfl) ?_
      refine lv_lstore (lv' := [(6, .long (a - a / b * b)), (4, .long b), (9, .long (a - a / b * b)), (8, .int (nI i)), (0, .long a0), (2, .long b0)]) hx hb dX1_commonDivisor_43 hl (by decide) rfl (fun ls hl => ?_)
      refine fn_iinc (a := i) (lv' := [(8, .int (nI (i + 1))), (6, .long (a - a / b * b)), (4, .long b), (9, .long (a - a / b * b)), (0, .long a0), (2, .long b0)]) X dX1_commonDivisor_45 hl (k := 3) rfl (by decide) rfl (fun ls hl => ?_)
      refine lv_goto (tgt := 15) hx hb dX1_commonDivisor_48 (by decide) ?_
      exact ih (i + 1) _ _ _ _ _ (by omega) hI (lv_sub hl [0, 1, 2, 4, 5] rfl) (by have h9 := hF; simp only [gc64] at h9; rw [if_neg c2] at h9; exact h9)
theorem m_X1_commonDivisor (D : va_G) (dA : Nat → ClassId) (ad : Nat → Nat) (N : Nat) (I : fl_TI) (J : fl_TJ) (a0 b0 : Int64) : FM yX1_commonDivisor cX1_commonDivisor 11 (some .long) 1 D dA ad N [.long a0, .long b0] I J (fun v I' J' => v = some (.long (cd64 a0 b0)) ∧ I' = I ∧ J' = J) := by
  refine FM.ofW RX1 rfl (by decide +kernel) (Nat.le_of_ble_eq_true rfl) ?_
  intro p l e s m args below meth c ls X hr hlk hI hl
  have hx := X.1
  have hb := X.2.1
  have hl : lv_has ls 11 [(0, .long a0), (2, .long b0)] := hl
  refine lv_lload_n hx hb dX1_commonDivisor_0 rfl (lv_at hl 0 rfl) ?_
  refine fl_abs X dX1_commonDivisor_1 wm_X1_152 hl.1 (by first | decide | omega) (by first | decide | (show _ ≤ _; simp; omega)) ?_
  refine lv_lstore (lv' := [(4, .long (ab64 a0)), (0, .long a0), (2, .long b0)]) hx hb dX1_commonDivisor_4 hl (by decide) rfl (fun ls hl => ?_)
  refine lv_lload_n hx hb dX1_commonDivisor_6 rfl (lv_at hl 2 rfl) ?_
  refine fl_abs X dX1_commonDivisor_7 wm_X1_152 hl.1 (by first | decide | omega) (by first | decide | (show _ ≤ _; simp; omega)) ?_
  refine lv_lstore (lv' := [(6, .long (ab64 b0)), (4, .long (ab64 a0)), (0, .long a0), (2, .long b0)]) hx hb dX1_commonDivisor_10 hl (by decide) rfl (fun ls hl => ?_)
  refine lv_iconst (v := nI 0) hx hb dX1_commonDivisor_12 (by decide) ?_
  refine lv_istore (lv' := [(8, .int (nI 0)), (6, .long (ab64 b0)), (4, .long (ab64 a0)), (0, .long a0), (2, .long b0)]) hx hb dX1_commonDivisor_13 hl (by decide) rfl (fun ls hl => ?_)
  exact lp_gcd X hr hlk 200 0 _ _ _ _ _ (Nat.zero_add _) hI (lv_sub hl [0, 1, 2, 3, 4] rfl) ⟨rfl, rfl, rfl⟩
def x_spr1 (n eq rr : Nat) (J : fl_TJ) (i : Nat) (dv : Int64) : Int64 := fl_it (fun j dv => cd64 dv (J (6 + 2 + (rr + i)) (eq + j))) n 0 dv
def x_spr (n eq rr : Nat) (J : fl_TJ) : Int64 := fl_it (x_spr1 n eq rr J) (n - rr) 0 0
theorem lp_spr1 {p : Program} {l : Launch} {e : Env} {R : Room} {s : State} {m : MethodId} {args : Array Value} {below : List Frame} {meth : Method} {c : Code} {Q : State → Prop} {D : va_G} {dA : Nat → ClassId} {ad : Nat → Nat} {N : Nat} {A : Nat → Prop} {H0 : Heap} {I : fl_TI} {J : fl_TJ} {dv9 : Int64} (X : CallFix p m c cX1_spread 5 s args fl_tb RX1) {n eq rr a : Nat} (hN : 30 ≤ N) (hn : I 0 2 = nI n) (hn4 : n ≤ 4) (he : I 0 3 = nI eq) (he3 : eq ≤ 3) (hrr : I 0 6 = nI rr) (hrn : rr ≤ n) (ha : rr + a < n) (hR : 1 + 1 ≤ R.frames ∧ 8 + (11 + 11) + 40 * 1 ≤ R.locals)
    (kx : ∀ (H : Heap) (locs : List Loc) (ls : Array Slot), fl_I D dA ad N I J A s H0 H locs → lv_has ls 5 [(4, .int (nI n)), (3, .int (nI a)), (1, .long dv9), (0, .ref (ad 0))] → W p l e R s m args below meth c H locs 0 0 Q (F0 m 54 ls [])) :
    ∀ (k i : Nat) (dv : Int64) (H : Heap) (locs : List Loc) (ls : Array Slot), i + k = n → fl_I D dA ad N I J A s H0 H locs → lv_has ls 5 [(4, .int (nI i)), (3, .int (nI a)), (1, .long dv), (0, .ref (ad 0))] → fl_it (fun j dv => cd64 dv (J (6 + 2 + (rr + a)) (eq + j))) k i dv = dv9 → W p l e R s m args below meth c H locs 0 0 Q (F0 m 27 ls []) := by
  have hx := X.1
  have hb := X.2.1
  intro k
  induction k with
  | zero =>
    intro i dv H locs ls hk hI hl hF
    have hF : dv = dv9 := hF
    subst hF
    have hk : n = i := by omega
    subst hk
    refine lv_iload hx hb dX1_spread_27 (lv_at hl 0 rfl) ?_
    refine lv_aload_n hx hb dX1_spread_29 rfl (lv_at hl 3 rfl) ?_
    refine fl_get1 X hI dX1_spread_30 (by omega) 2 (by decide) wf_X1_42 rfl ?_
    refine W.eq (g2 := F0 m 33 ls [.int (nI n), .int (nI n)]) (by rw [hn]) ?_
    refine fn_icmp_ge X (tgt := 54) dX1_spread_33 (by decide) (by omega) (by omega) (fun c1 => ?_) (fun c1 => absurd c1 (by omega))
    exact kx _ _ _ hI (lv_sub hl [0, 1, 2, 3] rfl)
  | succ k ih =>
    intro i dv H locs ls hk hI hl hF
    refine lv_iload hx hb dX1_spread_27 (lv_at hl 0 rfl) ?_
    refine lv_aload_n hx hb dX1_spread_29 rfl (lv_at hl 3 rfl) ?_
    refine fl_get1 X hI dX1_spread_30 (by omega) 2 (by decide) wf_X1_42 rfl ?_
    refine W.eq (g2 := F0 m 33 ls [.int (nI n), .int (nI i)]) (by rw [hn]) ?_
    refine fn_icmp_ge X (tgt := 54) dX1_spread_33 (by decide) (by omega) (by omega) (fun c1 => absurd c1 (by omega)) (fun c1 => ?_)
    refine lv_lload_n hx hb dX1_spread_36 rfl (lv_at hl 2 rfl) ?_
    refine lv_aload_n hx hb dX1_spread_37 rfl (lv_at hl 3 rfl) ?_
    refine lv_iload_n hx hb dX1_spread_38 rfl (lv_at hl 1 rfl) ?_
    refine lv_iload hx hb dX1_spread_39 (lv_at hl 0 rfl) ?_
    refine fl_callV (k := 0) (As := [.int (nI a), .int (nI i)]) (rest := [.long dv]) X hI dX1_spread_41 (m_X1_basisNumber D dA ad N I J hN he hrr (by omega) (by omega)) (by omega) fl_c_5 rfl rfl wc_yX1_basisNumber wm_X1_72 wi_yX1_basisNumber wl_yX1_basisNumber wn_X1 hd_yX1_basisNumber rfl ⟨by first | decide | omega, by first | decide | omega⟩ hl.1 (Nat.le_of_ble_eq_true rfl) (fun v I2 J2 H locs hp hI => ?_)
    obtain ⟨hv, hI2, hJ2⟩ := hp
    subst hv
    rw [hI2, hJ2] at hI
    refine W.eq (g2 := F0 m 44 ls [.long (J (6 + 2 + (rr + a)) (eq + i)), .long dv]) rfl ?_
    refine fl_callS (As := [.long dv, .long (J (6 + 2 + (rr + a)) (eq + i))]) (rest := []) X hI dX1_spread_44 (m_X1_commonDivisor D dA ad N I J dv (J (6 + 2 + (rr + a)) (eq + i))) wc_yX1_commonDivisor wm_X1_113 ws_yX1_commonDivisor wn_X1 hd_yX1_commonDivisor rfl ⟨by first | decide | omega, by first | decide | omega⟩ hl.1 (Nat.le_of_ble_eq_true rfl) (fun v I2 J2 H locs hp hI => ?_)
    obtain ⟨hv, hI2, hJ2⟩ := hp
    subst hv
    rw [hI2, hJ2] at hI
    refine W.eq (g2 := F0 m 47 ls [.long (cd64 dv (J (6 + 2 + (rr + a)) (eq + i)))]) rfl ?_
    refine lv_lstore_n (lv' := [(1, .long (cd64 dv (J (6 + 2 + (rr + a)) (eq + i)))), (4, .int (nI i)), (3, .int (nI a)), (0, .ref (ad 0))]) hx hb dX1_spread_47 rfl hl (by decide) rfl (fun ls hl => ?_)
    refine fn_iinc (a := i) (lv' := [(4, .int (nI (i + 1))), (1, .long (cd64 dv (J (6 + 2 + (rr + a)) (eq + i)))), (3, .int (nI a)), (0, .ref (ad 0))]) X dX1_spread_48 hl (k := 1) rfl (by decide) rfl (fun ls hl => ?_)
    refine lv_goto (tgt := 27) hx hb dX1_spread_51 (by decide) ?_
    exact ih (i + 1) _ _ _ _ (by omega) hI (lv_sub hl [0, 2, 1, 3] rfl) hF
theorem lp_spr {p : Program} {l : Launch} {e : Env} {R : Room} {s : State} {m : MethodId} {args : Array Value} {below : List Frame} {meth : Method} {c : Code} {Q : State → Prop} {D : va_G} {dA : Nat → ClassId} {ad : Nat → Nat} {N : Nat} {A : Nat → Prop} {H0 : Heap} {I : fl_TI} {J : fl_TJ} {dv9 : Int64} (X : CallFix p m c cX1_spread 5 s args fl_tb RX1) {n eq rr : Nat} (hN : 30 ≤ N) (hn : I 0 2 = nI n) (hn4 : n ≤ 4) (he : I 0 3 = nI eq) (he3 : eq ≤ 3) (hrr : I 0 6 = nI rr) (hrn : rr ≤ n) (hR : 1 + 1 ≤ R.frames ∧ 8 + (11 + 11) + 40 * 1 ≤ R.locals)
    (kx : ∀ (H : Heap) (locs : List Loc) (ls : Array Slot), fl_I D dA ad N I J A s H0 H locs → lv_has ls 5 [(3, .int (nI (n - rr))), (1, .long dv9), (0, .ref (ad 0))] → W p l e R s m args below meth c H locs 0 0 Q (F0 m 60 ls [])) :
    ∀ (k i : Nat) (dv : Int64) (H : Heap) (locs : List Loc) (ls : Array Slot), i + k = n - rr → fl_I D dA ad N I J A s H0 H locs → lv_has ls 5 [(3, .int (nI i)), (1, .long dv), (0, .ref (ad 0))] → fl_it (x_spr1 n eq rr J) k i dv = dv9 → W p l e R s m args below meth c H locs 0 0 Q (F0 m 16 ls []) := by
  have hx := X.1
  have hb := X.2.1
  intro k
  induction k with
  | zero =>
    intro i dv H locs ls hk hI hl hF
    have hF : dv = dv9 := hF
    subst hF
    have hk : n - rr = i := by omega
    subst hk
    refine lv_iload_n hx hb dX1_spread_16 rfl (lv_at hl 0 rfl) ?_
    refine lv_aload_n hx hb dX1_spread_17 rfl (lv_at hl 2 rfl) ?_
    refine fl_callV (k := 0) (As := []) (rest := [.int (nI (n - rr))]) X hI dX1_spread_18 (m_X1_basisRows D dA ad N I J hN hn hrr hrn) (by omega) fl_c_5 rfl rfl wc_yX1_basisRows wm_X1_66 wi_yX1_basisRows wl_yX1_basisRows wn_X1 hd_yX1_basisRows rfl ⟨by first | decide | omega, by first | decide | omega⟩ hl.1 (Nat.le_of_ble_eq_true rfl) (fun v I2 J2 H locs hp hI => ?_)
    obtain ⟨hv, hI2, hJ2⟩ := hp
    subst hv
    rw [hI2, hJ2] at hI
    refine W.eq (g2 := F0 m 21 ls [.int (nI (n - rr)), .int (nI (n - rr))]) rfl ?_
    refine fn_icmp_ge X (tgt := 60) dX1_spread_21 (by decide) (by omega) (by omega) (fun c1 => ?_) (fun c1 => absurd c1 (by omega))
    exact kx _ _ _ hI (lv_sub hl [0, 1, 2] rfl)
  | succ k ih =>
    intro i dv H locs ls hk hI hl hF
    refine lv_iload_n hx hb dX1_spread_16 rfl (lv_at hl 0 rfl) ?_
    refine lv_aload_n hx hb dX1_spread_17 rfl (lv_at hl 2 rfl) ?_
    refine fl_callV (k := 0) (As := []) (rest := [.int (nI i)]) X hI dX1_spread_18 (m_X1_basisRows D dA ad N I J hN hn hrr hrn) (by omega) fl_c_5 rfl rfl wc_yX1_basisRows wm_X1_66 wi_yX1_basisRows wl_yX1_basisRows wn_X1 hd_yX1_basisRows rfl ⟨by first | decide | omega, by first | decide | omega⟩ hl.1 (Nat.le_of_ble_eq_true rfl) (fun v I2 J2 H locs hp hI => ?_)
    obtain ⟨hv, hI2, hJ2⟩ := hp
    subst hv
    rw [hI2, hJ2] at hI
    refine W.eq (g2 := F0 m 21 ls [.int (nI (n - rr)), .int (nI i)]) rfl ?_
    refine fn_icmp_ge X (tgt := 60) dX1_spread_21 (by decide) (by omega) (by omega) (fun c1 => absurd c1 (by omega)) (fun c1 => ?_)
    refine lv_iconst (v := nI 0) hx hb dX1_spread_24 (by decide) ?_
    refine lv_istore (lv' := [(4, .int (nI 0)), (3, .int (nI i)), (1, .long dv), (0, .ref (ad 0))]) hx hb dX1_spread_25 hl (by decide) rfl (fun ls hl => ?_)
    refine lp_spr1 X hN hn hn4 he he3 hrr hrn (a := i) (by omega) hR (dv9 := x_spr1 n eq rr J i dv) (fun H locs ls hI hl => ?_) n 0 _ _ _ _ (Nat.zero_add _) hI (lv_sub hl [0, 1, 2, 3] rfl) rfl
    refine fn_iinc (a := i) (lv' := [(3, .int (nI (i + 1))), (4, .int (nI n)), (1, .long (x_spr1 n eq rr J i dv)), (0, .ref (ad 0))]) X dX1_spread_54 hl (k := 1) rfl (by decide) rfl (fun ls hl => ?_)
    refine lv_goto (tgt := 16) hx hb dX1_spread_57 (by decide) ?_
    exact ih (i + 1) _ _ _ _ (by omega) hI (lv_sub hl [0, 2, 3] rfl) hF
theorem m_X1_spread_none (D : va_G) (dA : Nat → ClassId) (ad : Nat → Nat) (N : Nat) (I : fl_TI) (J : fl_TJ) (hN : 30 ≤ N) (h8 : ¬ I 0 8 = -1) : FM yX1_spread cX1_spread 5 (some .long) 2 D dA ad N [.ref (ad 0)] I J (fun v I' J' => v = some (.long (-1)) ∧ I' = I ∧ J' = J) := by
  refine FM.ofW RX1 rfl (by decide +kernel) (Nat.le_of_ble_eq_true rfl) ?_
  intro p l e s m args below meth c ls X hr hlk hI hl
  have hx := X.1
  have hb := X.2.1
  have hl : lv_has ls 5 [(0, .ref (ad 0))] := hl
  refine lv_aload_n hx hb dX1_spread_0 rfl (lv_at hl 0 rfl) ?_
  refine fl_get1 X hI dX1_spread_1 (by omega) 8 (by decide) wf_X1_63 rfl ?_
  refine lv_iconst (v := (-1)) hx hb dX1_spread_4 (by decide) ?_
  refine lv_icmp_eq (tgt := 12) hx hb dX1_spread_5 (by decide) (fun c1 => absurd c1 h8) (fun c1 => ?_)
  refine W.ldc2 (v := (-1)) hx hb X.2.2.2.1 (X.2.2.2.2 _ wk_X1_111) rfl dX1_spread_8 ?_
  refine W.eq (g2 := F0 m 11 ls [.long ((-1))]) rfl ?_
  exact fl_lret X hr hlk hI dX1_spread_11 ⟨rfl, rfl, rfl⟩
theorem m_X1_spread (D : va_G) (dA : Nat → ClassId) (ad : Nat → Nat) (N : Nat) (I : fl_TI) (J : fl_TJ) (hN : 30 ≤ N) {n eq rr rk : Nat} (ok : x_ok I n eq rr rk) (h8 : I 0 8 = -1) : FM yX1_spread cX1_spread 5 (some .long) 2 D dA ad N [.ref (ad 0)] I J (fun v I' J' => v = some (.long (x_spr n eq rr J)) ∧ I' = I ∧ J' = J) := by
  refine FM.ofW RX1 rfl (by decide +kernel) (Nat.le_of_ble_eq_true rfl) ?_
  intro p l e s m args below meth c ls X hr hlk hI hl
  have hx := X.1
  have hb := X.2.1
  have hl : lv_has ls 5 [(0, .ref (ad 0))] := hl
  obtain ⟨hn, ⟨hn1, hn4⟩, he, he3, hrr, hrn, hh, hw, hrk, hrk4, hld⟩ := ok
  refine lv_aload_n hx hb dX1_spread_0 rfl (lv_at hl 0 rfl) ?_
  refine fl_get1 X hI dX1_spread_1 (by omega) 8 (by decide) wf_X1_63 rfl ?_
  refine lv_iconst (v := (-1)) hx hb dX1_spread_4 (by decide) ?_
  refine lv_icmp_eq (tgt := 12) hx hb dX1_spread_5 (by decide) (fun c1 => ?_) (fun c1 => absurd h8 c1)
  refine lv_lconst (v := 0) hx hb dX1_spread_12 rfl ?_
  refine lv_lstore_n (lv' := [(1, .long 0), (0, .ref (ad 0))]) hx hb dX1_spread_13 rfl hl (by decide) rfl (fun ls hl => ?_)
  refine lv_iconst (v := nI 0) hx hb dX1_spread_14 (by decide) ?_
  refine lv_istore_n (lv' := [(3, .int (nI 0)), (1, .long 0), (0, .ref (ad 0))]) hx hb dX1_spread_15 rfl hl (by decide) rfl (fun ls hl => ?_)
  refine lp_spr X hN hn hn4 he he3 hrr hrn ⟨by decide, by decide⟩ (dv9 := x_spr n eq rr J) (fun H locs ls hI hl => ?_) (n - rr) 0 _ _ _ _ (Nat.zero_add _) hI (lv_sub hl [0, 1, 2] rfl) rfl
  refine lv_lload_n hx hb dX1_spread_60 rfl (lv_at hl 1 rfl) ?_
  exact fl_lret X hr hlk hI dX1_spread_61 ⟨rfl, rfl, rfl⟩
def x_sum (n eq : Nat) (I : fl_TI) (J : fl_TJ) (a q : Nat) : Int64 := fl_it (fun j t => t + (I (2 + a) j).toInt64 * J q (eq + j)) n 0 0
theorem lp_sum {p : Program} {l : Launch} {e : Env} {R : Room} {s : State} {m : MethodId} {args : Array Value} {below : List Frame} {meth : Method} {c : Code} {Q : State → Prop} {D : va_G} {dA : Nat → ClassId} {ad : Nat → Nat} {N : Nat} {A : Nat → Prop} {H0 : Heap} {I : fl_TI} {J : fl_TJ} {tt9 : Int64} (X : CallFix p m c cX1_sumOfUnknowns 6 s args fl_tb RX1) {n eq a q : Nat} (hN : 30 ≤ N) (hn : I 0 2 = nI n) (hn4 : n ≤ 4) (he : I 0 3 = nI eq) (he3 : eq ≤ 3) (ha : a < eq) (hq : q < N) (hq1 : fl_k q = 1) (hqn : fl_n q = 7)
    (kx : ∀ (H : Heap) (locs : List Loc) (ls : Array Slot), fl_I D dA ad N I J A s H0 H locs → lv_has ls 6 [(5, .int (nI n)), (3, .long tt9), (0, .ref (ad 0)), (1, .int (nI a)), (2, .ref (ad q))] → W p l e R s m args below meth c H locs 0 0 Q (F0 m 43 ls [])) :
    ∀ (k i : Nat) (tt : Int64) (H : Heap) (locs : List Loc) (ls : Array Slot), i + k = n → fl_I D dA ad N I J A s H0 H locs → lv_has ls 6 [(5, .int (nI i)), (3, .long tt), (0, .ref (ad 0)), (1, .int (nI a)), (2, .ref (ad q))] → fl_it (fun j t => t + (I (2 + a) j).toInt64 * J q (eq + j)) k i tt = tt9 → W p l e R s m args below meth c H locs 0 0 Q (F0 m 5 ls []) := by
  have hx := X.1
  have hb := X.2.1
  intro k
  induction k with
  | zero =>
    intro i tt H locs ls hk hI hl hF
    have hF : tt = tt9 := hF
    subst hF
    have hk : n = i := by omega
    subst hk
    refine lv_iload hx hb dX1_sumOfUnknowns_5 (lv_at hl 0 rfl) ?_
    refine lv_aload_n hx hb dX1_sumOfUnknowns_7 rfl (lv_at hl 2 rfl) ?_
    refine fl_get1 X hI dX1_sumOfUnknowns_8 (by omega) 2 (by decide) wf_X1_42 rfl ?_
    refine W.eq (g2 := F0 m 11 ls [.int (nI n), .int (nI n)]) (by rw [hn]) ?_
    refine fn_icmp_ge X (tgt := 43) dX1_sumOfUnknowns_11 (by decide) (by omega) (by omega) (fun c1 => ?_) (fun c1 => absurd c1 (by omega))
    exact kx _ _ _ hI (lv_sub hl [0, 1, 2, 3, 4] rfl)
  | succ k ih =>
    intro i tt H locs ls hk hI hl hF
    refine lv_iload hx hb dX1_sumOfUnknowns_5 (lv_at hl 0 rfl) ?_
    refine lv_aload_n hx hb dX1_sumOfUnknowns_7 rfl (lv_at hl 2 rfl) ?_
    refine fl_get1 X hI dX1_sumOfUnknowns_8 (by omega) 2 (by decide) wf_X1_42 rfl ?_
    refine W.eq (g2 := F0 m 11 ls [.int (nI n), .int (nI i)]) (by rw [hn]) ?_
    refine fn_icmp_ge X (tgt := 43) dX1_sumOfUnknowns_11 (by decide) (by omega) (by omega) (fun c1 => absurd c1 (by omega)) (fun c1 => ?_)
    refine lv_lload_n hx hb dX1_sumOfUnknowns_14 rfl (lv_at hl 1 rfl) ?_
    refine lv_aload_n hx hb dX1_sumOfUnknowns_15 rfl (lv_at hl 2 rfl) ?_
    refine fl_get1 X hI dX1_sumOfUnknowns_16 (by omega) 0 (by decide) wf_X1_11 rfl ?_
    refine lv_iload_n hx hb dX1_sumOfUnknowns_19 rfl (lv_at hl 3 rfl) ?_
    refine fn_aald2 (k := 1) X hI dX1_sumOfUnknowns_20 (by omega) rfl (show a < 3 by omega) ?_
    refine lv_iload hx hb dX1_sumOfUnknowns_21 (lv_at hl 0 rfl) ?_
    refine fn_iald (k := 2 + a) X hI dX1_sumOfUnknowns_23 (by omega) (fk2 (by omega)) (by rw [fn2 (by omega)]; omega) ?_
    refine lv_i2l hx hb dX1_sumOfUnknowns_24 rfl ?_
    refine lv_aload_n hx hb dX1_sumOfUnknowns_25 rfl (lv_at hl 4 rfl) ?_
    refine lv_aload_n hx hb dX1_sumOfUnknowns_26 rfl (lv_at hl 2 rfl) ?_
    refine fl_get1 X hI dX1_sumOfUnknowns_27 (by omega) 3 (by decide) wf_X1_46 rfl ?_
    refine W.eq (g2 := F0 m 30 ls [.int (nI eq), .ref (ad q), .long ((I (2 + a) i).toInt64), .long tt]) (by rw [he]) ?_
    refine lv_iload hx hb dX1_sumOfUnknowns_30 (lv_at hl 0 rfl) ?_
    refine fn_iadd X dX1_sumOfUnknowns_32 ?_
    refine fn_lald (k := q) X hI dX1_sumOfUnknowns_33 hq hq1 (by omega) ?_
    refine lv_lmul hx hb dX1_sumOfUnknowns_34 ?_
    refine lv_ladd hx hb dX1_sumOfUnknowns_35 ?_
    refine lv_lstore_n (lv' := [(3, .long (tt + (((I (2 + a) i).toInt64) * (J q (eq + i))))), (5, .int (nI i)), (0, .ref (ad 0)), (1, .int (nI a)), (2, .ref (ad q))]) hx hb dX1_sumOfUnknowns_36 rfl hl (by decide) rfl (fun ls hl => ?_)
    refine fn_iinc (a := i) (lv' := [(5, .int (nI (i + 1))), (3, .long (tt + (((I (2 + a) i).toInt64) * (J q (eq + i))))), (0, .ref (ad 0)), (1, .int (nI a)), (2, .ref (ad q))]) X dX1_sumOfUnknowns_37 hl (k := 1) rfl (by decide) rfl (fun ls hl => ?_)
    refine lv_goto (tgt := 5) hx hb dX1_sumOfUnknowns_40 (by decide) ?_
    exact ih (i + 1) _ _ _ _ (by omega) hI (lv_sub hl [0, 1, 2, 3, 4] rfl) hF
theorem m_X1_sumOf (D : va_G) (dA : Nat → ClassId) (ad : Nat → Nat) (N : Nat) (I : fl_TI) (J : fl_TJ) {n eq a q : Nat} (hN : 30 ≤ N) (hn : I 0 2 = nI n) (hn4 : n ≤ 4) (he : I 0 3 = nI eq) (he3 : eq ≤ 3) (ha : a < eq) (hq : q < N) (hq1 : fl_k q = 1) (hqn : fl_n q = 7) : FM yX1_sumOfUnknowns cX1_sumOfUnknowns 6 (some .long) 0 D dA ad N [.ref (ad 0), .int (nI a), .ref (ad q)] I J (fun v I' J' => v = some (.long (x_sum n eq I J a q)) ∧ I' = I ∧ J' = J) := by
  refine FM.ofW RX1 rfl (by decide +kernel) (Nat.le_of_ble_eq_true rfl) ?_
  intro p l e s m args below meth c ls X hr hlk hI hl
  have hx := X.1
  have hb := X.2.1
  have hl : lv_has ls 6 [(0, .ref (ad 0)), (1, .int (nI a)), (2, .ref (ad q))] := hl
  refine lv_lconst (v := 0) hx hb dX1_sumOfUnknowns_0 rfl ?_
  refine lv_lstore_n (lv' := [(3, .long 0), (0, .ref (ad 0)), (1, .int (nI a)), (2, .ref (ad q))]) hx hb dX1_sumOfUnknowns_1 rfl hl (by decide) rfl (fun ls hl => ?_)
  refine lv_iconst (v := nI 0) hx hb dX1_sumOfUnknowns_2 (by decide) ?_
  refine lv_istore (lv' := [(5, .int (nI 0)), (3, .long 0), (0, .ref (ad 0)), (1, .int (nI a)), (2, .ref (ad q))]) hx hb dX1_sumOfUnknowns_3 hl (by decide) rfl (fun ls hl => ?_)
  refine lp_sum X hN hn hn4 he he3 ha hq hq1 hqn (tt9 := x_sum n eq I J a q) (fun H locs ls hI hl => ?_) n 0 _ _ _ _ (Nat.zero_add _) hI (lv_sub hl [0, 1, 2, 3, 4] rfl) rfl
  refine lv_lload_n hx hb dX1_sumOfUnknowns_43 rfl (lv_at hl 1 rfl) ?_
  exact fl_lret X hr hlk hI dX1_sumOfUnknowns_44 ⟨rfl, rfl, rfl⟩
def x_solh (n eq : Nat) (I : fl_TI) (J : fl_TJ) : Nat → Nat → Int32
  | 0, _ => nI 1
  | k + 1, i => if x_sum n eq I J i 22 = (I 5 i).toInt64 then x_solh n eq I J k (i + 1) else nI 0
def x_rowh (n eq : Nat) (I : fl_TI) (J : fl_TJ) (a : Nat) : Nat → Nat → Int32
  | 0, _ => nI 1
  | k + 1, i => if x_sum n eq I J i (6 + 2 + a) = J (6 + 2 + a) i then x_rowh n eq I J a k (i + 1) else nI 0
theorem lp_solh {p : Program} {l : Launch} {e : Env} {R : Room} {s : State} {m : MethodId} {args : Array Value} {below : List Frame} {meth : Method} {c : Code} {D : va_G} {dA : Nat → ClassId} {ad : Nat → Nat} {N : Nat} {A : Nat → Prop} {I : fl_TI} {J : fl_TJ} {post : Option Value → fl_TI → fl_TJ → Prop} (X : CallFix p m c cX1_solutionHolds 2 s args fl_tb RX1) (hr : meth.sig.returnType = some .boolean) (hlk : meth.locks = false) {n eq : Nat} (hN : 30 ≤ N) (hn : I 0 2 = nI n) (hn4 : n ≤ 4) (he : I 0 3 = nI eq) (he3 : eq ≤ 3) (hR : 0 + 1 ≤ R.frames ∧ 8 + (6 + 11) + 40 * 0 ≤ R.locals) :
    ∀ (k i : Nat) (H : Heap) (locs : List Loc) (ls : Array Slot), i + k = eq → fl_I D dA ad N I J A s s.heap H locs → lv_has ls 2 [(1, .int (nI i)), (0, .ref (ad 0))] → post (some (.int (x_solh n eq I J k i))) I J → W p l e R s m args below meth c H locs 0 0 (MQ below (fl_Q D dA ad N post A) args s 0 0 A) (F0 m 2 ls []) := by
  have hx := X.1
  have hb := X.2.1
  intro k
  induction k with
  | zero =>
    intro i H locs ls hk hI hl hF
    have hk : eq = i := by omega
    subst hk
    refine lv_iload_n hx hb dX1_solutionHolds_2 rfl (lv_at hl 0 rfl) ?_
    refine lv_aload_n hx hb dX1_solutionHolds_3 rfl (lv_at hl 1 rfl) ?_
    refine fl_get1 X hI dX1_solutionHolds_4 (by omega) 3 (by decide) wf_X1_46 rfl ?_
    refine W.eq (g2 := F0 m 7 ls [.int (nI eq), .int (nI eq)]) (by rw [he]) ?_
    refine fn_icmp_ge X (tgt := 38) dX1_solutionHolds_7 (by decide) (by omega) (by omega) (fun c1 => ?_) (fun c1 => absurd c1 (by omega))
    refine lv_iconst (v := nI 1) hx hb dX1_solutionHolds_38 (by decide) ?_
    exact fl_zret X hr hlk hI dX1_solutionHolds_39 (by decide) hF
  | succ k ih =>
    intro i H locs ls hk hI hl hF
    refine lv_iload_n hx hb dX1_solutionHolds_2 rfl (lv_at hl 0 rfl) ?_
    refine lv_aload_n hx hb dX1_solutionHolds_3 rfl (lv_at hl 1 rfl) ?_
    refine fl_get1 X hI dX1_solutionHolds_4 (by omega) 3 (by decide) wf_X1_46 rfl ?_
    refine W.eq (g2 := F0 m 7 ls [.int (nI eq), .int (nI i)]) (by rw [he]) ?_
    refine fn_icmp_ge X (tgt := 38) dX1_solutionHolds_7 (by decide) (by omega) (by omega) (fun c1 => absurd c1 (by omega)) (fun c1 => ?_)
    refine lv_aload_n hx hb dX1_solutionHolds_10 rfl (lv_at hl 1 rfl) ?_
    refine lv_iload_n hx hb dX1_solutionHolds_11 rfl (lv_at hl 0 rfl) ?_
    refine lv_aload_n hx hb dX1_solutionHolds_12 rfl (lv_at hl 1 rfl) ?_
    refine fl_get1 X hI dX1_solutionHolds_13 (by omega) 7 (by decide) wf_X1_30 rfl ?_
    refine fl_callV (k := 0) (As := [.int (nI i), .ref (ad 22)]) (rest := []) X hI dX1_solutionHolds_16 (m_X1_sumOf D dA ad N I J hN hn hn4 he he3 (a := i) (q := 22) (by omega) (by omega) rfl rfl) (by omega) fl_c_5 rfl rfl wc_yX1_sumOfUnknowns wm_X1_187 wi_yX1_sumOfUnknowns wl_yX1_sumOfUnknowns wn_X1 hd_yX1_sumOfUnknowns rfl ⟨by first | decide | omega, by first | decide | omega⟩ hl.1 (Nat.le_of_ble_eq_true rfl) (fun v I2 J2 H locs hp hI => ?_)
    obtain ⟨hv, hI2, hJ2⟩ := hp
    subst hv
    rw [hI2, hJ2] at hI
    refine W.eq (g2 := F0 m 19 ls [.long (x_sum n eq I J i 22)]) rfl ?_
    refine lv_aload_n hx hb dX1_solutionHolds_19 rfl (lv_at hl 1 rfl) ?_
    refine fl_get1 X hI dX1_solutionHolds_20 (by omega) 1 (by decide) wf_X1_14 rfl ?_
    refine lv_iload_n hx hb dX1_solutionHolds_23 rfl (lv_at hl 0 rfl) ?_
    refine fn_iald (k := 5) X hI dX1_solutionHolds_24 (by omega) rfl (show i < 3 by omega) ?_
    refine lv_i2l hx hb dX1_solutionHolds_25 rfl ?_
    refine fl_lc_eq (tgt := 32) hx hb dX1_solutionHolds_26 dX1_solutionHolds_27 (by decide) (fun c2 => ?_) (fun c2 => ?_)
    · refine fn_iinc (a := i) (lv' := [(1, .int (nI (i + 1))), (0, .ref (ad 0))]) X dX1_solutionHolds_32 hl (k := 0) rfl (by decide) rfl (fun ls hl => ?_)
      refine lv_goto (tgt := 2) hx hb dX1_solutionHolds_35 (by decide) ?_
      exact ih (i + 1) _ _ _ (by omega) hI (lv_sub hl [0, 1] rfl) (by have h9 := hF; simp only [x_solh] at h9; rw [if_pos c2] at h9; exact h9)
    · refine lv_iconst (v := nI 0) hx hb dX1_solutionHolds_30 (by decide) ?_
      exact fl_zret X hr hlk hI dX1_solutionHolds_31 (by decide) (by have h9 := hF; simp only [x_solh] at h9; rw [if_neg c2] at h9; exact h9)
theorem m_X1_solutionHolds (D : va_G) (dA : Nat → ClassId) (ad : Nat → Nat) (N : Nat) (I : fl_TI) (J : fl_TJ) {n eq : Nat} (hN : 30 ≤ N) (hn : I 0 2 = nI n) (hn4 : n ≤ 4) (he : I 0 3 = nI eq) (he3 : eq ≤ 3) : FM yX1_solutionHolds cX1_solutionHolds 2 (some .boolean) 1 D dA ad N [.ref (ad 0)] I J (fun v I' J' => v = some (.int (x_solh n eq I J eq 0)) ∧ I' = I ∧ J' = J) := by
  refine FM.ofW RX1 rfl (by decide +kernel) (Nat.le_of_ble_eq_true rfl) ?_
  intro p l e s m args below meth c ls X hr hlk hI hl
  have hx := X.1
  have hb := X.2.1
  have hl : lv_has ls 2 [(0, .ref (ad 0))] := hl
  refine lv_iconst (v := nI 0) hx hb dX1_solutionHolds_0 (by decide) ?_
  refine lv_istore_n (lv' := [(1, .int (nI 0)), (0, .ref (ad 0))]) hx hb dX1_solutionHolds_1 rfl hl (by decide) rfl (fun ls hl => ?_)
  exact lp_solh X hr hlk hN hn hn4 he he3 ⟨by decide, by decide⟩ eq 0 _ _ _ (Nat.zero_add _) hI hl ⟨rfl, rfl, rfl⟩
theorem lp_rowh {p : Program} {l : Launch} {e : Env} {R : Room} {s : State} {m : MethodId} {args : Array Value} {below : List Frame} {meth : Method} {c : Code} {D : va_G} {dA : Nat → ClassId} {ad : Nat → Nat} {N : Nat} {A : Nat → Prop} {I : fl_TI} {J : fl_TJ} {post : Option Value → fl_TI → fl_TJ → Prop} (X : CallFix p m c cX1_rowHolds 3 s args fl_tb RX1) (hr : meth.sig.returnType = some .boolean) (hlk : meth.locks = false) {n eq a : Nat} (hN : 30 ≤ N) (hn : I 0 2 = nI n) (hn4 : n ≤ 4) (he : I 0 3 = nI eq) (he3 : eq ≤ 3) (ha4 : a < 4) (hR : 0 + 1 ≤ R.frames ∧ 8 + (6 + 11) + 40 * 0 ≤ R.locals) :
    ∀ (k i : Nat) (H : Heap) (locs : List Loc) (ls : Array Slot), i + k = eq → fl_I D dA ad N I J A s s.heap H locs → lv_has ls 3 [(2, .int (nI i)), (0, .ref (ad 0)), (1, .int (nI a))] → post (some (.int (x_rowh n eq I J a k i))) I J → W p l e R s m args below meth c H locs 0 0 (MQ below (fl_Q D dA ad N post A) args s 0 0 A) (F0 m 2 ls []) := by
  have hx := X.1
  have hb := X.2.1
  intro k
  induction k with
  | zero =>
    intro i H locs ls hk hI hl hF
    have hk : eq = i := by omega
    subst hk
    refine lv_iload_n hx hb dX1_rowHolds_2 rfl (lv_at hl 0 rfl) ?_
    refine lv_aload_n hx hb dX1_rowHolds_3 rfl (lv_at hl 1 rfl) ?_
    refine fl_get1 X hI dX1_rowHolds_4 (by omega) 3 (by decide) wf_X1_46 rfl ?_
    refine W.eq (g2 := F0 m 7 ls [.int (nI eq), .int (nI eq)]) (by rw [he]) ?_
    refine fn_icmp_ge X (tgt := 44) dX1_rowHolds_7 (by decide) (by omega) (by omega) (fun c1 => ?_) (fun c1 => absurd c1 (by omega))
    refine lv_iconst (v := nI 1) hx hb dX1_rowHolds_44 (by decide) ?_
    exact fl_zret X hr hlk hI dX1_rowHolds_45 (by decide) hF
  | succ k ih =>
    intro i H locs ls hk hI hl hF
    refine lv_iload_n hx hb dX1_rowHolds_2 rfl (lv_at hl 0 rfl) ?_
    refine lv_aload_n hx hb dX1_rowHolds_3 rfl (lv_at hl 1 rfl) ?_
    refine fl_get1 X hI dX1_rowHolds_4 (by omega) 3 (by decide) wf_X1_46 rfl ?_
    refine W.eq (g2 := F0 m 7 ls [.int (nI eq), .int (nI i)]) (by rw [he]) ?_
    refine fn_icmp_ge X (tgt := 44) dX1_rowHolds_7 (by decide) (by omega) (by omega) (fun c1 => absurd c1 (by omega)) (fun c1 => ?_)
    refine lv_aload_n hx hb dX1_rowHolds_10 rfl (lv_at hl 1 rfl) ?_
    refine lv_iload_n hx hb dX1_rowHolds_11 rfl (lv_at hl 0 rfl) ?_
    refine lv_aload_n hx hb dX1_rowHolds_12 rfl (lv_at hl 1 rfl) ?_
    refine fl_get1 X hI dX1_rowHolds_13 (by omega) 4 (by decide) wf_X1_23 rfl ?_
    refine lv_iload_n hx hb dX1_rowHolds_16 rfl (lv_at hl 2 rfl) ?_
    refine fl_callV (k := 6) (As := [.int (nI a)]) (rest := [.int (nI i), .ref (ad 0)]) X hI dX1_rowHolds_17 (m_X0_row D dA ad N I J hN lat6 (i := a) (by omega)) (by omega) (fl_c_4 rfl) rfl rfl wc_yX0_row wm_X1_191 wi_yX0_row wl_yX0_row wn_X0 hd_yX0_row rfl ⟨by first | decide | omega, by first | decide | omega⟩ hl.1 (Nat.le_of_ble_eq_true rfl) (fun v I2 J2 H locs hp hI => ?_)
    obtain ⟨hv, hI2, hJ2⟩ := hp
    subst hv
    rw [hI2, hJ2] at hI
    refine W.eq (g2 := F0 m 20 ls [.ref (ad (6 + 2 + a)), .int (nI i), .ref (ad 0)]) rfl ?_
    refine fl_callV (k := 0) (As := [.int (nI i), .ref (ad (6 + 2 + a))]) (rest := []) X hI dX1_rowHolds_20 (m_X1_sumOf D dA ad N I J hN hn hn4 he he3 (a := i) (q := 6 + 2 + a) (by omega) (by omega) (lat_k2 lat6 (by omega)) (lat_n2 lat6 (by omega))) (by omega) fl_c_5 rfl rfl wc_yX1_sumOfUnknowns wm_X1_187 wi_yX1_sumOfUnknowns wl_yX1_sumOfUnknowns wn_X1 hd_yX1_sumOfUnknowns rfl ⟨by first | decide | omega, by first | decide | omega⟩ hl.1 (Nat.le_of_ble_eq_true rfl) (fun v I2 J2 H locs hp hI => ?_)
    obtain ⟨hv, hI2, hJ2⟩ := hp
    subst hv
    rw [hI2, hJ2] at hI
    refine W.eq (g2 := F0 m 23 ls [.long (x_sum n eq I J i (6 + 2 + a))]) rfl ?_
    refine lv_aload_n hx hb dX1_rowHolds_23 rfl (lv_at hl 1 rfl) ?_
    refine fl_get1 X hI dX1_rowHolds_24 (by omega) 4 (by decide) wf_X1_23 rfl ?_
    refine lv_iload_n hx hb dX1_rowHolds_27 rfl (lv_at hl 2 rfl) ?_
    refine lv_iload_n hx hb dX1_rowHolds_28 rfl (lv_at hl 0 rfl) ?_
    refine fl_callV (k := 6) (As := [.int (nI a), .int (nI i)]) (rest := [.long (x_sum n eq I J i (6 + 2 + a))]) X hI dX1_rowHolds_29 (m_X0_at D dA ad N I J hN lat6 (i := a) (j := i) (by omega) (by omega)) (by omega) (fl_c_4 rfl) rfl rfl wc_yX0_at wm_X1_79 wi_yX0_at wl_yX0_at wn_X0 hd_yX0_at rfl ⟨by first | decide | omega, by first | decide | omega⟩ hl.1 (Nat.le_of_ble_eq_true rfl) (fun v I2 J2 H locs hp hI => ?_)
    obtain ⟨hv, hI2, hJ2⟩ := hp
    subst hv
    rw [hI2, hJ2] at hI
    refine W.eq (g2 := F0 m 32 ls [.long (J (6 + 2 + a) i), .long (x_sum n eq I J i (6 + 2 + a))]) rfl ?_
    refine fl_lc_eq (tgt := 38) hx hb dX1_rowHolds_32 dX1_rowHolds_33 (by decide) (fun c2 => ?_) (fun c2 => ?_)
    · refine fn_iinc (a := i) (lv' := [(2, .int (nI (i + 1))), (0, .ref (ad 0)), (1, .int (nI a))]) X dX1_rowHolds_38 hl (k := 0) rfl (by decide) rfl (fun ls hl => ?_)
      refine lv_goto (tgt := 2) hx hb dX1_rowHolds_41 (by decide) ?_
      exact ih (i + 1) _ _ _ (by omega) hI (lv_sub hl [0, 1, 2] rfl) (by have h9 := hF; simp only [x_rowh] at h9; rw [if_pos c2] at h9; exact h9)
    · refine lv_iconst (v := nI 0) hx hb dX1_rowHolds_36 (by decide) ?_
      exact fl_zret X hr hlk hI dX1_rowHolds_37 (by decide) (by have h9 := hF; simp only [x_rowh] at h9; rw [if_neg c2] at h9; exact h9)
theorem m_X1_rowHolds (D : va_G) (dA : Nat → ClassId) (ad : Nat → Nat) (N : Nat) (I : fl_TI) (J : fl_TJ) {n eq a : Nat} (hN : 30 ≤ N) (hn : I 0 2 = nI n) (hn4 : n ≤ 4) (he : I 0 3 = nI eq) (he3 : eq ≤ 3) (ha4 : a < 4) : FM yX1_rowHolds cX1_rowHolds 3 (some .boolean) 1 D dA ad N [.ref (ad 0), .int (nI a)] I J (fun v I' J' => v = some (.int (x_rowh n eq I J a eq 0)) ∧ I' = I ∧ J' = J) := by
  refine FM.ofW RX1 rfl (by decide +kernel) (Nat.le_of_ble_eq_true rfl) ?_
  intro p l e s m args below meth c ls X hr hlk hI hl
  have hx := X.1
  have hb := X.2.1
  have hl : lv_has ls 3 [(0, .ref (ad 0)), (1, .int (nI a))] := hl
  refine lv_iconst (v := nI 0) hx hb dX1_rowHolds_0 (by decide) ?_
  refine lv_istore_n (lv' := [(2, .int (nI 0)), (0, .ref (ad 0)), (1, .int (nI a))]) hx hb dX1_rowHolds_1 rfl hl (by decide) rfl (fun ls hl => ?_)
  exact lp_rowh X hr hlk hN hn hn4 he he3 ha4 ⟨by decide, by decide⟩ eq 0 _ _ _ (Nat.zero_add _) hI (lv_sub hl [0, 1, 2] rfl) ⟨rfl, rfl, rfl⟩
