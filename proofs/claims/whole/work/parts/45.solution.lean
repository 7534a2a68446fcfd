/-! the model: common, solution, spread -/
theorem i64_rem {x y : Int64} (hy : y.toInt ≠ 0) : (x - x / y * y).toInt = x.toInt.tmod y.toInt := by
  have h1 := Int64.toInt_lt x
  have h2 := Int64.le_toInt x
  have h3 := Int64.toInt_lt y
  have h4 := Int64.le_toInt y
  rw [Int64.toInt_sub, Int64.toInt_mul, Int64.toInt_div]
  rw [Int.bmod_mul_bmod, Int.sub_bmod_bmod]
  have e : x.toInt - x.toInt.tdiv y.toInt * y.toInt = x.toInt.tmod y.toInt := by
    have := Int.mul_tdiv_add_tmod x.toInt y.toInt
    rw [Int.mul_comm] at this
    omega
  rw [e]
  have hb : (x.toInt.tmod y.toInt).natAbs < 2 ^ 63 := by
    rw [Int.natAbs_tmod]
    have h5 : x.toInt.natAbs % y.toInt.natAbs < y.toInt.natAbs := Nat.mod_lt _ (by omega)
    have h6 : x.toInt.natAbs % y.toInt.natAbs ≤ x.toInt.natAbs := Nat.mod_le _ _
    omega
  rw [Int.bmod_eq_of_le] <;> omega
theorem i64_rem_lt {x y : Int64} (hy : 0 < y) : (x - x / y * y).toInt < y.toInt := by
  rw [Int64.lt_iff_toInt_lt] at hy
  have hy : 0 < y.toInt := hy
  rw [i64_rem (by omega)]
  exact Int.tmod_lt_of_pos _ hy
def gm64 : Nat → Int64 → Int64 → Int64
  | 0, a, _ => a
  | k + 1, a, b => if 0 < b then gm64 k b (a - a / b * b) else a
def cm64 (a b : Int64) : Int64 := gm64 ((sz64 b).toInt.toNat + 1) (sz64 a) (sz64 b)
theorem lp_gcm {p : Program} {l : Launch} {e : Env} {R : Room} {s : State} {m : MethodId} {args : Array Value} {below : List Frame} {meth : Method} {c : Code} {D : va_G} {dA : Nat → ClassId} {ad : Nat → Nat} {N : Nat} {A : Nat → Prop} {I : fl_TI} {J : fl_TJ} {post : Option Value → fl_TI → fl_TJ → Prop} {a0 b0 : Int64} (X : CallFix p m c cX2_common 10 s args fl_tb RX2) (hr : meth.sig.returnType = some .long) (hlk : meth.locks = false) :
    ∀ (k : Nat) (a b : Int64) (H : Heap) (locs : List Loc) (ls : Array Slot), b.toInt < k → fl_I D dA ad N I J A s s.heap H locs → lv_has ls 10 [(6, .long b), (4, .long a), (0, .long a0), (2, .long b0)] → post (some (.long (gm64 k a b))) I J → W p l e R s m args below meth c H locs 0 0 (MQ below (fl_Q D dA ad N post A) args s 0 0 A) (F0 m 12 ls []) := by
  have hx := X.1
  have hb := X.2.1
  intro k
  induction k with
  | zero =>
    intro a b H locs ls hk hI hl hF
    refine lv_lload hx hb dX2_common_12 (lv_at hl 0 rfl) ?_
    refine lv_lconst (v := 0) hx hb dX2_common_14 rfl ?_
    refine fl_lc_le (tgt := 37) hx hb dX2_common_15 dX2_common_16 (by decide) (fun c1 => ?_) (fun c1 => absurd c1 (by rw [Int64.lt_iff_toInt_lt]; show ¬ (0 : Int) < _; omega))
    refine lv_lload hx hb dX2_common_37 (lv_at hl 1 rfl) ?_
    exact fl_lret X hr hlk hI dX2_common_39 hF
  | succ k ih =>
    intro a b H locs ls hk hI hl hF
    refine lv_lload hx hb dX2_common_12 (lv_at hl 0 rfl) ?_
    refine lv_lconst (v := 0) hx hb dX2_common_14 rfl ?_
    refine fl_lc_le (tgt := 37) hx hb dX2_common_15 dX2_common_16 (by decide) (fun c1 => ?_) (fun c1 => ?_)
    · refine lv_lload hx hb dX2_common_37 (lv_at hl 1 rfl) ?_
      exact fl_lret X hr hlk hI dX2_common_39 (by have h9 := hF; simp only [gm64] at h9; rw [if_neg c1] at h9; exact h9)
    · refine lv_lload hx hb dX2_common_19 (lv_at hl 1 rfl) ?_
      refine lv_lload hx hb dX2_common_21 (lv_at hl 0 rfl) ?_
      refine lv_lrem hx hb dX2_common_23 (fun q => by rw [q] at c1; exact absurd c1 (by decide)) ?_
      refine lv_lstore (lv' := [(8, .long (a - a / b * b)), (6, .long b), (4, .long a), (0, .long a0), (2, .long b0)]) hx hb dX2_common_24 hl (by decide) rfl (fun ls hl => ?_)
      refine lv_lload hx hb dX2_common_26 (lv_at hl 1 rfl) ?_
      refine lv_lstore (lv' := [(4, .long b), (8, .long (a - a / b * b)), (6, .long b), (0, .long a0), (2, .long b0)]) hx hb dX2_common_28 hl (by decide) rfl (fun ls hl => ?_)
      refine lv_lload hx hb dX2_common_30 (lv_at hl 1 rfl) ?_
      refine lv_lstore (lv' := [(6, .long (a - a / b * b)), (4, .long b), (8, .long (a - a / b * b)), (0, .long a0), (2, .long b0)]) hx hb dX2_common_32 hl (by decide) rfl (fun ls hl => ?_)
      refine lv_goto (tgt := 12) hx hb dX2_common_34 (by decide) ?_
      exact ih _ _ _ _ _ (by have := i64_rem_lt (x := a) c1; omega) hI (lv_sub hl [0, 1, 3, 4] rfl) (by have h9 := hF; simp only [gm64] at h9; rw [if_pos c1] at h9; exact h9)
theorem m_X2_common (D : va_G) (dA : Nat → ClassId) (ad : Nat → Nat) (N : Nat) (I : fl_TI) (J : fl_TJ) (a0 b0 : Int64) : FM yX2_common cX2_common 10 (some .long) 1 D dA ad N [.long a0, .long b0] I J (fun v I' J' => v = some (.long (cm64 a0 b0)) ∧ I' = I ∧ J' = J) := by
  refine FM.ofW RX2 rfl (by decide +kernel) (Nat.le_of_ble_eq_true rfl) ?_
  intro p l e s m args below meth c ls X hr hlk hI hl
  have hx := X.1
  have hb := X.2.1
  have hl : lv_has ls 10 [(0, .long a0), (2, .long b0)] := hl
  refine lv_lload_n hx hb dX2_common_0 rfl (lv_at hl 0 rfl) ?_
  refine fl_callS (As := [.long a0]) (rest := []) X hI dX2_common_1 (m_X2_size D dA ad N I J a0) wc_yX2_size wm_X2_44 ws_yX2_size wn_X2 hd_yX2_size rfl ⟨by first | decide | omega, by first | decide | omega⟩ hl.1 (Nat.le_of_ble_eq_true rfl) (fun v I2 J2 H locs hp hI => ?_)
  obtain ⟨hv, hI2, hJ2⟩ := hp
  subst hv
  rw [hI2, hJ2] at hI
  refine W.eq (g2 := F0 m 4 ls [.long (sz64 a0)]) rfl ?_
  refine lv_lstore (lv' := [(4, .long (sz64 a0)), (0, .long a0), (2, .long b0)]) hx hb dX2_common_4 hl (by decide) rfl (fun ls hl => ?_)
  refine lv_lload_n hx hb dX2_common_6 rfl (lv_at hl 2 rfl) ?_
  refine fl_callS (As := [.long b0]) (rest := []) X hI dX2_common_7 (m_X2_size D dA ad N I J b0) wc_yX2_size wm_X2_44 ws_yX2_size wn_X2 hd_yX2_size rfl ⟨by first | decide | omega, by first | decide | omega⟩ hl.1 (Nat.le_of_ble_eq_true rfl) (fun v I2 J2 H locs hp hI => ?_)
  obtain ⟨hv, hI2, hJ2⟩ := hp
  subst hv
  rw [hI2, hJ2] at hI
  refine W.eq (g2 := F0 m 10 ls [.long (sz64 b0)]) rfl ?_
  refine lv_lstore (lv' := [(6, .long (sz64 b0)), (4, .long (sz64 a0)), (0, .long a0), (2, .long b0)]) hx hb dX2_common_10 hl (by decide) rfl (fun ls hl => ?_)
  exact lp_gcm X hr hlk ((sz64 b0).toInt.toNat + 1) _ _ _ _ _ (by omega) hI (lv_sub hl [0, 1, 2, 3] rfl) ⟨rfl, rfl, rfl⟩
def k_sl1 (n eq r : Nat) (t : Int64) (J : fl_TJ) : fl_TJ := fl_it (fun j J => fl_up J 36 j (J 36 j - t * J 33 (8 * r + eq + j))) n 0 J
def k_slr (n eq : Nat) (I : fl_TI) (r : Nat) (J : fl_TJ) : fl_TJ := k_sl1 n eq r (dn64 (J 36 (ldI I 34 r - eq)) (J 33 (8 * r + ldI I 34 r))) J
def k_sol (n eq tp : Nat) (I : fl_TI) (J : fl_TJ) : fl_TJ := fl_it (k_slr n eq I) (tp - k_bef I eq tp 0) (k_bef I eq tp 0) J
theorem k_sl1_33 {n e r : Nat} {t : Int64} {J : fl_TJ} {y : Nat} : k_sl1 n e r t J 33 y = J 33 y := by
  unfold k_sl1
  exact fl_it_keep (fun J' : fl_TJ => J' 33 y = J 33 y) _ n 0 J rfl (fun j x _ _ h => by show fl_up x 36 j _ 33 y = _; rw [fl_up_k (by omega)]; exact h)
theorem lp_sl1 {p : Program} {l : Launch} {e : Env} {R : Room} {s : State} {m : MethodId} {args : Array Value} {below : List Frame} {meth : Method} {c : Code} {Q : State → Prop} {D : va_G} {dA : Nat → ClassId} {ad : Nat → Nat} {N : Nat} {A : Nat → Prop} {H0 : Heap} {I : fl_TI} {J9 : fl_TJ} (X : CallFix p m c cX2_solution 7 s args fl_tb RX2) {n eq r aa j : Nat} {t : Int64} (hN : 37 ≤ N) (hn : I 30 0 = nI n) (hn4 : n ≤ 4) (he : I 30 1 = nI eq) (he3 : eq ≤ 3) (hr8 : r < 8)
    (kx : ∀ (H : Heap) (locs : List Loc) (ls : Array Slot), fl_I D dA ad N I J9 A s H0 H locs → lv_has ls 7 [(6, .int (nI n)), (4, .long t), (3, .int (nI aa)), (2, .int (nI r)), (0, .ref (ad 30)), (1, .int (nI j))] → W p l e R s m args below meth c H locs 0 0 Q (F0 m 131 ls [])) :
    ∀ (k i : Nat) (J : fl_TJ) (H : Heap) (locs : List Loc) (ls : Array Slot), i + k = n → fl_I D dA ad N I J A s H0 H locs → lv_has ls 7 [(6, .int (nI i)), (4, .long t), (3, .int (nI aa)), (2, .int (nI r)), (0, .ref (ad 30)), (1, .int (nI j))] → fl_it (fun j J => fl_up J 36 j (J 36 j - t * J 33 (8 * r + eq + j))) k i J = J9 → W p l e R s m args below meth c H locs 0 0 Q (F0 m 86 ls []) := by
  have hx := X.1
  have hb := X.2.1
  intro k
  induction k with
  | zero =>
    intro i J H locs ls hk hI hl hF
    have hF : J = J9 := hF
    subst hF
    have hk : n = i := by omega
    subst hk
    refine lv_iload hx hb dX2_solution_86 (lv_at hl 0 rfl) ?_
    refine lv_aload_n hx hb dX2_solution_88 rfl (lv_at hl 4 rfl) ?_
    refine fl_get2 X hI dX2_solution_89 (by omega) 0 (by decide) wf_X2_7 rfl ?_
    refine W.eq (g2 := F0 m 92 ls [.int (nI n), .int (nI n)]) (by rw [hn]) ?_
    refine fn_icmp_ge X (tgt := 131) dX2_solution_92 (by decide) (by omega) (by omega) (fun c1 => ?_) (fun c1 => absurd c1 (by omega))
    exact kx _ _ _ hI (lv_sub hl [0, 1, 2, 3, 4, 5] rfl)
  | succ k ih =>
    intro i J H locs ls hk hI hl hF
    refine lv_iload hx hb dX2_solution_86 (lv_at hl 0 rfl) ?_
    refine lv_aload_n hx hb dX2_solution_88 rfl (lv_at hl 4 rfl) ?_
    refine fl_get2 X hI dX2_solution_89 (by omega) 0 (by decide) wf_X2_7 rfl ?_
    refine W.eq (g2 := F0 m 92 ls [.int (nI n), .int (nI i)]) (by rw [hn]) ?_
    refine fn_icmp_ge X (tgt := 131) dX2_solution_92 (by decide) (by omega) (by omega) (fun c1 => absurd c1 (by omega)) (fun c1 => ?_)
    refine lv_aload_n hx hb dX2_solution_95 rfl (lv_at hl 4 rfl) ?_
    refine fl_get2 X hI dX2_solution_96 (by omega) 8 (by decide) wf_X2_30 rfl ?_
    refine lv_iload hx hb dX2_solution_99 (lv_at hl 0 rfl) ?_
    refine lv_dup2_11 hx hb dX2_solution_101 rfl rfl ?_
    refine fn_lald (k := 36) X hI dX2_solution_102 (by omega) rfl (show i < 4 by omega) ?_
    refine lv_lload hx hb dX2_solution_103 (lv_at hl 1 rfl) ?_
    refine lv_aload_n hx hb dX2_solution_105 rfl (lv_at hl 4 rfl) ?_
    refine fl_get2 X hI dX2_solution_106 (by omega) 4 (by decide) wf_X2_20 rfl ?_
    refine lv_bipush (v := nI 8) hx hb dX2_solution_109 (by decide) ?_
    refine lv_iload_n hx hb dX2_solution_111 rfl (lv_at hl 3 rfl) ?_
    refine fn_imul X dX2_solution_112 ?_
    refine lv_aload_n hx hb dX2_solution_113 rfl (lv_at hl 4 rfl) ?_
    refine fl_get2 X hI dX2_solution_114 (by omega) 1 (by decide) wf_X2_33 rfl ?_
    refine W.eq (g2 := F0 m 117 ls [.int (nI eq), .int (nI (8 * r)), .ref (ad 33), .long t, .long (J 36 i), .int (nI i), .ref (ad 36)]) (by rw [he]) ?_
    refine fn_iadd X dX2_solution_117 ?_
    refine lv_iload hx hb dX2_solution_118 (lv_at hl 0 rfl) ?_
    refine fn_iadd X dX2_solution_120 ?_
    refine fn_lald (k := 33) X hI dX2_solution_121 (by omega) rfl (show ((8 * r) + eq) + i < 64 by omega) ?_
    refine lv_lmul hx hb dX2_solution_122 ?_
    refine lv_lsub hx hb dX2_solution_123 ?_
    refine fn_last (k := 36) X hI dX2_solution_124 (by omega) rfl (show i < 4 by omega) (fun H locs hI => ?_)
    refine fn_iinc (a := i) (lv' := [(6, .int (nI (i + 1))), (4, .long t), (3, .int (nI aa)), (2, .int (nI r)), (0, .ref (ad 30)), (1, .int (nI j))]) X dX2_solution_125 hl (k := 0) rfl (by decide) rfl (fun ls hl => ?_)
    refine lv_goto (tgt := 86) hx hb dX2_solution_128 (by decide) ?_
    exact ih (i + 1) _ _ _ _ (by omega) hI (lv_sub hl [0, 1, 2, 3, 4, 5] rfl) hF
theorem lp_sol {p : Program} {l : Launch} {e : Env} {R : Room} {s : State} {m : MethodId} {args : Array Value} {below : List Frame} {meth : Method} {c : Code} {Q : State → Prop} {D : va_G} {dA : Nat → ClassId} {ad : Nat → Nat} {N : Nat} {A : Nat → Prop} {H0 : Heap} {I : fl_TI} {J9 : fl_TJ} (X : CallFix p m c cX2_solution 7 s args fl_tb RX2) {n eq tp bf j : Nat} (hN : 37 ≤ N) (hn : I 30 0 = nI n) (hn4 : n ≤ 4) (he : I 30 1 = nI eq) (he3 : eq ≤ 3) (hrk : I 30 5 = nI tp) (htp : tp ≤ 4) (hld : ∀ i, bf ≤ i → i < tp → I 34 i = nI (ldI I 34 i) ∧ eq ≤ ldI I 34 i ∧ ldI I 34 i < eq + n) (hR : 0 + 1 ≤ R.frames ∧ 8 + (6 + 11) + 40 * 0 ≤ R.locals)
    (kx : ∀ (H : Heap) (locs : List Loc) (ls : Array Slot), fl_I D dA ad N I J9 A s H0 H locs → lv_has ls 7 [(2, .int (nI tp)), (0, .ref (ad 30)), (1, .int (nI j))] → W p l e R s m args below meth c H locs 0 0 Q (F0 m 137 ls [])) :
    ∀ (k i : Nat) (J : fl_TJ) (H : Heap) (locs : List Loc) (ls : Array Slot), i + k = tp → fl_I D dA ad N I J A s H0 H locs → lv_has ls 7 [(2, .int (nI i)), (0, .ref (ad 30)), (1, .int (nI j))] → (bf ≤ i ∧ ∀ r, bf ≤ r → r < tp → J 33 (8 * r + ldI I 34 r) ≠ 0) → fl_it (k_slr n eq I) k i J = J9 → W p l e R s m args below meth c H locs 0 0 Q (F0 m 36 ls []) := by
  have hx := X.1
  have hb := X.2.1
  intro k
  induction k with
  | zero =>
    intro i J H locs ls hk hI hl hinv hF
    have hF : J = J9 := hF
    subst hF
    have hk : tp = i := by omega
    subst hk
    refine lv_iload_n hx hb dX2_solution_36 rfl (lv_at hl 0 rfl) ?_
    refine lv_aload_n hx hb dX2_solution_37 rfl (lv_at hl 1 rfl) ?_
    refine fl_get2 X hI dX2_solution_38 (by omega) 5 (by decide) wf_X2_66 rfl ?_
    refine W.eq (g2 := F0 m 41 ls [.int (nI tp), .int (nI tp)]) (by rw [hrk]) ?_
    refine fn_icmp_ge X (tgt := 137) dX2_solution_41 (by decide) (by omega) (by omega) (fun c1 => ?_) (fun c1 => absurd c1 (by omega))
    exact kx _ _ _ hI (lv_sub hl [0, 1, 2] rfl)
  | succ k ih =>
    intro i J H locs ls hk hI hl hinv hF
    have h61 := hinv.1
    have h62 := (hld i (by omega) (by omega)).2
    have hpi := hinv.2 i (by omega) (by omega)
    refine lv_iload_n hx hb dX2_solution_36 rfl (lv_at hl 0 rfl) ?_
    refine lv_aload_n hx hb dX2_solution_37 rfl (lv_at hl 1 rfl) ?_
    refine fl_get2 X hI dX2_solution_38 (by omega) 5 (by decide) wf_X2_66 rfl ?_
    refine W.eq (g2 := F0 m 41 ls [.int (nI tp), .int (nI i)]) (by rw [hrk]) ?_
    refine fn_icmp_ge X (tgt := 137) dX2_solution_41 (by decide) (by omega) (by omega) (fun c1 => absurd c1 (by omega)) (fun c1 => ?_)
    refine lv_aload_n hx hb dX2_solution_44 rfl (lv_at hl 1 rfl) ?_
    refine fl_get2 X hI dX2_solution_45 (by omega) 6 (by decide) wf_X2_24 rfl ?_
    refine lv_iload_n hx hb dX2_solution_48 rfl (lv_at hl 0 rfl) ?_
    refine fn_iald (k := 34) X hI dX2_solution_49 (by omega) rfl (show i < 8 by omega) ?_
    refine W.eq (g2 := F0 m 50 ls [.int (nI (ldI I 34 i))]) (by rw [(hld _ (by omega) (by omega)).1]) ?_
    refine lv_aload_n hx hb dX2_solution_50 rfl (lv_at hl 1 rfl) ?_
    refine fl_get2 X hI dX2_solution_51 (by omega) 1 (by decide) wf_X2_33 rfl ?_
    refine W.eq (g2 := F0 m 54 ls [.int (nI eq), .int (nI (ldI I 34 i))]) (by rw [he]) ?_
    refine fn_isub X dX2_solution_54 (by omega) ?_
    refine lv_istore_n (lv' := [(3, .int (nI ((ldI I 34 i) - eq))), (2, .int (nI i)), (0, .ref (ad 30)), (1, .int (nI j))]) hx hb dX2_solution_55 rfl hl (by decide) rfl (fun ls hl => ?_)
    refine lv_aload_n hx hb dX2_solution_56 rfl (lv_at hl 2 rfl) ?_
    refine fl_get2 X hI dX2_solution_57 (by omega) 8 (by decide) wf_X2_30 rfl ?_
    refine lv_iload_n hx hb dX2_solution_60 rfl (lv_at hl 0 rfl) ?_
    refine fn_lald (k := 36) X hI dX2_solution_61 (by omega) rfl (show (ldI I 34 i) - eq < 4 by omega) ?_
    refine lv_aload_n hx hb dX2_solution_62 rfl (lv_at hl 2 rfl) ?_
    refine fl_get2 X hI dX2_solution_63 (by omega) 4 (by decide) wf_X2_20 rfl ?_
    refine lv_bipush (v := nI 8) hx hb dX2_solution_66 (by decide) ?_
    refine lv_iload_n hx hb dX2_solution_68 rfl (lv_at hl 1 rfl) ?_
    refine fn_imul X dX2_solution_69 ?_
    refine lv_aload_n hx hb dX2_solution_70 rfl (lv_at hl 2 rfl) ?_
    refine fl_get2 X hI dX2_solution_71 (by omega) 6 (by decide) wf_X2_24 rfl ?_
    refine lv_iload_n hx hb dX2_solution_74 rfl (lv_at hl 1 rfl) ?_
    refine fn_iald (k := 34) X hI dX2_solution_75 (by omega) rfl (show i < 8 by omega) ?_
    refine W.eq (g2 := F0 m 76 ls [.int (nI (ldI I 34 i)), .int (nI (8 * i)), .ref (ad 33), .long (J 36 ((ldI I 34 i) - eq))]) (by rw [(hld _ (by omega) (by omega)).1]) ?_
    refine fn_iadd X dX2_solution_76 ?_
    refine fn_lald (k := 33) X hI dX2_solution_77 (by omega) rfl (show (8 * i) + (ldI I 34 i) < 64 by omega) ?_
    refine fl_callS (As := [.long (J 36 ((ldI I 34 i) - eq)), .long (J 33 ((8 * i) + (ldI I 34 i)))]) (rest := []) X hI dX2_solution_78 (m_X2_down D dA ad N I J (J 36 ((ldI I 34 i) - eq)) (J 33 ((8 * i) + (ldI I 34 i))) hpi) wc_yX2_down wm_X2_62 ws_yX2_down wn_X2 hd_yX2_down rfl ⟨by first | decide | omega, by first | decide | omega⟩ hl.1 (Nat.le_of_ble_eq_true rfl) (fun v I2 J2 H locs hp hI => ?_)
    obtain ⟨hv, hI2, hJ2⟩ := hp
    subst hv
    rw [hI2, hJ2] at hI
    refine W.eq (g2 := F0 m 81 ls [.long (dn64 (J 36 ((ldI I 34 i) - eq)) (J 33 ((8 * i) + (ldI I 34 i))))]) rfl ?_
    refine lv_lstore (lv' := [(4, .long (dn64 (J 36 ((ldI I 34 i) - eq)) (J 33 ((8 * i) + (ldI I 34 i))))), (3, .int (nI ((ldI I 34 i) - eq))), (2, .int (nI i)), (0, .ref (ad 30)), (1, .int (nI j))]) hx hb dX2_solution_81 hl (by decide) rfl (fun ls hl => ?_)
    refine lv_iconst (v := nI 0) hx hb dX2_solution_83 (by decide) ?_
    refine lv_istore (lv' := [(6, .int (nI 0)), (4, .long (dn64 (J 36 ((ldI I 34 i) - eq)) (J 33 ((8 * i) + (ldI I 34 i))))), (3, .int (nI ((ldI I 34 i) - eq))), (2, .int (nI i)), (0, .ref (ad 30)), (1, .int (nI j))]) hx hb dX2_solution_84 hl (by decide) rfl (fun ls hl => ?_)
    refine lp_sl1 X hN hn hn4 he he3 (by omega) (J9 := k_slr n eq I i J) (fun H locs ls hI hl => ?_) n 0 _ _ _ _ (Nat.zero_add _) hI (lv_sub hl [0, 1, 2, 3, 4, 5] rfl) rfl
    refine fn_iinc (a := i) (lv' := [(2, .int (nI (i + 1))), (6, .int (nI n)), (4, .long (dn64 (J 36 ((ldI I 34 i) - eq)) (J 33 ((8 * i) + (ldI I 34 i))))), (3, .int (nI ((ldI I 34 i) - eq))), (0, .ref (ad 30)), (1, .int (nI j))]) X dX2_solution_131 hl (k := 3) rfl (by decide) rfl (fun ls hl => ?_)
    refine lv_goto (tgt := 36) hx hb dX2_solution_134 (by decide) ?_
    exact ih (i + 1) _ _ _ _ (by omega) hI (lv_sub hl [0, 4, 5] rfl) ⟨by omega, fun r h1 h2 => by unfold k_slr; rw [k_sl1_33]; exact hinv.2 r h1 h2⟩ hF
theorem m_X2_solution_out (D : va_G) (dA : Nat → ClassId) (ad : Nat → Nat) (N : Nat) (I : fl_TI) (J : fl_TJ) (hN : 37 ≤ N) {n : Nat} (hn : I 30 0 = nI n) {x : Int32} (hbad : x < 0 ∨ nI n ≤ x) : FM yX2_solution cX2_solution 7 (some .long) 5 D dA ad N [.ref (ad 30), .int x] I J (fun v I' J' => v = some (.long (-1000000000000000)) ∧ I' = I ∧ J' = J) := by
  refine FM.ofW RX2 rfl (by decide +kernel) (Nat.le_of_ble_eq_true rfl) ?_
  intro p l e s m args below meth c ls X hr hlk hI hl
  have hx := X.1
  have hb := X.2.1
  have hl : lv_has ls 7 [(0, .ref (ad 30)), (1, .int x)] := hl
  refine lv_iload_n hx hb dX2_solution_0 rfl (lv_at hl 1 rfl) ?_
  refine lv_if_lt (tgt := 23) hx hb dX2_solution_1 (by decide) (fun c1 => ?_) (fun c1 => ?_)
  · refine W.ldc2 (v := (-1000000000000000)) hx hb X.2.2.2.1 (X.2.2.2.2 _ wk_X2_90) rfl dX2_solution_23 ?_
    refine W.eq (g2 := F0 m 26 ls [.long ((-1000000000000000))]) rfl ?_
    exact fl_lret X hr hlk hI dX2_solution_26 ⟨rfl, rfl, rfl⟩
  · refine lv_iload_n hx hb dX2_solution_4 rfl (lv_at hl 1 rfl) ?_
    refine lv_aload_n hx hb dX2_solution_5 rfl (lv_at hl 0 rfl) ?_
    refine fl_get2 X hI dX2_solution_6 (by omega) 0 (by decide) wf_X2_7 rfl ?_
    refine W.eq (g2 := F0 m 9 ls [.int (nI n), .int x]) (by rw [hn]) ?_
    refine lv_icmp_ge (tgt := 23) hx hb dX2_solution_9 (by decide) (fun c2 => ?_) (fun c2 => ?_)
    · refine W.ldc2 (v := (-1000000000000000)) hx hb X.2.2.2.1 (X.2.2.2.2 _ wk_X2_90) rfl dX2_solution_23 ?_
      refine W.eq (g2 := F0 m 26 ls [.long ((-1000000000000000))]) rfl ?_
      exact fl_lret X hr hlk hI dX2_solution_26 ⟨rfl, rfl, rfl⟩
    · exact absurd hbad (fun q => q.elim c1 c2)
theorem m_X2_solution_none (D : va_G) (dA : Nat → ClassId) (ad : Nat → Nat) (N : Nat) (I : fl_TI) (J : fl_TJ) {fu n eq tp : Nat} {Ir : fl_TI} {Jr : fl_TJ} (hN : 37 ≤ N) (hn : I 30 0 = nI n) (hn4 : n ≤ 4) (he : I 30 1 = nI eq) (he3 : eq ≤ 3) (hk : k_R fu n eq I J Ir Jr tp) {j : Nat} (hj : j < n) (h0 : (k_goes n eq tp Ir Jr).1 = 0) : FM yX2_solution cX2_solution 7 (some .long) 5 D dA ad N [.ref (ad 30), .int (nI j)] I J (fun v I' J' => v = some (.long (-1000000000000000)) ∧ I' = Ir ∧ J' = (k_goes n eq tp Ir Jr).2) := by
  refine FM.ofW RX2 rfl (by decide +kernel) (Nat.le_of_ble_eq_true rfl) ?_
  intro p l e s m args below meth c ls X hr hlk hI hl
  have hx := X.1
  have hb := X.2.1
  have hl : lv_has ls 7 [(0, .ref (ad 30)), (1, .int (nI j))] := hl
  obtain ⟨k1, k2, k3, k4⟩ := k_R_facts (by omega) hk
  have k5 := hk.choose_spec.2.2
  have kn : Ir 30 0 = nI n := by rw [k4 30 0 (by omega) (by omega)]; exact hn
  have ke : Ir 30 1 = nI eq := by rw [k4 30 1 (by omega) (by omega)]; exact he
  have kl : ∀ i, i < tp → Ir 34 i = nI (ldI Ir 34 i) ∧ ldI Ir 34 i < 8 := fun i hi => ⟨(k3 i hi).1, by have := (k3 i hi).2; omega⟩
  obtain ⟨b1, b2, b3⟩ := k_bef_le Ir eq tp 0
  refine lv_iload_n hx hb dX2_solution_0 rfl (lv_at hl 1 rfl) ?_
  refine lv_if_lt (tgt := 23) hx hb dX2_solution_1 (by decide) (fun c1 => absurd c1 (nI_pos (by omega))) (fun c1 => ?_)
  refine lv_iload_n hx hb dX2_solution_4 rfl (lv_at hl 1 rfl) ?_
  refine lv_aload_n hx hb dX2_solution_5 rfl (lv_at hl 0 rfl) ?_
  refine fl_get2 X hI dX2_solution_6 (by omega) 0 (by decide) wf_X2_7 rfl ?_
  refine W.eq (g2 := F0 m 9 ls [.int (nI n), .int (nI j)]) (by rw [hn]) ?_
  refine fn_icmp_ge X (tgt := 23) dX2_solution_9 (by decide) (by omega) (by omega) (fun c2 => absurd c2 (by omega)) (fun c2 => ?_)
  refine lv_aload_n hx hb dX2_solution_12 rfl (lv_at hl 0 rfl) ?_
  refine lv_aload_n hx hb dX2_solution_13 rfl (lv_at hl 0 rfl) ?_
  refine fl_get2 X hI dX2_solution_14 (by omega) 1 (by decide) wf_X2_33 rfl ?_
  refine W.eq (g2 := F0 m 17 ls [.int (nI eq), .ref (ad 30)]) (by rw [he]) ?_
  refine fl_callV (k := 30) (As := [.int (nI eq)]) (rest := []) X hI dX2_solution_17 (m_X2_goes D dA ad N I J hN hn hn4 he3 hk) (by omega) fl_c_6 rfl rfl wc_yX2_goes wm_X2_83 wi_yX2_goes wl_yX2_goes wn_X2 hd_yX2_goes rfl ⟨by first | decide | omega, by first | decide | omega⟩ hl.1 (Nat.le_of_ble_eq_true rfl) (fun v I2 J2 H locs hp hI => ?_)
  obtain ⟨hv, hI2, hJ2⟩ := hp
  subst hv
  rw [hI2, hJ2] at hI
  refine W.eq (g2 := F0 m 20 ls [.int (nI ((k_goes n eq tp Ir Jr).1))]) rfl ?_
  refine fn_if_ne X (tgt := 27) dX2_solution_20 (by decide) (by omega) (fun c3 => absurd c3 (by omega)) (fun c3 => ?_)
  refine W.ldc2 (v := (-1000000000000000)) hx hb X.2.2.2.1 (X.2.2.2.2 _ wk_X2_90) rfl dX2_solution_23 ?_
  refine W.eq (g2 := F0 m 26 ls [.long ((-1000000000000000))]) rfl ?_
  exact fl_lret X hr hlk hI dX2_solution_26 ⟨rfl, rfl, rfl⟩
theorem m_X2_solution (D : va_G) (dA : Nat → ClassId) (ad : Nat → Nat) (N : Nat) (I : fl_TI) (J : fl_TJ) {fu n eq tp : Nat} {Ir : fl_TI} {Jr : fl_TJ} (hN : 37 ≤ N) (hn : I 30 0 = nI n) (hn4 : n ≤ 4) (he : I 30 1 = nI eq) (he3 : eq ≤ 3) (hk : k_R fu n eq I J Ir Jr tp) (hge : ∀ r, k_bef Ir eq tp 0 ≤ r → r < tp → eq ≤ ldI Ir 34 r) {j : Nat} (hj : j < n) (h0 : ¬ (k_goes n eq tp Ir Jr).1 = 0) : FM yX2_solution cX2_solution 7 (some .long) 5 D dA ad N [.ref (ad 30), .int (nI j)] I J (fun v I' J' => v = some (.long (k_sol n eq tp Ir (k_goes n eq tp Ir Jr).2 36 j)) ∧ I' = Ir ∧ J' = k_sol n eq tp Ir (k_goes n eq tp Ir Jr).2) := by
  refine FM.ofW RX2 rfl (by decide +kernel) (Nat.le_of_ble_eq_true rfl) ?_
  intro p l e s m args below meth c ls X hr hlk hI hl
  have hx := X.1
  have hb := X.2.1
  have hl : lv_has ls 7 [(0, .ref (ad 30)), (1, .int (nI j))] := hl
  obtain ⟨k1, k2, k3, k4⟩ := k_R_facts (by omega) hk
  have k5 := hk.choose_spec.2.2
  have kn : Ir 30 0 = nI n := by rw [k4 30 0 (by omega) (by omega)]; exact hn
  have ke : Ir 30 1 = nI eq := by rw [k4 30 1 (by omega) (by omega)]; exact he
  have kl : ∀ i, i < tp → Ir 34 i = nI (ldI Ir 34 i) ∧ ldI Ir 34 i < 8 := fun i hi => ⟨(k3 i hi).1, by have := (k3 i hi).2; omega⟩
  obtain ⟨b1, b2, b3⟩ := k_bef_le Ir eq tp 0
  have kg : (k_goes n eq tp Ir Jr).1 ≤ 1 := k_com_le
  refine lv_iload_n hx hb dX2_solution_0 rfl (lv_at hl 1 rfl) ?_
  refine lv_if_lt (tgt := 23) hx hb dX2_solution_1 (by decide) (fun c1 => absurd c1 (nI_pos (by omega))) (fun c1 => ?_)
  refine lv_iload_n hx hb dX2_solution_4 rfl (lv_at hl 1 rfl) ?_
  refine lv_aload_n hx hb dX2_solution_5 rfl (lv_at hl 0 rfl) ?_
  refine fl_get2 X hI dX2_solution_6 (by omega) 0 (by decide) wf_X2_7 rfl ?_
  refine W.eq (g2 := F0 m 9 ls [.int (nI n), .int (nI j)]) (by rw [hn]) ?_
  refine fn_icmp_ge X (tgt := 23) dX2_solution_9 (by decide) (by omega) (by omega) (fun c2 => absurd c2 (by omega)) (fun c2 => ?_)
  refine lv_aload_n hx hb dX2_solution_12 rfl (lv_at hl 0 rfl) ?_
  refine lv_aload_n hx hb dX2_solution_13 rfl (lv_at hl 0 rfl) ?_
  refine fl_get2 X hI dX2_solution_14 (by omega) 1 (by decide) wf_X2_33 rfl ?_
  refine W.eq (g2 := F0 m 17 ls [.int (nI eq), .ref (ad 30)]) (by rw [he]) ?_
  refine fl_callV (k := 30) (As := [.int (nI eq)]) (rest := []) X hI dX2_solution_17 (m_X2_goes D dA ad N I J hN hn hn4 he3 hk) (by omega) fl_c_6 rfl rfl wc_yX2_goes wm_X2_83 wi_yX2_goes wl_yX2_goes wn_X2 hd_yX2_goes rfl ⟨by first | decide | omega, by first | decide | omega⟩ hl.1 (Nat.le_of_ble_eq_true rfl) (fun v I2 J2 H locs hp hI => ?_)
  obtain ⟨hv, hI2, hJ2⟩ := hp
  subst hv
  rw [hI2, hJ2] at hI
  refine W.eq (g2 := F0 m 20 ls [.int (nI ((k_goes n eq tp Ir Jr).1))]) rfl ?_
  refine fn_if_ne X (tgt := 27) dX2_solution_20 (by decide) (by omega) (fun c3 => ?_) (fun c3 => absurd c3 (by omega))
  refine lv_aload_n hx hb dX2_solution_27 rfl (lv_at hl 0 rfl) ?_
  refine lv_aload_n hx hb dX2_solution_28 rfl (lv_at hl 0 rfl) ?_
  refine fl_get2 X hI dX2_solution_29 (by omega) 1 (by decide) wf_X2_33 rfl ?_
  refine W.eq (g2 := F0 m 32 ls [.int (nI eq), .ref (ad 30)]) (by rw [ke]) ?_
  refine fl_callV (k := 30) (As := [.int (nI eq)]) (rest := []) X hI dX2_solution_32 (m_X2_before D dA ad N Ir ((k_goes n eq tp Ir Jr).2) hN k2 (by omega) (by omega) kl) (by omega) fl_c_6 rfl rfl wc_yX2_before wm_X2_72 wi_yX2_before wl_yX2_before wn_X2 hd_yX2_before rfl ⟨by first | decide | omega, by first | decide | omega⟩ hl.1 (Nat.le_of_ble_eq_true rfl) (fun v I2 J2 H locs hp hI => ?_)
  obtain ⟨hv, hI2, hJ2⟩ := hp
  subst hv
  rw [hI2, hJ2] at hI
  refine W.eq (g2 := F0 m 35 ls [.int (nI (k_bef Ir eq tp 0))]) rfl ?_
  refine lv_istore_n (lv' := [(2, .int (nI (k_bef Ir eq tp 0))), (0, .ref (ad 30)), (1, .int (nI j))]) hx hb dX2_solution_35 rfl hl (by decide) rfl (fun ls hl => ?_)
  refine lp_sol (I := Ir) X hN kn hn4 ke he3 k2 (by omega) (bf := k_bef Ir eq tp 0) (fun i h1 h2 => ⟨(kl i h2).1, hge i h1 h2, (k3 i h2).2⟩) ⟨by decide, by decide⟩ (J9 := k_sol n eq tp Ir (k_goes n eq tp Ir Jr).2) (fun H locs ls hI hl => ?_) (tp - k_bef Ir eq tp 0) (k_bef Ir eq tp 0) _ _ _ _ (by omega) hI (lv_sub hl [0, 1, 2] rfl) ⟨Nat.le_refl _, fun r h1 h2 => by rw [k_goes_33]; exact k5 r h2⟩ rfl
  refine lv_aload_n hx hb dX2_solution_137 rfl (lv_at hl 1 rfl) ?_
  refine fl_get2 X hI dX2_solution_138 (by omega) 8 (by decide) wf_X2_30 rfl ?_
  refine lv_iload_n hx hb dX2_solution_141 rfl (lv_at hl 2 rfl) ?_
  refine fn_lald (k := 36) X hI dX2_solution_142 (by omega) rfl (show j < 4 by omega) ?_
  exact fl_lret X hr hlk hI dX2_solution_143 ⟨rfl, rfl, rfl⟩
