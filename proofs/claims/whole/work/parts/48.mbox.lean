/-! the model: box -/
def k_left (n : Nat) (I : fl_TI) (a : Nat) (x y z : Int32) : Int32 := I 32 a - (if n ≤ 1 then nI 0 else I 31 (4 * a) * x) - (if n ≤ 2 then nI 0 else I 31 (4 * a + 1) * y) - (if n ≤ 3 then nI 0 else I 31 (4 * a + 2) * z)
def k_la (n : Nat) (I : fl_TI) (x y z : Int32) : Nat → Nat → Int32 → Int32 → Int32
  | 0, _, fr, to => if fr ≤ to then to - fr + nI 1 else nI 0
  | k + 1, i, fr, to => if I 31 (4 * i + n - 1) = 0 then (if k_left n I i x y z = 0 then k_la n I x y z k (i + 1) fr to else nI 0)
    else if k_left n I i x y z - k_left n I i x y z / I 31 (4 * i + n - 1) * I 31 (4 * i + n - 1) = 0 then k_la n I x y z k (i + 1) (if k_left n I i x y z / I 31 (4 * i + n - 1) ≤ fr then fr else k_left n I i x y z / I 31 (4 * i + n - 1)) (if to ≤ k_left n I i x y z / I 31 (4 * i + n - 1) then to else k_left n I i x y z / I 31 (4 * i + n - 1))
    else nI 0
def k_lasts (n eq : Nat) (I : fl_TI) (xl xh x y z : Int32) : Int32 := k_la n I x y z eq 0 xl xh
theorem m_X2_leftOf (D : va_G) (dA : Nat → ClassId) (ad : Nat → Nat) (N : Nat) (I : fl_TI) (J : fl_TJ) {n a : Nat} {x y z : Int32} (hN : 37 ≤ N) (hn : I 30 0 = nI n) (hn4 : n ≤ 4) (ha : a < 3) : FM yX2_leftOf cX2_leftOf 5 (some .int) 0 D dA ad N [.ref (ad 30), .int (nI a), .int x, .int y, .int z] I J (fun v I' J' => v = some (.int (k_left n I a x y z)) ∧ I' = I ∧ J' = J) := by
  refine FM.ofW RX2 rfl (by decide +kernel) (Nat.le_of_ble_eq_true rfl) ?_
  intro p l e s m args below meth c ls X hr hlk hI hl
  have hx := X.1
  have hb := X.2.1
  have hl : lv_has ls 5 [(0, .ref (ad 30)), (1, .int (nI a)), (2, .int x), (3, .int y), (4, .int z)] := hl
  refine lv_aload_n hx hb dX2_leftOf_0 rfl (lv_at hl 0 rfl) ?_
  refine fl_get2 X hI dX2_leftOf_1 (by omega) 3 (by decide) wf_X2_17 rfl ?_
  refine lv_iload_n hx hb dX2_leftOf_4 rfl (lv_at hl 1 rfl) ?_
  refine fn_iald (k := 32) X hI dX2_leftOf_5 (by omega) rfl (show a < 3 by omega) ?_
  refine lv_aload_n hx hb dX2_leftOf_6 rfl (lv_at hl 0 rfl) ?_
  refine fl_get2 X hI dX2_leftOf_7 (by omega) 0 (by decide) wf_X2_7 rfl ?_
  refine W.eq (g2 := F0 m 10 ls [.int (nI n), .int (I 32 a)]) (by rw [hn]) ?_
  refine lv_iconst (v := nI 1) hx hb dX2_leftOf_10 (by decide) ?_
  refine fn_icmp_le X (tgt := 27) dX2_leftOf_11 (by decide) (by omega) (by omega) (fun c1 => ?_) (fun c1 => ?_)
  · refine lv_iconst (v := nI 0) hx hb dX2_leftOf_27 (by decide) ?_
    refine lv_isub hx hb dX2_leftOf_28 ?_
    refine lv_aload_n hx hb dX2_leftOf_29 rfl (lv_at hl 0 rfl) ?_
    refine fl_get2 X hI dX2_leftOf_30 (by omega) 0 (by decide) wf_X2_7 rfl ?_
    refine W.eq (g2 := F0 m 33 ls [.int (nI n), .int ((I 32 a) - (nI 0))]) (by rw [hn]) ?_
    refine lv_iconst (v := nI 2) hx hb dX2_leftOf_33 (by decide) ?_
    refine fn_icmp_le X (tgt := 52) dX2_leftOf_34 (by decide) (by omega) (by omega) (fun c2 => ?_) (fun c2 => ?_)
    · refine lv_iconst (v := nI 0) hx hb dX2_leftOf_52 (by decide) ?_
      refine lv_isub hx hb dX2_leftOf_53 ?_
      refine lv_aload_n hx hb dX2_leftOf_54 rfl (lv_at hl 0 rfl) ?_
      refine fl_get2 X hI dX2_leftOf_55 (by omega) 0 (by decide) wf_X2_7 rfl ?_
      refine W.eq (g2 := F0 m 58 ls [.int (nI n), .int (((I 32 a) - (nI 0)) - (nI 0))]) (by rw [hn]) ?_
      refine lv_iconst (v := nI 3) hx hb dX2_leftOf_58 (by decide) ?_
      refine fn_icmp_le X (tgt := 78) dX2_leftOf_59 (by decide) (by omega) (by omega) (fun c3 => ?_) (fun c3 => ?_)
      · refine lv_iconst (v := nI 0) hx hb dX2_leftOf_78 (by decide) ?_
        refine lv_isub hx hb dX2_leftOf_79 ?_
        exact fl_iret X hr hlk hI dX2_leftOf_80 ⟨by unfold k_left; (first | rw [if_pos c1] | rw [if_neg (Nat.not_le.mpr c1)]); (first | rw [if_pos c2] | rw [if_neg (Nat.not_le.mpr c2)]); (first | rw [if_pos c3] | rw [if_neg (Nat.not_le.mpr c3)]), rfl, rfl⟩
      · refine lv_aload_n hx hb dX2_leftOf_62 rfl (lv_at hl 0 rfl) ?_
        refine fl_get2 X hI dX2_leftOf_63 (by omega) 2 (by decide) wf_X2_13 rfl ?_
        refine lv_iconst (v := nI 4) hx hb dX2_leftOf_66 (by decide) ?_
        refine lv_iload_n hx hb dX2_leftOf_67 rfl (lv_at hl 1 rfl) ?_
        refine fn_imul X dX2_leftOf_68 ?_
        refine lv_iconst (v := nI 2) hx hb dX2_leftOf_69 (by decide) ?_
        refine fn_iadd X dX2_leftOf_70 ?_
        refine fn_iald (k := 31) X hI dX2_leftOf_71 (by omega) rfl (show (4 * a) + 2 < 12 by omega) ?_
        refine lv_iload hx hb dX2_leftOf_72 (lv_at hl 4 rfl) ?_
        refine lv_imul hx hb dX2_leftOf_74 ?_
        refine lv_goto (tgt := 79) hx hb dX2_leftOf_75 (by decide) ?_
        refine lv_isub hx hb dX2_leftOf_79 ?_
        exact fl_iret X hr hlk hI dX2_leftOf_80 ⟨by unfold k_left; (first | rw [if_pos c1] | rw [if_neg (Nat.not_le.mpr c1)]); (first | rw [if_pos c2] | rw [if_neg (Nat.not_le.mpr c2)]); (first | rw [if_pos c3] | rw [if_neg (Nat.not_le.mpr c3)]), rfl, rfl⟩
    · refine lv_aload_n hx hb dX2_leftOf_37 rfl (lv_at hl 0 rfl) ?_
      refine fl_get2 X hI dX2_leftOf_38 (by omega) 2 (by decide) wf_X2_13 rfl ?_
      refine lv_iconst (v := nI 4) hx hb dX2_leftOf_41 (by decide) ?_
      refine lv_iload_n hx hb dX2_leftOf_42 rfl (lv_at hl 1 rfl) ?_
      refine fn_imul X dX2_leftOf_43 ?_
      refine lv_iconst (v := nI 1) hx hb dX2_leftOf_44 (by decide) ?_
      refine fn_iadd X dX2_leftOf_45 ?_
      refine fn_iald (k := 31) X hI dX2_leftOf_46 (by omega) rfl (show (4 * a) + 1 < 12 by omega) ?_
      refine lv_iload_n hx hb dX2_leftOf_47 rfl (lv_at hl 3 rfl) ?_
      refine lv_imul hx hb dX2_leftOf_48 ?_
      refine lv_goto (tgt := 53) hx hb dX2_leftOf_49 (by decide) ?_
      refine lv_isub hx hb dX2_leftOf_53 ?_
      refine lv_aload_n hx hb dX2_leftOf_54 rfl (lv_at hl 0 rfl) ?_
      refine fl_get2 X hI dX2_leftOf_55 (by omega) 0 (by decide) wf_X2_7 rfl ?_
      refine W.eq (g2 := F0 m 58 ls [.int (nI n), .int (((I 32 a) - (nI 0)) - ((I 31 ((4 * a) + 1)) * y))]) (by rw [hn]) ?_
      refine lv_iconst (v := nI 3) hx hb dX2_leftOf_58 (by decide) ?_
      refine fn_icmp_le X (tgt := 78) dX2_leftOf_59 (by decide) (by omega) (by omega) (fun c4 => ?_) (fun c4 => ?_)
      · refine lv_iconst (v := nI 0) hx hb dX2_leftOf_78 (by decide) ?_
        refine lv_isub hx hb dX2_leftOf_79 ?_
        exact fl_iret X hr hlk hI dX2_leftOf_80 ⟨by unfold k_left; (first | rw [if_pos c1] | rw [if_neg (Nat.not_le.mpr c1)]); (first | rw [if_pos c2] | rw [if_neg (Nat.not_le.mpr c2)]); (first | rw [if_pos c4] | rw [if_neg (Nat.not_le.mpr c4)]), rfl, rfl⟩
      · refine lv_aload_n hx hb dX2_leftOf_62 rfl (lv_at hl 0 rfl) ?_
        refine fl_get2 X hI dX2_leftOf_63 (by omega) 2 (by decide) wf_X2_13 rfl ?_
        refine lv_iconst (v := nI 4) hx hb dX2_leftOf_66 (by decide) ?_
        refine lv_iload_n hx hb dX2_leftOf_67 rfl (lv_at hl 1 rfl) ?_
        refine fn_imul X dX2_leftOf_68 ?_
        refine lv_iconst (v := nI 2) hx hb dX2_leftOf_69 (by decide) ?_
        refine fn_iadd X dX2_leftOf_70 ?_
        refine fn_iald (k := 31) X hI dX2_leftOf_71 (by omega) rfl (show (4 * a) + 2 < 12 by omega) ?_
        refine lv_iload hx hb dX2_leftOf_72 (lv_at hl 4 rfl) ?_
        refine lv_imul hx hb dX2_leftOf_74 ?_
        refine lv_goto (tgt := 79) hx hb dX2_leftOf_75 (by decide) ?_
        refine lv_isub hx hb dX2_leftOf_79 ?_
        exact fl_iret X hr hlk hI dX2_leftOf_80 ⟨by unfold k_left; (first | rw [if_pos c1] | rw [if_neg (Nat.not_le.mpr c1)]); (first | rw [if_pos c2] | rw [if_neg (Nat.not_le.mpr c2)]); (first | rw [if_pos c4] | rw [if_neg (Nat.not_le.mpr c4)]), rfl, rfl⟩
  · refine lv_aload_n hx hb dX2_leftOf_14 rfl (lv_at hl 0 rfl) ?_
    refine fl_get2 X hI dX2_leftOf_15 (by omega) 2 (by decide) wf_X2_13 rfl ?_
    refine lv_iconst (v := nI 4) hx hb dX2_leftOf_18 (by decide) ?_
    refine lv_iload_n hx hb dX2_leftOf_19 rfl (lv_at hl 1 rfl) ?_
    refine fn_imul X dX2_leftOf_20 ?_
    refine fn_iald (k := 31) X hI dX2_leftOf_21 (by omega) rfl (show 4 * a < 12 by omega) ?_
    refine lv_iload_n hx hb dX2_leftOf_22 rfl (lv_at hl 2 rfl) ?_
    refine lv_imul hx hb dX2_leftOf_23 ?_
    refine lv_goto (tgt := 28) hx hb dX2_leftOf_24 (by decide) ?_
    refine lv_isub hx hb dX2_leftOf_28 ?_
    refine lv_aload_n hx hb dX2_leftOf_29 rfl (lv_at hl 0 rfl) ?_
    refine fl_get2 X hI dX2_leftOf_30 (by omega) 0 (by decide) wf_X2_7 rfl ?_
    refine W.eq (g2 := F0 m 33 ls [.int (nI n), .int ((I 32 a) - ((I 31 (4 * a)) * x))]) (by rw [hn]) ?_
    refine lv_iconst (v := nI 2) hx hb dX2_leftOf_33 (by decide) ?_
    refine fn_icmp_le X (tgt := 52) dX2_leftOf_34 (by decide) (by omega) (by omega) (fun c5 => ?_) (fun c5 => ?_)
    · refine lv_iconst (v := nI 0) hx hb dX2_leftOf_52 (by decide) ?_
      refine lv_isub hx hb dX2_leftOf_53 ?_
      refine lv_aload_n hx hb dX2_leftOf_54 rfl (lv_at hl 0 rfl) ?_
      refine fl_get2 X hI dX2_leftOf_55 (by omega) 0 (by decide) wf_X2_7 rfl ?_
      refine W.eq (g2 := F0 m 58 ls [.int (nI n), .int (((I 32 a) - ((I 31 (4 * a)) * x)) - (nI 0))]) (by rw [hn]) ?_
      refine lv_iconst (v := nI 3) hx hb dX2_leftOf_58 (by decide) ?_
      refine fn_icmp_le X (tgt := 78) dX2_leftOf_59 (by decide) (by omega) (by omega) (fun c6 => ?_) (fun c6 => ?_)
      · refine lv_iconst (v := nI 0) hx hb dX2_leftOf_78 (by decide) ?_
        refine lv_isub hx hb dX2_leftOf_79 ?_
        exact fl_iret X hr hlk hI dX2_leftOf_80 ⟨by unfold k_left; (first | rw [if_pos c1] | rw [if_neg (Nat.not_le.mpr c1)]); (first | rw [if_pos c5] | rw [if_neg (Nat.not_le.mpr c5)]); (first | rw [if_pos c6] | rw [if_neg (Nat.not_le.mpr c6)]), rfl, rfl⟩
      · refine lv_aload_n hx hb dX2_leftOf_62 rfl (lv_at hl 0 rfl) ?_
        refine fl_get2 X hI dX2_leftOf_63 (by omega) 2 (by decide) wf_X2_13 rfl ?_
        refine lv_iconst (v := nI 4) hx hb dX2_leftOf_66 (by decide) ?_
        refine lv_iload_n hx hb dX2_leftOf_67 rfl (lv_at hl 1 rfl) ?_
        refine fn_imul X dX2_leftOf_68 ?_
        refine lv_iconst (v := nI 2) hx hb dX2_leftOf_69 (by decide) ?_
        refine fn_iadd X dX2_leftOf_70 ?_
        refine fn_iald (k := 31) X hI dX2_leftOf_71 (by omega) rfl (show (4 * a) + 2 < 12 by omega) ?_
        refine lv_iload hx hb dX2_leftOf_72 (lv_at hl 4 rfl) ?_
        refine lv_imul hx hb dX2_leftOf_74 ?_
        refine lv_goto (tgt := 79) hx hb dX2_leftOf_75 (by decide) ?_
        refine lv_isub hx hb dX2_leftOf_79 ?_
        exact fl_iret X hr hlk hI dX2_leftOf_80 ⟨by unfold k_left; (first | rw [if_pos c1] | rw [if_neg (Nat.not_le.mpr c1)]); (first | rw [if_pos c5] | rw [if_neg (Nat.not_le.mpr c5)]); (first | rw [if_pos c6] | rw [if_neg (Nat.not_le.mpr c6)]), rfl, rfl⟩
    · refine lv_aload_n hx hb dX2_leftOf_37 rfl (lv_at hl 0 rfl) ?_
      refine fl_get2 X hI dX2_leftOf_38 (by omega) 2 (by decide) wf_X2_13 rfl ?_
      refine lv_iconst (v := nI 4) hx hb dX2_leftOf_41 (by decide) ?_
      refine lv_iload_n hx hb dX2_leftOf_42 rfl (lv_at hl 1 rfl) ?_
      refine fn_imul X dX2_leftOf_43 ?_
      refine lv_iconst (v := nI 1) hx hb dX2_leftOf_44 (by decide) ?_
      refine fn_iadd X dX2_leftOf_45 ?_
      refine fn_iald (k := 31) X hI dX2_leftOf_46 (by omega) rfl (show (4 * a) + 1 < 12 by omega) ?_
      refine lv_iload_n hx hb dX2_leftOf_47 rfl (lv_at hl 3 rfl) ?_
      refine lv_imul hx hb dX2_leftOf_48 ?_
      refine lv_goto (tgt := 53) hx hb dX2_leftOf_49 (by decide) ?_
      refine lv_isub hx hb dX2_leftOf_53 ?_
      refine lv_aload_n hx hb dX2_leftOf_54 rfl (lv_at hl 0 rfl) ?_
      refine fl_get2 X hI dX2_leftOf_55 (by omega) 0 (by decide) wf_X2_7 rfl ?_
      refine W.eq (g2 := F0 m 58 ls [.int (nI n), .int (((I 32 a) - ((I 31 (4 * a)) * x)) - ((I 31 ((4 * a) + 1)) * y))]) (by rw [hn]) ?_
      refine lv_iconst (v := nI 3) hx hb dX2_leftOf_58 (by decide) ?_
      refine fn_icmp_le X (tgt := 78) dX2_leftOf_59 (by decide) (by omega) (by omega) (fun c7 => ?_) (fun c7 => ?_)
      · refine lv_iconst (v := nI 0) hx hb dX2_leftOf_78 (by decide) ?_
        refine lv_isub hx hb dX2_leftOf_79 ?_
        exact fl_iret X hr hlk hI dX2_leftOf_80 ⟨by unfold k_left; (first | rw [if_pos c1] | rw [if_neg (Nat.not_le.mpr c1)]); (first | rw [if_pos c5] | rw [if_neg (Nat.not_le.mpr c5)]); (first | rw [if_pos c7] | rw [if_neg (Nat.not_le.mpr c7)]), rfl, rfl⟩
      · refine lv_aload_n hx hb dX2_leftOf_62 rfl (lv_at hl 0 rfl) ?_
        refine fl_get2 X hI dX2_leftOf_63 (by omega) 2 (by decide) wf_X2_13 rfl ?_
        refine lv_iconst (v := nI 4) hx hb dX2_leftOf_66 (by decide) ?_
        refine lv_iload_n hx hb dX2_leftOf_67 rfl (lv_at hl 1 rfl) ?_
        refine fn_imul X dX2_leftOf_68 ?_
        refine lv_iconst (v := nI 2) hx hb dX2_leftOf_69 (by decide) ?_
        refine fn_iadd X dX2_leftOf_70 ?_
        refine fn_iald (k := 31) X hI dX2_leftOf_71 (by omega) rfl (show (4 * a) + 2 < 12 by omega) ?_
        refine lv_iload hx hb dX2_leftOf_72 (lv_at hl 4 rfl) ?_
        refine lv_imul hx hb dX2_leftOf_74 ?_
        refine lv_goto (tgt := 79) hx hb dX2_leftOf_75 (by decide) ?_
        refine lv_isub hx hb dX2_leftOf_79 ?_
        exact fl_iret X hr hlk hI dX2_leftOf_80 ⟨by unfold k_left; (first | rw [if_pos c1] | rw [if_neg (Nat.not_le.mpr c1)]); (first | rw [if_pos c5] | rw [if_neg (Nat.not_le.mpr c5)]); (first | rw [if_pos c7] | rw [if_neg (Nat.not_le.mpr c7)]), rfl, rfl⟩
theorem lp_la {p : Program} {l : Launch} {e : Env} {R : Room} {s : State} {m : MethodId} {args : Array Value} {below : List Frame} {meth : Method} {c : Code} {D : va_G} {dA : Nat → ClassId} {ad : Nat → Nat} {N : Nat} {A : Nat → Prop} {I : fl_TI} {J : fl_TJ} {post : Option Value → fl_TI → fl_TJ → Prop} {n eq : Nat} {xl xh x y z : Int32} (X : CallFix p m c cX2_lasts 11 s args fl_tb RX2) (hr : meth.sig.returnType = some .int) (hlk : meth.locks = false) (hN : 37 ≤ N) (hn : I 30 0 = nI n) (hn4 : n ≤ 4) (hn1 : 1 ≤ n) (he : I 30 1 = nI eq) (he3 : eq ≤ 3) (hR : 0 + 1 ≤ R.frames ∧ 8 + (5 + 11) + 40 * 0 ≤ R.locals) :
    ∀ (k i : Nat) (fr to : Int32) (H : Heap) (locs : List Loc) (ls : Array Slot), i + k = eq → fl_I D dA ad N I J A s s.heap H locs → lv_has ls 11 [(8, .int (nI i)), (7, .int to), (6, .int fr), (0, .ref (ad 30)), (1, .int xl), (2, .int xh), (3, .int x), (4, .int y), (5, .int z)] → post (some (.int (k_la n I x y z k i fr to))) I J → W p l e R s m args below meth c H locs 0 0 (MQ below (fl_Q D dA ad N post A) args s 0 0 A) (F0 m 9 ls []) := by
  have hx := X.1
  have hb := X.2.1
  intro k
  induction k with
  | zero =>
    intro i fr to H locs ls hk hI hl hF
    have hk : eq = i := by omega
    subst hk
    simp only [k_la] at hF
    refine lv_iload hx hb dX2_lasts_9 (lv_at hl 0 rfl) ?_
    refine lv_aload_n hx hb dX2_lasts_11 rfl (lv_at hl 3 rfl) ?_
    refine fl_get2 X hI dX2_lasts_12 (by omega) 1 (by decide) wf_X2_33 rfl ?_
    refine W.eq (g2 := F0 m 15 ls [.int (nI eq), .int (nI eq)]) (by rw [he]) ?_
    refine fn_icmp_ge X (tgt := 129) dX2_lasts_15 (by decide) (by omega) (by omega) (fun c1 => ?_) (fun c1 => absurd c1 (by omega))
    refine lv_iload hx hb dX2_lasts_129 (lv_at hl 1 rfl) ?_
    refine lv_iload hx hb dX2_lasts_131 (lv_at hl 2 rfl) ?_
    refine lv_icmp_ge (tgt := 140) hx hb dX2_lasts_133 (by decide) (fun c2 => ?_) (fun c2 => ?_)
    · refine lv_iload hx hb dX2_lasts_140 (lv_at hl 1 rfl) ?_
      refine lv_iload hx hb dX2_lasts_142 (lv_at hl 2 rfl) ?_
      refine lv_isub hx hb dX2_lasts_144 ?_
      refine lv_iconst (v := nI 1) hx hb dX2_lasts_145 (by decide) ?_
      refine lv_iadd hx hb dX2_lasts_146 ?_
      exact fl_iret X hr hlk hI dX2_lasts_147 (by (first | rw [if_pos c2] at hF | rw [if_neg c2] at hF | skip); exact hF)
    · refine lv_iconst (v := nI 0) hx hb dX2_lasts_136 (by decide) ?_
      refine lv_goto (tgt := 147) hx hb dX2_lasts_137 (by decide) ?_
      exact fl_iret X hr hlk hI dX2_lasts_147 (by (first | rw [if_pos c2] at hF | rw [if_neg c2] at hF | skip); exact hF)
  | succ k ih =>
    intro i fr to H locs ls hk hI hl hF
    simp only [k_la] at hF
    refine lv_iload hx hb dX2_lasts_9 (lv_at hl 0 rfl) ?_
    refine lv_aload_n hx hb dX2_lasts_11 rfl (lv_at hl 3 rfl) ?_
    refine fl_get2 X hI dX2_lasts_12 (by omega) 1 (by decide) wf_X2_33 rfl ?_
    refine W.eq (g2 := F0 m 15 ls [.int (nI eq), .int (nI i)]) (by rw [he]) ?_
    refine fn_icmp_ge X (tgt := 129) dX2_lasts_15 (by decide) (by omega) (by omega) (fun c1 => absurd c1 (by omega)) (fun c1 => ?_)
    refine lv_aload_n hx hb dX2_lasts_18 rfl (lv_at hl 3 rfl) ?_
    refine fl_get2 X hI dX2_lasts_19 (by omega) 2 (by decide) wf_X2_13 rfl ?_
    refine lv_iconst (v := nI 4) hx hb dX2_lasts_22 (by decide) ?_
    refine lv_iload hx hb dX2_lasts_23 (lv_at hl 0 rfl) ?_
    refine fn_imul X dX2_lasts_25 ?_
    refine lv_aload_n hx hb dX2_lasts_26 rfl (lv_at hl 3 rfl) ?_
    refine fl_get2 X hI dX2_lasts_27 (by omega) 0 (by decide) wf_X2_7 rfl ?_
    refine W.eq (g2 := F0 m 30 ls [.int (nI n), .int (nI (4 * i)), .ref (ad 31)]) (by rw [hn]) ?_
    refine fn_iadd X dX2_lasts_30 ?_
    refine lv_iconst (v := nI 1) hx hb dX2_lasts_31 (by decide) ?_
    refine fn_isub X dX2_lasts_32 (by omega) ?_
    refine fn_iald (k := 31) X hI dX2_lasts_33 (by omega) rfl (show ((4 * i) + n) - 1 < 12 by omega) ?_
    refine lv_istore (lv' := [(9, .int (I 31 (((4 * i) + n) - 1))), (8, .int (nI i)), (7, .int to), (6, .int fr), (0, .ref (ad 30)), (1, .int xl), (2, .int xh), (3, .int x), (4, .int y), (5, .int z)]) hx hb dX2_lasts_34 hl (by decide) rfl (fun ls hl => ?_)
    refine lv_aload_n hx hb dX2_lasts_36 rfl (lv_at hl 4 rfl) ?_
    refine lv_iload hx hb dX2_lasts_37 (lv_at hl 1 rfl) ?_
    refine lv_iload_n hx hb dX2_lasts_39 rfl (lv_at hl 7 rfl) ?_
    refine lv_iload hx hb dX2_lasts_40 (lv_at hl 8 rfl) ?_
    refine lv_iload hx hb dX2_lasts_42 (lv_at hl 9 rfl) ?_
    refine fl_callV (k := 30) (As := [.int (nI i), .int x, .int y, .int z]) (rest := []) X hI dX2_lasts_44 (m_X2_leftOf D dA ad N I J hN hn hn4 (a := i) (by omega)) (by omega) fl_c_6 rfl rfl wc_yX2_leftOf wm_X2_114 wi_yX2_leftOf wl_yX2_leftOf wn_X2 hd_yX2_leftOf rfl ⟨by first | decide | omega, by first | decide | omega⟩ hl.1 (Nat.le_of_ble_eq_true rfl) (fun v I2 J2 H locs hp hI => ?_)
    obtain ⟨hv, hI2, hJ2⟩ := hp
    subst hv
    rw [hI2, hJ2] at hI
    refine W.eq (g2 := F0 m 47 ls [.int (k_left n I i x y z)]) rfl ?_
    refine lv_istore (lv' := [(10, .int (k_left n I i x y z)), (9, .int (I 31 (((4 * i) + n) - 1))), (8, .int (nI i)), (7, .int to), (6, .int fr), (0, .ref (ad 30)), (1, .int xl), (2, .int xh), (3, .int x), (4, .int y), (5, .int z)]) hx hb dX2_lasts_47 hl (by decide) rfl (fun ls hl => ?_)
    refine lv_iload hx hb dX2_lasts_49 (lv_at hl 1 rfl) ?_
    refine lv_if_ne (tgt := 59) hx hb dX2_lasts_51 (by decide) (fun c2 => ?_) (fun c2 => ?_)
    · refine lv_iload hx hb dX2_lasts_59 (lv_at hl 1 rfl) ?_
      refine lv_if_eq (tgt := 74) hx hb dX2_lasts_61 (by decide) (fun c3 => absurd c3 c2) (fun c3 => ?_)
      refine lv_iload hx hb dX2_lasts_64 (lv_at hl 0 rfl) ?_
      refine lv_iload hx hb dX2_lasts_66 (lv_at hl 1 rfl) ?_
      refine lv_irem hx hb dX2_lasts_68 (by assumption) ?_
      refine lv_if_eq (tgt := 74) hx hb dX2_lasts_69 (by decide) (fun c4 => ?_) (fun c4 => ?_)
      · refine lv_iload hx hb dX2_lasts_74 (lv_at hl 1 rfl) ?_
        refine lv_if_eq (tgt := 123) hx hb dX2_lasts_76 (by decide) (fun c5 => absurd c5 c2) (fun c5 => ?_)
        refine lv_iload hx hb dX2_lasts_79 (lv_at hl 0 rfl) ?_
        refine lv_iload hx hb dX2_lasts_81 (lv_at hl 1 rfl) ?_
        refine lv_idiv hx hb dX2_lasts_83 (by assumption) ?_
        refine lv_iload hx hb dX2_lasts_84 (lv_at hl 4 rfl) ?_
        refine lv_icmp_le (tgt := 97) hx hb dX2_lasts_86 (by decide) (fun c6 => ?_) (fun c6 => ?_)
        · refine lv_iload hx hb dX2_lasts_97 (lv_at hl 4 rfl) ?_
          refine lv_istore (lv' := [(6, .int fr), (10, .int (k_left n I i x y z)), (9, .int (I 31 (((4 * i) + n) - 1))), (8, .int (nI i)), (7, .int to), (0, .ref (ad 30)), (1, .int xl), (2, .int xh), (3, .int x), (4, .int y), (5, .int z)]) hx hb dX2_lasts_99 hl (by decide) rfl (fun ls hl => ?_)
          refine lv_iload hx hb dX2_lasts_101 (lv_at hl 1 rfl) ?_
          refine lv_iload hx hb dX2_lasts_103 (lv_at hl 2 rfl) ?_
          refine lv_idiv hx hb dX2_lasts_105 (by assumption) ?_
          refine lv_iload hx hb dX2_lasts_106 (lv_at hl 4 rfl) ?_
          refine lv_icmp_ge (tgt := 119) hx hb dX2_lasts_108 (by decide) (fun c7 => ?_) (fun c7 => ?_)
          · refine lv_iload hx hb dX2_lasts_119 (lv_at hl 4 rfl) ?_
            refine lv_istore (lv' := [(7, .int to), (6, .int fr), (10, .int (k_left n I i x y z)), (9, .int (I 31 (((4 * i) + n) - 1))), (8, .int (nI i)), (0, .ref (ad 30)), (1, .int xl), (2, .int xh), (3, .int x), (4, .int y), (5, .int z)]) hx hb dX2_lasts_121 hl (by decide) rfl (fun ls hl => ?_)
            refine fn_iinc (a := i) (lv' := [(8, .int (nI (i + 1))), (7, .int to), (6, .int fr), (10, .int (k_left n I i x y z)), (9, .int (I 31 (((4 * i) + n) - 1))), (0, .ref (ad 30)), (1, .int xl), (2, .int xh), (3, .int x), (4, .int y), (5, .int z)]) X dX2_lasts_123 hl (k := 4) rfl (by decide) rfl (fun ls hl => ?_)
            refine lv_goto (tgt := 9) hx hb dX2_lasts_126 (by decide) ?_
            exact ih (i + 1) _ _ _ _ _ (by omega) hI (lv_sub hl [0, 1, 2, 5, 6, 7, 8, 9, 10] rfl) (by (first | rw [if_pos c2] at hF | rw [if_neg c2] at hF | skip); (first | rw [if_pos c4] at hF | rw [if_neg c4] at hF | skip); (first | rw [if_pos c6] at hF | rw [if_neg c6] at hF | skip); (first | rw [if_pos c7] at hF | rw [if_neg c7] at hF | skip); exact hF)
          · refine lv_iload hx hb dX2_lasts_111 (lv_at hl 1 rfl) ?_
            refine lv_iload hx hb dX2_lasts_113 (lv_at hl 2 rfl) ?_
            refine lv_idiv hx hb dX2_lasts_115 (by assumption) ?_
            refine lv_goto (tgt := 121) hx hb dX2_lasts_116 (by decide) ?_
            refine lv_istore (lv' := [(7, .int ((k_left n I i x y z) / (I 31 (((4 * i) + n) - 1)))), (6, .int fr), (10, .int (k_left n I i x y z)), (9, .int (I 31 (((4 * i) + n) - 1))), (8, .int (nI i)), (0, .ref (ad 30)), (1, .int xl), (2, .int xh), (3, .int x), (4, .int y), (5, .int z)]) hx hb dX2_lasts_121 hl (by decide) rfl (fun ls hl => ?_)
            refine fn_iinc (a := i) (lv' := [(8, .int (nI (i + 1))), (7, .int ((k_left n I i x y z) / (I 31 (((4 * i) + n) - 1)))), (6, .int fr), (10, .int (k_left n I i x y z)), (9, .int (I 31 (((4 * i) + n) - 1))), (0, .ref (ad 30)), (1, .int xl), (2, .int xh), (3, .int x), (4, .int y), (5, .int z)]) X dX2_lasts_123 hl (k := 4) rfl (by decide) rfl (fun ls hl => ?_)
            refine lv_goto (tgt := 9) hx hb dX2_lasts_126 (by decide) ?_
            exact ih (i + 1) _ _ _ _ _ (by omega) hI (lv_sub hl [0, 1, 2, 5, 6, 7, 8, 9, 10] rfl) (by (first | rw [if_pos c2] at hF | rw [if_neg c2] at hF | skip); (first | rw [if_pos c4] at hF | rw [if_neg c4] at hF | skip); (first | rw [if_pos c6] at hF | rw [if_neg c6] at hF | skip); (first | rw [if_pos c7] at hF | rw [if_neg c7] at hF | skip); exact hF)
        · refine lv_iload hx hb dX2_lasts_89 (lv_at hl 0 rfl) ?_
          refine lv_iload hx hb dX2_lasts_91 (lv_at hl 1 rfl) ?_
          refine lv_idiv hx hb dX2_lasts_93 (by assumption) ?_
          refine lv_goto (tgt := 99) hx hb dX2_lasts_94 (by decide) ?_
          refine lv_istore (lv' := [(6, .int ((k_left n I i x y z) / (I 31 (((4 * i) + n) - 1)))), (10, .int (k_left n I i x y z)), (9, .int (I 31 (((4 * i) + n) - 1))), (8, .int (nI i)), (7, .int to), (0, .ref (ad 30)), (1, .int xl), (2, .int xh), (3, .int x), (4, .int y), (5, .int z)]) hx hb dX2_lasts_99 hl (by decide) rfl (fun ls hl => ?_)
          refine lv_iload hx hb dX2_lasts_101 (lv_at hl 1 rfl) ?_
          refine lv_iload hx hb dX2_lasts_103 (lv_at hl 2 rfl) ?_
          refine lv_idiv hx hb dX2_lasts_105 (by assumption) ?_
          refine lv_iload hx hb dX2_lasts_106 (lv_at hl 4 rfl) ?_
          refine lv_icmp_ge (tgt := 119) hx hb dX2_lasts_108 (by decide) (fun c8 => ?_) (fun c8 => ?_)
          · refine lv_iload hx hb dX2_lasts_119 (lv_at hl 4 rfl) ?_
            refine lv_istore (lv' := [(7, .int to), (6, .int ((k_left n I i x y z) / (I 31 (((4 * i) + n) - 1)))), (10, .int (k_left n I i x y z)), (9, .int (I 31 (((4 * i) + n) - 1))), (8, .int (nI i)), (0, .ref (ad 30)), (1, .int xl), (2, .int xh), (3, .int x), (4, .int y), (5, .int z)]) hx hb dX2_lasts_121 hl (by decide) rfl (fun ls hl => ?_)
            refine fn_iinc (a := i) (lv' := [(8, .int (nI (i + 1))), (7, .int to), (6, .int ((k_left n I i x y z) / (I 31 (((4 * i) + n) - 1)))), (10, .int (k_left n I i x y z)), (9, .int (I 31 (((4 * i) + n) - 1))), (0, .ref (ad 30)), (1, .int xl), (2, .int xh), (3, .int x), (4, .int y), (5, .int z)]) X dX2_lasts_123 hl (k := 4) rfl (by decide) rfl (fun ls hl => ?_)
            refine lv_goto (tgt := 9) hx hb dX2_lasts_126 (by decide) ?_
            exact ih (i + 1) _ _ _ _ _ (by omega) hI (lv_sub hl [0, 1, 2, 5, 6, 7, 8, 9, 10] rfl) (by (first | rw [if_pos c2] at hF | rw [if_neg c2] at hF | skip); (first | rw [if_pos c4] at hF | rw [if_neg c4] at hF | skip); (first | rw [if_pos c6] at hF | rw [if_neg c6] at hF | skip); (first | rw [if_pos c8] at hF | rw [if_neg c8] at hF | skip); exact hF)
          · refine lv_iload hx hb dX2_lasts_111 (lv_at hl 1 rfl) ?_
            refine lv_iload hx hb dX2_lasts_113 (lv_at hl 2 rfl) ?_
            refine lv_idiv hx hb dX2_lasts_115 (by assumption) ?_
            refine lv_goto (tgt := 121) hx hb dX2_lasts_116 (by decide) ?_
            refine lv_istore (lv' := [(7, .int ((k_left n I i x y z) / (I 31 (((4 * i) + n) - 1)))), (6, .int ((k_left n I i x y z) / (I 31 (((4 * i) + n) - 1)))), (10, .int (k_left n I i x y z)), (9, .int (I 31 (((4 * i) + n) - 1))), (8, .int (nI i)), (0, .ref (ad 30)), (1, .int xl), (2, .int xh), (3, .int x), (4, .int y), (5, .int z)]) hx hb dX2_lasts_121 hl (by decide) rfl (fun ls hl => ?_)
            refine fn_iinc (a := i) (lv' := [(8, .int (nI (i + 1))), (7, .int ((k_left n I i x y z) / (I 31 (((4 * i) + n) - 1)))), (6, .int ((k_left n I i x y z) / (I 31 (((4 * i) + n) - 1)))), (10, .int (k_left n I i x y z)), (9, .int (I 31 (((4 * i) + n) - 1))), (0, .ref (ad 30)), (1, .int xl), (2, .int xh), (3, .int x), (4, .int y), (5, .int z)]) X dX2_lasts_123 hl (k := 4) rfl (by decide) rfl (fun ls hl => ?_)
            refine lv_goto (tgt := 9) hx hb dX2_lasts_126 (by decide) ?_
            exact ih (i + 1) _ _ _ _ _ (by omega) hI (lv_sub hl [0, 1, 2, 5, 6, 7, 8, 9, 10] rfl) (by (first | rw [if_pos c2] at hF | rw [if_neg c2] at hF | skip); (first | rw [if_pos c4] at hF | rw [if_neg c4] at hF | skip); (first | rw [if_pos c6] at hF | rw [if_neg c6] at hF | skip); (first | rw [if_pos c8] at hF | rw [if_neg c8] at hF | skip); exact hF)
      · refine lv_iconst (v := nI 0) hx hb dX2_lasts_72 (by decide) ?_
        exact fl_iret X hr hlk hI dX2_lasts_73 (by (first | rw [if_pos c2] at hF | rw [if_neg c2] at hF | skip); (first | rw [if_pos c4] at hF | rw [if_neg c4] at hF | skip); exact hF)
    · refine lv_iload hx hb dX2_lasts_54 (lv_at hl 0 rfl) ?_
      refine lv_if_ne (tgt := 72) hx hb dX2_lasts_56 (by decide) (fun c9 => ?_) (fun c9 => ?_)
      · refine lv_iconst (v := nI 0) hx hb dX2_lasts_72 (by decide) ?_
        exact fl_iret X hr hlk hI dX2_lasts_73 (by (first | rw [if_pos c2] at hF | rw [if_neg c2] at hF | skip); (first | rw [if_pos c9] at hF | rw [if_neg c9] at hF | skip); exact hF)
      · refine lv_iload hx hb dX2_lasts_59 (lv_at hl 1 rfl) ?_
        refine lv_if_eq (tgt := 74) hx hb dX2_lasts_61 (by decide) (fun c10 => ?_) (fun c10 => absurd c2 c10)
        refine lv_iload hx hb dX2_lasts_74 (lv_at hl 1 rfl) ?_
        refine lv_if_eq (tgt := 123) hx hb dX2_lasts_76 (by decide) (fun c11 => ?_) (fun c11 => absurd c2 c11)
        refine fn_iinc (a := i) (lv' := [(8, .int (nI (i + 1))), (10, .int (k_left n I i x y z)), (9, .int (I 31 (((4 * i) + n) - 1))), (7, .int to), (6, .int fr), (0, .ref (ad 30)), (1, .int xl), (2, .int xh), (3, .int x), (4, .int y), (5, .int z)]) X dX2_lasts_123 hl (k := 2) rfl (by decide) rfl (fun ls hl => ?_)
        refine lv_goto (tgt := 9) hx hb dX2_lasts_126 (by decide) ?_
        exact ih (i + 1) _ _ _ _ _ (by omega) hI (lv_sub hl [0, 3, 4, 5, 6, 7, 8, 9, 10] rfl) (by (first | rw [if_pos c2] at hF | rw [if_neg c2] at hF | skip); (first | rw [if_pos c9] at hF | rw [if_neg c9] at hF | skip); exact hF)
theorem m_X2_lasts (D : va_G) (dA : Nat → ClassId) (ad : Nat → Nat) (N : Nat) (I : fl_TI) (J : fl_TJ) {n eq : Nat} {xl xh x y z : Int32} (hN : 37 ≤ N) (hn : I 30 0 = nI n) (hn4 : n ≤ 4) (hn1 : 1 ≤ n) (he : I 30 1 = nI eq) (he3 : eq ≤ 3) : FM yX2_lasts cX2_lasts 11 (some .int) 1 D dA ad N [.ref (ad 30), .int xl, .int xh, .int x, .int y, .int z] I J (fun v I' J' => v = some (.int (k_lasts n eq I xl xh x y z)) ∧ I' = I ∧ J' = J) := by
  refine FM.ofW RX2 rfl (by decide +kernel) (Nat.le_of_ble_eq_true rfl) ?_
  intro p l e s m args below meth c ls X hr hlk hI hl
  have hx := X.1
  have hb := X.2.1
  have hl : lv_has ls 11 [(0, .ref (ad 30)), (1, .int xl), (2, .int xh), (3, .int x), (4, .int y), (5, .int z)] := hl
  refine lv_iload_n hx hb dX2_lasts_0 rfl (lv_at hl 1 rfl) ?_
  refine lv_istore (lv' := [(6, .int xl), (0, .ref (ad 30)), (1, .int xl), (2, .int xh), (3, .int x), (4, .int y), (5, .int z)]) hx hb dX2_lasts_1 hl (by decide) rfl (fun ls hl => ?_)
  refine lv_iload_n hx hb dX2_lasts_3 rfl (lv_at hl 3 rfl) ?_
  refine lv_istore (lv' := [(7, .int xh), (6, .int xl), (0, .ref (ad 30)), (1, .int xl), (2, .int xh), (3, .int x), (4, .int y), (5, .int z)]) hx hb dX2_lasts_4 hl (by decide) rfl (fun ls hl => ?_)
  refine lv_iconst (v := nI 0) hx hb dX2_lasts_6 (by decide) ?_
  refine lv_istore (lv' := [(8, .int (nI 0)), (7, .int xh), (6, .int xl), (0, .ref (ad 30)), (1, .int xl), (2, .int xh), (3, .int x), (4, .int y), (5, .int z)]) hx hb dX2_lasts_7 hl (by decide) rfl (fun ls hl => ?_)
  exact lp_la X hr hlk hN hn hn4 hn1 he he3 ⟨by decide, by decide⟩ eq 0 _ _ _ _ _ (Nat.zero_add _) hI (lv_sub hl [0, 1, 2, 3, 4, 5, 6, 7, 8] rfl) ⟨rfl, rfl, rfl⟩
def k_bt (g : Int32 → Int32 → Int32) : Nat → Int32 → Int32 → Int32
  | 0, _, t => t
  | k + 1, x, t => k_bt g k (x + 1) (g x t)
theorem i32_succ {t : Int32} (h : t.toInt ≤ 1000) : (t + 1).toInt = t.toInt + 1 := by
  have h2 := t.le_toInt
  rw [Int32.toInt_add]
  show ((t.toInt + 1).bmod (2 ^ 32)) = _
  rw [Int.bmod_eq_of_le] <;> omega
def k_fu (xl bd : Int32) : Nat := (bd.toInt + 1 - xl.toInt).toNat
def k_b3 (n eq : Nat) (I : fl_TI) (xl xh x y : Int32) : Int32 → Int32 → Int32 := fun z t => t + k_lasts n eq I xl xh x y z
def k_b2 (n eq : Nat) (I : fl_TI) (xl xh x : Int32) : Int32 → Int32 → Int32 := fun y t => k_bt (k_b3 n eq I xl xh x y) (k_fu xl (if n ≤ 3 then xl else xh)) xl t
def k_b1 (n eq : Nat) (I : fl_TI) (xl xh : Int32) : Int32 → Int32 → Int32 := fun x t => k_bt (k_b2 n eq I xl xh x) (k_fu xl (if n ≤ 2 then xl else xh)) xl t
def k_box (n eq : Nat) (I : fl_TI) (xl xh : Int32) : Int32 := k_bt (k_b1 n eq I xl xh) (k_fu xl (if n ≤ 1 then xl else xh)) xl (nI 0)
theorem lp_bz {p : Program} {l : Launch} {e : Env} {R : Room} {s : State} {m : MethodId} {args : Array Value} {below : List Frame} {meth : Method} {c : Code} {Q : State → Prop} {D : va_G} {dA : Nat → ClassId} {ad : Nat → Nat} {N : Nat} {A : Nat → Prop} {H0 : Heap} {I : fl_TI} {J : fl_TJ} {t9 : Int32} {n eq : Nat} {xl xh x y : Int32} (X : CallFix p m c cX2_box 7 s args fl_tb RX2) (hN : 37 ≤ N) (hn : I 30 0 = nI n) (hn4 : n ≤ 4) (hn1 : 1 ≤ n) (he : I 30 1 = nI eq) (he3 : eq ≤ 3) (hlh : xl.toInt ≤ xh.toInt) (hh : xh.toInt ≤ 12) (hR : 1 + 1 ≤ R.frames ∧ 8 + (11 + 11) + 40 * 1 ≤ R.locals) {bd : Int32} (hbT : n ≤ 3 → xl = bd) (hbF : 3 < n → xh = bd) (hbd : bd.toInt ≤ 12)
    (kx : ∀ (w9 : Int32) (H : Heap) (locs : List Loc) (ls : Array Slot), fl_I D dA ad N I J A s H0 H locs → lv_has ls 7 [(6, .int w9), (5, .int y), (4, .int x), (3, .int t9), (0, .ref (ad 30)), (1, .int xl), (2, .int xh)] → W p l e R s m args below meth c H locs 0 0 Q (F0 m 105 ls [])) :
    ∀ (k : Nat) (z tt : Int32) (H : Heap) (locs : List Loc) (ls : Array Slot), z.toInt + k = bd.toInt + 1 → fl_I D dA ad N I J A s H0 H locs → lv_has ls 7 [(6, .int z), (5, .int y), (4, .int x), (3, .int tt), (0, .ref (ad 30)), (1, .int xl), (2, .int xh)] → k_bt (k_b3 n eq I xl xh x y) k z tt = t9 → W p l e R s m args below meth c H locs 0 0 Q (F0 m 66 ls []) := by
  have hx := X.1
  have hb := X.2.1
  intro k
  induction k with
  | zero =>
    intro z tt H locs ls hk hI hl hF
    have hF : tt = t9 := hF
    subst hF
    refine lv_iload hx hb dX2_box_66 (lv_at hl 0 rfl) ?_
    refine lv_aload_n hx hb dX2_box_68 rfl (lv_at hl 4 rfl) ?_
    refine fl_get2 X hI dX2_box_69 (by omega) 0 (by decide) wf_X2_7 rfl ?_
    refine W.eq (g2 := F0 m 72 ls [.int (nI n), .int z]) (by rw [hn]) ?_
    refine lv_iconst (v := nI 3) hx hb dX2_box_72 (by decide) ?_
    refine fn_icmp_le X (tgt := 80) dX2_box_73 (by decide) (by omega) (by omega) (fun c1 => ?_) (fun c1 => ?_)
    · refine lv_iload_n hx hb dX2_box_80 rfl (lv_at hl 5 rfl) ?_
      refine W.eq (g2 := F0 m 81 ls [.int bd, .int z]) (by first | rw [hbT c1] | rw [hbF c1]) ?_
      refine lv_icmp_gt (tgt := 105) hx hb dX2_box_81 (by decide) (fun c2 => ?_) (fun c2 => absurd (by rw [Int32.lt_iff_toInt_lt]; omega) c2)
      exact kx _ _ _ _ hI (lv_sub hl [0, 1, 2, 3, 4, 5, 6] rfl)
    · refine lv_iload_n hx hb dX2_box_76 rfl (lv_at hl 6 rfl) ?_
      refine lv_goto (tgt := 81) hx hb dX2_box_77 (by decide) ?_
      refine W.eq (g2 := F0 m 81 ls [.int bd, .int z]) (by first | rw [hbT c1] | rw [hbF c1]) ?_
      refine lv_icmp_gt (tgt := 105) hx hb dX2_box_81 (by decide) (fun c3 => ?_) (fun c3 => absurd (by rw [Int32.lt_iff_toInt_lt]; omega) c3)
      exact kx _ _ _ _ hI (lv_sub hl [0, 1, 2, 3, 4, 5, 6] rfl)
  | succ k ih =>
    intro z tt H locs ls hk hI hl hF
    refine lv_iload hx hb dX2_box_66 (lv_at hl 0 rfl) ?_
    refine lv_aload_n hx hb dX2_box_68 rfl (lv_at hl 4 rfl) ?_
    refine fl_get2 X hI dX2_box_69 (by omega) 0 (by decide) wf_X2_7 rfl ?_
    refine W.eq (g2 := F0 m 72 ls [.int (nI n), .int z]) (by rw [hn]) ?_
    refine lv_iconst (v := nI 3) hx hb dX2_box_72 (by decide) ?_
    refine fn_icmp_le X (tgt := 80) dX2_box_73 (by decide) (by omega) (by omega) (fun c1 => ?_) (fun c1 => ?_)
    · refine lv_iload_n hx hb dX2_box_80 rfl (lv_at hl 5 rfl) ?_
      refine W.eq (g2 := F0 m 81 ls [.int bd, .int z]) (by first | rw [hbT c1] | rw [hbF c1]) ?_
      refine lv_icmp_gt (tgt := 105) hx hb dX2_box_81 (by decide) (fun c2 => absurd c2 (by rw [Int32.lt_iff_toInt_lt]; omega)) (fun c2 => ?_)
      refine lv_iload_n hx hb dX2_box_84 rfl (lv_at hl 3 rfl) ?_
      refine lv_aload_n hx hb dX2_box_85 rfl (lv_at hl 4 rfl) ?_
      refine lv_iload_n hx hb dX2_box_86 rfl (lv_at hl 5 rfl) ?_
      refine lv_iload_n hx hb dX2_box_87 rfl (lv_at hl 6 rfl) ?_
      refine lv_iload hx hb dX2_box_88 (lv_at hl 2 rfl) ?_
      refine lv_iload hx hb dX2_box_90 (lv_at hl 1 rfl) ?_
      refine lv_iload hx hb dX2_box_92 (lv_at hl 0 rfl) ?_
      refine fl_callV (k := 30) (As := [.int xl, .int xh, .int x, .int y, .int z]) (rest := [.int tt]) X hI dX2_box_94 (m_X2_lasts D dA ad N I J hN hn hn4 hn1 he he3) (by omega) fl_c_6 rfl rfl wc_yX2_lasts wm_X2_118 wi_yX2_lasts wl_yX2_lasts wn_X2 hd_yX2_lasts rfl ⟨by first | decide | omega, by first | decide | omega⟩ hl.1 (Nat.le_of_ble_eq_true rfl) (fun v I2 J2 H locs hp hI => ?_)
      obtain ⟨hv, hI2, hJ2⟩ := hp
      subst hv
      rw [hI2, hJ2] at hI
      refine W.eq (g2 := F0 m 97 ls [.int (k_lasts n eq I xl xh x y z), .int tt]) rfl ?_
      refine lv_iadd hx hb dX2_box_97 ?_
      refine lv_istore_n (lv' := [(3, .int (tt + (k_lasts n eq I xl xh x y z))), (6, .int z), (5, .int y), (4, .int x), (0, .ref (ad 30)), (1, .int xl), (2, .int xh)]) hx hb dX2_box_98 rfl hl (by decide) rfl (fun ls hl => ?_)
      refine lv_iinc (v := z + 1) (lv' := [(6, .int (z + 1)), (3, .int (tt + (k_lasts n eq I xl xh x y z))), (5, .int y), (4, .int x), (0, .ref (ad 30)), (1, .int xl), (2, .int xh)]) hx hb dX2_box_99 hl (k := 1) rfl rfl (by decide) rfl (fun ls hl => ?_)
      refine lv_goto (tgt := 66) hx hb dX2_box_102 (by decide) ?_
      exact ih _ _ _ _ _ (by rw [i32_succ (by omega)]; omega) hI (lv_sub hl [0, 2, 3, 1, 4, 5, 6] rfl) hF
    · refine lv_iload_n hx hb dX2_box_76 rfl (lv_at hl 6 rfl) ?_
      refine lv_goto (tgt := 81) hx hb dX2_box_77 (by decide) ?_
      refine W.eq (g2 := F0 m 81 ls [.int bd, .int z]) (by first | rw [hbT c1] | rw [hbF c1]) ?_
      refine lv_icmp_gt (tgt := 105) hx hb dX2_box_81 (by decide) (fun c3 => absurd c3 (by rw [Int32.lt_iff_toInt_lt]; omega)) (fun c3 => ?_)
      refine lv_iload_n hx hb dX2_box_84 rfl (lv_at hl 3 rfl) ?_
      refine lv_aload_n hx hb dX2_box_85 rfl (lv_at hl 4 rfl) ?_
      refine lv_iload_n hx hb dX2_box_86 rfl (lv_at hl 5 rfl) ?_
      refine lv_iload_n hx hb dX2_box_87 rfl (lv_at hl 6 rfl) ?_
      refine lv_iload hx hb dX2_box_88 (lv_at hl 2 rfl) ?_
      refine lv_iload hx hb dX2_box_90 (lv_at hl 1 rfl) ?_
      refine lv_iload hx hb dX2_box_92 (lv_at hl 0 rfl) ?_
      refine fl_callV (k := 30) (As := [.int xl, .int xh, .int x, .int y, .int z]) (rest := [.int tt]) X hI dX2_box_94 (m_X2_lasts D dA ad N I J hN hn hn4 hn1 he he3) (by omega) fl_c_6 rfl rfl wc_yX2_lasts wm_X2_118 wi_yX2_lasts wl_yX2_lasts wn_X2 hd_yX2_lasts rfl ⟨by first | decide | omega, by first | decide | omega⟩ hl.1 (Nat.le_of_ble_eq_true rfl) (fun v I2 J2 H locs hp hI => ?_)
      obtain ⟨hv, hI2, hJ2⟩ := hp
      subst hv
      rw [hI2, hJ2] at hI
      refine W.eq (g2 := F0 m 97 ls [.int (k_lasts n eq I xl xh x y z), .int tt]) rfl ?_
      refine lv_iadd hx hb dX2_box_97 ?_
      refine lv_istore_n (lv' := [(3, .int (tt + (k_lasts n eq I xl xh x y z))), (6, .int z), (5, .int y), (4, .int x), (0, .ref (ad 30)), (1, .int xl), (2, .int xh)]) hx hb dX2_box_98 rfl hl (by decide) rfl (fun ls hl => ?_)
      refine lv_iinc (v := z + 1) (lv' := [(6, .int (z + 1)), (3, .int (tt + (k_lasts n eq I xl xh x y z))), (5, .int y), (4, .int x), (0, .ref (ad 30)), (1, .int xl), (2, .int xh)]) hx hb dX2_box_99 hl (k := 1) rfl rfl (by decide) rfl (fun ls hl => ?_)
      refine lv_goto (tgt := 66) hx hb dX2_box_102 (by decide) ?_
      exact ih _ _ _ _ _ (by rw [i32_succ (by omega)]; omega) hI (lv_sub hl [0, 2, 3, 1, 4, 5, 6] rfl) hF
theorem lp_by {p : Program} {l : Launch} {e : Env} {R : Room} {s : State} {m : MethodId} {args : Array Value} {below : List Frame} {meth : Method} {c : Code} {Q : State → Prop} {D : va_G} {dA : Nat → ClassId} {ad : Nat → Nat} {N : Nat} {A : Nat → Prop} {H0 : Heap} {I : fl_TI} {J : fl_TJ} {t9 : Int32} {n eq : Nat} {xl xh x : Int32} (X : CallFix p m c cX2_box 7 s args fl_tb RX2) (hN : 37 ≤ N) (hn : I 30 0 = nI n) (hn4 : n ≤ 4) (hn1 : 1 ≤ n) (he : I 30 1 = nI eq) (he3 : eq ≤ 3) (hlh : xl.toInt ≤ xh.toInt) (hh : xh.toInt ≤ 12) (hR : 1 + 1 ≤ R.frames ∧ 8 + (11 + 11) + 40 * 1 ≤ R.locals) {bd : Int32} (hbT : n ≤ 2 → xl = bd) (hbF : 2 < n → xh = bd) (hbd : bd.toInt ≤ 12)
    (kx : ∀ (w9 : Int32) (H : Heap) (locs : List Loc) (ls : Array Slot), fl_I D dA ad N I J A s H0 H locs → lv_has ls 7 [(5, .int w9), (4, .int x), (3, .int t9), (0, .ref (ad 30)), (1, .int xl), (2, .int xh)] → W p l e R s m args below meth c H locs 0 0 Q (F0 m 111 ls [])) :
    ∀ (k : Nat) (y tt : Int32) (H : Heap) (locs : List Loc) (ls : Array Slot), y.toInt + k = bd.toInt + 1 → fl_I D dA ad N I J A s H0 H locs → lv_has ls 7 [(5, .int y), (4, .int x), (3, .int tt), (0, .ref (ad 30)), (1, .int xl), (2, .int xh)] → k_bt (k_b2 n eq I xl xh x) k y tt = t9 → W p l e R s m args below meth c H locs 0 0 Q (F0 m 45 ls []) := by
  have hx := X.1
  have hb := X.2.1
  intro k
  induction k with
  | zero =>
    intro y tt H locs ls hk hI hl hF
    have hF : tt = t9 := hF
    subst hF
    refine lv_iload hx hb dX2_box_45 (lv_at hl 0 rfl) ?_
    refine lv_aload_n hx hb dX2_box_47 rfl (lv_at hl 3 rfl) ?_
    refine fl_get2 X hI dX2_box_48 (by omega) 0 (by decide) wf_X2_7 rfl ?_
    refine W.eq (g2 := F0 m 51 ls [.int (nI n), .int y]) (by rw [hn]) ?_
    refine lv_iconst (v := nI 2) hx hb dX2_box_51 (by decide) ?_
    refine fn_icmp_le X (tgt := 59) dX2_box_52 (by decide) (by omega) (by omega) (fun c1 => ?_) (fun c1 => ?_)
    · refine lv_iload_n hx hb dX2_box_59 rfl (lv_at hl 4 rfl) ?_
      refine W.eq (g2 := F0 m 60 ls [.int bd, .int y]) (by first | rw [hbT c1] | rw [hbF c1]) ?_
      refine lv_icmp_gt (tgt := 111) hx hb dX2_box_60 (by decide) (fun c2 => ?_) (fun c2 => absurd (by rw [Int32.lt_iff_toInt_lt]; omega) c2)
      exact kx _ _ _ _ hI (lv_sub hl [0, 1, 2, 3, 4, 5] rfl)
    · refine lv_iload_n hx hb dX2_box_55 rfl (lv_at hl 5 rfl) ?_
      refine lv_goto (tgt := 60) hx hb dX2_box_56 (by decide) ?_
      refine W.eq (g2 := F0 m 60 ls [.int bd, .int y]) (by first | rw [hbT c1] | rw [hbF c1]) ?_
      refine lv_icmp_gt (tgt := 111) hx hb dX2_box_60 (by decide) (fun c3 => ?_) (fun c3 => absurd (by rw [Int32.lt_iff_toInt_lt]; omega) c3)
      exact kx _ _ _ _ hI (lv_sub hl [0, 1, 2, 3, 4, 5] rfl)
  | succ k ih =>
    intro y tt H locs ls hk hI hl hF
    refine lv_iload hx hb dX2_box_45 (lv_at hl 0 rfl) ?_
    refine lv_aload_n hx hb dX2_box_47 rfl (lv_at hl 3 rfl) ?_
    refine fl_get2 X hI dX2_box_48 (by omega) 0 (by decide) wf_X2_7 rfl ?_
    refine W.eq (g2 := F0 m 51 ls [.int (nI n), .int y]) (by rw [hn]) ?_
    refine lv_iconst (v := nI 2) hx hb dX2_box_51 (by decide) ?_
    refine fn_icmp_le X (tgt := 59) dX2_box_52 (by decide) (by omega) (by omega) (fun c1 => ?_) (fun c1 => ?_)
    · refine lv_iload_n hx hb dX2_box_59 rfl (lv_at hl 4 rfl) ?_
      refine W.eq (g2 := F0 m 60 ls [.int bd, .int y]) (by first | rw [hbT c1] | rw [hbF c1]) ?_
      refine lv_icmp_gt (tgt := 111) hx hb dX2_box_60 (by decide) (fun c2 => absurd c2 (by rw [Int32.lt_iff_toInt_lt]; omega)) (fun c2 => ?_)
      refine lv_iload_n hx hb dX2_box_63 rfl (lv_at hl 4 rfl) ?_
      refine lv_istore (lv' := [(6, .int xl), (5, .int y), (4, .int x), (3, .int tt), (0, .ref (ad 30)), (1, .int xl), (2, .int xh)]) hx hb dX2_box_64 hl (by decide) rfl (fun ls hl => ?_)
      refine lp_bz X hN hn hn4 hn1 he he3 hlh hh hR (bd := if n ≤ 3 then xl else xh) (fun q => (if_pos q).symm) (fun q => (if_neg (Nat.not_le.mpr q)).symm) (by split <;> omega) (t9 := k_b2 n eq I xl xh x y tt) (fun w9 H locs ls hI hl => ?_) (k_fu xl (if n ≤ 3 then xl else xh)) xl tt _ _ _ (by unfold k_fu; split <;> omega) hI (lv_sub hl [0, 1, 2, 3, 4, 5, 6] rfl) rfl
      refine lv_iinc (v := y + 1) (lv' := [(5, .int (y + 1)), (6, .int w9), (4, .int x), (3, .int (k_b2 n eq I xl xh x y tt)), (0, .ref (ad 30)), (1, .int xl), (2, .int xh)]) hx hb dX2_box_105 hl (k := 1) rfl rfl (by decide) rfl (fun ls hl => ?_)
      refine lv_goto (tgt := 45) hx hb dX2_box_108 (by decide) ?_
      exact ih _ _ _ _ _ (by rw [i32_succ (by omega)]; omega) hI (lv_sub hl [0, 2, 3, 4, 5, 6] rfl) hF
    · refine lv_iload_n hx hb dX2_box_55 rfl (lv_at hl 5 rfl) ?_
      refine lv_goto (tgt := 60) hx hb dX2_box_56 (by decide) ?_
      refine W.eq (g2 := F0 m 60 ls [.int bd, .int y]) (by first | rw [hbT c1] | rw [hbF c1]) ?_
      refine lv_icmp_gt (tgt := 111) hx hb dX2_box_60 (by decide) (fun c3 => absurd c3 (by rw [Int32.lt_iff_toInt_lt]; omega)) (fun c3 => ?_)
      refine lv_iload_n hx hb dX2_box_63 rfl (lv_at hl 4 rfl) ?_
      refine lv_istore (lv' := [(6, .int xl), (5, .int y), (4, .int x), (3, .int tt), (0, .ref (ad 30)), (1, .int xl), (2, .int xh)]) hx hb dX2_box_64 hl (by decide) rfl (fun ls hl => ?_)
      refine lp_bz X hN hn hn4 hn1 he he3 hlh hh hR (bd := if n ≤ 3 then xl else xh) (fun q => (if_pos q).symm) (fun q => (if_neg (Nat.not_le.mpr q)).symm) (by split <;> omega) (t9 := k_b2 n eq I xl xh x y tt) (fun w9 H locs ls hI hl => ?_) (k_fu xl (if n ≤ 3 then xl else xh)) xl tt _ _ _ (by unfold k_fu; split <;> omega) hI (lv_sub hl [0, 1, 2, 3, 4, 5, 6] rfl) rfl
      refine lv_iinc (v := y + 1) (lv' := [(5, .int (y + 1)), (6, .int w9), (4, .int x), (3, .int (k_b2 n eq I xl xh x y tt)), (0, .ref (ad 30)), (1, .int xl), (2, .int xh)]) hx hb dX2_box_105 hl (k := 1) rfl rfl (by decide) rfl (fun ls hl => ?_)
      refine lv_goto (tgt := 45) hx hb dX2_box_108 (by decide) ?_
      exact ih _ _ _ _ _ (by rw [i32_succ (by omega)]; omega) hI (lv_sub hl [0, 2, 3, 4, 5, 6] rfl) hF
theorem lp_bx {p : Program} {l : Launch} {e : Env} {R : Room} {s : State} {m : MethodId} {args : Array Value} {below : List Frame} {meth : Method} {c : Code} {Q : State → Prop} {D : va_G} {dA : Nat → ClassId} {ad : Nat → Nat} {N : Nat} {A : Nat → Prop} {H0 : Heap} {I : fl_TI} {J : fl_TJ} {t9 : Int32} {n eq : Nat} {xl xh : Int32} (X : CallFix p m c cX2_box 7 s args fl_tb RX2) (hN : 37 ≤ N) (hn : I 30 0 = nI n) (hn4 : n ≤ 4) (hn1 : 1 ≤ n) (he : I 30 1 = nI eq) (he3 : eq ≤ 3) (hlh : xl.toInt ≤ xh.toInt) (hh : xh.toInt ≤ 12) (hR : 1 + 1 ≤ R.frames ∧ 8 + (11 + 11) + 40 * 1 ≤ R.locals) {bd : Int32} (hbT : n ≤ 1 → xl = bd) (hbF : 1 < n → xh = bd) (hbd : bd.toInt ≤ 12)
    (kx : ∀ (w9 : Int32) (H : Heap) (locs : List Loc) (ls : Array Slot), fl_I D dA ad N I J A s H0 H locs → lv_has ls 7 [(4, .int w9), (3, .int t9), (0, .ref (ad 30)), (1, .int xl), (2, .int xh)] → W p l e R s m args below meth c H locs 0 0 Q (F0 m 117 ls [])) :
    ∀ (k : Nat) (x tt : Int32) (H : Heap) (locs : List Loc) (ls : Array Slot), x.toInt + k = bd.toInt + 1 → fl_I D dA ad N I J A s H0 H locs → lv_has ls 7 [(4, .int x), (3, .int tt), (0, .ref (ad 30)), (1, .int xl), (2, .int xh)] → k_bt (k_b1 n eq I xl xh) k x tt = t9 → W p l e R s m args below meth c H locs 0 0 Q (F0 m 24 ls []) := by
  have hx := X.1
  have hb := X.2.1
  intro k
  induction k with
  | zero =>
    intro x tt H locs ls hk hI hl hF
    have hF : tt = t9 := hF
    subst hF
    refine lv_iload hx hb dX2_box_24 (lv_at hl 0 rfl) ?_
    refine lv_aload_n hx hb dX2_box_26 rfl (lv_at hl 2 rfl) ?_
    refine fl_get2 X hI dX2_box_27 (by omega) 0 (by decide) wf_X2_7 rfl ?_
    refine W.eq (g2 := F0 m 30 ls [.int (nI n), .int x]) (by rw [hn]) ?_
    refine lv_iconst (v := nI 1) hx hb dX2_box_30 (by decide) ?_
    refine fn_icmp_le X (tgt := 38) dX2_box_31 (by decide) (by omega) (by omega) (fun c1 => ?_) (fun c1 => ?_)
    · refine lv_iload_n hx hb dX2_box_38 rfl (lv_at hl 3 rfl) ?_
      refine W.eq (g2 := F0 m 39 ls [.int bd, .int x]) (by first | rw [hbT c1] | rw [hbF c1]) ?_
      refine lv_icmp_gt (tgt := 117) hx hb dX2_box_39 (by decide) (fun c2 => ?_) (fun c2 => absurd (by rw [Int32.lt_iff_toInt_lt]; omega) c2)
      exact kx _ _ _ _ hI (lv_sub hl [0, 1, 2, 3, 4] rfl)
    · refine lv_iload_n hx hb dX2_box_34 rfl (lv_at hl 4 rfl) ?_
      refine lv_goto (tgt := 39) hx hb dX2_box_35 (by decide) ?_
      refine W.eq (g2 := F0 m 39 ls [.int bd, .int x]) (by first | rw [hbT c1] | rw [hbF c1]) ?_
      refine lv_icmp_gt (tgt := 117) hx hb dX2_box_39 (by decide) (fun c3 => ?_) (fun c3 => absurd (by rw [Int32.lt_iff_toInt_lt]; omega) c3)
      exact kx _ _ _ _ hI (lv_sub hl [0, 1, 2, 3, 4] rfl)
  | succ k ih =>
    intro x tt H locs ls hk hI hl hF
    refine lv_iload hx hb dX2_box_24 (lv_at hl 0 rfl) ?_
    refine lv_aload_n hx hb dX2_box_26 rfl (lv_at hl 2 rfl) ?_
    refine fl_get2 X hI dX2_box_27 (by omega) 0 (by decide) wf_X2_7 rfl ?_
    refine W.eq (g2 := F0 m 30 ls [.int (nI n), .int x]) (by rw [hn]) ?_
    refine lv_iconst (v := nI 1) hx hb dX2_box_30 (by decide) ?_
    refine fn_icmp_le X (tgt := 38) dX2_box_31 (by decide) (by omega) (by omega) (fun c1 => ?_) (fun c1 => ?_)
    · refine lv_iload_n hx hb dX2_box_38 rfl (lv_at hl 3 rfl) ?_
      refine W.eq (g2 := F0 m 39 ls [.int bd, .int x]) (by first | rw [hbT c1] | rw [hbF c1]) ?_
      refine lv_icmp_gt (tgt := 117) hx hb dX2_box_39 (by decide) (fun c2 => absurd c2 (by rw [Int32.lt_iff_toInt_lt]; omega)) (fun c2 => ?_)
      refine lv_iload_n hx hb dX2_box_42 rfl (lv_at hl 3 rfl) ?_
      refine lv_istore (lv' := [(5, .int xl), (4, .int x), (3, .int tt), (0, .ref (ad 30)), (1, .int xl), (2, .int xh)]) hx hb dX2_box_43 hl (by decide) rfl (fun ls hl => ?_)
      refine lp_by X hN hn hn4 hn1 he he3 hlh hh hR (bd := if n ≤ 2 then xl else xh) (fun q => (if_pos q).symm) (fun q => (if_neg (Nat.not_le.mpr q)).symm) (by split <;> omega) (t9 := k_b1 n eq I xl xh x tt) (fun w9 H locs ls hI hl => ?_) (k_fu xl (if n ≤ 2 then xl else xh)) xl tt _ _ _ (by unfold k_fu; split <;> omega) hI (lv_sub hl [0, 1, 2, 3, 4, 5] rfl) rfl
      refine lv_iinc (v := x + 1) (lv' := [(4, .int (x + 1)), (5, .int w9), (3, .int (k_b1 n eq I xl xh x tt)), (0, .ref (ad 30)), (1, .int xl), (2, .int xh)]) hx hb dX2_box_111 hl (k := 1) rfl rfl (by decide) rfl (fun ls hl => ?_)
      refine lv_goto (tgt := 24) hx hb dX2_box_114 (by decide) ?_
      exact ih _ _ _ _ _ (by rw [i32_succ (by omega)]; omega) hI (lv_sub hl [0, 2, 3, 4, 5] rfl) hF
    · refine lv_iload_n hx hb dX2_box_34 rfl (lv_at hl 4 rfl) ?_
      refine lv_goto (tgt := 39) hx hb dX2_box_35 (by decide) ?_
      refine W.eq (g2 := F0 m 39 ls [.int bd, .int x]) (by first | rw [hbT c1] | rw [hbF c1]) ?_
      refine lv_icmp_gt (tgt := 117) hx hb dX2_box_39 (by decide) (fun c3 => absurd c3 (by rw [Int32.lt_iff_toInt_lt]; omega)) (fun c3 => ?_)
      refine lv_iload_n hx hb dX2_box_42 rfl (lv_at hl 3 rfl) ?_
      refine lv_istore (lv' := [(5, .int xl), (4, .int x), (3, .int tt), (0, .ref (ad 30)), (1, .int xl), (2, .int xh)]) hx hb dX2_box_43 hl (by decide) rfl (fun ls hl => ?_)
      refine lp_by X hN hn hn4 hn1 he he3 hlh hh hR (bd := if n ≤ 2 then xl else xh) (fun q => (if_pos q).symm) (fun q => (if_neg (Nat.not_le.mpr q)).symm) (by split <;> omega) (t9 := k_b1 n eq I xl xh x tt) (fun w9 H locs ls hI hl => ?_) (k_fu xl (if n ≤ 2 then xl else xh)) xl tt _ _ _ (by unfold k_fu; split <;> omega) hI (lv_sub hl [0, 1, 2, 3, 4, 5] rfl) rfl
      refine lv_iinc (v := x + 1) (lv' := [(4, .int (x + 1)), (5, .int w9), (3, .int (k_b1 n eq I xl xh x tt)), (0, .ref (ad 30)), (1, .int xl), (2, .int xh)]) hx hb dX2_box_111 hl (k := 1) rfl rfl (by decide) rfl (fun ls hl => ?_)
      refine lv_goto (tgt := 24) hx hb dX2_box_114 (by decide) ?_
      exact ih _ _ _ _ _ (by rw [i32_succ (by omega)]; omega) hI (lv_sub hl [0, 2, 3, 4, 5] rfl) hF
theorem m_X2_box_bad (D : va_G) (dA : Nat → ClassId) (ad : Nat → Nat) (N : Nat) (I : fl_TI) (J : fl_TJ) (hN : 37 ≤ N) {xl xh : Int32} (hbad : xl < -12 ∨ nI 12 < xh ∨ ¬ xl ≤ xh) : FM yX2_box cX2_box 7 (some .int) 2 D dA ad N [.ref (ad 30), .int xl, .int xh] I J (fun v I' J' => v = some (.int (-1)) ∧ I' = I ∧ J' = J) := by
  refine FM.ofW RX2 rfl (by decide +kernel) (Nat.le_of_ble_eq_true rfl) ?_
  intro p l e s m args below meth c ls X hr hlk hI hl
  have hx := X.1
  have hb := X.2.1
  have hl : lv_has ls 7 [(0, .ref (ad 30)), (1, .int xl), (2, .int xh)] := hl
  refine lv_iload_n hx hb dX2_box_0 rfl (lv_at hl 1 rfl) ?_
  refine lv_bipush (v := (-12)) hx hb dX2_box_1 (by decide) ?_
  refine lv_icmp_lt (tgt := 17) hx hb dX2_box_3 (by decide) (fun c1 => ?_) (fun c1 => ?_)
  · refine lv_iconst (v := (-1)) hx hb dX2_box_17 (by decide) ?_
    exact fl_iret X hr hlk hI dX2_box_18 ⟨rfl, rfl, rfl⟩
  · refine lv_iload_n hx hb dX2_box_6 rfl (lv_at hl 2 rfl) ?_
    refine lv_bipush (v := nI 12) hx hb dX2_box_7 (by decide) ?_
    refine lv_icmp_gt (tgt := 17) hx hb dX2_box_9 (by decide) (fun c2 => ?_) (fun c2 => ?_)
    · refine lv_iconst (v := (-1)) hx hb dX2_box_17 (by decide) ?_
      exact fl_iret X hr hlk hI dX2_box_18 ⟨rfl, rfl, rfl⟩
    · refine lv_iload_n hx hb dX2_box_12 rfl (lv_at hl 2 rfl) ?_
      refine lv_iload_n hx hb dX2_box_13 rfl (lv_at hl 1 rfl) ?_
      refine lv_icmp_ge (tgt := 19) hx hb dX2_box_14 (by decide) (fun c3 => ?_) (fun c3 => ?_)
      · exact absurd hbad (fun q => q.elim c1 (fun q => q.elim c2 (fun z => z c3)))
      · refine lv_iconst (v := (-1)) hx hb dX2_box_17 (by decide) ?_
        exact fl_iret X hr hlk hI dX2_box_18 ⟨rfl, rfl, rfl⟩
theorem m_X2_box (D : va_G) (dA : Nat → ClassId) (ad : Nat → Nat) (N : Nat) (I : fl_TI) (J : fl_TJ) {n eq : Nat} {xl xh : Int32} (hN : 37 ≤ N) (hn : I 30 0 = nI n) (hn4 : n ≤ 4) (hn1 : 1 ≤ n) (he : I 30 1 = nI eq) (he3 : eq ≤ 3) (h1 : ¬ xl < -12) (h2 : ¬ nI 12 < xh) (h3 : xl ≤ xh) : FM yX2_box cX2_box 7 (some .int) 2 D dA ad N [.ref (ad 30), .int xl, .int xh] I J (fun v I' J' => v = some (.int (k_box n eq I xl xh)) ∧ I' = I ∧ J' = J) := by
  refine FM.ofW RX2 rfl (by decide +kernel) (Nat.le_of_ble_eq_true rfl) ?_
  intro p l e s m args below meth c ls X hr hlk hI hl
  have hx := X.1
  have hb := X.2.1
  have hl : lv_has ls 7 [(0, .ref (ad 30)), (1, .int xl), (2, .int xh)] := hl
  refine lv_iload_n hx hb dX2_box_0 rfl (lv_at hl 1 rfl) ?_
  refine lv_bipush (v := (-12)) hx hb dX2_box_1 (by decide) ?_
  refine lv_icmp_lt (tgt := 17) hx hb dX2_box_3 (by decide) (fun c1 => absurd c1 h1) (fun c1 => ?_)
  refine lv_iload_n hx hb dX2_box_6 rfl (lv_at hl 2 rfl) ?_
  refine lv_bipush (v := nI 12) hx hb dX2_box_7 (by decide) ?_
  refine lv_icmp_gt (tgt := 17) hx hb dX2_box_9 (by decide) (fun c2 => absurd c2 h2) (fun c2 => ?_)
  refine lv_iload_n hx hb dX2_box_12 rfl (lv_at hl 2 rfl) ?_
  refine lv_iload_n hx hb dX2_box_13 rfl (lv_at hl 1 rfl) ?_
  refine lv_icmp_ge (tgt := 19) hx hb dX2_box_14 (by decide) (fun c3 => ?_) (fun c3 => absurd h3 c3)
  refine lv_iconst (v := nI 0) hx hb dX2_box_19 (by decide) ?_
  refine lv_istore_n (lv' := [(3, .int (nI 0)), (0, .ref (ad 30)), (1, .int xl), (2, .int xh)]) hx hb dX2_box_20 rfl hl (by decide) rfl (fun ls hl => ?_)
  refine lv_iload_n hx hb dX2_box_21 rfl (lv_at hl 2 rfl) ?_
  refine lv_istore (lv' := [(4, .int xl), (3, .int (nI 0)), (0, .ref (ad 30)), (1, .int xl), (2, .int xh)]) hx hb dX2_box_22 hl (by decide) rfl (fun ls hl => ?_)
  have hlh : xl.toInt ≤ xh.toInt := by rw [Int32.le_iff_toInt_le] at h3; exact h3
  have hh : xh.toInt ≤ 12 := by rw [Int32.lt_iff_toInt_lt] at h2; have h9 : (nI 12).toInt = 12 := rfl; omega
  refine lp_bx X hN hn hn4 hn1 he he3 hlh hh ⟨by decide, by decide⟩ (bd := if n ≤ 1 then xl else xh) (fun q => (if_pos q).symm) (fun q => (if_neg (Nat.not_le.mpr q)).symm) (by split <;> omega) (t9 := k_box n eq I xl xh) (fun w9 H locs ls hI hl => ?_) (k_fu xl (if n ≤ 1 then xl else xh)) xl (nI 0) _ _ _ (by unfold k_fu; split <;> omega) hI (lv_sub hl [0, 1, 2, 3, 4] rfl) rfl
  refine lv_iload_n hx hb dX2_box_117 rfl (lv_at hl 1 rfl) ?_
  exact fl_iret X hr hlk hI dX2_box_118 ⟨rfl, rfl, rfl⟩
