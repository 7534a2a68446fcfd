/-! the model: relate, before, comes, goes -/
theorem k_form_I (fu mn w : Nat) (hw : w ≤ 64) : ∀ (k cl tp : Nat) (I : fl_TI) (J : fl_TJ) (x : Nat × fl_TI × fl_TJ), cl + k = w → tp ≤ mn → (∀ i, i < tp → I 34 i = nI (ldI I 34 i) ∧ ldI I 34 i < w) → k_form fu mn w k cl (tp, I, J) = some x →
    x.1 ≤ mn ∧ (∀ i, i < x.1 → x.2.1 34 i = nI (ldI x.2.1 34 i) ∧ ldI x.2.1 34 i < w) ∧ (∀ a b, a ≠ 34 → x.2.1 a b = I a b) := by
  intro k
  induction k with
  | zero =>
    intro cl tp I J x hk ht hl hF
    have hF : (tp, I, J) = x := Option.some.inj hF
    subst hF
    exact ⟨ht, hl, fun _ _ _ => rfl⟩
  | succ k ih =>
    intro cl tp I J x hk ht hl hF
    simp only [k_form] at hF
    cases hq : k_least tp cl mn J with
    | none =>
      rw [hq] at hF
      exact ih (cl + 1) tp I J x (by omega) ht hl hF
    | some b =>
      rw [hq] at hF
      dsimp only at hF
      obtain ⟨g1, g2, -⟩ := k_least_spec ht hq
      cases hq2 : k_el mn tp cl w fu b J with
      | none => rw [hq2] at hF; cases hF
      | some J1 =>
        rw [hq2] at hF
        obtain ⟨a1, a2, a3⟩ := ih (cl + 1) (tp + 1) _ _ x (by omega) (by omega) (fun i hi => by
          by_cases e : i = tp
          · subst e
            have h9 : fl_up I 34 i (nI cl) 34 i = nI cl := fl_up_s
            rw [ldI_of h9 (by omega), h9]
            exact ⟨rfl, by omega⟩
          · have h9 : fl_up I 34 tp (nI cl) 34 i = I 34 i := fl_up_j e
            have h8 : ldI (fl_up I 34 tp (nI cl)) 34 i = ldI I 34 i := by unfold ldI; rw [h9]
            rw [h8, h9]
            exact hl i (by omega)) hF
        exact ⟨a1, a2, fun a b h => by rw [a3 a b h]; exact fl_up_k h⟩
def k_rel1 (j e : Nat) (I : fl_TI) (J : fl_TJ) : fl_TJ := fl_it (fun q J => fl_up J 33 (8 * j + q) (if e ≤ q then (if q ≠ e + j then 0 else 1) else (I 31 (4 * q + j)).toInt64)) 8 0 J
def k_rel (n e : Nat) (I : fl_TI) (J : fl_TJ) : fl_TJ := fl_it (fun j J => k_rel1 j e I J) n 0 J
theorem lp_rel1 {p : Program} {l : Launch} {e : Env} {R : Room} {s : State} {m : MethodId} {args : Array Value} {below : List Frame} {meth : Method} {c : Code} {Q : State → Prop} {D : va_G} {dA : Nat → ClassId} {ad : Nat → Nat} {N : Nat} {A : Nat → Prop} {H0 : Heap} {I : fl_TI} {J9 : fl_TJ} (X : CallFix p m c cX2_relate 4 s args fl_tb RX2) {n ea j : Nat} (hN : 37 ≤ N) (hn : I 30 0 = nI n) (hn4 : n ≤ 4) (he3 : ea ≤ 3) (hj : j < n)
    (kx : ∀ (H : Heap) (locs : List Loc) (ls : Array Slot), fl_I D dA ad N I J9 A s H0 H locs → lv_has ls 4 [(3, .int (nI 8)), (2, .int (nI j)), (0, .ref (ad 30)), (1, .int (nI ea))] → W p l e R s m args below meth c H locs 0 0 Q (F0 m 66 ls [])) :
    ∀ (k i : Nat) (J : fl_TJ) (H : Heap) (locs : List Loc) (ls : Array Slot), i + k = 8 → fl_I D dA ad N I J A s H0 H locs → lv_has ls 4 [(3, .int (nI i)), (2, .int (nI j)), (0, .ref (ad 30)), (1, .int (nI ea))] → fl_it (fun q J => fl_up J 33 (8 * j + q) (if ea ≤ q then (if q ≠ ea + j then 0 else 1) else (I 31 (4 * q + j)).toInt64)) k i J = J9 → W p l e R s m args below meth c H locs 0 0 Q (F0 m 12 ls []) := by
  have hx := X.1
  have hb := X.2.1
  intro k
  induction k with
  | zero =>
    intro i J H locs ls hk hI hl hF
    have hF : J = J9 := hF
    subst hF
    have hk : 8 = i := by omega
    subst hk
    refine lv_iload_n hx hb dX2_relate_12 rfl (lv_at hl 0 rfl) ?_
    refine lv_bipush (v := nI 8) hx hb dX2_relate_13 (by decide) ?_
    refine fn_icmp_ge X (tgt := 66) dX2_relate_15 (by decide) (by omega) (by omega) (fun c1 => ?_) (fun c1 => absurd c1 (by omega))
    exact kx _ _ _ hI (lv_sub hl [0, 1, 2, 3] rfl)
  | succ k ih =>
    intro i J H locs ls hk hI hl hF
    refine lv_iload_n hx hb dX2_relate_12 rfl (lv_at hl 0 rfl) ?_
    refine lv_bipush (v := nI 8) hx hb dX2_relate_13 (by decide) ?_
    refine fn_icmp_ge X (tgt := 66) dX2_relate_15 (by decide) (by omega) (by omega) (fun c1 => absurd c1 (by omega)) (fun c1 => ?_)
    refine lv_aload_n hx hb dX2_relate_18 rfl (lv_at hl 2 rfl) ?_
    refine fl_get2 X hI dX2_relate_19 (by omega) 4 (by decide) wf_X2_20 rfl ?_
    refine lv_bipush (v := nI 8) hx hb dX2_relate_22 (by decide) ?_
    refine lv_iload_n hx hb dX2_relate_24 rfl (lv_at hl 1 rfl) ?_
    refine fn_imul X dX2_relate_25 ?_
    refine lv_iload_n hx hb dX2_relate_26 rfl (lv_at hl 0 rfl) ?_
    refine fn_iadd X dX2_relate_27 ?_
    refine lv_iload_n hx hb dX2_relate_28 rfl (lv_at hl 0 rfl) ?_
    refine lv_iload_n hx hb dX2_relate_29 rfl (lv_at hl 3 rfl) ?_
    refine fn_icmp_ge X (tgt := 47) dX2_relate_30 (by decide) (by omega) (by omega) (fun c2 => ?_) (fun c2 => ?_)
    · refine lv_iload_n hx hb dX2_relate_47 rfl (lv_at hl 0 rfl) ?_
      refine lv_iload_n hx hb dX2_relate_48 rfl (lv_at hl 3 rfl) ?_
      refine lv_iload_n hx hb dX2_relate_49 rfl (lv_at hl 1 rfl) ?_
      refine fn_iadd X dX2_relate_50 ?_
      refine fn_icmp_ne X (tgt := 58) dX2_relate_51 (by decide) (by omega) (by omega) (fun c3 => ?_) (fun c3 => ?_)
      · refine lv_lconst (v := 0) hx hb dX2_relate_58 rfl ?_
        refine fn_last (k := 33) X hI dX2_relate_59 (by omega) rfl (show (8 * j) + i < 64 by omega) (fun H locs hI => ?_)
        refine fn_iinc (a := i) (lv' := [(3, .int (nI (i + 1))), (2, .int (nI j)), (0, .ref (ad 30)), (1, .int (nI ea))]) X dX2_relate_60 hl (k := 0) rfl (by decide) rfl (fun ls hl => ?_)
        refine lv_goto (tgt := 12) hx hb dX2_relate_63 (by decide) ?_
        exact ih (i + 1) _ _ _ _ (by omega) hI (lv_sub hl [0, 1, 2, 3] rfl) (by have h9 := hF; simp only [fl_it] at h9; (first | rw [if_pos c2] at h9 | rw [if_neg (by omega : ¬ ea ≤ i)] at h9 | rw [if_neg (fun z => z c2)] at h9 | skip); (first | rw [if_pos c3] at h9 | rw [if_neg (by omega : ¬ ea ≤ i)] at h9 | rw [if_neg (fun z => z c3)] at h9 | skip); exact h9)
      · refine lv_lconst (v := 1) hx hb dX2_relate_54 rfl ?_
        refine lv_goto (tgt := 59) hx hb dX2_relate_55 (by decide) ?_
        refine fn_last (k := 33) X hI dX2_relate_59 (by omega) rfl (show (8 * j) + i < 64 by omega) (fun H locs hI => ?_)
        refine fn_iinc (a := i) (lv' := [(3, .int (nI (i + 1))), (2, .int (nI j)), (0, .ref (ad 30)), (1, .int (nI ea))]) X dX2_relate_60 hl (k := 0) rfl (by decide) rfl (fun ls hl => ?_)
        refine lv_goto (tgt := 12) hx hb dX2_relate_63 (by decide) ?_
        exact ih (i + 1) _ _ _ _ (by omega) hI (lv_sub hl [0, 1, 2, 3] rfl) (by have h9 := hF; simp only [fl_it] at h9; (first | rw [if_pos c2] at h9 | rw [if_neg (by omega : ¬ ea ≤ i)] at h9 | rw [if_neg (fun z => z c2)] at h9 | skip); (first | rw [if_pos c3] at h9 | rw [if_neg (by omega : ¬ ea ≤ i)] at h9 | rw [if_neg (fun z => z c3)] at h9 | skip); exact h9)
    · refine lv_aload_n hx hb dX2_relate_33 rfl (lv_at hl 2 rfl) ?_
      refine fl_get2 X hI dX2_relate_34 (by omega) 2 (by decide) wf_X2_13 rfl ?_
      refine lv_iconst (v := nI 4) hx hb dX2_relate_37 (by decide) ?_
      refine lv_iload_n hx hb dX2_relate_38 rfl (lv_at hl 0 rfl) ?_
      refine fn_imul X dX2_relate_39 ?_
      refine lv_iload_n hx hb dX2_relate_40 rfl (lv_at hl 1 rfl) ?_
      refine fn_iadd X dX2_relate_41 ?_
      refine fn_iald (k := 31) X hI dX2_relate_42 (by omega) rfl (show (4 * i) + j < 12 by omega) ?_
      refine lv_i2l hx hb dX2_relate_43 rfl ?_
      refine lv_goto (tgt := 59) hx hb dX2_relate_44 (by decide) ?_
      refine fn_last (k := 33) X hI dX2_relate_59 (by omega) rfl (show (8 * j) + i < 64 by omega) (fun H locs hI => ?_)
      refine fn_iinc (a := i) (lv' := [(3, .int (nI (i + 1))), (2, .int (nI j)), (0, .ref (ad 30)), (1, .int (nI ea))]) X dX2_relate_60 hl (k := 0) rfl (by decide) rfl (fun ls hl => ?_)
      refine lv_goto (tgt := 12) hx hb dX2_relate_63 (by decide) ?_
      exact ih (i + 1) _ _ _ _ (by omega) hI (lv_sub hl [0, 1, 2, 3] rfl) (by have h9 := hF; simp only [fl_it] at h9; (first | rw [if_pos c2] at h9 | rw [if_neg (by omega : ¬ ea ≤ i)] at h9 | rw [if_neg (fun z => z c2)] at h9 | skip); exact h9)
theorem lp_rel {p : Program} {l : Launch} {e : Env} {R : Room} {s : State} {m : MethodId} {args : Array Value} {below : List Frame} {meth : Method} {c : Code} {Q : State → Prop} {D : va_G} {dA : Nat → ClassId} {ad : Nat → Nat} {N : Nat} {A : Nat → Prop} {H0 : Heap} {I : fl_TI} {J9 : fl_TJ} (X : CallFix p m c cX2_relate 4 s args fl_tb RX2) {n ea : Nat} (hN : 37 ≤ N) (hn : I 30 0 = nI n) (hn4 : n ≤ 4) (he3 : ea ≤ 3)
    (kx : ∀ (H : Heap) (locs : List Loc) (ls : Array Slot), fl_I D dA ad N I J9 A s H0 H locs → lv_has ls 4 [(2, .int (nI n)), (0, .ref (ad 30)), (1, .int (nI ea))] → W p l e R s m args below meth c H locs 0 0 Q (F0 m 72 ls [])) :
    ∀ (k i : Nat) (J : fl_TJ) (H : Heap) (locs : List Loc) (ls : Array Slot), i + k = n → fl_I D dA ad N I J A s H0 H locs → lv_has ls 4 [(2, .int (nI i)), (0, .ref (ad 30)), (1, .int (nI ea))] → fl_it (fun j J => k_rel1 j ea I J) k i J = J9 → W p l e R s m args below meth c H locs 0 0 Q (F0 m 2 ls []) := by
  have hx := X.1
  have hb := X.2.1
  intro k
  induction k with
  | zero =>
    intro i J H locs ls hk hI hl hF
    have hF : J = J9 := hF
    subst hF
    have hk : n = i := by omega
    subst hk
    refine lv_iload_n hx hb dX2_relate_2 rfl (lv_at hl 0 rfl) ?_
    refine lv_aload_n hx hb dX2_relate_3 rfl (lv_at hl 1 rfl) ?_
    refine fl_get2 X hI dX2_relate_4 (by omega) 0 (by decide) wf_X2_7 rfl ?_
    refine W.eq (g2 := F0 m 7 ls [.int (nI n), .int (nI n)]) (by rw [hn]) ?_
    refine fn_icmp_ge X (tgt := 72) dX2_relate_7 (by decide) (by omega) (by omega) (fun c1 => ?_) (fun c1 => absurd c1 (by omega))
    exact kx _ _ _ hI (lv_sub hl [0, 1, 2] rfl)
  | succ k ih =>
    intro i J H locs ls hk hI hl hF
    refine lv_iload_n hx hb dX2_relate_2 rfl (lv_at hl 0 rfl) ?_
    refine lv_aload_n hx hb dX2_relate_3 rfl (lv_at hl 1 rfl) ?_
    refine fl_get2 X hI dX2_relate_4 (by omega) 0 (by decide) wf_X2_7 rfl ?_
    refine W.eq (g2 := F0 m 7 ls [.int (nI n), .int (nI i)]) (by rw [hn]) ?_
    refine fn_icmp_ge X (tgt := 72) dX2_relate_7 (by decide) (by omega) (by omega) (fun c1 => absurd c1 (by omega)) (fun c1 => ?_)
    refine lv_iconst (v := nI 0) hx hb dX2_relate_10 (by decide) ?_
    refine lv_istore_n (lv' := [(3, .int (nI 0)), (2, .int (nI i)), (0, .ref (ad 30)), (1, .int (nI ea))]) hx hb dX2_relate_11 rfl hl (by decide) rfl (fun ls hl => ?_)
    refine lp_rel1 X hN hn hn4 he3 (j := i) (by omega) (J9 := k_rel1 i ea I J) (fun H locs ls hI hl => ?_) 8 0 _ _ _ _ (Nat.zero_add _) hI (lv_sub hl [0, 1, 2, 3] rfl) rfl
    refine fn_iinc (a := i) (lv' := [(2, .int (nI (i + 1))), (3, .int (nI 8)), (0, .ref (ad 30)), (1, .int (nI ea))]) X dX2_relate_66 hl (k := 1) rfl (by decide) rfl (fun ls hl => ?_)
    refine lv_goto (tgt := 2) hx hb dX2_relate_69 (by decide) ?_
    exact ih (i + 1) _ _ _ _ (by omega) hI (lv_sub hl [0, 2, 3] rfl) hF
theorem m_X2_relate (D : va_G) (dA : Nat → ClassId) (ad : Nat → Nat) (N : Nat) (I : fl_TI) (J : fl_TJ) {fu n ea tp9 : Nat} {I9 : fl_TI} {J9 : fl_TJ} (hN : 37 ≤ N) (hn : I 30 0 = nI n) (hn4 : n ≤ 4) (he3 : ea ≤ 3) (hF : k_form fu n (ea + n) (ea + n) 0 (0, I, k_rel n ea I J) = some (tp9, I9, J9)) : FM yX2_relate cX2_relate 4 none 3 D dA ad N [.ref (ad 30), .int (nI ea)] I J (fun v I' J' => v = none ∧ I' = fl_up I9 30 5 (nI tp9) ∧ J' = J9) := by
  refine FM.ofW RX2 rfl (by decide +kernel) (Nat.le_of_ble_eq_true rfl) ?_
  intro p l e s m args below meth c ls X hr hlk hI hl
  have hx := X.1
  have hb := X.2.1
  have hl : lv_has ls 4 [(0, .ref (ad 30)), (1, .int (nI ea))] := hl
  refine lv_iconst (v := nI 0) hx hb dX2_relate_0 (by decide) ?_
  refine lv_istore_n (lv' := [(2, .int (nI 0)), (0, .ref (ad 30)), (1, .int (nI ea))]) hx hb dX2_relate_1 rfl hl (by decide) rfl (fun ls hl => ?_)
  refine lp_rel X hN hn hn4 he3 (J9 := k_rel n ea I J) (fun H locs ls hI hl => ?_) n 0 _ _ _ _ (Nat.zero_add _) hI (lv_sub hl [0, 1, 2] rfl) rfl
  refine lv_aload_n hx hb dX2_relate_72 rfl (lv_at hl 1 rfl) ?_
  refine lv_aload_n hx hb dX2_relate_73 rfl (lv_at hl 1 rfl) ?_
  refine fl_get2 X hI dX2_relate_74 (by omega) 0 (by decide) wf_X2_7 rfl ?_
  refine W.eq (g2 := F0 m 77 ls [.int (nI n), .ref (ad 30)]) (by rw [hn]) ?_
  refine lv_iload_n hx hb dX2_relate_77 rfl (lv_at hl 2 rfl) ?_
  refine lv_aload_n hx hb dX2_relate_78 rfl (lv_at hl 1 rfl) ?_
  refine fl_get2 X hI dX2_relate_79 (by omega) 0 (by decide) wf_X2_7 rfl ?_
  refine W.eq (g2 := F0 m 82 ls [.int (nI n), .int (nI ea), .int (nI n), .ref (ad 30)]) (by rw [hn]) ?_
  refine fn_iadd X dX2_relate_82 ?_
  refine fl_callV (k := 30) (As := [.int (nI n), .int (nI (ea + n))]) (rest := []) X hI dX2_relate_83 (m_X2_form D dA ad N I (k_rel n ea I J) hN (fu := fu) (mn := n) (w := ea + n) (by omega) (by omega) hF) (by omega) fl_c_6 rfl rfl wc_yX2_form wm_X2_69 wi_yX2_form wl_yX2_form wn_X2 hd_yX2_form rfl ⟨by first | decide | omega, by first | decide | omega⟩ hl.1 (Nat.le_of_ble_eq_true rfl) (fun v I2 J2 H locs hp hI => ?_)
  obtain ⟨hv, hI2, hJ2⟩ := hp
  subst hv
  rw [hI2, hJ2] at hI
  refine W.eq (g2 := F0 m 86 ls []) rfl ?_
  exact fl_vret X hr hlk hI dX2_relate_86 ⟨rfl, rfl, rfl⟩
def k_bef (I : fl_TI) (e : Nat) : Nat → Nat → Nat
  | 0, i => i
  | k + 1, i => if e ≤ ldI I 34 i then i else k_bef I e k (i + 1)
theorem k_bef_le (I : fl_TI) (e : Nat) : ∀ k i, i ≤ k_bef I e k i ∧ k_bef I e k i ≤ i + k ∧ ∀ j, i ≤ j → j < k_bef I e k i → ldI I 34 j < e := by
  intro k
  induction k with
  | zero => intro i; exact ⟨Nat.le_refl _, Nat.le_refl _, fun j h1 h2 => absurd h2 (by show ¬ j < i; omega)⟩
  | succ k ih =>
    intro i
    simp only [k_bef]
    by_cases q : e ≤ ldI I 34 i
    · rw [if_pos q]
      exact ⟨Nat.le_refl _, by omega, fun j h1 h2 => by omega⟩
    · rw [if_neg q]
      obtain ⟨h1, h2, h3⟩ := ih (i + 1)
      refine ⟨by omega, by omega, fun j h4 h5 => ?_⟩
      by_cases ej : j = i
      · subst ej; omega
      · exact h3 j (by omega) h5
theorem lp_bef2 {p : Program} {l : Launch} {e : Env} {R : Room} {s : State} {m : MethodId} {args : Array Value} {below : List Frame} {meth : Method} {c : Code} {D : va_G} {dA : Nat → ClassId} {ad : Nat → Nat} {N : Nat} {A : Nat → Prop} {I : fl_TI} {J : fl_TJ} {post : Option Value → fl_TI → fl_TJ → Prop} {rk ea : Nat} (X : CallFix p m c cX2_before 3 s args fl_tb RX2) (hr : meth.sig.returnType = some .int) (hlk : meth.locks = false) (hN : 37 ≤ N) (hrk : I 30 5 = nI rk) (hrk8 : rk ≤ 8) (he8 : ea ≤ 64) (hld : ∀ i, i < rk → I 34 i = nI (ldI I 34 i) ∧ ldI I 34 i < 8) :
    ∀ (k i : Nat) (H : Heap) (locs : List Loc) (ls : Array Slot), i + k = rk → fl_I D dA ad N I J A s s.heap H locs → lv_has ls 3 [(2, .int (nI i)), (0, .ref (ad 30)), (1, .int (nI ea))] → post (some (.int (nI (k_bef I ea k i)))) I J → W p l e R s m args below meth c H locs 0 0 (MQ below (fl_Q D dA ad N post A) args s 0 0 A) (F0 m 2 ls []) := by
  have hx := X.1
  have hb := X.2.1
  intro k
  induction k with
  | zero =>
    intro i H locs ls hk hI hl hF
    have hk : rk = i := by omega
    subst hk
    refine lv_iload_n hx hb dX2_before_2 rfl (lv_at hl 0 rfl) ?_
    refine lv_aload_n hx hb dX2_before_3 rfl (lv_at hl 1 rfl) ?_
    refine fl_get2 X hI dX2_before_4 (by omega) 5 (by decide) wf_X2_66 rfl ?_
    refine W.eq (g2 := F0 m 7 ls [.int (nI rk), .int (nI rk)]) (by rw [hrk]) ?_
    refine fn_icmp_ge X (tgt := 26) dX2_before_7 (by decide) (by omega) (by omega) (fun c1 => ?_) (fun c1 => absurd c1 (by omega))
    refine lv_iload_n hx hb dX2_before_26 rfl (lv_at hl 0 rfl) ?_
    exact fl_iret X hr hlk hI dX2_before_27 hF
  | succ k ih =>
    intro i H locs ls hk hI hl hF
    have h44 := (hld i (by omega)).2
    refine lv_iload_n hx hb dX2_before_2 rfl (lv_at hl 0 rfl) ?_
    refine lv_aload_n hx hb dX2_before_3 rfl (lv_at hl 1 rfl) ?_
    refine fl_get2 X hI dX2_before_4 (by omega) 5 (by decide) wf_X2_66 rfl ?_
    refine W.eq (g2 := F0 m 7 ls [.int (nI rk), .int (nI i)]) (by rw [hrk]) ?_
    refine fn_icmp_ge X (tgt := 26) dX2_before_7 (by decide) (by omega) (by omega) (fun c1 => absurd c1 (by omega)) (fun c1 => ?_)
    refine lv_aload_n hx hb dX2_before_10 rfl (lv_at hl 1 rfl) ?_
    refine fl_get2 X hI dX2_before_11 (by omega) 6 (by decide) wf_X2_24 rfl ?_
    refine lv_iload_n hx hb dX2_before_14 rfl (lv_at hl 0 rfl) ?_
    refine fn_iald (k := 34) X hI dX2_before_15 (by omega) rfl (show i < 8 by omega) ?_
    refine W.eq (g2 := F0 m 16 ls [.int (nI (ldI I 34 i))]) (by rw [(hld _ (by omega)).1]) ?_
    refine lv_iload_n hx hb dX2_before_16 rfl (lv_at hl 2 rfl) ?_
    refine fn_icmp_ge X (tgt := 26) dX2_before_17 (by decide) (by omega) (by omega) (fun c2 => ?_) (fun c2 => ?_)
    · refine lv_iload_n hx hb dX2_before_26 rfl (lv_at hl 0 rfl) ?_
      exact fl_iret X hr hlk hI dX2_before_27 (by have h9 := hF; simp only [k_bef] at h9; rw [if_pos (by omega)] at h9; exact h9)
    · refine fn_iinc (a := i) (lv' := [(2, .int (nI (i + 1))), (0, .ref (ad 30)), (1, .int (nI ea))]) X dX2_before_20 hl (k := 0) rfl (by decide) rfl (fun ls hl => ?_)
      refine lv_goto (tgt := 2) hx hb dX2_before_23 (by decide) ?_
      exact ih (i + 1) _ _ _ (by omega) hI (lv_sub hl [0, 1, 2] rfl) (by have h9 := hF; simp only [k_bef] at h9; rw [if_neg (by omega)] at h9; exact h9)
theorem m_X2_before (D : va_G) (dA : Nat → ClassId) (ad : Nat → Nat) (N : Nat) (I : fl_TI) (J : fl_TJ) {rk ea : Nat} (hN : 37 ≤ N) (hrk : I 30 5 = nI rk) (hrk8 : rk ≤ 8) (he8 : ea ≤ 64) (hld : ∀ i, i < rk → I 34 i = nI (ldI I 34 i) ∧ ldI I 34 i < 8) : FM yX2_before cX2_before 3 (some .int) 0 D dA ad N [.ref (ad 30), .int (nI ea)] I J (fun v I' J' => v = some (.int (nI (k_bef I ea rk 0))) ∧ I' = I ∧ J' = J) := by
  refine FM.ofW RX2 rfl (by decide +kernel) (Nat.le_of_ble_eq_true rfl) ?_
  intro p l e s m args below meth c ls X hr hlk hI hl
  have hx := X.1
  have hb := X.2.1
  have hl : lv_has ls 3 [(0, .ref (ad 30)), (1, .int (nI ea))] := hl
  refine lv_iconst (v := nI 0) hx hb dX2_before_0 (by decide) ?_
  refine lv_istore_n (lv' := [(2, .int (nI 0)), (0, .ref (ad 30)), (1, .int (nI ea))]) hx hb dX2_before_1 rfl hl (by decide) rfl (fun ls hl => ?_)
  exact lp_bef2 X hr hlk hN hrk hrk8 he8 hld rk 0 _ _ _ (Nat.zero_add _) hI hl ⟨rfl, rfl, rfl⟩
def k_f0 (J : fl_TJ) : fl_TJ := fl_it (fun j J => fl_up J 36 j 0) 4 0 J
def k_cw (e r : Nat) (t : Int64) (J : fl_TJ) : fl_TJ := fl_it (fun q J => fl_up J 35 q (J 35 q - t * J 33 (8 * r + q))) e 0 J
def k_cf (n e r : Nat) (t : Int64) (J : fl_TJ) : fl_TJ := fl_it (fun j J => fl_up J 36 j (J 36 j + t * J 33 (8 * r + e + j))) n 0 J
def k_cr (n e : Nat) (I : fl_TI) : Nat → Nat → fl_TJ → Nat × fl_TJ
  | 0, _, J => (1, J)
  | k + 1, r, J => if J 35 (ldI I 34 r) / J 33 (8 * r + ldI I 34 r) * J 33 (8 * r + ldI I 34 r) = J 35 (ldI I 34 r) then k_cr n e I k (r + 1) (k_cf n e r (J 35 (ldI I 34 r) / J 33 (8 * r + ldI I 34 r)) (k_cw e r (J 35 (ldI I 34 r) / J 33 (8 * r + ldI I 34 r)) J)) else (0, J)
def k_cz (J : fl_TJ) : Nat → Nat → Nat
  | 0, _ => 1
  | k + 1, i => if J 35 i = 0 then k_cz J k (i + 1) else 0
def k_com (n e rk : Nat) (I : fl_TI) (J : fl_TJ) : Nat × fl_TJ := if (k_cr n e I (k_bef I e rk 0) 0 (k_f0 J)).1 = 0 then (0, (k_cr n e I (k_bef I e rk 0) 0 (k_f0 J)).2) else (k_cz (k_cr n e I (k_bef I e rk 0) 0 (k_f0 J)).2 e 0, (k_cr n e I (k_bef I e rk 0) 0 (k_f0 J)).2)
theorem lp_f0 {p : Program} {l : Launch} {e : Env} {R : Room} {s : State} {m : MethodId} {args : Array Value} {below : List Frame} {meth : Method} {c : Code} {Q : State → Prop} {D : va_G} {dA : Nat → ClassId} {ad : Nat → Nat} {N : Nat} {A : Nat → Prop} {H0 : Heap} {I : fl_TI} {J9 : fl_TJ} (X : CallFix p m c cX2_comes 9 s args fl_tb RX2) {ea : Nat} (hN : 37 ≤ N)
    (kx : ∀ (H : Heap) (locs : List Loc) (ls : Array Slot), fl_I D dA ad N I J9 A s H0 H locs → lv_has ls 9 [(2, .int (nI 4)), (0, .ref (ad 30)), (1, .int (nI ea))] → W p l e R s m args below meth c H locs 0 0 Q (F0 m 20 ls [])) :
    ∀ (k i : Nat) (J : fl_TJ) (H : Heap) (locs : List Loc) (ls : Array Slot), i + k = 4 → fl_I D dA ad N I J A s H0 H locs → lv_has ls 9 [(2, .int (nI i)), (0, .ref (ad 30)), (1, .int (nI ea))] → fl_it (fun j J => fl_up J 36 j 0) k i J = J9 → W p l e R s m args below meth c H locs 0 0 Q (F0 m 2 ls []) := by
  have hx := X.1
  have hb := X.2.1
  intro k
  induction k with
  | zero =>
    intro i J H locs ls hk hI hl hF
    have hF : J = J9 := hF
    subst hF
    have hk : 4 = i := by omega
    subst hk
    refine lv_iload_n hx hb dX2_comes_2 rfl (lv_at hl 0 rfl) ?_
    refine lv_iconst (v := nI 4) hx hb dX2_comes_3 (by decide) ?_
    refine fn_icmp_ge X (tgt := 20) dX2_comes_4 (by decide) (by omega) (by omega) (fun c1 => ?_) (fun c1 => absurd c1 (by omega))
    exact kx _ _ _ hI (lv_sub hl [0, 1, 2] rfl)
  | succ k ih =>
    intro i J H locs ls hk hI hl hF
    refine lv_iload_n hx hb dX2_comes_2 rfl (lv_at hl 0 rfl) ?_
    refine lv_iconst (v := nI 4) hx hb dX2_comes_3 (by decide) ?_
    refine fn_icmp_ge X (tgt := 20) dX2_comes_4 (by decide) (by omega) (by omega) (fun c1 => absurd c1 (by omega)) (fun c1 => ?_)
    refine lv_aload_n hx hb dX2_comes_7 rfl (lv_at hl 1 rfl) ?_
    refine fl_get2 X hI dX2_comes_8 (by omega) 8 (by decide) wf_X2_30 rfl ?_
    refine lv_iload_n hx hb dX2_comes_11 rfl (lv_at hl 0 rfl) ?_
    refine lv_lconst (v := 0) hx hb dX2_comes_12 rfl ?_
    refine fn_last (k := 36) X hI dX2_comes_13 (by omega) rfl (show i < 4 by omega) (fun H locs hI => ?_)
    refine fn_iinc (a := i) (lv' := [(2, .int (nI (i + 1))), (0, .ref (ad 30)), (1, .int (nI ea))]) X dX2_comes_14 hl (k := 0) rfl (by decide) rfl (fun ls hl => ?_)
    refine lv_goto (tgt := 2) hx hb dX2_comes_17 (by decide) ?_
    exact ih (i + 1) _ _ _ _ (by omega) hI (lv_sub hl [0, 1, 2] rfl) hF
theorem lp_cw {p : Program} {l : Launch} {e : Env} {R : Room} {s : State} {m : MethodId} {args : Array Value} {below : List Frame} {meth : Method} {c : Code} {Q : State → Prop} {D : va_G} {dA : Nat → ClassId} {ad : Nat → Nat} {N : Nat} {A : Nat → Prop} {H0 : Heap} {I : fl_TI} {J9 : fl_TJ} (X : CallFix p m c cX2_comes 9 s args fl_tb RX2) {ea r mn : Nat} {t le : Int64} (hN : 37 ≤ N) (he3 : ea ≤ 3) (hr8 : r < 8)
    (kx : ∀ (H : Heap) (locs : List Loc) (ls : Array Slot), fl_I D dA ad N I J9 A s H0 H locs → lv_has ls 9 [(8, .int (nI ea)), (6, .long t), (4, .long le), (3, .int (nI r)), (2, .int (nI mn)), (0, .ref (ad 30)), (1, .int (nI ea))] → W p l e R s m args below meth c H locs 0 0 Q (F0 m 129 ls [])) :
    ∀ (k i : Nat) (J : fl_TJ) (H : Heap) (locs : List Loc) (ls : Array Slot), i + k = ea → fl_I D dA ad N I J A s H0 H locs → lv_has ls 9 [(8, .int (nI i)), (6, .long t), (4, .long le), (3, .int (nI r)), (2, .int (nI mn)), (0, .ref (ad 30)), (1, .int (nI ea))] → fl_it (fun q J => fl_up J 35 q (J 35 q - t * J 33 (8 * r + q))) k i J = J9 → W p l e R s m args below meth c H locs 0 0 Q (F0 m 92 ls []) := by
  have hx := X.1
  have hb := X.2.1
  intro k
  induction k with
  | zero =>
    intro i J H locs ls hk hI hl hF
    have hF : J = J9 := hF
    subst hF
    have hk : ea = i := by omega
    subst hk
    refine lv_iload hx hb dX2_comes_92 (lv_at hl 0 rfl) ?_
    refine lv_iload_n hx hb dX2_comes_94 rfl (lv_at hl 6 rfl) ?_
    refine fn_icmp_ge X (tgt := 129) dX2_comes_95 (by decide) (by omega) (by omega) (fun c1 => ?_) (fun c1 => absurd c1 (by omega))
    exact kx _ _ _ hI (lv_sub hl [0, 1, 2, 3, 4, 5, 6] rfl)
  | succ k ih =>
    intro i J H locs ls hk hI hl hF
    refine lv_iload hx hb dX2_comes_92 (lv_at hl 0 rfl) ?_
    refine lv_iload_n hx hb dX2_comes_94 rfl (lv_at hl 6 rfl) ?_
    refine fn_icmp_ge X (tgt := 129) dX2_comes_95 (by decide) (by omega) (by omega) (fun c1 => absurd c1 (by omega)) (fun c1 => ?_)
    refine lv_aload_n hx hb dX2_comes_98 rfl (lv_at hl 5 rfl) ?_
    refine fl_get2 X hI dX2_comes_99 (by omega) 7 (by decide) wf_X2_27 rfl ?_
    refine lv_iload hx hb dX2_comes_102 (lv_at hl 0 rfl) ?_
    refine lv_dup2_11 hx hb dX2_comes_104 rfl rfl ?_
    refine fn_lald (k := 35) X hI dX2_comes_105 (by omega) rfl (show i < 3 by omega) ?_
    refine lv_lload hx hb dX2_comes_106 (lv_at hl 1 rfl) ?_
    refine lv_aload_n hx hb dX2_comes_108 rfl (lv_at hl 5 rfl) ?_
    refine fl_get2 X hI dX2_comes_109 (by omega) 4 (by decide) wf_X2_20 rfl ?_
    refine lv_bipush (v := nI 8) hx hb dX2_comes_112 (by decide) ?_
    refine lv_iload_n hx hb dX2_comes_114 rfl (lv_at hl 3 rfl) ?_
    refine fn_imul X dX2_comes_115 ?_
    refine lv_iload hx hb dX2_comes_116 (lv_at hl 0 rfl) ?_
    refine fn_iadd X dX2_comes_118 ?_
    refine fn_lald (k := 33) X hI dX2_comes_119 (by omega) rfl (show (8 * r) + i < 64 by omega) ?_
    refine lv_lmul hx hb dX2_comes_120 ?_
    refine lv_lsub hx hb dX2_comes_121 ?_
    refine fn_last (k := 35) X hI dX2_comes_122 (by omega) rfl (show i < 3 by omega) (fun H locs hI => ?_)
    refine fn_iinc (a := i) (lv' := [(8, .int (nI (i + 1))), (6, .long t), (4, .long le), (3, .int (nI r)), (2, .int (nI mn)), (0, .ref (ad 30)), (1, .int (nI ea))]) X dX2_comes_123 hl (k := 0) rfl (by decide) rfl (fun ls hl => ?_)
    refine lv_goto (tgt := 92) hx hb dX2_comes_126 (by decide) ?_
    exact ih (i + 1) _ _ _ _ (by omega) hI (lv_sub hl [0, 1, 2, 3, 4, 5, 6] rfl) hF
theorem lp_cf {p : Program} {l : Launch} {e : Env} {R : Room} {s : State} {m : MethodId} {args : Array Value} {below : List Frame} {meth : Method} {c : Code} {Q : State → Prop} {D : va_G} {dA : Nat → ClassId} {ad : Nat → Nat} {N : Nat} {A : Nat → Prop} {H0 : Heap} {I : fl_TI} {J9 : fl_TJ} (X : CallFix p m c cX2_comes 9 s args fl_tb RX2) {ea r mn n : Nat} {t le : Int64} (hN : 37 ≤ N) (he3 : ea ≤ 3) (hr8 : r < 8) (hn : I 30 0 = nI n) (hn4 : n ≤ 4)
    (kx : ∀ (H : Heap) (locs : List Loc) (ls : Array Slot), fl_I D dA ad N I J9 A s H0 H locs → lv_has ls 9 [(8, .int (nI n)), (6, .long t), (4, .long le), (3, .int (nI r)), (2, .int (nI mn)), (0, .ref (ad 30)), (1, .int (nI ea))] → W p l e R s m args below meth c H locs 0 0 Q (F0 m 183 ls [])) :
    ∀ (k i : Nat) (J : fl_TJ) (H : Heap) (locs : List Loc) (ls : Array Slot), i + k = n → fl_I D dA ad N I J A s H0 H locs → lv_has ls 9 [(8, .int (nI i)), (6, .long t), (4, .long le), (3, .int (nI r)), (2, .int (nI mn)), (0, .ref (ad 30)), (1, .int (nI ea))] → fl_it (fun j J => fl_up J 36 j (J 36 j + t * J 33 (8 * r + ea + j))) k i J = J9 → W p l e R s m args below meth c H locs 0 0 Q (F0 m 132 ls []) := by
  have hx := X.1
  have hb := X.2.1
  intro k
  induction k with
  | zero =>
    intro i J H locs ls hk hI hl hF
    have hF : J = J9 := hF
    subst hF
    have hk : n = i := by omega
    subst hk
    refine lv_iload hx hb dX2_comes_132 (lv_at hl 0 rfl) ?_
    refine lv_aload_n hx hb dX2_comes_134 rfl (lv_at hl 5 rfl) ?_
    refine fl_get2 X hI dX2_comes_135 (by omega) 0 (by decide) wf_X2_7 rfl ?_
    refine W.eq (g2 := F0 m 138 ls [.int (nI n), .int (nI n)]) (by rw [hn]) ?_
    refine fn_icmp_ge X (tgt := 183) dX2_comes_138 (by decide) (by omega) (by omega) (fun c1 => ?_) (fun c1 => absurd c1 (by omega))
    exact kx _ _ _ hI (lv_sub hl [0, 1, 2, 3, 4, 5, 6] rfl)
  | succ k ih =>
    intro i J H locs ls hk hI hl hF
    refine lv_iload hx hb dX2_comes_132 (lv_at hl 0 rfl) ?_
    refine lv_aload_n hx hb dX2_comes_134 rfl (lv_at hl 5 rfl) ?_
    refine fl_get2 X hI dX2_comes_135 (by omega) 0 (by decide) wf_X2_7 rfl ?_
    refine W.eq (g2 := F0 m 138 ls [.int (nI n), .int (nI i)]) (by rw [hn]) ?_
    refine fn_icmp_ge X (tgt := 183) dX2_comes_138 (by decide) (by omega) (by omega) (fun c1 => absurd c1 (by omega)) (fun c1 => ?_)
    refine lv_iload_n hx hb dX2_comes_141 rfl (lv_at hl 6 rfl) ?_
    refine lv_iload hx hb dX2_comes_142 (lv_at hl 0 rfl) ?_
    refine fn_iadd X dX2_comes_144 ?_
    refine lv_bipush (v := nI 8) hx hb dX2_comes_145 (by decide) ?_
    refine fn_icmp_ge X (tgt := 183) dX2_comes_147 (by decide) (by omega) (by omega) (fun c2 => absurd c2 (by omega)) (fun c2 => ?_)
    refine lv_aload_n hx hb dX2_comes_150 rfl (lv_at hl 5 rfl) ?_
    refine fl_get2 X hI dX2_comes_151 (by omega) 8 (by decide) wf_X2_30 rfl ?_
    refine lv_iload hx hb dX2_comes_154 (lv_at hl 0 rfl) ?_
    refine lv_dup2_11 hx hb dX2_comes_156 rfl rfl ?_
    refine fn_lald (k := 36) X hI dX2_comes_157 (by omega) rfl (show i < 4 by omega) ?_
    refine lv_lload hx hb dX2_comes_158 (lv_at hl 1 rfl) ?_
    refine lv_aload_n hx hb dX2_comes_160 rfl (lv_at hl 5 rfl) ?_
    refine fl_get2 X hI dX2_comes_161 (by omega) 4 (by decide) wf_X2_20 rfl ?_
    refine lv_bipush (v := nI 8) hx hb dX2_comes_164 (by decide) ?_
    refine lv_iload_n hx hb dX2_comes_166 rfl (lv_at hl 3 rfl) ?_
    refine fn_imul X dX2_comes_167 ?_
    refine lv_iload_n hx hb dX2_comes_168 rfl (lv_at hl 6 rfl) ?_
    refine fn_iadd X dX2_comes_169 ?_
    refine lv_iload hx hb dX2_comes_170 (lv_at hl 0 rfl) ?_
    refine fn_iadd X dX2_comes_172 ?_
    refine fn_lald (k := 33) X hI dX2_comes_173 (by omega) rfl (show ((8 * r) + ea) + i < 64 by omega) ?_
    refine lv_lmul hx hb dX2_comes_174 ?_
    refine lv_ladd hx hb dX2_comes_175 ?_
    refine fn_last (k := 36) X hI dX2_comes_176 (by omega) rfl (show i < 4 by omega) (fun H locs hI => ?_)
    refine fn_iinc (a := i) (lv' := [(8, .int (nI (i + 1))), (6, .long t), (4, .long le), (3, .int (nI r)), (2, .int (nI mn)), (0, .ref (ad 30)), (1, .int (nI ea))]) X dX2_comes_177 hl (k := 0) rfl (by decide) rfl (fun ls hl => ?_)
    refine lv_goto (tgt := 132) hx hb dX2_comes_180 (by decide) ?_
    exact ih (i + 1) _ _ _ _ (by omega) hI (lv_sub hl [0, 1, 2, 3, 4, 5, 6] rfl) hF
theorem lp_cz {p : Program} {l : Launch} {e : Env} {R : Room} {s : State} {m : MethodId} {args : Array Value} {below : List Frame} {meth : Method} {c : Code} {D : va_G} {dA : Nat → ClassId} {ad : Nat → Nat} {N : Nat} {A : Nat → Prop} {I : fl_TI} {J : fl_TJ} {post : Option Value → fl_TI → fl_TJ → Prop} {ea : Nat} (X : CallFix p m c cX2_comes 9 s args fl_tb RX2) (hr : meth.sig.returnType = some .boolean) (hlk : meth.locks = false) (hN : 37 ≤ N) (he3 : ea ≤ 3) :
    ∀ (k i : Nat) (H : Heap) (locs : List Loc) (ls : Array Slot), i + k = ea → fl_I D dA ad N I J A s s.heap H locs → lv_has ls 9 [(3, .int (nI i)), (0, .ref (ad 30)), (1, .int (nI ea))] → post (some (.int (nI (k_cz J k i)))) I J → W p l e R s m args below meth c H locs 0 0 (MQ below (fl_Q D dA ad N post A) args s 0 0 A) (F0 m 191 ls []) := by
  have hx := X.1
  have hb := X.2.1
  intro k
  induction k with
  | zero =>
    intro i H locs ls hk hI hl hF
    have hk : ea = i := by omega
    subst hk
    refine lv_iload_n hx hb dX2_comes_191 rfl (lv_at hl 0 rfl) ?_
    refine lv_iload_n hx hb dX2_comes_192 rfl (lv_at hl 2 rfl) ?_
    refine fn_icmp_ge X (tgt := 215) dX2_comes_193 (by decide) (by omega) (by omega) (fun c1 => ?_) (fun c1 => absurd c1 (by omega))
    refine lv_iconst (v := nI 1) hx hb dX2_comes_215 (by decide) ?_
    exact fl_zret X hr hlk hI dX2_comes_216 (by decide) hF
  | succ k ih =>
    intro i H locs ls hk hI hl hF
    refine lv_iload_n hx hb dX2_comes_191 rfl (lv_at hl 0 rfl) ?_
    refine lv_iload_n hx hb dX2_comes_192 rfl (lv_at hl 2 rfl) ?_
    refine fn_icmp_ge X (tgt := 215) dX2_comes_193 (by decide) (by omega) (by omega) (fun c1 => absurd c1 (by omega)) (fun c1 => ?_)
    refine lv_aload_n hx hb dX2_comes_196 rfl (lv_at hl 1 rfl) ?_
    refine fl_get2 X hI dX2_comes_197 (by omega) 7 (by decide) wf_X2_27 rfl ?_
    refine lv_iload_n hx hb dX2_comes_200 rfl (lv_at hl 0 rfl) ?_
    refine fn_lald (k := 35) X hI dX2_comes_201 (by omega) rfl (show i < 3 by omega) ?_
    refine lv_lconst (v := 0) hx hb dX2_comes_202 rfl ?_
    refine fl_lc_eq (tgt := 209) hx hb dX2_comes_203 dX2_comes_204 (by decide) (fun c2 => ?_) (fun c2 => ?_)
    · refine fn_iinc (a := i) (lv' := [(3, .int (nI (i + 1))), (0, .ref (ad 30)), (1, .int (nI ea))]) X dX2_comes_209 hl (k := 0) rfl (by decide) rfl (fun ls hl => ?_)
      refine lv_goto (tgt := 191) hx hb dX2_comes_212 (by decide) ?_
      exact ih (i + 1) _ _ _ (by omega) hI (lv_sub hl [0, 1, 2] rfl) (by have h9 := hF; simp only [k_cz] at h9; rw [if_pos c2] at h9; exact h9)
    · refine lv_iconst (v := nI 0) hx hb dX2_comes_207 (by decide) ?_
      exact fl_zret X hr hlk hI dX2_comes_208 (by decide) (by have h9 := hF; simp only [k_cz] at h9; rw [if_neg c2] at h9; exact h9)
theorem k_cw_33 {e r : Nat} {t : Int64} {J : fl_TJ} {y : Nat} : k_cw e r t J 33 y = J 33 y := by
  unfold k_cw
  exact fl_it_keep (fun J' : fl_TJ => J' 33 y = J 33 y) _ e 0 J rfl (fun j x _ _ h => by show fl_up x 35 j _ 33 y = _; rw [fl_up_k (by omega)]; exact h)
theorem k_cf_33 {n e r : Nat} {t : Int64} {J : fl_TJ} {y : Nat} : k_cf n e r t J 33 y = J 33 y := by
  unfold k_cf
  exact fl_it_keep (fun J' : fl_TJ => J' 33 y = J 33 y) _ n 0 J rfl (fun j x _ _ h => by show fl_up x 36 j _ 33 y = _; rw [fl_up_k (by omega)]; exact h)
theorem k_f0_33 {J : fl_TJ} {y : Nat} : k_f0 J 33 y = J 33 y := by
  unfold k_f0
  exact fl_it_keep (fun J' : fl_TJ => J' 33 y = J 33 y) _ 4 0 J rfl (fun j x _ _ h => by show fl_up x 36 j _ 33 y = _; rw [fl_up_k (by omega)]; exact h)
theorem lp_cr {p : Program} {l : Launch} {e : Env} {R : Room} {s : State} {m : MethodId} {args : Array Value} {below : List Frame} {meth : Method} {c : Code} {D : va_G} {dA : Nat → ClassId} {ad : Nat → Nat} {N : Nat} {A : Nat → Prop} {I : fl_TI} {post : Option Value → fl_TI → fl_TJ → Prop} {ea n mn : Nat} (X : CallFix p m c cX2_comes 9 s args fl_tb RX2) (hr : meth.sig.returnType = some .boolean) (hlk : meth.locks = false) (hN : 37 ≤ N) (he3 : ea ≤ 3) (hmn : mn ≤ 8) (hn : I 30 0 = nI n) (hn4 : n ≤ 4) (hld : ∀ i, i < mn → I 34 i = nI (ldI I 34 i) ∧ ldI I 34 i < ea) :
    ∀ (k i : Nat) (J : fl_TJ) (H : Heap) (locs : List Loc) (ls : Array Slot), i + k = mn → (∀ r, r < mn → J 33 (8 * r + ldI I 34 r) ≠ 0) → fl_I D dA ad N I J A s s.heap H locs → lv_has ls 9 [(3, .int (nI i)), (2, .int (nI mn)), (0, .ref (ad 30)), (1, .int (nI ea))] → post (some (.int (nI (if (k_cr n ea I k i J).1 = 0 then 0 else k_cz (k_cr n ea I k i J).2 ea 0)))) I (k_cr n ea I k i J).2 → W p l e R s m args below meth c H locs 0 0 (MQ below (fl_Q D dA ad N post A) args s 0 0 A) (F0 m 28 ls []) := by
  have hx := X.1
  have hb := X.2.1
  intro k
  induction k with
  | zero =>
    intro i J H locs ls hk hpv hI hl hF
    have hk : mn = i := by omega
    subst hk
    refine lv_iload_n hx hb dX2_comes_28 rfl (lv_at hl 0 rfl) ?_
    refine lv_iload_n hx hb dX2_comes_29 rfl (lv_at hl 1 rfl) ?_
    refine fn_icmp_ge X (tgt := 189) dX2_comes_30 (by decide) (by omega) (by omega) (fun c1 => ?_) (fun c1 => absurd c1 (by omega))
    refine lv_iconst (v := nI 0) hx hb dX2_comes_189 (by decide) ?_
    refine lv_istore_n (lv' := [(3, .int (nI 0)), (2, .int (nI mn)), (0, .ref (ad 30)), (1, .int (nI ea))]) hx hb dX2_comes_190 rfl hl (by decide) rfl (fun ls hl => ?_)
    exact lp_cz X hr hlk hN he3 ea 0 _ _ _ (Nat.zero_add _) hI (lv_sub hl [0, 2, 3] rfl) hF
  | succ k ih =>
    intro i J H locs ls hk hpv hI hl hF
    have h45 := (hld i (by omega)).2
    have h46 := hpv i (by omega)
    refine lv_iload_n hx hb dX2_comes_28 rfl (lv_at hl 0 rfl) ?_
    refine lv_iload_n hx hb dX2_comes_29 rfl (lv_at hl 1 rfl) ?_
    refine fn_icmp_ge X (tgt := 189) dX2_comes_30 (by decide) (by omega) (by omega) (fun c1 => absurd c1 (by omega)) (fun c1 => ?_)
    refine lv_aload_n hx hb dX2_comes_33 rfl (lv_at hl 2 rfl) ?_
    refine fl_get2 X hI dX2_comes_34 (by omega) 4 (by decide) wf_X2_20 rfl ?_
    refine lv_bipush (v := nI 8) hx hb dX2_comes_37 (by decide) ?_
    refine lv_iload_n hx hb dX2_comes_39 rfl (lv_at hl 0 rfl) ?_
    refine fn_imul X dX2_comes_40 ?_
    refine lv_aload_n hx hb dX2_comes_41 rfl (lv_at hl 2 rfl) ?_
    refine fl_get2 X hI dX2_comes_42 (by omega) 6 (by decide) wf_X2_24 rfl ?_
    refine lv_iload_n hx hb dX2_comes_45 rfl (lv_at hl 0 rfl) ?_
    refine fn_iald (k := 34) X hI dX2_comes_46 (by omega) rfl (show i < 8 by omega) ?_
    refine W.eq (g2 := F0 m 47 ls [.int (nI (ldI I 34 i)), .int (nI (8 * i)), .ref (ad 33)]) (by rw [(hld _ (by omega)).1]) ?_
    refine fn_iadd X dX2_comes_47 ?_
    refine fn_lald (k := 33) X hI dX2_comes_48 (by omega) rfl (show (8 * i) + (ldI I 34 i) < 64 by omega) ?_
    refine lv_lstore (lv' := [(4, .long (J 33 ((8 * i) + (ldI I 34 i)))), (3, .int (nI i)), (2, .int (nI mn)), (0, .ref (ad 30)), (1, .int (nI ea))]) hx hb dX2_comes_49 hl (by decide) rfl (fun ls hl => ?_)
    refine lv_aload_n hx hb dX2_comes_51 rfl (lv_at hl 3 rfl) ?_
    refine fl_get2 X hI dX2_comes_52 (by omega) 7 (by decide) wf_X2_27 rfl ?_
    refine lv_aload_n hx hb dX2_comes_55 rfl (lv_at hl 3 rfl) ?_
    refine fl_get2 X hI dX2_comes_56 (by omega) 6 (by decide) wf_X2_24 rfl ?_
    refine lv_iload_n hx hb dX2_comes_59 rfl (lv_at hl 1 rfl) ?_
    refine fn_iald (k := 34) X hI dX2_comes_60 (by omega) rfl (show i < 8 by omega) ?_
    refine W.eq (g2 := F0 m 61 ls [.int (nI (ldI I 34 i)), .ref (ad 35)]) (by rw [(hld _ (by omega)).1]) ?_
    refine fn_lald (k := 35) X hI dX2_comes_61 (by omega) rfl (show ldI I 34 i < 3 by omega) ?_
    refine lv_lload hx hb dX2_comes_62 (lv_at hl 0 rfl) ?_
    refine lv_ldiv hx hb dX2_comes_64 h46 ?_
    refine lv_lstore (lv' := [(6, .long ((J 35 (ldI I 34 i)) / (J 33 ((8 * i) + (ldI I 34 i))))), (4, .long (J 33 ((8 * i) + (ldI I 34 i)))), (3, .int (nI i)), (2, .int (nI mn)), (0, .ref (ad 30)), (1, .int (nI ea))]) hx hb dX2_comes_65 hl (by decide) rfl (fun ls hl => ?_)
    refine lv_lload hx hb dX2_comes_67 (lv_at hl 0 rfl) ?_
    refine lv_lload hx hb dX2_comes_69 (lv_at hl 1 rfl) ?_
    refine lv_lmul hx hb dX2_comes_71 ?_
    refine lv_aload_n hx hb dX2_comes_72 rfl (lv_at hl 4 rfl) ?_
    refine fl_get2 X hI dX2_comes_73 (by omega) 7 (by decide) wf_X2_27 rfl ?_
    refine lv_aload_n hx hb dX2_comes_76 rfl (lv_at hl 4 rfl) ?_
    refine fl_get2 X hI dX2_comes_77 (by omega) 6 (by decide) wf_X2_24 rfl ?_
    refine lv_iload_n hx hb dX2_comes_80 rfl (lv_at hl 2 rfl) ?_
    refine fn_iald (k := 34) X hI dX2_comes_81 (by omega) rfl (show i < 8 by omega) ?_
    refine W.eq (g2 := F0 m 82 ls [.int (nI (ldI I 34 i)), .ref (ad 35), .long (((J 35 (ldI I 34 i)) / (J 33 ((8 * i) + (ldI I 34 i)))) * (J 33 ((8 * i) + (ldI I 34 i))))]) (by rw [(hld _ (by omega)).1]) ?_
    refine fn_lald (k := 35) X hI dX2_comes_82 (by omega) rfl (show ldI I 34 i < 3 by omega) ?_
    refine fl_lc_eq (tgt := 89) hx hb dX2_comes_83 dX2_comes_84 (by decide) (fun c2 => ?_) (fun c2 => ?_)
    · refine lv_iconst (v := nI 0) hx hb dX2_comes_89 (by decide) ?_
      refine lv_istore (lv' := [(8, .int (nI 0)), (6, .long ((J 35 (ldI I 34 i)) / (J 33 ((8 * i) + (ldI I 34 i))))), (4, .long (J 33 ((8 * i) + (ldI I 34 i)))), (3, .int (nI i)), (2, .int (nI mn)), (0, .ref (ad 30)), (1, .int (nI ea))]) hx hb dX2_comes_90 hl (by decide) rfl (fun ls hl => ?_)
      refine lp_cw X hN he3 (by omega) (J9 := k_cw ea i (J 35 (ldI I 34 i) / J 33 (8 * i + ldI I 34 i)) J) (fun H locs ls hI hl => ?_) ea 0 _ _ _ _ (Nat.zero_add _) hI (lv_sub hl [0, 1, 2, 3, 4, 5, 6] rfl) rfl
      refine lv_iconst (v := nI 0) hx hb dX2_comes_129 (by decide) ?_
      refine lv_istore (lv' := [(8, .int (nI 0)), (6, .long ((J 35 (ldI I 34 i)) / (J 33 ((8 * i) + (ldI I 34 i))))), (4, .long (J 33 ((8 * i) + (ldI I 34 i)))), (3, .int (nI i)), (2, .int (nI mn)), (0, .ref (ad 30)), (1, .int (nI ea))]) hx hb dX2_comes_130 hl (by decide) rfl (fun ls hl => ?_)
      refine lp_cf X hN he3 (by omega) hn hn4 (J9 := k_cf n ea i (J 35 (ldI I 34 i) / J 33 (8 * i + ldI I 34 i)) (k_cw ea i (J 35 (ldI I 34 i) / J 33 (8 * i + ldI I 34 i)) J)) (fun H locs ls hI hl => ?_) n 0 _ _ _ _ (Nat.zero_add _) hI (lv_sub hl [0, 1, 2, 3, 4, 5, 6] rfl) rfl
      refine fn_iinc (a := i) (lv' := [(3, .int (nI (i + 1))), (8, .int (nI n)), (6, .long ((J 35 (ldI I 34 i)) / (J 33 ((8 * i) + (ldI I 34 i))))), (4, .long (J 33 ((8 * i) + (ldI I 34 i)))), (2, .int (nI mn)), (0, .ref (ad 30)), (1, .int (nI ea))]) X dX2_comes_183 hl (k := 3) rfl (by decide) rfl (fun ls hl => ?_)
      refine lv_goto (tgt := 28) hx hb dX2_comes_186 (by decide) ?_
      exact ih (i + 1) _ _ _ _ (by omega) (fun r hr9 => by rw [k_cf_33, k_cw_33]; exact hpv r hr9) hI (lv_sub hl [0, 4, 5, 6] rfl) (by
        have e9 : k_cr n ea I (k + 1) i J = k_cr n ea I k (i + 1) (k_cf n ea i (J 35 (ldI I 34 i) / J 33 (8 * i + ldI I 34 i)) (k_cw ea i (J 35 (ldI I 34 i) / J 33 (8 * i + ldI I 34 i)) J)) := by rw [k_cr, if_pos c2]
        rw [e9] at hF
        exact hF)
    · refine lv_iconst (v := nI 0) hx hb dX2_comes_87 (by decide) ?_
      exact fl_zret X hr hlk hI dX2_comes_88 (by decide) (by
        have e9 : k_cr n ea I (k + 1) i J = (0, J) := by rw [k_cr, if_neg c2]
        rw [e9] at hF
        exact hF)
theorem m_X2_comes (D : va_G) (dA : Nat → ClassId) (ad : Nat → Nat) (N : Nat) (I : fl_TI) (J : fl_TJ) {ea n rk : Nat} (hN : 37 ≤ N) (he3 : ea ≤ 3) (hn : I 30 0 = nI n) (hn4 : n ≤ 4) (hrk : I 30 5 = nI rk) (hrk8 : rk ≤ 8) (hld : ∀ i, i < rk → I 34 i = nI (ldI I 34 i) ∧ ldI I 34 i < 8) (hpv : ∀ r, r < rk → J 33 (8 * r + ldI I 34 r) ≠ 0) : FM yX2_comes cX2_comes 9 (some .boolean) 1 D dA ad N [.ref (ad 30), .int (nI ea)] I J (fun v I' J' => v = some (.int (nI (k_com n ea rk I J).1)) ∧ I' = I ∧ J' = (k_com n ea rk I J).2) := by
  refine FM.ofW RX2 rfl (by decide +kernel) (Nat.le_of_ble_eq_true rfl) ?_
  intro p l e s m args below meth c ls X hr hlk hI hl
  have hx := X.1
  have hb := X.2.1
  have hl : lv_has ls 9 [(0, .ref (ad 30)), (1, .int (nI ea))] := hl
  refine lv_iconst (v := nI 0) hx hb dX2_comes_0 (by decide) ?_
  refine lv_istore_n (lv' := [(2, .int (nI 0)), (0, .ref (ad 30)), (1, .int (nI ea))]) hx hb dX2_comes_1 rfl hl (by decide) rfl (fun ls hl => ?_)
  refine lp_f0 X hN (J9 := k_f0 J) (fun H locs ls hI hl => ?_) 4 0 _ _ _ _ (Nat.zero_add _) hI (lv_sub hl [0, 1, 2] rfl) rfl
  refine lv_aload_n hx hb dX2_comes_20 rfl (lv_at hl 1 rfl) ?_
  refine lv_iload_n hx hb dX2_comes_21 rfl (lv_at hl 2 rfl) ?_
  refine fl_callV (k := 30) (As := [.int (nI ea)]) (rest := []) X hI dX2_comes_22 (m_X2_before D dA ad N I (k_f0 J) hN hrk hrk8 (by omega) hld) (by omega) fl_c_6 rfl rfl wc_yX2_before wm_X2_72 wi_yX2_before wl_yX2_before wn_X2 hd_yX2_before rfl ⟨by first | decide | omega, by first | decide | omega⟩ hl.1 (Nat.le_of_ble_eq_true rfl) (fun v I2 J2 H locs hp hI => ?_)
  obtain ⟨hv, hI2, hJ2⟩ := hp
  subst hv
  rw [hI2, hJ2] at hI
  refine W.eq (g2 := F0 m 25 ls [.int (nI (k_bef I ea rk 0))]) rfl ?_
  refine lv_istore_n (lv' := [(2, .int (nI (k_bef I ea rk 0))), (0, .ref (ad 30)), (1, .int (nI ea))]) hx hb dX2_comes_25 rfl hl (by decide) rfl (fun ls hl => ?_)
  refine lv_iconst (v := nI 0) hx hb dX2_comes_26 (by decide) ?_
  refine lv_istore_n (lv' := [(3, .int (nI 0)), (2, .int (nI (k_bef I ea rk 0))), (0, .ref (ad 30)), (1, .int (nI ea))]) hx hb dX2_comes_27 rfl hl (by decide) rfl (fun ls hl => ?_)
  obtain ⟨b1, b2, b3⟩ := k_bef_le I ea rk 0
  exact lp_cr X hr hlk hN he3 (by omega) hn hn4 (fun i hi => ⟨(hld i (by omega)).1, b3 i (Nat.zero_le _) hi⟩) (k_bef I ea rk 0) 0 _ _ _ _ (Nat.zero_add _) (fun r hr9 => by rw [k_f0_33]; exact hpv r (by omega)) hI (lv_sub hl [0, 1, 2, 3] rfl) ⟨by unfold k_com; split <;> rfl, rfl, by unfold k_com; split <;> rfl⟩
