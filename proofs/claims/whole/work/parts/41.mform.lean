/-! the model: form -/
theorem fl_it_keep {σ : Type} (P : σ → Prop) (f : Nat → σ → σ) : ∀ (k i : Nat) (x : σ), P x → (∀ j x, i ≤ j → j < i + k → P x → P (f j x)) → P (fl_it f k i x) := by
  intro k
  induction k with
  | zero => intro i x h _; exact h
  | succ k ih =>
    intro i x h hs
    exact ih (i + 1) (f i x) (hs i x (Nat.le_refl _) (by omega) h) (fun j x h1 h2 h3 => hs j x (by omega) (by omega) h3)
theorem k_take_far {a b w : Nat} {t : Int64} {J : fl_TJ} {q y : Nat} (h : q ≠ 33 ∨ y < 8 * a ∨ 8 * a + w ≤ y) : k_take a b w t J q y = J q y := by
  unfold k_take
  refine fl_it_keep (fun J' => J' q y = J q y) _ w 0 J rfl (fun j J' h1 h2 h3 => ?_)
  show fl_up J' 33 _ _ q y = _
  rcases h with h | h
  · rw [fl_up_k h]; exact h3
  · rw [fl_up_j (by omega)]; exact h3
def k_row (tp cl w : Nat) (i : Nat) (x : Nat × fl_TJ) : Nat × fl_TJ :=
  (if x.1 = 0 then 0 else if k_take i tp w (dn64 (x.2 33 (8 * i + cl)) (x.2 33 (8 * tp + cl))) x.2 33 (8 * i + cl) = 0 then 1 else 0, k_take i tp w (dn64 (x.2 33 (8 * i + cl)) (x.2 33 (8 * tp + cl))) x.2)
def k_rows (mn tp cl w : Nat) (J : fl_TJ) : Nat × fl_TJ := fl_it (k_row tp cl w) (mn - (tp + 1)) (tp + 1) (1, J)
def k_piv (tp b cl w : Nat) (J : fl_TJ) : fl_TJ := if k_chg tp b J 33 (8 * tp + cl) < 0 then k_take tp tp w 2 (k_chg tp b J) else k_chg tp b J
def k_pass (mn tp b cl w : Nat) (J : fl_TJ) : Nat × fl_TJ := k_rows mn tp cl w (k_piv tp b cl w J)
def k_el (mn tp cl w : Nat) : Nat → Nat → fl_TJ → Option fl_TJ
  | 0, _, _ => none
  | k + 1, b, J => if (k_pass mn tp b cl w J).1 = 0 then (match k_least tp cl mn (k_pass mn tp b cl w J).2 with
      | none => none
      | some b2 => k_el mn tp cl w k b2 (k_pass mn tp b cl w J).2) else some (k_pass mn tp b cl w J).2
def k_up (tp cl w : Nat) (J : fl_TJ) : fl_TJ := fl_it (fun r J => k_take r tp w (dn64 (J 33 (8 * r + cl)) (J 33 (8 * tp + cl))) J) tp 0 J
def k_form (fu mn w : Nat) : Nat → Nat → Nat × fl_TI × fl_TJ → Option (Nat × fl_TI × fl_TJ)
  | 0, _, x => some x
  | k + 1, cl, x => match k_least x.1 cl mn x.2.2 with
    | none => k_form fu mn w k (cl + 1) x
    | some b => (match k_el mn x.1 cl w fu b x.2.2 with
      | none => none
      | some J1 => k_form fu mn w k (cl + 1) (x.1 + 1, fl_up x.2.1 34 x.1 (nI cl), k_up x.1 cl w J1))
theorem k_least_ge {pl : Nat} {J : fl_TJ} : ∀ (k i fr : Nat) (bo : Option Nat) (b : Nat), fr ≤ i → (∀ b, bo = some b → fr ≤ b ∧ J 33 (8 * b + pl) ≠ 0) → fl_it (k_ls1 pl J) k i bo = some b → fr ≤ b ∧ J 33 (8 * b + pl) ≠ 0 := by
  intro k
  induction k with
  | zero => intro i fr bo b _ h0 h; exact h0 b h
  | succ k ih =>
    intro i fr bo b hf h0 h
    have hz : 0 < sz64 (J 33 (8 * i + pl)) → J 33 (8 * i + pl) ≠ 0 := fun q e => by
      rw [e] at q
      exact absurd q (by decide)
    refine ih (i + 1) fr _ b (by omega) (fun z hz9 => ?_) h
    cases bo with
    | none =>
      simp only [k_ls1] at hz9
      by_cases q : 0 < sz64 (J 33 (8 * i + pl))
      · rw [if_pos q] at hz9; cases hz9; exact ⟨hf, hz q⟩
      · rw [if_neg q] at hz9; cases hz9
    | some d =>
      simp only [k_ls1] at hz9
      by_cases q : 0 < sz64 (J 33 (8 * i + pl))
      · rw [if_pos q] at hz9
        by_cases q2 : sz64 (J 33 (8 * i + pl)) < sz64 (J 33 (8 * d + pl))
        · rw [if_pos q2] at hz9; cases hz9; exact ⟨hf, hz q⟩
        · rw [if_neg q2] at hz9; cases hz9; exact h0 _ rfl
      · rw [if_neg q] at hz9; cases hz9; exact h0 _ rfl
theorem k_least_spec {fr pl mn b : Nat} {J : fl_TJ} (hf : fr ≤ mn) (h : k_least fr pl mn J = some b) : fr ≤ b ∧ b < mn ∧ J 33 (8 * b + pl) ≠ 0 := by
  have h1 := k_least_ge (mn - fr) fr fr none b (Nat.le_refl _) (fun z hz => by cases hz) h
  have h2 := k_least_lt (mn - fr) fr none b (fun z hz => by cases hz) h
  exact ⟨h1.1, by omega, h1.2⟩
theorem k_chg_at {a b : Nat} {J : fl_TJ} (cl : Nat) (hc : cl < 8) : k_chg a b J 33 (8 * a + cl) = J 33 (8 * b + cl) := by
  have gen : ∀ (k i : Nat) (J : fl_TJ), i + k = 8 → i ≤ cl → fl_it (fun j J => fl_up (fl_up J 33 (8 * a + j) (J 33 (8 * b + j))) 33 (8 * b + j) (J 33 (8 * a + j))) k i J 33 (8 * a + cl) = J 33 (8 * b + cl) := by
    intro k
    induction k with
    | zero => intro i J hk hi; omega
    | succ k ih =>
      intro i J hk hi
      by_cases e : i = cl
      · subst e
        have hkeep := fl_it_keep (fun J' : fl_TJ => J' 33 (8 * a + i) = J 33 (8 * b + i)) (fun j J => fl_up (fl_up J 33 (8 * a + j) (J 33 (8 * b + j))) 33 (8 * b + j) (J 33 (8 * a + j))) k (i + 1) (fl_up (fl_up J 33 (8 * a + i) (J 33 (8 * b + i))) 33 (8 * b + i) (J 33 (8 * a + i))) ?_ ?_
        · exact hkeep
        · by_cases eb : a = b
          · subst eb; rw [fl_up_s]
          · rw [fl_up_j (by omega), fl_up_s]
        · intro j x h1 h2 h3
          show fl_up (fl_up x 33 (8 * a + j) _) 33 (8 * b + j) _ 33 (8 * a + i) = _
          rw [fl_up_j (by omega), fl_up_j (by omega)]
          exact h3
      · refine (ih (i + 1) _ (by omega) (by omega)).trans ?_
        show fl_up (fl_up J 33 (8 * a + i) _) 33 (8 * b + i) _ 33 (8 * b + cl) = _
        rw [fl_up_j (by omega), fl_up_j (by omega)]
  exact gen 8 0 J (by omega) (by omega)
theorem i64_neg2 (x : Int64) : x - 2 * x = -x := by
  apply Int64.toBitVec_inj.mp
  simp only [Int64.toBitVec_sub, Int64.toBitVec_mul, Int64.toBitVec_neg]
  generalize x.toBitVec = y
  show y - 2#64 * y = -y
  rw [BitVec.sub_eq_add_neg, show (2#64 : BitVec 64) * y = y + y from by rw [show (2#64 : BitVec 64) = 1#64 + 1#64 from rfl, BitVec.add_mul, BitVec.one_mul], BitVec.neg_add]
  rw [BitVec.sub_eq_add_neg, ← BitVec.add_assoc, BitVec.add_right_neg, BitVec.zero_add]
theorem k_neg_at {a w : Nat} {J : fl_TJ} (cl : Nat) (hc : cl < w) : k_take a a w 2 J 33 (8 * a + cl) = -(J 33 (8 * a + cl)) := by
  have gen : ∀ (k i : Nat) (J : fl_TJ), i + k = w → i ≤ cl → fl_it (fun j J => fl_up J 33 (8 * a + j) (J 33 (8 * a + j) - 2 * J 33 (8 * a + j))) k i J 33 (8 * a + cl) = -(J 33 (8 * a + cl)) := by
    intro k
    induction k with
    | zero => intro i J hk hi; omega
    | succ k ih =>
      intro i J hk hi
      by_cases e : i = cl
      · subst e
        have hkeep := fl_it_keep (fun J' : fl_TJ => J' 33 (8 * a + i) = -(J 33 (8 * a + i))) (fun j J => fl_up J 33 (8 * a + j) (J 33 (8 * a + j) - 2 * J 33 (8 * a + j))) k (i + 1) (fl_up J 33 (8 * a + i) (J 33 (8 * a + i) - 2 * J 33 (8 * a + i))) ?_ ?_
        · exact hkeep
        · rw [fl_up_s]; exact i64_neg2 _
        · intro j x h1 h2 h3
          show fl_up x 33 (8 * a + j) _ 33 (8 * a + i) = _
          rw [fl_up_j (by omega)]
          exact h3
      · refine (ih (i + 1) _ (by omega) (by omega)).trans ?_
        show -(fl_up J 33 (8 * a + i) _ 33 (8 * a + cl)) = _
        rw [fl_up_j (by omega)]
  exact gen w 0 J (by omega) (by omega)
theorem i64_neg_ne {x : Int64} (h : x ≠ 0) : -x ≠ 0 := fun e => h (by have h9 := congrArg (fun z => -z) e; simpa using h9)
theorem k_piv_ne {tp b cl w : Nat} {J : fl_TJ} (h : J 33 (8 * b + cl) ≠ 0) (hc : cl < w) (hw : w ≤ 8) : ¬ k_piv tp b cl w J 33 (8 * tp + cl) = 0 := by
  unfold k_piv
  by_cases q : k_chg tp b J 33 (8 * tp + cl) < 0
  · rw [if_pos q, k_neg_at cl hc, k_chg_at cl (by omega)]
    exact i64_neg_ne h
  · rw [if_neg q, k_chg_at cl (by omega)]
    exact h
theorem lp_krow {p : Program} {l : Launch} {e : Env} {R : Room} {s : State} {m : MethodId} {args : Array Value} {below : List Frame} {meth : Method} {c : Code} {Q : State → Prop} {D : va_G} {dA : Nat → ClassId} {ad : Nat → Nat} {N : Nat} {A : Nat → Prop} {H0 : Heap} {I : fl_TI} {al9 : Nat} {J9 : fl_TJ} (X : CallFix p m c cX2_form 8 s args fl_tb RX2) {mn w cl tp b : Nat} (hN : 37 ≤ N) (hmn : mn ≤ 8) (hw : w ≤ 8) (hcl : cl < w) (htp : tp < mn) (hR : 0 + 1 ≤ R.frames ∧ 8 + (8 + 11) + 40 * 0 ≤ R.locals)
    (kx : ∀ (H : Heap) (locs : List Loc) (ls : Array Slot), fl_I D dA ad N I J9 A s H0 H locs → lv_has ls 8 [(7, .int (nI mn)), (6, .int (nI al9)), (5, .int (nI b)), (4, .int (nI cl)), (3, .int (nI tp)), (0, .ref (ad 30)), (1, .int (nI mn)), (2, .int (nI w))] → W p l e R s m args below meth c H locs 0 0 Q (F0 m 157 ls [])) :
    ∀ (k i : Nat) (al : Nat) (J : fl_TJ) (H : Heap) (locs : List Loc) (ls : Array Slot), i + k = mn → fl_I D dA ad N I J A s H0 H locs → lv_has ls 8 [(7, .int (nI i)), (6, .int (nI al)), (5, .int (nI b)), (4, .int (nI cl)), (3, .int (nI tp)), (0, .ref (ad 30)), (1, .int (nI mn)), (2, .int (nI w))] → (¬ J 33 (8 * tp + cl) = 0 ∧ al ≤ 1 ∧ tp < i) → fl_it (k_row tp cl w) k i (al, J) = (al9, J9) → W p l e R s m args below meth c H locs 0 0 Q (F0 m 79 ls []) := by
  have hx := X.1
  have hb := X.2.1
  intro k
  induction k with
  | zero =>
    intro i al J H locs ls hk hI hl hinv hF
    have hF : (al, J) = (al9, J9) := hF
    cases hF
    have hk : mn = i := by omega
    subst hk
    refine lv_iload hx hb dX2_form_79 (lv_at hl 0 rfl) ?_
    refine lv_iload_n hx hb dX2_form_81 rfl (lv_at hl 6 rfl) ?_
    refine fn_icmp_ge X (tgt := 157) dX2_form_82 (by decide) (by omega) (by omega) (fun c1 => ?_) (fun c1 => absurd c1 (by omega))
    exact kx _ _ _ hI (lv_sub hl [0, 1, 2, 3, 4, 5, 6, 7] rfl)
  | succ k ih =>
    intro i al J H locs ls hk hI hl hinv hF
    refine lv_iload hx hb dX2_form_79 (lv_at hl 0 rfl) ?_
    refine lv_iload_n hx hb dX2_form_81 rfl (lv_at hl 6 rfl) ?_
    refine fn_icmp_ge X (tgt := 157) dX2_form_82 (by decide) (by omega) (by omega) (fun c1 => absurd c1 (by omega)) (fun c1 => ?_)
    refine lv_aload_n hx hb dX2_form_85 rfl (lv_at hl 5 rfl) ?_
    refine lv_iload hx hb dX2_form_86 (lv_at hl 0 rfl) ?_
    refine lv_iload_n hx hb dX2_form_88 rfl (lv_at hl 4 rfl) ?_
    refine lv_aload_n hx hb dX2_form_89 rfl (lv_at hl 5 rfl) ?_
    refine fl_get2 X hI dX2_form_90 (by omega) 4 (by decide) wf_X2_20 rfl ?_
    refine lv_bipush (v := nI 8) hx hb dX2_form_93 (by decide) ?_
    refine lv_iload hx hb dX2_form_95 (lv_at hl 0 rfl) ?_
    refine fn_imul X dX2_form_97 ?_
    refine lv_iload hx hb dX2_form_98 (lv_at hl 3 rfl) ?_
    refine fn_iadd X dX2_form_100 ?_
    refine fn_lald (k := 33) X hI dX2_form_101 (by omega) rfl (show (8 * i) + cl < 64 by omega) ?_
    refine lv_aload_n hx hb dX2_form_102 rfl (lv_at hl 5 rfl) ?_
    refine fl_get2 X hI dX2_form_103 (by omega) 4 (by decide) wf_X2_20 rfl ?_
    refine lv_bipush (v := nI 8) hx hb dX2_form_106 (by decide) ?_
    refine lv_iload_n hx hb dX2_form_108 rfl (lv_at hl 4 rfl) ?_
    refine fn_imul X dX2_form_109 ?_
    refine lv_iload hx hb dX2_form_110 (lv_at hl 3 rfl) ?_
    refine fn_iadd X dX2_form_112 ?_
    refine fn_lald (k := 33) X hI dX2_form_113 (by omega) rfl (show (8 * tp) + cl < 64 by omega) ?_
    refine fl_callS (As := [.long (J 33 ((8 * i) + cl)), .long (J 33 ((8 * tp) + cl))]) (rest := [.int (nI tp), .int (nI i), .ref (ad 30)]) X hI dX2_form_114 (m_X2_down D dA ad N I J (J 33 ((8 * i) + cl)) (J 33 ((8 * tp) + cl)) hinv.1) wc_yX2_down wm_X2_62 ws_yX2_down wn_X2 hd_yX2_down rfl ⟨by first | decide | omega, by first | decide | omega⟩ hl.1 (Nat.le_of_ble_eq_true rfl) (fun v I2 J2 H locs hp hI => ?_)
    obtain ⟨hv, hI2, hJ2⟩ := hp
    subst hv
    rw [hI2, hJ2] at hI
    refine W.eq (g2 := F0 m 117 ls [.long (dn64 (J 33 ((8 * i) + cl)) (J 33 ((8 * tp) + cl))), .int (nI tp), .int (nI i), .ref (ad 30)]) rfl ?_
    refine lv_iload_n hx hb dX2_form_117 rfl (lv_at hl 7 rfl) ?_
    refine fl_callV (k := 30) (As := [.int (nI i), .int (nI tp), .long (dn64 (J 33 ((8 * i) + cl)) (J 33 ((8 * tp) + cl))), .int (nI w)]) (rest := []) X hI dX2_form_118 (m_X2_take D dA ad N I J hN (by omega) (by omega) (by omega)) (by omega) fl_c_6 rfl rfl wc_yX2_take wm_X2_58 wi_yX2_take wl_yX2_take wn_X2 hd_yX2_take rfl ⟨by first | decide | omega, by first | decide | omega⟩ hl.1 (Nat.le_of_ble_eq_true rfl) (fun v I2 J2 H locs hp hI => ?_)
    obtain ⟨hv, hI2, hJ2⟩ := hp
    subst hv
    rw [hI2, hJ2] at hI
    refine W.eq (g2 := F0 m 121 ls []) rfl ?_
    refine lv_iload hx hb dX2_form_121 (lv_at hl 1 rfl) ?_
    refine fn_if_eq X (tgt := 148) dX2_form_123 (by decide) (by have := hinv.2.1; omega) (fun c2 => ?_) (fun c2 => ?_)
    · refine lv_iconst (v := nI 0) hx hb dX2_form_148 (by decide) ?_
      refine lv_istore (lv' := [(6, .int (nI 0)), (7, .int (nI i)), (5, .int (nI b)), (4, .int (nI cl)), (3, .int (nI tp)), (0, .ref (ad 30)), (1, .int (nI mn)), (2, .int (nI w))]) hx hb dX2_form_149 hl (by decide) rfl (fun ls hl => ?_)
      refine fn_iinc (a := i) (lv' := [(7, .int (nI (i + 1))), (6, .int (nI 0)), (5, .int (nI b)), (4, .int (nI cl)), (3, .int (nI tp)), (0, .ref (ad 30)), (1, .int (nI mn)), (2, .int (nI w))]) X dX2_form_151 hl (k := 1) rfl (by decide) rfl (fun ls hl => ?_)
      refine lv_goto (tgt := 79) hx hb dX2_form_154 (by decide) ?_
      exact ih (i + 1) _ _ _ _ _ (by omega) hI (lv_sub hl [0, 1, 2, 3, 4, 5, 6, 7] rfl) ⟨by rw [k_take_far (by omega)]; exact hinv.1, by omega, by omega⟩ (by have h9 := hF; simp only [fl_it, k_row] at h9; (first | rw [if_pos c2] at h9 | rw [if_neg (by omega : ¬ al = 0)] at h9 | rw [if_neg c2] at h9 | skip); exact h9)
    · refine lv_aload_n hx hb dX2_form_126 rfl (lv_at hl 5 rfl) ?_
      refine fl_get2 X hI dX2_form_127 (by omega) 4 (by decide) wf_X2_20 rfl ?_
      refine lv_bipush (v := nI 8) hx hb dX2_form_130 (by decide) ?_
      refine lv_iload hx hb dX2_form_132 (lv_at hl 0 rfl) ?_
      refine fn_imul X dX2_form_134 ?_
      refine lv_iload hx hb dX2_form_135 (lv_at hl 3 rfl) ?_
      refine fn_iadd X dX2_form_137 ?_
      refine fn_lald (k := 33) X hI dX2_form_138 (by omega) rfl (show (8 * i) + cl < 64 by omega) ?_
      refine lv_lconst (v := 0) hx hb dX2_form_139 rfl ?_
      refine fl_lc_ne (tgt := 148) hx hb dX2_form_140 dX2_form_141 (by decide) (fun c3 => ?_) (fun c3 => ?_)
      · refine lv_iconst (v := nI 0) hx hb dX2_form_148 (by decide) ?_
        refine lv_istore (lv' := [(6, .int (nI 0)), (7, .int (nI i)), (5, .int (nI b)), (4, .int (nI cl)), (3, .int (nI tp)), (0, .ref (ad 30)), (1, .int (nI mn)), (2, .int (nI w))]) hx hb dX2_form_149 hl (by decide) rfl (fun ls hl => ?_)
        refine fn_iinc (a := i) (lv' := [(7, .int (nI (i + 1))), (6, .int (nI 0)), (5, .int (nI b)), (4, .int (nI cl)), (3, .int (nI tp)), (0, .ref (ad 30)), (1, .int (nI mn)), (2, .int (nI w))]) X dX2_form_151 hl (k := 1) rfl (by decide) rfl (fun ls hl => ?_)
        refine lv_goto (tgt := 79) hx hb dX2_form_154 (by decide) ?_
        exact ih (i + 1) _ _ _ _ _ (by omega) hI (lv_sub hl [0, 1, 2, 3, 4, 5, 6, 7] rfl) ⟨by rw [k_take_far (by omega)]; exact hinv.1, by omega, by omega⟩ (by have h9 := hF; simp only [fl_it, k_row] at h9; (first | rw [if_pos c2] at h9 | rw [if_neg (by omega : ¬ al = 0)] at h9 | rw [if_neg c2] at h9 | skip); (first | rw [if_pos c3] at h9 | rw [if_neg (by omega : ¬ al = 0)] at h9 | rw [if_neg c3] at h9 | skip); exact h9)
      · refine lv_iconst (v := nI 1) hx hb dX2_form_144 (by decide) ?_
        refine lv_goto (tgt := 149) hx hb dX2_form_145 (by decide) ?_
        refine lv_istore (lv' := [(6, .int (nI 1)), (7, .int (nI i)), (5, .int (nI b)), (4, .int (nI cl)), (3, .int (nI tp)), (0, .ref (ad 30)), (1, .int (nI mn)), (2, .int (nI w))]) hx hb dX2_form_149 hl (by decide) rfl (fun ls hl => ?_)
        refine fn_iinc (a := i) (lv' := [(7, .int (nI (i + 1))), (6, .int (nI 1)), (5, .int (nI b)), (4, .int (nI cl)), (3, .int (nI tp)), (0, .ref (ad 30)), (1, .int (nI mn)), (2, .int (nI w))]) X dX2_form_151 hl (k := 1) rfl (by decide) rfl (fun ls hl => ?_)
        refine lv_goto (tgt := 79) hx hb dX2_form_154 (by decide) ?_
        exact ih (i + 1) _ _ _ _ _ (by omega) hI (lv_sub hl [0, 1, 2, 3, 4, 5, 6, 7] rfl) ⟨by rw [k_take_far (by omega)]; exact hinv.1, by omega, by omega⟩ (by have h9 := hF; simp only [fl_it, k_row] at h9; (first | rw [if_pos c2] at h9 | rw [if_neg (by omega : ¬ al = 0)] at h9 | rw [if_neg c2] at h9 | skip); (first | rw [if_pos c3] at h9 | rw [if_neg (by omega : ¬ al = 0)] at h9 | rw [if_neg c3] at h9 | skip); exact h9)
theorem lp_kup {p : Program} {l : Launch} {e : Env} {R : Room} {s : State} {m : MethodId} {args : Array Value} {below : List Frame} {meth : Method} {c : Code} {Q : State → Prop} {D : va_G} {dA : Nat → ClassId} {ad : Nat → Nat} {N : Nat} {A : Nat → Prop} {H0 : Heap} {I : fl_TI} {J9 : fl_TJ} (X : CallFix p m c cX2_form 8 s args fl_tb RX2) {mn w cl tp : Nat} (hN : 37 ≤ N) (hmn : mn ≤ 8) (hw : w ≤ 8) (hcl : cl < w) (htp : tp < mn) (hR : 0 + 1 ≤ R.frames ∧ 8 + (8 + 11) + 40 * 0 ≤ R.locals)
    (kx : ∀ (H : Heap) (locs : List Loc) (ls : Array Slot), fl_I D dA ad N I J9 A s H0 H locs → lv_has ls 8 [(7, .int (nI tp)), (4, .int (nI cl)), (3, .int (nI tp)), (0, .ref (ad 30)), (1, .int (nI mn)), (2, .int (nI w))] → W p l e R s m args below meth c H locs 0 0 Q (F0 m 221 ls [])) :
    ∀ (k i : Nat) (J : fl_TJ) (H : Heap) (locs : List Loc) (ls : Array Slot), i + k = tp → fl_I D dA ad N I J A s H0 H locs → lv_has ls 8 [(7, .int (nI i)), (4, .int (nI cl)), (3, .int (nI tp)), (0, .ref (ad 30)), (1, .int (nI mn)), (2, .int (nI w))] → (¬ J 33 (8 * tp + cl) = 0) → fl_it (fun r J => k_take r tp w (dn64 (J 33 (8 * r + cl)) (J 33 (8 * tp + cl))) J) k i J = J9 → W p l e R s m args below meth c H locs 0 0 Q (F0 m 173 ls []) := by
  have hx := X.1
  have hb := X.2.1
  intro k
  induction k with
  | zero =>
    intro i J H locs ls hk hI hl hinv hF
    have hF : J = J9 := hF
    subst hF
    have hk : tp = i := by omega
    subst hk
    refine lv_iload hx hb dX2_form_173 (lv_at hl 0 rfl) ?_
    refine lv_iload_n hx hb dX2_form_175 rfl (lv_at hl 2 rfl) ?_
    refine fn_icmp_ge X (tgt := 221) dX2_form_176 (by decide) (by omega) (by omega) (fun c1 => ?_) (fun c1 => absurd c1 (by omega))
    exact kx _ _ _ hI (lv_sub hl [0, 1, 2, 3, 4, 5] rfl)
  | succ k ih =>
    intro i J H locs ls hk hI hl hinv hF
    refine lv_iload hx hb dX2_form_173 (lv_at hl 0 rfl) ?_
    refine lv_iload_n hx hb dX2_form_175 rfl (lv_at hl 2 rfl) ?_
    refine fn_icmp_ge X (tgt := 221) dX2_form_176 (by decide) (by omega) (by omega) (fun c1 => absurd c1 (by omega)) (fun c1 => ?_)
    refine lv_aload_n hx hb dX2_form_179 rfl (lv_at hl 3 rfl) ?_
    refine lv_iload hx hb dX2_form_180 (lv_at hl 0 rfl) ?_
    refine lv_iload_n hx hb dX2_form_182 rfl (lv_at hl 2 rfl) ?_
    refine lv_aload_n hx hb dX2_form_183 rfl (lv_at hl 3 rfl) ?_
    refine fl_get2 X hI dX2_form_184 (by omega) 4 (by decide) wf_X2_20 rfl ?_
    refine lv_bipush (v := nI 8) hx hb dX2_form_187 (by decide) ?_
    refine lv_iload hx hb dX2_form_189 (lv_at hl 0 rfl) ?_
    refine fn_imul X dX2_form_191 ?_
    refine lv_iload hx hb dX2_form_192 (lv_at hl 1 rfl) ?_
    refine fn_iadd X dX2_form_194 ?_
    refine fn_lald (k := 33) X hI dX2_form_195 (by omega) rfl (show (8 * i) + cl < 64 by omega) ?_
    refine lv_aload_n hx hb dX2_form_196 rfl (lv_at hl 3 rfl) ?_
    refine fl_get2 X hI dX2_form_197 (by omega) 4 (by decide) wf_X2_20 rfl ?_
    refine lv_bipush (v := nI 8) hx hb dX2_form_200 (by decide) ?_
    refine lv_iload_n hx hb dX2_form_202 rfl (lv_at hl 2 rfl) ?_
    refine fn_imul X dX2_form_203 ?_
    refine lv_iload hx hb dX2_form_204 (lv_at hl 1 rfl) ?_
    refine fn_iadd X dX2_form_206 ?_
    refine fn_lald (k := 33) X hI dX2_form_207 (by omega) rfl (show (8 * tp) + cl < 64 by omega) ?_
    refine fl_callS (As := [.long (J 33 ((8 * i) + cl)), .long (J 33 ((8 * tp) + cl))]) (rest := [.int (nI tp), .int (nI i), .ref (ad 30)]) X hI dX2_form_208 (m_X2_down D dA ad N I J (J 33 ((8 * i) + cl)) (J 33 ((8 * tp) + cl)) hinv) wc_yX2_down wm_X2_62 ws_yX2_down wn_X2 hd_yX2_down rfl ⟨by first | decide | omega, by first | decide | omega⟩ hl.1 (Nat.le_of_ble_eq_true rfl) (fun v I2 J2 H locs hp hI => ?_)
    obtain ⟨hv, hI2, hJ2⟩ := hp
    subst hv
    rw [hI2, hJ2] at hI
    refine W.eq (g2 := F0 m 211 ls [.long (dn64 (J 33 ((8 * i) + cl)) (J 33 ((8 * tp) + cl))), .int (nI tp), .int (nI i), .ref (ad 30)]) rfl ?_
    refine lv_iload_n hx hb dX2_form_211 rfl (lv_at hl 5 rfl) ?_
    refine fl_callV (k := 30) (As := [.int (nI i), .int (nI tp), .long (dn64 (J 33 ((8 * i) + cl)) (J 33 ((8 * tp) + cl))), .int (nI w)]) (rest := []) X hI dX2_form_212 (m_X2_take D dA ad N I J hN (by omega) (by omega) (by omega)) (by omega) fl_c_6 rfl rfl wc_yX2_take wm_X2_58 wi_yX2_take wl_yX2_take wn_X2 hd_yX2_take rfl ⟨by first | decide | omega, by first | decide | omega⟩ hl.1 (Nat.le_of_ble_eq_true rfl) (fun v I2 J2 H locs hp hI => ?_)
    obtain ⟨hv, hI2, hJ2⟩ := hp
    subst hv
    rw [hI2, hJ2] at hI
    refine W.eq (g2 := F0 m 215 ls []) rfl ?_
    refine fn_iinc (a := i) (lv' := [(7, .int (nI (i + 1))), (4, .int (nI cl)), (3, .int (nI tp)), (0, .ref (ad 30)), (1, .int (nI mn)), (2, .int (nI w))]) X dX2_form_215 hl (k := 0) rfl (by decide) rfl (fun ls hl => ?_)
    refine lv_goto (tgt := 173) hx hb dX2_form_218 (by decide) ?_
    exact ih (i + 1) _ _ _ _ (by omega) hI (lv_sub hl [0, 1, 2, 3, 4, 5] rfl) (by rw [k_take_far (by omega)]; exact hinv) hF
