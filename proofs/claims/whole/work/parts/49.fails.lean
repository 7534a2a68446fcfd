/-! the model: what its methods leave alone; fails -/
theorem k_chg_far {a b : Nat} {J : fl_TJ} {q y : Nat} (h : q ≠ 33) : k_chg a b J q y = J q y := by
  unfold k_chg
  refine fl_it_keep (fun J' : fl_TJ => J' q y = J q y) _ 8 0 J rfl (fun j J' h1 h2 h3 => ?_)
  show fl_up (fl_up J' 33 _ _) 33 _ _ q y = _
  rw [fl_up_k h, fl_up_k h]; exact h3
theorem k_piv_far {tp b cl w : Nat} {J : fl_TJ} {q y : Nat} (h : q ≠ 33) : k_piv tp b cl w J q y = J q y := by
  unfold k_piv
  split
  · rw [k_take_far (Or.inl h), k_chg_far h]
  · rw [k_chg_far h]
theorem k_pass_far {mn tp b cl w : Nat} {J : fl_TJ} {q y : Nat} (h : q ≠ 33) : (k_pass mn tp b cl w J).2 q y = J q y := by
  unfold k_pass k_rows
  refine fl_it_keep (fun x : Nat × fl_TJ => x.2 q y = J q y) _ _ _ _ (k_piv_far h) (fun j x h1 h2 h3 => ?_)
  show k_take j tp w _ x.2 q y = _
  rw [k_take_far (Or.inl h)]; exact h3
theorem k_el_far {mn tp cl w : Nat} {q y : Nat} (h : q ≠ 33) : ∀ (k b : Nat) (J J1 : fl_TJ), k_el mn tp cl w k b J = some J1 → J1 q y = J q y := by
  intro k
  induction k with
  | zero => intro b J J1 hF; cases hF
  | succ k ih =>
    intro b J J1 hF
    simp only [k_el] at hF
    by_cases hal : (k_pass mn tp b cl w J).1 = 0
    · rw [if_pos hal] at hF
      cases hq : k_least tp cl mn (k_pass mn tp b cl w J).2 with
      | none => rw [hq] at hF; cases hF
      | some b2 =>
        rw [hq] at hF
        rw [ih b2 _ _ hF, k_pass_far h]
    · rw [if_neg hal] at hF
      have hF := Option.some.inj hF
      rw [← hF, k_pass_far h]
theorem k_up_far {tp cl w : Nat} {J : fl_TJ} {q y : Nat} (h : q ≠ 33) : k_up tp cl w J q y = J q y := by
  unfold k_up
  refine fl_it_keep (fun J' : fl_TJ => J' q y = J q y) _ _ _ _ rfl (fun j x h1 h2 h3 => ?_)
  show k_take j tp w _ x q y = _
  rw [k_take_far (Or.inl h)]; exact h3
theorem k_form_far {fu mn w : Nat} {q y : Nat} (h : q ≠ 33) : ∀ (k cl : Nat) (x x9 : Nat × fl_TI × fl_TJ), k_form fu mn w k cl x = some x9 → x9.2.2 q y = x.2.2 q y := by
  intro k
  induction k with
  | zero => intro cl x x9 hF; have hF := Option.some.inj hF; rw [hF]
  | succ k ih =>
    intro cl x x9 hF
    simp only [k_form] at hF
    cases hq : k_least x.1 cl mn x.2.2 with
    | none => rw [hq] at hF; exact ih _ _ _ hF
    | some b =>
      rw [hq] at hF
      dsimp only at hF
      cases hq2 : k_el mn x.1 cl w fu b x.2.2 with
      | none => rw [hq2] at hF; cases hF
      | some J1 =>
        rw [hq2] at hF
        rw [ih _ _ _ hF]
        show k_up x.1 cl w J1 q y = _
        rw [k_up_far h, k_el_far h _ _ _ _ hq2]
theorem k_rel_far {n ea : Nat} {I : fl_TI} {J : fl_TJ} {q y : Nat} (h : q ≠ 33) : k_rel n ea I J q y = J q y := by
  unfold k_rel
  refine fl_it_keep (fun J' : fl_TJ => J' q y = J q y) _ _ _ _ rfl (fun j x h1 h2 h3 => ?_)
  show k_rel1 j ea I x q y = _
  unfold k_rel1
  refine fl_it_keep (fun J' : fl_TJ => J' q y = J q y) _ _ _ _ h3 (fun j2 x2 h4 h5 h6 => ?_)
  show fl_up x2 33 _ _ q y = _
  rw [fl_up_k h]; exact h6
theorem k_R_far {fu n ea tp : Nat} {I Ir : fl_TI} {J Jr : fl_TJ} (h : k_R fu n ea I J Ir Jr tp) {q y : Nat} (hq : q ≠ 33) : Jr q y = J q y := by
  obtain ⟨I9, h1, -, -⟩ := h
  have h2 := k_form_far (y := y) hq _ _ _ _ h1
  exact h2.trans (k_rel_far hq)
theorem k_mr_far {n eq mm : Nat} {I : fl_TI} {J : fl_TJ} {q y : Nat} (h : q ≠ 33) : k_mr n eq mm I J q y = J q y := by
  unfold k_mr
  refine fl_it_keep (fun J' : fl_TJ => J' q y = J q y) _ _ _ _ rfl (fun j x h1 h2 h3 => ?_)
  show k_mr1 n eq mm j I x q y = _
  unfold k_mr1
  refine fl_it_keep (fun J' : fl_TJ => J' q y = J q y) _ _ _ _ h3 (fun j2 x2 h4 h5 h6 => ?_)
  show fl_up x2 33 _ _ q y = _
  rw [fl_up_k h]; exact h6
theorem k_RM_far {fu n eq mm tp : Nat} {I Ir : fl_TI} {J Jr : fl_TJ} (h : k_RM fu n eq mm I J Ir Jr tp) {q y : Nat} (hq : q ≠ 33) : Jr q y = J q y := by
  obtain ⟨I9, h1, -, -⟩ := h
  have h2 := k_form_far (y := y) hq _ _ _ _ h1
  exact h2.trans (k_mr_far hq)
theorem k_com_far {n e rk : Nat} {I : fl_TI} {J : fl_TJ} {q y : Nat} (h1 : q ≠ 35) (h2 : q ≠ 36) : (k_com n e rk I J).2 q y = J q y := by
  have hw : ∀ e r t (J : fl_TJ), k_cw e r t J q y = J q y := fun e r t J => by
    unfold k_cw
    exact fl_it_keep (fun J' : fl_TJ => J' q y = J q y) _ e 0 J rfl (fun j x _ _ h => by show fl_up x 35 j _ q y = _; rw [fl_up_k h1]; exact h)
  have hf : ∀ n e r t (J : fl_TJ), k_cf n e r t J q y = J q y := fun n e r t J => by
    unfold k_cf
    exact fl_it_keep (fun J' : fl_TJ => J' q y = J q y) _ n 0 J rfl (fun j x _ _ h => by show fl_up x 36 j _ q y = _; rw [fl_up_k h2]; exact h)
  have h0 : k_f0 J q y = J q y := by
    unfold k_f0
    exact fl_it_keep (fun J' : fl_TJ => J' q y = J q y) _ 4 0 J rfl (fun j x _ _ h => by show fl_up x 36 j _ q y = _; rw [fl_up_k h2]; exact h)
  have hr : ∀ (k r : Nat) (J : fl_TJ), (k_cr n e I k r J).2 q y = J q y := by
    intro k
    induction k with
    | zero => intro r J; rfl
    | succ k ih =>
      intro r J
      rw [k_cr]
      split
      · rw [ih, hf, hw]
      · rfl
  unfold k_com
  split
  · show (k_cr n e I _ 0 (k_f0 J)).2 q y = _
    rw [hr, h0]
  · show (k_cr n e I _ 0 (k_f0 J)).2 q y = _
    rw [hr, h0]
theorem k_goes_far {n e tp : Nat} {I : fl_TI} {J : fl_TJ} {q y : Nat} (h1 : q ≠ 35) (h2 : q ≠ 36) : (k_goes n e tp I J).2 q y = J q y := by
  unfold k_goes
  rw [k_com_far h1 h2]
  unfold k_want
  exact fl_it_keep (fun J' : fl_TJ => J' q y = J q y) _ e 0 J rfl (fun j x _ _ h => by show fl_up x 35 j _ q y = _; rw [fl_up_k h1]; exact h)
/-- the model's own state (unknowns, equations, factors, sums) and all of the solver's cells are as they were -/
def k_keep (I : fl_TI) (J : fl_TJ) (I' : fl_TI) (J' : fl_TJ) : Prop := (∀ a b, a < 30 → I' a b = I a b ∧ J' a b = J a b) ∧ (∀ b, b < 2 → I' 30 b = I 30 b) ∧ (∀ b, I' 31 b = I 31 b) ∧ ∀ b, I' 32 b = I 32 b
theorem k_keep.rf {I : fl_TI} {J : fl_TJ} : k_keep I J I J := ⟨fun _ _ _ => ⟨rfl, rfl⟩, fun _ _ => rfl, fun _ => rfl, fun _ => rfl⟩
theorem k_keep.tr {I I' I2 : fl_TI} {J J' J2 : fl_TJ} (h : k_keep I J I' J') (h2 : k_keep I' J' I2 J2) : k_keep I J I2 J2 := ⟨fun a b q => ⟨((h2.1 a b q).1).trans (h.1 a b q).1, ((h2.1 a b q).2).trans (h.1 a b q).2⟩, fun b q => (h2.2.1 b q).trans (h.2.1 b q), fun b => (h2.2.2.1 b).trans (h.2.2.1 b), fun b => (h2.2.2.2 b).trans (h.2.2.2 b)⟩
theorem k_R_keep {fu n ea tp : Nat} {I Ir : fl_TI} {J Jr : fl_TJ} (hw : ea + n ≤ 7) (h : k_R fu n ea I J Ir Jr tp) : k_keep I J Ir Jr := by
  obtain ⟨-, -, -, k4⟩ := k_R_facts hw h
  exact ⟨fun a b q => ⟨k4 a b (by omega) (by omega), k_R_far h (by omega)⟩, fun b q => k4 30 b (by omega) (by omega), fun b => k4 31 b (by omega) (by omega), fun b => k4 32 b (by omega) (by omega)⟩
theorem k_RM_keep {fu n eq mm tp : Nat} {I Ir : fl_TI} {J Jr : fl_TJ} (hw : eq ≤ 3) (h : k_RM fu n eq mm I J Ir Jr tp) : k_keep I J Ir Jr := by
  obtain ⟨-, -, -, k4⟩ := k_RM_facts hw h
  exact ⟨fun a b q => ⟨k4 a b (by omega) (by omega), k_RM_far h (by omega)⟩, fun b q => k4 30 b (by omega) (by omega), fun b => k4 31 b (by omega) (by omega), fun b => k4 32 b (by omega) (by omega)⟩
theorem k_keepJ {I : fl_TI} {J J' : fl_TJ} (h : ∀ a b, a < 30 → J' a b = J a b) : k_keep I J I J' := ⟨fun a b q => ⟨rfl, h a b q⟩, fun _ _ => rfl, fun _ => rfl, fun _ => rfl⟩
theorem k_goes_keep {n e tp : Nat} {I : fl_TI} {J : fl_TJ} : k_keep I J I (k_goes n e tp I J).2 := k_keepJ (fun a b q => k_goes_far (by omega) (by omega))
def k_fst (g : Nat → Nat) : Nat → Nat → Int32
  | 0, _ => -1
  | k + 1, e => if g e = 0 then nI (e - 1) else k_fst g k (e + 1)
theorem lp_fails {p : Program} {l : Launch} {e : Env} {R : Room} {s : State} {m : MethodId} {args : Array Value} {below : List Frame} {meth : Method} {c : Code} {D : va_G} {dA : Nat → ClassId} {ad : Nat → Nat} {N : Nat} {A : Nat → Prop} {post : Option Value → fl_TI → fl_TJ → Prop} {I0 : fl_TI} {J0 : fl_TJ} {fu n eq : Nat} {g : Nat → Nat} (X : CallFix p m c cX2_fails 2 s args fl_tb RX2) (hr : meth.sig.returnType = some .int) (hlk : meth.locks = false) (hN : 37 ≤ N) (hn4 : n ≤ 4) (he3 : eq ≤ 3) (hn0 : I0 30 0 = nI n) (he0 : I0 30 1 = nI eq) (hG : ∀ (ea : Nat) (I : fl_TI) (J : fl_TJ), 1 ≤ ea → ea ≤ eq → k_keep I0 J0 I J → ∃ tp Ir Jr, k_R fu n ea I J Ir Jr tp ∧ (k_goes n ea tp Ir Jr).1 = g ea) (hR : 4 + 1 ≤ R.frames ∧ 8 + (3 + 11) + 40 * 4 ≤ R.locals) :
    ∀ (k i : Nat) (I : fl_TI) (J : fl_TJ) (H : Heap) (locs : List Loc) (ls : Array Slot), i + k = eq + 1 → 1 ≤ i → k_keep I0 J0 I J → fl_I D dA ad N I J A s s.heap H locs → lv_has ls 2 [(1, .int (nI i)), (0, .ref (ad 30))] → (∀ I2 J2, k_keep I0 J0 I2 J2 → post (some (.int (k_fst g k i))) I2 J2) → W p l e R s m args below meth c H locs 0 0 (MQ below (fl_Q D dA ad N post A) args s 0 0 A) (F0 m 2 ls []) := by
  have hx := X.1
  have hb := X.2.1
  intro k
  induction k with
  | zero =>
    intro i I J H locs ls hk h1 hkp hI hl hF
    have hn : I 30 0 = nI n := by rw [hkp.2.1 0 (by omega)]; exact hn0
    have he : I 30 1 = nI eq := by rw [hkp.2.1 1 (by omega)]; exact he0
    have hk : eq + 1 = i := by omega
    subst hk
    refine lv_iload_n hx hb dX2_fails_2 rfl (lv_at hl 0 rfl) ?_
    refine lv_aload_n hx hb dX2_fails_3 rfl (lv_at hl 1 rfl) ?_
    refine fl_get2 X hI dX2_fails_4 (by omega) 1 (by decide) wf_X2_33 rfl ?_
    refine W.eq (g2 := F0 m 7 ls [.int (nI eq), .int (nI (eq + 1))]) (by rw [he]) ?_
    refine fn_icmp_gt X (tgt := 28) dX2_fails_7 (by decide) (by omega) (by omega) (fun c1 => ?_) (fun c1 => absurd c1 (by omega))
    refine lv_iconst (v := (-1)) hx hb dX2_fails_28 (by decide) ?_
    exact fl_iret X hr hlk hI dX2_fails_29 (hF I J hkp)
  | succ k ih =>
    intro i I J H locs ls hk h1 hkp hI hl hF
    have hn : I 30 0 = nI n := by rw [hkp.2.1 0 (by omega)]; exact hn0
    have he : I 30 1 = nI eq := by rw [hkp.2.1 1 (by omega)]; exact he0
    obtain ⟨tp, Ir, Jr, hR1, hR2⟩ := hG i I J h1 (by omega) hkp
    have hk2 := (hkp.tr (k_R_keep (by omega) hR1)).tr (k_goes_keep (n := n) (e := i) (tp := tp))
    have hg1 : (k_goes n i tp Ir Jr).1 ≤ 1 := k_com_le
    refine lv_iload_n hx hb dX2_fails_2 rfl (lv_at hl 0 rfl) ?_
    refine lv_aload_n hx hb dX2_fails_3 rfl (lv_at hl 1 rfl) ?_
    refine fl_get2 X hI dX2_fails_4 (by omega) 1 (by decide) wf_X2_33 rfl ?_
    refine W.eq (g2 := F0 m 7 ls [.int (nI eq), .int (nI i)]) (by rw [he]) ?_
    refine fn_icmp_gt X (tgt := 28) dX2_fails_7 (by decide) (by omega) (by omega) (fun c1 => absurd c1 (by omega)) (fun c1 => ?_)
    refine lv_aload_n hx hb dX2_fails_10 rfl (lv_at hl 1 rfl) ?_
    refine lv_iload_n hx hb dX2_fails_11 rfl (lv_at hl 0 rfl) ?_
    refine fl_callV (k := 30) (As := [.int (nI i)]) (rest := []) X hI dX2_fails_12 (m_X2_goes D dA ad N I J hN hn hn4 (by omega) hR1) (by omega) fl_c_6 rfl rfl wc_yX2_goes wm_X2_83 wi_yX2_goes wl_yX2_goes wn_X2 hd_yX2_goes rfl ⟨by first | decide | omega, by first | decide | omega⟩ hl.1 (Nat.le_of_ble_eq_true rfl) (fun v I2 J2 H locs hp hI => ?_)
    obtain ⟨hv, hI2, hJ2⟩ := hp
    subst hv
    rw [hI2, hJ2] at hI
    refine W.eq (g2 := F0 m 15 ls [.int (nI ((k_goes n i tp Ir Jr).1))]) rfl ?_
    refine fn_if_ne X (tgt := 22) dX2_fails_15 (by decide) (by omega) (fun c2 => ?_) (fun c2 => ?_)
    · refine fn_iinc (a := i) (lv' := [(1, .int (nI (i + 1))), (0, .ref (ad 30))]) X dX2_fails_22 hl (k := 0) rfl (by decide) rfl (fun ls hl => ?_)
      refine lv_goto (tgt := 2) hx hb dX2_fails_25 (by decide) ?_
      exact ih (i + 1) _ _ _ _ _ (by omega) (by omega) hk2 hI (lv_sub hl [0, 1] rfl) (fun I2 J2 h2 => by have h9 := hF I2 J2 h2; simp only [k_fst] at h9; rw [if_neg (by omega)] at h9; exact h9)
    · refine lv_iload_n hx hb dX2_fails_18 rfl (lv_at hl 0 rfl) ?_
      refine lv_iconst (v := nI 1) hx hb dX2_fails_19 (by decide) ?_
      refine fn_isub X dX2_fails_20 (by omega) ?_
      exact fl_iret X hr hlk hI dX2_fails_21 (by have h9 := hF _ _ hk2; simp only [k_fst] at h9; rw [if_pos (by omega)] at h9; exact h9)
theorem m_X2_fails (D : va_G) (dA : Nat → ClassId) (ad : Nat → Nat) (N : Nat) (I : fl_TI) (J : fl_TJ) {fu n eq : Nat} {g : Nat → Nat} (hN : 37 ≤ N) (hn4 : n ≤ 4) (he3 : eq ≤ 3) (hn : I 30 0 = nI n) (he : I 30 1 = nI eq) (hG : ∀ (ea : Nat) (I2 : fl_TI) (J2 : fl_TJ), 1 ≤ ea → ea ≤ eq → k_keep I J I2 J2 → ∃ tp Ir Jr, k_R fu n ea I2 J2 Ir Jr tp ∧ (k_goes n ea tp Ir Jr).1 = g ea) : FM yX2_fails cX2_fails 2 (some .int) 5 D dA ad N [.ref (ad 30)] I J (fun v I' J' => v = some (.int (k_fst g eq 1)) ∧ k_keep I J I' J') := by
  refine FM.ofW RX2 rfl (by decide +kernel) (Nat.le_of_ble_eq_true rfl) ?_
  intro p l e s m args below meth c ls X hr hlk hI hl
  have hx := X.1
  have hb := X.2.1
  have hl : lv_has ls 2 [(0, .ref (ad 30))] := hl
  refine lv_iconst (v := nI 1) hx hb dX2_fails_0 (by decide) ?_
  refine lv_istore_n (lv' := [(1, .int (nI 1)), (0, .ref (ad 30))]) hx hb dX2_fails_1 rfl hl (by decide) rfl (fun ls hl => ?_)
  exact lp_fails X hr hlk hN hn4 he3 hn he hG ⟨by decide, by decide⟩ eq 1 I J _ _ _ (by omega) (Nat.le_refl _) k_keep.rf hI (lv_sub hl [0, 1] rfl) (fun I2 J2 h2 => ⟨rfl, h2⟩)
