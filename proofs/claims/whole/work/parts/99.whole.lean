/-! THE CLAIM OUT OF ONE WALK OF THE LAW'S BODY. Your part is whole_start (and what it stands on); all else here is the same for every law, but numbers. -/
def R_law : String := "WholeSolverLaw"
def lw_P (b : Addr) (xs : List Int32) (args : Array Value) (s : State) : Prop := args = #[.ref b] ∧ s.IntsAt b xs ∧ xs.length ≤ 3072 ∧ (Jvm.Cond.and given_1 narrow_1).before args s = true
def lw_Q (_ : Array Value) (s : State) (o : Outcome) (t : State) : Prop := o = .returned (some (.int 1)) ∧ Framed s o t [] 600000 7302250
def lw_Z (below : List Frame) (a : Array Value) (s : State) : State → Prop := fun t => ∃ o, t.status = .running ∧ Ended t below o ∧ lw_Q a s o t
/-- the law's own end, with 1 on the stack, nothing written that was there before, its room as the claim has it -/
theorem lw_ret {p : Program} {l : Launch} {e : Env} {s : State} {m : MethodId} {below : List Frame} {meth : Method} {c : Code} {b : Nat} (hx : p.tables.exec = Jvm.exec) (hb : c.code = code) (hr : meth.sig.returnType = ret) (hlocks : meth.locks = false) {pc : Nat} {H : Heap} {ls : Array Slot} (hdg : decode code pc = .ok (.ireturn, 1)) : W p l e room_1 s m #[Value.ref b] below meth c H [] 600000 7302250 (lw_Z below #[Value.ref b] s) (F0 m pc ls [.int 1]) := by
  intro T hT X
  obtain ⟨fs, hret, hrun, hended, hW, hframe⟩ := X.leave (v := some (.int 1)) (hlocks := hlocks) (fun h => by rw [hr] at h; cases h)
  have hmeth' : T.vm.method? m = some meth := X.method'
  refine ⟨T.setFrames fs, ?_, .returned (some (.int 1)), hrun, hended, rfl, ⟨_, rfl⟩, hW, hframe⟩
  jvm_step X.here [X.here.top, hx, hb, hdg, hmeth', hr, ret, narrow_b1]
  (try refine ⟨rfl, ?_⟩); (try refine ⟨rfl, ?_⟩)
  first | (intro acts; rw [hret _ acts rfl rfl rfl]) | rw [hret _ _ rfl rfl rfl]
  exact Steps.refl _
/-- what holds at the law's entry: the machine, the code, the tables' words (any of lw_tbl by 'hts w (by decide +kernel)'), the script of L ints xs at the cell b, what the Statement gives of the start (any of its parts by flat_of_before) -/
def lw_At (p : Program) (s : State) (m : MethodId) (meth : Method) (c : Code) (b L : Nat) (xs : Nat → Int32) : Prop :=
  p.tables.exec = Jvm.exec ∧ c.code = code ∧ meth.sig.returnType = ret ∧ c.maxLocals = 4 ∧ s.vm.findClass R_law = some m.cls ∧ (∀ w ∈ lw_tbl, w.before #[Value.ref b] s = true) ∧ va_X b L xs s s.heap ∧ b < s.heap.size ∧ meth.locks = false ∧ (Jvm.Cond.and given_1 narrow_1).before #[Value.ref b] s = true
theorem lw_sub {L i : Nat} (hL : L ≤ 3072) (hi : i ≤ 4000) (h : ¬ Int32.ofNat L - nI 6 < nI i) : i + 6 ≤ L := by
  rw [lt_i] at h
  have e : (Int32.ofNat L - nI 6).toInt = (L : Int) - 6 := by
    show (nI L - nI 6).toInt = _
    rw [Int32.toInt_sub, nI_t (by omega), nI_t (by decide)]
    exact Int.bmod_eq_of_le (by omega) (by omega)
  rw [e, nI_t (by omega)] at h
  omega
theorem fl_c_cong (dA : Nat → ClassId) {ad ad' : Nat → Nat} {I I' : fl_TI} {J J' : fl_TJ} {k : Nat} (hk : k < 30) (ha : ∀ k, k < 30 → ad k = ad' k) (hI : ∀ j, I k j = I' k j) (hJ : ∀ j, J k j = J' k j) : fl_c dA ad I J k = fl_c dA ad' I' J' k := by
  have eI : I k = I' k := funext hI
  have eJ : J k = J' k := funext hJ
  have g : ∀ n, k + 1 + n ≤ 30 → (fun i => if i < n then some (ad (k + 1 + i)) else none) = fun i => if i < n then some (ad' (k + 1 + i)) else none := fun n hn => by
    funext i
    by_cases h : i < n
    · rw [if_pos h, if_pos h, ha _ (by omega)]
    · rw [if_neg h, if_neg h]
  have sz : ∀ k, k < 30 → (fl_k k = 2 ∨ fl_k k = 3 → k + 1 + fl_n k ≤ 30) ∧ (fl_k k = 4 → k + 2 + fl_n (k + 1) < 30) ∧ fl_k k ≤ 5 := by decide
  obtain ⟨s1, s2, s3⟩ := sz k hk
  have s5 : ∀ k, k < 30 → fl_k k = 5 → k = 0 := by decide
  rcases (show fl_k k = 0 ∨ fl_k k = 1 ∨ fl_k k = 2 ∨ fl_k k = 3 ∨ fl_k k = 4 ∨ fl_k k = 5 by omega) with q | q | q | q | q | q
  · rw [fl_c_I q, fl_c_I q, eI]
  · rw [fl_c_J q, fl_c_J q, eJ]
  · rw [fl_c_II q, fl_c_II q, g (fl_n k) (s1 (.inl q))]
  · rw [fl_c_JJ q, fl_c_JJ q, g (fl_n k) (s1 (.inr q))]
  · have := s2 q
    rw [fl_c_4 q, fl_c_4 q, ha (k + 1) (by omega), ha (k + 2 + fl_n (k + 1)) (by omega), eI]
  · have := s5 k hk q
    subst this
    rw [fl_c_5, fl_c_5, ha 1 (by decide), ha 5 (by decide), ha 6 (by decide), ha 13 (by decide), ha 22 (by decide), ha 23 (by decide), ha 24 (by decide), eI]
set_option maxHeartbeats 2000000 in
set_option maxRecDepth 100000 in
/-- THE LAW'S LOOP: at its head both hold the same -/
theorem law_loop {p : Program} {l : Launch} {e : Env} {s : State} {m : MethodId} {below : List Frame} {meth : Method} {c : Code} {D : va_G} {dA : Nat → ClassId} {ad : Nat → Nat} {b L : Nat} {xs : Nat → Int32} (hL : L ≤ 3072) (C0 : lw_At p s m meth c b L xs) :
    ∀ (k i : Nat) (I : fl_TI) (J : fl_TJ) (H : Heap) (locs : List Loc) (ls : Array Slot), L < i + k → i ≤ 4000 → fl_I D dA ad 37 I J (fun q : Nat => s.heap.size ≤ q) s s.heap H locs → LI I J → lv_has ls 4 [(0, .ref b), (1, .ref (ad 0)), (2, .ref (ad 30)), (3, .int (nI i))] → W p l e room_1 s m #[Value.ref b] below meth c H locs 37 247 (lw_Z below #[Value.ref b] s) (F0 m 18 ls []) := by
  obtain ⟨hx, hb, hr, hml, hown, hts, hX, hbl, hlocks, hgv⟩ := C0
  have htf : ∀ w ∈ fl_tb, w.before #[Value.ref b] s = true := fun w hw => hts w (List.mem_filter.mp hw).1
  have X : CallFix p m c cL_law 4 s #[.ref b] fl_tb RL := ⟨hx, hb, hml, hown, htf⟩
  have hbA : ¬ (fun q : Nat => s.heap.size ≤ q) b := Nat.not_le.mpr hbl
  intro k
  induction k with
  | zero =>
    intro i I J H locs ls hk hi4 hI hLI hl
    -- behind the script: the loop ends
    refine lv_iload_n hx hb dL_law_18 rfl (lv_at hl 3 rfl) ?_
    refine lv_aload_n hx hb dL_law_19 rfl (lv_at hl 0 rfl) ?_
    refine va_slen hx hb hX hbl hbA hI.2.2.2.1 dL_law_20 ?_
    refine lv_bipush (v := nI 6) hx hb dL_law_21 (by decide) ?_
    refine lv_isub hx hb dL_law_23 ?_
    refine lv_icmp_gt (tgt := 541) hx hb dL_law_24 (by decide) (fun _ => ?_) (fun q => ?_)
    · refine lv_iconst (v := 1) hx hb dL_law_541 (by decide) ?_
      refine va_forget (fun q hq => hI.2.2.2.1.2.2 q hq) ?_
      refine W.widen (k := 600000) (n := 7302250) (by decide) (by decide) ?_
      exact lw_ret hx hb hr hlocks dL_law_542
    · exact absurd (lw_sub hL hi4 q) (by omega)
  | succ k ih =>
    intro i I J H locs ls hk hi4 hI hLI hl
    refine lv_iload_n hx hb dL_law_18 rfl (lv_at hl 3 rfl) ?_
    refine lv_aload_n hx hb dL_law_19 rfl (lv_at hl 0 rfl) ?_
    refine va_slen hx hb hX hbl hbA hI.2.2.2.1 dL_law_20 ?_
    refine lv_bipush (v := nI 6) hx hb dL_law_21 (by decide) ?_
    refine lv_isub hx hb dL_law_23 ?_
    refine lv_icmp_gt (tgt := 541) hx hb dL_law_24 (by decide) (fun _ => ?_) (fun q => ?_)
    · refine lv_iconst (v := 1) hx hb dL_law_541 (by decide) ?_
      refine va_forget (fun q hq => hI.2.2.2.1.2.2 q hq) ?_
      refine W.widen (k := 600000) (n := 7302250) (by decide) (by decide) ?_
      exact lw_ret hx hb hr hlocks dL_law_542
    · have hi6 : i + 6 ≤ L := lw_sub hL hi4 q
      have fin : ∀ (I' : fl_TI) (J' : fl_TJ) (H1 : Heap) (locs1 : List Loc), fl_I D dA ad 37 I' J' (fun q : Nat => s.heap.size ≤ q) s s.heap H1 locs1 → LI I' J' → W p l e room_1 s m #[.ref b] below meth c H1 locs1 37 247 (lw_Z below #[Value.ref b] s) (F0 m 535 ls []) := fun I' J' H1 locs1 hI1 hLI1 => by
        refine lv_iinc (v := nI (i + 6)) (lv' := [(3, .int (nI (i + 6))), (0, .ref b), (1, .ref (ad 0)), (2, .ref (ad 30))]) hx hb dL_law_535 hl (k := 3) rfl (nI_add i 6) (by decide) rfl (fun ls hl => ?_)
        refine lv_goto (tgt := 18) hx hb dL_law_538 (by decide) ?_
        exact ih (i + 6) I' J' H1 locs1 ls (by omega) (by omega) hI1 hLI1 (lv_sub hl [1, 2, 3, 0] rfl)
      refine lv_aload_n hx hb dL_law_27 rfl (lv_at hl 0 rfl) ?_
      refine lv_iload_n hx hb dL_law_28 rfl (lv_at hl 3 rfl) ?_
      refine va_sld hx hb hX hbl hbA hI.2.2.2.1 (vp_in_nI (show i < L by omega) (by omega)) dL_law_29 ?_
      refine lv_bipush (v := 15) hx hb dL_law_30 (by decide) ?_
      refine lv_iand hx hb dL_law_32 ?_
      obtain ⟨r, hr16, hre⟩ := and15 (xs (nI i).toNatClampNeg)
      rw [hre]
      rcases (show r = 0 ∨ r = 1 ∨ r = 2 ∨ r = 3 ∨ r = 4 ∨ r = 5 ∨ r = 6 ∨ r = 7 ∨ r = 8 ∨ r = 9 ∨ r = 10 ∨ r = 11 ∨ r = 12 ∨ r = 13 ∨ r = 14 ∨ r = 15 by omega) with rfl | rfl | rfl | rfl | rfl | rfl | rfl | rfl | rfl | rfl | rfl | rfl | rfl | rfl | rfl | rfl
      · exact lv_tableIn (off := 79) (tgt := 112) hx hb dL_law_33 (by decide) (by decide) (by decide) (by decide) (law_unknowns X hX hbl hi6 hL hI hLI hl fin)
      · exact lv_tableIn (off := 102) (tgt := 135) hx hb dL_law_33 (by decide) (by decide) (by decide) (by decide) (law_equation X hX hbl hi6 hL hI hLI hl fin)
      · exact lv_tableIn (off := 165) (tgt := 198) hx hb dL_law_33 (by decide) (by decide) (by decide) (by decide) (law_sum X hX hbl hi6 hL hI hLI hl fin)
      · exact lv_tableIn (off := 198) (tgt := 231) hx hb dL_law_33 (by decide) (by decide) (by decide) (by decide) (law_drop X hX hbl hi6 hL hI hLI hl fin)
      · exact lv_tableIn (off := 211) (tgt := 244) hx hb dL_law_33 (by decide) (by decide) (by decide) (by decide) (law_solve X hX hbl hi6 hL hI hLI hl fin)
      · exact lv_tableIn (off := 224) (tgt := 257) hx hb dL_law_33 (by decide) (by decide) (by decide) (by decide) (law_fails X hX hbl hi6 hL hI hLI hl fin)
      · exact lv_tableIn (off := 237) (tgt := 270) hx hb dL_law_33 (by decide) (by decide) (by decide) (by decide) (law_solution X hX hbl hi6 hL hI hLI hl fin)
      · exact lv_tableIn (off := 261) (tgt := 294) hx hb dL_law_33 (by decide) (by decide) (by decide) (by decide) (law_basis X hX hbl hi6 hL hI hLI hl fin)
      · exact lv_tableIn (off := 295) (tgt := 328) hx hb dL_law_33 (by decide) (by decide) (by decide) (by decide) (law_count X hX hbl hi6 hL hI hLI hl fin)
      · exact lv_tableIn (off := 318) (tgt := 351) hx hb dL_law_33 (by decide) (by decide) (by decide) (by decide) (law_reach X hX hbl hi6 hL hI hLI hl fin)
      · exact lv_tableIn (off := 352) (tgt := 385) hx hb dL_law_33 (by decide) (by decide) (by decide) (by decide) (law_reached X hX hbl hi6 hL hI hLI hl fin)
      · exact lv_tableIn (off := 395) (tgt := 428) hx hb dL_law_33 (by decide) (by decide) (by decide) (by decide) (law_invariant X hX hbl hi6 hL hI hLI hl fin)
      · exact lv_tableIn (off := 419) (tgt := 452) hx hb dL_law_33 (by decide) (by decide) (by decide) (by decide) (law_box X hX hbl hi6 hL hI hLI hl fin)
      · exact lv_tableIn (off := 452) (tgt := 485) hx hb dL_law_33 (by decide) (by decide) (by decide) (by decide) (law_modulo X hX hbl hi6 hL hI hLI hl fin)
      · exact lv_tableIn (off := 475) (tgt := 508) hx hb dL_law_33 (by decide) (by decide) (by decide) (by decide) (law_spread X hX hbl hi6 hL hI hLI hl fin)
      · exact lv_tableIn (off := 489) (tgt := 522) hx hb dL_law_33 (by decide) (by decide) (by decide) (by decide) (law_check X hX hbl hi6 hL hI hLI hl fin)
theorem first_LI (J0 : fl_TJ) (h : ∀ p x, p < 30 → J0 p x = x_formJ 1 0 i11 j11 p x) : LI (fun k j => if k < 30 then x_formI 1 0 i11 j11 k j else if k = 30 ∧ j = 0 then 1 else 0) J0 := by
  obtain ⟨⟨rr, T, L, u, cs⟩, -, -⟩ := form_cs (n := 1) (e := 0) (I := i11) (J := j11) rfl ⟨by decide, by decide⟩ rfl (by decide) (fun x i hx _ => by omega) (fun c hc => by omega)
  exact ⟨1, 0, rr, T, L, u, cs.congr (fun p x hp => if_pos (by omega)) (fun p x hp => h p x (by omega)), rfl, rfl, fun c j hc => by omega, fun c hc => by omega⟩
set_option maxHeartbeats 2000000 in
set_option maxRecDepth 100000 in
/-- THE LAW, from its entry -/
theorem whole_start {p : Program} {e : Env} {s : State} {m : MethodId} {below : List Frame} {meth : Method} {c : Code} (l : Launch) {b L : Nat} {xs : Nat → Int32} (hL : L ≤ 3072) (C0 : lw_At p s m meth c b L xs) : W p l e room_1 s m #[Value.ref b] below meth c s.heap [] 0 0 (lw_Z below #[Value.ref b] s) (entryFrame m ([Value.ref b] : List Value).toArray 4) := by
  obtain ⟨hx, hb, hr, hml, hown, hts, hX, hbl, hlocks, hgv⟩ := id C0
  have htf : ∀ w ∈ fl_tb, w.before #[Value.ref b] s = true := fun w hw => hts w (List.mem_filter.mp hw).1
  have X : CallFix p m c cL_law 4 s #[.ref b] fl_tb RL := ⟨hx, hb, hml, hown, htf⟩
  have hA : ∀ q : Nat, s.heap.size ≤ q → (fun q : Nat => s.heap.size ≤ q) q := fun _ h => h
  obtain ⟨c0, iS0, hKn0⟩ := u_known (C := RX0) (T := TX0) (N := 5) (n := 5) htf fl_w0 (htf (.instantiable RX0 5) (by decide +kernel))
  obtain ⟨c1, iS1, hKn1⟩ := u_known (C := RX1) (T := TX1) (N := 11) (n := 11) htf fl_w1 (htf (.instantiable RX1 11) (by decide +kernel))
  obtain ⟨c2, iS2, hKn2⟩ := u_known (C := RX2) (T := TX2) (N := 9) (n := 9) htf fl_w2 (htf (.instantiable RX2 9) (by decide +kernel))
  obtain ⟨dC, dI, hKc⟩ : ∃ (dC : Nat → ClassId) (dI : Nat → Nat → Nat), ∀ (k : Nat) (q : vw_C), fl_cl[k]? = some q → u_Kn s q.1 q.2.1 q.2.2 (dC k) (dI k) := by
    refine ⟨fun k => if k = 0 then c0 else if k = 1 then c1 else c2, fun k => if k = 0 then iS0 else if k = 1 then iS1 else iS2, ?_⟩
    intro k q hq
    match k, hq with
    | 0, hq => cases hq; exact hKn0
    | 1, hq => cases hq; exact hKn1
    | 2, hq => cases hq; exact hKn2
    | k + 3, hq => simp [fl_cl] at hq
  have hAI : va_AOA .int s := va_AOA.of (hts (.arrayOver (.array .int)) (by decide +kernel))
  have hAL : va_AOA .long s := va_AOA.of (hts (.arrayOver (.array .long)) (by decide +kernel))
  obtain ⟨a0, k0, m0, f0, g0, e0⟩ := Cond.arrayClass_spec (htf (.arrayClass .int) (by decide +kernel))
  obtain ⟨a1, k1, m1, f1, g1, e1⟩ := Cond.arrayClass_spec (htf (.arrayClass .long) (by decide +kernel))
  obtain ⟨a2, k2, m2, f2, g2, e2⟩ := arr_over (hts (.arrayOver (.array .int)) (by decide +kernel))
  obtain ⟨a3, k3, m3, f3, g3, e3⟩ := arr_over (hts (.arrayOver (.array .long)) (by decide +kernel))
  obtain ⟨dA, hKt⟩ : ∃ dA : Nat → ClassId, ∀ (k : Nat) (q : ClassId × FieldType), (fl_t dA)[k]? = some q → ArrOfT s q.1 q.2 ∧ va_RA s q.1 q.2 := by
    refine ⟨fun k => if k = 0 then a0 else if k = 1 then a1 else if k = 2 then a2 else a3, ?_⟩
    intro k q hq
    match k, hq with
    | 0, hq => cases hq; exact ⟨fun n z => ⟨fun k h => (by cases h), k0, g0, m0, e0⟩, f0⟩
    | 1, hq => cases hq; exact ⟨fun n z => ⟨fun k h => (by cases h), k1, g1, m1, e1⟩, f1⟩
    | 2, hq => cases hq; exact ⟨fun n z => ⟨fun k h => (by cases h), k2, g2, m2, e2⟩, f2⟩
    | 3, hq => cases hq; exact ⟨fun n z => ⟨fun k h => (by cases h), k3, g3, m3, e3⟩, f3⟩
    | k + 4, hq => simp [fl_t] at hq
  have hK : va_K (dC, dI) fl_cl (fl_t dA) s := ⟨hKc, hKt⟩
  have hfK : fl_K (dC, dI) dA s := ⟨hK, va_Nw.of rfl (hts (.methodLinkNest RX0 30 yX1_fillWithZero RX1) (by decide +kernel))⟩
  have hS : va_S (fun q : Nat => s.heap.size ≤ q) s.heap s.heap [] := va_S.rf
  have hP : va_P (dC, dI) fl_cl [] s.heap := fun k q h => by simp at h
  have hD : va_D (fun q : Nat => s.heap.size ≤ q) [] := ⟨fun i j p q h => by simp at h, fun k q h => by simp at h⟩
  have hl := lv_entry ([.ref b]) (n := 4) (Nat.le_of_ble_eq_true rfl)
  rw [lg_entry_eq]
  generalize (lg_sl ([.ref b]) ++ List.replicate (4 - (lg_sl ([.ref b])).length) Slot.unset).toArray = ls at hl ⊢
  have hl : lv_has ls 4 [(0, .ref b)] := hl
  refine va_new (ci := 1) (fs := [.null, .null, .int 0, .int 0, .null, .null, .int 0, .null, .int 0, .null, .null]) (C := RX1) (T := TX1) (N := 11) hx hb htf fl_w1 tyX1 tyX1_ok hown (htf (.classLink RL 7 RX1) (by decide +kernel)) (htf (.instantiable RX1 11) (by decide +kernel)) (htf _ wn_X1) hK hP hD hS hA rfl (fun j hj => by rcases (show j = 0 ∨ j = 1 ∨ j = 2 ∨ j = 3 ∨ j = 4 ∨ j = 5 ∨ j = 6 ∨ j = 7 ∨ j = 8 ∨ j = 9 ∨ j = 10 by omega) with rfl | rfl | rfl | rfl | rfl | rfl | rfl | rfl | rfl | rfl | rfl <;> rfl) (Nat.le_of_ble_eq_true rfl) (Nat.le_of_ble_eq_true rfl) dL_law_0 (fun q0 H hP hD hS => ?_)
  have hP : va_P (dC, dI) fl_cl [(q0, .inr (1, [.null, .null, .int 0, .int 0, .null, .null, .int 0, .null, .int 0, .null, .null]))] H := hP
  have hD : va_D (fun q : Nat => s.heap.size ≤ q) [(q0, .inr (1, [.null, .null, .int 0, .int 0, .null, .null, .int 0, .null, .int 0, .null, .null]))] := hD
  refine W.widen (k := 1) (n := 11) (by omega) (by omega) ?_
  refine lv_dup hx hb dL_law_3 rfl ?_
  have hPc := hP.sub (ws' := [(q0, .inr (1, [.null, .null, .int 0, .int 0, .null, .null, .int 0, .null, .int 0, .null, .null]))]) [0] rfl
  have hDc := hD.sub (ws' := [(q0, .inr (1, [.null, .null, .int 0, .int 0, .null, .null, .int 0, .null, .int 0, .null, .null]))]) [0] (by decide) rfl
  have hFc := va_free (wc := [(q0, .inr (1, [.null, .null, .int 0, .int 0, .null, .null, .int 0, .null, .int 0, .null, .null]))]) hD hS hA [0] rfl
  refine va_callv (va_runI (n := 0) (As := []) (rest := [.ref q0]) X (c_X1_init l (dC, dI) dA q0 H.size) ⟨callB_of 0 htf (fl_goodIn (fl_ws_in wc_yX1_init) (fun _ h => h)) rfl rfl rfl (htf _ wn_X1) (htf _ wm_L_9) (by decide +kernel) ⟨Nat.le_of_ble_eq_true rfl, Nat.le_of_ble_eq_true rfl⟩, rfl, htf _ wi_yX1_init⟩ ⟨fun a U g mk q => by obtain ⟨q0, q1, qK, qA, qB, qP, qD⟩ := q; exact ⟨q0, q1, ⟨va_K.moved (u := U) (U := U.calling g mk a) (Vm.Alike.refl U.vm) qK.1, va_Nw.same rfl rfl qK.2⟩, va_AOA.moved (u := U) (U := U.calling g mk a) (Vm.Alike.refl U.vm) qA, va_AOA.moved (u := U) (U := U.calling g mk a) (Vm.Alike.refl U.vm) qB, qP, qD⟩, fun U hU hW => ⟨rfl, by rw [hU], hfK.warm hW, va_AOA.moved hW.alike hAI, va_AOA.moved hW.alike hAL, by rw [hU]; exact hPc, hDc.weaken (fun _ _ _ _ => trivial)⟩⟩ rfl rfl hl.1 rfl (lv_room (Nat.le_of_ble_eq_true rfl)) dL_law_4 ⟨Nat.le_of_ble_eq_true rfl, Nat.le_of_ble_eq_true rfl⟩) hS (fun q _ h => hFc q h) hFc (fun ad1 t H1 locs ht hvm hw hB hz1 hk1 hS => ?_)
  obtain ⟨hP1, hD1⟩ := hB
  rw [ht] at hP1
  have hD1b := hD1.weaken (B := fun q : Nat => s.heap.size ≤ q) (fun k q _ h => hFc q.1 h)
  refine W.widen (k := 30) (n := 144) (by omega) (by omega) ?_
  refine lv_astore_n (lv' := [(1, .ref q0), (0, .ref b)]) hx hb dL_law_7 rfl hl (by decide) rfl (fun ls hl => ?_)
  generalize hwd : fl_w dA ad1 30 (x_formI 1 0 i11 j11) (x_formJ 1 0 i11 j11) = WD at hP1 hD1b
  have hlen : WD.length = 30 := by rw [← hwd]; unfold fl_w; rw [List.length_map, List.length_range]
  refine va_new (ci := 2) (fs := [.int 0, .int 0, .null, .null, .null, .int 0, .null, .null, .null]) (C := RX2) (T := TX2) (N := 9) hx hb htf fl_w2 tyX2 tyX2_ok hown (htf (.classLink RL 10 RX2) (by decide +kernel)) (htf (.instantiable RX2 9) (by decide +kernel)) (htf _ wn_X2) hK hP1 hD1b hS hA rfl (fun j hj => by rcases (show j = 0 ∨ j = 1 ∨ j = 2 ∨ j = 3 ∨ j = 4 ∨ j = 5 ∨ j = 6 ∨ j = 7 ∨ j = 8 by omega) with rfl | rfl | rfl | rfl | rfl | rfl | rfl | rfl | rfl <;> rfl) (Nat.le_of_ble_eq_true rfl) (Nat.le_of_ble_eq_true rfl) dL_law_8 (fun q8 H hP hD hS => ?_)
  refine W.widen (k := 31) (n := 153) (by omega) (by omega) ?_
  refine lv_dup hx hb dL_law_11 rfl ?_
  have h30 : (WD ++ [(q8, .inr (2, [.int 0, .int 0, .null, .null, .null, .int 0, .null, .null, .null]))])[30]? = some (q8, .inr (2, [.int 0, .int 0, .null, .null, .null, .int 0, .null, .null, .null])) := by rw [List.getElem?_append_right (by omega), hlen]; rfl
  have hPc : va_P (dC, dI) fl_cl [(q8, .inr (2, [.int 0, .int 0, .null, .null, .null, .int 0, .null, .null, .null]))] H := fun k q hq => by
    have h0 : k < 1 := (List.getElem?_eq_some_iff.mp hq).1
    rw [show k = 0 by omega] at hq
    cases hq
    exact hP 30 _ h30
  have hDc : va_D (fun q : Nat => s.heap.size ≤ q) [(q8, .inr (2, [.int 0, .int 0, .null, .null, .null, .int 0, .null, .null, .null]))] := ⟨fun i j x y hi hj _ => by
    have h1 : i < 1 := (List.getElem?_eq_some_iff.mp hi).1
    have h2 : j < 1 := (List.getElem?_eq_some_iff.mp hj).1
    omega, fun k q hq => by
    have h0 : k < 1 := (List.getElem?_eq_some_iff.mp hq).1
    rw [show k = 0 by omega] at hq
    cases hq
    exact hD.2 30 _ h30⟩
  have hFc := va_free (wc := [(q8, .inr (2, [.int 0, .int 0, .null, .null, .null, .int 0, .null, .null, .null]))]) hD hS hA [30] (congrArg (fun x => [x]) h30)
  refine va_callv (va_runI (n := 0) (As := []) (rest := [.ref q8]) X (c_X2_init l (dC, dI) dA q8 H.size) ⟨callB_of 0 htf (fl_goodIn (fl_ws_in wc_yX2_init) (fun _ h => h)) rfl rfl rfl (htf _ wn_X2) (htf _ wm_L_12) (by decide +kernel) ⟨Nat.le_of_ble_eq_true rfl, Nat.le_of_ble_eq_true rfl⟩, rfl, htf _ wi_yX2_init⟩ ⟨fun a U g mk q => by obtain ⟨q0, q1, qK, qP, qD⟩ := q; exact ⟨q0, q1, ⟨va_K.moved (u := U) (U := U.calling g mk a) (Vm.Alike.refl U.vm) qK.1, va_Nw.same rfl rfl qK.2⟩, qP, qD⟩, fun U hU hW => ⟨rfl, by rw [hU], hfK.warm hW, by rw [hU]; exact hPc, hDc.weaken (fun _ _ _ _ => trivial)⟩⟩ rfl rfl hl.1 rfl (lv_room (Nat.le_of_ble_eq_true rfl)) dL_law_12 ⟨Nat.le_of_ble_eq_true rfl, Nat.le_of_ble_eq_true rfl⟩) hS (fun q _ h => hFc q h) hFc (fun u2 t H1 locs ht hvm hw2 hB hz1 hk1 hS => ?_)
  obtain ⟨hP2, hD2⟩ := hB
  rw [ht] at hP2
  have hR30 : (List.range 30).map (fun i => (WD ++ [(q8, .inr (2, [.int 0, .int 0, .null, .null, .null, .int 0, .null, .null, .null]))])[i]?) = WD.map some := by
    apply List.ext_getElem?
    intro i
    rw [List.getElem?_map, List.getElem?_map]
    by_cases hi : i < 30
    · rw [List.getElem?_range hi]
      show some ((WD ++ [(q8, .inr (2, [.int 0, .int 0, .null, .null, .null, .int 0, .null, .null, .null]))])[i]?) = _
      rw [List.getElem?_append_left (by omega), List.getElem?_eq_getElem (show i < WD.length by omega)]
      rfl
    · rw [List.getElem?_eq_none (by rw [List.length_range]; omega), List.getElem?_eq_none (show WD.length ≤ i by omega)]
      rfl
  obtain ⟨hP, hD⟩ := va_join (wc := [(q8, .inr (2, [.int 0, .int 0, .null, .null, .null, .int 0, .null, .null, .null]))]) (wr := WD) (w1 := mdlw dA q8 u2) hP hD [30] (List.range 30) (congrArg (fun x => [x]) h30) hR30 (by decide +kernel) (by decide +kernel) hk1 hFc hP2 hD2
  obtain ⟨ad, had⟩ : ∃ ad : Nat → Nat, ad = fun k => if k < 30 then ad1 k else if k = 30 then q8 else u2 (k - 31) := ⟨_, rfl⟩
  have a30 : ∀ k, k < 30 → ad k = ad1 k := fun k hk => by rw [had]; exact if_pos hk
  have ew : fl_w dA ad 37 (fun k j => if k < 30 then x_formI 1 0 i11 j11 k j else if k = 30 ∧ j = 0 then 1 else 0) (fun k j => if k < 30 then x_formJ 1 0 i11 j11 k j else 0) = WD ++ mdlw dA q8 u2 := by
    rw [← hwd]
    have e37 : List.range 37 = List.range 30 ++ [30, 31, 32, 33, 34, 35, 36] := by decide +kernel
    unfold fl_w
    rw [e37, List.map_append]
    congr 1
    · apply List.map_congr_left
      intro k hk
      have hk : k < 30 := List.mem_range.mp hk
      rw [a30 k hk, fl_c_cong dA hk a30 (fun j => if_pos hk) (fun j => if_pos hk)]
    · subst had; rfl
  rw [← ew] at hP hD
  have hI : fl_I (dC, dI) dA ad 37 _ _ (fun q : Nat => s.heap.size ≤ q) s s.heap H1 locs := ⟨hfK, hP, hD, hS, hA⟩
  have e0q : ad 0 = q0 := by rw [a30 0 (by decide)]; exact hw
  have e30 : ad 30 = q8 := by subst had; rfl
  refine W.widen (k := 37) (n := 247) (by omega) (by omega) ?_
  refine lv_astore_n (lv' := [(2, .ref q8), (1, .ref q0), (0, .ref b)]) hx hb dL_law_15 rfl hl (by decide) rfl (fun ls hl => ?_)
  refine lv_iconst (v := 0) hx hb dL_law_16 (by decide) ?_
  refine lv_istore_n (lv' := [(3, .int 0), (2, .ref q8), (1, .ref q0), (0, .ref b)]) hx hb dL_law_17 rfl hl (by decide) rfl (fun ls hl => ?_)
  have hl2 : lv_has ls 4 [(0, .ref b), (1, .ref (ad 0)), (2, .ref (ad 30)), (3, .int (nI 0))] := by rw [e0q, e30]; exact lv_sub hl [3, 2, 1, 0] rfl
  exact law_loop hL C0 (L + 1) 0 _ _ _ _ ls (by omega) (by omega) hI (first_LI _ (fun p x hp => if_pos hp)) hl2
set_option maxHeartbeats 4000000 in
theorem lw_walk (l : Launch) (b : Addr) (xs : List Int32) : MetFree l x (headSpec (Jvm.Cond.code x code maxLocals ret :: tables_1) room_1) (lw_P b xs) (fun _ _ _ _ _ => True) lw_Q := by
  refine MetFree.of_bodyS (code := code) (maxLocals := maxLocals) (ret := ret) (by decide) ?_ ?_
  · intro args s m h hn
    obtain ⟨meth, c, h1, h2, h3, h4, h5, h6, -, -⟩ := Cond.code_spec hn (atoms_spec (ws := Jvm.Cond.code x code maxLocals ret :: tables_1) h _ List.mem_cons_self)
    exact ⟨meth, c, h1, h2, h3, h4, h5, h6⟩
  · intro p e s m args below meth c s₁ B hml0 hP _
    obtain ⟨rfl, hx, hbd, hgv⟩ := hP
    obtain ⟨scr, harrAt, hlist, hof, hsmall⟩ := hx
    obtain ⟨hcb, hkn, -, -⟩ := State.arrayAt?_spec harrAt
    have hown : s.vm.findClass R_law = some m.cls := findClass_of_methodNamed B.named
    have hts0 : ∀ c ∈ (Jvm.Cond.code x code maxLocals ret :: tables_1), c.before #[Value.ref b] s = true := atoms_spec (ws := Jvm.Cond.code x code maxLocals ret :: tables_1) B.pre
    have hts : ∀ w ∈ lw_tbl, w.before #[Value.ref b] s = true := k2_hts_sels lw_privs (fun w hw => hts0 w (List.mem_cons_of_mem _ hw)) lw_privs_ok
    have hml : c.maxLocals = 4 := B.maxLocals_eq (hts0 _ List.mem_cons_self)
    have X₀ : Stand p l e room_1 s m #[Value.ref b] below meth c s₁ [] 0 0 := Stand.of_body B
    have hh0 : s₁.heap = s.heap := by rw [B.state]; rfl
    have hsz : scr.slots.size = xs.length := by rw [← Array.length_toList, hlist, List.length_map]
    have hval : ∀ j : Nat, j < xs.length → scr.slots[j]? = some (.int (xs.getD j 0)) := fun j hj => by
      rw [← Array.getElem?_toList, hlist]
      simp [hj]
    have hbl : b < s.heap.size := (Array.getElem?_eq_some_iff.mp hcb).1
    have hX : va_X b xs.length (fun j => xs.getD j 0) s s.heap := ⟨scr, hcb, hof, hkn, hsz, hval⟩
    have K : W p l e room_1 s m #[Value.ref b] below meth c s₁.heap [] 0 0 (lw_Z below #[Value.ref b] s) (entryFrame m ([Value.ref b] : List Value).toArray 4) := by
      rw [hh0]
      exact whole_start l hbd ⟨B.exec, B.bytes, B.returns, hml, hown, hts, hX, hbl, B.notSynchronized, hgv⟩
    obtain ⟨t, a1, o, b1, b2, b3⟩ := K s₁ rfl X₀
    exact ⟨t, o, a1, b1, b2, b3⟩
theorem lw_pre_spec {args : Array Value} {s : State} (h : (Jvm.Cond.and given_1 narrow_1).before args s = true) (hr : rest_1_c.before args s = true) : ∃ (b : Addr) (xs : List Int32), lw_P b xs args s := by
  have hs := flat_of_before _ h
  have hq := flat_of_before _ hr
  have hc : (Cond.count 1).before args s = true := hs _ (by decide +kernel)
  have harr : (Cond.arrayOf (.arg 0) .int).before args s = true := hs _ (by decide +kernel)
  have hle : (Cond.le (.length (.arg 0)) (.int 3072)).before args s = true := hs _ (by decide +kernel)
  have hlen : (Cond.isInt (.length (.arg 0))).before args s = true := hq _ (by decide +kernel)
  have hall : (Cond.all (.arg 0) (.isInt (.elem (.arg 0) (.index 0)))).before args s = true := hq _ (by decide +kernel)
  obtain ⟨b, xs, hb, hx⟩ := State.ints_of_pre rfl harr hlen hall
  have hsm : xs.length < 2 ^ 31 := hx.choose_spec.2.2.2
  have hev : (Term.length (.arg 0)).eval args s none [] s = some (.int xs.length.toInt32) := hx.length_eval hb
  have hv := Cond.le_ints hev (show (Term.int 3072).eval args s none [] s = some (.int 3072) from rfl)
  have hd : xs.length.toInt32 ≤ 3072 := by
    simpa [Cond.before, Cond.holds, hv] using hle
  have hN : xs.length ≤ 3072 := (Int32.ofNat_le_ofNat hsm (by decide)).mp (show Int32.ofNat xs.length ≤ Int32.ofNat 3072 from hd)
  exact ⟨b, xs, Cond.one_arg hc (show args[0]? = some (.ref b) from hb), hx, hN, h⟩
theorem lw_comes (l : Launch) : Comes l x (Jvm.Cond.code x code maxLocals ret :: tables_1) room_1 (fun tb e args s => Calls_1 tb e args s ∧ rest_1 tb e args s ∧ Pre_1 tb e args s)
    (fun _ _ args s o t => lw_Q args s o t) := by
  intro p e ha hc hk s m args below hf hfit hheap happ hpre
  obtain ⟨b, xs, hP⟩ := lw_pre_spec hpre.2.2 hpre.2.1
  obtain ⟨k, o, h1, h2, h3, hQ⟩ := lw_walk l b xs p e ha hc hk s m args below hf ((Spec.applies_iff_loose hf).mp happ).1 hP trivial
  exact ⟨k, o, h1, h2, h3, hQ⟩
theorem lw_frame {s t : State} {o : Outcome} {args : Array Value} (h : Framed s o t [] 600000 7302250) :
    Framed s o t (fieldLocs frame_1_writes args s ++ arrayLocs frame_1_arrays args s ++ staticLocs frame_1_statics s) 600000 7302250 := h
theorem lw_limb (L : Cond) (hL : ∀ (args : Array Value) (s t : State), L.after args s (.returned (some (.int 1))) t = true) :
    ArmFor flags0 classFile x code maxLocals ret World_1 tables_1 room_1 Calls_1 rest_1 Pre_1
      (fun tb e a s o t => postC L tb e a s o t ∧ Framed s o t (fieldLocs frame_1_writes a s ++ arrayLocs frame_1_arrays a s ++ staticLocs frame_1_statics s) 600000 7302250) := by
  intro l _ _ _ p e ha hc hk s m args below hf hfit hheap happ hpre
  obtain ⟨k, o, h1, h2, h3, rfl, hF⟩ := lw_comes l p e ha hc hk s m args below hf hfit hheap happ hpre
  exact ⟨k, _, h1, h2, h3, hL args s _, lw_frame hF⟩
theorem i_vc : Claimed_1_1 ∧ Claimed_1_2 := ⟨lw_limb limb_1_1 (fun args s t => by simp [limb_1_1, Cond.after, Cond.holds, Cond.value]), lw_limb limb_1_2 (fun args s t => Cond.after_iff.mpr (by
  first | (rw [show limb_1_2 = Cond.eq .result (.int 1) from rfl, Cond.eq_ints (x := 1) (y := 1) rfl rfl]; simp; done) | (simp [limb_1_2, Cond.value, Term.eval]; done)))⟩
