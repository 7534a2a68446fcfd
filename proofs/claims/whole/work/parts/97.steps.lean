/-! THE SAME ANSWERS, call by call -/
def LD (I : fl_TI) (J : fl_TJ) (n e rr : Nat) (T : Nat → Nat → Int) (L : Nat → Nat) (u : Nat → Int) : Prop := CS I J n e rr T L u ∧ I 30 0 = nI n ∧ I 30 1 = nI e ∧ (∀ c j, c < e → j < 4 → I (2 + c) j = I 31 (4 * c + j)) ∧ ∀ c, c < e → I 5 c = I 32 c
def LI (I : fl_TI) (J : fl_TJ) : Prop := ∃ n e rr T L u, LD I J n e rr T L u
def PairI (D : va_G) (dA : Nat → ClassId) (ad : Nat → Nat) (y1 : MethodName) (c1 : ByteArray) (n1 d1 : Nat) (y2 : MethodName) (c2 : ByteArray) (n2 d2 : Nat) (As : List Value) (I : fl_TI) (J : fl_TJ) : Prop :=
  ∃ (a : Int32) (I1 : fl_TI) (J1 : fl_TJ) (P1 P2 : Option Value → fl_TI → fl_TJ → Prop), FM y1 c1 n1 (some .int) d1 D dA ad 37 (.ref (ad 0) :: As) I J P1 ∧ (∀ v I' J', P1 v I' J' → v = some (.int a) ∧ I' = I1 ∧ J' = J1) ∧ FM y2 c2 n2 (some .int) d2 D dA ad 37 (.ref (ad 30) :: As) I1 J1 P2 ∧ ∀ v I' J', P2 v I' J' → v = some (.int a) ∧ LI I' J'
def PairJ (D : va_G) (dA : Nat → ClassId) (ad : Nat → Nat) (y1 : MethodName) (c1 : ByteArray) (n1 d1 : Nat) (y2 : MethodName) (c2 : ByteArray) (n2 d2 : Nat) (As : List Value) (I : fl_TI) (J : fl_TJ) : Prop :=
  ∃ (a : Int64) (I1 : fl_TI) (J1 : fl_TJ) (P1 P2 : Option Value → fl_TI → fl_TJ → Prop), FM y1 c1 n1 (some .long) d1 D dA ad 37 (.ref (ad 0) :: As) I J P1 ∧ (∀ v I' J', P1 v I' J' → v = some (.long a) ∧ I' = I1 ∧ J' = J1) ∧ FM y2 c2 n2 (some .long) d2 D dA ad 37 (.ref (ad 30) :: As) I1 J1 P2 ∧ ∀ v I' J', P2 v I' J' → v = some (.long a) ∧ LI I' J'
theorem LD.a {I : fl_TI} {J : fl_TJ} {n e rr : Nat} {T : Nat → Nat → Int} {L : Nat → Nat} {u : Nat → Int} (h : LD I J n e rr T L u) : ∀ c j, c < e → j < n → aC I c j = aM I c j := fun c j hc hj => by unfold aC aM; rw [h.2.2.2.1 c j hc (by have := h.1.1.2.1; omega)]
theorem LD.s {I : fl_TI} {J : fl_TJ} {n e rr : Nat} {T : Nat → Nat → Int} {L : Nat → Nat} {u : Nat → Int} (h : LD I J n e rr T L u) : ∀ c, c < e → sC I c = sM I c := fun c hc => by unfold sC sM; rw [h.2.2.2.2 c hc]
theorem LD.sml {I : fl_TI} {J : fl_TJ} {n e rr : Nat} {T : Nat → Nat → Int} {L : Nat → Nat} {u : Nat → Int} (h : LD I J n e rr T L u) : sml (aM I) e n := fun x i hx hi => by rw [← h.a x i hx hi]; exact h.1.2.1 x i hx hi
theorem LD.sums {I : fl_TI} {J : fl_TJ} {n e rr : Nat} {T : Nat → Nat → Int} {L : Nat → Nat} {u : Nat → Int} (h : LD I J n e rr T L u) : ∀ c, c < e → (sM I c).natAbs ≤ 1000 := fun c hc => by rw [← h.s c hc]; exact h.1.2.2.1 c hc
theorem LD.keep {I I' : fl_TI} {J J' : fl_TJ} {n e rr : Nat} {T : Nat → Nat → Int} {L : Nat → Nat} {u : Nat → Int} (h : LD I J n e rr T L u) (k : k_keep I J I' J') : LD I' J' n e rr T L u := by
  have he := h.1.1.2.2.2.1
  exact ⟨h.1.congr (fun p x hp => (k.1 p x (by omega)).1) (fun p x hp => (k.1 p x (by omega)).2), by rw [k.2.1 0 (by decide)]; exact h.2.1, by rw [k.2.1 1 (by decide)]; exact h.2.2.1, fun c j hc hj => by rw [(k.1 (2 + c) j (by omega)).1, k.2.2.1]; exact h.2.2.2.1 c j hc hj, fun c hc => by rw [(k.1 5 c (by omega)).1, k.2.2.2]; exact h.2.2.2.2 c hc⟩
/-- the class changed no more than its helpers -/
theorem LD.helpers {I I' : fl_TI} {J J' : fl_TJ} {n e rr : Nat} {T : Nat → Nat → Int} {L : Nat → Nat} {u : Nat → Int} (h : LD I J n e rr T L u) (hI : ∀ p x, p ≠ 13 → p ≠ 21 → I' p x = I p x) (hJ : ∀ p x, (p < 15 ∨ 21 ≤ p ∧ p < 23) → J' p x = J p x) : LD I' J' n e rr T L u := by
  have he := h.1.1.2.2.2.1
  exact ⟨h.1.congr (fun p x hp => hI p x (by omega) (by omega)) (fun p x hp => hJ p x (by omega)), by rw [hI _ _ (by decide) (by decide)]; exact h.2.1, by rw [hI _ _ (by decide) (by decide)]; exact h.2.2.1, fun c j hc hj => by rw [hI _ _ (by omega) (by omega), hI _ _ (by decide) (by decide)]; exact h.2.2.2.1 c j hc hj, fun c hc => by rw [hI _ _ (by decide) (by decide), hI _ _ (by decide) (by decide)]; exact h.2.2.2.2 c hc⟩
/-- what relate makes, as the class has it -/
theorem LD.rel {I : fl_TI} {J : fl_TJ} {n e rr : Nat} {T : Nat → Nat → Int} {L : Nat → Nat} {u : Nat → Int} (h : LD I J n e rr T L u) : ∃ Ir Jr, k_R 9223372036854775808 n e I J Ir Jr n ∧ Fm (aM I) e n T L ∧ shM n (e + n) Jr T ∧ (∀ i, i < n → ldI Ir 34 i = L i) ∧ k_bef Ir e n 0 = rr ∧ k_keep I J Ir Jr := by
  have hn := h.1.1.2.1
  have he := h.1.1.2.2.2.1
  obtain ⟨Ir, Jr, T', L', r1, r2, r3, r4, r5⟩ := k_rel_form (J := J) hn.1 hn.2 he h.sml (Nat.le_refl 9223372036854775808)
  have hF : Fm (aM I) e n T L := Fm.congr h.a h.1.2.2.2.1
  have uq := fm_unique hF r2
  have ld : ∀ i, i < n → ldI Ir 34 i = L i := fun i hi => by rw [r5 i hi, (uq i hi).1]
  exact ⟨Ir, Jr, r1, hF, fun i x hi hx => by rw [r3 i x hi hx, (uq i hi).2 x hx], ld, k_bef_lb ld h.1.2.2.2.2.2.2.1, k_R_keep (by omega) r1⟩
theorem LD.inM {I : fl_TI} {J : fl_TJ} {n e rr : Nat} {T : Nat → Nat → Int} {L : Nat → Nat} {u : Nat → Int} (h : LD I J n e rr T L u) : I 0 8 = -1 ↔ In (aM I) (sM I) e n := by
  rw [h.1.2.2.2.2.2.2.2.1.neg h.1.1.2.2.2.1]
  exact ⟨In.congr h.a h.s, In.congr (fun c j hc hj => (h.a c j hc hj).symm) (fun c hc => (h.s c hc).symm)⟩
theorem i_nat {x : Int32} (h : 0 ≤ x.toInt) : x = nI x.toInt.toNat := by
  apply Int32.toInt_inj.mp
  have := x.toInt_lt
  rw [nI_toInt (by omega)]
  omega
theorem lt_i {x y : Int32} : x < y ↔ x.toInt < y.toInt := Int32.lt_iff_toInt_lt
theorem le_i {x y : Int32} : x ≤ y ↔ x.toInt ≤ y.toInt := Int32.le_iff_toInt_le
theorem nI_t {k : Nat} (h : k < 2147483648) : (nI k).toInt = k := nI_toInt (by omega)
/-- a place in range -/
theorem i_in {x : Int32} {n : Nat} (hn : n ≤ 64) (h1 : ¬ x < 0) (h2 : x < nI n) : ∃ j, j < n ∧ x = nI j := by
  rw [lt_i, nI_t (by omega)] at h2
  rw [lt_i] at h1
  have z : (0 : Int32).toInt = 0 := rfl
  exact ⟨x.toInt.toNat, by omega, i_nat (by omega)⟩
theorem i_in2 {x : Int32} {n : Nat} (hn : n ≤ 64) (h1 : ¬ x < 0) (h2 : ¬ nI n ≤ x) : ∃ j, j < n ∧ x = nI j := by
  refine i_in hn h1 ?_
  rw [le_i] at h2
  rw [lt_i]
  omega
section STEPS
variable {D : va_G} {dA : Nat → ClassId} {ad : Nat → Nat} {I : fl_TI} {J : fl_TJ}
theorem s_unknowns (h : LI I J) (x : Int32) : PairI D dA ad yX1_unknowns cX1_unknowns 2 5 yX2_unknowns cX2_unknowns 2 0 [.int x] I J := by
  by_cases hb : x < nI 1 ∨ ¬ x ≤ nI 4
  · exact ⟨nI 0, I, J, _, _, m_X1_unknowns_bad D dA ad 37 I J (by decide) x hb, fun v I' J' q => q, m_X2_unknowns_bad D dA ad 37 I J (by decide) x hb, fun v I' J' q => by obtain ⟨q1, rfl, rfl⟩ := q; exact ⟨q1, h⟩⟩
  · obtain ⟨n, hn1, hn4, rfl⟩ : ∃ n, 1 ≤ n ∧ n ≤ 4 ∧ x = nI n := by
      have h1 : ¬ x < nI 1 := fun q => hb (.inl q)
      have h2 : x ≤ nI 4 := Classical.byContradiction (fun q => hb (.inr q))
      rw [lt_i, nI_t (by decide)] at h1
      rw [le_i, nI_t (by decide)] at h2
      exact ⟨x.toInt.toNat, by omega, by omega, i_nat (by omega)⟩
    obtain ⟨⟨rr, T, L, u, cs⟩, kI, kJ⟩ := form_cs (n := n) (e := 0) (I := fl_up (fl_up I 0 2 (nI n)) 0 3 (nI 0)) (J := J) (by rw [fl_up_j (by decide), fl_up_s]) ⟨hn1, hn4⟩ (by rw [fl_up_s]) (by decide) (fun x i hx _ => by omega) (fun c hc => by omega)
    refine ⟨nI 1, _, _, _, _, m_X1_unknowns D dA ad 37 I J (by decide) hn1 hn4, fun v I' J' q => q, m_X2_unknowns D dA ad 37 _ _ (by decide) hn1 hn4, fun v I' J' q => ?_⟩
    obtain ⟨q1, rfl, rfl⟩ := q
    refine ⟨q1, n, 0, rr, T, L, u, cs.congr (fun p x hp => by rw [fl_up_k (by omega), fl_up_k (by omega)]) (fun _ _ _ => rfl), ?_, ?_, fun c j hc => by omega, fun c hc => by omega⟩
    · rw [fl_up_j (by decide), fl_up_s]
    · rw [fl_up_s]
theorem fac9 {n j : Nat} {x : Int32} (h : n ≤ j ∨ (¬ x < -9 ∧ ¬ nI 9 < x)) (hj : j < n) : x.toInt.natAbs ≤ 9 := by
  rcases h with q | ⟨q1, q2⟩
  · omega
  · rw [lt_i] at q1 q2
    have e1 : (-9 : Int32).toInt = -9 := rfl
    have e2 : (nI 9).toInt = 9 := rfl
    omega
theorem sum1000 {x : Int32} (h : ¬ x < -1000 ∧ ¬ nI 1000 < x) : x.toInt.natAbs ≤ 1000 := by
  obtain ⟨q1, q2⟩ := h
  rw [lt_i] at q1 q2
  have e1 : (-1000 : Int32).toInt = -1000 := rfl
  have e2 : (nI 1000).toInt = 1000 := rfl
  omega
theorem s_equation (h : LI I J) (x0 x1 x2 x3 xs : Int32) : PairI D dA ad yX1_equation cX1_equation 7 5 yX2_equation cX2_equation 7 1 [.int x0, .int x1, .int x2, .int x3, .int xs] I J := by
  obtain ⟨n, e, rr, T, L, u, hL⟩ := id h
  have ok := hL.1.1
  have hn := ok.2.1
  have he := ok.2.2.2.1
  by_cases hb : e < 3 ∧ (¬ xs < -1000 ∧ ¬ nI 1000 < xs) ∧ (n ≤ 0 ∨ (¬ x0 < -9 ∧ ¬ nI 9 < x0)) ∧ (n ≤ 1 ∨ (¬ x1 < -9 ∧ ¬ nI 9 < x1)) ∧ (n ≤ 2 ∨ (¬ x2 < -9 ∧ ¬ nI 9 < x2)) ∧ (n ≤ 3 ∨ (¬ x3 < -9 ∧ ¬ nI 9 < x3))
  · obtain ⟨h3, hs, f0, f1, f2, f3⟩ := hb
    have at0 : ∀ p x, p ≠ 2 + e → p ≠ 5 → p ≠ 0 → i_eqn e x0 x1 x2 x3 xs I p x = I p x := fun p x g1 g2 g3 => by unfold i_eqn; rw [fl_up_k g3, fl_up_k g2, fl_up_k g1, fl_up_k g1, fl_up_k g1, fl_up_k g1]
    have at5 : ∀ c, i_eqn e x0 x1 x2 x3 xs I 5 c = if c = e then xs else I 5 c := fun c => by
      unfold i_eqn
      rw [fl_up_k (by decide)]
      by_cases q : c = e
      · rw [if_pos q, q, fl_up_s]
      · rw [if_neg q, fl_up_j q, fl_up_k (by omega), fl_up_k (by omega), fl_up_k (by omega), fl_up_k (by omega)]
    have atE : ∀ j, j < 4 → i_eqn e x0 x1 x2 x3 xs I (2 + e) j = if j = 0 then x0 else if j = 1 then x1 else if j = 2 then x2 else x3 := fun j hj => by
      unfold i_eqn
      rw [fl_up_k (by omega), fl_up_k (by omega)]
      rcases (show j = 0 ∨ j = 1 ∨ j = 2 ∨ j = 3 by omega) with rfl | rfl | rfl | rfl
      · rw [fl_up_j (by decide), fl_up_j (by decide), fl_up_j (by decide), fl_up_s]; rfl
      · rw [fl_up_j (by decide), fl_up_j (by decide), fl_up_s]; rfl
      · rw [fl_up_j (by decide), fl_up_s]; rfl
      · rw [fl_up_s]; rfl
    obtain ⟨⟨rr', T', L', u', cs⟩, kI, kJ⟩ := form_cs (n := n) (e := e + 1) (I := i_eqn e x0 x1 x2 x3 xs I) (J := J) (by unfold i_eqn; rw [fl_up_j (by decide), fl_up_k (by decide), fl_up_k (by omega), fl_up_k (by omega), fl_up_k (by omega), fl_up_k (by omega)]; exact ok.1) hn (by unfold i_eqn; rw [fl_up_s]) (by omega) (fun c j hc hj => by
        unfold aC
        by_cases q : c = e
        · rw [q, atE j (by omega)]
          rcases (show j = 0 ∨ j = 1 ∨ j = 2 ∨ j = 3 by omega) with rfl | rfl | rfl | rfl
          · exact fac9 f0 hj
          · exact fac9 f1 hj
          · exact fac9 f2 hj
          · exact fac9 f3 hj
        · rw [at0 _ _ (by omega) (by omega) (by omega)]; exact hL.1.2.1 c j (by omega) hj) (fun c hc => by
        unfold sC
        rw [at5]
        by_cases q : c = e
        · rw [if_pos q]; exact sum1000 hs
        · rw [if_neg q]; exact hL.1.2.2.1 c (by omega))
    have k30 : ∀ p x, 30 ≤ p → x_formI n (e + 1) (i_eqn e x0 x1 x2 x3 xs I) J p x = I p x := fun p x hp => by rw [kI p x (by omega) (by omega) (by omega), at0 p x (by omega) (by omega) (by omega)]
    refine ⟨nI e, _, _, _, _, m_X1_equation D dA ad 37 I J (by decide) ok.1 hn.2 ok.2.2.1 he h3 hs f0 f1 f2 f3, fun v I' J' q => q, m_X2_equation D dA ad 37 _ _ (by decide) (by rw [k30 _ _ (by decide)]; exact hL.2.1) hn.2 (by rw [k30 _ _ (by decide)]; exact hL.2.2.1) he h3 hs f0 f1 f2 f3, fun v I' J' q => ?_⟩
    obtain ⟨q1, rfl, rfl⟩ := q
    have m0 : ∀ p x, p < 30 → k_eqn e x0 x1 x2 x3 xs (x_formI n (e + 1) (i_eqn e x0 x1 x2 x3 xs I) J) p x = x_formI n (e + 1) (i_eqn e x0 x1 x2 x3 xs I) J p x := fun p x hp => by unfold k_eqn; rw [fl_up_k (by omega), fl_up_k (by omega), fl_up_k (by omega), fl_up_k (by omega), fl_up_k (by omega), fl_up_k (by omega)]
    refine ⟨q1, n, e + 1, rr', T', L', u', cs.congr (fun p x hp => m0 p x (by omega)) (fun _ _ _ => rfl), ?_, ?_, fun c j hc hj => ?_, fun c hc => ?_⟩
    · unfold k_eqn
      rw [fl_up_j (by decide), fl_up_k (by decide), fl_up_k (by decide), fl_up_k (by decide), fl_up_k (by decide), fl_up_k (by decide), k30 _ _ (by decide)]; exact hL.2.1
    · unfold k_eqn; rw [fl_up_s]
    · rw [m0 _ _ (by omega), kI _ _ (by omega) (by omega) (by omega)]
      unfold k_eqn
      rw [fl_up_k (by decide), fl_up_k (by decide)]
      by_cases q : c = e
      · subst q
        rw [atE j hj]
        rcases (show j = 0 ∨ j = 1 ∨ j = 2 ∨ j = 3 by omega) with rfl | rfl | rfl | rfl
        · rw [fl_up_j (by omega), fl_up_j (by omega), fl_up_j (by omega), show 4 * c + 0 = 4 * c from rfl, fl_up_s]; rfl
        · rw [fl_up_j (by omega), fl_up_j (by omega), fl_up_s]; rfl
        · rw [fl_up_j (by omega), fl_up_s]; rfl
        · rw [fl_up_s]; rfl
      · rw [at0 _ _ (by omega) (by omega) (by omega), fl_up_j (by omega), fl_up_j (by omega), fl_up_j (by omega), fl_up_j (by omega), k30 _ _ (by decide)]
        exact hL.2.2.2.1 c j (by omega) hj
    · rw [m0 _ _ (by decide), kI _ _ (by decide) (by decide) (by decide), at5]
      unfold k_eqn
      rw [fl_up_k (by decide)]
      by_cases q : c = e
      · rw [if_pos q, q, fl_up_s]
      · rw [if_neg q, fl_up_j q, fl_up_k (by decide), fl_up_k (by decide), fl_up_k (by decide), fl_up_k (by decide), k30 _ _ (by decide)]
        exact hL.2.2.2.2 c (by omega)
  · exact ⟨-1, I, J, _, _, m_X1_equation_bad D dA ad 37 I J (by decide) ok.1 hn.2 ok.2.2.1 he hb, fun v I' J' q => q, m_X2_equation_bad D dA ad 37 I J (by decide) hL.2.1 hn.2 hL.2.2.1 he hb, fun v I' J' q => by obtain ⟨q1, rfl, rfl⟩ := q; exact ⟨q1, h⟩⟩
theorem s_sum (h : LI I J) (x xs : Int32) : PairI D dA ad yX1_sum cX1_sum 3 4 yX2_sum cX2_sum 3 1 [.int x, .int xs] I J := by
  obtain ⟨n, e, rr, T, L, u, hL⟩ := id h
  have ok := hL.1.1
  have he := ok.2.2.2.1
  by_cases hb : ¬ x < 0 ∧ ¬ nI e ≤ x ∧ (¬ xs < -1000 ∧ ¬ nI 1000 < xs)
  · obtain ⟨b, hbe, rfl⟩ := i_in2 (by omega) hb.1 hb.2.1
    obtain ⟨⟨u', cs⟩, kk⟩ := sum_cs (b := b) (xs := xs) hL.1 hbe (sum1000 hb.2.2)
    have k30 : ∀ p y, 30 ≤ p → i_settle e n n (fl_up I 5 b xs) J p y = I p y := fun p y hp => (kk p y (by omega) (by omega)).1
    refine ⟨nI 1, _, _, _, _, m_X1_sum D dA ad 37 I J (by decide) ok hbe hb.2.2, fun v I' J' q => q, m_X2_sum D dA ad 37 _ _ (by decide) (by rw [k30 _ _ (by decide)]; exact hL.2.2.1) he hbe hb.2.2, fun v I' J' q => ?_⟩
    obtain ⟨q1, rfl, rfl⟩ := q
    have s5 : ∀ c, i_settle e n n (fl_up I 5 b xs) J 5 c = if c = b then xs else I 5 c := fun c => by
      unfold i_settle
      rw [fl_up_k (by decide)]
      by_cases q : c = b
      · rw [if_pos q, q, fl_up_s]
      · rw [if_neg q, fl_up_j q]
    refine ⟨q1, n, e, rr, T, L, u', cs.congr (fun p y hp => fl_up_k (by omega)) (fun _ _ _ => rfl), ?_, ?_, fun c j hc hj => ?_, fun c hc => ?_⟩
    · rw [fl_up_k (by decide), k30 _ _ (by decide)]; exact hL.2.1
    · rw [fl_up_k (by decide), k30 _ _ (by decide)]; exact hL.2.2.1
    · rw [fl_up_k (by omega), fl_up_k (by decide), k30 31 _ (by decide)]
      unfold i_settle
      rw [fl_up_k (by omega), fl_up_k (by omega)]
      exact hL.2.2.2.1 c j hc hj
    · rw [fl_up_k (by decide), s5]
      by_cases q : c = b
      · rw [if_pos q, q, fl_up_s]
      · rw [if_neg q, fl_up_j q, k30 _ _ (by decide)]; exact hL.2.2.2.2 c hc
  · exact ⟨nI 0, I, J, _, _, m_X1_sum_bad D dA ad 37 I J (by decide) ok hb, fun v I' J' q => q, m_X2_sum_bad D dA ad 37 I J (by decide) hL.2.2.1 hb, fun v I' J' q => by obtain ⟨q1, rfl, rfl⟩ := q; exact ⟨q1, h⟩⟩
theorem s_drop (h : LI I J) : PairI D dA ad yX1_drop cX1_drop 1 5 yX2_drop cX2_drop 1 0 [] I J := by
  obtain ⟨n, e, rr, T, L, u, hL⟩ := id h
  have ok := hL.1.1
  have hn := ok.2.1
  have he := ok.2.2.2.1
  cases e with
  | zero => exact ⟨-1, I, J, _, _, m_X1_drop_bad D dA ad 37 I J (by decide) ok.2.2.1, fun v I' J' q => q, m_X2_drop_bad D dA ad 37 I J (by decide) hL.2.2.1, fun v I' J' q => by obtain ⟨q1, rfl, rfl⟩ := q; exact ⟨q1, h⟩⟩
  | succ e =>
    obtain ⟨⟨rr', T', L', u', cs⟩, kI, kJ⟩ := form_cs (n := n) (e := e) (I := fl_up I 0 3 (nI e)) (J := J) (by rw [fl_up_j (by decide)]; exact ok.1) hn (by rw [fl_up_s]) (by omega) (fun c j hc hj => by unfold aC; rw [fl_up_k (by omega)]; exact hL.1.2.1 c j (by omega) hj) (fun c hc => by unfold sC; rw [fl_up_k (by decide)]; exact hL.1.2.2.1 c (by omega))
    have k30 : ∀ p x, 1 ≤ p → p ≠ 6 → p ≠ 12 → x_formI n e (fl_up I 0 3 (nI e)) J p x = I p x := fun p x h1 h2 h3 => by rw [kI p x (by omega) h2 h3, fl_up_k (by omega)]
    refine ⟨nI e, _, _, _, _, m_X1_drop D dA ad 37 I J (by decide) ok.1 hn.1 hn.2 ok.2.2.1 (by omega), fun v I' J' q => q, m_X2_drop D dA ad 37 _ _ (by decide) (by rw [k30 _ _ (by decide) (by decide) (by decide)]; exact hL.2.2.1) (by omega), fun v I' J' q => ?_⟩
    obtain ⟨q1, rfl, rfl⟩ := q
    refine ⟨q1, n, e, rr', T', L', u', cs.congr (fun p y hp => fl_up_k (by omega)) (fun _ _ _ => rfl), ?_, ?_, fun c j hc hj => ?_, fun c hc => ?_⟩
    · rw [fl_up_j (by decide), k30 _ _ (by decide) (by decide) (by decide)]; exact hL.2.1
    · rw [fl_up_s]
    · rw [fl_up_k (by omega), fl_up_k (by decide), k30 _ _ (by omega) (by omega) (by omega), k30 _ _ (by decide) (by decide) (by decide)]; exact hL.2.2.2.1 c j (by omega) hj
    · rw [fl_up_k (by decide), fl_up_k (by decide), k30 _ _ (by decide) (by decide) (by decide), k30 _ _ (by decide) (by decide) (by decide)]; exact hL.2.2.2.2 c (by omega)
theorem s_solve (h : LI I J) : PairI D dA ad yX1_solve cX1_solve 1 1 yX2_solve cX2_solve 1 5 [] I J := by
  obtain ⟨n, e, rr, T, L, u, hL⟩ := id h
  have ok := hL.1.1
  have hn := ok.2.1
  have he := ok.2.2.2.1
  obtain ⟨Ir, Jr, r1, r2, r3, r4, r5, r6⟩ := hL.rel
  obtain ⟨g1, g2⟩ := k_goes_in hn.2 he r1 r2 r3 r4 hL.1.2.2.2.2.2.2.1 hL.sums
  refine ⟨_, I, J, _, _, m_X1_solve D dA ad 37 I J (by decide) ok, fun v I' J' q => q, m_X2_solve D dA ad 37 I J (by decide) hL.2.1 hn.2 hL.2.2.1 he r1, fun v I' J' q => ?_⟩
  obtain ⟨q1, rfl, rfl⟩ := q
  refine ⟨?_, n, e, rr, T, L, u, hL.keep (r6.tr k_goes_keep)⟩
  rw [q1, r5]
  rcases g2 with ⟨d1, d2, -⟩ | ⟨d1, d2⟩
  · rw [if_neg (by rw [d1]; decide), if_pos (hL.inM.mpr d2)]
  · rw [if_pos d1, if_neg (fun z => d2 (hL.inM.mp z))]
theorem s_fails (h : LI I J) : PairI D dA ad yX1_fails cX1_fails 1 0 yX2_fails cX2_fails 2 5 [] I J := by
  obtain ⟨n, e, rr, T, L, u, hL⟩ := id h
  have ok := hL.1.1
  have hn := ok.2.1
  have he := ok.2.2.2.1
  refine ⟨I 0 8, I, J, _, _, m_X1_fails D dA ad 37 I J (by decide), fun v I' J' q => q, m_X2_fails D dA ad 37 I J (by decide) hn.2 he hL.2.1 hL.2.2.1 (k_fails_G hn.1 hn.2 he hL.sml hL.sums (Nat.le_refl 9223372036854775808)), fun v I' J' q => ?_⟩
  obtain ⟨q1, q2⟩ := q
  refine ⟨?_, n, e, rr, T, L, u, hL.keep q2⟩
  rw [q1]
  congr 2
  refine fl_unique (k_fails_fl (a := aM I) (s := sM I) (e := e) (n := n)) ?_
  have hf := hL.1.2.2.2.2.2.2.2.1
  have cg : ∀ q, q ≤ e → (In (aC I) (sC I) q n ↔ In (aM I) (sM I) q n) := fun q hq => ⟨In.congr (fun c j hc hj => hL.a c j (by omega) hj) (fun c hc => hL.s c (by omega)), In.congr (fun c j hc hj => (hL.a c j (by omega) hj).symm) (fun c hc => (hL.s c (by omega)).symm)⟩
  rcases hf with ⟨p1, p2⟩ | ⟨q, p1, p2, p3, p4⟩
  · exact .inl ⟨p1, (cg e (Nat.le_refl _)).mp p2⟩
  · exact .inr ⟨q, p1, p2, (cg q (by omega)).mp p3, fun z => p4 ((cg (q + 1) (by omega)).mpr z)⟩
theorem s_solution (h : LI I J) (x : Int32) : PairJ D dA ad yX1_solution cX1_solution 2 0 yX2_solution cX2_solution 7 5 [.int x] I J := by
  obtain ⟨n, e, rr, T, L, u, hL⟩ := id h
  have ok := hL.1.1
  have hn := ok.2.1
  have he := ok.2.2.2.1
  by_cases hr : ¬ x < 0 ∧ x < nI n
  · obtain ⟨j, hj, rfl⟩ := i_in (by omega) hr.1 hr.2
    obtain ⟨Ir, Jr, r1, r2, r3, r4, r5, r6⟩ := hL.rel
    have hlb := hL.1.2.2.2.2.2.2.1
    obtain ⟨g1, g2⟩ := k_goes_in hn.2 he r1 r2 r3 r4 hlb hL.sums
    rcases g2 with ⟨d1, d2, u', d3, d4⟩ | ⟨d1, d2⟩
    · have h8 := hL.inM.mpr d2
      have kk : k_keep I J Ir (k_sol n e n Ir (k_goes n e n Ir Jr).2) := (r6.tr k_goes_keep).tr (k_keepJ (fun a b hab => by
        unfold k_sol
        refine fl_it_keep (fun (J' : fl_TJ) => J' a b = (k_goes n e n Ir Jr).2 a b) _ _ _ _ rfl (fun r J' _ _ hq => ?_)
        unfold k_slr
        rw [k_sl1_at, if_neg (by omega)]; exact hq))
      refine ⟨_, I, J, _, _, m_X1_solution D dA ad 37 I J (by decide) ok h8 hj, fun v I' J' q => q, m_X2_solution D dA ad 37 I J (by decide) hL.2.1 hn.2 hL.2.2.1 he r1 (fun r hr1 hr2 => by rw [r4 r hr2]; have := hlb.2 r hr2; omega) hj (by rw [d1]; decide), fun v I' J' q => ?_⟩
      obtain ⟨q1, rfl, rfl⟩ := q
      refine ⟨?_, n, e, rr, T, L, u, hL.keep kk⟩
      rw [q1, d4 j hj, (hL.1.2.2.2.2.2.2.2.2.2 j hj).1]
      have hS := hL.1.2.2.2.2.2.2.2.2.1 (In.congr (fun c j hc hj => (hL.a c j hc hj).symm) (fun c hc => (hL.s c hc).symm) d2)
      have hS2 : Sol (aM I) (sM I) e n T L u := ⟨fun c hc => by rw [← hL.s c hc, hS.1 c hc]; exact sm_congr (fun j hj => by show aC I c j * u j = aM I c j * u j; rw [hL.a c j hc hj]), hS.2⟩
      rw [Sol.unique r2 hn.2 d3 hS2 j hj]
    · refine ⟨-1000000000000000, I, J, _, _, m_X1_solution_bad D dA ad 37 I J (by decide) ok (fun q => d2 (hL.inM.mp q.1)), fun v I' J' q => q, m_X2_solution_none D dA ad 37 I J (by decide) hL.2.1 hn.2 hL.2.2.1 he r1 hj d1, fun v I' J' q => ?_⟩
      obtain ⟨q1, rfl, rfl⟩ := q
      exact ⟨q1, n, e, rr, T, L, u, hL.keep (r6.tr k_goes_keep)⟩
  · have ho : x < 0 ∨ nI n ≤ x := by
      rw [lt_i, lt_i] at hr
      rw [lt_i, le_i]
      omega
    exact ⟨-1000000000000000, I, J, _, _, m_X1_solution_bad D dA ad 37 I J (by decide) ok (fun q => hr q.2), fun v I' J' q => q, m_X2_solution_out D dA ad 37 I J (by decide) hL.2.1 ho, fun v I' J' q => by obtain ⟨q1, rfl, rfl⟩ := q; exact ⟨q1, h⟩⟩
theorem s_basis (h : LI I J) (x y : Int32) : PairJ D dA ad yX1_basis cX1_basis 3 2 yX2_basis cX2_basis 3 4 [.int x, .int y] I J := by
  obtain ⟨n, e, rr, T, L, u, hL⟩ := id h
  have ok := hL.1.1
  have hn := ok.2.1
  have he := ok.2.2.2.1
  obtain ⟨Ir, Jr, r1, r2, r3, r4, r5, r6⟩ := hL.rel
  by_cases hb : ¬ x < 0 ∧ ¬ nI (n - rr) ≤ x ∧ ¬ y < 0 ∧ y < nI n
  · obtain ⟨i, hi, rfl⟩ := i_in2 (by omega) hb.1 hb.2.1
    obtain ⟨j, hj, rfl⟩ := i_in (by omega) hb.2.2.1 hb.2.2.2
    refine ⟨_, I, J, _, _, m_X1_basis D dA ad 37 I J (by decide) ok hi hj, fun v I' J' q => q, m_X2_basis D dA ad 37 I J (by decide) hL.2.1 hn.2 hL.2.2.1 he r1 (i := i) (by rw [r5]; exact hi) hj, fun v I' J' q => ?_⟩
    obtain ⟨q1, rfl, rfl⟩ := q
    refine ⟨?_, n, e, rr, T, L, u, hL.keep r6⟩
    rw [q1, r5, Nat.add_assoc, r3 (rr + i) (e + j) (by omega) (by omega), hL.1.2.2.2.2.1 (rr + i) (e + j) (by omega) (by omega)]
  · refine ⟨-1000000000000000, I, J, _, _, m_X1_basis_bad D dA ad 37 I J (by decide) ok hb, fun v I' J' q => q, m_X2_basis_bad D dA ad 37 I J (by decide) hL.2.1 hn.2 hL.2.2.1 he r1 (by rw [r5]; exact hb), fun v I' J' q => ?_⟩
    obtain ⟨q1, rfl, rfl⟩ := q
    exact ⟨q1, n, e, rr, T, L, u, hL.keep r6⟩
theorem s_reach (h : LI I J) (x y : Int32) : PairJ D dA ad yX1_reach cX1_reach 3 1 yX2_reach cX2_reach 3 4 [.int x, .int y] I J := by
  obtain ⟨n, e, rr, T, L, u, hL⟩ := id h
  have ok := hL.1.1
  have hn := ok.2.1
  have he := ok.2.2.2.1
  obtain ⟨Ir, Jr, r1, r2, r3, r4, r5, r6⟩ := hL.rel
  have hrn := hL.1.2.2.2.2.2.2.1.1
  by_cases hb : ¬ x < 0 ∧ ¬ nI rr ≤ x ∧ ¬ y < 0 ∧ y < nI e
  · obtain ⟨i, hi, rfl⟩ := i_in2 (by omega) hb.1 hb.2.1
    obtain ⟨j, hj, rfl⟩ := i_in (by omega) hb.2.2.1 hb.2.2.2
    refine ⟨_, I, J, _, _, m_X1_reach D dA ad 37 I J (by decide) ok hi hj, fun v I' J' q => q, m_X2_reach D dA ad 37 I J (by decide) hL.2.1 hn.2 hL.2.2.1 he r1 (i := i) (by rw [r5]; exact hi) hj, fun v I' J' q => ?_⟩
    obtain ⟨q1, rfl, rfl⟩ := q
    refine ⟨?_, n, e, rr, T, L, u, hL.keep r6⟩
    rw [q1, r3 i j (by omega) (by omega), hL.1.2.2.2.2.1 i j (by omega) (by omega)]
  · refine ⟨-1000000000000000, I, J, _, _, m_X1_reach_bad D dA ad 37 I J (by decide) ok hb, fun v I' J' q => q, m_X2_reach_bad D dA ad 37 I J (by decide) hL.2.1 hn.2 hL.2.2.1 he r1 (by rw [r5]; exact hb), fun v I' J' q => ?_⟩
    obtain ⟨q1, rfl, rfl⟩ := q
    exact ⟨q1, n, e, rr, T, L, u, hL.keep r6⟩
theorem s_count (h : LI I J) (x : Int32) : PairI D dA ad yX1_count cX1_count 2 1 yX2_count cX2_count 2 4 [.int x] I J := by
  obtain ⟨n, e, rr, T, L, u, hL⟩ := id h
  have ok := hL.1.1
  have hn := ok.2.1
  have he := ok.2.2.2.1
  obtain ⟨Ir, Jr, r1, r2, r3, r4, r5, r6⟩ := hL.rel
  have fin : LI Ir Jr := ⟨n, e, rr, T, L, u, hL.keep r6⟩
  by_cases h0 : x = nI 0
  · subst h0
    exact ⟨_, I, J, _, _, m_X1_count0 D dA ad 37 I J (by decide) ok, fun v I' J' q => q, m_X2_count0 D dA ad 37 I J (by decide) hL.2.1 hn.2 hL.2.2.1 he r1, fun v I' J' q => by obtain ⟨q1, rfl, rfl⟩ := q; exact ⟨by rw [q1, r5], fin⟩⟩
  by_cases h1 : x = nI 1
  · subst h1
    exact ⟨_, I, J, _, _, m_X1_count1 D dA ad 37 I J (by decide) ok, fun v I' J' q => q, m_X2_count1 D dA ad 37 I J (by decide) hL.2.1 hn.2 hL.2.2.1 he r1, fun v I' J' q => by obtain ⟨q1, rfl, rfl⟩ := q; exact ⟨by rw [q1, r5], fin⟩⟩
  by_cases h2 : x = nI 2
  · subst h2
    exact ⟨_, I, J, _, _, m_X1_count2 D dA ad 37 I J (by decide) ok, fun v I' J' q => q, m_X2_count2 D dA ad 37 I J (by decide) hL.2.1 hn.2 hL.2.2.1 he r1, fun v I' J' q => by obtain ⟨q1, rfl, rfl⟩ := q; exact ⟨q1, fin⟩⟩
  by_cases h3 : x = nI 3
  · subst h3
    exact ⟨_, I, J, _, _, m_X1_count3 D dA ad 37 I J (by decide) ok, fun v I' J' q => q, m_X2_count3 D dA ad 37 I J (by decide) hL.2.1 hn.2 hL.2.2.1 he r1, fun v I' J' q => by obtain ⟨q1, rfl, rfl⟩ := q; exact ⟨q1, fin⟩⟩
  have hbad : x.toInt < 0 ∨ 3 < x.toInt := by
    apply Classical.byContradiction
    intro q
    have hx := i_nat (x := x) (by omega)
    rcases (show x.toInt.toNat = 0 ∨ x.toInt.toNat = 1 ∨ x.toInt.toNat = 2 ∨ x.toInt.toNat = 3 by omega) with z | z | z | z
    · rw [z] at hx; exact h0 hx
    · rw [z] at hx; exact h1 hx
    · rw [z] at hx; exact h2 hx
    · rw [z] at hx; exact h3 hx
  exact ⟨_, I, J, _, _, m_X1_count_bad D dA ad 37 I J (by decide) hbad, fun v I' J' q => q, m_X2_count_bad D dA ad 37 I J (by decide) hL.2.1 hn.2 hL.2.2.1 he r1 (fun z => h0 z) h1 h2 h3, fun v I' J' q => by obtain ⟨q1, rfl, rfl⟩ := q; exact ⟨q1, fin⟩⟩
theorem s_reached (h : LI I J) (x0 x1 x2 : Int32) : PairI D dA ad yX1_reached cX1_reached 4 3 yX2_reached cX2_reached 4 4 [.int x0, .int x1, .int x2] I J := by
  obtain ⟨n, e, rr, T, L, u, hL⟩ := id h
  have ok := hL.1.1
  have hn := ok.2.1
  have he := ok.2.2.2.1
  obtain ⟨c1, c2⟩ := reached_cs (x0 := x0) (x1 := x1) (x2 := x2) hL.1
  have hL1 : LD I (j_reached e n n x0 x1 x2 I J) n e rr T L u := hL.helpers (fun _ _ _ _ => rfl) (fun p x hp => c1 p x (by omega))
  obtain ⟨Ir, Jr, r1, r2, r3, r4, r5, r6⟩ := hL1.rel
  obtain ⟨g1, g2⟩ := k_rch_in (a := aM I) (x0 := x0) (x1 := x1) (x2 := x2) hn.2 he r2 r3 r4 hL.1.2.2.2.2.2.2.1
  refine ⟨_, I, _, _, _, m_X1_reached D dA ad 37 I J (by decide) ok, fun v I' J' q => q, m_X2_reached D dA ad 37 I _ (by decide) hL1.2.1 hn.2 hL1.2.2.1 he r1, fun v I' J' q => ?_⟩
  obtain ⟨q1, rfl, rfl⟩ := q
  refine ⟨?_, n, e, rr, T, L, u, hL1.keep (r6.tr (k_keepJ (fun a b hab => g1 a b (by omega) (by omega))))⟩
  rw [q1]
  have cg : In (aC I) (vX x0 x1 x2) e n ↔ In (aM I) (vX x0 x1 x2) e n := ⟨In.congr hL.a (fun _ _ => rfl), In.congr (fun c j hc hj => (hL.a c j hc hj).symm) (fun _ _ => rfl)⟩
  rcases g2 with ⟨d1, d2⟩ | ⟨d1, d2⟩
  · rw [if_neg (by rw [d1]; decide), if_pos (c2.mpr (cg.mpr d2))]
  · rw [if_pos d1, if_neg (fun z => d2 (cg.mp (c2.mp z)))]
theorem s_invariant (h : LI I J) (x : Int32) : PairJ D dA ad yX1_invariant cX1_invariant 6 6 yX2_invariant cX2_invariant 4 3 [.int x] I J := by
  obtain ⟨n, e, rr, T, L, u, hL⟩ := id h
  have ok := hL.1.1
  have hn := ok.2.1
  have he := ok.2.2.2.1
  by_cases hb : x < nI 1 ∨ nI e < x ∨ ¬ x ≤ nI n
  · exact ⟨_, I, J, _, _, m_X1_invariant_bad D dA ad 37 I J (by decide) ok hb, fun v I' J' q => q, m_X2_invariant_bad D dA ad 37 I J (by decide) hL.2.1 hn.2 hL.2.2.1 he hb, fun v I' J' q => by obtain ⟨q1, rfl, rfl⟩ := q; exact ⟨q1, h⟩⟩
  · obtain ⟨k, k1, k2, k3, rfl⟩ : ∃ k, 1 ≤ k ∧ k ≤ e ∧ k ≤ n ∧ x = nI k := by
      have h1 : ¬ x < nI 1 := fun q => hb (.inl q)
      have h2 : ¬ nI e < x := fun q => hb (.inr (.inl q))
      have h3 : x ≤ nI n := Classical.byContradiction (fun q => hb (.inr (.inr q)))
      rw [lt_i, nI_t (by omega)] at h1 h2
      rw [le_i, nI_t (by omega)] at h3
      exact ⟨x.toInt.toNat, by omega, by omega, by omega, i_nat (by omega)⟩
    obtain ⟨v1, v2⟩ := inv_eq (k := k) hn.1 hn.2 he hL.1.2.1 hL.a k1 (by omega)
    exact ⟨_, I, J, _, _, m_X1_invariant D dA ad 37 I J (by decide) ok k1 k2 k3, fun v I' J' q => q, m_X2_invariant D dA ad 37 I J (by decide) hL.2.1 hn.2 hL.2.2.1 he k1 k2 k3 v2, fun v I' J' q => by obtain ⟨q1, rfl, rfl⟩ := q; exact ⟨by rw [q1, v1], h⟩⟩
theorem s_box (h : LI I J) (xl xh : Int32) : PairI D dA ad yX1_box cX1_box 4 9 yX2_box cX2_box 7 2 [.int xl, .int xh] I J := by
  obtain ⟨n, e, rr, T, L, u, hL⟩ := id h
  have ok := hL.1.1
  have hn := ok.2.1
  have he := ok.2.2.2.1
  by_cases hb : xl < -12 ∨ nI 12 < xh ∨ ¬ xl ≤ xh
  · exact ⟨_, I, J, _, _, m_X1_box_bad D dA ad 37 I J (by decide) hb, fun v I' J' q => q, m_X2_box_bad D dA ad 37 I J (by decide) hb, fun v I' J' q => by obtain ⟨q1, rfl, rfl⟩ := q; exact ⟨q1, h⟩⟩
  · have h1 : ¬ xl < -12 := fun q => hb (.inl q)
    have h2 : ¬ nI 12 < xh := fun q => hb (.inr (.inl q))
    have h3 : xl ≤ xh := Classical.byContradiction (fun q => hb (.inr (.inr q)))
    have z1 := h1
    have z2 := h2
    have z3 := h3
    rw [lt_i] at z1 z2
    rw [le_i] at z3
    have e1 : (-12 : Int32).toInt = -12 := rfl
    have e2 : (nI 12).toInt = 12 := rfl
    have hm : xl.toInt + ((xh.toInt + 1 - xl.toInt).toNat : Nat) = xh.toInt + 1 := by omega
    have mo : ∀ (p : Nat → Int), k_box n e I xl xh = o32 ((Fc (aM I) (sM I) e n xl.toInt (xh.toInt + 1 - xl.toInt).toNat n 0 p : Nat) : Int) := fun p => k_box_sh hn.1 hn.2 hL.sml hL.sums (by omega) (by omega) z3 hm
    by_cases h8 : I 0 8 = -1
    · obtain ⟨b1, b2⟩ := x_box_cs (m := (xh.toInt + 1 - xl.toInt).toNat) hL.1 h8 (by omega) (by omega) z3 hm
      have hlb := hL.1.2.2.2.2.2.2.1
      have hld := hL.1.ld
      have hE := hL.1.2.2.2.1.1
      have hxl : x_ld n e rr I := fun i hi => by
        rw [hld _ hi]
        have := (hE.1 _ hi).1
        have := hlb.2 _ hi
        exact ⟨hL.1.2.2.2.2.2.1 _ hi, by omega, by omega⟩
      have hinc : x_inc n rr I := fun i hi => by
        rw [hld _ (by omega), hld _ (by omega)]
        exact hE.2.1 _ _ (by omega) (by omega)
      have hL1 : LD I (x_box n e rr xl xh I J).2 n e rr T L u := hL.helpers (fun _ _ _ _ => rfl) (fun p x hp => b2 p x (by omega))
      refine ⟨_, I, _, _, _, m_X1_box D dA ad 37 I J (by decide) ok h1 h2 h3 h8 hxl hinc, fun v I' J' q => q, m_X2_box D dA ad 37 I _ (by decide) hL1.2.1 hn.2 hn.1 hL1.2.2.1 he h1 h2 h3, fun v I' J' q => ?_⟩
      obtain ⟨q1, rfl, rfl⟩ := q
      refine ⟨?_, n, e, rr, T, L, u, hL1⟩
      rw [q1, b1, mo u, Fc_congr hL.a hL.s]
    · refine ⟨_, I, J, _, _, m_X1_box_none D dA ad 37 I J (by decide) h1 h2 h3 h8, fun v I' J' q => q, m_X2_box D dA ad 37 I J (by decide) hL.2.1 hn.2 hn.1 hL.2.2.1 he h1 h2 h3, fun v I' J' q => ?_⟩
      obtain ⟨q1, rfl, rfl⟩ := q
      refine ⟨?_, h⟩
      rw [q1, mo u, Fc_none (fun z => h8 (hL.inM.mpr z))]
      rfl
theorem s_modulo (h : LI I J) (x : Int32) : PairI D dA ad yX1_modulo cX1_modulo 3 5 yX2_modulo cX2_modulo 5 3 [.int x] I J := by
  obtain ⟨n, e, rr, T, L, u, hL⟩ := id h
  have ok := hL.1.1
  have hn := ok.2.1
  have he := ok.2.2.2.1
  by_cases hb : x < nI 1 ∨ ¬ x ≤ nI 40
  · exact ⟨_, I, J, _, _, m_X1_modulo_bad D dA ad 37 I J (by decide) x hb, fun v I' J' q => q, m_X2_modulo_bad D dA ad 37 I J (by decide) x hb, fun v I' J' q => by obtain ⟨q1, rfl, rfl⟩ := q; exact ⟨q1, h⟩⟩
  · obtain ⟨m, hm1, hm, rfl⟩ : ∃ m, 1 ≤ m ∧ m ≤ 40 ∧ x = nI m := by
      have h1 : ¬ x < nI 1 := fun q => hb (.inl q)
      have h2 : x ≤ nI 40 := Classical.byContradiction (fun q => hb (.inr q))
      rw [lt_i, nI_t (by decide)] at h1
      rw [le_i, nI_t (by decide)] at h2
      exact ⟨x.toInt.toNat, by omega, by omega, i_nat (by omega)⟩
    obtain ⟨H, m1, m2, m3, m4⟩ := mod_class (m := m) hL.1 hm1 hm
    have hL1 : LD (x_r e rr m I J).2.1 (j_mod e (x_r e rr m I J).1 (x_r e rr m I J).2.1 (x_r e rr m I J).2.2) n e rr T L u := hL.helpers m3 (fun p x hp => m4 p x (by omega) (by omega))
    obtain ⟨Ir, Jr, H', k1, k2, k3⟩ := mod_model (m := m) (J := j_mod e (x_r e rr m I J).1 (x_r e rr m I J).2.1 (x_r e rr m I J).2.2) hn.1 hn.2 he hL1.sml hL1.sums hm1 hm (Nat.le_refl 9223372036854775808)
    refine ⟨_, _, _, _, _, m_X1_modulo D dA ad 37 I J (by decide) ok (hL.1.2.2.2.2.2.2.1.le hL.1.2.2.2.1) hm1 hm, fun v I' J' q => q, m_X2_modulo D dA ad 37 _ _ (by decide) hL1.2.1 hn.2 hL1.2.2.1 he k1 hm1 hm, fun v I' J' q => ?_⟩
    obtain ⟨q1, rfl, rfl⟩ := q
    refine ⟨?_, n, e, rr, T, L, u, hL1.keep ((k_RM_keep he k1).tr k_goes_keep)⟩
    rw [q1, k3, m2]
    have ea : ∀ c j, c < e → j < n → aC I c j = aM (x_r e rr m I J).2.1 c j := fun c j hc hj => by rw [hL.a c j hc hj]; unfold aM; rw [m3 31 _ (by decide) (by decide)]
    have es : ∀ c, c < e → sM (x_r e rr m I J).2.1 c = sC I c := fun c hc => by rw [hL.s c hc]; unfold sM; rw [m3 32 _ (by decide) (by decide)]
    rw [mAns_same (fun i x hi hx => k2.unique (m1.congr ea) i x hi hx) es]
theorem s_spread (h : LI I J) : PairJ D dA ad yX1_spread cX1_spread 5 2 yX2_spread cX2_spread 5 5 [] I J := by
  obtain ⟨n, e, rr, T, L, u, hL⟩ := id h
  have ok := hL.1.1
  have hn := ok.2.1
  have he := ok.2.2.2.1
  obtain ⟨Ir, Jr, r1, r2, r3, r4, r5, r6⟩ := hL.rel
  have hlb := hL.1.2.2.2.2.2.2.1
  obtain ⟨g1, g2⟩ := k_goes_in hn.2 he r1 r2 r3 r4 hlb hL.sums
  have fin : LI Ir (k_goes n e n Ir Jr).2 := ⟨n, e, rr, T, L, u, hL.keep (r6.tr k_goes_keep)⟩
  rcases g2 with ⟨d1, d2, -⟩ | ⟨d1, d2⟩
  · refine ⟨_, I, J, _, _, m_X1_spread D dA ad 37 I J (by decide) ok (hL.inM.mpr d2), fun v I' J' q => q, m_X2_spread D dA ad 37 I J (by decide) hL.2.1 hn.2 hL.2.2.1 he r1 (by rw [d1]; decide), fun v I' J' q => ?_⟩
    obtain ⟨q1, rfl, rfl⟩ := q
    exact ⟨by rw [q1, spr_eq hlb.1 r5 hL.1.2.2.2.1.2.2.2.2 hL.1.2.2.2.2.1 g1], fin⟩
  · refine ⟨_, I, J, _, _, m_X1_spread_none D dA ad 37 I J (by decide) (fun z => d2 (hL.inM.mp z)), fun v I' J' q => q, m_X2_spread_none D dA ad 37 I J (by decide) hL.2.1 hn.2 hL.2.2.1 he r1 d1, fun v I' J' q => ?_⟩
    obtain ⟨q1, rfl, rfl⟩ := q
    exact ⟨q1, fin⟩
theorem s_check (h : LI I J) : PairI D dA ad yX1_check cX1_check 3 2 yX2_check cX2_check 1 0 [] I J := by
  obtain ⟨n, e, rr, T, L, u, hL⟩ := id h
  exact ⟨_, I, J, _, _, m_X1_check D dA ad 37 I J (by decide) hL.1.1 (fun i hi => rowh_cs hL.1 hi) (fun h0 => solh_cs hL.1 h0), fun v I' J' q => q, m_X2_check D dA ad 37 I J (by decide), fun v I' J' q => by obtain ⟨q1, rfl, rfl⟩ := q; exact ⟨q1, h⟩⟩
end STEPS
