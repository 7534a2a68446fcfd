/-! the class: sum, reached, check; greatest common divisors -/
theorem fl_it_last {σ : Type} (f : Nat → σ → σ) : ∀ (k i : Nat) (x : σ), fl_it f (k + 1) i x = f (i + k) (fl_it f k i x) := by
  intro k
  induction k with
  | zero => intro i x; rfl
  | succ k ih =>
    intro i x
    show fl_it f (k + 1) (i + 1) (f i x) = f (i + (k + 1)) (fl_it f k (i + 1) (f i x))
    rw [ih, show i + 1 + k = i + (k + 1) from by omega]
theorem sum_cs {n e rr b : Nat} {I : fl_TI} {J : fl_TJ} {T : Nat → Nat → Int} {L : Nat → Nat} {u : Nat → Int} {xs : Int32} (h : CS I J n e rr T L u) (hb : b < e) (hx : xs.toInt.natAbs ≤ 1000) :
    (∃ u', CS (i_settle e n n (fl_up I 5 b xs) J) (j_settle e n n (fl_up I 5 b xs) J) n e rr T L u') ∧ (∀ p x, 7 ≤ p → p ≠ 22 → i_settle e n n (fl_up I 5 b xs) J p x = I p x ∧ j_settle e n n (fl_up I 5 b xs) J p x = J p x) := by
  obtain ⟨h1, h2, h3, h4, h5, h6, h7, h8, h9, h10⟩ := h
  have he3 : e ≤ 3 := h1.2.2.2.1
  have hn4 := h1.2.1.2
  have ec : ∀ c j, c < e → j < n → aC I c j = aC (fl_up I 5 b xs) c j := fun c j hc _ => by unfold aC; rw [fl_up_k (by omega)]
  have hs : ∀ c, c < e → (sC (fl_up I 5 b xs) c).natAbs ≤ 1000 := fun c hc => by
    unfold sC
    by_cases q : c = b
    · rw [q, fl_up_s]; exact hx
    · rw [fl_up_j q]; exact h3 c hc
  obtain ⟨s1, s2, u', s3, s4⟩ := settle_cs (I := fl_up I 5 b xs) (J := J) hn4 he3 (Fm.congr ec h4) h5 (fun i hi => by rw [fl_up_k (by decide)]; exact h6 i hi) hs
  have aI : ∀ p x, p ≠ 0 → i_settle e n n (fl_up I 5 b xs) J p x = fl_up I 5 b xs p x := fun p x h => by unfold i_settle; exact fl_up_k h
  have ea2 : aC (i_settle e n n (fl_up I 5 b xs) J) = aC (fl_up I 5 b xs) := by funext c j; unfold aC; rw [aI _ _ (by omega)]
  have es2 : sC (i_settle e n n (fl_up I 5 b xs) J) = sC (fl_up I 5 b xs) := by funext c; unfold sC; rw [aI _ _ (by omega)]
  have a0 : ∀ x, x ≠ 8 → i_settle e n n (fl_up I 5 b xs) J 0 x = I 0 x := fun x h => by unfold i_settle; rw [fl_up_j h, fl_up_k (by decide)]
  have a1 : ∀ p x, p ≠ 0 → p ≠ 5 → i_settle e n n (fl_up I 5 b xs) J p x = I p x := fun p x g1 g2 => by rw [aI p x g1, fl_up_k g2]
  refine ⟨⟨u', ?_, ?_, ?_, ?_, ?_, ?_, h7, ?_, ?_, ?_⟩, fun p x g1 g2 => ⟨a1 p x (by omega) (by omega), s1 p x g2⟩⟩
  · obtain ⟨k1, k2, k3, k4, k5, k6, k7, k8, k9, k10, k11⟩ := h1
    refine ⟨by rw [a0 _ (by decide)]; exact k1, k2, by rw [a0 _ (by decide)]; exact k3, k4, by rw [a0 _ (by decide)]; exact k5, k6, by rw [a1 _ _ (by decide) (by decide)]; exact k7, by rw [a1 _ _ (by decide) (by decide)]; exact k8, by rw [a1 _ _ (by decide) (by decide)]; exact k9, k10, fun i hi => ?_⟩
    unfold ldI
    rw [a1 _ _ (by decide) (by decide)]
    exact k11 i hi
  · rw [ea2]; exact fun x i hx hi => by rw [← ec x i hx hi]; exact h2 x i hx hi
  · rw [es2]; exact hs
  · rw [ea2]; exact Fm.congr ec h4
  · exact fun i x hi hx => by rw [s1 _ _ (by omega)]; exact h5 i x hi hx
  · exact fun i hi => by rw [a1 _ _ (by decide) (by decide)]; exact h6 i hi
  · rw [ea2, es2]; unfold i_settle; rw [fl_up_s]; exact s2
  · rw [ea2, es2]; exact s3
  · exact s4
theorem CS.ld {n e rr : Nat} {I : fl_TI} {J : fl_TJ} {T : Nat → Nat → Int} {L : Nat → Nat} {u : Nat → Int} (h : CS I J n e rr T L u) : ∀ i, i < n → ldI I 12 i = L i := fun i hi => ldI_of (h.2.2.2.2.2.1 i hi) (by have := (h.2.2.2.1.1.1 i hi).1; have := h.1.2.1; have := h.1.2.2.2.1; omega)
theorem reached_cs {n e rr : Nat} {I : fl_TI} {J : fl_TJ} {T : Nat → Nat → Int} {L : Nat → Nat} {u : Nat → Int} {x0 x1 x2 : Int32} (h : CS I J n e rr T L u) :
    (∀ p x, p ≠ 23 → j_reached e n n x0 x1 x2 I J p x = J p x) ∧ (x_first 23 (j_reached e n n x0 x1 x2 I J) e 0 = -1 ↔ In (aC I) (vX x0 x1 x2) e n) := by
  have hL := h.ld
  obtain ⟨h1, h2, h3, h4, h5, h6, h7, h8, h9, h10⟩ := h
  have he3 : e ≤ 3 := h1.2.2.2.1
  have hn4 := h1.2.1.2
  have hw : ∀ p x, p ≠ 23 → (fl_up (fl_up (fl_up (j_fill 23 J) 23 0 (x0.toInt64)) 23 1 (x1.toInt64)) 23 2 (x2.toInt64)) p x = J p x := fun p x h => by rw [fl_up_k h, fl_up_k h, fl_up_k h, j_fill_at, if_neg (fun q => h q.1)]
  have h0 : ∀ c, c < e + n → (fl_up (fl_up (fl_up (j_fill 23 J) 23 0 (x0.toInt64)) 23 1 (x1.toInt64)) 23 2 (x2.toInt64)) 23 c = oI (rv T L (vX x0 x1 x2) 0 c) := fun c hc => by
    show _ = oI (vX x0 x1 x2 c)
    unfold vX
    by_cases g2 : c = 2
    · subst g2; rw [fl_up_s, i64_of]; rfl
    · rw [fl_up_j g2]
      by_cases g1 : c = 1
      · subst g1; rw [fl_up_s, i64_of]; rfl
      · rw [fl_up_j g1]
        by_cases g0 : c = 0
        · subst g0; rw [fl_up_s, i64_of]; rfl
        · rw [fl_up_j g0, if_neg g0, if_neg g1, if_neg g2, j_fill_at, if_pos ⟨rfl, by show c < 7; omega⟩]; rfl
  have hS : ∀ i, i < n → (vX x0 x1 x2 (L i)).natAbs ≤ 2147483648 := fun i _ => vX_abs _ _ _ _
  have ft := h4.fits hn4 hS (by decide)
  obtain ⟨r1, r2⟩ := j_reduce_sh (o := 6) (q := 23) (w := e + n) (h := n) (ld := ldI I 12) (L := L) (T := T) (v := vX x0 x1 x2) (Nat.le_refl n) (by omega) (fun i hi => ⟨hL i hi, ft i hi⟩) n 0 _ (by omega) (fun i x hi hx => by rw [hw _ _ (by omega)]; exact h5 i x hi hx) h0
  refine ⟨fun p x h => ?_, ?_⟩
  · have := r2 p x (.inl h)
    rw [hw p x h] at this
    exact this
  · have hr : ∀ c, c < e → j_reached e n n x0 x1 x2 I J 23 c = oI (rv T L (vX x0 x1 x2) n c) ∧ fit (rv T L (vX x0 x1 x2) n c) := fun c hc => ⟨r1 c (by omega), by
      have := rv_abs h4.1 hn4 (vX x0 x1 x2) hS (fun l hl => h4.2.2.2.1 l c hl (by omega)) n (Nat.le_refl _)
      have := vX_abs x0 x1 x2 c
      unfold fit
      omega⟩
    rw [← rv_in h4 hn4 (v := vX x0 x1 x2) (fun c _ => rfl)]
    rcases x_first_none hr e 0 (by omega) (fun c hc => by omega) with ⟨g1, g2⟩ | ⟨c, g1, g2, g3, g4⟩
    · exact ⟨fun _ => g2, fun _ => g1⟩
    · exact ⟨fun z => (nI_ne (by omega) (g2 ▸ z)).elim, fun z => (g4 (z c g1)).elim⟩
theorem x_sum_dot {n e b q : Nat} {I : fl_TI} {J : fl_TJ} {w : Nat → Int} (h : ∀ j, j < n → J q (e + j) = oI (w j)) : x_sum n e I J b q = oI (dot (aC I) b n w) := by
  have gen : ∀ k, k ≤ n → fl_it (fun j t => t + (I (2 + b) j).toInt64 * J q (e + j)) k 0 0 = oI (sm k (fun j => aC I b j * w j)) := by
    intro k
    induction k with
    | zero => intro _; rfl
    | succ k ih =>
      intro hk
      rw [fl_it_last, ih (by omega), Nat.zero_add, h k (by omega), i64_of, oI_mul, oI_add]
      rfl
  exact gen n (Nat.le_refl _)
theorem rowh_cs {n e rr i : Nat} {I : fl_TI} {J : fl_TJ} {T : Nat → Nat → Int} {L : Nat → Nat} {u : Nat → Int} (h : CS I J n e rr T L u) (hi : i < n) : x_rowh n e I J i e 0 = nI 1 := by
  obtain ⟨h1, h2, h3, h4, h5, h6, h7, h8, h9, h10⟩ := h
  have hn4 := h1.2.1.2
  have gen : ∀ k c, c + k = e → x_rowh n e I J i k c = nI 1 := by
    intro k
    induction k with
    | zero => intro c _; rfl
    | succ k ih =>
      intro c hc
      have e1 : x_sum n e I J c (6 + 2 + i) = J (6 + 2 + i) c := by
        rw [x_sum_dot (w := fun j => T i (e + j)) (fun j hj => h5 i (e + j) hi (by omega)), ← h4.lin hn4 hi (show c < e by omega), h5 i c hi (by omega)]
      show (if _ then _ else _) = _
      rw [if_pos e1]
      exact ih (c + 1) (by omega)
  exact gen e 0 (by omega)
theorem solh_cs {n e rr : Nat} {I : fl_TI} {J : fl_TJ} {T : Nat → Nat → Int} {L : Nat → Nat} {u : Nat → Int} (h : CS I J n e rr T L u) (h0 : I 0 8 = -1) : x_solh n e I J e 0 = nI 1 := by
  obtain ⟨h1, h2, h3, h4, h5, h6, h7, h8, h9, h10⟩ := h
  have hn4 := h1.2.1.2
  have hS := h9 ((h8.neg h1.2.2.2.1).mp h0)
  have gen : ∀ k c, c + k = e → x_solh n e I J k c = nI 1 := by
    intro k
    induction k with
    | zero => intro c _; rfl
    | succ k ih =>
      intro c hc
      have e1 : x_sum n e I J c 22 = (I 5 c).toInt64 := by
        rw [x_sum_dot (w := u) (fun j hj => (h10 j hj).1), ← hS.1 c (by omega), i64_of]
        rfl
      show (if _ then _ else _) = _
      rw [if_pos e1]
      exact ih (c + 1) (by omega)
  exact gen e 0 (by omega)
/-! greatest common divisors -/
theorem ab64_oI {a : Int} (h : fit a) : ab64 (oI a) = oI (a.natAbs : Int) := by
  unfold ab64
  have f0 : fit 0 := by unfold fit; omega
  show (if oI 0 < oI a then oI a else -(oI a)) = _
  by_cases q : 0 < a
  · rw [if_pos ((oI_lt f0 h).mpr q)]
    congr 1
    omega
  · rw [if_neg (fun z => q ((oI_lt f0 h).mp z)), oI_neg]
    congr 1
    omega
theorem gstep {a b : Nat} (ha : a < 9223372036854775808) (hb : b < 9223372036854775808) : oI (a : Int) - oI (a : Int) / oI (b : Int) * oI (b : Int) = oI ((a % b : Nat) : Int) := by
  rw [oI_div (show fit (a : Int) by unfold fit; omega) (show fit (b : Int) by unfold fit; omega), oI_mul, oI_sub]
  congr 1
  have e1 : (a : Int).tdiv (b : Int) = ((a / b : Nat) : Int) := rfl
  rw [e1]
  have := Nat.div_add_mod a b
  rw [← Int.natCast_mul]
  have e2 : a / b * b = b * (a / b) := Nat.mul_comm _ _
  rw [e2]
  omega
theorem gc64_gcd : ∀ (j k a b : Nat), 2 * j + 1 ≤ k → a < 9223372036854775808 → b < 9223372036854775808 → b < 2 ^ j → gc64 k (oI (a : Int)) (oI (b : Int)) = oI ((Nat.gcd a b : Nat) : Int) := by
  have f : ∀ b : Nat, b < 9223372036854775808 → fit (b : Int) := fun b h => by unfold fit; omega
  have z : ∀ (k a : Nat), gc64 k (oI (a : Int)) (oI ((0 : Nat) : Int)) = oI ((a : Nat) : Int) := fun k a => by
    cases k with
    | zero => rfl
    | succ k => exact if_pos rfl
  intro j
  induction j with
  | zero =>
    intro k a b _ _ _ h
    have : b = 0 := by omega
    subst this
    rw [z, Nat.gcd_zero_right]
  | succ j ih =>
    intro k a b hk ha hb h
    by_cases b0 : b = 0
    · subst b0; rw [z, Nat.gcd_zero_right]
    · obtain ⟨k, rfl⟩ : ∃ k', k = k' + 2 := ⟨k - 2, by omega⟩
      have hr : a % b < b := Nat.mod_lt _ (by omega)
      have s1 : gc64 (k + 2) (oI (a : Int)) (oI (b : Int)) = gc64 (k + 1) (oI (b : Int)) (oI ((a % b : Nat) : Int)) := by
        have : gc64 (k + 2) (oI (a : Int)) (oI (b : Int)) = gc64 (k + 1) (oI (b : Int)) (oI (a : Int) - oI (a : Int) / oI (b : Int) * oI (b : Int)) := if_neg (fun q => b0 (by have := (oI_eq0 (f b hb)).mp q; omega))
        rw [this, gstep ha hb]
      have g1 : Nat.gcd a b = Nat.gcd b (a % b) := by rw [Nat.gcd_comm a b, Nat.gcd_rec b a, Nat.gcd_comm]
      rw [s1, g1]
      by_cases r0 : a % b = 0
      · rw [r0, z, Nat.gcd_zero_right]
      · have s2 : gc64 (k + 1) (oI (b : Int)) (oI ((a % b : Nat) : Int)) = gc64 k (oI ((a % b : Nat) : Int)) (oI ((b % (a % b) : Nat) : Int)) := by
          have : gc64 (k + 1) (oI (b : Int)) (oI ((a % b : Nat) : Int)) = gc64 k (oI ((a % b : Nat) : Int)) (oI (b : Int) - oI (b : Int) / oI ((a % b : Nat) : Int) * oI ((a % b : Nat) : Int)) := if_neg (fun q => r0 (by have := (oI_eq0 (f (a % b) (by omega))).mp q; omega))
          rw [this, gstep hb (by omega)]
        have g2 : Nat.gcd b (a % b) = Nat.gcd (a % b) (b % (a % b)) := by rw [Nat.gcd_comm b (a % b), Nat.gcd_rec (a % b) b, Nat.gcd_comm]
        have hr2 : b % (a % b) < a % b := Nat.mod_lt _ (by omega)
        have half : 2 * (b % (a % b)) < b := by
          generalize a % b = r at *
          have e := Nat.div_add_mod b r
          have : 1 ≤ b / r := Nat.div_pos (by omega) (by omega)
          have : r * 1 ≤ r * (b / r) := Nat.mul_le_mul_left _ this
          omega
        rw [s2, g2]
        have : 2 ^ (j + 1) = 2 * 2 ^ j := by rw [Nat.pow_succ, Nat.mul_comm]
        exact ih k (a % b) (b % (a % b)) (by omega) (by omega) (by omega) (by omega)
theorem cd64_oI {a b : Int} (ha : fit a) (hb : fit b) : cd64 (oI a) (oI b) = oI ((Nat.gcd a.natAbs b.natAbs : Nat) : Int) := by
  unfold cd64
  rw [ab64_oI ha, ab64_oI hb]
  unfold fit at ha hb
  exact gc64_gcd 63 200 a.natAbs b.natAbs (by decide) (by omega) (by omega) (by show b.natAbs < 9223372036854775808; omega)
theorem gm64_gcd : ∀ (k a b : Nat), b < k → a < 9223372036854775808 → b < 9223372036854775808 → gm64 k (oI (a : Int)) (oI (b : Int)) = oI ((Nat.gcd a b : Nat) : Int) := by
  have f : ∀ b : Nat, b < 9223372036854775808 → fit (b : Int) := fun b h => by unfold fit; omega
  have f0 : fit 0 := by unfold fit; omega
  intro k
  induction k with
  | zero => intro a b h; omega
  | succ k ih =>
    intro a b hk ha hb
    by_cases b0 : b = 0
    · subst b0
      have : gm64 (k + 1) (oI (a : Int)) (oI ((0 : Nat) : Int)) = oI (a : Int) := if_neg (by decide)
      rw [this, Nat.gcd_zero_right]
    · have hr : a % b < b := Nat.mod_lt _ (by omega)
      have s1 : gm64 (k + 1) (oI (a : Int)) (oI (b : Int)) = gm64 k (oI (b : Int)) (oI ((a % b : Nat) : Int)) := by
        have : gm64 (k + 1) (oI (a : Int)) (oI (b : Int)) = gm64 k (oI (b : Int)) (oI (a : Int) - oI (a : Int) / oI (b : Int) * oI (b : Int)) := if_pos ((oI_lt f0 (f b hb)).mpr (by omega))
        rw [this, gstep ha hb]
      have g1 : Nat.gcd a b = Nat.gcd b (a % b) := by rw [Nat.gcd_comm a b, Nat.gcd_rec b a, Nat.gcd_comm]
      rw [s1, g1]
      exact ih b (a % b) (by omega) (by omega) (by omega)
theorem cm64_oI {a b : Int} (ha : fit a) (hb : fit b) : cm64 (oI a) (oI b) = oI ((Nat.gcd a.natAbs b.natAbs : Nat) : Int) := by
  unfold cm64
  rw [sz64_oI ha, sz64_oI hb, oI_toInt (fit_abs hb)]
  unfold fit at ha hb
  exact gm64_gcd _ a.natAbs b.natAbs (by omega) (by omega) (by omega)
theorem gcd_small {a b B : Nat} (ha : a ≤ B) (hb : b ≤ B) : Nat.gcd a b ≤ B := by
  by_cases h : a = 0
  · rw [h, Nat.gcd_zero_left]; exact hb
  · exact Nat.le_trans (Nat.gcd_le_left _ (by omega)) ha
/-- spread -/
theorem spr_eq {n e rr : Nat} {I : fl_TI} {J J' : fl_TJ} {T : Nat → Nat → Int} (hrr : rr ≤ n) (hb : k_bef I e n 0 = rr) (hT : ∀ i x, i < n → e ≤ x → (T i x).natAbs ≤ 279936) (hc : shC 6 n (e + n) J T) (hm : shM n (e + n) J' T) : x_spr n e rr J = k_spr n e n I J' := by
  unfold x_spr k_spr
  rw [hb]
  have row : ∀ i, rr + i < n → ∀ k j (g : Nat), j + k = n → g ≤ 279936 → ∃ g' : Nat, g' ≤ 279936 ∧ fl_it (fun j dv => cd64 dv (J (6 + 2 + (rr + i)) (e + j))) k j (oI (g : Int)) = oI (g' : Int) ∧ fl_it (fun j dv => cm64 dv (J' 33 (8 * (rr + i) + e + j))) k j (oI (g : Int)) = oI (g' : Int) := by
    intro i hi k
    induction k with
    | zero => intro j g _ hg; exact ⟨g, hg, rfl, rfl⟩
    | succ k ih =>
      intro j g hj hg
      have b := hT (rr + i) (e + j) hi (by omega)
      have e1 : cd64 (oI (g : Int)) (J (6 + 2 + (rr + i)) (e + j)) = oI ((Nat.gcd g (T (rr + i) (e + j)).natAbs : Nat) : Int) := by
        rw [hc (rr + i) (e + j) hi (by omega), cd64_oI (by unfold fit; omega) (by unfold fit; omega)]
        rfl
      have e2 : cm64 (oI (g : Int)) (J' 33 (8 * (rr + i) + e + j)) = oI ((Nat.gcd g (T (rr + i) (e + j)).natAbs : Nat) : Int) := by
        rw [Nat.add_assoc, hm (rr + i) (e + j) hi (by omega), cm64_oI (by unfold fit; omega) (by unfold fit; omega)]
        rfl
      obtain ⟨g', g1, g2, g3⟩ := ih (j + 1) (Nat.gcd g (T (rr + i) (e + j)).natAbs) (by omega) (gcd_small hg b)
      refine ⟨g', g1, ?_, ?_⟩
      · show fl_it _ k (j + 1) (cd64 (oI (g : Int)) (J (6 + 2 + (rr + i)) (e + j))) = _
        rw [e1]; exact g2
      · show fl_it _ k (j + 1) (cm64 (oI (g : Int)) (J' 33 (8 * (rr + i) + e + j))) = _
        rw [e2]; exact g3
  have all : ∀ k i (g : Nat), rr + i + k = n → g ≤ 279936 → fl_it (x_spr1 n e rr J) k i (oI (g : Int)) = fl_it (k_sp1 n e J') k (rr + i) (oI (g : Int)) := by
    intro k
    induction k with
    | zero => intro i g _ _; rfl
    | succ k ih =>
      intro i g hi hg
      obtain ⟨g', g1, g2, g3⟩ := row i (by omega) n 0 g (by omega) hg
      show fl_it (x_spr1 n e rr J) k (i + 1) (x_spr1 n e rr J i (oI (g : Int))) = fl_it (k_sp1 n e J') k (rr + i + 1) (k_sp1 n e J' (rr + i) (oI (g : Int)))
      have x1 : x_spr1 n e rr J i (oI (g : Int)) = oI (g' : Int) := g2
      have x2 : k_sp1 n e J' (rr + i) (oI (g : Int)) = oI (g' : Int) := g3
      rw [x1, x2]
      exact ih (i + 1) g' (by omega) g1
  exact all (n - rr) 0 0 (by omega) (by decide)
