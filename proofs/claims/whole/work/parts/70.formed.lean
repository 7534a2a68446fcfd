/-! the class's form is THE form -/
theorem w_rank {a : Nat → Nat → Int} {e n k c : Nat} {T : Nat → Nat → Int} {L : Nat → Nat} (hn : n ≤ 4) (hk : k < n) (hc : e + n ≤ c) (hW : WQ a e n k c T L) : False := by
  obtain ⟨N, w1, -, w3, -, -, -, w7, -⟩ := hW
  obtain ⟨j, hj, hne⟩ := w1.full rm_unit (show k < 4 by omega)
  rcases Nat.lt_or_ge j n with q | q
  · exact hne (w3.2.2.2 k (Nat.le_refl _) hk _ (by omega))
  · exact hne (w7 k _ hk (by omega))
theorem w_form {a : Nat → Nat → Int} {o nr e n : Nat} (ha : sml a e n) (hn : n ≤ 4) (he : e ≤ 3) : ∀ (f c k : Nat) (I : fl_TI) (J : fl_TJ) (T : Nat → Nat → Int) (L : Nat → Nat), c + f = e + n → k ≤ n → WQ a e n k c T L → shC o n (e + n) J T → (∀ i, i < k → I (o + 2 + nr) i = nI (L i)) →
    ∃ T' L' c', c' ≤ e + n ∧ (b_form o nr n (e + n) f c (k, I, J)).1 = n ∧ WQ a e n n c' T' L' ∧ shC o n (e + n) (b_form o nr n (e + n) f c (k, I, J)).2.2 T' ∧ ∀ i, i < n → (b_form o nr n (e + n) f c (k, I, J)).2.1 (o + 2 + nr) i = nI (L' i) := by
  intro f
  induction f with
  | zero =>
    intro c k I J T L hcf hk hW hs hI
    have : k = n := by
      rcases Nat.lt_or_ge k n with q | q
      · exact (w_rank hn q (by omega) hW).elim
      · omega
    subst this
    exact ⟨T, L, c, by omega, rfl, hW, hs, hI⟩
  | succ f ih =>
    intro c k I J T L hcf hk hW hs hI
    by_cases h : n ≤ k
    · have : k = n := by omega
      subst this
      have e1 : b_form o nr k (e + k) (f + 1) c (k, I, J) = (k, I, J) := if_pos (Nat.le_refl _)
      rw [e1]
      exact ⟨T, L, c, by omega, rfl, hW, hs, hI⟩
    · have e1 : b_form o nr n (e + n) (f + 1) c (k, I, J) = b_form o nr n (e + n) f (c + 1) (b_step o nr n (e + n) c (k, I, J)) := if_neg h
      rw [e1]
      rcases w_step (o := o) ha hn he (by omega) (by omega) hW hs with ⟨h1, h2, h3⟩ | ⟨h1, T', h2, h3⟩
      · have e2 : b_step o nr n (e + n) c (k, I, J) = (k, I, j_elim o k c (e + n) n J) := if_pos h1
        rw [e2]
        exact ih (c + 1) k I _ T L (by omega) hk h3 h2 hI
      · have e2 : b_step o nr n (e + n) c (k, I, J) = (k + 1, i_add o nr k c I, j_add o k c (e + n) (j_elim o k c (e + n) n J)) := if_neg h1
        rw [e2]
        refine ih (c + 1) (k + 1) _ _ T' _ (by omega) (by omega) h3 h2 (fun i hi => ?_)
        unfold i_add
        rw [fl_up_k (by omega)]
        by_cases q : i = k
        · subst q; rw [fl_up_s, if_pos rfl]
        · rw [fl_up_j q, if_neg q]; exact hI i (by omega)
theorem b_form_keep {o nr n w : Nat} {p : Nat} (hp : p < o + 2 ∨ o + 2 + n ≤ p) : ∀ (f c : Nat) (x : Nat × fl_TI × fl_TJ) (y : Nat), (b_form o nr n w f c x).2.2 p y = x.2.2 p y := by
  intro f
  induction f with
  | zero => intro c x y; rfl
  | succ f ih =>
    intro c x y
    by_cases h : n ≤ x.1
    · have e1 : b_form o nr n w (f + 1) c x = x := if_pos h
      rw [e1]
    · have e1 : b_form o nr n w (f + 1) c x = b_form o nr n w f (c + 1) (b_step o nr n w c x) := if_neg h
      rw [e1, ih]
      have k1 : j_elim o x.1 c w n x.2.2 p y = x.2.2 p y := j_elim_keep (by omega) (by omega) _ _ _ y (by omega) (Nat.le_refl _)
      unfold b_step
      split
      · exact k1
      · show j_add o x.1 c w (j_elim o x.1 c w n x.2.2) p y = _
        rw [j_add_keep (h := n) (by omega) hp]
        exact k1
/-- THE form of the equations -/
def Fm (a : Nat → Nat → Int) (e n : Nat) (T : Nat → Nat → Int) (L : Nat → Nat) : Prop :=
  Ech T L n (e + n) ∧ (∀ i, i < n → Sp (rm a e n) n (e + n) (T i)) ∧ (∀ i, i < n → Sp T n (e + n) (rm a e n i)) ∧ (∀ i x, i < n → x < e + n → (T i x).natAbs ≤ 10077696) ∧ ∀ i x, i < n → e ≤ x → (T i x).natAbs ≤ 279936
theorem sm4 {n : Nat} (hn : n ≤ 4) {f : Nat → Int} (h : ∀ j, n ≤ j → f j = 0) : f 0 + f 1 + f 2 + f 3 = sm n f := by
  have : n = 0 ∨ n = 1 ∨ n = 2 ∨ n = 3 ∨ n = 4 := by omega
  rcases this with rfl | rfl | rfl | rfl | rfl
  · rw [h 0 (by omega), h 1 (by omega), h 2 (by omega), h 3 (by omega)]; rfl
  · rw [h 1 (by omega), h 2 (by omega), h 3 (by omega)]; show _ = 0 + f 0; omega
  · rw [h 2 (by omega), h 3 (by omega)]; show _ = 0 + f 0 + f 1; omega
  · rw [h 3 (by omega)]; show _ = 0 + f 0 + f 1 + f 2; omega
  · show _ = 0 + f 0 + f 1 + f 2 + f 3; omega
/-- what the run leaves is the form -/
theorem fm_of {a : Nat → Nat → Int} {e n c : Nat} {T N : Nat → Nat → Int} {L : Nat → Nat} (ha : sml a e n) (hn : n ≤ 4) (hc : c ≤ e + n) (w1 : NT (rm a e n) T N) (w2 : LinT (rm a e n) T e) (w3 : St T L n c n) (w4 : ∀ j, j < n → bd (N j) (9 * 2 ^ j)) (w5 : ∀ j, n ≤ j → j < 4 → bd (N j) (9 * 2 ^ j)) (w6 : ∀ j, n ≤ j → T j = rm a e n j) : Fm a e n T L := by
  refine ⟨w3.ech hc, fun i hi => ⟨fun j => T i (e + j), fun x hx => ?_⟩, fun i hi => ⟨fun k => N k i, fun x hx => ?_⟩, fun i x hi hx => ?_, fun i x hi hx => ?_⟩
  · have zr : ∀ j, n ≤ j → T i (e + j) * rm a e n j x = 0 := fun j hj => by rw [rm_pad hj hx]; omega
    rw [← sm4 hn zr]
    by_cases h : x < e
    · rw [w2 i x h, Int.mul_comm (rm a e n 0 x), Int.mul_comm (rm a e n 1 x), Int.mul_comm (rm a e n 2 x), Int.mul_comm (rm a e n 3 x)]
    · obtain ⟨j, rfl⟩ : ∃ j, x = e + j := ⟨x - e, by omega⟩
      have hj : j < 4 := by omega
      rw [rm_unit 0 j (by decide) hj, rm_unit 1 j (by decide) hj, rm_unit 2 j (by decide) hj, rm_unit 3 j (by decide) hj]
      rcases lt4 hj with rfl | rfl | rfl | rfl <;> simp
  · have zr : ∀ k, n ≤ k → N k i * T k x = 0 := fun k hk => by rw [w6 k hk, rm_pad hk hx]; omega
    rw [← sm4 hn zr]
    exact w1.1 i x
  · have hb : ∀ j, j < 4 → bd (N j) (9 * 2 ^ j) := fun j hj => by
      rcases Nat.lt_or_ge j n with q | q
      · exact w4 j q
      · exact w5 j q hj
    have b0 := hb 0 (by decide)
    have b1 := hb 1 (by decide)
    have b2 := hb 2 (by decide)
    have b3 := hb 3 (by decide)
    have hS := rm_36 ha x
    rcases lt4 (show i < 4 by omega) with rfl | rfl | rfl | rfl
    · exact Nat.le_trans (w1.bd0 hS b1 b2 b3) (by decide)
    · exact Nat.le_trans (w1.bd1 hS b0 b2 b3) (by decide)
    · exact Nat.le_trans (w1.bd2 hS b0 b1 b3) (by decide)
    · exact Nat.le_trans (w1.bd3 hS b0 b1 b2) (by decide)
  · have hb : ∀ j, j < 4 → bd (N j) (9 * 2 ^ j) := fun j hj => by
      rcases Nat.lt_or_ge j n with q | q
      · exact w4 j q
      · exact w5 j q hj
    have b0 := hb 0 (by decide)
    have b1 := hb 1 (by decide)
    have b2 := hb 2 (by decide)
    have b3 := hb 3 (by decide)
    have hS := rm_1 (a := a) (n := n) hx
    rcases lt4 (show i < 4 by omega) with rfl | rfl | rfl | rfl
    · exact Nat.le_trans (w1.bd0 hS b1 b2 b3) (by decide)
    · exact Nat.le_trans (w1.bd1 hS b0 b2 b3) (by decide)
    · exact Nat.le_trans (w1.bd2 hS b0 b1 b3) (by decide)
    · exact Nat.le_trans (w1.bd3 hS b0 b1 b2) (by decide)
theorem fm_unique {a : Nat → Nat → Int} {e n : Nat} {T T' : Nat → Nat → Int} {L L' : Nat → Nat} (h : Fm a e n T L) (h' : Fm a e n T' L') : ∀ i, i < n → L i = L' i ∧ ∀ x, x < e + n → T i x = T' i x :=
  (ech_unique h.1 h'.1 (fun i hi => Sp.trans h'.2.2.1 (h.2.1 i hi)) (fun i hi => Sp.trans h.2.2.1 (h'.2.1 i hi))).2
theorem i64_of (v : Int32) : v.toInt64 = oI v.toInt := by
  rw [← Int64.ofInt_toInt v.toInt64, Int32.toInt_toInt64]
theorem j_put1_at (j eq : Nat) (I : fl_TI) (J : fl_TJ) (p x : Nat) : j_put1 j eq I J p x = if p = 6 + 2 + j ∧ x < eq then (I (2 + x) j).toInt64 else J p x := by
  unfold j_put1
  rw [fl_it_col _ (fun i J p => if p = 6 + 2 + j then (I (2 + i) j).toInt64 else J p i) (fun i J p => ?_) (fun i J p b h => fl_up_j h) (fun i J J' h p => ?_)]
  · by_cases h1 : p = 6 + 2 + j <;> by_cases h2 : x < eq <;> simp [h1, h2]
  · by_cases h : p = 6 + 2 + j
    · subst h; show fl_up J _ i _ _ i = _; rw [fl_up_s, if_pos rfl]
    · show fl_up J _ i _ p i = _; rw [fl_up_k h, if_neg h]
  · show (if p = 6 + 2 + j then _ else J p i) = (if p = 6 + 2 + j then _ else J' p i)
    rw [h p]
theorem j_puts_at (eq : Nat) (I : fl_TI) : ∀ (k i : Nat) (J : fl_TJ) (r x : Nat), fl_it (fun j J => fl_up (j_put1 j eq I J) (6 + 2 + j) (eq + j) 1) k i J (6 + 2 + r) x = if i ≤ r ∧ r < i + k then (if x < eq then (I (2 + x) r).toInt64 else if x = eq + r then 1 else J (6 + 2 + r) x) else J (6 + 2 + r) x := by
  intro k
  induction k with
  | zero => intro i J r x; rw [if_neg (by omega)]; rfl
  | succ k ih =>
    intro i J r x
    show fl_it _ k (i + 1) (fl_up (j_put1 i eq I J) (6 + 2 + i) (eq + i) 1) (6 + 2 + r) x = _
    rw [ih]
    by_cases h1 : r = i
    · subst h1
      rw [if_neg (by omega), if_pos (by omega)]
      by_cases h2 : x = eq + r
      · subst h2
        rw [fl_up_s, if_neg (by omega), if_pos rfl]
      · rw [fl_up_j h2, j_put1_at]
        by_cases h3 : x < eq
        · rw [if_pos ⟨rfl, h3⟩, if_pos h3]
        · rw [if_neg (fun q => h3 q.2), if_neg h3, if_neg h2]
    · have e1 : fl_up (j_put1 i eq I J) (6 + 2 + i) (eq + i) 1 (6 + 2 + r) x = J (6 + 2 + r) x := by
        rw [fl_up_k (by omega), j_put1_at, if_neg (by omega)]
      rw [e1]
      by_cases h2 : i + 1 ≤ r ∧ r < i + 1 + k
      · rw [if_pos h2, if_pos (show i ≤ r ∧ r < i + (k + 1) by omega)]
      · rw [if_neg h2, if_neg (show ¬ (i ≤ r ∧ r < i + (k + 1)) by omega)]
theorem j_puts_keep (eq : Nat) (I : fl_TI) {p : Nat} : ∀ (k i : Nat) (J : fl_TJ) (x : Nat), (p < 6 + 2 + i ∨ 6 + 2 + (i + k) ≤ p) → fl_it (fun j J => fl_up (j_put1 j eq I J) (6 + 2 + j) (eq + j) 1) k i J p x = J p x := by
  intro k
  induction k with
  | zero => intro i J x _; rfl
  | succ k ih =>
    intro i J x h
    show fl_it _ k (i + 1) (fl_up (j_put1 i eq I J) (6 + 2 + i) (eq + i) 1) p x = _
    rw [ih (i + 1) _ x (by omega), fl_up_k (by omega), j_put1_at, if_neg (by omega)]
theorem j_clear_at (o : Nat) : ∀ (k i : Nat) (J : fl_TJ) (p x : Nat), fl_it (fun i J => j_fill (o + 2 + i) J) k i J p x = if (o + 2 + i ≤ p ∧ p < o + 2 + (i + k)) ∧ x < fl_n p then 0 else J p x := by
  intro k
  induction k with
  | zero => intro i J p x; rw [if_neg (by omega)]; rfl
  | succ k ih =>
    intro i J p x
    show fl_it _ k (i + 1) (j_fill (o + 2 + i) J) p x = _
    rw [ih, j_fill_at]
    by_cases h1 : p = o + 2 + i
    · subst h1
      rw [if_neg (by omega)]
      by_cases h2 : x < fl_n (o + 2 + i)
      · rw [if_pos ⟨rfl, h2⟩, if_pos ⟨by omega, h2⟩]
      · rw [if_neg (fun q => h2 q.2), if_neg (fun q => h2 q.2)]
    · rw [if_neg (show ¬ (p = o + 2 + i ∧ x < fl_n (o + 2 + i)) from fun q => h1 q.1)]
      by_cases h2 : (o + 2 + (i + 1) ≤ p ∧ p < o + 2 + (i + 1 + k)) ∧ x < fl_n p
      · rw [if_pos h2, if_pos ⟨by omega, h2.2⟩]
      · rw [if_neg h2, if_neg (fun q => h2 ⟨by omega, q.2⟩)]
/-- the rows put in -/
theorem w_begin {n e : Nat} {I : fl_TI} {J : fl_TJ} (hn : n ≤ 4) (he : e ≤ 3) : shC 6 n (e + n) (j_puts n e I (j_clear 6 n J)) (rm (fun x i => (I (2 + x) i).toInt) e n) := by
  intro i x hi hx
  unfold j_puts
  rw [j_puts_at, if_pos (by omega)]
  unfold rm
  by_cases h : x < e
  · rw [if_pos h, if_pos h, if_pos hi]
    exact i64_of _
  · rw [if_neg h, if_neg h]
    by_cases h2 : x = e + i
    · rw [if_pos h2, if_pos ⟨by omega, h2⟩]; rfl
    · rw [if_neg h2, if_neg (fun q => h2 q.2)]
      unfold j_clear
      rw [j_clear_at, if_pos]
      · rfl
      · have e7 : ∀ i, i < 4 → fl_n (6 + 2 + i) = 7 := by decide
        rw [e7 i (by omega)]
        omega
theorem w_start {a : Nat → Nat → Int} {e n : Nat} (ha : sml a e n) (hn : n ≤ 4) : WQ a e n 0 0 (rm a e n) (fun _ => 0) := by
  refine ⟨idN, rm_NT hn, rm_lin hn, ⟨fun i hi => by omega, fun i j _ hj => by omega, fun i j _ hj => by omega, fun i _ _ x hx => by omega⟩, fun j hj => ?_, ⟨fun _ j x _ => rm_9 ha j x, fun q => by omega⟩, fun _ _ => rfl, fun i x hi hx => ?_, fun _ _ => rfl⟩
  · have e1 : ∀ j, j < 4 → bN 0 j = 1 := by decide
    rw [e1 j hj]
    exact idN_bd j
  · unfold rm
    rw [if_neg (by omega), if_neg (fun q => by omega)]
/-- formWhole: the rows, the leads, the rank -/
theorem x_b_form {n e : Nat} {I : fl_TI} {J : fl_TJ} (hn1 : 1 ≤ n) (hn : n ≤ 4) (he : e ≤ 3) (ha : sml (fun x i => (I (2 + x) i).toInt) e n) :
    ∃ T L, Fm (fun x i => (I (2 + x) i).toInt) e n T L ∧ (x_b n e I J).1 = n ∧ shC 6 n (e + n) (x_b n e I J).2.2 T ∧ ∀ i, i < n → (x_b n e I J).2.1 12 i = nI (L i) := by
  have e0 : ∀ x i, x < 3 → x_i0 n e I (2 + x) i = I (2 + x) i := fun x i hx => by unfold x_i0; exact i_clear_far (by omega)
  have hb := w_begin (I := x_i0 n e I) (J := J) hn he
  have hr : ∀ i x, rm (fun x i => (x_i0 n e I (2 + x) i).toInt) e n i x = rm (fun x i => (I (2 + x) i).toInt) e n i x := fun i x => by
    unfold rm
    by_cases h : x < e
    · rw [if_pos h, if_pos h]
      show (if i < n then (x_i0 n e I (2 + x) i).toInt else 0) = _
      rw [e0 x i (by omega)]
    · rw [if_neg h, if_neg h]
  have hb2 : shC 6 n (e + n) (j_puts n e (x_i0 n e I) (j_clear 6 n J)) (rm (fun x i => (I (2 + x) i).toInt) e n) := fun i x hi hx => by
    rw [← hr]; exact hb i x hi hx
  obtain ⟨T, L, c, h1, h2, h3, h4, h5⟩ := w_form (o := 6) (nr := 4) ha hn he (e + n) 0 0 (x_i0 n e I) _ _ _ (by omega) (by omega) (w_start ha hn) hb2 (fun i hi => by omega)
  obtain ⟨N, w1, w2, w3, w4, -, w6, -, w8⟩ := h3
  refine ⟨T, L, fm_of ha hn h1 w1 w2 w3 (fun j hj => ?_) (fun j hj hj4 => ?_) w6, h2, h4, h5⟩
  · rw [← bN_low n j (by omega) hj]; exact w4 j (by omega)
  · rw [w8 j hj]
    intro x hx
    have := idN_bd j x hx
    have := Nat.one_le_two_pow (n := j)
    omega
