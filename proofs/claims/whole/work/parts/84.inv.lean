/-! invariants -/
theorem kpl_lt : ∀ e, e < 5 → ∀ u, u < 2 ^ e → ∀ i, i < 4 → i < pop4 u → kpl u i < e := by decide +kernel
theorem kpl_up : ∀ u, u < 16 → ∀ i, i < 4 → ∀ j, j < 4 → i < j → j < pop4 u → kpl u i < kpl u j := by decide +kernel
theorem kpl_two : ∀ s, s < 4 → ∀ r, r < s → pop4 (2 ^ r + 2 ^ s) = 2 ∧ kpl (2 ^ r + 2 ^ s) 0 = r ∧ kpl (2 ^ r + 2 ^ s) 1 = s := by decide +kernel
theorem kpl_one : ∀ r, r < 4 → pop4 (2 ^ r) = 1 ∧ kpl (2 ^ r) 0 = r := by decide +kernel
theorem pop4_le : ∀ u, u < 16 → pop4 u ≤ 4 := by decide +kernel
theorem kD_congr {a a' : Nat → Nat → Int} {e n u w k : Nat} (h : ∀ c j, c < e → j < n → a c j = a' c j) (he : e ≤ 3) (hn : n ≤ 4) (hu : u < 2 ^ e) (hw : w < 2 ^ n) (hk : k ≤ 3) (h1 : pop4 u = k) (h2 : pop4 w = k) : kD a u w k = kD a' u w k := by
  have pu : ∀ i, i < k → kpl u i < e := fun i hi => kpl_lt e (by omega) u hu i (by omega) (by omega)
  have pw : ∀ i, i < k → kpl w i < n := fun i hi => kpl_lt n (by omega) w hw i (by omega) (by omega)
  have q : ∀ i j, i < k → j < k → a (kpl u i) (kpl w j) = a' (kpl u i) (kpl w j) := fun i j hi hj => h _ _ (pu i hi) (pw j hj)
  have : k = 0 ∨ k = 1 ∨ k = 2 ∨ k = 3 := by omega
  unfold kD d2
  rcases this with rfl | rfl | rfl | rfl
  · rfl
  · show a _ _ = a' _ _; exact q 0 0 (by decide) (by decide)
  · show a _ _ * a _ _ - a _ _ * a _ _ = _
    rw [q 0 0 (by decide) (by decide), q 0 1 (by decide) (by decide), q 1 0 (by decide) (by decide), q 1 1 (by decide) (by decide)]
    rfl
  · show a _ _ * (a _ _ * a _ _ - a _ _ * a _ _) - a _ _ * (a _ _ * a _ _ - a _ _ * a _ _) + a _ _ * (a _ _ * a _ _ - a _ _ * a _ _) = _
    rw [q 0 0 (by decide) (by decide), q 0 1 (by decide) (by decide), q 0 2 (by decide) (by decide), q 1 0 (by decide) (by decide), q 1 1 (by decide) (by decide), q 1 2 (by decide) (by decide), q 2 0 (by decide) (by decide), q 2 1 (by decide) (by decide), q 2 2 (by decide) (by decide)]
    rfl
theorem d2_small {a : Nat → Nat → Int} {r s q z : Nat} (h1 : (a r q).natAbs ≤ 9) (h2 : (a s z).natAbs ≤ 9) (h3 : (a r z).natAbs ≤ 9) (h4 : (a s q).natAbs ≤ 9) : (d2 a r s q z).natAbs ≤ 162 := by
  unfold d2
  have := na_mul h1 h2
  have := na_mul h3 h4
  have := na_sub (a r q * a s z) (a r z * a s q)
  omega
theorem kD_small {a : Nat → Nat → Int} {e n u w k : Nat} (h : sml a e n) (he : e ≤ 3) (hn : n ≤ 4) (hu : u < 2 ^ e) (hw : w < 2 ^ n) (hk : k ≤ 3) (h1 : pop4 u = k) (h2 : pop4 w = k) : (kD a u w k).natAbs ≤ 4374 := by
  have q : ∀ i j, i < k → j < k → (a (kpl u i) (kpl w j)).natAbs ≤ 9 := fun i j hi hj => h _ _ (kpl_lt e (by omega) u hu i (by omega) (by omega)) (kpl_lt n (by omega) w hw j (by omega) (by omega))
  have : k = 0 ∨ k = 1 ∨ k = 2 ∨ k = 3 := by omega
  unfold kD
  rcases this with rfl | rfl | rfl | rfl
  · show (1 : Int).natAbs ≤ _; decide
  · have := q 0 0 (by decide) (by decide)
    show (a _ _).natAbs ≤ _
    omega
  · have := d2_small (q 0 0 (by decide) (by decide)) (q 1 1 (by decide) (by decide)) (q 0 1 (by decide) (by decide)) (q 1 0 (by decide) (by decide))
    show (d2 a _ _ _ _).natAbs ≤ _
    omega
  · have t1 := d2_small (q 1 1 (by decide) (by decide)) (q 2 2 (by decide) (by decide)) (q 1 2 (by decide) (by decide)) (q 2 1 (by decide) (by decide))
    have t2 := d2_small (q 1 0 (by decide) (by decide)) (q 2 2 (by decide) (by decide)) (q 1 2 (by decide) (by decide)) (q 2 0 (by decide) (by decide))
    have t3 := d2_small (q 1 0 (by decide) (by decide)) (q 2 1 (by decide) (by decide)) (q 1 1 (by decide) (by decide)) (q 2 0 (by decide) (by decide))
    have m1 := na_mul (q 0 0 (by decide) (by decide)) t1
    have m2 := na_mul (q 0 1 (by decide) (by decide)) t2
    have m3 := na_mul (q 0 2 (by decide) (by decide)) t3
    show (a _ _ * d2 a _ _ _ _ - a _ _ * d2 a _ _ _ _ + a _ _ * d2 a _ _ _ _).natAbs ≤ _
    omega
theorem k_det_oI {I : fl_TI} {u w k : Nat} (hk : 1 ≤ k) : k_det I u w k = oI (kD (aM I) u w k) := by
  unfold k_det kD
  rw [if_neg (show ¬ k = 0 by omega)]
  have t : ∀ r s q z, k_two I r s q z = oI (d2 (aM I) r s q z) := fun r s q z => by
    unfold k_two d2 aM
    rw [i64_of, i64_of, i64_of, i64_of, oI_mul, oI_mul, oI_sub]
  by_cases h1 : k = 1
  · rw [if_pos h1, if_pos h1, i64_of]; rfl
  · rw [if_neg h1, if_neg h1]
    by_cases h2 : k = 2
    · rw [if_pos h2, if_pos h2]; exact t _ _ _ _
    · rw [if_neg h2, if_neg h2, t, t, t, i64_of, i64_of, i64_of, oI_mul, oI_mul, oI_mul, oI_sub, oI_add]
      rfl
/-- a fold of greatest common divisors -/
def gF (P : Nat → Prop) [DecidablePred P] (f : Nat → Nat) (k i g : Nat) : Nat := fl_it (fun w g => if P w then Nat.gcd g (f w) else g) k i g
theorem gF_s (P : Nat → Prop) [DecidablePred P] (f : Nat → Nat) (k i g : Nat) : gF P f (k + 1) i g = gF P f k (i + 1) (if P i then Nat.gcd g (f i) else g) := rfl
theorem gF_gcd (P : Nat → Prop) [DecidablePred P] (f : Nat → Nat) : ∀ k i g, gF P f k i g = Nat.gcd g (gF P f k i 0) := by
  intro k
  induction k with
  | zero => intro i g; show g = Nat.gcd g 0; rw [Nat.gcd_zero_right]
  | succ k ih =>
    intro i g
    rw [gF_s, gF_s]
    by_cases h : P i
    · rw [if_pos h, if_pos h, ih (i + 1) (Nat.gcd g (f i)), ih (i + 1) (Nat.gcd 0 (f i)), Nat.gcd_zero_left, Nat.gcd_assoc]
    · rw [if_neg h, if_neg h]; exact ih (i + 1) g
theorem gF_zero (P : Nat → Prop) [DecidablePred P] (f : Nat → Nat) : ∀ k i g, gF P f k i g = 0 ↔ g = 0 ∧ ∀ w, i ≤ w → w < i + k → P w → f w = 0 := by
  intro k
  induction k with
  | zero => intro i g; exact ⟨fun h => ⟨h, fun w h1 h2 => by omega⟩, fun h => h.1⟩
  | succ k ih =>
    intro i g
    rw [gF_s, ih]
    by_cases h : P i
    · rw [if_pos h, Nat.gcd_eq_zero_iff]
      constructor
      · rintro ⟨⟨h1, h2⟩, h3⟩
        refine ⟨h1, fun w g1 g2 g3 => ?_⟩
        by_cases q : w = i
        · rw [q]; exact h2
        · exact h3 w (by omega) (by omega) g3
      · rintro ⟨h1, h2⟩
        exact ⟨⟨h1, h2 i (by omega) (by omega) h⟩, fun w g1 g2 g3 => h2 w (by omega) (by omega) g3⟩
    · rw [if_neg h]
      constructor
      · rintro ⟨h1, h3⟩
        refine ⟨h1, fun w g1 g2 g3 => ?_⟩
        by_cases q : w = i
        · rw [q] at g3; exact absurd g3 h
        · exact h3 w (by omega) (by omega) g3
      · rintro ⟨h1, h2⟩
        exact ⟨h1, fun w g1 g2 g3 => h2 w (by omega) (by omega) g3⟩
theorem gF_le (P : Nat → Prop) [DecidablePred P] (f : Nat → Nat) {B : Nat} : ∀ k i g, g ≤ B → (∀ w, i ≤ w → w < i + k → P w → f w ≤ B) → gF P f k i g ≤ B := by
  intro k
  induction k with
  | zero => intro i g h _; exact h
  | succ k ih =>
    intro i g h hf
    rw [gF_s]
    refine ih (i + 1) _ ?_ (fun w h1 h2 h3 => hf w (by omega) (by omega) h3)
    by_cases q : P i
    · rw [if_pos q]; exact gcd_small h (hf i (by omega) (by omega) q)
    · rw [if_neg q]; exact h
/-- all determinants of one choice of equations; of all -/
def gR (a : Nat → Nat → Int) (n k u : Nat) : Nat := gF (fun w => pop4 w = k) (fun w => (kD a u w k).natAbs) (2 ^ n) 0 0
def gA (a : Nat → Nat → Int) (n e k : Nat) : Nat := gF (fun u => pop4 u = k) (gR a n k) (2 ^ e) 0 0
theorem gR_le {a : Nat → Nat → Int} {e n u k : Nat} (h : sml a e n) (he : e ≤ 3) (hn : n ≤ 4) (hu : u < 2 ^ e) (hk : k ≤ 3) (h1 : pop4 u = k) : gR a n k u ≤ 4374 := gF_le _ _ _ _ _ (Nat.zero_le _) (fun w _ hw h2 => kD_small h he hn hu (by omega) hk h1 h2)
theorem gA_le {a : Nat → Nat → Int} {e n k : Nat} (h : sml a e n) (he : e ≤ 3) (hn : n ≤ 4) (hk : k ≤ 3) : gA a n e k ≤ 4374 := gF_le _ _ _ _ _ (Nat.zero_le _) (fun u _ hu h2 => gR_le h he hn (by omega) hk h2)
theorem gR_zero {a : Nat → Nat → Int} {n k u : Nat} : gR a n k u = 0 ↔ ∀ w, w < 2 ^ n → pop4 w = k → kD a u w k = 0 := by
  unfold gR
  rw [gF_zero]
  constructor
  · rintro ⟨-, h⟩ w hw hp; have := h w (by omega) (by omega) hp; omega
  · intro h; exact ⟨rfl, fun w _ hw hp => by rw [h w (by omega) hp]; rfl⟩
theorem gA_zero {a : Nat → Nat → Int} {n e k : Nat} : gA a n e k = 0 ↔ ∀ u w, u < 2 ^ e → w < 2 ^ n → pop4 u = k → pop4 w = k → kD a u w k = 0 := by
  unfold gA
  rw [gF_zero]
  constructor
  · rintro ⟨-, h⟩ u w hu hw h1 h2; exact gR_zero.mp (h u (by omega) (by omega) h1) w hw h2
  · intro h; exact ⟨rfl, fun u _ hu h1 => gR_zero.mpr (fun w hw h2 => h u w (by omega) hw h1 h2)⟩
theorem x_dvu_oI {n e u k : Nat} {I : fl_TI} (hn1 : 1 ≤ n) (hn : n ≤ 4) (he : e ≤ 3) (ha : sml (aC I) e n) (hu : u < 2 ^ e) (hk : k ≤ 3) (hp : pop4 u = k) : x_dvu n e I u k = oI ((gR (aC I) n k u : Nat) : Int) := by
  unfold x_dvu gR
  have gen : ∀ q i (g : Nat), i + q = 2 ^ n → g ≤ 4374 → fl_it (fun w dv => if pop4 w = k then cd64 dv (x_det n I u e 0 w) else dv) q i (oI (g : Int)) = oI ((gF (fun w => pop4 w = k) (fun w => (kD (aC I) u w k).natAbs) q i g : Nat) : Int) := by
    intro q
    induction q with
    | zero => intro i g _ _; rfl
    | succ q ih =>
      intro i g hi hg
      rw [gF_s]
      show fl_it _ q (i + 1) (if pop4 i = k then cd64 (oI (g : Int)) (x_det n I u e 0 i) else oI (g : Int)) = _
      by_cases h : pop4 i = k
      · have b := kD_small ha he hn hu (show i < 2 ^ n by omega) hk hp h
        rw [if_pos h, if_pos h, x_det_oI, xd_all hn1 hn he hu (by omega) (by omega), hp, cd64_oI (by unfold fit; omega) (by unfold fit; omega)]
        exact ih (i + 1) _ (by omega) (gcd_small hg b)
      · rw [if_neg h, if_neg h]
        exact ih (i + 1) g (by omega) hg
  exact gen (2 ^ n) 0 0 (by omega) (by decide)
theorem x_dvd_oI {n e k : Nat} {I : fl_TI} (hn1 : 1 ≤ n) (hn : n ≤ 4) (he : e ≤ 3) (ha : sml (aC I) e n) (hk : k ≤ 3) : x_dvd n e I k = oI ((gA (aC I) n e k : Nat) : Int) := by
  unfold x_dvd gA
  have gen : ∀ q i (g : Nat), i + q = 2 ^ e → g ≤ 4374 → fl_it (fun u dv => if pop4 u = k then cd64 dv (x_dvu n e I u k) else dv) q i (oI (g : Int)) = oI ((gF (fun u => pop4 u = k) (gR (aC I) n k) q i g : Nat) : Int) := by
    intro q
    induction q with
    | zero => intro i g _ _; rfl
    | succ q ih =>
      intro i g hi hg
      rw [gF_s]
      show fl_it _ q (i + 1) (if pop4 i = k then cd64 (oI (g : Int)) (x_dvu n e I i k) else oI (g : Int)) = _
      by_cases h : pop4 i = k
      · have b := gR_le ha he hn (show i < 2 ^ e by omega) hk h
        rw [if_pos h, if_pos h, x_dvu_oI hn1 hn he ha (by omega) hk h, cd64_oI (by unfold fit; omega) (by unfold fit; omega)]
        exact ih (i + 1) _ (by omega) (gcd_small hg b)
      · rw [if_neg h, if_neg h]
        exact ih (i + 1) g (by omega) hg
  exact gen (2 ^ e) 0 0 (by omega) (by decide)
theorem k_dv1_oI {n e u k g : Nat} {I : fl_TI} (hn : n ≤ 4) (he : e ≤ 3) (ha : sml (aM I) e n) (hu : u < 2 ^ e) (hk1 : 1 ≤ k) (hk : k ≤ 3) (hg : g ≤ 4374) : k_dv1 n I k u (oI (g : Int)) = oI (((if pop4 u = k then Nat.gcd g (gR (aM I) n k u) else g) : Nat) : Int) := by
  unfold k_dv1
  by_cases hp : pop4 u = k
  · rw [if_pos hp]
    have gen : ∀ q i (g : Nat), i + q = 2 ^ n → g ≤ 4374 → fl_it (fun w dv => if pop4 u = k ∧ pop4 w = k then cm64 dv (k_det I u w k) else dv) q i (oI (g : Int)) = oI ((gF (fun w => pop4 w = k) (fun w => (kD (aM I) u w k).natAbs) q i g : Nat) : Int) := by
      intro q
      induction q with
      | zero => intro i g _ _; rfl
      | succ q ih =>
        intro i g hi hg
        rw [gF_s]
        show fl_it _ q (i + 1) (if pop4 u = k ∧ pop4 i = k then cm64 (oI (g : Int)) (k_det I u i k) else oI (g : Int)) = _
        by_cases h : pop4 i = k
        · have b := kD_small ha he hn hu (show i < 2 ^ n by omega) hk hp h
          rw [if_pos ⟨hp, h⟩, if_pos h, k_det_oI hk1, cm64_oI (by unfold fit; omega) (by unfold fit; omega)]
          exact ih (i + 1) _ (by omega) (gcd_small hg b)
        · rw [if_neg (fun z => h z.2), if_neg h]
          exact ih (i + 1) g (by omega) hg
    have h2 : 1 ≤ 2 ^ n := Nat.one_le_two_pow
    rw [gen (2 ^ n - 1) 1 g (by omega) hg, gF_gcd]
    unfold gR
    rw [show gF (fun w => pop4 w = k) (fun w => (kD (aM I) u w k).natAbs) (2 ^ n) 0 0 = gF (fun w => pop4 w = k) (fun w => (kD (aM I) u w k).natAbs) (2 ^ n - 1) 1 0 from by
      rw [show 2 ^ n = (2 ^ n - 1) + 1 from by omega, gF_s, if_neg (by show ¬ pop4 0 = k; intro z; have : pop4 0 = 0 := rfl; omega)]
      rfl]
  · rw [if_neg hp]
    have gen : ∀ q i, fl_it (fun w dv => if pop4 u = k ∧ pop4 w = k then cm64 dv (k_det I u w k) else dv) q i (oI (g : Int)) = oI (g : Int) := by
      intro q
      induction q with
      | zero => intro i; rfl
      | succ q ih =>
        intro i
        show fl_it _ q (i + 1) (if pop4 u = k ∧ pop4 i = k then cm64 (oI (g : Int)) (k_det I u i k) else oI (g : Int)) = _
        rw [if_neg (fun z => hp z.1)]
        exact ih (i + 1)
    exact gen _ _
theorem k_dv_oI {n e k : Nat} {I : fl_TI} (hn : n ≤ 4) (he : e ≤ 3) (ha : sml (aM I) e n) (hk1 : 1 ≤ k) (hk : k ≤ 3) : k_dv n e I k = oI ((gA (aM I) n e k : Nat) : Int) := by
  unfold k_dv
  have gen : ∀ q i (g : Nat), i + q = 2 ^ e → g ≤ 4374 → fl_it (k_dv1 n I k) q i (oI (g : Int)) = oI ((gF (fun u => pop4 u = k) (gR (aM I) n k) q i g : Nat) : Int) := by
    intro q
    induction q with
    | zero => intro i g _ _; rfl
    | succ q ih =>
      intro i g hi hg
      rw [gF_s]
      show fl_it _ q (i + 1) (k_dv1 n I k i (oI (g : Int))) = _
      rw [k_dv1_oI hn he ha (show i < 2 ^ e by omega) hk1 hk hg]
      refine ih (i + 1) _ (by omega) ?_
      by_cases h : pop4 i = k
      · rw [if_pos h]; exact gcd_small hg (gR_le ha he hn (by omega) hk h)
      · rw [if_neg h]; exact hg
  have h2 : 1 ≤ 2 ^ e := Nat.one_le_two_pow
  have e0 : (0 : Int64) = oI ((0 : Nat) : Int) := rfl
  rw [e0, gen (2 ^ e - 1) 1 0 (by omega) (by decide)]
  unfold gA
  rw [show gF (fun u => pop4 u = k) (gR (aM I) n k) (2 ^ e) 0 0 = gF (fun u => pop4 u = k) (gR (aM I) n k) (2 ^ e - 1) 1 0 from by
    rw [show 2 ^ e = (2 ^ e - 1) + 1 from by omega, gF_s, if_neg (by show ¬ pop4 0 = k; intro z; have : pop4 0 = 0 := rfl; omega)]
    rfl]
theorem gA_0 {a : Nat → Nat → Int} {n e : Nat} : gA a n e 0 = 1 := by
  have h1 : gR a n 0 0 = 1 := by
    have h2 : 1 ≤ 2 ^ n := Nat.one_le_two_pow
    unfold gR
    rw [show 2 ^ n = (2 ^ n - 1) + 1 from by omega, gF_s, gF_gcd]
    have : (if pop4 0 = 0 then Nat.gcd 0 (kD a 0 0 0).natAbs else 0) = 1 := by rw [if_pos (show pop4 0 = 0 from rfl), Nat.gcd_zero_left]; rfl
    rw [this, Nat.gcd_one_left]
  have h2 : 1 ≤ 2 ^ e := Nat.one_le_two_pow
  unfold gA
  rw [show 2 ^ e = (2 ^ e - 1) + 1 from by omega, gF_s, gF_gcd]
  have : (if pop4 0 = 0 then Nat.gcd 0 (gR a n 0 0) else 0) = 1 := by rw [if_pos (show pop4 0 = 0 from rfl), Nat.gcd_zero_left]; exact h1
  rw [this, Nat.gcd_one_left]
theorem two_pow_lt {r e : Nat} (h : r < e) : 2 ^ r < 2 ^ e := Nat.pow_lt_pow_right (by decide) h
theorem gA_down {a : Nat → Nat → Int} {n e k : Nat} (he : e ≤ 3) (hn : n ≤ 4) (hk1 : 1 ≤ k) (hk : k ≤ 3) (h : gA a n e (k - 1) = 0) : gA a n e k = 0 := by
  rw [gA_zero] at h ⊢
  intro u w hu hw h1 h2
  have pu : ∀ i, i < k → kpl u i < e := fun i hi => kpl_lt e (by omega) u hu i (by omega) (by omega)
  have pw : ∀ i, i < k → kpl w i < n := fun i hi => kpl_lt n (by omega) w hw i (by omega) (by omega)
  have u16 : u < 16 := Nat.lt_of_lt_of_le hu (Nat.pow_le_pow_right (n := 2) (by decide) (show e ≤ 4 by omega))
  have w16 : w < 16 := Nat.lt_of_lt_of_le hw (Nat.pow_le_pow_right (n := 2) (by decide) hn)
  have : k = 1 ∨ k = 2 ∨ k = 3 := by omega
  rcases this with rfl | rfl | rfl
  · have := h 0 0 (Nat.two_pow_pos _) (Nat.two_pow_pos _) rfl rfl
    exact absurd this (by show ¬ (1 : Int) = 0; decide)
  · have e1 : ∀ r q, r < e → q < n → a r q = 0 := fun r q hr hq => by
      obtain ⟨a1, a2⟩ := kpl_one r (by omega)
      obtain ⟨b1, b2⟩ := kpl_one q (by omega)
      have := h (2 ^ r) (2 ^ q) (two_pow_lt hr) (two_pow_lt hq) a1 b1
      have e2 : kD a (2 ^ r) (2 ^ q) 1 = a (kpl (2 ^ r) 0) (kpl (2 ^ q) 0) := rfl
      rw [show 2 - 1 = 1 from rfl, e2, a2, b2] at this
      exact this
    show d2 a _ _ _ _ = 0
    unfold d2
    rw [e1 _ _ (pu 0 (by decide)) (pw 0 (by decide)), e1 _ _ (pu 0 (by decide)) (pw 1 (by decide))]
    omega
  · have lt2 : ∀ {r s e : Nat}, r < s → s < e → 2 ^ r + 2 ^ s < 2 ^ e := fun {r s e} h1 h2 => by
      have g1 := two_pow_lt h1
      have g2 : 2 ^ (s + 1) ≤ 2 ^ e := Nat.pow_le_pow_right (by decide) h2
      rw [Nat.pow_succ] at g2
      omega
    have e1 : ∀ r s q z, r < s → s < e → q < z → z < n → d2 a r s q z = 0 := fun r s q z hr hs hq hz => by
      obtain ⟨a1, a2, a3⟩ := kpl_two s (by omega) r hr
      obtain ⟨b1, b2, b3⟩ := kpl_two z (by omega) q hq
      have := h (2 ^ r + 2 ^ s) (2 ^ q + 2 ^ z) (lt2 hr hs) (lt2 hq hz) a1 b1
      have e2 : kD a (2 ^ r + 2 ^ s) (2 ^ q + 2 ^ z) 2 = d2 a (kpl (2 ^ r + 2 ^ s) 0) (kpl (2 ^ r + 2 ^ s) 1) (kpl (2 ^ q + 2 ^ z) 0) (kpl (2 ^ q + 2 ^ z) 1) := rfl
      rw [show 3 - 1 = 2 from rfl, e2, a2, a3, b2, b3] at this
      exact this
    have uu := kpl_up u u16 1 (by decide) 2 (by decide) (by decide) (by omega)
    have w01 := kpl_up w w16 0 (by decide) 1 (by decide) (by decide) (by omega)
    have w12 := kpl_up w w16 1 (by decide) 2 (by decide) (by decide) (by omega)
    show a _ _ * d2 a _ _ _ _ - a _ _ * d2 a _ _ _ _ + a _ _ * d2 a _ _ _ _ = 0
    rw [e1 _ _ _ _ uu (pu 2 (by decide)) w12 (pw 2 (by decide)), e1 _ _ _ _ uu (pu 2 (by decide)) (show kpl w 0 < kpl w 2 by omega) (pw 2 (by decide)), e1 _ _ _ _ uu (pu 2 (by decide)) w01 (pw 1 (by decide))]
    omega
theorem gA_congr {a a' : Nat → Nat → Int} {e n k : Nat} (h : ∀ c j, c < e → j < n → a c j = a' c j) (he : e ≤ 3) (hn : n ≤ 4) (hk : k ≤ 3) : gA a n e k = gA a' n e k := by
  have fc : ∀ (P : Nat → Prop) [DecidablePred P] (f f' : Nat → Nat) q i g, (∀ w, i ≤ w → w < i + q → P w → f w = f' w) → gF P f q i g = gF P f' q i g := by
    intro P _ f f' q
    induction q with
    | zero => intro i g _; rfl
    | succ q ih =>
      intro i g hf
      rw [gF_s, gF_s]
      by_cases z : P i
      · rw [if_pos z, if_pos z, hf i (by omega) (by omega) z]
        exact ih (i + 1) _ (fun w h1 h2 h3 => hf w (by omega) (by omega) h3)
      · rw [if_neg z, if_neg z]
        exact ih (i + 1) _ (fun w h1 h2 h3 => hf w (by omega) (by omega) h3)
  unfold gA
  refine fc _ _ _ _ _ _ (fun u _ hu hp => ?_)
  unfold gR
  refine fc _ _ _ _ _ _ (fun w _ hw hp2 => ?_)
  show (kD a u w k).natAbs = (kD a' u w k).natAbs
  rw [kD_congr h he hn (show u < 2 ^ e by omega) (show w < 2 ^ n by omega) hk hp hp2]
theorem inv_eq {n e k : Nat} {I : fl_TI} (hn1 : 1 ≤ n) (hn : n ≤ 4) (he : e ≤ 3) (ha : sml (aC I) e n) (hE : ∀ c j, c < e → j < n → aC I c j = aM I c j) (hk1 : 1 ≤ k) (hk : k ≤ 3) : x_inv n e I k = k_inv n e I k ∧ (¬ k_dvd n e I k = 0 → ¬ k_dvd n e I (k - 1) = 0) := by
  have ha2 : sml (aM I) e n := fun x i hx hi => by rw [← hE x i hx hi]; exact ha x i hx hi
  have b1 := gA_le ha he hn hk
  have b2 := gA_le ha he hn (show k - 1 ≤ 3 by omega)
  have c1 := gA_congr hE he hn hk
  have c2 := gA_congr hE he hn (show k - 1 ≤ 3 by omega)
  have x1 := x_dvd_oI hn1 hn he ha hk
  have x2 := x_dvd_oI hn1 hn he ha (show k - 1 ≤ 3 by omega)
  have k1 : k_dvd n e I k = oI ((gA (aC I) n e k : Nat) : Int) := by
    unfold k_dvd
    rw [if_neg (by omega), k_dv_oI hn he ha2 hk1 hk, c1]
  have k2 : k_dvd n e I (k - 1) = oI ((gA (aC I) n e (k - 1) : Nat) : Int) := by
    unfold k_dvd
    by_cases z : k - 1 = 0
    · rw [if_pos z, z, gA_0]; rfl
    · rw [if_neg z, k_dv_oI hn he ha2 (by omega) (by omega), c2]
  have dn : gA (aC I) n e (k - 1) = 0 → gA (aC I) n e k = 0 := gA_down he hn hk1 hk
  have z1 := oI_eq0 (a := ((gA (aC I) n e k : Nat) : Int)) (by unfold fit; omega)
  have z2 := oI_eq0 (a := ((gA (aC I) n e (k - 1) : Nat) : Int)) (by unfold fit; omega)
  unfold x_inv k_inv
  rw [x1, x2, k1, k2]
  generalize gA (aC I) n e k = G at *
  generalize gA (aC I) n e (k - 1) = G' at *
  refine ⟨?_, fun q z => q (z1.mpr (by have := dn (by have := z2.mp z; omega); omega))⟩
  by_cases q' : G' = 0
  · have q := dn q'
    rw [if_pos (z2.mpr (by omega)), if_pos (z1.mpr (by omega))]
  · rw [if_neg (fun z => q' (by have := z2.mp z; omega))]
    by_cases q : G = 0
    · rw [if_pos (z1.mpr (by omega)), q, oI_div (by unfold fit; omega) (by unfold fit; omega)]
      show oI ((0 : Int).tdiv _) = 0
      rw [Int.zero_tdiv]
      rfl
    · rw [if_neg (fun z => q (by have := z1.mp z; omega))]
