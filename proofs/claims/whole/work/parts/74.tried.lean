/-! the first stage of the model: what is tried, followed -/
def qz (n b c : Nat) (T : Nat → Nat → Int) (r : Nat) : Int := if r < n then (pvT 0 b c T r c).fdiv (pvT 0 b c T 0 c) else 0
theorem ps0_T {n b c : Nat} {T : Nat → Nat → Int} {r : Nat} (hr : 0 < r) (x : Nat) : psT n 0 b c T r x = pvT 0 b c T r x - qz n b c T r * pvT 0 b c T 0 x := by
  unfold qz
  by_cases h : r < n
  · rw [if_pos h]; exact pasT_in ⟨hr, h⟩
  · rw [if_neg h]
    rw [show psT n 0 b c T r x = pvT 0 b c T r x from pasT_out (by omega)]
    omega
theorem ps0_N {n b c : Nat} {T N : Nat → Nat → Int} (h1 : 1 ≤ n) (h4 : n ≤ 4) (x : Nat) : psN n 0 b c T N 0 x = pvN 0 b (T b c) N 0 x + qz n b c T 1 * pvN 0 b (T b c) N 1 x + qz n b c T 2 * pvN 0 b (T b c) N 2 x + qz n b c T 3 * pvN 0 b (T b c) N 3 x := by
  have e0 : pasN 0 c (pvT 0 b c T) (pvN 0 b (T b c) N) 0 0 x = pvN 0 b (T b c) N 0 x := rfl
  have hcase : n = 1 ∨ n = 2 ∨ n = 3 ∨ n = 4 := by omega
  unfold psN qz
  rcases hcase with rfl | rfl | rfl | rfl
  · rw [pasN_k, if_neg (by omega), e0, if_neg (by omega), if_neg (by omega), if_neg (by omega)]; omega
  · rw [pasN_k, if_pos (by omega), pasN_k, if_neg (by omega), e0, if_pos (by omega), if_neg (by omega), if_neg (by omega)]; omega
  · rw [pasN_k, if_pos (by omega), pasN_k, if_pos (by omega), pasN_k, if_neg (by omega), e0, if_pos (by omega), if_pos (by omega), if_neg (by omega)]; omega
  · rw [pasN_k, if_pos (by omega), pasN_k, if_pos (by omega), pasN_k, if_pos (by omega), pasN_k, if_neg (by omega), e0, if_pos (by omega), if_pos (by omega), if_pos (by omega)]
theorem sb {a b q : Int} {x y z : Nat} (h1 : a.natAbs ≤ x) (h2 : b.natAbs ≤ y) (hq : q.natAbs ≤ z) : (a - q * b).natAbs ≤ x + z * y := by
  have := na_sub a (q * b)
  have := na_mul hq h2
  omega
theorem sb3 {a b1 b2 b3 q1 q2 q3 : Int} {x y1 y2 y3 z1 z2 z3 : Nat} (h0 : a.natAbs ≤ x) (h1 : b1.natAbs ≤ y1) (h2 : b2.natAbs ≤ y2) (h3 : b3.natAbs ≤ y3) (k1 : q1.natAbs ≤ z1) (k2 : q2.natAbs ≤ z2) (k3 : q3.natAbs ≤ z3) : (a + q1 * b1 + q2 * b2 + q3 * b3).natAbs ≤ x + z1 * y1 + z2 * y2 + z3 * y3 := by
  have a1 := na_add (a + q1 * b1 + q2 * b2) (q3 * b3)
  have a2 := na_add (a + q1 * b1) (q2 * b2)
  have a3 := na_add a (q1 * b1)
  have m1 := na_mul k1 h1
  have m2 := na_mul k2 h2
  have m3 := na_mul k3 h3
  omega
theorem nat_fdiv {x y : Int} (hx : 0 ≤ x) (hy : 0 < y) : (x.fdiv y).natAbs = x.toNat / y.toNat ∧ (x - x.fdiv y * y).toNat = x.toNat % y.toNat := by
  obtain ⟨a, rfl⟩ := Int.eq_ofNat_of_zero_le hx
  obtain ⟨b, rfl⟩ := Int.eq_ofNat_of_zero_le (show 0 ≤ y by omega)
  have e : Int.fdiv (a : Int) (b : Int) = ((a / b : Nat) : Int) := (Int.ofNat_fdiv a b).symm
  have m := Nat.div_add_mod a b
  rw [Nat.mul_comm] at m
  constructor
  · rw [e]; rfl
  · rw [e, ← Int.natCast_mul, Int.toNat_natCast, Int.toNat_natCast]
    omega
def Psi (c : Nat) (T N : Nat → Nat → Int) : Prop := ∃ f s0 s1 s2 s3 u0 u1 u2 u3, trk f (T 0 c).toNat (T 1 c).toNat (T 2 c).toNat (T 3 c).toNat s0 s1 s2 s3 u0 u1 u2 u3 = true ∧ (∀ x, (T 0 x).natAbs ≤ 9 * s0 ∧ (T 1 x).natAbs ≤ 9 * s1 ∧ (T 2 x).natAbs ≤ 9 * s2 ∧ (T 3 x).natAbs ≤ 9 * s3) ∧ bd (N 0) u0 ∧ bd (N 1) u1 ∧ bd (N 2) u2 ∧ bd (N 3) u3
theorem psi_end {c : Nat} {T N : Nat → Nat → Int} (h : Psi c T N) (h1 : T 1 c = 0) (h2 : T 2 c = 0) (h3 : T 3 c = 0) : (∀ j x, j < 4 → (T j x).natAbs ≤ 297) ∧ bd (N 1) 31 ∧ bd (N 2) 31 ∧ bd (N 3) 31 := by
  obtain ⟨f, s0, s1, s2, s3, u0, u1, u2, u3, ht, hs, b0, b1, b2, b3⟩ := h
  rw [h1, h2, h3] at ht
  cases f with
  | zero => exact absurd ht (by simp [trk])
  | succ f =>
    unfold trk at ht
    rw [if_pos ⟨rfl, rfl, rfl⟩] at ht
    obtain ⟨k0, k1, k2, k3, k4, k5, k6⟩ := of_decide_eq_true ht
    refine ⟨fun j x hj => ?_, fun i hi => Nat.le_trans (b1 i hi) k4, fun i hi => Nat.le_trans (b2 i hi) k5, fun i hi => Nat.le_trans (b3 i hi) k6⟩
    have := hs x
    rcases lt4 hj with rfl | rfl | rfl | rfl <;> omega
theorem psi_begin {n b c : Nat} {T N : Nat → Nat → Int} (h1 : 1 ≤ n) (h4 : n ≤ 4) (hb : b < n) (hT : ∀ j x, j < 4 → (T j x).natAbs ≤ 9) (hz : ∀ j, n ≤ j → j < 4 → T j c = 0) (hN : ∀ j, j < 4 → bd (N j) 1) (h0 : T b c ≠ 0) : Psi c (psT n 0 b c T) (psN n 0 b c T N) := by
  have hp0 : psT n 0 b c T 0 c = pvT 0 b c T 0 c := pasT_k
  obtain ⟨tp, ta⟩ := ps_topc (n := n) (k := 0) (b := b) (c := c) h0
  have pT : ∀ r x, r < 4 → (pvT 0 b c T r x).natAbs ≤ 9 := fun r x hr => by
    unfold pvT
    by_cases q : r = 0
    · rw [if_pos q]; have := hT b x (by omega); split <;> omega
    · rw [if_neg q]
      by_cases q2 : r = b
      · rw [if_pos q2]; exact hT 0 x (by decide)
      · rw [if_neg q2]; exact hT r x hr
  have pN : ∀ r x, r < 4 → x < 4 → (pvN 0 b (T b c) N r x).natAbs ≤ 1 := fun r x hr hx => by
    unfold pvN
    by_cases q : r = 0
    · rw [if_pos q]; have := hN b (by omega) x hx; split <;> omega
    · rw [if_neg q]
      by_cases q2 : r = b
      · rw [if_pos q2]; exact hN 0 (by decide) x hx
      · rw [if_neg q2]; exact hN r hr x hx
  -- the values and the times
  have val : ∀ r, 0 < r → r < 4 → 0 ≤ psT n 0 b c T r c ∧ psT n 0 b c T r c < psT n 0 b c T 0 c := fun r hr hr4 => by
    by_cases q : r < n
    · exact ps_in h0 hr q
    · have e : psT n 0 b c T r c = pvT 0 b c T r c := pasT_out (by omega)
      have e2 : pvT 0 b c T r c = T r c := by unfold pvT; rw [if_neg (by omega), if_neg (by omega)]
      rw [e, e2, hz r (by omega) hr4]
      omega
  have qb : ∀ r, 0 < r → r < 4 → (qz n b c T r).natAbs ≤ (9 + (psT n 0 b c T r c).toNat) / (psT n 0 b c T 0 c).toNat := fun r hr hr4 => by
    rw [Nat.le_div_iff_mul_le (by omega)]
    have e := ps0_T (n := n) (b := b) (c := c) (T := T) hr c
    rw [← hp0] at e
    have p9 := pT r c hr4
    have v := val r hr hr4
    have e2 : (qz n b c T r).natAbs * (psT n 0 b c T 0 c).toNat = (qz n b c T r * psT n 0 b c T 0 c).natAbs := by
      rw [Int.natAbs_mul]; congr 1; omega
    rw [e2]
    omega
  have hpb : (T b c).natAbs ≤ 9 := hT b c (by omega)
  have tt := trk_at (p := (psT n 0 b c T 0 c).toNat) (a := (psT n 0 b c T 1 c).toNat) (b := (psT n 0 b c T 2 c).toNat) (c := (psT n 0 b c T 3 c).toNat) (by omega) (by have := val 1 (by decide) (by decide); omega) (by have := val 2 (by decide) (by decide); omega) (by have := val 3 (by decide) (by decide); omega)
  have rowb : ∀ r x, 0 < r → r < 4 → (psT n 0 b c T r x).natAbs ≤ 9 * (1 + (9 + (psT n 0 b c T r c).toNat) / (psT n 0 b c T 0 c).toNat) := fun r x hr hr4 => by
    rw [ps0_T hr x]
    have := sb (pT r x hr4) (pT 0 x (by decide)) (qb r hr hr4)
    omega
  refine ⟨6, _, _, _, _, _, _, _, _, tt, fun x => ⟨?_, rowb 1 x (by decide) (by decide), rowb 2 x (by decide) (by decide), rowb 3 x (by decide) (by decide)⟩, fun x hx => ?_, fun x hx => ?_, fun x hx => ?_, fun x hx => ?_⟩
  · rw [show psT n 0 b c T 0 x = pvT 0 b c T 0 x from pasT_k]; exact pT 0 x (by decide)
  · rw [ps0_N h1 h4]
    have := sb3 (pN 0 x (by decide) hx) (pN 1 x (by decide) hx) (pN 2 x (by decide) hx) (pN 3 x (by decide) hx) (qb 1 (by decide) (by decide)) (qb 2 (by decide) (by decide)) (qb 3 (by decide) (by decide))
    omega
  · rw [show psN n 0 b c T N 1 = pvN 0 b (T b c) N 1 from pasN_o (by decide) n]; exact pN 1 x (by decide) hx
  · rw [show psN n 0 b c T N 2 = pvN 0 b (T b c) N 2 from pasN_o (by decide) n]; exact pN 2 x (by decide) hx
  · rw [show psN n 0 b c T N 3 = pvN 0 b (T b c) N 3 from pasN_o (by decide) n]; exact pN 3 x (by decide) hx
theorem psi_pass {n b c : Nat} {T N : Nat → Nat → Int} (h4 : n ≤ 4) (hb0 : 0 < b) (hb : b < n) (hT : ∀ r, r < 4 → 0 ≤ T r c) (hz : ∀ j, n ≤ j → j < 4 → T j c = 0) (hm : ∀ r, r < n → T r c ≠ 0 → (T b c).natAbs ≤ (T r c).natAbs) (h0 : T b c ≠ 0) (h : Psi c T N) : Psi c (psT n 0 b c T) (psN n 0 b c T N) := by
  obtain ⟨f, s0, s1, s2, s3, u0, u1, u2, u3, ht, hs, b0, b1, b2, b3⟩ := h
  have hbp : 0 < T b c := by have := hT b (by omega); omega
  have t0 := hT 0 (by decide)
  have t1 := hT 1 (by decide)
  have t2 := hT 2 (by decide)
  have t3 := hT 3 (by decide)
  have hmin : ∀ r, r < 4 → T r c ≠ 0 → T b c ≤ T r c := fun r hr hne => by
    rcases Nat.lt_or_ge r n with q | q
    · have := hm r q hne; have := hT r hr; omega
    · exact absurd (hz r q hr) hne
  have m1 := hmin 1 (by decide)
  have m2 := hmin 2 (by decide)
  have m3 := hmin 3 (by decide)
  have qe : ∀ r, 0 < r → r < 4 → qz n b c T r = (pvT 0 b c T r c).fdiv (T b c) := fun r hr hr4 => by
    have e0 : pvT 0 b c T 0 c = T b c := by unfold pvT; rw [if_pos rfl, if_neg (by omega)]
    unfold qz
    by_cases q : r < n
    · rw [if_pos q, e0]
    · rw [if_neg q]
      have e2 : pvT 0 b c T r c = T r c := by unfold pvT; rw [if_neg (by omega), if_neg (by omega)]
      rw [e2, hz r (by omega) hr4, Int.zero_fdiv]
  have e0x : ∀ x, pvT 0 b c T 0 x = T b x := fun x => by unfold pvT; rw [if_pos rfl, if_neg (by omega)]
  have n0x : ∀ x, pvN 0 b (T b c) N 0 x = N b x := fun x => by unfold pvN; rw [if_pos rfl, if_neg (by omega)]
  have top : ∀ x, psT n 0 b c T 0 x = T b x := fun x => by rw [show psT n 0 b c T 0 x = pvT 0 b c T 0 x from pasT_k]; exact e0x x
  cases f with
  | zero => exact absurd ht (by simp [trk])
  | succ f =>
    unfold trk at ht
    have hcase : b = 1 ∨ b = 2 ∨ b = 3 := by omega
    have hnz : ¬ ((T 1 c).toNat = 0 ∧ (T 2 c).toNat = 0 ∧ (T 3 c).toNat = 0) := by
      rcases hcase with rfl | rfl | rfl <;> omega
    rw [if_neg hnz] at ht
    simp only [Bool.and_eq_true, Bool.or_eq_true, decide_eq_true_eq] at ht
    obtain ⟨ht1, ht2, ht3⟩ := ht
    rcases hcase with rfl | rfl | rfl
    · have hh := ht1
      rcases hh with ((q | q) | q) | q
      · omega
      · omega
      · omega
      · have p1 : ∀ x, pvT 0 1 c T 1 x = T 0 x := fun x => by unfold pvT; rw [if_neg (by decide)]; rw [if_pos rfl]
        have p2 : ∀ x, pvT 0 1 c T 2 x = T 2 x := fun x => by unfold pvT; rw [if_neg (by decide)]; rw [if_neg (by decide)]
        have p3 : ∀ x, pvT 0 1 c T 3 x = T 3 x := fun x => by unfold pvT; rw [if_neg (by decide)]; rw [if_neg (by decide)]
        have n1 : ∀ x, pvN 0 1 (T 1 c) N 1 x = N 0 x := fun x => by unfold pvN; rw [if_neg (by decide)]; rw [if_pos rfl]
        have n2 : ∀ x, pvN 0 1 (T 1 c) N 2 x = N 2 x := fun x => by unfold pvN; rw [if_neg (by decide)]; rw [if_neg (by decide)]
        have n3 : ∀ x, pvN 0 1 (T 1 c) N 3 x = N 3 x := fun x => by unfold pvN; rw [if_neg (by decide)]; rw [if_neg (by decide)]
        have d1 := nat_fdiv t0 hbp
        have q1 : (qz n 1 c T 1).natAbs ≤ (T 0 c).toNat / (T 1 c).toNat := by rw [qe 1 (by decide) (by decide), p1]; exact Nat.le_of_eq d1.1
        have v1 : (psT n 0 1 c T 1 c).toNat = (T 0 c).toNat % (T 1 c).toNat := by rw [ps0_T (by decide) c, qe 1 (by decide) (by decide), p1, e0x]; exact d1.2
        have d2 := nat_fdiv t2 hbp
        have q2 : (qz n 1 c T 2).natAbs ≤ (T 2 c).toNat / (T 1 c).toNat := by rw [qe 2 (by decide) (by decide), p2]; exact Nat.le_of_eq d2.1
        have v2 : (psT n 0 1 c T 2 c).toNat = (T 2 c).toNat % (T 1 c).toNat := by rw [ps0_T (by decide) c, qe 2 (by decide) (by decide), p2, e0x]; exact d2.2
        have d3 := nat_fdiv t3 hbp
        have q3 : (qz n 1 c T 3).natAbs ≤ (T 3 c).toNat / (T 1 c).toNat := by rw [qe 3 (by decide) (by decide), p3]; exact Nat.le_of_eq d3.1
        have v3 : (psT n 0 1 c T 3 c).toNat = (T 3 c).toNat % (T 1 c).toNat := by rw [ps0_T (by decide) c, qe 3 (by decide) (by decide), p3, e0x]; exact d3.2
        have hb1x : ∀ x, (T 1 x).natAbs ≤ 9 * s1 := fun x => (hs x).2.1
        rw [← v1, ← v2, ← v3] at q
        refine ⟨f, _, _, _, _, _, _, _, _, by rw [top c]; exact q, fun x => ⟨by rw [top x]; exact hb1x x, ?_, ?_, ?_⟩, fun x hx => ?_, fun x hx => ?_, fun x hx => ?_, fun x hx => ?_⟩
        · rw [ps0_T (by decide) x, p1, e0x]
          have := sb (hs x).1 (hb1x x) q1
          rw [Nat.mul_add]
          have e9 : (T 0 c).toNat / (T 1 c).toNat * (9 * s1) = 9 * ((T 0 c).toNat / (T 1 c).toNat * s1) := Nat.mul_left_comm _ _ _
          omega
        · rw [ps0_T (by decide) x, p2, e0x]
          have := sb (hs x).2.2.1 (hb1x x) q2
          rw [Nat.mul_add]
          have e9 : (T 2 c).toNat / (T 1 c).toNat * (9 * s1) = 9 * ((T 2 c).toNat / (T 1 c).toNat * s1) := Nat.mul_left_comm _ _ _
          omega
        · rw [ps0_T (by decide) x, p3, e0x]
          have := sb (hs x).2.2.2 (hb1x x) q3
          rw [Nat.mul_add]
          have e9 : (T 3 c).toNat / (T 1 c).toNat * (9 * s1) = 9 * ((T 3 c).toNat / (T 1 c).toNat * s1) := Nat.mul_left_comm _ _ _
          omega
        · rw [ps0_N (by omega) h4, n0x, n1, n2, n3]
          exact sb3 (b1 x hx) (b0 x hx) (b2 x hx) (b3 x hx) q1 q2 q3
        · rw [show psN n 0 1 c T N 1 = pvN 0 1 (T 1 c) N 1 from pasN_o (by decide) n, n1]; exact b0 x hx
        · rw [show psN n 0 1 c T N 2 = pvN 0 1 (T 1 c) N 2 from pasN_o (by decide) n, n2]; exact b2 x hx
        · rw [show psN n 0 1 c T N 3 = pvN 0 1 (T 1 c) N 3 from pasN_o (by decide) n, n3]; exact b3 x hx
    · have hh := ht2
      rcases hh with ((q | q) | q) | q
      · omega
      · omega
      · omega
      · have p1 : ∀ x, pvT 0 2 c T 1 x = T 1 x := fun x => by unfold pvT; rw [if_neg (by decide)]; rw [if_neg (by decide)]
        have p2 : ∀ x, pvT 0 2 c T 2 x = T 0 x := fun x => by unfold pvT; rw [if_neg (by decide)]; rw [if_pos rfl]
        have p3 : ∀ x, pvT 0 2 c T 3 x = T 3 x := fun x => by unfold pvT; rw [if_neg (by decide)]; rw [if_neg (by decide)]
        have n1 : ∀ x, pvN 0 2 (T 2 c) N 1 x = N 1 x := fun x => by unfold pvN; rw [if_neg (by decide)]; rw [if_neg (by decide)]
        have n2 : ∀ x, pvN 0 2 (T 2 c) N 2 x = N 0 x := fun x => by unfold pvN; rw [if_neg (by decide)]; rw [if_pos rfl]
        have n3 : ∀ x, pvN 0 2 (T 2 c) N 3 x = N 3 x := fun x => by unfold pvN; rw [if_neg (by decide)]; rw [if_neg (by decide)]
        have d1 := nat_fdiv t1 hbp
        have q1 : (qz n 2 c T 1).natAbs ≤ (T 1 c).toNat / (T 2 c).toNat := by rw [qe 1 (by decide) (by decide), p1]; exact Nat.le_of_eq d1.1
        have v1 : (psT n 0 2 c T 1 c).toNat = (T 1 c).toNat % (T 2 c).toNat := by rw [ps0_T (by decide) c, qe 1 (by decide) (by decide), p1, e0x]; exact d1.2
        have d2 := nat_fdiv t0 hbp
        have q2 : (qz n 2 c T 2).natAbs ≤ (T 0 c).toNat / (T 2 c).toNat := by rw [qe 2 (by decide) (by decide), p2]; exact Nat.le_of_eq d2.1
        have v2 : (psT n 0 2 c T 2 c).toNat = (T 0 c).toNat % (T 2 c).toNat := by rw [ps0_T (by decide) c, qe 2 (by decide) (by decide), p2, e0x]; exact d2.2
        have d3 := nat_fdiv t3 hbp
        have q3 : (qz n 2 c T 3).natAbs ≤ (T 3 c).toNat / (T 2 c).toNat := by rw [qe 3 (by decide) (by decide), p3]; exact Nat.le_of_eq d3.1
        have v3 : (psT n 0 2 c T 3 c).toNat = (T 3 c).toNat % (T 2 c).toNat := by rw [ps0_T (by decide) c, qe 3 (by decide) (by decide), p3, e0x]; exact d3.2
        have hb2x : ∀ x, (T 2 x).natAbs ≤ 9 * s2 := fun x => (hs x).2.2.1
        rw [← v1, ← v2, ← v3] at q
        refine ⟨f, _, _, _, _, _, _, _, _, by rw [top c]; exact q, fun x => ⟨by rw [top x]; exact hb2x x, ?_, ?_, ?_⟩, fun x hx => ?_, fun x hx => ?_, fun x hx => ?_, fun x hx => ?_⟩
        · rw [ps0_T (by decide) x, p1, e0x]
          have := sb (hs x).2.1 (hb2x x) q1
          rw [Nat.mul_add]
          have e9 : (T 1 c).toNat / (T 2 c).toNat * (9 * s2) = 9 * ((T 1 c).toNat / (T 2 c).toNat * s2) := Nat.mul_left_comm _ _ _
          omega
        · rw [ps0_T (by decide) x, p2, e0x]
          have := sb (hs x).1 (hb2x x) q2
          rw [Nat.mul_add]
          have e9 : (T 0 c).toNat / (T 2 c).toNat * (9 * s2) = 9 * ((T 0 c).toNat / (T 2 c).toNat * s2) := Nat.mul_left_comm _ _ _
          omega
        · rw [ps0_T (by decide) x, p3, e0x]
          have := sb (hs x).2.2.2 (hb2x x) q3
          rw [Nat.mul_add]
          have e9 : (T 3 c).toNat / (T 2 c).toNat * (9 * s2) = 9 * ((T 3 c).toNat / (T 2 c).toNat * s2) := Nat.mul_left_comm _ _ _
          omega
        · rw [ps0_N (by omega) h4, n0x, n1, n2, n3]
          exact sb3 (b2 x hx) (b1 x hx) (b0 x hx) (b3 x hx) q1 q2 q3
        · rw [show psN n 0 2 c T N 1 = pvN 0 2 (T 2 c) N 1 from pasN_o (by decide) n, n1]; exact b1 x hx
        · rw [show psN n 0 2 c T N 2 = pvN 0 2 (T 2 c) N 2 from pasN_o (by decide) n, n2]; exact b0 x hx
        · rw [show psN n 0 2 c T N 3 = pvN 0 2 (T 2 c) N 3 from pasN_o (by decide) n, n3]; exact b3 x hx
    · have hh := ht3
      rcases hh with ((q | q) | q) | q
      · omega
      · omega
      · omega
      · have p1 : ∀ x, pvT 0 3 c T 1 x = T 1 x := fun x => by unfold pvT; rw [if_neg (by decide)]; rw [if_neg (by decide)]
        have p2 : ∀ x, pvT 0 3 c T 2 x = T 2 x := fun x => by unfold pvT; rw [if_neg (by decide)]; rw [if_neg (by decide)]
        have p3 : ∀ x, pvT 0 3 c T 3 x = T 0 x := fun x => by unfold pvT; rw [if_neg (by decide)]; rw [if_pos rfl]
        have n1 : ∀ x, pvN 0 3 (T 3 c) N 1 x = N 1 x := fun x => by unfold pvN; rw [if_neg (by decide)]; rw [if_neg (by decide)]
        have n2 : ∀ x, pvN 0 3 (T 3 c) N 2 x = N 2 x := fun x => by unfold pvN; rw [if_neg (by decide)]; rw [if_neg (by decide)]
        have n3 : ∀ x, pvN 0 3 (T 3 c) N 3 x = N 0 x := fun x => by unfold pvN; rw [if_neg (by decide)]; rw [if_pos rfl]
        have d1 := nat_fdiv t1 hbp
        have q1 : (qz n 3 c T 1).natAbs ≤ (T 1 c).toNat / (T 3 c).toNat := by rw [qe 1 (by decide) (by decide), p1]; exact Nat.le_of_eq d1.1
        have v1 : (psT n 0 3 c T 1 c).toNat = (T 1 c).toNat % (T 3 c).toNat := by rw [ps0_T (by decide) c, qe 1 (by decide) (by decide), p1, e0x]; exact d1.2
        have d2 := nat_fdiv t2 hbp
        have q2 : (qz n 3 c T 2).natAbs ≤ (T 2 c).toNat / (T 3 c).toNat := by rw [qe 2 (by decide) (by decide), p2]; exact Nat.le_of_eq d2.1
        have v2 : (psT n 0 3 c T 2 c).toNat = (T 2 c).toNat % (T 3 c).toNat := by rw [ps0_T (by decide) c, qe 2 (by decide) (by decide), p2, e0x]; exact d2.2
        have d3 := nat_fdiv t0 hbp
        have q3 : (qz n 3 c T 3).natAbs ≤ (T 0 c).toNat / (T 3 c).toNat := by rw [qe 3 (by decide) (by decide), p3]; exact Nat.le_of_eq d3.1
        have v3 : (psT n 0 3 c T 3 c).toNat = (T 0 c).toNat % (T 3 c).toNat := by rw [ps0_T (by decide) c, qe 3 (by decide) (by decide), p3, e0x]; exact d3.2
        have hb3x : ∀ x, (T 3 x).natAbs ≤ 9 * s3 := fun x => (hs x).2.2.2
        rw [← v1, ← v2, ← v3] at q
        refine ⟨f, _, _, _, _, _, _, _, _, by rw [top c]; exact q, fun x => ⟨by rw [top x]; exact hb3x x, ?_, ?_, ?_⟩, fun x hx => ?_, fun x hx => ?_, fun x hx => ?_, fun x hx => ?_⟩
        · rw [ps0_T (by decide) x, p1, e0x]
          have := sb (hs x).2.1 (hb3x x) q1
          rw [Nat.mul_add]
          have e9 : (T 1 c).toNat / (T 3 c).toNat * (9 * s3) = 9 * ((T 1 c).toNat / (T 3 c).toNat * s3) := Nat.mul_left_comm _ _ _
          omega
        · rw [ps0_T (by decide) x, p2, e0x]
          have := sb (hs x).2.2.1 (hb3x x) q2
          rw [Nat.mul_add]
          have e9 : (T 2 c).toNat / (T 3 c).toNat * (9 * s3) = 9 * ((T 2 c).toNat / (T 3 c).toNat * s3) := Nat.mul_left_comm _ _ _
          omega
        · rw [ps0_T (by decide) x, p3, e0x]
          have := sb (hs x).1 (hb3x x) q3
          rw [Nat.mul_add]
          have e9 : (T 0 c).toNat / (T 3 c).toNat * (9 * s3) = 9 * ((T 0 c).toNat / (T 3 c).toNat * s3) := Nat.mul_left_comm _ _ _
          omega
        · rw [ps0_N (by omega) h4, n0x, n1, n2, n3]
          exact sb3 (b3 x hx) (b1 x hx) (b2 x hx) (b0 x hx) q1 q2 q3
        · rw [show psN n 0 3 c T N 1 = pvN 0 3 (T 3 c) N 1 from pasN_o (by decide) n, n1]; exact b1 x hx
        · rw [show psN n 0 3 c T N 2 = pvN 0 3 (T 3 c) N 2 from pasN_o (by decide) n, n2]; exact b2 x hx
        · rw [show psN n 0 3 c T N 3 = pvN 0 3 (T 3 c) N 3 from pasN_o (by decide) n, n3]; exact b0 x hx
