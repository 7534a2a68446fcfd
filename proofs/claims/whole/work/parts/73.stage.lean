/-! what a stage of the model does to the columns -/
theorem fd_mul {a b : Int} (h : b ≠ 0) : (a.fdiv b).natAbs * b.natAbs ≤ a.natAbs + b.natAbs := by
  have h1 := rest_abs (a := a) h
  rw [← Int.natAbs_mul]
  omega
theorem first_N {n k b c v V : Nat} {T N : Nat → Nat → Int} (hk : k < n) (hkb : k ≤ b) (hb : b < n) (hN : ∀ j, k ≤ j → j < n → bd (N j) v) (hT : ∀ j, k ≤ j → j < n → (T j c).natAbs ≤ V) (h0 : T b c ≠ 0) :
    (∀ r, k < r → r < n → bd (psN n k b c T N r) v) ∧ ∀ x, x < 4 → (T b c).natAbs * (psN n k b c T N k x).natAbs ≤ v * (T b c).natAbs + (n - (k + 1)) * (v * V + v * (T b c).natAbs) := by
  have hpc : (pvT k b c T k c).natAbs = (T b c).natAbs := by
    have := (ps_topc (n := n) (k := k) (b := b) (c := c) h0).2
    rw [show psT n k b c T k c = pvT k b c T k c from pasT_k] at this; exact this
  have hp0 : pvT k b c T k c ≠ 0 := by omega
  have v1 : ∀ r, k < r → r < n → bd (pvN k b (T b c) N r) v := fun r h1 h2 x hx => by
    unfold pvN
    rw [if_neg (by omega)]
    by_cases q : r = b
    · rw [if_pos q]; exact hN k (Nat.le_refl _) hk x hx
    · rw [if_neg q]; exact hN r (by omega) h2 x hx
  have v2 : ∀ r, k < r → r < n → (pvT k b c T r c).natAbs ≤ V := fun r h1 h2 => by
    unfold pvT
    rw [if_neg (by omega)]
    by_cases q : r = b
    · rw [if_pos q]; exact hT k (Nat.le_refl _) hk
    · rw [if_neg q]; exact hT r (by omega) h2
  refine ⟨fun r h1 h2 => by rw [show psN n k b c T N r = pvN k b (T b c) N r from pasN_o (by omega) n]; exact v1 r h1 h2, fun x hx => ?_⟩
  have gen : ∀ q, q ≤ n → (T b c).natAbs * (pasN k c (pvT k b c T) (pvN k b (T b c) N) q k x).natAbs ≤ v * (T b c).natAbs + (q - (k + 1)) * (v * V + v * (T b c).natAbs) := by
    intro q
    induction q with
    | zero =>
      intro _
      have e : (pvN k b (T b c) N k x).natAbs ≤ v := by
        unfold pvN
        rw [if_pos rfl]
        have := hN b hkb hb x hx
        split <;> omega
      have e2 := Nat.mul_le_mul_left (T b c).natAbs e
      rw [Nat.mul_comm v]
      show (T b c).natAbs * (pvN k b (T b c) N k x).natAbs ≤ _
      omega
    | succ q ih =>
      intro hq
      have i1 := ih (by omega)
      rw [pasN_k]
      by_cases z : k < q
      · rw [if_pos z]
        have a1 := na_add (pasN k c (pvT k b c T) (pvN k b (T b c) N) q k x) ((pvT k b c T q c).fdiv (pvT k b c T k c) * pvN k b (T b c) N q x)
        rw [Int.natAbs_mul] at a1
        have a2 := Nat.mul_le_mul_left (T b c).natAbs a1
        rw [Nat.mul_add] at a2
        have a3 := fd_mul (a := pvT k b c T q c) hp0
        rw [hpc] at a3
        have a4 := v2 q z (by omega)
        have a5 : (T b c).natAbs * (((pvT k b c T q c).fdiv (pvT k b c T k c)).natAbs * (pvN k b (T b c) N q x).natAbs) ≤ (V + (T b c).natAbs) * v := by
          rw [← Nat.mul_assoc, Nat.mul_comm (T b c).natAbs]
          exact Nat.mul_le_mul (by omega) (v1 q z (by omega) x hx)
        rw [Nat.add_mul, Nat.mul_comm V, Nat.mul_comm (T b c).natAbs v] at a5
        have e3 : q + 1 - (k + 1) = (q - (k + 1)) + 1 := by omega
        rw [e3, Nat.add_mul, Nat.one_mul]
        omega
      · rw [if_neg z]
        have e3 : q + 1 - (k + 1) = 0 := by omega
        have e4 : q - (k + 1) = 0 := by omega
        rw [e4] at i1
        rw [e3]
        exact i1
  exact gen n (Nat.le_refl _)
theorem end_N {n k c v V p : Nat} {P : Int} {T1 T N m N1 : Nat → Nat → Int} (hk : k < n) (hn : n ≤ 4) (hc : cmb N m N1) (g : Gm n k c P T1 T m) (hP : P = p) (hpV : p ≤ V) (h1 : ∀ r, k < r → r < n → bd (N1 r) v) (h2 : ∀ x, x < 4 → p * (N1 k x).natAbs ≤ v * p + (n - (k + 1)) * (v * V + v * p)) :
    ∀ r, k ≤ r → r < n → bd (N r) ((3 * (n - k) - 2) * (v * V)) := by
  intro r hr1 hr2 x hx
  obtain ⟨-, -, g3, g4, -⟩ := g
  have hAB : v * p ≤ v * V := Nat.mul_le_mul_left _ hpV
  have tin : ∀ l, k ≤ l → l < n → (m r l * N1 l x).natAbs ≤ p * (N1 l x).natAbs := fun l a b => by
    have := g3 r l hr1 hr2 a b
    exact na_mul (by omega) (Nat.le_refl _)
  have tk := Nat.le_trans (tin k (Nat.le_refl _) hk) (h2 x hx)
  have tl : ∀ l, k < l → l < n → (m r l * N1 l x).natAbs ≤ v * p := fun l a b => by
    have := Nat.le_trans (tin l (by omega) b) (Nat.mul_le_mul_left p (h1 l a b x hx))
    rw [Nat.mul_comm v]; exact this
  have tz : ∀ l, ¬ (k ≤ l ∧ l < n) → (m r l * N1 l x).natAbs = 0 := fun l a => by rw [g4 r l hr1 hr2 a]; simp
  have s1 := na_add (m r 0 * N1 0 x + m r 1 * N1 1 x + m r 2 * N1 2 x) (m r 3 * N1 3 x)
  have s2 := na_add (m r 0 * N1 0 x + m r 1 * N1 1 x) (m r 2 * N1 2 x)
  have s3 := na_add (m r 0 * N1 0 x) (m r 1 * N1 1 x)
  rw [hc r x (by omega)]
  generalize v * p = A at *
  generalize v * V = B at *
  have hcase : (k = 0 ∧ n = 1) ∨ (k = 0 ∧ n = 2) ∨ (k = 0 ∧ n = 3) ∨ (k = 0 ∧ n = 4) ∨ (k = 1 ∧ n = 2) ∨ (k = 1 ∧ n = 3) ∨ (k = 1 ∧ n = 4) ∨ (k = 2 ∧ n = 3) ∨ (k = 2 ∧ n = 4) ∨ (k = 3 ∧ n = 4) := by omega
  rcases hcase with ⟨rfl, rfl⟩ | ⟨rfl, rfl⟩ | ⟨rfl, rfl⟩ | ⟨rfl, rfl⟩ | ⟨rfl, rfl⟩ | ⟨rfl, rfl⟩ | ⟨rfl, rfl⟩ | ⟨rfl, rfl⟩ | ⟨rfl, rfl⟩ | ⟨rfl, rfl⟩
  · have y1 := tz 1 (by decide); have y2 := tz 2 (by decide); have y3 := tz 3 (by decide)
    simp only [Nat.reduceAdd, Nat.reduceSub, Nat.reduceMul, Nat.zero_mul, Nat.one_mul] at tk ⊢
    omega
  · have y1 := tl 1 (by decide) (by decide); have y2 := tz 2 (by decide); have y3 := tz 3 (by decide)
    simp only [Nat.reduceAdd, Nat.reduceSub, Nat.reduceMul, Nat.zero_mul, Nat.one_mul] at tk ⊢
    omega
  · have y1 := tl 1 (by decide) (by decide); have y2 := tl 2 (by decide) (by decide); have y3 := tz 3 (by decide)
    simp only [Nat.reduceAdd, Nat.reduceSub, Nat.reduceMul, Nat.zero_mul, Nat.one_mul] at tk ⊢
    omega
  · have y1 := tl 1 (by decide) (by decide); have y2 := tl 2 (by decide) (by decide); have y3 := tl 3 (by decide) (by decide)
    simp only [Nat.reduceAdd, Nat.reduceSub, Nat.reduceMul, Nat.zero_mul, Nat.one_mul] at tk ⊢
    omega
  · have y0 := tz 0 (by decide); have y2 := tz 2 (by decide); have y3 := tz 3 (by decide)
    simp only [Nat.reduceAdd, Nat.reduceSub, Nat.reduceMul, Nat.zero_mul, Nat.one_mul] at tk ⊢
    omega
  · have y0 := tz 0 (by decide); have y2 := tl 2 (by decide) (by decide); have y3 := tz 3 (by decide)
    simp only [Nat.reduceAdd, Nat.reduceSub, Nat.reduceMul, Nat.zero_mul, Nat.one_mul] at tk ⊢
    omega
  · have y0 := tz 0 (by decide); have y2 := tl 2 (by decide) (by decide); have y3 := tl 3 (by decide) (by decide)
    simp only [Nat.reduceAdd, Nat.reduceSub, Nat.reduceMul, Nat.zero_mul, Nat.one_mul] at tk ⊢
    omega
  · have y0 := tz 0 (by decide); have y1 := tz 1 (by decide); have y3 := tz 3 (by decide)
    simp only [Nat.reduceAdd, Nat.reduceSub, Nat.reduceMul, Nat.zero_mul, Nat.one_mul] at tk ⊢
    omega
  · have y0 := tz 0 (by decide); have y1 := tz 1 (by decide); have y3 := tl 3 (by decide) (by decide)
    simp only [Nat.reduceAdd, Nat.reduceSub, Nat.reduceMul, Nat.zero_mul, Nat.one_mul] at tk ⊢
    omega
  · have y0 := tz 0 (by decide); have y1 := tz 1 (by decide); have y2 := tz 2 (by decide)
    simp only [Nat.reduceAdd, Nat.reduceSub, Nat.reduceMul, Nat.zero_mul, Nat.one_mul] at tk ⊢
    omega
/-! the first stage, tried -/
def trk : Nat → Nat → Nat → Nat → Nat → Nat → Nat → Nat → Nat → Nat → Nat → Nat → Nat → Bool
  | 0, _, _, _, _, _, _, _, _, _, _, _, _ => false
  | f + 1, v0, v1, v2, v3, s0, s1, s2, s3, u0, u1, u2, u3 => if v1 = 0 ∧ v2 = 0 ∧ v3 = 0 then decide (s0 ≤ 33 ∧ s1 ≤ 33 ∧ s2 ≤ 33 ∧ s3 ≤ 33 ∧ u1 ≤ 31 ∧ u2 ≤ 31 ∧ u3 ≤ 31)
    else (decide (v1 = 0) || decide (v2 ≠ 0 ∧ v2 < v1) || decide (v3 ≠ 0 ∧ v3 < v1) || trk f v1 (v0 % v1) (v2 % v1) (v3 % v1) s1 (s0 + v0 / v1 * s1) (s2 + v2 / v1 * s1) (s3 + v3 / v1 * s1) (u1 + v0 / v1 * u0 + v2 / v1 * u2 + v3 / v1 * u3) u0 u2 u3) && ((decide (v2 = 0) || decide (v1 ≠ 0 ∧ v1 < v2) || decide (v3 ≠ 0 ∧ v3 < v2) || trk f v2 (v1 % v2) (v0 % v2) (v3 % v2) s2 (s1 + v1 / v2 * s2) (s0 + v0 / v2 * s2) (s3 + v3 / v2 * s2) (u2 + v1 / v2 * u1 + v0 / v2 * u0 + v3 / v2 * u3) u1 u0 u3) && (decide (v3 = 0) || decide (v1 ≠ 0 ∧ v1 < v3) || decide (v2 ≠ 0 ∧ v2 < v3) || trk f v3 (v1 % v3) (v2 % v3) (v0 % v3) s3 (s1 + v1 / v3 * s3) (s2 + v2 / v3 * s3) (s0 + v0 / v3 * s3) (u3 + v1 / v3 * u1 + v2 / v3 * u2 + v0 / v3 * u0) u1 u2 u0))
def trk0 (p a b c : Nat) : Bool := trk 6 p a b c 1 (1 + (9 + a) / p) (1 + (9 + b) / p) (1 + (9 + c) / p) (1 + (9 + a) / p + (9 + b) / p + (9 + c) / p) 1 1 1
theorem trk_tab : ((List.range 10).all fun p => (List.range p).all fun a => (List.range p).all fun b => (List.range p).all fun c => trk0 p a b c) = true := by decide +kernel
theorem trk_at {p a b c : Nat} (hp : p ≤ 9) (ha : a < p) (hb : b < p) (hc : c < p) : trk0 p a b c = true := by
  have h1 := List.all_eq_true.mp trk_tab p (List.mem_range.mpr (by omega))
  have h2 := List.all_eq_true.mp h1 a (List.mem_range.mpr ha)
  have h3 := List.all_eq_true.mp h2 b (List.mem_range.mpr hb)
  exact List.all_eq_true.mp h3 c (List.mem_range.mpr hc)
