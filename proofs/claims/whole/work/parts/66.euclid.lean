/-! dividing out, as a change of two rows -/
def idz : Opc := opc 1 0 0 1 1 0 0 1
/-- one step before z -/
def stz (t : Int) (z : Opc) : Opc := opc z.b (z.a - t * z.b) z.d (z.c - t * z.d) (z.p * t + z.q) z.p (z.r * t + z.s) z.r
def euz : Nat → Int → Int → Opc
  | 0, _, _ => idz
  | k + 1, a, b => if b = 0 then idz else stz (a.fdiv b) (euz k b (a - a.fdiv b * b))
theorem idz_ok : idz.ok := by unfold Opc.ok idz opc Opc.a Opc.b Opc.c Opc.d Opc.p Opc.q Opc.r Opc.s; decide
theorem stz_ok {t : Int} {z : Opc} (h : z.ok) : (stz t z).ok := by
  obtain ⟨⟨a1, a2, a3, a4⟩, ⟨b1, b2, b3, b4⟩, c⟩ := h
  refine ⟨⟨?_, ?_, ?_, ?_⟩, ⟨?_, ?_, ?_, ?_⟩, ?_⟩
  · show z.b * (z.p * t + z.q) + (z.a - t * z.b) * z.p = 1; grind
  · show z.b * (z.r * t + z.s) + (z.a - t * z.b) * z.r = 0; grind
  · show z.d * (z.p * t + z.q) + (z.c - t * z.d) * z.p = 0; grind
  · show z.d * (z.r * t + z.s) + (z.c - t * z.d) * z.r = 1; grind
  · show (z.p * t + z.q) * z.b + (z.r * t + z.s) * z.d = 1; grind
  · show (z.p * t + z.q) * (z.a - t * z.b) + (z.r * t + z.s) * (z.c - t * z.d) = 0; grind
  · show z.p * z.b + z.r * z.d = 0; grind
  · show z.p * (z.a - t * z.b) + z.r * (z.c - t * z.d) = 1; grind
  · show (z.p * t + z.q) * z.r - z.p * (z.r * t + z.s) = 1 ∨ (z.p * t + z.q) * z.r - z.p * (z.r * t + z.s) = -1
    have e : (z.p * t + z.q) * z.r - z.p * (z.r * t + z.s) = - (z.p * z.s - z.q * z.r) := by grind
    rw [e]
    omega
theorem euz_ok : ∀ (k : Nat) (a b : Int), (euz k a b).ok := by
  intro k
  induction k with
  | zero => intro a b; exact idz_ok
  | succ k ih =>
    intro a b
    unfold euz
    by_cases h : b = 0
    · rw [if_pos h]; exact idz_ok
    · rw [if_neg h]; exact stz_ok (ih _ _)
theorem euz_b0 (k : Nat) (a : Int) : euz k a 0 = idz := by
  cases k with
  | zero => rfl
  | succ k => exact if_pos rfl
theorem euz_s {k : Nat} {a b : Int} (h : b ≠ 0) : euz (k + 1) a b = stz (a.fdiv b) (euz k b (a - a.fdiv b * b)) := if_neg h
/-- the rest: under the divisor, on its side -/
theorem rest_pos {a b : Int} (h : 0 < b) : 0 ≤ a - a.fdiv b * b ∧ a - a.fdiv b * b < b := by
  have h1 := Int.fmod_nonneg_of_pos a h
  have h2 := Int.fmod_lt_of_pos a h
  have h3 := Int.mul_fdiv_add_fmod a b
  have h4 := Int.mul_comm b (a.fdiv b)
  omega
theorem rest_neg {a b : Int} (h : b < 0) : a - a.fdiv b * b ≤ 0 ∧ b < a - a.fdiv b * b := by
  have h1 := rest_pos (a := -a) (b := -b) (by omega)
  rw [Int.neg_fdiv_neg, Int.mul_neg] at h1
  omega
theorem rest_abs {a b : Int} (h : b ≠ 0) : (a - a.fdiv b * b).natAbs < b.natAbs := by
  rcases Int.lt_or_gt_of_ne h with q | q
  · have := rest_neg (a := a) q; omega
  · have := rest_pos (a := a) q; omega
theorem rest_half {a b : Int} (h : b ≠ 0) (h1 : a - a.fdiv b * b ≠ 0) : 2 * (b - b.fdiv (a - a.fdiv b * b) * (a - a.fdiv b * b)).natAbs < b.natAbs := by
  have r1 := rest_abs (a := a) h
  have hs : (0 < b ∧ 0 < a - a.fdiv b * b) ∨ (b < 0 ∧ a - a.fdiv b * b < 0) := by
    rcases Int.lt_or_gt_of_ne h with q | q
    · have := rest_neg (a := a) q; omega
    · have := rest_pos (a := a) q; omega
  generalize a - a.fdiv b * b = c at *
  rcases hs with ⟨p, q⟩ | ⟨p, q⟩
  · have r2 := rest_pos (a := b) q
    have hm : 1 ≤ b.fdiv c := by
      rcases Int.lt_or_le (b.fdiv c) 1 with z | z
      · have : b.fdiv c * c ≤ 0 * c := Int.mul_le_mul_of_nonneg_right (by omega) (by omega)
        omega
      · exact z
    have : 1 * c ≤ b.fdiv c * c := Int.mul_le_mul_of_nonneg_right hm (by omega)
    omega
  · have r2 := rest_neg (a := b) q
    have hm : 1 ≤ b.fdiv c := by
      rcases Int.lt_or_le (b.fdiv c) 1 with z | z
      · have : 0 * c ≤ b.fdiv c * c := Int.mul_le_mul_of_nonpos_right (by omega) (by omega)
        omega
      · exact z
    have : b.fdiv c * c ≤ 1 * c := Int.mul_le_mul_of_nonpos_right hm (by omega)
    omega
/-- the lower row's number comes to 0 -/
theorem euz_zero : ∀ (m k : Nat) (a b : Int), b.natAbs < 2 ^ m → 2 * m ≤ k → (euz k a b).c * a + (euz k a b).d * b = 0 := by
  intro m
  induction m with
  | zero =>
    intro k a b hb _
    have : b = 0 := by simp at hb; omega
    subst this
    rw [euz_b0]
    show 0 * a + 1 * (0 : Int) = 0
    omega
  | succ m ih =>
    intro k a b hb hk
    by_cases h : b = 0
    · subst h
      rw [euz_b0]
      show 0 * a + 1 * (0 : Int) = 0
      omega
    · obtain ⟨k, rfl⟩ : ∃ k', k = k' + 2 := ⟨k - 2, by omega⟩
      rw [show k + 2 = (k + 1) + 1 from rfl, euz_s h]
      show (euz (k + 1) b (a - a.fdiv b * b)).d * a + ((euz (k + 1) b (a - a.fdiv b * b)).c - a.fdiv b * (euz (k + 1) b (a - a.fdiv b * b)).d) * b = 0
      have e : ∀ x y : Int, y * a + (x - a.fdiv b * y) * b = x * b + y * (a - a.fdiv b * b) := fun x y => by grind
      rw [e]
      by_cases h1 : a - a.fdiv b * b = 0
      · rw [h1, euz_b0]
        show 0 * b + 1 * (0 : Int) = 0
        omega
      · have hh := rest_half h h1
        generalize a - a.fdiv b * b = c at *
        rw [euz_s h1]
        show (euz k c (b - b.fdiv c * c)).d * b + ((euz k c (b - b.fdiv c * c)).c - b.fdiv c * (euz k c (b - b.fdiv c * c)).d) * c = 0
        have e2 : ∀ x y : Int, y * b + (x - b.fdiv c * y) * c = x * c + y * (b - b.fdiv c * c) := fun x y => by grind
        rw [e2]
        exact ih k c _ (by rw [Nat.pow_succ] at hb; omega) (by omega)
theorem euz_zero200 {a b : Int} (hb : fit b) : (euz 200 a b).c * a + (euz 200 a b).d * b = 0 := euz_zero 64 200 a b (by unfold fit at hb; have : (2 : Nat) ^ 64 = 18446744073709551616 := rfl; omega) (by decide)
/-- the number that is left in the upper row -/
def eug (k : Nat) (a b : Int) : Int := (euz k a b).a * a + (euz k a b).b * b
theorem euz_p {k : Nat} {a b : Int} (h0 : (euz k a b).c * a + (euz k a b).d * b = 0) : (euz k a b).p * eug k a b = a ∧ (euz k a b).q * eug k a b = b := by
  obtain ⟨-, ⟨b1, b2, b3, b4⟩, -⟩ := euz_ok k a b
  unfold eug
  constructor
  · have e : (euz k a b).p * ((euz k a b).a * a + (euz k a b).b * b) + (euz k a b).r * ((euz k a b).c * a + (euz k a b).d * b) = ((euz k a b).p * (euz k a b).a + (euz k a b).r * (euz k a b).c) * a + ((euz k a b).p * (euz k a b).b + (euz k a b).r * (euz k a b).d) * b := by grind
    rw [h0, b1, b2] at e
    omega
  · have e : (euz k a b).q * ((euz k a b).a * a + (euz k a b).b * b) + (euz k a b).s * ((euz k a b).c * a + (euz k a b).d * b) = ((euz k a b).q * (euz k a b).a + (euz k a b).s * (euz k a b).c) * a + ((euz k a b).q * (euz k a b).b + (euz k a b).s * (euz k a b).d) * b := by grind
    rw [h0, b3, b4] at e
    omega
theorem euz_same : ∀ (k : Nat) (a b : Int), (0 < a ∧ 0 < b) ∨ (a < 0 ∧ b < 0) → 0 ≤ (euz k a b).r ∧ (euz k a b).r ≤ a.natAbs ∧ 0 ≤ (euz k a b).s ∧ (euz k a b).s ≤ b.natAbs := by
  intro k
  induction k with
  | zero =>
    intro a b h
    show (0 : Int) ≤ 0 ∧ (0 : Int) ≤ a.natAbs ∧ (0 : Int) ≤ 1 ∧ (1 : Int) ≤ b.natAbs
    omega
  | succ k ih =>
    intro a b h
    have hb : b ≠ 0 := by omega
    rw [euz_s hb]
    show 0 ≤ (euz k b (a - a.fdiv b * b)).r * a.fdiv b + (euz k b (a - a.fdiv b * b)).s ∧ (euz k b (a - a.fdiv b * b)).r * a.fdiv b + (euz k b (a - a.fdiv b * b)).s ≤ a.natAbs ∧ 0 ≤ (euz k b (a - a.fdiv b * b)).r ∧ (euz k b (a - a.fdiv b * b)).r ≤ b.natAbs
    by_cases h1 : a - a.fdiv b * b = 0
    · rw [h1, euz_b0]
      show 0 ≤ 0 * a.fdiv b + 1 ∧ 0 * a.fdiv b + 1 ≤ (a.natAbs : Int) ∧ (0 : Int) ≤ 0 ∧ (0 : Int) ≤ b.natAbs
      omega
    · have ht : 0 ≤ a.fdiv b := by
        rcases h with ⟨p, q⟩ | ⟨p, q⟩
        · exact Int.fdiv_nonneg (by omega) (by omega)
        · rw [← Int.neg_fdiv_neg]; exact Int.fdiv_nonneg (by omega) (by omega)
      have hn : (0 < b ∧ 0 < a - a.fdiv b * b) ∨ (b < 0 ∧ a - a.fdiv b * b < 0) := by
        rcases h with ⟨p, q⟩ | ⟨p, q⟩
        · have := rest_pos (a := a) q; omega
        · have := rest_neg (a := a) q; omega
      obtain ⟨i1, i2, i3, i4⟩ := ih b (a - a.fdiv b * b) hn
      have m1 : 0 * a.fdiv b ≤ (euz k b (a - a.fdiv b * b)).r * a.fdiv b := Int.mul_le_mul_of_nonneg_right i1 ht
      have m2 : (euz k b (a - a.fdiv b * b)).r * a.fdiv b ≤ b.natAbs * a.fdiv b := Int.mul_le_mul_of_nonneg_right i2 ht
      refine ⟨by omega, ?_, i1, i2⟩
      rcases h with ⟨p, q⟩ | ⟨p, q⟩
      · have e : (b.natAbs : Int) = b := by omega
        rw [e] at m2
        have := Int.mul_comm b (a.fdiv b)
        omega
      · have e : (b.natAbs : Int) = -b := by omega
        rw [e, Int.neg_mul] at m2
        have := Int.mul_comm b (a.fdiv b)
        omega
/-- the undoing's bounds -/
theorem euz_rs {k : Nat} {a b : Int} (h0 : (euz k a b).c * a + (euz k a b).d * b = 0) : (euz k a b).r.natAbs ≤ a.natAbs + 1 ∧ (euz k a b).s.natAbs ≤ b.natAbs + 1 := by
  by_cases hb : b = 0
  · subst hb
    rw [euz_b0]
    show (0 : Int).natAbs ≤ a.natAbs + 1 ∧ (1 : Int).natAbs ≤ (0 : Int).natAbs + 1
    omega
  · cases k with
    | zero =>
      exfalso
      have h1 : 0 * a + 1 * b = 0 := h0
      omega
    | succ k =>
      have hs : (euz (k + 1) a b).s.natAbs ≤ b.natAbs := by
        rw [euz_s hb]
        show (euz k b (a - a.fdiv b * b)).r.natAbs ≤ b.natAbs
        by_cases h1 : a - a.fdiv b * b = 0
        · rw [h1, euz_b0]
          show (0 : Int).natAbs ≤ b.natAbs
          omega
        · have hn : (0 < b ∧ 0 < a - a.fdiv b * b) ∨ (b < 0 ∧ a - a.fdiv b * b < 0) := by
            rcases Int.lt_or_gt_of_ne hb with q | q
            · have := rest_neg (a := a) q; omega
            · have := rest_pos (a := a) q; omega
          have := euz_same k b (a - a.fdiv b * b) hn
          omega
      refine ⟨?_, by omega⟩
      obtain ⟨hp, hq⟩ := euz_p h0
      have hok := (euz_ok (k + 1) a b).2.2
      generalize euz (k + 1) a b = z at *
      generalize eug (k + 1) a b = g at *
      have hg : g.natAbs ≤ b.natAbs := by
        have : z.q ≠ 0 := fun q => hb (by rw [← hq, q]; omega)
        have e := congrArg Int.natAbs hq
        rw [Int.natAbs_mul] at e
        have : 1 * g.natAbs ≤ z.q.natAbs * g.natAbs := Nat.mul_le_mul_right _ (by omega)
        omega
      have hd : (a * z.s - b * z.r).natAbs = g.natAbs := by
        have e : a * z.s - b * z.r = (z.p * z.s - z.q * z.r) * g := by
          have e1 : (z.p * z.s - z.q * z.r) * g = (z.p * g) * z.s - (z.q * g) * z.r := by grind
          rw [e1, hp, hq]
        rw [e, Int.natAbs_mul]
        rcases hok with f | f <;> rw [f] <;> simp
      have h2 : (b * z.r).natAbs ≤ (a * z.s).natAbs + g.natAbs := by omega
      rw [Int.natAbs_mul, Int.natAbs_mul] at h2
      have h3 : a.natAbs * z.s.natAbs ≤ a.natAbs * b.natAbs := Nat.mul_le_mul_left _ hs
      have h4 : b.natAbs * z.r.natAbs ≤ b.natAbs * (a.natAbs + 1) := by
        rw [Nat.mul_add, Nat.mul_comm b.natAbs a.natAbs]; omega
      exact Nat.le_of_mul_le_mul_left h4 (by omega)
theorem eug_le {k : Nat} {a b : Int} (h0 : (euz k a b).c * a + (euz k a b).d * b = 0) : (eug k a b).natAbs ≤ a.natAbs ∨ (eug k a b).natAbs ≤ b.natAbs := by
  obtain ⟨hp, hq⟩ := euz_p h0
  by_cases hb : b = 0
  · subst hb
    left
    unfold eug
    rw [euz_b0]
    show (1 * a + 0 * (0 : Int)).natAbs ≤ a.natAbs
    omega
  · right
    have : (euz k a b).q ≠ 0 := fun q => hb (by rw [← hq, q]; omega)
    have e := congrArg Int.natAbs hq
    rw [Int.natAbs_mul] at e
    have : 1 * (eug k a b).natAbs ≤ (euz k a b).q.natAbs * (eug k a b).natAbs := Nat.mul_le_mul_right _ (by omega)
    omega
def smallz (z : Opc) : Bool := decide (z.a.natAbs ≤ 4 ∧ z.b.natAbs ≤ 5 ∧ z.a.natAbs + z.b.natAbs ≤ 7 ∧ z.c.natAbs ≤ 9 ∧ z.d.natAbs ≤ 9 ∧ z.c.natAbs + z.d.natAbs ≤ 17)
set_option maxRecDepth 100000 in
theorem euz_tab : ((List.range 19).all fun i => (List.range 19).all fun j => smallz (euz 200 ((i : Int) - 9) ((j : Int) - 9))) = true := by decide
theorem euz_small {a b : Int} (ha : a.natAbs ≤ 9) (hb : b.natAbs ≤ 9) : let z := euz 200 a b; z.a.natAbs ≤ 4 ∧ z.b.natAbs ≤ 5 ∧ z.a.natAbs + z.b.natAbs ≤ 7 ∧ z.c.natAbs ≤ 9 ∧ z.d.natAbs ≤ 9 ∧ z.c.natAbs + z.d.natAbs ≤ 17 := by
  have h1 := List.all_eq_true.mp euz_tab (a + 9).toNat (List.mem_range.mpr (by omega))
  have h2 := List.all_eq_true.mp h1 (b + 9).toNat (List.mem_range.mpr (by omega))
  rw [show (((a + 9).toNat : Nat) : Int) - 9 = a from by omega, show (((b + 9).toNat : Nat) : Int) - 9 = b from by omega] at h2
  exact of_decide_eq_true h2
