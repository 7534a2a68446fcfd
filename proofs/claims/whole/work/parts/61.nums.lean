/-! Int64 as integers modulo 2^64 -/
abbrev oI (a : Int) : Int64 := Int64.ofInt a
/-- fits: strictly inside the 64 bits -/
def fit (a : Int) : Prop := -9223372036854775808 < a ∧ a < 9223372036854775808
theorem oI_toInt {a : Int} (h : fit a) : (oI a).toInt = a := Int64.toInt_ofInt_of_le (by have := h.1; omega) (by have := h.2; omega)
theorem oI_ne_min {a : Int} (h : fit a) : oI a ≠ Int64.minValue := fun e => by
  have h1 := oI_toInt h
  rw [e] at h1
  have h2 : Int64.minValue.toInt = -9223372036854775808 := rfl
  have := h.1
  omega
theorem oI_eq0 {a : Int} (h : fit a) : oI a = 0 ↔ a = 0 := by
  constructor
  · intro e
    have h1 := oI_toInt h
    rw [e] at h1
    exact h1.symm
  · intro e; subst e; rfl
theorem oI_lt0 {a : Int} (h : fit a) : oI a < 0 ↔ a < 0 := by
  rw [Int64.lt_iff_toInt_lt, oI_toInt h]; rfl
theorem oI_lt {a b : Int} (ha : fit a) (hb : fit b) : oI a < oI b ↔ a < b := by
  rw [Int64.lt_iff_toInt_lt, oI_toInt ha, oI_toInt hb]
theorem xor_lt0 (x y : Int64) : (x ^^^ y) < 0 ↔ ((x.toInt < 0 ∧ ¬ y.toInt < 0) ∨ (¬ x.toInt < 0 ∧ y.toInt < 0)) := by
  rw [Int64.lt_iff_toInt_lt]
  show (x ^^^ y).toBitVec.toInt < 0 ↔ ((x.toBitVec.toInt < 0 ∧ ¬ y.toBitVec.toInt < 0) ∨ (¬ x.toBitVec.toInt < 0 ∧ y.toBitVec.toInt < 0))
  have h1 : (x ^^^ y).toBitVec.msb = (x.toBitVec.msb ^^ y.toBitVec.msb) := by rw [Int64.toBitVec_xor, BitVec.msb_xor]
  rw [BitVec.msb_eq_toInt, BitVec.msb_eq_toInt, BitVec.msb_eq_toInt] at h1
  generalize (x ^^^ y).toBitVec.toInt = u at h1 ⊢
  generalize x.toBitVec.toInt = v at h1 ⊢
  generalize y.toBitVec.toInt = w at h1 ⊢
  by_cases p : u < 0 <;> by_cases q : v < 0 <;> by_cases r : w < 0 <;> simp [p, q, r] at h1 ⊢
theorem tdiv_fit {a b : Int} (h : fit a) : fit (a.tdiv b) := by
  have h1 : (a.tdiv b).natAbs ≤ a.natAbs := by rw [Int.natAbs_tdiv]; exact Nat.div_le_self _ _
  unfold fit at *
  omega
theorem oI_div {a b : Int} (ha : fit a) (hb : fit b) : oI a / oI b = oI (a.tdiv b) := by
  apply Int64.toInt_inj.mp
  rw [Int64.toInt_div_of_ne_left _ _ (oI_ne_min ha), oI_toInt ha, oI_toInt hb, oI_toInt (tdiv_fit ha)]
theorem tdiv_mul_fit {a b : Int} (h : fit a) : fit (a.tdiv b * b) := by
  have h1 : (a.tdiv b * b).natAbs ≤ a.natAbs := by rw [Int.natAbs_mul, Int.natAbs_tdiv]; exact Nat.div_mul_le_self _ _
  unfold fit at *
  omega
theorem oI_inj {a b : Int} (ha : fit a) (hb : fit b) : oI a = oI b ↔ a = b := ⟨fun e => by rw [← oI_toInt ha, ← oI_toInt hb, e], fun e => by rw [e]⟩
/-- Math.floorDiv is the floor -/
theorem fd64_oI {a b : Int} (ha : fit a) (hb : fit b) (h0 : b ≠ 0) : fd64 (oI a) (oI b) = oI (a.fdiv b) := by
  unfold fd64
  rw [oI_div ha hb]
  have e1 : oI (a.tdiv b) * oI b = oI (a.tdiv b * b) := (Int64.ofInt_mul _ _).symm
  rw [e1]
  have hm := Int.mul_tdiv_add_tmod a b
  have hc : oI (a.tdiv b * b) = oI a ↔ b ∣ a := by
    rw [oI_inj (tdiv_mul_fit ha) ha]
    constructor
    · intro e; exact ⟨a.tdiv b, by rw [Int.mul_comm]; exact e.symm⟩
    · intro e; exact Int.tdiv_mul_cancel e
  by_cases hd : b ∣ a
  · rw [if_pos (hc.mpr hd)]
    have h3 : a.fdiv b = a.tdiv b := by rw [Int.fdiv_eq_ediv_of_dvd hd, Int.tdiv_eq_ediv_of_dvd hd]
    rw [h3]
    split <;> rfl
  · rw [if_neg (fun q => hd (hc.mp q))]
    rw [Int.fdiv_eq_tdiv, if_neg hd]
    have hs1 : b < 0 → b.sign = -1 := Int.sign_eq_neg_one_of_neg
    have hs2 : 0 < b → b.sign = 1 := Int.sign_eq_one_of_pos
    by_cases hx : (oI a ^^^ oI b) < 0
    · rw [if_pos hx]
      rw [xor_lt0, oI_toInt ha, oI_toInt hb] at hx
      have e2 : oI (a.tdiv b) - 1 = oI (a.tdiv b - 1) := (Int64.ofInt_sub (a.tdiv b) 1).symm
      rw [e2]
      congr 1
      by_cases p : 0 ≤ a <;> by_cases q : 0 ≤ b <;> simp only [p, q, if_true, if_false, ite_true, ite_false] <;> omega
    · rw [if_neg hx]
      rw [xor_lt0, oI_toInt ha, oI_toInt hb] at hx
      congr 1
      by_cases p : 0 ≤ a <;> by_cases q : 0 ≤ b <;> simp only [p, q, if_true, if_false, ite_true, ite_false] <;> omega
/-- the model's down is the floor where the divisor is over 0 -/
theorem dn64_oI {a b : Int} (ha : fit a) (hb : fit b) (h0 : 0 < b) : dn64 (oI a) (oI b) = oI (a.fdiv b) := by
  unfold dn64
  rw [oI_div ha hb]
  have e1 : oI (a.tdiv b) * oI b = oI (a.tdiv b * b) := (Int64.ofInt_mul _ _).symm
  rw [e1]
  have hlt := oI_lt ha (tdiv_mul_fit (b := b) ha)
  have hs2 : b.sign = 1 := Int.sign_eq_one_of_pos h0
  have hm := Int.mul_tdiv_add_tmod a b
  have hcm := Int.mul_comm b (a.tdiv b)
  by_cases hd : b ∣ a
  · have h3 : a.fdiv b = a.tdiv b := by rw [Int.fdiv_eq_ediv_of_dvd hd, Int.tdiv_eq_ediv_of_dvd hd]
    have h4 := Int.tdiv_mul_cancel hd
    rw [if_neg (fun q => by have := hlt.mp q; omega), h3]
  · rw [Int.fdiv_eq_tdiv, if_neg hd]
    have hne : a.tmod b ≠ 0 := fun q => hd (Int.dvd_of_tmod_eq_zero q)
    by_cases p : 0 ≤ a
    · have h5 := Int.tmod_nonneg b p
      rw [if_neg (fun q => by have := hlt.mp q; omega)]
      simp only [p, show (0 ≤ b) from by omega, if_true, ite_true]
      congr 1
      omega
    · have h5 : a.tmod b ≤ 0 := by
        have := Int.tmod_nonneg (a := -a) b (by omega)
        rw [Int.neg_tmod] at this
        omega
      rw [if_pos (hlt.mpr (by omega))]
      have e2 : oI (a.tdiv b) - 1 = oI (a.tdiv b - 1) := (Int64.ofInt_sub (a.tdiv b) 1).symm
      rw [e2]
      congr 1
      simp only [p, show (0 ≤ b) from by omega, if_true, if_false, ite_true, ite_false]
      omega
