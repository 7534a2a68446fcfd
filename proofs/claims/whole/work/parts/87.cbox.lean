/-! the class counts by turns -/
theorem le_fd_pos {a b t : Int} (h : 0 < b) : t ≤ a.fdiv b ↔ t * b ≤ a := by
  have r := rest_pos (a := a) h
  generalize a.fdiv b = q at *
  constructor
  · intro h1
    have := Int.mul_le_mul_of_nonneg_right h1 (show 0 ≤ b by omega)
    omega
  · intro h1
    rcases Int.lt_or_le q t with z | z
    · have := Int.mul_le_mul_of_nonneg_right (show q + 1 ≤ t by omega) (show 0 ≤ b by omega)
      rw [Int.add_mul] at this
      omega
    · exact z
theorem le_fd_neg {a b t : Int} (h : b < 0) : t ≤ a.fdiv b ↔ a ≤ t * b := by
  rw [← Int.neg_fdiv_neg a b, le_fd_pos (show 0 < -b by omega), Int.mul_neg]
  omega
theorem na_fdiv {a b : Int} (h : b ≠ 0) : (a.fdiv b).natAbs ≤ a.natAbs + 1 := by
  have key : ∀ {a b : Int}, 0 < b → (a.fdiv b).natAbs ≤ a.natAbs + 1 := fun {a b} hb => by
    have r := rest_pos (a := a) hb
    generalize a.fdiv b = q at *
    have e : (q * b).natAbs = q.natAbs * b.natAbs := Int.natAbs_mul q b
    rcases Int.lt_or_le q 0 with z | z
    · have h1 : (q + 1) * b ≤ (q + 1) * 1 ∨ q + 1 = 0 := by
        by_cases y : q + 1 = 0
        · exact .inr y
        · exact .inl (Int.mul_le_mul_of_nonpos_left (show q + 1 ≤ 0 by omega) (show 1 ≤ b by omega))
      rw [Int.add_mul] at h1
      omega
    · have : q * 1 ≤ q * b := Int.mul_le_mul_of_nonneg_left (show 1 ≤ b by omega) z
      omega
  rcases Int.lt_or_le 0 b with z | z
  · exact key z
  · have := key (a := -a) (b := -b) (by omega)
    rw [Int.neg_fdiv_neg] at this
    omega
def ltz (lo hi sp nw ls : Int) : Int := if sp = 0 then (if nw < lo then 1000000000000000 else if hi < nw then 1000000000000000 else ls) else if (-((nw - (if 0 < sp then lo else hi)).fdiv sp)) < ls then ls else -((nw - (if 0 < sp then lo else hi)).fdiv sp)
def mtz (lo hi sp nw ms : Int) : Int := if sp = 0 then ms else if ((if 0 < sp then hi else lo) - nw).fdiv sp < ms then ((if 0 < sp then hi else lo) - nw).fdiv sp else ms
def lowc (lo hi sp nw t : Int) : Prop := (0 < sp → lo ≤ nw + t * sp) ∧ (sp < 0 → nw + t * sp ≤ hi) ∧ (sp = 0 → lo ≤ nw ∧ nw ≤ hi)
def upc (lo hi sp nw t : Int) : Prop := (0 < sp → nw + t * sp ≤ hi) ∧ (sp < 0 → lo ≤ nw + t * sp)
theorem ltz_iff {lo hi sp nw ls t : Int} (ht : t < 1000000000000000) : ltz lo hi sp nw ls ≤ t ↔ ls ≤ t ∧ lowc lo hi sp nw t := by
  unfold ltz lowc
  by_cases h : sp = 0
  · rw [if_pos h]
    by_cases h1 : nw < lo
    · rw [if_pos h1]; constructor
      · intro z; omega
      · rintro ⟨z1, z2, z3, z4⟩; have := z4 h; omega
    · rw [if_neg h1]
      by_cases h2 : hi < nw
      · rw [if_pos h2]; constructor
        · intro z; omega
        · rintro ⟨z1, z2, z3, z4⟩; have := z4 h; omega
      · rw [if_neg h2]
        exact ⟨fun z => ⟨z, fun y => by omega, fun y => by omega, fun _ => by omega⟩, fun z => z.1⟩
  · rw [if_neg h]
    have key : -((nw - (if 0 < sp then lo else hi)).fdiv sp) ≤ t ↔ (0 < sp → lo ≤ nw + t * sp) ∧ (sp < 0 → nw + t * sp ≤ hi) ∧ (sp = 0 → lo ≤ nw ∧ nw ≤ hi) := by
      rw [show (-((nw - (if 0 < sp then lo else hi)).fdiv sp) ≤ t) = (-t ≤ (nw - (if 0 < sp then lo else hi)).fdiv sp) from by apply propext; omega]
      by_cases p : 0 < sp
      · rw [if_pos p, le_fd_pos p, Int.neg_mul]
        exact ⟨fun z => ⟨fun _ => by omega, fun y => by omega, fun y => by omega⟩, fun z => by have := z.1 p; omega⟩
      · rw [if_neg p, le_fd_neg (show sp < 0 by omega), Int.neg_mul]
        exact ⟨fun z => ⟨fun y => by omega, fun _ => by omega, fun y => by omega⟩, fun z => by have := z.2.1 (by omega); omega⟩
    rw [← key]
    by_cases q : (-((nw - (if 0 < sp then lo else hi)).fdiv sp)) < ls
    · rw [if_pos q]; omega
    · rw [if_neg q]; omega
theorem mtz_iff {lo hi sp nw ms t : Int} : t ≤ mtz lo hi sp nw ms ↔ t ≤ ms ∧ upc lo hi sp nw t := by
  unfold mtz upc
  by_cases h : sp = 0
  · rw [if_pos h]
    exact ⟨fun z => ⟨z, fun y => by omega, fun y => by omega⟩, fun z => z.1⟩
  · rw [if_neg h]
    have key : t ≤ ((if 0 < sp then hi else lo) - nw).fdiv sp ↔ (0 < sp → nw + t * sp ≤ hi) ∧ (sp < 0 → lo ≤ nw + t * sp) := by
      by_cases p : 0 < sp
      · rw [if_pos p, le_fd_pos p]
        exact ⟨fun z => ⟨fun _ => by omega, fun y => by omega⟩, fun z => by have := z.1 p; omega⟩
      · rw [if_neg p, le_fd_neg (show sp < 0 by omega)]
        exact ⟨fun z => ⟨fun y => by omega, fun _ => by omega⟩, fun z => by have := z.2 (by omega); omega⟩
    rw [← key]
    by_cases q : ((if 0 < sp then hi else lo) - nw).fdiv sp < ms
    · rw [if_pos q]; omega
    · rw [if_neg q]; omega
theorem edge64 {xl xh : Int32} (p : Prop) [Decidable p] : (if p then xl else xh).toInt64 = oI (if p then xl.toInt else xh.toInt) := by
  by_cases h : p
  · rw [if_pos h, if_pos h, i64_of]
  · rw [if_neg h, if_neg h, i64_of]
theorem x_lt1_oI {xl xh : Int32} {sp nw ls : Int} (hl : xl.toInt.natAbs ≤ 12) (hh : xh.toInt.natAbs ≤ 12) (h1 : sp.natAbs ≤ 279936) (h2 : nw.natAbs ≤ 10000000000) (h3 : ls.natAbs ≤ 1000000000000000) : x_lt1 xl xh (oI sp) (oI nw) (oI ls) = oI (ltz xl.toInt xh.toInt sp nw ls) ∧ (ltz xl.toInt xh.toInt sp nw ls).natAbs ≤ 1000000000000000 := by
  have fs : fit sp := by unfold fit; omega
  have fn : fit nw := by unfold fit; omega
  have fl : fit ls := by unfold fit; omega
  have f0 : fit 0 := by unfold fit; omega
  unfold x_lt1 ltz
  by_cases h : sp = 0
  · rw [if_pos ((oI_eq0 fs).mpr h), if_pos h, i64_of, i64_of]
    by_cases q : nw < xl.toInt
    · rw [if_pos ((oI_lt fn (by unfold fit; omega)).mpr q), if_pos q]; exact ⟨rfl, by omega⟩
    · rw [if_neg (fun z => q ((oI_lt fn (by unfold fit; omega)).mp z)), if_neg q]
      by_cases q2 : xh.toInt < nw
      · rw [if_pos ((oI_lt (by unfold fit; omega) fn).mpr q2), if_pos q2]; exact ⟨rfl, by omega⟩
      · rw [if_neg (fun z => q2 ((oI_lt (by unfold fit; omega) fn).mp z)), if_neg q2]; exact ⟨rfl, h3⟩
  · rw [if_neg (fun z => h ((oI_eq0 fs).mp z)), if_neg h, edge64]
    have ep : (if (0 : Int64) < oI sp then xl.toInt else xh.toInt) = if 0 < sp then xl.toInt else xh.toInt := by
      by_cases p : 0 < sp
      · rw [if_pos p, if_pos (show (0 : Int64) < oI sp from (oI_lt f0 fs).mpr p)]
      · rw [if_neg p, if_neg (show ¬ (0 : Int64) < oI sp from fun z => p ((oI_lt f0 fs).mp z))]
    rw [ep]
    have be : (if 0 < sp then xl.toInt else xh.toInt).natAbs ≤ 12 := by split <;> assumption
    generalize (if 0 < sp then xl.toInt else xh.toInt) = ed at *
    have fd := na_fdiv (a := nw - ed) h
    rw [oI_sub, fd64_oI (by unfold fit; omega) fs h, oI_neg]
    generalize (nw - ed).fdiv sp = q at *
    unfold mx64
    by_cases z : -q < ls
    · rw [if_pos ((oI_lt (by unfold fit; omega) fl).mpr z), if_pos z]; exact ⟨rfl, h3⟩
    · rw [if_neg (fun y => z ((oI_lt (by unfold fit; omega) fl).mp y)), if_neg z]; exact ⟨rfl, by omega⟩
theorem x_mt1_oI {xl xh : Int32} {sp nw ms : Int} (hl : xl.toInt.natAbs ≤ 12) (hh : xh.toInt.natAbs ≤ 12) (h1 : sp.natAbs ≤ 279936) (h2 : nw.natAbs ≤ 10000000000) (h3 : ms.natAbs ≤ 1000000000000000) : x_mt1 xl xh (oI sp) (oI nw) (oI ms) = oI (mtz xl.toInt xh.toInt sp nw ms) ∧ (mtz xl.toInt xh.toInt sp nw ms).natAbs ≤ 1000000000000000 := by
  have fs : fit sp := by unfold fit; omega
  have fn : fit nw := by unfold fit; omega
  have fl : fit ms := by unfold fit; omega
  have f0 : fit 0 := by unfold fit; omega
  unfold x_mt1 mtz
  by_cases h : sp = 0
  · rw [if_pos ((oI_eq0 fs).mpr h), if_pos h]; exact ⟨rfl, h3⟩
  · rw [if_neg (fun z => h ((oI_eq0 fs).mp z)), if_neg h, edge64]
    have ep : (if (0 : Int64) < oI sp then xh.toInt else xl.toInt) = if 0 < sp then xh.toInt else xl.toInt := by
      by_cases p : 0 < sp
      · rw [if_pos p, if_pos (show (0 : Int64) < oI sp from (oI_lt f0 fs).mpr p)]
      · rw [if_neg p, if_neg (show ¬ (0 : Int64) < oI sp from fun z => p ((oI_lt f0 fs).mp z))]
    rw [ep]
    have be : (if 0 < sp then xh.toInt else xl.toInt).natAbs ≤ 12 := by split <;> assumption
    generalize (if 0 < sp then xh.toInt else xl.toInt) = ed at *
    have fd := na_fdiv (a := ed - nw) h
    rw [oI_sub, fd64_oI (by unfold fit; omega) fs h]
    generalize (ed - nw).fdiv sp = q at *
    unfold mn64
    by_cases z : q < ms
    · rw [if_pos ((oI_lt (by unfold fit; omega) fl).mpr z), if_pos z]; exact ⟨rfl, by omega⟩
    · rw [if_neg (fun y => z ((oI_lt (by unfold fit; omega) fl).mp y)), if_neg z]; exact ⟨rfl, h3⟩
theorem x_lu_eq {n e rr i : Nat} {I : fl_TI} {L : Nat → Nat} (hld : ∀ i, i < n → ldI I 12 i = L i) : x_lu n e rr I i = lU L e n rr i := by
  unfold x_lu lU
  by_cases h : rr + i < n
  · rw [if_pos h, if_pos h, hld _ h]
  · rw [if_neg h, if_neg h]
theorem x_range {n e rr b : Nat} {I : fl_TI} {J : fl_TJ} {L : Nat → Nat} {xl xh : Int32} {w B : Nat → Int} {m : Nat} (hld : ∀ i, i < n → ldI I 12 i = L i) (hl : xl.toInt.natAbs ≤ 12) (hh : xh.toInt.natAbs ≤ 12) (hm : xl.toInt + (m : Nat) = xh.toInt + 1) (hl1 : lU L e n rr b ≤ lU L e n rr (b + 1)) (hl2 : lU L e n rr (b + 1) ≤ n) (h1 : ∀ j, j < n → J (6 + 2 + (rr + b)) (e + j) = oI (B j) ∧ (B j).natAbs ≤ 279936) (h2 : ∀ j, j < n → J (25 + b) j = oI (w j) ∧ (w j).natAbs ≤ 10000000000) :
    ∃ ls ms : Int, x_least n e rr xl xh I b J = oI ls ∧ x_most n e rr xl xh I b J = oI ms ∧ ls.natAbs ≤ 1000000000000000 ∧ ms.natAbs ≤ 1000000000000000 ∧ ∀ t, (ls ≤ t ∧ t ≤ ms) ↔ (-1000000000000000 ≤ t ∧ t < 1000000000000000) ∧ Pin (lU L e n rr) xl.toInt m b (fun j => w j + t * B j) := by
  have gl : ∀ k j (ls : Int), j + k ≤ n → ls.natAbs ≤ 1000000000000000 → ∃ ls' : Int, fl_it (fun j ls => x_lt1 xl xh (J (6 + 2 + (rr + b)) (e + j)) (J (25 + b) j) ls) k j (oI ls) = oI ls' ∧ ls'.natAbs ≤ 1000000000000000 ∧ ∀ t, t < 1000000000000000 → (ls' ≤ t ↔ ls ≤ t ∧ ∀ i, j ≤ i → i < j + k → lowc xl.toInt xh.toInt (B i) (w i) t) := by
    intro k
    induction k with
    | zero => intro j ls _ h; exact ⟨ls, rfl, h, fun t _ => ⟨fun z => ⟨z, fun i _ _ => by omega⟩, fun z => z.1⟩⟩
    | succ k ih =>
      intro j ls hj h
      obtain ⟨b1, b2⟩ := h1 j (by omega)
      obtain ⟨w1, w2⟩ := h2 j (by omega)
      obtain ⟨x1, x2⟩ := x_lt1_oI hl hh b2 w2 h
      obtain ⟨ls', i1, i2, i3⟩ := ih (j + 1) (ltz xl.toInt xh.toInt (B j) (w j) ls) (by omega) x2
      refine ⟨ls', ?_, i2, fun t ht => ?_⟩
      · show fl_it _ k (j + 1) (x_lt1 xl xh (J (6 + 2 + (rr + b)) (e + j)) (J (25 + b) j) (oI ls)) = _
        rw [b1, w1, x1]; exact i1
      · rw [i3 t ht, ltz_iff ht]
        constructor
        · rintro ⟨⟨z1, z2⟩, z3⟩
          refine ⟨z1, fun i g1 g2 => ?_⟩
          by_cases q : i = j
          · rw [q]; exact z2
          · exact z3 i (by omega) (by omega)
        · rintro ⟨z1, z2⟩
          exact ⟨⟨z1, z2 j (by omega) (by omega)⟩, fun i g1 g2 => z2 i (by omega) (by omega)⟩
  have gm : ∀ k j (ms : Int), j + k ≤ n → ms.natAbs ≤ 1000000000000000 → ∃ ms' : Int, fl_it (fun j ms => x_mt1 xl xh (J (6 + 2 + (rr + b)) (e + j)) (J (25 + b) j) ms) k j (oI ms) = oI ms' ∧ ms'.natAbs ≤ 1000000000000000 ∧ ∀ t, (t ≤ ms' ↔ t ≤ ms ∧ ∀ i, j ≤ i → i < j + k → upc xl.toInt xh.toInt (B i) (w i) t) := by
    intro k
    induction k with
    | zero => intro j ls _ h; exact ⟨ls, rfl, h, fun t => ⟨fun z => ⟨z, fun i _ _ => by omega⟩, fun z => z.1⟩⟩
    | succ k ih =>
      intro j ls hj h
      obtain ⟨b1, b2⟩ := h1 j (by omega)
      obtain ⟨w1, w2⟩ := h2 j (by omega)
      obtain ⟨x1, x2⟩ := x_mt1_oI hl hh b2 w2 h
      obtain ⟨ls', i1, i2, i3⟩ := ih (j + 1) (mtz xl.toInt xh.toInt (B j) (w j) ls) (by omega) x2
      refine ⟨ls', ?_, i2, fun t => ?_⟩
      · show fl_it _ k (j + 1) (x_mt1 xl xh (J (6 + 2 + (rr + b)) (e + j)) (J (25 + b) j) (oI ls)) = _
        rw [b1, w1, x1]; exact i1
      · rw [i3 t, mtz_iff]
        constructor
        · rintro ⟨⟨z1, z2⟩, z3⟩
          refine ⟨z1, fun i g1 g2 => ?_⟩
          by_cases q : i = j
          · rw [q]; exact z2
          · exact z3 i (by omega) (by omega)
        · rintro ⟨z1, z2⟩
          exact ⟨⟨z1, z2 j (by omega) (by omega)⟩, fun i g1 g2 => z2 i (by omega) (by omega)⟩
  obtain ⟨ls, l1, l2, l3⟩ := gl (lU L e n rr (b + 1) - lU L e n rr b) (lU L e n rr b) (-1000000000000000) (by omega) (by decide)
  obtain ⟨ms, m1, m2, m3⟩ := gm (lU L e n rr (b + 1) - lU L e n rr b) (lU L e n rr b) 999999999999999 (by omega) (by decide)
  refine ⟨ls, ms, ?_, ?_, l2, m2, fun t => ?_⟩
  · unfold x_least; rw [x_lu_eq hld, x_lu_eq hld]; exact l1
  · unfold x_most; rw [x_lu_eq hld, x_lu_eq hld]; exact m1
  · constructor
    · rintro ⟨z1, z2⟩
      have q2 := (m3 t).mp z2
      have q1 := (l3 t (by omega)).mp z1
      refine ⟨by omega, fun j g1 g2 => ?_⟩
      obtain ⟨c1, c2, c3⟩ := q1.2 j g2 (by omega)
      obtain ⟨d1, d2⟩ := q2.2 j g2 (by omega)
      show xl.toInt ≤ w j + t * B j ∧ w j + t * B j < xl.toInt + (m : Nat)
      rcases Int.lt_trichotomy (B j) 0 with y | y | y
      · have := c2 y; have := d2 y; omega
      · have := c3 y; rw [y, Int.mul_zero]; omega
      · have := c1 y; have := d1 y; omega
    · rintro ⟨z1, z2⟩
      refine ⟨(l3 t z1.2).mpr ⟨z1.1, fun j g1 g2 => ?_⟩, (m3 t).mpr ⟨by omega, fun j g1 g2 => ?_⟩⟩
      · have y : xl.toInt ≤ w j + t * B j ∧ w j + t * B j < xl.toInt + (m : Nat) := z2 j (by omega) g1
        exact ⟨fun _ => y.1, fun _ => by omega, fun q => by rw [q, Int.mul_zero] at y; omega⟩
      · have y : xl.toInt ≤ w j + t * B j ∧ w j + t * B j < xl.toInt + (m : Nat) := z2 j (by omega) g1
        exact ⟨fun _ => by omega, fun _ => y.1⟩
theorem j_turn_at {n e rr b : Nat} {t : Int64} {J : fl_TJ} (hb : rr + b < 4) (p x : Nat) : j_turn n e rr b t J p x = if p = 25 + (b + 1) ∧ x < n then J (25 + b) x + t * J (6 + 2 + (rr + b)) (e + x) else J p x := by
  unfold j_turn
  rw [fl_it_r (fun j J => J (25 + b) j + t * J (6 + 2 + (rr + b)) (e + j)) (fun j J J' h1 h2 => by show J (25 + b) j + t * J (6 + 2 + (rr + b)) (e + j) = J' (25 + b) j + t * J' (6 + 2 + (rr + b)) (e + j); rw [h2 (25 + b) _ (by omega), h2 (6 + 2 + (rr + b)) _ (by omega)]) n 0 J p x]
  by_cases h : p = 25 + (b + 1) ∧ x < n
  · rw [if_pos h, if_pos (by omega)]
  · rw [if_neg h, if_neg (by omega)]
theorem x_cntL_sh {f : Int64 → fl_TJ → Int64 × fl_TJ} {c : Int → Nat} {G : fl_TJ → Prop} {lo hi : Int} (hf : ∀ (t : Int) J, lo ≤ t → t ≤ hi → G J → (f (oI t) J).1 = oI ((c t : Nat) : Int) ∧ G (f (oI t) J).2) : ∀ k (t : Int) (N : Nat) J, lo ≤ t → t + (k : Nat) = hi + 1 → G J → (x_cntL f k (oI t) (oI (N : Int), J)).1 = oI ((N + ns t k c : Nat) : Int) ∧ G (x_cntL f k (oI t) (oI (N : Int), J)).2 := by
  intro k
  induction k with
  | zero => intro t N J _ _ h; exact ⟨rfl, h⟩
  | succ k ih =>
    intro t N J h1 h2 h
    obtain ⟨f1, f2⟩ := hf t J h1 (by omega) h
    have e1 : x_cntL f (k + 1) (oI t) (oI (N : Int), J) = x_cntL f k (oI (t + 1)) (oI ((N + c t : Nat) : Int), (f (oI t) J).2) := by
      show x_cntL f k (oI t + 1) (oI (N : Int) + (f (oI t) J).1, (f (oI t) J).2) = _
      rw [f1, oI_add, show oI t + 1 = oI (t + 1) from oI_add t 1]
      rfl
    rw [e1, ns_front, ← Nat.add_assoc]
    exact ih (t + 1) (N + c t) _ (by omega) (by omega) f2
theorem x_llu_iff {e rr b : Nat} {J : fl_TJ} {B : Nat → Int} {n : Nat} (h1 : ∀ j, j < n → J (6 + 2 + (rr + b)) (e + j) = oI (B j) ∧ (B j).natAbs ≤ 279936) : ∀ k j, j + k = n → x_llu e rr b J k j = 0 ∨ ∀ i, j ≤ i → i < n → B i = 0 := by
  intro k
  induction k with
  | zero => intro j _; exact .inr (fun i _ _ => by omega)
  | succ k ih =>
    intro j hj
    obtain ⟨b1, b2⟩ := h1 j (by omega)
    by_cases z : B j = 0
    · have e1 : x_llu e rr b J (k + 1) j = x_llu e rr b J k (j + 1) := if_pos (by rw [b1, z]; rfl)
      rw [e1]
      rcases ih (j + 1) (by omega) with q | q
      · exact .inl q
      · exact .inr (fun i g1 g2 => by
          by_cases y : i = j
          · rw [y]; exact z
          · exact q i (by omega) g2)
    · have e1 : x_llu e rr b J (k + 1) j = nI 0 := if_neg (by rw [b1]; exact fun q => z ((oI_eq0 (by unfold fit; omega)).mp q))
      exact .inl (by rw [e1]; rfl)
/-- countFrom -/
theorem x_cnt_sh {a : Nat → Nat → Int} {e n rr : Nat} {T : Nat → Nat → Int} {L : Nat → Nat} {I : fl_TI} {xl xh : Int32} {m : Nat} (hF : Fm a e n T L) (hn : n ≤ 4) (he : e ≤ 3) (hlb : Lb L e n rr) (hld : ∀ i, i < n → ldI I 12 i = L i) (hl : -12 ≤ xl.toInt) (hh : xh.toInt ≤ 12) (hlh : xl.toInt ≤ xh.toInt) (hm : xl.toInt + (m : Nat) = xh.toInt + 1) :
    ∀ q b (J : fl_TJ) (w : Nat → Int), rr + b + q = n → shC 6 n (e + n) J T → (∀ j, j < n → J (25 + b) j = oI (w j)) → Bw T L e n rr b w → (∀ j, j < n → (w j).natAbs ≤ 4203239040 + Kb b * 279936) →
    (x_cnt n e rr xl xh I q b J).1 = oI ((cc (fun i j => T (rr + i) (e + j)) (lU L e n rr) xl.toInt m 1000000000000000 q b w : Nat) : Int) ∧ ∀ p x, (p ≤ 25 + b ∨ 30 ≤ p) → (x_cnt n e rr xl xh I q b J).2 p x = J p x := by
  intro q
  induction q with
  | zero => intro b J w _ _ _ _ _; exact ⟨rfl, fun _ _ _ => rfl⟩
  | succ q ih =>
    intro b J w hq hsh hJ hB hW
    have hi : rr + b < n := by omega
    have hLe : e ≤ L (rr + b) := by have := hlb.2 _ hi; omega
    have hLn := (hF.1.1 _ hi).1
    have hp := (hF.1.1 _ hi).2.1
    have hLl : L (rr + b) = e + lU L e n rr b := by rw [lU_lt hi]; omega
    have hBi := hB b (Nat.le_refl _) hi
    rw [← lU_lt (L := L) (e := e) hi] at hBi
    have hK := Kb_le b (by omega)
    have hup := lU_up hF hlb hi
    have hle := lU_le (rr := rr) hF (b + 1)
    have r1 : ∀ j, j < n → J (6 + 2 + (rr + b)) (e + j) = oI (T (rr + b) (e + j)) ∧ (T (rr + b) (e + j)).natAbs ≤ 279936 := fun j hj => ⟨hsh (rr + b) (e + j) hi (by omega), hF.2.2.2.2 _ _ hi (by omega)⟩
    obtain ⟨ls, ms, x1, x2, x3, x4, x5⟩ := x_range (B := fun j => T (rr + b) (e + j)) (w := w) hld (show xl.toInt.natAbs ≤ 12 by omega) (show xh.toInt.natAbs ≤ 12 by omega) hm (by omega) hle r1 (fun j hj => ⟨hJ j hj, by have := hW j hj; omega⟩)
    have ec : cc (fun i j => T (rr + i) (e + j)) (lU L e n rr) xl.toInt m 1000000000000000 (q + 1) b w = ns (-1000000000000000) (2 * 1000000000000000 : Int).toNat (fun t => if ls ≤ t ∧ t ≤ ms then cc (fun i j => T (rr + i) (e + j)) (lU L e n rr) xl.toInt m 1000000000000000 q (b + 1) (fun j => w j + t * T (rr + b) (e + j)) else 0) := ns_congr _ (fun t g1 g2 => by
      show (if Pin (lU L e n rr) xl.toInt m b (fun j => w j + t * T (rr + b) (e + j)) then _ else 0) = _
      have g3 : t < 1000000000000000 := by omega
      by_cases z : Pin (lU L e n rr) xl.toInt m b (fun j => w j + t * T (rr + b) (e + j))
      · rw [if_pos z, if_pos ((x5 t).mpr ⟨⟨g1, g3⟩, z⟩)]
      · rw [if_neg z, if_neg (fun y => z ((x5 t).mp y).2)])
    have tb : ∀ t, ls ≤ t → t ≤ ms → t.natAbs ≤ 12 + Kb b := fun t g1 g2 => by
      have z := ((x5 t).mp ⟨g1, g2⟩).2 (lU L e n rr b) hup (Nat.le_refl _)
      have z : xl.toInt ≤ w (lU L e n rr b) + t * T (rr + b) (e + lU L e n rr b) ∧ w (lU L e n rr b) + t * T (rr + b) (e + lU L e n rr b) < xl.toInt + (m : Nat) := z
      rw [← hLl] at z
      exact t_small (by omega) hBi (by omega)
    have st : ∀ (J' : fl_TJ) (t : Int), t.natAbs ≤ 12 + Kb b → (∀ p x, (p ≤ 25 + b ∨ 30 ≤ p) → J' p x = J p x) → shC 6 n (e + n) (j_turn n e rr b (oI t) J') T ∧ (∀ j, j < n → j_turn n e rr b (oI t) J' (25 + (b + 1)) j = oI (w j + t * T (rr + b) (e + j))) ∧ ∀ p x, (p ≤ 25 + b ∨ 30 ≤ p) → j_turn n e rr b (oI t) J' p x = J p x := fun J' t ht hJ' => by
      have k1 : ∀ p x, (p ≤ 25 + b ∨ 30 ≤ p) → j_turn n e rr b (oI t) J' p x = J p x := fun p x hp => by
        rw [j_turn_at (by omega), if_neg (by omega)]; exact hJ' p x hp
      refine ⟨fun i x hi hx => by rw [k1 _ _ (by omega)]; exact hsh i x hi hx, fun j hj => ?_, k1⟩
      rw [j_turn_at (by omega), if_pos ⟨rfl, hj⟩, hJ' _ _ (by omega), hJ' _ _ (by omega), hJ j hj, (r1 j hj).1, oI_mul, oI_add]
    have wb : ∀ t : Int, t.natAbs ≤ 12 + Kb b → ∀ j, j < n → (w j + t * T (rr + b) (e + j)).natAbs ≤ 4203239040 + Kb (b + 1) * 279936 := fun t ht j hj => by
      have g1 := hW j hj
      have g2 := na_mul ht (r1 j hj).2
      show _ ≤ 4203239040 + (2 * Kb b + 12) * 279936
      omega
    show ((if x_most n e rr xl xh I b J < x_least n e rr xl xh I b J then (0, J) else if x_llu e rr b J (n - x_lu n e rr I (b + 1)) (x_lu n e rr I (b + 1)) = 0 then x_cntL (fun t J => x_cnt n e rr xl xh I q (b + 1) (j_turn n e rr b t J)) ((x_most n e rr xl xh I b J).toInt + 1 - (x_least n e rr xl xh I b J).toInt).toNat (x_least n e rr xl xh I b J) (0, J) else ((x_most n e rr xl xh I b J - x_least n e rr xl xh I b J + 1) * (x_cnt n e rr xl xh I q (b + 1) (j_turn n e rr b 0 J)).1, (x_cnt n e rr xl xh I q (b + 1) (j_turn n e rr b 0 J)).2) : Int64 × fl_TJ)).1 = _ ∧ ∀ p x, (p ≤ 25 + b ∨ 30 ≤ p) → ((if x_most n e rr xl xh I b J < x_least n e rr xl xh I b J then (0, J) else if x_llu e rr b J (n - x_lu n e rr I (b + 1)) (x_lu n e rr I (b + 1)) = 0 then x_cntL (fun t J => x_cnt n e rr xl xh I q (b + 1) (j_turn n e rr b t J)) ((x_most n e rr xl xh I b J).toInt + 1 - (x_least n e rr xl xh I b J).toInt).toNat (x_least n e rr xl xh I b J) (0, J) else ((x_most n e rr xl xh I b J - x_least n e rr xl xh I b J + 1) * (x_cnt n e rr xl xh I q (b + 1) (j_turn n e rr b 0 J)).1, (x_cnt n e rr xl xh I q (b + 1) (j_turn n e rr b 0 J)).2) : Int64 × fl_TJ)).2 p x = J p x
    have fls : fit ls := by unfold fit; omega
    have fms : fit ms := by unfold fit; omega
    rw [x1, x2, ec]
    by_cases z : ms < ls
    · rw [if_pos ((oI_lt fms fls).mpr z), ns_none z]
      exact ⟨rfl, fun _ _ _ => rfl⟩
    · have hr1 : -1000000000000000 ≤ ls := (((x5 ls).mp ⟨by omega, by omega⟩).1).1
      have hr2 : ms < 1000000000000000 := (((x5 ms).mp ⟨by omega, by omega⟩).1).2
      rw [if_neg (fun y => z ((oI_lt fms fls).mp y)), ns_range hr1 (by omega) (by omega)]
      by_cases y : x_llu e rr b J (n - x_lu n e rr I (b + 1)) (x_lu n e rr I (b + 1)) = 0
      · rw [if_pos y, oI_toInt fls, oI_toInt fms]
        have := x_cntL_sh (f := fun t J => x_cnt n e rr xl xh I q (b + 1) (j_turn n e rr b t J)) (c := fun t => cc (fun i j => T (rr + i) (e + j)) (lU L e n rr) xl.toInt m 1000000000000000 q (b + 1) (fun j => w j + t * T (rr + b) (e + j))) (G := fun J' => ∀ p x, (p ≤ 25 + b ∨ 30 ≤ p) → J' p x = J p x) (lo := ls) (hi := ms) (fun t J' g1 g2 hJ' => by
          have ht := tb t g1 g2
          obtain ⟨s1, s2, s3⟩ := st J' t ht hJ'
          obtain ⟨i1, i2⟩ := ih (b + 1) (j_turn n e rr b (oI t) J') (fun j => w j + t * T (rr + b) (e + j)) (by omega) s1 s2 (bw_turn hF hlb hi hB ht) (wb t ht)
          exact ⟨i1, fun p x hp => by rw [i2 p x (by omega)]; exact s3 p x hp⟩) (ms + 1 - ls).toNat ls 0 J (by omega) (by omega) (fun _ _ _ => rfl)
        rw [Nat.zero_add] at this
        exact this
      · rw [if_neg y]
        rw [x_lu_eq hld] at y
        have h0 : ∀ i, lU L e n rr (b + 1) ≤ i → i < n → T (rr + b) (e + i) = 0 := by
          rcases x_llu_iff (B := fun j => T (rr + b) (e + j)) r1 (n - lU L e n rr (b + 1)) (lU L e n rr (b + 1)) (by omega) with g | g
          · exact absurd g y
          · exact g
        have ht0 : (0 : Int).natAbs ≤ 12 + Kb b := Nat.zero_le _
        obtain ⟨s1, s2, s3⟩ := st J 0 ht0 (fun _ _ _ => rfl)
        obtain ⟨i1, i2⟩ := ih (b + 1) (j_turn n e rr b (oI 0) J) (fun j => w j + 0 * T (rr + b) (e + j)) (by omega) s1 s2 (bw_turn hF hlb hi hB ht0) (wb 0 ht0)
        have mono : ∀ k, b + 1 ≤ k → k < b + 1 + q → lU L e n rr k ≤ lU L e n rr (k + 1) := fun k g1 g2 => Nat.le_of_lt (lU_up hF hlb (by omega))
        have same : ∀ t : Int, cc (fun i j => T (rr + i) (e + j)) (lU L e n rr) xl.toInt m 1000000000000000 q (b + 1) (fun j => w j + t * T (rr + b) (e + j)) = cc (fun i j => T (rr + i) (e + j)) (lU L e n rr) xl.toInt m 1000000000000000 q (b + 1) (fun j => w j + 0 * T (rr + b) (e + j)) := fun t => cc_ext q (b + 1) _ _ mono (fun j g1 g2 => by
          show w j + t * T (rr + b) (e + j) = w j + 0 * T (rr + b) (e + j)
          have := lU_le (rr := rr) hF (b + 1 + q)
          rw [h0 j g1 (by omega), Int.mul_zero, Int.mul_zero])
        rw [ns_congr (g := fun _ => cc (fun i j => T (rr + i) (e + j)) (lU L e n rr) xl.toInt m 1000000000000000 q (b + 1) (fun j => w j + 0 * T (rr + b) (e + j))) _ (fun t _ _ => same t), ns_const]
        have e0 : (0 : Int64) = oI 0 := rfl
        refine ⟨?_, fun p x hp => ?_⟩
        · show (oI ms - oI ls + 1) * (x_cnt n e rr xl xh I q (b + 1) (j_turn n e rr b 0 J)).1 = _
          rw [e0, i1, oI_sub, show oI (ms - ls) + 1 = oI (ms - ls + 1) from oI_add _ 1, oI_mul]
          congr 1
          rw [Int.natCast_mul, show (((ms + 1 - ls).toNat : Nat) : Int) = ms - ls + 1 from by omega]
        · show (x_cnt n e rr xl xh I q (b + 1) (j_turn n e rr b 0 J)).2 p x = _
          rw [e0, i2 p x (by omega)]; exact s3 p x hp
theorem x_unm_iff {xl xh : Int32} {J : fl_TJ} {u : Nat → Int} {stop : Nat} {m : Nat} (hl : xl.toInt.natAbs ≤ 12) (hh : xh.toInt.natAbs ≤ 12) (hm : xl.toInt + (m : Nat) = xh.toInt + 1) (h : ∀ j, j < stop → J (25 + 0) j = oI (u j) ∧ fit (u j)) : ∀ k j, j + k = stop → (x_unm xl xh J k j = 0 ∧ ¬ ∀ i, i < stop → j ≤ i → xl.toInt ≤ u i ∧ u i < xl.toInt + (m : Nat)) ∨ (x_unm xl xh J k j ≠ 0 ∧ ∀ i, i < stop → j ≤ i → xl.toInt ≤ u i ∧ u i < xl.toInt + (m : Nat)) := by
  intro k
  induction k with
  | zero => intro j _; exact .inr ⟨by show nI 1 ≠ 0; decide, fun i _ _ => by omega⟩
  | succ k ih =>
    intro j hj
    obtain ⟨h1, h2⟩ := h j (by omega)
    have c1 : J (25 + 0) j < xl.toInt64 ↔ u j < xl.toInt := by rw [h1, i64_of, oI_lt h2 (by unfold fit; omega)]
    have c2 : xh.toInt64 < J (25 + 0) j ↔ xh.toInt < u j := by rw [h1, i64_of, oI_lt (by unfold fit; omega) h2]
    by_cases z1 : u j < xl.toInt
    · exact .inl ⟨if_pos (c1.mpr z1), fun y => by have := y j (by omega) (by omega); omega⟩
    · by_cases z2 : xh.toInt < u j
      · have : x_unm xl xh J (k + 1) j = nI 0 := by
          show (if _ then _ else _) = _
          rw [if_neg (fun q => z1 (c1.mp q)), if_pos (c2.mpr z2)]
        exact .inl ⟨this, fun y => by have := y j (by omega) (by omega); omega⟩
      · have : x_unm xl xh J (k + 1) j = x_unm xl xh J k (j + 1) := by
          show (if _ then _ else _) = _
          rw [if_neg (fun q => z1 (c1.mp q)), if_neg (fun q => z2 (c2.mp q))]
        rw [this]
        rcases ih (j + 1) (by omega) with ⟨g1, g2⟩ | ⟨g1, g2⟩
        · exact .inl ⟨g1, fun y => g2 (fun i y1 y2 => y i y1 (by omega))⟩
        · exact .inr ⟨g1, fun i y1 y2 => by
            by_cases y : i = j
            · rw [y]; omega
            · exact g2 i y1 (by omega)⟩
theorem j_spot_at {n e : Nat} {J : fl_TJ} (p x : Nat) : j_spot n e J p x = if p = 25 ∧ x < n then J 22 (e + x) else J p x := by
  unfold j_spot
  rw [fl_it_r (p := 25 + 0) (fun j J => J 22 (e + j)) (fun j J J' h1 h2 => h2 22 _ (by decide)) n 0 J p x]
  by_cases h : p = 25 ∧ x < n
  · rw [if_pos h, if_pos (by omega)]
  · rw [if_neg h, if_neg (by omega)]
/-- box -/
theorem x_box_cs {n e rr : Nat} {I : fl_TI} {J : fl_TJ} {T : Nat → Nat → Int} {L : Nat → Nat} {u : Nat → Int} {xl xh : Int32} {m : Nat} (h : CS I J n e rr T L u) (h8 : I 0 8 = -1) (hl : -12 ≤ xl.toInt) (hh : xh.toInt ≤ 12) (hlh : xl.toInt ≤ xh.toInt) (hm : xl.toInt + (m : Nat) = xh.toInt + 1) :
    (x_box n e rr xl xh I J).1 = Int32.ofInt ((Fc (aC I) (sC I) e n xl.toInt m n 0 u : Nat) : Int) ∧ ∀ p x, (p < 25 ∨ 30 ≤ p) → (x_box n e rr xl xh I J).2 p x = J p x := by
  have hld := h.ld
  obtain ⟨h1, h2, h3, h4, h5, h6, h7, h8', h9, h10⟩ := h
  have hn := h1.2.1.2
  have he := h1.2.2.2.1
  have hS := h9 ((h8'.neg he).mp h8)
  have sp : ∀ p x, p ≠ 25 → j_spot n e J p x = J p x := fun p x hp => by rw [j_spot_at, if_neg (fun q => hp q.1)]
  have s0 : ∀ j, j < n → j_spot n e J (25 + 0) j = oI (u j) := fun j hj => by rw [j_spot_at, if_pos ⟨rfl, hj⟩]; exact (h10 j hj).1
  have hB : Bw T L e n rr 0 u := fun k _ hk => by
    have g3 := h7.2 (rr + k) hk
    have := hS.2 (rr + k) hk (by omega)
    show _ ≤ 1 * _
    omega
  have hrr := h7.1
  obtain ⟨c1, c2⟩ := x_cnt_sh (m := m) h4 hn he h7 hld hl hh hlh hm (n - rr) 0 (j_spot n e J) u (by omega) (fun i x hi hx => by rw [sp _ _ (by omega)]; exact h5 i x hi hx) s0 hB (fun j hj => Nat.le_trans (h10 j hj).2 (Nat.le_add_right _ _))
  have hle := lU_le (rr := rr) h4 0
  have un := x_unm_iff (xl := xl) (xh := xh) (J := j_spot n e J) (u := u) (stop := lU L e n rr 0) (m := m) (by omega) (by omega) hm (fun j hj => ⟨s0 j (by omega), by have := (h10 j (by omega)).2; unfold fit; omega⟩) (lU L e n rr 0) 0 (by omega)
  rw [F_box h4 hn h7 hl (by omega) hS]
  unfold x_box
  rw [x_lu_eq hld]
  rcases un with ⟨g1, g2⟩ | ⟨g1, g2⟩
  · rw [if_pos g1, if_neg g2]
    exact ⟨rfl, fun p x hp => sp p x (by omega)⟩
  · rw [if_neg g1, if_pos g2]
    refine ⟨?_, fun p x hp => ?_⟩
    · show (x_cnt n e rr xl xh I (n - rr) 0 (j_spot n e J)).1.toInt32 = _
      rw [c1]
      exact Int64.toInt32_ofInt
    · show (x_cnt n e rr xl xh I (n - rr) 0 (j_spot n e J)).2 p x = _
      rw [c2 p x (by omega)]; exact sp p x (by omega)
