/-! the determinants -/
def xD (n : Nat) (a : Nat → Nat → Int) (u : Nat) : Nat → Nat → Nat → Int
  | 0, _, _ => 1
  | k + 1, c, w => if u / 2 ^ c % 2 = 0 then xD n a u k (c + 1) w else (fl_it (fun j (x : Int × Int) => if w / 2 ^ j % 2 = 1 then (x.1 + x.2 * a c j * xD n a u k (c + 1) (w - 2 ^ j), -x.2) else x) n 0 (0, 1)).1
theorem x_det_oI {n : Nat} {I : fl_TI} {u : Nat} : ∀ k c w, x_det n I u k c w = oI (xD n (aC I) u k c w) := by
  intro k
  induction k with
  | zero => intro c w; rfl
  | succ k ih =>
    intro c w
    show (if u / 2 ^ c % 2 = 0 then x_det n I u k (c + 1) w else (fl_it (fun j (x : Int64 × Int64) => if w / 2 ^ j % 2 = 1 then (x.1 + x.2 * (I (2 + c) j).toInt64 * x_det n I u k (c + 1) (w - 2 ^ j), -x.2) else x) n 0 (0, 1)).1) = oI (if u / 2 ^ c % 2 = 0 then xD n (aC I) u k (c + 1) w else (fl_it (fun j (x : Int × Int) => if w / 2 ^ j % 2 = 1 then (x.1 + x.2 * aC I c j * xD n (aC I) u k (c + 1) (w - 2 ^ j), -x.2) else x) n 0 (0, 1)).1)
    by_cases h : u / 2 ^ c % 2 = 0
    · rw [if_pos h, if_pos h]; exact ih _ _
    · rw [if_neg h, if_neg h]
      have gen : ∀ q i (x : Int64 × Int64) (y : Int × Int), x.1 = oI y.1 → x.2 = oI y.2 → (fl_it (fun j (x : Int64 × Int64) => if w / 2 ^ j % 2 = 1 then (x.1 + x.2 * (I (2 + c) j).toInt64 * x_det n I u k (c + 1) (w - 2 ^ j), -x.2) else x) q i x).1 = oI (fl_it (fun j (x : Int × Int) => if w / 2 ^ j % 2 = 1 then (x.1 + x.2 * aC I c j * xD n (aC I) u k (c + 1) (w - 2 ^ j), -x.2) else x) q i y).1 := by
        intro q
        induction q with
        | zero => intro i x y h1 _; exact h1
        | succ q iq =>
          intro i x y h1 h2
          refine iq (i + 1) _ _ ?_ ?_
          · dsimp only
            by_cases g : w / 2 ^ i % 2 = 1
            · rw [if_pos g, if_pos g]
              show x.1 + x.2 * (I (2 + c) i).toInt64 * x_det n I u k (c + 1) (w - 2 ^ i) = oI (y.1 + y.2 * aC I c i * xD n (aC I) u k (c + 1) (w - 2 ^ i))
              rw [h1, h2, ih, i64_of, oI_mul, oI_mul, oI_add]
              rfl
            · rw [if_neg g, if_neg g]; exact h1
          · dsimp only
            by_cases g : w / 2 ^ i % 2 = 1
            · rw [if_pos g, if_pos g]
              show -x.2 = oI (-y.2)
              rw [h2, oI_neg]
            · rw [if_neg g, if_neg g]; exact h2
      exact gen n 0 (0, 1) (0, 1) rfl rfl
def d2 (a : Nat → Nat → Int) (r s q z : Nat) : Int := a r q * a s z - a r z * a s q
/-- the determinants, as the model has them -/
def kD (a : Nat → Nat → Int) (u w k : Nat) : Int := if k = 0 then 1 else if k = 1 then a (kpl u 0) (kpl w 0) else if k = 2 then d2 a (kpl u 0) (kpl u 1) (kpl w 0) (kpl w 1)
  else a (kpl u 0) (kpl w 0) * d2 a (kpl u 1) (kpl u 2) (kpl w 1) (kpl w 2) - a (kpl u 0) (kpl w 1) * d2 a (kpl u 1) (kpl u 2) (kpl w 0) (kpl w 2) + a (kpl u 0) (kpl w 2) * d2 a (kpl u 1) (kpl u 2) (kpl w 0) (kpl w 1)
theorem xd_1_0 (a : Nat → Nat → Int) {u w : Nat} (hu : u < 1) (hw : w < 2) (hp : pop4 u = pop4 w) : xD 1 a u 0 0 w = kD a u w (pop4 u) := by
  have h1 : u = 0 := by omega
  have h2 : w = 0 ∨ w = 1 := by omega
  rcases h1 with rfl <;> rcases h2 with rfl | rfl <;> first | exact absurd hp (by decide) | (simp [xD, fl_it, kD, kpl, k_pl, d2, pop4] <;> grind)
theorem xd_1_1 (a : Nat → Nat → Int) {u w : Nat} (hu : u < 2) (hw : w < 2) (hp : pop4 u = pop4 w) : xD 1 a u 1 0 w = kD a u w (pop4 u) := by
  have h1 : u = 0 ∨ u = 1 := by omega
  have h2 : w = 0 ∨ w = 1 := by omega
  rcases h1 with rfl | rfl <;> rcases h2 with rfl | rfl <;> first | exact absurd hp (by decide) | (simp [xD, fl_it, kD, kpl, k_pl, d2, pop4] <;> grind)
theorem xd_1_2 (a : Nat → Nat → Int) {u w : Nat} (hu : u < 4) (hw : w < 2) (hp : pop4 u = pop4 w) : xD 1 a u 2 0 w = kD a u w (pop4 u) := by
  have h1 : u = 0 ∨ u = 1 ∨ u = 2 ∨ u = 3 := by omega
  have h2 : w = 0 ∨ w = 1 := by omega
  rcases h1 with rfl | rfl | rfl | rfl <;> rcases h2 with rfl | rfl <;> first | exact absurd hp (by decide) | (simp [xD, fl_it, kD, kpl, k_pl, d2, pop4] <;> grind)
theorem xd_1_3 (a : Nat → Nat → Int) {u w : Nat} (hu : u < 8) (hw : w < 2) (hp : pop4 u = pop4 w) : xD 1 a u 3 0 w = kD a u w (pop4 u) := by
  have h1 : u = 0 ∨ u = 1 ∨ u = 2 ∨ u = 3 ∨ u = 4 ∨ u = 5 ∨ u = 6 ∨ u = 7 := by omega
  have h2 : w = 0 ∨ w = 1 := by omega
  rcases h1 with rfl | rfl | rfl | rfl | rfl | rfl | rfl | rfl <;> rcases h2 with rfl | rfl <;> first | exact absurd hp (by decide) | (simp [xD, fl_it, kD, kpl, k_pl, d2, pop4] <;> grind)
theorem xd_2_0 (a : Nat → Nat → Int) {u w : Nat} (hu : u < 1) (hw : w < 4) (hp : pop4 u = pop4 w) : xD 2 a u 0 0 w = kD a u w (pop4 u) := by
  have h1 : u = 0 := by omega
  have h2 : w = 0 ∨ w = 1 ∨ w = 2 ∨ w = 3 := by omega
  rcases h1 with rfl <;> rcases h2 with rfl | rfl | rfl | rfl <;> first | exact absurd hp (by decide) | (simp [xD, fl_it, kD, kpl, k_pl, d2, pop4] <;> grind)
theorem xd_2_1 (a : Nat → Nat → Int) {u w : Nat} (hu : u < 2) (hw : w < 4) (hp : pop4 u = pop4 w) : xD 2 a u 1 0 w = kD a u w (pop4 u) := by
  have h1 : u = 0 ∨ u = 1 := by omega
  have h2 : w = 0 ∨ w = 1 ∨ w = 2 ∨ w = 3 := by omega
  rcases h1 with rfl | rfl <;> rcases h2 with rfl | rfl | rfl | rfl <;> first | exact absurd hp (by decide) | (simp [xD, fl_it, kD, kpl, k_pl, d2, pop4] <;> grind)
theorem xd_2_2 (a : Nat → Nat → Int) {u w : Nat} (hu : u < 4) (hw : w < 4) (hp : pop4 u = pop4 w) : xD 2 a u 2 0 w = kD a u w (pop4 u) := by
  have h1 : u = 0 ∨ u = 1 ∨ u = 2 ∨ u = 3 := by omega
  have h2 : w = 0 ∨ w = 1 ∨ w = 2 ∨ w = 3 := by omega
  rcases h1 with rfl | rfl | rfl | rfl <;> rcases h2 with rfl | rfl | rfl | rfl <;> first | exact absurd hp (by decide) | (simp [xD, fl_it, kD, kpl, k_pl, d2, pop4] <;> grind)
theorem xd_2_3 (a : Nat → Nat → Int) {u w : Nat} (hu : u < 8) (hw : w < 4) (hp : pop4 u = pop4 w) : xD 2 a u 3 0 w = kD a u w (pop4 u) := by
  have h1 : u = 0 ∨ u = 1 ∨ u = 2 ∨ u = 3 ∨ u = 4 ∨ u = 5 ∨ u = 6 ∨ u = 7 := by omega
  have h2 : w = 0 ∨ w = 1 ∨ w = 2 ∨ w = 3 := by omega
  rcases h1 with rfl | rfl | rfl | rfl | rfl | rfl | rfl | rfl <;> rcases h2 with rfl | rfl | rfl | rfl <;> first | exact absurd hp (by decide) | (simp [xD, fl_it, kD, kpl, k_pl, d2, pop4] <;> grind)
theorem xd_3_0 (a : Nat → Nat → Int) {u w : Nat} (hu : u < 1) (hw : w < 8) (hp : pop4 u = pop4 w) : xD 3 a u 0 0 w = kD a u w (pop4 u) := by
  have h1 : u = 0 := by omega
  have h2 : w = 0 ∨ w = 1 ∨ w = 2 ∨ w = 3 ∨ w = 4 ∨ w = 5 ∨ w = 6 ∨ w = 7 := by omega
  rcases h1 with rfl <;> rcases h2 with rfl | rfl | rfl | rfl | rfl | rfl | rfl | rfl <;> first | exact absurd hp (by decide) | (simp [xD, fl_it, kD, kpl, k_pl, d2, pop4] <;> grind)
theorem xd_3_1 (a : Nat → Nat → Int) {u w : Nat} (hu : u < 2) (hw : w < 8) (hp : pop4 u = pop4 w) : xD 3 a u 1 0 w = kD a u w (pop4 u) := by
  have h1 : u = 0 ∨ u = 1 := by omega
  have h2 : w = 0 ∨ w = 1 ∨ w = 2 ∨ w = 3 ∨ w = 4 ∨ w = 5 ∨ w = 6 ∨ w = 7 := by omega
  rcases h1 with rfl | rfl <;> rcases h2 with rfl | rfl | rfl | rfl | rfl | rfl | rfl | rfl <;> first | exact absurd hp (by decide) | (simp [xD, fl_it, kD, kpl, k_pl, d2, pop4] <;> grind)
theorem xd_3_2 (a : Nat → Nat → Int) {u w : Nat} (hu : u < 4) (hw : w < 8) (hp : pop4 u = pop4 w) : xD 3 a u 2 0 w = kD a u w (pop4 u) := by
  have h1 : u = 0 ∨ u = 1 ∨ u = 2 ∨ u = 3 := by omega
  have h2 : w = 0 ∨ w = 1 ∨ w = 2 ∨ w = 3 ∨ w = 4 ∨ w = 5 ∨ w = 6 ∨ w = 7 := by omega
  rcases h1 with rfl | rfl | rfl | rfl <;> rcases h2 with rfl | rfl | rfl | rfl | rfl | rfl | rfl | rfl <;> first | exact absurd hp (by decide) | (simp [xD, fl_it, kD, kpl, k_pl, d2, pop4] <;> grind)
theorem xd_3_3 (a : Nat → Nat → Int) {u w : Nat} (hu : u < 8) (hw : w < 8) (hp : pop4 u = pop4 w) : xD 3 a u 3 0 w = kD a u w (pop4 u) := by
  have h1 : u = 0 ∨ u = 1 ∨ u = 2 ∨ u = 3 ∨ u = 4 ∨ u = 5 ∨ u = 6 ∨ u = 7 := by omega
  have h2 : w = 0 ∨ w = 1 ∨ w = 2 ∨ w = 3 ∨ w = 4 ∨ w = 5 ∨ w = 6 ∨ w = 7 := by omega
  rcases h1 with rfl | rfl | rfl | rfl | rfl | rfl | rfl | rfl <;> rcases h2 with rfl | rfl | rfl | rfl | rfl | rfl | rfl | rfl <;> first | exact absurd hp (by decide) | (simp [xD, fl_it, kD, kpl, k_pl, d2, pop4] <;> grind)
theorem xd_4_0 (a : Nat → Nat → Int) {u w : Nat} (hu : u < 1) (hw : w < 16) (hp : pop4 u = pop4 w) : xD 4 a u 0 0 w = kD a u w (pop4 u) := by
  have h1 : u = 0 := by omega
  have h2 : w = 0 ∨ w = 1 ∨ w = 2 ∨ w = 3 ∨ w = 4 ∨ w = 5 ∨ w = 6 ∨ w = 7 ∨ w = 8 ∨ w = 9 ∨ w = 10 ∨ w = 11 ∨ w = 12 ∨ w = 13 ∨ w = 14 ∨ w = 15 := by omega
  rcases h1 with rfl <;> rcases h2 with rfl | rfl | rfl | rfl | rfl | rfl | rfl | rfl | rfl | rfl | rfl | rfl | rfl | rfl | rfl | rfl <;> first | exact absurd hp (by decide) | (simp [xD, fl_it, kD, kpl, k_pl, d2, pop4] <;> grind)
theorem xd_4_1 (a : Nat → Nat → Int) {u w : Nat} (hu : u < 2) (hw : w < 16) (hp : pop4 u = pop4 w) : xD 4 a u 1 0 w = kD a u w (pop4 u) := by
  have h1 : u = 0 ∨ u = 1 := by omega
  have h2 : w = 0 ∨ w = 1 ∨ w = 2 ∨ w = 3 ∨ w = 4 ∨ w = 5 ∨ w = 6 ∨ w = 7 ∨ w = 8 ∨ w = 9 ∨ w = 10 ∨ w = 11 ∨ w = 12 ∨ w = 13 ∨ w = 14 ∨ w = 15 := by omega
  rcases h1 with rfl | rfl <;> rcases h2 with rfl | rfl | rfl | rfl | rfl | rfl | rfl | rfl | rfl | rfl | rfl | rfl | rfl | rfl | rfl | rfl <;> first | exact absurd hp (by decide) | (simp [xD, fl_it, kD, kpl, k_pl, d2, pop4] <;> grind)
theorem xd_4_2 (a : Nat → Nat → Int) {u w : Nat} (hu : u < 4) (hw : w < 16) (hp : pop4 u = pop4 w) : xD 4 a u 2 0 w = kD a u w (pop4 u) := by
  have h1 : u = 0 ∨ u = 1 ∨ u = 2 ∨ u = 3 := by omega
  have h2 : w = 0 ∨ w = 1 ∨ w = 2 ∨ w = 3 ∨ w = 4 ∨ w = 5 ∨ w = 6 ∨ w = 7 ∨ w = 8 ∨ w = 9 ∨ w = 10 ∨ w = 11 ∨ w = 12 ∨ w = 13 ∨ w = 14 ∨ w = 15 := by omega
  rcases h1 with rfl | rfl | rfl | rfl <;> rcases h2 with rfl | rfl | rfl | rfl | rfl | rfl | rfl | rfl | rfl | rfl | rfl | rfl | rfl | rfl | rfl | rfl <;> first | exact absurd hp (by decide) | (simp [xD, fl_it, kD, kpl, k_pl, d2, pop4] <;> grind)
theorem xd_4_3 (a : Nat → Nat → Int) {u w : Nat} (hu : u < 8) (hw : w < 16) (hp : pop4 u = pop4 w) : xD 4 a u 3 0 w = kD a u w (pop4 u) := by
  have h1 : u = 0 ∨ u = 1 ∨ u = 2 ∨ u = 3 ∨ u = 4 ∨ u = 5 ∨ u = 6 ∨ u = 7 := by omega
  have h2 : w = 0 ∨ w = 1 ∨ w = 2 ∨ w = 3 ∨ w = 4 ∨ w = 5 ∨ w = 6 ∨ w = 7 ∨ w = 8 ∨ w = 9 ∨ w = 10 ∨ w = 11 ∨ w = 12 ∨ w = 13 ∨ w = 14 ∨ w = 15 := by omega
  rcases h1 with rfl | rfl | rfl | rfl | rfl | rfl | rfl | rfl <;> rcases h2 with rfl | rfl | rfl | rfl | rfl | rfl | rfl | rfl | rfl | rfl | rfl | rfl | rfl | rfl | rfl | rfl <;> first | exact absurd hp (by decide) | (simp [xD, fl_it, kD, kpl, k_pl, d2, pop4] <;> grind)
theorem xd_all {a : Nat → Nat → Int} {n e u w : Nat} (hn1 : 1 ≤ n) (hn : n ≤ 4) (he : e ≤ 3) (hu : u < 2 ^ e) (hw : w < 2 ^ n) (hp : pop4 u = pop4 w) : xD n a u e 0 w = kD a u w (pop4 u) := by
  have h1 : n = 1 ∨ n = 2 ∨ n = 3 ∨ n = 4 := by omega
  have h2 : e = 0 ∨ e = 1 ∨ e = 2 ∨ e = 3 := by omega
  rcases h1 with rfl | rfl | rfl | rfl <;> rcases h2 with rfl | rfl | rfl | rfl
  · exact xd_1_0 a hu hw hp
  · exact xd_1_1 a hu hw hp
  · exact xd_1_2 a hu hw hp
  · exact xd_1_3 a hu hw hp
  · exact xd_2_0 a hu hw hp
  · exact xd_2_1 a hu hw hp
  · exact xd_2_2 a hu hw hp
  · exact xd_2_3 a hu hw hp
  · exact xd_3_0 a hu hw hp
  · exact xd_3_1 a hu hw hp
  · exact xd_3_2 a hu hw hp
  · exact xd_3_3 a hu hw hp
  · exact xd_4_0 a hu hw hp
  · exact xd_4_1 a hu hw hp
  · exact xd_4_2 a hu hw hp
  · exact xd_4_3 a hu hw hp
