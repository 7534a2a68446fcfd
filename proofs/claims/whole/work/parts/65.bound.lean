/-! what Cramer bounds; a row of T is nowhere empty -/
def bd (v : Nat → Int) (k : Nat) : Prop := ∀ i, i < 4 → (v i).natAbs ≤ k
theorem na_add (a b : Int) : (a + b).natAbs ≤ a.natAbs + b.natAbs := Int.natAbs_add_le a b
theorem na_sub (a b : Int) : (a - b).natAbs ≤ a.natAbs + b.natAbs := by omega
theorem na_mul {a b : Int} {x y : Nat} (h1 : a.natAbs ≤ x) (h2 : b.natAbs ≤ y) : (a * b).natAbs ≤ x * y := by
  rw [Int.natAbs_mul]; exact Nat.mul_le_mul h1 h2
theorem d3_bd {b c d : Nat → Int} {x y z i j k : Nat} (hb : bd b x) (hc : bd c y) (hd : bd d z) (hi : i < 4) (hj : j < 4) (hk : k < 4) : (d3 b c d i j k).natAbs ≤ 6 * (x * y * z) := by
  have t : ∀ i j k, i < 4 → j < 4 → k < 4 → (b i * (c j * d k - c k * d j)).natAbs ≤ 2 * (x * y * z) := fun i j k hi hj hk => by
    have h1 := na_mul (hc j hj) (hd k hk)
    have h2 := na_mul (hc k hk) (hd j hj)
    have h3 := na_sub (c j * d k) (c k * d j)
    have h4 := na_mul (hb i hi) (show (c j * d k - c k * d j).natAbs ≤ 2 * (y * z) by omega)
    have e : x * (2 * (y * z)) = 2 * (x * y * z) := by rw [Nat.mul_left_comm, Nat.mul_assoc]
    omega
  have h1 := t i j k hi hj hk
  have h2 := t j i k hj hi hk
  have h3 := t k i j hk hi hj
  have h4 := na_sub (b i * (c j * d k - c k * d j)) (b j * (c i * d k - c k * d i))
  have h5 := na_add (b i * (c j * d k - c k * d j) - b j * (c i * d k - c k * d i)) (b k * (c i * d j - c j * d i))
  unfold d3
  omega
theorem d4_bd {a b c d : Nat → Int} {S x y z : Nat} (ha : (a 0).natAbs + (a 1).natAbs + (a 2).natAbs + (a 3).natAbs ≤ S) (hb : bd b x) (hc : bd c y) (hd : bd d z) : (d4 a b c d).natAbs ≤ S * (6 * (x * y * z)) := by
  have h1 := na_mul (Nat.le_refl (a 0).natAbs) (d3_bd hb hc hd (show 1 < 4 by decide) (show 2 < 4 by decide) (show 3 < 4 by decide))
  have h2 := na_mul (Nat.le_refl (a 1).natAbs) (d3_bd hb hc hd (show 0 < 4 by decide) (show 2 < 4 by decide) (show 3 < 4 by decide))
  have h3 := na_mul (Nat.le_refl (a 2).natAbs) (d3_bd hb hc hd (show 0 < 4 by decide) (show 1 < 4 by decide) (show 3 < 4 by decide))
  have h4 := na_mul (Nat.le_refl (a 3).natAbs) (d3_bd hb hc hd (show 0 < 4 by decide) (show 1 < 4 by decide) (show 2 < 4 by decide))
  have h5 := Nat.mul_le_mul_right (6 * (x * y * z)) ha
  rw [Nat.add_mul, Nat.add_mul, Nat.add_mul] at h5
  have h6 := na_sub (a 0 * d3 b c d 1 2 3) (a 1 * d3 b c d 0 2 3)
  have h7 := na_add (a 0 * d3 b c d 1 2 3 - a 1 * d3 b c d 0 2 3) (a 2 * d3 b c d 0 1 3)
  have h8 := na_sub (a 0 * d3 b c d 1 2 3 - a 1 * d3 b c d 0 2 3 + a 2 * d3 b c d 0 1 3) (a 3 * d3 b c d 0 1 2)
  unfold d4
  omega
def s4 (R : Nat → Nat → Int) (x : Nat) : Nat := (R 0 x).natAbs + (R 1 x).natAbs + (R 2 x).natAbs + (R 3 x).natAbs
theorem NT.abs {R T N : Nat → Nat → Int} (h : NT R T N) {j : Nat} (hj : j < 4) (x : Nat) : (T j x).natAbs = (det4 (rep N j (fun i => R i x))).natAbs := by
  have e := cramer h hj x
  rw [← e, Int.natAbs_mul]
  rcases h.2 with f | f <;> rw [f] <;> simp
theorem NT.bd0 {R T N : Nat → Nat → Int} (h : NT R T N) {x S a b c : Nat} (hS : s4 R x ≤ S) (h1 : bd (N 1) a) (h2 : bd (N 2) b) (h3 : bd (N 3) c) : (T 0 x).natAbs ≤ S * (6 * (a * b * c)) := by
  rw [h.abs (by decide) x]
  exact d4_bd hS h1 h2 h3
theorem NT.bd1 {R T N : Nat → Nat → Int} (h : NT R T N) {x S a b c : Nat} (hS : s4 R x ≤ S) (h1 : bd (N 0) a) (h2 : bd (N 2) b) (h3 : bd (N 3) c) : (T 1 x).natAbs ≤ S * (6 * (a * b * c)) := by
  rw [h.abs (by decide) x]
  show (d4 (N 0) (fun i => R i x) (N 2) (N 3)).natAbs ≤ _
  rw [d4_s1, Int.natAbs_neg]
  exact d4_bd hS h1 h2 h3
theorem NT.bd2 {R T N : Nat → Nat → Int} (h : NT R T N) {x S a b c : Nat} (hS : s4 R x ≤ S) (h1 : bd (N 0) a) (h2 : bd (N 1) b) (h3 : bd (N 3) c) : (T 2 x).natAbs ≤ S * (6 * (a * b * c)) := by
  rw [h.abs (by decide) x]
  show (d4 (N 0) (N 1) (fun i => R i x) (N 3)).natAbs ≤ _
  rw [d4_s2, d4_s1, Int.natAbs_neg, Int.natAbs_neg]
  exact d4_bd hS h1 h2 h3
theorem NT.bd3 {R T N : Nat → Nat → Int} (h : NT R T N) {x S a b c : Nat} (hS : s4 R x ≤ S) (h1 : bd (N 0) a) (h2 : bd (N 1) b) (h3 : bd (N 2) c) : (T 3 x).natAbs ≤ S * (6 * (a * b * c)) := by
  rw [h.abs (by decide) x]
  show (d4 (N 0) (N 1) (N 2) (fun i => R i x)).natAbs ≤ _
  rw [d4_s3, d4_s2, d4_s1, Int.natAbs_neg, Int.natAbs_neg, Int.natAbs_neg]
  exact d4_bd hS h1 h2 h3
/-- the unit columns of R begin at e -/
def unitR (R : Nat → Nat → Int) (e : Nat) : Prop := ∀ i j, i < 4 → j < 4 → R i (e + j) = if i = j then 1 else 0
theorem d4_c0 {a a' b c d : Nat → Int} (h : ∀ i, i < 4 → a i = a' i) : d4 a b c d = d4 a' b c d := by
  unfold d4
  rw [h 0 (by decide), h 1 (by decide), h 2 (by decide), h 3 (by decide)]
theorem d4_unit {a b c d : Nat → Int} (h : ∀ j, j < 4 → d4 (fun i => if i = j then 1 else 0) b c d = 0) : d4 a b c d = 0 := by
  have h0 := h 0 (by decide)
  have h1 := h 1 (by decide)
  have h2 := h 2 (by decide)
  have h3 := h 3 (by decide)
  unfold d4 at h0 h1 h2 h3 ⊢
  simp at h0 h1 h2 h3
  rw [h0, h1, h2, h3]
  simp
theorem NT.full {R T N : Nat → Nat → Int} (h : NT R T N) {e : Nat} (hu : unitR R e) {k : Nat} (hk : k < 4) : ∃ j, j < 4 ∧ T k (e + j) ≠ 0 := by
  apply Classical.byContradiction
  intro hn
  have hz : ∀ j, j < 4 → T k (e + j) = 0 := fun j hj => Classical.byContradiction (fun q => hn ⟨j, hj, q⟩)
  have hc : ∀ j, j < 4 → det4 (rep N k (fun i => R i (e + j))) = 0 := fun j hj => by
    rw [← cramer h hk, hz j hj]; omega
  have hd : det4 N = 0 := by
    unfold det4 rep at hc
    unfold det4
    rcases lt4 hk with rfl | rfl | rfl | rfl
    · refine d4_unit (fun j hj => ?_)
      refine Eq.trans (d4_c0 (fun i hi => (hu i j hi hj).symm)) (hc j hj)
    · rw [d4_s1, d4_unit (fun j hj => ?_)]; rfl
      have := hc j hj
      simp only [if_true, if_false, show ¬ (0 = 1) from by decide, show ¬ (2 = 1) from by decide, show ¬ (3 = 1) from by decide] at this
      rw [d4_s1] at this
      rw [d4_c0 (fun i hi => (hu i j hi hj).symm)]
      omega
    · rw [d4_s2, d4_s1, d4_unit (fun j hj => ?_)]; rfl
      have := hc j hj
      simp only [if_true, if_false, show ¬ (0 = 2) from by decide, show ¬ (1 = 2) from by decide, show ¬ (3 = 2) from by decide] at this
      rw [d4_s2, d4_s1] at this
      rw [d4_c0 (fun i hi => (hu i j hi hj).symm)]
      omega
    · rw [d4_s3, d4_s2, d4_s1, d4_unit (fun j hj => ?_)]; rfl
      have := hc j hj
      simp only [if_true, if_false, show ¬ (0 = 3) from by decide, show ¬ (1 = 3) from by decide, show ¬ (2 = 3) from by decide] at this
      rw [d4_s3, d4_s2, d4_s1] at this
      rw [d4_c0 (fun i hi => (hu i j hi hj).symm)]
      omega
  rcases h.2 with f | f <;> omega
/-- the first columns come of the unit columns -/
def LinT (R T : Nat → Nat → Int) (e : Nat) : Prop := ∀ i c, c < e → T i c = R 0 c * T i (e + 0) + R 1 c * T i (e + 1) + R 2 c * T i (e + 2) + R 3 c * T i (e + 3)
theorem LinT.op {R T : Nat → Nat → Int} {e : Nat} (h : LinT R T e) (u l : Nat) (z : Opc) : LinT R (opT u l z T) e := by
  intro i c hc
  by_cases h1 : i = u
  · subst h1
    rw [opT_u, opT_u, opT_u, opT_u, opT_u, h i c hc, h l c hc]
    grind
  · by_cases h2 : i = l
    · subst h2
      rw [opT_l (Ne.symm h1), opT_l (Ne.symm h1), opT_l (Ne.symm h1), opT_l (Ne.symm h1), opT_l (Ne.symm h1), h i c hc, h u c hc]
      grind
    · rw [opT_o h1 h2, opT_o h1 h2, opT_o h1 h2, opT_o h1 h2, opT_o h1 h2]
      exact h i c hc
