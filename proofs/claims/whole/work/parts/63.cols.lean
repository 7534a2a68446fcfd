/-! what the loops over the places of a row come to -/
theorem fl_it_col (f : Nat → fl_TJ → fl_TJ) (g : Nat → fl_TJ → Nat → Int64) (hf : ∀ (j : Nat) (J : fl_TJ) (a : Nat), f j J a j = g j J a) (hn : ∀ (j : Nat) (J : fl_TJ) (a b : Nat), b ≠ j → f j J a b = J a b) (hg : ∀ (j : Nat) (J J' : fl_TJ), (∀ a, J a j = J' a j) → ∀ a, g j J a = g j J' a) :
    ∀ (k i : Nat) (J : fl_TJ) (a x : Nat), fl_it f k i J a x = if i ≤ x ∧ x < i + k then g x J a else J a x := by
  intro k
  induction k with
  | zero => intro i J a x; rw [if_neg (by omega)]; rfl
  | succ k ih =>
    intro i J a x
    show fl_it f k (i + 1) (f i J) a x = _
    rw [ih]
    by_cases h1 : i = x
    · subst h1
      rw [if_neg (by omega), if_pos (by omega)]
      exact hf i J a
    · by_cases h2 : i + 1 ≤ x ∧ x < i + 1 + k
      · rw [if_pos h2, if_pos (by omega)]
        exact hg x _ _ (fun a => hn i J a x (by omega)) a
      · rw [if_neg h2, if_neg (by omega)]
        exact hn i J a x (by omega)
theorem j_fill_at (q : Nat) (J : fl_TJ) (a x : Nat) : j_fill q J a x = if a = q ∧ x < fl_n q then 0 else J a x := by
  unfold j_fill
  rw [fl_it_col _ (fun j J a => if a = q then 0 else J a j) (fun j J a => ?_) (fun j J a b h => fl_up_j h) (fun j J J' h a => ?_)]
  · by_cases h1 : a = q <;> by_cases h2 : x < fl_n q <;> simp [h1, h2]
  · by_cases h : a = q
    · subst h; show fl_up J a j 0 a j = _; rw [fl_up_s, if_pos rfl]
    · show fl_up J q j 0 a j = _; rw [fl_up_k h, if_neg h]
  · show (if a = q then 0 else J a j) = (if a = q then 0 else J' a j)
    rw [h a]
theorem j_div1_at {ru rl : Nat} (hne : ru ≠ rl) (w : Nat) (t : Int64) (J : fl_TJ) (a x : Nat) : j_div1 ru rl w t J a x = if x < w then (if a = ru then J rl x else if a = rl then J ru x - t * J rl x else J a x) else J a x := by
  unfold j_div1
  rw [fl_it_col _ (fun j J a => if a = ru then J rl j else if a = rl then J ru j - t * J rl j else J a j) (fun j J a => ?_) (fun j J a b h => ?_) (fun j J J' h a => ?_)]
  · by_cases h2 : x < w <;> simp [h2]
  · show fl_up (fl_up J ru j (J rl j)) rl j (J ru j - t * J rl j) a j = _
    by_cases h1 : a = ru
    · subst h1; rw [fl_up_k hne, fl_up_s, if_pos rfl]
    · rw [if_neg h1]
      by_cases h2 : a = rl
      · subst h2; rw [fl_up_s, if_pos rfl]
      · rw [fl_up_k h2, fl_up_k h1, if_neg h2]
  · show fl_up (fl_up J ru j (J rl j)) rl j (J ru j - t * J rl j) a b = _
    rw [fl_up_j h, fl_up_j h]
  · show (if a = ru then J rl j else if a = rl then J ru j - t * J rl j else J a j) = (if a = ru then J' rl j else if a = rl then J' ru j - t * J' rl j else J' a j)
    rw [h a, h rl, h ru]
theorem j_red1_at {q r : Nat} (hne : q ≠ r) (w : Nat) (t : Int64) (J : fl_TJ) (a x : Nat) : j_red1 q r w t J a x = if a = q ∧ x < w then J q x - t * J r x else J a x := by
  unfold j_red1
  rw [fl_it_col _ (fun j J a => if a = q then J q j - t * J r j else J a j) (fun j J a => ?_) (fun j J a b h => fl_up_j h) (fun j J J' h a => ?_)]
  · by_cases h1 : a = q <;> by_cases h2 : x < w <;> simp [h1, h2]
  · by_cases h : a = q
    · subst h; show fl_up J a j _ a j = _; rw [fl_up_s, if_pos rfl]
    · show fl_up J q j _ a j = _; rw [fl_up_k h, if_neg h]
  · show (if a = q then J q j - t * J r j else J a j) = (if a = q then J' q j - t * J' r j else J' a j)
    rw [h a, h q, h r]
theorem j_neg_at (r w : Nat) (J : fl_TJ) (a x : Nat) : j_neg r w J a x = if a = r ∧ x < w then -(J r x) else J a x := by
  unfold j_neg
  rw [fl_it_col _ (fun j J a => if a = r then -(J r j) else J a j) (fun j J a => ?_) (fun j J a b h => fl_up_j h) (fun j J J' h a => ?_)]
  · by_cases h1 : a = r <;> by_cases h2 : x < w <;> simp [h1, h2]
  · by_cases h : a = r
    · subst h; show fl_up J a j _ a j = _; rw [fl_up_s, if_pos rfl]
    · show fl_up J r j _ a j = _; rw [fl_up_k h, if_neg h]
  · show (if a = r then -(J r j) else J a j) = (if a = r then -(J' r j) else J' a j)
    rw [h a, h r]
/-- the model's rows lie one behind the other -/
theorem k_take_at {a b w : Nat} (hw : w ≤ 8) (t : Int64) (J : fl_TJ) (r x : Nat) (hx : x < 8) (hne : a ≠ b ∨ t = 2) : k_take a b w t J 33 (8 * r + x) = if r = a ∧ x < w then J 33 (8 * a + x) - t * J 33 (8 * b + x) else J 33 (8 * r + x) := by
  have gen : ∀ (k i : Nat) (J : fl_TJ), i + k ≤ 8 → fl_it (fun j J => fl_up J 33 (8 * a + j) (J 33 (8 * a + j) - t * J 33 (8 * b + j))) k i J 33 (8 * r + x) = if r = a ∧ i ≤ x ∧ x < i + k then J 33 (8 * a + x) - t * J 33 (8 * b + x) else J 33 (8 * r + x) := by
    intro k
    induction k with
    | zero => intro i J _; rw [if_neg (by omega)]; rfl
    | succ k ih =>
      intro i J hk
      show fl_it _ k (i + 1) (fl_up J 33 (8 * a + i) (J 33 (8 * a + i) - t * J 33 (8 * b + i))) 33 (8 * r + x) = _
      rw [ih (i + 1) _ (by omega)]
      by_cases h1 : r = a ∧ i = x
      · obtain ⟨rfl, rfl⟩ := h1
        rw [if_neg (by omega), if_pos (by omega), fl_up_s]
      · by_cases h2 : r = a ∧ i + 1 ≤ x ∧ x < i + 1 + k
        · rw [if_pos h2, if_pos (by omega), fl_up_j (by omega), fl_up_j (by omega)]
        · rw [if_neg h2, if_neg (by omega), fl_up_j (by omega)]
  unfold k_take
  rw [gen w 0 J (by omega)]
  by_cases h : r = a ∧ x < w
  · rw [if_pos h, if_pos (by omega)]
  · rw [if_neg h, if_neg (by omega)]
theorem k_chg_at2 {a b : Nat} (J : fl_TJ) (r x : Nat) (hx : x < 8) : k_chg a b J 33 (8 * r + x) = if r = a then J 33 (8 * b + x) else if r = b then J 33 (8 * a + x) else J 33 (8 * r + x) := by
  have gen : ∀ (k i : Nat) (J : fl_TJ), i + k ≤ 8 → fl_it (fun j J => fl_up (fl_up J 33 (8 * a + j) (J 33 (8 * b + j))) 33 (8 * b + j) (J 33 (8 * a + j))) k i J 33 (8 * r + x) = if i ≤ x ∧ x < i + k then (if r = a then J 33 (8 * b + x) else if r = b then J 33 (8 * a + x) else J 33 (8 * r + x)) else J 33 (8 * r + x) := by
    intro k
    induction k with
    | zero => intro i J _; rw [if_neg (by omega)]; rfl
    | succ k ih =>
      intro i J hk
      show fl_it _ k (i + 1) (fl_up (fl_up J 33 (8 * a + i) (J 33 (8 * b + i))) 33 (8 * b + i) (J 33 (8 * a + i))) 33 (8 * r + x) = _
      rw [ih (i + 1) _ (by omega)]
      by_cases h1 : i = x
      · subst h1
        rw [if_neg (by omega), if_pos (by omega)]
        by_cases h2 : r = a
        · subst h2
          rw [if_pos rfl]
          by_cases h3 : r = b
          · subst h3; rw [fl_up_s]
          · rw [fl_up_j (by omega), fl_up_s]
        · rw [if_neg h2]
          by_cases h3 : r = b
          · subst h3; rw [fl_up_s, if_pos rfl]
          · rw [fl_up_j (by omega), fl_up_j (by omega), if_neg h3]
      · by_cases h2 : i + 1 ≤ x ∧ x < i + 1 + k
        · have e : ∀ z, fl_up (fl_up J 33 (8 * a + i) (J 33 (8 * b + i))) 33 (8 * b + i) (J 33 (8 * a + i)) 33 (8 * z + x) = J 33 (8 * z + x) := fun z => by rw [fl_up_j (by omega), fl_up_j (by omega)]
          rw [if_pos h2, e, e, e, if_pos (show i ≤ x ∧ x < i + (k + 1) by omega)]
        · rw [if_neg h2, if_neg (by omega), fl_up_j (by omega), fl_up_j (by omega)]
  unfold k_chg
  rw [gen 8 0 J (by omega), if_pos (by omega)]
