/-! the model's form is the form -/
theorem k_rel1_at (j e : Nat) (I : fl_TI) (J : fl_TJ) (r x : Nat) (hx : x < 8) : k_rel1 j e I J 33 (8 * r + x) = if r = j then (if e ≤ x then (if x ≠ e + j then 0 else 1) else (I 31 (4 * x + j)).toInt64) else J 33 (8 * r + x) := by
  have gen : ∀ (k i : Nat) (J : fl_TJ), i + k ≤ 8 → fl_it (fun q J => fl_up J 33 (8 * j + q) (if e ≤ q then (if q ≠ e + j then 0 else 1) else (I 31 (4 * q + j)).toInt64)) k i J 33 (8 * r + x) = if r = j ∧ i ≤ x ∧ x < i + k then (if e ≤ x then (if x ≠ e + j then 0 else 1) else (I 31 (4 * x + j)).toInt64) else J 33 (8 * r + x) := by
    intro k
    induction k with
    | zero => intro i J _; rw [if_neg (by omega)]; rfl
    | succ k ih =>
      intro i J hk
      show fl_it _ k (i + 1) (fl_up J 33 (8 * j + i) (if e ≤ i then (if i ≠ e + j then 0 else 1) else (I 31 (4 * i + j)).toInt64)) 33 (8 * r + x) = _
      rw [ih (i + 1) _ (by omega)]
      by_cases h1 : r = j ∧ i = x
      · obtain ⟨rfl, rfl⟩ := h1
        rw [if_neg (by omega), if_pos (show r = r ∧ i ≤ i ∧ i < i + (k + 1) by omega), fl_up_s]
      · by_cases h2 : r = j ∧ i + 1 ≤ x ∧ x < i + 1 + k
        · rw [if_pos h2, if_pos (show r = j ∧ i ≤ x ∧ x < i + (k + 1) by omega)]
        · rw [if_neg h2, if_neg (show ¬ (r = j ∧ i ≤ x ∧ x < i + (k + 1)) by omega), fl_up_j (by omega)]
  unfold k_rel1
  rw [gen 8 0 J (by omega)]
  by_cases h : r = j
  · rw [if_pos ⟨h, by omega⟩, if_pos h]
  · rw [if_neg (fun q => h q.1), if_neg h]
theorem k_rel_at (n e : Nat) (I : fl_TI) (J : fl_TJ) (r x : Nat) (hx : x < 8) (hr : r < n) : k_rel n e I J 33 (8 * r + x) = if e ≤ x then (if x ≠ e + r then 0 else 1) else (I 31 (4 * x + r)).toInt64 := by
  have gen : ∀ (k i : Nat) (J : fl_TJ), fl_it (fun j J => k_rel1 j e I J) k i J 33 (8 * r + x) = if i ≤ r ∧ r < i + k then (if e ≤ x then (if x ≠ e + r then 0 else 1) else (I 31 (4 * x + r)).toInt64) else J 33 (8 * r + x) := by
    intro k
    induction k with
    | zero => intro i J; rw [if_neg (by omega)]; rfl
    | succ k ih =>
      intro i J
      show fl_it _ k (i + 1) (k_rel1 i e I J) 33 (8 * r + x) = _
      rw [ih, k_rel1_at i e I J r x hx]
      by_cases h1 : r = i
      · subst h1
        rw [if_neg (by omega), if_pos rfl, if_pos (show r ≤ r ∧ r < r + (k + 1) by omega)]
      · rw [if_neg h1]
        by_cases h2 : i + 1 ≤ r ∧ r < i + 1 + k
        · rw [if_pos h2, if_pos (show i ≤ r ∧ r < i + (k + 1) by omega)]
        · rw [if_neg h2, if_neg (show ¬ (i ≤ r ∧ r < i + (k + 1)) by omega)]
  unfold k_rel
  rw [gen, if_pos (by omega)]
theorem wm_begin {n e : Nat} {I : fl_TI} {J : fl_TJ} (hn : n ≤ 4) (he : e ≤ 3) : shM n (e + n) (k_rel n e I J) (rm (fun x i => (I 31 (4 * x + i)).toInt) e n) := by
  intro i x hi hx
  rw [k_rel_at n e I J i x (by omega) hi]
  unfold rm
  by_cases h : x < e
  · rw [if_pos h, if_neg (by omega), if_pos hi]
    exact i64_of _
  · rw [if_neg h, if_pos (by omega)]
    by_cases h2 : x = e + i
    · rw [if_neg (fun q => q h2), if_pos ⟨by omega, h2⟩]; rfl
    · rw [if_pos h2, if_neg (fun q => h2 q.2)]; rfl
theorem wm_start {a : Nat → Nat → Int} {e n : Nat} (ha : sml a e n) (hn : n ≤ 4) : WM a e n 0 0 (rm a e n) (fun _ => 0) := by
  refine ⟨idN, rm_NT hn, rm_lin hn, ⟨fun i hi => by omega, fun i j _ hj => by omega, fun i j _ hj => by omega, fun i _ _ x hx => by omega⟩, fun j hj => ?_, ⟨fun _ j x _ => rm_9 ha j x, fun q => by omega⟩, fun _ _ => rfl, fun i x hi hx => ?_, fun _ _ => rfl⟩
  · have e1 : ∀ j, j < 4 → bM 0 j = 1 := by decide
    rw [e1 j hj]
    exact idN_bd j
  · unfold rm
    rw [if_neg (by omega), if_neg (fun q => by omega)]
/-- relate: the rows, the leads, the rank -/
theorem k_rel_form {n e fu : Nat} {I : fl_TI} {J : fl_TJ} (hn1 : 1 ≤ n) (hn : n ≤ 4) (he : e ≤ 3) (ha : sml (fun x i => (I 31 (4 * x + i)).toInt) e n) (hf : 9223372036854775808 ≤ fu) :
    ∃ Ir Jr T L, k_R fu n e I J Ir Jr n ∧ Fm (fun x i => (I 31 (4 * x + i)).toInt) e n T L ∧ shM n (e + n) Jr T ∧ (∀ i, i < n → Ir 34 i = nI (L i)) ∧ ∀ i, i < n → ldI Ir 34 i = L i := by
  obtain ⟨I', J', T, L, c, h1, h2, h3, h4, h5⟩ := wm_form ha hn he hf (e + n) 0 0 I _ _ _ (by omega) (by omega) (wm_start ha hn) (wm_begin (J := J) hn he) (fun i hi => by omega)
  obtain ⟨N, w1, w2, w3, w4, -, w6, -, w8⟩ := h3
  have hF : Fm (fun x i => (I 31 (4 * x + i)).toInt) e n T L := fm_of ha hn h2 w1 w2 w3 (fun j hj => by rw [← bM_low n j (by omega) hj]; exact w4 j (by omega)) (fun j hj hj4 => by
    rw [w8 j hj]
    intro x hx
    have := idN_bd j x hx
    have := Nat.one_le_two_pow (n := j)
    omega) w6
  have hld : ∀ i, i < n → fl_up I' 30 5 (nI n) 34 i = nI (L i) := fun i hi => by rw [fl_up_k (by omega)]; exact h5 i hi
  have hld2 : ∀ i, i < n → ldI (fl_up I' 30 5 (nI n)) 34 i = L i := fun i hi => ldI_of (hld i hi) (by have := (hF.1.1 i hi).1; omega)
  refine ⟨fl_up I' 30 5 (nI n), J', T, L, ⟨I', h1, rfl, fun r hr => ?_⟩, hF, h4, hld, hld2⟩
  rw [hld2 r hr]
  obtain ⟨p1, p2, -⟩ := hF.1.1 r hr
  rw [h4 r (L r) hr p1]
  have := hF.2.2.2.1 r (L r) hr p1
  exact fun q => by
    have := (oI_eq0 (show fit (T r (L r)) by unfold fit; omega)).mp q
    omega
