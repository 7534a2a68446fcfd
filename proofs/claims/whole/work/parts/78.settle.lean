/-! what is left of a row -/
theorem rv_far {T : Nat → Nat → Int} {L : Nat → Nat} {n w : Nat} (h : Ech T L n w) (v : Nat → Int) {i : Nat} : ∀ k, i < k → k ≤ n → rv T L v k (L i) = rv T L v (i + 1) (L i) := by
  intro k
  induction k with
  | zero => intro h; omega
  | succ k ih =>
    intro h1 h2
    by_cases q : i = k
    · subst q; rfl
    · show rv T L v k (L i) - (rv T L v k (L k)).fdiv (T k (L k)) * T k (L i) = _
      rw [(h.1 k (by omega)).2.2 (L i) (h.2.1 i k (by omega) (by omega)), ih (by omega) (by omega)]
      omega
theorem rv_zero {T : Nat → Nat → Int} {L : Nat → Nat} {n w : Nat} (h : Ech T L n w) (v : Nat → Int) {q : Nat} (hq : q ≤ w) : (∀ c, c < q → rv T L v n c = 0) ↔ ∃ z, Sp T n w z ∧ ∀ c, c < q → v c = z c := by
  obtain ⟨⟨t, t1, t2⟩, i2⟩ := rv_spec h v n (Nat.le_refl _)
  constructor
  · intro h0
    refine ⟨fun x => sm n (fun i => t i * T i x), ⟨t, fun x _ => rfl⟩, fun c hc => ?_⟩
    have := t1 c
    rw [h0 c hc] at this
    show v c = sm n (fun i => t i * T i c)
    omega
  · rintro ⟨z, hz, hv⟩ c hc
    apply Classical.byContradiction
    intro hne
    have hy : Sp T n w (fun x => 1 * z x + (-1) * sm n (fun i => t i * T i x)) := Sp.comb 1 (-1) hz ⟨t, fun x _ => rfl⟩
    have ey : ∀ x, x < q → 1 * z x + (-1) * sm n (fun i => t i * T i x) = rv T L v n x := fun x hx => by
      rw [t1 x, hv x hx]; omega
    obtain ⟨i, p1, p2, p3, p4⟩ := sp_first h hy ⟨c, by omega, by show ¬ (1 * z c + (-1) * sm n (fun i => t i * T i c) = 0); rw [ey c hc]; exact hne⟩
    have hL : L i ≤ c := by
      rcases Nat.lt_or_ge c (L i) with z | z
      · have := p2 c z
        have e := ey c hc
        omega
      · exact z
    have e := ey (L i) (by omega)
    have b := i2 i p1
    rw [← e] at b
    have := Int.le_of_dvd (by omega) p4
    omega
theorem rv_abs {T : Nat → Nat → Int} {L : Nat → Nat} {n w : Nat} (h : Ech T L n w) (hn : n ≤ 4) (v : Nat → Int) {S B x : Nat} (hS : ∀ i, i < n → (v (L i)).natAbs ≤ S) (hB : ∀ i, i < n → (T i x).natAbs ≤ B) (k : Nat) (hk : k ≤ n) : (rv T L v k x).natAbs ≤ (v x).natAbs + 15 * ((S + 1) * B) := by
  obtain ⟨⟨t, t1, t2⟩, i2⟩ := rv_spec h v k hk
  have tb : ∀ l, l < k → (t l * T l x).natAbs ≤ (S + 1) * 2 ^ l * B := fun l hl => by
    rw [t2 l hl]
    exact na_mul (rv_bound h hn v hS l (by omega)).2 (hB l (by omega))
  have e : ∀ l, (S + 1) * 2 ^ l * B = 2 ^ l * ((S + 1) * B) := fun l => by rw [Nat.mul_comm (S + 1), Nat.mul_assoc]
  have hs : (sm k (fun i => t i * T i x)).natAbs ≤ 15 * ((S + 1) * B) := by
    generalize hg : (S + 1) * B = g at *
    have : k = 0 ∨ k = 1 ∨ k = 2 ∨ k = 3 ∨ k = 4 := by omega
    rcases this with rfl | rfl | rfl | rfl | rfl
    · show (0 : Int).natAbs ≤ _; exact Nat.zero_le _
    · have a0 := tb 0 (by decide)
      rw [e] at a0
      show (0 + t 0 * T 0 x).natAbs ≤ _
      omega
    · have a0 := tb 0 (by decide)
      have a1 := tb 1 (by decide)
      rw [e] at a0 a1
      show (0 + t 0 * T 0 x + t 1 * T 1 x).natAbs ≤ _
      omega
    · have a0 := tb 0 (by decide)
      have a1 := tb 1 (by decide)
      have a2 := tb 2 (by decide)
      rw [e] at a0 a1 a2
      show (0 + t 0 * T 0 x + t 1 * T 1 x + t 2 * T 2 x).natAbs ≤ _
      omega
    · have a0 := tb 0 (by decide)
      have a1 := tb 1 (by decide)
      have a2 := tb 2 (by decide)
      have a3 := tb 3 (by decide)
      rw [e] at a0 a1 a2 a3
      show (0 + t 0 * T 0 x + t 1 * T 1 x + t 2 * T 2 x + t 3 * T 3 x).natAbs ≤ _
      omega
  rw [t1 x]
  have := na_sub (v x) (sm k (fun i => t i * T i x))
  omega
/-- the class's reduce -/
theorem j_reduce_sh {o q w h : Nat} {T : Nat → Nat → Int} {v : Nat → Int} {L ld : Nat → Nat} {rk : Nat} (hrk : rk ≤ h) (hq : q < o + 2 ∨ o + 2 + h ≤ q) (hL : ∀ i, i < rk → ld i = L i ∧ L i < w ∧ T i (L i) ≠ 0 ∧ fit (T i (L i)) ∧ fit (rv T L v i (L i))) :
    ∀ (k i : Nat) (J : fl_TJ), i + k = rk → shC o h w J T → (∀ x, x < w → J q x = oI (rv T L v i x)) → (∀ x, x < w → fl_it (fun i J => j_red q (o + 2 + i) (ld i) w J) k i J q x = oI (rv T L v rk x)) ∧ ∀ p x, (p ≠ q ∨ w ≤ x) → fl_it (fun i J => j_red q (o + 2 + i) (ld i) w J) k i J p x = J p x := by
  intro k
  induction k with
  | zero =>
    intro i J hik hs hv
    have : i = rk := by omega
    subst this
    exact ⟨hv, fun p x _ => rfl⟩
  | succ k ih =>
    intro i J hik hs hv
    obtain ⟨l1, l2, l3, l4, l5⟩ := hL i (by omega)
    have e1 : j_red q (o + 2 + i) (ld i) w J = j_red1 q (o + 2 + i) w (oI ((rv T L v i (L i)).fdiv (T i (L i)))) J := by
      unfold j_red
      rw [l1, hs i (L i) (by omega) l2, if_neg (fun z => l3 ((oI_eq0 l4).mp z)), hv (L i) l2, fd64_oI l5 l4 l3]
    have at1 : ∀ p x, j_red q (o + 2 + i) (ld i) w J p x = if p = q ∧ x < w then J q x - oI ((rv T L v i (L i)).fdiv (T i (L i))) * J (o + 2 + i) x else J p x := fun p x => by
      rw [e1]; exact j_red1_at (by omega) w _ J p x
    obtain ⟨r1, r2⟩ := ih (i + 1) (j_red q (o + 2 + i) (ld i) w J) (by omega) (fun a x ha hx => by rw [at1, if_neg (by omega)]; exact hs a x ha hx) (fun x hx => by
      rw [at1, if_pos ⟨rfl, hx⟩, hv x hx, hs i x (by omega) hx, oI_mul, oI_sub]; rfl)
    refine ⟨r1, fun p x hp => ?_⟩
    show fl_it _ k (i + 1) (j_red q (o + 2 + i) (ld i) w J) p x = _
    rw [r2 p x hp, at1, if_neg (by omega)]
theorem x_first_none {q : Nat} {J : fl_TJ} {r : Nat → Int} {e : Nat} (hr : ∀ c, c < e → J q c = oI (r c) ∧ fit (r c)) : ∀ k i, i + k = e → (∀ c, c < i → r c = 0) → (x_first q J k i = -1 ∧ ∀ c, c < e → r c = 0) ∨ ∃ c, c < e ∧ x_first q J k i = nI c ∧ (∀ d, d < c → r d = 0) ∧ r c ≠ 0 := by
  intro k
  induction k with
  | zero => intro i hi h; exact .inl ⟨rfl, fun c hc => h c (by omega)⟩
  | succ k ih =>
    intro i hi h
    obtain ⟨h1, h2⟩ := hr i (by omega)
    by_cases z : r i = 0
    · have e1 : x_first q J (k + 1) i = x_first q J k (i + 1) := if_pos (by rw [h1, z]; rfl)
      rw [e1]
      exact ih (i + 1) (by omega) (fun c hc => by
        by_cases q : c = i
        · rw [q]; exact z
        · exact h c (by omega))
    · have e1 : x_first q J (k + 1) i = nI i := if_neg (by rw [h1]; exact fun q => z ((oI_eq0 h2).mp q))
      exact .inr ⟨i, by omega, e1, h, z⟩
theorem nI_ne {c : Nat} (h : c < 4) : nI c ≠ -1 := by
  have : c = 0 ∨ c = 1 ∨ c = 2 ∨ c = 3 := by omega
  rcases this with rfl | rfl | rfl | rfl <;> decide
theorem Fl.neg {a : Nat → Nat → Int} {s : Nat → Int} {e n : Nat} {f : Int32} (he : e ≤ 3) (h : Fl a s e n f) : f = -1 ↔ In a s e n := by
  rcases h with ⟨h1, h2⟩ | ⟨q, h1, h2, h3, h4⟩
  · exact ⟨fun _ => h2, fun _ => h1⟩
  · exact ⟨fun z => (nI_ne (by omega) (h2 ▸ z)).elim, fun z => (h4 (z.mono (by omega))).elim⟩
/-- sums of a row of the span -/
theorem dot_lin {a : Nat → Nat → Int} {c n k : Nat} {t : Nat → Int} {F : Nat → Nat → Int} : dot a c n (fun j => sm k (fun i => t i * F i j)) = sm k (fun i => t i * dot a c n (F i)) := by
  induction k with
  | zero =>
    show sm n (fun j => a c j * 0) = 0
    exact sm_zero (fun i _ => Int.mul_zero _)
  | succ k ih =>
    show dot a c n (fun j => sm k (fun i => t i * F i j) + t k * F k j) = sm k (fun i => t i * dot a c n (F i)) + t k * dot a c n (F k)
    rw [← ih]
    unfold dot
    rw [← sm_mul, ← sm_add]
    refine sm_congr (fun j _ => ?_)
    show a c j * (_ + _) = a c j * _ + t k * (a c j * F k j)
    grind
theorem dot_congr {a : Nat → Nat → Int} {c n : Nat} {u v : Nat → Int} (h : ∀ j, j < n → u j = v j) : dot a c n u = dot a c n v := sm_congr (fun j hj => by
  show a c j * u j = a c j * v j
  rw [h j hj])
theorem dot_neg {a : Nat → Nat → Int} {c n : Nat} {u : Nat → Int} : dot a c n (fun j => -(u j)) = -(dot a c n u) := by
  have : dot a c n (fun j => -(u j)) = sm n (fun j => (-1) * (a c j * u j)) := sm_congr (fun j _ => by
    show a c j * -(u j) = (-1) * (a c j * u j)
    grind)
  rw [this, sm_mul]
  show -1 * dot a c n u = _
  omega
theorem dot_add {a : Nat → Nat → Int} {c n : Nat} {u v : Nat → Int} : dot a c n (fun j => u j + v j) = dot a c n u + dot a c n v := by
  unfold dot
  rw [← sm_add]
  exact sm_congr (fun j _ => by show a c j * (u j + v j) = _; grind)
theorem dot_sub {a : Nat → Nat → Int} {c n : Nat} {u v : Nat → Int} : dot a c n (fun j => u j - v j) = dot a c n u - dot a c n v := by
  have : dot a c n (fun j => u j - v j) = dot a c n (fun j => u j + -(v j)) := dot_congr (fun j _ => by omega)
  rw [this, dot_add (v := fun j => -(v j)), dot_neg]
  omega
theorem dot_mul {a : Nat → Nat → Int} {c n : Nat} {q : Int} {u : Nat → Int} : dot a c n (fun j => q * u j) = q * dot a c n u := by
  unfold dot
  rw [← sm_mul]
  exact sm_congr (fun j _ => by show a c j * (q * u j) = _; grind)
theorem Fm.sp_lin {a : Nat → Nat → Int} {e n : Nat} {T : Nat → Nat → Int} {L : Nat → Nat} (h : Fm a e n T L) (hn : n ≤ 4) {z : Nat → Int} (hz : Sp T n (e + n) z) {c : Nat} (hc : c < e) : z c = dot a c n (fun j => z (e + j)) := by
  obtain ⟨t, ht⟩ := hz
  rw [ht c (by omega), dot_congr (v := fun j => sm n (fun i => t i * T i (e + j))) (fun j hj => ht (e + j) (by omega)), dot_lin]
  refine sm_congr (fun i hi => ?_)
  show t i * T i c = t i * dot a c n (fun j => T i (e + j))
  rw [h.lin hn hi hc]
/-- whether the first q equations go together, seen from the reduced row -/
theorem Fm.in_iff {a : Nat → Nat → Int} {e n : Nat} {T : Nat → Nat → Int} {L : Nat → Nat} (h : Fm a e n T L) (hn : n ≤ 4) {s : Nat → Int} {q : Nat} (hq : q ≤ e) : (∃ z, Sp T n (e + n) z ∧ ∀ c, c < q → s c = z c) ↔ In a s q n := by
  constructor
  · rintro ⟨z, hz, hs⟩
    exact ⟨fun j => z (e + j), fun c hc => by rw [hs c hc]; exact h.sp_lin hn hz (by omega)⟩
  · rintro ⟨u, hu⟩
    refine ⟨mkR a e n u, h.sp_mk hn u, fun c hc => ?_⟩
    unfold mkR
    rw [if_pos (by omega)]
    exact hu c hc
theorem In.neg {a : Nat → Nat → Int} {s : Nat → Int} {e n : Nat} : In a (fun c => -(s c)) e n ↔ In a s e n := by
  constructor
  · rintro ⟨u, hu⟩; exact ⟨fun j => -(u j), fun c hc => by have : -(s c) = dot a c n u := hu c hc; rw [dot_neg]; omega⟩
  · rintro ⟨u, hu⟩; exact ⟨fun j => -(u j), fun c hc => by have : s c = dot a c n u := hu c hc; show -(s c) = _; rw [dot_neg]; omega⟩
theorem In.congr {a a' : Nat → Nat → Int} {s s' : Nat → Int} {e n : Nat} (ha : ∀ c j, c < e → j < n → a c j = a' c j) (hs : ∀ c, c < e → s c = s' c) (h : In a s e n) : In a' s' e n := by
  obtain ⟨u, hu⟩ := h
  exact ⟨u, fun c hc => by rw [← hs c hc, hu c hc]; exact sm_congr (fun j hj => by show a c j * u j = a' c j * u j; rw [ha c j hc hj])⟩
/-- THE solution -/
def Sol (a : Nat → Nat → Int) (s : Nat → Int) (e n : Nat) (T : Nat → Nat → Int) (L : Nat → Nat) (u : Nat → Int) : Prop := (∀ c, c < e → s c = dot a c n u) ∧ ∀ i, i < n → e ≤ L i → 0 ≤ u (L i - e) ∧ u (L i - e) < T i (L i)
theorem Sol.unique {a : Nat → Nat → Int} {s : Nat → Int} {e n : Nat} {T : Nat → Nat → Int} {L : Nat → Nat} {u v : Nat → Int} (hF : Fm a e n T L) (hn : n ≤ 4) (hu : Sol a s e n T L u) (hv : Sol a s e n T L v) : ∀ j, j < n → u j = v j := by
  intro j hj
  apply Classical.byContradiction
  intro hne
  have hS := hF.sp_mk hn (fun j => u j - v j)
  have m1 : ∀ x, x < e → mkR a e n (fun j => u j - v j) x = 0 := fun x hx => by
    unfold mkR
    rw [if_pos hx, dot_sub, ← hu.1 x hx, ← hv.1 x hx]
    omega
  have m2 : ∀ x, e ≤ x → mkR a e n (fun j => u j - v j) x = u (x - e) - v (x - e) := fun x hx => if_neg (by omega)
  obtain ⟨i, p1, p2, p3, p4⟩ := sp_first hF.1 hS ⟨e + j, by omega, by rw [m2 _ (by omega), show e + j - e = j from by omega]; omega⟩
  have hL : e ≤ L i := by
    rcases Nat.lt_or_ge (L i) e with z | z
    · exact absurd (m1 _ z) p3
    · exact z
  rw [m2 _ hL] at p3 p4
  have b1 := hu.2 i p1 hL
  have b2 := hv.2 i p1 hL
  rcases Int.lt_or_le 0 (u (L i - e) - v (L i - e)) with z | z
  · have := Int.le_of_dvd z p4
    omega
  · have := Int.le_of_dvd (show 0 < -(u (L i - e) - v (L i - e)) by omega) (Int.dvd_neg.mpr p4)
    omega
/-- the start of settling -/
def vS (s : Nat → Int) (e : Nat) : Nat → Int := fun x => if x < e then -(s x) else 0
theorem vS_abs {s : Nat → Int} {e S : Nat} (hs : ∀ c, c < e → (s c).natAbs ≤ S) (x : Nat) : (vS s e x).natAbs ≤ S := by
  unfold vS
  by_cases h : x < e
  · rw [if_pos h]; have := hs x h; omega
  · rw [if_neg h]; exact Nat.zero_le _
theorem settle_in {a : Nat → Nat → Int} {s : Nat → Int} {e n : Nat} {T : Nat → Nat → Int} {L : Nat → Nat} (hF : Fm a e n T L) (hn : n ≤ 4) {q : Nat} (hq : q ≤ e) : (∀ c, c < q → rv T L (vS s e) n c = 0) ↔ In a s q n := by
  rw [rv_zero hF.1 _ (show q ≤ e + n by omega), ← In.neg, ← hF.in_iff hn hq]
  constructor
  · rintro ⟨z, h1, h2⟩
    exact ⟨z, h1, fun c hc => by rw [← h2 c hc]; unfold vS; rw [if_pos (by omega)]⟩
  · rintro ⟨z, h1, h2⟩
    exact ⟨z, h1, fun c hc => by rw [← h2 c hc]; unfold vS; rw [if_pos (by omega)]⟩
theorem settle_sol {a : Nat → Nat → Int} {s : Nat → Int} {e n : Nat} {T : Nat → Nat → Int} {L : Nat → Nat} (hF : Fm a e n T L) (hn : n ≤ 4) (h : In a s e n) : Sol a s e n T L (fun j => rv T L (vS s e) n (e + j)) := by
  obtain ⟨⟨t, t1, t2⟩, i2⟩ := rv_spec hF.1 (vS s e) n (Nat.le_refl _)
  refine ⟨fun c hc => ?_, fun i hi hL => ?_⟩
  · have z := (settle_in hF hn (Nat.le_refl e)).mpr h c hc
    have e1 := t1 c
    rw [z] at e1
    have e2 : vS s e c = -(s c) := if_pos hc
    rw [e2] at e1
    have e3 := hF.sp_lin hn (z := fun x => sm n (fun i => t i * T i x)) ⟨t, fun x _ => rfl⟩ hc
    have e4 : dot a c n (fun j => rv T L (vS s e) n (e + j)) = dot a c n (fun j => -(sm n (fun i => t i * T i (e + j)))) := dot_congr (fun j hj => by
      rw [t1 (e + j)]
      have : vS s e (e + j) = 0 := if_neg (by omega)
      rw [this]; omega)
    rw [e4, dot_neg]
    omega
  · show 0 ≤ rv T L (vS s e) n (e + (L i - e)) ∧ rv T L (vS s e) n (e + (L i - e)) < T i (L i)
    rw [show e + (L i - e) = L i from by omega]
    exact i2 i hi
