/-! the class's rows are the whole numbers modulo 2^64 -/
def shC (o h w : Nat) (J : fl_TJ) (T : Nat → Nat → Int) : Prop := ∀ i x, i < h → x < w → J (o + 2 + i) x = oI (T i x)
theorem oI_sub (a b : Int) : oI a - oI b = oI (a - b) := (Int64.ofInt_sub a b).symm
theorem oI_mul (a b : Int) : oI a * oI b = oI (a * b) := (Int64.ofInt_mul a b).symm
theorem oI_add (a b : Int) : oI a + oI b = oI (a + b) := (Int64.ofInt_add a b).symm
theorem oI_neg (a : Int) : -(oI a) = oI (-a) := (Int64.ofInt_neg a).symm
/-- one step of dividing out -/
def s1z (t : Int) : Opc := opc 0 1 1 (-t) t 1 1 0
theorem opT_s1z {u l : Nat} (hne : u ≠ l) {t : Int} {z : Opc} {T : Nat → Nat → Int} : opT u l z (opT u l (s1z t) T) = opT u l (stz t z) T := by
  funext i x
  have e1 : opT u l (s1z t) T u x = T l x := by rw [opT_u]; show 0 * T u x + 1 * T l x = _; omega
  have e2 : opT u l (s1z t) T l x = T u x - t * T l x := by rw [opT_l hne]; show 1 * T u x + -t * T l x = _; rw [Int.neg_mul]; omega
  by_cases h : i = u
  · subst h
    rw [opT_u, e1, e2, opT_u]
    show z.a * T l x + z.b * (T i x - t * T l x) = z.b * T i x + (z.a - t * z.b) * T l x
    grind
  · by_cases h2 : i = l
    · subst h2
      rw [opT_l hne, e1, e2, opT_l hne]
      show z.c * T i x + z.d * (T u x - t * T i x) = z.d * T u x + (z.c - t * z.d) * T i x
      grind
    · rw [opT_o h h2, opT_o h h2, opT_o h h2]
theorem rest_fit {a b : Int} (hb : fit b) (h : b ≠ 0) : fit (a - a.fdiv b * b) := by
  have := rest_abs (a := a) h
  unfold fit at *
  omega
theorem j_div_sh {o h w u l c : Nat} (hu : u < h) (hl : l < h) (hne : u ≠ l) (hc : c < w) : ∀ (k : Nat) (J : fl_TJ) (T : Nat → Nat → Int), shC o h w J T → fit (T u c) → fit (T l c) → shC o h w (j_div (o + 2 + u) (o + 2 + l) c w k J) (opT u l (euz k (T u c) (T l c)) T) := by
  intro k
  induction k with
  | zero => intro J T hs _ _; show shC o h w J (opT u l idz T); rw [opT_idz]; exact hs
  | succ k ih =>
    intro J T hs fa fb
    have ea := hs u c hu hc
    have eb := hs l c hl hc
    unfold j_div
    by_cases hz : T l c = 0
    · rw [if_pos (by rw [eb, hz]; rfl), hz, euz_b0, opT_idz]
      exact hs
    · rw [if_neg (by rw [eb]; exact fun q => hz ((oI_eq0 fb).mp q)), euz_s hz]
      rw [ea, eb, fd64_oI fa fb hz]
      have e1 : ∀ x, opT u l (s1z ((T u c).fdiv (T l c))) T u x = T l x := fun x => by rw [opT_u]; show 0 * T u x + 1 * T l x = _; omega
      have e2 : ∀ x, opT u l (s1z ((T u c).fdiv (T l c))) T l x = T u x - (T u c).fdiv (T l c) * T l x := fun x => by rw [opT_l hne]; show 1 * T u x + -((T u c).fdiv (T l c)) * T l x = _; rw [Int.neg_mul]; omega
      have hs' : shC o h w (j_div1 (o + 2 + u) (o + 2 + l) w (oI ((T u c).fdiv (T l c))) J) (opT u l (s1z ((T u c).fdiv (T l c))) T) := by
        intro i x hi hx
        rw [j_div1_at (by omega), if_pos hx]
        by_cases h1 : i = u
        · subst h1
          rw [if_pos rfl, e1]; exact hs l x hl hx
        · rw [if_neg (by omega)]
          by_cases h2 : i = l
          · subst h2
            rw [if_pos rfl, e2, hs u x hu hx, hs i x hl hx, oI_mul, oI_sub]
          · rw [if_neg (by omega), opT_o h1 h2]; exact hs i x hi hx
      have := ih _ _ hs' (by rw [e1]; exact fb) (by rw [e2]; exact rest_fit fb hz)
      rw [e1, e2, opT_s1z hne] at this
      exact this
theorem j_div_keep {ru rl c w : Nat} (hne : ru ≠ rl) {a : Nat} (h1 : a ≠ ru) (h2 : a ≠ rl) : ∀ (k : Nat) (J : fl_TJ) (x : Nat), j_div ru rl c w k J a x = J a x := by
  intro k
  induction k with
  | zero => intro J x; rfl
  | succ k ih =>
    intro J x
    unfold j_div
    by_cases hz : J rl c = 0
    · rw [if_pos hz]
    · rw [if_neg hz, ih, j_div1_at hne, if_neg h1, if_neg h2, ite_self]
theorem j_elim_rule {o rk c w h : Nat} (hc : c < w) (hrk : rk < h) (P : Nat → (Nat → Nat → Int) → Prop) (hP : ∀ i T, rk + 1 ≤ i → i < h → P i T → fit (T rk c) ∧ fit (T i c) ∧ P (i + 1) (opT rk i (euz 200 (T rk c) (T i c)) T)) :
    ∀ (k i : Nat) (J : fl_TJ) (T : Nat → Nat → Int), i + k = h → rk + 1 ≤ i → shC o h w J T → P i T → ∃ T', P h T' ∧ shC o h w (fl_it (fun i J => j_div (o + 2 + rk) (o + 2 + i) c w 200 J) k i J) T' := by
  intro k
  induction k with
  | zero => intro i J T hik _ hs hp; have : i = h := by omega
            subst this; exact ⟨T, hp, hs⟩
  | succ k ih =>
    intro i J T hik hi hs hp
    obtain ⟨f1, f2, hp'⟩ := hP i T hi (by omega) hp
    exact ih (i + 1) _ _ (by omega) (by omega) (j_div_sh hrk (by omega) (by omega) hc 200 J T hs f1 f2) hp'
theorem j_elim_keep {o rk c w h a : Nat} (h1 : a < o + 2 ∨ o + 2 + h ≤ a) (hrk : rk < h) : ∀ (k i : Nat) (J : fl_TJ) (x : Nat), i + k = h → rk + 1 ≤ i → fl_it (fun i J => j_div (o + 2 + rk) (o + 2 + i) c w 200 J) k i J a x = J a x := by
  intro k
  induction k with
  | zero => intro i J x _ _; rfl
  | succ k ih =>
    intro i J x hik hi
    show fl_it _ k (i + 1) (j_div (o + 2 + rk) (o + 2 + i) c w 200 J) a x = _
    rw [ih (i + 1) _ x (by omega) (by omega)]
    exact j_div_keep (by omega) (by omega) (by omega) 200 J x
theorem j_neg_sh {o h w u l : Nat} {J : fl_TJ} {T : Nat → Nat → Int} (hne : u ≠ l) (hs : shC o h w J T) : shC o h w (j_neg (o + 2 + u) w J) (opT u l ngz T) := by
  intro i x hi hx
  rw [j_neg_at, opT_ngz hne]
  by_cases e : i = u
  · subst e
    rw [if_pos ⟨rfl, hx⟩, if_pos rfl, hs i x hi hx, oI_neg]
  · rw [if_neg (fun q => e (by omega)), if_neg e]; exact hs i x hi hx
theorem j_red_sh {o h w k c m : Nat} {J : fl_TJ} {T : Nat → Nat → Int} (hk : k < h) (hm : m < k) (hc : c < w) (hs : shC o h w J (redT k c m T)) (fm : fit (T m c)) (fk : fit (T k c)) (h0 : T k c ≠ 0) : shC o h w (j_red (o + 2 + m) (o + 2 + k) c w J) (redT k c (m + 1) T) := by
  have ek : ∀ x, redT k c m T k x = T k x := fun x => if_neg (by omega)
  have em : ∀ x, redT k c m T m x = T m x := fun x => if_neg (by omega)
  have a1 := hs k c hk hc
  have a2 := hs m c (by omega) hc
  rw [ek] at a1
  rw [em] at a2
  unfold j_red
  rw [if_neg (by rw [a1]; exact fun q => h0 ((oI_eq0 fk).mp q)), a1, a2, fd64_oI fm fk h0]
  intro i x hi hx
  rw [j_red1_at (by omega)]
  by_cases e : i = m
  · subst e
    rw [if_pos ⟨rfl, hx⟩, hs i x hi hx, hs k x hk hx, ek, em, oI_mul, oI_sub]
    show _ = oI (if i < i + 1 then T i x - (T i c).fdiv (T k c) * T k x else T i x)
    rw [if_pos (by omega)]
  · rw [if_neg (fun q => e (by omega)), hs i x hi hx]
    show oI (if i < m then T i x - (T i c).fdiv (T k c) * T k x else T i x) = oI (if i < m + 1 then T i x - (T i c).fdiv (T k c) * T k x else T i x)
    by_cases q : i < m
    · rw [if_pos q, if_pos (by omega)]
    · rw [if_neg q, if_neg (by omega)]
theorem j_add1_sh {o h w k c : Nat} {T : Nat → Nat → Int} (hk : k < h) (hc : c < w) (fm : ∀ m, m < k → fit (T m c)) (fk : fit (T k c)) (h0 : T k c ≠ 0) : ∀ (q i : Nat) (J : fl_TJ), i + q = k → shC o h w J (redT k c i T) → shC o h w (fl_it (fun i J => j_red (o + 2 + i) (o + 2 + k) c w J) q i J) (redT k c k T) := by
  intro q
  induction q with
  | zero => intro i J hq hs; have : i = k := by omega
            subst this; exact hs
  | succ q ih =>
    intro i J hq hs
    exact ih (i + 1) _ (by omega) (j_red_sh hk (by omega) hc hs (fm i (by omega)) fk h0)
theorem j_red_keep {q r c w a : Nat} (hne : q ≠ r) (h : a ≠ q) (J : fl_TJ) (x : Nat) : j_red q r c w J a x = J a x := by
  unfold j_red
  by_cases hz : J r c = 0
  · rw [if_pos hz]
  · rw [if_neg hz, j_red1_at hne, if_neg (fun z => h z.1)]
theorem j_add1_keep {o k c w a : Nat} (h : a < o + 2 ∨ o + 2 + k ≤ a) : ∀ (q i : Nat) (J : fl_TJ) (x : Nat), i + q = k → fl_it (fun i J => j_red (o + 2 + i) (o + 2 + k) c w J) q i J a x = J a x := by
  intro q
  induction q with
  | zero => intro i J x _; rfl
  | succ q ih =>
    intro i J x hq
    show fl_it _ q (i + 1) (j_red (o + 2 + i) (o + 2 + k) c w J) a x = _
    rw [ih (i + 1) _ x (by omega)]
    exact j_red_keep (by omega) (by omega) J x
theorem j_add_keep {o h k c w a : Nat} (hk : k < h) (h1 : a < o + 2 ∨ o + 2 + h ≤ a) (J : fl_TJ) (x : Nat) : j_add o k c w J a x = J a x := by
  unfold j_add j_add1
  rw [j_add1_keep (by omega) k 0 _ x (by omega)]
  by_cases q : J (o + 2 + k) c < 0
  · rw [if_pos q, j_neg_at, if_neg (by omega)]
  · rw [if_neg q]
/-- the end of a stage, over the tables -/
theorem j_add_sh {o h w k c l : Nat} {J : fl_TJ} {T : Nat → Nat → Int} (hk : k < h) (hl : k ≠ l) (hc : c < w) (hs : shC o h w J T) (fm : ∀ m, m < k → fit (T m c)) (fk : fit (T k c)) (h0 : T k c ≠ 0) : shC o h w (j_add o k c w J) (redT k c k (if T k c < 0 then opT k l ngz T else T)) := by
  unfold j_add j_add1
  have e := hs k c hk hc
  by_cases q : T k c < 0
  · rw [if_pos (by rw [e]; exact (oI_lt0 fk).mpr q), if_pos q]
    have ng : ∀ i x, opT k l ngz T i x = if i = k then -(T k x) else T i x := opT_ngz hl
    refine j_add1_sh hk hc (fun m hm => by rw [ng, if_neg (by omega)]; exact fm m hm) (by rw [ng, if_pos rfl]; unfold fit at *; omega) (by rw [ng, if_pos rfl]; omega) k 0 _ (by omega) ?_
    rw [redT_0]
    exact j_neg_sh hl hs
  · rw [if_neg (by rw [e]; exact fun z => q ((oI_lt0 fk).mp z)), if_neg q]
    refine j_add1_sh hk hc fm fk h0 k 0 _ (by omega) ?_
    rw [redT_0]
    exact hs
