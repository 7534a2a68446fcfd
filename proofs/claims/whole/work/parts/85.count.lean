/-! counting -/
def ns (lo : Int) : Nat → (Int → Nat) → Nat
  | 0, _ => 0
  | k + 1, f => ns lo k f + f (lo + k)
theorem ns_congr {lo : Int} {f g : Int → Nat} : ∀ k, (∀ x, lo ≤ x → x < lo + (k : Nat) → f x = g x) → ns lo k f = ns lo k g := by
  intro k
  induction k with
  | zero => intro _; rfl
  | succ k ih =>
    intro h
    show ns lo k f + f (lo + k) = ns lo k g + g (lo + k)
    rw [ih (fun x h1 h2 => h x h1 (by omega)), h (lo + k) (by omega) (by omega)]
theorem ns_add {lo : Int} {f g : Int → Nat} : ∀ k, ns lo k (fun x => f x + g x) = ns lo k f + ns lo k g := by
  intro k
  induction k with
  | zero => rfl
  | succ k ih =>
    show ns lo k (fun x => f x + g x) + (f (lo + k) + g (lo + k)) = ns lo k f + f (lo + k) + (ns lo k g + g (lo + k))
    rw [ih]; omega
theorem ns_single {lo : Int} {f : Int → Nat} {w : Int} (h : ∀ x, x ≠ w → f x = 0) : ∀ k : Nat, ns lo k f = if lo ≤ w ∧ w < lo + (k : Nat) then f w else 0 := by
  intro k
  induction k with
  | zero => rw [if_neg (by omega)]; rfl
  | succ k ih =>
    show ns lo k f + f (lo + k) = _
    rw [ih]
    by_cases q : w = lo + k
    · rw [if_neg (by omega), if_pos (by omega), ← q]; omega
    · rw [h (lo + k) (fun z => q z.symm)]
      by_cases z : lo ≤ w ∧ w < lo + (k : Nat)
      · rw [if_pos z, if_pos (by omega)]; rfl
      · rw [if_neg z, if_neg (by omega)]
theorem ns_front {lo : Int} {f : Int → Nat} : ∀ k, ns lo (k + 1) f = f lo + ns (lo + 1) k f := by
  intro k
  induction k with
  | zero => show 0 + f (lo + (0 : Nat)) = f lo + 0; rw [show lo + ((0 : Nat) : Int) = lo from by omega]; omega
  | succ k ih =>
    show ns lo (k + 1) f + f (lo + (k + 1 : Nat)) = f lo + (ns (lo + 1) k f + f (lo + 1 + k))
    rw [ih, show lo + ((k + 1 : Nat) : Int) = lo + 1 + k from by omega]
    omega
theorem ns_ne {lo : Int} {f : Int → Nat} : ∀ k, ns lo k f ≠ 0 → ∃ x, (lo ≤ x ∧ x < lo + (k : Nat)) ∧ f x ≠ 0 := by
  intro k
  induction k with
  | zero => intro h; exact absurd rfl h
  | succ k ih =>
    intro h
    have h : ns lo k f + f (lo + k) ≠ 0 := h
    by_cases q : ns lo k f = 0
    · exact ⟨lo + k, by omega, by omega⟩
    · obtain ⟨x, h1, h2⟩ := ih q
      exact ⟨x, by omega, h2⟩
theorem ns_const {lo : Int} {c : Nat} : ∀ k, ns lo k (fun _ => c) = k * c := by
  intro k
  induction k with
  | zero => show 0 = 0 * c; omega
  | succ k ih =>
    show ns lo k (fun _ => c) + c = (k + 1) * c
    rw [ih, Nat.succ_mul]
/-- over a part of the range -/
theorem ns_part {lo A : Int} {f : Int → Nat} (hA : lo ≤ A) : ∀ (q : Nat), ns lo ((A - lo).toNat + q) (fun t => if A ≤ t then f t else 0) = ns A q f := by
  have h0 : ∀ k : Nat, lo + k ≤ A → ns lo k (fun t => if A ≤ t then f t else 0) = 0 := by
    intro k
    induction k with
    | zero => intro _; rfl
    | succ k ih =>
      intro h
      show ns lo k _ + (if A ≤ lo + k then f (lo + k) else 0) = 0
      rw [ih (by omega), if_neg (by omega)]
  intro q
  induction q with
  | zero => exact h0 _ (by omega)
  | succ q ih =>
    show ns lo ((A - lo).toNat + q) _ + (if A ≤ lo + ((A - lo).toNat + q : Nat) then f (lo + ((A - lo).toNat + q : Nat)) else 0) = ns A q f + f (A + q)
    rw [ih, if_pos (by omega), show lo + (((A - lo).toNat + q : Nat) : Int) = A + q from by omega]
theorem ns_cut {lo : Int} {f : Int → Nat} {k : Nat} : ∀ (q : Nat), ns lo (k + q) (fun t => if t < lo + (k : Nat) then f t else 0) = ns lo k f := by
  intro q
  induction q with
  | zero => exact ns_congr _ (fun x _ h => if_pos (by omega))
  | succ q ih =>
    show ns lo (k + q) _ + (if lo + ((k + q : Nat) : Int) < lo + (k : Nat) then f (lo + ((k + q : Nat) : Int)) else 0) = _
    rw [ih, if_neg (by omega)]; rfl
theorem ns_range {lo A Z : Int} {f : Int → Nat} {k : Nat} (hA : lo ≤ A) (hZ : Z < lo + (k : Nat)) (h : A ≤ Z) : ns lo k (fun t => if A ≤ t ∧ t ≤ Z then f t else 0) = ns A (Z + 1 - A).toNat f := by
  have e1 : ns lo k (fun t => if A ≤ t ∧ t ≤ Z then f t else 0) = ns lo ((Z + 1 - lo).toNat + (k - (Z + 1 - lo).toNat)) (fun t => if t < lo + ((Z + 1 - lo).toNat : Nat) then (if A ≤ t then f t else 0) else 0) := by
    rw [show (Z + 1 - lo).toNat + (k - (Z + 1 - lo).toNat) = k from by omega]
    refine ns_congr _ (fun x _ _ => ?_)
    by_cases q : x < lo + ((Z + 1 - lo).toNat : Nat)
    · rw [if_pos q]
      by_cases z : A ≤ x
      · rw [if_pos z, if_pos (by omega)]
      · rw [if_neg z, if_neg (by omega)]
    · rw [if_neg q, if_neg (by omega)]
  rw [e1, ns_cut]
  have e2 : (Z + 1 - lo).toNat = (A - lo).toNat + (Z + 1 - A).toNat := by omega
  rw [e2]
  exact ns_part hA _
theorem ns_none {lo A Z : Int} {f : Int → Nat} {k : Nat} (h : Z < A) : ns lo k (fun t => if A ≤ t ∧ t ≤ Z then f t else 0) = 0 := by
  rw [ns_congr (g := fun _ => 0) k (fun x _ _ => if_neg (by omega)), ns_const]
  omega
/-- in steps of b -/
theorem ns_steps {lo w b M : Int} {f : Int → Nat} {K : Nat} (hb : 1 ≤ b) (hf : ∀ x, ¬ b ∣ x - w → f x = 0) (hM : ∀ t, lo ≤ w + t * b → w + t * b < lo + (K : Nat) → -M ≤ t ∧ t < M) (hM0 : 0 ≤ M) : ∀ m : Nat, m ≤ K → ns lo m f = ns (-M) (2 * M).toNat (fun t => if lo ≤ w + t * b ∧ w + t * b < lo + (m : Nat) then f (w + t * b) else 0) := by
  intro m
  induction m with
  | zero =>
    intro _
    rw [ns_congr (g := fun _ => 0) _ (fun x _ _ => if_neg (by omega)), ns_const]
    show 0 = _
    omega
  | succ m ih =>
    intro hm
    show ns lo m f + f (lo + m) = _
    rw [ih (by omega)]
    have e1 : ns (-M) (2 * M).toNat (fun t => if lo ≤ w + t * b ∧ w + t * b < lo + ((m + 1 : Nat) : Int) then f (w + t * b) else 0) = ns (-M) (2 * M).toNat (fun t => (if lo ≤ w + t * b ∧ w + t * b < lo + (m : Nat) then f (w + t * b) else 0) + (if w + t * b = lo + m then f (w + t * b) else 0)) := ns_congr _ (fun t _ _ => by
      by_cases q : w + t * b = lo + m
      · rw [if_pos (by omega), if_neg (by omega), if_pos q]; omega
      · rw [if_neg q]
        by_cases z : lo ≤ w + t * b ∧ w + t * b < lo + (m : Nat)
        · rw [if_pos z, if_pos (by omega)]; omega
        · rw [if_neg z, if_neg (by omega)])
    rw [e1, ns_add]
    congr 1
    by_cases d : b ∣ lo + m - w
    · obtain ⟨t0, ht0⟩ := d
      have e2 : w + t0 * b = lo + m := by rw [Int.mul_comm]; omega
      rw [ns_single (w := t0) (fun x hx => if_neg (fun z => hx (by
        have : (x - t0) * b = 0 := by rw [Int.sub_mul]; omega
        rcases Int.mul_eq_zero.mp this with q | q <;> omega)))]
      have := hM t0 (by omega) (by omega)
      rw [if_pos (by omega), if_pos e2, e2]
    · rw [hf _ d, ns_congr (g := fun _ => 0) _ (fun t _ _ => if_neg (fun z => d ⟨t, by rw [Int.mul_comm]; omega⟩)), ns_const]
      omega
/-! the unknowns one by one -/
abbrev Eqs (a : Nat → Nat → Int) (s : Nat → Int) (e n : Nat) (u : Nat → Int) : Prop := ∀ c, c < e → s c = dot a c n u
def up1 (p : Nat → Int) (j : Nat) (x : Int) : Nat → Int := fun i => if i = j then x else p i
def Fc (a : Nat → Nat → Int) (s : Nat → Int) (e n : Nat) (lo : Int) (m : Nat) : Nat → Nat → (Nat → Int) → Nat
  | 0, _, p => if Eqs a s e n p then 1 else 0
  | r + 1, j, p => ns lo m (fun x => Fc a s e n lo m r (j + 1) (up1 p j x))
theorem eqs_congr {a : Nat → Nat → Int} {s : Nat → Int} {e n : Nat} {u v : Nat → Int} (h : ∀ j, j < n → u j = v j) (hu : Eqs a s e n u) : Eqs a s e n v := fun c hc => by rw [hu c hc]; exact dot_congr h
theorem Fc_ext {a : Nat → Nat → Int} {s : Nat → Int} {e n : Nat} {lo : Int} {m : Nat} : ∀ r j p p', j + r = n → (∀ i, i < j → p i = p' i) → Fc a s e n lo m r j p = Fc a s e n lo m r j p' := by
  intro r
  induction r with
  | zero =>
    intro j p p' hj h
    have : j = n := by omega
    subst this
    show (if Eqs a s e j p then 1 else 0) = (if Eqs a s e j p' then 1 else 0)
    by_cases q : Eqs a s e j p
    · rw [if_pos q, if_pos (eqs_congr h q)]
    · rw [if_neg q, if_neg (fun z => q (eqs_congr (fun i hi => (h i hi).symm) z))]
  | succ r ih =>
    intro j p p' hj h
    refine ns_congr _ (fun x _ _ => ih (j + 1) _ _ (by omega) (fun i hi => ?_))
    unfold up1
    by_cases q : i = j
    · rw [if_pos q, if_pos q]
    · rw [if_neg q, if_neg q]; exact h i (by omega)
theorem Fc_ne {a : Nat → Nat → Int} {s : Nat → Int} {e n : Nat} {lo : Int} {m : Nat} : ∀ r j p, j + r = n → Fc a s e n lo m r j p ≠ 0 → ∃ u, Eqs a s e n u ∧ ∀ i, i < j → u i = p i := by
  intro r
  induction r with
  | zero =>
    intro j p _ h
    have h : (if Eqs a s e n p then 1 else 0) ≠ 0 := h
    by_cases q : Eqs a s e n p
    · exact ⟨p, q, fun _ _ => rfl⟩
    · rw [if_neg q] at h; exact absurd rfl h
  | succ r ih =>
    intro j p hj h
    obtain ⟨x, -, h2⟩ := ns_ne m h
    obtain ⟨u, u1, u2⟩ := ih (j + 1) _ (by omega) h2
    refine ⟨u, u1, fun i hi => ?_⟩
    rw [u2 i (by omega)]
    unfold up1
    exact if_neg (by omega)
/-- two solutions first differ at a lead -/
theorem ker_first {a : Nat → Nat → Int} {s : Nat → Int} {e n : Nat} {T : Nat → Nat → Int} {L : Nat → Nat} (hF : Fm a e n T L) (hn : n ≤ 4) {u w : Nat → Int} (hu : Eqs a s e n u) (hw : Eqs a s e n w) {j : Nat} (hj : j < n) (h1 : ∀ i, i < j → u i = w i) (h2 : u j ≠ w j) : ∃ i, i < n ∧ L i = e + j ∧ T i (e + j) ∣ u j - w j := by
  have hS := hF.sp_mk hn (fun j => u j - w j)
  have m1 : ∀ x, x < e → mkR a e n (fun j => u j - w j) x = 0 := fun x hx => by
    unfold mkR
    rw [if_pos hx, dot_sub, ← hu x hx, ← hw x hx]
    omega
  have m2 : ∀ x, e ≤ x → mkR a e n (fun j => u j - w j) x = u (x - e) - w (x - e) := fun x hx => if_neg (by omega)
  have m3 : mkR a e n (fun j => u j - w j) (e + j) = u j - w j := by rw [m2 _ (by omega), show e + j - e = j from by omega]
  obtain ⟨i, p1, p2, p3, p4⟩ := sp_first hF.1 hS ⟨e + j, by omega, by rw [m3]; omega⟩
  have hL : L i = e + j := by
    rcases Nat.lt_trichotomy (L i) (e + j) with z | z | z
    · exfalso
      rcases Nat.lt_or_ge (L i) e with q | q
      · exact p3 (m1 _ q)
      · apply p3
        rw [m2 _ q, h1 _ (by omega)]
        omega
    · exact z
    · have := p2 _ z
      rw [m3] at this
      omega
  rw [hL, m3] at p4
  exact ⟨i, p1, hL, p4⟩
theorem Fc_free {a : Nat → Nat → Int} {s : Nat → Int} {e n : Nat} {T : Nat → Nat → Int} {L : Nat → Nat} (hF : Fm a e n T L) (hn : n ≤ 4) {lo : Int} {m : Nat} {w : Nat → Int} (hw : Eqs a s e n w) {r j : Nat} (hj : j + (r + 1) = n) (hl : ∀ i, i < n → L i ≠ e + j) : Fc a s e n lo m (r + 1) j w = if lo ≤ w j ∧ w j < lo + (m : Nat) then Fc a s e n lo m r (j + 1) w else 0 := by
  show ns lo m (fun x => Fc a s e n lo m r (j + 1) (up1 w j x)) = _
  have e1 : Fc a s e n lo m r (j + 1) (up1 w j (w j)) = Fc a s e n lo m r (j + 1) w := Fc_ext r (j + 1) _ _ (by omega) (fun i _ => by
    unfold up1
    by_cases q : i = j
    · rw [if_pos q, q]
    · rw [if_neg q])
  rw [ns_single (w := w j) (fun x hx => ?_), e1]
  apply Classical.byContradiction
  intro h
  obtain ⟨u, u1, u2⟩ := Fc_ne r (j + 1) _ (by omega) h
  have k1 : ∀ i, i < j → u i = w i := fun i hi => by rw [u2 i (by omega)]; exact if_neg (by omega)
  have k2 : u j = x := by rw [u2 j (by omega)]; exact if_pos rfl
  obtain ⟨i, i1, i2, -⟩ := ker_first hF hn u1 hw (show j < n by omega) k1 (by rw [k2]; exact hx)
  exact hl i i1 i2
theorem Fc_lead {a : Nat → Nat → Int} {s : Nat → Int} {e n : Nat} {T : Nat → Nat → Int} {L : Nat → Nat} (hF : Fm a e n T L) (hn : n ≤ 4) {lo M : Int} {m : Nat} {w : Nat → Int} (hw : Eqs a s e n w) {r j i0 : Nat} (hj : j + (r + 1) = n) (hi0 : i0 < n) (hl : L i0 = e + j) (hM0 : 0 ≤ M) (hM : ∀ t, lo ≤ w j + t * T i0 (e + j) → w j + t * T i0 (e + j) < lo + (m : Nat) → -M ≤ t ∧ t < M) :
    Fc a s e n lo m (r + 1) j w = ns (-M) (2 * M).toNat (fun t => if lo ≤ w j + t * T i0 (e + j) ∧ w j + t * T i0 (e + j) < lo + (m : Nat) then Fc a s e n lo m r (j + 1) (fun x => w x + t * T i0 (e + x)) else 0) := by
  have hp := (hF.1.1 i0 hi0).2.1
  rw [hl] at hp
  show ns lo m (fun x => Fc a s e n lo m r (j + 1) (up1 w j x)) = _
  rw [ns_steps (w := w j) (b := T i0 (e + j)) (M := M) (K := m) (by omega) (fun x hx => ?_) hM hM0 m (Nat.le_refl _)]
  · refine ns_congr _ (fun t _ _ => ?_)
    by_cases q : lo ≤ w j + t * T i0 (e + j) ∧ w j + t * T i0 (e + j) < lo + (m : Nat)
    · rw [if_pos q, if_pos q]
      refine Fc_ext r (j + 1) _ _ (by omega) (fun i hi => ?_)
      unfold up1
      by_cases z : i = j
      · rw [if_pos z, z]
      · rw [if_neg z]
        show w i = w i + t * T i0 (e + i)
        rw [(hF.1.1 i0 hi0).2.2 (e + i) (by omega)]
        omega
    · rw [if_neg q, if_neg q]
  · apply Classical.byContradiction
    intro h
    obtain ⟨u, u1, u2⟩ := Fc_ne r (j + 1) _ (by omega) h
    have k1 : ∀ i, i < j → u i = w i := fun i hi => by rw [u2 i (by omega)]; exact if_neg (by omega)
    have k2 : u j = x := by rw [u2 j (by omega)]; exact if_pos rfl
    have hne : u j ≠ w j := fun z => hx (by rw [← k2, z, Int.sub_self]; exact Int.dvd_zero _)
    obtain ⟨i, i1, i2, i3⟩ := ker_first hF hn u1 hw (show j < n by omega) k1 hne
    have : i = i0 := by
      rcases Nat.lt_trichotomy i i0 with z | z | z
      · have := hF.1.2.1 i i0 z hi0; omega
      · exact z
      · have := hF.1.2.1 i0 i z i1; omega
    rw [this, k2] at i3
    exact hx i3
