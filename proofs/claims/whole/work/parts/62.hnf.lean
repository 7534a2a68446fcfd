/-! the form of a lattice is one -/
def sm : Nat → (Nat → Int) → Int
  | 0, _ => 0
  | n + 1, f => sm n f + f n
theorem sm_congr {n : Nat} {f g : Nat → Int} (h : ∀ i, i < n → f i = g i) : sm n f = sm n g := by
  induction n with
  | zero => rfl
  | succ n ih =>
    show sm n f + f n = sm n g + g n
    rw [ih (fun i hi => h i (by omega)), h n (by omega)]
theorem sm_zero {n : Nat} {f : Nat → Int} (h : ∀ i, i < n → f i = 0) : sm n f = 0 := by
  induction n with
  | zero => rfl
  | succ n ih =>
    show sm n f + f n = 0
    rw [ih (fun i hi => h i (by omega)), h n (by omega)]
    rfl
theorem sm_one {n k : Nat} {f : Nat → Int} (hk : k < n) (h : ∀ i, i < n → i ≠ k → f i = 0) : sm n f = f k := by
  induction n with
  | zero => omega
  | succ n ih =>
    show sm n f + f n = f k
    by_cases e : k = n
    · subst e
      rw [sm_zero (fun i hi => h i (by omega) (by omega))]
      omega
    · rw [ih (by omega) (fun i hi hne => h i (by omega) hne), h n (by omega) (by omega)]
      omega
theorem sm_add {n : Nat} {f g : Nat → Int} : sm n (fun i => f i + g i) = sm n f + sm n g := by
  induction n with
  | zero => rfl
  | succ n ih =>
    show sm n (fun i => f i + g i) + (f n + g n) = sm n f + f n + (sm n g + g n)
    rw [ih]; omega
theorem sm_mul {n : Nat} {q : Int} {f : Nat → Int} : sm n (fun i => q * f i) = q * sm n f := by
  induction n with
  | zero => show (0 : Int) = q * 0; omega
  | succ n ih =>
    show sm n (fun i => q * f i) + q * f n = q * (sm n f + f n)
    rw [ih, Int.mul_add]
/-- v comes of the first k rows (places under w) -/
def Sp (H : Nat → Nat → Int) (k w : Nat) (v : Nat → Int) : Prop := ∃ c : Nat → Int, ∀ x, x < w → v x = sm k (fun i => c i * H i x)
theorem Sp.row {H : Nat → Nat → Int} {k w i : Nat} (hi : i < k) : Sp H k w (H i) := ⟨fun j => if j = i then 1 else 0, fun x _ => by
  rw [sm_one hi (fun j _ hne => by simp [hne])]
  simp⟩
theorem Sp.comb {H : Nat → Nat → Int} {k w : Nat} {u v : Nat → Int} (p q : Int) (hu : Sp H k w u) (hv : Sp H k w v) : Sp H k w (fun x => p * u x + q * v x) := by
  obtain ⟨c, hc⟩ := hu
  obtain ⟨d, hd⟩ := hv
  refine ⟨fun i => p * c i + q * d i, fun x hx => ?_⟩
  show p * u x + q * v x = _
  rw [hc x hx, hd x hx, ← sm_mul, ← sm_mul, ← sm_add]
  exact sm_congr (fun i _ => by grind)
theorem Sp.congr {H : Nat → Nat → Int} {k w : Nat} {u v : Nat → Int} (hu : Sp H k w u) (h : ∀ x, x < w → v x = u x) : Sp H k w v := by
  obtain ⟨c, hc⟩ := hu
  exact ⟨c, fun x hx => by rw [h x hx]; exact hc x hx⟩
theorem Sp.zero {H : Nat → Nat → Int} {k w : Nat} : Sp H k w (fun _ => 0) := ⟨fun _ => 0, fun x _ => (sm_zero (fun i _ => Int.zero_mul _)).symm⟩
/-- what comes of rows that themselves come of H comes of H -/
theorem Sp.trans {H G : Nat → Nat → Int} {k m w : Nat} (h : ∀ i, i < m → Sp H k w (G i)) {v : Nat → Int} (hv : Sp G m w v) : Sp H k w v := by
  obtain ⟨c, hc⟩ := hv
  have gen : ∀ m, (∀ i, i < m → Sp H k w (G i)) → Sp H k w (fun x => sm m (fun i => c i * G i x)) := by
    intro m
    induction m with
    | zero => intro _; exact Sp.zero
    | succ m ih =>
      intro h
      refine (Sp.comb 1 (c m) (ih (fun i hi => h i (by omega))) (h m (by omega))).congr (fun x _ => ?_)
      show sm m (fun i => c i * G i x) + c m * G m x = 1 * sm m (fun i => c i * G i x) + c m * G m x
      omega
  exact (gen m h).congr hc
/-- k rows in form: leads at L -/
def Ech (H : Nat → Nat → Int) (L : Nat → Nat) (k w : Nat) : Prop := (∀ i, i < k → L i < w ∧ 0 < H i (L i) ∧ ∀ x, x < L i → H i x = 0) ∧ (∀ i j, i < j → j < k → L i < L j) ∧ ∀ i j, i < j → j < k → 0 ≤ H i (L j) ∧ H i (L j) < H j (L j)
theorem Ech.le {H : Nat → Nat → Int} {L : Nat → Nat} {k w i j : Nat} (h : Ech H L k w) (hij : i ≤ j) (hj : j < k) : L i ≤ L j := by
  rcases Nat.lt_or_ge i j with q | q
  · exact Nat.le_of_lt (h.2.1 i j q hj)
  · have : i = j := by omega
    subst this
    exact Nat.le_refl _
theorem sp_first {H : Nat → Nat → Int} {L : Nat → Nat} {k w : Nat} (h : Ech H L k w) {v : Nat → Int} (hv : Sp H k w v) (h0 : ∃ x, x < w ∧ v x ≠ 0) : ∃ i, i < k ∧ (∀ x, x < L i → v x = 0) ∧ v (L i) ≠ 0 ∧ H i (L i) ∣ v (L i) := by
  obtain ⟨c, hc⟩ := hv
  have hex : ∃ i, i < k ∧ c i ≠ 0 := by
    apply Classical.byContradiction
    intro hn
    obtain ⟨x, hx, hne⟩ := h0
    refine hne ?_
    rw [hc x hx]
    refine sm_zero (fun i hi => ?_)
    have : c i = 0 := Classical.byContradiction (fun q => hn ⟨i, hi, q⟩)
    rw [this]; omega
  obtain ⟨i, ⟨hi, hci⟩, hmin⟩ := pk_least (fun i => i < k ∧ c i ≠ 0) hex
  have hcz : ∀ j, j < i → c j = 0 := fun j hj => Classical.byContradiction (fun q => hmin j hj ⟨by omega, q⟩)
  have hLw := (h.1 i hi).1
  have hat : v (L i) = c i * H i (L i) := by
    rw [hc _ hLw, sm_one hi (fun j hj hne => ?_)]
    rcases Nat.lt_or_ge j i with q | q
    · rw [hcz j q]; omega
    · rw [(h.1 j hj).2.2 (L i) (h.2.1 i j (by omega) hj)]; omega
  refine ⟨i, hi, fun x hx => ?_, ?_, ⟨c i, by rw [hat, Int.mul_comm]⟩⟩
  · rw [hc x (by omega)]
    refine sm_zero (fun j hj => ?_)
    rcases Nat.lt_or_ge j i with q | q
    · rw [hcz j q]; omega
    · have := h.le q hj
      rw [(h.1 j hj).2.2 x (by omega)]; omega
  · rw [hat]
    have := (h.1 i hi).2.1
    exact Int.mul_ne_zero hci (by omega)
/-- a row's first place that is not 0 is its lead -/
theorem ech_lead {H : Nat → Nat → Int} {L : Nat → Nat} {k w : Nat} {G : Nat → Nat → Int} {M : Nat → Nat} {k' : Nat} (h : Ech H L k w) (hg : Ech G M k' w) (hs : ∀ i, i < k → Sp G k' w (H i)) {i : Nat} (hi : i < k) : ∃ j, j < k' ∧ M j = L i ∧ G j (M j) ∣ H i (L i) := by
  obtain ⟨a1, a2, a3⟩ := h.1 i hi
  obtain ⟨j, hj, b1, b2, b3⟩ := sp_first hg (hs i hi) ⟨L i, a1, by omega⟩
  have e : M j = L i := by
    rcases Nat.lt_trichotomy (M j) (L i) with q | q | q
    · exact absurd (a3 _ q) b2
    · exact q
    · have := b1 _ q; omega
  exact ⟨j, hj, e, by rw [e] at b3 ⊢; exact b3⟩
theorem ech_leads {H : Nat → Nat → Int} {L : Nat → Nat} {k w : Nat} {G : Nat → Nat → Int} {M : Nat → Nat} {k' : Nat} (h : Ech H L k w) (hg : Ech G M k' w) (hs : ∀ i, i < k → Sp G k' w (H i)) (hs' : ∀ i, i < k' → Sp H k w (G i)) : ∀ i, i < k → i < k' ∧ L i = M i := by
  intro i
  induction i using Nat.strongRecOn with
  | _ i ih =>
    intro hi
    obtain ⟨j, hj, e, -⟩ := ech_lead h hg hs hi
    rcases Nat.lt_trichotomy j i with q | q | q
    · have h1 := (ih j q (by omega)).2
      have h2 := h.2.1 j i q hi
      omega
    · subst q; exact ⟨hj, e.symm⟩
    · have hik : i < k' := by omega
      have h1 := hg.2.1 i j q hj
      obtain ⟨l, hl, e2, -⟩ := ech_lead hg h hs' hik
      have h3 : l < i := by
        rcases Nat.lt_or_ge l i with z | z
        · exact z
        · have := h.le z hl; omega
      have h4 := (ih l h3 (by omega)).2
      have h5 := hg.2.1 l i h3 hik
      omega
/-- THE FORM IS ONE -/
theorem ech_unique {H : Nat → Nat → Int} {L : Nat → Nat} {k w : Nat} {G : Nat → Nat → Int} {M : Nat → Nat} {k' : Nat} (h : Ech H L k w) (hg : Ech G M k' w) (hs : ∀ i, i < k → Sp G k' w (H i)) (hs' : ∀ i, i < k' → Sp H k w (G i)) : k = k' ∧ ∀ i, i < k → L i = M i ∧ ∀ x, x < w → H i x = G i x := by
  have hl := ech_leads h hg hs hs'
  have hl' := ech_leads hg h hs' hs
  have hk : k = k' := by
    rcases Nat.lt_trichotomy k k' with q | q | q
    · have := (hl' k q).1; omega
    · exact q
    · have := (hl k' q).1; omega
  subst hk
  refine ⟨rfl, fun i hi => ⟨(hl i hi).2, ?_⟩⟩
  have hlead : ∀ i, i < k → H i (L i) = G i (L i) := fun i hi => by
    obtain ⟨j, hj, e, d1⟩ := ech_lead h hg hs hi
    obtain ⟨j2, hj2, e2, d2⟩ := ech_lead hg h hs' hi
    have ej : j = i := by
      have h1 := (hl j hj).2
      rcases Nat.lt_trichotomy j i with q | q | q
      · have := h.2.1 j i q hi; omega
      · exact q
      · have := h.2.1 i j q hj; omega
    have ej2 : j2 = i := by
      have h1 := (hl j2 hj2).2
      have h2 := (hl i hi).2
      rcases Nat.lt_trichotomy j2 i with q | q | q
      · have := h.2.1 j2 i q hi; omega
      · exact q
      · have := h.2.1 i j2 q hj2; omega
    subst ej
    subst ej2
    have p1 := (h.1 _ hi).2.1
    have p2 := (hg.1 _ hi).2.1
    rw [e] at d1
    have e3 := (hl _ hi).2
    rw [← e3] at d2 p2
    exact Int.dvd_antisymm (by omega) (by omega) d2 d1
  intro x hx
  apply Classical.byContradiction
  intro hne
  have hd : Sp H k w (fun x => 1 * H i x + (-1) * G i x) := Sp.comb 1 (-1) (Sp.row hi) (hs' i hi)
  obtain ⟨j, hj, b1, b2, b3⟩ := sp_first h hd ⟨x, hx, by omega⟩
  have e3 := (hl i hi).2
  have hji : i < j := by
    rcases Nat.lt_trichotomy i j with q | q | q
    · exact q
    · subst q
      have := hlead i hi
      exact absurd (by omega) b2
    · exfalso
      have hlt := h.2.1 j i q hi
      have z1 := (h.1 i hi).2.2 _ hlt
      have z2 := (hg.1 i hi).2.2 (L j) (by omega)
      exact b2 (by omega)
  have r1 := h.2.2 i j hji hj
  have r2 := hg.2.2 i j hji hj
  have e4 := (hl j hj).2
  rw [← e4] at r2
  have e5 := hlead j hj
  rw [← e5] at r2
  obtain ⟨q, hq⟩ := b3
  have hp := (h.1 j hj).2.1
  have hb : -(H j (L j)) < 1 * H i (L j) + (-1) * G i (L j) ∧ 1 * H i (L j) + (-1) * G i (L j) < H j (L j) := by omega
  rw [hq] at hb
  have hq0 : q = 0 := by
    rcases Int.lt_trichotomy q 0 with z | z | z
    · have : H j (L j) * q ≤ H j (L j) * (-1) := Int.mul_le_mul_of_nonneg_left (by omega) (by omega)
      omega
    · exact z
    · have : H j (L j) * 1 ≤ H j (L j) * q := Int.mul_le_mul_of_nonneg_left (by omega) (by omega)
      omega
  rw [hq0] at hq
  exact b2 (by rw [hq]; omega)
