/-! what the equations ask -/
def dot (a : Nat → Nat → Int) (c n : Nat) (u : Nat → Int) : Int := sm n (fun j => a c j * u j)
/-- the first e equations go together -/
def In (a : Nat → Nat → Int) (s : Nat → Int) (e n : Nat) : Prop := ∃ u : Nat → Int, ∀ c, c < e → s c = dot a c n u
theorem In.mono {a : Nat → Nat → Int} {s : Nat → Int} {e e' n : Nat} (h : In a s e n) (he : e' ≤ e) : In a s e' n := by
  obtain ⟨u, hu⟩ := h
  exact ⟨u, fun c hc => hu c (by omega)⟩
theorem In.zero {a : Nat → Nat → Int} {s : Nat → Int} {n : Nat} : In a s 0 n := ⟨fun _ => 0, fun c hc => by omega⟩
/-- what fails answers -/
def Fl (a : Nat → Nat → Int) (s : Nat → Int) (e n : Nat) (f : Int32) : Prop := (f = -1 ∧ In a s e n) ∨ ∃ q, q < e ∧ f = nI q ∧ In a s q n ∧ ¬ In a s (q + 1) n
theorem fl_unique {a : Nat → Nat → Int} {s : Nat → Int} {e n : Nat} {f g : Int32} (h : Fl a s e n f) (h' : Fl a s e n g) : f = g := by
  rcases h with ⟨h1, h2⟩ | ⟨q, h1, h2, h3, h4⟩ <;> rcases h' with ⟨k1, k2⟩ | ⟨r, k1, k2, k3, k4⟩
  · rw [h1, k1]
  · exact absurd (h2.mono (by omega)) k4
  · exact absurd (k2.mono (by omega)) h4
  · have : q = r := by
      rcases Nat.lt_trichotomy q r with z | z | z
      · exact absurd (k3.mono (by omega)) h4
      · exact z
      · exact absurd (h3.mono (by omega)) k4
    rw [h2, k2, this]
/-- the row that the unknowns u make -/
def mkR (a : Nat → Nat → Int) (e n : Nat) (u : Nat → Int) : Nat → Int := fun x => if x < e then dot a x n u else u (x - e)
theorem Fm.lin {a : Nat → Nat → Int} {e n : Nat} {T : Nat → Nat → Int} {L : Nat → Nat} (h : Fm a e n T L) (hn : n ≤ 4) {i c : Nat} (hi : i < n) (hc : c < e) : T i c = dot a c n (fun j => T i (e + j)) := by
  obtain ⟨d, hd⟩ := h.2.1 i hi
  have e1 : ∀ j, j < n → T i (e + j) = d j := fun j hj => by
    rw [hd (e + j) (by omega), sm_one hj (fun k hk hne => ?_)]
    · rw [rm_unit j j (by omega) (by omega), if_pos rfl]; omega
    · rw [rm_unit k j (by omega) (by omega), if_neg hne]; omega
  rw [hd c (by omega)]
  refine sm_congr (fun j hj => ?_)
  show d j * rm a e n j c = a c j * T i (e + j)
  rw [e1 j hj]
  unfold rm
  rw [if_pos hc, if_pos hj, Int.mul_comm]
theorem Fm.sp_mk {a : Nat → Nat → Int} {e n : Nat} {T : Nat → Nat → Int} {L : Nat → Nat} (h : Fm a e n T L) (hn : n ≤ 4) (u : Nat → Int) : Sp T n (e + n) (mkR a e n u) := by
  refine Sp.trans h.2.2.1 ⟨u, fun x hx => ?_⟩
  unfold mkR
  by_cases q : x < e
  · rw [if_pos q]
    refine sm_congr (fun j hj => ?_)
    show a x j * u j = u j * rm a e n j x
    unfold rm
    rw [if_pos q, if_pos hj, Int.mul_comm]
  · rw [if_neg q, sm_one (show x - e < n by omega) (fun j hj hne => ?_)]
    · obtain ⟨j, rfl⟩ : ∃ j, x = e + j := ⟨x - e, by omega⟩
      rw [show e + j - e = j from by omega, rm_unit j j (by omega) (by omega), if_pos rfl]; omega
    · obtain ⟨k, rfl⟩ : ∃ j, x = e + j := ⟨x - e, by omega⟩
      rw [rm_unit j k (by omega) (by omega), if_neg (by omega)]; omega
/-- reducing a row, lead by lead -/
def rv (T : Nat → Nat → Int) (L : Nat → Nat) (v : Nat → Int) : Nat → Nat → Int
  | 0 => v
  | k + 1 => fun x => rv T L v k x - (rv T L v k (L k)).fdiv (T k (L k)) * T k x
theorem sm_abs {n : Nat} {f : Nat → Int} {g : Nat → Nat} (h : ∀ i, i < n → (f i).natAbs ≤ g i) : (sm n f).natAbs ≤ (sm n (fun i => (g i : Int))).natAbs ∧ 0 ≤ sm n (fun i => (g i : Int)) := by
  induction n with
  | zero => exact ⟨Nat.le_refl _, Int.le_refl _⟩
  | succ n ih =>
    obtain ⟨i1, i2⟩ := ih (fun i hi => h i (by omega))
    have h1 := h n (by omega)
    show (sm n f + f n).natAbs ≤ (sm n (fun i => (g i : Int)) + (g n : Int)).natAbs ∧ 0 ≤ sm n (fun i => (g i : Int)) + (g n : Int)
    omega
/-- the times stay small: each is under what stands there and the times before -/
theorem rv_spec {T : Nat → Nat → Int} {L : Nat → Nat} {n w : Nat} (h : Ech T L n w) (v : Nat → Int) : ∀ k, k ≤ n → (∃ t : Nat → Int, (∀ x, rv T L v k x = v x - sm k (fun i => t i * T i x)) ∧ (∀ i, i < k → t i = (rv T L v i (L i)).fdiv (T i (L i)))) ∧ ∀ i, i < k → 0 ≤ rv T L v k (L i) ∧ rv T L v k (L i) < T i (L i) := by
  intro k
  induction k with
  | zero => intro _; exact ⟨⟨fun _ => 0, fun x => by show v x = v x - 0; omega, fun i hi => by omega⟩, fun i hi => by omega⟩
  | succ k ih =>
    intro hk
    obtain ⟨⟨t, t1, t2⟩, i2⟩ := ih (by omega)
    obtain ⟨p1, p2, p3⟩ := h.1 k (by omega)
    refine ⟨⟨fun i => if i = k then (rv T L v k (L k)).fdiv (T k (L k)) else t i, fun x => ?_, fun i hi => ?_⟩, fun i hi => ?_⟩
    · show rv T L v k x - (rv T L v k (L k)).fdiv (T k (L k)) * T k x = v x - (sm k (fun i => (if i = k then (rv T L v k (L k)).fdiv (T k (L k)) else t i) * T i x) + (if k = k then (rv T L v k (L k)).fdiv (T k (L k)) else t k) * T k x)
      rw [if_pos rfl, sm_congr (g := fun i => t i * T i x) (fun i hi => by rw [if_neg (by omega)]), t1 x]
      omega
    · show (if i = k then (rv T L v k (L k)).fdiv (T k (L k)) else t i) = _
      by_cases q : i = k
      · subst q; rw [if_pos rfl]
      · rw [if_neg q]; exact t2 i (by omega)
    · show 0 ≤ rv T L v k (L i) - (rv T L v k (L k)).fdiv (T k (L k)) * T k (L i) ∧ rv T L v k (L i) - (rv T L v k (L k)).fdiv (T k (L k)) * T k (L i) < T i (L i)
      by_cases q : i = k
      · subst q; exact rest_pos p2
      · have := h.2.1 i k (by omega) (by omega)
        rw [p3 (L i) this]
        have := i2 i (by omega)
        omega
/-- bounds of the times and of all that is met -/
theorem rv_bound {T : Nat → Nat → Int} {L : Nat → Nat} {n w : Nat} (h : Ech T L n w) (hn : n ≤ 4) (v : Nat → Int) {S : Nat} (hS : ∀ i, i < n → (v (L i)).natAbs ≤ S) : ∀ i, i < n → (rv T L v i (L i)).natAbs ≤ S + (2 ^ i - 1) * (S + 1) * (T i (L i)).natAbs ∧ ((rv T L v i (L i)).fdiv (T i (L i))).natAbs ≤ (S + 1) * 2 ^ i := by
  intro i
  induction i using Nat.strongRecOn with
  | _ i ih =>
    intro hi
    obtain ⟨⟨t, t1, t2⟩, -⟩ := rv_spec h v i (by omega)
    obtain ⟨p1, p2, p3⟩ := h.1 i hi
    have tb : ∀ l, l < i → (t l).natAbs ≤ (S + 1) * 2 ^ l := fun l hl => by rw [t2 l hl]; exact (ih l hl (by omega)).2
    have hv := hS i hi
    have e := t1 (L i)
    have term : ∀ l, l < i → (t l * T l (L i)).natAbs ≤ (S + 1) * 2 ^ l * ((T i (L i)).natAbs - 1) := fun l hl => na_mul (tb l hl) (by have := h.2.2 l i hl hi; omega)
    have hg : 1 ≤ (T i (L i)).natAbs := by omega
    -- the sum of the terms
    have hsum : (sm i (fun l => t l * T l (L i))).natAbs ≤ (2 ^ i - 1) * (S + 1) * ((T i (L i)).natAbs - 1) := by
      have : i = 0 ∨ i = 1 ∨ i = 2 ∨ i = 3 := by omega
      rcases this with rfl | rfl | rfl | rfl
      · show (0 : Int).natAbs ≤ _; exact Nat.zero_le _
      · have a0 := term 0 (by decide)
        show (0 + t 0 * T 0 (L 1)).natAbs ≤ _
        simp only [Nat.reducePow, Nat.reduceSub, Nat.one_mul, Nat.mul_one] at a0 ⊢
        omega
      · have a0 := term 0 (by decide)
        have a1 := term 1 (by decide)
        show (0 + t 0 * T 0 (L 2) + t 1 * T 1 (L 2)).natAbs ≤ _
        simp only [Nat.reducePow, Nat.reduceSub, Nat.one_mul, Nat.mul_one] at a0 a1 ⊢
        have e1 : (S + 1) * 2 * ((T 2 (L 2)).natAbs - 1) = 2 * ((S + 1) * ((T 2 (L 2)).natAbs - 1)) := by rw [Nat.mul_comm (S + 1) 2, Nat.mul_assoc]
        have e2 : 3 * (S + 1) * ((T 2 (L 2)).natAbs - 1) = 3 * ((S + 1) * ((T 2 (L 2)).natAbs - 1)) := Nat.mul_assoc _ _ _
        rw [e1] at a1
        rw [e2]
        omega
      · have a0 := term 0 (by decide)
        have a1 := term 1 (by decide)
        have a2 := term 2 (by decide)
        show (0 + t 0 * T 0 (L 3) + t 1 * T 1 (L 3) + t 2 * T 2 (L 3)).natAbs ≤ _
        simp only [Nat.reducePow, Nat.reduceSub, Nat.one_mul, Nat.mul_one] at a0 a1 a2 ⊢
        have e1 : (S + 1) * 2 * ((T 3 (L 3)).natAbs - 1) = 2 * ((S + 1) * ((T 3 (L 3)).natAbs - 1)) := by rw [Nat.mul_comm (S + 1) 2, Nat.mul_assoc]
        have e3 : (S + 1) * 4 * ((T 3 (L 3)).natAbs - 1) = 4 * ((S + 1) * ((T 3 (L 3)).natAbs - 1)) := by rw [Nat.mul_comm (S + 1) 4, Nat.mul_assoc]
        have e2 : 7 * (S + 1) * ((T 3 (L 3)).natAbs - 1) = 7 * ((S + 1) * ((T 3 (L 3)).natAbs - 1)) := Nat.mul_assoc _ _ _
        rw [e1] at a1
        rw [e3] at a2
        rw [e2]
        omega
    have htot : (rv T L v i (L i)).natAbs ≤ S + (2 ^ i - 1) * (S + 1) * ((T i (L i)).natAbs - 1) := by
      rw [e]
      have := na_sub (v (L i)) (sm i (fun l => t l * T l (L i)))
      omega
    refine ⟨Nat.le_trans htot (Nat.add_le_add_left (Nat.mul_le_mul_left _ (by omega)) _), ?_⟩
    -- dividing
    have hf := fd_mul (a := rv T L v i (L i)) (b := T i (L i)) (by omega)
    have h2 : 1 ≤ 2 ^ i := Nat.one_le_two_pow
    have key : ((rv T L v i (L i)).fdiv (T i (L i))).natAbs * (T i (L i)).natAbs ≤ (S + 1) * 2 ^ i * (T i (L i)).natAbs := by
      generalize hg9 : (T i (L i)).natAbs = g at *
      obtain ⟨g, rfl⟩ : ∃ g', g = g' + 1 := ⟨g - 1, by omega⟩
      generalize hP : 2 ^ i = P at *
      obtain ⟨P, rfl⟩ : ∃ P', P = P' + 1 := ⟨P - 1, by omega⟩
      simp only [Nat.add_sub_cancel] at htot
      have e4 : (S + 1) * (P + 1) * (g + 1) = P * (S + 1) * g + P * (S + 1) + (S + 1) * g + (S + 1) := by grind
      rw [e4]
      have : g ≤ (S + 1) * g := Nat.le_mul_of_pos_left _ (by omega)
      omega
    exact Nat.le_of_mul_le_mul_right key (by omega)
