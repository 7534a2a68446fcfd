/-! the run of a form, as a change of rows of whole numbers -/
def St (T : Nat → Nat → Int) (L : Nat → Nat) (k c h : Nat) : Prop := (∀ i, i < k → L i < c ∧ 0 < T i (L i) ∧ ∀ x, x < L i → T i x = 0) ∧ (∀ i j, i < j → j < k → L i < L j) ∧ (∀ i j, i < j → j < k → 0 ≤ T i (L j) ∧ T i (L j) < T j (L j)) ∧ ∀ i, k ≤ i → i < h → ∀ x, x < c → T i x = 0
theorem St.ech {T : Nat → Nat → Int} {L : Nat → Nat} {k c h w : Nat} (s : St T L k c h) (hc : c ≤ w) : Ech T L k w := ⟨fun i hi => ⟨Nat.lt_of_lt_of_le (s.1 i hi).1 hc, (s.1 i hi).2⟩, s.2.1, s.2.2.1⟩
theorem St.op {T : Nat → Nat → Int} {L : Nat → Nat} {k c h u l : Nat} (s : St T L k c h) (z : Opc) (hu : k ≤ u) (hu2 : u < h) (hl : k ≤ l) (hl2 : l < h) (hne : u ≠ l) : St (opT u l z T) L k c h := by
  have o : ∀ i x, i < k → opT u l z T i x = T i x := fun i x hi => opT_o (by omega) (by omega)
  refine ⟨fun i hi => ?_, s.2.1, fun i j hij hj => ?_, fun i hi hih x hx => ?_⟩
  · obtain ⟨a, b, c⟩ := s.1 i hi
    exact ⟨a, by rw [o i _ hi]; exact b, fun x hx => by rw [o i _ hi]; exact c x hx⟩
  · rw [o i _ (by omega), o j _ hj]; exact s.2.2.1 i j hij hj
  · by_cases h1 : i = u
    · subst h1
      rw [opT_u, s.2.2.2 i hu hu2 x hx, s.2.2.2 l hl hl2 x hx]; omega
    · by_cases h2 : i = l
      · subst h2
        rw [opT_l hne, s.2.2.2 i hl hl2 x hx, s.2.2.2 u hu hu2 x hx]; omega
      · rw [opT_o h1 h2]; exact s.2.2.2 i hi hih x hx
theorem St.next {T : Nat → Nat → Int} {L : Nat → Nat} {k c h : Nat} (s : St T L k c h) (hz : ∀ i, k ≤ i → i < h → T i c = 0) : St T L k (c + 1) h := by
  refine ⟨fun i hi => ⟨by have := (s.1 i hi).1; omega, (s.1 i hi).2⟩, s.2.1, s.2.2.1, fun i hi hih x hx => ?_⟩
  by_cases e : x = c
  · subst e; exact hz i hi hih
  · exact s.2.2.2 i hi hih x (by omega)
/-- the rows under m reduced by row k at place c -/
def redT (k c m : Nat) (T : Nat → Nat → Int) : Nat → Nat → Int := fun i x => if i < m then T i x - (T i c).fdiv (T k c) * T k x else T i x
theorem St.piv {T : Nat → Nat → Int} {L : Nat → Nat} {k c h : Nat} (s : St T L k c h) (hk : k < h) (hp : 0 < T k c) (hz : ∀ i, k < i → i < h → T i c = 0) : St (redT k c k T) (fun i => if i = k then c else L i) (k + 1) (c + 1) h := by
  have o : ∀ i x, ¬ i < k → redT k c k T i x = T i x := fun i x hi => if_neg hi
  have u : ∀ i x, i < k → redT k c k T i x = T i x - (T i c).fdiv (T k c) * T k x := fun i x hi => if_pos hi
  have u0 : ∀ i x, i < k → x < c → redT k c k T i x = T i x := fun i x hi hx => by
    rw [u i x hi, s.2.2.2 k (Nat.le_refl _) hk x hx]; omega
  refine ⟨fun i hi => ?_, fun i j hij hj => ?_, fun i j hij hj => ?_, fun i hi hih x hx => ?_⟩
  · by_cases e : i = k
    · subst e
      simp only [if_true]
      exact ⟨by omega, by rw [o _ _ (by omega)]; exact hp, fun x hx => by rw [o _ _ (by omega)]; exact s.2.2.2 i (Nat.le_refl _) hk x hx⟩
    · obtain ⟨a, b, d⟩ := s.1 i (by omega)
      simp only [e, if_false]
      exact ⟨by omega, by rw [u0 _ _ (by omega) a]; exact b, fun x hx => by rw [u0 _ _ (by omega) (by omega)]; exact d x hx⟩
  · by_cases e : j = k
    · subst e
      simp only [if_true, show ¬ i = j from by omega, if_false]
      exact (s.1 i (by omega)).1
    · simp only [e, if_false, show ¬ i = k from by omega]
      exact s.2.1 i j hij (by omega)
  · by_cases e : j = k
    · subst e
      simp only [if_true]
      rw [u i _ (by omega), o j _ (by omega)]
      exact rest_pos hp
    · simp only [e, if_false]
      have hl := (s.1 j (by omega)).1
      rw [u0 i _ (by omega) hl, u0 j _ (by omega) hl]
      exact s.2.2.1 i j hij (by omega)
  · rw [o i _ (by omega)]
    by_cases e : x = c
    · subst e; exact hz i (by omega) hih
    · exact s.2.2.2 i (by omega) hih x (by omega)
def rdz (t : Int) : Opc := opc 1 (-t) 0 1 1 0 t 1
theorem rdz_ok (t : Int) : (rdz t).ok := by
  refine ⟨⟨?_, ?_, ?_, ?_⟩, ⟨?_, ?_, ?_, ?_⟩, ?_⟩
  · show (1 : Int) * 1 + -t * 0 = 1; omega
  · show (1 : Int) * t + -t * 1 = 0; omega
  · show (0 : Int) * 1 + 1 * 0 = 0; omega
  · show (0 : Int) * t + 1 * 1 = 1; omega
  · show (1 : Int) * 1 + t * 0 = 1; omega
  · show (1 : Int) * -t + t * 1 = 0; omega
  · show (0 : Int) * 1 + 1 * 0 = 0; omega
  · show (0 : Int) * -t + 1 * 1 = 1; omega
  · left; show (1 : Int) * 1 - 0 * t = 1; omega
def ngz : Opc := opc (-1) 0 0 1 (-1) 0 0 1
theorem ngz_ok : ngz.ok := by unfold Opc.ok ngz opc Opc.a Opc.b Opc.c Opc.d Opc.p Opc.q Opc.r Opc.s; decide
theorem opT_idz {u l : Nat} {T : Nat → Nat → Int} : opT u l idz T = T := by
  funext i x
  unfold opT
  by_cases h : i = u
  · subst h; rw [if_pos rfl]; show 1 * T i x + 0 * T l x = T i x; omega
  · rw [if_neg h]
    by_cases h2 : i = l
    · subst h2; rw [if_pos rfl]; show 0 * T u x + 1 * T i x = T i x; omega
    · rw [if_neg h2]
theorem opN_idz {u l : Nat} {N : Nat → Nat → Int} : opN u l idz N = N := by
  funext i x
  unfold opN
  by_cases h : i = u
  · subst h; rw [if_pos rfl]; show 1 * N i x + 0 * N l x = N i x; omega
  · rw [if_neg h]
    by_cases h2 : i = l
    · subst h2; rw [if_pos rfl]; show 0 * N u x + 1 * N i x = N i x; omega
    · rw [if_neg h2]
theorem opT_ngz {u l : Nat} {T : Nat → Nat → Int} (h : u ≠ l) (i x : Nat) : opT u l ngz T i x = if i = u then -(T u x) else T i x := by
  unfold opT
  by_cases h1 : i = u
  · rw [if_pos h1, if_pos h1]; show -1 * T u x + 0 * T l x = _; omega
  · rw [if_neg h1, if_neg h1]
    by_cases h2 : i = l
    · subst h2; rw [if_pos rfl]; show 0 * T u x + 1 * T i x = _; omega
    · rw [if_neg h2]
theorem redT_s {k c m : Nat} (hm : m < k) (T : Nat → Nat → Int) : redT k c (m + 1) T = opT m k (rdz ((T m c).fdiv (T k c))) (redT k c m T) := by
  funext i x
  have ek : ∀ x, redT k c m T k x = T k x := fun x => if_neg (by omega)
  have em : ∀ x, redT k c m T m x = T m x := fun x => if_neg (by omega)
  by_cases h1 : i = m
  · subst h1
    rw [opT_u, em, ek]
    show (if i < i + 1 then T i x - (T i c).fdiv (T k c) * T k x else T i x) = 1 * T i x + -((T i c).fdiv (T k c)) * T k x
    rw [if_pos (by omega), Int.neg_mul]
    omega
  · by_cases h2 : i = k
    · subst h2
      rw [opT_l (by omega), em, ek]
      show (if i < m + 1 then T i x - (T i c).fdiv (T i c) * T i x else T i x) = 0 * T m x + 1 * T i x
      rw [if_neg (by omega)]
      omega
    · rw [opT_o h1 h2]
      unfold redT
      by_cases h3 : i < m
      · rw [if_pos h3, if_pos (by omega)]
      · rw [if_neg h3, if_neg (by omega)]
theorem redT_0 {k c : Nat} (T : Nat → Nat → Int) : redT k c 0 T = T := by
  funext i x
  exact if_neg (by omega)
theorem NT.red {R T N : Nat → Nat → Int} (h : NT R T N) {k c : Nat} (hk : k < 4) : ∀ m, m ≤ k → ∃ N', NT R (redT k c m T) N' ∧ ∀ j, j ≠ k → N' j = N j := by
  intro m
  induction m with
  | zero => intro _; exact ⟨N, by rw [redT_0]; exact h, fun _ _ => rfl⟩
  | succ m ih =>
    intro hm
    obtain ⟨N', h1, h2⟩ := ih (by omega)
    refine ⟨opN m k (rdz ((T m c).fdiv (T k c))) N', by rw [redT_s (by omega)]; exact h1.op (by omega) hk (by omega) (rdz_ok _), fun j hj => ?_⟩
    by_cases e : j = m
    · subst e
      rw [← h2 j hj]
      funext x
      rw [opN_u]
      show 1 * N' j x + 0 * N' k x = N' j x
      omega
    · rw [← h2 j hj]
      funext x
      exact opN_o e hj
theorem LinT.red {R T : Nat → Nat → Int} {e : Nat} (h : LinT R T e) {k c : Nat} : ∀ m, m ≤ k → LinT R (redT k c m T) e := by
  intro m
  induction m with
  | zero => intro _; rw [redT_0]; exact h
  | succ m ih =>
    intro hm
    rw [redT_s (by omega)]
    exact (ih (by omega)).op _ _ _
/-- behind the reduction, the pivot's column is small -/
theorem NT.piv {R T N : Nat → Nat → Int} (h : NT R T N) {k c : Nat} (hk : k < 4) (hp : 0 < T k c) (hz : ∀ j, k < j → j < 4 → T j c = 0) (hr : ∀ j, j < k → 0 ≤ T j c ∧ T j c < T k c) (hR : ∀ i, i < 4 → (R i c).natAbs ≤ 9) (hb : ∀ j, j < k → bd (N j) (9 * 2 ^ j)) : bd (N k) (9 * 2 ^ k) := by
  intro i hi
  have e := h.1 i c
  have hRi := hR i hi
  have g1 : (N k i * T k c).natAbs = (N k i).natAbs * (T k c).natAbs := Int.natAbs_mul _ _
  have t : ∀ j, j < k → (N j i * T j c).natAbs ≤ 9 * 2 ^ j * ((T k c).natAbs - 1) := fun j hj => na_mul (hb j hj i hi) (by have := hr j hj; omega)
  have zz : ∀ j, k < j → j < 4 → N j i * T j c = 0 := fun j h1 h2 => by rw [hz j h1 h2]; omega
  have key : ∀ B : Nat, (N k i).natAbs ≤ B ∨ (B + 1) * (T k c).natAbs ≤ (N k i).natAbs * (T k c).natAbs := fun B => by
    rcases Nat.lt_or_ge B (N k i).natAbs with q | q
    · exact Or.inr (Nat.mul_le_mul_right _ q)
    · exact Or.inl q
  have hg : 1 ≤ (T k c).natAbs := by omega
  rw [← g1] at key
  rcases lt4 hk with rfl | rfl | rfl | rfl
  · have z1 := zz 1 (by omega) (by omega)
    have z2 := zz 2 (by omega) (by omega)
    have z3 := zz 3 (by omega) (by omega)
    have := key 9
    show (N 0 i).natAbs ≤ 9
    omega
  · have t0 := t 0 (by omega)
    have z2 := zz 2 (by omega) (by omega)
    have z3 := zz 3 (by omega) (by omega)
    have := key 18
    simp only [Nat.reducePow, Nat.reduceMul] at t0
    show (N 1 i).natAbs ≤ 18
    omega
  · have t0 := t 0 (by omega)
    have t1 := t 1 (by omega)
    have z3 := zz 3 (by omega) (by omega)
    have := key 36
    simp only [Nat.reducePow, Nat.reduceMul] at t0 t1
    show (N 2 i).natAbs ≤ 36
    omega
  · have t0 := t 0 (by omega)
    have t1 := t 1 (by omega)
    have t2 := t 2 (by omega)
    have := key 72
    simp only [Nat.reducePow, Nat.reduceMul] at t0 t1 t2
    show (N 3 i).natAbs ≤ 72
    omega
/-- the end of a stage -/
theorem stage_end {R T N : Nat → Nat → Int} {L : Nat → Nat} {e k c h : Nat} (hN : NT R T N) (hL : LinT R T e) (s : St T L k c h) (hk : k < h) (h4 : h ≤ 4) (hp : 0 < T k c) (hz : ∀ j, k < j → j < 4 → T j c = 0) (hR : ∀ i, i < 4 → (R i c).natAbs ≤ 9) (hb : ∀ j, j < k → bd (N j) (9 * 2 ^ j)) :
    ∃ N', NT R (redT k c k T) N' ∧ LinT R (redT k c k T) e ∧ St (redT k c k T) (fun i => if i = k then c else L i) (k + 1) (c + 1) h ∧ bd (N' k) (9 * 2 ^ k) ∧ ∀ j, j ≠ k → N' j = N j := by
  obtain ⟨N', h1, h2⟩ := hN.red (c := c) (show k < 4 by omega) k (Nat.le_refl _)
  refine ⟨N', h1, hL.red k (Nat.le_refl _), s.piv hk hp (fun i a b => hz i a (by omega)), ?_, h2⟩
  have o : ∀ i x, ¬ i < k → redT k c k T i x = T i x := fun i x hi => if_neg hi
  refine h1.piv (by omega) (by rw [o _ _ (by omega)]; exact hp) (fun j a b => by rw [o _ _ (by omega)]; exact hz j a b) (fun j hj => ?_) hR (fun j hj => by rw [h2 j (by omega)]; exact hb j hj)
  rw [o k _ (by omega)]
  show 0 ≤ (if j < k then T j c - (T j c).fdiv (T k c) * T k c else T j c) ∧ (if j < k then T j c - (T j c).fdiv (T k c) * T k c else T j c) < T k c
  rw [if_pos hj]
  exact rest_pos hp
/-! the chain of a stage (class) -/
def Sf (v V : Nat → Nat) (k : Nat) : Nat → Nat
  | 0 => 0
  | i + 1 => Sf v V k i + if k ≤ i then v i * V i else 0
theorem Sf_s {v V : Nat → Nat} {k i : Nat} (h : k ≤ i) : Sf v V k (i + 1) = Sf v V k i + v i * V i := by
  show Sf v V k i + (if k ≤ i then v i * V i else 0) = _
  rw [if_pos h]
theorem Sf_k {v V : Nat → Nat} {k : Nat} : ∀ i, i ≤ k → Sf v V k i = 0 := by
  intro i
  induction i with
  | zero => intro _; rfl
  | succ i ih =>
    intro h
    show Sf v V k i + (if k ≤ i then v i * V i else 0) = 0
    rw [if_neg (by omega), ih (by omega)]
def Ch (R T0 N0 : Nat → Nat → Int) (L : Nat → Nat) (e k c h : Nat) (v V : Nat → Nat) (i : Nat) (T N : Nat → Nat → Int) : Prop :=
  NT R T N ∧ LinT R T e ∧ St T L k c h ∧ (∀ j, (j < k ∨ i ≤ j) → T j = T0 j ∧ N j = N0 j) ∧ (∀ j, k < j → j < i → T j c = 0 ∧ bd (N j) (2 * Sf v V k j + (V j + 1) * v j)) ∧ bd (N k) (Sf v V k i) ∧ (∀ x, x < 4 → (N k x * T k c).natAbs ≤ Sf v V k i) ∧ (∃ j, k ≤ j ∧ j < i ∧ (T k c).natAbs ≤ V j) ∧ (T k c = 0 → T = T0 ∧ N = N0)
theorem ch_begin {R T N : Nat → Nat → Int} {L : Nat → Nat} {e k c h : Nat} {v V : Nat → Nat} (hN : NT R T N) (hL : LinT R T e) (s : St T L k c h) (hv : (T k c).natAbs ≤ V k) (hb : bd (N k) (v k)) (h1 : 1 ≤ V k) : Ch R T N L e k c h v V (k + 1) T N := by
  have e1 : Sf v V k (k + 1) = v k * V k := by rw [Sf_s (Nat.le_refl _), Sf_k k (Nat.le_refl _)]; omega
  refine ⟨hN, hL, s, fun _ _ => ⟨rfl, rfl⟩, fun j a b => by omega, ?_, fun x hx => ?_, ⟨k, Nat.le_refl _, by omega, hv⟩, fun _ => ⟨rfl, rfl⟩⟩
  · intro x hx
    rw [e1]
    have := hb x hx
    have h2 : v k * 1 ≤ v k * V k := Nat.mul_le_mul_left _ h1
    omega
  · rw [e1]
    exact na_mul (hb x hx) hv
theorem ch_step {R T0 N0 T N : Nat → Nat → Int} {L : Nat → Nat} {e k c h : Nat} {v V : Nat → Nat} {i : Nat} (C : Ch R T0 N0 L e k c h v V i T N) (hki : k < i) (hih : i < h) (h4 : h ≤ 4) (hV : ∀ j, j < 4 → V j < 9223372036854775808) (hv : (T0 i c).natAbs ≤ V i) (hb : bd (N0 i) (v i)) :
    fit (T k c) ∧ fit (T i c) ∧ Ch R T0 N0 L e k c h v V (i + 1) (opT k i (euz 200 (T k c) (T i c)) T) (opN k i (euz 200 (T k c) (T i c)) N) := by
  obtain ⟨c1, c2, c3, c4, c5, c6, c7, ⟨j0, g1, g2, g3⟩, c9⟩ := C
  obtain ⟨t1, t2⟩ := c4 i (Or.inr (Nat.le_refl _))
  have fa : fit (T k c) := by have := hV j0 (by omega); unfold fit; omega
  have hbi : (T i c).natAbs ≤ V i := by rw [t1]; exact hv
  have fb : fit (T i c) := by have := hV i (by omega); unfold fit; omega
  have hne : k ≠ i := by omega
  have h0 := euz_zero200 (a := T k c) fb
  have hp := euz_p h0
  have hrs := euz_rs h0
  have hg := eug_le h0
  have eg : opT k i (euz 200 (T k c) (T i c)) T k c = eug 200 (T k c) (T i c) := opT_u
  refine ⟨fa, fb, c1.op (by omega) (by omega) hne (euz_ok _ _ _), c2.op _ _ _, c3.op _ (Nat.le_refl _) (by omega) (by omega) hih hne, fun j hj => ?_, fun j hj1 hj2 => ?_, ?_, ?_, ?_, ?_⟩
  · obtain ⟨a1, a2⟩ := c4 j (by omega)
    exact ⟨by rw [← a1]; funext x; exact opT_o (by omega) (by omega), by rw [← a2]; funext x; exact opN_o (by omega) (by omega)⟩
  · by_cases e1 : j = i
    · subst e1
      refine ⟨by rw [opT_l hne]; exact h0, fun x hx => ?_⟩
      rw [opN_l hne]
      have b1 := na_mul hrs.1 (Nat.le_refl (N k x).natAbs)
      have b2 := na_mul hrs.2 (show (N j x).natAbs ≤ v j by rw [t2]; exact hb x hx)
      have b3 := na_add ((euz 200 (T k c) (T j c)).r * N k x) ((euz 200 (T k c) (T j c)).s * N j x)
      have b4 := c7 x hx
      rw [Int.natAbs_mul, Nat.mul_comm] at b4
      have b5 := c6 x hx
      have b6 : ((T j c).natAbs + 1) * v j ≤ (V j + 1) * v j := Nat.mul_le_mul_right _ (by omega)
      rw [Nat.add_mul] at b1
      omega
    · obtain ⟨a1, a2⟩ := c5 j hj1 (by omega)
      refine ⟨by rw [opT_o (by omega) e1]; exact a1, fun x hx => ?_⟩
      rw [opN_o (by omega) e1]; exact a2 x hx
  · intro x hx
    rw [Sf_s (by omega)]
    by_cases hG : eug 200 (T k c) (T i c) = 0
    · have a0 : T k c = 0 := by rw [← hp.1, hG]; omega
      have b0 : T i c = 0 := by rw [← hp.2, hG]; omega
      rw [b0, euz_b0, opN_idz]
      have := c6 x hx
      omega
    · have k1 : (opN k i (euz 200 (T k c) (T i c)) N k x * eug 200 (T k c) (T i c)).natAbs ≤ Sf v V k i + v i * V i := by
        rw [opN_u]
        have e2 : ((euz 200 (T k c) (T i c)).p * N k x + (euz 200 (T k c) (T i c)).q * N i x) * eug 200 (T k c) (T i c) = N k x * ((euz 200 (T k c) (T i c)).p * eug 200 (T k c) (T i c)) + N i x * ((euz 200 (T k c) (T i c)).q * eug 200 (T k c) (T i c)) := by grind
        rw [e2, hp.1, hp.2]
        have b1 := c7 x hx
        have b2 := na_mul (show (N i x).natAbs ≤ v i by rw [t2]; exact hb x hx) hbi
        have b3 := na_add (N k x * T k c) (N i x * T i c)
        omega
      rw [Int.natAbs_mul] at k1
      have k2 : (opN k i (euz 200 (T k c) (T i c)) N k x).natAbs * 1 ≤ (opN k i (euz 200 (T k c) (T i c)) N k x).natAbs * (eug 200 (T k c) (T i c)).natAbs := Nat.mul_le_mul_left _ (by omega)
      omega
  · intro x hx
    rw [Sf_s (by omega), eg, opN_u]
    have e2 : ((euz 200 (T k c) (T i c)).p * N k x + (euz 200 (T k c) (T i c)).q * N i x) * eug 200 (T k c) (T i c) = N k x * ((euz 200 (T k c) (T i c)).p * eug 200 (T k c) (T i c)) + N i x * ((euz 200 (T k c) (T i c)).q * eug 200 (T k c) (T i c)) := by grind
    rw [e2, hp.1, hp.2]
    have b1 := c7 x hx
    have b2 := na_mul (show (N i x).natAbs ≤ v i by rw [t2]; exact hb x hx) hbi
    have b3 := na_add (N k x * T k c) (N i x * T i c)
    omega
  · rw [eg]
    rcases hg with q | q
    · exact ⟨j0, g1, by omega, by omega⟩
    · exact ⟨i, by omega, by omega, by omega⟩
  · rw [eg]
    intro hG
    have a0 : T k c = 0 := by rw [← hp.1, hG]; omega
    have b0 : T i c = 0 := by rw [← hp.2, hG]; omega
    rw [b0, euz_b0, opN_idz, opT_idz]
    exact c9 a0
