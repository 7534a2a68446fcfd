/-! the class's lattice of remainders -/
def mR (T : Nat → Nat → Int) (rr m e : Nat) : Nat → Nat → Int := fun i x => if x < e then (if i < rr then T i x else if x = i - rr then (m : Int) else 0) else 0
theorem mR_low {T : Nat → Nat → Int} {rr m e i x : Nat} (hi : rr ≤ i) (hie : i < rr + e) : mR T rr m e i x = if x = i - rr then (m : Int) else 0 := by
  unfold mR
  by_cases h : x < e
  · rw [if_pos h, if_neg (by omega)]
  · rw [if_neg h, if_neg (by omega)]
/-- what a stage ends in -/
theorem wr_end {R0 T : Nat → Nat → Int} {c h e : Nat} (hc : c < h) (hd : c + 1 < h ∨ 0 < T c c) (hS : St T (fun i => i) c c h) (hE : Eqv h e R0 T) (h0 : T c c ≠ 0) (hz : ∀ j, c < j → j < h → T j c = 0) :
    ∃ T', T' = redT c c c (if T c c < 0 then opT c (c + 1) ngz T else T) ∧ St T' (fun i => i) (c + 1) (c + 1) h ∧ Eqv h e R0 T' ∧ (∀ j x, c < j → T' j x = T j x) ∧ (∀ x, (T' c x).natAbs = (T c x).natAbs) ∧ ∀ j x, j < c → (T' j x).natAbs ≤ (T j x).natAbs + ((T j c).natAbs + 1) * (T c x).natAbs := by
  have hl : c ≠ c + 1 := by omega
  have key : ∀ T2, St T2 (fun i => i) c c h → Eqv h e R0 T2 → 0 < T2 c c → (∀ j, c < j → j < h → T2 j c = 0) → (∀ j x, c < j → T2 j x = T j x) → (∀ x, (T2 c x).natAbs = (T c x).natAbs) → (∀ j x, j < c → T2 j x = T j x) → ∃ T', T' = redT c c c T2 ∧ St T' (fun i => i) (c + 1) (c + 1) h ∧ Eqv h e R0 T' ∧ (∀ j x, c < j → T' j x = T j x) ∧ (∀ x, (T' c x).natAbs = (T c x).natAbs) ∧ ∀ j x, j < c → (T' j x).natAbs ≤ (T j x).natAbs + ((T j c).natAbs + 1) * (T c x).natAbs := by
    intro T2 s2 e2 p2 z2 k1 k2 k3
    refine ⟨_, rfl, ?_, e2.red (by omega) c (Nat.le_refl _), fun j x hj => ?_, fun x => ?_, fun j x hj => ?_⟩
    · have := s2.piv (by omega) p2 z2
      have e1 : (fun i => if i = c then c else i) = fun i => i := by
        funext i
        by_cases q : i = c
        · rw [if_pos q, q]
        · rw [if_neg q]
      rw [e1] at this
      exact this
    · rw [show redT c c c T2 j x = T2 j x from if_neg (by omega)]; exact k1 j x hj
    · rw [show redT c c c T2 c x = T2 c x from if_neg (by omega)]; exact k2 x
    · rw [show redT c c c T2 j x = T2 j x - (T2 j c).fdiv (T2 c c) * T2 c x from if_pos hj, k3 j x hj, k3 j c hj]
      have a1 := na_fdiv (a := T j c) (b := T2 c c) (by omega)
      have a2 := na_mul a1 (Nat.le_of_eq (k2 x))
      have a3 := na_sub (T j x) ((T j c).fdiv (T2 c c) * T2 c x)
      omega
  by_cases q : T c c < 0
  · rw [if_pos q]
    have ng : ∀ i x, opT c (c + 1) ngz T i x = if i = c then -(T c x) else T i x := opT_ngz hl
    refine key _ (hS.op ngz (Nat.le_refl _) (by omega) (by omega) (by omega) hl) (hE.tr (Eqv.op hl (by omega) (by omega) ngz_ok)) (by rw [ng, if_pos rfl]; omega) (fun j h1 h2 => by rw [ng, if_neg (by omega)]; exact hz j h1 h2) (fun j x hj => by rw [ng, if_neg (by omega)]) (fun x => by rw [ng, if_pos rfl]; omega) (fun j x hj => by rw [ng, if_neg (by omega)])
  · rw [if_neg q]
    exact key T hS hE (by omega) hz (fun _ _ _ => rfl) (fun _ => rfl) (fun _ _ _ => rfl)
theorem op_b0 {u l : Nat} {T : Nat → Nat → Int} {a : Int} : opT u l (euz 200 a 0) T = T := by rw [euz_b0]; exact opT_idz
theorem op_rows {u l : Nat} {T : Nat → Nat → Int} (hne : u ≠ l) {a b : Int} (hb : fit b) (x : Nat) : (opT u l (euz 200 a b) T u x).natAbs ≤ (b.natAbs + 1) * (T u x).natAbs + (a.natAbs + 1) * (T l x).natAbs ∧ (opT u l (euz 200 a b) T l x).natAbs ≤ (b.natAbs + 1) * (T u x).natAbs + (a.natAbs + 1) * (T l x).natAbs := by
  obtain ⟨e1, e2, e3, e4⟩ := eu_small (a := a) hb
  rw [opT_u, opT_l hne]
  have m1 := na_mul e1 (Nat.le_refl (T u x).natAbs)
  have m2 := na_mul e2 (Nat.le_refl (T l x).natAbs)
  have m3 := na_mul e3 (Nat.le_refl (T u x).natAbs)
  have m4 := na_mul e4 (Nat.le_refl (T l x).natAbs)
  have n1 := na_add ((euz 200 a b).a * T u x) ((euz 200 a b).b * T l x)
  have n2 := na_add ((euz 200 a b).c * T u x) ((euz 200 a b).d * T l x)
  omega
theorem op_col {u l c : Nat} {T : Nat → Nat → Int} (hne : u ≠ l) (hb : fit (T l c)) : opT u l (euz 200 (T u c) (T l c)) T l c = 0 ∧ ((opT u l (euz 200 (T u c) (T l c)) T u c).natAbs ≤ (T u c).natAbs ∨ (opT u l (euz 200 (T u c) (T l c)) T u c).natAbs ≤ (T l c).natAbs) ∧ (T u c ≠ 0 ∨ T l c ≠ 0 → opT u l (euz 200 (T u c) (T l c)) T u c ≠ 0) := by
  have h0 := euz_zero200 (a := T u c) hb
  obtain ⟨p1, p2⟩ := euz_p h0
  rw [opT_u, opT_l hne]
  refine ⟨h0, eug_le h0, fun h z => ?_⟩
  have z : eug 200 (T u c) (T l c) = 0 := z
  rw [z] at p1 p2
  rcases h with q | q <;> omega
def WR (R0 : Nat → Nat → Int) (rr m e c : Nat) (T : Nat → Nat → Int) : Prop :=
  St T (fun i => i) c c (rr + e) ∧ Eqv (rr + e) e R0 T ∧ (∀ d x, c ≤ d → d < e → T (rr + d) x = if x = d then (m : Int) else 0) ∧ (c = 0 → T = R0) ∧ (c = 1 → (∀ i, i < rr + e → (T i 1).natAbs ≤ 6642 ∧ (T i 2).natAbs ≤ 413185536) ∧ ∀ i, 2 ≤ i → i < rr + e → i ≠ rr → i ≠ rr + 1 → T i 1 = 0) ∧ (c = 2 → ∀ i, i < rr + e → (T i 2).natAbs ≤ 2000000000000000000)
theorem wr_0 {T0 T : Nat → Nat → Int} {o rr m e : Nat} {J : fl_TJ} (he : e ≤ 3) (hrr : rr ≤ e) (hm1 : 1 ≤ m) (hm : m ≤ 40) (H1 : ∀ i x, i < rr → x < i → T0 i x = 0) (H2 : ∀ i x, i < rr → x < e → (T0 i x).natAbs ≤ 10077696) (H3 : ∀ i, i < rr → 1 < e → (T0 i 1).natAbs ≤ 162) (hc : 0 < e) (hW : WR (mR T0 rr m e) rr m e 0 T) (hs : shC o (rr + e) e J T) :
    j_elim o 0 0 e (rr + e) J (o + 2 + 0) 0 ≠ 0 ∧ ∃ T', shC o (rr + e) e (j_add o 0 0 e (j_elim o 0 0 e (rr + e) J)) T' ∧ WR (mR T0 rr m e) rr m e 1 T' := by
  obtain ⟨-, hE, hU, hT, -, -⟩ := hW
  have hT := hT rfl
  subst hT
  have lowR : ∀ j, rr ≤ j → j < rr + e → ∀ x, mR T0 rr m e j x = if x = j - rr then (m : Int) else 0 := fun j h1 h2 x => mR_low h1 h2
  have z0 : ∀ j, 1 ≤ j → j < rr + e → j ≠ rr → mR T0 rr m e j 0 = 0 := fun j h1 h2 h3 => by
    rcases Nat.lt_or_ge j rr with q | q
    · unfold mR; rw [if_pos (by omega), if_pos q]; exact H1 j 0 q (by omega)
    · rw [lowR j q h2, if_neg (by omega)]
  have b1 : ∀ i, i < rr + e → (mR T0 rr m e i 1).natAbs ≤ 162 ∧ (mR T0 rr m e i 2).natAbs ≤ 10077696 := fun i hi => by
    rcases Nat.lt_or_ge i rr with q | q
    · unfold mR
      refine ⟨?_, ?_⟩
      · by_cases g : 1 < e
        · rw [if_pos g, if_pos q]; exact H3 i q g
        · rw [if_neg g]; decide
      · by_cases g : 2 < e
        · rw [if_pos g, if_pos q]; exact H2 i 2 q g
        · rw [if_neg g]; decide
    · rw [lowR i q hi, lowR i q hi]
      constructor <;> split <;> omega
  -- the run
  obtain ⟨T2, hP, hs2⟩ := j_elim_rule (o := o) (rk := 0) (c := 0) (w := e) (h := rr + e) hc (by omega) (fun i T => Eqv (rr + e) e (mR T0 rr m e) T ∧ (T 0 0).natAbs ≤ 10077696 ∧ (∀ j, 1 ≤ j → j < i → T j 0 = 0) ∧ (∀ j, j ≠ 0 → j ≠ rr → ∀ x, T j x = mR T0 rr m e j x) ∧ (i ≤ rr → ∀ j x, T j x = mR T0 rr m e j x) ∧ (∀ j, j = 0 ∨ j = rr → (T j 1).natAbs ≤ 6642 ∧ (T j 2).natAbs ≤ 413185536) ∧ ((rr < i ∨ rr = 0) → T 0 0 ≠ 0) ∧ (rr = 0 → 0 < T 0 0)) (fun i T hi hih hp => by
    obtain ⟨p1, p2, p3, p4, p5, p6, p7, p8⟩ := hp
    by_cases q : i = rr
    · subst q
      have e0 := p5 (Nat.le_refl _)
      have ti : T i 0 = (m : Int) := by rw [e0, lowR i (Nat.le_refl _) hih, if_pos (by omega)]
      have fi : fit (T i 0) := by rw [ti]; unfold fit; omega
      have hne : (0 : Nat) ≠ i := by omega
      obtain ⟨c1, c2, c3⟩ := op_col (u := 0) (l := i) (c := 0) (T := T) hne fi
      refine ⟨by unfold fit; omega, fi, p1.tr (Eqv.op hne (by omega) hih (euz_ok _ _ _)), ?_, fun j h1 h2 => ?_, fun j h1 h2 x => ?_, fun h => by omega, fun j hj => ?_, fun _ => c3 (.inr (by rw [ti]; omega)), fun h => by omega⟩
      · have : (T i 0).natAbs ≤ 40 := by rw [ti]; omega
        omega
      · by_cases z : j = i
        · rw [z]; exact c1
        · rw [opT_o (by omega) z]; exact p3 j h1 (by omega)
      · rw [opT_o h1 h2]; exact p4 j h1 h2 x
      · have r1 := op_rows (u := 0) (l := i) (T := T) hne (a := T 0 0) fi 1
        have r2 := op_rows (u := 0) (l := i) (T := T) hne (a := T 0 0) fi 2
        have t1 : T i 1 = 0 := by rw [e0, lowR i (Nat.le_refl _) hih, if_neg (by omega)]
        have t2 : T i 2 = 0 := by rw [e0, lowR i (Nat.le_refl _) hih, if_neg (by omega)]
        have s1 := b1 0 (by omega)
        rw [← e0, ← e0] at s1
        rw [t1] at r1
        rw [t2] at r2
        have tm : (T i 0).natAbs + 1 ≤ 41 := by rw [ti]; omega
        have u1 : ((T i 0).natAbs + 1) * (T 0 1).natAbs ≤ 41 * 162 := Nat.mul_le_mul tm s1.1
        have u2 : ((T i 0).natAbs + 1) * (T 0 2).natAbs ≤ 41 * 10077696 := Nat.mul_le_mul tm s1.2
        have z9 : (0 : Int).natAbs = 0 := rfl
        rw [z9, Nat.mul_zero] at r1 r2
        rcases hj with z | z <;> rw [z] <;> omega
    · have ti : T i 0 = 0 := by rw [p4 i (by omega) q]; exact z0 i hi hih q
      rw [ti, op_b0]
      exact ⟨by unfold fit; omega, by unfold fit; omega, p1, p2, fun j h1 h2 => by
        by_cases z : j = i
        · rw [z]; exact ti
        · exact p3 j h1 (by omega), p4, fun h => p5 (by omega), p6, fun h => p7 (by omega), p8⟩) (rr + e - (0 + 1)) (0 + 1) J _ (by omega) (by omega) hs ⟨hE, by
      by_cases q : 0 < rr
      · unfold mR; rw [if_pos hc, if_pos q]; exact H2 0 0 q hc
      · rw [lowR 0 (by omega) (by omega), if_pos (by omega)]; omega, fun j h1 h2 => by omega, fun _ _ _ _ => rfl, fun _ _ _ => rfl, fun j hj => by
      have := b1 j (by omega)
      omega, fun h => by
      have : rr = 0 := by omega
      rw [lowR 0 (by omega) (by omega), if_pos (by omega)]; omega, fun h => by
      rw [lowR 0 (by omega) (by omega), if_pos (by omega)]; omega⟩
  obtain ⟨p1, p2, p3, p4, p5, p6, p7, p8⟩ := hP
  have hp0 := p7 (by omega)
  have ft : fit (T2 0 0) := by unfold fit; omega
  have hs3 : shC o (rr + e) e (j_elim o 0 0 e (rr + e) J) T2 := hs2
  refine ⟨by rw [hs3 0 0 (by omega) hc]; exact fun z => hp0 ((oI_eq0 ft).mp z), ?_⟩
  have hadd := j_add_sh (o := o) (k := 0) (c := 0) (l := 0 + 1) (by omega) (by omega) hc hs3 (fun m hm => by omega) ft hp0
  obtain ⟨T3, t1, t2, t3, t4, t5, t6⟩ := wr_end (c := 0) (h := rr + e) (e := e) (R0 := mR T0 rr m e) (T := T2) (by omega) (by
      by_cases q : rr = 0
      · exact .inr (p8 q)
      · exact .inl (by omega)) ⟨fun i hi => by omega, fun i j _ hj => by omega, fun i j _ hj => by omega, fun i _ _ x hx => by omega⟩ p1 hp0 (fun j h1 h2 => p3 j (by omega) h2)
  have bb : ∀ i, i < rr + e → (T2 i 1).natAbs ≤ 6642 ∧ (T2 i 2).natAbs ≤ 413185536 := fun i hi => by
    by_cases z : i = 0 ∨ i = rr
    · exact p6 i z
    · rw [p4 i (by omega) (by omega), p4 i (by omega) (by omega)]
      have := b1 i hi
      omega
  refine ⟨T3, by rw [t1]; exact hadd, t2, t3, fun d x h1 h2 => ?_, fun h => by omega, fun _ => ⟨fun i hi => ?_, fun i h1 h2 h3 h4 => ?_⟩, fun h => by omega⟩
  · rw [t4 _ _ (by omega), p4 _ (by omega) (by omega)]
    rw [lowR _ (by omega) (by omega), show rr + d - rr = d from by omega]
  · by_cases z : i = 0
    · subst z
      rw [t5 1, t5 2]; exact bb 0 hi
    · rw [t4 i 1 (by omega), t4 i 2 (by omega)]; exact bb i hi
  · rw [t4 i 1 (by omega), p4 i (by omega) h3]
    rcases Nat.lt_or_ge i rr with q | q
    · unfold mR
      by_cases g : 1 < e
      · rw [if_pos g, if_pos q]; exact H1 i 1 q (by omega)
      · rw [if_neg g]
    · rw [lowR i q h2, if_neg (by omega)]
theorem wr_1 {R0 T : Nat → Nat → Int} {o rr m e : Nat} {J : fl_TJ} (he : e ≤ 3) (hrr : rr ≤ e) (hm1 : 1 ≤ m) (hm : m ≤ 40) (hc : 1 < e) (hW : WR R0 rr m e 1 T) (hs : shC o (rr + e) e J T) :
    j_elim o 1 1 e (rr + e) J (o + 2 + 1) 1 ≠ 0 ∧ ∃ T', shC o (rr + e) e (j_add o 1 1 e (j_elim o 1 1 e (rr + e) J)) T' ∧ WR R0 rr m e 2 T' := by
  obtain ⟨hS, hE, hU, -, hB, -⟩ := hW
  obtain ⟨B1, B2⟩ := hB rfl
  have hr1 : ∀ x, T (rr + 1) x = if x = 1 then (m : Int) else 0 := fun x => hU 1 x (Nat.le_refl _) hc
  obtain ⟨T2, hP, hs2⟩ := j_elim_rule (o := o) (rk := 1) (c := 1) (w := e) (h := rr + e) hc (by omega) (fun i T9 => Eqv (rr + e) e R0 T9 ∧ St T9 (fun i => i) 1 1 (rr + e) ∧ (T9 1 1).natAbs ≤ 6642 ∧ (T9 1 2).natAbs ≤ (if i ≤ rr then 413185536 else if i ≤ rr + 1 then 13286 * 413185536 else 544726 * 413185536) ∧ (∀ j, 2 ≤ j → j < i → T9 j 1 = 0 ∧ (T9 j 2).natAbs ≤ 544726 * 413185536) ∧ (∀ j x, j = 0 ∨ i ≤ j → j ≠ 1 → T9 j x = T j x) ∧ (∀ j x, 2 ≤ j → j ≠ rr → j ≠ rr + 1 → T9 j x = T j x) ∧ ((rr + 1 < i ∨ rr = 0) → T9 1 1 ≠ 0) ∧ (rr = 0 → 0 < T9 1 1)) (fun i T9 hi hih hp => by
    obtain ⟨p1, p2, p3, p4, p5, p6, p7, p8, p9⟩ := hp
    have hne : (1 : Nat) ≠ i := by omega
    have bi := B1 i hih
    have ti : ∀ x, T9 i x = T i x := fun x => p6 i x (.inr (Nat.le_refl _)) (by omega)
    have fi : fit (T9 i 1) := by rw [ti]; unfold fit; omega
    have f1 : fit (T9 1 1) := by unfold fit; omega
    obtain ⟨c1, c2, c3⟩ := op_col (u := 1) (l := i) (c := 1) (T := T9) hne fi
    obtain ⟨r1, r2⟩ := op_rows (u := 1) (l := i) (T := T9) hne (a := T9 1 1) fi 2
    have a1 : (T9 i 1).natAbs ≤ 6642 := by rw [ti]; omega
    have a2 : (T9 i 2).natAbs ≤ 413185536 := by rw [ti]; omega
    by_cases q : i = rr
    · rw [if_pos (by omega)] at p4
      have u1 : ((T9 i 1).natAbs + 1) * (T9 1 2).natAbs ≤ 6643 * 413185536 := Nat.mul_le_mul (by omega) p4
      have u2 : ((T9 1 1).natAbs + 1) * (T9 i 2).natAbs ≤ 6643 * 413185536 := Nat.mul_le_mul (by omega) a2
      refine ⟨f1, fi, p1.tr (Eqv.op hne (by omega) hih (euz_ok _ _ _)), p2.op _ (by omega) (by omega) (by omega) hih hne, by omega, ?_, fun j h1 h2 => ?_, fun j x h1 h2 => ?_, fun j x h1 h2 h3 => ?_, fun h => by omega, fun h => by omega⟩
      · rw [if_neg (by omega), if_pos (by omega)]; omega
      · by_cases z : j = i
        · rw [z]; exact ⟨c1, by omega⟩
        · rw [opT_o (by omega) z, opT_o (by omega) z]; exact p5 j h1 (by omega)
      · rw [opT_o h2 (by omega)]; exact p6 j x (by omega) h2
      · rw [opT_o (by omega) (by omega)]; exact p7 j x h1 h2 h3
    · by_cases q2 : i = rr + 1
      · have tm : T9 i 1 = (m : Int) := by rw [ti, q2, hr1, if_pos rfl]
        have t2 : T9 i 2 = 0 := by rw [ti, q2, hr1, if_neg (by decide)]
        rw [t2] at r1 r2
        have z9 : (0 : Int).natAbs = 0 := rfl
        rw [z9, Nat.mul_zero] at r1 r2
        have tb : (T9 1 2).natAbs ≤ 13286 * 413185536 := by
          rw [if_neg (by omega), if_pos (by omega)] at p4; exact p4
        have u1 : ((T9 i 1).natAbs + 1) * (T9 1 2).natAbs ≤ 41 * (13286 * 413185536) := Nat.mul_le_mul (by rw [tm]; omega) tb
        refine ⟨f1, fi, p1.tr (Eqv.op hne (by omega) hih (euz_ok _ _ _)), p2.op _ (by omega) (by omega) (by omega) hih hne, by omega, ?_, fun j h1 h2 => ?_, fun j x h1 h2 => ?_, fun j x h1 h2 h3 => ?_, fun _ => c3 (.inr (by rw [tm]; omega)), fun h => by omega⟩
        · rw [if_neg (by omega), if_neg (by omega)]; omega
        · by_cases z : j = i
          · rw [z]; exact ⟨c1, by omega⟩
          · rw [opT_o (by omega) z, opT_o (by omega) z]; exact p5 j h1 (by omega)
        · rw [opT_o h2 (by omega)]; exact p6 j x (by omega) h2
        · rw [opT_o (by omega) (by omega)]; exact p7 j x h1 h2 h3
      · have t0 : T9 i 1 = 0 := by rw [ti]; exact B2 i (by omega) hih q q2
        rw [t0, op_b0]
        refine ⟨f1, by unfold fit; omega, p1, p2, p3, ?_, fun j h1 h2 => ?_, fun j x h1 h2 => p6 j x (by omega) h2, p7, fun h => p8 (by omega), p9⟩
        · by_cases g1 : i ≤ rr
          · rw [if_pos g1] at p4; rw [if_pos (by omega)]; exact p4
          · rw [if_neg g1] at p4
            rw [if_neg (by omega)]
            by_cases g2 : i ≤ rr + 1
            · omega
            · rw [if_neg g2] at p4; rw [if_neg (by omega)]; exact p4
        · by_cases z : j = i
          · rw [z]; exact ⟨t0, by omega⟩
          · exact p5 j h1 (by omega)) (rr + e - (1 + 1)) (1 + 1) J T (by omega) (by omega) hs ⟨hE, hS, (B1 1 (by omega)).1, by
      have := (B1 1 (by omega)).2
      split
      · exact this
      · split <;> omega, fun j h1 h2 => by omega, fun _ _ _ _ => rfl, fun _ _ _ _ _ => rfl, fun h => by
      have e1 : rr = 0 := by omega
      have := hr1 1
      rw [e1, if_pos rfl] at this
      rw [show T 1 1 = T (0 + 1) 1 from rfl, this]; omega, fun e1 => by
      have := hr1 1
      rw [e1, if_pos rfl] at this
      rw [show T 1 1 = T (0 + 1) 1 from rfl, this]; omega⟩
  obtain ⟨p1, p2, p3, p4, p5, p6, p7, p8, p9⟩ := hP
  have hp0 := p8 (by omega)
  have ft : fit (T2 1 1) := by unfold fit; omega
  have hs3 : shC o (rr + e) e (j_elim o 1 1 e (rr + e) J) T2 := hs2
  have r0 : ∀ x, T2 0 x = T 0 x := fun x => p6 0 x (.inl rfl) (by omega)
  have b0 := B1 0 (by omega)
  refine ⟨by rw [hs3 1 1 (by omega) hc]; exact fun z => hp0 ((oI_eq0 ft).mp z), ?_⟩
  have hadd := j_add_sh (o := o) (k := 1) (c := 1) (l := 1 + 1) (by omega) (by omega) hc hs3 (fun m hm => by
    have : m = 0 := by omega
    subst this
    rw [r0]; unfold fit; omega) ft hp0
  obtain ⟨T3, t1, t2, t3, t4, t5, t6⟩ := wr_end (c := 1) (h := rr + e) (e := e) (R0 := R0) (T := T2) (by omega) (by
    by_cases q : rr = 0
    · exact .inr (p9 q)
    · exact .inl (by omega)) p2 p1 hp0 (fun j h1 h2 => (p5 j (by omega) h2).1)
  have top : (T2 1 2).natAbs ≤ 544726 * 413185536 := by
    have h9 := p4
    split at h9
    · omega
    · split at h9 <;> omega
  refine ⟨T3, by rw [t1]; exact hadd, t2, t3, fun d x h1 h2 => ?_, fun h => by omega, fun h => by omega, fun _ i hi => ?_⟩
  · rw [t4 _ _ (by omega), p7 _ _ (by omega) (by omega) (by omega)]
    exact hU d x (by omega) h2
  · by_cases z : i = 0
    · subst z
      have g1 := t6 0 2 (by omega)
      rw [r0, r0] at g1
      have g2 : ((T 0 1).natAbs + 1) * (T2 1 2).natAbs ≤ 6643 * (544726 * 413185536) := Nat.mul_le_mul (by omega) top
      omega
    · by_cases z1 : i = 1
      · subst z1
        rw [t5 2]; omega
      · rw [t4 i 2 (by omega)]
        have := (p5 i (by omega) hi).2
        omega
theorem wr_2 {R0 T : Nat → Nat → Int} {o rr m e : Nat} {J : fl_TJ} (he : e ≤ 3) (hrr : rr ≤ e) (hm1 : 1 ≤ m) (hm : m ≤ 40) (hc : 2 < e) (hW : WR R0 rr m e 2 T) (hs : shC o (rr + e) e J T) :
    j_elim o 2 2 e (rr + e) J (o + 2 + 2) 2 ≠ 0 ∧ ∃ T', shC o (rr + e) e (j_add o 2 2 e (j_elim o 2 2 e (rr + e) J)) T' ∧ WR R0 rr m e 3 T' := by
  obtain ⟨hS, hE, hU, -, -, hB⟩ := hW
  have B1 := hB rfl
  have hr1 : T (rr + 2) 2 = (m : Int) := by rw [hU 2 2 (Nat.le_refl _) hc, if_pos rfl]
  obtain ⟨T2, hP, hs2⟩ := j_elim_rule (o := o) (rk := 2) (c := 2) (w := e) (h := rr + e) hc (by omega) (fun i T9 => Eqv (rr + e) e R0 T9 ∧ St T9 (fun i => i) 2 2 (rr + e) ∧ (∀ j, j < rr + e → (T9 j 2).natAbs ≤ 2000000000000000000) ∧ (∀ j, 3 ≤ j → j < i → T9 j 2 = 0) ∧ (∀ j x, i ≤ j → T9 j x = T j x) ∧ ((rr + 2 < i ∨ rr = 0) → T9 2 2 ≠ 0) ∧ (rr = 0 → 0 < T9 2 2)) (fun i T9 hi hih hp => by
    obtain ⟨p1, p2, p3, p5, p6, p8, p9⟩ := hp
    have hne : (2 : Nat) ≠ i := by omega
    have b1 := p3 2 (by omega)
    have b2 := p3 i hih
    have fi : fit (T9 i 2) := by unfold fit; omega
    obtain ⟨c1, c2, c3⟩ := op_col (u := 2) (l := i) (c := 2) (T := T9) hne fi
    refine ⟨by unfold fit; omega, fi, p1.tr (Eqv.op hne (by omega) hih (euz_ok _ _ _)), p2.op _ (by omega) (by omega) (by omega) hih hne, fun j hj => ?_, fun j h1 h2 => ?_, fun j x h1 => ?_, fun h => ?_, fun h => ?_⟩
    · by_cases z : j = 2
      · rw [z]; omega
      · by_cases z2 : j = i
        · rw [z2, c1]; decide
        · rw [opT_o z z2]; exact p3 j hj
    · by_cases z : j = i
      · rw [z]; exact c1
      · rw [opT_o (by omega) z]; exact p5 j h1 (by omega)
    · rw [opT_o (by omega) (by omega)]; exact p6 j x (by omega)
    · apply c3
      by_cases z : i = rr + 2
      · right; rw [p6 i 2 (Nat.le_refl _), z, hr1]; omega
      · left; exact p8 (by omega)
    · have t0 : T9 i 2 = 0 := by
        have hi3 : ¬ i < rr + e := by omega
        exact absurd hih hi3
      rw [t0, op_b0]; exact p9 h) (rr + e - (2 + 1)) (2 + 1) J T (by omega) (by omega) hs ⟨hE, hS, B1, fun j h1 h2 => by omega, fun _ _ _ => rfl, fun h => by
      have e1 : rr = 0 := by omega
      rw [e1] at hr1
      rw [show T 2 2 = T (0 + 2) 2 from rfl, hr1]; omega, fun e1 => by
      rw [e1] at hr1
      rw [show T 2 2 = T (0 + 2) 2 from rfl, hr1]; omega⟩
  obtain ⟨p1, p2, p3, p5, p6, p8, p9⟩ := hP
  have hp0 := p8 (by omega)
  have ft : ∀ j, j < rr + e → fit (T2 j 2) := fun j hj => by have := p3 j hj; unfold fit; omega
  have hs3 : shC o (rr + e) e (j_elim o 2 2 e (rr + e) J) T2 := hs2
  refine ⟨by rw [hs3 2 2 (by omega) hc]; exact fun z => hp0 ((oI_eq0 (ft 2 (by omega))).mp z), ?_⟩
  have hadd := j_add_sh (o := o) (k := 2) (c := 2) (l := 2 + 1) (by omega) (by omega) hc hs3 (fun m hm => ft m (by omega)) (ft 2 (by omega)) hp0
  obtain ⟨T3, t1, t2, t3, -⟩ := wr_end (c := 2) (h := rr + e) (e := e) (R0 := R0) (T := T2) (by omega) (by
    by_cases q : rr = 0
    · exact .inr (p9 q)
    · exact .inl (by omega)) p2 p1 hp0 (fun j h1 h2 => p5 j (by omega) h2)
  exact ⟨T3, by rw [t1]; exact hadd, t2, t3, fun d x h1 h2 => by omega, fun h => by omega, fun h => by omega, fun h => by omega⟩
/-- the whole form of the remainders -/
theorem wr_form {T0 : Nat → Nat → Int} {o nr rr m e : Nat} (he : e ≤ 3) (hrr : rr ≤ e) (hm1 : 1 ≤ m) (hm : m ≤ 40) (H1 : ∀ i x, i < rr → x < i → T0 i x = 0) (H2 : ∀ i x, i < rr → x < e → (T0 i x).natAbs ≤ 10077696) (H3 : ∀ i, i < rr → 1 < e → (T0 i 1).natAbs ≤ 162) : ∀ (f c : Nat) (I : fl_TI) (J : fl_TJ) (T : Nat → Nat → Int), c + f = e → WR (mR T0 rr m e) rr m e c T → shC o (rr + e) e J T → (∀ i, i < c → I (o + 2 + nr) i = nI i) →
    ∃ T', (b_form o nr (rr + e) e f c (c, I, J)).1 = e ∧ WR (mR T0 rr m e) rr m e e T' ∧ shC o (rr + e) e (b_form o nr (rr + e) e f c (c, I, J)).2.2 T' ∧ ∀ i, i < e → (b_form o nr (rr + e) e f c (c, I, J)).2.1 (o + 2 + nr) i = nI i := by
  intro f
  induction f with
  | zero =>
    intro c I J T hcf hW hs hI
    have : c = e := by omega
    subst this
    exact ⟨T, rfl, hW, hs, hI⟩
  | succ f ih =>
    intro c I J T hcf hW hs hI
    have st : j_elim o c c e (rr + e) J (o + 2 + c) c ≠ 0 ∧ ∃ T', shC o (rr + e) e (j_add o c c e (j_elim o c c e (rr + e) J)) T' ∧ WR (mR T0 rr m e) rr m e (c + 1) T' := by
      have : c = 0 ∨ c = 1 ∨ c = 2 := by omega
      rcases this with rfl | rfl | rfl
      · exact wr_0 he hrr hm1 hm H1 H2 H3 (by omega) hW hs
      · exact wr_1 he hrr hm1 hm (by omega) hW hs
      · exact wr_2 he hrr hm1 hm (by omega) hW hs
    obtain ⟨h1, T', h2, h3⟩ := st
    have e1 : b_form o nr (rr + e) e (f + 1) c (c, I, J) = b_form o nr (rr + e) e f (c + 1) (b_step o nr (rr + e) e c (c, I, J)) := if_neg (show ¬ rr + e ≤ c by omega)
    have e2 : b_step o nr (rr + e) e c (c, I, J) = (c + 1, i_add o nr c c I, j_add o c c e (j_elim o c c e (rr + e) J)) := if_neg h1
    rw [e1, e2]
    refine ih (c + 1) _ _ T' (by omega) h3 h2 (fun i hi => ?_)
    unfold i_add
    rw [fl_up_k (by omega)]
    by_cases q : i = c
    · subst q; rw [fl_up_s]
    · rw [fl_up_j q]; exact hI i (by omega)
