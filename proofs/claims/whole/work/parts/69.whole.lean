/-! the class's run over the lattice of all unknowns -/
def rm (a : Nat → Nat → Int) (e n : Nat) : Nat → Nat → Int := fun i x => if x < e then (if i < n then a x i else 0) else if i < 4 ∧ x = e + i then 1 else 0
def sml (a : Nat → Nat → Int) (e n : Nat) : Prop := ∀ x i, x < e → i < n → (a x i).natAbs ≤ 9
theorem rm_unit {a : Nat → Nat → Int} {e n : Nat} : unitR (rm a e n) e := by
  intro i j hi hj
  unfold rm
  rw [if_neg (by omega)]
  by_cases h : i = j
  · rw [if_pos ⟨hi, by omega⟩, if_pos h]
  · rw [if_neg (fun q => h (by omega)), if_neg h]
theorem rm_9 {a : Nat → Nat → Int} {e n : Nat} (ha : sml a e n) (i x : Nat) : (rm a e n i x).natAbs ≤ 9 := by
  unfold rm
  by_cases h : x < e
  · rw [if_pos h]
    by_cases q : i < n
    · rw [if_pos q]; exact ha x i h q
    · rw [if_neg q]; decide
  · rw [if_neg h]; split <;> decide
theorem rm_36 {a : Nat → Nat → Int} {e n : Nat} (ha : sml a e n) (x : Nat) : s4 (rm a e n) x ≤ 36 := by
  have h0 := rm_9 ha 0 x
  have h1 := rm_9 ha 1 x
  have h2 := rm_9 ha 2 x
  have h3 := rm_9 ha 3 x
  unfold s4
  omega
theorem rm_1 {a : Nat → Nat → Int} {e n x : Nat} (h : e ≤ x) : s4 (rm a e n) x ≤ 1 := by
  have k : ∀ i, i < 4 → rm a e n i x = if x = e + i then 1 else 0 := fun i hi => by
    unfold rm
    rw [if_neg (by omega)]
    by_cases q : x = e + i
    · rw [if_pos ⟨hi, q⟩, if_pos q]
    · rw [if_neg (fun z => q z.2), if_neg q]
  unfold s4
  rw [k 0 (by decide), k 1 (by decide), k 2 (by decide), k 3 (by decide)]
  repeat' split
  all_goals omega
theorem rm_pad {a : Nat → Nat → Int} {e n j x : Nat} (hj : n ≤ j) (hx : x < e + n) : rm a e n j x = 0 := by
  unfold rm
  by_cases h : x < e
  · rw [if_pos h, if_neg (by omega)]
  · rw [if_neg h, if_neg (fun q => by omega)]
theorem rm_lin {a : Nat → Nat → Int} {e n : Nat} (hn : n ≤ 4) : LinT (rm a e n) (rm a e n) e := by
  intro i c hc
  by_cases h : i < 4
  · rw [rm_unit i 0 h (by decide), rm_unit i 1 h (by decide), rm_unit i 2 h (by decide), rm_unit i 3 h (by decide)]
    rcases lt4 h with rfl | rfl | rfl | rfl <;> simp
  · have z : ∀ x, rm a e n i x = 0 := fun x => by
      unfold rm
      by_cases q : x < e
      · rw [if_pos q, if_neg (by omega)]
      · rw [if_neg q, if_neg (fun z => h z.1)]
    rw [z, z, z, z, z]
    omega
def idN : Nat → Nat → Int := fun k i => if k = i then 1 else 0
theorem rm_NT {a : Nat → Nat → Int} {e n : Nat} (hn : n ≤ 4) : NT (rm a e n) (rm a e n) idN := by
  refine ⟨fun i x => ?_, Or.inl (by decide)⟩
  by_cases h : i < 4
  · unfold idN
    rcases lt4 h with rfl | rfl | rfl | rfl <;> simp
  · have z : rm a e n i x = 0 := by
      unfold rm
      by_cases q : x < e
      · rw [if_pos q, if_neg (by omega)]
      · rw [if_neg q, if_neg (fun z => h z.1)]
    unfold idN
    rw [z, if_neg (by omega), if_neg (by omega), if_neg (by omega), if_neg (by omega)]
    omega
theorem idN_bd (j : Nat) : bd (idN j) 1 := by
  intro i _
  unfold idN
  split <;> decide
def bN (k j : Nat) : Nat := (([[1, 1, 1, 1], [9, 28, 46, 64], [9, 18, 38422, 244504], [9, 18, 36, 986179468499992]] : List (List Nat)).getD k [9, 18, 36, 72]).getD j 0
def bV (k j : Nat) : Nat := (([[9, 9, 9, 9], [1, 153, 648, 2754], [1, 1, 8555683968, 1344462624]] : List (List Nat)).getD k [1, 1, 1, 1259712]).getD j 0
def bT (k : Nat) (T : Nat → Nat → Int) : Prop := (k = 0 → ∀ j x, j < 4 → (T j x).natAbs ≤ 9) ∧ (k = 1 → ∀ x, (T 0 x).natAbs ≤ 1233 ∧ (T 1 x).natAbs ≤ 153 ∧ (T 2 x).natAbs ≤ 648 ∧ (T 3 x).natAbs ≤ 2754)
/-- where the run stands: k rows have leads, the places under c are done -/
def WQ (a : Nat → Nat → Int) (e n k c : Nat) (T : Nat → Nat → Int) (L : Nat → Nat) : Prop :=
  ∃ N, NT (rm a e n) T N ∧ LinT (rm a e n) T e ∧ St T L k c n ∧ (∀ j, j < 4 → bd (N j) (bN k j)) ∧ bT k T ∧ (∀ j, n ≤ j → T j = rm a e n j) ∧ (∀ i x, i < n → e + n ≤ x → T i x = 0) ∧ ∀ j, n ≤ j → N j = idN j
theorem bN_next : ∀ k j, k < 4 → k < j → j < 4 → 2 * Sf (bN k) (bV k) k j + (bV k j + 1) * bN k j ≤ bN (k + 1) j ∧ bN k j ≤ bN (k + 1) j := by
  have h : ∀ k, k < 4 → ∀ j, j < 4 → k < j → 2 * Sf (bN k) (bV k) k j + (bV k j + 1) * bN k j ≤ bN (k + 1) j ∧ bN k j ≤ bN (k + 1) j := by decide
  exact fun k j a b c => h k a j c b
theorem bN_low : ∀ k j, k < 5 → j < k → bN k j = 9 * 2 ^ j := by
  have h : ∀ k, k < 5 → ∀ j, j < 4 → j < k → bN k j = 9 * 2 ^ j := by decide
  exact fun k j a b => h k a j (by omega) b
theorem bV_fit : ∀ k j, k < 4 → j < 4 → bV k j < 9223372036854775808 := by
  have h : ∀ k, k < 4 → ∀ j, j < 4 → bV k j < 9223372036854775808 := by decide
  exact fun k j a b => h k a j b
theorem bV_one : ∀ k, k < 4 → 1 ≤ bV k k := by decide
theorem w_vals {a : Nat → Nat → Int} {e n k c : Nat} {T : Nat → Nat → Int} {L : Nat → Nat} {N : Nat → Nat → Int} (ha : sml a e n) (hN : NT (rm a e n) T N) (hb : ∀ j, j < 4 → bd (N j) (bN k j)) (ht : bT k T) (hk : k < 4) {j : Nat} (h1 : k ≤ j) (h2 : j < 4) : (T j c).natAbs ≤ bV k j := by
  have b0 := hb 0 (by decide)
  have b1 := hb 1 (by decide)
  have b2 := hb 2 (by decide)
  have b3 := hb 3 (by decide)
  have hS := rm_36 ha c
  rcases lt4 hk with rfl | rfl | rfl | rfl
  · have := ht.1 rfl j c h2
    rcases lt4 h2 with rfl | rfl | rfl | rfl <;> exact this
  · have := ht.2 rfl c
    rcases lt4 h2 with rfl | rfl | rfl | rfl
    · omega
    · exact this.2.1
    · exact this.2.2.1
    · exact this.2.2.2
  · rcases lt4 h2 with rfl | rfl | rfl | rfl
    · omega
    · omega
    · exact hN.bd2 hS b0 b1 b3
    · exact hN.bd3 hS b0 b1 b2
  · rcases lt4 h2 with rfl | rfl | rfl | rfl
    · omega
    · omega
    · omega
    · exact hN.bd3 hS b0 b1 b2
theorem w_fits {a : Nat → Nat → Int} {e n k c : Nat} {T : Nat → Nat → Int} {L : Nat → Nat} {N : Nat → Nat → Int} (ha : sml a e n) (he : e ≤ 3) (hN : NT (rm a e n) T N) (hs : St T L k c n) (hb : ∀ j, j < 4 → bd (N j) (bN k j)) (ht : bT k T) (hk : k < 4) {j : Nat} (h1 : j < k) : fit (T j c) := by
  have b0 := hb 0 (by decide)
  have b1 := hb 1 (by decide)
  have b2 := hb 2 (by decide)
  have b3 := hb 3 (by decide)
  have hS := rm_36 ha c
  have key : ∀ B : Nat, (T j c).natAbs ≤ B → B < 9223372036854775808 → fit (T j c) := fun B p q => by unfold fit; omega
  rcases lt4 hk with rfl | rfl | rfl | rfl
  · omega
  · have : j = 0 := by omega
    subst this
    exact key 1233 (ht.2 rfl c).1 (by decide)
  · have : j = 0 ∨ j = 1 := by omega
    rcases this with rfl | rfl
    · exact key _ (hN.bd0 hS b1 b2 b3) (by decide)
    · exact key _ (hN.bd1 hS b0 b2 b3) (by decide)
  · have l0 := hs.2.1 0 1 (by decide) (by decide)
    have l1 := hs.2.1 1 2 (by decide) (by decide)
    have l2 := (hs.1 2 (by decide)).1
    have hS := rm_1 (a := a) (n := n) (show e ≤ c by omega)
    have : j = 0 ∨ j = 1 ∨ j = 2 := by omega
    rcases this with rfl | rfl | rfl
    · exact key _ (hN.bd0 hS b1 b2 b3) (by decide)
    · exact key _ (hN.bd1 hS b0 b2 b3) (by decide)
    · exact key _ (hN.bd2 hS b0 b1 b3) (by decide)
/-- the sizes in the first stage -/
def TB (i : Nat) (T : Nat → Nat → Int) : Prop := ∀ x, (T 0 x).natAbs ≤ ([9, 9, 63, 297, 1233] : List Nat).getD i 0 ∧ ∀ j, 0 < j → j < 4 → (T j x).natAbs ≤ if j < i then ([9, 153, 648, 2754] : List Nat).getD j 0 else 9
theorem TB_step {i : Nat} {T : Nat → Nat → Int} {p q : Int} (h : TB i T) (h0 : 0 < i) (h4 : i < 4) (hp : p.natAbs ≤ 9) (hq : q.natAbs ≤ 9) : TB (i + 1) (opT 0 i (euz 200 p q) T) := by
  obtain ⟨z1, z2, z3, z4, z5, z6⟩ := euz_small hp hq
  intro x
  obtain ⟨h1, h2⟩ := h x
  have h3 := h2 i h0 h4
  rw [if_neg (by omega)] at h3
  refine ⟨?_, fun j hj hj4 => ?_⟩
  · rw [opT_u]
    have a1 := na_add ((euz 200 p q).a * T 0 x) ((euz 200 p q).b * T i x)
    have a2 := na_mul (Nat.le_refl (euz 200 p q).a.natAbs) h1
    have a3 := na_mul (Nat.le_refl (euz 200 p q).b.natAbs) h3
    have : i = 1 ∨ i = 2 ∨ i = 3 := by omega
    rcases this with rfl | rfl | rfl
    · show _ ≤ 63
      have e : ([9, 9, 63, 297, 1233] : List Nat).getD 1 0 = 9 := rfl
      rw [e] at a2
      omega
    · show _ ≤ 297
      have e : ([9, 9, 63, 297, 1233] : List Nat).getD 2 0 = 63 := rfl
      rw [e] at a2
      omega
    · show _ ≤ 1233
      have e : ([9, 9, 63, 297, 1233] : List Nat).getD 3 0 = 297 := rfl
      rw [e] at a2
      omega
  · by_cases e1 : j = i
    · subst e1
      rw [if_pos (by omega), opT_l (by omega)]
      have a1 := na_add ((euz 200 p q).c * T 0 x) ((euz 200 p q).d * T j x)
      have a2 := na_mul (Nat.le_refl (euz 200 p q).c.natAbs) h1
      have a3 := na_mul (Nat.le_refl (euz 200 p q).d.natAbs) h3
      have : j = 1 ∨ j = 2 ∨ j = 3 := by omega
      rcases this with rfl | rfl | rfl
      · show _ ≤ 153
        have e : ([9, 9, 63, 297, 1233] : List Nat).getD 1 0 = 9 := rfl
        rw [e] at a2
        omega
      · show _ ≤ 648
        have e : ([9, 9, 63, 297, 1233] : List Nat).getD 2 0 = 63 := rfl
        rw [e] at a2
        omega
      · show _ ≤ 2754
        have e : ([9, 9, 63, 297, 1233] : List Nat).getD 3 0 = 297 := rfl
        rw [e] at a2
        omega
    · rw [opT_o (by omega) e1]
      have := h2 j hj hj4
      by_cases q2 : j < i
      · rw [if_pos q2] at this; rw [if_pos (by omega)]; exact this
      · rw [if_neg q2] at this; rw [if_neg (by omega)]; exact this
theorem St.ng {T : Nat → Nat → Int} {L : Nat → Nat} {k c h l : Nat} (s : St T L k c h) (hl : k ≠ l) : St (opT k l ngz T) L k c h := by
  have ng : ∀ i x, opT k l ngz T i x = if i = k then -(T k x) else T i x := opT_ngz hl
  have o : ∀ i x, i < k → opT k l ngz T i x = T i x := fun i x hi => by rw [ng, if_neg (by omega)]
  refine ⟨fun i hi => ?_, s.2.1, fun i j hij hj => ?_, fun i hi hih x hx => ?_⟩
  · obtain ⟨a, b, c⟩ := s.1 i hi
    exact ⟨a, by rw [o i _ hi]; exact b, fun x hx => by rw [o i _ hi]; exact c x hx⟩
  · rw [o i _ (by omega), o j _ hj]; exact s.2.2.1 i j hij hj
  · rw [ng]
    by_cases e : i = k
    · subst e; rw [if_pos rfl, s.2.2.2 i hi hih x hx]; rfl
    · rw [if_neg e]; exact s.2.2.2 i hi hih x hx
/-- the end of a stage, whatever brought it there -/
theorem w_end {a : Nat → Nat → Int} {e n k c : Nat} {T0 T N0 N : Nat → Nat → Int} {L : Nat → Nat} {bf : Nat → Nat → Nat} (ha : sml a e n) (hn : n ≤ 4) (hk : k < n) (hc : c < e + n) (hN : NT (rm a e n) T N) (hL : LinT (rm a e n) T e) (s : St T L k c n) (hp : 0 < T k c) (hz : ∀ j, k < j → j < n → T j c = 0) (hlow : ∀ j, j < k → bd (N j) (9 * 2 ^ j)) (hpad : ∀ j, n ≤ j → T j = rm a e n j) (hcol : ∀ i x, i < n → e + n ≤ x → T i x = 0) :
    ∃ N', NT (rm a e n) (redT k c k T) N' ∧ LinT (rm a e n) (redT k c k T) e ∧ St (redT k c k T) (fun i => if i = k then c else L i) (k + 1) (c + 1) n ∧ bd (N' k) (9 * 2 ^ k) ∧ (∀ j, j ≠ k → N' j = N j) ∧ (∀ j, n ≤ j → redT k c k T j = rm a e n j) ∧ ∀ i x, i < n → e + n ≤ x → redT k c k T i x = 0 := by
  obtain ⟨N', h1, h2, h3, h4, h5⟩ := stage_end hN hL s hk hn hp (fun j a1 a2 => by
    rcases Nat.lt_or_ge j n with q | q
    · exact hz j a1 q
    · rw [hpad j q]; exact rm_pad q hc) (fun i _ => rm_9 ha i c) hlow
  refine ⟨N', h1, h2, h3, h4, h5, fun j hj => ?_, fun i x hi hx => ?_⟩
  · rw [← hpad j hj]
    funext x
    exact if_neg (by omega)
  · show (if i < k then T i x - (T i c).fdiv (T k c) * T k x else T i x) = 0
    rw [hcol i x hi hx, hcol k x hk hx]
    split <;> omega
theorem w_step {a : Nat → Nat → Int} {o e n k c : Nat} {J : fl_TJ} {T : Nat → Nat → Int} {L : Nat → Nat} (ha : sml a e n) (hn : n ≤ 4) (he : e ≤ 3) (hk : k < n) (hc : c < e + n) (hW : WQ a e n k c T L) (hs : shC o n (e + n) J T) :
    (j_elim o k c (e + n) n J (o + 2 + k) c = 0 ∧ shC o n (e + n) (j_elim o k c (e + n) n J) T ∧ WQ a e n k (c + 1) T L) ∨ (j_elim o k c (e + n) n J (o + 2 + k) c ≠ 0 ∧ ∃ T', shC o n (e + n) (j_add o k c (e + n) (j_elim o k c (e + n) n J)) T' ∧ WQ a e n (k + 1) (c + 1) T' (fun i => if i = k then c else L i)) := by
  obtain ⟨N0, w1, w2, w3, w4, w5, w6, w7, w8⟩ := hW
  have k4 : k < 4 := by omega
  have vals : ∀ j, k ≤ j → j < 4 → (T j c).natAbs ≤ bV k j := fun j p q => w_vals (L := L) ha w1 w4 w5 k4 p q
  obtain ⟨T', ⟨N', C, tb, pc⟩, hs'⟩ := j_elim_rule (o := o) hc hk (fun i T' => ∃ N', Ch (rm a e n) T N0 L e k c n (bN k) (bV k) i T' N' ∧ (k = 0 → TB i T') ∧ ∀ i x, i < n → e + n ≤ x → T' i x = 0)
    (fun i T1 hi1 hi2 ⟨N1, C, tb, pc⟩ => by
      obtain ⟨f1, f2, C'⟩ := ch_step C (by omega) hi2 hn (fun j hj => bV_fit k j k4 hj) (vals i (by omega) (by omega)) (w4 i (by omega))
      refine ⟨f1, f2, _, C', fun k0 => ?_, fun j x hj hx => ?_⟩
      · subst k0
        obtain ⟨-, -, -, c4, -, -, -, ⟨j0, -, g2, g3⟩, -⟩ := C
        have v9 : ∀ j, j < 4 → bV 0 j = 9 := by decide
        refine TB_step (tb rfl) (by omega) (by omega) (by rw [v9 j0 (by omega)] at g3; exact g3) ?_
        rw [(c4 i (Or.inr (Nat.le_refl _))).1]
        have := vals i (by omega) (by omega)
        rw [v9 i (by omega)] at this
        exact this
      · by_cases q1 : j = k
        · subst q1; rw [opT_u, pc j x hj hx, pc i x hi2 hx]; omega
        · by_cases q2 : j = i
          · subst q2; rw [opT_l (by omega), pc j x hj hx, pc k x hk hx]; omega
          · rw [opT_o q1 q2]; exact pc j x hj hx)
    (n - (k + 1)) (k + 1) J T (by omega) (Nat.le_refl _) hs ⟨N0, ch_begin w1 w2 w3 (vals k (Nat.le_refl _) k4) (w4 k k4) (bV_one k k4), fun k0 x => by
      subst k0
      exact ⟨w5.1 rfl 0 x (by decide), fun j hj hj4 => by rw [if_neg (by omega)]; exact w5.1 rfl j x hj4⟩, w7⟩
  have hs1 : shC o n (e + n) (j_elim o k c (e + n) n J) T' := hs'
  have hat := hs1 k c hk hc
  obtain ⟨c1, c2, c3, c4, c5, -, -, ⟨j0, g1, g2, g3⟩, c9⟩ := C
  have fk : fit (T' k c) := by have := bV_fit k j0 k4 (by omega); unfold fit; omega
  by_cases hz : T' k c = 0
  · left
    obtain ⟨e1, e2⟩ := c9 hz
    subst e1
    refine ⟨by rw [hat, hz]; rfl, hs1, N0, w1, w2, w3.next (fun i h1 h2 => ?_), w4, w5, w6, w7, w8⟩
    by_cases q : i = k
    · subst q; exact hz
    · exact (c5 i (by omega) h2).1
  · right
    refine ⟨by rw [hat]; exact fun q => hz ((oI_eq0 fk).mp q), ?_⟩
    obtain ⟨l, hl4, hl⟩ : ∃ l, l < 4 ∧ k ≠ l := by
      by_cases q : k = 0
      · exact ⟨1, by decide, by omega⟩
      · exact ⟨0, by decide, by omega⟩
    have fm : ∀ m, m < k → fit (T' m c) := fun m hm => by
      rw [(c4 m (Or.inl hm)).1]
      exact w_fits ha he w1 w3 w4 w5 k4 hm
    refine ⟨_, j_add_sh hk hl hc hs1 fm fk hz, ?_⟩
    have ng : ∀ i x, opT k l ngz T' i x = if i = k then -(T' k x) else T' i x := opT_ngz hl
    have ngN : ∀ j, j ≠ k → opN k l ngz N' j = N' j := fun j hj => by
      funext x
      by_cases q : j = l
      · subst q; rw [opN_l hl]; show 0 * N' k x + 1 * N' j x = N' j x; omega
      · exact opN_o hj q
    -- the row made positive
    obtain ⟨T2, N2, hT2, d1, d2, d3, d4, d5, d6, d7⟩ : ∃ T2 N2, T2 = (if T' k c < 0 then opT k l ngz T' else T') ∧ NT (rm a e n) T2 N2 ∧ LinT (rm a e n) T2 e ∧ St T2 L k c n ∧ 0 < T2 k c ∧ (∀ j, j ≠ k → T2 j = T' j ∧ N2 j = N' j) ∧ (∀ x, (T2 k x).natAbs = (T' k x).natAbs) ∧ ∀ x, e + n ≤ x → T2 k x = 0 := by
      by_cases q : T' k c < 0
      · refine ⟨_, opN k l ngz N', rfl, ?_, ?_, ?_, ?_, ?_, ?_, ?_⟩
        · rw [if_pos q]; exact c1.op k4 hl4 hl ngz_ok
        · rw [if_pos q]; exact c2.op _ _ _
        · rw [if_pos q]; exact c3.ng hl
        · rw [if_pos q, ng, if_pos rfl]; omega
        · intro j hj; rw [if_pos q]; exact ⟨funext fun x => by rw [ng, if_neg hj], ngN j hj⟩
        · intro x; rw [if_pos q, ng, if_pos rfl]; omega
        · intro x hx; rw [if_pos q, ng, if_pos rfl, pc k x hk hx]; rfl
      · refine ⟨_, N', rfl, ?_, ?_, ?_, ?_, ?_, ?_, ?_⟩
        · rw [if_neg q]; exact c1
        · rw [if_neg q]; exact c2
        · rw [if_neg q]; exact c3
        · rw [if_neg q]; omega
        · intro j hj; rw [if_neg q]; exact ⟨rfl, rfl⟩
        · intro x; rw [if_neg q]
        · intro x hx; rw [if_neg q]; exact pc k x hk hx
    rw [← hT2]
    have p2 : ∀ j, n ≤ j → T2 j = rm a e n j := fun j hj => by rw [(d5 j (by omega)).1, (c4 j (Or.inr hj)).1]; exact w6 j hj
    obtain ⟨N3, f1, f2, f3, f4, f5, f6, f7⟩ := w_end (T0 := T) (N0 := N0) (bf := bN) ha hn hk hc d1 d2 d3 d4 (fun j h1 h2 => by rw [(d5 j (by omega)).1]; exact (c5 j h1 h2).1) (fun j hj => by
      rw [(d5 j (by omega)).2, (c4 j (Or.inl hj)).2, ← bN_low k j (by omega) hj]
      exact w4 j (by omega)) p2 (fun i x hi hx => by
      by_cases q : i = k
      · subst q; exact d7 x hx
      · rw [(d5 i q).1]; exact pc i x hi hx)
    refine ⟨N3, f1, f2, f3, fun j hj => ?_, ⟨fun q => by omega, fun q x => ?_⟩, f6, f7, fun j hj => by rw [f5 j (by omega), (d5 j (by omega)).2, (c4 j (Or.inr hj)).2]; exact w8 j hj⟩
    · by_cases q : j = k
      · subst q; rw [bN_low (j + 1) j (by omega) (by omega)]; exact f4
      · rw [f5 j q, (d5 j q).2]
        rcases Nat.lt_or_ge j k with z | z
        · rw [(c4 j (Or.inl z)).2, bN_low (k + 1) j (by omega) (by omega), ← bN_low k j (by omega) z]
          exact w4 j hj
        · obtain ⟨m1, m2⟩ := bN_next k j k4 (by omega) hj
          rcases Nat.lt_or_ge j n with y | y
          · intro x hx
            have := (c5 j (by omega) y).2 x hx
            omega
          · rw [(c4 j (Or.inr y)).2]
            intro x hx
            have := w4 j hj x hx
            omega
    · have k0 : k = 0 := by omega
      subst k0
      have e0 : redT 0 c 0 T2 = T2 := redT_0 T2
      rw [e0]
      obtain ⟨t0, t1⟩ := tb rfl x
      have m0 : ∀ n, n ≤ 4 → ([9, 9, 63, 297, 1233] : List Nat).getD n 0 ≤ 1233 := by decide
      have := m0 n hn
      have u1 := t1 1 (by decide) (by decide)
      have u2 := t1 2 (by decide) (by decide)
      have u3 := t1 3 (by decide) (by decide)
      have v1 : (if 1 < n then ([9, 153, 648, 2754] : List Nat).getD 1 0 else 9) ≤ 153 := by split <;> decide
      have v2 : (if 2 < n then ([9, 153, 648, 2754] : List Nat).getD 2 0 else 9) ≤ 648 := by split <;> decide
      have v3 : (if 3 < n then ([9, 153, 648, 2754] : List Nat).getD 3 0 else 9) ≤ 2754 := by split <;> decide
      rw [d6 x, (d5 1 (by decide)).1, (d5 2 (by decide)).1, (d5 3 (by decide)).1]
      omega
