/-! a pass of the model, as a change of rows -/
def pvN (k b : Nat) (t : Int) (N : Nat → Nat → Int) : Nat → Nat → Int := fun i x => if i = k then (if t < 0 then -(N b x) else N b x) else if i = b then N k x else N i x
theorem pvT_N {k b c : Nat} {T : Nat → Nat → Int} : pvT k b c T = pvN k b (T b c) T := rfl
def swz : Opc := opc 0 1 1 0 0 1 1 0
theorem swz_ok : swz.ok := by unfold Opc.ok swz opc Opc.a Opc.b Opc.c Opc.d Opc.p Opc.q Opc.r Opc.s; decide
def ngT (k : Nat) (T : Nat → Nat → Int) : Nat → Nat → Int := fun i x => if i = k then -(T k x) else T i x
theorem opT_swz {u l : Nat} (h : u ≠ l) (T : Nat → Nat → Int) : opT u l swz T = pvN u l 0 T := by
  funext i x
  unfold opT pvN
  by_cases h1 : i = u
  · rw [if_pos h1, if_pos h1, if_neg (by omega)]; show 0 * T u x + 1 * T l x = _; omega
  · rw [if_neg h1, if_neg h1]
    by_cases h2 : i = l
    · rw [if_pos h2, if_pos h2]; show 1 * T u x + 0 * T l x = _; omega
    · rw [if_neg h2, if_neg h2]
theorem opN_swz {u l : Nat} (h : u ≠ l) (T : Nat → Nat → Int) : opN u l swz T = pvN u l 0 T := by
  funext i x
  unfold opN pvN
  by_cases h1 : i = u
  · rw [if_pos h1, if_pos h1, if_neg (by omega)]; show 0 * T u x + 1 * T l x = _; omega
  · rw [if_neg h1, if_neg h1]
    by_cases h2 : i = l
    · rw [if_pos h2, if_pos h2]; show 1 * T u x + 0 * T l x = _; omega
    · rw [if_neg h2, if_neg h2]
theorem opN_ngz {u l : Nat} (h : u ≠ l) (N : Nat → Nat → Int) : opN u l ngz N = ngT u N := by
  funext i x
  unfold opN ngT
  by_cases h1 : i = u
  · rw [if_pos h1, if_pos h1]; show -1 * N u x + 0 * N l x = _; omega
  · rw [if_neg h1, if_neg h1]
    by_cases h2 : i = l
    · subst h2; rw [if_pos rfl]; show 0 * N u x + 1 * N i x = _; omega
    · rw [if_neg h2]
theorem pvN_neg {k b : Nat} {t : Int} (ht : t < 0) (N : Nat → Nat → Int) : pvN k b t N = ngT k (pvN k b 0 N) := by
  funext i x
  unfold ngT pvN
  by_cases h1 : i = k
  · rw [if_pos h1, if_pos ht, if_pos h1, if_pos rfl, if_neg (by omega)]
  · rw [if_neg h1, if_neg h1, if_neg h1]
theorem pvN_pos {k b : Nat} {t : Int} (ht : ¬ t < 0) (N : Nat → Nat → Int) : pvN k b t N = pvN k b 0 N := by
  funext i x
  unfold pvN
  by_cases h1 : i = k
  · rw [if_pos h1, if_neg ht, if_pos h1, if_neg (by omega)]
  · rw [if_neg h1, if_neg h1]
theorem pvN_self {k : Nat} (N : Nat → Nat → Int) : pvN k k 0 N = N := by
  funext i x
  unfold pvN
  by_cases h1 : i = k
  · rw [if_pos h1, if_neg (by omega), h1]
  · rw [if_neg h1, if_neg h1]
theorem pv_close {n k b : Nat} (Φ : (Nat → Nat → Int) → (Nat → Nat → Int) → Prop) (h1 : ∀ T N u l z, u ≠ l → k ≤ u → u < n → k ≤ l → l < n → z.ok → Φ T N → Φ (opT u l z T) (opN u l z N)) (h2 : ∀ T N, Φ T N → Φ (ngT k T) (ngT k N)) (hk : k < n) (hkb : k ≤ b) (hb : b < n) {T N : Nat → Nat → Int} (h : Φ T N) (t : Int) : Φ (pvN k b t T) (pvN k b t N) := by
  have s0 : Φ (pvN k b 0 T) (pvN k b 0 N) := by
    by_cases e : k = b
    · subst e; rw [pvN_self, pvN_self]; exact h
    · rw [← opT_swz e, ← opN_swz e]; exact h1 T N k b swz e (Nat.le_refl _) hk hkb hb swz_ok h
  by_cases ht : t < 0
  · rw [pvN_neg ht, pvN_neg ht]; exact h2 _ _ s0
  · rw [pvN_pos ht, pvN_pos ht]; exact s0
/-- the pass's columns -/
def pasN (k c : Nat) (T N : Nat → Nat → Int) : Nat → Nat → Nat → Int
  | 0 => N
  | m + 1 => if k < m then opN m k (rdz ((T m c).fdiv (T k c))) (pasN k c T N m) else pasN k c T N m
theorem pasT_op {k c m : Nat} (hm : k < m) (T : Nat → Nat → Int) : pasT k c (m + 1) T = opT m k (rdz ((T m c).fdiv (T k c))) (pasT k c m T) := by
  funext j x
  rw [pasT_s hm]
  by_cases h1 : j = m
  · subst h1
    rw [if_pos rfl, opT_u, pasT_k, pasT_k, pasT_out (Or.inr (Nat.le_refl _)), pasT_out (Or.inr (Nat.le_refl _))]
    show _ = 1 * T j x + -((T j c).fdiv (T k c)) * T k x
    rw [Int.neg_mul]
    omega
  · rw [if_neg h1]
    by_cases h2 : j = k
    · subst h2
      rw [opT_l (by omega), pasT_k, pasT_out (Or.inr (Nat.le_refl _))]
      show _ = 0 * T m x + 1 * T j x
      omega
    · rw [opT_o h1 h2]
theorem pasT_low {k c m : Nat} (hm : ¬ k < m) (T : Nat → Nat → Int) : pasT k c (m + 1) T = pasT k c m T := by
  funext j x
  rw [pasT_out (by omega), pasT_out (by omega)]
theorem pasT_zero {k c : Nat} (T : Nat → Nat → Int) : pasT k c 0 T = T := by
  funext j x
  exact pasT_out (by omega)
theorem pas_close {n k c : Nat} (Φ : (Nat → Nat → Int) → (Nat → Nat → Int) → Prop) (h1 : ∀ T N u l z, u ≠ l → k ≤ u → u < n → k ≤ l → l < n → z.ok → Φ T N → Φ (opT u l z T) (opN u l z N)) (hk : k < n) {T N : Nat → Nat → Int} (h : Φ T N) : ∀ m, m ≤ n → Φ (pasT k c m T) (pasN k c T N m) := by
  intro m
  induction m with
  | zero => intro _; rw [pasT_zero]; exact h
  | succ m ih =>
    intro hm
    unfold pasN
    by_cases q : k < m
    · rw [if_pos q, pasT_op q]
      exact h1 _ _ m k _ (by omega) (by omega) (by omega) (Nat.le_refl _) hk (rdz_ok _) (ih (by omega))
    · rw [if_neg q, pasT_low q]
      exact ih (by omega)
theorem pasN_o {k c : Nat} {T N : Nat → Nat → Int} {j : Nat} (hj : j ≠ k) : ∀ m, pasN k c T N m j = N j := by
  intro m
  induction m with
  | zero => rfl
  | succ m ih =>
    unfold pasN
    by_cases q : k < m
    · rw [if_pos q, ← ih]
      funext x
      by_cases e : j = m
      · subst e; rw [opN_u]; show 1 * pasN k c T N j j x + 0 * pasN k c T N j k x = _; omega
      · exact opN_o e hj
    · rw [if_neg q]; exact ih
theorem pasN_k {k c : Nat} {T N : Nat → Nat → Int} {m x : Nat} : pasN k c T N (m + 1) k x = if k < m then pasN k c T N m k x + (T m c).fdiv (T k c) * N m x else pasN k c T N m k x := by
  show (if k < m then opN m k (rdz ((T m c).fdiv (T k c))) (pasN k c T N m) else pasN k c T N m) k x = _
  by_cases q : k < m
  · rw [if_pos q, if_pos q, opN_l (by omega), pasN_o (by omega) m]
    show (T m c).fdiv (T k c) * N m x + 1 * pasN k c T N m k x = _
    omega
  · rw [if_neg q, if_neg q]
/-- what N has of N1 -/
def cmb (N m N1 : Nat → Nat → Int) : Prop := ∀ r i, r < 4 → N r i = m r 0 * N1 0 i + m r 1 * N1 1 i + m r 2 * N1 2 i + m r 3 * N1 3 i
theorem cmb.pv {N m N1 : Nat → Nat → Int} (h : cmb N m N1) {k b : Nat} (hk : k < 4) (hb : b < 4) (t : Int) : cmb (pvN k b t N) (pvN k b t m) N1 := by
  intro r i hr
  unfold pvN
  by_cases h1 : r = k
  · simp only [if_pos h1]
    by_cases h2 : t < 0
    · simp only [if_pos h2]; rw [h b i hb]; grind
    · simp only [if_neg h2]; exact h b i hb
  · simp only [if_neg h1]
    by_cases h2 : r = b
    · simp only [if_pos h2]; exact h k i hk
    · simp only [if_neg h2]; exact h r i hr
theorem cmb.op {N m N1 : Nat → Nat → Int} (h : cmb N m N1) {u l : Nat} (hu : u < 4) (hl : l < 4) (z : Opc) : cmb (opN u l z N) (opN u l z m) N1 := by
  intro r i hr
  unfold opN
  by_cases h1 : r = u
  · simp only [if_pos h1]; rw [h u i hu, h l i hl]; grind
  · simp only [if_neg h1]
    by_cases h2 : r = l
    · simp only [if_pos h2]; rw [h u i hu, h l i hl]; grind
    · simp only [if_neg h2]; exact h r i hr
theorem cmb.pas {N m N1 T : Nat → Nat → Int} (h : cmb N m N1) {k : Nat} (hk : k < 4) (c : Nat) : ∀ q, q ≤ 4 → cmb (pasN k c T N q) (pasN k c T m q) N1 := by
  intro q
  induction q with
  | zero => intro _; exact h
  | succ q ih =>
    intro hq
    unfold pasN
    by_cases z : k < q
    · rw [if_pos z, if_pos z]; exact (ih (by omega)).op (by omega) hk _
    · rw [if_neg z, if_neg z]; exact ih (by omega)
theorem cmb_id {N : Nat → Nat → Int} : cmb N idN N := by
  intro r i hr
  unfold idN
  rcases lt4 hr with rfl | rfl | rfl | rfl <;> simp
/-- what holds all through a stage of the model -/
def Cr (a : Nat → Nat → Int) (e n k c : Nat) (T0 N0 : Nat → Nat → Int) (L : Nat → Nat) (T N : Nat → Nat → Int) : Prop :=
  NT (rm a e n) T N ∧ LinT (rm a e n) T e ∧ St T L k c n ∧ (∀ j, (j < k ∨ n ≤ j) → T j = T0 j ∧ N j = N0 j) ∧ ∀ i x, i < n → e + n ≤ x → T i x = 0
theorem Cr.op {a : Nat → Nat → Int} {e n k c : Nat} {T0 N0 : Nat → Nat → Int} {L : Nat → Nat} (hn : n ≤ 4) : ∀ T N u l z, u ≠ l → k ≤ u → u < n → k ≤ l → l < n → z.ok → Cr a e n k c T0 N0 L T N → Cr a e n k c T0 N0 L (opT u l z T) (opN u l z N) := by
  intro T N u l z hne hu hu2 hl hl2 hz ⟨c1, c2, c3, c4, c5⟩
  refine ⟨c1.op (by omega) (by omega) hne hz, c2.op _ _ _, c3.op z hu hu2 hl hl2 hne, fun j hj => ?_, fun i x hi hx => ?_⟩
  · obtain ⟨a1, a2⟩ := c4 j hj
    exact ⟨by rw [← a1]; funext x; exact opT_o (by omega) (by omega), by rw [← a2]; funext x; exact opN_o (by omega) (by omega)⟩
  · by_cases q1 : i = u
    · subst q1; rw [opT_u, c5 i x hi hx, c5 l x hl2 hx]; omega
    · by_cases q2 : i = l
      · subst q2; rw [opT_l hne, c5 i x hi hx, c5 u x hu2 hx]; omega
      · rw [opT_o q1 q2]; exact c5 i x hi hx
theorem other4 {k : Nat} : ∃ l, l < 4 ∧ k ≠ l := by
  by_cases q : k = 0
  · exact ⟨1, by decide, by omega⟩
  · exact ⟨0, by decide, by omega⟩
theorem Cr.ng {a : Nat → Nat → Int} {e n k c : Nat} {T0 N0 : Nat → Nat → Int} {L : Nat → Nat} (hn : n ≤ 4) (hk : k < n) : ∀ T N, Cr a e n k c T0 N0 L T N → Cr a e n k c T0 N0 L (ngT k T) (ngT k N) := by
  intro T N ⟨c1, c2, c3, c4, c5⟩
  obtain ⟨l, hl4, hl⟩ := other4 (k := k)
  have e1 : opT k l ngz T = ngT k T := funext fun i => funext fun x => opT_ngz hl i x
  rw [← opN_ngz hl N, ← e1]
  refine ⟨c1.op (by omega) hl4 hl ngz_ok, c2.op _ _ _, c3.ng hl, fun j hj => ?_, fun i x hi hx => ?_⟩
  · obtain ⟨a1, a2⟩ := c4 j hj
    rw [e1, opN_ngz hl]
    exact ⟨by rw [← a1]; funext x; exact if_neg (by omega), by rw [← a2]; funext x; exact if_neg (by omega)⟩
  · rw [opT_ngz hl]
    by_cases q : i = k
    · subst q; rw [if_pos rfl, c5 i x hi hx]; rfl
    · rw [if_neg q]; exact c5 i x hi hx
/-- one pass -/
abbrev psT (n k b c : Nat) (T : Nat → Nat → Int) : Nat → Nat → Int := pasT k c n (pvT k b c T)
abbrev psN (n k b c : Nat) (T N : Nat → Nat → Int) : Nat → Nat → Int := pasN k c (pvT k b c T) (pvN k b (T b c) N) n
theorem Cr.pass {a : Nat → Nat → Int} {e n k c b : Nat} {T0 N0 : Nat → Nat → Int} {L : Nat → Nat} (hn : n ≤ 4) (hk : k < n) (hkb : k ≤ b) (hb : b < n) {T N : Nat → Nat → Int} (h : Cr a e n k c T0 N0 L T N) : Cr a e n k c T0 N0 L (psT n k b c T) (psN n k b c T N) :=
  pas_close (Cr a e n k c T0 N0 L) (Cr.op hn) hk (pv_close (n := n) (b := b) (Cr a e n k c T0 N0 L) (Cr.op hn) (Cr.ng hn hk) hk hkb hb h (T b c)) n (Nat.le_refl _)
theorem NT.ng {R T N : Nat → Nat → Int} {k : Nat} (hk : k < 4) (h : NT R T N) : NT R (ngT k T) (ngT k N) := by
  obtain ⟨l, hl4, hl⟩ := other4 (k := k)
  have e1 : opT k l ngz T = ngT k T := funext fun i => funext fun x => opT_ngz hl i x
  rw [← opN_ngz hl N, ← e1]
  exact h.op hk hl4 hl ngz_ok
theorem NT.pass {R T N : Nat → Nat → Int} {n k b c : Nat} (hn : n ≤ 4) (hk : k < n) (hkb : k ≤ b) (hb : b < n) {T9 : Nat → Nat → Int} (h : NT R T N) : NT R (psT n k b c T) (psN n k b c T N) :=
  pas_close (NT R) (fun T N u l z hne _ hu _ hl hz h => h.op (by omega) (by omega) hne hz) hk (pv_close (n := n) (b := b) (NT R) (fun T N u l z hne _ hu _ hl hz h => h.op (by omega) (by omega) hne hz) (fun T N h => h.ng (by omega)) hk hkb hb h (T b c)) n (Nat.le_refl _)
/-- the later passes: the columns are sums, none negative, of those behind the first -/
def Gm (n k c : Nat) (P : Int) (T1 T m : Nat → Nat → Int) : Prop :=
  NT T1 T m ∧ (∀ r, k ≤ r → r < n → 0 ≤ T r c) ∧ (∀ r l, k ≤ r → r < n → k ≤ l → l < n → 0 ≤ m r l ∧ m r l ≤ P) ∧ (∀ r l, k ≤ r → r < n → ¬ (k ≤ l ∧ l < n) → m r l = 0) ∧ ∀ r, ¬ (k ≤ r ∧ r < n) → m r = idN r
theorem ps_top {n k b c : Nat} {T : Nat → Nat → Int} (x : Nat) : psT n k b c T k x = if T b c < 0 then -(T b x) else T b x := by
  show pasT k c n (pvT k b c T) k x = _
  rw [pasT_k]
  exact if_pos rfl
theorem ps_topc {n k b c : Nat} {T : Nat → Nat → Int} (h0 : T b c ≠ 0) : 0 < psT n k b c T k c ∧ (psT n k b c T k c).natAbs = (T b c).natAbs := by
  rw [ps_top]
  split <;> omega
theorem ps_in {n k b c r : Nat} {T : Nat → Nat → Int} (h0 : T b c ≠ 0) (h1 : k < r) (h2 : r < n) : 0 ≤ psT n k b c T r c ∧ psT n k b c T r c < psT n k b c T k c := by
  have hp := (ps_topc (n := n) (k := k) (b := b) (c := c) h0).1
  have e : psT n k b c T r c = pvT k b c T r c - (pvT k b c T r c).fdiv (pvT k b c T k c) * pvT k b c T k c := pasT_in ⟨h1, h2⟩
  have e2 : psT n k b c T k c = pvT k b c T k c := pasT_k
  rw [e2] at hp ⊢
  rw [e]
  exact rest_pos hp
theorem Gm.pass {n k b c : Nat} {P : Int} {T1 T m : Nat → Nat → Int} (hn : n ≤ 4) (hk : k < n) (hkb : k ≤ b) (hb : b < n) (h0 : T b c ≠ 0) (hP : ∀ l, k ≤ l → l < n → T1 l c ≤ P) (g : Gm n k c P T1 T m) : Gm n k c P T1 (psT n k b c T) (psN n k b c T m) := by
  obtain ⟨g1, g2, g3, g4, g5⟩ := g
  have hbp : 0 < T b c := by have := g2 b hkb hb; omega
  have hnt : NT T1 (psT n k b c T) (psN n k b c T m) := g1.pass (T9 := T) hn hk hkb hb
  -- the swap alone
  have v1 : ∀ r l, k ≤ r → r < n → k ≤ l → l < n → 0 ≤ pvN k b (T b c) m r l ∧ pvN k b (T b c) m r l ≤ P := fun r l h1 h2 h3 h4 => by
    unfold pvN
    by_cases q : r = k
    · rw [if_pos q, if_neg (by omega)]; exact g3 b l hkb hb h3 h4
    · rw [if_neg q]
      by_cases q2 : r = b
      · rw [if_pos q2]; exact g3 k l (Nat.le_refl _) hk h3 h4
      · rw [if_neg q2]; exact g3 r l h1 h2 h3 h4
  have v2 : ∀ r l, k ≤ r → r < n → ¬ (k ≤ l ∧ l < n) → pvN k b (T b c) m r l = 0 := fun r l h1 h2 h3 => by
    unfold pvN
    by_cases q : r = k
    · rw [if_pos q, if_neg (by omega)]; exact g4 b l hkb hb h3
    · rw [if_neg q]
      by_cases q2 : r = b
      · rw [if_pos q2]; exact g4 k l (Nat.le_refl _) hk h3
      · rw [if_neg q2]; exact g4 r l h1 h2 h3
  have v3 : ∀ r, ¬ (k ≤ r ∧ r < n) → pvN k b (T b c) m r = idN r := fun r h => by
    rw [← g5 r h]
    funext x
    unfold pvN
    rw [if_neg (by omega), if_neg (by omega)]
  have v4 : ∀ r, k ≤ r → r < n → 0 ≤ pvT k b c T r c := fun r h1 h2 => by
    unfold pvT
    by_cases q : r = k
    · rw [if_pos q, if_neg (by omega)]; omega
    · rw [if_neg q]
      by_cases q2 : r = b
      · rw [if_pos q2]; exact g2 k (Nat.le_refl _) hk
      · rw [if_neg q2]; exact g2 r h1 h2
  have vp : 0 < pvT k b c T k c := by have := (ps_topc (n := n) (k := k) (b := b) (c := c) h0).1; rw [show psT n k b c T k c = pvT k b c T k c from pasT_k] at this; exact this
  -- the top row's sums
  have w1 : ∀ q, q ≤ n → ∀ l, k ≤ l → l < n → 0 ≤ pasN k c (pvT k b c T) (pvN k b (T b c) m) q k l := by
    intro q
    induction q with
    | zero => intro _ l h3 h4; exact (v1 k l (Nat.le_refl _) hk h3 h4).1
    | succ q ih =>
      intro hq l h3 h4
      rw [pasN_k]
      by_cases z : k < q
      · rw [if_pos z]
        have i1 := ih (by omega) l h3 h4
        have i2 : 0 ≤ (pvT k b c T q c).fdiv (pvT k b c T k c) := Int.fdiv_nonneg (v4 q (by omega) (by omega)) (by omega)
        have i3 := Int.mul_nonneg i2 (v1 q l (by omega) (by omega) h3 h4).1
        omega
      · rw [if_neg z]; exact ih (by omega) l h3 h4
  have w2 : ∀ q, q ≤ n → ∀ l, ¬ (k ≤ l ∧ l < n) → pasN k c (pvT k b c T) (pvN k b (T b c) m) q k l = 0 := by
    intro q
    induction q with
    | zero => intro _ l h3; exact v2 k l (Nat.le_refl _) hk h3
    | succ q ih =>
      intro hq l h3
      rw [pasN_k]
      by_cases z : k < q
      · rw [if_pos z, ih (by omega) l h3, v2 q l (by omega) (by omega) h3]; omega
      · rw [if_neg z]; exact ih (by omega) l h3
  have t1 : ∀ r, k ≤ r → r < n → 0 ≤ psT n k b c T r c := fun r h1 h2 => by
    by_cases q : r = k
    · subst q; have := (ps_topc (n := n) (k := r) (b := b) (c := c) h0).1; omega
    · exact (ps_in h0 (by omega) h2).1
  have o1 : ∀ r, r ≠ k → psN n k b c T m r = pvN k b (T b c) m r := fun r hr => pasN_o hr n
  refine ⟨hnt, t1, fun r l h1 h2 h3 h4 => ?_, fun r l h1 h2 h3 => ?_, fun r hr => ?_⟩
  · by_cases q : r = k
    · subst q
      have nn : 0 ≤ psN n r b c T m r l := w1 n (Nat.le_refl _) l h3 h4
      refine ⟨nn, ?_⟩
      have e := hnt.1 l c
      have term : ∀ s, s < 4 → 0 ≤ psN n r b c T m s l * psT n r b c T s c := fun s hs => by
        by_cases z : r ≤ s ∧ s < n
        · by_cases z2 : s = r
          · subst z2; exact Int.mul_nonneg nn (t1 s h1 h2)
          · rw [o1 s z2]; exact Int.mul_nonneg (v1 s l z.1 z.2 h3 h4).1 (t1 s z.1 z.2)
        · rw [o1 s (by omega), v3 s z]
          unfold idN
          rw [if_neg (by omega)]
          omega
      have a0 := term 0 (by decide)
      have a1 := term 1 (by decide)
      have a2 := term 2 (by decide)
      have a3 := term 3 (by decide)
      have le : psN n r b c T m r l * psT n r b c T r c ≤ T1 l c := by
        rcases lt4 (show r < 4 by omega) with rfl | rfl | rfl | rfl <;> omega
      have tp := (ps_topc (n := n) (k := r) (b := b) (c := c) h0).1
      have l2 : psN n r b c T m r l * 1 ≤ psN n r b c T m r l * psT n r b c T r c := Int.mul_le_mul_of_nonneg_left (by omega) nn
      have := hP l h3 h4
      omega
    · rw [o1 r q]; exact v1 r l h1 h2 h3 h4
  · by_cases q : r = k
    · subst q; exact w2 n (Nat.le_refl _) l h3
    · rw [o1 r q]; exact v2 r l h1 h2 h3
  · rw [o1 r (by omega)]; exact v3 r hr
theorem gm_begin {n k c : Nat} {P : Int} {T1 : Nat → Nat → Int} (h4 : ∀ i x, 4 ≤ i → T1 i x = 0) (hT : ∀ r, k ≤ r → r < n → 0 ≤ T1 r c) (hP : 1 ≤ P) : Gm n k c P T1 T1 idN := by
  refine ⟨⟨fun i x => ?_, Or.inl (by decide)⟩, hT, fun r l _ _ _ _ => ?_, fun r l h1 h2 h3 => ?_, fun _ _ => rfl⟩
  · by_cases h : i < 4
    · unfold idN
      rcases lt4 h with rfl | rfl | rfl | rfl <;> simp
    · unfold idN
      rw [h4 i x (by omega), if_neg (by omega), if_neg (by omega), if_neg (by omega), if_neg (by omega)]
      omega
  · unfold idN; split <;> omega
  · unfold idN; rw [if_neg (by omega)]
