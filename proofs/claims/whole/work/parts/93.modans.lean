/-! modulo: the answers -/
theorem lead_ge {T : Nat → Nat → Int} {L : Nat → Nat} {n w : Nat} (h : Ech T L n w) : ∀ i, i < n → i ≤ L i := by
  intro i
  induction i with
  | zero => intro _; exact Nat.zero_le _
  | succ i ih =>
    intro hi
    have := h.2.1 i (i + 1) (by omega) hi
    have := ih (by omega)
    omega
theorem Lb.le {a : Nat → Nat → Int} {e n rr : Nat} {T : Nat → Nat → Int} {L : Nat → Nat} (hF : Fm a e n T L) (h : Lb L e n rr) : rr ≤ e := by
  rcases Nat.eq_zero_or_pos rr with z | z
  · omega
  · have h1 := h.1
    have h2 := (h.2 (rr - 1) (by omega)).mp (by omega)
    have h3 := lead_ge hF.1 (rr - 1) (by omega)
    omega
theorem j_sums_at (e : Nat) (I : fl_TI) (J : fl_TJ) (p x : Nat) : j_sums e I J p x = if p = 23 ∧ x < e then (I 5 x).toInt64 else J p x := by
  unfold j_sums
  rw [fl_it_r (fun q _ => (I 5 q).toInt64) (fun _ _ _ _ _ => rfl) e 0 J p x]
  by_cases h : p = 23 ∧ x < e
  · rw [if_pos h, if_pos (by omega)]
  · rw [if_neg h, if_neg (by omega)]
def mAns (H : Nat → Nat → Int) (s : Nat → Int) (m n e : Nat) : Int32 := if ∀ c, c < e → rv H (fun i => i) (vW s e) e c = 0 then (oI ((m ^ n * prP (fun i => (H i i).toNat) e / m ^ e : Nat) : Int)).toInt32 else nI 0
theorem rv_same {H H' : Nat → Nat → Int} {v : Nat → Int} {e : Nat} (h : ∀ i x, i < e → x < e → H i x = H' i x) : ∀ k, k ≤ e → ∀ x, x < e → rv H (fun i => i) v k x = rv H' (fun i => i) v k x := by
  intro k
  induction k with
  | zero => intro _ x _; rfl
  | succ k ih =>
    intro hk x hx
    show rv H (fun i => i) v k x - (rv H (fun i => i) v k k).fdiv (H k k) * H k x = rv H' (fun i => i) v k x - (rv H' (fun i => i) v k k).fdiv (H' k k) * H' k x
    rw [ih (by omega) x hx, ih (by omega) k (by omega), h k k (by omega) (by omega), h k x (by omega) hx]
theorem prP_same {P P' : Nat → Nat} {e : Nat} (h : ∀ i, i < e → P i = P' i) : ∀ k, k ≤ e → prP P k = prP P' k := by
  intro k
  induction k with
  | zero => intro _; rfl
  | succ k ih => intro hk; show prP P k * P k = prP P' k * P' k; rw [ih (by omega), h k (by omega)]
theorem mAns_same {H H' : Nat → Nat → Int} {s s' : Nat → Int} {m n e : Nat} (h : ∀ i x, i < e → x < e → H i x = H' i x) (hs : ∀ c, c < e → s c = s' c) : mAns H s m n e = mAns H' s' m n e := by
  have ev : vW s e = vW s' e := by
    funext x
    unfold vW
    by_cases q : x < e
    · rw [if_pos q, if_pos q, hs x q]
    · rw [if_neg q, if_neg q]
  have e1 : (∀ c, c < e → rv H (fun i => i) (vW s e) e c = 0) ↔ (∀ c, c < e → rv H' (fun i => i) (vW s' e) e c = 0) := by
    rw [ev]
    exact ⟨fun z c hc => by rw [← rv_same h e (Nat.le_refl _) c hc]; exact z c hc, fun z c hc => by rw [rv_same h e (Nat.le_refl _) c hc]; exact z c hc⟩
  have e2 := prP_same (P := fun i => (H i i).toNat) (P' := fun i => (H' i i).toNat) (e := e) (fun i hi => by show (H i i).toNat = (H' i i).toNat; rw [h i i hi hi]) e (Nat.le_refl _)
  unfold mAns
  rw [e2]
  by_cases z : ∀ c, c < e → rv H (fun i => i) (vW s e) e c = 0
  · rw [if_pos z, if_pos (e1.mp z)]
  · rw [if_neg z, if_neg (fun y => z (e1.mpr y))]
theorem MF.fits {a : Nat → Nat → Int} {n m e : Nat} {H : Nat → Nat → Int} {v : Nat → Int} (h : MF a n m e H) (he : e ≤ 3) (hm1 : 1 ≤ m) (hm : m ≤ 40) (hv : ∀ x, (v x).natAbs ≤ 1000) : (∀ i, i < e → H i i ≠ 0 ∧ fit (H i i) ∧ fit (rv H (fun i => i) v i i)) ∧ ∀ c, c < e → fit (rv H (fun i => i) v e c) := by
  have hs := h.small hm1 hm
  have r : ∀ k x, k ≤ e → x < e → fit (rv H (fun i => i) v k x) := fun k x hk hx => by
    have := rv_abs (S := 1000) (B := 40) (x := x) h.1 (by omega) v (fun i _ => hv i) (fun i hi => by have := hs i x hi hx; omega) k hk
    have := hv x
    unfold fit
    omega
  refine ⟨fun i hi => ?_, fun c hc => r e c (Nat.le_refl _) hc⟩
  have h1 : 0 < H i i := (h.1.1 i hi).2.1
  have h2 := hs i i hi hi
  exact ⟨by omega, by unfold fit; omega, r i i (by omega) hi⟩
/-- the class -/
theorem mod_class {n e rr m : Nat} {I : fl_TI} {J : fl_TJ} {T : Nat → Nat → Int} {L : Nat → Nat} {u : Nat → Int} (h : CS I J n e rr T L u) (hm1 : 1 ≤ m) (hm : m ≤ 40) :
    ∃ H, MF (aC I) n m e H ∧ x_mod m n e (j_mod e (x_r e rr m I J).1 (x_r e rr m I J).2.1 (x_r e rr m I J).2.2) = mAns H (sC I) m n e ∧ (∀ p x, p ≠ 13 → p ≠ 21 → (x_r e rr m I J).2.1 p x = I p x) ∧ ∀ p x, (p < 15 ∨ 21 ≤ p) → p ≠ 23 → j_mod e (x_r e rr m I J).1 (x_r e rr m I J).2.1 (x_r e rr m I J).2.2 p x = J p x := by
  obtain ⟨h1, h2, h3, h4, h5, h6, h7, h8, h9, h10⟩ := h
  have hn := h1.2.1.2
  have he := h1.2.2.2.1
  have hre := h7.le h4
  have hrn := h7.1
  have lg := lead_ge h4.1
  have st : WR (mR T rr m e) rr m e 0 (mR T rr m e) := ⟨⟨fun i hi => by omega, fun i j _ hj => by omega, fun i j _ hj => by omega, fun i _ _ x hx => by omega⟩, Eqv.rf, fun d x _ hd => by rw [mR_low (by omega) (by omega), show rr + d - rr = d from by omega], fun _ => rfl, fun z => by omega, fun z => by omega⟩
  obtain ⟨H, b1, b2, b3, b4⟩ := wr_form (T0 := T) (o := 13) (nr := 6) he hre hm1 hm (fun i x hi hx => (h4.1.1 i (by omega)).2.2 x (by have := lg i (by omega); omega)) (fun i x hi hx => h4.2.2.2.1 i x (by omega) (by omega)) (fun i hi h1e => h4.col1 hn h2 (by omega) i (by omega)) e 0 (i_r0 e rr I) _ _ (by omega) st (wr_begin hre he hrn hm h5) (fun i hi => by omega)
  have hMF : MF (aC I) n m e H := mf_class hn h4 h7 b2
  have gI := b_form_I 13 6 (rr + e) e (by omega) e 0 0 (i_r0 e rr I) (j_rem e rr m (j_clear 13 (rr + e) J)) (Nat.zero_add _) (by unfold i_r0 i_clear; rw [fl_up_s]) (Nat.zero_le _) (fun i hi => absurd hi (Nat.not_lt_zero _))
  have kI : ∀ p x, p ≠ 13 → p ≠ 21 → (x_r e rr m I J).2.1 p x = I p x := fun p x g1 g2 => by
    unfold x_r
    rw [gI.2.2.2 p x (fun q => g1 q.1) (by omega)]
    unfold i_r0
    exact i_clear_far g1
  have kJ : ∀ p x, (p < 15 ∨ 21 ≤ p) → (x_r e rr m I J).2.2 p x = J p x := fun p x hp => by
    unfold x_r
    rw [b_form_keep (o := 13) (by omega)]
    show j_rem e rr m (j_clear 13 (rr + e) J) p x = _
    rw [j_rem_at _ (by omega), if_neg (by omega), if_neg (by omega)]
    unfold j_clear
    rw [j_clear_at, if_neg (by omega)]
  have er : (x_r e rr m I J).1 = e := b1
  rw [er]
  have hsh : shC 13 (rr + e) e (x_r e rr m I J).2.2 H := b3
  have hld : ∀ i, i < e → ldI (x_r e rr m I J).2.1 (13 + 2 + 6) i = i := fun i hi => ldI_of (b4 i hi) (by omega)
  have sv : ∀ x, (vW (sC I) e x).natAbs ≤ 1000 := vW_abs h3
  obtain ⟨f1, f2⟩ := hMF.fits he hm1 hm sv
  have p0 : ∀ p x, p ≠ 23 → j_sums e (x_r e rr m I J).2.1 (j_fill 23 (x_r e rr m I J).2.2) p x = (x_r e rr m I J).2.2 p x := fun p x hp => by
    rw [j_sums_at, if_neg (fun q => hp q.1), j_fill_at, if_neg (fun q => hp q.1)]
  obtain ⟨r1, r2⟩ := j_reduce_sh (o := 13) (q := 23) (w := e) (h := rr + e) (ld := ldI (x_r e rr m I J).2.1 (13 + 2 + 6)) (L := fun i => i) (T := H) (v := vW (sC I) e) (rk := e) (by omega) (by omega) (fun i hi => ⟨hld i hi, hi, f1 i hi⟩) e 0 (j_sums e (x_r e rr m I J).2.1 (j_fill 23 (x_r e rr m I J).2.2)) (by omega) (fun i x hi hx => by rw [p0 _ _ (by omega)]; exact hsh i x hi hx) (fun x hx => by
    rw [j_sums_at, if_pos ⟨rfl, hx⟩, kI 5 x (by decide) (by decide), i64_of]
    show oI (sC I x) = oI (vW (sC I) e x)
    unfold vW
    rw [if_pos hx])
  have k23 : ∀ p x, p ≠ 23 → j_mod e e (x_r e rr m I J).2.1 (x_r e rr m I J).2.2 p x = (x_r e rr m I J).2.2 p x := fun p x hp => by
    have := r2 p x (.inl hp)
    rw [p0 p x hp] at this
    exact this
  refine ⟨H, hMF, ?_, kI, fun p x g1 g2 => by rw [k23 p x g2]; exact kJ p x g1⟩
  have hr : ∀ c, c < e → j_mod e e (x_r e rr m I J).2.1 (x_r e rr m I J).2.2 23 c = oI (rv H (fun i => i) (vW (sC I) e) e c) ∧ fit (rv H (fun i => i) (vW (sC I) e) e c) := fun c hc => ⟨r1 c hc, f2 c hc⟩
  have sm := hMF.small hm1 hm
  have ways := x_ways_oI (m := m) (n := n) (e := e) (J := j_mod e e (x_r e rr m I J).2.1 (x_r e rr m I J).2.2) (P := fun i => (H i i).toNat) hn he hm1 hm (fun i hi => by
    have := sm i i hi hi
    refine ⟨?_, by show (H i i).toNat ≤ 40; omega⟩
    rw [k23 _ _ (by omega), hsh i i (by omega) hi]
    congr 1
    show H i i = ((H i i).toNat : Int)
    omega)
  unfold x_mod mAns
  rw [ways]
  rcases x_first_none hr e 0 (by omega) (fun c hc => by omega) with ⟨g1, g2⟩ | ⟨c, g1, g2, g3, g4⟩
  · rw [if_pos g1, if_pos g2]
  · rw [if_neg (by rw [g2]; exact nI_ne (by omega)), if_neg (fun z => g4 (z c g1))]
/-- the model -/
theorem mod_model {n e m fu : Nat} {I : fl_TI} {J : fl_TJ} (hn1 : 1 ≤ n) (hn : n ≤ 4) (he : e ≤ 3) (ha : sml (aM I) e n) (hs : ∀ c, c < e → (sM I c).natAbs ≤ 1000) (hm1 : 1 ≤ m) (hm : m ≤ 40) (hf : 9223372036854775808 ≤ fu) :
    ∃ Ir Jr H, k_RM fu n e m I J Ir Jr e ∧ MF (aM I) n m e H ∧ (if (k_goes n e e Ir Jr).1 = 0 then nI 0 else (k_m3 m e (k_m2 e (k_goes n e e Ir Jr).2 (k_m1 m n))).toInt32) = mAns H (sM I) m n e := by
  obtain ⟨I9, Jr, H, b1, b2, b3, b4⟩ := ms_form (n := n) (m := m) hn1 hn he hm1 hm hf e 0 I _ _ (by omega) (ms_start hn1 ha hm) (ms_begin (J := J) hn he hm) (fun i hi => by omega)
  have hMF : MF (aM I) n m e H := mf_model b2
  have sv : ∀ x, (vW (sM I) e x).natAbs ≤ 1000 := vW_abs hs
  obtain ⟨f1, f2⟩ := hMF.fits he hm1 hm sv
  have hld : ∀ i, i < e → ldI (fl_up I9 30 5 (nI e)) 34 i = i := fun i hi => ldI_of (by rw [fl_up_k (by decide)]; exact b4 i hi) (by omega)
  have hRM : k_RM fu n e m I J (fl_up I9 30 5 (nI e)) Jr e := ⟨I9, b1, rfl, fun r hr => by
    rw [hld r hr, b3 r r (by omega) hr]
    exact fun z => (f1 r hr).1 ((oI_eq0 (f1 r hr).2.1).mp z)⟩
  refine ⟨fl_up I9 30 5 (nI e), Jr, H, hRM, hMF, ?_⟩
  have kp := k_RM_keep he hRM
  have hw : ∀ p x, p ≠ 35 → k_want e (fl_up I9 30 5 (nI e)) Jr p x = Jr p x := fun p x h => by rw [k_want_at, if_neg (fun q => h q.1)]
  have hlb : Lb (fun i => i) e e e := ⟨Nat.le_refl _, fun i hi => ⟨fun _ => hi, fun _ => hi⟩⟩
  obtain ⟨c1, c2⟩ := k_com_sh (n := n) (e := e) (K := e) (m := e) (w := e) (I := fl_up I9 30 5 (nI e)) (J := k_want e (fl_up I9 30 5 (nI e)) Jr) (T := H) (F := fun r j => (Jr 33 (8 * r + e + j)).toInt) (v := vW (sM I) e) (L := fun i => i) hn hMF.1 (Nat.le_refl _) hlb (fun r x hr hx => by rw [hw _ _ (by decide)]; exact b3 r x (by omega) hx) (fun r j hr hj => by rw [hw _ _ (by decide)]; exact (Int64.ofInt_toInt _).symm) hld (fun r hr => (f1 r hr).2) f2 (fun c hc => by
    rw [k_want_at, if_pos ⟨rfl, hc⟩, kp.2.2.2 c, i64_of]
    show oI (sM I c) = oI (vW (sM I) e c)
    unfold vW
    rw [if_pos hc])
  have sm := hMF.small hm1 hm
  have ways := k_ways_oI (m := m) (n := n) (e := e) (J := (k_goes n e e (fl_up I9 30 5 (nI e)) Jr).2) (P := fun i => (H i i).toNat) hn he hm (fun i hi => by
    have := sm i i hi hi
    refine ⟨?_, by show (H i i).toNat ≤ 40; omega⟩
    unfold k_goes
    rw [c1 _ _ (by decide) (by decide), hw _ _ (by decide), b3 i i (by omega) hi]
    congr 1
    show H i i = ((H i i).toNat : Int)
    omega)
  rw [ways]
  unfold mAns
  rcases c2 with ⟨d1, d2, -⟩ | ⟨d1, d2⟩
  · rw [if_neg (by show ¬ (k_com n e e (fl_up I9 30 5 (nI e)) (k_want e (fl_up I9 30 5 (nI e)) Jr)).1 = 0; rw [d1]; decide), if_pos d2]
  · rw [if_pos (show (k_goes n e e (fl_up I9 30 5 (nI e)) Jr).1 = 0 from d1), if_neg d2]
theorem MF.congr {a a' : Nat → Nat → Int} {n m e : Nat} {H : Nat → Nat → Int} (h : ∀ c j, c < e → j < n → a c j = a' c j) (hM : MF a n m e H) : MF a' n m e H := by
  have e1 : mR (fun i x => a x i) n m e = mR (fun i x => a' x i) n m e := by
    funext i x
    unfold mR
    by_cases h1 : x < e
    · rw [if_pos h1, if_pos h1]
      by_cases h2 : i < n
      · rw [if_pos h2, if_pos h2]; exact h x i h1 h2
      · rw [if_neg h2, if_neg h2]
    · rw [if_neg h1, if_neg h1]
  unfold MF at *
  rw [← e1]
  exact hM
