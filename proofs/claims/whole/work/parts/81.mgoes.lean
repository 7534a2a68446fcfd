/-! whether they go together, and the solution: the model -/
def vW (s : Nat → Int) (e : Nat) : Nat → Int := fun x => if x < e then s x else 0
theorem vW_abs {s : Nat → Int} {e S : Nat} (hs : ∀ c, c < e → (s c).natAbs ≤ S) (x : Nat) : (vW s e x).natAbs ≤ S := by
  unfold vW
  by_cases h : x < e
  · rw [if_pos h]; exact hs x h
  · rw [if_neg h]; exact Nat.zero_le _
theorem rv_in {a : Nat → Nat → Int} {s v : Nat → Int} {e n : Nat} {T : Nat → Nat → Int} {L : Nat → Nat} (hF : Fm a e n T L) (hn : n ≤ 4) (hv : ∀ c, c < e → v c = s c) : (∀ c, c < e → rv T L v n c = 0) ↔ In a s e n := by
  rw [rv_zero hF.1 _ (show e ≤ e + n by omega), ← hF.in_iff hn (Nat.le_refl e)]
  constructor
  · rintro ⟨z, h1, h2⟩
    exact ⟨z, h1, fun c hc => by rw [← h2 c hc]; exact (hv c hc).symm⟩
  · rintro ⟨z, h1, h2⟩
    exact ⟨z, h1, fun c hc => by rw [← h2 c hc]; exact hv c hc⟩
theorem tv_bound {T : Nat → Nat → Int} {L : Nat → Nat} {n w : Nat} (h : Ech T L n w) (hn : n ≤ 4) {v : Nat → Int} {S : Nat} (hS : ∀ i, i < n → (v (L i)).natAbs ≤ S) {x B m : Nat} (hm : m ≤ n) (hB : ∀ i, i < n → (T i x).natAbs ≤ B) : (sm m (fun i => tv T L v i * T i x)).natAbs ≤ 15 * ((S + 1) * B) := by
  have tb : ∀ l, l < m → (tv T L v l * T l x).natAbs ≤ 2 ^ l * ((S + 1) * B) := fun l hl => by
    have := na_mul (rv_bound h hn v hS l (by omega)).2 (hB l (by omega))
    rw [Nat.mul_comm (S + 1), Nat.mul_assoc] at this
    exact this
  generalize (S + 1) * B = g at *
  have : m = 0 ∨ m = 1 ∨ m = 2 ∨ m = 3 ∨ m = 4 := by omega
  rcases this with rfl | rfl | rfl | rfl | rfl
  · show (0 : Int).natAbs ≤ _; exact Nat.zero_le _
  · have a0 := tb 0 (by decide)
    show (0 + tv T L v 0 * T 0 x).natAbs ≤ _
    omega
  · have a0 := tb 0 (by decide)
    have a1 := tb 1 (by decide)
    show (0 + tv T L v 0 * T 0 x + tv T L v 1 * T 1 x).natAbs ≤ _
    omega
  · have a0 := tb 0 (by decide)
    have a1 := tb 1 (by decide)
    have a2 := tb 2 (by decide)
    show (0 + tv T L v 0 * T 0 x + tv T L v 1 * T 1 x + tv T L v 2 * T 2 x).natAbs ≤ _
    omega
  · have a0 := tb 0 (by decide)
    have a1 := tb 1 (by decide)
    have a2 := tb 2 (by decide)
    have a3 := tb 3 (by decide)
    show (0 + tv T L v 0 * T 0 x + tv T L v 1 * T 1 x + tv T L v 2 * T 2 x + tv T L v 3 * T 3 x).natAbs ≤ _
    omega
theorem rv_tv {T : Nat → Nat → Int} {L : Nat → Nat} {n w : Nat} (h : Ech T L n w) (v : Nat → Int) {k : Nat} (hk : k ≤ n) (x : Nat) : rv T L v k x = v x - sm k (fun i => tv T L v i * T i x) := by
  obtain ⟨⟨t, t1, t2⟩, -⟩ := rv_spec h v k hk
  rw [t1 x]
  rw [sm_congr (f := fun i => t i * T i x) (g := fun i => tv T L v i * T i x) (fun i hi => by show t i * T i x = tv T L v i * T i x; rw [t2 i hi]; rfl)]
/-- comes over the form of the equations -/
theorem k_com_in {a : Nat → Nat → Int} {n e m S : Nat} {I : fl_TI} {J : fl_TJ} {T : Nat → Nat → Int} {s v : Nat → Int} {L : Nat → Nat} (hn : n ≤ 4) (he : e ≤ 3) (hF : Fm a e n T L) (hlb : Lb L e n m) (hsh : shM n (e + n) J T) (hld : ∀ r, r < n → ldI I 34 r = L r) (hv : ∀ c, c < e → v c = s c) (hS : ∀ x, (v x).natAbs ≤ S) (hS2 : S ≤ 2147483648) (h35 : ∀ c, c < e → J 35 c = oI (v c)) :
    (∀ p x, p ≠ 35 → p ≠ 36 → (k_com n e n I J).2 p x = J p x) ∧
    (((k_com n e n I J).1 = 1 ∧ In a s e n ∧ ∀ j, j < n → (k_com n e n I J).2 36 j = oI (sm m (fun i => tv T L v i * T i (e + j)))) ∨ ((k_com n e n I J).1 = 0 ∧ ¬ In a s e n)) := by
  have ft := hF.fits hn (v := v) (fun i _ => hS (L i)) hS2
  have hm := hlb.1
  have := k_com_sh (n := n) (e := e) (K := n) (m := m) (w := e + n) (I := I) (J := J) (T := T) (F := fun r j => T r (e + j)) (v := v) (L := L) hn hF.1 (by omega) hlb (fun r x hr hx => hsh r x (by omega) (by omega)) (fun r j hr hj => by rw [Nat.add_assoc]; exact hsh r (e + j) (by omega) (by omega)) hld (fun r hr => (ft r (by omega)).2.2) (fun c hc => by
    have := rv_abs hF.1 hn v (fun i _ => hS (L i)) (fun l hl => hF.2.2.2.1 l c hl (by omega)) m hm
    have := hS c
    unfold fit
    omega) h35
  rw [rv_in hF hn hv] at this
  exact this
theorem Ech.tail {T : Nat → Nat → Int} {L : Nat → Nat} {n w m : Nat} (h : Ech T L n w) (hm : m ≤ n) : Ech (fun i => T (m + i)) (fun i => L (m + i)) (n - m) w :=
  ⟨fun i hi => h.1 (m + i) (by omega), fun i j hij hj => h.2.1 (m + i) (m + j) (by omega) (by omega), fun i j hij hj => h.2.2 (m + i) (m + j) (by omega) (by omega)⟩
/-- found, reduced by the basis -/
theorem k_sol_sh {n e m K w : Nat} {I : fl_TI} {R : Nat → Int64} {T : Nat → Nat → Int} {v : Nat → Int} {L : Nat → Nat} (h1 : ∀ r j, m ≤ r → r < K → j < n → R (8 * r + e + j) = oI (T r (e + j))) (h3 : ∀ r, r < K - m → ldI I 34 (m + r) = L (m + r) ∧ e ≤ L (m + r) ∧ L (m + r) < e + n ∧ 0 < T (m + r) (L (m + r)) ∧ fit (T (m + r) (L (m + r))) ∧ fit (rv (fun i => T (m + i)) (fun i => L (m + i)) v r (L (m + r)))) :
    ∀ (q r : Nat) (J : fl_TJ), r + q = K - m → J 33 = R → (∀ j, j < n → J 36 j = oI (rv (fun i => T (m + i)) (fun i => L (m + i)) v r (e + j))) → ∀ j, j < n → fl_it (k_slr n e I) q (m + r) J 36 j = oI (rv (fun i => T (m + i)) (fun i => L (m + i)) v (K - m) (e + j)) := by
  intro q
  induction q with
  | zero =>
    intro r J hr _ e2
    have : r = K - m := by omega
    subst this
    exact e2
  | succ q ih =>
    intro r J hr e1 e2
    obtain ⟨l1, l2, l3, l4, l5, l6⟩ := h3 r (by omega)
    have d1 : k_slr n e I (m + r) J = k_sl1 n e (m + r) (oI ((rv (fun i => T (m + i)) (fun i => L (m + i)) v r (L (m + r))).fdiv (T (m + r) (L (m + r))))) J := by
      unfold k_slr
      rw [l1, e2 (L (m + r) - e) (by omega), show e + (L (m + r) - e) = L (m + r) from by omega, e1, show 8 * (m + r) + L (m + r) = 8 * (m + r) + e + (L (m + r) - e) from by omega, h1 (m + r) (L (m + r) - e) (by omega) (by omega) (by omega), show e + (L (m + r) - e) = L (m + r) from by omega, dn64_oI l6 l5 l4]
    show ∀ j, j < n → fl_it (k_slr n e I) q (m + r + 1) (k_slr n e I (m + r) J) 36 j = _
    rw [d1, show m + r + 1 = m + (r + 1) from by omega]
    refine ih (r + 1) _ (by omega) (by rw [← e1]; funext x; rw [k_sl1_at, if_neg (by omega)]) (fun j hj => ?_)
    rw [k_sl1_at, if_pos ⟨rfl, hj⟩, e2 j hj, e1, h1 (m + r) j (by omega) (by omega) hj, oI_mul, oI_sub]
    rfl
theorem k_sol_in {a : Nat → Nat → Int} {n e m : Nat} {I : fl_TI} {J : fl_TJ} {T : Nat → Nat → Int} {s v : Nat → Int} {L : Nat → Nat} (hn : n ≤ 4) (he : e ≤ 3) (hF : Fm a e n T L) (hlb : Lb L e n m) (hsh : shM n (e + n) J T) (hld : ∀ r, r < n → ldI I 34 r = L r) (hv : ∀ c, c < e → v c = s c) (hS : ∀ x, (v x).natAbs ≤ 1000) (hin : In a s e n) (h36 : ∀ j, j < n → J 36 j = oI (sm m (fun i => tv T L v i * T i (e + j)))) :
    ∃ u, Sol a s e n T L u ∧ ∀ j, j < n → k_sol n e n I J 36 j = oI (u j) := by
  have hm := hlb.1
  have hE := hF.1.tail hm
  have hv2 : ∀ x, e ≤ x → ((fun x => if x < e then (0 : Int) else sm m (fun i => tv T L v i * T i x)) x).natAbs ≤ 4203239040 := fun x hx => by
    show (if x < e then (0 : Int) else _).natAbs ≤ _
    rw [if_neg (by omega)]
    have := tv_bound hF.1 hn (v := v) (fun i _ => hS (L i)) hm (fun l hl => hF.2.2.2.2 l x hl hx)
    omega
  have hle : ∀ i, i < n - m → e ≤ L (m + i) := fun i hi => by have := hlb.2 (m + i) (by omega); omega
  generalize hg : (fun x => if x < e then (0 : Int) else sm m (fun i => tv T L v i * T i x)) = v2 at *
  have g2 : ∀ x, e ≤ x → v2 x = sm m (fun i => tv T L v i * T i x) := fun x hx => by rw [← hg]; show (if x < e then (0 : Int) else _) = _; rw [if_neg (by omega)]
  refine ⟨fun j => rv (fun i => T (m + i)) (fun i => L (m + i)) v2 (n - m) (e + j), ⟨fun c hc => ?_, fun i hi hL => ?_⟩, ?_⟩
  · have e1 : dot a c n (fun j => rv (fun i => T (m + i)) (fun i => L (m + i)) v2 (n - m) (e + j)) = dot a c n (fun j => sm m (fun i => tv T L v i * T i (e + j)) - sm (n - m) (fun i => tv (fun i => T (m + i)) (fun i => L (m + i)) v2 i * T (m + i) (e + j))) := dot_congr (fun j hj => by
      rw [rv_tv hE v2 (Nat.le_refl _), g2 _ (by omega)])
    rw [e1, dot_sub (u := fun j => sm m (fun i => tv T L v i * T i (e + j))) (v := fun j => sm (n - m) (fun i => tv (fun i => T (m + i)) (fun i => L (m + i)) v2 i * T (m + i) (e + j))), dot_lin (F := fun i j => T i (e + j)), dot_lin (F := fun i j => T (m + i) (e + j))]
    rw [sm_zero (n := n - m) (fun i hi => by
      show tv _ _ v2 i * dot a c n (fun j => T (m + i) (e + j)) = 0
      rw [← hF.lin hn (by omega) hc, (hF.1.1 (m + i) (by omega)).2.2 c (by have := hle i hi; omega)]
      omega)]
    rw [sm_congr (n := m) (g := fun i => tv T L v i * T i c) (fun i hi => by
      show tv T L v i * dot a c n (fun j => T i (e + j)) = tv T L v i * T i c
      rw [← hF.lin hn (by omega) hc])]
    have z := (rv_in hF hn hv).mpr hin c hc
    have z2 := rv_tv hF.1 v (Nat.le_refl n) c
    have z3 : sm n (fun i => tv T L v i * T i c) = sm m (fun i => tv T L v i * T i c) := by
      have : ∀ k, m ≤ k → k ≤ n → sm k (fun i => tv T L v i * T i c) = sm m (fun i => tv T L v i * T i c) := by
        intro k
        induction k with
        | zero => intro h _; have : m = 0 := by omega
                  rw [this]
        | succ k ih =>
          intro h hk
          by_cases q : m = k + 1
          · rw [q]
          · show sm k _ + tv T L v k * T k c = _
            have := hle (k - m) (by omega)
            rw [show m + (k - m) = k from by omega] at this
            rw [ih (by omega) (by omega), (hF.1.1 k (by omega)).2.2 c (by omega)]
            omega
      exact this n hm (Nat.le_refl _)
    have z4 := hv c hc
    omega
  · have him : m ≤ i := by have := hlb.2 i hi; omega
    obtain ⟨i', rfl⟩ : ∃ i', i = m + i' := ⟨i - m, by omega⟩
    show 0 ≤ rv _ _ v2 (n - m) (e + (L (m + i') - e)) ∧ rv _ _ v2 (n - m) (e + (L (m + i') - e)) < _
    rw [show e + (L (m + i') - e) = L (m + i') from by omega]
    exact (rv_spec hE v2 (n - m) (Nat.le_refl _)).2 i' (by omega)
  · have eb : k_bef I e n 0 = m := k_bef_lb hld hlb
    unfold k_sol
    rw [eb]
    refine k_sol_sh (K := n) (w := e + n) (R := J 33) (fun r j h1 h2 hj => by rw [Nat.add_assoc]; exact hsh r (e + j) h2 (by omega)) (fun r hr => ?_) (n - m) 0 J (by omega) rfl (fun j hj => by rw [h36 j hj, ← g2 (e + j) (by omega)]; rfl)
    obtain ⟨p1, p2, -⟩ := hF.1.1 (m + r) (by omega)
    have b := hF.2.2.2.2 (m + r) (L (m + r)) (by omega) (hle r hr)
    have q := rv_abs hE (by omega) v2 (S := 4203239040) (fun i hi => hv2 _ (hle i hi)) (B := 279936) (x := L (m + r)) (fun l hl => hF.2.2.2.2 (m + l) (L (m + r)) (by omega) (hle r hr)) r (by omega)
    have := hv2 (L (m + r)) (hle r hr)
    exact ⟨hld _ (by omega), hle r hr, p1, p2, by unfold fit; omega, by unfold fit; omega⟩
/-- goes -/
theorem k_goes_in {fu n e m : Nat} {I Ir : fl_TI} {J Jr : fl_TJ} {T : Nat → Nat → Int} {L : Nat → Nat} (hn : n ≤ 4) (he : e ≤ 3) (hR : k_R fu n e I J Ir Jr n) (hF : Fm (aM I) e n T L) (hsh : shM n (e + n) Jr T) (hld : ∀ r, r < n → ldI Ir 34 r = L r) (hlb : Lb L e n m) (hs : ∀ c, c < e → (sM I c).natAbs ≤ 1000) :
    shM n (e + n) (k_goes n e n Ir Jr).2 T ∧ (((k_goes n e n Ir Jr).1 = 1 ∧ In (aM I) (sM I) e n ∧ ∃ u, Sol (aM I) (sM I) e n T L u ∧ ∀ j, j < n → k_sol n e n Ir (k_goes n e n Ir Jr).2 36 j = oI (u j)) ∨ ((k_goes n e n Ir Jr).1 = 0 ∧ ¬ In (aM I) (sM I) e n)) := by
  have kp := k_R_keep (by omega) hR
  have hv : ∀ c, c < e → vW (sM I) e c = sM I c := fun c hc => if_pos hc
  have hw : ∀ p x, p ≠ 35 → k_want e Ir Jr p x = Jr p x := fun p x h => by rw [k_want_at, if_neg (fun q => h q.1)]
  have hsh2 : shM n (e + n) (k_want e Ir Jr) T := fun i x hi hx => by rw [hw _ _ (by decide)]; exact hsh i x hi hx
  obtain ⟨c1, c2⟩ := k_com_in (a := aM I) (s := sM I) (v := vW (sM I) e) (S := 1000) (J := k_want e Ir Jr) hn he hF hlb hsh2 hld hv (fun x => vW_abs hs x) (by decide) (fun c hc => by
    rw [k_want_at, if_pos ⟨rfl, hc⟩, hv c hc, kp.2.2.2 c, i64_of]; rfl)
  have hsh3 : shM n (e + n) (k_goes n e n Ir Jr).2 T := fun i x hi hx => by
    unfold k_goes
    rw [c1 _ _ (by decide) (by decide)]; exact hsh2 i x hi hx
  refine ⟨hsh3, ?_⟩
  rcases c2 with ⟨d1, d2, d3⟩ | ⟨d1, d2⟩
  · exact .inl ⟨d1, d2, k_sol_in hn he hF hlb hsh3 hld hv (fun x => vW_abs hs x) d2 d3⟩
  · exact .inr ⟨d1, d2⟩
/-- fails -/
noncomputable def gIn (a : Nat → Nat → Int) (s : Nat → Int) (n e : Nat) : Nat := @ite _ (In a s e n) (Classical.propDecidable _) 1 0
theorem gIn_1 {a : Nat → Nat → Int} {s : Nat → Int} {n e : Nat} (h : In a s e n) : gIn a s n e = 1 := by unfold gIn; rw [if_pos h]
theorem gIn_0 {a : Nat → Nat → Int} {s : Nat → Int} {n e : Nat} (h : ¬ In a s e n) : gIn a s n e = 0 := by unfold gIn; rw [if_neg h]
theorem k_fst_fl {a : Nat → Nat → Int} {s : Nat → Int} {e n : Nat} : ∀ k i, i + k = e + 1 → 1 ≤ i → In a s (i - 1) n → Fl a s e n (k_fst (gIn a s n) k i) := by
  intro k
  induction k with
  | zero => intro i hi h1 h; exact .inl ⟨rfl, by rw [show e = i - 1 from by omega]; exact h⟩
  | succ k ih =>
    intro i hi h1 h
    by_cases z : In a s i n
    · have e1 : k_fst (gIn a s n) (k + 1) i = k_fst (gIn a s n) k (i + 1) := if_neg (by rw [gIn_1 z]; decide)
      rw [e1]
      exact ih (i + 1) (by omega) (by omega) z
    · have e1 : k_fst (gIn a s n) (k + 1) i = nI (i - 1) := if_pos (gIn_0 z)
      exact .inr ⟨i - 1, by omega, e1, h, by rw [show i - 1 + 1 = i from by omega]; exact z⟩
theorem k_fails_fl {a : Nat → Nat → Int} {s : Nat → Int} {e n : Nat} : Fl a s e n (k_fst (gIn a s n) e 1) := k_fst_fl e 1 (by omega) (by omega) In.zero
theorem aM_keep {I I' : fl_TI} {J J' : fl_TJ} (h : k_keep I J I' J') : aM I' = aM I ∧ sM I' = sM I := ⟨by funext x i; unfold aM; rw [h.2.2.1], by funext x; unfold sM; rw [h.2.2.2]⟩
theorem k_fails_G {fu n eq : Nat} {I : fl_TI} {J : fl_TJ} (hn1 : 1 ≤ n) (hn : n ≤ 4) (he : eq ≤ 3) (ha : sml (aM I) eq n) (hs : ∀ c, c < eq → (sM I c).natAbs ≤ 1000) (hf : 9223372036854775808 ≤ fu) : ∀ (ea : Nat) (I2 : fl_TI) (J2 : fl_TJ), 1 ≤ ea → ea ≤ eq → k_keep I J I2 J2 → ∃ tp Ir Jr, k_R fu n ea I2 J2 Ir Jr tp ∧ (k_goes n ea tp Ir Jr).1 = gIn (aM I) (sM I) n ea := by
  intro ea I2 J2 h1 h2 hk
  obtain ⟨k1, k2⟩ := aM_keep hk
  have ha2 : sml (aM I2) ea n := fun x i hx hi => by rw [k1]; exact ha x i (by omega) hi
  obtain ⟨Ir, Jr, T, L, r1, r2, r3, r4, r5⟩ := k_rel_form (J := J2) hn1 hn (show ea ≤ 3 by omega) ha2 hf
  obtain ⟨m, hlb⟩ := lb_ex (L := L) (e := ea) n r2.1.2.1
  refine ⟨n, Ir, Jr, r1, ?_⟩
  rcases (k_goes_in hn (by omega) r1 r2 r3 r5 hlb (fun c hc => by rw [k2]; exact hs c (by omega))).2 with ⟨d1, d2, -⟩ | ⟨d1, d2⟩
  · rw [d1, gIn_1 (by rw [← k1, ← k2]; exact d2)]
  · rw [d1, gIn_0 (by rw [← k1, ← k2]; exact d2)]
/-- reached -/
def vX (x0 x1 x2 : Int32) : Nat → Int := fun c => if c = 0 then x0.toInt else if c = 1 then x1.toInt else if c = 2 then x2.toInt else 0
theorem vX_abs (x0 x1 x2 : Int32) (c : Nat) : (vX x0 x1 x2 c).natAbs ≤ 2147483648 := by
  have h : ∀ x : Int32, x.toInt.natAbs ≤ 2147483648 := fun x => by
    have := x.le_toInt
    have := x.toInt_lt
    omega
  unfold vX
  split
  · exact h _
  · split
    · exact h _
    · split
      · exact h _
      · exact Nat.zero_le _
theorem k_rch_in {a : Nat → Nat → Int} {n e m : Nat} {Ir : fl_TI} {Jr : fl_TJ} {T : Nat → Nat → Int} {L : Nat → Nat} {x0 x1 x2 : Int32} (hn : n ≤ 4) (he : e ≤ 3) (hF : Fm a e n T L) (hsh : shM n (e + n) Jr T) (hld : ∀ r, r < n → ldI Ir 34 r = L r) (hlb : Lb L e n m) :
    (∀ p x, p ≠ 35 → p ≠ 36 → (k_rch n e n x0 x1 x2 Ir Jr).2 p x = Jr p x) ∧ (((k_rch n e n x0 x1 x2 Ir Jr).1 = 1 ∧ In a (vX x0 x1 x2) e n) ∨ ((k_rch n e n x0 x1 x2 Ir Jr).1 = 0 ∧ ¬ In a (vX x0 x1 x2) e n)) := by
  have hw : ∀ p x, p ≠ 35 → (fl_up (fl_up (fl_up Jr 35 0 (x0.toInt64)) 35 1 (x1.toInt64)) 35 2 (x2.toInt64)) p x = Jr p x := fun p x h => by rw [fl_up_k h, fl_up_k h, fl_up_k h]
  obtain ⟨c1, c2⟩ := k_com_in (a := a) (s := vX x0 x1 x2) (v := vX x0 x1 x2) (S := 2147483648) (J := fl_up (fl_up (fl_up Jr 35 0 (x0.toInt64)) 35 1 (x1.toInt64)) 35 2 (x2.toInt64)) hn he hF hlb (fun i x hi hx => by rw [hw _ _ (by decide)]; exact hsh i x hi hx) hld (fun c _ => rfl) (vX_abs x0 x1 x2) (by decide) (fun c hc => by
    have : c = 0 ∨ c = 1 ∨ c = 2 := by omega
    rcases this with rfl | rfl | rfl
    · rw [fl_up_j (by decide), fl_up_j (by decide), fl_up_s, i64_of]; rfl
    · rw [fl_up_j (by decide), fl_up_s, i64_of]; rfl
    · rw [fl_up_s, i64_of]; rfl)
  refine ⟨fun p x g1 g2 => (c1 p x g1 g2).trans (hw p x g1), ?_⟩
  rcases c2 with ⟨d1, d2, -⟩ | d
  · exact .inl ⟨d1, d2⟩
  · exact .inr d
