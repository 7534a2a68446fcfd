/-! what the class holds -/
def aC (I : fl_TI) : Nat → Nat → Int := fun x i => (I (2 + x) i).toInt
def sC (I : fl_TI) : Nat → Int := fun c => (I 5 c).toInt
def aM (I : fl_TI) : Nat → Nat → Int := fun x i => (I 31 (4 * x + i)).toInt
def sM (I : fl_TI) : Nat → Int := fun c => (I 32 c).toInt
theorem neg_toInt {x : Int32} (h : x.toInt.natAbs ≤ 1000) : (-x).toInt = -(x.toInt) := by
  rw [Int32.toInt_neg]
  exact Int.bmod_eq_of_le (by omega) (by omega)
theorem j_negs_at (e : Nat) (I : fl_TI) (J : fl_TJ) (p x : Nat) : j_negs e I J p x = if p = 22 ∧ x < e then (-(I 5 x)).toInt64 else J p x := by
  unfold j_negs
  rw [fl_it_col _ (fun i J p => if p = 22 then (-(I 5 i)).toInt64 else J p i) (fun i J p => ?_) (fun i J p b h => fl_up_j h) (fun i J J' h p => ?_)]
  · by_cases h1 : p = 22 <;> by_cases h2 : x < e <;> simp [h1, h2]
  · by_cases h : p = 22
    · subst h; show fl_up J _ i _ _ i = _; rw [fl_up_s, if_pos rfl]
    · show fl_up J _ i _ p i = _; rw [fl_up_k h, if_neg h]
  · show (if p = 22 then _ else J p i) = (if p = 22 then _ else J' p i)
    rw [h p]
theorem Fm.fits {a : Nat → Nat → Int} {e n : Nat} {T : Nat → Nat → Int} {L : Nat → Nat} (h : Fm a e n T L) (hn : n ≤ 4) {v : Nat → Int} {S : Nat} (hS : ∀ i, i < n → (v (L i)).natAbs ≤ S) (hS2 : S ≤ 2147483648) : ∀ i, i < n → L i < e + n ∧ T i (L i) ≠ 0 ∧ fit (T i (L i)) ∧ fit (rv T L v i (L i)) := by
  intro i hi
  obtain ⟨p1, p2, -⟩ := h.1.1 i hi
  have b := h.2.2.2.1 i (L i) hi p1
  have r := rv_abs h.1 hn v hS (fun l hl => h.2.2.2.1 l (L i) hl p1) i (by omega)
  have := hS i hi
  have : 15 * ((S + 1) * 10077696) = (S + 1) * 151165440 := by omega
  exact ⟨p1, by omega, by unfold fit; omega, by unfold fit; omega⟩
theorem settle_cs {n e : Nat} {I : fl_TI} {J : fl_TJ} {T : Nat → Nat → Int} {L : Nat → Nat} (hn : n ≤ 4) (he : e ≤ 3) (hF : Fm (aC I) e n T L) (hsh : shC 6 n (e + n) J T) (hld : ∀ i, i < n → I 12 i = nI (L i)) (hs : ∀ c, c < e → (sC I c).natAbs ≤ 1000) :
    (∀ p x, p ≠ 22 → j_settle e n n I J p x = J p x) ∧ Fl (aC I) (sC I) e n (x_first 22 (j_settle e n n I J) e 0) ∧ ∃ u : Nat → Int, (In (aC I) (sC I) e n → Sol (aC I) (sC I) e n T L u) ∧ ∀ j, j < n → j_settle e n n I J 22 (e + j) = oI (u j) ∧ (u j).natAbs ≤ 4203239040 := by
  have hL : ∀ i, i < n → ldI I 12 i = L i := fun i hi => ldI_of (hld i hi) (by have := (hF.1.1 i hi).1; omega)
  have hS : ∀ i, i < n → (vS (sC I) e (L i)).natAbs ≤ 1000 := fun i _ => vS_abs hs _
  have ft := hF.fits hn hS (by decide)
  have h0 : ∀ x, x < e + n → j_negs e I (j_fill 22 J) 22 x = oI (rv T L (vS (sC I) e) 0 x) := fun x hx => by
    rw [j_negs_at]
    show _ = oI (vS (sC I) e x)
    unfold vS
    by_cases h : x < e
    · rw [if_pos ⟨rfl, h⟩, if_pos h, i64_of, neg_toInt (hs x h)]; rfl
    · rw [if_neg (fun q => h q.2), if_neg h, j_fill_at, if_pos ⟨rfl, by show x < 7; omega⟩]; rfl
  have hp : ∀ p x, p ≠ 22 → j_negs e I (j_fill 22 J) p x = J p x := fun p x h => by
    rw [j_negs_at, if_neg (fun q => h q.1), j_fill_at, if_neg (fun q => h q.1)]
  obtain ⟨r1, r2⟩ := j_reduce_sh (o := 6) (q := 22) (w := e + n) (h := n) (ld := ldI I 12) (L := L) (T := T) (v := vS (sC I) e) (Nat.le_refl n) (by omega) (fun i hi => ⟨hL i hi, ft i hi⟩) n 0 _ (by omega) (fun i x hi hx => by rw [hp _ _ (by omega)]; exact hsh i x hi hx) h0
  refine ⟨fun p x h => ?_, ?_, fun j => rv T L (vS (sC I) e) n (e + j), fun h => settle_sol hF hn h, fun j hj => ⟨r1 _ (by omega), ?_⟩⟩
  · have := r2 p x (.inl h)
    rw [hp p x h] at this
    exact this
  · have hr : ∀ c, c < e → j_settle e n n I J 22 c = oI (rv T L (vS (sC I) e) n c) ∧ fit (rv T L (vS (sC I) e) n c) := fun c hc => ⟨r1 c (by omega), by
      have := rv_abs hF.1 hn (vS (sC I) e) hS (fun l hl => hF.2.2.2.1 l c hl (by omega)) n (Nat.le_refl _)
      have := vS_abs hs c
      unfold fit
      omega⟩
    rcases x_first_none hr e 0 (by omega) (fun c hc => by omega) with ⟨h1, h2⟩ | ⟨c, h1, h2, h3, h4⟩
    · exact .inl ⟨h1, (settle_in hF hn (Nat.le_refl _)).mp h2⟩
    · refine .inr ⟨c, h1, h2, (settle_in hF hn (by omega)).mp h3, fun q => ?_⟩
      exact h4 ((settle_in hF hn (by omega)).mpr q c (by omega))
  · have := rv_abs hF.1 hn (vS (sC I) e) hS (fun l hl => hF.2.2.2.2 l (e + j) hl (by omega)) n (Nat.le_refl _)
    have e0 : vS (sC I) e (e + j) = 0 := if_neg (by omega)
    rw [e0] at this
    exact this
/-- the number of leads before e -/
def Lb (L : Nat → Nat) (e n rr : Nat) : Prop := rr ≤ n ∧ ∀ i, i < n → (i < rr ↔ L i < e)
theorem Lb.unique {L : Nat → Nat} {e n r r' : Nat} (h : Lb L e n r) (h' : Lb L e n r') : r = r' := by
  rcases Nat.lt_trichotomy r r' with z | z | z
  · have := h.2 r (by have := h'.1; omega)
    have := h'.2 r (by have := h'.1; omega)
    omega
  · exact z
  · have := h.2 r' (by have := h.1; omega)
    have := h'.2 r' (by have := h.1; omega)
    omega
theorem lb_ex {L : Nat → Nat} {e : Nat} : ∀ n, (∀ i j, i < j → j < n → L i < L j) → ∃ rr, Lb L e n rr := by
  intro n
  induction n with
  | zero => intro _; exact ⟨0, Nat.le_refl _, fun i hi => by omega⟩
  | succ n ih =>
    intro hL
    obtain ⟨r, h1, h2⟩ := ih (fun i j h k => hL i j h (by omega))
    by_cases z : L n < e
    · have : r = n := by
        rcases Nat.lt_or_ge r n with q | q
        · have := hL r n q (by omega)
          have := h2 r q
          omega
        · omega
      subst this
      exact ⟨r + 1, Nat.le_refl _, fun i hi => by
        by_cases q : i = r
        · rw [q]; omega
        · have := h2 i (by omega); omega⟩
    · exact ⟨r, by omega, fun i hi => by
        by_cases q : i = n
        · rw [q]; omega
        · exact h2 i (by omega)⟩
theorem nI_le2 {a b : Nat} (ha : a < 64) (hb : b < 64) : nI a ≤ nI b ↔ a ≤ b := by
  rw [Int32.le_iff_toInt_le, nI_toInt (by omega), nI_toInt (by omega)]
  omega
theorem n_bef_lb {I : fl_TI} {q e n rr : Nat} {L : Nat → Nat} (hI : ∀ i, i < n → I q i = nI (L i) ∧ L i < 64) (he : e < 64) (h : Lb L e n rr) : n_bef I q (nI e) n = rr := by
  have gen : ∀ k i, i + k = n → fl_it (i_bef I q (nI e)) k i (if i ≤ rr then i else rr) = rr := by
    intro k
    induction k with
    | zero =>
      intro i hi
      show (if i ≤ rr then i else rr) = rr
      have := h.1
      split <;> omega
    | succ k ih =>
      intro i hi
      show fl_it _ k (i + 1) (i_bef I q (nI e) i (if i ≤ rr then i else rr)) = rr
      have e1 : i_bef I q (nI e) i (if i ≤ rr then i else rr) = if i + 1 ≤ rr then i + 1 else rr := by
        unfold i_bef
        obtain ⟨h1, h2⟩ := hI i (by omega)
        have h3 := h.2 i (by omega)
        rw [h1]
        by_cases z : e ≤ L i
        · rw [if_pos ((nI_le2 he h2).mpr z)]
          split <;> split <;> omega
        · rw [if_neg (fun q => z ((nI_le2 he h2).mp q))]
          split <;> split <;> omega
      rw [e1]
      exact ih (i + 1) (by omega)
  have := gen n 0 (by omega)
  rw [if_pos (Nat.zero_le _)] at this
  exact this
theorem k_bef_lb {I : fl_TI} {e n rr : Nat} {L : Nat → Nat} (hI : ∀ i, i < n → ldI I 34 i = L i) (h : Lb L e n rr) : k_bef I e n 0 = rr := by
  have gen : ∀ k i, i + k = n → i ≤ rr → k_bef I e k i = rr := by
    intro k
    induction k with
    | zero => intro i hi hr; have := h.1; show i = rr; omega
    | succ k ih =>
      intro i hi hr
      have h3 := h.2 i (by omega)
      have h1 := hI i (by omega)
      show (if e ≤ ldI I 34 i then i else k_bef I e k (i + 1)) = rr
      by_cases z : e ≤ L i
      · rw [if_pos (by omega)]; omega
      · rw [if_neg (by omega)]; exact ih (i + 1) (by omega) (by omega)
  exact gen n 0 (by omega) (Nat.zero_le _)
/-- the class's state -/
def CS (I : fl_TI) (J : fl_TJ) (n e rr : Nat) (T : Nat → Nat → Int) (L : Nat → Nat) (u : Nat → Int) : Prop :=
  x_ok I n e rr n ∧ sml (aC I) e n ∧ (∀ c, c < e → (sC I c).natAbs ≤ 1000) ∧ Fm (aC I) e n T L ∧ shC 6 n (e + n) J T ∧ (∀ i, i < n → I 12 i = nI (L i)) ∧ Lb L e n rr ∧ Fl (aC I) (sC I) e n (I 0 8) ∧ (In (aC I) (sC I) e n → Sol (aC I) (sC I) e n T L u) ∧ ∀ j, j < n → J 22 (e + j) = oI (u j) ∧ (u j).natAbs ≤ 4203239040
theorem rm_congr {a a' : Nat → Nat → Int} {e n : Nat} (h : ∀ c j, c < e → j < n → a c j = a' c j) : rm a e n = rm a' e n := by
  funext i x
  unfold rm
  by_cases h1 : x < e
  · rw [if_pos h1, if_pos h1]
    by_cases h2 : i < n
    · rw [if_pos h2, if_pos h2]; exact h x i h1 h2
    · rw [if_neg h2, if_neg h2]
  · rw [if_neg h1, if_neg h1]
theorem Fm.congr {a a' : Nat → Nat → Int} {e n : Nat} {T : Nat → Nat → Int} {L : Nat → Nat} (h : ∀ c j, c < e → j < n → a c j = a' c j) (hF : Fm a e n T L) : Fm a' e n T L := by
  unfold Fm at *
  rw [← rm_congr h]
  exact hF
theorem CS.congr {I I' : fl_TI} {J J' : fl_TJ} {n e rr : Nat} {T : Nat → Nat → Int} {L : Nat → Nat} {u : Nat → Int} (h : CS I J n e rr T L u) (hI : ∀ p x, (p ≤ 6 ∨ p = 12) → I' p x = I p x) (hJ : ∀ p x, (8 ≤ p ∧ p < 12 ∨ p = 22) → J' p x = J p x) : CS I' J' n e rr T L u := by
  obtain ⟨h1, h2, h3, h4, h5, h6, h7, h8, h9, h10⟩ := h
  have ea : ∀ c, c < e → ∀ j, aC I' c j = aC I c j := fun c hc j => by unfold aC; rw [hI _ _ (.inl (by have := h1.2.2.2.1; omega))]
  have es : sC I' = sC I := by funext c; unfold sC; rw [hI _ _ (.inl (by omega))]
  have ec : ∀ c j, c < e → j < n → aC I c j = aC I' c j := fun c j hc _ => (ea c hc j).symm
  have ei : In (aC I) (sC I) e n ↔ In (aC I') (sC I') e n := ⟨In.congr ec (fun c _ => by rw [es]), In.congr (fun c j hc hj => (ec c j hc hj).symm) (fun c _ => by rw [es])⟩
  have eq : ∀ q, q ≤ e → (In (aC I) (sC I) q n ↔ In (aC I') (sC I') q n) := fun q hq => ⟨In.congr (fun c j hc hj => ec c j (by omega) hj) (fun c _ => by rw [es]), In.congr (fun c j hc hj => (ec c j (by omega) hj).symm) (fun c _ => by rw [es])⟩
  have ok : x_ok I' n e rr n := by
    obtain ⟨k1, k2, k3, k4, k5, k6, k7, k8, k9, k10, k11⟩ := h1
    refine ⟨by rw [hI _ _ (.inl (by decide))]; exact k1, k2, by rw [hI _ _ (.inl (by decide))]; exact k3, k4, by rw [hI _ _ (.inl (by decide))]; exact k5, k6, by rw [hI _ _ (.inl (by decide))]; exact k7, by rw [hI _ _ (.inl (by decide))]; exact k8, by rw [hI _ _ (.inl (by decide))]; exact k9, k10, fun i hi => ?_⟩
    unfold ldI
    rw [hI 12 i (.inr rfl)]
    exact k11 i hi
  refine ⟨ok, fun x i hx hi => by rw [ea x hx i]; exact h2 x i hx hi, fun c hc => by rw [es]; exact h3 c hc, h4.congr ec, fun i x hi hx => ?_, fun i hi => by rw [hI _ _ (.inr rfl)]; exact h6 i hi, h7, ?_, fun z => ?_, fun j hj => by rw [hJ _ _ (.inr rfl)]; exact h10 j hj⟩
  · rw [hJ _ _ (.inl (by have := h1.2.1; omega))]; exact h5 i x hi hx
  · rw [hI _ _ (.inl (by decide))]
    rcases h8 with ⟨p1, p2⟩ | ⟨q, p1, p2, p3, p4⟩
    · exact .inl ⟨p1, ei.mp p2⟩
    · exact .inr ⟨q, p1, p2, (eq q (by omega)).mp p3, fun z => p4 ((eq (q + 1) (by omega)).mpr z)⟩
  · obtain ⟨s1, s2⟩ := h9 (ei.mpr z)
    exact ⟨fun c hc => by rw [es, s1 c hc]; exact sm_congr (fun j hj => by show aC I c j * u j = aC I' c j * u j; rw [ea c hc j]), s2⟩
/-- formWhole makes the state -/
theorem form_cs {n e : Nat} {I : fl_TI} {J : fl_TJ} (hn : I 0 2 = nI n) (hn1 : 1 ≤ n ∧ n ≤ 4) (he : I 0 3 = nI e) (he3 : e ≤ 3) (ha : sml (aC I) e n) (hs : ∀ c, c < e → (sC I c).natAbs ≤ 1000) :
    (∃ rr T L u, CS (x_formI n e I J) (x_formJ n e I J) n e rr T L u) ∧ (∀ a b, a ≠ 0 → a ≠ 6 → a ≠ 12 → x_formI n e I J a b = I a b) ∧ ∀ a b, 12 ≤ a → a ≠ 22 → x_formJ n e I J a b = J a b := by
  obtain ⟨ok, keep⟩ := x_form_ok (J := J) hn hn1 he he3
  obtain ⟨T, L, hF, hr, hsh, hl⟩ := x_b_form (J := J) hn1.1 hn1.2 he3 ha
  rw [hr] at ok
  have kb := fun p x => b_form_keep (o := 6) (nr := 4) (n := n) (w := e + n) (p := p) (y := x)
  have gI := b_form_I 6 4 n (e + n) (by omega) (e + n) 0 0 (x_i0 n e I) (j_puts n e (x_i0 n e I) (j_clear 6 n J)) (Nat.zero_add _) (by unfold x_i0 i_clear; rw [fl_up_s]) (Nat.zero_le _) (fun i hi => absurd hi (Nat.not_lt_zero _))
  have lI : ∀ i, i < n → (x_b n e I J).2.1 12 i = nI (L i) ∧ L i < 64 := fun i hi => ⟨hl i hi, by have := (hF.1.1 i hi).1; omega⟩
  obtain ⟨rr, hlb⟩ := lb_ex (L := L) (e := e) n hF.1.2.1
  have er := n_bef_lb (q := 6 + 2 + 4) lI (by omega) hlb
  rw [er] at ok
  have e1 : ∀ p x, p ≠ 0 → x_i1 e (x_b n e I J) p x = (x_b n e I J).2.1 p x := fun p x h => by unfold x_i1; exact fl_up_k h
  have e2 : ∀ p x, p ≠ 0 → p ≠ 6 → p ≠ 12 → (x_b n e I J).2.1 p x = I p x := fun p x h1 h2 h3 => by
    unfold x_b
    rw [gI.2.2.2 p x (fun q => h2 q.1) h3]
    unfold x_i0
    exact i_clear_far h2
  have ea : aC (x_i1 e (x_b n e I J)) = fun x i => (x_i1 e (x_b n e I J) (2 + x) i).toInt := rfl
  have ec : ∀ c j, c < e → j < n → aC I c j = aC (x_i1 e (x_b n e I J)) c j := fun c j hc _ => by
    unfold aC; rw [e1 _ _ (by omega), e2 _ _ (by omega) (by omega) (by omega)]
  have es : sC (x_i1 e (x_b n e I J)) = sC I := by funext c; unfold sC; rw [e1 _ _ (by omega), e2 _ _ (by omega) (by omega) (by omega)]
  have hF1 : Fm (aC (x_i1 e (x_b n e I J))) e n T L := Fm.congr ec hF
  obtain ⟨s1, s2, u, s3, s4⟩ := settle_cs (I := x_i1 e (x_b n e I J)) (J := (x_b n e I J).2.2) hn1.2 he3 hF1 hsh (fun i hi => by rw [e1 _ _ (by omega)]; exact hl i hi) (fun c hc => by rw [es]; exact hs c hc)
  have fJ : x_formJ n e I J = j_settle e n n (x_i1 e (x_b n e I J)) (x_b n e I J).2.2 := by unfold x_formJ; rw [hr]
  have fI : x_formI n e I J = fl_up (x_i1 e (x_b n e I J)) 0 8 (x_first 22 (j_settle e n n (x_i1 e (x_b n e I J)) (x_b n e I J).2.2) e 0) := by unfold x_formI i_settle; rw [hr]
  have aI : ∀ p x, p ≠ 0 → x_formI n e I J p x = x_i1 e (x_b n e I J) p x := fun p x h => by rw [fI]; exact fl_up_k h
  have ea2 : aC (x_formI n e I J) = aC (x_i1 e (x_b n e I J)) := by funext c j; unfold aC; rw [aI _ _ (by omega)]
  have es2 : sC (x_formI n e I J) = sC (x_i1 e (x_b n e I J)) := by funext c; unfold sC; rw [aI _ _ (by omega)]
  refine ⟨⟨rr, T, L, u, ok, ?_, ?_, ?_, ?_, ?_, hlb, ?_, ?_, ?_⟩, keep, fun a b h1 h2 => ?_⟩
  · rw [ea2]; exact fun x i hx hi => by rw [← ec x i hx hi]; exact ha x i hx hi
  · rw [es2, es]; exact hs
  · rw [ea2]; exact hF1
  · rw [fJ]; exact fun i x hi hx => by rw [s1 _ _ (by omega)]; exact hsh i x hi hx
  · exact fun i hi => by rw [aI _ _ (by omega), e1 _ _ (by omega)]; exact hl i hi
  · rw [ea2, es2, fI, fl_up_s]; exact s2
  · rw [ea2, es2]; exact s3
  · rw [fJ]; exact s4
  · rw [fJ, s1 _ _ h2]
    unfold x_b
    rw [kb a b (.inr (by omega))]
    show j_puts n e (x_i0 n e I) (j_clear 6 n J) a b = J a b
    unfold j_puts
    rw [j_puts_keep e (x_i0 n e I) n 0 _ b (.inr (by omega))]
    unfold j_clear
    rw [j_clear_at, if_neg (by omega)]
