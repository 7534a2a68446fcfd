/-! modulo -/
theorem sm_drop {e : Nat} {f : Nat → Int} : ∀ h, e ≤ h → (∀ i, e ≤ i → i < h → f i = 0) → sm h f = sm e f := by
  intro h
  induction h with
  | zero => intro h _; have : e = 0 := by omega
            rw [this]
  | succ h ih =>
    intro h1 h2
    by_cases q : e = h + 1
    · rw [q]
    · show sm h f + f h = _
      rw [h2 h (by omega) (by omega), ih (by omega) (fun i g1 g2 => h2 i g1 (by omega))]
      omega
theorem Sp.cut {T : Nat → Nat → Int} {h e w : Nat} {v : Nat → Int} (he : e ≤ h) (hz : ∀ i x, e ≤ i → i < h → x < w → T i x = 0) (hv : Sp T h w v) : Sp T e w v := by
  obtain ⟨c, hc⟩ := hv
  exact ⟨c, fun x hx => by rw [hc x hx]; exact sm_drop h he (fun i g1 g2 => by show c i * T i x = 0; rw [hz i x g1 g2 hx]; omega)⟩
theorem Sp.widen {T : Nat → Nat → Int} {h e w : Nat} {v : Nat → Int} (he : e ≤ h) (hv : Sp T e w v) : Sp T h w v := by
  obtain ⟨c, hc⟩ := hv
  refine ⟨fun i => if i < e then c i else 0, fun x hx => ?_⟩
  rw [hc x hx, sm_drop h he (fun i g1 g2 => by show (if i < e then c i else 0) * T i x = 0; rw [if_neg (by omega)]; omega)]
  exact sm_congr (fun i hi => by show c i * T i x = (if i < e then c i else 0) * T i x; rw [if_pos hi])
/-- THE form of the remainders -/
def MF (a : Nat → Nat → Int) (n m e : Nat) (H : Nat → Nat → Int) : Prop := Ech H (fun i => i) e e ∧ (∀ i, i < e → Sp (mR (fun i x => a x i) n m e) (n + e) e (H i)) ∧ ∀ i, i < n + e → Sp H e e (mR (fun i x => a x i) n m e i)
theorem MF.unique {a : Nat → Nat → Int} {n m e : Nat} {H H' : Nat → Nat → Int} (h : MF a n m e H) (h' : MF a n m e H') : ∀ i x, i < e → x < e → H i x = H' i x := fun i x hi hx =>
  ((ech_unique h.1 h'.1 (fun i hi => Sp.trans h'.2.2 (h.2.1 i hi)) (fun i hi => Sp.trans h.2.2 (h'.2.1 i hi))).2 i hi).2 x hx
theorem MF.small {a : Nat → Nat → Int} {n m e : Nat} {H : Nat → Nat → Int} (h : MF a n m e H) (hm1 : 1 ≤ m) (hm : m ≤ 40) : ∀ i x, i < e → x < e → 0 ≤ H i x ∧ H i x ≤ 40 := by
  have piv : ∀ i, i < e → H i i ≤ 40 := fun i hi => by
    have hs := h.2.2 (n + i) (by omega)
    have ev : ∀ x, mR (fun i x => a x i) n m e (n + i) x = if x = i then (m : Int) else 0 := fun x => by rw [mR_low (by omega) (by omega), show n + i - n = i from by omega]
    obtain ⟨k, k1, k2, k3, k4⟩ := sp_first h.1 hs ⟨i, hi, by rw [ev, if_pos rfl]; omega⟩
    have : k = i := by
      apply Classical.byContradiction
      intro q
      apply k3
      rw [ev, if_neg q]
    rw [this, ev, if_pos rfl] at k4
    have := Int.le_of_dvd (by omega) k4
    omega
  intro i x hi hx
  rcases Nat.lt_trichotomy x i with q | q | q
  · rw [(h.1.1 i hi).2.2 x q]; omega
  · subst q
    have : 0 < H x x := (h.1.1 x hi).2.1
    have := piv x hi
    omega
  · have : 0 ≤ H i x ∧ H i x < H x x := h.1.2.2 i x q hx
    have := piv x hx
    omega
theorem St.form {T : Nat → Nat → Int} {e h : Nat} (s : St T (fun i => i) e e h) : Ech T (fun i => i) e e ∧ ∀ i x, e ≤ i → i < h → x < e → T i x = 0 := ⟨s.ech (Nat.le_refl _), fun i x h1 h2 h3 => s.2.2.2 i h1 h2 x h3⟩
theorem mf_model {a : Nat → Nat → Int} {n m e : Nat} {T : Nat → Nat → Int} (hW : WMd (mR (fun i x => a x i) n m e) n m e e T) : MF a n m e T := by
  obtain ⟨w1, w2, -⟩ := hW
  obtain ⟨s1, s2⟩ := w1.form
  exact ⟨s1, fun i hi => w2.1 i (by omega), fun i hi => Sp.cut (by omega) s2 (w2.2 i hi)⟩
theorem mf_class {a : Nat → Nat → Int} {n m e rr : Nat} {T0 T : Nat → Nat → Int} {L : Nat → Nat} (hn : n ≤ 4) (hF : Fm a e n T0 L) (hlb : Lb L e n rr) (hW : WR (mR T0 rr m e) rr m e e T) : MF a n m e T := by
  obtain ⟨w1, w2, -⟩ := hW
  obtain ⟨s1, s2⟩ := w1.form
  have hrn := hlb.1
  have ha : ∀ i, i < rr + e → Sp (mR (fun i x => a x i) n m e) (n + e) e (mR T0 rr m e i) := fun i hi => by
    rcases Nat.lt_or_ge i rr with q | q
    · refine Sp.widen (e := n) (by omega) ⟨fun j => T0 i (e + j), fun x hx => ?_⟩
      rw [show mR T0 rr m e i x = T0 i x from by unfold mR; rw [if_pos hx, if_pos q], hF.lin hn (by omega) hx]
      refine sm_congr (fun j hj => ?_)
      show a x j * T0 i (e + j) = T0 i (e + j) * mR (fun i x => a x i) n m e j x
      rw [show mR (fun i x => a x i) n m e j x = a x j from by unfold mR; rw [if_pos hx, if_pos hj], Int.mul_comm]
    · refine Sp.congr (Sp.row (H := mR (fun i x => a x i) n m e) (i := n + (i - rr)) (by omega)) (fun x hx => ?_)
      rw [mR_low q hi, mR_low (by omega) (by omega), show n + (i - rr) - n = i - rr from by omega]
  have hb : ∀ j, j < n + e → Sp (mR T0 rr m e) (rr + e) e (mR (fun i x => a x i) n m e j) := fun j hj => by
    rcases Nat.lt_or_ge j n with q | q
    · obtain ⟨d, hd⟩ := hF.2.2.1 j q
      refine Sp.widen (e := rr) (by omega) ⟨d, fun x hx => ?_⟩
      have e1 : mR (fun i x => a x i) n m e j x = rm a e n j x := by
        unfold mR rm
        rw [if_pos hx, if_pos q, if_pos hx, if_pos q]
      rw [e1, hd x (by omega), sm_drop n hrn (fun i g1 g2 => by
        have := hlb.2 i g2
        show d i * T0 i x = 0
        rw [(hF.1.1 i g2).2.2 x (by omega)]; omega)]
      refine sm_congr (fun i hi => ?_)
      show d i * T0 i x = d i * mR T0 rr m e i x
      rw [show mR T0 rr m e i x = T0 i x from by unfold mR; rw [if_pos hx, if_pos hi]]
    · refine Sp.congr (Sp.row (H := mR T0 rr m e) (i := rr + (j - n)) (by omega)) (fun x hx => ?_)
      rw [mR_low q hj, mR_low (by omega) (by omega), show rr + (j - n) - rr = j - n from by omega]
  exact ⟨s1, fun i hi => Sp.trans ha (w2.1 i (by omega)), fun i hi => Sp.cut (by omega) s2 (Sp.trans w2.2 (hb i hi))⟩
/-! the class puts the rows in -/
theorem j_rem1_at (rr b : Nat) (J : fl_TJ) (hrr : rr ≤ 4) : ∀ (p y : Nat), j_rem1 rr b J p y = if 15 ≤ p ∧ p < 15 + rr ∧ y = b then J (p - 7) b else J p y := by
  have gen : ∀ (k i : Nat) (J : fl_TJ) (p y : Nat), i + k ≤ 4 → fl_it (fun i J => fl_up J (13 + 2 + i) b (J (6 + 2 + i) b)) k i J p y = if 15 + i ≤ p ∧ p < 15 + (i + k) ∧ y = b then J (p - 7) b else J p y := by
    intro k
    induction k with
    | zero => intro i J p y _; rw [if_neg (by omega)]; rfl
    | succ k ih =>
      intro i J p y hk
      show fl_it _ k (i + 1) (fl_up J (13 + 2 + i) b (J (6 + 2 + i) b)) p y = _
      rw [ih (i + 1) _ p y (by omega)]
      by_cases h1 : p = 15 + i ∧ y = b
      · obtain ⟨rfl, rfl⟩ := h1
        rw [if_neg (by omega), if_pos (by omega), show 15 + i - 7 = 6 + 2 + i from by omega, show 15 + i = 13 + 2 + i from by omega, fl_up_s]
      · by_cases h2 : 15 + (i + 1) ≤ p ∧ p < 15 + (i + 1 + k) ∧ y = b
        · rw [if_pos h2, if_pos (by omega), fl_up_k (by omega)]
        · rw [if_neg h2, if_neg (by omega)]
          by_cases h3 : p = 13 + 2 + i
          · rw [h3, fl_up_j (by omega)]
          · rw [fl_up_k h3]
  intro p y
  unfold j_rem1
  rw [gen rr 0 J p y (by omega)]
  by_cases h : 15 ≤ p ∧ p < 15 + rr ∧ y = b
  · rw [if_pos h, if_pos (by omega)]
  · rw [if_neg h, if_neg (by omega)]
theorem j_rem_at {e rr m : Nat} (J : fl_TJ) (hrr : rr ≤ 3) (p y : Nat) : j_rem e rr m J p y = if 15 ≤ p ∧ p < 15 + rr ∧ y < e then J (p - 7) y else if y < e ∧ p = 15 + (rr + y) then (nI m).toInt64 else J p y := by
  have gen : ∀ (k i : Nat) (J : fl_TJ), fl_it (fun a J => fl_up (j_rem1 rr a J) (13 + 2 + (rr + a)) a ((nI m).toInt64)) k i J p y = if 15 ≤ p ∧ p < 15 + rr ∧ i ≤ y ∧ y < i + k then J (p - 7) y else if (i ≤ y ∧ y < i + k) ∧ p = 15 + (rr + y) then (nI m).toInt64 else J p y := by
    intro k
    induction k with
    | zero => intro i J; rw [if_neg (by omega), if_neg (by omega)]; rfl
    | succ k ih =>
      intro i J
      have at1 : ∀ p y, fl_up (j_rem1 rr i J) (13 + 2 + (rr + i)) i ((nI m).toInt64) p y = if p = 15 + (rr + i) ∧ y = i then (nI m).toInt64 else if 15 ≤ p ∧ p < 15 + rr ∧ y = i then J (p - 7) i else J p y := fun p y => by
        by_cases h : p = 15 + (rr + i) ∧ y = i
        · obtain ⟨rfl, rfl⟩ := h
          rw [if_pos ⟨rfl, rfl⟩, show 15 + (rr + y) = 13 + 2 + (rr + y) from by omega, fl_up_s]
        · rw [if_neg h]
          by_cases h2 : p = 13 + 2 + (rr + i)
          · rw [h2, fl_up_j (by omega), j_rem1_at rr i J (by omega), if_neg (by omega)]
          · rw [fl_up_k h2, j_rem1_at rr i J (by omega)]
      show fl_it _ k (i + 1) (fl_up (j_rem1 rr i J) (13 + 2 + (rr + i)) i ((nI m).toInt64)) p y = _
      rw [ih (i + 1), at1, at1]
      by_cases hy : y = i
      · subst hy
        rw [if_neg (by omega), if_neg (by omega)]
        by_cases hp : 15 ≤ p ∧ p < 15 + rr
        · rw [if_neg (by omega), if_pos (by omega), if_pos (by omega)]
        · rw [if_neg (show ¬ (15 ≤ p ∧ p < 15 + rr ∧ y ≤ y ∧ y < y + (k + 1)) by omega)]
          by_cases hq : p = 15 + (rr + y)
          · rw [if_pos ⟨hq, rfl⟩, if_pos (by omega)]
          · rw [if_neg (by omega), if_neg (by omega), if_neg (by omega)]
      · by_cases hr : i + 1 ≤ y ∧ y < i + 1 + k
        · by_cases hp : 15 ≤ p ∧ p < 15 + rr
          · rw [if_pos (by omega), if_neg (by omega), if_neg (by omega), if_pos (by omega)]
          · rw [if_neg (by omega), if_neg (show ¬ (15 ≤ p ∧ p < 15 + rr ∧ i ≤ y ∧ y < i + (k + 1)) by omega)]
            by_cases hq : p = 15 + (rr + y)
            · rw [if_pos (by omega), if_pos (by omega)]
            · rw [if_neg (by omega), if_neg (by omega), if_neg (by omega), if_neg (by omega)]
        · rw [if_neg (by omega), if_neg (by omega), if_neg (by omega), if_neg (by omega), if_neg (by omega), if_neg (by omega)]
  unfold j_rem
  rw [gen e 0 J]
  by_cases h1 : 15 ≤ p ∧ p < 15 + rr ∧ y < e
  · rw [if_pos h1, if_pos (by omega)]
  · rw [if_neg h1, if_neg (by omega)]
    by_cases h2 : y < e ∧ p = 15 + (rr + y)
    · rw [if_pos h2, if_pos (by omega)]
    · rw [if_neg h2, if_neg (by omega)]
theorem wr_begin {n e rr m : Nat} {J : fl_TJ} {T : Nat → Nat → Int} (hrr : rr ≤ e) (he : e ≤ 3) (hrn : rr ≤ n) (hm : m ≤ 40) (hs : shC 6 n (e + n) J T) : shC 13 (rr + e) e (j_rem e rr m (j_clear 13 (rr + e) J)) (mR T rr m e) := by
  intro i x hi hx
  have n3 : ∀ i, i < 6 → fl_n (13 + 2 + i) = 3 := by decide
  rw [j_rem_at _ (by omega)]
  unfold j_clear
  by_cases h : i < rr
  · rw [if_pos (by omega), show 13 + 2 + i - 7 = 6 + 2 + i from by omega, j_clear_at, if_neg (by omega), hs i x (by omega) (by omega)]
    unfold mR
    rw [if_pos hx, if_pos h]
  · rw [if_neg (by omega), mR_low (by omega) hi]
    by_cases h2 : x = i - rr
    · rw [if_pos (by omega), if_pos h2]; exact nI64 hm
    · rw [if_neg (by omega), if_neg h2, j_clear_at, if_pos ⟨by omega, by rw [n3 i (by omega)]; omega⟩]; rfl
/-- products -/
def prP (P : Nat → Nat) : Nat → Nat
  | 0 => 1
  | k + 1 => prP P k * P k
theorem prP_le {P : Nat → Nat} {e : Nat} (h : ∀ i, i < e → P i ≤ 40) : ∀ k, k ≤ e → prP P k ≤ 40 ^ k := by
  intro k
  induction k with
  | zero => intro _; exact Nat.le_refl _
  | succ k ih => intro hk; exact Nat.mul_le_mul (ih (by omega)) (h k (by omega))
theorem m_pow {m : Nat} (hm : m ≤ 40) : ∀ n, m ^ n ≤ 40 ^ n := fun n => Nat.pow_le_pow_left hm n
theorem x_pw_oI {m : Nat} (hm : m ≤ 40) : ∀ n, x_pw m n = oI ((m ^ n : Nat) : Int) := by
  intro n
  unfold x_pw
  induction n with
  | zero => rfl
  | succ n ih => rw [fl_it_last, ih, nI64 hm, oI_mul, ← Int.natCast_mul]; rfl
theorem k_m1_oI {m : Nat} (hm : m ≤ 40) (n : Nat) : k_m1 m n = oI ((m ^ n : Nat) : Int) := x_pw_oI hm n
theorem x_wy_oI {m e : Nat} {J : fl_TJ} {P : Nat → Nat} (hm : m ≤ 40) (hP : ∀ i, i < e → J (13 + 2 + i) i = oI ((P i : Nat) : Int)) (w : Nat) : ∀ k, k ≤ e → fl_it (fun i (x : Int64 × Int64) => (x.1 * J (13 + 2 + i) i, x.2 * (nI m).toInt64)) k 0 (oI (w : Int), 1) = (oI ((w * prP P k : Nat) : Int), oI ((m ^ k : Nat) : Int)) := by
  intro k
  induction k with
  | zero => intro _; show (oI (w : Int), (1 : Int64)) = _; rw [show w * prP P 0 = w from Nat.mul_one w]; rfl
  | succ k ih =>
    intro hk
    rw [fl_it_last, ih (by omega)]
    show (oI ((w * prP P k : Nat) : Int) * J (13 + 2 + (0 + k)) (0 + k), oI ((m ^ k : Nat) : Int) * (nI m).toInt64) = _
    rw [Nat.zero_add, hP k (by omega), nI64 hm, oI_mul, oI_mul, ← Int.natCast_mul, ← Int.natCast_mul, Nat.mul_assoc]
    rfl
theorem k_m2_oI {e : Nat} {J : fl_TJ} {P : Nat → Nat} (hP : ∀ i, i < e → J 33 (8 * i + i) = oI ((P i : Nat) : Int)) (w : Nat) : ∀ k, k ≤ e → fl_it (fun q w => w * J 33 (8 * q + q)) k 0 (oI (w : Int)) = oI ((w * prP P k : Nat) : Int) := by
  intro k
  induction k with
  | zero => intro _; show oI (w : Int) = _; rw [show w * prP P 0 = w from Nat.mul_one w]
  | succ k ih =>
    intro hk
    rw [fl_it_last, ih (by omega), Nat.zero_add, hP k (by omega), oI_mul, ← Int.natCast_mul, Nat.mul_assoc]
    rfl
theorem div_oI {a b : Nat} (ha : a < 9223372036854775808) (hb : b < 9223372036854775808) : oI (a : Int) / oI (b : Int) = oI ((a / b : Nat) : Int) := by
  rw [oI_div (by unfold fit; omega) (by unfold fit; omega)]
  rfl
theorem k_m3_oI {m : Nat} (hm : m ≤ 40) {w : Nat} (hw : w < 9223372036854775808) : ∀ k, fl_it (fun _ w => w / (nI m).toInt64) k 0 (oI (w : Int)) = oI ((w / m ^ k : Nat) : Int) := by
  intro k
  induction k with
  | zero => show oI (w : Int) = _; rw [show w / m ^ 0 = w from Nat.div_one w]
  | succ k ih =>
    rw [fl_it_last, ih, nI64 hm, div_oI (Nat.lt_of_le_of_lt (Nat.div_le_self _ _) hw) (by omega), Nat.div_div_eq_div_mul, Nat.pow_succ]
/-- the answer of modulo -/
theorem w_small {m n e : Nat} {P : Nat → Nat} (hn : n ≤ 4) (he : e ≤ 3) (hm : m ≤ 40) (hP : ∀ i, i < e → P i ≤ 40) : m ^ n * prP P e < 9223372036854775808 := by
  have h1 : m ^ n ≤ 40 ^ 4 := Nat.le_trans (m_pow hm n) (Nat.pow_le_pow_right (by decide) hn)
  have h2 : prP P e ≤ 40 ^ 3 := Nat.le_trans (prP_le hP e (Nat.le_refl _)) (Nat.pow_le_pow_right (by decide) he)
  have := Nat.mul_le_mul h1 h2
  have e1 : (40 : Nat) ^ 4 * 40 ^ 3 = 163840000000 := by decide
  omega
theorem x_ways_oI {m n e : Nat} {J : fl_TJ} {P : Nat → Nat} (hn : n ≤ 4) (he : e ≤ 3) (hm1 : 1 ≤ m) (hm : m ≤ 40) (hP : ∀ i, i < e → J (13 + 2 + i) i = oI ((P i : Nat) : Int) ∧ P i ≤ 40) : x_ways m n e J = oI ((m ^ n * prP P e / m ^ e : Nat) : Int) := by
  have hw := w_small (m := m) (n := n) hn he hm (fun i hi => (hP i hi).2)
  have e1 : x_wy m e J (x_pw m n) = (oI ((m ^ n * prP P e : Nat) : Int), oI ((m ^ e : Nat) : Int)) := by
    unfold x_wy
    rw [x_pw_oI hm]
    exact x_wy_oI hm (fun i hi => (hP i hi).1) (m ^ n) e (Nat.le_refl _)
  have h3 : m ^ e ≤ 40 ^ 3 := Nat.le_trans (m_pow hm e) (Nat.pow_le_pow_right (by decide) he)
  have h4 : (40 : Nat) ^ 3 = 64000 := by decide
  have h5 : 1 ≤ m ^ e := Nat.one_le_pow _ _ hm1
  unfold x_ways
  rw [e1]
  show (if oI ((m ^ e : Nat) : Int) = 0 then 0 else oI ((m ^ n * prP P e : Nat) : Int) / oI ((m ^ e : Nat) : Int)) = _
  rw [if_neg (fun z => by have := (oI_eq0 (by unfold fit; omega)).mp z; omega), div_oI hw (by omega)]
theorem k_ways_oI {m n e : Nat} {J : fl_TJ} {P : Nat → Nat} (hn : n ≤ 4) (he : e ≤ 3) (hm : m ≤ 40) (hP : ∀ i, i < e → J 33 (8 * i + i) = oI ((P i : Nat) : Int) ∧ P i ≤ 40) : k_m3 m e (k_m2 e J (k_m1 m n)) = oI ((m ^ n * prP P e / m ^ e : Nat) : Int) := by
  have hw := w_small (m := m) (n := n) hn he hm (fun i hi => (hP i hi).2)
  have e1 : k_m2 e J (k_m1 m n) = oI ((m ^ n * prP P e : Nat) : Int) := by
    unfold k_m2
    rw [k_m1_oI hm]
    exact k_m2_oI (fun i hi => (hP i hi).1) (m ^ n) e (Nat.le_refl _)
  rw [e1]
  exact k_m3_oI hm hw e
