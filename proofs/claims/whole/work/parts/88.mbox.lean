/-! the model tries all -/
abbrev o32 (a : Int) : Int32 := Int32.ofInt a
def fit32 (a : Int) : Prop := -2147483648 < a ∧ a < 2147483648
theorem o32_toInt {a : Int} (h : fit32 a) : (o32 a).toInt = a := Int32.toInt_ofInt_of_le (by have := h.1; omega) (by have := h.2; omega)
theorem o32_of (x : Int32) : o32 x.toInt = x := Int32.ofInt_toInt x
theorem o32_add (a b : Int) : o32 a + o32 b = o32 (a + b) := (Int32.ofInt_add a b).symm
theorem o32_sub (a b : Int) : o32 a - o32 b = o32 (a - b) := (Int32.ofInt_sub a b).symm
theorem o32_mul (a b : Int) : o32 a * o32 b = o32 (a * b) := (Int32.ofInt_mul a b).symm
theorem o32_inj {a b : Int} (ha : fit32 a) (hb : fit32 b) : o32 a = o32 b ↔ a = b := ⟨fun e => by rw [← o32_toInt ha, ← o32_toInt hb, e], fun e => by rw [e]⟩
theorem o32_le {a b : Int} (ha : fit32 a) (hb : fit32 b) : o32 a ≤ o32 b ↔ a ≤ b := by rw [Int32.le_iff_toInt_le, o32_toInt ha, o32_toInt hb]
theorem o32_ne_min {a : Int} (h : fit32 a) : o32 a ≠ Int32.minValue := fun e => by
  have h1 := o32_toInt h
  rw [e] at h1
  have h2 : Int32.minValue.toInt = -2147483648 := rfl
  have := h.1
  omega
theorem tdiv_abs {a b : Int} : (a.tdiv b).natAbs ≤ a.natAbs ∧ (a.tdiv b * b).natAbs ≤ a.natAbs := ⟨by rw [Int.natAbs_tdiv]; exact Nat.div_le_self _ _, by rw [Int.natAbs_mul, Int.natAbs_tdiv]; exact Nat.div_mul_le_self _ _⟩
theorem o32_div {a b : Int} (ha : fit32 a) (hb : fit32 b) : o32 a / o32 b = o32 (a.tdiv b) := by
  apply Int32.toInt_inj.mp
  have := (tdiv_abs (a := a) (b := b)).1
  rw [Int32.toInt_div_of_ne_left _ _ (o32_ne_min ha), o32_toInt ha, o32_toInt hb, o32_toInt (by unfold fit32 at *; omega)]
/-- what is left for the last unknown -/
def lfz (a : Nat → Nat → Int) (s : Nat → Int) (n : Nat) (p : Nat → Int) (c : Nat) : Int := s c - sm (n - 1) (fun j => a c j * p j)
def pv (x y z : Int) : Nat → Int := fun j => if j = 0 then x else if j = 1 then y else z
theorem lfz_small {a : Nat → Nat → Int} {s : Nat → Int} {e n c : Nat} {p : Nat → Int} (hn : n ≤ 4) (hc : c < e) (ha : sml a e n) (hs : (s c).natAbs ≤ 1000) (hp : ∀ j, (p j).natAbs ≤ 12) : (lfz a s n p c).natAbs ≤ 1324 := by
  unfold lfz
  have t : ∀ j, j < n - 1 → (a c j * p j).natAbs ≤ 9 * 12 := fun j hj => na_mul (ha c j hc (by omega)) (hp j)
  have : n - 1 = 0 ∨ n - 1 = 1 ∨ n - 1 = 2 ∨ n - 1 = 3 := by omega
  rcases this with q | q | q | q <;> rw [q] at t ⊢
  · show (s c - 0).natAbs ≤ _; omega
  · have := t 0 (by decide)
    show (s c - (0 + a c 0 * p 0)).natAbs ≤ _; omega
  · have := t 0 (by decide)
    have := t 1 (by decide)
    show (s c - (0 + a c 0 * p 0 + a c 1 * p 1)).natAbs ≤ _; omega
  · have := t 0 (by decide)
    have := t 1 (by decide)
    have := t 2 (by decide)
    show (s c - (0 + a c 0 * p 0 + a c 1 * p 1 + a c 2 * p 2)).natAbs ≤ _; omega
theorem k_left_o32 {n c : Nat} {I : fl_TI} {x y z : Int} (hn1 : 1 ≤ n) (hn : n ≤ 4) : k_left n I c (o32 x) (o32 y) (o32 z) = o32 (lfz (aM I) (sM I) n (pv x y z) c) := by
  have e31 : ∀ k, I 31 (4 * c + k) = o32 (aM I c k) := fun k => (o32_of _).symm
  have e32 : I 32 c = o32 (sM I c) := (o32_of _).symm
  have z0 : nI 0 = o32 0 := rfl
  unfold k_left lfz
  rw [e32, show I 31 (4 * c) = o32 (aM I c 0) from e31 0, e31 1, e31 2, o32_mul, o32_mul, o32_mul, z0]
  have : n = 1 ∨ n = 2 ∨ n = 3 ∨ n = 4 := by omega
  rcases this with rfl | rfl | rfl | rfl
  · rw [if_pos (by decide), if_pos (by decide), if_pos (by decide), o32_sub, o32_sub, o32_sub]
    congr 1
    show _ = sM I c - 0
    omega
  · rw [if_neg (by decide), if_pos (by decide), if_pos (by decide), o32_sub, o32_sub, o32_sub]
    congr 1
    show _ = sM I c - (0 + aM I c 0 * x)
    omega
  · rw [if_neg (by decide), if_neg (by decide), if_pos (by decide), o32_sub, o32_sub, o32_sub]
    congr 1
    show _ = sM I c - (0 + aM I c 0 * x + aM I c 1 * y)
    omega
  · rw [if_neg (by decide), if_neg (by decide), if_neg (by decide), o32_sub, o32_sub, o32_sub]
    congr 1
    show _ = sM I c - (0 + aM I c 0 * x + aM I c 1 * y + aM I c 2 * z)
    omega
theorem k_la_sh {n e : Nat} {I : fl_TI} {x y z : Int} {lo hi : Int} {m : Nat} (hn1 : 1 ≤ n) (hn : n ≤ 4) (ha : sml (aM I) e n) (hs : ∀ c, c < e → (sM I c).natAbs ≤ 1000) (hx : x.natAbs ≤ 12) (hy : y.natAbs ≤ 12) (hz : z.natAbs ≤ 12) (hm : lo + (m : Nat) = hi + 1) :
    ∀ k i (fr to : Int), i + k = e → fr.natAbs ≤ 1324 → to.natAbs ≤ 1324 → lo ≤ fr → to ≤ hi → k_la n I (o32 x) (o32 y) (o32 z) k i (o32 fr) (o32 to) = o32 ((ns lo m (fun v => if (fr ≤ v ∧ v ≤ to) ∧ ∀ c, c < e → i ≤ c → lfz (aM I) (sM I) n (pv x y z) c = aM I c (n - 1) * v then 1 else 0) : Nat) : Int) := by
  have hp : ∀ j, (pv x y z j).natAbs ≤ 12 := fun j => by unfold pv; (split <;> (try split)) <;> assumption
  have z0 : nI 0 = o32 0 := rfl
  have z00 : (0 : Int32) = o32 0 := rfl
  have f0 : fit32 0 := by unfold fit32; omega
  intro k
  induction k with
  | zero =>
    intro i fr to hi hf ht h1 h2
    have e1 : ns lo m (fun v => if (fr ≤ v ∧ v ≤ to) ∧ ∀ c, c < e → i ≤ c → lfz (aM I) (sM I) n (pv x y z) c = aM I c (n - 1) * v then 1 else 0) = ns lo m (fun v => if fr ≤ v ∧ v ≤ to then 1 else 0) := ns_congr _ (fun v _ _ => by
      by_cases q : fr ≤ v ∧ v ≤ to
      · rw [if_pos q, if_pos ⟨q, fun c h1 h2 => by omega⟩]
      · rw [if_neg q, if_neg (fun y => q y.1)])
    rw [e1]
    show (if o32 fr ≤ o32 to then o32 to - o32 fr + nI 1 else nI 0) = _
    by_cases q : fr ≤ to
    · rw [if_pos ((o32_le (by unfold fit32; omega) (by unfold fit32; omega)).mpr q), ns_range h1 (by omega) q, ns_const, o32_sub, show nI 1 = o32 1 from rfl, o32_add]
      congr 1
      omega
    · rw [if_neg (fun y => q ((o32_le (by unfold fit32; omega) (by unfold fit32; omega)).mp y)), ns_none (by omega)]
      rfl
  | succ k ih =>
    intro i fr to hi hf ht h1 h2
    have bl := lfz_small (s := sM I) (p := pv x y z) hn (show i < e by omega) ha (hs i (by omega)) hp
    have bf := ha i (n - 1) (by omega) (by omega)
    have ef : I 31 (4 * i + n - 1) = o32 (aM I i (n - 1)) := by
      rw [show 4 * i + n - 1 = 4 * i + (n - 1) from by omega]
      exact (o32_of _).symm
    have ff : fit32 (aM I i (n - 1)) := by unfold fit32; omega
    have fl : fit32 (lfz (aM I) (sM I) n (pv x y z) i) := by unfold fit32; omega
    show (if I 31 (4 * i + n - 1) = 0 then (if k_left n I i (o32 x) (o32 y) (o32 z) = 0 then k_la n I (o32 x) (o32 y) (o32 z) k (i + 1) (o32 fr) (o32 to) else nI 0) else if k_left n I i (o32 x) (o32 y) (o32 z) - k_left n I i (o32 x) (o32 y) (o32 z) / I 31 (4 * i + n - 1) * I 31 (4 * i + n - 1) = 0 then k_la n I (o32 x) (o32 y) (o32 z) k (i + 1) (if k_left n I i (o32 x) (o32 y) (o32 z) / I 31 (4 * i + n - 1) ≤ o32 fr then o32 fr else k_left n I i (o32 x) (o32 y) (o32 z) / I 31 (4 * i + n - 1)) (if o32 to ≤ k_left n I i (o32 x) (o32 y) (o32 z) / I 31 (4 * i + n - 1) then o32 to else k_left n I i (o32 x) (o32 y) (o32 z) / I 31 (4 * i + n - 1)) else nI 0) = _
    rw [k_left_o32 hn1 hn, ef]
    have split_c : ∀ v, ((fr ≤ v ∧ v ≤ to) ∧ ∀ c, c < e → i ≤ c → lfz (aM I) (sM I) n (pv x y z) c = aM I c (n - 1) * v) ↔ ((fr ≤ v ∧ v ≤ to) ∧ lfz (aM I) (sM I) n (pv x y z) i = aM I i (n - 1) * v ∧ ∀ c, c < e → i + 1 ≤ c → lfz (aM I) (sM I) n (pv x y z) c = aM I c (n - 1) * v) := fun v =>
      ⟨fun q => ⟨q.1, q.2 i (by omega) (by omega), fun c g1 g2 => q.2 c g1 (by omega)⟩, fun q => ⟨q.1, fun c g1 g2 => by
        by_cases y : c = i
        · rw [y]; exact q.2.1
        · exact q.2.2 c g1 (by omega)⟩⟩
    generalize hgl : lfz (aM I) (sM I) n (pv x y z) i = lf at *
    generalize hgf : aM I i (n - 1) = f at *
    have nos : (∀ v, ¬ lf = f * v) → ns lo m (fun v => if (fr ≤ v ∧ v ≤ to) ∧ ∀ c, c < e → i ≤ c → lfz (aM I) (sM I) n (pv x y z) c = aM I c (n - 1) * v then 1 else 0) = 0 := fun h => by
      rw [ns_congr (g := fun _ => 0) _ (fun v _ _ => if_neg (fun q => h v ((split_c v).mp q).2.1)), ns_const]
      omega
    by_cases q : f = 0
    · rw [z00, if_pos ((o32_inj ff f0).mpr q)]
      by_cases w : lf = 0
      · rw [if_pos ((o32_inj fl f0).mpr w), ih (i + 1) fr to (by omega) hf ht h1 h2]
        congr 2
        refine ns_congr _ (fun v _ _ => ?_)
        have : ((fr ≤ v ∧ v ≤ to) ∧ ∀ c, c < e → i + 1 ≤ c → lfz (aM I) (sM I) n (pv x y z) c = aM I c (n - 1) * v) ↔ ((fr ≤ v ∧ v ≤ to) ∧ ∀ c, c < e → i ≤ c → lfz (aM I) (sM I) n (pv x y z) c = aM I c (n - 1) * v) := by
          rw [split_c v]
          exact ⟨fun p => ⟨p.1, by rw [w, q]; omega, p.2⟩, fun p => ⟨p.1, p.2.2⟩⟩
        by_cases g : ((fr ≤ v ∧ v ≤ to) ∧ ∀ c, c < e → i + 1 ≤ c → lfz (aM I) (sM I) n (pv x y z) c = aM I c (n - 1) * v)
        · rw [if_pos g, if_pos (this.mp g)]
        · rw [if_neg g, if_neg (fun p => g (this.mpr p))]
      · rw [if_neg (fun p => w ((o32_inj fl f0).mp p)), nos (fun v p => w (by rw [p, q]; omega))]
        rfl
    · rw [z00, if_neg (fun p => q ((o32_inj ff f0).mp p)), o32_div fl ff, o32_mul, o32_sub]
      have ta := tdiv_abs (a := lf) (b := f)
      by_cases w : lf.tdiv f * f = lf
      · rw [if_pos (by rw [w, Int.sub_self])]
        have c1 : (if o32 (lf.tdiv f) ≤ o32 fr then o32 fr else o32 (lf.tdiv f)) = o32 (if lf.tdiv f ≤ fr then fr else lf.tdiv f) := by
          by_cases p : lf.tdiv f ≤ fr
          · rw [if_pos p, if_pos ((o32_le (by unfold fit32; omega) (by unfold fit32; omega)).mpr p)]
          · rw [if_neg p, if_neg (fun y => p ((o32_le (by unfold fit32; omega) (by unfold fit32; omega)).mp y))]
        have c2 : (if o32 to ≤ o32 (lf.tdiv f) then o32 to else o32 (lf.tdiv f)) = o32 (if to ≤ lf.tdiv f then to else lf.tdiv f) := by
          by_cases p : to ≤ lf.tdiv f
          · rw [if_pos p, if_pos ((o32_le (by unfold fit32; omega) (by unfold fit32; omega)).mpr p)]
          · rw [if_neg p, if_neg (fun y => p ((o32_le (by unfold fit32; omega) (by unfold fit32; omega)).mp y))]
        have uq : ∀ v, lf = f * v ↔ v = lf.tdiv f := fun v => ⟨fun p => by rw [p, Int.mul_tdiv_cancel_left _ q], fun p => by rw [p, Int.mul_comm]; exact w.symm⟩
        generalize lf.tdiv f = g at *
        rw [c1, c2, ih (i + 1) (if g ≤ fr then fr else g) (if to ≤ g then to else g) (by omega) (by split <;> omega) (by split <;> omega) (by split <;> omega) (by split <;> omega)]
        congr 2
        refine ns_congr _ (fun v _ _ => ?_)
        have : (((if g ≤ fr then fr else g) ≤ v ∧ v ≤ (if to ≤ g then to else g)) ∧ ∀ c, c < e → i + 1 ≤ c → lfz (aM I) (sM I) n (pv x y z) c = aM I c (n - 1) * v) ↔ ((fr ≤ v ∧ v ≤ to) ∧ ∀ c, c < e → i ≤ c → lfz (aM I) (sM I) n (pv x y z) c = aM I c (n - 1) * v) := by
          rw [split_c v, uq v]
          have : ((if g ≤ fr then fr else g) ≤ v ∧ v ≤ (if to ≤ g then to else g)) ↔ (fr ≤ v ∧ v ≤ to) ∧ v = g := by
            split <;> split <;> omega
          rw [this]
          exact ⟨fun p => ⟨p.1.1, p.1.2, p.2⟩, fun p => ⟨⟨p.1, p.2.1⟩, p.2.2⟩⟩
        by_cases p : (((if g ≤ fr then fr else g) ≤ v ∧ v ≤ (if to ≤ g then to else g)) ∧ ∀ c, c < e → i + 1 ≤ c → lfz (aM I) (sM I) n (pv x y z) c = aM I c (n - 1) * v)
        · rw [if_pos p, if_pos (this.mp p)]
        · rw [if_neg p, if_neg (fun y => p (this.mpr y))]
      · rw [if_neg (fun p => w (by have := (o32_inj (by unfold fit32; omega) f0).mp p; omega)), nos (fun v p => w (by rw [p, Int.mul_tdiv_cancel_left _ q, Int.mul_comm]))]
        rfl
theorem k_lasts_sh {n e : Nat} {I : fl_TI} {x y z : Int} {xl xh : Int32} {m : Nat} (hn1 : 1 ≤ n) (hn : n ≤ 4) (ha : sml (aM I) e n) (hs : ∀ c, c < e → (sM I c).natAbs ≤ 1000) (hx : x.natAbs ≤ 12) (hy : y.natAbs ≤ 12) (hz : z.natAbs ≤ 12) (hl : -12 ≤ xl.toInt) (hh : xh.toInt ≤ 12) (hlh : xl.toInt ≤ xh.toInt) (hm : xl.toInt + (m : Nat) = xh.toInt + 1) :
    k_lasts n e I xl xh (o32 x) (o32 y) (o32 z) = o32 ((Fc (aM I) (sM I) e n xl.toInt m 1 (n - 1) (pv x y z) : Nat) : Int) := by
  have := k_la_sh (x := x) (y := y) (z := z) (lo := xl.toInt) (hi := xh.toInt) (m := m) hn1 hn ha hs hx hy hz hm e 0 xl.toInt xh.toInt (by omega) (by omega) (by omega) (by omega) (by omega)
  rw [o32_of, o32_of] at this
  unfold k_lasts
  rw [this]
  congr 2
  show _ = ns xl.toInt m (fun v => if Eqs (aM I) (sM I) e n (up1 (pv x y z) (n - 1) v) then 1 else 0)
  refine ns_congr _ (fun v g1 g2 => ?_)
  have e1 : ∀ c, dot (aM I) c n (up1 (pv x y z) (n - 1) v) = sm (n - 1) (fun j => aM I c j * pv x y z j) + aM I c (n - 1) * v := fun c => by
    obtain ⟨n, rfl⟩ : ∃ n', n = n' + 1 := ⟨n - 1, by omega⟩
    show sm n (fun j => aM I c j * up1 (pv x y z) n v j) + aM I c n * up1 (pv x y z) n v n = sm n (fun j => aM I c j * pv x y z j) + aM I c n * v
    rw [show up1 (pv x y z) n v n = v from if_pos rfl, sm_congr (g := fun j => aM I c j * pv x y z j) (fun j hj => by
      show aM I c j * up1 (pv x y z) n v j = aM I c j * pv x y z j
      rw [show up1 (pv x y z) n v j = pv x y z j from if_neg (by omega)])]
  have : ((xl.toInt ≤ v ∧ v ≤ xh.toInt) ∧ ∀ c, c < e → 0 ≤ c → lfz (aM I) (sM I) n (pv x y z) c = aM I c (n - 1) * v) ↔ Eqs (aM I) (sM I) e n (up1 (pv x y z) (n - 1) v) := by
    constructor
    · intro q c hc
      have := q.2 c hc (by omega)
      unfold lfz at this
      rw [e1 c]
      omega
    · intro q
      refine ⟨by omega, fun c hc _ => ?_⟩
      have := q c hc
      rw [e1 c] at this
      unfold lfz
      omega
  by_cases p : ((xl.toInt ≤ v ∧ v ≤ xh.toInt) ∧ ∀ c, c < e → 0 ≤ c → lfz (aM I) (sM I) n (pv x y z) c = aM I c (n - 1) * v)
  · rw [if_pos p, if_pos (this.mp p)]
  · rw [if_neg p, if_neg (fun y => p (this.mpr y))]
theorem k_bt_sh {g : Int32 → Int32 → Int32} {c : Int → Nat} {lo hi : Int} (hg : ∀ (x : Int) t, lo ≤ x → x ≤ hi → g (o32 x) t = t + o32 ((c x : Nat) : Int)) : ∀ k (x : Int) (t : Int32), lo ≤ x → x + (k : Nat) ≤ hi + 1 → k_bt g k (o32 x) t = t + o32 ((ns x k c : Nat) : Int) := by
  intro k
  induction k with
  | zero => intro x t _ _; show t = t + 0; exact (Int32.add_zero t).symm
  | succ k ih =>
    intro x t h1 h2
    show k_bt g k (o32 x + 1) (g (o32 x) t) = _
    rw [hg x t h1 (by omega), show o32 x + 1 = o32 (x + 1) from o32_add x 1, ih (x + 1) _ (by omega) (by omega), ns_front, Int.natCast_add, ← o32_add, Int32.add_assoc]
/-- the model's box is the count -/
theorem k_box_sh {n e : Nat} {I : fl_TI} {xl xh : Int32} {m : Nat} {p : Nat → Int} (hn1 : 1 ≤ n) (hn : n ≤ 4) (ha : sml (aM I) e n) (hs : ∀ c, c < e → (sM I c).natAbs ≤ 1000) (hl : -12 ≤ xl.toInt) (hh : xh.toInt ≤ 12) (hlh : xl.toInt ≤ xh.toInt) (hm : xl.toInt + (m : Nat) = xh.toInt + 1) :
    k_box n e I xl xh = o32 ((Fc (aM I) (sM I) e n xl.toInt m n 0 p : Nat) : Int) := by
  have fu1 : k_fu xl xl = 1 := by unfold k_fu; omega
  have fum : k_fu xl xh = m := by unfold k_fu; omega
  have one : ∀ (c : Int → Nat), ns xl.toInt 1 c = c xl.toInt := fun c => by
    show 0 + c (xl.toInt + (0 : Nat)) = _
    rw [show xl.toInt + ((0 : Nat) : Int) = xl.toInt from by omega]; omega
  have lst : ∀ x y z : Int, (xl.toInt ≤ x ∧ x ≤ xh.toInt) → (xl.toInt ≤ y ∧ y ≤ xh.toInt) → (xl.toInt ≤ z ∧ z ≤ xh.toInt) → k_lasts n e I xl xh (o32 x) (o32 y) (o32 z) = o32 ((Fc (aM I) (sM I) e n xl.toInt m 1 (n - 1) (pv x y z) : Nat) : Int) := fun x y z h1 h2 h3 => k_lasts_sh hn1 hn ha hs (by omega) (by omega) (by omega) hl hh hlh hm
  have l3 := fun (x y : Int) (h1 : xl.toInt ≤ x ∧ x ≤ xh.toInt) (h2 : xl.toInt ≤ y ∧ y ≤ xh.toInt) => k_bt_sh (g := k_b3 n e I xl xh (o32 x) (o32 y)) (c := fun z => Fc (aM I) (sM I) e n xl.toInt m 1 (n - 1) (pv x y z)) (lo := xl.toInt) (hi := xh.toInt) (fun z t g1 g2 => by
    unfold k_b3
    rw [lst x y z h1 h2 ⟨g1, g2⟩])
  have z0 : nI 0 = o32 0 := rfl
  have za : ∀ c : Int, nI 0 + o32 c = o32 c := fun c => by rw [z0, o32_add, Int.zero_add]
  have : n = 1 ∨ n = 2 ∨ n = 3 ∨ n = 4 := by omega
  have xx := o32_of xl
  rcases this with rfl | rfl | rfl | rfl
  · have b2 : ∀ (x : Int) (t : Int32), xl.toInt ≤ x → x ≤ xh.toInt → k_b1 1 e I xl xh (o32 x) t = t + o32 ((Fc (aM I) (sM I) e 1 xl.toInt m 1 0 p : Nat) : Int) := fun x t g1 g2 => by
      unfold k_b1
      rw [if_pos (by decide), fu1]
      have := k_bt_sh (g := k_b2 1 e I xl xh (o32 x)) (c := fun y => Fc (aM I) (sM I) e 1 xl.toInt m 1 0 p) (lo := xl.toInt) (hi := xh.toInt) (fun y t g3 g4 => by
        unfold k_b2
        rw [if_pos (by decide), fu1]
        have := l3 x y ⟨g1, g2⟩ ⟨g3, g4⟩ 1 xl.toInt t (by omega) (by omega)
        rw [xx, one] at this
        rw [this, Fc_ext 1 (1 - 1) _ (p) (by omega) (fun i hi => by omega)]) 1 xl.toInt t (by omega) (by omega)
      rw [xx, one] at this
      exact this
    unfold k_box
    rw [if_pos (by decide), fu1]
    have := k_bt_sh (g := k_b1 1 e I xl xh) (c := fun _ => Fc (aM I) (sM I) e 1 xl.toInt m 1 0 p) (lo := xl.toInt) (hi := xh.toInt) b2 1 xl.toInt (nI 0) (by omega) (by omega)
    rw [xx, one, za] at this
    exact this
  · have b2 : ∀ (x : Int) (t : Int32), xl.toInt ≤ x → x ≤ xh.toInt → k_b1 2 e I xl xh (o32 x) t = t + o32 ((Fc (aM I) (sM I) e 2 xl.toInt m 1 1 (up1 p 0 x) : Nat) : Int) := fun x t g1 g2 => by
      unfold k_b1
      rw [if_pos (by decide), fu1]
      have := k_bt_sh (g := k_b2 2 e I xl xh (o32 x)) (c := fun y => Fc (aM I) (sM I) e 2 xl.toInt m 1 1 (up1 p 0 x)) (lo := xl.toInt) (hi := xh.toInt) (fun y t g3 g4 => by
        unfold k_b2
        rw [if_pos (by decide), fu1]
        have := l3 x y ⟨g1, g2⟩ ⟨g3, g4⟩ 1 xl.toInt t (by omega) (by omega)
        rw [xx, one] at this
        rw [this, Fc_ext 1 (2 - 1) _ (up1 p 0 x) (by omega) (fun i hi => by
          have : i = 0 := by omega
          subst this
          rfl)]) 1 xl.toInt t (by omega) (by omega)
      rw [xx, one] at this
      exact this
    unfold k_box
    rw [if_neg (by decide), fum]
    have := k_bt_sh (g := k_b1 2 e I xl xh) (c := fun x => Fc (aM I) (sM I) e 2 xl.toInt m 1 1 (up1 p 0 x)) (lo := xl.toInt) (hi := xh.toInt) b2 m xl.toInt (nI 0) (by omega) (by omega)
    rw [xx, za] at this
    exact this
  · have b2 : ∀ (x : Int) (t : Int32), xl.toInt ≤ x → x ≤ xh.toInt → k_b1 3 e I xl xh (o32 x) t = t + o32 ((Fc (aM I) (sM I) e 3 xl.toInt m 2 1 (up1 p 0 x) : Nat) : Int) := fun x t g1 g2 => by
      unfold k_b1
      rw [if_neg (by decide), fum]
      have := k_bt_sh (g := k_b2 3 e I xl xh (o32 x)) (c := fun y => Fc (aM I) (sM I) e 3 xl.toInt m 1 2 (up1 (up1 p 0 x) 1 y)) (lo := xl.toInt) (hi := xh.toInt) (fun y t g3 g4 => by
        unfold k_b2
        rw [if_pos (by decide), fu1]
        have := l3 x y ⟨g1, g2⟩ ⟨g3, g4⟩ 1 xl.toInt t (by omega) (by omega)
        rw [xx, one] at this
        rw [this, Fc_ext 1 (3 - 1) _ (up1 (up1 p 0 x) 1 y) (by omega) (fun i hi => by
          have : i = 0 ∨ i = 1 := by omega
          rcases this with rfl | rfl <;> rfl)]) m xl.toInt t (by omega) (by omega)
      rw [xx] at this
      exact this
    unfold k_box
    rw [if_neg (by decide), fum]
    have := k_bt_sh (g := k_b1 3 e I xl xh) (c := fun x => Fc (aM I) (sM I) e 3 xl.toInt m 2 1 (up1 p 0 x)) (lo := xl.toInt) (hi := xh.toInt) b2 m xl.toInt (nI 0) (by omega) (by omega)
    rw [xx, za] at this
    exact this
  · have b2 : ∀ (x : Int) (t : Int32), xl.toInt ≤ x → x ≤ xh.toInt → k_b1 4 e I xl xh (o32 x) t = t + o32 ((Fc (aM I) (sM I) e 4 xl.toInt m 3 1 (up1 p 0 x) : Nat) : Int) := fun x t g1 g2 => by
      unfold k_b1
      rw [if_neg (by decide), fum]
      have := k_bt_sh (g := k_b2 4 e I xl xh (o32 x)) (c := fun y => Fc (aM I) (sM I) e 4 xl.toInt m 2 2 (up1 (up1 p 0 x) 1 y)) (lo := xl.toInt) (hi := xh.toInt) (fun y t g3 g4 => by
        unfold k_b2
        rw [if_neg (by decide), fum]
        have := l3 x y ⟨g1, g2⟩ ⟨g3, g4⟩ m xl.toInt t (by omega) (by omega)
        rw [xx] at this
        rw [this]
        congr 3) m xl.toInt t (by omega) (by omega)
      rw [xx] at this
      exact this
    unfold k_box
    rw [if_neg (by decide), fum]
    have := k_bt_sh (g := k_b1 4 e I xl xh) (c := fun x => Fc (aM I) (sM I) e 4 xl.toInt m 3 1 (up1 p 0 x)) (lo := xl.toInt) (hi := xh.toInt) b2 m xl.toInt (nI 0) (by omega) (by omega)
    rw [xx, za] at this
    exact this
theorem Fc_congr {a a' : Nat → Nat → Int} {s s' : Nat → Int} {e n : Nat} {lo : Int} {m : Nat} (ha : ∀ c j, c < e → j < n → a c j = a' c j) (hs : ∀ c, c < e → s c = s' c) : ∀ r j p, Fc a s e n lo m r j p = Fc a' s' e n lo m r j p := by
  intro r
  induction r with
  | zero =>
    intro j p
    have : Eqs a s e n p ↔ Eqs a' s' e n p := by
      have d : ∀ c, c < e → dot a c n p = dot a' c n p := fun c hc => sm_congr (fun j hj => by show a c j * p j = a' c j * p j; rw [ha c j hc hj])
      exact ⟨fun h c hc => by rw [← hs c hc, ← d c hc]; exact h c hc, fun h c hc => by rw [hs c hc, d c hc]; exact h c hc⟩
    show (if Eqs a s e n p then 1 else 0) = (if Eqs a' s' e n p then 1 else 0)
    by_cases q : Eqs a s e n p
    · rw [if_pos q, if_pos (this.mp q)]
    · rw [if_neg q, if_neg (fun z => q (this.mpr z))]
  | succ r ih => intro j p; exact ns_congr _ (fun x _ _ => ih (j + 1) _)
/-- with no solution the count is nothing -/
theorem Fc_none {a : Nat → Nat → Int} {s : Nat → Int} {e n : Nat} {lo : Int} {m : Nat} {p : Nat → Int} (h : ¬ In a s e n) : Fc a s e n lo m n 0 p = 0 := by
  apply Classical.byContradiction
  intro z
  obtain ⟨u, u1, -⟩ := Fc_ne n 0 p (by omega) z
  exact h ⟨u, u1⟩
