/-! the turns of the basis -/
abbrev Pin (l : Nat → Nat) (lo : Int) (m i : Nat) (v : Nat → Int) : Prop := ∀ j, j < l (i + 1) → l i ≤ j → lo ≤ v j ∧ v j < lo + (m : Nat)
def cc (B : Nat → Nat → Int) (l : Nat → Nat) (lo : Int) (m : Nat) (M : Int) : Nat → Nat → (Nat → Int) → Nat
  | 0, _, _ => 1
  | q + 1, i, w => ns (-M) (2 * M).toNat (fun t => if Pin l lo m i (fun j => w j + t * B i j) then cc B l lo m M q (i + 1) (fun j => w j + t * B i j) else 0)
theorem pin_congr {l : Nat → Nat} {lo : Int} {m i : Nat} {v v' : Nat → Int} (h : ∀ j, l i ≤ j → j < l (i + 1) → v j = v' j) : Pin l lo m i v ↔ Pin l lo m i v' :=
  ⟨fun p j h1 h2 => by rw [← h j h2 h1]; exact p j h1 h2, fun p j h1 h2 => by rw [h j h2 h1]; exact p j h1 h2⟩
theorem cc_ext {B : Nat → Nat → Int} {l : Nat → Nat} {lo : Int} {m : Nat} {M : Int} : ∀ q i w w', (∀ k, i ≤ k → k < i + q → l k ≤ l (k + 1)) → (∀ j, l i ≤ j → j < l (i + q) → w j = w' j) → cc B l lo m M q i w = cc B l lo m M q i w' := by
  intro q
  induction q with
  | zero => intro i w w' _ _; rfl
  | succ q ih =>
    intro i w w' hl h
    have hi := hl i (by omega) (by omega)
    have up : ∀ d, d ≤ q → l (i + 1) ≤ l (i + 1 + d) := by
      intro d
      induction d with
      | zero => intro _; exact Nat.le_refl _
      | succ d id =>
        intro hd
        have := hl (i + 1 + d) (by omega) (by omega)
        have := id (by omega)
        show l (i + 1) ≤ l (i + 1 + d + 1)
        omega
    have hq := up q (Nat.le_refl _)
    rw [show i + 1 + q = i + (q + 1) from by omega] at hq
    refine ns_congr _ (fun t _ _ => ?_)
    have e1 : Pin l lo m i (fun j => w j + t * B i j) ↔ Pin l lo m i (fun j => w' j + t * B i j) := pin_congr (fun j h1 h2 => by
      show w j + t * B i j = w' j + t * B i j
      rw [h j h1 (by omega)])
    have e2 := ih (i + 1) (fun j => w j + t * B i j) (fun j => w' j + t * B i j) (fun k h1 h2 => hl k (by omega) (by omega)) (fun j h1 h2 => by
      show w j + t * B i j = w' j + t * B i j
      rw [h j (by omega) (by rw [show i + (q + 1) = i + 1 + q from by omega]; exact h2)])
    by_cases z : Pin l lo m i (fun j => w j + t * B i j)
    · rw [if_pos z, if_pos (e1.mp z)]; exact e2
    · rw [if_neg z, if_neg (fun y => z (e1.mpr y))]
def Kb : Nat → Nat
  | 0 => 1
  | i + 1 => 2 * Kb i + 12
theorem Kb_le : ∀ i, i < 5 → Kb i ≤ 196 := by decide
theorem Kb_up (i : Nat) : Kb i ≤ Kb (i + 1) := by show Kb i ≤ 2 * Kb i + 12; omega
theorem t_small {w t b : Int} {K : Nat} (hb : 1 ≤ b) (hw : w.natAbs ≤ K * b.natAbs) (h : (w + t * b).natAbs ≤ 12) : t.natAbs ≤ 12 + K := by
  have e : (t * b).natAbs = t.natAbs * b.natAbs := Int.natAbs_mul t b
  have h1 : (t * b).natAbs ≤ 12 + K * b.natAbs := by omega
  have h2 : 12 ≤ 12 * b.natAbs := by omega
  rw [e] at h1
  have h3 : t.natAbs * b.natAbs ≤ (12 + K) * b.natAbs := by rw [Nat.add_mul]; omega
  exact Nat.le_of_mul_le_mul_right h3 (by omega)
/-- the lead unknown of basis row i -/
def lU (L : Nat → Nat) (e n rr : Nat) (i : Nat) : Nat := if rr + i < n then L (rr + i) - e else n
def Bw (T : Nat → Nat → Int) (L : Nat → Nat) (e n rr i : Nat) (w : Nat → Int) : Prop := ∀ k, i ≤ k → rr + k < n → (w (L (rr + k) - e)).natAbs ≤ Kb i * (T (rr + k) (L (rr + k))).natAbs
theorem F_run {a : Nat → Nat → Int} {s : Nat → Int} {e n : Nat} {T : Nat → Nat → Int} {L : Nat → Nat} (hF : Fm a e n T L) (hn : n ≤ 4) {lo : Int} {m : Nat} {v : Nat → Int} (hv : Eqs a s e n v) {stop : Nat} (hs : stop ≤ n) : ∀ d j, j + d = stop → (∀ i k, i < n → j ≤ k → k < stop → L i ≠ e + k) → Fc a s e n lo m (n - j) j v = if (∀ k, k < stop → j ≤ k → lo ≤ v k ∧ v k < lo + (m : Nat)) then Fc a s e n lo m (n - stop) stop v else 0 := by
  intro d
  induction d with
  | zero =>
    intro j hj _
    have : j = stop := by omega
    subst this
    rw [if_pos (fun k h1 h2 => by omega)]
  | succ d ih =>
    intro j hj hl
    rw [show n - j = (n - (j + 1)) + 1 from by omega, Fc_free hF hn hv (by omega) (fun i hi => hl i j hi (by omega) (by omega)), ih (j + 1) (by omega) (fun i k hi h1 h2 => hl i k hi (by omega) h2)]
    by_cases q : lo ≤ v j ∧ v j < lo + (m : Nat)
    · rw [if_pos q]
      by_cases z : ∀ k, k < stop → j + 1 ≤ k → lo ≤ v k ∧ v k < lo + (m : Nat)
      · rw [if_pos z, if_pos (fun k h1 h2 => by
          by_cases y : k = j
          · rw [y]; exact q
          · exact z k h1 (by omega))]
      · rw [if_neg z, if_neg (fun y => z (fun k h1 h2 => y k h1 (by omega)))]
    · rw [if_neg q, if_neg (fun y => q (y j (by omega) (by omega)))]
theorem lU_lt {L : Nat → Nat} {e n rr i : Nat} (h : rr + i < n) : lU L e n rr i = L (rr + i) - e := if_pos h
theorem lU_ge {L : Nat → Nat} {e n rr i : Nat} (h : ¬ rr + i < n) : lU L e n rr i = n := if_neg h
theorem lU_le {a : Nat → Nat → Int} {e n rr : Nat} {T : Nat → Nat → Int} {L : Nat → Nat} (hF : Fm a e n T L) (i : Nat) : lU L e n rr i ≤ n := by
  by_cases h : rr + i < n
  · rw [lU_lt h]; have := (hF.1.1 _ h).1; omega
  · rw [lU_ge h]; exact Nat.le_refl _
theorem lU_up {a : Nat → Nat → Int} {e n rr : Nat} {T : Nat → Nat → Int} {L : Nat → Nat} (hF : Fm a e n T L) (hlb : Lb L e n rr) {i : Nat} (hi : rr + i < n) : lU L e n rr i < lU L e n rr (i + 1) := by
  have h1 := (hF.1.1 _ hi).1
  have h2 := hlb.2 _ hi
  rw [lU_lt hi]
  by_cases h : rr + (i + 1) < n
  · rw [lU_lt h]
    have := hF.1.2.1 (rr + i) (rr + (i + 1)) (by omega) h
    omega
  · rw [lU_ge h]; omega
/-- no lead between two leads, nor before the first -/
theorem no_lead {a : Nat → Nat → Int} {e n rr : Nat} {T : Nat → Nat → Int} {L : Nat → Nat} (hF : Fm a e n T L) (hlb : Lb L e n rr) {i : Nat} {k : Nat} (h1 : i = 0 ∨ (rr + (i - 1) < n ∧ lU L e n rr (i - 1) < k)) (h2 : k < lU L e n rr i) : ∀ x, x < n → L x ≠ e + k := by
  intro x hx hL
  have hr : rr ≤ x := by have := hlb.2 x hx; omega
  obtain ⟨y, rfl⟩ : ∃ y, x = rr + y := ⟨x - rr, by omega⟩
  rcases Nat.lt_or_ge y i with q | q
  · rcases h1 with z | ⟨z1, z2⟩
    · omega
    · rw [lU_lt z1] at z2
      rcases Nat.lt_or_ge y (i - 1) with p | p
      · have := hF.1.2.1 (rr + y) (rr + (i - 1)) (by omega) z1
        omega
      · have : y = i - 1 := by omega
        subst this
        omega
  · rw [lU_lt (by omega)] at h2
    rcases Nat.lt_or_ge i y with p | p
    · have := hF.1.2.1 (rr + i) (rr + y) (by omega) hx
      omega
    · have : y = i := by omega
      subst this
      omega
theorem eqs_turn {a : Nat → Nat → Int} {s : Nat → Int} {e n : Nat} {T : Nat → Nat → Int} {L : Nat → Nat} (hF : Fm a e n T L) (hn : n ≤ 4) {w : Nat → Int} (hw : Eqs a s e n w) {i : Nat} (hi : i < n) (hL : e ≤ L i) (t : Int) : Eqs a s e n (fun j => w j + t * T i (e + j)) := fun c hc => by
  rw [dot_add (v := fun j => t * T i (e + j)), dot_mul (u := fun j => T i (e + j)), ← hF.lin hn hi hc, (hF.1.1 i hi).2.2 c (by omega), hw c hc]
  omega
theorem bw_turn {a : Nat → Nat → Int} {e n rr : Nat} {T : Nat → Nat → Int} {L : Nat → Nat} (hF : Fm a e n T L) (hlb : Lb L e n rr) {w : Nat → Int} {i : Nat} (hi : rr + i < n) (hw : Bw T L e n rr i w) {t : Int} (ht : t.natAbs ≤ 12 + Kb i) : Bw T L e n rr (i + 1) (fun j => w j + t * T (rr + i) (e + j)) := by
  intro k hk1 hk2
  have h1 := hw k (by omega) hk2
  have h2 := hF.1.2.2 (rr + i) (rr + k) (by omega) hk2
  have h3 := hlb.2 (rr + k) hk2
  show (w (L (rr + k) - e) + t * T (rr + i) (e + (L (rr + k) - e))).natAbs ≤ (2 * Kb i + 12) * _
  rw [show e + (L (rr + k) - e) = L (rr + k) from by omega]
  have h4 : (t * T (rr + i) (L (rr + k))).natAbs ≤ (12 + Kb i) * (T (rr + k) (L (rr + k))).natAbs := na_mul ht (by omega)
  rw [show (2 * Kb i + 12) * (T (rr + k) (L (rr + k))).natAbs = Kb i * (T (rr + k) (L (rr + k))).natAbs + (12 + Kb i) * (T (rr + k) (L (rr + k))).natAbs from by rw [← Nat.add_mul]; congr 1; omega]
  omega
theorem bw_stay {e n rr : Nat} {T : Nat → Nat → Int} {L : Nat → Nat} {w : Nat → Int} {i : Nat} (hw : Bw T L e n rr i w) : Bw T L e n rr (i + 1) w := fun k h1 h2 => Nat.le_trans (hw k (by omega) h2) (Nat.mul_le_mul_right _ (Kb_up i))
/-- counting by the unknowns is counting by the turns -/
theorem F_cc {a : Nat → Nat → Int} {s : Nat → Int} {e n rr : Nat} {T : Nat → Nat → Int} {L : Nat → Nat} (hF : Fm a e n T L) (hn : n ≤ 4) (hlb : Lb L e n rr) {lo : Int} {m : Nat} (hlo : -12 ≤ lo) (hhi : lo + (m : Nat) ≤ 13) : ∀ q i w, rr + i + q = n → Eqs a s e n w → Bw T L e n rr i w → Fc a s e n lo m (n - lU L e n rr i) (lU L e n rr i) w = cc (fun i j => T (rr + i) (e + j)) (lU L e n rr) lo m 1000000000000000 q i w := by
  intro q
  induction q with
  | zero =>
    intro i w hq hw _
    rw [lU_ge (by omega), Nat.sub_self]
    show (if Eqs a s e n w then 1 else 0) = 1
    rw [if_pos hw]
  | succ q ih =>
    intro i w hq hw hB
    have hi : rr + i < n := by omega
    have hLe : e ≤ L (rr + i) := by have := hlb.2 _ hi; omega
    have hLn := (hF.1.1 _ hi).1
    have hp := (hF.1.1 _ hi).2.1
    have hLl : L (rr + i) = e + lU L e n rr i := by rw [lU_lt hi]; omega
    have hb := hF.2.2.2.2 (rr + i) (L (rr + i)) hi hLe
    have hBi := hB i (Nat.le_refl _) hi
    rw [← lU_lt (L := L) (e := e) hi] at hBi
    have hK := Kb_le i (by omega)
    have hup := lU_up hF hlb hi
    have hle := lU_le (rr := rr) hF (i + 1)
    have ht : ∀ t, lo ≤ w (lU L e n rr i) + t * T (rr + i) (L (rr + i)) → w (lU L e n rr i) + t * T (rr + i) (L (rr + i)) < lo + (m : Nat) → t.natAbs ≤ 12 + Kb i := fun t h1 h2 => t_small (by omega) hBi (by omega)
    rw [show n - lU L e n rr i = (n - (lU L e n rr i + 1)) + 1 from by omega, Fc_lead hF hn hw (i0 := rr + i) (M := 1000000000000000) (by omega) hi hLl (by decide) (fun t h1 h2 => by
      have := ht t (by rw [hLl]; exact h1) (by rw [hLl]; exact h2)
      omega)]
    refine ns_congr _ (fun t _ _ => ?_)
    show _ = if Pin (lU L e n rr) lo m i (fun j => w j + t * T (rr + i) (e + j)) then cc (fun i j => T (rr + i) (e + j)) (lU L e n rr) lo m 1000000000000000 q (i + 1) (fun j => w j + t * T (rr + i) (e + j)) else 0
    by_cases z : lo ≤ w (lU L e n rr i) + t * T (rr + i) (e + lU L e n rr i) ∧ w (lU L e n rr i) + t * T (rr + i) (e + lU L e n rr i) < lo + (m : Nat)
    · rw [if_pos z]
      have hv := eqs_turn hF hn hw hi hLe t
      have hBv := bw_turn hF hlb hi hB (ht t (by rw [hLl]; exact z.1) (by rw [hLl]; exact z.2))
      rw [F_run hF hn hv hle (lU L e n rr (i + 1) - (lU L e n rr i + 1)) (lU L e n rr i + 1) (by omega) (fun x k hx h1 h2 => no_lead hF hlb (i := i + 1) (.inr ⟨by rw [show i + 1 - 1 = i from by omega]; exact hi, by rw [show i + 1 - 1 = i from by omega]; omega⟩) h2 x hx), ih (i + 1) _ (by omega) hv hBv]
      by_cases y : ∀ k, k < lU L e n rr (i + 1) → lU L e n rr i + 1 ≤ k → lo ≤ w k + t * T (rr + i) (e + k) ∧ w k + t * T (rr + i) (e + k) < lo + (m : Nat)
      · rw [if_pos y, if_pos (fun k h1 h2 => by
          by_cases x : k = lU L e n rr i
          · rw [x]; exact z
          · exact y k h1 (by omega))]
      · rw [if_neg y, if_neg (fun x => y (fun k h1 h2 => x k h1 (by omega)))]
    · rw [if_neg z, if_neg (fun x => z (x (lU L e n rr i) hup (Nat.le_refl _)))]
/-- all in all -/
theorem F_box {a : Nat → Nat → Int} {s : Nat → Int} {e n rr : Nat} {T : Nat → Nat → Int} {L : Nat → Nat} (hF : Fm a e n T L) (hn : n ≤ 4) (hlb : Lb L e n rr) {lo : Int} {m : Nat} (hlo : -12 ≤ lo) (hhi : lo + (m : Nat) ≤ 13) {u : Nat → Int} (hu : Sol a s e n T L u) : Fc a s e n lo m n 0 u = if (∀ k, k < lU L e n rr 0 → 0 ≤ k → lo ≤ u k ∧ u k < lo + (m : Nat)) then cc (fun i j => T (rr + i) (e + j)) (lU L e n rr) lo m 1000000000000000 (n - rr) 0 u else 0 := by
  have hB : Bw T L e n rr 0 u := fun k _ hk => by
    have h3 := hlb.2 (rr + k) hk
    have := hu.2 (rr + k) hk (by omega)
    show _ ≤ 1 * _
    omega
  have h1 := hlb.1
  have h := F_run (lo := lo) (m := m) hF hn (s := s) (v := u) hu.1 (lU_le (rr := rr) hF 0) (lU L e n rr 0) 0 (by omega) (fun x k hx _ h2 => no_lead hF hlb (i := 0) (.inl rfl) h2 x hx)
  rw [Nat.sub_zero] at h
  rw [h, F_cc hF hn hlb hlo hhi (n - rr) 0 u (by omega) hu.1 hB]
