/-! the model's rows are the whole numbers modulo 2^64 -/
def shM (h w : Nat) (J : fl_TJ) (T : Nat → Nat → Int) : Prop := ∀ i x, i < h → x < w → J 33 (8 * i + x) = oI (T i x)
/-- row b comes to row k, made positive at place c -/
def pvT (k b c : Nat) (T : Nat → Nat → Int) : Nat → Nat → Int := fun i x => if i = k then (if T b c < 0 then -(T b x) else T b x) else if i = b then T k x else T i x
/-- the rows behind k and under m reduced by row k at place c -/
def pasT (k c m : Nat) (T : Nat → Nat → Int) : Nat → Nat → Int := fun i x => if k < i ∧ i < m then T i x - (T i c).fdiv (T k c) * T k x else T i x
theorem k_piv_sh {h w k b c : Nat} {J : fl_TJ} {T : Nat → Nat → Int} (hw : w ≤ 8) (hk : k < h) (hb : b < h) (hc : c < w) (hs : shM h w J T) (fb : fit (T b c)) : shM h w (k_piv k b c w J) (pvT k b c T) := by
  have e0 : k_chg k b J 33 (8 * k + c) = oI (T b c) := by
    rw [k_chg_at2 J k c (by omega), if_pos rfl]; exact hs b c hb hc
  intro i x hi hx
  unfold k_piv pvT
  rw [e0]
  by_cases q : T b c < 0
  · rw [if_pos ((oI_lt0 fb).mpr q), if_pos q, k_take_at hw 2 _ i x (by omega) (Or.inr rfl)]
    by_cases h1 : i = k
    · subst h1
      rw [if_pos ⟨rfl, hx⟩, if_pos rfl, k_chg_at2 J i x (by omega), if_pos rfl, hs b x hb hx]
      have : (2 : Int64) = oI 2 := rfl
      rw [this, oI_mul, oI_sub]
      congr 1
      omega
    · rw [if_neg (fun z => h1 z.1), if_neg h1, k_chg_at2 J i x (by omega), if_neg h1]
      by_cases h2 : i = b
      · subst h2; rw [if_pos rfl, if_pos rfl]; exact hs k x hk hx
      · rw [if_neg h2, if_neg h2]; exact hs i x hi hx
  · rw [if_neg (fun z => q ((oI_lt0 fb).mp z)), if_neg q, k_chg_at2 J i x (by omega)]
    by_cases h1 : i = k
    · subst h1
      rw [if_pos rfl, if_pos rfl]; exact hs b x hb hx
    · rw [if_neg h1, if_neg h1]
      by_cases h2 : i = b
      · subst h2; rw [if_pos rfl, if_pos rfl]; exact hs k x hk hx
      · rw [if_neg h2, if_neg h2]; exact hs i x hi hx
theorem k_take_sh {h w i k c m : Nat} {J : fl_TJ} {T T' : Nat → Nat → Int} (hw : w ≤ 8) (hi : i < h) (hk : k < h) (hne : i ≠ k) (hc : c < w) (hs : shM h w J T) (fi : fit (T i c)) (fk : fit (T k c)) (hp : 0 < T k c) (hT : ∀ j x, T' j x = if j = i then T i x - (T i c).fdiv (T k c) * T k x else T j x) : shM h w (k_take i k w (dn64 (J 33 (8 * i + c)) (J 33 (8 * k + c))) J) T' := by
  rw [hs i c hi hc, hs k c hk hc, dn64_oI fi fk hp]
  intro j x hj hx
  rw [k_take_at hw _ _ j x (by omega) (Or.inl hne), hT]
  by_cases e : j = i
  · subst e
    rw [if_pos ⟨rfl, hx⟩, if_pos rfl, hs j x hi hx, hs k x hk hx, oI_mul, oI_sub]
  · rw [if_neg (fun q => e q.1), if_neg e]; exact hs j x hj hx
theorem pasT_k {k c m x : Nat} {T : Nat → Nat → Int} : pasT k c m T k x = T k x := if_neg (by omega)
theorem pasT_out {k c m i x : Nat} {T : Nat → Nat → Int} (h : i ≤ k ∨ m ≤ i) : pasT k c m T i x = T i x := if_neg (by omega)
theorem pasT_in {k c m i x : Nat} {T : Nat → Nat → Int} (h : k < i ∧ i < m) : pasT k c m T i x = T i x - (T i c).fdiv (T k c) * T k x := if_pos h
theorem pasT_s {k c m : Nat} (hm : k < m) (T : Nat → Nat → Int) (j x : Nat) : pasT k c (m + 1) T j x = if j = m then pasT k c m T m x - (pasT k c m T m c).fdiv (pasT k c m T k c) * pasT k c m T k x else pasT k c m T j x := by
  by_cases h : j = m
  · subst h
    rw [if_pos rfl, pasT_in ⟨hm, by omega⟩, pasT_k, pasT_k, pasT_out (Or.inr (Nat.le_refl _)), pasT_out (Or.inr (Nat.le_refl _))]
  · rw [if_neg h]
    by_cases h2 : k < j ∧ j < m
    · rw [pasT_in h2, pasT_in ⟨h2.1, by omega⟩]
    · rw [pasT_out (by omega), pasT_out (by omega)]
theorem k_rows_sh {h w k c : Nat} {T : Nat → Nat → Int} (hw : w ≤ 8) (hk : k < h) (hc : c < w) (ff : ∀ r, k ≤ r → r < h → fit (T r c)) (hp : 0 < T k c) : ∀ (q i : Nat) (x : Nat × fl_TJ), i + q = h → k < i → shM h w x.2 (pasT k c i T) → (x.1 ≠ 0 ↔ ∀ r, k < r → r < i → pasT k c i T r c = 0) →
    shM h w (fl_it (k_row k c w) q i x).2 (pasT k c h T) ∧ ((fl_it (k_row k c w) q i x).1 ≠ 0 ↔ ∀ r, k < r → r < h → pasT k c h T r c = 0) := by
  intro q
  induction q with
  | zero =>
    intro i x hq hi hs hf
    have : i = h := by omega
    subst this
    exact ⟨hs, hf⟩
  | succ q ih =>
    intro i x hq hi hs hf
    have e1 : pasT k c i T i c = T i c := pasT_out (Or.inr (Nat.le_refl _))
    have e2 : pasT k c i T k c = T k c := pasT_k
    have hs' : shM h w (k_take i k w (dn64 (x.2 33 (8 * i + c)) (x.2 33 (8 * k + c))) x.2) (pasT k c (i + 1) T) :=
      k_take_sh (m := 0) hw (by omega) hk (by omega) hc hs (by rw [e1]; exact ff i (by omega) (by omega)) (by rw [e2]; exact ff k (Nat.le_refl _) hk) (by rw [e2]; exact hp) (fun j x => pasT_s hi T j x)
    refine ih (i + 1) (k_row k c w i x) (by omega) (by omega) hs' ?_
    have hat := hs' i c (by omega) hc
    have hin : pasT k c (i + 1) T i c = T i c - (T i c).fdiv (T k c) * T k c := pasT_in ⟨hi, by omega⟩
    have fr : fit (pasT k c (i + 1) T i c) := by rw [hin]; exact rest_fit (ff k (Nat.le_refl _) hk) (by omega)
    have hold : ∀ r, r < i → pasT k c (i + 1) T r c = pasT k c i T r c := fun r hr => by rw [pasT_s hi, if_neg (by omega)]
    have hfl : (k_row k c w i x).1 ≠ 0 ↔ x.1 ≠ 0 ∧ pasT k c (i + 1) T i c = 0 := by
      unfold k_row
      rw [hat]
      by_cases z : x.1 = 0
      · simp [z]
      · rw [if_neg z]
        by_cases y : pasT k c (i + 1) T i c = 0
        · rw [if_pos ((oI_eq0 fr).mpr y)]; simp [z, y]
        · rw [if_neg (fun t => y ((oI_eq0 fr).mp t))]; simp [y]
    rw [hfl, hf]
    constructor
    · rintro ⟨a1, a2⟩ r h1 h2
      by_cases z : r = i
      · subst z; exact a2
      · rw [hold r (by omega)]; exact a1 r h1 (by omega)
    · intro a1
      exact ⟨fun r h1 h2 => by rw [← hold r h2]; exact a1 r h1 (by omega), a1 i hi (by omega)⟩
theorem k_pass_sh {h w k b c : Nat} {J : fl_TJ} {T : Nat → Nat → Int} (hw : w ≤ 8) (hk : k < h) (hkb : k ≤ b) (hb : b < h) (hc : c < w) (hs : shM h w J T) (ff : ∀ r, k ≤ r → r < h → fit (T r c)) (h0 : T b c ≠ 0) :
    shM h w (k_pass h k b c w J).2 (pasT k c h (pvT k b c T)) ∧ ((k_pass h k b c w J).1 ≠ 0 ↔ ∀ r, k < r → r < h → pasT k c h (pvT k b c T) r c = 0) := by
  have fb := ff b hkb hb
  have e1 : pvT k b c T k c = if T b c < 0 then -(T b c) else T b c := if_pos rfl
  refine k_rows_sh hw hk hc (fun r h1 h2 => ?_) (by rw [e1]; split <;> omega) (h - (k + 1)) (k + 1) (1, k_piv k b c w J) (by omega) (by omega) ?_ ?_
  · unfold pvT
    by_cases q : r = k
    · rw [if_pos q]; unfold fit at *; split <;> omega
    · rw [if_neg q]
      by_cases q2 : r = b
      · rw [if_pos q2]; exact ff k (Nat.le_refl _) hk
      · rw [if_neg q2]; exact ff r h1 h2
  · have e3 : pasT k c (k + 1) (pvT k b c T) = pvT k b c T := by funext i x; exact pasT_out (by omega)
    rw [e3]
    exact k_piv_sh hw hk hb hc hs fb
  · simp only [ne_eq, Nat.one_ne_zero, not_false_eq_true, true_iff]
    intro r h1 h2
    omega
/-- the row with the least number that is not 0 -/
theorem sz64_oI {a : Int} (h : fit a) : sz64 (oI a) = oI (a.natAbs : Int) := by
  unfold sz64
  by_cases q : a < 0
  · rw [if_pos ((oI_lt0 h).mpr q), oI_neg]
    congr 1
    omega
  · rw [if_neg (fun z => q ((oI_lt0 h).mp z))]
    congr 1
    omega
theorem fit_abs {a : Int} (h : fit a) : fit (a.natAbs : Int) := by unfold fit at *; omega
theorem k_least_sh {h w c : Nat} {J : fl_TJ} {T : Nat → Nat → Int} (hw : w ≤ 8) (hc : c < w) (hs : shM h w J T) {fr : Nat} (ff : ∀ r, fr ≤ r → r < h → fit (T r c)) : ∀ (q i : Nat) (bo : Option Nat), i + q = h → fr ≤ i → (match bo with | none => ∀ r, fr ≤ r → r < i → T r c = 0 | some b => (fr ≤ b ∧ b < i) ∧ T b c ≠ 0 ∧ ∀ r, fr ≤ r → r < i → T r c ≠ 0 → (T b c).natAbs ≤ (T r c).natAbs) →
    (match fl_it (k_ls1 c J) q i bo with | none => ∀ r, fr ≤ r → r < h → T r c = 0 | some b => (fr ≤ b ∧ b < h) ∧ T b c ≠ 0 ∧ ∀ r, fr ≤ r → r < h → T r c ≠ 0 → (T b c).natAbs ≤ (T r c).natAbs) := by
  intro q
  induction q with
  | zero =>
    intro i bo hq _ hb
    have : i = h := by omega
    subst this
    exact hb
  | succ q ih =>
    intro i bo hq hi hb
    refine ih (i + 1) (k_ls1 c J i bo) (by omega) (by omega) ?_
    have fi := ff i hi (by omega)
    have hsz : sz64 (J 33 (8 * i + c)) = oI ((T i c).natAbs : Int) := by rw [hs i c (by omega) hc]; exact sz64_oI fi
    have hpos : 0 < sz64 (J 33 (8 * i + c)) ↔ T i c ≠ 0 := by
      rw [hsz, show (0 : Int64) = oI 0 from rfl, oI_lt (by unfold fit; omega) (fit_abs fi)]
      omega
    cases bo with
    | none =>
      simp only [k_ls1]
      by_cases z : T i c ≠ 0
      · rw [if_pos (hpos.mpr z)]
        exact ⟨⟨hi, by omega⟩, z, fun r h1 h2 h3 => by
          by_cases y : r = i
          · subst y; exact Nat.le_refl _
          · exact absurd (hb r h1 (by omega)) h3⟩
      · rw [if_neg (fun t => z (hpos.mp t))]
        intro r h1 h2
        by_cases y : r = i
        · subst y; exact Classical.byContradiction z
        · exact hb r h1 (by omega)
    | some b =>
      obtain ⟨⟨b1, b2⟩, b3, b4⟩ := hb
      have hszb : sz64 (J 33 (8 * b + c)) = oI ((T b c).natAbs : Int) := by rw [hs b c (by omega) hc]; exact sz64_oI (ff b b1 (by omega))
      simp only [k_ls1]
      by_cases z : T i c ≠ 0
      · rw [if_pos (hpos.mpr z)]
        have hlt : sz64 (J 33 (8 * i + c)) < sz64 (J 33 (8 * b + c)) ↔ (T i c).natAbs < (T b c).natAbs := by
          rw [hsz, hszb, oI_lt (fit_abs fi) (fit_abs (ff b b1 (by omega)))]
          omega
        by_cases y : (T i c).natAbs < (T b c).natAbs
        · rw [if_pos (hlt.mpr y)]
          exact ⟨⟨hi, by omega⟩, z, fun r h1 h2 h3 => by
            by_cases t : r = i
            · subst t; exact Nat.le_refl _
            · have := b4 r h1 (by omega) h3; omega⟩
        · rw [if_neg (fun t => y (hlt.mp t))]
          exact ⟨⟨b1, by omega⟩, b3, fun r h1 h2 h3 => by
            by_cases t : r = i
            · subst t; omega
            · exact b4 r h1 (by omega) h3⟩
      · rw [if_neg (fun t => z (hpos.mp t))]
        exact ⟨⟨b1, by omega⟩, b3, fun r h1 h2 h3 => by
          by_cases t : r = i
          · subst t; exact absurd h3 z
          · exact b4 r h1 (by omega) h3⟩
theorem k_least_none {h w c k : Nat} {J : fl_TJ} {T : Nat → Nat → Int} (hw : w ≤ 8) (hk : k ≤ h) (hc : c < w) (hs : shM h w J T) (ff : ∀ r, k ≤ r → r < h → fit (T r c)) (hl : k_least k c h J = none) : ∀ r, k ≤ r → r < h → T r c = 0 := by
  have := k_least_sh hw hc hs ff (h - k) k none (by omega) (Nat.le_refl _) (fun r h1 h2 => by omega)
  unfold k_least at hl
  rw [hl] at this
  exact this
theorem k_least_some {h w c k b : Nat} {J : fl_TJ} {T : Nat → Nat → Int} (hw : w ≤ 8) (hk : k ≤ h) (hc : c < w) (hs : shM h w J T) (ff : ∀ r, k ≤ r → r < h → fit (T r c)) (hl : k_least k c h J = some b) : (k ≤ b ∧ b < h) ∧ T b c ≠ 0 ∧ ∀ r, k ≤ r → r < h → T r c ≠ 0 → (T b c).natAbs ≤ (T r c).natAbs := by
  have := k_least_sh hw hc hs ff (h - k) k none (by omega) (Nat.le_refl _) (fun r h1 h2 => by omega)
  unfold k_least at hl
  rw [hl] at this
  exact this
/-- the rows above reduced -/
theorem k_up_sh {h w k c : Nat} {T : Nat → Nat → Int} (hw : w ≤ 8) (hk : k < h) (hc : c < w) (ff : ∀ r, r ≤ k → fit (T r c)) (hp : 0 < T k c) : ∀ (q i : Nat) (J : fl_TJ), i + q = k → shM h w J (redT k c i T) → shM h w (fl_it (fun r J => k_take r k w (dn64 (J 33 (8 * r + c)) (J 33 (8 * k + c))) J) q i J) (redT k c k T) := by
  intro q
  induction q with
  | zero => intro i J hq hs; have : i = k := by omega
            subst this; exact hs
  | succ q ih =>
    intro i J hq hs
    have e1 : ∀ x, redT k c i T i x = T i x := fun x => if_neg (by omega)
    have e2 : ∀ x, redT k c i T k x = T k x := fun x => if_neg (by omega)
    refine ih (i + 1) _ (by omega) (k_take_sh (m := 0) hw (by omega) hk (by omega) hc hs (by rw [e1]; exact ff i (by omega)) (by rw [e2]; exact ff k (Nat.le_refl _)) (by rw [e2]; exact hp) (fun j x => ?_))
    rw [e1, e1, e2, e2]
    unfold redT
    by_cases z : j = i
    · subst z; rw [if_pos (by omega), if_pos rfl]
    · rw [if_neg z]
      by_cases y : j < i
      · rw [if_pos y, if_pos (by omega)]
      · rw [if_neg y, if_neg (by omega)]
