/-! the model's lattice of remainders -/
def gTab : List (List Nat) := [[], [0], [0, 3], [0, 4, 6], [0, 5, 9, 8], [0, 6, 9, 12, 10], [0, 7, 12, 18, 18, 12], [0, 8, 12, 12, 18, 18, 14], [0, 9, 15, 18, 27, 24, 24, 16], [0, 10, 15, 24, 15, 24, 36, 24, 18], [0, 11, 18, 16, 27, 36, 36, 24, 30, 20], [0, 12, 18, 24, 27, 18, 36, 36, 36, 30, 22], [0, 13, 21, 30, 36, 27, 54, 36, 54, 48, 36, 24], [0, 14, 21, 20, 20, 36, 21, 36, 54, 48, 36, 36, 26], [0, 15, 24, 30, 36, 36, 36, 54, 54, 48, 54, 48, 42, 28], [0, 16, 24, 36, 36, 48, 54, 24, 54, 72, 72, 54, 60, 42, 30], [0, 17, 27, 24, 45, 24, 54, 36, 81, 72, 72, 54, 72, 42, 48, 32], [0, 18, 27, 36, 25, 36, 54, 36, 27, 72, 72, 72, 72, 42, 60, 48, 34], [0, 19, 30, 42, 45, 48, 72, 54, 45, 108, 72, 72, 108, 72, 72, 72, 54, 36], [0, 20, 30, 28, 45, 48, 28, 54, 54, 30, 72, 72, 108, 72, 72, 72, 54, 54, 38], [0, 21, 33, 42, 54, 60, 48, 54, 81, 45, 108, 72, 108, 72, 72, 96, 90, 72, 60, 40], [0, 22, 33, 48, 30, 30, 72, 72, 81, 72, 33, 72, 108, 108, 108, 108, 90, 72, 84, 60, 42], [0, 23, 36, 32, 54, 45, 72, 32, 81, 72, 54, 108, 108, 108, 108, 108, 108, 72, 90, 60, 66, 44], [0, 24, 36, 48, 54, 60, 72, 48, 81, 72, 54, 36, 108, 108, 108, 108, 108, 108, 96, 90, 84, 66, 46], [0, 25, 39, 54, 63, 60, 90, 48, 108, 108, 81, 54, 162, 108, 108, 144, 162, 108, 144, 96, 108, 96, 72, 48], [0, 26, 39, 36, 35, 72, 35, 72, 36, 108, 108, 72, 39, 108, 108, 144, 162, 108, 144, 96, 120, 96, 72, 72, 50], [0, 27, 42, 54, 63, 36, 60, 72, 60, 108, 108, 81, 63, 162, 108, 144, 162, 144, 144, 108, 120, 96, 108, 96, 78, 52], [0, 28, 42, 60, 63, 54, 90, 72, 72, 144, 108, 81, 90, 42, 108, 144, 162, 144, 216, 108, 120, 144, 108, 108, 108, 78, 54], [0, 29, 45, 40, 72, 72, 90, 90, 108, 40, 108, 108, 108, 63, 162, 144, 162, 144, 216, 108, 162, 144, 144, 120, 126, 78, 84, 56], [0, 30, 45, 60, 40, 72, 90, 40, 108, 60, 108, 108, 108, 63, 45, 144, 162, 144, 216, 144, 162, 162, 144, 144, 126, 78, 108, 84, 58], [0, 31, 48, 66, 72, 84, 108, 60, 108, 96, 144, 108, 162, 63, 72, 216, 162, 144, 216, 144, 216, 162, 162, 144, 180, 144, 126, 120, 90, 60], [0, 32, 48, 44, 72, 42, 42, 60, 108, 96, 44, 108, 162, 108, 90, 48, 162, 144, 216, 216, 216, 162, 162, 162, 180, 144, 126, 126, 90, 90, 62], [0, 33, 51, 66, 81, 63, 72, 90, 135, 96, 72, 108, 162, 108, 108, 72, 243, 144, 216, 216, 216, 162, 162, 162, 216, 144, 126, 126, 144, 120, 96, 64], [0, 34, 51, 72, 45, 84, 108, 90, 45, 144, 72, 144, 162, 108, 108, 108, 51, 144, 216, 216, 216, 216, 216, 162, 216, 144, 144, 180, 144, 120, 132, 96, 66], [0, 35, 54, 48, 81, 84, 108, 90, 75, 144, 108, 48, 162, 162, 108, 108, 81, 216, 216, 216, 216, 216, 216, 162, 216, 216, 144, 180, 180, 144, 144, 96, 102, 68], [0, 36, 54, 72, 81, 96, 108, 108, 90, 144, 144, 72, 162, 162, 162, 144, 81, 54, 216, 216, 216, 216, 216, 216, 216, 216, 216, 180, 180, 180, 168, 144, 132, 102, 70], [0, 37, 57, 78, 90, 48, 126, 48, 135, 180, 144, 96, 216, 162, 162, 162, 135, 81, 324, 216, 216, 216, 216, 216, 324, 216, 216, 288, 216, 180, 216, 144, 162, 144, 108, 72], [0, 38, 57, 52, 50, 72, 49, 72, 135, 50, 144, 108, 52, 162, 162, 162, 135, 108, 57, 216, 216, 216, 216, 216, 324, 216, 216, 288, 216, 216, 216, 144, 162, 144, 108, 108, 74], [0, 39, 60, 78, 90, 96, 84, 72, 135, 75, 144, 108, 84, 162, 162, 162, 162, 108, 90, 324, 216, 216, 216, 216, 324, 216, 216, 288, 216, 216, 216, 144, 162, 168, 162, 144, 114, 76], [0, 40, 60, 84, 90, 96, 126, 108, 135, 120, 144, 144, 120, 216, 162, 216, 162, 108, 126, 60, 216, 216, 216, 216, 324, 216, 324, 288, 216, 216, 216, 216, 180, 216, 168, 162, 156, 114, 78], [0, 41, 63, 56, 99, 108, 126, 108, 162, 120, 180, 144, 144, 56, 162, 216, 243, 162, 135, 90, 324, 216, 216, 216, 324, 288, 324, 288, 216, 216, 288, 216, 270, 216, 216, 192, 180, 114, 120, 80]]
/-- how much the rows may still grow: the pivot before, the pivot now -/
def gT (p q : Nat) : Nat := (gTab.getD p []).getD q 0
set_option maxRecDepth 100000 in
theorem gT_1 : ∀ p, p < 41 → ∀ q, q < p → 1 ≤ q → 1 + p / q ≤ gT p q ∧ gT p q ≤ 324 := by decide +kernel
set_option maxRecDepth 100000 in
theorem gT_2b : ((List.range 41).all fun p => (List.range p).all fun q => (List.range q).all fun s => decide (q = 0 ∨ s = 0 ∨ (p % q ≠ 0 ∧ p % q < s) ∨ (1 + p / q) * gT q s ≤ gT p q)) = true := by decide +kernel
theorem gT_2 {p q s : Nat} (hp : p < 41) (hq : q < p) (hq1 : 1 ≤ q) (hs : s < q) (hs1 : 1 ≤ s) (h : p % q = 0 ∨ s ≤ p % q) : (1 + p / q) * gT q s ≤ gT p q := by
  have h1 := List.all_eq_true.mp gT_2b p (List.mem_range.mpr hp)
  have h2 := List.all_eq_true.mp h1 q (List.mem_range.mpr hq)
  have h3 := of_decide_eq_true (List.all_eq_true.mp h2 s (List.mem_range.mpr hs))
  rcases h3 with z | z | z | z
  · omega
  · omega
  · omega
  · exact z
def MI (R0 Ts : Nat → Nat → Int) (h w k c E : Nat) (T : Nat → Nat → Int) : Prop := St T (fun i => i) k c h ∧ Eqv h w R0 T ∧ (∀ j x, j < k → T j x = Ts j x) ∧ (∀ j x, k < j → j < h → Ts j c = 0 → T j x = Ts j x) ∧ ∀ i x, k ≤ i → i < h → (i = k ∨ Ts i c ≠ 0) → c < x → x < w → (T i x).natAbs ≤ E
theorem MI.mono {R0 Ts T : Nat → Nat → Int} {h w k c E E' : Nat} (hM : MI R0 Ts h w k c E T) (hE : E ≤ E') : MI R0 Ts h w k c E' T := ⟨hM.1, hM.2.1, hM.2.2.1, hM.2.2.2.1, fun i x a b c d e => Nat.le_trans (hM.2.2.2.2 i x a b c d e) hE⟩
theorem pv_abs {k b c i x : Nat} {T : Nat → Nat → Int} {E : Nat} (hb : (T b x).natAbs ≤ E) (hk : (T k x).natAbs ≤ E) (hi : (T i x).natAbs ≤ E) : (pvT k b c T i x).natAbs ≤ E := by
  unfold pvT
  split
  · split <;> omega
  · split <;> assumption
theorem MI.pass {R0 Ts T : Nat → Nat → Int} {h w k c E Q b : Nat} (hk : k + 1 < h) (hkb : k ≤ b) (hb : b < h) (h0 : T b c ≠ 0) (hM : MI R0 Ts h w k c E T) (hQ : ∀ i, k < i → i < h → ((pvT k b c T i c).fdiv (pvT k b c T k c)).natAbs ≤ Q) : MI R0 Ts h w k c (E * (1 + Q)) (pasT k c h (pvT k b c T)) := by
  obtain ⟨m1, m2, m3, m4, m5⟩ := hM
  have hl : k ≠ k + 1 := by omega
  have cl1 : ∀ (T N : Nat → Nat → Int) u l z, u ≠ l → k ≤ u → u < h → k ≤ l → l < h → Opc.ok z → (St T (fun i => i) k c h ∧ Eqv h w R0 T) → (St (opT u l z T) (fun i => i) k c h ∧ Eqv h w R0 (opT u l z T)) := fun T N u l z g1 g2 g3 g4 g5 g6 g7 => ⟨g7.1.op z g2 g3 g4 g5 g1, g7.2.tr (Eqv.op g1 g3 g5 g6)⟩
  have cl2 : ∀ (T N : Nat → Nat → Int), (St T (fun i => i) k c h ∧ Eqv h w R0 T) → (St (ngT k T) (fun i => i) k c h ∧ Eqv h w R0 (ngT k T)) := fun T N g => by
    have e1 : ngT k T = opT k (k + 1) ngz T := by
      funext i x
      rw [opT_ngz hl]
      rfl
    rw [e1]
    exact cl1 T N k (k + 1) ngz hl (Nat.le_refl _) (by omega) (by omega) hk ngz_ok g
  have s1 := pv_close (n := h) (k := k) (b := b) (fun T _ => St T (fun i => i) k c h ∧ Eqv h w R0 T) cl1 cl2 (by omega) hkb hb (T := T) (N := T) ⟨m1, m2⟩ (T b c)
  have s2 := pas_close (n := h) (k := k) (c := c) (fun T _ => St T (fun i => i) k c h ∧ Eqv h w R0 T) cl1 (by omega) (T := pvT k b c T) (N := T) s1 h (Nat.le_refl _)
  have far : ∀ j x, j ≠ k → j ≠ b → pvT k b c T j x = T j x := fun j x g1 g2 => by unfold pvT; rw [if_neg g1, if_neg g2]
  refine ⟨s2.1, s2.2, fun j x hj => ?_, fun j x h1 h2 h3 => ?_, fun i x h1 h2 h5 h3 h4 => ?_⟩
  · rw [pasT_out (.inl (by omega)), far j x (by omega) (by omega)]; exact m3 j x hj
  · have tj : T j c = 0 := by rw [m4 j c h1 h2 h3]; exact h3
    have jb : j ≠ b := fun q => h0 (q ▸ tj)
    rw [pasT_in ⟨h1, h2⟩, far j x (by omega) jb, far j c (by omega) jb, tj, Int.zero_fdiv, m4 j x h1 h2 h3]
    omega
  · have hbq : b = k ∨ Ts b c ≠ 0 := by
      by_cases q : b = k
      · exact .inl q
      · exact .inr (fun z => h0 (by rw [m4 b c (by omega) hb z]; exact z))
    have bd : ∀ i, k ≤ i → i < h → (i = k ∨ Ts i c ≠ 0) → (pvT k b c T i x).natAbs ≤ E := fun i g1 g2 g3 => pv_abs (m5 b x hkb hb hbq h3 h4) (m5 k x (Nat.le_refl _) (by omega) (.inl rfl) h3 h4) (m5 i x g1 g2 g3 h3 h4)
    have e1 : E * (1 + Q) = E + Q * E := by rw [Nat.mul_add, Nat.mul_one, Nat.mul_comm]
    rw [e1]
    by_cases q : i = k
    · subst q
      rw [pasT_k]
      have := bd i h1 h2 h5
      omega
    · rw [pasT_in ⟨by omega, h2⟩]
      have g1 := bd i h1 h2 h5
      have g2 := na_mul (hQ i (by omega) h2) (bd k (Nat.le_refl _) (by omega) (.inl rfl))
      have g3 := na_sub (pvT k b c T i x) ((pvT k b c T i c).fdiv (pvT k b c T k c) * pvT k b c T k x)
      omega
theorem fd_nat {v q : Int} {p qn : Nat} (hq : q = (qn : Int)) (h1 : 1 ≤ qn) (h0 : 0 ≤ v) (hv : v ≤ (p : Int)) : (v.fdiv q).natAbs ≤ p / qn := by
  have a1 : 0 ≤ v.fdiv q := (le_fd_pos (show 0 < q by omega)).mpr (by omega)
  have a2 : ¬ ((p / qn : Nat) : Int) + 1 ≤ v.fdiv q := fun z => by
    have := (le_fd_pos (show 0 < q by omega)).mp z
    have e := Nat.div_add_mod p qn
    have m := Nat.mod_lt p (show 0 < qn by omega)
    have : ((p / qn : Nat) : Int) * (qn : Int) = ((qn * (p / qn) : Nat) : Int) := by rw [Int.natCast_mul, Int.mul_comm]
    rw [hq, Int.add_mul] at *
    omega
  omega
theorem fd_rest {p qn : Nat} (h1 : 1 ≤ qn) : ((p : Int) - (p : Int).fdiv (qn : Int) * (qn : Int)) = ((p % qn : Nat) : Int) := by
  have e0 : (p : Int).fdiv (qn : Int) = ((p / qn : Nat) : Int) := by
    rw [Int.fdiv_eq_ediv_of_nonneg _ (by omega)]
    exact (Int.natCast_ediv p qn).symm
  rw [e0]
  have e := Nat.div_add_mod p qn
  have : ((p / qn : Nat) : Int) * (qn : Int) = ((qn * (p / qn) : Nat) : Int) := by rw [Int.natCast_mul, Int.mul_comm]
  omega
/-- the later passes of a stage -/
theorem mel_later {R0 Ts : Nat → Nat → Int} {h w k c Z : Nat} (hk : k + 1 < h) (hw : w ≤ 8) (hc : c < w) :
    ∀ (f b : Nat) (J : fl_TJ) (T : Nat → Nat → Int) (E p q : Nat), shM h w J T → MI R0 Ts h w k c E T → T k c = (p : Int) → p ≤ 40 → (∀ i, k < i → i < h → 0 ≤ T i c ∧ T i c < (p : Int)) → k < b → b < h → T b c = (q : Int) → 1 ≤ q → E * gT p q ≤ Z → q ≤ f →
    ∃ J' T', k_el h k c w f b J = some J' ∧ shM h w J' T' ∧ MI R0 Ts h w k c Z T' ∧ 0 < T' k c ∧ T' k c ≤ 40 ∧ ∀ r, k < r → r < h → T' r c = 0 := by
  intro f
  induction f with
  | zero => intro b J T E p q _ _ _ _ _ _ _ _ h1 _ hf; omega
  | succ f ih =>
    intro b J T E p q hs hM hp hp40 hin hkb hb hq hq1 hZ hf
    have hqp : q < p := by have := (hin b hkb hb).2; omega
    have ff : ∀ r, k ≤ r → r < h → fit (T r c) := fun r h1 h2 => by
      by_cases z : r = k
      · rw [z, hp]; unfold fit; omega
      · have := hin r (by omega) h2; unfold fit; omega
    have h0 : T b c ≠ 0 := by omega
    obtain ⟨s1, s2⟩ := k_pass_sh hw (by omega) (by omega) hb hc hs ff h0
    have vk : pvT k b c T k c = (q : Int) := by unfold pvT; rw [if_pos rfl, if_neg (by omega)]; exact hq
    have vb : pvT k b c T b c = (p : Int) := by unfold pvT; rw [if_neg (by omega), if_pos rfl]; exact hp
    have vi : ∀ i, k < i → i < h → 0 ≤ pvT k b c T i c ∧ pvT k b c T i c ≤ (p : Int) := fun i h1 h2 => by
      by_cases z : i = b
      · rw [z, vb]; omega
      · have e1 : pvT k b c T i c = T i c := by unfold pvT; rw [if_neg (by omega), if_neg z]
        rw [e1]; have := hin i h1 h2; omega
    have M1 := hM.pass (Q := p / q) hk (by omega) hb h0 (fun i h1 h2 => fd_nat vk hq1 (vi i h1 h2).1 (vi i h1 h2).2)
    have t0 : pasT k c h (pvT k b c T) k c = (q : Int) := by rw [pasT_k]; exact vk
    have tin : ∀ r, k < r → r < h → 0 ≤ pasT k c h (pvT k b c T) r c ∧ pasT k c h (pvT k b c T) r c < (q : Int) := fun r h1 h2 => by
      rw [pasT_in ⟨h1, h2⟩, ← vk]
      exact rest_pos (by rw [vk]; omega)
    have tb : pasT k c h (pvT k b c T) b c = ((p % q : Nat) : Int) := by
      rw [pasT_in ⟨hkb, hb⟩, vb, vk]; exact fd_rest hq1
    obtain ⟨g1, g2⟩ := gT_1 p (by omega) q hqp hq1
    unfold k_el
    by_cases hfl : (k_pass h k b c w J).1 = 0
    · rw [if_pos hfl]
      have ff1 : ∀ r, k ≤ r → r < h → fit (pasT k c h (pvT k b c T) r c) := fun r h1 h2 => by
        by_cases z : r = k
        · rw [z, t0]; unfold fit; omega
        · have := tin r (by omega) h2; unfold fit; omega
      have hex : ∃ r, k < r ∧ r < h ∧ pasT k c h (pvT k b c T) r c ≠ 0 := by
        apply Classical.byContradiction
        intro hno
        exact (s2.mpr (fun r h1 h2 => Classical.byContradiction (fun z => hno ⟨r, h1, h2, z⟩))) hfl
      obtain ⟨r, r1, r2, r3⟩ := hex
      cases hl : k_least k c h (k_pass h k b c w J).2 with
      | none => exact absurd (k_least_none hw (by omega) hc s1 ff1 hl r (by omega) r2) r3
      | some b2 =>
        obtain ⟨⟨l1, l2⟩, l3, l4⟩ := k_least_some hw (by omega) hc s1 ff1 hl
        have hr := l4 r (by omega) r2 r3
        have hrt := tin r r1 r2
        have b2k : k < b2 := by
          rcases Nat.lt_or_ge k b2 with z | z
          · exact z
          · have : b2 = k := by omega
            rw [this, t0] at hr
            omega
        have hb2 := tin b2 b2k l2
        obtain ⟨s, hs9⟩ : ∃ s : Nat, pasT k c h (pvT k b c T) b2 c = (s : Int) := ⟨(pasT k c h (pvT k b c T) b2 c).toNat, by omega⟩
        have cond : p % q = 0 ∨ s ≤ p % q := by
          by_cases z : p % q = 0
          · exact .inl z
          · have := l4 b (by omega) hb (by rw [tb]; omega)
            rw [tb, hs9] at this
            exact .inr (by omega)
        have gg := gT_2 (p := p) (q := q) (s := s) (by omega) hqp hq1 (by omega) (by omega) cond
        refine ih b2 _ _ (E * (1 + p / q)) q s s1 M1 t0 (by omega) tin b2k l2 hs9 (by omega) ?_ (by omega)
        rw [Nat.mul_assoc]
        exact Nat.le_trans (Nat.mul_le_mul_left _ gg) hZ
    · rw [if_neg hfl]
      exact ⟨_, _, rfl, s1, M1.mono (Nat.le_trans (Nat.mul_le_mul_left _ g1) hZ), by rw [t0]; omega, by rw [t0]; omega, fun r h1 h2 => s2.mp hfl r h1 h2⟩
/-- a stage -/
theorem mel_run {R0 T : Nat → Nat → Int} {h w k c E V f b : Nat} {J : fl_TJ} (hk : k + 1 < h) (hw : w ≤ 8) (hc : c < w) (hs : shM h w J T) (hM : MI R0 T h w k c E T) (hV : ∀ j, k ≤ j → j < h → (T j c).natAbs ≤ V) (hVf : V < 9223372036854775807) (hkb : k ≤ b) (hb : b < h) (h0 : T b c ≠ 0) (hb40 : (T b c).natAbs ≤ 40) (hf : 100 ≤ f) :
    ∃ J' T', k_el h k c w f b J = some J' ∧ shM h w J' T' ∧ MI R0 T h w k c (E * (2 + V) * 324) T' ∧ 0 < T' k c ∧ T' k c ≤ 40 ∧ ∀ r, k < r → r < h → T' r c = 0 := by
  have ff : ∀ r, k ≤ r → r < h → fit (T r c) := fun r h1 h2 => by have := hV r h1 h2; unfold fit; omega
  obtain ⟨s1, s2⟩ := k_pass_sh hw (by omega) hkb hb hc hs ff h0
  obtain ⟨f, rfl⟩ : ∃ f', f = f' + 1 := ⟨f - 1, by omega⟩
  have vk : pvT k b c T k c = ((T b c).natAbs : Int) := by
    unfold pvT
    rw [if_pos rfl]
    by_cases z : T b c < 0
    · rw [if_pos z]; omega
    · rw [if_neg z]; omega
  have vi : ∀ i, k < i → i < h → (pvT k b c T i c).natAbs ≤ V := fun i h1 h2 => pv_abs (hV b hkb hb) (hV k (Nat.le_refl _) (by omega)) (hV i (by omega) h2)
  have M1 := hM.pass (Q := V + 1) hk hkb hb h0 (fun i h1 h2 => by
    have := na_fdiv (a := pvT k b c T i c) (b := pvT k b c T k c) (by rw [vk]; omega)
    have := vi i h1 h2
    omega)
  rw [show 1 + (V + 1) = 2 + V from by omega] at M1
  have t0 : pasT k c h (pvT k b c T) k c = ((T b c).natAbs : Int) := by rw [pasT_k]; exact vk
  have tin : ∀ r, k < r → r < h → 0 ≤ pasT k c h (pvT k b c T) r c ∧ pasT k c h (pvT k b c T) r c < ((T b c).natAbs : Int) := fun r h1 h2 => by
    rw [pasT_in ⟨h1, h2⟩, ← vk]
    exact rest_pos (by rw [vk]; omega)
  unfold k_el
  by_cases hfl : (k_pass h k b c w J).1 = 0
  · rw [if_pos hfl]
    have ff1 : ∀ r, k ≤ r → r < h → fit (pasT k c h (pvT k b c T) r c) := fun r h1 h2 => by
      by_cases z : r = k
      · rw [z, t0]; unfold fit; omega
      · have := tin r (by omega) h2; unfold fit; omega
    have hex : ∃ r, k < r ∧ r < h ∧ pasT k c h (pvT k b c T) r c ≠ 0 := by
      apply Classical.byContradiction
      intro hno
      exact (s2.mpr (fun r h1 h2 => Classical.byContradiction (fun z => hno ⟨r, h1, h2, z⟩))) hfl
    obtain ⟨r, r1, r2, r3⟩ := hex
    cases hl : k_least k c h (k_pass h k b c w J).2 with
    | none => exact absurd (k_least_none hw (by omega) hc s1 ff1 hl r (by omega) r2) r3
    | some b2 =>
      obtain ⟨⟨l1, l2⟩, l3, l4⟩ := k_least_some hw (by omega) hc s1 ff1 hl
      have hr := l4 r (by omega) r2 r3
      have hrt := tin r r1 r2
      have b2k : k < b2 := by
        rcases Nat.lt_or_ge k b2 with z | z
        · exact z
        · have : b2 = k := by omega
          rw [this, t0] at hr
          omega
      have hb2 := tin b2 b2k l2
      obtain ⟨s, hs9⟩ : ∃ s : Nat, pasT k c h (pvT k b c T) b2 c = (s : Int) := ⟨(pasT k c h (pvT k b c T) b2 c).toNat, by omega⟩
      have g := (gT_1 (T b c).natAbs (by omega) s (by omega) (by omega)).2
      exact mel_later hk hw hc f b2 _ _ (E * (2 + V)) (T b c).natAbs s s1 M1 t0 hb40 tin b2k l2 hs9 (by omega) (Nat.mul_le_mul_left _ g) (by omega)
  · rw [if_neg hfl]
    exact ⟨_, _, rfl, s1, M1.mono (by omega), by rw [t0]; omega, by rw [t0]; omega, fun r h1 h2 => s2.mp hfl r h1 h2⟩
def WMd (R0 : Nat → Nat → Int) (n m e c : Nat) (T : Nat → Nat → Int) : Prop :=
  St T (fun i => i) c c (n + e) ∧ Eqv (n + e) e R0 T ∧ (∀ d x, c ≤ d → d < e → T (n + d) x = if x = d then (m : Int) else 0) ∧ (c = 0 → (∀ i x, i < n + e → x < e → (T i x).natAbs ≤ 40) ∧ ∀ i x, i < n + e → (i = 0 ∨ T i 0 ≠ 0) → 0 < x → x < e → (T i x).natAbs ≤ 9) ∧ (c = 1 → ∀ i x, i < n + e → 1 ≤ x → x < e → (T i x).natAbs ≤ 122472) ∧ (c = 2 → 2 < e → ∀ i, i < n + e → (T i 2).natAbs ≤ 1000000000000000000)
theorem ms_stage {R0 T : Nat → Nat → Int} {n m e c fu E V : Nat} {J : fl_TJ} (hn1 : 1 ≤ n) (hn : n ≤ 4) (he : e ≤ 3) (hc : c < e) (hm1 : 1 ≤ m) (hm : m ≤ 40) (hf : 9223372036854775808 ≤ fu) (w1 : St T (fun i => i) c c (n + e)) (w2 : Eqv (n + e) e R0 T) (w3 : ∀ d x, c ≤ d → d < e → T (n + d) x = if x = d then (m : Int) else 0) (hV : ∀ j, j < n + e → (T j c).natAbs ≤ V) (hVf : V ≤ 1000000000000000000) (hE : ∀ i x, c ≤ i → i < n + e → (i = c ∨ T i c ≠ 0) → c < x → x < e → (T i x).natAbs ≤ E) (hs : shM (n + e) e J T) :
    ∃ b J1 T', k_least c c (n + e) J = some b ∧ k_el (n + e) c c e fu b J = some J1 ∧ shM (n + e) e (k_up c c e J1) T' ∧ St T' (fun i => i) (c + 1) (c + 1) (n + e) ∧ Eqv (n + e) e R0 T' ∧ (∀ d x, c + 1 ≤ d → d < e → T' (n + d) x = if x = d then (m : Int) else 0) ∧ (∀ i x, c ≤ i → i < n + e → c < x → x < e → (T' i x).natAbs ≤ E * (2 + V) * 324 ∨ T' i x = T i x) ∧ ∀ i x, i < c → c < x → x < e → (T' i x).natAbs ≤ (T i x).natAbs + (V + 1) * (E * (2 + V) * 324) := by
  have ff : ∀ r, c ≤ r → r < n + e → fit (T r c) := fun r h1 h2 => by have := hV r h2; unfold fit; omega
  have tm : T (n + c) c = (m : Int) := by rw [w3 c c (Nat.le_refl _) hc, if_pos rfl]
  cases hl : k_least c c (n + e) J with
  | none =>
    have := k_least_none (by omega) (by omega) hc hs ff hl (n + c) (by omega) (by omega)
    omega
  | some b =>
    obtain ⟨⟨l1, l2⟩, l3, l4⟩ := k_least_some (by omega) (by omega) hc hs ff hl
    have hb40 : (T b c).natAbs ≤ 40 := by
      have := l4 (n + c) (by omega) (by omega) (by omega)
      rw [tm] at this
      omega
    obtain ⟨J1, T1, r1, r2, ⟨m1, m2, m3, m4, m5⟩, r4, r5, r6⟩ := mel_run (R0 := R0) (by omega) (by omega) hc hs ⟨w1, w2, fun _ _ _ => rfl, fun _ _ _ _ _ => rfl, hE⟩ (fun j _ h2 => hV j h2) (by omega) l1 l2 l3 hb40 (show 100 ≤ fu by omega)
    obtain ⟨T2, t1, t2, t3, t4, t5, t6⟩ := wr_end (c := c) (h := n + e) (e := e) (R0 := R0) (T := T1) (by omega) (.inr r4) m1 m2 (by omega) r6
    rw [if_neg (by omega)] at t1
    have hup : shM (n + e) e (k_up c c e J1) T2 := by
      rw [t1]
      refine k_up_sh (by omega) (by omega) hc (fun r hr => ?_) r4 c 0 J1 (by omega) (by rw [redT_0]; exact r2)
      by_cases z : r = c
      · rw [z]; unfold fit; omega
      · rw [m3 r c (by omega)]
        have := hV r (by omega)
        unfold fit; omega
    refine ⟨b, J1, T2, rfl, r1, hup, t2, t3, fun d x h1 h2 => ?_, fun i x h1 h2 h3 h4 => ?_, fun i x h1 h2 h3 => ?_⟩
    · rw [t4 _ _ (by omega), m4 _ _ (by omega) (by omega) (by rw [w3 d c (by omega) h2, if_neg (by omega)])]
      exact w3 d x (by omega) h2
    · by_cases z : i = c
      · subst z
        rw [t5 x]
        exact .inl (m5 i x (Nat.le_refl _) h2 (.inl rfl) h3 h4)
      · rw [t4 i x (by omega)]
        by_cases y : T i c = 0
        · exact .inr (m4 i x (by omega) h2 y)
        · exact .inl (m5 i x h1 h2 (.inr y) h3 h4)
    · have g1 := t6 i x h1
      rw [m3 i x h1, m3 i c h1] at g1
      have g2 := hV i (by omega)
      have g3 := m5 c x (Nat.le_refl _) (by omega) (.inl rfl) h2 h3
      have g4 : ((T i c).natAbs + 1) * (T1 c x).natAbs ≤ (V + 1) * (E * (2 + V) * 324) := Nat.mul_le_mul (by omega) g3
      omega
theorem ms_step {R0 T : Nat → Nat → Int} {n m e c fu : Nat} {J : fl_TJ} (hn1 : 1 ≤ n) (hn : n ≤ 4) (he : e ≤ 3) (hc : c < e) (hm1 : 1 ≤ m) (hm : m ≤ 40) (hf : 9223372036854775808 ≤ fu) (hW : WMd R0 n m e c T) (hs : shM (n + e) e J T) :
    ∃ b J1 T', k_least c c (n + e) J = some b ∧ k_el (n + e) c c e fu b J = some J1 ∧ shM (n + e) e (k_up c c e J1) T' ∧ WMd R0 n m e (c + 1) T' := by
  obtain ⟨w1, w2, w3, w4, w5, w6⟩ := hW
  have : c = 0 ∨ c = 1 ∨ c = 2 := by omega
  rcases this with rfl | rfl | rfl
  · obtain ⟨a1, a2⟩ := w4 rfl
    obtain ⟨b, J1, T', r1, r2, r3, r4, r5, r6, r7, r8⟩ := ms_stage (E := 9) (V := 40) hn1 hn he hc hm1 hm hf w1 w2 w3 (fun j hj => a1 j 0 hj hc) (by decide) (fun i x h1 h2 h3 h4 h5 => a2 i x h2 h3 h4 h5) hs
    refine ⟨b, J1, T', r1, r2, r3, r4, r5, r6, fun h => by omega, fun _ i x h1 h2 h3 => ?_, fun h => by omega⟩
    rcases r7 i x (by omega) h1 (by omega) h3 with z | z
    · exact z
    · rw [z]; have := a1 i x h1 h3; omega
  · have a1 := w5 rfl
    obtain ⟨b, J1, T', r1, r2, r3, r4, r5, r6, r7, r8⟩ := ms_stage (E := 122472) (V := 122472) hn1 hn he hc hm1 hm hf w1 w2 w3 (fun j hj => a1 j 1 hj (by omega) hc) (by decide) (fun i x h1 h2 h3 h4 h5 => a1 i x h2 (by omega) h5) hs
    refine ⟨b, J1, T', r1, r2, r3, r4, r5, r6, fun h => by omega, fun h => by omega, fun _ q i h1 => ?_⟩
    by_cases z : i = 0
    · subst z
      have g1 := r8 0 2 (by omega) (by omega) q
      have g2 := a1 0 2 h1 (by omega) q
      omega
    · rcases r7 i 2 (by omega) h1 (by omega) q with y | y
      · omega
      · rw [y]; have := a1 i 2 h1 (by omega) q; omega
  · have a1 := w6 rfl hc
    obtain ⟨b, J1, T', r1, r2, r3, r4, r5, r6, r7, r8⟩ := ms_stage (E := 0) (V := 1000000000000000000) hn1 hn he hc hm1 hm hf w1 w2 w3 (fun j hj => a1 j hj) (by decide) (fun i x h1 h2 h3 h4 h5 => by omega) hs
    exact ⟨b, J1, T', r1, r2, r3, r4, r5, r6, fun h => by omega, fun h => by omega, fun h => by omega⟩
theorem ms_form {R0 : Nat → Nat → Int} {n m e fu : Nat} (hn1 : 1 ≤ n) (hn : n ≤ 4) (he : e ≤ 3) (hm1 : 1 ≤ m) (hm : m ≤ 40) (hf : 9223372036854775808 ≤ fu) : ∀ (f c : Nat) (I : fl_TI) (J : fl_TJ) (T : Nat → Nat → Int), c + f = e → WMd R0 n m e c T → shM (n + e) e J T → (∀ i, i < c → I 34 i = nI i) →
    ∃ I' J' T', k_form fu (n + e) e f c (c, I, J) = some (e, I', J') ∧ WMd R0 n m e e T' ∧ shM (n + e) e J' T' ∧ ∀ i, i < e → I' 34 i = nI i := by
  intro f
  induction f with
  | zero =>
    intro c I J T hcf hW hs hI
    have : c = e := by omega
    subst this
    exact ⟨I, J, T, rfl, hW, hs, hI⟩
  | succ f ih =>
    intro c I J T hcf hW hs hI
    obtain ⟨b, J1, T', h1, h2, h3, h4⟩ := ms_step hn1 hn he (by omega) hm1 hm hf hW hs
    obtain ⟨I', J', T2, g1, g2, g3, g4⟩ := ih (c + 1) (fl_up I 34 c (nI c)) (k_up c c e J1) T' (by omega) h4 h3 (fun i hi => by
      by_cases q : i = c
      · subst q; rw [fl_up_s]
      · rw [fl_up_j q]; exact hI i (by omega))
    refine ⟨I', J', T2, ?_, g2, g3, g4⟩
    show (match k_least c c (n + e) J with
    | none => k_form fu (n + e) e f (c + 1) (c, I, J)
    | some b => (match k_el (n + e) c c e fu b J with
      | none => none
      | some J1 => k_form fu (n + e) e f (c + 1) (c + 1, fl_up I 34 c (nI c), k_up c c e J1))) = _
    rw [h1]
    dsimp only
    rw [h2]
    exact g1
theorem k_mr1_at (n e m j : Nat) (I : fl_TI) (J : fl_TJ) (r x : Nat) (hx : x < 8) : k_mr1 n e m j I J 33 (8 * r + x) = if r = j then (if x < e then (if n ≤ j then (if x = j - n then (nI m).toInt64 else 0) else (I 31 (4 * x + j)).toInt64) else 0) else J 33 (8 * r + x) := by
  have gen : ∀ (k i : Nat) (J : fl_TJ), i + k ≤ 8 → fl_it (fun q J => fl_up J 33 (8 * j + q) (if q < e then (if n ≤ j then (if q = j - n then (nI m).toInt64 else 0) else (I 31 (4 * q + j)).toInt64) else 0)) k i J 33 (8 * r + x) = if r = j ∧ i ≤ x ∧ x < i + k then (if x < e then (if n ≤ j then (if x = j - n then (nI m).toInt64 else 0) else (I 31 (4 * x + j)).toInt64) else 0) else J 33 (8 * r + x) := by
    intro k
    induction k with
    | zero => intro i J _; rw [if_neg (by omega)]; rfl
    | succ k ih =>
      intro i J hk
      show fl_it _ k (i + 1) (fl_up J 33 (8 * j + i) (if i < e then (if n ≤ j then (if i = j - n then (nI m).toInt64 else 0) else (I 31 (4 * i + j)).toInt64) else 0)) 33 (8 * r + x) = _
      rw [ih (i + 1) _ (by omega)]
      by_cases h1 : r = j ∧ i = x
      · obtain ⟨rfl, rfl⟩ := h1
        rw [if_neg (by omega), if_pos (show r = r ∧ i ≤ i ∧ i < i + (k + 1) by omega), fl_up_s]
      · by_cases h2 : r = j ∧ i + 1 ≤ x ∧ x < i + 1 + k
        · rw [if_pos h2, if_pos (show r = j ∧ i ≤ x ∧ x < i + (k + 1) by omega)]
        · rw [if_neg h2, if_neg (show ¬ (r = j ∧ i ≤ x ∧ x < i + (k + 1)) by omega), fl_up_j (by omega)]
  unfold k_mr1
  rw [gen 8 0 J (by omega)]
  by_cases h : r = j
  · rw [if_pos ⟨h, by omega⟩, if_pos h]
  · rw [if_neg (fun q => h q.1), if_neg h]
theorem k_mr_at (n e m : Nat) (I : fl_TI) (J : fl_TJ) (r x : Nat) (hx : x < 8) (hr : r < n + e) : k_mr n e m I J 33 (8 * r + x) = if x < e then (if n ≤ r then (if x = r - n then (nI m).toInt64 else 0) else (I 31 (4 * x + r)).toInt64) else 0 := by
  have gen : ∀ (k i : Nat) (J : fl_TJ), fl_it (fun j J => k_mr1 n e m j I J) k i J 33 (8 * r + x) = if i ≤ r ∧ r < i + k then (if x < e then (if n ≤ r then (if x = r - n then (nI m).toInt64 else 0) else (I 31 (4 * x + r)).toInt64) else 0) else J 33 (8 * r + x) := by
    intro k
    induction k with
    | zero => intro i J; rw [if_neg (by omega)]; rfl
    | succ k ih =>
      intro i J
      show fl_it _ k (i + 1) (k_mr1 n e m i I J) 33 (8 * r + x) = _
      rw [ih, k_mr1_at n e m i I J r x hx]
      by_cases h1 : r = i
      · subst h1
        rw [if_neg (by omega), if_pos rfl, if_pos (show r ≤ r ∧ r < r + (k + 1) by omega)]
      · rw [if_neg h1]
        by_cases h2 : i + 1 ≤ r ∧ r < i + 1 + k
        · rw [if_pos h2, if_pos (show i ≤ r ∧ r < i + (k + 1) by omega)]
        · rw [if_neg h2, if_neg (show ¬ (i ≤ r ∧ r < i + (k + 1)) by omega)]
  unfold k_mr
  rw [gen, if_pos (by omega)]
theorem nI64 {m : Nat} (h : m ≤ 40) : (nI m).toInt64 = oI (m : Int) := by rw [i64_of, nI_toInt (by omega)]
/-- the model's rows put in -/
theorem ms_begin {n e m : Nat} {I : fl_TI} {J : fl_TJ} (hn : n ≤ 4) (he : e ≤ 3) (hm : m ≤ 40) : shM (n + e) e (k_mr n e m I J) (mR (fun i x => aM I x i) n m e) := by
  intro i x hi hx
  rw [k_mr_at n e m I J i x (by omega) hi]
  unfold mR
  rw [if_pos hx, if_pos hx]
  by_cases h : i < n
  · rw [if_pos h, if_neg (by omega)]; exact i64_of _
  · rw [if_neg h, if_pos (by omega)]
    by_cases h2 : x = i - n
    · rw [if_pos h2, if_pos h2]; exact nI64 hm
    · rw [if_neg h2, if_neg h2]; rfl
theorem ms_start {a : Nat → Nat → Int} {n e m : Nat} (hn1 : 1 ≤ n) (ha : sml a e n) (hm : m ≤ 40) : WMd (mR (fun i x => a x i) n m e) n m e 0 (mR (fun i x => a x i) n m e) := by
  refine ⟨⟨fun i hi => by omega, fun i j _ hj => by omega, fun i j _ hj => by omega, fun i _ _ x hx => by omega⟩, Eqv.rf, fun d x _ h2 => ?_, fun _ => ⟨fun i x hi hx => ?_, fun i x hi h1 h2 h3 => ?_⟩, fun h => by omega, fun h => by omega⟩
  · rw [mR_low (by omega) (by omega), show n + d - n = d from by omega]
  · by_cases q : i < n
    · unfold mR; rw [if_pos hx, if_pos q]
      have := ha x i hx q
      show (a x i).natAbs ≤ _
      omega
    · rw [mR_low (by omega) hi]; split <;> omega
  · by_cases q : i < n
    · unfold mR; rw [if_pos h3, if_pos q]; exact ha x i h3 q
    · rw [mR_low (by omega) hi]
      by_cases z : x = i - n
      · exfalso
        rcases h1 with y | y
        · omega
        · apply y; rw [mR_low (by omega) hi, if_neg (by omega)]
      · rw [if_neg z]; decide
