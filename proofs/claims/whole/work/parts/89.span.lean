/-! rows of one span; cofactors; the second column of the form -/
def Eqv (h w : Nat) (T T' : Nat → Nat → Int) : Prop := (∀ i, i < h → Sp T h w (T' i)) ∧ ∀ i, i < h → Sp T' h w (T i)
theorem Eqv.rf {h w : Nat} {T : Nat → Nat → Int} : Eqv h w T T := ⟨fun _ hi => Sp.row hi, fun _ hi => Sp.row hi⟩
theorem Eqv.tr {h w : Nat} {T T' T2 : Nat → Nat → Int} (a : Eqv h w T T') (b : Eqv h w T' T2) : Eqv h w T T2 := ⟨fun i hi => Sp.trans a.1 (b.1 i hi), fun i hi => Sp.trans b.2 (a.2 i hi)⟩
theorem Eqv.op {h w u l : Nat} {T : Nat → Nat → Int} {z : Opc} (hne : u ≠ l) (hu : u < h) (hl : l < h) (hz : z.ok) : Eqv h w T (opT u l z T) := by
  obtain ⟨-, ⟨b1, b2, b3, b4⟩, -⟩ := hz
  refine ⟨fun i hi => ?_, fun i hi => ?_⟩
  · by_cases h1 : i = u
    · subst h1
      exact Sp.congr (Sp.comb z.a z.b (Sp.row hu) (Sp.row hl)) (fun x _ => opT_u)
    · by_cases h2 : i = l
      · subst h2
        exact Sp.congr (Sp.comb z.c z.d (Sp.row hu) (Sp.row hl)) (fun x _ => opT_l hne)
      · exact Sp.congr (Sp.row hi) (fun x _ => opT_o h1 h2)
  · by_cases h1 : i = u
    · subst h1
      refine Sp.congr (Sp.comb z.p z.r (Sp.row (H := opT i l z T) hu) (Sp.row (H := opT i l z T) hl)) (fun x _ => ?_)
      rw [opT_u, opT_l hne]
      have : z.p * (z.a * T i x + z.b * T l x) + z.r * (z.c * T i x + z.d * T l x) = (z.p * z.a + z.r * z.c) * T i x + (z.p * z.b + z.r * z.d) * T l x := by grind
      rw [this, b1, b2]; omega
    · by_cases h2 : i = l
      · subst h2
        refine Sp.congr (Sp.comb z.q z.s (Sp.row (H := opT u i z T) hu) (Sp.row (H := opT u i z T) hl)) (fun x _ => ?_)
        rw [opT_u, opT_l hne]
        have : z.q * (z.a * T u x + z.b * T i x) + z.s * (z.c * T u x + z.d * T i x) = (z.q * z.a + z.s * z.c) * T u x + (z.q * z.b + z.s * z.d) * T i x := by grind
        rw [this, b3, b4]; omega
      · exact Sp.congr (Sp.row (H := opT u l z T) hi) (fun x _ => (opT_o h1 h2).symm)
theorem Eqv.red {h w k c : Nat} {T0 T : Nat → Nat → Int} (hk : k < h) (hE : Eqv h w T0 T) : ∀ m, m ≤ k → Eqv h w T0 (redT k c m T) := by
  intro m
  induction m with
  | zero => intro _; rw [redT_0]; exact hE
  | succ m ih =>
    intro hm
    rw [redT_s (by omega)]
    exact (ih (by omega)).tr (Eqv.op (by omega) (by omega) hk (rdz_ok _))
/-- the cofactors -/
theorem opc_abs {z : Opc} (h : z.ok) : z.a.natAbs = z.s.natAbs ∧ z.b.natAbs = z.r.natAbs ∧ z.c.natAbs = z.q.natAbs ∧ z.d.natAbs = z.p.natAbs := by
  obtain ⟨⟨a1, a2, a3, a4⟩, -, c⟩ := h
  have e1 : z.a * (z.p * z.s - z.q * z.r) = z.s := by
    have : z.a * (z.p * z.s - z.q * z.r) = (z.a * z.p + z.b * z.q) * z.s - z.q * (z.a * z.r + z.b * z.s) := by grind
    rw [this, a1, a2]; omega
  have e2 : z.b * (z.p * z.s - z.q * z.r) = -z.r := by
    have : z.b * (z.p * z.s - z.q * z.r) = z.p * (z.a * z.r + z.b * z.s) - z.r * (z.a * z.p + z.b * z.q) := by grind
    rw [this, a1, a2]; omega
  have e3 : z.c * (z.p * z.s - z.q * z.r) = -z.q := by
    have : z.c * (z.p * z.s - z.q * z.r) = z.s * (z.c * z.p + z.d * z.q) - z.q * (z.c * z.r + z.d * z.s) := by grind
    rw [this, a3, a4]; omega
  have e4 : z.d * (z.p * z.s - z.q * z.r) = z.p := by
    have : z.d * (z.p * z.s - z.q * z.r) = z.p * (z.c * z.r + z.d * z.s) - z.r * (z.c * z.p + z.d * z.q) := by grind
    rw [this, a3, a4]; omega
  rcases c with d | d <;> rw [d] at e1 e2 e3 e4 <;> omega
theorem eu_small {a b : Int} (hb : fit b) : let z := euz 200 a b; z.a.natAbs ≤ b.natAbs + 1 ∧ z.b.natAbs ≤ a.natAbs + 1 ∧ z.c.natAbs ≤ b.natAbs + 1 ∧ z.d.natAbs ≤ a.natAbs + 1 := by
  have h0 := euz_zero200 (a := a) hb
  obtain ⟨o1, o2, o3, o4⟩ := opc_abs (euz_ok 200 a b)
  obtain ⟨r1, r2⟩ := euz_rs h0
  obtain ⟨p1, p2⟩ := euz_p h0
  show (euz 200 a b).a.natAbs ≤ b.natAbs + 1 ∧ (euz 200 a b).b.natAbs ≤ a.natAbs + 1 ∧ (euz 200 a b).c.natAbs ≤ b.natAbs + 1 ∧ (euz 200 a b).d.natAbs ≤ a.natAbs + 1
  by_cases z : b = 0
  · subst z
    rw [euz_b0]
    refine ⟨by decide, by show (0 : Int).natAbs ≤ _; exact Nat.zero_le _, by decide, by show (1 : Int).natAbs ≤ _; omega⟩
  · refine ⟨by omega, by omega, ?_, ?_⟩
    · rw [o3]
      have hg : eug 200 a b ≠ 0 := fun q => by rw [q] at p2; omega
      have e : ((euz 200 a b).q * eug 200 a b).natAbs = (euz 200 a b).q.natAbs * (eug 200 a b).natAbs := Int.natAbs_mul _ _
      have : (euz 200 a b).q.natAbs * 1 ≤ (euz 200 a b).q.natAbs * (eug 200 a b).natAbs := Nat.mul_le_mul_left _ (by omega)
      rw [← e, p2] at this
      omega
    · rw [o4]
      have hg : eug 200 a b ≠ 0 := fun q => by rw [q] at p2; omega
      have e : ((euz 200 a b).p * eug 200 a b).natAbs = (euz 200 a b).p.natAbs * (eug 200 a b).natAbs := Int.natAbs_mul _ _
      have : (euz 200 a b).p.natAbs * 1 ≤ (euz 200 a b).p.natAbs * (eug 200 a b).natAbs := Nat.mul_le_mul_left _ (by omega)
      rw [← e, p1] at this
      omega
/-- the second column of the form is small -/
theorem Fm.row_in {a : Nat → Nat → Int} {e n : Nat} {T : Nat → Nat → Int} {L : Nat → Nat} (h : Fm a e n T L) (hn : n ≤ 4) (j : Nat) (hj : j < n) : ∃ v, Sp T n (e + n) v ∧ ∀ c, c < e → v c = a c j := by
  refine ⟨mkR a e n (fun i => if i = j then 1 else 0), h.sp_mk hn _, fun c hc => ?_⟩
  unfold mkR dot
  rw [if_pos hc, sm_one hj (fun i _ hne => by show a c i * (if i = j then 1 else 0) = 0; rw [if_neg hne]; omega)]
  show a c j * (if j = j then 1 else 0) = _
  rw [if_pos rfl]; omega
theorem Fm.some_ne {a : Nat → Nat → Int} {e n : Nat} {T : Nat → Nat → Int} {L : Nat → Nat} (h : Fm a e n T L) (hn : n ≤ 4) {i c : Nat} (hi : i < n) (hc : c < e) (h0 : T i c ≠ 0) : ∃ j, j < n ∧ a c j ≠ 0 := by
  apply Classical.byContradiction
  intro hno
  apply h0
  rw [h.lin hn hi hc]
  exact sm_zero (fun j hj => by
    show a c j * T i (e + j) = 0
    have : a c j = 0 := Classical.byContradiction (fun q => hno ⟨j, hj, q⟩)
    rw [this]; omega)
theorem Fm.col1 {a : Nat → Nat → Int} {e n : Nat} {T : Nat → Nat → Int} {L : Nat → Nat} (h : Fm a e n T L) (hn : n ≤ 4) (ha : sml a e n) (he : 2 ≤ e) : ∀ i, i < n → (T i 1).natAbs ≤ 162 := by
  have dv : ∀ {x y : Int}, x ∣ y → y ≠ 0 → x.natAbs ≤ y.natAbs := fun {x y} hd h0 => Nat.le_of_dvd (by omega) (Int.natAbs_dvd_natAbs.mpr hd)
  -- a row with its lead at 1
  have lead : ∀ i, i < n → L i = 1 → (T i 1).natAbs ≤ 162 := by
    intro i hi hL
    have hp := (h.1.1 i hi).2.1
    rw [hL] at hp
    have first : ∀ v, Sp T n (e + n) v → v 0 = 0 → v 1 ≠ 0 → T i 1 ∣ v 1 := by
      intro v hv h0 h1
      obtain ⟨k, k1, k2, k3, k4⟩ := sp_first h.1 hv ⟨1, by omega, h1⟩
      have : L k = 1 := by
        have : L k = 0 ∨ L k = 1 ∨ 2 ≤ L k := by omega
        rcases this with q | q | q
        · rw [q] at k3; exact absurd h0 k3
        · exact q
        · exact absurd (k2 1 (by omega)) h1
      have hki : k = i := by
        rcases Nat.lt_trichotomy k i with z | z | z
        · have := h.1.2.1 k i z hi; omega
        · exact z
        · have := h.1.2.1 i k z k1; omega
      rw [hki, hL] at k4
      exact k4
    by_cases hz : ∃ j, j < n ∧ a 0 j ≠ 0
    · obtain ⟨j, hj, hj0⟩ := hz
      by_cases hm : ∃ k, k < n ∧ a 0 j * a 1 k - a 0 k * a 1 j ≠ 0
      · obtain ⟨k, hk, hk0⟩ := hm
        obtain ⟨vj, vj1, vj2⟩ := h.row_in hn j hj
        obtain ⟨vk, vk1, vk2⟩ := h.row_in hn k hk
        have := first (fun x => a 0 j * vk x + (-(a 0 k)) * vj x) (Sp.comb _ _ vk1 vj1) (by
          show a 0 j * vk 0 + (-(a 0 k)) * vj 0 = 0
          rw [vk2 0 (by omega), vj2 0 (by omega)]; grind) (by
          show ¬ (a 0 j * vk 1 + (-(a 0 k)) * vj 1 = 0)
          rw [vk2 1 (by omega), vj2 1 (by omega), Int.neg_mul]; omega)
        have e1 : a 0 j * vk 1 + (-(a 0 k)) * vj 1 = a 0 j * a 1 k - a 0 k * a 1 j := by
          rw [vk2 1 (by omega), vj2 1 (by omega), Int.neg_mul]; omega
        have b := dv (show T i 1 ∣ a 0 j * a 1 k - a 0 k * a 1 j from e1 ▸ this) hk0
        have m1 := na_mul (ha 0 j (by omega) hj) (ha 1 k (by omega) hk)
        have m2 := na_mul (ha 0 k (by omega) hk) (ha 1 j (by omega) hj)
        have := na_sub (a 0 j * a 1 k) (a 0 k * a 1 j)
        omega
      · exfalso
        have l0 := h.lin hn hi (show 0 < e by omega)
        have l1 := h.lin hn hi (show 1 < e by omega)
        have t0 : T i 0 = 0 := (h.1.1 i hi).2.2 0 (by omega)
        have : a 0 j * T i 1 = a 1 j * T i 0 := by
          rw [l0, l1]
          unfold dot
          rw [← sm_mul, ← sm_mul]
          refine sm_congr (fun k hk => ?_)
          have : a 0 j * a 1 k - a 0 k * a 1 j = 0 := Classical.byContradiction (fun q => hm ⟨k, hk, q⟩)
          show a 0 j * (a 1 k * T i (e + k)) = a 1 j * (a 0 k * T i (e + k))
          have e2 : a 0 j * (a 1 k * T i (e + k)) = (a 0 j * a 1 k) * T i (e + k) := by grind
          have e3 : a 1 j * (a 0 k * T i (e + k)) = (a 0 k * a 1 j) * T i (e + k) := by grind
          rw [e2, e3, show a 0 j * a 1 k = a 0 k * a 1 j by omega]
        rw [t0, Int.mul_zero] at this
        rcases Int.mul_eq_zero.mp this with q | q <;> omega
    · obtain ⟨j, hj, hj0⟩ := h.some_ne hn hi (show 1 < e by omega) (by omega)
      obtain ⟨vj, vj1, vj2⟩ := h.row_in hn j hj
      have := first vj vj1 (by rw [vj2 0 (by omega)]; exact Classical.byContradiction (fun q => hz ⟨j, hj, q⟩)) (by rw [vj2 1 (by omega)]; exact hj0)
      rw [vj2 1 (by omega)] at this
      have b := dv this hj0
      have := ha 1 j (by omega) hj
      omega
  intro i hi
  have : L i = 0 ∨ L i = 1 ∨ 2 ≤ L i := by omega
  rcases this with q | q | q
  · -- its lead is at 0
    have hp := (h.1.1 i hi).2.1
    rw [q] at hp
    by_cases hz : ∃ k, k < n ∧ L k = 1
    · obtain ⟨k, hk, hk1⟩ := hz
      have hik : i < k := by
        rcases Nat.lt_trichotomy i k with z | z | z
        · exact z
        · subst z; omega
        · have := h.1.2.1 k i z hi; omega
      have b := h.1.2.2 i k hik hk
      rw [hk1] at b
      have := lead k hk hk1
      omega
    · obtain ⟨j, hj, hj0⟩ := h.some_ne hn hi (show 0 < e by omega) (by omega)
      obtain ⟨vj, vj1, vj2⟩ := h.row_in hn j hj
      have key : a 0 j * T i 1 = T i 0 * a 1 j := by
        apply Classical.byContradiction
        intro hne
        obtain ⟨k, k1, k2, k3, -⟩ := sp_first h.1 (Sp.comb (a 0 j) (-(T i 0)) (Sp.row (H := T) hi) vj1) ⟨1, by omega, by
          show ¬ (a 0 j * T i 1 + (-(T i 0)) * vj 1 = 0)
          rw [vj2 1 (by omega), Int.neg_mul]; omega⟩
        apply hz
        refine ⟨k, k1, ?_⟩
        have : L k = 0 ∨ L k = 1 ∨ 2 ≤ L k := by omega
        rcases this with z | z | z
        · rw [z] at k3
          exfalso
          apply k3
          show a 0 j * T i 0 + (-(T i 0)) * vj 0 = 0
          rw [vj2 0 (by omega)]; grind
        · exact z
        · exfalso
          have := k2 1 (by omega)
          have : a 0 j * T i 1 + (-(T i 0)) * vj 1 = 0 := this
          rw [vj2 1 (by omega), Int.neg_mul] at this
          omega
      -- T i 0 divides a 0 j
      obtain ⟨k, k1, k2, k3, k4⟩ := sp_first h.1 vj1 ⟨0, by omega, by rw [vj2 0 (by omega)]; exact hj0⟩
      have hk0 : L k = 0 := by
        rcases Nat.eq_zero_or_pos (L k) with z | z
        · exact z
        · have := k2 0 z
          rw [vj2 0 (by omega)] at this
          exact absurd this hj0
      have hki : k = i := by
        rcases Nat.lt_trichotomy k i with z | z | z
        · have := h.1.2.1 k i z hi; omega
        · exact z
        · have := h.1.2.1 i k z k1; omega
      rw [hki, q, vj2 0 (by omega)] at k4
      obtain ⟨p, hp4⟩ := k4
      rw [hp4, Int.mul_assoc] at key
      have key2 : p * T i 1 = a 1 j := Int.eq_of_mul_eq_mul_left (by omega) key
      have hp0 : p ≠ 0 := fun z => by rw [z, Int.mul_zero] at hp4; omega
      have e : (p * T i 1).natAbs = p.natAbs * (T i 1).natAbs := Int.natAbs_mul _ _
      have : 1 * (T i 1).natAbs ≤ p.natAbs * (T i 1).natAbs := Nat.mul_le_mul_right _ (by omega)
      rw [← e, key2] at this
      have := ha 1 j (by omega) hj
      omega
  · exact lead i hi q
  · rw [(h.1.1 i hi).2.2 1 (by omega)]; decide
