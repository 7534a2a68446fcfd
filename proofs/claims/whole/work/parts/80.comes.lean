/-! the model's comes -/
theorem fl_it_r {p : Nat} (F : Nat → fl_TJ → Int64) (hF : ∀ j (J J' : fl_TJ), J p j = J' p j → (∀ a b, a ≠ p → J a b = J' a b) → F j J = F j J') : ∀ (k i : Nat) (J : fl_TJ) (a x : Nat), fl_it (fun j J => fl_up J p j (F j J)) k i J a x = if a = p ∧ i ≤ x ∧ x < i + k then F x J else J a x := by
  intro k
  induction k with
  | zero => intro i J a x; rw [if_neg (by omega)]; rfl
  | succ k ih =>
    intro i J a x
    show fl_it _ k (i + 1) (fl_up J p i (F i J)) a x = _
    rw [ih]
    by_cases h1 : a = p
    · subst h1
      by_cases h2 : x = i
      · subst h2
        rw [if_neg (by omega), if_pos (by omega), fl_up_s]
      · by_cases h3 : i + 1 ≤ x ∧ x < i + 1 + k
        · rw [if_pos ⟨rfl, h3⟩, if_pos (by omega)]
          exact hF x _ _ (fl_up_j h2) (fun b c hb => fl_up_k hb)
        · rw [if_neg (by omega), if_neg (by omega), fl_up_j h2]
    · rw [if_neg (fun q => h1 q.1), if_neg (fun q => h1 q.1), fl_up_k h1]
theorem k_f0_at (J : fl_TJ) (a x : Nat) : k_f0 J a x = if a = 36 ∧ x < 4 then 0 else J a x := by
  unfold k_f0
  rw [fl_it_r (fun _ _ => 0) (fun _ _ _ _ _ => rfl) 4 0 J a x]
  by_cases h : a = 36 ∧ x < 4
  · rw [if_pos h, if_pos (by omega)]
  · rw [if_neg h, if_neg (by omega)]
theorem k_want_at (e : Nat) (I : fl_TI) (J : fl_TJ) (a x : Nat) : k_want e I J a x = if a = 35 ∧ x < e then (I 32 x).toInt64 else J a x := by
  unfold k_want
  rw [fl_it_r (fun q _ => (I 32 q).toInt64) (fun _ _ _ _ _ => rfl) e 0 J a x]
  by_cases h : a = 35 ∧ x < e
  · rw [if_pos h, if_pos (by omega)]
  · rw [if_neg h, if_neg (by omega)]
theorem k_cw_at (e r : Nat) (t : Int64) (J : fl_TJ) (a x : Nat) : k_cw e r t J a x = if a = 35 ∧ x < e then J 35 x - t * J 33 (8 * r + x) else J a x := by
  unfold k_cw
  rw [fl_it_r (fun q J => J 35 q - t * J 33 (8 * r + q)) (fun j J J' h1 h2 => by show J 35 j - t * J 33 (8 * r + j) = J' 35 j - t * J' 33 (8 * r + j); rw [h1, h2 33 _ (by decide)]) e 0 J a x]
  by_cases h : a = 35 ∧ x < e
  · rw [if_pos h, if_pos (by omega)]
  · rw [if_neg h, if_neg (by omega)]
theorem k_cf_at (n e r : Nat) (t : Int64) (J : fl_TJ) (a x : Nat) : k_cf n e r t J a x = if a = 36 ∧ x < n then J 36 x + t * J 33 (8 * r + e + x) else J a x := by
  unfold k_cf
  rw [fl_it_r (fun j J => J 36 j + t * J 33 (8 * r + e + j)) (fun j J J' h1 h2 => by show J 36 j + t * J 33 (8 * r + e + j) = J' 36 j + t * J' 33 (8 * r + e + j); rw [h1, h2 33 _ (by decide)]) n 0 J a x]
  by_cases h : a = 36 ∧ x < n
  · rw [if_pos h, if_pos (by omega)]
  · rw [if_neg h, if_neg (by omega)]
theorem k_sl1_at (n e r : Nat) (t : Int64) (J : fl_TJ) (a x : Nat) : k_sl1 n e r t J a x = if a = 36 ∧ x < n then J 36 x - t * J 33 (8 * r + e + x) else J a x := by
  unfold k_sl1
  rw [fl_it_r (fun j J => J 36 j - t * J 33 (8 * r + e + j)) (fun j J J' h1 h2 => by show J 36 j - t * J 33 (8 * r + e + j) = J' 36 j - t * J' 33 (8 * r + e + j); rw [h1, h2 33 _ (by decide)]) n 0 J a x]
  by_cases h : a = 36 ∧ x < n
  · rw [if_pos h, if_pos (by omega)]
  · rw [if_neg h, if_neg (by omega)]
theorem exact_div {a b : Int} (h0 : b ≠ 0) : (a.tdiv b * b = a ↔ a - a.fdiv b * b = 0) ∧ (a.tdiv b * b = a → a.tdiv b = a.fdiv b) := by
  have k1 : ∀ q, a = q * b → a.tdiv b = q ∧ a.fdiv b = q := fun q e => by rw [e]; exact ⟨Int.mul_tdiv_cancel q h0, Int.mul_fdiv_cancel q h0⟩
  refine ⟨⟨fun e => ?_, fun e => ?_⟩, fun e => ?_⟩
  · rw [(k1 _ e.symm).2]; omega
  · rw [(k1 (a.fdiv b) (by omega)).1]; omega
  · rw [(k1 _ e.symm).2]
/-- the times -/
def tv (T : Nat → Nat → Int) (L : Nat → Nat) (v : Nat → Int) (i : Nat) : Int := (rv T L v i (L i)).fdiv (T i (L i))
theorem k_cr_sh {n e m : Nat} {I : fl_TI} {R : Nat → Int64} {T F : Nat → Nat → Int} {v : Nat → Int} {L : Nat → Nat} (h1 : ∀ r x, r < m → x < e → R (8 * r + x) = oI (T r x)) (h2 : ∀ r j, r < m → j < n → R (8 * r + e + j) = oI (F r j)) (h3 : ∀ r, r < m → ldI I 34 r = L r ∧ L r < e ∧ T r (L r) ≠ 0 ∧ fit (T r (L r)) ∧ fit (rv T L v r (L r))) :
    ∀ (q r : Nat) (J : fl_TJ), r + q = m → J 33 = R → (∀ c, c < e → J 35 c = oI (rv T L v r c)) → (∀ j, j < n → J 36 j = oI (sm r (fun i => tv T L v i * F i j))) →
    (∀ p x, p ≠ 35 → p ≠ 36 → (k_cr n e I q r J).2 p x = J p x) ∧
    (((k_cr n e I q r J).1 = 1 ∧ (∀ c, c < e → (k_cr n e I q r J).2 35 c = oI (rv T L v m c)) ∧ ∀ j, j < n → (k_cr n e I q r J).2 36 j = oI (sm m (fun i => tv T L v i * F i j))) ∨ ((k_cr n e I q r J).1 = 0 ∧ ∃ i, i < m ∧ rv T L v (i + 1) (L i) ≠ 0)) := by
  intro q
  induction q with
  | zero =>
    intro r J hr e1 e2 e3
    have : r = m := by omega
    subst this
    exact ⟨fun p x _ _ => rfl, .inl ⟨rfl, e2, e3⟩⟩
  | succ q ih =>
    intro r J hr e1 e2 e3
    obtain ⟨l1, l2, l3, l4, l5⟩ := h3 r (by omega)
    have d1 : J 35 (ldI I 34 r) = oI (rv T L v r (L r)) := by rw [l1]; exact e2 _ l2
    have d2 : J 33 (8 * r + ldI I 34 r) = oI (T r (L r)) := by rw [l1, e1]; exact h1 r _ (by omega) l2
    have d3 : J 35 (ldI I 34 r) / J 33 (8 * r + ldI I 34 r) = oI ((rv T L v r (L r)).tdiv (T r (L r))) := by rw [d1, d2, oI_div l5 l4]
    have d4 : J 35 (ldI I 34 r) / J 33 (8 * r + ldI I 34 r) * J 33 (8 * r + ldI I 34 r) = J 35 (ldI I 34 r) ↔ (rv T L v r (L r)).tdiv (T r (L r)) * T r (L r) = rv T L v r (L r) := by
      rw [d3, d1, d2, oI_mul, oI_inj (tdiv_mul_fit l5) l5]
    have ex := exact_div (a := rv T L v r (L r)) l3
    by_cases z : (rv T L v r (L r)).tdiv (T r (L r)) * T r (L r) = rv T L v r (L r)
    · have s1 : k_cr n e I (q + 1) r J = k_cr n e I q (r + 1) (k_cf n e r (oI (tv T L v r)) (k_cw e r (oI (tv T L v r)) J)) := by
        have : k_cr n e I (q + 1) r J = k_cr n e I q (r + 1) (k_cf n e r (J 35 (ldI I 34 r) / J 33 (8 * r + ldI I 34 r)) (k_cw e r (J 35 (ldI I 34 r) / J 33 (8 * r + ldI I 34 r)) J)) := if_pos (d4.mpr z)
        rw [this, d3, ex.2 z]
        rfl
      rw [s1]
      have kp : ∀ p x, p ≠ 35 → p ≠ 36 → k_cf n e r (oI (tv T L v r)) (k_cw e r (oI (tv T L v r)) J) p x = J p x := fun p x g1 g2 => by
        rw [k_cf_at, if_neg (fun q => g2 q.1), k_cw_at, if_neg (fun q => g1 q.1)]
      obtain ⟨i1, i2⟩ := ih (r + 1) (k_cf n e r (oI (tv T L v r)) (k_cw e r (oI (tv T L v r)) J)) (by omega) (by rw [← e1]; funext x; exact kp 33 x (by decide) (by decide)) (fun c hc => by
        rw [k_cf_at, if_neg (by omega), k_cw_at, if_pos ⟨rfl, hc⟩, e2 c hc, e1, h1 r c (by omega) hc, oI_mul, oI_sub]
        rfl) (fun j hj => by
        rw [k_cf_at, if_pos ⟨rfl, hj⟩, k_cw_at, if_neg (by omega), k_cw_at, if_neg (by omega), e3 j hj, e1, h2 r j (by omega) hj, oI_mul, oI_add]
        rfl)
      exact ⟨fun p x g1 g2 => by rw [i1 p x g1 g2]; exact kp p x g1 g2, i2⟩
    · have s1 : k_cr n e I (q + 1) r J = (0, J) := if_neg (fun g => z (d4.mp g))
      rw [s1]
      exact ⟨fun p x _ _ => rfl, .inr ⟨rfl, r, by omega, fun g => z (ex.1.mpr g)⟩⟩
theorem k_cz_sh {J : fl_TJ} {r : Nat → Int} {e : Nat} (hr : ∀ c, c < e → J 35 c = oI (r c) ∧ fit (r c)) : ∀ k i, i + k = e → (∀ c, c < i → r c = 0) → (k_cz J k i = 1 ∧ ∀ c, c < e → r c = 0) ∨ (k_cz J k i = 0 ∧ ∃ c, c < e ∧ r c ≠ 0) := by
  intro k
  induction k with
  | zero => intro i hi h; exact .inl ⟨rfl, fun c hc => h c (by omega)⟩
  | succ k ih =>
    intro i hi h
    obtain ⟨h1, h2⟩ := hr i (by omega)
    by_cases z : r i = 0
    · have e1 : k_cz J (k + 1) i = k_cz J k (i + 1) := if_pos (by rw [h1, z]; rfl)
      rw [e1]
      exact ih (i + 1) (by omega) (fun c hc => by
        by_cases q : c = i
        · rw [q]; exact z
        · exact h c (by omega))
    · have e1 : k_cz J (k + 1) i = 0 := if_neg (by rw [h1]; exact fun q => z ((oI_eq0 h2).mp q))
      exact .inr ⟨e1, i, by omega, z⟩
/-- comes, over any form -/
theorem k_com_sh {n e K m w : Nat} {I : fl_TI} {J : fl_TJ} {T F : Nat → Nat → Int} {v : Nat → Int} {L : Nat → Nat} (hn : n ≤ 4) (hE : Ech T L K w) (hew : e ≤ w) (hlb : Lb L e K m) (h1 : ∀ r x, r < m → x < e → J 33 (8 * r + x) = oI (T r x)) (h2 : ∀ r j, r < m → j < n → J 33 (8 * r + e + j) = oI (F r j)) (hld : ∀ r, r < K → ldI I 34 r = L r) (hf : ∀ r, r < m → fit (T r (L r)) ∧ fit (rv T L v r (L r))) (hz : ∀ c, c < e → fit (rv T L v m c)) (h35 : ∀ c, c < e → J 35 c = oI (v c)) :
    (∀ p x, p ≠ 35 → p ≠ 36 → (k_com n e K I J).2 p x = J p x) ∧
    (((k_com n e K I J).1 = 1 ∧ (∀ c, c < e → rv T L v K c = 0) ∧ ∀ j, j < n → (k_com n e K I J).2 36 j = oI (sm m (fun i => tv T L v i * F i j))) ∨ ((k_com n e K I J).1 = 0 ∧ ¬ ∀ c, c < e → rv T L v K c = 0)) := by
  have eb : k_bef I e K 0 = m := k_bef_lb hld hlb
  have f0 : ∀ p x, p ≠ 36 → k_f0 J p x = J p x := fun p x h => by rw [k_f0_at, if_neg (fun q => h q.1)]
  have hm : m ≤ K := hlb.1
  have tail : ∀ k, m ≤ k → k ≤ K → ∀ c, c < e → rv T L v k c = rv T L v m c := by
    intro k
    induction k with
    | zero => intro h _ c _; have : m = 0 := by omega
              rw [this]
    | succ k ih =>
      intro h hk c hc
      by_cases q : m = k + 1
      · rw [q]
      · show rv T L v k c - (rv T L v k (L k)).fdiv (T k (L k)) * T k c = _
        have := hlb.2 k (by omega)
        rw [(hE.1 k (by omega)).2.2 c (by omega), ih (by omega) (by omega) c hc]
        omega
  obtain ⟨c1, c2⟩ := k_cr_sh (n := n) (e := e) (m := m) (I := I) (R := J 33) (T := T) (F := F) (v := v) (L := L) h1 h2 (fun r hr => ⟨hld r (by omega), (hlb.2 r (by omega)).mp hr, by have := (hE.1 r (by omega)).2.1; omega, hf r hr⟩) m 0 (k_f0 J) (by omega) (by funext x; exact f0 33 x (by decide)) (fun c hc => by rw [f0 35 c (by decide)]; exact h35 c hc) (fun j hj => by rw [k_f0_at, if_pos ⟨rfl, by omega⟩]; rfl)
  unfold k_com
  rw [eb]
  rcases c2 with ⟨d1, d2, d3⟩ | ⟨d1, i, d2, d3⟩
  · rw [if_neg (by rw [d1]; decide)]
    refine ⟨fun p x g1 g2 => (c1 p x g1 g2).trans (f0 p x g2), ?_⟩
    rcases k_cz_sh (J := (k_cr n e I m 0 (k_f0 J)).2) (r := rv T L v m) (e := e) (fun c hc => ⟨d2 c hc, hz c hc⟩) e 0 (by omega) (fun c hc => by omega) with ⟨g1, g2⟩ | ⟨g1, c, g2, g3⟩
    · exact .inl ⟨g1, fun c hc => by rw [tail K hm (Nat.le_refl _) c hc]; exact g2 c hc, d3⟩
    · exact .inr ⟨g1, fun h => g3 (by rw [← tail K hm (Nat.le_refl _) c g2]; exact h c g2)⟩
  · rw [if_pos d1]
    refine ⟨fun p x g1 g2 => (c1 p x g1 g2).trans (f0 p x g2), .inr ⟨rfl, fun h => d3 ?_⟩⟩
    have hLi := (hlb.2 i (by omega)).mp d2
    rw [← rv_far hE v K (by omega) (Nat.le_refl _)]
    exact h (L i) hLi
