/-! the model's run over the lattice of all unknowns -/
theorem k_el_later {a : Nat → Nat → Int} {e n k c w : Nat} {T0 N0 T1 N1 : Nat → Nat → Int} {L : Nat → Nat} {P : Int} (hn : n ≤ 4) (hk : k < n) (hw : w ≤ 8) (hc : c < w) (hce : c < e + n) (hPf : fit P) (hP : ∀ l, k ≤ l → l < n → T1 l c ≤ P) (hpad : ∀ j, n ≤ j → T0 j = rm a e n j) :
    ∀ (f b : Nat) (J : fl_TJ) (T N m : Nat → Nat → Int), shM n w J T → Cr a e n k c T0 N0 L T N → Gm n k c P T1 T m → cmb N m N1 → (k = 0 → Psi c T N) → k < b → b < n → T b c ≠ 0 → (∀ r, k ≤ r → r < n → T r c ≠ 0 → (T b c).natAbs ≤ (T r c).natAbs) → (∀ r, k ≤ r → r < n → T r c ≤ P) → (T b c).natAbs ≤ f →
    ∃ J' T' N' m', k_el n k c w f b J = some J' ∧ shM n w J' T' ∧ Cr a e n k c T0 N0 L T' N' ∧ Gm n k c P T1 T' m' ∧ cmb N' m' N1 ∧ (k = 0 → Psi c T' N') ∧ 0 < T' k c ∧ T' k c ≤ P ∧ ∀ r, k < r → r < n → T' r c = 0 := by
  intro f
  induction f with
  | zero => intro b J T N m _ _ _ _ _ _ _ h0 _ _ hf; omega
  | succ f ih =>
    intro b J T N m hs hC hG hcm hPsi hkb hb h0 hm hle hf
    have ff : ∀ r, k ≤ r → r < n → fit (T r c) := fun r h1 h2 => by
      have := hG.2.1 r h1 h2; have := hle r h1 h2; unfold fit at *; omega
    obtain ⟨s1, s2⟩ := k_pass_sh hw hk (by omega) hb hc hs ff h0
    have C1 : Cr a e n k c T0 N0 L (psT n k b c T) (psN n k b c T N) := hC.pass hn hk (by omega) hb
    have G1 : Gm n k c P T1 (psT n k b c T) (psN n k b c T m) := hG.pass hn hk (by omega) hb h0 hP
    have cm1 : cmb (psN n k b c T N) (psN n k b c T m) N1 := (hcm.pv (by omega) (by omega) _).pas (by omega) c n hn
    have zp : ∀ j, n ≤ j → T j c = 0 := fun j hj => by rw [(hC.2.2.2.1 j (Or.inr hj)).1, hpad j hj]; exact rm_pad hj hce
    have P1 : k = 0 → Psi c (psT n k b c T) (psN n k b c T N) := fun k0 => by
      subst k0
      exact psi_pass hn hkb hb (fun r hr => by
        rcases Nat.lt_or_ge r n with q | q
        · exact hG.2.1 r (by omega) q
        · rw [zp r q]; omega) (fun j h1 _ => zp j h1) (fun r hr hne => hm r (by omega) hr hne) h0 (hPsi rfl)
    have tp := ps_topc (n := n) (k := k) (b := b) (c := c) h0
    have tin : ∀ r, k < r → r < n → 0 ≤ psT n k b c T r c ∧ psT n k b c T r c < psT n k b c T k c := fun r h1 h2 => ps_in h0 h1 h2
    have tle : psT n k b c T k c ≤ P := by have := hle b (by omega) hb; have := hG.2.1 b (by omega) hb; omega
    unfold k_el
    by_cases hfl : (k_pass n k b c w J).1 = 0
    · rw [if_pos hfl]
      have ff1 : ∀ r, k ≤ r → r < n → fit (psT n k b c T r c) := fun r h1 h2 => by
        by_cases q : r = k
        · subst q; unfold fit at *; omega
        · have := tin r (by omega) h2; unfold fit at *; omega
      have hex : ∃ r, k < r ∧ r < n ∧ psT n k b c T r c ≠ 0 := by
        apply Classical.byContradiction
        intro hno
        exact (s2.mpr (fun r h1 h2 => Classical.byContradiction (fun q => hno ⟨r, h1, h2, q⟩))) hfl
      obtain ⟨r, r1, r2, r3⟩ := hex
      cases hl : k_least k c n (k_pass n k b c w J).2 with
      | none => exact absurd (k_least_none hw (by omega) hc s1 ff1 hl r (by omega) r2) r3
      | some b2 =>
        obtain ⟨⟨l1, l2⟩, l3, l4⟩ := k_least_some hw (by omega) hc s1 ff1 hl
        have hr := l4 r (by omega) r2 r3
        have hrt := tin r r1 r2
        have b2k : k < b2 := by
          rcases Nat.lt_or_ge k b2 with q | q
          · exact q
          · have : b2 = k := by omega
            subst this
            have : (psT n b2 b c T b2 c).natAbs ≤ (psT n b2 b c T r c).natAbs := hr
            omega
        exact ih b2 _ _ _ _ s1 C1 G1 cm1 P1 b2k l2 l3 l4 (fun q h1 h2 => by
          by_cases z : q = k
          · subst z; exact tle
          · have := tin q (by omega) h2
            show psT n k b c T q c ≤ P
            omega) (by
          have h5 := tin b2 b2k l2
          show (psT n k b c T b2 c).natAbs ≤ f
          omega)
    · rw [if_neg hfl]
      exact ⟨_, _, _, _, rfl, s1, C1, G1, cm1, P1, tp.1, tle, fun r h1 h2 => s2.mp hfl r h1 h2⟩
/-- a stage -/
theorem k_el_run {a : Nat → Nat → Int} {e n k c w b f v V : Nat} {J : fl_TJ} {T N : Nat → Nat → Int} {L : Nat → Nat} (hn : n ≤ 4) (hk : k < n) (hw : w ≤ 8) (hc : c < w) (hce : c < e + n) (hs : shM n w J T) (hC : Cr a e n k c T N L T N) (hpad : ∀ j, n ≤ j → T j = rm a e n j) (hV : ∀ j, k ≤ j → j < n → (T j c).natAbs ≤ V) (hVf : V < 9223372036854775808) (hN : ∀ j, k ≤ j → j < n → bd (N j) v) (h0t : k = 0 → (∀ j x, j < 4 → (T j x).natAbs ≤ 9) ∧ ∀ j, j < 4 → bd (N j) 1) (hkb : k ≤ b) (hb : b < n) (h0 : T b c ≠ 0) (hf : V < f) :
    ∃ J' T' N', k_el n k c w f b J = some J' ∧ shM n w J' T' ∧ Cr a e n k c T N L T' N' ∧ 0 < T' k c ∧ fit (T' k c) ∧ (∀ r, k < r → r < n → T' r c = 0) ∧ (∀ r, k ≤ r → r < n → bd (N' r) ((3 * (n - k) - 2) * (v * V))) ∧ (k = 0 → Psi c T' N') := by
  have ff : ∀ r, k ≤ r → r < n → fit (T r c) := fun r h1 h2 => by have := hV r h1 h2; unfold fit; omega
  obtain ⟨s1, s2⟩ := k_pass_sh hw hk hkb hb hc hs ff h0
  have C1 : Cr a e n k c T N L (psT n k b c T) (psN n k b c T N) := hC.pass hn hk hkb hb
  have zp : ∀ j, n ≤ j → T j c = 0 := fun j hj => by rw [hpad j hj]; exact rm_pad hj hce
  have tp := ps_topc (n := n) (k := k) (b := b) (c := c) h0
  have tin : ∀ r, k < r → r < n → 0 ≤ psT n k b c T r c ∧ psT n k b c T r c < psT n k b c T k c := fun r h1 h2 => ps_in h0 h1 h2
  have hbV := hV b hkb hb
  have fP : fit ((T b c).natAbs : Int) := fit_abs (ff b hkb hb)
  have h1P : (1 : Int) ≤ ((T b c).natAbs : Int) := by omega
  have t4 : ∀ i x, 4 ≤ i → psT n k b c T i x = 0 := fun i x hi => by
    rw [(C1.2.2.2.1 i (Or.inr (by omega))).1, hpad i (by omega)]
    unfold rm
    by_cases q : x < e
    · rw [if_pos q, if_neg (by omega)]
    · rw [if_neg q, if_neg (fun z => by omega)]
  have nn : ∀ r, k ≤ r → r < n → 0 ≤ psT n k b c T r c := fun r h1 h2 => by
    by_cases q : r = k
    · subst q; omega
    · exact (tin r (by omega) h2).1
  have le : ∀ r, k ≤ r → r < n → psT n k b c T r c ≤ ((T b c).natAbs : Int) := fun r h1 h2 => by
    by_cases q : r = k
    · subst q; omega
    · have := tin r (by omega) h2; omega
  have G1 : Gm n k c ((T b c).natAbs : Int) (psT n k b c T) (psT n k b c T) idN := gm_begin t4 nn h1P
  obtain ⟨f1, f2⟩ := first_N (c := c) hk hkb hb hN hV h0
  have P1 : k = 0 → Psi c (psT n k b c T) (psN n k b c T N) := fun k0 => by
    subst k0
    exact psi_begin (by omega) hn hb (h0t rfl).1 (fun j h1 _ => zp j h1) (h0t rfl).2 h0
  obtain ⟨f, rfl⟩ : ∃ f', f = f' + 1 := ⟨f - 1, by omega⟩
  unfold k_el
  by_cases hfl : (k_pass n k b c w J).1 = 0
  · rw [if_pos hfl]
    have ff1 : ∀ r, k ≤ r → r < n → fit (psT n k b c T r c) := fun r h1 h2 => by
      have := nn r h1 h2; have := le r h1 h2; unfold fit at *; omega
    have hex : ∃ r, k < r ∧ r < n ∧ psT n k b c T r c ≠ 0 := by
      apply Classical.byContradiction
      intro hno
      exact (s2.mpr (fun r h1 h2 => Classical.byContradiction (fun q => hno ⟨r, h1, h2, q⟩))) hfl
    obtain ⟨r, r1, r2, r3⟩ := hex
    cases hl : k_least k c n (k_pass n k b c w J).2 with
    | none => exact absurd (k_least_none hw (by omega) hc s1 ff1 hl r (by omega) r2) r3
    | some b2 =>
      obtain ⟨⟨l1, l2⟩, l3, l4⟩ := k_least_some hw (by omega) hc s1 ff1 hl
      have hr := l4 r (by omega) r2 r3
      have hrt := tin r r1 r2
      have b2k : k < b2 := by
        rcases Nat.lt_or_ge k b2 with q | q
        · exact q
        · have : b2 = k := by omega
          subst this
          have : (psT n b2 b c T b2 c).natAbs ≤ (psT n b2 b c T r c).natAbs := hr
          omega
      obtain ⟨J', T', N', m', a1, a2, a3, a4, a5, a6, a7, a8, a9⟩ := k_el_later (N1 := psN n k b c T N) hn hk hw hc hce fP le hpad f b2 _ _ _ _ s1 C1 G1 cmb_id P1 b2k l2 l3 l4 le (by
        have h5 := tin b2 b2k l2
        show (psT n k b c T b2 c).natAbs ≤ f
        omega)
      exact ⟨J', T', N', a1, a2, a3, a7, by unfold fit at *; omega, a9, end_N hk hn a5 a4 rfl hbV f1 f2, a6⟩
  · rw [if_neg hfl]
    exact ⟨_, _, _, rfl, s1, C1, tp.1, by show fit (psT n k b c T k c); unfold fit at *; omega, fun r h1 h2 => s2.mp hfl r h1 h2, end_N hk hn cmb_id G1 rfl hbV f1 f2, P1⟩
def bM (k j : Nat) : Nat := (([[1, 1, 1, 1], [9, 31, 31, 31], [9, 18, 64449, 64449], [9, 18, 36, 581381386584768]] : List (List Nat)).getD k [9, 18, 36, 72]).getD j 0
def bVm (k : Nat) : Nat := ([9, 297, 2255199408] : List Nat).getD k 1259712
def bTm (k : Nat) (T : Nat → Nat → Int) : Prop := (k = 0 → ∀ j x, j < 4 → (T j x).natAbs ≤ 9) ∧ (k = 1 → ∀ j x, j < 4 → (T j x).natAbs ≤ 297)
def WM (a : Nat → Nat → Int) (e n k c : Nat) (T : Nat → Nat → Int) (L : Nat → Nat) : Prop :=
  ∃ N, NT (rm a e n) T N ∧ LinT (rm a e n) T e ∧ St T L k c n ∧ (∀ j, j < 4 → bd (N j) (bM k j)) ∧ bTm k T ∧ (∀ j, n ≤ j → T j = rm a e n j) ∧ (∀ i x, i < n → e + n ≤ x → T i x = 0) ∧ ∀ j, n ≤ j → N j = idN j
theorem bM_low : ∀ k j, k < 5 → j < k → bM k j = 9 * 2 ^ j := by
  have h : ∀ k, k < 5 → ∀ j, j < 4 → j < k → bM k j = 9 * 2 ^ j := by decide
  exact fun k j a b => h k a j (by omega) b
theorem bM_up : ∀ k j, k < 4 → k < j → j < 4 → bM k j ≤ bM (k + 1) j := by
  have h : ∀ k, k < 4 → ∀ j, j < 4 → k < j → bM k j ≤ bM (k + 1) j := by decide
  exact fun k j a b c => h k a j c b
theorem bM_same : ∀ k j, k < 4 → k ≤ j → j < 4 → bM k j = bM k k := by
  have h : ∀ k, k < 4 → ∀ j, j < 4 → k ≤ j → bM k j = bM k k := by decide
  exact fun k j a b c => h k a j c b
theorem bM_next : ∀ k j n, 1 ≤ k → k < j → j < n → n ≤ 4 → (3 * (n - k) - 2) * (bM k k * bVm k) ≤ bM (k + 1) j := by
  have h : ∀ k, k < 4 → ∀ j, j < 4 → ∀ n, n < 5 → (1 ≤ k ∧ k < j ∧ j < n) → (3 * (n - k) - 2) * (bM k k * bVm k) ≤ bM (k + 1) j := by decide
  exact fun k j n a b c d => h k (by omega) j (by omega) n (by omega) ⟨a, b, c⟩
theorem bVm_fit : ∀ k, k < 4 → bVm k < 9223372036854775808 := by decide
theorem wm_vals {a : Nat → Nat → Int} {e n k c : Nat} {T N : Nat → Nat → Int} (ha : sml a e n) (hN : NT (rm a e n) T N) (hb : ∀ j, j < 4 → bd (N j) (bM k j)) (ht : bTm k T) (hk : k < 4) {j : Nat} (h1 : k ≤ j) (h2 : j < 4) : (T j c).natAbs ≤ bVm k := by
  have b0 := hb 0 (by decide)
  have b1 := hb 1 (by decide)
  have b2 := hb 2 (by decide)
  have b3 := hb 3 (by decide)
  have hS := rm_36 ha c
  rcases lt4 hk with rfl | rfl | rfl | rfl
  · exact ht.1 rfl j c h2
  · exact ht.2 rfl j c h2
  · rcases lt4 h2 with rfl | rfl | rfl | rfl
    · omega
    · omega
    · exact hN.bd2 hS b0 b1 b3
    · exact hN.bd3 hS b0 b1 b2
  · rcases lt4 h2 with rfl | rfl | rfl | rfl
    · omega
    · omega
    · omega
    · exact hN.bd3 hS b0 b1 b2
theorem wm_fits {a : Nat → Nat → Int} {e n k c : Nat} {T N : Nat → Nat → Int} {L : Nat → Nat} (ha : sml a e n) (he : e ≤ 3) (hN : NT (rm a e n) T N) (hs : St T L k c n) (hb : ∀ j, j < 4 → bd (N j) (bM k j)) (ht : bTm k T) (hk : k < 4) {j : Nat} (h1 : j < k) : fit (T j c) := by
  have b0 := hb 0 (by decide)
  have b1 := hb 1 (by decide)
  have b2 := hb 2 (by decide)
  have b3 := hb 3 (by decide)
  have hS := rm_36 ha c
  have key : ∀ B : Nat, (T j c).natAbs ≤ B → B < 9223372036854775808 → fit (T j c) := fun B p q => by unfold fit; omega
  rcases lt4 hk with rfl | rfl | rfl | rfl
  · omega
  · exact key 297 (ht.2 rfl j c (by omega)) (by decide)
  · have : j = 0 ∨ j = 1 := by omega
    rcases this with rfl | rfl
    · exact key _ (hN.bd0 hS b1 b2 b3) (by decide)
    · exact key _ (hN.bd1 hS b0 b2 b3) (by decide)
  · have l0 := hs.2.1 0 1 (by decide) (by decide)
    have l1 := hs.2.1 1 2 (by decide) (by decide)
    have l2 := (hs.1 2 (by decide)).1
    have hS := rm_1 (a := a) (n := n) (show e ≤ c by omega)
    have : j = 0 ∨ j = 1 ∨ j = 2 := by omega
    rcases this with rfl | rfl | rfl
    · exact key _ (hN.bd0 hS b1 b2 b3) (by decide)
    · exact key _ (hN.bd1 hS b0 b2 b3) (by decide)
    · exact key _ (hN.bd2 hS b0 b1 b3) (by decide)
theorem wm_next {a : Nat → Nat → Int} {e n k c : Nat} {T : Nat → Nat → Int} {L : Nat → Nat} (h : WM a e n k c T L) (hz : ∀ r, k ≤ r → r < n → T r c = 0) : WM a e n k (c + 1) T L := by
  obtain ⟨N, w1, w2, w3, w4, w5, w6, w7, w8⟩ := h
  exact ⟨N, w1, w2, w3.next hz, w4, w5, w6, w7, w8⟩
theorem wm_ff {a : Nat → Nat → Int} {e n k c : Nat} {T : Nat → Nat → Int} {L : Nat → Nat} (ha : sml a e n) (hn : n ≤ 4) (h : WM a e n k c T L) (hk : k ≤ n) : ∀ r, k ≤ r → r < n → fit (T r c) := by
  obtain ⟨N, w1, w2, w3, w4, w5, w6, w7, w8⟩ := h
  intro r h1 h2
  have := wm_vals (c := c) ha w1 w4 w5 (by omega) h1 (show r < 4 by omega)
  have := bVm_fit k (by omega)
  unfold fit
  omega
theorem wm_piv {a : Nat → Nat → Int} {e n k c b f : Nat} {J : fl_TJ} {T : Nat → Nat → Int} {L : Nat → Nat} (ha : sml a e n) (hn : n ≤ 4) (he : e ≤ 3) (hk : k < n) (hc : c < e + n) (hW : WM a e n k c T L) (hs : shM n (e + n) J T) (hl : k_least k c n J = some b) (hf : 9223372036854775808 ≤ f) :
    ∃ J1 T', k_el n k c (e + n) f b J = some J1 ∧ shM n (e + n) (k_up k c (e + n) J1) T' ∧ WM a e n (k + 1) (c + 1) T' (fun i => if i = k then c else L i) := by
  have ff := wm_ff (c := c) ha hn hW (by omega)
  obtain ⟨N0, w1, w2, w3, w4, w5, w6, w7, w8⟩ := hW
  have k4 : k < 4 := by omega
  obtain ⟨⟨l1, l2⟩, l3, -⟩ := k_least_some (by omega) (by omega) hc hs ff hl
  have hV : ∀ j, k ≤ j → j < n → (T j c).natAbs ≤ bVm k := fun j h1 h2 => wm_vals ha w1 w4 w5 k4 h1 (by omega)
  have hVf := bVm_fit k k4
  obtain ⟨J1, T', N', a1, a2, ⟨c1, c2, c3, c4, c5⟩, a4, a5, a6, a7, a8⟩ := k_el_run (f := f) (v := bM k k) hn hk (by omega) hc hc hs ⟨w1, w2, w3, fun _ _ => ⟨rfl, rfl⟩, w7⟩ w6 hV hVf (fun j h1 h2 => by rw [← bM_same k j k4 h1 (by omega)]; exact w4 j (by omega)) (fun k0 => by
    subst k0
    exact ⟨w5.1 rfl, fun j hj => by have := w4 j hj; rw [bM_same 0 j (by decide) (by omega) hj] at this; exact this⟩) l1 l2 l3 (by omega)
  have fm : ∀ m, m ≤ k → fit (T' m c) := fun m hm => by
    by_cases q : m = k
    · subst q; exact a5
    · rw [(c4 m (Or.inl (by omega))).1]
      exact wm_fits ha he w1 w3 w4 w5 k4 (by omega)
  refine ⟨J1, redT k c k T', a1, ?_, ?_⟩
  · unfold k_up
    exact k_up_sh (by omega) hk hc fm a4 k 0 J1 (by omega) (by rw [redT_0]; exact a2)
  · have p2 : ∀ j, n ≤ j → T' j = rm a e n j := fun j hj => by rw [(c4 j (Or.inr hj)).1]; exact w6 j hj
    obtain ⟨N3, f1, f2, f3, f4, f5, f6, f7⟩ := w_end (T0 := T) (N0 := N0) (bf := bM) ha hn hk hc c1 c2 c3 a4 a6 (fun j hj => by
      rw [(c4 j (Or.inl hj)).2, ← bM_low k j (by omega) hj]
      exact w4 j (by omega)) p2 c5
    have z4 : ∀ j, k < j → j < 4 → T' j c = 0 := fun j h1 h2 => by
      rcases Nat.lt_or_ge j n with q | q
      · exact a6 j h1 q
      · rw [p2 j q]; exact rm_pad q hc
    refine ⟨N3, f1, f2, f3, fun j hj => ?_, ⟨fun q => by omega, fun q j x hj => ?_⟩, f6, f7, fun j hj => by rw [f5 j (by omega), (c4 j (Or.inr hj)).2]; exact w8 j hj⟩
    · by_cases q : j = k
      · subst q; rw [bM_low (j + 1) j (by omega) (by omega)]; exact f4
      · rw [f5 j q]
        rcases Nat.lt_or_ge j k with z | z
        · rw [(c4 j (Or.inl z)).2, bM_low (k + 1) j (by omega) (by omega), ← bM_low k j (by omega) z]
          exact w4 j hj
        · rcases Nat.lt_or_ge j n with y | y
          · by_cases k0 : k = 0
            · subst k0
              obtain ⟨-, e1, e2, e3⟩ := psi_end (a8 rfl) (z4 1 (by decide) (by decide)) (z4 2 (by decide) (by decide)) (z4 3 (by decide) (by decide))
              rcases lt4 hj with rfl | rfl | rfl | rfl
              · exact absurd rfl q
              · exact e1
              · exact e2
              · exact e3
            · intro x hx
              have m1 := bM_next k j n (by omega) (by omega) y hn
              have := a7 j (by omega) y x hx
              omega
          · rw [(c4 j (Or.inr y)).2]
            intro x hx
            have m2 := bM_up k j k4 (by omega) hj
            have := w4 j hj x hx
            omega
    · have k0 : k = 0 := by omega
      subst k0
      have e0 : redT 0 c 0 T' = T' := redT_0 T'
      rw [e0]
      exact (psi_end (a8 rfl) (z4 1 (by decide) (by decide)) (z4 2 (by decide) (by decide)) (z4 3 (by decide) (by decide))).1 j x hj
theorem wm_rank {a : Nat → Nat → Int} {e n k c : Nat} {T : Nat → Nat → Int} {L : Nat → Nat} (hn : n ≤ 4) (hk : k < n) (hc : e + n ≤ c) (hW : WM a e n k c T L) : False := by
  obtain ⟨N, w1, -, w3, -, -, -, w7, -⟩ := hW
  obtain ⟨j, hj, hne⟩ := w1.full rm_unit (show k < 4 by omega)
  rcases Nat.lt_or_ge j n with q | q
  · exact hne (w3.2.2.2 k (Nat.le_refl _) hk _ (by omega))
  · exact hne (w7 k _ hk (by omega))
theorem k_least_top {n c : Nat} {J : fl_TJ} : k_least n c n J = none := by
  unfold k_least
  rw [Nat.sub_self]
  rfl
theorem wm_form {a : Nat → Nat → Int} {e n fu : Nat} (ha : sml a e n) (hn : n ≤ 4) (he : e ≤ 3) (hf : 9223372036854775808 ≤ fu) : ∀ (f c k : Nat) (I : fl_TI) (J : fl_TJ) (T : Nat → Nat → Int) (L : Nat → Nat), c + f = e + n → k ≤ n → WM a e n k c T L → shM n (e + n) J T → (∀ i, i < k → I 34 i = nI (L i)) →
    ∃ I' J' T' L' c', k_form fu n (e + n) f c (k, I, J) = some (n, I', J') ∧ c' ≤ e + n ∧ WM a e n n c' T' L' ∧ shM n (e + n) J' T' ∧ ∀ i, i < n → I' 34 i = nI (L' i) := by
  intro f
  induction f with
  | zero =>
    intro c k I J T L hcf hk hW hs hI
    have : k = n := by
      rcases Nat.lt_or_ge k n with q | q
      · exact (wm_rank hn q (by omega) hW).elim
      · omega
    subst this
    exact ⟨I, J, T, L, c, rfl, by omega, hW, hs, hI⟩
  | succ f ih =>
    intro c k I J T L hcf hk hW hs hI
    unfold k_form
    have ff := wm_ff (c := c) ha hn hW hk
    cases hl : k_least k c n J with
    | none =>
      simp only [hl]
      exact ih (c + 1) k I J T L (by omega) hk (wm_next hW (k_least_none (by omega) hk (by omega) hs ff hl)) hs hI
    | some b =>
      have hkn : k < n := by
        rcases Nat.lt_or_ge k n with q | q
        · exact q
        · have : k = n := by omega
          subst this
          rw [k_least_top] at hl
          cases hl
      obtain ⟨J1, T', b1, b2, b3⟩ := wm_piv ha hn he hkn (by omega) hW hs hl hf
      simp only [hl, b1]
      refine ih (c + 1) (k + 1) _ _ T' _ (by omega) (by omega) b3 b2 (fun i hi => ?_)
      by_cases q : i = k
      · subst q; rw [fl_up_s, if_pos rfl]
      · rw [fl_up_j q, if_neg q]; exact hI i (by omega)
