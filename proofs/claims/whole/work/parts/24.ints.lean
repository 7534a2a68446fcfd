/-! what bringToForm leaves of the ints; layout of the solver -/
def ldI (I : fl_TI) (q i : Nat) : Nat := (I q i).toNatClampNeg
theorem ldI_of {I : fl_TI} {q i c : Nat} (h : I q i = nI c) (hc : c < 2 ^ 31) : ldI I q i = c := by unfold ldI; rw [h]; exact nI_clamp hc
theorem b_form_I (o nr h w : Nat) (hw : w ≤ 64) : ∀ (k cl rk : Nat) (I : fl_TI) (J : fl_TJ), cl + k = w → I o 4 = nI rk → rk ≤ h → (∀ i, i < rk → I (o + 2 + nr) i = nI (ldI I (o + 2 + nr) i) ∧ ldI I (o + 2 + nr) i < w) →
    (b_form o nr h w k cl (rk, I, J)).1 ≤ h ∧ (b_form o nr h w k cl (rk, I, J)).2.1 o 4 = nI (b_form o nr h w k cl (rk, I, J)).1 ∧ (∀ i, i < (b_form o nr h w k cl (rk, I, J)).1 → (b_form o nr h w k cl (rk, I, J)).2.1 (o + 2 + nr) i = nI (ldI (b_form o nr h w k cl (rk, I, J)).2.1 (o + 2 + nr) i) ∧ ldI (b_form o nr h w k cl (rk, I, J)).2.1 (o + 2 + nr) i < w) ∧ (∀ a b, ¬ (a = o ∧ b = 4) → a ≠ o + 2 + nr → (b_form o nr h w k cl (rk, I, J)).2.1 a b = I a b) := by
  intro k
  induction k with
  | zero =>
    intro cl rk I J hk h4 hr hl
    exact ⟨hr, h4, hl, fun _ _ _ _ => rfl⟩
  | succ k ih =>
    intro cl rk I J hk h4 hr hl
    simp only [b_form]
    by_cases hh : h ≤ rk
    · rw [if_pos hh]
      exact ⟨hr, h4, hl, fun _ _ _ _ => rfl⟩
    · rw [if_neg hh]
      unfold b_step
      by_cases hz : (j_elim o rk cl w h J) (o + 2 + rk) cl = 0
      · rw [if_pos hz]
        exact ih (cl + 1) rk I _ (by omega) h4 hr hl
      · rw [if_neg hz]
        have e4 : i_add o nr rk cl I o 4 = nI (rk + 1) := by unfold i_add; exact fl_up_s
        have el : ∀ i, i < rk → i_add o nr rk cl I (o + 2 + nr) i = I (o + 2 + nr) i := fun i hi => by
          unfold i_add
          rw [fl_up_k (by omega), fl_up_j (by omega)]
        have er : i_add o nr rk cl I (o + 2 + nr) rk = nI cl := by
          unfold i_add
          rw [fl_up_k (by omega), fl_up_s]
        obtain ⟨g1, g2, g3, g4⟩ := ih (cl + 1) (rk + 1) (i_add o nr rk cl I) (j_add o rk cl w (j_elim o rk cl w h J)) (by omega) e4 (by omega) (fun i hi => by
          by_cases hq : i < rk
          · have h9 := hl i hq
            have e9 : ldI (i_add o nr rk cl I) (o + 2 + nr) i = ldI I (o + 2 + nr) i := by unfold ldI; rw [el i hq]
            rw [e9, el i hq]
            exact h9
          · have hq : i = rk := by omega
            subst hq
            rw [ldI_of er (by omega), er]
            exact ⟨rfl, by omega⟩)
        refine ⟨g1, g2, g3, fun a b h1 h2 => ?_⟩
        rw [g4 a b h1 h2]
        unfold i_add
        by_cases ha : a = o
        · subst ha
          rw [fl_up_j (fun q => h1 ⟨rfl, q⟩), fl_up_k h2]
        · rw [fl_up_k ha, fl_up_k h2]
theorem lat6 : fl_lat 6 4 7 := Or.inl ⟨rfl, rfl, rfl⟩
theorem lat13 : fl_lat 13 6 3 := Or.inr ⟨rfl, rfl, rfl⟩
theorem fk2 {i : Nat} (h : i < 3) : fl_k (2 + i) = 0 := (by decide +kernel : ∀ i, i < 3 → fl_k (2 + i) = 0) i h
theorem fn2 {i : Nat} (h : i < 3) : fl_n (2 + i) = 4 := (by decide +kernel : ∀ i, i < 3 → fl_n (2 + i) = 4) i h
theorem fk25 {i : Nat} (h : i < 5) : fl_k (25 + i) = 1 := (by decide +kernel : ∀ i, i < 5 → fl_k (25 + i) = 1) i h
theorem fn25 {i : Nat} (h : i < 5) : fl_n (25 + i) = 4 := (by decide +kernel : ∀ i, i < 5 → fl_n (25 + i) = 4) i h
/-- the solver's ints: n unknowns, e equations, rr rows of the reach, rk rows in all -/
def x_ok (I : fl_TI) (n e rr rk : Nat) : Prop := I 0 2 = nI n ∧ (1 ≤ n ∧ n ≤ 4) ∧ I 0 3 = nI e ∧ e ≤ 3 ∧ I 0 6 = nI rr ∧ rr ≤ n ∧ I 6 2 = nI n ∧ I 6 3 = nI (e + n) ∧ I 6 4 = nI rk ∧ rk ≤ n ∧ ∀ i, i < rk → I 12 i = nI (ldI I 12 i) ∧ ldI I 12 i < e + n
