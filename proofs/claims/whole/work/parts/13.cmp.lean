/-! compares of longs with the branch behind them; descriptors; the simplest methods -/
section FLC
variable {p : Program} {l : Launch} {e : Env} {R : Room} {s : State} {m : MethodId} {args : Array Value} {below : List Frame} {meth : Method} {c : Code} {H : Heap} {locs : List Loc} {cells slots : Nat} {Q : State → Prop}
variable {cc : ByteArray} {pc : Nat} {ls : Array Slot} {rest : List Value} {x y : Int64} {off : Int} {tgt : Nat}
theorem fl_cmp_lt (x y : Int64) : lg_cmp x y < 0 ↔ x < y := by
  unfold lg_cmp
  by_cases h1 : y < x
  · have h2 : ¬ x < y := by rw [Int64.lt_iff_toInt_lt] at *; omega
    simp [h1, h2]
  · by_cases h2 : x = y
    · subst h2; simp [h1]
    · have h3 : x < y := by
        rw [Int64.lt_iff_toInt_lt] at *
        have h4 : x.toInt ≠ y.toInt := fun q => h2 (Int64.toInt_inj.mp q)
        omega
      simp [h1, h2, h3]
theorem fl_cmp_gt (x y : Int64) : 0 < lg_cmp x y ↔ y < x := by
  unfold lg_cmp
  by_cases h1 : y < x
  · simp [h1]
  · by_cases h2 : x = y
    · subst h2; simp [h1]
    · simp [h1, h2]
theorem fl_cmp_eq (x y : Int64) : lg_cmp x y = 0 ↔ x = y := by
  unfold lg_cmp
  by_cases h1 : y < x
  · have h2 : ¬ x = y := fun q => by rw [q, Int64.lt_iff_toInt_lt] at h1; omega
    simp [h1, h2]
  · by_cases h2 : x = y
    · subst h2; simp [h1]
    · simp [h1, h2]
theorem fl_i0 (x : Int32) : 0 ≤ x ↔ ¬ x < 0 := by rw [Int32.le_iff_toInt_le, Int32.lt_iff_toInt_lt]; omega
theorem fl_i1 (x : Int32) : x ≤ 0 ↔ ¬ 0 < x := by rw [Int32.le_iff_toInt_le, Int32.lt_iff_toInt_lt]; omega
theorem fl_lc_eq (hx : p.tables.exec = Jvm.exec) (hb : c.code = cc) (hd : decode cc pc = .ok (.lcmp, 1)) (hd2 : decode cc (pc + 1) = .ok (.ifCond .eq off, 3)) (ht : ((pc + 1 : Nat) : Int) + off = (tgt : Int)) (kt : x = y → W p l e R s m args below meth c H locs cells slots Q (F0 m tgt ls rest)) (kf : ¬ x = y → W p l e R s m args below meth c H locs cells slots Q (F0 m (pc + 1 + 3) ls rest)) : W p l e R s m args below meth c H locs cells slots Q (F0 m pc ls (.long y :: .long x :: rest)) :=
  W.lcmp hx hb hd (lv_if_eq hx hb hd2 ht (fun h => kt ((fl_cmp_eq x y).mp h)) (fun h => kf (fun q => h ((fl_cmp_eq x y).mpr q))))
theorem fl_lc_ne (hx : p.tables.exec = Jvm.exec) (hb : c.code = cc) (hd : decode cc pc = .ok (.lcmp, 1)) (hd2 : decode cc (pc + 1) = .ok (.ifCond .ne off, 3)) (ht : ((pc + 1 : Nat) : Int) + off = (tgt : Int)) (kt : ¬ x = y → W p l e R s m args below meth c H locs cells slots Q (F0 m tgt ls rest)) (kf : x = y → W p l e R s m args below meth c H locs cells slots Q (F0 m (pc + 1 + 3) ls rest)) : W p l e R s m args below meth c H locs cells slots Q (F0 m pc ls (.long y :: .long x :: rest)) :=
  W.lcmp hx hb hd (lv_if_ne hx hb hd2 ht (fun h => kt (fun q => h ((fl_cmp_eq x y).mpr q))) (fun h => kf ((fl_cmp_eq x y).mp h)))
theorem fl_lc_lt (hx : p.tables.exec = Jvm.exec) (hb : c.code = cc) (hd : decode cc pc = .ok (.lcmp, 1)) (hd2 : decode cc (pc + 1) = .ok (.ifCond .lt off, 3)) (ht : ((pc + 1 : Nat) : Int) + off = (tgt : Int)) (kt : x < y → W p l e R s m args below meth c H locs cells slots Q (F0 m tgt ls rest)) (kf : ¬ x < y → W p l e R s m args below meth c H locs cells slots Q (F0 m (pc + 1 + 3) ls rest)) : W p l e R s m args below meth c H locs cells slots Q (F0 m pc ls (.long y :: .long x :: rest)) :=
  W.lcmp hx hb hd (lv_if_lt hx hb hd2 ht (fun h => kt ((fl_cmp_lt x y).mp h)) (fun h => kf (fun q => h ((fl_cmp_lt x y).mpr q))))
theorem fl_lc_ge (hx : p.tables.exec = Jvm.exec) (hb : c.code = cc) (hd : decode cc pc = .ok (.lcmp, 1)) (hd2 : decode cc (pc + 1) = .ok (.ifCond .ge off, 3)) (ht : ((pc + 1 : Nat) : Int) + off = (tgt : Int)) (kt : ¬ x < y → W p l e R s m args below meth c H locs cells slots Q (F0 m tgt ls rest)) (kf : x < y → W p l e R s m args below meth c H locs cells slots Q (F0 m (pc + 1 + 3) ls rest)) : W p l e R s m args below meth c H locs cells slots Q (F0 m pc ls (.long y :: .long x :: rest)) :=
  W.lcmp hx hb hd (lv_if_ge hx hb hd2 ht (fun h => kt (fun q => (fl_i0 _).mp h ((fl_cmp_lt x y).mpr q))) (fun h => kf (Classical.byContradiction fun q => h ((fl_i0 _).mpr fun z => q ((fl_cmp_lt x y).mp z)))))
theorem fl_lc_gt (hx : p.tables.exec = Jvm.exec) (hb : c.code = cc) (hd : decode cc pc = .ok (.lcmp, 1)) (hd2 : decode cc (pc + 1) = .ok (.ifCond .gt off, 3)) (ht : ((pc + 1 : Nat) : Int) + off = (tgt : Int)) (kt : y < x → W p l e R s m args below meth c H locs cells slots Q (F0 m tgt ls rest)) (kf : ¬ y < x → W p l e R s m args below meth c H locs cells slots Q (F0 m (pc + 1 + 3) ls rest)) : W p l e R s m args below meth c H locs cells slots Q (F0 m pc ls (.long y :: .long x :: rest)) :=
  W.lcmp hx hb hd (lv_if_gt hx hb hd2 ht (fun h => kt ((fl_cmp_gt x y).mp h)) (fun h => kf (fun q => h ((fl_cmp_gt x y).mpr q))))
theorem fl_lc_le (hx : p.tables.exec = Jvm.exec) (hb : c.code = cc) (hd : decode cc pc = .ok (.lcmp, 1)) (hd2 : decode cc (pc + 1) = .ok (.ifCond .le off, 3)) (ht : ((pc + 1 : Nat) : Int) + off = (tgt : Int)) (kt : ¬ y < x → W p l e R s m args below meth c H locs cells slots Q (F0 m tgt ls rest)) (kf : y < x → W p l e R s m args below meth c H locs cells slots Q (F0 m (pc + 1 + 3) ls rest)) : W p l e R s m args below meth c H locs cells slots Q (F0 m pc ls (.long y :: .long x :: rest)) :=
  W.lcmp hx hb hd (lv_if_le hx hb hd2 ht (fun h => kt (fun q => (fl_i1 _).mp h ((fl_cmp_gt x y).mpr q))) (fun h => kf (Classical.byContradiction fun q => h ((fl_i1 _).mpr fun z => q ((fl_cmp_gt x y).mp z)))))
end FLC
theorem hd_yX0_clear : yX0_clear.cls ≠ "java/lang/invoke/MethodHandle" ∧ yX0_clear.cls ≠ "java/lang/invoke/VarHandle" ∧ (parseMethodDescriptor yX0_clear.desc).map (fun d => d.parameters.length) = some 2 := by decide +kernel
theorem hd_yX0_put : yX0_put.cls ≠ "java/lang/invoke/MethodHandle" ∧ yX0_put.cls ≠ "java/lang/invoke/VarHandle" ∧ (parseMethodDescriptor yX0_put.desc).map (fun d => d.parameters.length) = some 3 := by decide +kernel
theorem hd_yX0_at : yX0_at.cls ≠ "java/lang/invoke/MethodHandle" ∧ yX0_at.cls ≠ "java/lang/invoke/VarHandle" ∧ (parseMethodDescriptor yX0_at.desc).map (fun d => d.parameters.length) = some 2 := by decide +kernel
theorem hd_yX0_row : yX0_row.cls ≠ "java/lang/invoke/MethodHandle" ∧ yX0_row.cls ≠ "java/lang/invoke/VarHandle" ∧ (parseMethodDescriptor yX0_row.desc).map (fun d => d.parameters.length) = some 1 := by decide +kernel
theorem hd_yX0_leadColumn : yX0_leadColumn.cls ≠ "java/lang/invoke/MethodHandle" ∧ yX0_leadColumn.cls ≠ "java/lang/invoke/VarHandle" ∧ (parseMethodDescriptor yX0_leadColumn.desc).map (fun d => d.parameters.length) = some 1 := by decide +kernel
theorem hd_yX0_leadsBefore : yX0_leadsBefore.cls ≠ "java/lang/invoke/MethodHandle" ∧ yX0_leadsBefore.cls ≠ "java/lang/invoke/VarHandle" ∧ (parseMethodDescriptor yX0_leadsBefore.desc).map (fun d => d.parameters.length) = some 1 := by decide +kernel
theorem hd_yX0_bringToForm : yX0_bringToForm.cls ≠ "java/lang/invoke/MethodHandle" ∧ yX0_bringToForm.cls ≠ "java/lang/invoke/VarHandle" ∧ (parseMethodDescriptor yX0_bringToForm.desc).map (fun d => d.parameters.length) = some 0 := by decide +kernel
theorem hd_yX0_divideOut : yX0_divideOut.cls ≠ "java/lang/invoke/MethodHandle" ∧ yX0_divideOut.cls ≠ "java/lang/invoke/VarHandle" ∧ (parseMethodDescriptor yX0_divideOut.desc).map (fun d => d.parameters.length) = some 3 := by decide +kernel
theorem hd_yX0_addLead : yX0_addLead.cls ≠ "java/lang/invoke/MethodHandle" ∧ yX0_addLead.cls ≠ "java/lang/invoke/VarHandle" ∧ (parseMethodDescriptor yX0_addLead.desc).map (fun d => d.parameters.length) = some 1 := by decide +kernel
theorem hd_yX0_reduce : yX0_reduce.cls ≠ "java/lang/invoke/MethodHandle" ∧ yX0_reduce.cls ≠ "java/lang/invoke/VarHandle" ∧ (parseMethodDescriptor yX0_reduce.desc).map (fun d => d.parameters.length) = some 1 := by decide +kernel
theorem hd_yX0_reduceBy : yX0_reduceBy.cls ≠ "java/lang/invoke/MethodHandle" ∧ yX0_reduceBy.cls ≠ "java/lang/invoke/VarHandle" ∧ (parseMethodDescriptor yX0_reduceBy.desc).map (fun d => d.parameters.length) = some 2 := by decide +kernel
theorem hd_yX1_unknowns : yX1_unknowns.cls ≠ "java/lang/invoke/MethodHandle" ∧ yX1_unknowns.cls ≠ "java/lang/invoke/VarHandle" ∧ (parseMethodDescriptor yX1_unknowns.desc).map (fun d => d.parameters.length) = some 1 := by decide +kernel
theorem hd_yX1_equation : yX1_equation.cls ≠ "java/lang/invoke/MethodHandle" ∧ yX1_equation.cls ≠ "java/lang/invoke/VarHandle" ∧ (parseMethodDescriptor yX1_equation.desc).map (fun d => d.parameters.length) = some 5 := by decide +kernel
theorem hd_yX1_sum : yX1_sum.cls ≠ "java/lang/invoke/MethodHandle" ∧ yX1_sum.cls ≠ "java/lang/invoke/VarHandle" ∧ (parseMethodDescriptor yX1_sum.desc).map (fun d => d.parameters.length) = some 2 := by decide +kernel
theorem hd_yX1_drop : yX1_drop.cls ≠ "java/lang/invoke/MethodHandle" ∧ yX1_drop.cls ≠ "java/lang/invoke/VarHandle" ∧ (parseMethodDescriptor yX1_drop.desc).map (fun d => d.parameters.length) = some 0 := by decide +kernel
theorem hd_yX1_solve : yX1_solve.cls ≠ "java/lang/invoke/MethodHandle" ∧ yX1_solve.cls ≠ "java/lang/invoke/VarHandle" ∧ (parseMethodDescriptor yX1_solve.desc).map (fun d => d.parameters.length) = some 0 := by decide +kernel
theorem hd_yX1_fails : yX1_fails.cls ≠ "java/lang/invoke/MethodHandle" ∧ yX1_fails.cls ≠ "java/lang/invoke/VarHandle" ∧ (parseMethodDescriptor yX1_fails.desc).map (fun d => d.parameters.length) = some 0 := by decide +kernel
theorem hd_yX1_solution : yX1_solution.cls ≠ "java/lang/invoke/MethodHandle" ∧ yX1_solution.cls ≠ "java/lang/invoke/VarHandle" ∧ (parseMethodDescriptor yX1_solution.desc).map (fun d => d.parameters.length) = some 1 := by decide +kernel
theorem hd_yX1_basis : yX1_basis.cls ≠ "java/lang/invoke/MethodHandle" ∧ yX1_basis.cls ≠ "java/lang/invoke/VarHandle" ∧ (parseMethodDescriptor yX1_basis.desc).map (fun d => d.parameters.length) = some 2 := by decide +kernel
theorem hd_yX1_count : yX1_count.cls ≠ "java/lang/invoke/MethodHandle" ∧ yX1_count.cls ≠ "java/lang/invoke/VarHandle" ∧ (parseMethodDescriptor yX1_count.desc).map (fun d => d.parameters.length) = some 1 := by decide +kernel
theorem hd_yX1_reach : yX1_reach.cls ≠ "java/lang/invoke/MethodHandle" ∧ yX1_reach.cls ≠ "java/lang/invoke/VarHandle" ∧ (parseMethodDescriptor yX1_reach.desc).map (fun d => d.parameters.length) = some 2 := by decide +kernel
theorem hd_yX1_reached : yX1_reached.cls ≠ "java/lang/invoke/MethodHandle" ∧ yX1_reached.cls ≠ "java/lang/invoke/VarHandle" ∧ (parseMethodDescriptor yX1_reached.desc).map (fun d => d.parameters.length) = some 3 := by decide +kernel
theorem hd_yX1_invariant : yX1_invariant.cls ≠ "java/lang/invoke/MethodHandle" ∧ yX1_invariant.cls ≠ "java/lang/invoke/VarHandle" ∧ (parseMethodDescriptor yX1_invariant.desc).map (fun d => d.parameters.length) = some 1 := by decide +kernel
theorem hd_yX1_box : yX1_box.cls ≠ "java/lang/invoke/MethodHandle" ∧ yX1_box.cls ≠ "java/lang/invoke/VarHandle" ∧ (parseMethodDescriptor yX1_box.desc).map (fun d => d.parameters.length) = some 2 := by decide +kernel
theorem hd_yX1_modulo : yX1_modulo.cls ≠ "java/lang/invoke/MethodHandle" ∧ yX1_modulo.cls ≠ "java/lang/invoke/VarHandle" ∧ (parseMethodDescriptor yX1_modulo.desc).map (fun d => d.parameters.length) = some 1 := by decide +kernel
theorem hd_yX1_spread : yX1_spread.cls ≠ "java/lang/invoke/MethodHandle" ∧ yX1_spread.cls ≠ "java/lang/invoke/VarHandle" ∧ (parseMethodDescriptor yX1_spread.desc).map (fun d => d.parameters.length) = some 0 := by decide +kernel
theorem hd_yX1_check : yX1_check.cls ≠ "java/lang/invoke/MethodHandle" ∧ yX1_check.cls ≠ "java/lang/invoke/VarHandle" ∧ (parseMethodDescriptor yX1_check.desc).map (fun d => d.parameters.length) = some 0 := by decide +kernel
theorem hd_yX1_isSum : yX1_isSum.cls ≠ "java/lang/invoke/MethodHandle" ∧ yX1_isSum.cls ≠ "java/lang/invoke/VarHandle" ∧ (parseMethodDescriptor yX1_isSum.desc).map (fun d => d.parameters.length) = some 1 := by decide +kernel
theorem hd_yX1_isFactor : yX1_isFactor.cls ≠ "java/lang/invoke/MethodHandle" ∧ yX1_isFactor.cls ≠ "java/lang/invoke/VarHandle" ∧ (parseMethodDescriptor yX1_isFactor.desc).map (fun d => d.parameters.length) = some 2 := by decide +kernel
theorem hd_yX1_basisRows : yX1_basisRows.cls ≠ "java/lang/invoke/MethodHandle" ∧ yX1_basisRows.cls ≠ "java/lang/invoke/VarHandle" ∧ (parseMethodDescriptor yX1_basisRows.desc).map (fun d => d.parameters.length) = some 0 := by decide +kernel
theorem hd_yX1_basisNumber : yX1_basisNumber.cls ≠ "java/lang/invoke/MethodHandle" ∧ yX1_basisNumber.cls ≠ "java/lang/invoke/VarHandle" ∧ (parseMethodDescriptor yX1_basisNumber.desc).map (fun d => d.parameters.length) = some 2 := by decide +kernel
theorem hd_yX1_leadUnknown : yX1_leadUnknown.cls ≠ "java/lang/invoke/MethodHandle" ∧ yX1_leadUnknown.cls ≠ "java/lang/invoke/VarHandle" ∧ (parseMethodDescriptor yX1_leadUnknown.desc).map (fun d => d.parameters.length) = some 1 := by decide +kernel
theorem hd_yX1_formWhole : yX1_formWhole.cls ≠ "java/lang/invoke/MethodHandle" ∧ yX1_formWhole.cls ≠ "java/lang/invoke/VarHandle" ∧ (parseMethodDescriptor yX1_formWhole.desc).map (fun d => d.parameters.length) = some 0 := by decide +kernel
theorem hd_yX1_settleSolution : yX1_settleSolution.cls ≠ "java/lang/invoke/MethodHandle" ∧ yX1_settleSolution.cls ≠ "java/lang/invoke/VarHandle" ∧ (parseMethodDescriptor yX1_settleSolution.desc).map (fun d => d.parameters.length) = some 0 := by decide +kernel
theorem hd_yX1_firstNotZero : yX1_firstNotZero.cls ≠ "java/lang/invoke/MethodHandle" ∧ yX1_firstNotZero.cls ≠ "java/lang/invoke/VarHandle" ∧ (parseMethodDescriptor yX1_firstNotZero.desc).map (fun d => d.parameters.length) = some 1 := by decide +kernel
theorem hd_yX1_fillWithZero : yX1_fillWithZero.cls ≠ "java/lang/invoke/MethodHandle" ∧ yX1_fillWithZero.cls ≠ "java/lang/invoke/VarHandle" ∧ (parseMethodDescriptor yX1_fillWithZero.desc).map (fun d => d.parameters.length) = some 1 := by decide +kernel
theorem hd_yX1_divisorOfDeterminants : yX1_divisorOfDeterminants.cls ≠ "java/lang/invoke/MethodHandle" ∧ yX1_divisorOfDeterminants.cls ≠ "java/lang/invoke/VarHandle" ∧ (parseMethodDescriptor yX1_divisorOfDeterminants.desc).map (fun d => d.parameters.length) = some 1 := by decide +kernel
theorem hd_yX1_divisorOverUnknowns : yX1_divisorOverUnknowns.cls ≠ "java/lang/invoke/MethodHandle" ∧ yX1_divisorOverUnknowns.cls ≠ "java/lang/invoke/VarHandle" ∧ (parseMethodDescriptor yX1_divisorOverUnknowns.desc).map (fun d => d.parameters.length) = some 2 := by decide +kernel
theorem hd_yX1_determinant : yX1_determinant.cls ≠ "java/lang/invoke/MethodHandle" ∧ yX1_determinant.cls ≠ "java/lang/invoke/VarHandle" ∧ (parseMethodDescriptor yX1_determinant.desc).map (fun d => d.parameters.length) = some 3 := by decide +kernel
theorem hd_yX1_commonDivisor : yX1_commonDivisor.cls ≠ "java/lang/invoke/MethodHandle" ∧ yX1_commonDivisor.cls ≠ "java/lang/invoke/VarHandle" ∧ (parseMethodDescriptor yX1_commonDivisor.desc).map (fun d => d.parameters.length) = some 2 := by decide +kernel
theorem hd_yX1_unmovedLieInside : yX1_unmovedLieInside.cls ≠ "java/lang/invoke/MethodHandle" ∧ yX1_unmovedLieInside.cls ≠ "java/lang/invoke/VarHandle" ∧ (parseMethodDescriptor yX1_unmovedLieInside.desc).map (fun d => d.parameters.length) = some 2 := by decide +kernel
theorem hd_yX1_countFrom : yX1_countFrom.cls ≠ "java/lang/invoke/MethodHandle" ∧ yX1_countFrom.cls ≠ "java/lang/invoke/VarHandle" ∧ (parseMethodDescriptor yX1_countFrom.desc).map (fun d => d.parameters.length) = some 3 := by decide +kernel
theorem hd_yX1_leastTurns : yX1_leastTurns.cls ≠ "java/lang/invoke/MethodHandle" ∧ yX1_leastTurns.cls ≠ "java/lang/invoke/VarHandle" ∧ (parseMethodDescriptor yX1_leastTurns.desc).map (fun d => d.parameters.length) = some 3 := by decide +kernel
theorem hd_yX1_mostTurns : yX1_mostTurns.cls ≠ "java/lang/invoke/MethodHandle" ∧ yX1_mostTurns.cls ≠ "java/lang/invoke/VarHandle" ∧ (parseMethodDescriptor yX1_mostTurns.desc).map (fun d => d.parameters.length) = some 3 := by decide +kernel
theorem hd_yX1_leavesLaterUnknowns : yX1_leavesLaterUnknowns.cls ≠ "java/lang/invoke/MethodHandle" ∧ yX1_leavesLaterUnknowns.cls ≠ "java/lang/invoke/VarHandle" ∧ (parseMethodDescriptor yX1_leavesLaterUnknowns.desc).map (fun d => d.parameters.length) = some 1 := by decide +kernel
theorem hd_yX1_turn : yX1_turn.cls ≠ "java/lang/invoke/MethodHandle" ∧ yX1_turn.cls ≠ "java/lang/invoke/VarHandle" ∧ (parseMethodDescriptor yX1_turn.desc).map (fun d => d.parameters.length) = some 2 := by decide +kernel
theorem hd_yX1_formRemainders : yX1_formRemainders.cls ≠ "java/lang/invoke/MethodHandle" ∧ yX1_formRemainders.cls ≠ "java/lang/invoke/VarHandle" ∧ (parseMethodDescriptor yX1_formRemainders.desc).map (fun d => d.parameters.length) = some 1 := by decide +kernel
theorem hd_yX1_waysToEachSum : yX1_waysToEachSum.cls ≠ "java/lang/invoke/MethodHandle" ∧ yX1_waysToEachSum.cls ≠ "java/lang/invoke/VarHandle" ∧ (parseMethodDescriptor yX1_waysToEachSum.desc).map (fun d => d.parameters.length) = some 1 := by decide +kernel
theorem hd_yX1_solutionHolds : yX1_solutionHolds.cls ≠ "java/lang/invoke/MethodHandle" ∧ yX1_solutionHolds.cls ≠ "java/lang/invoke/VarHandle" ∧ (parseMethodDescriptor yX1_solutionHolds.desc).map (fun d => d.parameters.length) = some 0 := by decide +kernel
theorem hd_yX1_rowHolds : yX1_rowHolds.cls ≠ "java/lang/invoke/MethodHandle" ∧ yX1_rowHolds.cls ≠ "java/lang/invoke/VarHandle" ∧ (parseMethodDescriptor yX1_rowHolds.desc).map (fun d => d.parameters.length) = some 1 := by decide +kernel
theorem hd_yX1_sumOfUnknowns : yX1_sumOfUnknowns.cls ≠ "java/lang/invoke/MethodHandle" ∧ yX1_sumOfUnknowns.cls ≠ "java/lang/invoke/VarHandle" ∧ (parseMethodDescriptor yX1_sumOfUnknowns.desc).map (fun d => d.parameters.length) = some 2 := by decide +kernel
theorem hd_yX2_unknowns : yX2_unknowns.cls ≠ "java/lang/invoke/MethodHandle" ∧ yX2_unknowns.cls ≠ "java/lang/invoke/VarHandle" ∧ (parseMethodDescriptor yX2_unknowns.desc).map (fun d => d.parameters.length) = some 1 := by decide +kernel
theorem hd_yX2_isSum : yX2_isSum.cls ≠ "java/lang/invoke/MethodHandle" ∧ yX2_isSum.cls ≠ "java/lang/invoke/VarHandle" ∧ (parseMethodDescriptor yX2_isSum.desc).map (fun d => d.parameters.length) = some 1 := by decide +kernel
theorem hd_yX2_isFactor : yX2_isFactor.cls ≠ "java/lang/invoke/MethodHandle" ∧ yX2_isFactor.cls ≠ "java/lang/invoke/VarHandle" ∧ (parseMethodDescriptor yX2_isFactor.desc).map (fun d => d.parameters.length) = some 2 := by decide +kernel
theorem hd_yX2_equation : yX2_equation.cls ≠ "java/lang/invoke/MethodHandle" ∧ yX2_equation.cls ≠ "java/lang/invoke/VarHandle" ∧ (parseMethodDescriptor yX2_equation.desc).map (fun d => d.parameters.length) = some 5 := by decide +kernel
theorem hd_yX2_sum : yX2_sum.cls ≠ "java/lang/invoke/MethodHandle" ∧ yX2_sum.cls ≠ "java/lang/invoke/VarHandle" ∧ (parseMethodDescriptor yX2_sum.desc).map (fun d => d.parameters.length) = some 2 := by decide +kernel
theorem hd_yX2_drop : yX2_drop.cls ≠ "java/lang/invoke/MethodHandle" ∧ yX2_drop.cls ≠ "java/lang/invoke/VarHandle" ∧ (parseMethodDescriptor yX2_drop.desc).map (fun d => d.parameters.length) = some 0 := by decide +kernel
theorem hd_yX2_down : yX2_down.cls ≠ "java/lang/invoke/MethodHandle" ∧ yX2_down.cls ≠ "java/lang/invoke/VarHandle" ∧ (parseMethodDescriptor yX2_down.desc).map (fun d => d.parameters.length) = some 2 := by decide +kernel
theorem hd_yX2_take : yX2_take.cls ≠ "java/lang/invoke/MethodHandle" ∧ yX2_take.cls ≠ "java/lang/invoke/VarHandle" ∧ (parseMethodDescriptor yX2_take.desc).map (fun d => d.parameters.length) = some 4 := by decide +kernel
theorem hd_yX2_change : yX2_change.cls ≠ "java/lang/invoke/MethodHandle" ∧ yX2_change.cls ≠ "java/lang/invoke/VarHandle" ∧ (parseMethodDescriptor yX2_change.desc).map (fun d => d.parameters.length) = some 2 := by decide +kernel
theorem hd_yX2_size : yX2_size.cls ≠ "java/lang/invoke/MethodHandle" ∧ yX2_size.cls ≠ "java/lang/invoke/VarHandle" ∧ (parseMethodDescriptor yX2_size.desc).map (fun d => d.parameters.length) = some 1 := by decide +kernel
theorem hd_yX2_least : yX2_least.cls ≠ "java/lang/invoke/MethodHandle" ∧ yX2_least.cls ≠ "java/lang/invoke/VarHandle" ∧ (parseMethodDescriptor yX2_least.desc).map (fun d => d.parameters.length) = some 3 := by decide +kernel
theorem hd_yX2_form : yX2_form.cls ≠ "java/lang/invoke/MethodHandle" ∧ yX2_form.cls ≠ "java/lang/invoke/VarHandle" ∧ (parseMethodDescriptor yX2_form.desc).map (fun d => d.parameters.length) = some 2 := by decide +kernel
theorem hd_yX2_relate : yX2_relate.cls ≠ "java/lang/invoke/MethodHandle" ∧ yX2_relate.cls ≠ "java/lang/invoke/VarHandle" ∧ (parseMethodDescriptor yX2_relate.desc).map (fun d => d.parameters.length) = some 1 := by decide +kernel
theorem hd_yX2_before : yX2_before.cls ≠ "java/lang/invoke/MethodHandle" ∧ yX2_before.cls ≠ "java/lang/invoke/VarHandle" ∧ (parseMethodDescriptor yX2_before.desc).map (fun d => d.parameters.length) = some 1 := by decide +kernel
theorem hd_yX2_comes : yX2_comes.cls ≠ "java/lang/invoke/MethodHandle" ∧ yX2_comes.cls ≠ "java/lang/invoke/VarHandle" ∧ (parseMethodDescriptor yX2_comes.desc).map (fun d => d.parameters.length) = some 1 := by decide +kernel
theorem hd_yX2_goes : yX2_goes.cls ≠ "java/lang/invoke/MethodHandle" ∧ yX2_goes.cls ≠ "java/lang/invoke/VarHandle" ∧ (parseMethodDescriptor yX2_goes.desc).map (fun d => d.parameters.length) = some 1 := by decide +kernel
theorem hd_yX2_basisCount : yX2_basisCount.cls ≠ "java/lang/invoke/MethodHandle" ∧ yX2_basisCount.cls ≠ "java/lang/invoke/VarHandle" ∧ (parseMethodDescriptor yX2_basisCount.desc).map (fun d => d.parameters.length) = some 0 := by decide +kernel
theorem hd_yX2_solve : yX2_solve.cls ≠ "java/lang/invoke/MethodHandle" ∧ yX2_solve.cls ≠ "java/lang/invoke/VarHandle" ∧ (parseMethodDescriptor yX2_solve.desc).map (fun d => d.parameters.length) = some 0 := by decide +kernel
theorem hd_yX2_fails : yX2_fails.cls ≠ "java/lang/invoke/MethodHandle" ∧ yX2_fails.cls ≠ "java/lang/invoke/VarHandle" ∧ (parseMethodDescriptor yX2_fails.desc).map (fun d => d.parameters.length) = some 0 := by decide +kernel
theorem hd_yX2_solution : yX2_solution.cls ≠ "java/lang/invoke/MethodHandle" ∧ yX2_solution.cls ≠ "java/lang/invoke/VarHandle" ∧ (parseMethodDescriptor yX2_solution.desc).map (fun d => d.parameters.length) = some 1 := by decide +kernel
theorem hd_yX2_basis : yX2_basis.cls ≠ "java/lang/invoke/MethodHandle" ∧ yX2_basis.cls ≠ "java/lang/invoke/VarHandle" ∧ (parseMethodDescriptor yX2_basis.desc).map (fun d => d.parameters.length) = some 2 := by decide +kernel
theorem hd_yX2_count : yX2_count.cls ≠ "java/lang/invoke/MethodHandle" ∧ yX2_count.cls ≠ "java/lang/invoke/VarHandle" ∧ (parseMethodDescriptor yX2_count.desc).map (fun d => d.parameters.length) = some 1 := by decide +kernel
theorem hd_yX2_reach : yX2_reach.cls ≠ "java/lang/invoke/MethodHandle" ∧ yX2_reach.cls ≠ "java/lang/invoke/VarHandle" ∧ (parseMethodDescriptor yX2_reach.desc).map (fun d => d.parameters.length) = some 2 := by decide +kernel
theorem hd_yX2_reached : yX2_reached.cls ≠ "java/lang/invoke/MethodHandle" ∧ yX2_reached.cls ≠ "java/lang/invoke/VarHandle" ∧ (parseMethodDescriptor yX2_reached.desc).map (fun d => d.parameters.length) = some 3 := by decide +kernel
theorem hd_yX2_common : yX2_common.cls ≠ "java/lang/invoke/MethodHandle" ∧ yX2_common.cls ≠ "java/lang/invoke/VarHandle" ∧ (parseMethodDescriptor yX2_common.desc).map (fun d => d.parameters.length) = some 2 := by decide +kernel
theorem hd_yX2_place : yX2_place.cls ≠ "java/lang/invoke/MethodHandle" ∧ yX2_place.cls ≠ "java/lang/invoke/VarHandle" ∧ (parseMethodDescriptor yX2_place.desc).map (fun d => d.parameters.length) = some 2 := by decide +kernel
theorem hd_yX2_ones : yX2_ones.cls ≠ "java/lang/invoke/MethodHandle" ∧ yX2_ones.cls ≠ "java/lang/invoke/VarHandle" ∧ (parseMethodDescriptor yX2_ones.desc).map (fun d => d.parameters.length) = some 1 := by decide +kernel
theorem hd_yX2_two : yX2_two.cls ≠ "java/lang/invoke/MethodHandle" ∧ yX2_two.cls ≠ "java/lang/invoke/VarHandle" ∧ (parseMethodDescriptor yX2_two.desc).map (fun d => d.parameters.length) = some 4 := by decide +kernel
theorem hd_yX2_determinant : yX2_determinant.cls ≠ "java/lang/invoke/MethodHandle" ∧ yX2_determinant.cls ≠ "java/lang/invoke/VarHandle" ∧ (parseMethodDescriptor yX2_determinant.desc).map (fun d => d.parameters.length) = some 3 := by decide +kernel
theorem hd_yX2_divisor : yX2_divisor.cls ≠ "java/lang/invoke/MethodHandle" ∧ yX2_divisor.cls ≠ "java/lang/invoke/VarHandle" ∧ (parseMethodDescriptor yX2_divisor.desc).map (fun d => d.parameters.length) = some 1 := by decide +kernel
theorem hd_yX2_invariant : yX2_invariant.cls ≠ "java/lang/invoke/MethodHandle" ∧ yX2_invariant.cls ≠ "java/lang/invoke/VarHandle" ∧ (parseMethodDescriptor yX2_invariant.desc).map (fun d => d.parameters.length) = some 1 := by decide +kernel
theorem hd_yX2_leftOf : yX2_leftOf.cls ≠ "java/lang/invoke/MethodHandle" ∧ yX2_leftOf.cls ≠ "java/lang/invoke/VarHandle" ∧ (parseMethodDescriptor yX2_leftOf.desc).map (fun d => d.parameters.length) = some 4 := by decide +kernel
theorem hd_yX2_lasts : yX2_lasts.cls ≠ "java/lang/invoke/MethodHandle" ∧ yX2_lasts.cls ≠ "java/lang/invoke/VarHandle" ∧ (parseMethodDescriptor yX2_lasts.desc).map (fun d => d.parameters.length) = some 5 := by decide +kernel
theorem hd_yX2_box : yX2_box.cls ≠ "java/lang/invoke/MethodHandle" ∧ yX2_box.cls ≠ "java/lang/invoke/VarHandle" ∧ (parseMethodDescriptor yX2_box.desc).map (fun d => d.parameters.length) = some 2 := by decide +kernel
theorem hd_yX2_modulo : yX2_modulo.cls ≠ "java/lang/invoke/MethodHandle" ∧ yX2_modulo.cls ≠ "java/lang/invoke/VarHandle" ∧ (parseMethodDescriptor yX2_modulo.desc).map (fun d => d.parameters.length) = some 1 := by decide +kernel
theorem hd_yX2_spread : yX2_spread.cls ≠ "java/lang/invoke/MethodHandle" ∧ yX2_spread.cls ≠ "java/lang/invoke/VarHandle" ∧ (parseMethodDescriptor yX2_spread.desc).map (fun d => d.parameters.length) = some 0 := by decide +kernel
theorem hd_yX2_check : yX2_check.cls ≠ "java/lang/invoke/MethodHandle" ∧ yX2_check.cls ≠ "java/lang/invoke/VarHandle" ∧ (parseMethodDescriptor yX2_check.desc).map (fun d => d.parameters.length) = some 0 := by decide +kernel
theorem hd_yJ6_bitCount_0f7a4 : yJ6_bitCount_0f7a4.cls ≠ "java/lang/invoke/MethodHandle" ∧ yJ6_bitCount_0f7a4.cls ≠ "java/lang/invoke/VarHandle" ∧ (parseMethodDescriptor yJ6_bitCount_0f7a4.desc).map (fun d => d.parameters.length) = some 1 := by decide +kernel
theorem hd_yJ9_floorDiv_f86c9 : yJ9_floorDiv_f86c9.cls ≠ "java/lang/invoke/MethodHandle" ∧ yJ9_floorDiv_f86c9.cls ≠ "java/lang/invoke/VarHandle" ∧ (parseMethodDescriptor yJ9_floorDiv_f86c9.desc).map (fun d => d.parameters.length) = some 2 := by decide +kernel
theorem hd_yJ9_abs_067f4 : yJ9_abs_067f4.cls ≠ "java/lang/invoke/MethodHandle" ∧ yJ9_abs_067f4.cls ≠ "java/lang/invoke/VarHandle" ∧ (parseMethodDescriptor yJ9_abs_067f4.desc).map (fun d => d.parameters.length) = some 1 := by decide +kernel
theorem hd_yJ9_max_f86c9 : yJ9_max_f86c9.cls ≠ "java/lang/invoke/MethodHandle" ∧ yJ9_max_f86c9.cls ≠ "java/lang/invoke/VarHandle" ∧ (parseMethodDescriptor yJ9_max_f86c9.desc).map (fun d => d.parameters.length) = some 2 := by decide +kernel
theorem hd_yJ9_min_f86c9 : yJ9_min_f86c9.cls ≠ "java/lang/invoke/MethodHandle" ∧ yJ9_min_f86c9.cls ≠ "java/lang/invoke/VarHandle" ∧ (parseMethodDescriptor yJ9_min_f86c9.desc).map (fun d => d.parameters.length) = some 2 := by decide +kernel
