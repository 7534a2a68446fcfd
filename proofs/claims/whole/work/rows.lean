section
-- ===== PART A: goes FIRST, ahead of the names: the tables' words, and 'selects' of the private methods out of them =====
/-- a private method of a class that the tables say can be made, by its rows of tables_1 -/
def lw_okq (q : MethodName × Nat) : Prop := (q.1.cls ≠ "java/lang/invoke/MethodHandle" ∧ q.1.cls ≠ "java/lang/invoke/VarHandle") ∧ Cond.instantiable q.1.cls q.2 ∈ tables_1 ∧ Cond.privateMethod q.1 ∈ tables_1 ∧ Cond.instanceMethod q.1 ∈ tables_1
theorem lw_p0 : lw_okq (⟨"WholeSolver", "formWhole", "()V"⟩, 11) := ⟨⟨by decide +kernel, by decide +kernel⟩, List.mem_of_getElem? (i := 7) (by decide +kernel), List.mem_of_getElem? (i := 44) (by decide +kernel), List.mem_of_getElem? (i := 45) (by decide +kernel)⟩
theorem lw_p1 : lw_okq (⟨"WholeSolver$Lattice", "divideOut", "(III)V"⟩, 5) := ⟨⟨by decide +kernel, by decide +kernel⟩, List.mem_of_getElem? (i := 17) (by decide +kernel), List.mem_of_getElem? (i := 63) (by decide +kernel), List.mem_of_getElem? (i := 64) (by decide +kernel)⟩
theorem lw_p2 : lw_okq (⟨"WholeSolver$Lattice", "addLead", "(I)V"⟩, 5) := ⟨⟨by decide +kernel, by decide +kernel⟩, List.mem_of_getElem? (i := 17) (by decide +kernel), List.mem_of_getElem? (i := 70) (by decide +kernel), List.mem_of_getElem? (i := 71) (by decide +kernel)⟩
theorem lw_p3 : lw_okq (⟨"WholeSolver$Lattice", "reduceBy", "(I[J)V"⟩, 5) := ⟨⟨by decide +kernel, by decide +kernel⟩, List.mem_of_getElem? (i := 17) (by decide +kernel), List.mem_of_getElem? (i := 74) (by decide +kernel), List.mem_of_getElem? (i := 75) (by decide +kernel)⟩
theorem lw_p4 : lw_okq (⟨"WholeSolver", "settleSolution", "()V"⟩, 11) := ⟨⟨by decide +kernel, by decide +kernel⟩, List.mem_of_getElem? (i := 7) (by decide +kernel), List.mem_of_getElem? (i := 82) (by decide +kernel), List.mem_of_getElem? (i := 83) (by decide +kernel)⟩
theorem lw_p5 : lw_okq (⟨"WholeSolver", "firstNotZero", "([J)I"⟩, 11) := ⟨⟨by decide +kernel, by decide +kernel⟩, List.mem_of_getElem? (i := 7) (by decide +kernel), List.mem_of_getElem? (i := 91) (by decide +kernel), List.mem_of_getElem? (i := 92) (by decide +kernel)⟩
theorem lw_p6 : lw_okq (⟨"WholeSolver", "isFactor", "(II)Z"⟩, 11) := ⟨⟨by decide +kernel, by decide +kernel⟩, List.mem_of_getElem? (i := 7) (by decide +kernel), List.mem_of_getElem? (i := 140) (by decide +kernel), List.mem_of_getElem? (i := 141) (by decide +kernel)⟩
theorem lw_p7 : lw_okq (⟨"WholeSolver", "basisRows", "()I"⟩, 11) := ⟨⟨by decide +kernel, by decide +kernel⟩, List.mem_of_getElem? (i := 7) (by decide +kernel), List.mem_of_getElem? (i := 156) (by decide +kernel), List.mem_of_getElem? (i := 157) (by decide +kernel)⟩
theorem lw_p8 : lw_okq (⟨"WholeSolver", "basisNumber", "(II)J"⟩, 11) := ⟨⟨by decide +kernel, by decide +kernel⟩, List.mem_of_getElem? (i := 7) (by decide +kernel), List.mem_of_getElem? (i := 173) (by decide +kernel), List.mem_of_getElem? (i := 174) (by decide +kernel)⟩
theorem lw_p9 : lw_okq (⟨"WholeSolver", "divisorOfDeterminants", "(I)J"⟩, 11) := ⟨⟨by decide +kernel, by decide +kernel⟩, List.mem_of_getElem? (i := 7) (by decide +kernel), List.mem_of_getElem? (i := 197) (by decide +kernel), List.mem_of_getElem? (i := 198) (by decide +kernel)⟩
theorem lw_p10 : lw_okq (⟨"WholeSolver", "divisorOverUnknowns", "(II)J"⟩, 11) := ⟨⟨by decide +kernel, by decide +kernel⟩, List.mem_of_getElem? (i := 7) (by decide +kernel), List.mem_of_getElem? (i := 207) (by decide +kernel), List.mem_of_getElem? (i := 208) (by decide +kernel)⟩
theorem lw_p11 : lw_okq (⟨"WholeSolver", "determinant", "(III)J"⟩, 11) := ⟨⟨by decide +kernel, by decide +kernel⟩, List.mem_of_getElem? (i := 7) (by decide +kernel), List.mem_of_getElem? (i := 211) (by decide +kernel), List.mem_of_getElem? (i := 212) (by decide +kernel)⟩
theorem lw_p12 : lw_okq (⟨"WholeSolver", "unmovedLieInside", "(II)Z"⟩, 11) := ⟨⟨by decide +kernel, by decide +kernel⟩, List.mem_of_getElem? (i := 7) (by decide +kernel), List.mem_of_getElem? (i := 225) (by decide +kernel), List.mem_of_getElem? (i := 226) (by decide +kernel)⟩
theorem lw_p13 : lw_okq (⟨"WholeSolver", "leadUnknown", "(I)I"⟩, 11) := ⟨⟨by decide +kernel, by decide +kernel⟩, List.mem_of_getElem? (i := 7) (by decide +kernel), List.mem_of_getElem? (i := 229) (by decide +kernel), List.mem_of_getElem? (i := 230) (by decide +kernel)⟩
theorem lw_p14 : lw_okq (⟨"WholeSolver", "countFrom", "(III)J"⟩, 11) := ⟨⟨by decide +kernel, by decide +kernel⟩, List.mem_of_getElem? (i := 7) (by decide +kernel), List.mem_of_getElem? (i := 237) (by decide +kernel), List.mem_of_getElem? (i := 238) (by decide +kernel)⟩
theorem lw_p15 : lw_okq (⟨"WholeSolver", "leastTurns", "(III)J"⟩, 11) := ⟨⟨by decide +kernel, by decide +kernel⟩, List.mem_of_getElem? (i := 7) (by decide +kernel), List.mem_of_getElem? (i := 241) (by decide +kernel), List.mem_of_getElem? (i := 242) (by decide +kernel)⟩
def lw_privs_1 : List (MethodName × Nat) := [(⟨"WholeSolver", "formWhole", "()V"⟩, 11), (⟨"WholeSolver$Lattice", "divideOut", "(III)V"⟩, 5), (⟨"WholeSolver$Lattice", "addLead", "(I)V"⟩, 5), (⟨"WholeSolver$Lattice", "reduceBy", "(I[J)V"⟩, 5), (⟨"WholeSolver", "settleSolution", "()V"⟩, 11), (⟨"WholeSolver", "firstNotZero", "([J)I"⟩, 11), (⟨"WholeSolver", "isFactor", "(II)Z"⟩, 11), (⟨"WholeSolver", "basisRows", "()I"⟩, 11), (⟨"WholeSolver", "basisNumber", "(II)J"⟩, 11), (⟨"WholeSolver", "divisorOfDeterminants", "(I)J"⟩, 11), (⟨"WholeSolver", "divisorOverUnknowns", "(II)J"⟩, 11), (⟨"WholeSolver", "determinant", "(III)J"⟩, 11), (⟨"WholeSolver", "unmovedLieInside", "(II)Z"⟩, 11), (⟨"WholeSolver", "leadUnknown", "(I)I"⟩, 11), (⟨"WholeSolver", "countFrom", "(III)J"⟩, 11), (⟨"WholeSolver", "leastTurns", "(III)J"⟩, 11)]
theorem lw_r1 : ∀ q ∈ lw_privs_1, lw_okq q := List.forall_mem_cons.mpr ⟨lw_p0, List.forall_mem_cons.mpr ⟨lw_p1, List.forall_mem_cons.mpr ⟨lw_p2, List.forall_mem_cons.mpr ⟨lw_p3, List.forall_mem_cons.mpr ⟨lw_p4, List.forall_mem_cons.mpr ⟨lw_p5, List.forall_mem_cons.mpr ⟨lw_p6, List.forall_mem_cons.mpr ⟨lw_p7, List.forall_mem_cons.mpr ⟨lw_p8, List.forall_mem_cons.mpr ⟨lw_p9, List.forall_mem_cons.mpr ⟨lw_p10, List.forall_mem_cons.mpr ⟨lw_p11, List.forall_mem_cons.mpr ⟨lw_p12, List.forall_mem_cons.mpr ⟨lw_p13, List.forall_mem_cons.mpr ⟨lw_p14, List.forall_mem_cons.mpr ⟨lw_p15, fun _ h => absurd h List.not_mem_nil⟩⟩⟩⟩⟩⟩⟩⟩⟩⟩⟩⟩⟩⟩⟩⟩
theorem lw_p16 : lw_okq (⟨"WholeSolver", "mostTurns", "(III)J"⟩, 11) := ⟨⟨by decide +kernel, by decide +kernel⟩, List.mem_of_getElem? (i := 7) (by decide +kernel), List.mem_of_getElem? (i := 250) (by decide +kernel), List.mem_of_getElem? (i := 251) (by decide +kernel)⟩
theorem lw_p17 : lw_okq (⟨"WholeSolver", "leavesLaterUnknowns", "(I)Z"⟩, 11) := ⟨⟨by decide +kernel, by decide +kernel⟩, List.mem_of_getElem? (i := 7) (by decide +kernel), List.mem_of_getElem? (i := 258) (by decide +kernel), List.mem_of_getElem? (i := 259) (by decide +kernel)⟩
theorem lw_p18 : lw_okq (⟨"WholeSolver", "turn", "(IJ)V"⟩, 11) := ⟨⟨by decide +kernel, by decide +kernel⟩, List.mem_of_getElem? (i := 7) (by decide +kernel), List.mem_of_getElem? (i := 262) (by decide +kernel), List.mem_of_getElem? (i := 263) (by decide +kernel)⟩
theorem lw_p19 : lw_okq (⟨"WholeSolver", "formRemainders", "(I)V"⟩, 11) := ⟨⟨by decide +kernel, by decide +kernel⟩, List.mem_of_getElem? (i := 7) (by decide +kernel), List.mem_of_getElem? (i := 270) (by decide +kernel), List.mem_of_getElem? (i := 271) (by decide +kernel)⟩
theorem lw_p20 : lw_okq (⟨"WholeSolver", "waysToEachSum", "(I)J"⟩, 11) := ⟨⟨by decide +kernel, by decide +kernel⟩, List.mem_of_getElem? (i := 7) (by decide +kernel), List.mem_of_getElem? (i := 274) (by decide +kernel), List.mem_of_getElem? (i := 275) (by decide +kernel)⟩
theorem lw_p21 : lw_okq (⟨"WholeSolver", "solutionHolds", "()Z"⟩, 11) := ⟨⟨by decide +kernel, by decide +kernel⟩, List.mem_of_getElem? (i := 7) (by decide +kernel), List.mem_of_getElem? (i := 287) (by decide +kernel), List.mem_of_getElem? (i := 288) (by decide +kernel)⟩
theorem lw_p22 : lw_okq (⟨"WholeSolver", "sumOfUnknowns", "(I[J)J"⟩, 11) := ⟨⟨by decide +kernel, by decide +kernel⟩, List.mem_of_getElem? (i := 7) (by decide +kernel), List.mem_of_getElem? (i := 291) (by decide +kernel), List.mem_of_getElem? (i := 292) (by decide +kernel)⟩
theorem lw_p23 : lw_okq (⟨"WholeSolver", "rowHolds", "(I)Z"⟩, 11) := ⟨⟨by decide +kernel, by decide +kernel⟩, List.mem_of_getElem? (i := 7) (by decide +kernel), List.mem_of_getElem? (i := 295) (by decide +kernel), List.mem_of_getElem? (i := 296) (by decide +kernel)⟩
theorem lw_p24 : lw_okq (⟨"WholeSolverModel", "isFactor", "(II)Z"⟩, 9) := ⟨⟨by decide +kernel, by decide +kernel⟩, List.mem_of_getElem? (i := 303) (by decide +kernel), List.mem_of_getElem? (i := 345) (by decide +kernel), List.mem_of_getElem? (i := 346) (by decide +kernel)⟩
theorem lw_p25 : lw_okq (⟨"WholeSolverModel", "goes", "(I)Z"⟩, 9) := ⟨⟨by decide +kernel, by decide +kernel⟩, List.mem_of_getElem? (i := 303) (by decide +kernel), List.mem_of_getElem? (i := 364) (by decide +kernel), List.mem_of_getElem? (i := 365) (by decide +kernel)⟩
theorem lw_p26 : lw_okq (⟨"WholeSolverModel", "relate", "(I)V"⟩, 9) := ⟨⟨by decide +kernel, by decide +kernel⟩, List.mem_of_getElem? (i := 303) (by decide +kernel), List.mem_of_getElem? (i := 368) (by decide +kernel), List.mem_of_getElem? (i := 369) (by decide +kernel)⟩
theorem lw_p27 : lw_okq (⟨"WholeSolverModel", "form", "(II)V"⟩, 9) := ⟨⟨by decide +kernel, by decide +kernel⟩, List.mem_of_getElem? (i := 303) (by decide +kernel), List.mem_of_getElem? (i := 372) (by decide +kernel), List.mem_of_getElem? (i := 373) (by decide +kernel)⟩
theorem lw_p28 : lw_okq (⟨"WholeSolverModel", "least", "(III)I"⟩, 9) := ⟨⟨by decide +kernel, by decide +kernel⟩, List.mem_of_getElem? (i := 303) (by decide +kernel), List.mem_of_getElem? (i := 376) (by decide +kernel), List.mem_of_getElem? (i := 377) (by decide +kernel)⟩
theorem lw_p29 : lw_okq (⟨"WholeSolverModel", "change", "(II)V"⟩, 9) := ⟨⟨by decide +kernel, by decide +kernel⟩, List.mem_of_getElem? (i := 303) (by decide +kernel), List.mem_of_getElem? (i := 383) (by decide +kernel), List.mem_of_getElem? (i := 384) (by decide +kernel)⟩
theorem lw_p30 : lw_okq (⟨"WholeSolverModel", "take", "(IIJI)V"⟩, 9) := ⟨⟨by decide +kernel, by decide +kernel⟩, List.mem_of_getElem? (i := 303) (by decide +kernel), List.mem_of_getElem? (i := 388) (by decide +kernel), List.mem_of_getElem? (i := 389) (by decide +kernel)⟩
theorem lw_p31 : lw_okq (⟨"WholeSolverModel", "comes", "(I)Z"⟩, 9) := ⟨⟨by decide +kernel, by decide +kernel⟩, List.mem_of_getElem? (i := 303) (by decide +kernel), List.mem_of_getElem? (i := 395) (by decide +kernel), List.mem_of_getElem? (i := 396) (by decide +kernel)⟩
def lw_privs_2 : List (MethodName × Nat) := [(⟨"WholeSolver", "mostTurns", "(III)J"⟩, 11), (⟨"WholeSolver", "leavesLaterUnknowns", "(I)Z"⟩, 11), (⟨"WholeSolver", "turn", "(IJ)V"⟩, 11), (⟨"WholeSolver", "formRemainders", "(I)V"⟩, 11), (⟨"WholeSolver", "waysToEachSum", "(I)J"⟩, 11), (⟨"WholeSolver", "solutionHolds", "()Z"⟩, 11), (⟨"WholeSolver", "sumOfUnknowns", "(I[J)J"⟩, 11), (⟨"WholeSolver", "rowHolds", "(I)Z"⟩, 11), (⟨"WholeSolverModel", "isFactor", "(II)Z"⟩, 9), (⟨"WholeSolverModel", "goes", "(I)Z"⟩, 9), (⟨"WholeSolverModel", "relate", "(I)V"⟩, 9), (⟨"WholeSolverModel", "form", "(II)V"⟩, 9), (⟨"WholeSolverModel", "least", "(III)I"⟩, 9), (⟨"WholeSolverModel", "change", "(II)V"⟩, 9), (⟨"WholeSolverModel", "take", "(IIJI)V"⟩, 9), (⟨"WholeSolverModel", "comes", "(I)Z"⟩, 9)]
theorem lw_r2 : ∀ q ∈ lw_privs_2, lw_okq q := List.forall_mem_cons.mpr ⟨lw_p16, List.forall_mem_cons.mpr ⟨lw_p17, List.forall_mem_cons.mpr ⟨lw_p18, List.forall_mem_cons.mpr ⟨lw_p19, List.forall_mem_cons.mpr ⟨lw_p20, List.forall_mem_cons.mpr ⟨lw_p21, List.forall_mem_cons.mpr ⟨lw_p22, List.forall_mem_cons.mpr ⟨lw_p23, List.forall_mem_cons.mpr ⟨lw_p24, List.forall_mem_cons.mpr ⟨lw_p25, List.forall_mem_cons.mpr ⟨lw_p26, List.forall_mem_cons.mpr ⟨lw_p27, List.forall_mem_cons.mpr ⟨lw_p28, List.forall_mem_cons.mpr ⟨lw_p29, List.forall_mem_cons.mpr ⟨lw_p30, List.forall_mem_cons.mpr ⟨lw_p31, fun _ h => absurd h List.not_mem_nil⟩⟩⟩⟩⟩⟩⟩⟩⟩⟩⟩⟩⟩⟩⟩⟩
theorem lw_p32 : lw_okq (⟨"WholeSolverModel", "before", "(I)I"⟩, 9) := ⟨⟨by decide +kernel, by decide +kernel⟩, List.mem_of_getElem? (i := 303) (by decide +kernel), List.mem_of_getElem? (i := 399) (by decide +kernel), List.mem_of_getElem? (i := 400) (by decide +kernel)⟩
theorem lw_p33 : lw_okq (⟨"WholeSolverModel", "basisCount", "()I"⟩, 9) := ⟨⟨by decide +kernel, by decide +kernel⟩, List.mem_of_getElem? (i := 303) (by decide +kernel), List.mem_of_getElem? (i := 403) (by decide +kernel), List.mem_of_getElem? (i := 404) (by decide +kernel)⟩
theorem lw_p34 : lw_okq (⟨"WholeSolverModel", "divisor", "(I)J"⟩, 9) := ⟨⟨by decide +kernel, by decide +kernel⟩, List.mem_of_getElem? (i := 303) (by decide +kernel), List.mem_of_getElem? (i := 436) (by decide +kernel), List.mem_of_getElem? (i := 437) (by decide +kernel)⟩
theorem lw_p35 : lw_okq (⟨"WholeSolverModel", "determinant", "(III)J"⟩, 9) := ⟨⟨by decide +kernel, by decide +kernel⟩, List.mem_of_getElem? (i := 303) (by decide +kernel), List.mem_of_getElem? (i := 443) (by decide +kernel), List.mem_of_getElem? (i := 444) (by decide +kernel)⟩
theorem lw_p36 : lw_okq (⟨"WholeSolverModel", "two", "(IIII)J"⟩, 9) := ⟨⟨by decide +kernel, by decide +kernel⟩, List.mem_of_getElem? (i := 303) (by decide +kernel), List.mem_of_getElem? (i := 450) (by decide +kernel), List.mem_of_getElem? (i := 451) (by decide +kernel)⟩
theorem lw_p37 : lw_okq (⟨"WholeSolverModel", "lasts", "(IIIII)I"⟩, 9) := ⟨⟨by decide +kernel, by decide +kernel⟩, List.mem_of_getElem? (i := 303) (by decide +kernel), List.mem_of_getElem? (i := 461) (by decide +kernel), List.mem_of_getElem? (i := 462) (by decide +kernel)⟩
theorem lw_p38 : lw_okq (⟨"WholeSolverModel", "leftOf", "(IIII)I"⟩, 9) := ⟨⟨by decide +kernel, by decide +kernel⟩, List.mem_of_getElem? (i := 303) (by decide +kernel), List.mem_of_getElem? (i := 465) (by decide +kernel), List.mem_of_getElem? (i := 466) (by decide +kernel)⟩
def lw_privs_3 : List (MethodName × Nat) := [(⟨"WholeSolverModel", "before", "(I)I"⟩, 9), (⟨"WholeSolverModel", "basisCount", "()I"⟩, 9), (⟨"WholeSolverModel", "divisor", "(I)J"⟩, 9), (⟨"WholeSolverModel", "determinant", "(III)J"⟩, 9), (⟨"WholeSolverModel", "two", "(IIII)J"⟩, 9), (⟨"WholeSolverModel", "lasts", "(IIIII)I"⟩, 9), (⟨"WholeSolverModel", "leftOf", "(IIII)I"⟩, 9)]
theorem lw_r3 : ∀ q ∈ lw_privs_3, lw_okq q := List.forall_mem_cons.mpr ⟨lw_p32, List.forall_mem_cons.mpr ⟨lw_p33, List.forall_mem_cons.mpr ⟨lw_p34, List.forall_mem_cons.mpr ⟨lw_p35, List.forall_mem_cons.mpr ⟨lw_p36, List.forall_mem_cons.mpr ⟨lw_p37, List.forall_mem_cons.mpr ⟨lw_p38, fun _ h => absurd h List.not_mem_nil⟩⟩⟩⟩⟩⟩⟩
def lw_privs : List (MethodName × Nat) := lw_privs_1 ++ (lw_privs_2 ++ (lw_privs_3))
def lw_tbl : List Cond := k2_sels lw_privs ++ tables_1
theorem lw_privs_ok : ∀ q ∈ lw_privs, lw_okq q := by
  show ∀ q ∈ lw_privs_1 ++ (lw_privs_2 ++ (lw_privs_3)), lw_okq q
  exact List.forall_mem_append.mpr ⟨lw_r1, List.forall_mem_append.mpr ⟨lw_r2, lw_r3⟩⟩
end
section
/-! ===== BEGIN words of one list among another's, by their places ===== -/
theorem goodIn_r {big : List Cond} (ws : List Cond) (ps : List Nat) (hp : ws = ps.filterMap (fun i => big[i]?)) (h : ws.all goodWord = true) : GoodIn big ws := by
  intro w hw
  have h1 := List.all_eq_true.mp h w hw
  rw [hp] at hw
  obtain ⟨i, -, hi⟩ := List.mem_filterMap.mp hw
  have hm : w ∈ big := by first | exact List.mem_of_getElem? hi | exact List.getElem?_mem hi
  exact ⟨hm, good_of_word h1⟩
theorem goodIn_app {big a b : List Cond} (ha : GoodIn big a) (hb : GoodIn big b) : GoodIn big (a ++ b) := fun w h => (List.mem_append.mp h).elim (ha w) (hb w)
theorem goodIn_ca {big a b : List Cond} {c : Cond} (ha : GoodIn big (c :: a)) (hb : GoodIn big b) : GoodIn big (c :: (a ++ b)) := fun w h => (List.mem_cons.mp h).elim (fun e => ha w (List.mem_cons.mpr (Or.inl e))) (fun h => (List.mem_append.mp h).elim (fun h => ha w (List.mem_cons.mpr (Or.inr h))) (hb w))
theorem goodIn_sub {big ws : List Cond} (hm : ∀ w ∈ ws, w ∈ big) (h : ws.all goodWord = true) : GoodIn big ws := fun w hw => ⟨hm w hw, good_of_word (List.all_eq_true.mp h w hw)⟩
/-! ===== END ===== -/

/-! ===== BEGIN printed: names, fields, word lists, decode rows ===== -/
def RX0 : String := "WholeSolver$Lattice"
def TX0 : u_T := fun k => match k with
  | 0 => ("WholeSolver$Lattice", "rows", "[[J", true)
  | 1 => ("WholeSolver$Lattice", "leads", "[I", true)
  | 2 => ("WholeSolver$Lattice", "height", "I", false)
  | 3 => ("WholeSolver$Lattice", "width", "I", false)
  | _ => ("WholeSolver$Lattice", "rank", "I", false)
def tyX0 : Nat → FieldType := fun k => match k with
  | 0 => .array (.array .long)
  | 1 => .array .int
  | 2 => .int
  | 3 => .int
  | _ => .int
abbrev wsX00 : List Cond := u_ws RX0 TX0 5
theorem nmX0 : ∀ a, a < 5 → ∀ b, b < 5 → a ≠ b → (TX0 a).2.1 ≠ (TX0 b).2.1 := by decide +kernel
theorem tyX0_ok : ∀ k, k < 5 → parseFieldDescriptor (TX0 k).2.2.1 = some (tyX0 k) := by decide +kernel
abbrev cX0_init : ByteArray := prog_2_method_1_code
def yX0_init : MethodName := ⟨RX0, "<init>", "(II)V"⟩
abbrev cX0_clear : ByteArray := prog_2_method_2_code
def yX0_clear : MethodName := ⟨RX0, "clear", "(II)V"⟩
abbrev cX0_put : ByteArray := prog_2_method_3_code
def yX0_put : MethodName := ⟨RX0, "put", "(IIJ)V"⟩
abbrev cX0_at : ByteArray := prog_2_method_4_code
def yX0_at : MethodName := ⟨RX0, "at", "(II)J"⟩
abbrev cX0_row : ByteArray := prog_2_method_5_code
def yX0_row : MethodName := ⟨RX0, "row", "(I)[J"⟩
abbrev cX0_leadColumn : ByteArray := prog_2_method_6_code
def yX0_leadColumn : MethodName := ⟨RX0, "leadColumn", "(I)I"⟩
abbrev cX0_leadsBefore : ByteArray := prog_2_method_7_code
def yX0_leadsBefore : MethodName := ⟨RX0, "leadsBefore", "(I)I"⟩
abbrev cX0_bringToForm : ByteArray := prog_2_method_8_code
def yX0_bringToForm : MethodName := ⟨RX0, "bringToForm", "()V"⟩
abbrev cX0_divideOut : ByteArray := prog_2_method_9_code
def yX0_divideOut : MethodName := ⟨RX0, "divideOut", "(III)V"⟩
abbrev cX0_addLead : ByteArray := prog_2_method_10_code
def yX0_addLead : MethodName := ⟨RX0, "addLead", "(I)V"⟩
abbrev cX0_reduce : ByteArray := prog_2_method_11_code
def yX0_reduce : MethodName := ⟨RX0, "reduce", "([J)V"⟩
abbrev cX0_reduceBy : ByteArray := prog_2_method_12_code
def yX0_reduceBy : MethodName := ⟨RX0, "reduceBy", "(I[J)V"⟩
def RX1 : String := "WholeSolver"
def TX1 : u_T := fun k => match k with
  | 0 => ("WholeSolver", "factors", "[[I", true)
  | 1 => ("WholeSolver", "sums", "[I", true)
  | 2 => ("WholeSolver", "unknownsTold", "I", false)
  | 3 => ("WholeSolver", "equationsTold", "I", false)
  | 4 => ("WholeSolver", "whole", "LWholeSolver$Lattice;", true)
  | 5 => ("WholeSolver", "remainders", "LWholeSolver$Lattice;", true)
  | 6 => ("WholeSolver", "reachRows", "I", false)
  | 7 => ("WholeSolver", "left", "[J", true)
  | 8 => ("WholeSolver", "failing", "I", false)
  | 9 => ("WholeSolver", "trial", "[J", true)
  | _ => ("WholeSolver", "spots", "[[J", true)
def tyX1 : Nat → FieldType := fun k => match k with
  | 0 => .array (.array .int)
  | 1 => .array .int
  | 2 => .int
  | 3 => .int
  | 4 => .object "WholeSolver$Lattice"
  | 5 => .object "WholeSolver$Lattice"
  | 6 => .int
  | 7 => .array .long
  | 8 => .int
  | 9 => .array .long
  | _ => .array (.array .long)
abbrev wsX10 : List Cond := u_ws RX1 TX1 11
theorem nmX1 : ∀ a, a < 11 → ∀ b, b < 11 → a ≠ b → (TX1 a).2.1 ≠ (TX1 b).2.1 := by decide +kernel
theorem tyX1_ok : ∀ k, k < 11 → parseFieldDescriptor (TX1 k).2.2.1 = some (tyX1 k) := by decide +kernel
abbrev cX1_init : ByteArray := prog_1_method_1_code
def yX1_init : MethodName := ⟨RX1, "<init>", "()V"⟩
abbrev cX1_unknowns : ByteArray := prog_1_method_2_code
def yX1_unknowns : MethodName := ⟨RX1, "unknowns", "(I)I"⟩
abbrev cX1_equation : ByteArray := prog_1_method_3_code
def yX1_equation : MethodName := ⟨RX1, "equation", "(IIIII)I"⟩
abbrev cX1_sum : ByteArray := prog_1_method_4_code
def yX1_sum : MethodName := ⟨RX1, "sum", "(II)I"⟩
abbrev cX1_drop : ByteArray := prog_1_method_5_code
def yX1_drop : MethodName := ⟨RX1, "drop", "()I"⟩
abbrev cX1_solve : ByteArray := prog_1_method_6_code
def yX1_solve : MethodName := ⟨RX1, "solve", "()I"⟩
abbrev cX1_fails : ByteArray := prog_1_method_7_code
def yX1_fails : MethodName := ⟨RX1, "fails", "()I"⟩
abbrev cX1_solution : ByteArray := prog_1_method_8_code
def yX1_solution : MethodName := ⟨RX1, "solution", "(I)J"⟩
abbrev cX1_basis : ByteArray := prog_1_method_9_code
def yX1_basis : MethodName := ⟨RX1, "basis", "(II)J"⟩
abbrev cX1_count : ByteArray := prog_1_method_10_code
def yX1_count : MethodName := ⟨RX1, "count", "(I)I"⟩
abbrev cX1_reach : ByteArray := prog_1_method_11_code
def yX1_reach : MethodName := ⟨RX1, "reach", "(II)J"⟩
abbrev cX1_reached : ByteArray := prog_1_method_12_code
def yX1_reached : MethodName := ⟨RX1, "reached", "(III)I"⟩
abbrev cX1_invariant : ByteArray := prog_1_method_13_code
def yX1_invariant : MethodName := ⟨RX1, "invariant", "(I)J"⟩
abbrev cX1_box : ByteArray := prog_1_method_14_code
def yX1_box : MethodName := ⟨RX1, "box", "(II)I"⟩
abbrev cX1_modulo : ByteArray := prog_1_method_15_code
def yX1_modulo : MethodName := ⟨RX1, "modulo", "(I)I"⟩
abbrev cX1_spread : ByteArray := prog_1_method_16_code
def yX1_spread : MethodName := ⟨RX1, "spread", "()J"⟩
abbrev cX1_check : ByteArray := prog_1_method_17_code
def yX1_check : MethodName := ⟨RX1, "check", "()I"⟩
abbrev cX1_isSum : ByteArray := prog_1_method_18_code
def yX1_isSum : MethodName := ⟨RX1, "isSum", "(I)Z"⟩
abbrev cX1_isFactor : ByteArray := prog_1_method_19_code
def yX1_isFactor : MethodName := ⟨RX1, "isFactor", "(II)Z"⟩
abbrev cX1_basisRows : ByteArray := prog_1_method_20_code
def yX1_basisRows : MethodName := ⟨RX1, "basisRows", "()I"⟩
abbrev cX1_basisNumber : ByteArray := prog_1_method_21_code
def yX1_basisNumber : MethodName := ⟨RX1, "basisNumber", "(II)J"⟩
abbrev cX1_leadUnknown : ByteArray := prog_1_method_22_code
def yX1_leadUnknown : MethodName := ⟨RX1, "leadUnknown", "(I)I"⟩
abbrev cX1_formWhole : ByteArray := prog_1_method_23_code
def yX1_formWhole : MethodName := ⟨RX1, "formWhole", "()V"⟩
abbrev cX1_settleSolution : ByteArray := prog_1_method_24_code
def yX1_settleSolution : MethodName := ⟨RX1, "settleSolution", "()V"⟩
abbrev cX1_firstNotZero : ByteArray := prog_1_method_25_code
def yX1_firstNotZero : MethodName := ⟨RX1, "firstNotZero", "([J)I"⟩
abbrev cX1_fillWithZero : ByteArray := prog_1_method_26_code
def yX1_fillWithZero : MethodName := ⟨RX1, "fillWithZero", "([J)V"⟩
abbrev cX1_divisorOfDeterminants : ByteArray := prog_1_method_27_code
def yX1_divisorOfDeterminants : MethodName := ⟨RX1, "divisorOfDeterminants", "(I)J"⟩
abbrev cX1_divisorOverUnknowns : ByteArray := prog_1_method_28_code
def yX1_divisorOverUnknowns : MethodName := ⟨RX1, "divisorOverUnknowns", "(II)J"⟩
abbrev cX1_determinant : ByteArray := prog_1_method_29_code
def yX1_determinant : MethodName := ⟨RX1, "determinant", "(III)J"⟩
abbrev cX1_commonDivisor : ByteArray := prog_1_method_30_code
def yX1_commonDivisor : MethodName := ⟨RX1, "commonDivisor", "(JJ)J"⟩
abbrev cX1_unmovedLieInside : ByteArray := prog_1_method_31_code
def yX1_unmovedLieInside : MethodName := ⟨RX1, "unmovedLieInside", "(II)Z"⟩
abbrev cX1_countFrom : ByteArray := prog_1_method_32_code
def yX1_countFrom : MethodName := ⟨RX1, "countFrom", "(III)J"⟩
abbrev cX1_leastTurns : ByteArray := prog_1_method_33_code
def yX1_leastTurns : MethodName := ⟨RX1, "leastTurns", "(III)J"⟩
abbrev cX1_mostTurns : ByteArray := prog_1_method_34_code
def yX1_mostTurns : MethodName := ⟨RX1, "mostTurns", "(III)J"⟩
abbrev cX1_leavesLaterUnknowns : ByteArray := prog_1_method_35_code
def yX1_leavesLaterUnknowns : MethodName := ⟨RX1, "leavesLaterUnknowns", "(I)Z"⟩
abbrev cX1_turn : ByteArray := prog_1_method_36_code
def yX1_turn : MethodName := ⟨RX1, "turn", "(IJ)V"⟩
abbrev cX1_formRemainders : ByteArray := prog_1_method_37_code
def yX1_formRemainders : MethodName := ⟨RX1, "formRemainders", "(I)V"⟩
abbrev cX1_waysToEachSum : ByteArray := prog_1_method_38_code
def yX1_waysToEachSum : MethodName := ⟨RX1, "waysToEachSum", "(I)J"⟩
abbrev cX1_solutionHolds : ByteArray := prog_1_method_39_code
def yX1_solutionHolds : MethodName := ⟨RX1, "solutionHolds", "()Z"⟩
abbrev cX1_rowHolds : ByteArray := prog_1_method_40_code
def yX1_rowHolds : MethodName := ⟨RX1, "rowHolds", "(I)Z"⟩
abbrev cX1_sumOfUnknowns : ByteArray := prog_1_method_41_code
def yX1_sumOfUnknowns : MethodName := ⟨RX1, "sumOfUnknowns", "(I[J)J"⟩
def RX2 : String := "WholeSolverModel"
def TX2 : u_T := fun k => match k with
  | 0 => ("WholeSolverModel", "n", "I", false)
  | 1 => ("WholeSolverModel", "equations", "I", false)
  | 2 => ("WholeSolverModel", "factors", "[I", true)
  | 3 => ("WholeSolverModel", "sums", "[I", true)
  | 4 => ("WholeSolverModel", "rows", "[J", true)
  | 5 => ("WholeSolverModel", "rowCount", "I", false)
  | 6 => ("WholeSolverModel", "leads", "[I", true)
  | 7 => ("WholeSolverModel", "wanted", "[J", true)
  | _ => ("WholeSolverModel", "found", "[J", true)
def tyX2 : Nat → FieldType := fun k => match k with
  | 0 => .int
  | 1 => .int
  | 2 => .array .int
  | 3 => .array .int
  | 4 => .array .long
  | 5 => .int
  | 6 => .array .int
  | 7 => .array .long
  | _ => .array .long
abbrev wsX20 : List Cond := u_ws RX2 TX2 9
theorem nmX2 : ∀ a, a < 9 → ∀ b, b < 9 → a ≠ b → (TX2 a).2.1 ≠ (TX2 b).2.1 := by decide +kernel
theorem tyX2_ok : ∀ k, k < 9 → parseFieldDescriptor (TX2 k).2.2.1 = some (tyX2 k) := by decide +kernel
abbrev cX2_init : ByteArray := prog_4_method_1_code
def yX2_init : MethodName := ⟨RX2, "<init>", "()V"⟩
abbrev cX2_unknowns : ByteArray := prog_4_method_2_code
def yX2_unknowns : MethodName := ⟨RX2, "unknowns", "(I)I"⟩
abbrev cX2_isSum : ByteArray := prog_4_method_3_code
def yX2_isSum : MethodName := ⟨RX2, "isSum", "(I)Z"⟩
abbrev cX2_isFactor : ByteArray := prog_4_method_4_code
def yX2_isFactor : MethodName := ⟨RX2, "isFactor", "(II)Z"⟩
abbrev cX2_equation : ByteArray := prog_4_method_5_code
def yX2_equation : MethodName := ⟨RX2, "equation", "(IIIII)I"⟩
abbrev cX2_sum : ByteArray := prog_4_method_6_code
def yX2_sum : MethodName := ⟨RX2, "sum", "(II)I"⟩
abbrev cX2_drop : ByteArray := prog_4_method_7_code
def yX2_drop : MethodName := ⟨RX2, "drop", "()I"⟩
abbrev cX2_down : ByteArray := prog_4_method_8_code
def yX2_down : MethodName := ⟨RX2, "down", "(JJ)J"⟩
abbrev cX2_take : ByteArray := prog_4_method_9_code
def yX2_take : MethodName := ⟨RX2, "take", "(IIJI)V"⟩
abbrev cX2_change : ByteArray := prog_4_method_10_code
def yX2_change : MethodName := ⟨RX2, "change", "(II)V"⟩
abbrev cX2_size : ByteArray := prog_4_method_11_code
def yX2_size : MethodName := ⟨RX2, "size", "(J)J"⟩
abbrev cX2_least : ByteArray := prog_4_method_12_code
def yX2_least : MethodName := ⟨RX2, "least", "(III)I"⟩
abbrev cX2_form : ByteArray := prog_4_method_13_code
def yX2_form : MethodName := ⟨RX2, "form", "(II)V"⟩
abbrev cX2_relate : ByteArray := prog_4_method_14_code
def yX2_relate : MethodName := ⟨RX2, "relate", "(I)V"⟩
abbrev cX2_before : ByteArray := prog_4_method_15_code
def yX2_before : MethodName := ⟨RX2, "before", "(I)I"⟩
abbrev cX2_comes : ByteArray := prog_4_method_16_code
def yX2_comes : MethodName := ⟨RX2, "comes", "(I)Z"⟩
abbrev cX2_goes : ByteArray := prog_4_method_17_code
def yX2_goes : MethodName := ⟨RX2, "goes", "(I)Z"⟩
abbrev cX2_basisCount : ByteArray := prog_4_method_18_code
def yX2_basisCount : MethodName := ⟨RX2, "basisCount", "()I"⟩
abbrev cX2_solve : ByteArray := prog_4_method_19_code
def yX2_solve : MethodName := ⟨RX2, "solve", "()I"⟩
abbrev cX2_fails : ByteArray := prog_4_method_20_code
def yX2_fails : MethodName := ⟨RX2, "fails", "()I"⟩
abbrev cX2_solution : ByteArray := prog_4_method_21_code
def yX2_solution : MethodName := ⟨RX2, "solution", "(I)J"⟩
abbrev cX2_basis : ByteArray := prog_4_method_22_code
def yX2_basis : MethodName := ⟨RX2, "basis", "(II)J"⟩
abbrev cX2_count : ByteArray := prog_4_method_23_code
def yX2_count : MethodName := ⟨RX2, "count", "(I)I"⟩
abbrev cX2_reach : ByteArray := prog_4_method_24_code
def yX2_reach : MethodName := ⟨RX2, "reach", "(II)J"⟩
abbrev cX2_reached : ByteArray := prog_4_method_25_code
def yX2_reached : MethodName := ⟨RX2, "reached", "(III)I"⟩
abbrev cX2_common : ByteArray := prog_4_method_26_code
def yX2_common : MethodName := ⟨RX2, "common", "(JJ)J"⟩
abbrev cX2_place : ByteArray := prog_4_method_27_code
def yX2_place : MethodName := ⟨RX2, "place", "(II)I"⟩
abbrev cX2_ones : ByteArray := prog_4_method_28_code
def yX2_ones : MethodName := ⟨RX2, "ones", "(I)I"⟩
abbrev cX2_two : ByteArray := prog_4_method_29_code
def yX2_two : MethodName := ⟨RX2, "two", "(IIII)J"⟩
abbrev cX2_determinant : ByteArray := prog_4_method_30_code
def yX2_determinant : MethodName := ⟨RX2, "determinant", "(III)J"⟩
abbrev cX2_divisor : ByteArray := prog_4_method_31_code
def yX2_divisor : MethodName := ⟨RX2, "divisor", "(I)J"⟩
abbrev cX2_invariant : ByteArray := prog_4_method_32_code
def yX2_invariant : MethodName := ⟨RX2, "invariant", "(I)J"⟩
abbrev cX2_leftOf : ByteArray := prog_4_method_33_code
def yX2_leftOf : MethodName := ⟨RX2, "leftOf", "(IIII)I"⟩
abbrev cX2_lasts : ByteArray := prog_4_method_34_code
def yX2_lasts : MethodName := ⟨RX2, "lasts", "(IIIII)I"⟩
abbrev cX2_box : ByteArray := prog_4_method_35_code
def yX2_box : MethodName := ⟨RX2, "box", "(II)I"⟩
abbrev cX2_modulo : ByteArray := prog_4_method_36_code
def yX2_modulo : MethodName := ⟨RX2, "modulo", "(I)I"⟩
abbrev cX2_spread : ByteArray := prog_4_method_37_code
def yX2_spread : MethodName := ⟨RX2, "spread", "()J"⟩
abbrev cX2_check : ByteArray := prog_4_method_38_code
def yX2_check : MethodName := ⟨RX2, "check", "()I"⟩
def RJ6 : String := "java/lang/Integer"
def TJ6 : u_T := fun k => match k with
  | _ => ("", "", "", false)
def tyJ6 : Nat → FieldType := fun k => match k with
  | _ => .int
abbrev wsJ60 : List Cond := u_ws RJ6 TJ6 0
theorem nmJ6 : ∀ a, a < 0 → ∀ b, b < 0 → a ≠ b → (TJ6 a).2.1 ≠ (TJ6 b).2.1 := by decide +kernel
theorem tyJ6_ok : ∀ k, k < 0 → parseFieldDescriptor (TJ6 k).2.2.1 = some (tyJ6 k) := by decide +kernel
abbrev cJ6_bitCount_0f7a4 : ByteArray := prog_5_method_49_code
def yJ6_bitCount_0f7a4 : MethodName := ⟨RJ6, "bitCount", "(I)I"⟩
def RJ9 : String := "java/lang/Math"
def TJ9 : u_T := fun k => match k with
  | _ => ("", "", "", false)
def tyJ9 : Nat → FieldType := fun k => match k with
  | _ => .int
abbrev wsJ90 : List Cond := u_ws RJ9 TJ9 0
theorem nmJ9 : ∀ a, a < 0 → ∀ b, b < 0 → a ≠ b → (TJ9 a).2.1 ≠ (TJ9 b).2.1 := by decide +kernel
theorem tyJ9_ok : ∀ k, k < 0 → parseFieldDescriptor (TJ9 k).2.2.1 = some (tyJ9 k) := by decide +kernel
abbrev cJ9_floorDiv_f86c9 : ByteArray := prog_6_method_49_code
def yJ9_floorDiv_f86c9 : MethodName := ⟨RJ9, "floorDiv", "(JJ)J"⟩
abbrev cJ9_abs_067f4 : ByteArray := prog_6_method_61_code
def yJ9_abs_067f4 : MethodName := ⟨RJ9, "abs", "(J)J"⟩
abbrev cJ9_max_f86c9 : ByteArray := prog_6_method_66_code
def yJ9_max_f86c9 : MethodName := ⟨RJ9, "max", "(JJ)J"⟩
abbrev cJ9_min_f86c9 : ByteArray := prog_6_method_70_code
def yJ9_min_f86c9 : MethodName := ⟨RJ9, "min", "(JJ)J"⟩
def RL : String := "WholeSolverLaw"
abbrev cL_law : ByteArray := code
def yL_law : MethodName := ⟨RL, "law", "([I)Z"⟩
end
section
theorem dX0_init_0 : decode cX0_init 0 = .ok (.aload_n 0, 1) := by decide +kernel
theorem dX0_init_1 : decode cX0_init 1 = .ok (.invokespecial 3, 3) := by decide +kernel
theorem dX0_init_4 : decode cX0_init 4 = .ok (.aload_n 0, 1) := by decide +kernel
theorem dX0_init_5 : decode cX0_init 5 = .ok (.iload_n 1, 1) := by decide +kernel
theorem dX0_init_6 : decode cX0_init 6 = .ok (.iload_n 2, 1) := by decide +kernel
theorem dX0_init_7 : decode cX0_init 7 = .ok (.multianewarray 9 2, 4) := by decide +kernel
theorem dX0_init_11 : decode cX0_init 11 = .ok (.putfield 11, 3) := by decide +kernel
theorem dX0_init_14 : decode cX0_init 14 = .ok (.aload_n 0, 1) := by decide +kernel
theorem dX0_init_15 : decode cX0_init 15 = .ok (.iload_n 1, 1) := by decide +kernel
theorem dX0_init_16 : decode cX0_init 16 = .ok (.newarray .int, 2) := by decide +kernel
theorem dX0_init_18 : decode cX0_init 18 = .ok (.putfield 16, 3) := by decide +kernel
theorem dX0_init_21 : decode cX0_init 21 = .ok (.return_, 1) := by decide +kernel
theorem dX0_clear_0 : decode cX0_clear 0 = .ok (.aload_n 0, 1) := by decide +kernel
theorem dX0_clear_1 : decode cX0_clear 1 = .ok (.iload_n 1, 1) := by decide +kernel
theorem dX0_clear_2 : decode cX0_clear 2 = .ok (.putfield 20, 3) := by decide +kernel
theorem dX0_clear_5 : decode cX0_clear 5 = .ok (.aload_n 0, 1) := by decide +kernel
theorem dX0_clear_6 : decode cX0_clear 6 = .ok (.iload_n 2, 1) := by decide +kernel
theorem dX0_clear_7 : decode cX0_clear 7 = .ok (.putfield 24, 3) := by decide +kernel
theorem dX0_clear_10 : decode cX0_clear 10 = .ok (.aload_n 0, 1) := by decide +kernel
theorem dX0_clear_11 : decode cX0_clear 11 = .ok (.iconst 0, 1) := by decide +kernel
theorem dX0_clear_12 : decode cX0_clear 12 = .ok (.putfield 27, 3) := by decide +kernel
theorem dX0_clear_15 : decode cX0_clear 15 = .ok (.iconst 0, 1) := by decide +kernel
theorem dX0_clear_16 : decode cX0_clear 16 = .ok (.istore_n 3, 1) := by decide +kernel
theorem dX0_clear_17 : decode cX0_clear 17 = .ok (.iload_n 3, 1) := by decide +kernel
theorem dX0_clear_18 : decode cX0_clear 18 = .ok (.aload_n 0, 1) := by decide +kernel
theorem dX0_clear_19 : decode cX0_clear 19 = .ok (.getfield 20, 3) := by decide +kernel
theorem dX0_clear_22 : decode cX0_clear 22 = .ok (.if_icmp .ge 18, 3) := by decide +kernel
theorem dX0_clear_25 : decode cX0_clear 25 = .ok (.aload_n 0, 1) := by decide +kernel
theorem dX0_clear_26 : decode cX0_clear 26 = .ok (.getfield 11, 3) := by decide +kernel
theorem dX0_clear_29 : decode cX0_clear 29 = .ok (.iload_n 3, 1) := by decide +kernel
theorem dX0_clear_30 : decode cX0_clear 30 = .ok (.aaload, 1) := by decide +kernel
theorem dX0_clear_31 : decode cX0_clear 31 = .ok (.invokestatic 30, 3) := by decide +kernel
theorem dX0_clear_34 : decode cX0_clear 34 = .ok (.iinc 3 1, 3) := by decide +kernel
theorem dX0_clear_37 : decode cX0_clear 37 = .ok (.goto (-20), 3) := by decide +kernel
theorem dX0_clear_40 : decode cX0_clear 40 = .ok (.return_, 1) := by decide +kernel
theorem dX0_put_0 : decode cX0_put 0 = .ok (.aload_n 0, 1) := by decide +kernel
theorem dX0_put_1 : decode cX0_put 1 = .ok (.getfield 11, 3) := by decide +kernel
theorem dX0_put_4 : decode cX0_put 4 = .ok (.iload_n 1, 1) := by decide +kernel
theorem dX0_put_5 : decode cX0_put 5 = .ok (.aaload, 1) := by decide +kernel
theorem dX0_put_6 : decode cX0_put 6 = .ok (.iload_n 2, 1) := by decide +kernel
theorem dX0_put_7 : decode cX0_put 7 = .ok (.lload_n 3, 1) := by decide +kernel
theorem dX0_put_8 : decode cX0_put 8 = .ok (.lastore, 1) := by decide +kernel
theorem dX0_put_9 : decode cX0_put 9 = .ok (.return_, 1) := by decide +kernel
theorem dX0_at_0 : decode cX0_at 0 = .ok (.aload_n 0, 1) := by decide +kernel
theorem dX0_at_1 : decode cX0_at 1 = .ok (.getfield 11, 3) := by decide +kernel
theorem dX0_at_4 : decode cX0_at 4 = .ok (.iload_n 1, 1) := by decide +kernel
theorem dX0_at_5 : decode cX0_at 5 = .ok (.aaload, 1) := by decide +kernel
theorem dX0_at_6 : decode cX0_at 6 = .ok (.iload_n 2, 1) := by decide +kernel
theorem dX0_at_7 : decode cX0_at 7 = .ok (.laload, 1) := by decide +kernel
theorem dX0_at_8 : decode cX0_at 8 = .ok (.lreturn, 1) := by decide +kernel
theorem dX0_row_0 : decode cX0_row 0 = .ok (.aload_n 0, 1) := by decide +kernel
theorem dX0_row_1 : decode cX0_row 1 = .ok (.getfield 11, 3) := by decide +kernel
theorem dX0_row_4 : decode cX0_row 4 = .ok (.iload_n 1, 1) := by decide +kernel
theorem dX0_row_5 : decode cX0_row 5 = .ok (.aaload, 1) := by decide +kernel
theorem dX0_row_6 : decode cX0_row 6 = .ok (.areturn, 1) := by decide +kernel
theorem dX0_leadColumn_0 : decode cX0_leadColumn 0 = .ok (.aload_n 0, 1) := by decide +kernel
theorem dX0_leadColumn_1 : decode cX0_leadColumn 1 = .ok (.getfield 16, 3) := by decide +kernel
theorem dX0_leadColumn_4 : decode cX0_leadColumn 4 = .ok (.iload_n 1, 1) := by decide +kernel
theorem dX0_leadColumn_5 : decode cX0_leadColumn 5 = .ok (.iaload, 1) := by decide +kernel
theorem dX0_leadColumn_6 : decode cX0_leadColumn 6 = .ok (.ireturn, 1) := by decide +kernel
theorem dX0_leadsBefore_0 : decode cX0_leadsBefore 0 = .ok (.iconst 0, 1) := by decide +kernel
theorem dX0_leadsBefore_1 : decode cX0_leadsBefore 1 = .ok (.istore_n 2, 1) := by decide +kernel
theorem dX0_leadsBefore_2 : decode cX0_leadsBefore 2 = .ok (.iconst 0, 1) := by decide +kernel
theorem dX0_leadsBefore_3 : decode cX0_leadsBefore 3 = .ok (.istore_n 3, 1) := by decide +kernel
theorem dX0_leadsBefore_4 : decode cX0_leadsBefore 4 = .ok (.iload_n 3, 1) := by decide +kernel
theorem dX0_leadsBefore_5 : decode cX0_leadsBefore 5 = .ok (.aload_n 0, 1) := by decide +kernel
theorem dX0_leadsBefore_6 : decode cX0_leadsBefore 6 = .ok (.getfield 27, 3) := by decide +kernel
theorem dX0_leadsBefore_9 : decode cX0_leadsBefore 9 = .ok (.if_icmp .ge 22, 3) := by decide +kernel
theorem dX0_leadsBefore_12 : decode cX0_leadsBefore 12 = .ok (.aload_n 0, 1) := by decide +kernel
theorem dX0_leadsBefore_13 : decode cX0_leadsBefore 13 = .ok (.getfield 16, 3) := by decide +kernel
theorem dX0_leadsBefore_16 : decode cX0_leadsBefore 16 = .ok (.iload_n 3, 1) := by decide +kernel
theorem dX0_leadsBefore_17 : decode cX0_leadsBefore 17 = .ok (.iaload, 1) := by decide +kernel
theorem dX0_leadsBefore_18 : decode cX0_leadsBefore 18 = .ok (.iload_n 1, 1) := by decide +kernel
theorem dX0_leadsBefore_19 : decode cX0_leadsBefore 19 = .ok (.if_icmp .ge 6, 3) := by decide +kernel
theorem dX0_leadsBefore_22 : decode cX0_leadsBefore 22 = .ok (.iinc 2 1, 3) := by decide +kernel
theorem dX0_leadsBefore_25 : decode cX0_leadsBefore 25 = .ok (.iinc 3 1, 3) := by decide +kernel
theorem dX0_leadsBefore_28 : decode cX0_leadsBefore 28 = .ok (.goto (-24), 3) := by decide +kernel
theorem dX0_leadsBefore_31 : decode cX0_leadsBefore 31 = .ok (.iload_n 2, 1) := by decide +kernel
theorem dX0_leadsBefore_32 : decode cX0_leadsBefore 32 = .ok (.ireturn, 1) := by decide +kernel
theorem dX0_bringToForm_0 : decode cX0_bringToForm 0 = .ok (.iconst 0, 1) := by decide +kernel
theorem dX0_bringToForm_1 : decode cX0_bringToForm 1 = .ok (.istore_n 1, 1) := by decide +kernel
theorem dX0_bringToForm_2 : decode cX0_bringToForm 2 = .ok (.iload_n 1, 1) := by decide +kernel
theorem dX0_bringToForm_3 : decode cX0_bringToForm 3 = .ok (.aload_n 0, 1) := by decide +kernel
theorem dX0_bringToForm_4 : decode cX0_bringToForm 4 = .ok (.getfield 24, 3) := by decide +kernel
theorem dX0_bringToForm_7 : decode cX0_bringToForm 7 = .ok (.if_icmp .ge 72, 3) := by decide +kernel
theorem dX0_bringToForm_10 : decode cX0_bringToForm 10 = .ok (.aload_n 0, 1) := by decide +kernel
theorem dX0_bringToForm_11 : decode cX0_bringToForm 11 = .ok (.getfield 27, 3) := by decide +kernel
theorem dX0_bringToForm_14 : decode cX0_bringToForm 14 = .ok (.aload_n 0, 1) := by decide +kernel
theorem dX0_bringToForm_15 : decode cX0_bringToForm 15 = .ok (.getfield 20, 3) := by decide +kernel
theorem dX0_bringToForm_18 : decode cX0_bringToForm 18 = .ok (.if_icmp .ge 61, 3) := by decide +kernel
theorem dX0_bringToForm_21 : decode cX0_bringToForm 21 = .ok (.aload_n 0, 1) := by decide +kernel
theorem dX0_bringToForm_22 : decode cX0_bringToForm 22 = .ok (.getfield 27, 3) := by decide +kernel
theorem dX0_bringToForm_25 : decode cX0_bringToForm 25 = .ok (.iconst 1, 1) := by decide +kernel
theorem dX0_bringToForm_26 : decode cX0_bringToForm 26 = .ok (.iadd, 1) := by decide +kernel
theorem dX0_bringToForm_27 : decode cX0_bringToForm 27 = .ok (.istore_n 2, 1) := by decide +kernel
theorem dX0_bringToForm_28 : decode cX0_bringToForm 28 = .ok (.iload_n 2, 1) := by decide +kernel
theorem dX0_bringToForm_29 : decode cX0_bringToForm 29 = .ok (.aload_n 0, 1) := by decide +kernel
theorem dX0_bringToForm_30 : decode cX0_bringToForm 30 = .ok (.getfield 20, 3) := by decide +kernel
theorem dX0_bringToForm_33 : decode cX0_bringToForm 33 = .ok (.if_icmp .ge 19, 3) := by decide +kernel
theorem dX0_bringToForm_36 : decode cX0_bringToForm 36 = .ok (.aload_n 0, 1) := by decide +kernel
theorem dX0_bringToForm_37 : decode cX0_bringToForm 37 = .ok (.aload_n 0, 1) := by decide +kernel
theorem dX0_bringToForm_38 : decode cX0_bringToForm 38 = .ok (.getfield 27, 3) := by decide +kernel
theorem dX0_bringToForm_41 : decode cX0_bringToForm 41 = .ok (.iload_n 2, 1) := by decide +kernel
theorem dX0_bringToForm_42 : decode cX0_bringToForm 42 = .ok (.iload_n 1, 1) := by decide +kernel
theorem dX0_bringToForm_43 : decode cX0_bringToForm 43 = .ok (.invokevirtual 34, 3) := by decide +kernel
theorem dX0_bringToForm_46 : decode cX0_bringToForm 46 = .ok (.iinc 2 1, 3) := by decide +kernel
theorem dX0_bringToForm_49 : decode cX0_bringToForm 49 = .ok (.goto (-21), 3) := by decide +kernel
theorem dX0_bringToForm_52 : decode cX0_bringToForm 52 = .ok (.aload_n 0, 1) := by decide +kernel
theorem dX0_bringToForm_53 : decode cX0_bringToForm 53 = .ok (.getfield 11, 3) := by decide +kernel
theorem dX0_bringToForm_56 : decode cX0_bringToForm 56 = .ok (.aload_n 0, 1) := by decide +kernel
theorem dX0_bringToForm_57 : decode cX0_bringToForm 57 = .ok (.getfield 27, 3) := by decide +kernel
theorem dX0_bringToForm_60 : decode cX0_bringToForm 60 = .ok (.aaload, 1) := by decide +kernel
theorem dX0_bringToForm_61 : decode cX0_bringToForm 61 = .ok (.iload_n 1, 1) := by decide +kernel
theorem dX0_bringToForm_62 : decode cX0_bringToForm 62 = .ok (.laload, 1) := by decide +kernel
theorem dX0_bringToForm_63 : decode cX0_bringToForm 63 = .ok (.lconst 0, 1) := by decide +kernel
theorem dX0_bringToForm_64 : decode cX0_bringToForm 64 = .ok (.lcmp, 1) := by decide +kernel
theorem dX0_bringToForm_65 : decode cX0_bringToForm 65 = .ok (.ifCond .eq 8, 3) := by decide +kernel
theorem dX0_bringToForm_68 : decode cX0_bringToForm 68 = .ok (.aload_n 0, 1) := by decide +kernel
theorem dX0_bringToForm_69 : decode cX0_bringToForm 69 = .ok (.iload_n 1, 1) := by decide +kernel
theorem dX0_bringToForm_70 : decode cX0_bringToForm 70 = .ok (.invokevirtual 38, 3) := by decide +kernel
theorem dX0_bringToForm_73 : decode cX0_bringToForm 73 = .ok (.iinc 1 1, 3) := by decide +kernel
theorem dX0_bringToForm_76 : decode cX0_bringToForm 76 = .ok (.goto (-74), 3) := by decide +kernel
theorem dX0_bringToForm_79 : decode cX0_bringToForm 79 = .ok (.return_, 1) := by decide +kernel
theorem dX0_divideOut_0 : decode cX0_divideOut 0 = .ok (.iconst 0, 1) := by decide +kernel
theorem dX0_divideOut_1 : decode cX0_divideOut 1 = .ok (.istore 4, 2) := by decide +kernel
theorem dX0_divideOut_3 : decode cX0_divideOut 3 = .ok (.iload 4, 2) := by decide +kernel
theorem dX0_divideOut_5 : decode cX0_divideOut 5 = .ok (.sipush 200, 3) := by decide +kernel
theorem dX0_divideOut_8 : decode cX0_divideOut 8 = .ok (.if_icmp .ge 114, 3) := by decide +kernel
theorem dX0_divideOut_11 : decode cX0_divideOut 11 = .ok (.aload_n 0, 1) := by decide +kernel
theorem dX0_divideOut_12 : decode cX0_divideOut 12 = .ok (.getfield 11, 3) := by decide +kernel
theorem dX0_divideOut_15 : decode cX0_divideOut 15 = .ok (.iload_n 2, 1) := by decide +kernel
theorem dX0_divideOut_16 : decode cX0_divideOut 16 = .ok (.aaload, 1) := by decide +kernel
theorem dX0_divideOut_17 : decode cX0_divideOut 17 = .ok (.iload_n 3, 1) := by decide +kernel
theorem dX0_divideOut_18 : decode cX0_divideOut 18 = .ok (.laload, 1) := by decide +kernel
theorem dX0_divideOut_19 : decode cX0_divideOut 19 = .ok (.lconst 0, 1) := by decide +kernel
theorem dX0_divideOut_20 : decode cX0_divideOut 20 = .ok (.lcmp, 1) := by decide +kernel
theorem dX0_divideOut_21 : decode cX0_divideOut 21 = .ok (.ifCond .eq 101, 3) := by decide +kernel
theorem dX0_divideOut_24 : decode cX0_divideOut 24 = .ok (.aload_n 0, 1) := by decide +kernel
theorem dX0_divideOut_25 : decode cX0_divideOut 25 = .ok (.getfield 11, 3) := by decide +kernel
theorem dX0_divideOut_28 : decode cX0_divideOut 28 = .ok (.iload_n 1, 1) := by decide +kernel
theorem dX0_divideOut_29 : decode cX0_divideOut 29 = .ok (.aaload, 1) := by decide +kernel
theorem dX0_divideOut_30 : decode cX0_divideOut 30 = .ok (.iload_n 3, 1) := by decide +kernel
theorem dX0_divideOut_31 : decode cX0_divideOut 31 = .ok (.laload, 1) := by decide +kernel
theorem dX0_divideOut_32 : decode cX0_divideOut 32 = .ok (.aload_n 0, 1) := by decide +kernel
theorem dX0_divideOut_33 : decode cX0_divideOut 33 = .ok (.getfield 11, 3) := by decide +kernel
theorem dX0_divideOut_36 : decode cX0_divideOut 36 = .ok (.iload_n 2, 1) := by decide +kernel
theorem dX0_divideOut_37 : decode cX0_divideOut 37 = .ok (.aaload, 1) := by decide +kernel
theorem dX0_divideOut_38 : decode cX0_divideOut 38 = .ok (.iload_n 3, 1) := by decide +kernel
theorem dX0_divideOut_39 : decode cX0_divideOut 39 = .ok (.laload, 1) := by decide +kernel
theorem dX0_divideOut_40 : decode cX0_divideOut 40 = .ok (.invokestatic 42, 3) := by decide +kernel
theorem dX0_divideOut_43 : decode cX0_divideOut 43 = .ok (.lstore 5, 2) := by decide +kernel
theorem dX0_divideOut_45 : decode cX0_divideOut 45 = .ok (.iconst 0, 1) := by decide +kernel
theorem dX0_divideOut_46 : decode cX0_divideOut 46 = .ok (.istore 7, 2) := by decide +kernel
theorem dX0_divideOut_48 : decode cX0_divideOut 48 = .ok (.iload 7, 2) := by decide +kernel
theorem dX0_divideOut_50 : decode cX0_divideOut 50 = .ok (.aload_n 0, 1) := by decide +kernel
theorem dX0_divideOut_51 : decode cX0_divideOut 51 = .ok (.getfield 24, 3) := by decide +kernel
theorem dX0_divideOut_54 : decode cX0_divideOut 54 = .ok (.if_icmp .ge 62, 3) := by decide +kernel
theorem dX0_divideOut_57 : decode cX0_divideOut 57 = .ok (.aload_n 0, 1) := by decide +kernel
theorem dX0_divideOut_58 : decode cX0_divideOut 58 = .ok (.getfield 11, 3) := by decide +kernel
theorem dX0_divideOut_61 : decode cX0_divideOut 61 = .ok (.iload_n 1, 1) := by decide +kernel
theorem dX0_divideOut_62 : decode cX0_divideOut 62 = .ok (.aaload, 1) := by decide +kernel
theorem dX0_divideOut_63 : decode cX0_divideOut 63 = .ok (.iload 7, 2) := by decide +kernel
theorem dX0_divideOut_65 : decode cX0_divideOut 65 = .ok (.laload, 1) := by decide +kernel
theorem dX0_divideOut_66 : decode cX0_divideOut 66 = .ok (.lload 5, 2) := by decide +kernel
theorem dX0_divideOut_68 : decode cX0_divideOut 68 = .ok (.aload_n 0, 1) := by decide +kernel
theorem dX0_divideOut_69 : decode cX0_divideOut 69 = .ok (.getfield 11, 3) := by decide +kernel
theorem dX0_divideOut_72 : decode cX0_divideOut 72 = .ok (.iload_n 2, 1) := by decide +kernel
theorem dX0_divideOut_73 : decode cX0_divideOut 73 = .ok (.aaload, 1) := by decide +kernel
theorem dX0_divideOut_74 : decode cX0_divideOut 74 = .ok (.iload 7, 2) := by decide +kernel
theorem dX0_divideOut_76 : decode cX0_divideOut 76 = .ok (.laload, 1) := by decide +kernel
theorem dX0_divideOut_77 : decode cX0_divideOut 77 = .ok (.lmul, 1) := by decide +kernel
theorem dX0_divideOut_78 : decode cX0_divideOut 78 = .ok (.lsub, 1) := by decide +kernel
theorem dX0_divideOut_79 : decode cX0_divideOut 79 = .ok (.lstore 8, 2) := by decide +kernel
theorem dX0_divideOut_81 : decode cX0_divideOut 81 = .ok (.aload_n 0, 1) := by decide +kernel
theorem dX0_divideOut_82 : decode cX0_divideOut 82 = .ok (.getfield 11, 3) := by decide +kernel
theorem dX0_divideOut_85 : decode cX0_divideOut 85 = .ok (.iload_n 1, 1) := by decide +kernel
theorem dX0_divideOut_86 : decode cX0_divideOut 86 = .ok (.aaload, 1) := by decide +kernel
theorem dX0_divideOut_87 : decode cX0_divideOut 87 = .ok (.iload 7, 2) := by decide +kernel
theorem dX0_divideOut_89 : decode cX0_divideOut 89 = .ok (.aload_n 0, 1) := by decide +kernel
theorem dX0_divideOut_90 : decode cX0_divideOut 90 = .ok (.getfield 11, 3) := by decide +kernel
theorem dX0_divideOut_93 : decode cX0_divideOut 93 = .ok (.iload_n 2, 1) := by decide +kernel
theorem dX0_divideOut_94 : decode cX0_divideOut 94 = .ok (.aaload, 1) := by decide +kernel
theorem dX0_divideOut_95 : decode cX0_divideOut 95 = .ok (.iload 7, 2) := by decide +kernel
theorem dX0_divideOut_97 : decode cX0_divideOut 97 = .ok (.laload, 1) := by decide +kernel
theorem dX0_divideOut_98 : decode cX0_divideOut 98 = .ok (.lastore, 1) := by decide +kernel
theorem dX0_divideOut_99 : decode cX0_divideOut 99 = .ok (.aload_n 0, 1) := by decide +kernel
theorem dX0_divideOut_100 : decode cX0_divideOut 100 = .ok (.getfield 11, 3) := by decide +kernel
theorem dX0_divideOut_103 : decode cX0_divideOut 103 = .ok (.iload_n 2, 1) := by decide +kernel
theorem dX0_divideOut_104 : decode cX0_divideOut 104 = .ok (.aaload, 1) := by decide +kernel
theorem dX0_divideOut_105 : decode cX0_divideOut 105 = .ok (.iload 7, 2) := by decide +kernel
theorem dX0_divideOut_107 : decode cX0_divideOut 107 = .ok (.lload 8, 2) := by decide +kernel
theorem dX0_divideOut_109 : decode cX0_divideOut 109 = .ok (.lastore, 1) := by decide +kernel
theorem dX0_divideOut_110 : decode cX0_divideOut 110 = .ok (.iinc 7 1, 3) := by decide +kernel
theorem dX0_divideOut_113 : decode cX0_divideOut 113 = .ok (.goto (-65), 3) := by decide +kernel
theorem dX0_divideOut_116 : decode cX0_divideOut 116 = .ok (.iinc 4 1, 3) := by decide +kernel
theorem dX0_divideOut_119 : decode cX0_divideOut 119 = .ok (.goto (-116), 3) := by decide +kernel
theorem dX0_divideOut_122 : decode cX0_divideOut 122 = .ok (.return_, 1) := by decide +kernel
theorem dX0_addLead_0 : decode cX0_addLead 0 = .ok (.aload_n 0, 1) := by decide +kernel
theorem dX0_addLead_1 : decode cX0_addLead 1 = .ok (.getfield 11, 3) := by decide +kernel
theorem dX0_addLead_4 : decode cX0_addLead 4 = .ok (.aload_n 0, 1) := by decide +kernel
theorem dX0_addLead_5 : decode cX0_addLead 5 = .ok (.getfield 27, 3) := by decide +kernel
theorem dX0_addLead_8 : decode cX0_addLead 8 = .ok (.aaload, 1) := by decide +kernel
theorem dX0_addLead_9 : decode cX0_addLead 9 = .ok (.iload_n 1, 1) := by decide +kernel
theorem dX0_addLead_10 : decode cX0_addLead 10 = .ok (.laload, 1) := by decide +kernel
theorem dX0_addLead_11 : decode cX0_addLead 11 = .ok (.lconst 0, 1) := by decide +kernel
theorem dX0_addLead_12 : decode cX0_addLead 12 = .ok (.lcmp, 1) := by decide +kernel
theorem dX0_addLead_13 : decode cX0_addLead 13 = .ok (.ifCond .ge 42, 3) := by decide +kernel
theorem dX0_addLead_16 : decode cX0_addLead 16 = .ok (.iconst 0, 1) := by decide +kernel
theorem dX0_addLead_17 : decode cX0_addLead 17 = .ok (.istore_n 2, 1) := by decide +kernel
theorem dX0_addLead_18 : decode cX0_addLead 18 = .ok (.iload_n 2, 1) := by decide +kernel
theorem dX0_addLead_19 : decode cX0_addLead 19 = .ok (.aload_n 0, 1) := by decide +kernel
theorem dX0_addLead_20 : decode cX0_addLead 20 = .ok (.getfield 24, 3) := by decide +kernel
theorem dX0_addLead_23 : decode cX0_addLead 23 = .ok (.if_icmp .ge 32, 3) := by decide +kernel
theorem dX0_addLead_26 : decode cX0_addLead 26 = .ok (.aload_n 0, 1) := by decide +kernel
theorem dX0_addLead_27 : decode cX0_addLead 27 = .ok (.getfield 11, 3) := by decide +kernel
theorem dX0_addLead_30 : decode cX0_addLead 30 = .ok (.aload_n 0, 1) := by decide +kernel
theorem dX0_addLead_31 : decode cX0_addLead 31 = .ok (.getfield 27, 3) := by decide +kernel
theorem dX0_addLead_34 : decode cX0_addLead 34 = .ok (.aaload, 1) := by decide +kernel
theorem dX0_addLead_35 : decode cX0_addLead 35 = .ok (.iload_n 2, 1) := by decide +kernel
theorem dX0_addLead_36 : decode cX0_addLead 36 = .ok (.aload_n 0, 1) := by decide +kernel
theorem dX0_addLead_37 : decode cX0_addLead 37 = .ok (.getfield 11, 3) := by decide +kernel
theorem dX0_addLead_40 : decode cX0_addLead 40 = .ok (.aload_n 0, 1) := by decide +kernel
theorem dX0_addLead_41 : decode cX0_addLead 41 = .ok (.getfield 27, 3) := by decide +kernel
theorem dX0_addLead_44 : decode cX0_addLead 44 = .ok (.aaload, 1) := by decide +kernel
theorem dX0_addLead_45 : decode cX0_addLead 45 = .ok (.iload_n 2, 1) := by decide +kernel
theorem dX0_addLead_46 : decode cX0_addLead 46 = .ok (.laload, 1) := by decide +kernel
theorem dX0_addLead_47 : decode cX0_addLead 47 = .ok (.lneg, 1) := by decide +kernel
theorem dX0_addLead_48 : decode cX0_addLead 48 = .ok (.lastore, 1) := by decide +kernel
theorem dX0_addLead_49 : decode cX0_addLead 49 = .ok (.iinc 2 1, 3) := by decide +kernel
theorem dX0_addLead_52 : decode cX0_addLead 52 = .ok (.goto (-34), 3) := by decide +kernel
theorem dX0_addLead_55 : decode cX0_addLead 55 = .ok (.aload_n 0, 1) := by decide +kernel
theorem dX0_addLead_56 : decode cX0_addLead 56 = .ok (.getfield 16, 3) := by decide +kernel
theorem dX0_addLead_59 : decode cX0_addLead 59 = .ok (.aload_n 0, 1) := by decide +kernel
theorem dX0_addLead_60 : decode cX0_addLead 60 = .ok (.getfield 27, 3) := by decide +kernel
theorem dX0_addLead_63 : decode cX0_addLead 63 = .ok (.iload_n 1, 1) := by decide +kernel
theorem dX0_addLead_64 : decode cX0_addLead 64 = .ok (.iastore, 1) := by decide +kernel
theorem dX0_addLead_65 : decode cX0_addLead 65 = .ok (.iconst 0, 1) := by decide +kernel
theorem dX0_addLead_66 : decode cX0_addLead 66 = .ok (.istore_n 2, 1) := by decide +kernel
theorem dX0_addLead_67 : decode cX0_addLead 67 = .ok (.iload_n 2, 1) := by decide +kernel
theorem dX0_addLead_68 : decode cX0_addLead 68 = .ok (.aload_n 0, 1) := by decide +kernel
theorem dX0_addLead_69 : decode cX0_addLead 69 = .ok (.getfield 27, 3) := by decide +kernel
theorem dX0_addLead_72 : decode cX0_addLead 72 = .ok (.if_icmp .ge 23, 3) := by decide +kernel
theorem dX0_addLead_75 : decode cX0_addLead 75 = .ok (.aload_n 0, 1) := by decide +kernel
theorem dX0_addLead_76 : decode cX0_addLead 76 = .ok (.aload_n 0, 1) := by decide +kernel
theorem dX0_addLead_77 : decode cX0_addLead 77 = .ok (.getfield 27, 3) := by decide +kernel
theorem dX0_addLead_80 : decode cX0_addLead 80 = .ok (.aload_n 0, 1) := by decide +kernel
theorem dX0_addLead_81 : decode cX0_addLead 81 = .ok (.getfield 11, 3) := by decide +kernel
theorem dX0_addLead_84 : decode cX0_addLead 84 = .ok (.iload_n 2, 1) := by decide +kernel
theorem dX0_addLead_85 : decode cX0_addLead 85 = .ok (.aaload, 1) := by decide +kernel
theorem dX0_addLead_86 : decode cX0_addLead 86 = .ok (.invokevirtual 48, 3) := by decide +kernel
theorem dX0_addLead_89 : decode cX0_addLead 89 = .ok (.iinc 2 1, 3) := by decide +kernel
theorem dX0_addLead_92 : decode cX0_addLead 92 = .ok (.goto (-25), 3) := by decide +kernel
theorem dX0_addLead_95 : decode cX0_addLead 95 = .ok (.aload_n 0, 1) := by decide +kernel
theorem dX0_addLead_96 : decode cX0_addLead 96 = .ok (.dup, 1) := by decide +kernel
theorem dX0_addLead_97 : decode cX0_addLead 97 = .ok (.getfield 27, 3) := by decide +kernel
theorem dX0_addLead_100 : decode cX0_addLead 100 = .ok (.iconst 1, 1) := by decide +kernel
theorem dX0_addLead_101 : decode cX0_addLead 101 = .ok (.iadd, 1) := by decide +kernel
theorem dX0_addLead_102 : decode cX0_addLead 102 = .ok (.putfield 27, 3) := by decide +kernel
theorem dX0_addLead_105 : decode cX0_addLead 105 = .ok (.return_, 1) := by decide +kernel
theorem dX0_reduce_0 : decode cX0_reduce 0 = .ok (.iconst 0, 1) := by decide +kernel
theorem dX0_reduce_1 : decode cX0_reduce 1 = .ok (.istore_n 2, 1) := by decide +kernel
theorem dX0_reduce_2 : decode cX0_reduce 2 = .ok (.iload_n 2, 1) := by decide +kernel
theorem dX0_reduce_3 : decode cX0_reduce 3 = .ok (.aload_n 0, 1) := by decide +kernel
theorem dX0_reduce_4 : decode cX0_reduce 4 = .ok (.getfield 27, 3) := by decide +kernel
theorem dX0_reduce_7 : decode cX0_reduce 7 = .ok (.if_icmp .ge 15, 3) := by decide +kernel
theorem dX0_reduce_10 : decode cX0_reduce 10 = .ok (.aload_n 0, 1) := by decide +kernel
theorem dX0_reduce_11 : decode cX0_reduce 11 = .ok (.iload_n 2, 1) := by decide +kernel
theorem dX0_reduce_12 : decode cX0_reduce 12 = .ok (.aload_n 1, 1) := by decide +kernel
theorem dX0_reduce_13 : decode cX0_reduce 13 = .ok (.invokevirtual 48, 3) := by decide +kernel
theorem dX0_reduce_16 : decode cX0_reduce 16 = .ok (.iinc 2 1, 3) := by decide +kernel
theorem dX0_reduce_19 : decode cX0_reduce 19 = .ok (.goto (-17), 3) := by decide +kernel
theorem dX0_reduce_22 : decode cX0_reduce 22 = .ok (.return_, 1) := by decide +kernel
theorem dX0_reduceBy_0 : decode cX0_reduceBy 0 = .ok (.aload_n 0, 1) := by decide +kernel
theorem dX0_reduceBy_1 : decode cX0_reduceBy 1 = .ok (.getfield 16, 3) := by decide +kernel
theorem dX0_reduceBy_4 : decode cX0_reduceBy 4 = .ok (.iload_n 1, 1) := by decide +kernel
theorem dX0_reduceBy_5 : decode cX0_reduceBy 5 = .ok (.iaload, 1) := by decide +kernel
theorem dX0_reduceBy_6 : decode cX0_reduceBy 6 = .ok (.istore_n 3, 1) := by decide +kernel
theorem dX0_reduceBy_7 : decode cX0_reduceBy 7 = .ok (.aload_n 0, 1) := by decide +kernel
theorem dX0_reduceBy_8 : decode cX0_reduceBy 8 = .ok (.getfield 11, 3) := by decide +kernel
theorem dX0_reduceBy_11 : decode cX0_reduceBy 11 = .ok (.iload_n 1, 1) := by decide +kernel
theorem dX0_reduceBy_12 : decode cX0_reduceBy 12 = .ok (.aaload, 1) := by decide +kernel
theorem dX0_reduceBy_13 : decode cX0_reduceBy 13 = .ok (.iload_n 3, 1) := by decide +kernel
theorem dX0_reduceBy_14 : decode cX0_reduceBy 14 = .ok (.laload, 1) := by decide +kernel
theorem dX0_reduceBy_15 : decode cX0_reduceBy 15 = .ok (.lconst 0, 1) := by decide +kernel
theorem dX0_reduceBy_16 : decode cX0_reduceBy 16 = .ok (.lcmp, 1) := by decide +kernel
theorem dX0_reduceBy_17 : decode cX0_reduceBy 17 = .ok (.ifCond .ne 4, 3) := by decide +kernel
theorem dX0_reduceBy_20 : decode cX0_reduceBy 20 = .ok (.return_, 1) := by decide +kernel
theorem dX0_reduceBy_21 : decode cX0_reduceBy 21 = .ok (.aload_n 2, 1) := by decide +kernel
theorem dX0_reduceBy_22 : decode cX0_reduceBy 22 = .ok (.iload_n 3, 1) := by decide +kernel
theorem dX0_reduceBy_23 : decode cX0_reduceBy 23 = .ok (.laload, 1) := by decide +kernel
theorem dX0_reduceBy_24 : decode cX0_reduceBy 24 = .ok (.aload_n 0, 1) := by decide +kernel
theorem dX0_reduceBy_25 : decode cX0_reduceBy 25 = .ok (.getfield 11, 3) := by decide +kernel
theorem dX0_reduceBy_28 : decode cX0_reduceBy 28 = .ok (.iload_n 1, 1) := by decide +kernel
theorem dX0_reduceBy_29 : decode cX0_reduceBy 29 = .ok (.aaload, 1) := by decide +kernel
theorem dX0_reduceBy_30 : decode cX0_reduceBy 30 = .ok (.iload_n 3, 1) := by decide +kernel
theorem dX0_reduceBy_31 : decode cX0_reduceBy 31 = .ok (.laload, 1) := by decide +kernel
theorem dX0_reduceBy_32 : decode cX0_reduceBy 32 = .ok (.invokestatic 42, 3) := by decide +kernel
theorem dX0_reduceBy_35 : decode cX0_reduceBy 35 = .ok (.lstore 4, 2) := by decide +kernel
theorem dX0_reduceBy_37 : decode cX0_reduceBy 37 = .ok (.iconst 0, 1) := by decide +kernel
theorem dX0_reduceBy_38 : decode cX0_reduceBy 38 = .ok (.istore 6, 2) := by decide +kernel
theorem dX0_reduceBy_40 : decode cX0_reduceBy 40 = .ok (.iload 6, 2) := by decide +kernel
theorem dX0_reduceBy_42 : decode cX0_reduceBy 42 = .ok (.aload_n 0, 1) := by decide +kernel
theorem dX0_reduceBy_43 : decode cX0_reduceBy 43 = .ok (.getfield 24, 3) := by decide +kernel
theorem dX0_reduceBy_46 : decode cX0_reduceBy 46 = .ok (.if_icmp .ge 28, 3) := by decide +kernel
theorem dX0_reduceBy_49 : decode cX0_reduceBy 49 = .ok (.aload_n 2, 1) := by decide +kernel
theorem dX0_reduceBy_50 : decode cX0_reduceBy 50 = .ok (.iload 6, 2) := by decide +kernel
theorem dX0_reduceBy_52 : decode cX0_reduceBy 52 = .ok (.dup2, 1) := by decide +kernel
theorem dX0_reduceBy_53 : decode cX0_reduceBy 53 = .ok (.laload, 1) := by decide +kernel
theorem dX0_reduceBy_54 : decode cX0_reduceBy 54 = .ok (.lload 4, 2) := by decide +kernel
theorem dX0_reduceBy_56 : decode cX0_reduceBy 56 = .ok (.aload_n 0, 1) := by decide +kernel
theorem dX0_reduceBy_57 : decode cX0_reduceBy 57 = .ok (.getfield 11, 3) := by decide +kernel
theorem dX0_reduceBy_60 : decode cX0_reduceBy 60 = .ok (.iload_n 1, 1) := by decide +kernel
theorem dX0_reduceBy_61 : decode cX0_reduceBy 61 = .ok (.aaload, 1) := by decide +kernel
theorem dX0_reduceBy_62 : decode cX0_reduceBy 62 = .ok (.iload 6, 2) := by decide +kernel
theorem dX0_reduceBy_64 : decode cX0_reduceBy 64 = .ok (.laload, 1) := by decide +kernel
theorem dX0_reduceBy_65 : decode cX0_reduceBy 65 = .ok (.lmul, 1) := by decide +kernel
theorem dX0_reduceBy_66 : decode cX0_reduceBy 66 = .ok (.lsub, 1) := by decide +kernel
theorem dX0_reduceBy_67 : decode cX0_reduceBy 67 = .ok (.lastore, 1) := by decide +kernel
theorem dX0_reduceBy_68 : decode cX0_reduceBy 68 = .ok (.iinc 6 1, 3) := by decide +kernel
theorem dX0_reduceBy_71 : decode cX0_reduceBy 71 = .ok (.goto (-31), 3) := by decide +kernel
theorem dX0_reduceBy_74 : decode cX0_reduceBy 74 = .ok (.return_, 1) := by decide +kernel
theorem dJ6_bitCount_0f7a4_0 : decode cJ6_bitCount_0f7a4 0 = .ok (.iload_n 0, 1) := by decide +kernel
theorem dJ6_bitCount_0f7a4_1 : decode cJ6_bitCount_0f7a4 1 = .ok (.iload_n 0, 1) := by decide +kernel
theorem dJ6_bitCount_0f7a4_2 : decode cJ6_bitCount_0f7a4 2 = .ok (.iconst 1, 1) := by decide +kernel
theorem dJ6_bitCount_0f7a4_3 : decode cJ6_bitCount_0f7a4 3 = .ok (.iushr, 1) := by decide +kernel
theorem dJ6_bitCount_0f7a4_4 : decode cJ6_bitCount_0f7a4 4 = .ok (.ldc_w 265, 3) := by decide +kernel
theorem dJ6_bitCount_0f7a4_7 : decode cJ6_bitCount_0f7a4 7 = .ok (.iand, 1) := by decide +kernel
theorem dJ6_bitCount_0f7a4_8 : decode cJ6_bitCount_0f7a4 8 = .ok (.isub, 1) := by decide +kernel
theorem dJ6_bitCount_0f7a4_9 : decode cJ6_bitCount_0f7a4 9 = .ok (.istore_n 0, 1) := by decide +kernel
theorem dJ6_bitCount_0f7a4_10 : decode cJ6_bitCount_0f7a4 10 = .ok (.iload_n 0, 1) := by decide +kernel
theorem dJ6_bitCount_0f7a4_11 : decode cJ6_bitCount_0f7a4 11 = .ok (.ldc_w 266, 3) := by decide +kernel
theorem dJ6_bitCount_0f7a4_14 : decode cJ6_bitCount_0f7a4 14 = .ok (.iand, 1) := by decide +kernel
theorem dJ6_bitCount_0f7a4_15 : decode cJ6_bitCount_0f7a4 15 = .ok (.iload_n 0, 1) := by decide +kernel
theorem dJ6_bitCount_0f7a4_16 : decode cJ6_bitCount_0f7a4 16 = .ok (.iconst 2, 1) := by decide +kernel
theorem dJ6_bitCount_0f7a4_17 : decode cJ6_bitCount_0f7a4 17 = .ok (.iushr, 1) := by decide +kernel
theorem dJ6_bitCount_0f7a4_18 : decode cJ6_bitCount_0f7a4 18 = .ok (.ldc_w 266, 3) := by decide +kernel
theorem dJ6_bitCount_0f7a4_21 : decode cJ6_bitCount_0f7a4 21 = .ok (.iand, 1) := by decide +kernel
theorem dJ6_bitCount_0f7a4_22 : decode cJ6_bitCount_0f7a4 22 = .ok (.iadd, 1) := by decide +kernel
theorem dJ6_bitCount_0f7a4_23 : decode cJ6_bitCount_0f7a4 23 = .ok (.istore_n 0, 1) := by decide +kernel
theorem dJ6_bitCount_0f7a4_24 : decode cJ6_bitCount_0f7a4 24 = .ok (.iload_n 0, 1) := by decide +kernel
theorem dJ6_bitCount_0f7a4_25 : decode cJ6_bitCount_0f7a4 25 = .ok (.iload_n 0, 1) := by decide +kernel
theorem dJ6_bitCount_0f7a4_26 : decode cJ6_bitCount_0f7a4 26 = .ok (.iconst 4, 1) := by decide +kernel
theorem dJ6_bitCount_0f7a4_27 : decode cJ6_bitCount_0f7a4 27 = .ok (.iushr, 1) := by decide +kernel
theorem dJ6_bitCount_0f7a4_28 : decode cJ6_bitCount_0f7a4 28 = .ok (.iadd, 1) := by decide +kernel
theorem dJ6_bitCount_0f7a4_29 : decode cJ6_bitCount_0f7a4 29 = .ok (.ldc_w 267, 3) := by decide +kernel
theorem dJ6_bitCount_0f7a4_32 : decode cJ6_bitCount_0f7a4 32 = .ok (.iand, 1) := by decide +kernel
theorem dJ6_bitCount_0f7a4_33 : decode cJ6_bitCount_0f7a4 33 = .ok (.istore_n 0, 1) := by decide +kernel
theorem dJ6_bitCount_0f7a4_34 : decode cJ6_bitCount_0f7a4 34 = .ok (.iload_n 0, 1) := by decide +kernel
theorem dJ6_bitCount_0f7a4_35 : decode cJ6_bitCount_0f7a4 35 = .ok (.iload_n 0, 1) := by decide +kernel
theorem dJ6_bitCount_0f7a4_36 : decode cJ6_bitCount_0f7a4 36 = .ok (.bipush 8, 2) := by decide +kernel
theorem dJ6_bitCount_0f7a4_38 : decode cJ6_bitCount_0f7a4 38 = .ok (.iushr, 1) := by decide +kernel
theorem dJ6_bitCount_0f7a4_39 : decode cJ6_bitCount_0f7a4 39 = .ok (.iadd, 1) := by decide +kernel
theorem dJ6_bitCount_0f7a4_40 : decode cJ6_bitCount_0f7a4 40 = .ok (.istore_n 0, 1) := by decide +kernel
theorem dJ6_bitCount_0f7a4_41 : decode cJ6_bitCount_0f7a4 41 = .ok (.iload_n 0, 1) := by decide +kernel
theorem dJ6_bitCount_0f7a4_42 : decode cJ6_bitCount_0f7a4 42 = .ok (.iload_n 0, 1) := by decide +kernel
theorem dJ6_bitCount_0f7a4_43 : decode cJ6_bitCount_0f7a4 43 = .ok (.bipush 16, 2) := by decide +kernel
theorem dJ6_bitCount_0f7a4_45 : decode cJ6_bitCount_0f7a4 45 = .ok (.iushr, 1) := by decide +kernel
theorem dJ6_bitCount_0f7a4_46 : decode cJ6_bitCount_0f7a4 46 = .ok (.iadd, 1) := by decide +kernel
theorem dJ6_bitCount_0f7a4_47 : decode cJ6_bitCount_0f7a4 47 = .ok (.istore_n 0, 1) := by decide +kernel
theorem dJ6_bitCount_0f7a4_48 : decode cJ6_bitCount_0f7a4 48 = .ok (.iload_n 0, 1) := by decide +kernel
theorem dJ6_bitCount_0f7a4_49 : decode cJ6_bitCount_0f7a4 49 = .ok (.bipush 63, 2) := by decide +kernel
theorem dJ6_bitCount_0f7a4_51 : decode cJ6_bitCount_0f7a4 51 = .ok (.iand, 1) := by decide +kernel
theorem dJ6_bitCount_0f7a4_52 : decode cJ6_bitCount_0f7a4 52 = .ok (.ireturn, 1) := by decide +kernel
theorem dJ9_floorDiv_f86c9_0 : decode cJ9_floorDiv_f86c9 0 = .ok (.lload_n 0, 1) := by decide +kernel
theorem dJ9_floorDiv_f86c9_1 : decode cJ9_floorDiv_f86c9 1 = .ok (.lload_n 2, 1) := by decide +kernel
theorem dJ9_floorDiv_f86c9_2 : decode cJ9_floorDiv_f86c9 2 = .ok (.ldiv, 1) := by decide +kernel
theorem dJ9_floorDiv_f86c9_3 : decode cJ9_floorDiv_f86c9 3 = .ok (.lstore 4, 2) := by decide +kernel
theorem dJ9_floorDiv_f86c9_5 : decode cJ9_floorDiv_f86c9 5 = .ok (.lload_n 0, 1) := by decide +kernel
theorem dJ9_floorDiv_f86c9_6 : decode cJ9_floorDiv_f86c9 6 = .ok (.lload_n 2, 1) := by decide +kernel
theorem dJ9_floorDiv_f86c9_7 : decode cJ9_floorDiv_f86c9 7 = .ok (.lxor, 1) := by decide +kernel
theorem dJ9_floorDiv_f86c9_8 : decode cJ9_floorDiv_f86c9 8 = .ok (.lconst 0, 1) := by decide +kernel
theorem dJ9_floorDiv_f86c9_9 : decode cJ9_floorDiv_f86c9 9 = .ok (.lcmp, 1) := by decide +kernel
theorem dJ9_floorDiv_f86c9_10 : decode cJ9_floorDiv_f86c9 10 = .ok (.ifCond .ge 17, 3) := by decide +kernel
theorem dJ9_floorDiv_f86c9_13 : decode cJ9_floorDiv_f86c9 13 = .ok (.lload 4, 2) := by decide +kernel
theorem dJ9_floorDiv_f86c9_15 : decode cJ9_floorDiv_f86c9 15 = .ok (.lload_n 2, 1) := by decide +kernel
theorem dJ9_floorDiv_f86c9_16 : decode cJ9_floorDiv_f86c9 16 = .ok (.lmul, 1) := by decide +kernel
theorem dJ9_floorDiv_f86c9_17 : decode cJ9_floorDiv_f86c9 17 = .ok (.lload_n 0, 1) := by decide +kernel
theorem dJ9_floorDiv_f86c9_18 : decode cJ9_floorDiv_f86c9 18 = .ok (.lcmp, 1) := by decide +kernel
theorem dJ9_floorDiv_f86c9_19 : decode cJ9_floorDiv_f86c9 19 = .ok (.ifCond .eq 8, 3) := by decide +kernel
theorem dJ9_floorDiv_f86c9_22 : decode cJ9_floorDiv_f86c9 22 = .ok (.lload 4, 2) := by decide +kernel
theorem dJ9_floorDiv_f86c9_24 : decode cJ9_floorDiv_f86c9 24 = .ok (.lconst 1, 1) := by decide +kernel
theorem dJ9_floorDiv_f86c9_25 : decode cJ9_floorDiv_f86c9 25 = .ok (.lsub, 1) := by decide +kernel
theorem dJ9_floorDiv_f86c9_26 : decode cJ9_floorDiv_f86c9 26 = .ok (.lreturn, 1) := by decide +kernel
theorem dJ9_floorDiv_f86c9_27 : decode cJ9_floorDiv_f86c9 27 = .ok (.lload 4, 2) := by decide +kernel
theorem dJ9_floorDiv_f86c9_29 : decode cJ9_floorDiv_f86c9 29 = .ok (.lreturn, 1) := by decide +kernel
theorem dJ9_abs_067f4_0 : decode cJ9_abs_067f4 0 = .ok (.lload_n 0, 1) := by decide +kernel
theorem dJ9_abs_067f4_1 : decode cJ9_abs_067f4 1 = .ok (.lconst 0, 1) := by decide +kernel
theorem dJ9_abs_067f4_2 : decode cJ9_abs_067f4 2 = .ok (.lcmp, 1) := by decide +kernel
theorem dJ9_abs_067f4_3 : decode cJ9_abs_067f4 3 = .ok (.ifCond .ge 8, 3) := by decide +kernel
theorem dJ9_abs_067f4_6 : decode cJ9_abs_067f4 6 = .ok (.lload_n 0, 1) := by decide +kernel
theorem dJ9_abs_067f4_7 : decode cJ9_abs_067f4 7 = .ok (.lneg, 1) := by decide +kernel
theorem dJ9_abs_067f4_8 : decode cJ9_abs_067f4 8 = .ok (.goto 4, 3) := by decide +kernel
theorem dJ9_abs_067f4_11 : decode cJ9_abs_067f4 11 = .ok (.lload_n 0, 1) := by decide +kernel
theorem dJ9_abs_067f4_12 : decode cJ9_abs_067f4 12 = .ok (.lreturn, 1) := by decide +kernel
theorem dJ9_max_f86c9_0 : decode cJ9_max_f86c9 0 = .ok (.lload_n 0, 1) := by decide +kernel
theorem dJ9_max_f86c9_1 : decode cJ9_max_f86c9 1 = .ok (.lload_n 2, 1) := by decide +kernel
theorem dJ9_max_f86c9_2 : decode cJ9_max_f86c9 2 = .ok (.lcmp, 1) := by decide +kernel
theorem dJ9_max_f86c9_3 : decode cJ9_max_f86c9 3 = .ok (.ifCond .lt 7, 3) := by decide +kernel
theorem dJ9_max_f86c9_6 : decode cJ9_max_f86c9 6 = .ok (.lload_n 0, 1) := by decide +kernel
theorem dJ9_max_f86c9_7 : decode cJ9_max_f86c9 7 = .ok (.goto 4, 3) := by decide +kernel
theorem dJ9_max_f86c9_10 : decode cJ9_max_f86c9 10 = .ok (.lload_n 2, 1) := by decide +kernel
theorem dJ9_max_f86c9_11 : decode cJ9_max_f86c9 11 = .ok (.lreturn, 1) := by decide +kernel
theorem dJ9_min_f86c9_0 : decode cJ9_min_f86c9 0 = .ok (.lload_n 0, 1) := by decide +kernel
theorem dJ9_min_f86c9_1 : decode cJ9_min_f86c9 1 = .ok (.lload_n 2, 1) := by decide +kernel
theorem dJ9_min_f86c9_2 : decode cJ9_min_f86c9 2 = .ok (.lcmp, 1) := by decide +kernel
theorem dJ9_min_f86c9_3 : decode cJ9_min_f86c9 3 = .ok (.ifCond .gt 7, 3) := by decide +kernel
theorem dJ9_min_f86c9_6 : decode cJ9_min_f86c9 6 = .ok (.lload_n 0, 1) := by decide +kernel
theorem dJ9_min_f86c9_7 : decode cJ9_min_f86c9 7 = .ok (.goto 4, 3) := by decide +kernel
theorem dJ9_min_f86c9_10 : decode cJ9_min_f86c9 10 = .ok (.lload_n 2, 1) := by decide +kernel
theorem dJ9_min_f86c9_11 : decode cJ9_min_f86c9 11 = .ok (.lreturn, 1) := by decide +kernel
end
section
theorem dX1_init_0 : decode cX1_init 0 = .ok (.aload_n 0, 1) := by decide +kernel
theorem dX1_init_1 : decode cX1_init 1 = .ok (.invokespecial 3, 3) := by decide +kernel
theorem dX1_init_4 : decode cX1_init 4 = .ok (.aload_n 0, 1) := by decide +kernel
theorem dX1_init_5 : decode cX1_init 5 = .ok (.iconst 3, 1) := by decide +kernel
theorem dX1_init_6 : decode cX1_init 6 = .ok (.iconst 4, 1) := by decide +kernel
theorem dX1_init_7 : decode cX1_init 7 = .ok (.multianewarray 9 2, 4) := by decide +kernel
theorem dX1_init_11 : decode cX1_init 11 = .ok (.putfield 11, 3) := by decide +kernel
theorem dX1_init_14 : decode cX1_init 14 = .ok (.aload_n 0, 1) := by decide +kernel
theorem dX1_init_15 : decode cX1_init 15 = .ok (.iconst 3, 1) := by decide +kernel
theorem dX1_init_16 : decode cX1_init 16 = .ok (.newarray .int, 2) := by decide +kernel
theorem dX1_init_18 : decode cX1_init 18 = .ok (.putfield 14, 3) := by decide +kernel
theorem dX1_init_21 : decode cX1_init 21 = .ok (.aload_n 0, 1) := by decide +kernel
theorem dX1_init_22 : decode cX1_init 22 = .ok (.new 18, 3) := by decide +kernel
theorem dX1_init_25 : decode cX1_init 25 = .ok (.dup, 1) := by decide +kernel
theorem dX1_init_26 : decode cX1_init 26 = .ok (.iconst 4, 1) := by decide +kernel
theorem dX1_init_27 : decode cX1_init 27 = .ok (.bipush 7, 2) := by decide +kernel
theorem dX1_init_29 : decode cX1_init 29 = .ok (.invokespecial 20, 3) := by decide +kernel
theorem dX1_init_32 : decode cX1_init 32 = .ok (.putfield 23, 3) := by decide +kernel
theorem dX1_init_35 : decode cX1_init 35 = .ok (.aload_n 0, 1) := by decide +kernel
theorem dX1_init_36 : decode cX1_init 36 = .ok (.new 18, 3) := by decide +kernel
theorem dX1_init_39 : decode cX1_init 39 = .ok (.dup, 1) := by decide +kernel
theorem dX1_init_40 : decode cX1_init 40 = .ok (.bipush 6, 2) := by decide +kernel
theorem dX1_init_42 : decode cX1_init 42 = .ok (.iconst 3, 1) := by decide +kernel
theorem dX1_init_43 : decode cX1_init 43 = .ok (.invokespecial 20, 3) := by decide +kernel
theorem dX1_init_46 : decode cX1_init 46 = .ok (.putfield 27, 3) := by decide +kernel
theorem dX1_init_49 : decode cX1_init 49 = .ok (.aload_n 0, 1) := by decide +kernel
theorem dX1_init_50 : decode cX1_init 50 = .ok (.bipush 7, 2) := by decide +kernel
theorem dX1_init_52 : decode cX1_init 52 = .ok (.newarray .long, 2) := by decide +kernel
theorem dX1_init_54 : decode cX1_init 54 = .ok (.putfield 30, 3) := by decide +kernel
theorem dX1_init_57 : decode cX1_init 57 = .ok (.aload_n 0, 1) := by decide +kernel
theorem dX1_init_58 : decode cX1_init 58 = .ok (.bipush 7, 2) := by decide +kernel
theorem dX1_init_60 : decode cX1_init 60 = .ok (.newarray .long, 2) := by decide +kernel
theorem dX1_init_62 : decode cX1_init 62 = .ok (.putfield 34, 3) := by decide +kernel
theorem dX1_init_65 : decode cX1_init 65 = .ok (.aload_n 0, 1) := by decide +kernel
theorem dX1_init_66 : decode cX1_init 66 = .ok (.iconst 5, 1) := by decide +kernel
theorem dX1_init_67 : decode cX1_init 67 = .ok (.iconst 4, 1) := by decide +kernel
theorem dX1_init_68 : decode cX1_init 68 = .ok (.multianewarray 37 2, 4) := by decide +kernel
theorem dX1_init_72 : decode cX1_init 72 = .ok (.putfield 39, 3) := by decide +kernel
theorem dX1_init_75 : decode cX1_init 75 = .ok (.aload_n 0, 1) := by decide +kernel
theorem dX1_init_76 : decode cX1_init 76 = .ok (.iconst 1, 1) := by decide +kernel
theorem dX1_init_77 : decode cX1_init 77 = .ok (.putfield 42, 3) := by decide +kernel
theorem dX1_init_80 : decode cX1_init 80 = .ok (.aload_n 0, 1) := by decide +kernel
theorem dX1_init_81 : decode cX1_init 81 = .ok (.iconst 0, 1) := by decide +kernel
theorem dX1_init_82 : decode cX1_init 82 = .ok (.putfield 46, 3) := by decide +kernel
theorem dX1_init_85 : decode cX1_init 85 = .ok (.aload_n 0, 1) := by decide +kernel
theorem dX1_init_86 : decode cX1_init 86 = .ok (.invokevirtual 49, 3) := by decide +kernel
theorem dX1_init_89 : decode cX1_init 89 = .ok (.return_, 1) := by decide +kernel
theorem dX1_unknowns_0 : decode cX1_unknowns 0 = .ok (.iload_n 1, 1) := by decide +kernel
theorem dX1_unknowns_1 : decode cX1_unknowns 1 = .ok (.iconst 1, 1) := by decide +kernel
theorem dX1_unknowns_2 : decode cX1_unknowns 2 = .ok (.if_icmp .lt 8, 3) := by decide +kernel
theorem dX1_unknowns_5 : decode cX1_unknowns 5 = .ok (.iload_n 1, 1) := by decide +kernel
theorem dX1_unknowns_6 : decode cX1_unknowns 6 = .ok (.iconst 4, 1) := by decide +kernel
theorem dX1_unknowns_7 : decode cX1_unknowns 7 = .ok (.if_icmp .le 5, 3) := by decide +kernel
theorem dX1_unknowns_10 : decode cX1_unknowns 10 = .ok (.iconst 0, 1) := by decide +kernel
theorem dX1_unknowns_11 : decode cX1_unknowns 11 = .ok (.ireturn, 1) := by decide +kernel
theorem dX1_unknowns_12 : decode cX1_unknowns 12 = .ok (.aload_n 0, 1) := by decide +kernel
theorem dX1_unknowns_13 : decode cX1_unknowns 13 = .ok (.iload_n 1, 1) := by decide +kernel
theorem dX1_unknowns_14 : decode cX1_unknowns 14 = .ok (.putfield 42, 3) := by decide +kernel
theorem dX1_unknowns_17 : decode cX1_unknowns 17 = .ok (.aload_n 0, 1) := by decide +kernel
theorem dX1_unknowns_18 : decode cX1_unknowns 18 = .ok (.iconst 0, 1) := by decide +kernel
theorem dX1_unknowns_19 : decode cX1_unknowns 19 = .ok (.putfield 46, 3) := by decide +kernel
theorem dX1_unknowns_22 : decode cX1_unknowns 22 = .ok (.aload_n 0, 1) := by decide +kernel
theorem dX1_unknowns_23 : decode cX1_unknowns 23 = .ok (.invokevirtual 49, 3) := by decide +kernel
theorem dX1_unknowns_26 : decode cX1_unknowns 26 = .ok (.iconst 1, 1) := by decide +kernel
theorem dX1_unknowns_27 : decode cX1_unknowns 27 = .ok (.ireturn, 1) := by decide +kernel
theorem dX1_equation_0 : decode cX1_equation 0 = .ok (.aload_n 0, 1) := by decide +kernel
theorem dX1_equation_1 : decode cX1_equation 1 = .ok (.getfield 46, 3) := by decide +kernel
theorem dX1_equation_4 : decode cX1_equation 4 = .ok (.iconst 3, 1) := by decide +kernel
theorem dX1_equation_5 : decode cX1_equation 5 = .ok (.if_icmp .ge 11, 3) := by decide +kernel
theorem dX1_equation_8 : decode cX1_equation 8 = .ok (.iload 5, 2) := by decide +kernel
theorem dX1_equation_10 : decode cX1_equation 10 = .ok (.invokestatic 52, 3) := by decide +kernel
theorem dX1_equation_13 : decode cX1_equation 13 = .ok (.ifCond .ne 5, 3) := by decide +kernel
theorem dX1_equation_16 : decode cX1_equation 16 = .ok (.iconst (-1), 1) := by decide +kernel
theorem dX1_equation_17 : decode cX1_equation 17 = .ok (.ireturn, 1) := by decide +kernel
theorem dX1_equation_18 : decode cX1_equation 18 = .ok (.aload_n 0, 1) := by decide +kernel
theorem dX1_equation_19 : decode cX1_equation 19 = .ok (.iconst 0, 1) := by decide +kernel
theorem dX1_equation_20 : decode cX1_equation 20 = .ok (.iload_n 1, 1) := by decide +kernel
theorem dX1_equation_21 : decode cX1_equation 21 = .ok (.invokevirtual 56, 3) := by decide +kernel
theorem dX1_equation_24 : decode cX1_equation 24 = .ok (.ifCond .eq 31, 3) := by decide +kernel
theorem dX1_equation_27 : decode cX1_equation 27 = .ok (.aload_n 0, 1) := by decide +kernel
theorem dX1_equation_28 : decode cX1_equation 28 = .ok (.iconst 1, 1) := by decide +kernel
theorem dX1_equation_29 : decode cX1_equation 29 = .ok (.iload_n 2, 1) := by decide +kernel
theorem dX1_equation_30 : decode cX1_equation 30 = .ok (.invokevirtual 56, 3) := by decide +kernel
theorem dX1_equation_33 : decode cX1_equation 33 = .ok (.ifCond .eq 22, 3) := by decide +kernel
theorem dX1_equation_36 : decode cX1_equation 36 = .ok (.aload_n 0, 1) := by decide +kernel
theorem dX1_equation_37 : decode cX1_equation 37 = .ok (.iconst 2, 1) := by decide +kernel
theorem dX1_equation_38 : decode cX1_equation 38 = .ok (.iload_n 3, 1) := by decide +kernel
theorem dX1_equation_39 : decode cX1_equation 39 = .ok (.invokevirtual 56, 3) := by decide +kernel
theorem dX1_equation_42 : decode cX1_equation 42 = .ok (.ifCond .eq 13, 3) := by decide +kernel
theorem dX1_equation_45 : decode cX1_equation 45 = .ok (.aload_n 0, 1) := by decide +kernel
theorem dX1_equation_46 : decode cX1_equation 46 = .ok (.iconst 3, 1) := by decide +kernel
theorem dX1_equation_47 : decode cX1_equation 47 = .ok (.iload 4, 2) := by decide +kernel
theorem dX1_equation_49 : decode cX1_equation 49 = .ok (.invokevirtual 56, 3) := by decide +kernel
theorem dX1_equation_52 : decode cX1_equation 52 = .ok (.ifCond .ne 5, 3) := by decide +kernel
theorem dX1_equation_55 : decode cX1_equation 55 = .ok (.iconst (-1), 1) := by decide +kernel
theorem dX1_equation_56 : decode cX1_equation 56 = .ok (.ireturn, 1) := by decide +kernel
theorem dX1_equation_57 : decode cX1_equation 57 = .ok (.aload_n 0, 1) := by decide +kernel
theorem dX1_equation_58 : decode cX1_equation 58 = .ok (.getfield 46, 3) := by decide +kernel
theorem dX1_equation_61 : decode cX1_equation 61 = .ok (.istore 6, 2) := by decide +kernel
theorem dX1_equation_63 : decode cX1_equation 63 = .ok (.aload_n 0, 1) := by decide +kernel
theorem dX1_equation_64 : decode cX1_equation 64 = .ok (.getfield 11, 3) := by decide +kernel
theorem dX1_equation_67 : decode cX1_equation 67 = .ok (.iload 6, 2) := by decide +kernel
theorem dX1_equation_69 : decode cX1_equation 69 = .ok (.aaload, 1) := by decide +kernel
theorem dX1_equation_70 : decode cX1_equation 70 = .ok (.iconst 0, 1) := by decide +kernel
theorem dX1_equation_71 : decode cX1_equation 71 = .ok (.iload_n 1, 1) := by decide +kernel
theorem dX1_equation_72 : decode cX1_equation 72 = .ok (.iastore, 1) := by decide +kernel
theorem dX1_equation_73 : decode cX1_equation 73 = .ok (.aload_n 0, 1) := by decide +kernel
theorem dX1_equation_74 : decode cX1_equation 74 = .ok (.getfield 11, 3) := by decide +kernel
theorem dX1_equation_77 : decode cX1_equation 77 = .ok (.iload 6, 2) := by decide +kernel
theorem dX1_equation_79 : decode cX1_equation 79 = .ok (.aaload, 1) := by decide +kernel
theorem dX1_equation_80 : decode cX1_equation 80 = .ok (.iconst 1, 1) := by decide +kernel
theorem dX1_equation_81 : decode cX1_equation 81 = .ok (.iload_n 2, 1) := by decide +kernel
theorem dX1_equation_82 : decode cX1_equation 82 = .ok (.iastore, 1) := by decide +kernel
theorem dX1_equation_83 : decode cX1_equation 83 = .ok (.aload_n 0, 1) := by decide +kernel
theorem dX1_equation_84 : decode cX1_equation 84 = .ok (.getfield 11, 3) := by decide +kernel
theorem dX1_equation_87 : decode cX1_equation 87 = .ok (.iload 6, 2) := by decide +kernel
theorem dX1_equation_89 : decode cX1_equation 89 = .ok (.aaload, 1) := by decide +kernel
theorem dX1_equation_90 : decode cX1_equation 90 = .ok (.iconst 2, 1) := by decide +kernel
theorem dX1_equation_91 : decode cX1_equation 91 = .ok (.iload_n 3, 1) := by decide +kernel
theorem dX1_equation_92 : decode cX1_equation 92 = .ok (.iastore, 1) := by decide +kernel
theorem dX1_equation_93 : decode cX1_equation 93 = .ok (.aload_n 0, 1) := by decide +kernel
theorem dX1_equation_94 : decode cX1_equation 94 = .ok (.getfield 11, 3) := by decide +kernel
theorem dX1_equation_97 : decode cX1_equation 97 = .ok (.iload 6, 2) := by decide +kernel
theorem dX1_equation_99 : decode cX1_equation 99 = .ok (.aaload, 1) := by decide +kernel
theorem dX1_equation_100 : decode cX1_equation 100 = .ok (.iconst 3, 1) := by decide +kernel
theorem dX1_equation_101 : decode cX1_equation 101 = .ok (.iload 4, 2) := by decide +kernel
theorem dX1_equation_103 : decode cX1_equation 103 = .ok (.iastore, 1) := by decide +kernel
theorem dX1_equation_104 : decode cX1_equation 104 = .ok (.aload_n 0, 1) := by decide +kernel
theorem dX1_equation_105 : decode cX1_equation 105 = .ok (.getfield 14, 3) := by decide +kernel
theorem dX1_equation_108 : decode cX1_equation 108 = .ok (.iload 6, 2) := by decide +kernel
theorem dX1_equation_110 : decode cX1_equation 110 = .ok (.iload 5, 2) := by decide +kernel
theorem dX1_equation_112 : decode cX1_equation 112 = .ok (.iastore, 1) := by decide +kernel
theorem dX1_equation_113 : decode cX1_equation 113 = .ok (.aload_n 0, 1) := by decide +kernel
theorem dX1_equation_114 : decode cX1_equation 114 = .ok (.iload 6, 2) := by decide +kernel
theorem dX1_equation_116 : decode cX1_equation 116 = .ok (.iconst 1, 1) := by decide +kernel
theorem dX1_equation_117 : decode cX1_equation 117 = .ok (.iadd, 1) := by decide +kernel
theorem dX1_equation_118 : decode cX1_equation 118 = .ok (.putfield 46, 3) := by decide +kernel
theorem dX1_equation_121 : decode cX1_equation 121 = .ok (.aload_n 0, 1) := by decide +kernel
theorem dX1_equation_122 : decode cX1_equation 122 = .ok (.invokevirtual 49, 3) := by decide +kernel
theorem dX1_equation_125 : decode cX1_equation 125 = .ok (.iload 6, 2) := by decide +kernel
theorem dX1_equation_127 : decode cX1_equation 127 = .ok (.ireturn, 1) := by decide +kernel
theorem dX1_sum_0 : decode cX1_sum 0 = .ok (.iload_n 1, 1) := by decide +kernel
theorem dX1_sum_1 : decode cX1_sum 1 = .ok (.ifCond .lt 18, 3) := by decide +kernel
theorem dX1_sum_4 : decode cX1_sum 4 = .ok (.iload_n 1, 1) := by decide +kernel
theorem dX1_sum_5 : decode cX1_sum 5 = .ok (.aload_n 0, 1) := by decide +kernel
theorem dX1_sum_6 : decode cX1_sum 6 = .ok (.getfield 46, 3) := by decide +kernel
theorem dX1_sum_9 : decode cX1_sum 9 = .ok (.if_icmp .ge 10, 3) := by decide +kernel
theorem dX1_sum_12 : decode cX1_sum 12 = .ok (.iload_n 2, 1) := by decide +kernel
theorem dX1_sum_13 : decode cX1_sum 13 = .ok (.invokestatic 52, 3) := by decide +kernel
theorem dX1_sum_16 : decode cX1_sum 16 = .ok (.ifCond .ne 5, 3) := by decide +kernel
theorem dX1_sum_19 : decode cX1_sum 19 = .ok (.iconst 0, 1) := by decide +kernel
theorem dX1_sum_20 : decode cX1_sum 20 = .ok (.ireturn, 1) := by decide +kernel
theorem dX1_sum_21 : decode cX1_sum 21 = .ok (.aload_n 0, 1) := by decide +kernel
theorem dX1_sum_22 : decode cX1_sum 22 = .ok (.getfield 14, 3) := by decide +kernel
theorem dX1_sum_25 : decode cX1_sum 25 = .ok (.iload_n 1, 1) := by decide +kernel
theorem dX1_sum_26 : decode cX1_sum 26 = .ok (.iload_n 2, 1) := by decide +kernel
theorem dX1_sum_27 : decode cX1_sum 27 = .ok (.iastore, 1) := by decide +kernel
theorem dX1_sum_28 : decode cX1_sum 28 = .ok (.aload_n 0, 1) := by decide +kernel
theorem dX1_sum_29 : decode cX1_sum 29 = .ok (.invokevirtual 60, 3) := by decide +kernel
theorem dX1_sum_32 : decode cX1_sum 32 = .ok (.iconst 1, 1) := by decide +kernel
theorem dX1_sum_33 : decode cX1_sum 33 = .ok (.ireturn, 1) := by decide +kernel
theorem dX1_drop_0 : decode cX1_drop 0 = .ok (.aload_n 0, 1) := by decide +kernel
theorem dX1_drop_1 : decode cX1_drop 1 = .ok (.getfield 46, 3) := by decide +kernel
theorem dX1_drop_4 : decode cX1_drop 4 = .ok (.ifCond .ne 5, 3) := by decide +kernel
theorem dX1_drop_7 : decode cX1_drop 7 = .ok (.iconst (-1), 1) := by decide +kernel
theorem dX1_drop_8 : decode cX1_drop 8 = .ok (.ireturn, 1) := by decide +kernel
theorem dX1_drop_9 : decode cX1_drop 9 = .ok (.aload_n 0, 1) := by decide +kernel
theorem dX1_drop_10 : decode cX1_drop 10 = .ok (.aload_n 0, 1) := by decide +kernel
theorem dX1_drop_11 : decode cX1_drop 11 = .ok (.getfield 46, 3) := by decide +kernel
theorem dX1_drop_14 : decode cX1_drop 14 = .ok (.iconst 1, 1) := by decide +kernel
theorem dX1_drop_15 : decode cX1_drop 15 = .ok (.isub, 1) := by decide +kernel
theorem dX1_drop_16 : decode cX1_drop 16 = .ok (.putfield 46, 3) := by decide +kernel
theorem dX1_drop_19 : decode cX1_drop 19 = .ok (.aload_n 0, 1) := by decide +kernel
theorem dX1_drop_20 : decode cX1_drop 20 = .ok (.invokevirtual 49, 3) := by decide +kernel
theorem dX1_drop_23 : decode cX1_drop 23 = .ok (.aload_n 0, 1) := by decide +kernel
theorem dX1_drop_24 : decode cX1_drop 24 = .ok (.getfield 46, 3) := by decide +kernel
theorem dX1_drop_27 : decode cX1_drop 27 = .ok (.ireturn, 1) := by decide +kernel
theorem dX1_solve_0 : decode cX1_solve 0 = .ok (.aload_n 0, 1) := by decide +kernel
theorem dX1_solve_1 : decode cX1_solve 1 = .ok (.getfield 63, 3) := by decide +kernel
theorem dX1_solve_4 : decode cX1_solve 4 = .ok (.iconst (-1), 1) := by decide +kernel
theorem dX1_solve_5 : decode cX1_solve 5 = .ok (.if_icmp .ne 10, 3) := by decide +kernel
theorem dX1_solve_8 : decode cX1_solve 8 = .ok (.aload_n 0, 1) := by decide +kernel
theorem dX1_solve_9 : decode cX1_solve 9 = .ok (.invokevirtual 66, 3) := by decide +kernel
theorem dX1_solve_12 : decode cX1_solve 12 = .ok (.goto 4, 3) := by decide +kernel
theorem dX1_solve_15 : decode cX1_solve 15 = .ok (.iconst (-1), 1) := by decide +kernel
theorem dX1_solve_16 : decode cX1_solve 16 = .ok (.ireturn, 1) := by decide +kernel
theorem dX1_fails_0 : decode cX1_fails 0 = .ok (.aload_n 0, 1) := by decide +kernel
theorem dX1_fails_1 : decode cX1_fails 1 = .ok (.getfield 63, 3) := by decide +kernel
theorem dX1_fails_4 : decode cX1_fails 4 = .ok (.ireturn, 1) := by decide +kernel
theorem dX1_solution_0 : decode cX1_solution 0 = .ok (.aload_n 0, 1) := by decide +kernel
theorem dX1_solution_1 : decode cX1_solution 1 = .ok (.getfield 63, 3) := by decide +kernel
theorem dX1_solution_4 : decode cX1_solution 4 = .ok (.iconst (-1), 1) := by decide +kernel
theorem dX1_solution_5 : decode cX1_solution 5 = .ok (.if_icmp .ne 15, 3) := by decide +kernel
theorem dX1_solution_8 : decode cX1_solution 8 = .ok (.iload_n 1, 1) := by decide +kernel
theorem dX1_solution_9 : decode cX1_solution 9 = .ok (.ifCond .lt 11, 3) := by decide +kernel
theorem dX1_solution_12 : decode cX1_solution 12 = .ok (.iload_n 1, 1) := by decide +kernel
theorem dX1_solution_13 : decode cX1_solution 13 = .ok (.aload_n 0, 1) := by decide +kernel
theorem dX1_solution_14 : decode cX1_solution 14 = .ok (.getfield 42, 3) := by decide +kernel
theorem dX1_solution_17 : decode cX1_solution 17 = .ok (.if_icmp .lt 7, 3) := by decide +kernel
theorem dX1_solution_20 : decode cX1_solution 20 = .ok (.ldc2_w 70, 3) := by decide +kernel
theorem dX1_solution_23 : decode cX1_solution 23 = .ok (.lreturn, 1) := by decide +kernel
theorem dX1_solution_24 : decode cX1_solution 24 = .ok (.aload_n 0, 1) := by decide +kernel
theorem dX1_solution_25 : decode cX1_solution 25 = .ok (.getfield 30, 3) := by decide +kernel
theorem dX1_solution_28 : decode cX1_solution 28 = .ok (.aload_n 0, 1) := by decide +kernel
theorem dX1_solution_29 : decode cX1_solution 29 = .ok (.getfield 46, 3) := by decide +kernel
theorem dX1_solution_32 : decode cX1_solution 32 = .ok (.iload_n 1, 1) := by decide +kernel
theorem dX1_solution_33 : decode cX1_solution 33 = .ok (.iadd, 1) := by decide +kernel
theorem dX1_solution_34 : decode cX1_solution 34 = .ok (.laload, 1) := by decide +kernel
theorem dX1_solution_35 : decode cX1_solution 35 = .ok (.lreturn, 1) := by decide +kernel
theorem dX1_basis_0 : decode cX1_basis 0 = .ok (.iload_n 1, 1) := by decide +kernel
theorem dX1_basis_1 : decode cX1_basis 1 = .ok (.ifCond .lt 23, 3) := by decide +kernel
theorem dX1_basis_4 : decode cX1_basis 4 = .ok (.iload_n 1, 1) := by decide +kernel
theorem dX1_basis_5 : decode cX1_basis 5 = .ok (.aload_n 0, 1) := by decide +kernel
theorem dX1_basis_6 : decode cX1_basis 6 = .ok (.invokevirtual 66, 3) := by decide +kernel
theorem dX1_basis_9 : decode cX1_basis 9 = .ok (.if_icmp .ge 15, 3) := by decide +kernel
theorem dX1_basis_12 : decode cX1_basis 12 = .ok (.iload_n 2, 1) := by decide +kernel
theorem dX1_basis_13 : decode cX1_basis 13 = .ok (.ifCond .lt 11, 3) := by decide +kernel
theorem dX1_basis_16 : decode cX1_basis 16 = .ok (.iload_n 2, 1) := by decide +kernel
theorem dX1_basis_17 : decode cX1_basis 17 = .ok (.aload_n 0, 1) := by decide +kernel
theorem dX1_basis_18 : decode cX1_basis 18 = .ok (.getfield 42, 3) := by decide +kernel
theorem dX1_basis_21 : decode cX1_basis 21 = .ok (.if_icmp .lt 7, 3) := by decide +kernel
theorem dX1_basis_24 : decode cX1_basis 24 = .ok (.ldc2_w 70, 3) := by decide +kernel
theorem dX1_basis_27 : decode cX1_basis 27 = .ok (.lreturn, 1) := by decide +kernel
theorem dX1_basis_28 : decode cX1_basis 28 = .ok (.aload_n 0, 1) := by decide +kernel
theorem dX1_basis_29 : decode cX1_basis 29 = .ok (.iload_n 1, 1) := by decide +kernel
theorem dX1_basis_30 : decode cX1_basis 30 = .ok (.iload_n 2, 1) := by decide +kernel
theorem dX1_basis_31 : decode cX1_basis 31 = .ok (.invokevirtual 72, 3) := by decide +kernel
theorem dX1_basis_34 : decode cX1_basis 34 = .ok (.lreturn, 1) := by decide +kernel
theorem dX1_count_0 : decode cX1_count 0 = .ok (.iload_n 1, 1) := by decide +kernel
theorem dX1_count_1 : decode cX1_count 1 = .ok (.tableswitch 51 0 3 #[31, 36, 41, 46], 31) := by decide +kernel
theorem dX1_count_32 : decode cX1_count 32 = .ok (.aload_n 0, 1) := by decide +kernel
theorem dX1_count_33 : decode cX1_count 33 = .ok (.getfield 76, 3) := by decide +kernel
theorem dX1_count_36 : decode cX1_count 36 = .ok (.ireturn, 1) := by decide +kernel
theorem dX1_count_37 : decode cX1_count 37 = .ok (.aload_n 0, 1) := by decide +kernel
theorem dX1_count_38 : decode cX1_count 38 = .ok (.invokevirtual 66, 3) := by decide +kernel
theorem dX1_count_41 : decode cX1_count 41 = .ok (.ireturn, 1) := by decide +kernel
theorem dX1_count_42 : decode cX1_count 42 = .ok (.aload_n 0, 1) := by decide +kernel
theorem dX1_count_43 : decode cX1_count 43 = .ok (.getfield 46, 3) := by decide +kernel
theorem dX1_count_46 : decode cX1_count 46 = .ok (.ireturn, 1) := by decide +kernel
theorem dX1_count_47 : decode cX1_count 47 = .ok (.aload_n 0, 1) := by decide +kernel
theorem dX1_count_48 : decode cX1_count 48 = .ok (.getfield 42, 3) := by decide +kernel
theorem dX1_count_51 : decode cX1_count 51 = .ok (.ireturn, 1) := by decide +kernel
theorem dX1_count_52 : decode cX1_count 52 = .ok (.iconst (-1), 1) := by decide +kernel
theorem dX1_count_53 : decode cX1_count 53 = .ok (.ireturn, 1) := by decide +kernel
theorem dX1_reach_0 : decode cX1_reach 0 = .ok (.iload_n 1, 1) := by decide +kernel
theorem dX1_reach_1 : decode cX1_reach 1 = .ok (.ifCond .lt 23, 3) := by decide +kernel
theorem dX1_reach_4 : decode cX1_reach 4 = .ok (.iload_n 1, 1) := by decide +kernel
theorem dX1_reach_5 : decode cX1_reach 5 = .ok (.aload_n 0, 1) := by decide +kernel
theorem dX1_reach_6 : decode cX1_reach 6 = .ok (.getfield 76, 3) := by decide +kernel
theorem dX1_reach_9 : decode cX1_reach 9 = .ok (.if_icmp .ge 15, 3) := by decide +kernel
theorem dX1_reach_12 : decode cX1_reach 12 = .ok (.iload_n 2, 1) := by decide +kernel
theorem dX1_reach_13 : decode cX1_reach 13 = .ok (.ifCond .lt 11, 3) := by decide +kernel
theorem dX1_reach_16 : decode cX1_reach 16 = .ok (.iload_n 2, 1) := by decide +kernel
theorem dX1_reach_17 : decode cX1_reach 17 = .ok (.aload_n 0, 1) := by decide +kernel
theorem dX1_reach_18 : decode cX1_reach 18 = .ok (.getfield 46, 3) := by decide +kernel
theorem dX1_reach_21 : decode cX1_reach 21 = .ok (.if_icmp .lt 7, 3) := by decide +kernel
theorem dX1_reach_24 : decode cX1_reach 24 = .ok (.ldc2_w 70, 3) := by decide +kernel
theorem dX1_reach_27 : decode cX1_reach 27 = .ok (.lreturn, 1) := by decide +kernel
theorem dX1_reach_28 : decode cX1_reach 28 = .ok (.aload_n 0, 1) := by decide +kernel
theorem dX1_reach_29 : decode cX1_reach 29 = .ok (.getfield 23, 3) := by decide +kernel
theorem dX1_reach_32 : decode cX1_reach 32 = .ok (.iload_n 1, 1) := by decide +kernel
theorem dX1_reach_33 : decode cX1_reach 33 = .ok (.iload_n 2, 1) := by decide +kernel
theorem dX1_reach_34 : decode cX1_reach 34 = .ok (.invokevirtual 79, 3) := by decide +kernel
theorem dX1_reach_37 : decode cX1_reach 37 = .ok (.lreturn, 1) := by decide +kernel
theorem dX1_reached_0 : decode cX1_reached 0 = .ok (.aload_n 0, 1) := by decide +kernel
theorem dX1_reached_1 : decode cX1_reached 1 = .ok (.getfield 34, 3) := by decide +kernel
theorem dX1_reached_4 : decode cX1_reached 4 = .ok (.invokestatic 82, 3) := by decide +kernel
theorem dX1_reached_7 : decode cX1_reached 7 = .ok (.aload_n 0, 1) := by decide +kernel
theorem dX1_reached_8 : decode cX1_reached 8 = .ok (.getfield 34, 3) := by decide +kernel
theorem dX1_reached_11 : decode cX1_reached 11 = .ok (.iconst 0, 1) := by decide +kernel
theorem dX1_reached_12 : decode cX1_reached 12 = .ok (.iload_n 1, 1) := by decide +kernel
theorem dX1_reached_13 : decode cX1_reached 13 = .ok (.i2l, 1) := by decide +kernel
theorem dX1_reached_14 : decode cX1_reached 14 = .ok (.lastore, 1) := by decide +kernel
theorem dX1_reached_15 : decode cX1_reached 15 = .ok (.aload_n 0, 1) := by decide +kernel
theorem dX1_reached_16 : decode cX1_reached 16 = .ok (.getfield 34, 3) := by decide +kernel
theorem dX1_reached_19 : decode cX1_reached 19 = .ok (.iconst 1, 1) := by decide +kernel
theorem dX1_reached_20 : decode cX1_reached 20 = .ok (.iload_n 2, 1) := by decide +kernel
theorem dX1_reached_21 : decode cX1_reached 21 = .ok (.i2l, 1) := by decide +kernel
theorem dX1_reached_22 : decode cX1_reached 22 = .ok (.lastore, 1) := by decide +kernel
theorem dX1_reached_23 : decode cX1_reached 23 = .ok (.aload_n 0, 1) := by decide +kernel
theorem dX1_reached_24 : decode cX1_reached 24 = .ok (.getfield 34, 3) := by decide +kernel
theorem dX1_reached_27 : decode cX1_reached 27 = .ok (.iconst 2, 1) := by decide +kernel
theorem dX1_reached_28 : decode cX1_reached 28 = .ok (.iload_n 3, 1) := by decide +kernel
theorem dX1_reached_29 : decode cX1_reached 29 = .ok (.i2l, 1) := by decide +kernel
theorem dX1_reached_30 : decode cX1_reached 30 = .ok (.lastore, 1) := by decide +kernel
theorem dX1_reached_31 : decode cX1_reached 31 = .ok (.aload_n 0, 1) := by decide +kernel
theorem dX1_reached_32 : decode cX1_reached 32 = .ok (.getfield 23, 3) := by decide +kernel
theorem dX1_reached_35 : decode cX1_reached 35 = .ok (.aload_n 0, 1) := by decide +kernel
theorem dX1_reached_36 : decode cX1_reached 36 = .ok (.getfield 34, 3) := by decide +kernel
theorem dX1_reached_39 : decode cX1_reached 39 = .ok (.invokevirtual 86, 3) := by decide +kernel
theorem dX1_reached_42 : decode cX1_reached 42 = .ok (.aload_n 0, 1) := by decide +kernel
theorem dX1_reached_43 : decode cX1_reached 43 = .ok (.aload_n 0, 1) := by decide +kernel
theorem dX1_reached_44 : decode cX1_reached 44 = .ok (.getfield 34, 3) := by decide +kernel
theorem dX1_reached_47 : decode cX1_reached 47 = .ok (.invokevirtual 89, 3) := by decide +kernel
theorem dX1_reached_50 : decode cX1_reached 50 = .ok (.iconst (-1), 1) := by decide +kernel
theorem dX1_reached_51 : decode cX1_reached 51 = .ok (.if_icmp .ne 7, 3) := by decide +kernel
theorem dX1_reached_54 : decode cX1_reached 54 = .ok (.iconst 1, 1) := by decide +kernel
theorem dX1_reached_55 : decode cX1_reached 55 = .ok (.goto 4, 3) := by decide +kernel
theorem dX1_reached_58 : decode cX1_reached 58 = .ok (.iconst 0, 1) := by decide +kernel
theorem dX1_reached_59 : decode cX1_reached 59 = .ok (.ireturn, 1) := by decide +kernel
theorem dX1_invariant_0 : decode cX1_invariant 0 = .ok (.iload_n 1, 1) := by decide +kernel
theorem dX1_invariant_1 : decode cX1_invariant 1 = .ok (.iconst 1, 1) := by decide +kernel
theorem dX1_invariant_2 : decode cX1_invariant 2 = .ok (.if_icmp .lt 19, 3) := by decide +kernel
theorem dX1_invariant_5 : decode cX1_invariant 5 = .ok (.iload_n 1, 1) := by decide +kernel
theorem dX1_invariant_6 : decode cX1_invariant 6 = .ok (.aload_n 0, 1) := by decide +kernel
theorem dX1_invariant_7 : decode cX1_invariant 7 = .ok (.getfield 46, 3) := by decide +kernel
theorem dX1_invariant_10 : decode cX1_invariant 10 = .ok (.if_icmp .gt 11, 3) := by decide +kernel
theorem dX1_invariant_13 : decode cX1_invariant 13 = .ok (.iload_n 1, 1) := by decide +kernel
theorem dX1_invariant_14 : decode cX1_invariant 14 = .ok (.aload_n 0, 1) := by decide +kernel
theorem dX1_invariant_15 : decode cX1_invariant 15 = .ok (.getfield 42, 3) := by decide +kernel
theorem dX1_invariant_18 : decode cX1_invariant 18 = .ok (.if_icmp .le 7, 3) := by decide +kernel
theorem dX1_invariant_21 : decode cX1_invariant 21 = .ok (.ldc2_w 70, 3) := by decide +kernel
theorem dX1_invariant_24 : decode cX1_invariant 24 = .ok (.lreturn, 1) := by decide +kernel
theorem dX1_invariant_25 : decode cX1_invariant 25 = .ok (.aload_n 0, 1) := by decide +kernel
theorem dX1_invariant_26 : decode cX1_invariant 26 = .ok (.iload_n 1, 1) := by decide +kernel
theorem dX1_invariant_27 : decode cX1_invariant 27 = .ok (.invokevirtual 93, 3) := by decide +kernel
theorem dX1_invariant_30 : decode cX1_invariant 30 = .ok (.lstore_n 2, 1) := by decide +kernel
theorem dX1_invariant_31 : decode cX1_invariant 31 = .ok (.aload_n 0, 1) := by decide +kernel
theorem dX1_invariant_32 : decode cX1_invariant 32 = .ok (.iload_n 1, 1) := by decide +kernel
theorem dX1_invariant_33 : decode cX1_invariant 33 = .ok (.iconst 1, 1) := by decide +kernel
theorem dX1_invariant_34 : decode cX1_invariant 34 = .ok (.isub, 1) := by decide +kernel
theorem dX1_invariant_35 : decode cX1_invariant 35 = .ok (.invokevirtual 93, 3) := by decide +kernel
theorem dX1_invariant_38 : decode cX1_invariant 38 = .ok (.lstore 4, 2) := by decide +kernel
theorem dX1_invariant_40 : decode cX1_invariant 40 = .ok (.lload 4, 2) := by decide +kernel
theorem dX1_invariant_42 : decode cX1_invariant 42 = .ok (.lconst 0, 1) := by decide +kernel
theorem dX1_invariant_43 : decode cX1_invariant 43 = .ok (.lcmp, 1) := by decide +kernel
theorem dX1_invariant_44 : decode cX1_invariant 44 = .ok (.ifCond .ne 7, 3) := by decide +kernel
theorem dX1_invariant_47 : decode cX1_invariant 47 = .ok (.lconst 0, 1) := by decide +kernel
theorem dX1_invariant_48 : decode cX1_invariant 48 = .ok (.goto 7, 3) := by decide +kernel
theorem dX1_invariant_51 : decode cX1_invariant 51 = .ok (.lload_n 2, 1) := by decide +kernel
theorem dX1_invariant_52 : decode cX1_invariant 52 = .ok (.lload 4, 2) := by decide +kernel
theorem dX1_invariant_54 : decode cX1_invariant 54 = .ok (.ldiv, 1) := by decide +kernel
theorem dX1_invariant_55 : decode cX1_invariant 55 = .ok (.lreturn, 1) := by decide +kernel
theorem dX1_box_0 : decode cX1_box 0 = .ok (.iload_n 1, 1) := by decide +kernel
theorem dX1_box_1 : decode cX1_box 1 = .ok (.bipush (-12), 2) := by decide +kernel
theorem dX1_box_3 : decode cX1_box 3 = .ok (.if_icmp .lt 14, 3) := by decide +kernel
theorem dX1_box_6 : decode cX1_box 6 = .ok (.iload_n 2, 1) := by decide +kernel
theorem dX1_box_7 : decode cX1_box 7 = .ok (.bipush 12, 2) := by decide +kernel
theorem dX1_box_9 : decode cX1_box 9 = .ok (.if_icmp .gt 8, 3) := by decide +kernel
theorem dX1_box_12 : decode cX1_box 12 = .ok (.iload_n 2, 1) := by decide +kernel
theorem dX1_box_13 : decode cX1_box 13 = .ok (.iload_n 1, 1) := by decide +kernel
theorem dX1_box_14 : decode cX1_box 14 = .ok (.if_icmp .ge 5, 3) := by decide +kernel
theorem dX1_box_17 : decode cX1_box 17 = .ok (.iconst (-1), 1) := by decide +kernel
theorem dX1_box_18 : decode cX1_box 18 = .ok (.ireturn, 1) := by decide +kernel
theorem dX1_box_19 : decode cX1_box 19 = .ok (.aload_n 0, 1) := by decide +kernel
theorem dX1_box_20 : decode cX1_box 20 = .ok (.getfield 63, 3) := by decide +kernel
theorem dX1_box_23 : decode cX1_box 23 = .ok (.iconst (-1), 1) := by decide +kernel
theorem dX1_box_24 : decode cX1_box 24 = .ok (.if_icmp .eq 5, 3) := by decide +kernel
theorem dX1_box_27 : decode cX1_box 27 = .ok (.iconst 0, 1) := by decide +kernel
theorem dX1_box_28 : decode cX1_box 28 = .ok (.ireturn, 1) := by decide +kernel
theorem dX1_box_29 : decode cX1_box 29 = .ok (.iconst 0, 1) := by decide +kernel
theorem dX1_box_30 : decode cX1_box 30 = .ok (.istore_n 3, 1) := by decide +kernel
theorem dX1_box_31 : decode cX1_box 31 = .ok (.iload_n 3, 1) := by decide +kernel
theorem dX1_box_32 : decode cX1_box 32 = .ok (.aload_n 0, 1) := by decide +kernel
theorem dX1_box_33 : decode cX1_box 33 = .ok (.getfield 42, 3) := by decide +kernel
theorem dX1_box_36 : decode cX1_box 36 = .ok (.if_icmp .ge 28, 3) := by decide +kernel
theorem dX1_box_39 : decode cX1_box 39 = .ok (.aload_n 0, 1) := by decide +kernel
theorem dX1_box_40 : decode cX1_box 40 = .ok (.getfield 39, 3) := by decide +kernel
theorem dX1_box_43 : decode cX1_box 43 = .ok (.iconst 0, 1) := by decide +kernel
theorem dX1_box_44 : decode cX1_box 44 = .ok (.aaload, 1) := by decide +kernel
theorem dX1_box_45 : decode cX1_box 45 = .ok (.iload_n 3, 1) := by decide +kernel
theorem dX1_box_46 : decode cX1_box 46 = .ok (.aload_n 0, 1) := by decide +kernel
theorem dX1_box_47 : decode cX1_box 47 = .ok (.getfield 30, 3) := by decide +kernel
theorem dX1_box_50 : decode cX1_box 50 = .ok (.aload_n 0, 1) := by decide +kernel
theorem dX1_box_51 : decode cX1_box 51 = .ok (.getfield 46, 3) := by decide +kernel
theorem dX1_box_54 : decode cX1_box 54 = .ok (.iload_n 3, 1) := by decide +kernel
theorem dX1_box_55 : decode cX1_box 55 = .ok (.iadd, 1) := by decide +kernel
theorem dX1_box_56 : decode cX1_box 56 = .ok (.laload, 1) := by decide +kernel
theorem dX1_box_57 : decode cX1_box 57 = .ok (.lastore, 1) := by decide +kernel
theorem dX1_box_58 : decode cX1_box 58 = .ok (.iinc 3 1, 3) := by decide +kernel
theorem dX1_box_61 : decode cX1_box 61 = .ok (.goto (-30), 3) := by decide +kernel
theorem dX1_box_64 : decode cX1_box 64 = .ok (.aload_n 0, 1) := by decide +kernel
theorem dX1_box_65 : decode cX1_box 65 = .ok (.iload_n 1, 1) := by decide +kernel
theorem dX1_box_66 : decode cX1_box 66 = .ok (.iload_n 2, 1) := by decide +kernel
theorem dX1_box_67 : decode cX1_box 67 = .ok (.invokevirtual 97, 3) := by decide +kernel
theorem dX1_box_70 : decode cX1_box 70 = .ok (.ifCond .eq 14, 3) := by decide +kernel
theorem dX1_box_73 : decode cX1_box 73 = .ok (.aload_n 0, 1) := by decide +kernel
theorem dX1_box_74 : decode cX1_box 74 = .ok (.iconst 0, 1) := by decide +kernel
theorem dX1_box_75 : decode cX1_box 75 = .ok (.iload_n 1, 1) := by decide +kernel
theorem dX1_box_76 : decode cX1_box 76 = .ok (.iload_n 2, 1) := by decide +kernel
theorem dX1_box_77 : decode cX1_box 77 = .ok (.invokevirtual 100, 3) := by decide +kernel
theorem dX1_box_80 : decode cX1_box 80 = .ok (.l2i, 1) := by decide +kernel
theorem dX1_box_81 : decode cX1_box 81 = .ok (.goto 4, 3) := by decide +kernel
theorem dX1_box_84 : decode cX1_box 84 = .ok (.iconst 0, 1) := by decide +kernel
theorem dX1_box_85 : decode cX1_box 85 = .ok (.ireturn, 1) := by decide +kernel
theorem dX1_modulo_0 : decode cX1_modulo 0 = .ok (.iload_n 1, 1) := by decide +kernel
theorem dX1_modulo_1 : decode cX1_modulo 1 = .ok (.iconst 1, 1) := by decide +kernel
theorem dX1_modulo_2 : decode cX1_modulo 2 = .ok (.if_icmp .lt 9, 3) := by decide +kernel
theorem dX1_modulo_5 : decode cX1_modulo 5 = .ok (.iload_n 1, 1) := by decide +kernel
theorem dX1_modulo_6 : decode cX1_modulo 6 = .ok (.bipush 40, 2) := by decide +kernel
theorem dX1_modulo_8 : decode cX1_modulo 8 = .ok (.if_icmp .le 5, 3) := by decide +kernel
theorem dX1_modulo_11 : decode cX1_modulo 11 = .ok (.iconst (-1), 1) := by decide +kernel
theorem dX1_modulo_12 : decode cX1_modulo 12 = .ok (.ireturn, 1) := by decide +kernel
theorem dX1_modulo_13 : decode cX1_modulo 13 = .ok (.aload_n 0, 1) := by decide +kernel
theorem dX1_modulo_14 : decode cX1_modulo 14 = .ok (.iload_n 1, 1) := by decide +kernel
theorem dX1_modulo_15 : decode cX1_modulo 15 = .ok (.invokevirtual 104, 3) := by decide +kernel
theorem dX1_modulo_18 : decode cX1_modulo 18 = .ok (.aload_n 0, 1) := by decide +kernel
theorem dX1_modulo_19 : decode cX1_modulo 19 = .ok (.getfield 34, 3) := by decide +kernel
theorem dX1_modulo_22 : decode cX1_modulo 22 = .ok (.invokestatic 82, 3) := by decide +kernel
theorem dX1_modulo_25 : decode cX1_modulo 25 = .ok (.iconst 0, 1) := by decide +kernel
theorem dX1_modulo_26 : decode cX1_modulo 26 = .ok (.istore_n 2, 1) := by decide +kernel
theorem dX1_modulo_27 : decode cX1_modulo 27 = .ok (.iload_n 2, 1) := by decide +kernel
theorem dX1_modulo_28 : decode cX1_modulo 28 = .ok (.aload_n 0, 1) := by decide +kernel
theorem dX1_modulo_29 : decode cX1_modulo 29 = .ok (.getfield 46, 3) := by decide +kernel
theorem dX1_modulo_32 : decode cX1_modulo 32 = .ok (.if_icmp .ge 22, 3) := by decide +kernel
theorem dX1_modulo_35 : decode cX1_modulo 35 = .ok (.aload_n 0, 1) := by decide +kernel
theorem dX1_modulo_36 : decode cX1_modulo 36 = .ok (.getfield 34, 3) := by decide +kernel
theorem dX1_modulo_39 : decode cX1_modulo 39 = .ok (.iload_n 2, 1) := by decide +kernel
theorem dX1_modulo_40 : decode cX1_modulo 40 = .ok (.aload_n 0, 1) := by decide +kernel
theorem dX1_modulo_41 : decode cX1_modulo 41 = .ok (.getfield 14, 3) := by decide +kernel
theorem dX1_modulo_44 : decode cX1_modulo 44 = .ok (.iload_n 2, 1) := by decide +kernel
theorem dX1_modulo_45 : decode cX1_modulo 45 = .ok (.iaload, 1) := by decide +kernel
theorem dX1_modulo_46 : decode cX1_modulo 46 = .ok (.i2l, 1) := by decide +kernel
theorem dX1_modulo_47 : decode cX1_modulo 47 = .ok (.lastore, 1) := by decide +kernel
theorem dX1_modulo_48 : decode cX1_modulo 48 = .ok (.iinc 2 1, 3) := by decide +kernel
theorem dX1_modulo_51 : decode cX1_modulo 51 = .ok (.goto (-24), 3) := by decide +kernel
theorem dX1_modulo_54 : decode cX1_modulo 54 = .ok (.aload_n 0, 1) := by decide +kernel
theorem dX1_modulo_55 : decode cX1_modulo 55 = .ok (.getfield 27, 3) := by decide +kernel
theorem dX1_modulo_58 : decode cX1_modulo 58 = .ok (.aload_n 0, 1) := by decide +kernel
theorem dX1_modulo_59 : decode cX1_modulo 59 = .ok (.getfield 34, 3) := by decide +kernel
theorem dX1_modulo_62 : decode cX1_modulo 62 = .ok (.invokevirtual 86, 3) := by decide +kernel
theorem dX1_modulo_65 : decode cX1_modulo 65 = .ok (.aload_n 0, 1) := by decide +kernel
theorem dX1_modulo_66 : decode cX1_modulo 66 = .ok (.aload_n 0, 1) := by decide +kernel
theorem dX1_modulo_67 : decode cX1_modulo 67 = .ok (.getfield 34, 3) := by decide +kernel
theorem dX1_modulo_70 : decode cX1_modulo 70 = .ok (.invokevirtual 89, 3) := by decide +kernel
theorem dX1_modulo_73 : decode cX1_modulo 73 = .ok (.iconst (-1), 1) := by decide +kernel
theorem dX1_modulo_74 : decode cX1_modulo 74 = .ok (.if_icmp .ne 12, 3) := by decide +kernel
theorem dX1_modulo_77 : decode cX1_modulo 77 = .ok (.aload_n 0, 1) := by decide +kernel
theorem dX1_modulo_78 : decode cX1_modulo 78 = .ok (.iload_n 1, 1) := by decide +kernel
theorem dX1_modulo_79 : decode cX1_modulo 79 = .ok (.invokevirtual 108, 3) := by decide +kernel
theorem dX1_modulo_82 : decode cX1_modulo 82 = .ok (.l2i, 1) := by decide +kernel
theorem dX1_modulo_83 : decode cX1_modulo 83 = .ok (.goto 4, 3) := by decide +kernel
theorem dX1_modulo_86 : decode cX1_modulo 86 = .ok (.iconst 0, 1) := by decide +kernel
theorem dX1_modulo_87 : decode cX1_modulo 87 = .ok (.ireturn, 1) := by decide +kernel
theorem dX1_spread_0 : decode cX1_spread 0 = .ok (.aload_n 0, 1) := by decide +kernel
theorem dX1_spread_1 : decode cX1_spread 1 = .ok (.getfield 63, 3) := by decide +kernel
theorem dX1_spread_4 : decode cX1_spread 4 = .ok (.iconst (-1), 1) := by decide +kernel
theorem dX1_spread_5 : decode cX1_spread 5 = .ok (.if_icmp .eq 7, 3) := by decide +kernel
theorem dX1_spread_8 : decode cX1_spread 8 = .ok (.ldc2_w 111, 3) := by decide +kernel
theorem dX1_spread_11 : decode cX1_spread 11 = .ok (.lreturn, 1) := by decide +kernel
theorem dX1_spread_12 : decode cX1_spread 12 = .ok (.lconst 0, 1) := by decide +kernel
theorem dX1_spread_13 : decode cX1_spread 13 = .ok (.lstore_n 1, 1) := by decide +kernel
theorem dX1_spread_14 : decode cX1_spread 14 = .ok (.iconst 0, 1) := by decide +kernel
theorem dX1_spread_15 : decode cX1_spread 15 = .ok (.istore_n 3, 1) := by decide +kernel
theorem dX1_spread_16 : decode cX1_spread 16 = .ok (.iload_n 3, 1) := by decide +kernel
theorem dX1_spread_17 : decode cX1_spread 17 = .ok (.aload_n 0, 1) := by decide +kernel
theorem dX1_spread_18 : decode cX1_spread 18 = .ok (.invokevirtual 66, 3) := by decide +kernel
theorem dX1_spread_21 : decode cX1_spread 21 = .ok (.if_icmp .ge 39, 3) := by decide +kernel
theorem dX1_spread_24 : decode cX1_spread 24 = .ok (.iconst 0, 1) := by decide +kernel
theorem dX1_spread_25 : decode cX1_spread 25 = .ok (.istore 4, 2) := by decide +kernel
theorem dX1_spread_27 : decode cX1_spread 27 = .ok (.iload 4, 2) := by decide +kernel
theorem dX1_spread_29 : decode cX1_spread 29 = .ok (.aload_n 0, 1) := by decide +kernel
theorem dX1_spread_30 : decode cX1_spread 30 = .ok (.getfield 42, 3) := by decide +kernel
theorem dX1_spread_33 : decode cX1_spread 33 = .ok (.if_icmp .ge 21, 3) := by decide +kernel
theorem dX1_spread_36 : decode cX1_spread 36 = .ok (.lload_n 1, 1) := by decide +kernel
theorem dX1_spread_37 : decode cX1_spread 37 = .ok (.aload_n 0, 1) := by decide +kernel
theorem dX1_spread_38 : decode cX1_spread 38 = .ok (.iload_n 3, 1) := by decide +kernel
theorem dX1_spread_39 : decode cX1_spread 39 = .ok (.iload 4, 2) := by decide +kernel
theorem dX1_spread_41 : decode cX1_spread 41 = .ok (.invokevirtual 72, 3) := by decide +kernel
theorem dX1_spread_44 : decode cX1_spread 44 = .ok (.invokestatic 113, 3) := by decide +kernel
theorem dX1_spread_47 : decode cX1_spread 47 = .ok (.lstore_n 1, 1) := by decide +kernel
theorem dX1_spread_48 : decode cX1_spread 48 = .ok (.iinc 4 1, 3) := by decide +kernel
theorem dX1_spread_51 : decode cX1_spread 51 = .ok (.goto (-24), 3) := by decide +kernel
theorem dX1_spread_54 : decode cX1_spread 54 = .ok (.iinc 3 1, 3) := by decide +kernel
theorem dX1_spread_57 : decode cX1_spread 57 = .ok (.goto (-41), 3) := by decide +kernel
theorem dX1_spread_60 : decode cX1_spread 60 = .ok (.lload_n 1, 1) := by decide +kernel
theorem dX1_spread_61 : decode cX1_spread 61 = .ok (.lreturn, 1) := by decide +kernel
theorem dX1_check_0 : decode cX1_check 0 = .ok (.aload_n 0, 1) := by decide +kernel
theorem dX1_check_1 : decode cX1_check 1 = .ok (.getfield 63, 3) := by decide +kernel
theorem dX1_check_4 : decode cX1_check 4 = .ok (.iconst (-1), 1) := by decide +kernel
theorem dX1_check_5 : decode cX1_check 5 = .ok (.if_icmp .ne 10, 3) := by decide +kernel
theorem dX1_check_8 : decode cX1_check 8 = .ok (.aload_n 0, 1) := by decide +kernel
theorem dX1_check_9 : decode cX1_check 9 = .ok (.invokevirtual 117, 3) := by decide +kernel
theorem dX1_check_12 : decode cX1_check 12 = .ok (.ifCond .eq 7, 3) := by decide +kernel
theorem dX1_check_15 : decode cX1_check 15 = .ok (.iconst 1, 1) := by decide +kernel
theorem dX1_check_16 : decode cX1_check 16 = .ok (.goto 4, 3) := by decide +kernel
theorem dX1_check_19 : decode cX1_check 19 = .ok (.iconst 0, 1) := by decide +kernel
theorem dX1_check_20 : decode cX1_check 20 = .ok (.istore_n 1, 1) := by decide +kernel
theorem dX1_check_21 : decode cX1_check 21 = .ok (.iconst 0, 1) := by decide +kernel
theorem dX1_check_22 : decode cX1_check 22 = .ok (.istore_n 2, 1) := by decide +kernel
theorem dX1_check_23 : decode cX1_check 23 = .ok (.iload_n 2, 1) := by decide +kernel
theorem dX1_check_24 : decode cX1_check 24 = .ok (.aload_n 0, 1) := by decide +kernel
theorem dX1_check_25 : decode cX1_check 25 = .ok (.getfield 42, 3) := by decide +kernel
theorem dX1_check_28 : decode cX1_check 28 = .ok (.if_icmp .ge 27, 3) := by decide +kernel
theorem dX1_check_31 : decode cX1_check 31 = .ok (.iload_n 1, 1) := by decide +kernel
theorem dX1_check_32 : decode cX1_check 32 = .ok (.ifCond .eq 15, 3) := by decide +kernel
theorem dX1_check_35 : decode cX1_check 35 = .ok (.aload_n 0, 1) := by decide +kernel
theorem dX1_check_36 : decode cX1_check 36 = .ok (.iload_n 2, 1) := by decide +kernel
theorem dX1_check_37 : decode cX1_check 37 = .ok (.invokevirtual 121, 3) := by decide +kernel
theorem dX1_check_40 : decode cX1_check 40 = .ok (.ifCond .eq 7, 3) := by decide +kernel
theorem dX1_check_43 : decode cX1_check 43 = .ok (.iconst 1, 1) := by decide +kernel
theorem dX1_check_44 : decode cX1_check 44 = .ok (.goto 4, 3) := by decide +kernel
theorem dX1_check_47 : decode cX1_check 47 = .ok (.iconst 0, 1) := by decide +kernel
theorem dX1_check_48 : decode cX1_check 48 = .ok (.istore_n 1, 1) := by decide +kernel
theorem dX1_check_49 : decode cX1_check 49 = .ok (.iinc 2 1, 3) := by decide +kernel
theorem dX1_check_52 : decode cX1_check 52 = .ok (.goto (-29), 3) := by decide +kernel
theorem dX1_check_55 : decode cX1_check 55 = .ok (.iload_n 1, 1) := by decide +kernel
theorem dX1_check_56 : decode cX1_check 56 = .ok (.ifCond .eq 7, 3) := by decide +kernel
theorem dX1_check_59 : decode cX1_check 59 = .ok (.iconst 1, 1) := by decide +kernel
theorem dX1_check_60 : decode cX1_check 60 = .ok (.goto 4, 3) := by decide +kernel
theorem dX1_check_63 : decode cX1_check 63 = .ok (.iconst 0, 1) := by decide +kernel
theorem dX1_check_64 : decode cX1_check 64 = .ok (.ireturn, 1) := by decide +kernel
theorem dX1_isSum_0 : decode cX1_isSum 0 = .ok (.iload_n 0, 1) := by decide +kernel
theorem dX1_isSum_1 : decode cX1_isSum 1 = .ok (.sipush (-1000), 3) := by decide +kernel
theorem dX1_isSum_4 : decode cX1_isSum 4 = .ok (.if_icmp .lt 14, 3) := by decide +kernel
theorem dX1_isSum_7 : decode cX1_isSum 7 = .ok (.iload_n 0, 1) := by decide +kernel
theorem dX1_isSum_8 : decode cX1_isSum 8 = .ok (.sipush 1000, 3) := by decide +kernel
theorem dX1_isSum_11 : decode cX1_isSum 11 = .ok (.if_icmp .gt 7, 3) := by decide +kernel
theorem dX1_isSum_14 : decode cX1_isSum 14 = .ok (.iconst 1, 1) := by decide +kernel
theorem dX1_isSum_15 : decode cX1_isSum 15 = .ok (.goto 4, 3) := by decide +kernel
theorem dX1_isSum_18 : decode cX1_isSum 18 = .ok (.iconst 0, 1) := by decide +kernel
theorem dX1_isSum_19 : decode cX1_isSum 19 = .ok (.ireturn, 1) := by decide +kernel
theorem dX1_isFactor_0 : decode cX1_isFactor 0 = .ok (.iload_n 1, 1) := by decide +kernel
theorem dX1_isFactor_1 : decode cX1_isFactor 1 = .ok (.aload_n 0, 1) := by decide +kernel
theorem dX1_isFactor_2 : decode cX1_isFactor 2 = .ok (.getfield 42, 3) := by decide +kernel
theorem dX1_isFactor_5 : decode cX1_isFactor 5 = .ok (.if_icmp .ge 15, 3) := by decide +kernel
theorem dX1_isFactor_8 : decode cX1_isFactor 8 = .ok (.iload_n 2, 1) := by decide +kernel
theorem dX1_isFactor_9 : decode cX1_isFactor 9 = .ok (.bipush (-9), 2) := by decide +kernel
theorem dX1_isFactor_11 : decode cX1_isFactor 11 = .ok (.if_icmp .lt 13, 3) := by decide +kernel
theorem dX1_isFactor_14 : decode cX1_isFactor 14 = .ok (.iload_n 2, 1) := by decide +kernel
theorem dX1_isFactor_15 : decode cX1_isFactor 15 = .ok (.bipush 9, 2) := by decide +kernel
theorem dX1_isFactor_17 : decode cX1_isFactor 17 = .ok (.if_icmp .gt 7, 3) := by decide +kernel
theorem dX1_isFactor_20 : decode cX1_isFactor 20 = .ok (.iconst 1, 1) := by decide +kernel
theorem dX1_isFactor_21 : decode cX1_isFactor 21 = .ok (.goto 4, 3) := by decide +kernel
theorem dX1_isFactor_24 : decode cX1_isFactor 24 = .ok (.iconst 0, 1) := by decide +kernel
theorem dX1_isFactor_25 : decode cX1_isFactor 25 = .ok (.ireturn, 1) := by decide +kernel
theorem dX1_basisRows_0 : decode cX1_basisRows 0 = .ok (.aload_n 0, 1) := by decide +kernel
theorem dX1_basisRows_1 : decode cX1_basisRows 1 = .ok (.getfield 42, 3) := by decide +kernel
theorem dX1_basisRows_4 : decode cX1_basisRows 4 = .ok (.aload_n 0, 1) := by decide +kernel
theorem dX1_basisRows_5 : decode cX1_basisRows 5 = .ok (.getfield 76, 3) := by decide +kernel
theorem dX1_basisRows_8 : decode cX1_basisRows 8 = .ok (.isub, 1) := by decide +kernel
theorem dX1_basisRows_9 : decode cX1_basisRows 9 = .ok (.ireturn, 1) := by decide +kernel
theorem dX1_basisNumber_0 : decode cX1_basisNumber 0 = .ok (.aload_n 0, 1) := by decide +kernel
theorem dX1_basisNumber_1 : decode cX1_basisNumber 1 = .ok (.getfield 23, 3) := by decide +kernel
theorem dX1_basisNumber_4 : decode cX1_basisNumber 4 = .ok (.aload_n 0, 1) := by decide +kernel
theorem dX1_basisNumber_5 : decode cX1_basisNumber 5 = .ok (.getfield 76, 3) := by decide +kernel
theorem dX1_basisNumber_8 : decode cX1_basisNumber 8 = .ok (.iload_n 1, 1) := by decide +kernel
theorem dX1_basisNumber_9 : decode cX1_basisNumber 9 = .ok (.iadd, 1) := by decide +kernel
theorem dX1_basisNumber_10 : decode cX1_basisNumber 10 = .ok (.aload_n 0, 1) := by decide +kernel
theorem dX1_basisNumber_11 : decode cX1_basisNumber 11 = .ok (.getfield 46, 3) := by decide +kernel
theorem dX1_basisNumber_14 : decode cX1_basisNumber 14 = .ok (.iload_n 2, 1) := by decide +kernel
theorem dX1_basisNumber_15 : decode cX1_basisNumber 15 = .ok (.iadd, 1) := by decide +kernel
theorem dX1_basisNumber_16 : decode cX1_basisNumber 16 = .ok (.invokevirtual 79, 3) := by decide +kernel
theorem dX1_basisNumber_19 : decode cX1_basisNumber 19 = .ok (.lreturn, 1) := by decide +kernel
theorem dX1_leadUnknown_0 : decode cX1_leadUnknown 0 = .ok (.iload_n 1, 1) := by decide +kernel
theorem dX1_leadUnknown_1 : decode cX1_leadUnknown 1 = .ok (.aload_n 0, 1) := by decide +kernel
theorem dX1_leadUnknown_2 : decode cX1_leadUnknown 2 = .ok (.invokevirtual 66, 3) := by decide +kernel
theorem dX1_leadUnknown_5 : decode cX1_leadUnknown 5 = .ok (.if_icmp .ge 24, 3) := by decide +kernel
theorem dX1_leadUnknown_8 : decode cX1_leadUnknown 8 = .ok (.aload_n 0, 1) := by decide +kernel
theorem dX1_leadUnknown_9 : decode cX1_leadUnknown 9 = .ok (.getfield 23, 3) := by decide +kernel
theorem dX1_leadUnknown_12 : decode cX1_leadUnknown 12 = .ok (.aload_n 0, 1) := by decide +kernel
theorem dX1_leadUnknown_13 : decode cX1_leadUnknown 13 = .ok (.getfield 76, 3) := by decide +kernel
theorem dX1_leadUnknown_16 : decode cX1_leadUnknown 16 = .ok (.iload_n 1, 1) := by decide +kernel
theorem dX1_leadUnknown_17 : decode cX1_leadUnknown 17 = .ok (.iadd, 1) := by decide +kernel
theorem dX1_leadUnknown_18 : decode cX1_leadUnknown 18 = .ok (.invokevirtual 124, 3) := by decide +kernel
theorem dX1_leadUnknown_21 : decode cX1_leadUnknown 21 = .ok (.aload_n 0, 1) := by decide +kernel
theorem dX1_leadUnknown_22 : decode cX1_leadUnknown 22 = .ok (.getfield 46, 3) := by decide +kernel
theorem dX1_leadUnknown_25 : decode cX1_leadUnknown 25 = .ok (.isub, 1) := by decide +kernel
theorem dX1_leadUnknown_26 : decode cX1_leadUnknown 26 = .ok (.goto 7, 3) := by decide +kernel
theorem dX1_leadUnknown_29 : decode cX1_leadUnknown 29 = .ok (.aload_n 0, 1) := by decide +kernel
theorem dX1_leadUnknown_30 : decode cX1_leadUnknown 30 = .ok (.getfield 42, 3) := by decide +kernel
theorem dX1_leadUnknown_33 : decode cX1_leadUnknown 33 = .ok (.ireturn, 1) := by decide +kernel
theorem dX1_formWhole_0 : decode cX1_formWhole 0 = .ok (.aload_n 0, 1) := by decide +kernel
theorem dX1_formWhole_1 : decode cX1_formWhole 1 = .ok (.getfield 23, 3) := by decide +kernel
theorem dX1_formWhole_4 : decode cX1_formWhole 4 = .ok (.aload_n 0, 1) := by decide +kernel
theorem dX1_formWhole_5 : decode cX1_formWhole 5 = .ok (.getfield 42, 3) := by decide +kernel
theorem dX1_formWhole_8 : decode cX1_formWhole 8 = .ok (.aload_n 0, 1) := by decide +kernel
theorem dX1_formWhole_9 : decode cX1_formWhole 9 = .ok (.getfield 46, 3) := by decide +kernel
theorem dX1_formWhole_12 : decode cX1_formWhole 12 = .ok (.aload_n 0, 1) := by decide +kernel
theorem dX1_formWhole_13 : decode cX1_formWhole 13 = .ok (.getfield 42, 3) := by decide +kernel
theorem dX1_formWhole_16 : decode cX1_formWhole 16 = .ok (.iadd, 1) := by decide +kernel
theorem dX1_formWhole_17 : decode cX1_formWhole 17 = .ok (.invokevirtual 128, 3) := by decide +kernel
theorem dX1_formWhole_20 : decode cX1_formWhole 20 = .ok (.iconst 0, 1) := by decide +kernel
theorem dX1_formWhole_21 : decode cX1_formWhole 21 = .ok (.istore_n 1, 1) := by decide +kernel
theorem dX1_formWhole_22 : decode cX1_formWhole 22 = .ok (.iload_n 1, 1) := by decide +kernel
theorem dX1_formWhole_23 : decode cX1_formWhole 23 = .ok (.aload_n 0, 1) := by decide +kernel
theorem dX1_formWhole_24 : decode cX1_formWhole 24 = .ok (.getfield 42, 3) := by decide +kernel
theorem dX1_formWhole_27 : decode cX1_formWhole 27 = .ok (.if_icmp .ge 58, 3) := by decide +kernel
theorem dX1_formWhole_30 : decode cX1_formWhole 30 = .ok (.iconst 0, 1) := by decide +kernel
theorem dX1_formWhole_31 : decode cX1_formWhole 31 = .ok (.istore_n 2, 1) := by decide +kernel
theorem dX1_formWhole_32 : decode cX1_formWhole 32 = .ok (.iload_n 2, 1) := by decide +kernel
theorem dX1_formWhole_33 : decode cX1_formWhole 33 = .ok (.aload_n 0, 1) := by decide +kernel
theorem dX1_formWhole_34 : decode cX1_formWhole 34 = .ok (.getfield 46, 3) := by decide +kernel
theorem dX1_formWhole_37 : decode cX1_formWhole 37 = .ok (.if_icmp .ge 27, 3) := by decide +kernel
theorem dX1_formWhole_40 : decode cX1_formWhole 40 = .ok (.aload_n 0, 1) := by decide +kernel
theorem dX1_formWhole_41 : decode cX1_formWhole 41 = .ok (.getfield 23, 3) := by decide +kernel
theorem dX1_formWhole_44 : decode cX1_formWhole 44 = .ok (.iload_n 1, 1) := by decide +kernel
theorem dX1_formWhole_45 : decode cX1_formWhole 45 = .ok (.iload_n 2, 1) := by decide +kernel
theorem dX1_formWhole_46 : decode cX1_formWhole 46 = .ok (.aload_n 0, 1) := by decide +kernel
theorem dX1_formWhole_47 : decode cX1_formWhole 47 = .ok (.getfield 11, 3) := by decide +kernel
theorem dX1_formWhole_50 : decode cX1_formWhole 50 = .ok (.iload_n 2, 1) := by decide +kernel
theorem dX1_formWhole_51 : decode cX1_formWhole 51 = .ok (.aaload, 1) := by decide +kernel
theorem dX1_formWhole_52 : decode cX1_formWhole 52 = .ok (.iload_n 1, 1) := by decide +kernel
theorem dX1_formWhole_53 : decode cX1_formWhole 53 = .ok (.iaload, 1) := by decide +kernel
theorem dX1_formWhole_54 : decode cX1_formWhole 54 = .ok (.i2l, 1) := by decide +kernel
theorem dX1_formWhole_55 : decode cX1_formWhole 55 = .ok (.invokevirtual 131, 3) := by decide +kernel
theorem dX1_formWhole_58 : decode cX1_formWhole 58 = .ok (.iinc 2 1, 3) := by decide +kernel
theorem dX1_formWhole_61 : decode cX1_formWhole 61 = .ok (.goto (-29), 3) := by decide +kernel
theorem dX1_formWhole_64 : decode cX1_formWhole 64 = .ok (.aload_n 0, 1) := by decide +kernel
theorem dX1_formWhole_65 : decode cX1_formWhole 65 = .ok (.getfield 23, 3) := by decide +kernel
theorem dX1_formWhole_68 : decode cX1_formWhole 68 = .ok (.iload_n 1, 1) := by decide +kernel
theorem dX1_formWhole_69 : decode cX1_formWhole 69 = .ok (.aload_n 0, 1) := by decide +kernel
theorem dX1_formWhole_70 : decode cX1_formWhole 70 = .ok (.getfield 46, 3) := by decide +kernel
theorem dX1_formWhole_73 : decode cX1_formWhole 73 = .ok (.iload_n 1, 1) := by decide +kernel
theorem dX1_formWhole_74 : decode cX1_formWhole 74 = .ok (.iadd, 1) := by decide +kernel
theorem dX1_formWhole_75 : decode cX1_formWhole 75 = .ok (.lconst 1, 1) := by decide +kernel
theorem dX1_formWhole_76 : decode cX1_formWhole 76 = .ok (.invokevirtual 131, 3) := by decide +kernel
theorem dX1_formWhole_79 : decode cX1_formWhole 79 = .ok (.iinc 1 1, 3) := by decide +kernel
theorem dX1_formWhole_82 : decode cX1_formWhole 82 = .ok (.goto (-60), 3) := by decide +kernel
theorem dX1_formWhole_85 : decode cX1_formWhole 85 = .ok (.aload_n 0, 1) := by decide +kernel
theorem dX1_formWhole_86 : decode cX1_formWhole 86 = .ok (.getfield 23, 3) := by decide +kernel
theorem dX1_formWhole_89 : decode cX1_formWhole 89 = .ok (.invokevirtual 135, 3) := by decide +kernel
theorem dX1_formWhole_92 : decode cX1_formWhole 92 = .ok (.aload_n 0, 1) := by decide +kernel
theorem dX1_formWhole_93 : decode cX1_formWhole 93 = .ok (.aload_n 0, 1) := by decide +kernel
theorem dX1_formWhole_94 : decode cX1_formWhole 94 = .ok (.getfield 23, 3) := by decide +kernel
theorem dX1_formWhole_97 : decode cX1_formWhole 97 = .ok (.aload_n 0, 1) := by decide +kernel
theorem dX1_formWhole_98 : decode cX1_formWhole 98 = .ok (.getfield 46, 3) := by decide +kernel
theorem dX1_formWhole_101 : decode cX1_formWhole 101 = .ok (.invokevirtual 138, 3) := by decide +kernel
theorem dX1_formWhole_104 : decode cX1_formWhole 104 = .ok (.putfield 76, 3) := by decide +kernel
theorem dX1_formWhole_107 : decode cX1_formWhole 107 = .ok (.aload_n 0, 1) := by decide +kernel
theorem dX1_formWhole_108 : decode cX1_formWhole 108 = .ok (.invokevirtual 60, 3) := by decide +kernel
theorem dX1_formWhole_111 : decode cX1_formWhole 111 = .ok (.return_, 1) := by decide +kernel
theorem dX1_settleSolution_0 : decode cX1_settleSolution 0 = .ok (.aload_n 0, 1) := by decide +kernel
theorem dX1_settleSolution_1 : decode cX1_settleSolution 1 = .ok (.getfield 30, 3) := by decide +kernel
theorem dX1_settleSolution_4 : decode cX1_settleSolution 4 = .ok (.invokestatic 82, 3) := by decide +kernel
theorem dX1_settleSolution_7 : decode cX1_settleSolution 7 = .ok (.iconst 0, 1) := by decide +kernel
theorem dX1_settleSolution_8 : decode cX1_settleSolution 8 = .ok (.istore_n 1, 1) := by decide +kernel
theorem dX1_settleSolution_9 : decode cX1_settleSolution 9 = .ok (.iload_n 1, 1) := by decide +kernel
theorem dX1_settleSolution_10 : decode cX1_settleSolution 10 = .ok (.aload_n 0, 1) := by decide +kernel
theorem dX1_settleSolution_11 : decode cX1_settleSolution 11 = .ok (.getfield 46, 3) := by decide +kernel
theorem dX1_settleSolution_14 : decode cX1_settleSolution 14 = .ok (.if_icmp .ge 23, 3) := by decide +kernel
theorem dX1_settleSolution_17 : decode cX1_settleSolution 17 = .ok (.aload_n 0, 1) := by decide +kernel
theorem dX1_settleSolution_18 : decode cX1_settleSolution 18 = .ok (.getfield 30, 3) := by decide +kernel
theorem dX1_settleSolution_21 : decode cX1_settleSolution 21 = .ok (.iload_n 1, 1) := by decide +kernel
theorem dX1_settleSolution_22 : decode cX1_settleSolution 22 = .ok (.aload_n 0, 1) := by decide +kernel
theorem dX1_settleSolution_23 : decode cX1_settleSolution 23 = .ok (.getfield 14, 3) := by decide +kernel
theorem dX1_settleSolution_26 : decode cX1_settleSolution 26 = .ok (.iload_n 1, 1) := by decide +kernel
theorem dX1_settleSolution_27 : decode cX1_settleSolution 27 = .ok (.iaload, 1) := by decide +kernel
theorem dX1_settleSolution_28 : decode cX1_settleSolution 28 = .ok (.ineg, 1) := by decide +kernel
theorem dX1_settleSolution_29 : decode cX1_settleSolution 29 = .ok (.i2l, 1) := by decide +kernel
theorem dX1_settleSolution_30 : decode cX1_settleSolution 30 = .ok (.lastore, 1) := by decide +kernel
theorem dX1_settleSolution_31 : decode cX1_settleSolution 31 = .ok (.iinc 1 1, 3) := by decide +kernel
theorem dX1_settleSolution_34 : decode cX1_settleSolution 34 = .ok (.goto (-25), 3) := by decide +kernel
theorem dX1_settleSolution_37 : decode cX1_settleSolution 37 = .ok (.aload_n 0, 1) := by decide +kernel
end
section
theorem dX1_settleSolution_38 : decode cX1_settleSolution 38 = .ok (.getfield 23, 3) := by decide +kernel
theorem dX1_settleSolution_41 : decode cX1_settleSolution 41 = .ok (.aload_n 0, 1) := by decide +kernel
theorem dX1_settleSolution_42 : decode cX1_settleSolution 42 = .ok (.getfield 30, 3) := by decide +kernel
theorem dX1_settleSolution_45 : decode cX1_settleSolution 45 = .ok (.invokevirtual 86, 3) := by decide +kernel
theorem dX1_settleSolution_48 : decode cX1_settleSolution 48 = .ok (.aload_n 0, 1) := by decide +kernel
theorem dX1_settleSolution_49 : decode cX1_settleSolution 49 = .ok (.aload_n 0, 1) := by decide +kernel
theorem dX1_settleSolution_50 : decode cX1_settleSolution 50 = .ok (.aload_n 0, 1) := by decide +kernel
theorem dX1_settleSolution_51 : decode cX1_settleSolution 51 = .ok (.getfield 30, 3) := by decide +kernel
theorem dX1_settleSolution_54 : decode cX1_settleSolution 54 = .ok (.invokevirtual 89, 3) := by decide +kernel
theorem dX1_settleSolution_57 : decode cX1_settleSolution 57 = .ok (.putfield 63, 3) := by decide +kernel
theorem dX1_settleSolution_60 : decode cX1_settleSolution 60 = .ok (.return_, 1) := by decide +kernel
theorem dX1_firstNotZero_0 : decode cX1_firstNotZero 0 = .ok (.iconst 0, 1) := by decide +kernel
theorem dX1_firstNotZero_1 : decode cX1_firstNotZero 1 = .ok (.istore_n 2, 1) := by decide +kernel
theorem dX1_firstNotZero_2 : decode cX1_firstNotZero 2 = .ok (.iload_n 2, 1) := by decide +kernel
theorem dX1_firstNotZero_3 : decode cX1_firstNotZero 3 = .ok (.aload_n 0, 1) := by decide +kernel
theorem dX1_firstNotZero_4 : decode cX1_firstNotZero 4 = .ok (.getfield 46, 3) := by decide +kernel
theorem dX1_firstNotZero_7 : decode cX1_firstNotZero 7 = .ok (.if_icmp .ge 19, 3) := by decide +kernel
theorem dX1_firstNotZero_10 : decode cX1_firstNotZero 10 = .ok (.aload_n 1, 1) := by decide +kernel
theorem dX1_firstNotZero_11 : decode cX1_firstNotZero 11 = .ok (.iload_n 2, 1) := by decide +kernel
theorem dX1_firstNotZero_12 : decode cX1_firstNotZero 12 = .ok (.laload, 1) := by decide +kernel
theorem dX1_firstNotZero_13 : decode cX1_firstNotZero 13 = .ok (.lconst 0, 1) := by decide +kernel
theorem dX1_firstNotZero_14 : decode cX1_firstNotZero 14 = .ok (.lcmp, 1) := by decide +kernel
theorem dX1_firstNotZero_15 : decode cX1_firstNotZero 15 = .ok (.ifCond .eq 5, 3) := by decide +kernel
theorem dX1_firstNotZero_18 : decode cX1_firstNotZero 18 = .ok (.iload_n 2, 1) := by decide +kernel
theorem dX1_firstNotZero_19 : decode cX1_firstNotZero 19 = .ok (.ireturn, 1) := by decide +kernel
theorem dX1_firstNotZero_20 : decode cX1_firstNotZero 20 = .ok (.iinc 2 1, 3) := by decide +kernel
theorem dX1_firstNotZero_23 : decode cX1_firstNotZero 23 = .ok (.goto (-21), 3) := by decide +kernel
theorem dX1_firstNotZero_26 : decode cX1_firstNotZero 26 = .ok (.iconst (-1), 1) := by decide +kernel
theorem dX1_firstNotZero_27 : decode cX1_firstNotZero 27 = .ok (.ireturn, 1) := by decide +kernel
theorem dX1_fillWithZero_0 : decode cX1_fillWithZero 0 = .ok (.iconst 0, 1) := by decide +kernel
theorem dX1_fillWithZero_1 : decode cX1_fillWithZero 1 = .ok (.istore_n 1, 1) := by decide +kernel
theorem dX1_fillWithZero_2 : decode cX1_fillWithZero 2 = .ok (.iload_n 1, 1) := by decide +kernel
theorem dX1_fillWithZero_3 : decode cX1_fillWithZero 3 = .ok (.aload_n 0, 1) := by decide +kernel
theorem dX1_fillWithZero_4 : decode cX1_fillWithZero 4 = .ok (.arraylength, 1) := by decide +kernel
theorem dX1_fillWithZero_5 : decode cX1_fillWithZero 5 = .ok (.if_icmp .ge 13, 3) := by decide +kernel
theorem dX1_fillWithZero_8 : decode cX1_fillWithZero 8 = .ok (.aload_n 0, 1) := by decide +kernel
theorem dX1_fillWithZero_9 : decode cX1_fillWithZero 9 = .ok (.iload_n 1, 1) := by decide +kernel
theorem dX1_fillWithZero_10 : decode cX1_fillWithZero 10 = .ok (.lconst 0, 1) := by decide +kernel
theorem dX1_fillWithZero_11 : decode cX1_fillWithZero 11 = .ok (.lastore, 1) := by decide +kernel
theorem dX1_fillWithZero_12 : decode cX1_fillWithZero 12 = .ok (.iinc 1 1, 3) := by decide +kernel
theorem dX1_fillWithZero_15 : decode cX1_fillWithZero 15 = .ok (.goto (-13), 3) := by decide +kernel
theorem dX1_fillWithZero_18 : decode cX1_fillWithZero 18 = .ok (.return_, 1) := by decide +kernel
theorem dX1_divisorOfDeterminants_0 : decode cX1_divisorOfDeterminants 0 = .ok (.lconst 0, 1) := by decide +kernel
theorem dX1_divisorOfDeterminants_1 : decode cX1_divisorOfDeterminants 1 = .ok (.lstore_n 2, 1) := by decide +kernel
theorem dX1_divisorOfDeterminants_2 : decode cX1_divisorOfDeterminants 2 = .ok (.iconst 0, 1) := by decide +kernel
theorem dX1_divisorOfDeterminants_3 : decode cX1_divisorOfDeterminants 3 = .ok (.istore 4, 2) := by decide +kernel
theorem dX1_divisorOfDeterminants_5 : decode cX1_divisorOfDeterminants 5 = .ok (.iload 4, 2) := by decide +kernel
theorem dX1_divisorOfDeterminants_7 : decode cX1_divisorOfDeterminants 7 = .ok (.iconst 1, 1) := by decide +kernel
theorem dX1_divisorOfDeterminants_8 : decode cX1_divisorOfDeterminants 8 = .ok (.aload_n 0, 1) := by decide +kernel
theorem dX1_divisorOfDeterminants_9 : decode cX1_divisorOfDeterminants 9 = .ok (.getfield 46, 3) := by decide +kernel
theorem dX1_divisorOfDeterminants_12 : decode cX1_divisorOfDeterminants 12 = .ok (.ishl, 1) := by decide +kernel
theorem dX1_divisorOfDeterminants_13 : decode cX1_divisorOfDeterminants 13 = .ok (.if_icmp .ge 30, 3) := by decide +kernel
theorem dX1_divisorOfDeterminants_16 : decode cX1_divisorOfDeterminants 16 = .ok (.iload 4, 2) := by decide +kernel
theorem dX1_divisorOfDeterminants_18 : decode cX1_divisorOfDeterminants 18 = .ok (.invokestatic 141, 3) := by decide +kernel
theorem dX1_divisorOfDeterminants_21 : decode cX1_divisorOfDeterminants 21 = .ok (.iload_n 1, 1) := by decide +kernel
theorem dX1_divisorOfDeterminants_22 : decode cX1_divisorOfDeterminants 22 = .ok (.if_icmp .ne 15, 3) := by decide +kernel
theorem dX1_divisorOfDeterminants_25 : decode cX1_divisorOfDeterminants 25 = .ok (.lload_n 2, 1) := by decide +kernel
theorem dX1_divisorOfDeterminants_26 : decode cX1_divisorOfDeterminants 26 = .ok (.aload_n 0, 1) := by decide +kernel
theorem dX1_divisorOfDeterminants_27 : decode cX1_divisorOfDeterminants 27 = .ok (.iload 4, 2) := by decide +kernel
theorem dX1_divisorOfDeterminants_29 : decode cX1_divisorOfDeterminants 29 = .ok (.iload_n 1, 1) := by decide +kernel
theorem dX1_divisorOfDeterminants_30 : decode cX1_divisorOfDeterminants 30 = .ok (.invokevirtual 146, 3) := by decide +kernel
theorem dX1_divisorOfDeterminants_33 : decode cX1_divisorOfDeterminants 33 = .ok (.invokestatic 113, 3) := by decide +kernel
theorem dX1_divisorOfDeterminants_36 : decode cX1_divisorOfDeterminants 36 = .ok (.lstore_n 2, 1) := by decide +kernel
theorem dX1_divisorOfDeterminants_37 : decode cX1_divisorOfDeterminants 37 = .ok (.iinc 4 1, 3) := by decide +kernel
theorem dX1_divisorOfDeterminants_40 : decode cX1_divisorOfDeterminants 40 = .ok (.goto (-35), 3) := by decide +kernel
theorem dX1_divisorOfDeterminants_43 : decode cX1_divisorOfDeterminants 43 = .ok (.lload_n 2, 1) := by decide +kernel
theorem dX1_divisorOfDeterminants_44 : decode cX1_divisorOfDeterminants 44 = .ok (.lreturn, 1) := by decide +kernel
theorem dX1_divisorOverUnknowns_0 : decode cX1_divisorOverUnknowns 0 = .ok (.lconst 0, 1) := by decide +kernel
theorem dX1_divisorOverUnknowns_1 : decode cX1_divisorOverUnknowns 1 = .ok (.lstore_n 3, 1) := by decide +kernel
theorem dX1_divisorOverUnknowns_2 : decode cX1_divisorOverUnknowns 2 = .ok (.iconst 0, 1) := by decide +kernel
theorem dX1_divisorOverUnknowns_3 : decode cX1_divisorOverUnknowns 3 = .ok (.istore 5, 2) := by decide +kernel
theorem dX1_divisorOverUnknowns_5 : decode cX1_divisorOverUnknowns 5 = .ok (.iload 5, 2) := by decide +kernel
theorem dX1_divisorOverUnknowns_7 : decode cX1_divisorOverUnknowns 7 = .ok (.iconst 1, 1) := by decide +kernel
theorem dX1_divisorOverUnknowns_8 : decode cX1_divisorOverUnknowns 8 = .ok (.aload_n 0, 1) := by decide +kernel
theorem dX1_divisorOverUnknowns_9 : decode cX1_divisorOverUnknowns 9 = .ok (.getfield 42, 3) := by decide +kernel
theorem dX1_divisorOverUnknowns_12 : decode cX1_divisorOverUnknowns 12 = .ok (.ishl, 1) := by decide +kernel
theorem dX1_divisorOverUnknowns_13 : decode cX1_divisorOverUnknowns 13 = .ok (.if_icmp .ge 31, 3) := by decide +kernel
theorem dX1_divisorOverUnknowns_16 : decode cX1_divisorOverUnknowns 16 = .ok (.iload 5, 2) := by decide +kernel
theorem dX1_divisorOverUnknowns_18 : decode cX1_divisorOverUnknowns 18 = .ok (.invokestatic 141, 3) := by decide +kernel
theorem dX1_divisorOverUnknowns_21 : decode cX1_divisorOverUnknowns 21 = .ok (.iload_n 2, 1) := by decide +kernel
theorem dX1_divisorOverUnknowns_22 : decode cX1_divisorOverUnknowns 22 = .ok (.if_icmp .ne 16, 3) := by decide +kernel
theorem dX1_divisorOverUnknowns_25 : decode cX1_divisorOverUnknowns 25 = .ok (.lload_n 3, 1) := by decide +kernel
theorem dX1_divisorOverUnknowns_26 : decode cX1_divisorOverUnknowns 26 = .ok (.aload_n 0, 1) := by decide +kernel
theorem dX1_divisorOverUnknowns_27 : decode cX1_divisorOverUnknowns 27 = .ok (.iconst 0, 1) := by decide +kernel
theorem dX1_divisorOverUnknowns_28 : decode cX1_divisorOverUnknowns 28 = .ok (.iload_n 1, 1) := by decide +kernel
theorem dX1_divisorOverUnknowns_29 : decode cX1_divisorOverUnknowns 29 = .ok (.iload 5, 2) := by decide +kernel
theorem dX1_divisorOverUnknowns_31 : decode cX1_divisorOverUnknowns 31 = .ok (.invokevirtual 149, 3) := by decide +kernel
theorem dX1_divisorOverUnknowns_34 : decode cX1_divisorOverUnknowns 34 = .ok (.invokestatic 113, 3) := by decide +kernel
theorem dX1_divisorOverUnknowns_37 : decode cX1_divisorOverUnknowns 37 = .ok (.lstore_n 3, 1) := by decide +kernel
theorem dX1_divisorOverUnknowns_38 : decode cX1_divisorOverUnknowns 38 = .ok (.iinc 5 1, 3) := by decide +kernel
theorem dX1_divisorOverUnknowns_41 : decode cX1_divisorOverUnknowns 41 = .ok (.goto (-36), 3) := by decide +kernel
theorem dX1_divisorOverUnknowns_44 : decode cX1_divisorOverUnknowns 44 = .ok (.lload_n 3, 1) := by decide +kernel
theorem dX1_divisorOverUnknowns_45 : decode cX1_divisorOverUnknowns 45 = .ok (.lreturn, 1) := by decide +kernel
theorem dX1_determinant_0 : decode cX1_determinant 0 = .ok (.iload_n 1, 1) := by decide +kernel
theorem dX1_determinant_1 : decode cX1_determinant 1 = .ok (.aload_n 0, 1) := by decide +kernel
theorem dX1_determinant_2 : decode cX1_determinant 2 = .ok (.getfield 46, 3) := by decide +kernel
theorem dX1_determinant_5 : decode cX1_determinant 5 = .ok (.if_icmp .lt 5, 3) := by decide +kernel
theorem dX1_determinant_8 : decode cX1_determinant 8 = .ok (.lconst 1, 1) := by decide +kernel
theorem dX1_determinant_9 : decode cX1_determinant 9 = .ok (.lreturn, 1) := by decide +kernel
theorem dX1_determinant_10 : decode cX1_determinant 10 = .ok (.iload_n 2, 1) := by decide +kernel
theorem dX1_determinant_11 : decode cX1_determinant 11 = .ok (.iload_n 1, 1) := by decide +kernel
theorem dX1_determinant_12 : decode cX1_determinant 12 = .ok (.ishr, 1) := by decide +kernel
theorem dX1_determinant_13 : decode cX1_determinant 13 = .ok (.iconst 1, 1) := by decide +kernel
theorem dX1_determinant_14 : decode cX1_determinant 14 = .ok (.iand, 1) := by decide +kernel
theorem dX1_determinant_15 : decode cX1_determinant 15 = .ok (.ifCond .ne 13, 3) := by decide +kernel
theorem dX1_determinant_18 : decode cX1_determinant 18 = .ok (.aload_n 0, 1) := by decide +kernel
theorem dX1_determinant_19 : decode cX1_determinant 19 = .ok (.iload_n 1, 1) := by decide +kernel
theorem dX1_determinant_20 : decode cX1_determinant 20 = .ok (.iconst 1, 1) := by decide +kernel
theorem dX1_determinant_21 : decode cX1_determinant 21 = .ok (.iadd, 1) := by decide +kernel
theorem dX1_determinant_22 : decode cX1_determinant 22 = .ok (.iload_n 2, 1) := by decide +kernel
theorem dX1_determinant_23 : decode cX1_determinant 23 = .ok (.iload_n 3, 1) := by decide +kernel
theorem dX1_determinant_24 : decode cX1_determinant 24 = .ok (.invokevirtual 149, 3) := by decide +kernel
theorem dX1_determinant_27 : decode cX1_determinant 27 = .ok (.lreturn, 1) := by decide +kernel
theorem dX1_determinant_28 : decode cX1_determinant 28 = .ok (.lconst 0, 1) := by decide +kernel
theorem dX1_determinant_29 : decode cX1_determinant 29 = .ok (.lstore 4, 2) := by decide +kernel
theorem dX1_determinant_31 : decode cX1_determinant 31 = .ok (.lconst 1, 1) := by decide +kernel
theorem dX1_determinant_32 : decode cX1_determinant 32 = .ok (.lstore 6, 2) := by decide +kernel
theorem dX1_determinant_34 : decode cX1_determinant 34 = .ok (.iconst 0, 1) := by decide +kernel
theorem dX1_determinant_35 : decode cX1_determinant 35 = .ok (.istore 8, 2) := by decide +kernel
theorem dX1_determinant_37 : decode cX1_determinant 37 = .ok (.iload 8, 2) := by decide +kernel
theorem dX1_determinant_39 : decode cX1_determinant 39 = .ok (.aload_n 0, 1) := by decide +kernel
theorem dX1_determinant_40 : decode cX1_determinant 40 = .ok (.getfield 42, 3) := by decide +kernel
theorem dX1_determinant_43 : decode cX1_determinant 43 = .ok (.if_icmp .ge 57, 3) := by decide +kernel
theorem dX1_determinant_46 : decode cX1_determinant 46 = .ok (.iload_n 3, 1) := by decide +kernel
theorem dX1_determinant_47 : decode cX1_determinant 47 = .ok (.iload 8, 2) := by decide +kernel
theorem dX1_determinant_49 : decode cX1_determinant 49 = .ok (.ishr, 1) := by decide +kernel
theorem dX1_determinant_50 : decode cX1_determinant 50 = .ok (.iconst 1, 1) := by decide +kernel
theorem dX1_determinant_51 : decode cX1_determinant 51 = .ok (.iand, 1) := by decide +kernel
theorem dX1_determinant_52 : decode cX1_determinant 52 = .ok (.iconst 1, 1) := by decide +kernel
theorem dX1_determinant_53 : decode cX1_determinant 53 = .ok (.if_icmp .ne 41, 3) := by decide +kernel
theorem dX1_determinant_56 : decode cX1_determinant 56 = .ok (.lload 4, 2) := by decide +kernel
theorem dX1_determinant_58 : decode cX1_determinant 58 = .ok (.lload 6, 2) := by decide +kernel
theorem dX1_determinant_60 : decode cX1_determinant 60 = .ok (.aload_n 0, 1) := by decide +kernel
theorem dX1_determinant_61 : decode cX1_determinant 61 = .ok (.getfield 11, 3) := by decide +kernel
theorem dX1_determinant_64 : decode cX1_determinant 64 = .ok (.iload_n 1, 1) := by decide +kernel
theorem dX1_determinant_65 : decode cX1_determinant 65 = .ok (.aaload, 1) := by decide +kernel
theorem dX1_determinant_66 : decode cX1_determinant 66 = .ok (.iload 8, 2) := by decide +kernel
theorem dX1_determinant_68 : decode cX1_determinant 68 = .ok (.iaload, 1) := by decide +kernel
theorem dX1_determinant_69 : decode cX1_determinant 69 = .ok (.i2l, 1) := by decide +kernel
theorem dX1_determinant_70 : decode cX1_determinant 70 = .ok (.lmul, 1) := by decide +kernel
theorem dX1_determinant_71 : decode cX1_determinant 71 = .ok (.aload_n 0, 1) := by decide +kernel
theorem dX1_determinant_72 : decode cX1_determinant 72 = .ok (.iload_n 1, 1) := by decide +kernel
theorem dX1_determinant_73 : decode cX1_determinant 73 = .ok (.iconst 1, 1) := by decide +kernel
theorem dX1_determinant_74 : decode cX1_determinant 74 = .ok (.iadd, 1) := by decide +kernel
theorem dX1_determinant_75 : decode cX1_determinant 75 = .ok (.iload_n 2, 1) := by decide +kernel
theorem dX1_determinant_76 : decode cX1_determinant 76 = .ok (.iload_n 3, 1) := by decide +kernel
theorem dX1_determinant_77 : decode cX1_determinant 77 = .ok (.iconst 1, 1) := by decide +kernel
theorem dX1_determinant_78 : decode cX1_determinant 78 = .ok (.iload 8, 2) := by decide +kernel
theorem dX1_determinant_80 : decode cX1_determinant 80 = .ok (.ishl, 1) := by decide +kernel
theorem dX1_determinant_81 : decode cX1_determinant 81 = .ok (.isub, 1) := by decide +kernel
theorem dX1_determinant_82 : decode cX1_determinant 82 = .ok (.invokevirtual 149, 3) := by decide +kernel
theorem dX1_determinant_85 : decode cX1_determinant 85 = .ok (.lmul, 1) := by decide +kernel
theorem dX1_determinant_86 : decode cX1_determinant 86 = .ok (.ladd, 1) := by decide +kernel
theorem dX1_determinant_87 : decode cX1_determinant 87 = .ok (.lstore 4, 2) := by decide +kernel
theorem dX1_determinant_89 : decode cX1_determinant 89 = .ok (.lload 6, 2) := by decide +kernel
theorem dX1_determinant_91 : decode cX1_determinant 91 = .ok (.lneg, 1) := by decide +kernel
theorem dX1_determinant_92 : decode cX1_determinant 92 = .ok (.lstore 6, 2) := by decide +kernel
theorem dX1_determinant_94 : decode cX1_determinant 94 = .ok (.iinc 8 1, 3) := by decide +kernel
theorem dX1_determinant_97 : decode cX1_determinant 97 = .ok (.goto (-60), 3) := by decide +kernel
theorem dX1_determinant_100 : decode cX1_determinant 100 = .ok (.lload 4, 2) := by decide +kernel
theorem dX1_determinant_102 : decode cX1_determinant 102 = .ok (.lreturn, 1) := by decide +kernel
theorem dX1_commonDivisor_0 : decode cX1_commonDivisor 0 = .ok (.lload_n 0, 1) := by decide +kernel
theorem dX1_commonDivisor_1 : decode cX1_commonDivisor 1 = .ok (.invokestatic 152, 3) := by decide +kernel
theorem dX1_commonDivisor_4 : decode cX1_commonDivisor 4 = .ok (.lstore 4, 2) := by decide +kernel
theorem dX1_commonDivisor_6 : decode cX1_commonDivisor 6 = .ok (.lload_n 2, 1) := by decide +kernel
theorem dX1_commonDivisor_7 : decode cX1_commonDivisor 7 = .ok (.invokestatic 152, 3) := by decide +kernel
theorem dX1_commonDivisor_10 : decode cX1_commonDivisor 10 = .ok (.lstore 6, 2) := by decide +kernel
theorem dX1_commonDivisor_12 : decode cX1_commonDivisor 12 = .ok (.iconst 0, 1) := by decide +kernel
theorem dX1_commonDivisor_13 : decode cX1_commonDivisor 13 = .ok (.istore 8, 2) := by decide +kernel
theorem dX1_commonDivisor_15 : decode cX1_commonDivisor 15 = .ok (.iload 8, 2) := by decide +kernel
theorem dX1_commonDivisor_17 : decode cX1_commonDivisor 17 = .ok (.sipush 200, 3) := by decide +kernel
theorem dX1_commonDivisor_20 : decode cX1_commonDivisor 20 = .ok (.if_icmp .ge 31, 3) := by decide +kernel
theorem dX1_commonDivisor_23 : decode cX1_commonDivisor 23 = .ok (.lload 6, 2) := by decide +kernel
theorem dX1_commonDivisor_25 : decode cX1_commonDivisor 25 = .ok (.lconst 0, 1) := by decide +kernel
theorem dX1_commonDivisor_26 : decode cX1_commonDivisor 26 = .ok (.lcmp, 1) := by decide +kernel
theorem dX1_commonDivisor_27 : decode cX1_commonDivisor 27 = .ok (.ifCond .eq 24, 3) := by decide +kernel
theorem dX1_commonDivisor_30 : decode cX1_commonDivisor 30 = .ok (.lload 4, 2) := by decide +kernel
theorem dX1_commonDivisor_32 : decode cX1_commonDivisor 32 = .ok (.lload 6, 2) := by decide +kernel
theorem dX1_commonDivisor_34 : decode cX1_commonDivisor 34 = .ok (.lrem, 1) := by decide +kernel
theorem dX1_commonDivisor_35 : decode cX1_commonDivisor 35 = .ok (.lstore 9, 2) := by decide +kernel
theorem dX1_commonDivisor_37 : decode cX1_commonDivisor 37 = .ok (.lload 6, 2) := by decide +kernel
theorem dX1_commonDivisor_39 : decode cX1_commonDivisor 39 = .ok (.lstore 4, 2) := by decide +kernel
theorem dX1_commonDivisor_41 : decode cX1_commonDivisor 41 = .ok (.lload 9, 2) := by decide +kernel
theorem dX1_commonDivisor_43 : decode cX1_commonDivisor 43 = .ok (.lstore 6, 2) := by decide +kernel
theorem dX1_commonDivisor_45 : decode cX1_commonDivisor 45 = .ok (.iinc 8 1, 3) := by decide +kernel
theorem dX1_commonDivisor_48 : decode cX1_commonDivisor 48 = .ok (.goto (-33), 3) := by decide +kernel
theorem dX1_commonDivisor_51 : decode cX1_commonDivisor 51 = .ok (.lload 4, 2) := by decide +kernel
theorem dX1_commonDivisor_53 : decode cX1_commonDivisor 53 = .ok (.lreturn, 1) := by decide +kernel
theorem dX1_unmovedLieInside_0 : decode cX1_unmovedLieInside 0 = .ok (.aload_n 0, 1) := by decide +kernel
theorem dX1_unmovedLieInside_1 : decode cX1_unmovedLieInside 1 = .ok (.iconst 0, 1) := by decide +kernel
theorem dX1_unmovedLieInside_2 : decode cX1_unmovedLieInside 2 = .ok (.invokevirtual 158, 3) := by decide +kernel
theorem dX1_unmovedLieInside_5 : decode cX1_unmovedLieInside 5 = .ok (.istore_n 3, 1) := by decide +kernel
theorem dX1_unmovedLieInside_6 : decode cX1_unmovedLieInside 6 = .ok (.iconst 0, 1) := by decide +kernel
theorem dX1_unmovedLieInside_7 : decode cX1_unmovedLieInside 7 = .ok (.istore 4, 2) := by decide +kernel
theorem dX1_unmovedLieInside_9 : decode cX1_unmovedLieInside 9 = .ok (.iload 4, 2) := by decide +kernel
theorem dX1_unmovedLieInside_11 : decode cX1_unmovedLieInside 11 = .ok (.iload_n 3, 1) := by decide +kernel
theorem dX1_unmovedLieInside_12 : decode cX1_unmovedLieInside 12 = .ok (.if_icmp .ge 41, 3) := by decide +kernel
theorem dX1_unmovedLieInside_15 : decode cX1_unmovedLieInside 15 = .ok (.aload_n 0, 1) := by decide +kernel
theorem dX1_unmovedLieInside_16 : decode cX1_unmovedLieInside 16 = .ok (.getfield 39, 3) := by decide +kernel
theorem dX1_unmovedLieInside_19 : decode cX1_unmovedLieInside 19 = .ok (.iconst 0, 1) := by decide +kernel
theorem dX1_unmovedLieInside_20 : decode cX1_unmovedLieInside 20 = .ok (.aaload, 1) := by decide +kernel
theorem dX1_unmovedLieInside_21 : decode cX1_unmovedLieInside 21 = .ok (.iload 4, 2) := by decide +kernel
theorem dX1_unmovedLieInside_23 : decode cX1_unmovedLieInside 23 = .ok (.laload, 1) := by decide +kernel
theorem dX1_unmovedLieInside_24 : decode cX1_unmovedLieInside 24 = .ok (.iload_n 1, 1) := by decide +kernel
theorem dX1_unmovedLieInside_25 : decode cX1_unmovedLieInside 25 = .ok (.i2l, 1) := by decide +kernel
theorem dX1_unmovedLieInside_26 : decode cX1_unmovedLieInside 26 = .ok (.lcmp, 1) := by decide +kernel
theorem dX1_unmovedLieInside_27 : decode cX1_unmovedLieInside 27 = .ok (.ifCond .lt 18, 3) := by decide +kernel
theorem dX1_unmovedLieInside_30 : decode cX1_unmovedLieInside 30 = .ok (.aload_n 0, 1) := by decide +kernel
theorem dX1_unmovedLieInside_31 : decode cX1_unmovedLieInside 31 = .ok (.getfield 39, 3) := by decide +kernel
theorem dX1_unmovedLieInside_34 : decode cX1_unmovedLieInside 34 = .ok (.iconst 0, 1) := by decide +kernel
theorem dX1_unmovedLieInside_35 : decode cX1_unmovedLieInside 35 = .ok (.aaload, 1) := by decide +kernel
theorem dX1_unmovedLieInside_36 : decode cX1_unmovedLieInside 36 = .ok (.iload 4, 2) := by decide +kernel
theorem dX1_unmovedLieInside_38 : decode cX1_unmovedLieInside 38 = .ok (.laload, 1) := by decide +kernel
theorem dX1_unmovedLieInside_39 : decode cX1_unmovedLieInside 39 = .ok (.iload_n 2, 1) := by decide +kernel
theorem dX1_unmovedLieInside_40 : decode cX1_unmovedLieInside 40 = .ok (.i2l, 1) := by decide +kernel
theorem dX1_unmovedLieInside_41 : decode cX1_unmovedLieInside 41 = .ok (.lcmp, 1) := by decide +kernel
theorem dX1_unmovedLieInside_42 : decode cX1_unmovedLieInside 42 = .ok (.ifCond .le 5, 3) := by decide +kernel
theorem dX1_unmovedLieInside_45 : decode cX1_unmovedLieInside 45 = .ok (.iconst 0, 1) := by decide +kernel
theorem dX1_unmovedLieInside_46 : decode cX1_unmovedLieInside 46 = .ok (.ireturn, 1) := by decide +kernel
theorem dX1_unmovedLieInside_47 : decode cX1_unmovedLieInside 47 = .ok (.iinc 4 1, 3) := by decide +kernel
theorem dX1_unmovedLieInside_50 : decode cX1_unmovedLieInside 50 = .ok (.goto (-41), 3) := by decide +kernel
theorem dX1_unmovedLieInside_53 : decode cX1_unmovedLieInside 53 = .ok (.iconst 1, 1) := by decide +kernel
theorem dX1_unmovedLieInside_54 : decode cX1_unmovedLieInside 54 = .ok (.ireturn, 1) := by decide +kernel
theorem dX1_countFrom_0 : decode cX1_countFrom 0 = .ok (.iload_n 1, 1) := by decide +kernel
theorem dX1_countFrom_1 : decode cX1_countFrom 1 = .ok (.aload_n 0, 1) := by decide +kernel
theorem dX1_countFrom_2 : decode cX1_countFrom 2 = .ok (.invokevirtual 66, 3) := by decide +kernel
theorem dX1_countFrom_5 : decode cX1_countFrom 5 = .ok (.if_icmp .lt 5, 3) := by decide +kernel
theorem dX1_countFrom_8 : decode cX1_countFrom 8 = .ok (.lconst 1, 1) := by decide +kernel
theorem dX1_countFrom_9 : decode cX1_countFrom 9 = .ok (.lreturn, 1) := by decide +kernel
theorem dX1_countFrom_10 : decode cX1_countFrom 10 = .ok (.aload_n 0, 1) := by decide +kernel
theorem dX1_countFrom_11 : decode cX1_countFrom 11 = .ok (.iload_n 1, 1) := by decide +kernel
theorem dX1_countFrom_12 : decode cX1_countFrom 12 = .ok (.iload_n 2, 1) := by decide +kernel
theorem dX1_countFrom_13 : decode cX1_countFrom 13 = .ok (.iload_n 3, 1) := by decide +kernel
theorem dX1_countFrom_14 : decode cX1_countFrom 14 = .ok (.invokevirtual 161, 3) := by decide +kernel
theorem dX1_countFrom_17 : decode cX1_countFrom 17 = .ok (.lstore 4, 2) := by decide +kernel
theorem dX1_countFrom_19 : decode cX1_countFrom 19 = .ok (.aload_n 0, 1) := by decide +kernel
theorem dX1_countFrom_20 : decode cX1_countFrom 20 = .ok (.iload_n 1, 1) := by decide +kernel
theorem dX1_countFrom_21 : decode cX1_countFrom 21 = .ok (.iload_n 2, 1) := by decide +kernel
theorem dX1_countFrom_22 : decode cX1_countFrom 22 = .ok (.iload_n 3, 1) := by decide +kernel
theorem dX1_countFrom_23 : decode cX1_countFrom 23 = .ok (.invokevirtual 164, 3) := by decide +kernel
theorem dX1_countFrom_26 : decode cX1_countFrom 26 = .ok (.lstore 6, 2) := by decide +kernel
theorem dX1_countFrom_28 : decode cX1_countFrom 28 = .ok (.lload 6, 2) := by decide +kernel
theorem dX1_countFrom_30 : decode cX1_countFrom 30 = .ok (.lload 4, 2) := by decide +kernel
theorem dX1_countFrom_32 : decode cX1_countFrom 32 = .ok (.lcmp, 1) := by decide +kernel
theorem dX1_countFrom_33 : decode cX1_countFrom 33 = .ok (.ifCond .ge 5, 3) := by decide +kernel
theorem dX1_countFrom_36 : decode cX1_countFrom 36 = .ok (.lconst 0, 1) := by decide +kernel
theorem dX1_countFrom_37 : decode cX1_countFrom 37 = .ok (.lreturn, 1) := by decide +kernel
theorem dX1_countFrom_38 : decode cX1_countFrom 38 = .ok (.aload_n 0, 1) := by decide +kernel
theorem dX1_countFrom_39 : decode cX1_countFrom 39 = .ok (.iload_n 1, 1) := by decide +kernel
theorem dX1_countFrom_40 : decode cX1_countFrom 40 = .ok (.invokevirtual 167, 3) := by decide +kernel
theorem dX1_countFrom_43 : decode cX1_countFrom 43 = .ok (.ifCond .eq 27, 3) := by decide +kernel
theorem dX1_countFrom_46 : decode cX1_countFrom 46 = .ok (.aload_n 0, 1) := by decide +kernel
theorem dX1_countFrom_47 : decode cX1_countFrom 47 = .ok (.iload_n 1, 1) := by decide +kernel
theorem dX1_countFrom_48 : decode cX1_countFrom 48 = .ok (.lconst 0, 1) := by decide +kernel
theorem dX1_countFrom_49 : decode cX1_countFrom 49 = .ok (.invokevirtual 170, 3) := by decide +kernel
theorem dX1_countFrom_52 : decode cX1_countFrom 52 = .ok (.lload 6, 2) := by decide +kernel
theorem dX1_countFrom_54 : decode cX1_countFrom 54 = .ok (.lload 4, 2) := by decide +kernel
theorem dX1_countFrom_56 : decode cX1_countFrom 56 = .ok (.lsub, 1) := by decide +kernel
theorem dX1_countFrom_57 : decode cX1_countFrom 57 = .ok (.lconst 1, 1) := by decide +kernel
theorem dX1_countFrom_58 : decode cX1_countFrom 58 = .ok (.ladd, 1) := by decide +kernel
theorem dX1_countFrom_59 : decode cX1_countFrom 59 = .ok (.aload_n 0, 1) := by decide +kernel
theorem dX1_countFrom_60 : decode cX1_countFrom 60 = .ok (.iload_n 1, 1) := by decide +kernel
theorem dX1_countFrom_61 : decode cX1_countFrom 61 = .ok (.iconst 1, 1) := by decide +kernel
theorem dX1_countFrom_62 : decode cX1_countFrom 62 = .ok (.iadd, 1) := by decide +kernel
theorem dX1_countFrom_63 : decode cX1_countFrom 63 = .ok (.iload_n 2, 1) := by decide +kernel
theorem dX1_countFrom_64 : decode cX1_countFrom 64 = .ok (.iload_n 3, 1) := by decide +kernel
theorem dX1_countFrom_65 : decode cX1_countFrom 65 = .ok (.invokevirtual 100, 3) := by decide +kernel
theorem dX1_countFrom_68 : decode cX1_countFrom 68 = .ok (.lmul, 1) := by decide +kernel
theorem dX1_countFrom_69 : decode cX1_countFrom 69 = .ok (.lreturn, 1) := by decide +kernel
theorem dX1_countFrom_70 : decode cX1_countFrom 70 = .ok (.lconst 0, 1) := by decide +kernel
theorem dX1_countFrom_71 : decode cX1_countFrom 71 = .ok (.lstore 8, 2) := by decide +kernel
theorem dX1_countFrom_73 : decode cX1_countFrom 73 = .ok (.lload 4, 2) := by decide +kernel
theorem dX1_countFrom_75 : decode cX1_countFrom 75 = .ok (.lstore 10, 2) := by decide +kernel
theorem dX1_countFrom_77 : decode cX1_countFrom 77 = .ok (.lload 10, 2) := by decide +kernel
theorem dX1_countFrom_79 : decode cX1_countFrom 79 = .ok (.lload 6, 2) := by decide +kernel
theorem dX1_countFrom_81 : decode cX1_countFrom 81 = .ok (.lcmp, 1) := by decide +kernel
theorem dX1_countFrom_82 : decode cX1_countFrom 82 = .ok (.ifCond .gt 33, 3) := by decide +kernel
theorem dX1_countFrom_85 : decode cX1_countFrom 85 = .ok (.aload_n 0, 1) := by decide +kernel
theorem dX1_countFrom_86 : decode cX1_countFrom 86 = .ok (.iload_n 1, 1) := by decide +kernel
theorem dX1_countFrom_87 : decode cX1_countFrom 87 = .ok (.lload 10, 2) := by decide +kernel
theorem dX1_countFrom_89 : decode cX1_countFrom 89 = .ok (.invokevirtual 170, 3) := by decide +kernel
theorem dX1_countFrom_92 : decode cX1_countFrom 92 = .ok (.lload 8, 2) := by decide +kernel
theorem dX1_countFrom_94 : decode cX1_countFrom 94 = .ok (.aload_n 0, 1) := by decide +kernel
theorem dX1_countFrom_95 : decode cX1_countFrom 95 = .ok (.iload_n 1, 1) := by decide +kernel
theorem dX1_countFrom_96 : decode cX1_countFrom 96 = .ok (.iconst 1, 1) := by decide +kernel
theorem dX1_countFrom_97 : decode cX1_countFrom 97 = .ok (.iadd, 1) := by decide +kernel
theorem dX1_countFrom_98 : decode cX1_countFrom 98 = .ok (.iload_n 2, 1) := by decide +kernel
theorem dX1_countFrom_99 : decode cX1_countFrom 99 = .ok (.iload_n 3, 1) := by decide +kernel
theorem dX1_countFrom_100 : decode cX1_countFrom 100 = .ok (.invokevirtual 100, 3) := by decide +kernel
theorem dX1_countFrom_103 : decode cX1_countFrom 103 = .ok (.ladd, 1) := by decide +kernel
theorem dX1_countFrom_104 : decode cX1_countFrom 104 = .ok (.lstore 8, 2) := by decide +kernel
theorem dX1_countFrom_106 : decode cX1_countFrom 106 = .ok (.lload 10, 2) := by decide +kernel
theorem dX1_countFrom_108 : decode cX1_countFrom 108 = .ok (.lconst 1, 1) := by decide +kernel
theorem dX1_countFrom_109 : decode cX1_countFrom 109 = .ok (.ladd, 1) := by decide +kernel
theorem dX1_countFrom_110 : decode cX1_countFrom 110 = .ok (.lstore 10, 2) := by decide +kernel
theorem dX1_countFrom_112 : decode cX1_countFrom 112 = .ok (.goto (-35), 3) := by decide +kernel
theorem dX1_countFrom_115 : decode cX1_countFrom 115 = .ok (.lload 8, 2) := by decide +kernel
theorem dX1_countFrom_117 : decode cX1_countFrom 117 = .ok (.lreturn, 1) := by decide +kernel
theorem dX1_leastTurns_0 : decode cX1_leastTurns 0 = .ok (.aload_n 0, 1) := by decide +kernel
theorem dX1_leastTurns_1 : decode cX1_leastTurns 1 = .ok (.iload_n 1, 1) := by decide +kernel
theorem dX1_leastTurns_2 : decode cX1_leastTurns 2 = .ok (.iconst 1, 1) := by decide +kernel
theorem dX1_leastTurns_3 : decode cX1_leastTurns 3 = .ok (.iadd, 1) := by decide +kernel
theorem dX1_leastTurns_4 : decode cX1_leastTurns 4 = .ok (.invokevirtual 158, 3) := by decide +kernel
theorem dX1_leastTurns_7 : decode cX1_leastTurns 7 = .ok (.istore 4, 2) := by decide +kernel
theorem dX1_leastTurns_9 : decode cX1_leastTurns 9 = .ok (.ldc2_w 70, 3) := by decide +kernel
theorem dX1_leastTurns_12 : decode cX1_leastTurns 12 = .ok (.lstore 5, 2) := by decide +kernel
theorem dX1_leastTurns_14 : decode cX1_leastTurns 14 = .ok (.aload_n 0, 1) := by decide +kernel
theorem dX1_leastTurns_15 : decode cX1_leastTurns 15 = .ok (.iload_n 1, 1) := by decide +kernel
theorem dX1_leastTurns_16 : decode cX1_leastTurns 16 = .ok (.invokevirtual 158, 3) := by decide +kernel
theorem dX1_leastTurns_19 : decode cX1_leastTurns 19 = .ok (.istore 7, 2) := by decide +kernel
theorem dX1_leastTurns_21 : decode cX1_leastTurns 21 = .ok (.iload 7, 2) := by decide +kernel
theorem dX1_leastTurns_23 : decode cX1_leastTurns 23 = .ok (.iload 4, 2) := by decide +kernel
theorem dX1_leastTurns_25 : decode cX1_leastTurns 25 = .ok (.if_icmp .ge 93, 3) := by decide +kernel
theorem dX1_leastTurns_28 : decode cX1_leastTurns 28 = .ok (.aload_n 0, 1) := by decide +kernel
theorem dX1_leastTurns_29 : decode cX1_leastTurns 29 = .ok (.iload_n 1, 1) := by decide +kernel
theorem dX1_leastTurns_30 : decode cX1_leastTurns 30 = .ok (.iload 7, 2) := by decide +kernel
theorem dX1_leastTurns_32 : decode cX1_leastTurns 32 = .ok (.invokevirtual 72, 3) := by decide +kernel
theorem dX1_leastTurns_35 : decode cX1_leastTurns 35 = .ok (.lstore 8, 2) := by decide +kernel
theorem dX1_leastTurns_37 : decode cX1_leastTurns 37 = .ok (.aload_n 0, 1) := by decide +kernel
theorem dX1_leastTurns_38 : decode cX1_leastTurns 38 = .ok (.getfield 39, 3) := by decide +kernel
theorem dX1_leastTurns_41 : decode cX1_leastTurns 41 = .ok (.iload_n 1, 1) := by decide +kernel
theorem dX1_leastTurns_42 : decode cX1_leastTurns 42 = .ok (.aaload, 1) := by decide +kernel
theorem dX1_leastTurns_43 : decode cX1_leastTurns 43 = .ok (.iload 7, 2) := by decide +kernel
theorem dX1_leastTurns_45 : decode cX1_leastTurns 45 = .ok (.laload, 1) := by decide +kernel
theorem dX1_leastTurns_46 : decode cX1_leastTurns 46 = .ok (.lstore 10, 2) := by decide +kernel
theorem dX1_leastTurns_48 : decode cX1_leastTurns 48 = .ok (.lload 8, 2) := by decide +kernel
theorem dX1_leastTurns_50 : decode cX1_leastTurns 50 = .ok (.lconst 0, 1) := by decide +kernel
theorem dX1_leastTurns_51 : decode cX1_leastTurns 51 = .ok (.lcmp, 1) := by decide +kernel
theorem dX1_leastTurns_52 : decode cX1_leastTurns 52 = .ok (.ifCond .eq 39, 3) := by decide +kernel
theorem dX1_leastTurns_55 : decode cX1_leastTurns 55 = .ok (.lload 8, 2) := by decide +kernel
theorem dX1_leastTurns_57 : decode cX1_leastTurns 57 = .ok (.lconst 0, 1) := by decide +kernel
theorem dX1_leastTurns_58 : decode cX1_leastTurns 58 = .ok (.lcmp, 1) := by decide +kernel
theorem dX1_leastTurns_59 : decode cX1_leastTurns 59 = .ok (.ifCond .le 7, 3) := by decide +kernel
theorem dX1_leastTurns_62 : decode cX1_leastTurns 62 = .ok (.iload_n 2, 1) := by decide +kernel
theorem dX1_leastTurns_63 : decode cX1_leastTurns 63 = .ok (.goto 4, 3) := by decide +kernel
theorem dX1_leastTurns_66 : decode cX1_leastTurns 66 = .ok (.iload_n 3, 1) := by decide +kernel
theorem dX1_leastTurns_67 : decode cX1_leastTurns 67 = .ok (.istore 12, 2) := by decide +kernel
theorem dX1_leastTurns_69 : decode cX1_leastTurns 69 = .ok (.lload 5, 2) := by decide +kernel
theorem dX1_leastTurns_71 : decode cX1_leastTurns 71 = .ok (.lload 10, 2) := by decide +kernel
theorem dX1_leastTurns_73 : decode cX1_leastTurns 73 = .ok (.iload 12, 2) := by decide +kernel
theorem dX1_leastTurns_75 : decode cX1_leastTurns 75 = .ok (.i2l, 1) := by decide +kernel
theorem dX1_leastTurns_76 : decode cX1_leastTurns 76 = .ok (.lsub, 1) := by decide +kernel
theorem dX1_leastTurns_77 : decode cX1_leastTurns 77 = .ok (.lload 8, 2) := by decide +kernel
theorem dX1_leastTurns_79 : decode cX1_leastTurns 79 = .ok (.invokestatic 174, 3) := by decide +kernel
theorem dX1_leastTurns_82 : decode cX1_leastTurns 82 = .ok (.lneg, 1) := by decide +kernel
theorem dX1_leastTurns_83 : decode cX1_leastTurns 83 = .ok (.invokestatic 177, 3) := by decide +kernel
theorem dX1_leastTurns_86 : decode cX1_leastTurns 86 = .ok (.lstore 5, 2) := by decide +kernel
theorem dX1_leastTurns_88 : decode cX1_leastTurns 88 = .ok (.goto 24, 3) := by decide +kernel
theorem dX1_leastTurns_91 : decode cX1_leastTurns 91 = .ok (.lload 10, 2) := by decide +kernel
theorem dX1_leastTurns_93 : decode cX1_leastTurns 93 = .ok (.iload_n 2, 1) := by decide +kernel
theorem dX1_leastTurns_94 : decode cX1_leastTurns 94 = .ok (.i2l, 1) := by decide +kernel
theorem dX1_leastTurns_95 : decode cX1_leastTurns 95 = .ok (.lcmp, 1) := by decide +kernel
theorem dX1_leastTurns_96 : decode cX1_leastTurns 96 = .ok (.ifCond .lt 11, 3) := by decide +kernel
theorem dX1_leastTurns_99 : decode cX1_leastTurns 99 = .ok (.lload 10, 2) := by decide +kernel
theorem dX1_leastTurns_101 : decode cX1_leastTurns 101 = .ok (.iload_n 3, 1) := by decide +kernel
theorem dX1_leastTurns_102 : decode cX1_leastTurns 102 = .ok (.i2l, 1) := by decide +kernel
theorem dX1_leastTurns_103 : decode cX1_leastTurns 103 = .ok (.lcmp, 1) := by decide +kernel
theorem dX1_leastTurns_104 : decode cX1_leastTurns 104 = .ok (.ifCond .le 8, 3) := by decide +kernel
theorem dX1_leastTurns_107 : decode cX1_leastTurns 107 = .ok (.ldc2_w 180, 3) := by decide +kernel
theorem dX1_leastTurns_110 : decode cX1_leastTurns 110 = .ok (.lstore 5, 2) := by decide +kernel
theorem dX1_leastTurns_112 : decode cX1_leastTurns 112 = .ok (.iinc 7 1, 3) := by decide +kernel
theorem dX1_leastTurns_115 : decode cX1_leastTurns 115 = .ok (.goto (-94), 3) := by decide +kernel
theorem dX1_leastTurns_118 : decode cX1_leastTurns 118 = .ok (.lload 5, 2) := by decide +kernel
theorem dX1_leastTurns_120 : decode cX1_leastTurns 120 = .ok (.lreturn, 1) := by decide +kernel
theorem dX1_mostTurns_0 : decode cX1_mostTurns 0 = .ok (.aload_n 0, 1) := by decide +kernel
theorem dX1_mostTurns_1 : decode cX1_mostTurns 1 = .ok (.iload_n 1, 1) := by decide +kernel
theorem dX1_mostTurns_2 : decode cX1_mostTurns 2 = .ok (.iconst 1, 1) := by decide +kernel
theorem dX1_mostTurns_3 : decode cX1_mostTurns 3 = .ok (.iadd, 1) := by decide +kernel
theorem dX1_mostTurns_4 : decode cX1_mostTurns 4 = .ok (.invokevirtual 158, 3) := by decide +kernel
theorem dX1_mostTurns_7 : decode cX1_mostTurns 7 = .ok (.istore 4, 2) := by decide +kernel
theorem dX1_mostTurns_9 : decode cX1_mostTurns 9 = .ok (.ldc2_w 182, 3) := by decide +kernel
theorem dX1_mostTurns_12 : decode cX1_mostTurns 12 = .ok (.lstore 5, 2) := by decide +kernel
theorem dX1_mostTurns_14 : decode cX1_mostTurns 14 = .ok (.aload_n 0, 1) := by decide +kernel
theorem dX1_mostTurns_15 : decode cX1_mostTurns 15 = .ok (.iload_n 1, 1) := by decide +kernel
theorem dX1_mostTurns_16 : decode cX1_mostTurns 16 = .ok (.invokevirtual 158, 3) := by decide +kernel
theorem dX1_mostTurns_19 : decode cX1_mostTurns 19 = .ok (.istore 7, 2) := by decide +kernel
theorem dX1_mostTurns_21 : decode cX1_mostTurns 21 = .ok (.iload 7, 2) := by decide +kernel
theorem dX1_mostTurns_23 : decode cX1_mostTurns 23 = .ok (.iload 4, 2) := by decide +kernel
theorem dX1_mostTurns_25 : decode cX1_mostTurns 25 = .ok (.if_icmp .ge 64, 3) := by decide +kernel
theorem dX1_mostTurns_28 : decode cX1_mostTurns 28 = .ok (.aload_n 0, 1) := by decide +kernel
theorem dX1_mostTurns_29 : decode cX1_mostTurns 29 = .ok (.iload_n 1, 1) := by decide +kernel
theorem dX1_mostTurns_30 : decode cX1_mostTurns 30 = .ok (.iload 7, 2) := by decide +kernel
theorem dX1_mostTurns_32 : decode cX1_mostTurns 32 = .ok (.invokevirtual 72, 3) := by decide +kernel
theorem dX1_mostTurns_35 : decode cX1_mostTurns 35 = .ok (.lstore 8, 2) := by decide +kernel
theorem dX1_mostTurns_37 : decode cX1_mostTurns 37 = .ok (.lload 8, 2) := by decide +kernel
theorem dX1_mostTurns_39 : decode cX1_mostTurns 39 = .ok (.lconst 0, 1) := by decide +kernel
theorem dX1_mostTurns_40 : decode cX1_mostTurns 40 = .ok (.lcmp, 1) := by decide +kernel
theorem dX1_mostTurns_41 : decode cX1_mostTurns 41 = .ok (.ifCond .eq 42, 3) := by decide +kernel
theorem dX1_mostTurns_44 : decode cX1_mostTurns 44 = .ok (.lload 8, 2) := by decide +kernel
theorem dX1_mostTurns_46 : decode cX1_mostTurns 46 = .ok (.lconst 0, 1) := by decide +kernel
theorem dX1_mostTurns_47 : decode cX1_mostTurns 47 = .ok (.lcmp, 1) := by decide +kernel
theorem dX1_mostTurns_48 : decode cX1_mostTurns 48 = .ok (.ifCond .le 7, 3) := by decide +kernel
theorem dX1_mostTurns_51 : decode cX1_mostTurns 51 = .ok (.iload_n 3, 1) := by decide +kernel
theorem dX1_mostTurns_52 : decode cX1_mostTurns 52 = .ok (.goto 4, 3) := by decide +kernel
theorem dX1_mostTurns_55 : decode cX1_mostTurns 55 = .ok (.iload_n 2, 1) := by decide +kernel
theorem dX1_mostTurns_56 : decode cX1_mostTurns 56 = .ok (.istore 10, 2) := by decide +kernel
theorem dX1_mostTurns_58 : decode cX1_mostTurns 58 = .ok (.lload 5, 2) := by decide +kernel
theorem dX1_mostTurns_60 : decode cX1_mostTurns 60 = .ok (.iload 10, 2) := by decide +kernel
theorem dX1_mostTurns_62 : decode cX1_mostTurns 62 = .ok (.i2l, 1) := by decide +kernel
theorem dX1_mostTurns_63 : decode cX1_mostTurns 63 = .ok (.aload_n 0, 1) := by decide +kernel
theorem dX1_mostTurns_64 : decode cX1_mostTurns 64 = .ok (.getfield 39, 3) := by decide +kernel
theorem dX1_mostTurns_67 : decode cX1_mostTurns 67 = .ok (.iload_n 1, 1) := by decide +kernel
theorem dX1_mostTurns_68 : decode cX1_mostTurns 68 = .ok (.aaload, 1) := by decide +kernel
theorem dX1_mostTurns_69 : decode cX1_mostTurns 69 = .ok (.iload 7, 2) := by decide +kernel
theorem dX1_mostTurns_71 : decode cX1_mostTurns 71 = .ok (.laload, 1) := by decide +kernel
theorem dX1_mostTurns_72 : decode cX1_mostTurns 72 = .ok (.lsub, 1) := by decide +kernel
theorem dX1_mostTurns_73 : decode cX1_mostTurns 73 = .ok (.lload 8, 2) := by decide +kernel
theorem dX1_mostTurns_75 : decode cX1_mostTurns 75 = .ok (.invokestatic 174, 3) := by decide +kernel
theorem dX1_mostTurns_78 : decode cX1_mostTurns 78 = .ok (.invokestatic 184, 3) := by decide +kernel
theorem dX1_mostTurns_81 : decode cX1_mostTurns 81 = .ok (.lstore 5, 2) := by decide +kernel
theorem dX1_mostTurns_83 : decode cX1_mostTurns 83 = .ok (.iinc 7 1, 3) := by decide +kernel
theorem dX1_mostTurns_86 : decode cX1_mostTurns 86 = .ok (.goto (-65), 3) := by decide +kernel
theorem dX1_mostTurns_89 : decode cX1_mostTurns 89 = .ok (.lload 5, 2) := by decide +kernel
theorem dX1_mostTurns_91 : decode cX1_mostTurns 91 = .ok (.lreturn, 1) := by decide +kernel
theorem dX1_leavesLaterUnknowns_0 : decode cX1_leavesLaterUnknowns 0 = .ok (.aload_n 0, 1) := by decide +kernel
theorem dX1_leavesLaterUnknowns_1 : decode cX1_leavesLaterUnknowns 1 = .ok (.iload_n 1, 1) := by decide +kernel
theorem dX1_leavesLaterUnknowns_2 : decode cX1_leavesLaterUnknowns 2 = .ok (.iconst 1, 1) := by decide +kernel
theorem dX1_leavesLaterUnknowns_3 : decode cX1_leavesLaterUnknowns 3 = .ok (.iadd, 1) := by decide +kernel
theorem dX1_leavesLaterUnknowns_4 : decode cX1_leavesLaterUnknowns 4 = .ok (.invokevirtual 158, 3) := by decide +kernel
theorem dX1_leavesLaterUnknowns_7 : decode cX1_leavesLaterUnknowns 7 = .ok (.istore_n 2, 1) := by decide +kernel
theorem dX1_leavesLaterUnknowns_8 : decode cX1_leavesLaterUnknowns 8 = .ok (.iload_n 2, 1) := by decide +kernel
theorem dX1_leavesLaterUnknowns_9 : decode cX1_leavesLaterUnknowns 9 = .ok (.aload_n 0, 1) := by decide +kernel
theorem dX1_leavesLaterUnknowns_10 : decode cX1_leavesLaterUnknowns 10 = .ok (.getfield 42, 3) := by decide +kernel
theorem dX1_leavesLaterUnknowns_13 : decode cX1_leavesLaterUnknowns 13 = .ok (.if_icmp .ge 22, 3) := by decide +kernel
theorem dX1_leavesLaterUnknowns_16 : decode cX1_leavesLaterUnknowns 16 = .ok (.aload_n 0, 1) := by decide +kernel
theorem dX1_leavesLaterUnknowns_17 : decode cX1_leavesLaterUnknowns 17 = .ok (.iload_n 1, 1) := by decide +kernel
theorem dX1_leavesLaterUnknowns_18 : decode cX1_leavesLaterUnknowns 18 = .ok (.iload_n 2, 1) := by decide +kernel
theorem dX1_leavesLaterUnknowns_19 : decode cX1_leavesLaterUnknowns 19 = .ok (.invokevirtual 72, 3) := by decide +kernel
theorem dX1_leavesLaterUnknowns_22 : decode cX1_leavesLaterUnknowns 22 = .ok (.lconst 0, 1) := by decide +kernel
theorem dX1_leavesLaterUnknowns_23 : decode cX1_leavesLaterUnknowns 23 = .ok (.lcmp, 1) := by decide +kernel
theorem dX1_leavesLaterUnknowns_24 : decode cX1_leavesLaterUnknowns 24 = .ok (.ifCond .eq 5, 3) := by decide +kernel
theorem dX1_leavesLaterUnknowns_27 : decode cX1_leavesLaterUnknowns 27 = .ok (.iconst 0, 1) := by decide +kernel
theorem dX1_leavesLaterUnknowns_28 : decode cX1_leavesLaterUnknowns 28 = .ok (.ireturn, 1) := by decide +kernel
theorem dX1_leavesLaterUnknowns_29 : decode cX1_leavesLaterUnknowns 29 = .ok (.iinc 2 1, 3) := by decide +kernel
theorem dX1_leavesLaterUnknowns_32 : decode cX1_leavesLaterUnknowns 32 = .ok (.goto (-24), 3) := by decide +kernel
theorem dX1_leavesLaterUnknowns_35 : decode cX1_leavesLaterUnknowns 35 = .ok (.iconst 1, 1) := by decide +kernel
theorem dX1_leavesLaterUnknowns_36 : decode cX1_leavesLaterUnknowns 36 = .ok (.ireturn, 1) := by decide +kernel
theorem dX1_turn_0 : decode cX1_turn 0 = .ok (.iconst 0, 1) := by decide +kernel
theorem dX1_turn_1 : decode cX1_turn 1 = .ok (.istore 4, 2) := by decide +kernel
theorem dX1_turn_3 : decode cX1_turn 3 = .ok (.iload 4, 2) := by decide +kernel
theorem dX1_turn_5 : decode cX1_turn 5 = .ok (.aload_n 0, 1) := by decide +kernel
theorem dX1_turn_6 : decode cX1_turn 6 = .ok (.getfield 42, 3) := by decide +kernel
theorem dX1_turn_9 : decode cX1_turn 9 = .ok (.if_icmp .ge 39, 3) := by decide +kernel
theorem dX1_turn_12 : decode cX1_turn 12 = .ok (.aload_n 0, 1) := by decide +kernel
theorem dX1_turn_13 : decode cX1_turn 13 = .ok (.getfield 39, 3) := by decide +kernel
theorem dX1_turn_16 : decode cX1_turn 16 = .ok (.iload_n 1, 1) := by decide +kernel
theorem dX1_turn_17 : decode cX1_turn 17 = .ok (.iconst 1, 1) := by decide +kernel
theorem dX1_turn_18 : decode cX1_turn 18 = .ok (.iadd, 1) := by decide +kernel
theorem dX1_turn_19 : decode cX1_turn 19 = .ok (.aaload, 1) := by decide +kernel
theorem dX1_turn_20 : decode cX1_turn 20 = .ok (.iload 4, 2) := by decide +kernel
theorem dX1_turn_22 : decode cX1_turn 22 = .ok (.aload_n 0, 1) := by decide +kernel
theorem dX1_turn_23 : decode cX1_turn 23 = .ok (.getfield 39, 3) := by decide +kernel
theorem dX1_turn_26 : decode cX1_turn 26 = .ok (.iload_n 1, 1) := by decide +kernel
theorem dX1_turn_27 : decode cX1_turn 27 = .ok (.aaload, 1) := by decide +kernel
theorem dX1_turn_28 : decode cX1_turn 28 = .ok (.iload 4, 2) := by decide +kernel
theorem dX1_turn_30 : decode cX1_turn 30 = .ok (.laload, 1) := by decide +kernel
theorem dX1_turn_31 : decode cX1_turn 31 = .ok (.lload_n 2, 1) := by decide +kernel
theorem dX1_turn_32 : decode cX1_turn 32 = .ok (.aload_n 0, 1) := by decide +kernel
theorem dX1_turn_33 : decode cX1_turn 33 = .ok (.iload_n 1, 1) := by decide +kernel
theorem dX1_turn_34 : decode cX1_turn 34 = .ok (.iload 4, 2) := by decide +kernel
theorem dX1_turn_36 : decode cX1_turn 36 = .ok (.invokevirtual 72, 3) := by decide +kernel
theorem dX1_turn_39 : decode cX1_turn 39 = .ok (.lmul, 1) := by decide +kernel
theorem dX1_turn_40 : decode cX1_turn 40 = .ok (.ladd, 1) := by decide +kernel
theorem dX1_turn_41 : decode cX1_turn 41 = .ok (.lastore, 1) := by decide +kernel
theorem dX1_turn_42 : decode cX1_turn 42 = .ok (.iinc 4 1, 3) := by decide +kernel
theorem dX1_turn_45 : decode cX1_turn 45 = .ok (.goto (-42), 3) := by decide +kernel
theorem dX1_turn_48 : decode cX1_turn 48 = .ok (.return_, 1) := by decide +kernel
theorem dX1_formRemainders_0 : decode cX1_formRemainders 0 = .ok (.aload_n 0, 1) := by decide +kernel
theorem dX1_formRemainders_1 : decode cX1_formRemainders 1 = .ok (.getfield 27, 3) := by decide +kernel
theorem dX1_formRemainders_4 : decode cX1_formRemainders 4 = .ok (.aload_n 0, 1) := by decide +kernel
theorem dX1_formRemainders_5 : decode cX1_formRemainders 5 = .ok (.getfield 76, 3) := by decide +kernel
theorem dX1_formRemainders_8 : decode cX1_formRemainders 8 = .ok (.aload_n 0, 1) := by decide +kernel
theorem dX1_formRemainders_9 : decode cX1_formRemainders 9 = .ok (.getfield 46, 3) := by decide +kernel
theorem dX1_formRemainders_12 : decode cX1_formRemainders 12 = .ok (.iadd, 1) := by decide +kernel
theorem dX1_formRemainders_13 : decode cX1_formRemainders 13 = .ok (.aload_n 0, 1) := by decide +kernel
theorem dX1_formRemainders_14 : decode cX1_formRemainders 14 = .ok (.getfield 46, 3) := by decide +kernel
theorem dX1_formRemainders_17 : decode cX1_formRemainders 17 = .ok (.invokevirtual 128, 3) := by decide +kernel
theorem dX1_formRemainders_20 : decode cX1_formRemainders 20 = .ok (.iconst 0, 1) := by decide +kernel
theorem dX1_formRemainders_21 : decode cX1_formRemainders 21 = .ok (.istore_n 2, 1) := by decide +kernel
theorem dX1_formRemainders_22 : decode cX1_formRemainders 22 = .ok (.iload_n 2, 1) := by decide +kernel
theorem dX1_formRemainders_23 : decode cX1_formRemainders 23 = .ok (.aload_n 0, 1) := by decide +kernel
theorem dX1_formRemainders_24 : decode cX1_formRemainders 24 = .ok (.getfield 46, 3) := by decide +kernel
theorem dX1_formRemainders_27 : decode cX1_formRemainders 27 = .ok (.if_icmp .ge 59, 3) := by decide +kernel
theorem dX1_formRemainders_30 : decode cX1_formRemainders 30 = .ok (.iconst 0, 1) := by decide +kernel
theorem dX1_formRemainders_31 : decode cX1_formRemainders 31 = .ok (.istore_n 3, 1) := by decide +kernel
theorem dX1_formRemainders_32 : decode cX1_formRemainders 32 = .ok (.iload_n 3, 1) := by decide +kernel
theorem dX1_formRemainders_33 : decode cX1_formRemainders 33 = .ok (.aload_n 0, 1) := by decide +kernel
theorem dX1_formRemainders_34 : decode cX1_formRemainders 34 = .ok (.getfield 76, 3) := by decide +kernel
theorem dX1_formRemainders_37 : decode cX1_formRemainders 37 = .ok (.if_icmp .ge 27, 3) := by decide +kernel
theorem dX1_formRemainders_40 : decode cX1_formRemainders 40 = .ok (.aload_n 0, 1) := by decide +kernel
theorem dX1_formRemainders_41 : decode cX1_formRemainders 41 = .ok (.getfield 27, 3) := by decide +kernel
theorem dX1_formRemainders_44 : decode cX1_formRemainders 44 = .ok (.iload_n 3, 1) := by decide +kernel
theorem dX1_formRemainders_45 : decode cX1_formRemainders 45 = .ok (.iload_n 2, 1) := by decide +kernel
theorem dX1_formRemainders_46 : decode cX1_formRemainders 46 = .ok (.aload_n 0, 1) := by decide +kernel
theorem dX1_formRemainders_47 : decode cX1_formRemainders 47 = .ok (.getfield 23, 3) := by decide +kernel
theorem dX1_formRemainders_50 : decode cX1_formRemainders 50 = .ok (.iload_n 3, 1) := by decide +kernel
theorem dX1_formRemainders_51 : decode cX1_formRemainders 51 = .ok (.iload_n 2, 1) := by decide +kernel
theorem dX1_formRemainders_52 : decode cX1_formRemainders 52 = .ok (.invokevirtual 79, 3) := by decide +kernel
theorem dX1_formRemainders_55 : decode cX1_formRemainders 55 = .ok (.invokevirtual 131, 3) := by decide +kernel
theorem dX1_formRemainders_58 : decode cX1_formRemainders 58 = .ok (.iinc 3 1, 3) := by decide +kernel
theorem dX1_formRemainders_61 : decode cX1_formRemainders 61 = .ok (.goto (-29), 3) := by decide +kernel
theorem dX1_formRemainders_64 : decode cX1_formRemainders 64 = .ok (.aload_n 0, 1) := by decide +kernel
theorem dX1_formRemainders_65 : decode cX1_formRemainders 65 = .ok (.getfield 27, 3) := by decide +kernel
theorem dX1_formRemainders_68 : decode cX1_formRemainders 68 = .ok (.aload_n 0, 1) := by decide +kernel
theorem dX1_formRemainders_69 : decode cX1_formRemainders 69 = .ok (.getfield 76, 3) := by decide +kernel
theorem dX1_formRemainders_72 : decode cX1_formRemainders 72 = .ok (.iload_n 2, 1) := by decide +kernel
theorem dX1_formRemainders_73 : decode cX1_formRemainders 73 = .ok (.iadd, 1) := by decide +kernel
theorem dX1_formRemainders_74 : decode cX1_formRemainders 74 = .ok (.iload_n 2, 1) := by decide +kernel
theorem dX1_formRemainders_75 : decode cX1_formRemainders 75 = .ok (.iload_n 1, 1) := by decide +kernel
theorem dX1_formRemainders_76 : decode cX1_formRemainders 76 = .ok (.i2l, 1) := by decide +kernel
theorem dX1_formRemainders_77 : decode cX1_formRemainders 77 = .ok (.invokevirtual 131, 3) := by decide +kernel
theorem dX1_formRemainders_80 : decode cX1_formRemainders 80 = .ok (.iinc 2 1, 3) := by decide +kernel
theorem dX1_formRemainders_83 : decode cX1_formRemainders 83 = .ok (.goto (-61), 3) := by decide +kernel
theorem dX1_formRemainders_86 : decode cX1_formRemainders 86 = .ok (.aload_n 0, 1) := by decide +kernel
theorem dX1_formRemainders_87 : decode cX1_formRemainders 87 = .ok (.getfield 27, 3) := by decide +kernel
theorem dX1_formRemainders_90 : decode cX1_formRemainders 90 = .ok (.invokevirtual 135, 3) := by decide +kernel
theorem dX1_formRemainders_93 : decode cX1_formRemainders 93 = .ok (.return_, 1) := by decide +kernel
theorem dX1_waysToEachSum_0 : decode cX1_waysToEachSum 0 = .ok (.lconst 1, 1) := by decide +kernel
theorem dX1_waysToEachSum_1 : decode cX1_waysToEachSum 1 = .ok (.lstore_n 2, 1) := by decide +kernel
theorem dX1_waysToEachSum_2 : decode cX1_waysToEachSum 2 = .ok (.iconst 0, 1) := by decide +kernel
theorem dX1_waysToEachSum_3 : decode cX1_waysToEachSum 3 = .ok (.istore 4, 2) := by decide +kernel
theorem dX1_waysToEachSum_5 : decode cX1_waysToEachSum 5 = .ok (.iload 4, 2) := by decide +kernel
theorem dX1_waysToEachSum_7 : decode cX1_waysToEachSum 7 = .ok (.aload_n 0, 1) := by decide +kernel
theorem dX1_waysToEachSum_8 : decode cX1_waysToEachSum 8 = .ok (.getfield 42, 3) := by decide +kernel
theorem dX1_waysToEachSum_11 : decode cX1_waysToEachSum 11 = .ok (.if_icmp .ge 14, 3) := by decide +kernel
theorem dX1_waysToEachSum_14 : decode cX1_waysToEachSum 14 = .ok (.lload_n 2, 1) := by decide +kernel
theorem dX1_waysToEachSum_15 : decode cX1_waysToEachSum 15 = .ok (.iload_n 1, 1) := by decide +kernel
theorem dX1_waysToEachSum_16 : decode cX1_waysToEachSum 16 = .ok (.i2l, 1) := by decide +kernel
theorem dX1_waysToEachSum_17 : decode cX1_waysToEachSum 17 = .ok (.lmul, 1) := by decide +kernel
theorem dX1_waysToEachSum_18 : decode cX1_waysToEachSum 18 = .ok (.lstore_n 2, 1) := by decide +kernel
theorem dX1_waysToEachSum_19 : decode cX1_waysToEachSum 19 = .ok (.iinc 4 1, 3) := by decide +kernel
theorem dX1_waysToEachSum_22 : decode cX1_waysToEachSum 22 = .ok (.goto (-17), 3) := by decide +kernel
theorem dX1_waysToEachSum_25 : decode cX1_waysToEachSum 25 = .ok (.lconst 1, 1) := by decide +kernel
theorem dX1_waysToEachSum_26 : decode cX1_waysToEachSum 26 = .ok (.lstore 4, 2) := by decide +kernel
theorem dX1_waysToEachSum_28 : decode cX1_waysToEachSum 28 = .ok (.iconst 0, 1) := by decide +kernel
theorem dX1_waysToEachSum_29 : decode cX1_waysToEachSum 29 = .ok (.istore 6, 2) := by decide +kernel
theorem dX1_waysToEachSum_31 : decode cX1_waysToEachSum 31 = .ok (.iload 6, 2) := by decide +kernel
theorem dX1_waysToEachSum_33 : decode cX1_waysToEachSum 33 = .ok (.aload_n 0, 1) := by decide +kernel
theorem dX1_waysToEachSum_34 : decode cX1_waysToEachSum 34 = .ok (.getfield 46, 3) := by decide +kernel
theorem dX1_waysToEachSum_37 : decode cX1_waysToEachSum 37 = .ok (.if_icmp .ge 30, 3) := by decide +kernel
theorem dX1_waysToEachSum_40 : decode cX1_waysToEachSum 40 = .ok (.lload_n 2, 1) := by decide +kernel
theorem dX1_waysToEachSum_41 : decode cX1_waysToEachSum 41 = .ok (.aload_n 0, 1) := by decide +kernel
theorem dX1_waysToEachSum_42 : decode cX1_waysToEachSum 42 = .ok (.getfield 27, 3) := by decide +kernel
theorem dX1_waysToEachSum_45 : decode cX1_waysToEachSum 45 = .ok (.iload 6, 2) := by decide +kernel
theorem dX1_waysToEachSum_47 : decode cX1_waysToEachSum 47 = .ok (.iload 6, 2) := by decide +kernel
theorem dX1_waysToEachSum_49 : decode cX1_waysToEachSum 49 = .ok (.invokevirtual 79, 3) := by decide +kernel
theorem dX1_waysToEachSum_52 : decode cX1_waysToEachSum 52 = .ok (.lmul, 1) := by decide +kernel
theorem dX1_waysToEachSum_53 : decode cX1_waysToEachSum 53 = .ok (.lstore_n 2, 1) := by decide +kernel
theorem dX1_waysToEachSum_54 : decode cX1_waysToEachSum 54 = .ok (.lload 4, 2) := by decide +kernel
theorem dX1_waysToEachSum_56 : decode cX1_waysToEachSum 56 = .ok (.iload_n 1, 1) := by decide +kernel
theorem dX1_waysToEachSum_57 : decode cX1_waysToEachSum 57 = .ok (.i2l, 1) := by decide +kernel
theorem dX1_waysToEachSum_58 : decode cX1_waysToEachSum 58 = .ok (.lmul, 1) := by decide +kernel
theorem dX1_waysToEachSum_59 : decode cX1_waysToEachSum 59 = .ok (.lstore 4, 2) := by decide +kernel
theorem dX1_waysToEachSum_61 : decode cX1_waysToEachSum 61 = .ok (.iinc 6 1, 3) := by decide +kernel
theorem dX1_waysToEachSum_64 : decode cX1_waysToEachSum 64 = .ok (.goto (-33), 3) := by decide +kernel
theorem dX1_waysToEachSum_67 : decode cX1_waysToEachSum 67 = .ok (.lload 4, 2) := by decide +kernel
theorem dX1_waysToEachSum_69 : decode cX1_waysToEachSum 69 = .ok (.lconst 0, 1) := by decide +kernel
theorem dX1_waysToEachSum_70 : decode cX1_waysToEachSum 70 = .ok (.lcmp, 1) := by decide +kernel
theorem dX1_waysToEachSum_71 : decode cX1_waysToEachSum 71 = .ok (.ifCond .ne 7, 3) := by decide +kernel
theorem dX1_waysToEachSum_74 : decode cX1_waysToEachSum 74 = .ok (.lconst 0, 1) := by decide +kernel
theorem dX1_waysToEachSum_75 : decode cX1_waysToEachSum 75 = .ok (.goto 7, 3) := by decide +kernel
theorem dX1_waysToEachSum_78 : decode cX1_waysToEachSum 78 = .ok (.lload_n 2, 1) := by decide +kernel
theorem dX1_waysToEachSum_79 : decode cX1_waysToEachSum 79 = .ok (.lload 4, 2) := by decide +kernel
theorem dX1_waysToEachSum_81 : decode cX1_waysToEachSum 81 = .ok (.ldiv, 1) := by decide +kernel
theorem dX1_waysToEachSum_82 : decode cX1_waysToEachSum 82 = .ok (.lreturn, 1) := by decide +kernel
theorem dX1_solutionHolds_0 : decode cX1_solutionHolds 0 = .ok (.iconst 0, 1) := by decide +kernel
theorem dX1_solutionHolds_1 : decode cX1_solutionHolds 1 = .ok (.istore_n 1, 1) := by decide +kernel
theorem dX1_solutionHolds_2 : decode cX1_solutionHolds 2 = .ok (.iload_n 1, 1) := by decide +kernel
theorem dX1_solutionHolds_3 : decode cX1_solutionHolds 3 = .ok (.aload_n 0, 1) := by decide +kernel
theorem dX1_solutionHolds_4 : decode cX1_solutionHolds 4 = .ok (.getfield 46, 3) := by decide +kernel
theorem dX1_solutionHolds_7 : decode cX1_solutionHolds 7 = .ok (.if_icmp .ge 31, 3) := by decide +kernel
theorem dX1_solutionHolds_10 : decode cX1_solutionHolds 10 = .ok (.aload_n 0, 1) := by decide +kernel
theorem dX1_solutionHolds_11 : decode cX1_solutionHolds 11 = .ok (.iload_n 1, 1) := by decide +kernel
theorem dX1_solutionHolds_12 : decode cX1_solutionHolds 12 = .ok (.aload_n 0, 1) := by decide +kernel
theorem dX1_solutionHolds_13 : decode cX1_solutionHolds 13 = .ok (.getfield 30, 3) := by decide +kernel
theorem dX1_solutionHolds_16 : decode cX1_solutionHolds 16 = .ok (.invokevirtual 187, 3) := by decide +kernel
theorem dX1_solutionHolds_19 : decode cX1_solutionHolds 19 = .ok (.aload_n 0, 1) := by decide +kernel
theorem dX1_solutionHolds_20 : decode cX1_solutionHolds 20 = .ok (.getfield 14, 3) := by decide +kernel
theorem dX1_solutionHolds_23 : decode cX1_solutionHolds 23 = .ok (.iload_n 1, 1) := by decide +kernel
theorem dX1_solutionHolds_24 : decode cX1_solutionHolds 24 = .ok (.iaload, 1) := by decide +kernel
theorem dX1_solutionHolds_25 : decode cX1_solutionHolds 25 = .ok (.i2l, 1) := by decide +kernel
theorem dX1_solutionHolds_26 : decode cX1_solutionHolds 26 = .ok (.lcmp, 1) := by decide +kernel
theorem dX1_solutionHolds_27 : decode cX1_solutionHolds 27 = .ok (.ifCond .eq 5, 3) := by decide +kernel
theorem dX1_solutionHolds_30 : decode cX1_solutionHolds 30 = .ok (.iconst 0, 1) := by decide +kernel
theorem dX1_solutionHolds_31 : decode cX1_solutionHolds 31 = .ok (.ireturn, 1) := by decide +kernel
theorem dX1_solutionHolds_32 : decode cX1_solutionHolds 32 = .ok (.iinc 1 1, 3) := by decide +kernel
theorem dX1_solutionHolds_35 : decode cX1_solutionHolds 35 = .ok (.goto (-33), 3) := by decide +kernel
theorem dX1_solutionHolds_38 : decode cX1_solutionHolds 38 = .ok (.iconst 1, 1) := by decide +kernel
theorem dX1_solutionHolds_39 : decode cX1_solutionHolds 39 = .ok (.ireturn, 1) := by decide +kernel
theorem dX1_rowHolds_0 : decode cX1_rowHolds 0 = .ok (.iconst 0, 1) := by decide +kernel
theorem dX1_rowHolds_1 : decode cX1_rowHolds 1 = .ok (.istore_n 2, 1) := by decide +kernel
theorem dX1_rowHolds_2 : decode cX1_rowHolds 2 = .ok (.iload_n 2, 1) := by decide +kernel
theorem dX1_rowHolds_3 : decode cX1_rowHolds 3 = .ok (.aload_n 0, 1) := by decide +kernel
theorem dX1_rowHolds_4 : decode cX1_rowHolds 4 = .ok (.getfield 46, 3) := by decide +kernel
theorem dX1_rowHolds_7 : decode cX1_rowHolds 7 = .ok (.if_icmp .ge 37, 3) := by decide +kernel
theorem dX1_rowHolds_10 : decode cX1_rowHolds 10 = .ok (.aload_n 0, 1) := by decide +kernel
theorem dX1_rowHolds_11 : decode cX1_rowHolds 11 = .ok (.iload_n 2, 1) := by decide +kernel
theorem dX1_rowHolds_12 : decode cX1_rowHolds 12 = .ok (.aload_n 0, 1) := by decide +kernel
theorem dX1_rowHolds_13 : decode cX1_rowHolds 13 = .ok (.getfield 23, 3) := by decide +kernel
theorem dX1_rowHolds_16 : decode cX1_rowHolds 16 = .ok (.iload_n 1, 1) := by decide +kernel
theorem dX1_rowHolds_17 : decode cX1_rowHolds 17 = .ok (.invokevirtual 191, 3) := by decide +kernel
theorem dX1_rowHolds_20 : decode cX1_rowHolds 20 = .ok (.invokevirtual 187, 3) := by decide +kernel
theorem dX1_rowHolds_23 : decode cX1_rowHolds 23 = .ok (.aload_n 0, 1) := by decide +kernel
theorem dX1_rowHolds_24 : decode cX1_rowHolds 24 = .ok (.getfield 23, 3) := by decide +kernel
theorem dX1_rowHolds_27 : decode cX1_rowHolds 27 = .ok (.iload_n 1, 1) := by decide +kernel
theorem dX1_rowHolds_28 : decode cX1_rowHolds 28 = .ok (.iload_n 2, 1) := by decide +kernel
theorem dX1_rowHolds_29 : decode cX1_rowHolds 29 = .ok (.invokevirtual 79, 3) := by decide +kernel
theorem dX1_rowHolds_32 : decode cX1_rowHolds 32 = .ok (.lcmp, 1) := by decide +kernel
theorem dX1_rowHolds_33 : decode cX1_rowHolds 33 = .ok (.ifCond .eq 5, 3) := by decide +kernel
theorem dX1_rowHolds_36 : decode cX1_rowHolds 36 = .ok (.iconst 0, 1) := by decide +kernel
theorem dX1_rowHolds_37 : decode cX1_rowHolds 37 = .ok (.ireturn, 1) := by decide +kernel
theorem dX1_rowHolds_38 : decode cX1_rowHolds 38 = .ok (.iinc 2 1, 3) := by decide +kernel
theorem dX1_rowHolds_41 : decode cX1_rowHolds 41 = .ok (.goto (-39), 3) := by decide +kernel
theorem dX1_rowHolds_44 : decode cX1_rowHolds 44 = .ok (.iconst 1, 1) := by decide +kernel
theorem dX1_rowHolds_45 : decode cX1_rowHolds 45 = .ok (.ireturn, 1) := by decide +kernel
theorem dX1_sumOfUnknowns_0 : decode cX1_sumOfUnknowns 0 = .ok (.lconst 0, 1) := by decide +kernel
theorem dX1_sumOfUnknowns_1 : decode cX1_sumOfUnknowns 1 = .ok (.lstore_n 3, 1) := by decide +kernel
theorem dX1_sumOfUnknowns_2 : decode cX1_sumOfUnknowns 2 = .ok (.iconst 0, 1) := by decide +kernel
theorem dX1_sumOfUnknowns_3 : decode cX1_sumOfUnknowns 3 = .ok (.istore 5, 2) := by decide +kernel
theorem dX1_sumOfUnknowns_5 : decode cX1_sumOfUnknowns 5 = .ok (.iload 5, 2) := by decide +kernel
theorem dX1_sumOfUnknowns_7 : decode cX1_sumOfUnknowns 7 = .ok (.aload_n 0, 1) := by decide +kernel
theorem dX1_sumOfUnknowns_8 : decode cX1_sumOfUnknowns 8 = .ok (.getfield 42, 3) := by decide +kernel
theorem dX1_sumOfUnknowns_11 : decode cX1_sumOfUnknowns 11 = .ok (.if_icmp .ge 32, 3) := by decide +kernel
theorem dX1_sumOfUnknowns_14 : decode cX1_sumOfUnknowns 14 = .ok (.lload_n 3, 1) := by decide +kernel
theorem dX1_sumOfUnknowns_15 : decode cX1_sumOfUnknowns 15 = .ok (.aload_n 0, 1) := by decide +kernel
theorem dX1_sumOfUnknowns_16 : decode cX1_sumOfUnknowns 16 = .ok (.getfield 11, 3) := by decide +kernel
theorem dX1_sumOfUnknowns_19 : decode cX1_sumOfUnknowns 19 = .ok (.iload_n 1, 1) := by decide +kernel
theorem dX1_sumOfUnknowns_20 : decode cX1_sumOfUnknowns 20 = .ok (.aaload, 1) := by decide +kernel
theorem dX1_sumOfUnknowns_21 : decode cX1_sumOfUnknowns 21 = .ok (.iload 5, 2) := by decide +kernel
theorem dX1_sumOfUnknowns_23 : decode cX1_sumOfUnknowns 23 = .ok (.iaload, 1) := by decide +kernel
theorem dX1_sumOfUnknowns_24 : decode cX1_sumOfUnknowns 24 = .ok (.i2l, 1) := by decide +kernel
theorem dX1_sumOfUnknowns_25 : decode cX1_sumOfUnknowns 25 = .ok (.aload_n 2, 1) := by decide +kernel
theorem dX1_sumOfUnknowns_26 : decode cX1_sumOfUnknowns 26 = .ok (.aload_n 0, 1) := by decide +kernel
theorem dX1_sumOfUnknowns_27 : decode cX1_sumOfUnknowns 27 = .ok (.getfield 46, 3) := by decide +kernel
theorem dX1_sumOfUnknowns_30 : decode cX1_sumOfUnknowns 30 = .ok (.iload 5, 2) := by decide +kernel
theorem dX1_sumOfUnknowns_32 : decode cX1_sumOfUnknowns 32 = .ok (.iadd, 1) := by decide +kernel
theorem dX1_sumOfUnknowns_33 : decode cX1_sumOfUnknowns 33 = .ok (.laload, 1) := by decide +kernel
theorem dX1_sumOfUnknowns_34 : decode cX1_sumOfUnknowns 34 = .ok (.lmul, 1) := by decide +kernel
theorem dX1_sumOfUnknowns_35 : decode cX1_sumOfUnknowns 35 = .ok (.ladd, 1) := by decide +kernel
theorem dX1_sumOfUnknowns_36 : decode cX1_sumOfUnknowns 36 = .ok (.lstore_n 3, 1) := by decide +kernel
theorem dX1_sumOfUnknowns_37 : decode cX1_sumOfUnknowns 37 = .ok (.iinc 5 1, 3) := by decide +kernel
theorem dX1_sumOfUnknowns_40 : decode cX1_sumOfUnknowns 40 = .ok (.goto (-35), 3) := by decide +kernel
theorem dX1_sumOfUnknowns_43 : decode cX1_sumOfUnknowns 43 = .ok (.lload_n 3, 1) := by decide +kernel
theorem dX1_sumOfUnknowns_44 : decode cX1_sumOfUnknowns 44 = .ok (.lreturn, 1) := by decide +kernel
end
section
theorem dX2_init_0 : decode cX2_init 0 = .ok (.aload_n 0, 1) := by decide +kernel
theorem dX2_init_1 : decode cX2_init 1 = .ok (.invokespecial 1, 3) := by decide +kernel
theorem dX2_init_4 : decode cX2_init 4 = .ok (.aload_n 0, 1) := by decide +kernel
theorem dX2_init_5 : decode cX2_init 5 = .ok (.iconst 1, 1) := by decide +kernel
theorem dX2_init_6 : decode cX2_init 6 = .ok (.putfield 7, 3) := by decide +kernel
theorem dX2_init_9 : decode cX2_init 9 = .ok (.aload_n 0, 1) := by decide +kernel
theorem dX2_init_10 : decode cX2_init 10 = .ok (.bipush 12, 2) := by decide +kernel
theorem dX2_init_12 : decode cX2_init 12 = .ok (.newarray .int, 2) := by decide +kernel
theorem dX2_init_14 : decode cX2_init 14 = .ok (.putfield 13, 3) := by decide +kernel
theorem dX2_init_17 : decode cX2_init 17 = .ok (.aload_n 0, 1) := by decide +kernel
theorem dX2_init_18 : decode cX2_init 18 = .ok (.iconst 3, 1) := by decide +kernel
theorem dX2_init_19 : decode cX2_init 19 = .ok (.newarray .int, 2) := by decide +kernel
theorem dX2_init_21 : decode cX2_init 21 = .ok (.putfield 17, 3) := by decide +kernel
theorem dX2_init_24 : decode cX2_init 24 = .ok (.aload_n 0, 1) := by decide +kernel
theorem dX2_init_25 : decode cX2_init 25 = .ok (.bipush 64, 2) := by decide +kernel
theorem dX2_init_27 : decode cX2_init 27 = .ok (.newarray .long, 2) := by decide +kernel
theorem dX2_init_29 : decode cX2_init 29 = .ok (.putfield 20, 3) := by decide +kernel
theorem dX2_init_32 : decode cX2_init 32 = .ok (.aload_n 0, 1) := by decide +kernel
theorem dX2_init_33 : decode cX2_init 33 = .ok (.bipush 8, 2) := by decide +kernel
theorem dX2_init_35 : decode cX2_init 35 = .ok (.newarray .int, 2) := by decide +kernel
theorem dX2_init_37 : decode cX2_init 37 = .ok (.putfield 24, 3) := by decide +kernel
theorem dX2_init_40 : decode cX2_init 40 = .ok (.aload_n 0, 1) := by decide +kernel
theorem dX2_init_41 : decode cX2_init 41 = .ok (.iconst 3, 1) := by decide +kernel
theorem dX2_init_42 : decode cX2_init 42 = .ok (.newarray .long, 2) := by decide +kernel
theorem dX2_init_44 : decode cX2_init 44 = .ok (.putfield 27, 3) := by decide +kernel
theorem dX2_init_47 : decode cX2_init 47 = .ok (.aload_n 0, 1) := by decide +kernel
theorem dX2_init_48 : decode cX2_init 48 = .ok (.iconst 4, 1) := by decide +kernel
theorem dX2_init_49 : decode cX2_init 49 = .ok (.newarray .long, 2) := by decide +kernel
theorem dX2_init_51 : decode cX2_init 51 = .ok (.putfield 30, 3) := by decide +kernel
theorem dX2_init_54 : decode cX2_init 54 = .ok (.return_, 1) := by decide +kernel
theorem dX2_unknowns_0 : decode cX2_unknowns 0 = .ok (.iload_n 1, 1) := by decide +kernel
theorem dX2_unknowns_1 : decode cX2_unknowns 1 = .ok (.iconst 1, 1) := by decide +kernel
theorem dX2_unknowns_2 : decode cX2_unknowns 2 = .ok (.if_icmp .lt 8, 3) := by decide +kernel
theorem dX2_unknowns_5 : decode cX2_unknowns 5 = .ok (.iload_n 1, 1) := by decide +kernel
theorem dX2_unknowns_6 : decode cX2_unknowns 6 = .ok (.iconst 4, 1) := by decide +kernel
theorem dX2_unknowns_7 : decode cX2_unknowns 7 = .ok (.if_icmp .le 5, 3) := by decide +kernel
theorem dX2_unknowns_10 : decode cX2_unknowns 10 = .ok (.iconst 0, 1) := by decide +kernel
theorem dX2_unknowns_11 : decode cX2_unknowns 11 = .ok (.ireturn, 1) := by decide +kernel
theorem dX2_unknowns_12 : decode cX2_unknowns 12 = .ok (.aload_n 0, 1) := by decide +kernel
theorem dX2_unknowns_13 : decode cX2_unknowns 13 = .ok (.iload_n 1, 1) := by decide +kernel
theorem dX2_unknowns_14 : decode cX2_unknowns 14 = .ok (.putfield 7, 3) := by decide +kernel
theorem dX2_unknowns_17 : decode cX2_unknowns 17 = .ok (.aload_n 0, 1) := by decide +kernel
theorem dX2_unknowns_18 : decode cX2_unknowns 18 = .ok (.iconst 0, 1) := by decide +kernel
theorem dX2_unknowns_19 : decode cX2_unknowns 19 = .ok (.putfield 33, 3) := by decide +kernel
theorem dX2_unknowns_22 : decode cX2_unknowns 22 = .ok (.iconst 1, 1) := by decide +kernel
theorem dX2_unknowns_23 : decode cX2_unknowns 23 = .ok (.ireturn, 1) := by decide +kernel
theorem dX2_isSum_0 : decode cX2_isSum 0 = .ok (.iload_n 0, 1) := by decide +kernel
theorem dX2_isSum_1 : decode cX2_isSum 1 = .ok (.sipush (-1000), 3) := by decide +kernel
theorem dX2_isSum_4 : decode cX2_isSum 4 = .ok (.if_icmp .lt 14, 3) := by decide +kernel
theorem dX2_isSum_7 : decode cX2_isSum 7 = .ok (.iload_n 0, 1) := by decide +kernel
theorem dX2_isSum_8 : decode cX2_isSum 8 = .ok (.sipush 1000, 3) := by decide +kernel
theorem dX2_isSum_11 : decode cX2_isSum 11 = .ok (.if_icmp .gt 7, 3) := by decide +kernel
theorem dX2_isSum_14 : decode cX2_isSum 14 = .ok (.iconst 1, 1) := by decide +kernel
theorem dX2_isSum_15 : decode cX2_isSum 15 = .ok (.goto 4, 3) := by decide +kernel
theorem dX2_isSum_18 : decode cX2_isSum 18 = .ok (.iconst 0, 1) := by decide +kernel
theorem dX2_isSum_19 : decode cX2_isSum 19 = .ok (.ireturn, 1) := by decide +kernel
theorem dX2_isFactor_0 : decode cX2_isFactor 0 = .ok (.iload_n 1, 1) := by decide +kernel
theorem dX2_isFactor_1 : decode cX2_isFactor 1 = .ok (.aload_n 0, 1) := by decide +kernel
theorem dX2_isFactor_2 : decode cX2_isFactor 2 = .ok (.getfield 7, 3) := by decide +kernel
theorem dX2_isFactor_5 : decode cX2_isFactor 5 = .ok (.if_icmp .ge 15, 3) := by decide +kernel
theorem dX2_isFactor_8 : decode cX2_isFactor 8 = .ok (.iload_n 2, 1) := by decide +kernel
theorem dX2_isFactor_9 : decode cX2_isFactor 9 = .ok (.bipush (-9), 2) := by decide +kernel
theorem dX2_isFactor_11 : decode cX2_isFactor 11 = .ok (.if_icmp .lt 13, 3) := by decide +kernel
theorem dX2_isFactor_14 : decode cX2_isFactor 14 = .ok (.iload_n 2, 1) := by decide +kernel
theorem dX2_isFactor_15 : decode cX2_isFactor 15 = .ok (.bipush 9, 2) := by decide +kernel
theorem dX2_isFactor_17 : decode cX2_isFactor 17 = .ok (.if_icmp .gt 7, 3) := by decide +kernel
theorem dX2_isFactor_20 : decode cX2_isFactor 20 = .ok (.iconst 1, 1) := by decide +kernel
theorem dX2_isFactor_21 : decode cX2_isFactor 21 = .ok (.goto 4, 3) := by decide +kernel
theorem dX2_isFactor_24 : decode cX2_isFactor 24 = .ok (.iconst 0, 1) := by decide +kernel
theorem dX2_isFactor_25 : decode cX2_isFactor 25 = .ok (.ireturn, 1) := by decide +kernel
theorem dX2_equation_0 : decode cX2_equation 0 = .ok (.aload_n 0, 1) := by decide +kernel
theorem dX2_equation_1 : decode cX2_equation 1 = .ok (.iconst 0, 1) := by decide +kernel
theorem dX2_equation_2 : decode cX2_equation 2 = .ok (.iload_n 1, 1) := by decide +kernel
theorem dX2_equation_3 : decode cX2_equation 3 = .ok (.invokevirtual 36, 3) := by decide +kernel
theorem dX2_equation_6 : decode cX2_equation 6 = .ok (.ifCond .eq 47, 3) := by decide +kernel
theorem dX2_equation_9 : decode cX2_equation 9 = .ok (.aload_n 0, 1) := by decide +kernel
theorem dX2_equation_10 : decode cX2_equation 10 = .ok (.iconst 1, 1) := by decide +kernel
theorem dX2_equation_11 : decode cX2_equation 11 = .ok (.iload_n 2, 1) := by decide +kernel
theorem dX2_equation_12 : decode cX2_equation 12 = .ok (.invokevirtual 36, 3) := by decide +kernel
theorem dX2_equation_15 : decode cX2_equation 15 = .ok (.ifCond .eq 38, 3) := by decide +kernel
theorem dX2_equation_18 : decode cX2_equation 18 = .ok (.aload_n 0, 1) := by decide +kernel
theorem dX2_equation_19 : decode cX2_equation 19 = .ok (.iconst 2, 1) := by decide +kernel
theorem dX2_equation_20 : decode cX2_equation 20 = .ok (.iload_n 3, 1) := by decide +kernel
theorem dX2_equation_21 : decode cX2_equation 21 = .ok (.invokevirtual 36, 3) := by decide +kernel
theorem dX2_equation_24 : decode cX2_equation 24 = .ok (.ifCond .eq 29, 3) := by decide +kernel
theorem dX2_equation_27 : decode cX2_equation 27 = .ok (.aload_n 0, 1) := by decide +kernel
theorem dX2_equation_28 : decode cX2_equation 28 = .ok (.iconst 3, 1) := by decide +kernel
theorem dX2_equation_29 : decode cX2_equation 29 = .ok (.iload 4, 2) := by decide +kernel
theorem dX2_equation_31 : decode cX2_equation 31 = .ok (.invokevirtual 36, 3) := by decide +kernel
theorem dX2_equation_34 : decode cX2_equation 34 = .ok (.ifCond .eq 19, 3) := by decide +kernel
theorem dX2_equation_37 : decode cX2_equation 37 = .ok (.iload 5, 2) := by decide +kernel
theorem dX2_equation_39 : decode cX2_equation 39 = .ok (.invokestatic 40, 3) := by decide +kernel
theorem dX2_equation_42 : decode cX2_equation 42 = .ok (.ifCond .eq 11, 3) := by decide +kernel
theorem dX2_equation_45 : decode cX2_equation 45 = .ok (.aload_n 0, 1) := by decide +kernel
theorem dX2_equation_46 : decode cX2_equation 46 = .ok (.getfield 33, 3) := by decide +kernel
theorem dX2_equation_49 : decode cX2_equation 49 = .ok (.iconst 3, 1) := by decide +kernel
theorem dX2_equation_50 : decode cX2_equation 50 = .ok (.if_icmp .ne 5, 3) := by decide +kernel
theorem dX2_equation_53 : decode cX2_equation 53 = .ok (.iconst (-1), 1) := by decide +kernel
theorem dX2_equation_54 : decode cX2_equation 54 = .ok (.ireturn, 1) := by decide +kernel
theorem dX2_equation_55 : decode cX2_equation 55 = .ok (.iconst 4, 1) := by decide +kernel
theorem dX2_equation_56 : decode cX2_equation 56 = .ok (.aload_n 0, 1) := by decide +kernel
theorem dX2_equation_57 : decode cX2_equation 57 = .ok (.getfield 33, 3) := by decide +kernel
theorem dX2_equation_60 : decode cX2_equation 60 = .ok (.imul, 1) := by decide +kernel
theorem dX2_equation_61 : decode cX2_equation 61 = .ok (.istore 6, 2) := by decide +kernel
theorem dX2_equation_63 : decode cX2_equation 63 = .ok (.aload_n 0, 1) := by decide +kernel
theorem dX2_equation_64 : decode cX2_equation 64 = .ok (.getfield 13, 3) := by decide +kernel
theorem dX2_equation_67 : decode cX2_equation 67 = .ok (.iload 6, 2) := by decide +kernel
theorem dX2_equation_69 : decode cX2_equation 69 = .ok (.iload_n 1, 1) := by decide +kernel
theorem dX2_equation_70 : decode cX2_equation 70 = .ok (.iastore, 1) := by decide +kernel
theorem dX2_equation_71 : decode cX2_equation 71 = .ok (.aload_n 0, 1) := by decide +kernel
theorem dX2_equation_72 : decode cX2_equation 72 = .ok (.getfield 13, 3) := by decide +kernel
theorem dX2_equation_75 : decode cX2_equation 75 = .ok (.iload 6, 2) := by decide +kernel
theorem dX2_equation_77 : decode cX2_equation 77 = .ok (.iconst 1, 1) := by decide +kernel
theorem dX2_equation_78 : decode cX2_equation 78 = .ok (.iadd, 1) := by decide +kernel
theorem dX2_equation_79 : decode cX2_equation 79 = .ok (.iload_n 2, 1) := by decide +kernel
theorem dX2_equation_80 : decode cX2_equation 80 = .ok (.iastore, 1) := by decide +kernel
theorem dX2_equation_81 : decode cX2_equation 81 = .ok (.aload_n 0, 1) := by decide +kernel
theorem dX2_equation_82 : decode cX2_equation 82 = .ok (.getfield 13, 3) := by decide +kernel
theorem dX2_equation_85 : decode cX2_equation 85 = .ok (.iload 6, 2) := by decide +kernel
theorem dX2_equation_87 : decode cX2_equation 87 = .ok (.iconst 2, 1) := by decide +kernel
theorem dX2_equation_88 : decode cX2_equation 88 = .ok (.iadd, 1) := by decide +kernel
theorem dX2_equation_89 : decode cX2_equation 89 = .ok (.iload_n 3, 1) := by decide +kernel
theorem dX2_equation_90 : decode cX2_equation 90 = .ok (.iastore, 1) := by decide +kernel
theorem dX2_equation_91 : decode cX2_equation 91 = .ok (.aload_n 0, 1) := by decide +kernel
theorem dX2_equation_92 : decode cX2_equation 92 = .ok (.getfield 13, 3) := by decide +kernel
theorem dX2_equation_95 : decode cX2_equation 95 = .ok (.iload 6, 2) := by decide +kernel
theorem dX2_equation_97 : decode cX2_equation 97 = .ok (.iconst 3, 1) := by decide +kernel
theorem dX2_equation_98 : decode cX2_equation 98 = .ok (.iadd, 1) := by decide +kernel
theorem dX2_equation_99 : decode cX2_equation 99 = .ok (.iload 4, 2) := by decide +kernel
theorem dX2_equation_101 : decode cX2_equation 101 = .ok (.iastore, 1) := by decide +kernel
theorem dX2_equation_102 : decode cX2_equation 102 = .ok (.aload_n 0, 1) := by decide +kernel
theorem dX2_equation_103 : decode cX2_equation 103 = .ok (.getfield 17, 3) := by decide +kernel
theorem dX2_equation_106 : decode cX2_equation 106 = .ok (.aload_n 0, 1) := by decide +kernel
theorem dX2_equation_107 : decode cX2_equation 107 = .ok (.getfield 33, 3) := by decide +kernel
theorem dX2_equation_110 : decode cX2_equation 110 = .ok (.iload 5, 2) := by decide +kernel
theorem dX2_equation_112 : decode cX2_equation 112 = .ok (.iastore, 1) := by decide +kernel
theorem dX2_equation_113 : decode cX2_equation 113 = .ok (.aload_n 0, 1) := by decide +kernel
theorem dX2_equation_114 : decode cX2_equation 114 = .ok (.dup, 1) := by decide +kernel
theorem dX2_equation_115 : decode cX2_equation 115 = .ok (.getfield 33, 3) := by decide +kernel
theorem dX2_equation_118 : decode cX2_equation 118 = .ok (.iconst 1, 1) := by decide +kernel
theorem dX2_equation_119 : decode cX2_equation 119 = .ok (.iadd, 1) := by decide +kernel
theorem dX2_equation_120 : decode cX2_equation 120 = .ok (.putfield 33, 3) := by decide +kernel
theorem dX2_equation_123 : decode cX2_equation 123 = .ok (.aload_n 0, 1) := by decide +kernel
theorem dX2_equation_124 : decode cX2_equation 124 = .ok (.getfield 33, 3) := by decide +kernel
theorem dX2_equation_127 : decode cX2_equation 127 = .ok (.iconst 1, 1) := by decide +kernel
theorem dX2_equation_128 : decode cX2_equation 128 = .ok (.isub, 1) := by decide +kernel
theorem dX2_equation_129 : decode cX2_equation 129 = .ok (.ireturn, 1) := by decide +kernel
theorem dX2_sum_0 : decode cX2_sum 0 = .ok (.iload_n 1, 1) := by decide +kernel
theorem dX2_sum_1 : decode cX2_sum 1 = .ok (.ifCond .lt 18, 3) := by decide +kernel
theorem dX2_sum_4 : decode cX2_sum 4 = .ok (.iload_n 1, 1) := by decide +kernel
theorem dX2_sum_5 : decode cX2_sum 5 = .ok (.aload_n 0, 1) := by decide +kernel
theorem dX2_sum_6 : decode cX2_sum 6 = .ok (.getfield 33, 3) := by decide +kernel
theorem dX2_sum_9 : decode cX2_sum 9 = .ok (.if_icmp .ge 10, 3) := by decide +kernel
theorem dX2_sum_12 : decode cX2_sum 12 = .ok (.iload_n 2, 1) := by decide +kernel
theorem dX2_sum_13 : decode cX2_sum 13 = .ok (.invokestatic 40, 3) := by decide +kernel
theorem dX2_sum_16 : decode cX2_sum 16 = .ok (.ifCond .ne 5, 3) := by decide +kernel
theorem dX2_sum_19 : decode cX2_sum 19 = .ok (.iconst 0, 1) := by decide +kernel
theorem dX2_sum_20 : decode cX2_sum 20 = .ok (.ireturn, 1) := by decide +kernel
theorem dX2_sum_21 : decode cX2_sum 21 = .ok (.aload_n 0, 1) := by decide +kernel
theorem dX2_sum_22 : decode cX2_sum 22 = .ok (.getfield 17, 3) := by decide +kernel
theorem dX2_sum_25 : decode cX2_sum 25 = .ok (.iload_n 1, 1) := by decide +kernel
theorem dX2_sum_26 : decode cX2_sum 26 = .ok (.iload_n 2, 1) := by decide +kernel
theorem dX2_sum_27 : decode cX2_sum 27 = .ok (.iastore, 1) := by decide +kernel
theorem dX2_sum_28 : decode cX2_sum 28 = .ok (.iconst 1, 1) := by decide +kernel
theorem dX2_sum_29 : decode cX2_sum 29 = .ok (.ireturn, 1) := by decide +kernel
theorem dX2_drop_0 : decode cX2_drop 0 = .ok (.aload_n 0, 1) := by decide +kernel
theorem dX2_drop_1 : decode cX2_drop 1 = .ok (.getfield 33, 3) := by decide +kernel
theorem dX2_drop_4 : decode cX2_drop 4 = .ok (.ifCond .ne 5, 3) := by decide +kernel
theorem dX2_drop_7 : decode cX2_drop 7 = .ok (.iconst (-1), 1) := by decide +kernel
theorem dX2_drop_8 : decode cX2_drop 8 = .ok (.ireturn, 1) := by decide +kernel
theorem dX2_drop_9 : decode cX2_drop 9 = .ok (.aload_n 0, 1) := by decide +kernel
theorem dX2_drop_10 : decode cX2_drop 10 = .ok (.dup, 1) := by decide +kernel
theorem dX2_drop_11 : decode cX2_drop 11 = .ok (.getfield 33, 3) := by decide +kernel
theorem dX2_drop_14 : decode cX2_drop 14 = .ok (.iconst 1, 1) := by decide +kernel
theorem dX2_drop_15 : decode cX2_drop 15 = .ok (.isub, 1) := by decide +kernel
theorem dX2_drop_16 : decode cX2_drop 16 = .ok (.putfield 33, 3) := by decide +kernel
theorem dX2_drop_19 : decode cX2_drop 19 = .ok (.aload_n 0, 1) := by decide +kernel
theorem dX2_drop_20 : decode cX2_drop 20 = .ok (.getfield 33, 3) := by decide +kernel
theorem dX2_drop_23 : decode cX2_drop 23 = .ok (.ireturn, 1) := by decide +kernel
theorem dX2_down_0 : decode cX2_down 0 = .ok (.lload_n 0, 1) := by decide +kernel
theorem dX2_down_1 : decode cX2_down 1 = .ok (.lload_n 2, 1) := by decide +kernel
theorem dX2_down_2 : decode cX2_down 2 = .ok (.ldiv, 1) := by decide +kernel
theorem dX2_down_3 : decode cX2_down 3 = .ok (.lstore 4, 2) := by decide +kernel
theorem dX2_down_5 : decode cX2_down 5 = .ok (.lload 4, 2) := by decide +kernel
theorem dX2_down_7 : decode cX2_down 7 = .ok (.lload_n 2, 1) := by decide +kernel
theorem dX2_down_8 : decode cX2_down 8 = .ok (.lmul, 1) := by decide +kernel
theorem dX2_down_9 : decode cX2_down 9 = .ok (.lload_n 0, 1) := by decide +kernel
theorem dX2_down_10 : decode cX2_down 10 = .ok (.lcmp, 1) := by decide +kernel
theorem dX2_down_11 : decode cX2_down 11 = .ok (.ifCond .le 10, 3) := by decide +kernel
theorem dX2_down_14 : decode cX2_down 14 = .ok (.lload 4, 2) := by decide +kernel
theorem dX2_down_16 : decode cX2_down 16 = .ok (.lconst 1, 1) := by decide +kernel
theorem dX2_down_17 : decode cX2_down 17 = .ok (.lsub, 1) := by decide +kernel
theorem dX2_down_18 : decode cX2_down 18 = .ok (.goto 5, 3) := by decide +kernel
theorem dX2_down_21 : decode cX2_down 21 = .ok (.lload 4, 2) := by decide +kernel
theorem dX2_down_23 : decode cX2_down 23 = .ok (.lreturn, 1) := by decide +kernel
theorem dX2_take_0 : decode cX2_take 0 = .ok (.iconst 0, 1) := by decide +kernel
theorem dX2_take_1 : decode cX2_take 1 = .ok (.istore 6, 2) := by decide +kernel
theorem dX2_take_3 : decode cX2_take 3 = .ok (.iload 6, 2) := by decide +kernel
theorem dX2_take_5 : decode cX2_take 5 = .ok (.iload 5, 2) := by decide +kernel
theorem dX2_take_7 : decode cX2_take 7 = .ok (.if_icmp .ge 38, 3) := by decide +kernel
theorem dX2_take_10 : decode cX2_take 10 = .ok (.aload_n 0, 1) := by decide +kernel
theorem dX2_take_11 : decode cX2_take 11 = .ok (.getfield 20, 3) := by decide +kernel
theorem dX2_take_14 : decode cX2_take 14 = .ok (.bipush 8, 2) := by decide +kernel
theorem dX2_take_16 : decode cX2_take 16 = .ok (.iload_n 1, 1) := by decide +kernel
theorem dX2_take_17 : decode cX2_take 17 = .ok (.imul, 1) := by decide +kernel
theorem dX2_take_18 : decode cX2_take 18 = .ok (.iload 6, 2) := by decide +kernel
theorem dX2_take_20 : decode cX2_take 20 = .ok (.iadd, 1) := by decide +kernel
theorem dX2_take_21 : decode cX2_take 21 = .ok (.dup2, 1) := by decide +kernel
theorem dX2_take_22 : decode cX2_take 22 = .ok (.laload, 1) := by decide +kernel
theorem dX2_take_23 : decode cX2_take 23 = .ok (.lload_n 3, 1) := by decide +kernel
theorem dX2_take_24 : decode cX2_take 24 = .ok (.aload_n 0, 1) := by decide +kernel
theorem dX2_take_25 : decode cX2_take 25 = .ok (.getfield 20, 3) := by decide +kernel
theorem dX2_take_28 : decode cX2_take 28 = .ok (.bipush 8, 2) := by decide +kernel
theorem dX2_take_30 : decode cX2_take 30 = .ok (.iload_n 2, 1) := by decide +kernel
theorem dX2_take_31 : decode cX2_take 31 = .ok (.imul, 1) := by decide +kernel
theorem dX2_take_32 : decode cX2_take 32 = .ok (.iload 6, 2) := by decide +kernel
theorem dX2_take_34 : decode cX2_take 34 = .ok (.iadd, 1) := by decide +kernel
theorem dX2_take_35 : decode cX2_take 35 = .ok (.laload, 1) := by decide +kernel
theorem dX2_take_36 : decode cX2_take 36 = .ok (.lmul, 1) := by decide +kernel
theorem dX2_take_37 : decode cX2_take 37 = .ok (.lsub, 1) := by decide +kernel
theorem dX2_take_38 : decode cX2_take 38 = .ok (.lastore, 1) := by decide +kernel
theorem dX2_take_39 : decode cX2_take 39 = .ok (.iinc 6 1, 3) := by decide +kernel
theorem dX2_take_42 : decode cX2_take 42 = .ok (.goto (-39), 3) := by decide +kernel
theorem dX2_take_45 : decode cX2_take 45 = .ok (.return_, 1) := by decide +kernel
theorem dX2_change_0 : decode cX2_change 0 = .ok (.iconst 0, 1) := by decide +kernel
theorem dX2_change_1 : decode cX2_change 1 = .ok (.istore_n 3, 1) := by decide +kernel
theorem dX2_change_2 : decode cX2_change 2 = .ok (.iload_n 3, 1) := by decide +kernel
theorem dX2_change_3 : decode cX2_change 3 = .ok (.bipush 8, 2) := by decide +kernel
theorem dX2_change_5 : decode cX2_change 5 = .ok (.if_icmp .ge 57, 3) := by decide +kernel
theorem dX2_change_8 : decode cX2_change 8 = .ok (.aload_n 0, 1) := by decide +kernel
theorem dX2_change_9 : decode cX2_change 9 = .ok (.getfield 20, 3) := by decide +kernel
theorem dX2_change_12 : decode cX2_change 12 = .ok (.bipush 8, 2) := by decide +kernel
theorem dX2_change_14 : decode cX2_change 14 = .ok (.iload_n 1, 1) := by decide +kernel
theorem dX2_change_15 : decode cX2_change 15 = .ok (.imul, 1) := by decide +kernel
theorem dX2_change_16 : decode cX2_change 16 = .ok (.iload_n 3, 1) := by decide +kernel
theorem dX2_change_17 : decode cX2_change 17 = .ok (.iadd, 1) := by decide +kernel
theorem dX2_change_18 : decode cX2_change 18 = .ok (.laload, 1) := by decide +kernel
theorem dX2_change_19 : decode cX2_change 19 = .ok (.lstore 4, 2) := by decide +kernel
theorem dX2_change_21 : decode cX2_change 21 = .ok (.aload_n 0, 1) := by decide +kernel
theorem dX2_change_22 : decode cX2_change 22 = .ok (.getfield 20, 3) := by decide +kernel
theorem dX2_change_25 : decode cX2_change 25 = .ok (.bipush 8, 2) := by decide +kernel
theorem dX2_change_27 : decode cX2_change 27 = .ok (.iload_n 1, 1) := by decide +kernel
theorem dX2_change_28 : decode cX2_change 28 = .ok (.imul, 1) := by decide +kernel
theorem dX2_change_29 : decode cX2_change 29 = .ok (.iload_n 3, 1) := by decide +kernel
theorem dX2_change_30 : decode cX2_change 30 = .ok (.iadd, 1) := by decide +kernel
theorem dX2_change_31 : decode cX2_change 31 = .ok (.aload_n 0, 1) := by decide +kernel
theorem dX2_change_32 : decode cX2_change 32 = .ok (.getfield 20, 3) := by decide +kernel
theorem dX2_change_35 : decode cX2_change 35 = .ok (.bipush 8, 2) := by decide +kernel
theorem dX2_change_37 : decode cX2_change 37 = .ok (.iload_n 2, 1) := by decide +kernel
theorem dX2_change_38 : decode cX2_change 38 = .ok (.imul, 1) := by decide +kernel
theorem dX2_change_39 : decode cX2_change 39 = .ok (.iload_n 3, 1) := by decide +kernel
theorem dX2_change_40 : decode cX2_change 40 = .ok (.iadd, 1) := by decide +kernel
theorem dX2_change_41 : decode cX2_change 41 = .ok (.laload, 1) := by decide +kernel
theorem dX2_change_42 : decode cX2_change 42 = .ok (.lastore, 1) := by decide +kernel
theorem dX2_change_43 : decode cX2_change 43 = .ok (.aload_n 0, 1) := by decide +kernel
theorem dX2_change_44 : decode cX2_change 44 = .ok (.getfield 20, 3) := by decide +kernel
theorem dX2_change_47 : decode cX2_change 47 = .ok (.bipush 8, 2) := by decide +kernel
theorem dX2_change_49 : decode cX2_change 49 = .ok (.iload_n 2, 1) := by decide +kernel
theorem dX2_change_50 : decode cX2_change 50 = .ok (.imul, 1) := by decide +kernel
theorem dX2_change_51 : decode cX2_change 51 = .ok (.iload_n 3, 1) := by decide +kernel
theorem dX2_change_52 : decode cX2_change 52 = .ok (.iadd, 1) := by decide +kernel
theorem dX2_change_53 : decode cX2_change 53 = .ok (.lload 4, 2) := by decide +kernel
theorem dX2_change_55 : decode cX2_change 55 = .ok (.lastore, 1) := by decide +kernel
theorem dX2_change_56 : decode cX2_change 56 = .ok (.iinc 3 1, 3) := by decide +kernel
theorem dX2_change_59 : decode cX2_change 59 = .ok (.goto (-57), 3) := by decide +kernel
theorem dX2_change_62 : decode cX2_change 62 = .ok (.return_, 1) := by decide +kernel
theorem dX2_size_0 : decode cX2_size 0 = .ok (.lload_n 0, 1) := by decide +kernel
theorem dX2_size_1 : decode cX2_size 1 = .ok (.lconst 0, 1) := by decide +kernel
theorem dX2_size_2 : decode cX2_size 2 = .ok (.lcmp, 1) := by decide +kernel
theorem dX2_size_3 : decode cX2_size 3 = .ok (.ifCond .ge 8, 3) := by decide +kernel
theorem dX2_size_6 : decode cX2_size 6 = .ok (.lload_n 0, 1) := by decide +kernel
theorem dX2_size_7 : decode cX2_size 7 = .ok (.lneg, 1) := by decide +kernel
theorem dX2_size_8 : decode cX2_size 8 = .ok (.goto 4, 3) := by decide +kernel
theorem dX2_size_11 : decode cX2_size 11 = .ok (.lload_n 0, 1) := by decide +kernel
theorem dX2_size_12 : decode cX2_size 12 = .ok (.lreturn, 1) := by decide +kernel
theorem dX2_least_0 : decode cX2_least 0 = .ok (.iconst (-1), 1) := by decide +kernel
theorem dX2_least_1 : decode cX2_least 1 = .ok (.istore 4, 2) := by decide +kernel
theorem dX2_least_3 : decode cX2_least 3 = .ok (.iload_n 1, 1) := by decide +kernel
theorem dX2_least_4 : decode cX2_least 4 = .ok (.istore 5, 2) := by decide +kernel
theorem dX2_least_6 : decode cX2_least 6 = .ok (.iload 5, 2) := by decide +kernel
theorem dX2_least_8 : decode cX2_least 8 = .ok (.iload_n 3, 1) := by decide +kernel
theorem dX2_least_9 : decode cX2_least 9 = .ok (.if_icmp .ge 63, 3) := by decide +kernel
theorem dX2_least_12 : decode cX2_least 12 = .ok (.aload_n 0, 1) := by decide +kernel
theorem dX2_least_13 : decode cX2_least 13 = .ok (.getfield 20, 3) := by decide +kernel
theorem dX2_least_16 : decode cX2_least 16 = .ok (.bipush 8, 2) := by decide +kernel
theorem dX2_least_18 : decode cX2_least 18 = .ok (.iload 5, 2) := by decide +kernel
theorem dX2_least_20 : decode cX2_least 20 = .ok (.imul, 1) := by decide +kernel
theorem dX2_least_21 : decode cX2_least 21 = .ok (.iload_n 2, 1) := by decide +kernel
theorem dX2_least_22 : decode cX2_least 22 = .ok (.iadd, 1) := by decide +kernel
theorem dX2_least_23 : decode cX2_least 23 = .ok (.laload, 1) := by decide +kernel
theorem dX2_least_24 : decode cX2_least 24 = .ok (.invokestatic 44, 3) := by decide +kernel
theorem dX2_least_27 : decode cX2_least 27 = .ok (.lstore 6, 2) := by decide +kernel
theorem dX2_least_29 : decode cX2_least 29 = .ok (.lload 6, 2) := by decide +kernel
theorem dX2_least_31 : decode cX2_least 31 = .ok (.lconst 0, 1) := by decide +kernel
theorem dX2_least_32 : decode cX2_least 32 = .ok (.lcmp, 1) := by decide +kernel
theorem dX2_least_33 : decode cX2_least 33 = .ok (.ifCond .le 33, 3) := by decide +kernel
theorem dX2_least_36 : decode cX2_least 36 = .ok (.iload 4, 2) := by decide +kernel
theorem dX2_least_38 : decode cX2_least 38 = .ok (.ifCond .lt 24, 3) := by decide +kernel
theorem dX2_least_41 : decode cX2_least 41 = .ok (.lload 6, 2) := by decide +kernel
theorem dX2_least_43 : decode cX2_least 43 = .ok (.aload_n 0, 1) := by decide +kernel
theorem dX2_least_44 : decode cX2_least 44 = .ok (.getfield 20, 3) := by decide +kernel
theorem dX2_least_47 : decode cX2_least 47 = .ok (.bipush 8, 2) := by decide +kernel
theorem dX2_least_49 : decode cX2_least 49 = .ok (.iload 4, 2) := by decide +kernel
theorem dX2_least_51 : decode cX2_least 51 = .ok (.imul, 1) := by decide +kernel
theorem dX2_least_52 : decode cX2_least 52 = .ok (.iload_n 2, 1) := by decide +kernel
theorem dX2_least_53 : decode cX2_least 53 = .ok (.iadd, 1) := by decide +kernel
theorem dX2_least_54 : decode cX2_least 54 = .ok (.laload, 1) := by decide +kernel
theorem dX2_least_55 : decode cX2_least 55 = .ok (.invokestatic 44, 3) := by decide +kernel
theorem dX2_least_58 : decode cX2_least 58 = .ok (.lcmp, 1) := by decide +kernel
theorem dX2_least_59 : decode cX2_least 59 = .ok (.ifCond .ge 7, 3) := by decide +kernel
theorem dX2_least_62 : decode cX2_least 62 = .ok (.iload 5, 2) := by decide +kernel
theorem dX2_least_64 : decode cX2_least 64 = .ok (.istore 4, 2) := by decide +kernel
theorem dX2_least_66 : decode cX2_least 66 = .ok (.iinc 5 1, 3) := by decide +kernel
theorem dX2_least_69 : decode cX2_least 69 = .ok (.goto (-63), 3) := by decide +kernel
theorem dX2_least_72 : decode cX2_least 72 = .ok (.iload 4, 2) := by decide +kernel
theorem dX2_least_74 : decode cX2_least 74 = .ok (.ireturn, 1) := by decide +kernel
theorem dX2_form_0 : decode cX2_form 0 = .ok (.iconst 0, 1) := by decide +kernel
theorem dX2_form_1 : decode cX2_form 1 = .ok (.istore_n 3, 1) := by decide +kernel
theorem dX2_form_2 : decode cX2_form 2 = .ok (.iconst 0, 1) := by decide +kernel
theorem dX2_form_3 : decode cX2_form 3 = .ok (.istore 4, 2) := by decide +kernel
theorem dX2_form_5 : decode cX2_form 5 = .ok (.iload 4, 2) := by decide +kernel
theorem dX2_form_7 : decode cX2_form 7 = .ok (.iload_n 2, 1) := by decide +kernel
theorem dX2_form_8 : decode cX2_form 8 = .ok (.if_icmp .ge 230, 3) := by decide +kernel
theorem dX2_form_11 : decode cX2_form 11 = .ok (.aload_n 0, 1) := by decide +kernel
theorem dX2_form_12 : decode cX2_form 12 = .ok (.iload_n 3, 1) := by decide +kernel
theorem dX2_form_13 : decode cX2_form 13 = .ok (.iload 4, 2) := by decide +kernel
theorem dX2_form_15 : decode cX2_form 15 = .ok (.iload_n 1, 1) := by decide +kernel
theorem dX2_form_16 : decode cX2_form 16 = .ok (.invokevirtual 48, 3) := by decide +kernel
theorem dX2_form_19 : decode cX2_form 19 = .ok (.istore 5, 2) := by decide +kernel
theorem dX2_form_21 : decode cX2_form 21 = .ok (.iload 5, 2) := by decide +kernel
theorem dX2_form_23 : decode cX2_form 23 = .ok (.ifCond .ge 6, 3) := by decide +kernel
theorem dX2_form_26 : decode cX2_form 26 = .ok (.goto 206, 3) := by decide +kernel
theorem dX2_form_29 : decode cX2_form 29 = .ok (.iconst 0, 1) := by decide +kernel
theorem dX2_form_30 : decode cX2_form 30 = .ok (.istore 6, 2) := by decide +kernel
theorem dX2_form_32 : decode cX2_form 32 = .ok (.iload 6, 2) := by decide +kernel
theorem dX2_form_34 : decode cX2_form 34 = .ok (.ifCond .ne 136, 3) := by decide +kernel
theorem dX2_form_37 : decode cX2_form 37 = .ok (.aload_n 0, 1) := by decide +kernel
theorem dX2_form_38 : decode cX2_form 38 = .ok (.iload_n 3, 1) := by decide +kernel
theorem dX2_form_39 : decode cX2_form 39 = .ok (.iload 5, 2) := by decide +kernel
theorem dX2_form_41 : decode cX2_form 41 = .ok (.invokevirtual 52, 3) := by decide +kernel
theorem dX2_form_44 : decode cX2_form 44 = .ok (.aload_n 0, 1) := by decide +kernel
theorem dX2_form_45 : decode cX2_form 45 = .ok (.getfield 20, 3) := by decide +kernel
theorem dX2_form_48 : decode cX2_form 48 = .ok (.bipush 8, 2) := by decide +kernel
theorem dX2_form_50 : decode cX2_form 50 = .ok (.iload_n 3, 1) := by decide +kernel
theorem dX2_form_51 : decode cX2_form 51 = .ok (.imul, 1) := by decide +kernel
theorem dX2_form_52 : decode cX2_form 52 = .ok (.iload 4, 2) := by decide +kernel
theorem dX2_form_54 : decode cX2_form 54 = .ok (.iadd, 1) := by decide +kernel
theorem dX2_form_55 : decode cX2_form 55 = .ok (.laload, 1) := by decide +kernel
theorem dX2_form_56 : decode cX2_form 56 = .ok (.lconst 0, 1) := by decide +kernel
theorem dX2_form_57 : decode cX2_form 57 = .ok (.lcmp, 1) := by decide +kernel
theorem dX2_form_58 : decode cX2_form 58 = .ok (.ifCond .ge 13, 3) := by decide +kernel
theorem dX2_form_61 : decode cX2_form 61 = .ok (.aload_n 0, 1) := by decide +kernel
theorem dX2_form_62 : decode cX2_form 62 = .ok (.iload_n 3, 1) := by decide +kernel
theorem dX2_form_63 : decode cX2_form 63 = .ok (.iload_n 3, 1) := by decide +kernel
theorem dX2_form_64 : decode cX2_form 64 = .ok (.ldc2_w 56, 3) := by decide +kernel
theorem dX2_form_67 : decode cX2_form 67 = .ok (.iload_n 2, 1) := by decide +kernel
theorem dX2_form_68 : decode cX2_form 68 = .ok (.invokevirtual 58, 3) := by decide +kernel
theorem dX2_form_71 : decode cX2_form 71 = .ok (.iconst 1, 1) := by decide +kernel
theorem dX2_form_72 : decode cX2_form 72 = .ok (.istore 6, 2) := by decide +kernel
theorem dX2_form_74 : decode cX2_form 74 = .ok (.iload_n 3, 1) := by decide +kernel
theorem dX2_form_75 : decode cX2_form 75 = .ok (.iconst 1, 1) := by decide +kernel
theorem dX2_form_76 : decode cX2_form 76 = .ok (.iadd, 1) := by decide +kernel
theorem dX2_form_77 : decode cX2_form 77 = .ok (.istore 7, 2) := by decide +kernel
theorem dX2_form_79 : decode cX2_form 79 = .ok (.iload 7, 2) := by decide +kernel
theorem dX2_form_81 : decode cX2_form 81 = .ok (.iload_n 1, 1) := by decide +kernel
theorem dX2_form_82 : decode cX2_form 82 = .ok (.if_icmp .ge 75, 3) := by decide +kernel
theorem dX2_form_85 : decode cX2_form 85 = .ok (.aload_n 0, 1) := by decide +kernel
theorem dX2_form_86 : decode cX2_form 86 = .ok (.iload 7, 2) := by decide +kernel
theorem dX2_form_88 : decode cX2_form 88 = .ok (.iload_n 3, 1) := by decide +kernel
theorem dX2_form_89 : decode cX2_form 89 = .ok (.aload_n 0, 1) := by decide +kernel
theorem dX2_form_90 : decode cX2_form 90 = .ok (.getfield 20, 3) := by decide +kernel
theorem dX2_form_93 : decode cX2_form 93 = .ok (.bipush 8, 2) := by decide +kernel
theorem dX2_form_95 : decode cX2_form 95 = .ok (.iload 7, 2) := by decide +kernel
theorem dX2_form_97 : decode cX2_form 97 = .ok (.imul, 1) := by decide +kernel
theorem dX2_form_98 : decode cX2_form 98 = .ok (.iload 4, 2) := by decide +kernel
theorem dX2_form_100 : decode cX2_form 100 = .ok (.iadd, 1) := by decide +kernel
theorem dX2_form_101 : decode cX2_form 101 = .ok (.laload, 1) := by decide +kernel
theorem dX2_form_102 : decode cX2_form 102 = .ok (.aload_n 0, 1) := by decide +kernel
theorem dX2_form_103 : decode cX2_form 103 = .ok (.getfield 20, 3) := by decide +kernel
theorem dX2_form_106 : decode cX2_form 106 = .ok (.bipush 8, 2) := by decide +kernel
theorem dX2_form_108 : decode cX2_form 108 = .ok (.iload_n 3, 1) := by decide +kernel
theorem dX2_form_109 : decode cX2_form 109 = .ok (.imul, 1) := by decide +kernel
theorem dX2_form_110 : decode cX2_form 110 = .ok (.iload 4, 2) := by decide +kernel
theorem dX2_form_112 : decode cX2_form 112 = .ok (.iadd, 1) := by decide +kernel
theorem dX2_form_113 : decode cX2_form 113 = .ok (.laload, 1) := by decide +kernel
theorem dX2_form_114 : decode cX2_form 114 = .ok (.invokestatic 62, 3) := by decide +kernel
theorem dX2_form_117 : decode cX2_form 117 = .ok (.iload_n 2, 1) := by decide +kernel
theorem dX2_form_118 : decode cX2_form 118 = .ok (.invokevirtual 58, 3) := by decide +kernel
theorem dX2_form_121 : decode cX2_form 121 = .ok (.iload 6, 2) := by decide +kernel
theorem dX2_form_123 : decode cX2_form 123 = .ok (.ifCond .eq 25, 3) := by decide +kernel
theorem dX2_form_126 : decode cX2_form 126 = .ok (.aload_n 0, 1) := by decide +kernel
theorem dX2_form_127 : decode cX2_form 127 = .ok (.getfield 20, 3) := by decide +kernel
theorem dX2_form_130 : decode cX2_form 130 = .ok (.bipush 8, 2) := by decide +kernel
theorem dX2_form_132 : decode cX2_form 132 = .ok (.iload 7, 2) := by decide +kernel
theorem dX2_form_134 : decode cX2_form 134 = .ok (.imul, 1) := by decide +kernel
theorem dX2_form_135 : decode cX2_form 135 = .ok (.iload 4, 2) := by decide +kernel
theorem dX2_form_137 : decode cX2_form 137 = .ok (.iadd, 1) := by decide +kernel
theorem dX2_form_138 : decode cX2_form 138 = .ok (.laload, 1) := by decide +kernel
theorem dX2_form_139 : decode cX2_form 139 = .ok (.lconst 0, 1) := by decide +kernel
theorem dX2_form_140 : decode cX2_form 140 = .ok (.lcmp, 1) := by decide +kernel
theorem dX2_form_141 : decode cX2_form 141 = .ok (.ifCond .ne 7, 3) := by decide +kernel
theorem dX2_form_144 : decode cX2_form 144 = .ok (.iconst 1, 1) := by decide +kernel
theorem dX2_form_145 : decode cX2_form 145 = .ok (.goto 4, 3) := by decide +kernel
theorem dX2_form_148 : decode cX2_form 148 = .ok (.iconst 0, 1) := by decide +kernel
theorem dX2_form_149 : decode cX2_form 149 = .ok (.istore 6, 2) := by decide +kernel
theorem dX2_form_151 : decode cX2_form 151 = .ok (.iinc 7 1, 3) := by decide +kernel
theorem dX2_form_154 : decode cX2_form 154 = .ok (.goto (-75), 3) := by decide +kernel
theorem dX2_form_157 : decode cX2_form 157 = .ok (.aload_n 0, 1) := by decide +kernel
theorem dX2_form_158 : decode cX2_form 158 = .ok (.iload_n 3, 1) := by decide +kernel
theorem dX2_form_159 : decode cX2_form 159 = .ok (.iload 4, 2) := by decide +kernel
theorem dX2_form_161 : decode cX2_form 161 = .ok (.iload_n 1, 1) := by decide +kernel
theorem dX2_form_162 : decode cX2_form 162 = .ok (.invokevirtual 48, 3) := by decide +kernel
theorem dX2_form_165 : decode cX2_form 165 = .ok (.istore 5, 2) := by decide +kernel
theorem dX2_form_167 : decode cX2_form 167 = .ok (.goto (-135), 3) := by decide +kernel
theorem dX2_form_170 : decode cX2_form 170 = .ok (.iconst 0, 1) := by decide +kernel
theorem dX2_form_171 : decode cX2_form 171 = .ok (.istore 7, 2) := by decide +kernel
theorem dX2_form_173 : decode cX2_form 173 = .ok (.iload 7, 2) := by decide +kernel
theorem dX2_form_175 : decode cX2_form 175 = .ok (.iload_n 3, 1) := by decide +kernel
theorem dX2_form_176 : decode cX2_form 176 = .ok (.if_icmp .ge 45, 3) := by decide +kernel
theorem dX2_form_179 : decode cX2_form 179 = .ok (.aload_n 0, 1) := by decide +kernel
theorem dX2_form_180 : decode cX2_form 180 = .ok (.iload 7, 2) := by decide +kernel
theorem dX2_form_182 : decode cX2_form 182 = .ok (.iload_n 3, 1) := by decide +kernel
theorem dX2_form_183 : decode cX2_form 183 = .ok (.aload_n 0, 1) := by decide +kernel
theorem dX2_form_184 : decode cX2_form 184 = .ok (.getfield 20, 3) := by decide +kernel
theorem dX2_form_187 : decode cX2_form 187 = .ok (.bipush 8, 2) := by decide +kernel
theorem dX2_form_189 : decode cX2_form 189 = .ok (.iload 7, 2) := by decide +kernel
theorem dX2_form_191 : decode cX2_form 191 = .ok (.imul, 1) := by decide +kernel
theorem dX2_form_192 : decode cX2_form 192 = .ok (.iload 4, 2) := by decide +kernel
theorem dX2_form_194 : decode cX2_form 194 = .ok (.iadd, 1) := by decide +kernel
theorem dX2_form_195 : decode cX2_form 195 = .ok (.laload, 1) := by decide +kernel
theorem dX2_form_196 : decode cX2_form 196 = .ok (.aload_n 0, 1) := by decide +kernel
theorem dX2_form_197 : decode cX2_form 197 = .ok (.getfield 20, 3) := by decide +kernel
theorem dX2_form_200 : decode cX2_form 200 = .ok (.bipush 8, 2) := by decide +kernel
theorem dX2_form_202 : decode cX2_form 202 = .ok (.iload_n 3, 1) := by decide +kernel
theorem dX2_form_203 : decode cX2_form 203 = .ok (.imul, 1) := by decide +kernel
theorem dX2_form_204 : decode cX2_form 204 = .ok (.iload 4, 2) := by decide +kernel
theorem dX2_form_206 : decode cX2_form 206 = .ok (.iadd, 1) := by decide +kernel
theorem dX2_form_207 : decode cX2_form 207 = .ok (.laload, 1) := by decide +kernel
theorem dX2_form_208 : decode cX2_form 208 = .ok (.invokestatic 62, 3) := by decide +kernel
theorem dX2_form_211 : decode cX2_form 211 = .ok (.iload_n 2, 1) := by decide +kernel
theorem dX2_form_212 : decode cX2_form 212 = .ok (.invokevirtual 58, 3) := by decide +kernel
theorem dX2_form_215 : decode cX2_form 215 = .ok (.iinc 7 1, 3) := by decide +kernel
theorem dX2_form_218 : decode cX2_form 218 = .ok (.goto (-45), 3) := by decide +kernel
theorem dX2_form_221 : decode cX2_form 221 = .ok (.aload_n 0, 1) := by decide +kernel
theorem dX2_form_222 : decode cX2_form 222 = .ok (.getfield 24, 3) := by decide +kernel
theorem dX2_form_225 : decode cX2_form 225 = .ok (.iload_n 3, 1) := by decide +kernel
theorem dX2_form_226 : decode cX2_form 226 = .ok (.iload 4, 2) := by decide +kernel
theorem dX2_form_228 : decode cX2_form 228 = .ok (.iastore, 1) := by decide +kernel
theorem dX2_form_229 : decode cX2_form 229 = .ok (.iinc 3 1, 3) := by decide +kernel
theorem dX2_form_232 : decode cX2_form 232 = .ok (.iinc 4 1, 3) := by decide +kernel
theorem dX2_form_235 : decode cX2_form 235 = .ok (.goto (-230), 3) := by decide +kernel
theorem dX2_form_238 : decode cX2_form 238 = .ok (.aload_n 0, 1) := by decide +kernel
theorem dX2_form_239 : decode cX2_form 239 = .ok (.iload_n 3, 1) := by decide +kernel
theorem dX2_form_240 : decode cX2_form 240 = .ok (.putfield 66, 3) := by decide +kernel
theorem dX2_form_243 : decode cX2_form 243 = .ok (.return_, 1) := by decide +kernel
theorem dX2_relate_0 : decode cX2_relate 0 = .ok (.iconst 0, 1) := by decide +kernel
theorem dX2_relate_1 : decode cX2_relate 1 = .ok (.istore_n 2, 1) := by decide +kernel
theorem dX2_relate_2 : decode cX2_relate 2 = .ok (.iload_n 2, 1) := by decide +kernel
theorem dX2_relate_3 : decode cX2_relate 3 = .ok (.aload_n 0, 1) := by decide +kernel
theorem dX2_relate_4 : decode cX2_relate 4 = .ok (.getfield 7, 3) := by decide +kernel
theorem dX2_relate_7 : decode cX2_relate 7 = .ok (.if_icmp .ge 65, 3) := by decide +kernel
theorem dX2_relate_10 : decode cX2_relate 10 = .ok (.iconst 0, 1) := by decide +kernel
theorem dX2_relate_11 : decode cX2_relate 11 = .ok (.istore_n 3, 1) := by decide +kernel
theorem dX2_relate_12 : decode cX2_relate 12 = .ok (.iload_n 3, 1) := by decide +kernel
theorem dX2_relate_13 : decode cX2_relate 13 = .ok (.bipush 8, 2) := by decide +kernel
theorem dX2_relate_15 : decode cX2_relate 15 = .ok (.if_icmp .ge 51, 3) := by decide +kernel
theorem dX2_relate_18 : decode cX2_relate 18 = .ok (.aload_n 0, 1) := by decide +kernel
theorem dX2_relate_19 : decode cX2_relate 19 = .ok (.getfield 20, 3) := by decide +kernel
theorem dX2_relate_22 : decode cX2_relate 22 = .ok (.bipush 8, 2) := by decide +kernel
theorem dX2_relate_24 : decode cX2_relate 24 = .ok (.iload_n 2, 1) := by decide +kernel
theorem dX2_relate_25 : decode cX2_relate 25 = .ok (.imul, 1) := by decide +kernel
theorem dX2_relate_26 : decode cX2_relate 26 = .ok (.iload_n 3, 1) := by decide +kernel
theorem dX2_relate_27 : decode cX2_relate 27 = .ok (.iadd, 1) := by decide +kernel
theorem dX2_relate_28 : decode cX2_relate 28 = .ok (.iload_n 3, 1) := by decide +kernel
theorem dX2_relate_29 : decode cX2_relate 29 = .ok (.iload_n 1, 1) := by decide +kernel
theorem dX2_relate_30 : decode cX2_relate 30 = .ok (.if_icmp .ge 17, 3) := by decide +kernel
theorem dX2_relate_33 : decode cX2_relate 33 = .ok (.aload_n 0, 1) := by decide +kernel
theorem dX2_relate_34 : decode cX2_relate 34 = .ok (.getfield 13, 3) := by decide +kernel
theorem dX2_relate_37 : decode cX2_relate 37 = .ok (.iconst 4, 1) := by decide +kernel
theorem dX2_relate_38 : decode cX2_relate 38 = .ok (.iload_n 3, 1) := by decide +kernel
theorem dX2_relate_39 : decode cX2_relate 39 = .ok (.imul, 1) := by decide +kernel
theorem dX2_relate_40 : decode cX2_relate 40 = .ok (.iload_n 2, 1) := by decide +kernel
theorem dX2_relate_41 : decode cX2_relate 41 = .ok (.iadd, 1) := by decide +kernel
theorem dX2_relate_42 : decode cX2_relate 42 = .ok (.iaload, 1) := by decide +kernel
theorem dX2_relate_43 : decode cX2_relate 43 = .ok (.i2l, 1) := by decide +kernel
theorem dX2_relate_44 : decode cX2_relate 44 = .ok (.goto 15, 3) := by decide +kernel
theorem dX2_relate_47 : decode cX2_relate 47 = .ok (.iload_n 3, 1) := by decide +kernel
theorem dX2_relate_48 : decode cX2_relate 48 = .ok (.iload_n 1, 1) := by decide +kernel
theorem dX2_relate_49 : decode cX2_relate 49 = .ok (.iload_n 2, 1) := by decide +kernel
theorem dX2_relate_50 : decode cX2_relate 50 = .ok (.iadd, 1) := by decide +kernel
theorem dX2_relate_51 : decode cX2_relate 51 = .ok (.if_icmp .ne 7, 3) := by decide +kernel
theorem dX2_relate_54 : decode cX2_relate 54 = .ok (.lconst 1, 1) := by decide +kernel
theorem dX2_relate_55 : decode cX2_relate 55 = .ok (.goto 4, 3) := by decide +kernel
theorem dX2_relate_58 : decode cX2_relate 58 = .ok (.lconst 0, 1) := by decide +kernel
theorem dX2_relate_59 : decode cX2_relate 59 = .ok (.lastore, 1) := by decide +kernel
theorem dX2_relate_60 : decode cX2_relate 60 = .ok (.iinc 3 1, 3) := by decide +kernel
theorem dX2_relate_63 : decode cX2_relate 63 = .ok (.goto (-51), 3) := by decide +kernel
theorem dX2_relate_66 : decode cX2_relate 66 = .ok (.iinc 2 1, 3) := by decide +kernel
theorem dX2_relate_69 : decode cX2_relate 69 = .ok (.goto (-67), 3) := by decide +kernel
theorem dX2_relate_72 : decode cX2_relate 72 = .ok (.aload_n 0, 1) := by decide +kernel
theorem dX2_relate_73 : decode cX2_relate 73 = .ok (.aload_n 0, 1) := by decide +kernel
theorem dX2_relate_74 : decode cX2_relate 74 = .ok (.getfield 7, 3) := by decide +kernel
theorem dX2_relate_77 : decode cX2_relate 77 = .ok (.iload_n 1, 1) := by decide +kernel
theorem dX2_relate_78 : decode cX2_relate 78 = .ok (.aload_n 0, 1) := by decide +kernel
theorem dX2_relate_79 : decode cX2_relate 79 = .ok (.getfield 7, 3) := by decide +kernel
theorem dX2_relate_82 : decode cX2_relate 82 = .ok (.iadd, 1) := by decide +kernel
theorem dX2_relate_83 : decode cX2_relate 83 = .ok (.invokevirtual 69, 3) := by decide +kernel
theorem dX2_relate_86 : decode cX2_relate 86 = .ok (.return_, 1) := by decide +kernel
theorem dX2_before_0 : decode cX2_before 0 = .ok (.iconst 0, 1) := by decide +kernel
theorem dX2_before_1 : decode cX2_before 1 = .ok (.istore_n 2, 1) := by decide +kernel
theorem dX2_before_2 : decode cX2_before 2 = .ok (.iload_n 2, 1) := by decide +kernel
theorem dX2_before_3 : decode cX2_before 3 = .ok (.aload_n 0, 1) := by decide +kernel
theorem dX2_before_4 : decode cX2_before 4 = .ok (.getfield 66, 3) := by decide +kernel
theorem dX2_before_7 : decode cX2_before 7 = .ok (.if_icmp .ge 19, 3) := by decide +kernel
theorem dX2_before_10 : decode cX2_before 10 = .ok (.aload_n 0, 1) := by decide +kernel
theorem dX2_before_11 : decode cX2_before 11 = .ok (.getfield 24, 3) := by decide +kernel
theorem dX2_before_14 : decode cX2_before 14 = .ok (.iload_n 2, 1) := by decide +kernel
theorem dX2_before_15 : decode cX2_before 15 = .ok (.iaload, 1) := by decide +kernel
theorem dX2_before_16 : decode cX2_before 16 = .ok (.iload_n 1, 1) := by decide +kernel
theorem dX2_before_17 : decode cX2_before 17 = .ok (.if_icmp .ge 9, 3) := by decide +kernel
theorem dX2_before_20 : decode cX2_before 20 = .ok (.iinc 2 1, 3) := by decide +kernel
theorem dX2_before_23 : decode cX2_before 23 = .ok (.goto (-21), 3) := by decide +kernel
theorem dX2_before_26 : decode cX2_before 26 = .ok (.iload_n 2, 1) := by decide +kernel
theorem dX2_before_27 : decode cX2_before 27 = .ok (.ireturn, 1) := by decide +kernel
theorem dX2_comes_0 : decode cX2_comes 0 = .ok (.iconst 0, 1) := by decide +kernel
theorem dX2_comes_1 : decode cX2_comes 1 = .ok (.istore_n 2, 1) := by decide +kernel
theorem dX2_comes_2 : decode cX2_comes 2 = .ok (.iload_n 2, 1) := by decide +kernel
theorem dX2_comes_3 : decode cX2_comes 3 = .ok (.iconst 4, 1) := by decide +kernel
theorem dX2_comes_4 : decode cX2_comes 4 = .ok (.if_icmp .ge 16, 3) := by decide +kernel
theorem dX2_comes_7 : decode cX2_comes 7 = .ok (.aload_n 0, 1) := by decide +kernel
theorem dX2_comes_8 : decode cX2_comes 8 = .ok (.getfield 30, 3) := by decide +kernel
theorem dX2_comes_11 : decode cX2_comes 11 = .ok (.iload_n 2, 1) := by decide +kernel
theorem dX2_comes_12 : decode cX2_comes 12 = .ok (.lconst 0, 1) := by decide +kernel
theorem dX2_comes_13 : decode cX2_comes 13 = .ok (.lastore, 1) := by decide +kernel
theorem dX2_comes_14 : decode cX2_comes 14 = .ok (.iinc 2 1, 3) := by decide +kernel
theorem dX2_comes_17 : decode cX2_comes 17 = .ok (.goto (-15), 3) := by decide +kernel
theorem dX2_comes_20 : decode cX2_comes 20 = .ok (.aload_n 0, 1) := by decide +kernel
theorem dX2_comes_21 : decode cX2_comes 21 = .ok (.iload_n 1, 1) := by decide +kernel
theorem dX2_comes_22 : decode cX2_comes 22 = .ok (.invokevirtual 72, 3) := by decide +kernel
theorem dX2_comes_25 : decode cX2_comes 25 = .ok (.istore_n 2, 1) := by decide +kernel
theorem dX2_comes_26 : decode cX2_comes 26 = .ok (.iconst 0, 1) := by decide +kernel
theorem dX2_comes_27 : decode cX2_comes 27 = .ok (.istore_n 3, 1) := by decide +kernel
theorem dX2_comes_28 : decode cX2_comes 28 = .ok (.iload_n 3, 1) := by decide +kernel
theorem dX2_comes_29 : decode cX2_comes 29 = .ok (.iload_n 2, 1) := by decide +kernel
theorem dX2_comes_30 : decode cX2_comes 30 = .ok (.if_icmp .ge 159, 3) := by decide +kernel
theorem dX2_comes_33 : decode cX2_comes 33 = .ok (.aload_n 0, 1) := by decide +kernel
theorem dX2_comes_34 : decode cX2_comes 34 = .ok (.getfield 20, 3) := by decide +kernel
theorem dX2_comes_37 : decode cX2_comes 37 = .ok (.bipush 8, 2) := by decide +kernel
theorem dX2_comes_39 : decode cX2_comes 39 = .ok (.iload_n 3, 1) := by decide +kernel
theorem dX2_comes_40 : decode cX2_comes 40 = .ok (.imul, 1) := by decide +kernel
theorem dX2_comes_41 : decode cX2_comes 41 = .ok (.aload_n 0, 1) := by decide +kernel
theorem dX2_comes_42 : decode cX2_comes 42 = .ok (.getfield 24, 3) := by decide +kernel
theorem dX2_comes_45 : decode cX2_comes 45 = .ok (.iload_n 3, 1) := by decide +kernel
theorem dX2_comes_46 : decode cX2_comes 46 = .ok (.iaload, 1) := by decide +kernel
theorem dX2_comes_47 : decode cX2_comes 47 = .ok (.iadd, 1) := by decide +kernel
theorem dX2_comes_48 : decode cX2_comes 48 = .ok (.laload, 1) := by decide +kernel
theorem dX2_comes_49 : decode cX2_comes 49 = .ok (.lstore 4, 2) := by decide +kernel
theorem dX2_comes_51 : decode cX2_comes 51 = .ok (.aload_n 0, 1) := by decide +kernel
theorem dX2_comes_52 : decode cX2_comes 52 = .ok (.getfield 27, 3) := by decide +kernel
theorem dX2_comes_55 : decode cX2_comes 55 = .ok (.aload_n 0, 1) := by decide +kernel
theorem dX2_comes_56 : decode cX2_comes 56 = .ok (.getfield 24, 3) := by decide +kernel
theorem dX2_comes_59 : decode cX2_comes 59 = .ok (.iload_n 3, 1) := by decide +kernel
theorem dX2_comes_60 : decode cX2_comes 60 = .ok (.iaload, 1) := by decide +kernel
theorem dX2_comes_61 : decode cX2_comes 61 = .ok (.laload, 1) := by decide +kernel
theorem dX2_comes_62 : decode cX2_comes 62 = .ok (.lload 4, 2) := by decide +kernel
theorem dX2_comes_64 : decode cX2_comes 64 = .ok (.ldiv, 1) := by decide +kernel
theorem dX2_comes_65 : decode cX2_comes 65 = .ok (.lstore 6, 2) := by decide +kernel
theorem dX2_comes_67 : decode cX2_comes 67 = .ok (.lload 6, 2) := by decide +kernel
theorem dX2_comes_69 : decode cX2_comes 69 = .ok (.lload 4, 2) := by decide +kernel
theorem dX2_comes_71 : decode cX2_comes 71 = .ok (.lmul, 1) := by decide +kernel
theorem dX2_comes_72 : decode cX2_comes 72 = .ok (.aload_n 0, 1) := by decide +kernel
theorem dX2_comes_73 : decode cX2_comes 73 = .ok (.getfield 27, 3) := by decide +kernel
theorem dX2_comes_76 : decode cX2_comes 76 = .ok (.aload_n 0, 1) := by decide +kernel
theorem dX2_comes_77 : decode cX2_comes 77 = .ok (.getfield 24, 3) := by decide +kernel
theorem dX2_comes_80 : decode cX2_comes 80 = .ok (.iload_n 3, 1) := by decide +kernel
theorem dX2_comes_81 : decode cX2_comes 81 = .ok (.iaload, 1) := by decide +kernel
theorem dX2_comes_82 : decode cX2_comes 82 = .ok (.laload, 1) := by decide +kernel
theorem dX2_comes_83 : decode cX2_comes 83 = .ok (.lcmp, 1) := by decide +kernel
theorem dX2_comes_84 : decode cX2_comes 84 = .ok (.ifCond .eq 5, 3) := by decide +kernel
theorem dX2_comes_87 : decode cX2_comes 87 = .ok (.iconst 0, 1) := by decide +kernel
theorem dX2_comes_88 : decode cX2_comes 88 = .ok (.ireturn, 1) := by decide +kernel
theorem dX2_comes_89 : decode cX2_comes 89 = .ok (.iconst 0, 1) := by decide +kernel
theorem dX2_comes_90 : decode cX2_comes 90 = .ok (.istore 8, 2) := by decide +kernel
theorem dX2_comes_92 : decode cX2_comes 92 = .ok (.iload 8, 2) := by decide +kernel
theorem dX2_comes_94 : decode cX2_comes 94 = .ok (.iload_n 1, 1) := by decide +kernel
theorem dX2_comes_95 : decode cX2_comes 95 = .ok (.if_icmp .ge 34, 3) := by decide +kernel
theorem dX2_comes_98 : decode cX2_comes 98 = .ok (.aload_n 0, 1) := by decide +kernel
theorem dX2_comes_99 : decode cX2_comes 99 = .ok (.getfield 27, 3) := by decide +kernel
theorem dX2_comes_102 : decode cX2_comes 102 = .ok (.iload 8, 2) := by decide +kernel
theorem dX2_comes_104 : decode cX2_comes 104 = .ok (.dup2, 1) := by decide +kernel
theorem dX2_comes_105 : decode cX2_comes 105 = .ok (.laload, 1) := by decide +kernel
theorem dX2_comes_106 : decode cX2_comes 106 = .ok (.lload 6, 2) := by decide +kernel
theorem dX2_comes_108 : decode cX2_comes 108 = .ok (.aload_n 0, 1) := by decide +kernel
theorem dX2_comes_109 : decode cX2_comes 109 = .ok (.getfield 20, 3) := by decide +kernel
theorem dX2_comes_112 : decode cX2_comes 112 = .ok (.bipush 8, 2) := by decide +kernel
theorem dX2_comes_114 : decode cX2_comes 114 = .ok (.iload_n 3, 1) := by decide +kernel
theorem dX2_comes_115 : decode cX2_comes 115 = .ok (.imul, 1) := by decide +kernel
theorem dX2_comes_116 : decode cX2_comes 116 = .ok (.iload 8, 2) := by decide +kernel
theorem dX2_comes_118 : decode cX2_comes 118 = .ok (.iadd, 1) := by decide +kernel
theorem dX2_comes_119 : decode cX2_comes 119 = .ok (.laload, 1) := by decide +kernel
theorem dX2_comes_120 : decode cX2_comes 120 = .ok (.lmul, 1) := by decide +kernel
theorem dX2_comes_121 : decode cX2_comes 121 = .ok (.lsub, 1) := by decide +kernel
theorem dX2_comes_122 : decode cX2_comes 122 = .ok (.lastore, 1) := by decide +kernel
theorem dX2_comes_123 : decode cX2_comes 123 = .ok (.iinc 8 1, 3) := by decide +kernel
theorem dX2_comes_126 : decode cX2_comes 126 = .ok (.goto (-34), 3) := by decide +kernel
theorem dX2_comes_129 : decode cX2_comes 129 = .ok (.iconst 0, 1) := by decide +kernel
theorem dX2_comes_130 : decode cX2_comes 130 = .ok (.istore 8, 2) := by decide +kernel
theorem dX2_comes_132 : decode cX2_comes 132 = .ok (.iload 8, 2) := by decide +kernel
theorem dX2_comes_134 : decode cX2_comes 134 = .ok (.aload_n 0, 1) := by decide +kernel
theorem dX2_comes_135 : decode cX2_comes 135 = .ok (.getfield 7, 3) := by decide +kernel
theorem dX2_comes_138 : decode cX2_comes 138 = .ok (.if_icmp .ge 45, 3) := by decide +kernel
theorem dX2_comes_141 : decode cX2_comes 141 = .ok (.iload_n 1, 1) := by decide +kernel
theorem dX2_comes_142 : decode cX2_comes 142 = .ok (.iload 8, 2) := by decide +kernel
theorem dX2_comes_144 : decode cX2_comes 144 = .ok (.iadd, 1) := by decide +kernel
theorem dX2_comes_145 : decode cX2_comes 145 = .ok (.bipush 8, 2) := by decide +kernel
theorem dX2_comes_147 : decode cX2_comes 147 = .ok (.if_icmp .ge 36, 3) := by decide +kernel
theorem dX2_comes_150 : decode cX2_comes 150 = .ok (.aload_n 0, 1) := by decide +kernel
theorem dX2_comes_151 : decode cX2_comes 151 = .ok (.getfield 30, 3) := by decide +kernel
theorem dX2_comes_154 : decode cX2_comes 154 = .ok (.iload 8, 2) := by decide +kernel
theorem dX2_comes_156 : decode cX2_comes 156 = .ok (.dup2, 1) := by decide +kernel
theorem dX2_comes_157 : decode cX2_comes 157 = .ok (.laload, 1) := by decide +kernel
theorem dX2_comes_158 : decode cX2_comes 158 = .ok (.lload 6, 2) := by decide +kernel
theorem dX2_comes_160 : decode cX2_comes 160 = .ok (.aload_n 0, 1) := by decide +kernel
theorem dX2_comes_161 : decode cX2_comes 161 = .ok (.getfield 20, 3) := by decide +kernel
theorem dX2_comes_164 : decode cX2_comes 164 = .ok (.bipush 8, 2) := by decide +kernel
theorem dX2_comes_166 : decode cX2_comes 166 = .ok (.iload_n 3, 1) := by decide +kernel
theorem dX2_comes_167 : decode cX2_comes 167 = .ok (.imul, 1) := by decide +kernel
theorem dX2_comes_168 : decode cX2_comes 168 = .ok (.iload_n 1, 1) := by decide +kernel
theorem dX2_comes_169 : decode cX2_comes 169 = .ok (.iadd, 1) := by decide +kernel
theorem dX2_comes_170 : decode cX2_comes 170 = .ok (.iload 8, 2) := by decide +kernel
theorem dX2_comes_172 : decode cX2_comes 172 = .ok (.iadd, 1) := by decide +kernel
theorem dX2_comes_173 : decode cX2_comes 173 = .ok (.laload, 1) := by decide +kernel
theorem dX2_comes_174 : decode cX2_comes 174 = .ok (.lmul, 1) := by decide +kernel
theorem dX2_comes_175 : decode cX2_comes 175 = .ok (.ladd, 1) := by decide +kernel
theorem dX2_comes_176 : decode cX2_comes 176 = .ok (.lastore, 1) := by decide +kernel
theorem dX2_comes_177 : decode cX2_comes 177 = .ok (.iinc 8 1, 3) := by decide +kernel
theorem dX2_comes_180 : decode cX2_comes 180 = .ok (.goto (-48), 3) := by decide +kernel
theorem dX2_comes_183 : decode cX2_comes 183 = .ok (.iinc 3 1, 3) := by decide +kernel
theorem dX2_comes_186 : decode cX2_comes 186 = .ok (.goto (-158), 3) := by decide +kernel
theorem dX2_comes_189 : decode cX2_comes 189 = .ok (.iconst 0, 1) := by decide +kernel
theorem dX2_comes_190 : decode cX2_comes 190 = .ok (.istore_n 3, 1) := by decide +kernel
theorem dX2_comes_191 : decode cX2_comes 191 = .ok (.iload_n 3, 1) := by decide +kernel
theorem dX2_comes_192 : decode cX2_comes 192 = .ok (.iload_n 1, 1) := by decide +kernel
theorem dX2_comes_193 : decode cX2_comes 193 = .ok (.if_icmp .ge 22, 3) := by decide +kernel
theorem dX2_comes_196 : decode cX2_comes 196 = .ok (.aload_n 0, 1) := by decide +kernel
theorem dX2_comes_197 : decode cX2_comes 197 = .ok (.getfield 27, 3) := by decide +kernel
theorem dX2_comes_200 : decode cX2_comes 200 = .ok (.iload_n 3, 1) := by decide +kernel
theorem dX2_comes_201 : decode cX2_comes 201 = .ok (.laload, 1) := by decide +kernel
theorem dX2_comes_202 : decode cX2_comes 202 = .ok (.lconst 0, 1) := by decide +kernel
theorem dX2_comes_203 : decode cX2_comes 203 = .ok (.lcmp, 1) := by decide +kernel
theorem dX2_comes_204 : decode cX2_comes 204 = .ok (.ifCond .eq 5, 3) := by decide +kernel
theorem dX2_comes_207 : decode cX2_comes 207 = .ok (.iconst 0, 1) := by decide +kernel
theorem dX2_comes_208 : decode cX2_comes 208 = .ok (.ireturn, 1) := by decide +kernel
theorem dX2_comes_209 : decode cX2_comes 209 = .ok (.iinc 3 1, 3) := by decide +kernel
theorem dX2_comes_212 : decode cX2_comes 212 = .ok (.goto (-21), 3) := by decide +kernel
theorem dX2_comes_215 : decode cX2_comes 215 = .ok (.iconst 1, 1) := by decide +kernel
theorem dX2_comes_216 : decode cX2_comes 216 = .ok (.ireturn, 1) := by decide +kernel
theorem dX2_goes_0 : decode cX2_goes 0 = .ok (.aload_n 0, 1) := by decide +kernel
theorem dX2_goes_1 : decode cX2_goes 1 = .ok (.iload_n 1, 1) := by decide +kernel
theorem dX2_goes_2 : decode cX2_goes 2 = .ok (.invokevirtual 76, 3) := by decide +kernel
theorem dX2_goes_5 : decode cX2_goes 5 = .ok (.iconst 0, 1) := by decide +kernel
theorem dX2_goes_6 : decode cX2_goes 6 = .ok (.istore_n 2, 1) := by decide +kernel
theorem dX2_goes_7 : decode cX2_goes 7 = .ok (.iload_n 2, 1) := by decide +kernel
theorem dX2_goes_8 : decode cX2_goes 8 = .ok (.iload_n 1, 1) := by decide +kernel
theorem dX2_goes_9 : decode cX2_goes 9 = .ok (.if_icmp .ge 22, 3) := by decide +kernel
theorem dX2_goes_12 : decode cX2_goes 12 = .ok (.aload_n 0, 1) := by decide +kernel
theorem dX2_goes_13 : decode cX2_goes 13 = .ok (.getfield 27, 3) := by decide +kernel
theorem dX2_goes_16 : decode cX2_goes 16 = .ok (.iload_n 2, 1) := by decide +kernel
theorem dX2_goes_17 : decode cX2_goes 17 = .ok (.aload_n 0, 1) := by decide +kernel
theorem dX2_goes_18 : decode cX2_goes 18 = .ok (.getfield 17, 3) := by decide +kernel
theorem dX2_goes_21 : decode cX2_goes 21 = .ok (.iload_n 2, 1) := by decide +kernel
theorem dX2_goes_22 : decode cX2_goes 22 = .ok (.iaload, 1) := by decide +kernel
theorem dX2_goes_23 : decode cX2_goes 23 = .ok (.i2l, 1) := by decide +kernel
theorem dX2_goes_24 : decode cX2_goes 24 = .ok (.lastore, 1) := by decide +kernel
theorem dX2_goes_25 : decode cX2_goes 25 = .ok (.iinc 2 1, 3) := by decide +kernel
theorem dX2_goes_28 : decode cX2_goes 28 = .ok (.goto (-21), 3) := by decide +kernel
theorem dX2_goes_31 : decode cX2_goes 31 = .ok (.aload_n 0, 1) := by decide +kernel
theorem dX2_goes_32 : decode cX2_goes 32 = .ok (.iload_n 1, 1) := by decide +kernel
theorem dX2_goes_33 : decode cX2_goes 33 = .ok (.invokevirtual 80, 3) := by decide +kernel
theorem dX2_goes_36 : decode cX2_goes 36 = .ok (.ireturn, 1) := by decide +kernel
theorem dX2_basisCount_0 : decode cX2_basisCount 0 = .ok (.aload_n 0, 1) := by decide +kernel
theorem dX2_basisCount_1 : decode cX2_basisCount 1 = .ok (.getfield 66, 3) := by decide +kernel
theorem dX2_basisCount_4 : decode cX2_basisCount 4 = .ok (.aload_n 0, 1) := by decide +kernel
theorem dX2_basisCount_5 : decode cX2_basisCount 5 = .ok (.aload_n 0, 1) := by decide +kernel
theorem dX2_basisCount_6 : decode cX2_basisCount 6 = .ok (.getfield 33, 3) := by decide +kernel
theorem dX2_basisCount_9 : decode cX2_basisCount 9 = .ok (.invokevirtual 72, 3) := by decide +kernel
theorem dX2_basisCount_12 : decode cX2_basisCount 12 = .ok (.isub, 1) := by decide +kernel
theorem dX2_basisCount_13 : decode cX2_basisCount 13 = .ok (.ireturn, 1) := by decide +kernel
theorem dX2_solve_0 : decode cX2_solve 0 = .ok (.aload_n 0, 1) := by decide +kernel
theorem dX2_solve_1 : decode cX2_solve 1 = .ok (.aload_n 0, 1) := by decide +kernel
theorem dX2_solve_2 : decode cX2_solve 2 = .ok (.getfield 33, 3) := by decide +kernel
theorem dX2_solve_5 : decode cX2_solve 5 = .ok (.invokevirtual 83, 3) := by decide +kernel
theorem dX2_solve_8 : decode cX2_solve 8 = .ok (.ifCond .eq 10, 3) := by decide +kernel
theorem dX2_solve_11 : decode cX2_solve 11 = .ok (.aload_n 0, 1) := by decide +kernel
theorem dX2_solve_12 : decode cX2_solve 12 = .ok (.invokevirtual 86, 3) := by decide +kernel
theorem dX2_solve_15 : decode cX2_solve 15 = .ok (.goto 4, 3) := by decide +kernel
theorem dX2_solve_18 : decode cX2_solve 18 = .ok (.iconst (-1), 1) := by decide +kernel
theorem dX2_solve_19 : decode cX2_solve 19 = .ok (.ireturn, 1) := by decide +kernel
theorem dX2_fails_0 : decode cX2_fails 0 = .ok (.iconst 1, 1) := by decide +kernel
theorem dX2_fails_1 : decode cX2_fails 1 = .ok (.istore_n 1, 1) := by decide +kernel
theorem dX2_fails_2 : decode cX2_fails 2 = .ok (.iload_n 1, 1) := by decide +kernel
theorem dX2_fails_3 : decode cX2_fails 3 = .ok (.aload_n 0, 1) := by decide +kernel
theorem dX2_fails_4 : decode cX2_fails 4 = .ok (.getfield 33, 3) := by decide +kernel
theorem dX2_fails_7 : decode cX2_fails 7 = .ok (.if_icmp .gt 21, 3) := by decide +kernel
theorem dX2_fails_10 : decode cX2_fails 10 = .ok (.aload_n 0, 1) := by decide +kernel
theorem dX2_fails_11 : decode cX2_fails 11 = .ok (.iload_n 1, 1) := by decide +kernel
theorem dX2_fails_12 : decode cX2_fails 12 = .ok (.invokevirtual 83, 3) := by decide +kernel
theorem dX2_fails_15 : decode cX2_fails 15 = .ok (.ifCond .ne 7, 3) := by decide +kernel
theorem dX2_fails_18 : decode cX2_fails 18 = .ok (.iload_n 1, 1) := by decide +kernel
theorem dX2_fails_19 : decode cX2_fails 19 = .ok (.iconst 1, 1) := by decide +kernel
theorem dX2_fails_20 : decode cX2_fails 20 = .ok (.isub, 1) := by decide +kernel
theorem dX2_fails_21 : decode cX2_fails 21 = .ok (.ireturn, 1) := by decide +kernel
theorem dX2_fails_22 : decode cX2_fails 22 = .ok (.iinc 1 1, 3) := by decide +kernel
theorem dX2_fails_25 : decode cX2_fails 25 = .ok (.goto (-23), 3) := by decide +kernel
theorem dX2_fails_28 : decode cX2_fails 28 = .ok (.iconst (-1), 1) := by decide +kernel
theorem dX2_fails_29 : decode cX2_fails 29 = .ok (.ireturn, 1) := by decide +kernel
theorem dX2_solution_0 : decode cX2_solution 0 = .ok (.iload_n 1, 1) := by decide +kernel
theorem dX2_solution_1 : decode cX2_solution 1 = .ok (.ifCond .lt 22, 3) := by decide +kernel
theorem dX2_solution_4 : decode cX2_solution 4 = .ok (.iload_n 1, 1) := by decide +kernel
theorem dX2_solution_5 : decode cX2_solution 5 = .ok (.aload_n 0, 1) := by decide +kernel
theorem dX2_solution_6 : decode cX2_solution 6 = .ok (.getfield 7, 3) := by decide +kernel
theorem dX2_solution_9 : decode cX2_solution 9 = .ok (.if_icmp .ge 14, 3) := by decide +kernel
theorem dX2_solution_12 : decode cX2_solution 12 = .ok (.aload_n 0, 1) := by decide +kernel
theorem dX2_solution_13 : decode cX2_solution 13 = .ok (.aload_n 0, 1) := by decide +kernel
theorem dX2_solution_14 : decode cX2_solution 14 = .ok (.getfield 33, 3) := by decide +kernel
theorem dX2_solution_17 : decode cX2_solution 17 = .ok (.invokevirtual 83, 3) := by decide +kernel
theorem dX2_solution_20 : decode cX2_solution 20 = .ok (.ifCond .ne 7, 3) := by decide +kernel
theorem dX2_solution_23 : decode cX2_solution 23 = .ok (.ldc2_w 90, 3) := by decide +kernel
theorem dX2_solution_26 : decode cX2_solution 26 = .ok (.lreturn, 1) := by decide +kernel
theorem dX2_solution_27 : decode cX2_solution 27 = .ok (.aload_n 0, 1) := by decide +kernel
theorem dX2_solution_28 : decode cX2_solution 28 = .ok (.aload_n 0, 1) := by decide +kernel
theorem dX2_solution_29 : decode cX2_solution 29 = .ok (.getfield 33, 3) := by decide +kernel
theorem dX2_solution_32 : decode cX2_solution 32 = .ok (.invokevirtual 72, 3) := by decide +kernel
theorem dX2_solution_35 : decode cX2_solution 35 = .ok (.istore_n 2, 1) := by decide +kernel
theorem dX2_solution_36 : decode cX2_solution 36 = .ok (.iload_n 2, 1) := by decide +kernel
theorem dX2_solution_37 : decode cX2_solution 37 = .ok (.aload_n 0, 1) := by decide +kernel
theorem dX2_solution_38 : decode cX2_solution 38 = .ok (.getfield 66, 3) := by decide +kernel
theorem dX2_solution_41 : decode cX2_solution 41 = .ok (.if_icmp .ge 96, 3) := by decide +kernel
theorem dX2_solution_44 : decode cX2_solution 44 = .ok (.aload_n 0, 1) := by decide +kernel
theorem dX2_solution_45 : decode cX2_solution 45 = .ok (.getfield 24, 3) := by decide +kernel
theorem dX2_solution_48 : decode cX2_solution 48 = .ok (.iload_n 2, 1) := by decide +kernel
theorem dX2_solution_49 : decode cX2_solution 49 = .ok (.iaload, 1) := by decide +kernel
theorem dX2_solution_50 : decode cX2_solution 50 = .ok (.aload_n 0, 1) := by decide +kernel
theorem dX2_solution_51 : decode cX2_solution 51 = .ok (.getfield 33, 3) := by decide +kernel
theorem dX2_solution_54 : decode cX2_solution 54 = .ok (.isub, 1) := by decide +kernel
theorem dX2_solution_55 : decode cX2_solution 55 = .ok (.istore_n 3, 1) := by decide +kernel
theorem dX2_solution_56 : decode cX2_solution 56 = .ok (.aload_n 0, 1) := by decide +kernel
theorem dX2_solution_57 : decode cX2_solution 57 = .ok (.getfield 30, 3) := by decide +kernel
theorem dX2_solution_60 : decode cX2_solution 60 = .ok (.iload_n 3, 1) := by decide +kernel
theorem dX2_solution_61 : decode cX2_solution 61 = .ok (.laload, 1) := by decide +kernel
theorem dX2_solution_62 : decode cX2_solution 62 = .ok (.aload_n 0, 1) := by decide +kernel
theorem dX2_solution_63 : decode cX2_solution 63 = .ok (.getfield 20, 3) := by decide +kernel
theorem dX2_solution_66 : decode cX2_solution 66 = .ok (.bipush 8, 2) := by decide +kernel
theorem dX2_solution_68 : decode cX2_solution 68 = .ok (.iload_n 2, 1) := by decide +kernel
theorem dX2_solution_69 : decode cX2_solution 69 = .ok (.imul, 1) := by decide +kernel
theorem dX2_solution_70 : decode cX2_solution 70 = .ok (.aload_n 0, 1) := by decide +kernel
theorem dX2_solution_71 : decode cX2_solution 71 = .ok (.getfield 24, 3) := by decide +kernel
theorem dX2_solution_74 : decode cX2_solution 74 = .ok (.iload_n 2, 1) := by decide +kernel
theorem dX2_solution_75 : decode cX2_solution 75 = .ok (.iaload, 1) := by decide +kernel
theorem dX2_solution_76 : decode cX2_solution 76 = .ok (.iadd, 1) := by decide +kernel
theorem dX2_solution_77 : decode cX2_solution 77 = .ok (.laload, 1) := by decide +kernel
theorem dX2_solution_78 : decode cX2_solution 78 = .ok (.invokestatic 62, 3) := by decide +kernel
theorem dX2_solution_81 : decode cX2_solution 81 = .ok (.lstore 4, 2) := by decide +kernel
theorem dX2_solution_83 : decode cX2_solution 83 = .ok (.iconst 0, 1) := by decide +kernel
theorem dX2_solution_84 : decode cX2_solution 84 = .ok (.istore 6, 2) := by decide +kernel
theorem dX2_solution_86 : decode cX2_solution 86 = .ok (.iload 6, 2) := by decide +kernel
theorem dX2_solution_88 : decode cX2_solution 88 = .ok (.aload_n 0, 1) := by decide +kernel
theorem dX2_solution_89 : decode cX2_solution 89 = .ok (.getfield 7, 3) := by decide +kernel
theorem dX2_solution_92 : decode cX2_solution 92 = .ok (.if_icmp .ge 39, 3) := by decide +kernel
theorem dX2_solution_95 : decode cX2_solution 95 = .ok (.aload_n 0, 1) := by decide +kernel
theorem dX2_solution_96 : decode cX2_solution 96 = .ok (.getfield 30, 3) := by decide +kernel
theorem dX2_solution_99 : decode cX2_solution 99 = .ok (.iload 6, 2) := by decide +kernel
theorem dX2_solution_101 : decode cX2_solution 101 = .ok (.dup2, 1) := by decide +kernel
theorem dX2_solution_102 : decode cX2_solution 102 = .ok (.laload, 1) := by decide +kernel
theorem dX2_solution_103 : decode cX2_solution 103 = .ok (.lload 4, 2) := by decide +kernel
theorem dX2_solution_105 : decode cX2_solution 105 = .ok (.aload_n 0, 1) := by decide +kernel
theorem dX2_solution_106 : decode cX2_solution 106 = .ok (.getfield 20, 3) := by decide +kernel
theorem dX2_solution_109 : decode cX2_solution 109 = .ok (.bipush 8, 2) := by decide +kernel
theorem dX2_solution_111 : decode cX2_solution 111 = .ok (.iload_n 2, 1) := by decide +kernel
theorem dX2_solution_112 : decode cX2_solution 112 = .ok (.imul, 1) := by decide +kernel
theorem dX2_solution_113 : decode cX2_solution 113 = .ok (.aload_n 0, 1) := by decide +kernel
theorem dX2_solution_114 : decode cX2_solution 114 = .ok (.getfield 33, 3) := by decide +kernel
theorem dX2_solution_117 : decode cX2_solution 117 = .ok (.iadd, 1) := by decide +kernel
theorem dX2_solution_118 : decode cX2_solution 118 = .ok (.iload 6, 2) := by decide +kernel
theorem dX2_solution_120 : decode cX2_solution 120 = .ok (.iadd, 1) := by decide +kernel
theorem dX2_solution_121 : decode cX2_solution 121 = .ok (.laload, 1) := by decide +kernel
theorem dX2_solution_122 : decode cX2_solution 122 = .ok (.lmul, 1) := by decide +kernel
theorem dX2_solution_123 : decode cX2_solution 123 = .ok (.lsub, 1) := by decide +kernel
theorem dX2_solution_124 : decode cX2_solution 124 = .ok (.lastore, 1) := by decide +kernel
theorem dX2_solution_125 : decode cX2_solution 125 = .ok (.iinc 6 1, 3) := by decide +kernel
theorem dX2_solution_128 : decode cX2_solution 128 = .ok (.goto (-42), 3) := by decide +kernel
theorem dX2_solution_131 : decode cX2_solution 131 = .ok (.iinc 2 1, 3) := by decide +kernel
theorem dX2_solution_134 : decode cX2_solution 134 = .ok (.goto (-98), 3) := by decide +kernel
theorem dX2_solution_137 : decode cX2_solution 137 = .ok (.aload_n 0, 1) := by decide +kernel
theorem dX2_solution_138 : decode cX2_solution 138 = .ok (.getfield 30, 3) := by decide +kernel
theorem dX2_solution_141 : decode cX2_solution 141 = .ok (.iload_n 1, 1) := by decide +kernel
theorem dX2_solution_142 : decode cX2_solution 142 = .ok (.laload, 1) := by decide +kernel
end
section
theorem dX2_solution_143 : decode cX2_solution 143 = .ok (.lreturn, 1) := by decide +kernel
theorem dX2_basis_0 : decode cX2_basis 0 = .ok (.aload_n 0, 1) := by decide +kernel
theorem dX2_basis_1 : decode cX2_basis 1 = .ok (.aload_n 0, 1) := by decide +kernel
theorem dX2_basis_2 : decode cX2_basis 2 = .ok (.getfield 33, 3) := by decide +kernel
theorem dX2_basis_5 : decode cX2_basis 5 = .ok (.invokevirtual 76, 3) := by decide +kernel
theorem dX2_basis_8 : decode cX2_basis 8 = .ok (.iload_n 1, 1) := by decide +kernel
theorem dX2_basis_9 : decode cX2_basis 9 = .ok (.ifCond .lt 23, 3) := by decide +kernel
theorem dX2_basis_12 : decode cX2_basis 12 = .ok (.iload_n 1, 1) := by decide +kernel
theorem dX2_basis_13 : decode cX2_basis 13 = .ok (.aload_n 0, 1) := by decide +kernel
theorem dX2_basis_14 : decode cX2_basis 14 = .ok (.invokevirtual 86, 3) := by decide +kernel
theorem dX2_basis_17 : decode cX2_basis 17 = .ok (.if_icmp .ge 15, 3) := by decide +kernel
theorem dX2_basis_20 : decode cX2_basis 20 = .ok (.iload_n 2, 1) := by decide +kernel
theorem dX2_basis_21 : decode cX2_basis 21 = .ok (.ifCond .lt 11, 3) := by decide +kernel
theorem dX2_basis_24 : decode cX2_basis 24 = .ok (.iload_n 2, 1) := by decide +kernel
theorem dX2_basis_25 : decode cX2_basis 25 = .ok (.aload_n 0, 1) := by decide +kernel
theorem dX2_basis_26 : decode cX2_basis 26 = .ok (.getfield 7, 3) := by decide +kernel
theorem dX2_basis_29 : decode cX2_basis 29 = .ok (.if_icmp .lt 7, 3) := by decide +kernel
theorem dX2_basis_32 : decode cX2_basis 32 = .ok (.ldc2_w 90, 3) := by decide +kernel
theorem dX2_basis_35 : decode cX2_basis 35 = .ok (.lreturn, 1) := by decide +kernel
theorem dX2_basis_36 : decode cX2_basis 36 = .ok (.aload_n 0, 1) := by decide +kernel
theorem dX2_basis_37 : decode cX2_basis 37 = .ok (.getfield 20, 3) := by decide +kernel
theorem dX2_basis_40 : decode cX2_basis 40 = .ok (.bipush 8, 2) := by decide +kernel
theorem dX2_basis_42 : decode cX2_basis 42 = .ok (.aload_n 0, 1) := by decide +kernel
theorem dX2_basis_43 : decode cX2_basis 43 = .ok (.aload_n 0, 1) := by decide +kernel
theorem dX2_basis_44 : decode cX2_basis 44 = .ok (.getfield 33, 3) := by decide +kernel
theorem dX2_basis_47 : decode cX2_basis 47 = .ok (.invokevirtual 72, 3) := by decide +kernel
theorem dX2_basis_50 : decode cX2_basis 50 = .ok (.iload_n 1, 1) := by decide +kernel
theorem dX2_basis_51 : decode cX2_basis 51 = .ok (.iadd, 1) := by decide +kernel
theorem dX2_basis_52 : decode cX2_basis 52 = .ok (.imul, 1) := by decide +kernel
theorem dX2_basis_53 : decode cX2_basis 53 = .ok (.aload_n 0, 1) := by decide +kernel
theorem dX2_basis_54 : decode cX2_basis 54 = .ok (.getfield 33, 3) := by decide +kernel
theorem dX2_basis_57 : decode cX2_basis 57 = .ok (.iadd, 1) := by decide +kernel
theorem dX2_basis_58 : decode cX2_basis 58 = .ok (.iload_n 2, 1) := by decide +kernel
theorem dX2_basis_59 : decode cX2_basis 59 = .ok (.iadd, 1) := by decide +kernel
theorem dX2_basis_60 : decode cX2_basis 60 = .ok (.laload, 1) := by decide +kernel
theorem dX2_basis_61 : decode cX2_basis 61 = .ok (.lreturn, 1) := by decide +kernel
theorem dX2_count_0 : decode cX2_count 0 = .ok (.aload_n 0, 1) := by decide +kernel
theorem dX2_count_1 : decode cX2_count 1 = .ok (.aload_n 0, 1) := by decide +kernel
theorem dX2_count_2 : decode cX2_count 2 = .ok (.getfield 33, 3) := by decide +kernel
theorem dX2_count_5 : decode cX2_count 5 = .ok (.invokevirtual 76, 3) := by decide +kernel
theorem dX2_count_8 : decode cX2_count 8 = .ok (.iload_n 1, 1) := by decide +kernel
theorem dX2_count_9 : decode cX2_count 9 = .ok (.ifCond .ne 14, 3) := by decide +kernel
theorem dX2_count_12 : decode cX2_count 12 = .ok (.aload_n 0, 1) := by decide +kernel
theorem dX2_count_13 : decode cX2_count 13 = .ok (.aload_n 0, 1) := by decide +kernel
theorem dX2_count_14 : decode cX2_count 14 = .ok (.getfield 33, 3) := by decide +kernel
theorem dX2_count_17 : decode cX2_count 17 = .ok (.invokevirtual 72, 3) := by decide +kernel
theorem dX2_count_20 : decode cX2_count 20 = .ok (.goto 40, 3) := by decide +kernel
theorem dX2_count_23 : decode cX2_count 23 = .ok (.iload_n 1, 1) := by decide +kernel
theorem dX2_count_24 : decode cX2_count 24 = .ok (.iconst 1, 1) := by decide +kernel
theorem dX2_count_25 : decode cX2_count 25 = .ok (.if_icmp .ne 10, 3) := by decide +kernel
theorem dX2_count_28 : decode cX2_count 28 = .ok (.aload_n 0, 1) := by decide +kernel
theorem dX2_count_29 : decode cX2_count 29 = .ok (.invokevirtual 86, 3) := by decide +kernel
theorem dX2_count_32 : decode cX2_count 32 = .ok (.goto 28, 3) := by decide +kernel
theorem dX2_count_35 : decode cX2_count 35 = .ok (.iload_n 1, 1) := by decide +kernel
theorem dX2_count_36 : decode cX2_count 36 = .ok (.iconst 2, 1) := by decide +kernel
theorem dX2_count_37 : decode cX2_count 37 = .ok (.if_icmp .ne 10, 3) := by decide +kernel
theorem dX2_count_40 : decode cX2_count 40 = .ok (.aload_n 0, 1) := by decide +kernel
theorem dX2_count_41 : decode cX2_count 41 = .ok (.getfield 33, 3) := by decide +kernel
theorem dX2_count_44 : decode cX2_count 44 = .ok (.goto 16, 3) := by decide +kernel
theorem dX2_count_47 : decode cX2_count 47 = .ok (.iload_n 1, 1) := by decide +kernel
theorem dX2_count_48 : decode cX2_count 48 = .ok (.iconst 3, 1) := by decide +kernel
theorem dX2_count_49 : decode cX2_count 49 = .ok (.if_icmp .ne 10, 3) := by decide +kernel
theorem dX2_count_52 : decode cX2_count 52 = .ok (.aload_n 0, 1) := by decide +kernel
theorem dX2_count_53 : decode cX2_count 53 = .ok (.getfield 7, 3) := by decide +kernel
theorem dX2_count_56 : decode cX2_count 56 = .ok (.goto 4, 3) := by decide +kernel
theorem dX2_count_59 : decode cX2_count 59 = .ok (.iconst (-1), 1) := by decide +kernel
theorem dX2_count_60 : decode cX2_count 60 = .ok (.ireturn, 1) := by decide +kernel
theorem dX2_reach_0 : decode cX2_reach 0 = .ok (.aload_n 0, 1) := by decide +kernel
theorem dX2_reach_1 : decode cX2_reach 1 = .ok (.aload_n 0, 1) := by decide +kernel
theorem dX2_reach_2 : decode cX2_reach 2 = .ok (.getfield 33, 3) := by decide +kernel
theorem dX2_reach_5 : decode cX2_reach 5 = .ok (.invokevirtual 76, 3) := by decide +kernel
theorem dX2_reach_8 : decode cX2_reach 8 = .ok (.iload_n 1, 1) := by decide +kernel
theorem dX2_reach_9 : decode cX2_reach 9 = .ok (.ifCond .lt 27, 3) := by decide +kernel
theorem dX2_reach_12 : decode cX2_reach 12 = .ok (.iload_n 1, 1) := by decide +kernel
theorem dX2_reach_13 : decode cX2_reach 13 = .ok (.aload_n 0, 1) := by decide +kernel
theorem dX2_reach_14 : decode cX2_reach 14 = .ok (.aload_n 0, 1) := by decide +kernel
theorem dX2_reach_15 : decode cX2_reach 15 = .ok (.getfield 33, 3) := by decide +kernel
theorem dX2_reach_18 : decode cX2_reach 18 = .ok (.invokevirtual 72, 3) := by decide +kernel
theorem dX2_reach_21 : decode cX2_reach 21 = .ok (.if_icmp .ge 15, 3) := by decide +kernel
theorem dX2_reach_24 : decode cX2_reach 24 = .ok (.iload_n 2, 1) := by decide +kernel
theorem dX2_reach_25 : decode cX2_reach 25 = .ok (.ifCond .lt 11, 3) := by decide +kernel
theorem dX2_reach_28 : decode cX2_reach 28 = .ok (.iload_n 2, 1) := by decide +kernel
theorem dX2_reach_29 : decode cX2_reach 29 = .ok (.aload_n 0, 1) := by decide +kernel
theorem dX2_reach_30 : decode cX2_reach 30 = .ok (.getfield 33, 3) := by decide +kernel
theorem dX2_reach_33 : decode cX2_reach 33 = .ok (.if_icmp .lt 7, 3) := by decide +kernel
theorem dX2_reach_36 : decode cX2_reach 36 = .ok (.ldc2_w 90, 3) := by decide +kernel
theorem dX2_reach_39 : decode cX2_reach 39 = .ok (.lreturn, 1) := by decide +kernel
theorem dX2_reach_40 : decode cX2_reach 40 = .ok (.aload_n 0, 1) := by decide +kernel
theorem dX2_reach_41 : decode cX2_reach 41 = .ok (.getfield 20, 3) := by decide +kernel
theorem dX2_reach_44 : decode cX2_reach 44 = .ok (.bipush 8, 2) := by decide +kernel
theorem dX2_reach_46 : decode cX2_reach 46 = .ok (.iload_n 1, 1) := by decide +kernel
theorem dX2_reach_47 : decode cX2_reach 47 = .ok (.imul, 1) := by decide +kernel
theorem dX2_reach_48 : decode cX2_reach 48 = .ok (.iload_n 2, 1) := by decide +kernel
theorem dX2_reach_49 : decode cX2_reach 49 = .ok (.iadd, 1) := by decide +kernel
theorem dX2_reach_50 : decode cX2_reach 50 = .ok (.laload, 1) := by decide +kernel
theorem dX2_reach_51 : decode cX2_reach 51 = .ok (.lreturn, 1) := by decide +kernel
theorem dX2_reached_0 : decode cX2_reached 0 = .ok (.aload_n 0, 1) := by decide +kernel
theorem dX2_reached_1 : decode cX2_reached 1 = .ok (.aload_n 0, 1) := by decide +kernel
theorem dX2_reached_2 : decode cX2_reached 2 = .ok (.getfield 33, 3) := by decide +kernel
theorem dX2_reached_5 : decode cX2_reached 5 = .ok (.invokevirtual 76, 3) := by decide +kernel
theorem dX2_reached_8 : decode cX2_reached 8 = .ok (.aload_n 0, 1) := by decide +kernel
theorem dX2_reached_9 : decode cX2_reached 9 = .ok (.getfield 27, 3) := by decide +kernel
theorem dX2_reached_12 : decode cX2_reached 12 = .ok (.iconst 0, 1) := by decide +kernel
theorem dX2_reached_13 : decode cX2_reached 13 = .ok (.iload_n 1, 1) := by decide +kernel
theorem dX2_reached_14 : decode cX2_reached 14 = .ok (.i2l, 1) := by decide +kernel
theorem dX2_reached_15 : decode cX2_reached 15 = .ok (.lastore, 1) := by decide +kernel
theorem dX2_reached_16 : decode cX2_reached 16 = .ok (.aload_n 0, 1) := by decide +kernel
theorem dX2_reached_17 : decode cX2_reached 17 = .ok (.getfield 27, 3) := by decide +kernel
theorem dX2_reached_20 : decode cX2_reached 20 = .ok (.iconst 1, 1) := by decide +kernel
theorem dX2_reached_21 : decode cX2_reached 21 = .ok (.iload_n 2, 1) := by decide +kernel
theorem dX2_reached_22 : decode cX2_reached 22 = .ok (.i2l, 1) := by decide +kernel
theorem dX2_reached_23 : decode cX2_reached 23 = .ok (.lastore, 1) := by decide +kernel
theorem dX2_reached_24 : decode cX2_reached 24 = .ok (.aload_n 0, 1) := by decide +kernel
theorem dX2_reached_25 : decode cX2_reached 25 = .ok (.getfield 27, 3) := by decide +kernel
theorem dX2_reached_28 : decode cX2_reached 28 = .ok (.iconst 2, 1) := by decide +kernel
theorem dX2_reached_29 : decode cX2_reached 29 = .ok (.iload_n 3, 1) := by decide +kernel
theorem dX2_reached_30 : decode cX2_reached 30 = .ok (.i2l, 1) := by decide +kernel
theorem dX2_reached_31 : decode cX2_reached 31 = .ok (.lastore, 1) := by decide +kernel
theorem dX2_reached_32 : decode cX2_reached 32 = .ok (.aload_n 0, 1) := by decide +kernel
theorem dX2_reached_33 : decode cX2_reached 33 = .ok (.aload_n 0, 1) := by decide +kernel
theorem dX2_reached_34 : decode cX2_reached 34 = .ok (.getfield 33, 3) := by decide +kernel
theorem dX2_reached_37 : decode cX2_reached 37 = .ok (.invokevirtual 80, 3) := by decide +kernel
theorem dX2_reached_40 : decode cX2_reached 40 = .ok (.ifCond .eq 7, 3) := by decide +kernel
theorem dX2_reached_43 : decode cX2_reached 43 = .ok (.iconst 1, 1) := by decide +kernel
theorem dX2_reached_44 : decode cX2_reached 44 = .ok (.goto 4, 3) := by decide +kernel
theorem dX2_reached_47 : decode cX2_reached 47 = .ok (.iconst 0, 1) := by decide +kernel
theorem dX2_reached_48 : decode cX2_reached 48 = .ok (.ireturn, 1) := by decide +kernel
theorem dX2_common_0 : decode cX2_common 0 = .ok (.lload_n 0, 1) := by decide +kernel
theorem dX2_common_1 : decode cX2_common 1 = .ok (.invokestatic 44, 3) := by decide +kernel
theorem dX2_common_4 : decode cX2_common 4 = .ok (.lstore 4, 2) := by decide +kernel
theorem dX2_common_6 : decode cX2_common 6 = .ok (.lload_n 2, 1) := by decide +kernel
theorem dX2_common_7 : decode cX2_common 7 = .ok (.invokestatic 44, 3) := by decide +kernel
theorem dX2_common_10 : decode cX2_common 10 = .ok (.lstore 6, 2) := by decide +kernel
theorem dX2_common_12 : decode cX2_common 12 = .ok (.lload 6, 2) := by decide +kernel
theorem dX2_common_14 : decode cX2_common 14 = .ok (.lconst 0, 1) := by decide +kernel
theorem dX2_common_15 : decode cX2_common 15 = .ok (.lcmp, 1) := by decide +kernel
theorem dX2_common_16 : decode cX2_common 16 = .ok (.ifCond .le 21, 3) := by decide +kernel
theorem dX2_common_19 : decode cX2_common 19 = .ok (.lload 4, 2) := by decide +kernel
theorem dX2_common_21 : decode cX2_common 21 = .ok (.lload 6, 2) := by decide +kernel
theorem dX2_common_23 : decode cX2_common 23 = .ok (.lrem, 1) := by decide +kernel
theorem dX2_common_24 : decode cX2_common 24 = .ok (.lstore 8, 2) := by decide +kernel
theorem dX2_common_26 : decode cX2_common 26 = .ok (.lload 6, 2) := by decide +kernel
theorem dX2_common_28 : decode cX2_common 28 = .ok (.lstore 4, 2) := by decide +kernel
theorem dX2_common_30 : decode cX2_common 30 = .ok (.lload 8, 2) := by decide +kernel
theorem dX2_common_32 : decode cX2_common 32 = .ok (.lstore 6, 2) := by decide +kernel
theorem dX2_common_34 : decode cX2_common 34 = .ok (.goto (-22), 3) := by decide +kernel
theorem dX2_common_37 : decode cX2_common 37 = .ok (.lload 4, 2) := by decide +kernel
theorem dX2_common_39 : decode cX2_common 39 = .ok (.lreturn, 1) := by decide +kernel
theorem dX2_place_0 : decode cX2_place 0 = .ok (.iconst 0, 1) := by decide +kernel
theorem dX2_place_1 : decode cX2_place 1 = .ok (.istore_n 2, 1) := by decide +kernel
theorem dX2_place_2 : decode cX2_place 2 = .ok (.iload_n 1, 1) := by decide +kernel
theorem dX2_place_3 : decode cX2_place 3 = .ok (.istore_n 3, 1) := by decide +kernel
theorem dX2_place_4 : decode cX2_place 4 = .ok (.iload_n 0, 1) := by decide +kernel
theorem dX2_place_5 : decode cX2_place 5 = .ok (.iload_n 2, 1) := by decide +kernel
theorem dX2_place_6 : decode cX2_place 6 = .ok (.ishr, 1) := by decide +kernel
theorem dX2_place_7 : decode cX2_place 7 = .ok (.iconst 1, 1) := by decide +kernel
theorem dX2_place_8 : decode cX2_place 8 = .ok (.iand, 1) := by decide +kernel
theorem dX2_place_9 : decode cX2_place 9 = .ok (.ifCond .eq 7, 3) := by decide +kernel
theorem dX2_place_12 : decode cX2_place 12 = .ok (.iload_n 3, 1) := by decide +kernel
theorem dX2_place_13 : decode cX2_place 13 = .ok (.ifCond .le 17, 3) := by decide +kernel
theorem dX2_place_16 : decode cX2_place 16 = .ok (.iload_n 3, 1) := by decide +kernel
theorem dX2_place_17 : decode cX2_place 17 = .ok (.iload_n 0, 1) := by decide +kernel
theorem dX2_place_18 : decode cX2_place 18 = .ok (.iload_n 2, 1) := by decide +kernel
theorem dX2_place_19 : decode cX2_place 19 = .ok (.ishr, 1) := by decide +kernel
theorem dX2_place_20 : decode cX2_place 20 = .ok (.iconst 1, 1) := by decide +kernel
theorem dX2_place_21 : decode cX2_place 21 = .ok (.iand, 1) := by decide +kernel
theorem dX2_place_22 : decode cX2_place 22 = .ok (.isub, 1) := by decide +kernel
theorem dX2_place_23 : decode cX2_place 23 = .ok (.istore_n 3, 1) := by decide +kernel
theorem dX2_place_24 : decode cX2_place 24 = .ok (.iinc 2 1, 3) := by decide +kernel
theorem dX2_place_27 : decode cX2_place 27 = .ok (.goto (-23), 3) := by decide +kernel
theorem dX2_place_30 : decode cX2_place 30 = .ok (.iload_n 2, 1) := by decide +kernel
theorem dX2_place_31 : decode cX2_place 31 = .ok (.ireturn, 1) := by decide +kernel
theorem dX2_ones_0 : decode cX2_ones 0 = .ok (.iload_n 0, 1) := by decide +kernel
theorem dX2_ones_1 : decode cX2_ones 1 = .ok (.iconst 1, 1) := by decide +kernel
theorem dX2_ones_2 : decode cX2_ones 2 = .ok (.iand, 1) := by decide +kernel
theorem dX2_ones_3 : decode cX2_ones 3 = .ok (.iload_n 0, 1) := by decide +kernel
theorem dX2_ones_4 : decode cX2_ones 4 = .ok (.iconst 1, 1) := by decide +kernel
theorem dX2_ones_5 : decode cX2_ones 5 = .ok (.ishr, 1) := by decide +kernel
theorem dX2_ones_6 : decode cX2_ones 6 = .ok (.iconst 1, 1) := by decide +kernel
theorem dX2_ones_7 : decode cX2_ones 7 = .ok (.iand, 1) := by decide +kernel
theorem dX2_ones_8 : decode cX2_ones 8 = .ok (.iadd, 1) := by decide +kernel
theorem dX2_ones_9 : decode cX2_ones 9 = .ok (.iload_n 0, 1) := by decide +kernel
theorem dX2_ones_10 : decode cX2_ones 10 = .ok (.iconst 2, 1) := by decide +kernel
theorem dX2_ones_11 : decode cX2_ones 11 = .ok (.ishr, 1) := by decide +kernel
theorem dX2_ones_12 : decode cX2_ones 12 = .ok (.iconst 1, 1) := by decide +kernel
theorem dX2_ones_13 : decode cX2_ones 13 = .ok (.iand, 1) := by decide +kernel
theorem dX2_ones_14 : decode cX2_ones 14 = .ok (.iadd, 1) := by decide +kernel
theorem dX2_ones_15 : decode cX2_ones 15 = .ok (.iload_n 0, 1) := by decide +kernel
theorem dX2_ones_16 : decode cX2_ones 16 = .ok (.iconst 3, 1) := by decide +kernel
theorem dX2_ones_17 : decode cX2_ones 17 = .ok (.ishr, 1) := by decide +kernel
theorem dX2_ones_18 : decode cX2_ones 18 = .ok (.iconst 1, 1) := by decide +kernel
theorem dX2_ones_19 : decode cX2_ones 19 = .ok (.iand, 1) := by decide +kernel
theorem dX2_ones_20 : decode cX2_ones 20 = .ok (.iadd, 1) := by decide +kernel
theorem dX2_ones_21 : decode cX2_ones 21 = .ok (.ireturn, 1) := by decide +kernel
theorem dX2_two_0 : decode cX2_two 0 = .ok (.aload_n 0, 1) := by decide +kernel
theorem dX2_two_1 : decode cX2_two 1 = .ok (.getfield 13, 3) := by decide +kernel
theorem dX2_two_4 : decode cX2_two 4 = .ok (.iconst 4, 1) := by decide +kernel
theorem dX2_two_5 : decode cX2_two 5 = .ok (.iload_n 1, 1) := by decide +kernel
theorem dX2_two_6 : decode cX2_two 6 = .ok (.imul, 1) := by decide +kernel
theorem dX2_two_7 : decode cX2_two 7 = .ok (.iload_n 3, 1) := by decide +kernel
theorem dX2_two_8 : decode cX2_two 8 = .ok (.iadd, 1) := by decide +kernel
theorem dX2_two_9 : decode cX2_two 9 = .ok (.iaload, 1) := by decide +kernel
theorem dX2_two_10 : decode cX2_two 10 = .ok (.i2l, 1) := by decide +kernel
theorem dX2_two_11 : decode cX2_two 11 = .ok (.aload_n 0, 1) := by decide +kernel
theorem dX2_two_12 : decode cX2_two 12 = .ok (.getfield 13, 3) := by decide +kernel
theorem dX2_two_15 : decode cX2_two 15 = .ok (.iconst 4, 1) := by decide +kernel
theorem dX2_two_16 : decode cX2_two 16 = .ok (.iload_n 2, 1) := by decide +kernel
theorem dX2_two_17 : decode cX2_two 17 = .ok (.imul, 1) := by decide +kernel
theorem dX2_two_18 : decode cX2_two 18 = .ok (.iload 4, 2) := by decide +kernel
theorem dX2_two_20 : decode cX2_two 20 = .ok (.iadd, 1) := by decide +kernel
theorem dX2_two_21 : decode cX2_two 21 = .ok (.iaload, 1) := by decide +kernel
theorem dX2_two_22 : decode cX2_two 22 = .ok (.i2l, 1) := by decide +kernel
theorem dX2_two_23 : decode cX2_two 23 = .ok (.lmul, 1) := by decide +kernel
theorem dX2_two_24 : decode cX2_two 24 = .ok (.aload_n 0, 1) := by decide +kernel
theorem dX2_two_25 : decode cX2_two 25 = .ok (.getfield 13, 3) := by decide +kernel
theorem dX2_two_28 : decode cX2_two 28 = .ok (.iconst 4, 1) := by decide +kernel
theorem dX2_two_29 : decode cX2_two 29 = .ok (.iload_n 1, 1) := by decide +kernel
theorem dX2_two_30 : decode cX2_two 30 = .ok (.imul, 1) := by decide +kernel
theorem dX2_two_31 : decode cX2_two 31 = .ok (.iload 4, 2) := by decide +kernel
theorem dX2_two_33 : decode cX2_two 33 = .ok (.iadd, 1) := by decide +kernel
theorem dX2_two_34 : decode cX2_two 34 = .ok (.iaload, 1) := by decide +kernel
theorem dX2_two_35 : decode cX2_two 35 = .ok (.i2l, 1) := by decide +kernel
theorem dX2_two_36 : decode cX2_two 36 = .ok (.aload_n 0, 1) := by decide +kernel
theorem dX2_two_37 : decode cX2_two 37 = .ok (.getfield 13, 3) := by decide +kernel
theorem dX2_two_40 : decode cX2_two 40 = .ok (.iconst 4, 1) := by decide +kernel
theorem dX2_two_41 : decode cX2_two 41 = .ok (.iload_n 2, 1) := by decide +kernel
theorem dX2_two_42 : decode cX2_two 42 = .ok (.imul, 1) := by decide +kernel
theorem dX2_two_43 : decode cX2_two 43 = .ok (.iload_n 3, 1) := by decide +kernel
theorem dX2_two_44 : decode cX2_two 44 = .ok (.iadd, 1) := by decide +kernel
theorem dX2_two_45 : decode cX2_two 45 = .ok (.iaload, 1) := by decide +kernel
theorem dX2_two_46 : decode cX2_two 46 = .ok (.i2l, 1) := by decide +kernel
theorem dX2_two_47 : decode cX2_two 47 = .ok (.lmul, 1) := by decide +kernel
theorem dX2_two_48 : decode cX2_two 48 = .ok (.lsub, 1) := by decide +kernel
theorem dX2_two_49 : decode cX2_two 49 = .ok (.lreturn, 1) := by decide +kernel
theorem dX2_determinant_0 : decode cX2_determinant 0 = .ok (.iload_n 1, 1) := by decide +kernel
theorem dX2_determinant_1 : decode cX2_determinant 1 = .ok (.iconst 0, 1) := by decide +kernel
theorem dX2_determinant_2 : decode cX2_determinant 2 = .ok (.invokestatic 92, 3) := by decide +kernel
theorem dX2_determinant_5 : decode cX2_determinant 5 = .ok (.istore 4, 2) := by decide +kernel
theorem dX2_determinant_7 : decode cX2_determinant 7 = .ok (.iload_n 2, 1) := by decide +kernel
theorem dX2_determinant_8 : decode cX2_determinant 8 = .ok (.iconst 0, 1) := by decide +kernel
theorem dX2_determinant_9 : decode cX2_determinant 9 = .ok (.invokestatic 92, 3) := by decide +kernel
theorem dX2_determinant_12 : decode cX2_determinant 12 = .ok (.istore 5, 2) := by decide +kernel
theorem dX2_determinant_14 : decode cX2_determinant 14 = .ok (.iload_n 3, 1) := by decide +kernel
theorem dX2_determinant_15 : decode cX2_determinant 15 = .ok (.iconst 1, 1) := by decide +kernel
theorem dX2_determinant_16 : decode cX2_determinant 16 = .ok (.if_icmp .ne 17, 3) := by decide +kernel
theorem dX2_determinant_19 : decode cX2_determinant 19 = .ok (.aload_n 0, 1) := by decide +kernel
theorem dX2_determinant_20 : decode cX2_determinant 20 = .ok (.getfield 13, 3) := by decide +kernel
theorem dX2_determinant_23 : decode cX2_determinant 23 = .ok (.iconst 4, 1) := by decide +kernel
theorem dX2_determinant_24 : decode cX2_determinant 24 = .ok (.iload 4, 2) := by decide +kernel
theorem dX2_determinant_26 : decode cX2_determinant 26 = .ok (.imul, 1) := by decide +kernel
theorem dX2_determinant_27 : decode cX2_determinant 27 = .ok (.iload 5, 2) := by decide +kernel
theorem dX2_determinant_29 : decode cX2_determinant 29 = .ok (.iadd, 1) := by decide +kernel
theorem dX2_determinant_30 : decode cX2_determinant 30 = .ok (.iaload, 1) := by decide +kernel
theorem dX2_determinant_31 : decode cX2_determinant 31 = .ok (.i2l, 1) := by decide +kernel
theorem dX2_determinant_32 : decode cX2_determinant 32 = .ok (.lreturn, 1) := by decide +kernel
theorem dX2_determinant_33 : decode cX2_determinant 33 = .ok (.iload_n 1, 1) := by decide +kernel
theorem dX2_determinant_34 : decode cX2_determinant 34 = .ok (.iconst 1, 1) := by decide +kernel
theorem dX2_determinant_35 : decode cX2_determinant 35 = .ok (.invokestatic 92, 3) := by decide +kernel
theorem dX2_determinant_38 : decode cX2_determinant 38 = .ok (.istore 6, 2) := by decide +kernel
theorem dX2_determinant_40 : decode cX2_determinant 40 = .ok (.iload_n 2, 1) := by decide +kernel
theorem dX2_determinant_41 : decode cX2_determinant 41 = .ok (.iconst 1, 1) := by decide +kernel
theorem dX2_determinant_42 : decode cX2_determinant 42 = .ok (.invokestatic 92, 3) := by decide +kernel
theorem dX2_determinant_45 : decode cX2_determinant 45 = .ok (.istore 7, 2) := by decide +kernel
theorem dX2_determinant_47 : decode cX2_determinant 47 = .ok (.iload_n 3, 1) := by decide +kernel
theorem dX2_determinant_48 : decode cX2_determinant 48 = .ok (.iconst 2, 1) := by decide +kernel
theorem dX2_determinant_49 : decode cX2_determinant 49 = .ok (.if_icmp .ne 16, 3) := by decide +kernel
theorem dX2_determinant_52 : decode cX2_determinant 52 = .ok (.aload_n 0, 1) := by decide +kernel
theorem dX2_determinant_53 : decode cX2_determinant 53 = .ok (.iload 4, 2) := by decide +kernel
theorem dX2_determinant_55 : decode cX2_determinant 55 = .ok (.iload 6, 2) := by decide +kernel
theorem dX2_determinant_57 : decode cX2_determinant 57 = .ok (.iload 5, 2) := by decide +kernel
theorem dX2_determinant_59 : decode cX2_determinant 59 = .ok (.iload 7, 2) := by decide +kernel
theorem dX2_determinant_61 : decode cX2_determinant 61 = .ok (.invokevirtual 96, 3) := by decide +kernel
theorem dX2_determinant_64 : decode cX2_determinant 64 = .ok (.lreturn, 1) := by decide +kernel
theorem dX2_determinant_65 : decode cX2_determinant 65 = .ok (.iload_n 1, 1) := by decide +kernel
theorem dX2_determinant_66 : decode cX2_determinant 66 = .ok (.iconst 2, 1) := by decide +kernel
theorem dX2_determinant_67 : decode cX2_determinant 67 = .ok (.invokestatic 92, 3) := by decide +kernel
theorem dX2_determinant_70 : decode cX2_determinant 70 = .ok (.istore 8, 2) := by decide +kernel
theorem dX2_determinant_72 : decode cX2_determinant 72 = .ok (.iload_n 2, 1) := by decide +kernel
theorem dX2_determinant_73 : decode cX2_determinant 73 = .ok (.iconst 2, 1) := by decide +kernel
theorem dX2_determinant_74 : decode cX2_determinant 74 = .ok (.invokestatic 92, 3) := by decide +kernel
theorem dX2_determinant_77 : decode cX2_determinant 77 = .ok (.istore 9, 2) := by decide +kernel
theorem dX2_determinant_79 : decode cX2_determinant 79 = .ok (.aload_n 0, 1) := by decide +kernel
theorem dX2_determinant_80 : decode cX2_determinant 80 = .ok (.getfield 13, 3) := by decide +kernel
theorem dX2_determinant_83 : decode cX2_determinant 83 = .ok (.iconst 4, 1) := by decide +kernel
theorem dX2_determinant_84 : decode cX2_determinant 84 = .ok (.iload 4, 2) := by decide +kernel
theorem dX2_determinant_86 : decode cX2_determinant 86 = .ok (.imul, 1) := by decide +kernel
theorem dX2_determinant_87 : decode cX2_determinant 87 = .ok (.iload 5, 2) := by decide +kernel
theorem dX2_determinant_89 : decode cX2_determinant 89 = .ok (.iadd, 1) := by decide +kernel
theorem dX2_determinant_90 : decode cX2_determinant 90 = .ok (.iaload, 1) := by decide +kernel
theorem dX2_determinant_91 : decode cX2_determinant 91 = .ok (.i2l, 1) := by decide +kernel
theorem dX2_determinant_92 : decode cX2_determinant 92 = .ok (.aload_n 0, 1) := by decide +kernel
theorem dX2_determinant_93 : decode cX2_determinant 93 = .ok (.iload 6, 2) := by decide +kernel
theorem dX2_determinant_95 : decode cX2_determinant 95 = .ok (.iload 8, 2) := by decide +kernel
theorem dX2_determinant_97 : decode cX2_determinant 97 = .ok (.iload 7, 2) := by decide +kernel
theorem dX2_determinant_99 : decode cX2_determinant 99 = .ok (.iload 9, 2) := by decide +kernel
theorem dX2_determinant_101 : decode cX2_determinant 101 = .ok (.invokevirtual 96, 3) := by decide +kernel
theorem dX2_determinant_104 : decode cX2_determinant 104 = .ok (.lmul, 1) := by decide +kernel
theorem dX2_determinant_105 : decode cX2_determinant 105 = .ok (.aload_n 0, 1) := by decide +kernel
theorem dX2_determinant_106 : decode cX2_determinant 106 = .ok (.getfield 13, 3) := by decide +kernel
theorem dX2_determinant_109 : decode cX2_determinant 109 = .ok (.iconst 4, 1) := by decide +kernel
theorem dX2_determinant_110 : decode cX2_determinant 110 = .ok (.iload 4, 2) := by decide +kernel
theorem dX2_determinant_112 : decode cX2_determinant 112 = .ok (.imul, 1) := by decide +kernel
theorem dX2_determinant_113 : decode cX2_determinant 113 = .ok (.iload 7, 2) := by decide +kernel
theorem dX2_determinant_115 : decode cX2_determinant 115 = .ok (.iadd, 1) := by decide +kernel
theorem dX2_determinant_116 : decode cX2_determinant 116 = .ok (.iaload, 1) := by decide +kernel
theorem dX2_determinant_117 : decode cX2_determinant 117 = .ok (.i2l, 1) := by decide +kernel
theorem dX2_determinant_118 : decode cX2_determinant 118 = .ok (.aload_n 0, 1) := by decide +kernel
theorem dX2_determinant_119 : decode cX2_determinant 119 = .ok (.iload 6, 2) := by decide +kernel
theorem dX2_determinant_121 : decode cX2_determinant 121 = .ok (.iload 8, 2) := by decide +kernel
theorem dX2_determinant_123 : decode cX2_determinant 123 = .ok (.iload 5, 2) := by decide +kernel
theorem dX2_determinant_125 : decode cX2_determinant 125 = .ok (.iload 9, 2) := by decide +kernel
theorem dX2_determinant_127 : decode cX2_determinant 127 = .ok (.invokevirtual 96, 3) := by decide +kernel
theorem dX2_determinant_130 : decode cX2_determinant 130 = .ok (.lmul, 1) := by decide +kernel
theorem dX2_determinant_131 : decode cX2_determinant 131 = .ok (.lsub, 1) := by decide +kernel
theorem dX2_determinant_132 : decode cX2_determinant 132 = .ok (.aload_n 0, 1) := by decide +kernel
theorem dX2_determinant_133 : decode cX2_determinant 133 = .ok (.getfield 13, 3) := by decide +kernel
theorem dX2_determinant_136 : decode cX2_determinant 136 = .ok (.iconst 4, 1) := by decide +kernel
theorem dX2_determinant_137 : decode cX2_determinant 137 = .ok (.iload 4, 2) := by decide +kernel
theorem dX2_determinant_139 : decode cX2_determinant 139 = .ok (.imul, 1) := by decide +kernel
theorem dX2_determinant_140 : decode cX2_determinant 140 = .ok (.iload 9, 2) := by decide +kernel
theorem dX2_determinant_142 : decode cX2_determinant 142 = .ok (.iadd, 1) := by decide +kernel
theorem dX2_determinant_143 : decode cX2_determinant 143 = .ok (.iaload, 1) := by decide +kernel
theorem dX2_determinant_144 : decode cX2_determinant 144 = .ok (.i2l, 1) := by decide +kernel
theorem dX2_determinant_145 : decode cX2_determinant 145 = .ok (.aload_n 0, 1) := by decide +kernel
theorem dX2_determinant_146 : decode cX2_determinant 146 = .ok (.iload 6, 2) := by decide +kernel
theorem dX2_determinant_148 : decode cX2_determinant 148 = .ok (.iload 8, 2) := by decide +kernel
theorem dX2_determinant_150 : decode cX2_determinant 150 = .ok (.iload 5, 2) := by decide +kernel
theorem dX2_determinant_152 : decode cX2_determinant 152 = .ok (.iload 7, 2) := by decide +kernel
theorem dX2_determinant_154 : decode cX2_determinant 154 = .ok (.invokevirtual 96, 3) := by decide +kernel
theorem dX2_determinant_157 : decode cX2_determinant 157 = .ok (.lmul, 1) := by decide +kernel
theorem dX2_determinant_158 : decode cX2_determinant 158 = .ok (.ladd, 1) := by decide +kernel
theorem dX2_determinant_159 : decode cX2_determinant 159 = .ok (.lreturn, 1) := by decide +kernel
theorem dX2_divisor_0 : decode cX2_divisor 0 = .ok (.iload_n 1, 1) := by decide +kernel
theorem dX2_divisor_1 : decode cX2_divisor 1 = .ok (.ifCond .ne 7, 3) := by decide +kernel
theorem dX2_divisor_4 : decode cX2_divisor 4 = .ok (.lconst 1, 1) := by decide +kernel
theorem dX2_divisor_5 : decode cX2_divisor 5 = .ok (.goto 4, 3) := by decide +kernel
theorem dX2_divisor_8 : decode cX2_divisor 8 = .ok (.lconst 0, 1) := by decide +kernel
theorem dX2_divisor_9 : decode cX2_divisor 9 = .ok (.lstore_n 2, 1) := by decide +kernel
theorem dX2_divisor_10 : decode cX2_divisor 10 = .ok (.iconst 1, 1) := by decide +kernel
theorem dX2_divisor_11 : decode cX2_divisor 11 = .ok (.istore 4, 2) := by decide +kernel
theorem dX2_divisor_13 : decode cX2_divisor 13 = .ok (.iload 4, 2) := by decide +kernel
theorem dX2_divisor_15 : decode cX2_divisor 15 = .ok (.iconst 1, 1) := by decide +kernel
theorem dX2_divisor_16 : decode cX2_divisor 16 = .ok (.aload_n 0, 1) := by decide +kernel
theorem dX2_divisor_17 : decode cX2_divisor 17 = .ok (.getfield 33, 3) := by decide +kernel
theorem dX2_divisor_20 : decode cX2_divisor 20 = .ok (.ishl, 1) := by decide +kernel
theorem dX2_divisor_21 : decode cX2_divisor 21 = .ok (.if_icmp .ge 65, 3) := by decide +kernel
theorem dX2_divisor_24 : decode cX2_divisor 24 = .ok (.iload_n 1, 1) := by decide +kernel
theorem dX2_divisor_25 : decode cX2_divisor 25 = .ok (.ifCond .le 61, 3) := by decide +kernel
theorem dX2_divisor_28 : decode cX2_divisor 28 = .ok (.iconst 1, 1) := by decide +kernel
theorem dX2_divisor_29 : decode cX2_divisor 29 = .ok (.istore 5, 2) := by decide +kernel
theorem dX2_divisor_31 : decode cX2_divisor 31 = .ok (.iload 5, 2) := by decide +kernel
theorem dX2_divisor_33 : decode cX2_divisor 33 = .ok (.iconst 1, 1) := by decide +kernel
theorem dX2_divisor_34 : decode cX2_divisor 34 = .ok (.aload_n 0, 1) := by decide +kernel
theorem dX2_divisor_35 : decode cX2_divisor 35 = .ok (.getfield 7, 3) := by decide +kernel
theorem dX2_divisor_38 : decode cX2_divisor 38 = .ok (.ishl, 1) := by decide +kernel
theorem dX2_divisor_39 : decode cX2_divisor 39 = .ok (.if_icmp .ge 41, 3) := by decide +kernel
theorem dX2_divisor_42 : decode cX2_divisor 42 = .ok (.iload 4, 2) := by decide +kernel
theorem dX2_divisor_44 : decode cX2_divisor 44 = .ok (.invokestatic 100, 3) := by decide +kernel
theorem dX2_divisor_47 : decode cX2_divisor 47 = .ok (.iload_n 1, 1) := by decide +kernel
theorem dX2_divisor_48 : decode cX2_divisor 48 = .ok (.if_icmp .ne 26, 3) := by decide +kernel
theorem dX2_divisor_51 : decode cX2_divisor 51 = .ok (.iload 5, 2) := by decide +kernel
theorem dX2_divisor_53 : decode cX2_divisor 53 = .ok (.invokestatic 100, 3) := by decide +kernel
theorem dX2_divisor_56 : decode cX2_divisor 56 = .ok (.iload_n 1, 1) := by decide +kernel
theorem dX2_divisor_57 : decode cX2_divisor 57 = .ok (.if_icmp .ne 17, 3) := by decide +kernel
theorem dX2_divisor_60 : decode cX2_divisor 60 = .ok (.lload_n 2, 1) := by decide +kernel
theorem dX2_divisor_61 : decode cX2_divisor 61 = .ok (.aload_n 0, 1) := by decide +kernel
theorem dX2_divisor_62 : decode cX2_divisor 62 = .ok (.iload 4, 2) := by decide +kernel
theorem dX2_divisor_64 : decode cX2_divisor 64 = .ok (.iload 5, 2) := by decide +kernel
theorem dX2_divisor_66 : decode cX2_divisor 66 = .ok (.iload_n 1, 1) := by decide +kernel
theorem dX2_divisor_67 : decode cX2_divisor 67 = .ok (.invokevirtual 103, 3) := by decide +kernel
theorem dX2_divisor_70 : decode cX2_divisor 70 = .ok (.invokestatic 107, 3) := by decide +kernel
theorem dX2_divisor_73 : decode cX2_divisor 73 = .ok (.lstore_n 2, 1) := by decide +kernel
theorem dX2_divisor_74 : decode cX2_divisor 74 = .ok (.iinc 5 1, 3) := by decide +kernel
theorem dX2_divisor_77 : decode cX2_divisor 77 = .ok (.goto (-46), 3) := by decide +kernel
theorem dX2_divisor_80 : decode cX2_divisor 80 = .ok (.iinc 4 1, 3) := by decide +kernel
theorem dX2_divisor_83 : decode cX2_divisor 83 = .ok (.goto (-70), 3) := by decide +kernel
theorem dX2_divisor_86 : decode cX2_divisor 86 = .ok (.lload_n 2, 1) := by decide +kernel
theorem dX2_divisor_87 : decode cX2_divisor 87 = .ok (.lreturn, 1) := by decide +kernel
theorem dX2_invariant_0 : decode cX2_invariant 0 = .ok (.iload_n 1, 1) := by decide +kernel
theorem dX2_invariant_1 : decode cX2_invariant 1 = .ok (.iconst 1, 1) := by decide +kernel
theorem dX2_invariant_2 : decode cX2_invariant 2 = .ok (.if_icmp .lt 19, 3) := by decide +kernel
theorem dX2_invariant_5 : decode cX2_invariant 5 = .ok (.iload_n 1, 1) := by decide +kernel
theorem dX2_invariant_6 : decode cX2_invariant 6 = .ok (.aload_n 0, 1) := by decide +kernel
theorem dX2_invariant_7 : decode cX2_invariant 7 = .ok (.getfield 33, 3) := by decide +kernel
theorem dX2_invariant_10 : decode cX2_invariant 10 = .ok (.if_icmp .gt 11, 3) := by decide +kernel
theorem dX2_invariant_13 : decode cX2_invariant 13 = .ok (.iload_n 1, 1) := by decide +kernel
theorem dX2_invariant_14 : decode cX2_invariant 14 = .ok (.aload_n 0, 1) := by decide +kernel
theorem dX2_invariant_15 : decode cX2_invariant 15 = .ok (.getfield 7, 3) := by decide +kernel
theorem dX2_invariant_18 : decode cX2_invariant 18 = .ok (.if_icmp .le 7, 3) := by decide +kernel
theorem dX2_invariant_21 : decode cX2_invariant 21 = .ok (.ldc2_w 90, 3) := by decide +kernel
theorem dX2_invariant_24 : decode cX2_invariant 24 = .ok (.lreturn, 1) := by decide +kernel
theorem dX2_invariant_25 : decode cX2_invariant 25 = .ok (.aload_n 0, 1) := by decide +kernel
theorem dX2_invariant_26 : decode cX2_invariant 26 = .ok (.iload_n 1, 1) := by decide +kernel
theorem dX2_invariant_27 : decode cX2_invariant 27 = .ok (.invokevirtual 110, 3) := by decide +kernel
theorem dX2_invariant_30 : decode cX2_invariant 30 = .ok (.lstore_n 2, 1) := by decide +kernel
theorem dX2_invariant_31 : decode cX2_invariant 31 = .ok (.lload_n 2, 1) := by decide +kernel
theorem dX2_invariant_32 : decode cX2_invariant 32 = .ok (.lconst 0, 1) := by decide +kernel
theorem dX2_invariant_33 : decode cX2_invariant 33 = .ok (.lcmp, 1) := by decide +kernel
theorem dX2_invariant_34 : decode cX2_invariant 34 = .ok (.ifCond .ne 7, 3) := by decide +kernel
theorem dX2_invariant_37 : decode cX2_invariant 37 = .ok (.lconst 0, 1) := by decide +kernel
theorem dX2_invariant_38 : decode cX2_invariant 38 = .ok (.goto 12, 3) := by decide +kernel
theorem dX2_invariant_41 : decode cX2_invariant 41 = .ok (.lload_n 2, 1) := by decide +kernel
theorem dX2_invariant_42 : decode cX2_invariant 42 = .ok (.aload_n 0, 1) := by decide +kernel
theorem dX2_invariant_43 : decode cX2_invariant 43 = .ok (.iload_n 1, 1) := by decide +kernel
theorem dX2_invariant_44 : decode cX2_invariant 44 = .ok (.iconst 1, 1) := by decide +kernel
theorem dX2_invariant_45 : decode cX2_invariant 45 = .ok (.isub, 1) := by decide +kernel
theorem dX2_invariant_46 : decode cX2_invariant 46 = .ok (.invokevirtual 110, 3) := by decide +kernel
theorem dX2_invariant_49 : decode cX2_invariant 49 = .ok (.ldiv, 1) := by decide +kernel
theorem dX2_invariant_50 : decode cX2_invariant 50 = .ok (.lreturn, 1) := by decide +kernel
theorem dX2_leftOf_0 : decode cX2_leftOf 0 = .ok (.aload_n 0, 1) := by decide +kernel
theorem dX2_leftOf_1 : decode cX2_leftOf 1 = .ok (.getfield 17, 3) := by decide +kernel
theorem dX2_leftOf_4 : decode cX2_leftOf 4 = .ok (.iload_n 1, 1) := by decide +kernel
theorem dX2_leftOf_5 : decode cX2_leftOf 5 = .ok (.iaload, 1) := by decide +kernel
theorem dX2_leftOf_6 : decode cX2_leftOf 6 = .ok (.aload_n 0, 1) := by decide +kernel
theorem dX2_leftOf_7 : decode cX2_leftOf 7 = .ok (.getfield 7, 3) := by decide +kernel
theorem dX2_leftOf_10 : decode cX2_leftOf 10 = .ok (.iconst 1, 1) := by decide +kernel
theorem dX2_leftOf_11 : decode cX2_leftOf 11 = .ok (.if_icmp .le 16, 3) := by decide +kernel
theorem dX2_leftOf_14 : decode cX2_leftOf 14 = .ok (.aload_n 0, 1) := by decide +kernel
theorem dX2_leftOf_15 : decode cX2_leftOf 15 = .ok (.getfield 13, 3) := by decide +kernel
theorem dX2_leftOf_18 : decode cX2_leftOf 18 = .ok (.iconst 4, 1) := by decide +kernel
theorem dX2_leftOf_19 : decode cX2_leftOf 19 = .ok (.iload_n 1, 1) := by decide +kernel
theorem dX2_leftOf_20 : decode cX2_leftOf 20 = .ok (.imul, 1) := by decide +kernel
theorem dX2_leftOf_21 : decode cX2_leftOf 21 = .ok (.iaload, 1) := by decide +kernel
theorem dX2_leftOf_22 : decode cX2_leftOf 22 = .ok (.iload_n 2, 1) := by decide +kernel
theorem dX2_leftOf_23 : decode cX2_leftOf 23 = .ok (.imul, 1) := by decide +kernel
theorem dX2_leftOf_24 : decode cX2_leftOf 24 = .ok (.goto 4, 3) := by decide +kernel
theorem dX2_leftOf_27 : decode cX2_leftOf 27 = .ok (.iconst 0, 1) := by decide +kernel
theorem dX2_leftOf_28 : decode cX2_leftOf 28 = .ok (.isub, 1) := by decide +kernel
theorem dX2_leftOf_29 : decode cX2_leftOf 29 = .ok (.aload_n 0, 1) := by decide +kernel
theorem dX2_leftOf_30 : decode cX2_leftOf 30 = .ok (.getfield 7, 3) := by decide +kernel
theorem dX2_leftOf_33 : decode cX2_leftOf 33 = .ok (.iconst 2, 1) := by decide +kernel
theorem dX2_leftOf_34 : decode cX2_leftOf 34 = .ok (.if_icmp .le 18, 3) := by decide +kernel
theorem dX2_leftOf_37 : decode cX2_leftOf 37 = .ok (.aload_n 0, 1) := by decide +kernel
theorem dX2_leftOf_38 : decode cX2_leftOf 38 = .ok (.getfield 13, 3) := by decide +kernel
theorem dX2_leftOf_41 : decode cX2_leftOf 41 = .ok (.iconst 4, 1) := by decide +kernel
theorem dX2_leftOf_42 : decode cX2_leftOf 42 = .ok (.iload_n 1, 1) := by decide +kernel
theorem dX2_leftOf_43 : decode cX2_leftOf 43 = .ok (.imul, 1) := by decide +kernel
theorem dX2_leftOf_44 : decode cX2_leftOf 44 = .ok (.iconst 1, 1) := by decide +kernel
theorem dX2_leftOf_45 : decode cX2_leftOf 45 = .ok (.iadd, 1) := by decide +kernel
theorem dX2_leftOf_46 : decode cX2_leftOf 46 = .ok (.iaload, 1) := by decide +kernel
theorem dX2_leftOf_47 : decode cX2_leftOf 47 = .ok (.iload_n 3, 1) := by decide +kernel
theorem dX2_leftOf_48 : decode cX2_leftOf 48 = .ok (.imul, 1) := by decide +kernel
theorem dX2_leftOf_49 : decode cX2_leftOf 49 = .ok (.goto 4, 3) := by decide +kernel
theorem dX2_leftOf_52 : decode cX2_leftOf 52 = .ok (.iconst 0, 1) := by decide +kernel
theorem dX2_leftOf_53 : decode cX2_leftOf 53 = .ok (.isub, 1) := by decide +kernel
theorem dX2_leftOf_54 : decode cX2_leftOf 54 = .ok (.aload_n 0, 1) := by decide +kernel
theorem dX2_leftOf_55 : decode cX2_leftOf 55 = .ok (.getfield 7, 3) := by decide +kernel
theorem dX2_leftOf_58 : decode cX2_leftOf 58 = .ok (.iconst 3, 1) := by decide +kernel
theorem dX2_leftOf_59 : decode cX2_leftOf 59 = .ok (.if_icmp .le 19, 3) := by decide +kernel
theorem dX2_leftOf_62 : decode cX2_leftOf 62 = .ok (.aload_n 0, 1) := by decide +kernel
theorem dX2_leftOf_63 : decode cX2_leftOf 63 = .ok (.getfield 13, 3) := by decide +kernel
theorem dX2_leftOf_66 : decode cX2_leftOf 66 = .ok (.iconst 4, 1) := by decide +kernel
theorem dX2_leftOf_67 : decode cX2_leftOf 67 = .ok (.iload_n 1, 1) := by decide +kernel
theorem dX2_leftOf_68 : decode cX2_leftOf 68 = .ok (.imul, 1) := by decide +kernel
theorem dX2_leftOf_69 : decode cX2_leftOf 69 = .ok (.iconst 2, 1) := by decide +kernel
theorem dX2_leftOf_70 : decode cX2_leftOf 70 = .ok (.iadd, 1) := by decide +kernel
theorem dX2_leftOf_71 : decode cX2_leftOf 71 = .ok (.iaload, 1) := by decide +kernel
theorem dX2_leftOf_72 : decode cX2_leftOf 72 = .ok (.iload 4, 2) := by decide +kernel
theorem dX2_leftOf_74 : decode cX2_leftOf 74 = .ok (.imul, 1) := by decide +kernel
theorem dX2_leftOf_75 : decode cX2_leftOf 75 = .ok (.goto 4, 3) := by decide +kernel
theorem dX2_leftOf_78 : decode cX2_leftOf 78 = .ok (.iconst 0, 1) := by decide +kernel
theorem dX2_leftOf_79 : decode cX2_leftOf 79 = .ok (.isub, 1) := by decide +kernel
theorem dX2_leftOf_80 : decode cX2_leftOf 80 = .ok (.ireturn, 1) := by decide +kernel
theorem dX2_lasts_0 : decode cX2_lasts 0 = .ok (.iload_n 1, 1) := by decide +kernel
theorem dX2_lasts_1 : decode cX2_lasts 1 = .ok (.istore 6, 2) := by decide +kernel
theorem dX2_lasts_3 : decode cX2_lasts 3 = .ok (.iload_n 2, 1) := by decide +kernel
theorem dX2_lasts_4 : decode cX2_lasts 4 = .ok (.istore 7, 2) := by decide +kernel
theorem dX2_lasts_6 : decode cX2_lasts 6 = .ok (.iconst 0, 1) := by decide +kernel
theorem dX2_lasts_7 : decode cX2_lasts 7 = .ok (.istore 8, 2) := by decide +kernel
theorem dX2_lasts_9 : decode cX2_lasts 9 = .ok (.iload 8, 2) := by decide +kernel
theorem dX2_lasts_11 : decode cX2_lasts 11 = .ok (.aload_n 0, 1) := by decide +kernel
theorem dX2_lasts_12 : decode cX2_lasts 12 = .ok (.getfield 33, 3) := by decide +kernel
theorem dX2_lasts_15 : decode cX2_lasts 15 = .ok (.if_icmp .ge 114, 3) := by decide +kernel
theorem dX2_lasts_18 : decode cX2_lasts 18 = .ok (.aload_n 0, 1) := by decide +kernel
theorem dX2_lasts_19 : decode cX2_lasts 19 = .ok (.getfield 13, 3) := by decide +kernel
theorem dX2_lasts_22 : decode cX2_lasts 22 = .ok (.iconst 4, 1) := by decide +kernel
theorem dX2_lasts_23 : decode cX2_lasts 23 = .ok (.iload 8, 2) := by decide +kernel
theorem dX2_lasts_25 : decode cX2_lasts 25 = .ok (.imul, 1) := by decide +kernel
theorem dX2_lasts_26 : decode cX2_lasts 26 = .ok (.aload_n 0, 1) := by decide +kernel
theorem dX2_lasts_27 : decode cX2_lasts 27 = .ok (.getfield 7, 3) := by decide +kernel
theorem dX2_lasts_30 : decode cX2_lasts 30 = .ok (.iadd, 1) := by decide +kernel
theorem dX2_lasts_31 : decode cX2_lasts 31 = .ok (.iconst 1, 1) := by decide +kernel
theorem dX2_lasts_32 : decode cX2_lasts 32 = .ok (.isub, 1) := by decide +kernel
theorem dX2_lasts_33 : decode cX2_lasts 33 = .ok (.iaload, 1) := by decide +kernel
theorem dX2_lasts_34 : decode cX2_lasts 34 = .ok (.istore 9, 2) := by decide +kernel
theorem dX2_lasts_36 : decode cX2_lasts 36 = .ok (.aload_n 0, 1) := by decide +kernel
theorem dX2_lasts_37 : decode cX2_lasts 37 = .ok (.iload 8, 2) := by decide +kernel
theorem dX2_lasts_39 : decode cX2_lasts 39 = .ok (.iload_n 3, 1) := by decide +kernel
theorem dX2_lasts_40 : decode cX2_lasts 40 = .ok (.iload 4, 2) := by decide +kernel
theorem dX2_lasts_42 : decode cX2_lasts 42 = .ok (.iload 5, 2) := by decide +kernel
theorem dX2_lasts_44 : decode cX2_lasts 44 = .ok (.invokevirtual 114, 3) := by decide +kernel
theorem dX2_lasts_47 : decode cX2_lasts 47 = .ok (.istore 10, 2) := by decide +kernel
theorem dX2_lasts_49 : decode cX2_lasts 49 = .ok (.iload 9, 2) := by decide +kernel
theorem dX2_lasts_51 : decode cX2_lasts 51 = .ok (.ifCond .ne 8, 3) := by decide +kernel
theorem dX2_lasts_54 : decode cX2_lasts 54 = .ok (.iload 10, 2) := by decide +kernel
theorem dX2_lasts_56 : decode cX2_lasts 56 = .ok (.ifCond .ne 16, 3) := by decide +kernel
theorem dX2_lasts_59 : decode cX2_lasts 59 = .ok (.iload 9, 2) := by decide +kernel
theorem dX2_lasts_61 : decode cX2_lasts 61 = .ok (.ifCond .eq 13, 3) := by decide +kernel
theorem dX2_lasts_64 : decode cX2_lasts 64 = .ok (.iload 10, 2) := by decide +kernel
theorem dX2_lasts_66 : decode cX2_lasts 66 = .ok (.iload 9, 2) := by decide +kernel
theorem dX2_lasts_68 : decode cX2_lasts 68 = .ok (.irem, 1) := by decide +kernel
theorem dX2_lasts_69 : decode cX2_lasts 69 = .ok (.ifCond .eq 5, 3) := by decide +kernel
theorem dX2_lasts_72 : decode cX2_lasts 72 = .ok (.iconst 0, 1) := by decide +kernel
theorem dX2_lasts_73 : decode cX2_lasts 73 = .ok (.ireturn, 1) := by decide +kernel
theorem dX2_lasts_74 : decode cX2_lasts 74 = .ok (.iload 9, 2) := by decide +kernel
theorem dX2_lasts_76 : decode cX2_lasts 76 = .ok (.ifCond .eq 47, 3) := by decide +kernel
theorem dX2_lasts_79 : decode cX2_lasts 79 = .ok (.iload 10, 2) := by decide +kernel
theorem dX2_lasts_81 : decode cX2_lasts 81 = .ok (.iload 9, 2) := by decide +kernel
theorem dX2_lasts_83 : decode cX2_lasts 83 = .ok (.idiv, 1) := by decide +kernel
theorem dX2_lasts_84 : decode cX2_lasts 84 = .ok (.iload 6, 2) := by decide +kernel
theorem dX2_lasts_86 : decode cX2_lasts 86 = .ok (.if_icmp .le 11, 3) := by decide +kernel
theorem dX2_lasts_89 : decode cX2_lasts 89 = .ok (.iload 10, 2) := by decide +kernel
theorem dX2_lasts_91 : decode cX2_lasts 91 = .ok (.iload 9, 2) := by decide +kernel
theorem dX2_lasts_93 : decode cX2_lasts 93 = .ok (.idiv, 1) := by decide +kernel
theorem dX2_lasts_94 : decode cX2_lasts 94 = .ok (.goto 5, 3) := by decide +kernel
theorem dX2_lasts_97 : decode cX2_lasts 97 = .ok (.iload 6, 2) := by decide +kernel
theorem dX2_lasts_99 : decode cX2_lasts 99 = .ok (.istore 6, 2) := by decide +kernel
theorem dX2_lasts_101 : decode cX2_lasts 101 = .ok (.iload 10, 2) := by decide +kernel
theorem dX2_lasts_103 : decode cX2_lasts 103 = .ok (.iload 9, 2) := by decide +kernel
theorem dX2_lasts_105 : decode cX2_lasts 105 = .ok (.idiv, 1) := by decide +kernel
theorem dX2_lasts_106 : decode cX2_lasts 106 = .ok (.iload 7, 2) := by decide +kernel
theorem dX2_lasts_108 : decode cX2_lasts 108 = .ok (.if_icmp .ge 11, 3) := by decide +kernel
theorem dX2_lasts_111 : decode cX2_lasts 111 = .ok (.iload 10, 2) := by decide +kernel
theorem dX2_lasts_113 : decode cX2_lasts 113 = .ok (.iload 9, 2) := by decide +kernel
theorem dX2_lasts_115 : decode cX2_lasts 115 = .ok (.idiv, 1) := by decide +kernel
theorem dX2_lasts_116 : decode cX2_lasts 116 = .ok (.goto 5, 3) := by decide +kernel
theorem dX2_lasts_119 : decode cX2_lasts 119 = .ok (.iload 7, 2) := by decide +kernel
theorem dX2_lasts_121 : decode cX2_lasts 121 = .ok (.istore 7, 2) := by decide +kernel
theorem dX2_lasts_123 : decode cX2_lasts 123 = .ok (.iinc 8 1, 3) := by decide +kernel
theorem dX2_lasts_126 : decode cX2_lasts 126 = .ok (.goto (-117), 3) := by decide +kernel
theorem dX2_lasts_129 : decode cX2_lasts 129 = .ok (.iload 7, 2) := by decide +kernel
theorem dX2_lasts_131 : decode cX2_lasts 131 = .ok (.iload 6, 2) := by decide +kernel
theorem dX2_lasts_133 : decode cX2_lasts 133 = .ok (.if_icmp .ge 7, 3) := by decide +kernel
theorem dX2_lasts_136 : decode cX2_lasts 136 = .ok (.iconst 0, 1) := by decide +kernel
theorem dX2_lasts_137 : decode cX2_lasts 137 = .ok (.goto 10, 3) := by decide +kernel
theorem dX2_lasts_140 : decode cX2_lasts 140 = .ok (.iload 7, 2) := by decide +kernel
theorem dX2_lasts_142 : decode cX2_lasts 142 = .ok (.iload 6, 2) := by decide +kernel
theorem dX2_lasts_144 : decode cX2_lasts 144 = .ok (.isub, 1) := by decide +kernel
theorem dX2_lasts_145 : decode cX2_lasts 145 = .ok (.iconst 1, 1) := by decide +kernel
theorem dX2_lasts_146 : decode cX2_lasts 146 = .ok (.iadd, 1) := by decide +kernel
theorem dX2_lasts_147 : decode cX2_lasts 147 = .ok (.ireturn, 1) := by decide +kernel
theorem dX2_box_0 : decode cX2_box 0 = .ok (.iload_n 1, 1) := by decide +kernel
theorem dX2_box_1 : decode cX2_box 1 = .ok (.bipush (-12), 2) := by decide +kernel
theorem dX2_box_3 : decode cX2_box 3 = .ok (.if_icmp .lt 14, 3) := by decide +kernel
theorem dX2_box_6 : decode cX2_box 6 = .ok (.iload_n 2, 1) := by decide +kernel
theorem dX2_box_7 : decode cX2_box 7 = .ok (.bipush 12, 2) := by decide +kernel
theorem dX2_box_9 : decode cX2_box 9 = .ok (.if_icmp .gt 8, 3) := by decide +kernel
theorem dX2_box_12 : decode cX2_box 12 = .ok (.iload_n 2, 1) := by decide +kernel
theorem dX2_box_13 : decode cX2_box 13 = .ok (.iload_n 1, 1) := by decide +kernel
theorem dX2_box_14 : decode cX2_box 14 = .ok (.if_icmp .ge 5, 3) := by decide +kernel
theorem dX2_box_17 : decode cX2_box 17 = .ok (.iconst (-1), 1) := by decide +kernel
theorem dX2_box_18 : decode cX2_box 18 = .ok (.ireturn, 1) := by decide +kernel
theorem dX2_box_19 : decode cX2_box 19 = .ok (.iconst 0, 1) := by decide +kernel
theorem dX2_box_20 : decode cX2_box 20 = .ok (.istore_n 3, 1) := by decide +kernel
theorem dX2_box_21 : decode cX2_box 21 = .ok (.iload_n 1, 1) := by decide +kernel
theorem dX2_box_22 : decode cX2_box 22 = .ok (.istore 4, 2) := by decide +kernel
theorem dX2_box_24 : decode cX2_box 24 = .ok (.iload 4, 2) := by decide +kernel
theorem dX2_box_26 : decode cX2_box 26 = .ok (.aload_n 0, 1) := by decide +kernel
theorem dX2_box_27 : decode cX2_box 27 = .ok (.getfield 7, 3) := by decide +kernel
theorem dX2_box_30 : decode cX2_box 30 = .ok (.iconst 1, 1) := by decide +kernel
theorem dX2_box_31 : decode cX2_box 31 = .ok (.if_icmp .le 7, 3) := by decide +kernel
theorem dX2_box_34 : decode cX2_box 34 = .ok (.iload_n 2, 1) := by decide +kernel
theorem dX2_box_35 : decode cX2_box 35 = .ok (.goto 4, 3) := by decide +kernel
theorem dX2_box_38 : decode cX2_box 38 = .ok (.iload_n 1, 1) := by decide +kernel
theorem dX2_box_39 : decode cX2_box 39 = .ok (.if_icmp .gt 78, 3) := by decide +kernel
theorem dX2_box_42 : decode cX2_box 42 = .ok (.iload_n 1, 1) := by decide +kernel
theorem dX2_box_43 : decode cX2_box 43 = .ok (.istore 5, 2) := by decide +kernel
theorem dX2_box_45 : decode cX2_box 45 = .ok (.iload 5, 2) := by decide +kernel
theorem dX2_box_47 : decode cX2_box 47 = .ok (.aload_n 0, 1) := by decide +kernel
theorem dX2_box_48 : decode cX2_box 48 = .ok (.getfield 7, 3) := by decide +kernel
theorem dX2_box_51 : decode cX2_box 51 = .ok (.iconst 2, 1) := by decide +kernel
theorem dX2_box_52 : decode cX2_box 52 = .ok (.if_icmp .le 7, 3) := by decide +kernel
theorem dX2_box_55 : decode cX2_box 55 = .ok (.iload_n 2, 1) := by decide +kernel
theorem dX2_box_56 : decode cX2_box 56 = .ok (.goto 4, 3) := by decide +kernel
theorem dX2_box_59 : decode cX2_box 59 = .ok (.iload_n 1, 1) := by decide +kernel
theorem dX2_box_60 : decode cX2_box 60 = .ok (.if_icmp .gt 51, 3) := by decide +kernel
theorem dX2_box_63 : decode cX2_box 63 = .ok (.iload_n 1, 1) := by decide +kernel
theorem dX2_box_64 : decode cX2_box 64 = .ok (.istore 6, 2) := by decide +kernel
theorem dX2_box_66 : decode cX2_box 66 = .ok (.iload 6, 2) := by decide +kernel
theorem dX2_box_68 : decode cX2_box 68 = .ok (.aload_n 0, 1) := by decide +kernel
theorem dX2_box_69 : decode cX2_box 69 = .ok (.getfield 7, 3) := by decide +kernel
theorem dX2_box_72 : decode cX2_box 72 = .ok (.iconst 3, 1) := by decide +kernel
theorem dX2_box_73 : decode cX2_box 73 = .ok (.if_icmp .le 7, 3) := by decide +kernel
theorem dX2_box_76 : decode cX2_box 76 = .ok (.iload_n 2, 1) := by decide +kernel
theorem dX2_box_77 : decode cX2_box 77 = .ok (.goto 4, 3) := by decide +kernel
theorem dX2_box_80 : decode cX2_box 80 = .ok (.iload_n 1, 1) := by decide +kernel
theorem dX2_box_81 : decode cX2_box 81 = .ok (.if_icmp .gt 24, 3) := by decide +kernel
theorem dX2_box_84 : decode cX2_box 84 = .ok (.iload_n 3, 1) := by decide +kernel
theorem dX2_box_85 : decode cX2_box 85 = .ok (.aload_n 0, 1) := by decide +kernel
theorem dX2_box_86 : decode cX2_box 86 = .ok (.iload_n 1, 1) := by decide +kernel
theorem dX2_box_87 : decode cX2_box 87 = .ok (.iload_n 2, 1) := by decide +kernel
theorem dX2_box_88 : decode cX2_box 88 = .ok (.iload 4, 2) := by decide +kernel
theorem dX2_box_90 : decode cX2_box 90 = .ok (.iload 5, 2) := by decide +kernel
theorem dX2_box_92 : decode cX2_box 92 = .ok (.iload 6, 2) := by decide +kernel
theorem dX2_box_94 : decode cX2_box 94 = .ok (.invokevirtual 118, 3) := by decide +kernel
theorem dX2_box_97 : decode cX2_box 97 = .ok (.iadd, 1) := by decide +kernel
theorem dX2_box_98 : decode cX2_box 98 = .ok (.istore_n 3, 1) := by decide +kernel
theorem dX2_box_99 : decode cX2_box 99 = .ok (.iinc 6 1, 3) := by decide +kernel
theorem dX2_box_102 : decode cX2_box 102 = .ok (.goto (-36), 3) := by decide +kernel
theorem dX2_box_105 : decode cX2_box 105 = .ok (.iinc 5 1, 3) := by decide +kernel
theorem dX2_box_108 : decode cX2_box 108 = .ok (.goto (-63), 3) := by decide +kernel
theorem dX2_box_111 : decode cX2_box 111 = .ok (.iinc 4 1, 3) := by decide +kernel
theorem dX2_box_114 : decode cX2_box 114 = .ok (.goto (-90), 3) := by decide +kernel
theorem dX2_box_117 : decode cX2_box 117 = .ok (.iload_n 3, 1) := by decide +kernel
theorem dX2_box_118 : decode cX2_box 118 = .ok (.ireturn, 1) := by decide +kernel
theorem dX2_modulo_0 : decode cX2_modulo 0 = .ok (.iload_n 1, 1) := by decide +kernel
theorem dX2_modulo_1 : decode cX2_modulo 1 = .ok (.iconst 1, 1) := by decide +kernel
theorem dX2_modulo_2 : decode cX2_modulo 2 = .ok (.if_icmp .lt 9, 3) := by decide +kernel
theorem dX2_modulo_5 : decode cX2_modulo 5 = .ok (.iload_n 1, 1) := by decide +kernel
theorem dX2_modulo_6 : decode cX2_modulo 6 = .ok (.bipush 40, 2) := by decide +kernel
theorem dX2_modulo_8 : decode cX2_modulo 8 = .ok (.if_icmp .le 5, 3) := by decide +kernel
theorem dX2_modulo_11 : decode cX2_modulo 11 = .ok (.iconst (-1), 1) := by decide +kernel
theorem dX2_modulo_12 : decode cX2_modulo 12 = .ok (.ireturn, 1) := by decide +kernel
theorem dX2_modulo_13 : decode cX2_modulo 13 = .ok (.iconst 0, 1) := by decide +kernel
theorem dX2_modulo_14 : decode cX2_modulo 14 = .ok (.istore_n 2, 1) := by decide +kernel
theorem dX2_modulo_15 : decode cX2_modulo 15 = .ok (.iload_n 2, 1) := by decide +kernel
theorem dX2_modulo_16 : decode cX2_modulo 16 = .ok (.aload_n 0, 1) := by decide +kernel
theorem dX2_modulo_17 : decode cX2_modulo 17 = .ok (.getfield 7, 3) := by decide +kernel
theorem dX2_modulo_20 : decode cX2_modulo 20 = .ok (.aload_n 0, 1) := by decide +kernel
theorem dX2_modulo_21 : decode cX2_modulo 21 = .ok (.getfield 33, 3) := by decide +kernel
theorem dX2_modulo_24 : decode cX2_modulo 24 = .ok (.iadd, 1) := by decide +kernel
theorem dX2_modulo_25 : decode cX2_modulo 25 = .ok (.if_icmp .ge 84, 3) := by decide +kernel
theorem dX2_modulo_28 : decode cX2_modulo 28 = .ok (.iconst 0, 1) := by decide +kernel
theorem dX2_modulo_29 : decode cX2_modulo 29 = .ok (.istore_n 3, 1) := by decide +kernel
theorem dX2_modulo_30 : decode cX2_modulo 30 = .ok (.iload_n 3, 1) := by decide +kernel
theorem dX2_modulo_31 : decode cX2_modulo 31 = .ok (.bipush 8, 2) := by decide +kernel
theorem dX2_modulo_33 : decode cX2_modulo 33 = .ok (.if_icmp .ge 70, 3) := by decide +kernel
theorem dX2_modulo_36 : decode cX2_modulo 36 = .ok (.aload_n 0, 1) := by decide +kernel
theorem dX2_modulo_37 : decode cX2_modulo 37 = .ok (.getfield 20, 3) := by decide +kernel
theorem dX2_modulo_40 : decode cX2_modulo 40 = .ok (.bipush 8, 2) := by decide +kernel
theorem dX2_modulo_42 : decode cX2_modulo 42 = .ok (.iload_n 2, 1) := by decide +kernel
theorem dX2_modulo_43 : decode cX2_modulo 43 = .ok (.imul, 1) := by decide +kernel
theorem dX2_modulo_44 : decode cX2_modulo 44 = .ok (.iload_n 3, 1) := by decide +kernel
theorem dX2_modulo_45 : decode cX2_modulo 45 = .ok (.iadd, 1) := by decide +kernel
theorem dX2_modulo_46 : decode cX2_modulo 46 = .ok (.iload_n 3, 1) := by decide +kernel
theorem dX2_modulo_47 : decode cX2_modulo 47 = .ok (.aload_n 0, 1) := by decide +kernel
theorem dX2_modulo_48 : decode cX2_modulo 48 = .ok (.getfield 33, 3) := by decide +kernel
theorem dX2_modulo_51 : decode cX2_modulo 51 = .ok (.if_icmp .lt 7, 3) := by decide +kernel
theorem dX2_modulo_54 : decode cX2_modulo 54 = .ok (.lconst 0, 1) := by decide +kernel
theorem dX2_modulo_55 : decode cX2_modulo 55 = .ok (.goto 41, 3) := by decide +kernel
theorem dX2_modulo_58 : decode cX2_modulo 58 = .ok (.iload_n 2, 1) := by decide +kernel
theorem dX2_modulo_59 : decode cX2_modulo 59 = .ok (.aload_n 0, 1) := by decide +kernel
theorem dX2_modulo_60 : decode cX2_modulo 60 = .ok (.getfield 7, 3) := by decide +kernel
theorem dX2_modulo_63 : decode cX2_modulo 63 = .ok (.if_icmp .ge 17, 3) := by decide +kernel
theorem dX2_modulo_66 : decode cX2_modulo 66 = .ok (.aload_n 0, 1) := by decide +kernel
theorem dX2_modulo_67 : decode cX2_modulo 67 = .ok (.getfield 13, 3) := by decide +kernel
theorem dX2_modulo_70 : decode cX2_modulo 70 = .ok (.iconst 4, 1) := by decide +kernel
theorem dX2_modulo_71 : decode cX2_modulo 71 = .ok (.iload_n 3, 1) := by decide +kernel
theorem dX2_modulo_72 : decode cX2_modulo 72 = .ok (.imul, 1) := by decide +kernel
theorem dX2_modulo_73 : decode cX2_modulo 73 = .ok (.iload_n 2, 1) := by decide +kernel
theorem dX2_modulo_74 : decode cX2_modulo 74 = .ok (.iadd, 1) := by decide +kernel
theorem dX2_modulo_75 : decode cX2_modulo 75 = .ok (.iaload, 1) := by decide +kernel
theorem dX2_modulo_76 : decode cX2_modulo 76 = .ok (.i2l, 1) := by decide +kernel
theorem dX2_modulo_77 : decode cX2_modulo 77 = .ok (.goto 19, 3) := by decide +kernel
theorem dX2_modulo_80 : decode cX2_modulo 80 = .ok (.iload_n 3, 1) := by decide +kernel
theorem dX2_modulo_81 : decode cX2_modulo 81 = .ok (.iload_n 2, 1) := by decide +kernel
theorem dX2_modulo_82 : decode cX2_modulo 82 = .ok (.aload_n 0, 1) := by decide +kernel
theorem dX2_modulo_83 : decode cX2_modulo 83 = .ok (.getfield 7, 3) := by decide +kernel
theorem dX2_modulo_86 : decode cX2_modulo 86 = .ok (.isub, 1) := by decide +kernel
theorem dX2_modulo_87 : decode cX2_modulo 87 = .ok (.if_icmp .ne 8, 3) := by decide +kernel
theorem dX2_modulo_90 : decode cX2_modulo 90 = .ok (.iload_n 1, 1) := by decide +kernel
theorem dX2_modulo_91 : decode cX2_modulo 91 = .ok (.i2l, 1) := by decide +kernel
theorem dX2_modulo_92 : decode cX2_modulo 92 = .ok (.goto 4, 3) := by decide +kernel
theorem dX2_modulo_95 : decode cX2_modulo 95 = .ok (.lconst 0, 1) := by decide +kernel
theorem dX2_modulo_96 : decode cX2_modulo 96 = .ok (.lastore, 1) := by decide +kernel
theorem dX2_modulo_97 : decode cX2_modulo 97 = .ok (.iinc 3 1, 3) := by decide +kernel
theorem dX2_modulo_100 : decode cX2_modulo 100 = .ok (.goto (-70), 3) := by decide +kernel
theorem dX2_modulo_103 : decode cX2_modulo 103 = .ok (.iinc 2 1, 3) := by decide +kernel
theorem dX2_modulo_106 : decode cX2_modulo 106 = .ok (.goto (-91), 3) := by decide +kernel
theorem dX2_modulo_109 : decode cX2_modulo 109 = .ok (.aload_n 0, 1) := by decide +kernel
theorem dX2_modulo_110 : decode cX2_modulo 110 = .ok (.aload_n 0, 1) := by decide +kernel
theorem dX2_modulo_111 : decode cX2_modulo 111 = .ok (.getfield 7, 3) := by decide +kernel
theorem dX2_modulo_114 : decode cX2_modulo 114 = .ok (.aload_n 0, 1) := by decide +kernel
theorem dX2_modulo_115 : decode cX2_modulo 115 = .ok (.getfield 33, 3) := by decide +kernel
theorem dX2_modulo_118 : decode cX2_modulo 118 = .ok (.iadd, 1) := by decide +kernel
theorem dX2_modulo_119 : decode cX2_modulo 119 = .ok (.aload_n 0, 1) := by decide +kernel
theorem dX2_modulo_120 : decode cX2_modulo 120 = .ok (.getfield 33, 3) := by decide +kernel
theorem dX2_modulo_123 : decode cX2_modulo 123 = .ok (.invokevirtual 69, 3) := by decide +kernel
theorem dX2_modulo_126 : decode cX2_modulo 126 = .ok (.iconst 0, 1) := by decide +kernel
theorem dX2_modulo_127 : decode cX2_modulo 127 = .ok (.istore_n 2, 1) := by decide +kernel
theorem dX2_modulo_128 : decode cX2_modulo 128 = .ok (.iload_n 2, 1) := by decide +kernel
theorem dX2_modulo_129 : decode cX2_modulo 129 = .ok (.aload_n 0, 1) := by decide +kernel
theorem dX2_modulo_130 : decode cX2_modulo 130 = .ok (.getfield 33, 3) := by decide +kernel
theorem dX2_modulo_133 : decode cX2_modulo 133 = .ok (.if_icmp .ge 22, 3) := by decide +kernel
theorem dX2_modulo_136 : decode cX2_modulo 136 = .ok (.aload_n 0, 1) := by decide +kernel
theorem dX2_modulo_137 : decode cX2_modulo 137 = .ok (.getfield 27, 3) := by decide +kernel
theorem dX2_modulo_140 : decode cX2_modulo 140 = .ok (.iload_n 2, 1) := by decide +kernel
theorem dX2_modulo_141 : decode cX2_modulo 141 = .ok (.aload_n 0, 1) := by decide +kernel
theorem dX2_modulo_142 : decode cX2_modulo 142 = .ok (.getfield 17, 3) := by decide +kernel
theorem dX2_modulo_145 : decode cX2_modulo 145 = .ok (.iload_n 2, 1) := by decide +kernel
theorem dX2_modulo_146 : decode cX2_modulo 146 = .ok (.iaload, 1) := by decide +kernel
theorem dX2_modulo_147 : decode cX2_modulo 147 = .ok (.i2l, 1) := by decide +kernel
theorem dX2_modulo_148 : decode cX2_modulo 148 = .ok (.lastore, 1) := by decide +kernel
theorem dX2_modulo_149 : decode cX2_modulo 149 = .ok (.iinc 2 1, 3) := by decide +kernel
theorem dX2_modulo_152 : decode cX2_modulo 152 = .ok (.goto (-24), 3) := by decide +kernel
theorem dX2_modulo_155 : decode cX2_modulo 155 = .ok (.aload_n 0, 1) := by decide +kernel
theorem dX2_modulo_156 : decode cX2_modulo 156 = .ok (.aload_n 0, 1) := by decide +kernel
theorem dX2_modulo_157 : decode cX2_modulo 157 = .ok (.getfield 33, 3) := by decide +kernel
theorem dX2_modulo_160 : decode cX2_modulo 160 = .ok (.invokevirtual 80, 3) := by decide +kernel
theorem dX2_modulo_163 : decode cX2_modulo 163 = .ok (.ifCond .ne 5, 3) := by decide +kernel
theorem dX2_modulo_166 : decode cX2_modulo 166 = .ok (.iconst 0, 1) := by decide +kernel
theorem dX2_modulo_167 : decode cX2_modulo 167 = .ok (.ireturn, 1) := by decide +kernel
theorem dX2_modulo_168 : decode cX2_modulo 168 = .ok (.lconst 1, 1) := by decide +kernel
theorem dX2_modulo_169 : decode cX2_modulo 169 = .ok (.lstore_n 2, 1) := by decide +kernel
theorem dX2_modulo_170 : decode cX2_modulo 170 = .ok (.iconst 0, 1) := by decide +kernel
theorem dX2_modulo_171 : decode cX2_modulo 171 = .ok (.istore 4, 2) := by decide +kernel
theorem dX2_modulo_173 : decode cX2_modulo 173 = .ok (.iload 4, 2) := by decide +kernel
theorem dX2_modulo_175 : decode cX2_modulo 175 = .ok (.aload_n 0, 1) := by decide +kernel
theorem dX2_modulo_176 : decode cX2_modulo 176 = .ok (.getfield 7, 3) := by decide +kernel
theorem dX2_modulo_179 : decode cX2_modulo 179 = .ok (.if_icmp .ge 14, 3) := by decide +kernel
theorem dX2_modulo_182 : decode cX2_modulo 182 = .ok (.lload_n 2, 1) := by decide +kernel
theorem dX2_modulo_183 : decode cX2_modulo 183 = .ok (.iload_n 1, 1) := by decide +kernel
theorem dX2_modulo_184 : decode cX2_modulo 184 = .ok (.i2l, 1) := by decide +kernel
theorem dX2_modulo_185 : decode cX2_modulo 185 = .ok (.lmul, 1) := by decide +kernel
theorem dX2_modulo_186 : decode cX2_modulo 186 = .ok (.lstore_n 2, 1) := by decide +kernel
theorem dX2_modulo_187 : decode cX2_modulo 187 = .ok (.iinc 4 1, 3) := by decide +kernel
theorem dX2_modulo_190 : decode cX2_modulo 190 = .ok (.goto (-17), 3) := by decide +kernel
theorem dX2_modulo_193 : decode cX2_modulo 193 = .ok (.iconst 0, 1) := by decide +kernel
theorem dX2_modulo_194 : decode cX2_modulo 194 = .ok (.istore 4, 2) := by decide +kernel
theorem dX2_modulo_196 : decode cX2_modulo 196 = .ok (.iload 4, 2) := by decide +kernel
theorem dX2_modulo_198 : decode cX2_modulo 198 = .ok (.aload_n 0, 1) := by decide +kernel
theorem dX2_modulo_199 : decode cX2_modulo 199 = .ok (.getfield 33, 3) := by decide +kernel
theorem dX2_modulo_202 : decode cX2_modulo 202 = .ok (.if_icmp .ge 25, 3) := by decide +kernel
theorem dX2_modulo_205 : decode cX2_modulo 205 = .ok (.lload_n 2, 1) := by decide +kernel
theorem dX2_modulo_206 : decode cX2_modulo 206 = .ok (.aload_n 0, 1) := by decide +kernel
theorem dX2_modulo_207 : decode cX2_modulo 207 = .ok (.getfield 20, 3) := by decide +kernel
theorem dX2_modulo_210 : decode cX2_modulo 210 = .ok (.bipush 8, 2) := by decide +kernel
theorem dX2_modulo_212 : decode cX2_modulo 212 = .ok (.iload 4, 2) := by decide +kernel
theorem dX2_modulo_214 : decode cX2_modulo 214 = .ok (.imul, 1) := by decide +kernel
theorem dX2_modulo_215 : decode cX2_modulo 215 = .ok (.iload 4, 2) := by decide +kernel
theorem dX2_modulo_217 : decode cX2_modulo 217 = .ok (.iadd, 1) := by decide +kernel
theorem dX2_modulo_218 : decode cX2_modulo 218 = .ok (.laload, 1) := by decide +kernel
theorem dX2_modulo_219 : decode cX2_modulo 219 = .ok (.lmul, 1) := by decide +kernel
theorem dX2_modulo_220 : decode cX2_modulo 220 = .ok (.lstore_n 2, 1) := by decide +kernel
theorem dX2_modulo_221 : decode cX2_modulo 221 = .ok (.iinc 4 1, 3) := by decide +kernel
theorem dX2_modulo_224 : decode cX2_modulo 224 = .ok (.goto (-28), 3) := by decide +kernel
theorem dX2_modulo_227 : decode cX2_modulo 227 = .ok (.iconst 0, 1) := by decide +kernel
theorem dX2_modulo_228 : decode cX2_modulo 228 = .ok (.istore 4, 2) := by decide +kernel
theorem dX2_modulo_230 : decode cX2_modulo 230 = .ok (.iload 4, 2) := by decide +kernel
theorem dX2_modulo_232 : decode cX2_modulo 232 = .ok (.aload_n 0, 1) := by decide +kernel
theorem dX2_modulo_233 : decode cX2_modulo 233 = .ok (.getfield 33, 3) := by decide +kernel
theorem dX2_modulo_236 : decode cX2_modulo 236 = .ok (.if_icmp .ge 14, 3) := by decide +kernel
theorem dX2_modulo_239 : decode cX2_modulo 239 = .ok (.lload_n 2, 1) := by decide +kernel
theorem dX2_modulo_240 : decode cX2_modulo 240 = .ok (.iload_n 1, 1) := by decide +kernel
theorem dX2_modulo_241 : decode cX2_modulo 241 = .ok (.i2l, 1) := by decide +kernel
theorem dX2_modulo_242 : decode cX2_modulo 242 = .ok (.ldiv, 1) := by decide +kernel
theorem dX2_modulo_243 : decode cX2_modulo 243 = .ok (.lstore_n 2, 1) := by decide +kernel
theorem dX2_modulo_244 : decode cX2_modulo 244 = .ok (.iinc 4 1, 3) := by decide +kernel
theorem dX2_modulo_247 : decode cX2_modulo 247 = .ok (.goto (-17), 3) := by decide +kernel
theorem dX2_modulo_250 : decode cX2_modulo 250 = .ok (.lload_n 2, 1) := by decide +kernel
theorem dX2_modulo_251 : decode cX2_modulo 251 = .ok (.l2i, 1) := by decide +kernel
theorem dX2_modulo_252 : decode cX2_modulo 252 = .ok (.ireturn, 1) := by decide +kernel
theorem dX2_spread_0 : decode cX2_spread 0 = .ok (.aload_n 0, 1) := by decide +kernel
theorem dX2_spread_1 : decode cX2_spread 1 = .ok (.aload_n 0, 1) := by decide +kernel
theorem dX2_spread_2 : decode cX2_spread 2 = .ok (.getfield 33, 3) := by decide +kernel
theorem dX2_spread_5 : decode cX2_spread 5 = .ok (.invokevirtual 83, 3) := by decide +kernel
theorem dX2_spread_8 : decode cX2_spread 8 = .ok (.ifCond .ne 7, 3) := by decide +kernel
theorem dX2_spread_11 : decode cX2_spread 11 = .ok (.ldc2_w 122, 3) := by decide +kernel
theorem dX2_spread_14 : decode cX2_spread 14 = .ok (.lreturn, 1) := by decide +kernel
theorem dX2_spread_15 : decode cX2_spread 15 = .ok (.lconst 0, 1) := by decide +kernel
theorem dX2_spread_16 : decode cX2_spread 16 = .ok (.lstore_n 1, 1) := by decide +kernel
theorem dX2_spread_17 : decode cX2_spread 17 = .ok (.aload_n 0, 1) := by decide +kernel
theorem dX2_spread_18 : decode cX2_spread 18 = .ok (.aload_n 0, 1) := by decide +kernel
theorem dX2_spread_19 : decode cX2_spread 19 = .ok (.getfield 33, 3) := by decide +kernel
theorem dX2_spread_22 : decode cX2_spread 22 = .ok (.invokevirtual 72, 3) := by decide +kernel
theorem dX2_spread_25 : decode cX2_spread 25 = .ok (.istore_n 3, 1) := by decide +kernel
theorem dX2_spread_26 : decode cX2_spread 26 = .ok (.iload_n 3, 1) := by decide +kernel
theorem dX2_spread_27 : decode cX2_spread 27 = .ok (.aload_n 0, 1) := by decide +kernel
theorem dX2_spread_28 : decode cX2_spread 28 = .ok (.getfield 66, 3) := by decide +kernel
theorem dX2_spread_31 : decode cX2_spread 31 = .ok (.if_icmp .ge 49, 3) := by decide +kernel
theorem dX2_spread_34 : decode cX2_spread 34 = .ok (.iconst 0, 1) := by decide +kernel
theorem dX2_spread_35 : decode cX2_spread 35 = .ok (.istore 4, 2) := by decide +kernel
theorem dX2_spread_37 : decode cX2_spread 37 = .ok (.iload 4, 2) := by decide +kernel
theorem dX2_spread_39 : decode cX2_spread 39 = .ok (.aload_n 0, 1) := by decide +kernel
theorem dX2_spread_40 : decode cX2_spread 40 = .ok (.getfield 7, 3) := by decide +kernel
theorem dX2_spread_43 : decode cX2_spread 43 = .ok (.if_icmp .ge 31, 3) := by decide +kernel
theorem dX2_spread_46 : decode cX2_spread 46 = .ok (.lload_n 1, 1) := by decide +kernel
theorem dX2_spread_47 : decode cX2_spread 47 = .ok (.aload_n 0, 1) := by decide +kernel
theorem dX2_spread_48 : decode cX2_spread 48 = .ok (.getfield 20, 3) := by decide +kernel
theorem dX2_spread_51 : decode cX2_spread 51 = .ok (.bipush 8, 2) := by decide +kernel
theorem dX2_spread_53 : decode cX2_spread 53 = .ok (.iload_n 3, 1) := by decide +kernel
theorem dX2_spread_54 : decode cX2_spread 54 = .ok (.imul, 1) := by decide +kernel
theorem dX2_spread_55 : decode cX2_spread 55 = .ok (.aload_n 0, 1) := by decide +kernel
theorem dX2_spread_56 : decode cX2_spread 56 = .ok (.getfield 33, 3) := by decide +kernel
theorem dX2_spread_59 : decode cX2_spread 59 = .ok (.iadd, 1) := by decide +kernel
theorem dX2_spread_60 : decode cX2_spread 60 = .ok (.iload 4, 2) := by decide +kernel
theorem dX2_spread_62 : decode cX2_spread 62 = .ok (.iadd, 1) := by decide +kernel
theorem dX2_spread_63 : decode cX2_spread 63 = .ok (.laload, 1) := by decide +kernel
theorem dX2_spread_64 : decode cX2_spread 64 = .ok (.invokestatic 107, 3) := by decide +kernel
theorem dX2_spread_67 : decode cX2_spread 67 = .ok (.lstore_n 1, 1) := by decide +kernel
theorem dX2_spread_68 : decode cX2_spread 68 = .ok (.iinc 4 1, 3) := by decide +kernel
theorem dX2_spread_71 : decode cX2_spread 71 = .ok (.goto (-34), 3) := by decide +kernel
theorem dX2_spread_74 : decode cX2_spread 74 = .ok (.iinc 3 1, 3) := by decide +kernel
theorem dX2_spread_77 : decode cX2_spread 77 = .ok (.goto (-51), 3) := by decide +kernel
theorem dX2_spread_80 : decode cX2_spread 80 = .ok (.lload_n 1, 1) := by decide +kernel
theorem dX2_spread_81 : decode cX2_spread 81 = .ok (.lreturn, 1) := by decide +kernel
theorem dX2_check_0 : decode cX2_check 0 = .ok (.iconst 1, 1) := by decide +kernel
theorem dX2_check_1 : decode cX2_check 1 = .ok (.ireturn, 1) := by decide +kernel
end
section
theorem dL_law_0 : decode cL_law 0 = .ok (.new 7, 3) := by decide +kernel
theorem dL_law_3 : decode cL_law 3 = .ok (.dup, 1) := by decide +kernel
theorem dL_law_4 : decode cL_law 4 = .ok (.invokespecial 9, 3) := by decide +kernel
theorem dL_law_7 : decode cL_law 7 = .ok (.astore_n 1, 1) := by decide +kernel
theorem dL_law_8 : decode cL_law 8 = .ok (.new 10, 3) := by decide +kernel
theorem dL_law_11 : decode cL_law 11 = .ok (.dup, 1) := by decide +kernel
theorem dL_law_12 : decode cL_law 12 = .ok (.invokespecial 12, 3) := by decide +kernel
theorem dL_law_15 : decode cL_law 15 = .ok (.astore_n 2, 1) := by decide +kernel
theorem dL_law_16 : decode cL_law 16 = .ok (.iconst 0, 1) := by decide +kernel
theorem dL_law_17 : decode cL_law 17 = .ok (.istore_n 3, 1) := by decide +kernel
theorem dL_law_18 : decode cL_law 18 = .ok (.iload_n 3, 1) := by decide +kernel
theorem dL_law_19 : decode cL_law 19 = .ok (.aload_n 0, 1) := by decide +kernel
theorem dL_law_20 : decode cL_law 20 = .ok (.arraylength, 1) := by decide +kernel
theorem dL_law_21 : decode cL_law 21 = .ok (.bipush 6, 2) := by decide +kernel
theorem dL_law_23 : decode cL_law 23 = .ok (.isub, 1) := by decide +kernel
theorem dL_law_24 : decode cL_law 24 = .ok (.if_icmp .gt 517, 3) := by decide +kernel
theorem dL_law_27 : decode cL_law 27 = .ok (.aload_n 0, 1) := by decide +kernel
theorem dL_law_28 : decode cL_law 28 = .ok (.iload_n 3, 1) := by decide +kernel
theorem dL_law_29 : decode cL_law 29 = .ok (.iaload, 1) := by decide +kernel
theorem dL_law_30 : decode cL_law 30 = .ok (.bipush 15, 2) := by decide +kernel
theorem dL_law_32 : decode cL_law 32 = .ok (.iand, 1) := by decide +kernel
theorem dL_law_33 : decode cL_law 33 = .ok (.tableswitch 502 0 15 #[79, 102, 165, 198, 211, 224, 237, 261, 295, 318, 352, 395, 419, 452, 475, 489], 79) := by decide +kernel
theorem dL_law_112 : decode cL_law 112 = .ok (.aload_n 1, 1) := by decide +kernel
theorem dL_law_113 : decode cL_law 113 = .ok (.aload_n 0, 1) := by decide +kernel
theorem dL_law_114 : decode cL_law 114 = .ok (.iload_n 3, 1) := by decide +kernel
theorem dL_law_115 : decode cL_law 115 = .ok (.iconst 1, 1) := by decide +kernel
theorem dL_law_116 : decode cL_law 116 = .ok (.iadd, 1) := by decide +kernel
theorem dL_law_117 : decode cL_law 117 = .ok (.iaload, 1) := by decide +kernel
theorem dL_law_118 : decode cL_law 118 = .ok (.invokevirtual 13, 3) := by decide +kernel
theorem dL_law_121 : decode cL_law 121 = .ok (.aload_n 2, 1) := by decide +kernel
theorem dL_law_122 : decode cL_law 122 = .ok (.aload_n 0, 1) := by decide +kernel
theorem dL_law_123 : decode cL_law 123 = .ok (.iload_n 3, 1) := by decide +kernel
theorem dL_law_124 : decode cL_law 124 = .ok (.iconst 1, 1) := by decide +kernel
theorem dL_law_125 : decode cL_law 125 = .ok (.iadd, 1) := by decide +kernel
theorem dL_law_126 : decode cL_law 126 = .ok (.iaload, 1) := by decide +kernel
theorem dL_law_127 : decode cL_law 127 = .ok (.invokevirtual 17, 3) := by decide +kernel
theorem dL_law_130 : decode cL_law 130 = .ok (.if_icmp .eq 405, 3) := by decide +kernel
theorem dL_law_133 : decode cL_law 133 = .ok (.iconst 0, 1) := by decide +kernel
theorem dL_law_134 : decode cL_law 134 = .ok (.ireturn, 1) := by decide +kernel
theorem dL_law_135 : decode cL_law 135 = .ok (.aload_n 1, 1) := by decide +kernel
theorem dL_law_136 : decode cL_law 136 = .ok (.aload_n 0, 1) := by decide +kernel
theorem dL_law_137 : decode cL_law 137 = .ok (.iload_n 3, 1) := by decide +kernel
theorem dL_law_138 : decode cL_law 138 = .ok (.iconst 1, 1) := by decide +kernel
theorem dL_law_139 : decode cL_law 139 = .ok (.iadd, 1) := by decide +kernel
theorem dL_law_140 : decode cL_law 140 = .ok (.iaload, 1) := by decide +kernel
theorem dL_law_141 : decode cL_law 141 = .ok (.aload_n 0, 1) := by decide +kernel
theorem dL_law_142 : decode cL_law 142 = .ok (.iload_n 3, 1) := by decide +kernel
theorem dL_law_143 : decode cL_law 143 = .ok (.iconst 2, 1) := by decide +kernel
theorem dL_law_144 : decode cL_law 144 = .ok (.iadd, 1) := by decide +kernel
theorem dL_law_145 : decode cL_law 145 = .ok (.iaload, 1) := by decide +kernel
theorem dL_law_146 : decode cL_law 146 = .ok (.aload_n 0, 1) := by decide +kernel
theorem dL_law_147 : decode cL_law 147 = .ok (.iload_n 3, 1) := by decide +kernel
theorem dL_law_148 : decode cL_law 148 = .ok (.iconst 3, 1) := by decide +kernel
theorem dL_law_149 : decode cL_law 149 = .ok (.iadd, 1) := by decide +kernel
theorem dL_law_150 : decode cL_law 150 = .ok (.iaload, 1) := by decide +kernel
theorem dL_law_151 : decode cL_law 151 = .ok (.aload_n 0, 1) := by decide +kernel
theorem dL_law_152 : decode cL_law 152 = .ok (.iload_n 3, 1) := by decide +kernel
theorem dL_law_153 : decode cL_law 153 = .ok (.iconst 4, 1) := by decide +kernel
theorem dL_law_154 : decode cL_law 154 = .ok (.iadd, 1) := by decide +kernel
theorem dL_law_155 : decode cL_law 155 = .ok (.iaload, 1) := by decide +kernel
theorem dL_law_156 : decode cL_law 156 = .ok (.aload_n 0, 1) := by decide +kernel
theorem dL_law_157 : decode cL_law 157 = .ok (.iload_n 3, 1) := by decide +kernel
theorem dL_law_158 : decode cL_law 158 = .ok (.iconst 5, 1) := by decide +kernel
theorem dL_law_159 : decode cL_law 159 = .ok (.iadd, 1) := by decide +kernel
theorem dL_law_160 : decode cL_law 160 = .ok (.iaload, 1) := by decide +kernel
theorem dL_law_161 : decode cL_law 161 = .ok (.invokevirtual 18, 3) := by decide +kernel
theorem dL_law_164 : decode cL_law 164 = .ok (.aload_n 2, 1) := by decide +kernel
theorem dL_law_165 : decode cL_law 165 = .ok (.aload_n 0, 1) := by decide +kernel
theorem dL_law_166 : decode cL_law 166 = .ok (.iload_n 3, 1) := by decide +kernel
theorem dL_law_167 : decode cL_law 167 = .ok (.iconst 1, 1) := by decide +kernel
theorem dL_law_168 : decode cL_law 168 = .ok (.iadd, 1) := by decide +kernel
theorem dL_law_169 : decode cL_law 169 = .ok (.iaload, 1) := by decide +kernel
theorem dL_law_170 : decode cL_law 170 = .ok (.aload_n 0, 1) := by decide +kernel
theorem dL_law_171 : decode cL_law 171 = .ok (.iload_n 3, 1) := by decide +kernel
theorem dL_law_172 : decode cL_law 172 = .ok (.iconst 2, 1) := by decide +kernel
theorem dL_law_173 : decode cL_law 173 = .ok (.iadd, 1) := by decide +kernel
theorem dL_law_174 : decode cL_law 174 = .ok (.iaload, 1) := by decide +kernel
theorem dL_law_175 : decode cL_law 175 = .ok (.aload_n 0, 1) := by decide +kernel
theorem dL_law_176 : decode cL_law 176 = .ok (.iload_n 3, 1) := by decide +kernel
theorem dL_law_177 : decode cL_law 177 = .ok (.iconst 3, 1) := by decide +kernel
theorem dL_law_178 : decode cL_law 178 = .ok (.iadd, 1) := by decide +kernel
theorem dL_law_179 : decode cL_law 179 = .ok (.iaload, 1) := by decide +kernel
theorem dL_law_180 : decode cL_law 180 = .ok (.aload_n 0, 1) := by decide +kernel
theorem dL_law_181 : decode cL_law 181 = .ok (.iload_n 3, 1) := by decide +kernel
theorem dL_law_182 : decode cL_law 182 = .ok (.iconst 4, 1) := by decide +kernel
theorem dL_law_183 : decode cL_law 183 = .ok (.iadd, 1) := by decide +kernel
theorem dL_law_184 : decode cL_law 184 = .ok (.iaload, 1) := by decide +kernel
theorem dL_law_185 : decode cL_law 185 = .ok (.aload_n 0, 1) := by decide +kernel
theorem dL_law_186 : decode cL_law 186 = .ok (.iload_n 3, 1) := by decide +kernel
end
section
theorem dL_law_187 : decode cL_law 187 = .ok (.iconst 5, 1) := by decide +kernel
theorem dL_law_188 : decode cL_law 188 = .ok (.iadd, 1) := by decide +kernel
theorem dL_law_189 : decode cL_law 189 = .ok (.iaload, 1) := by decide +kernel
theorem dL_law_190 : decode cL_law 190 = .ok (.invokevirtual 22, 3) := by decide +kernel
theorem dL_law_193 : decode cL_law 193 = .ok (.if_icmp .eq 342, 3) := by decide +kernel
theorem dL_law_196 : decode cL_law 196 = .ok (.iconst 0, 1) := by decide +kernel
theorem dL_law_197 : decode cL_law 197 = .ok (.ireturn, 1) := by decide +kernel
theorem dL_law_198 : decode cL_law 198 = .ok (.aload_n 1, 1) := by decide +kernel
theorem dL_law_199 : decode cL_law 199 = .ok (.aload_n 0, 1) := by decide +kernel
theorem dL_law_200 : decode cL_law 200 = .ok (.iload_n 3, 1) := by decide +kernel
theorem dL_law_201 : decode cL_law 201 = .ok (.iconst 1, 1) := by decide +kernel
theorem dL_law_202 : decode cL_law 202 = .ok (.iadd, 1) := by decide +kernel
theorem dL_law_203 : decode cL_law 203 = .ok (.iaload, 1) := by decide +kernel
theorem dL_law_204 : decode cL_law 204 = .ok (.aload_n 0, 1) := by decide +kernel
theorem dL_law_205 : decode cL_law 205 = .ok (.iload_n 3, 1) := by decide +kernel
theorem dL_law_206 : decode cL_law 206 = .ok (.iconst 2, 1) := by decide +kernel
theorem dL_law_207 : decode cL_law 207 = .ok (.iadd, 1) := by decide +kernel
theorem dL_law_208 : decode cL_law 208 = .ok (.iaload, 1) := by decide +kernel
theorem dL_law_209 : decode cL_law 209 = .ok (.invokevirtual 23, 3) := by decide +kernel
theorem dL_law_212 : decode cL_law 212 = .ok (.aload_n 2, 1) := by decide +kernel
theorem dL_law_213 : decode cL_law 213 = .ok (.aload_n 0, 1) := by decide +kernel
theorem dL_law_214 : decode cL_law 214 = .ok (.iload_n 3, 1) := by decide +kernel
theorem dL_law_215 : decode cL_law 215 = .ok (.iconst 1, 1) := by decide +kernel
theorem dL_law_216 : decode cL_law 216 = .ok (.iadd, 1) := by decide +kernel
theorem dL_law_217 : decode cL_law 217 = .ok (.iaload, 1) := by decide +kernel
theorem dL_law_218 : decode cL_law 218 = .ok (.aload_n 0, 1) := by decide +kernel
theorem dL_law_219 : decode cL_law 219 = .ok (.iload_n 3, 1) := by decide +kernel
theorem dL_law_220 : decode cL_law 220 = .ok (.iconst 2, 1) := by decide +kernel
theorem dL_law_221 : decode cL_law 221 = .ok (.iadd, 1) := by decide +kernel
theorem dL_law_222 : decode cL_law 222 = .ok (.iaload, 1) := by decide +kernel
theorem dL_law_223 : decode cL_law 223 = .ok (.invokevirtual 27, 3) := by decide +kernel
theorem dL_law_226 : decode cL_law 226 = .ok (.if_icmp .eq 309, 3) := by decide +kernel
theorem dL_law_229 : decode cL_law 229 = .ok (.iconst 0, 1) := by decide +kernel
theorem dL_law_230 : decode cL_law 230 = .ok (.ireturn, 1) := by decide +kernel
theorem dL_law_231 : decode cL_law 231 = .ok (.aload_n 1, 1) := by decide +kernel
theorem dL_law_232 : decode cL_law 232 = .ok (.invokevirtual 28, 3) := by decide +kernel
theorem dL_law_235 : decode cL_law 235 = .ok (.aload_n 2, 1) := by decide +kernel
theorem dL_law_236 : decode cL_law 236 = .ok (.invokevirtual 32, 3) := by decide +kernel
theorem dL_law_239 : decode cL_law 239 = .ok (.if_icmp .eq 296, 3) := by decide +kernel
theorem dL_law_242 : decode cL_law 242 = .ok (.iconst 0, 1) := by decide +kernel
theorem dL_law_243 : decode cL_law 243 = .ok (.ireturn, 1) := by decide +kernel
theorem dL_law_244 : decode cL_law 244 = .ok (.aload_n 1, 1) := by decide +kernel
theorem dL_law_245 : decode cL_law 245 = .ok (.invokevirtual 33, 3) := by decide +kernel
theorem dL_law_248 : decode cL_law 248 = .ok (.aload_n 2, 1) := by decide +kernel
theorem dL_law_249 : decode cL_law 249 = .ok (.invokevirtual 36, 3) := by decide +kernel
theorem dL_law_252 : decode cL_law 252 = .ok (.if_icmp .eq 283, 3) := by decide +kernel
theorem dL_law_255 : decode cL_law 255 = .ok (.iconst 0, 1) := by decide +kernel
theorem dL_law_256 : decode cL_law 256 = .ok (.ireturn, 1) := by decide +kernel
theorem dL_law_257 : decode cL_law 257 = .ok (.aload_n 1, 1) := by decide +kernel
theorem dL_law_258 : decode cL_law 258 = .ok (.invokevirtual 37, 3) := by decide +kernel
theorem dL_law_261 : decode cL_law 261 = .ok (.aload_n 2, 1) := by decide +kernel
theorem dL_law_262 : decode cL_law 262 = .ok (.invokevirtual 40, 3) := by decide +kernel
theorem dL_law_265 : decode cL_law 265 = .ok (.if_icmp .eq 270, 3) := by decide +kernel
theorem dL_law_268 : decode cL_law 268 = .ok (.iconst 0, 1) := by decide +kernel
theorem dL_law_269 : decode cL_law 269 = .ok (.ireturn, 1) := by decide +kernel
theorem dL_law_270 : decode cL_law 270 = .ok (.aload_n 1, 1) := by decide +kernel
theorem dL_law_271 : decode cL_law 271 = .ok (.aload_n 0, 1) := by decide +kernel
theorem dL_law_272 : decode cL_law 272 = .ok (.iload_n 3, 1) := by decide +kernel
theorem dL_law_273 : decode cL_law 273 = .ok (.iconst 1, 1) := by decide +kernel
theorem dL_law_274 : decode cL_law 274 = .ok (.iadd, 1) := by decide +kernel
theorem dL_law_275 : decode cL_law 275 = .ok (.iaload, 1) := by decide +kernel
theorem dL_law_276 : decode cL_law 276 = .ok (.invokevirtual 41, 3) := by decide +kernel
theorem dL_law_279 : decode cL_law 279 = .ok (.aload_n 2, 1) := by decide +kernel
theorem dL_law_280 : decode cL_law 280 = .ok (.aload_n 0, 1) := by decide +kernel
theorem dL_law_281 : decode cL_law 281 = .ok (.iload_n 3, 1) := by decide +kernel
theorem dL_law_282 : decode cL_law 282 = .ok (.iconst 1, 1) := by decide +kernel
theorem dL_law_283 : decode cL_law 283 = .ok (.iadd, 1) := by decide +kernel
theorem dL_law_284 : decode cL_law 284 = .ok (.iaload, 1) := by decide +kernel
theorem dL_law_285 : decode cL_law 285 = .ok (.invokevirtual 45, 3) := by decide +kernel
theorem dL_law_288 : decode cL_law 288 = .ok (.lcmp, 1) := by decide +kernel
theorem dL_law_289 : decode cL_law 289 = .ok (.ifCond .eq 246, 3) := by decide +kernel
theorem dL_law_292 : decode cL_law 292 = .ok (.iconst 0, 1) := by decide +kernel
theorem dL_law_293 : decode cL_law 293 = .ok (.ireturn, 1) := by decide +kernel
theorem dL_law_294 : decode cL_law 294 = .ok (.aload_n 1, 1) := by decide +kernel
theorem dL_law_295 : decode cL_law 295 = .ok (.aload_n 0, 1) := by decide +kernel
theorem dL_law_296 : decode cL_law 296 = .ok (.iload_n 3, 1) := by decide +kernel
theorem dL_law_297 : decode cL_law 297 = .ok (.iconst 1, 1) := by decide +kernel
theorem dL_law_298 : decode cL_law 298 = .ok (.iadd, 1) := by decide +kernel
theorem dL_law_299 : decode cL_law 299 = .ok (.iaload, 1) := by decide +kernel
theorem dL_law_300 : decode cL_law 300 = .ok (.aload_n 0, 1) := by decide +kernel
theorem dL_law_301 : decode cL_law 301 = .ok (.iload_n 3, 1) := by decide +kernel
theorem dL_law_302 : decode cL_law 302 = .ok (.iconst 2, 1) := by decide +kernel
theorem dL_law_303 : decode cL_law 303 = .ok (.iadd, 1) := by decide +kernel
theorem dL_law_304 : decode cL_law 304 = .ok (.iaload, 1) := by decide +kernel
theorem dL_law_305 : decode cL_law 305 = .ok (.invokevirtual 46, 3) := by decide +kernel
theorem dL_law_308 : decode cL_law 308 = .ok (.aload_n 2, 1) := by decide +kernel
theorem dL_law_309 : decode cL_law 309 = .ok (.aload_n 0, 1) := by decide +kernel
theorem dL_law_310 : decode cL_law 310 = .ok (.iload_n 3, 1) := by decide +kernel
theorem dL_law_311 : decode cL_law 311 = .ok (.iconst 1, 1) := by decide +kernel
end
section
theorem dL_law_312 : decode cL_law 312 = .ok (.iadd, 1) := by decide +kernel
theorem dL_law_313 : decode cL_law 313 = .ok (.iaload, 1) := by decide +kernel
theorem dL_law_314 : decode cL_law 314 = .ok (.aload_n 0, 1) := by decide +kernel
theorem dL_law_315 : decode cL_law 315 = .ok (.iload_n 3, 1) := by decide +kernel
theorem dL_law_316 : decode cL_law 316 = .ok (.iconst 2, 1) := by decide +kernel
theorem dL_law_317 : decode cL_law 317 = .ok (.iadd, 1) := by decide +kernel
theorem dL_law_318 : decode cL_law 318 = .ok (.iaload, 1) := by decide +kernel
theorem dL_law_319 : decode cL_law 319 = .ok (.invokevirtual 50, 3) := by decide +kernel
theorem dL_law_322 : decode cL_law 322 = .ok (.lcmp, 1) := by decide +kernel
theorem dL_law_323 : decode cL_law 323 = .ok (.ifCond .eq 212, 3) := by decide +kernel
theorem dL_law_326 : decode cL_law 326 = .ok (.iconst 0, 1) := by decide +kernel
theorem dL_law_327 : decode cL_law 327 = .ok (.ireturn, 1) := by decide +kernel
theorem dL_law_328 : decode cL_law 328 = .ok (.aload_n 1, 1) := by decide +kernel
theorem dL_law_329 : decode cL_law 329 = .ok (.aload_n 0, 1) := by decide +kernel
theorem dL_law_330 : decode cL_law 330 = .ok (.iload_n 3, 1) := by decide +kernel
theorem dL_law_331 : decode cL_law 331 = .ok (.iconst 1, 1) := by decide +kernel
theorem dL_law_332 : decode cL_law 332 = .ok (.iadd, 1) := by decide +kernel
theorem dL_law_333 : decode cL_law 333 = .ok (.iaload, 1) := by decide +kernel
theorem dL_law_334 : decode cL_law 334 = .ok (.invokevirtual 51, 3) := by decide +kernel
theorem dL_law_337 : decode cL_law 337 = .ok (.aload_n 2, 1) := by decide +kernel
theorem dL_law_338 : decode cL_law 338 = .ok (.aload_n 0, 1) := by decide +kernel
theorem dL_law_339 : decode cL_law 339 = .ok (.iload_n 3, 1) := by decide +kernel
theorem dL_law_340 : decode cL_law 340 = .ok (.iconst 1, 1) := by decide +kernel
theorem dL_law_341 : decode cL_law 341 = .ok (.iadd, 1) := by decide +kernel
theorem dL_law_342 : decode cL_law 342 = .ok (.iaload, 1) := by decide +kernel
theorem dL_law_343 : decode cL_law 343 = .ok (.invokevirtual 54, 3) := by decide +kernel
theorem dL_law_346 : decode cL_law 346 = .ok (.if_icmp .eq 189, 3) := by decide +kernel
theorem dL_law_349 : decode cL_law 349 = .ok (.iconst 0, 1) := by decide +kernel
theorem dL_law_350 : decode cL_law 350 = .ok (.ireturn, 1) := by decide +kernel
theorem dL_law_351 : decode cL_law 351 = .ok (.aload_n 1, 1) := by decide +kernel
theorem dL_law_352 : decode cL_law 352 = .ok (.aload_n 0, 1) := by decide +kernel
theorem dL_law_353 : decode cL_law 353 = .ok (.iload_n 3, 1) := by decide +kernel
theorem dL_law_354 : decode cL_law 354 = .ok (.iconst 1, 1) := by decide +kernel
theorem dL_law_355 : decode cL_law 355 = .ok (.iadd, 1) := by decide +kernel
theorem dL_law_356 : decode cL_law 356 = .ok (.iaload, 1) := by decide +kernel
theorem dL_law_357 : decode cL_law 357 = .ok (.aload_n 0, 1) := by decide +kernel
theorem dL_law_358 : decode cL_law 358 = .ok (.iload_n 3, 1) := by decide +kernel
theorem dL_law_359 : decode cL_law 359 = .ok (.iconst 2, 1) := by decide +kernel
theorem dL_law_360 : decode cL_law 360 = .ok (.iadd, 1) := by decide +kernel
theorem dL_law_361 : decode cL_law 361 = .ok (.iaload, 1) := by decide +kernel
theorem dL_law_362 : decode cL_law 362 = .ok (.invokevirtual 55, 3) := by decide +kernel
theorem dL_law_365 : decode cL_law 365 = .ok (.aload_n 2, 1) := by decide +kernel
theorem dL_law_366 : decode cL_law 366 = .ok (.aload_n 0, 1) := by decide +kernel
theorem dL_law_367 : decode cL_law 367 = .ok (.iload_n 3, 1) := by decide +kernel
theorem dL_law_368 : decode cL_law 368 = .ok (.iconst 1, 1) := by decide +kernel
theorem dL_law_369 : decode cL_law 369 = .ok (.iadd, 1) := by decide +kernel
theorem dL_law_370 : decode cL_law 370 = .ok (.iaload, 1) := by decide +kernel
theorem dL_law_371 : decode cL_law 371 = .ok (.aload_n 0, 1) := by decide +kernel
theorem dL_law_372 : decode cL_law 372 = .ok (.iload_n 3, 1) := by decide +kernel
theorem dL_law_373 : decode cL_law 373 = .ok (.iconst 2, 1) := by decide +kernel
theorem dL_law_374 : decode cL_law 374 = .ok (.iadd, 1) := by decide +kernel
theorem dL_law_375 : decode cL_law 375 = .ok (.iaload, 1) := by decide +kernel
theorem dL_law_376 : decode cL_law 376 = .ok (.invokevirtual 58, 3) := by decide +kernel
theorem dL_law_379 : decode cL_law 379 = .ok (.lcmp, 1) := by decide +kernel
theorem dL_law_380 : decode cL_law 380 = .ok (.ifCond .eq 155, 3) := by decide +kernel
theorem dL_law_383 : decode cL_law 383 = .ok (.iconst 0, 1) := by decide +kernel
theorem dL_law_384 : decode cL_law 384 = .ok (.ireturn, 1) := by decide +kernel
theorem dL_law_385 : decode cL_law 385 = .ok (.aload_n 1, 1) := by decide +kernel
theorem dL_law_386 : decode cL_law 386 = .ok (.aload_n 0, 1) := by decide +kernel
theorem dL_law_387 : decode cL_law 387 = .ok (.iload_n 3, 1) := by decide +kernel
theorem dL_law_388 : decode cL_law 388 = .ok (.iconst 1, 1) := by decide +kernel
theorem dL_law_389 : decode cL_law 389 = .ok (.iadd, 1) := by decide +kernel
theorem dL_law_390 : decode cL_law 390 = .ok (.iaload, 1) := by decide +kernel
theorem dL_law_391 : decode cL_law 391 = .ok (.aload_n 0, 1) := by decide +kernel
theorem dL_law_392 : decode cL_law 392 = .ok (.iload_n 3, 1) := by decide +kernel
theorem dL_law_393 : decode cL_law 393 = .ok (.iconst 2, 1) := by decide +kernel
theorem dL_law_394 : decode cL_law 394 = .ok (.iadd, 1) := by decide +kernel
theorem dL_law_395 : decode cL_law 395 = .ok (.iaload, 1) := by decide +kernel
theorem dL_law_396 : decode cL_law 396 = .ok (.aload_n 0, 1) := by decide +kernel
theorem dL_law_397 : decode cL_law 397 = .ok (.iload_n 3, 1) := by decide +kernel
theorem dL_law_398 : decode cL_law 398 = .ok (.iconst 3, 1) := by decide +kernel
theorem dL_law_399 : decode cL_law 399 = .ok (.iadd, 1) := by decide +kernel
theorem dL_law_400 : decode cL_law 400 = .ok (.iaload, 1) := by decide +kernel
theorem dL_law_401 : decode cL_law 401 = .ok (.invokevirtual 59, 3) := by decide +kernel
theorem dL_law_404 : decode cL_law 404 = .ok (.aload_n 2, 1) := by decide +kernel
theorem dL_law_405 : decode cL_law 405 = .ok (.aload_n 0, 1) := by decide +kernel
theorem dL_law_406 : decode cL_law 406 = .ok (.iload_n 3, 1) := by decide +kernel
theorem dL_law_407 : decode cL_law 407 = .ok (.iconst 1, 1) := by decide +kernel
theorem dL_law_408 : decode cL_law 408 = .ok (.iadd, 1) := by decide +kernel
theorem dL_law_409 : decode cL_law 409 = .ok (.iaload, 1) := by decide +kernel
theorem dL_law_410 : decode cL_law 410 = .ok (.aload_n 0, 1) := by decide +kernel
theorem dL_law_411 : decode cL_law 411 = .ok (.iload_n 3, 1) := by decide +kernel
theorem dL_law_412 : decode cL_law 412 = .ok (.iconst 2, 1) := by decide +kernel
theorem dL_law_413 : decode cL_law 413 = .ok (.iadd, 1) := by decide +kernel
theorem dL_law_414 : decode cL_law 414 = .ok (.iaload, 1) := by decide +kernel
theorem dL_law_415 : decode cL_law 415 = .ok (.aload_n 0, 1) := by decide +kernel
theorem dL_law_416 : decode cL_law 416 = .ok (.iload_n 3, 1) := by decide +kernel
theorem dL_law_417 : decode cL_law 417 = .ok (.iconst 3, 1) := by decide +kernel
theorem dL_law_418 : decode cL_law 418 = .ok (.iadd, 1) := by decide +kernel
end
section
theorem dL_law_419 : decode cL_law 419 = .ok (.iaload, 1) := by decide +kernel
theorem dL_law_420 : decode cL_law 420 = .ok (.invokevirtual 63, 3) := by decide +kernel
theorem dL_law_423 : decode cL_law 423 = .ok (.if_icmp .eq 112, 3) := by decide +kernel
theorem dL_law_426 : decode cL_law 426 = .ok (.iconst 0, 1) := by decide +kernel
theorem dL_law_427 : decode cL_law 427 = .ok (.ireturn, 1) := by decide +kernel
theorem dL_law_428 : decode cL_law 428 = .ok (.aload_n 1, 1) := by decide +kernel
theorem dL_law_429 : decode cL_law 429 = .ok (.aload_n 0, 1) := by decide +kernel
theorem dL_law_430 : decode cL_law 430 = .ok (.iload_n 3, 1) := by decide +kernel
theorem dL_law_431 : decode cL_law 431 = .ok (.iconst 1, 1) := by decide +kernel
theorem dL_law_432 : decode cL_law 432 = .ok (.iadd, 1) := by decide +kernel
theorem dL_law_433 : decode cL_law 433 = .ok (.iaload, 1) := by decide +kernel
theorem dL_law_434 : decode cL_law 434 = .ok (.invokevirtual 64, 3) := by decide +kernel
theorem dL_law_437 : decode cL_law 437 = .ok (.aload_n 2, 1) := by decide +kernel
theorem dL_law_438 : decode cL_law 438 = .ok (.aload_n 0, 1) := by decide +kernel
theorem dL_law_439 : decode cL_law 439 = .ok (.iload_n 3, 1) := by decide +kernel
theorem dL_law_440 : decode cL_law 440 = .ok (.iconst 1, 1) := by decide +kernel
theorem dL_law_441 : decode cL_law 441 = .ok (.iadd, 1) := by decide +kernel
theorem dL_law_442 : decode cL_law 442 = .ok (.iaload, 1) := by decide +kernel
theorem dL_law_443 : decode cL_law 443 = .ok (.invokevirtual 67, 3) := by decide +kernel
theorem dL_law_446 : decode cL_law 446 = .ok (.lcmp, 1) := by decide +kernel
theorem dL_law_447 : decode cL_law 447 = .ok (.ifCond .eq 88, 3) := by decide +kernel
theorem dL_law_450 : decode cL_law 450 = .ok (.iconst 0, 1) := by decide +kernel
theorem dL_law_451 : decode cL_law 451 = .ok (.ireturn, 1) := by decide +kernel
theorem dL_law_452 : decode cL_law 452 = .ok (.aload_n 1, 1) := by decide +kernel
theorem dL_law_453 : decode cL_law 453 = .ok (.aload_n 0, 1) := by decide +kernel
theorem dL_law_454 : decode cL_law 454 = .ok (.iload_n 3, 1) := by decide +kernel
theorem dL_law_455 : decode cL_law 455 = .ok (.iconst 1, 1) := by decide +kernel
theorem dL_law_456 : decode cL_law 456 = .ok (.iadd, 1) := by decide +kernel
theorem dL_law_457 : decode cL_law 457 = .ok (.iaload, 1) := by decide +kernel
theorem dL_law_458 : decode cL_law 458 = .ok (.aload_n 0, 1) := by decide +kernel
theorem dL_law_459 : decode cL_law 459 = .ok (.iload_n 3, 1) := by decide +kernel
theorem dL_law_460 : decode cL_law 460 = .ok (.iconst 2, 1) := by decide +kernel
theorem dL_law_461 : decode cL_law 461 = .ok (.iadd, 1) := by decide +kernel
theorem dL_law_462 : decode cL_law 462 = .ok (.iaload, 1) := by decide +kernel
theorem dL_law_463 : decode cL_law 463 = .ok (.invokevirtual 68, 3) := by decide +kernel
theorem dL_law_466 : decode cL_law 466 = .ok (.aload_n 2, 1) := by decide +kernel
theorem dL_law_467 : decode cL_law 467 = .ok (.aload_n 0, 1) := by decide +kernel
theorem dL_law_468 : decode cL_law 468 = .ok (.iload_n 3, 1) := by decide +kernel
theorem dL_law_469 : decode cL_law 469 = .ok (.iconst 1, 1) := by decide +kernel
theorem dL_law_470 : decode cL_law 470 = .ok (.iadd, 1) := by decide +kernel
theorem dL_law_471 : decode cL_law 471 = .ok (.iaload, 1) := by decide +kernel
theorem dL_law_472 : decode cL_law 472 = .ok (.aload_n 0, 1) := by decide +kernel
theorem dL_law_473 : decode cL_law 473 = .ok (.iload_n 3, 1) := by decide +kernel
theorem dL_law_474 : decode cL_law 474 = .ok (.iconst 2, 1) := by decide +kernel
theorem dL_law_475 : decode cL_law 475 = .ok (.iadd, 1) := by decide +kernel
theorem dL_law_476 : decode cL_law 476 = .ok (.iaload, 1) := by decide +kernel
theorem dL_law_477 : decode cL_law 477 = .ok (.invokevirtual 71, 3) := by decide +kernel
theorem dL_law_480 : decode cL_law 480 = .ok (.if_icmp .eq 55, 3) := by decide +kernel
theorem dL_law_483 : decode cL_law 483 = .ok (.iconst 0, 1) := by decide +kernel
theorem dL_law_484 : decode cL_law 484 = .ok (.ireturn, 1) := by decide +kernel
theorem dL_law_485 : decode cL_law 485 = .ok (.aload_n 1, 1) := by decide +kernel
theorem dL_law_486 : decode cL_law 486 = .ok (.aload_n 0, 1) := by decide +kernel
theorem dL_law_487 : decode cL_law 487 = .ok (.iload_n 3, 1) := by decide +kernel
theorem dL_law_488 : decode cL_law 488 = .ok (.iconst 1, 1) := by decide +kernel
theorem dL_law_489 : decode cL_law 489 = .ok (.iadd, 1) := by decide +kernel
theorem dL_law_490 : decode cL_law 490 = .ok (.iaload, 1) := by decide +kernel
theorem dL_law_491 : decode cL_law 491 = .ok (.invokevirtual 72, 3) := by decide +kernel
theorem dL_law_494 : decode cL_law 494 = .ok (.aload_n 2, 1) := by decide +kernel
theorem dL_law_495 : decode cL_law 495 = .ok (.aload_n 0, 1) := by decide +kernel
theorem dL_law_496 : decode cL_law 496 = .ok (.iload_n 3, 1) := by decide +kernel
theorem dL_law_497 : decode cL_law 497 = .ok (.iconst 1, 1) := by decide +kernel
theorem dL_law_498 : decode cL_law 498 = .ok (.iadd, 1) := by decide +kernel
theorem dL_law_499 : decode cL_law 499 = .ok (.iaload, 1) := by decide +kernel
theorem dL_law_500 : decode cL_law 500 = .ok (.invokevirtual 75, 3) := by decide +kernel
theorem dL_law_503 : decode cL_law 503 = .ok (.if_icmp .eq 32, 3) := by decide +kernel
theorem dL_law_506 : decode cL_law 506 = .ok (.iconst 0, 1) := by decide +kernel
theorem dL_law_507 : decode cL_law 507 = .ok (.ireturn, 1) := by decide +kernel
theorem dL_law_508 : decode cL_law 508 = .ok (.aload_n 1, 1) := by decide +kernel
theorem dL_law_509 : decode cL_law 509 = .ok (.invokevirtual 76, 3) := by decide +kernel
theorem dL_law_512 : decode cL_law 512 = .ok (.aload_n 2, 1) := by decide +kernel
theorem dL_law_513 : decode cL_law 513 = .ok (.invokevirtual 80, 3) := by decide +kernel
theorem dL_law_516 : decode cL_law 516 = .ok (.lcmp, 1) := by decide +kernel
theorem dL_law_517 : decode cL_law 517 = .ok (.ifCond .eq 18, 3) := by decide +kernel
theorem dL_law_520 : decode cL_law 520 = .ok (.iconst 0, 1) := by decide +kernel
theorem dL_law_521 : decode cL_law 521 = .ok (.ireturn, 1) := by decide +kernel
theorem dL_law_522 : decode cL_law 522 = .ok (.aload_n 1, 1) := by decide +kernel
theorem dL_law_523 : decode cL_law 523 = .ok (.invokevirtual 81, 3) := by decide +kernel
theorem dL_law_526 : decode cL_law 526 = .ok (.aload_n 2, 1) := by decide +kernel
theorem dL_law_527 : decode cL_law 527 = .ok (.invokevirtual 84, 3) := by decide +kernel
theorem dL_law_530 : decode cL_law 530 = .ok (.if_icmp .eq 5, 3) := by decide +kernel
theorem dL_law_533 : decode cL_law 533 = .ok (.iconst 0, 1) := by decide +kernel
theorem dL_law_534 : decode cL_law 534 = .ok (.ireturn, 1) := by decide +kernel
theorem dL_law_535 : decode cL_law 535 = .ok (.iinc 3 6, 3) := by decide +kernel
theorem dL_law_538 : decode cL_law 538 = .ok (.goto (-520), 3) := by decide +kernel
theorem dL_law_541 : decode cL_law 541 = .ok (.iconst 1, 1) := by decide +kernel
theorem dL_law_542 : decode cL_law 542 = .ok (.ireturn, 1) := by decide +kernel
end
section
/-! the words of the tables, one by one (printed by wip/tools/words.py) -/
def fl_tb : List Cond := lw_tbl.filter goodWord
theorem fl_mem {w : Cond} {i : Nat} (h : tables_1[i]? = some w) (g : goodWord w = true) : w ∈ fl_tb := List.mem_filter.mpr ⟨List.mem_append_right _ (List.mem_of_getElem? h), g⟩
theorem fl_memP {w : Cond} {i : Nat} (h : (k2_sels lw_privs)[i]? = some w) (g : goodWord w = true) : w ∈ fl_tb := List.mem_filter.mpr ⟨List.mem_append_left _ (List.mem_of_getElem? h), g⟩
theorem wn_L : Cond.initialized RL ∈ fl_tb := fl_mem (i := 0) (by decide +kernel) (by decide +kernel)
theorem wn_X1 : Cond.initialized RX1 ∈ fl_tb := fl_mem (i := 1) (by decide +kernel) (by decide +kernel)
theorem wn_X0 : Cond.initialized RX0 ∈ fl_tb := fl_mem (i := 2) (by decide +kernel) (by decide +kernel)
theorem wn_J9 : Cond.initialized RJ9 ∈ fl_tb := fl_mem (i := 3) (by decide +kernel) (by decide +kernel)
theorem wn_X2 : Cond.initialized RX2 ∈ fl_tb := fl_mem (i := 4) (by decide +kernel) (by decide +kernel)
theorem wn_J6 : Cond.initialized RJ6 ∈ fl_tb := fl_mem (i := 5) (by decide +kernel) (by decide +kernel)
theorem wm_L_9 : Cond.methodLink RL 9 yX1_init ∈ fl_tb := fl_mem (i := 8) (by decide +kernel) (by decide +kernel)
theorem wi_yX1_init : Cond.instanceMethod yX1_init ∈ fl_tb := fl_mem (i := 9) (by decide +kernel) (by decide +kernel)
theorem wc_yX1_init : Cond.code yX1_init cX1_init 1 none ∈ fl_tb := fl_mem (i := 10) (by decide +kernel) (by decide +kernel)
theorem wm_X1_20 : Cond.methodLink RX1 20 yX0_init ∈ fl_tb := fl_mem (i := 18) (by decide +kernel) (by decide +kernel)
theorem wi_yX0_init : Cond.instanceMethod yX0_init ∈ fl_tb := fl_mem (i := 19) (by decide +kernel) (by decide +kernel)
theorem wc_yX0_init : Cond.code yX0_init cX0_init 3 none ∈ fl_tb := fl_mem (i := 20) (by decide +kernel) (by decide +kernel)
theorem wf_X0_11 : Cond.fieldLink RX0 11 "WholeSolver$Lattice" "rows" "[[J" ∈ fl_tb := fl_mem (i := 24) (by decide +kernel) (by decide +kernel)
theorem wf_X0_16 : Cond.fieldLink RX0 16 "WholeSolver$Lattice" "leads" "[I" ∈ fl_tb := fl_mem (i := 25) (by decide +kernel) (by decide +kernel)
theorem wf_X0_20 : Cond.fieldLink RX0 20 "WholeSolver$Lattice" "height" "I" ∈ fl_tb := fl_mem (i := 26) (by decide +kernel) (by decide +kernel)
theorem wf_X0_24 : Cond.fieldLink RX0 24 "WholeSolver$Lattice" "width" "I" ∈ fl_tb := fl_mem (i := 27) (by decide +kernel) (by decide +kernel)
theorem wf_X0_27 : Cond.fieldLink RX0 27 "WholeSolver$Lattice" "rank" "I" ∈ fl_tb := fl_mem (i := 28) (by decide +kernel) (by decide +kernel)
theorem wm_X1_49 : Cond.methodLink RX1 49 yX1_formWhole ∈ fl_tb := fl_mem (i := 43) (by decide +kernel) (by decide +kernel)
theorem wi_yX1_formWhole : Cond.instanceMethod yX1_formWhole ∈ fl_tb := fl_mem (i := 45) (by decide +kernel) (by decide +kernel)
theorem wc_yX1_formWhole : Cond.code yX1_formWhole cX1_formWhole 3 none ∈ fl_tb := fl_mem (i := 46) (by decide +kernel) (by decide +kernel)
theorem wm_X1_128 : Cond.methodLink RX1 128 yX0_clear ∈ fl_tb := fl_mem (i := 47) (by decide +kernel) (by decide +kernel)
theorem wi_yX0_clear : Cond.instanceMethod yX0_clear ∈ fl_tb := fl_mem (i := 48) (by decide +kernel) (by decide +kernel)
theorem wl_yX0_clear : Cond.selects RX0 yX0_clear yX0_clear ∈ fl_tb := fl_mem (i := 49) (by decide +kernel) (by decide +kernel)
theorem wc_yX0_clear : Cond.code yX0_clear cX0_clear 4 none ∈ fl_tb := fl_mem (i := 50) (by decide +kernel) (by decide +kernel)
theorem ws_yX1_fillWithZero : Cond.static yX1_fillWithZero ∈ fl_tb := fl_mem (i := 52) (by decide +kernel) (by decide +kernel)
theorem wc_yX1_fillWithZero : Cond.code yX1_fillWithZero cX1_fillWithZero 2 none ∈ fl_tb := fl_mem (i := 53) (by decide +kernel) (by decide +kernel)
theorem wm_X1_131 : Cond.methodLink RX1 131 yX0_put ∈ fl_tb := fl_mem (i := 54) (by decide +kernel) (by decide +kernel)
theorem wi_yX0_put : Cond.instanceMethod yX0_put ∈ fl_tb := fl_mem (i := 55) (by decide +kernel) (by decide +kernel)
theorem wl_yX0_put : Cond.selects RX0 yX0_put yX0_put ∈ fl_tb := fl_mem (i := 56) (by decide +kernel) (by decide +kernel)
theorem wc_yX0_put : Cond.code yX0_put cX0_put 5 none ∈ fl_tb := fl_mem (i := 57) (by decide +kernel) (by decide +kernel)
theorem wm_X1_135 : Cond.methodLink RX1 135 yX0_bringToForm ∈ fl_tb := fl_mem (i := 58) (by decide +kernel) (by decide +kernel)
theorem wi_yX0_bringToForm : Cond.instanceMethod yX0_bringToForm ∈ fl_tb := fl_mem (i := 59) (by decide +kernel) (by decide +kernel)
theorem wl_yX0_bringToForm : Cond.selects RX0 yX0_bringToForm yX0_bringToForm ∈ fl_tb := fl_mem (i := 60) (by decide +kernel) (by decide +kernel)
theorem wc_yX0_bringToForm : Cond.code yX0_bringToForm cX0_bringToForm 3 none ∈ fl_tb := fl_mem (i := 61) (by decide +kernel) (by decide +kernel)
theorem wm_X0_34 : Cond.methodLink RX0 34 yX0_divideOut ∈ fl_tb := fl_mem (i := 62) (by decide +kernel) (by decide +kernel)
theorem wi_yX0_divideOut : Cond.instanceMethod yX0_divideOut ∈ fl_tb := fl_mem (i := 64) (by decide +kernel) (by decide +kernel)
theorem wc_yX0_divideOut : Cond.code yX0_divideOut cX0_divideOut 10 none ∈ fl_tb := fl_mem (i := 65) (by decide +kernel) (by decide +kernel)
theorem wm_X0_42 : Cond.methodLink RX0 42 yJ9_floorDiv_f86c9 ∈ fl_tb := fl_mem (i := 66) (by decide +kernel) (by decide +kernel)
theorem ws_yJ9_floorDiv_f86c9 : Cond.static yJ9_floorDiv_f86c9 ∈ fl_tb := fl_mem (i := 67) (by decide +kernel) (by decide +kernel)
theorem wc_yJ9_floorDiv_f86c9 : Cond.code yJ9_floorDiv_f86c9 cJ9_floorDiv_f86c9 6 (some .long) ∈ fl_tb := fl_mem (i := 68) (by decide +kernel) (by decide +kernel)
theorem wm_X0_38 : Cond.methodLink RX0 38 yX0_addLead ∈ fl_tb := fl_mem (i := 69) (by decide +kernel) (by decide +kernel)
theorem wi_yX0_addLead : Cond.instanceMethod yX0_addLead ∈ fl_tb := fl_mem (i := 71) (by decide +kernel) (by decide +kernel)
theorem wc_yX0_addLead : Cond.code yX0_addLead cX0_addLead 3 none ∈ fl_tb := fl_mem (i := 72) (by decide +kernel) (by decide +kernel)
theorem wm_X0_48 : Cond.methodLink RX0 48 yX0_reduceBy ∈ fl_tb := fl_mem (i := 73) (by decide +kernel) (by decide +kernel)
theorem wi_yX0_reduceBy : Cond.instanceMethod yX0_reduceBy ∈ fl_tb := fl_mem (i := 75) (by decide +kernel) (by decide +kernel)
theorem wc_yX0_reduceBy : Cond.code yX0_reduceBy cX0_reduceBy 7 none ∈ fl_tb := fl_mem (i := 76) (by decide +kernel) (by decide +kernel)
theorem wm_X1_138 : Cond.methodLink RX1 138 yX0_leadsBefore ∈ fl_tb := fl_mem (i := 77) (by decide +kernel) (by decide +kernel)
theorem wi_yX0_leadsBefore : Cond.instanceMethod yX0_leadsBefore ∈ fl_tb := fl_mem (i := 78) (by decide +kernel) (by decide +kernel)
theorem wl_yX0_leadsBefore : Cond.selects RX0 yX0_leadsBefore yX0_leadsBefore ∈ fl_tb := fl_mem (i := 79) (by decide +kernel) (by decide +kernel)
theorem wc_yX0_leadsBefore : Cond.code yX0_leadsBefore cX0_leadsBefore 4 (some .int) ∈ fl_tb := fl_mem (i := 80) (by decide +kernel) (by decide +kernel)
theorem wm_X1_60 : Cond.methodLink RX1 60 yX1_settleSolution ∈ fl_tb := fl_mem (i := 81) (by decide +kernel) (by decide +kernel)
theorem wi_yX1_settleSolution : Cond.instanceMethod yX1_settleSolution ∈ fl_tb := fl_mem (i := 83) (by decide +kernel) (by decide +kernel)
theorem wc_yX1_settleSolution : Cond.code yX1_settleSolution cX1_settleSolution 2 none ∈ fl_tb := fl_mem (i := 84) (by decide +kernel) (by decide +kernel)
theorem wm_X1_82 : Cond.methodLink RX1 82 yX1_fillWithZero ∈ fl_tb := fl_mem (i := 85) (by decide +kernel) (by decide +kernel)
theorem wm_X1_86 : Cond.methodLink RX1 86 yX0_reduce ∈ fl_tb := fl_mem (i := 86) (by decide +kernel) (by decide +kernel)
theorem wi_yX0_reduce : Cond.instanceMethod yX0_reduce ∈ fl_tb := fl_mem (i := 87) (by decide +kernel) (by decide +kernel)
theorem wl_yX0_reduce : Cond.selects RX0 yX0_reduce yX0_reduce ∈ fl_tb := fl_mem (i := 88) (by decide +kernel) (by decide +kernel)
theorem wc_yX0_reduce : Cond.code yX0_reduce cX0_reduce 3 none ∈ fl_tb := fl_mem (i := 89) (by decide +kernel) (by decide +kernel)
theorem wm_X1_89 : Cond.methodLink RX1 89 yX1_firstNotZero ∈ fl_tb := fl_mem (i := 90) (by decide +kernel) (by decide +kernel)
theorem wi_yX1_firstNotZero : Cond.instanceMethod yX1_firstNotZero ∈ fl_tb := fl_mem (i := 92) (by decide +kernel) (by decide +kernel)
theorem wc_yX1_firstNotZero : Cond.code yX1_firstNotZero cX1_firstNotZero 3 (some .int) ∈ fl_tb := fl_mem (i := 93) (by decide +kernel) (by decide +kernel)
theorem wf_X1_11 : Cond.fieldLink RX1 11 "WholeSolver" "factors" "[[I" ∈ fl_tb := fl_mem (i := 94) (by decide +kernel) (by decide +kernel)
theorem wf_X1_14 : Cond.fieldLink RX1 14 "WholeSolver" "sums" "[I" ∈ fl_tb := fl_mem (i := 95) (by decide +kernel) (by decide +kernel)
theorem wf_X1_42 : Cond.fieldLink RX1 42 "WholeSolver" "unknownsTold" "I" ∈ fl_tb := fl_mem (i := 96) (by decide +kernel) (by decide +kernel)
theorem wf_X1_46 : Cond.fieldLink RX1 46 "WholeSolver" "equationsTold" "I" ∈ fl_tb := fl_mem (i := 97) (by decide +kernel) (by decide +kernel)
theorem wf_X1_23 : Cond.fieldLink RX1 23 "WholeSolver" "whole" "LWholeSolver$Lattice;" ∈ fl_tb := fl_mem (i := 98) (by decide +kernel) (by decide +kernel)
theorem wf_X1_27 : Cond.fieldLink RX1 27 "WholeSolver" "remainders" "LWholeSolver$Lattice;" ∈ fl_tb := fl_mem (i := 99) (by decide +kernel) (by decide +kernel)
theorem wf_X1_76 : Cond.fieldLink RX1 76 "WholeSolver" "reachRows" "I" ∈ fl_tb := fl_mem (i := 100) (by decide +kernel) (by decide +kernel)
theorem wf_X1_30 : Cond.fieldLink RX1 30 "WholeSolver" "left" "[J" ∈ fl_tb := fl_mem (i := 101) (by decide +kernel) (by decide +kernel)
theorem wf_X1_63 : Cond.fieldLink RX1 63 "WholeSolver" "failing" "I" ∈ fl_tb := fl_mem (i := 102) (by decide +kernel) (by decide +kernel)
theorem wf_X1_34 : Cond.fieldLink RX1 34 "WholeSolver" "trial" "[J" ∈ fl_tb := fl_mem (i := 103) (by decide +kernel) (by decide +kernel)
theorem wf_X1_39 : Cond.fieldLink RX1 39 "WholeSolver" "spots" "[[J" ∈ fl_tb := fl_mem (i := 104) (by decide +kernel) (by decide +kernel)
theorem wm_L_13 : Cond.methodLink RL 13 yX1_unknowns ∈ fl_tb := fl_mem (i := 128) (by decide +kernel) (by decide +kernel)
theorem wi_yX1_unknowns : Cond.instanceMethod yX1_unknowns ∈ fl_tb := fl_mem (i := 129) (by decide +kernel) (by decide +kernel)
theorem wl_yX1_unknowns : Cond.selects RX1 yX1_unknowns yX1_unknowns ∈ fl_tb := fl_mem (i := 130) (by decide +kernel) (by decide +kernel)
theorem wc_yX1_unknowns : Cond.code yX1_unknowns cX1_unknowns 2 (some .int) ∈ fl_tb := fl_mem (i := 131) (by decide +kernel) (by decide +kernel)
theorem wm_L_18 : Cond.methodLink RL 18 yX1_equation ∈ fl_tb := fl_mem (i := 132) (by decide +kernel) (by decide +kernel)
theorem wi_yX1_equation : Cond.instanceMethod yX1_equation ∈ fl_tb := fl_mem (i := 133) (by decide +kernel) (by decide +kernel)
theorem wl_yX1_equation : Cond.selects RX1 yX1_equation yX1_equation ∈ fl_tb := fl_mem (i := 134) (by decide +kernel) (by decide +kernel)
theorem wc_yX1_equation : Cond.code yX1_equation cX1_equation 7 (some .int) ∈ fl_tb := fl_mem (i := 135) (by decide +kernel) (by decide +kernel)
theorem wm_X1_52 : Cond.methodLink RX1 52 yX1_isSum ∈ fl_tb := fl_mem (i := 136) (by decide +kernel) (by decide +kernel)
theorem ws_yX1_isSum : Cond.static yX1_isSum ∈ fl_tb := fl_mem (i := 137) (by decide +kernel) (by decide +kernel)
theorem wc_yX1_isSum : Cond.code yX1_isSum cX1_isSum 1 (some .boolean) ∈ fl_tb := fl_mem (i := 138) (by decide +kernel) (by decide +kernel)
theorem wm_X1_56 : Cond.methodLink RX1 56 yX1_isFactor ∈ fl_tb := fl_mem (i := 139) (by decide +kernel) (by decide +kernel)
theorem wi_yX1_isFactor : Cond.instanceMethod yX1_isFactor ∈ fl_tb := fl_mem (i := 141) (by decide +kernel) (by decide +kernel)
theorem wc_yX1_isFactor : Cond.code yX1_isFactor cX1_isFactor 3 (some .boolean) ∈ fl_tb := fl_mem (i := 142) (by decide +kernel) (by decide +kernel)
theorem wm_L_23 : Cond.methodLink RL 23 yX1_sum ∈ fl_tb := fl_mem (i := 143) (by decide +kernel) (by decide +kernel)
theorem wi_yX1_sum : Cond.instanceMethod yX1_sum ∈ fl_tb := fl_mem (i := 144) (by decide +kernel) (by decide +kernel)
theorem wl_yX1_sum : Cond.selects RX1 yX1_sum yX1_sum ∈ fl_tb := fl_mem (i := 145) (by decide +kernel) (by decide +kernel)
theorem wc_yX1_sum : Cond.code yX1_sum cX1_sum 3 (some .int) ∈ fl_tb := fl_mem (i := 146) (by decide +kernel) (by decide +kernel)
theorem wm_L_28 : Cond.methodLink RL 28 yX1_drop ∈ fl_tb := fl_mem (i := 147) (by decide +kernel) (by decide +kernel)
theorem wi_yX1_drop : Cond.instanceMethod yX1_drop ∈ fl_tb := fl_mem (i := 148) (by decide +kernel) (by decide +kernel)
theorem wl_yX1_drop : Cond.selects RX1 yX1_drop yX1_drop ∈ fl_tb := fl_mem (i := 149) (by decide +kernel) (by decide +kernel)
theorem wc_yX1_drop : Cond.code yX1_drop cX1_drop 1 (some .int) ∈ fl_tb := fl_mem (i := 150) (by decide +kernel) (by decide +kernel)
theorem wm_L_33 : Cond.methodLink RL 33 yX1_solve ∈ fl_tb := fl_mem (i := 151) (by decide +kernel) (by decide +kernel)
theorem wi_yX1_solve : Cond.instanceMethod yX1_solve ∈ fl_tb := fl_mem (i := 152) (by decide +kernel) (by decide +kernel)
theorem wl_yX1_solve : Cond.selects RX1 yX1_solve yX1_solve ∈ fl_tb := fl_mem (i := 153) (by decide +kernel) (by decide +kernel)
theorem wc_yX1_solve : Cond.code yX1_solve cX1_solve 1 (some .int) ∈ fl_tb := fl_mem (i := 154) (by decide +kernel) (by decide +kernel)
theorem wm_X1_66 : Cond.methodLink RX1 66 yX1_basisRows ∈ fl_tb := fl_mem (i := 155) (by decide +kernel) (by decide +kernel)
theorem wi_yX1_basisRows : Cond.instanceMethod yX1_basisRows ∈ fl_tb := fl_mem (i := 157) (by decide +kernel) (by decide +kernel)
theorem wc_yX1_basisRows : Cond.code yX1_basisRows cX1_basisRows 1 (some .int) ∈ fl_tb := fl_mem (i := 158) (by decide +kernel) (by decide +kernel)
theorem wm_L_37 : Cond.methodLink RL 37 yX1_fails ∈ fl_tb := fl_mem (i := 159) (by decide +kernel) (by decide +kernel)
theorem wi_yX1_fails : Cond.instanceMethod yX1_fails ∈ fl_tb := fl_mem (i := 160) (by decide +kernel) (by decide +kernel)
theorem wl_yX1_fails : Cond.selects RX1 yX1_fails yX1_fails ∈ fl_tb := fl_mem (i := 161) (by decide +kernel) (by decide +kernel)
theorem wc_yX1_fails : Cond.code yX1_fails cX1_fails 1 (some .int) ∈ fl_tb := fl_mem (i := 162) (by decide +kernel) (by decide +kernel)
theorem wm_L_41 : Cond.methodLink RL 41 yX1_solution ∈ fl_tb := fl_mem (i := 163) (by decide +kernel) (by decide +kernel)
theorem wi_yX1_solution : Cond.instanceMethod yX1_solution ∈ fl_tb := fl_mem (i := 164) (by decide +kernel) (by decide +kernel)
theorem wl_yX1_solution : Cond.selects RX1 yX1_solution yX1_solution ∈ fl_tb := fl_mem (i := 165) (by decide +kernel) (by decide +kernel)
theorem wc_yX1_solution : Cond.code yX1_solution cX1_solution 2 (some .long) ∈ fl_tb := fl_mem (i := 166) (by decide +kernel) (by decide +kernel)
theorem wk_X1_70 : Cond.constantLong RX1 70 (-1000000000000000) ∈ fl_tb := fl_mem (i := 167) (by decide +kernel) (by decide +kernel)
theorem wm_L_46 : Cond.methodLink RL 46 yX1_basis ∈ fl_tb := fl_mem (i := 168) (by decide +kernel) (by decide +kernel)
theorem wi_yX1_basis : Cond.instanceMethod yX1_basis ∈ fl_tb := fl_mem (i := 169) (by decide +kernel) (by decide +kernel)
theorem wl_yX1_basis : Cond.selects RX1 yX1_basis yX1_basis ∈ fl_tb := fl_mem (i := 170) (by decide +kernel) (by decide +kernel)
theorem wc_yX1_basis : Cond.code yX1_basis cX1_basis 3 (some .long) ∈ fl_tb := fl_mem (i := 171) (by decide +kernel) (by decide +kernel)
theorem wm_X1_72 : Cond.methodLink RX1 72 yX1_basisNumber ∈ fl_tb := fl_mem (i := 172) (by decide +kernel) (by decide +kernel)
theorem wi_yX1_basisNumber : Cond.instanceMethod yX1_basisNumber ∈ fl_tb := fl_mem (i := 174) (by decide +kernel) (by decide +kernel)
theorem wc_yX1_basisNumber : Cond.code yX1_basisNumber cX1_basisNumber 3 (some .long) ∈ fl_tb := fl_mem (i := 175) (by decide +kernel) (by decide +kernel)
theorem wm_X1_79 : Cond.methodLink RX1 79 yX0_at ∈ fl_tb := fl_mem (i := 176) (by decide +kernel) (by decide +kernel)
theorem wi_yX0_at : Cond.instanceMethod yX0_at ∈ fl_tb := fl_mem (i := 177) (by decide +kernel) (by decide +kernel)
theorem wl_yX0_at : Cond.selects RX0 yX0_at yX0_at ∈ fl_tb := fl_mem (i := 178) (by decide +kernel) (by decide +kernel)
theorem wc_yX0_at : Cond.code yX0_at cX0_at 3 (some .long) ∈ fl_tb := fl_mem (i := 179) (by decide +kernel) (by decide +kernel)
theorem wm_L_51 : Cond.methodLink RL 51 yX1_count ∈ fl_tb := fl_mem (i := 180) (by decide +kernel) (by decide +kernel)
theorem wi_yX1_count : Cond.instanceMethod yX1_count ∈ fl_tb := fl_mem (i := 181) (by decide +kernel) (by decide +kernel)
theorem wl_yX1_count : Cond.selects RX1 yX1_count yX1_count ∈ fl_tb := fl_mem (i := 182) (by decide +kernel) (by decide +kernel)
theorem wc_yX1_count : Cond.code yX1_count cX1_count 2 (some .int) ∈ fl_tb := fl_mem (i := 183) (by decide +kernel) (by decide +kernel)
theorem wm_L_55 : Cond.methodLink RL 55 yX1_reach ∈ fl_tb := fl_mem (i := 184) (by decide +kernel) (by decide +kernel)
theorem wi_yX1_reach : Cond.instanceMethod yX1_reach ∈ fl_tb := fl_mem (i := 185) (by decide +kernel) (by decide +kernel)
theorem wl_yX1_reach : Cond.selects RX1 yX1_reach yX1_reach ∈ fl_tb := fl_mem (i := 186) (by decide +kernel) (by decide +kernel)
theorem wc_yX1_reach : Cond.code yX1_reach cX1_reach 3 (some .long) ∈ fl_tb := fl_mem (i := 187) (by decide +kernel) (by decide +kernel)
theorem wm_L_59 : Cond.methodLink RL 59 yX1_reached ∈ fl_tb := fl_mem (i := 188) (by decide +kernel) (by decide +kernel)
theorem wi_yX1_reached : Cond.instanceMethod yX1_reached ∈ fl_tb := fl_mem (i := 189) (by decide +kernel) (by decide +kernel)
theorem wl_yX1_reached : Cond.selects RX1 yX1_reached yX1_reached ∈ fl_tb := fl_mem (i := 190) (by decide +kernel) (by decide +kernel)
theorem wc_yX1_reached : Cond.code yX1_reached cX1_reached 4 (some .int) ∈ fl_tb := fl_mem (i := 191) (by decide +kernel) (by decide +kernel)
theorem wm_L_64 : Cond.methodLink RL 64 yX1_invariant ∈ fl_tb := fl_mem (i := 192) (by decide +kernel) (by decide +kernel)
theorem wi_yX1_invariant : Cond.instanceMethod yX1_invariant ∈ fl_tb := fl_mem (i := 193) (by decide +kernel) (by decide +kernel)
theorem wl_yX1_invariant : Cond.selects RX1 yX1_invariant yX1_invariant ∈ fl_tb := fl_mem (i := 194) (by decide +kernel) (by decide +kernel)
theorem wc_yX1_invariant : Cond.code yX1_invariant cX1_invariant 6 (some .long) ∈ fl_tb := fl_mem (i := 195) (by decide +kernel) (by decide +kernel)
theorem wm_X1_93 : Cond.methodLink RX1 93 yX1_divisorOfDeterminants ∈ fl_tb := fl_mem (i := 196) (by decide +kernel) (by decide +kernel)
theorem wi_yX1_divisorOfDeterminants : Cond.instanceMethod yX1_divisorOfDeterminants ∈ fl_tb := fl_mem (i := 198) (by decide +kernel) (by decide +kernel)
theorem wc_yX1_divisorOfDeterminants : Cond.code yX1_divisorOfDeterminants cX1_divisorOfDeterminants 5 (some .long) ∈ fl_tb := fl_mem (i := 199) (by decide +kernel) (by decide +kernel)
theorem wm_X1_141 : Cond.methodLink RX1 141 yJ6_bitCount_0f7a4 ∈ fl_tb := fl_mem (i := 200) (by decide +kernel) (by decide +kernel)
theorem ws_yJ6_bitCount_0f7a4 : Cond.static yJ6_bitCount_0f7a4 ∈ fl_tb := fl_mem (i := 201) (by decide +kernel) (by decide +kernel)
theorem wc_yJ6_bitCount_0f7a4 : Cond.code yJ6_bitCount_0f7a4 cJ6_bitCount_0f7a4 1 (some .int) ∈ fl_tb := fl_mem (i := 202) (by decide +kernel) (by decide +kernel)
theorem wk_J6_265 : Cond.constant RJ6 265 (1431655765) ∈ fl_tb := fl_mem (i := 203) (by decide +kernel) (by decide +kernel)
theorem wk_J6_266 : Cond.constant RJ6 266 (858993459) ∈ fl_tb := fl_mem (i := 204) (by decide +kernel) (by decide +kernel)
theorem wk_J6_267 : Cond.constant RJ6 267 (252645135) ∈ fl_tb := fl_mem (i := 205) (by decide +kernel) (by decide +kernel)
theorem wm_X1_146 : Cond.methodLink RX1 146 yX1_divisorOverUnknowns ∈ fl_tb := fl_mem (i := 206) (by decide +kernel) (by decide +kernel)
theorem wi_yX1_divisorOverUnknowns : Cond.instanceMethod yX1_divisorOverUnknowns ∈ fl_tb := fl_mem (i := 208) (by decide +kernel) (by decide +kernel)
theorem wc_yX1_divisorOverUnknowns : Cond.code yX1_divisorOverUnknowns cX1_divisorOverUnknowns 6 (some .long) ∈ fl_tb := fl_mem (i := 209) (by decide +kernel) (by decide +kernel)
theorem wm_X1_149 : Cond.methodLink RX1 149 yX1_determinant ∈ fl_tb := fl_mem (i := 210) (by decide +kernel) (by decide +kernel)
theorem wi_yX1_determinant : Cond.instanceMethod yX1_determinant ∈ fl_tb := fl_mem (i := 212) (by decide +kernel) (by decide +kernel)
theorem wc_yX1_determinant : Cond.code yX1_determinant cX1_determinant 9 (some .long) ∈ fl_tb := fl_mem (i := 213) (by decide +kernel) (by decide +kernel)
theorem wm_X1_113 : Cond.methodLink RX1 113 yX1_commonDivisor ∈ fl_tb := fl_mem (i := 214) (by decide +kernel) (by decide +kernel)
theorem ws_yX1_commonDivisor : Cond.static yX1_commonDivisor ∈ fl_tb := fl_mem (i := 215) (by decide +kernel) (by decide +kernel)
theorem wc_yX1_commonDivisor : Cond.code yX1_commonDivisor cX1_commonDivisor 11 (some .long) ∈ fl_tb := fl_mem (i := 216) (by decide +kernel) (by decide +kernel)
theorem wm_X1_152 : Cond.methodLink RX1 152 yJ9_abs_067f4 ∈ fl_tb := fl_mem (i := 217) (by decide +kernel) (by decide +kernel)
theorem ws_yJ9_abs_067f4 : Cond.static yJ9_abs_067f4 ∈ fl_tb := fl_mem (i := 218) (by decide +kernel) (by decide +kernel)
theorem wc_yJ9_abs_067f4 : Cond.code yJ9_abs_067f4 cJ9_abs_067f4 2 (some .long) ∈ fl_tb := fl_mem (i := 219) (by decide +kernel) (by decide +kernel)
theorem wm_L_68 : Cond.methodLink RL 68 yX1_box ∈ fl_tb := fl_mem (i := 220) (by decide +kernel) (by decide +kernel)
theorem wi_yX1_box : Cond.instanceMethod yX1_box ∈ fl_tb := fl_mem (i := 221) (by decide +kernel) (by decide +kernel)
theorem wl_yX1_box : Cond.selects RX1 yX1_box yX1_box ∈ fl_tb := fl_mem (i := 222) (by decide +kernel) (by decide +kernel)
theorem wc_yX1_box : Cond.code yX1_box cX1_box 4 (some .int) ∈ fl_tb := fl_mem (i := 223) (by decide +kernel) (by decide +kernel)
theorem wm_X1_97 : Cond.methodLink RX1 97 yX1_unmovedLieInside ∈ fl_tb := fl_mem (i := 224) (by decide +kernel) (by decide +kernel)
theorem wi_yX1_unmovedLieInside : Cond.instanceMethod yX1_unmovedLieInside ∈ fl_tb := fl_mem (i := 226) (by decide +kernel) (by decide +kernel)
theorem wc_yX1_unmovedLieInside : Cond.code yX1_unmovedLieInside cX1_unmovedLieInside 5 (some .boolean) ∈ fl_tb := fl_mem (i := 227) (by decide +kernel) (by decide +kernel)
theorem wm_X1_158 : Cond.methodLink RX1 158 yX1_leadUnknown ∈ fl_tb := fl_mem (i := 228) (by decide +kernel) (by decide +kernel)
theorem wi_yX1_leadUnknown : Cond.instanceMethod yX1_leadUnknown ∈ fl_tb := fl_mem (i := 230) (by decide +kernel) (by decide +kernel)
theorem wc_yX1_leadUnknown : Cond.code yX1_leadUnknown cX1_leadUnknown 2 (some .int) ∈ fl_tb := fl_mem (i := 231) (by decide +kernel) (by decide +kernel)
theorem wm_X1_124 : Cond.methodLink RX1 124 yX0_leadColumn ∈ fl_tb := fl_mem (i := 232) (by decide +kernel) (by decide +kernel)
theorem wi_yX0_leadColumn : Cond.instanceMethod yX0_leadColumn ∈ fl_tb := fl_mem (i := 233) (by decide +kernel) (by decide +kernel)
theorem wl_yX0_leadColumn : Cond.selects RX0 yX0_leadColumn yX0_leadColumn ∈ fl_tb := fl_mem (i := 234) (by decide +kernel) (by decide +kernel)
theorem wc_yX0_leadColumn : Cond.code yX0_leadColumn cX0_leadColumn 2 (some .int) ∈ fl_tb := fl_mem (i := 235) (by decide +kernel) (by decide +kernel)
theorem wm_X1_100 : Cond.methodLink RX1 100 yX1_countFrom ∈ fl_tb := fl_mem (i := 236) (by decide +kernel) (by decide +kernel)
theorem wi_yX1_countFrom : Cond.instanceMethod yX1_countFrom ∈ fl_tb := fl_mem (i := 238) (by decide +kernel) (by decide +kernel)
theorem wc_yX1_countFrom : Cond.code yX1_countFrom cX1_countFrom 12 (some .long) ∈ fl_tb := fl_mem (i := 239) (by decide +kernel) (by decide +kernel)
theorem wm_X1_161 : Cond.methodLink RX1 161 yX1_leastTurns ∈ fl_tb := fl_mem (i := 240) (by decide +kernel) (by decide +kernel)
theorem wi_yX1_leastTurns : Cond.instanceMethod yX1_leastTurns ∈ fl_tb := fl_mem (i := 242) (by decide +kernel) (by decide +kernel)
theorem wc_yX1_leastTurns : Cond.code yX1_leastTurns cX1_leastTurns 13 (some .long) ∈ fl_tb := fl_mem (i := 243) (by decide +kernel) (by decide +kernel)
theorem wm_X1_174 : Cond.methodLink RX1 174 yJ9_floorDiv_f86c9 ∈ fl_tb := fl_mem (i := 244) (by decide +kernel) (by decide +kernel)
theorem wm_X1_177 : Cond.methodLink RX1 177 yJ9_max_f86c9 ∈ fl_tb := fl_mem (i := 245) (by decide +kernel) (by decide +kernel)
theorem ws_yJ9_max_f86c9 : Cond.static yJ9_max_f86c9 ∈ fl_tb := fl_mem (i := 246) (by decide +kernel) (by decide +kernel)
theorem wc_yJ9_max_f86c9 : Cond.code yJ9_max_f86c9 cJ9_max_f86c9 4 (some .long) ∈ fl_tb := fl_mem (i := 247) (by decide +kernel) (by decide +kernel)
theorem wk_X1_180 : Cond.constantLong RX1 180 (1000000000000000) ∈ fl_tb := fl_mem (i := 248) (by decide +kernel) (by decide +kernel)
theorem wm_X1_164 : Cond.methodLink RX1 164 yX1_mostTurns ∈ fl_tb := fl_mem (i := 249) (by decide +kernel) (by decide +kernel)
theorem wi_yX1_mostTurns : Cond.instanceMethod yX1_mostTurns ∈ fl_tb := fl_mem (i := 251) (by decide +kernel) (by decide +kernel)
theorem wc_yX1_mostTurns : Cond.code yX1_mostTurns cX1_mostTurns 11 (some .long) ∈ fl_tb := fl_mem (i := 252) (by decide +kernel) (by decide +kernel)
theorem wk_X1_182 : Cond.constantLong RX1 182 (999999999999999) ∈ fl_tb := fl_mem (i := 253) (by decide +kernel) (by decide +kernel)
theorem wm_X1_184 : Cond.methodLink RX1 184 yJ9_min_f86c9 ∈ fl_tb := fl_mem (i := 254) (by decide +kernel) (by decide +kernel)
theorem ws_yJ9_min_f86c9 : Cond.static yJ9_min_f86c9 ∈ fl_tb := fl_mem (i := 255) (by decide +kernel) (by decide +kernel)
theorem wc_yJ9_min_f86c9 : Cond.code yJ9_min_f86c9 cJ9_min_f86c9 4 (some .long) ∈ fl_tb := fl_mem (i := 256) (by decide +kernel) (by decide +kernel)
theorem wm_X1_167 : Cond.methodLink RX1 167 yX1_leavesLaterUnknowns ∈ fl_tb := fl_mem (i := 257) (by decide +kernel) (by decide +kernel)
theorem wi_yX1_leavesLaterUnknowns : Cond.instanceMethod yX1_leavesLaterUnknowns ∈ fl_tb := fl_mem (i := 259) (by decide +kernel) (by decide +kernel)
theorem wc_yX1_leavesLaterUnknowns : Cond.code yX1_leavesLaterUnknowns cX1_leavesLaterUnknowns 3 (some .boolean) ∈ fl_tb := fl_mem (i := 260) (by decide +kernel) (by decide +kernel)
theorem wm_X1_170 : Cond.methodLink RX1 170 yX1_turn ∈ fl_tb := fl_mem (i := 261) (by decide +kernel) (by decide +kernel)
theorem wi_yX1_turn : Cond.instanceMethod yX1_turn ∈ fl_tb := fl_mem (i := 263) (by decide +kernel) (by decide +kernel)
theorem wc_yX1_turn : Cond.code yX1_turn cX1_turn 5 none ∈ fl_tb := fl_mem (i := 264) (by decide +kernel) (by decide +kernel)
theorem wm_L_72 : Cond.methodLink RL 72 yX1_modulo ∈ fl_tb := fl_mem (i := 265) (by decide +kernel) (by decide +kernel)
theorem wi_yX1_modulo : Cond.instanceMethod yX1_modulo ∈ fl_tb := fl_mem (i := 266) (by decide +kernel) (by decide +kernel)
theorem wl_yX1_modulo : Cond.selects RX1 yX1_modulo yX1_modulo ∈ fl_tb := fl_mem (i := 267) (by decide +kernel) (by decide +kernel)
theorem wc_yX1_modulo : Cond.code yX1_modulo cX1_modulo 3 (some .int) ∈ fl_tb := fl_mem (i := 268) (by decide +kernel) (by decide +kernel)
theorem wm_X1_104 : Cond.methodLink RX1 104 yX1_formRemainders ∈ fl_tb := fl_mem (i := 269) (by decide +kernel) (by decide +kernel)
theorem wi_yX1_formRemainders : Cond.instanceMethod yX1_formRemainders ∈ fl_tb := fl_mem (i := 271) (by decide +kernel) (by decide +kernel)
theorem wc_yX1_formRemainders : Cond.code yX1_formRemainders cX1_formRemainders 4 none ∈ fl_tb := fl_mem (i := 272) (by decide +kernel) (by decide +kernel)
theorem wm_X1_108 : Cond.methodLink RX1 108 yX1_waysToEachSum ∈ fl_tb := fl_mem (i := 273) (by decide +kernel) (by decide +kernel)
theorem wi_yX1_waysToEachSum : Cond.instanceMethod yX1_waysToEachSum ∈ fl_tb := fl_mem (i := 275) (by decide +kernel) (by decide +kernel)
theorem wc_yX1_waysToEachSum : Cond.code yX1_waysToEachSum cX1_waysToEachSum 7 (some .long) ∈ fl_tb := fl_mem (i := 276) (by decide +kernel) (by decide +kernel)
theorem wm_L_76 : Cond.methodLink RL 76 yX1_spread ∈ fl_tb := fl_mem (i := 277) (by decide +kernel) (by decide +kernel)
theorem wi_yX1_spread : Cond.instanceMethod yX1_spread ∈ fl_tb := fl_mem (i := 278) (by decide +kernel) (by decide +kernel)
theorem wl_yX1_spread : Cond.selects RX1 yX1_spread yX1_spread ∈ fl_tb := fl_mem (i := 279) (by decide +kernel) (by decide +kernel)
theorem wc_yX1_spread : Cond.code yX1_spread cX1_spread 5 (some .long) ∈ fl_tb := fl_mem (i := 280) (by decide +kernel) (by decide +kernel)
theorem wk_X1_111 : Cond.constantLong RX1 111 (-1) ∈ fl_tb := fl_mem (i := 281) (by decide +kernel) (by decide +kernel)
theorem wm_L_81 : Cond.methodLink RL 81 yX1_check ∈ fl_tb := fl_mem (i := 282) (by decide +kernel) (by decide +kernel)
theorem wi_yX1_check : Cond.instanceMethod yX1_check ∈ fl_tb := fl_mem (i := 283) (by decide +kernel) (by decide +kernel)
theorem wl_yX1_check : Cond.selects RX1 yX1_check yX1_check ∈ fl_tb := fl_mem (i := 284) (by decide +kernel) (by decide +kernel)
theorem wc_yX1_check : Cond.code yX1_check cX1_check 3 (some .int) ∈ fl_tb := fl_mem (i := 285) (by decide +kernel) (by decide +kernel)
theorem wm_X1_117 : Cond.methodLink RX1 117 yX1_solutionHolds ∈ fl_tb := fl_mem (i := 286) (by decide +kernel) (by decide +kernel)
theorem wi_yX1_solutionHolds : Cond.instanceMethod yX1_solutionHolds ∈ fl_tb := fl_mem (i := 288) (by decide +kernel) (by decide +kernel)
theorem wc_yX1_solutionHolds : Cond.code yX1_solutionHolds cX1_solutionHolds 2 (some .boolean) ∈ fl_tb := fl_mem (i := 289) (by decide +kernel) (by decide +kernel)
theorem wm_X1_187 : Cond.methodLink RX1 187 yX1_sumOfUnknowns ∈ fl_tb := fl_mem (i := 290) (by decide +kernel) (by decide +kernel)
theorem wi_yX1_sumOfUnknowns : Cond.instanceMethod yX1_sumOfUnknowns ∈ fl_tb := fl_mem (i := 292) (by decide +kernel) (by decide +kernel)
theorem wc_yX1_sumOfUnknowns : Cond.code yX1_sumOfUnknowns cX1_sumOfUnknowns 6 (some .long) ∈ fl_tb := fl_mem (i := 293) (by decide +kernel) (by decide +kernel)
theorem wm_X1_121 : Cond.methodLink RX1 121 yX1_rowHolds ∈ fl_tb := fl_mem (i := 294) (by decide +kernel) (by decide +kernel)
theorem wi_yX1_rowHolds : Cond.instanceMethod yX1_rowHolds ∈ fl_tb := fl_mem (i := 296) (by decide +kernel) (by decide +kernel)
theorem wc_yX1_rowHolds : Cond.code yX1_rowHolds cX1_rowHolds 3 (some .boolean) ∈ fl_tb := fl_mem (i := 297) (by decide +kernel) (by decide +kernel)
theorem wm_X1_191 : Cond.methodLink RX1 191 yX0_row ∈ fl_tb := fl_mem (i := 298) (by decide +kernel) (by decide +kernel)
theorem wi_yX0_row : Cond.instanceMethod yX0_row ∈ fl_tb := fl_mem (i := 299) (by decide +kernel) (by decide +kernel)
theorem wl_yX0_row : Cond.selects RX0 yX0_row yX0_row ∈ fl_tb := fl_mem (i := 300) (by decide +kernel) (by decide +kernel)
theorem wc_yX0_row : Cond.code yX0_row cX0_row 2 (some (.array .long)) ∈ fl_tb := fl_mem (i := 301) (by decide +kernel) (by decide +kernel)
theorem wm_L_12 : Cond.methodLink RL 12 yX2_init ∈ fl_tb := fl_mem (i := 304) (by decide +kernel) (by decide +kernel)
theorem wi_yX2_init : Cond.instanceMethod yX2_init ∈ fl_tb := fl_mem (i := 305) (by decide +kernel) (by decide +kernel)
theorem wc_yX2_init : Cond.code yX2_init cX2_init 1 none ∈ fl_tb := fl_mem (i := 306) (by decide +kernel) (by decide +kernel)
theorem wf_X2_7 : Cond.fieldLink RX2 7 "WholeSolverModel" "n" "I" ∈ fl_tb := fl_mem (i := 308) (by decide +kernel) (by decide +kernel)
theorem wf_X2_33 : Cond.fieldLink RX2 33 "WholeSolverModel" "equations" "I" ∈ fl_tb := fl_mem (i := 309) (by decide +kernel) (by decide +kernel)
theorem wf_X2_13 : Cond.fieldLink RX2 13 "WholeSolverModel" "factors" "[I" ∈ fl_tb := fl_mem (i := 310) (by decide +kernel) (by decide +kernel)
theorem wf_X2_17 : Cond.fieldLink RX2 17 "WholeSolverModel" "sums" "[I" ∈ fl_tb := fl_mem (i := 311) (by decide +kernel) (by decide +kernel)
theorem wf_X2_20 : Cond.fieldLink RX2 20 "WholeSolverModel" "rows" "[J" ∈ fl_tb := fl_mem (i := 312) (by decide +kernel) (by decide +kernel)
theorem wf_X2_66 : Cond.fieldLink RX2 66 "WholeSolverModel" "rowCount" "I" ∈ fl_tb := fl_mem (i := 313) (by decide +kernel) (by decide +kernel)
theorem wf_X2_24 : Cond.fieldLink RX2 24 "WholeSolverModel" "leads" "[I" ∈ fl_tb := fl_mem (i := 314) (by decide +kernel) (by decide +kernel)
theorem wf_X2_27 : Cond.fieldLink RX2 27 "WholeSolverModel" "wanted" "[J" ∈ fl_tb := fl_mem (i := 315) (by decide +kernel) (by decide +kernel)
theorem wf_X2_30 : Cond.fieldLink RX2 30 "WholeSolverModel" "found" "[J" ∈ fl_tb := fl_mem (i := 316) (by decide +kernel) (by decide +kernel)
theorem wm_L_17 : Cond.methodLink RL 17 yX2_unknowns ∈ fl_tb := fl_mem (i := 336) (by decide +kernel) (by decide +kernel)
theorem wi_yX2_unknowns : Cond.instanceMethod yX2_unknowns ∈ fl_tb := fl_mem (i := 337) (by decide +kernel) (by decide +kernel)
theorem wl_yX2_unknowns : Cond.selects RX2 yX2_unknowns yX2_unknowns ∈ fl_tb := fl_mem (i := 338) (by decide +kernel) (by decide +kernel)
theorem wc_yX2_unknowns : Cond.code yX2_unknowns cX2_unknowns 2 (some .int) ∈ fl_tb := fl_mem (i := 339) (by decide +kernel) (by decide +kernel)
theorem wm_L_22 : Cond.methodLink RL 22 yX2_equation ∈ fl_tb := fl_mem (i := 340) (by decide +kernel) (by decide +kernel)
theorem wi_yX2_equation : Cond.instanceMethod yX2_equation ∈ fl_tb := fl_mem (i := 341) (by decide +kernel) (by decide +kernel)
theorem wl_yX2_equation : Cond.selects RX2 yX2_equation yX2_equation ∈ fl_tb := fl_mem (i := 342) (by decide +kernel) (by decide +kernel)
theorem wc_yX2_equation : Cond.code yX2_equation cX2_equation 7 (some .int) ∈ fl_tb := fl_mem (i := 343) (by decide +kernel) (by decide +kernel)
theorem wm_X2_36 : Cond.methodLink RX2 36 yX2_isFactor ∈ fl_tb := fl_mem (i := 344) (by decide +kernel) (by decide +kernel)
theorem wi_yX2_isFactor : Cond.instanceMethod yX2_isFactor ∈ fl_tb := fl_mem (i := 346) (by decide +kernel) (by decide +kernel)
theorem wc_yX2_isFactor : Cond.code yX2_isFactor cX2_isFactor 3 (some .boolean) ∈ fl_tb := fl_mem (i := 347) (by decide +kernel) (by decide +kernel)
theorem wm_X2_40 : Cond.methodLink RX2 40 yX2_isSum ∈ fl_tb := fl_mem (i := 348) (by decide +kernel) (by decide +kernel)
theorem ws_yX2_isSum : Cond.static yX2_isSum ∈ fl_tb := fl_mem (i := 349) (by decide +kernel) (by decide +kernel)
theorem wc_yX2_isSum : Cond.code yX2_isSum cX2_isSum 1 (some .boolean) ∈ fl_tb := fl_mem (i := 350) (by decide +kernel) (by decide +kernel)
theorem wm_L_27 : Cond.methodLink RL 27 yX2_sum ∈ fl_tb := fl_mem (i := 351) (by decide +kernel) (by decide +kernel)
theorem wi_yX2_sum : Cond.instanceMethod yX2_sum ∈ fl_tb := fl_mem (i := 352) (by decide +kernel) (by decide +kernel)
theorem wl_yX2_sum : Cond.selects RX2 yX2_sum yX2_sum ∈ fl_tb := fl_mem (i := 353) (by decide +kernel) (by decide +kernel)
theorem wc_yX2_sum : Cond.code yX2_sum cX2_sum 3 (some .int) ∈ fl_tb := fl_mem (i := 354) (by decide +kernel) (by decide +kernel)
theorem wm_L_32 : Cond.methodLink RL 32 yX2_drop ∈ fl_tb := fl_mem (i := 355) (by decide +kernel) (by decide +kernel)
theorem wi_yX2_drop : Cond.instanceMethod yX2_drop ∈ fl_tb := fl_mem (i := 356) (by decide +kernel) (by decide +kernel)
theorem wl_yX2_drop : Cond.selects RX2 yX2_drop yX2_drop ∈ fl_tb := fl_mem (i := 357) (by decide +kernel) (by decide +kernel)
theorem wc_yX2_drop : Cond.code yX2_drop cX2_drop 1 (some .int) ∈ fl_tb := fl_mem (i := 358) (by decide +kernel) (by decide +kernel)
theorem wm_L_36 : Cond.methodLink RL 36 yX2_solve ∈ fl_tb := fl_mem (i := 359) (by decide +kernel) (by decide +kernel)
theorem wi_yX2_solve : Cond.instanceMethod yX2_solve ∈ fl_tb := fl_mem (i := 360) (by decide +kernel) (by decide +kernel)
theorem wl_yX2_solve : Cond.selects RX2 yX2_solve yX2_solve ∈ fl_tb := fl_mem (i := 361) (by decide +kernel) (by decide +kernel)
theorem wc_yX2_solve : Cond.code yX2_solve cX2_solve 1 (some .int) ∈ fl_tb := fl_mem (i := 362) (by decide +kernel) (by decide +kernel)
theorem wm_X2_83 : Cond.methodLink RX2 83 yX2_goes ∈ fl_tb := fl_mem (i := 363) (by decide +kernel) (by decide +kernel)
theorem wi_yX2_goes : Cond.instanceMethod yX2_goes ∈ fl_tb := fl_mem (i := 365) (by decide +kernel) (by decide +kernel)
theorem wc_yX2_goes : Cond.code yX2_goes cX2_goes 3 (some .boolean) ∈ fl_tb := fl_mem (i := 366) (by decide +kernel) (by decide +kernel)
theorem wm_X2_76 : Cond.methodLink RX2 76 yX2_relate ∈ fl_tb := fl_mem (i := 367) (by decide +kernel) (by decide +kernel)
theorem wi_yX2_relate : Cond.instanceMethod yX2_relate ∈ fl_tb := fl_mem (i := 369) (by decide +kernel) (by decide +kernel)
theorem wc_yX2_relate : Cond.code yX2_relate cX2_relate 4 none ∈ fl_tb := fl_mem (i := 370) (by decide +kernel) (by decide +kernel)
theorem wm_X2_69 : Cond.methodLink RX2 69 yX2_form ∈ fl_tb := fl_mem (i := 371) (by decide +kernel) (by decide +kernel)
theorem wi_yX2_form : Cond.instanceMethod yX2_form ∈ fl_tb := fl_mem (i := 373) (by decide +kernel) (by decide +kernel)
theorem wc_yX2_form : Cond.code yX2_form cX2_form 8 none ∈ fl_tb := fl_mem (i := 374) (by decide +kernel) (by decide +kernel)
theorem wm_X2_48 : Cond.methodLink RX2 48 yX2_least ∈ fl_tb := fl_mem (i := 375) (by decide +kernel) (by decide +kernel)
theorem wi_yX2_least : Cond.instanceMethod yX2_least ∈ fl_tb := fl_mem (i := 377) (by decide +kernel) (by decide +kernel)
theorem wc_yX2_least : Cond.code yX2_least cX2_least 8 (some .int) ∈ fl_tb := fl_mem (i := 378) (by decide +kernel) (by decide +kernel)
theorem wm_X2_44 : Cond.methodLink RX2 44 yX2_size ∈ fl_tb := fl_mem (i := 379) (by decide +kernel) (by decide +kernel)
theorem ws_yX2_size : Cond.static yX2_size ∈ fl_tb := fl_mem (i := 380) (by decide +kernel) (by decide +kernel)
theorem wc_yX2_size : Cond.code yX2_size cX2_size 2 (some .long) ∈ fl_tb := fl_mem (i := 381) (by decide +kernel) (by decide +kernel)
theorem wm_X2_52 : Cond.methodLink RX2 52 yX2_change ∈ fl_tb := fl_mem (i := 382) (by decide +kernel) (by decide +kernel)
theorem wi_yX2_change : Cond.instanceMethod yX2_change ∈ fl_tb := fl_mem (i := 384) (by decide +kernel) (by decide +kernel)
theorem wc_yX2_change : Cond.code yX2_change cX2_change 6 none ∈ fl_tb := fl_mem (i := 385) (by decide +kernel) (by decide +kernel)
theorem wk_X2_56 : Cond.constantLong RX2 56 (2) ∈ fl_tb := fl_mem (i := 386) (by decide +kernel) (by decide +kernel)
theorem wm_X2_58 : Cond.methodLink RX2 58 yX2_take ∈ fl_tb := fl_mem (i := 387) (by decide +kernel) (by decide +kernel)
theorem wi_yX2_take : Cond.instanceMethod yX2_take ∈ fl_tb := fl_mem (i := 389) (by decide +kernel) (by decide +kernel)
theorem wc_yX2_take : Cond.code yX2_take cX2_take 7 none ∈ fl_tb := fl_mem (i := 390) (by decide +kernel) (by decide +kernel)
theorem wm_X2_62 : Cond.methodLink RX2 62 yX2_down ∈ fl_tb := fl_mem (i := 391) (by decide +kernel) (by decide +kernel)
theorem ws_yX2_down : Cond.static yX2_down ∈ fl_tb := fl_mem (i := 392) (by decide +kernel) (by decide +kernel)
theorem wc_yX2_down : Cond.code yX2_down cX2_down 6 (some .long) ∈ fl_tb := fl_mem (i := 393) (by decide +kernel) (by decide +kernel)
theorem wm_X2_80 : Cond.methodLink RX2 80 yX2_comes ∈ fl_tb := fl_mem (i := 394) (by decide +kernel) (by decide +kernel)
theorem wi_yX2_comes : Cond.instanceMethod yX2_comes ∈ fl_tb := fl_mem (i := 396) (by decide +kernel) (by decide +kernel)
theorem wc_yX2_comes : Cond.code yX2_comes cX2_comes 9 (some .boolean) ∈ fl_tb := fl_mem (i := 397) (by decide +kernel) (by decide +kernel)
theorem wm_X2_72 : Cond.methodLink RX2 72 yX2_before ∈ fl_tb := fl_mem (i := 398) (by decide +kernel) (by decide +kernel)
theorem wi_yX2_before : Cond.instanceMethod yX2_before ∈ fl_tb := fl_mem (i := 400) (by decide +kernel) (by decide +kernel)
theorem wc_yX2_before : Cond.code yX2_before cX2_before 3 (some .int) ∈ fl_tb := fl_mem (i := 401) (by decide +kernel) (by decide +kernel)
theorem wm_X2_86 : Cond.methodLink RX2 86 yX2_basisCount ∈ fl_tb := fl_mem (i := 402) (by decide +kernel) (by decide +kernel)
theorem wi_yX2_basisCount : Cond.instanceMethod yX2_basisCount ∈ fl_tb := fl_mem (i := 404) (by decide +kernel) (by decide +kernel)
theorem wc_yX2_basisCount : Cond.code yX2_basisCount cX2_basisCount 1 (some .int) ∈ fl_tb := fl_mem (i := 405) (by decide +kernel) (by decide +kernel)
theorem wm_L_40 : Cond.methodLink RL 40 yX2_fails ∈ fl_tb := fl_mem (i := 406) (by decide +kernel) (by decide +kernel)
theorem wi_yX2_fails : Cond.instanceMethod yX2_fails ∈ fl_tb := fl_mem (i := 407) (by decide +kernel) (by decide +kernel)
theorem wl_yX2_fails : Cond.selects RX2 yX2_fails yX2_fails ∈ fl_tb := fl_mem (i := 408) (by decide +kernel) (by decide +kernel)
theorem wc_yX2_fails : Cond.code yX2_fails cX2_fails 2 (some .int) ∈ fl_tb := fl_mem (i := 409) (by decide +kernel) (by decide +kernel)
theorem wm_L_45 : Cond.methodLink RL 45 yX2_solution ∈ fl_tb := fl_mem (i := 410) (by decide +kernel) (by decide +kernel)
theorem wi_yX2_solution : Cond.instanceMethod yX2_solution ∈ fl_tb := fl_mem (i := 411) (by decide +kernel) (by decide +kernel)
theorem wl_yX2_solution : Cond.selects RX2 yX2_solution yX2_solution ∈ fl_tb := fl_mem (i := 412) (by decide +kernel) (by decide +kernel)
theorem wc_yX2_solution : Cond.code yX2_solution cX2_solution 7 (some .long) ∈ fl_tb := fl_mem (i := 413) (by decide +kernel) (by decide +kernel)
theorem wk_X2_90 : Cond.constantLong RX2 90 (-1000000000000000) ∈ fl_tb := fl_mem (i := 414) (by decide +kernel) (by decide +kernel)
theorem wm_L_50 : Cond.methodLink RL 50 yX2_basis ∈ fl_tb := fl_mem (i := 415) (by decide +kernel) (by decide +kernel)
theorem wi_yX2_basis : Cond.instanceMethod yX2_basis ∈ fl_tb := fl_mem (i := 416) (by decide +kernel) (by decide +kernel)
theorem wl_yX2_basis : Cond.selects RX2 yX2_basis yX2_basis ∈ fl_tb := fl_mem (i := 417) (by decide +kernel) (by decide +kernel)
theorem wc_yX2_basis : Cond.code yX2_basis cX2_basis 3 (some .long) ∈ fl_tb := fl_mem (i := 418) (by decide +kernel) (by decide +kernel)
theorem wm_L_54 : Cond.methodLink RL 54 yX2_count ∈ fl_tb := fl_mem (i := 419) (by decide +kernel) (by decide +kernel)
theorem wi_yX2_count : Cond.instanceMethod yX2_count ∈ fl_tb := fl_mem (i := 420) (by decide +kernel) (by decide +kernel)
theorem wl_yX2_count : Cond.selects RX2 yX2_count yX2_count ∈ fl_tb := fl_mem (i := 421) (by decide +kernel) (by decide +kernel)
theorem wc_yX2_count : Cond.code yX2_count cX2_count 2 (some .int) ∈ fl_tb := fl_mem (i := 422) (by decide +kernel) (by decide +kernel)
theorem wm_L_58 : Cond.methodLink RL 58 yX2_reach ∈ fl_tb := fl_mem (i := 423) (by decide +kernel) (by decide +kernel)
theorem wi_yX2_reach : Cond.instanceMethod yX2_reach ∈ fl_tb := fl_mem (i := 424) (by decide +kernel) (by decide +kernel)
theorem wl_yX2_reach : Cond.selects RX2 yX2_reach yX2_reach ∈ fl_tb := fl_mem (i := 425) (by decide +kernel) (by decide +kernel)
theorem wc_yX2_reach : Cond.code yX2_reach cX2_reach 3 (some .long) ∈ fl_tb := fl_mem (i := 426) (by decide +kernel) (by decide +kernel)
theorem wm_L_63 : Cond.methodLink RL 63 yX2_reached ∈ fl_tb := fl_mem (i := 427) (by decide +kernel) (by decide +kernel)
theorem wi_yX2_reached : Cond.instanceMethod yX2_reached ∈ fl_tb := fl_mem (i := 428) (by decide +kernel) (by decide +kernel)
theorem wl_yX2_reached : Cond.selects RX2 yX2_reached yX2_reached ∈ fl_tb := fl_mem (i := 429) (by decide +kernel) (by decide +kernel)
theorem wc_yX2_reached : Cond.code yX2_reached cX2_reached 4 (some .int) ∈ fl_tb := fl_mem (i := 430) (by decide +kernel) (by decide +kernel)
theorem wm_L_67 : Cond.methodLink RL 67 yX2_invariant ∈ fl_tb := fl_mem (i := 431) (by decide +kernel) (by decide +kernel)
theorem wi_yX2_invariant : Cond.instanceMethod yX2_invariant ∈ fl_tb := fl_mem (i := 432) (by decide +kernel) (by decide +kernel)
theorem wl_yX2_invariant : Cond.selects RX2 yX2_invariant yX2_invariant ∈ fl_tb := fl_mem (i := 433) (by decide +kernel) (by decide +kernel)
theorem wc_yX2_invariant : Cond.code yX2_invariant cX2_invariant 4 (some .long) ∈ fl_tb := fl_mem (i := 434) (by decide +kernel) (by decide +kernel)
theorem wm_X2_110 : Cond.methodLink RX2 110 yX2_divisor ∈ fl_tb := fl_mem (i := 435) (by decide +kernel) (by decide +kernel)
theorem wi_yX2_divisor : Cond.instanceMethod yX2_divisor ∈ fl_tb := fl_mem (i := 437) (by decide +kernel) (by decide +kernel)
theorem wc_yX2_divisor : Cond.code yX2_divisor cX2_divisor 6 (some .long) ∈ fl_tb := fl_mem (i := 438) (by decide +kernel) (by decide +kernel)
theorem wm_X2_100 : Cond.methodLink RX2 100 yX2_ones ∈ fl_tb := fl_mem (i := 439) (by decide +kernel) (by decide +kernel)
theorem ws_yX2_ones : Cond.static yX2_ones ∈ fl_tb := fl_mem (i := 440) (by decide +kernel) (by decide +kernel)
theorem wc_yX2_ones : Cond.code yX2_ones cX2_ones 1 (some .int) ∈ fl_tb := fl_mem (i := 441) (by decide +kernel) (by decide +kernel)
theorem wm_X2_103 : Cond.methodLink RX2 103 yX2_determinant ∈ fl_tb := fl_mem (i := 442) (by decide +kernel) (by decide +kernel)
theorem wi_yX2_determinant : Cond.instanceMethod yX2_determinant ∈ fl_tb := fl_mem (i := 444) (by decide +kernel) (by decide +kernel)
theorem wc_yX2_determinant : Cond.code yX2_determinant cX2_determinant 10 (some .long) ∈ fl_tb := fl_mem (i := 445) (by decide +kernel) (by decide +kernel)
theorem wm_X2_92 : Cond.methodLink RX2 92 yX2_place ∈ fl_tb := fl_mem (i := 446) (by decide +kernel) (by decide +kernel)
theorem ws_yX2_place : Cond.static yX2_place ∈ fl_tb := fl_mem (i := 447) (by decide +kernel) (by decide +kernel)
theorem wc_yX2_place : Cond.code yX2_place cX2_place 4 (some .int) ∈ fl_tb := fl_mem (i := 448) (by decide +kernel) (by decide +kernel)
theorem wm_X2_96 : Cond.methodLink RX2 96 yX2_two ∈ fl_tb := fl_mem (i := 449) (by decide +kernel) (by decide +kernel)
theorem wi_yX2_two : Cond.instanceMethod yX2_two ∈ fl_tb := fl_mem (i := 451) (by decide +kernel) (by decide +kernel)
theorem wc_yX2_two : Cond.code yX2_two cX2_two 5 (some .long) ∈ fl_tb := fl_mem (i := 452) (by decide +kernel) (by decide +kernel)
theorem wm_X2_107 : Cond.methodLink RX2 107 yX2_common ∈ fl_tb := fl_mem (i := 453) (by decide +kernel) (by decide +kernel)
theorem ws_yX2_common : Cond.static yX2_common ∈ fl_tb := fl_mem (i := 454) (by decide +kernel) (by decide +kernel)
theorem wc_yX2_common : Cond.code yX2_common cX2_common 10 (some .long) ∈ fl_tb := fl_mem (i := 455) (by decide +kernel) (by decide +kernel)
theorem wm_L_71 : Cond.methodLink RL 71 yX2_box ∈ fl_tb := fl_mem (i := 456) (by decide +kernel) (by decide +kernel)
theorem wi_yX2_box : Cond.instanceMethod yX2_box ∈ fl_tb := fl_mem (i := 457) (by decide +kernel) (by decide +kernel)
theorem wl_yX2_box : Cond.selects RX2 yX2_box yX2_box ∈ fl_tb := fl_mem (i := 458) (by decide +kernel) (by decide +kernel)
theorem wc_yX2_box : Cond.code yX2_box cX2_box 7 (some .int) ∈ fl_tb := fl_mem (i := 459) (by decide +kernel) (by decide +kernel)
theorem wm_X2_118 : Cond.methodLink RX2 118 yX2_lasts ∈ fl_tb := fl_mem (i := 460) (by decide +kernel) (by decide +kernel)
theorem wi_yX2_lasts : Cond.instanceMethod yX2_lasts ∈ fl_tb := fl_mem (i := 462) (by decide +kernel) (by decide +kernel)
theorem wc_yX2_lasts : Cond.code yX2_lasts cX2_lasts 11 (some .int) ∈ fl_tb := fl_mem (i := 463) (by decide +kernel) (by decide +kernel)
theorem wm_X2_114 : Cond.methodLink RX2 114 yX2_leftOf ∈ fl_tb := fl_mem (i := 464) (by decide +kernel) (by decide +kernel)
theorem wi_yX2_leftOf : Cond.instanceMethod yX2_leftOf ∈ fl_tb := fl_mem (i := 466) (by decide +kernel) (by decide +kernel)
theorem wc_yX2_leftOf : Cond.code yX2_leftOf cX2_leftOf 5 (some .int) ∈ fl_tb := fl_mem (i := 467) (by decide +kernel) (by decide +kernel)
theorem wm_L_75 : Cond.methodLink RL 75 yX2_modulo ∈ fl_tb := fl_mem (i := 468) (by decide +kernel) (by decide +kernel)
theorem wi_yX2_modulo : Cond.instanceMethod yX2_modulo ∈ fl_tb := fl_mem (i := 469) (by decide +kernel) (by decide +kernel)
theorem wl_yX2_modulo : Cond.selects RX2 yX2_modulo yX2_modulo ∈ fl_tb := fl_mem (i := 470) (by decide +kernel) (by decide +kernel)
theorem wc_yX2_modulo : Cond.code yX2_modulo cX2_modulo 5 (some .int) ∈ fl_tb := fl_mem (i := 471) (by decide +kernel) (by decide +kernel)
theorem wm_L_80 : Cond.methodLink RL 80 yX2_spread ∈ fl_tb := fl_mem (i := 472) (by decide +kernel) (by decide +kernel)
theorem wi_yX2_spread : Cond.instanceMethod yX2_spread ∈ fl_tb := fl_mem (i := 473) (by decide +kernel) (by decide +kernel)
theorem wl_yX2_spread : Cond.selects RX2 yX2_spread yX2_spread ∈ fl_tb := fl_mem (i := 474) (by decide +kernel) (by decide +kernel)
theorem wc_yX2_spread : Cond.code yX2_spread cX2_spread 5 (some .long) ∈ fl_tb := fl_mem (i := 475) (by decide +kernel) (by decide +kernel)
theorem wk_X2_122 : Cond.constantLong RX2 122 (-1) ∈ fl_tb := fl_mem (i := 476) (by decide +kernel) (by decide +kernel)
theorem wm_L_84 : Cond.methodLink RL 84 yX2_check ∈ fl_tb := fl_mem (i := 477) (by decide +kernel) (by decide +kernel)
theorem wi_yX2_check : Cond.instanceMethod yX2_check ∈ fl_tb := fl_mem (i := 478) (by decide +kernel) (by decide +kernel)
theorem wl_yX2_check : Cond.selects RX2 yX2_check yX2_check ∈ fl_tb := fl_mem (i := 479) (by decide +kernel) (by decide +kernel)
theorem wc_yX2_check : Cond.code yX2_check cX2_check 1 (some .int) ∈ fl_tb := fl_mem (i := 480) (by decide +kernel) (by decide +kernel)
theorem wl_yX1_formWhole : Cond.selects RX1 yX1_formWhole yX1_formWhole ∈ fl_tb := fl_memP (i := 0) (by decide +kernel) (by decide +kernel)
theorem wl_yX0_divideOut : Cond.selects RX0 yX0_divideOut yX0_divideOut ∈ fl_tb := fl_memP (i := 1) (by decide +kernel) (by decide +kernel)
theorem wl_yX0_addLead : Cond.selects RX0 yX0_addLead yX0_addLead ∈ fl_tb := fl_memP (i := 2) (by decide +kernel) (by decide +kernel)
theorem wl_yX0_reduceBy : Cond.selects RX0 yX0_reduceBy yX0_reduceBy ∈ fl_tb := fl_memP (i := 3) (by decide +kernel) (by decide +kernel)
theorem wl_yX1_settleSolution : Cond.selects RX1 yX1_settleSolution yX1_settleSolution ∈ fl_tb := fl_memP (i := 4) (by decide +kernel) (by decide +kernel)
theorem wl_yX1_firstNotZero : Cond.selects RX1 yX1_firstNotZero yX1_firstNotZero ∈ fl_tb := fl_memP (i := 5) (by decide +kernel) (by decide +kernel)
theorem wl_yX1_isFactor : Cond.selects RX1 yX1_isFactor yX1_isFactor ∈ fl_tb := fl_memP (i := 6) (by decide +kernel) (by decide +kernel)
theorem wl_yX1_basisRows : Cond.selects RX1 yX1_basisRows yX1_basisRows ∈ fl_tb := fl_memP (i := 7) (by decide +kernel) (by decide +kernel)
theorem wl_yX1_basisNumber : Cond.selects RX1 yX1_basisNumber yX1_basisNumber ∈ fl_tb := fl_memP (i := 8) (by decide +kernel) (by decide +kernel)
theorem wl_yX1_divisorOfDeterminants : Cond.selects RX1 yX1_divisorOfDeterminants yX1_divisorOfDeterminants ∈ fl_tb := fl_memP (i := 9) (by decide +kernel) (by decide +kernel)
theorem wl_yX1_divisorOverUnknowns : Cond.selects RX1 yX1_divisorOverUnknowns yX1_divisorOverUnknowns ∈ fl_tb := fl_memP (i := 10) (by decide +kernel) (by decide +kernel)
theorem wl_yX1_determinant : Cond.selects RX1 yX1_determinant yX1_determinant ∈ fl_tb := fl_memP (i := 11) (by decide +kernel) (by decide +kernel)
theorem wl_yX1_unmovedLieInside : Cond.selects RX1 yX1_unmovedLieInside yX1_unmovedLieInside ∈ fl_tb := fl_memP (i := 12) (by decide +kernel) (by decide +kernel)
theorem wl_yX1_leadUnknown : Cond.selects RX1 yX1_leadUnknown yX1_leadUnknown ∈ fl_tb := fl_memP (i := 13) (by decide +kernel) (by decide +kernel)
theorem wl_yX1_countFrom : Cond.selects RX1 yX1_countFrom yX1_countFrom ∈ fl_tb := fl_memP (i := 14) (by decide +kernel) (by decide +kernel)
theorem wl_yX1_leastTurns : Cond.selects RX1 yX1_leastTurns yX1_leastTurns ∈ fl_tb := fl_memP (i := 15) (by decide +kernel) (by decide +kernel)
theorem wl_yX1_mostTurns : Cond.selects RX1 yX1_mostTurns yX1_mostTurns ∈ fl_tb := fl_memP (i := 16) (by decide +kernel) (by decide +kernel)
theorem wl_yX1_leavesLaterUnknowns : Cond.selects RX1 yX1_leavesLaterUnknowns yX1_leavesLaterUnknowns ∈ fl_tb := fl_memP (i := 17) (by decide +kernel) (by decide +kernel)
theorem wl_yX1_turn : Cond.selects RX1 yX1_turn yX1_turn ∈ fl_tb := fl_memP (i := 18) (by decide +kernel) (by decide +kernel)
theorem wl_yX1_formRemainders : Cond.selects RX1 yX1_formRemainders yX1_formRemainders ∈ fl_tb := fl_memP (i := 19) (by decide +kernel) (by decide +kernel)
theorem wl_yX1_waysToEachSum : Cond.selects RX1 yX1_waysToEachSum yX1_waysToEachSum ∈ fl_tb := fl_memP (i := 20) (by decide +kernel) (by decide +kernel)
theorem wl_yX1_solutionHolds : Cond.selects RX1 yX1_solutionHolds yX1_solutionHolds ∈ fl_tb := fl_memP (i := 21) (by decide +kernel) (by decide +kernel)
theorem wl_yX1_sumOfUnknowns : Cond.selects RX1 yX1_sumOfUnknowns yX1_sumOfUnknowns ∈ fl_tb := fl_memP (i := 22) (by decide +kernel) (by decide +kernel)
theorem wl_yX1_rowHolds : Cond.selects RX1 yX1_rowHolds yX1_rowHolds ∈ fl_tb := fl_memP (i := 23) (by decide +kernel) (by decide +kernel)
theorem wl_yX2_isFactor : Cond.selects RX2 yX2_isFactor yX2_isFactor ∈ fl_tb := fl_memP (i := 24) (by decide +kernel) (by decide +kernel)
theorem wl_yX2_goes : Cond.selects RX2 yX2_goes yX2_goes ∈ fl_tb := fl_memP (i := 25) (by decide +kernel) (by decide +kernel)
theorem wl_yX2_relate : Cond.selects RX2 yX2_relate yX2_relate ∈ fl_tb := fl_memP (i := 26) (by decide +kernel) (by decide +kernel)
theorem wl_yX2_form : Cond.selects RX2 yX2_form yX2_form ∈ fl_tb := fl_memP (i := 27) (by decide +kernel) (by decide +kernel)
theorem wl_yX2_least : Cond.selects RX2 yX2_least yX2_least ∈ fl_tb := fl_memP (i := 28) (by decide +kernel) (by decide +kernel)
theorem wl_yX2_change : Cond.selects RX2 yX2_change yX2_change ∈ fl_tb := fl_memP (i := 29) (by decide +kernel) (by decide +kernel)
theorem wl_yX2_take : Cond.selects RX2 yX2_take yX2_take ∈ fl_tb := fl_memP (i := 30) (by decide +kernel) (by decide +kernel)
theorem wl_yX2_comes : Cond.selects RX2 yX2_comes yX2_comes ∈ fl_tb := fl_memP (i := 31) (by decide +kernel) (by decide +kernel)
theorem wl_yX2_before : Cond.selects RX2 yX2_before yX2_before ∈ fl_tb := fl_memP (i := 32) (by decide +kernel) (by decide +kernel)
theorem wl_yX2_basisCount : Cond.selects RX2 yX2_basisCount yX2_basisCount ∈ fl_tb := fl_memP (i := 33) (by decide +kernel) (by decide +kernel)
theorem wl_yX2_divisor : Cond.selects RX2 yX2_divisor yX2_divisor ∈ fl_tb := fl_memP (i := 34) (by decide +kernel) (by decide +kernel)
theorem wl_yX2_determinant : Cond.selects RX2 yX2_determinant yX2_determinant ∈ fl_tb := fl_memP (i := 35) (by decide +kernel) (by decide +kernel)
theorem wl_yX2_two : Cond.selects RX2 yX2_two yX2_two ∈ fl_tb := fl_memP (i := 36) (by decide +kernel) (by decide +kernel)
theorem wl_yX2_lasts : Cond.selects RX2 yX2_lasts yX2_lasts ∈ fl_tb := fl_memP (i := 37) (by decide +kernel) (by decide +kernel)
theorem wl_yX2_leftOf : Cond.selects RX2 yX2_leftOf yX2_leftOf ∈ fl_tb := fl_memP (i := 38) (by decide +kernel) (by decide +kernel)
end
section
/-! THE FLAT WORLD. Cells have numbers (0: the solver, 1..29 its arrays and lattices, 30: the model, 31..36 its arrays); cell k lies at ad k. What they hold is two tables: I k j (ints), J k j (longs); all references are fixed by the layout. -/
theorem fl_goodIn {big ws : List Cond} (h : ∀ w ∈ ws, w ∈ fl_tb) (hb : ∀ w ∈ fl_tb, w ∈ big) : GoodIn big ws := fun w hw => ⟨hb w (h w hw), good_of_word (List.mem_filter.mp (h w hw)).2⟩
theorem fl_w0 : ∀ w ∈ u_ws RX0 TX0 5, w ∈ fl_tb := by decide +kernel
theorem fl_w1 : ∀ w ∈ u_ws RX1 TX1 11, w ∈ fl_tb := by decide +kernel
theorem fl_w2 : ∀ w ∈ u_ws RX2 TX2 9, w ∈ fl_tb := by decide +kernel
abbrev fl_cl : List vw_C := [(RX0, TX0, 5), (RX1, TX1, 11), (RX2, TX2, 9)]
/-- kinds: 0 int[], 1 long[], 2 int[][], 3 long[][], 4 a lattice, 5 the solver, 6 the model -/
def fl_k (k : Nat) : Nat := [5, 2, 0, 0, 0, 0, 4, 3, 1, 1, 1, 1, 0, 4, 3, 1, 1, 1, 1, 1, 1, 0, 1, 1, 3, 1, 1, 1, 1, 1, 6, 0, 0, 1, 0, 1, 1].getD k 9
def fl_n (k : Nat) : Nat := [0, 3, 4, 4, 4, 3, 0, 4, 7, 7, 7, 7, 4, 0, 6, 3, 3, 3, 3, 3, 3, 6, 7, 7, 5, 4, 4, 4, 4, 4, 0, 12, 3, 64, 8, 3, 4].getD k 0
abbrev fl_TI : Type := Nat → Nat → Int32
abbrev fl_TJ : Type := Nat → Nat → Int64
def fl_c (dA : Nat → ClassId) (ad : Nat → Nat) (I : fl_TI) (J : fl_TJ) (k : Nat) : va_E := match fl_k k with
  | 0 => .inl (dA 0, fl_n k, .inl (I k))
  | 1 => .inl (dA 1, fl_n k, .inr (.inl (J k)))
  | 2 => .inl (dA 2, fl_n k, .inr (.inr (.inr (.inr (fun i => if i < fl_n k then some (ad (k + 1 + i)) else none)))))
  | 3 => .inl (dA 3, fl_n k, .inr (.inr (.inr (.inr (fun i => if i < fl_n k then some (ad (k + 1 + i)) else none)))))
  | 4 => .inr (0, [.ref (ad (k + 1)), .ref (ad (k + 2 + fl_n (k + 1))), .int (I k 2), .int (I k 3), .int (I k 4)])
  | 5 => .inr (1, [.ref (ad 1), .ref (ad 5), .int (I k 2), .int (I k 3), .ref (ad 6), .ref (ad 13), .int (I k 6), .ref (ad 22), .int (I k 8), .ref (ad 23), .ref (ad 24)])
  | _ => .inr (2, [.int (I k 0), .int (I k 1), .ref (ad 31), .ref (ad 32), .ref (ad 33), .int (I k 5), .ref (ad 34), .ref (ad 35), .ref (ad 36)])
def fl_w (dA : Nat → ClassId) (ad : Nat → Nat) (N : Nat) (I : fl_TI) (J : fl_TJ) : va_W := (List.range N).map (fun k => (ad k, fl_c dA ad I J k))
theorem fl_w_at {dA : Nat → ClassId} {ad : Nat → Nat} {N : Nat} {I : fl_TI} {J : fl_TJ} {k : Nat} (h : k < N) : (fl_w dA ad N I J)[k]? = some (ad k, fl_c dA ad I J k) := by
  unfold fl_w
  rw [List.getElem?_map, List.getElem?_range h]
  rfl
def fl_up {α : Type} (I : Nat → Nat → α) (k j : Nat) (x : α) : Nat → Nat → α := fun a b => if a = k ∧ b = j then x else I a b
theorem fl_up_s {α : Type} {I : Nat → Nat → α} {k j : Nat} {x : α} : fl_up I k j x k j = x := if_pos ⟨rfl, rfl⟩
theorem fl_up_k {α : Type} {I : Nat → Nat → α} {k j a b : Nat} {x : α} (h : a ≠ k) : fl_up I k j x a b = I a b := if_neg (fun q => h q.1)
theorem fl_up_j {α : Type} {I : Nat → Nat → α} {k j a b : Nat} {x : α} (h : b ≠ j) : fl_up I k j x a b = I a b := if_neg (fun q => h q.2)
theorem fl_c_J {dA : Nat → ClassId} {ad : Nat → Nat} {I : fl_TI} {J : fl_TJ} {k : Nat} (h : fl_k k = 1) : fl_c dA ad I J k = .inl (dA 1, fl_n k, .inr (.inl (J k))) := by unfold fl_c; simp only [h]
theorem fl_c_I {dA : Nat → ClassId} {ad : Nat → Nat} {I : fl_TI} {J : fl_TJ} {k : Nat} (h : fl_k k = 0) : fl_c dA ad I J k = .inl (dA 0, fl_n k, .inl (I k)) := by unfold fl_c; simp only [h]
theorem fl_c_II {dA : Nat → ClassId} {ad : Nat → Nat} {I : fl_TI} {J : fl_TJ} {k : Nat} (h : fl_k k = 2) : fl_c dA ad I J k = .inl (dA 2, fl_n k, .inr (.inr (.inr (.inr (fun i => if i < fl_n k then some (ad (k + 1 + i)) else none))))) := by unfold fl_c; simp only [h]
theorem fl_c_JJ {dA : Nat → ClassId} {ad : Nat → Nat} {I : fl_TI} {J : fl_TJ} {k : Nat} (h : fl_k k = 3) : fl_c dA ad I J k = .inl (dA 3, fl_n k, .inr (.inr (.inr (.inr (fun i => if i < fl_n k then some (ad (k + 1 + i)) else none))))) := by unfold fl_c; simp only [h]
theorem fl_c_4 {dA : Nat → ClassId} {ad : Nat → Nat} {I : fl_TI} {J : fl_TJ} {k : Nat} (h : fl_k k = 4) : fl_c dA ad I J k = .inr (0, [.ref (ad (k + 1)), .ref (ad (k + 2 + fl_n (k + 1))), .int (I k 2), .int (I k 3), .int (I k 4)]) := by unfold fl_c; simp only [h]
theorem fl_c_5 {dA : Nat → ClassId} {ad : Nat → Nat} {I : fl_TI} {J : fl_TJ} : fl_c dA ad I J 0 = .inr (1, [.ref (ad 1), .ref (ad 5), .int (I 0 2), .int (I 0 3), .ref (ad 6), .ref (ad 13), .int (I 0 6), .ref (ad 22), .int (I 0 8), .ref (ad 23), .ref (ad 24)]) := rfl
theorem fl_c_6 {dA : Nat → ClassId} {ad : Nat → Nat} {I : fl_TI} {J : fl_TJ} : fl_c dA ad I J 30 = .inr (2, [.int (I 30 0), .int (I 30 1), .ref (ad 31), .ref (ad 32), .ref (ad 33), .int (I 30 5), .ref (ad 34), .ref (ad 35), .ref (ad 36)]) := rfl
/-- a cell other than k is as it was -/
theorem fl_c_far {dA : Nat → ClassId} {ad : Nat → Nat} {I I' : fl_TI} {J J' : fl_TJ} {a : Nat} (hI : I' a = I a) (hJ : J' a = J a) : fl_c dA ad I' J' a = fl_c dA ad I J a := by
  unfold fl_c
  rw [hI, hJ]
theorem fl_up_row {α : Type} {I : Nat → Nat → α} {k j a : Nat} {x : α} (h : a ≠ k) : fl_up I k j x a = I a := funext fun _ => fl_up_k h
theorem fl_up_J {J : fl_TJ} {k j : Nat} {x : Int64} : vp_updL (J k) j x = fl_up J k j x k := by
  funext b
  unfold vp_updL fl_up
  by_cases h : b = j <;> simp [h]
theorem fl_up_I {I : fl_TI} {k j : Nat} {x : Int32} : upd (I k) j x = fl_up I k j x k := by
  funext b
  unfold upd fl_up
  by_cases h : b = j <;> simp [h]
theorem fl_w_set {dA : Nat → ClassId} {ad : Nat → Nat} {N : Nat} {I I' : fl_TI} {J J' : fl_TJ} {k : Nat} {e : va_E} (he : fl_c dA ad I' J' k = e) (hI : ∀ a, a ≠ k → I' a = I a) (hJ : ∀ a, a ≠ k → J' a = J a) : (fl_w dA ad N I J).set k (ad k, e) = fl_w dA ad N I' J' := by
  apply List.ext_getElem?
  intro i
  rw [List.getElem?_set]
  unfold fl_w
  by_cases hi : i < N
  · by_cases hk : k = i
    · subst hk
      rw [if_pos rfl, if_pos (by rw [List.length_map, List.length_range]; exact hi), List.getElem?_map, List.getElem?_range hi, ← he]
      rfl
    · rw [if_neg hk, List.getElem?_map, List.getElem?_map, List.getElem?_range hi]
      show some (ad i, fl_c dA ad I J i) = some (ad i, fl_c dA ad I' J' i)
      rw [fl_c_far (hI i (Ne.symm hk)) (hJ i (Ne.symm hk))]
  · have hn : (List.range N)[i]? = none := List.getElem?_eq_none (by rw [List.length_range]; omega)
    by_cases hk : k = i
    · subst hk
      rw [if_pos rfl, if_neg (by rw [List.length_map, List.length_range]; exact hi), List.getElem?_map, hn]
      rfl
    · rw [if_neg hk, List.getElem?_map, List.getElem?_map, hn]
      rfl
abbrev fl_t (dA : Nat → ClassId) : List (ClassId × FieldType) := [(dA 0, .int), (dA 1, .long), (dA 2, .array .int), (dA 3, .array .long)]
/-- what a method may change: the world's cells and what is new -/
def fl_A (ad : Nat → Nat) (N sz : Nat) : Nat → Prop := fun q => (∃ k, k < N ∧ ad k = q) ∨ sz ≤ q
/-- what the tables say, in any state of the run -/
def fl_K (D : va_G) (dA : Nat → ClassId) (U : State) : Prop := va_K D fl_cl (fl_t dA) U ∧ va_Nw (.methodLinkNest RX0 30 yX1_fillWithZero RX1) U
/-- the world stands in the heap H -/
def fl_I (D : va_G) (dA : Nat → ClassId) (ad : Nat → Nat) (N : Nat) (I : fl_TI) (J : fl_TJ) (A : Nat → Prop) (s : State) (H0 H : Heap) (locs : List Loc) : Prop :=
  fl_K D dA s ∧ va_P D fl_cl (fl_w dA ad N I J) H ∧ va_D A (fl_w dA ad N I J) ∧ va_S A H0 H locs ∧ ∀ q, H0.size ≤ q → A q
def fl_B (D : va_G) (dA : Nat → ClassId) (ad : Nat → Nat) (N : Nat) (I : fl_TI) (J : fl_TJ) (A : Nat → Prop) (H : Heap) : Prop :=
  va_P D fl_cl (fl_w dA ad N I J) H ∧ va_D A (fl_w dA ad N I J)
def fl_Q (D : va_G) (dA : Nat → ClassId) (ad : Nat → Nat) (N : Nat) (post : Option Value → fl_TI → fl_TJ → Prop) (A : Nat → Prop) : Array Value → State → Outcome → State → Prop := fun _ st oc t =>
  (∃ (v : Option Value) (I' : fl_TI) (J' : fl_TJ), oc = .returned v ∧ post v I' J' ∧ fl_B D dA ad N I' J' A t.heap) ∧ va_F A st t
abbrev fl_rm (d : Nat) : Room := { frames := d, cells := 0, slots := 0, locals := 40 * d }
abbrev fl_ws (y : MethodName) (cc : ByteArray) (nL : Nat) (ret : Option FieldType) : List Cond := Cond.code y cc nL ret :: fl_tb
abbrev fl_Pc (D : va_G) (dA : Nat → ClassId) (ad : Nat → Nat) (N : Nat) (av : List Value) (I : fl_TI) (J : fl_TJ) (sz : Nat) : Array Value → State → Prop := va_Pc av (fun U => U.heap.size = sz ∧ fl_K D dA U ∧ fl_B D dA ad N I J (fun _ => True) U.heap)
/-- a method's contract over the flat world -/
def FM (y : MethodName) (cc : ByteArray) (nL : Nat) (ret : Option FieldType) (d : Nat) (D : va_G) (dA : Nat → ClassId) (ad : Nat → Nat) (N : Nat) (av : List Value) (I : fl_TI) (J : fl_TJ) (post : Option Value → fl_TI → fl_TJ → Prop) : Prop :=
  ∀ (l : Launch) (sz : Nat), Met l y (fl_ws y cc nL ret) (fl_rm d) (fl_Pc D dA ad N av I J sz) (fl_Q D dA ad N post (fl_A ad N sz)) 0 0 (fl_A ad N sz)
theorem fl_D_A {dA : Nat → ClassId} {ad : Nat → Nat} {N : Nat} {I : fl_TI} {J : fl_TJ} {A : Nat → Prop} (h : va_D A (fl_w dA ad N I J)) (sz : Nat) : va_D (fl_A ad N sz) (fl_w dA ad N I J) := ⟨h.1, fun k q hk => by
  unfold fl_w at hk
  rw [List.getElem?_map] at hk
  by_cases hi : k < N
  · rw [List.getElem?_range hi] at hk
    cases hk
    exact Or.inl ⟨k, hi, rfl⟩
  · rw [List.getElem?_eq_none (by rw [List.length_range]; omega)] at hk
    cases hk⟩
theorem fl_A_in {dA : Nat → ClassId} {ad : Nat → Nat} {N : Nat} {I : fl_TI} {J : fl_TJ} {A : Nat → Prop} {sz : Nat} (h : va_D A (fl_w dA ad N I J)) (hA : ∀ q, sz ≤ q → A q) : ∀ q, fl_A ad N sz q → A q := fun q hq => by
  rcases hq with ⟨k, hk, rfl⟩ | hq
  · exact h.2 k _ (fl_w_at hk)
  · exact hA q hq
/-- the addresses alone decide whether cells are apart -/
theorem fl_D_to {dA : Nat → ClassId} {ad : Nat → Nat} {N : Nat} {I I' : fl_TI} {J J' : fl_TJ} {A : Nat → Prop} (h : va_D A (fl_w dA ad N I J)) : va_D A (fl_w dA ad N I' J') := by
  have hg : ∀ (I I' : fl_TI) (J J' : fl_TJ) (k : Nat) (q : Nat × va_E), (fl_w dA ad N I J)[k]? = some q → (fl_w dA ad N I' J')[k]? = some (q.1, fl_c dA ad I' J' k) := by
    intro I I' J J' k q hk
    unfold fl_w at hk ⊢
    rw [List.getElem?_map] at hk ⊢
    by_cases hi : k < N
    · rw [List.getElem?_range hi] at hk ⊢
      cases hk
      rfl
    · rw [List.getElem?_eq_none (by rw [List.length_range]; omega)] at hk
      cases hk
  refine ⟨fun i j p q hi hj e => ?_, fun k q hk => ?_⟩
  · exact h.1 i j _ _ (hg _ _ _ _ i p hi) (hg _ _ _ _ j q hj) e
  · exact h.2 k (q.1, fl_c dA ad I J k) (hg _ _ _ _ k q hk)
theorem fl_K.warm {D : va_G} {dA : Nat → ClassId} {s U : State} (h : fl_K D dA s) (hW : s.WarmedH U.vm) : fl_K D dA U := ⟨va_K.moved hW.alike h.1, va_Nw.warmM hW h.2⟩
theorem fl_blind {D : va_G} {dA : Nat → ClassId} {ad : Nat → Nat} {N : Nat} {av : List Value} {I : fl_TI} {J : fl_TJ} {sz : Nat} : FrameBlind (fl_Pc D dA ad N av I J sz) := fun a U g mk q => by
  obtain ⟨q0, q1, qK, qB⟩ := q
  exact ⟨q0, q1, ⟨va_K.moved (u := U) (U := U.calling g mk a) (Vm.Alike.refl U.vm) qK.1, va_Nw.same rfl rfl qK.2⟩, qB⟩
end
section
/-! ROWS over the flat world: fields, arrays, calls, entry and end -/
section FLR
variable {p : Program} {l : Launch} {e : Env} {R : Room} {s : State} {m : MethodId} {args : Array Value} {below : List Frame} {meth : Method} {c : Code} {H : Heap} {locs : List Loc} {Q : State → Prop}
variable {cc : ByteArray} {nL pc : Nat} {own : String} {ls : Array Slot} {rest : List Value} {D : va_G} {dA : Nat → ClassId} {ad : Nat → Nat} {N : Nat} {I : fl_TI} {J : fl_TJ} {A : Nat → Prop} {H0 : Heap}
theorem fl_lald (X : CallFix p m c cc nL s args fl_tb own) (hI : fl_I D dA ad N I J A s H0 H locs) (hdg : decode cc pc = .ok (.laload, 1)) {k : Nat} (hk : k < N) (h1 : fl_k k = 1) {i : Int32} (hin : vp_in i (fl_n k))
    (kk : W p l e R s m args below meth c H locs 0 0 Q (F0 m (pc + 1) ls (.long (J k i.toNatClampNeg) :: rest))) : W p l e R s m args below meth c H locs 0 0 Q (F0 m pc ls (.int i :: .ref (ad k) :: rest)) :=
  va_lald (cA := dA 1) (n := fl_n k) X.1 X.2.1 hI.1.1 hI.2.1 k 1 (by rw [fl_w_at hk, fl_c_J h1]) rfl hin hdg kk
theorem fl_iald (X : CallFix p m c cc nL s args fl_tb own) (hI : fl_I D dA ad N I J A s H0 H locs) (hdg : decode cc pc = .ok (.iaload, 1)) {k : Nat} (hk : k < N) (h1 : fl_k k = 0) {i : Int32} (hin : vp_in i (fl_n k))
    (kk : W p l e R s m args below meth c H locs 0 0 Q (F0 m (pc + 1) ls (.int (I k i.toNatClampNeg) :: rest))) : W p l e R s m args below meth c H locs 0 0 Q (F0 m pc ls (.int i :: .ref (ad k) :: rest)) :=
  va_iald (cA := dA 0) (n := fl_n k) X.1 X.2.1 hI.1.1 hI.2.1 k 0 (by rw [fl_w_at hk, fl_c_I h1]) rfl hin hdg kk
theorem fl_last (X : CallFix p m c cc nL s args fl_tb own) (hI : fl_I D dA ad N I J A s H0 H locs) (hdg : decode cc pc = .ok (.lastore, 1)) {k : Nat} (hk : k < N) (h1 : fl_k k = 1) {i : Int32} {x : Int64} (hin : vp_in i (fl_n k))
    (kk : ∀ (H1 : Heap) (locs1 : List Loc), fl_I D dA ad N I (fl_up J k i.toNatClampNeg x) A s H0 H1 locs1 → W p l e R s m args below meth c H1 locs1 0 0 Q (F0 m (pc + 1) ls rest)) : W p l e R s m args below meth c H locs 0 0 Q (F0 m pc ls (.long x :: .int i :: .ref (ad k) :: rest)) := by
  refine va_last (cA := dA 1) (n := fl_n k) X.1 X.2.1 hI.1.1 hI.2.1 hI.2.2.1 hI.2.2.2.1 k 1 (by rw [fl_w_at hk, fl_c_J h1]) rfl hin hdg (fun H1 locs1 hP hD hS => ?_)
  have e := fl_w_set (dA := dA) (ad := ad) (N := N) (I := I) (I' := I) (J := J) (J' := fl_up J k i.toNatClampNeg x) (k := k) (e := .inl (dA 1, fl_n k, .inr (.inl (vp_updL (J k) i.toNatClampNeg x)))) (by rw [fl_c_J h1, fl_up_J]) (fun _ _ => rfl) (fun a h => fl_up_row h)
  rw [e] at hP hD
  exact kk H1 locs1 ⟨hI.1, hP, hD, hS, hI.2.2.2.2⟩
theorem fl_iast (X : CallFix p m c cc nL s args fl_tb own) (hI : fl_I D dA ad N I J A s H0 H locs) (hdg : decode cc pc = .ok (.iastore, 1)) {k : Nat} (hk : k < N) (h1 : fl_k k = 0) {i x : Int32} (hin : vp_in i (fl_n k))
    (kk : ∀ (H1 : Heap) (locs1 : List Loc), fl_I D dA ad N (fl_up I k i.toNatClampNeg x) J A s H0 H1 locs1 → W p l e R s m args below meth c H1 locs1 0 0 Q (F0 m (pc + 1) ls rest)) : W p l e R s m args below meth c H locs 0 0 Q (F0 m pc ls (.int x :: .int i :: .ref (ad k) :: rest)) := by
  refine va_iast (cA := dA 0) (n := fl_n k) X.1 X.2.1 hI.1.1 hI.2.1 hI.2.2.1 hI.2.2.2.1 k 0 (by rw [fl_w_at hk, fl_c_I h1]) rfl hin hdg (fun H1 locs1 hP hD hS => ?_)
  have e := fl_w_set (dA := dA) (ad := ad) (N := N) (I := I) (I' := fl_up I k i.toNatClampNeg x) (J := J) (J' := J) (k := k) (e := .inl (dA 0, fl_n k, .inl (upd (I k) i.toNatClampNeg x))) (by rw [fl_c_I h1, fl_up_I]) (fun a h => fl_up_row h) (fun _ _ => rfl)
  rw [e] at hP hD
  exact kk H1 locs1 ⟨hI.1, hP, hD, hS, hI.2.2.2.2⟩
/-- a row of a grid -/
theorem fl_aald3 (X : CallFix p m c cc nL s args fl_tb own) (hI : fl_I D dA ad N I J A s H0 H locs) (hdg : decode cc pc = .ok (.aaload, 1)) {k : Nat} (hk : k < N) (h1 : fl_k k = 3) {i : Int32} (hin : vp_in i (fl_n k))
    (kk : W p l e R s m args below meth c H locs 0 0 Q (F0 m (pc + 1) ls (.ref (ad (k + 1 + i.toNatClampNeg)) :: rest))) : W p l e R s m args below meth c H locs 0 0 Q (F0 m pc ls (.int i :: .ref (ad k) :: rest)) := by
  have hlt : i.toNatClampNeg < fl_n k := Nat.not_le.mp fun q => hin (Or.inr q)
  have hc := hI.2.1 k _ (fl_w_at (dA := dA) (ad := ad) (I := I) (J := J) hk)
  rw [fl_c_JJ h1] at hc
  exact W.aald (v := .ref (ad (k + 1 + i.toNatClampNeg))) (ty := .array .long) X.1 X.2.1 hc ((hI.1.1.2 3 _ rfl).1 (fl_n k) (fun j => va_rf (if j < fl_n k then some (ad (k + 1 + j)) else none))) rfl (fun q => by cases q) (by show ¬ (i < 0 ∨ (arrV _ _ _).slots.size ≤ _); rw [arrV_size]; exact hin) (by show (arrV _ _ _).slots[_]? = _; rw [arrV_read _ _ hlt]; show some (va_rf (if i.toNatClampNeg < fl_n k then some (ad (k + 1 + i.toNatClampNeg)) else none)) = _; rw [if_pos hlt]; rfl) rfl rfl hdg kk
theorem fl_aald2 (X : CallFix p m c cc nL s args fl_tb own) (hI : fl_I D dA ad N I J A s H0 H locs) (hdg : decode cc pc = .ok (.aaload, 1)) {k : Nat} (hk : k < N) (h1 : fl_k k = 2) {i : Int32} (hin : vp_in i (fl_n k))
    (kk : W p l e R s m args below meth c H locs 0 0 Q (F0 m (pc + 1) ls (.ref (ad (k + 1 + i.toNatClampNeg)) :: rest))) : W p l e R s m args below meth c H locs 0 0 Q (F0 m pc ls (.int i :: .ref (ad k) :: rest)) := by
  have hlt : i.toNatClampNeg < fl_n k := Nat.not_le.mp fun q => hin (Or.inr q)
  have hc := hI.2.1 k _ (fl_w_at (dA := dA) (ad := ad) (I := I) (J := J) hk)
  rw [fl_c_II h1] at hc
  exact W.aald (v := .ref (ad (k + 1 + i.toNatClampNeg))) (ty := .array .int) X.1 X.2.1 hc ((hI.1.1.2 2 _ rfl).1 (fl_n k) (fun j => va_rf (if j < fl_n k then some (ad (k + 1 + j)) else none))) rfl (fun q => by cases q) (by show ¬ (i < 0 ∨ (arrV _ _ _).slots.size ≤ _); rw [arrV_size]; exact hin) (by show (arrV _ _ _).slots[_]? = _; rw [arrV_read _ _ hlt]; show some (va_rf (if i.toNatClampNeg < fl_n k then some (ad (k + 1 + i.toNatClampNeg)) else none)) = _; rw [if_pos hlt]; rfl) rfl rfl hdg kk
/-- arraylength of an array of longs -/
theorem fl_alen1 (X : CallFix p m c cc nL s args fl_tb own) (hI : fl_I D dA ad N I J A s H0 H locs) (hdg : decode cc pc = .ok (.arraylength, 1)) {k : Nat} (hk : k < N) (h1 : fl_k k = 1)
    (kk : W p l e R s m args below meth c H locs 0 0 Q (F0 m (pc + 1) ls (.int (nI (fl_n k)) :: rest))) : W p l e R s m args below meth c H locs 0 0 Q (F0 m pc ls (.ref (ad k) :: rest)) :=
  va_alen (cA := dA 1) (x := (fl_n k, .inr (.inl (J k)))) X.1 X.2.1 hI.1.1 hI.2.1 k 1 (by rw [fl_w_at hk, fl_c_J h1]) rfl rfl hdg kk
/-- a field read -/
theorem fl_get {ci Nf index : Nat} {C : String} {T : u_T} {fs : List Value} (X : CallFix p m c cc nL s args fl_tb own) (hI : fl_I D dA ad N I J A s H0 H locs) (hdg : decode cc pc = .ok (.getfield index, 3)) {k : Nat} (hk : k < N) (he : fl_c dA ad I J k = .inr (ci, fs)) (hc : fl_cl[ci]? = some (C, T, Nf)) (hin : ∀ w ∈ u_ws C T Nf, w ∈ fl_tb) (f : Nat) (hf : f < Nf) (hlink : Cond.fieldLink own index (T f).1 (T f).2.1 (T f).2.2.1 ∈ fl_tb) {v : Value} (hv : fs[f]? = some v)
    (kk : W p l e R s m args below meth c H locs 0 0 Q (F0 m (pc + 3) ls (v :: rest))) : W p l e R s m args below meth c H locs 0 0 Q (F0 m pc ls (.ref (ad k) :: rest)) :=
  va_get (C := C) (T := T) (N := Nf) (ci := ci) X.1 X.2.1 X.2.2.2.2 hin X.2.2.2.1 hI.1.1 hI.2.1 k (by rw [fl_w_at hk, he]) hc f hf (X.2.2.2.2 _ hlink) (fun _ h => h) hv hdg kk
theorem fl_put {ci Nf index : Nat} {C : String} {T : u_T} {fs : List Value} {ty0 : Nat → FieldType} (X : CallFix p m c cc nL s args fl_tb own) (hI : fl_I D dA ad N I J A s H0 H locs) (hdg : decode cc pc = .ok (.putfield index, 3)) {k : Nat} (hk : k < N) (he : fl_c dA ad I J k = .inr (ci, fs)) (hc : fl_cl[ci]? = some (C, T, Nf)) (hin : ∀ w ∈ u_ws C T Nf, w ∈ fl_tb) (hty : ∀ k, k < Nf → parseFieldDescriptor (T k).2.2.1 = some (ty0 k)) (hnm : ∀ a, a < Nf → ∀ b, b < Nf → a ≠ b → (T a).2.1 ≠ (T b).2.1) (f : Nat) (hf : f < Nf) (hlink : Cond.fieldLink own index (T f).1 (T f).2.1 (T f).2.2.1 ∈ fl_tb) (hfin : (T f).2.2.2 = false) (hd : parseFieldDescriptor (T f).2.2.1 = some .int) {x : Int32} (hl : f < fs.length)
    (he2 : fl_c dA ad (fl_up I k f x) J k = .inr (ci, fs.set f (.int x)))
    (kk : ∀ (H1 : Heap) (locs1 : List Loc), fl_I D dA ad N (fl_up I k f x) J A s H0 H1 locs1 → W p l e R s m args below meth c H1 locs1 0 0 Q (F0 m (pc + 3) ls rest)) : W p l e R s m args below meth c H locs 0 0 Q (F0 m pc ls (.int x :: .ref (ad k) :: rest)) := by
  refine va_put (C := C) (T := T) (N := Nf) (ci := ci) (v := .int x) (ty := .int) X.1 X.2.1 X.2.2.2.2 hin ty0 hty hnm X.2.2.2.1 hI.1.1 hI.2.1 hI.2.2.1 hI.2.2.2.1 k (by rw [fl_w_at hk, he]) hc f hf (X.2.2.2.2 _ hlink) (fun _ h => h) hfin hd rfl rfl hl hdg (fun H1 locs1 hP hD hS => ?_)
  have e := fl_w_set (dA := dA) (ad := ad) (N := N) (I := I) (I' := fl_up I k f x) (J := J) (J' := J) (k := k) he2 (fun a h => fl_up_row h) (fun _ _ => rfl)
  rw [e] at hP hD
  exact kk H1 locs1 ⟨hI.1, hP, hD, hS, hI.2.2.2.2⟩
theorem fl_get0 {index : Nat} (X : CallFix p m c cc nL s args fl_tb RX0) (hI : fl_I D dA ad N I J A s H0 H locs) (hdg : decode cc pc = .ok (.getfield index, 3)) {k : Nat} (hk : k < N) (h4 : fl_k k = 4) (f : Nat) (hf : f < 5) (hlink : Cond.fieldLink RX0 index (TX0 f).1 (TX0 f).2.1 (TX0 f).2.2.1 ∈ fl_tb) {v : Value} (hv : ([.ref (ad (k + 1)), .ref (ad (k + 2 + fl_n (k + 1))), .int (I k 2), .int (I k 3), .int (I k 4)] : List Value)[f]? = some v)
    (kk : W p l e R s m args below meth c H locs 0 0 Q (F0 m (pc + 3) ls (v :: rest))) : W p l e R s m args below meth c H locs 0 0 Q (F0 m pc ls (.ref (ad k) :: rest)) :=
  fl_get (ci := 0) (C := RX0) (T := TX0) (Nf := 5) X hI hdg hk (fl_c_4 h4) rfl fl_w0 f hf hlink hv kk
theorem fl_get1 {index : Nat} (X : CallFix p m c cc nL s args fl_tb RX1) (hI : fl_I D dA ad N I J A s H0 H locs) (hdg : decode cc pc = .ok (.getfield index, 3)) (hk : 0 < N) (f : Nat) (hf : f < 11) (hlink : Cond.fieldLink RX1 index (TX1 f).1 (TX1 f).2.1 (TX1 f).2.2.1 ∈ fl_tb) {v : Value} (hv : ([.ref (ad 1), .ref (ad 5), .int (I 0 2), .int (I 0 3), .ref (ad 6), .ref (ad 13), .int (I 0 6), .ref (ad 22), .int (I 0 8), .ref (ad 23), .ref (ad 24)] : List Value)[f]? = some v)
    (kk : W p l e R s m args below meth c H locs 0 0 Q (F0 m (pc + 3) ls (v :: rest))) : W p l e R s m args below meth c H locs 0 0 Q (F0 m pc ls (.ref (ad 0) :: rest)) :=
  fl_get (ci := 1) (C := RX1) (T := TX1) (Nf := 11) X hI hdg hk fl_c_5 rfl fl_w1 f hf hlink hv kk
theorem fl_get2 {index : Nat} (X : CallFix p m c cc nL s args fl_tb RX2) (hI : fl_I D dA ad N I J A s H0 H locs) (hdg : decode cc pc = .ok (.getfield index, 3)) (hk : 30 < N) (f : Nat) (hf : f < 9) (hlink : Cond.fieldLink RX2 index (TX2 f).1 (TX2 f).2.1 (TX2 f).2.2.1 ∈ fl_tb) {v : Value} (hv : ([.int (I 30 0), .int (I 30 1), .ref (ad 31), .ref (ad 32), .ref (ad 33), .int (I 30 5), .ref (ad 34), .ref (ad 35), .ref (ad 36)] : List Value)[f]? = some v)
    (kk : W p l e R s m args below meth c H locs 0 0 Q (F0 m (pc + 3) ls (v :: rest))) : W p l e R s m args below meth c H locs 0 0 Q (F0 m pc ls (.ref (ad 30) :: rest)) :=
  fl_get (ci := 2) (C := RX2) (T := TX2) (Nf := 9) X hI hdg hk fl_c_6 rfl fl_w2 f hf hlink hv kk
theorem fl_put0 {index : Nat} (X : CallFix p m c cc nL s args fl_tb RX0) (hI : fl_I D dA ad N I J A s H0 H locs) (hdg : decode cc pc = .ok (.putfield index, 3)) {k : Nat} (hk : k < N) (h4 : fl_k k = 4) (f : Nat) (hf : f = 2 ∨ f = 3 ∨ f = 4) (hlink : Cond.fieldLink RX0 index (TX0 f).1 (TX0 f).2.1 (TX0 f).2.2.1 ∈ fl_tb) {x : Int32}
    (kk : ∀ (H1 : Heap) (locs1 : List Loc), fl_I D dA ad N (fl_up I k f x) J A s H0 H1 locs1 → W p l e R s m args below meth c H1 locs1 0 0 Q (F0 m (pc + 3) ls rest)) : W p l e R s m args below meth c H locs 0 0 Q (F0 m pc ls (.int x :: .ref (ad k) :: rest)) := by
  refine fl_put (ci := 0) (C := RX0) (T := TX0) (Nf := 5) (ty0 := tyX0) X hI hdg hk (fl_c_4 h4) rfl fl_w0 tyX0_ok nmX0 f (by omega) hlink (by rcases hf with rfl | rfl | rfl <;> rfl) (by rcases hf with rfl | rfl | rfl <;> decide +kernel) (by show f < 5; omega) ?_ kk
  rw [fl_c_4 h4]
  rcases hf with rfl | rfl | rfl <;> simp [fl_up]
theorem fl_put1 {index : Nat} (X : CallFix p m c cc nL s args fl_tb RX1) (hI : fl_I D dA ad N I J A s H0 H locs) (hdg : decode cc pc = .ok (.putfield index, 3)) (hk : 0 < N) (f : Nat) (hf : f = 2 ∨ f = 3 ∨ f = 6 ∨ f = 8) (hlink : Cond.fieldLink RX1 index (TX1 f).1 (TX1 f).2.1 (TX1 f).2.2.1 ∈ fl_tb) {x : Int32}
    (kk : ∀ (H1 : Heap) (locs1 : List Loc), fl_I D dA ad N (fl_up I 0 f x) J A s H0 H1 locs1 → W p l e R s m args below meth c H1 locs1 0 0 Q (F0 m (pc + 3) ls rest)) : W p l e R s m args below meth c H locs 0 0 Q (F0 m pc ls (.int x :: .ref (ad 0) :: rest)) := by
  refine fl_put (ci := 1) (C := RX1) (T := TX1) (Nf := 11) (ty0 := tyX1) X hI hdg hk fl_c_5 rfl fl_w1 tyX1_ok nmX1 f (by omega) hlink (by rcases hf with rfl | rfl | rfl | rfl <;> rfl) (by rcases hf with rfl | rfl | rfl | rfl <;> decide +kernel) (by show f < 11; omega) ?_ kk
  rw [fl_c_5]
  rcases hf with rfl | rfl | rfl | rfl <;> simp [fl_up]
theorem fl_put2 {index : Nat} (X : CallFix p m c cc nL s args fl_tb RX2) (hI : fl_I D dA ad N I J A s H0 H locs) (hdg : decode cc pc = .ok (.putfield index, 3)) (hk : 30 < N) (f : Nat) (hf : f = 0 ∨ f = 1 ∨ f = 5) (hlink : Cond.fieldLink RX2 index (TX2 f).1 (TX2 f).2.1 (TX2 f).2.2.1 ∈ fl_tb) {x : Int32}
    (kk : ∀ (H1 : Heap) (locs1 : List Loc), fl_I D dA ad N (fl_up I 30 f x) J A s H0 H1 locs1 → W p l e R s m args below meth c H1 locs1 0 0 Q (F0 m (pc + 3) ls rest)) : W p l e R s m args below meth c H locs 0 0 Q (F0 m pc ls (.int x :: .ref (ad 30) :: rest)) := by
  refine fl_put (ci := 2) (C := RX2) (T := TX2) (Nf := 9) (ty0 := tyX2) X hI hdg hk fl_c_6 rfl fl_w2 tyX2_ok nmX2 f (by omega) hlink (by rcases hf with rfl | rfl | rfl <;> rfl) (by rcases hf with rfl | rfl | rfl <;> decide +kernel) (by show f < 9; omega) ?_ kk
  rw [fl_c_6]
  rcases hf with rfl | rfl | rfl <;> simp [fl_up]
/-- behind a call -/
theorem fl_run {post : Option Value → fl_TI → fl_TJ → Prop} {a : Array Value} {st0 : List Value} (hr : va_Run p l e R s m args below meth c H locs 0 0 0 0 (F0 m pc ls st0) rest (fl_Q D dA ad N post (fl_A ad N H.size) a) (fl_A ad N H.size)) (hI : fl_I D dA ad N I J A s H0 H locs)
    (kk : ∀ (v : Option Value) (I' : fl_TI) (J' : fl_TJ) (H1 : Heap) (locs1 : List Loc), post v I' J' → fl_I D dA ad N I' J' A s H0 H1 locs1 → W p l e R s m args below meth c H1 locs1 0 0 Q (F0 m (pc + 3) ls (v.toList ++ rest))) : W p l e R s m args below meth c H locs 0 0 Q (F0 m pc ls st0) := by
  intro T hT X
  obtain ⟨v0, st₀, t, T', L, h0, X', hL, e1, e2, ⟨⟨v, I', J', hv, hp, hP1, hD1⟩, hz, hk⟩, st⟩ := hr T hT X
  cases hv
  rw [h0] at hz hk
  obtain ⟨hK, hP, hD, hS, hA⟩ := hI
  have hin := fl_A_in (sz := H.size) hD (fun q h => hA q (Nat.le_trans hS.1 h))
  obtain ⟨t2, a1, b1⟩ := kk v0 I' J' T'.heap (locs ++ L) hp ⟨hK, by rw [e1]; exact hP1, fl_D_to hD, ⟨Nat.le_trans hS.1 (by rw [e1]; exact hz), fun q h1 h2 => by rw [e1, hk q (Nat.lt_of_lt_of_le h1 hS.1) (fun z => h2 (hin q z))]; exact hS.2.1 q h1 h2, fun q hq => by
      rcases List.mem_append.mp hq with h | h
      · exact hS.2.2 q h
      · exact hin _ (hL q h)⟩, hA⟩ T' rfl X'
  exact ⟨t2, st t2 a1, b1⟩
theorem fl_ws_in {y : MethodName} {bytes : ByteArray} {maxL : Nat} {ret : Option FieldType} (h : Cond.code y bytes maxL ret ∈ fl_tb) : ∀ w ∈ fl_ws y bytes maxL ret, w ∈ fl_tb := fun w hw => by
  rcases List.mem_cons.mp hw with rfl | h2
  · exact h
  · exact h2
/-- invokestatic -/
theorem fl_callS {y : MethodName} {bytes : ByteArray} {maxL index n d : Nat} {ret : Option FieldType} {As : List Value} {post : Option Value → fl_TI → fl_TJ → Prop} (X : CallFix p m c cc nL s args fl_tb own) (hI : fl_I D dA ad N I J A s H0 H locs) (hdg : decode cc pc = .ok (.invokestatic index, 3)) (hM : FM y bytes maxL ret d D dA ad N As I J post)
    (wc : Cond.code y bytes maxL ret ∈ fl_tb) (wm : Cond.methodLink own index y ∈ fl_tb) (ws : Cond.static y ∈ fl_tb) (wn : Cond.initialized y.cls ∈ fl_tb) (hd : y.cls ≠ "java/lang/invoke/MethodHandle" ∧ y.cls ≠ "java/lang/invoke/VarHandle" ∧ (parseMethodDescriptor y.desc).map (fun d => d.parameters.length) = some n) (hn : As.length = n) (hR : d + 1 ≤ R.frames ∧ 8 + (maxL + 11) + 40 * d ≤ R.locals) (hl : ls.size = nL) (hst : (rest.map fun v => v.category).sum ≤ 8)
    (kk : ∀ (v : Option Value) (I' : fl_TI) (J' : fl_TJ) (H1 : Heap) (locs1 : List Loc), post v I' J' → fl_I D dA ad N I' J' A s H0 H1 locs1 → W p l e R s m args below meth c H1 locs1 0 0 Q (F0 m (pc + 3) ls (v.toList ++ rest))) : W p l e R s m args below meth c H locs 0 0 Q (F0 m pc ls (As.reverse ++ rest)) := by
  refine fl_run (post := post) (va_runS (n := n) (As := As) (rest := rest) X (hM l H.size) ⟨callB_of n X.2.2.2.2 (fl_goodIn (fl_ws_in wc) (fun _ h => h)) rfl rfl rfl (X.2.2.2.2 _ wn) (X.2.2.2.2 _ wm) hd hR, X.2.2.2.2 _ ws⟩ ⟨fl_blind, fun U hU hW => ⟨rfl, by rw [hU], hI.1.warm hW, by rw [hU]; exact ⟨hI.2.1, hI.2.2.1.weaken (fun _ _ _ _ => trivial)⟩⟩⟩ rfl hn hl rfl (lv_room hst) hdg ⟨Nat.zero_le _, Nat.zero_le _⟩) hI kk
/-- invokevirtual of a cell of the world -/
theorem fl_callV {y : MethodName} {bytes : ByteArray} {maxL index n d k ci : Nat} {fs : List Value} {rc : vw_C} {ret : Option FieldType} {As : List Value} {post : Option Value → fl_TI → fl_TJ → Prop} (X : CallFix p m c cc nL s args fl_tb own) (hI : fl_I D dA ad N I J A s H0 H locs) (hdg : decode cc pc = .ok (.invokevirtual index, 3)) (hM : FM y bytes maxL ret d D dA ad N (.ref (ad k) :: As) I J post)
    (hk : k < N) (he : fl_c dA ad I J k = .inr (ci, fs)) (hc : fl_cl[ci]? = some rc) (hcl : y.cls = rc.1) (wc : Cond.code y bytes maxL ret ∈ fl_tb) (wm : Cond.methodLink own index y ∈ fl_tb) (wi : Cond.instanceMethod y ∈ fl_tb) (wl : Cond.selects rc.1 y y ∈ fl_tb) (wn : Cond.initialized y.cls ∈ fl_tb) (hd : y.cls ≠ "java/lang/invoke/MethodHandle" ∧ y.cls ≠ "java/lang/invoke/VarHandle" ∧ (parseMethodDescriptor y.desc).map (fun d => d.parameters.length) = some n) (hn : As.length = n) (hR : d + 1 ≤ R.frames ∧ 8 + (maxL + 11) + 40 * d ≤ R.locals) (hl : ls.size = nL) (hst : (rest.map fun v => v.category).sum ≤ 8)
    (kk : ∀ (v : Option Value) (I' : fl_TI) (J' : fl_TJ) (H1 : Heap) (locs1 : List Loc), post v I' J' → fl_I D dA ad N I' J' A s H0 H1 locs1 → W p l e R s m args below meth c H1 locs1 0 0 Q (F0 m (pc + 3) ls (v.toList ++ rest))) : W p l e R s m args below meth c H locs 0 0 Q (F0 m pc ls (As.reverse ++ .ref (ad k) :: rest)) := by
  refine fl_run (post := post) (va_runV (C := rc.1) (b := ad k) (n := n) (As := As) (rest := rest) X (hM l H.size) ⟨callB_of n X.2.2.2.2 (fl_goodIn (fl_ws_in wc) (fun _ h => h)) rfl rfl rfl (X.2.2.2.2 _ wn) (X.2.2.2.2 _ wm) hd hR, X.2.2.2.2 _ wi, X.2.2.2.2 _ wl⟩ ⟨fl_blind, va_recv (q0 := k) hI.1.1 hI.2.1 hc (by rw [fl_w_at hk, he]), fun U hU hW => ⟨rfl, by rw [hU], hI.1.warm hW, by rw [hU]; exact ⟨hI.2.1, hI.2.2.1.weaken (fun _ _ _ _ => trivial)⟩⟩⟩ rfl hn hl rfl (lv_room hst) hdg ⟨Nat.zero_le _, Nat.zero_le _⟩) hI kk
end FLR
/-- a contract out of a walk -/
theorem FM.ofW {y : MethodName} {cc : ByteArray} {nL d N : Nat} {ret : Option FieldType} {D : va_G} {dA : Nat → ClassId} {ad : Nat → Nat} {av : List Value} {I : fl_TI} {J : fl_TJ} {post : Option Value → fl_TI → fl_TJ → Prop} (own : String) (hown : y.cls = own) (hy : plainFor y = true) (hav : (lg_sl av).length ≤ nL)
    (body : ∀ (p : Program) (l : Launch) (e : Env) (s : State) (m : MethodId) (args : Array Value) (below : List Frame) (meth : Method) (c : Code) (ls : Array Slot), CallFix p m c cc nL s args fl_tb own → meth.sig.returnType = ret → meth.locks = false → fl_I D dA ad N I J (fl_A ad N s.heap.size) s s.heap s.heap [] → lv_has ls nL (lv_args 0 av) →
      W p l e (fl_rm d) s m args below meth c s.heap [] 0 0 (MQ below (fl_Q D dA ad N post (fl_A ad N s.heap.size)) args s 0 0 (fl_A ad N s.heap.size)) (F0 m 0 ls [])) : FM y cc nL ret d D dA ad N av I J post := by
  intro l sz
  refine va_MetF (cc := cc) (maxL := nL) (ret := ret) hy rfl ?_
  intro p e s m args below meth c s₁ B hml hv
  obtain ⟨rfl, hsz, hK, hP, hD0⟩ := hv
  have hts := atoms_spec (ws := fl_ws y cc nL ret) B.pre
  have hown2 : s.vm.findClass y.cls = some m.cls := findClass_of_methodNamed B.named
  subst hsz
  have hl := lv_entry av (n := nL) hav
  rw [lg_entry_eq]
  exact body p l e s m _ below meth c _ ⟨B.exec, B.bytes, hml, by rw [← hown]; exact hown2, fun w hw => hts w (List.mem_cons_of_mem _ hw)⟩ B.returns B.notSynchronized ⟨hK, hP, fl_D_A hD0 _, va_S.rf, fun q h => Or.inr h⟩ hl
section FLE
variable {p : Program} {l : Launch} {e : Env} {R : Room} {s : State} {m : MethodId} {args : Array Value} {below : List Frame} {meth : Method} {c : Code} {H : Heap} {locs : List Loc}
variable {cc : ByteArray} {nL pc : Nat} {own : String} {ls : Array Slot} {D : va_G} {dA : Nat → ClassId} {ad : Nat → Nat} {N : Nat} {I : fl_TI} {J : fl_TJ} {A : Nat → Prop} {post : Option Value → fl_TI → fl_TJ → Prop}
theorem fl_iret {v : Int32} (X : CallFix p m c cc nL s args fl_tb own) (hr : meth.sig.returnType = some .int) (hlk : meth.locks = false) (hI : fl_I D dA ad N I J A s s.heap H locs) (hdg : decode cc pc = .ok (.ireturn, 1)) (hp : post (some (.int v)) I J) : W p l e R s m args below meth c H locs 0 0 (MQ below (fl_Q D dA ad N post A) args s 0 0 A) (F0 m pc ls [.int v]) :=
  W.iret X.1 X.2.1 hr (fun t ht hW => ⟨⟨_, I, J, rfl, hp, by rw [ht]; exact hI.2.1, hI.2.2.1⟩, hI.2.2.2.1.F ht⟩) hI.2.2.2.1.2.2 hdg hlk
theorem fl_zret {v : Int32} (X : CallFix p m c cc nL s args fl_tb own) (hr : meth.sig.returnType = some .boolean) (hlk : meth.locks = false) (hI : fl_I D dA ad N I J A s s.heap H locs) (hdg : decode cc pc = .ok (.ireturn, 1)) (hn : narrow .boolean (.int v) = .int v) (hp : post (some (.int v)) I J) : W p l e R s m args below meth c H locs 0 0 (MQ below (fl_Q D dA ad N post A) args s 0 0 A) (F0 m pc ls [.int v]) :=
  W.zret X.1 X.2.1 hr hn (fun t ht hW => ⟨⟨_, I, J, rfl, hp, by rw [ht]; exact hI.2.1, hI.2.2.1⟩, hI.2.2.2.1.F ht⟩) hI.2.2.2.1.2.2 hdg hlk
theorem fl_lret {v : Int64} (X : CallFix p m c cc nL s args fl_tb own) (hr : meth.sig.returnType = some .long) (hlk : meth.locks = false) (hI : fl_I D dA ad N I J A s s.heap H locs) (hdg : decode cc pc = .ok (.lreturn, 1)) (hp : post (some (.long v)) I J) : W p l e R s m args below meth c H locs 0 0 (MQ below (fl_Q D dA ad N post A) args s 0 0 A) (F0 m pc ls [.long v]) :=
  W.lret X.1 X.2.1 hr (fun t ht hW => ⟨⟨_, I, J, rfl, hp, by rw [ht]; exact hI.2.1, hI.2.2.1⟩, hI.2.2.2.1.F ht⟩) hI.2.2.2.1.2.2 hdg hlk
theorem fl_vret (X : CallFix p m c cc nL s args fl_tb own) (hr : meth.sig.returnType = none) (hlk : meth.locks = false) (hI : fl_I D dA ad N I J A s s.heap H locs) (hdg : decode cc pc = .ok (.return_, 1)) (hp : post none I J) : W p l e R s m args below meth c H locs 0 0 (MQ below (fl_Q D dA ad N post A) args s 0 0 A) (F0 m pc ls []) :=
  W.vret X.1 X.2.1 hr (fun t ht hW => ⟨⟨_, I, J, rfl, hp, by rw [ht]; exact hI.2.1, hI.2.2.1⟩, hI.2.2.2.1.F ht⟩) hI.2.2.2.1.2.2 hdg hlk
theorem fl_aret {v : Value} {rt : FieldType} (X : CallFix p m c cc nL s args fl_tb own) (hr : meth.sig.returnType = some rt) (hlk : meth.locks = false) (hI : fl_I D dA ad N I J A s s.heap H locs) (hdg : decode cc pc = .ok (.areturn, 1)) (hrt : rt = .array .long) {k : Nat} (hv : v = .ref k) (hp : post (some v) I J) : W p l e R s m args below meth c H locs 0 0 (MQ below (fl_Q D dA ad N post A) args s 0 0 A) (F0 m pc ls [v]) := by
  subst hv
  subst hrt
  exact W.aret X.1 X.2.1 hr (Or.inr ⟨_, rfl⟩) (Or.inr ⟨_, rfl⟩) (fun t ht hW => ⟨⟨_, I, J, rfl, hp, by rw [ht]; exact hI.2.1, hI.2.2.1⟩, hI.2.2.2.1.F ht⟩) hI.2.2.2.1.2.2 hdg hlk
end FLE
end
section
/-! rows over indices and counters that are natural numbers (nI) -/
theorem fl_n_le : ∀ k, fl_n k ≤ 64 := by
  intro k
  by_cases h : k < 37
  · have : ∀ k, k < 37 → fl_n k ≤ 64 := by decide +kernel
    exact this k h
  · unfold fl_n
    rw [List.getD_eq_getElem?_getD, List.getElem?_eq_none (by simp; omega)]
    simp
theorem fl_n_lt {i k : Nat} (h : i < fl_n k) : i < 2 ^ 31 := by have := fl_n_le k; omega
section FLN
variable {p : Program} {l : Launch} {e : Env} {R : Room} {s : State} {m : MethodId} {args : Array Value} {below : List Frame} {meth : Method} {c : Code} {H : Heap} {locs : List Loc} {cells slots : Nat} {Q : State → Prop}
variable {cc : ByteArray} {nL pc : Nat} {own : String} {ls : Array Slot} {rest : List Value} {D : va_G} {dA : Nat → ClassId} {ad : Nat → Nat} {N : Nat} {I : fl_TI} {J : fl_TJ} {A : Nat → Prop} {H0 : Heap}
theorem fn_lald (X : CallFix p m c cc nL s args fl_tb own) (hI : fl_I D dA ad N I J A s H0 H locs) (hdg : decode cc pc = .ok (.laload, 1)) {k i : Nat} (hk : k < N) (h1 : fl_k k = 1) (hi : i < fl_n k)
    (kk : W p l e R s m args below meth c H locs 0 0 Q (F0 m (pc + 1) ls (.long (J k i) :: rest))) : W p l e R s m args below meth c H locs 0 0 Q (F0 m pc ls (.int (nI i) :: .ref (ad k) :: rest)) :=
  fl_lald X hI hdg hk h1 (vp_in_nI hi (by have := fl_n_le k; omega)) (by rw [nI_clamp (fl_n_lt hi)]; exact kk)
theorem fn_iald (X : CallFix p m c cc nL s args fl_tb own) (hI : fl_I D dA ad N I J A s H0 H locs) (hdg : decode cc pc = .ok (.iaload, 1)) {k i : Nat} (hk : k < N) (h1 : fl_k k = 0) (hi : i < fl_n k)
    (kk : W p l e R s m args below meth c H locs 0 0 Q (F0 m (pc + 1) ls (.int (I k i) :: rest))) : W p l e R s m args below meth c H locs 0 0 Q (F0 m pc ls (.int (nI i) :: .ref (ad k) :: rest)) :=
  fl_iald X hI hdg hk h1 (vp_in_nI hi (by have := fl_n_le k; omega)) (by rw [nI_clamp (fl_n_lt hi)]; exact kk)
theorem fn_last (X : CallFix p m c cc nL s args fl_tb own) (hI : fl_I D dA ad N I J A s H0 H locs) (hdg : decode cc pc = .ok (.lastore, 1)) {k i : Nat} {x : Int64} (hk : k < N) (h1 : fl_k k = 1) (hi : i < fl_n k)
    (kk : ∀ (H1 : Heap) (locs1 : List Loc), fl_I D dA ad N I (fl_up J k i x) A s H0 H1 locs1 → W p l e R s m args below meth c H1 locs1 0 0 Q (F0 m (pc + 1) ls rest)) : W p l e R s m args below meth c H locs 0 0 Q (F0 m pc ls (.long x :: .int (nI i) :: .ref (ad k) :: rest)) :=
  fl_last X hI hdg hk h1 (vp_in_nI hi (by have := fl_n_le k; omega)) (by rw [nI_clamp (fl_n_lt hi)]; exact kk)
theorem fn_iast (X : CallFix p m c cc nL s args fl_tb own) (hI : fl_I D dA ad N I J A s H0 H locs) (hdg : decode cc pc = .ok (.iastore, 1)) {k i : Nat} {x : Int32} (hk : k < N) (h1 : fl_k k = 0) (hi : i < fl_n k)
    (kk : ∀ (H1 : Heap) (locs1 : List Loc), fl_I D dA ad N (fl_up I k i x) J A s H0 H1 locs1 → W p l e R s m args below meth c H1 locs1 0 0 Q (F0 m (pc + 1) ls rest)) : W p l e R s m args below meth c H locs 0 0 Q (F0 m pc ls (.int x :: .int (nI i) :: .ref (ad k) :: rest)) :=
  fl_iast X hI hdg hk h1 (vp_in_nI hi (by have := fl_n_le k; omega)) (by rw [nI_clamp (fl_n_lt hi)]; exact kk)
theorem fn_aald3 (X : CallFix p m c cc nL s args fl_tb own) (hI : fl_I D dA ad N I J A s H0 H locs) (hdg : decode cc pc = .ok (.aaload, 1)) {k i : Nat} (hk : k < N) (h1 : fl_k k = 3) (hi : i < fl_n k)
    (kk : W p l e R s m args below meth c H locs 0 0 Q (F0 m (pc + 1) ls (.ref (ad (k + 1 + i)) :: rest))) : W p l e R s m args below meth c H locs 0 0 Q (F0 m pc ls (.int (nI i) :: .ref (ad k) :: rest)) :=
  fl_aald3 X hI hdg hk h1 (vp_in_nI hi (by have := fl_n_le k; omega)) (by rw [nI_clamp (fl_n_lt hi)]; exact kk)
theorem fn_aald2 (X : CallFix p m c cc nL s args fl_tb own) (hI : fl_I D dA ad N I J A s H0 H locs) (hdg : decode cc pc = .ok (.aaload, 1)) {k i : Nat} (hk : k < N) (h1 : fl_k k = 2) (hi : i < fl_n k)
    (kk : W p l e R s m args below meth c H locs 0 0 Q (F0 m (pc + 1) ls (.ref (ad (k + 1 + i)) :: rest))) : W p l e R s m args below meth c H locs 0 0 Q (F0 m pc ls (.int (nI i) :: .ref (ad k) :: rest)) :=
  fl_aald2 X hI hdg hk h1 (vp_in_nI hi (by have := fl_n_le k; omega)) (by rw [nI_clamp (fl_n_lt hi)]; exact kk)
theorem fn_iadd (X : CallFix p m c cc nL s args fl_tb own) {a b : Nat} (hdg : decode cc pc = .ok (.iadd, 1)) (kk : W p l e R s m args below meth c H locs cells slots Q (F0 m (pc + 1) ls (.int (nI (a + b)) :: rest))) : W p l e R s m args below meth c H locs cells slots Q (F0 m pc ls (.int (nI b) :: .int (nI a) :: rest)) := lv_iadd X.1 X.2.1 hdg (by rw [nI_add]; exact kk)
theorem fn_isub (X : CallFix p m c cc nL s args fl_tb own) {a b : Nat} (hdg : decode cc pc = .ok (.isub, 1)) (h : b ≤ a) (kk : W p l e R s m args below meth c H locs cells slots Q (F0 m (pc + 1) ls (.int (nI (a - b)) :: rest))) : W p l e R s m args below meth c H locs cells slots Q (F0 m pc ls (.int (nI b) :: .int (nI a) :: rest)) := lv_isub X.1 X.2.1 hdg (by rw [pk_sub h]; exact kk)
theorem fn_imul (X : CallFix p m c cc nL s args fl_tb own) {a b : Nat} (hdg : decode cc pc = .ok (.imul, 1)) (kk : W p l e R s m args below meth c H locs cells slots Q (F0 m (pc + 1) ls (.int (nI (a * b)) :: rest))) : W p l e R s m args below meth c H locs cells slots Q (F0 m pc ls (.int (nI b) :: .int (nI a) :: rest)) := lv_imul X.1 X.2.1 hdg (by rw [pk_mul]; exact kk)
theorem fn_icmp_ge (X : CallFix p m c cc nL s args fl_tb own) {a b : Nat} {off : Int} {tgt : Nat} (hdg : decode cc pc = .ok (.if_icmp .ge off, 3)) (ht : (pc : Int) + off = (tgt : Int)) (ha : a < 2 ^ 31) (hb : b < 2 ^ 31) (kt : b ≤ a → W p l e R s m args below meth c H locs cells slots Q (F0 m tgt ls rest)) (kf : a < b → W p l e R s m args below meth c H locs cells slots Q (F0 m (pc + 3) ls rest)) : W p l e R s m args below meth c H locs cells slots Q (F0 m pc ls (.int (nI b) :: .int (nI a) :: rest)) :=
  lv_icmp_ge X.1 X.2.1 hdg ht (fun h => kt ((nI_leI hb ha).mp h)) (fun h => kf (Nat.lt_of_not_le fun q => h ((nI_leI hb ha).mpr q)))
theorem fn_icmp_lt (X : CallFix p m c cc nL s args fl_tb own) {a b : Nat} {off : Int} {tgt : Nat} (hdg : decode cc pc = .ok (.if_icmp .lt off, 3)) (ht : (pc : Int) + off = (tgt : Int)) (ha : a < 2 ^ 31) (hb : b < 2 ^ 31) (kt : a < b → W p l e R s m args below meth c H locs cells slots Q (F0 m tgt ls rest)) (kf : b ≤ a → W p l e R s m args below meth c H locs cells slots Q (F0 m (pc + 3) ls rest)) : W p l e R s m args below meth c H locs cells slots Q (F0 m pc ls (.int (nI b) :: .int (nI a) :: rest)) :=
  lv_icmp_lt X.1 X.2.1 hdg ht (fun h => kt ((nI_ltI ha hb).mp h)) (fun h => kf (Nat.le_of_not_lt fun q => h ((nI_ltI ha hb).mpr q)))
theorem fn_icmp_gt (X : CallFix p m c cc nL s args fl_tb own) {a b : Nat} {off : Int} {tgt : Nat} (hdg : decode cc pc = .ok (.if_icmp .gt off, 3)) (ht : (pc : Int) + off = (tgt : Int)) (ha : a < 2 ^ 31) (hb : b < 2 ^ 31) (kt : b < a → W p l e R s m args below meth c H locs cells slots Q (F0 m tgt ls rest)) (kf : a ≤ b → W p l e R s m args below meth c H locs cells slots Q (F0 m (pc + 3) ls rest)) : W p l e R s m args below meth c H locs cells slots Q (F0 m pc ls (.int (nI b) :: .int (nI a) :: rest)) :=
  lv_icmp_gt X.1 X.2.1 hdg ht (fun h => kt ((nI_ltI hb ha).mp h)) (fun h => kf (Nat.le_of_not_lt fun q => h ((nI_ltI hb ha).mpr q)))
theorem fn_icmp_le (X : CallFix p m c cc nL s args fl_tb own) {a b : Nat} {off : Int} {tgt : Nat} (hdg : decode cc pc = .ok (.if_icmp .le off, 3)) (ht : (pc : Int) + off = (tgt : Int)) (ha : a < 2 ^ 31) (hb : b < 2 ^ 31) (kt : a ≤ b → W p l e R s m args below meth c H locs cells slots Q (F0 m tgt ls rest)) (kf : b < a → W p l e R s m args below meth c H locs cells slots Q (F0 m (pc + 3) ls rest)) : W p l e R s m args below meth c H locs cells slots Q (F0 m pc ls (.int (nI b) :: .int (nI a) :: rest)) :=
  lv_icmp_le X.1 X.2.1 hdg ht (fun h => kt ((nI_leI ha hb).mp h)) (fun h => kf (Nat.lt_of_not_le fun q => h ((nI_leI ha hb).mpr q)))
theorem fn_icmp_eq (X : CallFix p m c cc nL s args fl_tb own) {a b : Nat} {off : Int} {tgt : Nat} (hdg : decode cc pc = .ok (.if_icmp .eq off, 3)) (ht : (pc : Int) + off = (tgt : Int)) (ha : a < 2 ^ 31) (hb : b < 2 ^ 31) (kt : a = b → W p l e R s m args below meth c H locs cells slots Q (F0 m tgt ls rest)) (kf : a ≠ b → W p l e R s m args below meth c H locs cells slots Q (F0 m (pc + 3) ls rest)) : W p l e R s m args below meth c H locs cells slots Q (F0 m pc ls (.int (nI b) :: .int (nI a) :: rest)) :=
  lv_icmp_eq X.1 X.2.1 hdg ht (fun h => kt ((nI_eq ha hb).mp h)) (fun h => kf (fun q => h ((nI_eq ha hb).mpr q)))
theorem fn_icmp_ne (X : CallFix p m c cc nL s args fl_tb own) {a b : Nat} {off : Int} {tgt : Nat} (hdg : decode cc pc = .ok (.if_icmp .ne off, 3)) (ht : (pc : Int) + off = (tgt : Int)) (ha : a < 2 ^ 31) (hb : b < 2 ^ 31) (kt : a ≠ b → W p l e R s m args below meth c H locs cells slots Q (F0 m tgt ls rest)) (kf : a = b → W p l e R s m args below meth c H locs cells slots Q (F0 m (pc + 3) ls rest)) : W p l e R s m args below meth c H locs cells slots Q (F0 m pc ls (.int (nI b) :: .int (nI a) :: rest)) :=
  lv_icmp_ne X.1 X.2.1 hdg ht (fun h => kt (fun q => h ((nI_eq ha hb).mpr q))) (fun h => kf ((nI_eq ha hb).mp h))
theorem fn_if_ne (X : CallFix p m c cc nL s args fl_tb own) {a : Nat} {off : Int} {tgt : Nat} (hdg : decode cc pc = .ok (.ifCond .ne off, 3)) (ht : (pc : Int) + off = (tgt : Int)) (ha : a < 2 ^ 31) (kt : 0 < a → W p l e R s m args below meth c H locs cells slots Q (F0 m tgt ls rest)) (kf : a = 0 → W p l e R s m args below meth c H locs cells slots Q (F0 m (pc + 3) ls rest)) : W p l e R s m args below meth c H locs cells slots Q (F0 m pc ls (.int (nI a) :: rest)) :=
  lv_if_ne X.1 X.2.1 hdg ht (fun h => kt (Nat.pos_of_ne_zero fun q => h (by rw [q]; rfl))) (fun h => kf ((nI_eq ha (by decide : (0 : Nat) < 2 ^ 31)).mp h))
theorem fn_if_eq (X : CallFix p m c cc nL s args fl_tb own) {a : Nat} {off : Int} {tgt : Nat} (hdg : decode cc pc = .ok (.ifCond .eq off, 3)) (ht : (pc : Int) + off = (tgt : Int)) (ha : a < 2 ^ 31) (kt : a = 0 → W p l e R s m args below meth c H locs cells slots Q (F0 m tgt ls rest)) (kf : 0 < a → W p l e R s m args below meth c H locs cells slots Q (F0 m (pc + 3) ls rest)) : W p l e R s m args below meth c H locs cells slots Q (F0 m pc ls (.int (nI a) :: rest)) :=
  lv_if_eq X.1 X.2.1 hdg ht (fun h => kt ((nI_eq ha (by decide : (0 : Nat) < 2 ^ 31)).mp h)) (fun h => kf (Nat.pos_of_ne_zero fun q => h (by rw [q]; rfl)))
theorem fn_iinc (X : CallFix p m c cc nL s args fl_tb own) {i k a : Nat} {lv lv' : List (Nat × Value)} (hdg : decode cc pc = .ok (.iinc i 1, 3)) (h : lv_has ls nL lv) (hk : lv[k]? = some (i, .int (nI a))) (hn : i < nL) (hl : (i, Value.int (nI (a + 1))) :: lv.filter (fun q => !(q.1 == i) && !(q.1 + 1 == i && q.2.category == 2)) = lv')
    (kk : ∀ ls' : Array Slot, lv_has ls' nL lv' → W p l e R s m args below meth c H locs cells slots Q (F0 m (pc + 3) ls' rest)) : W p l e R s m args below meth c H locs cells slots Q (F0 m pc ls rest) :=
  lv_iinc (v := nI (a + 1)) X.1 X.2.1 hdg h hk (by rw [nI_succ]; rfl) hn hl kk
end FLN
/-- a lattice of the world: its number, how many rows, how many places a row has -/
def fl_lat (o nr mw : Nat) : Prop := (o = 6 ∧ nr = 4 ∧ mw = 7) ∨ (o = 13 ∧ nr = 6 ∧ mw = 3)
theorem lat_k {o nr mw : Nat} (h : fl_lat o nr mw) : fl_k o = 4 := by rcases h with ⟨rfl, rfl, rfl⟩ | ⟨rfl, rfl, rfl⟩ <;> rfl
theorem lat_k1 {o nr mw : Nat} (h : fl_lat o nr mw) : fl_k (o + 1) = 3 := by rcases h with ⟨rfl, rfl, rfl⟩ | ⟨rfl, rfl, rfl⟩ <;> rfl
theorem lat_n1 {o nr mw : Nat} (h : fl_lat o nr mw) : fl_n (o + 1) = nr := by rcases h with ⟨rfl, rfl, rfl⟩ | ⟨rfl, rfl, rfl⟩ <;> rfl
theorem lat_k2 {o nr mw i : Nat} (h : fl_lat o nr mw) (hi : i < nr) : fl_k (o + 2 + i) = 1 := by
  rcases h with ⟨rfl, rfl, rfl⟩ | ⟨rfl, rfl, rfl⟩
  · have : ∀ i, i < 4 → fl_k (6 + 2 + i) = 1 := by decide +kernel
    exact this i hi
  · have : ∀ i, i < 6 → fl_k (13 + 2 + i) = 1 := by decide +kernel
    exact this i hi
theorem lat_n2 {o nr mw i : Nat} (h : fl_lat o nr mw) (hi : i < nr) : fl_n (o + 2 + i) = mw := by
  rcases h with ⟨rfl, rfl, rfl⟩ | ⟨rfl, rfl, rfl⟩
  · have : ∀ i, i < 4 → fl_n (6 + 2 + i) = 7 := by decide +kernel
    exact this i hi
  · have : ∀ i, i < 6 → fl_n (13 + 2 + i) = 3 := by decide +kernel
    exact this i hi
theorem lat_kl {o nr mw : Nat} (h : fl_lat o nr mw) : fl_k (o + 2 + nr) = 0 := by rcases h with ⟨rfl, rfl, rfl⟩ | ⟨rfl, rfl, rfl⟩ <;> rfl
theorem lat_nl {o nr mw : Nat} (h : fl_lat o nr mw) : fl_n (o + 2 + nr) = nr := by rcases h with ⟨rfl, rfl, rfl⟩ | ⟨rfl, rfl, rfl⟩ <;> rfl
theorem lat_b {o nr mw : Nat} (h : fl_lat o nr mw) : 6 ≤ o ∧ o + 2 + nr < 22 ∧ nr ≤ 6 ∧ 4 ≤ nr ∧ mw ≤ 7 ∧ 3 ≤ mw := by rcases h with ⟨rfl, rfl, rfl⟩ | ⟨rfl, rfl, rfl⟩ <;> decide
section FLL
variable {p : Program} {l : Launch} {e : Env} {R : Room} {s : State} {m : MethodId} {args : Array Value} {below : List Frame} {meth : Method} {c : Code} {H : Heap} {locs : List Loc} {Q : State → Prop}
variable {cc : ByteArray} {nL pc : Nat} {own : String} {ls : Array Slot} {rest : List Value} {D : va_G} {dA : Nat → ClassId} {ad : Nat → Nat} {N : Nat} {I : fl_TI} {J : fl_TJ} {A : Nat → Prop} {H0 : Heap}
/-- a lattice's field -/
theorem fl_getL {index o nr mw : Nat} (X : CallFix p m c cc nL s args fl_tb RX0) (hI : fl_I D dA ad N I J A s H0 H locs) (hdg : decode cc pc = .ok (.getfield index, 3)) (hN : 30 ≤ N) (hL : fl_lat o nr mw) (f : Nat) (hf : f < 5) (hlink : Cond.fieldLink RX0 index (TX0 f).1 (TX0 f).2.1 (TX0 f).2.2.1 ∈ fl_tb) {v : Value} (hv : ([.ref (ad (o + 1)), .ref (ad (o + 2 + nr)), .int (I o 2), .int (I o 3), .int (I o 4)] : List Value)[f]? = some v)
    (kk : W p l e R s m args below meth c H locs 0 0 Q (F0 m (pc + 3) ls (v :: rest))) : W p l e R s m args below meth c H locs 0 0 Q (F0 m pc ls (.ref (ad o) :: rest)) :=
  fl_get0 X hI hdg (by have := lat_b hL; omega) (lat_k hL) f hf hlink (by rw [lat_n1 hL]; exact hv) kk
end FLL
end
section
/-! compares of longs with the branch behind them; descriptors; the simplest methods -/
section FLC
variable {p : Program} {l : Launch} {e : Env} {R : Room} {s : State} {m : MethodId} {args : Array Value} {below : List Frame} {meth : Method} {c : Code} {H : Heap} {locs : List Loc} {cells slots : Nat} {Q : State → Prop}
variable {cc : ByteArray} {pc : Nat} {ls : Array Slot} {rest : List Value} {x y : Int64} {off : Int} {tgt : Nat}
theorem fl_cmp_lt (x y : Int64) : lg_cmp x y < 0 ↔ x < y := by
  unfold lg_cmp
  by_cases h1 : y < x
  · have h2 : ¬ x < y := by rw [Int64.lt_iff_toInt_lt] at *; omega
    simp [h1, h2]
  · by_cases h2 : x = y
    · subst h2; simp [h1]
    · have h3 : x < y := by
        rw [Int64.lt_iff_toInt_lt] at *
        have h4 : x.toInt ≠ y.toInt := fun q => h2 (Int64.toInt_inj.mp q)
        omega
      simp [h1, h2, h3]
theorem fl_cmp_gt (x y : Int64) : 0 < lg_cmp x y ↔ y < x := by
  unfold lg_cmp
  by_cases h1 : y < x
  · simp [h1]
  · by_cases h2 : x = y
    · subst h2; simp [h1]
    · simp [h1, h2]
theorem fl_cmp_eq (x y : Int64) : lg_cmp x y = 0 ↔ x = y := by
  unfold lg_cmp
  by_cases h1 : y < x
  · have h2 : ¬ x = y := fun q => by rw [q, Int64.lt_iff_toInt_lt] at h1; omega
    simp [h1, h2]
  · by_cases h2 : x = y
    · subst h2; simp [h1]
    · simp [h1, h2]
theorem fl_i0 (x : Int32) : 0 ≤ x ↔ ¬ x < 0 := by rw [Int32.le_iff_toInt_le, Int32.lt_iff_toInt_lt]; omega
theorem fl_i1 (x : Int32) : x ≤ 0 ↔ ¬ 0 < x := by rw [Int32.le_iff_toInt_le, Int32.lt_iff_toInt_lt]; omega
theorem fl_lc_eq (hx : p.tables.exec = Jvm.exec) (hb : c.code = cc) (hd : decode cc pc = .ok (.lcmp, 1)) (hd2 : decode cc (pc + 1) = .ok (.ifCond .eq off, 3)) (ht : ((pc + 1 : Nat) : Int) + off = (tgt : Int)) (kt : x = y → W p l e R s m args below meth c H locs cells slots Q (F0 m tgt ls rest)) (kf : ¬ x = y → W p l e R s m args below meth c H locs cells slots Q (F0 m (pc + 1 + 3) ls rest)) : W p l e R s m args below meth c H locs cells slots Q (F0 m pc ls (.long y :: .long x :: rest)) :=
  W.lcmp hx hb hd (lv_if_eq hx hb hd2 ht (fun h => kt ((fl_cmp_eq x y).mp h)) (fun h => kf (fun q => h ((fl_cmp_eq x y).mpr q))))
theorem fl_lc_ne (hx : p.tables.exec = Jvm.exec) (hb : c.code = cc) (hd : decode cc pc = .ok (.lcmp, 1)) (hd2 : decode cc (pc + 1) = .ok (.ifCond .ne off, 3)) (ht : ((pc + 1 : Nat) : Int) + off = (tgt : Int)) (kt : ¬ x = y → W p l e R s m args below meth c H locs cells slots Q (F0 m tgt ls rest)) (kf : x = y → W p l e R s m args below meth c H locs cells slots Q (F0 m (pc + 1 + 3) ls rest)) : W p l e R s m args below meth c H locs cells slots Q (F0 m pc ls (.long y :: .long x :: rest)) :=
  W.lcmp hx hb hd (lv_if_ne hx hb hd2 ht (fun h => kt (fun q => h ((fl_cmp_eq x y).mpr q))) (fun h => kf ((fl_cmp_eq x y).mp h)))
theorem fl_lc_lt (hx : p.tables.exec = Jvm.exec) (hb : c.code = cc) (hd : decode cc pc = .ok (.lcmp, 1)) (hd2 : decode cc (pc + 1) = .ok (.ifCond .lt off, 3)) (ht : ((pc + 1 : Nat) : Int) + off = (tgt : Int)) (kt : x < y → W p l e R s m args below meth c H locs cells slots Q (F0 m tgt ls rest)) (kf : ¬ x < y → W p l e R s m args below meth c H locs cells slots Q (F0 m (pc + 1 + 3) ls rest)) : W p l e R s m args below meth c H locs cells slots Q (F0 m pc ls (.long y :: .long x :: rest)) :=
  W.lcmp hx hb hd (lv_if_lt hx hb hd2 ht (fun h => kt ((fl_cmp_lt x y).mp h)) (fun h => kf (fun q => h ((fl_cmp_lt x y).mpr q))))
theorem fl_lc_ge (hx : p.tables.exec = Jvm.exec) (hb : c.code = cc) (hd : decode cc pc = .ok (.lcmp, 1)) (hd2 : decode cc (pc + 1) = .ok (.ifCond .ge off, 3)) (ht : ((pc + 1 : Nat) : Int) + off = (tgt : Int)) (kt : ¬ x < y → W p l e R s m args below meth c H locs cells slots Q (F0 m tgt ls rest)) (kf : x < y → W p l e R s m args below meth c H locs cells slots Q (F0 m (pc + 1 + 3) ls rest)) : W p l e R s m args below meth c H locs cells slots Q (F0 m pc ls (.long y :: .long x :: rest)) :=
  W.lcmp hx hb hd (lv_if_ge hx hb hd2 ht (fun h => kt (fun q => (fl_i0 _).mp h ((fl_cmp_lt x y).mpr q))) (fun h => kf (Classical.byContradiction fun q => h ((fl_i0 _).mpr fun z => q ((fl_cmp_lt x y).mp z)))))
theorem fl_lc_gt (hx : p.tables.exec = Jvm.exec) (hb : c.code = cc) (hd : decode cc pc = .ok (.lcmp, 1)) (hd2 : decode cc (pc + 1) = .ok (.ifCond .gt off, 3)) (ht : ((pc + 1 : Nat) : Int) + off = (tgt : Int)) (kt : y < x → W p l e R s m args below meth c H locs cells slots Q (F0 m tgt ls rest)) (kf : ¬ y < x → W p l e R s m args below meth c H locs cells slots Q (F0 m (pc + 1 + 3) ls rest)) : W p l e R s m args below meth c H locs cells slots Q (F0 m pc ls (.long y :: .long x :: rest)) :=
  W.lcmp hx hb hd (lv_if_gt hx hb hd2 ht (fun h => kt ((fl_cmp_gt x y).mp h)) (fun h => kf (fun q => h ((fl_cmp_gt x y).mpr q))))
theorem fl_lc_le (hx : p.tables.exec = Jvm.exec) (hb : c.code = cc) (hd : decode cc pc = .ok (.lcmp, 1)) (hd2 : decode cc (pc + 1) = .ok (.ifCond .le off, 3)) (ht : ((pc + 1 : Nat) : Int) + off = (tgt : Int)) (kt : ¬ y < x → W p l e R s m args below meth c H locs cells slots Q (F0 m tgt ls rest)) (kf : y < x → W p l e R s m args below meth c H locs cells slots Q (F0 m (pc + 1 + 3) ls rest)) : W p l e R s m args below meth c H locs cells slots Q (F0 m pc ls (.long y :: .long x :: rest)) :=
  W.lcmp hx hb hd (lv_if_le hx hb hd2 ht (fun h => kt (fun q => (fl_i1 _).mp h ((fl_cmp_gt x y).mpr q))) (fun h => kf (Classical.byContradiction fun q => h ((fl_i1 _).mpr fun z => q ((fl_cmp_gt x y).mp z)))))
end FLC
theorem hd_yX0_clear : yX0_clear.cls ≠ "java/lang/invoke/MethodHandle" ∧ yX0_clear.cls ≠ "java/lang/invoke/VarHandle" ∧ (parseMethodDescriptor yX0_clear.desc).map (fun d => d.parameters.length) = some 2 := by decide +kernel
theorem hd_yX0_put : yX0_put.cls ≠ "java/lang/invoke/MethodHandle" ∧ yX0_put.cls ≠ "java/lang/invoke/VarHandle" ∧ (parseMethodDescriptor yX0_put.desc).map (fun d => d.parameters.length) = some 3 := by decide +kernel
theorem hd_yX0_at : yX0_at.cls ≠ "java/lang/invoke/MethodHandle" ∧ yX0_at.cls ≠ "java/lang/invoke/VarHandle" ∧ (parseMethodDescriptor yX0_at.desc).map (fun d => d.parameters.length) = some 2 := by decide +kernel
theorem hd_yX0_row : yX0_row.cls ≠ "java/lang/invoke/MethodHandle" ∧ yX0_row.cls ≠ "java/lang/invoke/VarHandle" ∧ (parseMethodDescriptor yX0_row.desc).map (fun d => d.parameters.length) = some 1 := by decide +kernel
theorem hd_yX0_leadColumn : yX0_leadColumn.cls ≠ "java/lang/invoke/MethodHandle" ∧ yX0_leadColumn.cls ≠ "java/lang/invoke/VarHandle" ∧ (parseMethodDescriptor yX0_leadColumn.desc).map (fun d => d.parameters.length) = some 1 := by decide +kernel
theorem hd_yX0_leadsBefore : yX0_leadsBefore.cls ≠ "java/lang/invoke/MethodHandle" ∧ yX0_leadsBefore.cls ≠ "java/lang/invoke/VarHandle" ∧ (parseMethodDescriptor yX0_leadsBefore.desc).map (fun d => d.parameters.length) = some 1 := by decide +kernel
theorem hd_yX0_bringToForm : yX0_bringToForm.cls ≠ "java/lang/invoke/MethodHandle" ∧ yX0_bringToForm.cls ≠ "java/lang/invoke/VarHandle" ∧ (parseMethodDescriptor yX0_bringToForm.desc).map (fun d => d.parameters.length) = some 0 := by decide +kernel
theorem hd_yX0_divideOut : yX0_divideOut.cls ≠ "java/lang/invoke/MethodHandle" ∧ yX0_divideOut.cls ≠ "java/lang/invoke/VarHandle" ∧ (parseMethodDescriptor yX0_divideOut.desc).map (fun d => d.parameters.length) = some 3 := by decide +kernel
theorem hd_yX0_addLead : yX0_addLead.cls ≠ "java/lang/invoke/MethodHandle" ∧ yX0_addLead.cls ≠ "java/lang/invoke/VarHandle" ∧ (parseMethodDescriptor yX0_addLead.desc).map (fun d => d.parameters.length) = some 1 := by decide +kernel
theorem hd_yX0_reduce : yX0_reduce.cls ≠ "java/lang/invoke/MethodHandle" ∧ yX0_reduce.cls ≠ "java/lang/invoke/VarHandle" ∧ (parseMethodDescriptor yX0_reduce.desc).map (fun d => d.parameters.length) = some 1 := by decide +kernel
theorem hd_yX0_reduceBy : yX0_reduceBy.cls ≠ "java/lang/invoke/MethodHandle" ∧ yX0_reduceBy.cls ≠ "java/lang/invoke/VarHandle" ∧ (parseMethodDescriptor yX0_reduceBy.desc).map (fun d => d.parameters.length) = some 2 := by decide +kernel
theorem hd_yX1_unknowns : yX1_unknowns.cls ≠ "java/lang/invoke/MethodHandle" ∧ yX1_unknowns.cls ≠ "java/lang/invoke/VarHandle" ∧ (parseMethodDescriptor yX1_unknowns.desc).map (fun d => d.parameters.length) = some 1 := by decide +kernel
theorem hd_yX1_equation : yX1_equation.cls ≠ "java/lang/invoke/MethodHandle" ∧ yX1_equation.cls ≠ "java/lang/invoke/VarHandle" ∧ (parseMethodDescriptor yX1_equation.desc).map (fun d => d.parameters.length) = some 5 := by decide +kernel
theorem hd_yX1_sum : yX1_sum.cls ≠ "java/lang/invoke/MethodHandle" ∧ yX1_sum.cls ≠ "java/lang/invoke/VarHandle" ∧ (parseMethodDescriptor yX1_sum.desc).map (fun d => d.parameters.length) = some 2 := by decide +kernel
theorem hd_yX1_drop : yX1_drop.cls ≠ "java/lang/invoke/MethodHandle" ∧ yX1_drop.cls ≠ "java/lang/invoke/VarHandle" ∧ (parseMethodDescriptor yX1_drop.desc).map (fun d => d.parameters.length) = some 0 := by decide +kernel
theorem hd_yX1_solve : yX1_solve.cls ≠ "java/lang/invoke/MethodHandle" ∧ yX1_solve.cls ≠ "java/lang/invoke/VarHandle" ∧ (parseMethodDescriptor yX1_solve.desc).map (fun d => d.parameters.length) = some 0 := by decide +kernel
theorem hd_yX1_fails : yX1_fails.cls ≠ "java/lang/invoke/MethodHandle" ∧ yX1_fails.cls ≠ "java/lang/invoke/VarHandle" ∧ (parseMethodDescriptor yX1_fails.desc).map (fun d => d.parameters.length) = some 0 := by decide +kernel
theorem hd_yX1_solution : yX1_solution.cls ≠ "java/lang/invoke/MethodHandle" ∧ yX1_solution.cls ≠ "java/lang/invoke/VarHandle" ∧ (parseMethodDescriptor yX1_solution.desc).map (fun d => d.parameters.length) = some 1 := by decide +kernel
theorem hd_yX1_basis : yX1_basis.cls ≠ "java/lang/invoke/MethodHandle" ∧ yX1_basis.cls ≠ "java/lang/invoke/VarHandle" ∧ (parseMethodDescriptor yX1_basis.desc).map (fun d => d.parameters.length) = some 2 := by decide +kernel
theorem hd_yX1_count : yX1_count.cls ≠ "java/lang/invoke/MethodHandle" ∧ yX1_count.cls ≠ "java/lang/invoke/VarHandle" ∧ (parseMethodDescriptor yX1_count.desc).map (fun d => d.parameters.length) = some 1 := by decide +kernel
theorem hd_yX1_reach : yX1_reach.cls ≠ "java/lang/invoke/MethodHandle" ∧ yX1_reach.cls ≠ "java/lang/invoke/VarHandle" ∧ (parseMethodDescriptor yX1_reach.desc).map (fun d => d.parameters.length) = some 2 := by decide +kernel
theorem hd_yX1_reached : yX1_reached.cls ≠ "java/lang/invoke/MethodHandle" ∧ yX1_reached.cls ≠ "java/lang/invoke/VarHandle" ∧ (parseMethodDescriptor yX1_reached.desc).map (fun d => d.parameters.length) = some 3 := by decide +kernel
theorem hd_yX1_invariant : yX1_invariant.cls ≠ "java/lang/invoke/MethodHandle" ∧ yX1_invariant.cls ≠ "java/lang/invoke/VarHandle" ∧ (parseMethodDescriptor yX1_invariant.desc).map (fun d => d.parameters.length) = some 1 := by decide +kernel
theorem hd_yX1_box : yX1_box.cls ≠ "java/lang/invoke/MethodHandle" ∧ yX1_box.cls ≠ "java/lang/invoke/VarHandle" ∧ (parseMethodDescriptor yX1_box.desc).map (fun d => d.parameters.length) = some 2 := by decide +kernel
theorem hd_yX1_modulo : yX1_modulo.cls ≠ "java/lang/invoke/MethodHandle" ∧ yX1_modulo.cls ≠ "java/lang/invoke/VarHandle" ∧ (parseMethodDescriptor yX1_modulo.desc).map (fun d => d.parameters.length) = some 1 := by decide +kernel
theorem hd_yX1_spread : yX1_spread.cls ≠ "java/lang/invoke/MethodHandle" ∧ yX1_spread.cls ≠ "java/lang/invoke/VarHandle" ∧ (parseMethodDescriptor yX1_spread.desc).map (fun d => d.parameters.length) = some 0 := by decide +kernel
theorem hd_yX1_check : yX1_check.cls ≠ "java/lang/invoke/MethodHandle" ∧ yX1_check.cls ≠ "java/lang/invoke/VarHandle" ∧ (parseMethodDescriptor yX1_check.desc).map (fun d => d.parameters.length) = some 0 := by decide +kernel
theorem hd_yX1_isSum : yX1_isSum.cls ≠ "java/lang/invoke/MethodHandle" ∧ yX1_isSum.cls ≠ "java/lang/invoke/VarHandle" ∧ (parseMethodDescriptor yX1_isSum.desc).map (fun d => d.parameters.length) = some 1 := by decide +kernel
theorem hd_yX1_isFactor : yX1_isFactor.cls ≠ "java/lang/invoke/MethodHandle" ∧ yX1_isFactor.cls ≠ "java/lang/invoke/VarHandle" ∧ (parseMethodDescriptor yX1_isFactor.desc).map (fun d => d.parameters.length) = some 2 := by decide +kernel
theorem hd_yX1_basisRows : yX1_basisRows.cls ≠ "java/lang/invoke/MethodHandle" ∧ yX1_basisRows.cls ≠ "java/lang/invoke/VarHandle" ∧ (parseMethodDescriptor yX1_basisRows.desc).map (fun d => d.parameters.length) = some 0 := by decide +kernel
theorem hd_yX1_basisNumber : yX1_basisNumber.cls ≠ "java/lang/invoke/MethodHandle" ∧ yX1_basisNumber.cls ≠ "java/lang/invoke/VarHandle" ∧ (parseMethodDescriptor yX1_basisNumber.desc).map (fun d => d.parameters.length) = some 2 := by decide +kernel
theorem hd_yX1_leadUnknown : yX1_leadUnknown.cls ≠ "java/lang/invoke/MethodHandle" ∧ yX1_leadUnknown.cls ≠ "java/lang/invoke/VarHandle" ∧ (parseMethodDescriptor yX1_leadUnknown.desc).map (fun d => d.parameters.length) = some 1 := by decide +kernel
theorem hd_yX1_formWhole : yX1_formWhole.cls ≠ "java/lang/invoke/MethodHandle" ∧ yX1_formWhole.cls ≠ "java/lang/invoke/VarHandle" ∧ (parseMethodDescriptor yX1_formWhole.desc).map (fun d => d.parameters.length) = some 0 := by decide +kernel
theorem hd_yX1_settleSolution : yX1_settleSolution.cls ≠ "java/lang/invoke/MethodHandle" ∧ yX1_settleSolution.cls ≠ "java/lang/invoke/VarHandle" ∧ (parseMethodDescriptor yX1_settleSolution.desc).map (fun d => d.parameters.length) = some 0 := by decide +kernel
theorem hd_yX1_firstNotZero : yX1_firstNotZero.cls ≠ "java/lang/invoke/MethodHandle" ∧ yX1_firstNotZero.cls ≠ "java/lang/invoke/VarHandle" ∧ (parseMethodDescriptor yX1_firstNotZero.desc).map (fun d => d.parameters.length) = some 1 := by decide +kernel
theorem hd_yX1_fillWithZero : yX1_fillWithZero.cls ≠ "java/lang/invoke/MethodHandle" ∧ yX1_fillWithZero.cls ≠ "java/lang/invoke/VarHandle" ∧ (parseMethodDescriptor yX1_fillWithZero.desc).map (fun d => d.parameters.length) = some 1 := by decide +kernel
theorem hd_yX1_divisorOfDeterminants : yX1_divisorOfDeterminants.cls ≠ "java/lang/invoke/MethodHandle" ∧ yX1_divisorOfDeterminants.cls ≠ "java/lang/invoke/VarHandle" ∧ (parseMethodDescriptor yX1_divisorOfDeterminants.desc).map (fun d => d.parameters.length) = some 1 := by decide +kernel
theorem hd_yX1_divisorOverUnknowns : yX1_divisorOverUnknowns.cls ≠ "java/lang/invoke/MethodHandle" ∧ yX1_divisorOverUnknowns.cls ≠ "java/lang/invoke/VarHandle" ∧ (parseMethodDescriptor yX1_divisorOverUnknowns.desc).map (fun d => d.parameters.length) = some 2 := by decide +kernel
theorem hd_yX1_determinant : yX1_determinant.cls ≠ "java/lang/invoke/MethodHandle" ∧ yX1_determinant.cls ≠ "java/lang/invoke/VarHandle" ∧ (parseMethodDescriptor yX1_determinant.desc).map (fun d => d.parameters.length) = some 3 := by decide +kernel
theorem hd_yX1_commonDivisor : yX1_commonDivisor.cls ≠ "java/lang/invoke/MethodHandle" ∧ yX1_commonDivisor.cls ≠ "java/lang/invoke/VarHandle" ∧ (parseMethodDescriptor yX1_commonDivisor.desc).map (fun d => d.parameters.length) = some 2 := by decide +kernel
theorem hd_yX1_unmovedLieInside : yX1_unmovedLieInside.cls ≠ "java/lang/invoke/MethodHandle" ∧ yX1_unmovedLieInside.cls ≠ "java/lang/invoke/VarHandle" ∧ (parseMethodDescriptor yX1_unmovedLieInside.desc).map (fun d => d.parameters.length) = some 2 := by decide +kernel
theorem hd_yX1_countFrom : yX1_countFrom.cls ≠ "java/lang/invoke/MethodHandle" ∧ yX1_countFrom.cls ≠ "java/lang/invoke/VarHandle" ∧ (parseMethodDescriptor yX1_countFrom.desc).map (fun d => d.parameters.length) = some 3 := by decide +kernel
theorem hd_yX1_leastTurns : yX1_leastTurns.cls ≠ "java/lang/invoke/MethodHandle" ∧ yX1_leastTurns.cls ≠ "java/lang/invoke/VarHandle" ∧ (parseMethodDescriptor yX1_leastTurns.desc).map (fun d => d.parameters.length) = some 3 := by decide +kernel
theorem hd_yX1_mostTurns : yX1_mostTurns.cls ≠ "java/lang/invoke/MethodHandle" ∧ yX1_mostTurns.cls ≠ "java/lang/invoke/VarHandle" ∧ (parseMethodDescriptor yX1_mostTurns.desc).map (fun d => d.parameters.length) = some 3 := by decide +kernel
theorem hd_yX1_leavesLaterUnknowns : yX1_leavesLaterUnknowns.cls ≠ "java/lang/invoke/MethodHandle" ∧ yX1_leavesLaterUnknowns.cls ≠ "java/lang/invoke/VarHandle" ∧ (parseMethodDescriptor yX1_leavesLaterUnknowns.desc).map (fun d => d.parameters.length) = some 1 := by decide +kernel
theorem hd_yX1_turn : yX1_turn.cls ≠ "java/lang/invoke/MethodHandle" ∧ yX1_turn.cls ≠ "java/lang/invoke/VarHandle" ∧ (parseMethodDescriptor yX1_turn.desc).map (fun d => d.parameters.length) = some 2 := by decide +kernel
theorem hd_yX1_formRemainders : yX1_formRemainders.cls ≠ "java/lang/invoke/MethodHandle" ∧ yX1_formRemainders.cls ≠ "java/lang/invoke/VarHandle" ∧ (parseMethodDescriptor yX1_formRemainders.desc).map (fun d => d.parameters.length) = some 1 := by decide +kernel
theorem hd_yX1_waysToEachSum : yX1_waysToEachSum.cls ≠ "java/lang/invoke/MethodHandle" ∧ yX1_waysToEachSum.cls ≠ "java/lang/invoke/VarHandle" ∧ (parseMethodDescriptor yX1_waysToEachSum.desc).map (fun d => d.parameters.length) = some 1 := by decide +kernel
theorem hd_yX1_solutionHolds : yX1_solutionHolds.cls ≠ "java/lang/invoke/MethodHandle" ∧ yX1_solutionHolds.cls ≠ "java/lang/invoke/VarHandle" ∧ (parseMethodDescriptor yX1_solutionHolds.desc).map (fun d => d.parameters.length) = some 0 := by decide +kernel
theorem hd_yX1_rowHolds : yX1_rowHolds.cls ≠ "java/lang/invoke/MethodHandle" ∧ yX1_rowHolds.cls ≠ "java/lang/invoke/VarHandle" ∧ (parseMethodDescriptor yX1_rowHolds.desc).map (fun d => d.parameters.length) = some 1 := by decide +kernel
theorem hd_yX1_sumOfUnknowns : yX1_sumOfUnknowns.cls ≠ "java/lang/invoke/MethodHandle" ∧ yX1_sumOfUnknowns.cls ≠ "java/lang/invoke/VarHandle" ∧ (parseMethodDescriptor yX1_sumOfUnknowns.desc).map (fun d => d.parameters.length) = some 2 := by decide +kernel
theorem hd_yX2_unknowns : yX2_unknowns.cls ≠ "java/lang/invoke/MethodHandle" ∧ yX2_unknowns.cls ≠ "java/lang/invoke/VarHandle" ∧ (parseMethodDescriptor yX2_unknowns.desc).map (fun d => d.parameters.length) = some 1 := by decide +kernel
theorem hd_yX2_isSum : yX2_isSum.cls ≠ "java/lang/invoke/MethodHandle" ∧ yX2_isSum.cls ≠ "java/lang/invoke/VarHandle" ∧ (parseMethodDescriptor yX2_isSum.desc).map (fun d => d.parameters.length) = some 1 := by decide +kernel
theorem hd_yX2_isFactor : yX2_isFactor.cls ≠ "java/lang/invoke/MethodHandle" ∧ yX2_isFactor.cls ≠ "java/lang/invoke/VarHandle" ∧ (parseMethodDescriptor yX2_isFactor.desc).map (fun d => d.parameters.length) = some 2 := by decide +kernel
theorem hd_yX2_equation : yX2_equation.cls ≠ "java/lang/invoke/MethodHandle" ∧ yX2_equation.cls ≠ "java/lang/invoke/VarHandle" ∧ (parseMethodDescriptor yX2_equation.desc).map (fun d => d.parameters.length) = some 5 := by decide +kernel
theorem hd_yX2_sum : yX2_sum.cls ≠ "java/lang/invoke/MethodHandle" ∧ yX2_sum.cls ≠ "java/lang/invoke/VarHandle" ∧ (parseMethodDescriptor yX2_sum.desc).map (fun d => d.parameters.length) = some 2 := by decide +kernel
theorem hd_yX2_drop : yX2_drop.cls ≠ "java/lang/invoke/MethodHandle" ∧ yX2_drop.cls ≠ "java/lang/invoke/VarHandle" ∧ (parseMethodDescriptor yX2_drop.desc).map (fun d => d.parameters.length) = some 0 := by decide +kernel
theorem hd_yX2_down : yX2_down.cls ≠ "java/lang/invoke/MethodHandle" ∧ yX2_down.cls ≠ "java/lang/invoke/VarHandle" ∧ (parseMethodDescriptor yX2_down.desc).map (fun d => d.parameters.length) = some 2 := by decide +kernel
theorem hd_yX2_take : yX2_take.cls ≠ "java/lang/invoke/MethodHandle" ∧ yX2_take.cls ≠ "java/lang/invoke/VarHandle" ∧ (parseMethodDescriptor yX2_take.desc).map (fun d => d.parameters.length) = some 4 := by decide +kernel
theorem hd_yX2_change : yX2_change.cls ≠ "java/lang/invoke/MethodHandle" ∧ yX2_change.cls ≠ "java/lang/invoke/VarHandle" ∧ (parseMethodDescriptor yX2_change.desc).map (fun d => d.parameters.length) = some 2 := by decide +kernel
theorem hd_yX2_size : yX2_size.cls ≠ "java/lang/invoke/MethodHandle" ∧ yX2_size.cls ≠ "java/lang/invoke/VarHandle" ∧ (parseMethodDescriptor yX2_size.desc).map (fun d => d.parameters.length) = some 1 := by decide +kernel
theorem hd_yX2_least : yX2_least.cls ≠ "java/lang/invoke/MethodHandle" ∧ yX2_least.cls ≠ "java/lang/invoke/VarHandle" ∧ (parseMethodDescriptor yX2_least.desc).map (fun d => d.parameters.length) = some 3 := by decide +kernel
theorem hd_yX2_form : yX2_form.cls ≠ "java/lang/invoke/MethodHandle" ∧ yX2_form.cls ≠ "java/lang/invoke/VarHandle" ∧ (parseMethodDescriptor yX2_form.desc).map (fun d => d.parameters.length) = some 2 := by decide +kernel
theorem hd_yX2_relate : yX2_relate.cls ≠ "java/lang/invoke/MethodHandle" ∧ yX2_relate.cls ≠ "java/lang/invoke/VarHandle" ∧ (parseMethodDescriptor yX2_relate.desc).map (fun d => d.parameters.length) = some 1 := by decide +kernel
theorem hd_yX2_before : yX2_before.cls ≠ "java/lang/invoke/MethodHandle" ∧ yX2_before.cls ≠ "java/lang/invoke/VarHandle" ∧ (parseMethodDescriptor yX2_before.desc).map (fun d => d.parameters.length) = some 1 := by decide +kernel
theorem hd_yX2_comes : yX2_comes.cls ≠ "java/lang/invoke/MethodHandle" ∧ yX2_comes.cls ≠ "java/lang/invoke/VarHandle" ∧ (parseMethodDescriptor yX2_comes.desc).map (fun d => d.parameters.length) = some 1 := by decide +kernel
theorem hd_yX2_goes : yX2_goes.cls ≠ "java/lang/invoke/MethodHandle" ∧ yX2_goes.cls ≠ "java/lang/invoke/VarHandle" ∧ (parseMethodDescriptor yX2_goes.desc).map (fun d => d.parameters.length) = some 1 := by decide +kernel
theorem hd_yX2_basisCount : yX2_basisCount.cls ≠ "java/lang/invoke/MethodHandle" ∧ yX2_basisCount.cls ≠ "java/lang/invoke/VarHandle" ∧ (parseMethodDescriptor yX2_basisCount.desc).map (fun d => d.parameters.length) = some 0 := by decide +kernel
theorem hd_yX2_solve : yX2_solve.cls ≠ "java/lang/invoke/MethodHandle" ∧ yX2_solve.cls ≠ "java/lang/invoke/VarHandle" ∧ (parseMethodDescriptor yX2_solve.desc).map (fun d => d.parameters.length) = some 0 := by decide +kernel
theorem hd_yX2_fails : yX2_fails.cls ≠ "java/lang/invoke/MethodHandle" ∧ yX2_fails.cls ≠ "java/lang/invoke/VarHandle" ∧ (parseMethodDescriptor yX2_fails.desc).map (fun d => d.parameters.length) = some 0 := by decide +kernel
theorem hd_yX2_solution : yX2_solution.cls ≠ "java/lang/invoke/MethodHandle" ∧ yX2_solution.cls ≠ "java/lang/invoke/VarHandle" ∧ (parseMethodDescriptor yX2_solution.desc).map (fun d => d.parameters.length) = some 1 := by decide +kernel
theorem hd_yX2_basis : yX2_basis.cls ≠ "java/lang/invoke/MethodHandle" ∧ yX2_basis.cls ≠ "java/lang/invoke/VarHandle" ∧ (parseMethodDescriptor yX2_basis.desc).map (fun d => d.parameters.length) = some 2 := by decide +kernel
theorem hd_yX2_count : yX2_count.cls ≠ "java/lang/invoke/MethodHandle" ∧ yX2_count.cls ≠ "java/lang/invoke/VarHandle" ∧ (parseMethodDescriptor yX2_count.desc).map (fun d => d.parameters.length) = some 1 := by decide +kernel
theorem hd_yX2_reach : yX2_reach.cls ≠ "java/lang/invoke/MethodHandle" ∧ yX2_reach.cls ≠ "java/lang/invoke/VarHandle" ∧ (parseMethodDescriptor yX2_reach.desc).map (fun d => d.parameters.length) = some 2 := by decide +kernel
theorem hd_yX2_reached : yX2_reached.cls ≠ "java/lang/invoke/MethodHandle" ∧ yX2_reached.cls ≠ "java/lang/invoke/VarHandle" ∧ (parseMethodDescriptor yX2_reached.desc).map (fun d => d.parameters.length) = some 3 := by decide +kernel
theorem hd_yX2_common : yX2_common.cls ≠ "java/lang/invoke/MethodHandle" ∧ yX2_common.cls ≠ "java/lang/invoke/VarHandle" ∧ (parseMethodDescriptor yX2_common.desc).map (fun d => d.parameters.length) = some 2 := by decide +kernel
theorem hd_yX2_place : yX2_place.cls ≠ "java/lang/invoke/MethodHandle" ∧ yX2_place.cls ≠ "java/lang/invoke/VarHandle" ∧ (parseMethodDescriptor yX2_place.desc).map (fun d => d.parameters.length) = some 2 := by decide +kernel
theorem hd_yX2_ones : yX2_ones.cls ≠ "java/lang/invoke/MethodHandle" ∧ yX2_ones.cls ≠ "java/lang/invoke/VarHandle" ∧ (parseMethodDescriptor yX2_ones.desc).map (fun d => d.parameters.length) = some 1 := by decide +kernel
theorem hd_yX2_two : yX2_two.cls ≠ "java/lang/invoke/MethodHandle" ∧ yX2_two.cls ≠ "java/lang/invoke/VarHandle" ∧ (parseMethodDescriptor yX2_two.desc).map (fun d => d.parameters.length) = some 4 := by decide +kernel
theorem hd_yX2_determinant : yX2_determinant.cls ≠ "java/lang/invoke/MethodHandle" ∧ yX2_determinant.cls ≠ "java/lang/invoke/VarHandle" ∧ (parseMethodDescriptor yX2_determinant.desc).map (fun d => d.parameters.length) = some 3 := by decide +kernel
theorem hd_yX2_divisor : yX2_divisor.cls ≠ "java/lang/invoke/MethodHandle" ∧ yX2_divisor.cls ≠ "java/lang/invoke/VarHandle" ∧ (parseMethodDescriptor yX2_divisor.desc).map (fun d => d.parameters.length) = some 1 := by decide +kernel
theorem hd_yX2_invariant : yX2_invariant.cls ≠ "java/lang/invoke/MethodHandle" ∧ yX2_invariant.cls ≠ "java/lang/invoke/VarHandle" ∧ (parseMethodDescriptor yX2_invariant.desc).map (fun d => d.parameters.length) = some 1 := by decide +kernel
theorem hd_yX2_leftOf : yX2_leftOf.cls ≠ "java/lang/invoke/MethodHandle" ∧ yX2_leftOf.cls ≠ "java/lang/invoke/VarHandle" ∧ (parseMethodDescriptor yX2_leftOf.desc).map (fun d => d.parameters.length) = some 4 := by decide +kernel
theorem hd_yX2_lasts : yX2_lasts.cls ≠ "java/lang/invoke/MethodHandle" ∧ yX2_lasts.cls ≠ "java/lang/invoke/VarHandle" ∧ (parseMethodDescriptor yX2_lasts.desc).map (fun d => d.parameters.length) = some 5 := by decide +kernel
theorem hd_yX2_box : yX2_box.cls ≠ "java/lang/invoke/MethodHandle" ∧ yX2_box.cls ≠ "java/lang/invoke/VarHandle" ∧ (parseMethodDescriptor yX2_box.desc).map (fun d => d.parameters.length) = some 2 := by decide +kernel
theorem hd_yX2_modulo : yX2_modulo.cls ≠ "java/lang/invoke/MethodHandle" ∧ yX2_modulo.cls ≠ "java/lang/invoke/VarHandle" ∧ (parseMethodDescriptor yX2_modulo.desc).map (fun d => d.parameters.length) = some 1 := by decide +kernel
theorem hd_yX2_spread : yX2_spread.cls ≠ "java/lang/invoke/MethodHandle" ∧ yX2_spread.cls ≠ "java/lang/invoke/VarHandle" ∧ (parseMethodDescriptor yX2_spread.desc).map (fun d => d.parameters.length) = some 0 := by decide +kernel
theorem hd_yX2_check : yX2_check.cls ≠ "java/lang/invoke/MethodHandle" ∧ yX2_check.cls ≠ "java/lang/invoke/VarHandle" ∧ (parseMethodDescriptor yX2_check.desc).map (fun d => d.parameters.length) = some 0 := by decide +kernel
theorem hd_yJ6_bitCount_0f7a4 : yJ6_bitCount_0f7a4.cls ≠ "java/lang/invoke/MethodHandle" ∧ yJ6_bitCount_0f7a4.cls ≠ "java/lang/invoke/VarHandle" ∧ (parseMethodDescriptor yJ6_bitCount_0f7a4.desc).map (fun d => d.parameters.length) = some 1 := by decide +kernel
theorem hd_yJ9_floorDiv_f86c9 : yJ9_floorDiv_f86c9.cls ≠ "java/lang/invoke/MethodHandle" ∧ yJ9_floorDiv_f86c9.cls ≠ "java/lang/invoke/VarHandle" ∧ (parseMethodDescriptor yJ9_floorDiv_f86c9.desc).map (fun d => d.parameters.length) = some 2 := by decide +kernel
theorem hd_yJ9_abs_067f4 : yJ9_abs_067f4.cls ≠ "java/lang/invoke/MethodHandle" ∧ yJ9_abs_067f4.cls ≠ "java/lang/invoke/VarHandle" ∧ (parseMethodDescriptor yJ9_abs_067f4.desc).map (fun d => d.parameters.length) = some 1 := by decide +kernel
theorem hd_yJ9_max_f86c9 : yJ9_max_f86c9.cls ≠ "java/lang/invoke/MethodHandle" ∧ yJ9_max_f86c9.cls ≠ "java/lang/invoke/VarHandle" ∧ (parseMethodDescriptor yJ9_max_f86c9.desc).map (fun d => d.parameters.length) = some 2 := by decide +kernel
theorem hd_yJ9_min_f86c9 : yJ9_min_f86c9.cls ≠ "java/lang/invoke/MethodHandle" ∧ yJ9_min_f86c9.cls ≠ "java/lang/invoke/VarHandle" ∧ (parseMethodDescriptor yJ9_min_f86c9.desc).map (fun d => d.parameters.length) = some 2 := by decide +kernel
end
section
/-! leaves -/
/-- Math.floorDiv of longs -/
def fd64 (a b : Int64) : Int64 := if (a ^^^ b) < 0 then (if a / b * b = a then a / b else a / b - 1) else a / b
theorem m_floorDiv (D : va_G) (dA : Nat → ClassId) (ad : Nat → Nat) (N : Nat) (I : fl_TI) (J : fl_TJ) (a b : Int64) (hb0 : ¬ b = 0) : FM yJ9_floorDiv_f86c9 cJ9_floorDiv_f86c9 6 (some .long) 0 D dA ad N [.long a, .long b] I J (fun v I' J' => v = some (.long (fd64 a b)) ∧ I' = I ∧ J' = J) := by
  refine FM.ofW RJ9 rfl (by decide +kernel) (Nat.le_of_ble_eq_true rfl) ?_
  intro p l e s m args below meth c ls X hr hlk hI hl
  have hx := X.1
  have hb := X.2.1
  have hl : lv_has ls 6 [(0, .long a), (2, .long b)] := hl
  refine lv_lload_n hx hb dJ9_floorDiv_f86c9_0 rfl (lv_at hl 0 rfl) ?_
  refine lv_lload_n hx hb dJ9_floorDiv_f86c9_1 rfl (lv_at hl 1 rfl) ?_
  refine lv_ldiv hx hb dJ9_floorDiv_f86c9_2 (by assumption) ?_
  refine lv_lstore (lv' := [(4, .long (a / b)), (0, .long a), (2, .long b)]) hx hb dJ9_floorDiv_f86c9_3 hl (by decide) rfl (fun ls hl => ?_)
  refine lv_lload_n hx hb dJ9_floorDiv_f86c9_5 rfl (lv_at hl 1 rfl) ?_
  refine lv_lload_n hx hb dJ9_floorDiv_f86c9_6 rfl (lv_at hl 2 rfl) ?_
  refine lv_lxor hx hb dJ9_floorDiv_f86c9_7 ?_
  refine lv_lconst (v := 0) hx hb dJ9_floorDiv_f86c9_8 rfl ?_
  refine fl_lc_ge (tgt := 27) hx hb dJ9_floorDiv_f86c9_9 dJ9_floorDiv_f86c9_10 (by decide) (fun c1 => ?_) (fun c1 => ?_)
  · refine lv_lload hx hb dJ9_floorDiv_f86c9_27 (lv_at hl 0 rfl) ?_
    exact fl_lret X hr hlk hI dJ9_floorDiv_f86c9_29 ⟨by unfold fd64; simp [*], rfl, rfl⟩
  · refine lv_lload hx hb dJ9_floorDiv_f86c9_13 (lv_at hl 0 rfl) ?_
    refine lv_lload_n hx hb dJ9_floorDiv_f86c9_15 rfl (lv_at hl 2 rfl) ?_
    refine lv_lmul hx hb dJ9_floorDiv_f86c9_16 ?_
    refine lv_lload_n hx hb dJ9_floorDiv_f86c9_17 rfl (lv_at hl 1 rfl) ?_
    refine fl_lc_eq (tgt := 27) hx hb dJ9_floorDiv_f86c9_18 dJ9_floorDiv_f86c9_19 (by decide) (fun c2 => ?_) (fun c2 => ?_)
    · refine lv_lload hx hb dJ9_floorDiv_f86c9_27 (lv_at hl 0 rfl) ?_
      exact fl_lret X hr hlk hI dJ9_floorDiv_f86c9_29 ⟨by unfold fd64; simp [*], rfl, rfl⟩
    · refine lv_lload hx hb dJ9_floorDiv_f86c9_22 (lv_at hl 0 rfl) ?_
      refine lv_lconst (v := 1) hx hb dJ9_floorDiv_f86c9_24 rfl ?_
      refine lv_lsub hx hb dJ9_floorDiv_f86c9_25 ?_
      exact fl_lret X hr hlk hI dJ9_floorDiv_f86c9_26 ⟨by unfold fd64; simp [*], rfl, rfl⟩
theorem m_X0_at (D : va_G) (dA : Nat → ClassId) (ad : Nat → Nat) (N : Nat) (I : fl_TI) (J : fl_TJ) {o nr mw : Nat} (hN : 30 ≤ N) (hL : fl_lat o nr mw) {i j : Nat} (hi : i < nr) (hj : j < mw) : FM yX0_at cX0_at 3 (some .long) 0 D dA ad N [.ref (ad o), .int (nI i), .int (nI j)] I J (fun v I' J' => v = some (.long (J (o + 2 + i) j)) ∧ I' = I ∧ J' = J) := by
  refine FM.ofW RX0 rfl (by decide +kernel) (Nat.le_of_ble_eq_true rfl) ?_
  intro p l e s m args below meth c ls X hr hlk hI hl
  have hx := X.1
  have hb := X.2.1
  have hl : lv_has ls 3 [(0, .ref (ad o)), (1, .int (nI i)), (2, .int (nI j))] := hl
  refine lv_aload_n hx hb dX0_at_0 rfl (lv_at hl 0 rfl) ?_
  refine fl_getL X hI dX0_at_1 hN hL 0 (by decide) wf_X0_11 rfl ?_
  refine lv_iload_n hx hb dX0_at_4 rfl (lv_at hl 1 rfl) ?_
  refine fn_aald3 (k := o + 1) X hI dX0_at_5 (by have := lat_b hL; omega) (lat_k1 hL) (by rw [lat_n1 hL]; omega) ?_
  refine lv_iload_n hx hb dX0_at_6 rfl (lv_at hl 2 rfl) ?_
  refine fn_lald (k := o + 2 + i) X hI dX0_at_7 (by have := lat_b hL; omega) (lat_k2 hL (by omega)) (by rw [lat_n2 hL (by omega)]; omega) ?_
  exact fl_lret X hr hlk hI dX0_at_8 ⟨rfl, rfl, rfl⟩
theorem m_X0_put (D : va_G) (dA : Nat → ClassId) (ad : Nat → Nat) (N : Nat) (I : fl_TI) (J : fl_TJ) {o nr mw : Nat} (hN : 30 ≤ N) (hL : fl_lat o nr mw) {i j : Nat} (x : Int64) (hi : i < nr) (hj : j < mw) : FM yX0_put cX0_put 5 none 0 D dA ad N [.ref (ad o), .int (nI i), .int (nI j), .long x] I J (fun v I' J' => v = none ∧ I' = I ∧ J' = fl_up J (o + 2 + i) j x) := by
  refine FM.ofW RX0 rfl (by decide +kernel) (Nat.le_of_ble_eq_true rfl) ?_
  intro p l e s m args below meth c ls X hr hlk hI hl
  have hx := X.1
  have hb := X.2.1
  have hl : lv_has ls 5 [(0, .ref (ad o)), (1, .int (nI i)), (2, .int (nI j)), (3, .long x)] := hl
  refine lv_aload_n hx hb dX0_put_0 rfl (lv_at hl 0 rfl) ?_
  refine fl_getL X hI dX0_put_1 hN hL 0 (by decide) wf_X0_11 rfl ?_
  refine lv_iload_n hx hb dX0_put_4 rfl (lv_at hl 1 rfl) ?_
  refine fn_aald3 (k := o + 1) X hI dX0_put_5 (by have := lat_b hL; omega) (lat_k1 hL) (by rw [lat_n1 hL]; omega) ?_
  refine lv_iload_n hx hb dX0_put_6 rfl (lv_at hl 2 rfl) ?_
  refine lv_lload_n hx hb dX0_put_7 rfl (lv_at hl 3 rfl) ?_
  refine fn_last (k := o + 2 + i) X hI dX0_put_8 (by have := lat_b hL; omega) (lat_k2 hL (by omega)) (by rw [lat_n2 hL (by omega)]; omega) (fun H locs hI => ?_)
  exact fl_vret X hr hlk hI dX0_put_9 ⟨rfl, rfl, rfl⟩
theorem m_X0_leadColumn (D : va_G) (dA : Nat → ClassId) (ad : Nat → Nat) (N : Nat) (I : fl_TI) (J : fl_TJ) {o nr mw : Nat} (hN : 30 ≤ N) (hL : fl_lat o nr mw) {i : Nat} (hi : i < nr) : FM yX0_leadColumn cX0_leadColumn 2 (some .int) 0 D dA ad N [.ref (ad o), .int (nI i)] I J (fun v I' J' => v = some (.int (I (o + 2 + nr) i)) ∧ I' = I ∧ J' = J) := by
  refine FM.ofW RX0 rfl (by decide +kernel) (Nat.le_of_ble_eq_true rfl) ?_
  intro p l e s m args below meth c ls X hr hlk hI hl
  have hx := X.1
  have hb := X.2.1
  have hl : lv_has ls 2 [(0, .ref (ad o)), (1, .int (nI i))] := hl
  refine lv_aload_n hx hb dX0_leadColumn_0 rfl (lv_at hl 0 rfl) ?_
  refine fl_getL X hI dX0_leadColumn_1 hN hL 1 (by decide) wf_X0_16 rfl ?_
  refine lv_iload_n hx hb dX0_leadColumn_4 rfl (lv_at hl 1 rfl) ?_
  refine fn_iald (k := o + 2 + nr) X hI dX0_leadColumn_5 (by have := lat_b hL; omega) (lat_kl hL) (by rw [lat_nl hL]; omega) ?_
  exact fl_iret X hr hlk hI dX0_leadColumn_6 ⟨rfl, rfl, rfl⟩
theorem m_X1_isSum (D : va_G) (dA : Nat → ClassId) (ad : Nat → Nat) (N : Nat) (I : fl_TI) (J : fl_TJ) (x : Int32) : FM yX1_isSum cX1_isSum 1 (some .boolean) 0 D dA ad N [.int x] I J (fun v I' J' => v = some (.int (if ¬ x < -1000 ∧ ¬ nI 1000 < x then nI 1 else nI 0)) ∧ I' = I ∧ J' = J) := by
  refine FM.ofW RX1 rfl (by decide +kernel) (Nat.le_of_ble_eq_true rfl) ?_
  intro p l e s m args below meth c ls X hr hlk hI hl
  have hx := X.1
  have hb := X.2.1
  have hl : lv_has ls 1 [(0, .int x)] := hl
  refine lv_iload_n hx hb dX1_isSum_0 rfl (lv_at hl 0 rfl) ?_
  refine lv_sipush (v := (-1000)) hx hb dX1_isSum_1 (by decide) ?_
  refine lv_icmp_lt (tgt := 18) hx hb dX1_isSum_4 (by decide) (fun c1 => ?_) (fun c1 => ?_)
  · refine lv_iconst (v := nI 0) hx hb dX1_isSum_18 (by decide) ?_
    exact fl_zret X hr hlk hI dX1_isSum_19 (by decide) ⟨by simp [*], rfl, rfl⟩
  · refine lv_iload_n hx hb dX1_isSum_7 rfl (lv_at hl 0 rfl) ?_
    refine lv_sipush (v := nI 1000) hx hb dX1_isSum_8 (by decide) ?_
    refine lv_icmp_gt (tgt := 18) hx hb dX1_isSum_11 (by decide) (fun c2 => ?_) (fun c2 => ?_)
    · refine lv_iconst (v := nI 0) hx hb dX1_isSum_18 (by decide) ?_
      exact fl_zret X hr hlk hI dX1_isSum_19 (by decide) ⟨by simp [*], rfl, rfl⟩
    · refine lv_iconst (v := nI 1) hx hb dX1_isSum_14 (by decide) ?_
      refine lv_goto (tgt := 19) hx hb dX1_isSum_15 (by decide) ?_
      exact fl_zret X hr hlk hI dX1_isSum_19 (by decide) ⟨by simp [*], rfl, rfl⟩
theorem m_X2_isSum (D : va_G) (dA : Nat → ClassId) (ad : Nat → Nat) (N : Nat) (I : fl_TI) (J : fl_TJ) (x : Int32) : FM yX2_isSum cX2_isSum 1 (some .boolean) 0 D dA ad N [.int x] I J (fun v I' J' => v = some (.int (if ¬ x < -1000 ∧ ¬ nI 1000 < x then nI 1 else nI 0)) ∧ I' = I ∧ J' = J) := by
  refine FM.ofW RX2 rfl (by decide +kernel) (Nat.le_of_ble_eq_true rfl) ?_
  intro p l e s m args below meth c ls X hr hlk hI hl
  have hx := X.1
  have hb := X.2.1
  have hl : lv_has ls 1 [(0, .int x)] := hl
  refine lv_iload_n hx hb dX2_isSum_0 rfl (lv_at hl 0 rfl) ?_
  refine lv_sipush (v := (-1000)) hx hb dX2_isSum_1 (by decide) ?_
  refine lv_icmp_lt (tgt := 18) hx hb dX2_isSum_4 (by decide) (fun c1 => ?_) (fun c1 => ?_)
  · refine lv_iconst (v := nI 0) hx hb dX2_isSum_18 (by decide) ?_
    exact fl_zret X hr hlk hI dX2_isSum_19 (by decide) ⟨by simp [*], rfl, rfl⟩
  · refine lv_iload_n hx hb dX2_isSum_7 rfl (lv_at hl 0 rfl) ?_
    refine lv_sipush (v := nI 1000) hx hb dX2_isSum_8 (by decide) ?_
    refine lv_icmp_gt (tgt := 18) hx hb dX2_isSum_11 (by decide) (fun c2 => ?_) (fun c2 => ?_)
    · refine lv_iconst (v := nI 0) hx hb dX2_isSum_18 (by decide) ?_
      exact fl_zret X hr hlk hI dX2_isSum_19 (by decide) ⟨by simp [*], rfl, rfl⟩
    · refine lv_iconst (v := nI 1) hx hb dX2_isSum_14 (by decide) ?_
      refine lv_goto (tgt := 19) hx hb dX2_isSum_15 (by decide) ?_
      exact fl_zret X hr hlk hI dX2_isSum_19 (by decide) ⟨by simp [*], rfl, rfl⟩
end
section
/-! the lattice's loops -/
def fl_it {σ : Type} (f : Nat → σ → σ) : Nat → Nat → σ → σ
  | 0, _, x => x
  | k + 1, i, x => fl_it f k (i + 1) (f i x)
section FLN2
variable {p : Program} {l : Launch} {e : Env} {R : Room} {s : State} {m : MethodId} {args : Array Value} {below : List Frame} {meth : Method} {c : Code} {H : Heap} {locs : List Loc} {Q : State → Prop}
variable {cc : ByteArray} {nL pc : Nat} {ls : Array Slot} {rest : List Value} {D : va_G} {dA : Nat → ClassId} {ad : Nat → Nat} {N : Nat} {I : fl_TI} {J : fl_TJ} {A : Nat → Prop} {H0 : Heap}
/-- fillWithZero, called from the nest mate -/
theorem fl_callSN {d : Nat} {As : List Value} {post : Option Value → fl_TI → fl_TJ → Prop} (X : CallFix p m c cc nL s args fl_tb RX0) (hI : fl_I D dA ad N I J A s H0 H locs) (hdg : decode cc pc = .ok (.invokestatic 30, 3)) (hM : FM yX1_fillWithZero cX1_fillWithZero 2 none d D dA ad N As I J post)
    (hn : As.length = 1) (hR : d + 1 ≤ R.frames ∧ 8 + (2 + 11) + 40 * d ≤ R.locals) (hl : ls.size = nL) (hst : (rest.map fun v => v.category).sum ≤ 8)
    (kk : ∀ (v : Option Value) (I' : fl_TI) (J' : fl_TJ) (H1 : Heap) (locs1 : List Loc), post v I' J' → fl_I D dA ad N I' J' A s H0 H1 locs1 → W p l e R s m args below meth c H1 locs1 0 0 Q (F0 m (pc + 3) ls (v.toList ++ rest))) : W p l e R s m args below meth c H locs 0 0 Q (F0 m pc ls (As.reverse ++ rest)) := by
  refine fl_run (post := post) (va_runSN (host := RX1) (n := 1) (As := As) (rest := rest) X (hM l H.size) ⟨va_cnB 1 X.2.2.2.2 (fl_goodIn (fl_ws_in wc_yX1_fillWithZero) (fun _ h => h)) rfl rfl rfl hI.1.2 (X.2.2.2.2 _ wn_X1) hd_yX1_fillWithZero hR, X.2.2.2.2 _ ws_yX1_fillWithZero, trivial⟩ ⟨fl_blind, fun U hU hW => ⟨rfl, by rw [hU], hI.1.warm hW, by rw [hU]; exact ⟨hI.2.1, hI.2.2.1.weaken (fun _ _ _ _ => trivial)⟩⟩⟩ rfl hn hl rfl (lv_room hst) hdg ⟨Nat.zero_le _, Nat.zero_le _⟩) hI kk
end FLN2
theorem lp_fill {p : Program} {l : Launch} {e : Env} {R : Room} {s : State} {m : MethodId} {args : Array Value} {below : List Frame} {meth : Method} {c : Code} {Q : State → Prop} {D : va_G} {dA : Nat → ClassId} {ad : Nat → Nat} {N : Nat} {A : Nat → Prop} {H0 : Heap} {I : fl_TI} {J9 : fl_TJ} (X : CallFix p m c cX1_fillWithZero 2 s args fl_tb RX1) {q : Nat} (hq : q < N) (hq1 : fl_k q = 1) (hq2 : fl_n q ≤ 64)
    (kx : ∀ (H : Heap) (locs : List Loc) (ls : Array Slot), fl_I D dA ad N I J9 A s H0 H locs → lv_has ls 2 [(1, .int (nI (fl_n q))), (0, .ref (ad q))] → W p l e R s m args below meth c H locs 0 0 Q (F0 m 18 ls [])) :
    ∀ (k i : Nat) (J : fl_TJ) (H : Heap) (locs : List Loc) (ls : Array Slot), i + k = fl_n q → fl_I D dA ad N I J A s H0 H locs → lv_has ls 2 [(1, .int (nI i)), (0, .ref (ad q))] → fl_it (fun j J => fl_up J q j 0) k i J = J9 → W p l e R s m args below meth c H locs 0 0 Q (F0 m 2 ls []) := by
  have hx := X.1
  have hb := X.2.1
  intro k
  induction k with
  | zero =>
    intro i J H locs ls hk hI hl hF
    have hF : J = J9 := hF
    subst hF
    have hk : fl_n q = i := by omega
    subst hk
    refine lv_iload_n hx hb dX1_fillWithZero_2 rfl (lv_at hl 0 rfl) ?_
    refine lv_aload_n hx hb dX1_fillWithZero_3 rfl (lv_at hl 1 rfl) ?_
    refine fl_alen1 (k := q) X hI dX1_fillWithZero_4 hq hq1 ?_
    refine fn_icmp_ge X (tgt := 18) dX1_fillWithZero_5 (by decide) (by omega) (by omega) (fun c1 => ?_) (fun c1 => absurd c1 (by omega))
    exact kx _ _ _ hI (lv_sub hl [0, 1] rfl)
  | succ k ih =>
    intro i J H locs ls hk hI hl hF
    refine lv_iload_n hx hb dX1_fillWithZero_2 rfl (lv_at hl 0 rfl) ?_
    refine lv_aload_n hx hb dX1_fillWithZero_3 rfl (lv_at hl 1 rfl) ?_
    refine fl_alen1 (k := q) X hI dX1_fillWithZero_4 hq hq1 ?_
    refine fn_icmp_ge X (tgt := 18) dX1_fillWithZero_5 (by decide) (by omega) (by omega) (fun c1 => absurd c1 (by omega)) (fun c1 => ?_)
    refine lv_aload_n hx hb dX1_fillWithZero_8 rfl (lv_at hl 1 rfl) ?_
    refine lv_iload_n hx hb dX1_fillWithZero_9 rfl (lv_at hl 0 rfl) ?_
    refine lv_lconst (v := 0) hx hb dX1_fillWithZero_10 rfl ?_
    refine fn_last (k := q) X hI dX1_fillWithZero_11 hq hq1 (by omega) (fun H locs hI => ?_)
    refine fn_iinc (a := i) (lv' := [(1, .int (nI (i + 1))), (0, .ref (ad q))]) X dX1_fillWithZero_12 hl (k := 0) rfl (by decide) rfl (fun ls hl => ?_)
    refine lv_goto (tgt := 2) hx hb dX1_fillWithZero_15 (by decide) ?_
    exact ih (i + 1) _ _ _ _ (by omega) hI (lv_sub hl [0, 1] rfl) hF
def j_fill (q : Nat) (J : fl_TJ) : fl_TJ := fl_it (fun j J => fl_up J q j 0) (fl_n q) 0 J
theorem m_fill (D : va_G) (dA : Nat → ClassId) (ad : Nat → Nat) (N : Nat) (I : fl_TI) (J : fl_TJ) {q : Nat} (hq : q < N) (hq1 : fl_k q = 1) : FM yX1_fillWithZero cX1_fillWithZero 2 none 0 D dA ad N [.ref (ad q)] I J (fun v I' J' => v = none ∧ I' = I ∧ J' = j_fill q J) := by
  refine FM.ofW RX1 rfl (by decide +kernel) (Nat.le_of_ble_eq_true rfl) ?_
  intro p l e s m args below meth c ls X hr hlk hI hl
  have hx := X.1
  have hb := X.2.1
  have hl : lv_has ls 2 [(0, .ref (ad q))] := hl
  refine lv_iconst (v := nI 0) hx hb dX1_fillWithZero_0 (by decide) ?_
  refine lv_istore_n (lv' := [(1, .int (nI 0)), (0, .ref (ad q))]) hx hb dX1_fillWithZero_1 rfl hl (by decide) rfl (fun ls hl => ?_)
  exact lp_fill X hq hq1 (fl_n_le q) (fun H locs ls hI hl => fl_vret X hr hlk hI dX1_fillWithZero_18 ⟨rfl, rfl, rfl⟩) (fl_n q) 0 J _ _ _ (Nat.zero_add _) hI hl rfl
theorem m_X0_row (D : va_G) (dA : Nat → ClassId) (ad : Nat → Nat) (N : Nat) (I : fl_TI) (J : fl_TJ) {o nr mw : Nat} (hN : 30 ≤ N) (hL : fl_lat o nr mw) {i : Nat} (hi : i < nr) : FM yX0_row cX0_row 2 (some (.array .long)) 0 D dA ad N [.ref (ad o), .int (nI i)] I J (fun v I' J' => v = some (.ref (ad (o + 2 + i))) ∧ I' = I ∧ J' = J) := by
  refine FM.ofW RX0 rfl (by decide +kernel) (Nat.le_of_ble_eq_true rfl) ?_
  intro p l e s m args below meth c ls X hr hlk hI hl
  have hx := X.1
  have hb := X.2.1
  have hl : lv_has ls 2 [(0, .ref (ad o)), (1, .int (nI i))] := hl
  refine lv_aload_n hx hb dX0_row_0 rfl (lv_at hl 0 rfl) ?_
  refine fl_getL X hI dX0_row_1 hN hL 0 (by decide) wf_X0_11 rfl ?_
  refine lv_iload_n hx hb dX0_row_4 rfl (lv_at hl 1 rfl) ?_
  refine fn_aald3 (k := o + 1) X hI dX0_row_5 (by have := lat_b hL; omega) (lat_k1 hL) (by rw [lat_n1 hL]; omega) ?_
  exact fl_aret X hr hlk hI dX0_row_6 rfl rfl ⟨rfl, rfl, rfl⟩
theorem lp_clear {p : Program} {l : Launch} {e : Env} {R : Room} {s : State} {m : MethodId} {args : Array Value} {below : List Frame} {meth : Method} {c : Code} {Q : State → Prop} {D : va_G} {dA : Nat → ClassId} {ad : Nat → Nat} {N : Nat} {A : Nat → Prop} {H0 : Heap} {I : fl_TI} {J9 : fl_TJ} (X : CallFix p m c cX0_clear 4 s args fl_tb RX0) {o nr mw h w : Nat} (hN : 30 ≤ N) (hL : fl_lat o nr mw) (hh : I o 2 = nI h) (hhr : h ≤ nr) (hR : 0 + 1 ≤ R.frames ∧ 8 + (2 + 11) + 40 * 0 ≤ R.locals)
    (kx : ∀ (H : Heap) (locs : List Loc) (ls : Array Slot), fl_I D dA ad N I J9 A s H0 H locs → lv_has ls 4 [(3, .int (nI h)), (0, .ref (ad o)), (1, .int (nI h)), (2, .int (nI w))] → W p l e R s m args below meth c H locs 0 0 Q (F0 m 40 ls [])) :
    ∀ (k i : Nat) (J : fl_TJ) (H : Heap) (locs : List Loc) (ls : Array Slot), i + k = h → fl_I D dA ad N I J A s H0 H locs → lv_has ls 4 [(3, .int (nI i)), (0, .ref (ad o)), (1, .int (nI h)), (2, .int (nI w))] → fl_it (fun i J => j_fill (o + 2 + i) J) k i J = J9 → W p l e R s m args below meth c H locs 0 0 Q (F0 m 17 ls []) := by
  have hx := X.1
  have hb := X.2.1
  have h21 := lat_b hL
  intro k
  induction k with
  | zero =>
    intro i J H locs ls hk hI hl hF
    have hF : J = J9 := hF
    subst hF
    have hk : h = i := by omega
    subst hk
    refine lv_iload_n hx hb dX0_clear_17 rfl (lv_at hl 0 rfl) ?_
    refine lv_aload_n hx hb dX0_clear_18 rfl (lv_at hl 1 rfl) ?_
    refine fl_getL X hI dX0_clear_19 hN hL 2 (by decide) wf_X0_20 rfl ?_
    refine W.eq (g2 := F0 m 22 ls [.int (nI h), .int (nI h)]) (by rw [hh]) ?_
    refine fn_icmp_ge X (tgt := 40) dX0_clear_22 (by decide) (by omega) (by omega) (fun c1 => ?_) (fun c1 => absurd c1 (by omega))
    exact kx _ _ _ hI (lv_sub hl [0, 1, 2, 3] rfl)
  | succ k ih =>
    intro i J H locs ls hk hI hl hF
    have h22 := lat_b hL
    refine lv_iload_n hx hb dX0_clear_17 rfl (lv_at hl 0 rfl) ?_
    refine lv_aload_n hx hb dX0_clear_18 rfl (lv_at hl 1 rfl) ?_
    refine fl_getL X hI dX0_clear_19 hN hL 2 (by decide) wf_X0_20 rfl ?_
    refine W.eq (g2 := F0 m 22 ls [.int (nI h), .int (nI i)]) (by rw [hh]) ?_
    refine fn_icmp_ge X (tgt := 40) dX0_clear_22 (by decide) (by omega) (by omega) (fun c1 => absurd c1 (by omega)) (fun c1 => ?_)
    refine lv_aload_n hx hb dX0_clear_25 rfl (lv_at hl 1 rfl) ?_
    refine fl_getL X hI dX0_clear_26 hN hL 0 (by decide) wf_X0_11 rfl ?_
    refine lv_iload_n hx hb dX0_clear_29 rfl (lv_at hl 0 rfl) ?_
    refine fn_aald3 (k := o + 1) X hI dX0_clear_30 (by have := lat_b hL; omega) (lat_k1 hL) (by rw [lat_n1 hL]; omega) ?_
    refine fl_callSN (As := [.ref (ad (o + 2 + i))]) (rest := []) X hI dX0_clear_31 (m_fill D dA ad N I J (q := o + 2 + i) (by have := lat_b hL; omega) (lat_k2 hL (by omega))) rfl hR hl.1 (Nat.le_of_ble_eq_true rfl) (fun v I2 J2 H locs hp hI => ?_)
    obtain ⟨hv, hI2, hJ2⟩ := hp
    subst hv
    rw [hI2, hJ2] at hI
    refine W.eq (g2 := F0 m 34 ls []) rfl ?_
    refine fn_iinc (a := i) (lv' := [(3, .int (nI (i + 1))), (0, .ref (ad o)), (1, .int (nI h)), (2, .int (nI w))]) X dX0_clear_34 hl (k := 0) rfl (by decide) rfl (fun ls hl => ?_)
    refine lv_goto (tgt := 17) hx hb dX0_clear_37 (by decide) ?_
    exact ih (i + 1) _ _ _ _ (by omega) hI (lv_sub hl [0, 1, 2, 3] rfl) hF
def i_clear (o : Nat) (h w : Int32) (I : fl_TI) : fl_TI := fl_up (fl_up (fl_up I o 2 h) o 3 w) o 4 (nI 0)
def j_clear (o h : Nat) (J : fl_TJ) : fl_TJ := fl_it (fun i J => j_fill (o + 2 + i) J) h 0 J
theorem m_X0_clear (D : va_G) (dA : Nat → ClassId) (ad : Nat → Nat) (N : Nat) (I : fl_TI) (J : fl_TJ) {o nr mw h w : Nat} (hN : 30 ≤ N) (hL : fl_lat o nr mw) (hhr : h ≤ nr) : FM yX0_clear cX0_clear 4 none 1 D dA ad N [.ref (ad o), .int (nI h), .int (nI w)] I J (fun v I' J' => v = none ∧ I' = i_clear o (nI h) (nI w) I ∧ J' = j_clear o h J) := by
  refine FM.ofW RX0 rfl (by decide +kernel) (Nat.le_of_ble_eq_true rfl) ?_
  intro p l e s m args below meth c ls X hr hlk hI hl
  have hx := X.1
  have hb := X.2.1
  have hl : lv_has ls 4 [(0, .ref (ad o)), (1, .int (nI h)), (2, .int (nI w))] := hl
  refine lv_aload_n hx hb dX0_clear_0 rfl (lv_at hl 0 rfl) ?_
  refine lv_iload_n hx hb dX0_clear_1 rfl (lv_at hl 1 rfl) ?_
  refine fl_put0 X hI dX0_clear_2 (by have := lat_b hL; omega) (lat_k hL) 2 (by decide) wf_X0_20 (fun H locs hI => ?_)
  refine lv_aload_n hx hb dX0_clear_5 rfl (lv_at hl 0 rfl) ?_
  refine lv_iload_n hx hb dX0_clear_6 rfl (lv_at hl 2 rfl) ?_
  refine fl_put0 X hI dX0_clear_7 (by have := lat_b hL; omega) (lat_k hL) 3 (by decide) wf_X0_24 (fun H locs hI => ?_)
  refine lv_aload_n hx hb dX0_clear_10 rfl (lv_at hl 0 rfl) ?_
  refine lv_iconst (v := nI 0) hx hb dX0_clear_11 (by decide) ?_
  refine fl_put0 X hI dX0_clear_12 (by have := lat_b hL; omega) (lat_k hL) 4 (by decide) wf_X0_27 (fun H locs hI => ?_)
  refine lv_iconst (v := nI 0) hx hb dX0_clear_15 (by decide) ?_
  refine lv_istore_n (lv' := [(3, .int (nI 0)), (0, .ref (ad o)), (1, .int (nI h)), (2, .int (nI w))]) hx hb dX0_clear_16 rfl hl (by decide) rfl (fun ls hl => ?_)
  exact lp_clear X hN hL (by simp [fl_up]) hhr ⟨by decide, by decide⟩ (fun H locs ls hI hl => fl_vret X hr hlk hI dX0_clear_40 ⟨rfl, rfl, rfl⟩) h 0 J _ _ _ (Nat.zero_add _) hI hl rfl
def i_bef (I : fl_TI) (q : Nat) (col : Int32) : Nat → Nat → Nat := fun i n => if col ≤ I q i then n else n + 1
theorem lp_bef {p : Program} {l : Launch} {e : Env} {R : Room} {s : State} {m : MethodId} {args : Array Value} {below : List Frame} {meth : Method} {c : Code} {Q : State → Prop} {D : va_G} {dA : Nat → ClassId} {ad : Nat → Nat} {N : Nat} {A : Nat → Prop} {H0 : Heap} {I : fl_TI} {J : fl_TJ} {n9 : Nat} (X : CallFix p m c cX0_leadsBefore 4 s args fl_tb RX0) {o nr mw rk : Nat} {col : Int32} (hN : 30 ≤ N) (hL : fl_lat o nr mw) (hrk : I o 4 = nI rk) (hrr : rk ≤ nr)
    (kx : ∀ (H : Heap) (locs : List Loc) (ls : Array Slot), fl_I D dA ad N I J A s H0 H locs → lv_has ls 4 [(3, .int (nI rk)), (2, .int (nI n9)), (0, .ref (ad o)), (1, .int col)] → W p l e R s m args below meth c H locs 0 0 Q (F0 m 31 ls [])) :
    ∀ (k i : Nat) (n : Nat) (H : Heap) (locs : List Loc) (ls : Array Slot), i + k = rk → fl_I D dA ad N I J A s H0 H locs → lv_has ls 4 [(3, .int (nI i)), (2, .int (nI n)), (0, .ref (ad o)), (1, .int col)] → fl_it (i_bef I (o + 2 + nr) col) k i n = n9 → W p l e R s m args below meth c H locs 0 0 Q (F0 m 4 ls []) := by
  have hx := X.1
  have hb := X.2.1
  have h21 := lat_b hL
  intro k
  induction k with
  | zero =>
    intro i n H locs ls hk hI hl hF
    have hF : n = n9 := hF
    subst hF
    have hk : rk = i := by omega
    subst hk
    refine lv_iload_n hx hb dX0_leadsBefore_4 rfl (lv_at hl 0 rfl) ?_
    refine lv_aload_n hx hb dX0_leadsBefore_5 rfl (lv_at hl 2 rfl) ?_
    refine fl_getL X hI dX0_leadsBefore_6 hN hL 4 (by decide) wf_X0_27 rfl ?_
    refine W.eq (g2 := F0 m 9 ls [.int (nI rk), .int (nI rk)]) (by rw [hrk]) ?_
    refine fn_icmp_ge X (tgt := 31) dX0_leadsBefore_9 (by decide) (by omega) (by omega) (fun c1 => ?_) (fun c1 => absurd c1 (by omega))
    exact kx _ _ _ hI (lv_sub hl [0, 1, 2, 3] rfl)
  | succ k ih =>
    intro i n H locs ls hk hI hl hF
    refine lv_iload_n hx hb dX0_leadsBefore_4 rfl (lv_at hl 0 rfl) ?_
    refine lv_aload_n hx hb dX0_leadsBefore_5 rfl (lv_at hl 2 rfl) ?_
    refine fl_getL X hI dX0_leadsBefore_6 hN hL 4 (by decide) wf_X0_27 rfl ?_
    refine W.eq (g2 := F0 m 9 ls [.int (nI rk), .int (nI i)]) (by rw [hrk]) ?_
    refine fn_icmp_ge X (tgt := 31) dX0_leadsBefore_9 (by decide) (by omega) (by omega) (fun c1 => absurd c1 (by omega)) (fun c1 => ?_)
    refine lv_aload_n hx hb dX0_leadsBefore_12 rfl (lv_at hl 2 rfl) ?_
    refine fl_getL X hI dX0_leadsBefore_13 hN hL 1 (by decide) wf_X0_16 rfl ?_
    refine lv_iload_n hx hb dX0_leadsBefore_16 rfl (lv_at hl 0 rfl) ?_
    refine fn_iald (k := o + 2 + nr) X hI dX0_leadsBefore_17 (by have := lat_b hL; omega) (lat_kl hL) (by rw [lat_nl hL]; omega) ?_
    refine lv_iload_n hx hb dX0_leadsBefore_18 rfl (lv_at hl 3 rfl) ?_
    refine lv_icmp_ge (tgt := 25) hx hb dX0_leadsBefore_19 (by decide) (fun c2 => ?_) (fun c2 => ?_)
    · refine fn_iinc (a := i) (lv' := [(3, .int (nI (i + 1))), (2, .int (nI n)), (0, .ref (ad o)), (1, .int col)]) X dX0_leadsBefore_25 hl (k := 0) rfl (by decide) rfl (fun ls hl => ?_)
      refine lv_goto (tgt := 4) hx hb dX0_leadsBefore_28 (by decide) ?_
      exact ih (i + 1) _ _ _ _ (by omega) hI (lv_sub hl [0, 1, 2, 3] rfl) (by have h9 := hF; simp only [fl_it, i_bef] at h9; first | (rw [if_pos c2] at h9; exact h9) | (rw [if_neg c2] at h9; exact h9))
    · refine fn_iinc (a := n) (lv' := [(2, .int (nI (n + 1))), (3, .int (nI i)), (0, .ref (ad o)), (1, .int col)]) X dX0_leadsBefore_22 hl (k := 1) rfl (by decide) rfl (fun ls hl => ?_)
      refine fn_iinc (a := i) (lv' := [(3, .int (nI (i + 1))), (2, .int (nI (n + 1))), (0, .ref (ad o)), (1, .int col)]) X dX0_leadsBefore_25 hl (k := 1) rfl (by decide) rfl (fun ls hl => ?_)
      refine lv_goto (tgt := 4) hx hb dX0_leadsBefore_28 (by decide) ?_
      exact ih (i + 1) _ _ _ _ (by omega) hI (lv_sub hl [0, 1, 2, 3] rfl) (by have h9 := hF; simp only [fl_it, i_bef] at h9; first | (rw [if_pos c2] at h9; exact h9) | (rw [if_neg c2] at h9; exact h9))
def n_bef (I : fl_TI) (q : Nat) (col : Int32) (rk : Nat) : Nat := fl_it (i_bef I q col) rk 0 0
theorem m_X0_leadsBefore (D : va_G) (dA : Nat → ClassId) (ad : Nat → Nat) (N : Nat) (I : fl_TI) (J : fl_TJ) {o nr mw rk : Nat} {col : Int32} (hN : 30 ≤ N) (hL : fl_lat o nr mw) (hrk : I o 4 = nI rk) (hrr : rk ≤ nr) : FM yX0_leadsBefore cX0_leadsBefore 4 (some .int) 0 D dA ad N [.ref (ad o), .int col] I J (fun v I' J' => v = some (.int (nI (n_bef I (o + 2 + nr) col rk))) ∧ I' = I ∧ J' = J) := by
  refine FM.ofW RX0 rfl (by decide +kernel) (Nat.le_of_ble_eq_true rfl) ?_
  intro p l e s m args below meth c ls X hr hlk hI hl
  have hx := X.1
  have hb := X.2.1
  have hl : lv_has ls 4 [(0, .ref (ad o)), (1, .int col)] := hl
  refine lv_iconst (v := nI 0) hx hb dX0_leadsBefore_0 (by decide) ?_
  refine lv_istore_n (lv' := [(2, .int (nI 0)), (0, .ref (ad o)), (1, .int col)]) hx hb dX0_leadsBefore_1 rfl hl (by decide) rfl (fun ls hl => ?_)
  refine lv_iconst (v := nI 0) hx hb dX0_leadsBefore_2 (by decide) ?_
  refine lv_istore_n (lv' := [(3, .int (nI 0)), (2, .int (nI 0)), (0, .ref (ad o)), (1, .int col)]) hx hb dX0_leadsBefore_3 rfl hl (by decide) rfl (fun ls hl => ?_)
  refine lp_bef X hN hL hrk hrr (n9 := n_bef I (o + 2 + nr) col rk) (fun H locs ls hI hl => ?_) rk 0 0 _ _ _ (Nat.zero_add _) hI hl rfl
  refine lv_iload_n hx hb dX0_leadsBefore_31 rfl (lv_at hl 1 rfl) ?_
  exact fl_iret X hr hlk hI dX0_leadsBefore_32 ⟨rfl, rfl, rfl⟩
def j_red1 (q r w : Nat) (t : Int64) (J : fl_TJ) : fl_TJ := fl_it (fun j J => fl_up J q j (J q j - t * J r j)) w 0 J
def j_red (q r cl w : Nat) (J : fl_TJ) : fl_TJ := if J r cl = 0 then J else j_red1 q r w (fd64 (J q cl) (J r cl)) J
theorem lp_red {p : Program} {l : Launch} {e : Env} {R : Room} {s : State} {m : MethodId} {args : Array Value} {below : List Frame} {meth : Method} {c : Code} {Q : State → Prop} {D : va_G} {dA : Nat → ClassId} {ad : Nat → Nat} {N : Nat} {A : Nat → Prop} {H0 : Heap} {I : fl_TI} {J9 : fl_TJ} (X : CallFix p m c cX0_reduceBy 7 s args fl_tb RX0) {o nr mw q a w cl : Nat} {t : Int64} (hN : 30 ≤ N) (hL : fl_lat o nr mw) (hq : q < N) (hq1 : fl_k q = 1) (hi : a < nr) (hw : I o 3 = nI w) (hwm : w ≤ mw) (hwq : w ≤ fl_n q)
    (kx : ∀ (H : Heap) (locs : List Loc) (ls : Array Slot), fl_I D dA ad N I J9 A s H0 H locs → lv_has ls 7 [(6, .int (nI w)), (4, .long t), (3, .int (nI cl)), (0, .ref (ad o)), (1, .int (nI a)), (2, .ref (ad q))] → W p l e R s m args below meth c H locs 0 0 Q (F0 m 74 ls [])) :
    ∀ (k i : Nat) (J : fl_TJ) (H : Heap) (locs : List Loc) (ls : Array Slot), i + k = w → fl_I D dA ad N I J A s H0 H locs → lv_has ls 7 [(6, .int (nI i)), (4, .long t), (3, .int (nI cl)), (0, .ref (ad o)), (1, .int (nI a)), (2, .ref (ad q))] → fl_it (fun j J => fl_up J q j (J q j - t * J (o + 2 + a) j)) k i J = J9 → W p l e R s m args below meth c H locs 0 0 Q (F0 m 40 ls []) := by
  have hx := X.1
  have hb := X.2.1
  have h21 := lat_b hL
  intro k
  induction k with
  | zero =>
    intro i J H locs ls hk hI hl hF
    have hF : J = J9 := hF
    subst hF
    have hk : w = i := by omega
    subst hk
    refine lv_iload hx hb dX0_reduceBy_40 (lv_at hl 0 rfl) ?_
    refine lv_aload_n hx hb dX0_reduceBy_42 rfl (lv_at hl 3 rfl) ?_
    refine fl_getL X hI dX0_reduceBy_43 hN hL 3 (by decide) wf_X0_24 rfl ?_
    refine W.eq (g2 := F0 m 46 ls [.int (nI w), .int (nI w)]) (by rw [hw]) ?_
    refine fn_icmp_ge X (tgt := 74) dX0_reduceBy_46 (by decide) (by omega) (by omega) (fun c1 => ?_) (fun c1 => absurd c1 (by omega))
    exact kx _ _ _ hI (lv_sub hl [0, 1, 2, 3, 4, 5] rfl)
  | succ k ih =>
    intro i J H locs ls hk hI hl hF
    refine lv_iload hx hb dX0_reduceBy_40 (lv_at hl 0 rfl) ?_
    refine lv_aload_n hx hb dX0_reduceBy_42 rfl (lv_at hl 3 rfl) ?_
    refine fl_getL X hI dX0_reduceBy_43 hN hL 3 (by decide) wf_X0_24 rfl ?_
    refine W.eq (g2 := F0 m 46 ls [.int (nI w), .int (nI i)]) (by rw [hw]) ?_
    refine fn_icmp_ge X (tgt := 74) dX0_reduceBy_46 (by decide) (by omega) (by omega) (fun c1 => absurd c1 (by omega)) (fun c1 => ?_)
    refine lv_aload_n hx hb dX0_reduceBy_49 rfl (lv_at hl 5 rfl) ?_
    refine lv_iload hx hb dX0_reduceBy_50 (lv_at hl 0 rfl) ?_
    refine lv_dup2_11 hx hb dX0_reduceBy_52 rfl rfl ?_
    refine fn_lald (k := q) X hI dX0_reduceBy_53 hq hq1 (by omega) ?_
    refine lv_lload hx hb dX0_reduceBy_54 (lv_at hl 1 rfl) ?_
    refine lv_aload_n hx hb dX0_reduceBy_56 rfl (lv_at hl 3 rfl) ?_
    refine fl_getL X hI dX0_reduceBy_57 hN hL 0 (by decide) wf_X0_11 rfl ?_
    refine lv_iload_n hx hb dX0_reduceBy_60 rfl (lv_at hl 4 rfl) ?_
    refine fn_aald3 (k := o + 1) X hI dX0_reduceBy_61 (by have := lat_b hL; omega) (lat_k1 hL) (by rw [lat_n1 hL]; omega) ?_
    refine lv_iload hx hb dX0_reduceBy_62 (lv_at hl 0 rfl) ?_
    refine fn_lald (k := o + 2 + a) X hI dX0_reduceBy_64 (by have := lat_b hL; omega) (lat_k2 hL (by omega)) (by rw [lat_n2 hL (by omega)]; omega) ?_
    refine lv_lmul hx hb dX0_reduceBy_65 ?_
    refine lv_lsub hx hb dX0_reduceBy_66 ?_
    refine fn_last (k := q) X hI dX0_reduceBy_67 hq hq1 (by omega) (fun H locs hI => ?_)
    refine fn_iinc (a := i) (lv' := [(6, .int (nI (i + 1))), (4, .long t), (3, .int (nI cl)), (0, .ref (ad o)), (1, .int (nI a)), (2, .ref (ad q))]) X dX0_reduceBy_68 hl (k := 0) rfl (by decide) rfl (fun ls hl => ?_)
    refine lv_goto (tgt := 40) hx hb dX0_reduceBy_71 (by decide) ?_
    exact ih (i + 1) _ _ _ _ (by omega) hI (lv_sub hl [0, 1, 2, 3, 4, 5] rfl) hF
theorem m_X0_reduceBy (D : va_G) (dA : Nat → ClassId) (ad : Nat → Nat) (N : Nat) (I : fl_TI) (J : fl_TJ) {o nr mw q a w cl : Nat} (hN : 30 ≤ N) (hL : fl_lat o nr mw) (hq : q < N) (hq1 : fl_k q = 1) (hi : a < nr) (hw : I o 3 = nI w) (hwm : w ≤ mw) (hwq : w ≤ fl_n q) (hc : I (o + 2 + nr) a = nI cl) (hcm : cl < mw) (hcq : cl < fl_n q) : FM yX0_reduceBy cX0_reduceBy 7 none 1 D dA ad N [.ref (ad o), .int (nI a), .ref (ad q)] I J (fun v I' J' => v = none ∧ I' = I ∧ J' = j_red q (o + 2 + a) cl w J) := by
  refine FM.ofW RX0 rfl (by decide +kernel) (Nat.le_of_ble_eq_true rfl) ?_
  intro p l e s m args below meth c ls X hr hlk hI hl
  have hx := X.1
  have hb := X.2.1
  have hl : lv_has ls 7 [(0, .ref (ad o)), (1, .int (nI a)), (2, .ref (ad q))] := hl
  have h21 := lat_b hL
  refine lv_aload_n hx hb dX0_reduceBy_0 rfl (lv_at hl 0 rfl) ?_
  refine fl_getL X hI dX0_reduceBy_1 hN hL 1 (by decide) wf_X0_16 rfl ?_
  refine lv_iload_n hx hb dX0_reduceBy_4 rfl (lv_at hl 1 rfl) ?_
  refine fn_iald (k := o + 2 + nr) X hI dX0_reduceBy_5 (by have := lat_b hL; omega) (lat_kl hL) (by rw [lat_nl hL]; omega) ?_
  refine W.eq (g2 := F0 m 6 ls [.int (nI cl)]) (by rw [hc]) ?_
  refine lv_istore_n (lv' := [(3, .int (nI cl)), (0, .ref (ad o)), (1, .int (nI a)), (2, .ref (ad q))]) hx hb dX0_reduceBy_6 rfl hl (by decide) rfl (fun ls hl => ?_)
  refine lv_aload_n hx hb dX0_reduceBy_7 rfl (lv_at hl 1 rfl) ?_
  refine fl_getL X hI dX0_reduceBy_8 hN hL 0 (by decide) wf_X0_11 rfl ?_
  refine lv_iload_n hx hb dX0_reduceBy_11 rfl (lv_at hl 2 rfl) ?_
  refine fn_aald3 (k := o + 1) X hI dX0_reduceBy_12 (by have := lat_b hL; omega) (lat_k1 hL) (by rw [lat_n1 hL]; omega) ?_
  refine lv_iload_n hx hb dX0_reduceBy_13 rfl (lv_at hl 0 rfl) ?_
  refine fn_lald (k := o + 2 + a) X hI dX0_reduceBy_14 (by have := lat_b hL; omega) (lat_k2 hL (by omega)) (by rw [lat_n2 hL (by omega)]; omega) ?_
  refine lv_lconst (v := 0) hx hb dX0_reduceBy_15 rfl ?_
  refine fl_lc_ne (tgt := 21) hx hb dX0_reduceBy_16 dX0_reduceBy_17 (by decide) (fun c1 => ?_) (fun c1 => ?_)
  · refine lv_aload_n hx hb dX0_reduceBy_21 rfl (lv_at hl 3 rfl) ?_
    refine lv_iload_n hx hb dX0_reduceBy_22 rfl (lv_at hl 0 rfl) ?_
    refine fn_lald (k := q) X hI dX0_reduceBy_23 hq hq1 (by omega) ?_
    refine lv_aload_n hx hb dX0_reduceBy_24 rfl (lv_at hl 1 rfl) ?_
    refine fl_getL X hI dX0_reduceBy_25 hN hL 0 (by decide) wf_X0_11 rfl ?_
    refine lv_iload_n hx hb dX0_reduceBy_28 rfl (lv_at hl 2 rfl) ?_
    refine fn_aald3 (k := o + 1) X hI dX0_reduceBy_29 (by have := lat_b hL; omega) (lat_k1 hL) (by rw [lat_n1 hL]; omega) ?_
    refine lv_iload_n hx hb dX0_reduceBy_30 rfl (lv_at hl 0 rfl) ?_
    refine fn_lald (k := o + 2 + a) X hI dX0_reduceBy_31 (by have := lat_b hL; omega) (lat_k2 hL (by omega)) (by rw [lat_n2 hL (by omega)]; omega) ?_
    refine fl_callS (As := [.long (J q cl), .long (J (o + 2 + a) cl)]) (rest := []) X hI dX0_reduceBy_32 (m_floorDiv D dA ad N I J (J q cl) (J (o + 2 + a) cl) c1) wc_yJ9_floorDiv_f86c9 wm_X0_42 ws_yJ9_floorDiv_f86c9 wn_J9 hd_yJ9_floorDiv_f86c9 rfl ⟨by first | decide | omega, by first | decide | omega⟩ hl.1 (Nat.le_of_ble_eq_true rfl) (fun v I2 J2 H locs hp hI => ?_)
    obtain ⟨hv, hI2, hJ2⟩ := hp
    subst hv
    rw [hI2, hJ2] at hI
    refine W.eq (g2 := F0 m 35 ls [.long (fd64 (J q cl) (J (o + 2 + a) cl))]) rfl ?_
    refine lv_lstore (lv' := [(4, .long (fd64 (J q cl) (J (o + 2 + a) cl))), (3, .int (nI cl)), (0, .ref (ad o)), (1, .int (nI a)), (2, .ref (ad q))]) hx hb dX0_reduceBy_35 hl (by decide) rfl (fun ls hl => ?_)
    refine lv_iconst (v := nI 0) hx hb dX0_reduceBy_37 (by decide) ?_
    refine lv_istore (lv' := [(6, .int (nI 0)), (4, .long (fd64 (J q cl) (J (o + 2 + a) cl))), (3, .int (nI cl)), (0, .ref (ad o)), (1, .int (nI a)), (2, .ref (ad q))]) hx hb dX0_reduceBy_38 hl (by decide) rfl (fun ls hl => ?_)
    exact lp_red X hN hL hq hq1 hi hw hwm hwq (J9 := j_red q (o + 2 + a) cl w J) (fun H locs ls hI hl => fl_vret X hr hlk hI dX0_reduceBy_74 ⟨rfl, rfl, rfl⟩) w 0 J _ _ _ (Nat.zero_add _) hI hl (by unfold j_red; rw [if_neg c1]; rfl)
  · exact fl_vret X hr hlk hI dX0_reduceBy_20 ⟨rfl, rfl, by unfold j_red; rw [if_pos c1]⟩
end
section
/-! divideOut, addLead, reduce, bringToForm -/
def j_div1 (ru rl w : Nat) (t : Int64) (J : fl_TJ) : fl_TJ := fl_it (fun j J => fl_up (fl_up J ru j (J rl j)) rl j (J ru j - t * J rl j)) w 0 J
def j_div (ru rl cl w : Nat) : Nat → fl_TJ → fl_TJ
  | 0, J => J
  | k + 1, J => if J rl cl = 0 then J else j_div ru rl cl w k (j_div1 ru rl w (fd64 (J ru cl) (J rl cl)) J)
theorem lp_div1 {p : Program} {l : Launch} {e : Env} {R : Room} {s : State} {m : MethodId} {args : Array Value} {below : List Frame} {meth : Method} {c : Code} {Q : State → Prop} {D : va_G} {dA : Nat → ClassId} {ad : Nat → Nat} {N : Nat} {A : Nat → Prop} {H0 : Heap} {I : fl_TI} {J9 : fl_TJ} (X : CallFix p m c cX0_divideOut 10 s args fl_tb RX0) {o nr mw a b cl w g : Nat} {t : Int64} (hN : 30 ≤ N) (hL : fl_lat o nr mw) (ha : a < nr) (hb2 : b < nr) (hcl : cl < w) (hw : I o 3 = nI w) (hwm : w ≤ mw)
    (kx : ∀ (H : Heap) (locs : List Loc) (ls : Array Slot), fl_I D dA ad N I J9 A s H0 H locs → lv_has ls 10 [(7, .int (nI w)), (5, .long t), (4, .int (nI g)), (0, .ref (ad o)), (1, .int (nI a)), (2, .int (nI b)), (3, .int (nI cl))] → W p l e R s m args below meth c H locs 0 0 Q (F0 m 116 ls [])) :
    ∀ (k i : Nat) (J : fl_TJ) (H : Heap) (locs : List Loc) (ls : Array Slot), i + k = w → fl_I D dA ad N I J A s H0 H locs → lv_has ls 10 [(7, .int (nI i)), (5, .long t), (4, .int (nI g)), (0, .ref (ad o)), (1, .int (nI a)), (2, .int (nI b)), (3, .int (nI cl))] → fl_it (fun j J => fl_up (fl_up J (o + 2 + a) j (J (o + 2 + b) j)) (o + 2 + b) j (J (o + 2 + a) j - t * J (o + 2 + b) j)) k i J = J9 → W p l e R s m args below meth c H locs 0 0 Q (F0 m 48 ls []) := by
  have hx := X.1
  have hb := X.2.1
  have h21 := lat_b hL
  intro k
  induction k with
  | zero =>
    intro i J H locs ls hk hI hl hF
    have hF : J = J9 := hF
    subst hF
    have hk : w = i := by omega
    subst hk
    refine lv_iload hx hb dX0_divideOut_48 (lv_at hl 0 rfl) ?_
    refine lv_aload_n hx hb dX0_divideOut_50 rfl (lv_at hl 3 rfl) ?_
    refine fl_getL X hI dX0_divideOut_51 hN hL 3 (by decide) wf_X0_24 rfl ?_
    refine W.eq (g2 := F0 m 54 ls [.int (nI w), .int (nI w)]) (by rw [hw]) ?_
    refine fn_icmp_ge X (tgt := 116) dX0_divideOut_54 (by decide) (by omega) (by omega) (fun c1 => ?_) (fun c1 => absurd c1 (by omega))
    exact kx _ _ _ hI (lv_sub hl [0, 1, 2, 3, 4, 5, 6] rfl)
  | succ k ih =>
    intro i J H locs ls hk hI hl hF
    refine lv_iload hx hb dX0_divideOut_48 (lv_at hl 0 rfl) ?_
    refine lv_aload_n hx hb dX0_divideOut_50 rfl (lv_at hl 3 rfl) ?_
    refine fl_getL X hI dX0_divideOut_51 hN hL 3 (by decide) wf_X0_24 rfl ?_
    refine W.eq (g2 := F0 m 54 ls [.int (nI w), .int (nI i)]) (by rw [hw]) ?_
    refine fn_icmp_ge X (tgt := 116) dX0_divideOut_54 (by decide) (by omega) (by omega) (fun c1 => absurd c1 (by omega)) (fun c1 => ?_)
    refine lv_aload_n hx hb dX0_divideOut_57 rfl (lv_at hl 3 rfl) ?_
    refine fl_getL X hI dX0_divideOut_58 hN hL 0 (by decide) wf_X0_11 rfl ?_
    refine lv_iload_n hx hb dX0_divideOut_61 rfl (lv_at hl 4 rfl) ?_
    refine fn_aald3 (k := o + 1) X hI dX0_divideOut_62 (by have := lat_b hL; omega) (lat_k1 hL) (by rw [lat_n1 hL]; omega) ?_
    refine lv_iload hx hb dX0_divideOut_63 (lv_at hl 0 rfl) ?_
    refine fn_lald (k := o + 2 + a) X hI dX0_divideOut_65 (by have := lat_b hL; omega) (lat_k2 hL (by omega)) (by rw [lat_n2 hL (by omega)]; omega) ?_
    refine lv_lload hx hb dX0_divideOut_66 (lv_at hl 1 rfl) ?_
    refine lv_aload_n hx hb dX0_divideOut_68 rfl (lv_at hl 3 rfl) ?_
    refine fl_getL X hI dX0_divideOut_69 hN hL 0 (by decide) wf_X0_11 rfl ?_
    refine lv_iload_n hx hb dX0_divideOut_72 rfl (lv_at hl 5 rfl) ?_
    refine fn_aald3 (k := o + 1) X hI dX0_divideOut_73 (by have := lat_b hL; omega) (lat_k1 hL) (by rw [lat_n1 hL]; omega) ?_
    refine lv_iload hx hb dX0_divideOut_74 (lv_at hl 0 rfl) ?_
    refine fn_lald (k := o + 2 + b) X hI dX0_divideOut_76 (by have := lat_b hL; omega) (lat_k2 hL (by omega)) (by rw [lat_n2 hL (by omega)]; omega) ?_
    refine lv_lmul hx hb dX0_divideOut_77 ?_
    refine lv_lsub hx hb dX0_divideOut_78 ?_
    refine lv_lstore (lv' := [(8, .long ((J (o + 2 + a) i) - (t * (J (o + 2 + b) i)))), (7, .int (nI i)), (5, .long t), (4, .int (nI g)), (0, .ref (ad o)), (1, .int (nI a)), (2, .int (nI b)), (3, .int (nI cl))]) hx hb dX0_divideOut_79 hl (by decide) rfl (fun ls hl => ?_)
    refine lv_aload_n hx hb dX0_divideOut_81 rfl (lv_at hl 4 rfl) ?_
    refine fl_getL X hI dX0_divideOut_82 hN hL 0 (by decide) wf_X0_11 rfl ?_
    refine lv_iload_n hx hb dX0_divideOut_85 rfl (lv_at hl 5 rfl) ?_
    refine fn_aald3 (k := o + 1) X hI dX0_divideOut_86 (by have := lat_b hL; omega) (lat_k1 hL) (by rw [lat_n1 hL]; omega) ?_
    refine lv_iload hx hb dX0_divideOut_87 (lv_at hl 1 rfl) ?_
    refine lv_aload_n hx hb dX0_divideOut_89 rfl (lv_at hl 4 rfl) ?_
    refine fl_getL X hI dX0_divideOut_90 hN hL 0 (by decide) wf_X0_11 rfl ?_
    refine lv_iload_n hx hb dX0_divideOut_93 rfl (lv_at hl 6 rfl) ?_
    refine fn_aald3 (k := o + 1) X hI dX0_divideOut_94 (by have := lat_b hL; omega) (lat_k1 hL) (by rw [lat_n1 hL]; omega) ?_
    refine lv_iload hx hb dX0_divideOut_95 (lv_at hl 1 rfl) ?_
    refine fn_lald (k := o + 2 + b) X hI dX0_divideOut_97 (by have := lat_b hL; omega) (lat_k2 hL (by omega)) (by rw [lat_n2 hL (by omega)]; omega) ?_
    refine fn_last (k := o + 2 + a) X hI dX0_divideOut_98 (by have := lat_b hL; omega) (lat_k2 hL (by omega)) (by rw [lat_n2 hL (by omega)]; omega) (fun H locs hI => ?_)
    refine lv_aload_n hx hb dX0_divideOut_99 rfl (lv_at hl 4 rfl) ?_
    refine fl_getL X hI dX0_divideOut_100 hN hL 0 (by decide) wf_X0_11 rfl ?_
    refine lv_iload_n hx hb dX0_divideOut_103 rfl (lv_at hl 6 rfl) ?_
    refine fn_aald3 (k := o + 1) X hI dX0_divideOut_104 (by have := lat_b hL; omega) (lat_k1 hL) (by rw [lat_n1 hL]; omega) ?_
    refine lv_iload hx hb dX0_divideOut_105 (lv_at hl 1 rfl) ?_
    refine lv_lload hx hb dX0_divideOut_107 (lv_at hl 0 rfl) ?_
    refine fn_last (k := o + 2 + b) X hI dX0_divideOut_109 (by have := lat_b hL; omega) (lat_k2 hL (by omega)) (by rw [lat_n2 hL (by omega)]; omega) (fun H locs hI => ?_)
    refine fn_iinc (a := i) (lv' := [(7, .int (nI (i + 1))), (8, .long ((J (o + 2 + a) i) - (t * (J (o + 2 + b) i)))), (5, .long t), (4, .int (nI g)), (0, .ref (ad o)), (1, .int (nI a)), (2, .int (nI b)), (3, .int (nI cl))]) X dX0_divideOut_110 hl (k := 1) rfl (by decide) rfl (fun ls hl => ?_)
    refine lv_goto (tgt := 48) hx hb dX0_divideOut_113 (by decide) ?_
    exact ih (i + 1) _ _ _ _ (by omega) hI (lv_sub hl [0, 2, 3, 4, 5, 6, 7] rfl) hF
theorem lp_div {p : Program} {l : Launch} {e : Env} {R : Room} {s : State} {m : MethodId} {args : Array Value} {below : List Frame} {meth : Method} {c : Code} {Q : State → Prop} {D : va_G} {dA : Nat → ClassId} {ad : Nat → Nat} {N : Nat} {A : Nat → Prop} {H0 : Heap} {I : fl_TI} {J9 : fl_TJ} (X : CallFix p m c cX0_divideOut 10 s args fl_tb RX0) {o nr mw a b cl w : Nat} (hN : 30 ≤ N) (hL : fl_lat o nr mw) (ha : a < nr) (hb2 : b < nr) (hcl : cl < w) (hw : I o 3 = nI w) (hwm : w ≤ mw) (hR : 0 + 1 ≤ R.frames ∧ 8 + (6 + 11) + 40 * 0 ≤ R.locals)
    (kx : ∀ (g : Nat) (H : Heap) (locs : List Loc) (ls : Array Slot), fl_I D dA ad N I J9 A s H0 H locs → lv_has ls 10 [(4, .int (nI g)), (0, .ref (ad o)), (1, .int (nI a)), (2, .int (nI b)), (3, .int (nI cl))] → W p l e R s m args below meth c H locs 0 0 Q (F0 m 122 ls [])) :
    ∀ (k g : Nat) (J : fl_TJ) (H : Heap) (locs : List Loc) (ls : Array Slot), g + k = 200 → fl_I D dA ad N I J A s H0 H locs → lv_has ls 10 [(4, .int (nI g)), (0, .ref (ad o)), (1, .int (nI a)), (2, .int (nI b)), (3, .int (nI cl))] → j_div (o + 2 + a) (o + 2 + b) cl w k J = J9 → W p l e R s m args below meth c H locs 0 0 Q (F0 m 3 ls []) := by
  have hx := X.1
  have hb := X.2.1
  have h21 := lat_b hL
  intro k
  induction k with
  | zero =>
    intro g J H locs ls hk hI hl hF
    have hF : J = J9 := hF
    subst hF
    have hk : 200 = g := by omega
    subst hk
    refine lv_iload hx hb dX0_divideOut_3 (lv_at hl 0 rfl) ?_
    refine lv_sipush (v := nI 200) hx hb dX0_divideOut_5 (by decide) ?_
    refine fn_icmp_ge X (tgt := 122) dX0_divideOut_8 (by decide) (by omega) (by omega) (fun c1 => ?_) (fun c1 => absurd c1 (by omega))
    exact kx _ _ _ _ hI (lv_sub hl [0, 1, 2, 3, 4] rfl)
  | succ k ih =>
    intro g J H locs ls hk hI hl hF
    refine lv_iload hx hb dX0_divideOut_3 (lv_at hl 0 rfl) ?_
    refine lv_sipush (v := nI 200) hx hb dX0_divideOut_5 (by decide) ?_
    refine fn_icmp_ge X (tgt := 122) dX0_divideOut_8 (by decide) (by omega) (by omega) (fun c1 => absurd c1 (by omega)) (fun c1 => ?_)
    refine lv_aload_n hx hb dX0_divideOut_11 rfl (lv_at hl 1 rfl) ?_
    refine fl_getL X hI dX0_divideOut_12 hN hL 0 (by decide) wf_X0_11 rfl ?_
    refine lv_iload_n hx hb dX0_divideOut_15 rfl (lv_at hl 3 rfl) ?_
    refine fn_aald3 (k := o + 1) X hI dX0_divideOut_16 (by have := lat_b hL; omega) (lat_k1 hL) (by rw [lat_n1 hL]; omega) ?_
    refine lv_iload_n hx hb dX0_divideOut_17 rfl (lv_at hl 4 rfl) ?_
    refine fn_lald (k := o + 2 + b) X hI dX0_divideOut_18 (by have := lat_b hL; omega) (lat_k2 hL (by omega)) (by rw [lat_n2 hL (by omega)]; omega) ?_
    refine lv_lconst (v := 0) hx hb dX0_divideOut_19 rfl ?_
    refine fl_lc_eq (tgt := 122) hx hb dX0_divideOut_20 dX0_divideOut_21 (by decide) (fun c2 => ?_) (fun c2 => ?_)
    · have hF : J = J9 := by rw [← hF]; simp only [j_div]; rw [if_pos c2]
      subst hF
      exact kx _ _ _ _ hI (lv_sub hl [0, 1, 2, 3, 4] rfl)
    · refine lv_aload_n hx hb dX0_divideOut_24 rfl (lv_at hl 1 rfl) ?_
      refine fl_getL X hI dX0_divideOut_25 hN hL 0 (by decide) wf_X0_11 rfl ?_
      refine lv_iload_n hx hb dX0_divideOut_28 rfl (lv_at hl 2 rfl) ?_
      refine fn_aald3 (k := o + 1) X hI dX0_divideOut_29 (by have := lat_b hL; omega) (lat_k1 hL) (by rw [lat_n1 hL]; omega) ?_
      refine lv_iload_n hx hb dX0_divideOut_30 rfl (lv_at hl 4 rfl) ?_
      refine fn_lald (k := o + 2 + a) X hI dX0_divideOut_31 (by have := lat_b hL; omega) (lat_k2 hL (by omega)) (by rw [lat_n2 hL (by omega)]; omega) ?_
      refine lv_aload_n hx hb dX0_divideOut_32 rfl (lv_at hl 1 rfl) ?_
      refine fl_getL X hI dX0_divideOut_33 hN hL 0 (by decide) wf_X0_11 rfl ?_
      refine lv_iload_n hx hb dX0_divideOut_36 rfl (lv_at hl 3 rfl) ?_
      refine fn_aald3 (k := o + 1) X hI dX0_divideOut_37 (by have := lat_b hL; omega) (lat_k1 hL) (by rw [lat_n1 hL]; omega) ?_
      refine lv_iload_n hx hb dX0_divideOut_38 rfl (lv_at hl 4 rfl) ?_
      refine fn_lald (k := o + 2 + b) X hI dX0_divideOut_39 (by have := lat_b hL; omega) (lat_k2 hL (by omega)) (by rw [lat_n2 hL (by omega)]; omega) ?_
      refine fl_callS (As := [.long (J (o + 2 + a) cl), .long (J (o + 2 + b) cl)]) (rest := []) X hI dX0_divideOut_40 (m_floorDiv D dA ad N I J (J (o + 2 + a) cl) (J (o + 2 + b) cl) c2) wc_yJ9_floorDiv_f86c9 wm_X0_42 ws_yJ9_floorDiv_f86c9 wn_J9 hd_yJ9_floorDiv_f86c9 rfl ⟨by first | decide | omega, by first | decide | omega⟩ hl.1 (Nat.le_of_ble_eq_true rfl) (fun v I2 J2 H locs hp hI => ?_)
      obtain ⟨hv, hI2, hJ2⟩ := hp
      subst hv
      rw [hI2, hJ2] at hI
      refine W.eq (g2 := F0 m 43 ls [.long (fd64 (J (o + 2 + a) cl) (J (o + 2 + b) cl))]) rfl ?_
      refine lv_lstore (lv' := [(5, .long (fd64 (J (o + 2 + a) cl) (J (o + 2 + b) cl))), (4, .int (nI g)), (0, .ref (ad o)), (1, .int (nI a)), (2, .int (nI b)), (3, .int (nI cl))]) hx hb dX0_divideOut_43 hl (by decide) rfl (fun ls hl => ?_)
      refine lv_iconst (v := nI 0) hx hb dX0_divideOut_45 (by decide) ?_
      refine lv_istore (lv' := [(7, .int (nI 0)), (5, .long (fd64 (J (o + 2 + a) cl) (J (o + 2 + b) cl))), (4, .int (nI g)), (0, .ref (ad o)), (1, .int (nI a)), (2, .int (nI b)), (3, .int (nI cl))]) hx hb dX0_divideOut_46 hl (by decide) rfl (fun ls hl => ?_)
      refine lp_div1 X hN hL ha hb2 hcl hw hwm (J9 := j_div1 (o + 2 + a) (o + 2 + b) w (fd64 (J (o + 2 + a) cl) (J (o + 2 + b) cl)) J) (fun H locs ls hI hl => ?_) w 0 J _ _ _ (Nat.zero_add _) hI (lv_sub hl [0, 1, 2, 3, 4, 5, 6] rfl) rfl
      refine fn_iinc (a := g) (lv' := [(4, .int (nI (g + 1))), (7, .int (nI w)), (5, .long (fd64 (J (o + 2 + a) cl) (J (o + 2 + b) cl))), (0, .ref (ad o)), (1, .int (nI a)), (2, .int (nI b)), (3, .int (nI cl))]) X dX0_divideOut_116 hl (k := 2) rfl (by decide) rfl (fun ls hl => ?_)
      refine lv_goto (tgt := 3) hx hb dX0_divideOut_119 (by decide) ?_
      exact ih (g + 1) _ _ _ _ (by omega) hI (lv_sub hl [0, 3, 4, 5, 6] rfl) (by rw [← hF]; simp only [j_div]; rw [if_neg c2])
theorem m_X0_divideOut (D : va_G) (dA : Nat → ClassId) (ad : Nat → Nat) (N : Nat) (I : fl_TI) (J : fl_TJ) {o nr mw a b cl w : Nat} (hN : 30 ≤ N) (hL : fl_lat o nr mw) (ha : a < nr) (hb2 : b < nr) (hcl : cl < w) (hw : I o 3 = nI w) (hwm : w ≤ mw) : FM yX0_divideOut cX0_divideOut 10 none 1 D dA ad N [.ref (ad o), .int (nI a), .int (nI b), .int (nI cl)] I J (fun v I' J' => v = none ∧ I' = I ∧ J' = j_div (o + 2 + a) (o + 2 + b) cl w 200 J) := by
  refine FM.ofW RX0 rfl (by decide +kernel) (Nat.le_of_ble_eq_true rfl) ?_
  intro p l e s m args below meth c ls X hr hlk hI hl
  have hx := X.1
  have hb := X.2.1
  have hl : lv_has ls 10 [(0, .ref (ad o)), (1, .int (nI a)), (2, .int (nI b)), (3, .int (nI cl))] := hl
  refine lv_iconst (v := nI 0) hx hb dX0_divideOut_0 (by decide) ?_
  refine lv_istore (lv' := [(4, .int (nI 0)), (0, .ref (ad o)), (1, .int (nI a)), (2, .int (nI b)), (3, .int (nI cl))]) hx hb dX0_divideOut_1 hl (by decide) rfl (fun ls hl => ?_)
  exact lp_div X hN hL ha hb2 hcl hw hwm ⟨by decide, by decide⟩ (fun g H locs ls hI hl => fl_vret X hr hlk hI dX0_divideOut_122 ⟨rfl, rfl, rfl⟩) 200 0 J _ _ _ (Nat.zero_add _) hI hl rfl
theorem lp_reduce {p : Program} {l : Launch} {e : Env} {R : Room} {s : State} {m : MethodId} {args : Array Value} {below : List Frame} {meth : Method} {c : Code} {Q : State → Prop} {D : va_G} {dA : Nat → ClassId} {ad : Nat → Nat} {N : Nat} {A : Nat → Prop} {H0 : Heap} {I : fl_TI} {J9 : fl_TJ} (X : CallFix p m c cX0_reduce 3 s args fl_tb RX0) {o nr mw q w rk : Nat} {ld : Nat → Nat} (hN : 30 ≤ N) (hL : fl_lat o nr mw) (hq : q < N) (hq1 : fl_k q = 1) (hw : I o 3 = nI w) (hwm : w ≤ mw) (hwq : w ≤ fl_n q) (hrk : I o 4 = nI rk) (hrr : rk ≤ nr) (hld : ∀ i, i < rk → I (o + 2 + nr) i = nI (ld i) ∧ ld i < mw ∧ ld i < fl_n q) (hR : 1 + 1 ≤ R.frames ∧ 8 + (7 + 11) + 40 * 1 ≤ R.locals)
    (kx : ∀ (H : Heap) (locs : List Loc) (ls : Array Slot), fl_I D dA ad N I J9 A s H0 H locs → lv_has ls 3 [(2, .int (nI rk)), (0, .ref (ad o)), (1, .ref (ad q))] → W p l e R s m args below meth c H locs 0 0 Q (F0 m 22 ls [])) :
    ∀ (k i : Nat) (J : fl_TJ) (H : Heap) (locs : List Loc) (ls : Array Slot), i + k = rk → fl_I D dA ad N I J A s H0 H locs → lv_has ls 3 [(2, .int (nI i)), (0, .ref (ad o)), (1, .ref (ad q))] → fl_it (fun i J => j_red q (o + 2 + i) (ld i) w J) k i J = J9 → W p l e R s m args below meth c H locs 0 0 Q (F0 m 2 ls []) := by
  have hx := X.1
  have hb := X.2.1
  have h21 := lat_b hL
  intro k
  induction k with
  | zero =>
    intro i J H locs ls hk hI hl hF
    have hF : J = J9 := hF
    subst hF
    have hk : rk = i := by omega
    subst hk
    refine lv_iload_n hx hb dX0_reduce_2 rfl (lv_at hl 0 rfl) ?_
    refine lv_aload_n hx hb dX0_reduce_3 rfl (lv_at hl 1 rfl) ?_
    refine fl_getL X hI dX0_reduce_4 hN hL 4 (by decide) wf_X0_27 rfl ?_
    refine W.eq (g2 := F0 m 7 ls [.int (nI rk), .int (nI rk)]) (by rw [hrk]) ?_
    refine fn_icmp_ge X (tgt := 22) dX0_reduce_7 (by decide) (by omega) (by omega) (fun c1 => ?_) (fun c1 => absurd c1 (by omega))
    exact kx _ _ _ hI (lv_sub hl [0, 1, 2] rfl)
  | succ k ih =>
    intro i J H locs ls hk hI hl hF
    refine lv_iload_n hx hb dX0_reduce_2 rfl (lv_at hl 0 rfl) ?_
    refine lv_aload_n hx hb dX0_reduce_3 rfl (lv_at hl 1 rfl) ?_
    refine fl_getL X hI dX0_reduce_4 hN hL 4 (by decide) wf_X0_27 rfl ?_
    refine W.eq (g2 := F0 m 7 ls [.int (nI rk), .int (nI i)]) (by rw [hrk]) ?_
    refine fn_icmp_ge X (tgt := 22) dX0_reduce_7 (by decide) (by omega) (by omega) (fun c1 => absurd c1 (by omega)) (fun c1 => ?_)
    refine lv_aload_n hx hb dX0_reduce_10 rfl (lv_at hl 1 rfl) ?_
    refine lv_iload_n hx hb dX0_reduce_11 rfl (lv_at hl 0 rfl) ?_
    refine lv_aload_n hx hb dX0_reduce_12 rfl (lv_at hl 2 rfl) ?_
    refine fl_callV (k := o) (As := [.int (nI i), .ref (ad q)]) (rest := []) X hI dX0_reduce_13 (m_X0_reduceBy D dA ad N I J hN hL hq hq1 (by omega) hw hwm hwq (hld _ (by omega)).1 (hld _ (by omega)).2.1 (hld _ (by omega)).2.2) (by have := lat_b hL; omega) (fl_c_4 (lat_k hL)) rfl rfl wc_yX0_reduceBy wm_X0_48 wi_yX0_reduceBy wl_yX0_reduceBy wn_X0 hd_yX0_reduceBy rfl ⟨by first | decide | omega, by first | decide | omega⟩ hl.1 (Nat.le_of_ble_eq_true rfl) (fun v I2 J2 H locs hp hI => ?_)
    obtain ⟨hv, hI2, hJ2⟩ := hp
    subst hv
    rw [hI2, hJ2] at hI
    refine W.eq (g2 := F0 m 16 ls []) rfl ?_
    refine fn_iinc (a := i) (lv' := [(2, .int (nI (i + 1))), (0, .ref (ad o)), (1, .ref (ad q))]) X dX0_reduce_16 hl (k := 0) rfl (by decide) rfl (fun ls hl => ?_)
    refine lv_goto (tgt := 2) hx hb dX0_reduce_19 (by decide) ?_
    exact ih (i + 1) _ _ _ _ (by omega) hI (lv_sub hl [0, 1, 2] rfl) hF
def j_reduce (o q w rk : Nat) (ld : Nat → Nat) (J : fl_TJ) : fl_TJ := fl_it (fun i J => j_red q (o + 2 + i) (ld i) w J) rk 0 J
theorem m_X0_reduce (D : va_G) (dA : Nat → ClassId) (ad : Nat → Nat) (N : Nat) (I : fl_TI) (J : fl_TJ) {o nr mw q w rk : Nat} {ld : Nat → Nat} (hN : 30 ≤ N) (hL : fl_lat o nr mw) (hq : q < N) (hq1 : fl_k q = 1) (hw : I o 3 = nI w) (hwm : w ≤ mw) (hwq : w ≤ fl_n q) (hrk : I o 4 = nI rk) (hrr : rk ≤ nr) (hld : ∀ i, i < rk → I (o + 2 + nr) i = nI (ld i) ∧ ld i < mw ∧ ld i < fl_n q) : FM yX0_reduce cX0_reduce 3 none 2 D dA ad N [.ref (ad o), .ref (ad q)] I J (fun v I' J' => v = none ∧ I' = I ∧ J' = j_reduce o q w rk ld J) := by
  refine FM.ofW RX0 rfl (by decide +kernel) (Nat.le_of_ble_eq_true rfl) ?_
  intro p l e s m args below meth c ls X hr hlk hI hl
  have hx := X.1
  have hb := X.2.1
  have hl : lv_has ls 3 [(0, .ref (ad o)), (1, .ref (ad q))] := hl
  refine lv_iconst (v := nI 0) hx hb dX0_reduce_0 (by decide) ?_
  refine lv_istore_n (lv' := [(2, .int (nI 0)), (0, .ref (ad o)), (1, .ref (ad q))]) hx hb dX0_reduce_1 rfl hl (by decide) rfl (fun ls hl => ?_)
  exact lp_reduce X hN hL hq hq1 hw hwm hwq hrk hrr hld ⟨by decide, by decide⟩ (fun H locs ls hI hl => fl_vret X hr hlk hI dX0_reduce_22 ⟨rfl, rfl, rfl⟩) rk 0 J _ _ _ (Nat.zero_add _) hI hl rfl
def j_neg (r w : Nat) (J : fl_TJ) : fl_TJ := fl_it (fun j J => fl_up J r j (-(J r j))) w 0 J
def j_add1 (o rk cl w : Nat) (J : fl_TJ) : fl_TJ := fl_it (fun i J => j_red (o + 2 + i) (o + 2 + rk) cl w J) rk 0 J
def j_add (o rk cl w : Nat) (J : fl_TJ) : fl_TJ := j_add1 o rk cl w (if J (o + 2 + rk) cl < 0 then j_neg (o + 2 + rk) w J else J)
def i_add (o nr rk cl : Nat) (I : fl_TI) : fl_TI := fl_up (fl_up I (o + 2 + nr) rk (nI cl)) o 4 (nI (rk + 1))
theorem lp_neg {p : Program} {l : Launch} {e : Env} {R : Room} {s : State} {m : MethodId} {args : Array Value} {below : List Frame} {meth : Method} {c : Code} {Q : State → Prop} {D : va_G} {dA : Nat → ClassId} {ad : Nat → Nat} {N : Nat} {A : Nat → Prop} {H0 : Heap} {I : fl_TI} {J9 : fl_TJ} (X : CallFix p m c cX0_addLead 3 s args fl_tb RX0) {o nr mw rk cl w : Nat} (hN : 30 ≤ N) (hL : fl_lat o nr mw) (hrk : I o 4 = nI rk) (hrr : rk < nr) (hcl : cl < w) (hw : I o 3 = nI w) (hwm : w ≤ mw)
    (kx : ∀ (H : Heap) (locs : List Loc) (ls : Array Slot), fl_I D dA ad N I J9 A s H0 H locs → lv_has ls 3 [(2, .int (nI w)), (0, .ref (ad o)), (1, .int (nI cl))] → W p l e R s m args below meth c H locs 0 0 Q (F0 m 55 ls [])) :
    ∀ (k i : Nat) (J : fl_TJ) (H : Heap) (locs : List Loc) (ls : Array Slot), i + k = w → fl_I D dA ad N I J A s H0 H locs → lv_has ls 3 [(2, .int (nI i)), (0, .ref (ad o)), (1, .int (nI cl))] → fl_it (fun j J => fl_up J (o + 2 + rk) j (-(J (o + 2 + rk) j))) k i J = J9 → W p l e R s m args below meth c H locs 0 0 Q (F0 m 18 ls []) := by
  have hx := X.1
  have hb := X.2.1
  have h21 := lat_b hL
  intro k
  induction k with
  | zero =>
    intro i J H locs ls hk hI hl hF
    have hF : J = J9 := hF
    subst hF
    have hk : w = i := by omega
    subst hk
    refine lv_iload_n hx hb dX0_addLead_18 rfl (lv_at hl 0 rfl) ?_
    refine lv_aload_n hx hb dX0_addLead_19 rfl (lv_at hl 1 rfl) ?_
    refine fl_getL X hI dX0_addLead_20 hN hL 3 (by decide) wf_X0_24 rfl ?_
    refine W.eq (g2 := F0 m 23 ls [.int (nI w), .int (nI w)]) (by rw [hw]) ?_
    refine fn_icmp_ge X (tgt := 55) dX0_addLead_23 (by decide) (by omega) (by omega) (fun c1 => ?_) (fun c1 => absurd c1 (by omega))
    exact kx _ _ _ hI (lv_sub hl [0, 1, 2] rfl)
  | succ k ih =>
    intro i J H locs ls hk hI hl hF
    refine lv_iload_n hx hb dX0_addLead_18 rfl (lv_at hl 0 rfl) ?_
    refine lv_aload_n hx hb dX0_addLead_19 rfl (lv_at hl 1 rfl) ?_
    refine fl_getL X hI dX0_addLead_20 hN hL 3 (by decide) wf_X0_24 rfl ?_
    refine W.eq (g2 := F0 m 23 ls [.int (nI w), .int (nI i)]) (by rw [hw]) ?_
    refine fn_icmp_ge X (tgt := 55) dX0_addLead_23 (by decide) (by omega) (by omega) (fun c1 => absurd c1 (by omega)) (fun c1 => ?_)
    refine lv_aload_n hx hb dX0_addLead_26 rfl (lv_at hl 1 rfl) ?_
    refine fl_getL X hI dX0_addLead_27 hN hL 0 (by decide) wf_X0_11 rfl ?_
    refine lv_aload_n hx hb dX0_addLead_30 rfl (lv_at hl 1 rfl) ?_
    refine fl_getL X hI dX0_addLead_31 hN hL 4 (by decide) wf_X0_27 rfl ?_
    refine W.eq (g2 := F0 m 34 ls [.int (nI rk), .ref (ad (o + 1))]) (by rw [hrk]) ?_
    refine fn_aald3 (k := o + 1) X hI dX0_addLead_34 (by have := lat_b hL; omega) (lat_k1 hL) (by rw [lat_n1 hL]; omega) ?_
    refine lv_iload_n hx hb dX0_addLead_35 rfl (lv_at hl 0 rfl) ?_
    refine lv_aload_n hx hb dX0_addLead_36 rfl (lv_at hl 1 rfl) ?_
    refine fl_getL X hI dX0_addLead_37 hN hL 0 (by decide) wf_X0_11 rfl ?_
    refine lv_aload_n hx hb dX0_addLead_40 rfl (lv_at hl 1 rfl) ?_
    refine fl_getL X hI dX0_addLead_41 hN hL 4 (by decide) wf_X0_27 rfl ?_
    refine W.eq (g2 := F0 m 44 ls [.int (nI rk), .ref (ad (o + 1)), .int (nI i), .ref (ad (o + 2 + rk))]) (by rw [hrk]) ?_
    refine fn_aald3 (k := o + 1) X hI dX0_addLead_44 (by have := lat_b hL; omega) (lat_k1 hL) (by rw [lat_n1 hL]; omega) ?_
    refine lv_iload_n hx hb dX0_addLead_45 rfl (lv_at hl 0 rfl) ?_
    refine fn_lald (k := o + 2 + rk) X hI dX0_addLead_46 (by have := lat_b hL; omega) (lat_k2 hL (by omega)) (by rw [lat_n2 hL (by omega)]; omega) ?_
    refine lv_lneg hx hb dX0_addLead_47 ?_
    refine fn_last (k := o + 2 + rk) X hI dX0_addLead_48 (by have := lat_b hL; omega) (lat_k2 hL (by omega)) (by rw [lat_n2 hL (by omega)]; omega) (fun H locs hI => ?_)
    refine fn_iinc (a := i) (lv' := [(2, .int (nI (i + 1))), (0, .ref (ad o)), (1, .int (nI cl))]) X dX0_addLead_49 hl (k := 0) rfl (by decide) rfl (fun ls hl => ?_)
    refine lv_goto (tgt := 18) hx hb dX0_addLead_52 (by decide) ?_
    exact ih (i + 1) _ _ _ _ (by omega) hI (lv_sub hl [0, 1, 2] rfl) hF
theorem lp_addL {p : Program} {l : Launch} {e : Env} {R : Room} {s : State} {m : MethodId} {args : Array Value} {below : List Frame} {meth : Method} {c : Code} {Q : State → Prop} {D : va_G} {dA : Nat → ClassId} {ad : Nat → Nat} {N : Nat} {A : Nat → Prop} {H0 : Heap} {I : fl_TI} {J9 : fl_TJ} (X : CallFix p m c cX0_addLead 3 s args fl_tb RX0) {o nr mw rk cl w : Nat} (hN : 30 ≤ N) (hL : fl_lat o nr mw) (hrk : I o 4 = nI rk) (hrr : rk < nr) (hcl : cl < w) (hw : I o 3 = nI w) (hwm : w ≤ mw) (hlc : I (o + 2 + nr) rk = nI cl) (hR : 1 + 1 ≤ R.frames ∧ 8 + (7 + 11) + 40 * 1 ≤ R.locals)
    (kx : ∀ (H : Heap) (locs : List Loc) (ls : Array Slot), fl_I D dA ad N I J9 A s H0 H locs → lv_has ls 3 [(2, .int (nI rk)), (0, .ref (ad o)), (1, .int (nI cl))] → W p l e R s m args below meth c H locs 0 0 Q (F0 m 95 ls [])) :
    ∀ (k i : Nat) (J : fl_TJ) (H : Heap) (locs : List Loc) (ls : Array Slot), i + k = rk → fl_I D dA ad N I J A s H0 H locs → lv_has ls 3 [(2, .int (nI i)), (0, .ref (ad o)), (1, .int (nI cl))] → fl_it (fun i J => j_red (o + 2 + i) (o + 2 + rk) cl w J) k i J = J9 → W p l e R s m args below meth c H locs 0 0 Q (F0 m 67 ls []) := by
  have hx := X.1
  have hb := X.2.1
  have h21 := lat_b hL
  intro k
  induction k with
  | zero =>
    intro i J H locs ls hk hI hl hF
    have hF : J = J9 := hF
    subst hF
    have hk : rk = i := by omega
    subst hk
    refine lv_iload_n hx hb dX0_addLead_67 rfl (lv_at hl 0 rfl) ?_
    refine lv_aload_n hx hb dX0_addLead_68 rfl (lv_at hl 1 rfl) ?_
    refine fl_getL X hI dX0_addLead_69 hN hL 4 (by decide) wf_X0_27 rfl ?_
    refine W.eq (g2 := F0 m 72 ls [.int (nI rk), .int (nI rk)]) (by rw [hrk]) ?_
    refine fn_icmp_ge X (tgt := 95) dX0_addLead_72 (by decide) (by omega) (by omega) (fun c1 => ?_) (fun c1 => absurd c1 (by omega))
    exact kx _ _ _ hI (lv_sub hl [0, 1, 2] rfl)
  | succ k ih =>
    intro i J H locs ls hk hI hl hF
    refine lv_iload_n hx hb dX0_addLead_67 rfl (lv_at hl 0 rfl) ?_
    refine lv_aload_n hx hb dX0_addLead_68 rfl (lv_at hl 1 rfl) ?_
    refine fl_getL X hI dX0_addLead_69 hN hL 4 (by decide) wf_X0_27 rfl ?_
    refine W.eq (g2 := F0 m 72 ls [.int (nI rk), .int (nI i)]) (by rw [hrk]) ?_
    refine fn_icmp_ge X (tgt := 95) dX0_addLead_72 (by decide) (by omega) (by omega) (fun c1 => absurd c1 (by omega)) (fun c1 => ?_)
    refine lv_aload_n hx hb dX0_addLead_75 rfl (lv_at hl 1 rfl) ?_
    refine lv_aload_n hx hb dX0_addLead_76 rfl (lv_at hl 1 rfl) ?_
    refine fl_getL X hI dX0_addLead_77 hN hL 4 (by decide) wf_X0_27 rfl ?_
    refine W.eq (g2 := F0 m 80 ls [.int (nI rk), .ref (ad o)]) (by rw [hrk]) ?_
    refine lv_aload_n hx hb dX0_addLead_80 rfl (lv_at hl 1 rfl) ?_
    refine fl_getL X hI dX0_addLead_81 hN hL 0 (by decide) wf_X0_11 rfl ?_
    refine lv_iload_n hx hb dX0_addLead_84 rfl (lv_at hl 0 rfl) ?_
    refine fn_aald3 (k := o + 1) X hI dX0_addLead_85 (by have := lat_b hL; omega) (lat_k1 hL) (by rw [lat_n1 hL]; omega) ?_
    refine fl_callV (k := o) (As := [.int (nI rk), .ref (ad (o + 2 + i))]) (rest := []) X hI dX0_addLead_86 (m_X0_reduceBy D dA ad N I J hN hL (by omega) (lat_k2 hL (by omega)) hrr hw hwm (by rw [lat_n2 hL (by omega)]; omega) hlc (by omega) (by rw [lat_n2 hL (by omega)]; omega)) (by have := lat_b hL; omega) (fl_c_4 (lat_k hL)) rfl rfl wc_yX0_reduceBy wm_X0_48 wi_yX0_reduceBy wl_yX0_reduceBy wn_X0 hd_yX0_reduceBy rfl ⟨by first | decide | omega, by first | decide | omega⟩ hl.1 (Nat.le_of_ble_eq_true rfl) (fun v I2 J2 H locs hp hI => ?_)
    obtain ⟨hv, hI2, hJ2⟩ := hp
    subst hv
    rw [hI2, hJ2] at hI
    refine W.eq (g2 := F0 m 89 ls []) rfl ?_
    refine fn_iinc (a := i) (lv' := [(2, .int (nI (i + 1))), (0, .ref (ad o)), (1, .int (nI cl))]) X dX0_addLead_89 hl (k := 0) rfl (by decide) rfl (fun ls hl => ?_)
    refine lv_goto (tgt := 67) hx hb dX0_addLead_92 (by decide) ?_
    exact ih (i + 1) _ _ _ _ (by omega) hI (lv_sub hl [0, 1, 2] rfl) hF
theorem tl_add {p : Program} {l : Launch} {e : Env} {s : State} {m : MethodId} {args : Array Value} {below : List Frame} {meth : Method} {c : Code} {D : va_G} {dA : Nat → ClassId} {ad : Nat → Nat} {N : Nat} {A : Nat → Prop} {I : fl_TI} {J : fl_TJ} {H : Heap} {locs : List Loc} {ls : Array Slot} {post : Option Value → fl_TI → fl_TJ → Prop} (X : CallFix p m c cX0_addLead 3 s args fl_tb RX0) (hr : meth.sig.returnType = none) (hlk : meth.locks = false) {o nr mw rk cl w : Nat} (hN : 30 ≤ N) (hL : fl_lat o nr mw) (hrk : I o 4 = nI rk) (hrr : rk < nr) (hcl : cl < w) (hw : I o 3 = nI w) (hwm : w ≤ mw) (hI : fl_I D dA ad N I J A s s.heap H locs) (hl : lv_has ls 3 [(0, .ref (ad o)), (1, .int (nI cl))]) (hp : post none (i_add o nr rk cl I) (j_add1 o rk cl w J)) : W p l e (fl_rm 2) s m args below meth c H locs 0 0 (MQ below (fl_Q D dA ad N post A) args s 0 0 A) (F0 m 55 ls []) := by
  have hx := X.1
  have hb := X.2.1
  have h21 := lat_b hL
  refine lv_aload_n hx hb dX0_addLead_55 rfl (lv_at hl 0 rfl) ?_
  refine fl_getL X hI dX0_addLead_56 hN hL 1 (by decide) wf_X0_16 rfl ?_
  refine lv_aload_n hx hb dX0_addLead_59 rfl (lv_at hl 0 rfl) ?_
  refine fl_getL X hI dX0_addLead_60 hN hL 4 (by decide) wf_X0_27 rfl ?_
  refine W.eq (g2 := F0 m 63 ls [.int (nI rk), .ref (ad (o + 2 + nr))]) (by rw [hrk]) ?_
  refine lv_iload_n hx hb dX0_addLead_63 rfl (lv_at hl 1 rfl) ?_
  refine fn_iast (k := o + 2 + nr) X hI dX0_addLead_64 (by have := lat_b hL; omega) (lat_kl hL) (by rw [lat_nl hL]; omega) (fun H locs hI => ?_)
  refine lv_iconst (v := nI 0) hx hb dX0_addLead_65 (by decide) ?_
  refine lv_istore_n (lv' := [(2, .int (nI 0)), (0, .ref (ad o)), (1, .int (nI cl))]) hx hb dX0_addLead_66 rfl hl (by decide) rfl (fun ls hl => ?_)
  refine lp_addL X hN hL (by rw [fl_up_k (by omega)]; exact hrk) hrr hcl (by rw [fl_up_k (by omega)]; exact hw) hwm fl_up_s ⟨by decide, by decide⟩ (J9 := j_add1 o rk cl w J) (fun H locs ls hI hl => ?_) rk 0 J _ _ _ (Nat.zero_add _) hI hl rfl
  refine lv_aload_n hx hb dX0_addLead_95 rfl (lv_at hl 1 rfl) ?_
  refine lv_dup hx hb dX0_addLead_96 rfl ?_
  refine fl_getL X hI dX0_addLead_97 hN hL 4 (by decide) wf_X0_27 rfl ?_
  refine W.eq (g2 := F0 m 100 ls [.int (nI rk), .ref (ad o)]) (by rw [fl_up_k (by omega), hrk]) ?_
  refine lv_iconst (v := nI 1) hx hb dX0_addLead_100 (by decide) ?_
  refine fn_iadd X dX0_addLead_101 ?_
  refine fl_put0 X hI dX0_addLead_102 (by have := lat_b hL; omega) (lat_k hL) 4 (by decide) wf_X0_27 (fun H locs hI => ?_)
  exact fl_vret X hr hlk hI dX0_addLead_105 hp
theorem m_X0_addLead (D : va_G) (dA : Nat → ClassId) (ad : Nat → Nat) (N : Nat) (I : fl_TI) (J : fl_TJ) {o nr mw rk cl w : Nat} (hN : 30 ≤ N) (hL : fl_lat o nr mw) (hrk : I o 4 = nI rk) (hrr : rk < nr) (hcl : cl < w) (hw : I o 3 = nI w) (hwm : w ≤ mw) : FM yX0_addLead cX0_addLead 3 none 2 D dA ad N [.ref (ad o), .int (nI cl)] I J (fun v I' J' => v = none ∧ I' = i_add o nr rk cl I ∧ J' = j_add o rk cl w J) := by
  refine FM.ofW RX0 rfl (by decide +kernel) (Nat.le_of_ble_eq_true rfl) ?_
  intro p l e s m args below meth c ls X hr hlk hI hl
  have hx := X.1
  have hb := X.2.1
  have hl : lv_has ls 3 [(0, .ref (ad o)), (1, .int (nI cl))] := hl
  have h21 := lat_b hL
  refine lv_aload_n hx hb dX0_addLead_0 rfl (lv_at hl 0 rfl) ?_
  refine fl_getL X hI dX0_addLead_1 hN hL 0 (by decide) wf_X0_11 rfl ?_
  refine lv_aload_n hx hb dX0_addLead_4 rfl (lv_at hl 0 rfl) ?_
  refine fl_getL X hI dX0_addLead_5 hN hL 4 (by decide) wf_X0_27 rfl ?_
  refine W.eq (g2 := F0 m 8 ls [.int (nI rk), .ref (ad (o + 1))]) (by rw [hrk]) ?_
  refine fn_aald3 (k := o + 1) X hI dX0_addLead_8 (by have := lat_b hL; omega) (lat_k1 hL) (by rw [lat_n1 hL]; omega) ?_
  refine lv_iload_n hx hb dX0_addLead_9 rfl (lv_at hl 1 rfl) ?_
  refine fn_lald (k := o + 2 + rk) X hI dX0_addLead_10 (by have := lat_b hL; omega) (lat_k2 hL (by omega)) (by rw [lat_n2 hL (by omega)]; omega) ?_
  refine lv_lconst (v := 0) hx hb dX0_addLead_11 rfl ?_
  refine fl_lc_ge (tgt := 55) hx hb dX0_addLead_12 dX0_addLead_13 (by decide) (fun c1 => ?_) (fun c1 => ?_)
  · exact tl_add X hr hlk hN hL hrk hrr hcl hw hwm hI hl ⟨rfl, rfl, by unfold j_add; rw [if_neg c1]⟩
  · refine lv_iconst (v := nI 0) hx hb dX0_addLead_16 (by decide) ?_
    refine lv_istore_n (lv' := [(2, .int (nI 0)), (0, .ref (ad o)), (1, .int (nI cl))]) hx hb dX0_addLead_17 rfl hl (by decide) rfl (fun ls hl => ?_)
    refine lp_neg X hN hL hrk hrr hcl hw hwm (J9 := j_neg (o + 2 + rk) w J) (fun H locs ls hI hl => ?_) w 0 J _ _ _ (Nat.zero_add _) hI hl rfl
    exact tl_add X hr hlk hN hL hrk hrr hcl hw hwm hI (lv_sub hl [1, 2] rfl) ⟨rfl, rfl, by unfold j_add; rw [if_pos c1]⟩
end
section
/-! bringToForm -/
def j_elim (o rk cl w h : Nat) (J : fl_TJ) : fl_TJ := fl_it (fun i J => j_div (o + 2 + rk) (o + 2 + i) cl w 200 J) (h - (rk + 1)) (rk + 1) J
def b_step (o nr h w cl : Nat) (x : Nat × fl_TI × fl_TJ) : Nat × fl_TI × fl_TJ :=
  if (j_elim o x.1 cl w h x.2.2) (o + 2 + x.1) cl = 0 then (x.1, x.2.1, j_elim o x.1 cl w h x.2.2) else (x.1 + 1, i_add o nr x.1 cl x.2.1, j_add o x.1 cl w (j_elim o x.1 cl w h x.2.2))
def b_form (o nr h w : Nat) : Nat → Nat → Nat × fl_TI × fl_TJ → Nat × fl_TI × fl_TJ
  | 0, _, x => x
  | k + 1, cl, x => if h ≤ x.1 then x else b_form o nr h w k (cl + 1) (b_step o nr h w cl x)
theorem lp_elim {p : Program} {l : Launch} {e : Env} {R : Room} {s : State} {m : MethodId} {args : Array Value} {below : List Frame} {meth : Method} {c : Code} {Q : State → Prop} {D : va_G} {dA : Nat → ClassId} {ad : Nat → Nat} {N : Nat} {A : Nat → Prop} {H0 : Heap} {I : fl_TI} {J9 : fl_TJ} (X : CallFix p m c cX0_bringToForm 3 s args fl_tb RX0) {o nr mw h w rk cl : Nat} (hN : 30 ≤ N) (hL : fl_lat o nr mw) (hh : I o 2 = nI h) (hhr : h ≤ nr) (hw : I o 3 = nI w) (hwm : w ≤ mw) (hrk : I o 4 = nI rk) (hrh : rk < h) (hcl : cl < w) (hR : 1 + 1 ≤ R.frames ∧ 8 + (10 + 11) + 40 * 1 ≤ R.locals)
    (kx : ∀ (H : Heap) (locs : List Loc) (ls : Array Slot), fl_I D dA ad N I J9 A s H0 H locs → lv_has ls 3 [(2, .int (nI h)), (1, .int (nI cl)), (0, .ref (ad o))] → W p l e R s m args below meth c H locs 0 0 Q (F0 m 52 ls [])) :
    ∀ (k i : Nat) (J : fl_TJ) (H : Heap) (locs : List Loc) (ls : Array Slot), i + k = h → fl_I D dA ad N I J A s H0 H locs → lv_has ls 3 [(2, .int (nI i)), (1, .int (nI cl)), (0, .ref (ad o))] → fl_it (fun i J => j_div (o + 2 + rk) (o + 2 + i) cl w 200 J) k i J = J9 → W p l e R s m args below meth c H locs 0 0 Q (F0 m 28 ls []) := by
  have hx := X.1
  have hb := X.2.1
  have h21 := lat_b hL
  intro k
  induction k with
  | zero =>
    intro i J H locs ls hk hI hl hF
    have hF : J = J9 := hF
    subst hF
    have hk : h = i := by omega
    subst hk
    refine lv_iload_n hx hb dX0_bringToForm_28 rfl (lv_at hl 0 rfl) ?_
    refine lv_aload_n hx hb dX0_bringToForm_29 rfl (lv_at hl 2 rfl) ?_
    refine fl_getL X hI dX0_bringToForm_30 hN hL 2 (by decide) wf_X0_20 rfl ?_
    refine W.eq (g2 := F0 m 33 ls [.int (nI h), .int (nI h)]) (by rw [hh]) ?_
    refine fn_icmp_ge X (tgt := 52) dX0_bringToForm_33 (by decide) (by omega) (by omega) (fun c1 => ?_) (fun c1 => absurd c1 (by omega))
    exact kx _ _ _ hI (lv_sub hl [0, 1, 2] rfl)
  | succ k ih =>
    intro i J H locs ls hk hI hl hF
    refine lv_iload_n hx hb dX0_bringToForm_28 rfl (lv_at hl 0 rfl) ?_
    refine lv_aload_n hx hb dX0_bringToForm_29 rfl (lv_at hl 2 rfl) ?_
    refine fl_getL X hI dX0_bringToForm_30 hN hL 2 (by decide) wf_X0_20 rfl ?_
    refine W.eq (g2 := F0 m 33 ls [.int (nI h), .int (nI i)]) (by rw [hh]) ?_
    refine fn_icmp_ge X (tgt := 52) dX0_bringToForm_33 (by decide) (by omega) (by omega) (fun c1 => absurd c1 (by omega)) (fun c1 => ?_)
    refine lv_aload_n hx hb dX0_bringToForm_36 rfl (lv_at hl 2 rfl) ?_
    refine lv_aload_n hx hb dX0_bringToForm_37 rfl (lv_at hl 2 rfl) ?_
    refine fl_getL X hI dX0_bringToForm_38 hN hL 4 (by decide) wf_X0_27 rfl ?_
    refine W.eq (g2 := F0 m 41 ls [.int (nI rk), .ref (ad o)]) (by rw [hrk]) ?_
    refine lv_iload_n hx hb dX0_bringToForm_41 rfl (lv_at hl 0 rfl) ?_
    refine lv_iload_n hx hb dX0_bringToForm_42 rfl (lv_at hl 1 rfl) ?_
    refine fl_callV (k := o) (As := [.int (nI rk), .int (nI i), .int (nI cl)]) (rest := []) X hI dX0_bringToForm_43 (m_X0_divideOut D dA ad N I J hN hL (by omega) (by omega) hcl hw hwm) (by have := lat_b hL; omega) (fl_c_4 (lat_k hL)) rfl rfl wc_yX0_divideOut wm_X0_34 wi_yX0_divideOut wl_yX0_divideOut wn_X0 hd_yX0_divideOut rfl ⟨by first | decide | omega, by first | decide | omega⟩ hl.1 (Nat.le_of_ble_eq_true rfl) (fun v I2 J2 H locs hp hI => ?_)
    obtain ⟨hv, hI2, hJ2⟩ := hp
    subst hv
    rw [hI2, hJ2] at hI
    refine W.eq (g2 := F0 m 46 ls []) rfl ?_
    refine fn_iinc (a := i) (lv' := [(2, .int (nI (i + 1))), (1, .int (nI cl)), (0, .ref (ad o))]) X dX0_bringToForm_46 hl (k := 0) rfl (by decide) rfl (fun ls hl => ?_)
    refine lv_goto (tgt := 28) hx hb dX0_bringToForm_49 (by decide) ?_
    exact ih (i + 1) _ _ _ _ (by omega) hI (lv_sub hl [0, 1, 2] rfl) hF
theorem lp_form {p : Program} {l : Launch} {e : Env} {R : Room} {s : State} {m : MethodId} {args : Array Value} {below : List Frame} {meth : Method} {c : Code} {Q : State → Prop} {D : va_G} {dA : Nat → ClassId} {ad : Nat → Nat} {N : Nat} {A : Nat → Prop} {H0 : Heap} {rk9 : Nat} {I9 : fl_TI} {J9 : fl_TJ} (X : CallFix p m c cX0_bringToForm 3 s args fl_tb RX0) {o nr mw h w : Nat} (hN : 30 ≤ N) (hL : fl_lat o nr mw) (hhr : h ≤ nr) (hwm : w ≤ mw) (hR : 2 + 1 ≤ R.frames ∧ 8 + (10 + 11) + 40 * 2 ≤ R.locals)
    (kx : ∀ (cl : Nat) (H : Heap) (locs : List Loc) (ls : Array Slot), fl_I D dA ad N I9 J9 A s H0 H locs → lv_has ls 3 [(1, .int (nI cl)), (0, .ref (ad o))] → W p l e R s m args below meth c H locs 0 0 Q (F0 m 79 ls [])) :
    ∀ (k cl rk : Nat) (I : fl_TI) (J : fl_TJ) (H : Heap) (locs : List Loc) (ls : Array Slot), cl + k = w → I o 2 = nI h → I o 3 = nI w → I o 4 = nI rk → rk ≤ h → fl_I D dA ad N I J A s H0 H locs → lv_has ls 3 [(1, .int (nI cl)), (0, .ref (ad o))] → b_form o nr h w k cl (rk, I, J) = (rk9, I9, J9) → W p l e R s m args below meth c H locs 0 0 Q (F0 m 2 ls []) := by
  have hx := X.1
  have hb := X.2.1
  have h21 := lat_b hL
  intro k
  induction k with
  | zero =>
    intro cl rk I J H locs ls hk hh hw hrk hrh hI hl hF
    have hF : (rk, I, J) = (rk9, I9, J9) := hF
    cases hF
    have hk : w = cl := by omega
    subst hk
    refine lv_iload_n hx hb dX0_bringToForm_2 rfl (lv_at hl 0 rfl) ?_
    refine lv_aload_n hx hb dX0_bringToForm_3 rfl (lv_at hl 1 rfl) ?_
    refine fl_getL X hI dX0_bringToForm_4 hN hL 3 (by decide) wf_X0_24 rfl ?_
    refine W.eq (g2 := F0 m 7 ls [.int (nI w), .int (nI w)]) (by rw [hw]) ?_
    refine fn_icmp_ge X (tgt := 79) dX0_bringToForm_7 (by decide) (by omega) (by omega) (fun c1 => ?_) (fun c1 => absurd c1 (by omega))
    exact kx _ _ _ _ hI (lv_sub hl [0, 1] rfl)
  | succ k ih =>
    intro cl rk I J H locs ls hk hh hw hrk hrh hI hl hF
    refine lv_iload_n hx hb dX0_bringToForm_2 rfl (lv_at hl 0 rfl) ?_
    refine lv_aload_n hx hb dX0_bringToForm_3 rfl (lv_at hl 1 rfl) ?_
    refine fl_getL X hI dX0_bringToForm_4 hN hL 3 (by decide) wf_X0_24 rfl ?_
    refine W.eq (g2 := F0 m 7 ls [.int (nI w), .int (nI cl)]) (by rw [hw]) ?_
    refine fn_icmp_ge X (tgt := 79) dX0_bringToForm_7 (by decide) (by omega) (by omega) (fun c1 => absurd c1 (by omega)) (fun c1 => ?_)
    refine lv_aload_n hx hb dX0_bringToForm_10 rfl (lv_at hl 1 rfl) ?_
    refine fl_getL X hI dX0_bringToForm_11 hN hL 4 (by decide) wf_X0_27 rfl ?_
    refine W.eq (g2 := F0 m 14 ls [.int (nI rk)]) (by rw [hrk]) ?_
    refine lv_aload_n hx hb dX0_bringToForm_14 rfl (lv_at hl 1 rfl) ?_
    refine fl_getL X hI dX0_bringToForm_15 hN hL 2 (by decide) wf_X0_20 rfl ?_
    refine W.eq (g2 := F0 m 18 ls [.int (nI h), .int (nI rk)]) (by rw [hh]) ?_
    refine fn_icmp_ge X (tgt := 79) dX0_bringToForm_18 (by decide) (by omega) (by omega) (fun c2 => ?_) (fun c2 => ?_)
    · have hF : (rk, I, J) = (rk9, I9, J9) := by rw [← hF]; simp only [b_form]; rw [if_pos c2]
      cases hF
      exact kx _ _ _ _ hI (lv_sub hl [0, 1] rfl)
    · refine lv_aload_n hx hb dX0_bringToForm_21 rfl (lv_at hl 1 rfl) ?_
      refine fl_getL X hI dX0_bringToForm_22 hN hL 4 (by decide) wf_X0_27 rfl ?_
      refine W.eq (g2 := F0 m 25 ls [.int (nI rk)]) (by rw [hrk]) ?_
      refine lv_iconst (v := nI 1) hx hb dX0_bringToForm_25 (by decide) ?_
      refine fn_iadd X dX0_bringToForm_26 ?_
      refine lv_istore_n (lv' := [(2, .int (nI (rk + 1))), (1, .int (nI cl)), (0, .ref (ad o))]) hx hb dX0_bringToForm_27 rfl hl (by decide) rfl (fun ls hl => ?_)
      refine lp_elim X hN hL hh hhr hw hwm hrk c2 c1 ⟨by omega, by omega⟩ (J9 := j_elim o rk cl w h J) (fun H locs ls hI hl => ?_) (h - (rk + 1)) (rk + 1) J _ _ _ (by omega) hI (lv_sub hl [0, 1, 2] rfl) rfl
      refine lv_aload_n hx hb dX0_bringToForm_52 rfl (lv_at hl 2 rfl) ?_
      refine fl_getL X hI dX0_bringToForm_53 hN hL 0 (by decide) wf_X0_11 rfl ?_
      refine lv_aload_n hx hb dX0_bringToForm_56 rfl (lv_at hl 2 rfl) ?_
      refine fl_getL X hI dX0_bringToForm_57 hN hL 4 (by decide) wf_X0_27 rfl ?_
      refine W.eq (g2 := F0 m 60 ls [.int (nI rk), .ref (ad (o + 1))]) (by rw [hrk]) ?_
      refine fn_aald3 (k := o + 1) X hI dX0_bringToForm_60 (by have := lat_b hL; omega) (lat_k1 hL) (by rw [lat_n1 hL]; omega) ?_
      refine lv_iload_n hx hb dX0_bringToForm_61 rfl (lv_at hl 1 rfl) ?_
      refine fn_lald (k := o + 2 + rk) X hI dX0_bringToForm_62 (by have := lat_b hL; omega) (lat_k2 hL (by omega)) (by rw [lat_n2 hL (by omega)]; omega) ?_
      refine lv_lconst (v := 0) hx hb dX0_bringToForm_63 rfl ?_
      refine fl_lc_eq (tgt := 73) hx hb dX0_bringToForm_64 dX0_bringToForm_65 (by decide) (fun c3 => ?_) (fun c3 => ?_)
      · refine fn_iinc (a := cl) (lv' := [(1, .int (nI (cl + 1))), (2, .int (nI h)), (0, .ref (ad o))]) X dX0_bringToForm_73 hl (k := 1) rfl (by decide) rfl (fun ls hl => ?_)
        refine lv_goto (tgt := 2) hx hb dX0_bringToForm_76 (by decide) ?_
        exact ih (cl + 1) rk I _ _ _ _ (by omega) hh hw hrk hrh hI (lv_sub hl [0, 2] rfl) (by rw [← hF]; simp only [b_form]; rw [if_neg (by omega)]; unfold b_step; rw [if_pos c3])
      · refine lv_aload_n hx hb dX0_bringToForm_68 rfl (lv_at hl 2 rfl) ?_
        refine lv_iload_n hx hb dX0_bringToForm_69 rfl (lv_at hl 1 rfl) ?_
        refine fl_callV (k := o) (As := [.int (nI cl)]) (rest := []) X hI dX0_bringToForm_70 (m_X0_addLead D dA ad N I (j_elim o rk cl w h J) hN hL hrk (by omega) c1 hw hwm) (by have := lat_b hL; omega) (fl_c_4 (lat_k hL)) rfl rfl wc_yX0_addLead wm_X0_38 wi_yX0_addLead wl_yX0_addLead wn_X0 hd_yX0_addLead rfl ⟨by first | decide | omega, by first | decide | omega⟩ hl.1 (Nat.le_of_ble_eq_true rfl) (fun v I2 J2 H locs hp hI => ?_)
        obtain ⟨hv, hI2, hJ2⟩ := hp
        subst hv
        rw [hI2, hJ2] at hI
        refine W.eq (g2 := F0 m 73 ls []) rfl ?_
        refine fn_iinc (a := cl) (lv' := [(1, .int (nI (cl + 1))), (2, .int (nI h)), (0, .ref (ad o))]) X dX0_bringToForm_73 hl (k := 1) rfl (by decide) rfl (fun ls hl => ?_)
        refine lv_goto (tgt := 2) hx hb dX0_bringToForm_76 (by decide) ?_
        exact ih (cl + 1) (rk + 1) (i_add o nr rk cl I) _ _ _ _ (by omega) (by unfold i_add; rw [fl_up_j (by omega), fl_up_k (by omega)]; exact hh) (by unfold i_add; rw [fl_up_j (by omega), fl_up_k (by omega)]; exact hw) (by unfold i_add; exact fl_up_s) (by omega) hI (lv_sub hl [0, 2] rfl) (by rw [← hF]; simp only [b_form]; rw [if_neg (by omega)]; unfold b_step; rw [if_neg c3])
theorem m_X0_bringToForm (D : va_G) (dA : Nat → ClassId) (ad : Nat → Nat) (N : Nat) (I : fl_TI) (J : fl_TJ) {o nr mw h w rk : Nat} (hN : 30 ≤ N) (hL : fl_lat o nr mw) (hh : I o 2 = nI h) (hhr : h ≤ nr) (hw : I o 3 = nI w) (hwm : w ≤ mw) (hrk : I o 4 = nI rk) (hrh : rk ≤ h) : FM yX0_bringToForm cX0_bringToForm 3 none 3 D dA ad N [.ref (ad o)] I J (fun v I' J' => v = none ∧ I' = (b_form o nr h w w 0 (rk, I, J)).2.1 ∧ J' = (b_form o nr h w w 0 (rk, I, J)).2.2) := by
  refine FM.ofW RX0 rfl (by decide +kernel) (Nat.le_of_ble_eq_true rfl) ?_
  intro p l e s m args below meth c ls X hr hlk hI hl
  have hx := X.1
  have hb := X.2.1
  have hl : lv_has ls 3 [(0, .ref (ad o))] := hl
  refine lv_iconst (v := nI 0) hx hb dX0_bringToForm_0 (by decide) ?_
  refine lv_istore_n (lv' := [(1, .int (nI 0)), (0, .ref (ad o))]) hx hb dX0_bringToForm_1 rfl hl (by decide) rfl (fun ls hl => ?_)
  generalize hF : b_form o nr h w w 0 (rk, I, J) = F
  obtain ⟨rk9, I9, J9⟩ := F
  exact lp_form X hN hL hhr hwm ⟨by decide, by decide⟩ (fun cl H locs ls hI hl => fl_vret X hr hlk hI dX0_bringToForm_79 ⟨rfl, rfl, rfl⟩) w 0 rk I J _ _ _ (Nat.zero_add _) hh hw hrk hrh hI hl hF
end
section
/-! what bringToForm leaves of the ints; layout of the solver -/
def ldI (I : fl_TI) (q i : Nat) : Nat := (I q i).toNatClampNeg
theorem ldI_of {I : fl_TI} {q i c : Nat} (h : I q i = nI c) (hc : c < 2 ^ 31) : ldI I q i = c := by unfold ldI; rw [h]; exact nI_clamp hc
theorem b_form_I (o nr h w : Nat) (hw : w ≤ 64) : ∀ (k cl rk : Nat) (I : fl_TI) (J : fl_TJ), cl + k = w → I o 4 = nI rk → rk ≤ h → (∀ i, i < rk → I (o + 2 + nr) i = nI (ldI I (o + 2 + nr) i) ∧ ldI I (o + 2 + nr) i < w) →
    (b_form o nr h w k cl (rk, I, J)).1 ≤ h ∧ (b_form o nr h w k cl (rk, I, J)).2.1 o 4 = nI (b_form o nr h w k cl (rk, I, J)).1 ∧ (∀ i, i < (b_form o nr h w k cl (rk, I, J)).1 → (b_form o nr h w k cl (rk, I, J)).2.1 (o + 2 + nr) i = nI (ldI (b_form o nr h w k cl (rk, I, J)).2.1 (o + 2 + nr) i) ∧ ldI (b_form o nr h w k cl (rk, I, J)).2.1 (o + 2 + nr) i < w) ∧ (∀ a b, ¬ (a = o ∧ b = 4) → a ≠ o + 2 + nr → (b_form o nr h w k cl (rk, I, J)).2.1 a b = I a b) := by
  intro k
  induction k with
  | zero =>
    intro cl rk I J hk h4 hr hl
    exact ⟨hr, h4, hl, fun _ _ _ _ => rfl⟩
  | succ k ih =>
    intro cl rk I J hk h4 hr hl
    simp only [b_form]
    by_cases hh : h ≤ rk
    · rw [if_pos hh]
      exact ⟨hr, h4, hl, fun _ _ _ _ => rfl⟩
    · rw [if_neg hh]
      unfold b_step
      by_cases hz : (j_elim o rk cl w h J) (o + 2 + rk) cl = 0
      · rw [if_pos hz]
        exact ih (cl + 1) rk I _ (by omega) h4 hr hl
      · rw [if_neg hz]
        have e4 : i_add o nr rk cl I o 4 = nI (rk + 1) := by unfold i_add; exact fl_up_s
        have el : ∀ i, i < rk → i_add o nr rk cl I (o + 2 + nr) i = I (o + 2 + nr) i := fun i hi => by
          unfold i_add
          rw [fl_up_k (by omega), fl_up_j (by omega)]
        have er : i_add o nr rk cl I (o + 2 + nr) rk = nI cl := by
          unfold i_add
          rw [fl_up_k (by omega), fl_up_s]
        obtain ⟨g1, g2, g3, g4⟩ := ih (cl + 1) (rk + 1) (i_add o nr rk cl I) (j_add o rk cl w (j_elim o rk cl w h J)) (by omega) e4 (by omega) (fun i hi => by
          by_cases hq : i < rk
          · have h9 := hl i hq
            have e9 : ldI (i_add o nr rk cl I) (o + 2 + nr) i = ldI I (o + 2 + nr) i := by unfold ldI; rw [el i hq]
            rw [e9, el i hq]
            exact h9
          · have hq : i = rk := by omega
            subst hq
            rw [ldI_of er (by omega), er]
            exact ⟨rfl, by omega⟩)
        refine ⟨g1, g2, g3, fun a b h1 h2 => ?_⟩
        rw [g4 a b h1 h2]
        unfold i_add
        by_cases ha : a = o
        · subst ha
          rw [fl_up_j (fun q => h1 ⟨rfl, q⟩), fl_up_k h2]
        · rw [fl_up_k ha, fl_up_k h2]
theorem lat6 : fl_lat 6 4 7 := Or.inl ⟨rfl, rfl, rfl⟩
theorem lat13 : fl_lat 13 6 3 := Or.inr ⟨rfl, rfl, rfl⟩
theorem fk2 {i : Nat} (h : i < 3) : fl_k (2 + i) = 0 := (by decide +kernel : ∀ i, i < 3 → fl_k (2 + i) = 0) i h
theorem fn2 {i : Nat} (h : i < 3) : fl_n (2 + i) = 4 := (by decide +kernel : ∀ i, i < 3 → fl_n (2 + i) = 4) i h
theorem fk25 {i : Nat} (h : i < 5) : fl_k (25 + i) = 1 := (by decide +kernel : ∀ i, i < 5 → fl_k (25 + i) = 1) i h
theorem fn25 {i : Nat} (h : i < 5) : fl_n (25 + i) = 4 := (by decide +kernel : ∀ i, i < 5 → fl_n (25 + i) = 4) i h
/-- the solver's ints: n unknowns, e equations, rr rows of the reach, rk rows in all -/
def x_ok (I : fl_TI) (n e rr rk : Nat) : Prop := I 0 2 = nI n ∧ (1 ≤ n ∧ n ≤ 4) ∧ I 0 3 = nI e ∧ e ≤ 3 ∧ I 0 6 = nI rr ∧ rr ≤ n ∧ I 6 2 = nI n ∧ I 6 3 = nI (e + n) ∧ I 6 4 = nI rk ∧ rk ≤ n ∧ ∀ i, i < rk → I 12 i = nI (ldI I 12 i) ∧ ldI I 12 i < e + n
end
section
/-! the solver: rows, solution, form -/
theorem m_X1_isFactor (D : va_G) (dA : Nat → ClassId) (ad : Nat → Nat) (N : Nat) (I : fl_TI) (J : fl_TJ) (hN : 30 ≤ N) {n j : Nat} (x : Int32) (hn : I 0 2 = nI n) (hn4 : n ≤ 4) (hj : j ≤ 4) : FM yX1_isFactor cX1_isFactor 3 (some .boolean) 0 D dA ad N [.ref (ad 0), .int (nI j), .int x] I J (fun v I' J' => v = some (.int (if n ≤ j ∨ (¬ x < -9 ∧ ¬ nI 9 < x) then nI 1 else nI 0)) ∧ I' = I ∧ J' = J) := by
  refine FM.ofW RX1 rfl (by decide +kernel) (Nat.le_of_ble_eq_true rfl) ?_
  intro p l e s m args below meth c ls X hr hlk hI hl
  have hx := X.1
  have hb := X.2.1
  have hl : lv_has ls 3 [(0, .ref (ad 0)), (1, .int (nI j)), (2, .int x)] := hl
  refine lv_iload_n hx hb dX1_isFactor_0 rfl (lv_at hl 1 rfl) ?_
  refine lv_aload_n hx hb dX1_isFactor_1 rfl (lv_at hl 0 rfl) ?_
  refine fl_get1 X hI dX1_isFactor_2 (by omega) 2 (by decide) wf_X1_42 rfl ?_
  refine W.eq (g2 := F0 m 5 ls [.int (nI n), .int (nI j)]) (by rw [hn]) ?_
  refine fn_icmp_ge X (tgt := 20) dX1_isFactor_5 (by decide) (by omega) (by omega) (fun c1 => ?_) (fun c1 => ?_)
  · refine lv_iconst (v := nI 1) hx hb dX1_isFactor_20 (by decide) ?_
    refine lv_goto (tgt := 25) hx hb dX1_isFactor_21 (by decide) ?_
    exact fl_zret X hr hlk hI dX1_isFactor_25 (by decide) ⟨by simp [*]; try omega, rfl, rfl⟩
  · refine lv_iload_n hx hb dX1_isFactor_8 rfl (lv_at hl 2 rfl) ?_
    refine lv_bipush (v := (-9)) hx hb dX1_isFactor_9 (by decide) ?_
    refine lv_icmp_lt (tgt := 24) hx hb dX1_isFactor_11 (by decide) (fun c2 => ?_) (fun c2 => ?_)
    · refine lv_iconst (v := nI 0) hx hb dX1_isFactor_24 (by decide) ?_
      exact fl_zret X hr hlk hI dX1_isFactor_25 (by decide) ⟨by simp [*]; try omega, rfl, rfl⟩
    · refine lv_iload_n hx hb dX1_isFactor_14 rfl (lv_at hl 2 rfl) ?_
      refine lv_bipush (v := nI 9) hx hb dX1_isFactor_15 (by decide) ?_
      refine lv_icmp_gt (tgt := 24) hx hb dX1_isFactor_17 (by decide) (fun c3 => ?_) (fun c3 => ?_)
      · refine lv_iconst (v := nI 0) hx hb dX1_isFactor_24 (by decide) ?_
        exact fl_zret X hr hlk hI dX1_isFactor_25 (by decide) ⟨by simp [*]; try omega, rfl, rfl⟩
      · refine lv_iconst (v := nI 1) hx hb dX1_isFactor_20 (by decide) ?_
        refine lv_goto (tgt := 25) hx hb dX1_isFactor_21 (by decide) ?_
        exact fl_zret X hr hlk hI dX1_isFactor_25 (by decide) ⟨by simp [*]; try omega, rfl, rfl⟩
theorem m_X1_basisRows (D : va_G) (dA : Nat → ClassId) (ad : Nat → Nat) (N : Nat) (I : fl_TI) (J : fl_TJ) (hN : 30 ≤ N) {n rr : Nat} (hn : I 0 2 = nI n) (hrr : I 0 6 = nI rr) (hrn : rr ≤ n) : FM yX1_basisRows cX1_basisRows 1 (some .int) 0 D dA ad N [.ref (ad 0)] I J (fun v I' J' => v = some (.int (nI (n - rr))) ∧ I' = I ∧ J' = J) := by
  refine FM.ofW RX1 rfl (by decide +kernel) (Nat.le_of_ble_eq_true rfl) ?_
  intro p l e s m args below meth c ls X hr hlk hI hl
  have hx := X.1
  have hb := X.2.1
  have hl : lv_has ls 1 [(0, .ref (ad 0))] := hl
  refine lv_aload_n hx hb dX1_basisRows_0 rfl (lv_at hl 0 rfl) ?_
  refine fl_get1 X hI dX1_basisRows_1 (by omega) 2 (by decide) wf_X1_42 rfl ?_
  refine W.eq (g2 := F0 m 4 ls [.int (nI n)]) (by rw [hn]) ?_
  refine lv_aload_n hx hb dX1_basisRows_4 rfl (lv_at hl 0 rfl) ?_
  refine fl_get1 X hI dX1_basisRows_5 (by omega) 6 (by decide) wf_X1_76 rfl ?_
  refine W.eq (g2 := F0 m 8 ls [.int (nI rr), .int (nI n)]) (by rw [hrr]) ?_
  refine fn_isub X dX1_basisRows_8 (by omega) ?_
  exact fl_iret X hr hlk hI dX1_basisRows_9 ⟨rfl, rfl, rfl⟩
theorem m_X1_basisNumber (D : va_G) (dA : Nat → ClassId) (ad : Nat → Nat) (N : Nat) (I : fl_TI) (J : fl_TJ) (hN : 30 ≤ N) {eq rr i j : Nat} (he : I 0 3 = nI eq) (hrr : I 0 6 = nI rr) (hi : rr + i < 4) (hj : eq + j < 7) : FM yX1_basisNumber cX1_basisNumber 3 (some .long) 1 D dA ad N [.ref (ad 0), .int (nI i), .int (nI j)] I J (fun v I' J' => v = some (.long (J (6 + 2 + (rr + i)) (eq + j))) ∧ I' = I ∧ J' = J) := by
  refine FM.ofW RX1 rfl (by decide +kernel) (Nat.le_of_ble_eq_true rfl) ?_
  intro p l e s m args below meth c ls X hr hlk hI hl
  have hx := X.1
  have hb := X.2.1
  have hl : lv_has ls 3 [(0, .ref (ad 0)), (1, .int (nI i)), (2, .int (nI j))] := hl
  refine lv_aload_n hx hb dX1_basisNumber_0 rfl (lv_at hl 0 rfl) ?_
  refine fl_get1 X hI dX1_basisNumber_1 (by omega) 4 (by decide) wf_X1_23 rfl ?_
  refine lv_aload_n hx hb dX1_basisNumber_4 rfl (lv_at hl 0 rfl) ?_
  refine fl_get1 X hI dX1_basisNumber_5 (by omega) 6 (by decide) wf_X1_76 rfl ?_
  refine W.eq (g2 := F0 m 8 ls [.int (nI rr), .ref (ad 6)]) (by rw [hrr]) ?_
  refine lv_iload_n hx hb dX1_basisNumber_8 rfl (lv_at hl 1 rfl) ?_
  refine fn_iadd X dX1_basisNumber_9 ?_
  refine lv_aload_n hx hb dX1_basisNumber_10 rfl (lv_at hl 0 rfl) ?_
  refine fl_get1 X hI dX1_basisNumber_11 (by omega) 3 (by decide) wf_X1_46 rfl ?_
  refine W.eq (g2 := F0 m 14 ls [.int (nI eq), .int (nI (rr + i)), .ref (ad 6)]) (by rw [he]) ?_
  refine lv_iload_n hx hb dX1_basisNumber_14 rfl (lv_at hl 2 rfl) ?_
  refine fn_iadd X dX1_basisNumber_15 ?_
  refine fl_callV (k := 6) (As := [.int (nI (rr + i)), .int (nI (eq + j))]) (rest := []) X hI dX1_basisNumber_16 (m_X0_at D dA ad N I J hN lat6 (by omega) (by omega)) (by omega) (fl_c_4 rfl) rfl rfl wc_yX0_at wm_X1_79 wi_yX0_at wl_yX0_at wn_X0 hd_yX0_at rfl ⟨by first | decide | omega, by first | decide | omega⟩ hl.1 (Nat.le_of_ble_eq_true rfl) (fun v I2 J2 H locs hp hI => ?_)
  obtain ⟨hv, hI2, hJ2⟩ := hp
  subst hv
  rw [hI2, hJ2] at hI
  refine W.eq (g2 := F0 m 19 ls [.long (J (6 + 2 + (rr + i)) (eq + j))]) rfl ?_
  exact fl_lret X hr hlk hI dX1_basisNumber_19 ⟨rfl, rfl, rfl⟩
theorem m_X1_leadUnknown (D : va_G) (dA : Nat → ClassId) (ad : Nat → Nat) (N : Nat) (I : fl_TI) (J : fl_TJ) (hN : 30 ≤ N) {n eq rr i : Nat} (hn : I 0 2 = nI n) (he : I 0 3 = nI eq) (hrr : I 0 6 = nI rr) (hrn : rr ≤ n) (hn4 : n ≤ 4) (hi4 : i ≤ 5) (hld : rr + i < n → I 12 (rr + i) = nI (ldI I 12 (rr + i)) ∧ eq ≤ ldI I 12 (rr + i)) : FM yX1_leadUnknown cX1_leadUnknown 2 (some .int) 1 D dA ad N [.ref (ad 0), .int (nI i)] I J (fun v I' J' => v = some (.int (nI (if rr + i < n then ldI I 12 (rr + i) - eq else n))) ∧ I' = I ∧ J' = J) := by
  refine FM.ofW RX1 rfl (by decide +kernel) (Nat.le_of_ble_eq_true rfl) ?_
  intro p l e s m args below meth c ls X hr hlk hI hl
  have hx := X.1
  have hb := X.2.1
  have hl : lv_has ls 2 [(0, .ref (ad 0)), (1, .int (nI i))] := hl
  refine lv_iload_n hx hb dX1_leadUnknown_0 rfl (lv_at hl 1 rfl) ?_
  refine lv_aload_n hx hb dX1_leadUnknown_1 rfl (lv_at hl 0 rfl) ?_
  refine fl_callV (k := 0) (As := []) (rest := [.int (nI i)]) X hI dX1_leadUnknown_2 (m_X1_basisRows D dA ad N I J hN hn hrr hrn) (by omega) fl_c_5 rfl rfl wc_yX1_basisRows wm_X1_66 wi_yX1_basisRows wl_yX1_basisRows wn_X1 hd_yX1_basisRows rfl ⟨by first | decide | omega, by first | decide | omega⟩ hl.1 (Nat.le_of_ble_eq_true rfl) (fun v I2 J2 H locs hp hI => ?_)
  obtain ⟨hv, hI2, hJ2⟩ := hp
  subst hv
  rw [hI2, hJ2] at hI
  refine W.eq (g2 := F0 m 5 ls [.int (nI (n - rr)), .int (nI i)]) rfl ?_
  refine fn_icmp_ge X (tgt := 29) dX1_leadUnknown_5 (by decide) (by omega) (by omega) (fun c1 => ?_) (fun c1 => ?_)
  · refine lv_aload_n hx hb dX1_leadUnknown_29 rfl (lv_at hl 0 rfl) ?_
    refine fl_get1 X hI dX1_leadUnknown_30 (by omega) 2 (by decide) wf_X1_42 rfl ?_
    refine W.eq (g2 := F0 m 33 ls [.int (nI n)]) (by rw [hn]) ?_
    exact fl_iret X hr hlk hI dX1_leadUnknown_33 ⟨by first | rw [if_pos (by omega)] | rw [if_neg (by omega)], rfl, rfl⟩
  · refine lv_aload_n hx hb dX1_leadUnknown_8 rfl (lv_at hl 0 rfl) ?_
    refine fl_get1 X hI dX1_leadUnknown_9 (by omega) 4 (by decide) wf_X1_23 rfl ?_
    refine lv_aload_n hx hb dX1_leadUnknown_12 rfl (lv_at hl 0 rfl) ?_
    refine fl_get1 X hI dX1_leadUnknown_13 (by omega) 6 (by decide) wf_X1_76 rfl ?_
    refine W.eq (g2 := F0 m 16 ls [.int (nI rr), .ref (ad 6)]) (by rw [hrr]) ?_
    refine lv_iload_n hx hb dX1_leadUnknown_16 rfl (lv_at hl 1 rfl) ?_
    refine fn_iadd X dX1_leadUnknown_17 ?_
    refine fl_callV (k := 6) (As := [.int (nI (rr + i))]) (rest := []) X hI dX1_leadUnknown_18 (m_X0_leadColumn D dA ad N I J hN lat6 (by omega)) (by omega) (fl_c_4 rfl) rfl rfl wc_yX0_leadColumn wm_X1_124 wi_yX0_leadColumn wl_yX0_leadColumn wn_X0 hd_yX0_leadColumn rfl ⟨by first | decide | omega, by first | decide | omega⟩ hl.1 (Nat.le_of_ble_eq_true rfl) (fun v I2 J2 H locs hp hI => ?_)
    obtain ⟨hv, hI2, hJ2⟩ := hp
    subst hv
    rw [hI2, hJ2] at hI
    refine W.eq (g2 := F0 m 21 ls [.int (I (6 + 2 + 4) (rr + i))]) rfl ?_
    refine W.eq (g2 := F0 m 21 ls [.int (nI (ldI I 12 (rr + i)))]) (by rw [show I (6 + 2 + 4) (rr + i) = nI (ldI I 12 (rr + i)) from (hld (by omega)).1]) ?_
    refine lv_aload_n hx hb dX1_leadUnknown_21 rfl (lv_at hl 0 rfl) ?_
    refine fl_get1 X hI dX1_leadUnknown_22 (by omega) 3 (by decide) wf_X1_46 rfl ?_
    refine W.eq (g2 := F0 m 25 ls [.int (nI eq), .int (nI (ldI I 12 (rr + i)))]) (by rw [he]) ?_
    have h9 := (hld (by omega)).2
    refine fn_isub X dX1_leadUnknown_25 (by omega) ?_
    refine lv_goto (tgt := 33) hx hb dX1_leadUnknown_26 (by decide) ?_
    exact fl_iret X hr hlk hI dX1_leadUnknown_33 ⟨by first | rw [if_pos (by omega)] | rw [if_neg (by omega)], rfl, rfl⟩
def x_first (q : Nat) (J : fl_TJ) : Nat → Nat → Int32
  | 0, _ => -1
  | k + 1, i => if J q i = 0 then x_first q J k (i + 1) else nI i
theorem lp_first {p : Program} {l : Launch} {e : Env} {R : Room} {s : State} {m : MethodId} {args : Array Value} {below : List Frame} {meth : Method} {c : Code} {D : va_G} {dA : Nat → ClassId} {ad : Nat → Nat} {N : Nat} {A : Nat → Prop} {I : fl_TI} {J : fl_TJ} {post : Option Value → fl_TI → fl_TJ → Prop} (X : CallFix p m c cX1_firstNotZero 3 s args fl_tb RX1) (hr : meth.sig.returnType = some .int) (hlk : meth.locks = false) (hN : 30 ≤ N) {q eq : Nat} (hq : q < N) (hq1 : fl_k q = 1) (he : I 0 3 = nI eq) (he3 : eq ≤ 3) (heq : eq ≤ fl_n q) :
    ∀ (k i : Nat) (H : Heap) (locs : List Loc) (ls : Array Slot), i + k = eq → fl_I D dA ad N I J A s s.heap H locs → lv_has ls 3 [(2, .int (nI i)), (0, .ref (ad 0)), (1, .ref (ad q))] → post (some (.int (x_first q J k i))) I J → W p l e R s m args below meth c H locs 0 0 (MQ below (fl_Q D dA ad N post A) args s 0 0 A) (F0 m 2 ls []) := by
  have hx := X.1
  have hb := X.2.1
  intro k
  induction k with
  | zero =>
    intro i H locs ls hk hI hl hF
    have hk : eq = i := by omega
    subst hk
    refine lv_iload_n hx hb dX1_firstNotZero_2 rfl (lv_at hl 0 rfl) ?_
    refine lv_aload_n hx hb dX1_firstNotZero_3 rfl (lv_at hl 1 rfl) ?_
    refine fl_get1 X hI dX1_firstNotZero_4 (by omega) 3 (by decide) wf_X1_46 rfl ?_
    refine W.eq (g2 := F0 m 7 ls [.int (nI eq), .int (nI eq)]) (by rw [he]) ?_
    refine fn_icmp_ge X (tgt := 26) dX1_firstNotZero_7 (by decide) (by omega) (by omega) (fun c1 => ?_) (fun c1 => absurd c1 (by omega))
    refine lv_iconst (v := (-1)) hx hb dX1_firstNotZero_26 (by decide) ?_
    exact fl_iret X hr hlk hI dX1_firstNotZero_27 hF
  | succ k ih =>
    intro i H locs ls hk hI hl hF
    refine lv_iload_n hx hb dX1_firstNotZero_2 rfl (lv_at hl 0 rfl) ?_
    refine lv_aload_n hx hb dX1_firstNotZero_3 rfl (lv_at hl 1 rfl) ?_
    refine fl_get1 X hI dX1_firstNotZero_4 (by omega) 3 (by decide) wf_X1_46 rfl ?_
    refine W.eq (g2 := F0 m 7 ls [.int (nI eq), .int (nI i)]) (by rw [he]) ?_
    refine fn_icmp_ge X (tgt := 26) dX1_firstNotZero_7 (by decide) (by omega) (by omega) (fun c1 => absurd c1 (by omega)) (fun c1 => ?_)
    refine lv_aload_n hx hb dX1_firstNotZero_10 rfl (lv_at hl 2 rfl) ?_
    refine lv_iload_n hx hb dX1_firstNotZero_11 rfl (lv_at hl 0 rfl) ?_
    refine fn_lald (k := q) X hI dX1_firstNotZero_12 hq hq1 (by omega) ?_
    refine lv_lconst (v := 0) hx hb dX1_firstNotZero_13 rfl ?_
    refine fl_lc_eq (tgt := 20) hx hb dX1_firstNotZero_14 dX1_firstNotZero_15 (by decide) (fun c2 => ?_) (fun c2 => ?_)
    · refine fn_iinc (a := i) (lv' := [(2, .int (nI (i + 1))), (0, .ref (ad 0)), (1, .ref (ad q))]) X dX1_firstNotZero_20 hl (k := 0) rfl (by decide) rfl (fun ls hl => ?_)
      refine lv_goto (tgt := 2) hx hb dX1_firstNotZero_23 (by decide) ?_
      exact ih (i + 1) _ _ _ (by omega) hI (lv_sub hl [0, 1, 2] rfl) (by have h9 := hF; simp only [x_first] at h9; rw [if_pos c2] at h9; exact h9)
    · refine lv_iload_n hx hb dX1_firstNotZero_18 rfl (lv_at hl 0 rfl) ?_
      exact fl_iret X hr hlk hI dX1_firstNotZero_19 (by have h9 := hF; simp only [x_first] at h9; rw [if_neg c2] at h9; exact h9)
theorem m_X1_firstNotZero (D : va_G) (dA : Nat → ClassId) (ad : Nat → Nat) (N : Nat) (I : fl_TI) (J : fl_TJ) (hN : 30 ≤ N) {q eq : Nat} (hq : q < N) (hq1 : fl_k q = 1) (he : I 0 3 = nI eq) (he3 : eq ≤ 3) (heq : eq ≤ fl_n q) : FM yX1_firstNotZero cX1_firstNotZero 3 (some .int) 0 D dA ad N [.ref (ad 0), .ref (ad q)] I J (fun v I' J' => v = some (.int (x_first q J eq 0)) ∧ I' = I ∧ J' = J) := by
  refine FM.ofW RX1 rfl (by decide +kernel) (Nat.le_of_ble_eq_true rfl) ?_
  intro p l e s m args below meth c ls X hr hlk hI hl
  have hx := X.1
  have hb := X.2.1
  have hl : lv_has ls 3 [(0, .ref (ad 0)), (1, .ref (ad q))] := hl
  refine lv_iconst (v := nI 0) hx hb dX1_firstNotZero_0 (by decide) ?_
  refine lv_istore_n (lv' := [(2, .int (nI 0)), (0, .ref (ad 0)), (1, .ref (ad q))]) hx hb dX1_firstNotZero_1 rfl hl (by decide) rfl (fun ls hl => ?_)
  exact lp_first X hr hlk hN hq hq1 he he3 heq eq 0 _ _ _ (Nat.zero_add _) hI hl ⟨rfl, rfl, rfl⟩
def j_negs (eq : Nat) (I : fl_TI) (J : fl_TJ) : fl_TJ := fl_it (fun i J => fl_up J 22 i ((-(I 5 i)).toInt64)) eq 0 J
def j_settle (eq n rk : Nat) (I : fl_TI) (J : fl_TJ) : fl_TJ := j_reduce 6 22 (eq + n) rk (ldI I 12) (j_negs eq I (j_fill 22 J))
def i_settle (eq n rk : Nat) (I : fl_TI) (J : fl_TJ) : fl_TI := fl_up I 0 8 (x_first 22 (j_settle eq n rk I J) eq 0)
theorem lp_negs {p : Program} {l : Launch} {e : Env} {R : Room} {s : State} {m : MethodId} {args : Array Value} {below : List Frame} {meth : Method} {c : Code} {Q : State → Prop} {D : va_G} {dA : Nat → ClassId} {ad : Nat → Nat} {N : Nat} {A : Nat → Prop} {H0 : Heap} {I : fl_TI} {J9 : fl_TJ} (X : CallFix p m c cX1_settleSolution 2 s args fl_tb RX1) {eq : Nat} (hN : 30 ≤ N) (he : I 0 3 = nI eq) (he3 : eq ≤ 3)
    (kx : ∀ (H : Heap) (locs : List Loc) (ls : Array Slot), fl_I D dA ad N I J9 A s H0 H locs → lv_has ls 2 [(1, .int (nI eq)), (0, .ref (ad 0))] → W p l e R s m args below meth c H locs 0 0 Q (F0 m 37 ls [])) :
    ∀ (k i : Nat) (J : fl_TJ) (H : Heap) (locs : List Loc) (ls : Array Slot), i + k = eq → fl_I D dA ad N I J A s H0 H locs → lv_has ls 2 [(1, .int (nI i)), (0, .ref (ad 0))] → fl_it (fun i J => fl_up J 22 i ((-(I 5 i)).toInt64)) k i J = J9 → W p l e R s m args below meth c H locs 0 0 Q (F0 m 9 ls []) := by
  have hx := X.1
  have hb := X.2.1
  intro k
  induction k with
  | zero =>
    intro i J H locs ls hk hI hl hF
    have hF : J = J9 := hF
    subst hF
    have hk : eq = i := by omega
    subst hk
    refine lv_iload_n hx hb dX1_settleSolution_9 rfl (lv_at hl 0 rfl) ?_
    refine lv_aload_n hx hb dX1_settleSolution_10 rfl (lv_at hl 1 rfl) ?_
    refine fl_get1 X hI dX1_settleSolution_11 (by omega) 3 (by decide) wf_X1_46 rfl ?_
    refine W.eq (g2 := F0 m 14 ls [.int (nI eq), .int (nI eq)]) (by rw [he]) ?_
    refine fn_icmp_ge X (tgt := 37) dX1_settleSolution_14 (by decide) (by omega) (by omega) (fun c1 => ?_) (fun c1 => absurd c1 (by omega))
    exact kx _ _ _ hI (lv_sub hl [0, 1] rfl)
  | succ k ih =>
    intro i J H locs ls hk hI hl hF
    refine lv_iload_n hx hb dX1_settleSolution_9 rfl (lv_at hl 0 rfl) ?_
    refine lv_aload_n hx hb dX1_settleSolution_10 rfl (lv_at hl 1 rfl) ?_
    refine fl_get1 X hI dX1_settleSolution_11 (by omega) 3 (by decide) wf_X1_46 rfl ?_
    refine W.eq (g2 := F0 m 14 ls [.int (nI eq), .int (nI i)]) (by rw [he]) ?_
    refine fn_icmp_ge X (tgt := 37) dX1_settleSolution_14 (by decide) (by omega) (by omega) (fun c1 => absurd c1 (by omega)) (fun c1 => ?_)
    refine lv_aload_n hx hb dX1_settleSolution_17 rfl (lv_at hl 1 rfl) ?_
    refine fl_get1 X hI dX1_settleSolution_18 (by omega) 7 (by decide) wf_X1_30 rfl ?_
    refine lv_iload_n hx hb dX1_settleSolution_21 rfl (lv_at hl 0 rfl) ?_
    refine lv_aload_n hx hb dX1_settleSolution_22 rfl (lv_at hl 1 rfl) ?_
    refine fl_get1 X hI dX1_settleSolution_23 (by omega) 1 (by decide) wf_X1_14 rfl ?_
    refine lv_iload_n hx hb dX1_settleSolution_26 rfl (lv_at hl 0 rfl) ?_
    refine fn_iald (k := 5) X hI dX1_settleSolution_27 (by omega) rfl (show i < 3 by omega) ?_
    refine lv_ineg hx hb dX1_settleSolution_28 ?_
    refine lv_i2l hx hb dX1_settleSolution_29 rfl ?_
    refine fn_last (k := 22) X hI dX1_settleSolution_30 (by omega) rfl (show i < 7 by omega) (fun H locs hI => ?_)
    refine fn_iinc (a := i) (lv' := [(1, .int (nI (i + 1))), (0, .ref (ad 0))]) X dX1_settleSolution_31 hl (k := 0) rfl (by decide) rfl (fun ls hl => ?_)
    refine lv_goto (tgt := 9) hx hb dX1_settleSolution_34 (by decide) ?_
    exact ih (i + 1) _ _ _ _ (by omega) hI (lv_sub hl [0, 1] rfl) hF
theorem m_X1_settle (D : va_G) (dA : Nat → ClassId) (ad : Nat → Nat) (N : Nat) (I : fl_TI) (J : fl_TJ) (hN : 30 ≤ N) {n eq rk : Nat} (he : I 0 3 = nI eq) (he3 : eq ≤ 3) (hn4 : n ≤ 4) (hw : I 6 3 = nI (eq + n)) (hrk : I 6 4 = nI rk) (hrk4 : rk ≤ 4) (hld : ∀ i, i < rk → I 12 i = nI (ldI I 12 i) ∧ ldI I 12 i < eq + n) : FM yX1_settleSolution cX1_settleSolution 2 none 3 D dA ad N [.ref (ad 0)] I J (fun v I' J' => v = none ∧ I' = i_settle eq n rk I J ∧ J' = j_settle eq n rk I J) := by
  refine FM.ofW RX1 rfl (by decide +kernel) (Nat.le_of_ble_eq_true rfl) ?_
  intro p l e s m args below meth c ls X hr hlk hI hl
  have hx := X.1
  have hb := X.2.1
  have hl : lv_has ls 2 [(0, .ref (ad 0))] := hl
  refine lv_aload_n hx hb dX1_settleSolution_0 rfl (lv_at hl 0 rfl) ?_
  refine fl_get1 X hI dX1_settleSolution_1 (by omega) 7 (by decide) wf_X1_30 rfl ?_
  refine fl_callS (As := [.ref (ad 22)]) (rest := []) X hI dX1_settleSolution_4 (m_fill D dA ad N I J (q := 22) (by omega) rfl) wc_yX1_fillWithZero wm_X1_82 ws_yX1_fillWithZero wn_X1 hd_yX1_fillWithZero rfl ⟨by first | decide | omega, by first | decide | omega⟩ hl.1 (Nat.le_of_ble_eq_true rfl) (fun v I2 J2 H locs hp hI => ?_)
  obtain ⟨hv, hI2, hJ2⟩ := hp
  subst hv
  rw [hI2, hJ2] at hI
  refine W.eq (g2 := F0 m 7 ls []) rfl ?_
  refine lv_iconst (v := nI 0) hx hb dX1_settleSolution_7 (by decide) ?_
  refine lv_istore_n (lv' := [(1, .int (nI 0)), (0, .ref (ad 0))]) hx hb dX1_settleSolution_8 rfl hl (by decide) rfl (fun ls hl => ?_)
  refine lp_negs X hN he he3 (J9 := j_negs eq I (j_fill 22 J)) (fun H locs ls hI hl => ?_) eq 0 _ _ _ _ (Nat.zero_add _) hI hl rfl
  refine lv_aload_n hx hb dX1_settleSolution_37 rfl (lv_at hl 1 rfl) ?_
  refine fl_get1 X hI dX1_settleSolution_38 (by omega) 4 (by decide) wf_X1_23 rfl ?_
  refine lv_aload_n hx hb dX1_settleSolution_41 rfl (lv_at hl 1 rfl) ?_
  refine fl_get1 X hI dX1_settleSolution_42 (by omega) 7 (by decide) wf_X1_30 rfl ?_
  refine fl_callV (k := 6) (As := [.ref (ad 22)]) (rest := []) X hI dX1_settleSolution_45 (m_X0_reduce D dA ad N I (j_negs eq I (j_fill 22 J)) hN lat6 (q := 22) (by omega) rfl hw (by omega) (show _ ≤ 7 by omega) hrk (by omega) (fun i hi => ⟨(hld i hi).1, by have := (hld i hi).2; omega, by have := (hld i hi).2; show _ < 7; omega⟩)) (by omega) (fl_c_4 rfl) rfl rfl wc_yX0_reduce wm_X1_86 wi_yX0_reduce wl_yX0_reduce wn_X0 hd_yX0_reduce rfl ⟨by first | decide | omega, by first | decide | omega⟩ hl.1 (Nat.le_of_ble_eq_true rfl) (fun v I2 J2 H locs hp hI => ?_)
  obtain ⟨hv, hI2, hJ2⟩ := hp
  subst hv
  rw [hI2, hJ2] at hI
  refine W.eq (g2 := F0 m 48 ls []) rfl ?_
  refine lv_aload_n hx hb dX1_settleSolution_48 rfl (lv_at hl 1 rfl) ?_
  refine lv_aload_n hx hb dX1_settleSolution_49 rfl (lv_at hl 1 rfl) ?_
  refine lv_aload_n hx hb dX1_settleSolution_50 rfl (lv_at hl 1 rfl) ?_
  refine fl_get1 X hI dX1_settleSolution_51 (by omega) 7 (by decide) wf_X1_30 rfl ?_
  refine fl_callV (k := 0) (As := [.ref (ad 22)]) (rest := [.ref (ad 0)]) X hI dX1_settleSolution_54 (m_X1_firstNotZero D dA ad N I (j_reduce 6 22 (eq + n) rk (ldI I 12) (j_negs eq I (j_fill 22 J))) hN (q := 22) (by omega) rfl he he3 (show _ ≤ 7 by omega)) (by omega) fl_c_5 rfl rfl wc_yX1_firstNotZero wm_X1_89 wi_yX1_firstNotZero wl_yX1_firstNotZero wn_X1 hd_yX1_firstNotZero rfl ⟨by first | decide | omega, by first | decide | omega⟩ hl.1 (Nat.le_of_ble_eq_true rfl) (fun v I2 J2 H locs hp hI => ?_)
  obtain ⟨hv, hI2, hJ2⟩ := hp
  subst hv
  rw [hI2, hJ2] at hI
  refine W.eq (g2 := F0 m 57 ls [.int (x_first 22 (j_reduce 6 22 (eq + n) rk (ldI I 12) (j_negs eq I (j_fill 22 J))) eq 0), .ref (ad 0)]) rfl ?_
  refine fl_put1 X hI dX1_settleSolution_57 (by omega) 8 (by decide) wf_X1_63 (fun H locs hI => ?_)
  exact fl_vret X hr hlk hI dX1_settleSolution_60 ⟨rfl, rfl, rfl⟩
end
section
/-! formWhole -/
def j_put1 (j eq : Nat) (I : fl_TI) (J : fl_TJ) : fl_TJ := fl_it (fun i J => fl_up J (6 + 2 + j) i ((I (2 + i) j).toInt64)) eq 0 J
def j_puts (n eq : Nat) (I : fl_TI) (J : fl_TJ) : fl_TJ := fl_it (fun j J => fl_up (j_put1 j eq I J) (6 + 2 + j) (eq + j) 1) n 0 J
theorem lp_put1 {p : Program} {l : Launch} {e : Env} {R : Room} {s : State} {m : MethodId} {args : Array Value} {below : List Frame} {meth : Method} {c : Code} {Q : State → Prop} {D : va_G} {dA : Nat → ClassId} {ad : Nat → Nat} {N : Nat} {A : Nat → Prop} {H0 : Heap} {I : fl_TI} {J9 : fl_TJ} (X : CallFix p m c cX1_formWhole 3 s args fl_tb RX1) {n eq j : Nat} (hN : 30 ≤ N) (hn : I 0 2 = nI n) (hn4 : n ≤ 4) (he : I 0 3 = nI eq) (he3 : eq ≤ 3) (hj : j < n) (hR : 0 + 1 ≤ R.frames ∧ 8 + (5 + 11) + 40 * 0 ≤ R.locals)
    (kx : ∀ (H : Heap) (locs : List Loc) (ls : Array Slot), fl_I D dA ad N I J9 A s H0 H locs → lv_has ls 3 [(2, .int (nI eq)), (1, .int (nI j)), (0, .ref (ad 0))] → W p l e R s m args below meth c H locs 0 0 Q (F0 m 64 ls [])) :
    ∀ (k i : Nat) (J : fl_TJ) (H : Heap) (locs : List Loc) (ls : Array Slot), i + k = eq → fl_I D dA ad N I J A s H0 H locs → lv_has ls 3 [(2, .int (nI i)), (1, .int (nI j)), (0, .ref (ad 0))] → fl_it (fun i J => fl_up J (6 + 2 + j) i ((I (2 + i) j).toInt64)) k i J = J9 → W p l e R s m args below meth c H locs 0 0 Q (F0 m 32 ls []) := by
  have hx := X.1
  have hb := X.2.1
  intro k
  induction k with
  | zero =>
    intro i J H locs ls hk hI hl hF
    have hF : J = J9 := hF
    subst hF
    have hk : eq = i := by omega
    subst hk
    refine lv_iload_n hx hb dX1_formWhole_32 rfl (lv_at hl 0 rfl) ?_
    refine lv_aload_n hx hb dX1_formWhole_33 rfl (lv_at hl 2 rfl) ?_
    refine fl_get1 X hI dX1_formWhole_34 (by omega) 3 (by decide) wf_X1_46 rfl ?_
    refine W.eq (g2 := F0 m 37 ls [.int (nI eq), .int (nI eq)]) (by rw [he]) ?_
    refine fn_icmp_ge X (tgt := 64) dX1_formWhole_37 (by decide) (by omega) (by omega) (fun c1 => ?_) (fun c1 => absurd c1 (by omega))
    exact kx _ _ _ hI (lv_sub hl [0, 1, 2] rfl)
  | succ k ih =>
    intro i J H locs ls hk hI hl hF
    refine lv_iload_n hx hb dX1_formWhole_32 rfl (lv_at hl 0 rfl) ?_
    refine lv_aload_n hx hb dX1_formWhole_33 rfl (lv_at hl 2 rfl) ?_
    refine fl_get1 X hI dX1_formWhole_34 (by omega) 3 (by decide) wf_X1_46 rfl ?_
    refine W.eq (g2 := F0 m 37 ls [.int (nI eq), .int (nI i)]) (by rw [he]) ?_
    refine fn_icmp_ge X (tgt := 64) dX1_formWhole_37 (by decide) (by omega) (by omega) (fun c1 => absurd c1 (by omega)) (fun c1 => ?_)
    refine lv_aload_n hx hb dX1_formWhole_40 rfl (lv_at hl 2 rfl) ?_
    refine fl_get1 X hI dX1_formWhole_41 (by omega) 4 (by decide) wf_X1_23 rfl ?_
    refine lv_iload_n hx hb dX1_formWhole_44 rfl (lv_at hl 1 rfl) ?_
    refine lv_iload_n hx hb dX1_formWhole_45 rfl (lv_at hl 0 rfl) ?_
    refine lv_aload_n hx hb dX1_formWhole_46 rfl (lv_at hl 2 rfl) ?_
    refine fl_get1 X hI dX1_formWhole_47 (by omega) 0 (by decide) wf_X1_11 rfl ?_
    refine lv_iload_n hx hb dX1_formWhole_50 rfl (lv_at hl 0 rfl) ?_
    refine fn_aald2 (k := 1) X hI dX1_formWhole_51 (by omega) rfl (show i < 3 by omega) ?_
    refine lv_iload_n hx hb dX1_formWhole_52 rfl (lv_at hl 1 rfl) ?_
    refine fn_iald (k := 2 + i) X hI dX1_formWhole_53 (by omega) (fk2 (by omega)) (by rw [fn2 (by omega)]; omega) ?_
    refine lv_i2l hx hb dX1_formWhole_54 rfl ?_
    refine fl_callV (k := 6) (As := [.int (nI j), .int (nI i), .long ((I (2 + i) j).toInt64)]) (rest := []) X hI dX1_formWhole_55 (m_X0_put D dA ad N I J hN lat6 ((I (2 + i) j).toInt64) (by omega) (by omega)) (by omega) (fl_c_4 rfl) rfl rfl wc_yX0_put wm_X1_131 wi_yX0_put wl_yX0_put wn_X0 hd_yX0_put rfl ⟨by first | decide | omega, by first | decide | omega⟩ hl.1 (Nat.le_of_ble_eq_true rfl) (fun v I2 J2 H locs hp hI => ?_)
    obtain ⟨hv, hI2, hJ2⟩ := hp
    subst hv
    rw [hI2, hJ2] at hI
    refine W.eq (g2 := F0 m 58 ls []) rfl ?_
    refine fn_iinc (a := i) (lv' := [(2, .int (nI (i + 1))), (1, .int (nI j)), (0, .ref (ad 0))]) X dX1_formWhole_58 hl (k := 0) rfl (by decide) rfl (fun ls hl => ?_)
    refine lv_goto (tgt := 32) hx hb dX1_formWhole_61 (by decide) ?_
    exact ih (i + 1) _ _ _ _ (by omega) hI (lv_sub hl [0, 1, 2] rfl) hF
theorem lp_puts {p : Program} {l : Launch} {e : Env} {R : Room} {s : State} {m : MethodId} {args : Array Value} {below : List Frame} {meth : Method} {c : Code} {Q : State → Prop} {D : va_G} {dA : Nat → ClassId} {ad : Nat → Nat} {N : Nat} {A : Nat → Prop} {H0 : Heap} {I : fl_TI} {J9 : fl_TJ} (X : CallFix p m c cX1_formWhole 3 s args fl_tb RX1) {n eq : Nat} (hN : 30 ≤ N) (hn : I 0 2 = nI n) (hn4 : n ≤ 4) (he : I 0 3 = nI eq) (he3 : eq ≤ 3) (hR : 0 + 1 ≤ R.frames ∧ 8 + (5 + 11) + 40 * 0 ≤ R.locals)
    (kx : ∀ (H : Heap) (locs : List Loc) (ls : Array Slot), fl_I D dA ad N I J9 A s H0 H locs → lv_has ls 3 [(1, .int (nI n)), (0, .ref (ad 0))] → W p l e R s m args below meth c H locs 0 0 Q (F0 m 85 ls [])) :
    ∀ (k i : Nat) (J : fl_TJ) (H : Heap) (locs : List Loc) (ls : Array Slot), i + k = n → fl_I D dA ad N I J A s H0 H locs → lv_has ls 3 [(1, .int (nI i)), (0, .ref (ad 0))] → fl_it (fun j J => fl_up (j_put1 j eq I J) (6 + 2 + j) (eq + j) 1) k i J = J9 → W p l e R s m args below meth c H locs 0 0 Q (F0 m 22 ls []) := by
  have hx := X.1
  have hb := X.2.1
  intro k
  induction k with
  | zero =>
    intro i J H locs ls hk hI hl hF
    have hF : J = J9 := hF
    subst hF
    have hk : n = i := by omega
    subst hk
    refine lv_iload_n hx hb dX1_formWhole_22 rfl (lv_at hl 0 rfl) ?_
    refine lv_aload_n hx hb dX1_formWhole_23 rfl (lv_at hl 1 rfl) ?_
    refine fl_get1 X hI dX1_formWhole_24 (by omega) 2 (by decide) wf_X1_42 rfl ?_
    refine W.eq (g2 := F0 m 27 ls [.int (nI n), .int (nI n)]) (by rw [hn]) ?_
    refine fn_icmp_ge X (tgt := 85) dX1_formWhole_27 (by decide) (by omega) (by omega) (fun c1 => ?_) (fun c1 => absurd c1 (by omega))
    exact kx _ _ _ hI (lv_sub hl [0, 1] rfl)
  | succ k ih =>
    intro i J H locs ls hk hI hl hF
    refine lv_iload_n hx hb dX1_formWhole_22 rfl (lv_at hl 0 rfl) ?_
    refine lv_aload_n hx hb dX1_formWhole_23 rfl (lv_at hl 1 rfl) ?_
    refine fl_get1 X hI dX1_formWhole_24 (by omega) 2 (by decide) wf_X1_42 rfl ?_
    refine W.eq (g2 := F0 m 27 ls [.int (nI n), .int (nI i)]) (by rw [hn]) ?_
    refine fn_icmp_ge X (tgt := 85) dX1_formWhole_27 (by decide) (by omega) (by omega) (fun c1 => absurd c1 (by omega)) (fun c1 => ?_)
    refine lv_iconst (v := nI 0) hx hb dX1_formWhole_30 (by decide) ?_
    refine lv_istore_n (lv' := [(2, .int (nI 0)), (1, .int (nI i)), (0, .ref (ad 0))]) hx hb dX1_formWhole_31 rfl hl (by decide) rfl (fun ls hl => ?_)
    refine lp_put1 X hN hn hn4 he he3 (by omega) hR (J9 := j_put1 i eq I J) (fun H locs ls hI hl => ?_) eq 0 _ _ _ _ (Nat.zero_add _) hI (lv_sub hl [0, 1, 2] rfl) rfl
    refine lv_aload_n hx hb dX1_formWhole_64 rfl (lv_at hl 2 rfl) ?_
    refine fl_get1 X hI dX1_formWhole_65 (by omega) 4 (by decide) wf_X1_23 rfl ?_
    refine lv_iload_n hx hb dX1_formWhole_68 rfl (lv_at hl 1 rfl) ?_
    refine lv_aload_n hx hb dX1_formWhole_69 rfl (lv_at hl 2 rfl) ?_
    refine fl_get1 X hI dX1_formWhole_70 (by omega) 3 (by decide) wf_X1_46 rfl ?_
    refine W.eq (g2 := F0 m 73 ls [.int (nI eq), .int (nI i), .ref (ad 6)]) (by rw [he]) ?_
    refine lv_iload_n hx hb dX1_formWhole_73 rfl (lv_at hl 1 rfl) ?_
    refine fn_iadd X dX1_formWhole_74 ?_
    refine lv_lconst (v := 1) hx hb dX1_formWhole_75 rfl ?_
    refine fl_callV (k := 6) (As := [.int (nI i), .int (nI (eq + i)), .long 1]) (rest := []) X hI dX1_formWhole_76 (m_X0_put D dA ad N I (j_put1 i eq I J) hN lat6 (1) (by omega) (by omega)) (by omega) (fl_c_4 rfl) rfl rfl wc_yX0_put wm_X1_131 wi_yX0_put wl_yX0_put wn_X0 hd_yX0_put rfl ⟨by first | decide | omega, by first | decide | omega⟩ hl.1 (Nat.le_of_ble_eq_true rfl) (fun v I2 J2 H locs hp hI => ?_)
    obtain ⟨hv, hI2, hJ2⟩ := hp
    subst hv
    rw [hI2, hJ2] at hI
    refine W.eq (g2 := F0 m 79 ls []) rfl ?_
    refine fn_iinc (a := i) (lv' := [(1, .int (nI (i + 1))), (2, .int (nI eq)), (0, .ref (ad 0))]) X dX1_formWhole_79 hl (k := 1) rfl (by decide) rfl (fun ls hl => ?_)
    refine lv_goto (tgt := 22) hx hb dX1_formWhole_82 (by decide) ?_
    exact ih (i + 1) _ _ _ _ (by omega) hI (lv_sub hl [0, 2] rfl) hF
def x_i1 (eq : Nat) (x : Nat × fl_TI × fl_TJ) : fl_TI := fl_up x.2.1 0 6 (nI (n_bef x.2.1 (6 + 2 + 4) (nI eq) x.1))
theorem tl_form {p : Program} {l : Launch} {e : Env} {s : State} {m : MethodId} {args : Array Value} {below : List Frame} {meth : Method} {c : Code} {D : va_G} {dA : Nat → ClassId} {ad : Nat → Nat} {N : Nat} {A : Nat → Prop} {I : fl_TI} {J : fl_TJ} {post : Option Value → fl_TI → fl_TJ → Prop} {H : Heap} {locs : List Loc} {ls : Array Slot} (X : CallFix p m c cX1_formWhole 3 s args fl_tb RX1) (hr : meth.sig.returnType = none) (hlk : meth.locks = false) {n eq : Nat} (hN : 30 ≤ N) (hn : I 0 2 = nI n) (hn4 : n ≤ 4) (he : I 0 3 = nI eq) (he3 : eq ≤ 3) (hh : I 6 2 = nI n) (hw : I 6 3 = nI (eq + n)) (hr0 : I 6 4 = nI 0) (hI : fl_I D dA ad N I J A s s.heap H locs) (hl : lv_has ls 3 [(0, .ref (ad 0))]) (hp : post none (i_settle eq n (b_form 6 4 n (eq + n) (eq + n) 0 (0, I, J)).1 (x_i1 eq (b_form 6 4 n (eq + n) (eq + n) 0 (0, I, J))) (b_form 6 4 n (eq + n) (eq + n) 0 (0, I, J)).2.2) (j_settle eq n (b_form 6 4 n (eq + n) (eq + n) 0 (0, I, J)).1 (x_i1 eq (b_form 6 4 n (eq + n) (eq + n) 0 (0, I, J))) (b_form 6 4 n (eq + n) (eq + n) 0 (0, I, J)).2.2)) : W p l e (fl_rm 4) s m args below meth c H locs 0 0 (MQ below (fl_Q D dA ad N post A) args s 0 0 A) (F0 m 85 ls []) := by
  have hx := X.1
  have hb := X.2.1
  obtain ⟨g1, g2, g3, g4⟩ := b_form_I 6 4 n (eq + n) (by omega) (eq + n) 0 0 I J (Nat.zero_add _) hr0 (Nat.zero_le _) (fun i hi => absurd hi (Nat.not_lt_zero _))
  have hM := m_X0_bringToForm D dA ad N I J hN lat6 hh hn4 hw (by omega) hr0 (Nat.zero_le _)
  generalize b_form 6 4 n (eq + n) (eq + n) 0 (0, I, J) = x9 at g1 g2 g3 g4 hM hp
  refine lv_aload_n hx hb dX1_formWhole_85 rfl (lv_at hl 0 rfl) ?_
  refine fl_get1 X hI dX1_formWhole_86 (by omega) 4 (by decide) wf_X1_23 rfl ?_
  refine fl_callV (k := 6) (As := []) (rest := []) X hI dX1_formWhole_89 hM (by omega) (fl_c_4 rfl) rfl rfl wc_yX0_bringToForm wm_X1_135 wi_yX0_bringToForm wl_yX0_bringToForm wn_X0 hd_yX0_bringToForm rfl ⟨by first | decide | omega, by first | decide | omega⟩ hl.1 (Nat.le_of_ble_eq_true rfl) (fun v I2 J2 H locs hp hI => ?_)
  obtain ⟨hv, hI2, hJ2⟩ := hp
  subst hv
  rw [hI2, hJ2] at hI
  refine W.eq (g2 := F0 m 92 ls []) rfl ?_
  refine lv_aload_n hx hb dX1_formWhole_92 rfl (lv_at hl 0 rfl) ?_
  refine lv_aload_n hx hb dX1_formWhole_93 rfl (lv_at hl 0 rfl) ?_
  refine fl_get1 X hI dX1_formWhole_94 (by omega) 4 (by decide) wf_X1_23 rfl ?_
  refine lv_aload_n hx hb dX1_formWhole_97 rfl (lv_at hl 0 rfl) ?_
  refine fl_get1 X hI dX1_formWhole_98 (by omega) 3 (by decide) wf_X1_46 rfl ?_
  refine W.eq (g2 := F0 m 101 ls [.int (nI eq), .ref (ad 6), .ref (ad 0)]) (by rw [g4 0 3 (by omega) (by omega), he]) ?_
  refine fl_callV (k := 6) (As := [.int (nI eq)]) (rest := [.ref (ad 0)]) X hI dX1_formWhole_101 (m_X0_leadsBefore D dA ad N x9.2.1 x9.2.2 hN lat6 g2 (by omega)) (by omega) (fl_c_4 rfl) rfl rfl wc_yX0_leadsBefore wm_X1_138 wi_yX0_leadsBefore wl_yX0_leadsBefore wn_X0 hd_yX0_leadsBefore rfl ⟨by first | decide | omega, by first | decide | omega⟩ hl.1 (Nat.le_of_ble_eq_true rfl) (fun v I2 J2 H locs hp hI => ?_)
  obtain ⟨hv, hI2, hJ2⟩ := hp
  subst hv
  rw [hI2, hJ2] at hI
  refine W.eq (g2 := F0 m 104 ls [.int (nI (n_bef x9.2.1 (6 + 2 + 4) (nI eq) x9.1)), .ref (ad 0)]) rfl ?_
  refine fl_put1 X hI dX1_formWhole_104 (by omega) 6 (by decide) wf_X1_76 (fun H locs hI => ?_)
  refine lv_aload_n hx hb dX1_formWhole_107 rfl (lv_at hl 0 rfl) ?_
  refine fl_callV (k := 0) (I := x_i1 eq x9) (As := []) (rest := []) X hI dX1_formWhole_108 (m_X1_settle D dA ad N (x_i1 eq x9) x9.2.2 hN (n := n) (by unfold x_i1; rw [fl_up_j (by omega), g4 0 3 (by omega) (by omega)]; exact he) he3 hn4 (by unfold x_i1; rw [fl_up_k (by omega), g4 6 3 (by omega) (by omega)]; exact hw) (by unfold x_i1; rw [fl_up_k (by omega)]; exact g2) (by omega) (fun i hi => by unfold ldI x_i1; rw [fl_up_k (by omega)]; exact g3 i hi)) (by omega) fl_c_5 rfl rfl wc_yX1_settleSolution wm_X1_60 wi_yX1_settleSolution wl_yX1_settleSolution wn_X1 hd_yX1_settleSolution rfl ⟨by first | decide | omega, by first | decide | omega⟩ hl.1 (Nat.le_of_ble_eq_true rfl) (fun v I2 J2 H locs hp hI => ?_)
  obtain ⟨hv, hI2, hJ2⟩ := hp
  subst hv
  rw [hI2, hJ2] at hI
  refine W.eq (g2 := F0 m 111 ls []) rfl ?_
  exact fl_vret X hr hlk hI dX1_formWhole_111 hp
def x_i0 (n eq : Nat) (I : fl_TI) : fl_TI := i_clear 6 (nI n) (nI (eq + n)) I
/-- the form of the lattice of n unknowns and eq equations-/
def x_b (n eq : Nat) (I : fl_TI) (J : fl_TJ) : Nat × fl_TI × fl_TJ := b_form 6 4 n (eq + n) (eq + n) 0 (0, x_i0 n eq I, j_puts n eq (x_i0 n eq I) (j_clear 6 n J))
def x_formI (n eq : Nat) (I : fl_TI) (J : fl_TJ) : fl_TI := i_settle eq n (x_b n eq I J).1 (x_i1 eq (x_b n eq I J)) (x_b n eq I J).2.2
def x_formJ (n eq : Nat) (I : fl_TI) (J : fl_TJ) : fl_TJ := j_settle eq n (x_b n eq I J).1 (x_i1 eq (x_b n eq I J)) (x_b n eq I J).2.2
theorem i_clear_far {o : Nat} {h w : Int32} {I : fl_TI} {a b : Nat} (ha : a ≠ o) : i_clear o h w I a b = I a b := by unfold i_clear; rw [fl_up_k ha, fl_up_k ha, fl_up_k ha]
theorem m_X1_formWhole (D : va_G) (dA : Nat → ClassId) (ad : Nat → Nat) (N : Nat) (I : fl_TI) (J : fl_TJ) {n eq : Nat} (hN : 30 ≤ N) (hn : I 0 2 = nI n) (hn4 : n ≤ 4) (he : I 0 3 = nI eq) (he3 : eq ≤ 3) : FM yX1_formWhole cX1_formWhole 3 none 4 D dA ad N [.ref (ad 0)] I J (fun v I' J' => v = none ∧ I' = x_formI n eq I J ∧ J' = x_formJ n eq I J) := by
  refine FM.ofW RX1 rfl (by decide +kernel) (Nat.le_of_ble_eq_true rfl) ?_
  intro p l e s m args below meth c ls X hr hlk hI hl
  have hx := X.1
  have hb := X.2.1
  have hl : lv_has ls 3 [(0, .ref (ad 0))] := hl
  refine lv_aload_n hx hb dX1_formWhole_0 rfl (lv_at hl 0 rfl) ?_
  refine fl_get1 X hI dX1_formWhole_1 (by omega) 4 (by decide) wf_X1_23 rfl ?_
  refine lv_aload_n hx hb dX1_formWhole_4 rfl (lv_at hl 0 rfl) ?_
  refine fl_get1 X hI dX1_formWhole_5 (by omega) 2 (by decide) wf_X1_42 rfl ?_
  refine W.eq (g2 := F0 m 8 ls [.int (nI n), .ref (ad 6)]) (by rw [hn]) ?_
  refine lv_aload_n hx hb dX1_formWhole_8 rfl (lv_at hl 0 rfl) ?_
  refine fl_get1 X hI dX1_formWhole_9 (by omega) 3 (by decide) wf_X1_46 rfl ?_
  refine W.eq (g2 := F0 m 12 ls [.int (nI eq), .int (nI n), .ref (ad 6)]) (by rw [he]) ?_
  refine lv_aload_n hx hb dX1_formWhole_12 rfl (lv_at hl 0 rfl) ?_
  refine fl_get1 X hI dX1_formWhole_13 (by omega) 2 (by decide) wf_X1_42 rfl ?_
  refine W.eq (g2 := F0 m 16 ls [.int (nI n), .int (nI eq), .int (nI n), .ref (ad 6)]) (by rw [hn]) ?_
  refine fn_iadd X dX1_formWhole_16 ?_
  refine fl_callV (k := 6) (As := [.int (nI n), .int (nI (eq + n))]) (rest := []) X hI dX1_formWhole_17 (m_X0_clear D dA ad N I J hN lat6 hn4) (by omega) (fl_c_4 rfl) rfl rfl wc_yX0_clear wm_X1_128 wi_yX0_clear wl_yX0_clear wn_X0 hd_yX0_clear rfl ⟨by first | decide | omega, by first | decide | omega⟩ hl.1 (Nat.le_of_ble_eq_true rfl) (fun v I2 J2 H locs hp hI => ?_)
  obtain ⟨hv, hI2, hJ2⟩ := hp
  subst hv
  rw [hI2, hJ2] at hI
  refine W.eq (g2 := F0 m 20 ls []) rfl ?_
  refine lv_iconst (v := nI 0) hx hb dX1_formWhole_20 (by decide) ?_
  refine lv_istore_n (lv' := [(1, .int (nI 0)), (0, .ref (ad 0))]) hx hb dX1_formWhole_21 rfl hl (by decide) rfl (fun ls hl => ?_)
  have hn2 : x_i0 n eq I 0 2 = nI n := by unfold x_i0; rw [i_clear_far (by omega)]; exact hn
  have he2 : x_i0 n eq I 0 3 = nI eq := by unfold x_i0; rw [i_clear_far (by omega)]; exact he
  refine lp_puts (I := x_i0 n eq I) X hN hn2 hn4 he2 he3 ⟨by decide, by decide⟩ (J9 := j_puts n eq (x_i0 n eq I) (j_clear 6 n J)) (fun H locs ls hI hl => ?_) n 0 _ _ _ _ (Nat.zero_add _) hI hl rfl
  exact tl_form X hr hlk hN hn2 hn4 he2 he3 (by unfold x_i0 i_clear; rw [fl_up_j (by omega), fl_up_j (by omega), fl_up_s]) (by unfold x_i0 i_clear; rw [fl_up_j (by omega), fl_up_s]) (by unfold x_i0 i_clear; rw [fl_up_s]) hI (lv_sub hl [1] rfl) ⟨rfl, rfl, rfl⟩
theorem x_form_ok {n eq : Nat} {I : fl_TI} {J : fl_TJ} (hn : I 0 2 = nI n) (hn1 : 1 ≤ n ∧ n ≤ 4) (he : I 0 3 = nI eq) (he3 : eq ≤ 3) :
    x_ok (x_formI n eq I J) n eq (n_bef (x_b n eq I J).2.1 (6 + 2 + 4) (nI eq) (x_b n eq I J).1) (x_b n eq I J).1 ∧ (∀ a b, a ≠ 0 → a ≠ 6 → a ≠ 12 → x_formI n eq I J a b = I a b) := by
  obtain ⟨g1, g2, g3, g4⟩ := b_form_I 6 4 n (eq + n) (by omega) (eq + n) 0 0 (x_i0 n eq I) (j_puts n eq (x_i0 n eq I) (j_clear 6 n J)) (Nat.zero_add _) (by unfold x_i0 i_clear; rw [fl_up_s]) (Nat.zero_le _) (fun i hi => absurd hi (Nat.not_lt_zero _))
  have gb : ∀ (I : fl_TI) (q : Nat) (col : Int32) (k i n : Nat), fl_it (i_bef I q col) k i n ≤ n + k := by
    intro I q col k
    induction k with
    | zero => intro i n; exact Nat.le_refl _
    | succ k ih =>
      intro i n
      have h9 := ih (i + 1) (i_bef I q col i n)
      have h8 : i_bef I q col i n ≤ n + 1 := by unfold i_bef; split <;> omega
      show fl_it (i_bef I q col) k (i + 1) (i_bef I q col i n) ≤ _
      omega
  have hb1 := gb (x_b n eq I J).2.1 (6 + 2 + 4) (nI eq) (x_b n eq I J).1 0 0
  unfold x_formI i_settle
  generalize hx : x_first 22 _ eq 0 = fz
  unfold x_b at hb1 ⊢
  generalize b_form 6 4 n (eq + n) (eq + n) 0 (0, x_i0 n eq I, j_puts n eq (x_i0 n eq I) (j_clear 6 n J)) = x9 at g1 g2 g3 g4 hb1 ⊢
  unfold x_i1
  have f0 : ∀ b, b ≠ 6 → b ≠ 8 → fl_up (fl_up x9.2.1 0 6 (nI (n_bef x9.2.1 (6 + 2 + 4) (nI eq) x9.1))) 0 8 fz 0 b = I 0 b := fun b h6 h8 => by
    rw [fl_up_j h8, fl_up_j h6, g4 0 b (by omega) (by omega)]
    unfold x_i0
    rw [i_clear_far (by omega)]
  have fa : ∀ a b, a ≠ 0 → fl_up (fl_up x9.2.1 0 6 (nI (n_bef x9.2.1 (6 + 2 + 4) (nI eq) x9.1))) 0 8 fz a b = x9.2.1 a b := fun a b h => by rw [fl_up_k h, fl_up_k h]
  refine ⟨⟨by rw [f0 2 (by omega) (by omega)]; exact hn, hn1, by rw [f0 3 (by omega) (by omega)]; exact he, he3, by rw [fl_up_j (by omega), fl_up_s], ?_, ?_, ?_, by rw [fa 6 4 (by omega)]; exact g2, g1, fun i hi => ?_⟩, fun a b h1 h2 h3 => ?_⟩
  · unfold n_bef; omega
  · rw [fa 6 2 (by omega), g4 6 2 (by omega) (by omega)]
    unfold x_i0 i_clear
    rw [fl_up_j (by omega), fl_up_j (by omega), fl_up_s]
  · rw [fa 6 3 (by omega), g4 6 3 (by omega) (by omega)]
    unfold x_i0 i_clear
    rw [fl_up_j (by omega), fl_up_s]
  · unfold ldI
    rw [fa 12 i (by omega)]
    exact g3 i hi
  · rw [fa a b h1, g4 a b (by omega) (by omega)]
    unfold x_i0
    rw [i_clear_far h2]
end
section
/-! the face of the solver, but for invariant, box, modulo, spread, check -/
theorem b_t {C : Prop} [Decidable C] (h : ¬ (if C then nI 1 else nI 0) = 0) : C := by
  by_cases q : C
  · exact q
  · rw [if_neg q] at h; exact absurd rfl h
theorem b_f {C : Prop} [Decidable C] (h : (if C then nI 1 else nI 0) = 0) : ¬ C := fun q => by
  rw [if_pos q] at h
  exact absurd h (by decide)
theorem m_X1_unknowns_bad (D : va_G) (dA : Nat → ClassId) (ad : Nat → Nat) (N : Nat) (I : fl_TI) (J : fl_TJ) (hN : 30 ≤ N) (x : Int32) (h : x < nI 1 ∨ ¬ x ≤ nI 4) : FM yX1_unknowns cX1_unknowns 2 (some .int) 5 D dA ad N [.ref (ad 0), .int x] I J (fun v I' J' => v = some (.int (nI 0)) ∧ I' = I ∧ J' = J) := by
  refine FM.ofW RX1 rfl (by decide +kernel) (Nat.le_of_ble_eq_true rfl) ?_
  intro p l e s m args below meth c ls X hr hlk hI hl
  have hx := X.1
  have hb := X.2.1
  have hl : lv_has ls 2 [(0, .ref (ad 0)), (1, .int x)] := hl
  refine lv_iload_n hx hb dX1_unknowns_0 rfl (lv_at hl 1 rfl) ?_
  refine lv_iconst (v := nI 1) hx hb dX1_unknowns_1 (by decide) ?_
  refine lv_icmp_lt (tgt := 10) hx hb dX1_unknowns_2 (by decide) (fun c1 => ?_) (fun c1 => ?_)
  · refine lv_iconst (v := nI 0) hx hb dX1_unknowns_10 (by decide) ?_
    exact fl_iret X hr hlk hI dX1_unknowns_11 ⟨rfl, rfl, rfl⟩
  · refine lv_iload_n hx hb dX1_unknowns_5 rfl (lv_at hl 1 rfl) ?_
    refine lv_iconst (v := nI 4) hx hb dX1_unknowns_6 (by decide) ?_
    refine lv_icmp_le (tgt := 12) hx hb dX1_unknowns_7 (by decide) (fun c2 => ?_) (fun c2 => ?_)
    · exact absurd h (fun q => q.elim c1 (fun z => z c2))
    · refine lv_iconst (v := nI 0) hx hb dX1_unknowns_10 (by decide) ?_
      exact fl_iret X hr hlk hI dX1_unknowns_11 ⟨rfl, rfl, rfl⟩
theorem m_X1_unknowns (D : va_G) (dA : Nat → ClassId) (ad : Nat → Nat) (N : Nat) (I : fl_TI) (J : fl_TJ) (hN : 30 ≤ N) {n : Nat} (hn1 : 1 ≤ n) (hn4 : n ≤ 4) : FM yX1_unknowns cX1_unknowns 2 (some .int) 5 D dA ad N [.ref (ad 0), .int (nI n)] I J (fun v I' J' => v = some (.int (nI 1)) ∧ I' = x_formI n 0 (fl_up (fl_up I 0 2 (nI n)) 0 3 (nI 0)) J ∧ J' = x_formJ n 0 (fl_up (fl_up I 0 2 (nI n)) 0 3 (nI 0)) J) := by
  refine FM.ofW RX1 rfl (by decide +kernel) (Nat.le_of_ble_eq_true rfl) ?_
  intro p l e s m args below meth c ls X hr hlk hI hl
  have hx := X.1
  have hb := X.2.1
  have hl : lv_has ls 2 [(0, .ref (ad 0)), (1, .int (nI n))] := hl
  refine lv_iload_n hx hb dX1_unknowns_0 rfl (lv_at hl 1 rfl) ?_
  refine lv_iconst (v := nI 1) hx hb dX1_unknowns_1 (by decide) ?_
  refine fn_icmp_lt X (tgt := 10) dX1_unknowns_2 (by decide) (by omega) (by omega) (fun c1 => absurd c1 (by omega)) (fun c1 => ?_)
  refine lv_iload_n hx hb dX1_unknowns_5 rfl (lv_at hl 1 rfl) ?_
  refine lv_iconst (v := nI 4) hx hb dX1_unknowns_6 (by decide) ?_
  refine fn_icmp_le X (tgt := 12) dX1_unknowns_7 (by decide) (by omega) (by omega) (fun c2 => ?_) (fun c2 => absurd c2 (by omega))
  refine lv_aload_n hx hb dX1_unknowns_12 rfl (lv_at hl 0 rfl) ?_
  refine lv_iload_n hx hb dX1_unknowns_13 rfl (lv_at hl 1 rfl) ?_
  refine fl_put1 X hI dX1_unknowns_14 (by omega) 2 (by decide) wf_X1_42 (fun H locs hI => ?_)
  refine lv_aload_n hx hb dX1_unknowns_17 rfl (lv_at hl 0 rfl) ?_
  refine lv_iconst (v := nI 0) hx hb dX1_unknowns_18 (by decide) ?_
  refine fl_put1 X hI dX1_unknowns_19 (by omega) 3 (by decide) wf_X1_46 (fun H locs hI => ?_)
  refine lv_aload_n hx hb dX1_unknowns_22 rfl (lv_at hl 0 rfl) ?_
  refine fl_callV (k := 0) (As := []) (rest := []) X hI dX1_unknowns_23 (m_X1_formWhole D dA ad N (fl_up (fl_up I 0 2 (nI n)) 0 3 (nI 0)) J hN (n := n) (eq := 0) (by rw [fl_up_j (by omega), fl_up_s]) (by omega) fl_up_s (by omega)) (by omega) fl_c_5 rfl rfl wc_yX1_formWhole wm_X1_49 wi_yX1_formWhole wl_yX1_formWhole wn_X1 hd_yX1_formWhole rfl ⟨by first | decide | omega, by first | decide | omega⟩ hl.1 (Nat.le_of_ble_eq_true rfl) (fun v I2 J2 H locs hp hI => ?_)
  obtain ⟨hv, hI2, hJ2⟩ := hp
  subst hv
  rw [hI2, hJ2] at hI
  refine W.eq (g2 := F0 m 26 ls []) rfl ?_
  refine lv_iconst (v := nI 1) hx hb dX1_unknowns_26 (by decide) ?_
  exact fl_iret X hr hlk hI dX1_unknowns_27 ⟨rfl, rfl, rfl⟩
def i_eqn (eq : Nat) (x0 x1 x2 x3 xs : Int32) (I : fl_TI) : fl_TI := fl_up (fl_up (fl_up (fl_up (fl_up (fl_up I (2 + eq) 0 x0) (2 + eq) 1 x1) (2 + eq) 2 x2) (2 + eq) 3 x3) 5 eq xs) 0 3 (nI (eq + 1))
theorem i_eqn_02 {eq : Nat} {x0 x1 x2 x3 xs : Int32} {I : fl_TI} : i_eqn eq x0 x1 x2 x3 xs I 0 2 = I 0 2 := by unfold i_eqn; rw [fl_up_j (by omega), fl_up_k (by omega), fl_up_k (by omega), fl_up_k (by omega), fl_up_k (by omega), fl_up_k (by omega)]
theorem m_X1_equation_bad (D : va_G) (dA : Nat → ClassId) (ad : Nat → Nat) (N : Nat) (I : fl_TI) (J : fl_TJ) (hN : 30 ≤ N) {n eq : Nat} {x0 x1 x2 x3 xs : Int32} (hn : I 0 2 = nI n) (hn4 : n ≤ 4) (he : I 0 3 = nI eq) (he3 : eq ≤ 3) (hbad : ¬ (eq < 3 ∧ (¬ xs < -1000 ∧ ¬ nI 1000 < xs) ∧ (n ≤ 0 ∨ (¬ x0 < -9 ∧ ¬ nI 9 < x0)) ∧ (n ≤ 1 ∨ (¬ x1 < -9 ∧ ¬ nI 9 < x1)) ∧ (n ≤ 2 ∨ (¬ x2 < -9 ∧ ¬ nI 9 < x2)) ∧ (n ≤ 3 ∨ (¬ x3 < -9 ∧ ¬ nI 9 < x3)))) : FM yX1_equation cX1_equation 7 (some .int) 5 D dA ad N [.ref (ad 0), .int x0, .int x1, .int x2, .int x3, .int xs] I J (fun v I' J' => v = some (.int (-1)) ∧ I' = I ∧ J' = J) := by
  refine FM.ofW RX1 rfl (by decide +kernel) (Nat.le_of_ble_eq_true rfl) ?_
  intro p l e s m args below meth c ls X hr hlk hI hl
  have hx := X.1
  have hb := X.2.1
  have hl : lv_has ls 7 [(0, .ref (ad 0)), (1, .int x0), (2, .int x1), (3, .int x2), (4, .int x3), (5, .int xs)] := hl
  refine lv_aload_n hx hb dX1_equation_0 rfl (lv_at hl 0 rfl) ?_
  refine fl_get1 X hI dX1_equation_1 (by omega) 3 (by decide) wf_X1_46 rfl ?_
  refine W.eq (g2 := F0 m 4 ls [.int (nI eq)]) (by rw [he]) ?_
  refine lv_iconst (v := nI 3) hx hb dX1_equation_4 (by decide) ?_
  refine fn_icmp_ge X (tgt := 16) dX1_equation_5 (by decide) (by omega) (by omega) (fun c1 => ?_) (fun c1 => ?_)
  · refine lv_iconst (v := (-1)) hx hb dX1_equation_16 (by decide) ?_
    exact fl_iret X hr hlk hI dX1_equation_17 ⟨rfl, rfl, rfl⟩
  · refine lv_iload hx hb dX1_equation_8 (lv_at hl 5 rfl) ?_
    refine fl_callS (As := [.int xs]) (rest := []) X hI dX1_equation_10 (m_X1_isSum D dA ad N I J xs) wc_yX1_isSum wm_X1_52 ws_yX1_isSum wn_X1 hd_yX1_isSum rfl ⟨by first | decide | omega, by first | decide | omega⟩ hl.1 (Nat.le_of_ble_eq_true rfl) (fun v I2 J2 H locs hp hI => ?_)
    obtain ⟨hv, hI2, hJ2⟩ := hp
    subst hv
    rw [hI2, hJ2] at hI
    refine W.eq (g2 := F0 m 13 ls [.int (if ¬ xs < -1000 ∧ ¬ nI 1000 < xs then nI 1 else nI 0)]) rfl ?_
    refine lv_if_ne (tgt := 18) hx hb dX1_equation_13 (by decide) (fun c2 => ?_) (fun c2 => ?_)
    · refine lv_aload_n hx hb dX1_equation_18 rfl (lv_at hl 0 rfl) ?_
      refine lv_iconst (v := nI 0) hx hb dX1_equation_19 (by decide) ?_
      refine lv_iload_n hx hb dX1_equation_20 rfl (lv_at hl 1 rfl) ?_
      refine fl_callV (k := 0) (As := [.int (nI 0), .int x0]) (rest := []) X hI dX1_equation_21 (m_X1_isFactor D dA ad N I J hN x0 hn hn4 (by omega)) (by omega) fl_c_5 rfl rfl wc_yX1_isFactor wm_X1_56 wi_yX1_isFactor wl_yX1_isFactor wn_X1 hd_yX1_isFactor rfl ⟨by first | decide | omega, by first | decide | omega⟩ hl.1 (Nat.le_of_ble_eq_true rfl) (fun v I2 J2 H locs hp hI => ?_)
      obtain ⟨hv, hI2, hJ2⟩ := hp
      subst hv
      rw [hI2, hJ2] at hI
      refine W.eq (g2 := F0 m 24 ls [.int (if n ≤ 0 ∨ (¬ x0 < -9 ∧ ¬ nI 9 < x0) then nI 1 else nI 0)]) rfl ?_
      refine lv_if_eq (tgt := 55) hx hb dX1_equation_24 (by decide) (fun c3 => ?_) (fun c3 => ?_)
      · refine lv_iconst (v := (-1)) hx hb dX1_equation_55 (by decide) ?_
        exact fl_iret X hr hlk hI dX1_equation_56 ⟨rfl, rfl, rfl⟩
      · refine lv_aload_n hx hb dX1_equation_27 rfl (lv_at hl 0 rfl) ?_
        refine lv_iconst (v := nI 1) hx hb dX1_equation_28 (by decide) ?_
        refine lv_iload_n hx hb dX1_equation_29 rfl (lv_at hl 2 rfl) ?_
        refine fl_callV (k := 0) (As := [.int (nI 1), .int x1]) (rest := []) X hI dX1_equation_30 (m_X1_isFactor D dA ad N I J hN x1 hn hn4 (by omega)) (by omega) fl_c_5 rfl rfl wc_yX1_isFactor wm_X1_56 wi_yX1_isFactor wl_yX1_isFactor wn_X1 hd_yX1_isFactor rfl ⟨by first | decide | omega, by first | decide | omega⟩ hl.1 (Nat.le_of_ble_eq_true rfl) (fun v I2 J2 H locs hp hI => ?_)
        obtain ⟨hv, hI2, hJ2⟩ := hp
        subst hv
        rw [hI2, hJ2] at hI
        refine W.eq (g2 := F0 m 33 ls [.int (if n ≤ 1 ∨ (¬ x1 < -9 ∧ ¬ nI 9 < x1) then nI 1 else nI 0)]) rfl ?_
        refine lv_if_eq (tgt := 55) hx hb dX1_equation_33 (by decide) (fun c4 => ?_) (fun c4 => ?_)
        · refine lv_iconst (v := (-1)) hx hb dX1_equation_55 (by decide) ?_
          exact fl_iret X hr hlk hI dX1_equation_56 ⟨rfl, rfl, rfl⟩
        · refine lv_aload_n hx hb dX1_equation_36 rfl (lv_at hl 0 rfl) ?_
          refine lv_iconst (v := nI 2) hx hb dX1_equation_37 (by decide) ?_
          refine lv_iload_n hx hb dX1_equation_38 rfl (lv_at hl 3 rfl) ?_
          refine fl_callV (k := 0) (As := [.int (nI 2), .int x2]) (rest := []) X hI dX1_equation_39 (m_X1_isFactor D dA ad N I J hN x2 hn hn4 (by omega)) (by omega) fl_c_5 rfl rfl wc_yX1_isFactor wm_X1_56 wi_yX1_isFactor wl_yX1_isFactor wn_X1 hd_yX1_isFactor rfl ⟨by first | decide | omega, by first | decide | omega⟩ hl.1 (Nat.le_of_ble_eq_true rfl) (fun v I2 J2 H locs hp hI => ?_)
          obtain ⟨hv, hI2, hJ2⟩ := hp
          subst hv
          rw [hI2, hJ2] at hI
          refine W.eq (g2 := F0 m 42 ls [.int (if n ≤ 2 ∨ (¬ x2 < -9 ∧ ¬ nI 9 < x2) then nI 1 else nI 0)]) rfl ?_
          refine lv_if_eq (tgt := 55) hx hb dX1_equation_42 (by decide) (fun c5 => ?_) (fun c5 => ?_)
          · refine lv_iconst (v := (-1)) hx hb dX1_equation_55 (by decide) ?_
            exact fl_iret X hr hlk hI dX1_equation_56 ⟨rfl, rfl, rfl⟩
          · refine lv_aload_n hx hb dX1_equation_45 rfl (lv_at hl 0 rfl) ?_
            refine lv_iconst (v := nI 3) hx hb dX1_equation_46 (by decide) ?_
            refine lv_iload hx hb dX1_equation_47 (lv_at hl 4 rfl) ?_
            refine fl_callV (k := 0) (As := [.int (nI 3), .int x3]) (rest := []) X hI dX1_equation_49 (m_X1_isFactor D dA ad N I J hN x3 hn hn4 (by omega)) (by omega) fl_c_5 rfl rfl wc_yX1_isFactor wm_X1_56 wi_yX1_isFactor wl_yX1_isFactor wn_X1 hd_yX1_isFactor rfl ⟨by first | decide | omega, by first | decide | omega⟩ hl.1 (Nat.le_of_ble_eq_true rfl) (fun v I2 J2 H locs hp hI => ?_)
            obtain ⟨hv, hI2, hJ2⟩ := hp
            subst hv
            rw [hI2, hJ2] at hI
            refine W.eq (g2 := F0 m 52 ls [.int (if n ≤ 3 ∨ (¬ x3 < -9 ∧ ¬ nI 9 < x3) then nI 1 else nI 0)]) rfl ?_
            refine lv_if_ne (tgt := 57) hx hb dX1_equation_52 (by decide) (fun c6 => ?_) (fun c6 => ?_)
            · exact absurd ⟨c1, b_t c2, b_t c3, b_t c4, b_t c5, b_t c6⟩ hbad
            · refine lv_iconst (v := (-1)) hx hb dX1_equation_55 (by decide) ?_
              exact fl_iret X hr hlk hI dX1_equation_56 ⟨rfl, rfl, rfl⟩
    · refine lv_iconst (v := (-1)) hx hb dX1_equation_16 (by decide) ?_
      exact fl_iret X hr hlk hI dX1_equation_17 ⟨rfl, rfl, rfl⟩
theorem m_X1_equation (D : va_G) (dA : Nat → ClassId) (ad : Nat → Nat) (N : Nat) (I : fl_TI) (J : fl_TJ) (hN : 30 ≤ N) {n eq : Nat} {x0 x1 x2 x3 xs : Int32} (hn : I 0 2 = nI n) (hn4 : n ≤ 4) (he : I 0 3 = nI eq) (he3 : eq ≤ 3) (h3 : eq < 3) (hs : (¬ xs < -1000 ∧ ¬ nI 1000 < xs)) (hf0 : (n ≤ 0 ∨ (¬ x0 < -9 ∧ ¬ nI 9 < x0))) (hf1 : (n ≤ 1 ∨ (¬ x1 < -9 ∧ ¬ nI 9 < x1))) (hf2 : (n ≤ 2 ∨ (¬ x2 < -9 ∧ ¬ nI 9 < x2))) (hf3 : (n ≤ 3 ∨ (¬ x3 < -9 ∧ ¬ nI 9 < x3))) : FM yX1_equation cX1_equation 7 (some .int) 5 D dA ad N [.ref (ad 0), .int x0, .int x1, .int x2, .int x3, .int xs] I J (fun v I' J' => v = some (.int (nI eq)) ∧ I' = x_formI n (eq + 1) (i_eqn eq x0 x1 x2 x3 xs I) J ∧ J' = x_formJ n (eq + 1) (i_eqn eq x0 x1 x2 x3 xs I) J) := by
  refine FM.ofW RX1 rfl (by decide +kernel) (Nat.le_of_ble_eq_true rfl) ?_
  intro p l e s m args below meth c ls X hr hlk hI hl
  have hx := X.1
  have hb := X.2.1
  have hl : lv_has ls 7 [(0, .ref (ad 0)), (1, .int x0), (2, .int x1), (3, .int x2), (4, .int x3), (5, .int xs)] := hl
  refine lv_aload_n hx hb dX1_equation_0 rfl (lv_at hl 0 rfl) ?_
  refine fl_get1 X hI dX1_equation_1 (by omega) 3 (by decide) wf_X1_46 rfl ?_
  refine W.eq (g2 := F0 m 4 ls [.int (nI eq)]) (by rw [he]) ?_
  refine lv_iconst (v := nI 3) hx hb dX1_equation_4 (by decide) ?_
  refine fn_icmp_ge X (tgt := 16) dX1_equation_5 (by decide) (by omega) (by omega) (fun c1 => ?_) (fun c1 => ?_)
  · first | exact absurd h3 (by omega) | exact absurd hs (b_f c2)
  · refine lv_iload hx hb dX1_equation_8 (lv_at hl 5 rfl) ?_
    refine fl_callS (As := [.int xs]) (rest := []) X hI dX1_equation_10 (m_X1_isSum D dA ad N I J xs) wc_yX1_isSum wm_X1_52 ws_yX1_isSum wn_X1 hd_yX1_isSum rfl ⟨by first | decide | omega, by first | decide | omega⟩ hl.1 (Nat.le_of_ble_eq_true rfl) (fun v I2 J2 H locs hp hI => ?_)
    obtain ⟨hv, hI2, hJ2⟩ := hp
    subst hv
    rw [hI2, hJ2] at hI
    refine W.eq (g2 := F0 m 13 ls [.int (if ¬ xs < -1000 ∧ ¬ nI 1000 < xs then nI 1 else nI 0)]) rfl ?_
    refine lv_if_ne (tgt := 18) hx hb dX1_equation_13 (by decide) (fun c2 => ?_) (fun c2 => ?_)
    · refine lv_aload_n hx hb dX1_equation_18 rfl (lv_at hl 0 rfl) ?_
      refine lv_iconst (v := nI 0) hx hb dX1_equation_19 (by decide) ?_
      refine lv_iload_n hx hb dX1_equation_20 rfl (lv_at hl 1 rfl) ?_
      refine fl_callV (k := 0) (As := [.int (nI 0), .int x0]) (rest := []) X hI dX1_equation_21 (m_X1_isFactor D dA ad N I J hN x0 hn hn4 (by omega)) (by omega) fl_c_5 rfl rfl wc_yX1_isFactor wm_X1_56 wi_yX1_isFactor wl_yX1_isFactor wn_X1 hd_yX1_isFactor rfl ⟨by first | decide | omega, by first | decide | omega⟩ hl.1 (Nat.le_of_ble_eq_true rfl) (fun v I2 J2 H locs hp hI => ?_)
      obtain ⟨hv, hI2, hJ2⟩ := hp
      subst hv
      rw [hI2, hJ2] at hI
      refine W.eq (g2 := F0 m 24 ls [.int (if n ≤ 0 ∨ (¬ x0 < -9 ∧ ¬ nI 9 < x0) then nI 1 else nI 0)]) rfl ?_
      refine lv_if_eq (tgt := 55) hx hb dX1_equation_24 (by decide) (fun c3 => ?_) (fun c3 => ?_)
      · first | exact absurd hf0 (b_f (by assumption)) | exact absurd hf1 (b_f (by assumption)) | exact absurd hf2 (b_f (by assumption)) | exact absurd hf3 (b_f (by assumption))
      · refine lv_aload_n hx hb dX1_equation_27 rfl (lv_at hl 0 rfl) ?_
        refine lv_iconst (v := nI 1) hx hb dX1_equation_28 (by decide) ?_
        refine lv_iload_n hx hb dX1_equation_29 rfl (lv_at hl 2 rfl) ?_
        refine fl_callV (k := 0) (As := [.int (nI 1), .int x1]) (rest := []) X hI dX1_equation_30 (m_X1_isFactor D dA ad N I J hN x1 hn hn4 (by omega)) (by omega) fl_c_5 rfl rfl wc_yX1_isFactor wm_X1_56 wi_yX1_isFactor wl_yX1_isFactor wn_X1 hd_yX1_isFactor rfl ⟨by first | decide | omega, by first | decide | omega⟩ hl.1 (Nat.le_of_ble_eq_true rfl) (fun v I2 J2 H locs hp hI => ?_)
        obtain ⟨hv, hI2, hJ2⟩ := hp
        subst hv
        rw [hI2, hJ2] at hI
        refine W.eq (g2 := F0 m 33 ls [.int (if n ≤ 1 ∨ (¬ x1 < -9 ∧ ¬ nI 9 < x1) then nI 1 else nI 0)]) rfl ?_
        refine lv_if_eq (tgt := 55) hx hb dX1_equation_33 (by decide) (fun c4 => ?_) (fun c4 => ?_)
        · first | exact absurd hf0 (b_f (by assumption)) | exact absurd hf1 (b_f (by assumption)) | exact absurd hf2 (b_f (by assumption)) | exact absurd hf3 (b_f (by assumption))
        · refine lv_aload_n hx hb dX1_equation_36 rfl (lv_at hl 0 rfl) ?_
          refine lv_iconst (v := nI 2) hx hb dX1_equation_37 (by decide) ?_
          refine lv_iload_n hx hb dX1_equation_38 rfl (lv_at hl 3 rfl) ?_
          refine fl_callV (k := 0) (As := [.int (nI 2), .int x2]) (rest := []) X hI dX1_equation_39 (m_X1_isFactor D dA ad N I J hN x2 hn hn4 (by omega)) (by omega) fl_c_5 rfl rfl wc_yX1_isFactor wm_X1_56 wi_yX1_isFactor wl_yX1_isFactor wn_X1 hd_yX1_isFactor rfl ⟨by first | decide | omega, by first | decide | omega⟩ hl.1 (Nat.le_of_ble_eq_true rfl) (fun v I2 J2 H locs hp hI => ?_)
          obtain ⟨hv, hI2, hJ2⟩ := hp
          subst hv
          rw [hI2, hJ2] at hI
          refine W.eq (g2 := F0 m 42 ls [.int (if n ≤ 2 ∨ (¬ x2 < -9 ∧ ¬ nI 9 < x2) then nI 1 else nI 0)]) rfl ?_
          refine lv_if_eq (tgt := 55) hx hb dX1_equation_42 (by decide) (fun c5 => ?_) (fun c5 => ?_)
          · first | exact absurd hf0 (b_f (by assumption)) | exact absurd hf1 (b_f (by assumption)) | exact absurd hf2 (b_f (by assumption)) | exact absurd hf3 (b_f (by assumption))
          · refine lv_aload_n hx hb dX1_equation_45 rfl (lv_at hl 0 rfl) ?_
            refine lv_iconst (v := nI 3) hx hb dX1_equation_46 (by decide) ?_
            refine lv_iload hx hb dX1_equation_47 (lv_at hl 4 rfl) ?_
            refine fl_callV (k := 0) (As := [.int (nI 3), .int x3]) (rest := []) X hI dX1_equation_49 (m_X1_isFactor D dA ad N I J hN x3 hn hn4 (by omega)) (by omega) fl_c_5 rfl rfl wc_yX1_isFactor wm_X1_56 wi_yX1_isFactor wl_yX1_isFactor wn_X1 hd_yX1_isFactor rfl ⟨by first | decide | omega, by first | decide | omega⟩ hl.1 (Nat.le_of_ble_eq_true rfl) (fun v I2 J2 H locs hp hI => ?_)
            obtain ⟨hv, hI2, hJ2⟩ := hp
            subst hv
            rw [hI2, hJ2] at hI
            refine W.eq (g2 := F0 m 52 ls [.int (if n ≤ 3 ∨ (¬ x3 < -9 ∧ ¬ nI 9 < x3) then nI 1 else nI 0)]) rfl ?_
            refine lv_if_ne (tgt := 57) hx hb dX1_equation_52 (by decide) (fun c6 => ?_) (fun c6 => ?_)
            · refine lv_aload_n hx hb dX1_equation_57 rfl (lv_at hl 0 rfl) ?_
              refine fl_get1 X hI dX1_equation_58 (by omega) 3 (by decide) wf_X1_46 rfl ?_
              refine W.eq (g2 := F0 m 61 ls [.int (nI eq)]) (by rw [he]) ?_
              refine lv_istore (lv' := [(6, .int (nI eq)), (0, .ref (ad 0)), (1, .int x0), (2, .int x1), (3, .int x2), (4, .int x3), (5, .int xs)]) hx hb dX1_equation_61 hl (by decide) rfl (fun ls hl => ?_)
              refine lv_aload_n hx hb dX1_equation_63 rfl (lv_at hl 1 rfl) ?_
              refine fl_get1 X hI dX1_equation_64 (by omega) 0 (by decide) wf_X1_11 rfl ?_
              refine lv_iload hx hb dX1_equation_67 (lv_at hl 0 rfl) ?_
              refine fn_aald2 (k := 1) X hI dX1_equation_69 (by omega) rfl (show eq < 3 by omega) ?_
              refine lv_iconst (v := nI 0) hx hb dX1_equation_70 (by decide) ?_
              refine lv_iload_n hx hb dX1_equation_71 rfl (lv_at hl 2 rfl) ?_
              refine fn_iast (k := 2 + eq) X hI dX1_equation_72 (by omega) (fk2 (by omega)) (by rw [fn2 (by omega)]; omega) (fun H locs hI => ?_)
              refine lv_aload_n hx hb dX1_equation_73 rfl (lv_at hl 1 rfl) ?_
              refine fl_get1 X hI dX1_equation_74 (by omega) 0 (by decide) wf_X1_11 rfl ?_
              refine lv_iload hx hb dX1_equation_77 (lv_at hl 0 rfl) ?_
              refine fn_aald2 (k := 1) X hI dX1_equation_79 (by omega) rfl (show eq < 3 by omega) ?_
              refine lv_iconst (v := nI 1) hx hb dX1_equation_80 (by decide) ?_
              refine lv_iload_n hx hb dX1_equation_81 rfl (lv_at hl 3 rfl) ?_
              refine fn_iast (k := 2 + eq) X hI dX1_equation_82 (by omega) (fk2 (by omega)) (by rw [fn2 (by omega)]; omega) (fun H locs hI => ?_)
              refine lv_aload_n hx hb dX1_equation_83 rfl (lv_at hl 1 rfl) ?_
              refine fl_get1 X hI dX1_equation_84 (by omega) 0 (by decide) wf_X1_11 rfl ?_
              refine lv_iload hx hb dX1_equation_87 (lv_at hl 0 rfl) ?_
              refine fn_aald2 (k := 1) X hI dX1_equation_89 (by omega) rfl (show eq < 3 by omega) ?_
              refine lv_iconst (v := nI 2) hx hb dX1_equation_90 (by decide) ?_
              refine lv_iload_n hx hb dX1_equation_91 rfl (lv_at hl 4 rfl) ?_
              refine fn_iast (k := 2 + eq) X hI dX1_equation_92 (by omega) (fk2 (by omega)) (by rw [fn2 (by omega)]; omega) (fun H locs hI => ?_)
              refine lv_aload_n hx hb dX1_equation_93 rfl (lv_at hl 1 rfl) ?_
              refine fl_get1 X hI dX1_equation_94 (by omega) 0 (by decide) wf_X1_11 rfl ?_
              refine lv_iload hx hb dX1_equation_97 (lv_at hl 0 rfl) ?_
              refine fn_aald2 (k := 1) X hI dX1_equation_99 (by omega) rfl (show eq < 3 by omega) ?_
              refine lv_iconst (v := nI 3) hx hb dX1_equation_100 (by decide) ?_
              refine lv_iload hx hb dX1_equation_101 (lv_at hl 5 rfl) ?_
              refine fn_iast (k := 2 + eq) X hI dX1_equation_103 (by omega) (fk2 (by omega)) (by rw [fn2 (by omega)]; omega) (fun H locs hI => ?_)
              refine lv_aload_n hx hb dX1_equation_104 rfl (lv_at hl 1 rfl) ?_
              refine fl_get1 X hI dX1_equation_105 (by omega) 1 (by decide) wf_X1_14 rfl ?_
              refine lv_iload hx hb dX1_equation_108 (lv_at hl 0 rfl) ?_
              refine lv_iload hx hb dX1_equation_110 (lv_at hl 6 rfl) ?_
              refine fn_iast (k := 5) X hI dX1_equation_112 (by omega) rfl (show eq < 3 by omega) (fun H locs hI => ?_)
              refine lv_aload_n hx hb dX1_equation_113 rfl (lv_at hl 1 rfl) ?_
              refine lv_iload hx hb dX1_equation_114 (lv_at hl 0 rfl) ?_
              refine lv_iconst (v := nI 1) hx hb dX1_equation_116 (by decide) ?_
              refine fn_iadd X dX1_equation_117 ?_
              refine fl_put1 X hI dX1_equation_118 (by omega) 3 (by decide) wf_X1_46 (fun H locs hI => ?_)
              have hI : fl_I D dA ad N (i_eqn eq x0 x1 x2 x3 xs I) J (fl_A ad N s.heap.size) s s.heap H locs := hI
              refine lv_aload_n hx hb dX1_equation_121 rfl (lv_at hl 1 rfl) ?_
              refine fl_callV (k := 0) (As := []) (rest := []) X hI dX1_equation_122 (m_X1_formWhole D dA ad N (i_eqn eq x0 x1 x2 x3 xs I) J hN (n := n) (eq := eq + 1) (by rw [i_eqn_02]; exact hn) (by omega) (by unfold i_eqn; exact fl_up_s) (by omega)) (by omega) fl_c_5 rfl rfl wc_yX1_formWhole wm_X1_49 wi_yX1_formWhole wl_yX1_formWhole wn_X1 hd_yX1_formWhole rfl ⟨by first | decide | omega, by first | decide | omega⟩ hl.1 (Nat.le_of_ble_eq_true rfl) (fun v I2 J2 H locs hp hI => ?_)
              obtain ⟨hv, hI2, hJ2⟩ := hp
              subst hv
              rw [hI2, hJ2] at hI
              refine W.eq (g2 := F0 m 125 ls []) rfl ?_
              refine lv_iload hx hb dX1_equation_125 (lv_at hl 0 rfl) ?_
              exact fl_iret X hr hlk hI dX1_equation_127 ⟨rfl, rfl, rfl⟩
            · first | exact absurd hf0 (b_f (by assumption)) | exact absurd hf1 (b_f (by assumption)) | exact absurd hf2 (b_f (by assumption)) | exact absurd hf3 (b_f (by assumption))
    · first | exact absurd h3 (by omega) | exact absurd hs (b_f c2)
theorem m_X1_sum_bad (D : va_G) (dA : Nat → ClassId) (ad : Nat → Nat) (N : Nat) (I : fl_TI) (J : fl_TJ) (hN : 30 ≤ N) {n eq rr rk : Nat} (ok : x_ok I n eq rr rk) {x xs : Int32} (hbad : ¬ (¬ x < 0 ∧ ¬ nI eq ≤ x ∧ (¬ xs < -1000 ∧ ¬ nI 1000 < xs))) : FM yX1_sum cX1_sum 3 (some .int) 4 D dA ad N [.ref (ad 0), .int x, .int xs] I J (fun v I' J' => v = some (.int (nI 0)) ∧ I' = I ∧ J' = J) := by
  refine FM.ofW RX1 rfl (by decide +kernel) (Nat.le_of_ble_eq_true rfl) ?_
  intro p l e s m args below meth c ls X hr hlk hI hl
  have hx := X.1
  have hb := X.2.1
  have hl : lv_has ls 3 [(0, .ref (ad 0)), (1, .int x), (2, .int xs)] := hl
  obtain ⟨hn, ⟨hn1, hn4⟩, he, he3, hrr, hrn, hh, hw, hrk, hrk4, hld⟩ := ok
  refine lv_iload_n hx hb dX1_sum_0 rfl (lv_at hl 1 rfl) ?_
  refine lv_if_lt (tgt := 19) hx hb dX1_sum_1 (by decide) (fun c1 => ?_) (fun c1 => ?_)
  · refine lv_iconst (v := nI 0) hx hb dX1_sum_19 (by decide) ?_
    exact fl_iret X hr hlk hI dX1_sum_20 ⟨rfl, rfl, rfl⟩
  · refine lv_iload_n hx hb dX1_sum_4 rfl (lv_at hl 1 rfl) ?_
    refine lv_aload_n hx hb dX1_sum_5 rfl (lv_at hl 0 rfl) ?_
    refine fl_get1 X hI dX1_sum_6 (by omega) 3 (by decide) wf_X1_46 rfl ?_
    refine W.eq (g2 := F0 m 9 ls [.int (nI eq), .int x]) (by rw [he]) ?_
    refine lv_icmp_ge (tgt := 19) hx hb dX1_sum_9 (by decide) (fun c2 => ?_) (fun c2 => ?_)
    · refine lv_iconst (v := nI 0) hx hb dX1_sum_19 (by decide) ?_
      exact fl_iret X hr hlk hI dX1_sum_20 ⟨rfl, rfl, rfl⟩
    · refine lv_iload_n hx hb dX1_sum_12 rfl (lv_at hl 2 rfl) ?_
      refine fl_callS (As := [.int xs]) (rest := []) X hI dX1_sum_13 (m_X1_isSum D dA ad N I J xs) wc_yX1_isSum wm_X1_52 ws_yX1_isSum wn_X1 hd_yX1_isSum rfl ⟨by first | decide | omega, by first | decide | omega⟩ hl.1 (Nat.le_of_ble_eq_true rfl) (fun v I2 J2 H locs hp hI => ?_)
      obtain ⟨hv, hI2, hJ2⟩ := hp
      subst hv
      rw [hI2, hJ2] at hI
      refine W.eq (g2 := F0 m 16 ls [.int (if ¬ xs < -1000 ∧ ¬ nI 1000 < xs then nI 1 else nI 0)]) rfl ?_
      refine lv_if_ne (tgt := 21) hx hb dX1_sum_16 (by decide) (fun c3 => ?_) (fun c3 => ?_)
      · exact absurd ⟨c1, c2, b_t c3⟩ hbad
      · refine lv_iconst (v := nI 0) hx hb dX1_sum_19 (by decide) ?_
        exact fl_iret X hr hlk hI dX1_sum_20 ⟨rfl, rfl, rfl⟩
theorem m_X1_sum (D : va_G) (dA : Nat → ClassId) (ad : Nat → Nat) (N : Nat) (I : fl_TI) (J : fl_TJ) (hN : 30 ≤ N) {n eq rr rk : Nat} (ok : x_ok I n eq rr rk) {a : Nat} {xs : Int32} (ha : a < eq) (hs : (¬ xs < -1000 ∧ ¬ nI 1000 < xs)) : FM yX1_sum cX1_sum 3 (some .int) 4 D dA ad N [.ref (ad 0), .int (nI a), .int xs] I J (fun v I' J' => v = some (.int (nI 1)) ∧ I' = i_settle eq n rk (fl_up I 5 a xs) J ∧ J' = j_settle eq n rk (fl_up I 5 a xs) J) := by
  refine FM.ofW RX1 rfl (by decide +kernel) (Nat.le_of_ble_eq_true rfl) ?_
  intro p l e s m args below meth c ls X hr hlk hI hl
  have hx := X.1
  have hb := X.2.1
  have hl : lv_has ls 3 [(0, .ref (ad 0)), (1, .int (nI a)), (2, .int xs)] := hl
  obtain ⟨hn, ⟨hn1, hn4⟩, he, he3, hrr, hrn, hh, hw, hrk, hrk4, hld⟩ := ok
  refine lv_iload_n hx hb dX1_sum_0 rfl (lv_at hl 1 rfl) ?_
  refine lv_if_lt (tgt := 19) hx hb dX1_sum_1 (by decide) (fun c1 => absurd c1 (nI_pos (by omega))) (fun c1 => ?_)
  refine lv_iload_n hx hb dX1_sum_4 rfl (lv_at hl 1 rfl) ?_
  refine lv_aload_n hx hb dX1_sum_5 rfl (lv_at hl 0 rfl) ?_
  refine fl_get1 X hI dX1_sum_6 (by omega) 3 (by decide) wf_X1_46 rfl ?_
  refine W.eq (g2 := F0 m 9 ls [.int (nI eq), .int (nI a)]) (by rw [he]) ?_
  refine fn_icmp_ge X (tgt := 19) dX1_sum_9 (by decide) (by omega) (by omega) (fun c2 => absurd c2 (by omega)) (fun c2 => ?_)
  refine lv_iload_n hx hb dX1_sum_12 rfl (lv_at hl 2 rfl) ?_
  refine fl_callS (As := [.int xs]) (rest := []) X hI dX1_sum_13 (m_X1_isSum D dA ad N I J xs) wc_yX1_isSum wm_X1_52 ws_yX1_isSum wn_X1 hd_yX1_isSum rfl ⟨by first | decide | omega, by first | decide | omega⟩ hl.1 (Nat.le_of_ble_eq_true rfl) (fun v I2 J2 H locs hp hI => ?_)
  obtain ⟨hv, hI2, hJ2⟩ := hp
  subst hv
  rw [hI2, hJ2] at hI
  refine W.eq (g2 := F0 m 16 ls [.int (if ¬ xs < -1000 ∧ ¬ nI 1000 < xs then nI 1 else nI 0)]) rfl ?_
  refine lv_if_ne (tgt := 21) hx hb dX1_sum_16 (by decide) (fun c3 => ?_) (fun c3 => ?_)
  · refine lv_aload_n hx hb dX1_sum_21 rfl (lv_at hl 0 rfl) ?_
    refine fl_get1 X hI dX1_sum_22 (by omega) 1 (by decide) wf_X1_14 rfl ?_
    refine lv_iload_n hx hb dX1_sum_25 rfl (lv_at hl 1 rfl) ?_
    refine lv_iload_n hx hb dX1_sum_26 rfl (lv_at hl 2 rfl) ?_
    refine fn_iast (k := 5) X hI dX1_sum_27 (by omega) rfl (show a < 3 by omega) (fun H locs hI => ?_)
    refine lv_aload_n hx hb dX1_sum_28 rfl (lv_at hl 0 rfl) ?_
    refine fl_callV (k := 0) (As := []) (rest := []) X hI dX1_sum_29 (m_X1_settle D dA ad N (fl_up I 5 a xs) J hN (n := n) (eq := eq) (rk := rk) (by rw [fl_up_k (by omega)]; exact he) he3 hn4 (by rw [fl_up_k (by omega)]; exact hw) (by rw [fl_up_k (by omega)]; exact hrk) (by omega) (fun i hi => by unfold ldI; rw [fl_up_k (by omega)]; exact hld i hi)) (by omega) fl_c_5 rfl rfl wc_yX1_settleSolution wm_X1_60 wi_yX1_settleSolution wl_yX1_settleSolution wn_X1 hd_yX1_settleSolution rfl ⟨by first | decide | omega, by first | decide | omega⟩ hl.1 (Nat.le_of_ble_eq_true rfl) (fun v I2 J2 H locs hp hI => ?_)
    obtain ⟨hv, hI2, hJ2⟩ := hp
    subst hv
    rw [hI2, hJ2] at hI
    refine W.eq (g2 := F0 m 32 ls []) rfl ?_
    refine lv_iconst (v := nI 1) hx hb dX1_sum_32 (by decide) ?_
    exact fl_iret X hr hlk hI dX1_sum_33 ⟨rfl, rfl, rfl⟩
  · exact absurd hs (b_f (by assumption))
theorem m_X1_drop_bad (D : va_G) (dA : Nat → ClassId) (ad : Nat → Nat) (N : Nat) (I : fl_TI) (J : fl_TJ) (hN : 30 ≤ N) (he : I 0 3 = nI 0) : FM yX1_drop cX1_drop 1 (some .int) 5 D dA ad N [.ref (ad 0)] I J (fun v I' J' => v = some (.int (-1)) ∧ I' = I ∧ J' = J) := by
  refine FM.ofW RX1 rfl (by decide +kernel) (Nat.le_of_ble_eq_true rfl) ?_
  intro p l e s m args below meth c ls X hr hlk hI hl
  have hx := X.1
  have hb := X.2.1
  have hl : lv_has ls 1 [(0, .ref (ad 0))] := hl
  refine lv_aload_n hx hb dX1_drop_0 rfl (lv_at hl 0 rfl) ?_
  refine fl_get1 X hI dX1_drop_1 (by omega) 3 (by decide) wf_X1_46 rfl ?_
  refine W.eq (g2 := F0 m 4 ls [.int (nI 0)]) (by rw [he]) ?_
  refine fn_if_ne X (tgt := 9) dX1_drop_4 (by decide) (by omega) (fun c1 => absurd c1 (by omega)) (fun c1 => ?_)
  refine lv_iconst (v := (-1)) hx hb dX1_drop_7 (by decide) ?_
  exact fl_iret X hr hlk hI dX1_drop_8 ⟨rfl, rfl, rfl⟩
theorem m_X1_drop (D : va_G) (dA : Nat → ClassId) (ad : Nat → Nat) (N : Nat) (I : fl_TI) (J : fl_TJ) (hN : 30 ≤ N) {n eq : Nat} (hn : I 0 2 = nI n) (hn1 : 1 ≤ n) (hn4 : n ≤ 4) (he : I 0 3 = nI (eq + 1)) (he3 : eq < 3) : FM yX1_drop cX1_drop 1 (some .int) 5 D dA ad N [.ref (ad 0)] I J (fun v I' J' => v = some (.int (nI eq)) ∧ I' = x_formI n eq (fl_up I 0 3 (nI eq)) J ∧ J' = x_formJ n eq (fl_up I 0 3 (nI eq)) J) := by
  refine FM.ofW RX1 rfl (by decide +kernel) (Nat.le_of_ble_eq_true rfl) ?_
  intro p l e s m args below meth c ls X hr hlk hI hl
  have hx := X.1
  have hb := X.2.1
  have hl : lv_has ls 1 [(0, .ref (ad 0))] := hl
  refine lv_aload_n hx hb dX1_drop_0 rfl (lv_at hl 0 rfl) ?_
  refine fl_get1 X hI dX1_drop_1 (by omega) 3 (by decide) wf_X1_46 rfl ?_
  refine W.eq (g2 := F0 m 4 ls [.int (nI (eq + 1))]) (by rw [he]) ?_
  refine fn_if_ne X (tgt := 9) dX1_drop_4 (by decide) (by omega) (fun c1 => ?_) (fun c1 => absurd c1 (by omega))
  refine lv_aload_n hx hb dX1_drop_9 rfl (lv_at hl 0 rfl) ?_
  refine lv_aload_n hx hb dX1_drop_10 rfl (lv_at hl 0 rfl) ?_
  refine fl_get1 X hI dX1_drop_11 (by omega) 3 (by decide) wf_X1_46 rfl ?_
  refine W.eq (g2 := F0 m 14 ls [.int (nI (eq + 1)), .ref (ad 0)]) (by rw [he]) ?_
  refine lv_iconst (v := nI 1) hx hb dX1_drop_14 (by decide) ?_
  refine fn_isub X dX1_drop_15 (by omega) ?_
  refine fl_put1 X hI dX1_drop_16 (by omega) 3 (by decide) wf_X1_46 (fun H locs hI => ?_)
  have hI : fl_I D dA ad N (fl_up I 0 3 (nI eq)) J (fl_A ad N s.heap.size) s s.heap H locs := hI
  refine lv_aload_n hx hb dX1_drop_19 rfl (lv_at hl 0 rfl) ?_
  refine fl_callV (k := 0) (As := []) (rest := []) X hI dX1_drop_20 (m_X1_formWhole D dA ad N (fl_up I 0 3 (nI eq)) J hN (n := n) (eq := eq) (by rw [fl_up_j (by omega)]; exact hn) (by omega) fl_up_s (by omega)) (by omega) fl_c_5 rfl rfl wc_yX1_formWhole wm_X1_49 wi_yX1_formWhole wl_yX1_formWhole wn_X1 hd_yX1_formWhole rfl ⟨by first | decide | omega, by first | decide | omega⟩ hl.1 (Nat.le_of_ble_eq_true rfl) (fun v I2 J2 H locs hp hI => ?_)
  obtain ⟨hv, hI2, hJ2⟩ := hp
  subst hv
  rw [hI2, hJ2] at hI
  refine W.eq (g2 := F0 m 23 ls []) rfl ?_
  refine lv_aload_n hx hb dX1_drop_23 rfl (lv_at hl 0 rfl) ?_
  refine fl_get1 X hI dX1_drop_24 (by omega) 3 (by decide) wf_X1_46 rfl ?_
  refine W.eq (g2 := F0 m 27 ls [.int (nI eq)]) (by rw [show x_formI n eq (fl_up I 0 3 (nI eq)) J 0 3 = nI eq from (x_form_ok (by rw [fl_up_j (by omega)]; exact hn) ⟨hn1, hn4⟩ fl_up_s (by omega)).1.2.2.1]) ?_
  exact fl_iret X hr hlk hI dX1_drop_27 ⟨rfl, rfl, rfl⟩
theorem m_X1_solve (D : va_G) (dA : Nat → ClassId) (ad : Nat → Nat) (N : Nat) (I : fl_TI) (J : fl_TJ) (hN : 30 ≤ N) {n eq rr rk : Nat} (ok : x_ok I n eq rr rk) : FM yX1_solve cX1_solve 1 (some .int) 1 D dA ad N [.ref (ad 0)] I J (fun v I' J' => v = some (.int (if I 0 8 = -1 then nI (n - rr) else -1)) ∧ I' = I ∧ J' = J) := by
  refine FM.ofW RX1 rfl (by decide +kernel) (Nat.le_of_ble_eq_true rfl) ?_
  intro p l e s m args below meth c ls X hr hlk hI hl
  have hx := X.1
  have hb := X.2.1
  have hl : lv_has ls 1 [(0, .ref (ad 0))] := hl
  obtain ⟨hn, ⟨hn1, hn4⟩, he, he3, hrr, hrn, hh, hw, hrk, hrk4, hld⟩ := ok
  refine lv_aload_n hx hb dX1_solve_0 rfl (lv_at hl 0 rfl) ?_
  refine fl_get1 X hI dX1_solve_1 (by omega) 8 (by decide) wf_X1_63 rfl ?_
  refine lv_iconst (v := (-1)) hx hb dX1_solve_4 (by decide) ?_
  refine lv_icmp_ne (tgt := 15) hx hb dX1_solve_5 (by decide) (fun c1 => ?_) (fun c1 => ?_)
  · refine lv_iconst (v := (-1)) hx hb dX1_solve_15 (by decide) ?_
    exact fl_iret X hr hlk hI dX1_solve_16 ⟨by simp [*], rfl, rfl⟩
  · refine lv_aload_n hx hb dX1_solve_8 rfl (lv_at hl 0 rfl) ?_
    refine fl_callV (k := 0) (As := []) (rest := []) X hI dX1_solve_9 (m_X1_basisRows D dA ad N I J hN hn hrr hrn) (by omega) fl_c_5 rfl rfl wc_yX1_basisRows wm_X1_66 wi_yX1_basisRows wl_yX1_basisRows wn_X1 hd_yX1_basisRows rfl ⟨by first | decide | omega, by first | decide | omega⟩ hl.1 (Nat.le_of_ble_eq_true rfl) (fun v I2 J2 H locs hp hI => ?_)
    obtain ⟨hv, hI2, hJ2⟩ := hp
    subst hv
    rw [hI2, hJ2] at hI
    refine W.eq (g2 := F0 m 12 ls [.int (nI (n - rr))]) rfl ?_
    refine lv_goto (tgt := 16) hx hb dX1_solve_12 (by decide) ?_
    exact fl_iret X hr hlk hI dX1_solve_16 ⟨by simp [*], rfl, rfl⟩
theorem m_X1_fails (D : va_G) (dA : Nat → ClassId) (ad : Nat → Nat) (N : Nat) (I : fl_TI) (J : fl_TJ) (hN : 30 ≤ N) : FM yX1_fails cX1_fails 1 (some .int) 0 D dA ad N [.ref (ad 0)] I J (fun v I' J' => v = some (.int (I 0 8)) ∧ I' = I ∧ J' = J) := by
  refine FM.ofW RX1 rfl (by decide +kernel) (Nat.le_of_ble_eq_true rfl) ?_
  intro p l e s m args below meth c ls X hr hlk hI hl
  have hx := X.1
  have hb := X.2.1
  have hl : lv_has ls 1 [(0, .ref (ad 0))] := hl
  refine lv_aload_n hx hb dX1_fails_0 rfl (lv_at hl 0 rfl) ?_
  refine fl_get1 X hI dX1_fails_1 (by omega) 8 (by decide) wf_X1_63 rfl ?_
  exact fl_iret X hr hlk hI dX1_fails_4 ⟨rfl, rfl, rfl⟩
theorem m_X1_solution_bad (D : va_G) (dA : Nat → ClassId) (ad : Nat → Nat) (N : Nat) (I : fl_TI) (J : fl_TJ) (hN : 30 ≤ N) {n eq rr rk : Nat} (ok : x_ok I n eq rr rk) {x : Int32} (hbad : ¬ (I 0 8 = -1 ∧ ¬ x < 0 ∧ x < nI n)) : FM yX1_solution cX1_solution 2 (some .long) 0 D dA ad N [.ref (ad 0), .int x] I J (fun v I' J' => v = some (.long (-1000000000000000)) ∧ I' = I ∧ J' = J) := by
  refine FM.ofW RX1 rfl (by decide +kernel) (Nat.le_of_ble_eq_true rfl) ?_
  intro p l e s m args below meth c ls X hr hlk hI hl
  have hx := X.1
  have hb := X.2.1
  have hl : lv_has ls 2 [(0, .ref (ad 0)), (1, .int x)] := hl
  obtain ⟨hn, ⟨hn1, hn4⟩, he, he3, hrr, hrn, hh, hw, hrk, hrk4, hld⟩ := ok
  refine lv_aload_n hx hb dX1_solution_0 rfl (lv_at hl 0 rfl) ?_
  refine fl_get1 X hI dX1_solution_1 (by omega) 8 (by decide) wf_X1_63 rfl ?_
  refine lv_iconst (v := (-1)) hx hb dX1_solution_4 (by decide) ?_
  refine lv_icmp_ne (tgt := 20) hx hb dX1_solution_5 (by decide) (fun c1 => ?_) (fun c1 => ?_)
  · refine W.ldc2 (v := (-1000000000000000)) hx hb X.2.2.2.1 (X.2.2.2.2 _ wk_X1_70) rfl dX1_solution_20 ?_
    refine W.eq (g2 := F0 m 23 ls [.long ((-1000000000000000))]) rfl ?_
    exact fl_lret X hr hlk hI dX1_solution_23 ⟨rfl, rfl, rfl⟩
  · refine lv_iload_n hx hb dX1_solution_8 rfl (lv_at hl 1 rfl) ?_
    refine lv_if_lt (tgt := 20) hx hb dX1_solution_9 (by decide) (fun c2 => ?_) (fun c2 => ?_)
    · refine W.ldc2 (v := (-1000000000000000)) hx hb X.2.2.2.1 (X.2.2.2.2 _ wk_X1_70) rfl dX1_solution_20 ?_
      refine W.eq (g2 := F0 m 23 ls [.long ((-1000000000000000))]) rfl ?_
      exact fl_lret X hr hlk hI dX1_solution_23 ⟨rfl, rfl, rfl⟩
    · refine lv_iload_n hx hb dX1_solution_12 rfl (lv_at hl 1 rfl) ?_
      refine lv_aload_n hx hb dX1_solution_13 rfl (lv_at hl 0 rfl) ?_
      refine fl_get1 X hI dX1_solution_14 (by omega) 2 (by decide) wf_X1_42 rfl ?_
      refine W.eq (g2 := F0 m 17 ls [.int (nI n), .int x]) (by rw [hn]) ?_
      refine lv_icmp_lt (tgt := 24) hx hb dX1_solution_17 (by decide) (fun c3 => ?_) (fun c3 => ?_)
      · exact absurd ⟨c1, c2, c3⟩ hbad
      · refine W.ldc2 (v := (-1000000000000000)) hx hb X.2.2.2.1 (X.2.2.2.2 _ wk_X1_70) rfl dX1_solution_20 ?_
        refine W.eq (g2 := F0 m 23 ls [.long ((-1000000000000000))]) rfl ?_
        exact fl_lret X hr hlk hI dX1_solution_23 ⟨rfl, rfl, rfl⟩
theorem m_X1_solution (D : va_G) (dA : Nat → ClassId) (ad : Nat → Nat) (N : Nat) (I : fl_TI) (J : fl_TJ) (hN : 30 ≤ N) {n eq rr rk : Nat} (ok : x_ok I n eq rr rk) {j : Nat} (h8 : I 0 8 = -1) (hj : j < n) : FM yX1_solution cX1_solution 2 (some .long) 0 D dA ad N [.ref (ad 0), .int (nI j)] I J (fun v I' J' => v = some (.long (J 22 (eq + j))) ∧ I' = I ∧ J' = J) := by
  refine FM.ofW RX1 rfl (by decide +kernel) (Nat.le_of_ble_eq_true rfl) ?_
  intro p l e s m args below meth c ls X hr hlk hI hl
  have hx := X.1
  have hb := X.2.1
  have hl : lv_has ls 2 [(0, .ref (ad 0)), (1, .int (nI j))] := hl
  obtain ⟨hn, ⟨hn1, hn4⟩, he, he3, hrr, hrn, hh, hw, hrk, hrk4, hld⟩ := ok
  refine lv_aload_n hx hb dX1_solution_0 rfl (lv_at hl 0 rfl) ?_
  refine fl_get1 X hI dX1_solution_1 (by omega) 8 (by decide) wf_X1_63 rfl ?_
  refine lv_iconst (v := (-1)) hx hb dX1_solution_4 (by decide) ?_
  refine lv_icmp_ne (tgt := 20) hx hb dX1_solution_5 (by decide) (fun c1 => absurd h8 c1) (fun c1 => ?_)
  refine lv_iload_n hx hb dX1_solution_8 rfl (lv_at hl 1 rfl) ?_
  refine lv_if_lt (tgt := 20) hx hb dX1_solution_9 (by decide) (fun c2 => absurd c2 (nI_pos (by omega))) (fun c2 => ?_)
  refine lv_iload_n hx hb dX1_solution_12 rfl (lv_at hl 1 rfl) ?_
  refine lv_aload_n hx hb dX1_solution_13 rfl (lv_at hl 0 rfl) ?_
  refine fl_get1 X hI dX1_solution_14 (by omega) 2 (by decide) wf_X1_42 rfl ?_
  refine W.eq (g2 := F0 m 17 ls [.int (nI n), .int (nI j)]) (by rw [hn]) ?_
  refine fn_icmp_lt X (tgt := 24) dX1_solution_17 (by decide) (by omega) (by omega) (fun c3 => ?_) (fun c3 => absurd c3 (by omega))
  refine lv_aload_n hx hb dX1_solution_24 rfl (lv_at hl 0 rfl) ?_
  refine fl_get1 X hI dX1_solution_25 (by omega) 7 (by decide) wf_X1_30 rfl ?_
  refine lv_aload_n hx hb dX1_solution_28 rfl (lv_at hl 0 rfl) ?_
  refine fl_get1 X hI dX1_solution_29 (by omega) 3 (by decide) wf_X1_46 rfl ?_
  refine W.eq (g2 := F0 m 32 ls [.int (nI eq), .ref (ad 22)]) (by rw [he]) ?_
  refine lv_iload_n hx hb dX1_solution_32 rfl (lv_at hl 1 rfl) ?_
  refine fn_iadd X dX1_solution_33 ?_
  refine fn_lald (k := 22) X hI dX1_solution_34 (by omega) rfl (show eq + j < 7 by omega) ?_
  exact fl_lret X hr hlk hI dX1_solution_35 ⟨rfl, rfl, rfl⟩
theorem m_X1_basis_bad (D : va_G) (dA : Nat → ClassId) (ad : Nat → Nat) (N : Nat) (I : fl_TI) (J : fl_TJ) (hN : 30 ≤ N) {n eq rr rk : Nat} (ok : x_ok I n eq rr rk) {x y : Int32} (hbad : ¬ (¬ x < 0 ∧ ¬ nI (n - rr) ≤ x ∧ ¬ y < 0 ∧ y < nI n)) : FM yX1_basis cX1_basis 3 (some .long) 2 D dA ad N [.ref (ad 0), .int x, .int y] I J (fun v I' J' => v = some (.long (-1000000000000000)) ∧ I' = I ∧ J' = J) := by
  refine FM.ofW RX1 rfl (by decide +kernel) (Nat.le_of_ble_eq_true rfl) ?_
  intro p l e s m args below meth c ls X hr hlk hI hl
  have hx := X.1
  have hb := X.2.1
  have hl : lv_has ls 3 [(0, .ref (ad 0)), (1, .int x), (2, .int y)] := hl
  obtain ⟨hn, ⟨hn1, hn4⟩, he, he3, hrr, hrn, hh, hw, hrk, hrk4, hld⟩ := ok
  refine lv_iload_n hx hb dX1_basis_0 rfl (lv_at hl 1 rfl) ?_
  refine lv_if_lt (tgt := 24) hx hb dX1_basis_1 (by decide) (fun c1 => ?_) (fun c1 => ?_)
  · refine W.ldc2 (v := (-1000000000000000)) hx hb X.2.2.2.1 (X.2.2.2.2 _ wk_X1_70) rfl dX1_basis_24 ?_
    refine W.eq (g2 := F0 m 27 ls [.long ((-1000000000000000))]) rfl ?_
    exact fl_lret X hr hlk hI dX1_basis_27 ⟨rfl, rfl, rfl⟩
  · refine lv_iload_n hx hb dX1_basis_4 rfl (lv_at hl 1 rfl) ?_
    refine lv_aload_n hx hb dX1_basis_5 rfl (lv_at hl 0 rfl) ?_
    refine fl_callV (k := 0) (As := []) (rest := [.int x]) X hI dX1_basis_6 (m_X1_basisRows D dA ad N I J hN hn hrr hrn) (by omega) fl_c_5 rfl rfl wc_yX1_basisRows wm_X1_66 wi_yX1_basisRows wl_yX1_basisRows wn_X1 hd_yX1_basisRows rfl ⟨by first | decide | omega, by first | decide | omega⟩ hl.1 (Nat.le_of_ble_eq_true rfl) (fun v I2 J2 H locs hp hI => ?_)
    obtain ⟨hv, hI2, hJ2⟩ := hp
    subst hv
    rw [hI2, hJ2] at hI
    refine W.eq (g2 := F0 m 9 ls [.int (nI (n - rr)), .int x]) rfl ?_
    refine lv_icmp_ge (tgt := 24) hx hb dX1_basis_9 (by decide) (fun c2 => ?_) (fun c2 => ?_)
    · refine W.ldc2 (v := (-1000000000000000)) hx hb X.2.2.2.1 (X.2.2.2.2 _ wk_X1_70) rfl dX1_basis_24 ?_
      refine W.eq (g2 := F0 m 27 ls [.long ((-1000000000000000))]) rfl ?_
      exact fl_lret X hr hlk hI dX1_basis_27 ⟨rfl, rfl, rfl⟩
    · refine lv_iload_n hx hb dX1_basis_12 rfl (lv_at hl 2 rfl) ?_
      refine lv_if_lt (tgt := 24) hx hb dX1_basis_13 (by decide) (fun c3 => ?_) (fun c3 => ?_)
      · refine W.ldc2 (v := (-1000000000000000)) hx hb X.2.2.2.1 (X.2.2.2.2 _ wk_X1_70) rfl dX1_basis_24 ?_
        refine W.eq (g2 := F0 m 27 ls [.long ((-1000000000000000))]) rfl ?_
        exact fl_lret X hr hlk hI dX1_basis_27 ⟨rfl, rfl, rfl⟩
      · refine lv_iload_n hx hb dX1_basis_16 rfl (lv_at hl 2 rfl) ?_
        refine lv_aload_n hx hb dX1_basis_17 rfl (lv_at hl 0 rfl) ?_
        refine fl_get1 X hI dX1_basis_18 (by omega) 2 (by decide) wf_X1_42 rfl ?_
        refine W.eq (g2 := F0 m 21 ls [.int (nI n), .int y]) (by rw [hn]) ?_
        refine lv_icmp_lt (tgt := 28) hx hb dX1_basis_21 (by decide) (fun c4 => ?_) (fun c4 => ?_)
        · exact absurd ⟨c1, c2, c3, c4⟩ hbad
        · refine W.ldc2 (v := (-1000000000000000)) hx hb X.2.2.2.1 (X.2.2.2.2 _ wk_X1_70) rfl dX1_basis_24 ?_
          refine W.eq (g2 := F0 m 27 ls [.long ((-1000000000000000))]) rfl ?_
          exact fl_lret X hr hlk hI dX1_basis_27 ⟨rfl, rfl, rfl⟩
theorem m_X1_basis (D : va_G) (dA : Nat → ClassId) (ad : Nat → Nat) (N : Nat) (I : fl_TI) (J : fl_TJ) (hN : 30 ≤ N) {n eq rr rk : Nat} (ok : x_ok I n eq rr rk) {i j : Nat} (hi : i < n - rr) (hj : j < n) : FM yX1_basis cX1_basis 3 (some .long) 2 D dA ad N [.ref (ad 0), .int (nI i), .int (nI j)] I J (fun v I' J' => v = some (.long (J (6 + 2 + (rr + i)) (eq + j))) ∧ I' = I ∧ J' = J) := by
  refine FM.ofW RX1 rfl (by decide +kernel) (Nat.le_of_ble_eq_true rfl) ?_
  intro p l e s m args below meth c ls X hr hlk hI hl
  have hx := X.1
  have hb := X.2.1
  have hl : lv_has ls 3 [(0, .ref (ad 0)), (1, .int (nI i)), (2, .int (nI j))] := hl
  obtain ⟨hn, ⟨hn1, hn4⟩, he, he3, hrr, hrn, hh, hw, hrk, hrk4, hld⟩ := ok
  refine lv_iload_n hx hb dX1_basis_0 rfl (lv_at hl 1 rfl) ?_
  refine lv_if_lt (tgt := 24) hx hb dX1_basis_1 (by decide) (fun c1 => absurd c1 (nI_pos (by omega))) (fun c1 => ?_)
  refine lv_iload_n hx hb dX1_basis_4 rfl (lv_at hl 1 rfl) ?_
  refine lv_aload_n hx hb dX1_basis_5 rfl (lv_at hl 0 rfl) ?_
  refine fl_callV (k := 0) (As := []) (rest := [.int (nI i)]) X hI dX1_basis_6 (m_X1_basisRows D dA ad N I J hN hn hrr hrn) (by omega) fl_c_5 rfl rfl wc_yX1_basisRows wm_X1_66 wi_yX1_basisRows wl_yX1_basisRows wn_X1 hd_yX1_basisRows rfl ⟨by first | decide | omega, by first | decide | omega⟩ hl.1 (Nat.le_of_ble_eq_true rfl) (fun v I2 J2 H locs hp hI => ?_)
  obtain ⟨hv, hI2, hJ2⟩ := hp
  subst hv
  rw [hI2, hJ2] at hI
  refine W.eq (g2 := F0 m 9 ls [.int (nI (n - rr)), .int (nI i)]) rfl ?_
  refine fn_icmp_ge X (tgt := 24) dX1_basis_9 (by decide) (by omega) (by omega) (fun c2 => absurd c2 (by omega)) (fun c2 => ?_)
  refine lv_iload_n hx hb dX1_basis_12 rfl (lv_at hl 2 rfl) ?_
  refine lv_if_lt (tgt := 24) hx hb dX1_basis_13 (by decide) (fun c3 => absurd c3 (nI_pos (by omega))) (fun c3 => ?_)
  refine lv_iload_n hx hb dX1_basis_16 rfl (lv_at hl 2 rfl) ?_
  refine lv_aload_n hx hb dX1_basis_17 rfl (lv_at hl 0 rfl) ?_
  refine fl_get1 X hI dX1_basis_18 (by omega) 2 (by decide) wf_X1_42 rfl ?_
  refine W.eq (g2 := F0 m 21 ls [.int (nI n), .int (nI j)]) (by rw [hn]) ?_
  refine fn_icmp_lt X (tgt := 28) dX1_basis_21 (by decide) (by omega) (by omega) (fun c4 => ?_) (fun c4 => absurd c4 (by omega))
  refine lv_aload_n hx hb dX1_basis_28 rfl (lv_at hl 0 rfl) ?_
  refine lv_iload_n hx hb dX1_basis_29 rfl (lv_at hl 1 rfl) ?_
  refine lv_iload_n hx hb dX1_basis_30 rfl (lv_at hl 2 rfl) ?_
  refine fl_callV (k := 0) (As := [.int (nI i), .int (nI j)]) (rest := []) X hI dX1_basis_31 (m_X1_basisNumber D dA ad N I J hN he hrr (by omega) (by omega)) (by omega) fl_c_5 rfl rfl wc_yX1_basisNumber wm_X1_72 wi_yX1_basisNumber wl_yX1_basisNumber wn_X1 hd_yX1_basisNumber rfl ⟨by first | decide | omega, by first | decide | omega⟩ hl.1 (Nat.le_of_ble_eq_true rfl) (fun v I2 J2 H locs hp hI => ?_)
  obtain ⟨hv, hI2, hJ2⟩ := hp
  subst hv
  rw [hI2, hJ2] at hI
  refine W.eq (g2 := F0 m 34 ls [.long (J (6 + 2 + (rr + i)) (eq + j))]) rfl ?_
  exact fl_lret X hr hlk hI dX1_basis_34 ⟨rfl, rfl, rfl⟩
theorem m_X1_reach_bad (D : va_G) (dA : Nat → ClassId) (ad : Nat → Nat) (N : Nat) (I : fl_TI) (J : fl_TJ) (hN : 30 ≤ N) {n eq rr rk : Nat} (ok : x_ok I n eq rr rk) {x y : Int32} (hbad : ¬ (¬ x < 0 ∧ ¬ nI rr ≤ x ∧ ¬ y < 0 ∧ y < nI eq)) : FM yX1_reach cX1_reach 3 (some .long) 1 D dA ad N [.ref (ad 0), .int x, .int y] I J (fun v I' J' => v = some (.long (-1000000000000000)) ∧ I' = I ∧ J' = J) := by
  refine FM.ofW RX1 rfl (by decide +kernel) (Nat.le_of_ble_eq_true rfl) ?_
  intro p l e s m args below meth c ls X hr hlk hI hl
  have hx := X.1
  have hb := X.2.1
  have hl : lv_has ls 3 [(0, .ref (ad 0)), (1, .int x), (2, .int y)] := hl
  obtain ⟨hn, ⟨hn1, hn4⟩, he, he3, hrr, hrn, hh, hw, hrk, hrk4, hld⟩ := ok
  refine lv_iload_n hx hb dX1_reach_0 rfl (lv_at hl 1 rfl) ?_
  refine lv_if_lt (tgt := 24) hx hb dX1_reach_1 (by decide) (fun c1 => ?_) (fun c1 => ?_)
  · refine W.ldc2 (v := (-1000000000000000)) hx hb X.2.2.2.1 (X.2.2.2.2 _ wk_X1_70) rfl dX1_reach_24 ?_
    refine W.eq (g2 := F0 m 27 ls [.long ((-1000000000000000))]) rfl ?_
    exact fl_lret X hr hlk hI dX1_reach_27 ⟨rfl, rfl, rfl⟩
  · refine lv_iload_n hx hb dX1_reach_4 rfl (lv_at hl 1 rfl) ?_
    refine lv_aload_n hx hb dX1_reach_5 rfl (lv_at hl 0 rfl) ?_
    refine fl_get1 X hI dX1_reach_6 (by omega) 6 (by decide) wf_X1_76 rfl ?_
    refine W.eq (g2 := F0 m 9 ls [.int (nI rr), .int x]) (by rw [hrr]) ?_
    refine lv_icmp_ge (tgt := 24) hx hb dX1_reach_9 (by decide) (fun c2 => ?_) (fun c2 => ?_)
    · refine W.ldc2 (v := (-1000000000000000)) hx hb X.2.2.2.1 (X.2.2.2.2 _ wk_X1_70) rfl dX1_reach_24 ?_
      refine W.eq (g2 := F0 m 27 ls [.long ((-1000000000000000))]) rfl ?_
      exact fl_lret X hr hlk hI dX1_reach_27 ⟨rfl, rfl, rfl⟩
    · refine lv_iload_n hx hb dX1_reach_12 rfl (lv_at hl 2 rfl) ?_
      refine lv_if_lt (tgt := 24) hx hb dX1_reach_13 (by decide) (fun c3 => ?_) (fun c3 => ?_)
      · refine W.ldc2 (v := (-1000000000000000)) hx hb X.2.2.2.1 (X.2.2.2.2 _ wk_X1_70) rfl dX1_reach_24 ?_
        refine W.eq (g2 := F0 m 27 ls [.long ((-1000000000000000))]) rfl ?_
        exact fl_lret X hr hlk hI dX1_reach_27 ⟨rfl, rfl, rfl⟩
      · refine lv_iload_n hx hb dX1_reach_16 rfl (lv_at hl 2 rfl) ?_
        refine lv_aload_n hx hb dX1_reach_17 rfl (lv_at hl 0 rfl) ?_
        refine fl_get1 X hI dX1_reach_18 (by omega) 3 (by decide) wf_X1_46 rfl ?_
        refine W.eq (g2 := F0 m 21 ls [.int (nI eq), .int y]) (by rw [he]) ?_
        refine lv_icmp_lt (tgt := 28) hx hb dX1_reach_21 (by decide) (fun c4 => ?_) (fun c4 => ?_)
        · exact absurd ⟨c1, c2, c3, c4⟩ hbad
        · refine W.ldc2 (v := (-1000000000000000)) hx hb X.2.2.2.1 (X.2.2.2.2 _ wk_X1_70) rfl dX1_reach_24 ?_
          refine W.eq (g2 := F0 m 27 ls [.long ((-1000000000000000))]) rfl ?_
          exact fl_lret X hr hlk hI dX1_reach_27 ⟨rfl, rfl, rfl⟩
theorem m_X1_reach (D : va_G) (dA : Nat → ClassId) (ad : Nat → Nat) (N : Nat) (I : fl_TI) (J : fl_TJ) (hN : 30 ≤ N) {n eq rr rk : Nat} (ok : x_ok I n eq rr rk) {i j : Nat} (hi : i < rr) (hj : j < eq) : FM yX1_reach cX1_reach 3 (some .long) 1 D dA ad N [.ref (ad 0), .int (nI i), .int (nI j)] I J (fun v I' J' => v = some (.long (J (6 + 2 + i) j)) ∧ I' = I ∧ J' = J) := by
  refine FM.ofW RX1 rfl (by decide +kernel) (Nat.le_of_ble_eq_true rfl) ?_
  intro p l e s m args below meth c ls X hr hlk hI hl
  have hx := X.1
  have hb := X.2.1
  have hl : lv_has ls 3 [(0, .ref (ad 0)), (1, .int (nI i)), (2, .int (nI j))] := hl
  obtain ⟨hn, ⟨hn1, hn4⟩, he, he3, hrr, hrn, hh, hw, hrk, hrk4, hld⟩ := ok
  refine lv_iload_n hx hb dX1_reach_0 rfl (lv_at hl 1 rfl) ?_
  refine lv_if_lt (tgt := 24) hx hb dX1_reach_1 (by decide) (fun c1 => absurd c1 (nI_pos (by omega))) (fun c1 => ?_)
  refine lv_iload_n hx hb dX1_reach_4 rfl (lv_at hl 1 rfl) ?_
  refine lv_aload_n hx hb dX1_reach_5 rfl (lv_at hl 0 rfl) ?_
  refine fl_get1 X hI dX1_reach_6 (by omega) 6 (by decide) wf_X1_76 rfl ?_
  refine W.eq (g2 := F0 m 9 ls [.int (nI rr), .int (nI i)]) (by rw [hrr]) ?_
  refine fn_icmp_ge X (tgt := 24) dX1_reach_9 (by decide) (by omega) (by omega) (fun c2 => absurd c2 (by omega)) (fun c2 => ?_)
  refine lv_iload_n hx hb dX1_reach_12 rfl (lv_at hl 2 rfl) ?_
  refine lv_if_lt (tgt := 24) hx hb dX1_reach_13 (by decide) (fun c3 => absurd c3 (nI_pos (by omega))) (fun c3 => ?_)
  refine lv_iload_n hx hb dX1_reach_16 rfl (lv_at hl 2 rfl) ?_
  refine lv_aload_n hx hb dX1_reach_17 rfl (lv_at hl 0 rfl) ?_
  refine fl_get1 X hI dX1_reach_18 (by omega) 3 (by decide) wf_X1_46 rfl ?_
  refine W.eq (g2 := F0 m 21 ls [.int (nI eq), .int (nI j)]) (by rw [he]) ?_
  refine fn_icmp_lt X (tgt := 28) dX1_reach_21 (by decide) (by omega) (by omega) (fun c4 => ?_) (fun c4 => absurd c4 (by omega))
  refine lv_aload_n hx hb dX1_reach_28 rfl (lv_at hl 0 rfl) ?_
  refine fl_get1 X hI dX1_reach_29 (by omega) 4 (by decide) wf_X1_23 rfl ?_
  refine lv_iload_n hx hb dX1_reach_32 rfl (lv_at hl 1 rfl) ?_
  refine lv_iload_n hx hb dX1_reach_33 rfl (lv_at hl 2 rfl) ?_
  refine fl_callV (k := 6) (As := [.int (nI i), .int (nI j)]) (rest := []) X hI dX1_reach_34 (m_X0_at D dA ad N I J hN lat6 (by omega) (by omega)) (by omega) (fl_c_4 rfl) rfl rfl wc_yX0_at wm_X1_79 wi_yX0_at wl_yX0_at wn_X0 hd_yX0_at rfl ⟨by first | decide | omega, by first | decide | omega⟩ hl.1 (Nat.le_of_ble_eq_true rfl) (fun v I2 J2 H locs hp hI => ?_)
  obtain ⟨hv, hI2, hJ2⟩ := hp
  subst hv
  rw [hI2, hJ2] at hI
  refine W.eq (g2 := F0 m 37 ls [.long (J (6 + 2 + i) j)]) rfl ?_
  exact fl_lret X hr hlk hI dX1_reach_37 ⟨rfl, rfl, rfl⟩
theorem m_X1_count0 (D : va_G) (dA : Nat → ClassId) (ad : Nat → Nat) (N : Nat) (I : fl_TI) (J : fl_TJ) (hN : 30 ≤ N) {n eq rr rk : Nat} (ok : x_ok I n eq rr rk) : FM yX1_count cX1_count 2 (some .int) 1 D dA ad N [.ref (ad 0), .int (nI 0)] I J (fun v I' J' => v = some (.int (nI rr)) ∧ I' = I ∧ J' = J) := by
  refine FM.ofW RX1 rfl (by decide +kernel) (Nat.le_of_ble_eq_true rfl) ?_
  intro p l e s m args below meth c ls X hr hlk hI hl
  have hx := X.1
  have hb := X.2.1
  have hl : lv_has ls 2 [(0, .ref (ad 0)), (1, .int (nI 0))] := hl
  obtain ⟨hn, ⟨hn1, hn4⟩, he, he3, hrr, hrn, hh, hw, hrk, hrk4, hld⟩ := ok
  refine lv_iload_n hx hb dX1_count_0 rfl (lv_at hl 1 rfl) ?_
  refine lv_tableIn (tgt := 32) hx hb dX1_count_1 (by decide) (by decide) (off := 31) (by decide) (by decide) ?_
  refine lv_aload_n hx hb dX1_count_32 rfl (lv_at hl 0 rfl) ?_
  refine fl_get1 X hI dX1_count_33 (by omega) 6 (by decide) wf_X1_76 rfl ?_
  refine W.eq (g2 := F0 m 36 ls [.int (nI rr)]) (by rw [hrr]) ?_
  exact fl_iret X hr hlk hI dX1_count_36 ⟨rfl, rfl, rfl⟩
theorem m_X1_count1 (D : va_G) (dA : Nat → ClassId) (ad : Nat → Nat) (N : Nat) (I : fl_TI) (J : fl_TJ) (hN : 30 ≤ N) {n eq rr rk : Nat} (ok : x_ok I n eq rr rk) : FM yX1_count cX1_count 2 (some .int) 1 D dA ad N [.ref (ad 0), .int (nI 1)] I J (fun v I' J' => v = some (.int (nI (n - rr))) ∧ I' = I ∧ J' = J) := by
  refine FM.ofW RX1 rfl (by decide +kernel) (Nat.le_of_ble_eq_true rfl) ?_
  intro p l e s m args below meth c ls X hr hlk hI hl
  have hx := X.1
  have hb := X.2.1
  have hl : lv_has ls 2 [(0, .ref (ad 0)), (1, .int (nI 1))] := hl
  obtain ⟨hn, ⟨hn1, hn4⟩, he, he3, hrr, hrn, hh, hw, hrk, hrk4, hld⟩ := ok
  refine lv_iload_n hx hb dX1_count_0 rfl (lv_at hl 1 rfl) ?_
  refine lv_tableIn (tgt := 37) hx hb dX1_count_1 (by decide) (by decide) (off := 36) (by decide) (by decide) ?_
  refine lv_aload_n hx hb dX1_count_37 rfl (lv_at hl 0 rfl) ?_
  refine fl_callV (k := 0) (As := []) (rest := []) X hI dX1_count_38 (m_X1_basisRows D dA ad N I J hN hn hrr hrn) (by omega) fl_c_5 rfl rfl wc_yX1_basisRows wm_X1_66 wi_yX1_basisRows wl_yX1_basisRows wn_X1 hd_yX1_basisRows rfl ⟨by first | decide | omega, by first | decide | omega⟩ hl.1 (Nat.le_of_ble_eq_true rfl) (fun v I2 J2 H locs hp hI => ?_)
  obtain ⟨hv, hI2, hJ2⟩ := hp
  subst hv
  rw [hI2, hJ2] at hI
  refine W.eq (g2 := F0 m 41 ls [.int (nI (n - rr))]) rfl ?_
  exact fl_iret X hr hlk hI dX1_count_41 ⟨rfl, rfl, rfl⟩
theorem m_X1_count2 (D : va_G) (dA : Nat → ClassId) (ad : Nat → Nat) (N : Nat) (I : fl_TI) (J : fl_TJ) (hN : 30 ≤ N) {n eq rr rk : Nat} (ok : x_ok I n eq rr rk) : FM yX1_count cX1_count 2 (some .int) 1 D dA ad N [.ref (ad 0), .int (nI 2)] I J (fun v I' J' => v = some (.int (nI eq)) ∧ I' = I ∧ J' = J) := by
  refine FM.ofW RX1 rfl (by decide +kernel) (Nat.le_of_ble_eq_true rfl) ?_
  intro p l e s m args below meth c ls X hr hlk hI hl
  have hx := X.1
  have hb := X.2.1
  have hl : lv_has ls 2 [(0, .ref (ad 0)), (1, .int (nI 2))] := hl
  obtain ⟨hn, ⟨hn1, hn4⟩, he, he3, hrr, hrn, hh, hw, hrk, hrk4, hld⟩ := ok
  refine lv_iload_n hx hb dX1_count_0 rfl (lv_at hl 1 rfl) ?_
  refine lv_tableIn (tgt := 42) hx hb dX1_count_1 (by decide) (by decide) (off := 41) (by decide) (by decide) ?_
  refine lv_aload_n hx hb dX1_count_42 rfl (lv_at hl 0 rfl) ?_
  refine fl_get1 X hI dX1_count_43 (by omega) 3 (by decide) wf_X1_46 rfl ?_
  refine W.eq (g2 := F0 m 46 ls [.int (nI eq)]) (by rw [he]) ?_
  exact fl_iret X hr hlk hI dX1_count_46 ⟨rfl, rfl, rfl⟩
theorem m_X1_count3 (D : va_G) (dA : Nat → ClassId) (ad : Nat → Nat) (N : Nat) (I : fl_TI) (J : fl_TJ) (hN : 30 ≤ N) {n eq rr rk : Nat} (ok : x_ok I n eq rr rk) : FM yX1_count cX1_count 2 (some .int) 1 D dA ad N [.ref (ad 0), .int (nI 3)] I J (fun v I' J' => v = some (.int (nI n)) ∧ I' = I ∧ J' = J) := by
  refine FM.ofW RX1 rfl (by decide +kernel) (Nat.le_of_ble_eq_true rfl) ?_
  intro p l e s m args below meth c ls X hr hlk hI hl
  have hx := X.1
  have hb := X.2.1
  have hl : lv_has ls 2 [(0, .ref (ad 0)), (1, .int (nI 3))] := hl
  obtain ⟨hn, ⟨hn1, hn4⟩, he, he3, hrr, hrn, hh, hw, hrk, hrk4, hld⟩ := ok
  refine lv_iload_n hx hb dX1_count_0 rfl (lv_at hl 1 rfl) ?_
  refine lv_tableIn (tgt := 47) hx hb dX1_count_1 (by decide) (by decide) (off := 46) (by decide) (by decide) ?_
  refine lv_aload_n hx hb dX1_count_47 rfl (lv_at hl 0 rfl) ?_
  refine fl_get1 X hI dX1_count_48 (by omega) 2 (by decide) wf_X1_42 rfl ?_
  refine W.eq (g2 := F0 m 51 ls [.int (nI n)]) (by rw [hn]) ?_
  exact fl_iret X hr hlk hI dX1_count_51 ⟨rfl, rfl, rfl⟩
theorem m_X1_count_bad (D : va_G) (dA : Nat → ClassId) (ad : Nat → Nat) (N : Nat) (I : fl_TI) (J : fl_TJ) (hN : 30 ≤ N) {x : Int32} (hbad : x.toInt < 0 ∨ 3 < x.toInt) : FM yX1_count cX1_count 2 (some .int) 1 D dA ad N [.ref (ad 0), .int x] I J (fun v I' J' => v = some (.int (-1)) ∧ I' = I ∧ J' = J) := by
  refine FM.ofW RX1 rfl (by decide +kernel) (Nat.le_of_ble_eq_true rfl) ?_
  intro p l e s m args below meth c ls X hr hlk hI hl
  have hx := X.1
  have hb := X.2.1
  have hl : lv_has ls 2 [(0, .ref (ad 0)), (1, .int x)] := hl
  refine lv_iload_n hx hb dX1_count_0 rfl (lv_at hl 1 rfl) ?_
  refine lv_tableOut (tgt := 52) hx hb dX1_count_1 (by have := hbad; omega) (by decide) ?_
  refine lv_iconst (v := (-1)) hx hb dX1_count_52 (by decide) ?_
  exact fl_iret X hr hlk hI dX1_count_53 ⟨rfl, rfl, rfl⟩
def j_reached (eq n rk : Nat) (x0 x1 x2 : Int32) (I : fl_TI) (J : fl_TJ) : fl_TJ := j_reduce 6 23 (eq + n) rk (ldI I 12) (fl_up (fl_up (fl_up (j_fill 23 J) 23 0 (x0.toInt64)) 23 1 (x1.toInt64)) 23 2 (x2.toInt64))
theorem m_X1_reached (D : va_G) (dA : Nat → ClassId) (ad : Nat → Nat) (N : Nat) (I : fl_TI) (J : fl_TJ) (hN : 30 ≤ N) {n eq rr rk : Nat} (ok : x_ok I n eq rr rk) {x0 x1 x2 : Int32} : FM yX1_reached cX1_reached 4 (some .int) 3 D dA ad N [.ref (ad 0), .int x0, .int x1, .int x2] I J (fun v I' J' => v = some (.int (if x_first 23 (j_reached eq n rk x0 x1 x2 I J) eq 0 = -1 then nI 1 else nI 0)) ∧ I' = I ∧ J' = j_reached eq n rk x0 x1 x2 I J) := by
  refine FM.ofW RX1 rfl (by decide +kernel) (Nat.le_of_ble_eq_true rfl) ?_
  intro p l e s m args below meth c ls X hr hlk hI hl
  have hx := X.1
  have hb := X.2.1
  have hl : lv_has ls 4 [(0, .ref (ad 0)), (1, .int x0), (2, .int x1), (3, .int x2)] := hl
  obtain ⟨hn, ⟨hn1, hn4⟩, he, he3, hrr, hrn, hh, hw, hrk, hrk4, hld⟩ := ok
  refine lv_aload_n hx hb dX1_reached_0 rfl (lv_at hl 0 rfl) ?_
  refine fl_get1 X hI dX1_reached_1 (by omega) 9 (by decide) wf_X1_34 rfl ?_
  refine fl_callS (As := [.ref (ad 23)]) (rest := []) X hI dX1_reached_4 (m_fill D dA ad N I J (q := 23) (by omega) rfl) wc_yX1_fillWithZero wm_X1_82 ws_yX1_fillWithZero wn_X1 hd_yX1_fillWithZero rfl ⟨by first | decide | omega, by first | decide | omega⟩ hl.1 (Nat.le_of_ble_eq_true rfl) (fun v I2 J2 H locs hp hI => ?_)
  obtain ⟨hv, hI2, hJ2⟩ := hp
  subst hv
  rw [hI2, hJ2] at hI
  refine W.eq (g2 := F0 m 7 ls []) rfl ?_
  refine lv_aload_n hx hb dX1_reached_7 rfl (lv_at hl 0 rfl) ?_
  refine fl_get1 X hI dX1_reached_8 (by omega) 9 (by decide) wf_X1_34 rfl ?_
  refine lv_iconst (v := nI 0) hx hb dX1_reached_11 (by decide) ?_
  refine lv_iload_n hx hb dX1_reached_12 rfl (lv_at hl 1 rfl) ?_
  refine lv_i2l hx hb dX1_reached_13 rfl ?_
  refine fn_last (k := 23) X hI dX1_reached_14 (by omega) rfl (show 0 < 7 by omega) (fun H locs hI => ?_)
  refine lv_aload_n hx hb dX1_reached_15 rfl (lv_at hl 0 rfl) ?_
  refine fl_get1 X hI dX1_reached_16 (by omega) 9 (by decide) wf_X1_34 rfl ?_
  refine lv_iconst (v := nI 1) hx hb dX1_reached_19 (by decide) ?_
  refine lv_iload_n hx hb dX1_reached_20 rfl (lv_at hl 2 rfl) ?_
  refine lv_i2l hx hb dX1_reached_21 rfl ?_
  refine fn_last (k := 23) X hI dX1_reached_22 (by omega) rfl (show 1 < 7 by omega) (fun H locs hI => ?_)
  refine lv_aload_n hx hb dX1_reached_23 rfl (lv_at hl 0 rfl) ?_
  refine fl_get1 X hI dX1_reached_24 (by omega) 9 (by decide) wf_X1_34 rfl ?_
  refine lv_iconst (v := nI 2) hx hb dX1_reached_27 (by decide) ?_
  refine lv_iload_n hx hb dX1_reached_28 rfl (lv_at hl 3 rfl) ?_
  refine lv_i2l hx hb dX1_reached_29 rfl ?_
  refine fn_last (k := 23) X hI dX1_reached_30 (by omega) rfl (show 2 < 7 by omega) (fun H locs hI => ?_)
  refine lv_aload_n hx hb dX1_reached_31 rfl (lv_at hl 0 rfl) ?_
  refine fl_get1 X hI dX1_reached_32 (by omega) 4 (by decide) wf_X1_23 rfl ?_
  refine lv_aload_n hx hb dX1_reached_35 rfl (lv_at hl 0 rfl) ?_
  refine fl_get1 X hI dX1_reached_36 (by omega) 9 (by decide) wf_X1_34 rfl ?_
  refine fl_callV (k := 6) (As := [.ref (ad 23)]) (rest := []) X hI dX1_reached_39 (m_X0_reduce D dA ad N I (fl_up (fl_up (fl_up (j_fill 23 J) 23 0 x0.toInt64) 23 1 x1.toInt64) 23 2 x2.toInt64) hN lat6 (q := 23) (by omega) rfl hw (by omega) (show _ ≤ 7 by omega) hrk (by omega) (fun i hi => ⟨(hld i hi).1, by have := (hld i hi).2; omega, by have := (hld i hi).2; show _ < 7; omega⟩)) (by omega) (fl_c_4 rfl) rfl rfl wc_yX0_reduce wm_X1_86 wi_yX0_reduce wl_yX0_reduce wn_X0 hd_yX0_reduce rfl ⟨by first | decide | omega, by first | decide | omega⟩ hl.1 (Nat.le_of_ble_eq_true rfl) (fun v I2 J2 H locs hp hI => ?_)
  obtain ⟨hv, hI2, hJ2⟩ := hp
  subst hv
  rw [hI2, hJ2] at hI
  refine W.eq (g2 := F0 m 42 ls []) rfl ?_
  refine lv_aload_n hx hb dX1_reached_42 rfl (lv_at hl 0 rfl) ?_
  refine lv_aload_n hx hb dX1_reached_43 rfl (lv_at hl 0 rfl) ?_
  refine fl_get1 X hI dX1_reached_44 (by omega) 9 (by decide) wf_X1_34 rfl ?_
  refine fl_callV (k := 0) (As := [.ref (ad 23)]) (rest := []) X hI dX1_reached_47 (m_X1_firstNotZero D dA ad N I (j_reduce 6 23 (eq + n) rk (ldI I 12) (fl_up (fl_up (fl_up (j_fill 23 J) 23 0 x0.toInt64) 23 1 x1.toInt64) 23 2 x2.toInt64)) hN (q := 23) (by omega) rfl he he3 (show _ ≤ 7 by omega)) (by omega) fl_c_5 rfl rfl wc_yX1_firstNotZero wm_X1_89 wi_yX1_firstNotZero wl_yX1_firstNotZero wn_X1 hd_yX1_firstNotZero rfl ⟨by first | decide | omega, by first | decide | omega⟩ hl.1 (Nat.le_of_ble_eq_true rfl) (fun v I2 J2 H locs hp hI => ?_)
  obtain ⟨hv, hI2, hJ2⟩ := hp
  subst hv
  rw [hI2, hJ2] at hI
  refine W.eq (g2 := F0 m 50 ls [.int (x_first 23 (j_reduce 6 23 (eq + n) rk (ldI I 12) (fl_up (fl_up (fl_up (j_fill 23 J) 23 0 x0.toInt64) 23 1 x1.toInt64) 23 2 x2.toInt64)) eq 0)]) rfl ?_
  refine lv_iconst (v := (-1)) hx hb dX1_reached_50 (by decide) ?_
  refine lv_icmp_ne (tgt := 58) hx hb dX1_reached_51 (by decide) (fun c1 => ?_) (fun c1 => ?_)
  · refine lv_iconst (v := nI 0) hx hb dX1_reached_58 (by decide) ?_
    exact fl_iret X hr hlk hI dX1_reached_59 ⟨by unfold j_reached; simp [*], rfl, rfl⟩
  · refine lv_iconst (v := nI 1) hx hb dX1_reached_54 (by decide) ?_
    refine lv_goto (tgt := 59) hx hb dX1_reached_55 (by decide) ?_
    exact fl_iret X hr hlk hI dX1_reached_59 ⟨by unfold j_reached; simp [*], rfl, rfl⟩
end
section
/-! commonDivisor, spread, check -/
theorem wc_abs : Cond.code Lib.MathLoose.abs_long.x Lib.MathLoose.abs_long.code 2 (some .long) ∈ fl_tb := by
  have e1 : Lib.MathLoose.abs_long.x = yJ9_abs_067f4 := rfl
  have e2 : Lib.MathLoose.abs_long.code = cJ9_abs_067f4 := by decide +kernel
  rw [e1, e2]
  exact wc_yJ9_abs_067f4
section FLM
variable {p : Program} {l : Launch} {e : Env} {R : Room} {s : State} {m : MethodId} {args : Array Value} {below : List Frame} {meth : Method} {c : Code} {H : Heap} {locs : List Loc} {Q : State → Prop}
variable {cc : ByteArray} {nL pc : Nat} {own : String} {ls : Array Slot} {rest : List Value}
def ab64 (x : Int64) : Int64 := if 0 < x then x else -x
theorem fl_abs {index : Nat} {x : Int64} (X : CallFix p m c cc nL s args fl_tb own) (hdg : decode cc pc = .ok (.invokestatic index, 3)) (wm : Cond.methodLink own index yJ9_abs_067f4 ∈ fl_tb) (hl : ls.size = nL) (hf : 1 ≤ R.frames) (hlo : (rest.map fun v => v.category).sum + 13 ≤ R.locals)
    (kk : W p l e R s m args below meth c H locs 0 0 Q (F0 m (pc + 3) ls (.long (ab64 x) :: rest))) : W p l e R s m args below meth c H locs 0 0 Q (F0 m pc ls (.long x :: rest)) :=
  va_mabs_long X.1 X.2.1 (X.2.2.1.trans hl.symm) X.2.2.2.1 (X.2.2.2.2 _ wm) (X.2.2.2.2 _ ws_yJ9_abs_067f4) (X.2.2.2.2 _ wn_J9) (X.2.2.2.2 _ wc_abs) hf hlo (Nat.zero_le _) (Nat.zero_le _) hdg kk
end FLM
def gc64 : Nat → Int64 → Int64 → Int64
  | 0, a, _ => a
  | k + 1, a, b => if b = 0 then a else gc64 k b (a - a / b * b)
def cd64 (a b : Int64) : Int64 := gc64 200 (ab64 a) (ab64 b)
theorem lp_gcd {p : Program} {l : Launch} {e : Env} {R : Room} {s : State} {m : MethodId} {args : Array Value} {below : List Frame} {meth : Method} {c : Code} {D : va_G} {dA : Nat → ClassId} {ad : Nat → Nat} {N : Nat} {A : Nat → Prop} {I : fl_TI} {J : fl_TJ} {post : Option Value → fl_TI → fl_TJ → Prop} {a0 b0 : Int64} (X : CallFix p m c cX1_commonDivisor 11 s args fl_tb RX1) (hr : meth.sig.returnType = some .long) (hlk : meth.locks = false) :
    ∀ (k i : Nat) (a b : Int64) (H : Heap) (locs : List Loc) (ls : Array Slot), i + k = 200 → fl_I D dA ad N I J A s s.heap H locs → lv_has ls 11 [(8, .int (nI i)), (6, .long b), (4, .long a), (0, .long a0), (2, .long b0)] → post (some (.long (gc64 k a b))) I J → W p l e R s m args below meth c H locs 0 0 (MQ below (fl_Q D dA ad N post A) args s 0 0 A) (F0 m 15 ls []) := by
  have hx := X.1
  have hb := X.2.1
  intro k
  induction k with
  | zero =>
    intro i a b H locs ls hk hI hl hF
    have hk : 200 = i := by omega
    subst hk
    refine lv_iload hx hb dX1_commonDivisor_15 (lv_at hl 0 rfl) ?_
    refine lv_sipush (v := nI 200) hx hb dX1_commonDivisor_17 (by decide) ?_
    refine fn_icmp_ge X (tgt := 51) dX1_commonDivisor_20 (by decide) (by omega) (by omega) (fun c1 => ?_) (fun c1 => absurd c1 (by omega))
    refine lv_lload hx hb dX1_commonDivisor_51 (lv_at hl 2 rfl) ?_
    exact fl_lret X hr hlk hI dX1_commonDivisor_53 hF
  | succ k ih =>
    intro i a b H locs ls hk hI hl hF
    refine lv_iload hx hb dX1_commonDivisor_15 (lv_at hl 0 rfl) ?_
    refine lv_sipush (v := nI 200) hx hb dX1_commonDivisor_17 (by decide) ?_
    refine fn_icmp_ge X (tgt := 51) dX1_commonDivisor_20 (by decide) (by omega) (by omega) (fun c1 => absurd c1 (by omega)) (fun c1 => ?_)
    refine lv_lload hx hb dX1_commonDivisor_23 (lv_at hl 1 rfl) ?_
    refine lv_lconst (v := 0) hx hb dX1_commonDivisor_25 rfl ?_
    refine fl_lc_eq (tgt := 51) hx hb dX1_commonDivisor_26 dX1_commonDivisor_27 (by decide) (fun c2 => ?_) (fun c2 => ?_)
    · refine lv_lload hx hb dX1_commonDivisor_51 (lv_at hl 2 rfl) ?_
      exact fl_lret X hr hlk hI dX1_commonDivisor_53 (by have h9 := hF; simp only [gc64] at h9; rw [if_pos c2] at h9; exact h9)
    · refine lv_lload hx hb dX1_commonDivisor_30 (lv_at hl 2 rfl) ?_
      refine lv_lload hx hb dX1_commonDivisor_32 (lv_at hl 1 rfl) ?_
      refine lv_lrem hx hb dX1_commonDivisor_34 c2 ?_
      refine lv_lstore (lv' := [(9, .long (a - a / b * b)), (8, .int (nI i)), (6, .long b), (4, .long a), (0, .long a0), (2, .long b0)]) hx hb dX1_commonDivisor_35 hl (by decide) rfl (fun ls hl => ?_)
      refine lv_lload hx hb dX1_commonDivisor_37 (lv_at hl 2 rfl) ?_
      refine lv_lstore (lv' := [(4, .long b), (9, .long (a - a / b * b)), (8, .int (nI i)), (6, .long b), (0, .long a0), (2, .long b0)]) hx hb dX1_commonDivisor_39 hl (by decide) rfl (fun ls hl => ?_)
      refine lv_lload hx hb dX1_commonDivisor_41 (lv_at hl 1 rfl) ?_
      refine lv_lstore (lv' := [(6, .long (a - a / b * b)), (4, .long b), (9, .long (a - a / b * b)), (8, .int (nI i)), (0, .long a0), (2, .long b0)]) hx hb dX1_commonDivisor_43 hl (by decide) rfl (fun ls hl => ?_)
      refine fn_iinc (a := i) (lv' := [(8, .int (nI (i + 1))), (6, .long (a - a / b * b)), (4, .long b), (9, .long (a - a / b * b)), (0, .long a0), (2, .long b0)]) X dX1_commonDivisor_45 hl (k := 3) rfl (by decide) rfl (fun ls hl => ?_)
      refine lv_goto (tgt := 15) hx hb dX1_commonDivisor_48 (by decide) ?_
      exact ih (i + 1) _ _ _ _ _ (by omega) hI (lv_sub hl [0, 1, 2, 4, 5] rfl) (by have h9 := hF; simp only [gc64] at h9; rw [if_neg c2] at h9; exact h9)
theorem m_X1_commonDivisor (D : va_G) (dA : Nat → ClassId) (ad : Nat → Nat) (N : Nat) (I : fl_TI) (J : fl_TJ) (a0 b0 : Int64) : FM yX1_commonDivisor cX1_commonDivisor 11 (some .long) 1 D dA ad N [.long a0, .long b0] I J (fun v I' J' => v = some (.long (cd64 a0 b0)) ∧ I' = I ∧ J' = J) := by
  refine FM.ofW RX1 rfl (by decide +kernel) (Nat.le_of_ble_eq_true rfl) ?_
  intro p l e s m args below meth c ls X hr hlk hI hl
  have hx := X.1
  have hb := X.2.1
  have hl : lv_has ls 11 [(0, .long a0), (2, .long b0)] := hl
  refine lv_lload_n hx hb dX1_commonDivisor_0 rfl (lv_at hl 0 rfl) ?_
  refine fl_abs X dX1_commonDivisor_1 wm_X1_152 hl.1 (by first | decide | omega) (by first | decide | (show _ ≤ _; simp; omega)) ?_
  refine lv_lstore (lv' := [(4, .long (ab64 a0)), (0, .long a0), (2, .long b0)]) hx hb dX1_commonDivisor_4 hl (by decide) rfl (fun ls hl => ?_)
  refine lv_lload_n hx hb dX1_commonDivisor_6 rfl (lv_at hl 2 rfl) ?_
  refine fl_abs X dX1_commonDivisor_7 wm_X1_152 hl.1 (by first | decide | omega) (by first | decide | (show _ ≤ _; simp; omega)) ?_
  refine lv_lstore (lv' := [(6, .long (ab64 b0)), (4, .long (ab64 a0)), (0, .long a0), (2, .long b0)]) hx hb dX1_commonDivisor_10 hl (by decide) rfl (fun ls hl => ?_)
  refine lv_iconst (v := nI 0) hx hb dX1_commonDivisor_12 (by decide) ?_
  refine lv_istore (lv' := [(8, .int (nI 0)), (6, .long (ab64 b0)), (4, .long (ab64 a0)), (0, .long a0), (2, .long b0)]) hx hb dX1_commonDivisor_13 hl (by decide) rfl (fun ls hl => ?_)
  exact lp_gcd X hr hlk 200 0 _ _ _ _ _ (Nat.zero_add _) hI (lv_sub hl [0, 1, 2, 3, 4] rfl) ⟨rfl, rfl, rfl⟩
def x_spr1 (n eq rr : Nat) (J : fl_TJ) (i : Nat) (dv : Int64) : Int64 := fl_it (fun j dv => cd64 dv (J (6 + 2 + (rr + i)) (eq + j))) n 0 dv
def x_spr (n eq rr : Nat) (J : fl_TJ) : Int64 := fl_it (x_spr1 n eq rr J) (n - rr) 0 0
theorem lp_spr1 {p : Program} {l : Launch} {e : Env} {R : Room} {s : State} {m : MethodId} {args : Array Value} {below : List Frame} {meth : Method} {c : Code} {Q : State → Prop} {D : va_G} {dA : Nat → ClassId} {ad : Nat → Nat} {N : Nat} {A : Nat → Prop} {H0 : Heap} {I : fl_TI} {J : fl_TJ} {dv9 : Int64} (X : CallFix p m c cX1_spread 5 s args fl_tb RX1) {n eq rr a : Nat} (hN : 30 ≤ N) (hn : I 0 2 = nI n) (hn4 : n ≤ 4) (he : I 0 3 = nI eq) (he3 : eq ≤ 3) (hrr : I 0 6 = nI rr) (hrn : rr ≤ n) (ha : rr + a < n) (hR : 1 + 1 ≤ R.frames ∧ 8 + (11 + 11) + 40 * 1 ≤ R.locals)
    (kx : ∀ (H : Heap) (locs : List Loc) (ls : Array Slot), fl_I D dA ad N I J A s H0 H locs → lv_has ls 5 [(4, .int (nI n)), (3, .int (nI a)), (1, .long dv9), (0, .ref (ad 0))] → W p l e R s m args below meth c H locs 0 0 Q (F0 m 54 ls [])) :
    ∀ (k i : Nat) (dv : Int64) (H : Heap) (locs : List Loc) (ls : Array Slot), i + k = n → fl_I D dA ad N I J A s H0 H locs → lv_has ls 5 [(4, .int (nI i)), (3, .int (nI a)), (1, .long dv), (0, .ref (ad 0))] → fl_it (fun j dv => cd64 dv (J (6 + 2 + (rr + a)) (eq + j))) k i dv = dv9 → W p l e R s m args below meth c H locs 0 0 Q (F0 m 27 ls []) := by
  have hx := X.1
  have hb := X.2.1
  intro k
  induction k with
  | zero =>
    intro i dv H locs ls hk hI hl hF
    have hF : dv = dv9 := hF
    subst hF
    have hk : n = i := by omega
    subst hk
    refine lv_iload hx hb dX1_spread_27 (lv_at hl 0 rfl) ?_
    refine lv_aload_n hx hb dX1_spread_29 rfl (lv_at hl 3 rfl) ?_
    refine fl_get1 X hI dX1_spread_30 (by omega) 2 (by decide) wf_X1_42 rfl ?_
    refine W.eq (g2 := F0 m 33 ls [.int (nI n), .int (nI n)]) (by rw [hn]) ?_
    refine fn_icmp_ge X (tgt := 54) dX1_spread_33 (by decide) (by omega) (by omega) (fun c1 => ?_) (fun c1 => absurd c1 (by omega))
    exact kx _ _ _ hI (lv_sub hl [0, 1, 2, 3] rfl)
  | succ k ih =>
    intro i dv H locs ls hk hI hl hF
    refine lv_iload hx hb dX1_spread_27 (lv_at hl 0 rfl) ?_
    refine lv_aload_n hx hb dX1_spread_29 rfl (lv_at hl 3 rfl) ?_
    refine fl_get1 X hI dX1_spread_30 (by omega) 2 (by decide) wf_X1_42 rfl ?_
    refine W.eq (g2 := F0 m 33 ls [.int (nI n), .int (nI i)]) (by rw [hn]) ?_
    refine fn_icmp_ge X (tgt := 54) dX1_spread_33 (by decide) (by omega) (by omega) (fun c1 => absurd c1 (by omega)) (fun c1 => ?_)
    refine lv_lload_n hx hb dX1_spread_36 rfl (lv_at hl 2 rfl) ?_
    refine lv_aload_n hx hb dX1_spread_37 rfl (lv_at hl 3 rfl) ?_
    refine lv_iload_n hx hb dX1_spread_38 rfl (lv_at hl 1 rfl) ?_
    refine lv_iload hx hb dX1_spread_39 (lv_at hl 0 rfl) ?_
    refine fl_callV (k := 0) (As := [.int (nI a), .int (nI i)]) (rest := [.long dv]) X hI dX1_spread_41 (m_X1_basisNumber D dA ad N I J hN he hrr (by omega) (by omega)) (by omega) fl_c_5 rfl rfl wc_yX1_basisNumber wm_X1_72 wi_yX1_basisNumber wl_yX1_basisNumber wn_X1 hd_yX1_basisNumber rfl ⟨by first | decide | omega, by first | decide | omega⟩ hl.1 (Nat.le_of_ble_eq_true rfl) (fun v I2 J2 H locs hp hI => ?_)
    obtain ⟨hv, hI2, hJ2⟩ := hp
    subst hv
    rw [hI2, hJ2] at hI
    refine W.eq (g2 := F0 m 44 ls [.long (J (6 + 2 + (rr + a)) (eq + i)), .long dv]) rfl ?_
    refine fl_callS (As := [.long dv, .long (J (6 + 2 + (rr + a)) (eq + i))]) (rest := []) X hI dX1_spread_44 (m_X1_commonDivisor D dA ad N I J dv (J (6 + 2 + (rr + a)) (eq + i))) wc_yX1_commonDivisor wm_X1_113 ws_yX1_commonDivisor wn_X1 hd_yX1_commonDivisor rfl ⟨by first | decide | omega, by first | decide | omega⟩ hl.1 (Nat.le_of_ble_eq_true rfl) (fun v I2 J2 H locs hp hI => ?_)
    obtain ⟨hv, hI2, hJ2⟩ := hp
    subst hv
    rw [hI2, hJ2] at hI
    refine W.eq (g2 := F0 m 47 ls [.long (cd64 dv (J (6 + 2 + (rr + a)) (eq + i)))]) rfl ?_
    refine lv_lstore_n (lv' := [(1, .long (cd64 dv (J (6 + 2 + (rr + a)) (eq + i)))), (4, .int (nI i)), (3, .int (nI a)), (0, .ref (ad 0))]) hx hb dX1_spread_47 rfl hl (by decide) rfl (fun ls hl => ?_)
    refine fn_iinc (a := i) (lv' := [(4, .int (nI (i + 1))), (1, .long (cd64 dv (J (6 + 2 + (rr + a)) (eq + i)))), (3, .int (nI a)), (0, .ref (ad 0))]) X dX1_spread_48 hl (k := 1) rfl (by decide) rfl (fun ls hl => ?_)
    refine lv_goto (tgt := 27) hx hb dX1_spread_51 (by decide) ?_
    exact ih (i + 1) _ _ _ _ (by omega) hI (lv_sub hl [0, 2, 1, 3] rfl) hF
theorem lp_spr {p : Program} {l : Launch} {e : Env} {R : Room} {s : State} {m : MethodId} {args : Array Value} {below : List Frame} {meth : Method} {c : Code} {Q : State → Prop} {D : va_G} {dA : Nat → ClassId} {ad : Nat → Nat} {N : Nat} {A : Nat → Prop} {H0 : Heap} {I : fl_TI} {J : fl_TJ} {dv9 : Int64} (X : CallFix p m c cX1_spread 5 s args fl_tb RX1) {n eq rr : Nat} (hN : 30 ≤ N) (hn : I 0 2 = nI n) (hn4 : n ≤ 4) (he : I 0 3 = nI eq) (he3 : eq ≤ 3) (hrr : I 0 6 = nI rr) (hrn : rr ≤ n) (hR : 1 + 1 ≤ R.frames ∧ 8 + (11 + 11) + 40 * 1 ≤ R.locals)
    (kx : ∀ (H : Heap) (locs : List Loc) (ls : Array Slot), fl_I D dA ad N I J A s H0 H locs → lv_has ls 5 [(3, .int (nI (n - rr))), (1, .long dv9), (0, .ref (ad 0))] → W p l e R s m args below meth c H locs 0 0 Q (F0 m 60 ls [])) :
    ∀ (k i : Nat) (dv : Int64) (H : Heap) (locs : List Loc) (ls : Array Slot), i + k = n - rr → fl_I D dA ad N I J A s H0 H locs → lv_has ls 5 [(3, .int (nI i)), (1, .long dv), (0, .ref (ad 0))] → fl_it (x_spr1 n eq rr J) k i dv = dv9 → W p l e R s m args below meth c H locs 0 0 Q (F0 m 16 ls []) := by
  have hx := X.1
  have hb := X.2.1
  intro k
  induction k with
  | zero =>
    intro i dv H locs ls hk hI hl hF
    have hF : dv = dv9 := hF
    subst hF
    have hk : n - rr = i := by omega
    subst hk
    refine lv_iload_n hx hb dX1_spread_16 rfl (lv_at hl 0 rfl) ?_
    refine lv_aload_n hx hb dX1_spread_17 rfl (lv_at hl 2 rfl) ?_
    refine fl_callV (k := 0) (As := []) (rest := [.int (nI (n - rr))]) X hI dX1_spread_18 (m_X1_basisRows D dA ad N I J hN hn hrr hrn) (by omega) fl_c_5 rfl rfl wc_yX1_basisRows wm_X1_66 wi_yX1_basisRows wl_yX1_basisRows wn_X1 hd_yX1_basisRows rfl ⟨by first | decide | omega, by first | decide | omega⟩ hl.1 (Nat.le_of_ble_eq_true rfl) (fun v I2 J2 H locs hp hI => ?_)
    obtain ⟨hv, hI2, hJ2⟩ := hp
    subst hv
    rw [hI2, hJ2] at hI
    refine W.eq (g2 := F0 m 21 ls [.int (nI (n - rr)), .int (nI (n - rr))]) rfl ?_
    refine fn_icmp_ge X (tgt := 60) dX1_spread_21 (by decide) (by omega) (by omega) (fun c1 => ?_) (fun c1 => absurd c1 (by omega))
    exact kx _ _ _ hI (lv_sub hl [0, 1, 2] rfl)
  | succ k ih =>
    intro i dv H locs ls hk hI hl hF
    refine lv_iload_n hx hb dX1_spread_16 rfl (lv_at hl 0 rfl) ?_
    refine lv_aload_n hx hb dX1_spread_17 rfl (lv_at hl 2 rfl) ?_
    refine fl_callV (k := 0) (As := []) (rest := [.int (nI i)]) X hI dX1_spread_18 (m_X1_basisRows D dA ad N I J hN hn hrr hrn) (by omega) fl_c_5 rfl rfl wc_yX1_basisRows wm_X1_66 wi_yX1_basisRows wl_yX1_basisRows wn_X1 hd_yX1_basisRows rfl ⟨by first | decide | omega, by first | decide | omega⟩ hl.1 (Nat.le_of_ble_eq_true rfl) (fun v I2 J2 H locs hp hI => ?_)
    obtain ⟨hv, hI2, hJ2⟩ := hp
    subst hv
    rw [hI2, hJ2] at hI
    refine W.eq (g2 := F0 m 21 ls [.int (nI (n - rr)), .int (nI i)]) rfl ?_
    refine fn_icmp_ge X (tgt := 60) dX1_spread_21 (by decide) (by omega) (by omega) (fun c1 => absurd c1 (by omega)) (fun c1 => ?_)
    refine lv_iconst (v := nI 0) hx hb dX1_spread_24 (by decide) ?_
    refine lv_istore (lv' := [(4, .int (nI 0)), (3, .int (nI i)), (1, .long dv), (0, .ref (ad 0))]) hx hb dX1_spread_25 hl (by decide) rfl (fun ls hl => ?_)
    refine lp_spr1 X hN hn hn4 he he3 hrr hrn (a := i) (by omega) hR (dv9 := x_spr1 n eq rr J i dv) (fun H locs ls hI hl => ?_) n 0 _ _ _ _ (Nat.zero_add _) hI (lv_sub hl [0, 1, 2, 3] rfl) rfl
    refine fn_iinc (a := i) (lv' := [(3, .int (nI (i + 1))), (4, .int (nI n)), (1, .long (x_spr1 n eq rr J i dv)), (0, .ref (ad 0))]) X dX1_spread_54 hl (k := 1) rfl (by decide) rfl (fun ls hl => ?_)
    refine lv_goto (tgt := 16) hx hb dX1_spread_57 (by decide) ?_
    exact ih (i + 1) _ _ _ _ (by omega) hI (lv_sub hl [0, 2, 3] rfl) hF
theorem m_X1_spread_none (D : va_G) (dA : Nat → ClassId) (ad : Nat → Nat) (N : Nat) (I : fl_TI) (J : fl_TJ) (hN : 30 ≤ N) (h8 : ¬ I 0 8 = -1) : FM yX1_spread cX1_spread 5 (some .long) 2 D dA ad N [.ref (ad 0)] I J (fun v I' J' => v = some (.long (-1)) ∧ I' = I ∧ J' = J) := by
  refine FM.ofW RX1 rfl (by decide +kernel) (Nat.le_of_ble_eq_true rfl) ?_
  intro p l e s m args below meth c ls X hr hlk hI hl
  have hx := X.1
  have hb := X.2.1
  have hl : lv_has ls 5 [(0, .ref (ad 0))] := hl
  refine lv_aload_n hx hb dX1_spread_0 rfl (lv_at hl 0 rfl) ?_
  refine fl_get1 X hI dX1_spread_1 (by omega) 8 (by decide) wf_X1_63 rfl ?_
  refine lv_iconst (v := (-1)) hx hb dX1_spread_4 (by decide) ?_
  refine lv_icmp_eq (tgt := 12) hx hb dX1_spread_5 (by decide) (fun c1 => absurd c1 h8) (fun c1 => ?_)
  refine W.ldc2 (v := (-1)) hx hb X.2.2.2.1 (X.2.2.2.2 _ wk_X1_111) rfl dX1_spread_8 ?_
  refine W.eq (g2 := F0 m 11 ls [.long ((-1))]) rfl ?_
  exact fl_lret X hr hlk hI dX1_spread_11 ⟨rfl, rfl, rfl⟩
theorem m_X1_spread (D : va_G) (dA : Nat → ClassId) (ad : Nat → Nat) (N : Nat) (I : fl_TI) (J : fl_TJ) (hN : 30 ≤ N) {n eq rr rk : Nat} (ok : x_ok I n eq rr rk) (h8 : I 0 8 = -1) : FM yX1_spread cX1_spread 5 (some .long) 2 D dA ad N [.ref (ad 0)] I J (fun v I' J' => v = some (.long (x_spr n eq rr J)) ∧ I' = I ∧ J' = J) := by
  refine FM.ofW RX1 rfl (by decide +kernel) (Nat.le_of_ble_eq_true rfl) ?_
  intro p l e s m args below meth c ls X hr hlk hI hl
  have hx := X.1
  have hb := X.2.1
  have hl : lv_has ls 5 [(0, .ref (ad 0))] := hl
  obtain ⟨hn, ⟨hn1, hn4⟩, he, he3, hrr, hrn, hh, hw, hrk, hrk4, hld⟩ := ok
  refine lv_aload_n hx hb dX1_spread_0 rfl (lv_at hl 0 rfl) ?_
  refine fl_get1 X hI dX1_spread_1 (by omega) 8 (by decide) wf_X1_63 rfl ?_
  refine lv_iconst (v := (-1)) hx hb dX1_spread_4 (by decide) ?_
  refine lv_icmp_eq (tgt := 12) hx hb dX1_spread_5 (by decide) (fun c1 => ?_) (fun c1 => absurd h8 c1)
  refine lv_lconst (v := 0) hx hb dX1_spread_12 rfl ?_
  refine lv_lstore_n (lv' := [(1, .long 0), (0, .ref (ad 0))]) hx hb dX1_spread_13 rfl hl (by decide) rfl (fun ls hl => ?_)
  refine lv_iconst (v := nI 0) hx hb dX1_spread_14 (by decide) ?_
  refine lv_istore_n (lv' := [(3, .int (nI 0)), (1, .long 0), (0, .ref (ad 0))]) hx hb dX1_spread_15 rfl hl (by decide) rfl (fun ls hl => ?_)
  refine lp_spr X hN hn hn4 he he3 hrr hrn ⟨by decide, by decide⟩ (dv9 := x_spr n eq rr J) (fun H locs ls hI hl => ?_) (n - rr) 0 _ _ _ _ (Nat.zero_add _) hI (lv_sub hl [0, 1, 2] rfl) rfl
  refine lv_lload_n hx hb dX1_spread_60 rfl (lv_at hl 1 rfl) ?_
  exact fl_lret X hr hlk hI dX1_spread_61 ⟨rfl, rfl, rfl⟩
def x_sum (n eq : Nat) (I : fl_TI) (J : fl_TJ) (a q : Nat) : Int64 := fl_it (fun j t => t + (I (2 + a) j).toInt64 * J q (eq + j)) n 0 0
theorem lp_sum {p : Program} {l : Launch} {e : Env} {R : Room} {s : State} {m : MethodId} {args : Array Value} {below : List Frame} {meth : Method} {c : Code} {Q : State → Prop} {D : va_G} {dA : Nat → ClassId} {ad : Nat → Nat} {N : Nat} {A : Nat → Prop} {H0 : Heap} {I : fl_TI} {J : fl_TJ} {tt9 : Int64} (X : CallFix p m c cX1_sumOfUnknowns 6 s args fl_tb RX1) {n eq a q : Nat} (hN : 30 ≤ N) (hn : I 0 2 = nI n) (hn4 : n ≤ 4) (he : I 0 3 = nI eq) (he3 : eq ≤ 3) (ha : a < eq) (hq : q < N) (hq1 : fl_k q = 1) (hqn : fl_n q = 7)
    (kx : ∀ (H : Heap) (locs : List Loc) (ls : Array Slot), fl_I D dA ad N I J A s H0 H locs → lv_has ls 6 [(5, .int (nI n)), (3, .long tt9), (0, .ref (ad 0)), (1, .int (nI a)), (2, .ref (ad q))] → W p l e R s m args below meth c H locs 0 0 Q (F0 m 43 ls [])) :
    ∀ (k i : Nat) (tt : Int64) (H : Heap) (locs : List Loc) (ls : Array Slot), i + k = n → fl_I D dA ad N I J A s H0 H locs → lv_has ls 6 [(5, .int (nI i)), (3, .long tt), (0, .ref (ad 0)), (1, .int (nI a)), (2, .ref (ad q))] → fl_it (fun j t => t + (I (2 + a) j).toInt64 * J q (eq + j)) k i tt = tt9 → W p l e R s m args below meth c H locs 0 0 Q (F0 m 5 ls []) := by
  have hx := X.1
  have hb := X.2.1
  intro k
  induction k with
  | zero =>
    intro i tt H locs ls hk hI hl hF
    have hF : tt = tt9 := hF
    subst hF
    have hk : n = i := by omega
    subst hk
    refine lv_iload hx hb dX1_sumOfUnknowns_5 (lv_at hl 0 rfl) ?_
    refine lv_aload_n hx hb dX1_sumOfUnknowns_7 rfl (lv_at hl 2 rfl) ?_
    refine fl_get1 X hI dX1_sumOfUnknowns_8 (by omega) 2 (by decide) wf_X1_42 rfl ?_
    refine W.eq (g2 := F0 m 11 ls [.int (nI n), .int (nI n)]) (by rw [hn]) ?_
    refine fn_icmp_ge X (tgt := 43) dX1_sumOfUnknowns_11 (by decide) (by omega) (by omega) (fun c1 => ?_) (fun c1 => absurd c1 (by omega))
    exact kx _ _ _ hI (lv_sub hl [0, 1, 2, 3, 4] rfl)
  | succ k ih =>
    intro i tt H locs ls hk hI hl hF
    refine lv_iload hx hb dX1_sumOfUnknowns_5 (lv_at hl 0 rfl) ?_
    refine lv_aload_n hx hb dX1_sumOfUnknowns_7 rfl (lv_at hl 2 rfl) ?_
    refine fl_get1 X hI dX1_sumOfUnknowns_8 (by omega) 2 (by decide) wf_X1_42 rfl ?_
    refine W.eq (g2 := F0 m 11 ls [.int (nI n), .int (nI i)]) (by rw [hn]) ?_
    refine fn_icmp_ge X (tgt := 43) dX1_sumOfUnknowns_11 (by decide) (by omega) (by omega) (fun c1 => absurd c1 (by omega)) (fun c1 => ?_)
    refine lv_lload_n hx hb dX1_sumOfUnknowns_14 rfl (lv_at hl 1 rfl) ?_
    refine lv_aload_n hx hb dX1_sumOfUnknowns_15 rfl (lv_at hl 2 rfl) ?_
    refine fl_get1 X hI dX1_sumOfUnknowns_16 (by omega) 0 (by decide) wf_X1_11 rfl ?_
    refine lv_iload_n hx hb dX1_sumOfUnknowns_19 rfl (lv_at hl 3 rfl) ?_
    refine fn_aald2 (k := 1) X hI dX1_sumOfUnknowns_20 (by omega) rfl (show a < 3 by omega) ?_
    refine lv_iload hx hb dX1_sumOfUnknowns_21 (lv_at hl 0 rfl) ?_
    refine fn_iald (k := 2 + a) X hI dX1_sumOfUnknowns_23 (by omega) (fk2 (by omega)) (by rw [fn2 (by omega)]; omega) ?_
    refine lv_i2l hx hb dX1_sumOfUnknowns_24 rfl ?_
    refine lv_aload_n hx hb dX1_sumOfUnknowns_25 rfl (lv_at hl 4 rfl) ?_
    refine lv_aload_n hx hb dX1_sumOfUnknowns_26 rfl (lv_at hl 2 rfl) ?_
    refine fl_get1 X hI dX1_sumOfUnknowns_27 (by omega) 3 (by decide) wf_X1_46 rfl ?_
    refine W.eq (g2 := F0 m 30 ls [.int (nI eq), .ref (ad q), .long ((I (2 + a) i).toInt64), .long tt]) (by rw [he]) ?_
    refine lv_iload hx hb dX1_sumOfUnknowns_30 (lv_at hl 0 rfl) ?_
    refine fn_iadd X dX1_sumOfUnknowns_32 ?_
    refine fn_lald (k := q) X hI dX1_sumOfUnknowns_33 hq hq1 (by omega) ?_
    refine lv_lmul hx hb dX1_sumOfUnknowns_34 ?_
    refine lv_ladd hx hb dX1_sumOfUnknowns_35 ?_
    refine lv_lstore_n (lv' := [(3, .long (tt + (((I (2 + a) i).toInt64) * (J q (eq + i))))), (5, .int (nI i)), (0, .ref (ad 0)), (1, .int (nI a)), (2, .ref (ad q))]) hx hb dX1_sumOfUnknowns_36 rfl hl (by decide) rfl (fun ls hl => ?_)
    refine fn_iinc (a := i) (lv' := [(5, .int (nI (i + 1))), (3, .long (tt + (((I (2 + a) i).toInt64) * (J q (eq + i))))), (0, .ref (ad 0)), (1, .int (nI a)), (2, .ref (ad q))]) X dX1_sumOfUnknowns_37 hl (k := 1) rfl (by decide) rfl (fun ls hl => ?_)
    refine lv_goto (tgt := 5) hx hb dX1_sumOfUnknowns_40 (by decide) ?_
    exact ih (i + 1) _ _ _ _ (by omega) hI (lv_sub hl [0, 1, 2, 3, 4] rfl) hF
theorem m_X1_sumOf (D : va_G) (dA : Nat → ClassId) (ad : Nat → Nat) (N : Nat) (I : fl_TI) (J : fl_TJ) {n eq a q : Nat} (hN : 30 ≤ N) (hn : I 0 2 = nI n) (hn4 : n ≤ 4) (he : I 0 3 = nI eq) (he3 : eq ≤ 3) (ha : a < eq) (hq : q < N) (hq1 : fl_k q = 1) (hqn : fl_n q = 7) : FM yX1_sumOfUnknowns cX1_sumOfUnknowns 6 (some .long) 0 D dA ad N [.ref (ad 0), .int (nI a), .ref (ad q)] I J (fun v I' J' => v = some (.long (x_sum n eq I J a q)) ∧ I' = I ∧ J' = J) := by
  refine FM.ofW RX1 rfl (by decide +kernel) (Nat.le_of_ble_eq_true rfl) ?_
  intro p l e s m args below meth c ls X hr hlk hI hl
  have hx := X.1
  have hb := X.2.1
  have hl : lv_has ls 6 [(0, .ref (ad 0)), (1, .int (nI a)), (2, .ref (ad q))] := hl
  refine lv_lconst (v := 0) hx hb dX1_sumOfUnknowns_0 rfl ?_
  refine lv_lstore_n (lv' := [(3, .long 0), (0, .ref (ad 0)), (1, .int (nI a)), (2, .ref (ad q))]) hx hb dX1_sumOfUnknowns_1 rfl hl (by decide) rfl (fun ls hl => ?_)
  refine lv_iconst (v := nI 0) hx hb dX1_sumOfUnknowns_2 (by decide) ?_
  refine lv_istore (lv' := [(5, .int (nI 0)), (3, .long 0), (0, .ref (ad 0)), (1, .int (nI a)), (2, .ref (ad q))]) hx hb dX1_sumOfUnknowns_3 hl (by decide) rfl (fun ls hl => ?_)
  refine lp_sum X hN hn hn4 he he3 ha hq hq1 hqn (tt9 := x_sum n eq I J a q) (fun H locs ls hI hl => ?_) n 0 _ _ _ _ (Nat.zero_add _) hI (lv_sub hl [0, 1, 2, 3, 4] rfl) rfl
  refine lv_lload_n hx hb dX1_sumOfUnknowns_43 rfl (lv_at hl 1 rfl) ?_
  exact fl_lret X hr hlk hI dX1_sumOfUnknowns_44 ⟨rfl, rfl, rfl⟩
def x_solh (n eq : Nat) (I : fl_TI) (J : fl_TJ) : Nat → Nat → Int32
  | 0, _ => nI 1
  | k + 1, i => if x_sum n eq I J i 22 = (I 5 i).toInt64 then x_solh n eq I J k (i + 1) else nI 0
def x_rowh (n eq : Nat) (I : fl_TI) (J : fl_TJ) (a : Nat) : Nat → Nat → Int32
  | 0, _ => nI 1
  | k + 1, i => if x_sum n eq I J i (6 + 2 + a) = J (6 + 2 + a) i then x_rowh n eq I J a k (i + 1) else nI 0
theorem lp_solh {p : Program} {l : Launch} {e : Env} {R : Room} {s : State} {m : MethodId} {args : Array Value} {below : List Frame} {meth : Method} {c : Code} {D : va_G} {dA : Nat → ClassId} {ad : Nat → Nat} {N : Nat} {A : Nat → Prop} {I : fl_TI} {J : fl_TJ} {post : Option Value → fl_TI → fl_TJ → Prop} (X : CallFix p m c cX1_solutionHolds 2 s args fl_tb RX1) (hr : meth.sig.returnType = some .boolean) (hlk : meth.locks = false) {n eq : Nat} (hN : 30 ≤ N) (hn : I 0 2 = nI n) (hn4 : n ≤ 4) (he : I 0 3 = nI eq) (he3 : eq ≤ 3) (hR : 0 + 1 ≤ R.frames ∧ 8 + (6 + 11) + 40 * 0 ≤ R.locals) :
    ∀ (k i : Nat) (H : Heap) (locs : List Loc) (ls : Array Slot), i + k = eq → fl_I D dA ad N I J A s s.heap H locs → lv_has ls 2 [(1, .int (nI i)), (0, .ref (ad 0))] → post (some (.int (x_solh n eq I J k i))) I J → W p l e R s m args below meth c H locs 0 0 (MQ below (fl_Q D dA ad N post A) args s 0 0 A) (F0 m 2 ls []) := by
  have hx := X.1
  have hb := X.2.1
  intro k
  induction k with
  | zero =>
    intro i H locs ls hk hI hl hF
    have hk : eq = i := by omega
    subst hk
    refine lv_iload_n hx hb dX1_solutionHolds_2 rfl (lv_at hl 0 rfl) ?_
    refine lv_aload_n hx hb dX1_solutionHolds_3 rfl (lv_at hl 1 rfl) ?_
    refine fl_get1 X hI dX1_solutionHolds_4 (by omega) 3 (by decide) wf_X1_46 rfl ?_
    refine W.eq (g2 := F0 m 7 ls [.int (nI eq), .int (nI eq)]) (by rw [he]) ?_
    refine fn_icmp_ge X (tgt := 38) dX1_solutionHolds_7 (by decide) (by omega) (by omega) (fun c1 => ?_) (fun c1 => absurd c1 (by omega))
    refine lv_iconst (v := nI 1) hx hb dX1_solutionHolds_38 (by decide) ?_
    exact fl_zret X hr hlk hI dX1_solutionHolds_39 (by decide) hF
  | succ k ih =>
    intro i H locs ls hk hI hl hF
    refine lv_iload_n hx hb dX1_solutionHolds_2 rfl (lv_at hl 0 rfl) ?_
    refine lv_aload_n hx hb dX1_solutionHolds_3 rfl (lv_at hl 1 rfl) ?_
    refine fl_get1 X hI dX1_solutionHolds_4 (by omega) 3 (by decide) wf_X1_46 rfl ?_
    refine W.eq (g2 := F0 m 7 ls [.int (nI eq), .int (nI i)]) (by rw [he]) ?_
    refine fn_icmp_ge X (tgt := 38) dX1_solutionHolds_7 (by decide) (by omega) (by omega) (fun c1 => absurd c1 (by omega)) (fun c1 => ?_)
    refine lv_aload_n hx hb dX1_solutionHolds_10 rfl (lv_at hl 1 rfl) ?_
    refine lv_iload_n hx hb dX1_solutionHolds_11 rfl (lv_at hl 0 rfl) ?_
    refine lv_aload_n hx hb dX1_solutionHolds_12 rfl (lv_at hl 1 rfl) ?_
    refine fl_get1 X hI dX1_solutionHolds_13 (by omega) 7 (by decide) wf_X1_30 rfl ?_
    refine fl_callV (k := 0) (As := [.int (nI i), .ref (ad 22)]) (rest := []) X hI dX1_solutionHolds_16 (m_X1_sumOf D dA ad N I J hN hn hn4 he he3 (a := i) (q := 22) (by omega) (by omega) rfl rfl) (by omega) fl_c_5 rfl rfl wc_yX1_sumOfUnknowns wm_X1_187 wi_yX1_sumOfUnknowns wl_yX1_sumOfUnknowns wn_X1 hd_yX1_sumOfUnknowns rfl ⟨by first | decide | omega, by first | decide | omega⟩ hl.1 (Nat.le_of_ble_eq_true rfl) (fun v I2 J2 H locs hp hI => ?_)
    obtain ⟨hv, hI2, hJ2⟩ := hp
    subst hv
    rw [hI2, hJ2] at hI
    refine W.eq (g2 := F0 m 19 ls [.long (x_sum n eq I J i 22)]) rfl ?_
    refine lv_aload_n hx hb dX1_solutionHolds_19 rfl (lv_at hl 1 rfl) ?_
    refine fl_get1 X hI dX1_solutionHolds_20 (by omega) 1 (by decide) wf_X1_14 rfl ?_
    refine lv_iload_n hx hb dX1_solutionHolds_23 rfl (lv_at hl 0 rfl) ?_
    refine fn_iald (k := 5) X hI dX1_solutionHolds_24 (by omega) rfl (show i < 3 by omega) ?_
    refine lv_i2l hx hb dX1_solutionHolds_25 rfl ?_
    refine fl_lc_eq (tgt := 32) hx hb dX1_solutionHolds_26 dX1_solutionHolds_27 (by decide) (fun c2 => ?_) (fun c2 => ?_)
    · refine fn_iinc (a := i) (lv' := [(1, .int (nI (i + 1))), (0, .ref (ad 0))]) X dX1_solutionHolds_32 hl (k := 0) rfl (by decide) rfl (fun ls hl => ?_)
      refine lv_goto (tgt := 2) hx hb dX1_solutionHolds_35 (by decide) ?_
      exact ih (i + 1) _ _ _ (by omega) hI (lv_sub hl [0, 1] rfl) (by have h9 := hF; simp only [x_solh] at h9; rw [if_pos c2] at h9; exact h9)
    · refine lv_iconst (v := nI 0) hx hb dX1_solutionHolds_30 (by decide) ?_
      exact fl_zret X hr hlk hI dX1_solutionHolds_31 (by decide) (by have h9 := hF; simp only [x_solh] at h9; rw [if_neg c2] at h9; exact h9)
theorem m_X1_solutionHolds (D : va_G) (dA : Nat → ClassId) (ad : Nat → Nat) (N : Nat) (I : fl_TI) (J : fl_TJ) {n eq : Nat} (hN : 30 ≤ N) (hn : I 0 2 = nI n) (hn4 : n ≤ 4) (he : I 0 3 = nI eq) (he3 : eq ≤ 3) : FM yX1_solutionHolds cX1_solutionHolds 2 (some .boolean) 1 D dA ad N [.ref (ad 0)] I J (fun v I' J' => v = some (.int (x_solh n eq I J eq 0)) ∧ I' = I ∧ J' = J) := by
  refine FM.ofW RX1 rfl (by decide +kernel) (Nat.le_of_ble_eq_true rfl) ?_
  intro p l e s m args below meth c ls X hr hlk hI hl
  have hx := X.1
  have hb := X.2.1
  have hl : lv_has ls 2 [(0, .ref (ad 0))] := hl
  refine lv_iconst (v := nI 0) hx hb dX1_solutionHolds_0 (by decide) ?_
  refine lv_istore_n (lv' := [(1, .int (nI 0)), (0, .ref (ad 0))]) hx hb dX1_solutionHolds_1 rfl hl (by decide) rfl (fun ls hl => ?_)
  exact lp_solh X hr hlk hN hn hn4 he he3 ⟨by decide, by decide⟩ eq 0 _ _ _ (Nat.zero_add _) hI hl ⟨rfl, rfl, rfl⟩
theorem lp_rowh {p : Program} {l : Launch} {e : Env} {R : Room} {s : State} {m : MethodId} {args : Array Value} {below : List Frame} {meth : Method} {c : Code} {D : va_G} {dA : Nat → ClassId} {ad : Nat → Nat} {N : Nat} {A : Nat → Prop} {I : fl_TI} {J : fl_TJ} {post : Option Value → fl_TI → fl_TJ → Prop} (X : CallFix p m c cX1_rowHolds 3 s args fl_tb RX1) (hr : meth.sig.returnType = some .boolean) (hlk : meth.locks = false) {n eq a : Nat} (hN : 30 ≤ N) (hn : I 0 2 = nI n) (hn4 : n ≤ 4) (he : I 0 3 = nI eq) (he3 : eq ≤ 3) (ha4 : a < 4) (hR : 0 + 1 ≤ R.frames ∧ 8 + (6 + 11) + 40 * 0 ≤ R.locals) :
    ∀ (k i : Nat) (H : Heap) (locs : List Loc) (ls : Array Slot), i + k = eq → fl_I D dA ad N I J A s s.heap H locs → lv_has ls 3 [(2, .int (nI i)), (0, .ref (ad 0)), (1, .int (nI a))] → post (some (.int (x_rowh n eq I J a k i))) I J → W p l e R s m args below meth c H locs 0 0 (MQ below (fl_Q D dA ad N post A) args s 0 0 A) (F0 m 2 ls []) := by
  have hx := X.1
  have hb := X.2.1
  intro k
  induction k with
  | zero =>
    intro i H locs ls hk hI hl hF
    have hk : eq = i := by omega
    subst hk
    refine lv_iload_n hx hb dX1_rowHolds_2 rfl (lv_at hl 0 rfl) ?_
    refine lv_aload_n hx hb dX1_rowHolds_3 rfl (lv_at hl 1 rfl) ?_
    refine fl_get1 X hI dX1_rowHolds_4 (by omega) 3 (by decide) wf_X1_46 rfl ?_
    refine W.eq (g2 := F0 m 7 ls [.int (nI eq), .int (nI eq)]) (by rw [he]) ?_
    refine fn_icmp_ge X (tgt := 44) dX1_rowHolds_7 (by decide) (by omega) (by omega) (fun c1 => ?_) (fun c1 => absurd c1 (by omega))
    refine lv_iconst (v := nI 1) hx hb dX1_rowHolds_44 (by decide) ?_
    exact fl_zret X hr hlk hI dX1_rowHolds_45 (by decide) hF
  | succ k ih =>
    intro i H locs ls hk hI hl hF
    refine lv_iload_n hx hb dX1_rowHolds_2 rfl (lv_at hl 0 rfl) ?_
    refine lv_aload_n hx hb dX1_rowHolds_3 rfl (lv_at hl 1 rfl) ?_
    refine fl_get1 X hI dX1_rowHolds_4 (by omega) 3 (by decide) wf_X1_46 rfl ?_
    refine W.eq (g2 := F0 m 7 ls [.int (nI eq), .int (nI i)]) (by rw [he]) ?_
    refine fn_icmp_ge X (tgt := 44) dX1_rowHolds_7 (by decide) (by omega) (by omega) (fun c1 => absurd c1 (by omega)) (fun c1 => ?_)
    refine lv_aload_n hx hb dX1_rowHolds_10 rfl (lv_at hl 1 rfl) ?_
    refine lv_iload_n hx hb dX1_rowHolds_11 rfl (lv_at hl 0 rfl) ?_
    refine lv_aload_n hx hb dX1_rowHolds_12 rfl (lv_at hl 1 rfl) ?_
    refine fl_get1 X hI dX1_rowHolds_13 (by omega) 4 (by decide) wf_X1_23 rfl ?_
    refine lv_iload_n hx hb dX1_rowHolds_16 rfl (lv_at hl 2 rfl) ?_
    refine fl_callV (k := 6) (As := [.int (nI a)]) (rest := [.int (nI i), .ref (ad 0)]) X hI dX1_rowHolds_17 (m_X0_row D dA ad N I J hN lat6 (i := a) (by omega)) (by omega) (fl_c_4 rfl) rfl rfl wc_yX0_row wm_X1_191 wi_yX0_row wl_yX0_row wn_X0 hd_yX0_row rfl ⟨by first | decide | omega, by first | decide | omega⟩ hl.1 (Nat.le_of_ble_eq_true rfl) (fun v I2 J2 H locs hp hI => ?_)
    obtain ⟨hv, hI2, hJ2⟩ := hp
    subst hv
    rw [hI2, hJ2] at hI
    refine W.eq (g2 := F0 m 20 ls [.ref (ad (6 + 2 + a)), .int (nI i), .ref (ad 0)]) rfl ?_
    refine fl_callV (k := 0) (As := [.int (nI i), .ref (ad (6 + 2 + a))]) (rest := []) X hI dX1_rowHolds_20 (m_X1_sumOf D dA ad N I J hN hn hn4 he he3 (a := i) (q := 6 + 2 + a) (by omega) (by omega) (lat_k2 lat6 (by omega)) (lat_n2 lat6 (by omega))) (by omega) fl_c_5 rfl rfl wc_yX1_sumOfUnknowns wm_X1_187 wi_yX1_sumOfUnknowns wl_yX1_sumOfUnknowns wn_X1 hd_yX1_sumOfUnknowns rfl ⟨by first | decide | omega, by first | decide | omega⟩ hl.1 (Nat.le_of_ble_eq_true rfl) (fun v I2 J2 H locs hp hI => ?_)
    obtain ⟨hv, hI2, hJ2⟩ := hp
    subst hv
    rw [hI2, hJ2] at hI
    refine W.eq (g2 := F0 m 23 ls [.long (x_sum n eq I J i (6 + 2 + a))]) rfl ?_
    refine lv_aload_n hx hb dX1_rowHolds_23 rfl (lv_at hl 1 rfl) ?_
    refine fl_get1 X hI dX1_rowHolds_24 (by omega) 4 (by decide) wf_X1_23 rfl ?_
    refine lv_iload_n hx hb dX1_rowHolds_27 rfl (lv_at hl 2 rfl) ?_
    refine lv_iload_n hx hb dX1_rowHolds_28 rfl (lv_at hl 0 rfl) ?_
    refine fl_callV (k := 6) (As := [.int (nI a), .int (nI i)]) (rest := [.long (x_sum n eq I J i (6 + 2 + a))]) X hI dX1_rowHolds_29 (m_X0_at D dA ad N I J hN lat6 (i := a) (j := i) (by omega) (by omega)) (by omega) (fl_c_4 rfl) rfl rfl wc_yX0_at wm_X1_79 wi_yX0_at wl_yX0_at wn_X0 hd_yX0_at rfl ⟨by first | decide | omega, by first | decide | omega⟩ hl.1 (Nat.le_of_ble_eq_true rfl) (fun v I2 J2 H locs hp hI => ?_)
    obtain ⟨hv, hI2, hJ2⟩ := hp
    subst hv
    rw [hI2, hJ2] at hI
    refine W.eq (g2 := F0 m 32 ls [.long (J (6 + 2 + a) i), .long (x_sum n eq I J i (6 + 2 + a))]) rfl ?_
    refine fl_lc_eq (tgt := 38) hx hb dX1_rowHolds_32 dX1_rowHolds_33 (by decide) (fun c2 => ?_) (fun c2 => ?_)
    · refine fn_iinc (a := i) (lv' := [(2, .int (nI (i + 1))), (0, .ref (ad 0)), (1, .int (nI a))]) X dX1_rowHolds_38 hl (k := 0) rfl (by decide) rfl (fun ls hl => ?_)
      refine lv_goto (tgt := 2) hx hb dX1_rowHolds_41 (by decide) ?_
      exact ih (i + 1) _ _ _ (by omega) hI (lv_sub hl [0, 1, 2] rfl) (by have h9 := hF; simp only [x_rowh] at h9; rw [if_pos c2] at h9; exact h9)
    · refine lv_iconst (v := nI 0) hx hb dX1_rowHolds_36 (by decide) ?_
      exact fl_zret X hr hlk hI dX1_rowHolds_37 (by decide) (by have h9 := hF; simp only [x_rowh] at h9; rw [if_neg c2] at h9; exact h9)
theorem m_X1_rowHolds (D : va_G) (dA : Nat → ClassId) (ad : Nat → Nat) (N : Nat) (I : fl_TI) (J : fl_TJ) {n eq a : Nat} (hN : 30 ≤ N) (hn : I 0 2 = nI n) (hn4 : n ≤ 4) (he : I 0 3 = nI eq) (he3 : eq ≤ 3) (ha4 : a < 4) : FM yX1_rowHolds cX1_rowHolds 3 (some .boolean) 1 D dA ad N [.ref (ad 0), .int (nI a)] I J (fun v I' J' => v = some (.int (x_rowh n eq I J a eq 0)) ∧ I' = I ∧ J' = J) := by
  refine FM.ofW RX1 rfl (by decide +kernel) (Nat.le_of_ble_eq_true rfl) ?_
  intro p l e s m args below meth c ls X hr hlk hI hl
  have hx := X.1
  have hb := X.2.1
  have hl : lv_has ls 3 [(0, .ref (ad 0)), (1, .int (nI a))] := hl
  refine lv_iconst (v := nI 0) hx hb dX1_rowHolds_0 (by decide) ?_
  refine lv_istore_n (lv' := [(2, .int (nI 0)), (0, .ref (ad 0)), (1, .int (nI a))]) hx hb dX1_rowHolds_1 rfl hl (by decide) rfl (fun ls hl => ?_)
  exact lp_rowh X hr hlk hN hn hn4 he he3 ha4 ⟨by decide, by decide⟩ eq 0 _ _ _ (Nat.zero_add _) hI (lv_sub hl [0, 1, 2] rfl) ⟨rfl, rfl, rfl⟩
end
section
/-! check, modulo -/
theorem lp_check {p : Program} {l : Launch} {e : Env} {R : Room} {s : State} {m : MethodId} {args : Array Value} {below : List Frame} {meth : Method} {c : Code} {Q : State → Prop} {D : va_G} {dA : Nat → ClassId} {ad : Nat → Nat} {N : Nat} {A : Nat → Prop} {H0 : Heap} {I : fl_TI} {J : fl_TJ} {zz9 : Nat} (X : CallFix p m c cX1_check 3 s args fl_tb RX1) {n eq : Nat} (hN : 30 ≤ N) (hn : I 0 2 = nI n) (hn4 : n ≤ 4) (he : I 0 3 = nI eq) (he3 : eq ≤ 3) (hrow : ∀ i, i < n → x_rowh n eq I J i eq 0 = nI 1) (hR : 1 + 1 ≤ R.frames ∧ 8 + (3 + 11) + 40 * 1 ≤ R.locals)
    (kx : ∀ (H : Heap) (locs : List Loc) (ls : Array Slot), fl_I D dA ad N I J A s H0 H locs → lv_has ls 3 [(2, .int (nI n)), (1, .int (nI 1)), (0, .ref (ad 0))] → W p l e R s m args below meth c H locs 0 0 Q (F0 m 55 ls [])) :
    ∀ (k i : Nat) (zz : Nat) (H : Heap) (locs : List Loc) (ls : Array Slot), i + k = n → fl_I D dA ad N I J A s H0 H locs → lv_has ls 3 [(2, .int (nI i)), (1, .int (nI 1)), (0, .ref (ad 0))] → fl_it (fun _ z => z) k i zz = zz9 → W p l e R s m args below meth c H locs 0 0 Q (F0 m 23 ls []) := by
  have hx := X.1
  have hb := X.2.1
  intro k
  induction k with
  | zero =>
    intro i zz H locs ls hk hI hl hF
    have hF : zz = zz9 := hF
    subst hF
    have hk : n = i := by omega
    subst hk
    refine lv_iload_n hx hb dX1_check_23 rfl (lv_at hl 0 rfl) ?_
    refine lv_aload_n hx hb dX1_check_24 rfl (lv_at hl 2 rfl) ?_
    refine fl_get1 X hI dX1_check_25 (by omega) 2 (by decide) wf_X1_42 rfl ?_
    refine W.eq (g2 := F0 m 28 ls [.int (nI n), .int (nI n)]) (by rw [hn]) ?_
    refine fn_icmp_ge X (tgt := 55) dX1_check_28 (by decide) (by omega) (by omega) (fun c1 => ?_) (fun c1 => absurd c1 (by omega))
    exact kx _ _ _ hI (lv_sub hl [0, 1, 2] rfl)
  | succ k ih =>
    intro i zz H locs ls hk hI hl hF
    refine lv_iload_n hx hb dX1_check_23 rfl (lv_at hl 0 rfl) ?_
    refine lv_aload_n hx hb dX1_check_24 rfl (lv_at hl 2 rfl) ?_
    refine fl_get1 X hI dX1_check_25 (by omega) 2 (by decide) wf_X1_42 rfl ?_
    refine W.eq (g2 := F0 m 28 ls [.int (nI n), .int (nI i)]) (by rw [hn]) ?_
    refine fn_icmp_ge X (tgt := 55) dX1_check_28 (by decide) (by omega) (by omega) (fun c1 => absurd c1 (by omega)) (fun c1 => ?_)
    refine lv_iload_n hx hb dX1_check_31 rfl (lv_at hl 1 rfl) ?_
    refine fn_if_eq X (tgt := 47) dX1_check_32 (by decide) (by omega) (fun c2 => absurd c2 (by omega)) (fun c2 => ?_)
    refine lv_aload_n hx hb dX1_check_35 rfl (lv_at hl 2 rfl) ?_
    refine lv_iload_n hx hb dX1_check_36 rfl (lv_at hl 0 rfl) ?_
    refine fl_callV (k := 0) (As := [.int (nI i)]) (rest := []) X hI dX1_check_37 (m_X1_rowHolds D dA ad N I J hN hn hn4 he he3 (a := i) (by omega)) (by omega) fl_c_5 rfl rfl wc_yX1_rowHolds wm_X1_121 wi_yX1_rowHolds wl_yX1_rowHolds wn_X1 hd_yX1_rowHolds rfl ⟨by first | decide | omega, by first | decide | omega⟩ hl.1 (Nat.le_of_ble_eq_true rfl) (fun v I2 J2 H locs hp hI => ?_)
    obtain ⟨hv, hI2, hJ2⟩ := hp
    subst hv
    rw [hI2, hJ2] at hI
    refine W.eq (g2 := F0 m 40 ls [.int (nI 1)]) (by rw [hrow _ (by omega)]; rfl) ?_
    refine fn_if_eq X (tgt := 47) dX1_check_40 (by decide) (by omega) (fun c3 => absurd c3 (by omega)) (fun c3 => ?_)
    refine lv_iconst (v := nI 1) hx hb dX1_check_43 (by decide) ?_
    refine lv_goto (tgt := 48) hx hb dX1_check_44 (by decide) ?_
    refine lv_istore_n (lv' := [(1, .int (nI 1)), (2, .int (nI i)), (0, .ref (ad 0))]) hx hb dX1_check_48 rfl hl (by decide) rfl (fun ls hl => ?_)
    refine fn_iinc (a := i) (lv' := [(2, .int (nI (i + 1))), (1, .int (nI 1)), (0, .ref (ad 0))]) X dX1_check_49 hl (k := 1) rfl (by decide) rfl (fun ls hl => ?_)
    refine lv_goto (tgt := 23) hx hb dX1_check_52 (by decide) ?_
    exact ih (i + 1) _ _ _ _ (by omega) hI (lv_sub hl [0, 1, 2] rfl) hF
theorem m_X1_check (D : va_G) (dA : Nat → ClassId) (ad : Nat → Nat) (N : Nat) (I : fl_TI) (J : fl_TJ) (hN : 30 ≤ N) {n eq rr rk : Nat} (ok : x_ok I n eq rr rk) (hrow : ∀ i, i < n → x_rowh n eq I J i eq 0 = nI 1) (hsol : I 0 8 = -1 → x_solh n eq I J eq 0 = nI 1) : FM yX1_check cX1_check 3 (some .int) 2 D dA ad N [.ref (ad 0)] I J (fun v I' J' => v = some (.int (nI 1)) ∧ I' = I ∧ J' = J) := by
  refine FM.ofW RX1 rfl (by decide +kernel) (Nat.le_of_ble_eq_true rfl) ?_
  intro p l e s m args below meth c ls X hr hlk hI hl
  have hx := X.1
  have hb := X.2.1
  have hl : lv_has ls 3 [(0, .ref (ad 0))] := hl
  obtain ⟨hn, ⟨hn1, hn4⟩, he, he3, hrr, hrn, hh, hw, hrk, hrk4, hld⟩ := ok
  refine lv_aload_n hx hb dX1_check_0 rfl (lv_at hl 0 rfl) ?_
  refine fl_get1 X hI dX1_check_1 (by omega) 8 (by decide) wf_X1_63 rfl ?_
  refine lv_iconst (v := (-1)) hx hb dX1_check_4 (by decide) ?_
  refine lv_icmp_ne (tgt := 15) hx hb dX1_check_5 (by decide) (fun c1 => ?_) (fun c1 => ?_)
  · refine lv_iconst (v := nI 1) hx hb dX1_check_15 (by decide) ?_
    refine lv_goto (tgt := 20) hx hb dX1_check_16 (by decide) ?_
    refine lv_istore_n (lv' := [(1, .int (nI 1)), (0, .ref (ad 0))]) hx hb dX1_check_20 rfl hl (by decide) rfl (fun ls hl => ?_)
    refine lv_iconst (v := nI 0) hx hb dX1_check_21 (by decide) ?_
    refine lv_istore_n (lv' := [(2, .int (nI 0)), (1, .int (nI 1)), (0, .ref (ad 0))]) hx hb dX1_check_22 rfl hl (by decide) rfl (fun ls hl => ?_)
    refine lp_check X hN hn hn4 he he3 hrow ⟨by decide, by decide⟩ (zz9 := fl_it (fun _ z => z) n 0 0) (fun H locs ls hI hl => ?_) n 0 0 _ _ _ (Nat.zero_add _) hI (lv_sub hl [0, 1, 2] rfl) rfl
    refine lv_iload_n hx hb dX1_check_55 rfl (lv_at hl 1 rfl) ?_
    refine fn_if_eq X (tgt := 63) dX1_check_56 (by decide) (by omega) (fun c2 => absurd c2 (by omega)) (fun c2 => ?_)
    refine lv_iconst (v := nI 1) hx hb dX1_check_59 (by decide) ?_
    refine lv_goto (tgt := 64) hx hb dX1_check_60 (by decide) ?_
    exact fl_iret X hr hlk hI dX1_check_64 ⟨rfl, rfl, rfl⟩
  · refine lv_aload_n hx hb dX1_check_8 rfl (lv_at hl 0 rfl) ?_
    refine fl_callV (k := 0) (As := []) (rest := []) X hI dX1_check_9 (m_X1_solutionHolds D dA ad N I J hN hn hn4 he he3) (by omega) fl_c_5 rfl rfl wc_yX1_solutionHolds wm_X1_117 wi_yX1_solutionHolds wl_yX1_solutionHolds wn_X1 hd_yX1_solutionHolds rfl ⟨by first | decide | omega, by first | decide | omega⟩ hl.1 (Nat.le_of_ble_eq_true rfl) (fun v I2 J2 H locs hp hI => ?_)
    obtain ⟨hv, hI2, hJ2⟩ := hp
    subst hv
    rw [hI2, hJ2] at hI
    refine W.eq (g2 := F0 m 12 ls [.int (nI 1)]) (by rw [hsol (by assumption)]; rfl) ?_
    refine fn_if_eq X (tgt := 19) dX1_check_12 (by decide) (by omega) (fun c3 => absurd c3 (by omega)) (fun c3 => ?_)
    refine lv_iconst (v := nI 1) hx hb dX1_check_15 (by decide) ?_
    refine lv_goto (tgt := 20) hx hb dX1_check_16 (by decide) ?_
    refine lv_istore_n (lv' := [(1, .int (nI 1)), (0, .ref (ad 0))]) hx hb dX1_check_20 rfl hl (by decide) rfl (fun ls hl => ?_)
    refine lv_iconst (v := nI 0) hx hb dX1_check_21 (by decide) ?_
    refine lv_istore_n (lv' := [(2, .int (nI 0)), (1, .int (nI 1)), (0, .ref (ad 0))]) hx hb dX1_check_22 rfl hl (by decide) rfl (fun ls hl => ?_)
    refine lp_check X hN hn hn4 he he3 hrow ⟨by decide, by decide⟩ (zz9 := fl_it (fun _ z => z) n 0 0) (fun H locs ls hI hl => ?_) n 0 0 _ _ _ (Nat.zero_add _) hI (lv_sub hl [0, 1, 2] rfl) rfl
    refine lv_iload_n hx hb dX1_check_55 rfl (lv_at hl 1 rfl) ?_
    refine fn_if_eq X (tgt := 63) dX1_check_56 (by decide) (by omega) (fun c4 => absurd c4 (by omega)) (fun c4 => ?_)
    refine lv_iconst (v := nI 1) hx hb dX1_check_59 (by decide) ?_
    refine lv_goto (tgt := 64) hx hb dX1_check_60 (by decide) ?_
    exact fl_iret X hr hlk hI dX1_check_64 ⟨rfl, rfl, rfl⟩
def i_r0 (eq rr : Nat) (I : fl_TI) : fl_TI := i_clear 13 (nI (rr + eq)) (nI eq) I
def j_rem1 (rr a : Nat) (J : fl_TJ) : fl_TJ := fl_it (fun i J => fl_up J (13 + 2 + i) a (J (6 + 2 + i) a)) rr 0 J
def j_rem (eq rr mm : Nat) (J : fl_TJ) : fl_TJ := fl_it (fun a J => fl_up (j_rem1 rr a J) (13 + 2 + (rr + a)) a ((nI mm).toInt64)) eq 0 J
def x_r (eq rr mm : Nat) (I : fl_TI) (J : fl_TJ) : Nat × fl_TI × fl_TJ := b_form 13 6 (rr + eq) eq eq 0 (0, i_r0 eq rr I, j_rem eq rr mm (j_clear 13 (rr + eq) J))
theorem lp_rem1 {p : Program} {l : Launch} {e : Env} {R : Room} {s : State} {m : MethodId} {args : Array Value} {below : List Frame} {meth : Method} {c : Code} {Q : State → Prop} {D : va_G} {dA : Nat → ClassId} {ad : Nat → Nat} {N : Nat} {A : Nat → Prop} {H0 : Heap} {I : fl_TI} {J9 : fl_TJ} (X : CallFix p m c cX1_formRemainders 4 s args fl_tb RX1) {eq rr a mm : Nat} (hN : 30 ≤ N) (he : I 0 3 = nI eq) (he3 : eq ≤ 3) (hrr : I 0 6 = nI rr) (hre : rr ≤ eq) (ha : a < eq) (hR : 0 + 1 ≤ R.frames ∧ 8 + (5 + 11) + 40 * 0 ≤ R.locals)
    (kx : ∀ (H : Heap) (locs : List Loc) (ls : Array Slot), fl_I D dA ad N I J9 A s H0 H locs → lv_has ls 4 [(3, .int (nI rr)), (2, .int (nI a)), (0, .ref (ad 0)), (1, .int (nI mm))] → W p l e R s m args below meth c H locs 0 0 Q (F0 m 64 ls [])) :
    ∀ (k i : Nat) (J : fl_TJ) (H : Heap) (locs : List Loc) (ls : Array Slot), i + k = rr → fl_I D dA ad N I J A s H0 H locs → lv_has ls 4 [(3, .int (nI i)), (2, .int (nI a)), (0, .ref (ad 0)), (1, .int (nI mm))] → fl_it (fun i J => fl_up J (13 + 2 + i) a (J (6 + 2 + i) a)) k i J = J9 → W p l e R s m args below meth c H locs 0 0 Q (F0 m 32 ls []) := by
  have hx := X.1
  have hb := X.2.1
  intro k
  induction k with
  | zero =>
    intro i J H locs ls hk hI hl hF
    have hF : J = J9 := hF
    subst hF
    have hk : rr = i := by omega
    subst hk
    refine lv_iload_n hx hb dX1_formRemainders_32 rfl (lv_at hl 0 rfl) ?_
    refine lv_aload_n hx hb dX1_formRemainders_33 rfl (lv_at hl 2 rfl) ?_
    refine fl_get1 X hI dX1_formRemainders_34 (by omega) 6 (by decide) wf_X1_76 rfl ?_
    refine W.eq (g2 := F0 m 37 ls [.int (nI rr), .int (nI rr)]) (by rw [hrr]) ?_
    refine fn_icmp_ge X (tgt := 64) dX1_formRemainders_37 (by decide) (by omega) (by omega) (fun c1 => ?_) (fun c1 => absurd c1 (by omega))
    exact kx _ _ _ hI (lv_sub hl [0, 1, 2, 3] rfl)
  | succ k ih =>
    intro i J H locs ls hk hI hl hF
    refine lv_iload_n hx hb dX1_formRemainders_32 rfl (lv_at hl 0 rfl) ?_
    refine lv_aload_n hx hb dX1_formRemainders_33 rfl (lv_at hl 2 rfl) ?_
    refine fl_get1 X hI dX1_formRemainders_34 (by omega) 6 (by decide) wf_X1_76 rfl ?_
    refine W.eq (g2 := F0 m 37 ls [.int (nI rr), .int (nI i)]) (by rw [hrr]) ?_
    refine fn_icmp_ge X (tgt := 64) dX1_formRemainders_37 (by decide) (by omega) (by omega) (fun c1 => absurd c1 (by omega)) (fun c1 => ?_)
    refine lv_aload_n hx hb dX1_formRemainders_40 rfl (lv_at hl 2 rfl) ?_
    refine fl_get1 X hI dX1_formRemainders_41 (by omega) 5 (by decide) wf_X1_27 rfl ?_
    refine lv_iload_n hx hb dX1_formRemainders_44 rfl (lv_at hl 0 rfl) ?_
    refine lv_iload_n hx hb dX1_formRemainders_45 rfl (lv_at hl 1 rfl) ?_
    refine lv_aload_n hx hb dX1_formRemainders_46 rfl (lv_at hl 2 rfl) ?_
    refine fl_get1 X hI dX1_formRemainders_47 (by omega) 4 (by decide) wf_X1_23 rfl ?_
    refine lv_iload_n hx hb dX1_formRemainders_50 rfl (lv_at hl 0 rfl) ?_
    refine lv_iload_n hx hb dX1_formRemainders_51 rfl (lv_at hl 1 rfl) ?_
    refine fl_callV (k := 6) (As := [.int (nI i), .int (nI a)]) (rest := [.int (nI a), .int (nI i), .ref (ad 13)]) X hI dX1_formRemainders_52 (m_X0_at D dA ad N I J hN lat6 (i := i) (j := a) (by omega) (by omega)) (by omega) (fl_c_4 rfl) rfl rfl wc_yX0_at wm_X1_79 wi_yX0_at wl_yX0_at wn_X0 hd_yX0_at rfl ⟨by first | decide | omega, by first | decide | omega⟩ hl.1 (Nat.le_of_ble_eq_true rfl) (fun v I2 J2 H locs hp hI => ?_)
    obtain ⟨hv, hI2, hJ2⟩ := hp
    subst hv
    rw [hI2, hJ2] at hI
    refine W.eq (g2 := F0 m 55 ls [.long (J (6 + 2 + i) a), .int (nI a), .int (nI i), .ref (ad 13)]) rfl ?_
    refine fl_callV (k := 13) (As := [.int (nI i), .int (nI a), .long (J (6 + 2 + i) a)]) (rest := []) X hI dX1_formRemainders_55 (m_X0_put D dA ad N I J hN lat13 (J (6 + 2 + i) a) (by omega) (by omega)) (by omega) (fl_c_4 rfl) rfl rfl wc_yX0_put wm_X1_131 wi_yX0_put wl_yX0_put wn_X0 hd_yX0_put rfl ⟨by first | decide | omega, by first | decide | omega⟩ hl.1 (Nat.le_of_ble_eq_true rfl) (fun v I2 J2 H locs hp hI => ?_)
    obtain ⟨hv, hI2, hJ2⟩ := hp
    subst hv
    rw [hI2, hJ2] at hI
    refine W.eq (g2 := F0 m 58 ls []) rfl ?_
    refine fn_iinc (a := i) (lv' := [(3, .int (nI (i + 1))), (2, .int (nI a)), (0, .ref (ad 0)), (1, .int (nI mm))]) X dX1_formRemainders_58 hl (k := 0) rfl (by decide) rfl (fun ls hl => ?_)
    refine lv_goto (tgt := 32) hx hb dX1_formRemainders_61 (by decide) ?_
    exact ih (i + 1) _ _ _ _ (by omega) hI (lv_sub hl [0, 1, 2, 3] rfl) hF
theorem lp_rem {p : Program} {l : Launch} {e : Env} {R : Room} {s : State} {m : MethodId} {args : Array Value} {below : List Frame} {meth : Method} {c : Code} {Q : State → Prop} {D : va_G} {dA : Nat → ClassId} {ad : Nat → Nat} {N : Nat} {A : Nat → Prop} {H0 : Heap} {I : fl_TI} {J9 : fl_TJ} (X : CallFix p m c cX1_formRemainders 4 s args fl_tb RX1) {eq rr mm : Nat} (hN : 30 ≤ N) (he : I 0 3 = nI eq) (he3 : eq ≤ 3) (hrr : I 0 6 = nI rr) (hre : rr ≤ eq) (hR : 0 + 1 ≤ R.frames ∧ 8 + (5 + 11) + 40 * 0 ≤ R.locals)
    (kx : ∀ (H : Heap) (locs : List Loc) (ls : Array Slot), fl_I D dA ad N I J9 A s H0 H locs → lv_has ls 4 [(2, .int (nI eq)), (0, .ref (ad 0)), (1, .int (nI mm))] → W p l e R s m args below meth c H locs 0 0 Q (F0 m 86 ls [])) :
    ∀ (k i : Nat) (J : fl_TJ) (H : Heap) (locs : List Loc) (ls : Array Slot), i + k = eq → fl_I D dA ad N I J A s H0 H locs → lv_has ls 4 [(2, .int (nI i)), (0, .ref (ad 0)), (1, .int (nI mm))] → fl_it (fun a J => fl_up (j_rem1 rr a J) (13 + 2 + (rr + a)) a ((nI mm).toInt64)) k i J = J9 → W p l e R s m args below meth c H locs 0 0 Q (F0 m 22 ls []) := by
  have hx := X.1
  have hb := X.2.1
  intro k
  induction k with
  | zero =>
    intro i J H locs ls hk hI hl hF
    have hF : J = J9 := hF
    subst hF
    have hk : eq = i := by omega
    subst hk
    refine lv_iload_n hx hb dX1_formRemainders_22 rfl (lv_at hl 0 rfl) ?_
    refine lv_aload_n hx hb dX1_formRemainders_23 rfl (lv_at hl 1 rfl) ?_
    refine fl_get1 X hI dX1_formRemainders_24 (by omega) 3 (by decide) wf_X1_46 rfl ?_
    refine W.eq (g2 := F0 m 27 ls [.int (nI eq), .int (nI eq)]) (by rw [he]) ?_
    refine fn_icmp_ge X (tgt := 86) dX1_formRemainders_27 (by decide) (by omega) (by omega) (fun c1 => ?_) (fun c1 => absurd c1 (by omega))
    exact kx _ _ _ hI (lv_sub hl [0, 1, 2] rfl)
  | succ k ih =>
    intro i J H locs ls hk hI hl hF
    refine lv_iload_n hx hb dX1_formRemainders_22 rfl (lv_at hl 0 rfl) ?_
    refine lv_aload_n hx hb dX1_formRemainders_23 rfl (lv_at hl 1 rfl) ?_
    refine fl_get1 X hI dX1_formRemainders_24 (by omega) 3 (by decide) wf_X1_46 rfl ?_
    refine W.eq (g2 := F0 m 27 ls [.int (nI eq), .int (nI i)]) (by rw [he]) ?_
    refine fn_icmp_ge X (tgt := 86) dX1_formRemainders_27 (by decide) (by omega) (by omega) (fun c1 => absurd c1 (by omega)) (fun c1 => ?_)
    refine lv_iconst (v := nI 0) hx hb dX1_formRemainders_30 (by decide) ?_
    refine lv_istore_n (lv' := [(3, .int (nI 0)), (2, .int (nI i)), (0, .ref (ad 0)), (1, .int (nI mm))]) hx hb dX1_formRemainders_31 rfl hl (by decide) rfl (fun ls hl => ?_)
    refine lp_rem1 X hN he he3 hrr hre (by omega) hR (J9 := j_rem1 rr i J) (fun H locs ls hI hl => ?_) rr 0 _ _ _ _ (Nat.zero_add _) hI (lv_sub hl [0, 1, 2, 3] rfl) rfl
    refine lv_aload_n hx hb dX1_formRemainders_64 rfl (lv_at hl 2 rfl) ?_
    refine fl_get1 X hI dX1_formRemainders_65 (by omega) 5 (by decide) wf_X1_27 rfl ?_
    refine lv_aload_n hx hb dX1_formRemainders_68 rfl (lv_at hl 2 rfl) ?_
    refine fl_get1 X hI dX1_formRemainders_69 (by omega) 6 (by decide) wf_X1_76 rfl ?_
    refine W.eq (g2 := F0 m 72 ls [.int (nI rr), .ref (ad 13)]) (by rw [hrr]) ?_
    refine lv_iload_n hx hb dX1_formRemainders_72 rfl (lv_at hl 1 rfl) ?_
    refine fn_iadd X dX1_formRemainders_73 ?_
    refine lv_iload_n hx hb dX1_formRemainders_74 rfl (lv_at hl 1 rfl) ?_
    refine lv_iload_n hx hb dX1_formRemainders_75 rfl (lv_at hl 3 rfl) ?_
    refine lv_i2l hx hb dX1_formRemainders_76 rfl ?_
    refine fl_callV (k := 13) (As := [.int (nI (rr + i)), .int (nI i), .long ((nI mm).toInt64)]) (rest := []) X hI dX1_formRemainders_77 (m_X0_put D dA ad N I (j_rem1 rr i J) hN lat13 ((nI mm).toInt64) (by omega) (by omega)) (by omega) (fl_c_4 rfl) rfl rfl wc_yX0_put wm_X1_131 wi_yX0_put wl_yX0_put wn_X0 hd_yX0_put rfl ⟨by first | decide | omega, by first | decide | omega⟩ hl.1 (Nat.le_of_ble_eq_true rfl) (fun v I2 J2 H locs hp hI => ?_)
    obtain ⟨hv, hI2, hJ2⟩ := hp
    subst hv
    rw [hI2, hJ2] at hI
    refine W.eq (g2 := F0 m 80 ls []) rfl ?_
    refine fn_iinc (a := i) (lv' := [(2, .int (nI (i + 1))), (3, .int (nI rr)), (0, .ref (ad 0)), (1, .int (nI mm))]) X dX1_formRemainders_80 hl (k := 1) rfl (by decide) rfl (fun ls hl => ?_)
    refine lv_goto (tgt := 22) hx hb dX1_formRemainders_83 (by decide) ?_
    exact ih (i + 1) _ _ _ _ (by omega) hI (lv_sub hl [0, 2, 3] rfl) hF
theorem m_X1_formRemainders (D : va_G) (dA : Nat → ClassId) (ad : Nat → Nat) (N : Nat) (I : fl_TI) (J : fl_TJ) {eq rr mm : Nat} (hN : 30 ≤ N) (he : I 0 3 = nI eq) (he3 : eq ≤ 3) (hrr : I 0 6 = nI rr) (hre : rr ≤ eq) : FM yX1_formRemainders cX1_formRemainders 4 none 4 D dA ad N [.ref (ad 0), .int (nI mm)] I J (fun v I' J' => v = none ∧ I' = (x_r eq rr mm I J).2.1 ∧ J' = (x_r eq rr mm I J).2.2) := by
  refine FM.ofW RX1 rfl (by decide +kernel) (Nat.le_of_ble_eq_true rfl) ?_
  intro p l e s m args below meth c ls X hr hlk hI hl
  have hx := X.1
  have hb := X.2.1
  have hl : lv_has ls 4 [(0, .ref (ad 0)), (1, .int (nI mm))] := hl
  refine lv_aload_n hx hb dX1_formRemainders_0 rfl (lv_at hl 0 rfl) ?_
  refine fl_get1 X hI dX1_formRemainders_1 (by omega) 5 (by decide) wf_X1_27 rfl ?_
  refine lv_aload_n hx hb dX1_formRemainders_4 rfl (lv_at hl 0 rfl) ?_
  refine fl_get1 X hI dX1_formRemainders_5 (by omega) 6 (by decide) wf_X1_76 rfl ?_
  refine W.eq (g2 := F0 m 8 ls [.int (nI rr), .ref (ad 13)]) (by rw [hrr]) ?_
  refine lv_aload_n hx hb dX1_formRemainders_8 rfl (lv_at hl 0 rfl) ?_
  refine fl_get1 X hI dX1_formRemainders_9 (by omega) 3 (by decide) wf_X1_46 rfl ?_
  refine W.eq (g2 := F0 m 12 ls [.int (nI eq), .int (nI rr), .ref (ad 13)]) (by rw [he]) ?_
  refine fn_iadd X dX1_formRemainders_12 ?_
  refine lv_aload_n hx hb dX1_formRemainders_13 rfl (lv_at hl 0 rfl) ?_
  refine fl_get1 X hI dX1_formRemainders_14 (by omega) 3 (by decide) wf_X1_46 rfl ?_
  refine W.eq (g2 := F0 m 17 ls [.int (nI eq), .int (nI (rr + eq)), .ref (ad 13)]) (by rw [he]) ?_
  refine fl_callV (k := 13) (As := [.int (nI (rr + eq)), .int (nI eq)]) (rest := []) X hI dX1_formRemainders_17 (m_X0_clear D dA ad N I J hN lat13 (h := rr + eq) (w := eq) (by omega)) (by omega) (fl_c_4 rfl) rfl rfl wc_yX0_clear wm_X1_128 wi_yX0_clear wl_yX0_clear wn_X0 hd_yX0_clear rfl ⟨by first | decide | omega, by first | decide | omega⟩ hl.1 (Nat.le_of_ble_eq_true rfl) (fun v I2 J2 H locs hp hI => ?_)
  obtain ⟨hv, hI2, hJ2⟩ := hp
  subst hv
  rw [hI2, hJ2] at hI
  refine W.eq (g2 := F0 m 20 ls []) rfl ?_
  refine lv_iconst (v := nI 0) hx hb dX1_formRemainders_20 (by decide) ?_
  refine lv_istore_n (lv' := [(2, .int (nI 0)), (0, .ref (ad 0)), (1, .int (nI mm))]) hx hb dX1_formRemainders_21 rfl hl (by decide) rfl (fun ls hl => ?_)
  have he2 : i_r0 eq rr I 0 3 = nI eq := by unfold i_r0; rw [i_clear_far (by omega)]; exact he
  have hrr2 : i_r0 eq rr I 0 6 = nI rr := by unfold i_r0; rw [i_clear_far (by omega)]; exact hrr
  refine lp_rem (I := i_r0 eq rr I) X hN he2 he3 hrr2 hre ⟨by decide, by decide⟩ (J9 := j_rem eq rr mm (j_clear 13 (rr + eq) J)) (fun H locs ls hI hl => ?_) eq 0 _ _ _ _ (Nat.zero_add _) hI (lv_sub hl [0, 1, 2] rfl) rfl
  refine lv_aload_n hx hb dX1_formRemainders_86 rfl (lv_at hl 1 rfl) ?_
  refine fl_get1 X hI dX1_formRemainders_87 (by omega) 5 (by decide) wf_X1_27 rfl ?_
  refine fl_callV (k := 13) (As := []) (rest := []) X hI dX1_formRemainders_90 (m_X0_bringToForm D dA ad N (i_r0 eq rr I) (j_rem eq rr mm (j_clear 13 (rr + eq) J)) hN lat13 (h := rr + eq) (w := eq) (rk := 0) (by unfold i_r0 i_clear; rw [fl_up_j (by omega), fl_up_j (by omega), fl_up_s]) (by omega) (by unfold i_r0 i_clear; rw [fl_up_j (by omega), fl_up_s]) (by omega) (by unfold i_r0 i_clear; rw [fl_up_s]) (Nat.zero_le _)) (by omega) (fl_c_4 rfl) rfl rfl wc_yX0_bringToForm wm_X1_135 wi_yX0_bringToForm wl_yX0_bringToForm wn_X0 hd_yX0_bringToForm rfl ⟨by first | decide | omega, by first | decide | omega⟩ hl.1 (Nat.le_of_ble_eq_true rfl) (fun v I2 J2 H locs hp hI => ?_)
  obtain ⟨hv, hI2, hJ2⟩ := hp
  subst hv
  rw [hI2, hJ2] at hI
  refine W.eq (g2 := F0 m 93 ls []) rfl ?_
  exact fl_vret X hr hlk hI dX1_formRemainders_93 ⟨rfl, rfl, rfl⟩
def x_pw (mm n : Nat) : Int64 := fl_it (fun _ w => w * (nI mm).toInt64) n 0 1
def x_wy (mm eq : Nat) (J : fl_TJ) (w0 : Int64) : Int64 × Int64 := fl_it (fun i (x : Int64 × Int64) => (x.1 * J (13 + 2 + i) i, x.2 * (nI mm).toInt64)) eq 0 (w0, 1)
def x_ways (mm n eq : Nat) (J : fl_TJ) : Int64 := if (x_wy mm eq J (x_pw mm n)).2 = 0 then 0 else (x_wy mm eq J (x_pw mm n)).1 / (x_wy mm eq J (x_pw mm n)).2
theorem lp_pw {p : Program} {l : Launch} {e : Env} {R : Room} {s : State} {m : MethodId} {args : Array Value} {below : List Frame} {meth : Method} {c : Code} {Q : State → Prop} {D : va_G} {dA : Nat → ClassId} {ad : Nat → Nat} {N : Nat} {A : Nat → Prop} {H0 : Heap} {I : fl_TI} {J : fl_TJ} {ww9 : Int64} (X : CallFix p m c cX1_waysToEachSum 7 s args fl_tb RX1) {n eq mm : Nat} (hN : 30 ≤ N) (hn : I 0 2 = nI n) (hn4 : n ≤ 4) (he : I 0 3 = nI eq) (he3 : eq ≤ 3)
    (kx : ∀ (H : Heap) (locs : List Loc) (ls : Array Slot), fl_I D dA ad N I J A s H0 H locs → lv_has ls 7 [(4, .int (nI n)), (2, .long ww9), (0, .ref (ad 0)), (1, .int (nI mm))] → W p l e R s m args below meth c H locs 0 0 Q (F0 m 25 ls [])) :
    ∀ (k i : Nat) (ww : Int64) (H : Heap) (locs : List Loc) (ls : Array Slot), i + k = n → fl_I D dA ad N I J A s H0 H locs → lv_has ls 7 [(4, .int (nI i)), (2, .long ww), (0, .ref (ad 0)), (1, .int (nI mm))] → fl_it (fun _ w => w * (nI mm).toInt64) k i ww = ww9 → W p l e R s m args below meth c H locs 0 0 Q (F0 m 5 ls []) := by
  have hx := X.1
  have hb := X.2.1
  intro k
  induction k with
  | zero =>
    intro i ww H locs ls hk hI hl hF
    have hF : ww = ww9 := hF
    subst hF
    have hk : n = i := by omega
    subst hk
    refine lv_iload hx hb dX1_waysToEachSum_5 (lv_at hl 0 rfl) ?_
    refine lv_aload_n hx hb dX1_waysToEachSum_7 rfl (lv_at hl 2 rfl) ?_
    refine fl_get1 X hI dX1_waysToEachSum_8 (by omega) 2 (by decide) wf_X1_42 rfl ?_
    refine W.eq (g2 := F0 m 11 ls [.int (nI n), .int (nI n)]) (by rw [hn]) ?_
    refine fn_icmp_ge X (tgt := 25) dX1_waysToEachSum_11 (by decide) (by omega) (by omega) (fun c1 => ?_) (fun c1 => absurd c1 (by omega))
    exact kx _ _ _ hI (lv_sub hl [0, 1, 2, 3] rfl)
  | succ k ih =>
    intro i ww H locs ls hk hI hl hF
    refine lv_iload hx hb dX1_waysToEachSum_5 (lv_at hl 0 rfl) ?_
    refine lv_aload_n hx hb dX1_waysToEachSum_7 rfl (lv_at hl 2 rfl) ?_
    refine fl_get1 X hI dX1_waysToEachSum_8 (by omega) 2 (by decide) wf_X1_42 rfl ?_
    refine W.eq (g2 := F0 m 11 ls [.int (nI n), .int (nI i)]) (by rw [hn]) ?_
    refine fn_icmp_ge X (tgt := 25) dX1_waysToEachSum_11 (by decide) (by omega) (by omega) (fun c1 => absurd c1 (by omega)) (fun c1 => ?_)
    refine lv_lload_n hx hb dX1_waysToEachSum_14 rfl (lv_at hl 1 rfl) ?_
    refine lv_iload_n hx hb dX1_waysToEachSum_15 rfl (lv_at hl 3 rfl) ?_
    refine lv_i2l hx hb dX1_waysToEachSum_16 rfl ?_
    refine lv_lmul hx hb dX1_waysToEachSum_17 ?_
    refine lv_lstore_n (lv' := [(2, .long (ww * ((nI mm).toInt64))), (4, .int (nI i)), (0, .ref (ad 0)), (1, .int (nI mm))]) hx hb dX1_waysToEachSum_18 rfl hl (by decide) rfl (fun ls hl => ?_)
    refine fn_iinc (a := i) (lv' := [(4, .int (nI (i + 1))), (2, .long (ww * ((nI mm).toInt64))), (0, .ref (ad 0)), (1, .int (nI mm))]) X dX1_waysToEachSum_19 hl (k := 1) rfl (by decide) rfl (fun ls hl => ?_)
    refine lv_goto (tgt := 5) hx hb dX1_waysToEachSum_22 (by decide) ?_
    exact ih (i + 1) _ _ _ _ (by omega) hI (lv_sub hl [0, 1, 2, 3] rfl) hF
theorem lp_wy {p : Program} {l : Launch} {e : Env} {R : Room} {s : State} {m : MethodId} {args : Array Value} {below : List Frame} {meth : Method} {c : Code} {Q : State → Prop} {D : va_G} {dA : Nat → ClassId} {ad : Nat → Nat} {N : Nat} {A : Nat → Prop} {H0 : Heap} {I : fl_TI} {J : fl_TJ} {ww9 : Int64} {rw9 : Int64} (X : CallFix p m c cX1_waysToEachSum 7 s args fl_tb RX1) {n eq mm : Nat} (hN : 30 ≤ N) (hn : I 0 2 = nI n) (hn4 : n ≤ 4) (he : I 0 3 = nI eq) (he3 : eq ≤ 3) (hR : 0 + 1 ≤ R.frames ∧ 8 + (3 + 11) + 40 * 0 ≤ R.locals)
    (kx : ∀ (H : Heap) (locs : List Loc) (ls : Array Slot), fl_I D dA ad N I J A s H0 H locs → lv_has ls 7 [(6, .int (nI eq)), (4, .long rw9), (2, .long ww9), (0, .ref (ad 0)), (1, .int (nI mm))] → W p l e R s m args below meth c H locs 0 0 Q (F0 m 67 ls [])) :
    ∀ (k i : Nat) (ww : Int64) (rw : Int64) (H : Heap) (locs : List Loc) (ls : Array Slot), i + k = eq → fl_I D dA ad N I J A s H0 H locs → lv_has ls 7 [(6, .int (nI i)), (4, .long rw), (2, .long ww), (0, .ref (ad 0)), (1, .int (nI mm))] → fl_it (fun i (x : Int64 × Int64) => (x.1 * J (13 + 2 + i) i, x.2 * (nI mm).toInt64)) k i (ww, rw) = (ww9, rw9) → W p l e R s m args below meth c H locs 0 0 Q (F0 m 31 ls []) := by
  have hx := X.1
  have hb := X.2.1
  intro k
  induction k with
  | zero =>
    intro i ww rw H locs ls hk hI hl hF
    have hF : (ww, rw) = (ww9, rw9) := hF
    cases hF
    have hk : eq = i := by omega
    subst hk
    refine lv_iload hx hb dX1_waysToEachSum_31 (lv_at hl 0 rfl) ?_
    refine lv_aload_n hx hb dX1_waysToEachSum_33 rfl (lv_at hl 3 rfl) ?_
    refine fl_get1 X hI dX1_waysToEachSum_34 (by omega) 3 (by decide) wf_X1_46 rfl ?_
    refine W.eq (g2 := F0 m 37 ls [.int (nI eq), .int (nI eq)]) (by rw [he]) ?_
    refine fn_icmp_ge X (tgt := 67) dX1_waysToEachSum_37 (by decide) (by omega) (by omega) (fun c1 => ?_) (fun c1 => absurd c1 (by omega))
    exact kx _ _ _ hI (lv_sub hl [0, 1, 2, 3, 4] rfl)
  | succ k ih =>
    intro i ww rw H locs ls hk hI hl hF
    refine lv_iload hx hb dX1_waysToEachSum_31 (lv_at hl 0 rfl) ?_
    refine lv_aload_n hx hb dX1_waysToEachSum_33 rfl (lv_at hl 3 rfl) ?_
    refine fl_get1 X hI dX1_waysToEachSum_34 (by omega) 3 (by decide) wf_X1_46 rfl ?_
    refine W.eq (g2 := F0 m 37 ls [.int (nI eq), .int (nI i)]) (by rw [he]) ?_
    refine fn_icmp_ge X (tgt := 67) dX1_waysToEachSum_37 (by decide) (by omega) (by omega) (fun c1 => absurd c1 (by omega)) (fun c1 => ?_)
    refine lv_lload_n hx hb dX1_waysToEachSum_40 rfl (lv_at hl 2 rfl) ?_
    refine lv_aload_n hx hb dX1_waysToEachSum_41 rfl (lv_at hl 3 rfl) ?_
    refine fl_get1 X hI dX1_waysToEachSum_42 (by omega) 5 (by decide) wf_X1_27 rfl ?_
    refine lv_iload hx hb dX1_waysToEachSum_45 (lv_at hl 0 rfl) ?_
    refine lv_iload hx hb dX1_waysToEachSum_47 (lv_at hl 0 rfl) ?_
    refine fl_callV (k := 13) (As := [.int (nI i), .int (nI i)]) (rest := [.long ww]) X hI dX1_waysToEachSum_49 (m_X0_at D dA ad N I J hN lat13 (i := i) (j := i) (by omega) (by omega)) (by omega) (fl_c_4 rfl) rfl rfl wc_yX0_at wm_X1_79 wi_yX0_at wl_yX0_at wn_X0 hd_yX0_at rfl ⟨by first | decide | omega, by first | decide | omega⟩ hl.1 (Nat.le_of_ble_eq_true rfl) (fun v I2 J2 H locs hp hI => ?_)
    obtain ⟨hv, hI2, hJ2⟩ := hp
    subst hv
    rw [hI2, hJ2] at hI
    refine W.eq (g2 := F0 m 52 ls [.long (J (13 + 2 + i) i), .long ww]) rfl ?_
    refine lv_lmul hx hb dX1_waysToEachSum_52 ?_
    refine lv_lstore_n (lv' := [(2, .long (ww * (J (13 + 2 + i) i))), (6, .int (nI i)), (4, .long rw), (0, .ref (ad 0)), (1, .int (nI mm))]) hx hb dX1_waysToEachSum_53 rfl hl (by decide) rfl (fun ls hl => ?_)
    refine lv_lload hx hb dX1_waysToEachSum_54 (lv_at hl 2 rfl) ?_
    refine lv_iload_n hx hb dX1_waysToEachSum_56 rfl (lv_at hl 4 rfl) ?_
    refine lv_i2l hx hb dX1_waysToEachSum_57 rfl ?_
    refine lv_lmul hx hb dX1_waysToEachSum_58 ?_
    refine lv_lstore (lv' := [(4, .long (rw * ((nI mm).toInt64))), (2, .long (ww * (J (13 + 2 + i) i))), (6, .int (nI i)), (0, .ref (ad 0)), (1, .int (nI mm))]) hx hb dX1_waysToEachSum_59 hl (by decide) rfl (fun ls hl => ?_)
    refine fn_iinc (a := i) (lv' := [(6, .int (nI (i + 1))), (4, .long (rw * ((nI mm).toInt64))), (2, .long (ww * (J (13 + 2 + i) i))), (0, .ref (ad 0)), (1, .int (nI mm))]) X dX1_waysToEachSum_61 hl (k := 2) rfl (by decide) rfl (fun ls hl => ?_)
    refine lv_goto (tgt := 31) hx hb dX1_waysToEachSum_64 (by decide) ?_
    exact ih (i + 1) _ _ _ _ _ (by omega) hI (lv_sub hl [0, 1, 2, 3, 4] rfl) hF
theorem m_X1_ways (D : va_G) (dA : Nat → ClassId) (ad : Nat → Nat) (N : Nat) (I : fl_TI) (J : fl_TJ) {n eq mm : Nat} (hN : 30 ≤ N) (hn : I 0 2 = nI n) (hn4 : n ≤ 4) (he : I 0 3 = nI eq) (he3 : eq ≤ 3) : FM yX1_waysToEachSum cX1_waysToEachSum 7 (some .long) 1 D dA ad N [.ref (ad 0), .int (nI mm)] I J (fun v I' J' => v = some (.long (x_ways mm n eq J)) ∧ I' = I ∧ J' = J) := by
  refine FM.ofW RX1 rfl (by decide +kernel) (Nat.le_of_ble_eq_true rfl) ?_
  intro p l e s m args below meth c ls X hr hlk hI hl
  have hx := X.1
  have hb := X.2.1
  have hl : lv_has ls 7 [(0, .ref (ad 0)), (1, .int (nI mm))] := hl
  refine lv_lconst (v := 1) hx hb dX1_waysToEachSum_0 rfl ?_
  refine lv_lstore_n (lv' := [(2, .long 1), (0, .ref (ad 0)), (1, .int (nI mm))]) hx hb dX1_waysToEachSum_1 rfl hl (by decide) rfl (fun ls hl => ?_)
  refine lv_iconst (v := nI 0) hx hb dX1_waysToEachSum_2 (by decide) ?_
  refine lv_istore (lv' := [(4, .int (nI 0)), (2, .long 1), (0, .ref (ad 0)), (1, .int (nI mm))]) hx hb dX1_waysToEachSum_3 hl (by decide) rfl (fun ls hl => ?_)
  refine lp_pw X hN hn hn4 he he3 (ww9 := x_pw mm n) (fun H locs ls hI hl => ?_) n 0 _ _ _ _ (Nat.zero_add _) hI (lv_sub hl [0, 1, 2, 3] rfl) rfl
  refine lv_lconst (v := 1) hx hb dX1_waysToEachSum_25 rfl ?_
  refine lv_lstore (lv' := [(4, .long 1), (2, .long (x_pw mm n)), (0, .ref (ad 0)), (1, .int (nI mm))]) hx hb dX1_waysToEachSum_26 hl (by decide) rfl (fun ls hl => ?_)
  refine lv_iconst (v := nI 0) hx hb dX1_waysToEachSum_28 (by decide) ?_
  refine lv_istore (lv' := [(6, .int (nI 0)), (4, .long 1), (2, .long (x_pw mm n)), (0, .ref (ad 0)), (1, .int (nI mm))]) hx hb dX1_waysToEachSum_29 hl (by decide) rfl (fun ls hl => ?_)
  refine lp_wy X hN hn hn4 he he3 ⟨by decide, by decide⟩ (ww9 := (x_wy mm eq J (x_pw mm n)).1) (rw9 := (x_wy mm eq J (x_pw mm n)).2) (fun H locs ls hI hl => ?_) eq 0 _ _ _ _ _ (Nat.zero_add _) hI (lv_sub hl [0, 1, 2, 3, 4] rfl) rfl
  refine lv_lload hx hb dX1_waysToEachSum_67 (lv_at hl 1 rfl) ?_
  refine lv_lconst (v := 0) hx hb dX1_waysToEachSum_69 rfl ?_
  refine fl_lc_ne (tgt := 78) hx hb dX1_waysToEachSum_70 dX1_waysToEachSum_71 (by decide) (fun c1 => ?_) (fun c1 => ?_)
  · refine lv_lload_n hx hb dX1_waysToEachSum_78 rfl (lv_at hl 2 rfl) ?_
    refine lv_lload hx hb dX1_waysToEachSum_79 (lv_at hl 1 rfl) ?_
    refine lv_ldiv hx hb dX1_waysToEachSum_81 c1 ?_
    exact fl_lret X hr hlk hI dX1_waysToEachSum_82 ⟨by unfold x_ways; first | rw [if_pos c1] | rw [if_neg c1], rfl, rfl⟩
  · refine lv_lconst (v := 0) hx hb dX1_waysToEachSum_74 rfl ?_
    refine lv_goto (tgt := 82) hx hb dX1_waysToEachSum_75 (by decide) ?_
    exact fl_lret X hr hlk hI dX1_waysToEachSum_82 ⟨by unfold x_ways; first | rw [if_pos c1] | rw [if_neg c1], rfl, rfl⟩
end
section
/-! modulo, invariant -/
def j_sums (eq : Nat) (I : fl_TI) (J : fl_TJ) : fl_TJ := fl_it (fun i J => fl_up J 23 i ((I 5 i).toInt64)) eq 0 J
def j_mod (eq rk : Nat) (I : fl_TI) (J : fl_TJ) : fl_TJ := j_reduce 13 23 eq rk (ldI I (13 + 2 + 6)) (j_sums eq I (j_fill 23 J))
def x_mod (mm n eq : Nat) (J : fl_TJ) : Int32 := if x_first 23 J eq 0 = -1 then (x_ways mm n eq J).toInt32 else nI 0
theorem lp_sums {p : Program} {l : Launch} {e : Env} {R : Room} {s : State} {m : MethodId} {args : Array Value} {below : List Frame} {meth : Method} {c : Code} {Q : State → Prop} {D : va_G} {dA : Nat → ClassId} {ad : Nat → Nat} {N : Nat} {A : Nat → Prop} {H0 : Heap} {I : fl_TI} {J9 : fl_TJ} (X : CallFix p m c cX1_modulo 3 s args fl_tb RX1) {eq mm : Nat} (hN : 30 ≤ N) (he : I 0 3 = nI eq) (he3 : eq ≤ 3)
    (kx : ∀ (H : Heap) (locs : List Loc) (ls : Array Slot), fl_I D dA ad N I J9 A s H0 H locs → lv_has ls 3 [(2, .int (nI eq)), (0, .ref (ad 0)), (1, .int (nI mm))] → W p l e R s m args below meth c H locs 0 0 Q (F0 m 54 ls [])) :
    ∀ (k i : Nat) (J : fl_TJ) (H : Heap) (locs : List Loc) (ls : Array Slot), i + k = eq → fl_I D dA ad N I J A s H0 H locs → lv_has ls 3 [(2, .int (nI i)), (0, .ref (ad 0)), (1, .int (nI mm))] → fl_it (fun i J => fl_up J 23 i ((I 5 i).toInt64)) k i J = J9 → W p l e R s m args below meth c H locs 0 0 Q (F0 m 27 ls []) := by
  have hx := X.1
  have hb := X.2.1
  intro k
  induction k with
  | zero =>
    intro i J H locs ls hk hI hl hF
    have hF : J = J9 := hF
    subst hF
    have hk : eq = i := by omega
    subst hk
    refine lv_iload_n hx hb dX1_modulo_27 rfl (lv_at hl 0 rfl) ?_
    refine lv_aload_n hx hb dX1_modulo_28 rfl (lv_at hl 1 rfl) ?_
    refine fl_get1 X hI dX1_modulo_29 (by omega) 3 (by decide) wf_X1_46 rfl ?_
    refine W.eq (g2 := F0 m 32 ls [.int (nI eq), .int (nI eq)]) (by rw [he]) ?_
    refine fn_icmp_ge X (tgt := 54) dX1_modulo_32 (by decide) (by omega) (by omega) (fun c1 => ?_) (fun c1 => absurd c1 (by omega))
    exact kx _ _ _ hI (lv_sub hl [0, 1, 2] rfl)
  | succ k ih =>
    intro i J H locs ls hk hI hl hF
    refine lv_iload_n hx hb dX1_modulo_27 rfl (lv_at hl 0 rfl) ?_
    refine lv_aload_n hx hb dX1_modulo_28 rfl (lv_at hl 1 rfl) ?_
    refine fl_get1 X hI dX1_modulo_29 (by omega) 3 (by decide) wf_X1_46 rfl ?_
    refine W.eq (g2 := F0 m 32 ls [.int (nI eq), .int (nI i)]) (by rw [he]) ?_
    refine fn_icmp_ge X (tgt := 54) dX1_modulo_32 (by decide) (by omega) (by omega) (fun c1 => absurd c1 (by omega)) (fun c1 => ?_)
    refine lv_aload_n hx hb dX1_modulo_35 rfl (lv_at hl 1 rfl) ?_
    refine fl_get1 X hI dX1_modulo_36 (by omega) 9 (by decide) wf_X1_34 rfl ?_
    refine lv_iload_n hx hb dX1_modulo_39 rfl (lv_at hl 0 rfl) ?_
    refine lv_aload_n hx hb dX1_modulo_40 rfl (lv_at hl 1 rfl) ?_
    refine fl_get1 X hI dX1_modulo_41 (by omega) 1 (by decide) wf_X1_14 rfl ?_
    refine lv_iload_n hx hb dX1_modulo_44 rfl (lv_at hl 0 rfl) ?_
    refine fn_iald (k := 5) X hI dX1_modulo_45 (by omega) rfl (show i < 3 by omega) ?_
    refine lv_i2l hx hb dX1_modulo_46 rfl ?_
    refine fn_last (k := 23) X hI dX1_modulo_47 (by omega) rfl (show i < 7 by omega) (fun H locs hI => ?_)
    refine fn_iinc (a := i) (lv' := [(2, .int (nI (i + 1))), (0, .ref (ad 0)), (1, .int (nI mm))]) X dX1_modulo_48 hl (k := 0) rfl (by decide) rfl (fun ls hl => ?_)
    refine lv_goto (tgt := 27) hx hb dX1_modulo_51 (by decide) ?_
    exact ih (i + 1) _ _ _ _ (by omega) hI (lv_sub hl [0, 1, 2] rfl) hF
theorem tl_mod {p : Program} {l : Launch} {e : Env} {s : State} {m : MethodId} {args : Array Value} {below : List Frame} {meth : Method} {c : Code} {D : va_G} {dA : Nat → ClassId} {ad : Nat → Nat} {N : Nat} {A : Nat → Prop} {I : fl_TI} {J : fl_TJ} {post : Option Value → fl_TI → fl_TJ → Prop} {H : Heap} {locs : List Loc} {ls : Array Slot} (X : CallFix p m c cX1_modulo 3 s args fl_tb RX1) (hr : meth.sig.returnType = some .int) (hlk : meth.locks = false) {n eq rk mm : Nat} (hN : 30 ≤ N) (hn : I 0 2 = nI n) (hn4 : n ≤ 4) (he : I 0 3 = nI eq) (he3 : eq ≤ 3) (hw : I 13 3 = nI eq) (hrk : I 13 4 = nI rk) (hrk6 : rk ≤ 6) (hld : ∀ i, i < rk → I (13 + 2 + 6) i = nI (ldI I (13 + 2 + 6) i) ∧ ldI I (13 + 2 + 6) i < eq) (hI : fl_I D dA ad N I J A s s.heap H locs) (hl : lv_has ls 3 [(0, .ref (ad 0)), (1, .int (nI mm))]) (hp : post (some (.int (x_mod mm n eq (j_mod eq rk I J)))) I (j_mod eq rk I J)) : W p l e (fl_rm 5) s m args below meth c H locs 0 0 (MQ below (fl_Q D dA ad N post A) args s 0 0 A) (F0 m 18 ls []) := by
  have hx := X.1
  have hb := X.2.1
  refine lv_aload_n hx hb dX1_modulo_18 rfl (lv_at hl 0 rfl) ?_
  refine fl_get1 X hI dX1_modulo_19 (by omega) 9 (by decide) wf_X1_34 rfl ?_
  refine fl_callS (As := [.ref (ad 23)]) (rest := []) X hI dX1_modulo_22 (m_fill D dA ad N I J (q := 23) (by omega) rfl) wc_yX1_fillWithZero wm_X1_82 ws_yX1_fillWithZero wn_X1 hd_yX1_fillWithZero rfl ⟨by first | decide | omega, by first | decide | omega⟩ hl.1 (Nat.le_of_ble_eq_true rfl) (fun v I2 J2 H locs hp hI => ?_)
  obtain ⟨hv, hI2, hJ2⟩ := hp
  subst hv
  rw [hI2, hJ2] at hI
  refine W.eq (g2 := F0 m 25 ls []) rfl ?_
  refine lv_iconst (v := nI 0) hx hb dX1_modulo_25 (by decide) ?_
  refine lv_istore_n (lv' := [(2, .int (nI 0)), (0, .ref (ad 0)), (1, .int (nI mm))]) hx hb dX1_modulo_26 rfl hl (by decide) rfl (fun ls hl => ?_)
  refine lp_sums X hN he he3 (J9 := j_sums eq I (j_fill 23 J)) (fun H locs ls hI hl => ?_) eq 0 _ _ _ _ (Nat.zero_add _) hI (lv_sub hl [0, 1, 2] rfl) rfl
  refine lv_aload_n hx hb dX1_modulo_54 rfl (lv_at hl 1 rfl) ?_
  refine fl_get1 X hI dX1_modulo_55 (by omega) 5 (by decide) wf_X1_27 rfl ?_
  refine lv_aload_n hx hb dX1_modulo_58 rfl (lv_at hl 1 rfl) ?_
  refine fl_get1 X hI dX1_modulo_59 (by omega) 9 (by decide) wf_X1_34 rfl ?_
  refine fl_callV (k := 13) (As := [.ref (ad 23)]) (rest := []) X hI dX1_modulo_62 (m_X0_reduce D dA ad N I (j_sums eq I (j_fill 23 J)) hN lat13 (q := 23) (by omega) rfl hw (by omega) (show _ ≤ 7 by omega) hrk (by omega) (fun i hi => ⟨(hld i hi).1, by have := (hld i hi).2; omega, by have := (hld i hi).2; show _ < 7; omega⟩)) (by omega) (fl_c_4 rfl) rfl rfl wc_yX0_reduce wm_X1_86 wi_yX0_reduce wl_yX0_reduce wn_X0 hd_yX0_reduce rfl ⟨by first | decide | omega, by first | decide | omega⟩ hl.1 (Nat.le_of_ble_eq_true rfl) (fun v I2 J2 H locs hp hI => ?_)
  obtain ⟨hv, hI2, hJ2⟩ := hp
  subst hv
  rw [hI2, hJ2] at hI
  refine W.eq (g2 := F0 m 65 ls []) rfl ?_
  refine lv_aload_n hx hb dX1_modulo_65 rfl (lv_at hl 1 rfl) ?_
  refine lv_aload_n hx hb dX1_modulo_66 rfl (lv_at hl 1 rfl) ?_
  refine fl_get1 X hI dX1_modulo_67 (by omega) 9 (by decide) wf_X1_34 rfl ?_
  refine fl_callV (k := 0) (As := [.ref (ad 23)]) (rest := []) X hI dX1_modulo_70 (m_X1_firstNotZero D dA ad N I (j_mod eq rk I J) hN (q := 23) (by omega) rfl he he3 (show _ ≤ 7 by omega)) (by omega) fl_c_5 rfl rfl wc_yX1_firstNotZero wm_X1_89 wi_yX1_firstNotZero wl_yX1_firstNotZero wn_X1 hd_yX1_firstNotZero rfl ⟨by first | decide | omega, by first | decide | omega⟩ hl.1 (Nat.le_of_ble_eq_true rfl) (fun v I2 J2 H locs hp hI => ?_)
  obtain ⟨hv, hI2, hJ2⟩ := hp
  subst hv
  rw [hI2, hJ2] at hI
  refine W.eq (g2 := F0 m 73 ls [.int (x_first 23 (j_mod eq rk I J) eq 0)]) rfl ?_
  refine lv_iconst (v := (-1)) hx hb dX1_modulo_73 (by decide) ?_
  refine lv_icmp_ne (tgt := 86) hx hb dX1_modulo_74 (by decide) (fun c1 => ?_) (fun c1 => ?_)
  · refine lv_iconst (v := nI 0) hx hb dX1_modulo_86 (by decide) ?_
    exact fl_iret X hr hlk hI dX1_modulo_87 (by have h9 := hp; unfold x_mod at h9; first | (rw [if_pos c1] at h9; exact h9) | (rw [if_neg c1] at h9; exact h9))
  · refine lv_aload_n hx hb dX1_modulo_77 rfl (lv_at hl 1 rfl) ?_
    refine lv_iload_n hx hb dX1_modulo_78 rfl (lv_at hl 2 rfl) ?_
    refine fl_callV (k := 0) (As := [.int (nI mm)]) (rest := []) X hI dX1_modulo_79 (m_X1_ways D dA ad N I (j_mod eq rk I J) hN hn hn4 he he3) (by omega) fl_c_5 rfl rfl wc_yX1_waysToEachSum wm_X1_108 wi_yX1_waysToEachSum wl_yX1_waysToEachSum wn_X1 hd_yX1_waysToEachSum rfl ⟨by first | decide | omega, by first | decide | omega⟩ hl.1 (Nat.le_of_ble_eq_true rfl) (fun v I2 J2 H locs hp hI => ?_)
    obtain ⟨hv, hI2, hJ2⟩ := hp
    subst hv
    rw [hI2, hJ2] at hI
    refine W.eq (g2 := F0 m 82 ls [.long (x_ways mm n eq (j_mod eq rk I J))]) rfl ?_
    refine lv_l2i hx hb dX1_modulo_82 rfl ?_
    refine lv_goto (tgt := 87) hx hb dX1_modulo_83 (by decide) ?_
    exact fl_iret X hr hlk hI dX1_modulo_87 (by have h9 := hp; unfold x_mod at h9; first | (rw [if_pos c1] at h9; exact h9) | (rw [if_neg c1] at h9; exact h9))
theorem m_X1_modulo_bad (D : va_G) (dA : Nat → ClassId) (ad : Nat → Nat) (N : Nat) (I : fl_TI) (J : fl_TJ) (hN : 30 ≤ N) (x : Int32) (h : x < nI 1 ∨ ¬ x ≤ nI 40) : FM yX1_modulo cX1_modulo 3 (some .int) 5 D dA ad N [.ref (ad 0), .int x] I J (fun v I' J' => v = some (.int (-1)) ∧ I' = I ∧ J' = J) := by
  refine FM.ofW RX1 rfl (by decide +kernel) (Nat.le_of_ble_eq_true rfl) ?_
  intro p l e s m args below meth c ls X hr hlk hI hl
  have hx := X.1
  have hb := X.2.1
  have hl : lv_has ls 3 [(0, .ref (ad 0)), (1, .int x)] := hl
  refine lv_iload_n hx hb dX1_modulo_0 rfl (lv_at hl 1 rfl) ?_
  refine lv_iconst (v := nI 1) hx hb dX1_modulo_1 (by decide) ?_
  refine lv_icmp_lt (tgt := 11) hx hb dX1_modulo_2 (by decide) (fun c1 => ?_) (fun c1 => ?_)
  · refine lv_iconst (v := (-1)) hx hb dX1_modulo_11 (by decide) ?_
    exact fl_iret X hr hlk hI dX1_modulo_12 ⟨rfl, rfl, rfl⟩
  · refine lv_iload_n hx hb dX1_modulo_5 rfl (lv_at hl 1 rfl) ?_
    refine lv_bipush (v := nI 40) hx hb dX1_modulo_6 (by decide) ?_
    refine lv_icmp_le (tgt := 13) hx hb dX1_modulo_8 (by decide) (fun c2 => ?_) (fun c2 => ?_)
    · exact absurd h (fun q => q.elim c1 (fun z => z c2))
    · refine lv_iconst (v := (-1)) hx hb dX1_modulo_11 (by decide) ?_
      exact fl_iret X hr hlk hI dX1_modulo_12 ⟨rfl, rfl, rfl⟩
theorem m_X1_modulo (D : va_G) (dA : Nat → ClassId) (ad : Nat → Nat) (N : Nat) (I : fl_TI) (J : fl_TJ) (hN : 30 ≤ N) {n eq rr rk : Nat} (ok : x_ok I n eq rr rk) {mm : Nat} (hre : rr ≤ eq) (hm1 : 1 ≤ mm) (hm : mm ≤ 40) : FM yX1_modulo cX1_modulo 3 (some .int) 5 D dA ad N [.ref (ad 0), .int (nI mm)] I J (fun v I' J' => v = some (.int (x_mod mm n eq (j_mod eq (x_r eq rr mm I J).1 (x_r eq rr mm I J).2.1 (x_r eq rr mm I J).2.2))) ∧ I' = (x_r eq rr mm I J).2.1 ∧ J' = j_mod eq (x_r eq rr mm I J).1 (x_r eq rr mm I J).2.1 (x_r eq rr mm I J).2.2) := by
  refine FM.ofW RX1 rfl (by decide +kernel) (Nat.le_of_ble_eq_true rfl) ?_
  intro p l e s m args below meth c ls X hr hlk hI hl
  have hx := X.1
  have hb := X.2.1
  have hl : lv_has ls 3 [(0, .ref (ad 0)), (1, .int (nI mm))] := hl
  obtain ⟨hn, ⟨hn1, hn4⟩, he, he3, hrr, hrn, hh, hw, hrk, hrk4, hld⟩ := ok
  refine lv_iload_n hx hb dX1_modulo_0 rfl (lv_at hl 1 rfl) ?_
  refine lv_iconst (v := nI 1) hx hb dX1_modulo_1 (by decide) ?_
  refine fn_icmp_lt X (tgt := 11) dX1_modulo_2 (by decide) (by omega) (by omega) (fun c1 => absurd c1 (by omega)) (fun c1 => ?_)
  refine lv_iload_n hx hb dX1_modulo_5 rfl (lv_at hl 1 rfl) ?_
  refine lv_bipush (v := nI 40) hx hb dX1_modulo_6 (by decide) ?_
  refine fn_icmp_le X (tgt := 13) dX1_modulo_8 (by decide) (by omega) (by omega) (fun c2 => ?_) (fun c2 => absurd c2 (by omega))
  refine lv_aload_n hx hb dX1_modulo_13 rfl (lv_at hl 0 rfl) ?_
  refine lv_iload_n hx hb dX1_modulo_14 rfl (lv_at hl 1 rfl) ?_
  refine fl_callV (k := 0) (As := [.int (nI mm)]) (rest := []) X hI dX1_modulo_15 (m_X1_formRemainders D dA ad N I J hN he he3 hrr hre) (by omega) fl_c_5 rfl rfl wc_yX1_formRemainders wm_X1_104 wi_yX1_formRemainders wl_yX1_formRemainders wn_X1 hd_yX1_formRemainders rfl ⟨by first | decide | omega, by first | decide | omega⟩ hl.1 (Nat.le_of_ble_eq_true rfl) (fun v I2 J2 H locs hp hI => ?_)
  obtain ⟨hv, hI2, hJ2⟩ := hp
  subst hv
  rw [hI2, hJ2] at hI
  refine W.eq (g2 := F0 m 18 ls []) rfl ?_
  obtain ⟨g1, g2, g3, g4⟩ := b_form_I 13 6 (rr + eq) eq (by omega) eq 0 0 (i_r0 eq rr I) (j_rem eq rr mm (j_clear 13 (rr + eq) J)) (Nat.zero_add _) (by unfold i_r0 i_clear; rw [fl_up_s]) (Nat.zero_le _) (fun i hi => absurd hi (Nat.not_lt_zero _))
  have gf : ∀ b, b ≠ 4 → (x_r eq rr mm I J).2.1 0 b = I 0 b := fun b _ => by unfold x_r; rw [g4 0 b (by omega) (by omega)]; unfold i_r0; rw [i_clear_far (by omega)]
  have k1 : (x_r eq rr mm I J).2.1 0 2 = nI n := by rw [gf 2 (by omega)]; exact hn
  have k2 : (x_r eq rr mm I J).2.1 0 3 = nI eq := by rw [gf 3 (by omega)]; exact he
  have k3 : (x_r eq rr mm I J).2.1 13 3 = nI eq := by unfold x_r; rw [g4 13 3 (by omega) (by omega)]; unfold i_r0 i_clear; rw [fl_up_j (by omega), fl_up_s]
  have k4 : (x_r eq rr mm I J).1 ≤ rr + eq := g1
  exact tl_mod (I := (x_r eq rr mm I J).2.1) X hr hlk hN k1 hn4 k2 he3 (rk := (x_r eq rr mm I J).1) k3 g2 (by omega) g3 hI hl ⟨rfl, rfl, rfl⟩
def pop4 (k : Nat) : Nat := k % 2 + k / 2 % 2 + k / 4 % 2 + k / 8 % 2
theorem m_bitCount (D : va_G) (dA : Nat → ClassId) (ad : Nat → Nat) (N : Nat) (I : fl_TI) (J : fl_TJ) {k : Nat} (hk : k < 16) : FM yJ6_bitCount_0f7a4 cJ6_bitCount_0f7a4 1 (some .int) 0 D dA ad N [.int (nI k)] I J (fun v I' J' => v = some (.int (nI (pop4 k))) ∧ I' = I ∧ J' = J) := by
  refine FM.ofW RJ6 rfl (by decide +kernel) (Nat.le_of_ble_eq_true rfl) ?_
  intro p l e s m args below meth c ls X hr hlk hI hl
  have hx := X.1
  have hb := X.2.1
  have hl : lv_has ls 1 [(0, .int (nI k))] := hl
  refine lv_iload_n hx hb dJ6_bitCount_0f7a4_0 rfl (lv_at hl 0 rfl) ?_
  refine lv_iload_n hx hb dJ6_bitCount_0f7a4_1 rfl (lv_at hl 0 rfl) ?_
  refine lv_iconst (v := nI 1) hx hb dJ6_bitCount_0f7a4_2 (by decide) ?_
  refine lv_iushr hx hb dJ6_bitCount_0f7a4_3 rfl ?_
  refine lv_ldcw (v := (1431655765)) hx hb X.2.2.2.1 (X.2.2.2.2 _ wk_J6_265) dJ6_bitCount_0f7a4_4 ?_
  refine lv_iand hx hb dJ6_bitCount_0f7a4_7 ?_
  refine lv_isub hx hb dJ6_bitCount_0f7a4_8 ?_
  refine lv_istore_n (lv' := [(0, .int ((nI k) - ((((nI k).toUInt32 >>> ((nI 1).toUInt32 &&& Int32.toUInt32 31)).toInt32) &&& ((1431655765)))))]) hx hb dJ6_bitCount_0f7a4_9 rfl hl (by decide) rfl (fun ls hl => ?_)
  refine lv_iload_n hx hb dJ6_bitCount_0f7a4_10 rfl (lv_at hl 0 rfl) ?_
  refine lv_ldcw (v := (858993459)) hx hb X.2.2.2.1 (X.2.2.2.2 _ wk_J6_266) dJ6_bitCount_0f7a4_11 ?_
  refine lv_iand hx hb dJ6_bitCount_0f7a4_14 ?_
  refine lv_iload_n hx hb dJ6_bitCount_0f7a4_15 rfl (lv_at hl 0 rfl) ?_
  refine lv_iconst (v := nI 2) hx hb dJ6_bitCount_0f7a4_16 (by decide) ?_
  refine lv_iushr hx hb dJ6_bitCount_0f7a4_17 rfl ?_
  refine lv_ldcw (v := (858993459)) hx hb X.2.2.2.1 (X.2.2.2.2 _ wk_J6_266) dJ6_bitCount_0f7a4_18 ?_
  refine lv_iand hx hb dJ6_bitCount_0f7a4_21 ?_
  refine lv_iadd hx hb dJ6_bitCount_0f7a4_22 ?_
  refine lv_istore_n (lv' := [(0, .int ((((nI k) - ((((nI k).toUInt32 >>> ((nI 1).toUInt32 &&& Int32.toUInt32 31)).toInt32) &&& ((1431655765)))) &&& ((858993459))) + (((((nI k) - ((((nI k).toUInt32 >>> ((nI 1).toUInt32 &&& Int32.toUInt32 31)).toInt32) &&& ((1431655765)))).toUInt32 >>> ((nI 2).toUInt32 &&& Int32.toUInt32 31)).toInt32) &&& ((858993459)))))]) hx hb dJ6_bitCount_0f7a4_23 rfl hl (by decide) rfl (fun ls hl => ?_)
  refine lv_iload_n hx hb dJ6_bitCount_0f7a4_24 rfl (lv_at hl 0 rfl) ?_
  refine lv_iload_n hx hb dJ6_bitCount_0f7a4_25 rfl (lv_at hl 0 rfl) ?_
  refine lv_iconst (v := nI 4) hx hb dJ6_bitCount_0f7a4_26 (by decide) ?_
  refine lv_iushr hx hb dJ6_bitCount_0f7a4_27 rfl ?_
  refine lv_iadd hx hb dJ6_bitCount_0f7a4_28 ?_
  refine lv_ldcw (v := (252645135)) hx hb X.2.2.2.1 (X.2.2.2.2 _ wk_J6_267) dJ6_bitCount_0f7a4_29 ?_
  refine lv_iand hx hb dJ6_bitCount_0f7a4_32 ?_
  refine lv_istore_n (lv' := [(0, .int ((((((nI k) - ((((nI k).toUInt32 >>> ((nI 1).toUInt32 &&& Int32.toUInt32 31)).toInt32) &&& ((1431655765)))) &&& ((858993459))) + (((((nI k) - ((((nI k).toUInt32 >>> ((nI 1).toUInt32 &&& Int32.toUInt32 31)).toInt32) &&& ((1431655765)))).toUInt32 >>> ((nI 2).toUInt32 &&& Int32.toUInt32 31)).toInt32) &&& ((858993459)))) + ((((((nI k) - ((((nI k).toUInt32 >>> ((nI 1).toUInt32 &&& Int32.toUInt32 31)).toInt32) &&& ((1431655765)))) &&& ((858993459))) + (((((nI k) - ((((nI k).toUInt32 >>> ((nI 1).toUInt32 &&& Int32.toUInt32 31)).toInt32) &&& ((1431655765)))).toUInt32 >>> ((nI 2).toUInt32 &&& Int32.toUInt32 31)).toInt32) &&& ((858993459)))).toUInt32 >>> ((nI 4).toUInt32 &&& Int32.toUInt32 31)).toInt32)) &&& ((252645135))))]) hx hb dJ6_bitCount_0f7a4_33 rfl hl (by decide) rfl (fun ls hl => ?_)
  refine lv_iload_n hx hb dJ6_bitCount_0f7a4_34 rfl (lv_at hl 0 rfl) ?_
  refine lv_iload_n hx hb dJ6_bitCount_0f7a4_35 rfl (lv_at hl 0 rfl) ?_
  refine lv_bipush (v := nI 8) hx hb dJ6_bitCount_0f7a4_36 (by decide) ?_
  refine lv_iushr hx hb dJ6_bitCount_0f7a4_38 rfl ?_
  refine lv_iadd hx hb dJ6_bitCount_0f7a4_39 ?_
  refine lv_istore_n (lv' := [(0, .int (((((((nI k) - ((((nI k).toUInt32 >>> ((nI 1).toUInt32 &&& Int32.toUInt32 31)).toInt32) &&& ((1431655765)))) &&& ((858993459))) + (((((nI k) - ((((nI k).toUInt32 >>> ((nI 1).toUInt32 &&& Int32.toUInt32 31)).toInt32) &&& ((1431655765)))).toUInt32 >>> ((nI 2).toUInt32 &&& Int32.toUInt32 31)).toInt32) &&& ((858993459)))) + ((((((nI k) - ((((nI k).toUInt32 >>> ((nI 1).toUInt32 &&& Int32.toUInt32 31)).toInt32) &&& ((1431655765)))) &&& ((858993459))) + (((((nI k) - ((((nI k).toUInt32 >>> ((nI 1).toUInt32 &&& Int32.toUInt32 31)).toInt32) &&& ((1431655765)))).toUInt32 >>> ((nI 2).toUInt32 &&& Int32.toUInt32 31)).toInt32) &&& ((858993459)))).toUInt32 >>> ((nI 4).toUInt32 &&& Int32.toUInt32 31)).toInt32)) &&& ((252645135))) + ((((((((nI k) - ((((nI k).toUInt32 >>> ((nI 1).toUInt32 &&& Int32.toUInt32 31)).toInt32) &&& ((1431655765)))) &&& ((858993459))) + (((((nI k) - ((((nI k).toUInt32 >>> ((nI 1).toUInt32 &&& Int32.toUInt32 31)).toInt32) &&& ((1431655765)))).toUInt32 >>> ((nI 2).toUInt32 &&& Int32.toUInt32 31)).toInt32) &&& ((858993459)))) + ((((((nI k) - ((((nI k).toUInt32 >>> ((nI 1).toUInt32 &&& Int32.toUInt32 31)).toInt32) &&& ((1431655765)))) &&& ((858993459))) + (((((nI k) - ((((nI k).toUInt32 >>> ((nI 1).toUInt32 &&& Int32.toUInt32 31)).toInt32) &&& ((1431655765)))).toUInt32 >>> ((nI 2).toUInt32 &&& Int32.toUInt32 31)).toInt32) &&& ((858993459)))).toUInt32 >>> ((nI 4).toUInt32 &&& Int32.toUInt32 31)).toInt32)) &&& ((252645135))).toUInt32 >>> ((nI 8).toUInt32 &&& Int32.toUInt32 31)).toInt32)))]) hx hb dJ6_bitCount_0f7a4_40 rfl hl (by decide) rfl (fun ls hl => ?_)
  refine lv_iload_n hx hb dJ6_bitCount_0f7a4_41 rfl (lv_at hl 0 rfl) ?_
  refine lv_iload_n hx hb dJ6_bitCount_0f7a4_42 rfl (lv_at hl 0 rfl) ?_
  refine lv_bipush (v := nI 16) hx hb dJ6_bitCount_0f7a4_43 (by decide) ?_
  refine lv_iushr hx hb dJ6_bitCount_0f7a4_45 rfl ?_
  refine lv_iadd hx hb dJ6_bitCount_0f7a4_46 ?_
  refine lv_istore_n (lv' := [(0, .int ((((((((nI k) - ((((nI k).toUInt32 >>> ((nI 1).toUInt32 &&& Int32.toUInt32 31)).toInt32) &&& ((1431655765)))) &&& ((858993459))) + (((((nI k) - ((((nI k).toUInt32 >>> ((nI 1).toUInt32 &&& Int32.toUInt32 31)).toInt32) &&& ((1431655765)))).toUInt32 >>> ((nI 2).toUInt32 &&& Int32.toUInt32 31)).toInt32) &&& ((858993459)))) + ((((((nI k) - ((((nI k).toUInt32 >>> ((nI 1).toUInt32 &&& Int32.toUInt32 31)).toInt32) &&& ((1431655765)))) &&& ((858993459))) + (((((nI k) - ((((nI k).toUInt32 >>> ((nI 1).toUInt32 &&& Int32.toUInt32 31)).toInt32) &&& ((1431655765)))).toUInt32 >>> ((nI 2).toUInt32 &&& Int32.toUInt32 31)).toInt32) &&& ((858993459)))).toUInt32 >>> ((nI 4).toUInt32 &&& Int32.toUInt32 31)).toInt32)) &&& ((252645135))) + ((((((((nI k) - ((((nI k).toUInt32 >>> ((nI 1).toUInt32 &&& Int32.toUInt32 31)).toInt32) &&& ((1431655765)))) &&& ((858993459))) + (((((nI k) - ((((nI k).toUInt32 >>> ((nI 1).toUInt32 &&& Int32.toUInt32 31)).toInt32) &&& ((1431655765)))).toUInt32 >>> ((nI 2).toUInt32 &&& Int32.toUInt32 31)).toInt32) &&& ((858993459)))) + ((((((nI k) - ((((nI k).toUInt32 >>> ((nI 1).toUInt32 &&& Int32.toUInt32 31)).toInt32) &&& ((1431655765)))) &&& ((858993459))) + (((((nI k) - ((((nI k).toUInt32 >>> ((nI 1).toUInt32 &&& Int32.toUInt32 31)).toInt32) &&& ((1431655765)))).toUInt32 >>> ((nI 2).toUInt32 &&& Int32.toUInt32 31)).toInt32) &&& ((858993459)))).toUInt32 >>> ((nI 4).toUInt32 &&& Int32.toUInt32 31)).toInt32)) &&& ((252645135))).toUInt32 >>> ((nI 8).toUInt32 &&& Int32.toUInt32 31)).toInt32)) + (((((((((nI k) - ((((nI k).toUInt32 >>> ((nI 1).toUInt32 &&& Int32.toUInt32 31)).toInt32) &&& ((1431655765)))) &&& ((858993459))) + (((((nI k) - ((((nI k).toUInt32 >>> ((nI 1).toUInt32 &&& Int32.toUInt32 31)).toInt32) &&& ((1431655765)))).toUInt32 >>> ((nI 2).toUInt32 &&& Int32.toUInt32 31)).toInt32) &&& ((858993459)))) + ((((((nI k) - ((((nI k).toUInt32 >>> ((nI 1).toUInt32 &&& Int32.toUInt32 31)).toInt32) &&& ((1431655765)))) &&& ((858993459))) + (((((nI k) - ((((nI k).toUInt32 >>> ((nI 1).toUInt32 &&& Int32.toUInt32 31)).toInt32) &&& ((1431655765)))).toUInt32 >>> ((nI 2).toUInt32 &&& Int32.toUInt32 31)).toInt32) &&& ((858993459)))).toUInt32 >>> ((nI 4).toUInt32 &&& Int32.toUInt32 31)).toInt32)) &&& ((252645135))) + ((((((((nI k) - ((((nI k).toUInt32 >>> ((nI 1).toUInt32 &&& Int32.toUInt32 31)).toInt32) &&& ((1431655765)))) &&& ((858993459))) + (((((nI k) - ((((nI k).toUInt32 >>> ((nI 1).toUInt32 &&& Int32.toUInt32 31)).toInt32) &&& ((1431655765)))).toUInt32 >>> ((nI 2).toUInt32 &&& Int32.toUInt32 31)).toInt32) &&& ((858993459)))) + ((((((nI k) - ((((nI k).toUInt32 >>> ((nI 1).toUInt32 &&& Int32.toUInt32 31)).toInt32) &&& ((1431655765)))) &&& ((858993459))) + (((((nI k) - ((((nI k).toUInt32 >>> ((nI 1).toUInt32 &&& Int32.toUInt32 31)).toInt32) &&& ((1431655765)))).toUInt32 >>> ((nI 2).toUInt32 &&& Int32.toUInt32 31)).toInt32) &&& ((858993459)))).toUInt32 >>> ((nI 4).toUInt32 &&& Int32.toUInt32 31)).toInt32)) &&& ((252645135))).toUInt32 >>> ((nI 8).toUInt32 &&& Int32.toUInt32 31)).toInt32)).toUInt32 >>> ((nI 16).toUInt32 &&& Int32.toUInt32 31)).toInt32)))]) hx hb dJ6_bitCount_0f7a4_47 rfl hl (by decide) rfl (fun ls hl => ?_)
  refine lv_iload_n hx hb dJ6_bitCount_0f7a4_48 rfl (lv_at hl 0 rfl) ?_
  refine lv_bipush (v := nI 63) hx hb dJ6_bitCount_0f7a4_49 (by decide) ?_
  refine lv_iand hx hb dJ6_bitCount_0f7a4_51 ?_
  exact fl_iret X hr hlk hI dJ6_bitCount_0f7a4_52 ⟨by have h9 := (by decide +kernel : ∀ k, k < 16 → (((((((((nI k) - ((((nI k).toUInt32 >>> ((nI 1).toUInt32 &&& Int32.toUInt32 31)).toInt32) &&& ((1431655765)))) &&& ((858993459))) + (((((nI k) - ((((nI k).toUInt32 >>> ((nI 1).toUInt32 &&& Int32.toUInt32 31)).toInt32) &&& ((1431655765)))).toUInt32 >>> ((nI 2).toUInt32 &&& Int32.toUInt32 31)).toInt32) &&& ((858993459)))) + ((((((nI k) - ((((nI k).toUInt32 >>> ((nI 1).toUInt32 &&& Int32.toUInt32 31)).toInt32) &&& ((1431655765)))) &&& ((858993459))) + (((((nI k) - ((((nI k).toUInt32 >>> ((nI 1).toUInt32 &&& Int32.toUInt32 31)).toInt32) &&& ((1431655765)))).toUInt32 >>> ((nI 2).toUInt32 &&& Int32.toUInt32 31)).toInt32) &&& ((858993459)))).toUInt32 >>> ((nI 4).toUInt32 &&& Int32.toUInt32 31)).toInt32)) &&& ((252645135))) + ((((((((nI k) - ((((nI k).toUInt32 >>> ((nI 1).toUInt32 &&& Int32.toUInt32 31)).toInt32) &&& ((1431655765)))) &&& ((858993459))) + (((((nI k) - ((((nI k).toUInt32 >>> ((nI 1).toUInt32 &&& Int32.toUInt32 31)).toInt32) &&& ((1431655765)))).toUInt32 >>> ((nI 2).toUInt32 &&& Int32.toUInt32 31)).toInt32) &&& ((858993459)))) + ((((((nI k) - ((((nI k).toUInt32 >>> ((nI 1).toUInt32 &&& Int32.toUInt32 31)).toInt32) &&& ((1431655765)))) &&& ((858993459))) + (((((nI k) - ((((nI k).toUInt32 >>> ((nI 1).toUInt32 &&& Int32.toUInt32 31)).toInt32) &&& ((1431655765)))).toUInt32 >>> ((nI 2).toUInt32 &&& Int32.toUInt32 31)).toInt32) &&& ((858993459)))).toUInt32 >>> ((nI 4).toUInt32 &&& Int32.toUInt32 31)).toInt32)) &&& ((252645135))).toUInt32 >>> ((nI 8).toUInt32 &&& Int32.toUInt32 31)).toInt32)) + (((((((((nI k) - ((((nI k).toUInt32 >>> ((nI 1).toUInt32 &&& Int32.toUInt32 31)).toInt32) &&& ((1431655765)))) &&& ((858993459))) + (((((nI k) - ((((nI k).toUInt32 >>> ((nI 1).toUInt32 &&& Int32.toUInt32 31)).toInt32) &&& ((1431655765)))).toUInt32 >>> ((nI 2).toUInt32 &&& Int32.toUInt32 31)).toInt32) &&& ((858993459)))) + ((((((nI k) - ((((nI k).toUInt32 >>> ((nI 1).toUInt32 &&& Int32.toUInt32 31)).toInt32) &&& ((1431655765)))) &&& ((858993459))) + (((((nI k) - ((((nI k).toUInt32 >>> ((nI 1).toUInt32 &&& Int32.toUInt32 31)).toInt32) &&& ((1431655765)))).toUInt32 >>> ((nI 2).toUInt32 &&& Int32.toUInt32 31)).toInt32) &&& ((858993459)))).toUInt32 >>> ((nI 4).toUInt32 &&& Int32.toUInt32 31)).toInt32)) &&& ((252645135))) + ((((((((nI k) - ((((nI k).toUInt32 >>> ((nI 1).toUInt32 &&& Int32.toUInt32 31)).toInt32) &&& ((1431655765)))) &&& ((858993459))) + (((((nI k) - ((((nI k).toUInt32 >>> ((nI 1).toUInt32 &&& Int32.toUInt32 31)).toInt32) &&& ((1431655765)))).toUInt32 >>> ((nI 2).toUInt32 &&& Int32.toUInt32 31)).toInt32) &&& ((858993459)))) + ((((((nI k) - ((((nI k).toUInt32 >>> ((nI 1).toUInt32 &&& Int32.toUInt32 31)).toInt32) &&& ((1431655765)))) &&& ((858993459))) + (((((nI k) - ((((nI k).toUInt32 >>> ((nI 1).toUInt32 &&& Int32.toUInt32 31)).toInt32) &&& ((1431655765)))).toUInt32 >>> ((nI 2).toUInt32 &&& Int32.toUInt32 31)).toInt32) &&& ((858993459)))).toUInt32 >>> ((nI 4).toUInt32 &&& Int32.toUInt32 31)).toInt32)) &&& ((252645135))).toUInt32 >>> ((nI 8).toUInt32 &&& Int32.toUInt32 31)).toInt32)).toUInt32 >>> ((nI 16).toUInt32 &&& Int32.toUInt32 31)).toInt32)) &&& (nI 63) : Int32) = nI (pop4 k)) k hk; exact congrArg (fun z => some (Value.int z)) h9, rfl, rfl⟩
theorem bit_ok {u a : Nat} (hu : u < 16) (ha : a < 8) : (nI u >>> (nI a &&& 31)) &&& nI 1 = nI (u / 2 ^ a % 2) := (by decide +kernel : ∀ u, u < 16 → ∀ a, a < 8 → (nI u >>> (nI a &&& 31)) &&& nI 1 = nI (u / 2 ^ a % 2)) u hu a ha
theorem shl_ok {a : Nat} (ha : a < 8) : nI 1 <<< (nI a &&& 31) = nI (2 ^ a) := (by decide +kernel : ∀ a, a < 8 → nI 1 <<< (nI a &&& 31) = nI (2 ^ a)) a ha
theorem bit_le {w j : Nat} (h : w / 2 ^ j % 2 = 1) : 2 ^ j ≤ w := by
  rcases Nat.lt_or_ge w (2 ^ j) with q | q
  · rw [Nat.div_eq_of_lt q] at h; omega
  · exact q
def x_det (n : Nat) (I : fl_TI) (u : Nat) : Nat → Nat → Nat → Int64
  | 0, _, _ => 1
  | k + 1, a, w => if u / 2 ^ a % 2 = 0 then x_det n I u k (a + 1) w else (fl_it (fun j (x : Int64 × Int64) => if w / 2 ^ j % 2 = 1 then (x.1 + x.2 * (I (2 + a) j).toInt64 * x_det n I u k (a + 1) (w - 2 ^ j), -x.2) else x) n 0 (0, 1)).1
theorem lp_det {p : Program} {l : Launch} {e : Env} {R : Room} {s : State} {m : MethodId} {args : Array Value} {below : List Frame} {meth : Method} {c : Code} {Q : State → Prop} {D : va_G} {dA : Nat → ClassId} {ad : Nat → Nat} {N : Nat} {A : Nat → Prop} {H0 : Heap} {I : fl_TI} {J : fl_TJ} {vv9 : Int64} {sg9 : Int64} (X : CallFix p m c cX1_determinant 9 s args fl_tb RX1) {n eq a u w kd : Nat} (hN : 30 ≤ N) (hn : I 0 2 = nI n) (hn4 : n ≤ 4) (he : I 0 3 = nI eq) (he3 : eq ≤ 3) (ha : a < eq) (hu : u < 16) (hw : w < 16) (hM : ∀ w, w < 16 → FM yX1_determinant cX1_determinant 9 (some .long) kd D dA ad N [.ref (ad 0), .int (nI (a + 1)), .int (nI u), .int (nI w)] I J (fun v I' J' => v = some (.long (x_det n I u kd (a + 1) w)) ∧ I' = I ∧ J' = J)) (hR : kd + 1 ≤ R.frames ∧ 8 + (9 + 11) + 40 * kd ≤ R.locals)
    (kx : ∀ (H : Heap) (locs : List Loc) (ls : Array Slot), fl_I D dA ad N I J A s H0 H locs → lv_has ls 9 [(8, .int (nI n)), (6, .long sg9), (4, .long vv9), (0, .ref (ad 0)), (1, .int (nI a)), (2, .int (nI u)), (3, .int (nI w))] → W p l e R s m args below meth c H locs 0 0 Q (F0 m 100 ls [])) :
    ∀ (k i : Nat) (vv : Int64) (sg : Int64) (H : Heap) (locs : List Loc) (ls : Array Slot), i + k = n → fl_I D dA ad N I J A s H0 H locs → lv_has ls 9 [(8, .int (nI i)), (6, .long sg), (4, .long vv), (0, .ref (ad 0)), (1, .int (nI a)), (2, .int (nI u)), (3, .int (nI w))] → fl_it (fun j (x : Int64 × Int64) => if w / 2 ^ j % 2 = 1 then (x.1 + x.2 * (I (2 + a) j).toInt64 * x_det n I u kd (a + 1) (w - 2 ^ j), -x.2) else x) k i (vv, sg) = (vv9, sg9) → W p l e R s m args below meth c H locs 0 0 Q (F0 m 37 ls []) := by
  have hx := X.1
  have hb := X.2.1
  intro k
  induction k with
  | zero =>
    intro i vv sg H locs ls hk hI hl hF
    have hF : (vv, sg) = (vv9, sg9) := hF
    cases hF
    have hk : n = i := by omega
    subst hk
    refine lv_iload hx hb dX1_determinant_37 (lv_at hl 0 rfl) ?_
    refine lv_aload_n hx hb dX1_determinant_39 rfl (lv_at hl 3 rfl) ?_
    refine fl_get1 X hI dX1_determinant_40 (by omega) 2 (by decide) wf_X1_42 rfl ?_
    refine W.eq (g2 := F0 m 43 ls [.int (nI n), .int (nI n)]) (by rw [hn]) ?_
    refine fn_icmp_ge X (tgt := 100) dX1_determinant_43 (by decide) (by omega) (by omega) (fun c1 => ?_) (fun c1 => absurd c1 (by omega))
    exact kx _ _ _ hI (lv_sub hl [0, 1, 2, 3, 4, 5, 6] rfl)
  | succ k ih =>
    intro i vv sg H locs ls hk hI hl hF
    refine lv_iload hx hb dX1_determinant_37 (lv_at hl 0 rfl) ?_
    refine lv_aload_n hx hb dX1_determinant_39 rfl (lv_at hl 3 rfl) ?_
    refine fl_get1 X hI dX1_determinant_40 (by omega) 2 (by decide) wf_X1_42 rfl ?_
    refine W.eq (g2 := F0 m 43 ls [.int (nI n), .int (nI i)]) (by rw [hn]) ?_
    refine fn_icmp_ge X (tgt := 100) dX1_determinant_43 (by decide) (by omega) (by omega) (fun c1 => absurd c1 (by omega)) (fun c1 => ?_)
    refine lv_iload_n hx hb dX1_determinant_46 rfl (lv_at hl 6 rfl) ?_
    refine lv_iload hx hb dX1_determinant_47 (lv_at hl 0 rfl) ?_
    refine lv_ishr hx hb dX1_determinant_49 ?_
    refine lv_iconst (v := nI 1) hx hb dX1_determinant_50 (by decide) ?_
    refine lv_iand hx hb dX1_determinant_51 ?_
    refine W.eq (g2 := F0 m 52 ls [.int (nI (w / 2 ^ i % 2))]) (by rw [bit_ok hw (by omega)]) ?_
    refine lv_iconst (v := nI 1) hx hb dX1_determinant_52 (by decide) ?_
    refine fn_icmp_ne X (tgt := 94) dX1_determinant_53 (by decide) (by omega) (by omega) (fun c2 => ?_) (fun c2 => ?_)
    · refine fn_iinc (a := i) (lv' := [(8, .int (nI (i + 1))), (6, .long sg), (4, .long vv), (0, .ref (ad 0)), (1, .int (nI a)), (2, .int (nI u)), (3, .int (nI w))]) X dX1_determinant_94 hl (k := 0) rfl (by decide) rfl (fun ls hl => ?_)
      refine lv_goto (tgt := 37) hx hb dX1_determinant_97 (by decide) ?_
      exact ih (i + 1) _ _ _ _ _ (by omega) hI (lv_sub hl [0, 1, 2, 3, 4, 5, 6] rfl) (by have h9 := hF; simp only [fl_it] at h9; first | (rw [if_pos c2] at h9; exact h9) | (rw [if_neg c2] at h9; exact h9))
    · refine lv_lload hx hb dX1_determinant_56 (lv_at hl 2 rfl) ?_
      refine lv_lload hx hb dX1_determinant_58 (lv_at hl 1 rfl) ?_
      refine lv_aload_n hx hb dX1_determinant_60 rfl (lv_at hl 3 rfl) ?_
      refine fl_get1 X hI dX1_determinant_61 (by omega) 0 (by decide) wf_X1_11 rfl ?_
      refine lv_iload_n hx hb dX1_determinant_64 rfl (lv_at hl 4 rfl) ?_
      refine fn_aald2 (k := 1) X hI dX1_determinant_65 (by omega) rfl (show a < 3 by omega) ?_
      refine lv_iload hx hb dX1_determinant_66 (lv_at hl 0 rfl) ?_
      refine fn_iald (k := 2 + a) X hI dX1_determinant_68 (by omega) (fk2 (by omega)) (by rw [fn2 (by omega)]; omega) ?_
      refine lv_i2l hx hb dX1_determinant_69 rfl ?_
      refine lv_lmul hx hb dX1_determinant_70 ?_
      refine lv_aload_n hx hb dX1_determinant_71 rfl (lv_at hl 3 rfl) ?_
      refine lv_iload_n hx hb dX1_determinant_72 rfl (lv_at hl 4 rfl) ?_
      refine lv_iconst (v := nI 1) hx hb dX1_determinant_73 (by decide) ?_
      refine fn_iadd X dX1_determinant_74 ?_
      refine lv_iload_n hx hb dX1_determinant_75 rfl (lv_at hl 5 rfl) ?_
      refine lv_iload_n hx hb dX1_determinant_76 rfl (lv_at hl 6 rfl) ?_
      refine lv_iconst (v := nI 1) hx hb dX1_determinant_77 (by decide) ?_
      refine lv_iload hx hb dX1_determinant_78 (lv_at hl 0 rfl) ?_
      refine lv_ishl hx hb dX1_determinant_80 ?_
      refine W.eq (g2 := F0 m 81 ls [.int (nI (2 ^ i)), .int (nI w), .int (nI u), .int (nI (a + 1)), .ref (ad 0), .long (sg * ((I (2 + a) i).toInt64)), .long vv]) (by rw [shl_ok (by omega)]) ?_
      have h77 := bit_le c2
      refine fn_isub X dX1_determinant_81 (by omega) ?_
      refine fl_callV (k := 0) (As := [.int (nI (a + 1)), .int (nI u), .int (nI (w - (2 ^ i)))]) (rest := [.long (sg * ((I (2 + a) i).toInt64)), .long vv]) X hI dX1_determinant_82 (hM (w - 2 ^ i) (Nat.lt_of_le_of_lt (Nat.sub_le _ _) hw)) (by omega) fl_c_5 rfl rfl wc_yX1_determinant wm_X1_149 wi_yX1_determinant wl_yX1_determinant wn_X1 hd_yX1_determinant rfl ⟨by first | decide | omega, by first | decide | omega⟩ hl.1 (Nat.le_of_ble_eq_true rfl) (fun v I2 J2 H locs hp hI => ?_)
      obtain ⟨hv, hI2, hJ2⟩ := hp
      subst hv
      rw [hI2, hJ2] at hI
      refine W.eq (g2 := F0 m 85 ls [.long (x_det n I u kd (a + 1) (w - 2 ^ i)), .long (sg * ((I (2 + a) i).toInt64)), .long vv]) rfl ?_
      refine lv_lmul hx hb dX1_determinant_85 ?_
      refine lv_ladd hx hb dX1_determinant_86 ?_
      refine lv_lstore (lv' := [(4, .long (vv + ((sg * ((I (2 + a) i).toInt64)) * (x_det n I u kd (a + 1) (w - 2 ^ i))))), (8, .int (nI i)), (6, .long sg), (0, .ref (ad 0)), (1, .int (nI a)), (2, .int (nI u)), (3, .int (nI w))]) hx hb dX1_determinant_87 hl (by decide) rfl (fun ls hl => ?_)
      refine lv_lload hx hb dX1_determinant_89 (lv_at hl 2 rfl) ?_
      refine lv_lneg hx hb dX1_determinant_91 ?_
      refine lv_lstore (lv' := [(6, .long (-sg)), (4, .long (vv + ((sg * ((I (2 + a) i).toInt64)) * (x_det n I u kd (a + 1) (w - 2 ^ i))))), (8, .int (nI i)), (0, .ref (ad 0)), (1, .int (nI a)), (2, .int (nI u)), (3, .int (nI w))]) hx hb dX1_determinant_92 hl (by decide) rfl (fun ls hl => ?_)
      refine fn_iinc (a := i) (lv' := [(8, .int (nI (i + 1))), (6, .long (-sg)), (4, .long (vv + ((sg * ((I (2 + a) i).toInt64)) * (x_det n I u kd (a + 1) (w - 2 ^ i))))), (0, .ref (ad 0)), (1, .int (nI a)), (2, .int (nI u)), (3, .int (nI w))]) X dX1_determinant_94 hl (k := 2) rfl (by decide) rfl (fun ls hl => ?_)
      refine lv_goto (tgt := 37) hx hb dX1_determinant_97 (by decide) ?_
      exact ih (i + 1) _ _ _ _ _ (by omega) hI (lv_sub hl [0, 1, 2, 3, 4, 5, 6] rfl) (by have h9 := hF; simp only [fl_it] at h9; first | (rw [if_pos c2] at h9; exact h9) | (rw [if_neg c2] at h9; exact h9))
theorem m_det (D : va_G) (dA : Nat → ClassId) (ad : Nat → Nat) (N : Nat) (I : fl_TI) (J : fl_TJ) (hN : 30 ≤ N) {n eq u : Nat} (hn : I 0 2 = nI n) (hn4 : n ≤ 4) (he : I 0 3 = nI eq) (he3 : eq ≤ 3) (hu : u < 16) : ∀ (kd a w : Nat), a + kd = eq → w < 16 → FM yX1_determinant cX1_determinant 9 (some .long) kd D dA ad N [.ref (ad 0), .int (nI a), .int (nI u), .int (nI w)] I J (fun v I' J' => v = some (.long (x_det n I u kd a w)) ∧ I' = I ∧ J' = J) := by
  intro kd
  induction kd with
  | zero =>
    intro a w hk hw
    have hk : eq = a := by omega
    subst hk
    refine FM.ofW RX1 rfl (by decide +kernel) (Nat.le_of_ble_eq_true rfl) ?_
    intro p l e s m args below meth c ls X hr hlk hI hl
    have hx := X.1
    have hb := X.2.1
    have hl : lv_has ls 9 [(0, .ref (ad 0)), (1, .int (nI eq)), (2, .int (nI u)), (3, .int (nI w))] := hl
    refine lv_iload_n hx hb dX1_determinant_0 rfl (lv_at hl 1 rfl) ?_
    refine lv_aload_n hx hb dX1_determinant_1 rfl (lv_at hl 0 rfl) ?_
    refine fl_get1 X hI dX1_determinant_2 (by omega) 3 (by decide) wf_X1_46 rfl ?_
    refine W.eq (g2 := F0 m 5 ls [.int (nI eq), .int (nI eq)]) (by rw [he]) ?_
    refine fn_icmp_lt X (tgt := 10) dX1_determinant_5 (by decide) (by omega) (by omega) (fun c1 => absurd c1 (by omega)) (fun c1 => ?_)
    refine lv_lconst (v := 1) hx hb dX1_determinant_8 rfl ?_
    exact fl_lret X hr hlk hI dX1_determinant_9 ⟨rfl, rfl, rfl⟩
  | succ kd ih =>
    intro a w hk hw
    refine FM.ofW RX1 rfl (by decide +kernel) (Nat.le_of_ble_eq_true rfl) ?_
    intro p l e s m args below meth c ls X hr hlk hI hl
    have hx := X.1
    have hb := X.2.1
    have hl : lv_has ls 9 [(0, .ref (ad 0)), (1, .int (nI a)), (2, .int (nI u)), (3, .int (nI w))] := hl
    refine lv_iload_n hx hb dX1_determinant_0 rfl (lv_at hl 1 rfl) ?_
    refine lv_aload_n hx hb dX1_determinant_1 rfl (lv_at hl 0 rfl) ?_
    refine fl_get1 X hI dX1_determinant_2 (by omega) 3 (by decide) wf_X1_46 rfl ?_
    refine W.eq (g2 := F0 m 5 ls [.int (nI eq), .int (nI a)]) (by rw [he]) ?_
    refine fn_icmp_lt X (tgt := 10) dX1_determinant_5 (by decide) (by omega) (by omega) (fun c1 => ?_) (fun c1 => absurd c1 (by omega))
    refine lv_iload_n hx hb dX1_determinant_10 rfl (lv_at hl 2 rfl) ?_
    refine lv_iload_n hx hb dX1_determinant_11 rfl (lv_at hl 1 rfl) ?_
    refine lv_ishr hx hb dX1_determinant_12 ?_
    refine lv_iconst (v := nI 1) hx hb dX1_determinant_13 (by decide) ?_
    refine lv_iand hx hb dX1_determinant_14 ?_
    refine W.eq (g2 := F0 m 15 ls [.int (nI (u / 2 ^ a % 2))]) (by rw [bit_ok hu (by omega)]) ?_
    refine fn_if_ne X (tgt := 28) dX1_determinant_15 (by decide) (by omega) (fun c2 => ?_) (fun c2 => ?_)
    · refine lv_lconst (v := 0) hx hb dX1_determinant_28 rfl ?_
      refine lv_lstore (lv' := [(4, .long 0), (0, .ref (ad 0)), (1, .int (nI a)), (2, .int (nI u)), (3, .int (nI w))]) hx hb dX1_determinant_29 hl (by decide) rfl (fun ls hl => ?_)
      refine lv_lconst (v := 1) hx hb dX1_determinant_31 rfl ?_
      refine lv_lstore (lv' := [(6, .long 1), (4, .long 0), (0, .ref (ad 0)), (1, .int (nI a)), (2, .int (nI u)), (3, .int (nI w))]) hx hb dX1_determinant_32 hl (by decide) rfl (fun ls hl => ?_)
      refine lv_iconst (v := nI 0) hx hb dX1_determinant_34 (by decide) ?_
      refine lv_istore (lv' := [(8, .int (nI 0)), (6, .long 1), (4, .long 0), (0, .ref (ad 0)), (1, .int (nI a)), (2, .int (nI u)), (3, .int (nI w))]) hx hb dX1_determinant_35 hl (by decide) rfl (fun ls hl => ?_)
      refine lp_det X hN hn hn4 he he3 (by omega) hu hw (fun w hw => ih (a + 1) w (by omega) hw) ⟨Nat.le_refl _, (show _ ≤ 40 * (kd + 1) by omega)⟩ (vv9 := x_det n I u (kd + 1) a w) (sg9 := (fl_it (fun j (x : Int64 × Int64) => if w / 2 ^ j % 2 = 1 then (x.1 + x.2 * (I (2 + a) j).toInt64 * x_det n I u kd (a + 1) (w - 2 ^ j), -x.2) else x) n 0 (0, 1)).2) (fun H locs ls hI hl => ?_) n 0 _ _ _ _ _ (Nat.zero_add _) hI (lv_sub hl [0, 1, 2, 3, 4, 5, 6] rfl) (by rw [x_det, if_neg (by omega)])
      refine lv_lload hx hb dX1_determinant_100 (lv_at hl 2 rfl) ?_
      exact fl_lret X hr hlk hI dX1_determinant_102 ⟨rfl, rfl, rfl⟩
    · refine lv_aload_n hx hb dX1_determinant_18 rfl (lv_at hl 0 rfl) ?_
      refine lv_iload_n hx hb dX1_determinant_19 rfl (lv_at hl 1 rfl) ?_
      refine lv_iconst (v := nI 1) hx hb dX1_determinant_20 (by decide) ?_
      refine fn_iadd X dX1_determinant_21 ?_
      refine lv_iload_n hx hb dX1_determinant_22 rfl (lv_at hl 2 rfl) ?_
      refine lv_iload_n hx hb dX1_determinant_23 rfl (lv_at hl 3 rfl) ?_
      refine fl_callV (k := 0) (As := [.int (nI (a + 1)), .int (nI u), .int (nI w)]) (rest := []) X hI dX1_determinant_24 (ih (a + 1) w (by omega) hw) (by omega) fl_c_5 rfl rfl wc_yX1_determinant wm_X1_149 wi_yX1_determinant wl_yX1_determinant wn_X1 hd_yX1_determinant rfl ⟨Nat.le_refl _, (show _ ≤ 40 * (kd + 1) by omega)⟩ hl.1 (Nat.le_of_ble_eq_true rfl) (fun v I2 J2 H locs hp hI => ?_)
      obtain ⟨hv, hI2, hJ2⟩ := hp
      subst hv
      rw [hI2, hJ2] at hI
      refine W.eq (g2 := F0 m 27 ls [.long (x_det n I u kd (a + 1) w)]) rfl ?_
      exact fl_lret X hr hlk hI dX1_determinant_27 ⟨by rw [x_det, if_pos c2], rfl, rfl⟩
end
section
/-! invariant -/
def x_dvu (n eq : Nat) (I : fl_TI) (u sz : Nat) : Int64 := fl_it (fun w dv => if pop4 w = sz then cd64 dv (x_det n I u eq 0 w) else dv) (2 ^ n) 0 0
def x_dvd (n eq : Nat) (I : fl_TI) (sz : Nat) : Int64 := fl_it (fun u dv => if pop4 u = sz then cd64 dv (x_dvu n eq I u sz) else dv) (2 ^ eq) 0 0
theorem pw4 {n : Nat} (h : n ≤ 4) : 2 ^ n ≤ 16 ∧ 1 ≤ 2 ^ n := by
  rcases (show n = 0 ∨ n = 1 ∨ n = 2 ∨ n = 3 ∨ n = 4 by omega) with rfl | rfl | rfl | rfl | rfl <;> decide
theorem pop_le (k : Nat) : pop4 k ≤ 4 := by unfold pop4; omega
theorem lp_dvu {p : Program} {l : Launch} {e : Env} {R : Room} {s : State} {m : MethodId} {args : Array Value} {below : List Frame} {meth : Method} {c : Code} {Q : State → Prop} {D : va_G} {dA : Nat → ClassId} {ad : Nat → Nat} {N : Nat} {A : Nat → Prop} {H0 : Heap} {I : fl_TI} {J : fl_TJ} {dv9 : Int64} (X : CallFix p m c cX1_divisorOverUnknowns 6 s args fl_tb RX1) {n eq u sz : Nat} (hN : 30 ≤ N) (hn : I 0 2 = nI n) (hn4 : n ≤ 4) (he : I 0 3 = nI eq) (he3 : eq ≤ 3) (hu : u < 16) (hsz : sz ≤ 4) (hR : 3 + 1 ≤ R.frames ∧ 8 + (11 + 11) + 40 * 3 ≤ R.locals)
    (kx : ∀ (H : Heap) (locs : List Loc) (ls : Array Slot), fl_I D dA ad N I J A s H0 H locs → lv_has ls 6 [(5, .int (nI (2 ^ n))), (3, .long dv9), (0, .ref (ad 0)), (1, .int (nI u)), (2, .int (nI sz))] → W p l e R s m args below meth c H locs 0 0 Q (F0 m 44 ls [])) :
    ∀ (k i : Nat) (dv : Int64) (H : Heap) (locs : List Loc) (ls : Array Slot), i + k = 2 ^ n → fl_I D dA ad N I J A s H0 H locs → lv_has ls 6 [(5, .int (nI i)), (3, .long dv), (0, .ref (ad 0)), (1, .int (nI u)), (2, .int (nI sz))] → fl_it (fun w dv => if pop4 w = sz then cd64 dv (x_det n I u eq 0 w) else dv) k i dv = dv9 → W p l e R s m args below meth c H locs 0 0 Q (F0 m 5 ls []) := by
  have hx := X.1
  have hb := X.2.1
  have h16 := pw4 hn4
  have h18 := pw4 (n := eq) (by omega)
  intro k
  induction k with
  | zero =>
    intro i dv H locs ls hk hI hl hF
    have hF : dv = dv9 := hF
    subst hF
    have hk : 2 ^ n = i := by omega
    subst hk
    refine lv_iload hx hb dX1_divisorOverUnknowns_5 (lv_at hl 0 rfl) ?_
    refine lv_iconst (v := nI 1) hx hb dX1_divisorOverUnknowns_7 (by decide) ?_
    refine lv_aload_n hx hb dX1_divisorOverUnknowns_8 rfl (lv_at hl 2 rfl) ?_
    refine fl_get1 X hI dX1_divisorOverUnknowns_9 (by omega) 2 (by decide) wf_X1_42 rfl ?_
    refine W.eq (g2 := F0 m 12 ls [.int (nI n), .int (nI 1), .int (nI (2 ^ n))]) (by rw [hn]) ?_
    refine lv_ishl hx hb dX1_divisorOverUnknowns_12 ?_
    refine W.eq (g2 := F0 m 13 ls [.int (nI (2 ^ n)), .int (nI (2 ^ n))]) (by rw [shl_ok (by omega)]) ?_
    refine fn_icmp_ge X (tgt := 44) dX1_divisorOverUnknowns_13 (by decide) (by omega) (by omega) (fun c1 => ?_) (fun c1 => absurd c1 (by omega))
    exact kx _ _ _ hI (lv_sub hl [0, 1, 2, 3, 4] rfl)
  | succ k ih =>
    intro i dv H locs ls hk hI hl hF
    refine lv_iload hx hb dX1_divisorOverUnknowns_5 (lv_at hl 0 rfl) ?_
    refine lv_iconst (v := nI 1) hx hb dX1_divisorOverUnknowns_7 (by decide) ?_
    refine lv_aload_n hx hb dX1_divisorOverUnknowns_8 rfl (lv_at hl 2 rfl) ?_
    refine fl_get1 X hI dX1_divisorOverUnknowns_9 (by omega) 2 (by decide) wf_X1_42 rfl ?_
    refine W.eq (g2 := F0 m 12 ls [.int (nI n), .int (nI 1), .int (nI i)]) (by rw [hn]) ?_
    refine lv_ishl hx hb dX1_divisorOverUnknowns_12 ?_
    refine W.eq (g2 := F0 m 13 ls [.int (nI (2 ^ n)), .int (nI i)]) (by rw [shl_ok (by omega)]) ?_
    refine fn_icmp_ge X (tgt := 44) dX1_divisorOverUnknowns_13 (by decide) (by omega) (by omega) (fun c1 => absurd c1 (by omega)) (fun c1 => ?_)
    refine lv_iload hx hb dX1_divisorOverUnknowns_16 (lv_at hl 0 rfl) ?_
    refine fl_callS (As := [.int (nI i)]) (rest := []) X hI dX1_divisorOverUnknowns_18 (m_bitCount D dA ad N I J (k := i) (by omega)) wc_yJ6_bitCount_0f7a4 wm_X1_141 ws_yJ6_bitCount_0f7a4 wn_J6 hd_yJ6_bitCount_0f7a4 rfl ⟨by first | decide | omega, by first | decide | omega⟩ hl.1 (Nat.le_of_ble_eq_true rfl) (fun v I2 J2 H locs hp hI => ?_)
    obtain ⟨hv, hI2, hJ2⟩ := hp
    subst hv
    rw [hI2, hJ2] at hI
    refine W.eq (g2 := F0 m 21 ls [.int (nI (pop4 i))]) rfl ?_
    have h17 := pop_le i
    refine lv_iload_n hx hb dX1_divisorOverUnknowns_21 rfl (lv_at hl 4 rfl) ?_
    refine fn_icmp_ne X (tgt := 38) dX1_divisorOverUnknowns_22 (by decide) (by omega) (by omega) (fun c2 => ?_) (fun c2 => ?_)
    · refine fn_iinc (a := i) (lv' := [(5, .int (nI (i + 1))), (3, .long dv), (0, .ref (ad 0)), (1, .int (nI u)), (2, .int (nI sz))]) X dX1_divisorOverUnknowns_38 hl (k := 0) rfl (by decide) rfl (fun ls hl => ?_)
      refine lv_goto (tgt := 5) hx hb dX1_divisorOverUnknowns_41 (by decide) ?_
      exact ih (i + 1) _ _ _ _ (by omega) hI (lv_sub hl [0, 1, 2, 3, 4] rfl) (by have h9 := hF; simp only [fl_it] at h9; first | (rw [if_pos c2] at h9; exact h9) | (rw [if_neg c2] at h9; exact h9))
    · refine lv_lload_n hx hb dX1_divisorOverUnknowns_25 rfl (lv_at hl 1 rfl) ?_
      refine lv_aload_n hx hb dX1_divisorOverUnknowns_26 rfl (lv_at hl 2 rfl) ?_
      refine lv_iconst (v := nI 0) hx hb dX1_divisorOverUnknowns_27 (by decide) ?_
      refine lv_iload_n hx hb dX1_divisorOverUnknowns_28 rfl (lv_at hl 3 rfl) ?_
      refine lv_iload hx hb dX1_divisorOverUnknowns_29 (lv_at hl 0 rfl) ?_
      refine fl_callV (k := 0) (As := [.int (nI 0), .int (nI u), .int (nI i)]) (rest := [.long dv]) X hI dX1_divisorOverUnknowns_31 (m_det D dA ad N I J hN hn hn4 he he3 hu eq 0 i (by omega) (by omega)) (by omega) fl_c_5 rfl rfl wc_yX1_determinant wm_X1_149 wi_yX1_determinant wl_yX1_determinant wn_X1 hd_yX1_determinant rfl ⟨by first | decide | omega, by first | decide | omega⟩ hl.1 (Nat.le_of_ble_eq_true rfl) (fun v I2 J2 H locs hp hI => ?_)
      obtain ⟨hv, hI2, hJ2⟩ := hp
      subst hv
      rw [hI2, hJ2] at hI
      refine W.eq (g2 := F0 m 34 ls [.long (x_det n I u eq 0 i), .long dv]) rfl ?_
      refine fl_callS (As := [.long dv, .long (x_det n I u eq 0 i)]) (rest := []) X hI dX1_divisorOverUnknowns_34 (m_X1_commonDivisor D dA ad N I J dv (x_det n I u eq 0 i)) wc_yX1_commonDivisor wm_X1_113 ws_yX1_commonDivisor wn_X1 hd_yX1_commonDivisor rfl ⟨by first | decide | omega, by first | decide | omega⟩ hl.1 (Nat.le_of_ble_eq_true rfl) (fun v I2 J2 H locs hp hI => ?_)
      obtain ⟨hv, hI2, hJ2⟩ := hp
      subst hv
      rw [hI2, hJ2] at hI
      refine W.eq (g2 := F0 m 37 ls [.long (cd64 dv (x_det n I u eq 0 i))]) rfl ?_
      refine lv_lstore_n (lv' := [(3, .long (cd64 dv (x_det n I u eq 0 i))), (5, .int (nI i)), (0, .ref (ad 0)), (1, .int (nI u)), (2, .int (nI sz))]) hx hb dX1_divisorOverUnknowns_37 rfl hl (by decide) rfl (fun ls hl => ?_)
      refine fn_iinc (a := i) (lv' := [(5, .int (nI (i + 1))), (3, .long (cd64 dv (x_det n I u eq 0 i))), (0, .ref (ad 0)), (1, .int (nI u)), (2, .int (nI sz))]) X dX1_divisorOverUnknowns_38 hl (k := 1) rfl (by decide) rfl (fun ls hl => ?_)
      refine lv_goto (tgt := 5) hx hb dX1_divisorOverUnknowns_41 (by decide) ?_
      exact ih (i + 1) _ _ _ _ (by omega) hI (lv_sub hl [0, 1, 2, 3, 4] rfl) (by have h9 := hF; simp only [fl_it] at h9; first | (rw [if_pos c2] at h9; exact h9) | (rw [if_neg c2] at h9; exact h9))
theorem m_X1_dvu (D : va_G) (dA : Nat → ClassId) (ad : Nat → Nat) (N : Nat) (I : fl_TI) (J : fl_TJ) {n eq u sz : Nat} (hN : 30 ≤ N) (hn : I 0 2 = nI n) (hn4 : n ≤ 4) (he : I 0 3 = nI eq) (he3 : eq ≤ 3) (hu : u < 16) (hsz : sz ≤ 4) : FM yX1_divisorOverUnknowns cX1_divisorOverUnknowns 6 (some .long) 4 D dA ad N [.ref (ad 0), .int (nI u), .int (nI sz)] I J (fun v I' J' => v = some (.long (x_dvu n eq I u sz)) ∧ I' = I ∧ J' = J) := by
  refine FM.ofW RX1 rfl (by decide +kernel) (Nat.le_of_ble_eq_true rfl) ?_
  intro p l e s m args below meth c ls X hr hlk hI hl
  have hx := X.1
  have hb := X.2.1
  have hl : lv_has ls 6 [(0, .ref (ad 0)), (1, .int (nI u)), (2, .int (nI sz))] := hl
  refine lv_lconst (v := 0) hx hb dX1_divisorOverUnknowns_0 rfl ?_
  refine lv_lstore_n (lv' := [(3, .long 0), (0, .ref (ad 0)), (1, .int (nI u)), (2, .int (nI sz))]) hx hb dX1_divisorOverUnknowns_1 rfl hl (by decide) rfl (fun ls hl => ?_)
  refine lv_iconst (v := nI 0) hx hb dX1_divisorOverUnknowns_2 (by decide) ?_
  refine lv_istore (lv' := [(5, .int (nI 0)), (3, .long 0), (0, .ref (ad 0)), (1, .int (nI u)), (2, .int (nI sz))]) hx hb dX1_divisorOverUnknowns_3 hl (by decide) rfl (fun ls hl => ?_)
  have h16 := pw4 hn4
  refine lp_dvu X hN hn hn4 he he3 hu hsz ⟨by decide, by decide⟩ (dv9 := x_dvu n eq I u sz) (fun H locs ls hI hl => ?_) (2 ^ n) 0 _ _ _ _ (Nat.zero_add _) hI (lv_sub hl [0, 1, 2, 3, 4] rfl) rfl
  refine lv_lload_n hx hb dX1_divisorOverUnknowns_44 rfl (lv_at hl 1 rfl) ?_
  exact fl_lret X hr hlk hI dX1_divisorOverUnknowns_45 ⟨rfl, rfl, rfl⟩
theorem lp_dvd {p : Program} {l : Launch} {e : Env} {R : Room} {s : State} {m : MethodId} {args : Array Value} {below : List Frame} {meth : Method} {c : Code} {Q : State → Prop} {D : va_G} {dA : Nat → ClassId} {ad : Nat → Nat} {N : Nat} {A : Nat → Prop} {H0 : Heap} {I : fl_TI} {J : fl_TJ} {dv9 : Int64} (X : CallFix p m c cX1_divisorOfDeterminants 5 s args fl_tb RX1) {n eq sz : Nat} (hN : 30 ≤ N) (hn : I 0 2 = nI n) (hn4 : n ≤ 4) (he : I 0 3 = nI eq) (he3 : eq ≤ 3) (hsz : sz ≤ 4) (hR : 4 + 1 ≤ R.frames ∧ 8 + (11 + 11) + 40 * 4 ≤ R.locals)
    (kx : ∀ (H : Heap) (locs : List Loc) (ls : Array Slot), fl_I D dA ad N I J A s H0 H locs → lv_has ls 5 [(4, .int (nI (2 ^ eq))), (2, .long dv9), (0, .ref (ad 0)), (1, .int (nI sz))] → W p l e R s m args below meth c H locs 0 0 Q (F0 m 43 ls [])) :
    ∀ (k i : Nat) (dv : Int64) (H : Heap) (locs : List Loc) (ls : Array Slot), i + k = 2 ^ eq → fl_I D dA ad N I J A s H0 H locs → lv_has ls 5 [(4, .int (nI i)), (2, .long dv), (0, .ref (ad 0)), (1, .int (nI sz))] → fl_it (fun u dv => if pop4 u = sz then cd64 dv (x_dvu n eq I u sz) else dv) k i dv = dv9 → W p l e R s m args below meth c H locs 0 0 Q (F0 m 5 ls []) := by
  have hx := X.1
  have hb := X.2.1
  have h16 := pw4 hn4
  have h18 := pw4 (n := eq) (by omega)
  intro k
  induction k with
  | zero =>
    intro i dv H locs ls hk hI hl hF
    have hF : dv = dv9 := hF
    subst hF
    have hk : 2 ^ eq = i := by omega
    subst hk
    refine lv_iload hx hb dX1_divisorOfDeterminants_5 (lv_at hl 0 rfl) ?_
    refine lv_iconst (v := nI 1) hx hb dX1_divisorOfDeterminants_7 (by decide) ?_
    refine lv_aload_n hx hb dX1_divisorOfDeterminants_8 rfl (lv_at hl 2 rfl) ?_
    refine fl_get1 X hI dX1_divisorOfDeterminants_9 (by omega) 3 (by decide) wf_X1_46 rfl ?_
    refine W.eq (g2 := F0 m 12 ls [.int (nI eq), .int (nI 1), .int (nI (2 ^ eq))]) (by rw [he]) ?_
    refine lv_ishl hx hb dX1_divisorOfDeterminants_12 ?_
    refine W.eq (g2 := F0 m 13 ls [.int (nI (2 ^ eq)), .int (nI (2 ^ eq))]) (by rw [shl_ok (by omega)]) ?_
    refine fn_icmp_ge X (tgt := 43) dX1_divisorOfDeterminants_13 (by decide) (by omega) (by omega) (fun c1 => ?_) (fun c1 => absurd c1 (by omega))
    exact kx _ _ _ hI (lv_sub hl [0, 1, 2, 3] rfl)
  | succ k ih =>
    intro i dv H locs ls hk hI hl hF
    refine lv_iload hx hb dX1_divisorOfDeterminants_5 (lv_at hl 0 rfl) ?_
    refine lv_iconst (v := nI 1) hx hb dX1_divisorOfDeterminants_7 (by decide) ?_
    refine lv_aload_n hx hb dX1_divisorOfDeterminants_8 rfl (lv_at hl 2 rfl) ?_
    refine fl_get1 X hI dX1_divisorOfDeterminants_9 (by omega) 3 (by decide) wf_X1_46 rfl ?_
    refine W.eq (g2 := F0 m 12 ls [.int (nI eq), .int (nI 1), .int (nI i)]) (by rw [he]) ?_
    refine lv_ishl hx hb dX1_divisorOfDeterminants_12 ?_
    refine W.eq (g2 := F0 m 13 ls [.int (nI (2 ^ eq)), .int (nI i)]) (by rw [shl_ok (by omega)]) ?_
    refine fn_icmp_ge X (tgt := 43) dX1_divisorOfDeterminants_13 (by decide) (by omega) (by omega) (fun c1 => absurd c1 (by omega)) (fun c1 => ?_)
    refine lv_iload hx hb dX1_divisorOfDeterminants_16 (lv_at hl 0 rfl) ?_
    refine fl_callS (As := [.int (nI i)]) (rest := []) X hI dX1_divisorOfDeterminants_18 (m_bitCount D dA ad N I J (k := i) (by omega)) wc_yJ6_bitCount_0f7a4 wm_X1_141 ws_yJ6_bitCount_0f7a4 wn_J6 hd_yJ6_bitCount_0f7a4 rfl ⟨by first | decide | omega, by first | decide | omega⟩ hl.1 (Nat.le_of_ble_eq_true rfl) (fun v I2 J2 H locs hp hI => ?_)
    obtain ⟨hv, hI2, hJ2⟩ := hp
    subst hv
    rw [hI2, hJ2] at hI
    refine W.eq (g2 := F0 m 21 ls [.int (nI (pop4 i))]) rfl ?_
    have h17 := pop_le i
    refine lv_iload_n hx hb dX1_divisorOfDeterminants_21 rfl (lv_at hl 3 rfl) ?_
    refine fn_icmp_ne X (tgt := 37) dX1_divisorOfDeterminants_22 (by decide) (by omega) (by omega) (fun c2 => ?_) (fun c2 => ?_)
    · refine fn_iinc (a := i) (lv' := [(4, .int (nI (i + 1))), (2, .long dv), (0, .ref (ad 0)), (1, .int (nI sz))]) X dX1_divisorOfDeterminants_37 hl (k := 0) rfl (by decide) rfl (fun ls hl => ?_)
      refine lv_goto (tgt := 5) hx hb dX1_divisorOfDeterminants_40 (by decide) ?_
      exact ih (i + 1) _ _ _ _ (by omega) hI (lv_sub hl [0, 1, 2, 3] rfl) (by have h9 := hF; simp only [fl_it] at h9; first | (rw [if_pos c2] at h9; exact h9) | (rw [if_neg c2] at h9; exact h9))
    · refine lv_lload_n hx hb dX1_divisorOfDeterminants_25 rfl (lv_at hl 1 rfl) ?_
      refine lv_aload_n hx hb dX1_divisorOfDeterminants_26 rfl (lv_at hl 2 rfl) ?_
      refine lv_iload hx hb dX1_divisorOfDeterminants_27 (lv_at hl 0 rfl) ?_
      refine lv_iload_n hx hb dX1_divisorOfDeterminants_29 rfl (lv_at hl 3 rfl) ?_
      refine fl_callV (k := 0) (As := [.int (nI i), .int (nI sz)]) (rest := [.long dv]) X hI dX1_divisorOfDeterminants_30 (m_X1_dvu D dA ad N I J hN hn hn4 he he3 (u := i) (sz := sz) (by omega) hsz) (by omega) fl_c_5 rfl rfl wc_yX1_divisorOverUnknowns wm_X1_146 wi_yX1_divisorOverUnknowns wl_yX1_divisorOverUnknowns wn_X1 hd_yX1_divisorOverUnknowns rfl ⟨by first | decide | omega, by first | decide | omega⟩ hl.1 (Nat.le_of_ble_eq_true rfl) (fun v I2 J2 H locs hp hI => ?_)
      obtain ⟨hv, hI2, hJ2⟩ := hp
      subst hv
      rw [hI2, hJ2] at hI
      refine W.eq (g2 := F0 m 33 ls [.long (x_dvu n eq I i sz), .long dv]) rfl ?_
      refine fl_callS (As := [.long dv, .long (x_dvu n eq I i sz)]) (rest := []) X hI dX1_divisorOfDeterminants_33 (m_X1_commonDivisor D dA ad N I J dv (x_dvu n eq I i sz)) wc_yX1_commonDivisor wm_X1_113 ws_yX1_commonDivisor wn_X1 hd_yX1_commonDivisor rfl ⟨by first | decide | omega, by first | decide | omega⟩ hl.1 (Nat.le_of_ble_eq_true rfl) (fun v I2 J2 H locs hp hI => ?_)
      obtain ⟨hv, hI2, hJ2⟩ := hp
      subst hv
      rw [hI2, hJ2] at hI
      refine W.eq (g2 := F0 m 36 ls [.long (cd64 dv (x_dvu n eq I i sz))]) rfl ?_
      refine lv_lstore_n (lv' := [(2, .long (cd64 dv (x_dvu n eq I i sz))), (4, .int (nI i)), (0, .ref (ad 0)), (1, .int (nI sz))]) hx hb dX1_divisorOfDeterminants_36 rfl hl (by decide) rfl (fun ls hl => ?_)
      refine fn_iinc (a := i) (lv' := [(4, .int (nI (i + 1))), (2, .long (cd64 dv (x_dvu n eq I i sz))), (0, .ref (ad 0)), (1, .int (nI sz))]) X dX1_divisorOfDeterminants_37 hl (k := 1) rfl (by decide) rfl (fun ls hl => ?_)
      refine lv_goto (tgt := 5) hx hb dX1_divisorOfDeterminants_40 (by decide) ?_
      exact ih (i + 1) _ _ _ _ (by omega) hI (lv_sub hl [0, 1, 2, 3] rfl) (by have h9 := hF; simp only [fl_it] at h9; first | (rw [if_pos c2] at h9; exact h9) | (rw [if_neg c2] at h9; exact h9))
theorem m_X1_dvd (D : va_G) (dA : Nat → ClassId) (ad : Nat → Nat) (N : Nat) (I : fl_TI) (J : fl_TJ) {n eq sz : Nat} (hN : 30 ≤ N) (hn : I 0 2 = nI n) (hn4 : n ≤ 4) (he : I 0 3 = nI eq) (he3 : eq ≤ 3) (hsz : sz ≤ 4) : FM yX1_divisorOfDeterminants cX1_divisorOfDeterminants 5 (some .long) 5 D dA ad N [.ref (ad 0), .int (nI sz)] I J (fun v I' J' => v = some (.long (x_dvd n eq I sz)) ∧ I' = I ∧ J' = J) := by
  refine FM.ofW RX1 rfl (by decide +kernel) (Nat.le_of_ble_eq_true rfl) ?_
  intro p l e s m args below meth c ls X hr hlk hI hl
  have hx := X.1
  have hb := X.2.1
  have hl : lv_has ls 5 [(0, .ref (ad 0)), (1, .int (nI sz))] := hl
  refine lv_lconst (v := 0) hx hb dX1_divisorOfDeterminants_0 rfl ?_
  refine lv_lstore_n (lv' := [(2, .long 0), (0, .ref (ad 0)), (1, .int (nI sz))]) hx hb dX1_divisorOfDeterminants_1 rfl hl (by decide) rfl (fun ls hl => ?_)
  refine lv_iconst (v := nI 0) hx hb dX1_divisorOfDeterminants_2 (by decide) ?_
  refine lv_istore (lv' := [(4, .int (nI 0)), (2, .long 0), (0, .ref (ad 0)), (1, .int (nI sz))]) hx hb dX1_divisorOfDeterminants_3 hl (by decide) rfl (fun ls hl => ?_)
  refine lp_dvd X hN hn hn4 he he3 hsz ⟨by decide, by decide⟩ (dv9 := x_dvd n eq I sz) (fun H locs ls hI hl => ?_) (2 ^ eq) 0 _ _ _ _ (Nat.zero_add _) hI (lv_sub hl [0, 1, 2, 3] rfl) rfl
  refine lv_lload_n hx hb dX1_divisorOfDeterminants_43 rfl (lv_at hl 1 rfl) ?_
  exact fl_lret X hr hlk hI dX1_divisorOfDeterminants_44 ⟨rfl, rfl, rfl⟩
theorem m_X1_invariant_bad (D : va_G) (dA : Nat → ClassId) (ad : Nat → Nat) (N : Nat) (I : fl_TI) (J : fl_TJ) (hN : 30 ≤ N) {n eq rr rk : Nat} (ok : x_ok I n eq rr rk) {x : Int32} (hbad : x < nI 1 ∨ nI eq < x ∨ ¬ x ≤ nI n) : FM yX1_invariant cX1_invariant 6 (some .long) 6 D dA ad N [.ref (ad 0), .int x] I J (fun v I' J' => v = some (.long (-1000000000000000)) ∧ I' = I ∧ J' = J) := by
  refine FM.ofW RX1 rfl (by decide +kernel) (Nat.le_of_ble_eq_true rfl) ?_
  intro p l e s m args below meth c ls X hr hlk hI hl
  have hx := X.1
  have hb := X.2.1
  have hl : lv_has ls 6 [(0, .ref (ad 0)), (1, .int x)] := hl
  obtain ⟨hn, ⟨hn1, hn4⟩, he, he3, hrr, hrn, hh, hw, hrk, hrk4, hld⟩ := ok
  refine lv_iload_n hx hb dX1_invariant_0 rfl (lv_at hl 1 rfl) ?_
  refine lv_iconst (v := nI 1) hx hb dX1_invariant_1 (by decide) ?_
  refine lv_icmp_lt (tgt := 21) hx hb dX1_invariant_2 (by decide) (fun c1 => ?_) (fun c1 => ?_)
  · refine W.ldc2 (v := (-1000000000000000)) hx hb X.2.2.2.1 (X.2.2.2.2 _ wk_X1_70) rfl dX1_invariant_21 ?_
    refine W.eq (g2 := F0 m 24 ls [.long ((-1000000000000000))]) rfl ?_
    exact fl_lret X hr hlk hI dX1_invariant_24 ⟨rfl, rfl, rfl⟩
  · refine lv_iload_n hx hb dX1_invariant_5 rfl (lv_at hl 1 rfl) ?_
    refine lv_aload_n hx hb dX1_invariant_6 rfl (lv_at hl 0 rfl) ?_
    refine fl_get1 X hI dX1_invariant_7 (by omega) 3 (by decide) wf_X1_46 rfl ?_
    refine W.eq (g2 := F0 m 10 ls [.int (nI eq), .int x]) (by rw [he]) ?_
    refine lv_icmp_gt (tgt := 21) hx hb dX1_invariant_10 (by decide) (fun c2 => ?_) (fun c2 => ?_)
    · refine W.ldc2 (v := (-1000000000000000)) hx hb X.2.2.2.1 (X.2.2.2.2 _ wk_X1_70) rfl dX1_invariant_21 ?_
      refine W.eq (g2 := F0 m 24 ls [.long ((-1000000000000000))]) rfl ?_
      exact fl_lret X hr hlk hI dX1_invariant_24 ⟨rfl, rfl, rfl⟩
    · refine lv_iload_n hx hb dX1_invariant_13 rfl (lv_at hl 1 rfl) ?_
      refine lv_aload_n hx hb dX1_invariant_14 rfl (lv_at hl 0 rfl) ?_
      refine fl_get1 X hI dX1_invariant_15 (by omega) 2 (by decide) wf_X1_42 rfl ?_
      refine W.eq (g2 := F0 m 18 ls [.int (nI n), .int x]) (by rw [hn]) ?_
      refine lv_icmp_le (tgt := 25) hx hb dX1_invariant_18 (by decide) (fun c3 => ?_) (fun c3 => ?_)
      · exact absurd hbad (fun q => q.elim c1 (fun q => q.elim c2 (fun z => z c3)))
      · refine W.ldc2 (v := (-1000000000000000)) hx hb X.2.2.2.1 (X.2.2.2.2 _ wk_X1_70) rfl dX1_invariant_21 ?_
        refine W.eq (g2 := F0 m 24 ls [.long ((-1000000000000000))]) rfl ?_
        exact fl_lret X hr hlk hI dX1_invariant_24 ⟨rfl, rfl, rfl⟩
def x_inv (n eq : Nat) (I : fl_TI) (sz : Nat) : Int64 := if x_dvd n eq I (sz - 1) = 0 then 0 else x_dvd n eq I sz / x_dvd n eq I (sz - 1)
theorem m_X1_invariant (D : va_G) (dA : Nat → ClassId) (ad : Nat → Nat) (N : Nat) (I : fl_TI) (J : fl_TJ) (hN : 30 ≤ N) {n eq rr rk : Nat} (ok : x_ok I n eq rr rk) {sz : Nat} (h1 : 1 ≤ sz) (h2 : sz ≤ eq) (h3 : sz ≤ n) : FM yX1_invariant cX1_invariant 6 (some .long) 6 D dA ad N [.ref (ad 0), .int (nI sz)] I J (fun v I' J' => v = some (.long (x_inv n eq I sz)) ∧ I' = I ∧ J' = J) := by
  refine FM.ofW RX1 rfl (by decide +kernel) (Nat.le_of_ble_eq_true rfl) ?_
  intro p l e s m args below meth c ls X hr hlk hI hl
  have hx := X.1
  have hb := X.2.1
  have hl : lv_has ls 6 [(0, .ref (ad 0)), (1, .int (nI sz))] := hl
  obtain ⟨hn, ⟨hn1, hn4⟩, he, he3, hrr, hrn, hh, hw, hrk, hrk4, hld⟩ := ok
  refine lv_iload_n hx hb dX1_invariant_0 rfl (lv_at hl 1 rfl) ?_
  refine lv_iconst (v := nI 1) hx hb dX1_invariant_1 (by decide) ?_
  refine fn_icmp_lt X (tgt := 21) dX1_invariant_2 (by decide) (by omega) (by omega) (fun c1 => absurd c1 (by omega)) (fun c1 => ?_)
  refine lv_iload_n hx hb dX1_invariant_5 rfl (lv_at hl 1 rfl) ?_
  refine lv_aload_n hx hb dX1_invariant_6 rfl (lv_at hl 0 rfl) ?_
  refine fl_get1 X hI dX1_invariant_7 (by omega) 3 (by decide) wf_X1_46 rfl ?_
  refine W.eq (g2 := F0 m 10 ls [.int (nI eq), .int (nI sz)]) (by rw [he]) ?_
  refine fn_icmp_gt X (tgt := 21) dX1_invariant_10 (by decide) (by omega) (by omega) (fun c2 => absurd c2 (by omega)) (fun c2 => ?_)
  refine lv_iload_n hx hb dX1_invariant_13 rfl (lv_at hl 1 rfl) ?_
  refine lv_aload_n hx hb dX1_invariant_14 rfl (lv_at hl 0 rfl) ?_
  refine fl_get1 X hI dX1_invariant_15 (by omega) 2 (by decide) wf_X1_42 rfl ?_
  refine W.eq (g2 := F0 m 18 ls [.int (nI n), .int (nI sz)]) (by rw [hn]) ?_
  refine fn_icmp_le X (tgt := 25) dX1_invariant_18 (by decide) (by omega) (by omega) (fun c3 => ?_) (fun c3 => absurd c3 (by omega))
  refine lv_aload_n hx hb dX1_invariant_25 rfl (lv_at hl 0 rfl) ?_
  refine lv_iload_n hx hb dX1_invariant_26 rfl (lv_at hl 1 rfl) ?_
  refine fl_callV (k := 0) (As := [.int (nI sz)]) (rest := []) X hI dX1_invariant_27 (m_X1_dvd D dA ad N I J hN hn hn4 he he3 (sz := sz) (by omega)) (by omega) fl_c_5 rfl rfl wc_yX1_divisorOfDeterminants wm_X1_93 wi_yX1_divisorOfDeterminants wl_yX1_divisorOfDeterminants wn_X1 hd_yX1_divisorOfDeterminants rfl ⟨by first | decide | omega, by first | decide | omega⟩ hl.1 (Nat.le_of_ble_eq_true rfl) (fun v I2 J2 H locs hp hI => ?_)
  obtain ⟨hv, hI2, hJ2⟩ := hp
  subst hv
  rw [hI2, hJ2] at hI
  refine W.eq (g2 := F0 m 30 ls [.long (x_dvd n eq I sz)]) rfl ?_
  refine lv_lstore_n (lv' := [(2, .long (x_dvd n eq I sz)), (0, .ref (ad 0)), (1, .int (nI sz))]) hx hb dX1_invariant_30 rfl hl (by decide) rfl (fun ls hl => ?_)
  refine lv_aload_n hx hb dX1_invariant_31 rfl (lv_at hl 1 rfl) ?_
  refine lv_iload_n hx hb dX1_invariant_32 rfl (lv_at hl 2 rfl) ?_
  refine lv_iconst (v := nI 1) hx hb dX1_invariant_33 (by decide) ?_
  refine fn_isub X dX1_invariant_34 (by omega) ?_
  refine fl_callV (k := 0) (As := [.int (nI (sz - 1))]) (rest := []) X hI dX1_invariant_35 (m_X1_dvd D dA ad N I J hN hn hn4 he he3 (sz := sz - 1) (by omega)) (by omega) fl_c_5 rfl rfl wc_yX1_divisorOfDeterminants wm_X1_93 wi_yX1_divisorOfDeterminants wl_yX1_divisorOfDeterminants wn_X1 hd_yX1_divisorOfDeterminants rfl ⟨by first | decide | omega, by first | decide | omega⟩ hl.1 (Nat.le_of_ble_eq_true rfl) (fun v I2 J2 H locs hp hI => ?_)
  obtain ⟨hv, hI2, hJ2⟩ := hp
  subst hv
  rw [hI2, hJ2] at hI
  refine W.eq (g2 := F0 m 38 ls [.long (x_dvd n eq I (sz - 1))]) rfl ?_
  refine lv_lstore (lv' := [(4, .long (x_dvd n eq I (sz - 1))), (2, .long (x_dvd n eq I sz)), (0, .ref (ad 0)), (1, .int (nI sz))]) hx hb dX1_invariant_38 hl (by decide) rfl (fun ls hl => ?_)
  refine lv_lload hx hb dX1_invariant_40 (lv_at hl 0 rfl) ?_
  refine lv_lconst (v := 0) hx hb dX1_invariant_42 rfl ?_
  refine fl_lc_ne (tgt := 51) hx hb dX1_invariant_43 dX1_invariant_44 (by decide) (fun c4 => ?_) (fun c4 => ?_)
  · refine lv_lload_n hx hb dX1_invariant_51 rfl (lv_at hl 1 rfl) ?_
    refine lv_lload hx hb dX1_invariant_52 (lv_at hl 0 rfl) ?_
    refine lv_ldiv hx hb dX1_invariant_54 c4 ?_
    exact fl_lret X hr hlk hI dX1_invariant_55 ⟨by unfold x_inv; first | rw [if_pos c4] | rw [if_neg c4], rfl, rfl⟩
  · refine lv_lconst (v := 0) hx hb dX1_invariant_47 rfl ?_
    refine lv_goto (tgt := 55) hx hb dX1_invariant_48 (by decide) ?_
    exact fl_lret X hr hlk hI dX1_invariant_55 ⟨by unfold x_inv; first | rw [if_pos c4] | rw [if_neg c4], rfl, rfl⟩
end
section
/-! box: the turns -/
theorem wc_max : Cond.code Lib.MathLoose.max_long.x Lib.MathLoose.max_long.code 4 (some .long) ∈ fl_tb := by
  have e1 : Lib.MathLoose.max_long.x = yJ9_max_f86c9 := rfl
  have e2 : Lib.MathLoose.max_long.code = cJ9_max_f86c9 := by decide +kernel
  rw [e1, e2]
  exact wc_yJ9_max_f86c9
theorem wc_min : Cond.code Lib.MathLoose.min_long.x Lib.MathLoose.min_long.code 4 (some .long) ∈ fl_tb := by
  have e1 : Lib.MathLoose.min_long.x = yJ9_min_f86c9 := rfl
  have e2 : Lib.MathLoose.min_long.code = cJ9_min_f86c9 := by decide +kernel
  rw [e1, e2]
  exact wc_yJ9_min_f86c9
def mx64 (x y : Int64) : Int64 := if y < x then x else y
def mn64 (x y : Int64) : Int64 := if y < x then y else x
section FLM2
variable {p : Program} {l : Launch} {e : Env} {R : Room} {s : State} {m : MethodId} {args : Array Value} {below : List Frame} {meth : Method} {c : Code} {H : Heap} {locs : List Loc} {Q : State → Prop}
variable {cc : ByteArray} {nL pc : Nat} {own : String} {ls : Array Slot} {rest : List Value}
theorem fl_max {index : Nat} {x y : Int64} (X : CallFix p m c cc nL s args fl_tb own) (hdg : decode cc pc = .ok (.invokestatic index, 3)) (wm : Cond.methodLink own index yJ9_max_f86c9 ∈ fl_tb) (hl : ls.size = nL) (hf : 1 ≤ R.frames) (hlo : (rest.map fun v => v.category).sum + 15 ≤ R.locals)
    (kk : W p l e R s m args below meth c H locs 0 0 Q (F0 m (pc + 3) ls (.long (mx64 x y) :: rest))) : W p l e R s m args below meth c H locs 0 0 Q (F0 m pc ls (.long y :: .long x :: rest)) :=
  va_mmax_long X.1 X.2.1 (X.2.2.1.trans hl.symm) X.2.2.2.1 (X.2.2.2.2 _ wm) (X.2.2.2.2 _ ws_yJ9_max_f86c9) (X.2.2.2.2 _ wn_J9) (X.2.2.2.2 _ wc_max) hf hlo (Nat.zero_le _) (Nat.zero_le _) hdg kk
theorem fl_min {index : Nat} {x y : Int64} (X : CallFix p m c cc nL s args fl_tb own) (hdg : decode cc pc = .ok (.invokestatic index, 3)) (wm : Cond.methodLink own index yJ9_min_f86c9 ∈ fl_tb) (hl : ls.size = nL) (hf : 1 ≤ R.frames) (hlo : (rest.map fun v => v.category).sum + 15 ≤ R.locals)
    (kk : W p l e R s m args below meth c H locs 0 0 Q (F0 m (pc + 3) ls (.long (mn64 x y) :: rest))) : W p l e R s m args below meth c H locs 0 0 Q (F0 m pc ls (.long y :: .long x :: rest)) :=
  va_mmin_long X.1 X.2.1 (X.2.2.1.trans hl.symm) X.2.2.2.1 (X.2.2.2.2 _ wm) (X.2.2.2.2 _ ws_yJ9_min_f86c9) (X.2.2.2.2 _ wn_J9) (X.2.2.2.2 _ wc_min) hf hlo (Nat.zero_le _) (Nat.zero_le _) hdg kk
end FLM2
def x_lu (n eq rr : Nat) (I : fl_TI) (i : Nat) : Nat := if rr + i < n then ldI I 12 (rr + i) - eq else n
/-- what the box asks of the leads -/
def x_ld (n eq rr : Nat) (I : fl_TI) : Prop := ∀ i, rr + i < n → I 12 (rr + i) = nI (ldI I 12 (rr + i)) ∧ eq ≤ ldI I 12 (rr + i) ∧ ldI I 12 (rr + i) < eq + n
theorem x_lu_le {n eq rr : Nat} {I : fl_TI} (h : x_ld n eq rr I) (i : Nat) : x_lu n eq rr I i ≤ n := by
  unfold x_lu
  by_cases q : rr + i < n
  · rw [if_pos q]; have := (h i q).2; omega
  · rw [if_neg q]; exact Nat.le_refl _
def x_lt1 (xl xh : Int32) (sp nw ls : Int64) : Int64 := if sp = 0 then (if nw < xl.toInt64 then 1000000000000000 else if xh.toInt64 < nw then 1000000000000000 else ls) else mx64 ls (-(fd64 (nw - (if 0 < sp then xl else xh).toInt64) sp))
def x_least (n eq rr : Nat) (xl xh : Int32) (I : fl_TI) (a : Nat) (J : fl_TJ) : Int64 := fl_it (fun j ls => x_lt1 xl xh (J (6 + 2 + (rr + a)) (eq + j)) (J (25 + a) j) ls) (x_lu n eq rr I (a + 1) - x_lu n eq rr I a) (x_lu n eq rr I a) (-1000000000000000)
def x_mt1 (xl xh : Int32) (sp nw ms : Int64) : Int64 := if sp = 0 then ms else mn64 ms (fd64 ((if 0 < sp then xh else xl).toInt64 - nw) sp)
def x_most (n eq rr : Nat) (xl xh : Int32) (I : fl_TI) (a : Nat) (J : fl_TJ) : Int64 := fl_it (fun j ms => x_mt1 xl xh (J (6 + 2 + (rr + a)) (eq + j)) (J (25 + a) j) ms) (x_lu n eq rr I (a + 1) - x_lu n eq rr I a) (x_lu n eq rr I a) 999999999999999
theorem lp_least {p : Program} {l : Launch} {e : Env} {R : Room} {s : State} {m : MethodId} {args : Array Value} {below : List Frame} {meth : Method} {c : Code} {Q : State → Prop} {D : va_G} {dA : Nat → ClassId} {ad : Nat → Nat} {N : Nat} {A : Nat → Prop} {H0 : Heap} {I : fl_TI} {J : fl_TJ} {lt9 : Int64} (X : CallFix p m c cX1_leastTurns 13 s args fl_tb RX1) {n eq rr a en : Nat} {xl xh : Int32} (hN : 30 ≤ N) (hn : I 0 2 = nI n) (hn4 : n ≤ 4) (he : I 0 3 = nI eq) (he3 : eq ≤ 3) (hrr : I 0 6 = nI rr) (hrn : rr ≤ n) (hxl : x_ld n eq rr I) (ha : rr + a < n) (hen : en ≤ n) (hR : 1 + 1 ≤ R.frames ∧ 8 + (13 + 11) + 40 * 1 ≤ R.locals)
    (kx : ∀ (H : Heap) (locs : List Loc) (ls : Array Slot), fl_I D dA ad N I J A s H0 H locs → lv_has ls 13 [(7, .int (nI en)), (5, .long lt9), (4, .int (nI en)), (0, .ref (ad 0)), (1, .int (nI a)), (2, .int xl), (3, .int xh)] → W p l e R s m args below meth c H locs 0 0 Q (F0 m 118 ls [])) :
    ∀ (k i : Nat) (lt : Int64) (H : Heap) (locs : List Loc) (ls : Array Slot), i + k = en → fl_I D dA ad N I J A s H0 H locs → lv_has ls 13 [(7, .int (nI i)), (5, .long lt), (4, .int (nI en)), (0, .ref (ad 0)), (1, .int (nI a)), (2, .int xl), (3, .int xh)] → fl_it (fun j ls => x_lt1 xl xh (J (6 + 2 + (rr + a)) (eq + j)) (J (25 + a) j) ls) k i lt = lt9 → W p l e R s m args below meth c H locs 0 0 Q (F0 m 21 ls []) := by
  have hx := X.1
  have hb := X.2.1
  intro k
  induction k with
  | zero =>
    intro i lt H locs ls hk hI hl hF
    have hF : lt = lt9 := hF
    subst hF
    have hk : en = i := by omega
    subst hk
    refine lv_iload hx hb dX1_leastTurns_21 (lv_at hl 0 rfl) ?_
    refine lv_iload hx hb dX1_leastTurns_23 (lv_at hl 2 rfl) ?_
    refine fn_icmp_ge X (tgt := 118) dX1_leastTurns_25 (by decide) (by omega) (by omega) (fun c1 => ?_) (fun c1 => absurd c1 (by omega))
    exact kx _ _ _ hI (lv_sub hl [0, 1, 2, 3, 4, 5, 6] rfl)
  | succ k ih =>
    intro i lt H locs ls hk hI hl hF
    refine lv_iload hx hb dX1_leastTurns_21 (lv_at hl 0 rfl) ?_
    refine lv_iload hx hb dX1_leastTurns_23 (lv_at hl 2 rfl) ?_
    refine fn_icmp_ge X (tgt := 118) dX1_leastTurns_25 (by decide) (by omega) (by omega) (fun c1 => absurd c1 (by omega)) (fun c1 => ?_)
    refine lv_aload_n hx hb dX1_leastTurns_28 rfl (lv_at hl 3 rfl) ?_
    refine lv_iload_n hx hb dX1_leastTurns_29 rfl (lv_at hl 4 rfl) ?_
    refine lv_iload hx hb dX1_leastTurns_30 (lv_at hl 0 rfl) ?_
    refine fl_callV (k := 0) (As := [.int (nI a), .int (nI i)]) (rest := []) X hI dX1_leastTurns_32 (m_X1_basisNumber D dA ad N I J hN he hrr (by omega) (by omega)) (by omega) fl_c_5 rfl rfl wc_yX1_basisNumber wm_X1_72 wi_yX1_basisNumber wl_yX1_basisNumber wn_X1 hd_yX1_basisNumber rfl ⟨by first | decide | omega, by first | decide | omega⟩ hl.1 (Nat.le_of_ble_eq_true rfl) (fun v I2 J2 H locs hp hI => ?_)
    obtain ⟨hv, hI2, hJ2⟩ := hp
    subst hv
    rw [hI2, hJ2] at hI
    refine W.eq (g2 := F0 m 35 ls [.long (J (6 + 2 + (rr + a)) (eq + i))]) rfl ?_
    refine lv_lstore (lv' := [(8, .long (J (6 + 2 + (rr + a)) (eq + i))), (7, .int (nI i)), (5, .long lt), (4, .int (nI en)), (0, .ref (ad 0)), (1, .int (nI a)), (2, .int xl), (3, .int xh)]) hx hb dX1_leastTurns_35 hl (by decide) rfl (fun ls hl => ?_)
    refine lv_aload_n hx hb dX1_leastTurns_37 rfl (lv_at hl 4 rfl) ?_
    refine fl_get1 X hI dX1_leastTurns_38 (by omega) 10 (by decide) wf_X1_39 rfl ?_
    refine lv_iload_n hx hb dX1_leastTurns_41 rfl (lv_at hl 5 rfl) ?_
    refine fn_aald3 (k := 24) X hI dX1_leastTurns_42 (by omega) rfl (show a < 5 by omega) ?_
    refine lv_iload hx hb dX1_leastTurns_43 (lv_at hl 1 rfl) ?_
    refine fn_lald (k := 25 + a) X hI dX1_leastTurns_45 (by omega) (fk25 (by omega)) (by rw [fn25 (by omega)]; omega) ?_
    refine lv_lstore (lv' := [(10, .long (J (25 + a) i)), (8, .long (J (6 + 2 + (rr + a)) (eq + i))), (7, .int (nI i)), (5, .long lt), (4, .int (nI en)), (0, .ref (ad 0)), (1, .int (nI a)), (2, .int xl), (3, .int xh)]) hx hb dX1_leastTurns_46 hl (by decide) rfl (fun ls hl => ?_)
    refine lv_lload hx hb dX1_leastTurns_48 (lv_at hl 1 rfl) ?_
    refine lv_lconst (v := 0) hx hb dX1_leastTurns_50 rfl ?_
    refine fl_lc_eq (tgt := 91) hx hb dX1_leastTurns_51 dX1_leastTurns_52 (by decide) (fun c2 => ?_) (fun c2 => ?_)
    · refine lv_lload hx hb dX1_leastTurns_91 (lv_at hl 0 rfl) ?_
      refine lv_iload_n hx hb dX1_leastTurns_93 rfl (lv_at hl 7 rfl) ?_
      refine lv_i2l hx hb dX1_leastTurns_94 rfl ?_
      refine fl_lc_lt (tgt := 107) hx hb dX1_leastTurns_95 dX1_leastTurns_96 (by decide) (fun c3 => ?_) (fun c3 => ?_)
      · refine W.ldc2 (v := (1000000000000000)) hx hb X.2.2.2.1 (X.2.2.2.2 _ wk_X1_180) rfl dX1_leastTurns_107 ?_
        refine W.eq (g2 := F0 m 110 ls [.long ((1000000000000000))]) rfl ?_
        refine lv_lstore (lv' := [(5, .long ((1000000000000000))), (10, .long (J (25 + a) i)), (8, .long (J (6 + 2 + (rr + a)) (eq + i))), (7, .int (nI i)), (4, .int (nI en)), (0, .ref (ad 0)), (1, .int (nI a)), (2, .int xl), (3, .int xh)]) hx hb dX1_leastTurns_110 hl (by decide) rfl (fun ls hl => ?_)
        refine fn_iinc (a := i) (lv' := [(7, .int (nI (i + 1))), (5, .long ((1000000000000000))), (10, .long (J (25 + a) i)), (8, .long (J (6 + 2 + (rr + a)) (eq + i))), (4, .int (nI en)), (0, .ref (ad 0)), (1, .int (nI a)), (2, .int xl), (3, .int xh)]) X dX1_leastTurns_112 hl (k := 3) rfl (by decide) rfl (fun ls hl => ?_)
        refine lv_goto (tgt := 21) hx hb dX1_leastTurns_115 (by decide) ?_
        exact ih (i + 1) _ _ _ _ (by omega) hI (lv_sub hl [0, 1, 4, 5, 6, 7, 8] rfl) (by have h9 := hF; simp only [fl_it, x_lt1] at h9; (first | rw [if_pos c2] at h9 | rw [if_neg c2] at h9 | skip); (first | rw [if_pos c3] at h9 | rw [if_neg c3] at h9 | skip); exact h9)
      · refine lv_lload hx hb dX1_leastTurns_99 (lv_at hl 0 rfl) ?_
        refine lv_iload_n hx hb dX1_leastTurns_101 rfl (lv_at hl 8 rfl) ?_
        refine lv_i2l hx hb dX1_leastTurns_102 rfl ?_
        refine fl_lc_le (tgt := 112) hx hb dX1_leastTurns_103 dX1_leastTurns_104 (by decide) (fun c4 => ?_) (fun c4 => ?_)
        · refine fn_iinc (a := i) (lv' := [(7, .int (nI (i + 1))), (10, .long (J (25 + a) i)), (8, .long (J (6 + 2 + (rr + a)) (eq + i))), (5, .long lt), (4, .int (nI en)), (0, .ref (ad 0)), (1, .int (nI a)), (2, .int xl), (3, .int xh)]) X dX1_leastTurns_112 hl (k := 2) rfl (by decide) rfl (fun ls hl => ?_)
          refine lv_goto (tgt := 21) hx hb dX1_leastTurns_115 (by decide) ?_
          exact ih (i + 1) _ _ _ _ (by omega) hI (lv_sub hl [0, 3, 4, 5, 6, 7, 8] rfl) (by have h9 := hF; simp only [fl_it, x_lt1] at h9; (first | rw [if_pos c2] at h9 | rw [if_neg c2] at h9 | skip); (first | rw [if_pos c3] at h9 | rw [if_neg c3] at h9 | skip); (first | rw [if_pos c4] at h9 | rw [if_neg c4] at h9 | skip); exact h9)
        · refine W.ldc2 (v := (1000000000000000)) hx hb X.2.2.2.1 (X.2.2.2.2 _ wk_X1_180) rfl dX1_leastTurns_107 ?_
          refine W.eq (g2 := F0 m 110 ls [.long ((1000000000000000))]) rfl ?_
          refine lv_lstore (lv' := [(5, .long ((1000000000000000))), (10, .long (J (25 + a) i)), (8, .long (J (6 + 2 + (rr + a)) (eq + i))), (7, .int (nI i)), (4, .int (nI en)), (0, .ref (ad 0)), (1, .int (nI a)), (2, .int xl), (3, .int xh)]) hx hb dX1_leastTurns_110 hl (by decide) rfl (fun ls hl => ?_)
          refine fn_iinc (a := i) (lv' := [(7, .int (nI (i + 1))), (5, .long ((1000000000000000))), (10, .long (J (25 + a) i)), (8, .long (J (6 + 2 + (rr + a)) (eq + i))), (4, .int (nI en)), (0, .ref (ad 0)), (1, .int (nI a)), (2, .int xl), (3, .int xh)]) X dX1_leastTurns_112 hl (k := 3) rfl (by decide) rfl (fun ls hl => ?_)
          refine lv_goto (tgt := 21) hx hb dX1_leastTurns_115 (by decide) ?_
          exact ih (i + 1) _ _ _ _ (by omega) hI (lv_sub hl [0, 1, 4, 5, 6, 7, 8] rfl) (by have h9 := hF; simp only [fl_it, x_lt1] at h9; (first | rw [if_pos c2] at h9 | rw [if_neg c2] at h9 | skip); (first | rw [if_pos c3] at h9 | rw [if_neg c3] at h9 | skip); (first | rw [if_pos c4] at h9 | rw [if_neg c4] at h9 | skip); exact h9)
    · refine lv_lload hx hb dX1_leastTurns_55 (lv_at hl 1 rfl) ?_
      refine lv_lconst (v := 0) hx hb dX1_leastTurns_57 rfl ?_
      refine fl_lc_le (tgt := 66) hx hb dX1_leastTurns_58 dX1_leastTurns_59 (by decide) (fun c5 => ?_) (fun c5 => ?_)
      · refine lv_iload_n hx hb dX1_leastTurns_66 rfl (lv_at hl 8 rfl) ?_
        refine lv_istore (lv' := [(12, .int xh), (10, .long (J (25 + a) i)), (8, .long (J (6 + 2 + (rr + a)) (eq + i))), (7, .int (nI i)), (5, .long lt), (4, .int (nI en)), (0, .ref (ad 0)), (1, .int (nI a)), (2, .int xl), (3, .int xh)]) hx hb dX1_leastTurns_67 hl (by decide) rfl (fun ls hl => ?_)
        refine lv_lload hx hb dX1_leastTurns_69 (lv_at hl 4 rfl) ?_
        refine lv_lload hx hb dX1_leastTurns_71 (lv_at hl 1 rfl) ?_
        refine lv_iload hx hb dX1_leastTurns_73 (lv_at hl 0 rfl) ?_
        refine lv_i2l hx hb dX1_leastTurns_75 rfl ?_
        refine lv_lsub hx hb dX1_leastTurns_76 ?_
        refine lv_lload hx hb dX1_leastTurns_77 (lv_at hl 2 rfl) ?_
        refine fl_callS (As := [.long ((J (25 + a) i) - xh.toInt64), .long (J (6 + 2 + (rr + a)) (eq + i))]) (rest := [.long lt]) X hI dX1_leastTurns_79 (m_floorDiv D dA ad N I J ((J (25 + a) i) - xh.toInt64) (J (6 + 2 + (rr + a)) (eq + i)) c2) wc_yJ9_floorDiv_f86c9 wm_X1_174 ws_yJ9_floorDiv_f86c9 wn_J9 hd_yJ9_floorDiv_f86c9 rfl ⟨by first | decide | omega, by first | decide | omega⟩ hl.1 (Nat.le_of_ble_eq_true rfl) (fun v I2 J2 H locs hp hI => ?_)
        obtain ⟨hv, hI2, hJ2⟩ := hp
        subst hv
        rw [hI2, hJ2] at hI
        refine W.eq (g2 := F0 m 82 ls [.long (fd64 ((J (25 + a) i) - xh.toInt64) (J (6 + 2 + (rr + a)) (eq + i))), .long lt]) rfl ?_
        refine lv_lneg hx hb dX1_leastTurns_82 ?_
        refine fl_max X dX1_leastTurns_83 wm_X1_177 hl.1 (by first | decide | omega) (by first | decide | (simp [Value.category]; omega)) ?_
        refine lv_lstore (lv' := [(5, .long (mx64 lt (-(fd64 ((J (25 + a) i) - xh.toInt64) (J (6 + 2 + (rr + a)) (eq + i)))))), (12, .int xh), (10, .long (J (25 + a) i)), (8, .long (J (6 + 2 + (rr + a)) (eq + i))), (7, .int (nI i)), (4, .int (nI en)), (0, .ref (ad 0)), (1, .int (nI a)), (2, .int xl), (3, .int xh)]) hx hb dX1_leastTurns_86 hl (by decide) rfl (fun ls hl => ?_)
        refine lv_goto (tgt := 112) hx hb dX1_leastTurns_88 (by decide) ?_
        refine fn_iinc (a := i) (lv' := [(7, .int (nI (i + 1))), (5, .long (mx64 lt (-(fd64 ((J (25 + a) i) - xh.toInt64) (J (6 + 2 + (rr + a)) (eq + i)))))), (12, .int xh), (10, .long (J (25 + a) i)), (8, .long (J (6 + 2 + (rr + a)) (eq + i))), (4, .int (nI en)), (0, .ref (ad 0)), (1, .int (nI a)), (2, .int xl), (3, .int xh)]) X dX1_leastTurns_112 hl (k := 4) rfl (by decide) rfl (fun ls hl => ?_)
        refine lv_goto (tgt := 21) hx hb dX1_leastTurns_115 (by decide) ?_
        exact ih (i + 1) _ _ _ _ (by omega) hI (lv_sub hl [0, 1, 5, 6, 7, 8, 9] rfl) (by have h9 := hF; simp only [fl_it, x_lt1] at h9; (first | rw [if_pos c2] at h9 | rw [if_neg c2] at h9 | skip); (first | rw [if_pos c5] at h9 | rw [if_neg c5] at h9 | skip); exact h9)
      · refine lv_iload_n hx hb dX1_leastTurns_62 rfl (lv_at hl 7 rfl) ?_
        refine lv_goto (tgt := 67) hx hb dX1_leastTurns_63 (by decide) ?_
        refine lv_istore (lv' := [(12, .int xl), (10, .long (J (25 + a) i)), (8, .long (J (6 + 2 + (rr + a)) (eq + i))), (7, .int (nI i)), (5, .long lt), (4, .int (nI en)), (0, .ref (ad 0)), (1, .int (nI a)), (2, .int xl), (3, .int xh)]) hx hb dX1_leastTurns_67 hl (by decide) rfl (fun ls hl => ?_)
        refine lv_lload hx hb dX1_leastTurns_69 (lv_at hl 4 rfl) ?_
        refine lv_lload hx hb dX1_leastTurns_71 (lv_at hl 1 rfl) ?_
        refine lv_iload hx hb dX1_leastTurns_73 (lv_at hl 0 rfl) ?_
        refine lv_i2l hx hb dX1_leastTurns_75 rfl ?_
        refine lv_lsub hx hb dX1_leastTurns_76 ?_
        refine lv_lload hx hb dX1_leastTurns_77 (lv_at hl 2 rfl) ?_
        refine fl_callS (As := [.long ((J (25 + a) i) - xl.toInt64), .long (J (6 + 2 + (rr + a)) (eq + i))]) (rest := [.long lt]) X hI dX1_leastTurns_79 (m_floorDiv D dA ad N I J ((J (25 + a) i) - xl.toInt64) (J (6 + 2 + (rr + a)) (eq + i)) c2) wc_yJ9_floorDiv_f86c9 wm_X1_174 ws_yJ9_floorDiv_f86c9 wn_J9 hd_yJ9_floorDiv_f86c9 rfl ⟨by first | decide | omega, by first | decide | omega⟩ hl.1 (Nat.le_of_ble_eq_true rfl) (fun v I2 J2 H locs hp hI => ?_)
        obtain ⟨hv, hI2, hJ2⟩ := hp
        subst hv
        rw [hI2, hJ2] at hI
        refine W.eq (g2 := F0 m 82 ls [.long (fd64 ((J (25 + a) i) - xl.toInt64) (J (6 + 2 + (rr + a)) (eq + i))), .long lt]) rfl ?_
        refine lv_lneg hx hb dX1_leastTurns_82 ?_
        refine fl_max X dX1_leastTurns_83 wm_X1_177 hl.1 (by first | decide | omega) (by first | decide | (simp [Value.category]; omega)) ?_
        refine lv_lstore (lv' := [(5, .long (mx64 lt (-(fd64 ((J (25 + a) i) - xl.toInt64) (J (6 + 2 + (rr + a)) (eq + i)))))), (12, .int xl), (10, .long (J (25 + a) i)), (8, .long (J (6 + 2 + (rr + a)) (eq + i))), (7, .int (nI i)), (4, .int (nI en)), (0, .ref (ad 0)), (1, .int (nI a)), (2, .int xl), (3, .int xh)]) hx hb dX1_leastTurns_86 hl (by decide) rfl (fun ls hl => ?_)
        refine lv_goto (tgt := 112) hx hb dX1_leastTurns_88 (by decide) ?_
        refine fn_iinc (a := i) (lv' := [(7, .int (nI (i + 1))), (5, .long (mx64 lt (-(fd64 ((J (25 + a) i) - xl.toInt64) (J (6 + 2 + (rr + a)) (eq + i)))))), (12, .int xl), (10, .long (J (25 + a) i)), (8, .long (J (6 + 2 + (rr + a)) (eq + i))), (4, .int (nI en)), (0, .ref (ad 0)), (1, .int (nI a)), (2, .int xl), (3, .int xh)]) X dX1_leastTurns_112 hl (k := 4) rfl (by decide) rfl (fun ls hl => ?_)
        refine lv_goto (tgt := 21) hx hb dX1_leastTurns_115 (by decide) ?_
        exact ih (i + 1) _ _ _ _ (by omega) hI (lv_sub hl [0, 1, 5, 6, 7, 8, 9] rfl) (by have h9 := hF; simp only [fl_it, x_lt1] at h9; (first | rw [if_pos c2] at h9 | rw [if_neg c2] at h9 | skip); (first | rw [if_pos c5] at h9 | rw [if_neg c5] at h9 | skip); exact h9)
/-- the leads of the basis stand further right from row to row -/
def x_inc (n rr : Nat) (I : fl_TI) : Prop := ∀ i, rr + i + 1 < n → ldI I 12 (rr + i) < ldI I 12 (rr + i + 1)
theorem x_lu_mono {n eq rr a : Nat} {I : fl_TI} (h : x_ld n eq rr I) (hi : x_inc n rr I) (ha : rr + a < n) : x_lu n eq rr I a ≤ x_lu n eq rr I (a + 1) := by
  unfold x_lu
  rw [if_pos ha]
  have h1 := (h a ha).2
  by_cases q : rr + (a + 1) < n
  · rw [if_pos q]
    have h2 := hi a (by omega)
    have h3 : ldI I 12 (rr + (a + 1)) = ldI I 12 (rr + a + 1) := rfl
    omega
  · rw [if_neg q]; omega
theorem m_X1_leastTurns (D : va_G) (dA : Nat → ClassId) (ad : Nat → Nat) (N : Nat) (I : fl_TI) (J : fl_TJ) {n eq rr a : Nat} {xl xh : Int32} (hN : 30 ≤ N) (hn : I 0 2 = nI n) (hn4 : n ≤ 4) (he : I 0 3 = nI eq) (he3 : eq ≤ 3) (hrr : I 0 6 = nI rr) (hrn : rr ≤ n) (hxl : x_ld n eq rr I) (hinc : x_inc n rr I) (ha : rr + a < n) : FM yX1_leastTurns cX1_leastTurns 13 (some .long) 2 D dA ad N [.ref (ad 0), .int (nI a), .int xl, .int xh] I J (fun v I' J' => v = some (.long (x_least n eq rr xl xh I a J)) ∧ I' = I ∧ J' = J) := by
  refine FM.ofW RX1 rfl (by decide +kernel) (Nat.le_of_ble_eq_true rfl) ?_
  intro p l e s m args below meth c ls X hr hlk hI hl
  have hx := X.1
  have hb := X.2.1
  have hl : lv_has ls 13 [(0, .ref (ad 0)), (1, .int (nI a)), (2, .int xl), (3, .int xh)] := hl
  refine lv_aload_n hx hb dX1_leastTurns_0 rfl (lv_at hl 0 rfl) ?_
  refine lv_iload_n hx hb dX1_leastTurns_1 rfl (lv_at hl 1 rfl) ?_
  refine lv_iconst (v := nI 1) hx hb dX1_leastTurns_2 (by decide) ?_
  refine fn_iadd X dX1_leastTurns_3 ?_
  refine fl_callV (k := 0) (As := [.int (nI (a + 1))]) (rest := []) X hI dX1_leastTurns_4 (m_X1_leadUnknown D dA ad N I J hN hn he hrr hrn hn4 (i := a + 1) (by omega) (fun h => ⟨(hxl _ h).1, (hxl _ h).2.1⟩)) (by omega) fl_c_5 rfl rfl wc_yX1_leadUnknown wm_X1_158 wi_yX1_leadUnknown wl_yX1_leadUnknown wn_X1 hd_yX1_leadUnknown rfl ⟨by first | decide | omega, by first | decide | omega⟩ hl.1 (Nat.le_of_ble_eq_true rfl) (fun v I2 J2 H locs hp hI => ?_)
  obtain ⟨hv, hI2, hJ2⟩ := hp
  subst hv
  rw [hI2, hJ2] at hI
  refine W.eq (g2 := F0 m 7 ls [.int (nI (x_lu n eq rr I (a + 1)))]) rfl ?_
  refine lv_istore (lv' := [(4, .int (nI (x_lu n eq rr I (a + 1)))), (0, .ref (ad 0)), (1, .int (nI a)), (2, .int xl), (3, .int xh)]) hx hb dX1_leastTurns_7 hl (by decide) rfl (fun ls hl => ?_)
  refine W.ldc2 (v := (-1000000000000000)) hx hb X.2.2.2.1 (X.2.2.2.2 _ wk_X1_70) rfl dX1_leastTurns_9 ?_
  refine W.eq (g2 := F0 m 12 ls [.long ((-1000000000000000))]) rfl ?_
  refine lv_lstore (lv' := [(5, .long ((-1000000000000000))), (4, .int (nI (x_lu n eq rr I (a + 1)))), (0, .ref (ad 0)), (1, .int (nI a)), (2, .int xl), (3, .int xh)]) hx hb dX1_leastTurns_12 hl (by decide) rfl (fun ls hl => ?_)
  refine lv_aload_n hx hb dX1_leastTurns_14 rfl (lv_at hl 2 rfl) ?_
  refine lv_iload_n hx hb dX1_leastTurns_15 rfl (lv_at hl 3 rfl) ?_
  refine fl_callV (k := 0) (As := [.int (nI a)]) (rest := []) X hI dX1_leastTurns_16 (m_X1_leadUnknown D dA ad N I J hN hn he hrr hrn hn4 (i := a) (by omega) (fun h => ⟨(hxl _ h).1, (hxl _ h).2.1⟩)) (by omega) fl_c_5 rfl rfl wc_yX1_leadUnknown wm_X1_158 wi_yX1_leadUnknown wl_yX1_leadUnknown wn_X1 hd_yX1_leadUnknown rfl ⟨by first | decide | omega, by first | decide | omega⟩ hl.1 (Nat.le_of_ble_eq_true rfl) (fun v I2 J2 H locs hp hI => ?_)
  obtain ⟨hv, hI2, hJ2⟩ := hp
  subst hv
  rw [hI2, hJ2] at hI
  refine W.eq (g2 := F0 m 19 ls [.int (nI (x_lu n eq rr I a))]) rfl ?_
  refine lv_istore (lv' := [(7, .int (nI (x_lu n eq rr I a))), (5, .long ((-1000000000000000))), (4, .int (nI (x_lu n eq rr I (a + 1)))), (0, .ref (ad 0)), (1, .int (nI a)), (2, .int xl), (3, .int xh)]) hx hb dX1_leastTurns_19 hl (by decide) rfl (fun ls hl => ?_)
  have h31 := x_lu_le hxl (a + 1)
  have h32 := x_lu_mono hxl hinc ha
  refine lp_least X hN hn hn4 he he3 hrr hrn hxl ha h31 ⟨by decide, by decide⟩ (lt9 := x_least n eq rr xl xh I a J) (fun H locs ls hI hl => ?_) (x_lu n eq rr I (a + 1) - x_lu n eq rr I a) (x_lu n eq rr I a) _ _ _ _ (by omega) hI (lv_sub hl [0, 1, 2, 3, 4, 5, 6] rfl) rfl
  refine lv_lload hx hb dX1_leastTurns_118 (lv_at hl 1 rfl) ?_
  exact fl_lret X hr hlk hI dX1_leastTurns_120 ⟨rfl, rfl, rfl⟩
theorem lp_most {p : Program} {l : Launch} {e : Env} {R : Room} {s : State} {m : MethodId} {args : Array Value} {below : List Frame} {meth : Method} {c : Code} {Q : State → Prop} {D : va_G} {dA : Nat → ClassId} {ad : Nat → Nat} {N : Nat} {A : Nat → Prop} {H0 : Heap} {I : fl_TI} {J : fl_TJ} {lt9 : Int64} (X : CallFix p m c cX1_mostTurns 11 s args fl_tb RX1) {n eq rr a en : Nat} {xl xh : Int32} (hN : 30 ≤ N) (hn : I 0 2 = nI n) (hn4 : n ≤ 4) (he : I 0 3 = nI eq) (he3 : eq ≤ 3) (hrr : I 0 6 = nI rr) (hrn : rr ≤ n) (hxl : x_ld n eq rr I) (ha : rr + a < n) (hen : en ≤ n) (hR : 1 + 1 ≤ R.frames ∧ 8 + (13 + 11) + 40 * 1 ≤ R.locals)
    (kx : ∀ (H : Heap) (locs : List Loc) (ls : Array Slot), fl_I D dA ad N I J A s H0 H locs → lv_has ls 11 [(7, .int (nI en)), (5, .long lt9), (4, .int (nI en)), (0, .ref (ad 0)), (1, .int (nI a)), (2, .int xl), (3, .int xh)] → W p l e R s m args below meth c H locs 0 0 Q (F0 m 89 ls [])) :
    ∀ (k i : Nat) (lt : Int64) (H : Heap) (locs : List Loc) (ls : Array Slot), i + k = en → fl_I D dA ad N I J A s H0 H locs → lv_has ls 11 [(7, .int (nI i)), (5, .long lt), (4, .int (nI en)), (0, .ref (ad 0)), (1, .int (nI a)), (2, .int xl), (3, .int xh)] → fl_it (fun j ms => x_mt1 xl xh (J (6 + 2 + (rr + a)) (eq + j)) (J (25 + a) j) ms) k i lt = lt9 → W p l e R s m args below meth c H locs 0 0 Q (F0 m 21 ls []) := by
  have hx := X.1
  have hb := X.2.1
  intro k
  induction k with
  | zero =>
    intro i lt H locs ls hk hI hl hF
    have hF : lt = lt9 := hF
    subst hF
    have hk : en = i := by omega
    subst hk
    refine lv_iload hx hb dX1_mostTurns_21 (lv_at hl 0 rfl) ?_
    refine lv_iload hx hb dX1_mostTurns_23 (lv_at hl 2 rfl) ?_
    refine fn_icmp_ge X (tgt := 89) dX1_mostTurns_25 (by decide) (by omega) (by omega) (fun c1 => ?_) (fun c1 => absurd c1 (by omega))
    exact kx _ _ _ hI (lv_sub hl [0, 1, 2, 3, 4, 5, 6] rfl)
  | succ k ih =>
    intro i lt H locs ls hk hI hl hF
    refine lv_iload hx hb dX1_mostTurns_21 (lv_at hl 0 rfl) ?_
    refine lv_iload hx hb dX1_mostTurns_23 (lv_at hl 2 rfl) ?_
    refine fn_icmp_ge X (tgt := 89) dX1_mostTurns_25 (by decide) (by omega) (by omega) (fun c1 => absurd c1 (by omega)) (fun c1 => ?_)
    refine lv_aload_n hx hb dX1_mostTurns_28 rfl (lv_at hl 3 rfl) ?_
    refine lv_iload_n hx hb dX1_mostTurns_29 rfl (lv_at hl 4 rfl) ?_
    refine lv_iload hx hb dX1_mostTurns_30 (lv_at hl 0 rfl) ?_
    refine fl_callV (k := 0) (As := [.int (nI a), .int (nI i)]) (rest := []) X hI dX1_mostTurns_32 (m_X1_basisNumber D dA ad N I J hN he hrr (by omega) (by omega)) (by omega) fl_c_5 rfl rfl wc_yX1_basisNumber wm_X1_72 wi_yX1_basisNumber wl_yX1_basisNumber wn_X1 hd_yX1_basisNumber rfl ⟨by first | decide | omega, by first | decide | omega⟩ hl.1 (Nat.le_of_ble_eq_true rfl) (fun v I2 J2 H locs hp hI => ?_)
    obtain ⟨hv, hI2, hJ2⟩ := hp
    subst hv
    rw [hI2, hJ2] at hI
    refine W.eq (g2 := F0 m 35 ls [.long (J (6 + 2 + (rr + a)) (eq + i))]) rfl ?_
    refine lv_lstore (lv' := [(8, .long (J (6 + 2 + (rr + a)) (eq + i))), (7, .int (nI i)), (5, .long lt), (4, .int (nI en)), (0, .ref (ad 0)), (1, .int (nI a)), (2, .int xl), (3, .int xh)]) hx hb dX1_mostTurns_35 hl (by decide) rfl (fun ls hl => ?_)
    refine lv_lload hx hb dX1_mostTurns_37 (lv_at hl 0 rfl) ?_
    refine lv_lconst (v := 0) hx hb dX1_mostTurns_39 rfl ?_
    refine fl_lc_eq (tgt := 83) hx hb dX1_mostTurns_40 dX1_mostTurns_41 (by decide) (fun c2 => ?_) (fun c2 => ?_)
    · refine fn_iinc (a := i) (lv' := [(7, .int (nI (i + 1))), (8, .long (J (6 + 2 + (rr + a)) (eq + i))), (5, .long lt), (4, .int (nI en)), (0, .ref (ad 0)), (1, .int (nI a)), (2, .int xl), (3, .int xh)]) X dX1_mostTurns_83 hl (k := 1) rfl (by decide) rfl (fun ls hl => ?_)
      refine lv_goto (tgt := 21) hx hb dX1_mostTurns_86 (by decide) ?_
      exact ih (i + 1) _ _ _ _ (by omega) hI (lv_sub hl [0, 2, 3, 4, 5, 6, 7] rfl) (by have h9 := hF; simp only [fl_it, x_mt1] at h9; (first | rw [if_pos c2] at h9 | rw [if_neg c2] at h9 | skip); exact h9)
    · refine lv_lload hx hb dX1_mostTurns_44 (lv_at hl 0 rfl) ?_
      refine lv_lconst (v := 0) hx hb dX1_mostTurns_46 rfl ?_
      refine fl_lc_le (tgt := 55) hx hb dX1_mostTurns_47 dX1_mostTurns_48 (by decide) (fun c3 => ?_) (fun c3 => ?_)
      · refine lv_iload_n hx hb dX1_mostTurns_55 rfl (lv_at hl 6 rfl) ?_
        refine lv_istore (lv' := [(10, .int xl), (8, .long (J (6 + 2 + (rr + a)) (eq + i))), (7, .int (nI i)), (5, .long lt), (4, .int (nI en)), (0, .ref (ad 0)), (1, .int (nI a)), (2, .int xl), (3, .int xh)]) hx hb dX1_mostTurns_56 hl (by decide) rfl (fun ls hl => ?_)
        refine lv_lload hx hb dX1_mostTurns_58 (lv_at hl 3 rfl) ?_
        refine lv_iload hx hb dX1_mostTurns_60 (lv_at hl 0 rfl) ?_
        refine lv_i2l hx hb dX1_mostTurns_62 rfl ?_
        refine lv_aload_n hx hb dX1_mostTurns_63 rfl (lv_at hl 5 rfl) ?_
        refine fl_get1 X hI dX1_mostTurns_64 (by omega) 10 (by decide) wf_X1_39 rfl ?_
        refine lv_iload_n hx hb dX1_mostTurns_67 rfl (lv_at hl 6 rfl) ?_
        refine fn_aald3 (k := 24) X hI dX1_mostTurns_68 (by omega) rfl (show a < 5 by omega) ?_
        refine lv_iload hx hb dX1_mostTurns_69 (lv_at hl 2 rfl) ?_
        refine fn_lald (k := 25 + a) X hI dX1_mostTurns_71 (by omega) (fk25 (by omega)) (by rw [fn25 (by omega)]; omega) ?_
        refine lv_lsub hx hb dX1_mostTurns_72 ?_
        refine lv_lload hx hb dX1_mostTurns_73 (lv_at hl 1 rfl) ?_
        refine fl_callS (As := [.long (xl.toInt64 - (J (25 + a) i)), .long (J (6 + 2 + (rr + a)) (eq + i))]) (rest := [.long lt]) X hI dX1_mostTurns_75 (m_floorDiv D dA ad N I J (xl.toInt64 - (J (25 + a) i)) (J (6 + 2 + (rr + a)) (eq + i)) c2) wc_yJ9_floorDiv_f86c9 wm_X1_174 ws_yJ9_floorDiv_f86c9 wn_J9 hd_yJ9_floorDiv_f86c9 rfl ⟨by first | decide | omega, by first | decide | omega⟩ hl.1 (Nat.le_of_ble_eq_true rfl) (fun v I2 J2 H locs hp hI => ?_)
        obtain ⟨hv, hI2, hJ2⟩ := hp
        subst hv
        rw [hI2, hJ2] at hI
        refine W.eq (g2 := F0 m 78 ls [.long (fd64 (xl.toInt64 - (J (25 + a) i)) (J (6 + 2 + (rr + a)) (eq + i))), .long lt]) rfl ?_
        refine fl_min X dX1_mostTurns_78 wm_X1_184 hl.1 (by first | decide | omega) (by first | decide | (simp [Value.category]; omega)) ?_
        refine lv_lstore (lv' := [(5, .long (mn64 lt (fd64 (xl.toInt64 - (J (25 + a) i)) (J (6 + 2 + (rr + a)) (eq + i))))), (10, .int xl), (8, .long (J (6 + 2 + (rr + a)) (eq + i))), (7, .int (nI i)), (4, .int (nI en)), (0, .ref (ad 0)), (1, .int (nI a)), (2, .int xl), (3, .int xh)]) hx hb dX1_mostTurns_81 hl (by decide) rfl (fun ls hl => ?_)
        refine fn_iinc (a := i) (lv' := [(7, .int (nI (i + 1))), (5, .long (mn64 lt (fd64 (xl.toInt64 - (J (25 + a) i)) (J (6 + 2 + (rr + a)) (eq + i))))), (10, .int xl), (8, .long (J (6 + 2 + (rr + a)) (eq + i))), (4, .int (nI en)), (0, .ref (ad 0)), (1, .int (nI a)), (2, .int xl), (3, .int xh)]) X dX1_mostTurns_83 hl (k := 3) rfl (by decide) rfl (fun ls hl => ?_)
        refine lv_goto (tgt := 21) hx hb dX1_mostTurns_86 (by decide) ?_
        exact ih (i + 1) _ _ _ _ (by omega) hI (lv_sub hl [0, 1, 4, 5, 6, 7, 8] rfl) (by have h9 := hF; simp only [fl_it, x_mt1] at h9; (first | rw [if_pos c2] at h9 | rw [if_neg c2] at h9 | skip); (first | rw [if_pos c3] at h9 | rw [if_neg c3] at h9 | skip); exact h9)
      · refine lv_iload_n hx hb dX1_mostTurns_51 rfl (lv_at hl 7 rfl) ?_
        refine lv_goto (tgt := 56) hx hb dX1_mostTurns_52 (by decide) ?_
        refine lv_istore (lv' := [(10, .int xh), (8, .long (J (6 + 2 + (rr + a)) (eq + i))), (7, .int (nI i)), (5, .long lt), (4, .int (nI en)), (0, .ref (ad 0)), (1, .int (nI a)), (2, .int xl), (3, .int xh)]) hx hb dX1_mostTurns_56 hl (by decide) rfl (fun ls hl => ?_)
        refine lv_lload hx hb dX1_mostTurns_58 (lv_at hl 3 rfl) ?_
        refine lv_iload hx hb dX1_mostTurns_60 (lv_at hl 0 rfl) ?_
        refine lv_i2l hx hb dX1_mostTurns_62 rfl ?_
        refine lv_aload_n hx hb dX1_mostTurns_63 rfl (lv_at hl 5 rfl) ?_
        refine fl_get1 X hI dX1_mostTurns_64 (by omega) 10 (by decide) wf_X1_39 rfl ?_
        refine lv_iload_n hx hb dX1_mostTurns_67 rfl (lv_at hl 6 rfl) ?_
        refine fn_aald3 (k := 24) X hI dX1_mostTurns_68 (by omega) rfl (show a < 5 by omega) ?_
        refine lv_iload hx hb dX1_mostTurns_69 (lv_at hl 2 rfl) ?_
        refine fn_lald (k := 25 + a) X hI dX1_mostTurns_71 (by omega) (fk25 (by omega)) (by rw [fn25 (by omega)]; omega) ?_
        refine lv_lsub hx hb dX1_mostTurns_72 ?_
        refine lv_lload hx hb dX1_mostTurns_73 (lv_at hl 1 rfl) ?_
        refine fl_callS (As := [.long (xh.toInt64 - (J (25 + a) i)), .long (J (6 + 2 + (rr + a)) (eq + i))]) (rest := [.long lt]) X hI dX1_mostTurns_75 (m_floorDiv D dA ad N I J (xh.toInt64 - (J (25 + a) i)) (J (6 + 2 + (rr + a)) (eq + i)) c2) wc_yJ9_floorDiv_f86c9 wm_X1_174 ws_yJ9_floorDiv_f86c9 wn_J9 hd_yJ9_floorDiv_f86c9 rfl ⟨by first | decide | omega, by first | decide | omega⟩ hl.1 (Nat.le_of_ble_eq_true rfl) (fun v I2 J2 H locs hp hI => ?_)
        obtain ⟨hv, hI2, hJ2⟩ := hp
        subst hv
        rw [hI2, hJ2] at hI
        refine W.eq (g2 := F0 m 78 ls [.long (fd64 (xh.toInt64 - (J (25 + a) i)) (J (6 + 2 + (rr + a)) (eq + i))), .long lt]) rfl ?_
        refine fl_min X dX1_mostTurns_78 wm_X1_184 hl.1 (by first | decide | omega) (by first | decide | (simp [Value.category]; omega)) ?_
        refine lv_lstore (lv' := [(5, .long (mn64 lt (fd64 (xh.toInt64 - (J (25 + a) i)) (J (6 + 2 + (rr + a)) (eq + i))))), (10, .int xh), (8, .long (J (6 + 2 + (rr + a)) (eq + i))), (7, .int (nI i)), (4, .int (nI en)), (0, .ref (ad 0)), (1, .int (nI a)), (2, .int xl), (3, .int xh)]) hx hb dX1_mostTurns_81 hl (by decide) rfl (fun ls hl => ?_)
        refine fn_iinc (a := i) (lv' := [(7, .int (nI (i + 1))), (5, .long (mn64 lt (fd64 (xh.toInt64 - (J (25 + a) i)) (J (6 + 2 + (rr + a)) (eq + i))))), (10, .int xh), (8, .long (J (6 + 2 + (rr + a)) (eq + i))), (4, .int (nI en)), (0, .ref (ad 0)), (1, .int (nI a)), (2, .int xl), (3, .int xh)]) X dX1_mostTurns_83 hl (k := 3) rfl (by decide) rfl (fun ls hl => ?_)
        refine lv_goto (tgt := 21) hx hb dX1_mostTurns_86 (by decide) ?_
        exact ih (i + 1) _ _ _ _ (by omega) hI (lv_sub hl [0, 1, 4, 5, 6, 7, 8] rfl) (by have h9 := hF; simp only [fl_it, x_mt1] at h9; (first | rw [if_pos c2] at h9 | rw [if_neg c2] at h9 | skip); (first | rw [if_pos c3] at h9 | rw [if_neg c3] at h9 | skip); exact h9)
theorem m_X1_mostTurns (D : va_G) (dA : Nat → ClassId) (ad : Nat → Nat) (N : Nat) (I : fl_TI) (J : fl_TJ) {n eq rr a : Nat} {xl xh : Int32} (hN : 30 ≤ N) (hn : I 0 2 = nI n) (hn4 : n ≤ 4) (he : I 0 3 = nI eq) (he3 : eq ≤ 3) (hrr : I 0 6 = nI rr) (hrn : rr ≤ n) (hxl : x_ld n eq rr I) (hinc : x_inc n rr I) (ha : rr + a < n) : FM yX1_mostTurns cX1_mostTurns 11 (some .long) 2 D dA ad N [.ref (ad 0), .int (nI a), .int xl, .int xh] I J (fun v I' J' => v = some (.long (x_most n eq rr xl xh I a J)) ∧ I' = I ∧ J' = J) := by
  refine FM.ofW RX1 rfl (by decide +kernel) (Nat.le_of_ble_eq_true rfl) ?_
  intro p l e s m args below meth c ls X hr hlk hI hl
  have hx := X.1
  have hb := X.2.1
  have hl : lv_has ls 11 [(0, .ref (ad 0)), (1, .int (nI a)), (2, .int xl), (3, .int xh)] := hl
  refine lv_aload_n hx hb dX1_mostTurns_0 rfl (lv_at hl 0 rfl) ?_
  refine lv_iload_n hx hb dX1_mostTurns_1 rfl (lv_at hl 1 rfl) ?_
  refine lv_iconst (v := nI 1) hx hb dX1_mostTurns_2 (by decide) ?_
  refine fn_iadd X dX1_mostTurns_3 ?_
  refine fl_callV (k := 0) (As := [.int (nI (a + 1))]) (rest := []) X hI dX1_mostTurns_4 (m_X1_leadUnknown D dA ad N I J hN hn he hrr hrn hn4 (i := a + 1) (by omega) (fun h => ⟨(hxl _ h).1, (hxl _ h).2.1⟩)) (by omega) fl_c_5 rfl rfl wc_yX1_leadUnknown wm_X1_158 wi_yX1_leadUnknown wl_yX1_leadUnknown wn_X1 hd_yX1_leadUnknown rfl ⟨by first | decide | omega, by first | decide | omega⟩ hl.1 (Nat.le_of_ble_eq_true rfl) (fun v I2 J2 H locs hp hI => ?_)
  obtain ⟨hv, hI2, hJ2⟩ := hp
  subst hv
  rw [hI2, hJ2] at hI
  refine W.eq (g2 := F0 m 7 ls [.int (nI (x_lu n eq rr I (a + 1)))]) rfl ?_
  refine lv_istore (lv' := [(4, .int (nI (x_lu n eq rr I (a + 1)))), (0, .ref (ad 0)), (1, .int (nI a)), (2, .int xl), (3, .int xh)]) hx hb dX1_mostTurns_7 hl (by decide) rfl (fun ls hl => ?_)
  refine W.ldc2 (v := (999999999999999)) hx hb X.2.2.2.1 (X.2.2.2.2 _ wk_X1_182) rfl dX1_mostTurns_9 ?_
  refine W.eq (g2 := F0 m 12 ls [.long ((999999999999999))]) rfl ?_
  refine lv_lstore (lv' := [(5, .long ((999999999999999))), (4, .int (nI (x_lu n eq rr I (a + 1)))), (0, .ref (ad 0)), (1, .int (nI a)), (2, .int xl), (3, .int xh)]) hx hb dX1_mostTurns_12 hl (by decide) rfl (fun ls hl => ?_)
  refine lv_aload_n hx hb dX1_mostTurns_14 rfl (lv_at hl 2 rfl) ?_
  refine lv_iload_n hx hb dX1_mostTurns_15 rfl (lv_at hl 3 rfl) ?_
  refine fl_callV (k := 0) (As := [.int (nI a)]) (rest := []) X hI dX1_mostTurns_16 (m_X1_leadUnknown D dA ad N I J hN hn he hrr hrn hn4 (i := a) (by omega) (fun h => ⟨(hxl _ h).1, (hxl _ h).2.1⟩)) (by omega) fl_c_5 rfl rfl wc_yX1_leadUnknown wm_X1_158 wi_yX1_leadUnknown wl_yX1_leadUnknown wn_X1 hd_yX1_leadUnknown rfl ⟨by first | decide | omega, by first | decide | omega⟩ hl.1 (Nat.le_of_ble_eq_true rfl) (fun v I2 J2 H locs hp hI => ?_)
  obtain ⟨hv, hI2, hJ2⟩ := hp
  subst hv
  rw [hI2, hJ2] at hI
  refine W.eq (g2 := F0 m 19 ls [.int (nI (x_lu n eq rr I a))]) rfl ?_
  refine lv_istore (lv' := [(7, .int (nI (x_lu n eq rr I a))), (5, .long ((999999999999999))), (4, .int (nI (x_lu n eq rr I (a + 1)))), (0, .ref (ad 0)), (1, .int (nI a)), (2, .int xl), (3, .int xh)]) hx hb dX1_mostTurns_19 hl (by decide) rfl (fun ls hl => ?_)
  have h31 := x_lu_le hxl (a + 1)
  have h32 := x_lu_mono hxl hinc ha
  refine lp_most X hN hn hn4 he he3 hrr hrn hxl ha h31 ⟨by decide, by decide⟩ (lt9 := x_most n eq rr xl xh I a J) (fun H locs ls hI hl => ?_) (x_lu n eq rr I (a + 1) - x_lu n eq rr I a) (x_lu n eq rr I a) _ _ _ _ (by omega) hI (lv_sub hl [0, 1, 2, 3, 4, 5, 6] rfl) rfl
  refine lv_lload hx hb dX1_mostTurns_89 (lv_at hl 1 rfl) ?_
  exact fl_lret X hr hlk hI dX1_mostTurns_91 ⟨rfl, rfl, rfl⟩
def j_turn (n eq rr a : Nat) (t : Int64) (J : fl_TJ) : fl_TJ := fl_it (fun j J => fl_up J (25 + (a + 1)) j (J (25 + a) j + t * J (6 + 2 + (rr + a)) (eq + j))) n 0 J
theorem lp_turn {p : Program} {l : Launch} {e : Env} {R : Room} {s : State} {m : MethodId} {args : Array Value} {below : List Frame} {meth : Method} {c : Code} {Q : State → Prop} {D : va_G} {dA : Nat → ClassId} {ad : Nat → Nat} {N : Nat} {A : Nat → Prop} {H0 : Heap} {I : fl_TI} {J9 : fl_TJ} (X : CallFix p m c cX1_turn 5 s args fl_tb RX1) {n eq rr a : Nat} {t : Int64} (hN : 30 ≤ N) (hn : I 0 2 = nI n) (hn4 : n ≤ 4) (he : I 0 3 = nI eq) (he3 : eq ≤ 3) (hrr : I 0 6 = nI rr) (hrn : rr ≤ n) (hxl : x_ld n eq rr I) (ha : rr + a < n) (hR : 1 + 1 ≤ R.frames ∧ 8 + (3 + 11) + 40 * 1 ≤ R.locals)
    (kx : ∀ (H : Heap) (locs : List Loc) (ls : Array Slot), fl_I D dA ad N I J9 A s H0 H locs → lv_has ls 5 [(4, .int (nI n)), (0, .ref (ad 0)), (1, .int (nI a)), (2, .long t)] → W p l e R s m args below meth c H locs 0 0 Q (F0 m 48 ls [])) :
    ∀ (k i : Nat) (J : fl_TJ) (H : Heap) (locs : List Loc) (ls : Array Slot), i + k = n → fl_I D dA ad N I J A s H0 H locs → lv_has ls 5 [(4, .int (nI i)), (0, .ref (ad 0)), (1, .int (nI a)), (2, .long t)] → fl_it (fun j J => fl_up J (25 + (a + 1)) j (J (25 + a) j + t * J (6 + 2 + (rr + a)) (eq + j))) k i J = J9 → W p l e R s m args below meth c H locs 0 0 Q (F0 m 3 ls []) := by
  have hx := X.1
  have hb := X.2.1
  intro k
  induction k with
  | zero =>
    intro i J H locs ls hk hI hl hF
    have hF : J = J9 := hF
    subst hF
    have hk : n = i := by omega
    subst hk
    refine lv_iload hx hb dX1_turn_3 (lv_at hl 0 rfl) ?_
    refine lv_aload_n hx hb dX1_turn_5 rfl (lv_at hl 1 rfl) ?_
    refine fl_get1 X hI dX1_turn_6 (by omega) 2 (by decide) wf_X1_42 rfl ?_
    refine W.eq (g2 := F0 m 9 ls [.int (nI n), .int (nI n)]) (by rw [hn]) ?_
    refine fn_icmp_ge X (tgt := 48) dX1_turn_9 (by decide) (by omega) (by omega) (fun c1 => ?_) (fun c1 => absurd c1 (by omega))
    exact kx _ _ _ hI (lv_sub hl [0, 1, 2, 3] rfl)
  | succ k ih =>
    intro i J H locs ls hk hI hl hF
    refine lv_iload hx hb dX1_turn_3 (lv_at hl 0 rfl) ?_
    refine lv_aload_n hx hb dX1_turn_5 rfl (lv_at hl 1 rfl) ?_
    refine fl_get1 X hI dX1_turn_6 (by omega) 2 (by decide) wf_X1_42 rfl ?_
    refine W.eq (g2 := F0 m 9 ls [.int (nI n), .int (nI i)]) (by rw [hn]) ?_
    refine fn_icmp_ge X (tgt := 48) dX1_turn_9 (by decide) (by omega) (by omega) (fun c1 => absurd c1 (by omega)) (fun c1 => ?_)
    refine lv_aload_n hx hb dX1_turn_12 rfl (lv_at hl 1 rfl) ?_
    refine fl_get1 X hI dX1_turn_13 (by omega) 10 (by decide) wf_X1_39 rfl ?_
    refine lv_iload_n hx hb dX1_turn_16 rfl (lv_at hl 2 rfl) ?_
    refine lv_iconst (v := nI 1) hx hb dX1_turn_17 (by decide) ?_
    refine fn_iadd X dX1_turn_18 ?_
    refine fn_aald3 (k := 24) X hI dX1_turn_19 (by omega) rfl (show a + 1 < 5 by omega) ?_
    refine lv_iload hx hb dX1_turn_20 (lv_at hl 0 rfl) ?_
    refine lv_aload_n hx hb dX1_turn_22 rfl (lv_at hl 1 rfl) ?_
    refine fl_get1 X hI dX1_turn_23 (by omega) 10 (by decide) wf_X1_39 rfl ?_
    refine lv_iload_n hx hb dX1_turn_26 rfl (lv_at hl 2 rfl) ?_
    refine fn_aald3 (k := 24) X hI dX1_turn_27 (by omega) rfl (show a < 5 by omega) ?_
    refine lv_iload hx hb dX1_turn_28 (lv_at hl 0 rfl) ?_
    refine fn_lald (k := 25 + a) X hI dX1_turn_30 (by omega) (fk25 (by omega)) (by rw [fn25 (by omega)]; omega) ?_
    refine lv_lload_n hx hb dX1_turn_31 rfl (lv_at hl 3 rfl) ?_
    refine lv_aload_n hx hb dX1_turn_32 rfl (lv_at hl 1 rfl) ?_
    refine lv_iload_n hx hb dX1_turn_33 rfl (lv_at hl 2 rfl) ?_
    refine lv_iload hx hb dX1_turn_34 (lv_at hl 0 rfl) ?_
    refine fl_callV (k := 0) (As := [.int (nI a), .int (nI i)]) (rest := [.long t, .long (J (25 + a) i), .int (nI i), .ref (ad (25 + (a + 1)))]) X hI dX1_turn_36 (m_X1_basisNumber D dA ad N I J hN he hrr (by omega) (by omega)) (by omega) fl_c_5 rfl rfl wc_yX1_basisNumber wm_X1_72 wi_yX1_basisNumber wl_yX1_basisNumber wn_X1 hd_yX1_basisNumber rfl ⟨by first | decide | omega, by first | decide | omega⟩ hl.1 (Nat.le_of_ble_eq_true rfl) (fun v I2 J2 H locs hp hI => ?_)
    obtain ⟨hv, hI2, hJ2⟩ := hp
    subst hv
    rw [hI2, hJ2] at hI
    refine W.eq (g2 := F0 m 39 ls [.long (J (6 + 2 + (rr + a)) (eq + i)), .long t, .long (J (25 + a) i), .int (nI i), .ref (ad (25 + (a + 1)))]) rfl ?_
    refine lv_lmul hx hb dX1_turn_39 ?_
    refine lv_ladd hx hb dX1_turn_40 ?_
    refine fn_last (k := 25 + (a + 1)) X hI dX1_turn_41 (by omega) (fk25 (by omega)) (by rw [fn25 (by omega)]; omega) (fun H locs hI => ?_)
    refine fn_iinc (a := i) (lv' := [(4, .int (nI (i + 1))), (0, .ref (ad 0)), (1, .int (nI a)), (2, .long t)]) X dX1_turn_42 hl (k := 0) rfl (by decide) rfl (fun ls hl => ?_)
    refine lv_goto (tgt := 3) hx hb dX1_turn_45 (by decide) ?_
    exact ih (i + 1) _ _ _ _ (by omega) hI (lv_sub hl [0, 1, 2, 3] rfl) hF
theorem m_X1_turn (D : va_G) (dA : Nat → ClassId) (ad : Nat → Nat) (N : Nat) (I : fl_TI) (J : fl_TJ) {n eq rr a : Nat} {t : Int64} (hN : 30 ≤ N) (hn : I 0 2 = nI n) (hn4 : n ≤ 4) (he : I 0 3 = nI eq) (he3 : eq ≤ 3) (hrr : I 0 6 = nI rr) (hrn : rr ≤ n) (hxl : x_ld n eq rr I) (ha : rr + a < n) : FM yX1_turn cX1_turn 5 none 2 D dA ad N [.ref (ad 0), .int (nI a), .long t] I J (fun v I' J' => v = none ∧ I' = I ∧ J' = j_turn n eq rr a t J) := by
  refine FM.ofW RX1 rfl (by decide +kernel) (Nat.le_of_ble_eq_true rfl) ?_
  intro p l e s m args below meth c ls X hr hlk hI hl
  have hx := X.1
  have hb := X.2.1
  have hl : lv_has ls 5 [(0, .ref (ad 0)), (1, .int (nI a)), (2, .long t)] := hl
  refine lv_iconst (v := nI 0) hx hb dX1_turn_0 (by decide) ?_
  refine lv_istore (lv' := [(4, .int (nI 0)), (0, .ref (ad 0)), (1, .int (nI a)), (2, .long t)]) hx hb dX1_turn_1 hl (by decide) rfl (fun ls hl => ?_)
  exact lp_turn X hN hn hn4 he he3 hrr hrn hxl ha ⟨by decide, by decide⟩ (J9 := j_turn n eq rr a t J) (fun H locs ls hI hl => fl_vret X hr hlk hI dX1_turn_48 ⟨rfl, rfl, rfl⟩) n 0 _ _ _ _ (Nat.zero_add _) hI (lv_sub hl [0, 1, 2, 3] rfl) rfl
def x_llu (eq rr a : Nat) (J : fl_TJ) : Nat → Nat → Int32
  | 0, _ => nI 1
  | k + 1, j => if J (6 + 2 + (rr + a)) (eq + j) = 0 then x_llu eq rr a J k (j + 1) else nI 0
def x_unm (xl xh : Int32) (J : fl_TJ) : Nat → Nat → Int32
  | 0, _ => nI 1
  | k + 1, j => if J (25 + 0) j < xl.toInt64 then nI 0 else if xh.toInt64 < J (25 + 0) j then nI 0 else x_unm xl xh J k (j + 1)
theorem lp_llu {p : Program} {l : Launch} {e : Env} {R : Room} {s : State} {m : MethodId} {args : Array Value} {below : List Frame} {meth : Method} {c : Code} {D : va_G} {dA : Nat → ClassId} {ad : Nat → Nat} {N : Nat} {A : Nat → Prop} {I : fl_TI} {J : fl_TJ} {post : Option Value → fl_TI → fl_TJ → Prop} (X : CallFix p m c cX1_leavesLaterUnknowns 3 s args fl_tb RX1) (hr : meth.sig.returnType = some .boolean) (hlk : meth.locks = false) {n eq rr a : Nat} (hN : 30 ≤ N) (hn : I 0 2 = nI n) (hn4 : n ≤ 4) (he : I 0 3 = nI eq) (he3 : eq ≤ 3) (hrr : I 0 6 = nI rr) (hrn : rr ≤ n) (hxl : x_ld n eq rr I) (ha : rr + a < n) (hR : 1 + 1 ≤ R.frames ∧ 8 + (3 + 11) + 40 * 1 ≤ R.locals) :
    ∀ (k i : Nat) (H : Heap) (locs : List Loc) (ls : Array Slot), i + k = n → fl_I D dA ad N I J A s s.heap H locs → lv_has ls 3 [(2, .int (nI i)), (0, .ref (ad 0)), (1, .int (nI a))] → post (some (.int (x_llu eq rr a J k i))) I J → W p l e R s m args below meth c H locs 0 0 (MQ below (fl_Q D dA ad N post A) args s 0 0 A) (F0 m 8 ls []) := by
  have hx := X.1
  have hb := X.2.1
  intro k
  induction k with
  | zero =>
    intro i H locs ls hk hI hl hF
    have hk : n = i := by omega
    subst hk
    refine lv_iload_n hx hb dX1_leavesLaterUnknowns_8 rfl (lv_at hl 0 rfl) ?_
    refine lv_aload_n hx hb dX1_leavesLaterUnknowns_9 rfl (lv_at hl 1 rfl) ?_
    refine fl_get1 X hI dX1_leavesLaterUnknowns_10 (by omega) 2 (by decide) wf_X1_42 rfl ?_
    refine W.eq (g2 := F0 m 13 ls [.int (nI n), .int (nI n)]) (by rw [hn]) ?_
    refine fn_icmp_ge X (tgt := 35) dX1_leavesLaterUnknowns_13 (by decide) (by omega) (by omega) (fun c1 => ?_) (fun c1 => absurd c1 (by omega))
    refine lv_iconst (v := nI 1) hx hb dX1_leavesLaterUnknowns_35 (by decide) ?_
    exact fl_zret X hr hlk hI dX1_leavesLaterUnknowns_36 (by decide) hF
  | succ k ih =>
    intro i H locs ls hk hI hl hF
    refine lv_iload_n hx hb dX1_leavesLaterUnknowns_8 rfl (lv_at hl 0 rfl) ?_
    refine lv_aload_n hx hb dX1_leavesLaterUnknowns_9 rfl (lv_at hl 1 rfl) ?_
    refine fl_get1 X hI dX1_leavesLaterUnknowns_10 (by omega) 2 (by decide) wf_X1_42 rfl ?_
    refine W.eq (g2 := F0 m 13 ls [.int (nI n), .int (nI i)]) (by rw [hn]) ?_
    refine fn_icmp_ge X (tgt := 35) dX1_leavesLaterUnknowns_13 (by decide) (by omega) (by omega) (fun c1 => absurd c1 (by omega)) (fun c1 => ?_)
    refine lv_aload_n hx hb dX1_leavesLaterUnknowns_16 rfl (lv_at hl 1 rfl) ?_
    refine lv_iload_n hx hb dX1_leavesLaterUnknowns_17 rfl (lv_at hl 2 rfl) ?_
    refine lv_iload_n hx hb dX1_leavesLaterUnknowns_18 rfl (lv_at hl 0 rfl) ?_
    refine fl_callV (k := 0) (As := [.int (nI a), .int (nI i)]) (rest := []) X hI dX1_leavesLaterUnknowns_19 (m_X1_basisNumber D dA ad N I J hN he hrr (by omega) (by omega)) (by omega) fl_c_5 rfl rfl wc_yX1_basisNumber wm_X1_72 wi_yX1_basisNumber wl_yX1_basisNumber wn_X1 hd_yX1_basisNumber rfl ⟨by first | decide | omega, by first | decide | omega⟩ hl.1 (Nat.le_of_ble_eq_true rfl) (fun v I2 J2 H locs hp hI => ?_)
    obtain ⟨hv, hI2, hJ2⟩ := hp
    subst hv
    rw [hI2, hJ2] at hI
    refine W.eq (g2 := F0 m 22 ls [.long (J (6 + 2 + (rr + a)) (eq + i))]) rfl ?_
    refine lv_lconst (v := 0) hx hb dX1_leavesLaterUnknowns_22 rfl ?_
    refine fl_lc_eq (tgt := 29) hx hb dX1_leavesLaterUnknowns_23 dX1_leavesLaterUnknowns_24 (by decide) (fun c2 => ?_) (fun c2 => ?_)
    · refine fn_iinc (a := i) (lv' := [(2, .int (nI (i + 1))), (0, .ref (ad 0)), (1, .int (nI a))]) X dX1_leavesLaterUnknowns_29 hl (k := 0) rfl (by decide) rfl (fun ls hl => ?_)
      refine lv_goto (tgt := 8) hx hb dX1_leavesLaterUnknowns_32 (by decide) ?_
      exact ih (i + 1) _ _ _ (by omega) hI (lv_sub hl [0, 1, 2] rfl) (by have h9 := hF; simp only [x_llu] at h9; (first | rw [if_pos c2] at h9 | rw [if_neg c2] at h9 | skip); exact h9)
    · refine lv_iconst (v := nI 0) hx hb dX1_leavesLaterUnknowns_27 (by decide) ?_
      exact fl_zret X hr hlk hI dX1_leavesLaterUnknowns_28 (by decide) (by have h9 := hF; simp only [x_llu] at h9; (first | rw [if_pos c2] at h9 | rw [if_neg c2] at h9 | skip); exact h9)
theorem m_X1_leavesLater (D : va_G) (dA : Nat → ClassId) (ad : Nat → Nat) (N : Nat) (I : fl_TI) (J : fl_TJ) {n eq rr a : Nat} (hN : 30 ≤ N) (hn : I 0 2 = nI n) (hn4 : n ≤ 4) (he : I 0 3 = nI eq) (he3 : eq ≤ 3) (hrr : I 0 6 = nI rr) (hrn : rr ≤ n) (hxl : x_ld n eq rr I) (ha : rr + a < n) : FM yX1_leavesLaterUnknowns cX1_leavesLaterUnknowns 3 (some .boolean) 2 D dA ad N [.ref (ad 0), .int (nI a)] I J (fun v I' J' => v = some (.int (x_llu eq rr a J (n - x_lu n eq rr I (a + 1)) (x_lu n eq rr I (a + 1)))) ∧ I' = I ∧ J' = J) := by
  refine FM.ofW RX1 rfl (by decide +kernel) (Nat.le_of_ble_eq_true rfl) ?_
  intro p l e s m args below meth c ls X hr hlk hI hl
  have hx := X.1
  have hb := X.2.1
  have hl : lv_has ls 3 [(0, .ref (ad 0)), (1, .int (nI a))] := hl
  refine lv_aload_n hx hb dX1_leavesLaterUnknowns_0 rfl (lv_at hl 0 rfl) ?_
  refine lv_iload_n hx hb dX1_leavesLaterUnknowns_1 rfl (lv_at hl 1 rfl) ?_
  refine lv_iconst (v := nI 1) hx hb dX1_leavesLaterUnknowns_2 (by decide) ?_
  refine fn_iadd X dX1_leavesLaterUnknowns_3 ?_
  refine fl_callV (k := 0) (As := [.int (nI (a + 1))]) (rest := []) X hI dX1_leavesLaterUnknowns_4 (m_X1_leadUnknown D dA ad N I J hN hn he hrr hrn hn4 (i := a + 1) (by omega) (fun h => ⟨(hxl _ h).1, (hxl _ h).2.1⟩)) (by omega) fl_c_5 rfl rfl wc_yX1_leadUnknown wm_X1_158 wi_yX1_leadUnknown wl_yX1_leadUnknown wn_X1 hd_yX1_leadUnknown rfl ⟨by first | decide | omega, by first | decide | omega⟩ hl.1 (Nat.le_of_ble_eq_true rfl) (fun v I2 J2 H locs hp hI => ?_)
  obtain ⟨hv, hI2, hJ2⟩ := hp
  subst hv
  rw [hI2, hJ2] at hI
  refine W.eq (g2 := F0 m 7 ls [.int (nI (x_lu n eq rr I (a + 1)))]) rfl ?_
  refine lv_istore_n (lv' := [(2, .int (nI (x_lu n eq rr I (a + 1)))), (0, .ref (ad 0)), (1, .int (nI a))]) hx hb dX1_leavesLaterUnknowns_7 rfl hl (by decide) rfl (fun ls hl => ?_)
  have h31 := x_lu_le hxl (a + 1)
  exact lp_llu X hr hlk hN hn hn4 he he3 hrr hrn hxl ha ⟨by decide, by decide⟩ (n - x_lu n eq rr I (a + 1)) (x_lu n eq rr I (a + 1)) _ _ _ (by omega) hI (lv_sub hl [0, 1, 2] rfl) ⟨rfl, rfl, rfl⟩
theorem lp_unm {p : Program} {l : Launch} {e : Env} {R : Room} {s : State} {m : MethodId} {args : Array Value} {below : List Frame} {meth : Method} {c : Code} {D : va_G} {dA : Nat → ClassId} {ad : Nat → Nat} {N : Nat} {A : Nat → Prop} {I : fl_TI} {J : fl_TJ} {post : Option Value → fl_TI → fl_TJ → Prop} (X : CallFix p m c cX1_unmovedLieInside 5 s args fl_tb RX1) (hr : meth.sig.returnType = some .boolean) (hlk : meth.locks = false) {en : Nat} {xl xh : Int32} (hN : 30 ≤ N) (hen : en ≤ 4)  :
    ∀ (k i : Nat) (H : Heap) (locs : List Loc) (ls : Array Slot), i + k = en → fl_I D dA ad N I J A s s.heap H locs → lv_has ls 5 [(4, .int (nI i)), (3, .int (nI en)), (0, .ref (ad 0)), (1, .int xl), (2, .int xh)] → post (some (.int (x_unm xl xh J k i))) I J → W p l e R s m args below meth c H locs 0 0 (MQ below (fl_Q D dA ad N post A) args s 0 0 A) (F0 m 9 ls []) := by
  have hx := X.1
  have hb := X.2.1
  intro k
  induction k with
  | zero =>
    intro i H locs ls hk hI hl hF
    have hk : en = i := by omega
    subst hk
    refine lv_iload hx hb dX1_unmovedLieInside_9 (lv_at hl 0 rfl) ?_
    refine lv_iload_n hx hb dX1_unmovedLieInside_11 rfl (lv_at hl 1 rfl) ?_
    refine fn_icmp_ge X (tgt := 53) dX1_unmovedLieInside_12 (by decide) (by omega) (by omega) (fun c1 => ?_) (fun c1 => absurd c1 (by omega))
    refine lv_iconst (v := nI 1) hx hb dX1_unmovedLieInside_53 (by decide) ?_
    exact fl_zret X hr hlk hI dX1_unmovedLieInside_54 (by decide) hF
  | succ k ih =>
    intro i H locs ls hk hI hl hF
    refine lv_iload hx hb dX1_unmovedLieInside_9 (lv_at hl 0 rfl) ?_
    refine lv_iload_n hx hb dX1_unmovedLieInside_11 rfl (lv_at hl 1 rfl) ?_
    refine fn_icmp_ge X (tgt := 53) dX1_unmovedLieInside_12 (by decide) (by omega) (by omega) (fun c1 => absurd c1 (by omega)) (fun c1 => ?_)
    refine lv_aload_n hx hb dX1_unmovedLieInside_15 rfl (lv_at hl 2 rfl) ?_
    refine fl_get1 X hI dX1_unmovedLieInside_16 (by omega) 10 (by decide) wf_X1_39 rfl ?_
    refine lv_iconst (v := nI 0) hx hb dX1_unmovedLieInside_19 (by decide) ?_
    refine fn_aald3 (k := 24) X hI dX1_unmovedLieInside_20 (by omega) rfl (show 0 < 5 by omega) ?_
    refine lv_iload hx hb dX1_unmovedLieInside_21 (lv_at hl 0 rfl) ?_
    refine fn_lald (k := 25 + 0) X hI dX1_unmovedLieInside_23 (by omega) (fk25 (by omega)) (by rw [fn25 (by omega)]; omega) ?_
    refine lv_iload_n hx hb dX1_unmovedLieInside_24 rfl (lv_at hl 3 rfl) ?_
    refine lv_i2l hx hb dX1_unmovedLieInside_25 rfl ?_
    refine fl_lc_lt (tgt := 45) hx hb dX1_unmovedLieInside_26 dX1_unmovedLieInside_27 (by decide) (fun c2 => ?_) (fun c2 => ?_)
    · refine lv_iconst (v := nI 0) hx hb dX1_unmovedLieInside_45 (by decide) ?_
      exact fl_zret X hr hlk hI dX1_unmovedLieInside_46 (by decide) (by have h9 := hF; simp only [x_unm] at h9; (first | rw [if_pos c2] at h9 | rw [if_neg c2] at h9 | skip); exact h9)
    · refine lv_aload_n hx hb dX1_unmovedLieInside_30 rfl (lv_at hl 2 rfl) ?_
      refine fl_get1 X hI dX1_unmovedLieInside_31 (by omega) 10 (by decide) wf_X1_39 rfl ?_
      refine lv_iconst (v := nI 0) hx hb dX1_unmovedLieInside_34 (by decide) ?_
      refine fn_aald3 (k := 24) X hI dX1_unmovedLieInside_35 (by omega) rfl (show 0 < 5 by omega) ?_
      refine lv_iload hx hb dX1_unmovedLieInside_36 (lv_at hl 0 rfl) ?_
      refine fn_lald (k := 25 + 0) X hI dX1_unmovedLieInside_38 (by omega) (fk25 (by omega)) (by rw [fn25 (by omega)]; omega) ?_
      refine lv_iload_n hx hb dX1_unmovedLieInside_39 rfl (lv_at hl 4 rfl) ?_
      refine lv_i2l hx hb dX1_unmovedLieInside_40 rfl ?_
      refine fl_lc_le (tgt := 47) hx hb dX1_unmovedLieInside_41 dX1_unmovedLieInside_42 (by decide) (fun c3 => ?_) (fun c3 => ?_)
      · refine fn_iinc (a := i) (lv' := [(4, .int (nI (i + 1))), (3, .int (nI en)), (0, .ref (ad 0)), (1, .int xl), (2, .int xh)]) X dX1_unmovedLieInside_47 hl (k := 0) rfl (by decide) rfl (fun ls hl => ?_)
        refine lv_goto (tgt := 9) hx hb dX1_unmovedLieInside_50 (by decide) ?_
        exact ih (i + 1) _ _ _ (by omega) hI (lv_sub hl [0, 1, 2, 3, 4] rfl) (by have h9 := hF; simp only [x_unm] at h9; (first | rw [if_pos c2] at h9 | rw [if_neg c2] at h9 | skip); (first | rw [if_pos c3] at h9 | rw [if_neg c3] at h9 | skip); exact h9)
      · refine lv_iconst (v := nI 0) hx hb dX1_unmovedLieInside_45 (by decide) ?_
        exact fl_zret X hr hlk hI dX1_unmovedLieInside_46 (by decide) (by have h9 := hF; simp only [x_unm] at h9; (first | rw [if_pos c2] at h9 | rw [if_neg c2] at h9 | skip); (first | rw [if_pos c3] at h9 | rw [if_neg c3] at h9 | skip); exact h9)
theorem m_X1_unmoved (D : va_G) (dA : Nat → ClassId) (ad : Nat → Nat) (N : Nat) (I : fl_TI) (J : fl_TJ) {n eq rr : Nat} {xl xh : Int32} (hN : 30 ≤ N) (hn : I 0 2 = nI n) (hn4 : n ≤ 4) (he : I 0 3 = nI eq) (he3 : eq ≤ 3) (hrr : I 0 6 = nI rr) (hrn : rr ≤ n) (hxl : x_ld n eq rr I) : FM yX1_unmovedLieInside cX1_unmovedLieInside 5 (some .boolean) 2 D dA ad N [.ref (ad 0), .int xl, .int xh] I J (fun v I' J' => v = some (.int (x_unm xl xh J (x_lu n eq rr I 0) 0)) ∧ I' = I ∧ J' = J) := by
  refine FM.ofW RX1 rfl (by decide +kernel) (Nat.le_of_ble_eq_true rfl) ?_
  intro p l e s m args below meth c ls X hr hlk hI hl
  have hx := X.1
  have hb := X.2.1
  have hl : lv_has ls 5 [(0, .ref (ad 0)), (1, .int xl), (2, .int xh)] := hl
  refine lv_aload_n hx hb dX1_unmovedLieInside_0 rfl (lv_at hl 0 rfl) ?_
  refine lv_iconst (v := nI 0) hx hb dX1_unmovedLieInside_1 (by decide) ?_
  refine fl_callV (k := 0) (As := [.int (nI 0)]) (rest := []) X hI dX1_unmovedLieInside_2 (m_X1_leadUnknown D dA ad N I J hN hn he hrr hrn hn4 (i := 0) (by omega) (fun h => ⟨(hxl _ h).1, (hxl _ h).2.1⟩)) (by omega) fl_c_5 rfl rfl wc_yX1_leadUnknown wm_X1_158 wi_yX1_leadUnknown wl_yX1_leadUnknown wn_X1 hd_yX1_leadUnknown rfl ⟨by first | decide | omega, by first | decide | omega⟩ hl.1 (Nat.le_of_ble_eq_true rfl) (fun v I2 J2 H locs hp hI => ?_)
  obtain ⟨hv, hI2, hJ2⟩ := hp
  subst hv
  rw [hI2, hJ2] at hI
  refine W.eq (g2 := F0 m 5 ls [.int (nI (x_lu n eq rr I 0))]) rfl ?_
  refine lv_istore_n (lv' := [(3, .int (nI (x_lu n eq rr I 0))), (0, .ref (ad 0)), (1, .int xl), (2, .int xh)]) hx hb dX1_unmovedLieInside_5 rfl hl (by decide) rfl (fun ls hl => ?_)
  refine lv_iconst (v := nI 0) hx hb dX1_unmovedLieInside_6 (by decide) ?_
  refine lv_istore (lv' := [(4, .int (nI 0)), (3, .int (nI (x_lu n eq rr I 0))), (0, .ref (ad 0)), (1, .int xl), (2, .int xh)]) hx hb dX1_unmovedLieInside_7 hl (by decide) rfl (fun ls hl => ?_)
  have h31 := x_lu_le hxl 0
  exact lp_unm X hr hlk hN (by omega) (x_lu n eq rr I 0) 0 _ _ _ (Nat.zero_add _) hI (lv_sub hl [0, 1, 2, 3, 4] rfl) ⟨rfl, rfl, rfl⟩
end
section
/-! box: countFrom, box -/
def x_cntL (f : Int64 → fl_TJ → Int64 × fl_TJ) : Nat → Int64 → Int64 × fl_TJ → Int64 × fl_TJ
  | 0, _, x => x
  | k + 1, t, x => x_cntL f k (t + 1) (x.1 + (f t x.2).1, (f t x.2).2)
def x_cnt (n eq rr : Nat) (xl xh : Int32) (I : fl_TI) : Nat → Nat → fl_TJ → Int64 × fl_TJ
  | 0, _, J => (1, J)
  | k + 1, a, J => if x_most n eq rr xl xh I a J < x_least n eq rr xl xh I a J then (0, J)
    else if x_llu eq rr a J (n - x_lu n eq rr I (a + 1)) (x_lu n eq rr I (a + 1)) = 0 then x_cntL (fun t J => x_cnt n eq rr xl xh I k (a + 1) (j_turn n eq rr a t J)) ((x_most n eq rr xl xh I a J).toInt + 1 - (x_least n eq rr xl xh I a J).toInt).toNat (x_least n eq rr xl xh I a J) (0, J)
    else ((x_most n eq rr xl xh I a J - x_least n eq rr xl xh I a J + 1) * (x_cnt n eq rr xl xh I k (a + 1) (j_turn n eq rr a 0 J)).1, (x_cnt n eq rr xl xh I k (a + 1) (j_turn n eq rr a 0 J)).2)
theorem mn64_le (x y : Int64) : (mn64 x y).toInt ≤ x.toInt := by
  unfold mn64
  by_cases h : y < x
  · rw [if_pos h]; rw [Int64.lt_iff_toInt_lt] at h; omega
  · rw [if_neg h]; exact Int.le_refl _
theorem x_most_le (n eq rr : Nat) (xl xh : Int32) (I : fl_TI) (a : Nat) (J : fl_TJ) : (x_most n eq rr xl xh I a J).toInt ≤ 999999999999999 := by
  have gen : ∀ (f : Nat → Int64 × Int64) (k i : Nat) (z : Int64), (fl_it (fun j ms => x_mt1 xl xh (f j).1 (f j).2 ms) k i z).toInt ≤ z.toInt := by
    intro f k
    induction k with
    | zero => intro i z; exact Int.le_refl _
    | succ k ih =>
      intro i z
      refine Int.le_trans (ih (i + 1) _) ?_
      show (x_mt1 xl xh (f i).1 (f i).2 z).toInt ≤ _
      unfold x_mt1
      by_cases h : (f i).1 = 0
      · rw [if_pos h]; exact Int.le_refl _
      · rw [if_neg h]; exact mn64_le _ _
  exact gen (fun j => (J (6 + 2 + (rr + a)) (eq + j), J (25 + a) j)) _ _ _
theorem i64_succ {t : Int64} (h : t.toInt ≤ 999999999999999) : (t + 1).toInt = t.toInt + 1 := by
  have h2 := t.le_toInt
  rw [Int64.toInt_add]
  show ((t.toInt + 1).bmod (2 ^ 64)) = _
  rw [Int.bmod_eq_of_le] <;> omega
theorem lp_cnt {p : Program} {l : Launch} {e : Env} {R : Room} {s : State} {m : MethodId} {args : Array Value} {below : List Frame} {meth : Method} {c : Code} {D : va_G} {dA : Nat → ClassId} {ad : Nat → Nat} {N : Nat} {A : Nat → Prop} {I : fl_TI} {post : Option Value → fl_TI → fl_TJ → Prop} {n eq rr a kd : Nat} {xl xh : Int32} {lt ms : Int64} (X : CallFix p m c cX1_countFrom 12 s args fl_tb RX1) (hr : meth.sig.returnType = some .long) (hlk : meth.locks = false) (hN : 30 ≤ N) (hn : I 0 2 = nI n) (hn4 : n ≤ 4) (he : I 0 3 = nI eq) (he3 : eq ≤ 3) (hrr : I 0 6 = nI rr) (hrn : rr ≤ n) (hxl : x_ld n eq rr I) (ha : rr + a < n) (hM : ∀ J, FM yX1_countFrom cX1_countFrom 12 (some .long) (kd + 3) D dA ad N [.ref (ad 0), .int (nI (a + 1)), .int xl, .int xh] I J (fun v I' J' => v = some (.long (x_cnt n eq rr xl xh I kd (a + 1) J).1) ∧ I' = I ∧ J' = (x_cnt n eq rr xl xh I kd (a + 1) J).2)) (hms : ms.toInt ≤ 999999999999999) (hR : kd + 3 + 1 ≤ R.frames ∧ 8 + (12 + 11) + 40 * (kd + 3) ≤ R.locals) :
    ∀ (k : Nat) (t tt : Int64) (J : fl_TJ) (H : Heap) (locs : List Loc) (ls : Array Slot), t.toInt + k = ms.toInt + 1 → fl_I D dA ad N I J A s s.heap H locs → lv_has ls 12 [(10, .long t), (8, .long tt), (6, .long ms), (4, .long lt), (0, .ref (ad 0)), (1, .int (nI a)), (2, .int xl), (3, .int xh)] → post (some (.long (x_cntL (fun t J => x_cnt n eq rr xl xh I kd (a + 1) (j_turn n eq rr a t J)) k t (tt, J)).1)) I (x_cntL (fun t J => x_cnt n eq rr xl xh I kd (a + 1) (j_turn n eq rr a t J)) k t (tt, J)).2 → W p l e R s m args below meth c H locs 0 0 (MQ below (fl_Q D dA ad N post A) args s 0 0 A) (F0 m 77 ls []) := by
  have hx := X.1
  have hb := X.2.1
  intro k
  induction k with
  | zero =>
    intro t tt J H locs ls hk hI hl hF
    refine lv_lload hx hb dX1_countFrom_77 (lv_at hl 0 rfl) ?_
    refine lv_lload hx hb dX1_countFrom_79 (lv_at hl 2 rfl) ?_
    refine fl_lc_gt (tgt := 115) hx hb dX1_countFrom_81 dX1_countFrom_82 (by decide) (fun c1 => ?_) (fun c1 => absurd (by rw [Int64.lt_iff_toInt_lt]; omega) c1)
    refine lv_lload hx hb dX1_countFrom_115 (lv_at hl 1 rfl) ?_
    exact fl_lret X hr hlk hI dX1_countFrom_117 hF
  | succ k ih =>
    intro t tt J H locs ls hk hI hl hF
    refine lv_lload hx hb dX1_countFrom_77 (lv_at hl 0 rfl) ?_
    refine lv_lload hx hb dX1_countFrom_79 (lv_at hl 2 rfl) ?_
    refine fl_lc_gt (tgt := 115) hx hb dX1_countFrom_81 dX1_countFrom_82 (by decide) (fun c1 => absurd c1 (by rw [Int64.lt_iff_toInt_lt]; omega)) (fun c1 => ?_)
    refine lv_aload_n hx hb dX1_countFrom_85 rfl (lv_at hl 4 rfl) ?_
    refine lv_iload_n hx hb dX1_countFrom_86 rfl (lv_at hl 5 rfl) ?_
    refine lv_lload hx hb dX1_countFrom_87 (lv_at hl 0 rfl) ?_
    refine fl_callV (k := 0) (As := [.int (nI a), .long t]) (rest := []) X hI dX1_countFrom_89 (m_X1_turn D dA ad N I J hN hn hn4 he he3 hrr hrn hxl ha) (by omega) fl_c_5 rfl rfl wc_yX1_turn wm_X1_170 wi_yX1_turn wl_yX1_turn wn_X1 hd_yX1_turn rfl ⟨by first | decide | omega, by first | decide | omega⟩ hl.1 (Nat.le_of_ble_eq_true rfl) (fun v I2 J2 H locs hp hI => ?_)
    obtain ⟨hv, hI2, hJ2⟩ := hp
    subst hv
    rw [hI2, hJ2] at hI
    refine W.eq (g2 := F0 m 92 ls []) rfl ?_
    refine lv_lload hx hb dX1_countFrom_92 (lv_at hl 1 rfl) ?_
    refine lv_aload_n hx hb dX1_countFrom_94 rfl (lv_at hl 4 rfl) ?_
    refine lv_iload_n hx hb dX1_countFrom_95 rfl (lv_at hl 5 rfl) ?_
    refine lv_iconst (v := nI 1) hx hb dX1_countFrom_96 (by decide) ?_
    refine fn_iadd X dX1_countFrom_97 ?_
    refine lv_iload_n hx hb dX1_countFrom_98 rfl (lv_at hl 6 rfl) ?_
    refine lv_iload_n hx hb dX1_countFrom_99 rfl (lv_at hl 7 rfl) ?_
    refine fl_callV (k := 0) (As := [.int (nI (a + 1)), .int xl, .int xh]) (rest := [.long tt]) X hI dX1_countFrom_100 (hM (j_turn n eq rr a t J)) (by omega) fl_c_5 rfl rfl wc_yX1_countFrom wm_X1_100 wi_yX1_countFrom wl_yX1_countFrom wn_X1 hd_yX1_countFrom rfl ⟨by first | decide | omega, by first | decide | omega⟩ hl.1 (Nat.le_of_ble_eq_true rfl) (fun v I2 J2 H locs hp hI => ?_)
    obtain ⟨hv, hI2, hJ2⟩ := hp
    subst hv
    rw [hI2, hJ2] at hI
    refine W.eq (g2 := F0 m 103 ls [.long ((x_cnt n eq rr xl xh I kd (a + 1) (j_turn n eq rr a t J)).1), .long tt]) rfl ?_
    refine lv_ladd hx hb dX1_countFrom_103 ?_
    refine lv_lstore (lv' := [(8, .long (tt + ((x_cnt n eq rr xl xh I kd (a + 1) (j_turn n eq rr a t J)).1))), (10, .long t), (6, .long ms), (4, .long lt), (0, .ref (ad 0)), (1, .int (nI a)), (2, .int xl), (3, .int xh)]) hx hb dX1_countFrom_104 hl (by decide) rfl (fun ls hl => ?_)
    refine lv_lload hx hb dX1_countFrom_106 (lv_at hl 1 rfl) ?_
    refine lv_lconst (v := 1) hx hb dX1_countFrom_108 rfl ?_
    refine lv_ladd hx hb dX1_countFrom_109 ?_
    refine lv_lstore (lv' := [(10, .long (t + 1)), (8, .long (tt + ((x_cnt n eq rr xl xh I kd (a + 1) (j_turn n eq rr a t J)).1))), (6, .long ms), (4, .long lt), (0, .ref (ad 0)), (1, .int (nI a)), (2, .int xl), (3, .int xh)]) hx hb dX1_countFrom_110 hl (by decide) rfl (fun ls hl => ?_)
    refine lv_goto (tgt := 77) hx hb dX1_countFrom_112 (by decide) ?_
    exact ih (t + 1) _ _ _ _ _ (by rw [i64_succ (by omega)]; omega) hI (lv_sub hl [0, 1, 2, 3, 4, 5, 6, 7] rfl) hF
theorem m_X1_countFrom (D : va_G) (dA : Nat → ClassId) (ad : Nat → Nat) (N : Nat) (I : fl_TI) {n eq rr : Nat} {xl xh : Int32} (hN : 30 ≤ N) (hn : I 0 2 = nI n) (hn4 : n ≤ 4) (he : I 0 3 = nI eq) (he3 : eq ≤ 3) (hrr : I 0 6 = nI rr) (hrn : rr ≤ n) (hxl : x_ld n eq rr I) (hinc : x_inc n rr I) : ∀ (kd a : Nat), rr + a + kd = n → ∀ J, FM yX1_countFrom cX1_countFrom 12 (some .long) (kd + 3) D dA ad N [.ref (ad 0), .int (nI a), .int xl, .int xh] I J (fun v I' J' => v = some (.long (x_cnt n eq rr xl xh I kd a J).1) ∧ I' = I ∧ J' = (x_cnt n eq rr xl xh I kd a J).2) := by
  intro kd
  induction kd with
  | zero =>
    intro a hk J
    refine FM.ofW RX1 rfl (by decide +kernel) (Nat.le_of_ble_eq_true rfl) ?_
    intro p l e s m args below meth c ls X hr hlk hI hl
    have hx := X.1
    have hb := X.2.1
    have hl : lv_has ls 12 [(0, .ref (ad 0)), (1, .int (nI a)), (2, .int xl), (3, .int xh)] := hl
    refine lv_iload_n hx hb dX1_countFrom_0 rfl (lv_at hl 1 rfl) ?_
    refine lv_aload_n hx hb dX1_countFrom_1 rfl (lv_at hl 0 rfl) ?_
    refine fl_callV (k := 0) (As := []) (rest := [.int (nI a)]) X hI dX1_countFrom_2 (m_X1_basisRows D dA ad N I J hN hn hrr hrn) (by omega) fl_c_5 rfl rfl wc_yX1_basisRows wm_X1_66 wi_yX1_basisRows wl_yX1_basisRows wn_X1 hd_yX1_basisRows rfl ⟨by first | decide | omega, by first | decide | omega⟩ hl.1 (Nat.le_of_ble_eq_true rfl) (fun v I2 J2 H locs hp hI => ?_)
    obtain ⟨hv, hI2, hJ2⟩ := hp
    subst hv
    rw [hI2, hJ2] at hI
    refine W.eq (g2 := F0 m 5 ls [.int (nI (n - rr)), .int (nI a)]) rfl ?_
    refine fn_icmp_lt X (tgt := 10) dX1_countFrom_5 (by decide) (by omega) (by omega) (fun c1 => absurd c1 (by omega)) (fun c1 => ?_)
    refine lv_lconst (v := 1) hx hb dX1_countFrom_8 rfl ?_
    exact fl_lret X hr hlk hI dX1_countFrom_9 ⟨rfl, rfl, rfl⟩
  | succ kd ih =>
    intro a hk J
    refine FM.ofW RX1 rfl (by decide +kernel) (Nat.le_of_ble_eq_true rfl) ?_
    intro p l e s m args below meth c ls X hr hlk hI hl
    have hx := X.1
    have hb := X.2.1
    have hl : lv_has ls 12 [(0, .ref (ad 0)), (1, .int (nI a)), (2, .int xl), (3, .int xh)] := hl
    refine lv_iload_n hx hb dX1_countFrom_0 rfl (lv_at hl 1 rfl) ?_
    refine lv_aload_n hx hb dX1_countFrom_1 rfl (lv_at hl 0 rfl) ?_
    refine fl_callV (k := 0) (As := []) (rest := [.int (nI a)]) X hI dX1_countFrom_2 (m_X1_basisRows D dA ad N I J hN hn hrr hrn) (by omega) fl_c_5 rfl rfl wc_yX1_basisRows wm_X1_66 wi_yX1_basisRows wl_yX1_basisRows wn_X1 hd_yX1_basisRows rfl ⟨by show _ ≤ kd + 1 + 3; omega, by show _ ≤ 40 * (kd + 1 + 3); omega⟩ hl.1 (Nat.le_of_ble_eq_true rfl) (fun v I2 J2 H locs hp hI => ?_)
    obtain ⟨hv, hI2, hJ2⟩ := hp
    subst hv
    rw [hI2, hJ2] at hI
    refine W.eq (g2 := F0 m 5 ls [.int (nI (n - rr)), .int (nI a)]) rfl ?_
    refine fn_icmp_lt X (tgt := 10) dX1_countFrom_5 (by decide) (by omega) (by omega) (fun c1 => ?_) (fun c1 => absurd c1 (by omega))
    refine lv_aload_n hx hb dX1_countFrom_10 rfl (lv_at hl 0 rfl) ?_
    refine lv_iload_n hx hb dX1_countFrom_11 rfl (lv_at hl 1 rfl) ?_
    refine lv_iload_n hx hb dX1_countFrom_12 rfl (lv_at hl 2 rfl) ?_
    refine lv_iload_n hx hb dX1_countFrom_13 rfl (lv_at hl 3 rfl) ?_
    refine fl_callV (k := 0) (As := [.int (nI a), .int xl, .int xh]) (rest := []) X hI dX1_countFrom_14 (m_X1_leastTurns D dA ad N I J hN hn hn4 he he3 hrr hrn hxl hinc (by omega)) (by omega) fl_c_5 rfl rfl wc_yX1_leastTurns wm_X1_161 wi_yX1_leastTurns wl_yX1_leastTurns wn_X1 hd_yX1_leastTurns rfl ⟨by show _ ≤ kd + 1 + 3; omega, by show _ ≤ 40 * (kd + 1 + 3); omega⟩ hl.1 (Nat.le_of_ble_eq_true rfl) (fun v I2 J2 H locs hp hI => ?_)
    obtain ⟨hv, hI2, hJ2⟩ := hp
    subst hv
    rw [hI2, hJ2] at hI
    refine W.eq (g2 := F0 m 17 ls [.long (x_least n eq rr xl xh I a J)]) rfl ?_
    refine lv_lstore (lv' := [(4, .long (x_least n eq rr xl xh I a J)), (0, .ref (ad 0)), (1, .int (nI a)), (2, .int xl), (3, .int xh)]) hx hb dX1_countFrom_17 hl (by decide) rfl (fun ls hl => ?_)
    refine lv_aload_n hx hb dX1_countFrom_19 rfl (lv_at hl 1 rfl) ?_
    refine lv_iload_n hx hb dX1_countFrom_20 rfl (lv_at hl 2 rfl) ?_
    refine lv_iload_n hx hb dX1_countFrom_21 rfl (lv_at hl 3 rfl) ?_
    refine lv_iload_n hx hb dX1_countFrom_22 rfl (lv_at hl 4 rfl) ?_
    refine fl_callV (k := 0) (As := [.int (nI a), .int xl, .int xh]) (rest := []) X hI dX1_countFrom_23 (m_X1_mostTurns D dA ad N I J hN hn hn4 he he3 hrr hrn hxl hinc (by omega)) (by omega) fl_c_5 rfl rfl wc_yX1_mostTurns wm_X1_164 wi_yX1_mostTurns wl_yX1_mostTurns wn_X1 hd_yX1_mostTurns rfl ⟨by show _ ≤ kd + 1 + 3; omega, by show _ ≤ 40 * (kd + 1 + 3); omega⟩ hl.1 (Nat.le_of_ble_eq_true rfl) (fun v I2 J2 H locs hp hI => ?_)
    obtain ⟨hv, hI2, hJ2⟩ := hp
    subst hv
    rw [hI2, hJ2] at hI
    refine W.eq (g2 := F0 m 26 ls [.long (x_most n eq rr xl xh I a J)]) rfl ?_
    refine lv_lstore (lv' := [(6, .long (x_most n eq rr xl xh I a J)), (4, .long (x_least n eq rr xl xh I a J)), (0, .ref (ad 0)), (1, .int (nI a)), (2, .int xl), (3, .int xh)]) hx hb dX1_countFrom_26 hl (by decide) rfl (fun ls hl => ?_)
    refine lv_lload hx hb dX1_countFrom_28 (lv_at hl 0 rfl) ?_
    refine lv_lload hx hb dX1_countFrom_30 (lv_at hl 1 rfl) ?_
    refine fl_lc_ge (tgt := 38) hx hb dX1_countFrom_32 dX1_countFrom_33 (by decide) (fun c2 => ?_) (fun c2 => ?_)
    · refine lv_aload_n hx hb dX1_countFrom_38 rfl (lv_at hl 2 rfl) ?_
      refine lv_iload_n hx hb dX1_countFrom_39 rfl (lv_at hl 3 rfl) ?_
      refine fl_callV (k := 0) (As := [.int (nI a)]) (rest := []) X hI dX1_countFrom_40 (m_X1_leavesLater D dA ad N I J hN hn hn4 he he3 hrr hrn hxl (a := a) (by omega)) (by omega) fl_c_5 rfl rfl wc_yX1_leavesLaterUnknowns wm_X1_167 wi_yX1_leavesLaterUnknowns wl_yX1_leavesLaterUnknowns wn_X1 hd_yX1_leavesLaterUnknowns rfl ⟨by show _ ≤ kd + 1 + 3; omega, by show _ ≤ 40 * (kd + 1 + 3); omega⟩ hl.1 (Nat.le_of_ble_eq_true rfl) (fun v I2 J2 H locs hp hI => ?_)
      obtain ⟨hv, hI2, hJ2⟩ := hp
      subst hv
      rw [hI2, hJ2] at hI
      refine W.eq (g2 := F0 m 43 ls [.int (x_llu eq rr a J (n - x_lu n eq rr I (a + 1)) (x_lu n eq rr I (a + 1)))]) rfl ?_
      refine lv_if_eq (tgt := 70) hx hb dX1_countFrom_43 (by decide) (fun c3 => ?_) (fun c3 => ?_)
      · refine lv_lconst (v := 0) hx hb dX1_countFrom_70 rfl ?_
        refine lv_lstore (lv' := [(8, .long 0), (6, .long (x_most n eq rr xl xh I a J)), (4, .long (x_least n eq rr xl xh I a J)), (0, .ref (ad 0)), (1, .int (nI a)), (2, .int xl), (3, .int xh)]) hx hb dX1_countFrom_71 hl (by decide) rfl (fun ls hl => ?_)
        refine lv_lload hx hb dX1_countFrom_73 (lv_at hl 2 rfl) ?_
        refine lv_lstore (lv' := [(10, .long (x_least n eq rr xl xh I a J)), (8, .long 0), (6, .long (x_most n eq rr xl xh I a J)), (4, .long (x_least n eq rr xl xh I a J)), (0, .ref (ad 0)), (1, .int (nI a)), (2, .int xl), (3, .int xh)]) hx hb dX1_countFrom_75 hl (by decide) rfl (fun ls hl => ?_)
        have h41 := x_most_le n eq rr xl xh I a J
        refine lp_cnt X hr hlk hN hn hn4 he he3 hrr hrn hxl (by omega) (fun J => ih (a + 1) (by omega) J) h41 ⟨Nat.le_refl _, (show _ ≤ 40 * (kd + 1 + 3) by omega)⟩ ((x_most n eq rr xl xh I a J).toInt + 1 - (x_least n eq rr xl xh I a J).toInt).toNat _ _ _ _ _ _ (by rw [Int64.lt_iff_toInt_lt] at c2; omega) hI (lv_sub hl [0, 1, 2, 3, 4, 5, 6, 7] rfl) ?_
        rw [x_cnt, if_neg c2, if_pos c3]
        exact ⟨rfl, rfl, rfl⟩
      · refine lv_aload_n hx hb dX1_countFrom_46 rfl (lv_at hl 2 rfl) ?_
        refine lv_iload_n hx hb dX1_countFrom_47 rfl (lv_at hl 3 rfl) ?_
        refine lv_lconst (v := 0) hx hb dX1_countFrom_48 rfl ?_
        refine fl_callV (k := 0) (As := [.int (nI a), .long 0]) (rest := []) X hI dX1_countFrom_49 (m_X1_turn D dA ad N I J hN hn hn4 he he3 hrr hrn hxl (a := a) (by omega)) (by omega) fl_c_5 rfl rfl wc_yX1_turn wm_X1_170 wi_yX1_turn wl_yX1_turn wn_X1 hd_yX1_turn rfl ⟨by show _ ≤ kd + 1 + 3; omega, by show _ ≤ 40 * (kd + 1 + 3); omega⟩ hl.1 (Nat.le_of_ble_eq_true rfl) (fun v I2 J2 H locs hp hI => ?_)
        obtain ⟨hv, hI2, hJ2⟩ := hp
        subst hv
        rw [hI2, hJ2] at hI
        refine W.eq (g2 := F0 m 52 ls []) rfl ?_
        refine lv_lload hx hb dX1_countFrom_52 (lv_at hl 0 rfl) ?_
        refine lv_lload hx hb dX1_countFrom_54 (lv_at hl 1 rfl) ?_
        refine lv_lsub hx hb dX1_countFrom_56 ?_
        refine lv_lconst (v := 1) hx hb dX1_countFrom_57 rfl ?_
        refine lv_ladd hx hb dX1_countFrom_58 ?_
        refine lv_aload_n hx hb dX1_countFrom_59 rfl (lv_at hl 2 rfl) ?_
        refine lv_iload_n hx hb dX1_countFrom_60 rfl (lv_at hl 3 rfl) ?_
        refine lv_iconst (v := nI 1) hx hb dX1_countFrom_61 (by decide) ?_
        refine fn_iadd X dX1_countFrom_62 ?_
        refine lv_iload_n hx hb dX1_countFrom_63 rfl (lv_at hl 4 rfl) ?_
        refine lv_iload_n hx hb dX1_countFrom_64 rfl (lv_at hl 5 rfl) ?_
        refine fl_callV (k := 0) (As := [.int (nI (a + 1)), .int xl, .int xh]) (rest := [.long (((x_most n eq rr xl xh I a J) - (x_least n eq rr xl xh I a J)) + 1)]) X hI dX1_countFrom_65 (ih (a + 1) (by omega) (j_turn n eq rr a 0 J)) (by omega) fl_c_5 rfl rfl wc_yX1_countFrom wm_X1_100 wi_yX1_countFrom wl_yX1_countFrom wn_X1 hd_yX1_countFrom rfl ⟨by show _ ≤ kd + 1 + 3; omega, by show _ ≤ 40 * (kd + 1 + 3); omega⟩ hl.1 (Nat.le_of_ble_eq_true rfl) (fun v I2 J2 H locs hp hI => ?_)
        obtain ⟨hv, hI2, hJ2⟩ := hp
        subst hv
        rw [hI2, hJ2] at hI
        refine W.eq (g2 := F0 m 68 ls [.long ((x_cnt n eq rr xl xh I kd (a + 1) (j_turn n eq rr a 0 J)).1), .long (((x_most n eq rr xl xh I a J) - (x_least n eq rr xl xh I a J)) + 1)]) rfl ?_
        refine lv_lmul hx hb dX1_countFrom_68 ?_
        exact fl_lret X hr hlk hI dX1_countFrom_69 ⟨by rw [x_cnt, if_neg c2, if_neg c3], rfl, by rw [x_cnt, if_neg c2, if_neg c3]⟩
    · refine lv_lconst (v := 0) hx hb dX1_countFrom_36 rfl ?_
      exact fl_lret X hr hlk hI dX1_countFrom_37 ⟨by rw [x_cnt, if_pos c2], rfl, by rw [x_cnt, if_pos c2]⟩
def j_spot (n eq : Nat) (J : fl_TJ) : fl_TJ := fl_it (fun j J => fl_up J (25 + 0) j (J 22 (eq + j))) n 0 J
theorem lp_spot {p : Program} {l : Launch} {e : Env} {R : Room} {s : State} {m : MethodId} {args : Array Value} {below : List Frame} {meth : Method} {c : Code} {Q : State → Prop} {D : va_G} {dA : Nat → ClassId} {ad : Nat → Nat} {N : Nat} {A : Nat → Prop} {H0 : Heap} {I : fl_TI} {J9 : fl_TJ} (X : CallFix p m c cX1_box 4 s args fl_tb RX1) {n eq : Nat} {xl xh : Int32} (hN : 30 ≤ N) (hn : I 0 2 = nI n) (hn4 : n ≤ 4) (he : I 0 3 = nI eq) (he3 : eq ≤ 3)
    (kx : ∀ (H : Heap) (locs : List Loc) (ls : Array Slot), fl_I D dA ad N I J9 A s H0 H locs → lv_has ls 4 [(3, .int (nI n)), (0, .ref (ad 0)), (1, .int xl), (2, .int xh)] → W p l e R s m args below meth c H locs 0 0 Q (F0 m 64 ls [])) :
    ∀ (k i : Nat) (J : fl_TJ) (H : Heap) (locs : List Loc) (ls : Array Slot), i + k = n → fl_I D dA ad N I J A s H0 H locs → lv_has ls 4 [(3, .int (nI i)), (0, .ref (ad 0)), (1, .int xl), (2, .int xh)] → fl_it (fun j J => fl_up J (25 + 0) j (J 22 (eq + j))) k i J = J9 → W p l e R s m args below meth c H locs 0 0 Q (F0 m 31 ls []) := by
  have hx := X.1
  have hb := X.2.1
  intro k
  induction k with
  | zero =>
    intro i J H locs ls hk hI hl hF
    have hF : J = J9 := hF
    subst hF
    have hk : n = i := by omega
    subst hk
    refine lv_iload_n hx hb dX1_box_31 rfl (lv_at hl 0 rfl) ?_
    refine lv_aload_n hx hb dX1_box_32 rfl (lv_at hl 1 rfl) ?_
    refine fl_get1 X hI dX1_box_33 (by omega) 2 (by decide) wf_X1_42 rfl ?_
    refine W.eq (g2 := F0 m 36 ls [.int (nI n), .int (nI n)]) (by rw [hn]) ?_
    refine fn_icmp_ge X (tgt := 64) dX1_box_36 (by decide) (by omega) (by omega) (fun c1 => ?_) (fun c1 => absurd c1 (by omega))
    exact kx _ _ _ hI (lv_sub hl [0, 1, 2, 3] rfl)
  | succ k ih =>
    intro i J H locs ls hk hI hl hF
    refine lv_iload_n hx hb dX1_box_31 rfl (lv_at hl 0 rfl) ?_
    refine lv_aload_n hx hb dX1_box_32 rfl (lv_at hl 1 rfl) ?_
    refine fl_get1 X hI dX1_box_33 (by omega) 2 (by decide) wf_X1_42 rfl ?_
    refine W.eq (g2 := F0 m 36 ls [.int (nI n), .int (nI i)]) (by rw [hn]) ?_
    refine fn_icmp_ge X (tgt := 64) dX1_box_36 (by decide) (by omega) (by omega) (fun c1 => absurd c1 (by omega)) (fun c1 => ?_)
    refine lv_aload_n hx hb dX1_box_39 rfl (lv_at hl 1 rfl) ?_
    refine fl_get1 X hI dX1_box_40 (by omega) 10 (by decide) wf_X1_39 rfl ?_
    refine lv_iconst (v := nI 0) hx hb dX1_box_43 (by decide) ?_
    refine fn_aald3 (k := 24) X hI dX1_box_44 (by omega) rfl (show 0 < 5 by omega) ?_
    refine lv_iload_n hx hb dX1_box_45 rfl (lv_at hl 0 rfl) ?_
    refine lv_aload_n hx hb dX1_box_46 rfl (lv_at hl 1 rfl) ?_
    refine fl_get1 X hI dX1_box_47 (by omega) 7 (by decide) wf_X1_30 rfl ?_
    refine lv_aload_n hx hb dX1_box_50 rfl (lv_at hl 1 rfl) ?_
    refine fl_get1 X hI dX1_box_51 (by omega) 3 (by decide) wf_X1_46 rfl ?_
    refine W.eq (g2 := F0 m 54 ls [.int (nI eq), .ref (ad 22), .int (nI i), .ref (ad (25 + 0))]) (by rw [he]) ?_
    refine lv_iload_n hx hb dX1_box_54 rfl (lv_at hl 0 rfl) ?_
    refine fn_iadd X dX1_box_55 ?_
    refine fn_lald (k := 22) X hI dX1_box_56 (by omega) rfl (show eq + i < 7 by omega) ?_
    refine fn_last (k := 25 + 0) X hI dX1_box_57 (by omega) (fk25 (by omega)) (by rw [fn25 (by omega)]; omega) (fun H locs hI => ?_)
    refine fn_iinc (a := i) (lv' := [(3, .int (nI (i + 1))), (0, .ref (ad 0)), (1, .int xl), (2, .int xh)]) X dX1_box_58 hl (k := 0) rfl (by decide) rfl (fun ls hl => ?_)
    refine lv_goto (tgt := 31) hx hb dX1_box_61 (by decide) ?_
    exact ih (i + 1) _ _ _ _ (by omega) hI (lv_sub hl [0, 1, 2, 3] rfl) hF
theorem m_X1_box_bad (D : va_G) (dA : Nat → ClassId) (ad : Nat → Nat) (N : Nat) (I : fl_TI) (J : fl_TJ) (hN : 30 ≤ N) {xl xh : Int32} (hbad : xl < -12 ∨ nI 12 < xh ∨ ¬ xl ≤ xh) : FM yX1_box cX1_box 4 (some .int) 9 D dA ad N [.ref (ad 0), .int xl, .int xh] I J (fun v I' J' => v = some (.int (-1)) ∧ I' = I ∧ J' = J) := by
  refine FM.ofW RX1 rfl (by decide +kernel) (Nat.le_of_ble_eq_true rfl) ?_
  intro p l e s m args below meth c ls X hr hlk hI hl
  have hx := X.1
  have hb := X.2.1
  have hl : lv_has ls 4 [(0, .ref (ad 0)), (1, .int xl), (2, .int xh)] := hl
  refine lv_iload_n hx hb dX1_box_0 rfl (lv_at hl 1 rfl) ?_
  refine lv_bipush (v := (-12)) hx hb dX1_box_1 (by decide) ?_
  refine lv_icmp_lt (tgt := 17) hx hb dX1_box_3 (by decide) (fun c1 => ?_) (fun c1 => ?_)
  · refine lv_iconst (v := (-1)) hx hb dX1_box_17 (by decide) ?_
    exact fl_iret X hr hlk hI dX1_box_18 ⟨rfl, rfl, rfl⟩
  · refine lv_iload_n hx hb dX1_box_6 rfl (lv_at hl 2 rfl) ?_
    refine lv_bipush (v := nI 12) hx hb dX1_box_7 (by decide) ?_
    refine lv_icmp_gt (tgt := 17) hx hb dX1_box_9 (by decide) (fun c2 => ?_) (fun c2 => ?_)
    · refine lv_iconst (v := (-1)) hx hb dX1_box_17 (by decide) ?_
      exact fl_iret X hr hlk hI dX1_box_18 ⟨rfl, rfl, rfl⟩
    · refine lv_iload_n hx hb dX1_box_12 rfl (lv_at hl 2 rfl) ?_
      refine lv_iload_n hx hb dX1_box_13 rfl (lv_at hl 1 rfl) ?_
      refine lv_icmp_ge (tgt := 19) hx hb dX1_box_14 (by decide) (fun c3 => ?_) (fun c3 => ?_)
      · exact absurd hbad (fun q => q.elim c1 (fun q => q.elim c2 (fun z => z c3)))
      · refine lv_iconst (v := (-1)) hx hb dX1_box_17 (by decide) ?_
        exact fl_iret X hr hlk hI dX1_box_18 ⟨rfl, rfl, rfl⟩
theorem m_X1_box_none (D : va_G) (dA : Nat → ClassId) (ad : Nat → Nat) (N : Nat) (I : fl_TI) (J : fl_TJ) (hN : 30 ≤ N) {xl xh : Int32} (h1 : ¬ xl < -12) (h2 : ¬ nI 12 < xh) (h3 : xl ≤ xh) (h8 : ¬ I 0 8 = -1) : FM yX1_box cX1_box 4 (some .int) 9 D dA ad N [.ref (ad 0), .int xl, .int xh] I J (fun v I' J' => v = some (.int (nI 0)) ∧ I' = I ∧ J' = J) := by
  refine FM.ofW RX1 rfl (by decide +kernel) (Nat.le_of_ble_eq_true rfl) ?_
  intro p l e s m args below meth c ls X hr hlk hI hl
  have hx := X.1
  have hb := X.2.1
  have hl : lv_has ls 4 [(0, .ref (ad 0)), (1, .int xl), (2, .int xh)] := hl
  refine lv_iload_n hx hb dX1_box_0 rfl (lv_at hl 1 rfl) ?_
  refine lv_bipush (v := (-12)) hx hb dX1_box_1 (by decide) ?_
  refine lv_icmp_lt (tgt := 17) hx hb dX1_box_3 (by decide) (fun c1 => absurd c1 h1) (fun c1 => ?_)
  refine lv_iload_n hx hb dX1_box_6 rfl (lv_at hl 2 rfl) ?_
  refine lv_bipush (v := nI 12) hx hb dX1_box_7 (by decide) ?_
  refine lv_icmp_gt (tgt := 17) hx hb dX1_box_9 (by decide) (fun c2 => absurd c2 h2) (fun c2 => ?_)
  refine lv_iload_n hx hb dX1_box_12 rfl (lv_at hl 2 rfl) ?_
  refine lv_iload_n hx hb dX1_box_13 rfl (lv_at hl 1 rfl) ?_
  refine lv_icmp_ge (tgt := 19) hx hb dX1_box_14 (by decide) (fun c3 => ?_) (fun c3 => absurd h3 c3)
  refine lv_aload_n hx hb dX1_box_19 rfl (lv_at hl 0 rfl) ?_
  refine fl_get1 X hI dX1_box_20 (by omega) 8 (by decide) wf_X1_63 rfl ?_
  refine lv_iconst (v := (-1)) hx hb dX1_box_23 (by decide) ?_
  refine lv_icmp_eq (tgt := 29) hx hb dX1_box_24 (by decide) (fun c4 => absurd c4 h8) (fun c4 => ?_)
  refine lv_iconst (v := nI 0) hx hb dX1_box_27 (by decide) ?_
  exact fl_iret X hr hlk hI dX1_box_28 ⟨rfl, rfl, rfl⟩
def x_box (n eq rr : Nat) (xl xh : Int32) (I : fl_TI) (J : fl_TJ) : Int32 × fl_TJ := if x_unm xl xh (j_spot n eq J) (x_lu n eq rr I 0) 0 = 0 then (nI 0, j_spot n eq J) else ((x_cnt n eq rr xl xh I (n - rr) 0 (j_spot n eq J)).1.toInt32, (x_cnt n eq rr xl xh I (n - rr) 0 (j_spot n eq J)).2)
theorem m_X1_box (D : va_G) (dA : Nat → ClassId) (ad : Nat → Nat) (N : Nat) (I : fl_TI) (J : fl_TJ) (hN : 30 ≤ N) {n eq rr rk : Nat} (ok : x_ok I n eq rr rk) {xl xh : Int32} (h1 : ¬ xl < -12) (h2 : ¬ nI 12 < xh) (h3 : xl ≤ xh) (h8 : I 0 8 = -1) (hxl : x_ld n eq rr I) (hinc : x_inc n rr I) : FM yX1_box cX1_box 4 (some .int) 9 D dA ad N [.ref (ad 0), .int xl, .int xh] I J (fun v I' J' => v = some (.int (x_box n eq rr xl xh I J).1) ∧ I' = I ∧ J' = (x_box n eq rr xl xh I J).2) := by
  refine FM.ofW RX1 rfl (by decide +kernel) (Nat.le_of_ble_eq_true rfl) ?_
  intro p l e s m args below meth c ls X hr hlk hI hl
  have hx := X.1
  have hb := X.2.1
  have hl : lv_has ls 4 [(0, .ref (ad 0)), (1, .int xl), (2, .int xh)] := hl
  obtain ⟨hn, ⟨hn1, hn4⟩, he, he3, hrr, hrn, hh, hw, hrk, hrk4, hld⟩ := ok
  refine lv_iload_n hx hb dX1_box_0 rfl (lv_at hl 1 rfl) ?_
  refine lv_bipush (v := (-12)) hx hb dX1_box_1 (by decide) ?_
  refine lv_icmp_lt (tgt := 17) hx hb dX1_box_3 (by decide) (fun c1 => absurd c1 h1) (fun c1 => ?_)
  refine lv_iload_n hx hb dX1_box_6 rfl (lv_at hl 2 rfl) ?_
  refine lv_bipush (v := nI 12) hx hb dX1_box_7 (by decide) ?_
  refine lv_icmp_gt (tgt := 17) hx hb dX1_box_9 (by decide) (fun c2 => absurd c2 h2) (fun c2 => ?_)
  refine lv_iload_n hx hb dX1_box_12 rfl (lv_at hl 2 rfl) ?_
  refine lv_iload_n hx hb dX1_box_13 rfl (lv_at hl 1 rfl) ?_
  refine lv_icmp_ge (tgt := 19) hx hb dX1_box_14 (by decide) (fun c3 => ?_) (fun c3 => absurd h3 c3)
  refine lv_aload_n hx hb dX1_box_19 rfl (lv_at hl 0 rfl) ?_
  refine fl_get1 X hI dX1_box_20 (by omega) 8 (by decide) wf_X1_63 rfl ?_
  refine lv_iconst (v := (-1)) hx hb dX1_box_23 (by decide) ?_
  refine lv_icmp_eq (tgt := 29) hx hb dX1_box_24 (by decide) (fun c4 => ?_) (fun c4 => absurd h8 c4)
  refine lv_iconst (v := nI 0) hx hb dX1_box_29 (by decide) ?_
  refine lv_istore_n (lv' := [(3, .int (nI 0)), (0, .ref (ad 0)), (1, .int xl), (2, .int xh)]) hx hb dX1_box_30 rfl hl (by decide) rfl (fun ls hl => ?_)
  refine lp_spot X hN hn hn4 he he3 (J9 := j_spot n eq J) (fun H locs ls hI hl => ?_) n 0 _ _ _ _ (Nat.zero_add _) hI (lv_sub hl [0, 1, 2, 3] rfl) rfl
  refine lv_aload_n hx hb dX1_box_64 rfl (lv_at hl 1 rfl) ?_
  refine lv_iload_n hx hb dX1_box_65 rfl (lv_at hl 2 rfl) ?_
  refine lv_iload_n hx hb dX1_box_66 rfl (lv_at hl 3 rfl) ?_
  refine fl_callV (k := 0) (As := [.int xl, .int xh]) (rest := []) X hI dX1_box_67 (m_X1_unmoved D dA ad N I (j_spot n eq J) hN hn hn4 he he3 hrr hrn hxl) (by omega) fl_c_5 rfl rfl wc_yX1_unmovedLieInside wm_X1_97 wi_yX1_unmovedLieInside wl_yX1_unmovedLieInside wn_X1 hd_yX1_unmovedLieInside rfl ⟨by first | decide | (show _ ≤ 9; omega), by first | decide | (show _ ≤ 360; omega)⟩ hl.1 (Nat.le_of_ble_eq_true rfl) (fun v I2 J2 H locs hp hI => ?_)
  obtain ⟨hv, hI2, hJ2⟩ := hp
  subst hv
  rw [hI2, hJ2] at hI
  refine W.eq (g2 := F0 m 70 ls [.int (x_unm xl xh (j_spot n eq J) (x_lu n eq rr I 0) 0)]) rfl ?_
  refine lv_if_eq (tgt := 84) hx hb dX1_box_70 (by decide) (fun c5 => ?_) (fun c5 => ?_)
  · refine lv_iconst (v := nI 0) hx hb dX1_box_84 (by decide) ?_
    exact fl_iret X hr hlk hI dX1_box_85 ⟨by unfold x_box; first | rw [if_pos c5] | rw [if_neg c5], rfl, by unfold x_box; first | rw [if_pos c5] | rw [if_neg c5]⟩
  · refine lv_aload_n hx hb dX1_box_73 rfl (lv_at hl 1 rfl) ?_
    refine lv_iconst (v := nI 0) hx hb dX1_box_74 (by decide) ?_
    refine lv_iload_n hx hb dX1_box_75 rfl (lv_at hl 2 rfl) ?_
    refine lv_iload_n hx hb dX1_box_76 rfl (lv_at hl 3 rfl) ?_
    refine fl_callV (k := 0) (As := [.int (nI 0), .int xl, .int xh]) (rest := []) X hI dX1_box_77 (m_X1_countFrom D dA ad N I hN hn hn4 he he3 hrr hrn hxl hinc (n - rr) 0 (by omega) (j_spot n eq J)) (by omega) fl_c_5 rfl rfl wc_yX1_countFrom wm_X1_100 wi_yX1_countFrom wl_yX1_countFrom wn_X1 hd_yX1_countFrom rfl ⟨by first | decide | (show _ ≤ 9; omega), by first | decide | (show _ ≤ 360; omega)⟩ hl.1 (Nat.le_of_ble_eq_true rfl) (fun v I2 J2 H locs hp hI => ?_)
    obtain ⟨hv, hI2, hJ2⟩ := hp
    subst hv
    rw [hI2, hJ2] at hI
    refine W.eq (g2 := F0 m 80 ls [.long ((x_cnt n eq rr xl xh I (n - rr) 0 (j_spot n eq J)).1)]) rfl ?_
    refine lv_l2i hx hb dX1_box_80 rfl ?_
    refine lv_goto (tgt := 85) hx hb dX1_box_81 (by decide) ?_
    exact fl_iret X hr hlk hI dX1_box_85 ⟨by unfold x_box; first | rw [if_pos c5] | rw [if_neg c5], rfl, by unfold x_box; first | rw [if_pos c5] | rw [if_neg c5]⟩
end
section
/-! the model: state, small methods -/
theorem m_X2_unknowns_bad (D : va_G) (dA : Nat → ClassId) (ad : Nat → Nat) (N : Nat) (I : fl_TI) (J : fl_TJ) (hN : 37 ≤ N) (x : Int32) (h : x < nI 1 ∨ ¬ x ≤ nI 4) : FM yX2_unknowns cX2_unknowns 2 (some .int) 0 D dA ad N [.ref (ad 30), .int x] I J (fun v I' J' => v = some (.int (nI 0)) ∧ I' = I ∧ J' = J) := by
  refine FM.ofW RX2 rfl (by decide +kernel) (Nat.le_of_ble_eq_true rfl) ?_
  intro p l e s m args below meth c ls X hr hlk hI hl
  have hx := X.1
  have hb := X.2.1
  have hl : lv_has ls 2 [(0, .ref (ad 30)), (1, .int x)] := hl
  refine lv_iload_n hx hb dX2_unknowns_0 rfl (lv_at hl 1 rfl) ?_
  refine lv_iconst (v := nI 1) hx hb dX2_unknowns_1 (by decide) ?_
  refine lv_icmp_lt (tgt := 10) hx hb dX2_unknowns_2 (by decide) (fun c1 => ?_) (fun c1 => ?_)
  · refine lv_iconst (v := nI 0) hx hb dX2_unknowns_10 (by decide) ?_
    exact fl_iret X hr hlk hI dX2_unknowns_11 ⟨rfl, rfl, rfl⟩
  · refine lv_iload_n hx hb dX2_unknowns_5 rfl (lv_at hl 1 rfl) ?_
    refine lv_iconst (v := nI 4) hx hb dX2_unknowns_6 (by decide) ?_
    refine lv_icmp_le (tgt := 12) hx hb dX2_unknowns_7 (by decide) (fun c2 => ?_) (fun c2 => ?_)
    · exact absurd h (fun q => q.elim c1 (fun z => z c2))
    · refine lv_iconst (v := nI 0) hx hb dX2_unknowns_10 (by decide) ?_
      exact fl_iret X hr hlk hI dX2_unknowns_11 ⟨rfl, rfl, rfl⟩
theorem m_X2_unknowns (D : va_G) (dA : Nat → ClassId) (ad : Nat → Nat) (N : Nat) (I : fl_TI) (J : fl_TJ) (hN : 37 ≤ N) {n : Nat} (hn1 : 1 ≤ n) (hn4 : n ≤ 4) : FM yX2_unknowns cX2_unknowns 2 (some .int) 0 D dA ad N [.ref (ad 30), .int (nI n)] I J (fun v I' J' => v = some (.int (nI 1)) ∧ I' = fl_up (fl_up I 30 0 (nI n)) 30 1 (nI 0) ∧ J' = J) := by
  refine FM.ofW RX2 rfl (by decide +kernel) (Nat.le_of_ble_eq_true rfl) ?_
  intro p l e s m args below meth c ls X hr hlk hI hl
  have hx := X.1
  have hb := X.2.1
  have hl : lv_has ls 2 [(0, .ref (ad 30)), (1, .int (nI n))] := hl
  refine lv_iload_n hx hb dX2_unknowns_0 rfl (lv_at hl 1 rfl) ?_
  refine lv_iconst (v := nI 1) hx hb dX2_unknowns_1 (by decide) ?_
  refine fn_icmp_lt X (tgt := 10) dX2_unknowns_2 (by decide) (by omega) (by omega) (fun c1 => absurd c1 (by omega)) (fun c1 => ?_)
  refine lv_iload_n hx hb dX2_unknowns_5 rfl (lv_at hl 1 rfl) ?_
  refine lv_iconst (v := nI 4) hx hb dX2_unknowns_6 (by decide) ?_
  refine fn_icmp_le X (tgt := 12) dX2_unknowns_7 (by decide) (by omega) (by omega) (fun c2 => ?_) (fun c2 => absurd c2 (by omega))
  refine lv_aload_n hx hb dX2_unknowns_12 rfl (lv_at hl 0 rfl) ?_
  refine lv_iload_n hx hb dX2_unknowns_13 rfl (lv_at hl 1 rfl) ?_
  refine fl_put2 X hI dX2_unknowns_14 (by omega) 0 (by decide) wf_X2_7 (fun H locs hI => ?_)
  refine lv_aload_n hx hb dX2_unknowns_17 rfl (lv_at hl 0 rfl) ?_
  refine lv_iconst (v := nI 0) hx hb dX2_unknowns_18 (by decide) ?_
  refine fl_put2 X hI dX2_unknowns_19 (by omega) 1 (by decide) wf_X2_33 (fun H locs hI => ?_)
  refine lv_iconst (v := nI 1) hx hb dX2_unknowns_22 (by decide) ?_
  exact fl_iret X hr hlk hI dX2_unknowns_23 ⟨rfl, rfl, rfl⟩
theorem m_X2_isFactor (D : va_G) (dA : Nat → ClassId) (ad : Nat → Nat) (N : Nat) (I : fl_TI) (J : fl_TJ) (hN : 37 ≤ N) {n j : Nat} (x : Int32) (hn : I 30 0 = nI n) (hn4 : n ≤ 4) (hj : j ≤ 4) : FM yX2_isFactor cX2_isFactor 3 (some .boolean) 0 D dA ad N [.ref (ad 30), .int (nI j), .int x] I J (fun v I' J' => v = some (.int (if n ≤ j ∨ (¬ x < -9 ∧ ¬ nI 9 < x) then nI 1 else nI 0)) ∧ I' = I ∧ J' = J) := by
  refine FM.ofW RX2 rfl (by decide +kernel) (Nat.le_of_ble_eq_true rfl) ?_
  intro p l e s m args below meth c ls X hr hlk hI hl
  have hx := X.1
  have hb := X.2.1
  have hl : lv_has ls 3 [(0, .ref (ad 30)), (1, .int (nI j)), (2, .int x)] := hl
  refine lv_iload_n hx hb dX2_isFactor_0 rfl (lv_at hl 1 rfl) ?_
  refine lv_aload_n hx hb dX2_isFactor_1 rfl (lv_at hl 0 rfl) ?_
  refine fl_get2 X hI dX2_isFactor_2 (by omega) 0 (by decide) wf_X2_7 rfl ?_
  refine W.eq (g2 := F0 m 5 ls [.int (nI n), .int (nI j)]) (by rw [hn]) ?_
  refine fn_icmp_ge X (tgt := 20) dX2_isFactor_5 (by decide) (by omega) (by omega) (fun c1 => ?_) (fun c1 => ?_)
  · refine lv_iconst (v := nI 1) hx hb dX2_isFactor_20 (by decide) ?_
    refine lv_goto (tgt := 25) hx hb dX2_isFactor_21 (by decide) ?_
    exact fl_zret X hr hlk hI dX2_isFactor_25 (by decide) ⟨by simp [*]; try omega, rfl, rfl⟩
  · refine lv_iload_n hx hb dX2_isFactor_8 rfl (lv_at hl 2 rfl) ?_
    refine lv_bipush (v := (-9)) hx hb dX2_isFactor_9 (by decide) ?_
    refine lv_icmp_lt (tgt := 24) hx hb dX2_isFactor_11 (by decide) (fun c2 => ?_) (fun c2 => ?_)
    · refine lv_iconst (v := nI 0) hx hb dX2_isFactor_24 (by decide) ?_
      exact fl_zret X hr hlk hI dX2_isFactor_25 (by decide) ⟨by simp [*]; try omega, rfl, rfl⟩
    · refine lv_iload_n hx hb dX2_isFactor_14 rfl (lv_at hl 2 rfl) ?_
      refine lv_bipush (v := nI 9) hx hb dX2_isFactor_15 (by decide) ?_
      refine lv_icmp_gt (tgt := 24) hx hb dX2_isFactor_17 (by decide) (fun c3 => ?_) (fun c3 => ?_)
      · refine lv_iconst (v := nI 0) hx hb dX2_isFactor_24 (by decide) ?_
        exact fl_zret X hr hlk hI dX2_isFactor_25 (by decide) ⟨by simp [*]; try omega, rfl, rfl⟩
      · refine lv_iconst (v := nI 1) hx hb dX2_isFactor_20 (by decide) ?_
        refine lv_goto (tgt := 25) hx hb dX2_isFactor_21 (by decide) ?_
        exact fl_zret X hr hlk hI dX2_isFactor_25 (by decide) ⟨by simp [*]; try omega, rfl, rfl⟩
theorem m_X2_equation_bad (D : va_G) (dA : Nat → ClassId) (ad : Nat → Nat) (N : Nat) (I : fl_TI) (J : fl_TJ) (hN : 37 ≤ N) {n eq : Nat} {x0 x1 x2 x3 xs : Int32} (hn : I 30 0 = nI n) (hn4 : n ≤ 4) (he : I 30 1 = nI eq) (he3 : eq ≤ 3) (hbad : ¬ (eq < 3 ∧ (¬ xs < -1000 ∧ ¬ nI 1000 < xs) ∧ (n ≤ 0 ∨ (¬ x0 < -9 ∧ ¬ nI 9 < x0)) ∧ (n ≤ 1 ∨ (¬ x1 < -9 ∧ ¬ nI 9 < x1)) ∧ (n ≤ 2 ∨ (¬ x2 < -9 ∧ ¬ nI 9 < x2)) ∧ (n ≤ 3 ∨ (¬ x3 < -9 ∧ ¬ nI 9 < x3)))) : FM yX2_equation cX2_equation 7 (some .int) 1 D dA ad N [.ref (ad 30), .int x0, .int x1, .int x2, .int x3, .int xs] I J (fun v I' J' => v = some (.int (-1)) ∧ I' = I ∧ J' = J) := by
  refine FM.ofW RX2 rfl (by decide +kernel) (Nat.le_of_ble_eq_true rfl) ?_
  intro p l e s m args below meth c ls X hr hlk hI hl
  have hx := X.1
  have hb := X.2.1
  have hl : lv_has ls 7 [(0, .ref (ad 30)), (1, .int x0), (2, .int x1), (3, .int x2), (4, .int x3), (5, .int xs)] := hl
  refine lv_aload_n hx hb dX2_equation_0 rfl (lv_at hl 0 rfl) ?_
  refine lv_iconst (v := nI 0) hx hb dX2_equation_1 (by decide) ?_
  refine lv_iload_n hx hb dX2_equation_2 rfl (lv_at hl 1 rfl) ?_
  refine fl_callV (k := 30) (As := [.int (nI 0), .int x0]) (rest := []) X hI dX2_equation_3 (m_X2_isFactor D dA ad N I J hN x0 hn hn4 (by omega)) (by omega) fl_c_6 rfl rfl wc_yX2_isFactor wm_X2_36 wi_yX2_isFactor wl_yX2_isFactor wn_X2 hd_yX2_isFactor rfl ⟨by first | decide | omega, by first | decide | omega⟩ hl.1 (Nat.le_of_ble_eq_true rfl) (fun v I2 J2 H locs hp hI => ?_)
  obtain ⟨hv, hI2, hJ2⟩ := hp
  subst hv
  rw [hI2, hJ2] at hI
  refine W.eq (g2 := F0 m 6 ls [.int (if n ≤ 0 ∨ (¬ x0 < -9 ∧ ¬ nI 9 < x0) then nI 1 else nI 0)]) rfl ?_
  refine lv_if_eq (tgt := 53) hx hb dX2_equation_6 (by decide) (fun c1 => ?_) (fun c1 => ?_)
  · refine lv_iconst (v := (-1)) hx hb dX2_equation_53 (by decide) ?_
    exact fl_iret X hr hlk hI dX2_equation_54 ⟨rfl, rfl, rfl⟩
  · refine lv_aload_n hx hb dX2_equation_9 rfl (lv_at hl 0 rfl) ?_
    refine lv_iconst (v := nI 1) hx hb dX2_equation_10 (by decide) ?_
    refine lv_iload_n hx hb dX2_equation_11 rfl (lv_at hl 2 rfl) ?_
    refine fl_callV (k := 30) (As := [.int (nI 1), .int x1]) (rest := []) X hI dX2_equation_12 (m_X2_isFactor D dA ad N I J hN x1 hn hn4 (by omega)) (by omega) fl_c_6 rfl rfl wc_yX2_isFactor wm_X2_36 wi_yX2_isFactor wl_yX2_isFactor wn_X2 hd_yX2_isFactor rfl ⟨by first | decide | omega, by first | decide | omega⟩ hl.1 (Nat.le_of_ble_eq_true rfl) (fun v I2 J2 H locs hp hI => ?_)
    obtain ⟨hv, hI2, hJ2⟩ := hp
    subst hv
    rw [hI2, hJ2] at hI
    refine W.eq (g2 := F0 m 15 ls [.int (if n ≤ 1 ∨ (¬ x1 < -9 ∧ ¬ nI 9 < x1) then nI 1 else nI 0)]) rfl ?_
    refine lv_if_eq (tgt := 53) hx hb dX2_equation_15 (by decide) (fun c2 => ?_) (fun c2 => ?_)
    · refine lv_iconst (v := (-1)) hx hb dX2_equation_53 (by decide) ?_
      exact fl_iret X hr hlk hI dX2_equation_54 ⟨rfl, rfl, rfl⟩
    · refine lv_aload_n hx hb dX2_equation_18 rfl (lv_at hl 0 rfl) ?_
      refine lv_iconst (v := nI 2) hx hb dX2_equation_19 (by decide) ?_
      refine lv_iload_n hx hb dX2_equation_20 rfl (lv_at hl 3 rfl) ?_
      refine fl_callV (k := 30) (As := [.int (nI 2), .int x2]) (rest := []) X hI dX2_equation_21 (m_X2_isFactor D dA ad N I J hN x2 hn hn4 (by omega)) (by omega) fl_c_6 rfl rfl wc_yX2_isFactor wm_X2_36 wi_yX2_isFactor wl_yX2_isFactor wn_X2 hd_yX2_isFactor rfl ⟨by first | decide | omega, by first | decide | omega⟩ hl.1 (Nat.le_of_ble_eq_true rfl) (fun v I2 J2 H locs hp hI => ?_)
      obtain ⟨hv, hI2, hJ2⟩ := hp
      subst hv
      rw [hI2, hJ2] at hI
      refine W.eq (g2 := F0 m 24 ls [.int (if n ≤ 2 ∨ (¬ x2 < -9 ∧ ¬ nI 9 < x2) then nI 1 else nI 0)]) rfl ?_
      refine lv_if_eq (tgt := 53) hx hb dX2_equation_24 (by decide) (fun c3 => ?_) (fun c3 => ?_)
      · refine lv_iconst (v := (-1)) hx hb dX2_equation_53 (by decide) ?_
        exact fl_iret X hr hlk hI dX2_equation_54 ⟨rfl, rfl, rfl⟩
      · refine lv_aload_n hx hb dX2_equation_27 rfl (lv_at hl 0 rfl) ?_
        refine lv_iconst (v := nI 3) hx hb dX2_equation_28 (by decide) ?_
        refine lv_iload hx hb dX2_equation_29 (lv_at hl 4 rfl) ?_
        refine fl_callV (k := 30) (As := [.int (nI 3), .int x3]) (rest := []) X hI dX2_equation_31 (m_X2_isFactor D dA ad N I J hN x3 hn hn4 (by omega)) (by omega) fl_c_6 rfl rfl wc_yX2_isFactor wm_X2_36 wi_yX2_isFactor wl_yX2_isFactor wn_X2 hd_yX2_isFactor rfl ⟨by first | decide | omega, by first | decide | omega⟩ hl.1 (Nat.le_of_ble_eq_true rfl) (fun v I2 J2 H locs hp hI => ?_)
        obtain ⟨hv, hI2, hJ2⟩ := hp
        subst hv
        rw [hI2, hJ2] at hI
        refine W.eq (g2 := F0 m 34 ls [.int (if n ≤ 3 ∨ (¬ x3 < -9 ∧ ¬ nI 9 < x3) then nI 1 else nI 0)]) rfl ?_
        refine lv_if_eq (tgt := 53) hx hb dX2_equation_34 (by decide) (fun c4 => ?_) (fun c4 => ?_)
        · refine lv_iconst (v := (-1)) hx hb dX2_equation_53 (by decide) ?_
          exact fl_iret X hr hlk hI dX2_equation_54 ⟨rfl, rfl, rfl⟩
        · refine lv_iload hx hb dX2_equation_37 (lv_at hl 5 rfl) ?_
          refine fl_callS (As := [.int xs]) (rest := []) X hI dX2_equation_39 (m_X2_isSum D dA ad N I J xs) wc_yX2_isSum wm_X2_40 ws_yX2_isSum wn_X2 hd_yX2_isSum rfl ⟨by first | decide | omega, by first | decide | omega⟩ hl.1 (Nat.le_of_ble_eq_true rfl) (fun v I2 J2 H locs hp hI => ?_)
          obtain ⟨hv, hI2, hJ2⟩ := hp
          subst hv
          rw [hI2, hJ2] at hI
          refine W.eq (g2 := F0 m 42 ls [.int (if ¬ xs < -1000 ∧ ¬ nI 1000 < xs then nI 1 else nI 0)]) rfl ?_
          refine lv_if_eq (tgt := 53) hx hb dX2_equation_42 (by decide) (fun c5 => ?_) (fun c5 => ?_)
          · refine lv_iconst (v := (-1)) hx hb dX2_equation_53 (by decide) ?_
            exact fl_iret X hr hlk hI dX2_equation_54 ⟨rfl, rfl, rfl⟩
          · refine lv_aload_n hx hb dX2_equation_45 rfl (lv_at hl 0 rfl) ?_
            refine fl_get2 X hI dX2_equation_46 (by omega) 1 (by decide) wf_X2_33 rfl ?_
            refine W.eq (g2 := F0 m 49 ls [.int (nI eq)]) (by rw [he]) ?_
            refine lv_iconst (v := nI 3) hx hb dX2_equation_49 (by decide) ?_
            refine fn_icmp_ne X (tgt := 55) dX2_equation_50 (by decide) (by omega) (by omega) (fun c6 => ?_) (fun c6 => ?_)
            · exact absurd ⟨by omega, b_t c5, b_t c1, b_t c2, b_t c3, b_t c4⟩ hbad
            · refine lv_iconst (v := (-1)) hx hb dX2_equation_53 (by decide) ?_
              exact fl_iret X hr hlk hI dX2_equation_54 ⟨rfl, rfl, rfl⟩
def k_eqn (eq : Nat) (x0 x1 x2 x3 xs : Int32) (I : fl_TI) : fl_TI := fl_up (fl_up (fl_up (fl_up (fl_up (fl_up I 31 (4 * eq) x0) 31 (4 * eq + 1) x1) 31 (4 * eq + 2) x2) 31 (4 * eq + 3) x3) 32 eq xs) 30 1 (nI (eq + 1))
theorem m_X2_equation (D : va_G) (dA : Nat → ClassId) (ad : Nat → Nat) (N : Nat) (I : fl_TI) (J : fl_TJ) (hN : 37 ≤ N) {n eq : Nat} {x0 x1 x2 x3 xs : Int32} (hn : I 30 0 = nI n) (hn4 : n ≤ 4) (he : I 30 1 = nI eq) (he3 : eq ≤ 3) (h3 : eq < 3) (hs : (¬ xs < -1000 ∧ ¬ nI 1000 < xs)) (hf0 : (n ≤ 0 ∨ (¬ x0 < -9 ∧ ¬ nI 9 < x0))) (hf1 : (n ≤ 1 ∨ (¬ x1 < -9 ∧ ¬ nI 9 < x1))) (hf2 : (n ≤ 2 ∨ (¬ x2 < -9 ∧ ¬ nI 9 < x2))) (hf3 : (n ≤ 3 ∨ (¬ x3 < -9 ∧ ¬ nI 9 < x3))) : FM yX2_equation cX2_equation 7 (some .int) 1 D dA ad N [.ref (ad 30), .int x0, .int x1, .int x2, .int x3, .int xs] I J (fun v I' J' => v = some (.int (nI eq)) ∧ I' = k_eqn eq x0 x1 x2 x3 xs I ∧ J' = J) := by
  refine FM.ofW RX2 rfl (by decide +kernel) (Nat.le_of_ble_eq_true rfl) ?_
  intro p l e s m args below meth c ls X hr hlk hI hl
  have hx := X.1
  have hb := X.2.1
  have hl : lv_has ls 7 [(0, .ref (ad 30)), (1, .int x0), (2, .int x1), (3, .int x2), (4, .int x3), (5, .int xs)] := hl
  refine lv_aload_n hx hb dX2_equation_0 rfl (lv_at hl 0 rfl) ?_
  refine lv_iconst (v := nI 0) hx hb dX2_equation_1 (by decide) ?_
  refine lv_iload_n hx hb dX2_equation_2 rfl (lv_at hl 1 rfl) ?_
  refine fl_callV (k := 30) (As := [.int (nI 0), .int x0]) (rest := []) X hI dX2_equation_3 (m_X2_isFactor D dA ad N I J hN x0 hn hn4 (by omega)) (by omega) fl_c_6 rfl rfl wc_yX2_isFactor wm_X2_36 wi_yX2_isFactor wl_yX2_isFactor wn_X2 hd_yX2_isFactor rfl ⟨by first | decide | omega, by first | decide | omega⟩ hl.1 (Nat.le_of_ble_eq_true rfl) (fun v I2 J2 H locs hp hI => ?_)
  obtain ⟨hv, hI2, hJ2⟩ := hp
  subst hv
  rw [hI2, hJ2] at hI
  refine W.eq (g2 := F0 m 6 ls [.int (if n ≤ 0 ∨ (¬ x0 < -9 ∧ ¬ nI 9 < x0) then nI 1 else nI 0)]) rfl ?_
  refine lv_if_eq (tgt := 53) hx hb dX2_equation_6 (by decide) (fun c1 => ?_) (fun c1 => ?_)
  · first | exact absurd hf0 (b_f (by assumption)) | exact absurd hf1 (b_f (by assumption)) | exact absurd hf2 (b_f (by assumption)) | exact absurd hf3 (b_f (by assumption)) | exact absurd hs (b_f (by assumption)) | exact absurd h3 (by omega)
  · refine lv_aload_n hx hb dX2_equation_9 rfl (lv_at hl 0 rfl) ?_
    refine lv_iconst (v := nI 1) hx hb dX2_equation_10 (by decide) ?_
    refine lv_iload_n hx hb dX2_equation_11 rfl (lv_at hl 2 rfl) ?_
    refine fl_callV (k := 30) (As := [.int (nI 1), .int x1]) (rest := []) X hI dX2_equation_12 (m_X2_isFactor D dA ad N I J hN x1 hn hn4 (by omega)) (by omega) fl_c_6 rfl rfl wc_yX2_isFactor wm_X2_36 wi_yX2_isFactor wl_yX2_isFactor wn_X2 hd_yX2_isFactor rfl ⟨by first | decide | omega, by first | decide | omega⟩ hl.1 (Nat.le_of_ble_eq_true rfl) (fun v I2 J2 H locs hp hI => ?_)
    obtain ⟨hv, hI2, hJ2⟩ := hp
    subst hv
    rw [hI2, hJ2] at hI
    refine W.eq (g2 := F0 m 15 ls [.int (if n ≤ 1 ∨ (¬ x1 < -9 ∧ ¬ nI 9 < x1) then nI 1 else nI 0)]) rfl ?_
    refine lv_if_eq (tgt := 53) hx hb dX2_equation_15 (by decide) (fun c2 => ?_) (fun c2 => ?_)
    · first | exact absurd hf0 (b_f (by assumption)) | exact absurd hf1 (b_f (by assumption)) | exact absurd hf2 (b_f (by assumption)) | exact absurd hf3 (b_f (by assumption)) | exact absurd hs (b_f (by assumption)) | exact absurd h3 (by omega)
    · refine lv_aload_n hx hb dX2_equation_18 rfl (lv_at hl 0 rfl) ?_
      refine lv_iconst (v := nI 2) hx hb dX2_equation_19 (by decide) ?_
      refine lv_iload_n hx hb dX2_equation_20 rfl (lv_at hl 3 rfl) ?_
      refine fl_callV (k := 30) (As := [.int (nI 2), .int x2]) (rest := []) X hI dX2_equation_21 (m_X2_isFactor D dA ad N I J hN x2 hn hn4 (by omega)) (by omega) fl_c_6 rfl rfl wc_yX2_isFactor wm_X2_36 wi_yX2_isFactor wl_yX2_isFactor wn_X2 hd_yX2_isFactor rfl ⟨by first | decide | omega, by first | decide | omega⟩ hl.1 (Nat.le_of_ble_eq_true rfl) (fun v I2 J2 H locs hp hI => ?_)
      obtain ⟨hv, hI2, hJ2⟩ := hp
      subst hv
      rw [hI2, hJ2] at hI
      refine W.eq (g2 := F0 m 24 ls [.int (if n ≤ 2 ∨ (¬ x2 < -9 ∧ ¬ nI 9 < x2) then nI 1 else nI 0)]) rfl ?_
      refine lv_if_eq (tgt := 53) hx hb dX2_equation_24 (by decide) (fun c3 => ?_) (fun c3 => ?_)
      · first | exact absurd hf0 (b_f (by assumption)) | exact absurd hf1 (b_f (by assumption)) | exact absurd hf2 (b_f (by assumption)) | exact absurd hf3 (b_f (by assumption)) | exact absurd hs (b_f (by assumption)) | exact absurd h3 (by omega)
      · refine lv_aload_n hx hb dX2_equation_27 rfl (lv_at hl 0 rfl) ?_
        refine lv_iconst (v := nI 3) hx hb dX2_equation_28 (by decide) ?_
        refine lv_iload hx hb dX2_equation_29 (lv_at hl 4 rfl) ?_
        refine fl_callV (k := 30) (As := [.int (nI 3), .int x3]) (rest := []) X hI dX2_equation_31 (m_X2_isFactor D dA ad N I J hN x3 hn hn4 (by omega)) (by omega) fl_c_6 rfl rfl wc_yX2_isFactor wm_X2_36 wi_yX2_isFactor wl_yX2_isFactor wn_X2 hd_yX2_isFactor rfl ⟨by first | decide | omega, by first | decide | omega⟩ hl.1 (Nat.le_of_ble_eq_true rfl) (fun v I2 J2 H locs hp hI => ?_)
        obtain ⟨hv, hI2, hJ2⟩ := hp
        subst hv
        rw [hI2, hJ2] at hI
        refine W.eq (g2 := F0 m 34 ls [.int (if n ≤ 3 ∨ (¬ x3 < -9 ∧ ¬ nI 9 < x3) then nI 1 else nI 0)]) rfl ?_
        refine lv_if_eq (tgt := 53) hx hb dX2_equation_34 (by decide) (fun c4 => ?_) (fun c4 => ?_)
        · first | exact absurd hf0 (b_f (by assumption)) | exact absurd hf1 (b_f (by assumption)) | exact absurd hf2 (b_f (by assumption)) | exact absurd hf3 (b_f (by assumption)) | exact absurd hs (b_f (by assumption)) | exact absurd h3 (by omega)
        · refine lv_iload hx hb dX2_equation_37 (lv_at hl 5 rfl) ?_
          refine fl_callS (As := [.int xs]) (rest := []) X hI dX2_equation_39 (m_X2_isSum D dA ad N I J xs) wc_yX2_isSum wm_X2_40 ws_yX2_isSum wn_X2 hd_yX2_isSum rfl ⟨by first | decide | omega, by first | decide | omega⟩ hl.1 (Nat.le_of_ble_eq_true rfl) (fun v I2 J2 H locs hp hI => ?_)
          obtain ⟨hv, hI2, hJ2⟩ := hp
          subst hv
          rw [hI2, hJ2] at hI
          refine W.eq (g2 := F0 m 42 ls [.int (if ¬ xs < -1000 ∧ ¬ nI 1000 < xs then nI 1 else nI 0)]) rfl ?_
          refine lv_if_eq (tgt := 53) hx hb dX2_equation_42 (by decide) (fun c5 => ?_) (fun c5 => ?_)
          · first | exact absurd hf0 (b_f (by assumption)) | exact absurd hf1 (b_f (by assumption)) | exact absurd hf2 (b_f (by assumption)) | exact absurd hf3 (b_f (by assumption)) | exact absurd hs (b_f (by assumption)) | exact absurd h3 (by omega)
          · refine lv_aload_n hx hb dX2_equation_45 rfl (lv_at hl 0 rfl) ?_
            refine fl_get2 X hI dX2_equation_46 (by omega) 1 (by decide) wf_X2_33 rfl ?_
            refine W.eq (g2 := F0 m 49 ls [.int (nI eq)]) (by rw [he]) ?_
            refine lv_iconst (v := nI 3) hx hb dX2_equation_49 (by decide) ?_
            refine fn_icmp_ne X (tgt := 55) dX2_equation_50 (by decide) (by omega) (by omega) (fun c6 => ?_) (fun c6 => ?_)
            · refine lv_iconst (v := nI 4) hx hb dX2_equation_55 (by decide) ?_
              refine lv_aload_n hx hb dX2_equation_56 rfl (lv_at hl 0 rfl) ?_
              refine fl_get2 X hI dX2_equation_57 (by omega) 1 (by decide) wf_X2_33 rfl ?_
              refine W.eq (g2 := F0 m 60 ls [.int (nI eq), .int (nI 4)]) (by rw [he]) ?_
              refine fn_imul X dX2_equation_60 ?_
              refine lv_istore (lv' := [(6, .int (nI (4 * eq))), (0, .ref (ad 30)), (1, .int x0), (2, .int x1), (3, .int x2), (4, .int x3), (5, .int xs)]) hx hb dX2_equation_61 hl (by decide) rfl (fun ls hl => ?_)
              refine lv_aload_n hx hb dX2_equation_63 rfl (lv_at hl 1 rfl) ?_
              refine fl_get2 X hI dX2_equation_64 (by omega) 2 (by decide) wf_X2_13 rfl ?_
              refine lv_iload hx hb dX2_equation_67 (lv_at hl 0 rfl) ?_
              refine lv_iload_n hx hb dX2_equation_69 rfl (lv_at hl 2 rfl) ?_
              refine fn_iast (k := 31) X hI dX2_equation_70 (by omega) rfl (show 4 * eq < 12 by omega) (fun H locs hI => ?_)
              refine lv_aload_n hx hb dX2_equation_71 rfl (lv_at hl 1 rfl) ?_
              refine fl_get2 X hI dX2_equation_72 (by omega) 2 (by decide) wf_X2_13 rfl ?_
              refine lv_iload hx hb dX2_equation_75 (lv_at hl 0 rfl) ?_
              refine lv_iconst (v := nI 1) hx hb dX2_equation_77 (by decide) ?_
              refine fn_iadd X dX2_equation_78 ?_
              refine lv_iload_n hx hb dX2_equation_79 rfl (lv_at hl 3 rfl) ?_
              refine fn_iast (k := 31) X hI dX2_equation_80 (by omega) rfl (show (4 * eq) + 1 < 12 by omega) (fun H locs hI => ?_)
              refine lv_aload_n hx hb dX2_equation_81 rfl (lv_at hl 1 rfl) ?_
              refine fl_get2 X hI dX2_equation_82 (by omega) 2 (by decide) wf_X2_13 rfl ?_
              refine lv_iload hx hb dX2_equation_85 (lv_at hl 0 rfl) ?_
              refine lv_iconst (v := nI 2) hx hb dX2_equation_87 (by decide) ?_
              refine fn_iadd X dX2_equation_88 ?_
              refine lv_iload_n hx hb dX2_equation_89 rfl (lv_at hl 4 rfl) ?_
              refine fn_iast (k := 31) X hI dX2_equation_90 (by omega) rfl (show (4 * eq) + 2 < 12 by omega) (fun H locs hI => ?_)
              refine lv_aload_n hx hb dX2_equation_91 rfl (lv_at hl 1 rfl) ?_
              refine fl_get2 X hI dX2_equation_92 (by omega) 2 (by decide) wf_X2_13 rfl ?_
              refine lv_iload hx hb dX2_equation_95 (lv_at hl 0 rfl) ?_
              refine lv_iconst (v := nI 3) hx hb dX2_equation_97 (by decide) ?_
              refine fn_iadd X dX2_equation_98 ?_
              refine lv_iload hx hb dX2_equation_99 (lv_at hl 5 rfl) ?_
              refine fn_iast (k := 31) X hI dX2_equation_101 (by omega) rfl (show (4 * eq) + 3 < 12 by omega) (fun H locs hI => ?_)
              refine lv_aload_n hx hb dX2_equation_102 rfl (lv_at hl 1 rfl) ?_
              refine fl_get2 X hI dX2_equation_103 (by omega) 3 (by decide) wf_X2_17 rfl ?_
              refine lv_aload_n hx hb dX2_equation_106 rfl (lv_at hl 1 rfl) ?_
              refine fl_get2 X hI dX2_equation_107 (by omega) 1 (by decide) wf_X2_33 rfl ?_
              refine W.eq (g2 := F0 m 110 ls [.int (nI eq), .ref (ad 32)]) (by rw [fl_up_k (by omega), fl_up_k (by omega), fl_up_k (by omega), fl_up_k (by omega), he]) ?_
              refine lv_iload hx hb dX2_equation_110 (lv_at hl 6 rfl) ?_
              refine fn_iast (k := 32) X hI dX2_equation_112 (by omega) rfl (show eq < 3 by omega) (fun H locs hI => ?_)
              refine lv_aload_n hx hb dX2_equation_113 rfl (lv_at hl 1 rfl) ?_
              refine lv_dup hx hb dX2_equation_114 rfl ?_
              refine fl_get2 X hI dX2_equation_115 (by omega) 1 (by decide) wf_X2_33 rfl ?_
              refine W.eq (g2 := F0 m 118 ls [.int (nI eq), .ref (ad 30)]) (by rw [fl_up_k (by omega), fl_up_k (by omega), fl_up_k (by omega), fl_up_k (by omega), fl_up_k (by omega), he]) ?_
              refine lv_iconst (v := nI 1) hx hb dX2_equation_118 (by decide) ?_
              refine fn_iadd X dX2_equation_119 ?_
              refine fl_put2 X hI dX2_equation_120 (by omega) 1 (by decide) wf_X2_33 (fun H locs hI => ?_)
              refine lv_aload_n hx hb dX2_equation_123 rfl (lv_at hl 1 rfl) ?_
              refine fl_get2 X hI dX2_equation_124 (by omega) 1 (by decide) wf_X2_33 rfl ?_
              refine W.eq (g2 := F0 m 127 ls [.int (nI (eq + 1))]) (by rw [fl_up_s]) ?_
              refine lv_iconst (v := nI 1) hx hb dX2_equation_127 (by decide) ?_
              refine fn_isub X dX2_equation_128 (by omega) ?_
              exact fl_iret X hr hlk hI dX2_equation_129 ⟨rfl, rfl, rfl⟩
            · first | exact absurd hf0 (b_f (by assumption)) | exact absurd hf1 (b_f (by assumption)) | exact absurd hf2 (b_f (by assumption)) | exact absurd hf3 (b_f (by assumption)) | exact absurd hs (b_f (by assumption)) | exact absurd h3 (by omega)
theorem m_X2_sum_bad (D : va_G) (dA : Nat → ClassId) (ad : Nat → Nat) (N : Nat) (I : fl_TI) (J : fl_TJ) (hN : 37 ≤ N) {eq : Nat} {x xs : Int32} (he : I 30 1 = nI eq) (hbad : ¬ (¬ x < 0 ∧ ¬ nI eq ≤ x ∧ (¬ xs < -1000 ∧ ¬ nI 1000 < xs))) : FM yX2_sum cX2_sum 3 (some .int) 1 D dA ad N [.ref (ad 30), .int x, .int xs] I J (fun v I' J' => v = some (.int (nI 0)) ∧ I' = I ∧ J' = J) := by
  refine FM.ofW RX2 rfl (by decide +kernel) (Nat.le_of_ble_eq_true rfl) ?_
  intro p l e s m args below meth c ls X hr hlk hI hl
  have hx := X.1
  have hb := X.2.1
  have hl : lv_has ls 3 [(0, .ref (ad 30)), (1, .int x), (2, .int xs)] := hl
  refine lv_iload_n hx hb dX2_sum_0 rfl (lv_at hl 1 rfl) ?_
  refine lv_if_lt (tgt := 19) hx hb dX2_sum_1 (by decide) (fun c1 => ?_) (fun c1 => ?_)
  · refine lv_iconst (v := nI 0) hx hb dX2_sum_19 (by decide) ?_
    exact fl_iret X hr hlk hI dX2_sum_20 ⟨rfl, rfl, rfl⟩
  · refine lv_iload_n hx hb dX2_sum_4 rfl (lv_at hl 1 rfl) ?_
    refine lv_aload_n hx hb dX2_sum_5 rfl (lv_at hl 0 rfl) ?_
    refine fl_get2 X hI dX2_sum_6 (by omega) 1 (by decide) wf_X2_33 rfl ?_
    refine W.eq (g2 := F0 m 9 ls [.int (nI eq), .int x]) (by rw [he]) ?_
    refine lv_icmp_ge (tgt := 19) hx hb dX2_sum_9 (by decide) (fun c2 => ?_) (fun c2 => ?_)
    · refine lv_iconst (v := nI 0) hx hb dX2_sum_19 (by decide) ?_
      exact fl_iret X hr hlk hI dX2_sum_20 ⟨rfl, rfl, rfl⟩
    · refine lv_iload_n hx hb dX2_sum_12 rfl (lv_at hl 2 rfl) ?_
      refine fl_callS (As := [.int xs]) (rest := []) X hI dX2_sum_13 (m_X2_isSum D dA ad N I J xs) wc_yX2_isSum wm_X2_40 ws_yX2_isSum wn_X2 hd_yX2_isSum rfl ⟨by first | decide | omega, by first | decide | omega⟩ hl.1 (Nat.le_of_ble_eq_true rfl) (fun v I2 J2 H locs hp hI => ?_)
      obtain ⟨hv, hI2, hJ2⟩ := hp
      subst hv
      rw [hI2, hJ2] at hI
      refine W.eq (g2 := F0 m 16 ls [.int (if ¬ xs < -1000 ∧ ¬ nI 1000 < xs then nI 1 else nI 0)]) rfl ?_
      refine lv_if_ne (tgt := 21) hx hb dX2_sum_16 (by decide) (fun c3 => ?_) (fun c3 => ?_)
      · exact absurd ⟨c1, c2, b_t c3⟩ hbad
      · refine lv_iconst (v := nI 0) hx hb dX2_sum_19 (by decide) ?_
        exact fl_iret X hr hlk hI dX2_sum_20 ⟨rfl, rfl, rfl⟩
theorem m_X2_sum (D : va_G) (dA : Nat → ClassId) (ad : Nat → Nat) (N : Nat) (I : fl_TI) (J : fl_TJ) (hN : 37 ≤ N) {eq a : Nat} {xs : Int32} (he : I 30 1 = nI eq) (he3 : eq ≤ 3) (ha : a < eq) (hs : (¬ xs < -1000 ∧ ¬ nI 1000 < xs)) : FM yX2_sum cX2_sum 3 (some .int) 1 D dA ad N [.ref (ad 30), .int (nI a), .int xs] I J (fun v I' J' => v = some (.int (nI 1)) ∧ I' = fl_up I 32 a xs ∧ J' = J) := by
  refine FM.ofW RX2 rfl (by decide +kernel) (Nat.le_of_ble_eq_true rfl) ?_
  intro p l e s m args below meth c ls X hr hlk hI hl
  have hx := X.1
  have hb := X.2.1
  have hl : lv_has ls 3 [(0, .ref (ad 30)), (1, .int (nI a)), (2, .int xs)] := hl
  refine lv_iload_n hx hb dX2_sum_0 rfl (lv_at hl 1 rfl) ?_
  refine lv_if_lt (tgt := 19) hx hb dX2_sum_1 (by decide) (fun c1 => absurd c1 (nI_pos (by omega))) (fun c1 => ?_)
  refine lv_iload_n hx hb dX2_sum_4 rfl (lv_at hl 1 rfl) ?_
  refine lv_aload_n hx hb dX2_sum_5 rfl (lv_at hl 0 rfl) ?_
  refine fl_get2 X hI dX2_sum_6 (by omega) 1 (by decide) wf_X2_33 rfl ?_
  refine W.eq (g2 := F0 m 9 ls [.int (nI eq), .int (nI a)]) (by rw [he]) ?_
  refine fn_icmp_ge X (tgt := 19) dX2_sum_9 (by decide) (by omega) (by omega) (fun c2 => absurd c2 (by omega)) (fun c2 => ?_)
  refine lv_iload_n hx hb dX2_sum_12 rfl (lv_at hl 2 rfl) ?_
  refine fl_callS (As := [.int xs]) (rest := []) X hI dX2_sum_13 (m_X2_isSum D dA ad N I J xs) wc_yX2_isSum wm_X2_40 ws_yX2_isSum wn_X2 hd_yX2_isSum rfl ⟨by first | decide | omega, by first | decide | omega⟩ hl.1 (Nat.le_of_ble_eq_true rfl) (fun v I2 J2 H locs hp hI => ?_)
  obtain ⟨hv, hI2, hJ2⟩ := hp
  subst hv
  rw [hI2, hJ2] at hI
  refine W.eq (g2 := F0 m 16 ls [.int (if ¬ xs < -1000 ∧ ¬ nI 1000 < xs then nI 1 else nI 0)]) rfl ?_
  refine lv_if_ne (tgt := 21) hx hb dX2_sum_16 (by decide) (fun c3 => ?_) (fun c3 => ?_)
  · refine lv_aload_n hx hb dX2_sum_21 rfl (lv_at hl 0 rfl) ?_
    refine fl_get2 X hI dX2_sum_22 (by omega) 3 (by decide) wf_X2_17 rfl ?_
    refine lv_iload_n hx hb dX2_sum_25 rfl (lv_at hl 1 rfl) ?_
    refine lv_iload_n hx hb dX2_sum_26 rfl (lv_at hl 2 rfl) ?_
    refine fn_iast (k := 32) X hI dX2_sum_27 (by omega) rfl (show a < 3 by omega) (fun H locs hI => ?_)
    refine lv_iconst (v := nI 1) hx hb dX2_sum_28 (by decide) ?_
    exact fl_iret X hr hlk hI dX2_sum_29 ⟨rfl, rfl, rfl⟩
  · exact absurd hs (b_f (by assumption))
theorem m_X2_drop_bad (D : va_G) (dA : Nat → ClassId) (ad : Nat → Nat) (N : Nat) (I : fl_TI) (J : fl_TJ) (hN : 37 ≤ N) (he : I 30 1 = nI 0) : FM yX2_drop cX2_drop 1 (some .int) 0 D dA ad N [.ref (ad 30)] I J (fun v I' J' => v = some (.int (-1)) ∧ I' = I ∧ J' = J) := by
  refine FM.ofW RX2 rfl (by decide +kernel) (Nat.le_of_ble_eq_true rfl) ?_
  intro p l e s m args below meth c ls X hr hlk hI hl
  have hx := X.1
  have hb := X.2.1
  have hl : lv_has ls 1 [(0, .ref (ad 30))] := hl
  refine lv_aload_n hx hb dX2_drop_0 rfl (lv_at hl 0 rfl) ?_
  refine fl_get2 X hI dX2_drop_1 (by omega) 1 (by decide) wf_X2_33 rfl ?_
  refine W.eq (g2 := F0 m 4 ls [.int (nI 0)]) (by rw [he]) ?_
  refine fn_if_ne X (tgt := 9) dX2_drop_4 (by decide) (by omega) (fun c1 => absurd c1 (by omega)) (fun c1 => ?_)
  refine lv_iconst (v := (-1)) hx hb dX2_drop_7 (by decide) ?_
  exact fl_iret X hr hlk hI dX2_drop_8 ⟨rfl, rfl, rfl⟩
theorem m_X2_drop (D : va_G) (dA : Nat → ClassId) (ad : Nat → Nat) (N : Nat) (I : fl_TI) (J : fl_TJ) (hN : 37 ≤ N) {eq : Nat} (he : I 30 1 = nI (eq + 1)) (he3 : eq < 3) : FM yX2_drop cX2_drop 1 (some .int) 0 D dA ad N [.ref (ad 30)] I J (fun v I' J' => v = some (.int (nI eq)) ∧ I' = fl_up I 30 1 (nI eq) ∧ J' = J) := by
  refine FM.ofW RX2 rfl (by decide +kernel) (Nat.le_of_ble_eq_true rfl) ?_
  intro p l e s m args below meth c ls X hr hlk hI hl
  have hx := X.1
  have hb := X.2.1
  have hl : lv_has ls 1 [(0, .ref (ad 30))] := hl
  refine lv_aload_n hx hb dX2_drop_0 rfl (lv_at hl 0 rfl) ?_
  refine fl_get2 X hI dX2_drop_1 (by omega) 1 (by decide) wf_X2_33 rfl ?_
  refine W.eq (g2 := F0 m 4 ls [.int (nI (eq + 1))]) (by rw [he]) ?_
  refine fn_if_ne X (tgt := 9) dX2_drop_4 (by decide) (by omega) (fun c1 => ?_) (fun c1 => absurd c1 (by omega))
  refine lv_aload_n hx hb dX2_drop_9 rfl (lv_at hl 0 rfl) ?_
  refine lv_dup hx hb dX2_drop_10 rfl ?_
  refine fl_get2 X hI dX2_drop_11 (by omega) 1 (by decide) wf_X2_33 rfl ?_
  refine W.eq (g2 := F0 m 14 ls [.int (nI (eq + 1)), .ref (ad 30)]) (by rw [he]) ?_
  refine lv_iconst (v := nI 1) hx hb dX2_drop_14 (by decide) ?_
  refine fn_isub X dX2_drop_15 (by omega) ?_
  refine fl_put2 X hI dX2_drop_16 (by omega) 1 (by decide) wf_X2_33 (fun H locs hI => ?_)
  refine lv_aload_n hx hb dX2_drop_19 rfl (lv_at hl 0 rfl) ?_
  refine fl_get2 X hI dX2_drop_20 (by omega) 1 (by decide) wf_X2_33 rfl ?_
  refine W.eq (g2 := F0 m 23 ls [.int (nI (eq + 1 - 1))]) (by rw [fl_up_s]) ?_
  exact fl_iret X hr hlk hI dX2_drop_23 ⟨rfl, rfl, rfl⟩
def dn64 (a b : Int64) : Int64 := if a < a / b * b then a / b - 1 else a / b
def sz64 (a : Int64) : Int64 := if a < 0 then -a else a
theorem m_X2_down (D : va_G) (dA : Nat → ClassId) (ad : Nat → Nat) (N : Nat) (I : fl_TI) (J : fl_TJ) (a b : Int64) (hb0 : ¬ b = 0) : FM yX2_down cX2_down 6 (some .long) 0 D dA ad N [.long a, .long b] I J (fun v I' J' => v = some (.long (dn64 a b)) ∧ I' = I ∧ J' = J) := by
  refine FM.ofW RX2 rfl (by decide +kernel) (Nat.le_of_ble_eq_true rfl) ?_
  intro p l e s m args below meth c ls X hr hlk hI hl
  have hx := X.1
  have hb := X.2.1
  have hl : lv_has ls 6 [(0, .long a), (2, .long b)] := hl
  refine lv_lload_n hx hb dX2_down_0 rfl (lv_at hl 0 rfl) ?_
  refine lv_lload_n hx hb dX2_down_1 rfl (lv_at hl 1 rfl) ?_
  refine lv_ldiv hx hb dX2_down_2 (by assumption) ?_
  refine lv_lstore (lv' := [(4, .long (a / b)), (0, .long a), (2, .long b)]) hx hb dX2_down_3 hl (by decide) rfl (fun ls hl => ?_)
  refine lv_lload hx hb dX2_down_5 (lv_at hl 0 rfl) ?_
  refine lv_lload_n hx hb dX2_down_7 rfl (lv_at hl 2 rfl) ?_
  refine lv_lmul hx hb dX2_down_8 ?_
  refine lv_lload_n hx hb dX2_down_9 rfl (lv_at hl 1 rfl) ?_
  refine fl_lc_le (tgt := 21) hx hb dX2_down_10 dX2_down_11 (by decide) (fun c1 => ?_) (fun c1 => ?_)
  · refine lv_lload hx hb dX2_down_21 (lv_at hl 0 rfl) ?_
    exact fl_lret X hr hlk hI dX2_down_23 ⟨by unfold dn64; first | rw [if_pos c1] | rw [if_neg c1], rfl, rfl⟩
  · refine lv_lload hx hb dX2_down_14 (lv_at hl 0 rfl) ?_
    refine lv_lconst (v := 1) hx hb dX2_down_16 rfl ?_
    refine lv_lsub hx hb dX2_down_17 ?_
    refine lv_goto (tgt := 23) hx hb dX2_down_18 (by decide) ?_
    exact fl_lret X hr hlk hI dX2_down_23 ⟨by unfold dn64; first | rw [if_pos c1] | rw [if_neg c1], rfl, rfl⟩
theorem m_X2_size (D : va_G) (dA : Nat → ClassId) (ad : Nat → Nat) (N : Nat) (I : fl_TI) (J : fl_TJ) (a : Int64) : FM yX2_size cX2_size 2 (some .long) 0 D dA ad N [.long a] I J (fun v I' J' => v = some (.long (sz64 a)) ∧ I' = I ∧ J' = J) := by
  refine FM.ofW RX2 rfl (by decide +kernel) (Nat.le_of_ble_eq_true rfl) ?_
  intro p l e s m args below meth c ls X hr hlk hI hl
  have hx := X.1
  have hb := X.2.1
  have hl : lv_has ls 2 [(0, .long a)] := hl
  refine lv_lload_n hx hb dX2_size_0 rfl (lv_at hl 0 rfl) ?_
  refine lv_lconst (v := 0) hx hb dX2_size_1 rfl ?_
  refine fl_lc_ge (tgt := 11) hx hb dX2_size_2 dX2_size_3 (by decide) (fun c1 => ?_) (fun c1 => ?_)
  · refine lv_lload_n hx hb dX2_size_11 rfl (lv_at hl 0 rfl) ?_
    exact fl_lret X hr hlk hI dX2_size_12 ⟨by unfold sz64; first | rw [if_pos c1] | rw [if_neg c1], rfl, rfl⟩
  · refine lv_lload_n hx hb dX2_size_6 rfl (lv_at hl 0 rfl) ?_
    refine lv_lneg hx hb dX2_size_7 ?_
    refine lv_goto (tgt := 12) hx hb dX2_size_8 (by decide) ?_
    exact fl_lret X hr hlk hI dX2_size_12 ⟨by unfold sz64; first | rw [if_pos c1] | rw [if_neg c1], rfl, rfl⟩
def k_take (a b w : Nat) (t : Int64) (J : fl_TJ) : fl_TJ := fl_it (fun j J => fl_up J 33 (8 * a + j) (J 33 (8 * a + j) - t * J 33 (8 * b + j))) w 0 J
def k_chg (a b : Nat) (J : fl_TJ) : fl_TJ := fl_it (fun j J => fl_up (fl_up J 33 (8 * a + j) (J 33 (8 * b + j))) 33 (8 * b + j) (J 33 (8 * a + j))) 8 0 J
theorem lp_take {p : Program} {l : Launch} {e : Env} {R : Room} {s : State} {m : MethodId} {args : Array Value} {below : List Frame} {meth : Method} {c : Code} {Q : State → Prop} {D : va_G} {dA : Nat → ClassId} {ad : Nat → Nat} {N : Nat} {A : Nat → Prop} {H0 : Heap} {I : fl_TI} {J9 : fl_TJ} (X : CallFix p m c cX2_take 7 s args fl_tb RX2) {a b w : Nat} {t : Int64} (hN : 37 ≤ N) (ha : a < 8) (hb2 : b < 8) (hw : w ≤ 8)
    (kx : ∀ (H : Heap) (locs : List Loc) (ls : Array Slot), fl_I D dA ad N I J9 A s H0 H locs → lv_has ls 7 [(6, .int (nI w)), (0, .ref (ad 30)), (1, .int (nI a)), (2, .int (nI b)), (3, .long t), (5, .int (nI w))] → W p l e R s m args below meth c H locs 0 0 Q (F0 m 45 ls [])) :
    ∀ (k i : Nat) (J : fl_TJ) (H : Heap) (locs : List Loc) (ls : Array Slot), i + k = w → fl_I D dA ad N I J A s H0 H locs → lv_has ls 7 [(6, .int (nI i)), (0, .ref (ad 30)), (1, .int (nI a)), (2, .int (nI b)), (3, .long t), (5, .int (nI w))] → fl_it (fun j J => fl_up J 33 (8 * a + j) (J 33 (8 * a + j) - t * J 33 (8 * b + j))) k i J = J9 → W p l e R s m args below meth c H locs 0 0 Q (F0 m 3 ls []) := by
  have hx := X.1
  have hb := X.2.1
  intro k
  induction k with
  | zero =>
    intro i J H locs ls hk hI hl hF
    have hF : J = J9 := hF
    subst hF
    have hk : w = i := by omega
    subst hk
    refine lv_iload hx hb dX2_take_3 (lv_at hl 0 rfl) ?_
    refine lv_iload hx hb dX2_take_5 (lv_at hl 5 rfl) ?_
    refine fn_icmp_ge X (tgt := 45) dX2_take_7 (by decide) (by omega) (by omega) (fun c1 => ?_) (fun c1 => absurd c1 (by omega))
    exact kx _ _ _ hI (lv_sub hl [0, 1, 2, 3, 4, 5] rfl)
  | succ k ih =>
    intro i J H locs ls hk hI hl hF
    refine lv_iload hx hb dX2_take_3 (lv_at hl 0 rfl) ?_
    refine lv_iload hx hb dX2_take_5 (lv_at hl 5 rfl) ?_
    refine fn_icmp_ge X (tgt := 45) dX2_take_7 (by decide) (by omega) (by omega) (fun c1 => absurd c1 (by omega)) (fun c1 => ?_)
    refine lv_aload_n hx hb dX2_take_10 rfl (lv_at hl 1 rfl) ?_
    refine fl_get2 X hI dX2_take_11 (by omega) 4 (by decide) wf_X2_20 rfl ?_
    refine lv_bipush (v := nI 8) hx hb dX2_take_14 (by decide) ?_
    refine lv_iload_n hx hb dX2_take_16 rfl (lv_at hl 2 rfl) ?_
    refine fn_imul X dX2_take_17 ?_
    refine lv_iload hx hb dX2_take_18 (lv_at hl 0 rfl) ?_
    refine fn_iadd X dX2_take_20 ?_
    refine lv_dup2_11 hx hb dX2_take_21 rfl rfl ?_
    refine fn_lald (k := 33) X hI dX2_take_22 (by omega) rfl (show (8 * a) + i < 64 by omega) ?_
    refine lv_lload_n hx hb dX2_take_23 rfl (lv_at hl 4 rfl) ?_
    refine lv_aload_n hx hb dX2_take_24 rfl (lv_at hl 1 rfl) ?_
    refine fl_get2 X hI dX2_take_25 (by omega) 4 (by decide) wf_X2_20 rfl ?_
    refine lv_bipush (v := nI 8) hx hb dX2_take_28 (by decide) ?_
    refine lv_iload_n hx hb dX2_take_30 rfl (lv_at hl 3 rfl) ?_
    refine fn_imul X dX2_take_31 ?_
    refine lv_iload hx hb dX2_take_32 (lv_at hl 0 rfl) ?_
    refine fn_iadd X dX2_take_34 ?_
    refine fn_lald (k := 33) X hI dX2_take_35 (by omega) rfl (show (8 * b) + i < 64 by omega) ?_
    refine lv_lmul hx hb dX2_take_36 ?_
    refine lv_lsub hx hb dX2_take_37 ?_
    refine fn_last (k := 33) X hI dX2_take_38 (by omega) rfl (show (8 * a) + i < 64 by omega) (fun H locs hI => ?_)
    refine fn_iinc (a := i) (lv' := [(6, .int (nI (i + 1))), (0, .ref (ad 30)), (1, .int (nI a)), (2, .int (nI b)), (3, .long t), (5, .int (nI w))]) X dX2_take_39 hl (k := 0) rfl (by decide) rfl (fun ls hl => ?_)
    refine lv_goto (tgt := 3) hx hb dX2_take_42 (by decide) ?_
    exact ih (i + 1) _ _ _ _ (by omega) hI (lv_sub hl [0, 1, 2, 3, 4, 5] rfl) hF
theorem m_X2_take (D : va_G) (dA : Nat → ClassId) (ad : Nat → Nat) (N : Nat) (I : fl_TI) (J : fl_TJ) {a b w : Nat} {t : Int64} (hN : 37 ≤ N) (ha : a < 8) (hb2 : b < 8) (hw : w ≤ 8) : FM yX2_take cX2_take 7 none 0 D dA ad N [.ref (ad 30), .int (nI a), .int (nI b), .long t, .int (nI w)] I J (fun v I' J' => v = none ∧ I' = I ∧ J' = k_take a b w t J) := by
  refine FM.ofW RX2 rfl (by decide +kernel) (Nat.le_of_ble_eq_true rfl) ?_
  intro p l e s m args below meth c ls X hr hlk hI hl
  have hx := X.1
  have hb := X.2.1
  have hl : lv_has ls 7 [(0, .ref (ad 30)), (1, .int (nI a)), (2, .int (nI b)), (3, .long t), (5, .int (nI w))] := hl
  refine lv_iconst (v := nI 0) hx hb dX2_take_0 (by decide) ?_
  refine lv_istore (lv' := [(6, .int (nI 0)), (0, .ref (ad 30)), (1, .int (nI a)), (2, .int (nI b)), (3, .long t), (5, .int (nI w))]) hx hb dX2_take_1 hl (by decide) rfl (fun ls hl => ?_)
  exact lp_take X hN ha hb2 hw (J9 := k_take a b w t J) (fun H locs ls hI hl => fl_vret X hr hlk hI dX2_take_45 ⟨rfl, rfl, rfl⟩) w 0 _ _ _ _ (Nat.zero_add _) hI hl rfl
theorem lp_chg {p : Program} {l : Launch} {e : Env} {R : Room} {s : State} {m : MethodId} {args : Array Value} {below : List Frame} {meth : Method} {c : Code} {Q : State → Prop} {D : va_G} {dA : Nat → ClassId} {ad : Nat → Nat} {N : Nat} {A : Nat → Prop} {H0 : Heap} {I : fl_TI} {J9 : fl_TJ} (X : CallFix p m c cX2_change 6 s args fl_tb RX2) {a b : Nat} (hN : 37 ≤ N) (ha : a < 8) (hb2 : b < 8)
    (kx : ∀ (H : Heap) (locs : List Loc) (ls : Array Slot), fl_I D dA ad N I J9 A s H0 H locs → lv_has ls 6 [(3, .int (nI 8)), (0, .ref (ad 30)), (1, .int (nI a)), (2, .int (nI b))] → W p l e R s m args below meth c H locs 0 0 Q (F0 m 62 ls [])) :
    ∀ (k i : Nat) (J : fl_TJ) (H : Heap) (locs : List Loc) (ls : Array Slot), i + k = 8 → fl_I D dA ad N I J A s H0 H locs → lv_has ls 6 [(3, .int (nI i)), (0, .ref (ad 30)), (1, .int (nI a)), (2, .int (nI b))] → fl_it (fun j J => fl_up (fl_up J 33 (8 * a + j) (J 33 (8 * b + j))) 33 (8 * b + j) (J 33 (8 * a + j))) k i J = J9 → W p l e R s m args below meth c H locs 0 0 Q (F0 m 2 ls []) := by
  have hx := X.1
  have hb := X.2.1
  intro k
  induction k with
  | zero =>
    intro i J H locs ls hk hI hl hF
    have hF : J = J9 := hF
    subst hF
    have hk : 8 = i := by omega
    subst hk
    refine lv_iload_n hx hb dX2_change_2 rfl (lv_at hl 0 rfl) ?_
    refine lv_bipush (v := nI 8) hx hb dX2_change_3 (by decide) ?_
    refine fn_icmp_ge X (tgt := 62) dX2_change_5 (by decide) (by omega) (by omega) (fun c1 => ?_) (fun c1 => absurd c1 (by omega))
    exact kx _ _ _ hI (lv_sub hl [0, 1, 2, 3] rfl)
  | succ k ih =>
    intro i J H locs ls hk hI hl hF
    refine lv_iload_n hx hb dX2_change_2 rfl (lv_at hl 0 rfl) ?_
    refine lv_bipush (v := nI 8) hx hb dX2_change_3 (by decide) ?_
    refine fn_icmp_ge X (tgt := 62) dX2_change_5 (by decide) (by omega) (by omega) (fun c1 => absurd c1 (by omega)) (fun c1 => ?_)
    refine lv_aload_n hx hb dX2_change_8 rfl (lv_at hl 1 rfl) ?_
    refine fl_get2 X hI dX2_change_9 (by omega) 4 (by decide) wf_X2_20 rfl ?_
    refine lv_bipush (v := nI 8) hx hb dX2_change_12 (by decide) ?_
    refine lv_iload_n hx hb dX2_change_14 rfl (lv_at hl 2 rfl) ?_
    refine fn_imul X dX2_change_15 ?_
    refine lv_iload_n hx hb dX2_change_16 rfl (lv_at hl 0 rfl) ?_
    refine fn_iadd X dX2_change_17 ?_
    refine fn_lald (k := 33) X hI dX2_change_18 (by omega) rfl (show (8 * a) + i < 64 by omega) ?_
    refine lv_lstore (lv' := [(4, .long (J 33 ((8 * a) + i))), (3, .int (nI i)), (0, .ref (ad 30)), (1, .int (nI a)), (2, .int (nI b))]) hx hb dX2_change_19 hl (by decide) rfl (fun ls hl => ?_)
    refine lv_aload_n hx hb dX2_change_21 rfl (lv_at hl 2 rfl) ?_
    refine fl_get2 X hI dX2_change_22 (by omega) 4 (by decide) wf_X2_20 rfl ?_
    refine lv_bipush (v := nI 8) hx hb dX2_change_25 (by decide) ?_
    refine lv_iload_n hx hb dX2_change_27 rfl (lv_at hl 3 rfl) ?_
    refine fn_imul X dX2_change_28 ?_
    refine lv_iload_n hx hb dX2_change_29 rfl (lv_at hl 1 rfl) ?_
    refine fn_iadd X dX2_change_30 ?_
    refine lv_aload_n hx hb dX2_change_31 rfl (lv_at hl 2 rfl) ?_
    refine fl_get2 X hI dX2_change_32 (by omega) 4 (by decide) wf_X2_20 rfl ?_
    refine lv_bipush (v := nI 8) hx hb dX2_change_35 (by decide) ?_
    refine lv_iload_n hx hb dX2_change_37 rfl (lv_at hl 4 rfl) ?_
    refine fn_imul X dX2_change_38 ?_
    refine lv_iload_n hx hb dX2_change_39 rfl (lv_at hl 1 rfl) ?_
    refine fn_iadd X dX2_change_40 ?_
    refine fn_lald (k := 33) X hI dX2_change_41 (by omega) rfl (show (8 * b) + i < 64 by omega) ?_
    refine fn_last (k := 33) X hI dX2_change_42 (by omega) rfl (show (8 * a) + i < 64 by omega) (fun H locs hI => ?_)
    refine lv_aload_n hx hb dX2_change_43 rfl (lv_at hl 2 rfl) ?_
    refine fl_get2 X hI dX2_change_44 (by omega) 4 (by decide) wf_X2_20 rfl ?_
    refine lv_bipush (v := nI 8) hx hb dX2_change_47 (by decide) ?_
    refine lv_iload_n hx hb dX2_change_49 rfl (lv_at hl 4 rfl) ?_
    refine fn_imul X dX2_change_50 ?_
    refine lv_iload_n hx hb dX2_change_51 rfl (lv_at hl 1 rfl) ?_
    refine fn_iadd X dX2_change_52 ?_
    refine lv_lload hx hb dX2_change_53 (lv_at hl 0 rfl) ?_
    refine fn_last (k := 33) X hI dX2_change_55 (by omega) rfl (show (8 * b) + i < 64 by omega) (fun H locs hI => ?_)
    refine fn_iinc (a := i) (lv' := [(3, .int (nI (i + 1))), (4, .long (J 33 ((8 * a) + i))), (0, .ref (ad 30)), (1, .int (nI a)), (2, .int (nI b))]) X dX2_change_56 hl (k := 1) rfl (by decide) rfl (fun ls hl => ?_)
    refine lv_goto (tgt := 2) hx hb dX2_change_59 (by decide) ?_
    exact ih (i + 1) _ _ _ _ (by omega) hI (lv_sub hl [0, 2, 3, 4] rfl) hF
theorem m_X2_change (D : va_G) (dA : Nat → ClassId) (ad : Nat → Nat) (N : Nat) (I : fl_TI) (J : fl_TJ) {a b : Nat} (hN : 37 ≤ N) (ha : a < 8) (hb2 : b < 8) : FM yX2_change cX2_change 6 none 0 D dA ad N [.ref (ad 30), .int (nI a), .int (nI b)] I J (fun v I' J' => v = none ∧ I' = I ∧ J' = k_chg a b J) := by
  refine FM.ofW RX2 rfl (by decide +kernel) (Nat.le_of_ble_eq_true rfl) ?_
  intro p l e s m args below meth c ls X hr hlk hI hl
  have hx := X.1
  have hb := X.2.1
  have hl : lv_has ls 6 [(0, .ref (ad 30)), (1, .int (nI a)), (2, .int (nI b))] := hl
  refine lv_iconst (v := nI 0) hx hb dX2_change_0 (by decide) ?_
  refine lv_istore_n (lv' := [(3, .int (nI 0)), (0, .ref (ad 30)), (1, .int (nI a)), (2, .int (nI b))]) hx hb dX2_change_1 rfl hl (by decide) rfl (fun ls hl => ?_)
  exact lp_chg X hN ha hb2 (J9 := k_chg a b J) (fun H locs ls hI hl => fl_vret X hr hlk hI dX2_change_62 ⟨rfl, rfl, rfl⟩) 8 0 _ _ _ _ (Nat.zero_add _) hI hl rfl
def k_ob : Option Nat → Int32
  | none => -1
  | some b => nI b
def k_ls1 (pl : Nat) (J : fl_TJ) (i : Nat) : Option Nat → Option Nat
  | none => if 0 < sz64 (J 33 (8 * i + pl)) then some i else none
  | some b => if 0 < sz64 (J 33 (8 * i + pl)) then (if sz64 (J 33 (8 * i + pl)) < sz64 (J 33 (8 * b + pl)) then some i else some b) else some b
def k_least (fr pl many : Nat) (J : fl_TJ) : Option Nat := fl_it (k_ls1 pl J) (many - fr) fr none
theorem k_ls1_lt {pl : Nat} {J : fl_TJ} {i : Nat} {bo : Option Nat} {b : Nat} (h : k_ls1 pl J i bo = some b) (h0 : ∀ b, bo = some b → b < i) : b < i + 1 := by
  cases bo with
  | none =>
    simp only [k_ls1] at h
    by_cases q : 0 < sz64 (J 33 (8 * i + pl))
    · rw [if_pos q] at h; cases h; omega
    · rw [if_neg q] at h; cases h
  | some c =>
    have h1 := h0 c rfl
    simp only [k_ls1] at h
    by_cases q : 0 < sz64 (J 33 (8 * i + pl))
    · rw [if_pos q] at h
      by_cases q2 : sz64 (J 33 (8 * i + pl)) < sz64 (J 33 (8 * c + pl))
      · rw [if_pos q2] at h; cases h; omega
      · rw [if_neg q2] at h; cases h; omega
    · rw [if_neg q] at h; cases h; omega
theorem k_least_lt {pl : Nat} {J : fl_TJ} : ∀ (k i : Nat) (bo : Option Nat) (b : Nat), (∀ b, bo = some b → b < i) → fl_it (k_ls1 pl J) k i bo = some b → b < i + k := by
  intro k
  induction k with
  | zero => intro i bo b h0 h; exact h0 b h
  | succ k ih =>
    intro i bo b h0 h
    have := ih (i + 1) _ b (fun b hb => k_ls1_lt hb h0) h
    omega
theorem lp_least2 {p : Program} {l : Launch} {e : Env} {R : Room} {s : State} {m : MethodId} {args : Array Value} {below : List Frame} {meth : Method} {c : Code} {D : va_G} {dA : Nat → ClassId} {ad : Nat → Nat} {N : Nat} {A : Nat → Prop} {I : fl_TI} {J : fl_TJ} {post : Option Value → fl_TI → fl_TJ → Prop} {fr pl many : Nat} (X : CallFix p m c cX2_least 8 s args fl_tb RX2) (hr : meth.sig.returnType = some .int) (hlk : meth.locks = false) (hN : 37 ≤ N) (hpl : pl < 8) (hm : many ≤ 8) (hR : 0 + 1 ≤ R.frames ∧ 8 + (2 + 11) + 40 * 0 ≤ R.locals) :
    ∀ (k i : Nat) (bo : Option Nat) (H : Heap) (locs : List Loc) (ls : Array Slot), i + k = many → (∀ b, bo = some b → b < i) → fl_I D dA ad N I J A s s.heap H locs → lv_has ls 8 [(5, .int (nI i)), (4, .int (k_ob bo)), (0, .ref (ad 30)), (1, .int (nI fr)), (2, .int (nI pl)), (3, .int (nI many))] → post (some (.int (k_ob (fl_it (k_ls1 pl J) k i bo)))) I J → W p l e R s m args below meth c H locs 0 0 (MQ below (fl_Q D dA ad N post A) args s 0 0 A) (F0 m 6 ls []) := by
  have hx := X.1
  have hb := X.2.1
  intro k
  induction k with
  | zero =>
    intro i bo H locs ls hk hbo hI hl hF
    have hk : many = i := by omega
    subst hk
    refine lv_iload hx hb dX2_least_6 (lv_at hl 0 rfl) ?_
    refine lv_iload_n hx hb dX2_least_8 rfl (lv_at hl 5 rfl) ?_
    refine fn_icmp_ge X (tgt := 72) dX2_least_9 (by decide) (by omega) (by omega) (fun c1 => ?_) (fun c1 => absurd c1 (by omega))
    refine lv_iload hx hb dX2_least_72 (lv_at hl 1 rfl) ?_
    exact fl_iret X hr hlk hI dX2_least_74 hF
  | succ k ih =>
    intro i bo H locs ls hk hbo hI hl hF
    cases bo with
    | none =>
      have hl : lv_has ls 8 [(5, .int (nI i)), (4, .int ((-1))), (0, .ref (ad 30)), (1, .int (nI fr)), (2, .int (nI pl)), (3, .int (nI many))] := hl
      refine lv_iload hx hb dX2_least_6 (lv_at hl 0 rfl) ?_
      refine lv_iload_n hx hb dX2_least_8 rfl (lv_at hl 5 rfl) ?_
      refine fn_icmp_ge X (tgt := 72) dX2_least_9 (by decide) (by omega) (by omega) (fun c1 => absurd c1 (by omega)) (fun c1 => ?_)
      refine lv_aload_n hx hb dX2_least_12 rfl (lv_at hl 2 rfl) ?_
      refine fl_get2 X hI dX2_least_13 (by omega) 4 (by decide) wf_X2_20 rfl ?_
      refine lv_bipush (v := nI 8) hx hb dX2_least_16 (by decide) ?_
      refine lv_iload hx hb dX2_least_18 (lv_at hl 0 rfl) ?_
      refine fn_imul X dX2_least_20 ?_
      refine lv_iload_n hx hb dX2_least_21 rfl (lv_at hl 4 rfl) ?_
      refine fn_iadd X dX2_least_22 ?_
      refine fn_lald (k := 33) X hI dX2_least_23 (by omega) rfl (show (8 * i) + pl < 64 by omega) ?_
      refine fl_callS (As := [.long (J 33 ((8 * i) + pl))]) (rest := []) X hI dX2_least_24 (m_X2_size D dA ad N I J (J 33 ((8 * i) + pl))) wc_yX2_size wm_X2_44 ws_yX2_size wn_X2 hd_yX2_size rfl ⟨by first | decide | omega, by first | decide | omega⟩ hl.1 (Nat.le_of_ble_eq_true rfl) (fun v I2 J2 H locs hp hI => ?_)
      obtain ⟨hv, hI2, hJ2⟩ := hp
      subst hv
      rw [hI2, hJ2] at hI
      refine W.eq (g2 := F0 m 27 ls [.long (sz64 (J 33 ((8 * i) + pl)))]) rfl ?_
      refine lv_lstore (lv' := [(6, .long (sz64 (J 33 ((8 * i) + pl)))), (5, .int (nI i)), (4, .int ((-1))), (0, .ref (ad 30)), (1, .int (nI fr)), (2, .int (nI pl)), (3, .int (nI many))]) hx hb dX2_least_27 hl (by decide) rfl (fun ls hl => ?_)
      refine lv_lload hx hb dX2_least_29 (lv_at hl 0 rfl) ?_
      refine lv_lconst (v := 0) hx hb dX2_least_31 rfl ?_
      refine fl_lc_le (tgt := 66) hx hb dX2_least_32 dX2_least_33 (by decide) (fun c2 => ?_) (fun c2 => ?_)
      · refine fn_iinc (a := i) (lv' := [(5, .int (nI (i + 1))), (6, .long (sz64 (J 33 ((8 * i) + pl)))), (4, .int ((-1))), (0, .ref (ad 30)), (1, .int (nI fr)), (2, .int (nI pl)), (3, .int (nI many))]) X dX2_least_66 hl (k := 1) rfl (by decide) rfl (fun ls hl => ?_)
        refine lv_goto (tgt := 6) hx hb dX2_least_69 (by decide) ?_
        exact ih (i + 1) (none) _ _ _ (by omega) (fun z hz => by cases hz <;> omega) hI (lv_sub hl [0, 2, 3, 4, 5, 6] rfl) (by have h9 := hF; simp only [fl_it, k_ls1] at h9; (first | rw [if_pos c2] at h9 | rw [if_neg c2] at h9 | skip); exact h9)
      · refine lv_iload hx hb dX2_least_36 (lv_at hl 2 rfl) ?_
        refine lv_if_lt (tgt := 62) hx hb dX2_least_38 (by decide) (fun c3 => ?_) (fun c3 => absurd (by decide) c3)
        refine lv_iload hx hb dX2_least_62 (lv_at hl 1 rfl) ?_
        refine lv_istore (lv' := [(4, .int (nI i)), (6, .long (sz64 (J 33 ((8 * i) + pl)))), (5, .int (nI i)), (0, .ref (ad 30)), (1, .int (nI fr)), (2, .int (nI pl)), (3, .int (nI many))]) hx hb dX2_least_64 hl (by decide) rfl (fun ls hl => ?_)
        refine fn_iinc (a := i) (lv' := [(5, .int (nI (i + 1))), (4, .int (nI i)), (6, .long (sz64 (J 33 ((8 * i) + pl)))), (0, .ref (ad 30)), (1, .int (nI fr)), (2, .int (nI pl)), (3, .int (nI many))]) X dX2_least_66 hl (k := 2) rfl (by decide) rfl (fun ls hl => ?_)
        refine lv_goto (tgt := 6) hx hb dX2_least_69 (by decide) ?_
        exact ih (i + 1) (some i) _ _ _ (by omega) (fun z hz => by cases hz <;> omega) hI (lv_sub hl [0, 1, 3, 4, 5, 6] rfl) (by have h9 := hF; simp only [fl_it, k_ls1] at h9; (first | rw [if_pos c2] at h9 | rw [if_neg c2] at h9 | skip); exact h9)
    | some b =>
      have hb9 := hbo b rfl
      have hl : lv_has ls 8 [(5, .int (nI i)), (4, .int (nI b)), (0, .ref (ad 30)), (1, .int (nI fr)), (2, .int (nI pl)), (3, .int (nI many))] := hl
      refine lv_iload hx hb dX2_least_6 (lv_at hl 0 rfl) ?_
      refine lv_iload_n hx hb dX2_least_8 rfl (lv_at hl 5 rfl) ?_
      refine fn_icmp_ge X (tgt := 72) dX2_least_9 (by decide) (by omega) (by omega) (fun c1 => absurd c1 (by omega)) (fun c1 => ?_)
      refine lv_aload_n hx hb dX2_least_12 rfl (lv_at hl 2 rfl) ?_
      refine fl_get2 X hI dX2_least_13 (by omega) 4 (by decide) wf_X2_20 rfl ?_
      refine lv_bipush (v := nI 8) hx hb dX2_least_16 (by decide) ?_
      refine lv_iload hx hb dX2_least_18 (lv_at hl 0 rfl) ?_
      refine fn_imul X dX2_least_20 ?_
      refine lv_iload_n hx hb dX2_least_21 rfl (lv_at hl 4 rfl) ?_
      refine fn_iadd X dX2_least_22 ?_
      refine fn_lald (k := 33) X hI dX2_least_23 (by omega) rfl (show (8 * i) + pl < 64 by omega) ?_
      refine fl_callS (As := [.long (J 33 ((8 * i) + pl))]) (rest := []) X hI dX2_least_24 (m_X2_size D dA ad N I J (J 33 ((8 * i) + pl))) wc_yX2_size wm_X2_44 ws_yX2_size wn_X2 hd_yX2_size rfl ⟨by first | decide | omega, by first | decide | omega⟩ hl.1 (Nat.le_of_ble_eq_true rfl) (fun v I2 J2 H locs hp hI => ?_)
      obtain ⟨hv, hI2, hJ2⟩ := hp
      subst hv
      rw [hI2, hJ2] at hI
      refine W.eq (g2 := F0 m 27 ls [.long (sz64 (J 33 ((8 * i) + pl)))]) rfl ?_
      refine lv_lstore (lv' := [(6, .long (sz64 (J 33 ((8 * i) + pl)))), (5, .int (nI i)), (4, .int (nI b)), (0, .ref (ad 30)), (1, .int (nI fr)), (2, .int (nI pl)), (3, .int (nI many))]) hx hb dX2_least_27 hl (by decide) rfl (fun ls hl => ?_)
      refine lv_lload hx hb dX2_least_29 (lv_at hl 0 rfl) ?_
      refine lv_lconst (v := 0) hx hb dX2_least_31 rfl ?_
      refine fl_lc_le (tgt := 66) hx hb dX2_least_32 dX2_least_33 (by decide) (fun c2 => ?_) (fun c2 => ?_)
      · refine fn_iinc (a := i) (lv' := [(5, .int (nI (i + 1))), (6, .long (sz64 (J 33 ((8 * i) + pl)))), (4, .int (nI b)), (0, .ref (ad 30)), (1, .int (nI fr)), (2, .int (nI pl)), (3, .int (nI many))]) X dX2_least_66 hl (k := 1) rfl (by decide) rfl (fun ls hl => ?_)
        refine lv_goto (tgt := 6) hx hb dX2_least_69 (by decide) ?_
        exact ih (i + 1) (some b) _ _ _ (by omega) (fun z hz => by cases hz <;> omega) hI (lv_sub hl [0, 2, 3, 4, 5, 6] rfl) (by have h9 := hF; simp only [fl_it, k_ls1] at h9; (first | rw [if_pos c2] at h9 | rw [if_neg c2] at h9 | skip); exact h9)
      · refine lv_iload hx hb dX2_least_36 (lv_at hl 2 rfl) ?_
        refine lv_if_lt (tgt := 62) hx hb dX2_least_38 (by decide) (fun c3 => absurd c3 (nI_pos (by omega))) (fun c3 => ?_)
        refine lv_lload hx hb dX2_least_41 (lv_at hl 0 rfl) ?_
        refine lv_aload_n hx hb dX2_least_43 rfl (lv_at hl 3 rfl) ?_
        refine fl_get2 X hI dX2_least_44 (by omega) 4 (by decide) wf_X2_20 rfl ?_
        refine lv_bipush (v := nI 8) hx hb dX2_least_47 (by decide) ?_
        refine lv_iload hx hb dX2_least_49 (lv_at hl 2 rfl) ?_
        refine fn_imul X dX2_least_51 ?_
        refine lv_iload_n hx hb dX2_least_52 rfl (lv_at hl 5 rfl) ?_
        refine fn_iadd X dX2_least_53 ?_
        refine fn_lald (k := 33) X hI dX2_least_54 (by omega) rfl (show (8 * b) + pl < 64 by omega) ?_
        refine fl_callS (As := [.long (J 33 ((8 * b) + pl))]) (rest := [.long (sz64 (J 33 ((8 * i) + pl)))]) X hI dX2_least_55 (m_X2_size D dA ad N I J (J 33 ((8 * b) + pl))) wc_yX2_size wm_X2_44 ws_yX2_size wn_X2 hd_yX2_size rfl ⟨by first | decide | omega, by first | decide | omega⟩ hl.1 (Nat.le_of_ble_eq_true rfl) (fun v I2 J2 H locs hp hI => ?_)
        obtain ⟨hv, hI2, hJ2⟩ := hp
        subst hv
        rw [hI2, hJ2] at hI
        refine W.eq (g2 := F0 m 58 ls [.long (sz64 (J 33 ((8 * b) + pl))), .long (sz64 (J 33 ((8 * i) + pl)))]) rfl ?_
        refine fl_lc_ge (tgt := 66) hx hb dX2_least_58 dX2_least_59 (by decide) (fun c4 => ?_) (fun c4 => ?_)
        · refine fn_iinc (a := i) (lv' := [(5, .int (nI (i + 1))), (6, .long (sz64 (J 33 ((8 * i) + pl)))), (4, .int (nI b)), (0, .ref (ad 30)), (1, .int (nI fr)), (2, .int (nI pl)), (3, .int (nI many))]) X dX2_least_66 hl (k := 1) rfl (by decide) rfl (fun ls hl => ?_)
          refine lv_goto (tgt := 6) hx hb dX2_least_69 (by decide) ?_
          exact ih (i + 1) (some b) _ _ _ (by omega) (fun z hz => by cases hz <;> omega) hI (lv_sub hl [0, 2, 3, 4, 5, 6] rfl) (by have h9 := hF; simp only [fl_it, k_ls1] at h9; (first | rw [if_pos c2] at h9 | rw [if_neg c2] at h9 | skip); (first | rw [if_pos c4] at h9 | rw [if_neg c4] at h9 | skip); exact h9)
        · refine lv_iload hx hb dX2_least_62 (lv_at hl 1 rfl) ?_
          refine lv_istore (lv' := [(4, .int (nI i)), (6, .long (sz64 (J 33 ((8 * i) + pl)))), (5, .int (nI i)), (0, .ref (ad 30)), (1, .int (nI fr)), (2, .int (nI pl)), (3, .int (nI many))]) hx hb dX2_least_64 hl (by decide) rfl (fun ls hl => ?_)
          refine fn_iinc (a := i) (lv' := [(5, .int (nI (i + 1))), (4, .int (nI i)), (6, .long (sz64 (J 33 ((8 * i) + pl)))), (0, .ref (ad 30)), (1, .int (nI fr)), (2, .int (nI pl)), (3, .int (nI many))]) X dX2_least_66 hl (k := 2) rfl (by decide) rfl (fun ls hl => ?_)
          refine lv_goto (tgt := 6) hx hb dX2_least_69 (by decide) ?_
          exact ih (i + 1) (some i) _ _ _ (by omega) (fun z hz => by cases hz <;> omega) hI (lv_sub hl [0, 1, 3, 4, 5, 6] rfl) (by have h9 := hF; simp only [fl_it, k_ls1] at h9; (first | rw [if_pos c2] at h9 | rw [if_neg c2] at h9 | skip); (first | rw [if_pos c4] at h9 | rw [if_neg c4] at h9 | skip); exact h9)
theorem m_X2_least (D : va_G) (dA : Nat → ClassId) (ad : Nat → Nat) (N : Nat) (I : fl_TI) (J : fl_TJ) {fr pl many : Nat} (hN : 37 ≤ N) (hfr : fr ≤ many) (hpl : pl < 8) (hm : many ≤ 8) : FM yX2_least cX2_least 8 (some .int) 1 D dA ad N [.ref (ad 30), .int (nI fr), .int (nI pl), .int (nI many)] I J (fun v I' J' => v = some (.int (k_ob (k_least fr pl many J))) ∧ I' = I ∧ J' = J) := by
  refine FM.ofW RX2 rfl (by decide +kernel) (Nat.le_of_ble_eq_true rfl) ?_
  intro p l e s m args below meth c ls X hr hlk hI hl
  have hx := X.1
  have hb := X.2.1
  have hl : lv_has ls 8 [(0, .ref (ad 30)), (1, .int (nI fr)), (2, .int (nI pl)), (3, .int (nI many))] := hl
  refine lv_iconst (v := (-1)) hx hb dX2_least_0 (by decide) ?_
  refine lv_istore (lv' := [(4, .int ((-1))), (0, .ref (ad 30)), (1, .int (nI fr)), (2, .int (nI pl)), (3, .int (nI many))]) hx hb dX2_least_1 hl (by decide) rfl (fun ls hl => ?_)
  refine lv_iload_n hx hb dX2_least_3 rfl (lv_at hl 2 rfl) ?_
  refine lv_istore (lv' := [(5, .int (nI fr)), (4, .int ((-1))), (0, .ref (ad 30)), (1, .int (nI fr)), (2, .int (nI pl)), (3, .int (nI many))]) hx hb dX2_least_4 hl (by decide) rfl (fun ls hl => ?_)
  exact lp_least2 X hr hlk hN hpl hm ⟨by decide, by decide⟩ (many - fr) fr none _ _ _ (by omega) (fun z hz => by cases hz) hI hl ⟨rfl, rfl, rfl⟩
end
section
/-! the model: form -/
theorem fl_it_keep {σ : Type} (P : σ → Prop) (f : Nat → σ → σ) : ∀ (k i : Nat) (x : σ), P x → (∀ j x, i ≤ j → j < i + k → P x → P (f j x)) → P (fl_it f k i x) := by
  intro k
  induction k with
  | zero => intro i x h _; exact h
  | succ k ih =>
    intro i x h hs
    exact ih (i + 1) (f i x) (hs i x (Nat.le_refl _) (by omega) h) (fun j x h1 h2 h3 => hs j x (by omega) (by omega) h3)
theorem k_take_far {a b w : Nat} {t : Int64} {J : fl_TJ} {q y : Nat} (h : q ≠ 33 ∨ y < 8 * a ∨ 8 * a + w ≤ y) : k_take a b w t J q y = J q y := by
  unfold k_take
  refine fl_it_keep (fun J' => J' q y = J q y) _ w 0 J rfl (fun j J' h1 h2 h3 => ?_)
  show fl_up J' 33 _ _ q y = _
  rcases h with h | h
  · rw [fl_up_k h]; exact h3
  · rw [fl_up_j (by omega)]; exact h3
def k_row (tp cl w : Nat) (i : Nat) (x : Nat × fl_TJ) : Nat × fl_TJ :=
  (if x.1 = 0 then 0 else if k_take i tp w (dn64 (x.2 33 (8 * i + cl)) (x.2 33 (8 * tp + cl))) x.2 33 (8 * i + cl) = 0 then 1 else 0, k_take i tp w (dn64 (x.2 33 (8 * i + cl)) (x.2 33 (8 * tp + cl))) x.2)
def k_rows (mn tp cl w : Nat) (J : fl_TJ) : Nat × fl_TJ := fl_it (k_row tp cl w) (mn - (tp + 1)) (tp + 1) (1, J)
def k_piv (tp b cl w : Nat) (J : fl_TJ) : fl_TJ := if k_chg tp b J 33 (8 * tp + cl) < 0 then k_take tp tp w 2 (k_chg tp b J) else k_chg tp b J
def k_pass (mn tp b cl w : Nat) (J : fl_TJ) : Nat × fl_TJ := k_rows mn tp cl w (k_piv tp b cl w J)
def k_el (mn tp cl w : Nat) : Nat → Nat → fl_TJ → Option fl_TJ
  | 0, _, _ => none
  | k + 1, b, J => if (k_pass mn tp b cl w J).1 = 0 then (match k_least tp cl mn (k_pass mn tp b cl w J).2 with
      | none => none
      | some b2 => k_el mn tp cl w k b2 (k_pass mn tp b cl w J).2) else some (k_pass mn tp b cl w J).2
def k_up (tp cl w : Nat) (J : fl_TJ) : fl_TJ := fl_it (fun r J => k_take r tp w (dn64 (J 33 (8 * r + cl)) (J 33 (8 * tp + cl))) J) tp 0 J
def k_form (fu mn w : Nat) : Nat → Nat → Nat × fl_TI × fl_TJ → Option (Nat × fl_TI × fl_TJ)
  | 0, _, x => some x
  | k + 1, cl, x => match k_least x.1 cl mn x.2.2 with
    | none => k_form fu mn w k (cl + 1) x
    | some b => (match k_el mn x.1 cl w fu b x.2.2 with
      | none => none
      | some J1 => k_form fu mn w k (cl + 1) (x.1 + 1, fl_up x.2.1 34 x.1 (nI cl), k_up x.1 cl w J1))
theorem k_least_ge {pl : Nat} {J : fl_TJ} : ∀ (k i fr : Nat) (bo : Option Nat) (b : Nat), fr ≤ i → (∀ b, bo = some b → fr ≤ b ∧ J 33 (8 * b + pl) ≠ 0) → fl_it (k_ls1 pl J) k i bo = some b → fr ≤ b ∧ J 33 (8 * b + pl) ≠ 0 := by
  intro k
  induction k with
  | zero => intro i fr bo b _ h0 h; exact h0 b h
  | succ k ih =>
    intro i fr bo b hf h0 h
    have hz : 0 < sz64 (J 33 (8 * i + pl)) → J 33 (8 * i + pl) ≠ 0 := fun q e => by
      rw [e] at q
      exact absurd q (by decide)
    refine ih (i + 1) fr _ b (by omega) (fun z hz9 => ?_) h
    cases bo with
    | none =>
      simp only [k_ls1] at hz9
      by_cases q : 0 < sz64 (J 33 (8 * i + pl))
      · rw [if_pos q] at hz9; cases hz9; exact ⟨hf, hz q⟩
      · rw [if_neg q] at hz9; cases hz9
    | some d =>
      simp only [k_ls1] at hz9
      by_cases q : 0 < sz64 (J 33 (8 * i + pl))
      · rw [if_pos q] at hz9
        by_cases q2 : sz64 (J 33 (8 * i + pl)) < sz64 (J 33 (8 * d + pl))
        · rw [if_pos q2] at hz9; cases hz9; exact ⟨hf, hz q⟩
        · rw [if_neg q2] at hz9; cases hz9; exact h0 _ rfl
      · rw [if_neg q] at hz9; cases hz9; exact h0 _ rfl
theorem k_least_spec {fr pl mn b : Nat} {J : fl_TJ} (hf : fr ≤ mn) (h : k_least fr pl mn J = some b) : fr ≤ b ∧ b < mn ∧ J 33 (8 * b + pl) ≠ 0 := by
  have h1 := k_least_ge (mn - fr) fr fr none b (Nat.le_refl _) (fun z hz => by cases hz) h
  have h2 := k_least_lt (mn - fr) fr none b (fun z hz => by cases hz) h
  exact ⟨h1.1, by omega, h1.2⟩
theorem k_chg_at {a b : Nat} {J : fl_TJ} (cl : Nat) (hc : cl < 8) : k_chg a b J 33 (8 * a + cl) = J 33 (8 * b + cl) := by
  have gen : ∀ (k i : Nat) (J : fl_TJ), i + k = 8 → i ≤ cl → fl_it (fun j J => fl_up (fl_up J 33 (8 * a + j) (J 33 (8 * b + j))) 33 (8 * b + j) (J 33 (8 * a + j))) k i J 33 (8 * a + cl) = J 33 (8 * b + cl) := by
    intro k
    induction k with
    | zero => intro i J hk hi; omega
    | succ k ih =>
      intro i J hk hi
      by_cases e : i = cl
      · subst e
        have hkeep := fl_it_keep (fun J' : fl_TJ => J' 33 (8 * a + i) = J 33 (8 * b + i)) (fun j J => fl_up (fl_up J 33 (8 * a + j) (J 33 (8 * b + j))) 33 (8 * b + j) (J 33 (8 * a + j))) k (i + 1) (fl_up (fl_up J 33 (8 * a + i) (J 33 (8 * b + i))) 33 (8 * b + i) (J 33 (8 * a + i))) ?_ ?_
        · exact hkeep
        · by_cases eb : a = b
          · subst eb; rw [fl_up_s]
          · rw [fl_up_j (by omega), fl_up_s]
        · intro j x h1 h2 h3
          show fl_up (fl_up x 33 (8 * a + j) _) 33 (8 * b + j) _ 33 (8 * a + i) = _
          rw [fl_up_j (by omega), fl_up_j (by omega)]
          exact h3
      · refine (ih (i + 1) _ (by omega) (by omega)).trans ?_
        show fl_up (fl_up J 33 (8 * a + i) _) 33 (8 * b + i) _ 33 (8 * b + cl) = _
        rw [fl_up_j (by omega), fl_up_j (by omega)]
  exact gen 8 0 J (by omega) (by omega)
theorem i64_neg2 (x : Int64) : x - 2 * x = -x := by
  apply Int64.toBitVec_inj.mp
  simp only [Int64.toBitVec_sub, Int64.toBitVec_mul, Int64.toBitVec_neg]
  generalize x.toBitVec = y
  show y - 2#64 * y = -y
  rw [BitVec.sub_eq_add_neg, show (2#64 : BitVec 64) * y = y + y from by rw [show (2#64 : BitVec 64) = 1#64 + 1#64 from rfl, BitVec.add_mul, BitVec.one_mul], BitVec.neg_add]
  rw [BitVec.sub_eq_add_neg, ← BitVec.add_assoc, BitVec.add_right_neg, BitVec.zero_add]
theorem k_neg_at {a w : Nat} {J : fl_TJ} (cl : Nat) (hc : cl < w) : k_take a a w 2 J 33 (8 * a + cl) = -(J 33 (8 * a + cl)) := by
  have gen : ∀ (k i : Nat) (J : fl_TJ), i + k = w → i ≤ cl → fl_it (fun j J => fl_up J 33 (8 * a + j) (J 33 (8 * a + j) - 2 * J 33 (8 * a + j))) k i J 33 (8 * a + cl) = -(J 33 (8 * a + cl)) := by
    intro k
    induction k with
    | zero => intro i J hk hi; omega
    | succ k ih =>
      intro i J hk hi
      by_cases e : i = cl
      · subst e
        have hkeep := fl_it_keep (fun J' : fl_TJ => J' 33 (8 * a + i) = -(J 33 (8 * a + i))) (fun j J => fl_up J 33 (8 * a + j) (J 33 (8 * a + j) - 2 * J 33 (8 * a + j))) k (i + 1) (fl_up J 33 (8 * a + i) (J 33 (8 * a + i) - 2 * J 33 (8 * a + i))) ?_ ?_
        · exact hkeep
        · rw [fl_up_s]; exact i64_neg2 _
        · intro j x h1 h2 h3
          show fl_up x 33 (8 * a + j) _ 33 (8 * a + i) = _
          rw [fl_up_j (by omega)]
          exact h3
      · refine (ih (i + 1) _ (by omega) (by omega)).trans ?_
        show -(fl_up J 33 (8 * a + i) _ 33 (8 * a + cl)) = _
        rw [fl_up_j (by omega)]
  exact gen w 0 J (by omega) (by omega)
theorem i64_neg_ne {x : Int64} (h : x ≠ 0) : -x ≠ 0 := fun e => h (by have h9 := congrArg (fun z => -z) e; simpa using h9)
theorem k_piv_ne {tp b cl w : Nat} {J : fl_TJ} (h : J 33 (8 * b + cl) ≠ 0) (hc : cl < w) (hw : w ≤ 8) : ¬ k_piv tp b cl w J 33 (8 * tp + cl) = 0 := by
  unfold k_piv
  by_cases q : k_chg tp b J 33 (8 * tp + cl) < 0
  · rw [if_pos q, k_neg_at cl hc, k_chg_at cl (by omega)]
    exact i64_neg_ne h
  · rw [if_neg q, k_chg_at cl (by omega)]
    exact h
theorem lp_krow {p : Program} {l : Launch} {e : Env} {R : Room} {s : State} {m : MethodId} {args : Array Value} {below : List Frame} {meth : Method} {c : Code} {Q : State → Prop} {D : va_G} {dA : Nat → ClassId} {ad : Nat → Nat} {N : Nat} {A : Nat → Prop} {H0 : Heap} {I : fl_TI} {al9 : Nat} {J9 : fl_TJ} (X : CallFix p m c cX2_form 8 s args fl_tb RX2) {mn w cl tp b : Nat} (hN : 37 ≤ N) (hmn : mn ≤ 8) (hw : w ≤ 8) (hcl : cl < w) (htp : tp < mn) (hR : 0 + 1 ≤ R.frames ∧ 8 + (8 + 11) + 40 * 0 ≤ R.locals)
    (kx : ∀ (H : Heap) (locs : List Loc) (ls : Array Slot), fl_I D dA ad N I J9 A s H0 H locs → lv_has ls 8 [(7, .int (nI mn)), (6, .int (nI al9)), (5, .int (nI b)), (4, .int (nI cl)), (3, .int (nI tp)), (0, .ref (ad 30)), (1, .int (nI mn)), (2, .int (nI w))] → W p l e R s m args below meth c H locs 0 0 Q (F0 m 157 ls [])) :
    ∀ (k i : Nat) (al : Nat) (J : fl_TJ) (H : Heap) (locs : List Loc) (ls : Array Slot), i + k = mn → fl_I D dA ad N I J A s H0 H locs → lv_has ls 8 [(7, .int (nI i)), (6, .int (nI al)), (5, .int (nI b)), (4, .int (nI cl)), (3, .int (nI tp)), (0, .ref (ad 30)), (1, .int (nI mn)), (2, .int (nI w))] → (¬ J 33 (8 * tp + cl) = 0 ∧ al ≤ 1 ∧ tp < i) → fl_it (k_row tp cl w) k i (al, J) = (al9, J9) → W p l e R s m args below meth c H locs 0 0 Q (F0 m 79 ls []) := by
  have hx := X.1
  have hb := X.2.1
  intro k
  induction k with
  | zero =>
    intro i al J H locs ls hk hI hl hinv hF
    have hF : (al, J) = (al9, J9) := hF
    cases hF
    have hk : mn = i := by omega
    subst hk
    refine lv_iload hx hb dX2_form_79 (lv_at hl 0 rfl) ?_
    refine lv_iload_n hx hb dX2_form_81 rfl (lv_at hl 6 rfl) ?_
    refine fn_icmp_ge X (tgt := 157) dX2_form_82 (by decide) (by omega) (by omega) (fun c1 => ?_) (fun c1 => absurd c1 (by omega))
    exact kx _ _ _ hI (lv_sub hl [0, 1, 2, 3, 4, 5, 6, 7] rfl)
  | succ k ih =>
    intro i al J H locs ls hk hI hl hinv hF
    refine lv_iload hx hb dX2_form_79 (lv_at hl 0 rfl) ?_
    refine lv_iload_n hx hb dX2_form_81 rfl (lv_at hl 6 rfl) ?_
    refine fn_icmp_ge X (tgt := 157) dX2_form_82 (by decide) (by omega) (by omega) (fun c1 => absurd c1 (by omega)) (fun c1 => ?_)
    refine lv_aload_n hx hb dX2_form_85 rfl (lv_at hl 5 rfl) ?_
    refine lv_iload hx hb dX2_form_86 (lv_at hl 0 rfl) ?_
    refine lv_iload_n hx hb dX2_form_88 rfl (lv_at hl 4 rfl) ?_
    refine lv_aload_n hx hb dX2_form_89 rfl (lv_at hl 5 rfl) ?_
    refine fl_get2 X hI dX2_form_90 (by omega) 4 (by decide) wf_X2_20 rfl ?_
    refine lv_bipush (v := nI 8) hx hb dX2_form_93 (by decide) ?_
    refine lv_iload hx hb dX2_form_95 (lv_at hl 0 rfl) ?_
    refine fn_imul X dX2_form_97 ?_
    refine lv_iload hx hb dX2_form_98 (lv_at hl 3 rfl) ?_
    refine fn_iadd X dX2_form_100 ?_
    refine fn_lald (k := 33) X hI dX2_form_101 (by omega) rfl (show (8 * i) + cl < 64 by omega) ?_
    refine lv_aload_n hx hb dX2_form_102 rfl (lv_at hl 5 rfl) ?_
    refine fl_get2 X hI dX2_form_103 (by omega) 4 (by decide) wf_X2_20 rfl ?_
    refine lv_bipush (v := nI 8) hx hb dX2_form_106 (by decide) ?_
    refine lv_iload_n hx hb dX2_form_108 rfl (lv_at hl 4 rfl) ?_
    refine fn_imul X dX2_form_109 ?_
    refine lv_iload hx hb dX2_form_110 (lv_at hl 3 rfl) ?_
    refine fn_iadd X dX2_form_112 ?_
    refine fn_lald (k := 33) X hI dX2_form_113 (by omega) rfl (show (8 * tp) + cl < 64 by omega) ?_
    refine fl_callS (As := [.long (J 33 ((8 * i) + cl)), .long (J 33 ((8 * tp) + cl))]) (rest := [.int (nI tp), .int (nI i), .ref (ad 30)]) X hI dX2_form_114 (m_X2_down D dA ad N I J (J 33 ((8 * i) + cl)) (J 33 ((8 * tp) + cl)) hinv.1) wc_yX2_down wm_X2_62 ws_yX2_down wn_X2 hd_yX2_down rfl ⟨by first | decide | omega, by first | decide | omega⟩ hl.1 (Nat.le_of_ble_eq_true rfl) (fun v I2 J2 H locs hp hI => ?_)
    obtain ⟨hv, hI2, hJ2⟩ := hp
    subst hv
    rw [hI2, hJ2] at hI
    refine W.eq (g2 := F0 m 117 ls [.long (dn64 (J 33 ((8 * i) + cl)) (J 33 ((8 * tp) + cl))), .int (nI tp), .int (nI i), .ref (ad 30)]) rfl ?_
    refine lv_iload_n hx hb dX2_form_117 rfl (lv_at hl 7 rfl) ?_
    refine fl_callV (k := 30) (As := [.int (nI i), .int (nI tp), .long (dn64 (J 33 ((8 * i) + cl)) (J 33 ((8 * tp) + cl))), .int (nI w)]) (rest := []) X hI dX2_form_118 (m_X2_take D dA ad N I J hN (by omega) (by omega) (by omega)) (by omega) fl_c_6 rfl rfl wc_yX2_take wm_X2_58 wi_yX2_take wl_yX2_take wn_X2 hd_yX2_take rfl ⟨by first | decide | omega, by first | decide | omega⟩ hl.1 (Nat.le_of_ble_eq_true rfl) (fun v I2 J2 H locs hp hI => ?_)
    obtain ⟨hv, hI2, hJ2⟩ := hp
    subst hv
    rw [hI2, hJ2] at hI
    refine W.eq (g2 := F0 m 121 ls []) rfl ?_
    refine lv_iload hx hb dX2_form_121 (lv_at hl 1 rfl) ?_
    refine fn_if_eq X (tgt := 148) dX2_form_123 (by decide) (by have := hinv.2.1; omega) (fun c2 => ?_) (fun c2 => ?_)
    · refine lv_iconst (v := nI 0) hx hb dX2_form_148 (by decide) ?_
      refine lv_istore (lv' := [(6, .int (nI 0)), (7, .int (nI i)), (5, .int (nI b)), (4, .int (nI cl)), (3, .int (nI tp)), (0, .ref (ad 30)), (1, .int (nI mn)), (2, .int (nI w))]) hx hb dX2_form_149 hl (by decide) rfl (fun ls hl => ?_)
      refine fn_iinc (a := i) (lv' := [(7, .int (nI (i + 1))), (6, .int (nI 0)), (5, .int (nI b)), (4, .int (nI cl)), (3, .int (nI tp)), (0, .ref (ad 30)), (1, .int (nI mn)), (2, .int (nI w))]) X dX2_form_151 hl (k := 1) rfl (by decide) rfl (fun ls hl => ?_)
      refine lv_goto (tgt := 79) hx hb dX2_form_154 (by decide) ?_
      exact ih (i + 1) _ _ _ _ _ (by omega) hI (lv_sub hl [0, 1, 2, 3, 4, 5, 6, 7] rfl) ⟨by rw [k_take_far (by omega)]; exact hinv.1, by omega, by omega⟩ (by have h9 := hF; simp only [fl_it, k_row] at h9; (first | rw [if_pos c2] at h9 | rw [if_neg (by omega : ¬ al = 0)] at h9 | rw [if_neg c2] at h9 | skip); exact h9)
    · refine lv_aload_n hx hb dX2_form_126 rfl (lv_at hl 5 rfl) ?_
      refine fl_get2 X hI dX2_form_127 (by omega) 4 (by decide) wf_X2_20 rfl ?_
      refine lv_bipush (v := nI 8) hx hb dX2_form_130 (by decide) ?_
      refine lv_iload hx hb dX2_form_132 (lv_at hl 0 rfl) ?_
      refine fn_imul X dX2_form_134 ?_
      refine lv_iload hx hb dX2_form_135 (lv_at hl 3 rfl) ?_
      refine fn_iadd X dX2_form_137 ?_
      refine fn_lald (k := 33) X hI dX2_form_138 (by omega) rfl (show (8 * i) + cl < 64 by omega) ?_
      refine lv_lconst (v := 0) hx hb dX2_form_139 rfl ?_
      refine fl_lc_ne (tgt := 148) hx hb dX2_form_140 dX2_form_141 (by decide) (fun c3 => ?_) (fun c3 => ?_)
      · refine lv_iconst (v := nI 0) hx hb dX2_form_148 (by decide) ?_
        refine lv_istore (lv' := [(6, .int (nI 0)), (7, .int (nI i)), (5, .int (nI b)), (4, .int (nI cl)), (3, .int (nI tp)), (0, .ref (ad 30)), (1, .int (nI mn)), (2, .int (nI w))]) hx hb dX2_form_149 hl (by decide) rfl (fun ls hl => ?_)
        refine fn_iinc (a := i) (lv' := [(7, .int (nI (i + 1))), (6, .int (nI 0)), (5, .int (nI b)), (4, .int (nI cl)), (3, .int (nI tp)), (0, .ref (ad 30)), (1, .int (nI mn)), (2, .int (nI w))]) X dX2_form_151 hl (k := 1) rfl (by decide) rfl (fun ls hl => ?_)
        refine lv_goto (tgt := 79) hx hb dX2_form_154 (by decide) ?_
        exact ih (i + 1) _ _ _ _ _ (by omega) hI (lv_sub hl [0, 1, 2, 3, 4, 5, 6, 7] rfl) ⟨by rw [k_take_far (by omega)]; exact hinv.1, by omega, by omega⟩ (by have h9 := hF; simp only [fl_it, k_row] at h9; (first | rw [if_pos c2] at h9 | rw [if_neg (by omega : ¬ al = 0)] at h9 | rw [if_neg c2] at h9 | skip); (first | rw [if_pos c3] at h9 | rw [if_neg (by omega : ¬ al = 0)] at h9 | rw [if_neg c3] at h9 | skip); exact h9)
      · refine lv_iconst (v := nI 1) hx hb dX2_form_144 (by decide) ?_
        refine lv_goto (tgt := 149) hx hb dX2_form_145 (by decide) ?_
        refine lv_istore (lv' := [(6, .int (nI 1)), (7, .int (nI i)), (5, .int (nI b)), (4, .int (nI cl)), (3, .int (nI tp)), (0, .ref (ad 30)), (1, .int (nI mn)), (2, .int (nI w))]) hx hb dX2_form_149 hl (by decide) rfl (fun ls hl => ?_)
        refine fn_iinc (a := i) (lv' := [(7, .int (nI (i + 1))), (6, .int (nI 1)), (5, .int (nI b)), (4, .int (nI cl)), (3, .int (nI tp)), (0, .ref (ad 30)), (1, .int (nI mn)), (2, .int (nI w))]) X dX2_form_151 hl (k := 1) rfl (by decide) rfl (fun ls hl => ?_)
        refine lv_goto (tgt := 79) hx hb dX2_form_154 (by decide) ?_
        exact ih (i + 1) _ _ _ _ _ (by omega) hI (lv_sub hl [0, 1, 2, 3, 4, 5, 6, 7] rfl) ⟨by rw [k_take_far (by omega)]; exact hinv.1, by omega, by omega⟩ (by have h9 := hF; simp only [fl_it, k_row] at h9; (first | rw [if_pos c2] at h9 | rw [if_neg (by omega : ¬ al = 0)] at h9 | rw [if_neg c2] at h9 | skip); (first | rw [if_pos c3] at h9 | rw [if_neg (by omega : ¬ al = 0)] at h9 | rw [if_neg c3] at h9 | skip); exact h9)
theorem lp_kup {p : Program} {l : Launch} {e : Env} {R : Room} {s : State} {m : MethodId} {args : Array Value} {below : List Frame} {meth : Method} {c : Code} {Q : State → Prop} {D : va_G} {dA : Nat → ClassId} {ad : Nat → Nat} {N : Nat} {A : Nat → Prop} {H0 : Heap} {I : fl_TI} {J9 : fl_TJ} (X : CallFix p m c cX2_form 8 s args fl_tb RX2) {mn w cl tp : Nat} (hN : 37 ≤ N) (hmn : mn ≤ 8) (hw : w ≤ 8) (hcl : cl < w) (htp : tp < mn) (hR : 0 + 1 ≤ R.frames ∧ 8 + (8 + 11) + 40 * 0 ≤ R.locals)
    (kx : ∀ (H : Heap) (locs : List Loc) (ls : Array Slot), fl_I D dA ad N I J9 A s H0 H locs → lv_has ls 8 [(7, .int (nI tp)), (4, .int (nI cl)), (3, .int (nI tp)), (0, .ref (ad 30)), (1, .int (nI mn)), (2, .int (nI w))] → W p l e R s m args below meth c H locs 0 0 Q (F0 m 221 ls [])) :
    ∀ (k i : Nat) (J : fl_TJ) (H : Heap) (locs : List Loc) (ls : Array Slot), i + k = tp → fl_I D dA ad N I J A s H0 H locs → lv_has ls 8 [(7, .int (nI i)), (4, .int (nI cl)), (3, .int (nI tp)), (0, .ref (ad 30)), (1, .int (nI mn)), (2, .int (nI w))] → (¬ J 33 (8 * tp + cl) = 0) → fl_it (fun r J => k_take r tp w (dn64 (J 33 (8 * r + cl)) (J 33 (8 * tp + cl))) J) k i J = J9 → W p l e R s m args below meth c H locs 0 0 Q (F0 m 173 ls []) := by
  have hx := X.1
  have hb := X.2.1
  intro k
  induction k with
  | zero =>
    intro i J H locs ls hk hI hl hinv hF
    have hF : J = J9 := hF
    subst hF
    have hk : tp = i := by omega
    subst hk
    refine lv_iload hx hb dX2_form_173 (lv_at hl 0 rfl) ?_
    refine lv_iload_n hx hb dX2_form_175 rfl (lv_at hl 2 rfl) ?_
    refine fn_icmp_ge X (tgt := 221) dX2_form_176 (by decide) (by omega) (by omega) (fun c1 => ?_) (fun c1 => absurd c1 (by omega))
    exact kx _ _ _ hI (lv_sub hl [0, 1, 2, 3, 4, 5] rfl)
  | succ k ih =>
    intro i J H locs ls hk hI hl hinv hF
    refine lv_iload hx hb dX2_form_173 (lv_at hl 0 rfl) ?_
    refine lv_iload_n hx hb dX2_form_175 rfl (lv_at hl 2 rfl) ?_
    refine fn_icmp_ge X (tgt := 221) dX2_form_176 (by decide) (by omega) (by omega) (fun c1 => absurd c1 (by omega)) (fun c1 => ?_)
    refine lv_aload_n hx hb dX2_form_179 rfl (lv_at hl 3 rfl) ?_
    refine lv_iload hx hb dX2_form_180 (lv_at hl 0 rfl) ?_
    refine lv_iload_n hx hb dX2_form_182 rfl (lv_at hl 2 rfl) ?_
    refine lv_aload_n hx hb dX2_form_183 rfl (lv_at hl 3 rfl) ?_
    refine fl_get2 X hI dX2_form_184 (by omega) 4 (by decide) wf_X2_20 rfl ?_
    refine lv_bipush (v := nI 8) hx hb dX2_form_187 (by decide) ?_
    refine lv_iload hx hb dX2_form_189 (lv_at hl 0 rfl) ?_
    refine fn_imul X dX2_form_191 ?_
    refine lv_iload hx hb dX2_form_192 (lv_at hl 1 rfl) ?_
    refine fn_iadd X dX2_form_194 ?_
    refine fn_lald (k := 33) X hI dX2_form_195 (by omega) rfl (show (8 * i) + cl < 64 by omega) ?_
    refine lv_aload_n hx hb dX2_form_196 rfl (lv_at hl 3 rfl) ?_
    refine fl_get2 X hI dX2_form_197 (by omega) 4 (by decide) wf_X2_20 rfl ?_
    refine lv_bipush (v := nI 8) hx hb dX2_form_200 (by decide) ?_
    refine lv_iload_n hx hb dX2_form_202 rfl (lv_at hl 2 rfl) ?_
    refine fn_imul X dX2_form_203 ?_
    refine lv_iload hx hb dX2_form_204 (lv_at hl 1 rfl) ?_
    refine fn_iadd X dX2_form_206 ?_
    refine fn_lald (k := 33) X hI dX2_form_207 (by omega) rfl (show (8 * tp) + cl < 64 by omega) ?_
    refine fl_callS (As := [.long (J 33 ((8 * i) + cl)), .long (J 33 ((8 * tp) + cl))]) (rest := [.int (nI tp), .int (nI i), .ref (ad 30)]) X hI dX2_form_208 (m_X2_down D dA ad N I J (J 33 ((8 * i) + cl)) (J 33 ((8 * tp) + cl)) hinv) wc_yX2_down wm_X2_62 ws_yX2_down wn_X2 hd_yX2_down rfl ⟨by first | decide | omega, by first | decide | omega⟩ hl.1 (Nat.le_of_ble_eq_true rfl) (fun v I2 J2 H locs hp hI => ?_)
    obtain ⟨hv, hI2, hJ2⟩ := hp
    subst hv
    rw [hI2, hJ2] at hI
    refine W.eq (g2 := F0 m 211 ls [.long (dn64 (J 33 ((8 * i) + cl)) (J 33 ((8 * tp) + cl))), .int (nI tp), .int (nI i), .ref (ad 30)]) rfl ?_
    refine lv_iload_n hx hb dX2_form_211 rfl (lv_at hl 5 rfl) ?_
    refine fl_callV (k := 30) (As := [.int (nI i), .int (nI tp), .long (dn64 (J 33 ((8 * i) + cl)) (J 33 ((8 * tp) + cl))), .int (nI w)]) (rest := []) X hI dX2_form_212 (m_X2_take D dA ad N I J hN (by omega) (by omega) (by omega)) (by omega) fl_c_6 rfl rfl wc_yX2_take wm_X2_58 wi_yX2_take wl_yX2_take wn_X2 hd_yX2_take rfl ⟨by first | decide | omega, by first | decide | omega⟩ hl.1 (Nat.le_of_ble_eq_true rfl) (fun v I2 J2 H locs hp hI => ?_)
    obtain ⟨hv, hI2, hJ2⟩ := hp
    subst hv
    rw [hI2, hJ2] at hI
    refine W.eq (g2 := F0 m 215 ls []) rfl ?_
    refine fn_iinc (a := i) (lv' := [(7, .int (nI (i + 1))), (4, .int (nI cl)), (3, .int (nI tp)), (0, .ref (ad 30)), (1, .int (nI mn)), (2, .int (nI w))]) X dX2_form_215 hl (k := 0) rfl (by decide) rfl (fun ls hl => ?_)
    refine lv_goto (tgt := 173) hx hb dX2_form_218 (by decide) ?_
    exact ih (i + 1) _ _ _ _ (by omega) hI (lv_sub hl [0, 1, 2, 3, 4, 5] rfl) (by rw [k_take_far (by omega)]; exact hinv) hF
end
section
/-! the model: form, its while loop and its columns -/
theorem k_rows_keep {mn tp cl w : Nat} {J : fl_TJ} (hw : w ≤ 8) (hcl : cl < w) : (k_rows mn tp cl w J).2 33 (8 * tp + cl) = J 33 (8 * tp + cl) ∧ (k_rows mn tp cl w J).1 ≤ 1 := by
  unfold k_rows
  refine fl_it_keep (fun x : Nat × fl_TJ => x.2 33 (8 * tp + cl) = J 33 (8 * tp + cl) ∧ x.1 ≤ 1) _ _ _ _ ⟨rfl, Nat.le_refl _⟩ (fun j x h1 h2 h3 => ?_)
  refine ⟨?_, ?_⟩
  · show k_take j tp w _ x.2 33 (8 * tp + cl) = _
    rw [k_take_far (by omega)]
    exact h3.1
  · show (if x.1 = 0 then 0 else _) ≤ 1
    by_cases q : x.1 = 0
    · rw [if_pos q]; omega
    · rw [if_neg q]
      split <;> omega
theorem k_pass_ne {mn tp b cl w : Nat} {J : fl_TJ} (h : J 33 (8 * b + cl) ≠ 0) (hw : w ≤ 8) (hcl : cl < w) : ¬ (k_pass mn tp b cl w J).2 33 (8 * tp + cl) = 0 := by
  unfold k_pass
  rw [(k_rows_keep hw hcl).1]
  exact k_piv_ne h hcl hw
theorem k_pass_le {mn tp b cl w : Nat} {J : fl_TJ} (hw : w ≤ 8) (hcl : cl < w) : (k_pass mn tp b cl w J).1 ≤ 1 := (k_rows_keep hw hcl).2
theorem lp_kel {p : Program} {l : Launch} {e : Env} {R : Room} {s : State} {m : MethodId} {args : Array Value} {below : List Frame} {meth : Method} {c : Code} {Q : State → Prop} {D : va_G} {dA : Nat → ClassId} {ad : Nat → Nat} {N : Nat} {A : Nat → Prop} {H0 : Heap} {I : fl_TI} {J9 : fl_TJ} {mn w cl tp : Nat} (X : CallFix p m c cX2_form 8 s args fl_tb RX2) (hN : 37 ≤ N) (hmn : mn ≤ 8) (hw : w ≤ 8) (hcl : cl < w) (htp : tp < mn) (hR : 1 + 1 ≤ R.frames ∧ 8 + (8 + 11) + 40 * 1 ≤ R.locals)
    (kx : ∀ (H : Heap) (locs : List Loc) (ls : Array Slot), fl_I D dA ad N I J9 A s H0 H locs → lv_has ls 8 [(4, .int (nI cl)), (3, .int (nI tp)), (0, .ref (ad 30)), (1, .int (nI mn)), (2, .int (nI w))] → ¬ J9 33 (8 * tp + cl) = 0 → W p l e R s m args below meth c H locs 0 0 Q (F0 m 170 ls [])) :
    ∀ (k b : Nat) (J : fl_TJ) (H : Heap) (locs : List Loc) (ls : Array Slot), tp ≤ b → b < mn → J 33 (8 * b + cl) ≠ 0 → fl_I D dA ad N I J A s H0 H locs → lv_has ls 8 [(6, .int (nI 0)), (5, .int (nI b)), (4, .int (nI cl)), (3, .int (nI tp)), (0, .ref (ad 30)), (1, .int (nI mn)), (2, .int (nI w))] → k_el mn tp cl w k b J = some J9 → W p l e R s m args below meth c H locs 0 0 Q (F0 m 32 ls []) := by
  have hx := X.1
  have hb := X.2.1
  intro k
  induction k with
  | zero =>
    intro b J H locs ls h1 h2 h3 hI hl hF
    cases hF
  | succ k ih =>
    intro b J H locs ls h1 h2 h3 hI hl hF
    refine lv_iload hx hb dX2_form_32 (lv_at hl 0 rfl) ?_
    refine fn_if_ne X (tgt := 170) dX2_form_34 (by decide) (by omega) (fun c1 => absurd c1 (by omega)) (fun c1 => ?_)
    refine lv_aload_n hx hb dX2_form_37 rfl (lv_at hl 4 rfl) ?_
    refine lv_iload_n hx hb dX2_form_38 rfl (lv_at hl 3 rfl) ?_
    refine lv_iload hx hb dX2_form_39 (lv_at hl 1 rfl) ?_
    refine fl_callV (k := 30) (As := [.int (nI tp), .int (nI b)]) (rest := []) X hI dX2_form_41 (m_X2_change D dA ad N I J hN (by omega) (by omega)) (by omega) fl_c_6 rfl rfl wc_yX2_change wm_X2_52 wi_yX2_change wl_yX2_change wn_X2 hd_yX2_change rfl ⟨by first | decide | omega, by first | decide | omega⟩ hl.1 (Nat.le_of_ble_eq_true rfl) (fun v I2 J2 H locs hp hI => ?_)
    obtain ⟨hv, hI2, hJ2⟩ := hp
    subst hv
    rw [hI2, hJ2] at hI
    refine W.eq (g2 := F0 m 44 ls []) rfl ?_
    refine lv_aload_n hx hb dX2_form_44 rfl (lv_at hl 4 rfl) ?_
    refine fl_get2 X hI dX2_form_45 (by omega) 4 (by decide) wf_X2_20 rfl ?_
    refine lv_bipush (v := nI 8) hx hb dX2_form_48 (by decide) ?_
    refine lv_iload_n hx hb dX2_form_50 rfl (lv_at hl 3 rfl) ?_
    refine fn_imul X dX2_form_51 ?_
    refine lv_iload hx hb dX2_form_52 (lv_at hl 2 rfl) ?_
    refine fn_iadd X dX2_form_54 ?_
    refine fn_lald (k := 33) X hI dX2_form_55 (by omega) rfl (show (8 * tp) + cl < 64 by omega) ?_
    refine lv_lconst (v := 0) hx hb dX2_form_56 rfl ?_
    refine fl_lc_ge (tgt := 71) hx hb dX2_form_57 dX2_form_58 (by decide) (fun c2 => ?_) (fun c2 => ?_)
    · have hI : fl_I D dA ad N I (k_piv tp b cl w J) A s H0 H locs := by unfold k_piv; first | (rw [if_pos c2]; exact hI) | (rw [if_neg c2]; exact hI)
      refine lv_iconst (v := nI 1) hx hb dX2_form_71 (by decide) ?_
      refine lv_istore (lv' := [(6, .int (nI 1)), (5, .int (nI b)), (4, .int (nI cl)), (3, .int (nI tp)), (0, .ref (ad 30)), (1, .int (nI mn)), (2, .int (nI w))]) hx hb dX2_form_72 hl (by decide) rfl (fun ls hl => ?_)
      refine lv_iload_n hx hb dX2_form_74 rfl (lv_at hl 3 rfl) ?_
      refine lv_iconst (v := nI 1) hx hb dX2_form_75 (by decide) ?_
      refine fn_iadd X dX2_form_76 ?_
      refine lv_istore (lv' := [(7, .int (nI (tp + 1))), (6, .int (nI 1)), (5, .int (nI b)), (4, .int (nI cl)), (3, .int (nI tp)), (0, .ref (ad 30)), (1, .int (nI mn)), (2, .int (nI w))]) hx hb dX2_form_77 hl (by decide) rfl (fun ls hl => ?_)
      refine lp_krow X hN hmn hw hcl htp (b := b) ⟨by omega, by omega⟩ (al9 := (k_pass mn tp b cl w J).1) (J9 := (k_pass mn tp b cl w J).2) (fun H locs ls hI hl => ?_) (mn - (tp + 1)) (tp + 1) 1 (k_piv tp b cl w J) _ _ _ (by omega) hI (lv_sub hl [0, 1, 2, 3, 4, 5, 6, 7] rfl) ⟨k_piv_ne h3 hcl hw, by omega, by omega⟩ rfl
      have hpv := k_pass_ne (mn := mn) (tp := tp) (b := b) (cl := cl) (w := w) (J := J) h3 hw hcl
      have hpl := k_pass_le (mn := mn) (tp := tp) (b := b) (cl := cl) (w := w) (J := J) hw hcl
      have hF9 := hF
      simp only [k_el] at hF9
      by_cases hal : (k_pass mn tp b cl w J).1 = 0
      · rw [if_pos hal] at hF9
        rw [hal] at hl
        cases hq : k_least tp cl mn (k_pass mn tp b cl w J).2 with
        | none => rw [hq] at hF9; cases hF9
        | some b2 =>
          rw [hq] at hF9
          obtain ⟨g1, g2, g3⟩ := k_least_spec (by omega) hq
          refine lv_aload_n hx hb dX2_form_157 rfl (lv_at hl 5 rfl) ?_
          refine lv_iload_n hx hb dX2_form_158 rfl (lv_at hl 4 rfl) ?_
          refine lv_iload hx hb dX2_form_159 (lv_at hl 3 rfl) ?_
          refine lv_iload_n hx hb dX2_form_161 rfl (lv_at hl 6 rfl) ?_
          refine fl_callV (k := 30) (As := [.int (nI tp), .int (nI cl), .int (nI mn)]) (rest := []) X hI dX2_form_162 (m_X2_least D dA ad N I (k_pass mn tp b cl w J).2 hN (by omega) (by omega) hmn) (by omega) fl_c_6 rfl rfl wc_yX2_least wm_X2_48 wi_yX2_least wl_yX2_least wn_X2 hd_yX2_least rfl ⟨by first | decide | omega, by first | decide | omega⟩ hl.1 (Nat.le_of_ble_eq_true rfl) (fun v I2 J2 H locs hp hI => ?_)
          obtain ⟨hv, hI2, hJ2⟩ := hp
          subst hv
          rw [hI2, hJ2] at hI
          refine W.eq (g2 := F0 m 165 ls [.int (nI b2)]) (by rw [hq]; rfl) ?_
          refine lv_istore (lv' := [(5, .int (nI b2)), (7, .int (nI mn)), (6, .int (nI 0)), (4, .int (nI cl)), (3, .int (nI tp)), (0, .ref (ad 30)), (1, .int (nI mn)), (2, .int (nI w))]) hx hb dX2_form_165 hl (by decide) rfl (fun ls hl => ?_)
          refine lv_goto (tgt := 32) hx hb dX2_form_167 (by decide) ?_
          exact ih b2 _ _ _ _ g1 g2 g3 hI (lv_sub hl [2, 0, 3, 4, 5, 6, 7] rfl) hF9
      · rw [if_neg hal] at hF9
        have hJ : (k_pass mn tp b cl w J).2 = J9 := Option.some.inj hF9
        refine lv_aload_n hx hb dX2_form_157 rfl (lv_at hl 5 rfl) ?_
        refine lv_iload_n hx hb dX2_form_158 rfl (lv_at hl 4 rfl) ?_
        refine lv_iload hx hb dX2_form_159 (lv_at hl 3 rfl) ?_
        refine lv_iload_n hx hb dX2_form_161 rfl (lv_at hl 6 rfl) ?_
        refine fl_callV (k := 30) (As := [.int (nI tp), .int (nI cl), .int (nI mn)]) (rest := []) X hI dX2_form_162 (m_X2_least D dA ad N I (k_pass mn tp b cl w J).2 hN (by omega) (by omega) hmn) (by omega) fl_c_6 rfl rfl wc_yX2_least wm_X2_48 wi_yX2_least wl_yX2_least wn_X2 hd_yX2_least rfl ⟨by first | decide | omega, by first | decide | omega⟩ hl.1 (Nat.le_of_ble_eq_true rfl) (fun v I2 J2 H locs hp hI => ?_)
        obtain ⟨hv, hI2, hJ2⟩ := hp
        subst hv
        rw [hI2, hJ2] at hI
        refine W.eq (g2 := F0 m 165 ls [.int (k_ob (k_least tp cl mn (k_pass mn tp b cl w J).2))]) rfl ?_
        refine lv_istore (lv' := [(5, .int (k_ob (k_least tp cl mn (k_pass mn tp b cl w J).2))), (7, .int (nI mn)), (6, .int (nI ((k_pass mn tp b cl w J).1))), (4, .int (nI cl)), (3, .int (nI tp)), (0, .ref (ad 30)), (1, .int (nI mn)), (2, .int (nI w))]) hx hb dX2_form_165 hl (by decide) rfl (fun ls hl => ?_)
        refine lv_goto (tgt := 32) hx hb dX2_form_167 (by decide) ?_
        refine lv_iload hx hb dX2_form_32 (lv_at hl 2 rfl) ?_
        refine fn_if_ne X (tgt := 170) dX2_form_34 (by decide) (by omega) (fun c71 => ?_) (fun c71 => absurd c71 (by omega))
        exact kx _ _ _ (by rw [← hJ]; exact hI) (lv_sub hl [3, 4, 5, 6, 7] rfl) (by rw [← hJ]; exact hpv)
    · refine lv_aload_n hx hb dX2_form_61 rfl (lv_at hl 4 rfl) ?_
      refine lv_iload_n hx hb dX2_form_62 rfl (lv_at hl 3 rfl) ?_
      refine lv_iload_n hx hb dX2_form_63 rfl (lv_at hl 3 rfl) ?_
      refine W.ldc2 (v := (2)) hx hb X.2.2.2.1 (X.2.2.2.2 _ wk_X2_56) rfl dX2_form_64 ?_
      refine W.eq (g2 := F0 m 67 ls [.long ((2)), .int (nI tp), .int (nI tp), .ref (ad 30)]) rfl ?_
      refine lv_iload_n hx hb dX2_form_67 rfl (lv_at hl 6 rfl) ?_
      refine fl_callV (k := 30) (As := [.int (nI tp), .int (nI tp), .long ((2)), .int (nI w)]) (rest := []) X hI dX2_form_68 (m_X2_take D dA ad N I (k_chg tp b J) hN (by omega) (by omega) (by omega)) (by omega) fl_c_6 rfl rfl wc_yX2_take wm_X2_58 wi_yX2_take wl_yX2_take wn_X2 hd_yX2_take rfl ⟨by first | decide | omega, by first | decide | omega⟩ hl.1 (Nat.le_of_ble_eq_true rfl) (fun v I2 J2 H locs hp hI => ?_)
      obtain ⟨hv, hI2, hJ2⟩ := hp
      subst hv
      rw [hI2, hJ2] at hI
      refine W.eq (g2 := F0 m 71 ls []) rfl ?_
      have hI : fl_I D dA ad N I (k_piv tp b cl w J) A s H0 H locs := by unfold k_piv; first | (rw [if_pos c2]; exact hI) | (rw [if_neg c2]; exact hI)
      refine lv_iconst (v := nI 1) hx hb dX2_form_71 (by decide) ?_
      refine lv_istore (lv' := [(6, .int (nI 1)), (5, .int (nI b)), (4, .int (nI cl)), (3, .int (nI tp)), (0, .ref (ad 30)), (1, .int (nI mn)), (2, .int (nI w))]) hx hb dX2_form_72 hl (by decide) rfl (fun ls hl => ?_)
      refine lv_iload_n hx hb dX2_form_74 rfl (lv_at hl 3 rfl) ?_
      refine lv_iconst (v := nI 1) hx hb dX2_form_75 (by decide) ?_
      refine fn_iadd X dX2_form_76 ?_
      refine lv_istore (lv' := [(7, .int (nI (tp + 1))), (6, .int (nI 1)), (5, .int (nI b)), (4, .int (nI cl)), (3, .int (nI tp)), (0, .ref (ad 30)), (1, .int (nI mn)), (2, .int (nI w))]) hx hb dX2_form_77 hl (by decide) rfl (fun ls hl => ?_)
      refine lp_krow X hN hmn hw hcl htp (b := b) ⟨by omega, by omega⟩ (al9 := (k_pass mn tp b cl w J).1) (J9 := (k_pass mn tp b cl w J).2) (fun H locs ls hI hl => ?_) (mn - (tp + 1)) (tp + 1) 1 (k_piv tp b cl w J) _ _ _ (by omega) hI (lv_sub hl [0, 1, 2, 3, 4, 5, 6, 7] rfl) ⟨k_piv_ne h3 hcl hw, by omega, by omega⟩ rfl
      have hpv := k_pass_ne (mn := mn) (tp := tp) (b := b) (cl := cl) (w := w) (J := J) h3 hw hcl
      have hpl := k_pass_le (mn := mn) (tp := tp) (b := b) (cl := cl) (w := w) (J := J) hw hcl
      have hF9 := hF
      simp only [k_el] at hF9
      by_cases hal : (k_pass mn tp b cl w J).1 = 0
      · rw [if_pos hal] at hF9
        rw [hal] at hl
        cases hq : k_least tp cl mn (k_pass mn tp b cl w J).2 with
        | none => rw [hq] at hF9; cases hF9
        | some b2 =>
          rw [hq] at hF9
          obtain ⟨g1, g2, g3⟩ := k_least_spec (by omega) hq
          refine lv_aload_n hx hb dX2_form_157 rfl (lv_at hl 5 rfl) ?_
          refine lv_iload_n hx hb dX2_form_158 rfl (lv_at hl 4 rfl) ?_
          refine lv_iload hx hb dX2_form_159 (lv_at hl 3 rfl) ?_
          refine lv_iload_n hx hb dX2_form_161 rfl (lv_at hl 6 rfl) ?_
          refine fl_callV (k := 30) (As := [.int (nI tp), .int (nI cl), .int (nI mn)]) (rest := []) X hI dX2_form_162 (m_X2_least D dA ad N I (k_pass mn tp b cl w J).2 hN (by omega) (by omega) hmn) (by omega) fl_c_6 rfl rfl wc_yX2_least wm_X2_48 wi_yX2_least wl_yX2_least wn_X2 hd_yX2_least rfl ⟨by first | decide | omega, by first | decide | omega⟩ hl.1 (Nat.le_of_ble_eq_true rfl) (fun v I2 J2 H locs hp hI => ?_)
          obtain ⟨hv, hI2, hJ2⟩ := hp
          subst hv
          rw [hI2, hJ2] at hI
          refine W.eq (g2 := F0 m 165 ls [.int (nI b2)]) (by rw [hq]; rfl) ?_
          refine lv_istore (lv' := [(5, .int (nI b2)), (7, .int (nI mn)), (6, .int (nI 0)), (4, .int (nI cl)), (3, .int (nI tp)), (0, .ref (ad 30)), (1, .int (nI mn)), (2, .int (nI w))]) hx hb dX2_form_165 hl (by decide) rfl (fun ls hl => ?_)
          refine lv_goto (tgt := 32) hx hb dX2_form_167 (by decide) ?_
          exact ih b2 _ _ _ _ g1 g2 g3 hI (lv_sub hl [2, 0, 3, 4, 5, 6, 7] rfl) hF9
      · rw [if_neg hal] at hF9
        have hJ : (k_pass mn tp b cl w J).2 = J9 := Option.some.inj hF9
        refine lv_aload_n hx hb dX2_form_157 rfl (lv_at hl 5 rfl) ?_
        refine lv_iload_n hx hb dX2_form_158 rfl (lv_at hl 4 rfl) ?_
        refine lv_iload hx hb dX2_form_159 (lv_at hl 3 rfl) ?_
        refine lv_iload_n hx hb dX2_form_161 rfl (lv_at hl 6 rfl) ?_
        refine fl_callV (k := 30) (As := [.int (nI tp), .int (nI cl), .int (nI mn)]) (rest := []) X hI dX2_form_162 (m_X2_least D dA ad N I (k_pass mn tp b cl w J).2 hN (by omega) (by omega) hmn) (by omega) fl_c_6 rfl rfl wc_yX2_least wm_X2_48 wi_yX2_least wl_yX2_least wn_X2 hd_yX2_least rfl ⟨by first | decide | omega, by first | decide | omega⟩ hl.1 (Nat.le_of_ble_eq_true rfl) (fun v I2 J2 H locs hp hI => ?_)
        obtain ⟨hv, hI2, hJ2⟩ := hp
        subst hv
        rw [hI2, hJ2] at hI
        refine W.eq (g2 := F0 m 165 ls [.int (k_ob (k_least tp cl mn (k_pass mn tp b cl w J).2))]) rfl ?_
        refine lv_istore (lv' := [(5, .int (k_ob (k_least tp cl mn (k_pass mn tp b cl w J).2))), (7, .int (nI mn)), (6, .int (nI ((k_pass mn tp b cl w J).1))), (4, .int (nI cl)), (3, .int (nI tp)), (0, .ref (ad 30)), (1, .int (nI mn)), (2, .int (nI w))]) hx hb dX2_form_165 hl (by decide) rfl (fun ls hl => ?_)
        refine lv_goto (tgt := 32) hx hb dX2_form_167 (by decide) ?_
        refine lv_iload hx hb dX2_form_32 (lv_at hl 2 rfl) ?_
        refine fn_if_ne X (tgt := 170) dX2_form_34 (by decide) (by omega) (fun c71 => ?_) (fun c71 => absurd c71 (by omega))
        exact kx _ _ _ (by rw [← hJ]; exact hI) (lv_sub hl [3, 4, 5, 6, 7] rfl) (by rw [← hJ]; exact hpv)
theorem lp_kform {p : Program} {l : Launch} {e : Env} {R : Room} {s : State} {m : MethodId} {args : Array Value} {below : List Frame} {meth : Method} {c : Code} {Q : State → Prop} {D : va_G} {dA : Nat → ClassId} {ad : Nat → Nat} {N : Nat} {A : Nat → Prop} {H0 : Heap} {tp9 : Nat} {I9 : fl_TI} {J9 : fl_TJ} {mn w fu : Nat} (X : CallFix p m c cX2_form 8 s args fl_tb RX2) (hN : 37 ≤ N) (hmn : mn ≤ 8) (hw : w ≤ 8) (hR : 1 + 1 ≤ R.frames ∧ 8 + (8 + 11) + 40 * 1 ≤ R.locals)
    (kx : ∀ (H : Heap) (locs : List Loc) (ls : Array Slot), fl_I D dA ad N I9 J9 A s H0 H locs → lv_has ls 8 [(3, .int (nI tp9)), (0, .ref (ad 30))] → W p l e R s m args below meth c H locs 0 0 Q (F0 m 238 ls [])) :
    ∀ (k cl tp : Nat) (I : fl_TI) (J : fl_TJ) (H : Heap) (locs : List Loc) (ls : Array Slot), cl + k = w → tp ≤ mn → fl_I D dA ad N I J A s H0 H locs → lv_has ls 8 [(4, .int (nI cl)), (3, .int (nI tp)), (0, .ref (ad 30)), (1, .int (nI mn)), (2, .int (nI w))] → k_form fu mn w k cl (tp, I, J) = some (tp9, I9, J9) → W p l e R s m args below meth c H locs 0 0 Q (F0 m 5 ls []) := by
  have hx := X.1
  have hb := X.2.1
  intro k
  induction k with
  | zero =>
    intro cl tp I J H locs ls hk htm hI hl hF
    have hF : (tp, I, J) = (tp9, I9, J9) := Option.some.inj hF
    cases hF
    have hk : w = cl := by omega
    subst hk
    refine lv_iload hx hb dX2_form_5 (lv_at hl 0 rfl) ?_
    refine lv_iload_n hx hb dX2_form_7 rfl (lv_at hl 4 rfl) ?_
    refine fn_icmp_ge X (tgt := 238) dX2_form_8 (by decide) (by omega) (by omega) (fun c1 => ?_) (fun c1 => absurd c1 (by omega))
    exact kx _ _ _ hI (lv_sub hl [1, 2] rfl)
  | succ k ih =>
    intro cl tp I J H locs ls hk htm hI hl hF
    simp only [k_form] at hF
    cases hq : k_least tp cl mn J with
    | none =>
      rw [hq] at hF
      refine lv_iload hx hb dX2_form_5 (lv_at hl 0 rfl) ?_
      refine lv_iload_n hx hb dX2_form_7 rfl (lv_at hl 4 rfl) ?_
      refine fn_icmp_ge X (tgt := 238) dX2_form_8 (by decide) (by omega) (by omega) (fun c1 => absurd c1 (by omega)) (fun c1 => ?_)
      refine lv_aload_n hx hb dX2_form_11 rfl (lv_at hl 2 rfl) ?_
      refine lv_iload_n hx hb dX2_form_12 rfl (lv_at hl 1 rfl) ?_
      refine lv_iload hx hb dX2_form_13 (lv_at hl 0 rfl) ?_
      refine lv_iload_n hx hb dX2_form_15 rfl (lv_at hl 3 rfl) ?_
      refine fl_callV (k := 30) (As := [.int (nI tp), .int (nI cl), .int (nI mn)]) (rest := []) X hI dX2_form_16 (m_X2_least D dA ad N I J hN htm (by omega) hmn) (by omega) fl_c_6 rfl rfl wc_yX2_least wm_X2_48 wi_yX2_least wl_yX2_least wn_X2 hd_yX2_least rfl ⟨by first | decide | omega, by first | decide | omega⟩ hl.1 (Nat.le_of_ble_eq_true rfl) (fun v I2 J2 H locs hp hI => ?_)
      obtain ⟨hv, hI2, hJ2⟩ := hp
      subst hv
      rw [hI2, hJ2] at hI
      refine W.eq (g2 := F0 m 19 ls [.int ((-1))]) (by rw [hq]; rfl) ?_
      refine lv_istore (lv' := [(5, .int ((-1))), (4, .int (nI cl)), (3, .int (nI tp)), (0, .ref (ad 30)), (1, .int (nI mn)), (2, .int (nI w))]) hx hb dX2_form_19 hl (by decide) rfl (fun ls hl => ?_)
      refine lv_iload hx hb dX2_form_21 (lv_at hl 0 rfl) ?_
      refine lv_if_ge (tgt := 29) hx hb dX2_form_23 (by decide) (fun c2 => absurd c2 (by decide)) (fun c2 => ?_)
      refine lv_goto (tgt := 232) hx hb dX2_form_26 (by decide) ?_
      refine fn_iinc (a := cl) (lv' := [(4, .int (nI (cl + 1))), (5, .int ((-1))), (3, .int (nI tp)), (0, .ref (ad 30)), (1, .int (nI mn)), (2, .int (nI w))]) X dX2_form_232 hl (k := 1) rfl (by decide) rfl (fun ls hl => ?_)
      refine lv_goto (tgt := 5) hx hb dX2_form_235 (by decide) ?_
      exact ih (cl + 1) tp I J _ _ _ (by omega) htm hI (lv_sub hl [0, 2, 3, 4, 5] rfl) hF
    | some b =>
      rw [hq] at hF
      dsimp only at hF
      obtain ⟨g1, g2, g3⟩ := k_least_spec htm hq
      cases hq2 : k_el mn tp cl w fu b J with
      | none => rw [hq2] at hF; cases hF
      | some J1 =>
        rw [hq2] at hF
        refine lv_iload hx hb dX2_form_5 (lv_at hl 0 rfl) ?_
        refine lv_iload_n hx hb dX2_form_7 rfl (lv_at hl 4 rfl) ?_
        refine fn_icmp_ge X (tgt := 238) dX2_form_8 (by decide) (by omega) (by omega) (fun c1 => absurd c1 (by omega)) (fun c1 => ?_)
        refine lv_aload_n hx hb dX2_form_11 rfl (lv_at hl 2 rfl) ?_
        refine lv_iload_n hx hb dX2_form_12 rfl (lv_at hl 1 rfl) ?_
        refine lv_iload hx hb dX2_form_13 (lv_at hl 0 rfl) ?_
        refine lv_iload_n hx hb dX2_form_15 rfl (lv_at hl 3 rfl) ?_
        refine fl_callV (k := 30) (As := [.int (nI tp), .int (nI cl), .int (nI mn)]) (rest := []) X hI dX2_form_16 (m_X2_least D dA ad N I J hN htm (by omega) hmn) (by omega) fl_c_6 rfl rfl wc_yX2_least wm_X2_48 wi_yX2_least wl_yX2_least wn_X2 hd_yX2_least rfl ⟨by first | decide | omega, by first | decide | omega⟩ hl.1 (Nat.le_of_ble_eq_true rfl) (fun v I2 J2 H locs hp hI => ?_)
        obtain ⟨hv, hI2, hJ2⟩ := hp
        subst hv
        rw [hI2, hJ2] at hI
        refine W.eq (g2 := F0 m 19 ls [.int (nI b)]) (by rw [hq]; rfl) ?_
        refine lv_istore (lv' := [(5, .int (nI b)), (4, .int (nI cl)), (3, .int (nI tp)), (0, .ref (ad 30)), (1, .int (nI mn)), (2, .int (nI w))]) hx hb dX2_form_19 hl (by decide) rfl (fun ls hl => ?_)
        refine lv_iload hx hb dX2_form_21 (lv_at hl 0 rfl) ?_
        refine lv_if_ge (tgt := 29) hx hb dX2_form_23 (by decide) (fun c2 => ?_) (fun c2 => absurd (nI_pos' (by omega)) c2)
        refine lv_iconst (v := nI 0) hx hb dX2_form_29 (by decide) ?_
        refine lv_istore (lv' := [(6, .int (nI 0)), (5, .int (nI b)), (4, .int (nI cl)), (3, .int (nI tp)), (0, .ref (ad 30)), (1, .int (nI mn)), (2, .int (nI w))]) hx hb dX2_form_30 hl (by decide) rfl (fun ls hl => ?_)
        refine lp_kel X hN hmn hw (by omega) (by omega) hR (J9 := J1) (fun H locs ls hI hl hne => ?_) fu b J _ _ _ g1 g2 g3 hI (lv_sub hl [0, 1, 2, 3, 4, 5, 6] rfl) hq2
        refine lv_iconst (v := nI 0) hx hb dX2_form_170 (by decide) ?_
        refine lv_istore (lv' := [(7, .int (nI 0)), (4, .int (nI cl)), (3, .int (nI tp)), (0, .ref (ad 30)), (1, .int (nI mn)), (2, .int (nI w))]) hx hb dX2_form_171 hl (by decide) rfl (fun ls hl => ?_)
        refine lp_kup X hN hmn hw (by omega) (by omega) ⟨by omega, by omega⟩ (J9 := k_up tp cl w J1) (fun H locs ls hI hl => ?_) tp 0 _ _ _ _ (Nat.zero_add _) hI (lv_sub hl [0, 1, 2, 3, 4, 5] rfl) hne rfl
        refine lv_aload_n hx hb dX2_form_221 rfl (lv_at hl 3 rfl) ?_
        refine fl_get2 X hI dX2_form_222 (by omega) 6 (by decide) wf_X2_24 rfl ?_
        refine lv_iload_n hx hb dX2_form_225 rfl (lv_at hl 2 rfl) ?_
        refine lv_iload hx hb dX2_form_226 (lv_at hl 1 rfl) ?_
        refine fn_iast (k := 34) X hI dX2_form_228 (by omega) rfl (show tp < 8 by omega) (fun H locs hI => ?_)
        refine fn_iinc (a := tp) (lv' := [(3, .int (nI (tp + 1))), (7, .int (nI tp)), (4, .int (nI cl)), (0, .ref (ad 30)), (1, .int (nI mn)), (2, .int (nI w))]) X dX2_form_229 hl (k := 2) rfl (by decide) rfl (fun ls hl => ?_)
        refine fn_iinc (a := cl) (lv' := [(4, .int (nI (cl + 1))), (3, .int (nI (tp + 1))), (7, .int (nI tp)), (0, .ref (ad 30)), (1, .int (nI mn)), (2, .int (nI w))]) X dX2_form_232 hl (k := 2) rfl (by decide) rfl (fun ls hl => ?_)
        refine lv_goto (tgt := 5) hx hb dX2_form_235 (by decide) ?_
        exact ih (cl + 1) (tp + 1) _ _ _ _ _ (by omega) (by omega) hI (lv_sub hl [0, 1, 3, 4, 5] rfl) hF
theorem m_X2_form (D : va_G) (dA : Nat → ClassId) (ad : Nat → Nat) (N : Nat) (I : fl_TI) (J : fl_TJ) {fu mn w tp9 : Nat} {I9 : fl_TI} {J9 : fl_TJ} (hN : 37 ≤ N) (hmn : mn ≤ 8) (hw : w ≤ 8) (hF : k_form fu mn w w 0 (0, I, J) = some (tp9, I9, J9)) : FM yX2_form cX2_form 8 none 2 D dA ad N [.ref (ad 30), .int (nI mn), .int (nI w)] I J (fun v I' J' => v = none ∧ I' = fl_up I9 30 5 (nI tp9) ∧ J' = J9) := by
  refine FM.ofW RX2 rfl (by decide +kernel) (Nat.le_of_ble_eq_true rfl) ?_
  intro p l e s m args below meth c ls X hr hlk hI hl
  have hx := X.1
  have hb := X.2.1
  have hl : lv_has ls 8 [(0, .ref (ad 30)), (1, .int (nI mn)), (2, .int (nI w))] := hl
  refine lv_iconst (v := nI 0) hx hb dX2_form_0 (by decide) ?_
  refine lv_istore_n (lv' := [(3, .int (nI 0)), (0, .ref (ad 30)), (1, .int (nI mn)), (2, .int (nI w))]) hx hb dX2_form_1 rfl hl (by decide) rfl (fun ls hl => ?_)
  refine lv_iconst (v := nI 0) hx hb dX2_form_2 (by decide) ?_
  refine lv_istore (lv' := [(4, .int (nI 0)), (3, .int (nI 0)), (0, .ref (ad 30)), (1, .int (nI mn)), (2, .int (nI w))]) hx hb dX2_form_3 hl (by decide) rfl (fun ls hl => ?_)
  refine lp_kform (fu := fu) X hN hmn hw ⟨by decide, by decide⟩ (fun H locs ls hI hl => ?_) w 0 0 I J _ _ _ (Nat.zero_add _) (Nat.zero_le _) hI (lv_sub hl [0, 1, 2, 3, 4] rfl) hF
  refine lv_aload_n hx hb dX2_form_238 rfl (lv_at hl 1 rfl) ?_
  refine lv_iload_n hx hb dX2_form_239 rfl (lv_at hl 0 rfl) ?_
  refine fl_put2 X hI dX2_form_240 (by omega) 5 (by decide) wf_X2_66 (fun H locs hI => ?_)
  exact fl_vret X hr hlk hI dX2_form_243 ⟨rfl, rfl, rfl⟩
end
