/-! rows over indices and counters that are natural numbers (nI) -/
theorem fl_n_le : ∀ k, fl_n k ≤ 64 := by
  intro k
  by_cases h : k < 37
  · have : ∀ k, k < 37 → fl_n k ≤ 64 := by decide +kernel
    exact this k h
  · unfold fl_n
    rw [List.getD_eq_getElem?_getD, List.getElem?_eq_none (by simp; omega)]
    simp
theorem fl_n_lt {i k : Nat} (h : i < fl_n k) : i < 2 ^ 31 := by have := fl_n_le k; omega
section FLN
variable {p : Program} {l : Launch} {e : Env} {R : Room} {s : State} {m : MethodId} {args : Array Value} {below : List Frame} {meth : Method} {c : Code} {H : Heap} {locs : List Loc} {cells slots : Nat} {Q : State → Prop}
variable {cc : ByteArray} {nL pc : Nat} {own : String} {ls : Array Slot} {rest : List Value} {D : va_G} {dA : Nat → ClassId} {ad : Nat → Nat} {N : Nat} {I : fl_TI} {J : fl_TJ} {A : Nat → Prop} {H0 : Heap}
theorem fn_lald (X : CallFix p m c cc nL s args fl_tb own) (hI : fl_I D dA ad N I J A s H0 H locs) (hdg : decode cc pc = .ok (.laload, 1)) {k i : Nat} (hk : k < N) (h1 : fl_k k = 1) (hi : i < fl_n k)
    (kk : W p l e R s m args below meth c H locs 0 0 Q (F0 m (pc + 1) ls (.long (J k i) :: rest))) : W p l e R s m args below meth c H locs 0 0 Q (F0 m pc ls (.int (nI i) :: .ref (ad k) :: rest)) :=
  fl_lald X hI hdg hk h1 (vp_in_nI hi (by have := fl_n_le k; omega)) (by rw [nI_clamp (fl_n_lt hi)]; exact kk)
theorem fn_iald (X : CallFix p m c cc nL s args fl_tb own) (hI : fl_I D dA ad N I J A s H0 H locs) (hdg : decode cc pc = .ok (.iaload, 1)) {k i : Nat} (hk : k < N) (h1 : fl_k k = 0) (hi : i < fl_n k)
    (kk : W p l e R s m args below meth c H locs 0 0 Q (F0 m (pc + 1) ls (.int (I k i) :: rest))) : W p l e R s m args below meth c H locs 0 0 Q (F0 m pc ls (.int (nI i) :: .ref (ad k) :: rest)) :=
  fl_iald X hI hdg hk h1 (vp_in_nI hi (by have := fl_n_le k; omega)) (by rw [nI_clamp (fl_n_lt hi)]; exact kk)
theorem fn_last (X : CallFix p m c cc nL s args fl_tb own) (hI : fl_I D dA ad N I J A s H0 H locs) (hdg : decode cc pc = .ok (.lastore, 1)) {k i : Nat} {x : Int64} (hk : k < N) (h1 : fl_k k = 1) (hi : i < fl_n k)
    (kk : ∀ (H1 : Heap) (locs1 : List Loc), fl_I D dA ad N I (fl_up J k i x) A s H0 H1 locs1 → W p l e R s m args below meth c H1 locs1 0 0 Q (F0 m (pc + 1) ls rest)) : W p l e R s m args below meth c H locs 0 0 Q (F0 m pc ls (.long x :: .int (nI i) :: .ref (ad k) :: rest)) :=
  fl_last X hI hdg hk h1 (vp_in_nI hi (by have := fl_n_le k; omega)) (by rw [nI_clamp (fl_n_lt hi)]; exact kk)
theorem fn_iast (X : CallFix p m c cc nL s args fl_tb own) (hI : fl_I D dA ad N I J A s H0 H locs) (hdg : decode cc pc = .ok (.iastore, 1)) {k i : Nat} {x : Int32} (hk : k < N) (h1 : fl_k k = 0) (hi : i < fl_n k)
    (kk : ∀ (H1 : Heap) (locs1 : List Loc), fl_I D dA ad N (fl_up I k i x) J A s H0 H1 locs1 → W p l e R s m args below meth c H1 locs1 0 0 Q (F0 m (pc + 1) ls rest)) : W p l e R s m args below meth c H locs 0 0 Q (F0 m pc ls (.int x :: .int (nI i) :: .ref (ad k) :: rest)) :=
  fl_iast X hI hdg hk h1 (vp_in_nI hi (by have := fl_n_le k; omega)) (by rw [nI_clamp (fl_n_lt hi)]; exact kk)
theorem fn_aald3 (X : CallFix p m c cc nL s args fl_tb own) (hI : fl_I D dA ad N I J A s H0 H locs) (hdg : decode cc pc = .ok (.aaload, 1)) {k i : Nat} (hk : k < N) (h1 : fl_k k = 3) (hi : i < fl_n k)
    (kk : W p l e R s m args below meth c H locs 0 0 Q (F0 m (pc + 1) ls (.ref (ad (k + 1 + i)) :: rest))) : W p l e R s m args below meth c H locs 0 0 Q (F0 m pc ls (.int (nI i) :: .ref (ad k) :: rest)) :=
  fl_aald3 X hI hdg hk h1 (vp_in_nI hi (by have := fl_n_le k; omega)) (by rw [nI_clamp (fl_n_lt hi)]; exact kk)
theorem fn_aald2 (X : CallFix p m c cc nL s args fl_tb own) (hI : fl_I D dA ad N I J A s H0 H locs) (hdg : decode cc pc = .ok (.aaload, 1)) {k i : Nat} (hk : k < N) (h1 : fl_k k = 2) (hi : i < fl_n k)
    (kk : W p l e R s m args below meth c H locs 0 0 Q (F0 m (pc + 1) ls (.ref (ad (k + 1 + i)) :: rest))) : W p l e R s m args below meth c H locs 0 0 Q (F0 m pc ls (.int (nI i) :: .ref (ad k) :: rest)) :=
  fl_aald2 X hI hdg hk h1 (vp_in_nI hi (by have := fl_n_le k; omega)) (by rw [nI_clamp (fl_n_lt hi)]; exact kk)
theorem fn_iadd (X : CallFix p m c cc nL s args fl_tb own) {a b : Nat} (hdg : decode cc pc = .ok (.iadd, 1)) (kk : W p l e R s m args below meth c H locs cells slots Q (F0 m (pc + 1) ls (.int (nI (a + b)) :: rest))) : W p l e R s m args below meth c H locs cells slots Q (F0 m pc ls (.int (nI b) :: .int (nI a) :: rest)) := lv_iadd X.1 X.2.1 hdg (by rw [nI_add]; exact kk)
theorem fn_isub (X : CallFix p m c cc nL s args fl_tb own) {a b : Nat} (hdg : decode cc pc = .ok (.isub, 1)) (h : b ≤ a) (kk : W p l e R s m args below meth c H locs cells slots Q (F0 m (pc + 1) ls (.int (nI (a - b)) :: rest))) : W p l e R s m args below meth c H locs cells slots Q (F0 m pc ls (.int (nI b) :: .int (nI a) :: rest)) := lv_isub X.1 X.2.1 hdg (by rw [pk_sub h]; exact kk)
theorem fn_imul (X : CallFix p m c cc nL s args fl_tb own) {a b : Nat} (hdg : decode cc pc = .ok (.imul, 1)) (kk : W p l e R s m args below meth c H locs cells slots Q (F0 m (pc + 1) ls (.int (nI (a * b)) :: rest))) : W p l e R s m args below meth c H locs cells slots Q (F0 m pc ls (.int (nI b) :: .int (nI a) :: rest)) := lv_imul X.1 X.2.1 hdg (by rw [pk_mul]; exact kk)
theorem fn_icmp_ge (X : CallFix p m c cc nL s args fl_tb own) {a b : Nat} {off : Int} {tgt : Nat} (hdg : decode cc pc = .ok (.if_icmp .ge off, 3)) (ht : (pc : Int) + off = (tgt : Int)) (ha : a < 2 ^ 31) (hb : b < 2 ^ 31) (kt : b ≤ a → W p l e R s m args below meth c H locs cells slots Q (F0 m tgt ls rest)) (kf : a < b → W p l e R s m args below meth c H locs cells slots Q (F0 m (pc + 3) ls rest)) : W p l e R s m args below meth c H locs cells slots Q (F0 m pc ls (.int (nI b) :: .int (nI a) :: rest)) :=
  lv_icmp_ge X.1 X.2.1 hdg ht (fun h => kt ((nI_leI hb ha).mp h)) (fun h => kf (Nat.lt_of_not_le fun q => h ((nI_leI hb ha).mpr q)))
theorem fn_icmp_lt (X : CallFix p m c cc nL s args fl_tb own) {a b : Nat} {off : Int} {tgt : Nat} (hdg : decode cc pc = .ok (.if_icmp .lt off, 3)) (ht : (pc : Int) + off = (tgt : Int)) (ha : a < 2 ^ 31) (hb : b < 2 ^ 31) (kt : a < b → W p l e R s m args below meth c H locs cells slots Q (F0 m tgt ls rest)) (kf : b ≤ a → W p l e R s m args below meth c H locs cells slots Q (F0 m (pc + 3) ls rest)) : W p l e R s m args below meth c H locs cells slots Q (F0 m pc ls (.int (nI b) :: .int (nI a) :: rest)) :=
  lv_icmp_lt X.1 X.2.1 hdg ht (fun h => kt ((nI_ltI ha hb).mp h)) (fun h => kf (Nat.le_of_not_lt fun q => h ((nI_ltI ha hb).mpr q)))
theorem fn_icmp_gt (X : CallFix p m c cc nL s args fl_tb own) {a b : Nat} {off : Int} {tgt : Nat} (hdg : decode cc pc = .ok (.if_icmp .gt off, 3)) (ht : (pc : Int) + off = (tgt : Int)) (ha : a < 2 ^ 31) (hb : b < 2 ^ 31) (kt : b < a → W p l e R s m args below meth c H locs cells slots Q (F0 m tgt ls rest)) (kf : a ≤ b → W p l e R s m args below meth c H locs cells slots Q (F0 m (pc + 3) ls rest)) : W p l e R s m args below meth c H locs cells slots Q (F0 m pc ls (.int (nI b) :: .int (nI a) :: rest)) :=
  lv_icmp_gt X.1 X.2.1 hdg ht (fun h => kt ((nI_ltI hb ha).mp h)) (fun h => kf (Nat.le_of_not_lt fun q => h ((nI_ltI hb ha).mpr q)))
theorem fn_icmp_le (X : CallFix p m c cc nL s args fl_tb own) {a b : Nat} {off : Int} {tgt : Nat} (hdg : decode cc pc = .ok (.if_icmp .le off, 3)) (ht : (pc : Int) + off = (tgt : Int)) (ha : a < 2 ^ 31) (hb : b < 2 ^ 31) (kt : a ≤ b → W p l e R s m args below meth c H locs cells slots Q (F0 m tgt ls rest)) (kf : b < a → W p l e R s m args below meth c H locs cells slots Q (F0 m (pc + 3) ls rest)) : W p l e R s m args below meth c H locs cells slots Q (F0 m pc ls (.int (nI b) :: .int (nI a) :: rest)) :=
  lv_icmp_le X.1 X.2.1 hdg ht (fun h => kt ((nI_leI ha hb).mp h)) (fun h => kf (Nat.lt_of_not_le fun q => h ((nI_leI ha hb).mpr q)))
theorem fn_icmp_eq (X : CallFix p m c cc nL s args fl_tb own) {a b : Nat} {off : Int} {tgt : Nat} (hdg : decode cc pc = .ok (.if_icmp .eq off, 3)) (ht : (pc : Int) + off = (tgt : Int)) (ha : a < 2 ^ 31) (hb : b < 2 ^ 31) (kt : a = b → W p l e R s m args below meth c H locs cells slots Q (F0 m tgt ls rest)) (kf : a ≠ b → W p l e R s m args below meth c H locs cells slots Q (F0 m (pc + 3) ls rest)) : W p l e R s m args below meth c H locs cells slots Q (F0 m pc ls (.int (nI b) :: .int (nI a) :: rest)) :=
  lv_icmp_eq X.1 X.2.1 hdg ht (fun h => kt ((nI_eq ha hb).mp h)) (fun h => kf (fun q => h ((nI_eq ha hb).mpr q)))
theorem fn_icmp_ne (X : CallFix p m c cc nL s args fl_tb own) {a b : Nat} {off : Int} {tgt : Nat} (hdg : decode cc pc = .ok (.if_icmp .ne off, 3)) (ht : (pc : Int) + off = (tgt : Int)) (ha : a < 2 ^ 31) (hb : b < 2 ^ 31) (kt : a ≠ b → W p l e R s m args below meth c H locs cells slots Q (F0 m tgt ls rest)) (kf : a = b → W p l e R s m args below meth c H locs cells slots Q (F0 m (pc + 3) ls rest)) : W p l e R s m args below meth c H locs cells slots Q (F0 m pc ls (.int (nI b) :: .int (nI a) :: rest)) :=
  lv_icmp_ne X.1 X.2.1 hdg ht (fun h => kt (fun q => h ((nI_eq ha hb).mpr q))) (fun h => kf ((nI_eq ha hb).mp h))
theorem fn_if_ne (X : CallFix p m c cc nL s args fl_tb own) {a : Nat} {off : Int} {tgt : Nat} (hdg : decode cc pc = .ok (.ifCond .ne off, 3)) (ht : (pc : Int) + off = (tgt : Int)) (ha : a < 2 ^ 31) (kt : 0 < a → W p l e R s m args below meth c H locs cells slots Q (F0 m tgt ls rest)) (kf : a = 0 → W p l e R s m args below meth c H locs cells slots Q (F0 m (pc + 3) ls rest)) : W p l e R s m args below meth c H locs cells slots Q (F0 m pc ls (.int (nI a) :: rest)) :=
  lv_if_ne X.1 X.2.1 hdg ht (fun h => kt (Nat.pos_of_ne_zero fun q => h (by rw [q]; rfl))) (fun h => kf ((nI_eq ha (by decide : (0 : Nat) < 2 ^ 31)).mp h))
theorem fn_if_eq (X : CallFix p m c cc nL s args fl_tb own) {a : Nat} {off : Int} {tgt : Nat} (hdg : decode cc pc = .ok (.ifCond .eq off, 3)) (ht : (pc : Int) + off = (tgt : Int)) (ha : a < 2 ^ 31) (kt : a = 0 → W p l e R s m args below meth c H locs cells slots Q (F0 m tgt ls rest)) (kf : 0 < a → W p l e R s m args below meth c H locs cells slots Q (F0 m (pc + 3) ls rest)) : W p l e R s m args below meth c H locs cells slots Q (F0 m pc ls (.int (nI a) :: rest)) :=
  lv_if_eq X.1 X.2.1 hdg ht (fun h => kt ((nI_eq ha (by decide : (0 : Nat) < 2 ^ 31)).mp h)) (fun h => kf (Nat.pos_of_ne_zero fun q => h (by rw [q]; rfl)))
theorem fn_iinc (X : CallFix p m c cc nL s args fl_tb own) {i k a : Nat} {lv lv' : List (Nat × Value)} (hdg : decode cc pc = .ok (.iinc i 1, 3)) (h : lv_has ls nL lv) (hk : lv[k]? = some (i, .int (nI a))) (hn : i < nL) (hl : (i, Value.int (nI (a + 1))) :: lv.filter (fun q => !(q.1 == i) && !(q.1 + 1 == i && q.2.category == 2)) = lv')
    (kk : ∀ ls' : Array Slot, lv_has ls' nL lv' → W p l e R s m args below meth c H locs cells slots Q (F0 m (pc + 3) ls' rest)) : W p l e R s m args below meth c H locs cells slots Q (F0 m pc ls rest) :=
  lv_iinc (v := nI (a + 1)) X.1 X.2.1 hdg h hk (by rw [nI_succ]; rfl) hn hl kk
end FLN
/-- a lattice of the world: its number, how many rows, how many places a row has -/
def fl_lat (o nr mw : Nat) : Prop := (o = 6 ∧ nr = 4 ∧ mw = 7) ∨ (o = 13 ∧ nr = 6 ∧ mw = 3)
theorem lat_k {o nr mw : Nat} (h : fl_lat o nr mw) : fl_k o = 4 := by rcases h with ⟨rfl, rfl, rfl⟩ | ⟨rfl, rfl, rfl⟩ <;> rfl
theorem lat_k1 {o nr mw : Nat} (h : fl_lat o nr mw) : fl_k (o + 1) = 3 := by rcases h with ⟨rfl, rfl, rfl⟩ | ⟨rfl, rfl, rfl⟩ <;> rfl
theorem lat_n1 {o nr mw : Nat} (h : fl_lat o nr mw) : fl_n (o + 1) = nr := by rcases h with ⟨rfl, rfl, rfl⟩ | ⟨rfl, rfl, rfl⟩ <;> rfl
theorem lat_k2 {o nr mw i : Nat} (h : fl_lat o nr mw) (hi : i < nr) : fl_k (o + 2 + i) = 1 := by
  rcases h with ⟨rfl, rfl, rfl⟩ | ⟨rfl, rfl, rfl⟩
  · have : ∀ i, i < 4 → fl_k (6 + 2 + i) = 1 := by decide +kernel
    exact this i hi
  · have : ∀ i, i < 6 → fl_k (13 + 2 + i) = 1 := by decide +kernel
    exact this i hi
theorem lat_n2 {o nr mw i : Nat} (h : fl_lat o nr mw) (hi : i < nr) : fl_n (o + 2 + i) = mw := by
  rcases h with ⟨rfl, rfl, rfl⟩ | ⟨rfl, rfl, rfl⟩
  · have : ∀ i, i < 4 → fl_n (6 + 2 + i) = 7 := by decide +kernel
    exact this i hi
  · have : ∀ i, i < 6 → fl_n (13 + 2 + i) = 3 := by decide +kernel
    exact this i hi
theorem lat_kl {o nr mw : Nat} (h : fl_lat o nr mw) : fl_k (o + 2 + nr) = 0 := by rcases h with ⟨rfl, rfl, rfl⟩ | ⟨rfl, rfl, rfl⟩ <;> rfl
theorem lat_nl {o nr mw : Nat} (h : fl_lat o nr mw) : fl_n (o + 2 + nr) = nr := by rcases h with ⟨rfl, rfl, rfl⟩ | ⟨rfl, rfl, rfl⟩ <;> rfl
theorem lat_b {o nr mw : Nat} (h : fl_lat o nr mw) : 6 ≤ o ∧ o + 2 + nr < 22 ∧ nr ≤ 6 ∧ 4 ≤ nr ∧ mw ≤ 7 ∧ 3 ≤ mw := by rcases h with ⟨rfl, rfl, rfl⟩ | ⟨rfl, rfl, rfl⟩ <;> decide
section FLL
variable {p : Program} {l : Launch} {e : Env} {R : Room} {s : State} {m : MethodId} {args : Array Value} {below : List Frame} {meth : Method} {c : Code} {H : Heap} {locs : List Loc} {Q : State → Prop}
variable {cc : ByteArray} {nL pc : Nat} {own : String} {ls : Array Slot} {rest : List Value} {D : va_G} {dA : Nat → ClassId} {ad : Nat → Nat} {N : Nat} {I : fl_TI} {J : fl_TJ} {A : Nat → Prop} {H0 : Heap}
/-- a lattice's field -/
theorem fl_getL {index o nr mw : Nat} (X : CallFix p m c cc nL s args fl_tb RX0) (hI : fl_I D dA ad N I J A s H0 H locs) (hdg : decode cc pc = .ok (.getfield index, 3)) (hN : 30 ≤ N) (hL : fl_lat o nr mw) (f : Nat) (hf : f < 5) (hlink : Cond.fieldLink RX0 index (TX0 f).1 (TX0 f).2.1 (TX0 f).2.2.1 ∈ fl_tb) {v : Value} (hv : ([.ref (ad (o + 1)), .ref (ad (o + 2 + nr)), .int (I o 2), .int (I o 3), .int (I o 4)] : List Value)[f]? = some v)
    (kk : W p l e R s m args below meth c H locs 0 0 Q (F0 m (pc + 3) ls (v :: rest))) : W p l e R s m args below meth c H locs 0 0 Q (F0 m pc ls (.ref (ad o) :: rest)) :=
  fl_get0 X hI hdg (by have := lat_b hL; omega) (lat_k hL) f hf hlink (by rw [lat_n1 hL]; exact hv) kk
end FLL
