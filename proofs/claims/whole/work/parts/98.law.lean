/-! THE LAW'S LOOP -/
theorem arr_over {ty : FieldType} {args : Array Value} {s : State} (h : (Cond.arrayOver (.array ty)).before args s = true) : ∃ c k comp, s.vm.findClass ("[" ++ (FieldType.array ty).toString) = some c ∧ s.vm.classes[c]? = some k ∧ k.kind = .array comp (.array ty) := by
  simp only [Cond.before, Cond.holds, Cond.value] at h
  cases hc : s.vm.findClass (FieldType.array ty).toString with
  | none => simp [hc] at h
  | some comp =>
    simp only [hc, Option.bind_some] at h
    obtain ⟨c, -, h⟩ := Option.bind_eq_some_iff.mp (eq_of_beq h)
    obtain ⟨k, hk, h⟩ := Option.map_eq_some_iff.mp h
    cases hkk : k.kind with
    | array comp2 ty2 =>
      simp [hkk] at h
      exact ⟨c, k, comp2, h.2, hk, by rw [hkk, h.1]⟩
    | _ => simp [hkk] at h
theorem and15 (v : Int32) : ∃ r, r < 16 ∧ v &&& 15 = nI r := by
  refine ⟨(v.toBitVec &&& 15#32).toNat, ?_, ?_⟩
  · rw [BitVec.toNat_and]
    have : v.toBitVec.toNat &&& (15#32).toNat ≤ (15#32).toNat := Nat.and_le_right
    have e : (15#32).toNat = 15 := rfl
    omega
  · apply Int32.toBitVec_inj.mp
    show v.toBitVec &&& 15#32 = BitVec.ofNat 32 (v.toBitVec &&& 15#32).toNat
    exact (BitVec.ofNat_toNat _ _).symm ▸ (by simp)
section LAW
variable {p : Program} {l : Launch} {e : Env} {s : State} {m : MethodId} {below : List Frame} {meth : Method} {c : Code} {H : Heap} {locs : List Loc} {Q : State → Prop} {ls : Array Slot} {D : va_G} {dA : Nat → ClassId} {ad : Nat → Nat} {I : fl_TI} {J : fl_TJ} {b L i : Nat} {xs : Nat → Int32}
set_option maxHeartbeats 1000000 in
set_option maxRecDepth 100000 in
theorem law_unknowns (X : CallFix p m c cL_law 4 s #[.ref b] fl_tb RL) (hX : va_X b L xs s s.heap) (hbl : b < s.heap.size) (hi : i + 6 ≤ L) (hL : L ≤ 3072) (hI : fl_I D dA ad 37 I J (fun q : Nat => s.heap.size ≤ q) s s.heap H locs) (hLI : LI I J) (hl : lv_has ls 4 [(0, .ref b), (1, .ref (ad 0)), (2, .ref (ad 30)), (3, .int (nI i))])
    (kk : ∀ (I' : fl_TI) (J' : fl_TJ) (H1 : Heap) (locs1 : List Loc), fl_I D dA ad 37 I' J' (fun q : Nat => s.heap.size ≤ q) s s.heap H1 locs1 → LI I' J' → W p l e room_1 s m #[.ref b] below meth c H1 locs1 37 247 Q (F0 m 535 ls [])) : W p l e room_1 s m #[.ref b] below meth c H locs 37 247 Q (F0 m 112 ls []) := by
  have hx := X.1
  have hb := X.2.1
  have hbA : ¬ (fun q : Nat => s.heap.size ≤ q) b := Nat.not_le.mpr hbl
  obtain ⟨a, I1, J1, P1, P2, f1, p1, f2, p2⟩ := s_unknowns (D := D) (dA := dA) (ad := ad) hLI (xs (nI (i + 1)).toNatClampNeg)
  refine lv_aload_n hx hb dL_law_112 rfl (lv_at hl 1 rfl) ?_
  refine lv_aload_n hx hb dL_law_113 rfl (lv_at hl 0 rfl) ?_
  refine lv_iload_n hx hb dL_law_114 rfl (lv_at hl 3 rfl) ?_
  refine lv_iconst (v := nI 1) hx hb dL_law_115 (by decide) ?_
  refine fn_iadd X dL_law_116 ?_
  refine va_sld hx hb hX hbl hbA hI.2.2.2.1 (vp_in_nI (show i + 1 < L by omega) (by omega)) dL_law_117 ?_
  refine fl_callVG (rest := []) (As := [.int (xs (nI (i + 1)).toNatClampNeg)]) (k := 0) (n := 1) X hI dL_law_118 f1 (by decide) fl_c_5 rfl rfl wc_yX1_unknowns wm_L_13 wi_yX1_unknowns wl_yX1_unknowns wn_X1 (by decide +kernel) rfl ⟨Nat.le_of_ble_eq_true rfl, Nat.le_of_ble_eq_true rfl⟩ ⟨Nat.le_of_ble_eq_true rfl, Nat.le_of_ble_eq_true rfl⟩ hl.1 (Nat.le_of_ble_eq_true rfl) (fun v I' J' H1 locs1 hp hI => ?_)
  obtain ⟨rfl, rfl, rfl⟩ := p1 v I' J' hp
  refine lv_aload_n hx hb dL_law_121 rfl (lv_at hl 2 rfl) ?_
  refine lv_aload_n hx hb dL_law_122 rfl (lv_at hl 0 rfl) ?_
  refine lv_iload_n hx hb dL_law_123 rfl (lv_at hl 3 rfl) ?_
  refine lv_iconst (v := nI 1) hx hb dL_law_124 (by decide) ?_
  refine fn_iadd X dL_law_125 ?_
  refine va_sld hx hb hX hbl hbA hI.2.2.2.1 (vp_in_nI (show i + 1 < L by omega) (by omega)) dL_law_126 ?_
  refine fl_callVG (rest := [.int a]) (As := [.int (xs (nI (i + 1)).toNatClampNeg)]) (k := 30) (n := 1) X hI dL_law_127 f2 (by decide) fl_c_6 rfl rfl wc_yX2_unknowns wm_L_17 wi_yX2_unknowns wl_yX2_unknowns wn_X2 (by decide +kernel) rfl ⟨Nat.le_of_ble_eq_true rfl, Nat.le_of_ble_eq_true rfl⟩ ⟨Nat.le_of_ble_eq_true rfl, Nat.le_of_ble_eq_true rfl⟩ hl.1 (Nat.le_of_ble_eq_true rfl) (fun v I' J' H1 locs1 hp hI => ?_)
  obtain ⟨rfl, hLI2⟩ := p2 v I' J' hp
  exact lv_icmp_eq (tgt := 535) hx hb dL_law_130 (by decide) (fun _ => kk _ _ _ _ hI hLI2) (fun q => absurd rfl q)
set_option maxHeartbeats 1000000 in
set_option maxRecDepth 100000 in
theorem law_equation (X : CallFix p m c cL_law 4 s #[.ref b] fl_tb RL) (hX : va_X b L xs s s.heap) (hbl : b < s.heap.size) (hi : i + 6 ≤ L) (hL : L ≤ 3072) (hI : fl_I D dA ad 37 I J (fun q : Nat => s.heap.size ≤ q) s s.heap H locs) (hLI : LI I J) (hl : lv_has ls 4 [(0, .ref b), (1, .ref (ad 0)), (2, .ref (ad 30)), (3, .int (nI i))])
    (kk : ∀ (I' : fl_TI) (J' : fl_TJ) (H1 : Heap) (locs1 : List Loc), fl_I D dA ad 37 I' J' (fun q : Nat => s.heap.size ≤ q) s s.heap H1 locs1 → LI I' J' → W p l e room_1 s m #[.ref b] below meth c H1 locs1 37 247 Q (F0 m 535 ls [])) : W p l e room_1 s m #[.ref b] below meth c H locs 37 247 Q (F0 m 135 ls []) := by
  have hx := X.1
  have hb := X.2.1
  have hbA : ¬ (fun q : Nat => s.heap.size ≤ q) b := Nat.not_le.mpr hbl
  obtain ⟨a, I1, J1, P1, P2, f1, p1, f2, p2⟩ := s_equation (D := D) (dA := dA) (ad := ad) hLI (xs (nI (i + 1)).toNatClampNeg) (xs (nI (i + 2)).toNatClampNeg) (xs (nI (i + 3)).toNatClampNeg) (xs (nI (i + 4)).toNatClampNeg) (xs (nI (i + 5)).toNatClampNeg)
  refine lv_aload_n hx hb dL_law_135 rfl (lv_at hl 1 rfl) ?_
  refine lv_aload_n hx hb dL_law_136 rfl (lv_at hl 0 rfl) ?_
  refine lv_iload_n hx hb dL_law_137 rfl (lv_at hl 3 rfl) ?_
  refine lv_iconst (v := nI 1) hx hb dL_law_138 (by decide) ?_
  refine fn_iadd X dL_law_139 ?_
  refine va_sld hx hb hX hbl hbA hI.2.2.2.1 (vp_in_nI (show i + 1 < L by omega) (by omega)) dL_law_140 ?_
  refine lv_aload_n hx hb dL_law_141 rfl (lv_at hl 0 rfl) ?_
  refine lv_iload_n hx hb dL_law_142 rfl (lv_at hl 3 rfl) ?_
  refine lv_iconst (v := nI 2) hx hb dL_law_143 (by decide) ?_
  refine fn_iadd X dL_law_144 ?_
  refine va_sld hx hb hX hbl hbA hI.2.2.2.1 (vp_in_nI (show i + 2 < L by omega) (by omega)) dL_law_145 ?_
  refine lv_aload_n hx hb dL_law_146 rfl (lv_at hl 0 rfl) ?_
  refine lv_iload_n hx hb dL_law_147 rfl (lv_at hl 3 rfl) ?_
  refine lv_iconst (v := nI 3) hx hb dL_law_148 (by decide) ?_
  refine fn_iadd X dL_law_149 ?_
  refine va_sld hx hb hX hbl hbA hI.2.2.2.1 (vp_in_nI (show i + 3 < L by omega) (by omega)) dL_law_150 ?_
  refine lv_aload_n hx hb dL_law_151 rfl (lv_at hl 0 rfl) ?_
  refine lv_iload_n hx hb dL_law_152 rfl (lv_at hl 3 rfl) ?_
  refine lv_iconst (v := nI 4) hx hb dL_law_153 (by decide) ?_
  refine fn_iadd X dL_law_154 ?_
  refine va_sld hx hb hX hbl hbA hI.2.2.2.1 (vp_in_nI (show i + 4 < L by omega) (by omega)) dL_law_155 ?_
  refine lv_aload_n hx hb dL_law_156 rfl (lv_at hl 0 rfl) ?_
  refine lv_iload_n hx hb dL_law_157 rfl (lv_at hl 3 rfl) ?_
  refine lv_iconst (v := nI 5) hx hb dL_law_158 (by decide) ?_
  refine fn_iadd X dL_law_159 ?_
  refine va_sld hx hb hX hbl hbA hI.2.2.2.1 (vp_in_nI (show i + 5 < L by omega) (by omega)) dL_law_160 ?_
  refine fl_callVG (rest := []) (As := [.int (xs (nI (i + 1)).toNatClampNeg), .int (xs (nI (i + 2)).toNatClampNeg), .int (xs (nI (i + 3)).toNatClampNeg), .int (xs (nI (i + 4)).toNatClampNeg), .int (xs (nI (i + 5)).toNatClampNeg)]) (k := 0) (n := 5) X hI dL_law_161 f1 (by decide) fl_c_5 rfl rfl wc_yX1_equation wm_L_18 wi_yX1_equation wl_yX1_equation wn_X1 (by decide +kernel) rfl ⟨Nat.le_of_ble_eq_true rfl, Nat.le_of_ble_eq_true rfl⟩ ⟨Nat.le_of_ble_eq_true rfl, Nat.le_of_ble_eq_true rfl⟩ hl.1 (Nat.le_of_ble_eq_true rfl) (fun v I' J' H1 locs1 hp hI => ?_)
  obtain ⟨rfl, rfl, rfl⟩ := p1 v I' J' hp
  refine lv_aload_n hx hb dL_law_164 rfl (lv_at hl 2 rfl) ?_
  refine lv_aload_n hx hb dL_law_165 rfl (lv_at hl 0 rfl) ?_
  refine lv_iload_n hx hb dL_law_166 rfl (lv_at hl 3 rfl) ?_
  refine lv_iconst (v := nI 1) hx hb dL_law_167 (by decide) ?_
  refine fn_iadd X dL_law_168 ?_
  refine va_sld hx hb hX hbl hbA hI.2.2.2.1 (vp_in_nI (show i + 1 < L by omega) (by omega)) dL_law_169 ?_
  refine lv_aload_n hx hb dL_law_170 rfl (lv_at hl 0 rfl) ?_
  refine lv_iload_n hx hb dL_law_171 rfl (lv_at hl 3 rfl) ?_
  refine lv_iconst (v := nI 2) hx hb dL_law_172 (by decide) ?_
  refine fn_iadd X dL_law_173 ?_
  refine va_sld hx hb hX hbl hbA hI.2.2.2.1 (vp_in_nI (show i + 2 < L by omega) (by omega)) dL_law_174 ?_
  refine lv_aload_n hx hb dL_law_175 rfl (lv_at hl 0 rfl) ?_
  refine lv_iload_n hx hb dL_law_176 rfl (lv_at hl 3 rfl) ?_
  refine lv_iconst (v := nI 3) hx hb dL_law_177 (by decide) ?_
  refine fn_iadd X dL_law_178 ?_
  refine va_sld hx hb hX hbl hbA hI.2.2.2.1 (vp_in_nI (show i + 3 < L by omega) (by omega)) dL_law_179 ?_
  refine lv_aload_n hx hb dL_law_180 rfl (lv_at hl 0 rfl) ?_
  refine lv_iload_n hx hb dL_law_181 rfl (lv_at hl 3 rfl) ?_
  refine lv_iconst (v := nI 4) hx hb dL_law_182 (by decide) ?_
  refine fn_iadd X dL_law_183 ?_
  refine va_sld hx hb hX hbl hbA hI.2.2.2.1 (vp_in_nI (show i + 4 < L by omega) (by omega)) dL_law_184 ?_
  refine lv_aload_n hx hb dL_law_185 rfl (lv_at hl 0 rfl) ?_
  refine lv_iload_n hx hb dL_law_186 rfl (lv_at hl 3 rfl) ?_
  refine lv_iconst (v := nI 5) hx hb dL_law_187 (by decide) ?_
  refine fn_iadd X dL_law_188 ?_
  refine va_sld hx hb hX hbl hbA hI.2.2.2.1 (vp_in_nI (show i + 5 < L by omega) (by omega)) dL_law_189 ?_
  refine fl_callVG (rest := [.int a]) (As := [.int (xs (nI (i + 1)).toNatClampNeg), .int (xs (nI (i + 2)).toNatClampNeg), .int (xs (nI (i + 3)).toNatClampNeg), .int (xs (nI (i + 4)).toNatClampNeg), .int (xs (nI (i + 5)).toNatClampNeg)]) (k := 30) (n := 5) X hI dL_law_190 f2 (by decide) fl_c_6 rfl rfl wc_yX2_equation wm_L_22 wi_yX2_equation wl_yX2_equation wn_X2 (by decide +kernel) rfl ⟨Nat.le_of_ble_eq_true rfl, Nat.le_of_ble_eq_true rfl⟩ ⟨Nat.le_of_ble_eq_true rfl, Nat.le_of_ble_eq_true rfl⟩ hl.1 (Nat.le_of_ble_eq_true rfl) (fun v I' J' H1 locs1 hp hI => ?_)
  obtain ⟨rfl, hLI2⟩ := p2 v I' J' hp
  exact lv_icmp_eq (tgt := 535) hx hb dL_law_193 (by decide) (fun _ => kk _ _ _ _ hI hLI2) (fun q => absurd rfl q)
set_option maxHeartbeats 1000000 in
set_option maxRecDepth 100000 in
theorem law_sum (X : CallFix p m c cL_law 4 s #[.ref b] fl_tb RL) (hX : va_X b L xs s s.heap) (hbl : b < s.heap.size) (hi : i + 6 ≤ L) (hL : L ≤ 3072) (hI : fl_I D dA ad 37 I J (fun q : Nat => s.heap.size ≤ q) s s.heap H locs) (hLI : LI I J) (hl : lv_has ls 4 [(0, .ref b), (1, .ref (ad 0)), (2, .ref (ad 30)), (3, .int (nI i))])
    (kk : ∀ (I' : fl_TI) (J' : fl_TJ) (H1 : Heap) (locs1 : List Loc), fl_I D dA ad 37 I' J' (fun q : Nat => s.heap.size ≤ q) s s.heap H1 locs1 → LI I' J' → W p l e room_1 s m #[.ref b] below meth c H1 locs1 37 247 Q (F0 m 535 ls [])) : W p l e room_1 s m #[.ref b] below meth c H locs 37 247 Q (F0 m 198 ls []) := by
  have hx := X.1
  have hb := X.2.1
  have hbA : ¬ (fun q : Nat => s.heap.size ≤ q) b := Nat.not_le.mpr hbl
  obtain ⟨a, I1, J1, P1, P2, f1, p1, f2, p2⟩ := s_sum (D := D) (dA := dA) (ad := ad) hLI (xs (nI (i + 1)).toNatClampNeg) (xs (nI (i + 2)).toNatClampNeg)
  refine lv_aload_n hx hb dL_law_198 rfl (lv_at hl 1 rfl) ?_
  refine lv_aload_n hx hb dL_law_199 rfl (lv_at hl 0 rfl) ?_
  refine lv_iload_n hx hb dL_law_200 rfl (lv_at hl 3 rfl) ?_
  refine lv_iconst (v := nI 1) hx hb dL_law_201 (by decide) ?_
  refine fn_iadd X dL_law_202 ?_
  refine va_sld hx hb hX hbl hbA hI.2.2.2.1 (vp_in_nI (show i + 1 < L by omega) (by omega)) dL_law_203 ?_
  refine lv_aload_n hx hb dL_law_204 rfl (lv_at hl 0 rfl) ?_
  refine lv_iload_n hx hb dL_law_205 rfl (lv_at hl 3 rfl) ?_
  refine lv_iconst (v := nI 2) hx hb dL_law_206 (by decide) ?_
  refine fn_iadd X dL_law_207 ?_
  refine va_sld hx hb hX hbl hbA hI.2.2.2.1 (vp_in_nI (show i + 2 < L by omega) (by omega)) dL_law_208 ?_
  refine fl_callVG (rest := []) (As := [.int (xs (nI (i + 1)).toNatClampNeg), .int (xs (nI (i + 2)).toNatClampNeg)]) (k := 0) (n := 2) X hI dL_law_209 f1 (by decide) fl_c_5 rfl rfl wc_yX1_sum wm_L_23 wi_yX1_sum wl_yX1_sum wn_X1 (by decide +kernel) rfl ⟨Nat.le_of_ble_eq_true rfl, Nat.le_of_ble_eq_true rfl⟩ ⟨Nat.le_of_ble_eq_true rfl, Nat.le_of_ble_eq_true rfl⟩ hl.1 (Nat.le_of_ble_eq_true rfl) (fun v I' J' H1 locs1 hp hI => ?_)
  obtain ⟨rfl, rfl, rfl⟩ := p1 v I' J' hp
  refine lv_aload_n hx hb dL_law_212 rfl (lv_at hl 2 rfl) ?_
  refine lv_aload_n hx hb dL_law_213 rfl (lv_at hl 0 rfl) ?_
  refine lv_iload_n hx hb dL_law_214 rfl (lv_at hl 3 rfl) ?_
  refine lv_iconst (v := nI 1) hx hb dL_law_215 (by decide) ?_
  refine fn_iadd X dL_law_216 ?_
  refine va_sld hx hb hX hbl hbA hI.2.2.2.1 (vp_in_nI (show i + 1 < L by omega) (by omega)) dL_law_217 ?_
  refine lv_aload_n hx hb dL_law_218 rfl (lv_at hl 0 rfl) ?_
  refine lv_iload_n hx hb dL_law_219 rfl (lv_at hl 3 rfl) ?_
  refine lv_iconst (v := nI 2) hx hb dL_law_220 (by decide) ?_
  refine fn_iadd X dL_law_221 ?_
  refine va_sld hx hb hX hbl hbA hI.2.2.2.1 (vp_in_nI (show i + 2 < L by omega) (by omega)) dL_law_222 ?_
  refine fl_callVG (rest := [.int a]) (As := [.int (xs (nI (i + 1)).toNatClampNeg), .int (xs (nI (i + 2)).toNatClampNeg)]) (k := 30) (n := 2) X hI dL_law_223 f2 (by decide) fl_c_6 rfl rfl wc_yX2_sum wm_L_27 wi_yX2_sum wl_yX2_sum wn_X2 (by decide +kernel) rfl ⟨Nat.le_of_ble_eq_true rfl, Nat.le_of_ble_eq_true rfl⟩ ⟨Nat.le_of_ble_eq_true rfl, Nat.le_of_ble_eq_true rfl⟩ hl.1 (Nat.le_of_ble_eq_true rfl) (fun v I' J' H1 locs1 hp hI => ?_)
  obtain ⟨rfl, hLI2⟩ := p2 v I' J' hp
  exact lv_icmp_eq (tgt := 535) hx hb dL_law_226 (by decide) (fun _ => kk _ _ _ _ hI hLI2) (fun q => absurd rfl q)
set_option maxHeartbeats 1000000 in
set_option maxRecDepth 100000 in
theorem law_drop (X : CallFix p m c cL_law 4 s #[.ref b] fl_tb RL) (hX : va_X b L xs s s.heap) (hbl : b < s.heap.size) (hi : i + 6 ≤ L) (hL : L ≤ 3072) (hI : fl_I D dA ad 37 I J (fun q : Nat => s.heap.size ≤ q) s s.heap H locs) (hLI : LI I J) (hl : lv_has ls 4 [(0, .ref b), (1, .ref (ad 0)), (2, .ref (ad 30)), (3, .int (nI i))])
    (kk : ∀ (I' : fl_TI) (J' : fl_TJ) (H1 : Heap) (locs1 : List Loc), fl_I D dA ad 37 I' J' (fun q : Nat => s.heap.size ≤ q) s s.heap H1 locs1 → LI I' J' → W p l e room_1 s m #[.ref b] below meth c H1 locs1 37 247 Q (F0 m 535 ls [])) : W p l e room_1 s m #[.ref b] below meth c H locs 37 247 Q (F0 m 231 ls []) := by
  have hx := X.1
  have hb := X.2.1
  have hbA : ¬ (fun q : Nat => s.heap.size ≤ q) b := Nat.not_le.mpr hbl
  obtain ⟨a, I1, J1, P1, P2, f1, p1, f2, p2⟩ := s_drop (D := D) (dA := dA) (ad := ad) hLI
  refine lv_aload_n hx hb dL_law_231 rfl (lv_at hl 1 rfl) ?_
  refine fl_callVG (rest := []) (As := []) (k := 0) (n := 0) X hI dL_law_232 f1 (by decide) fl_c_5 rfl rfl wc_yX1_drop wm_L_28 wi_yX1_drop wl_yX1_drop wn_X1 (by decide +kernel) rfl ⟨Nat.le_of_ble_eq_true rfl, Nat.le_of_ble_eq_true rfl⟩ ⟨Nat.le_of_ble_eq_true rfl, Nat.le_of_ble_eq_true rfl⟩ hl.1 (Nat.le_of_ble_eq_true rfl) (fun v I' J' H1 locs1 hp hI => ?_)
  obtain ⟨rfl, rfl, rfl⟩ := p1 v I' J' hp
  refine lv_aload_n hx hb dL_law_235 rfl (lv_at hl 2 rfl) ?_
  refine fl_callVG (rest := [.int a]) (As := []) (k := 30) (n := 0) X hI dL_law_236 f2 (by decide) fl_c_6 rfl rfl wc_yX2_drop wm_L_32 wi_yX2_drop wl_yX2_drop wn_X2 (by decide +kernel) rfl ⟨Nat.le_of_ble_eq_true rfl, Nat.le_of_ble_eq_true rfl⟩ ⟨Nat.le_of_ble_eq_true rfl, Nat.le_of_ble_eq_true rfl⟩ hl.1 (Nat.le_of_ble_eq_true rfl) (fun v I' J' H1 locs1 hp hI => ?_)
  obtain ⟨rfl, hLI2⟩ := p2 v I' J' hp
  exact lv_icmp_eq (tgt := 535) hx hb dL_law_239 (by decide) (fun _ => kk _ _ _ _ hI hLI2) (fun q => absurd rfl q)
set_option maxHeartbeats 1000000 in
set_option maxRecDepth 100000 in
theorem law_solve (X : CallFix p m c cL_law 4 s #[.ref b] fl_tb RL) (hX : va_X b L xs s s.heap) (hbl : b < s.heap.size) (hi : i + 6 ≤ L) (hL : L ≤ 3072) (hI : fl_I D dA ad 37 I J (fun q : Nat => s.heap.size ≤ q) s s.heap H locs) (hLI : LI I J) (hl : lv_has ls 4 [(0, .ref b), (1, .ref (ad 0)), (2, .ref (ad 30)), (3, .int (nI i))])
    (kk : ∀ (I' : fl_TI) (J' : fl_TJ) (H1 : Heap) (locs1 : List Loc), fl_I D dA ad 37 I' J' (fun q : Nat => s.heap.size ≤ q) s s.heap H1 locs1 → LI I' J' → W p l e room_1 s m #[.ref b] below meth c H1 locs1 37 247 Q (F0 m 535 ls [])) : W p l e room_1 s m #[.ref b] below meth c H locs 37 247 Q (F0 m 244 ls []) := by
  have hx := X.1
  have hb := X.2.1
  have hbA : ¬ (fun q : Nat => s.heap.size ≤ q) b := Nat.not_le.mpr hbl
  obtain ⟨a, I1, J1, P1, P2, f1, p1, f2, p2⟩ := s_solve (D := D) (dA := dA) (ad := ad) hLI
  refine lv_aload_n hx hb dL_law_244 rfl (lv_at hl 1 rfl) ?_
  refine fl_callVG (rest := []) (As := []) (k := 0) (n := 0) X hI dL_law_245 f1 (by decide) fl_c_5 rfl rfl wc_yX1_solve wm_L_33 wi_yX1_solve wl_yX1_solve wn_X1 (by decide +kernel) rfl ⟨Nat.le_of_ble_eq_true rfl, Nat.le_of_ble_eq_true rfl⟩ ⟨Nat.le_of_ble_eq_true rfl, Nat.le_of_ble_eq_true rfl⟩ hl.1 (Nat.le_of_ble_eq_true rfl) (fun v I' J' H1 locs1 hp hI => ?_)
  obtain ⟨rfl, rfl, rfl⟩ := p1 v I' J' hp
  refine lv_aload_n hx hb dL_law_248 rfl (lv_at hl 2 rfl) ?_
  refine fl_callVG (rest := [.int a]) (As := []) (k := 30) (n := 0) X hI dL_law_249 f2 (by decide) fl_c_6 rfl rfl wc_yX2_solve wm_L_36 wi_yX2_solve wl_yX2_solve wn_X2 (by decide +kernel) rfl ⟨Nat.le_of_ble_eq_true rfl, Nat.le_of_ble_eq_true rfl⟩ ⟨Nat.le_of_ble_eq_true rfl, Nat.le_of_ble_eq_true rfl⟩ hl.1 (Nat.le_of_ble_eq_true rfl) (fun v I' J' H1 locs1 hp hI => ?_)
  obtain ⟨rfl, hLI2⟩ := p2 v I' J' hp
  exact lv_icmp_eq (tgt := 535) hx hb dL_law_252 (by decide) (fun _ => kk _ _ _ _ hI hLI2) (fun q => absurd rfl q)
set_option maxHeartbeats 1000000 in
set_option maxRecDepth 100000 in
theorem law_fails (X : CallFix p m c cL_law 4 s #[.ref b] fl_tb RL) (hX : va_X b L xs s s.heap) (hbl : b < s.heap.size) (hi : i + 6 ≤ L) (hL : L ≤ 3072) (hI : fl_I D dA ad 37 I J (fun q : Nat => s.heap.size ≤ q) s s.heap H locs) (hLI : LI I J) (hl : lv_has ls 4 [(0, .ref b), (1, .ref (ad 0)), (2, .ref (ad 30)), (3, .int (nI i))])
    (kk : ∀ (I' : fl_TI) (J' : fl_TJ) (H1 : Heap) (locs1 : List Loc), fl_I D dA ad 37 I' J' (fun q : Nat => s.heap.size ≤ q) s s.heap H1 locs1 → LI I' J' → W p l e room_1 s m #[.ref b] below meth c H1 locs1 37 247 Q (F0 m 535 ls [])) : W p l e room_1 s m #[.ref b] below meth c H locs 37 247 Q (F0 m 257 ls []) := by
  have hx := X.1
  have hb := X.2.1
  have hbA : ¬ (fun q : Nat => s.heap.size ≤ q) b := Nat.not_le.mpr hbl
  obtain ⟨a, I1, J1, P1, P2, f1, p1, f2, p2⟩ := s_fails (D := D) (dA := dA) (ad := ad) hLI
  refine lv_aload_n hx hb dL_law_257 rfl (lv_at hl 1 rfl) ?_
  refine fl_callVG (rest := []) (As := []) (k := 0) (n := 0) X hI dL_law_258 f1 (by decide) fl_c_5 rfl rfl wc_yX1_fails wm_L_37 wi_yX1_fails wl_yX1_fails wn_X1 (by decide +kernel) rfl ⟨Nat.le_of_ble_eq_true rfl, Nat.le_of_ble_eq_true rfl⟩ ⟨Nat.le_of_ble_eq_true rfl, Nat.le_of_ble_eq_true rfl⟩ hl.1 (Nat.le_of_ble_eq_true rfl) (fun v I' J' H1 locs1 hp hI => ?_)
  obtain ⟨rfl, rfl, rfl⟩ := p1 v I' J' hp
  refine lv_aload_n hx hb dL_law_261 rfl (lv_at hl 2 rfl) ?_
  refine fl_callVG (rest := [.int a]) (As := []) (k := 30) (n := 0) X hI dL_law_262 f2 (by decide) fl_c_6 rfl rfl wc_yX2_fails wm_L_40 wi_yX2_fails wl_yX2_fails wn_X2 (by decide +kernel) rfl ⟨Nat.le_of_ble_eq_true rfl, Nat.le_of_ble_eq_true rfl⟩ ⟨Nat.le_of_ble_eq_true rfl, Nat.le_of_ble_eq_true rfl⟩ hl.1 (Nat.le_of_ble_eq_true rfl) (fun v I' J' H1 locs1 hp hI => ?_)
  obtain ⟨rfl, hLI2⟩ := p2 v I' J' hp
  exact lv_icmp_eq (tgt := 535) hx hb dL_law_265 (by decide) (fun _ => kk _ _ _ _ hI hLI2) (fun q => absurd rfl q)
set_option maxHeartbeats 1000000 in
set_option maxRecDepth 100000 in
theorem law_solution (X : CallFix p m c cL_law 4 s #[.ref b] fl_tb RL) (hX : va_X b L xs s s.heap) (hbl : b < s.heap.size) (hi : i + 6 ≤ L) (hL : L ≤ 3072) (hI : fl_I D dA ad 37 I J (fun q : Nat => s.heap.size ≤ q) s s.heap H locs) (hLI : LI I J) (hl : lv_has ls 4 [(0, .ref b), (1, .ref (ad 0)), (2, .ref (ad 30)), (3, .int (nI i))])
    (kk : ∀ (I' : fl_TI) (J' : fl_TJ) (H1 : Heap) (locs1 : List Loc), fl_I D dA ad 37 I' J' (fun q : Nat => s.heap.size ≤ q) s s.heap H1 locs1 → LI I' J' → W p l e room_1 s m #[.ref b] below meth c H1 locs1 37 247 Q (F0 m 535 ls [])) : W p l e room_1 s m #[.ref b] below meth c H locs 37 247 Q (F0 m 270 ls []) := by
  have hx := X.1
  have hb := X.2.1
  have hbA : ¬ (fun q : Nat => s.heap.size ≤ q) b := Nat.not_le.mpr hbl
  obtain ⟨a, I1, J1, P1, P2, f1, p1, f2, p2⟩ := s_solution (D := D) (dA := dA) (ad := ad) hLI (xs (nI (i + 1)).toNatClampNeg)
  refine lv_aload_n hx hb dL_law_270 rfl (lv_at hl 1 rfl) ?_
  refine lv_aload_n hx hb dL_law_271 rfl (lv_at hl 0 rfl) ?_
  refine lv_iload_n hx hb dL_law_272 rfl (lv_at hl 3 rfl) ?_
  refine lv_iconst (v := nI 1) hx hb dL_law_273 (by decide) ?_
  refine fn_iadd X dL_law_274 ?_
  refine va_sld hx hb hX hbl hbA hI.2.2.2.1 (vp_in_nI (show i + 1 < L by omega) (by omega)) dL_law_275 ?_
  refine fl_callVG (rest := []) (As := [.int (xs (nI (i + 1)).toNatClampNeg)]) (k := 0) (n := 1) X hI dL_law_276 f1 (by decide) fl_c_5 rfl rfl wc_yX1_solution wm_L_41 wi_yX1_solution wl_yX1_solution wn_X1 (by decide +kernel) rfl ⟨Nat.le_of_ble_eq_true rfl, Nat.le_of_ble_eq_true rfl⟩ ⟨Nat.le_of_ble_eq_true rfl, Nat.le_of_ble_eq_true rfl⟩ hl.1 (Nat.le_of_ble_eq_true rfl) (fun v I' J' H1 locs1 hp hI => ?_)
  obtain ⟨rfl, rfl, rfl⟩ := p1 v I' J' hp
  refine lv_aload_n hx hb dL_law_279 rfl (lv_at hl 2 rfl) ?_
  refine lv_aload_n hx hb dL_law_280 rfl (lv_at hl 0 rfl) ?_
  refine lv_iload_n hx hb dL_law_281 rfl (lv_at hl 3 rfl) ?_
  refine lv_iconst (v := nI 1) hx hb dL_law_282 (by decide) ?_
  refine fn_iadd X dL_law_283 ?_
  refine va_sld hx hb hX hbl hbA hI.2.2.2.1 (vp_in_nI (show i + 1 < L by omega) (by omega)) dL_law_284 ?_
  refine fl_callVG (rest := [.long a]) (As := [.int (xs (nI (i + 1)).toNatClampNeg)]) (k := 30) (n := 1) X hI dL_law_285 f2 (by decide) fl_c_6 rfl rfl wc_yX2_solution wm_L_45 wi_yX2_solution wl_yX2_solution wn_X2 (by decide +kernel) rfl ⟨Nat.le_of_ble_eq_true rfl, Nat.le_of_ble_eq_true rfl⟩ ⟨Nat.le_of_ble_eq_true rfl, Nat.le_of_ble_eq_true rfl⟩ hl.1 (Nat.le_of_ble_eq_true rfl) (fun v I' J' H1 locs1 hp hI => ?_)
  obtain ⟨rfl, hLI2⟩ := p2 v I' J' hp
  exact fl_lc_eq (tgt := 535) hx hb dL_law_288 dL_law_289 (by decide) (fun _ => kk _ _ _ _ hI hLI2) (fun q => absurd rfl q)
set_option maxHeartbeats 1000000 in
set_option maxRecDepth 100000 in
theorem law_basis (X : CallFix p m c cL_law 4 s #[.ref b] fl_tb RL) (hX : va_X b L xs s s.heap) (hbl : b < s.heap.size) (hi : i + 6 ≤ L) (hL : L ≤ 3072) (hI : fl_I D dA ad 37 I J (fun q : Nat => s.heap.size ≤ q) s s.heap H locs) (hLI : LI I J) (hl : lv_has ls 4 [(0, .ref b), (1, .ref (ad 0)), (2, .ref (ad 30)), (3, .int (nI i))])
    (kk : ∀ (I' : fl_TI) (J' : fl_TJ) (H1 : Heap) (locs1 : List Loc), fl_I D dA ad 37 I' J' (fun q : Nat => s.heap.size ≤ q) s s.heap H1 locs1 → LI I' J' → W p l e room_1 s m #[.ref b] below meth c H1 locs1 37 247 Q (F0 m 535 ls [])) : W p l e room_1 s m #[.ref b] below meth c H locs 37 247 Q (F0 m 294 ls []) := by
  have hx := X.1
  have hb := X.2.1
  have hbA : ¬ (fun q : Nat => s.heap.size ≤ q) b := Nat.not_le.mpr hbl
  obtain ⟨a, I1, J1, P1, P2, f1, p1, f2, p2⟩ := s_basis (D := D) (dA := dA) (ad := ad) hLI (xs (nI (i + 1)).toNatClampNeg) (xs (nI (i + 2)).toNatClampNeg)
  refine lv_aload_n hx hb dL_law_294 rfl (lv_at hl 1 rfl) ?_
  refine lv_aload_n hx hb dL_law_295 rfl (lv_at hl 0 rfl) ?_
  refine lv_iload_n hx hb dL_law_296 rfl (lv_at hl 3 rfl) ?_
  refine lv_iconst (v := nI 1) hx hb dL_law_297 (by decide) ?_
  refine fn_iadd X dL_law_298 ?_
  refine va_sld hx hb hX hbl hbA hI.2.2.2.1 (vp_in_nI (show i + 1 < L by omega) (by omega)) dL_law_299 ?_
  refine lv_aload_n hx hb dL_law_300 rfl (lv_at hl 0 rfl) ?_
  refine lv_iload_n hx hb dL_law_301 rfl (lv_at hl 3 rfl) ?_
  refine lv_iconst (v := nI 2) hx hb dL_law_302 (by decide) ?_
  refine fn_iadd X dL_law_303 ?_
  refine va_sld hx hb hX hbl hbA hI.2.2.2.1 (vp_in_nI (show i + 2 < L by omega) (by omega)) dL_law_304 ?_
  refine fl_callVG (rest := []) (As := [.int (xs (nI (i + 1)).toNatClampNeg), .int (xs (nI (i + 2)).toNatClampNeg)]) (k := 0) (n := 2) X hI dL_law_305 f1 (by decide) fl_c_5 rfl rfl wc_yX1_basis wm_L_46 wi_yX1_basis wl_yX1_basis wn_X1 (by decide +kernel) rfl ⟨Nat.le_of_ble_eq_true rfl, Nat.le_of_ble_eq_true rfl⟩ ⟨Nat.le_of_ble_eq_true rfl, Nat.le_of_ble_eq_true rfl⟩ hl.1 (Nat.le_of_ble_eq_true rfl) (fun v I' J' H1 locs1 hp hI => ?_)
  obtain ⟨rfl, rfl, rfl⟩ := p1 v I' J' hp
  refine lv_aload_n hx hb dL_law_308 rfl (lv_at hl 2 rfl) ?_
  refine lv_aload_n hx hb dL_law_309 rfl (lv_at hl 0 rfl) ?_
  refine lv_iload_n hx hb dL_law_310 rfl (lv_at hl 3 rfl) ?_
  refine lv_iconst (v := nI 1) hx hb dL_law_311 (by decide) ?_
  refine fn_iadd X dL_law_312 ?_
  refine va_sld hx hb hX hbl hbA hI.2.2.2.1 (vp_in_nI (show i + 1 < L by omega) (by omega)) dL_law_313 ?_
  refine lv_aload_n hx hb dL_law_314 rfl (lv_at hl 0 rfl) ?_
  refine lv_iload_n hx hb dL_law_315 rfl (lv_at hl 3 rfl) ?_
  refine lv_iconst (v := nI 2) hx hb dL_law_316 (by decide) ?_
  refine fn_iadd X dL_law_317 ?_
  refine va_sld hx hb hX hbl hbA hI.2.2.2.1 (vp_in_nI (show i + 2 < L by omega) (by omega)) dL_law_318 ?_
  refine fl_callVG (rest := [.long a]) (As := [.int (xs (nI (i + 1)).toNatClampNeg), .int (xs (nI (i + 2)).toNatClampNeg)]) (k := 30) (n := 2) X hI dL_law_319 f2 (by decide) fl_c_6 rfl rfl wc_yX2_basis wm_L_50 wi_yX2_basis wl_yX2_basis wn_X2 (by decide +kernel) rfl ⟨Nat.le_of_ble_eq_true rfl, Nat.le_of_ble_eq_true rfl⟩ ⟨Nat.le_of_ble_eq_true rfl, Nat.le_of_ble_eq_true rfl⟩ hl.1 (Nat.le_of_ble_eq_true rfl) (fun v I' J' H1 locs1 hp hI => ?_)
  obtain ⟨rfl, hLI2⟩ := p2 v I' J' hp
  exact fl_lc_eq (tgt := 535) hx hb dL_law_322 dL_law_323 (by decide) (fun _ => kk _ _ _ _ hI hLI2) (fun q => absurd rfl q)
set_option maxHeartbeats 1000000 in
set_option maxRecDepth 100000 in
theorem law_count (X : CallFix p m c cL_law 4 s #[.ref b] fl_tb RL) (hX : va_X b L xs s s.heap) (hbl : b < s.heap.size) (hi : i + 6 ≤ L) (hL : L ≤ 3072) (hI : fl_I D dA ad 37 I J (fun q : Nat => s.heap.size ≤ q) s s.heap H locs) (hLI : LI I J) (hl : lv_has ls 4 [(0, .ref b), (1, .ref (ad 0)), (2, .ref (ad 30)), (3, .int (nI i))])
    (kk : ∀ (I' : fl_TI) (J' : fl_TJ) (H1 : Heap) (locs1 : List Loc), fl_I D dA ad 37 I' J' (fun q : Nat => s.heap.size ≤ q) s s.heap H1 locs1 → LI I' J' → W p l e room_1 s m #[.ref b] below meth c H1 locs1 37 247 Q (F0 m 535 ls [])) : W p l e room_1 s m #[.ref b] below meth c H locs 37 247 Q (F0 m 328 ls []) := by
  have hx := X.1
  have hb := X.2.1
  have hbA : ¬ (fun q : Nat => s.heap.size ≤ q) b := Nat.not_le.mpr hbl
  obtain ⟨a, I1, J1, P1, P2, f1, p1, f2, p2⟩ := s_count (D := D) (dA := dA) (ad := ad) hLI (xs (nI (i + 1)).toNatClampNeg)
  refine lv_aload_n hx hb dL_law_328 rfl (lv_at hl 1 rfl) ?_
  refine lv_aload_n hx hb dL_law_329 rfl (lv_at hl 0 rfl) ?_
  refine lv_iload_n hx hb dL_law_330 rfl (lv_at hl 3 rfl) ?_
  refine lv_iconst (v := nI 1) hx hb dL_law_331 (by decide) ?_
  refine fn_iadd X dL_law_332 ?_
  refine va_sld hx hb hX hbl hbA hI.2.2.2.1 (vp_in_nI (show i + 1 < L by omega) (by omega)) dL_law_333 ?_
  refine fl_callVG (rest := []) (As := [.int (xs (nI (i + 1)).toNatClampNeg)]) (k := 0) (n := 1) X hI dL_law_334 f1 (by decide) fl_c_5 rfl rfl wc_yX1_count wm_L_51 wi_yX1_count wl_yX1_count wn_X1 (by decide +kernel) rfl ⟨Nat.le_of_ble_eq_true rfl, Nat.le_of_ble_eq_true rfl⟩ ⟨Nat.le_of_ble_eq_true rfl, Nat.le_of_ble_eq_true rfl⟩ hl.1 (Nat.le_of_ble_eq_true rfl) (fun v I' J' H1 locs1 hp hI => ?_)
  obtain ⟨rfl, rfl, rfl⟩ := p1 v I' J' hp
  refine lv_aload_n hx hb dL_law_337 rfl (lv_at hl 2 rfl) ?_
  refine lv_aload_n hx hb dL_law_338 rfl (lv_at hl 0 rfl) ?_
  refine lv_iload_n hx hb dL_law_339 rfl (lv_at hl 3 rfl) ?_
  refine lv_iconst (v := nI 1) hx hb dL_law_340 (by decide) ?_
  refine fn_iadd X dL_law_341 ?_
  refine va_sld hx hb hX hbl hbA hI.2.2.2.1 (vp_in_nI (show i + 1 < L by omega) (by omega)) dL_law_342 ?_
  refine fl_callVG (rest := [.int a]) (As := [.int (xs (nI (i + 1)).toNatClampNeg)]) (k := 30) (n := 1) X hI dL_law_343 f2 (by decide) fl_c_6 rfl rfl wc_yX2_count wm_L_54 wi_yX2_count wl_yX2_count wn_X2 (by decide +kernel) rfl ⟨Nat.le_of_ble_eq_true rfl, Nat.le_of_ble_eq_true rfl⟩ ⟨Nat.le_of_ble_eq_true rfl, Nat.le_of_ble_eq_true rfl⟩ hl.1 (Nat.le_of_ble_eq_true rfl) (fun v I' J' H1 locs1 hp hI => ?_)
  obtain ⟨rfl, hLI2⟩ := p2 v I' J' hp
  exact lv_icmp_eq (tgt := 535) hx hb dL_law_346 (by decide) (fun _ => kk _ _ _ _ hI hLI2) (fun q => absurd rfl q)
set_option maxHeartbeats 1000000 in
set_option maxRecDepth 100000 in
theorem law_reach (X : CallFix p m c cL_law 4 s #[.ref b] fl_tb RL) (hX : va_X b L xs s s.heap) (hbl : b < s.heap.size) (hi : i + 6 ≤ L) (hL : L ≤ 3072) (hI : fl_I D dA ad 37 I J (fun q : Nat => s.heap.size ≤ q) s s.heap H locs) (hLI : LI I J) (hl : lv_has ls 4 [(0, .ref b), (1, .ref (ad 0)), (2, .ref (ad 30)), (3, .int (nI i))])
    (kk : ∀ (I' : fl_TI) (J' : fl_TJ) (H1 : Heap) (locs1 : List Loc), fl_I D dA ad 37 I' J' (fun q : Nat => s.heap.size ≤ q) s s.heap H1 locs1 → LI I' J' → W p l e room_1 s m #[.ref b] below meth c H1 locs1 37 247 Q (F0 m 535 ls [])) : W p l e room_1 s m #[.ref b] below meth c H locs 37 247 Q (F0 m 351 ls []) := by
  have hx := X.1
  have hb := X.2.1
  have hbA : ¬ (fun q : Nat => s.heap.size ≤ q) b := Nat.not_le.mpr hbl
  obtain ⟨a, I1, J1, P1, P2, f1, p1, f2, p2⟩ := s_reach (D := D) (dA := dA) (ad := ad) hLI (xs (nI (i + 1)).toNatClampNeg) (xs (nI (i + 2)).toNatClampNeg)
  refine lv_aload_n hx hb dL_law_351 rfl (lv_at hl 1 rfl) ?_
  refine lv_aload_n hx hb dL_law_352 rfl (lv_at hl 0 rfl) ?_
  refine lv_iload_n hx hb dL_law_353 rfl (lv_at hl 3 rfl) ?_
  refine lv_iconst (v := nI 1) hx hb dL_law_354 (by decide) ?_
  refine fn_iadd X dL_law_355 ?_
  refine va_sld hx hb hX hbl hbA hI.2.2.2.1 (vp_in_nI (show i + 1 < L by omega) (by omega)) dL_law_356 ?_
  refine lv_aload_n hx hb dL_law_357 rfl (lv_at hl 0 rfl) ?_
  refine lv_iload_n hx hb dL_law_358 rfl (lv_at hl 3 rfl) ?_
  refine lv_iconst (v := nI 2) hx hb dL_law_359 (by decide) ?_
  refine fn_iadd X dL_law_360 ?_
  refine va_sld hx hb hX hbl hbA hI.2.2.2.1 (vp_in_nI (show i + 2 < L by omega) (by omega)) dL_law_361 ?_
  refine fl_callVG (rest := []) (As := [.int (xs (nI (i + 1)).toNatClampNeg), .int (xs (nI (i + 2)).toNatClampNeg)]) (k := 0) (n := 2) X hI dL_law_362 f1 (by decide) fl_c_5 rfl rfl wc_yX1_reach wm_L_55 wi_yX1_reach wl_yX1_reach wn_X1 (by decide +kernel) rfl ⟨Nat.le_of_ble_eq_true rfl, Nat.le_of_ble_eq_true rfl⟩ ⟨Nat.le_of_ble_eq_true rfl, Nat.le_of_ble_eq_true rfl⟩ hl.1 (Nat.le_of_ble_eq_true rfl) (fun v I' J' H1 locs1 hp hI => ?_)
  obtain ⟨rfl, rfl, rfl⟩ := p1 v I' J' hp
  refine lv_aload_n hx hb dL_law_365 rfl (lv_at hl 2 rfl) ?_
  refine lv_aload_n hx hb dL_law_366 rfl (lv_at hl 0 rfl) ?_
  refine lv_iload_n hx hb dL_law_367 rfl (lv_at hl 3 rfl) ?_
  refine lv_iconst (v := nI 1) hx hb dL_law_368 (by decide) ?_
  refine fn_iadd X dL_law_369 ?_
  refine va_sld hx hb hX hbl hbA hI.2.2.2.1 (vp_in_nI (show i + 1 < L by omega) (by omega)) dL_law_370 ?_
  refine lv_aload_n hx hb dL_law_371 rfl (lv_at hl 0 rfl) ?_
  refine lv_iload_n hx hb dL_law_372 rfl (lv_at hl 3 rfl) ?_
  refine lv_iconst (v := nI 2) hx hb dL_law_373 (by decide) ?_
  refine fn_iadd X dL_law_374 ?_
  refine va_sld hx hb hX hbl hbA hI.2.2.2.1 (vp_in_nI (show i + 2 < L by omega) (by omega)) dL_law_375 ?_
  refine fl_callVG (rest := [.long a]) (As := [.int (xs (nI (i + 1)).toNatClampNeg), .int (xs (nI (i + 2)).toNatClampNeg)]) (k := 30) (n := 2) X hI dL_law_376 f2 (by decide) fl_c_6 rfl rfl wc_yX2_reach wm_L_58 wi_yX2_reach wl_yX2_reach wn_X2 (by decide +kernel) rfl ⟨Nat.le_of_ble_eq_true rfl, Nat.le_of_ble_eq_true rfl⟩ ⟨Nat.le_of_ble_eq_true rfl, Nat.le_of_ble_eq_true rfl⟩ hl.1 (Nat.le_of_ble_eq_true rfl) (fun v I' J' H1 locs1 hp hI => ?_)
  obtain ⟨rfl, hLI2⟩ := p2 v I' J' hp
  exact fl_lc_eq (tgt := 535) hx hb dL_law_379 dL_law_380 (by decide) (fun _ => kk _ _ _ _ hI hLI2) (fun q => absurd rfl q)
set_option maxHeartbeats 1000000 in
set_option maxRecDepth 100000 in
theorem law_reached (X : CallFix p m c cL_law 4 s #[.ref b] fl_tb RL) (hX : va_X b L xs s s.heap) (hbl : b < s.heap.size) (hi : i + 6 ≤ L) (hL : L ≤ 3072) (hI : fl_I D dA ad 37 I J (fun q : Nat => s.heap.size ≤ q) s s.heap H locs) (hLI : LI I J) (hl : lv_has ls 4 [(0, .ref b), (1, .ref (ad 0)), (2, .ref (ad 30)), (3, .int (nI i))])
    (kk : ∀ (I' : fl_TI) (J' : fl_TJ) (H1 : Heap) (locs1 : List Loc), fl_I D dA ad 37 I' J' (fun q : Nat => s.heap.size ≤ q) s s.heap H1 locs1 → LI I' J' → W p l e room_1 s m #[.ref b] below meth c H1 locs1 37 247 Q (F0 m 535 ls [])) : W p l e room_1 s m #[.ref b] below meth c H locs 37 247 Q (F0 m 385 ls []) := by
  have hx := X.1
  have hb := X.2.1
  have hbA : ¬ (fun q : Nat => s.heap.size ≤ q) b := Nat.not_le.mpr hbl
  obtain ⟨a, I1, J1, P1, P2, f1, p1, f2, p2⟩ := s_reached (D := D) (dA := dA) (ad := ad) hLI (xs (nI (i + 1)).toNatClampNeg) (xs (nI (i + 2)).toNatClampNeg) (xs (nI (i + 3)).toNatClampNeg)
  refine lv_aload_n hx hb dL_law_385 rfl (lv_at hl 1 rfl) ?_
  refine lv_aload_n hx hb dL_law_386 rfl (lv_at hl 0 rfl) ?_
  refine lv_iload_n hx hb dL_law_387 rfl (lv_at hl 3 rfl) ?_
  refine lv_iconst (v := nI 1) hx hb dL_law_388 (by decide) ?_
  refine fn_iadd X dL_law_389 ?_
  refine va_sld hx hb hX hbl hbA hI.2.2.2.1 (vp_in_nI (show i + 1 < L by omega) (by omega)) dL_law_390 ?_
  refine lv_aload_n hx hb dL_law_391 rfl (lv_at hl 0 rfl) ?_
  refine lv_iload_n hx hb dL_law_392 rfl (lv_at hl 3 rfl) ?_
  refine lv_iconst (v := nI 2) hx hb dL_law_393 (by decide) ?_
  refine fn_iadd X dL_law_394 ?_
  refine va_sld hx hb hX hbl hbA hI.2.2.2.1 (vp_in_nI (show i + 2 < L by omega) (by omega)) dL_law_395 ?_
  refine lv_aload_n hx hb dL_law_396 rfl (lv_at hl 0 rfl) ?_
  refine lv_iload_n hx hb dL_law_397 rfl (lv_at hl 3 rfl) ?_
  refine lv_iconst (v := nI 3) hx hb dL_law_398 (by decide) ?_
  refine fn_iadd X dL_law_399 ?_
  refine va_sld hx hb hX hbl hbA hI.2.2.2.1 (vp_in_nI (show i + 3 < L by omega) (by omega)) dL_law_400 ?_
  refine fl_callVG (rest := []) (As := [.int (xs (nI (i + 1)).toNatClampNeg), .int (xs (nI (i + 2)).toNatClampNeg), .int (xs (nI (i + 3)).toNatClampNeg)]) (k := 0) (n := 3) X hI dL_law_401 f1 (by decide) fl_c_5 rfl rfl wc_yX1_reached wm_L_59 wi_yX1_reached wl_yX1_reached wn_X1 (by decide +kernel) rfl ⟨Nat.le_of_ble_eq_true rfl, Nat.le_of_ble_eq_true rfl⟩ ⟨Nat.le_of_ble_eq_true rfl, Nat.le_of_ble_eq_true rfl⟩ hl.1 (Nat.le_of_ble_eq_true rfl) (fun v I' J' H1 locs1 hp hI => ?_)
  obtain ⟨rfl, rfl, rfl⟩ := p1 v I' J' hp
  refine lv_aload_n hx hb dL_law_404 rfl (lv_at hl 2 rfl) ?_
  refine lv_aload_n hx hb dL_law_405 rfl (lv_at hl 0 rfl) ?_
  refine lv_iload_n hx hb dL_law_406 rfl (lv_at hl 3 rfl) ?_
  refine lv_iconst (v := nI 1) hx hb dL_law_407 (by decide) ?_
  refine fn_iadd X dL_law_408 ?_
  refine va_sld hx hb hX hbl hbA hI.2.2.2.1 (vp_in_nI (show i + 1 < L by omega) (by omega)) dL_law_409 ?_
  refine lv_aload_n hx hb dL_law_410 rfl (lv_at hl 0 rfl) ?_
  refine lv_iload_n hx hb dL_law_411 rfl (lv_at hl 3 rfl) ?_
  refine lv_iconst (v := nI 2) hx hb dL_law_412 (by decide) ?_
  refine fn_iadd X dL_law_413 ?_
  refine va_sld hx hb hX hbl hbA hI.2.2.2.1 (vp_in_nI (show i + 2 < L by omega) (by omega)) dL_law_414 ?_
  refine lv_aload_n hx hb dL_law_415 rfl (lv_at hl 0 rfl) ?_
  refine lv_iload_n hx hb dL_law_416 rfl (lv_at hl 3 rfl) ?_
  refine lv_iconst (v := nI 3) hx hb dL_law_417 (by decide) ?_
  refine fn_iadd X dL_law_418 ?_
  refine va_sld hx hb hX hbl hbA hI.2.2.2.1 (vp_in_nI (show i + 3 < L by omega) (by omega)) dL_law_419 ?_
  refine fl_callVG (rest := [.int a]) (As := [.int (xs (nI (i + 1)).toNatClampNeg), .int (xs (nI (i + 2)).toNatClampNeg), .int (xs (nI (i + 3)).toNatClampNeg)]) (k := 30) (n := 3) X hI dL_law_420 f2 (by decide) fl_c_6 rfl rfl wc_yX2_reached wm_L_63 wi_yX2_reached wl_yX2_reached wn_X2 (by decide +kernel) rfl ⟨Nat.le_of_ble_eq_true rfl, Nat.le_of_ble_eq_true rfl⟩ ⟨Nat.le_of_ble_eq_true rfl, Nat.le_of_ble_eq_true rfl⟩ hl.1 (Nat.le_of_ble_eq_true rfl) (fun v I' J' H1 locs1 hp hI => ?_)
  obtain ⟨rfl, hLI2⟩ := p2 v I' J' hp
  exact lv_icmp_eq (tgt := 535) hx hb dL_law_423 (by decide) (fun _ => kk _ _ _ _ hI hLI2) (fun q => absurd rfl q)
set_option maxHeartbeats 1000000 in
set_option maxRecDepth 100000 in
theorem law_invariant (X : CallFix p m c cL_law 4 s #[.ref b] fl_tb RL) (hX : va_X b L xs s s.heap) (hbl : b < s.heap.size) (hi : i + 6 ≤ L) (hL : L ≤ 3072) (hI : fl_I D dA ad 37 I J (fun q : Nat => s.heap.size ≤ q) s s.heap H locs) (hLI : LI I J) (hl : lv_has ls 4 [(0, .ref b), (1, .ref (ad 0)), (2, .ref (ad 30)), (3, .int (nI i))])
    (kk : ∀ (I' : fl_TI) (J' : fl_TJ) (H1 : Heap) (locs1 : List Loc), fl_I D dA ad 37 I' J' (fun q : Nat => s.heap.size ≤ q) s s.heap H1 locs1 → LI I' J' → W p l e room_1 s m #[.ref b] below meth c H1 locs1 37 247 Q (F0 m 535 ls [])) : W p l e room_1 s m #[.ref b] below meth c H locs 37 247 Q (F0 m 428 ls []) := by
  have hx := X.1
  have hb := X.2.1
  have hbA : ¬ (fun q : Nat => s.heap.size ≤ q) b := Nat.not_le.mpr hbl
  obtain ⟨a, I1, J1, P1, P2, f1, p1, f2, p2⟩ := s_invariant (D := D) (dA := dA) (ad := ad) hLI (xs (nI (i + 1)).toNatClampNeg)
  refine lv_aload_n hx hb dL_law_428 rfl (lv_at hl 1 rfl) ?_
  refine lv_aload_n hx hb dL_law_429 rfl (lv_at hl 0 rfl) ?_
  refine lv_iload_n hx hb dL_law_430 rfl (lv_at hl 3 rfl) ?_
  refine lv_iconst (v := nI 1) hx hb dL_law_431 (by decide) ?_
  refine fn_iadd X dL_law_432 ?_
  refine va_sld hx hb hX hbl hbA hI.2.2.2.1 (vp_in_nI (show i + 1 < L by omega) (by omega)) dL_law_433 ?_
  refine fl_callVG (rest := []) (As := [.int (xs (nI (i + 1)).toNatClampNeg)]) (k := 0) (n := 1) X hI dL_law_434 f1 (by decide) fl_c_5 rfl rfl wc_yX1_invariant wm_L_64 wi_yX1_invariant wl_yX1_invariant wn_X1 (by decide +kernel) rfl ⟨Nat.le_of_ble_eq_true rfl, Nat.le_of_ble_eq_true rfl⟩ ⟨Nat.le_of_ble_eq_true rfl, Nat.le_of_ble_eq_true rfl⟩ hl.1 (Nat.le_of_ble_eq_true rfl) (fun v I' J' H1 locs1 hp hI => ?_)
  obtain ⟨rfl, rfl, rfl⟩ := p1 v I' J' hp
  refine lv_aload_n hx hb dL_law_437 rfl (lv_at hl 2 rfl) ?_
  refine lv_aload_n hx hb dL_law_438 rfl (lv_at hl 0 rfl) ?_
  refine lv_iload_n hx hb dL_law_439 rfl (lv_at hl 3 rfl) ?_
  refine lv_iconst (v := nI 1) hx hb dL_law_440 (by decide) ?_
  refine fn_iadd X dL_law_441 ?_
  refine va_sld hx hb hX hbl hbA hI.2.2.2.1 (vp_in_nI (show i + 1 < L by omega) (by omega)) dL_law_442 ?_
  refine fl_callVG (rest := [.long a]) (As := [.int (xs (nI (i + 1)).toNatClampNeg)]) (k := 30) (n := 1) X hI dL_law_443 f2 (by decide) fl_c_6 rfl rfl wc_yX2_invariant wm_L_67 wi_yX2_invariant wl_yX2_invariant wn_X2 (by decide +kernel) rfl ⟨Nat.le_of_ble_eq_true rfl, Nat.le_of_ble_eq_true rfl⟩ ⟨Nat.le_of_ble_eq_true rfl, Nat.le_of_ble_eq_true rfl⟩ hl.1 (Nat.le_of_ble_eq_true rfl) (fun v I' J' H1 locs1 hp hI => ?_)
  obtain ⟨rfl, hLI2⟩ := p2 v I' J' hp
  exact fl_lc_eq (tgt := 535) hx hb dL_law_446 dL_law_447 (by decide) (fun _ => kk _ _ _ _ hI hLI2) (fun q => absurd rfl q)
set_option maxHeartbeats 1000000 in
set_option maxRecDepth 100000 in
theorem law_box (X : CallFix p m c cL_law 4 s #[.ref b] fl_tb RL) (hX : va_X b L xs s s.heap) (hbl : b < s.heap.size) (hi : i + 6 ≤ L) (hL : L ≤ 3072) (hI : fl_I D dA ad 37 I J (fun q : Nat => s.heap.size ≤ q) s s.heap H locs) (hLI : LI I J) (hl : lv_has ls 4 [(0, .ref b), (1, .ref (ad 0)), (2, .ref (ad 30)), (3, .int (nI i))])
    (kk : ∀ (I' : fl_TI) (J' : fl_TJ) (H1 : Heap) (locs1 : List Loc), fl_I D dA ad 37 I' J' (fun q : Nat => s.heap.size ≤ q) s s.heap H1 locs1 → LI I' J' → W p l e room_1 s m #[.ref b] below meth c H1 locs1 37 247 Q (F0 m 535 ls [])) : W p l e room_1 s m #[.ref b] below meth c H locs 37 247 Q (F0 m 452 ls []) := by
  have hx := X.1
  have hb := X.2.1
  have hbA : ¬ (fun q : Nat => s.heap.size ≤ q) b := Nat.not_le.mpr hbl
  obtain ⟨a, I1, J1, P1, P2, f1, p1, f2, p2⟩ := s_box (D := D) (dA := dA) (ad := ad) hLI (xs (nI (i + 1)).toNatClampNeg) (xs (nI (i + 2)).toNatClampNeg)
  refine lv_aload_n hx hb dL_law_452 rfl (lv_at hl 1 rfl) ?_
  refine lv_aload_n hx hb dL_law_453 rfl (lv_at hl 0 rfl) ?_
  refine lv_iload_n hx hb dL_law_454 rfl (lv_at hl 3 rfl) ?_
  refine lv_iconst (v := nI 1) hx hb dL_law_455 (by decide) ?_
  refine fn_iadd X dL_law_456 ?_
  refine va_sld hx hb hX hbl hbA hI.2.2.2.1 (vp_in_nI (show i + 1 < L by omega) (by omega)) dL_law_457 ?_
  refine lv_aload_n hx hb dL_law_458 rfl (lv_at hl 0 rfl) ?_
  refine lv_iload_n hx hb dL_law_459 rfl (lv_at hl 3 rfl) ?_
  refine lv_iconst (v := nI 2) hx hb dL_law_460 (by decide) ?_
  refine fn_iadd X dL_law_461 ?_
  refine va_sld hx hb hX hbl hbA hI.2.2.2.1 (vp_in_nI (show i + 2 < L by omega) (by omega)) dL_law_462 ?_
  refine fl_callVG (rest := []) (As := [.int (xs (nI (i + 1)).toNatClampNeg), .int (xs (nI (i + 2)).toNatClampNeg)]) (k := 0) (n := 2) X hI dL_law_463 f1 (by decide) fl_c_5 rfl rfl wc_yX1_box wm_L_68 wi_yX1_box wl_yX1_box wn_X1 (by decide +kernel) rfl ⟨Nat.le_of_ble_eq_true rfl, Nat.le_of_ble_eq_true rfl⟩ ⟨Nat.le_of_ble_eq_true rfl, Nat.le_of_ble_eq_true rfl⟩ hl.1 (Nat.le_of_ble_eq_true rfl) (fun v I' J' H1 locs1 hp hI => ?_)
  obtain ⟨rfl, rfl, rfl⟩ := p1 v I' J' hp
  refine lv_aload_n hx hb dL_law_466 rfl (lv_at hl 2 rfl) ?_
  refine lv_aload_n hx hb dL_law_467 rfl (lv_at hl 0 rfl) ?_
  refine lv_iload_n hx hb dL_law_468 rfl (lv_at hl 3 rfl) ?_
  refine lv_iconst (v := nI 1) hx hb dL_law_469 (by decide) ?_
  refine fn_iadd X dL_law_470 ?_
  refine va_sld hx hb hX hbl hbA hI.2.2.2.1 (vp_in_nI (show i + 1 < L by omega) (by omega)) dL_law_471 ?_
  refine lv_aload_n hx hb dL_law_472 rfl (lv_at hl 0 rfl) ?_
  refine lv_iload_n hx hb dL_law_473 rfl (lv_at hl 3 rfl) ?_
  refine lv_iconst (v := nI 2) hx hb dL_law_474 (by decide) ?_
  refine fn_iadd X dL_law_475 ?_
  refine va_sld hx hb hX hbl hbA hI.2.2.2.1 (vp_in_nI (show i + 2 < L by omega) (by omega)) dL_law_476 ?_
  refine fl_callVG (rest := [.int a]) (As := [.int (xs (nI (i + 1)).toNatClampNeg), .int (xs (nI (i + 2)).toNatClampNeg)]) (k := 30) (n := 2) X hI dL_law_477 f2 (by decide) fl_c_6 rfl rfl wc_yX2_box wm_L_71 wi_yX2_box wl_yX2_box wn_X2 (by decide +kernel) rfl ⟨Nat.le_of_ble_eq_true rfl, Nat.le_of_ble_eq_true rfl⟩ ⟨Nat.le_of_ble_eq_true rfl, Nat.le_of_ble_eq_true rfl⟩ hl.1 (Nat.le_of_ble_eq_true rfl) (fun v I' J' H1 locs1 hp hI => ?_)
  obtain ⟨rfl, hLI2⟩ := p2 v I' J' hp
  exact lv_icmp_eq (tgt := 535) hx hb dL_law_480 (by decide) (fun _ => kk _ _ _ _ hI hLI2) (fun q => absurd rfl q)
set_option maxHeartbeats 1000000 in
set_option maxRecDepth 100000 in
theorem law_modulo (X : CallFix p m c cL_law 4 s #[.ref b] fl_tb RL) (hX : va_X b L xs s s.heap) (hbl : b < s.heap.size) (hi : i + 6 ≤ L) (hL : L ≤ 3072) (hI : fl_I D dA ad 37 I J (fun q : Nat => s.heap.size ≤ q) s s.heap H locs) (hLI : LI I J) (hl : lv_has ls 4 [(0, .ref b), (1, .ref (ad 0)), (2, .ref (ad 30)), (3, .int (nI i))])
    (kk : ∀ (I' : fl_TI) (J' : fl_TJ) (H1 : Heap) (locs1 : List Loc), fl_I D dA ad 37 I' J' (fun q : Nat => s.heap.size ≤ q) s s.heap H1 locs1 → LI I' J' → W p l e room_1 s m #[.ref b] below meth c H1 locs1 37 247 Q (F0 m 535 ls [])) : W p l e room_1 s m #[.ref b] below meth c H locs 37 247 Q (F0 m 485 ls []) := by
  have hx := X.1
  have hb := X.2.1
  have hbA : ¬ (fun q : Nat => s.heap.size ≤ q) b := Nat.not_le.mpr hbl
  obtain ⟨a, I1, J1, P1, P2, f1, p1, f2, p2⟩ := s_modulo (D := D) (dA := dA) (ad := ad) hLI (xs (nI (i + 1)).toNatClampNeg)
  refine lv_aload_n hx hb dL_law_485 rfl (lv_at hl 1 rfl) ?_
  refine lv_aload_n hx hb dL_law_486 rfl (lv_at hl 0 rfl) ?_
  refine lv_iload_n hx hb dL_law_487 rfl (lv_at hl 3 rfl) ?_
  refine lv_iconst (v := nI 1) hx hb dL_law_488 (by decide) ?_
  refine fn_iadd X dL_law_489 ?_
  refine va_sld hx hb hX hbl hbA hI.2.2.2.1 (vp_in_nI (show i + 1 < L by omega) (by omega)) dL_law_490 ?_
  refine fl_callVG (rest := []) (As := [.int (xs (nI (i + 1)).toNatClampNeg)]) (k := 0) (n := 1) X hI dL_law_491 f1 (by decide) fl_c_5 rfl rfl wc_yX1_modulo wm_L_72 wi_yX1_modulo wl_yX1_modulo wn_X1 (by decide +kernel) rfl ⟨Nat.le_of_ble_eq_true rfl, Nat.le_of_ble_eq_true rfl⟩ ⟨Nat.le_of_ble_eq_true rfl, Nat.le_of_ble_eq_true rfl⟩ hl.1 (Nat.le_of_ble_eq_true rfl) (fun v I' J' H1 locs1 hp hI => ?_)
  obtain ⟨rfl, rfl, rfl⟩ := p1 v I' J' hp
  refine lv_aload_n hx hb dL_law_494 rfl (lv_at hl 2 rfl) ?_
  refine lv_aload_n hx hb dL_law_495 rfl (lv_at hl 0 rfl) ?_
  refine lv_iload_n hx hb dL_law_496 rfl (lv_at hl 3 rfl) ?_
  refine lv_iconst (v := nI 1) hx hb dL_law_497 (by decide) ?_
  refine fn_iadd X dL_law_498 ?_
  refine va_sld hx hb hX hbl hbA hI.2.2.2.1 (vp_in_nI (show i + 1 < L by omega) (by omega)) dL_law_499 ?_
  refine fl_callVG (rest := [.int a]) (As := [.int (xs (nI (i + 1)).toNatClampNeg)]) (k := 30) (n := 1) X hI dL_law_500 f2 (by decide) fl_c_6 rfl rfl wc_yX2_modulo wm_L_75 wi_yX2_modulo wl_yX2_modulo wn_X2 (by decide +kernel) rfl ⟨Nat.le_of_ble_eq_true rfl, Nat.le_of_ble_eq_true rfl⟩ ⟨Nat.le_of_ble_eq_true rfl, Nat.le_of_ble_eq_true rfl⟩ hl.1 (Nat.le_of_ble_eq_true rfl) (fun v I' J' H1 locs1 hp hI => ?_)
  obtain ⟨rfl, hLI2⟩ := p2 v I' J' hp
  exact lv_icmp_eq (tgt := 535) hx hb dL_law_503 (by decide) (fun _ => kk _ _ _ _ hI hLI2) (fun q => absurd rfl q)
set_option maxHeartbeats 1000000 in
set_option maxRecDepth 100000 in
theorem law_spread (X : CallFix p m c cL_law 4 s #[.ref b] fl_tb RL) (hX : va_X b L xs s s.heap) (hbl : b < s.heap.size) (hi : i + 6 ≤ L) (hL : L ≤ 3072) (hI : fl_I D dA ad 37 I J (fun q : Nat => s.heap.size ≤ q) s s.heap H locs) (hLI : LI I J) (hl : lv_has ls 4 [(0, .ref b), (1, .ref (ad 0)), (2, .ref (ad 30)), (3, .int (nI i))])
    (kk : ∀ (I' : fl_TI) (J' : fl_TJ) (H1 : Heap) (locs1 : List Loc), fl_I D dA ad 37 I' J' (fun q : Nat => s.heap.size ≤ q) s s.heap H1 locs1 → LI I' J' → W p l e room_1 s m #[.ref b] below meth c H1 locs1 37 247 Q (F0 m 535 ls [])) : W p l e room_1 s m #[.ref b] below meth c H locs 37 247 Q (F0 m 508 ls []) := by
  have hx := X.1
  have hb := X.2.1
  have hbA : ¬ (fun q : Nat => s.heap.size ≤ q) b := Nat.not_le.mpr hbl
  obtain ⟨a, I1, J1, P1, P2, f1, p1, f2, p2⟩ := s_spread (D := D) (dA := dA) (ad := ad) hLI
  refine lv_aload_n hx hb dL_law_508 rfl (lv_at hl 1 rfl) ?_
  refine fl_callVG (rest := []) (As := []) (k := 0) (n := 0) X hI dL_law_509 f1 (by decide) fl_c_5 rfl rfl wc_yX1_spread wm_L_76 wi_yX1_spread wl_yX1_spread wn_X1 (by decide +kernel) rfl ⟨Nat.le_of_ble_eq_true rfl, Nat.le_of_ble_eq_true rfl⟩ ⟨Nat.le_of_ble_eq_true rfl, Nat.le_of_ble_eq_true rfl⟩ hl.1 (Nat.le_of_ble_eq_true rfl) (fun v I' J' H1 locs1 hp hI => ?_)
  obtain ⟨rfl, rfl, rfl⟩ := p1 v I' J' hp
  refine lv_aload_n hx hb dL_law_512 rfl (lv_at hl 2 rfl) ?_
  refine fl_callVG (rest := [.long a]) (As := []) (k := 30) (n := 0) X hI dL_law_513 f2 (by decide) fl_c_6 rfl rfl wc_yX2_spread wm_L_80 wi_yX2_spread wl_yX2_spread wn_X2 (by decide +kernel) rfl ⟨Nat.le_of_ble_eq_true rfl, Nat.le_of_ble_eq_true rfl⟩ ⟨Nat.le_of_ble_eq_true rfl, Nat.le_of_ble_eq_true rfl⟩ hl.1 (Nat.le_of_ble_eq_true rfl) (fun v I' J' H1 locs1 hp hI => ?_)
  obtain ⟨rfl, hLI2⟩ := p2 v I' J' hp
  exact fl_lc_eq (tgt := 535) hx hb dL_law_516 dL_law_517 (by decide) (fun _ => kk _ _ _ _ hI hLI2) (fun q => absurd rfl q)
set_option maxHeartbeats 1000000 in
set_option maxRecDepth 100000 in
theorem law_check (X : CallFix p m c cL_law 4 s #[.ref b] fl_tb RL) (hX : va_X b L xs s s.heap) (hbl : b < s.heap.size) (hi : i + 6 ≤ L) (hL : L ≤ 3072) (hI : fl_I D dA ad 37 I J (fun q : Nat => s.heap.size ≤ q) s s.heap H locs) (hLI : LI I J) (hl : lv_has ls 4 [(0, .ref b), (1, .ref (ad 0)), (2, .ref (ad 30)), (3, .int (nI i))])
    (kk : ∀ (I' : fl_TI) (J' : fl_TJ) (H1 : Heap) (locs1 : List Loc), fl_I D dA ad 37 I' J' (fun q : Nat => s.heap.size ≤ q) s s.heap H1 locs1 → LI I' J' → W p l e room_1 s m #[.ref b] below meth c H1 locs1 37 247 Q (F0 m 535 ls [])) : W p l e room_1 s m #[.ref b] below meth c H locs 37 247 Q (F0 m 522 ls []) := by
  have hx := X.1
  have hb := X.2.1
  have hbA : ¬ (fun q : Nat => s.heap.size ≤ q) b := Nat.not_le.mpr hbl
  obtain ⟨a, I1, J1, P1, P2, f1, p1, f2, p2⟩ := s_check (D := D) (dA := dA) (ad := ad) hLI
  refine lv_aload_n hx hb dL_law_522 rfl (lv_at hl 1 rfl) ?_
  refine fl_callVG (rest := []) (As := []) (k := 0) (n := 0) X hI dL_law_523 f1 (by decide) fl_c_5 rfl rfl wc_yX1_check wm_L_81 wi_yX1_check wl_yX1_check wn_X1 (by decide +kernel) rfl ⟨Nat.le_of_ble_eq_true rfl, Nat.le_of_ble_eq_true rfl⟩ ⟨Nat.le_of_ble_eq_true rfl, Nat.le_of_ble_eq_true rfl⟩ hl.1 (Nat.le_of_ble_eq_true rfl) (fun v I' J' H1 locs1 hp hI => ?_)
  obtain ⟨rfl, rfl, rfl⟩ := p1 v I' J' hp
  refine lv_aload_n hx hb dL_law_526 rfl (lv_at hl 2 rfl) ?_
  refine fl_callVG (rest := [.int a]) (As := []) (k := 30) (n := 0) X hI dL_law_527 f2 (by decide) fl_c_6 rfl rfl wc_yX2_check wm_L_84 wi_yX2_check wl_yX2_check wn_X2 (by decide +kernel) rfl ⟨Nat.le_of_ble_eq_true rfl, Nat.le_of_ble_eq_true rfl⟩ ⟨Nat.le_of_ble_eq_true rfl, Nat.le_of_ble_eq_true rfl⟩ hl.1 (Nat.le_of_ble_eq_true rfl) (fun v I' J' H1 locs1 hp hI => ?_)
  obtain ⟨rfl, hLI2⟩ := p2 v I' J' hp
  exact lv_icmp_eq (tgt := 535) hx hb dL_law_530 (by decide) (fun _ => kk _ _ _ _ hI hLI2) (fun q => absurd rfl q)
end LAW
