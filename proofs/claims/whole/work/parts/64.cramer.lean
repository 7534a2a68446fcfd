/-! two columns changed; Cramer; what it bounds -/
theorem d4_t01 (p q r s : Int) (A B C D : Nat → Int) : d4 (fun i => p * A i + q * B i) (fun i => r * A i + s * B i) C D = (p * s - q * r) * d4 A B C D := by
  unfold d4 d3
  grind
theorem d4_t02 (p q r s : Int) (A B C D : Nat → Int) : d4 (fun i => p * A i + q * C i) B (fun i => r * A i + s * C i) D = (p * s - q * r) * d4 A B C D := by
  unfold d4 d3
  grind
theorem d4_t03 (p q r s : Int) (A B C D : Nat → Int) : d4 (fun i => p * A i + q * D i) B C (fun i => r * A i + s * D i) = (p * s - q * r) * d4 A B C D := by
  unfold d4 d3
  grind
theorem d4_t12 (p q r s : Int) (A B C D : Nat → Int) : d4 A (fun i => p * B i + q * C i) (fun i => r * B i + s * C i) D = (p * s - q * r) * d4 A B C D := by
  unfold d4 d3
  grind
theorem d4_t13 (p q r s : Int) (A B C D : Nat → Int) : d4 A (fun i => p * B i + q * D i) C (fun i => r * B i + s * D i) = (p * s - q * r) * d4 A B C D := by
  unfold d4 d3
  grind
theorem d4_t23 (p q r s : Int) (A B C D : Nat → Int) : d4 A B (fun i => p * C i + q * D i) (fun i => r * C i + s * D i) = (p * s - q * r) * d4 A B C D := by
  unfold d4 d3
  grind
/-- a change of the rows u and l, with its undoing -/
def Opc : Type := (Int × Int × Int × Int) × (Int × Int × Int × Int)
def Opc.a (z : Opc) : Int := z.1.1
def Opc.b (z : Opc) : Int := z.1.2.1
def Opc.c (z : Opc) : Int := z.1.2.2.1
def Opc.d (z : Opc) : Int := z.1.2.2.2
def Opc.p (z : Opc) : Int := z.2.1
def Opc.q (z : Opc) : Int := z.2.2.1
def Opc.r (z : Opc) : Int := z.2.2.2.1
def Opc.s (z : Opc) : Int := z.2.2.2.2
def opc (a b c d p q r s : Int) : Opc := ((a, b, c, d), (p, q, r, s))
def Opc.ok (z : Opc) : Prop := (z.a * z.p + z.b * z.q = 1 ∧ z.a * z.r + z.b * z.s = 0 ∧ z.c * z.p + z.d * z.q = 0 ∧ z.c * z.r + z.d * z.s = 1) ∧ (z.p * z.a + z.r * z.c = 1 ∧ z.p * z.b + z.r * z.d = 0 ∧ z.q * z.a + z.s * z.c = 0 ∧ z.q * z.b + z.s * z.d = 1) ∧ (z.p * z.s - z.q * z.r = 1 ∨ z.p * z.s - z.q * z.r = -1)
/-- the rows changed -/
def opT (u l : Nat) (z : Opc) (T : Nat → Nat → Int) : Nat → Nat → Int := fun i x => if i = u then z.a * T u x + z.b * T l x else if i = l then z.c * T u x + z.d * T l x else T i x
/-- the columns that undo it -/
def opN (u l : Nat) (z : Opc) (N : Nat → Nat → Int) : Nat → Nat → Int := fun j i => if j = u then z.p * N u i + z.q * N l i else if j = l then z.r * N u i + z.s * N l i else N j i
theorem opT_u {u l : Nat} {z : Opc} {T : Nat → Nat → Int} {x : Nat} : opT u l z T u x = z.a * T u x + z.b * T l x := if_pos rfl
theorem opT_l {u l : Nat} (h : u ≠ l) {z : Opc} {T : Nat → Nat → Int} {x : Nat} : opT u l z T l x = z.c * T u x + z.d * T l x := by
  unfold opT
  rw [if_neg (Ne.symm h), if_pos rfl]
theorem opT_o {u l i : Nat} (h : i ≠ u) (h2 : i ≠ l) {z : Opc} {T : Nat → Nat → Int} {x : Nat} : opT u l z T i x = T i x := by
  unfold opT
  rw [if_neg h, if_neg h2]
theorem opN_u {u l : Nat} {z : Opc} {N : Nat → Nat → Int} {x : Nat} : opN u l z N u x = z.p * N u x + z.q * N l x := if_pos rfl
theorem opN_l {u l : Nat} (h : u ≠ l) {z : Opc} {N : Nat → Nat → Int} {x : Nat} : opN u l z N l x = z.r * N u x + z.s * N l x := by
  unfold opN
  rw [if_neg (Ne.symm h), if_pos rfl]
theorem opN_o {u l i : Nat} (h : i ≠ u) (h2 : i ≠ l) {z : Opc} {N : Nat → Nat → Int} {x : Nat} : opN u l z N i x = N i x := by
  unfold opN
  rw [if_neg h, if_neg h2]
def det4 (N : Nat → Nat → Int) : Int := d4 (N 0) (N 1) (N 2) (N 3)
theorem lt4 {u : Nat} (h : u < 4) : u = 0 ∨ u = 1 ∨ u = 2 ∨ u = 3 := by omega
theorem det4_op {u l : Nat} (hu : u < 4) (hl : l < 4) (hne : u ≠ l) (z : Opc) (N : Nat → Nat → Int) : det4 (opN u l z N) = (z.p * z.s - z.q * z.r) * det4 N := by
  have e1 : opN u l z N u = fun i => z.p * N u i + z.q * N l i := funext fun i => opN_u
  have e2 : opN u l z N l = fun i => z.r * N u i + z.s * N l i := funext fun i => opN_l hne
  have e3 : ∀ j, j ≠ u → j ≠ l → opN u l z N j = N j := fun j h1 h2 => funext fun i => opN_o h1 h2
  have sw : ∀ A B : Nat → Int, (fun i => z.p * A i + z.q * B i) = fun i => z.q * B i + z.p * A i := fun A B => funext fun i => Int.add_comm _ _
  have sw2 : ∀ A B : Nat → Int, (fun i => z.r * A i + z.s * B i) = fun i => z.s * B i + z.r * A i := fun A B => funext fun i => Int.add_comm _ _
  unfold det4
  rcases lt4 hu with rfl | rfl | rfl | rfl <;> rcases lt4 hl with rfl | rfl | rfl | rfl
  · exact absurd rfl hne
  · rw [e1, e2, e3 2 (by decide) (by decide), e3 3 (by decide) (by decide)]; exact d4_t01 _ _ _ _ _ _ _ _
  · rw [e1, e2, e3 1 (by decide) (by decide), e3 3 (by decide) (by decide)]; exact d4_t02 _ _ _ _ _ _ _ _
  · rw [e1, e2, e3 1 (by decide) (by decide), e3 2 (by decide) (by decide)]; exact d4_t03 _ _ _ _ _ _ _ _
  · rw [e1, e2, e3 2 (by decide) (by decide), e3 3 (by decide) (by decide), sw, sw2, d4_t01]; grind
  · exact absurd rfl hne
  · rw [e1, e2, e3 0 (by decide) (by decide), e3 3 (by decide) (by decide)]; exact d4_t12 _ _ _ _ _ _ _ _
  · rw [e1, e2, e3 0 (by decide) (by decide), e3 2 (by decide) (by decide)]; exact d4_t13 _ _ _ _ _ _ _ _
  · rw [e1, e2, e3 1 (by decide) (by decide), e3 3 (by decide) (by decide), sw, sw2, d4_t02]; grind
  · rw [e1, e2, e3 0 (by decide) (by decide), e3 3 (by decide) (by decide), sw, sw2, d4_t12]; grind
  · exact absurd rfl hne
  · rw [e1, e2, e3 0 (by decide) (by decide), e3 1 (by decide) (by decide)]; exact d4_t23 _ _ _ _ _ _ _ _
  · rw [e1, e2, e3 1 (by decide) (by decide), e3 2 (by decide) (by decide), sw, sw2, d4_t03]; grind
  · rw [e1, e2, e3 0 (by decide) (by decide), e3 2 (by decide) (by decide), sw, sw2, d4_t13]; grind
  · rw [e1, e2, e3 0 (by decide) (by decide), e3 1 (by decide) (by decide), sw, sw2, d4_t23]; grind
  · exact absurd rfl hne
/-- R is N times T (four rows), and N can be undone -/
def NT (R T N : Nat → Nat → Int) : Prop := (∀ i x, R i x = N 0 i * T 0 x + N 1 i * T 1 x + N 2 i * T 2 x + N 3 i * T 3 x) ∧ (det4 N = 1 ∨ det4 N = -1)
theorem NT.op {R T N : Nat → Nat → Int} (h : NT R T N) {u l : Nat} (hu : u < 4) (hl : l < 4) (hne : u ≠ l) {z : Opc} (hz : z.ok) : NT R (opT u l z T) (opN u l z N) := by
  refine ⟨fun i x => ?_, ?_⟩
  · rw [h.1 i x]
    have k : opN u l z N u i * opT u l z T u x + opN u l z N l i * opT u l z T l x = N u i * T u x + N l i * T l x := by
      rw [opN_u, opT_u, opN_l hne, opT_l hne]
      obtain ⟨-, ⟨h1, h2, h3, h4⟩, -⟩ := hz
      have e : (z.p * N u i + z.q * N l i) * (z.a * T u x + z.b * T l x) + (z.r * N u i + z.s * N l i) * (z.c * T u x + z.d * T l x) = (z.p * z.a + z.r * z.c) * (N u i * T u x) + (z.p * z.b + z.r * z.d) * (N u i * T l x) + (z.q * z.a + z.s * z.c) * (N l i * T u x) + (z.q * z.b + z.s * z.d) * (N l i * T l x) := by grind
      rw [e, h1, h2, h3, h4]
      omega
    have o : ∀ j, j ≠ u → j ≠ l → opN u l z N j i * opT u l z T j x = N j i * T j x := fun j h1 h2 => by rw [opN_o h1 h2, opT_o h1 h2]
    rcases lt4 hu with rfl | rfl | rfl | rfl <;> rcases lt4 hl with rfl | rfl | rfl | rfl
    · exact absurd rfl hne
    · have := o 2 (by decide) (by decide); have := o 3 (by decide) (by decide); omega
    · have := o 1 (by decide) (by decide); have := o 3 (by decide) (by decide); omega
    · have := o 1 (by decide) (by decide); have := o 2 (by decide) (by decide); omega
    · have := o 2 (by decide) (by decide); have := o 3 (by decide) (by decide); omega
    · exact absurd rfl hne
    · have := o 0 (by decide) (by decide); have := o 3 (by decide) (by decide); omega
    · have := o 0 (by decide) (by decide); have := o 2 (by decide) (by decide); omega
    · have := o 1 (by decide) (by decide); have := o 3 (by decide) (by decide); omega
    · have := o 0 (by decide) (by decide); have := o 3 (by decide) (by decide); omega
    · exact absurd rfl hne
    · have := o 0 (by decide) (by decide); have := o 1 (by decide) (by decide); omega
    · have := o 1 (by decide) (by decide); have := o 2 (by decide) (by decide); omega
    · have := o 0 (by decide) (by decide); have := o 2 (by decide) (by decide); omega
    · have := o 0 (by decide) (by decide); have := o 1 (by decide) (by decide); omega
    · exact absurd rfl hne
  · rw [det4_op hu hl hne]
    rcases hz.2.2 with e | e <;> rw [e] <;> rcases h.2 with f | f <;> rw [f] <;> decide
/-- the column j set to v -/
def rep (N : Nat → Nat → Int) (j : Nat) (v : Nat → Int) : Nat → Nat → Int := fun k => if k = j then v else N k
theorem cramer {R T N : Nat → Nat → Int} (h : NT R T N) {j : Nat} (hj : j < 4) (x : Nat) : T j x * det4 N = det4 (rep N j (fun i => R i x)) := by
  have e : (fun i => R i x) = fun i => N 0 i * T 0 x + N 1 i * T 1 x + N 2 i * T 2 x + N 3 i * T 3 x := funext fun i => h.1 i x
  rw [e]
  unfold det4 rep
  rcases lt4 hj with rfl | rfl | rfl | rfl
  · simp only [if_true, if_false, show ¬ (1 = 0) from by decide, show ¬ (2 = 0) from by decide, show ¬ (3 = 0) from by decide]
    unfold d4 d3; grind
  · simp only [if_true, if_false, show ¬ (0 = 1) from by decide, show ¬ (2 = 1) from by decide, show ¬ (3 = 1) from by decide]
    unfold d4 d3; grind
  · simp only [if_true, if_false, show ¬ (0 = 2) from by decide, show ¬ (1 = 2) from by decide, show ¬ (3 = 2) from by decide]
    unfold d4 d3; grind
  · simp only [if_true, if_false, show ¬ (0 = 3) from by decide, show ¬ (1 = 3) from by decide, show ¬ (2 = 3) from by decide]
    unfold d4 d3; grind
