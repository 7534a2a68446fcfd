/-! determinants of four columns (functions of 0..3), and what they bound -/
def d3 (b c d : Nat → Int) (i j k : Nat) : Int := b i * (c j * d k - c k * d j) - b j * (c i * d k - c k * d i) + b k * (c i * d j - c j * d i)
def d4 (a b c d : Nat → Int) : Int := a 0 * d3 b c d 1 2 3 - a 1 * d3 b c d 0 2 3 + a 2 * d3 b c d 0 1 3 - a 3 * d3 b c d 0 1 2
theorem d4_lin (x y : Int) (a a' b c d : Nat → Int) : d4 (fun i => x * a i + y * a' i) b c d = x * d4 a b c d + y * d4 a' b c d := by
  unfold d4
  grind
theorem d4_alt (b c d : Nat → Int) : d4 b b c d = 0 := by
  unfold d4 d3
  grind
theorem d4_s1 (a b c d : Nat → Int) : d4 b a c d = - d4 a b c d := by
  unfold d4 d3
  grind
theorem d4_s2 (a b c d : Nat → Int) : d4 a c b d = - d4 a b c d := by
  unfold d4 d3
  grind
theorem d4_s3 (a b c d : Nat → Int) : d4 a b d c = - d4 a b c d := by
  unfold d4 d3
  grind
