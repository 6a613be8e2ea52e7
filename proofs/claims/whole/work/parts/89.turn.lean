/-! limbs turned: a turned pole keeps its length nearly -/
theorem tdv (m : Int) : ∃ z, 1000 * (m.tdiv 1000) = m + z ∧ -999 ≤ z ∧ z ≤ 999 := by
  have h1 := Int.mul_tdiv_add_tmod m 1000
  have h2 := Int.tmod_lt_of_pos m (b := 1000) (by decide)
  have h3 : -1000 < Int.tmod m 1000 := by
    have := Int.tmod_lt_of_pos (-m) (b := 1000) (by decide)
    rw [Int.neg_tmod] at this
    omega
  exact ⟨-(m.tmod 1000), by omega, by omega, by omega⟩
theorem sqb_le {x B : Int} (h : -B ≤ x ∧ x ≤ B) : x * x ≤ B * B := (prod_b h h).2
theorem two_sq (x y : Int) : (x + y) * (x + y) ≤ 2 * (x * x) + 2 * (y * y) := by
  have h := sq_nn (x - y)
  have e : (x - y) * (x - y) = 2 * (x * x) + 2 * (y * y) - (x + y) * (x + y) := by grind
  omega
theorem turn_id (a b x y z c s : Int) : (1000000 * (c * x) + 1000 * (s * (b * z)) + (1000 - c) * ((a * x + b * y) * a)) * (1000000 * (c * x) + 1000 * (s * (b * z)) + (1000 - c) * ((a * x + b * y) * a)) + (1000000 * (c * y) - 1000 * (s * (a * z)) + (1000 - c) * ((a * x + b * y) * b)) * (1000000 * (c * y) - 1000 * (s * (a * z)) + (1000 - c) * ((a * x + b * y) * b)) + (1000000 * (c * z) + 1000 * (s * (a * y - b * x))) * (1000000 * (c * z) + 1000 * (s * (a * y - b * x))) = (x * x + y * y + z * z) * (1000000000000 * (c * c) + 1000000 * (s * s * (a * a + b * b))) + ((a * x + b * y) * (a * x + b * y)) * ((1000 - c) * (1000 - c) * (a * a + b * b) + 2000000 * (c * (1000 - c)) - 1000000 * (s * s)) := by grind
theorem turn_x {a b x y z c s : Int} (hn : a * a + b * b ≤ 1010000) (h1 : c * c + s * s ≤ 1010000) (h2 : 990000 ≤ c * c + s * s) (hc : -1000 ≤ c ∧ c ≤ 1000) (hq : x * x + y * y + z * z ≤ 1020100) : (1000000 * (c * x) + 1000 * (s * (b * z)) + (1000 - c) * ((a * x + b * y) * a)) * (1000000 * (c * x) + 1000 * (s * (b * z)) + (1000 - c) * ((a * x + b * y) * a)) + (1000000 * (c * y) - 1000 * (s * (a * z)) + (1000 - c) * ((a * x + b * y) * b)) * (1000000 * (c * y) - 1000 * (s * (a * z)) + (1000 - c) * ((a * x + b * y) * b)) + (1000000 * (c * z) + 1000 * (s * (a * y - b * x))) * (1000000 * (c * z) + 1000 * (s * (a * y - b * x))) ≤ 1200000000000000000000000 := by
  rw [turn_id]
  have n0 : 0 ≤ a * a + b * b := Int.add_nonneg (sq_nn a) (sq_nn b)
  have q0 : 0 ≤ x * x + y * y + z * z := Int.add_nonneg (Int.add_nonneg (sq_nn x) (sq_nn y)) (sq_nn z)
  have hal : (a * x + b * y) * (a * x + b * y) ≤ (a * a + b * b) * (x * x + y * y + z * z) := by
    have e : (a * a + b * b) * (x * x + y * y + z * z) - (a * x + b * y) * (a * x + b * y) = (a * y - b * x) * (a * y - b * x) + (a * z) * (a * z) + (b * z) * (b * z) := by grind
    have p1 := sq_nn (a * y - b * x)
    have p2 := sq_nn (a * z)
    have p3 := sq_nn (b * z)
    omega
  have al0 := sq_nn (a * x + b * y)
  have s0 := sq_nn s
  have c0 := sq_nn c
  have hnq : (a * a + b * b) * (x * x + y * y + z * z) ≤ 1010000 * 1020100 := Int.mul_le_mul hn hq q0 (by omega)
  generalize (a * x + b * y) * (a * x + b * y) = A at *
  generalize x * x + y * y + z * z = q at *
  generalize a * a + b * b = n at *
  have hsn : s * s * n ≤ s * s * 1010000 := Int.mul_le_mul_of_nonneg_left hn s0
  have t1 : q * (1000000000000 * (c * c) + 1000000 * (s * s * n)) ≤ 1020100 * 1020100000000000000 := Int.mul_le_mul hq (by omega) (by have := Int.mul_nonneg s0 n0; omega) (by omega)
  have hd : (1000 - c) * (1000 - c) ≤ 2000 * 2000 := sqb_le (by omega)
  have hd0 := sq_nn (1000 - c)
  have hdn : (1000 - c) * (1000 - c) * n ≤ (1000 - c) * (1000 - c) * 1010000 := Int.mul_le_mul_of_nonneg_left hn hd0
  have e2 : (1000 - c) * (1000 - c) * 1010000 + 2000000 * (c * (1000 - c)) = 10000 * ((1000 - c) * (1000 - c)) + 1000000 * (1000000 - c * c) := by grind
  have hB : (1000 - c) * (1000 - c) * n + 2000000 * (c * (1000 - c)) - 1000000 * (s * s) ≤ 50000000000 := by omega
  have t2 : A * ((1000 - c) * (1000 - c) * n + 2000000 * (c * (1000 - c)) - 1000000 * (s * s)) ≤ A * 50000000000 := Int.mul_le_mul_of_nonneg_left hB al0
  omega
/-- one part of a turned vector, with what is cut off -/
theorem turn_1 {x w P c s bz aL al a : Int} {z2 z3 z4 : Int} (h2 : 1000 * w = bz + z2) (h3 : 1000 * P = aL + z3) (h4 : 1000 * aL = al + a * z4) (b2 : -999 ≤ z2 ∧ z2 ≤ 999) (b3 : -999 ≤ z3 ∧ z3 ≤ 999) (b4 : -999 ≤ z4 ∧ z4 ≤ 999) (hc : -1000 ≤ c ∧ c ≤ 1000) (hs : -1000 ≤ s ∧ s ≤ 1000) (ha : -1000 ≤ a ∧ a ≤ 1000) : ∃ E, 1000000000 * (x * c + w * s + P * (1000 - c)).tdiv 1000 = (1000000 * (c * x) + 1000 * (s * bz) + (1000 - c) * al) + E ∧ -6000000000 ≤ E ∧ E ≤ 6000000000 := by
  obtain ⟨z1, e1, b1, b1'⟩ := tdv (x * c + w * s + P * (1000 - c))
  refine ⟨1000000 * z1 + 1000 * (s * z2) + ((1000 - c) * (a * z4) + 1000 * ((1000 - c) * z3)), ?_, ?_⟩
  · have g1 : 1000000 * (w * s) = 1000 * (s * bz) + 1000 * (s * z2) := by
      have : 1000000 * (w * s) = 1000 * (s * (1000 * w)) := by grind
      rw [this, h2]; grind
    have g2 : 1000000 * (P * (1000 - c)) = (1000 - c) * al + (1000 - c) * (a * z4) + 1000 * ((1000 - c) * z3) := by
      have : 1000000 * (P * (1000 - c)) = 1000 * ((1000 - c) * (1000 * P)) := by grind
      rw [this, h3]
      have : 1000 * ((1000 - c) * (aL + z3)) = (1000 - c) * (1000 * aL) + 1000 * ((1000 - c) * z3) := by grind
      rw [this, h4]; grind
    have g3 : c * x = x * c := Int.mul_comm _ _
    omega
  · have p1 := prod_b (a := s) (c := z2) (A := 1000) (C := 999) hs b2
    have p2 := prod_b (a := 1000 - c) (c := z3) (A := 2000) (C := 999) (by omega) b3
    have p3 := prod_b (a := a) (c := z4) (A := 1000) (C := 999) ha b4
    have p4 := prod_b (a := 1000 - c) (c := a * z4) (A := 2000) (C := 1000 * 999) (by omega) p3
    omega
def tnZ (a b x y z c s : Int) : Int × Int × Int := ((x * c + (b * z).tdiv 1000 * s + (a * (a * x + b * y).tdiv 1000).tdiv 1000 * (1000 - c)).tdiv 1000, (y * c + (-(a * z)).tdiv 1000 * s + (b * (a * x + b * y).tdiv 1000).tdiv 1000 * (1000 - c)).tdiv 1000, (z * c + (a * y - b * x).tdiv 1000 * s + 0 * (1000 - c)).tdiv 1000)
theorem tnZ_q {a b x y z c s : Int} (hn : a * a + b * b ≤ 1010000) (h1 : c * c + s * s ≤ 1010000) (h2 : 990000 ≤ c * c + s * s) (hc : -1000 ≤ c ∧ c ≤ 1000) (hs : -1000 ≤ s ∧ s ≤ 1000) (ha : -1000 ≤ a ∧ a ≤ 1000) (hb : -1000 ≤ b ∧ b ≤ 1000) (hq : x * x + y * y + z * z ≤ 1020100) : (tnZ a b x y z c s).1 * (tnZ a b x y z c s).1 + (tnZ a b x y z c s).2.1 * (tnZ a b x y z c s).2.1 + (tnZ a b x y z c s).2.2 * (tnZ a b x y z c s).2.2 ≤ 2500000 := by
  have hX := turn_x (x := x) (y := y) (z := z) hn h1 h2 hc hq
  obtain ⟨u1, f1, f1b⟩ := tdv (b * z)
  obtain ⟨u2, f2, f2b⟩ := tdv (-(a * z))
  obtain ⟨u3, f3, f3b⟩ := tdv (a * y - b * x)
  obtain ⟨u4, f4, f4b⟩ := tdv (a * x + b * y)
  obtain ⟨u5, f5, f5b⟩ := tdv (a * (a * x + b * y).tdiv 1000)
  obtain ⟨u6, f6, f6b⟩ := tdv (b * (a * x + b * y).tdiv 1000)
  have k5 : 1000 * (a * (a * x + b * y).tdiv 1000) = (a * x + b * y) * a + a * u4 := by
    have : 1000 * (a * (a * x + b * y).tdiv 1000) = a * (1000 * (a * x + b * y).tdiv 1000) := by grind
    rw [this, f4]; grind
  have k6 : 1000 * (b * (a * x + b * y).tdiv 1000) = (a * x + b * y) * b + b * u4 := by
    have : 1000 * (b * (a * x + b * y).tdiv 1000) = b * (1000 * (a * x + b * y).tdiv 1000) := by grind
    rw [this, f4]; grind
  obtain ⟨E1, g1, g1b⟩ := turn_1 (x := x) f1 f5 k5 f1b f5b f4b hc hs ha
  obtain ⟨E2, g2, g2b⟩ := turn_1 (x := y) f2 f6 k6 f2b f6b f4b hc hs hb
  obtain ⟨E3, g3, g3b⟩ := turn_1 (x := z) (P := 0) (aL := 0) (al := 0) (a := 0) (z3 := 0) (z4 := 0) f3 (by omega) (by omega) f3b (by omega) (by omega) hc hs (by omega)
  have n2 : s * -(a * z) = -(s * (a * z)) := Int.mul_neg _ _
  rw [n2] at g2
  rw [Int.mul_zero (1000 - c)] at g3
  unfold tnZ
  simp only
  generalize (x * c + (b * z).tdiv 1000 * s + (a * (a * x + b * y).tdiv 1000).tdiv 1000 * (1000 - c)).tdiv 1000 = t1 at *
  generalize (y * c + (-(a * z)).tdiv 1000 * s + (b * (a * x + b * y).tdiv 1000).tdiv 1000 * (1000 - c)).tdiv 1000 = t2 at *
  generalize (z * c + (a * y - b * x).tdiv 1000 * s + 0 * (1000 - c)).tdiv 1000 = t3 at *
  rw [show 1000000 * (c * y) + 1000 * -(s * (a * z)) = 1000000 * (c * y) - 1000 * (s * (a * z)) by omega] at g2
  rw [Int.add_zero] at g3
  generalize 1000000 * (c * x) + 1000 * (s * (b * z)) + (1000 - c) * ((a * x + b * y) * a) = X1 at *
  generalize 1000000 * (c * y) - 1000 * (s * (a * z)) + (1000 - c) * ((a * x + b * y) * b) = X2 at *
  generalize 1000000 * (c * z) + 1000 * (s * (a * y - b * x)) = X3 at *
  have m1 := two_sq X1 E1
  have m2 := two_sq X2 E2
  have m3 := two_sq X3 E3
  have l1 := sqb_le g1b
  have l2 := sqb_le g2b
  have l3 := sqb_le g3b
  have s1 : (1000000000 * t1) * (1000000000 * t1) = 1000000000000000000 * (t1 * t1) := by grind
  have s2 : (1000000000 * t2) * (1000000000 * t2) = 1000000000000000000 * (t2 * t2) := by grind
  have s3 : (1000000000 * t3) * (1000000000 * t3) = 1000000000000000000 * (t3 * t3) := by grind
  rw [g1] at s1
  rw [g2] at s2
  rw [g3] at s3
  omega
