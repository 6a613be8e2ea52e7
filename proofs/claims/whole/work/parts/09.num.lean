/-! numbers: what Java's ints and longs are as whole numbers -/
theorem t32 (x : Int32) : -2147483648 ≤ x.toInt ∧ x.toInt ≤ 2147483647 := by
  have h1 := Int32.le_toInt x
  have h2 := Int32.toInt_lt x
  omega
theorem t64 (x : Int64) : -9223372036854775808 ≤ x.toInt ∧ x.toInt ≤ 9223372036854775807 := by
  have h1 := Int64.le_toInt x
  have h2 := Int64.toInt_lt x
  omega
theorem bm32 {z : Int} (h1 : -2147483648 ≤ z) (h2 : z ≤ 2147483647) : z.bmod (2 ^ 32) = z := Int.bmod_eq_of_le (by omega) (by omega)
theorem bm64 {z : Int} (h1 : -9223372036854775808 ≤ z) (h2 : z ≤ 9223372036854775807) : z.bmod (2 ^ 64) = z := Int.bmod_eq_of_le (by omega) (by omega)
theorem add32 {a b : Int32} (h1 : -2147483648 ≤ a.toInt + b.toInt) (h2 : a.toInt + b.toInt ≤ 2147483647) : (a + b).toInt = a.toInt + b.toInt := by
  rw [Int32.toInt_add]; exact bm32 h1 h2
theorem sub32 {a b : Int32} (h1 : -2147483648 ≤ a.toInt - b.toInt) (h2 : a.toInt - b.toInt ≤ 2147483647) : (a - b).toInt = a.toInt - b.toInt := by
  rw [Int32.toInt_sub]; exact bm32 h1 h2
theorem mul32 {a b : Int32} (h1 : -2147483648 ≤ a.toInt * b.toInt) (h2 : a.toInt * b.toInt ≤ 2147483647) : (a * b).toInt = a.toInt * b.toInt := by
  rw [Int32.toInt_mul]; exact bm32 h1 h2
theorem neg32 {a : Int32} (h1 : -2147483647 ≤ a.toInt) : (-a).toInt = -a.toInt := by
  rw [Int32.toInt_neg]; exact bm32 (by have := t32 a; omega) (by omega)
theorem add64 {a b : Int64} (h1 : -9223372036854775808 ≤ a.toInt + b.toInt) (h2 : a.toInt + b.toInt ≤ 9223372036854775807) : (a + b).toInt = a.toInt + b.toInt := by
  rw [Int64.toInt_add]; exact bm64 h1 h2
theorem sub64 {a b : Int64} (h1 : -9223372036854775808 ≤ a.toInt - b.toInt) (h2 : a.toInt - b.toInt ≤ 9223372036854775807) : (a - b).toInt = a.toInt - b.toInt := by
  rw [Int64.toInt_sub]; exact bm64 h1 h2
theorem mul64 {a b : Int64} (h1 : -9223372036854775808 ≤ a.toInt * b.toInt) (h2 : a.toInt * b.toInt ≤ 9223372036854775807) : (a * b).toInt = a.toInt * b.toInt := by
  rw [Int64.toInt_mul]; exact bm64 h1 h2
theorem neg64 {a : Int64} (h1 : -9223372036854775807 ≤ a.toInt) : (-a).toInt = -a.toInt := by
  rw [Int64.toInt_neg]; exact bm64 (by have := t64 a; omega) (by omega)
theorem tdiv_le {a b : Int} (hb : 0 < b) : -a.natAbs ≤ a.tdiv b ∧ a.tdiv b ≤ a.natAbs := by
  have h := Int.natAbs_tdiv_le_natAbs a b
  omega
theorem tdiv_np {a b : Int} (ha : a ≤ 0) (hb : 0 ≤ b) : a.tdiv b ≤ 0 := by
  have := Int.tdiv_nonneg (a := -a) (b := b) (by omega) hb
  rw [Int.neg_tdiv] at this
  omega
theorem div32 {a b : Int32} (hb : 0 < b.toInt) : (a / b).toInt = a.toInt.tdiv b.toInt := by
  rw [Int32.toInt_div]
  have h1 := t32 a
  have h2 : (a.toInt.tdiv b.toInt).natAbs ≤ a.toInt.natAbs := Int.natAbs_tdiv_le_natAbs _ _
  by_cases h0 : 0 ≤ a.toInt
  · have h3 := Int.tdiv_nonneg h0 (Int.le_of_lt hb)
    exact bm32 (by omega) (by omega)
  · have h3 : a.toInt.tdiv b.toInt ≤ 0 := tdiv_np (by omega) (Int.le_of_lt hb)
    exact bm32 (by omega) (by omega)
theorem div64 {a b : Int64} (hb : 0 < b.toInt) : (a / b).toInt = a.toInt.tdiv b.toInt := by
  rw [Int64.toInt_div]
  have h1 := t64 a
  have h2 : (a.toInt.tdiv b.toInt).natAbs ≤ a.toInt.natAbs := Int.natAbs_tdiv_le_natAbs _ _
  by_cases h0 : 0 ≤ a.toInt
  · have h3 := Int.tdiv_nonneg h0 (Int.le_of_lt hb)
    exact bm64 (by omega) (by omega)
  · have h3 : a.toInt.tdiv b.toInt ≤ 0 := tdiv_np (by omega) (Int.le_of_lt hb)
    exact bm64 (by omega) (by omega)
theorem rem32 {a b : Int32} (hb : 0 < b.toInt) : (a - a / b * b).toInt = a.toInt.tmod b.toInt := by
  have h1 := t32 a
  have e := Int.mul_tdiv_add_tmod a.toInt b.toInt
  have e2 : b.toInt * a.toInt.tdiv b.toInt = a.toInt.tdiv b.toInt * b.toInt := Int.mul_comm _ _
  rw [e2] at e
  have hd := div32 (a := a) hb
  by_cases h0 : 0 ≤ a.toInt
  · have h3 := Int.tmod_nonneg b.toInt h0
    have h4 := Int.mul_nonneg (Int.tdiv_nonneg h0 (Int.le_of_lt hb)) (Int.le_of_lt hb)
    have hm : (a / b * b).toInt = a.toInt.tdiv b.toInt * b.toInt := by rw [mul32 (by rw [hd]; omega) (by rw [hd]; omega), hd]
    rw [sub32 (by rw [hm]; omega) (by rw [hm]; omega), hm]
    omega
  · have h3 : a.toInt.tmod b.toInt ≤ 0 := by
      have := Int.tmod_nonneg b.toInt (a := -a.toInt) (by omega)
      rw [Int.neg_tmod] at this
      omega
    have h5 : a.toInt.tdiv b.toInt ≤ 0 := tdiv_np (by omega) (Int.le_of_lt hb)
    have h4 : a.toInt.tdiv b.toInt * b.toInt ≤ 0 := Int.mul_nonpos_of_nonpos_of_nonneg h5 (Int.le_of_lt hb)
    have hm : (a / b * b).toInt = a.toInt.tdiv b.toInt * b.toInt := by rw [mul32 (by rw [hd]; omega) (by rw [hd]; omega), hd]
    rw [sub32 (by rw [hm]; omega) (by rw [hm]; omega), hm]
    omega
theorem xor_sign (a : Int32) : 0 ≤ a ^^^ 360 ↔ 0 ≤ a := by
  rw [Int32.le_iff_toInt_le, Int32.le_iff_toInt_le]
  have h1 : ∀ x : Int32, (0 ≤ x.toInt) ↔ x.toBitVec.msb = false := by
    intro x
    have := BitVec.msb_eq_toInt (x := x.toBitVec)
    rw [this]
    show 0 ≤ x.toBitVec.toInt ↔ _
    simp
  rw [show (0 : Int32).toInt = 0 from rfl, h1, h1, Int32.toBitVec_xor, BitVec.msb_xor]
  rw [show (360 : Int32).toBitVec.msb = false by decide]
  simp
theorem fm_nn {a : Int32} (h : 0 ≤ a ^^^ 360) : ¬ a - a / 360 * 360 < 0 := by
  rw [xor_sign, Int32.le_iff_toInt_le] at h
  rw [Int32.lt_iff_toInt_lt, rem32 (by decide)]
  have := Int.tmod_nonneg (360 : Int) h
  show ¬ a.toInt.tmod 360 < 0
  omega
theorem fm_neg {a : Int32} (h : ¬ 0 ≤ a ^^^ 360) (h2 : ¬ a - a / 360 * 360 = 0) : a - a / 360 * 360 < 0 := by
  rw [xor_sign, Int32.le_iff_toInt_le] at h
  have h4 : (a - a / 360 * 360).toInt = a.toInt.tmod 360 := rem32 (by decide)
  have h5 : ¬ (a - a / 360 * 360).toInt = 0 := fun q => h2 (Int32.toInt_inj.mp q)
  rw [Int32.lt_iff_toInt_lt]
  show (a - a / 360 * 360).toInt < 0
  rw [h4] at h5 ⊢
  have h' : ¬ (0 : Int) ≤ a.toInt := h
  have := Int.tmod_nonneg (360 : Int) (a := -a.toInt) (by omega)
  rw [Int.neg_tmod] at this
  omega
theorem rem_eq (a : Int32) : a % 360 = a - a / 360 * 360 := by
  apply Int32.toInt_inj.mp
  rw [rem32 (by decide), Int32.toInt_mod]
