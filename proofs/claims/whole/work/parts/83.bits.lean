/-! how many bits -/
def byt (x j : Nat) : Nat := x / 256 ^ j % 256
theorem land4 (y r : Nat) (hy : y < 2 ^ 32) (hr : r < 256) : y &&& (r + 256 * r + 65536 * r + 16777216 * r) = (byt y 0 &&& r) + 256 * (byt y 1 &&& r) + 65536 * (byt y 2 &&& r) + 16777216 * (byt y 3 &&& r) := by
  have step : ∀ y m, y &&& (r + 256 * m) = (y % 256 &&& r) + 256 * (y / 256 &&& m) := by
    intro y m
    have h1 : (y &&& (r + 256 * m)) % 2 ^ 8 = y % 256 &&& r := by
      rw [Nat.and_mod_two_pow]
      congr 1
      show (r + 256 * m) % 256 = r
      omega
    have h2 : (y &&& (r + 256 * m)) / 2 ^ 8 = y / 256 &&& m := by
      rw [Nat.and_div_two_pow]
      congr 1
      show (r + 256 * m) / 256 = m
      omega
    omega
  have e1 : r + 256 * r + 65536 * r + 16777216 * r = r + 256 * (r + 256 * (r + 256 * r)) := by omega
  rw [e1, step, step, step]
  have b0 : byt y 0 = y % 256 := by unfold byt; simp
  have b1 : byt y 1 = y / 256 % 256 := by unfold byt; simp
  have b2 : byt y 2 = y / 256 / 256 % 256 := by unfold byt; omega
  have b3 : byt y 3 = y / 256 / 256 / 256 := by unfold byt; omega
  rw [b0, b1, b2, b3]
  omega
def pcb (b : Nat) : Nat := b % 2 + b / 2 % 2 + b / 4 % 2 + b / 8 % 2 + b / 16 % 2 + b / 32 % 2 + b / 64 % 2 + b / 128 % 2
def t1 (b : Nat) : Nat := b - (b / 2 &&& 85)
def t2 (b : Nat) : Nat := (t1 b &&& 51) + (t1 b / 4 &&& 51)
theorem by_tab : ((List.range 256).all fun b => decide ((b &&& 85 = (b % 128 &&& 85)) ∧ (b &&& 51 = (b % 64 &&& 51)) ∧ (b &&& 15 = b % 16) ∧ (b / 2 &&& 85) ≤ b ∧ t1 b < 256 ∧ t2 b % 16 ≤ 4 ∧ t2 b / 16 ≤ 4 ∧ (t2 b + t2 b / 16) % 16 = pcb b ∧ pcb b ≤ 8)) = true := by decide +kernel
theorem by_b {b : Nat} (h : b < 256) : (b &&& 85 = (b % 128 &&& 85)) ∧ (b &&& 51 = (b % 64 &&& 51)) ∧ (b &&& 15 = b % 16) ∧ (b / 2 &&& 85) ≤ b ∧ t1 b < 256 ∧ t2 b % 16 ≤ 4 ∧ t2 b / 16 ≤ 4 ∧ (t2 b + t2 b / 16) % 16 = pcb b ∧ pcb b ≤ 8 := of_decide_eq_true (List.all_eq_true.mp by_tab b (List.mem_range.mpr h))
theorem byt_lt (x j : Nat) : byt x j < 256 := Nat.mod_lt _ (by decide)
theorem byt_all {x : Nat} (hx : x < 2 ^ 32) : x = byt x 0 + 256 * byt x 1 + 65536 * byt x 2 + 16777216 * byt x 3 := by
  have b0 : byt x 0 = x % 256 := by unfold byt; simp
  have b1 : byt x 1 = x / 256 % 256 := by unfold byt; simp
  have b2 : byt x 2 = x / 65536 % 256 := by unfold byt; simp
  have b3 : byt x 3 = x / 16777216 % 256 := by unfold byt; simp
  omega
theorem byt_of {a b c d : Nat} (ha : a < 256) (hb : b < 256) (hc : c < 256) (hd : d < 256) : byt (a + 256 * b + 65536 * c + 16777216 * d) 0 = a ∧ byt (a + 256 * b + 65536 * c + 16777216 * d) 1 = b ∧ byt (a + 256 * b + 65536 * c + 16777216 * d) 2 = c ∧ byt (a + 256 * b + 65536 * c + 16777216 * d) 3 = d := by
  unfold byt
  simp only [Nat.pow_zero, Nat.pow_one, show (256 : Nat) ^ 2 = 65536 from rfl, show (256 : Nat) ^ 3 = 16777216 from rfl]
  omega
/-- the counting in five steps -/
def bc1 (x : Nat) : Nat := x - (x / 2 &&& 1431655765)
def bc2 (x : Nat) : Nat := (x &&& 858993459) + (x / 4 &&& 858993459)
def bc3 (x : Nat) : Nat := (x + x / 16) &&& 252645135
theorem bc_all {x : Nat} (hx : x < 2 ^ 32) : (x / 2 &&& 1431655765) ≤ x ∧ bc1 x < 2 ^ 32 ∧ bc2 (bc1 x) < 2 ^ 32 ∧ bc2 (bc1 x) + bc2 (bc1 x) / 16 < 2 ^ 32 ∧ bc3 (bc2 (bc1 x)) = pcb (byt x 0) + 256 * pcb (byt x 1) + 65536 * pcb (byt x 2) + 16777216 * pcb (byt x 3) := by
  have h0 := byt_lt x 0
  have h1 := byt_lt x 1
  have h2 := byt_lt x 2
  have h3 := byt_lt x 3
  have ex := byt_all hx
  generalize byt x 0 = a at *
  generalize byt x 1 = b at *
  generalize byt x 2 = c at *
  generalize byt x 3 = e at *
  obtain ⟨a1, a2, a3, a4, a5, a6, a7, a8, a9⟩ := by_b h0
  obtain ⟨b1, b2, b3, b4, b5, b6, b7, b8, b9⟩ := by_b h1
  obtain ⟨c1, c2, c3, c4, c5, c6, c7, c8, c9⟩ := by_b h2
  obtain ⟨e1, e2, e3, e4, e5, e6, e7, e8, e9⟩ := by_b h3
  -- first
  have l1 : x / 2 &&& 1431655765 = (a / 2 &&& 85) + 256 * (b / 2 &&& 85) + 65536 * (c / 2 &&& 85) + 16777216 * (e / 2 &&& 85) := by
    have hb := byt_of (a := a / 2 + 128 * (b % 2)) (b := b / 2 + 128 * (c % 2)) (c := c / 2 + 128 * (e % 2)) (d := e / 2) (by omega) (by omega) (by omega) (by omega)
    have eq : x / 2 = (a / 2 + 128 * (b % 2)) + 256 * (b / 2 + 128 * (c % 2)) + 65536 * (c / 2 + 128 * (e % 2)) + 16777216 * (e / 2) := by omega
    rw [← eq] at hb
    rw [show (1431655765 : Nat) = 85 + 256 * 85 + 65536 * 85 + 16777216 * 85 from rfl, land4 _ 85 (by omega) (by omega), hb.1, hb.2.1, hb.2.2.1, hb.2.2.2, (by_b (b := a / 2 + 128 * (b % 2)) (by omega)).1, (by_b (b := b / 2 + 128 * (c % 2)) (by omega)).1, (by_b (b := c / 2 + 128 * (e % 2)) (by omega)).1, show (a / 2 + 128 * (b % 2)) % 128 = a / 2 by omega, show (b / 2 + 128 * (c % 2)) % 128 = b / 2 by omega, show (c / 2 + 128 * (e % 2)) % 128 = c / 2 by omega]
  have hle : (x / 2 &&& 1431655765) ≤ x := by omega
  have s1 : bc1 x = t1 a + 256 * t1 b + 65536 * t1 c + 16777216 * t1 e := by
    unfold bc1 t1
    omega
  have s1b : bc1 x < 2 ^ 32 := by omega
  -- second
  have q1 := byt_of a5 b5 c5 e5
  rw [← s1] at q1
  have l2 : bc1 x &&& 858993459 = (t1 a &&& 51) + 256 * (t1 b &&& 51) + 65536 * (t1 c &&& 51) + 16777216 * (t1 e &&& 51) := by
    rw [show (858993459 : Nat) = 51 + 256 * 51 + 65536 * 51 + 16777216 * 51 from rfl, land4 _ 51 (by omega) (by omega), q1.1, q1.2.1, q1.2.2.1, q1.2.2.2]
  have l3 : bc1 x / 4 &&& 858993459 = (t1 a / 4 &&& 51) + 256 * (t1 b / 4 &&& 51) + 65536 * (t1 c / 4 &&& 51) + 16777216 * (t1 e / 4 &&& 51) := by
    have hb := byt_of (a := t1 a / 4 + 64 * (t1 b % 4)) (b := t1 b / 4 + 64 * (t1 c % 4)) (c := t1 c / 4 + 64 * (t1 e % 4)) (d := t1 e / 4) (by omega) (by omega) (by omega) (by omega)
    have eq : bc1 x / 4 = (t1 a / 4 + 64 * (t1 b % 4)) + 256 * (t1 b / 4 + 64 * (t1 c % 4)) + 65536 * (t1 c / 4 + 64 * (t1 e % 4)) + 16777216 * (t1 e / 4) := by omega
    rw [← eq] at hb
    rw [show (858993459 : Nat) = 51 + 256 * 51 + 65536 * 51 + 16777216 * 51 from rfl, land4 _ 51 (by omega) (by omega), hb.1, hb.2.1, hb.2.2.1, hb.2.2.2, (by_b (b := t1 a / 4 + 64 * (t1 b % 4)) (by omega)).2.1, (by_b (b := t1 b / 4 + 64 * (t1 c % 4)) (by omega)).2.1, (by_b (b := t1 c / 4 + 64 * (t1 e % 4)) (by omega)).2.1, show (t1 a / 4 + 64 * (t1 b % 4)) % 64 = t1 a / 4 by omega, show (t1 b / 4 + 64 * (t1 c % 4)) % 64 = t1 b / 4 by omega, show (t1 c / 4 + 64 * (t1 e % 4)) % 64 = t1 c / 4 by omega]
  have s2 : bc2 (bc1 x) = t2 a + 256 * t2 b + 65536 * t2 c + 16777216 * t2 e := by
    unfold bc2
    rw [l2, l3]
    unfold t2
    omega
  -- third
  refine ⟨hle, s1b, by omega, by omega, ?_⟩
  have hb := byt_of (a := t2 a + t2 a / 16 + 16 * (t2 b % 16)) (b := t2 b + t2 b / 16 + 16 * (t2 c % 16)) (c := t2 c + t2 c / 16 + 16 * (t2 e % 16)) (d := t2 e + t2 e / 16) (by omega) (by omega) (by omega) (by omega)
  have eq : bc2 (bc1 x) + bc2 (bc1 x) / 16 = (t2 a + t2 a / 16 + 16 * (t2 b % 16)) + 256 * (t2 b + t2 b / 16 + 16 * (t2 c % 16)) + 65536 * (t2 c + t2 c / 16 + 16 * (t2 e % 16)) + 16777216 * (t2 e + t2 e / 16) := by omega
  unfold bc3
  rw [← eq] at hb
  rw [show (252645135 : Nat) = 15 + 256 * 15 + 65536 * 15 + 16777216 * 15 from rfl, land4 _ 15 (by omega) (by omega), hb.1, hb.2.1, hb.2.2.1, hb.2.2.2, (by_b (b := t2 a + t2 a / 16 + 16 * (t2 b % 16)) (by omega)).2.2.1, (by_b (b := t2 b + t2 b / 16 + 16 * (t2 c % 16)) (by omega)).2.2.1, (by_b (b := t2 c + t2 c / 16 + 16 * (t2 e % 16)) (by omega)).2.2.1, (by_b (b := t2 e + t2 e / 16) (by omega)).2.2.1]
  rw [Nat.add_mul_mod_self_left, Nat.add_mul_mod_self_left, Nat.add_mul_mod_self_left, a8, b8, c8, e8]
/-- a number's bits as a number -/
def nB (a : Int32) : Nat := a.toBitVec.toNat
theorem nB_lt (a : Int32) : nB a < 2 ^ 32 := a.toBitVec.isLt
theorem nB_add (a b : Int32) : nB (a + b) = (nB a + nB b) % 2 ^ 32 := by
  unfold nB
  rw [Int32.toBitVec_add, BitVec.toNat_add]
theorem nB_sub (a b : Int32) : nB (a - b) = (2 ^ 32 - nB b + nB a) % 2 ^ 32 := by
  unfold nB
  rw [Int32.toBitVec_sub, BitVec.toNat_sub]
theorem nB_and (a b : Int32) : nB (a &&& b) = nB a &&& nB b := by
  unfold nB
  rw [Int32.toBitVec_and, BitVec.toNat_and]
theorem nB_nI {n : Nat} (h : n < 2 ^ 31) : nB (nI n) = n := by
  show (BitVec.ofNat 32 n).toNat = n
  rw [BitVec.toNat_ofNat]
  exact Nat.mod_eq_of_lt (by omega)
theorem nB_inj {a b : Int32} (h : nB a = nB b) : a = b := Int32.toBitVec_inj.mp (BitVec.eq_of_toNat_eq h)
theorem nB_shr (a : Int32) {k : Int32} {j : Nat} (hk : (k.toUInt32 &&& Int32.toUInt32 31).toNat = j) (hj : j < 32) : nB ((a.toUInt32 >>> (k.toUInt32 &&& Int32.toUInt32 31)).toInt32) = nB a / 2 ^ j := by
  show (a.toUInt32 >>> (k.toUInt32 &&& Int32.toUInt32 31)).toNat = _
  rw [UInt32.toNat_shiftRight, hk, Nat.mod_eq_of_lt hj, Nat.shiftRight_eq_div_pow]
  rfl
def popN (x : Nat) : Nat := pcb (byt x 0) + pcb (byt x 1) + pcb (byt x 2) + pcb (byt x 3)
section BIT
variable {d sl : Nat} {p : Nat → Nat} {I I' : Nat → Nat → Int32} {J J' : Nat → Nat → Int64} {D : Nat → Nat → Int32} {e : Nat}
theorem sp_bitCount (a : Int32) : den d 308 [.int a] (S sl p I J) = some (some (.int (nI (popN (nB a)))), S sl p I J) := by
  have hx := nB_lt a
  obtain ⟨g1, g2, g3, g4, g5⟩ := bc_all hx
  have p0 := (by_b (byt_lt (nB a) 0)).2.2.2.2.2.2.2.2
  have p1 := (by_b (byt_lt (nB a) 1)).2.2.2.2.2.2.2.2
  have p2 := (by_b (byt_lt (nB a) 2)).2.2.2.2.2.2.2.2
  have p3 := (by_b (byt_lt (nB a) 3)).2.2.2.2.2.2.2.2
  rw [E308_0]
  have s1 : nB (a - ((a.toUInt32 >>> ((1 : Int32).toUInt32 &&& Int32.toUInt32 31)).toInt32 &&& 1431655765)) = bc1 (nB a) := by
    rw [nB_sub, nB_and, nB_shr a (j := 1) (by decide) (by decide), show nB 1431655765 = 1431655765 from rfl, Nat.pow_one]
    unfold bc1
    omega
  generalize a - ((a.toUInt32 >>> ((1 : Int32).toUInt32 &&& Int32.toUInt32 31)).toInt32 &&& 1431655765) = b at s1
  have s2 : nB ((b &&& 858993459) + ((b.toUInt32 >>> ((2 : Int32).toUInt32 &&& Int32.toUInt32 31)).toInt32 &&& 858993459)) = bc2 (bc1 (nB a)) := by
    rw [nB_add, nB_and, nB_and, nB_shr b (j := 2) (by decide) (by decide), show nB 858993459 = 858993459 from rfl, s1]
    unfold bc2 at g3 ⊢
    exact Nat.mod_eq_of_lt g3
  generalize (b &&& 858993459) + ((b.toUInt32 >>> ((2 : Int32).toUInt32 &&& Int32.toUInt32 31)).toInt32 &&& 858993459) = c at s2
  have s3 : nB ((c + (c.toUInt32 >>> ((4 : Int32).toUInt32 &&& Int32.toUInt32 31)).toInt32) &&& 252645135) = bc3 (bc2 (bc1 (nB a))) := by
    rw [nB_and, nB_add, nB_shr c (j := 4) (by decide) (by decide), show nB 252645135 = 252645135 from rfl, s2]
    unfold bc3
    rw [Nat.mod_eq_of_lt g4]
  generalize (c + (c.toUInt32 >>> ((4 : Int32).toUInt32 &&& Int32.toUInt32 31)).toInt32) &&& 252645135 = w at s3
  rw [g5] at s3
  have s4 : nB (w + (w.toUInt32 >>> ((8 : Int32).toUInt32 &&& Int32.toUInt32 31)).toInt32) = nB w + nB w / 256 := by
    rw [nB_add, nB_shr w (j := 8) (by decide) (by decide)]
    exact Nat.mod_eq_of_lt (by omega)
  generalize w + (w.toUInt32 >>> ((8 : Int32).toUInt32 &&& Int32.toUInt32 31)).toInt32 = v at s4
  have s5 : nB ((v + (v.toUInt32 >>> ((16 : Int32).toUInt32 &&& Int32.toUInt32 31)).toInt32) &&& 63) = (nB v + nB v / 65536) % 64 := by
    rw [nB_and, nB_add, nB_shr v (j := 16) (by decide) (by decide), show nB 63 = 2 ^ 6 - 1 from rfl, Nat.and_two_pow_sub_one_eq_mod]
    rw [Nat.mod_eq_of_lt (show nB v + nB v / 2 ^ 16 < 2 ^ 32 by omega)]
  have fin : (v + (v.toUInt32 >>> ((16 : Int32).toUInt32 &&& Int32.toUInt32 31)).toInt32) &&& 63 = nI (popN (nB a)) := by
    apply nB_inj
    unfold popN
    rw [s5, nB_nI (by omega), s4, s3]
    generalize pcb (byt (nB a) 0) = x0 at *
    generalize pcb (byt (nB a) 1) = x1 at *
    generalize pcb (byt (nB a) 2) = x2 at *
    generalize pcb (byt (nB a) 3) = x3 at *
    have e1 : (x0 + 256 * x1 + 65536 * x2 + 16777216 * x3) / 256 = x1 + 256 * x2 + 65536 * x3 := by omega
    rw [e1]
    have e2 : (x0 + 256 * x1 + 65536 * x2 + 16777216 * x3 + (x1 + 256 * x2 + 65536 * x3)) / 65536 = x2 + x3 + 256 * x3 := by omega
    rw [e2]
    omega
  rw [fin]
/-- the bits of what holds -/
def biN (P : Nat → Bool) : Nat → Int32
  | 0 => 0
  | n + 1 => if P n = true then biN P n ||| (1 <<< (nI n &&& 31)) else biN P n
def bsN (P : Nat → Bool) : Nat → Nat
  | 0 => 0
  | n + 1 => bsN P n + if P n = true then 2 ^ n else 0
theorem bsN_lt {P : Nat → Bool} : ∀ n, bsN P n < 2 ^ n
  | 0 => show 0 < 1 by decide
  | n + 1 => by
    have := bsN_lt (P := P) n
    show bsN P n + (if P n = true then 2 ^ n else 0) < 2 ^ (n + 1)
    rw [Nat.pow_succ]
    split <;> omega
theorem sh_tab : ((List.range 30).all fun k => decide (nB (1 <<< (nI k &&& 31)) = 2 ^ k)) = true := by decide +kernel
theorem biN_nB {P : Nat → Bool} : ∀ n, n ≤ 30 → nB (biN P n) = bsN P n
  | 0, _ => rfl
  | n + 1, h => by
    have ih := biN_nB (P := P) n (by omega)
    have hl := bsN_lt (P := P) n
    show nB (if P n = true then biN P n ||| (1 <<< (nI n &&& 31)) else biN P n) = bsN P n + if P n = true then 2 ^ n else 0
    split
    · have e1 : nB (biN P n ||| (1 <<< (nI n &&& 31))) = nB (biN P n) ||| nB (1 <<< (nI n &&& 31)) := by
        unfold nB
        rw [Int32.toBitVec_or, BitVec.toNat_or]
      rw [e1, ih, of_decide_eq_true (List.all_eq_true.mp sh_tab n (List.mem_range.mpr (by omega)))]
      have := Nat.two_pow_add_eq_or_of_lt hl 1
      rw [Nat.mul_one] at this
      rw [Nat.or_comm, ← this, Nat.add_comm]
    · rw [ih]; rfl
/-- the bits one by one -/
def pop30 (x : Nat) : Nat := smN (fun k => x / 2 ^ k % 2) 30
theorem smN_s {f : Nat → Nat} {n : Nat} : smN f (n + 1) = smN f n + f n := rfl
theorem smN_c {f g : Nat → Nat} : ∀ n, (∀ k, k < n → f k = g k) → smN f n = smN g n
  | 0, _ => rfl
  | n + 1, h => by rw [smN_s, smN_s, smN_c n (fun k hk => h k (by omega)), h n (by omega)]
theorem bs_bit {P : Nat → Bool} : ∀ n k, bsN P n / 2 ^ k % 2 = if k < n ∧ P k = true then 1 else 0
  | 0, k => by
    rw [if_neg (by omega)]
    show 0 / 2 ^ k % 2 = 0
    rw [Nat.zero_div]
  | n + 1, k => by
    have ih := bs_bit (P := P) n k
    have hl := bsN_lt (P := P) n
    have es : bsN P (n + 1) = bsN P n + if P n = true then 2 ^ n else 0 := rfl
    rw [es]
    rcases Nat.lt_trichotomy k n with w | w | w
    · have e1 : (bsN P n + if P n = true then 2 ^ n else 0) / 2 ^ k % 2 = bsN P n / 2 ^ k % 2 := by
        split
        · obtain ⟨j, rfl⟩ : ∃ j, n = k + 1 + j := ⟨n - k - 1, by omega⟩
          have e2 : (2 : Nat) ^ (k + 1 + j) = 2 ^ k * (2 * 2 ^ j) := by rw [Nat.pow_add, Nat.pow_succ]; grind
          rw [e2, Nat.add_mul_div_left _ _ (Nat.two_pow_pos k), Nat.add_mul_mod_self_left]
        · rfl
      rw [e1, ih]
      by_cases q : P k = true
      · rw [if_pos ⟨w, q⟩, if_pos ⟨by omega, q⟩]
      · rw [if_neg (fun z => q z.2), if_neg (fun z => q z.2)]
    · subst w
      by_cases q : P k = true
      · rw [if_pos q, if_pos ⟨by omega, q⟩]
        have e1 : (bsN P k + 2 ^ k) / 2 ^ k = 1 := by
          rw [Nat.add_div_right _ (Nat.two_pow_pos k), Nat.div_eq_of_lt hl]
        rw [e1]
      · rw [if_neg q, if_neg (fun z => q z.2), Nat.add_zero, Nat.div_eq_of_lt hl]
    · rw [if_neg (show ¬ (k < n + 1 ∧ P k = true) from fun z => by omega)]
      have h2 := bsN_lt (P := P) (n + 1)
      rw [es] at h2
      have h3 : (2 : Nat) ^ (n + 1) ≤ 2 ^ k := Nat.pow_le_pow_right (by omega) (by omega)
      rw [Nat.div_eq_of_lt (by omega)]
theorem pop30_cnt {P : Nat → Bool} {n : Nat} (hn : n ≤ 30) : pop30 (bsN P n) = cnt P n := by
  have key : ∀ m, smN (fun k => if k < n ∧ P k = true then 1 else 0) m = cnt P (if m < n then m else n) := by
    intro m
    induction m with
    | zero =>
      rcases Nat.eq_zero_or_pos n with w | w
      · rw [if_neg (by omega), w]; rfl
      · rw [if_pos w]; rfl
    | succ m ih =>
      rw [smN_s, ih]
      by_cases c : m < n
      · rw [if_pos c]
        have e1 : (if m + 1 < n then m + 1 else n) = m + 1 := by split <;> omega
        rw [e1, cnt_s]
        by_cases q : P m = true
        · rw [if_pos ⟨c, q⟩, if_pos q]
        · rw [if_neg (fun z => q z.2), if_neg q]
      · rw [if_neg c, if_neg (show ¬ (m < n ∧ P m = true) from fun z => c z.1), if_neg (show ¬ m + 1 < n by omega)]
        rfl
  unfold pop30
  rw [smN_c 30 (fun k _ => bs_bit n k), key 30]
  congr 1
  split <;> omega
theorem bit_b {y i : Nat} (hi : i < 8) : y % 256 / 2 ^ i % 2 = y / 2 ^ i % 2 := by
  have : i = 0 ∨ i = 1 ∨ i = 2 ∨ i = 3 ∨ i = 4 ∨ i = 5 ∨ i = 6 ∨ i = 7 := by omega
  rcases this with rfl | rfl | rfl | rfl | rfl | rfl | rfl | rfl
  · omega
  · omega
  · omega
  · omega
  · omega
  · omega
  · omega
  · omega
theorem pcb_s {x j : Nat} {f : Nat → Nat} (hf : ∀ k, f k = x / 2 ^ k % 2) : pcb (byt x j) = f (8 * j) + f (8 * j + 1) + f (8 * j + 2) + f (8 * j + 3) + f (8 * j + 4) + f (8 * j + 5) + f (8 * j + 6) + f (8 * j + 7) := by
  have e : ∀ i, i < 8 → byt x j / 2 ^ i % 2 = f (8 * j + i) := fun i hi => by
    unfold byt
    rw [bit_b hi, hf, Nat.div_div_eq_div_mul, show (256 : Nat) = 2 ^ 8 from rfl, ← Nat.pow_mul, ← Nat.pow_add]
  have e0 := e 0 (by omega)
  have e1 := e 1 (by omega)
  have e2 := e 2 (by omega)
  have e3 := e 3 (by omega)
  have e4 := e 4 (by omega)
  have e5 := e 5 (by omega)
  have e6 := e 6 (by omega)
  have e7 := e 7 (by omega)
  simp only [Nat.reducePow, Nat.div_one, Nat.add_zero] at e0 e1 e2 e3 e4 e5 e6 e7
  unfold pcb
  rw [e0, e1, e2, e3, e4, e5, e6, e7]
theorem popN_30 {x : Nat} (hx : x < 2 ^ 30) : popN x = pop30 x := by
  obtain ⟨f, hf⟩ : ∃ f : Nat → Nat, ∀ k, f k = x / 2 ^ k % 2 := ⟨fun k => x / 2 ^ k % 2, fun _ => rfl⟩
  unfold popN pop30
  rw [smN_c (g := f) 30 (fun k _ => (hf k).symm), pcb_s hf, pcb_s hf, pcb_s hf, pcb_s hf]
  have y6 : f 30 = 0 := by rw [hf, Nat.div_eq_of_lt hx]
  have y7 : f 31 = 0 := by rw [hf, Nat.div_eq_of_lt (Nat.lt_of_lt_of_le hx (by decide))]
  show f 0 + f 1 + f 2 + f 3 + f 4 + f 5 + f 6 + f 7 + (f 8 + f 9 + f 10 + f 11 + f 12 + f 13 + f 14 + f 15) + (f 16 + f 17 + f 18 + f 19 + f 20 + f 21 + f 22 + f 23) + (f 24 + f 25 + f 26 + f 27 + f 28 + f 29 + f 30 + f 31) = 0 + f 0 + f 1 + f 2 + f 3 + f 4 + f 5 + f 6 + f 7 + f 8 + f 9 + f 10 + f 11 + f 12 + f 13 + f 14 + f 15 + f 16 + f 17 + f 18 + f 19 + f 20 + f 21 + f 22 + f 23 + f 24 + f 25 + f 26 + f 27 + f 28 + f 29
  rw [y6, y7]
  simp only [Nat.add_assoc, Nat.add_zero, Nat.zero_add]
theorem smod_tab : ((List.range 30).all fun k => decide (((nI k).toBitVec.smod 32#32).toNat = k)) = true := by decide +kernel
theorem nB_sar {x k : Nat} (hx : x < 2 ^ 30) (hk : k < 30) : nB (nI x >>> nI k) = x / 2 ^ k := by
  have hm : (nI x).toBitVec.msb = false := BitVec.msb_eq_false_iff_two_mul_lt.mpr (by
    have := nB_nI (n := x) (by omega)
    unfold nB at this
    rw [this]
    omega)
  have hs := of_decide_eq_true (List.all_eq_true.mp smod_tab k (List.mem_range.mpr hk))
  unfold nB
  rw [Int32.toBitVec_shiftRight]
  show ((nI x).toBitVec.sshiftRight ((nI k).toBitVec.smod 32#32).toNat).toNat = _
  rw [hs, BitVec.sshiftRight_eq_of_msb_false hm, BitVec.toNat_ushiftRight, Nat.shiftRight_eq_div_pow]
  have := nB_nI (n := x) (by omega)
  unfold nB at this
  rw [this]
theorem C_bits {P : Nat → Bool} {n : Nat} (hn : n ≤ 30) : den d 308 [.int (biN P n)] (S sl p I J) = some (some (.int (nI (cnt P n))), S sl p I J) := by
  have hl := bsN_lt (P := P) n
  have h2 : (2 : Nat) ^ n ≤ 2 ^ 30 := Nat.pow_le_pow_right (by omega) hn
  rw [sp_bitCount, biN_nB n hn, popN_30 (by omega), pop30_cnt hn]
theorem M_bits {P : Nat → Bool} {n : Nat} (hn : n ≤ 30) : den d 291 [.int (biN P n)] (S sl p I J) = some (some (.int (nI (cnt P n))), S sl p I J) := by
  have hl := bsN_lt (P := P) n
  have h2 : (2 : Nat) ^ n ≤ 2 ^ 30 := Nat.pow_le_pow_right (by omega) hn
  have hx : biN P n = nI (bsN P n) := nB_inj (by rw [biN_nB n hn, nB_nI (by omega)])
  obtain ⟨u, e1, g1⟩ := for_ex (M := Int32) (fun k u => ev d 291 4 [.int (biN P n), .int u, .int k] [] (S sl p I J)) 30 (fun k u => u = nI (smN (fun k => bsN P n / 2 ^ k % 2) k))
    (by
      intro k u hk hu
      have hs : (biN P n >>> (nI k &&& 31)) &&& 1 = nI (bsN P n / 2 ^ k % 2) := by
        have e31 : nI k &&& 31 = nI k := by
          have tab : ((List.range 30).all fun k => decide (nI k &&& 31 = nI k)) = true := by decide +kernel
          exact of_decide_eq_true (List.all_eq_true.mp tab k (List.mem_range.mpr hk))
        rw [e31, hx]
        apply nB_inj
        have : bsN P n / 2 ^ k % 2 < 2 := Nat.mod_lt _ (by decide)
        rw [nB_and, nB_sar (by omega) hk, nB_nI (by omega), show nB 1 = 2 ^ 1 - 1 from rfl, Nat.and_two_pow_sub_one_eq_mod]
      rw [E291_4, if_pos (show nI k < 30 from lt_n (n := 30) hk (by decide)), hs, hu, nI_add, nI_1]
      exact ⟨_, rfl, by rw [smN_s]⟩)
    0 rfl
  rw [E291_0, e1, E291_4, if_neg (by decide), g1, show smN (fun k => bsN P n / 2 ^ k % 2) 30 = pop30 (bsN P n) from rfl, pop30_cnt hn]
end BIT
