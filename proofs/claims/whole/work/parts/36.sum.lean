/-! SUMS and MEANS -/
def addS (m : V3 × Int64) (w : Int32) (t : Bool) (x : V3) : V3 × Int64 := ((m.1.1 + (if t then -w else w).toInt64 * x.1, m.1.2.1 + (if t then -w else w).toInt64 * x.2.1, m.1.2.2 + (if t then -w else w).toInt64 * x.2.2), m.2 + w.toInt64)
def noS : V3 × Int64 := ((0, 0, 0), 0)
/-- the sum of what is picked -/
def smP (D : Nat → Nat → Int32) (P : Nat → Bool) (v : V3) : Nat → V3 × Int64
  | 0 => noS
  | n + 1 => if P n then addS (smP D P v n) (wt D n) (decide (vd (pv D n) v < 0)) (pv D n) else smP D P v n
theorem smP_c {D : Nat → Nat → Int32} {P Q : Nat → Bool} {v : V3} : ∀ n, (∀ j, j < n → P j = Q j) → smP D P v n = smP D Q v n
  | 0, _ => rfl
  | n + 1, h => by
    show (if P n then addS (smP D P v n) _ _ _ else smP D P v n) = (if Q n then addS (smP D Q v n) _ _ _ else smP D Q v n)
    rw [smP_c n (fun j hj => h j (by omega)), h n (by omega)]
/-- how far a sum goes after k: all numbers within K times the mass -/
def sB (K : Int) (k : Nat) (m : V3 × Int64) : Prop := 0 ≤ m.2.toInt ∧ m.2.toInt ≤ 20000 * k ∧ (-(K * m.2.toInt) ≤ m.1.1.toInt ∧ m.1.1.toInt ≤ K * m.2.toInt) ∧ (-(K * m.2.toInt) ≤ m.1.2.1.toInt ∧ m.1.2.1.toInt ≤ K * m.2.toInt) ∧ (-(K * m.2.toInt) ≤ m.1.2.2.toInt ∧ m.1.2.2.toInt ≤ K * m.2.toInt)
theorem noS_B {K : Int} : sB K 0 noS := by
  have h : (0 : Int64).toInt = 0 := rfl
  unfold sB noS
  simp only [h]
  omega
theorem add_b1 {K : Int} {k : Nat} (hK : 0 ≤ K) (hK2 : K ≤ 2000) (hk : k ≤ 60) {a m x : Int64} {w : Int32} {t : Bool} (h0 : 0 ≤ m.toInt) (h1 : m.toInt ≤ 20000 * k) (ha : -(K * m.toInt) ≤ a.toInt ∧ a.toInt ≤ K * m.toInt) (hw0 : 0 ≤ w.toInt) (hw : w.toInt ≤ 20000) (hx : -K ≤ x.toInt ∧ x.toInt ≤ K) : -(K * (m.toInt + w.toInt)) ≤ (a + (if t then -w else w).toInt64 * x).toInt ∧ (a + (if t then -w else w).toInt64 * x).toInt ≤ K * (m.toInt + w.toInt) := by
  have hKm : K * m.toInt ≤ 2000 * (20000 * k) := Int.mul_le_mul hK2 h1 h0 (by omega)
  have hg : (if t then -w else w).toInt64.toInt = if t then -w.toInt else w.toInt := by
    rw [i64_of]
    cases t
    · rfl
    · exact neg32 (by omega)
  have hgb : -w.toInt ≤ (if t then -w else w).toInt64.toInt ∧ (if t then -w else w).toInt64.toInt ≤ w.toInt := by
    rw [hg]
    cases t
    · exact ⟨by show -w.toInt ≤ w.toInt; omega, Int.le_refl _⟩
    · exact ⟨Int.le_refl _, by show -w.toInt ≤ w.toInt; omega⟩
  have hwK : w.toInt * K ≤ 20000 * 2000 := Int.mul_le_mul hw hK2 hK (by omega)
  obtain ⟨e, g1, g2⟩ := mul_b (a := (if t then -w else w).toInt64) (b := x) (A := w.toInt) (B := K) hgb hx (by omega)
  have e2 : K * (m.toInt + w.toInt) = K * m.toInt + w.toInt * K := by rw [Int.mul_add, Int.mul_comm K w.toInt]
  rw [add64 (by rw [e]; omega) (by rw [e]; omega), e, e2]
  omega
theorem addS_B {K : Int} {k : Nat} (hK : 0 ≤ K) (hK2 : K ≤ 2000) (hk : k ≤ 60) {m : V3 × Int64} {w : Int32} {t : Bool} {x : V3} (h : sB K k m) (hw0 : 0 ≤ w.toInt) (hw : w.toInt ≤ 20000) (hx : (-K ≤ x.1.toInt ∧ x.1.toInt ≤ K) ∧ (-K ≤ x.2.1.toInt ∧ x.2.1.toInt ≤ K) ∧ (-K ≤ x.2.2.toInt ∧ x.2.2.toInt ≤ K)) : sB K (k + 1) (addS m w t x) := by
  obtain ⟨h0, h1, h2, h3, h4⟩ := h
  have e : (m.2 + w.toInt64).toInt = m.2.toInt + w.toInt := by rw [add64 (by rw [i64_of]; omega) (by rw [i64_of]; omega), i64_of]
  unfold sB addS
  simp only [e]
  exact ⟨by omega, by omega, add_b1 hK hK2 hk h0 h1 h2 hw0 hw hx.1, add_b1 hK hK2 hk h0 h1 h3 hw0 hw hx.2.1, add_b1 hK hK2 hk h0 h1 h4 hw0 hw hx.2.2⟩
theorem sB_up {K : Int} {k : Nat} {m : V3 × Int64} (h : sB K k m) : sB K (k + 1) m := ⟨h.1, by have := h.2.1; omega, h.2.2⟩
theorem rt_nn (v : Int64) : 0 ≤ (rt v).toInt := by
  unfold rt
  have h := (t64 v).2
  have h1 := (isq_ok v.toInt.toNat).1
  have h2 : isq v.toInt.toNat ≤ v.toInt.toNat := by
    rcases Nat.eq_zero_or_pos (isq v.toInt.toNat) with q | q
    · omega
    · exact Nat.le_trans (Nat.le_mul_of_pos_left _ q) h1
  rw [lN_tI (by omega)]
  omega
theorem wtv_b {c : Nat} (h1 : 1 ≤ c) (h2 : c ≤ 20) (q a : V3) : 0 ≤ (wtv (nI c) q a).toInt ∧ (wtv (nI c) q a).toInt ≤ 1000 * c := by
  have e1 : (1000 * nI c : Int32) = nI (1000 * c) := nI_mul 1000 c
  have e2 : (1000 * (nI c).toInt64 : Int64) = lN (1000 * c) := by rw [nI_l (by omega)]; exact lN_mul 1000 c
  unfold wtv
  by_cases h0 : vd q a = 0
  · rw [if_pos h0, e1, tI (by omega)]
    omega
  · rw [if_neg h0, e2]
    generalize 1000000 * vq q * vq a / (vd q a * vd q a) = x
    have hr := rt_nn x
    have hb : 0 ≤ (if rt x < lN (1000 * c) then rt x else lN (1000 * c)).toInt ∧ (if rt x < lN (1000 * c) then rt x else lN (1000 * c)).toInt ≤ 1000 * c := by
      split
      · rename_i w
        have := Int64.lt_iff_toInt_lt.mp w
        rw [lN_tI (by omega)] at this
        omega
      · rw [lN_tI (by omega)]; omega
    rw [Int64.toInt_toInt32, bm32 (by omega) (by omega)]
    exact hb
theorem GD.wb {D : Nat → Nat → Int32} (h : GD D) {i : Nat} (hi : i < nc D) : 0 ≤ (wt D i).toInt ∧ (wt D i).toInt ≤ 20000 := by
  obtain ⟨l, hl, e⟩ := h.on hi
  have := h.m6
  have c20 := h.c20
  unfold wt
  rw [h.ec, e, cl_n (by omega)]
  have := wtv_b h.c1 h.c20 (pv D i) (av D l)
  omega
theorem smP_B {D : Nat → Nat → Int32} (hD : GD D) {P : Nat → Bool} {v : V3} : ∀ n, n ≤ nc D → sB 1000 n (smP D P v n)
  | 0, _ => noS_B
  | n + 1, hn => by
    have ih := smP_B hD (P := P) (v := v) n (by omega)
    have n60 := hD.n60
    show sB 1000 (n + 1) (if P n then addS (smP D P v n) (wt D n) _ (pv D n) else smP D P v n)
    split
    · exact addS_B (by omega) (by omega) (by omega) ih (hD.wb (by omega)).1 (hD.wb (by omega)).2 (hD.bp (by omega))
    · exact sB_up ih
/-- turned up -/
def tup (v : V3) : V3 := if v.2.2 < 0 ∨ (v.2.2 = 0 ∧ (v.2.1 < 0 ∨ (v.2.1 = 0 ∧ v.1 < 0))) then (-v.1, -v.2.1, -v.2.2) else v
def zv (v : V3) : Prop := v.1 = 0 ∧ v.2.1 = 0 ∧ v.2.2 = 0
theorem bI_neg {x : Int64} (h : bI x) : bI (-x) := by
  unfold bI at *
  rw [neg64 (by omega)]
  omega
theorem tup_b {v : V3} (h : bv v) : bv (tup v) := by
  unfold tup
  split
  · exact ⟨bI_neg h.1, bI_neg h.2.1, bI_neg h.2.2⟩
  · exact h
/-- the sum by its mass -/
def mnv (m : V3 × Int64) : V3 := (m.1.1 / m.2, m.1.2.1 / m.2, m.1.2.2 / m.2)
theorem mnv_b {k : Nat} {m : V3 × Int64} (h : sB 1000 k m) (h0 : ¬ m.2 = 0) : bv (mnv m) := by
  obtain ⟨h1, h2, h3, h4, h5⟩ := h
  have hp : 0 < m.2.toInt := by
    have : ¬ m.2.toInt = 0 := fun q => h0 (Int64.toInt_inj.mp q)
    omega
  have key : ∀ x : Int64, -(1000 * m.2.toInt) ≤ x.toInt ∧ x.toInt ≤ 1000 * m.2.toInt → bI (x / m.2) := by
    intro x hx
    unfold bI
    rw [div64 hp]
    have e := Int.mul_tdiv_add_tmod x.toInt m.2.toInt
    have b := tmod_bounds (a := x.toInt) hp
    constructor
    · rcases Int.lt_or_le (x.toInt.tdiv m.2.toInt) (-1000) with q | q
      · exfalso
        have : m.2.toInt * x.toInt.tdiv m.2.toInt ≤ m.2.toInt * (-1001) := Int.mul_le_mul_of_nonneg_left (by omega) (by omega)
        omega
      · exact q
    · rcases Int.lt_or_le 1000 (x.toInt.tdiv m.2.toInt) with q | q
      · exfalso
        have : m.2.toInt * 1001 ≤ m.2.toInt * x.toInt.tdiv m.2.toInt := Int.mul_le_mul_of_nonneg_left (by omega) (by omega)
        omega
      · exact q
  exact ⟨key _ h3, key _ h4, key _ h5⟩
