/-! the model's DATA; dots, squares, nearness of cracks; WEIGHTS -/
def isD (a k : Nat) : Prop := (47 ≤ a ∧ a < 60) ∨ (a = 46 ∧ 1 ≤ k ∧ k < 10)
/-- what was told, as the model holds it -/
def dat (I : Nat → Nat → Int32) : Nat → Nat → Int32 := fun a k => if (47 ≤ a ∧ a < 60) ∨ (a = 46 ∧ 1 ≤ k ∧ k < 10) then I a k else 0
theorem dat_up {I : Nat → Nat → Int32} {a k : Nat} {v : Int32} (h : ¬ isD a k) : dat (up2 I a k v) = dat I := by
  funext a' k'
  unfold dat
  split
  · rename_i q
    refine up_n fun e => h ?_
    obtain ⟨rfl, rfl⟩ := e
    exact q
  · rfl
theorem dat_r {I : Nat → Nat → Int32} {a k : Nat} (h : 47 ≤ a ∧ a < 60) : dat I a k = I a k := by
  unfold dat
  rw [if_pos (Or.inl h)]
theorem dat_6 {I : Nat → Nat → Int32} {k : Nat} (h : 1 ≤ k ∧ k < 10) : dat I 46 k = I 46 k := by
  unfold dat
  rw [if_pos (Or.inr ⟨rfl, h⟩)]
def pv (D : Nat → Nat → Int32) (i : Nat) : V3 := ((D 54 i).toInt64, (D 55 i).toInt64, (D 56 i).toInt64)
def av (D : Nat → Nat → Int32) (i : Nat) : V3 := ((D 57 i).toInt64, (D 58 i).toInt64, (D 59 i).toInt64)
/-- the angle between two cracks -/
def nb (D : Nat → Nat → Int32) (i j : Nat) : Nat := va2 (pv D i) (pv D j)
/-- a weight: cap, pole, arrow -/
def wtv (cap : Int32) (q a : V3) : Int32 := if vd q a = 0 then 1000 * cap else (if rt (1000000 * vq q * vq a / (vd q a * vd q a)) < 1000 * cap.toInt64 then rt (1000000 * vq q * vq a / (vd q a * vd q a)) else 1000 * cap.toInt64).toInt32
theorem ww_b {q a : V3} (hq : bv q) (ha : bv a) (h0 : ¬ vd q a = 0) : ¬ vd q a * vd q a = 0 ∧ 0 ≤ (1000000 * vq q * vq a / (vd q a * vd q a)).toInt ∧ (1000000 * vq q * vq a).toInt = 1000000 * ((vq q).toInt * (vq a).toInt) ∧ (vd q a * vd q a).toInt = (vd q a).toInt * (vd q a).toInt ∧ 0 < (vd q a).toInt * (vd q a).toInt := by
  obtain ⟨-, h1, h2⟩ := vd_b hq ha
  obtain ⟨e, g1, g2⟩ := qq_b hq ha
  obtain ⟨e2, g3, g4⟩ := mul_b (a := vd q a) (b := vd q a) (A := 3000000) (B := 3000000) ⟨h1, h2⟩ ⟨h1, h2⟩ (by decide)
  have hz : ¬ (vd q a).toInt = 0 := fun q => h0 (Int64.toInt_inj.mp q)
  have hp : 0 < (vd q a).toInt * (vd q a).toInt := by
    rcases Int.lt_or_gt_of_ne hz with h | h
    · exact Int.mul_pos_of_neg_of_neg h h
    · exact Int.mul_pos h h
  have e3 : (1000000 * vq q * vq a).toInt = 1000000 * ((vq q).toInt * (vq a).toInt) := by
    rw [Int64.mul_assoc, mul64 (by rw [e]; show -9223372036854775808 ≤ 1000000 * _; omega) (by rw [e]; show 1000000 * _ ≤ _; omega), e]
    rfl
  refine ⟨fun q => ?_, ?_, e3, e2, hp⟩
  · have := congrArg Int64.toInt q
    rw [e2] at this
    have h9 : (0 : Int64).toInt = 0 := rfl
    omega
  · rw [div64 (by rw [e2]; exact hp), e3]
    exact Int.tdiv_nonneg (by omega) (by rw [e2]; omega)
section WT
variable {d sl : Nat} {p : Nat → Nat} {I : Nat → Nat → Int32} {J : Nat → Nat → Int64}
theorem sp_dotOf {i j : Nat} (hi : i < 60) (hj : j < 60) : den (d + 1) 192 [.ref 46, .int (nI i), .int (nI j)] (S sl p I J) = some (some (.long (vd (pv (dat I) i) (pv (dat I) j))), S sl p I J) := by
  rw [E192_0]
  simp only [ixb_n hi (by decide), ixb_n hj (by decide), ck_t, sp_dot, evK_s, E192_45, cl_n (show i < 2 ^ 31 by omega), cl_n (show j < 2 ^ 31 by omega)]
  rfl
theorem sp_squareOf {i : Nat} (hi : i < 60) : den (d + 2) 193 [.ref 46, .int (nI i)] (S sl p I J) = some (some (.long (vq (pv (dat I) i))), S sl p I J) := by
  rw [E193_0]
  simp only [ixb_n hi (by decide), ck_t, sp_square, evK_s, E193_24, cl_n (show i < 2 ^ 31 by omega)]
  rfl
theorem sp_angleBetweenM {i j : Nat} (hi : i < 60) (hj : j < 60) (bi : bv (pv (dat I) i)) (bj : bv (pv (dat I) j)) : den (d + 6) 194 [.ref 46, .int (nI i), .int (nI j)] (S sl p I J) = some (some (.int (nI (nb (dat I) i j))), S sl p I J) := by
  simp only [E194_0, E194_6, E194_11, E194_16, E194_20, sp_dotOf hi hj, sp_squareOf hi, sp_squareOf hj, evK_s, sp_angleOfM (dd_nn (okN_v bi bj))]
  rfl
theorem sp_areNearM {i j k : Nat} (hi : i < 60) (hj : j < 60) (hk : k ≤ 90) (bi : bv (pv (dat I) i)) (bj : bv (pv (dat I) j)) : den (d + 5) 195 [.ref 46, .int (nI i), .int (nI j), .int (nI k)] (S sl p I J) = some (some (.int (if nb (dat I) i j ≤ k then 1 else 0)), S sl p I J) := by
  simp only [E195_0, E195_6, E195_11, E195_16, sp_dotOf hi hj, sp_squareOf hi, sp_squareOf hj, evK_s, sp_isNear, E195_21]
  have h : nrb _ _ k = decide (nb (dat I) i j ≤ k) := nrb_ag (okN_v bi bj) hk
  unfold nrb at h
  by_cases hc : nb (dat I) i j ≤ k
  · rw [decide_eq_true hc] at h
    rw [if_neg (by simpa using h), if_pos hc]
    rfl
  · rw [decide_eq_false hc] at h
    rw [if_pos (by simpa using h), if_neg hc]
    rfl
theorem sp_weightBy {i : Nat} {a : V3} (hi : i < 60) (bi : bv (pv (dat I) i)) (ba : bv a) : den (d + 3) 196 [.ref 46, .int (nI i), .long a.1, .long a.2.1, .long a.2.2] (S sl p I J) = some (some (.int (wtv (dat I 46 5) (pv (dat I) i) a)), S sl p I J) := by
  rw [E196_0]
  simp only [ixb_n hi (by decide), ck_t, sp_dot, evK_s, E196_29, cl_n (show i < 2 ^ 31 by omega)]
  rw [show vd (Int32.toInt64 (I 54 i), Int32.toInt64 (I 55 i), Int32.toInt64 (I 56 i)) (a.1, a.2.1, a.2.2) = vd (pv (dat I) i) a from rfl]
  unfold wtv
  rw [dat_6 (by omega)]
  by_cases h0 : vd (pv (dat I) i) a = 0
  · rw [if_pos h0, if_pos h0]
  · obtain ⟨w1, w2, -⟩ := ww_b bi ba h0
    rw [if_neg h0, if_neg h0, sp_squareOf hi, evK_s, E196_64, sp_square, evK_s, E196_73, ck_if (by simpa using w1), show vq (a.1, a.2.1, a.2.2) = vq a from rfl, sp_rootM w2, evK_s, E196_83]
/-- the weight of a crack -/
def wt (D : Nat → Nat → Int32) (i : Nat) : Int32 := wtv (D 46 5) (pv D i) (av D (D 50 i).toNatClampNeg)
theorem sp_weight {i l : Nat} (hi : i < 60) (hl : dat I 50 i = nI l) (hl6 : l < 6) (bi : bv (pv (dat I) i)) (ba : bv (av (dat I) l)) : den (d + 4) 197 [.ref 46, .int (nI i)] (S sl p I J) = some (some (.int (wt (dat I) i)), S sl p I J) := by
  have hl' : I 50 i = nI l := by rw [← hl, dat_r (by omega)]
  rw [E197_0]
  simp only [ixb_n hi (by decide), ck_t, cl_n (show i < 2 ^ 31 by omega), hl', ixb_n hl6 (by decide), cl_n (show l < 2 ^ 31 by omega)]
  have h := sp_weightBy (d := d) (sl := sl) (p := p) (I := I) (J := J) (a := av (dat I) l) hi bi ba
  rw [show (av (dat I) l).1 = Int32.toInt64 (I 57 l) from rfl, show (av (dat I) l).2.1 = Int32.toInt64 (I 58 l) from rfl, show (av (dat I) l).2.2 = Int32.toInt64 (I 59 l) from rfl] at h
  rw [h, evK_s, E197_33]
  unfold wt
  rw [hl, cl_n (by omega)]
end WT
