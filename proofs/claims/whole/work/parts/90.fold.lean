/-! limbs turned back, in both programs -/
def trn (u v : V3) (c s : Int64) : V3 := ((v.1 * c + (crs u v).1 * s + (u.1 * (vd u v / 1000)) / 1000 * (1000 - c)) / 1000, (v.2.1 * c + (crs u v).2.1 * s + (u.2.1 * (vd u v / 1000)) / 1000 * (1000 - c)) / 1000, (v.2.2 * c + (crs u v).2.2 * s + (u.2.2 * (vd u v / 1000)) / 1000 * (1000 - c)) / 1000)
def axv (t : Nat) : V3 := ((cs (nI t)).toInt64, (sn (nI t)).toInt64, 0)
theorem k1000 : (1000 : Int64).toInt = 1000 := rfl
theorem dv1 {x : Int64} : (x / 1000).toInt = x.toInt.tdiv 1000 := by rw [div64 (by rw [k1000]; omega), k1000]
/-- one part -/
theorem trn_1 {v c w s P : Int64} (hv : bI v) (hc : bI c) (hw : bJ w) (hs : bI s) (hP : bJ P) : ((v * c + w * s + P * (1000 - c)) / 1000).toInt = (v.toInt * c.toInt + w.toInt * s.toInt + P.toInt * (1000 - c.toInt)).tdiv 1000 ∧ -8000 ≤ ((v * c + w * s + P * (1000 - c)) / 1000).toInt ∧ ((v * c + w * s + P * (1000 - c)) / 1000).toInt ≤ 8000 := by
  have h1 := mul_b (A := 1000) (B := 1000) hv hc (by decide)
  have h2 := mul_b (A := 2000) (B := 1000) hw hs (by decide)
  have e0 : (1000 - c).toInt = 1000 - c.toInt := by
    have := hc.1
    have := hc.2
    rw [sub64 (by rw [k1000]; omega) (by rw [k1000]; omega), k1000]
  have h3 := mul_b (a := P) (b := 1000 - c) (A := 2000) (B := 2000) hP (by rw [e0]; have := hc.1; have := hc.2; omega) (by decide)
  rw [e0] at h3
  have e1 : (v * c + w * s).toInt = v.toInt * c.toInt + w.toInt * s.toInt := by rw [add64 (by rw [h1.1, h2.1]; omega) (by rw [h1.1, h2.1]; omega), h1.1, h2.1]
  have e2 : (v * c + w * s + P * (1000 - c)).toInt = v.toInt * c.toInt + w.toInt * s.toInt + P.toInt * (1000 - c.toInt) := by rw [add64 (by rw [e1, h3.1]; omega) (by rw [e1, h3.1]; omega), e1, h3.1]
  rw [dv1, e2]
  exact ⟨rfl, tdiv_b (c := 8000) (by omega) (by omega)⟩
theorem bI_0 : bI (0 : Int64) := ⟨by decide, by decide⟩
theorem trn_e {a b c s : Int64} {v : V3} (ha : bI a) (hb : bI b) (hc : bI c) (hs : bI s) (hv : bv v) : ((trn (a, b, 0) v c s).1.toInt = (tnZ a.toInt b.toInt v.1.toInt v.2.1.toInt v.2.2.toInt c.toInt s.toInt).1 ∧ (trn (a, b, 0) v c s).2.1.toInt = (tnZ a.toInt b.toInt v.1.toInt v.2.1.toInt v.2.2.toInt c.toInt s.toInt).2.1 ∧ (trn (a, b, 0) v c s).2.2.toInt = (tnZ a.toInt b.toInt v.1.toInt v.2.1.toInt v.2.2.toInt c.toInt s.toInt).2.2) ∧ (-8000 ≤ (trn (a, b, 0) v c s).1.toInt ∧ (trn (a, b, 0) v c s).1.toInt ≤ 8000) ∧ (-8000 ≤ (trn (a, b, 0) v c s).2.1.toInt ∧ (trn (a, b, 0) v c s).2.1.toInt ≤ 8000) ∧ (-8000 ≤ (trn (a, b, 0) v c s).2.2.toInt ∧ (trn (a, b, 0) v c s).2.2.toInt ≤ 8000) := by
  obtain ⟨x, y, z⟩ := v
  obtain ⟨hx, hy, hz⟩ := hv
  simp only at hx hy hz
  obtain ⟨w1, w2, w3⟩ := crs_w (u := (a, b, 0)) (v := (x, y, z)) ⟨ha, hb, bI_0⟩ ⟨hx, hy, hz⟩
  have m1 := mul_b (A := 1000) (B := 1000) hb hz (by decide)
  have m2 := mul_b (A := 1000) (B := 1000) ha hz (by decide)
  have m3 := mul_b (A := 1000) (B := 1000) ha hy (by decide)
  have m4 := mul_b (A := 1000) (B := 1000) hb hx (by decide)
  have m5 := mul_b (A := 1000) (B := 1000) ha hx (by decide)
  have m6 := mul_b (A := 1000) (B := 1000) hb hy (by decide)
  have c1 : (crs (a, b, 0) (x, y, z)).1.toInt = (b.toInt * z.toInt).tdiv 1000 := by
    unfold crs
    simp only
    rw [dv1, Int64.zero_mul, Int64.sub_zero, m1.1]
  have c2 : (crs (a, b, 0) (x, y, z)).2.1.toInt = (-(a.toInt * z.toInt)).tdiv 1000 := by
    unfold crs
    simp only
    have k0 : (0 : Int64).toInt = 0 := rfl
    rw [dv1, Int64.zero_mul, sub64 (by rw [k0, m2.1]; omega) (by rw [k0, m2.1]; omega), k0, m2.1, Int.zero_sub]
  have c3 : (crs (a, b, 0) (x, y, z)).2.2.toInt = (a.toInt * y.toInt - b.toInt * x.toInt).tdiv 1000 := by
    unfold crs
    simp only
    rw [dv1, sub64 (by rw [m3.1, m4.1]; omega) (by rw [m3.1, m4.1]; omega), m3.1, m4.1]
  have L1 : (vd (a, b, 0) (x, y, z) / 1000).toInt = (a.toInt * x.toInt + b.toInt * y.toInt).tdiv 1000 := by
    unfold vd
    simp only
    rw [dv1, Int64.zero_mul, Int64.add_zero, add64 (by rw [m5.1, m6.1]; omega) (by rw [m5.1, m6.1]; omega), m5.1, m6.1]
  have Lb : bJ (vd (a, b, 0) (x, y, z) / 1000) := by
    unfold bJ
    rw [L1]
    exact tdiv_b (c := 2000) (by omega) (by omega)
  have pp : ∀ u, bI u → ((u * (vd (a, b, 0) (x, y, z) / 1000)) / 1000).toInt = (u.toInt * (a.toInt * x.toInt + b.toInt * y.toInt).tdiv 1000).tdiv 1000 ∧ bJ ((u * (vd (a, b, 0) (x, y, z) / 1000)) / 1000) := by
    intro u hu
    have q := mul_b (A := 1000) (B := 2000) hu Lb (by decide)
    have e : ((u * (vd (a, b, 0) (x, y, z) / 1000)) / 1000).toInt = (u.toInt * (vd (a, b, 0) (x, y, z) / 1000).toInt).tdiv 1000 := by rw [dv1, q.1]
    refine ⟨by rw [e, L1], ?_⟩
    unfold bJ
    rw [e]
    exact tdiv_b (c := 2000) (by omega) (by omega)
  obtain ⟨p1, b1⟩ := pp a ha
  obtain ⟨p2, b2⟩ := pp b hb
  obtain ⟨p3, b3⟩ := pp 0 bI_0
  have r1 := trn_1 hx hc w1 hs b1
  have r2 := trn_1 hy hc w2 hs b2
  have r3 := trn_1 hz hc w3 hs b3
  have z0 : ((0 : Int64).toInt * (a.toInt * x.toInt + b.toInt * y.toInt).tdiv 1000).tdiv 1000 = 0 := by
    rw [show (0 : Int64).toInt = 0 from rfl, Int.zero_mul]
    rfl
  rw [c1, p1] at r1
  rw [c2, p2] at r2
  rw [c3, p3, z0] at r3
  exact ⟨⟨r1.1, r2.1, r3.1⟩, r1.2, r2.2, r3.2⟩
theorem cs64 (x : Int32) : bI (cs x).toInt64 := by unfold bI; rw [i64_of]; exact cs_b x
theorem sn64 (x : Int32) : bI (sn x).toInt64 := by unfold bI; rw [i64_of]; exact sn_b x
theorem cg_tab : ((List.range 361).all fun k => decide ((cs (nI k - 180)).toInt * (cs (nI k - 180)).toInt + (sn (nI k - 180)).toInt * (sn (nI k - 180)).toInt ≤ 1010000 ∧ 990000 ≤ (cs (nI k - 180)).toInt * (cs (nI k - 180)).toInt + (sn (nI k - 180)).toInt * (sn (nI k - 180)).toInt)) = true := by decide +kernel
theorem cg_b {k : Nat} (h : k ≤ 360) : (cs (nI k - 180)).toInt * (cs (nI k - 180)).toInt + (sn (nI k - 180)).toInt * (sn (nI k - 180)).toInt ≤ 1010000 ∧ 990000 ≤ (cs (nI k - 180)).toInt * (cs (nI k - 180)).toInt + (sn (nI k - 180)).toInt * (sn (nI k - 180)).toInt := of_decide_eq_true (List.all_eq_true.mp cg_tab k (List.mem_range.mpr (by omega)))
/-- a turned vector -/
def tv (t : Nat) (g : Int32) (v : V3) : V3 := trn (axv t) v (cs g).toInt64 (sn g).toInt64
def qZ (v : V3) : Int := v.1.toInt * v.1.toInt + v.2.1.toInt * v.2.1.toInt + v.2.2.toInt * v.2.2.toInt
theorem tv_b {t : Nat} {g : Int32} {v : V3} (hv : bv v) : (-8000 ≤ (tv t g v).1.toInt ∧ (tv t g v).1.toInt ≤ 8000) ∧ (-8000 ≤ (tv t g v).2.1.toInt ∧ (tv t g v).2.1.toInt ≤ 8000) ∧ (-8000 ≤ (tv t g v).2.2.toInt ∧ (tv t g v).2.2.toInt ≤ 8000) := (trn_e (cs64 _) (sn64 _) (cs64 _) (sn64 _) hv).2
theorem tv_q {t k : Nat} {v : V3} (ht : t < 360) (hk : k ≤ 360) (hv : bv v) (hq : (vq v).toInt ≤ 1020100) : qZ (tv t (nI k - 180) v) ≤ 2500000 := by
  obtain ⟨⟨e1, e2, e3⟩, -⟩ := trn_e (cs64 (nI t)) (sn64 (nI t)) (cs64 (nI k - 180)) (sn64 (nI k - 180)) hv
  have hq2 : v.1.toInt * v.1.toInt + v.2.1.toInt * v.2.1.toInt + v.2.2.toInt * v.2.2.toInt ≤ 1020100 := by
    have := (vd_b hv hv).1
    unfold vq at hq
    rw [this] at hq
    exact hq
  have n1 := cs2_b (k := t) (by omega)
  have n2 := cg_b hk
  simp only [i64_of] at e1 e2 e3
  have := tnZ_q n1 n2.1 n2.2 (cs_b _) (sn_b _) (cs_b _) (sn_b _) hq2
  rw [← e1, ← e2, ← e3] at this
  exact this
theorem sq1600 {x : Int} (h : x * x ≤ 2500000) : -1600 ≤ x ∧ x ≤ 1600 := by
  constructor
  · refine Classical.byContradiction (fun w => ?_)
    have h1 : (1601 : Int) * 1601 ≤ (-x) * (-x) := Int.mul_le_mul (by omega) (by omega) (by omega) (by omega)
    rw [Int.neg_mul_neg] at h1
    omega
  · refine Classical.byContradiction (fun w => ?_)
    have h1 : (1601 : Int) * 1601 ≤ x * x := Int.mul_le_mul (by omega) (by omega) (by omega) (by omega)
    omega
theorem sq_0 {x : Int} (h : x * x = 0) : x = 0 := by
  rcases Int.mul_eq_zero.mp h with w | w <;> exact w
/-- sums of turned poles -/
def fB (k : Nat) (m : V3 × Int64) : Prop := sB 1600 k m ∧ qZ m.1 ≤ 2500000 * (m.2.toInt * m.2.toInt)
theorem noS_f : fB 0 noS := ⟨noS_B, by decide⟩
theorem fB_up {k : Nat} {m : V3 × Int64} (h : fB k m) : fB (k + 1) m := ⟨sB_up h.1, h.2⟩
theorem cauchy {R m S1 S2 S3 x1 x2 x3 : Int} (hR : 0 ≤ R) (hm : 0 ≤ m) (hS : S1 * S1 + S2 * S2 + S3 * S3 ≤ R * (m * m)) (hx : x1 * x1 + x2 * x2 + x3 * x3 ≤ R) : S1 * x1 + S2 * x2 + S3 * x3 ≤ R * m ∧ -(R * m) ≤ S1 * x1 + S2 * x2 + S3 * x3 := by
  by_cases h0 : m = 0
  · subst h0
    have p1 := sq_nn S1
    have p2 := sq_nn S2
    have p3 := sq_nn S3
    have z1 : S1 = 0 := sq_0 (by omega)
    have z2 : S2 = 0 := sq_0 (by omega)
    have z3 : S3 = 0 := sq_0 (by omega)
    subst z1 z2 z3
    omega
  · have hm1 : 0 < m := by omega
    have hmm : m * m * (x1 * x1 + x2 * x2 + x3 * x3) ≤ m * m * R := Int.mul_le_mul_of_nonneg_left hx (sq_nn m)
    have a1 := Int.add_nonneg (Int.add_nonneg (sq_nn (S1 - m * x1)) (sq_nn (S2 - m * x2))) (sq_nn (S3 - m * x3))
    have a2 := Int.add_nonneg (Int.add_nonneg (sq_nn (S1 + m * x1)) (sq_nn (S2 + m * x2))) (sq_nn (S3 + m * x3))
    have e1 : (S1 - m * x1) * (S1 - m * x1) + (S2 - m * x2) * (S2 - m * x2) + (S3 - m * x3) * (S3 - m * x3) = (S1 * S1 + S2 * S2 + S3 * S3) + m * m * (x1 * x1 + x2 * x2 + x3 * x3) - 2 * (m * (S1 * x1 + S2 * x2 + S3 * x3)) := by grind
    have e2 : (S1 + m * x1) * (S1 + m * x1) + (S2 + m * x2) * (S2 + m * x2) + (S3 + m * x3) * (S3 + m * x3) = (S1 * S1 + S2 * S2 + S3 * S3) + m * m * (x1 * x1 + x2 * x2 + x3 * x3) + 2 * (m * (S1 * x1 + S2 * x2 + S3 * x3)) := by grind
    have e3 : m * m * R = R * (m * m) := Int.mul_comm _ _
    have e4 : R * (m * m) = m * (R * m) := by grind
    have e5 : m * -(R * m) = -(m * (R * m)) := Int.mul_neg _ _
    exact ⟨Int.le_of_mul_le_mul_left (a := m) (by omega) hm1, Int.le_of_mul_le_mul_left (a := m) (by omega) hm1⟩
theorem add_e {k : Nat} (hk : k ≤ 60) {a m x : Int64} {w : Int32} {t : Bool} (h0 : 0 ≤ m.toInt) (h1 : m.toInt ≤ 20000 * k) (ha : -(1600 * m.toInt) ≤ a.toInt ∧ a.toInt ≤ 1600 * m.toInt) (hw0 : 0 ≤ w.toInt) (hw : w.toInt ≤ 20000) (hx : -1600 ≤ x.toInt ∧ x.toInt ≤ 1600) : (a + (if t then -w else w).toInt64 * x).toInt = a.toInt + (if t then -w.toInt else w.toInt) * x.toInt := by
  have hg : (if t then -w else w).toInt64.toInt = if t then -w.toInt else w.toInt := by
    rw [i64_of]
    cases t
    · rfl
    · exact neg32 (by omega)
  have hgb : -20000 ≤ (if t then -w else w).toInt64.toInt ∧ (if t then -w else w).toInt64.toInt ≤ 20000 := by
    rw [hg]
    split <;> omega
  obtain ⟨e, g1, g2⟩ := mul_b (a := (if t then -w else w).toInt64) (b := x) (A := 20000) (B := 1600) hgb hx (by decide)
  rw [add64 (by rw [e]; omega) (by rw [e]; omega), e, hg]
theorem addS_f {k : Nat} (hk : k ≤ 60) {m : V3 × Int64} {w : Int32} {t : Bool} {x : V3} (h : fB k m) (hw0 : 0 ≤ w.toInt) (hw : w.toInt ≤ 20000) (hx : qZ x ≤ 2500000) : fB (k + 1) (addS m w t x) := by
  obtain ⟨hs, hq⟩ := h
  have p1 := sq_nn x.1.toInt
  have p2 := sq_nn x.2.1.toInt
  have p3 := sq_nn x.2.2.toInt
  unfold qZ at hx
  have b1 := sq1600 (x := x.1.toInt) (by omega)
  have b2 := sq1600 (x := x.2.1.toInt) (by omega)
  have b3 := sq1600 (x := x.2.2.toInt) (by omega)
  refine ⟨addS_B (by omega) (by omega) hk hs hw0 hw ⟨b1, b2, b3⟩, ?_⟩
  obtain ⟨h0, h1, h2, h3, h4⟩ := hs
  have e : (m.2 + w.toInt64).toInt = m.2.toInt + w.toInt := by rw [add64 (by rw [i64_of]; omega) (by rw [i64_of]; omega), i64_of]
  unfold qZ at hq
  unfold qZ addS
  simp only [e, add_e hk h0 h1 h2 hw0 hw b1, add_e hk h0 h1 h3 hw0 hw b2, add_e hk h0 h1 h4 hw0 hw b3]
  have hc := cauchy (R := 2500000) (by decide) h0 hq hx
  have hg : (if t then -w.toInt else w.toInt) = w.toInt ∨ (if t then -w.toInt else w.toInt) = -w.toInt := by
    cases t
    · exact Or.inl rfl
    · exact Or.inr rfl
  generalize (if t then -w.toInt else w.toInt) = g at hg
  generalize m.1.1.toInt = S1 at *
  generalize m.1.2.1.toInt = S2 at *
  generalize m.1.2.2.toInt = S3 at *
  generalize x.1.toInt = x1 at *
  generalize x.2.1.toInt = x2 at *
  generalize x.2.2.toInt = x3 at *
  generalize m.2.toInt = M at *
  generalize w.toInt = W at *
  have e1 : (S1 + g * x1) * (S1 + g * x1) + (S2 + g * x2) * (S2 + g * x2) + (S3 + g * x3) * (S3 + g * x3) = (S1 * S1 + S2 * S2 + S3 * S3) + 2 * (g * (S1 * x1 + S2 * x2 + S3 * x3)) + g * g * (x1 * x1 + x2 * x2 + x3 * x3) := by grind
  have e2 : 2500000 * ((M + W) * (M + W)) = 2500000 * (M * M) + 2 * (W * (2500000 * M)) + W * W * 2500000 := by grind
  have gg : g * g = W * W := by
    rcases hg with rfl | rfl
    · rfl
    · exact Int.neg_mul_neg _ _
  have l1 : g * (S1 * x1 + S2 * x2 + S3 * x3) ≤ W * (2500000 * M) := by
    rcases hg with rfl | rfl
    · exact Int.mul_le_mul_of_nonneg_left hc.1 hw0
    · have q : W * -(2500000 * M) ≤ W * (S1 * x1 + S2 * x2 + S3 * x3) := Int.mul_le_mul_of_nonneg_left hc.2 hw0
      rw [Int.mul_neg] at q
      rw [Int.neg_mul]
      omega
  have l2 : W * W * (x1 * x1 + x2 * x2 + x3 * x3) ≤ W * W * 2500000 := Int.mul_le_mul_of_nonneg_left hx (sq_nn W)
  rw [e1, e2, gg]
  omega
theorem sq2e9 {x : Int} (h : x * x ≤ 4000000000000000000) : -2000000000 ≤ x ∧ x ≤ 2000000000 := by
  constructor
  · refine Classical.byContradiction (fun w => ?_)
    have h1 : (2000000001 : Int) * 2000000001 ≤ (-x) * (-x) := Int.mul_le_mul (by omega) (by omega) (by omega) (by omega)
    rw [Int.neg_mul_neg] at h1
    omega
  · refine Classical.byContradiction (fun w => ?_)
    have h1 : (2000000001 : Int) * 2000000001 ≤ x * x := Int.mul_le_mul (by omega) (by omega) (by omega) (by omega)
    omega
theorem fB_ok {k : Nat} {m : V3 × Int64} (hk : k ≤ 60) (h : fB k m) : okQ m.1 ∧ 0 ≤ m.2.toInt ∧ m.2.toInt ≤ 2000000 := by
  obtain ⟨⟨h0, h1, h2⟩, hq⟩ := h
  have hm : m.2.toInt * m.2.toInt ≤ 1200000 * 1200000 := Int.mul_le_mul (by omega) (by omega) h0 (by omega)
  unfold qZ at hq
  have p1 := sq_nn m.1.1.toInt
  have p2 := sq_nn m.1.2.1.toInt
  have p3 := sq_nn m.1.2.2.toInt
  obtain ⟨e1, a1, b1⟩ := sqr_n (B := 2000000000) (by decide) (sq2e9 (x := m.1.1.toInt) (by omega))
  obtain ⟨e2, a2, b2⟩ := sqr_n (B := 2000000000) (by decide) (sq2e9 (x := m.1.2.1.toInt) (by omega))
  obtain ⟨e3, a3, b3⟩ := sqr_n (B := 2000000000) (by decide) (sq2e9 (x := m.1.2.2.toInt) (by omega))
  have s1 : (m.1.1 * m.1.1 + m.1.2.1 * m.1.2.1).toInt = m.1.1.toInt * m.1.1.toInt + m.1.2.1.toInt * m.1.2.1.toInt := by rw [add64 (by rw [e1, e2]; omega) (by rw [e1, e2]; omega), e1, e2]
  have s2 : (vq m.1).toInt = m.1.1.toInt * m.1.1.toInt + m.1.2.1.toInt * m.1.2.1.toInt + m.1.2.2.toInt * m.1.2.2.toInt := by
    unfold vq vd
    rw [add64 (by rw [s1, e3]; omega) (by rw [s1, e3]; omega), s1, e3]
  refine ⟨?_, h0, by omega⟩
  unfold okQ
  rw [s2]
  omega
