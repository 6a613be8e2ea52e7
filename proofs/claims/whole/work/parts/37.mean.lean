/-! sums and means in the model -/
def setS (J : Nat → Nat → Int64) (m : V3 × Int64) : Nat → Nat → Int64 := up2 (up2 (up2 (up2 J 46 32 m.1.1) 46 33 m.1.2.1) 46 34 m.1.2.2) 46 35 m.2
def set3v (I : Nat → Nat → Int32) (v : V3) : Nat → Nat → Int32 := set3 I v.1.toInt32 v.2.1.toInt32 v.2.2.toInt32
theorem setS_2 {J : Nat → Nat → Int64} {m m' : V3 × Int64} : setS (setS J m) m' = setS J m' := by
  funext a k
  unfold setS
  simp only [up_a]
  split
  · rfl
  · split
    · rfl
    · split
      · rfl
      · split <;> rfl
theorem set3_2 {I : Nat → Nat → Int32} {x y z x' y' z' : Int32} : set3 (set3 I x y z) x' y' z' = set3 I x' y' z' := by
  funext a k
  unfold set3
  simp only [up_a]
  split
  · rfl
  · split
    · rfl
    · split <;> rfl
theorem set3v_2 {I : Nat → Nat → Int32} {v w : V3} : set3v (set3v I v) w = set3v I w := set3_2
theorem setS_r {J : Nat → Nat → Int64} {m : V3 × Int64} : setS J m 46 32 = m.1.1 ∧ setS J m 46 33 = m.1.2.1 ∧ setS J m 46 34 = m.1.2.2 ∧ setS J m 46 35 = m.2 := by
  unfold setS
  simp [up_a]
theorem setS_n {J : Nat → Nat → Int64} {m : V3 × Int64} {a k : Nat} (h : ¬ (a = 46 ∧ 32 ≤ k ∧ k < 36)) : setS J m a k = J a k := by
  unfold setS
  rw [up_n (by omega), up_n (by omega), up_n (by omega), up_n (by omega)]
theorem set3v_r {I : Nat → Nat → Int32} {v : V3} : set3v I v 46 23 = v.1.toInt32 ∧ set3v I v 46 24 = v.2.1.toInt32 ∧ set3v I v 46 25 = v.2.2.toInt32 := by
  unfold set3v set3
  simp [up_a]
theorem set3v_n {I : Nat → Nat → Int32} {v : V3} {a k : Nat} (h : ¬ (a = 46 ∧ 23 ≤ k ∧ k < 26)) : set3v I v a k = I a k := by
  unfold set3v set3
  rw [up_n (by omega), up_n (by omega), up_n (by omega)]
theorem dat_set3v {I : Nat → Nat → Int32} {v : V3} : dat (set3v I v) = dat I := dat_set3
/-- twice as far: what crosses -/
def bJ (x : Int64) : Prop := -2000 ≤ x.toInt ∧ x.toInt ≤ 2000
def bw (v : V3) : Prop := bJ v.1 ∧ bJ v.2.1 ∧ bJ v.2.2
theorem bv_w {v : V3} (h : bv v) : bw v := by
  unfold bv bI at h
  unfold bw bJ
  omega
theorem bJ_neg {x : Int64} (h : bJ x) : bJ (-x) := by
  unfold bJ at *
  rw [neg64 (by omega)]
  omega
theorem tup_w {v : V3} (h : bw v) : bw (tup v) := by
  unfold tup
  split
  · exact ⟨bJ_neg h.1, bJ_neg h.2.1, bJ_neg h.2.2⟩
  · exact h
theorem n32 {x : Int64} (h : bJ x) : x.toInt32.toInt = x.toInt := by
  unfold bJ at h
  rw [Int64.toInt_toInt32, bm32 (by omega) (by omega)]
theorem n32_64 {x : Int64} (h : bJ x) : x.toInt32.toInt64 = x := Int64.toInt_inj.mp (by rw [i64_of, n32 h])
theorem n32_neg {x : Int64} (h : bJ x) : -x.toInt32 = (-x).toInt32 := by
  have hn := bJ_neg h
  apply Int32.toInt_inj.mp
  rw [n32 hn]
  unfold bJ at h
  rw [neg32 (by rw [n32 h]; omega), n32 h, neg64 (by omega)]
theorem n32_le {x : Int64} (h : bJ x) : x.toInt32 ≤ 0 ↔ x.toInt ≤ 0 := by
  rw [Int32.le_iff_toInt_le, n32 h]
  rfl
theorem n32_lt {x : Int64} (h : bJ x) : x.toInt32 < 0 ↔ x.toInt < 0 := by
  rw [Int32.lt_iff_toInt_lt, n32 h]
  rfl
theorem n32_0 {x : Int64} (h : bJ x) : x.toInt32 = 0 ↔ x.toInt = 0 := by
  rw [← Int32.toInt_inj, n32 h]
  rfl
theorem l_lt {x : Int64} : x < 0 ↔ x.toInt < 0 := by
  rw [Int64.lt_iff_toInt_lt]
  rfl
theorem l_0 {x : Int64} : x = 0 ↔ x.toInt = 0 := by
  rw [← Int64.toInt_inj]
  rfl
def downV (v : V3) : Prop := v.2.2 < 0 ∨ (v.2.2 = 0 ∧ (v.2.1 < 0 ∨ (v.2.1 = 0 ∧ v.1 < 0)))
theorem tup_p {v : V3} (h : downV v) : tup v = (-v.1, -v.2.1, -v.2.2) := if_pos h
theorem tup_n {v : V3} (h : ¬ downV v) : tup v = v := if_neg h
theorem set3v_neg {I : Nat → Nat → Int32} {v : V3} (h : bw v) : up2 (up2 (up2 (set3v I v) 46 23 (-(set3v I v 46 23))) 46 24 (-(up2 (set3v I v) 46 23 (-(set3v I v 46 23)) 46 24))) 46 25 (-(up2 (up2 (set3v I v) 46 23 (-(set3v I v 46 23))) 46 24 (-(up2 (set3v I v) 46 23 (-(set3v I v 46 23)) 46 24)) 46 25)) = set3v I (-v.1, -v.2.1, -v.2.2) := by
  obtain ⟨e1, e2, e3⟩ := set3v_r (I := I) (v := v)
  rw [up_n (a := 46) (k := 23) (a' := 46) (k' := 24) (by omega), up_n (a := 46) (k := 24) (a' := 46) (k' := 25) (by omega), up_n (a := 46) (k := 23) (a' := 46) (k' := 25) (by omega), e1, e2, e3, n32_neg h.1, n32_neg h.2.1, n32_neg h.2.2]
  exact set3_2
section MEAN
variable {d sl : Nat} {p : Nat → Nat} {I : Nat → Nat → Int32} {J : Nat → Nat → Int64}
theorem sp_turnsUp {v : V3} (h : bw v) : den d 218 [.ref 46] (S sl p (set3v I v) J) = some (none, S sl p (set3v I (tup v)) J) := by
  rw [E218_0, set3v_neg h]
  obtain ⟨e1, e2, e3⟩ := set3v_r (I := I) (v := v)
  rw [e1, e2, e3]
  simp only [n32_le h.2.2, n32_0 h.2.2, n32_le h.2.1, n32_0 h.2.1, n32_lt h.1]
  by_cases z0 : v.2.2.toInt ≤ 0
  · rw [if_pos z0]
    by_cases z1 : v.2.2.toInt = 0
    · rw [if_pos z1]
      by_cases y0 : v.2.1.toInt ≤ 0
      · rw [if_pos y0]
        by_cases y1 : v.2.1.toInt = 0
        · rw [if_pos y1]
          by_cases x0 : v.1.toInt < 0
          · rw [if_pos x0, tup_p (Or.inr ⟨l_0.mpr z1, Or.inr ⟨l_0.mpr y1, l_lt.mpr x0⟩⟩)]
          · rw [if_neg x0, tup_n (by
              unfold downV
              rw [l_lt, l_lt, l_lt, l_0, l_0]
              omega)]
        · rw [if_neg y1, tup_p (Or.inr ⟨l_0.mpr z1, Or.inl (l_lt.mpr (by omega))⟩)]
      · rw [if_neg y0, tup_n (by
          unfold downV
          rw [l_lt, l_lt, l_lt, l_0, l_0]
          omega)]
    · rw [if_neg z1, tup_p (Or.inl (l_lt.mpr (by omega)))]
  · rw [if_neg z0, tup_n (by
      unfold downV
      rw [l_lt, l_lt, l_lt, l_0, l_0]
      omega)]
theorem zv_tup {v : V3} (h : bw v) : zv (tup v) ↔ zv v := by
  by_cases q : downV v
  · rw [tup_p q]
    unfold zv
    have h1 := h.1
    have h2 := h.2.1
    have h3 := h.2.2
    unfold bJ at h1 h2 h3
    simp only [l_0, neg64 (a := v.1) (by omega), neg64 (a := v.2.1) (by omega), neg64 (a := v.2.2) (by omega)]
    omega
  · rw [tup_n q]
theorem sp_laysMean {k : Nat} {m : V3 × Int64} (hB : sB 1000 k m) : (m.2 = 0 → den (d + 1) 217 [.ref 46] (S sl p I (setS J m)) = some (some (.int 0), S sl p I (setS J m))) ∧ (¬ m.2 = 0 → zv (mnv m) → den (d + 1) 217 [.ref 46] (S sl p I (setS J m)) = some (some (.int 0), S sl p (set3v I (tup (mnv m))) (setS J m))) ∧ (¬ m.2 = 0 → ¬ zv (mnv m) → den (d + 1) 217 [.ref 46] (S sl p I (setS J m)) = some (some (.int 1), S sl p (set3v I (tup (mnv m))) (setS J m))) := by
  obtain ⟨s1, s2, s3, s4⟩ := setS_r (J := J) (m := m)
  have go : ¬ m.2 = 0 → den (d + 1) 217 [.ref 46] (S sl p I (setS J m)) = ev (d + 1) 217 57 [.ref 46] [] (S sl p (set3v I (tup (mnv m))) (setS J m)) := by
    intro h0
    rw [E217_0, s1, s2, s3, s4, if_neg h0, ck_if (by simpa using h0), ck_if (by simpa using h0), ck_if (by simpa using h0)]
    rw [show up2 (up2 (up2 I 46 23 (Int64.toInt32 (m.1.1 / m.2))) 46 24 (Int64.toInt32 (m.1.2.1 / m.2))) 46 25 (Int64.toInt32 (m.1.2.2 / m.2)) = set3v I (mnv m) from rfl, sp_turnsUp (bv_w (mnv_b hB h0)), evK_v]
  refine ⟨fun h0 => ?_, fun h0 hz => ?_, fun h0 hz => ?_⟩
  · rw [E217_0, s4, if_pos h0]
  · have hb := bv_w (mnv_b hB h0)
    have hb2 := tup_w hb
    obtain ⟨z1, z2, z3⟩ := (zv_tup hb).mpr hz
    obtain ⟨e1, e2, e3⟩ := set3v_r (I := I) (v := tup (mnv m))
    rw [go h0, E217_57, e1, e2, e3, z1, z2, z3, if_pos (by decide), if_pos (by decide), if_pos (by decide)]
  · have hb := bv_w (mnv_b hB h0)
    have hb2 := tup_w hb
    have hz2 : ¬ zv (tup (mnv m)) := fun q => hz ((zv_tup hb).mp q)
    obtain ⟨e1, e2, e3⟩ := set3v_r (I := I) (v := tup (mnv m))
    rw [go h0, E217_57, e1, e2, e3]
    by_cases q1 : (tup (mnv m)).1.toInt32 = 0
    · rw [if_pos q1]
      by_cases q2 : (tup (mnv m)).2.1.toInt32 = 0
      · rw [if_pos q2]
        by_cases q3 : (tup (mnv m)).2.2.toInt32 = 0
        · exact absurd ⟨l_0.mpr ((n32_0 hb2.1).mp q1), l_0.mpr ((n32_0 hb2.2.1).mp q2), l_0.mpr ((n32_0 hb2.2.2).mp q3)⟩ hz2
        · rw [if_neg q3]
      · rw [if_neg q2]
    · rw [if_neg q1]
theorem sp_sums {m : V3 × Int64} {x : V3} {w : Int32} {t : Bool} : den d 215 [.ref 46, .long x.1, .long x.2.1, .long x.2.2, .int w, .int (if t then 1 else 0)] (S sl p I (setS J m)) = some (none, S sl p I (setS J (addS m w t x))) := by
  obtain ⟨s1, s2, s3, s4⟩ := setS_r (J := J) (m := m)
  have key : ∀ g : Int32, ev d 215 13 [.ref 46, .long x.1, .retAddr 0, .long x.2.1, .retAddr 0, .long x.2.2, .retAddr 0, .int w, .int (if t then 1 else 0), .retAddr 0] [.int g] (S sl p I (setS J m)) = some (none, S sl p I (setS J ((m.1.1 + g.toInt64 * x.1, m.1.2.1 + g.toInt64 * x.2.1, m.1.2.2 + g.toInt64 * x.2.2), m.2 + w.toInt64))) := by
    intro g
    rw [E215_13, up_n (a' := 46) (k' := 33) (by omega), up_n (a := 46) (k := 33) (a' := 46) (k' := 34) (by omega), up_n (a := 46) (k := 32) (a' := 46) (k' := 34) (by omega), up_n (a := 46) (k := 34) (a' := 46) (k' := 35) (by omega), up_n (a := 46) (k := 33) (a' := 46) (k' := 35) (by omega), up_n (a := 46) (k := 32) (a' := 46) (k' := 35) (by omega), s1, s2, s3, s4]
    exact congrArg (fun q => some (none, S sl p I q)) (setS_2 (J := J) (m := m) (m' := ((m.1.1 + g.toInt64 * x.1, m.1.2.1 + g.toInt64 * x.2.1, m.1.2.2 + g.toInt64 * x.2.2), m.2 + w.toInt64)))
  rw [E215_0]
  cases t
  · rw [if_pos (show (if false = true then (1 : Int32) else 0) = 0 by decide), key]; rfl
  · rw [if_neg (by decide), key]; rfl
theorem sp_laysSum (hD : GD (dat I)) {a : Nat} (ha : ar a 2 60) (s : Int32) (v : V3) : den (d + 6) 216 [.ref 46, .ref a, .int s, .long v.1, .long v.2.1, .long v.2.2] (S sl p I J) = some (none, S sl p I (setS J (smP (dat I) (fun k => decide (I a k = s)) v (nc (dat I))))) := by
  have n60 := hD.n60
  obtain ⟨m, e, h⟩ := for_ex (M := V3 × Int64) (fun k m => ev (d + 6) 216 7 [.ref 46, .ref a, .int s, .long v.1, .retAddr 0, .long v.2.1, .retAddr 0, .long v.2.2, .retAddr 0, .int k] [] (S sl p I (setS J m))) (nc (dat I)) (fun k m => m = smP (dat I) (fun k => decide (I a k = s)) v k)
    (by
      rintro k m hk rfl
      refine ⟨_, ?_, rfl⟩
      rw [E216_7 _ _ _ _ _ ha, hD.i2, if_pos (lt_n hk (by omega)), ck_if (ixb_n (by omega) (by decide)), cl_n (by omega)]
      show _ = ev (d + 6) 216 7 _ _ (S sl p I (setS J (if decide (I a k = s) = true then addS (smP (dat I) (fun k => decide (I a k = s)) v k) (wt (dat I) k) (decide (vd (pv (dat I) k) v < 0)) (pv (dat I) k) else smP (dat I) (fun k => decide (I a k = s)) v k)))
      by_cases q : I a k = s
      · rw [if_pos q, if_pos (decide_eq_true q), ck_if (ixb_n (by omega) (by decide)), ck_if (ixb_n (by omega) (by decide)), ck_if (ixb_n (by omega) (by decide)), sp_wt hD hk, evK_s, E216_55 _ _ _ _ _ _ _ _ _ ha, ck_if (ixb_n (by omega) (by decide)), ck_if (ixb_n (by omega) (by decide)), ck_if (ixb_n (by omega) (by decide)), cl_n (by omega), sp_dot, evK_s, E216_87 _ _ _ _ _ _ _ _ _ _ ha]
        have hv : vd (Int32.toInt64 (I 54 k), Int32.toInt64 (I 55 k), Int32.toInt64 (I 56 k)) (v.1, v.2.1, v.2.2) = vd (pv (dat I) k) v := rfl
        rw [hv]
        have h1 := sp_sums (d := d + 5) (sl := sl) (p := p) (I := I) (J := J) (m := smP (dat I) (fun k => decide (I a k = s)) v k) (x := pv (dat I) k) (w := wt (dat I) k) (t := decide (vd (pv (dat I) k) v < 0))
        rw [show (pv (dat I) k).1 = Int32.toInt64 (I 54 k) from rfl, show (pv (dat I) k).2.1 = Int32.toInt64 (I 55 k) from rfl, show (pv (dat I) k).2.2 = Int32.toInt64 (I 56 k) from rfl] at h1
        by_cases w : vd (pv (dat I) k) v < 0
        · rw [if_pos w, E216_97 _ _ _ _ _ _ _ _ _ _ ha]
          rw [decide_eq_true w, if_pos rfl] at h1
          rw [decide_eq_true w, h1, evK_v, E216_100 _ _ _ _ _ ha, nI_1]
        · rw [if_neg w, E216_97 _ _ _ _ _ _ _ _ _ _ ha]
          rw [decide_eq_false w, if_neg (by decide)] at h1
          rw [decide_eq_false w, h1, evK_v, E216_100 _ _ _ _ _ ha, nI_1]
      · rw [if_neg q, if_neg (by simpa using q), nI_1])
    noS rfl
  rw [E216_0 _ _ _ _ ha, E214_0, evK_v, E216_4 _ _ _ _ ha]
  rw [show up2 (up2 (up2 (up2 J 46 32 0) 46 33 0) 46 34 0) 46 35 0 = setS J noS from rfl, e, h, E216_7 _ _ _ _ _ ha, hD.i2, if_neg (nlt_n (by omega))]
end MEAN
