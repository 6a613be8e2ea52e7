/-! VECTORS: nearness, angles, weights, in the class and in the model -/
def vec (J : Nat → Nat → Int64) (a : Nat) : V3 := (J a 0, J a 1, J a 2)
def bI (x : Int64) : Prop := -1000 ≤ x.toInt ∧ x.toInt ≤ 1000
def bv (v : V3) : Prop := bI v.1 ∧ bI v.2.1 ∧ bI v.2.2
theorem mul_b {a b : Int64} {A B : Int} (ha : -A ≤ a.toInt ∧ a.toInt ≤ A) (hb : -B ≤ b.toInt ∧ b.toInt ≤ B) (hAB : A * B ≤ 4000000000000000000) : (a * b).toInt = a.toInt * b.toInt ∧ -(A * B) ≤ a.toInt * b.toInt ∧ a.toInt * b.toInt ≤ A * B := by
  have hA : 0 ≤ A := by omega
  have hB : 0 ≤ B := by omega
  have h1 : a.toInt.natAbs ≤ A.toNat := by omega
  have h2 : b.toInt.natAbs ≤ B.toNat := by omega
  have h3 : (a.toInt * b.toInt).natAbs ≤ A.toNat * B.toNat := by rw [Int.natAbs_mul]; exact Nat.mul_le_mul h1 h2
  have h4 : ((A.toNat * B.toNat : Nat) : Int) = A * B := by rw [Int.natCast_mul, Int.toNat_of_nonneg hA, Int.toNat_of_nonneg hB]
  have h5 : -(A * B) ≤ a.toInt * b.toInt ∧ a.toInt * b.toInt ≤ A * B := by omega
  exact ⟨mul64 (by omega) (by omega), h5⟩
theorem vd_b {a b : V3} (ha : bv a) (hb : bv b) : (vd a b).toInt = a.1.toInt * b.1.toInt + a.2.1.toInt * b.2.1.toInt + a.2.2.toInt * b.2.2.toInt ∧ -3000000 ≤ (vd a b).toInt ∧ (vd a b).toInt ≤ 3000000 := by
  obtain ⟨e1, g1⟩ := mul_b ha.1 hb.1 (by decide)
  obtain ⟨e2, g2⟩ := mul_b ha.2.1 hb.2.1 (by decide)
  obtain ⟨e3, g3⟩ := mul_b ha.2.2 hb.2.2 (by decide)
  have s1 : (a.1 * b.1 + a.2.1 * b.2.1).toInt = a.1.toInt * b.1.toInt + a.2.1.toInt * b.2.1.toInt := by rw [add64 (by rw [e1, e2]; omega) (by rw [e1, e2]; omega), e1, e2]
  have s2 : (vd a b).toInt = a.1.toInt * b.1.toInt + a.2.1.toInt * b.2.1.toInt + a.2.2.toInt * b.2.2.toInt := by
    unfold vd
    rw [add64 (by rw [s1, e3]; omega) (by rw [s1, e3]; omega), s1, e3]
  exact ⟨s2, by rw [s2]; omega, by rw [s2]; omega⟩
theorem vq_b {a : V3} (ha : bv a) : 0 ≤ (vq a).toInt ∧ (vq a).toInt ≤ 3000000 := by
  obtain ⟨e, h1, h2⟩ := vd_b ha ha
  unfold vq
  have q1 := (sqr_b ha.1.1 ha.1.2).1
  have q2 := (sqr_b ha.2.1.1 ha.2.1.2).1
  have q3 := (sqr_b ha.2.2.1 ha.2.2.2).1
  exact ⟨by rw [e]; omega, h2⟩
theorem qq_b {a b : V3} (ha : bv a) (hb : bv b) : (vq a * vq b).toInt = (vq a).toInt * (vq b).toInt ∧ 0 ≤ (vq a).toInt * (vq b).toInt ∧ (vq a).toInt * (vq b).toInt ≤ 9000000000000 := by
  obtain ⟨a1, a2⟩ := vq_b ha
  obtain ⟨b1, b2⟩ := vq_b hb
  obtain ⟨e, g1, g2⟩ := mul_b (a := vq a) (b := vq b) (A := 3000000) (B := 3000000) ⟨by omega, a2⟩ ⟨by omega, b2⟩ (by decide)
  exact ⟨e, Int.mul_nonneg a1 b1, by omega⟩
theorem okN_v {a b : V3} (ha : bv a) (hb : bv b) : okN (vd a b) (vq a * vq b) := by
  obtain ⟨-, h1, h2⟩ := vd_b ha hb
  obtain ⟨e, g1, g2⟩ := qq_b ha hb
  exact ⟨h1, h2, by rw [e]; exact g1, by rw [e]; exact g2⟩
/-- the angle of two vectors -/
def va2 (a b : V3) : Nat := ag (vd a b) (vq a * vq b)
theorem va2_le {a b : V3} (ha : bv a) (hb : bv b) : va2 a b ≤ 90 := ag_le (dd_nn (okN_v ha hb))
theorem cc64 {k : Nat} (h : k ≤ 90) : (cs (nI k)).toInt64 * (cs (nI k)).toInt64 = (cs (nI k) * cs (nI k)).toInt64 := by
  apply Int64.toInt_inj.mp
  obtain ⟨e, g1, g2⟩ := cc_toInt h
  rw [e, mul64 (by rw [i64_of]; omega) (by rw [i64_of]; omega), i64_of]
/-- the class's row of sines -/
def SNS (I : Nat → Nat → Int32) : Prop := ∀ k, k < 630 → I 3 k = sn (nI k)
theorem cos_at {I : Nat → Nat → Int32} (h : SNS I) {k : Nat} (hk : k < 540) : I 3 (Int32.toNatClampNeg (nI k + 90)) = cs (nI k) ∧ ixb 630 (nI k + 90) = true := by
  have e : nI k + 90 = nI (k + 90) := nI_add k 90
  rw [e, cl_n (by omega), h _ (by omega)]
  exact ⟨by unfold cs; rw [e], ixb_n (by omega) (by decide)⟩
theorem sin_at {I : Nat → Nat → Int32} (h : SNS I) {k : Nat} (hk : k < 630) : I 3 (Int32.toNatClampNeg (nI k)) = sn (nI k) ∧ ixb 630 (nI k) = true := by
  rw [cl_n (by omega), h _ hk]
  exact ⟨rfl, ixb_n (by omega) (by decide)⟩
section CLS
variable {d sl : Nat} {p : Nat → Nat} {I : Nat → Nat → Int32} {J : Nat → Nat → Int64}
theorem sp_vdot {a b : Nat} (ha : ob a 0) (hb : ob b 0) : den d 4 [.ref a, .ref b] (S sl p I J) = some (some (.long (vd (vec J a) (vec J b))), S sl p I J) := E4_0 ha hb
theorem sp_vsq {a : Nat} (ha : ob a 0) : den d 5 [.ref a] (S sl p I J) = some (some (.long (vq (vec J a))), S sl p I J) := E5_0 ha
theorem sp_areNearC {a b k : Nat} (ha : ob a 0) (hb : ob b 0) (hk : k ≤ 90) (hs : SNS I) (va : bv (vec J a)) (vb : bv (vec J b)) : den (d + 1) 30 [.ref 2, .ref a, .ref b, .int (nI k)] (S sl p I J) = some (some (.int (if va2 (vec J a) (vec J b) ≤ k then 1 else 0)), S sl p I J) := by
  obtain ⟨c1, c2⟩ := cos_at hs (k := k) (by omega)
  rw [E30_0 _ ha hb, sp_vdot ha hb, evK_s, E30_5 _ _ ha hb, ck_if c2, c1, sp_vsq ha, evK_s, E30_37 _ _ _ _ _ _ ha hb, sp_vsq hb, evK_s, E30_41 _ _ _ _ _ _ _ ha hb, cc64 hk]
  have h : nrb _ _ k = decide (va2 (vec J a) (vec J b) ≤ k) := nrb_ag (okN_v va vb) hk
  unfold nrb at h
  by_cases hc : va2 (vec J a) (vec J b) ≤ k
  · rw [decide_eq_true hc] at h
    rw [if_neg (by simpa using h), if_pos hc]
  · rw [decide_eq_false hc] at h
    rw [if_pos (by simpa using h), if_neg hc]
theorem angC_loop {a b : Nat} (ha : ob a 0) (hb : ob b 0) (hs : SNS I) {dt sq : Int64} (hk : okN dt sq) : ∀ (f lo hi st : Nat), hi ≤ lo + f → lo ≤ ag dt sq → ag dt sq ≤ hi → hi ≤ 90 → st + hi ≤ 90 + lo → ev d 31 36 [.ref 2, .ref a, .ref b, .long dt, .retAddr 0, .long (dt * dt * 1000000), .retAddr 0, .long sq, .retAddr 0, .int (nI lo), .int (nI hi), .int (nI st), .retAddr 0, .retAddr 0, .retAddr 0] [] (S sl p I J) = some (some (.int (nI (ag dt sq))), S sl p I J) := by
  intro f
  induction f with
  | zero =>
    intro lo hi st h1 h2 h3 h4 h5
    rw [E31_36 _ _ _ _ _ _ ha hb, if_neg (c := nI lo < nI hi) (nI_nlt (by omega) (by omega)), show hi = ag dt sq by omega]
    split <;> rfl
  | succ f ih =>
    intro lo hi st h1 h2 h3 h4 h5
    rw [E31_36 _ _ _ _ _ _ ha hb]
    by_cases hc : lo < hi
    · have e1 : (nI lo + nI hi) / 2 = nI ((lo + hi) / 2) := by rw [nI_add, show (2 : Int32) = nI 2 from rfl, pk_div (by omega) (by omega) (by omega)]
      rw [if_pos (show nI st < 90 from nI_lt (b := 90) (by omega) (by omega)), if_pos (nI_lt hc (by omega)), e1]
      obtain ⟨c1, c2⟩ := cos_at hs (k := (lo + hi) / 2) (by omega)
      rw [ck_if c2, c1, cc64 (by omega)]
      have h := nrb_ag hk (k := (lo + hi) / 2) (by omega)
      unfold nrb at h
      by_cases hq : ag dt sq ≤ (lo + hi) / 2
      · rw [decide_eq_true hq] at h
        rw [if_neg (by simpa using h), nI_1]
        exact ih _ _ _ (by omega) h2 hq (by omega) (by omega)
      · rw [decide_eq_false hq] at h
        rw [if_pos (by simpa using h), nI_1, nI_1]
        exact ih _ _ _ (by omega) (by omega) h3 h4 (by omega)
    · rw [if_neg (c := nI lo < nI hi) (nI_nlt (by omega) (by omega)), show hi = ag dt sq by omega]
      split <;> rfl
theorem sp_angleOfC {a b : Nat} (ha : ob a 0) (hb : ob b 0) (hs : SNS I) (va : bv (vec J a)) (vb : bv (vec J b)) : den (d + 1) 31 [.ref 2, .ref a, .ref b] (S sl p I J) = some (some (.int (nI (va2 (vec J a) (vec J b)))), S sl p I J) := by
  rw [E31_0 ha hb, sp_vdot ha hb, evK_s, E31_5 _ ha hb, sp_vsq ha, evK_s, E31_19 _ _ _ ha hb, sp_vsq hb, evK_s, E31_23 _ _ _ _ ha hb]
  exact angC_loop ha hb hs (okN_v va vb) 90 0 90 0 (by omega) (Nat.zero_le _) (va2_le va vb) (by omega) (by omega)
end CLS
