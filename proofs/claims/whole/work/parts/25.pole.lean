/-! POLES and ARROWS; the class's weights -/
theorem sn_tab : ((List.range 360).all fun k => decide (-1000 ≤ (if nI k ≤ 180 then snB (nI k) else -snB (nI k - 180)).toInt ∧ (if nI k ≤ 180 then snB (nI k) else -snB (nI k - 180)).toInt ≤ 1000)) = true := by decide +kernel
theorem sn_b (x : Int32) : -1000 ≤ (sn x).toInt ∧ (sn x).toInt ≤ 1000 := by
  obtain ⟨k, hk, e⟩ := fmod_r x
  unfold sn
  rw [e]
  exact of_decide_eq_true (List.all_eq_true.mp sn_tab k (List.mem_range.mpr hk))
theorem cs_b (x : Int32) : -1000 ≤ (cs x).toInt ∧ (cs x).toInt ≤ 1000 := sn_b _
theorem tdiv_b {a c : Int} (h1 : -(c * 1000) ≤ a) (h2 : a ≤ c * 1000) : -c ≤ a.tdiv 1000 ∧ a.tdiv 1000 ≤ c := by
  have e := Int.mul_tdiv_add_tmod a 1000
  have b : -1000 < a.tmod 1000 ∧ a.tmod 1000 < 1000 := tmod_bounds (by decide)
  rcases Int.le_total 0 a with h | h
  · have := Int.tmod_nonneg 1000 h
    omega
  · have h3 := Int.tmod_nonneg (1000 : Int) (a := -a) (by omega)
    rw [Int.neg_tmod] at h3
    omega
theorem mul32_b {a b : Int32} (ha : -1000 ≤ a.toInt ∧ a.toInt ≤ 1000) (hb : -1000 ≤ b.toInt ∧ b.toInt ≤ 1000) : -1000 ≤ (a * b / 1000).toInt ∧ (a * b / 1000).toInt ≤ 1000 := by
  have h1 : a.toInt.natAbs ≤ 1000 := by omega
  have h2 : b.toInt.natAbs ≤ 1000 := by omega
  have h3 : (a.toInt * b.toInt).natAbs ≤ 1000 * 1000 := by rw [Int.natAbs_mul]; exact Nat.mul_le_mul h1 h2
  have e : (a * b).toInt = a.toInt * b.toInt := mul32 (by omega) (by omega)
  rw [div32 (show 0 < (1000 : Int32).toInt by decide), e]
  exact tdiv_b (c := 1000) (by omega) (by omega)
def poX (r dp : Int32) : Int32 := sn dp * cs (plD r dp + 180) / 1000
def poY (r dp : Int32) : Int32 := sn dp * sn (plD r dp + 180) / 1000
def poZ (dp : Int32) : Int32 := cs dp
def arX (t q : Int32) : Int32 := cs q * cs t / 1000
def arY (t q : Int32) : Int32 := cs q * sn t / 1000
def arZ (q : Int32) : Int32 := sn q
def poV (r dp : Int32) : V3 := ((poX r dp).toInt64, (poY r dp).toInt64, (poZ dp).toInt64)
def arV (t q : Int32) : V3 := ((arX t q).toInt64, (arY t q).toInt64, (arZ q).toInt64)
theorem poV_b (r dp : Int32) : bv (poV r dp) := ⟨by unfold poV bI; rw [i64_of]; exact mul32_b (sn_b _) (cs_b _), by unfold poV bI; rw [i64_of]; exact mul32_b (sn_b _) (sn_b _), by unfold poV bI; rw [i64_of]; exact cs_b _⟩
theorem arV_b (t q : Int32) : bv (arV t q) := ⟨by unfold arV bI; rw [i64_of]; exact mul32_b (cs_b _) (cs_b _), by unfold arV bI; rw [i64_of]; exact mul32_b (cs_b _) (sn_b _), by unfold arV bI; rw [i64_of]; exact sn_b _⟩
def set3 (I : Nat → Nat → Int32) (x y z : Int32) : Nat → Nat → Int32 := up2 (up2 (up2 I 46 23 x) 46 24 y) 46 25 z
def setV (J : Nat → Nat → Int64) (a : Nat) (v : V3) : Nat → Nat → Int64 := up2 (up2 (up2 J a 0 v.1) a 1 v.2.1) a 2 v.2.2
theorem dat_set3 {I : Nat → Nat → Int32} {x y z : Int32} : dat (set3 I x y z) = dat I := by
  unfold set3
  rw [dat_up (by unfold isD; omega), dat_up (by unfold isD; omega), dat_up (by unfold isD; omega)]
theorem vec_setV {J : Nat → Nat → Int64} {a : Nat} {v : V3} : vec (setV J a v) a = v := by
  unfold vec setV
  simp [up_a]
theorem vec_setV_ne {J : Nat → Nat → Int64} {a b : Nat} {v : V3} (h : b ≠ a) : vec (setV J a v) b = vec J b := by
  unfold vec setV
  simp [up_a, h]
theorem setV_ne {J : Nat → Nat → Int64} {a b k : Nat} {v : V3} (h : b ≠ a) : setV J a v b k = J b k := by
  unfold setV
  simp [up_a, h]
section POLE
variable {d sl : Nat} {p : Nat → Nat} {I : Nat → Nat → Int32} {J : Nat → Nat → Int64}
theorem sp_laysPole (r dp : Int32) : den (d + 4) 186 [.ref 46, .int r, .int dp] (S sl p I J) = some (none, S sl p (set3 I (poX r dp) (poY r dp) (poZ dp)) J) := by
  simp only [E186_0, E186_5, E186_15, E186_19, E186_32, E186_36, E186_49, sp_plainDirection, sp_sine, sp_cosine, evK_s]
  rfl
theorem sp_laysArrow (t q : Int32) : den (d + 4) 187 [.ref 46, .int t, .int q] (S sl p I J) = some (none, S sl p (set3 I (arX t q) (arY t q) (arZ q)) J) := by
  simp only [E187_0, E187_5, E187_9, E187_22, E187_26, E187_39, sp_sine, sp_cosine, evK_s]
  rfl
theorem sp_put {a : Nat} (ha : ob a 0) (x y z : Int64) : den d 1 [.ref a, .long x, .long y, .long z] (S sl p I J) = some (none, S sl p I (setV J a (x, y, z))) := E1_0 x y z ha
theorem sp_plainP (x dp : Int32) : den d 173 [.int x, .int dp] (S sl p I J) = some (some (.int (plD x dp)), S sl p I J) := by
  rw [E173_0]
  unfold plD
  split
  · rfl
  · split <;> rfl
theorem plD_r {r dp : Nat} (h : r < 360) : ∃ k, k < 360 ∧ plD (nI r) (nI dp) = nI k := by
  unfold plD
  split
  · exact ⟨0, by omega, nI_0.symm⟩
  · split
    · exact ⟨r % 180, by omega, pk_rem (d := 180) (by omega) (by omega) (by omega)⟩
    · exact ⟨r, h, rfl⟩
theorem sp_poleInto {r dp a : Nat} (hr : r < 360) (hd : dp ≤ 90) (ha : ob a 0) (hs : SNS I) : den (d + 1) 28 [.ref 2, .int (nI r), .int (nI dp), .ref a] (S sl p I J) = some (none, S sl p I (setV J a (poV (nI r) (nI dp)))) := by
  obtain ⟨k, hk, e⟩ := plD_r (dp := dp) hr
  rw [E28_0 _ _ ha, sp_plainP, evK_s, E28_5 _ _ _ ha]
  have e1 : plD (nI r) (nI dp) + 180 = nI (k + 180) := by rw [e]; exact nI_add k 180
  rw [e1]
  obtain ⟨a1, a2⟩ := sin_at hs (k := dp) (by omega)
  obtain ⟨b1, b2⟩ := sin_at hs (k := k + 180) (by omega)
  obtain ⟨c1, c2⟩ := cos_at hs (k := k + 180) (by omega)
  obtain ⟨f1, f2⟩ := cos_at hs (k := dp) (by omega)
  rw [ck_if a2, ck_if c2, ck_if b2, ck_if f2, a1, b1, c1, f1, sp_put ha, evK_v, E28_66 _ _ _ _ ha]
  unfold poV poX poY poZ
  rw [e1]
theorem sp_arrowInto {t q a : Nat} (ht : t < 360) (hq : q ≤ 90) (ha : ob a 0) (hs : SNS I) : den (d + 1) 29 [.ref 2, .int (nI t), .int (nI q), .ref a] (S sl p I J) = some (none, S sl p I (setV J a (arV (nI t) (nI q)))) := by
  rw [E29_0 _ _ ha]
  obtain ⟨a1, a2⟩ := sin_at hs (k := t) (by omega)
  obtain ⟨b1, b2⟩ := sin_at hs (k := q) (by omega)
  obtain ⟨c1, c2⟩ := cos_at hs (k := t) (by omega)
  obtain ⟨f1, f2⟩ := cos_at hs (k := q) (by omega)
  rw [ck_if f2, ck_if c2, ck_if a2, ck_if b2, a1, b1, c1, f1, sp_put ha, evK_v, E29_53 _ _ _ ha]
  rfl
theorem i64_i32 (x : Int32) : (Int32.toInt64 x).toInt32 = x := Int32.toInt32_toInt64 x
theorem sp_weightByC {a b c : Nat} (ha : ob a 0) (hb : ob b 0) (va : bv (vec J a)) (vb : bv (vec J b)) (hc : I 4 9 = nI c) (hc1 : c ≤ 20) : den (d + 1) 65 [.ref 4, .ref a, .ref b] (S sl p I J) = some (some (.int (wtv (nI c) (vec J a) (vec J b))), S sl p I J) := by
  have e0 : nI c * 1000 = nI (c * 1000) := pk_mul c 1000
  have e00 : 1000 * nI c = nI (c * 1000) := by rw [Int32.mul_comm]; exact e0
  have e1 : Int32.toInt64 (nI (c * 1000)) = lN (c * 1000) := nI_l (by omega)
  have e2 : 1000 * Int32.toInt64 (nI c) = lN (c * 1000) := by rw [nI_l (by omega), Int64.mul_comm]; exact lN_mul c 1000
  rw [E65_0 ha hb, sp_vdot ha hb, evK_s, E65_5 _ ha hb, hc, e0]
  unfold wtv
  by_cases h0 : vd (vec J a) (vec J b) = 0
  · rw [if_pos h0, if_pos h0, i64_i32, e00]
  · obtain ⟨w1, w2, -⟩ := ww_b va vb h0
    rw [if_neg h0, if_neg h0, sp_vsq ha, evK_s, E65_34 _ _ _ _ ha hb, sp_vsq hb, evK_s, E65_38 _ _ _ _ _ ha hb, sp_parted, evK_s, E65_46 _ _ _ ha hb]
    unfold pt
    rw [if_neg w1, ← Int64.mul_assoc, e1, e2, lN_mul]
    generalize hX : 1000000 * vq (vec J a) * vq (vec J b) / (vd (vec J a) (vec J b) * vd (vec J a) (vec J b)) = X at w2 ⊢
    obtain ⟨x, hx, rfl⟩ := pk_lOf (x := X) (fun q => by have := Int64.lt_iff_toInt_lt.mp q; have : X.toInt < 0 := this; omega)
    have er : rt (lN x) = lN (isq x) := by
      unfold rt
      rw [lN_tI hx, Int.toNat_natCast]
    have hcc : c * 1000 * (c * 1000) ≤ 20000 * 20000 := Nat.mul_le_mul (by omega) (by omega)
    have hi : isq x < 2 ^ 63 := by
      have := (isq_ok x).1
      rcases Nat.lt_or_ge (isq x) (2 ^ 63) with q | q
      · exact q
      · have := sq_mono q
        omega
    by_cases hl : x < c * 1000 * (c * 1000)
    · rw [if_pos ((pk_lLT hx (by omega)).mpr hl), sp_rootP (by rw [lN_tI hx]; omega) (by rw [lN_tI hx]; omega), evK_s, E65_69 _ _ _ _ ha hb, er, if_pos ((pk_lLT hi (by omega)).mpr ?_)]
      rcases Nat.lt_or_ge (isq x) (c * 1000) with q | q
      · exact q
      · have := isq_le.mp q
        omega
    · rw [if_neg (fun q => hl ((pk_lLT hx (by omega)).mp q)), er, if_neg ?_]
      intro q
      have q := (pk_lLT hi (by omega)).mp q
      have := isq_le.mpr (show c * 1000 * (c * 1000) ≤ x by omega)
      omega
end POLE
