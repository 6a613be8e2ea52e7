/-! spacings -/
theorem arr0_tab : ((List.range 360).all fun k => decide (0 < (vq (arV (nI k) 0)).toInt)) = true := by decide +kernel
theorem snp_tab : ((List.range 90).all fun k => decide (0 < (sn (nI (k + 1))).toInt)) = true := by decide +kernel
theorem vq_sum {v : V3} (hv : bv v) : (vq v).toInt = v.1.toInt * v.1.toInt + v.2.1.toInt * v.2.1.toInt + v.2.2.toInt * v.2.2.toInt := (vd_b hv hv).1
theorem sq_pos {a : Int} (h : a ≠ 0) : 0 < a * a := by
  rcases Int.lt_or_gt_of_ne h with w | w
  · exact Int.mul_pos_of_neg_of_neg w w
  · exact Int.mul_pos w w
theorem vq_pos {v : V3} (hv : bv v) (h : ¬ (v.1 = 0 ∧ v.2.1 = 0 ∧ v.2.2 = 0)) : 0 < (vq v).toInt := by
  rw [vq_sum hv]
  have h1 := sq_nn v.1.toInt
  have h2 := sq_nn v.2.1.toInt
  have h3 := sq_nn v.2.2.toInt
  rw [l_0, l_0, l_0] at h
  by_cases a : v.1.toInt = 0
  · by_cases b : v.2.1.toInt = 0
    · have := sq_pos (a := v.2.2.toInt) (fun c => h ⟨a, b, c⟩)
      omega
    · have := sq_pos b
      omega
  · have := sq_pos a
    omega
theorem vq_arr {t q : Nat} (ht : t < 360) (hq : q ≤ 90) : 0 < (vq (arV (nI t) (nI q))).toInt := by
  by_cases z : q = 0
  · subst z
    exact of_decide_eq_true (List.all_eq_true.mp arr0_tab t (List.mem_range.mpr ht))
  · have hs : 0 < (sn (nI q)).toInt := by
      have := of_decide_eq_true (List.all_eq_true.mp snp_tab (q - 1) (List.mem_range.mpr (by omega)))
      rw [show q - 1 + 1 = q by omega] at this
      exact this
    refine vq_pos (arV_b _ _) (fun w => ?_)
    have := (l_0 (x := (arZ (nI q)).toInt64)).mp w.2.2
    rw [i64_of] at this
    have e : (arZ (nI q)).toInt = (sn (nI q)).toInt := rfl
    omega
theorem vq_tup {v : V3} (hv : bv v) : (vq (tup v)).toInt = (vq v).toInt := by
  have ht := tup_b hv
  rw [vq_sum ht, vq_sum hv]
  by_cases q : downV v
  · obtain ⟨h1, h2, h3⟩ := bv_w hv
    rw [tup_p q]
    simp only
    rw [neg_b h1, neg_b h2, neg_b h3, Int.neg_mul_neg, Int.neg_mul_neg, Int.neg_mul_neg]
  · rw [tup_n q]
section SPA
variable {d sl : Nat} {p : Nat → Nat} {I I' : Nat → Nat → Int32} {J J' : Nat → Nat → Int64} {D : Nat → Nat → Int32} {e : Nat}
theorem GD.qp (hD : GD D) {i : Nat} (hi : i < nc D) : 0 < (vq (pv D i)).toInt := by
  obtain ⟨l, t, q, a, -, h2, h3, -, -, -, -, -, e⟩ := hD.cr i hi
  rw [e]
  exact (vq_pole h2 h3).1
theorem GD.qa (hD : GD D) {l : Nat} (hl : l < nl D) : 0 < (vq (av D l)).toInt := by
  obtain ⟨t, q, a, h1, h2, -, -, -, -, -, e⟩ := hD.li l hl
  rw [e]
  exact vq_arr h1 h2
theorem meO_q (hD : GD D) (hL : LabD D) {s : Nat} (hs : s < nst D) : 0 < (vq (meO D s)).toInt := by
  have hp := hD.bp (sd_of hD hL hs).2.1
  unfold meO
  split
  · rw [vq_tup hp]
    exact hD.qp (sd_of hD hL hs).2.1
  · rename_i w
    have hb := mnv_b (smO_B hD s) (fun q => w (Or.inl q))
    rw [vq_tup hb]
    exact vq_pos hb (fun q => w (Or.inr q))
def coV (m a : V3) : Int64 := rt (1000000 * vd m a * vd m a / (vq m * vq a))
theorem coV_ok {m a : V3} (hm : bv m) (ha : bv a) (qm : 0 < (vq m).toInt) (qa : 0 < (vq a).toInt) : ¬ vq m * vq a = 0 ∧ 0 ≤ (1000000 * vd m a * vd m a / (vq m * vq a)).toInt ∧ (1000000 * vd m a * vd m a / (vq m * vq a)).toInt ≤ 1000000 := by
  have hq := qq_b hm ha
  have hpos : 0 < (vq m).toInt * (vq a).toInt := Int.mul_pos qm qa
  have hd := vd_b hm ha
  have hcs := vd_cs hm ha
  have hdd := sq_nn (vd m a).toInt
  have e6 : (1000000 : Int64).toInt = 1000000 := rfl
  have e1 : (1000000 * vd m a).toInt = 1000000 * (vd m a).toInt := by rw [mul64 (by rw [e6]; omega) (by rw [e6]; omega), e6]
  have e2 : (1000000 * vd m a * vd m a).toInt = 1000000 * ((vd m a).toInt * (vd m a).toInt) := by
    have h9 : 1000000 * (vd m a).toInt * (vd m a).toInt = 1000000 * ((vd m a).toInt * (vd m a).toInt) := Int.mul_assoc _ _ _
    rw [mul64 (by rw [e1, h9]; omega) (by rw [e1, h9]; omega), e1, h9]
  refine ⟨fun w => ?_, ?_, ?_⟩
  · have := congrArg Int64.toInt w
    rw [hq.1] at this
    have e0 : (0 : Int64).toInt = 0 := rfl
    omega
  · rw [div64 (by rw [hq.1]; exact hpos), e2, hq.1, Int.tdiv_eq_ediv_of_nonneg (by omega)]
    exact Int.ediv_nonneg (by omega) (Int.le_of_lt hpos)
  · rw [div64 (by rw [hq.1]; exact hpos), e2, hq.1, Int.tdiv_eq_ediv_of_nonneg (by omega)]
    exact Int.ediv_le_of_le_mul hpos (by omega)
theorem C_slant {a b : Nat} (ha : ob a 0) (hb : ob b 0) (va : bv (vec J a)) (vb : bv (vec J b)) (qa : 0 < (vq (vec J a)).toInt) (qb : 0 < (vq (vec J b)).toInt) : den (d + 1) 172 [.ref a, .ref b] (S sl p I J) = some (some (.long (coV (vec J a) (vec J b))), S sl p I J) := by
  obtain ⟨c1, c2, c3⟩ := coV_ok va vb qa qb
  have ep : pt (1000000 * vd (vec J a) (vec J b) * vd (vec J a) (vec J b)) (vq (vec J a) * vq (vec J b)) = 1000000 * vd (vec J a) (vec J b) * vd (vec J a) (vec J b) / (vq (vec J a) * vq (vec J b)) := if_neg c1
  rw [E172_0 ha hb, sp_vdot ha hb, evK_s, E172_5 _ ha hb, sp_vsq ha, evK_s, E172_17 _ _ _ ha hb, sp_vsq hb, evK_s, E172_21 _ _ _ _ ha hb, sp_parted, evK_s, E172_25 _ _ ha hb, ep, sp_rootP c2 (by omega), evK_s, E172_28 _ _ ha hb]
  rfl
theorem M_coef {s : Nat} {a : V3} (hs : s < 30) (hm : bv (mvI I s)) (ha : bv a) (qm : 0 < (vq (mvI I s)).toInt) (qa : 0 < (vq a).toInt) : den (d + 3) 279 [.ref 46, .int (nI s), .long a.1, .long a.2.1, .long a.2.2] (S sl p I J) = some (some (.long (coV (mvI I s) a)), S sl p I J) := by
  obtain ⟨c1, c2, c3⟩ := coV_ok hm ha qm qa
  rw [E279_0, ck_if (ixb_n hs (by decide)), ck_if (ixb_n hs (by decide)), ck_if (ixb_n hs (by decide)), cl_n (by omega), sp_dot, evK_s, E279_29, sp_squareOfMean hs, evK_s, E279_45, sp_square, evK_s, E279_53]
  have e1 : vd ((I 64 s).toInt64, (I 65 s).toInt64, (I 66 s).toInt64) (a.1, a.2.1, a.2.2) = vd (mvI I s) a := rfl
  have e2 : vq (a.1, a.2.1, a.2.2) = vq a := rfl
  rw [e1, e2, ck_if (by simpa using c1), sp_rootM c2, evK_s, E279_58]
  rfl
noncomputable def onB (D : Nat → Nat → Int32) (s l k : Nat) : Bool := decide (stn D k = nI s) && decide (D 50 k = nI l)
def atN (D : Nat → Nat → Int32) (k : Nat) : Nat := (D 53 k).toNatClampNeg
theorem GD.at_n (hD : GD D) {k : Nat} (hk : k < nc D) : D 53 k = nI (atN D k) ∧ atN D k ≤ 100000 := by
  obtain ⟨l, t, q, a, -, -, -, h4, -, -, -, e, -⟩ := hD.cr k hk
  unfold atN
  rw [e, cl_n (by omega)]
  exact ⟨rfl, h4⟩
def loS (P : Nat → Bool) (f : Nat → Nat) : Nat → Nat
  | 0 => 100000
  | n + 1 => if P n = true then (if f n < loS P f n then f n else loS P f n) else loS P f n
def hiS (P : Nat → Bool) (f : Nat → Nat) : Nat → Nat
  | 0 => 0
  | n + 1 => if P n = true then (if hiS P f n < f n then f n else hiS P f n) else hiS P f n
theorem loS_s {P : Nat → Bool} {f : Nat → Nat} {n : Nat} : loS P f (n + 1) = if P n = true then (if f n < loS P f n then f n else loS P f n) else loS P f n := rfl
theorem hiS_s {P : Nat → Bool} {f : Nat → Nat} {n : Nat} : hiS P f (n + 1) = if P n = true then (if hiS P f n < f n then f n else hiS P f n) else hiS P f n := rfl
theorem lh_b {P : Nat → Bool} {f : Nat → Nat} : ∀ n, (∀ k, k < n → f k ≤ 100000) → loS P f n ≤ 100000 ∧ hiS P f n ≤ 100000 ∧ (cnt P n = 0 → loS P f n = 100000 ∧ hiS P f n = 0) ∧ (0 < cnt P n → loS P f n ≤ hiS P f n)
  | 0, _ => ⟨Nat.le_refl _, Nat.zero_le _, fun _ => ⟨rfl, rfl⟩, fun w => absurd w (Nat.lt_irrefl 0)⟩
  | n + 1, h => by
    obtain ⟨h1, h2, h3, h4⟩ := lh_b (P := P) (f := f) n (fun k hk => h k (by omega))
    have hn := h n (by omega)
    rw [loS_s, hiS_s, cnt_s]
    by_cases q : P n = true
    · rw [if_pos q, if_pos q, if_pos q]
      refine ⟨by split <;> omega, by split <;> omega, fun w => absurd w (by omega), fun _ => ?_⟩
      rcases Nat.eq_zero_or_pos (cnt P n) with w | w
      · obtain ⟨z1, z2⟩ := h3 w
        rw [z1, z2]
        split <;> split <;> omega
      · have := h4 w
        split <;> split <;> omega
    · rw [if_neg q, if_neg q, if_neg q]
      exact ⟨h1, h2, h3, h4⟩
noncomputable def cnO (D : Nat → Nat → Int32) (s l : Nat) : Nat := cnt (onB D s l) (nc D)
noncomputable def apN (D : Nat → Nat → Int32) (s l : Nat) : Nat := (hiS (onB D s l) (atN D) (nc D) - loS (onB D s l) (atN D) (nc D)) / (cnO D s l - 1)
noncomputable def trO (D : Nat → Nat → Int32) (s l : Nat) : Int32 := ((nI (apN D s l)).toInt64 * coV (meO D s) (av D l) / 1000).toInt32
theorem C_isOn (h : SV p I J D) (hpl : ∀ j, j < nc D → I 12 j = stn D j) {k s l : Nat} (hk : k < nc D) : den d 113 [.ref 11, .int (nI k), .int (nI s), .int (nI l)] (S sl p I J) = some (some (.int (if onB D s l k = true then 1 else 0)), S sl p I J) := by
  have n60 := h.gd.n60
  rw [E113_0 _ _ _ h.p60, ck_if (ixb_n (by omega) (by decide)), cl_n (by omega), hpl k hk]
  unfold onB
  by_cases q : stn D k = nI s
  · rw [if_pos q, ck_if (ixb_n (by omega) (by decide)), (h.ck k hk).1]
    by_cases r : D 50 k = nI l
    · rw [if_pos r, if_pos (by simp [q, r])]
    · rw [if_neg r, if_neg (by simp [r])]
  · rw [if_neg q, if_neg (by simp [q])]
theorem C_countOn (h : SV p I J D) (hpl : ∀ j, j < nc D → I 12 j = stn D j) {s l : Nat} : den (d + 1) 114 [.ref 11, .int (nI s), .int (nI l)] (S sl p I J) = some (some (.int (nI (cnO D s l))), S sl p I J) := by
  have n60 := h.gd.n60
  rw [E114_0, for_cnt (fun j x => ev (d + 1) 114 5 [.ref 11, .int (nI s), .int (nI l), .int x, .int j] [] (S sl p I J)) (onB D s l) (nc D)
    (by
      intro j x hj
      rw [E114_5, h.count, if_pos (lt_n hj (by omega)), C_isOn h hpl hj, evK_s, E114_25, nI_1]
      by_cases q : onB D s l j = true
      · rw [if_pos q, if_neg (by decide), if_pos q]
      · rw [if_neg q, if_pos rfl, if_neg q]), E114_5, h.count, if_neg (nlt_n (by omega))]
  rfl
theorem C_apparent (h : SV p I J D) (hpl : ∀ j, j < nc D → I 12 j = stn D j) {s l : Nat} (h2 : 2 ≤ cnO D s l) : den (d + 2) 115 [.ref 11, .int (nI s), .int (nI l)] (S sl p I J) = some (some (.int (nI (apN D s l))), S sl p I J) := by
  have n60 := h.gd.n60
  have hc : cnO D s l ≤ nc D := cnt_le _
  obtain ⟨⟨u, v⟩, e1, g1, g2⟩ := for_ex (M := Int32 × Int32) (fun j m => ev (d + 2) 115 20 [.ref 11, .int (nI s), .int (nI l), .int (nI (cnO D s l) - 1), .int m.1, .int m.2, .int j] [] (S sl p I J)) (nc D) (fun j m => m.1 = nI (loS (onB D s l) (atN D) j) ∧ m.2 = nI (hiS (onB D s l) (atN D) j))
    (by
      rintro j ⟨u, v⟩ hj ⟨g1, g2⟩
      simp only at g1 g2
      simp only
      subst g1 g2
      obtain ⟨b1, b2, -, -⟩ := lh_b (P := onB D s l) (f := atN D) j (fun k hk => (h.gd.at_n (by omega)).2)
      obtain ⟨a1, a2⟩ := h.gd.at_n hj
      refine ⟨(nI (loS (onB D s l) (atN D) (j + 1)), nI (hiS (onB D s l) (atN D) (j + 1))), ?_, rfl, rfl⟩
      rw [E115_20, h.count, if_pos (lt_n hj (by omega)), C_isOn h hpl hj, evK_s, E115_40 _ _ _ _ _ _ _ h.p60, loS_s, hiS_s, nI_1]
      by_cases q : onB D s l j = true
      · rw [if_pos q, if_neg (by decide), ck_if (ixb_n (by omega) (by decide)), ck_if (ixb_n (by omega) (by decide)), cl_n (by omega), (h.ck j hj).2.2.2.1, a1, if_pos q, if_pos q]
        have e1 : (if nI (atN D j) < nI (loS (onB D s l) (atN D) j) then nI (atN D j) else nI (loS (onB D s l) (atN D) j)) = nI (if atN D j < loS (onB D s l) (atN D) j then atN D j else loS (onB D s l) (atN D) j) := by
          by_cases c : atN D j < loS (onB D s l) (atN D) j
          · rw [if_pos c, if_pos ((nI_lt_iff (by omega) (by omega)).mpr c)]
          · rw [if_neg c, if_neg (fun w => c ((nI_lt_iff (by omega) (by omega)).mp w))]
        have e2 : (if nI (hiS (onB D s l) (atN D) j) < nI (atN D j) then nI (atN D j) else nI (hiS (onB D s l) (atN D) j)) = nI (if hiS (onB D s l) (atN D) j < atN D j then atN D j else hiS (onB D s l) (atN D) j) := by
          by_cases c : hiS (onB D s l) (atN D) j < atN D j
          · rw [if_pos c, if_pos ((nI_lt_iff (by omega) (by omega)).mpr c)]
          · rw [if_neg c, if_neg (fun w => c ((nI_lt_iff (by omega) (by omega)).mp w))]
        rw [e1, e2]
      · rw [if_neg q, if_pos rfl, if_neg q, if_neg q])
    (100000, 0) ⟨rfl, rfl⟩
  simp only at e1 g1 g2
  obtain ⟨b1, b2, -, b4⟩ := lh_b (P := onB D s l) (f := atN D) (nc D) (fun k hk => (h.gd.at_n hk).2)
  have b5 := b4 (show 0 < cnt (onB D s l) (nc D) from by have : 2 ≤ cnt (onB D s l) (nc D) := h2; omega)
  have ec : nI (cnO D s l) - 1 = nI (cnO D s l - 1) := nI_sub (b := 1) (by omega) (by omega)
  have hdv : lN (hiS (onB D s l) (atN D) (nc D) - loS (onB D s l) (atN D) (nc D)) / lN (cnO D s l - 1) = lN (apN D s l) := pk_lDiv (by omega) (by omega) (by omega)
  have hap : apN D s l ≤ 100000 := Nat.le_trans (Nat.div_le_self _ _) (by omega)
  rw [E115_0, C_countOn h hpl, evK_s, E115_6, e1, E115_20, h.count, if_neg (nlt_n (by omega)), sp_parted, evK_s, E115_100, g1, g2, ec, nI_sub b5 (by omega), nI_l (by omega), nI_l (by omega)]
  unfold pt
  rw [if_neg (fun w => by
    have := congrArg Int64.toInt w
    rw [lN_tI (by omega)] at this
    have e0 : (0 : Int64).toInt = 0 := rfl
    omega), hdv, show lN (apN D s l) = (nI (apN D s l)).toInt64 from (nI_l (by omega)).symm, i64_i32]
end SPA
