/-! bounds for the axes; the other half of the dips of 90 adds nothing -/
theorem cs2_tab : ((List.range 540).all fun k => decide ((cs (nI k)).toInt * (cs (nI k)).toInt + (sn (nI k)).toInt * (sn (nI k)).toInt ≤ 1010000)) = true := by decide +kernel
theorem cs2_b {k : Nat} (h : k < 540) : (cs (nI k)).toInt * (cs (nI k)).toInt + (sn (nI k)).toInt * (sn (nI k)).toInt ≤ 1010000 := of_decide_eq_true (List.all_eq_true.mp cs2_tab k (List.mem_range.mpr h))
theorem zp_tab : ((List.range 90).all fun k => decide (0 < (cs (nI k)).toInt)) = true := by decide +kernel
theorem zp_b {k : Nat} (h : k < 90) : 0 < (cs (nI k)).toInt := of_decide_eq_true (List.all_eq_true.mp zp_tab k (List.mem_range.mpr h))
theorem p90_tab : ((List.range 360).all fun k => decide (0 < (vq (poV (nI k) 90)).toInt)) = true := by decide +kernel
theorem tdiv_sq (y : Int) : 1000000 * (y.tdiv 1000 * y.tdiv 1000) ≤ y * y := by
  have h1 : (y.tdiv 1000).natAbs = y.natAbs / 1000 := by rw [Int.natAbs_tdiv]; rfl
  have h2 : (y.natAbs / 1000) * 1000 ≤ y.natAbs := Nat.div_mul_le_self _ _
  have h3 := Nat.mul_le_mul h2 h2
  rw [← Int.natAbs_mul_self (a := y.tdiv 1000), ← Int.natAbs_mul_self (a := y), h1]
  have h4 : (y.natAbs / 1000 * 1000) * (y.natAbs / 1000 * 1000) = 1000000 * (y.natAbs / 1000 * (y.natAbs / 1000)) := by grind
  rw [h4] at h3
  omega
theorem vq_pole {t q : Nat} (ht : t < 360) (hq : q ≤ 90) : 0 < (vq (poV (nI t) (nI q))).toInt ∧ (vq (poV (nI t) (nI q))).toInt ≤ 1020100 := by
  have hb := poV_b (nI t) (nI q)
  have e0 : (vq (poV (nI t) (nI q))).toInt = (poX (nI t) (nI q)).toInt * (poX (nI t) (nI q)).toInt + (poY (nI t) (nI q)).toInt * (poY (nI t) (nI q)).toInt + (poZ (nI q)).toInt * (poZ (nI q)).toInt := by
    rw [show vq (poV (nI t) (nI q)) = vd (poV (nI t) (nI q)) (poV (nI t) (nI q)) from rfl, (vd_b hb hb).1]
    unfold poV
    simp only [i64_of]
  obtain ⟨u, hu, eu⟩ := plD_r (r := t) (dp := q) ht
  have e1 : plD (nI t) (nI q) + 180 = nI (u + 180) := by rw [eu]; exact nI_add u 180
  have c1 := cs2_b (k := u + 180) (by omega)
  have c2 := cs2_b (k := q) (by omega)
  have ex : (poX (nI t) (nI q)).toInt = ((sn (nI q)).toInt * (cs (nI (u + 180))).toInt).tdiv 1000 := by
    unfold poX
    rw [e1, div32 (by decide), mul32]
    · rfl
    · have := prod_b (sn_b (nI q)) (cs_b (nI (u + 180))); omega
    · have := prod_b (sn_b (nI q)) (cs_b (nI (u + 180))); omega
  have ey : (poY (nI t) (nI q)).toInt = ((sn (nI q)).toInt * (sn (nI (u + 180))).toInt).tdiv 1000 := by
    unfold poY
    rw [e1, div32 (by decide), mul32]
    · rfl
    · have := prod_b (sn_b (nI q)) (sn_b (nI (u + 180))); omega
    · have := prod_b (sn_b (nI q)) (sn_b (nI (u + 180))); omega
  have ez : (poZ (nI q)).toInt = (cs (nI q)).toInt := rfl
  constructor
  · by_cases z : q = 90
    · subst z
      exact of_decide_eq_true (List.all_eq_true.mp p90_tab t (List.mem_range.mpr ht))
    · have hz := zp_b (k := q) (by omega)
      rw [e0, ez]
      have h1 := sq_nn (poX (nI t) (nI q)).toInt
      have h2 := sq_nn (poY (nI t) (nI q)).toInt
      have h3 := Int.mul_pos hz hz
      omega
  · have s1 := tdiv_sq ((sn (nI q)).toInt * (cs (nI (u + 180))).toInt)
    have s2 := tdiv_sq ((sn (nI q)).toInt * (sn (nI (u + 180))).toInt)
    rw [← ex] at s1
    rw [← ey] at s2
    rw [e0, ez]
    generalize (poX (nI t) (nI q)).toInt = x at *
    generalize (poY (nI t) (nI q)).toInt = y at *
    generalize (sn (nI q)).toInt = a at *
    generalize (cs (nI q)).toInt = z at *
    generalize (cs (nI (u + 180))).toInt = c at *
    generalize (sn (nI (u + 180))).toInt = s at *
    have ha := sq_nn a
    have hzz := sq_nn z
    have hm : a * a * (c * c + s * s) ≤ a * a * 1010000 := Int.mul_le_mul_of_nonneg_left c1 ha
    have h1 : a * c * (a * c) + a * s * (a * s) = a * a * (c * c + s * s) := by grind
    omega
section AXP
variable {D : Nat → Nat → Int32}
theorem faS_b (hD : GD D) (k : Nat) : ∀ n, n ≤ nc D → -(1000000 * (haN D (fun _ => true) n : Int)) ≤ (faS D k n).toInt ∧ (faS D k n).toInt ≤ 1000000 * (haN D (fun _ => true) n : Int)
  | 0, _ => by
    rw [show faS D k 0 = 0 from rfl, show haN D (fun _ => true) 0 = 0 from rfl]
    decide
  | n + 1, h => by
    obtain ⟨i1, i2⟩ := faS_b hD k n (by omega)
    obtain ⟨w1, w2⟩ := hD.wn (i := n) (by omega)
    have hb := hD.bp (i := n) (by omega)
    have hh := haN_b (P := fun _ => true) hD n (by omega)
    have n60 := hD.n60
    have hf : -1000000 ≤ (fcp (pv D n) k).toInt ∧ (fcp (pv D n) k).toInt ≤ 1000000 := by
      have m : ∀ x y : Int64, bI x → bI y → -1000000 ≤ (x * y).toInt ∧ (x * y).toInt ≤ 1000000 := fun x y hx hy => by
        have := mul_b (A := 1000) (B := 1000) hx hy (by decide)
        rw [this.1]
        omega
      unfold fcp
      split
      · exact m _ _ hb.1 hb.1
      · split
        · exact m _ _ hb.2.1 hb.2.1
        · split
          · exact m _ _ hb.2.2 hb.2.2
          · split
            · exact m _ _ hb.1 hb.2.1
            · split
              · exact m _ _ hb.1 hb.2.2
              · exact m _ _ hb.2.1 hb.2.2
    have ew : (wt D n).toInt64.toInt = (wtN D n : Int) := by rw [i64_of, w1, tI (by omega)]
    have hp : (fcp (pv D n) k * (wt D n).toInt64).toInt = (fcp (pv D n) k).toInt * (wtN D n : Int) ∧ -(1000000 * (wtN D n : Int)) ≤ (fcp (pv D n) k).toInt * (wtN D n : Int) ∧ (fcp (pv D n) k).toInt * (wtN D n : Int) ≤ 1000000 * (wtN D n : Int) := by
      have h1 : -(1000000 * (wtN D n : Int)) ≤ (fcp (pv D n) k).toInt * (wtN D n : Int) := by
        have := Int.mul_le_mul_of_nonneg_right hf.1 (Int.natCast_nonneg (wtN D n))
        omega
      have h2 : (fcp (pv D n) k).toInt * (wtN D n : Int) ≤ 1000000 * (wtN D n : Int) := Int.mul_le_mul_of_nonneg_right hf.2 (Int.natCast_nonneg (wtN D n))
      refine ⟨?_, h1, h2⟩
      rw [mul64 (by rw [ew]; omega) (by rw [ew]; omega), ew]
    have es : faS D k (n + 1) = faS D k n + fcp (pv D n) k * (wt D n).toInt64 := rfl
    rw [es, add64 (by rw [hp.1]; omega) (by rw [hp.1]; omega), hp.1, haN_s, if_pos rfl]
    omega
theorem fab_b (hD : GD D) (h0 : 0 < nc D) (k : Nat) : -1000000 ≤ (fab D k).toInt ∧ (fab D k).toInt ≤ 1000000 := by
  obtain ⟨h1, h2⟩ := faS_b hD k (nc D) (Nat.le_refl _)
  have hm := maA_pos hD h0
  have hb := maA_b hD
  have em : haN D (fun _ => true) (nc D) = maA D := rfl
  rw [em] at h1 h2
  unfold fab
  rw [div64 (by rw [lN_tI (by omega)]; omega), lN_tI (by omega)]
  have hm' : (0 : Int) < maA D := by omega
  rcases Int.le_total 0 (faS D k (nc D)).toInt with w | w
  · rw [Int.tdiv_eq_ediv_of_nonneg w]
    constructor
    · have := Int.ediv_nonneg w (Int.le_of_lt hm'); omega
    · exact Int.ediv_le_of_le_mul hm' (by omega)
  · have e : (faS D k (nc D)).toInt.tdiv (maA D) = -((-(faS D k (nc D)).toInt).tdiv (maA D)) := by rw [Int.neg_tdiv, Int.neg_neg]
    rw [e, Int.tdiv_eq_ediv_of_nonneg (by omega)]
    have n1 := Int.ediv_nonneg (a := -(faS D k (nc D)).toInt) (by omega) (Int.le_of_lt hm')
    have n2 : (-(faS D k (nc D)).toInt) / (maA D : Int) ≤ 1000000 := Int.ediv_le_of_le_mul hm' (by omega)
    omega
theorem t3 {f x y : Int64} (hf : -1000000 ≤ f.toInt ∧ f.toInt ≤ 1000000) (hx : bI x) (hy : bI y) : -1000000000000 ≤ (f * x * y).toInt ∧ (f * x * y).toInt ≤ 1000000000000 := by
  have h1 := mul_b (A := 1000000) (B := 1000) hf hx (by decide)
  have h2 := mul_b (a := f * x) (b := y) (A := 1000000000) (B := 1000) (by rw [h1.1]; exact h1.2) hy (by decide)
  rw [h2.1]
  exact h2.2
theorem shO_b (hD : GD D) (h0 : 0 < nc D) {v : V3} (hv : bv v) : -9000000000000 ≤ (shO D v).toInt ∧ (shO D v).toInt ≤ 9000000000000 := by
  have f := fab_b hD h0
  have a0 := t3 (f 0) hv.1 hv.1
  have a1 := t3 (f 1) hv.2.1 hv.2.1
  have a2 := t3 (f 2) hv.2.2 hv.2.2
  have a3 := t3 (f 3) hv.1 hv.2.1
  have a4 := t3 (f 4) hv.1 hv.2.2
  have a5 := t3 (f 5) hv.2.1 hv.2.2
  unfold shO
  have e1 : (fab D 3 * v.1 * v.2.1 + fab D 4 * v.1 * v.2.2).toInt = (fab D 3 * v.1 * v.2.1).toInt + (fab D 4 * v.1 * v.2.2).toInt := add64 (by omega) (by omega)
  have e2 : (fab D 3 * v.1 * v.2.1 + fab D 4 * v.1 * v.2.2 + fab D 5 * v.2.1 * v.2.2).toInt = (fab D 3 * v.1 * v.2.1).toInt + (fab D 4 * v.1 * v.2.2).toInt + (fab D 5 * v.2.1 * v.2.2).toInt := by rw [add64 (by omega) (by omega), e1]
  have e3 : (2 * (fab D 3 * v.1 * v.2.1 + fab D 4 * v.1 * v.2.2 + fab D 5 * v.2.1 * v.2.2)).toInt = 2 * ((fab D 3 * v.1 * v.2.1).toInt + (fab D 4 * v.1 * v.2.2).toInt + (fab D 5 * v.2.1 * v.2.2).toInt) := by
    have et : (2 : Int64).toInt = 2 := rfl
    rw [mul64 (by rw [et, e2]; omega) (by rw [et, e2]; omega), et, e2]
  have e4 : (fab D 0 * v.1 * v.1 + fab D 1 * v.2.1 * v.2.1).toInt = (fab D 0 * v.1 * v.1).toInt + (fab D 1 * v.2.1 * v.2.1).toInt := add64 (by omega) (by omega)
  have e5 : (fab D 0 * v.1 * v.1 + fab D 1 * v.2.1 * v.2.1 + fab D 2 * v.2.2 * v.2.2).toInt = (fab D 0 * v.1 * v.1).toInt + (fab D 1 * v.2.1 * v.2.1).toInt + (fab D 2 * v.2.2 * v.2.2).toInt := by rw [add64 (by omega) (by omega), e4]
  rw [add64 (by omega) (by omega), e5, e3]
  omega
/-- what the best so far is -/
def okA (x : Int64 × Int64 × Nat × Nat) : Prop := 0 < x.2.1.toInt ∧ x.2.1.toInt ≤ 1020100 ∧ -9000000000000 ≤ x.1.toInt ∧ x.1.toInt ≤ 9000000000000
theorem okA_c (hD : GD D) (h0 : 0 < nc D) {t q : Nat} (ht : t < 360) (hq : q ≤ 90) (a b : Nat) : okA (shO D (poV (nI t) (nI q)), vq (poV (nI t) (nI q)), a, b) := ⟨(vq_pole ht hq).1, (vq_pole ht hq).2, (shO_b hD h0 (poV_b _ _)).1, (shO_b hD h0 (poV_b _ _)).2⟩
theorem okA_m {x y : Int64 × Int64 × Nat × Nat} (hx : okA x) (hy : okA y) : (x.1 * y.2.1).toInt = x.1.toInt * y.2.1.toInt := by
  obtain ⟨x1, x2, x3, x4⟩ := hx
  obtain ⟨y1, y2, y3, y4⟩ := hy
  have h := prod_b (a := x.1.toInt) (c := y.2.1.toInt) (A := 9000000000000) (C := 1020100) ⟨x3, x4⟩ ⟨by omega, y2⟩
  exact mul64 (by omega) (by omega)
/-- is one better -/
def btA (most : Bool) (c x : Int64 × Int64 × Nat × Nat) : Prop := if most = true then x.1.toInt * c.2.1.toInt < c.1.toInt * x.2.1.toInt else c.1.toInt * x.2.1.toInt < x.1.toInt * c.2.1.toInt
theorem axB_bt {most : Bool} {x : Int64 × Int64 × Nat × Nat} {e d : Nat} (hx : okA x) (hc : okA (shO D (poV (nI e) (nI d)), vq (poV (nI e) (nI d)), e, d)) : axB D most x e d = true ↔ btA most (shO D (poV (nI e) (nI d)), vq (poV (nI e) (nI d)), e, d) x := by
  have h1 := okA_m hx hc
  have h2 := okA_m hc hx
  simp only at h1 h2
  unfold axB btA
  by_cases q : most = true
  · rw [if_pos q, if_pos q, decide_eq_true_iff, Int64.lt_iff_toInt_lt, h1, h2]
  · rw [if_neg q, if_neg q, decide_eq_true_iff, Int64.lt_iff_toInt_lt, h1, h2]
theorem tr_i {xs xq ys yq cs cq : Int} (hx : 0 < xq) (hy : 0 ≤ yq) (hc : 0 ≤ cq) (h1 : xs * cq ≤ cs * xq) (h2 : ys * xq ≤ xs * yq) : ys * cq ≤ cs * yq := by
  have a1 := Int.mul_le_mul_of_nonneg_right h1 hy
  have a2 := Int.mul_le_mul_of_nonneg_right h2 hc
  have e1 : xs * cq * yq = xs * yq * cq := by grind
  have e2 : cs * xq * yq = cs * yq * xq := by grind
  have e3 : ys * xq * cq = ys * cq * xq := by grind
  refine Int.le_of_mul_le_mul_right ?_ hx
  omega
theorem bt_tr {most : Bool} {x y c : Int64 × Int64 × Nat × Nat} (hx : okA x) (hy : okA y) (hc : okA c) (h1 : ¬ btA most c x) (h2 : btA most y x) : ¬ btA most c y := by
  obtain ⟨x1, -⟩ := hx
  obtain ⟨y1, -⟩ := hy
  obtain ⟨c1, -⟩ := hc
  unfold btA at *
  by_cases q : most = true
  · rw [if_pos q] at *
    have := tr_i (xs := x.1.toInt) (xq := x.2.1.toInt) (ys := c.1.toInt) (yq := c.2.1.toInt) (cs := y.1.toInt) (cq := y.2.1.toInt) x1 (by omega) (by omega) (by omega) (by omega)
    omega
  · rw [if_neg q] at *
    have := tr_i (xs := x.1.toInt) (xq := x.2.1.toInt) (ys := y.1.toInt) (yq := y.2.1.toInt) (cs := c.1.toInt) (cq := c.2.1.toInt) x1 (by omega) (by omega) (by omega) (by omega)
    omega
theorem bt_self {most : Bool} {c : Int64 × Int64 × Nat × Nat} : ¬ btA most c c := by
  unfold btA
  split <;> omega
theorem axR_ok (hD : GD D) (h0 : 0 < nc D) {most : Bool} {q : Nat} (hq : q ≤ 90) {x : Int64 × Int64 × Nat × Nat} (hx : okA x) : ∀ n, n ≤ 360 → okA (axR D most q x n) ∧ ∀ j, j < n → ¬ btA most (shO D (poV (nI j) (nI q)), vq (poV (nI j) (nI q)), j, q) (axR D most q x n)
  | 0, _ => ⟨hx, fun _ w => absurd w (Nat.not_lt_zero _)⟩
  | n + 1, h => by
    obtain ⟨i1, i2⟩ := axR_ok hD h0 (most := most) hq hx n (by omega)
    have hc := okA_c hD h0 (t := n) (q := q) (by omega) hq n q
    rw [axR_s]
    unfold axS
    by_cases b : axB D most (axR D most q x n) n q = true
    · rw [if_pos b]
      have hb := (axB_bt i1 hc).mp b
      refine ⟨hc, fun j hj => ?_⟩
      by_cases z : j = n
      · rw [z]; exact bt_self
      · exact bt_tr i1 hc (okA_c hD h0 (by omega) hq _ _) (i2 j (by omega)) hb
    · rw [if_neg b]
      refine ⟨i1, fun j hj => ?_⟩
      by_cases z : j = n
      · rw [z]; exact fun w => b ((axB_bt i1 hc).mpr w)
      · exact i2 j (by omega)
theorem axR_180 (hD : GD D) (h0 : 0 < nc D) {most : Bool} {x : Int64 × Int64 × Nat × Nat} (hx : okA x) : ∀ i, i ≤ 180 → axR D most 90 x (180 + i) = axR D most 90 x 180
  | 0, _ => rfl
  | i + 1, h => by
    have ih := axR_180 hD h0 (most := most) hx i (by omega)
    obtain ⟨o1, o2⟩ := axR_ok hD h0 (most := most) (q := 90) (by omega) hx 180 (by omega)
    have ep : poV (nI (180 + i)) (nI 90) = poV (nI i) (nI 90) := poV_l (by omega) (by omega) (by omega) (by omega) (by
      unfold lvN plN
      rw [if_neg (by omega), if_pos rfl, if_neg (by omega), if_pos rfl]
      omega)
    have hc := okA_c hD h0 (t := 180 + i) (q := 90) (by omega) (by omega) (180 + i) 90
    rw [show 180 + (i + 1) = (180 + i) + 1 from rfl, axR_s, ih]
    unfold axS
    rw [if_neg]
    intro b
    have hb := (axB_bt o1 hc).mp b
    rw [ep] at hb
    exact o2 i (by omega) hb
theorem axQ_ok (hD : GD D) (h0 : 0 < nc D) {most : Bool} : ∀ n, n ≤ 90 → okA (axQ D most n)
  | 0, _ => okA_c hD h0 (t := 0) (q := 0) (by omega) (by omega) 0 0
  | n + 1, h => by
    rw [axQ_s]
    exact (axR_ok hD h0 (by omega) (axQ_ok hD h0 n (by omega)) _ (by split <;> omega)).1
/-- where the best lies -/
def plA (x : Int64 × Int64 × Nat × Nat) (q : Nat) : Prop := x.2.2.1 < 360 ∧ x.2.2.2 ≤ q ∧ (x.2.2.2 = 0 → x.2.2.1 = 0) ∧ (x.2.2.2 = 90 → x.2.2.1 < 180)
theorem axR_pl {most : Bool} {q : Nat} (hq : 1 ≤ q) {x : Int64 × Int64 × Nat × Nat} (hx : plA x q) : ∀ n, n ≤ (if q = 90 then 180 else 360) → plA (axR D most q x n) q
  | 0, _ => hx
  | n + 1, h => by
    have ih := axR_pl (most := most) hq hx n (by omega)
    rw [axR_s]
    unfold axS
    split
    · refine ⟨?_, Nat.le_refl q, fun w => ?_, fun w => ?_⟩
      · split at h <;> (show n < 360; omega)
      · exact absurd (show q = 0 from w) (by omega)
      · have w' : q = 90 := w
        rw [if_pos w'] at h
        show n < 180
        omega
    · exact ih
theorem axQ_pl {most : Bool} : ∀ n, plA (axQ D most n) n
  | 0 => by
    rw [axQ_0]
    exact ⟨show 0 < 360 by omega, Nat.le_refl 0, fun _ => rfl, fun w => absurd (show (0 : Nat) = 90 from w) (by omega)⟩
  | n + 1 => by
    rw [axQ_s]
    obtain ⟨a, b, c, d⟩ := axQ_pl (most := most) n
    exact axR_pl (by omega) ⟨a, by omega, c, d⟩ _ (Nat.le_refl _)
end AXP
