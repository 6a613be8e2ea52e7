/-! lies; sets and their numbers -/
def plN (t q : Nat) : Nat := if q = 0 then 0 else if q = 90 then t % 180 else t
theorem plD_n {t q : Nat} (ht : t < 360) (hq : q ≤ 90) : plD (nI t) (nI q) = nI (plN t q) := by
  unfold plD plN
  by_cases h0 : q = 0
  · rw [if_pos (by rw [h0]; rfl), if_pos h0]; rfl
  · rw [if_neg (fun w : nI q = 0 => h0 (nI_ij (b := 0) (by omega) (by omega) w)), if_neg h0]
    by_cases h9 : q = 90
    · rw [if_pos (by rw [h9]; rfl), if_pos h9]
      apply Int32.toInt_inj.mp
      rw [rem32 (show 0 < (180 : Int32).toInt by decide), tI (by omega), tI (by omega), show (180 : Int32).toInt = ((180 : Nat) : Int) by decide]
      exact (Int.ofNat_tmod t 180).symm
    · rw [if_neg (fun w : nI q = 90 => h9 (nI_ij (b := 90) (by omega) (by omega) w)), if_neg h9]
theorem plN_lt {t q : Nat} (ht : t < 360) : plN t q < 360 := by
  unfold plN
  split
  · omega
  · split <;> omega
theorem nI_mul (a b : Nat) : nI a * nI b = nI (a * b) := (Int32.ofNat_mul a b).symm
def lvN (t q : Nat) : Nat := 100 * plN t q + q
theorem lv_n {D : Nat → Nat → Int32} {i t q : Nat} (ht : t < 360) (hq : q ≤ 90) (e1 : D 51 i = nI t) (e2 : D 52 i = nI q) : lv D i = nI (lvN t q) := by
  unfold lv lvN
  rw [e1, e2, plD_n ht hq, show (100 : Int32) = nI 100 from rfl, nI_mul, nI_add]
theorem poV_l {t q t' q' : Nat} (ht : t < 360) (hq : q ≤ 90) (ht' : t' < 360) (hq' : q' ≤ 90) (h : lvN t q = lvN t' q') : poV (nI t) (nI q) = poV (nI t') (nI q') := by
  unfold lvN at h
  have hq2 : q = q' := by omega
  have hp : plN t q = plN t' q' := by omega
  unfold poV poX poY
  rw [plD_n ht hq, plD_n ht' hq', hp, hq2]
theorem GD.lie {D : Nat → Nat → Int32} (h : GD D) {i : Nat} (hi : i < nc D) : ∃ x, x < 36000 ∧ lv D i = nI x := by
  obtain ⟨l, t, q, a, -, h1, h2, -, -, e1, e2, -, -⟩ := h.cr i hi
  have := plN_lt (q := q) h1
  exact ⟨lvN t q, by unfold lvN; omega, lv_n h1 h2 e1 e2⟩
theorem GD.lie_pv {D : Nat → Nat → Int32} (h : GD D) {i j : Nat} (hi : i < nc D) (hj : j < nc D) (e : lv D i = lv D j) : pv D i = pv D j := by
  obtain ⟨l, t, q, a, -, h1, h2, -, -, e1, e2, -, e3⟩ := h.cr i hi
  obtain ⟨l', t', q', a', -, h1', h2', -, -, e1', e2', -, e3'⟩ := h.cr j hj
  rw [e3, e3']
  have b1 := plN_lt (q := q) h1
  have b2 := plN_lt (q := q') h1'
  rw [lv_n h1 h2 e1 e2, lv_n h1' h2' e1' e2'] at e
  exact poV_l h1 h2 h1' h2' (nI_ij (by unfold lvN; omega) (by unfold lvN; omega) e)
theorem cs_0 : (cs (nI 0)).toInt = 1000 := by decide +kernel
theorem cs_00 : (cs (nI 0) * cs (nI 0)).toInt64 = 1000000 := Int64.toInt_inj.mp (by rw [(cc_toInt (k := 0) (by omega)).1, cs_0]; rfl)
theorem ag_self (q : Int64) : ag q (q * q) = 0 := by
  unfold ag
  have : nrb q (q * q) 0 = true := by
    unfold nrb
    rw [cs_00, Int64.mul_comm (q * q), decide_eq_false Int64.lt_irrefl]
    rfl
  exact fsq_eq (by omega) this (fun _ h => absurd h (Nat.not_lt_zero _))
theorem va2_self (v : V3) : va2 v v = 0 := by
  unfold va2
  exact ag_self (vq v)
theorem nb_self {D : Nat → Nat → Int32} {i : Nat} : nb D i i = 0 := by
  unfold nb
  exact va2_self _
/-- the least is one's, if there is one; it is under all -/
theorem mnL_le {P : Nat → Bool} {f : Nat → Int32} : ∀ n j, j < n → P j = true → ¬ f j < mnL P f n
  | 0, _, h, _ => absurd h (Nat.not_lt_zero _)
  | n + 1, j, h, hp => by
    show ¬ f j < (if P n then (if f n < mnL P f n then f n else mnL P f n) else mnL P f n)
    by_cases e : j = n
    · subst e
      rw [if_pos hp]
      split
      · exact Int32.lt_irrefl
      · assumption
    · have ih := mnL_le (f := f) n j (by omega) hp
      split
      · split
        · rename_i w
          intro w2
          exact ih (Int32.lt_trans w2 w)
        · exact ih
      · exact ih
theorem mnL_ex {P : Nat → Bool} {f : Nat → Int32} : ∀ n, (∀ j, j < n → f j < 1000000) → 0 < cnt P n → ∃ j, j < n ∧ P j = true ∧ mnL P f n = f j
  | 0, _, h => absurd h (Nat.lt_irrefl 0)
  | n + 1, hf, h => by
    show ∃ j, j < n + 1 ∧ P j = true ∧ (if P n then (if f n < mnL P f n then f n else mnL P f n) else mnL P f n) = f j
    by_cases c0 : 0 < cnt P n
    · obtain ⟨j, h1, h2, h3⟩ := mnL_ex n (fun j hj => hf j (by omega)) c0
      by_cases c1 : P n = true
      · rw [if_pos c1]
        split
        · exact ⟨n, by omega, c1, rfl⟩
        · exact ⟨j, by omega, h2, h3⟩
      · rw [if_neg c1]
        exact ⟨j, by omega, h2, h3⟩
    · have c1 : P n = true := by
        obtain ⟨j, hj, e⟩ := cnt_ex h
        by_cases q : j = n
        · rw [← q]; exact e
        · exact absurd (cnt_pos (by omega) e) c0
      have hno : mnL P f n = 1000000 := by
        have : ∀ m, (∀ j, j < m → ¬ P j = true) → mnL P f m = 1000000 := by
          intro m
          induction m with
          | zero => intro _; rfl
          | succ m ih =>
            intro hm
            show (if P m then _ else mnL P f m) = _
            rw [if_neg (hm m (by omega)), ih (fun j hj => hm j (by omega))]
        exact this n (fun j hj q => c0 (cnt_pos hj q))
      rw [if_pos c1, hno, if_pos (hf n (by omega))]
      exact ⟨n, by omega, c1, rfl⟩
theorem gz_pos {D : Nat → Nat → Int32} {an : Nat} {bt : Int32} (hl : Lab (nc D) (nearA D an) bt (lb D an bt) (gr D an bt)) {c : Nat} (hc : c < gr D an bt) : 0 < gz D an bt c := by
  obtain ⟨r, -, r2, -, r4, -⟩ := hl.2.2.2.2.2.2 c hc
  exact cnt_pos r2 (decide_eq_true r4)
theorem gll_ex {D : Nat → Nat → Int32} (hD : GD D) {an : Nat} {bt : Int32} (hl : Lab (nc D) (nearA D an) bt (lb D an bt) (gr D an bt)) {c : Nat} (hc : c < gr D an bt) : ∃ j, j < nc D ∧ lb D an bt j = nI c ∧ gll D an bt c = lv D j := by
  obtain ⟨j, h1, h2, h3⟩ := mnL_ex (P := fun j => decide (lb D an bt j = nI c)) (f := lv D) (nc D) (fun j hj => by
    obtain ⟨x, hx, e⟩ := hD.lie hj
    rw [e]
    exact (nI_lt_iff (a := x) (b := 1000000) (by omega) (by omega)).mpr (by omega)) (gz_pos hl hc)
  exact ⟨j, h1, of_decide_eq_true h2, h3⟩
theorem gll_ne {D : Nat → Nat → Int32} (hD : GD D) {an : Nat} {bt : Int32} (hl : Lab (nc D) (nearA D an) bt (lb D an bt) (gr D an bt)) {c c' : Nat} (hc : c < gr D an bt) (hc' : c' < gr D an bt) (e : gll D an bt c = gll D an bt c') : c = c' := by
  obtain ⟨i, i1, i2, i3⟩ := gll_ex hD hl hc
  obtain ⟨j, j1, j2, j3⟩ := gll_ex hD hl hc'
  have n60 := hD.n60
  have hg := hl.1
  have e2 : pv D i = pv D j := hD.lie_pv i1 j1 (by rw [← i3, ← j3, e])
  have h1 : ¬ lb D an bt i = -1 := by rw [i2]; exact nI_m1 (by omega)
  have h2 : ¬ lb D an bt j = -1 := by rw [j2]; exact nI_m1 (by omega)
  have b1 : ¬ nI i = bt := fun q => h1 (hl.2.1 i i1 q)
  have b2 : ¬ nI j = bt := fun q => h2 (hl.2.1 j j1 q)
  have hA : nearA D an i j := by
    unfold nearA nb
    rw [← e2, va2_self]
    exact Nat.zero_le _
  have := hl.2.2.2.2.1 i j i1 j1 b1 b2 hA h1
  rw [i2, j2] at this
  exact nI_ij (by omega) (by omega) this
