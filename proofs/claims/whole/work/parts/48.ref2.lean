section REF
variable {d sl : Nat} {p : Nat → Nat} {I : Nat → Nat → Int32} {J : Nat → Nat → Int64} {D : Nat → Nat → Int32}
/-- the least lie as the class seeks it: from the greatest number on -/
def mxL (P : Nat → Bool) (f : Nat → Int32) : Nat → Int32
  | 0 => 1073741824
  | n + 1 => if P n then (if f n < mxL P f n then f n else mxL P f n) else mxL P f n
theorem mxL_s {P : Nat → Bool} {f : Nat → Int32} {n : Nat} : mxL P f (n + 1) = if P n then (if f n < mxL P f n then f n else mxL P f n) else mxL P f n := rfl
theorem mxL_mnL {P : Nat → Bool} {f : Nat → Int32} : ∀ n, (∀ j, j < n → f j < 1000000) → (0 < cnt P n → mxL P f n = mnL P f n) ∧ (¬ 0 < cnt P n → mxL P f n = 1073741824 ∧ mnL P f n = 1000000)
  | 0, _ => ⟨fun h => absurd h (Nat.lt_irrefl 0), fun _ => ⟨rfl, rfl⟩⟩
  | n + 1, hf => by
    obtain ⟨h1, h2⟩ := mxL_mnL (P := P) (f := f) n (fun j hj => hf j (by omega))
    have e1 : mxL P f (n + 1) = if P n then (if f n < mxL P f n then f n else mxL P f n) else mxL P f n := rfl
    have e2 : mnL P f (n + 1) = if P n then (if f n < mnL P f n then f n else mnL P f n) else mnL P f n := rfl
    have e3 : cnt P (n + 1) = cnt P n + (if P n then 1 else 0) := rfl
    rw [e1, e2, e3]
    by_cases q : P n = true
    · rw [if_pos q, if_pos q, if_pos q]
      refine ⟨fun _ => ?_, fun h => absurd (Nat.succ_pos _) h⟩
      by_cases c : 0 < cnt P n
      · rw [h1 c]
      · obtain ⟨a, b⟩ := h2 c
        have hn := hf n (by omega)
        have hm : f n < 1073741824 := Int32.lt_trans hn (by decide)
        rw [a, b, if_pos hn, if_pos hm]
    · rw [if_neg q, if_neg q, if_neg q]
      exact ⟨h1, h2⟩
/-- heaps lie in the class -/
def HpAt (I : Nat → Nat → Int32) (D : Nat → Nat → Int32) : Prop := (LabD D) ∧ (∀ j, j < nc D → I 15 j = lb D (lk D) (-1) j) ∧ (∀ c, c < gr D (lk D) (-1) → I 16 c = nI (gz D (lk D) (-1) c))
theorem HpAt.lab {I : Nat → Nat → Int32} {D : Nat → Nat → Int32} (h : HpAt I D) : LabD D := h.1
theorem HpAt.e15 {I : Nat → Nat → Int32} {D : Nat → Nat → Int32} (h : HpAt I D) : ∀ j, j < nc D → I 15 j = lb D (lk D) (-1) j := h.2.1
theorem HpAt.e16 {I : Nat → Nat → Int32} {D : Nat → Nat → Int32} (h : HpAt I D) : ∀ c, c < gr D (lk D) (-1) → I 16 c = nI (gz D (lk D) (-1) c) := h.2.2
theorem lie_lt (hD : GD D) {j : Nat} (hj : j < nc D) : lv D j < 1000000 := by
  obtain ⟨x, hx, e⟩ := hD.lie hj
  rw [e]
  exact (nI_lt_iff (a := x) (b := 1000000) (by omega) (by omega)).mpr (by omega)
theorem sp_heapLies (h : SV p I J D) (hH : HpAt I D) : ∃ y, den (d + 1) 98 [.ref 11, .int (nI (gr D (lk D) (-1)))] (S sl p I J) = some (none, S sl p (row I 17 y) J) ∧ ∀ c, c < gr D (lk D) (-1) → y c = gll D (lk D) (-1) c := by
  have n60 := h.gd.n60
  have hgn : gr D (lk D) (-1) ≤ nc D := hH.lab.1
  obtain ⟨y, e, hy⟩ := for_ex (M := Nat → Int32) (fun k x => ev (d + 1) 98 2 [.ref 11, .int (nI (gr D (lk D) (-1))), .int k, .retAddr 0] [] (S sl p (row I 17 x) J)) (gr D (lk D) (-1)) (fun k x => ∀ c, c < k → x c = 1073741824)
    (by
      intro k x hk hx
      rw [E98_2, if_pos (lt_n hk (by omega)), ck_if (ixb_n (by omega) (by decide)), cl_n (by omega), row_up, nI_1]
      refine ⟨_, rfl, fun j hj => ?_⟩
      by_cases e : j = k
      · rw [e, up1_s]
      · rw [up1_n e]; exact hx j (by omega))
    (I 17) (fun _ w => absurd w (Nat.not_lt_zero _))
  rw [row_id] at e
  obtain ⟨y', e', hy'⟩ := for_ex (M := Nat → Int32) (fun k x => ev (d + 1) 98 23 [.ref 11, .int (nI (gr D (lk D) (-1))), .int k, .retAddr 0] [] (S sl p (row I 17 x) J)) (nc D) (fun k x => ∀ c, c < gr D (lk D) (-1) → x c = mxL (fun j => decide (lb D (lk D) (-1) j = nI c)) (lv D) k)
    (by
      intro k x hk hx
      obtain ⟨c, hc, ec, -⟩ := lb_c hH.lab n60 hk
      have r15 : row I 17 x 15 k = nI c := by rw [row_n (by omega), hH.e15 k hk, ec]
      rw [E98_23 _ _ h.p60, row_n (by omega), h.count, if_pos (lt_n hk (by omega)), ck_if (ixb_n (by omega) (by decide)), cl_n (by omega), r15, if_neg (nI_pos (by omega)), ck_if (ixb_n (by omega) (by decide)), ck_if (ixb_n (by omega) (by decide)), ck_if (ixb_n (by omega) (by decide)), cl_n (by omega), row_n (a' := 200 + p k) (by omega), (h.ck k hk).2.2.2.2.2.1, row_s, row_up, nI_1]
      refine ⟨_, rfl, fun c' hc' => ?_⟩
      rw [mxL_s]
      by_cases q : c' = c
      · subst q
        rw [up1_s, hx c' hc']
        exact (if_pos (decide_eq_true ec)).symm
      · rw [up1_n q, hx c' hc', if_neg]
        rw [ec]
        intro w
        have := nI_ij (by omega) (by omega) (of_decide_eq_true w)
        omega)
    y hy
  refine ⟨y', ?_, fun c hc => ?_⟩
  · rw [E98_0, e, E98_2, if_neg (nlt_n (by omega)), e', E98_23 _ _ h.p60, row_n (by omega), h.count, if_neg (nlt_n (by omega))]
  · rw [hy' c hc]
    exact (mxL_mnL (nc D) (fun j hj => lie_lt h.gd hj)).1 (gz_pos hH.lab hc)
end REF
