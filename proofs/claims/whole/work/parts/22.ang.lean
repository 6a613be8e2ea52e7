/-! ANGLES: the model counts up, the class halves -/
/-- the first place below n where q holds; n if none -/
def fsq (q : Nat → Bool) : Nat → Nat
  | 0 => 0
  | n + 1 => if fsq q n < n then fsq q n else if q n then n else n + 1
theorem fsq_le (q : Nat → Bool) : ∀ n, fsq q n ≤ n
  | 0 => Nat.le_refl 0
  | n + 1 => by
    have ih := fsq_le q n
    unfold fsq
    split
    · omega
    · split <;> omega
theorem fsq_no (q : Nat → Bool) : ∀ n k, k < fsq q n → q k = false
  | 0, k, h => absurd h (Nat.not_lt_zero k)
  | n + 1, k, h => by
    have ih := fsq_no q n
    have hle := fsq_le q n
    unfold fsq at h
    split at h
    · exact ih k h
    · rename_i h1
      have e : fsq q n = n := by omega
      split at h
      · exact ih k (by omega)
      · rename_i h2
        rcases Nat.lt_or_ge k n with g | g
        · exact ih k (by omega)
        · have : k = n := by omega
          subst this
          simpa using h2
theorem fsq_yes (q : Nat → Bool) : ∀ n, fsq q n < n → q (fsq q n) = true
  | 0, h => absurd h (Nat.not_lt_zero _)
  | n + 1, h => by
    have ih := fsq_yes q n
    unfold fsq at h ⊢
    split at h
    · rename_i h1
      rw [if_pos h1]
      exact ih h1
    · rename_i h1
      rw [if_neg h1]
      split at h
      · rename_i h2
        rw [if_pos h2]
        exact h2
      · omega
theorem fsq_lt {q : Nat → Bool} {n k : Nat} (hk : k < n) (h : q k = true) : fsq q n ≤ k := by
  rcases Nat.lt_or_ge k (fsq q n) with g | g
  · rw [fsq_no q n k g] at h
    cases h
  · exact g
theorem fsq_eq {q : Nat → Bool} {n k : Nat} (hk : k < n) (h : q k = true) (hn : ∀ j, j < k → q j = false) : fsq q n = k := by
  have h1 := fsq_lt hk h
  rcases Nat.lt_or_ge (fsq q n) k with g | g
  · have := fsq_yes q n (by omega)
    rw [hn _ g] at this
    cases this
  · omega
def nrb (dt sq : Int64) (k : Nat) : Bool := !decide (dt * dt * 1000000 < (cs (nI k) * cs (nI k)).toInt64 * sq)
/-- the angle of two vectors by their dot and the product of their squares -/
def ag (dt sq : Int64) : Nat := fsq (nrb dt sq) 91
theorem cs90 : cs (nI 90) = 0 := by decide +kernel
theorem nr90 {dt sq : Int64} (h : 0 ≤ (dt * dt * 1000000).toInt) : nrb dt sq 90 = true := by
  unfold nrb
  rw [cs90]
  have : ¬ dt * dt * 1000000 < ((0 : Int32) * 0).toInt64 * sq := by
    rw [show ((0 : Int32) * 0).toInt64 = 0 by decide, Int64.zero_mul]
    intro q
    have q' : (dt * dt * 1000000).toInt < (0 : Int64).toInt := Int64.lt_iff_toInt_lt.mp q
    have : (0 : Int64).toInt = 0 := rfl
    omega
  simpa using this
theorem ag_le {dt sq : Int64} (h : 0 ≤ (dt * dt * 1000000).toInt) : ag dt sq ≤ 90 := fsq_lt (by omega) (nr90 h)
section ANG
variable {d sl : Nat} {p : Nat → Nat} {I : Nat → Nat → Int32} {J : Nat → Nat → Int64}
theorem angM_loop {dt sq : Int64} (h : 0 ≤ (dt * dt * 1000000).toInt) : ∀ (f k : Nat), k + f = ag dt sq → ev (d + 5) 191 3 [.long dt, .retAddr 0, .long sq, .retAddr 0, .int (nI k)] [] (S sl p I J) = some (some (.int (nI (ag dt sq))), S sl p I J) := by
  have hle := ag_le (sq := sq) h
  intro f
  induction f with
  | zero =>
    intro k hk
    have e : k = ag dt sq := by omega
    rw [E191_3, sp_isNear, evK_s, E191_10]
    have hy : nrb dt sq k = true := by
      rw [e]
      exact fsq_yes _ 91 (by show ag dt sq < 91; omega)
    unfold nrb at hy
    rw [if_neg (by simpa using hy), e]
  | succ f ih =>
    intro k hk
    rw [E191_3, sp_isNear, evK_s, E191_10]
    have hn : nrb dt sq k = false := fsq_no _ 91 k (by show k < ag dt sq; omega)
    unfold nrb at hn
    rw [if_pos (by simpa using hn), nI_1]
    exact ih (k + 1) (by omega)
theorem sp_angleOfM {dt sq : Int64} (h : 0 ≤ (dt * dt * 1000000).toInt) : den (d + 5) 191 [.long dt, .long sq] (S sl p I J) = some (some (.int (nI (ag dt sq))), S sl p I J) := by
  rw [E191_0, ← nI_0, angM_loop h (ag dt sq) 0 (by omega)]
end ANG
/-! cosines never rise from 0 to 90 -/
theorem cos_tab : ((List.range 91).all fun k => decide (0 ≤ (cs (nI k)).toInt ∧ (cs (nI k)).toInt ≤ 1000 ∧ (k = 0 ∨ (cs (nI k)).toInt ≤ (cs (nI (k - 1))).toInt))) = true := by decide +kernel
theorem cos_r {k : Nat} (h : k ≤ 90) : 0 ≤ (cs (nI k)).toInt ∧ (cs (nI k)).toInt ≤ 1000 := by
  have := of_decide_eq_true (List.all_eq_true.mp cos_tab k (List.mem_range.mpr (by omega)))
  exact ⟨this.1, this.2.1⟩
theorem cos_m : ∀ {j k : Nat}, j ≤ k → k ≤ 90 → (cs (nI k)).toInt ≤ (cs (nI j)).toInt := by
  intro j k h
  induction h with
  | refl => intro _; exact Int.le_refl _
  | step h ih =>
    intro hk
    rename_i m
    have := (of_decide_eq_true (List.all_eq_true.mp cos_tab (m + 1) (List.mem_range.mpr (by omega)))).2.2
    rcases this with q | q
    · omega
    · exact Int.le_trans q (ih (by omega))
theorem sq_le {a b c : Int} (h0 : 0 ≤ a) (h : a ≤ b) (hb : b ≤ c) : a * a ≤ c * c := by
  have h1 : a * a ≤ c * a := Int.mul_le_mul_of_nonneg_right (by omega) h0
  have h2 : c * a ≤ c * c := Int.mul_le_mul_of_nonneg_left (by omega) (by omega)
  omega
theorem i64_of (x : Int32) : x.toInt64.toInt = x.toInt := Int32.toInt_toInt64 x
theorem cc_toInt {k : Nat} (h : k ≤ 90) : ((cs (nI k) * cs (nI k)).toInt64).toInt = (cs (nI k)).toInt * (cs (nI k)).toInt ∧ 0 ≤ (cs (nI k)).toInt * (cs (nI k)).toInt ∧ (cs (nI k)).toInt * (cs (nI k)).toInt ≤ 1000000 := by
  obtain ⟨h1, h2⟩ := cos_r h
  have h3 := Int.mul_nonneg h1 h1
  have h4 := sq_le h1 h2 (Int.le_refl 1000)
  refine ⟨?_, h3, by omega⟩
  rw [i64_of, mul32 (by omega) (by omega)]
/-- a dot and a product of squares as those of vectors whose numbers are at most 1000 -/
def okN (dt sq : Int64) : Prop := -3000000 ≤ dt.toInt ∧ dt.toInt ≤ 3000000 ∧ 0 ≤ sq.toInt ∧ sq.toInt ≤ 9000000000000
theorem sqr_b {a c : Int} (h1 : -c ≤ a) (h2 : a ≤ c) : 0 ≤ a * a ∧ a * a ≤ c * c := by
  rcases Int.le_total 0 a with h | h
  · exact ⟨Int.mul_nonneg h h, sq_le h h2 (Int.le_refl c)⟩
  · have e : a * a = (-a) * (-a) := by rw [Int.neg_mul_neg]
    rw [e]
    exact ⟨Int.mul_nonneg (by omega) (by omega), sq_le (by omega) (by omega) (Int.le_refl c)⟩
theorem dd_toInt {dt sq : Int64} (h : okN dt sq) : (dt * dt * 1000000).toInt = dt.toInt * dt.toInt * 1000000 ∧ 0 ≤ dt.toInt * dt.toInt := by
  obtain ⟨h1, h2, h3, h4⟩ := h
  obtain ⟨g1, g2⟩ := sqr_b h1 h2
  have e1 : (dt * dt).toInt = dt.toInt * dt.toInt := mul64 (by omega) (by omega)
  refine ⟨?_, g1⟩
  rw [mul64 (by rw [e1]; show -9223372036854775808 ≤ dt.toInt * dt.toInt * 1000000; omega) (by rw [e1]; show dt.toInt * dt.toInt * 1000000 ≤ _; omega), e1]
  rfl
theorem dd_nn {dt sq : Int64} (h : okN dt sq) : 0 ≤ (dt * dt * 1000000).toInt := by
  obtain ⟨e, g⟩ := dd_toInt h
  omega
theorem cq_toInt {dt sq : Int64} (h : okN dt sq) {k : Nat} (hk : k ≤ 90) : ((cs (nI k) * cs (nI k)).toInt64 * sq).toInt = (cs (nI k)).toInt * (cs (nI k)).toInt * sq.toInt := by
  obtain ⟨h1, h2, h3, h4⟩ := h
  obtain ⟨e, g1, g2⟩ := cc_toInt hk
  have l1 := Int.mul_nonneg g1 h3
  have l2 : (cs (nI k)).toInt * (cs (nI k)).toInt * sq.toInt ≤ 1000000 * 9000000000000 := Int.mul_le_mul g2 h4 h3 (by omega)
  rw [mul64 (by rw [e]; omega) (by rw [e]; omega), e]
theorem nrb_iff {dt sq : Int64} (h : okN dt sq) {k : Nat} (hk : k ≤ 90) : nrb dt sq k = true ↔ (cs (nI k)).toInt * (cs (nI k)).toInt * sq.toInt ≤ dt.toInt * dt.toInt * 1000000 := by
  unfold nrb
  rw [Bool.not_eq_true', decide_eq_false_iff_not, Int64.lt_iff_toInt_lt, (dd_toInt h).1, cq_toInt h hk]
  omega
theorem nrb_up {dt sq : Int64} (h : okN dt sq) {j k : Nat} (hj : j ≤ k) (hk : k ≤ 90) (hn : nrb dt sq j = true) : nrb dt sq k = true := by
  rw [nrb_iff h (by omega)] at hn
  rw [nrb_iff h hk]
  obtain ⟨g1, g2⟩ := cos_r hk
  have h1 := sq_le g1 (cos_m hj hk) (Int.le_refl _)
  have h2 : (cs (nI k)).toInt * (cs (nI k)).toInt * sq.toInt ≤ (cs (nI j)).toInt * (cs (nI j)).toInt * sq.toInt := Int.mul_le_mul_of_nonneg_right h1 h.2.2.1
  omega
/-- near by an angle is: the angle is no more -/
theorem nrb_ag {dt sq : Int64} (h : okN dt sq) {k : Nat} (hk : k ≤ 90) : nrb dt sq k = decide (ag dt sq ≤ k) := by
  have hle := ag_le (sq := sq) (dd_nn h)
  by_cases hc : ag dt sq ≤ k
  · rw [decide_eq_true hc]
    exact nrb_up h hc hk (fsq_yes _ 91 (by show ag dt sq < 91; omega))
  · rw [decide_eq_false hc]
    exact fsq_no _ 91 k (by show k < ag dt sq; omega)
