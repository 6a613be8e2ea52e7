/-! ROOTS -/
def isq : Nat → Nat
  | 0 => 0
  | n + 1 => if (isq n + 1) * (isq n + 1) ≤ n + 1 then isq n + 1 else isq n
theorem isq_ok : ∀ n, isq n * isq n ≤ n ∧ n < (isq n + 1) * (isq n + 1)
  | 0 => by simp [isq]
  | n + 1 => by
    obtain ⟨h1, h2⟩ := isq_ok n
    unfold isq
    split
    · rename_i h
      refine ⟨h, ?_⟩
      have e : (isq n + 1 + 1) * (isq n + 1 + 1) = (isq n + 1) * (isq n + 1) + 2 * (isq n + 1) + 1 := by
        simp only [Nat.add_mul, Nat.mul_add]; omega
      omega
    · rename_i h
      exact ⟨by omega, by omega⟩
theorem sq_mono {a b : Nat} (h : a ≤ b) : a * a ≤ b * b := Nat.mul_le_mul h h
theorem isq_le {r n : Nat} : r ≤ isq n ↔ r * r ≤ n := by
  obtain ⟨h1, h2⟩ := isq_ok n
  constructor
  · intro h
    exact Nat.le_trans (sq_mono h) h1
  · intro h
    rcases Nat.lt_or_ge (isq n) r with q | q
    · have := sq_mono (show isq n + 1 ≤ r from q)
      omega
    · exact q
/-- the root of a long that is not below 0 -/
def rt (v : Int64) : Int64 := lN (isq v.toInt.toNat)
theorem lN_lit (n : Nat) : (OfNat.ofNat n : Int64) = lN n := rfl
theorem lN_tI {n : Nat} (h : n < 2 ^ 63) : (lN n).toInt = n := pk_lT h
theorem shr1 : ((List.range 40).all fun k => decide (lN (2 ^ (k + 1)) >>> (Int32.toInt64 1 &&& 63) = lN (2 ^ k))) = true := by decide +kernel
section ROOT
variable {d sl : Nat} {p : Nat → Nat} {I : Nat → Nat → Int32} {J : Nat → Nat → Int64}
theorem root_loop (v : Nat) (hv : v < 2 ^ 63) : ∀ (f a b : Nat), b ≤ a + f → a ≤ isq v → isq v ≤ b → b ≤ 3037000499 → ev d 184 7 [.long (lN v), .retAddr 0, .long (lN a), .retAddr 0, .long (lN b), .retAddr 0, .retAddr 0, .retAddr 0] [] (S sl p I J) = some (some (.long (lN (isq v))), S sl p I J) := by
  intro f
  induction f with
  | zero =>
    intro a b h1 h2 h3 h4
    have : a = b := by omega
    subst this
    rw [E184_7, if_neg (fun q => absurd ((pk_lLT (by omega) (by omega)).mp q) (by omega)), show a = isq v by omega]
  | succ f ih =>
    intro a b h1 h2 h3 h4
    rw [E184_7]
    by_cases hab : a < b
    · rw [if_pos ((pk_lLT (by omega) (by omega)).mpr hab)]
      have e1 : (lN a + lN b + 1) / 2 = lN ((a + b + 1) / 2) := by
        rw [lN_add, lN_1, show (2 : Int64) = lN 2 from rfl, pk_lDiv (by omega) (by omega) (by omega)]
      rw [e1, lN_mul]
      have hm : (a + b + 1) / 2 ≤ 3037000499 := by omega
      have hmm : (a + b + 1) / 2 * ((a + b + 1) / 2) ≤ 3037000499 * 3037000499 := Nat.mul_le_mul hm hm
      by_cases hc : (a + b + 1) / 2 * ((a + b + 1) / 2) ≤ v
      · rw [if_pos ((pk_lLE (by omega) hv).mpr hc)]
        exact ih _ _ (by omega) (isq_le.mpr hc) h3 h4
      · rw [if_neg (fun q => hc ((pk_lLE (by omega) hv).mp q))]
        have e2 : lN ((a + b + 1) / 2) - 1 = lN ((a + b + 1) / 2 - 1) := lN_sub (b := 1) (by omega)
        rw [e2]
        refine ih _ _ (by omega) h2 ?_ (by omega)
        rcases Nat.lt_or_ge (isq v) ((a + b + 1) / 2) with q | q
        · omega
        · exact absurd (isq_le.mp q) hc
    · have : a = b := by omega
      subst this
      rw [if_neg (fun q => absurd ((pk_lLT (by omega) (by omega)).mp q) (by omega)), show a = isq v by omega]
theorem sp_rootM {v : Int64} (h : 0 ≤ v.toInt) : den d 184 [.long v] (S sl p I J) = some (some (.long (rt v)), S sl p I J) := by
  obtain ⟨k, hk, rfl⟩ := pk_lOf (x := v) (fun q => by have := Int64.lt_iff_toInt_lt.mp q; have : v.toInt < 0 := this; omega)
  rw [E184_0, show (0 : Int64) = lN 0 from rfl, show (3037000499 : Int64) = lN 3037000499 from rfl, root_loop k hk 3037000499 0 3037000499 (by omega) (Nat.zero_le _) ?_ (Nat.le_refl _)]
  · unfold rt
    rw [lN_tI hk, Int.toNat_natCast]
  · rcases Nat.lt_or_ge 3037000499 (isq k) with q | q
    · have h1 := isq_le.mp (show 3037000500 ≤ isq k from q)
      omega
    · exact q
theorem rootP_loop (v : Nat) (hv : v < 2 ^ 62) : ∀ (k f : Nat), k < 32 → f * f ≤ v → v < (f + 2 ^ k) * (f + 2 ^ k) → f + 2 ^ k ≤ 2 ^ 31 → ev d 171 21 [.long (lN v), .retAddr 0, .long (lN f), .retAddr 0, .long (if k = 0 then 0 else lN (2 ^ (k - 1))), .retAddr 0, .retAddr 0, .retAddr 0] [] (S sl p I J) = some (some (.long (lN (isq v))), S sl p I J) := by
  intro k
  induction k with
  | zero =>
    intro f hk h1 h2 h3
    rw [E171_21, if_pos rfl, if_pos (by decide)]
    have e : f = isq v := by
      have := isq_le.mpr h1
      obtain ⟨g1, g2⟩ := isq_ok v
      rcases Nat.lt_or_ge f (isq v) with q | q
      · have := sq_mono (show f + 1 ≤ isq v from q)
        rw [Nat.pow_zero] at h2
        omega
      · omega
    rw [e]
  | succ k ih =>
    intro f hk h1 h2 h3
    have hp : 2 ^ (k + 1) = 2 * 2 ^ k := by rw [Nat.pow_succ]; omega
    have hp0 : 0 < 2 ^ k := Nat.pow_pos (by omega)
    rw [if_neg (by omega), show k + 1 - 1 = k by omega, E171_21]
    have hk31 : 2 ^ k ≤ 2 ^ 31 := Nat.pow_le_pow_right (by omega) (by omega)
    rw [if_neg (fun q => by have := (pk_lLE (a := 2 ^ k) (b := 0) (by omega) (by omega)).mp q; omega), lN_add, lN_mul]
    have hb : (f + 2 ^ k) * (f + 2 ^ k) ≤ 2 ^ 31 * 2 ^ 31 := Nat.mul_le_mul (by omega) (by omega)
    have hs : lN (2 ^ k) >>> (Int32.toInt64 1 &&& 63) = if k = 0 then 0 else lN (2 ^ (k - 1)) := by
      cases k with
      | zero => decide
      | succ j =>
        rw [if_neg (by omega), show j + 1 - 1 = j by omega]
        exact of_decide_eq_true (List.all_eq_true.mp shr1 j (List.mem_range.mpr (by omega)))
    rw [hs]
    by_cases hc : (f + 2 ^ k) * (f + 2 ^ k) ≤ v
    · rw [if_pos ((pk_lLE (by omega) (by omega)).mpr hc)]
      exact ih (f + 2 ^ k) (by omega) hc (by rw [show f + 2 ^ k + 2 ^ k = f + 2 ^ (k + 1) by omega]; exact h2) (by omega)
    · rw [if_neg (fun q => hc ((pk_lLE (by omega) (by omega)).mp q))]
      exact ih f (by omega) h1 (by omega) (by omega)
end ROOT
section ROOT2
variable {d sl : Nat} {p : Nat → Nat} {I : Nat → Nat → Int32} {J : Nat → Nat → Int64}
theorem sp_rootP {v : Int64} (h : 0 ≤ v.toInt) (h2 : v.toInt < 2 ^ 62) : den d 171 [.long v] (S sl p I J) = some (some (.long (rt v)), S sl p I J) := by
  obtain ⟨k, hk, rfl⟩ := pk_lOf (x := v) (fun q => by have := Int64.lt_iff_toInt_lt.mp q; have : v.toInt < 0 := this; omega)
  rw [lN_tI hk] at h2
  have hk2 : k < 2 ^ 62 := by omega
  have e : rt (lN k) = lN (isq k) := by
    unfold rt
    rw [lN_tI hk, Int.toNat_natCast]
  rw [e, E171_0]
  by_cases hc : k < 4294967296
  · rw [if_pos (show lN k < 4294967296 from (pk_lLT (b := 4294967296) hk (by decide)).mpr hc)]
    exact rootP_loop k hk2 16 0 (by omega) (by omega) (by omega) (by omega)
  · rw [if_neg (show ¬ lN k < 4294967296 from fun q => hc ((pk_lLT (b := 4294967296) hk (by decide)).mp q))]
    exact rootP_loop k hk2 31 0 (by omega) (by omega) (by omega) (by omega)
def pt (a b : Int64) : Int64 := if b = 0 then 0 else a / b
theorem sp_parted (a b : Int64) : den d 170 [.long a, .long b] (S sl p I J) = some (some (.long (pt a b)), S sl p I J) := by
  rw [E170_0]
  unfold pt
  by_cases h : b = 0
  · rw [if_pos h, if_pos h]
  · rw [if_neg h, if_neg h, ck_if (by simpa using h)]
end ROOT2
