/-! members and SEEDS in the model -/
theorem nI_sub_t {x y : Nat} (hx : x < 2 ^ 30) (hy : y < 2 ^ 30) : (nI x - nI y).toInt = (x : Int) - y := by
  rw [sub32 (by rw [tI (by omega), tI (by omega)]; omega) (by rw [tI (by omega), tI (by omega)]; omega), tI (by omega), tI (by omega)]
theorem nI_sub_le {x y : Nat} (hx : x < 2 ^ 30) (hy : y < 2 ^ 30) : nI x - nI y ≤ 0 ↔ x ≤ y := by
  rw [Int32.le_iff_toInt_le, nI_sub_t hx hy, show (0 : Int32).toInt = 0 from rfl]
  omega
theorem nI_sub_0 {x y : Nat} (hx : x < 2 ^ 30) (hy : y < 2 ^ 30) : nI x - nI y = 0 ↔ x = y := by
  rw [← Int32.toInt_inj, nI_sub_t hx hy, show (0 : Int32).toInt = 0 from rfl]
  omega
theorem sdN_s {D : Nat → Nat → Int32} {s : Int32} {n : Nat} : sdN D s (n + 1) = if stn D n = s then (match sdN D s n with
    | none => some n
    | some b => if nin D s b < nin D s n ∨ (nin D s n = nin D s b ∧ lv D n < lv D b) then some n else some b) else sdN D s n := rfl
theorem oI_n : oI none = -1 := rfl
theorem oI_s {b : Nat} : oI (some b) = nI b := rfl
section SEED
variable {d sl : Nat} {p : Nat → Nat} {I : Nat → Nat → Int32} {J : Nat → Nat → Int64}
theorem GD.i2 (hD : GD (dat I)) : I 46 2 = nI (nc (dat I)) := by rw [← hD.en, dat_6 (by omega)]
theorem GD.i1 (hD : GD (dat I)) : I 46 1 = nI (nl (dat I)) := by rw [← hD.em, dat_6 (by omega)]
theorem GD.i3 (hD : GD (dat I)) : I 46 3 = nI (lk (dat I)) := by rw [← hD.ek, dat_6 (by omega)]
theorem GD.i4 (hD : GD (dat I)) : I 46 4 = nI (lst (dat I)) := by rw [← hD.es, dat_6 (by omega)]
theorem GD.i5 (hD : GD (dat I)) : I 46 5 = nI (cp (dat I)) := by rw [← hD.ec, dat_6 (by omega)]
theorem sp_wt (hD : GD (dat I)) {i : Nat} (hi : i < nc (dat I)) : den (d + 4) 197 [.ref 46, .int (nI i)] (S sl p I J) = some (some (.int (wt (dat I) i)), S sl p I J) := by
  obtain ⟨l, hl, e⟩ := hD.on hi
  have := hD.n60
  have := hD.m6
  exact sp_weight (by omega) e (by omega) (hD.bp hi) (hD.ba hl)
theorem sp_near (hD : GD (dat I)) {i j k : Nat} (hi : i < nc (dat I)) (hj : j < nc (dat I)) (hk : k ≤ 90) : den (d + 5) 195 [.ref 46, .int (nI i), .int (nI j), .int (nI k)] (S sl p I J) = some (some (.int (if nb (dat I) i j ≤ k then 1 else 0)), S sl p I J) := by
  have := hD.n60
  exact sp_areNearM (by omega) (by omega) hk (hD.bp hi) (hD.bp hj)
theorem sp_lie (hD : GD (dat I)) {i : Nat} (hi : i < nc (dat I)) : den (d + 1) 207 [.ref 46, .int (nI i)] (S sl p I J) = some (some (.int (lv (dat I) i)), S sl p I J) := by
  have := hD.n60
  exact sp_lieOf (by omega)
theorem sp_members (hD : GD (dat I)) (hS : SetAt I (dat I)) (s : Int32) : den d 211 [.ref 46, .int s] (S sl p I J) = some (some (.int (nI (mem (dat I) s))), S sl p I J) := by
  have n60 := hD.n60
  rw [E211_0, for_cnt (fun k x => ev d 211 4 [.ref 46, .int s, .int x, .int k] [] (S sl p I J)) (fun k => decide (stn (dat I) k = s)) (nc (dat I))
    (by
      intro k x hk
      rw [E211_4, hD.i2, if_pos (lt_n hk (by omega)), ck_if (ixb_n (by omega) (by decide)), cl_n (by omega), hS.e61 k hk, nI_1, Int32.add_zero]
      by_cases q : stn (dat I) k = s
      · rw [if_pos q, if_pos (decide_eq_true q)]
      · rw [if_neg q, if_neg (by simpa using q)]), E211_4, hD.i2, if_neg (nlt_n (by omega))]
  rfl
theorem sp_nearIn (hD : GD (dat I)) (hS : SetAt I (dat I)) {k : Nat} (hk : k < nc (dat I)) (s : Int32) : den (d + 6) 212 [.ref 46, .int (nI k), .int s] (S sl p I J) = some (some (.int (nI (nin (dat I) s k))), S sl p I J) := by
  have n60 := hD.n60
  have k45 := hD.k45
  rw [E212_0, for_cnt (fun j x => ev (d + 6) 212 5 [.ref 46, .int (nI k), .int s, .int x, .int j] [] (S sl p I J)) (fun j => decide (stn (dat I) j = s) && decide (nb (dat I) k j ≤ lk (dat I))) (nc (dat I))
    (by
      intro j x hj
      rw [E212_5, hD.i2, if_pos (lt_n hj (by omega)), ck_if (ixb_n (by omega) (by decide)), cl_n (by omega), hS.e61 j hj, nI_1, Int32.add_zero]
      by_cases q : stn (dat I) j = s
      · rw [if_pos q, decide_eq_true q, Bool.true_and, hD.i3, sp_near hD hk hj (by omega), evK_s, E212_37, nI_1, Int32.add_zero]
        by_cases w : nb (dat I) k j ≤ lk (dat I)
        · rw [if_pos w, if_neg (by decide), if_pos (decide_eq_true w)]
        · rw [if_neg w, if_pos rfl, if_neg (by simpa using w)]
      · rw [if_neg q, decide_eq_false q, Bool.false_and, if_neg (by decide)]), E212_5, hD.i2, if_neg (nlt_n (by omega))]
  rfl
theorem sp_seedN (hD : GD (dat I)) (hS : SetAt I (dat I)) (s : Int32) : den (d + 7) 213 [.ref 46, .int s] (S sl p I J) = some (some (.int (oI (sdN (dat I) s (nc (dat I))))), S sl p I J) := by
  have n60 := hD.n60
  have k45 := hD.k45
  obtain ⟨x, e, h⟩ := for_ex (M := Int32) (fun k x => ev (d + 7) 213 4 [.ref 46, .int s, .int x, .int k, .retAddr 0] [] (S sl p I J)) (nc (dat I)) (fun k x => x = oI (sdN (dat I) s k))
    (by
      rintro k x hk rfl
      refine ⟨_, ?_, rfl⟩
      rw [E213_4, hD.i2, if_pos (lt_n hk (by omega)), ck_if (ixb_n (by omega) (by decide)), cl_n (by omega), hS.e61 k hk]
      by_cases q : stn (dat I) k = s
      · rw [if_pos q]
        cases hb : sdN (dat I) s k with
        | none =>
          have e1 : sdN (dat I) s (k + 1) = some k := by rw [sdN_s, if_pos q, hb]
          rw [e1, oI_n, oI_s, if_pos rfl, E213_47, if_neg (by decide), nI_1]
        | some b =>
          have hb2 := sdN_lt k b hb
          have hbn : b < nc (dat I) := by omega
          have z1 := nin_le (dat I) s k
          have z2 := nin_le (dat I) s b
          have e1 : (nin (dat I) s b < nin (dat I) s k ∨ (nin (dat I) s k = nin (dat I) s b ∧ lv (dat I) k < lv (dat I) b)) → sdN (dat I) s (k + 1) = some k := fun w => by
            rw [sdN_s, if_pos q, hb]
            exact if_pos w
          have e2 : ¬ (nin (dat I) s b < nin (dat I) s k ∨ (nin (dat I) s k = nin (dat I) s b ∧ lv (dat I) k < lv (dat I) b)) → sdN (dat I) s (k + 1) = some b := fun w => by
            rw [sdN_s, if_pos q, hb]
            exact if_neg w
          rw [oI_s, if_neg (nI_m1 (show b < 2 ^ 31 by omega)), sp_nearIn hD hS hk, evK_s, E213_40, sp_nearIn hD hS hbn, evK_s, E213_46, E213_47]
          by_cases w : nin (dat I) s k ≤ nin (dat I) s b
          · rw [if_pos ((nI_sub_le (by omega) (by omega)).mpr w)]
            by_cases w2 : nin (dat I) s k = nin (dat I) s b
            · rw [if_pos ((nI_sub_0 (by omega) (by omega)).mpr w2), sp_lie hD hk, evK_s, E213_64, sp_lie hD hbn, evK_s, E213_69, nI_1]
              by_cases w3 : lv (dat I) k < lv (dat I) b
              · rw [if_pos w3, e1 (Or.inr ⟨w2, w3⟩), oI_s]
              · rw [if_neg w3, e2 (by rintro (q | q); omega; exact w3 q.2), oI_s]
            · rw [if_neg (fun q => w2 ((nI_sub_0 (by omega) (by omega)).mp q)), nI_1, e2 (by rintro (q | q); omega; exact w2 q.1), oI_s]
          · rw [if_neg (fun q => w ((nI_sub_le (by omega) (by omega)).mp q)), nI_1, e1 (Or.inl (by omega)), oI_s]
      · rw [if_neg q, nI_1, sdN_s, if_neg q])
    (-1) rfl
  rw [E213_0, e, h, E213_4, hD.i2, if_neg (nlt_n (by omega))]
theorem sp_seedOf (hD : GD (dat I)) (hS : SetAt I (dat I)) {s : Nat} (hs : s < nst (dat I)) : den (d + 7) 213 [.ref 46, .int (nI s)] (S sl p I J) = some (some (.int (nI (sd (dat I) (nI s)))), S sl p I J) := by
  rw [sp_seedN hD hS, (sd_of hD hS.lab hs).1]
  rfl
end SEED
