/-! calls one by one -/
theorem n10 : ((1 : Int32) = 0) = False := eq_false (by decide)
section AG1
variable {d sl : Nat} {p : Nat → Nat} {I I' : Nat → Nat → Int32} {J J' : Nat → Nat → Int64} {D : Nat → Nat → Int32} {e : Nat}
theorem dr (h : dat I = D) {a k : Nat} (ha : 47 ≤ a ∧ a < 60) : I a k = D a k := by rw [← h, dat_r ha]
theorem d6 (h : dat I = D) {k : Nat} (ha : 1 ≤ k ∧ k < 10) : I 46 k = D 46 k := by rw [← h, dat_6 ha]
theorem d1 (hD : GD D) (h : dat I = D) : I 46 1 = nI (nl D) := by subst h; exact hD.i1
theorem d2 (hD : GD D) (h : dat I = D) : I 46 2 = nI (nc D) := by subst h; exact hD.i2
theorem d3 (hD : GD D) (h : dat I = D) : I 46 3 = nI (lk D) := by subst h; exact hD.i3
theorem d4 (hD : GD D) (h : dat I = D) : I 46 4 = nI (lst D) := by subst h; exact hD.i4
theorem d5 (hD : GD D) (h : dat I = D) : I 46 5 = nI (cp D) := by subst h; exact hD.i5
theorem M_wt (hD : GD D) (h : dat I = D) {i : Nat} (hi : i < nc D) : den (d + 4) 197 [.ref 46, .int (nI i)] (S sl p I J) = some (some (.int (wt D i)), S sl p I J) := by subst h; exact sp_wt hD hi
theorem M_near (hD : GD D) (h : dat I = D) {i j k : Nat} (hi : i < nc D) (hj : j < nc D) (hk : k ≤ 90) : den (d + 5) 195 [.ref 46, .int (nI i), .int (nI j), .int (nI k)] (S sl p I J) = some (some (.int (if nb D i j ≤ k then 1 else 0)), S sl p I J) := by subst h; exact sp_near hD hi hj hk
theorem M_lie (hD : GD D) (h : dat I = D) {i : Nat} (hi : i < nc D) : den (d + 1) 207 [.ref 46, .int (nI i)] (S sl p I J) = some (some (.int (lv D i)), S sl p I J) := by subst h; exact sp_lie hD hi
theorem M_members (hD : GD D) (h : dat I = D) (hS : SetAt I D) (s : Int32) : den d 211 [.ref 46, .int s] (S sl p I J) = some (some (.int (nI (mem D s))), S sl p I J) := by subst h; exact sp_members hD hS s
theorem M_angle (hD : GD D) (h : dat I = D) {i j : Nat} (hi : i < nc D) (hj : j < nc D) : den (d + 6) 194 [.ref 46, .int (nI i), .int (nI j)] (S sl p I J) = some (some (.int (nI (nb D i j))), S sl p I J) := by
  subst h
  have := hD.n60
  exact sp_angleBetweenM (by omega) (by omega) (hD.bp hi) (hD.bp hj)
theorem from_01 {x a b : Int32} : decide ((if x < a then (0 : Int32) else if x ≤ b then 1 else 0) = 0 ∨ (if x < a then (0 : Int32) else if x ≤ b then 1 else 0) = 1) = true := by
  refine decide_eq_true ?_
  split
  · exact Or.inl rfl
  · split
    · exact Or.inr rfl
    · exact Or.inl rfl
theorem pred_if {x : Int32} {n : Nat} (hn : n < 2 ^ 30) : (if x < 0 then (0 : Int32) else if x ≤ nI n - 1 then 1 else 0) = if x < 0 then 0 else if x < nI n then 1 else 0 := by
  by_cases q : x < 0
  · rw [if_pos q, if_pos q]
  · rw [if_neg q, if_neg q]
    by_cases r : x < nI n
    · rw [if_pos r, if_pos ((le_pred hn).mpr r)]
    · rw [if_neg r, if_neg (fun w => r ((le_pred hn).mp w))]
theorem M_isCrack (hD : GD D) (h : dat I = D) (x : Int32) : den (d + 1) 201 [.ref 46, .int x] (S sl p I J) = some (some (.int (if x < 0 then 0 else if x < nI (nc D) then 1 else 0)), S sl p I J) := by
  have := hD.n60
  rw [E201_0, sp_isFrom, evK_s, E201_11, ck_if from_01, d2 hD h, pred_if (by omega)]
theorem M_isLine (hD : GD D) (h : dat I = D) (x : Int32) : den (d + 1) 200 [.ref 46, .int x] (S sl p I J) = some (some (.int (if x < 0 then 0 else if x < nI (nl D) then 1 else 0)), S sl p I J) := by
  have := hD.m6
  rw [E200_0, sp_isFrom, evK_s, E200_11, ck_if from_01, d1 hD h, pred_if (by omega)]
theorem C_hasCrack (h : SV p I J D) (x : Int32) : den d 60 [.ref 4, .int x] (S sl p I J) = some (some (.int (if x < 0 then 0 else if x < nI (nc D) then 1 else 0)), S sl p I J) := by
  rw [E60_0, h.count]
  by_cases q : x < 0
  · rw [if_pos q, if_pos q]
  · rw [if_neg q, if_neg q]
    by_cases r : x < nI (nc D)
    · rw [if_pos r, if_pos r]
    · rw [if_neg r, if_neg r]
theorem C_hasLine (h : SV p I J D) (x : Int32) : den d 59 [.ref 4, .int x] (S sl p I J) = some (some (.int (if x < 0 then 0 else if x < nI (nl D) then 1 else 0)), S sl p I J) := by
  rw [E59_0, h.lines]
  by_cases q : x < 0
  · rw [if_pos q, if_pos q]
  · rw [if_neg q, if_neg q]
    by_cases r : x < nI (nl D)
    · rw [if_pos r, if_pos r]
    · rw [if_neg r, if_neg r]
theorem A_angle (hD : GD D) (x y : Int32) : Agr (d + 40) sl p D e 128 242 [.int x, .int y] := by
  have n60 := hD.n60
  by_cases hx : ∃ i, i < nc D ∧ x = nI i
  · by_cases hy : ∃ i, i < nc D ∧ y = nI i
    · obtain ⟨i, hi, rfl⟩ := hx
      obtain ⟨j, hj, rfl⟩ := hy
      refine ⟨.int (nI (nb D i j)), 0, fun I J h => QC.mk1 (I' := I) (J' := J) ?_ h Fc.refl, fun I J h => QM.mk1 (I' := I) (J' := J) ?_ rfl Fm.refl⟩
      · simp only [E128_0, E128_8, E128_19, E128_22, E128_27, E128_38, E128_41, C_hasCrack h.sv, in_y hi (show nc D < 2 ^ 31 by omega), in_y hj (show nc D < 2 ^ 31 by omega), sp_angC h.sv hi hj, evK_s, evK_v, E163_0, E164_0, E178_0, E179_0, E180_0, sp_within, sp_isFrom, n10, eq_self, if_true, if_false]
      · simp only [E242_0, E242_5, E242_13, E242_23, E242_26, E242_29, E242_34, M_isCrack hD h, in_y hi (show nc D < 2 ^ 31 by omega), in_y hj (show nc D < 2 ^ 31 by omega), M_angle hD h hi hj, evK_s, evK_v, E163_0, E164_0, E178_0, E179_0, E180_0, sp_within, sp_isFrom, n10, eq_self, if_true, if_false]
    · obtain ⟨i, hi, rfl⟩ := hx
      refine ⟨.int (-1), 2, fun I J h => QC.mk1 (I' := I) (J' := J) ?_ h Fc.refl, fun I J h => QM.mk1 (I' := I) (J' := J) ?_ rfl Fm.refl⟩
      · simp only [E128_0, E128_8, E128_19, E128_22, E128_27, E128_38, E128_41, C_hasCrack h.sv, in_y hi (show nc D < 2 ^ 31 by omega), in_n (show nc D < 2 ^ 31 by omega) hy, evK_s, evK_v, E163_0, E164_0, E178_0, E179_0, E180_0, sp_within, sp_isFrom, n10, eq_self, if_true, if_false]
      · simp only [E242_0, E242_5, E242_13, E242_23, E242_26, E242_29, E242_34, M_isCrack hD h, in_y hi (show nc D < 2 ^ 31 by omega), in_n (show nc D < 2 ^ 31 by omega) hy, evK_s, evK_v, E163_0, E164_0, E178_0, E179_0, E180_0, sp_within, sp_isFrom, n10, eq_self, if_true, if_false]
  · refine ⟨.int (-1), 2, fun I J h => QC.mk1 (I' := I) (J' := J) ?_ h Fc.refl, fun I J h => QM.mk1 (I' := I) (J' := J) ?_ rfl Fm.refl⟩
    · simp only [E128_0, E128_8, E128_19, E128_22, E128_27, E128_38, E128_41, C_hasCrack h.sv, in_n (show nc D < 2 ^ 31 by omega) hx, evK_s, evK_v, E163_0, E164_0, E178_0, E179_0, E180_0, sp_within, sp_isFrom, n10, eq_self, if_true, if_false]
    · simp only [E242_0, E242_5, E242_13, E242_23, E242_26, E242_29, E242_34, M_isCrack hD h, in_n (show nc D < 2 ^ 31 by omega) hx, evK_s, evK_v, E163_0, E164_0, E178_0, E179_0, E180_0, sp_within, sp_isFrom, n10, eq_self, if_true, if_false]
end AG1
