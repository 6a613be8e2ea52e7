section AG2
variable {d sl : Nat} {p : Nat → Nat} {I I' : Nat → Nat → Int32} {J J' : Nat → Nat → Int64} {D : Nat → Nat → Int32} {e : Nat}
theorem cr_y (hD : GD D) {i : Nat} (hi : i < nc D) : (if nI i < 0 then (0 : Int32) else if nI i < nI (nc D) then 1 else 0) = 1 := in_y hi (by have := hD.n60; omega)
theorem cr_n (hD : GD D) {x : Int32} (h : ¬ ∃ i, i < nc D ∧ x = nI i) : (if x < 0 then (0 : Int32) else if x < nI (nc D) then 1 else 0) = 0 := in_n (by have := hD.n60; omega) h
theorem ln_y (hD : GD D) {i : Nat} (hi : i < nl D) : (if nI i < 0 then (0 : Int32) else if nI i < nI (nl D) then 1 else 0) = 1 := in_y hi (by have := hD.m6; omega)
theorem ln_n (hD : GD D) {x : Int32} (h : ¬ ∃ i, i < nl D ∧ x = nI i) : (if x < 0 then (0 : Int32) else if x < nI (nl D) then 1 else 0) = 0 := in_n (by have := hD.m6; omega) h
theorem st_y (hD : GD D) (hL : LabD D) {i : Nat} (hi : i < nst D) : (if nI i < 0 then (0 : Int32) else if nI i < nI (nst D) then 1 else 0) = 1 := in_y hi (by have := hD.n60; have := nst_30 hD hL; omega)
theorem st_n (hD : GD D) (hL : LabD D) {x : Int32} (h : ¬ ∃ i, i < nst D ∧ x = nI i) : (if x < 0 then (0 : Int32) else if x < nI (nst D) then 1 else 0) = 0 := in_n (by have := hD.n60; have := nst_30 hD hL; omega) h
theorem A_near (hD : GD D) (x a : Int32) : Agr (d + 40) sl p D e 129 243 [.int x, .int a] := by
  have n60 := hD.n60
  by_cases ha : ∃ s, s ≤ 90 ∧ a = nI s
  · obtain ⟨k, hk, rfl⟩ := ha
    have w : (if nI k < 0 then (0 : Int32) else if nI k ≤ 90 then 1 else 0) = 1 := wi_y (n := 90) hk (by decide)
    by_cases hx : ∃ i, i < nc D ∧ x = nI i
    · obtain ⟨i, hi, rfl⟩ := hx
      refine ⟨.int (nI (cnt (fun j => decide (nb D i j ≤ k)) (nc D))), 0, fun I J h => QC.mk1 (I' := I) (J' := J) ?_ h Fc.refl, fun I J h => QM.mk1 (I' := I) (J' := J) ?_ rfl Fm.refl⟩
      · simp only [E129_0, E129_7, E129_15, E129_24, E129_32, E129_43, E129_46, w, C_hasCrack h.sv, cr_y hD hi, sp_countNear h.sv hi hk, evK_s, evK_v, E163_0, E164_0, E178_0, E179_0, E180_0, sp_within, sp_isFrom, n10, eq_self, if_true, if_false]
      · rw [E243_0, sp_isFrom, w, evK_s, E243_7, if_neg (by decide), M_isCrack hD h, cr_y hD hi, evK_s, E243_21, if_neg (by decide), for_cnt (fun j x => ev (d + 40) 243 35 [.ref 46, .int (nI i), .int (nI k), .int x, .int j] [] (S sl p I J)) (fun j => decide (nb D i j ≤ k)) (nc D) (by
          intro j x hj
          rw [E243_35, d2 hD h, if_pos (lt_n hj (by omega)), M_near hD h hi hj hk, evK_s, E243_53, nI_1]
          by_cases q : nb D i j ≤ k
          · rw [if_pos q, if_neg (by decide), if_pos (decide_eq_true q)]
          · rw [if_neg q, if_pos rfl, if_neg (by simpa using q), Int32.add_zero]), E243_35, d2 hD h, if_neg (nlt_n (by omega)), E179_0, evK_s, E243_74]
    · refine ⟨.int (-1), 2, fun I J h => QC.mk1 (I' := I) (J' := J) ?_ h Fc.refl, fun I J h => QM.mk1 (I' := I) (J' := J) ?_ rfl Fm.refl⟩
      · simp only [E129_0, E129_7, E129_15, E129_24, E129_32, E129_43, E129_46, w, C_hasCrack h.sv, cr_n hD hx, evK_s, evK_v, E163_0, E164_0, E178_0, E179_0, E180_0, sp_within, sp_isFrom, n10, eq_self, if_true, if_false]
      · simp only [E243_0, E243_7, E243_15, E243_21, E243_29, E243_53, E243_74, w, M_isCrack hD h, cr_n hD hx, evK_s, evK_v, E163_0, E164_0, E178_0, E179_0, E180_0, sp_within, sp_isFrom, n10, eq_self, if_true, if_false]
  · have w : (if a < 0 then (0 : Int32) else if a ≤ 90 then 1 else 0) = 0 := wi_n (n := 90) (by decide) ha
    refine ⟨.int (-1), 1, fun I J h => QC.mk1 (I' := I) (J' := J) ?_ h Fc.refl, fun I J h => QM.mk1 (I' := I) (J' := J) ?_ rfl Fm.refl⟩
    · simp only [E129_0, E129_7, E129_15, E129_24, E129_32, E129_43, E129_46, w, evK_s, evK_v, E163_0, E164_0, E178_0, E179_0, E180_0, sp_within, sp_isFrom, n10, eq_self, if_true, if_false]
    · simp only [E243_0, E243_7, E243_15, E243_21, E243_29, E243_53, E243_74, w, evK_s, evK_v, E163_0, E164_0, E178_0, E179_0, E180_0, sp_within, sp_isFrom, n10, eq_self, if_true, if_false]
/-- the first of its lie -/
def fiL (D : Nat → Nat → Int32) (k : Nat) : Bool := decide (fsq (fun j => decide (lv D j = lv D k)) k = k)
theorem fsq_all {q : Nat → Bool} {n : Nat} : fsq q (n + 1) = n + 1 ↔ fsq q n = n ∧ q n = false := by
  have := fsq_le q n
  have e : fsq q (n + 1) = if fsq q n < n then fsq q n else if q n then n else n + 1 := rfl
  rw [e]
  split
  · constructor
    · intro w; omega
    · intro w; omega
  · split
    · rename_i w
      rw [w]
      constructor
      · intro w; omega
      · intro w; cases w.2
    · rename_i w1 w2
      constructor
      · intro _; exact ⟨by omega, by simpa using w2⟩
      · intro _; rfl
theorem C_first (h : SV p I J D) {k : Nat} (hk : k < nc D) : den d 70 [.ref 4, .int (nI k)] (S sl p I J) = some (some (.int (if fiL D k = true then 1 else 0)), S sl p I J) := by
  have n60 := h.gd.n60
  have hf := fsq_le (fun j => decide (lv D j = lv D k)) k
  obtain ⟨-, e1, -⟩ := for_ex (M := Unit) (fun j _ => ev d 70 2 [.ref 4, .int (nI k), .int j] [] (S sl p I J)) (fsq (fun j => decide (lv D j = lv D k)) k) (fun _ _ => True)
    (by
      intro j _ hj _
      have hn := fsq_no _ _ _ hj
      rw [E70_2 _ _ h.p60, if_pos (lt_n (by omega) (by omega)), ck_if (ixb_n (by omega) (by decide)), ck_if (ixb_n (by omega) (by decide)), cl_n (by omega), cl_n (by omega), (h.ck j (by omega)).2.2.2.2.2.1, (h.ck k hk).2.2.2.2.2.1, if_neg (by simpa using hn), nI_1]
      exact ⟨(), rfl, trivial⟩)
    () trivial
  rw [E70_0, e1]
  by_cases q : fsq (fun j => decide (lv D j = lv D k)) k = k
  · rw [q, E70_2 _ _ h.p60, if_neg (nlt_n (by omega)), if_pos (show fiL D k = true from decide_eq_true q)]
  · have hy := fsq_yes (fun j => decide (lv D j = lv D k)) k (by omega)
    have hq : ¬ fiL D k = true := fun w => q (of_decide_eq_true w)
    generalize fsq (fun j => decide (lv D j = lv D k)) k = m at hf hy q
    rw [E70_2 _ _ h.p60, if_pos (lt_n (by omega) (by omega)), ck_if (ixb_n (by omega) (by decide)), ck_if (ixb_n (by omega) (by decide)), cl_n (by omega), cl_n (by omega), (h.ck m (by omega)).2.2.2.2.2.1, (h.ck k hk).2.2.2.2.2.1, if_pos (by simpa using hy)]
    rw [if_neg hq]
theorem C_countLies (h : SV p I J D) : den (d + 1) 69 [.ref 4] (S sl p I J) = some (some (.int (nI (cnt (fiL D) (nc D)))), S sl p I J) := by
  have n60 := h.gd.n60
  rw [E69_0, for_cnt (fun j x => ev (d + 1) 69 4 [.ref 4, .int x, .int j] [] (S sl p I J)) (fiL D) (nc D)
    (by
      intro j x hj
      rw [E69_4, h.count, if_pos (lt_n hj (by omega)), C_first h hj, evK_s, E69_17, nI_1]
      by_cases q : fiL D j = true
      · rw [if_pos q, if_neg (by decide), if_pos q]
      · rw [if_neg q, if_pos rfl, if_neg q]), E69_4, h.count, if_neg (nlt_n (by omega))]
theorem M_unlike (hD : GD D) (h : dat I = D) : den (d + 2) 237 [.ref 46] (S sl p I J) = some (some (.int (nI (cnt (fiL D) (nc D)))), S sl p I J) := by
  have n60 := hD.n60
  rw [E237_0, for_cnt (fun j x => ev (d + 2) 237 4 [.ref 46, .int x, .int j, .retAddr 0, .retAddr 0] [] (S sl p I J)) (fiL D) (nc D)
    (by
      intro k x hk
      rw [E237_4, d2 hD h, if_pos (lt_n hk (by omega))]
      obtain ⟨b, e1, hb⟩ := for_ex (M := Int32) (fun j b => ev (d + 2) 237 17 [.ref 46, .int x, .int (nI k), .int b, .int j] [] (S sl p I J)) k (fun j b => b = if fsq (fun j => decide (lv D j = lv D k)) j = j then 1 else 0)
        (by
          intro j b hj hb
          subst hb
          rw [E237_17, if_pos (lt_n hj (by omega)), nI_1]
          by_cases q : fsq (fun j => decide (lv D j = lv D k)) j = j
          · rw [if_pos q, if_neg (by decide), M_lie hD h (by omega), evK_s, E237_33, M_lie hD h hk, evK_s, E237_38, nI_1]
            by_cases r : lv D j = lv D k
            · rw [if_pos r]
              exact ⟨0, rfl, by rw [if_neg (fun w => by have := (fsq_all.mp w).2; simp [r] at this)]⟩
            · rw [if_neg r]
              exact ⟨1, rfl, by rw [if_pos (fsq_all.mpr ⟨q, by simp [r]⟩)]⟩
          · rw [if_neg q, if_pos rfl]
            exact ⟨0, rfl, by rw [if_neg (fun w => q (fsq_all.mp w).1)]⟩)
        1 rfl
      rw [e1, E237_17, if_neg (nlt_n (by omega)), hb, nI_1]
      by_cases q : fsq (fun j => decide (lv D j = lv D k)) k = k
      · rw [if_pos q, if_neg (by decide), if_pos (show fiL D k = true from decide_eq_true q)]
      · rw [if_neg q, if_pos rfl, if_neg (show ¬ fiL D k = true from fun w => q (of_decide_eq_true w)), Int32.add_zero]), E237_4, d2 hD h, if_neg (nlt_n (by omega))]
theorem M_alike (hD : GD D) (h : dat I = D) {i : Nat} (hi : i < nc D) : den (d + 2) 239 [.ref 46, .int (nI i)] (S sl p I J) = some (some (.int (nI (cnt (fun j => decide (lv D j = lv D i)) (nc D)))), S sl p I J) := by
  have n60 := hD.n60
  rw [E239_0, for_cnt (fun j x => ev (d + 2) 239 4 [.ref 46, .int (nI i), .int x, .int j] [] (S sl p I J)) (fun j => decide (lv D j = lv D i)) (nc D)
    (by
      intro j x hj
      rw [E239_4, d2 hD h, if_pos (lt_n hj (by omega)), M_lie hD h hj, evK_s, E239_18, M_lie hD h hi, evK_s, E239_23, nI_1]
      by_cases q : lv D j = lv D i
      · rw [if_pos q, if_pos (decide_eq_true q)]
      · rw [if_neg q, if_neg (by simpa using q), Int32.add_zero]), E239_4, d2 hD h, if_neg (nlt_n (by omega))]
theorem C_strays (h : SV p I J D) (hG : GrC I J D) : den d 102 [.ref 11] (S sl p I J) = some (some (.int (nI (mem D (-1)))), S sl p I J) := by
  have n60 := h.gd.n60
  rw [E102_0, for_cnt (fun j x => ev d 102 4 [.ref 11, .int x, .int j] [] (S sl p I J)) (fun k => decide (stn D k = -1)) (nc D)
    (by
      intro j x hj
      rw [E102_4, h.count, if_pos (lt_n hj (by omega)), ck_if (ixb_n (by omega) (by decide)), cl_n (by omega), hG.pl j hj, nI_1]
      by_cases q : stn D j = -1
      · rw [if_pos q, if_pos (decide_eq_true q)]
      · rw [if_neg q, if_neg (by simpa using q)]), E102_4, h.count, if_neg (nlt_n (by omega))]
  rfl
theorem A_many (hD : GD D) (x : Int32) : Agr (d + 40) sl p D e 125 238 [.int x] := by
  have key : ∀ v st, (∀ I J, CK p I J D e → GrC I J D → ev (d + 40) 125 7 [.ref 1, .int x] [] (S sl p I J) = some (some v, S sl p (up2 I 1 8 st) J)) → (∀ I J, dat I = D → SetAt I D → ev (d + 40) 238 4 [.ref 46, .int x] [] (S sl p I J) = some (some v, S sl p (up2 I 46 0 st) J)) → Agr (d + 40) sl p D e 125 238 [.int x] := by
    intro v st h1 h2
    refine ⟨v, st, fun I J h => ?_, fun I J h => ?_⟩
    · obtain ⟨I', e1, e2, e3, e4⟩ := C_refresh (d := d + 36) (sl := sl) h
      exact QC.mk1 (I' := I') (J' := J) (by rw [E125_0, e1, evK_v, h1 I' J e2 e3]) e2 e4
    · obtain ⟨I', e1, e2, e3, e4⟩ := M_sets (d := d + 32) (sl := sl) (p := p) (J := J) hD h
      exact QM.mk1 (I' := I') (J' := J) (by rw [E238_0, e1, evK_v, h2 I' J e2 e3]) (e2.trans h.symm) e4
  by_cases q0 : x = 0
  · subst q0
    refine key (.int (nI (nl D))) 0 (fun I J h hG => ?_) (fun I J h hS => ?_)
    · rw [E125_7, if_pos rfl, h.sv.lines, E163_0, evK_s, E125_55]
    · rw [E238_4, if_pos rfl, d1 hD h, E179_0, evK_s, E238_48]
  by_cases q1 : x = 1
  · subst q1
    refine key (.int (nI (nc D))) 0 (fun I J h hG => ?_) (fun I J h hS => ?_)
    · rw [E125_7, if_neg (by decide), if_pos rfl, h.sv.count, E163_0, evK_s, E125_67]
    · rw [E238_4, if_neg (by decide), if_pos rfl, d2 hD h, E179_0, evK_s, E238_57]
  by_cases q2 : x = 2
  · subst q2
    refine key (.int (nI (cnt (fiL D) (nc D)))) 0 (fun I J h hG => ?_) (fun I J h hS => ?_)
    · rw [E125_7, if_neg (by decide), if_neg (by decide), if_pos rfl, C_countLies h.sv, evK_s, E125_76, E163_0, evK_s, E125_79]
    · rw [E238_4, if_neg (by decide), if_neg (by decide), if_pos rfl, M_unlike hD h, evK_s, E238_63, E179_0, evK_s, E238_66]
  by_cases q3 : x = 3
  · subst q3
    refine key (.int (nI (nst D))) 0 (fun I J h hG => ?_) (fun I J h hS => ?_)
    · rw [E125_7, if_neg (by decide), if_neg (by decide), if_neg (by decide), if_pos rfl, hG.sets, E163_0, evK_s, E125_91]
    · rw [E238_4, if_neg (by decide), if_neg (by decide), if_neg (by decide), if_pos rfl, hS.e31, E179_0, evK_s, E238_75]
  by_cases q4 : x = 4
  · subst q4
    refine key (.int (nI (mem D (-1)))) 0 (fun I J h hG => ?_) (fun I J h hS => ?_)
    · rw [E125_7, if_neg (by decide), if_neg (by decide), if_neg (by decide), if_neg (by decide), if_pos rfl, C_strays h.sv hG, evK_s, E125_100, E163_0, evK_s, E125_103]
    · rw [E238_4, if_neg (by decide), if_neg (by decide), if_neg (by decide), if_neg (by decide), if_pos rfl, M_members hD h hS, evK_s, E238_82, E179_0, evK_s, E238_85]
  refine key (.int (-1)) 1 (fun I J h hG => ?_) (fun I J h hS => ?_)
  · rw [E125_7, if_neg q0, if_neg q1, if_neg q2, if_neg q3, if_neg q4, E164_0, evK_s, E125_109]
  · rw [E238_4, if_neg q0, if_neg q1, if_neg q2, if_neg q3, if_neg q4, E178_0, evK_s, E238_91]
end AG2
