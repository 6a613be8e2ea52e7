section AG3
variable {d sl : Nat} {p : Nat → Nat} {I I' : Nat → Nat → Int32} {J J' : Nat → Nat → Int64} {D : Nat → Nat → Int32} {e : Nat}
theorem C_pole (h : SV p I J D) {i : Nat} (hi : i < nc D) : Int64.toInt32 (J (300 + p i) 0) = D 54 i ∧ Int64.toInt32 (J (300 + p i) 1) = D 55 i ∧ Int64.toInt32 (J (300 + p i) 2) = D 56 i := by
  have e := h.pole i hi
  unfold vec pv at e
  have e1 := congrArg Prod.fst e
  have e2 := congrArg (fun x => x.2.1) e
  have e3 := congrArg (fun x => x.2.2) e
  simp only at e1 e2 e3
  rw [e1, e2, e3, i64_i32, i64_i32, i64_i32]
  exact ⟨rfl, rfl, rfl⟩
theorem C_arrow (h : SV p I J D) {l : Nat} (hl : l < nl D) : Int64.toInt32 (J (100 + l) 0) = D 57 l ∧ Int64.toInt32 (J (100 + l) 1) = D 58 l ∧ Int64.toInt32 (J (100 + l) 2) = D 59 l := by
  have e := (h.tr l hl).2.2.2
  unfold vec av at e
  have e1 := congrArg Prod.fst e
  have e2 := congrArg (fun x => x.2.1) e
  have e3 := congrArg (fun x => x.2.2) e
  simp only at e1 e2 e3
  rw [e1, e2, e3, i64_i32, i64_i32, i64_i32]
  exact ⟨rfl, rfl, rfl⟩
theorem A_of (hD : GD D) (x w : Int32) : Agr (d + 40) sl p D e 126 240 [.int x, .int w] := by
  have n60 := hD.n60
  by_cases ha : ∃ s, s ≤ 9 ∧ w = nI s
  · obtain ⟨k, hk, rfl⟩ := ha
    have w : (if nI k < 0 then (0 : Int32) else if nI k ≤ 9 then 1 else 0) = 1 := wi_y (n := 9) hk (by decide)
    by_cases hx : ∃ i, i < nc D ∧ x = nI i
    · obtain ⟨i, hi, rfl⟩ := hx
      have key : ∀ v, (∀ I J, CK p I J D e → QC (d + 40) sl p I J D e 126 [.ref 1, .int (nI i), .int (nI k)] v 0) → (∀ I J, dat I = D → ∃ I', ev (d + 40) 240 21 [.ref 46, .int (nI i), .int (nI k)] [.int 1] (S sl p I J) = some (some v, S sl p (up2 I' 46 0 0) J) ∧ dat I' = D ∧ Fm I J I' J) → Agr (d + 40) sl p D e 126 240 [.int (nI i), .int (nI k)] := by
        intro v h1 h2
        refine ⟨v, 0, h1, fun I J h => ?_⟩
        obtain ⟨I', e1, e2, e3⟩ := h2 I J h
        refine QM.mk1 (I' := I') (J' := J) ?_ (e2.trans h.symm) e3
        rw [E240_0, sp_isFrom, w, evK_s, E240_7, if_neg (by decide), M_isCrack hD h, cr_y hD hi, evK_s, e1]
      have key2 : ∀ v : Int32, (∀ I J, CK p I J D e → ¬ nI k = 8 ∧ ¬ nI k = 9 ∧ den (d + 39) 11 [.ref (200 + p i), .int (nI k)] (S sl p I J) = some (some (.int v), S sl p I J)) → (∀ I J, dat I = D → ev (d + 40) 240 21 [.ref 46, .int (nI i), .int (nI k)] [.int 1] (S sl p I J) = some (some (.int v), S sl p (up2 I 46 0 0) J)) → Agr (d + 40) sl p D e 126 240 [.int (nI i), .int (nI k)] := by
        intro v h1 h2
        refine key (.int v) (fun I J h => ?_) (fun I J h => ⟨I, h2 I J h, h, Fm.refl⟩)
        obtain ⟨c1, c2, c3⟩ := h1 I J h
        refine QC.mk1 (I' := I) (J' := J) ?_ h Fc.refl
        rw [E126_0, sp_within, w, evK_s, E126_7, if_neg (by decide), C_hasCrack h.sv, cr_y hD hi, evK_s, E126_24 _ _ _ h.sv.p60, if_neg (by decide), if_neg c1, if_neg c2, ck_if (ixb_n (by omega) (by decide)), cl_n (by omega), c3, evK_s, E126_93, E163_0, evK_s, E126_96]
      have hk2 : k = 0 ∨ k = 1 ∨ k = 2 ∨ k = 3 ∨ k = 4 ∨ k = 5 ∨ k = 6 ∨ k = 7 ∨ k = 8 ∨ k = 9 := by omega
      rcases hk2 with rfl | rfl | rfl | rfl | rfl | rfl | rfl | rfl | rfl | rfl
      · refine key2 (D 50 i) (fun I J h => ⟨by decide, by decide, ?_⟩) (fun I J h => ?_)
        · rw [E11_0 _ (h.sv.p60 i)]
          repeat (first | rw [if_pos (by decide)] | rw [if_neg (by decide)])
          rw [(h.sv.ck i hi).1]
        · rw [E240_21]
          repeat (first | rw [if_pos (by decide)] | rw [if_neg (by decide)])
          rw [ck_if (ixb_n (by omega) (by decide)), cl_n (by omega), dr h (by omega), E179_0, evK_s, E240_90]
      · refine key2 (D 51 i) (fun I J h => ⟨by decide, by decide, ?_⟩) (fun I J h => ?_)
        · rw [E11_0 _ (h.sv.p60 i)]
          repeat (first | rw [if_pos (by decide)] | rw [if_neg (by decide)])
          rw [(h.sv.ck i hi).2.1]
        · rw [E240_21]
          repeat (first | rw [if_pos (by decide)] | rw [if_neg (by decide)])
          rw [ck_if (ixb_n (by omega) (by decide)), cl_n (by omega), dr h (by omega), E179_0, evK_s, E240_101]
      · refine key2 (D 52 i) (fun I J h => ⟨by decide, by decide, ?_⟩) (fun I J h => ?_)
        · rw [E11_0 _ (h.sv.p60 i)]
          repeat (first | rw [if_pos (by decide)] | rw [if_neg (by decide)])
          rw [(h.sv.ck i hi).2.2.1]
        · rw [E240_21]
          repeat (first | rw [if_pos (by decide)] | rw [if_neg (by decide)])
          rw [ck_if (ixb_n (by omega) (by decide)), cl_n (by omega), dr h (by omega), E179_0, evK_s, E240_112]
      · refine key2 (D 53 i) (fun I J h => ⟨by decide, by decide, ?_⟩) (fun I J h => ?_)
        · rw [E11_0 _ (h.sv.p60 i)]
          repeat (first | rw [if_pos (by decide)] | rw [if_neg (by decide)])
          rw [(h.sv.ck i hi).2.2.2.1]
        · rw [E240_21]
          repeat (first | rw [if_pos (by decide)] | rw [if_neg (by decide)])
          rw [ck_if (ixb_n (by omega) (by decide)), cl_n (by omega), dr h (by omega), E179_0, evK_s, E240_123]
      · refine key2 (D 54 i) (fun I J h => ⟨by decide, by decide, ?_⟩) (fun I J h => ?_)
        · rw [E11_0 _ (h.sv.p60 i)]
          repeat (first | rw [if_pos (by decide)] | rw [if_neg (by decide)])
          rw [E3_0 _ (obP (h.sv.p60 i))]
          repeat (first | rw [if_pos (by decide)] | rw [if_neg (by decide)])
          rw [evK_s, E11_83 _ _ (h.sv.p60 i), (C_pole h.sv hi).1]
        · rw [E240_21]
          repeat (first | rw [if_pos (by decide)] | rw [if_neg (by decide)])
          rw [ck_if (ixb_n (by omega) (by decide)), cl_n (by omega), dr h (by omega), E179_0, evK_s, E240_134]
      · refine key2 (D 55 i) (fun I J h => ⟨by decide, by decide, ?_⟩) (fun I J h => ?_)
        · rw [E11_0 _ (h.sv.p60 i)]
          repeat (first | rw [if_pos (by decide)] | rw [if_neg (by decide)])
          rw [E3_0 _ (obP (h.sv.p60 i))]
          repeat (first | rw [if_pos (by decide)] | rw [if_neg (by decide)])
          rw [evK_s, E11_83 _ _ (h.sv.p60 i), (C_pole h.sv hi).2.1]
        · rw [E240_21]
          repeat (first | rw [if_pos (by decide)] | rw [if_neg (by decide)])
          rw [ck_if (ixb_n (by omega) (by decide)), cl_n (by omega), dr h (by omega), E179_0, evK_s, E240_145]
      · refine key2 (D 56 i) (fun I J h => ⟨by decide, by decide, ?_⟩) (fun I J h => ?_)
        · rw [E11_0 _ (h.sv.p60 i)]
          repeat (first | rw [if_pos (by decide)] | rw [if_neg (by decide)])
          rw [E3_0 _ (obP (h.sv.p60 i))]
          repeat (first | rw [if_pos (by decide)] | rw [if_neg (by decide)])
          rw [evK_s, E11_83 _ _ (h.sv.p60 i), (C_pole h.sv hi).2.2]
        · rw [E240_21]
          repeat (first | rw [if_pos (by decide)] | rw [if_neg (by decide)])
          rw [ck_if (ixb_n (by omega) (by decide)), cl_n (by omega), dr h (by omega), E179_0, evK_s, E240_156]
      · refine key2 (wt D i) (fun I J h => ⟨by decide, by decide, ?_⟩) (fun I J h => ?_)
        · rw [E11_0 _ (h.sv.p60 i)]
          repeat (first | rw [if_pos (by decide)] | rw [if_neg (by decide)])
          rw [(h.sv.ck i hi).2.2.2.2.2.2]
        · rw [E240_21]
          repeat (first | rw [if_pos (by decide)] | rw [if_neg (by decide)])
          rw [M_wt hD h hi, evK_s, E240_163, E179_0, evK_s, E240_166]
      · refine key (.int (nI (cnt (fun j => decide (lv D j = lv D i)) (nc D)))) (fun I J h => QC.mk1 (I' := I) (J' := J) ?_ h Fc.refl) (fun I J h => ⟨I, ?_, h, Fm.refl⟩)
        · rw [E126_0, sp_within, w, evK_s, E126_7, if_neg (by decide), C_hasCrack h.sv, cr_y hD hi, evK_s, E126_24 _ _ _ h.sv.p60, if_neg (by decide), if_pos (by decide), sp_countAlike h.sv hi, evK_s, E126_48, E163_0, evK_s, E126_51]
        · rw [E240_21]
          repeat (first | rw [if_pos (by decide)] | rw [if_neg (by decide)])
          rw [M_alike hD h hi, evK_s, E240_173, E179_0, evK_s, E240_176]
      · refine key (.int (stn D i)) (fun I J h => ?_) (fun I J h => ?_)
        · obtain ⟨I', e1, e2, e3, e4⟩ := C_refresh (d := d + 36) (sl := sl) h
          refine QC.mk1 (I' := I') (J' := J) ?_ e2 e4
          rw [E126_0, sp_within, w, evK_s, E126_7, if_neg (by decide), C_hasCrack h.sv, cr_y hD hi, evK_s, E126_24 _ _ _ h.sv.p60, if_neg (by decide), if_neg (by decide), if_pos (by decide), e1, evK_v, E126_65, ck_if (ixb_n (by omega) (by decide)), cl_n (by omega), e3.pl i hi, E163_0, evK_s, E126_78]
        · obtain ⟨I', e1, e2, e3, e4⟩ := M_sets (d := d + 32) (sl := sl) (p := p) (J := J) hD h
          refine ⟨I', ?_, e2, e4⟩
          rw [E240_21]
          repeat (first | rw [if_pos (by decide)] | rw [if_neg (by decide)])
          rw [e1, evK_v, E240_181, ck_if (ixb_n (by omega) (by decide)), cl_n (by omega), e3.e61 i hi, E179_0, evK_s, E240_191]
    · refine ⟨.int (-1), 2, fun I J h => QC.mk1 (I' := I) (J' := J) ?_ h Fc.refl, fun I J h => QM.mk1 (I' := I) (J' := J) ?_ rfl Fm.refl⟩
      · simp only [E126_0, E126_7, E126_15, E126_24, E126_32, E126_48, E126_51, E126_65, E126_78, E126_93, E126_96, h.sv.p60, implies_true, w, C_hasCrack h.sv, cr_n hD hx, evK_s, evK_v, E163_0, E164_0, E178_0, E179_0, E180_0, sp_within, sp_isFrom, n10, eq_self, if_true, if_false]
      · simp only [E240_0, E240_7, E240_15, E240_21, E240_29, E240_90, E240_101, E240_112, E240_123, E240_134, E240_145, E240_156, E240_163, E240_166, E240_173, E240_176, E240_181, E240_191, w, M_isCrack hD h, cr_n hD hx, evK_s, evK_v, E163_0, E164_0, E178_0, E179_0, E180_0, sp_within, sp_isFrom, n10, eq_self, if_true, if_false]
  · have w : (if w < 0 then (0 : Int32) else if w ≤ 9 then 1 else 0) = 0 := wi_n (n := 9) (by decide) ha
    refine ⟨.int (-1), 1, fun I J h => QC.mk1 (I' := I) (J' := J) ?_ h Fc.refl, fun I J h => QM.mk1 (I' := I) (J' := J) ?_ rfl Fm.refl⟩
    · simp only [E126_0, E126_7, E126_15, E126_24, E126_32, E126_48, E126_51, E126_65, E126_78, E126_93, E126_96, w, evK_s, evK_v, E163_0, E164_0, E178_0, E179_0, E180_0, sp_within, sp_isFrom, n10, eq_self, if_true, if_false]
    · simp only [E240_0, E240_7, E240_15, E240_21, E240_29, E240_90, E240_101, E240_112, E240_123, E240_134, E240_145, E240_156, E240_163, E240_166, E240_173, E240_176, E240_181, E240_191, w, evK_s, evK_v, E163_0, E164_0, E178_0, E179_0, E180_0, sp_within, sp_isFrom, n10, eq_self, if_true, if_false]
theorem C_onLine (h : SV p I J D) (l : Int32) : den d 72 [.ref 4, .int l] (S sl p I J) = some (some (.int (nI (cnt (fun j => decide (D 50 j = l)) (nc D)))), S sl p I J) := by
  have n60 := h.gd.n60
  rw [E72_0, for_cnt (fun j x => ev d 72 4 [.ref 4, .int l, .int x, .int j] [] (S sl p I J)) (fun j => decide (D 50 j = l)) (nc D)
    (by
      intro j x hj
      rw [E72_4 _ _ _ h.p60, h.count, if_pos (lt_n hj (by omega)), ck_if (ixb_n (by omega) (by decide)), cl_n (by omega), (h.ck j hj).1, nI_1]
      by_cases q : D 50 j = l
      · rw [if_pos q, if_pos (decide_eq_true q)]
      · rw [if_neg q, if_neg (by simpa using q)]), E72_4 _ _ _ h.p60, h.count, if_neg (nlt_n (by omega))]
theorem A_along (hD : GD D) (x w : Int32) : Agr (d + 40) sl p D e 127 241 [.int x, .int w] := by
  have n60 := hD.n60
  have m6 := hD.m6
  by_cases ha : ∃ s, s ≤ 6 ∧ w = nI s
  · obtain ⟨k, hk, rfl⟩ := ha
    have w : (if nI k < 0 then (0 : Int32) else if nI k ≤ 6 then 1 else 0) = 1 := wi_y (n := 6) hk (by decide)
    by_cases hx : ∃ i, i < nl D ∧ x = nI i
    · obtain ⟨i, hi, rfl⟩ := hx
      have key : ∀ v : Int32, (∀ I J, CK p I J D e → den (d + 39) 71 [.ref 4, .int (nI i), .int (nI k)] (S sl p I J) = some (some (.int v), S sl p I J)) → (∀ I J, dat I = D → ev (d + 40) 241 35 [.ref 46, .int (nI i), .int (nI k), .int (nI (cnt (fun j => decide (D 50 j = nI i)) (nc D))), .int (nI (nc D))] [] (S sl p I J) = some (some (.int v), S sl p (up2 I 46 0 0) J)) → Agr (d + 40) sl p D e 127 241 [.int (nI i), .int (nI k)] := by
        intro v h1 h2
        refine ⟨.int v, 0, fun I J h => QC.mk1 (I' := I) (J' := J) ?_ h Fc.refl, fun I J h => QM.mk1 (I' := I) (J' := J) ?_ rfl Fm.refl⟩
        · rw [E127_0, sp_within, w, evK_s, E127_7, if_neg (by decide), C_hasLine h.sv, ln_y hD hi, evK_s, E127_24, if_neg (by decide), h1 I J h, evK_s, E127_43, E163_0, evK_s, E127_46]
        · rw [E241_0, sp_isFrom, w, evK_s, E241_7, if_neg (by decide), M_isLine hD h, ln_y hD hi, evK_s, E241_21, if_neg (by decide), for_cnt (fun j x => ev (d + 40) 241 35 [.ref 46, .int (nI i), .int (nI k), .int x, .int j] [] (S sl p I J)) (fun j => decide (D 50 j = nI i)) (nc D) (by
            intro j x hj
            rw [E241_35, d2 hD h, if_pos (lt_n hj (by omega)), ck_if (ixb_n (by omega) (by decide)), cl_n (by omega), dr h (by omega), nI_1]
            by_cases q : D 50 j = nI i
            · rw [if_pos q, if_pos (decide_eq_true q)]
            · rw [if_neg q, if_neg (by simpa using q), Int32.add_zero]), h2 I J h]
      have hk2 : k = 0 ∨ k = 1 ∨ k = 2 ∨ k = 3 ∨ k = 4 ∨ k = 5 ∨ k = 6 := by omega
      rcases hk2 with rfl | rfl | rfl | rfl | rfl | rfl | rfl
      · refine key (D 47 i) (fun I J h => ?_) (fun I J h => ?_)
        · rw [E71_0]
          repeat (first | rw [if_pos (by decide)] | rw [if_neg (by decide)])
          rw [ck_if (ixb_n (by omega) (by decide)), cl_n (by omega), (h.sv.tr i hi).1]
        · rw [E241_35, d2 hD h, if_neg (nlt_n (by omega))]
          repeat (first | rw [if_pos (by decide)] | rw [if_neg (by decide)])
          rw [ck_if (ixb_n (by omega) (by decide)), cl_n (by omega), dr h (by omega), E179_0, evK_s, E241_118]
      · refine key (D 48 i) (fun I J h => ?_) (fun I J h => ?_)
        · rw [E71_0]
          repeat (first | rw [if_pos (by decide)] | rw [if_neg (by decide)])
          rw [ck_if (ixb_n (by omega) (by decide)), cl_n (by omega), (h.sv.tr i hi).2.1]
        · rw [E241_35, d2 hD h, if_neg (nlt_n (by omega))]
          repeat (first | rw [if_pos (by decide)] | rw [if_neg (by decide)])
          rw [ck_if (ixb_n (by omega) (by decide)), cl_n (by omega), dr h (by omega), E179_0, evK_s, E241_129]
      · refine key (D 49 i) (fun I J h => ?_) (fun I J h => ?_)
        · rw [E71_0]
          repeat (first | rw [if_pos (by decide)] | rw [if_neg (by decide)])
          rw [ck_if (ixb_n (by omega) (by decide)), cl_n (by omega), (h.sv.tr i hi).2.2.1]
        · rw [E241_35, d2 hD h, if_neg (nlt_n (by omega))]
          repeat (first | rw [if_pos (by decide)] | rw [if_neg (by decide)])
          rw [ck_if (ixb_n (by omega) (by decide)), cl_n (by omega), dr h (by omega), E179_0, evK_s, E241_140]
      · refine key (D 57 i) (fun I J h => ?_) (fun I J h => ?_)
        · rw [E71_0]
          repeat (first | rw [if_pos (by decide)] | rw [if_neg (by decide)])
          rw [ck_if (ixb_n (by omega) (by decide)), cl_n (by omega), E3_0 _ (ob100 (by omega))]
          repeat (first | rw [if_pos (by decide)] | rw [if_neg (by decide)])
          rw [evK_s, E71_83, (C_arrow h.sv hi).1]
        · rw [E241_35, d2 hD h, if_neg (nlt_n (by omega))]
          repeat (first | rw [if_pos (by decide)] | rw [if_neg (by decide)])
          rw [ck_if (ixb_n (by omega) (by decide)), cl_n (by omega), dr h (by omega), E179_0, evK_s, E241_151]
      · refine key (D 58 i) (fun I J h => ?_) (fun I J h => ?_)
        · rw [E71_0]
          repeat (first | rw [if_pos (by decide)] | rw [if_neg (by decide)])
          rw [ck_if (ixb_n (by omega) (by decide)), cl_n (by omega), E3_0 _ (ob100 (by omega))]
          repeat (first | rw [if_pos (by decide)] | rw [if_neg (by decide)])
          rw [evK_s, E71_83, (C_arrow h.sv hi).2.1]
        · rw [E241_35, d2 hD h, if_neg (nlt_n (by omega))]
          repeat (first | rw [if_pos (by decide)] | rw [if_neg (by decide)])
          rw [ck_if (ixb_n (by omega) (by decide)), cl_n (by omega), dr h (by omega), E179_0, evK_s, E241_162]
      · refine key (D 59 i) (fun I J h => ?_) (fun I J h => ?_)
        · rw [E71_0]
          repeat (first | rw [if_pos (by decide)] | rw [if_neg (by decide)])
          rw [ck_if (ixb_n (by omega) (by decide)), cl_n (by omega), E3_0 _ (ob100 (by omega))]
          repeat (first | rw [if_pos (by decide)] | rw [if_neg (by decide)])
          rw [evK_s, E71_83, (C_arrow h.sv hi).2.2]
        · rw [E241_35, d2 hD h, if_neg (nlt_n (by omega))]
          repeat (first | rw [if_pos (by decide)] | rw [if_neg (by decide)])
          rw [ck_if (ixb_n (by omega) (by decide)), cl_n (by omega), dr h (by omega), E179_0, evK_s, E241_173]
      · refine key (nI (cnt (fun j => decide (D 50 j = nI i)) (nc D))) (fun I J h => ?_) (fun I J h => ?_)
        · rw [E71_0]
          repeat (first | rw [if_pos (by decide)] | rw [if_neg (by decide)])
          rw [C_onLine h.sv, evK_s, E71_70]
        · rw [E241_35, d2 hD h, if_neg (nlt_n (by omega))]
          repeat (first | rw [if_pos (by decide)] | rw [if_neg (by decide)])
          rw [E179_0, evK_s, E241_179]
    · refine ⟨.int (-1), 2, fun I J h => QC.mk1 (I' := I) (J' := J) ?_ h Fc.refl, fun I J h => QM.mk1 (I' := I) (J' := J) ?_ rfl Fm.refl⟩
      · simp only [E127_0, E127_7, E127_15, E127_24, E127_32, E127_43, E127_46, w, C_hasLine h.sv, ln_n hD hx, evK_s, evK_v, E163_0, E164_0, E178_0, E179_0, E180_0, sp_within, sp_isFrom, n10, eq_self, if_true, if_false]
      · simp only [E241_0, E241_7, E241_15, E241_21, E241_29, E241_118, E241_129, E241_140, E241_151, E241_162, E241_173, E241_179, w, M_isLine hD h, ln_n hD hx, evK_s, evK_v, E163_0, E164_0, E178_0, E179_0, E180_0, sp_within, sp_isFrom, n10, eq_self, if_true, if_false]
  · have w : (if w < 0 then (0 : Int32) else if w ≤ 6 then 1 else 0) = 0 := wi_n (n := 6) (by decide) ha
    refine ⟨.int (-1), 1, fun I J h => QC.mk1 (I' := I) (J' := J) ?_ h Fc.refl, fun I J h => QM.mk1 (I' := I) (J' := J) ?_ rfl Fm.refl⟩
    · simp only [E127_0, E127_7, E127_15, E127_24, E127_32, E127_43, E127_46, w, evK_s, evK_v, E163_0, E164_0, E178_0, E179_0, E180_0, sp_within, sp_isFrom, n10, eq_self, if_true, if_false]
    · simp only [E241_0, E241_7, E241_15, E241_21, E241_29, E241_118, E241_129, E241_140, E241_151, E241_162, E241_173, E241_179, w, evK_s, evK_v, E163_0, E164_0, E178_0, E179_0, E180_0, sp_within, sp_isFrom, n10, eq_self, if_true, if_false]
end AG3
