section AG14
variable {d sl : Nat} {p : Nat → Nat} {I I' : Nat → Nat → Int32} {J J' : Nat → Nat → Int64} {D : Nat → Nat → Int32} {e : Nat}
theorem wdV_w (hD : GD D) (hL : LabD D) {a b : Nat} (ha : a < nst D) (hb : b < nst D) : bw (wdV D a b) := tup_w (crs_w (meO_b hD hL ha) (meO_b hD hL hb))
def zr (v : V3) : Int32 := if v.1 = 0 then (if v.2.1 = 0 then (if v.2.2 = 0 then 0 else 1) else 1) else 1
theorem zr_0 {v : V3} : zr v = 0 ↔ v.1 = 0 ∧ v.2.1 = 0 ∧ v.2.2 = 0 := by
  unfold zr
  by_cases a : v.1 = 0
  · by_cases b : v.2.1 = 0
    · by_cases c : v.2.2 = 0
      · rw [if_pos a, if_pos b, if_pos c]
        exact ⟨fun _ => ⟨a, b, c⟩, fun _ => rfl⟩
      · rw [if_pos a, if_pos b, if_neg c]
        exact ⟨fun w => absurd w (by decide), fun w => absurd w.2.2 c⟩
    · rw [if_pos a, if_neg b]
      exact ⟨fun w => absurd w (by decide), fun w => absurd w.2.1 b⟩
  · rw [if_neg a]
    exact ⟨fun w => absurd w (by decide), fun w => absurd w.1 a⟩
theorem zr_1 {v : V3} (h : ¬ (v.1 = 0 ∧ v.2.1 = 0 ∧ v.2.2 = 0)) : zr v = 1 := by
  have : ¬ zr v = 0 := fun w => h (zr_0.mp w)
  unfold zr at *
  split
  · rename_i a
    rw [if_pos a] at this
    split
    · rename_i b
      rw [if_pos b] at this
      split
      · rename_i c
        rw [if_pos c] at this
        exact absurd rfl this
      · rfl
    · rfl
  · rfl
theorem C_wedgeInto (h : SV p I J D) (hL : LabD D) (hM : ∀ s, s < nst D → Msd I J D s) {a b o : Nat} (ha : a < nst D) (hb : b < nst D) (ho : ob o 0) : den (d + 3) 51 [.ref 34, .int (nI a), .int (nI b), .ref o] (S sl p I J) = some (some (.int (zr (wdV D a b))), S sl p I (setV J o (wdV D a b))) := by
  have n60 := h.gd.n60
  have h30 := nst_30 h.gd hL
  rw [E51_0 _ _ ho, ck_if (ixb_n (by omega) (by decide)), ck_if (ixb_n (by omega) (by decide)), cl_n (by omega), cl_n (by omega), C_cross ho (ob800 (by omega)) (ob800 (by omega)), evK_v, E51_22 _ _ ho, sp_turnUpC ho, evK_v, E51_26 _ _ ho, vec_setV, setV_2, (hM a ha).mean, (hM b hb).mean, show tup (crs (meO D a) (meO D b)) = wdV D a b from rfl, E6_0 ho]
  have e : vec (setV J o (wdV D a b)) o = wdV D a b := vec_setV
  have e0 : setV J o (wdV D a b) o 0 = (wdV D a b).1 := congrArg Prod.fst e
  have e1 : setV J o (wdV D a b) o 1 = (wdV D a b).2.1 := congrArg (fun x => x.2.1) e
  have e2 : setV J o (wdV D a b) o 2 = (wdV D a b).2.2 := congrArg (fun x => x.2.2) e
  rw [e0, e1, e2]
  unfold zr
  by_cases a1 : (wdV D a b).1 = 0
  · by_cases b1 : (wdV D a b).2.1 = 0
    · by_cases c1 : (wdV D a b).2.2 = 0
      · rw [if_pos a1, if_pos b1, if_pos c1, evK_s, E51_30 _ _ _ ho, if_neg (by decide), if_pos a1, if_pos b1, if_pos c1]
      · rw [if_pos a1, if_pos b1, if_neg c1, evK_s, E51_30 _ _ _ ho, if_pos rfl, if_pos a1, if_pos b1, if_neg c1]
    · rw [if_pos a1, if_neg b1, evK_s, E51_30 _ _ _ ho, if_pos rfl, if_pos a1, if_neg b1]
  · rw [if_neg a1, evK_s, E51_30 _ _ _ ho, if_pos rfl, if_neg a1]
theorem M_wedgeL (hD : GD D) (hL : LabD D) (hM : MeanAt I D (nst D)) {a b : Nat} (ha : a < nst D) (hb : b < nst D) : den (d + 2) 287 [.ref 46, .int (nI a), .int (nI b)] (S sl p I J) = some (some (.int (zr (wdV D (if b < a then b else a) (if a < b then b else a)))), S sl p (set3v I (wdV D (if b < a then b else a) (if a < b then b else a))) J) := by
  have n60 := hD.n60
  have h30 := nst_30 hD hL
  have e1 : (if nI b < nI a then nI b else nI a) = nI (if b < a then b else a) := by
    by_cases c : b < a
    · rw [if_pos c, if_pos ((nI_lt_iff (by omega) (by omega)).mpr c)]
    · rw [if_neg c, if_neg (fun w => c ((nI_lt_iff (by omega) (by omega)).mp w))]
  have e2 : (if nI a < nI b then nI b else nI a) = nI (if a < b then b else a) := by
    by_cases c : a < b
    · rw [if_pos c, if_pos ((nI_lt_iff (by omega) (by omega)).mpr c)]
    · rw [if_neg c, if_neg (fun w => c ((nI_lt_iff (by omega) (by omega)).mp w))]
  have l1 : (if b < a then b else a) < nst D := by split <;> assumption
  have l2 : (if a < b then b else a) < nst D := by split <;> assumption
  rw [E287_0, e1, e2]
  generalize (if b < a then b else a) = x at l1
  generalize (if a < b then b else a) = y at l2
  have hw := wdV_w hD hL l1 l2
  have hc := crs_w (meO_b hD hL l1) (meO_b hD hL l2)
  rw [M_cross (by omega) (by omega), evK_v, hM.v l1 (meO_b hD hL l1), hM.v l2 (meO_b hD hL l2), E287_14, sp_turnsUp hc, evK_v, E287_18, set3v_r.1, set3v_r.2.1, set3v_r.2.2, show tup (crs (meO D x) (meO D y)) = wdV D x y from rfl]
  unfold zr
  have q1 : (wdV D x y).1.toInt32 = 0 ↔ (wdV D x y).1 = 0 := (n32_0 hw.1).trans l_0.symm
  have q2 : (wdV D x y).2.1.toInt32 = 0 ↔ (wdV D x y).2.1 = 0 := (n32_0 hw.2.1).trans l_0.symm
  have q3 : (wdV D x y).2.2.toInt32 = 0 ↔ (wdV D x y).2.2 = 0 := (n32_0 hw.2.2).trans l_0.symm
  by_cases a1 : (wdV D x y).1 = 0
  · by_cases b1 : (wdV D x y).2.1 = 0
    · by_cases c1 : (wdV D x y).2.2 = 0
      · rw [if_pos (q1.mpr a1), if_pos (q2.mpr b1), if_pos (q3.mpr c1), if_pos a1, if_pos b1, if_pos c1]
      · rw [if_pos (q1.mpr a1), if_pos (q2.mpr b1), if_neg (fun w => c1 (q3.mp w)), if_pos a1, if_pos b1, if_neg c1]
    · rw [if_pos (q1.mpr a1), if_neg (fun w => b1 (q2.mp w)), if_pos a1, if_neg b1]
  · rw [if_neg (fun w => a1 (q1.mp w)), if_neg a1]
theorem A_wedge (hD : GD D) (hL : LabD D) (x y w : Int32) : Agr (d + 40) sl p D e 156 289 [.int x, .int y, .int w] := by
  have n60 := hD.n60
  have h30 := nst_30 hD hL
  by_cases ha : ∃ s, s ≤ 4 ∧ w = nI s
  · obtain ⟨k, hk, rfl⟩ := ha
    have w : (if nI k < 0 then (0 : Int32) else if nI k ≤ 4 then 1 else 0) = 1 := wi_y (n := 4) hk (by decide)
    by_cases hT : Two D x y
    · obtain ⟨s, t, hs, ht, hne, rfl, rfl⟩ := id hT
      have l1 : (if t < s then t else s) < nst D := by split <;> assumption
      have l2 : (if s < t then t else s) < nst D := by split <;> assumption
      have hw := wdV_w hD hL l1 l2
      have e1 : (if nI t < nI s then nI t else nI s) = nI (if t < s then t else s) := by
        by_cases c : t < s
        · rw [if_pos c, if_pos ((nI_lt_iff (by omega) (by omega)).mpr c)]
        · rw [if_neg c, if_neg (fun w => c ((nI_lt_iff (by omega) (by omega)).mp w))]
      have e2 : (if nI s < nI t then nI t else nI s) = nI (if s < t then t else s) := by
        by_cases c : s < t
        · rw [if_pos c, if_pos ((nI_lt_iff (by omega) (by omega)).mpr c)]
        · rw [if_neg c, if_neg (fun w => c ((nI_lt_iff (by omega) (by omega)).mp w))]
      have key : ∀ v st, (∀ I J, CK p I J D e → vec J 45 = wdV D (if t < s then t else s) (if s < t then t else s) → ev (d + 40) 156 58 [.ref 1, .int (nI s), .int (nI t), .int (nI k), .retAddr 0] [.int (zr (wdV D (if t < s then t else s) (if s < t then t else s)))] (S sl p I J) = some (some (.int v), S sl p (up2 I 1 8 st) J)) → (∀ I J, ev (d + 40) 289 40 [.ref 46, .int (nI s), .int (nI t), .int (nI k)] [.int (zr (wdV D (if t < s then t else s) (if s < t then t else s)))] (S sl p (set3v I (wdV D (if t < s then t else s) (if s < t then t else s))) J) = some (some (.int v), S sl p (up2 (set3v I (wdV D (if t < s then t else s) (if s < t then t else s))) 46 0 st) J)) → Agr (d + 40) sl p D e 156 289 [.int (nI s), .int (nI t), .int (nI k)] := by
        intro v st h1 h2
        refine ⟨.int v, st, fun I J h => ?_, fun I J h => ?_⟩
        · obtain ⟨I1, a1, a2, a3⟩ := C_two (d := d + 34) (sl := sl) h hL _ _ 1 (Or.inl ⟨hT, rfl⟩)
          obtain ⟨I2, J2, b1, b2, b3, b4, b5, -⟩ := C_measureAll (d := d + 34) (sl := sl) a2
          refine QC.mk1 (I' := I2) (J' := setV J2 45 (wdV D (if t < s then t else s) (if s < t then t else s))) ?_ (b2.ask _ (by omega)) (a3.trans (b5.trans (Fc.ask (by omega))))
          rw [E156_0, sp_within, w, evK_s, E156_6, if_neg (by decide), a1, evK_s, E156_21, if_neg (by decide), b1, evK_v, E156_37, e1, e2, C_wedgeInto b2.sv hL b4 l1 l2 ob_45, evK_s, h1 _ _ (b2.ask _ (by omega)) vec_setV]
        · obtain ⟨I1, J1, a1, a2, a3, a4, a5⟩ := M_means (d := d + 29) (sl := sl) (p := p) (J := J) hD h
          refine QM.mk1 (I' := set3v I1 (wdV D (if t < s then t else s) (if s < t then t else s))) (J' := J1) ?_ (by rw [dat_set3v]; exact a2.trans h.symm) (a5.trans ⟨fun a k _ => set3v_n (by omega), fun _ _ _ => rfl⟩)
          rw [E289_0, sp_isFrom, w, evK_s, E289_6, if_neg (by decide), a1, evK_v, E289_19, M_two hD hL a3 _ _ 1 (Or.inl ⟨hT, rfl⟩), evK_s, E289_25, if_neg (by decide), M_wedgeL hD hL a4 hs ht, evK_s, h2]
      generalize wdV D (if t < s then t else s) (if s < t then t else s) = v at hw key
      by_cases hz : v.1 = 0 ∧ v.2.1 = 0 ∧ v.2.2 = 0
      · refine key (-1) 5 (fun I J h hv => ?_) (fun I J => ?_)
        · rw [E156_58, if_pos (zr_0.mpr hz), E164_0, evK_s, E156_66]
        · rw [E289_40, if_pos (zr_0.mpr hz), E178_0, evK_s, E289_48]
      · have nz : ¬ zr v = 0 := fun w => hz (zr_0.mp w)
        have hk2 : k = 0 ∨ k = 1 ∨ k = 2 ∨ k = 3 ∨ k = 4 := by omega
        rcases hk2 with rfl | rfl | rfl | rfl | rfl
        · refine key (nI (trd v)) 0 (fun I J h hv => ?_) (fun I J => ?_)
          · rw [E156_58, if_neg nz, if_pos (by decide), sp_trendOfC ob_45 h.sv.sn (by rw [hv]; exact hw), hv, evK_s, E156_99, if_pos (by decide), E156_124, E163_0, evK_s, E156_127]
          · rw [E289_40, if_neg nz, if_pos (by decide), sp_trendOf hw, evK_s, E289_85, E179_0, evK_s, E289_88]
        · refine key (nI (pgv v)) 0 (fun I J h hv => ?_) (fun I J => ?_)
          · have ep := sp_plungeOfC (d := d + 38) (sl := sl) (p := p) (I := I) (J := J) ob_45 h.sv.sn (by rw [hv]; exact hw)
            rw [hv] at ep
            rw [E156_58, if_neg nz, if_pos (by decide), sp_trendOfC ob_45 h.sv.sn (by rw [hv]; exact hw), hv, evK_s, E156_99, if_neg (by decide), ep, evK_s, E156_124, E163_0, evK_s, E156_127]
          · rw [E289_40, if_neg nz, if_neg (by decide), if_pos (by decide), sp_plungeOfM hw, evK_s, E289_94, E179_0, evK_s, E289_97]
        · refine key v.1.toInt32 0 (fun I J h hv => ?_) (fun I J => ?_)
          · rw [E156_58, if_neg nz, if_neg (by decide), E3_0 _ ob_45]
            repeat (first | rw [if_pos (by decide)] | rw [if_neg (by decide)])
            rw [evK_s, E156_83, E163_0, evK_s, E156_87, ← hv]
            rfl
          · rw [E289_40, if_neg nz]
            repeat (first | rw [if_pos (by decide)] | rw [if_neg (by decide)])
            rw [set3v_r.1, E179_0, evK_s, E289_106]
        · refine key v.2.1.toInt32 0 (fun I J h hv => ?_) (fun I J => ?_)
          · rw [E156_58, if_neg nz, if_neg (by decide), E3_0 _ ob_45]
            repeat (first | rw [if_pos (by decide)] | rw [if_neg (by decide)])
            rw [evK_s, E156_83, E163_0, evK_s, E156_87, ← hv]
            rfl
          · rw [E289_40, if_neg nz]
            repeat (first | rw [if_pos (by decide)] | rw [if_neg (by decide)])
            rw [set3v_r.2.1, E179_0, evK_s, E289_115]
        · refine key v.2.2.toInt32 0 (fun I J h hv => ?_) (fun I J => ?_)
          · rw [E156_58, if_neg nz, if_neg (by decide), E3_0 _ ob_45]
            repeat (first | rw [if_pos (by decide)] | rw [if_neg (by decide)])
            rw [evK_s, E156_83, E163_0, evK_s, E156_87, ← hv]
            rfl
          · rw [E289_40, if_neg nz]
            repeat (first | rw [if_pos (by decide)] | rw [if_neg (by decide)])
            rw [set3v_r.2.2, E179_0, evK_s, E289_124]
    · refine ⟨.int (-1), 2, fun I J h => ?_, fun I J h => ?_⟩
      · obtain ⟨I1, a1, a2, a3⟩ := C_two (d := d + 34) (sl := sl) h hL _ _ 0 (Or.inr ⟨hT, rfl⟩)
        refine QC.mk1 (I' := I1) (J' := J) ?_ a2 a3
        rw [E156_0, sp_within, w, evK_s, E156_6, if_neg (by decide), a1, evK_s, E156_21, if_pos rfl, E164_0, evK_s, E156_29]
      · obtain ⟨I1, J1, a1, a2, a3, a4, a5⟩ := M_means (d := d + 29) (sl := sl) (p := p) (J := J) hD h
        refine QM.mk1 (I' := I1) (J' := J1) ?_ (a2.trans h.symm) a5
        rw [E289_0, sp_isFrom, w, evK_s, E289_6, if_neg (by decide), a1, evK_v, E289_19, M_two hD hL a3 _ _ 0 (Or.inr ⟨hT, rfl⟩), evK_s, E289_25, if_pos rfl, E178_0, evK_s, E289_33]
  · have w : (if w < 0 then (0 : Int32) else if w ≤ 4 then 1 else 0) = 0 := wi_n (n := 4) (by decide) ha
    refine ⟨.int (-1), 1, fun I J h => QC.mk1 (I' := I) (J' := J) ?_ h Fc.refl, fun I J h => QM.mk1 (I' := I) (J' := J) ?_ rfl Fm.refl⟩
    · simp only [E156_0, E156_6, E156_14, E156_21, E156_29, E156_37, E156_58, E156_66, E156_83, E156_87, E156_99, E156_124, E156_127, w, evK_s, evK_v, E163_0, E164_0, E178_0, E179_0, E180_0, sp_within, sp_isFrom, n10, eq_self, if_true, if_false]
    · simp only [E289_0, E289_6, E289_14, E289_19, E289_25, E289_33, E289_40, E289_48, E289_85, E289_88, E289_94, E289_97, E289_106, E289_115, E289_124, w, evK_s, evK_v, E163_0, E164_0, E178_0, E179_0, E180_0, sp_within, sp_isFrom, n10, eq_self, if_true, if_false]
def Lt (x : Int32) : Prop := ∃ s, 1 ≤ s ∧ s ≤ 100000 ∧ x = nI s
theorem lt_v (x : Int32) : (Lt x ∧ (if x < 1 then (0 : Int32) else if x ≤ 100000 then 1 else 0) = 1) ∨ (¬ Lt x ∧ (if x < 1 then (0 : Int32) else if x ≤ 100000 then 1 else 0) = 0) := by
  by_cases h : Lt x
  · refine Or.inl ⟨h, ?_⟩
    obtain ⟨s, h1, h2, rfl⟩ := h
    exact wj_y (a := 1) (n := 100000) h1 h2 (by decide)
  · exact Or.inr ⟨h, wj_n (a := 1) (n := 100000) (by decide) (by decide) h⟩
theorem M_isLength (x : Int32) : den (d + 1) 285 [.int x] (S sl p I J) = some (some (.int (if x < 1 then 0 else if x ≤ 100000 then 1 else 0)), S sl p I J) := by
  rw [E285_0, sp_isFrom, evK_s, E285_7, ck_if from_01]
theorem A_block (hD : GD D) (hL : LabD D) (a b c x y z : Int32) : Agr (d + 40) sl p D e 155 286 [.int a, .int b, .int c, .int x, .int y, .int z] := by
  have n60 := hD.n60
  have h30 := nst_30 hD hL
  rcases lt_v x with ⟨hx, wx⟩ | ⟨hx, wx⟩
  · rcases lt_v y with ⟨hy, wy⟩ | ⟨hy, wy⟩
    · rcases lt_v z with ⟨hz, wz⟩ | ⟨hz, wz⟩
      · have gC : ∀ I J, den (d + 40) 155 [.ref 1, .int a, .int b, .int c, .int x, .int y, .int z] (S sl p I J) = evK (d + 40) 155 49 [.ref 1, .int a, .int b, .int c, .int x, .int y, .int z, .retAddr 0, .retAddr 0] [] (den (d + 39) 166 [.ref 1, .int a, .int b] (S sl p I J)) := by
          intro I J
          rw [E155_0, sp_within, wx, evK_s, E155_9, if_neg (by decide), sp_within, wy, evK_s, E155_21, if_neg (by decide), sp_within, wz, evK_s, E155_33, if_neg (by decide)]
        have gM : ∀ I J, dat I = D → ∃ I1 J1, den (d + 40) 286 [.ref 46, .int a, .int b, .int c, .int x, .int y, .int z] (S sl p I J) = evK (d + 40) 286 41 [.ref 46, .int a, .int b, .int c, .int x, .int y, .int z, .retAddr 0, .retAddr 0] [] (den (d + 39) 236 [.ref 46, .int a, .int b] (S sl p I1 J1)) ∧ dat I1 = D ∧ SetAt I1 D ∧ MeanAt I1 D (nst D) ∧ Fm I J I1 J1 := by
          intro I J h
          obtain ⟨I1, J1, a1, a2, a3, a4, a5⟩ := M_means (d := d + 29) (sl := sl) (p := p) (J := J) hD h
          exact ⟨I1, J1, by rw [E286_0, M_isLength, wx, evK_s, E286_5, if_neg (by decide), M_isLength, wy, evK_s, E286_13, if_neg (by decide), M_isLength, wz, evK_s, E286_21, if_neg (by decide), a1, evK_v, E286_35], a2, a3, a4, a5⟩
        have badC : ∀ I0 J0 I J, CK p I J D e → Fc I0 J0 I J → (den (d + 40) 155 [.ref 1, .int a, .int b, .int c, .int x, .int y, .int z] (S sl p I0 J0) = ev (d + 40) 155 70 [.ref 1, .int a, .int b, .int c, .int x, .int y, .int z, .retAddr 0, .retAddr 0] [] (S sl p I J)) → QC (d + 40) sl p I0 J0 D e 155 [.ref 1, .int a, .int b, .int c, .int x, .int y, .int z] (.long (Int32.toInt64 (-1))) 2 := by
          intro I0 J0 I J h hf he
          exact QC.mk1 (I' := I) (J' := J) (by rw [he, E155_70, E164_0, evK_s, E155_75]) h hf
        have badM : ∀ I0 J0 I J, dat I = dat I0 → Fm I0 J0 I J → (den (d + 40) 286 [.ref 46, .int a, .int b, .int c, .int x, .int y, .int z] (S sl p I0 J0) = ev (d + 40) 286 58 [.ref 46, .int a, .int b, .int c, .int x, .int y, .int z, .retAddr 0, .retAddr 0] [] (S sl p I J)) → QM (d + 40) sl p I0 J0 286 [.ref 46, .int a, .int b, .int c, .int x, .int y, .int z] (.long (Int32.toInt64 (-1))) 2 := by
          intro I0 J0 I J h hf he
          exact QM.mk1 (I' := I) (J' := J) (by rw [he, E286_58, E178_0, evK_s, E286_63]) h hf
        by_cases t1 : Two D a b
        · by_cases t2 : Two D a c
          · by_cases t3 : Two D b c
            · have hac : ¬ a = c := fun w => by
                obtain ⟨s, t, hs, ht, hne, e1, e2⟩ := t2
                exact hne (nI_ij (by omega) (by omega) (e1.symm.trans (w.trans e2)))
              obtain ⟨s, t, hs, ht, hne, rfl, rfl⟩ := id t1
              obtain ⟨t', u, ht', hu, hne2, e1, rfl⟩ := id t3
              have hbs := meO_b hD hL hs
              have hw := crs_w (meO_b hD hL ht) (meO_b hD hL hu)
              have hC : ∀ I J, CK p I J D e → ∃ I1 J1, den (d + 40) 155 [.ref 1, .int (nI s), .int (nI t), .int (nI u), .int x, .int y, .int z] (S sl p I J) = ev (d + 40) 155 125 [.ref 1, .int (nI s), .int (nI t), .int (nI u), .int x, .int y, .int z, .retAddr 0, .retAddr 0] [.long (vd (meO D s) (crs (meO D t) (meO D u)))] (S sl p I1 J1) ∧ CK p I1 J1 D e ∧ Fc I J I1 J1 := by
                intro I J h
                obtain ⟨I1, a1, a2, a3⟩ := C_two (d := d + 34) (sl := sl) h hL _ _ 1 (Or.inl ⟨t1, rfl⟩)
                obtain ⟨I2, b1, b2, b3⟩ := C_two (d := d + 34) (sl := sl) a2 hL _ _ 1 (Or.inl ⟨t2, rfl⟩)
                obtain ⟨I3, c1, c2, c3⟩ := C_two (d := d + 34) (sl := sl) b2 hL _ _ 1 (Or.inl ⟨t3, rfl⟩)
                obtain ⟨I4, J4, f1, f2, f3, f4, f5, -⟩ := C_measureAll (d := d + 34) (sl := sl) c2
                refine ⟨I4, setV J4 45 (crs (meO D t) (meO D u)), ?_, f2.ask _ (by omega), a3.trans (b3.trans (c3.trans (f5.trans (Fc.ask (by omega)))))⟩
                rw [gC, a1, evK_s, E155_49, if_neg (by decide), b1, evK_s, E155_58, if_neg (by decide), c1, evK_s, E155_67, if_neg (by decide), f1, evK_v, E155_84, ck_if (ixb_n (by omega) (by decide)), ck_if (ixb_n (by omega) (by decide)), cl_n (by omega), cl_n (by omega), C_cross ob_45 (ob800 (by omega)) (ob800 (by omega)), evK_v, (f4 t ht).mean, (f4 u hu).mean, E155_109, ck_if (ixb_n (by omega) (by decide)), cl_n (by omega), sp_vdot (ob800 (by omega)) ob_45, vec_setV, vec_setV_ne (by omega), (f4 s hs).mean, evK_s]
              have hM : ∀ I J, dat I = D → ∃ I1 J1, den (d + 40) 286 [.ref 46, .int (nI s), .int (nI t), .int (nI u), .int x, .int y, .int z] (S sl p I J) = ev (d + 40) 286 110 [.ref 46, .int (nI s), .int (nI t), .int (nI u), .int x, .int y, .int z, .retAddr 0, .retAddr 0] [.long (vd (meO D s) (crs (meO D t) (meO D u)))] (S sl p I1 J1) ∧ dat I1 = dat I ∧ Fm I J I1 J1 := by
                intro I J h
                obtain ⟨I1, J1, a1, a2, a3, a4, a5⟩ := gM I J h
                refine ⟨set3v I1 (crs (meO D t) (meO D u)), J1, ?_, by rw [dat_set3v]; exact a2.trans h.symm, a5.trans ⟨fun a k _ => set3v_n (by omega), fun _ _ _ => rfl⟩⟩
                have ed : vd (Int32.toInt64 (set3v I1 (crs (meO D t) (meO D u)) 64 s), Int32.toInt64 (set3v I1 (crs (meO D t) (meO D u)) 65 s), Int32.toInt64 (set3v I1 (crs (meO D t) (meO D u)) 66 s)) (Int32.toInt64 (crs (meO D t) (meO D u)).1.toInt32, Int32.toInt64 (crs (meO D t) (meO D u)).2.1.toInt32, Int32.toInt64 (crs (meO D t) (meO D u)).2.2.toInt32) = vd (meO D s) (crs (meO D t) (meO D u)) := by
                  rw [n32_64 hw.1, n32_64 hw.2.1, n32_64 hw.2.2, set3v_n (by omega), set3v_n (by omega), set3v_n (by omega), show ((I1 64 s).toInt64, (I1 65 s).toInt64, (I1 66 s).toInt64) = meO D s from a4.v hs hbs]
                rw [a1, M_two hD hL a3 _ _ 1 (Or.inl ⟨t1, rfl⟩), evK_s, E286_41, if_neg (by decide), M_two hD hL a3 _ _ 1 (Or.inl ⟨t3, rfl⟩), evK_s, E286_50, if_neg (by decide), if_neg hac, M_cross (by omega) (by omega), evK_v, a4.v ht (meO_b hD hL ht), a4.v hu (meO_b hD hL hu), E286_71, ck_if (ixb_n (by omega) (by decide)), ck_if (ixb_n (by omega) (by decide)), ck_if (ixb_n (by omega) (by decide)), cl_n (by omega), sp_dot, evK_s, set3v_r.1, set3v_r.2.1, set3v_r.2.2, ed]
              generalize vd (meO D s) (crs (meO D t) (meO D u)) = m at hC hM
              by_cases h0 : (if 0 < m then m else -m) / 1000 = 0
              · refine ⟨.long (Int32.toInt64 (-1)), 5, fun I J h => ?_, fun I J h => ?_⟩
                · obtain ⟨I1, J1, a1, a2, a3⟩ := hC I J h
                  exact QC.mk1 (I' := I1) (J' := J1) (by rw [a1, E155_125, if_pos h0, E164_0, evK_s, E155_146]) a2 a3
                · obtain ⟨I1, J1, a1, a2, a3⟩ := hM I J h
                  exact QM.mk1 (I' := I1) (J' := J1) (by rw [a1, E286_110, if_pos h0, E178_0, evK_s, E286_131]) a2 a3
              · refine ⟨.long (x.toInt64 * y.toInt64 * z.toInt64 * 1000 / ((if 0 < m then m else -m) / 1000)), 0, fun I J h => ?_, fun I J h => ?_⟩
                · obtain ⟨I1, J1, a1, a2, a3⟩ := hC I J h
                  refine QC.mk1 (I' := I1) (J' := J1) ?_ a2 a3
                  rw [a1, E155_125, if_neg h0, sp_parted, evK_s, E155_173]
                  unfold pt
                  rw [if_neg h0]
                · obtain ⟨I1, J1, a1, a2, a3⟩ := hM I J h
                  refine QM.mk1 (I' := I1) (J' := J1) ?_ a2 a3
                  rw [a1, E286_110, if_neg h0, ck_if (by simpa using h0), E180_0, evK_s, E286_157]
            · refine ⟨.long (Int32.toInt64 (-1)), 2, fun I J h => ?_, fun I J h => ?_⟩
              · obtain ⟨I1, a1, a2, a3⟩ := C_two (d := d + 34) (sl := sl) h hL _ _ 1 (Or.inl ⟨t1, rfl⟩)
                obtain ⟨I2, b1, b2, b3⟩ := C_two (d := d + 34) (sl := sl) a2 hL _ _ 1 (Or.inl ⟨t2, rfl⟩)
                obtain ⟨I3, c1, c2, c3⟩ := C_two (d := d + 34) (sl := sl) b2 hL _ _ 0 (Or.inr ⟨t3, rfl⟩)
                exact badC I J I3 J c2 (a3.trans (b3.trans c3)) (by rw [gC, a1, evK_s, E155_49, if_neg (by decide), b1, evK_s, E155_58, if_neg (by decide), c1, evK_s, E155_67, if_pos rfl])
              · obtain ⟨I1, J1, a1, a2, a3, a4, a5⟩ := gM I J h
                exact badM I J I1 J1 (a2.trans h.symm) a5 (by rw [a1, M_two hD hL a3 _ _ 1 (Or.inl ⟨t1, rfl⟩), evK_s, E286_41, if_neg (by decide), M_two hD hL a3 _ _ 0 (Or.inr ⟨t3, rfl⟩), evK_s, E286_50, if_pos rfl])
          · refine ⟨.long (Int32.toInt64 (-1)), 2, fun I J h => ?_, fun I J h => ?_⟩
            · obtain ⟨I1, a1, a2, a3⟩ := C_two (d := d + 34) (sl := sl) h hL _ _ 1 (Or.inl ⟨t1, rfl⟩)
              obtain ⟨I2, b1, b2, b3⟩ := C_two (d := d + 34) (sl := sl) a2 hL _ _ 0 (Or.inr ⟨t2, rfl⟩)
              exact badC I J I2 J b2 (a3.trans b3) (by rw [gC, a1, evK_s, E155_49, if_neg (by decide), b1, evK_s, E155_58, if_pos rfl])
            · obtain ⟨I1, J1, a1, a2, a3, a4, a5⟩ := gM I J h
              by_cases t3 : Two D b c
              · have hac : a = c := by
                  obtain ⟨s, t, hs, ht, hne, e1, e2⟩ := t1
                  obtain ⟨t', u, ht', hu, hne2, e3, e4⟩ := t3
                  by_cases z : s = u
                  · rw [e1, e4, z]
                  · exact absurd ⟨s, u, hs, hu, z, e1, e4⟩ t2
                exact badM I J I1 J1 (a2.trans h.symm) a5 (by rw [a1, M_two hD hL a3 _ _ 1 (Or.inl ⟨t1, rfl⟩), evK_s, E286_41, if_neg (by decide), M_two hD hL a3 _ _ 1 (Or.inl ⟨t3, rfl⟩), evK_s, E286_50, if_neg (by decide), if_pos hac])
              · exact badM I J I1 J1 (a2.trans h.symm) a5 (by rw [a1, M_two hD hL a3 _ _ 1 (Or.inl ⟨t1, rfl⟩), evK_s, E286_41, if_neg (by decide), M_two hD hL a3 _ _ 0 (Or.inr ⟨t3, rfl⟩), evK_s, E286_50, if_pos rfl])
        · refine ⟨.long (Int32.toInt64 (-1)), 2, fun I J h => ?_, fun I J h => ?_⟩
          · obtain ⟨I1, a1, a2, a3⟩ := C_two (d := d + 34) (sl := sl) h hL _ _ 0 (Or.inr ⟨t1, rfl⟩)
            exact badC I J I1 J a2 a3 (by rw [gC, a1, evK_s, E155_49, if_pos rfl])
          · obtain ⟨I1, J1, a1, a2, a3, a4, a5⟩ := gM I J h
            exact badM I J I1 J1 (a2.trans h.symm) a5 (by rw [a1, M_two hD hL a3 _ _ 0 (Or.inr ⟨t1, rfl⟩), evK_s, E286_41, if_pos rfl])
      · refine ⟨.long (Int32.toInt64 (-1)), 1, fun I J h => QC.mk1 (I' := I) (J' := J) ?_ h Fc.refl, fun I J h => QM.mk1 (I' := I) (J' := J) ?_ rfl Fm.refl⟩
        · rw [E155_0, sp_within, wx, evK_s, E155_9, if_neg (by decide), sp_within, wy, evK_s, E155_21, if_neg (by decide), sp_within, wz, evK_s, E155_33, if_pos rfl, E155_36, E164_0, evK_s, E155_41]
        · rw [E286_0, M_isLength, wx, evK_s, E286_5, if_neg (by decide), M_isLength, wy, evK_s, E286_13, if_neg (by decide), M_isLength, wz, evK_s, E286_21, if_pos rfl, E286_24, E178_0, evK_s, E286_29]
    · refine ⟨.long (Int32.toInt64 (-1)), 1, fun I J h => QC.mk1 (I' := I) (J' := J) ?_ h Fc.refl, fun I J h => QM.mk1 (I' := I) (J' := J) ?_ rfl Fm.refl⟩
      · rw [E155_0, sp_within, wx, evK_s, E155_9, if_neg (by decide), sp_within, wy, evK_s, E155_21, if_pos rfl, E155_36, E164_0, evK_s, E155_41]
      · rw [E286_0, M_isLength, wx, evK_s, E286_5, if_neg (by decide), M_isLength, wy, evK_s, E286_13, if_pos rfl, E286_24, E178_0, evK_s, E286_29]
  · refine ⟨.long (Int32.toInt64 (-1)), 1, fun I J h => QC.mk1 (I' := I) (J' := J) ?_ h Fc.refl, fun I J h => QM.mk1 (I' := I) (J' := J) ?_ rfl Fm.refl⟩
    · rw [E155_0, sp_within, wx, evK_s, E155_9, if_pos rfl, E155_36, E164_0, evK_s, E155_41]
    · rw [E286_0, M_isLength, wx, evK_s, E286_5, if_pos rfl, E286_24, E178_0, evK_s, E286_29]
end AG14
