section AG6
variable {d sl : Nat} {p : Nat → Nat} {I I' : Nat → Nat → Int32} {J J' : Nat → Nat → Int64} {D : Nat → Nat → Int32} {e : Nat}
theorem C_hasSet2 (h : CK p I J D e) (x : Int32) : ∃ I', den (d + 4) 100 [.ref 11, .int x] (S sl p I J) = some (some (.int (if x < 0 then 0 else if x < nI (nst D) then 1 else 0)), S sl p I' J) ∧ CK p I' J D e ∧ GrC I' J D ∧ Fc I J I' J ∧ I' 11 15 = I' 4 10 := by
  obtain ⟨I', e1, e2, e3, e4⟩ := sp_hasSet (d := d) (sl := sl) h.sv h.gc x
  exact ⟨I', e1, h.grp e4 (fun _ _ _ => rfl) e2 e3, e2, ⟨fun a k _ _ => e4 _ _ (by omega) (by omega) (by omega), fun _ _ _ _ => rfl⟩, by rw [e4 4 10 (by omega) (by omega) (by omega)]; exact e3⟩
theorem M_sumOf (hD : GD D) (h : dat I = D) (hS : SetAt I D) {s : Nat} (hs : s < nst D) : den (d + 8) 219 [.ref 46, .int (nI s)] (S sl p I J) = some (none, S sl p I (setS J (smO D s))) := by subst h; exact sp_laysSumOf hD hS hs
theorem M_seed (hD : GD D) (h : dat I = D) (hS : SetAt I D) {s : Nat} (hs : s < nst D) : den (d + 7) 213 [.ref 46, .int (nI s)] (S sl p I J) = some (some (.int (nI (sd D (nI s)))), S sl p I J) := by subst h; exact sp_seedOf hD hS hs
theorem A_set (hD : GD D) (hL : LabD D) (x w : Int32) : Agr (d + 40) sl p D e 130 244 [.int x, .int w] := by
  have n60 := hD.n60
  have h30 := nst_30 hD hL
  by_cases ha : ∃ s, s ≤ 11 ∧ w = nI s
  · obtain ⟨k, hk, rfl⟩ := ha
    have w : (if nI k < 0 then (0 : Int32) else if nI k ≤ 11 then 1 else 0) = 1 := wi_y (n := 11) hk (by decide)
    by_cases hx : ∃ i, i < nst D ∧ x = nI i
    · obtain ⟨s, hs, rfl⟩ := hx
      have hs3 : s < 30 := by omega
      have hb := meO_b hD hL hs
      have hw := bv_w hb
      have hB := smO_B hD s
      have hQ : okQ (smO D s).1 := sB_okQ n60 hB
      have key : ∀ v : Int64, (∀ I J, CK p I J D e → GrC I J D → Msd I J D s → den (d + 39) 14 [.ref (400 + s), .int (nI k)] (S sl p I J) = some (some (.long v), S sl p I J)) → (∀ I J, dat I = D → SetAt I D → MeanAt I D (nst D) → ev (d + 40) 244 46 [.ref 46, .int (nI s), .int (nI k)] [] (S sl p (set3v I (meO D s)) (setS J (smO D s))) = some (some (.long v), S sl p (up2 (set3v I (meO D s)) 46 0 0) (setS J (smO D s)))) → Agr (d + 40) sl p D e 130 244 [.int (nI s), .int (nI k)] := by
        intro v h1 h2
        refine ⟨.long v, 0, fun I J h => ?_, fun I J h => ?_⟩
        · obtain ⟨I1, a1, a2, a3, a4, a5⟩ := C_hasSet2 (d := d + 35) (sl := sl) h (nI s)
          have a6 := a2.stat 0
          have a7 : GrC (up2 I1 1 8 0) J D := a3.fr hD (fun a k _ => up_na (by omega)) (fun _ _ _ _ => rfl)
          obtain ⟨I2, J2, e1, e2, e3, e4, e5, e6⟩ := sp_measured (d := d + 35) (sl := sl) a6.sv a7 hs
          have c2 : CK p I2 J2 D e := a6.grp (fun a k _ _ _ => e5 _ _ (by omega) (by omega)) e6 e2 (by rw [e5 _ _ (by omega) (by omega), up_na (by omega), up_na (by omega)]; exact a5)
          refine ⟨I2, J2, ?_, c2, a4.trans (Fc.trans (I' := up2 I1 1 8 0) (J' := J) ⟨fun a k _ _ => up_na (by omega), fun _ _ _ _ => rfl⟩ ⟨fun a k _ _ => e5 _ _ (by omega) (by omega), fun a k _ _ => e6 _ _ (by omega)⟩), by rw [e5 _ _ (by omega) (by omega)]; exact up_s⟩
          rw [E130_0, sp_within, w, evK_s, E130_7, if_neg (by decide), a1, st_y hD hL hs, evK_s, E130_25, if_neg (by decide), e1, evK_s, E130_48 _ _ hs3, h1 I2 J2 c2 e2 (e2.ms s hs e3), evK_s, E130_52]
        · obtain ⟨I1, J1, a1, a2, a3, a4, a5⟩ := M_means (d := d + 29) (sl := sl) (p := p) (J := J) hD h
          refine QM.mk1 (I' := set3v I1 (meO D s)) (J' := setS J1 (smO D s)) ?_ (by rw [dat_set3v]; exact a2.trans h.symm) (a5.trans ⟨fun a k _ => set3v_n (by omega), fun a k _ => setS_n (by omega)⟩)
          rw [E244_0, sp_isFrom, w, evK_s, E244_7, if_neg (by decide), a1, evK_v, E244_21, sp_isSet hD a3, st_y hD hL hs, evK_s, E244_26, if_neg (by decide), M_sumOf hD a2 a3 hs, evK_v, E244_41, M_layMean hs3, evK_v, a4.v hs hb, h2 I1 J1 a2 a3 a4]
      have hS2 : ∀ {I : Nat → Nat → Int32}, SetAt I D → SetAt (set3v I (meO D s)) D := fun h => h.fr (set3v_n (by omega)) (fun k => set3v_n (by omega))
      have hd2 : ∀ {I : Nat → Nat → Int32}, dat I = D → dat (set3v I (meO D s)) = D := fun h => by rw [dat_set3v]; exact h
      have hM2 : ∀ {I : Nat → Nat → Int32}, MeanAt I D (nst D) → MeanAt (set3v I (meO D s)) D (nst D) := fun h => ⟨fun t ht => by rw [set3v_n (by omega)]; exact h.x t ht, fun t ht => by rw [set3v_n (by omega)]; exact h.y t ht, fun t ht => by rw [set3v_n (by omega)]; exact h.z t ht⟩
      have hk2 : k = 0 ∨ k = 1 ∨ k = 2 ∨ k = 3 ∨ k = 4 ∨ k = 5 ∨ k = 6 ∨ k = 7 ∨ k = 8 ∨ k = 9 ∨ k = 10 ∨ k = 11 := by omega
      rcases hk2 with rfl | rfl | rfl | rfl | rfl | rfl | rfl | rfl | rfl | rfl | rfl | rfl
      · refine key (nI (mem D (nI s))).toInt64 (fun I J h hG hM => ?_) (fun I J h hS hM => ?_)
        · rw [E14_0 _ hs3]
          repeat (first | rw [if_pos (by decide)] | rw [if_neg (by decide)])
          rw [hG.gsz s hs]
        · rw [E244_46]
          repeat (first | rw [if_pos (by decide)] | rw [if_neg (by decide)])
          rw [M_members hD (hd2 h) (hS2 hS), evK_s, E244_110, E180_0, evK_s, E244_114]
      · refine key (smO D s).2 (fun I J h hG hM => ?_) (fun I J h hS hM => ?_)
        · rw [E14_0 _ hs3]
          repeat (first | rw [if_pos (by decide)] | rw [if_neg (by decide)])
          rw [hM.mass]
        · rw [E244_46]
          repeat (first | rw [if_pos (by decide)] | rw [if_neg (by decide)])
          rw [setS_r.2.2.2, E180_0, evK_s, E244_123]
      · refine key (nI (drv (meO D s))).toInt64 (fun I J h hG hM => ?_) (fun I J h hS hM => ?_)
        · rw [E14_0 _ hs3]
          repeat (first | rw [if_pos (by decide)] | rw [if_neg (by decide)])
          rw [hM.dir]
        · rw [E244_46]
          repeat (first | rw [if_pos (by decide)] | rw [if_neg (by decide)])
          rw [sp_directionOf hw, evK_s, E244_129, E180_0, evK_s, E244_133]
      · refine key (nI (dpv (meO D s))).toInt64 (fun I J h hG hM => ?_) (fun I J h hS hM => ?_)
        · rw [E14_0 _ hs3]
          repeat (first | rw [if_pos (by decide)] | rw [if_neg (by decide)])
          rw [hM.dip]
        · rw [E244_46]
          repeat (first | rw [if_pos (by decide)] | rw [if_neg (by decide)])
          rw [sp_dipOf hw, evK_s, E244_139, E180_0, evK_s, E244_143]
      · refine key (meO D s).1 (fun I J h hG hM => ?_) (fun I J h hS hM => ?_)
        · rw [E14_0 _ hs3]
          repeat (first | rw [if_pos (by decide)] | rw [if_neg (by decide)])
          rw [E3_0 _ (ob800 hs3)]
          repeat (first | rw [if_pos (by decide)] | rw [if_neg (by decide)])
          rw [evK_s, E14_135 _ _ hs3, ← hM.mean]
          rfl
        · rw [E244_46]
          repeat (first | rw [if_pos (by decide)] | rw [if_neg (by decide)])
          rw [set3v_r.1, n32_64 hw.1, E180_0, evK_s, E244_153]
      · refine key (meO D s).2.1 (fun I J h hG hM => ?_) (fun I J h hS hM => ?_)
        · rw [E14_0 _ hs3]
          repeat (first | rw [if_pos (by decide)] | rw [if_neg (by decide)])
          rw [E3_0 _ (ob800 hs3)]
          repeat (first | rw [if_pos (by decide)] | rw [if_neg (by decide)])
          rw [evK_s, E14_135 _ _ hs3, ← hM.mean]
          rfl
        · rw [E244_46]
          repeat (first | rw [if_pos (by decide)] | rw [if_neg (by decide)])
          rw [set3v_r.2.1, n32_64 hw.2.1, E180_0, evK_s, E244_163]
      · refine key (meO D s).2.2 (fun I J h hG hM => ?_) (fun I J h hS hM => ?_)
        · rw [E14_0 _ hs3]
          repeat (first | rw [if_pos (by decide)] | rw [if_neg (by decide)])
          rw [E3_0 _ (ob800 hs3)]
          repeat (first | rw [if_pos (by decide)] | rw [if_neg (by decide)])
          rw [evK_s, E14_135 _ _ hs3, ← hM.mean]
          rfl
        · rw [E244_46]
          repeat (first | rw [if_pos (by decide)] | rw [if_neg (by decide)])
          rw [set3v_r.2.2, n32_64 hw.2.2, E180_0, evK_s, E244_173]
      · refine key (lgO (smO D s)) (fun I J h hG hM => ?_) (fun I J h hS hM => ?_)
        · rw [E14_0 _ hs3]
          repeat (first | rw [if_pos (by decide)] | rw [if_neg (by decide)])
          rw [sp_reach (ob500 hs3) (ob600 hs3) (rfS hs3) (by rw [hM.sum]; exact hQ), evK_s, E14_97 _ _ hs3, hM.sum, hM.mass]
        · rw [E244_46]
          repeat (first | rw [if_pos (by decide)] | rw [if_neg (by decide)])
          rw [sp_longOf hQ, evK_s, E244_179, E180_0, evK_s, E244_182]
      · refine key (tgO (smO D s)).toInt64 (fun I J h hG hM => ?_) (fun I J h hS hM => ?_)
        · rw [E14_0 _ hs3]
          repeat (first | rw [if_pos (by decide)] | rw [if_neg (by decide)])
          rw [sp_tightness (ob500 hs3) (ob600 hs3) (rfS hs3) (by rw [hM.sum]; exact hQ) (by rw [hM.mass]; have h1 := hB.1; have h2 := hB.2.1; omega), evK_s, E14_105 _ _ hs3, hM.sum, hM.mass]
        · rw [E244_46]
          repeat (first | rw [if_pos (by decide)] | rw [if_neg (by decide)])
          rw [sp_tightM hQ, evK_s, E244_188, E180_0, evK_s, E244_192]
      · refine key (nI (coO D s)).toInt64 (fun I J h hG hM => ?_) (fun I J h hS hM => ?_)
        · rw [E14_0 _ hs3]
          repeat (first | rw [if_pos (by decide)] | rw [if_neg (by decide)])
          rw [hM.cone]
        · rw [E244_46]
          repeat (first | rw [if_pos (by decide)] | rw [if_neg (by decide)])
          rw [M_cone hD (hd2 h) (hS2 hS) (hM2 hM) hs, evK_s, E244_199, E180_0, evK_s, E244_203]
      · refine key (nI (hfO D s)).toInt64 (fun I J h hG hM => ?_) (fun I J h hS hM => ?_)
        · rw [E14_0 _ hs3]
          repeat (first | rw [if_pos (by decide)] | rw [if_neg (by decide)])
          rw [hM.half]
        · rw [E244_46]
          repeat (first | rw [if_pos (by decide)] | rw [if_neg (by decide)])
          rw [M_half hD (hd2 h) (hS2 hS) (hM2 hM) hs, evK_s, E244_210, E180_0, evK_s, E244_214, setS_2]
      · refine key (lv D (sd D (nI s))).toInt64 (fun I J h hG hM => ?_) (fun I J h hS hM => ?_)
        · rw [E14_0 _ hs3]
          repeat (first | rw [if_pos (by decide)] | rw [if_neg (by decide)])
          rw [hM.seed]
        · rw [E244_46]
          repeat (first | rw [if_pos (by decide)] | rw [if_neg (by decide)])
          rw [M_seed hD (hd2 h) (hS2 hS) hs, evK_s, E244_222, M_lie hD (hd2 h) (sd_of hD hL hs).2.1, evK_s, E244_225, E180_0, evK_s, E244_229]
    · refine ⟨.long (Int32.toInt64 (-1)), 2, fun I J h => ?_, fun I J h => ?_⟩
      · obtain ⟨I', e1, e2, e3, e4⟩ := C_hasSet (d := d + 35) (sl := sl) h x
        refine QC.mk1 (I' := I') (J' := J) ?_ e2 e4
        rw [E130_0, sp_within, w, evK_s, E130_7, if_neg (by decide), e1, st_n hD hL hx, evK_s, E130_25, if_pos rfl, E164_0, evK_s, E130_33]
      · obtain ⟨I1, J1, a1, a2, a3, a4, a5⟩ := M_means (d := d + 29) (sl := sl) (p := p) (J := J) hD h
        refine QM.mk1 (I' := I1) (J' := J1) ?_ (a2.trans h.symm) a5
        rw [E244_0, sp_isFrom, w, evK_s, E244_7, if_neg (by decide), a1, evK_v, E244_21, sp_isSet hD a3, st_n hD hL hx, evK_s, E244_26, if_pos rfl, E178_0, evK_s, E244_34]
  · have w : (if w < 0 then (0 : Int32) else if w ≤ 11 then 1 else 0) = 0 := wi_n (n := 11) (by decide) ha
    refine ⟨.long (Int32.toInt64 (-1)), 1, fun I J h => QC.mk1 (I' := I) (J' := J) ?_ h Fc.refl, fun I J h => QM.mk1 (I' := I) (J' := J) ?_ rfl Fm.refl⟩
    · simp only [E130_0, E130_7, E130_15, E130_25, E130_33, E130_48, E130_52, w, evK_s, evK_v, E163_0, E164_0, E178_0, E179_0, E180_0, sp_within, sp_isFrom, n10, eq_self, if_true, if_false]
    · simp only [E244_0, E244_7, E244_15, E244_21, E244_26, E244_34, E244_41, E244_46, E244_110, E244_114, E244_123, E244_129, E244_133, E244_139, E244_143, E244_153, E244_163, E244_173, E244_179, E244_182, E244_188, E244_192, E244_199, E244_203, E244_210, E244_214, E244_222, E244_225, E244_229, w, evK_s, evK_v, E163_0, E164_0, E178_0, E179_0, E180_0, sp_within, sp_isFrom, n10, eq_self, if_true, if_false]
end AG6
