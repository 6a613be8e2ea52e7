section AG5
variable {d sl : Nat} {p : Nat → Nat} {I I' : Nat → Nat → Int32} {J J' : Nat → Nat → Int64} {D : Nat → Nat → Int32} {e : Nat}
theorem C_angM (h : SV p I J D) (hL : LabD D) (hM : ∀ s, s < nst D → Msd I J D s) {s t : Nat} (hs : s < nst D) (ht : t < nst D) : den (d + 2) 110 [.ref 11, .int (nI s), .int (nI t)] (S sl p I J) = some (some (.int (nI (va2 (meO D s) (meO D t)))), S sl p I J) := by
  have n60 := h.gd.n60
  have h30 := nst_30 h.gd hL
  rw [E110_0, ck_if (ixb_n (by omega) (by decide)), ck_if (ixb_n (by omega) (by decide)), cl_n (by omega), cl_n (by omega), sp_angleOfC (ob800 (by omega)) (ob800 (by omega)) h.sn (by rw [(hM s hs).mean]; exact meO_b h.gd hL hs) (by rw [(hM t ht).mean]; exact meO_b h.gd hL ht), evK_s, E110_19, (hM s hs).mean, (hM t ht).mean]
theorem M_angM (hD : GD D) (hL : LabD D) (hM : MeanAt I D (nst D)) {s t : Nat} (hs : s < nst D) (ht : t < nst D) : den (d + 6) 248 [.ref 46, .int (nI s), .int (nI t)] (S sl p I J) = some (some (.int (nI (va2 (meO D s) (meO D t)))), S sl p I J) := by
  have n60 := hD.n60
  have h30 := nst_30 hD hL
  have b1 := meO_b hD hL hs
  have b2 := meO_b hD hL ht
  have e1 := hM.v hs b1
  have e2 := hM.v ht b2
  have key : den (d + 6) 248 [.ref 46, .int (nI s), .int (nI t)] (S sl p I J) = some (some (.int (nI (va2 (mvI I s) (mvI I t)))), S sl p I J) := by
    rw [E248_0]
    simp only [ixb_n (show s < 30 by omega) (by decide), ixb_n (show t < 30 by omega) (by decide), ck_t, sp_dot, evK_s, E248_45, E248_50, E248_55, cl_n (show s < 2 ^ 31 by omega), cl_n (show t < 2 ^ 31 by omega), sp_squareOfMean (show s < 30 by omega), sp_squareOfMean (show t < 30 by omega)]
    have := sp_angleOfM (d := d) (sl := sl) (p := p) (I := I) (J := J) (dt := vd (mvI I s) (mvI I t)) (sq := vq (mvI I s) * vq (mvI I t)) (dd_nn (okN_v (a := mvI I s) (b := mvI I t) (by rw [e1]; exact b1) (by rw [e2]; exact b2)))
    unfold mvI at this ⊢
    rw [this, evK_s, E248_59]
    rfl
  rw [key, e1, e2]
theorem M_cone (hD : GD D) (h : dat I = D) (hS : SetAt I D) (hM : MeanAt I D (nst D)) {s : Nat} (hs : s < nst D) : den (d + 7) 233 [.ref 46, .int (nI s)] (S sl p I J) = some (some (.int (nI (coO D s))), S sl p I J) := by subst h; exact sp_coneOf hD hS hM hs
theorem M_half (hD : GD D) (h : dat I = D) (hS : SetAt I D) (hM : MeanAt I D (nst D)) {s : Nat} (hs : s < nst D) : den (d + 9) 234 [.ref 46, .int (nI s)] (S sl p I J) = some (some (.int (nI (hfO D s))), S sl p I (setS J (smO D s))) := by subst h; exact sp_halfOf hD hS hM hs
theorem M_nearMean (hD : GD D) (h : dat I = D) (hL : LabD D) (hM : MeanAt I D (nst D)) {k s a : Nat} (hk : k < nc D) (hs : s < nst D) (ha : a ≤ 90) : den (d + 5) 232 [.ref 46, .int (nI k), .int (nI s), .int (nI a)] (S sl p I J) = some (some (.int (if an2 D s k ≤ a then 1 else 0)), S sl p I J) := by
  have n60 := hD.n60
  have h30 := nst_30 hD hL
  have b1 := meO_b hD hL hs
  have e1 := hM.v hs b1
  subst h
  rw [sp_isNearMean (by omega) (by omega) ha (hD.bp hk) (by rw [e1]; exact b1), e1]
  rfl
theorem M_angMean (hD : GD D) (h : dat I = D) {k s : Nat} (hk : k < nc D) (hs : s < 30) (hb : bv (mvI I s)) : den (d + 6) 231 [.ref 46, .int (nI k), .int (nI s)] (S sl p I J) = some (some (.int (nI (va2 (pv D k) (mvI I s)))), S sl p I J) := by
  have n60 := hD.n60
  subst h
  exact sp_angleToMean (by omega) hs (hD.bp hk) hb
theorem M_layMean {s : Nat} (hs : s < 30) : den d 222 [.ref 46, .int (nI s)] (S sl p I J) = some (none, S sl p (set3v I (mvI I s)) J) := by
  rw [E222_0, ck_if (ixb_n hs (by decide)), ck_if (ixb_n hs (by decide)), ck_if (ixb_n hs (by decide)), cl_n (by omega), up_na (a' := 65) (by omega), up_na (a' := 66) (by omega), up_na (a' := 66) (by omega)]
  unfold set3v mvI set3
  simp only [i64_i32]
theorem A_apart (hD : GD D) (hL : LabD D) (x y : Int32) : Agr (d + 40) sl p D e 133 249 [.int x, .int y] := by
  by_cases hT : Two D x y
  · obtain ⟨s, t, hs, ht, hne, rfl, rfl⟩ := id hT
    refine ⟨.int (nI (va2 (meO D s) (meO D t))), 0, fun I J h => ?_, fun I J h => ?_⟩
    · obtain ⟨I1, a1, a2, a3⟩ := C_two (d := d + 34) (sl := sl) h hL _ _ 1 (Or.inl ⟨hT, rfl⟩)
      obtain ⟨I2, J2, b1, b2, b3, b4, b5, -⟩ := C_measureAll (d := d + 34) (sl := sl) a2
      refine QC.mk1 (I' := I2) (J' := J2) ?_ b2 (a3.trans b5)
      rw [E133_0, a1, evK_s, E133_6, if_neg (by decide), b1, evK_v, E133_22, C_angM b2.sv hL b4 hs ht, evK_s, E133_32, E163_0, evK_s, E133_35]
    · obtain ⟨I1, J1, a1, a2, a3, a4, a5⟩ := M_means (d := d + 29) (sl := sl) (p := p) (J := J) hD h
      refine QM.mk1 (I' := I1) (J' := J1) ?_ (a2.trans h.symm) a5
      rw [E249_0, a1, evK_v, E249_4, M_two hD hL a3 _ _ 1 (Or.inl ⟨hT, rfl⟩), evK_s, E249_10, if_neg (by decide), M_angM hD hL a4 hs ht, evK_s, E249_20, E179_0, evK_s, E249_23]
  · refine ⟨.int (-1), 2, fun I J h => ?_, fun I J h => ?_⟩
    · obtain ⟨I1, a1, a2, a3⟩ := C_two (d := d + 34) (sl := sl) h hL _ _ 0 (Or.inr ⟨hT, rfl⟩)
      refine QC.mk1 (I' := I1) (J' := J) ?_ a2 a3
      rw [E133_0, a1, evK_s, E133_6, if_pos rfl, E164_0, evK_s, E133_14]
    · obtain ⟨I1, J1, a1, a2, a3, a4, a5⟩ := M_means (d := d + 29) (sl := sl) (p := p) (J := J) hD h
      refine QM.mk1 (I' := I1) (J' := J1) ?_ (a2.trans h.symm) a5
      rw [E249_0, a1, evK_v, E249_4, M_two hD hL a3 _ _ 0 (Or.inr ⟨hT, rfl⟩), evK_s, E249_10, if_pos rfl, E178_0, evK_s, E249_31]
theorem C_inCone (h : SV p I J D) (hG : GrC I J D) (hM : ∀ s, s < nst D → Msd I J D s) {t : Nat} (s : Int32) (ht : t < nst D) : den (d + 2) 112 [.ref 11, .int s, .int (nI t)] (S sl p I J) = some (some (.int (nI (cnt (fun k => decide (stn D k = s) && decide (an2 D t k ≤ coO D t)) (nc D)))), S sl p I J) := by
  have n60 := h.gd.n60
  have h30 := nst_30 h.gd hG.lab
  have c90 := coO_90 h.gd hG.lab ht
  have ht3 : t < 30 := by omega
  rw [E112_0, ck_if (ixb_n ht3 (by decide)), cl_n (by omega), for_cnt (fun j x => ev (d + 2) 112 13 [.ref 11, .int s, .int (nI t), .ref (400 + t), .int x, .int j] [] (S sl p I J)) (fun k => decide (stn D k = s) && decide (an2 D t k ≤ coO D t)) (nc D)
    (by
      intro j x hj
      have hp := h.p60 j
      rw [E112_13 _ _ _ _ h.p60 ht3, h.count, if_pos (lt_n hj (by omega)), ck_if (ixb_n (by omega) (by decide)), cl_n (by omega), hG.pl j hj, nI_1]
      by_cases q : stn D j = s
      · rw [if_pos q, ck_if (ixb_n (by omega) (by decide)), (hM t ht).cone, sp_areNearC (obP hp) (ob800 ht3) c90 h.sn (by rw [h.pole j hj]; exact h.gd.bp hj) (by rw [(hM t ht).mean]; exact meO_b h.gd hG.lab ht), evK_s, E112_64 _ _ _ _ _ ht3, h.pole j hj, (hM t ht).mean, show va2 (pv D j) (meO D t) = an2 D t j from rfl, nI_1]
        by_cases r : an2 D t j ≤ coO D t
        · rw [if_pos r, if_neg (by decide), if_pos (by simp [q, r])]
        · rw [if_neg r, if_pos rfl, if_neg (by simp [r])]
      · rw [if_neg q, if_neg (by simp [q])]), E112_13 _ _ _ _ h.p60 ht3, h.count, if_neg (nlt_n (by omega))]
theorem A_overlap (hD : GD D) (hL : LabD D) (x y w : Int32) : Agr (d + 40) sl p D e 135 251 [.int x, .int y, .int w] := by
  have n60 := hD.n60
  have h30 := nst_30 hD hL
  by_cases ha : ∃ s, s ≤ 1 ∧ w = nI s
  · obtain ⟨k, hk, rfl⟩ := ha
    have w : (if nI k < 0 then (0 : Int32) else if nI k ≤ 1 then 1 else 0) = 1 := wi_y (n := 1) hk (by decide)
    by_cases hT : Two D x y
    · obtain ⟨s, t, hs, ht, hne, rfl, rfl⟩ := id hT
      have c1 := coO_90 hD hL hs
      have c2 := coO_90 hD hL ht
      have c3 := va2_le (meO_b hD hL hs) (meO_b hD hL ht)
      have key : ∀ v : Int32, (∀ I J, CK p I J D e → GrC I J D → (∀ s, s < nst D → Msd I J D s) → ev (d + 40) 135 37 [.ref 1, .int (nI s), .int (nI t), .int (nI k)] [] (S sl p I J) = some (some (.int v), S sl p (up2 I 1 8 0) J)) → (∀ I J, dat I = D → SetAt I D → MeanAt I D (nst D) → ev (d + 40) 251 25 [.ref 46, .int (nI s), .int (nI t), .int (nI k), .retAddr 0, .retAddr 0, .retAddr 0] [.int 1] (S sl p I J) = some (some (.int v), S sl p (up2 I 46 0 0) J)) → Agr (d + 40) sl p D e 135 251 [.int (nI s), .int (nI t), .int (nI k)] := by
        intro v h1 h2
        refine ⟨.int v, 0, fun I J h => ?_, fun I J h => ?_⟩
        · obtain ⟨I1, a1, a2, a3⟩ := C_two (d := d + 34) (sl := sl) h hL _ _ 1 (Or.inl ⟨hT, rfl⟩)
          obtain ⟨I2, J2, b1, b2, b3, b4, b5, -⟩ := C_measureAll (d := d + 34) (sl := sl) a2
          refine QC.mk1 (I' := I2) (J' := J2) ?_ b2 (a3.trans b5)
          rw [E135_0, sp_within, w, evK_s, E135_6, if_neg (by decide), a1, evK_s, E135_21, if_neg (by decide), b1, evK_v, h1 I2 J2 b2 b3 b4]
        · obtain ⟨I1, J1, a1, a2, a3, a4, a5⟩ := M_means (d := d + 29) (sl := sl) (p := p) (J := J) hD h
          refine QM.mk1 (I' := I1) (J' := J1) ?_ (a2.trans h.symm) a5
          rw [E251_0, sp_isFrom, w, evK_s, E251_6, if_neg (by decide), a1, evK_v, E251_19, M_two hD hL a3 _ _ 1 (Or.inl ⟨hT, rfl⟩), evK_s, h2 I1 J1 a2 a3 a4]
      have hk2 : k = 0 ∨ k = 1 := by omega
      rcases hk2 with rfl | rfl
      · refine key (if va2 (meO D s) (meO D t) ≤ coO D s + coO D t then 1 else 0) (fun I J h hG hM => ?_) (fun I J h hS hM => ?_)
        · rw [E135_37, if_neg (by decide), E111_0, C_angM h.sv hL hM hs ht, evK_s, E111_6, ck_if (ixb_n (by omega) (by decide)), ck_if (ixb_n (by omega) (by decide)), cl_n (by omega), cl_n (by omega), (hM s hs).cone, (hM t ht).cone, nI_add]
          by_cases q : va2 (meO D s) (meO D t) ≤ coO D s + coO D t
          · rw [if_pos ((nI_le_iff (by omega) (by omega)).mpr q), evK_s, E135_66, if_neg (by decide), E135_74, E163_0, evK_s, E135_77, if_pos q]
          · rw [if_neg (fun w => q ((nI_le_iff (by omega) (by omega)).mp w)), evK_s, E135_66, if_pos rfl, E135_74, E163_0, evK_s, E135_77, if_neg q]
        · rw [E251_25, if_neg (by decide), if_pos (by decide), M_angM hD hL hM hs ht, evK_s, E251_45, M_cone hD h hS hM hs, evK_s, E251_50, M_cone hD h hS hM ht, evK_s, E251_55, nI_add]
          by_cases q : va2 (meO D s) (meO D t) ≤ coO D s + coO D t
          · rw [if_pos ((nI_le_iff (by omega) (by omega)).mpr q), E251_64, E179_0, evK_s, E251_67, if_pos q]
          · rw [if_neg (fun w => q ((nI_le_iff (by omega) (by omega)).mp w)), E251_64, E179_0, evK_s, E251_67, if_neg q]
      · refine key (nI (cnt (fun k => decide (stn D k = nI s) && decide (an2 D t k ≤ coO D t)) (nc D))) (fun I J h hG hM => ?_) (fun I J h hS hM => ?_)
        · rw [E135_37, if_pos (by decide), C_inCone h.sv hG hM _ ht, evK_s, E135_52, E163_0, evK_s, E135_55]
        · rw [E251_25, if_neg (by decide), if_neg (by decide), M_cone hD h hS hM ht, evK_s, E251_73, for_cnt (fun j x => ev (d + 40) 251 81 [.ref 46, .int (nI s), .int (nI t), .int (nI 1), .int (nI (coO D t)), .int x, .int j] [] (S sl p I J)) (fun k => decide (stn D k = nI s) && decide (an2 D t k ≤ coO D t)) (nc D) (by
            intro j x hj
            rw [E251_81, d2 hD h, if_pos (lt_n hj (by omega)), ck_if (ixb_n (by omega) (by decide)), cl_n (by omega), hS.e61 j hj]
            by_cases q : stn D j = nI s
            · rw [if_pos q, M_nearMean hD h hL hM hj ht c2, evK_s, E251_112, nI_1]
              by_cases r : an2 D t j ≤ coO D t
              · rw [if_pos r, if_neg (by decide), if_pos (by simp [q, r])]
              · rw [if_neg r, if_pos rfl, if_neg (by simp [r]), Int32.add_zero]
            · rw [if_neg q, if_neg (by simp [q]), nI_1, Int32.add_zero]), E251_81, d2 hD h, if_neg (nlt_n (by omega)), E179_0, evK_s, E251_135]
    · refine ⟨.int (-1), 2, fun I J h => ?_, fun I J h => ?_⟩
      · obtain ⟨I1, a1, a2, a3⟩ := C_two (d := d + 34) (sl := sl) h hL _ _ 0 (Or.inr ⟨hT, rfl⟩)
        refine QC.mk1 (I' := I1) (J' := J) ?_ a2 a3
        rw [E135_0, sp_within, w, evK_s, E135_6, if_neg (by decide), a1, evK_s, E135_21, if_pos rfl, E164_0, evK_s, E135_29]
      · obtain ⟨I1, J1, a1, a2, a3, a4, a5⟩ := M_means (d := d + 29) (sl := sl) (p := p) (J := J) hD h
        refine QM.mk1 (I' := I1) (J' := J1) ?_ (a2.trans h.symm) a5
        rw [E251_0, sp_isFrom, w, evK_s, E251_6, if_neg (by decide), a1, evK_v, E251_19, M_two hD hL a3 _ _ 0 (Or.inr ⟨hT, rfl⟩), evK_s, E251_25, if_pos rfl, E178_0, evK_s, E251_33]
  · have w : (if w < 0 then (0 : Int32) else if w ≤ 1 then 1 else 0) = 0 := wi_n (n := 1) (by decide) ha
    refine ⟨.int (-1), 1, fun I J h => QC.mk1 (I' := I) (J' := J) ?_ h Fc.refl, fun I J h => QM.mk1 (I' := I) (J' := J) ?_ rfl Fm.refl⟩
    · simp only [E135_0, E135_6, E135_14, E135_21, E135_29, E135_37, E135_52, E135_55, E135_66, E135_74, E135_77, w, evK_s, evK_v, E163_0, E164_0, E178_0, E179_0, E180_0, sp_within, sp_isFrom, n10, eq_self, if_true, if_false]
    · simp only [E251_0, E251_6, E251_14, E251_19, E251_25, E251_33, E251_45, E251_50, E251_55, E251_64, E251_67, E251_73, E251_112, E251_135, w, evK_s, evK_v, E163_0, E164_0, E178_0, E179_0, E180_0, sp_within, sp_isFrom, n10, eq_self, if_true, if_false]
end AG5
