section SLP
variable {d sl : Nat} {p : Nat → Nat} {I I' : Nat → Nat → Int32} {J J' : Nat → Nat → Int64} {D D' : Nat → Nat → Int32} {e : Nat}
theorem A_slope (hD : GD D) (hL : LabD D) (x y f g : Int32) : Upd (d + 40) sl p D e 124 206 [.int x, .int y, .int f, .int g] := by
  have n60 := hD.n60
  have h30 := nst_30 hD hL
  by_cases hx : ∃ s, s ≤ 359 ∧ x = nI s
  · obtain ⟨a, a2, rfl⟩ := hx
    have w1 : (if nI a < 0 then (0 : Int32) else if nI a ≤ 359 then 1 else 0) = 1 := wi_y (n := 359) a2 (by decide)
    by_cases hy : ∃ s, 1 ≤ s ∧ s ≤ 90 ∧ y = nI s
    · obtain ⟨b, b1, b2, rfl⟩ := hy
      have w2 : (if nI b < 1 then (0 : Int32) else if nI b ≤ 90 then 1 else 0) = 1 := wj_y (a := 1) (n := 90) b1 b2 (by decide)
      by_cases hf : ∃ s, s ≤ 89 ∧ f = nI s
      · obtain ⟨c, c2, rfl⟩ := hf
        have w3 : (if nI c < 0 then (0 : Int32) else if nI c ≤ 89 then 1 else 0) = 1 := wi_y (n := 89) c2 (by decide)
        by_cases hg : ∃ s, s ≤ 45 ∧ g = nI s
        · obtain ⟨t, t2, rfl⟩ := hg
          have w4 : (if nI t < 0 then (0 : Int32) else if nI t ≤ 45 then 1 else 0) = 1 := wi_y (n := 45) t2 (by decide)
          obtain ⟨F, hF⟩ : ∃ F, F = up2 (up2 (up2 (up2 D 46 6 (nI a)) 46 7 (nI b)) 46 8 (nI c)) 46 9 (nI t) := ⟨_, rfl⟩
          have f6 : F 46 6 = nI a := by rw [hF, up_nk (by omega), up_nk (by omega), up_nk (by omega), up_s]
          have f7 : F 46 7 = nI b := by rw [hF, up_nk (by omega), up_nk (by omega), up_s]
          have f8 : F 46 8 = nI c := by rw [hF, up_nk (by omega), up_s]
          have f9 : F 46 9 = nI t := by rw [hF, up_s]
          have fo : ∀ c k, ¬ (c = 46 ∧ 6 ≤ k ∧ k < 10) → F c k = D c k := fun c k w => by rw [hF, up_n (by omega), up_n (by omega), up_n (by omega), up_n (by omega)]
          have gF : GD F := hD.dat (fun c k _ _ => fo _ _ (by omega)) (fo _ _ (by omega)) (fo _ _ (by omega)) ⟨lk D, hD.k1, hD.k45, by rw [fo _ _ (by omega)]; exact hD.ek⟩ ⟨lst D, hD.s2, hD.s20, by rw [fo _ _ (by omega)]; exact hD.es⟩ ⟨cp D, hD.c1, hD.c20, by rw [fo _ _ (by omega)]; exact hD.ec⟩ ⟨a, by omega, f6⟩ ⟨b, b1, b2, f7⟩ ⟨c, c2, f8⟩ ⟨t, t2, f9⟩
          have sm : Sim D F := ⟨fun k _ _ => fo _ _ (by omega), fun c k _ _ => fo _ _ (by omega), fun i _ => by unfold wt pv av; rw [fo _ _ (by omega), fo _ _ (by omega), fo _ _ (by omega), fo _ _ (by omega), fo _ _ (by omega), fo _ _ (by omega), fo _ _ (by omega), fo _ _ (by omega)]⟩
          have hLF : LabD F := sm.t_lab hL
          have hnF : nst F ≤ 30 := by rw [sm.t_nst]; omega
          refine ⟨.int (nI (cnt (slB F a b) (nst F))), 0, p, F, e, by omega, fun I J h => ?_, fun I J h => ?_⟩
          · have q5 : up2 (up2 (up2 (up2 I 34 5 (nI a)) 34 6 (nI b)) 34 7 (nI c)) 34 8 (nI t) 34 5 = nI a := by rw [up_nk (by omega), up_nk (by omega), up_nk (by omega), up_s]
            have q6 : up2 (up2 (up2 (up2 I 34 5 (nI a)) 34 6 (nI b)) 34 7 (nI c)) 34 8 (nI t) 34 6 = nI b := by rw [up_nk (by omega), up_nk (by omega), up_s]
            have q7 : up2 (up2 (up2 (up2 I 34 5 (nI a)) 34 6 (nI b)) 34 7 (nI c)) 34 8 (nI t) 34 7 = nI c := by rw [up_nk (by omega), up_s]
            have q8 : up2 (up2 (up2 (up2 I 34 5 (nI a)) 34 6 (nI b)) 34 7 (nI c)) 34 8 (nI t) 34 8 = nI t := up_s
            have qo : ∀ c' k, ¬ (c' = 34 ∧ 5 ≤ k ∧ k < 9) → up2 (up2 (up2 (up2 I 34 5 (nI a)) 34 6 (nI b)) 34 7 (nI c)) 34 8 (nI t) c' k = I c' k := fun c' k w => by rw [up_n (by omega), up_n (by omega), up_n (by omega), up_n (by omega)]
            have eC : den (d + 40) 124 [.ref 1, .int (nI a), .int (nI b), .int (nI c), .int (nI t)] (S sl p I J) = ev (d + 40) 124 66 [.ref 1, .int (nI a), .int (nI b), .int (nI c), .int (nI t)] [] (S sl p (up2 (up2 (up2 (up2 I 34 5 (nI a)) 34 6 (nI b)) 34 7 (nI c)) 34 8 (nI t)) J) := by
              rw [E124_0, sp_within, w1, evK_s, E124_8, if_neg (by decide), sp_within, w2, evK_s, E124_18, if_neg (by decide), sp_within, w3, evK_s, E124_34, if_neg (by decide), sp_within, w4, evK_s, E124_45, if_neg (by decide), E47_0, evK_v]
            generalize up2 (up2 (up2 (up2 I 34 5 (nI a)) 34 6 (nI b)) 34 7 (nI c)) 34 8 (nI t) = I1 at q5 q6 q7 q8 qo eC
            have c1 : CK p I1 J F e := h.sim sm (fun a k _ w => qo a k w) (fun _ _ _ => rfl) (qo _ _ (by omega)) (h.sv.dat gF (fun c k _ _ => fo _ _ (by omega)) (fo _ _ (by omega)) (fo _ _ (by omega)) (fo _ _ (by omega)) (fun c k _ _ _ => qo _ _ (by omega)) (fun c k _ _ => qo _ _ (by omega)) (by rw [qo _ _ (by omega), sm.t_lk]; exact h.sv.link) (by rw [qo _ _ (by omega), sm.t_lst]; exact h.sv.least)) (fun k hk => by
              have hk4 : k = 0 ∨ k = 1 ∨ k = 2 ∨ k = 3 := by omega
              rcases hk4 with rfl | rfl | rfl | rfl
              · exact q5.trans f6.symm
              · exact q6.trans f7.symm
              · exact q7.trans f8.symm
              · exact q8.trans f9.symm)
            obtain ⟨I2, J2, r1, r2, r3, r4, r5, -⟩ := C_measureAll (d := d + 34) (sl := sl) c1
            have fr : Fc I J I1 J := ⟨fun a k _ _ => qo _ _ (by omega), fun _ _ _ _ => rfl⟩
            refine QC.mk1 (I' := I2) (J' := J2) ?_ r2 (fr.trans r5)
            rw [eC, E124_66, r1, evK_v, E124_73, C_sliding r2 r3 r4, evK_s, E124_83, C_bits hnF, evK_s, E124_86, E163_0, evK_s, E124_89]
          · have hd : dat (up2 (up2 (up2 (up2 I 46 6 (nI a)) 46 7 (nI b)) 46 8 (nI c)) 46 9 (nI t)) = F := by rw [dat_upD (by unfold isD; omega), dat_upD (by unfold isD; omega), dat_upD (by unfold isD; omega), dat_upD (by unfold isD; omega), h, hF]
            have fr : Fm I J (up2 (up2 (up2 (up2 I 46 6 (nI a)) 46 7 (nI b)) 46 8 (nI c)) 46 9 (nI t)) J := ⟨fun c' k _ => by rw [up_na (by omega), up_na (by omega), up_na (by omega), up_na (by omega)], fun _ _ _ => rfl⟩
            have eM : den (d + 40) 206 [.ref 46, .int (nI a), .int (nI b), .int (nI c), .int (nI t)] (S sl p I J) = evK (d + 40) 206 73 [.ref 46, .int (nI a), .int (nI b), .int (nI c), .int (nI t)] [] (den (d + 39) 210 [.ref 46] (S sl p (up2 (up2 (up2 (up2 I 46 6 (nI a)) 46 7 (nI b)) 46 8 (nI c)) 46 9 (nI t)) J)) := by
              rw [E206_0, sp_isFrom, w1, evK_s, E206_8, if_neg (by decide), sp_isFrom, w2, evK_s, E206_18, if_neg (by decide), sp_isFrom, w3, evK_s, E206_28, if_neg (by decide), sp_isFrom, w4, evK_s, E206_39, if_neg (by decide)]
            generalize up2 (up2 (up2 (up2 I 46 6 (nI a)) 46 7 (nI b)) 46 8 (nI c)) 46 9 (nI t) = I1 at hd fr eM
            obtain ⟨I2, r1, r2, r3, r4⟩ := M_sets (d := d + 32) (sl := sl) (p := p) (J := J) gF hd
            obtain ⟨I3, J3, s1, s2, s3, s4⟩ := M_lies (d := d + 27) (sl := sl) (p := p) (J := J) gF hLF r2
            have g6 : I3 46 6 = nI a := by rw [d6 s2 (by omega)]; exact f6
            have g7 : I3 46 7 = nI b := by rw [d6 s2 (by omega)]; exact f7
            refine ⟨up2 I3 46 0 0, J3, ?_, by rw [dat_up (by unfold isD; omega)]; exact s2, fr.trans (r4.trans (s4.trans ⟨fun a k _ => up_na (by omega), fun _ _ _ => rfl⟩)), up_s⟩
            rw [eM, r1, evK_v, E206_73, E293_0, s1, evK_v, E293_4, g6, g7, M_slidingBy gF hLF s2 s3 (by omega), evK_s, E293_16, evK_s, E206_78, M_bits hnF, evK_s, E206_81, E179_0, evK_s, E206_84]
        · have w4 : (if g < 0 then (0 : Int32) else if g ≤ 45 then 1 else 0) = 0 := wi_n (n := 45) (by decide) hg
          refine Agr.upd ?_
          refine ⟨.int (-1), 1, fun I J h => QC.mk1 (I' := I) (J' := J) ?_ h Fc.refl, fun I J h => QM.mk1 (I' := I) (J' := J) ?_ rfl Fm.refl⟩
          · rw [E124_0, sp_within, w1, evK_s, E124_8, if_neg (by decide), sp_within, w2, evK_s, E124_18, if_neg (by decide), sp_within, w3, evK_s, E124_34, if_neg (by decide), sp_within, w4, evK_s, E124_45, if_pos rfl, E124_48, E164_0, evK_s, E124_53]
          · rw [E206_0, sp_isFrom, w1, evK_s, E206_8, if_neg (by decide), sp_isFrom, w2, evK_s, E206_18, if_neg (by decide), sp_isFrom, w3, evK_s, E206_28, if_neg (by decide), sp_isFrom, w4, evK_s, E206_39, if_pos rfl, E206_42, E178_0, evK_s, E206_47]
      · have w3 : (if f < 0 then (0 : Int32) else if f ≤ 89 then 1 else 0) = 0 := wi_n (n := 89) (by decide) hf
        refine Agr.upd ?_
        refine ⟨.int (-1), 1, fun I J h => QC.mk1 (I' := I) (J' := J) ?_ h Fc.refl, fun I J h => QM.mk1 (I' := I) (J' := J) ?_ rfl Fm.refl⟩
        · rw [E124_0, sp_within, w1, evK_s, E124_8, if_neg (by decide), sp_within, w2, evK_s, E124_18, if_neg (by decide), sp_within, w3, evK_s, E124_34, if_pos rfl, E124_48, E164_0, evK_s, E124_53]
        · rw [E206_0, sp_isFrom, w1, evK_s, E206_8, if_neg (by decide), sp_isFrom, w2, evK_s, E206_18, if_neg (by decide), sp_isFrom, w3, evK_s, E206_28, if_pos rfl, E206_42, E178_0, evK_s, E206_47]
    · have w2 : (if y < 1 then (0 : Int32) else if y ≤ 90 then 1 else 0) = 0 := wj_n (a := 1) (n := 90) (by decide) (by decide) hy
      refine Agr.upd ?_
      refine ⟨.int (-1), 1, fun I J h => QC.mk1 (I' := I) (J' := J) ?_ h Fc.refl, fun I J h => QM.mk1 (I' := I) (J' := J) ?_ rfl Fm.refl⟩
      · rw [E124_0, sp_within, w1, evK_s, E124_8, if_neg (by decide), sp_within, w2, evK_s, E124_18, if_pos rfl, E124_21, E164_0, evK_s, E124_26]
      · rw [E206_0, sp_isFrom, w1, evK_s, E206_8, if_neg (by decide), sp_isFrom, w2, evK_s, E206_18, if_pos rfl, E206_42, E178_0, evK_s, E206_47]
  · have w1 : (if x < 0 then (0 : Int32) else if x ≤ 359 then 1 else 0) = 0 := wi_n (n := 359) (by decide) hx
    refine Agr.upd ?_
    refine ⟨.int (-1), 1, fun I J h => QC.mk1 (I' := I) (J' := J) ?_ h Fc.refl, fun I J h => QM.mk1 (I' := I) (J' := J) ?_ rfl Fm.refl⟩
    · rw [E124_0, sp_within, w1, evK_s, E124_8, if_pos rfl, E124_21, E164_0, evK_s, E124_26]
    · rw [E206_0, sp_isFrom, w1, evK_s, E206_8, if_pos rfl, E206_42, E178_0, evK_s, E206_47]
theorem A_cap (hD : GD D) (he : e < 1000) (x : Int32) : Upd (d + 40) sl p D e 123 205 [.int x] := by
  have n60 := hD.n60
  have m6 := hD.m6
  by_cases hx : ∃ s, 1 ≤ s ∧ s ≤ 20 ∧ x = nI s
  · obtain ⟨a, a1, a2, rfl⟩ := hx
    have w1 : (if nI a < 1 then (0 : Int32) else if nI a ≤ 20 then 1 else 0) = 1 := wj_y (a := 1) (n := 20) a1 a2 (by decide)
    obtain ⟨F, hF⟩ : ∃ F, F = up2 D 46 5 (nI a) := ⟨_, rfl⟩
    have f5 : F 46 5 = nI a := by rw [hF, up_s]
    have fo : ∀ c k, ¬ (c = 46 ∧ k = 5) → F c k = D c k := fun c k w => by rw [hF, up_n w]
    have gF : GD F := hD.dat (fun c k _ _ => fo _ _ (by omega)) (fo _ _ (by omega)) (fo _ _ (by omega)) ⟨lk D, hD.k1, hD.k45, by rw [fo _ _ (by omega)]; exact hD.ek⟩ ⟨lst D, hD.s2, hD.s20, by rw [fo _ _ (by omega)]; exact hD.es⟩ ⟨a, a1, a2, f5⟩ (by rw [fo _ _ (by omega)]; exact hD.sd) (by rw [fo _ _ (by omega)]; exact hD.sp) (by rw [fo _ _ (by omega)]; exact hD.sf) (by rw [fo _ _ (by omega)]; exact hD.ss)
    have en : nc F = nc D := by unfold nc; rw [fo _ _ (by omega)]
    have el : nl F = nl D := by unfold nl; rw [fo _ _ (by omega)]
    have ep : ∀ i, pv F i = pv D i := fun i => by unfold pv; rw [fo _ _ (by omega), fo _ _ (by omega), fo _ _ (by omega)]
    have ea : ∀ i, av F i = av D i := fun i => by unfold av; rw [fo _ _ (by omega), fo _ _ (by omega), fo _ _ (by omega)]
    have ew : ∀ i, wt F i = wtv (nI a) (pv D i) (av D (D 50 i).toNatClampNeg) := fun i => by unfold wt; rw [f5, ep, fo _ _ (by omega), ea]
    refine ⟨.int (nI (cp D)), 0, p, F, e + 1, Nat.le_refl _, fun I J h => ?_, fun I J h => ?_⟩
    · obtain ⟨I1, e1, z1, z2⟩ := for_ex (M := Nat → Nat → Int32) (fun j x => ev (d + 39) 64 7 [.ref 4, .int (nI a), .int j] [] (S sl p x J)) (nc D) (fun j x => (∀ i, i < nc D → i < j → x (200 + p i) 8 = wt F i) ∧ ∀ b k, ¬ (200 ≤ b ∧ b < 260 ∧ k = 8) → x b k = up2 I 4 9 (nI a) b k)
        (by
          rintro j x hj ⟨z1, z2⟩
          have hp := h.sv.p60 j
          obtain ⟨l, t, q, at', l1, l2, l3, l4, l5, l6, l7, l8, l9⟩ := hD.cr j hj
          have r2 : x (200 + p j) 2 = nI l := by rw [z2 _ _ (by omega), up_na (by omega), (h.sv.ck j hj).1]; exact l5
          have r8 : x 4 8 = nI (nc D) := by rw [z2 _ _ (by omega), up_nk (by omega)]; exact h.sv.count
          have r9 : x 4 9 = nI a := by rw [z2 _ _ (by omega), up_s]
          have va : vec J (100 + l) = av D l := (h.sv.tr l l1).2.2.2
          have vp := h.sv.pole j hj
          rw [E64_7 _ _ h.sv.p60, r8, if_pos (lt_n hj (by omega)), ck_if (ixb_n (by omega) (by decide)), ck_if (ixb_n (by omega) (by decide)), ck_if (ixb_n (by omega) (by decide)), cl_n (by omega), r2, ck_if (ixb_n (by omega) (by decide)), cl_n (by omega), sp_weightByC (c := a) (obP hp) (ob100 (by omega)) (by rw [vp]; exact hD.bp hj) (by rw [va]; exact hD.ba l1) r9 a2, evK_s, E64_48 _ _ _ hp, vp, va, nI_1]
          refine ⟨_, rfl, fun i hi hij => ?_, fun b k w => by rw [up_n (by omega)]; exact z2 b k w⟩
          by_cases q : i = j
          · subst q
            rw [up_s, ew, l5, cl_n (by omega)]
          · have hne : p i ≠ p j := fun w => q (h.sv.pij i j (by omega) (by omega) w)
            rw [up_na (by omega)]
            exact z1 i hi (by omega))
        (up2 I 4 9 (nI a)) ⟨fun i _ hi => absurd hi (Nat.not_lt_zero _), fun _ _ _ => rfl⟩
      have r8 : I1 4 8 = nI (nc D) := by rw [z2 _ _ (by omega), up_nk (by omega)]; exact h.sv.count
      have q1 : up2 (up2 I1 4 10 (I1 4 10 + 1)) 1 8 0 4 10 = nI (e + 1) := by rw [up_na (by omega), up_s, z2 _ _ (by omega), up_nk (by omega), h.ed, nI_1]
      have q2 : up2 (up2 I1 4 10 (I1 4 10 + 1)) 1 8 0 4 9 = nI a := by rw [up_na (by omega), up_nk (by omega), z2 _ _ (by omega), up_s]
      have q3 : ∀ i, i < nc D → up2 (up2 I1 4 10 (I1 4 10 + 1)) 1 8 0 (200 + p i) 8 = wt F i := fun i hi => by rw [up_na (by omega), up_na (by omega)]; exact z1 i hi hi
      have q4 : ∀ c k, c ≠ 1 → ¬ (c = 4 ∧ 9 ≤ k ∧ k < 11) → ¬ (200 ≤ c ∧ c < 260 ∧ k = 8) → up2 (up2 I1 4 10 (I1 4 10 + 1)) 1 8 0 c k = I c k := fun c k v1 v2 v3 => by rw [up_na v1, up_n (by omega), z2 _ _ v3, up_n (by omega)]
      refine ⟨up2 (up2 I1 4 10 (I1 4 10 + 1)) 1 8 0, J, ?_, ?_, ⟨fun c k _ _ => q4 _ _ (by omega) (by omega) (by omega), fun _ _ _ _ => rfl⟩, up_s⟩
      · rw [E123_0, sp_within, w1, evK_s, E123_7, if_neg (by decide), E64_0, e1, E64_7 _ _ h.sv.p60, r8, if_neg (nlt_n (by omega)), evK_v, E123_32, h.sv.cap, E163_0, evK_s, E123_37]
      · generalize up2 (up2 I1 4 10 (I1 4 10 + 1)) 1 8 0 = I2 at q1 q2 q3 q4
        refine h.new he ?_ q1 (fun k hk => by rw [q4 _ _ (by omega) (by omega) (by omega), fo _ _ (by omega)]; exact h.sl k hk) (fun c k w => q4 _ _ (by omega) (by omega) (by omega))
        have hs := h.sv
        refine ⟨gF, fun k hk => by rw [q4 _ _ (by omega) (by omega) (by omega)]; exact hs.sn k hk, hs.p60, hs.pij, by rw [q4 _ _ (by omega) (by omega) (by omega), el]; exact hs.lines, by rw [q4 _ _ (by omega) (by omega) (by omega), en]; exact hs.count, by rw [q2, ← f5]; exact gF.ec, fun l hl => ?_, fun j hj => by rw [q4 _ _ (by omega) (by omega) (by omega)]; exact hs.slot j hj, fun i hi => ?_, fun i hi => ?_, fun i j hi hj => ?_, ?_, ?_⟩
        · rw [el] at hl
          rw [q4 _ _ (by omega) (by omega) (by omega), q4 _ _ (by omega) (by omega) (by omega), q4 _ _ (by omega) (by omega) (by omega), fo _ _ (by omega), fo _ _ (by omega), fo _ _ (by omega), ea]
          exact hs.tr l hl
        · rw [en] at hi
          have := hs.p60 i
          obtain ⟨k1, k2, k3, k4, k5, k6, -⟩ := hs.ck i hi
          have lv' : lv F i = lv D i := by unfold lv; rw [fo _ _ (by omega), fo _ _ (by omega)]
          rw [q4 _ 2 (by omega) (by omega) (by omega), q4 _ 3 (by omega) (by omega) (by omega), q4 _ 4 (by omega) (by omega) (by omega), q4 _ 5 (by omega) (by omega) (by omega), q4 _ 6 (by omega) (by omega) (by omega), q4 _ 7 (by omega) (by omega) (by omega), q3 i hi, fo _ _ (by omega), fo _ _ (by omega), fo _ _ (by omega), fo _ _ (by omega), lv']
          exact ⟨k1, k2, k3, k4, k5, k6, rfl⟩
        · rw [en] at hi
          rw [ep]
          exact hs.pole i hi
        · rw [en] at hi hj
          rw [q4 _ _ (by omega) (by omega) (by omega), show nb F i j = nb D i j from by unfold nb; rw [ep, ep]]
          exact hs.ang i j hi hj
        · rw [q4 _ _ (by omega) (by omega) (by omega), show lk F = lk D from by unfold lk; rw [fo _ _ (by omega)]]; exact hs.link
        · rw [q4 _ _ (by omega) (by omega) (by omega), show lst F = lst D from by unfold lst; rw [fo _ _ (by omega)]]; exact hs.least
    · refine ⟨up2 (up2 I 46 5 (nI a)) 46 0 0, J, ?_, ?_, ⟨fun c k _ => by rw [up_na (by omega), up_na (by omega)], fun _ _ _ => rfl⟩, up_s⟩
      · rw [E205_0, sp_isFrom, w1, evK_s, E205_7, if_neg (by decide), d5 hD h, E179_0, evK_s, E205_31]
      · rw [dat_up (by unfold isD; omega), dat_upD (by unfold isD; omega), h, hF]
  · have w1 : (if x < 1 then (0 : Int32) else if x ≤ 20 then 1 else 0) = 0 := wj_n (a := 1) (n := 20) (by decide) (by decide) hx
    refine Agr.upd ?_
    refine ⟨.int (-1), 1, fun I J h => QC.mk1 (I' := I) (J' := J) ?_ h Fc.refl, fun I J h => QM.mk1 (I' := I) (J' := J) ?_ rfl Fm.refl⟩
    · rw [E123_0, sp_within, w1, evK_s, E123_7, if_pos rfl, E164_0, evK_s, E123_15]
    · rw [E205_0, sp_isFrom, w1, evK_s, E205_7, if_pos rfl, E178_0, evK_s, E205_15]
end SLP
