section CRL
variable {d sl : Nat} {p : Nat → Nat} {I I' : Nat → Nat → Int32} {J J' : Nat → Nat → Int64} {D D' : Nat → Nat → Int32} {e : Nat}
theorem A_crack (hD : GD D) (he : e < 1000) (w x y z : Int32) : Upd (d + 40) sl p D e 120 202 [.int w, .int x, .int y, .int z] := by
  have n60 := hD.n60
  have m6 := hD.m6
  by_cases hx : Lie x y
  · by_cases hz : z < 0
    · refine Agr.upd ?_
      refine ⟨.int (-1), 1, fun I J h => QC.mk1 (I' := I) (J' := J) ?_ h Fc.refl, fun I J h => QM.mk1 (I' := I) (J' := J) ?_ rfl Fm.refl⟩
      · rw [E120_0, C_lie _ _ 1 (Or.inl ⟨hx, rfl⟩), evK_s, E120_5, if_neg (by decide), if_pos hz, E120_13, E164_0, evK_s, E120_18]
      · rw [E202_0, M_lieQ _ _ 1 (Or.inl ⟨hx, rfl⟩), evK_s, E202_5, if_neg (by decide), if_pos hz, E202_13, E178_0, evK_s, E202_18]
    · by_cases hw : ∃ i, i < nl D ∧ w = nI i
      · obtain ⟨l, hl, rfl⟩ := hw
        obtain ⟨t', q', h', -, -, v3, v4, -, -, v7, -⟩ := hD.li l hl
        by_cases hat : z ≤ nI h'
        · obtain ⟨a, ha, rfl⟩ : ∃ a, a ≤ h' ∧ z = nI a := ex_nIle hz hat (by omega)
          obtain ⟨t, q, u1, u2, rfl, rfl⟩ := id hx
          by_cases h60 : nc D = 60
          · refine Agr.upd ?_
            refine ⟨.int (-1), 3, fun I J h => QC.mk1 (I' := I) (J' := J) ?_ h Fc.refl, fun I J h => QM.mk1 (I' := I) (J' := J) ?_ rfl Fm.refl⟩
            · rw [E120_0, C_lie _ _ 1 (Or.inl ⟨hx, rfl⟩), evK_s, E120_5, if_neg (by decide), if_neg hz, C_hasLine h.sv, ln_y hD hl, evK_s, E120_27, if_neg (by decide), ck_if (ixb_n (by omega) (by decide)), cl_n (by omega), (h.sv.tr l hl).2.2.1, v7, if_pos hat, h.sv.count, if_neg (by rw [h60]; decide), E164_0, evK_s, E120_73]
            · rw [E202_0, M_lieQ _ _ 1 (Or.inl ⟨hx, rfl⟩), evK_s, E202_5, if_neg (by decide), if_neg hz, M_isLine hD h, ln_y hD hl, evK_s, E202_24, if_neg (by decide), ck_if (ixb_n (by omega) (by decide)), cl_n (by omega), dr h (by omega), v7, if_pos hat, d2 hD h, if_pos (by rw [h60]; decide), E178_0, evK_s, E202_64]
          · have hc : nc D < 60 := by omega
            obtain ⟨F, hF⟩ : ∃ F, F = up2 (up2 (up2 (up2 (up2 (up2 (up2 (up2 D 50 (nc D) (nI l)) 51 (nc D) (nI t)) 52 (nc D) (nI q)) 53 (nc D) (nI a)) 54 (nc D) (poX (nI t) (nI q))) 55 (nc D) (poY (nI t) (nI q))) 56 (nc D) (poZ (nI q))) 46 2 (nI (nc D + 1)) := ⟨_, rfl⟩
            have cF : CrkD D F l t q a := by
              refine ⟨by rw [hF, up_s], ?_, ?_, ?_, ?_, ?_, ?_⟩
              · rw [hF, up_na (by omega), up_na (by omega), up_na (by omega), up_na (by omega), up_na (by omega), up_na (by omega), up_na (by omega), up_s]
              · rw [hF, up_na (by omega), up_na (by omega), up_na (by omega), up_na (by omega), up_na (by omega), up_na (by omega), up_s]
              · rw [hF, up_na (by omega), up_na (by omega), up_na (by omega), up_na (by omega), up_na (by omega), up_s]
              · rw [hF, up_na (by omega), up_na (by omega), up_na (by omega), up_na (by omega), up_s]
              · have f54 : F 54 (nc D) = poX (nI t) (nI q) := by rw [hF, up_na (by omega), up_na (by omega), up_na (by omega), up_s]
                have f55 : F 55 (nc D) = poY (nI t) (nI q) := by rw [hF, up_na (by omega), up_na (by omega), up_s]
                have f56 : F 56 (nc D) = poZ (nI q) := by rw [hF, up_na (by omega), up_s]
                unfold pv
                rw [f54, f55, f56]
                rfl
              · intro c k v1 v2
                rw [hF, up_n v1, up_n (by omega), up_n (by omega), up_n (by omega), up_n (by omega), up_n (by omega), up_n (by omega), up_n (by omega)]
            refine ⟨.int (nI (nc D)), 0, p, F, e + 1, Nat.le_refl _, fun I J h => ?_, fun I J h => ?_⟩
            · obtain ⟨I1, J1, a1, a2, a3⟩ := C_addCrack (d := d + 34) (sl := sl) h cF he hc hl u1 u2 (by omega)
              refine QC.mk1 (I' := I1) (J' := J1) ?_ a2 a3
              rw [E120_0, C_lie _ _ 1 (Or.inl ⟨hx, rfl⟩), evK_s, E120_5, if_neg (by decide), if_neg hz, C_hasLine h.sv, ln_y hD hl, evK_s, E120_27, if_neg (by decide), ck_if (ixb_n (by omega) (by decide)), cl_n (by omega), (h.sv.tr l hl).2.2.1, v7, if_pos hat, h.sv.count, if_pos (show nI (nc D) < 60 from lt_n (n := 60) hc (by decide)), a1, evK_s, E120_87, E163_0, evK_s, E120_90]
            · obtain ⟨c, ec⟩ : ∃ c, c = nc D := ⟨_, rfl⟩
              have cnt : I 46 2 = nI c := by rw [ec]; exact d2 hD h
              have hne : ¬ nI c = 60 := fun w => by have := nI_ij (a := c) (b := 60) (by omega) (by omega) w; omega
              obtain ⟨I1, hI1⟩ : ∃ I1, I1 = up2 (up2 (up2 (up2 I 50 c (nI l)) 51 c (nI t)) 52 c (nI q)) 53 c (nI a) := ⟨_, rfl⟩
              have e1 : den (d + 40) 202 [.ref 46, .int (nI l), .int (nI t), .int (nI q), .int (nI a)] (S sl p I J) = ev (d + 40) 202 112 [.ref 46, .int (nI l), .int (nI t), .int (nI q), .int (nI a)] [] (S sl p (set3 I1 (poX (nI t) (nI q)) (poY (nI t) (nI q)) (poZ (nI q))) J) := by
                rw [E202_0, M_lieQ _ _ 1 (Or.inl ⟨hx, rfl⟩), evK_s, E202_5, if_neg (by decide), if_neg hz, M_isLine hD h, ln_y hD hl, evK_s, E202_24, if_neg (by decide), ck_if (ixb_n (by omega) (by decide)), cl_n (by omega), dr h (by omega), v7, if_pos hat]
                simp only [up46 (show 46 ≠ 50 by decide), up46 (show 46 ≠ 51 by decide), up46 (show 46 ≠ 52 by decide), cnt, if_neg hne]
                rw [ck_if (ixb_n (by omega) (by decide)), ck_if (ixb_n (by omega) (by decide)), ck_if (ixb_n (by omega) (by decide)), ck_if (ixb_n (by omega) (by decide)), cl_n (by omega), ← hI1, sp_laysPole, evK_v]
              have l46 : I1 46 2 = nI c := by rw [hI1, up_na (by omega), up_na (by omega), up_na (by omega), up_na (by omega)]; exact cnt
              obtain ⟨I2, hI2⟩ : ∃ I2, I2 = set3 I1 (poX (nI t) (nI q)) (poY (nI t) (nI q)) (poZ (nI q)) := ⟨_, rfl⟩
              obtain ⟨s1, s2, s3⟩ := set3_r (I := I1) (x := poX (nI t) (nI q)) (y := poY (nI t) (nI q)) (z := poZ (nI q))
              rw [← hI2] at s1 s2 s3 e1
              have l46' : I2 46 2 = nI c := by rw [hI2, set3_n (by omega)]; exact l46
              refine ⟨up2 (up2 (up2 (up2 (up2 I2 54 c (poX (nI t) (nI q))) 55 c (poY (nI t) (nI q))) 56 c (poZ (nI q))) 46 2 (nI (c + 1))) 46 0 0, J, ?_, ?_, ⟨fun b k w => ?_, fun _ _ _ => rfl⟩, up_s⟩
              · rw [e1, E202_112]
                simp only [up46 (show 46 ≠ 54 by decide), up46 (show 46 ≠ 55 by decide), up46 (show 46 ≠ 56 by decide), l46', s1, s2, s3]
                rw [ck_if (ixb_n (by omega) (by decide)), ck_if (ixb_n (by omega) (by decide)), ck_if (ixb_n (by omega) (by decide)), cl_n (by omega), nI_1, up_s, show nI (c + 1) - 1 = nI c from nI_sub (b := 1) (by omega) (by omega), E179_0, evK_s, E202_171, ec]
              · rw [dat_up (by unfold isD; omega), dat_upD (by unfold isD; omega), dat_upD (by unfold isD; omega), dat_upD (by unfold isD; omega), dat_upD (by unfold isD; omega), hI2, dat_set3, hI1, dat_upD (by unfold isD; omega), dat_upD (by unfold isD; omega), dat_upD (by unfold isD; omega), dat_upD (by unfold isD; omega), h, hF, ec]
              · rw [up_na (by omega), up_na (by omega), up_na (by omega), up_na (by omega), up_na (by omega), hI2, set3_n (by omega), hI1, up_na (by omega), up_na (by omega), up_na (by omega), up_na (by omega)]
        · refine Agr.upd ?_
          refine ⟨.int (-1), 1, fun I J h => QC.mk1 (I' := I) (J' := J) ?_ h Fc.refl, fun I J h => QM.mk1 (I' := I) (J' := J) ?_ rfl Fm.refl⟩
          · rw [E120_0, C_lie _ _ 1 (Or.inl ⟨hx, rfl⟩), evK_s, E120_5, if_neg (by decide), if_neg hz, C_hasLine h.sv, ln_y hD hl, evK_s, E120_27, if_neg (by decide), ck_if (ixb_n (by omega) (by decide)), cl_n (by omega), (h.sv.tr l hl).2.2.1, v7, if_neg hat, E164_0, evK_s, E120_55]
          · rw [E202_0, M_lieQ _ _ 1 (Or.inl ⟨hx, rfl⟩), evK_s, E202_5, if_neg (by decide), if_neg hz, M_isLine hD h, ln_y hD hl, evK_s, E202_24, if_neg (by decide), ck_if (ixb_n (by omega) (by decide)), cl_n (by omega), dr h (by omega), v7, if_neg hat, E178_0, evK_s, E202_49]
      · refine Agr.upd ?_
        refine ⟨.int (-1), 2, fun I J h => QC.mk1 (I' := I) (J' := J) ?_ h Fc.refl, fun I J h => QM.mk1 (I' := I) (J' := J) ?_ rfl Fm.refl⟩
        · rw [E120_0, C_lie _ _ 1 (Or.inl ⟨hx, rfl⟩), evK_s, E120_5, if_neg (by decide), if_neg hz, C_hasLine h.sv, ln_n hD hw, evK_s, E120_27, if_pos rfl, E164_0, evK_s, E120_35]
        · rw [E202_0, M_lieQ _ _ 1 (Or.inl ⟨hx, rfl⟩), evK_s, E202_5, if_neg (by decide), if_neg hz, M_isLine hD h, ln_n hD hw, evK_s, E202_24, if_pos rfl, E178_0, evK_s, E202_32]
  · refine Agr.upd ?_
    refine ⟨.int (-1), 1, fun I J h => QC.mk1 (I' := I) (J' := J) ?_ h Fc.refl, fun I J h => QM.mk1 (I' := I) (J' := J) ?_ rfl Fm.refl⟩
    · rw [E120_0, C_lie _ _ 0 (Or.inr ⟨hx, rfl⟩), evK_s, E120_5, if_pos rfl, E120_13, E164_0, evK_s, E120_18]
    · rw [E202_0, M_lieQ _ _ 0 (Or.inr ⟨hx, rfl⟩), evK_s, E202_5, if_pos rfl, E202_13, E178_0, evK_s, E202_18]
end CRL
