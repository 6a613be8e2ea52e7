section AG12
variable {d sl : Nat} {p : Nat → Nat} {I I' : Nat → Nat → Int32} {J J' : Nat → Nat → Int64} {D : Nat → Nat → Int32} {e : Nat}
theorem C_true (h : CK p I J D e) (hG : GrC I J D) (hq : I 11 15 = I 4 10) {s l : Nat} (hs : s < nst D) (hl : l < nl D) (h2 : 2 ≤ cnO D s l) : ∃ I' J', den (d + 5) 116 [.ref 11, .int (nI s), .int (nI l)] (S sl p I J) = some (some (.int (trO D s l)), S sl p I' J') ∧ CK p I' J' D e ∧ GrC I' J' D ∧ Msd I' J' D s ∧ I' 11 15 = I' 4 10 ∧ Fc I J I' J' := by
  have n30 := hG.n30 h.sv.gd
  have m6 := h.sv.gd.m6
  obtain ⟨I1, J1, a1, a2, a3, a4, a5, a6⟩ := C_measured (d := d) (sl := sl) h hG hq hs
  refine ⟨I1, J1, ?_, a2, a3, a4, a5, a6⟩
  have hb := meO_b h.sv.gd hG.lab hs
  have ea := (a2.sv.tr l hl).2.2.2
  rw [E116_0, a1, evK_s, E116_5 _ _ (by omega), ck_if (ixb_n (by omega) (by decide)), cl_n (by omega), C_slant (ob800 (by omega)) (ob100 (by omega)) (by rw [a4.mean]; exact hb) (by rw [ea]; exact h.sv.gd.ba hl) (by rw [a4.mean]; exact meO_q h.sv.gd hG.lab hs) (by rw [ea]; exact h.sv.gd.qa hl), evK_s, E116_20, C_apparent a2.sv a3.pl h2, evK_s, E116_27, a4.mean, ea]
  rfl
theorem gp_1 {c : Nat} : nI c - 1 + 1 = nI (c + 1) - 1 := by
  rw [Int32.sub_add_cancel, ← nI_1, Int32.add_sub_cancel]
theorem M_spac (hD : GD D) (hL : LabD D) (h : dat I = D) (hS : SetAt I D) (hM : MeanAt I D (nst D)) {s l : Nat} (hs : s < nst D) (hl : l < nl D) : ∃ I', den (d + 4) 280 [.ref 46, .int (nI s), .int (nI l)] (S sl p I J) = some (some (.int (if cnO D s l < 2 then 0 else 1)), S sl p I' J) ∧ dat I' = D ∧ (∀ a k, ¬ (a = 46 ∧ 42 ≤ k ∧ k < 45) → I' a k = I a k) ∧ (2 ≤ cnO D s l → I' 46 42 = nI (cnO D s l - 1) ∧ I' 46 43 = nI (apN D s l) ∧ I' 46 44 = trO D s l) := by
  have n60 := hD.n60
  have m6 := hD.m6
  have h30 := nst_30 hD hL
  have hc : cnO D s l ≤ nc D := cnt_le _
  have hdat : ∀ {x : Nat → Nat → Int32}, (∀ a k, ¬ (a = 46 ∧ 42 ≤ k ∧ k < 45) → x a k = I a k) → dat x = D := fun {x} hx => by
    rw [← h]
    funext a k
    unfold dat
    split
    · exact hx _ _ (by omega)
    · rfl
  obtain ⟨⟨u, v, x⟩, e1, g1, g2, g3, g4⟩ := for_ex (M := Int32 × Int32 × (Nat → Nat → Int32)) (fun j m => ev (d + 4) 280 15 [.ref 46, .int (nI s), .int (nI l), .int m.1, .int m.2.1, .int j] [] (S sl p m.2.2 J)) (nc D)
    (fun j m => (cnt (onB D s l) j = 0 → m.1 = 100001 ∧ m.2.1 = -1) ∧ (0 < cnt (onB D s l) j → m.1 = nI (loS (onB D s l) (atN D) j) ∧ m.2.1 = nI (hiS (onB D s l) (atN D) j)) ∧ m.2.2 46 42 = nI (cnt (onB D s l) j) - 1 ∧ ∀ a k, ¬ (a = 46 ∧ k = 42) → m.2.2 a k = I a k)
    (by
      rintro j ⟨u, v, x⟩ hj ⟨g1, g2, g3, g4⟩
      simp only at g1 g2 g3 g4
      simp only
      obtain ⟨b1, b2, b3, -⟩ := lh_b (P := onB D s l) (f := atN D) j (fun k hk => (hD.at_n (by omega)).2)
      obtain ⟨a1, a2⟩ := hD.at_n hj
      have r61 : x 61 j = stn D j := by rw [g4 _ _ (by omega)]; exact hS.e61 j hj
      have r50 : x 50 j = D 50 j := by rw [g4 _ _ (by omega)]; exact dr h (by omega)
      have r53 : up2 x 46 42 (x 46 42 + 1) 53 j = nI (atN D j) := by rw [up_na (by omega), g4 _ _ (by omega), dr h (by omega)]; exact a1
      have r2 : x 46 2 = nI (nc D) := by rw [g4 _ _ (by omega)]; exact d2 hD h
      rw [E280_15, r2, if_pos (lt_n hj (by omega)), ck_if (ixb_n (by omega) (by decide)), cl_n (by omega), r61]
      have no : onB D s l j = false → ∃ x', ev (d + 4) 280 15 [.ref 46, .int (nI s), .int (nI l), .int u, .int v, .int (nI j + 1)] [] (S sl p x J) = (fun j (m : Int32 × Int32 × (Nat → Nat → Int32)) => ev (d + 4) 280 15 [.ref 46, .int (nI s), .int (nI l), .int m.1, .int m.2.1, .int j] [] (S sl p m.2.2 J)) (nI (j + 1)) x' ∧ (cnt (onB D s l) (j + 1) = 0 → x'.1 = 100001 ∧ x'.2.1 = -1) ∧ (0 < cnt (onB D s l) (j + 1) → x'.1 = nI (loS (onB D s l) (atN D) (j + 1)) ∧ x'.2.1 = nI (hiS (onB D s l) (atN D) (j + 1))) ∧ x'.2.2 46 42 = nI (cnt (onB D s l) (j + 1)) - 1 ∧ ∀ a k, ¬ (a = 46 ∧ k = 42) → x'.2.2 a k = I a k := by
        intro hb
        rw [cnt_s, loS_s, hiS_s, hb, nI_1]
        exact ⟨(u, v, x), rfl, g1, g2, g3, g4⟩
      by_cases q : stn D j = nI s
      · rw [if_pos q, ck_if (ixb_n (by omega) (by decide)), r50]
        by_cases r : D 50 j = nI l
        · have hb : onB D s l j = true := by unfold onB; simp [q, r]
          rw [if_pos r, ck_if (ixb_n (by omega) (by decide)), ck_if (ixb_n (by omega) (by decide)), r53, nI_1]
          have u2 : up2 x 46 42 (x 46 42 + 1) 46 42 = nI (cnt (onB D s l) (j + 1)) - 1 := by rw [up_s, g3, gp_1, cnt_s, if_pos hb]
          have uF : ∀ a k, ¬ (a = 46 ∧ k = 42) → up2 x 46 42 (x 46 42 + 1) a k = I a k := fun a k w => by rw [up_n w]; exact g4 a k w
          generalize up2 x 46 42 (x 46 42 + 1) = x2 at u2 uF
          refine ⟨(if nI (atN D j) < u then nI (atN D j) else u, if v < nI (atN D j) then nI (atN D j) else v, x2), rfl, fun w => absurd w (by rw [cnt_s, if_pos hb]; omega), fun _ => ?_, u2, uF⟩
          simp only
          rw [loS_s, hiS_s, if_pos hb, if_pos hb]
          rcases Nat.eq_zero_or_pos (cnt (onB D s l) j) with w | w
          · obtain ⟨w1, w2⟩ := g1 w
            obtain ⟨w3, w4⟩ := b3 w
            rw [w1, w2, w3, w4, if_pos (show nI (atN D j) < 100001 from lt_n (n := 100001) (by omega) (by decide)), if_pos (show (-1 : Int32) < nI (atN D j) from Int32.lt_iff_toInt_lt.mpr (by rw [tI (by omega)]; have e1 : (-1 : Int32).toInt = -1 := rfl; omega))]
            constructor
            · congr 1
              split <;> omega
            · congr 1
              split <;> omega
          · obtain ⟨w1, w2⟩ := g2 w
            rw [w1, w2]
            constructor
            · by_cases c : atN D j < loS (onB D s l) (atN D) j
              · rw [if_pos c, if_pos ((nI_lt_iff (by omega) (by omega)).mpr c)]
              · rw [if_neg c, if_neg (fun w => c ((nI_lt_iff (by omega) (by omega)).mp w))]
            · by_cases c : hiS (onB D s l) (atN D) j < atN D j
              · rw [if_pos c, if_pos ((nI_lt_iff (by omega) (by omega)).mpr c)]
              · rw [if_neg c, if_neg (fun w => c ((nI_lt_iff (by omega) (by omega)).mp w))]
        · rw [if_neg r]
          exact no (by unfold onB; simp [r])
      · rw [if_neg q]
        exact no (by unfold onB; simp [q]))
    (100001, -1, up2 I 46 42 (-1)) ⟨fun _ => ⟨rfl, rfl⟩, fun w => absurd w (Nat.lt_irrefl 0), by
      simp only
      rw [up_s]
      show (-1 : Int32) = nI 0 - 1
      decide, fun a k w => up_n w⟩
  simp only at e1 g1 g2 g3 g4
  have r2 : x 46 2 = nI (nc D) := by rw [g4 _ _ (by omega)]; exact d2 hD h
  rw [E280_0, e1, E280_15, r2, if_neg (nlt_n (by omega)), g3]
  by_cases q : cnO D s l < 2
  · have hlt : nI (cnt (onB D s l) (nc D)) - 1 < 1 := by
      have hq : cnt (onB D s l) (nc D) < 2 := q
      have : cnt (onB D s l) (nc D) = 0 ∨ cnt (onB D s l) (nc D) = 1 := by omega
      rcases this with w | w <;> rw [w] <;> decide
    rw [if_pos hlt, if_pos q]
    exact ⟨x, rfl, hdat (fun a k w => g4 a k (by omega)), fun a k w => g4 a k (by omega), fun w => absurd w (by omega)⟩
  · have h2 : 2 ≤ cnO D s l := by omega
    have h2' : 2 ≤ cnt (onB D s l) (nc D) := h2
    obtain ⟨z1, z2⟩ := g2 (by omega)
    obtain ⟨b1, b2, -, b4⟩ := lh_b (P := onB D s l) (f := atN D) (nc D) (fun k hk => (hD.at_n hk).2)
    have b5 := b4 (by omega)
    have ec : nI (cnt (onB D s l) (nc D)) - 1 = nI (cnO D s l - 1) := nI_sub (b := 1) (by omega) (by have : cnt (onB D s l) (nc D) = cnO D s l := rfl; omega)
    have hap : apN D s l ≤ 100000 := Nat.le_trans (Nat.div_le_self _ _) (by omega)
    have eap : (v - u) / nI (cnO D s l - 1) = nI (apN D s l) := by rw [z1, z2, nI_sub b5 (by omega), nI_div (by omega) (by omega) (by omega)]; rfl
    rw [if_neg q, ec, if_neg (fun w => by have := (nI_lt_iff (b := 1) (by omega) (by omega)).mp w; omega), ck_if (by simpa using (fun w => by have := nI_ij (b := 0) (by omega) (by omega) w; omega)), ck_if (ixb_n (by omega) (by decide)), ck_if (ixb_n (by omega) (by decide)), ck_if (ixb_n (by omega) (by decide)), cl_n (by omega), eap]
    have F : ∀ a k, ¬ (a = 46 ∧ (k = 42 ∨ k = 43)) → up2 x 46 43 (nI (apN D s l)) a k = I a k := fun a k w => by rw [up_n (by omega)]; exact g4 a k (by omega)
    have g43 : up2 x 46 43 (nI (apN D s l)) 46 43 = nI (apN D s l) := up_s
    have g42 : up2 x 46 43 (nI (apN D s l)) 46 42 = nI (cnO D s l - 1) := by rw [up_nk (by omega), g3, ec]
    generalize up2 x 46 43 (nI (apN D s l)) = x2 at F g43 g42
    have hb := meO_b hD hL hs
    have em : mvI x2 s = meO D s := by
      rw [← hM.v hs hb]
      unfold mvI
      rw [F _ _ (by omega), F _ _ (by omega), F _ _ (by omega)]
    have ea : ((x2 57 l).toInt64, (x2 58 l).toInt64, (x2 59 l).toInt64) = av D l := by
      unfold av
      rw [F _ _ (by omega), F _ _ (by omega), F _ _ (by omega), dr h (by omega), dr h (by omega), dr h (by omega)]
    have ec2 := M_coef (d := d) (sl := sl) (p := p) (I := x2) (J := J) (s := s) (a := ((x2 57 l).toInt64, (x2 58 l).toInt64, (x2 59 l).toInt64)) (by omega) (by rw [em]; exact hb) (by rw [ea]; exact hD.ba hl) (by rw [em]; exact meO_q hD hL hs) (by rw [ea]; exact hD.qa hl)
    simp only at ec2
    rw [ec2, evK_s, E280_146, g43, em, ea]
    refine ⟨_, rfl, hdat (fun a k w => by rw [up_n (by omega)]; exact F a k (by omega)), fun a k w => by rw [up_n (by omega)]; exact F a k (by omega), fun _ => ⟨by rw [up_nk (by omega)]; exact g42, by rw [up_nk (by omega)]; exact g43, by rw [up_s]; rfl⟩⟩
theorem A_spacing (hD : GD D) (hL : LabD D) (x y w : Int32) : Agr (d + 40) sl p D e 153 281 [.int x, .int y, .int w] := by
  have n60 := hD.n60
  have h30 := nst_30 hD hL
  by_cases ha : ∃ s, s ≤ 2 ∧ w = nI s
  · obtain ⟨k, hk, rfl⟩ := ha
    have w : (if nI k < 0 then (0 : Int32) else if nI k ≤ 2 then 1 else 0) = 1 := wi_y (n := 2) hk (by decide)
    by_cases hx : ∃ i, i < nst D ∧ x = nI i
    · obtain ⟨s, hs, rfl⟩ := hx
      by_cases hy : ∃ i, i < nl D ∧ y = nI i
      · obtain ⟨l, hl, rfl⟩ := hy
        have hc : cnO D s l ≤ nc D := cnt_le _
        by_cases h2 : cnO D s l < 2
        · refine ⟨.int (-1), 5, fun I J h => ?_, fun I J h => ?_⟩
          · obtain ⟨I1, a1, a2, a3, a4, a5⟩ := C_hasSet2 (d := d + 35) (sl := sl) h (nI s)
            refine QC.mk1 (I' := I1) (J' := J) ?_ a2 a4
            have hlt : nI (cnO D s l) - 1 < 1 := by
              have : cnO D s l = 0 ∨ cnO D s l = 1 := by omega
              rcases this with w | w <;> rw [w] <;> decide
            rw [E153_0, sp_within, w, evK_s, E153_6, if_neg (by decide), a1, st_y hD hL hs, evK_s, E153_23, if_neg (by decide), C_hasLine a2.sv, ln_y hD hl, evK_s, E153_34, if_neg (by decide), C_countOn a2.sv a3.pl, evK_s, E153_52, if_pos hlt, E164_0, evK_s, E153_67]
          · obtain ⟨I1, J1, a1, a2, a3, a4, a5⟩ := M_means (d := d + 29) (sl := sl) (p := p) (J := J) hD h
            obtain ⟨I2, b1, b2, b3, b4⟩ := M_spac (d := d + 35) (sl := sl) (p := p) (J := J1) hD hL a2 a3 a4 hs hl
            refine QM.mk1 (I' := I2) (J' := J1) ?_ (b2.trans h.symm) (a5.trans ⟨fun a k _ => b3 _ _ (by omega), fun _ _ _ => rfl⟩)
            rw [E281_0, sp_isFrom, w, evK_s, E281_6, if_neg (by decide), a1, evK_v, E281_19, sp_isSet hD a3, st_y hD hL hs, evK_s, E281_24, if_neg (by decide), M_isLine hD a2, ln_y hD hl, evK_s, E281_32, if_neg (by decide), b1, if_pos h2, evK_s, E281_47, if_pos rfl, E178_0, evK_s, E281_55]
        · have h2' : 2 ≤ cnO D s l := by omega
          have ec : nI (cnO D s l) - 1 = nI (cnO D s l - 1) := nI_sub (b := 1) (by omega) (by omega)
          have key : ∀ v : Int32, (∀ I J, CK p I J D e → GrC I J D → I 11 15 = I 4 10 → ∃ I' J', ev (d + 40) 153 52 [.ref 1, .int (nI s), .int (nI l), .int (nI k), .retAddr 0] [.int (nI (cnO D s l))] (S sl p I J) = some (some (.int v), S sl p (up2 I' 1 8 0) J') ∧ CK p I' J' D e ∧ Fc I J I' J') → (∀ I J, I 46 42 = nI (cnO D s l - 1) → I 46 43 = nI (apN D s l) → I 46 44 = trO D s l → ev (d + 40) 281 47 [.ref 46, .int (nI s), .int (nI l), .int (nI k)] [.int 1] (S sl p I J) = some (some (.int v), S sl p (up2 I 46 0 0) J)) → Agr (d + 40) sl p D e 153 281 [.int (nI s), .int (nI l), .int (nI k)] := by
            intro v h1 h3
            refine ⟨.int v, 0, fun I J h => ?_, fun I J h => ?_⟩
            · obtain ⟨I1, a1, a2, a3, a4, a5⟩ := C_hasSet2 (d := d + 35) (sl := sl) h (nI s)
              obtain ⟨I2, J2, b1, b2, b3⟩ := h1 I1 J a2 a3 a5
              refine QC.mk1 (I' := I2) (J' := J2) ?_ b2 (a4.trans b3)
              rw [E153_0, sp_within, w, evK_s, E153_6, if_neg (by decide), a1, st_y hD hL hs, evK_s, E153_23, if_neg (by decide), C_hasLine a2.sv, ln_y hD hl, evK_s, E153_34, if_neg (by decide), C_countOn a2.sv a3.pl, evK_s, b1]
            · obtain ⟨I1, J1, a1, a2, a3, a4, a5⟩ := M_means (d := d + 29) (sl := sl) (p := p) (J := J) hD h
              obtain ⟨I2, b1, b2, b3, b4⟩ := M_spac (d := d + 35) (sl := sl) (p := p) (J := J1) hD hL a2 a3 a4 hs hl
              obtain ⟨c1, c2, c3⟩ := b4 h2'
              refine QM.mk1 (I' := I2) (J' := J1) ?_ (b2.trans h.symm) (a5.trans ⟨fun a k _ => b3 _ _ (by omega), fun _ _ _ => rfl⟩)
              rw [E281_0, sp_isFrom, w, evK_s, E281_6, if_neg (by decide), a1, evK_v, E281_19, sp_isSet hD a3, st_y hD hL hs, evK_s, E281_24, if_neg (by decide), M_isLine hD a2, ln_y hD hl, evK_s, E281_32, if_neg (by decide), b1, if_neg h2, evK_s, h3 I2 J1 c1 c2 c3]
          have ngt : ¬ nI (cnO D s l - 1) < 1 := fun w => by have := (nI_lt_iff (b := 1) (by omega) (by omega)).mp w; omega
          have hk2 : k = 0 ∨ k = 1 ∨ k = 2 := by omega
          rcases hk2 with rfl | rfl | rfl
          · refine key (nI (cnO D s l - 1)) (fun I J h hG hq => ⟨I, J, ?_, h, Fc.refl⟩) (fun I J c1 c2 c3 => ?_)
            · rw [E153_52, ec, if_neg ngt, if_pos (by decide), E163_0, evK_s, E153_78]
            · rw [E281_47, if_neg (by decide), if_pos (by decide), c1, E281_84, E179_0, evK_s, E281_87]
          · refine key (nI (apN D s l)) (fun I J h hG hq => ⟨I, J, ?_, h, Fc.refl⟩) (fun I J c1 c2 c3 => ?_)
            · rw [E153_52, ec, if_neg ngt, if_neg (by decide), if_pos (by decide), C_apparent h.sv hG.pl h2', evK_s, E153_94, E153_106, E163_0, evK_s, E153_109]
            · rw [E281_47, if_neg (by decide), if_neg (by decide), if_pos (by decide), c2, E281_84, E179_0, evK_s, E281_87]
          · refine key (trO D s l) (fun I J h hG hq => ?_) (fun I J c1 c2 c3 => ?_)
            · obtain ⟨I2, J2, b1, b2, -, -, -, b3⟩ := C_true (d := d + 34) (sl := sl) h hG hq hs hl h2'
              refine ⟨I2, J2, ?_, b2, b3⟩
              rw [E153_52, ec, if_neg ngt, if_neg (by decide), if_neg (by decide), b1, evK_s, E153_106, E163_0, evK_s, E153_109]
            · rw [E281_47, if_neg (by decide), if_neg (by decide), if_neg (by decide), c3, E281_84, E179_0, evK_s, E281_87]
      · refine ⟨.int (-1), 2, fun I J h => ?_, fun I J h => ?_⟩
        · obtain ⟨I1, a1, a2, a3, a4, a5⟩ := C_hasSet2 (d := d + 35) (sl := sl) h (nI s)
          refine QC.mk1 (I' := I1) (J' := J) ?_ a2 a4
          rw [E153_0, sp_within, w, evK_s, E153_6, if_neg (by decide), a1, st_y hD hL hs, evK_s, E153_23, if_neg (by decide), C_hasLine a2.sv, ln_n hD hy, evK_s, E153_34, if_pos rfl, E153_37, E164_0, evK_s, E153_42]
        · obtain ⟨I1, J1, a1, a2, a3, a4, a5⟩ := M_means (d := d + 29) (sl := sl) (p := p) (J := J) hD h
          refine QM.mk1 (I' := I1) (J' := J1) ?_ (a2.trans h.symm) a5
          rw [E281_0, sp_isFrom, w, evK_s, E281_6, if_neg (by decide), a1, evK_v, E281_19, sp_isSet hD a3, st_y hD hL hs, evK_s, E281_24, if_neg (by decide), M_isLine hD a2, ln_n hD hy, evK_s, E281_32, if_pos rfl, E281_35, E178_0, evK_s, E281_40]
    · refine ⟨.int (-1), 2, fun I J h => ?_, fun I J h => ?_⟩
      · obtain ⟨I1, a1, a2, a3, a4, a5⟩ := C_hasSet2 (d := d + 35) (sl := sl) h x
        refine QC.mk1 (I' := I1) (J' := J) ?_ a2 a4
        rw [E153_0, sp_within, w, evK_s, E153_6, if_neg (by decide), a1, st_n hD hL hx, evK_s, E153_23, if_pos rfl, E153_37, E164_0, evK_s, E153_42]
      · obtain ⟨I1, J1, a1, a2, a3, a4, a5⟩ := M_means (d := d + 29) (sl := sl) (p := p) (J := J) hD h
        refine QM.mk1 (I' := I1) (J' := J1) ?_ (a2.trans h.symm) a5
        rw [E281_0, sp_isFrom, w, evK_s, E281_6, if_neg (by decide), a1, evK_v, E281_19, sp_isSet hD a3, st_n hD hL hx, evK_s, E281_24, if_pos rfl, E281_35, E178_0, evK_s, E281_40]
  · have w : (if w < 0 then (0 : Int32) else if w ≤ 2 then 1 else 0) = 0 := wi_n (n := 2) (by decide) ha
    refine ⟨.int (-1), 1, fun I J h => QC.mk1 (I' := I) (J' := J) ?_ h Fc.refl, fun I J h => QM.mk1 (I' := I) (J' := J) ?_ rfl Fm.refl⟩
    · simp only [E153_0, E153_6, E153_14, E153_23, E153_34, E153_37, E153_42, E153_52, E153_67, E153_78, E153_94, E153_106, E153_109, w, evK_s, evK_v, E163_0, E164_0, E178_0, E179_0, E180_0, sp_within, sp_isFrom, n10, eq_self, if_true, if_false]
    · simp only [E281_0, E281_6, E281_14, E281_19, E281_24, E281_32, E281_35, E281_40, E281_47, E281_55, E281_84, E281_87, w, evK_s, evK_v, E163_0, E164_0, E178_0, E179_0, E180_0, sp_within, sp_isFrom, n10, eq_self, if_true, if_false]
end AG12
