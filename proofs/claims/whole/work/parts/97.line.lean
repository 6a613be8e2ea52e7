section LIN
variable {d sl : Nat} {p : Nat → Nat} {I I' : Nat → Nat → Int32} {J J' : Nat → Nat → Int64} {D D' : Nat → Nat → Int32} {e : Nat}
theorem up46 {α : Type} {f : Nat → Nat → α} {a k k' : Nat} {v : α} (h : 46 ≠ a) : up2 f a k v 46 k' = f 46 k' := up_na h
theorem A_line (hD : GD D) (x y z : Int32) : Upd (d + 40) sl p D e 119 198 [.int x, .int y, .int z] := by
  have n60 := hD.n60
  have m6 := hD.m6
  by_cases hl : Ln x y z
  · obtain ⟨t, q, h', u1, u2, u3, u4, rfl, rfl, rfl⟩ := id hl
    have w1 : (if nI t < 0 then (0 : Int32) else if nI t ≤ 359 then 1 else 0) = 1 := wi_y (n := 359) (by omega) (by decide)
    have w2 : (if nI q < 0 then (0 : Int32) else if nI q ≤ 90 then 1 else 0) = 1 := wi_y (n := 90) u2 (by decide)
    have w3 : (if nI h' < 1 then (0 : Int32) else if nI h' ≤ 100000 then 1 else 0) = 1 := wj_y (a := 1) (n := 100000) u3 u4 (by decide)
    by_cases h6 : nl D = 6
    · refine Agr.upd ?_
      refine ⟨.int (-1), 3, fun I J h => QC.mk1 (I' := I) (J' := J) ?_ h Fc.refl, fun I J h => QM.mk1 (I' := I) (J' := J) ?_ rfl Fm.refl⟩
      · rw [E119_0, C_isLine _ _ _ 1 (Or.inl ⟨hl, rfl⟩), evK_s, E119_6, if_neg (by decide), h.sv.lines, if_neg (by rw [h6]; decide), E164_0, evK_s, E119_32]
      · rw [E198_0, sp_isFrom, w1, evK_s, E198_8, if_neg (by decide), sp_isFrom, w2, evK_s, E198_18, if_neg (by decide), sp_isFrom, w3, evK_s, E198_28, if_neg (by decide), d1 hD h, if_pos (by rw [h6]; decide), E178_0, evK_s, E198_51]
    · obtain ⟨l, el⟩ : ∃ l, l = nl D := ⟨_, rfl⟩
      have hl6 : l < 6 := by omega
      obtain ⟨F, hF⟩ : ∃ F, F = up2 (up2 (up2 (up2 (up2 (up2 (up2 D 47 l (nI t)) 48 l (nI q)) 49 l (nI h')) 57 l (arX (nI t) (nI q))) 58 l (arY (nI t) (nI q))) 59 l (arZ (nI q))) 46 1 (nI (l + 1)) := ⟨_, rfl⟩
      have f1 : F 46 1 = nI (l + 1) := by rw [hF, up_s]
      have f47 : F 47 l = nI t := by rw [hF, up_na (by omega), up_na (by omega), up_na (by omega), up_na (by omega), up_na (by omega), up_na (by omega), up_s]
      have f48 : F 48 l = nI q := by rw [hF, up_na (by omega), up_na (by omega), up_na (by omega), up_na (by omega), up_na (by omega), up_s]
      have f49 : F 49 l = nI h' := by rw [hF, up_na (by omega), up_na (by omega), up_na (by omega), up_na (by omega), up_s]
      have f57 : F 57 l = arX (nI t) (nI q) := by rw [hF, up_na (by omega), up_na (by omega), up_na (by omega), up_s]
      have f58 : F 58 l = arY (nI t) (nI q) := by rw [hF, up_na (by omega), up_na (by omega), up_s]
      have f59 : F 59 l = arZ (nI q) := by rw [hF, up_na (by omega), up_s]
      have fo : ∀ c k, ¬ (c = 46 ∧ k = 1) → ¬ ((47 ≤ c ∧ c < 50) ∧ k = l) → ¬ ((57 ≤ c ∧ c < 60) ∧ k = l) → F c k = D c k := fun c k v1 v2 v3 => by rw [hF, up_n v1, up_n (by omega), up_n (by omega), up_n (by omega), up_n (by omega), up_n (by omega), up_n (by omega)]
      have enl : nl F = l + 1 := by unfold nl; rw [f1]; exact cl_n (by omega)
      have en : nc F = nc D := by unfold nc; rw [fo _ _ (by omega) (by omega) (by omega)]
      have elk : lk F = lk D := by unfold lk; rw [fo _ _ (by omega) (by omega) (by omega)]
      have els : lst F = lst D := by unfold lst; rw [fo _ _ (by omega) (by omega) (by omega)]
      have ecp : cp F = cp D := by unfold cp; rw [fo _ _ (by omega) (by omega) (by omega)]
      have ep : ∀ i, pv F i = pv D i := fun i => by unfold pv; rw [fo _ _ (by omega) (by omega) (by omega), fo _ _ (by omega) (by omega) (by omega), fo _ _ (by omega) (by omega) (by omega)]
      have ea : ∀ i, i < l → av F i = av D i := fun i hi => by unfold av; rw [fo _ _ (by omega) (by omega) (by omega), fo _ _ (by omega) (by omega) (by omega), fo _ _ (by omega) (by omega) (by omega)]
      have eal : av F l = arV (nI t) (nI q) := by unfold av; rw [f57, f58, f59]; rfl
      have ew : ∀ i, i < nc D → wt F i = wt D i := fun i hi => by
        obtain ⟨l', t', q', at', l1, l2, l3, l4, l5, l6, l7, l8, l9⟩ := hD.cr i hi
        unfold wt
        rw [fo _ _ (by omega) (by omega) (by omega), ep, fo _ _ (by omega) (by omega) (by omega), l5, cl_n (by omega), ea l' (by omega)]
      have gF : GD F := by
        refine ⟨by rw [en]; exact n60, by rw [en, fo _ _ (by omega) (by omega) (by omega)]; exact hD.en, by omega, by rw [enl]; exact f1, by rw [elk]; exact hD.k1, by rw [elk]; exact hD.k45, by rw [elk, fo _ _ (by omega) (by omega) (by omega)]; exact hD.ek, by rw [els]; exact hD.s2, by rw [els]; exact hD.s20, by rw [els, fo _ _ (by omega) (by omega) (by omega)]; exact hD.es, by rw [ecp]; exact hD.c1, by rw [ecp]; exact hD.c20, by rw [ecp, fo _ _ (by omega) (by omega) (by omega)]; exact hD.ec, by rw [fo _ _ (by omega) (by omega) (by omega)]; exact hD.sd, by rw [fo _ _ (by omega) (by omega) (by omega)]; exact hD.sp, by rw [fo _ _ (by omega) (by omega) (by omega)]; exact hD.sf, by rw [fo _ _ (by omega) (by omega) (by omega)]; exact hD.ss, fun l' hl' => ?_, fun i hi => ?_⟩
        · rw [enl] at hl'
          by_cases c : l' = l
          · subst c
            exact ⟨t, q, h', u1, u2, u3, u4, f47, f48, f49, eal⟩
          · rw [fo _ _ (by omega) (by omega) (by omega), fo _ _ (by omega) (by omega) (by omega), fo _ _ (by omega) (by omega) (by omega), ea l' (by omega)]
            exact hD.li l' (by omega)
        · rw [en] at hi
          rw [enl, fo _ _ (by omega) (by omega) (by omega), fo _ _ (by omega) (by omega) (by omega), fo _ _ (by omega) (by omega) (by omega), fo _ _ (by omega) (by omega) (by omega), ep]
          obtain ⟨l', t', q', at', l1, l2⟩ := hD.cr i hi
          exact ⟨l', t', q', at', by omega, l2⟩
      have sm : Sim D F := ⟨fun k _ _ => fo _ _ (by omega) (by omega) (by omega), fun c k _ _ => fo _ _ (by omega) (by omega) (by omega), ew⟩
      refine ⟨.int (nI l), 0, p, F, e, by omega, fun I J h => ?_, fun I J h => ?_⟩
      · have hs := h.sv
        have lines : I 4 7 = nI l := by rw [el]; exact hs.lines
        have r0 : up2 (up2 (up2 (up2 (up2 I 5 l (nI t)) 6 l (nI q)) 7 l (nI h')) 4 7 (nI (l + 1))) 1 8 0 4 7 = nI (l + 1) := by rw [up_na (by omega), up_s]
        have r5 : up2 (up2 (up2 (up2 (up2 I 5 l (nI t)) 6 l (nI q)) 7 l (nI h')) 4 7 (nI (l + 1))) 1 8 0 5 l = nI t := by rw [up_na (by omega), up_na (by omega), up_na (by omega), up_na (by omega), up_s]
        have r6 : up2 (up2 (up2 (up2 (up2 I 5 l (nI t)) 6 l (nI q)) 7 l (nI h')) 4 7 (nI (l + 1))) 1 8 0 6 l = nI q := by rw [up_na (by omega), up_na (by omega), up_na (by omega), up_s]
        have r7 : up2 (up2 (up2 (up2 (up2 I 5 l (nI t)) 6 l (nI q)) 7 l (nI h')) 4 7 (nI (l + 1))) 1 8 0 7 l = nI h' := by rw [up_na (by omega), up_na (by omega), up_s]
        have ro : ∀ c k, c ≠ 1 → ¬ (c = 4 ∧ k = 7) → ¬ ((5 ≤ c ∧ c < 8) ∧ k = l) → up2 (up2 (up2 (up2 (up2 I 5 l (nI t)) 6 l (nI q)) 7 l (nI h')) 4 7 (nI (l + 1))) 1 8 0 c k = I c k := fun c k v1 v2 v3 => by rw [up_na v1, up_n v2, up_n (by omega), up_n (by omega), up_n (by omega)]
        have eC : den (d + 40) 119 [.ref 1, .int (nI t), .int (nI q), .int (nI h')] (S sl p I J) = some (some (.int (nI l)), S sl p (up2 (up2 (up2 (up2 (up2 I 5 l (nI t)) 6 l (nI q)) 7 l (nI h')) 4 7 (nI (l + 1))) 1 8 0) (setV J (100 + l) (arV (nI t) (nI q)))) := by
          have sn1 : SNS (up2 (up2 (up2 I 5 l (nI t)) 6 l (nI q)) 7 l (nI h')) := fun k hk => by rw [up_na (by omega), up_na (by omega), up_na (by omega)]; exact hs.sn k hk
          rw [E119_0, C_isLine _ _ _ 1 (Or.inl ⟨hl, rfl⟩), evK_s, E119_6, if_neg (by decide), lines, if_pos (show nI l < 6 from lt_n (n := 6) hl6 (by decide)), E61_0, lines, ck_if (ixb_n (by omega) (by decide)), ck_if (ixb_n (by omega) (by decide)), ck_if (ixb_n (by omega) (by decide)), ck_if (ixb_n (by omega) (by decide)), cl_n (by omega), sp_arrowInto u1 u2 (ob100 hl6) sn1, evK_v, E61_46, up_na (a := 7) (by omega), up_na (a := 6) (by omega), up_na (a := 5) (by omega), lines, nI_1, evK_s, E119_44, E163_0, evK_s, E119_47]
        refine ⟨_, _, eC, ?_, ⟨fun c k _ _ => ro _ _ (by omega) (by omega) (by omega), fun c k _ _ => setV_ne (by omega)⟩, up_s⟩
        generalize up2 (up2 (up2 (up2 (up2 I 5 l (nI t)) 6 l (nI q)) 7 l (nI h')) 4 7 (nI (l + 1))) 1 8 0 = I1 at r0 r5 r6 r7 ro
        have jo : ∀ a k, a ≠ 100 + l → setV J (100 + l) (arV (nI t) (nI q)) a k = J a k := fun a k w => setV_ne w
        have jl : vec (setV J (100 + l) (arV (nI t) (nI q))) (100 + l) = arV (nI t) (nI q) := vec_setV
        generalize setV J (100 + l) (arV (nI t) (nI q)) = J1 at jo jl
        have jv : ∀ a, a ≠ 100 + l → vec J1 a = vec J a := fun a w => by unfold vec; rw [jo _ _ w, jo _ _ w, jo _ _ w]
        refine h.sim sm (fun a k w1 w2 => ro _ _ (by omega) (by omega) (by omega)) (fun a k w => jo _ _ (by omega)) (ro _ _ (by omega) (by omega) (by omega)) ?_ (fun k hk => by rw [ro _ _ (by omega) (by omega) (by omega), fo _ _ (by omega) (by omega) (by omega)]; exact h.sl k hk)
        refine ⟨gF, fun k hk => by rw [ro _ _ (by omega) (by omega) (by omega)]; exact hs.sn k hk, hs.p60, hs.pij, by rw [r0, enl], by rw [ro _ _ (by omega) (by omega) (by omega), en]; exact hs.count, by rw [ro _ _ (by omega) (by omega) (by omega), ecp]; exact hs.cap, fun l' hl' => ?_, fun j hj => by rw [ro _ _ (by omega) (by omega) (by omega)]; exact hs.slot j hj, fun i hi => ?_, fun i hi => ?_, fun i j hi hj => ?_, by rw [ro _ _ (by omega) (by omega) (by omega), elk]; exact hs.link, by rw [ro _ _ (by omega) (by omega) (by omega), els]; exact hs.least⟩
        · rw [enl] at hl'
          by_cases c : l' = l
          · subst c
            exact ⟨by rw [r5, f47], by rw [r6, f48], by rw [r7, f49], by rw [jl, eal]⟩
          · rw [ro _ _ (by omega) (by omega) (by omega), ro _ _ (by omega) (by omega) (by omega), ro _ _ (by omega) (by omega) (by omega), fo _ _ (by omega) (by omega) (by omega), fo _ _ (by omega) (by omega) (by omega), fo _ _ (by omega) (by omega) (by omega), ea l' (by omega), jv _ (by omega)]
            exact hs.tr l' (by omega)
        · rw [en] at hi
          have := hs.p60 i
          have lv' : lv F i = lv D i := by unfold lv; rw [fo _ _ (by omega) (by omega) (by omega), fo _ _ (by omega) (by omega) (by omega)]
          rw [ro _ 2 (by omega) (by omega) (by omega), ro _ 3 (by omega) (by omega) (by omega), ro _ 4 (by omega) (by omega) (by omega), ro _ 5 (by omega) (by omega) (by omega), ro _ 6 (by omega) (by omega) (by omega), ro _ 7 (by omega) (by omega) (by omega), ro _ 8 (by omega) (by omega) (by omega), fo _ _ (by omega) (by omega) (by omega), fo _ _ (by omega) (by omega) (by omega), fo _ _ (by omega) (by omega) (by omega), fo _ _ (by omega) (by omega) (by omega), lv', ew i hi]
          exact hs.ck i hi
        · rw [en] at hi
          have := hs.p60 i
          rw [ep, jv _ (by omega)]
          exact hs.pole i hi
        · rw [en] at hi hj
          rw [ro _ _ (by omega) (by omega) (by omega), show nb F i j = nb D i j from by unfold nb; rw [ep, ep]]
          exact hs.ang i j hi hj
      · have lines : I 46 1 = nI l := by rw [el]; exact d1 hD h
        have hne : ¬ nI l = 6 := fun w => by have := nI_ij (a := l) (b := 6) (by omega) (by omega) w; omega
        obtain ⟨I1, hI1⟩ : ∃ I1, I1 = up2 (up2 (up2 I 47 l (nI t)) 48 l (nI q)) 49 l (nI h') := ⟨_, rfl⟩
        have e1 : den (d + 40) 198 [.ref 46, .int (nI t), .int (nI q), .int (nI h')] (S sl p I J) = ev (d + 40) 198 88 [.ref 46, .int (nI t), .int (nI q), .int (nI h')] [] (S sl p (set3 I1 (arX (nI t) (nI q)) (arY (nI t) (nI q)) (arZ (nI q))) J) := by
          rw [E198_0, sp_isFrom, w1, evK_s, E198_8, if_neg (by decide), sp_isFrom, w2, evK_s, E198_18, if_neg (by decide), sp_isFrom, w3, evK_s, E198_28, if_neg (by decide)]
          simp only [up46 (show 46 ≠ 47 by decide), up46 (show 46 ≠ 48 by decide), lines, if_neg hne]
          rw [ck_if (ixb_n (by omega) (by decide)), ck_if (ixb_n (by omega) (by decide)), ck_if (ixb_n (by omega) (by decide)), cl_n (by omega), ← hI1, sp_laysArrow, evK_v]
        have l46 : I1 46 1 = nI l := by rw [hI1, up_na (by omega), up_na (by omega), up_na (by omega)]; exact lines
        obtain ⟨I2, hI2⟩ : ∃ I2, I2 = set3 I1 (arX (nI t) (nI q)) (arY (nI t) (nI q)) (arZ (nI q)) := ⟨_, rfl⟩
        obtain ⟨s1, s2, s3⟩ := set3_r (I := I1) (x := arX (nI t) (nI q)) (y := arY (nI t) (nI q)) (z := arZ (nI q))
        rw [← hI2] at s1 s2 s3 e1
        have l46' : I2 46 1 = nI l := by rw [hI2, set3_n (by omega)]; exact l46
        refine ⟨up2 (up2 (up2 (up2 (up2 I2 57 l (arX (nI t) (nI q))) 58 l (arY (nI t) (nI q))) 59 l (arZ (nI q))) 46 1 (nI (l + 1))) 46 0 0, J, ?_, ?_, ⟨fun c k w => ?_, fun _ _ _ => rfl⟩, up_s⟩
        · rw [e1, E198_88]
          simp only [up46 (show 46 ≠ 57 by decide), up46 (show 46 ≠ 58 by decide), up46 (show 46 ≠ 59 by decide), l46', s1, s2, s3]
          rw [ck_if (ixb_n (by omega) (by decide)), ck_if (ixb_n (by omega) (by decide)), ck_if (ixb_n (by omega) (by decide)), cl_n (by omega), nI_1, up_s, show nI (l + 1) - 1 = nI l from nI_sub (b := 1) (by omega) (by omega), E179_0, evK_s, E198_147]
        · rw [dat_up (by unfold isD; omega), dat_upD (by unfold isD; omega), dat_upD (by unfold isD; omega), dat_upD (by unfold isD; omega), dat_upD (by unfold isD; omega), hI2, dat_set3, hI1, dat_upD (by unfold isD; omega), dat_upD (by unfold isD; omega), dat_upD (by unfold isD; omega), h, hF]
        · rw [up_na (by omega), up_na (by omega), up_na (by omega), up_na (by omega), up_na (by omega), hI2, set3_n (by omega), hI1, up_na (by omega), up_na (by omega), up_na (by omega)]
  · refine Agr.upd ?_
    refine ⟨.int (-1), 1, fun I J h => QC.mk1 (I' := I) (J' := J) ?_ h Fc.refl, fun I J h => QM.mk1 (I' := I) (J' := J) ?_ rfl Fm.refl⟩
    · rw [E119_0, C_isLine _ _ _ 0 (Or.inr ⟨hl, rfl⟩), evK_s, E119_6, if_pos rfl, E164_0, evK_s, E119_14]
    · have bad : ev (d + 40) 198 31 [.ref 46, .int x, .int y, .int z] [] (S sl p I J) = some (some (.int (-1)), S sl p (up2 I 46 0 1) J) := by rw [E198_31, E178_0, evK_s, E198_36]
      rw [E198_0, sp_isFrom, evK_s, E198_8]
      by_cases hx : ∃ s, s ≤ 359 ∧ x = nI s
      · rw [show (if x < 0 then (0 : Int32) else if x ≤ 359 then 1 else 0) = 1 from by obtain ⟨s, hs, rfl⟩ := hx; exact wi_y (n := 359) hs (by decide), if_neg (by decide), sp_isFrom, evK_s, E198_18]
        by_cases hy : ∃ s, s ≤ 90 ∧ y = nI s
        · rw [show (if y < 0 then (0 : Int32) else if y ≤ 90 then 1 else 0) = 1 from by obtain ⟨s, hs, rfl⟩ := hy; exact wi_y (n := 90) hs (by decide), if_neg (by decide), sp_isFrom, evK_s, E198_28]
          by_cases hz : ∃ s, 1 ≤ s ∧ s ≤ 100000 ∧ z = nI s
          · obtain ⟨s, hs, rfl⟩ := hx
            obtain ⟨q, hq, rfl⟩ := hy
            obtain ⟨h, h1, h2, rfl⟩ := hz
            exact absurd ⟨s, q, h, by omega, hq, h1, h2, rfl, rfl, rfl⟩ hl
          · rw [show (if z < 1 then (0 : Int32) else if z ≤ 100000 then 1 else 0) = 0 from wj_n (a := 1) (n := 100000) (by decide) (by decide) hz, if_pos rfl, bad]
        · rw [show (if y < 0 then (0 : Int32) else if y ≤ 90 then 1 else 0) = 0 from wi_n (n := 90) (by decide) hy, if_pos rfl, bad]
      · rw [show (if x < 0 then (0 : Int32) else if x ≤ 359 then 1 else 0) = 0 from wi_n (n := 359) (by decide) hx, if_pos rfl, bad]
end LIN
