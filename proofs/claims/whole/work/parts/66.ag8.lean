section AG8
variable {d sl : Nat} {p : Nat → Nat} {I I' : Nat → Nat → Int32} {J J' : Nat → Nat → Int64} {D : Nat → Nat → Int32} {e : Nat}
theorem amn_c {f g : Nat → Nat} : ∀ n, (∀ s, s ≤ n → f s = g s) → amn f n = amn g n
  | 0, _ => rfl
  | n + 1, h => by
    have ih := amn_c n (fun s hs => h s (by omega))
    have := amn_le (f := g) n
    rw [amn_s, amn_s, ih, h (n + 1) (by omega), h (amn g n) (by omega)]
theorem neS_c {M M' : Nat → V3} {n : Nat} {v : V3} (h0 : 0 < n) (h : ∀ s, s < n → M s = M' s) : neS M n v = neS M' n v := amn_c _ (fun s hs => by rw [h s (by omega)])
theorem C_neara {a n : Nat} (ha : ob a 0) (hs : SNS I) (va : bv (vec J a)) (hn : n ≤ 30) (hv : ∀ s, s < n → bv (vec J (800 + s))) : den (d + 2) 32 [.ref 2, .ref a, .ref 14, .int (nI n)] (S sl p I J) = some (some (.int (if n = 0 then -1 else nI (neS (fun s => vec J (800 + s)) n (vec J a)))), S sl p I J) := by
  obtain ⟨⟨x, y⟩, e1, h0, h1⟩ := for_ex (M := Int32 × Int32) (fun k x => ev (d + 2) 32 10 [.ref 2, .ref a, .ref 14, .int (nI n), .int x.1, .int x.2, .int k, .retAddr 0] [] (S sl p I J)) n
    (fun k x => (k = 0 → x = (-1, 91)) ∧ (0 < k → x = (nI (amn (fun s => va2 (vec J a) (vec J (800 + s))) (k - 1)), nI (va2 (vec J a) (vec J (800 + amn (fun s => va2 (vec J a) (vec J (800 + s))) (k - 1)))))))
    (by
      rintro k ⟨x, y⟩ hk ⟨g0, g1⟩
      simp only
      have b1 := va2_le va (hv k hk)
      rw [E32a_10 _ _ _ _ ha, if_pos (lt_n hk (by omega)), if_pos (lt_n (by omega) (by omega)), ck_if (ixb_n (by omega) (by decide)), cl_n (by omega), sp_angleOfC ha (ob800 (by omega)) hs va (hv k hk), evK_s, E32a_32 _ _ _ _ _ ha, nI_1]
      by_cases q : k = 0
      · subst q
        have := g0 rfl
        cases this
        rw [if_pos (show nI (va2 (vec J a) (vec J (800 + 0))) < 91 from lt_n (n := 91) (by omega) (by decide))]
        exact ⟨(nI 0, nI (va2 (vec J a) (vec J (800 + 0)))), rfl, fun w => absurd w (by omega), fun _ => rfl⟩
      · have := g1 (by omega)
        cases this
        have hm := amn_le (f := fun s => va2 (vec J a) (vec J (800 + s))) (k - 1)
        have b2 := va2_le va (hv (amn (fun s => va2 (vec J a) (vec J (800 + s))) (k - 1)) (by omega))
        have es := amn_s (f := fun s => va2 (vec J a) (vec J (800 + s))) (n := k - 1)
        rw [show k - 1 + 1 = k by omega] at es
        by_cases r : va2 (vec J a) (vec J (800 + k)) < va2 (vec J a) (vec J (800 + amn (fun s => va2 (vec J a) (vec J (800 + s))) (k - 1)))
        · rw [if_pos ((nI_lt_iff (by omega) (by omega)).mpr r)]
          rw [if_pos r] at es
          exact ⟨(nI k, nI (va2 (vec J a) (vec J (800 + k)))), rfl, fun w => absurd w (by omega), fun _ => by rw [Nat.add_sub_cancel, es]⟩
        · rw [if_neg (fun w => r ((nI_lt_iff (by omega) (by omega)).mp w))]
          rw [if_neg r] at es
          exact ⟨(_, _), rfl, fun w => absurd w (by omega), fun _ => by rw [Nat.add_sub_cancel, es]; rfl⟩)
    (-1, 91) ⟨fun _ => rfl, fun w => absurd w (by omega)⟩
  simp only at e1
  rw [E32a_0 _ ha, e1, E32a_10 _ _ _ _ ha, if_neg (nlt_n (by omega))]
  by_cases q : n = 0
  · have := h0 q
    cases this
    rw [if_pos q]
  · have := h1 (by omega)
    cases this
    rw [if_neg q]
    rfl
theorem C_nearb {a n : Nat} (ha : ob a 0) (hs : SNS I) (va : bv (vec J a)) (hn : n ≤ 30) (hv : ∀ s, s < n → bv (vec J (900 + s))) : den (d + 2) 32 [.ref 2, .ref a, .ref 24, .int (nI n)] (S sl p I J) = some (some (.int (if n = 0 then -1 else nI (neS (fun s => vec J (900 + s)) n (vec J a)))), S sl p I J) := by
  obtain ⟨⟨x, y⟩, e1, h0, h1⟩ := for_ex (M := Int32 × Int32) (fun k x => ev (d + 2) 32 10 [.ref 2, .ref a, .ref 24, .int (nI n), .int x.1, .int x.2, .int k, .retAddr 0] [] (S sl p I J)) n
    (fun k x => (k = 0 → x = (-1, 91)) ∧ (0 < k → x = (nI (amn (fun s => va2 (vec J a) (vec J (900 + s))) (k - 1)), nI (va2 (vec J a) (vec J (900 + amn (fun s => va2 (vec J a) (vec J (900 + s))) (k - 1)))))))
    (by
      rintro k ⟨x, y⟩ hk ⟨g0, g1⟩
      simp only
      have b1 := va2_le va (hv k hk)
      rw [E32b_10 _ _ _ _ ha, if_pos (lt_n hk (by omega)), if_pos (lt_n (by omega) (by omega)), ck_if (ixb_n (by omega) (by decide)), cl_n (by omega), sp_angleOfC ha (ob900 (by omega)) hs va (hv k hk), evK_s, E32b_32 _ _ _ _ _ ha, nI_1]
      by_cases q : k = 0
      · subst q
        have := g0 rfl
        cases this
        rw [if_pos (show nI (va2 (vec J a) (vec J (900 + 0))) < 91 from lt_n (n := 91) (by omega) (by decide))]
        exact ⟨(nI 0, nI (va2 (vec J a) (vec J (900 + 0)))), rfl, fun w => absurd w (by omega), fun _ => rfl⟩
      · have := g1 (by omega)
        cases this
        have hm := amn_le (f := fun s => va2 (vec J a) (vec J (900 + s))) (k - 1)
        have b2 := va2_le va (hv (amn (fun s => va2 (vec J a) (vec J (900 + s))) (k - 1)) (by omega))
        have es := amn_s (f := fun s => va2 (vec J a) (vec J (900 + s))) (n := k - 1)
        rw [show k - 1 + 1 = k by omega] at es
        by_cases r : va2 (vec J a) (vec J (900 + k)) < va2 (vec J a) (vec J (900 + amn (fun s => va2 (vec J a) (vec J (900 + s))) (k - 1)))
        · rw [if_pos ((nI_lt_iff (by omega) (by omega)).mpr r)]
          rw [if_pos r] at es
          exact ⟨(nI k, nI (va2 (vec J a) (vec J (900 + k)))), rfl, fun w => absurd w (by omega), fun _ => by rw [Nat.add_sub_cancel, es]⟩
        · rw [if_neg (fun w => r ((nI_lt_iff (by omega) (by omega)).mp w))]
          rw [if_neg r] at es
          exact ⟨(_, _), rfl, fun w => absurd w (by omega), fun _ => by rw [Nat.add_sub_cancel, es]; rfl⟩)
    (-1, 91) ⟨fun _ => rfl, fun w => absurd w (by omega)⟩
  simp only at e1
  rw [E32b_0 _ ha, e1, E32b_10 _ _ _ _ ha, if_neg (nlt_n (by omega))]
  by_cases q : n = 0
  · have := h0 q
    cases this
    rw [if_pos q]
  · have := h1 (by omega)
    cases this
    rw [if_neg q]
    rfl
theorem M_nearest (hD : GD D) (h : dat I = D) {k n : Nat} (hk : k < nc D) (hn : 0 < n) (hn3 : n ≤ 30) (h31 : I 46 31 = nI n) (hv : ∀ s, s < n → bv (mvI I s)) : den (d + 7) 256 [.ref 46, .int (nI k)] (S sl p I J) = some (some (.int (nI (neS (mvI I) n (pv D k)))), S sl p I J) := by
  have n60 := hD.n60
  obtain ⟨x, e1, hx⟩ := for_exk (M := Nat) (fun j x => ev (d + 7) 256 4 [.ref 46, .int (nI k), .int (nI x), .int j] [] (S sl p I J)) 1 (n - 1) (fun j x => x = amn (fun s => va2 (pv D k) (mvI I s)) j)
    (by
      intro j x hj hx
      have hm := amn_le (f := fun s => va2 (pv D k) (mvI I s)) j
      have b1 := va2_le (hD.bp hk) (hv (1 + j) (by omega))
      have b2 := va2_le (hD.bp hk) (hv (amn (fun s => va2 (pv D k) (mvI I s)) j) (by omega))
      have es := amn_s (f := fun s => va2 (pv D k) (mvI I s)) (n := j)
      rw [Nat.add_comm j 1] at es
      rw [E256_4, h31, if_pos (lt_n (by omega) (by omega)), M_angMean hD h hk (by omega) (hv _ (by omega)), evK_s, E256_18, hx, M_angMean hD h hk (by omega) (hv _ (by omega)), evK_s, E256_24, nI_1, Nat.add_comm j 1, es]
      by_cases r : va2 (pv D k) (mvI I (1 + j)) < va2 (pv D k) (mvI I (amn (fun s => va2 (pv D k) (mvI I s)) j))
      · rw [if_pos ((nI_lt_iff (by omega) (by omega)).mpr r), if_pos r]
        exact ⟨_, rfl, rfl⟩
      · rw [if_neg (fun w => r ((nI_lt_iff (by omega) (by omega)).mp w)), if_neg r]
        exact ⟨_, rfl, rfl⟩)
    0 rfl
  rw [show 1 + (n - 1) = n by omega] at e1
  rw [E256_0]
  refine Eq.trans e1 ?_
  rw [E256_4, h31, if_neg (nlt_n (by omega)), hx]
  rfl
theorem A_nearestSet (hD : GD D) (hL : LabD D) (x w : Int32) : Agr (d + 40) sl p D e 139 257 [.int x, .int w] := by
  have n60 := hD.n60
  have h30 := nst_30 hD hL
  by_cases ha : ∃ s, s ≤ 1 ∧ w = nI s
  · obtain ⟨k, hk, rfl⟩ := ha
    have w : (if nI k < 0 then (0 : Int32) else if nI k ≤ 1 then 1 else 0) = 1 := wi_y (n := 1) hk (by decide)
    by_cases hx : ∃ i, i < nc D ∧ x = nI i
    · obtain ⟨i, hi, rfl⟩ := hx
      have hmv : ∀ {I : Nat → Nat → Int32}, MeanAt I D (nst D) → ∀ s, s < nst D → mvI I s = meO D s := fun h s hs => h.v hs (meO_b hD hL hs)
      have key : ∀ v st, (∀ I J, CK p I J D e → (∀ s, s < nst D → Msd I J D s) → ev (d + 40) 139 74 [.ref 1, .int (nI i), .int (nI k), .ref (300 + p i), .retAddr 0] [.int (if nst D = 0 then -1 else nI (neS (meO D) (nst D) (pv D i)))] (S sl p I J) = some (some (.int v), S sl p (up2 I 1 8 st) J)) → (∀ I J, dat I = D → SetAt I D → MeanAt I D (nst D) → ev (d + 40) 257 33 [.ref 46, .int (nI i), .int (nI k), .retAddr 0] [] (S sl p I J) = some (some (.int v), S sl p (up2 I 46 0 st) J)) → Agr (d + 40) sl p D e 139 257 [.int (nI i), .int (nI k)] := by
        intro v st h1 h2
        refine ⟨.int v, st, fun I J h => ?_, fun I J h => ?_⟩
        · obtain ⟨I2, J2, b1, b2, b3, b4, b5, -⟩ := C_measureAll (d := d + 34) (sl := sl) h
          refine QC.mk1 (I' := I2) (J' := J2) ?_ b2 b5
          have hp := h.sv.p60 i
          rw [E139_0, sp_within, w, evK_s, E139_6, if_neg (by decide), C_hasCrack h.sv, cr_y hD hi, evK_s, E139_23, if_neg (by decide), b1, evK_v, E139_39 _ _ h.sv.p60, ck_if (ixb_n (by omega) (by decide)), cl_n (by omega), b3.sets, C_neara (obP hp) b2.sv.sn (by rw [b2.sv.pole i hi]; exact hD.bp hi) (by omega) (fun s hs => by rw [(b4 s hs).mean]; exact meO_b hD hL hs), evK_s, b2.sv.pole i hi]
          have e3 : (if nst D = 0 then (-1 : Int32) else nI (neS (fun s => vec J2 (800 + s)) (nst D) (pv D i))) = if nst D = 0 then -1 else nI (neS (meO D) (nst D) (pv D i)) := by
            by_cases q : nst D = 0
            · rw [if_pos q, if_pos q]
            · rw [if_neg q, if_neg q, neS_c (M' := meO D) (by omega) (fun s hs => (b4 s hs).mean)]
          rw [e3, h1 I2 J2 b2 b4]
        · obtain ⟨I1, J1, a1, a2, a3, a4, a5⟩ := M_means (d := d + 29) (sl := sl) (p := p) (J := J) hD h
          refine QM.mk1 (I' := I1) (J' := J1) ?_ (a2.trans h.symm) a5
          rw [E257_0, sp_isFrom, w, evK_s, E257_6, if_neg (by decide), M_isCrack hD h, cr_y hD hi, evK_s, E257_20, if_neg (by decide), a1, evK_v, h2 I1 J1 a2 a3 a4]
      by_cases q : nst D = 0
      · refine key (-1) 5 (fun I J h hM => ?_) (fun I J h hS hM => ?_)
        · rw [if_pos q, E139_74 _ _ _ (obP (h.sv.p60 i)), if_pos (by decide), E164_0, evK_s, E139_86 _ _ _ _ (obP (h.sv.p60 i))]
        · rw [E257_33, hS.e31, if_pos (by rw [q]; rfl), E178_0, evK_s, E257_45]
      · have hlt : neS (meO D) (nst D) (pv D i) < nst D := neS_lt (by omega)
        have hk2 : k = 0 ∨ k = 1 := by omega
        rcases hk2 with rfl | rfl
        · refine key (nI (neS (meO D) (nst D) (pv D i))) 0 (fun I J h hM => ?_) (fun I J h hS hM => ?_)
          · rw [if_neg q, E139_74 _ _ _ (obP (h.sv.p60 i)), if_neg (nI_pos (by omega)), if_pos (by decide), E139_115 _ _ _ _ (obP (h.sv.p60 i)), E163_0, evK_s, E139_118 _ _ _ _ (obP (h.sv.p60 i))]
          · rw [E257_33, hS.e31, if_neg (show ¬ nI (nst D) = 0 from fun w => q (nI_ij (b := 0) (by omega) (by omega) w)), M_nearest hD h hi (by omega) (by omega) hS.e31 (fun s hs => by rw [hmv hM s hs]; exact meO_b hD hL hs), evK_s, E257_51, if_pos (by decide), E257_67, E179_0, evK_s, E257_70, neS_c (M' := meO D) (by omega) (hmv hM)]
        · refine key (nI (va2 (pv D i) (meO D (neS (meO D) (nst D) (pv D i))))) 0 (fun I J h hM => ?_) (fun I J h hS hM => ?_)
          · rw [if_neg q, E139_74 _ _ _ (obP (h.sv.p60 i)), if_neg (nI_pos (by omega)), if_neg (by decide), ck_if (ixb_n (by omega) (by decide)), cl_n (by omega), sp_angleOfC (obP (h.sv.p60 i)) (ob800 (by omega)) h.sv.sn (by rw [h.sv.pole i hi]; exact hD.bp hi) (by rw [(hM _ hlt).mean]; exact meO_b hD hL hlt), evK_s, E139_115 _ _ _ _ (obP (h.sv.p60 i)), E163_0, evK_s, E139_118 _ _ _ _ (obP (h.sv.p60 i)), h.sv.pole i hi, (hM _ hlt).mean]
          · rw [E257_33, hS.e31, if_neg (show ¬ nI (nst D) = 0 from fun w => q (nI_ij (b := 0) (by omega) (by omega) w)), M_nearest hD h hi (by omega) (by omega) hS.e31 (fun s hs => by rw [hmv hM s hs]; exact meO_b hD hL hs), evK_s, E257_51, if_neg (by decide), neS_c (M' := meO D) (by omega) (hmv hM), M_angMean hD h hi (by omega) (by rw [hmv hM _ hlt]; exact meO_b hD hL hlt), hmv hM _ hlt, evK_s, E257_67, E179_0, evK_s, E257_70]
    · refine ⟨.int (-1), 2, fun I J h => QC.mk1 (I' := I) (J' := J) ?_ h Fc.refl, fun I J h => QM.mk1 (I' := I) (J' := J) ?_ rfl Fm.refl⟩
      · simp only [E139_0, E139_6, E139_14, E139_23, E139_31, E139_39, E139_74, E139_86, E139_115, E139_118, h.sv.p60, implies_true, w, C_hasCrack h.sv, cr_n hD hx, evK_s, evK_v, E163_0, E164_0, E178_0, E179_0, E180_0, sp_within, sp_isFrom, n10, eq_self, if_true, if_false]
      · simp only [E257_0, E257_6, E257_14, E257_20, E257_28, E257_33, E257_45, E257_51, E257_67, E257_70, w, M_isCrack hD h, cr_n hD hx, evK_s, evK_v, E163_0, E164_0, E178_0, E179_0, E180_0, sp_within, sp_isFrom, n10, eq_self, if_true, if_false]
  · have w : (if w < 0 then (0 : Int32) else if w ≤ 1 then 1 else 0) = 0 := wi_n (n := 1) (by decide) ha
    refine ⟨.int (-1), 1, fun I J h => QC.mk1 (I' := I) (J' := J) ?_ h Fc.refl, fun I J h => QM.mk1 (I' := I) (J' := J) ?_ rfl Fm.refl⟩
    · simp only [E139_0, E139_6, E139_14, E139_23, E139_31, E139_39, E139_74, E139_86, E139_115, E139_118, w, evK_s, evK_v, E163_0, E164_0, E178_0, E179_0, E180_0, sp_within, sp_isFrom, n10, eq_self, if_true, if_false]
    · simp only [E257_0, E257_6, E257_14, E257_20, E257_28, E257_33, E257_45, E257_51, E257_67, E257_70, w, evK_s, evK_v, E163_0, E164_0, E178_0, E179_0, E180_0, sp_within, sp_isFrom, n10, eq_self, if_true, if_false]
end AG8
