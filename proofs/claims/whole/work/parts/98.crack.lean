section CRK
variable {d sl : Nat} {p : Nat → Nat} {I I' : Nat → Nat → Int32} {J J' : Nat → Nat → Int64} {D D' : Nat → Nat → Int32} {e : Nat}
theorem C_lay {a : Nat} (ha : a < 60) (x y : Int32) : den (d + 1) 10 [.ref (200 + a), .int x, .int y] (S sl p I J) = some (none, S sl p (up2 (up2 (up2 (up2 I (200 + a) 3 x) (200 + a) 4 y) (200 + a) 6 (plD x y)) (200 + a) 7 (100 * plD x y + y)) J) := by
  rw [E10_0 _ _ ha, sp_plainP, evK_s, E10_16 _ _ _ ha ha, up_s, E174_0, evK_s, E10_28 _ _ _ ha ha]
/-- a crack more -/
def CrkD (D : Nat → Nat → Int32) (F : Nat → Nat → Int32) (l : Nat) (t : Nat) (q : Nat) (a : Nat) : Prop := (F 46 2 = nI (nc D + 1)) ∧ (F 50 (nc D) = nI l) ∧ (F 51 (nc D) = nI t) ∧ (F 52 (nc D) = nI q) ∧ (F 53 (nc D) = nI a) ∧ (pv F (nc D) = poV (nI t) (nI q)) ∧ (∀ c k, ¬ (c = 46 ∧ k = 2) → ¬ ((50 ≤ c ∧ c < 57) ∧ k = nc D) → F c k = D c k)
theorem CrkD.f2 {D : Nat → Nat → Int32} {F : Nat → Nat → Int32} {l : Nat} {t : Nat} {q : Nat} {a : Nat} (h : CrkD D F l t q a) : F 46 2 = nI (nc D + 1) := h.1
theorem CrkD.f50 {D : Nat → Nat → Int32} {F : Nat → Nat → Int32} {l : Nat} {t : Nat} {q : Nat} {a : Nat} (h : CrkD D F l t q a) : F 50 (nc D) = nI l := h.2.1
theorem CrkD.f51 {D : Nat → Nat → Int32} {F : Nat → Nat → Int32} {l : Nat} {t : Nat} {q : Nat} {a : Nat} (h : CrkD D F l t q a) : F 51 (nc D) = nI t := h.2.2.1
theorem CrkD.f52 {D : Nat → Nat → Int32} {F : Nat → Nat → Int32} {l : Nat} {t : Nat} {q : Nat} {a : Nat} (h : CrkD D F l t q a) : F 52 (nc D) = nI q := h.2.2.2.1
theorem CrkD.f53 {D : Nat → Nat → Int32} {F : Nat → Nat → Int32} {l : Nat} {t : Nat} {q : Nat} {a : Nat} (h : CrkD D F l t q a) : F 53 (nc D) = nI a := h.2.2.2.2.1
theorem CrkD.fp {D : Nat → Nat → Int32} {F : Nat → Nat → Int32} {l : Nat} {t : Nat} {q : Nat} {a : Nat} (h : CrkD D F l t q a) : pv F (nc D) = poV (nI t) (nI q) := h.2.2.2.2.2.1
theorem CrkD.fo {D : Nat → Nat → Int32} {F : Nat → Nat → Int32} {l : Nat} {t : Nat} {q : Nat} {a : Nat} (h : CrkD D F l t q a) : ∀ c k, ¬ (c = 46 ∧ k = 2) → ¬ ((50 ≤ c ∧ c < 57) ∧ k = nc D) → F c k = D c k := h.2.2.2.2.2.2
variable {F : Nat → Nat → Int32} {l t q a : Nat}
theorem CrkD.tnc (h : CrkD D F l t q a) (hc : nc D < 60) : nc F = nc D + 1 := by unfold nc; rw [h.f2]; exact cl_n (by show nc D + 1 < _; omega)
theorem CrkD.tpv (h : CrkD D F l t q a) {i : Nat} (hi : i ≠ nc D) : pv F i = pv D i := by unfold pv; rw [h.fo _ _ (by omega) (by omega), h.fo _ _ (by omega) (by omega), h.fo _ _ (by omega) (by omega)]
theorem CrkD.tav (h : CrkD D F l t q a) (i : Nat) : av F i = av D i := by unfold av; rw [h.fo _ _ (by omega) (by omega), h.fo _ _ (by omega) (by omega), h.fo _ _ (by omega) (by omega)]
theorem CrkD.gd (h : CrkD D F l t q a) (hD : GD D) (hc : nc D < 60) (hl : l < nl D) (ht : t < 360) (hq : q ≤ 90) (ha : a ≤ 100000) : GD F := by
  have en := h.tnc hc
  have elk : lk F = lk D := by unfold lk; rw [h.fo _ _ (by omega) (by omega)]
  have enl : nl F = nl D := by unfold nl; rw [h.fo _ _ (by omega) (by omega)]
  have els : lst F = lst D := by unfold lst; rw [h.fo _ _ (by omega) (by omega)]
  have ecp : cp F = cp D := by unfold cp; rw [h.fo _ _ (by omega) (by omega)]
  refine ⟨by omega, by rw [en]; exact h.f2, by rw [enl]; exact hD.m6, by rw [enl, h.fo _ _ (by omega) (by omega)]; exact hD.em, by rw [elk]; exact hD.k1, by rw [elk]; exact hD.k45, by rw [elk, h.fo _ _ (by omega) (by omega)]; exact hD.ek, by rw [els]; exact hD.s2, by rw [els]; exact hD.s20, by rw [els, h.fo _ _ (by omega) (by omega)]; exact hD.es, by rw [ecp]; exact hD.c1, by rw [ecp]; exact hD.c20, by rw [ecp, h.fo _ _ (by omega) (by omega)]; exact hD.ec, by rw [h.fo _ _ (by omega) (by omega)]; exact hD.sd, by rw [h.fo _ _ (by omega) (by omega)]; exact hD.sp, by rw [h.fo _ _ (by omega) (by omega)]; exact hD.sf, by rw [h.fo _ _ (by omega) (by omega)]; exact hD.ss, fun l' hl' => ?_, fun i hi => ?_⟩
  · rw [enl] at hl'
    rw [h.fo _ _ (by omega) (by omega), h.fo _ _ (by omega) (by omega), h.fo _ _ (by omega) (by omega), h.tav]
    exact hD.li l' hl'
  · rw [en] at hi
    rw [enl]
    by_cases c : i = nc D
    · subst c
      exact ⟨l, t, q, a, hl, ht, hq, ha, h.f50, h.f51, h.f52, h.f53, h.fp⟩
    · rw [h.fo _ _ (by omega) (by omega), h.fo _ _ (by omega) (by omega), h.fo _ _ (by omega) (by omega), h.fo _ _ (by omega) (by omega), h.tpv c]
      exact hD.cr i (by omega)
theorem C_addCrack (h : CK p I J D e) (hF : CrkD D F l t q a) (he : e < 1000) (hc : nc D < 60) (hl : l < nl D) (ht : t < 360) (hq : q ≤ 90) (ha : a ≤ 100000) : ∃ I' J', den (d + 5) 62 [.ref 4, .int (nI l), .int (nI t), .int (nI q), .int (nI a)] (S sl p I J) = some (some (.int (nI (nc D))), S sl p I' J') ∧ CK p I' J' F (e + 1) ∧ Fc I J I' J' := by
  have hD := h.sv.gd
  have m6 := hD.m6
  have hs := h.sv
  have gF := hF.gd hD hc hl ht hq ha
  have enF := hF.tnc hc
  obtain ⟨c, ec⟩ : ∃ c, c = nc D := ⟨_, rfl⟩
  have hP : p c < 60 := hs.p60 c
  have cnt : I 4 8 = nI c := by rw [ec]; exact hs.count
  -- the crack's cells
  obtain ⟨I1, hI1⟩ : ∃ I1, I1 = up2 (up2 (up2 (up2 (up2 (up2 I (200 + p c) 2 (nI l)) (200 + p c) 5 (nI a)) (200 + p c) 3 (nI t)) (200 + p c) 4 (nI q)) (200 + p c) 6 (plD (nI t) (nI q))) (200 + p c) 7 (100 * plD (nI t) (nI q) + nI q) := ⟨_, rfl⟩
  have g2 : I1 (200 + p c) 2 = nI l := by rw [hI1, up_nk (by omega), up_nk (by omega), up_nk (by omega), up_nk (by omega), up_nk (by omega), up_s]
  have g5 : I1 (200 + p c) 5 = nI a := by rw [hI1, up_nk (by omega), up_nk (by omega), up_nk (by omega), up_nk (by omega), up_s]
  have g3 : I1 (200 + p c) 3 = nI t := by rw [hI1, up_nk (by omega), up_nk (by omega), up_nk (by omega), up_s]
  have g4 : I1 (200 + p c) 4 = nI q := by rw [hI1, up_nk (by omega), up_nk (by omega), up_s]
  have g6 : I1 (200 + p c) 6 = plD (nI t) (nI q) := by rw [hI1, up_nk (by omega), up_s]
  have g7 : I1 (200 + p c) 7 = 100 * plD (nI t) (nI q) + nI q := by rw [hI1, up_s]
  have go : ∀ b k, ¬ (b = 200 + p c ∧ 2 ≤ k ∧ k < 8) → I1 b k = I b k := fun b k w => by rw [hI1, up_n (by omega), up_n (by omega), up_n (by omega), up_n (by omega), up_n (by omega), up_n (by omega)]
  have jo : ∀ b k, b ≠ 300 + p c → setV J (300 + p c) (poV (nI t) (nI q)) b k = J b k := fun b k w => setV_ne w
  have jl : vec (setV J (300 + p c) (poV (nI t) (nI q))) (300 + p c) = poV (nI t) (nI q) := vec_setV
  have e1 : den (d + 5) 62 [.ref 4, .int (nI l), .int (nI t), .int (nI q), .int (nI a)] (S sl p I J) = ev (d + 5) 62 45 [.ref 4, .int (nI l), .int (nI t), .int (nI q), .int (nI a), .ref (200 + p c), .retAddr 0, .retAddr 0] [] (S sl p I1 (setV J (300 + p c) (poV (nI t) (nI q)))) := by
    rw [E62_0 _ _ _ _ hs.p60, cnt, ck_if (ixb_n (by omega) (by decide)), cl_n (by omega), C_lay hP, evK_v, ← hI1, E62_31 _ _ _ _ hP, sp_poleInto ht hq (obP hP) (fun k hk => by rw [go _ _ (by omega)]; exact hs.sn k hk), evK_v]
  rw [e1]
  generalize setV J (300 + p c) (poV (nI t) (nI q)) = J1 at jo jl
  have jv : ∀ b, b ≠ 300 + p c → vec J1 b = vec J b := fun b w => by unfold vec; rw [jo _ _ w, jo _ _ w, jo _ _ w]
  have va : vec J1 (100 + l) = av D l := by rw [jv _ (by omega)]; exact (hs.tr l hl).2.2.2
  have ewt : wt F c = wtv (nI (cp D)) (poV (nI t) (nI q)) (av D l) := by
    unfold wt
    rw [ec, hF.fp, hF.f50, cl_n (by omega), hF.tav, hF.fo _ _ (by omega) (by omega), hD.ec]
  have e2 : ev (d + 5) 62 45 [.ref 4, .int (nI l), .int (nI t), .int (nI q), .int (nI a), .ref (200 + p c), .retAddr 0, .retAddr 0] [] (S sl p I1 J1) = ev (d + 5) 62 68 [.ref 4, .int (nI l), .int (nI t), .int (nI q), .int (nI a), .ref (200 + p c), .int 0, .retAddr 0] [] (S sl p (up2 I1 (200 + p c) 8 (wt F c)) J1) := by
    rw [E62_45 _ _ _ _ hP, ck_if (ixb_n (by omega) (by decide)), cl_n (by omega), sp_weightByC (c := cp D) (obP hP) (ob100 (by omega)) (by rw [jl]; exact poV_b _ _) (by rw [va]; exact hD.ba hl) (by rw [go _ _ (by omega)]; exact hs.cap) hD.c20, evK_s, E62_62 _ _ _ _ _ hP hP, jl, va, ← ewt]
  rw [e2]
  have vpl : ∀ j, j ≤ c → vec J1 (300 + p j) = pv F j := fun j hj => by
    by_cases w : j = c
    · rw [w, jl, ec, hF.fp]
    · have : p j ≠ p c := fun y => w (hs.pij j c (by omega) (by omega) y)
      rw [jv _ (by omega), hF.tpv (by omega)]
      exact hs.pole j (by omega)
  obtain ⟨I2, hI2⟩ : ∃ I2, I2 = up2 I1 (200 + p c) 8 (wt F c) := ⟨_, rfl⟩
  have i8 : I2 (200 + p c) 8 = wt F c := by rw [hI2, up_s]
  have io : ∀ b k, ¬ (b = 200 + p c ∧ k = 8) → I2 b k = I1 b k := fun b k w => by rw [hI2, up_n w]
  rw [← hI2]
  have slot : ∀ j, j < 60 → I2 (200 + j) 0 = nI j := fun j hj => by rw [io _ _ (by omega), go _ _ (by omega)]; exact hs.slot j hj
  obtain ⟨I3, e3, z1, z2, z3⟩ := for_ex (M := Nat → Nat → Int32) (fun j x => ev (d + 5) 62 68 [.ref 4, .int (nI l), .int (nI t), .int (nI q), .int (nI a), .ref (200 + p c), .int j, .retAddr 0] [] (S sl p x J1)) (c + 1) (fun j x => (∀ i, i ≤ c → i < j → x 10 (60 * p c + p i) = nI (nb F c i) ∧ x 10 (60 * p i + p c) = nI (nb F i c)) ∧ (∀ u v, u < 60 → v < 60 → u ≠ p c → v ≠ p c → x 10 (60 * u + v) = I2 10 (60 * u + v)) ∧ ∀ b k, b ≠ 10 → x b k = I2 b k)
    (by
      rintro j x hj ⟨z1, z2, z3⟩
      have hj60 : j < 60 := by omega
      have hpj := hs.p60 j
      have s1 : x (200 + p c) 0 = nI (p c) := by rw [z3 _ _ (by omega)]; exact slot _ hP
      have s2 : x (200 + p j) 0 = nI (p j) := by rw [z3 _ _ (by omega)]; exact slot _ hpj
      have cn : x 4 8 = nI c := by rw [z3 _ _ (by omega), io _ _ (by omega), go _ _ (by omega)]; exact cnt
      have m1 : nI (p c) * 60 + nI (p j) = nI (60 * p c + p j) := by rw [show (60 : Int32) = nI 60 from rfl, nI_mul, nI_add, Nat.mul_comm]
      have m2 : nI (p j) * 60 + nI (p c) = nI (60 * p j + p c) := by rw [show (60 : Int32) = nI 60 from rfl, nI_mul, nI_add, Nat.mul_comm]
      have ean : va2 (vec J1 (300 + p c)) (vec J1 (300 + p j)) = nb F c j := by rw [vpl c (Nat.le_refl c), vpl j (by omega)]; rfl
      rw [E62_68 _ _ _ _ _ hs.p60 hP, cn, if_pos ((nI_le_iff (by omega) (by omega)).mpr (by omega)), ck_if (ixb_n (by omega) (by decide)), cl_n (by omega), sp_angleOfC (obP hP) (obP hpj) (fun k hk => by rw [z3 _ _ (by omega), io _ _ (by omega), go _ _ (by omega)]; exact hs.sn k hk) (by rw [vpl c (Nat.le_refl c)]; exact gF.bp (by omega)) (by rw [vpl j (by omega)]; exact gF.bp (by omega)), evK_s, E62_99 _ _ _ _ _ _ hs.p60 hP, ean, ck_if (ixb_n (by omega) (by decide)), cl_n (by omega), s1, s2, m1, ck_if (ixb_n (by omega) (by decide)), ck_if (ixb_n (by omega) (by decide)), cl_n (by omega), up_na (a := 10) (by omega), up_na (a := 10) (by omega), s1, s2, m2, ck_if (ixb_n (by omega) (by decide)), cl_n (by omega), nI_1]
      refine ⟨_, rfl, fun i hi hij => ?_, fun u v hu hv h1 h2 => ?_, fun b k hb => by rw [up_na hb, up_na hb]; exact z3 b k hb⟩
      · have hpi := hs.p60 i
        by_cases w : i = j
        · subst w
          refine ⟨?_, ?_⟩
          · by_cases y : 60 * p c + p i = 60 * p i + p c
            · rw [y, up_s]
            · rw [up_nk y, up_s]
          · rw [up_s, nb_sy]
        · have hne : p i ≠ p j := fun y => w (hs.pij i j (by omega) (by omega) y)
          obtain ⟨y1, y2⟩ := z1 i hi (by omega)
          refine ⟨?_, ?_⟩
          · by_cases y : 60 * p c + p i = 60 * p j + p c
            · have h1 : p c = p j := by omega
              have h2 : p i = p c := by omega
              exact absurd (h2.trans h1) hne
            · rw [up_nk y, up_nk (by omega)]; exact y1
          · by_cases y : 60 * p i + p c = 60 * p c + p j
            · have h1 : p i = p c := by omega
              have h2 : p c = p j := by omega
              exact absurd (h1.trans h2) hne
            · rw [up_nk (by omega), up_nk y]; exact y2
      · rw [up_nk (by omega), up_nk (by omega)]
        exact z2 u v hu hv h1 h2)
    I2 ⟨fun i _ w => absurd w (Nat.not_lt_zero _), fun _ _ _ _ _ _ => rfl, fun _ _ _ => rfl⟩
  have o3 : ∀ b k, b ≠ 10 → ¬ (b = 200 + p c ∧ 2 ≤ k ∧ k < 9) → I3 b k = I b k := fun b k v1 v2 => by rw [z3 _ _ v1, io _ _ (by omega), go _ _ (by omega)]
  have c3 : I3 4 8 = nI c := by rw [o3 _ _ (by omega) (by omega)]; exact cnt
  have d3 : I3 4 10 = nI e := by rw [o3 _ _ (by omega) (by omega)]; exact h.ed
  have fin : ev (d + 5) 62 68 [.ref 4, .int (nI l), .int (nI t), .int (nI q), .int (nI a), .ref (200 + p c), .int (nI (c + 1)), .retAddr 0] [] (S sl p I3 J1) = some (some (.int (nI c)), S sl p (up2 (up2 I3 4 10 (nI (e + 1))) 4 8 (nI (c + 1))) J1) := by
    rw [E62_68 _ _ _ _ _ hs.p60 hP, c3, if_neg (fun w => by have := (nI_le_iff (by omega) (by omega)).mp w; omega), d3, nI_1, up_nk (f := I3) (a := 4) (k := 10) (k' := 8) (by omega), c3, nI_1, up_s, show nI (c + 1) - 1 = nI c from nI_sub (b := 1) (by omega) (by omega)]
  have q0 : up2 (up2 I3 4 10 (nI (e + 1))) 4 8 (nI (c + 1)) 4 10 = nI (e + 1) := by rw [up_nk (by omega), up_s]
  have q8 : up2 (up2 I3 4 10 (nI (e + 1))) 4 8 (nI (c + 1)) 4 8 = nI (c + 1) := up_s
  have qo : ∀ b k, ¬ (b = 4 ∧ (k = 8 ∨ k = 10)) → up2 (up2 I3 4 10 (nI (e + 1))) 4 8 (nI (c + 1)) b k = I3 b k := fun b k w => by rw [up_n (by omega), up_n (by omega)]
  refine ⟨up2 (up2 I3 4 10 (nI (e + 1))) 4 8 (nI (c + 1)), J1, by rw [e3, fin, ec], ?_, ⟨fun b k _ _ => by rw [qo _ _ (by omega)]; exact o3 _ _ (by omega) (by omega), fun b k _ _ => jo _ _ (by omega)⟩⟩
  generalize up2 (up2 I3 4 10 (nI (e + 1))) 4 8 (nI (c + 1)) = I4 at q0 q8 qo
  have o4 : ∀ b k, b ≠ 10 → ¬ (b = 200 + p c ∧ 2 ≤ k ∧ k < 9) → ¬ (b = 4 ∧ (k = 8 ∨ k = 10)) → I4 b k = I b k := fun b k v1 v2 v3 => by rw [qo _ _ v3]; exact o3 _ _ v1 v2
  have oc : ∀ k, 2 ≤ k → k < 8 → I4 (200 + p c) k = I1 (200 + p c) k := fun k k1 k2 => by rw [qo _ _ (by omega), z3 _ _ (by omega), io _ _ (by omega)]
  refine h.new he ?_ q0 (fun k hk => by rw [o4 _ _ (by omega) (by omega) (by omega), hF.fo _ _ (by omega) (by omega)]; exact h.sl k hk) (fun b k w => o4 _ _ (by omega) (by omega) (by omega))
  have enl : nl F = nl D := by unfold nl; rw [hF.fo _ _ (by omega) (by omega)]
  have ecp : cp F = cp D := by unfold cp; rw [hF.fo _ _ (by omega) (by omega)]
  have elk : lk F = lk D := by unfold lk; rw [hF.fo _ _ (by omega) (by omega)]
  have els : lst F = lst D := by unfold lst; rw [hF.fo _ _ (by omega) (by omega)]
  refine ⟨gF, fun k hk => by rw [o4 _ _ (by omega) (by omega) (by omega)]; exact hs.sn k hk, hs.p60, hs.pij, by rw [o4 _ _ (by omega) (by omega) (by omega), enl]; exact hs.lines, by rw [q8, enF, ec], by rw [o4 _ _ (by omega) (by omega) (by omega), ecp]; exact hs.cap, fun l' hl' => ?_, fun j hj => by rw [o4 _ _ (by omega) (by omega) (by omega)]; exact hs.slot j hj, fun i hi => ?_, fun i hi => vpl i (by omega), fun i j hi hj => ?_, by rw [o4 _ _ (by omega) (by omega) (by omega), elk]; exact hs.link, by rw [o4 _ _ (by omega) (by omega) (by omega), els]; exact hs.least⟩
  · rw [enl] at hl'
    rw [o4 _ _ (by omega) (by omega) (by omega), o4 _ _ (by omega) (by omega) (by omega), o4 _ _ (by omega) (by omega) (by omega), hF.fo _ _ (by omega) (by omega), hF.fo _ _ (by omega) (by omega), hF.fo _ _ (by omega) (by omega), hF.tav, jv _ (by omega)]
    exact hs.tr l' hl'
  · rw [enF] at hi
    have hpi := hs.p60 i
    by_cases w : i = c
    · subst w
      rw [oc _ (by omega) (by omega), oc _ (by omega) (by omega), oc _ (by omega) (by omega), oc _ (by omega) (by omega), oc _ (by omega) (by omega), oc _ (by omega) (by omega), g2, g3, g4, g5, g6, g7, qo _ _ (by omega), z3 _ _ (by omega), i8]
      have lvF : lv F i = 100 * plD (nI t) (nI q) + nI q := by unfold lv; rw [ec, hF.f51, hF.f52]
      rw [lvF]
      rw [ec, hF.f50, hF.f51, hF.f52, hF.f53]
      exact ⟨rfl, rfl, rfl, rfl, rfl, rfl, rfl⟩
    · have hne : p i ≠ p c := fun y => w (hs.pij i c (by omega) (by omega) y)
      have lvF : lv F i = lv D i := by unfold lv; rw [hF.fo _ _ (by omega) (by omega), hF.fo _ _ (by omega) (by omega)]
      have wtF : wt F i = wt D i := by unfold wt; rw [hF.fo _ _ (by omega) (by omega), hF.tpv (by omega), hF.fo _ _ (by omega) (by omega), hF.tav]
      rw [o4 _ _ (by omega) (by omega) (by omega), o4 _ _ (by omega) (by omega) (by omega), o4 _ _ (by omega) (by omega) (by omega), o4 _ _ (by omega) (by omega) (by omega), o4 _ _ (by omega) (by omega) (by omega), o4 _ _ (by omega) (by omega) (by omega), o4 _ _ (by omega) (by omega) (by omega), hF.fo _ _ (by omega) (by omega), hF.fo _ _ (by omega) (by omega), hF.fo _ _ (by omega) (by omega), hF.fo _ _ (by omega) (by omega), lvF, wtF]
      exact hs.ck i (by omega)
  · rw [enF] at hi hj
    have hpi := hs.p60 i
    have hpj := hs.p60 j
    rw [qo _ _ (by omega)]
    by_cases wi : i = c
    · rw [wi]
      exact (z1 j (by omega) (by omega)).1
    · by_cases wj : j = c
      · rw [wj]
        exact (z1 i (by omega) (by omega)).2
      · have h1 : p i ≠ p c := fun y => wi (hs.pij i c (by omega) (by omega) y)
        have h2 : p j ≠ p c := fun y => wj (hs.pij j c (by omega) (by omega) y)
        rw [z2 _ _ hpi hpj h1 h2, io _ _ (by omega), go _ _ (by omega), show nb F i j = nb D i j from by unfold nb; rw [hF.tpv (by omega), hF.tpv (by omega)]]
        exact hs.ang i j (by omega) (by omega)
end CRK
