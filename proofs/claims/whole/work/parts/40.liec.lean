/-! how a vector lies, in the class -/
section LIEC
variable {d sl : Nat} {p : Nat → Nat} {I : Nat → Nat → Int32} {J : Nat → Nat → Int64}
theorem w4 {v : V3} (h : bw v) : (-4000 ≤ v.1.toInt ∧ v.1.toInt ≤ 4000) ∧ (-4000 ≤ v.2.1.toInt ∧ v.2.1.toInt ≤ 4000) ∧ -4000 ≤ v.2.2.toInt ∧ v.2.2.toInt ≤ 4000 := (w32 h).2
theorem sp_trendOfC {a : Nat} (ha : ob a 0) (hs : SNS I) (h : bw (vec J a)) : den d 33 [.ref 2, .ref a] (S sl p I J) = some (some (.int (nI (trd (vec J a)))), S sl p I J) := by
  obtain ⟨b1, b2, b3⟩ := w4 h
  have t1 : ∀ j, j < 540 → (J a 0 * Int32.toInt64 (cs (nI j)) + J a 1 * Int32.toInt64 (sn (nI j))).toInt = (vec J a).1.toInt * cZ j + (vec J a).2.1.toInt * sZ j := fun j _ => two64 b1 b2 (cs_b _) (sn_b _)
  obtain ⟨x, e, hx⟩ := for_ex (M := Int32 × Int64) (fun k x => ev d 33 9 [.ref 2, .ref a, .int x.1, .long x.2, .retAddr 0, .int k, .retAddr 0, .retAddr 0] [] (S sl p I J)) 360
    (fun k x => (k = 0 ∧ x = (0, -9223372036854775808)) ∨ ∃ j, k = j + 1 ∧ x.1 = nI (amx (fun d => (vec J a).1.toInt * cZ d + (vec J a).2.1.toInt * sZ d) j) ∧ x.2.toInt = (vec J a).1.toInt * cZ (amx (fun d => (vec J a).1.toInt * cZ d + (vec J a).2.1.toInt * sZ d) j) + (vec J a).2.1.toInt * sZ (amx (fun d => (vec J a).1.toInt * cZ d + (vec J a).2.1.toInt * sZ d) j))
    (by
      rintro k ⟨x, m⟩ hk h
      obtain ⟨c1, c2⟩ := cos_at hs (k := k) (by omega)
      obtain ⟨s1, s2⟩ := sin_at hs (k := k) (by omega)
      simp only
      rw [E33_9 _ _ _ ha, if_pos (show nI k < 360 from lt_n (n := 360) hk (by decide)), c2, s2, ck_t, ck_t, c1, s1, nI_1]
      rcases h with ⟨rfl, hx⟩ | ⟨j, rfl, hx1, hx2⟩
      · simp only [Prod.mk.injEq] at hx
        obtain ⟨rfl, rfl⟩ := hx
        have g1 := prod_b (A := 4000) (C := 1000) b1 (cs_b (nI 0))
        have g2 := prod_b (A := 4000) (C := 1000) b2 (sn_b (nI 0))
        have t0 := t1 0 (by omega)
        rw [if_neg (fun q => by
          have := Int64.le_iff_toInt_le.mp q
          rw [t0] at this
          have h9 : (-9223372036854775808 : Int64).toInt = -9223372036854775808 := by decide
          unfold cZ sZ at this
          omega)]
        exact ⟨(nI 0, _), rfl, Or.inr ⟨0, rfl, rfl, t0⟩⟩
      · simp only at hx1 hx2
        have tj := t1 (j + 1) (by omega)
        by_cases q : J a 0 * Int32.toInt64 (cs (nI (j + 1))) + J a 1 * Int32.toInt64 (sn (nI (j + 1))) ≤ m
        · rw [if_pos q]
          have := Int64.le_iff_toInt_le.mp q
          rw [tj, hx2] at this
          refine ⟨(x, m), rfl, Or.inr ⟨j + 1, rfl, ?_, ?_⟩⟩
          · rw [amx_s, if_neg (by omega)]; exact hx1
          · rw [amx_s, if_neg (by omega)]; exact hx2
        · rw [if_neg q]
          have : ¬ _ := fun w => q (Int64.le_iff_toInt_le.mpr w)
          rw [tj, hx2] at this
          refine ⟨(nI (j + 1), _), rfl, Or.inr ⟨j + 1, rfl, ?_, ?_⟩⟩
          · rw [amx_s, if_pos (by omega)]
          · rw [amx_s, if_pos (by omega)]; exact tj)
    (0, -9223372036854775808) (Or.inl ⟨rfl, rfl⟩)
  obtain ⟨j, hj, hx1, -⟩ := hx.resolve_left (by rintro ⟨w, -⟩; omega)
  have : j = 359 := by omega
  subst this
  rw [E33_0 ha, e, E33_9 _ _ _ ha, if_neg (show ¬ nI 360 < 360 from nlt_n (n := 360) (by decide)), hx1]
  rfl
theorem sp_levelOf {a t : Nat} (ha : ob a 0) (hs : SNS I) (h : bw (vec J a)) (ht : t < 360) : ∃ x : Int64, x.toInt = outv (vec J a) t ∧ den d 34 [.ref 2, .ref a, .int (nI t)] (S sl p I J) = some (some (.long x), S sl p I J) := by
  obtain ⟨b1, b2, b3⟩ := w4 h
  obtain ⟨c1, c2⟩ := cos_at hs (k := t) (by omega)
  obtain ⟨s1, s2⟩ := sin_at hs (k := t) (by omega)
  refine ⟨_, ?_, by rw [E34_0 _ ha, c2, s2, ck_t, ck_t, c1, s1]⟩
  rw [div64 (show 0 < (1000 : Int64).toInt by decide), two64 (a := J a 0) (b := J a 1) b1 b2 (cs_b _) (sn_b _)]
  rfl
theorem sp_tiltOf {x y : Int64} (hs : SNS I) (hx : -4000 ≤ x.toInt ∧ x.toInt ≤ 4000) (hy : -4000 ≤ y.toInt ∧ y.toInt ≤ 4000) : den d 35 [.ref 2, .long x, .long y] (S sl p I J) = some (some (.int (nI (amx (fun d => x.toInt * sZ d + y.toInt * cZ d) 90))), S sl p I J) := by
  have t1 : ∀ j, j < 540 → (x * Int32.toInt64 (sn (nI j)) + y * Int32.toInt64 (cs (nI j))).toInt = x.toInt * sZ j + y.toInt * cZ j := fun j _ => two64 hx hy (sn_b _) (cs_b _)
  obtain ⟨z, e, hz⟩ := for_ex (M := Int32 × Int64) (fun k z => ev d 35 11 [.ref 2, .long x, .retAddr 0, .long y, .retAddr 0, .int z.1, .long z.2, .retAddr 0, .int k, .retAddr 0, .retAddr 0] [] (S sl p I J)) 91
    (fun k z => (k = 0 ∧ z = (0, -9223372036854775808)) ∨ ∃ j, k = j + 1 ∧ z.1 = nI (amx (fun d => x.toInt * sZ d + y.toInt * cZ d) j) ∧ z.2.toInt = x.toInt * sZ (amx (fun d => x.toInt * sZ d + y.toInt * cZ d) j) + y.toInt * cZ (amx (fun d => x.toInt * sZ d + y.toInt * cZ d) j))
    (by
      rintro k ⟨z, m⟩ hk h
      obtain ⟨c1, c2⟩ := cos_at hs (k := k) (by omega)
      obtain ⟨s1, s2⟩ := sin_at hs (k := k) (by omega)
      simp only
      rw [E35_11, if_pos (show nI k ≤ 90 from (nI_le_iff (b := 90) (by omega) (by decide)).mpr (by omega)), c2, s2, ck_t, ck_t, c1, s1, nI_1]
      rcases h with ⟨rfl, hx0⟩ | ⟨j, rfl, hx1, hx2⟩
      · simp only [Prod.mk.injEq] at hx0
        obtain ⟨rfl, rfl⟩ := hx0
        have g1 := prod_b (A := 4000) (C := 1000) hx (sn_b (nI 0))
        have g2 := prod_b (A := 4000) (C := 1000) hy (cs_b (nI 0))
        have t0 := t1 0 (by omega)
        rw [if_neg (fun q => by
          have := Int64.le_iff_toInt_le.mp q
          rw [t0] at this
          have h9 : (-9223372036854775808 : Int64).toInt = -9223372036854775808 := by decide
          unfold cZ sZ at this
          omega)]
        exact ⟨(nI 0, _), rfl, Or.inr ⟨0, rfl, rfl, t0⟩⟩
      · simp only at hx1 hx2
        have tj := t1 (j + 1) (by omega)
        by_cases q : x * Int32.toInt64 (sn (nI (j + 1))) + y * Int32.toInt64 (cs (nI (j + 1))) ≤ m
        · rw [if_pos q]
          have := Int64.le_iff_toInt_le.mp q
          rw [tj, hx2] at this
          refine ⟨(z, m), rfl, Or.inr ⟨j + 1, rfl, ?_, ?_⟩⟩
          · rw [amx_s, if_neg (by omega)]; exact hx1
          · rw [amx_s, if_neg (by omega)]; exact hx2
        · rw [if_neg q]
          have : ¬ _ := fun w => q (Int64.le_iff_toInt_le.mpr w)
          rw [tj, hx2] at this
          refine ⟨(nI (j + 1), _), rfl, Or.inr ⟨j + 1, rfl, ?_, ?_⟩⟩
          · rw [amx_s, if_pos (by omega)]
          · rw [amx_s, if_pos (by omega)]; exact tj)
    (0, -9223372036854775808) (Or.inl ⟨rfl, rfl⟩)
  obtain ⟨j, hj, hx1, -⟩ := hz.resolve_left (by rintro ⟨w, -⟩; omega)
  have : j = 90 := by omega
  subst this
  rw [E35_0, e, E35_11, if_neg (show ¬ nI 91 ≤ 90 from fun q => absurd ((nI_le_iff (a := 91) (b := 90) (by decide) (by decide)).mp q) (by decide)), hx1]
theorem sp_plungeOfC {a : Nat} (ha : ob a 0) (hs : SNS I) (h : bw (vec J a)) : den (d + 1) 36 [.ref 2, .ref a, .int (nI (trd (vec J a)))] (S sl p I J) = some (some (.int (nI (pgv (vec J a)))), S sl p I J) := by
  obtain ⟨b1, b2, b3⟩ := w4 h
  obtain ⟨x, x1, x2⟩ := sp_levelOf (d := d) (sl := sl) (p := p) ha hs h (trd_lt _)
  have hb := outv_b h (trd (vec J a))
  rw [E36_0 _ ha, x2, evK_s, E36_11 _ _ _ ha, sp_tiltOf (x := J a 2) hs b3 (by rw [x1]; exact hb), evK_s, E36_14 _ _ ha, x1]
  unfold pgv
  congr 6
  funext k
  exact Int.add_comm _ _
theorem sp_lieOfC {a : Nat} (ha : ob a 0) (hs : SNS I) (h : bw (vec J a)) : den (d + 1) 37 [.ref 2, .ref a] (S sl p I J) = some (some (.int (nI (100 * drv (vec J a) + dpv (vec J a)))), S sl p I J) := by
  obtain ⟨b1, b2, b3⟩ := w4 h
  obtain ⟨x, x1, x2⟩ := sp_levelOf (d := d) (sl := sl) (p := p) ha hs h (trd_lt _)
  have hb := outv_b h (trd (vec J a))
  have ht := trd_lt (vec J a)
  have hd := dpv_le (vec J a)
  have e1 : amx (fun d => x.toInt * sZ d + (J a 2).toInt * cZ d) 90 = dpv (vec J a) := by rw [x1]; rfl
  rw [E37_0 ha, sp_trendOfC ha hs h, evK_s, E37_5 _ ha, x2, evK_s, E37_13 _ _ ha, sp_tiltOf (y := J a 2) hs (by rw [x1]; exact hb) b3, evK_s, e1, E37_20 _ _ ha, sp_plainP, evK_s, E37_34 _ _ _ ha, E174_0, evK_s, E37_38 _ _ _ ha, show nI (trd (vec J a)) + 180 = nI (trd (vec J a) + 180) from nI_add _ 180, rem360 (by omega), plD_n (by omega) (by omega), show (100 : Int32) = nI 100 from rfl, nI_mul, nI_add]
  rfl
end LIEC
