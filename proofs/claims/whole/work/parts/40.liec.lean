/-! how a vector lies, in the class -/
theorem amx_mx {f : Nat → Int} : ∀ n i, i ≤ n → f i ≤ f (amx f n)
  | 0, i, h => by
    have e : i = 0 := by omega
    subst e
    exact Int.le_refl _
  | n + 1, i, h => by
    rw [amx_s]
    by_cases c : i = n + 1
    · subst c
      split
      · exact Int.le_refl _
      · omega
    · have := amx_mx (f := f) n i (by omega)
      split
      · omega
      · exact this
theorem cZ_0 : cZ 0 = 1000 := by decide +kernel
theorem sZ_0 : sZ 0 = 0 := by decide +kernel
theorem cZ_90 : cZ 90 = 0 := by decide +kernel
theorem sZ_90 : sZ 90 = 1000 := by decide +kernel
theorem cZ_180 : cZ 180 = -1000 := by decide +kernel
theorem sZ_180 : sZ 180 = 0 := by decide +kernel
/-- half a turn on, what is reached has the other sign -/
theorem trd_nn (x y : Int) : 0 ≤ (fun d => x * cZ d + y * sZ d) (amx (fun d => x * cZ d + y * sZ d) 359) := by
  have h0 := amx_mx (f := fun d => x * cZ d + y * sZ d) 359 0 (by decide)
  have h1 := amx_mx (f := fun d => x * cZ d + y * sZ d) 359 180 (by decide)
  simp only [cZ_0, sZ_0, cZ_180, sZ_180] at h0 h1
  simp only
  omega
theorem tlt_nn (x y : Int) (h : 0 ≤ x ∨ 0 ≤ y) : 0 ≤ (fun d => x * sZ d + y * cZ d) (amx (fun d => x * sZ d + y * cZ d) 90) := by
  have h0 := amx_mx (f := fun d => x * sZ d + y * cZ d) 90 0 (by decide)
  have h1 := amx_mx (f := fun d => x * sZ d + y * cZ d) 90 90 (by decide)
  simp only [cZ_0, sZ_0, cZ_90, sZ_90] at h0 h1
  simp only
  omega
theorem outv_nn (v : V3) : 0 ≤ outv v (trd v) := by
  have h : 0 ≤ v.1.toInt * cZ (trd v) + v.2.1.toInt * sZ (trd v) := trd_nn v.1.toInt v.2.1.toInt
  unfold outv
  exact Int.tdiv_nonneg h (by decide)
/-- a look for the most that begins at -1: where it stands behind k looks -/
def scnI (f : Nat → Int) (k : Nat) (x : Int32) (m : Int64) : Prop := (k = 0 ∧ x = 0 ∧ m = -1) ∨ ∃ j, k = j + 1 ∧ ((f (amx f j) < 0 ∧ x = 0 ∧ m = -1) ∨ (0 ≤ f (amx f j) ∧ x = nI (amx f j) ∧ m.toInt = f (amx f j)))
theorem scnI_s {f : Nat → Int} {k : Nat} {x : Int32} {m r : Int64} (h : scnI f k x m) (hr : r.toInt = f k) : (r ≤ m → scnI f (k + 1) x m) ∧ (¬ r ≤ m → scnI f (k + 1) (nI k) r) := by
  have h9 : (-1 : Int64).toInt = -1 := by decide
  rcases h with ⟨rfl, rfl, rfl⟩ | ⟨j, rfl, ⟨h1, rfl, rfl⟩ | ⟨h1, rfl, h3⟩⟩
  · have e : f (amx f 0) = f 0 := rfl
    refine ⟨fun q => Or.inr ⟨0, rfl, Or.inl ⟨?_, rfl, rfl⟩⟩, fun q => Or.inr ⟨0, rfl, Or.inr ⟨?_, rfl, hr⟩⟩⟩
    · have := Int64.le_iff_toInt_le.mp q
      omega
    · have : ¬ _ := fun w => q (Int64.le_iff_toInt_le.mpr w)
      omega
  · refine ⟨fun q => Or.inr ⟨j + 1, rfl, Or.inl ⟨?_, rfl, rfl⟩⟩, fun q => ?_⟩
    · have := Int64.le_iff_toInt_le.mp q
      rw [amx_s]
      split <;> omega
    · have : ¬ _ := fun w => q (Int64.le_iff_toInt_le.mpr w)
      have e : amx f (j + 1) = j + 1 := by rw [amx_s, if_pos (by omega)]
      exact Or.inr ⟨j + 1, rfl, Or.inr ⟨by rw [e]; omega, by rw [e], by rw [e]; exact hr⟩⟩
  · refine ⟨fun q => ?_, fun q => ?_⟩
    · have := Int64.le_iff_toInt_le.mp q
      have e : amx f (j + 1) = amx f j := by rw [amx_s, if_neg (by omega)]
      exact Or.inr ⟨j + 1, rfl, Or.inr ⟨by rw [e]; exact h1, by rw [e], by rw [e]; exact h3⟩⟩
    · have : ¬ _ := fun w => q (Int64.le_iff_toInt_le.mpr w)
      have e : amx f (j + 1) = j + 1 := by rw [amx_s, if_pos (by omega)]
      exact Or.inr ⟨j + 1, rfl, Or.inr ⟨by rw [e]; omega, by rw [e], by rw [e]; exact hr⟩⟩
theorem scnI_e {f : Nat → Int} {k : Nat} {x : Int32} {m : Int64} (h : scnI f (k + 1) x m) (h0 : 0 ≤ f (amx f k)) : x = nI (amx f k) := by
  rcases h with ⟨w, -, -⟩ | ⟨j, e, h⟩
  · omega
  · have e' : j = k := by omega
    subst e'
    rcases h with ⟨w, -, -⟩ | ⟨-, h, -⟩
    · omega
    · exact h
section LIEC
variable {d sl : Nat} {p : Nat → Nat} {I : Nat → Nat → Int32} {J : Nat → Nat → Int64}
theorem w4 {v : V3} (h : bw v) : (-4000 ≤ v.1.toInt ∧ v.1.toInt ≤ 4000) ∧ (-4000 ≤ v.2.1.toInt ∧ v.2.1.toInt ≤ 4000) ∧ -4000 ≤ v.2.2.toInt ∧ v.2.2.toInt ≤ 4000 := (w32 h).2
theorem sp_trendOfC {a : Nat} (ha : ob a 0) (hs : SNS I) (h : bw (vec J a)) : den d 33 [.ref 2, .ref a] (S sl p I J) = some (some (.int (nI (trd (vec J a)))), S sl p I J) := by
  obtain ⟨b1, b2, b3⟩ := w4 h
  have t1 : ∀ j, (J a 0 * Int32.toInt64 (cs (nI j)) + J a 1 * Int32.toInt64 (sn (nI j))).toInt = (fun d => (vec J a).1.toInt * cZ d + (vec J a).2.1.toInt * sZ d) j := fun j => two64 b1 b2 (cs_b _) (sn_b _)
  obtain ⟨x, e, hx⟩ := for_ex (M := Int32 × Int64) (fun k x => ev d 33 9 [.ref 2, .ref a, .int x.1, .long x.2, .retAddr 0, .int k, .retAddr 0, .retAddr 0] [] (S sl p I J)) 360 (fun k x => scnI (fun d => (vec J a).1.toInt * cZ d + (vec J a).2.1.toInt * sZ d) k x.1 x.2)
    (by
      rintro k ⟨x, m⟩ hk h
      obtain ⟨c1, c2⟩ := cos_at hs (k := k) (by omega)
      obtain ⟨s1, s2⟩ := sin_at hs (k := k) (by omega)
      simp only at h ⊢
      rw [E33_9 _ _ _ ha, if_pos (show nI k < 360 from lt_n (n := 360) hk (by decide)), c2, s2, ck_t, ck_t, c1, s1, nI_1]
      have hn := scnI_s h (t1 k)
      by_cases q : J a 0 * Int32.toInt64 (cs (nI k)) + J a 1 * Int32.toInt64 (sn (nI k)) ≤ m
      · rw [if_pos q]
        exact ⟨(x, m), rfl, hn.1 q⟩
      · rw [if_neg q]
        exact ⟨(nI k, _), rfl, hn.2 q⟩)
    (0, -1) (Or.inl ⟨rfl, rfl, rfl⟩)
  have hx1 := scnI_e (k := 359) hx (trd_nn _ _)
  rw [E33_0 ha, e, E33_9 _ _ _ ha, if_neg (show ¬ nI 360 < 360 from nlt_n (n := 360) (by decide)), hx1]
  rfl
theorem sp_levelOf {a t : Nat} (ha : ob a 0) (hs : SNS I) (h : bw (vec J a)) (ht : t < 360) : ∃ x : Int64, x.toInt = outv (vec J a) t ∧ den d 34 [.ref 2, .ref a, .int (nI t)] (S sl p I J) = some (some (.long x), S sl p I J) := by
  obtain ⟨b1, b2, b3⟩ := w4 h
  obtain ⟨c1, c2⟩ := cos_at hs (k := t) (by omega)
  obtain ⟨s1, s2⟩ := sin_at hs (k := t) (by omega)
  refine ⟨_, ?_, by rw [E34_0 _ ha, c2, s2, ck_t, ck_t, c1, s1]⟩
  rw [div64 (show 0 < (1000 : Int64).toInt by decide), two64 (a := J a 0) (b := J a 1) b1 b2 (cs_b _) (sn_b _)]
  rfl
theorem sp_tiltOf {x y : Int64} (hs : SNS I) (hx : -4000 ≤ x.toInt ∧ x.toInt ≤ 4000) (hy : -4000 ≤ y.toInt ∧ y.toInt ≤ 4000) (hn : 0 ≤ x.toInt ∨ 0 ≤ y.toInt) : den d 35 [.ref 2, .long x, .long y] (S sl p I J) = some (some (.int (nI (amx (fun d => x.toInt * sZ d + y.toInt * cZ d) 90))), S sl p I J) := by
  have t1 : ∀ j, (x * Int32.toInt64 (sn (nI j)) + y * Int32.toInt64 (cs (nI j))).toInt = (fun d => x.toInt * sZ d + y.toInt * cZ d) j := fun j => two64 hx hy (sn_b _) (cs_b _)
  obtain ⟨z, e, hz⟩ := for_ex (M := Int32 × Int64) (fun k z => ev d 35 11 [.ref 2, .long x, .retAddr 0, .long y, .retAddr 0, .int z.1, .long z.2, .retAddr 0, .int k, .retAddr 0, .retAddr 0] [] (S sl p I J)) 91 (fun k z => scnI (fun d => x.toInt * sZ d + y.toInt * cZ d) k z.1 z.2)
    (by
      rintro k ⟨z, m⟩ hk h
      obtain ⟨c1, c2⟩ := cos_at hs (k := k) (by omega)
      obtain ⟨s1, s2⟩ := sin_at hs (k := k) (by omega)
      simp only at h ⊢
      rw [E35_11, if_pos (show nI k ≤ 90 from (nI_le_iff (b := 90) (by omega) (by decide)).mpr (by omega)), c2, s2, ck_t, ck_t, c1, s1, nI_1]
      have hn := scnI_s h (t1 k)
      by_cases q : x * Int32.toInt64 (sn (nI k)) + y * Int32.toInt64 (cs (nI k)) ≤ m
      · rw [if_pos q]
        exact ⟨(z, m), rfl, hn.1 q⟩
      · rw [if_neg q]
        exact ⟨(nI k, _), rfl, hn.2 q⟩)
    (0, -1) (Or.inl ⟨rfl, rfl, rfl⟩)
  have hx1 := scnI_e (k := 90) hz (tlt_nn _ _ hn)
  rw [E35_0, e, E35_11, if_neg (show ¬ nI 91 ≤ 90 from fun q => absurd ((nI_le_iff (a := 91) (b := 90) (by decide) (by decide)).mp q) (by decide)), hx1]
theorem sp_plungeOfC {a : Nat} (ha : ob a 0) (hs : SNS I) (h : bw (vec J a)) : den (d + 1) 36 [.ref 2, .ref a, .int (nI (trd (vec J a)))] (S sl p I J) = some (some (.int (nI (pgv (vec J a)))), S sl p I J) := by
  obtain ⟨b1, b2, b3⟩ := w4 h
  obtain ⟨x, x1, x2⟩ := sp_levelOf (d := d) (sl := sl) (p := p) ha hs h (trd_lt _)
  have hb := outv_b h (trd (vec J a))
  rw [E36_0 _ ha, x2, evK_s, E36_11 _ _ _ ha, sp_tiltOf (x := J a 2) hs b3 (by rw [x1]; exact hb) (Or.inr (by rw [x1]; exact outv_nn _)), evK_s, E36_14 _ _ ha, x1]
  unfold pgv
  congr 6
  funext k
  exact Int.add_comm _ _
theorem sp_lieOfC {a : Nat} (ha : ob a 0) (hs : SNS I) (h : bw (vec J a)) : den (d + 1) 37 [.ref 2, .ref a] (S sl p I J) = some (some (.int (nI (100 * drv (vec J a) + dpv (vec J a)))), S sl p I J) := by
  obtain ⟨b1, b2, b3⟩ := w4 h
  obtain ⟨x, x1, x2⟩ := sp_levelOf (d := d) (sl := sl) (p := p) ha hs h (trd_lt _)
  have hb := outv_b h (trd (vec J a))
  have ht := trd_lt (vec J a)
  have hd := dpv_le (vec J a)
  have e1 : amx (fun d => x.toInt * sZ d + (J a 2).toInt * cZ d) 90 = dpv (vec J a) := by rw [x1]; rfl
  rw [E37_0 ha, sp_trendOfC ha hs h, evK_s, E37_5 _ ha, x2, evK_s, E37_13 _ _ ha, sp_tiltOf (y := J a 2) hs (by rw [x1]; exact hb) b3 (Or.inl (by rw [x1]; exact outv_nn _)), evK_s, e1, E37_20 _ _ ha, sp_plainP, evK_s, E37_34 _ _ _ ha, E174_0, evK_s, E37_38 _ _ _ ha, show nI (trd (vec J a)) + 180 = nI (trd (vec J a) + 180) from nI_add _ 180, rem360 (by omega), plD_n (by omega) (by omega), show (100 : Int32) = nI 100 from rfl, nI_mul, nI_add]
  rfl
end LIEC
