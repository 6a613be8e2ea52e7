/-! cones in the model -/
theorem near_if {dt sq : Int64} (h : okN dt sq) {k : Nat} (hk : k ≤ 90) : (if dt * dt * 1000000 < (cs (nI k) * cs (nI k)).toInt64 * sq then (0 : Int32) else 1) = if ag dt sq ≤ k then 1 else 0 := by
  have h := nrb_ag h hk
  unfold nrb at h
  by_cases hc : ag dt sq ≤ k
  · rw [decide_eq_true hc] at h
    rw [if_neg (by simpa using h), if_pos hc]
  · rw [decide_eq_false hc] at h
    rw [if_pos (by simpa using h), if_neg hc]
def mvI (I : Nat → Nat → Int32) (s : Nat) : V3 := ((I 64 s).toInt64, (I 65 s).toInt64, (I 66 s).toInt64)
theorem MeanAt.v {I : Nat → Nat → Int32} {D : Nat → Nat → Int32} {n s : Nat} (h : MeanAt I D n) (hs : s < n) (hb : bv (meO D s)) : mvI I s = meO D s := by
  have hw := bv_w hb
  unfold mvI
  rw [h.x s hs, h.y s hs, h.z s hs, n32_64 hw.1, n32_64 hw.2.1, n32_64 hw.2.2]
section CONM
variable {d sl : Nat} {p : Nat → Nat} {I : Nat → Nat → Int32} {J : Nat → Nat → Int64}
theorem sp_squareOfMean {s : Nat} (hs : s < 30) : den (d + 2) 229 [.ref 46, .int (nI s)] (S sl p I J) = some (some (.long (vq (mvI I s))), S sl p I J) := by
  rw [E229_0]
  simp only [ixb_n hs (by decide), ck_t, sp_square, evK_s, E229_24, cl_n (show s < 2 ^ 31 by omega)]
  rfl
theorem sp_dotWithMean {k s : Nat} (hk : k < 60) (hs : s < 30) : den (d + 1) 230 [.ref 46, .int (nI k), .int (nI s)] (S sl p I J) = some (some (.long (vd (pv (dat I) k) (mvI I s))), S sl p I J) := by
  rw [E230_0]
  simp only [ixb_n hs (by decide), ixb_n hk (by decide), ck_t, sp_dot, evK_s, E230_45, cl_n (show s < 2 ^ 31 by omega), cl_n (show k < 2 ^ 31 by omega)]
  rfl
theorem sp_angleToMean {k s : Nat} (hk : k < 60) (hs : s < 30) (b1 : bv (pv (dat I) k)) (b2 : bv (mvI I s)) : den (d + 6) 231 [.ref 46, .int (nI k), .int (nI s)] (S sl p I J) = some (some (.int (nI (va2 (pv (dat I) k) (mvI I s)))), S sl p I J) := by
  rw [E231_0, sp_dotWithMean hk hs, evK_s, E231_6, sp_squareOf hk, evK_s, E231_11, sp_squareOfMean hs, evK_s, E231_16, sp_angleOfM (dd_nn (okN_v b1 b2)), evK_s, E231_20]
  rfl
theorem sp_isNearMean {k s a : Nat} (hk : k < 60) (hs : s < 30) (ha : a ≤ 90) (b1 : bv (pv (dat I) k)) (b2 : bv (mvI I s)) : den (d + 5) 232 [.ref 46, .int (nI k), .int (nI s), .int (nI a)] (S sl p I J) = some (some (.int (if va2 (pv (dat I) k) (mvI I s) ≤ a then 1 else 0)), S sl p I J) := by
  rw [E232_0, sp_dotWithMean hk hs, evK_s, E232_6, sp_squareOf hk, evK_s, E232_11, sp_squareOfMean hs, evK_s, E232_16, sp_isNear, evK_s, E232_21, near_if (okN_v b1 b2) ha, ck_if]
  · rfl
  · exact decide_eq_true (by split <;> simp)
theorem sp_coneOf (hD : GD (dat I)) (hS : SetAt I (dat I)) (hM : MeanAt I (dat I) (nst (dat I))) {s : Nat} (hs : s < nst (dat I)) : den (d + 7) 233 [.ref 46, .int (nI s)] (S sl p I J) = some (some (.int (nI (coO (dat I) s))), S sl p I J) := by
  have n60 := hD.n60
  have h30 := nst_30 hD hS.lab
  have hb := meO_b hD hS.lab hs
  have hvv := hM.v hs hb
  obtain ⟨x, e, hx⟩ := for_ex (M := Nat) (fun k x => ev (d + 7) 233 4 [.ref 46, .int (nI s), .int (nI x), .int k] [] (S sl p I J)) (nc (dat I)) (fun k x => x = mxN (coF (dat I) s) k)
    (by
      intro k x hk hx
      have m90 : mxN (coF (dat I) s) k ≤ 90 := mxN_b _ (fun j hj => coF_90 hD hS.lab hs (by omega))
      have a90 := an2_90 hD hS.lab hs hk
      rw [E233_4, hD.i2, if_pos (lt_n hk (by omega)), ck_if (ixb_n (by omega) (by decide)), cl_n (by omega), hS.e61 k hk, mxN_s, hx]
      by_cases q : stn (dat I) k = nI s
      · rw [if_pos q, sp_angleToMean (by omega) (by omega) (hD.bp hk) (by rw [hvv]; exact hb), evK_s, E233_29, hvv, show coF (dat I) s k = an2 (dat I) s k from if_pos q, show va2 (pv (dat I) k) (meO (dat I) s) = an2 (dat I) s k from rfl, nI_1]
        refine ⟨_, ?_, rfl⟩
        by_cases c : mxN (coF (dat I) s) k < an2 (dat I) s k
        · rw [if_pos c, if_pos ((nI_lt_iff (by omega) (by omega)).mpr c)]
        · rw [if_neg c, if_neg (fun w => c ((nI_lt_iff (by omega) (by omega)).mp w))]
      · rw [if_neg q, show coF (dat I) s k = 0 from if_neg q, if_neg (by omega), nI_1]
        exact ⟨_, rfl, rfl⟩)
    0 rfl
  rw [E233_0, show (0 : Int32) = nI 0 from rfl]
  rw [show (0 : Int32) = nI 0 from rfl] at e
  rw [e, E233_4, hD.i2, if_neg (nlt_n (by omega)), hx]
  rfl
theorem half_18 (hD : GD (dat I)) (hS : SetAt I (dat I)) (hM : MeanAt I (dat I) (nst (dat I))) {s a : Nat} (hs : s < nst (dat I)) (ha : a ≤ 90) : ev (d + 6) 234 18 [.ref 46, .int (nI s), .int (nI a), .long 0, .retAddr 0, .int 0] [] (S sl p I J) = ev (d + 6) 234 18 [.ref 46, .int (nI s), .int (nI a), .long (lN (haO (dat I) s a)), .retAddr 0, .int (nI (nc (dat I)))] [] (S sl p I J) := by
  have n60 := hD.n60
  have h30 := nst_30 hD hS.lab
  have hb := meO_b hD hS.lab hs
  have hvv := hM.v hs hb
  obtain ⟨x, e, hx⟩ := for_ex (M := Nat) (fun k x => ev (d + 6) 234 18 [.ref 46, .int (nI s), .int (nI a), .long (lN x), .retAddr 0, .int k] [] (S sl p I J)) (nc (dat I)) (fun k x => x = haN (dat I) (fun k => decide (stn (dat I) k = nI s) && decide (an2 (dat I) s k ≤ a)) k)
    (by
      intro k x hk hx
      obtain ⟨w1, w2⟩ := hD.wn hk
      rw [E234_18, hD.i2, if_pos (lt_n hk (by omega)), ck_if (ixb_n (by omega) (by decide)), cl_n (by omega), hS.e61 k hk, haN_s, hx]
      by_cases q : stn (dat I) k = nI s
      · rw [if_pos q, sp_isNearMean (by omega) (by omega) ha (hD.bp hk) (by rw [hvv]; exact hb), evK_s, E234_47, hvv, show va2 (pv (dat I) k) (meO (dat I) s) = an2 (dat I) s k from rfl]
        by_cases c : an2 (dat I) s k ≤ a
        · rw [if_pos c, if_neg (by decide), sp_wt hD hk, evK_s, E234_56, w1, nI_l (by omega), lN_add, if_pos (by simp [q, c]), nI_1]
          exact ⟨_, rfl, rfl⟩
        · rw [if_neg c, if_pos rfl, if_neg (by simp [c]), nI_1, Int64.add_zero]
          exact ⟨_, rfl, rfl⟩
      · rw [if_neg q, if_neg (by simp [q]), nI_1, Int64.add_zero]
        exact ⟨_, rfl, rfl⟩)
    0 rfl
  subst hx
  exact e
theorem sp_halfOf (hD : GD (dat I)) (hS : SetAt I (dat I)) (hM : MeanAt I (dat I) (nst (dat I))) {s : Nat} (hs : s < nst (dat I)) : den (d + 9) 234 [.ref 46, .int (nI s)] (S sl p I J) = some (some (.int (nI (hfO (dat I) s))), S sl p I (setS J (smO (dat I) s))) := by
  have n60 := hD.n60
  have m1 := maO_b hD s
  have h90 : hfO (dat I) s ≤ 90 := fsq_le _ _
  have e2 : ∀ n, (2 : Int64) * lN n = lN (2 * n) := fun n => lN_mul 2 n
  have key : ∀ f a, a + f = hfO (dat I) s → ev (d + 9) 234 7 [.ref 46, .int (nI s), .int (nI a), .retAddr 0, .retAddr 0, .retAddr 0] [] (S sl p I (setS J (smO (dat I) s))) = some (some (.int (nI (hfO (dat I) s))), S sl p I (setS J (smO (dat I) s))) := by
    intro f
    induction f with
    | zero =>
      intro a ha
      have b1 := haO_b hD s a
      by_cases q : a = 90
      · rw [E234_7, q, if_neg (by decide), show hfO (dat I) s = 90 by omega]
        rfl
      · have hy : hfB (dat I) s a = true := by
          have h := fsq_yes (hfB (dat I) s) 90 (show hfO (dat I) s < 90 by omega)
          rw [show fsq (hfB (dat I) s) 90 = a from show hfO (dat I) s = a by omega] at h
          exact h
        have hy2 : maO (dat I) s ≤ 2 * haO (dat I) s a := of_decide_eq_true hy
        rw [E234_7, if_pos (show nI a < 90 from lt_n (n := 90) (by omega) (by decide)), half_18 hD hS hM hs (by omega), E234_18, hD.i2, if_neg (nlt_n (by omega)), setS_r.2.2.2, smO_m hD, e2, if_neg (fun w => by have := (pk_lLT (a := 2 * haO (dat I) s a) (b := maO (dat I) s) (by omega) (by omega)).mp w; omega), show hfO (dat I) s = a by omega]
    | succ f ih =>
      intro a ha
      have b1 := haO_b hD s a
      have hn : hfB (dat I) s a = false := fsq_no _ _ _ (show a < hfO (dat I) s by omega)
      have hn2 : ¬ maO (dat I) s ≤ 2 * haO (dat I) s a := of_decide_eq_false hn
      rw [E234_7, if_pos (show nI a < 90 from lt_n (n := 90) (by omega) (by decide)), half_18 hD hS hM hs (by omega), E234_18, hD.i2, if_neg (nlt_n (by omega)), setS_r.2.2.2, smO_m hD, e2, if_pos ((pk_lLT (by omega) (by omega)).mpr (by omega)), nI_1]
      exact ih (a + 1) (by omega)
  rw [E234_0, sp_laysSumOf hD hS hs, evK_v, E234_5]
  exact key (hfO (dat I) s) 0 (by omega)
end CONM
