section MEAS
variable {d sl : Nat} {p : Nat → Nat} {I I' : Nat → Nat → Int32} {J J' : Nat → Nat → Int64} {D : Nat → Nat → Int32}
theorem sp_coneH (h : SV p I J D) (hl : LabD D) {s : Nat} (hs : s < nst D) (hm : J (500 + s) 1 = (smO D s).2) : ∀ f a x, a + f = hfO D s → x (400 + s) 10 = nI a → (∀ b, b ≤ 90 → x 21 b = nI (atO D s b (nc D))) → (∀ a k, a ≠ 21 → ¬ (a = 400 + s ∧ (k = 9 ∨ k = 10)) → x a k = I a k) → ∃ I', ev d 109 131 [.ref 11, .int (nI s), .ref (400 + s), .long (lN (haO D s a)), .retAddr 0, .int (nI (a + 1))] [] (S sl p x J) = some (none, S sl p I' J) ∧ I' (400 + s) 10 = nI (hfO D s) ∧ I' (400 + s) 9 = x (400 + s) 9 ∧ ∀ a k, a ≠ 21 → ¬ (a = 400 + s ∧ (k = 9 ∨ k = 10)) → I' a k = I a k := by
  have h30 := nst_30 h.gd hl
  have n60 := h.gd.n60
  have hs3 : s < 30 := by omega
  have m1 := maO_b h.gd s
  have h90 : hfO D s ≤ 90 := fsq_le _ _
  have e2 : ∀ n, (2 : Int64) * lN n = lN (2 * n) := fun n => lN_mul 2 n
  intro f
  induction f with
  | zero =>
    intro a x ha h1 h2 h3
    have b1 := haO_b h.gd s a
    refine ⟨x, ?_, by rw [h1, ← ha]; rfl, rfl, h3⟩
    rw [E109_131 _ _ _ hs3, hm, smO_m h.gd, e2]
    by_cases q : a = 90
    · rw [if_neg (fun w => by have := (nI_le_iff (a := a + 1) (b := 90) (by omega) (by omega)).mp w; omega)]
    · have hy : hfB D s a = true := by
        have := fsq_yes (hfB D s) 90 (show hfO D s < 90 by omega)
        have e3 : fsq (hfB D s) 90 = a := by show hfO D s = a; omega
        rw [e3] at this
        exact this
      have hy2 : maO D s ≤ 2 * haO D s a := of_decide_eq_true hy
      rw [if_neg (show ¬ lN (2 * haO D s a) < lN (maO D s) from fun w => by have := (pk_lLT (a := 2 * haO D s a) (b := maO D s) (by omega) (by omega)).mp w; omega), ite_self]
  | succ f ih =>
    intro a x ha h1 h2 h3
    have b1 := haO_b h.gd s a
    have b2 := atO_b h.gd s (a + 1) (Nat.le_refl _)
    have hn : hfB D s a = false := fsq_no _ _ _ (show a < hfO D s by omega)
    have hn2 : ¬ maO D s ≤ 2 * haO D s a := of_decide_eq_false hn
    rw [E109_131 _ _ _ hs3, hm, smO_m h.gd, e2, if_pos (show nI (a + 1) ≤ 90 from (nI_le_iff (a := a + 1) (b := 90) (by omega) (by omega)).mpr (by omega)), if_pos ((pk_lLT (by omega) (by omega)).mpr (by omega)), ck_if (ixb_n (by omega) (by decide)), cl_n (by omega), h2 _ (by omega), nI_l (by omega), lN_add, ← haO_s, nI_1]
    obtain ⟨I', i1, i2, i3, i4⟩ := ih (a + 1) (up2 x (400 + s) 10 (nI (a + 1))) (by omega) up_s (fun b hb => by rw [up_na (by omega)]; exact h2 b hb) (fun b k w1 w2 => by rw [up_n (by omega)]; exact h3 b k w1 w2)
    exact ⟨I', i1, i2, by rw [i3, up_nk (by omega)], i4⟩
theorem sp_openCone (h : SV p I J D) (hl : LabD D) (hpl : ∀ j, j < nc D → I 12 j = stn D j) {s : Nat} (hs : s < nst D) (hv : vec J (800 + s) = meO D s) (hm : J (500 + s) 1 = (smO D s).2) : ∃ I', den (d + 2) 109 [.ref 11, .int (nI s), .ref (400 + s)] (S sl p I J) = some (none, S sl p I' J) ∧ I' (400 + s) 9 = nI (coO D s) ∧ I' (400 + s) 10 = nI (hfO D s) ∧ ∀ a k, a ≠ 21 → ¬ (a = 400 + s ∧ (k = 9 ∨ k = 10)) → I' a k = I a k := by
  have h30 := nst_30 h.gd hl
  have n60 := h.gd.n60
  have hs3 : s < 30 := by omega
  obtain ⟨y, e, hy⟩ := for_ex (M := Nat → Int32) (fun k x => ev (d + 2) 109 2 [.ref 11, .int (nI s), .ref (400 + s), .int k, .retAddr 0, .retAddr 0] [] (S sl p (row I 21 x) J)) 91 (fun k x => ∀ j, j < k → x j = 0)
    (by
      intro k x hk hx
      rw [E109_2 _ _ hs3, if_pos (show nI k ≤ 90 from (nI_le_iff (b := 90) (by omega) (by omega)).mpr (by omega)), ck_if (ixb_n (by omega) (by decide)), cl_n (by omega), row_up, nI_1]
      refine ⟨_, rfl, fun j hj => ?_⟩
      by_cases e : j = k
      · rw [e, up1_s]
      · rw [up1_n e]; exact hx j (by omega))
    (I 21) (fun _ w => absurd w (Nat.not_lt_zero _))
  rw [row_id] at e
  obtain ⟨z, e2, z1, z2, z3⟩ := for_ex (M := Nat → Nat → Int32) (fun k x => ev (d + 2) 109 28 [.ref 11, .int (nI s), .ref (400 + s), .int k, .retAddr 0, .retAddr 0] [] (S sl p x J)) (nc D)
    (fun k x => x (400 + s) 9 = nI (mxN (coF D s) k) ∧ (∀ b, b ≤ 90 → x 21 b = nI (atO D s b k)) ∧ ∀ a k, a ≠ 21 → ¬ (a = 400 + s ∧ (k = 9 ∨ k = 10)) → x a k = I a k)
    (by
      rintro k x hk ⟨g1, g2, g3⟩
      have hp := h.p60 k
      have hsv : SV p x J D := h.fr (fun a k _ => g3 _ _ (by omega) (by omega)) (g3 _ _ (by omega) (by omega)) (g3 _ _ (by omega) (by omega)) (fun a k _ _ => g3 _ _ (by omega) (by omega)) (fun a k _ _ => rfl) (fun a k _ _ => rfl)
      have hpl' : x 12 k = stn D k := by rw [g3 _ _ (by omega) (by omega)]; exact hpl k hk
      have a90 := an2_90 h.gd hl hs hk
      have m90 : mxN (coF D s) k ≤ 90 := mxN_b _ (fun j hj => coF_90 h.gd hl hs (by omega))
      obtain ⟨w1, w2⟩ := h.gd.wn hk
      rw [E109_28 _ _ h.p60 hs3, hsv.count, if_pos (lt_n hk (by omega)), ck_if (ixb_n (by omega) (by decide)), cl_n (by omega), hpl']
      by_cases q : stn D k = nI s
      · rw [if_pos q, ck_if (ixb_n (by omega) (by decide)), sp_angleOfC (obP hp) (ob800 hs3) hsv.sn (by rw [hsv.pole k hk]; exact h.gd.bp hk) (by rw [hv]; exact meO_b h.gd hl hs), hsv.pole k hk, hv, evK_s, E109_72 _ _ _ h.p60 hs3, show va2 (pv D k) (meO D s) = an2 D s k from rfl, ck_if (ixb_n (by omega) (by decide)), ck_if (ixb_n (by omega) (by decide)), ck_if (ixb_n (by omega) (by decide)), cl_n (by omega), cl_n (by omega), (hsv.ck k hk).2.2.2.2.2.2, up_na (a' := 400 + s) (by omega), g1, g2 _ a90, w1, nI_add, nI_1]
        have b2 := atO_b h.gd s (an2 D s k) (n := k) (by omega)
        refine ⟨_, rfl, ?_, fun b hb => ?_, fun a j t1 t2 => ?_⟩
        · rw [up_s, mxN_s, show coF D s k = an2 D s k from if_pos q]
          by_cases c : mxN (coF D s) k < an2 D s k
          · rw [if_pos c, if_pos ((nI_lt_iff (by omega) (by omega)).mpr c)]
          · rw [if_neg c, if_neg (fun w => c ((nI_lt_iff (by omega) (by omega)).mp w))]
        · rw [up_na (by omega)]
          rw [atO_s]
          by_cases c : b = an2 D s k
          · rw [c, up_s, if_pos (by simp [q])]
          · rw [up_nk c, g2 b hb, if_neg (by simp [q]; omega)]
            rfl
        · rw [up_n (by omega), up_na t1, g3 a j t1 t2]
      · rw [if_neg q, nI_1]
        refine ⟨x, rfl, ?_, fun b hb => ?_, g3⟩
        · rw [mxN_s, show coF D s k = 0 from if_neg q, if_neg (by omega), g1]
        · rw [g2 b hb]
          rw [atO_s]
          rw [if_neg (by simp [q])]
          rfl)
    (up2 (row I 21 y) (400 + s) 9 0) ⟨up_s, fun b hb => by rw [up_na (by omega), row_s, hy b (by omega)]; rfl, fun a k t1 t2 => by rw [up_n (by omega), row_n t1]⟩
  have hsv : SV p z J D := h.fr (fun a k _ => z3 _ _ (by omega) (by omega)) (z3 _ _ (by omega) (by omega)) (z3 _ _ (by omega) (by omega)) (fun a k _ _ => z3 _ _ (by omega) (by omega)) (fun a k _ _ => rfl) (fun a k _ _ => rfl)
  have b2 := atO_b h.gd s 0 (Nat.le_refl _)
  obtain ⟨I', i1, i2, i3, i4⟩ := sp_coneH (d := d + 2) (sl := sl) h hl hs hm (hfO D s) 0 (up2 z (400 + s) 10 0) (by omega) up_s (fun b hb => by rw [up_na (by omega)]; exact z2 b hb) (fun a k t1 t2 => by rw [up_n (by omega)]; exact z3 a k t1 t2)
  refine ⟨I', ?_, by rw [i3, up_nk (by omega), z1]; rfl, i2, i4⟩
  rw [E109_0 _ hs3, e, E109_2 _ _ hs3, if_neg (show ¬ nI 91 ≤ 90 by decide), e2, E109_28 _ _ h.p60 hs3, hsv.count, if_neg (nlt_n (by omega)), up_na (a' := 21) (by omega), z2 0 (by omega), nI_l (by omega), ← haO_0]
  exact i1
theorem sp_measure (h : SV p I J D) (hl : LabD D) (hpl : ∀ j, j < nc D → I 12 j = stn D j) {s : Nat} (hs : s < nst D) : ∃ I' J', den (d + 3) 106 [.ref 11, .int (nI s), .ref (400 + s)] (S sl p I J) = some (none, S sl p I' J') ∧ Msd I' J' D s ∧ (∀ a k, a ≠ 21 → ¬ (a = 400 + s ∧ 6 ≤ k) → I' a k = I a k) ∧ ∀ a k, a ≠ 500 + s → a ≠ 600 + s → a ≠ 700 + s → a ≠ 800 + s → J' a k = J a k := by
  have h30 := nst_30 h.gd hl
  have n60 := h.gd.n60
  have hs3 : s < 30 := by omega
  have hmb := meO_b h.gd hl hs
  rw [E106_0 _ hs3, sp_findSeed h hl hpl hs, evK_v, E106_6 _ hs3, sp_gclear (ob500 hs3) (ob600 hs3) (rfS hs3), evK_v, E106_13 _ hs3]
  have f1 : ∀ a k, ¬ (a = 400 + s ∧ k = 6) → up2 I (400 + s) 6 (lv D (sd D (nI s))) a k = I a k := fun a k w => up_n w
  have g1 : up2 I (400 + s) 6 (lv D (sd D (nI s))) (400 + s) 6 = lv D (sd D (nI s)) := up_s
  generalize up2 I (400 + s) 6 (lv D (sd D (nI s))) = I1 at f1 g1
  have f2 : ∀ a k, a ≠ 700 + s → setV J (700 + s) (pv D (sd D (nI s))) a k = J a k := fun a k w => setV_ne w
  have g2 : vec (setV J (700 + s) (pv D (sd D (nI s)))) (700 + s) = pv D (sd D (nI s)) := vec_setV
  generalize setV J (700 + s) (pv D (sd D (nI s))) = J1 at f2 g2
  have h1 : SV p I1 J1 D := h.fr (fun a k _ => f1 _ _ (by omega)) (f1 _ _ (by omega)) (f1 _ _ (by omega)) (fun a k _ _ => f1 _ _ (by omega)) (fun a k _ _ => f2 _ _ (by omega)) (fun a k _ _ => f2 _ _ (by omega))
  obtain ⟨m, e, hm⟩ := for_ex (M := V3 × Int64) (fun k x => ev (d + 2 + 1) 106 15 [.ref 11, .int (nI s), .ref (400 + s), .int k] [] (S sl p I1 (setG J1 (500 + s) (600 + s) x))) (nc D) (fun k x => x = smP D (fun k => decide (stn D k = nI s)) (pv D (sd D (nI s))) k)
    (by
      intro k x hk hx
      have hp := h.p60 k
      have e1 : smP D (fun k => decide (stn D k = nI s)) (pv D (sd D (nI s))) (k + 1) = if decide (stn D k = nI s) = true then addS (smP D (fun k => decide (stn D k = nI s)) (pv D (sd D (nI s))) k) (wt D k) (decide (vd (pv D k) (pv D (sd D (nI s))) < 0)) (pv D k) else smP D (fun k => decide (stn D k = nI s)) (pv D (sd D (nI s))) k := rfl
      rw [E106_15 _ _ h.p60 hs3, h1.count, if_pos (lt_n hk (by omega)), ck_if (ixb_n (by omega) (by decide)), cl_n (by omega), f1 12 k (by omega), hpl k hk, e1, hx]
      by_cases q : stn D k = nI s
      · rw [if_pos q, if_pos (decide_eq_true q), ck_if (ixb_n (by omega) (by decide)), ck_if (ixb_n (by omega) (by decide)), (h1.ck k hk).2.2.2.2.2.2, sp_gadd (ob500 hs3) (ob600 hs3) (obP hp) (ob700 hs3) (rfS hs3) (by omega) (by omega) (by omega) (by omega) (by omega), evK_v, E106_71 _ _ hs3, h1.pole k hk, g2, nI_1]
        exact ⟨_, rfl, rfl⟩
      · rw [if_neg q, if_neg (by simpa using q), nI_1]
        exact ⟨_, rfl, rfl⟩)
    noS rfl
  have hm2 : m = smO D s := hm
  subst hm2
  rw [e, E106_15 _ _ h.p60 hs3, h1.count, if_neg (nlt_n (by omega)), sp_copyC (ob800 hs3) (ob700 hs3), evK_v, E106_88 _ _ hs3, sp_meanInto (ob500 hs3) (ob600 hs3) (ob800 hs3) (rfS hs3), evK_v, E106_99 _ _ hs3]
  have v7 : vec (setG J1 (500 + s) (600 + s) (smO D s)) (700 + s) = pv D (sd D (nI s)) := by rw [setG_v (by omega) (by omega)]; exact g2
  rw [v7]
  have m6 : vec (setV (setG J1 (500 + s) (600 + s) (smO D s)) (800 + s) (pv D (sd D (nI s)))) (600 + s) = (smO D s).1 := by rw [vec_setV_ne (by omega)]; exact setG_b (by omega)
  have m5 : setV (setG J1 (500 + s) (600 + s) (smO D s)) (800 + s) (pv D (sd D (nI s))) (500 + s) 1 = (smO D s).2 := by rw [setV_ne (by omega)]; exact setG_m
  rw [m6, m5, vec_setV, setV_2, show meV ((smO D s).1, (smO D s).2) (pv D (sd D (nI s))) = meO D s from rfl]
  have k8 : vec (setV (setG J1 (500 + s) (600 + s) (smO D s)) (800 + s) (meO D s)) (800 + s) = meO D s := vec_setV
  have k6 : vec (setV (setG J1 (500 + s) (600 + s) (smO D s)) (800 + s) (meO D s)) (600 + s) = (smO D s).1 := by rw [vec_setV_ne (by omega)]; exact setG_b (by omega)
  have k5 : setV (setG J1 (500 + s) (600 + s) (smO D s)) (800 + s) (meO D s) (500 + s) 1 = (smO D s).2 := by rw [setV_ne (by omega)]; exact setG_m
  have kf : ∀ a k, a ≠ 500 + s → a ≠ 600 + s → a ≠ 700 + s → a ≠ 800 + s → setV (setG J1 (500 + s) (600 + s) (smO D s)) (800 + s) (meO D s) a k = J a k := fun a k w1 w2 w3 w4 => by rw [setV_ne w4, setG_n w1 w2, f2 a k w3]
  generalize setV (setG J1 (500 + s) (600 + s) (smO D s)) (800 + s) (meO D s) = J2 at k8 k6 k5 kf
  have t1 := dpv_le (meO D s)
  have t2 : drv (meO D s) < 360 := plN_lt (Nat.mod_lt _ (by decide))
  have d1 : nI (100 * drv (meO D s) + dpv (meO D s)) / 100 = nI (drv (meO D s)) := by
    rw [show (100 : Int32) = nI 100 from rfl, nI_div (by omega) (by omega) (by omega)]
    congr 1
    omega
  have d2 : nI (100 * drv (meO D s) + dpv (meO D s)) - nI (100 * drv (meO D s) + dpv (meO D s)) / 100 * 100 = nI (dpv (meO D s)) := by
    rw [show (100 : Int32) = nI 100 from rfl, nI_mod (by omega) (by omega) (by omega)]
    congr 1
    omega
  rw [sp_lieOfC (ob800 hs3) h1.sn (by rw [k8]; exact bv_w hmb), k8, evK_s, E106_110 _ _ _ hs3, d2, d1]
  have f3 : ∀ a k, ¬ (a = 400 + s ∧ (k = 7 ∨ k = 8)) → up2 (up2 I1 (400 + s) 7 (nI (drv (meO D s)))) (400 + s) 8 (nI (dpv (meO D s))) a k = I1 a k := fun a k w => by rw [up_n (by omega), up_n (by omega)]
  have g3 : up2 (up2 I1 (400 + s) 7 (nI (drv (meO D s)))) (400 + s) 8 (nI (dpv (meO D s))) (400 + s) 7 = nI (drv (meO D s)) := by rw [up_nk (by omega), up_s]
  have g4 : up2 (up2 I1 (400 + s) 7 (nI (drv (meO D s)))) (400 + s) 8 (nI (dpv (meO D s))) (400 + s) 8 = nI (dpv (meO D s)) := up_s
  generalize up2 (up2 I1 (400 + s) 7 (nI (drv (meO D s)))) (400 + s) 8 (nI (dpv (meO D s))) = I2 at f3 g3 g4
  have h2 : SV p I2 J2 D := h.fr (fun a k _ => by rw [f3 _ _ (by omega), f1 _ _ (by omega)]) (by rw [f3 _ _ (by omega), f1 _ _ (by omega)]) (by rw [f3 _ _ (by omega), f1 _ _ (by omega)]) (fun a k _ _ => by rw [f3 _ _ (by omega), f1 _ _ (by omega)]) (fun a k _ _ => kf _ _ (by omega) (by omega) (by omega) (by omega)) (fun a k _ _ => kf _ _ (by omega) (by omega) (by omega) (by omega))
  obtain ⟨I3, o1, o2, o3, o4⟩ := sp_openCone (d := d) (sl := sl) h2 hl (fun j hj => by rw [f3 _ _ (by omega), f1 _ _ (by omega)]; exact hpl j hj) hs k8 k5
  rw [o1, evK_v, E106_133 _ _ hs3]
  refine ⟨I3, J2, rfl, ⟨?_, ?_, ?_, o2, o3, k8, k6, k5⟩, fun a k w1 w2 => ?_, kf⟩
  · rw [o4 _ _ (by omega) (by omega), f3 _ _ (by omega), g1]
  · rw [o4 _ _ (by omega) (by omega), g3]
  · rw [o4 _ _ (by omega) (by omega), g4]
  · rw [o4 _ _ w1 (by omega), f3 _ _ (by omega), f1 _ _ (by omega)]
end MEAS
