section FLE
variable {d sl : Nat} {p : Nat → Nat} {I I' : Nat → Nat → Int32} {J J' : Nat → Nat → Int64} {D : Nat → Nat → Int32} {e : Nat}
theorem setG_id {J : Nat → Nat → Int64} {g b : Nat} {m : V3 × Int64} (h1 : vec J b = m.1) (h2 : J g 1 = m.2) : setG J g b m = J := by
  unfold setG
  rw [← h1, setV_id, ← h2, up_id]
theorem fol_s {s u t : Nat} {g : Int32} {n : Nat} : fol D s u t g (n + 1) = if stn D n = nI s then addS (fol D s u t g n) (wt D n) (decide (vd (tv t g (pv D n)) (tv t g (meO D s)) < 0)) (tv t g (pv D n)) else if stn D n = nI u then addS (fol D s u t g n) (wt D n) (decide (vd (tv t (-g) (pv D n)) (tv t g (meO D s)) < 0)) (tv t (-g) (pv D n)) else fol D s u t g n := rfl
theorem C_tightBy (h : CK p I J D e) (hpl : ∀ j, j < nc D → I 12 j = stn D j) {s u t k : Nat} (hs : s < 30) (hm : vec J (800 + s) = meO D s) (ht : t < 360) (hk : k ≤ 360) : ∃ J', den (d + 3) 23 [.ref 38, .int (nI s), .int (nI u), .int (nI t), .int (nI k - 180)] (S sl p I J) = some (some (.int (foO D s u t (nI k - 180))), S sl p I J') ∧ ∀ a k, ¬ (39 ≤ a ∧ a < 45) → J' a k = J a k := by
  have hD := h.sv.gd
  have n60 := hD.n60
  have hsn := h.sv.sn
  have hg := neg180 hk
  obtain ⟨g, eg⟩ : ∃ g, g = nI k - 180 := ⟨_, rfl⟩
  have hg1 : ∃ k, k ≤ 720 ∧ g = nI k - 180 := ⟨k, by omega, eg⟩
  have hg2 : ∃ k, k ≤ 720 ∧ -g = nI k - 180 := ⟨360 - k, by omega, by rw [eg]; exact hg⟩
  rw [← eg]
  have e0 := C_turn (d := d) (sl := sl) (p := p) (I := I) (J := setV J 39 (axv t)) (a := 800 + s) (b := 42) (ob800 hs) ob_42 (by omega) hsn hg1
  have v9 : vec (setV J 39 (axv t)) 39 = axv t := vec_setV
  have v8 : vec (setV J 39 (axv t)) (800 + s) = meO D s := by rw [vec_setV_ne (by omega)]; exact hm
  rw [v9, v8] at e0
  have e1 : den (d + 3) 23 [.ref 38, .int (nI s), .int (nI u), .int (nI t), .int g] (S sl p I J) = ev (d + 3) 23 45 [.ref 38, .int (nI s), .int (nI u), .int (nI t), .int g, .retAddr 0, .retAddr 0] [] (S sl p I (setV (setV (setV J 39 (axv t)) 40 (crs (axv t) (meO D s))) 42 (tv t g (meO D s)))) := by
    rw [E23_0, C_cos hsn (by omega), evK_s, E23_12, C_sin hsn (by omega), evK_s, E23_21, sp_put ob_39, evK_v, E23_26, ck_if (ixb_n (by omega) (by decide)), cl_n (by omega)]
    exact congrArg (evK (d + 3) 23 45 [.ref 38, .int (nI s), .int (nI u), .int (nI t), .int g, .retAddr 0, .retAddr 0] []) e0
  have w9 : vec (setV (setV (setV J 39 (axv t)) 40 (crs (axv t) (meO D s))) 42 (tv t g (meO D s))) 39 = axv t := by rw [vec_setV_ne (by omega), vec_setV_ne (by omega), vec_setV]
  have w2 : vec (setV (setV (setV J 39 (axv t)) 40 (crs (axv t) (meO D s))) 42 (tv t g (meO D s))) 42 = tv t g (meO D s) := vec_setV
  have wf : ∀ a k, ¬ (39 ≤ a ∧ a < 45) → setV (setV (setV J 39 (axv t)) 40 (crs (axv t) (meO D s))) 42 (tv t g (meO D s)) a k = J a k := fun a k w => by rw [setV_ne (by omega), setV_ne (by omega), setV_ne (by omega)]
  rw [e1]
  generalize setV (setV (setV J 39 (axv t)) 40 (crs (axv t) (meO D s))) 42 (tv t g (meO D s)) = J1 at w9 w2 wf
  have r43 : RF p 43 0 = some 44 := rfl
  rw [E23_45, sp_gclear ob_43 ob_44 r43, evK_v, E23_52]
  obtain ⟨J2, e2, z1, z2, z3, z4, z5⟩ := for_ex (M := Nat → Nat → Int64) (fun j x => ev (d + 3) 23 55 [.ref 38, .int (nI s), .int (nI u), .int (nI t), .int g, .int j, .retAddr 0] [] (S sl p I x)) (nc D) (fun j x => vec x 44 = (fol D s u t g j).1 ∧ x 43 1 = (fol D s u t g j).2 ∧ vec x 39 = axv t ∧ vec x 42 = tv t g (meO D s) ∧ ∀ a k, ¬ (39 ≤ a ∧ a < 45) → x a k = J a k)
    (by
      rintro j x hj ⟨z1, z2, z3, z4, z5⟩
      have hp := h.sv.p60 j
      have vp : vec x (300 + p j) = pv D j := by
        rw [← h.sv.pole j hj]
        unfold vec
        rw [z5 _ _ (by omega), z5 _ _ (by omega), z5 _ _ (by omega)]
      have step : ∀ g', (∃ k, k ≤ 720 ∧ g' = nI k - 180) → ∀ v, ∃ x', ev (d + 3) 23 119 [.ref 38, .int (nI s), .int (nI u), .int (nI t), .int g, .int (nI j), .int v] [.int g', .ref (300 + p j), .ref 38] (S sl p I x) = ev (d + 3) 23 55 [.ref 38, .int (nI s), .int (nI u), .int (nI t), .int g, .int (nI (j + 1)), .retAddr 0] [] (S sl p I x') ∧ vec x' 44 = (addS (fol D s u t g j) (wt D j) (decide (vd (tv t g' (pv D j)) (tv t g (meO D s)) < 0)) (tv t g' (pv D j))).1 ∧ x' 43 1 = (addS (fol D s u t g j) (wt D j) (decide (vd (tv t g' (pv D j)) (tv t g (meO D s)) < 0)) (tv t g' (pv D j))).2 ∧ vec x' 39 = axv t ∧ vec x' 42 = tv t g (meO D s) ∧ ∀ a k, ¬ (39 ≤ a ∧ a < 45) → x' a k = J a k := by
        intro g' hg' v
        have e3 := C_turn (d := d) (sl := sl) (p := p) (I := I) (J := x) (a := 300 + p j) (b := 41) (obP hp) ob_41 (by omega) hsn hg'
        rw [vp, z3] at e3
        have y9 : vec (setV (setV x 40 (crs (axv t) (pv D j))) 41 (tv t g' (pv D j))) 39 = axv t := by rw [vec_setV_ne (by omega), vec_setV_ne (by omega)]; exact z3
        have y1 : vec (setV (setV x 40 (crs (axv t) (pv D j))) 41 (tv t g' (pv D j))) 41 = tv t g' (pv D j) := vec_setV
        have y2 : vec (setV (setV x 40 (crs (axv t) (pv D j))) 41 (tv t g' (pv D j))) 42 = tv t g (meO D s) := by rw [vec_setV_ne (by omega), vec_setV_ne (by omega)]; exact z4
        have y4 : vec (setV (setV x 40 (crs (axv t) (pv D j))) 41 (tv t g' (pv D j))) 44 = (fol D s u t g j).1 := by rw [vec_setV_ne (by omega), vec_setV_ne (by omega)]; exact z1
        have y3 : setV (setV x 40 (crs (axv t) (pv D j))) 41 (tv t g' (pv D j)) 43 1 = (fol D s u t g j).2 := by rw [setV_ne (by omega), setV_ne (by omega)]; exact z2
        have yf : ∀ a k, ¬ (39 ≤ a ∧ a < 45) → setV (setV x 40 (crs (axv t) (pv D j))) 41 (tv t g' (pv D j)) a k = J a k := fun a k w => by rw [setV_ne (by omega), setV_ne (by omega)]; exact z5 a k w
        rw [E23_119 _ _ _ _ _ _ _ (obP hp), show den (d + 2) 22 [.ref 38, .ref (300 + p j), .int g', .ref 41] (S sl p I x) = _ from e3, evK_v]
        change ∃ x', ev (d + 3) 23 126 _ _ (S sl p I (setV (setV x 40 (crs (axv t) (pv D j))) 41 (tv t g' (pv D j)))) = _ ∧ _
        generalize setV (setV x 40 (crs (axv t) (pv D j))) 41 (tv t g' (pv D j)) = x2 at y9 y1 y2 y4 y3 yf
        have ga := sp_gadd (d := d + 1) (sl := sl) (p := p) (I := I) (J := x2) (g := 43) (b := 44) (x := 41) (y := 42) (m := fol D s u t g j) (w := wt D j) ob_43 ob_44 ob_41 ob_42 r43 (by omega) (by omega) (by omega) (by omega) (by omega)
        rw [setG_id y4 y3, y1, y2] at ga
        rw [E23_126 _ _ _ _ _ _ h.sv.p60, ck_if (ixb_n (by omega) (by decide)), cl_n (by omega), (h.sv.ck j hj).2.2.2.2.2.2, ga, evK_v, E23_154, nI_1]
        exact ⟨_, rfl, setG_b (by omega), setG_m, by rw [setG_v (by omega) (by omega)]; exact y9, by rw [setG_v (by omega) (by omega)]; exact y2, fun a k w => by rw [setG_n (by omega) (by omega)]; exact yf a k w⟩
      rw [E23_55, h.sv.count, if_pos (lt_n hj (by omega)), ck_if (ixb_n (by omega) (by decide)), cl_n (by omega), hpl j hj, fol_s]
      by_cases q : stn D j = nI s
      · rw [if_pos q, E23_91 _ _ _ _ _ _ h.sv.p60, ck_if (ixb_n (by omega) (by decide)), cl_n (by omega), if_pos q, if_pos q]
        exact step g hg1 _
      · by_cases r : stn D j = nI u
        · rw [if_neg q, if_pos r, E23_91 _ _ _ _ _ _ h.sv.p60, ck_if (ixb_n (by omega) (by decide)), cl_n (by omega), if_neg q, if_neg q, if_pos r]
          exact step (-g) hg2 _
        · rw [if_neg q, if_neg r, if_neg q, if_neg r, nI_1]
          exact ⟨x, rfl, z1, z2, z3, z4, z5⟩)
    (setG J1 43 44 noS) ⟨setG_b (by omega), setG_m, by rw [setG_v (by omega) (by omega)]; exact w9, by rw [setG_v (by omega) (by omega)]; exact w2, fun a k w => by rw [setG_n (by omega) (by omega)]; exact wf a k w⟩
  have fb := fol_f hD (s := s) (u := u) ht hk (nc D) (Nat.le_refl _)
  rw [← eg] at fb
  obtain ⟨o1, o2, o3⟩ := fB_ok n60 fb
  have et := sp_tightness (d := d) (sl := sl) (p := p) (I := I) (J := J2) (g := 43) (b := 44) ob_43 ob_44 r43 (by rw [z1]; exact o1) (by rw [z2]; exact ⟨o2, o3⟩)
  rw [z1, z2] at et
  refine ⟨J2, ?_, z5⟩
  rw [e2, E23_55, h.sv.count, if_neg (nlt_n (by omega)), et, evK_s, E23_167]
  rfl
theorem M_folded (hD : GD D) (hL : LabD D) (h : dat I = D) (hS : SetAt I D) (hM : MeanAt I D (nst D)) {s u t k : Nat} (hs : s < nst D) (ht : t < 360) (hk : k ≤ 360) : ∃ v m, den (d + 6) 305 [.ref 46, .int (nI s), .int (nI u), .int (nI t), .int (nI k - 180)] (S sl p I J) = some (some (.int (foO D s u t (nI k - 180))), S sl p (set3v I v) (setS J m)) := by
  have n60 := hD.n60
  have h30 := nst_30 hD hL
  have hb := meO_b hD hL hs
  have hv := hM.v hs hb
  obtain ⟨g, eg⟩ : ∃ g, g = nI k - 180 := ⟨_, rfl⟩
  rw [← eg]
  have e0 := M_turn (d := d + 1) (sl := sl) (p := p) (I := I) (J := J) (t := t) (g := g) (v := mvI I s) (by rw [hv]; exact hb)
  rw [hv] at e0
  have e0' : den (d + 5) 304 [.ref 46, .long (Int32.toInt64 (I 64 s)), .long (Int32.toInt64 (I 65 s)), .long (Int32.toInt64 (I 66 s)), .int (nI t), .int g] (S sl p I J) = some (none, S sl p (set3v I (tv t g (meO D s))) J) := by
    rw [← e0, ← hv]
    rfl
  obtain ⟨q1, q2, q3⟩ := tv_b (t := t) (g := g) hb
  obtain ⟨r1, r2, r3⟩ := set3v_r (I := I) (v := tv t g (meO D s))
  obtain ⟨⟨v, m⟩, e1, z1⟩ := for_ex (M := V3 × (V3 × Int64)) (fun j x => ev (d + 6) 305 56 [.ref 46, .int (nI s), .int (nI u), .int (nI t), .int g, .long (tv t g (meO D s)).1, .retAddr 0, .long (tv t g (meO D s)).2.1, .retAddr 0, .long (tv t g (meO D s)).2.2, .retAddr 0, .int j] [] (S sl p (set3v I x.1) (setS J x.2))) (nc D) (fun j x => x.2 = fol D s u t g j)
    (by
      rintro j ⟨v, m⟩ hj rfl
      simp only
      have hd : dat (set3v I v) = D := by rw [dat_set3v]; exact h
      have bp := hD.bp hj
      have step : ∀ g', ∃ x' : V3 × (V3 × Int64), ev (d + 6) 305 135 [.ref 46, .int (nI s), .int (nI u), .int (nI t), .int g, .long (tv t g (meO D s)).1, .retAddr 0, .long (tv t g (meO D s)).2.1, .retAddr 0, .long (tv t g (meO D s)).2.2, .retAddr 0, .int (nI j)] [.int g', .int (nI t), .long (pv D j).2.2, .long (pv D j).2.1, .long (pv D j).1, .ref 46] (S sl p (set3v I v) (setS J (fol D s u t g j))) = ev (d + 6) 305 56 [.ref 46, .int (nI s), .int (nI u), .int (nI t), .int g, .long (tv t g (meO D s)).1, .retAddr 0, .long (tv t g (meO D s)).2.1, .retAddr 0, .long (tv t g (meO D s)).2.2, .retAddr 0, .int (nI (j + 1))] [] (S sl p (set3v I x'.1) (setS J x'.2)) ∧ x'.2 = addS (fol D s u t g j) (wt D j) (decide (vd (tv t g' (pv D j)) (tv t g (meO D s)) < 0)) (tv t g' (pv D j)) := by
        intro g'
        refine ⟨(tv t g' (pv D j), _), ?_, rfl⟩
        obtain ⟨y1, y2, y3⟩ := set3v_r (I := I) (v := tv t g' (pv D j))
        obtain ⟨b1, b2, b3⟩ := tv_b (t := t) (g := g') bp
        have hs1 := sp_sums (d := d + 5) (sl := sl) (p := p) (I := set3v I (tv t g' (pv D j))) (J := J) (m := fol D s u t g j) (x := tv t g' (pv D j)) (w := wt D j) (t := decide (vd (tv t g' (pv D j)) (tv t g (meO D s)) < 0))
        rw [E305_135, M_turn (d := d + 1) bp, set3v_2, evK_v, E305_138, M_wt (d := d + 1) hD (by rw [dat_set3v]; exact h) hj, evK_s, E305_160, y1, y2, y3, m32_64 b1, m32_64 b2, m32_64 b3, sp_dot, evK_s, E305_184]
        by_cases c : vd (tv t g' (pv D j)) (tv t g (meO D s)) < 0
        · rw [decide_eq_true c, if_pos rfl] at hs1
          rw [if_pos c, E305_194, hs1, evK_v, E305_197, nI_1, decide_eq_true c]
          rfl
        · rw [decide_eq_false c, if_neg (by decide)] at hs1
          rw [if_neg c, E305_194, hs1, evK_v, E305_197, nI_1, decide_eq_false c]
          rfl
      rw [E305_56, d2 hD hd, if_pos (lt_n hj (by omega)), ck_if (ixb_n (by omega) (by decide)), ck_if (ixb_n (by omega) (by decide)), cl_n (by omega), set3v_n (a := 61) (by omega), hS.e61 j hj, fol_s]
      have ep : ∀ i, 54 ≤ i → i < 57 → set3v I v i j = D i j := fun i w1 w2 => dr hd (by omega)
      by_cases q : stn D j = nI s
      · rw [if_pos q, E305_90, ck_if (ixb_n (by omega) (by decide)), ck_if (ixb_n (by omega) (by decide)), ck_if (ixb_n (by omega) (by decide)), ck_if (ixb_n (by omega) (by decide)), cl_n (by omega), set3v_n (a := 61) (by omega), hS.e61 j hj, if_pos q, if_pos q, ep 54 (by omega) (by omega), ep 55 (by omega) (by omega), ep 56 (by omega) (by omega)]
        exact step g
      · by_cases r : stn D j = nI u
        · rw [if_neg q, if_pos r, E305_90, ck_if (ixb_n (by omega) (by decide)), ck_if (ixb_n (by omega) (by decide)), ck_if (ixb_n (by omega) (by decide)), ck_if (ixb_n (by omega) (by decide)), cl_n (by omega), set3v_n (a := 61) (by omega), hS.e61 j hj, if_neg q, if_neg q, if_pos r, ep 54 (by omega) (by omega), ep 55 (by omega) (by omega), ep 56 (by omega) (by omega)]
          exact step (-g)
        · rw [if_neg q, if_neg r, if_neg q, if_neg r, nI_1]
          exact ⟨(v, _), rfl, rfl⟩)
    (tv t g (meO D s), noS) rfl
  simp only at e1 z1
  subst z1
  have fb := fol_f hD (s := s) (u := u) ht hk (nc D) (Nat.le_refl _)
  rw [← eg] at fb
  obtain ⟨o1, o2, o3⟩ := fB_ok n60 fb
  refine ⟨v, fol D s u t g (nc D), ?_⟩
  rw [E305_0, ck_if (ixb_n (by omega) (by decide)), ck_if (ixb_n (by omega) (by decide)), ck_if (ixb_n (by omega) (by decide)), cl_n (by omega), e0', evK_v, E305_28, r1, r2, r3, m32_64 q1, m32_64 q2, m32_64 q3, E214_0, evK_v, E305_53, show up2 (up2 (up2 (up2 J 46 32 0) 46 33 0) 46 34 0) 46 35 0 = setS J noS from rfl, e1, E305_56, d2 (I := set3v I v) hD (by rw [dat_set3v]; exact h), if_neg (nlt_n (by omega)), sp_tightM (d := d + 2) o1, evK_s, E305_207]
  rfl
end FLE
