theorem nI_sub {a b : Nat} (h : b ≤ a) (ha : a < 2 ^ 30) : nI a - nI b = nI (a - b) := by
  apply Int32.toInt_inj.mp
  rw [nI_sub_t ha (by omega), tI (by omega)]
  omega
section AG10
variable {d sl : Nat} {p : Nat → Nat} {I I' : Nat → Nat → Int32} {J J' : Nat → Nat → Int64} {D : Nat → Nat → Int32} {e : Nat}
theorem CK.ask (h : CK p I J D e) (v : V3) {a : Nat} (ha : a = 45 ∨ a = 28 ∨ a = 35 ∨ a = 39 ∨ a = 40 ∨ a = 41 ∨ a = 42) : CK p I (setV J a v) D e := h.scr (fun _ _ _ _ _ _ => rfl) (fun b k w => setV_ne (by omega)) (fun b k _ _ => setV_ne (by omega))
theorem Fc.ask {v : V3} {a : Nat} (ha : a < 46) : Fc I J I (setV J a v) := ⟨fun _ _ _ _ => rfl, fun b k _ _ => setV_ne (by omega)⟩
theorem Fm.set3 {x y z : Int32} : Fm I J (set3 I x y z) J := ⟨fun a k _ => set3_n (by omega), fun _ _ _ => rfl⟩
theorem A_thick (hD : GD D) (x y z : Int32) : Agr (d + 40) sl p D e 145 269 [.int x, .int y, .int z] := by
  by_cases hl : Lie x y
  · by_cases hz : ∃ s, s ≤ 90 ∧ z = nI s
    · obtain ⟨k, hk, rfl⟩ := hz
      have w : (if nI k < 0 then (0 : Int32) else if nI k ≤ 90 then 1 else 0) = 1 := wi_y (n := 90) hk (by decide)
      obtain ⟨t, q, ht, hq, rfl, rfl⟩ := id hl
      refine ⟨.int (nI (thN D (poV (nI t) (nI q)) k)), 0, fun I J h => ?_, fun I J h => ?_⟩
      · refine QC.mk1 (I' := I) (J' := setV J 45 (poV (nI t) (nI q))) ?_ (h.ask _ (by omega)) (Fc.ask (by omega))
        have h2 := (h.ask (poV (nI t) (nI q)) (a := 45) (by omega)).sv
        rw [E145_0, C_lie _ _ 1 (Or.inl ⟨hl, rfl⟩), evK_s, E145_5, if_neg (by decide), sp_within, w, evK_s, E145_15, if_neg (by decide), sp_poleInto ht hq ob_45 h.sv.sn, evK_v, E145_37, C_thick h2 ob_45 (by rw [vec_setV]; exact poV_b _ _) hk, vec_setV, evK_s, E145_50, E163_0, evK_s, E145_53]
      · refine QM.mk1 (I' := set3 I (poX (nI t) (nI q)) (poY (nI t) (nI q)) (poZ (nI q))) (J' := J) ?_ dat_set3 Fm.set3
        rw [E269_0, M_lieQ _ _ 1 (Or.inl ⟨hl, rfl⟩), evK_s, E269_5, if_neg (by decide), sp_isFrom, w, evK_s, E269_15, if_neg (by decide), M_thick hD h _ _ hk, evK_s, E269_26, E179_0, evK_s, E269_29]
    · have w : (if z < 0 then (0 : Int32) else if z ≤ 90 then 1 else 0) = 0 := wi_n (n := 90) (by decide) hz
      refine ⟨.int (-1), 1, fun I J h => QC.mk1 (I' := I) (J' := J) ?_ h Fc.refl, fun I J h => QM.mk1 (I' := I) (J' := J) ?_ rfl Fm.refl⟩
      · simp only [E145_0, E145_5, E145_15, E145_18, E145_23, E145_37, E145_50, E145_53, C_lie x y 1 (Or.inl ⟨hl, rfl⟩), w, evK_s, evK_v, E163_0, E164_0, E178_0, E179_0, E180_0, sp_within, sp_isFrom, n10, eq_self, if_true, if_false]
      · simp only [E269_0, E269_5, E269_15, E269_26, E269_29, E269_32, E269_37, M_lieQ x y 1 (Or.inl ⟨hl, rfl⟩), w, evK_s, evK_v, E163_0, E164_0, E178_0, E179_0, E180_0, sp_within, sp_isFrom, n10, eq_self, if_true, if_false]
  · refine ⟨.int (-1), 1, fun I J h => QC.mk1 (I' := I) (J' := J) ?_ h Fc.refl, fun I J h => QM.mk1 (I' := I) (J' := J) ?_ rfl Fm.refl⟩
    · simp only [E145_0, E145_5, E145_15, E145_18, E145_23, E145_37, E145_50, E145_53, C_lie x y 0 (Or.inr ⟨hl, rfl⟩), evK_s, evK_v, E163_0, E164_0, E178_0, E179_0, E180_0, sp_within, sp_isFrom, n10, eq_self, if_true, if_false]
    · simp only [E269_0, E269_5, E269_15, E269_26, E269_29, E269_32, E269_37, M_lieQ x y 0 (Or.inr ⟨hl, rfl⟩), evK_s, evK_v, E163_0, E164_0, E178_0, E179_0, E180_0, sp_within, sp_isFrom, n10, eq_self, if_true, if_false]
theorem A_excess (hD : GD D) (x y z : Int32) : Agr (d + 40) sl p D e 146 270 [.int x, .int y, .int z] := by
  by_cases hl : Lie x y
  · by_cases hz : ∃ s, s ≤ 90 ∧ z = nI s
    · obtain ⟨k, hk, rfl⟩ := hz
      have w : (if nI k < 0 then (0 : Int32) else if nI k ≤ 90 then 1 else 0) = 1 := wi_y (n := 90) hk (by decide)
      obtain ⟨t, q, ht, hq, rfl, rfl⟩ := id hl
      refine ⟨.int (nI (thN D (poV (nI t) (nI q)) k) - (lN (maA D) * (1000 - cs (nI k)).toInt64 / 1000).toInt32), 0, fun I J h => ?_, fun I J h => ?_⟩
      · refine QC.mk1 (I' := I) (J' := setV J 45 (poV (nI t) (nI q))) ?_ (h.ask _ (by omega)) (Fc.ask (by omega))
        have h2 := (h.ask (poV (nI t) (nI q)) (a := 45) (by omega)).sv
        rw [E146_0, C_lie _ _ 1 (Or.inl ⟨hl, rfl⟩), evK_s, E146_5, if_neg (by decide), sp_within, w, evK_s, E146_15, if_neg (by decide), sp_poleInto ht hq ob_45 h.sv.sn, evK_v, E146_37, C_massAll h2, evK_s, E146_44, C_cos h2.sn (by omega), evK_s, E146_55, C_thick h2 ob_45 (by rw [vec_setV]; exact poV_b _ _) hk, vec_setV, evK_s, E146_77, E163_0, evK_s, E146_85, Int64.toInt32_sub, i64_i32]
      · refine QM.mk1 (I' := set3 I (poX (nI t) (nI q)) (poY (nI t) (nI q)) (poZ (nI q))) (J' := J) ?_ dat_set3 Fm.set3
        rw [E270_0, M_lieQ _ _ 1 (Or.inl ⟨hl, rfl⟩), evK_s, E270_5, if_neg (by decide), sp_isFrom, w, evK_s, E270_15, if_neg (by decide), M_thick hD h _ _ hk, evK_s, E270_32, M_weights hD (by rw [dat_set3]; exact h), evK_s, E270_36, sp_cosine, evK_s, E270_43, E179_0, evK_s, E270_55]
    · have w : (if z < 0 then (0 : Int32) else if z ≤ 90 then 1 else 0) = 0 := wi_n (n := 90) (by decide) hz
      refine ⟨.int (-1), 1, fun I J h => QC.mk1 (I' := I) (J' := J) ?_ h Fc.refl, fun I J h => QM.mk1 (I' := I) (J' := J) ?_ rfl Fm.refl⟩
      · simp only [E146_0, E146_5, E146_15, E146_18, E146_23, E146_37, E146_44, E146_55, E146_77, E146_85, C_lie x y 1 (Or.inl ⟨hl, rfl⟩), w, evK_s, evK_v, E163_0, E164_0, E178_0, E179_0, E180_0, sp_within, sp_isFrom, n10, eq_self, if_true, if_false]
      · simp only [E270_0, E270_5, E270_15, E270_18, E270_23, E270_32, E270_36, E270_43, E270_55, M_lieQ x y 1 (Or.inl ⟨hl, rfl⟩), w, evK_s, evK_v, E163_0, E164_0, E178_0, E179_0, E180_0, sp_within, sp_isFrom, n10, eq_self, if_true, if_false]
  · refine ⟨.int (-1), 1, fun I J h => QC.mk1 (I' := I) (J' := J) ?_ h Fc.refl, fun I J h => QM.mk1 (I' := I) (J' := J) ?_ rfl Fm.refl⟩
    · simp only [E146_0, E146_5, E146_15, E146_18, E146_23, E146_37, E146_44, E146_55, E146_77, E146_85, C_lie x y 0 (Or.inr ⟨hl, rfl⟩), evK_s, evK_v, E163_0, E164_0, E178_0, E179_0, E180_0, sp_within, sp_isFrom, n10, eq_self, if_true, if_false]
    · simp only [E270_0, E270_5, E270_15, E270_18, E270_23, E270_32, E270_36, E270_43, E270_55, M_lieQ x y 0 (Or.inr ⟨hl, rfl⟩), evK_s, evK_v, E163_0, E164_0, E178_0, E179_0, E180_0, sp_within, sp_isFrom, n10, eq_self, if_true, if_false]
def rsB (D : Nat → Nat → Int32) (x : Int32) (j : Nat) : Bool := !decide (D 52 j = 0) && decide ((plD (D 51 j) (D 52 j) + 90 - (plD (D 51 j) (D 52 j) + 90) / 180 * 180) / 10 = x)
theorem A_rose (hD : GD D) (x w : Int32) : Agr (d + 40) sl p D e 147 271 [.int x, .int w] := by
  have n60 := hD.n60
  by_cases hx : ∃ s, s ≤ 17 ∧ x = nI s
  · have wx : (if x < 0 then (0 : Int32) else if x ≤ 17 then 1 else 0) = 1 := by obtain ⟨s, hs, rfl⟩ := hx; exact wi_y (n := 17) hs (by decide)
    by_cases ha : ∃ s, s ≤ 1 ∧ w = nI s
    · obtain ⟨k, hk, rfl⟩ := ha
      have w : (if nI k < 0 then (0 : Int32) else if nI k ≤ 1 then 1 else 0) = 1 := wi_y (n := 1) hk (by decide)
      have hM : ∀ I J, dat I = D → den (d + 40) 271 [.ref 46, .int x, .int (nI k)] (S sl p I J) = ev (d + 40) 271 33 [.ref 46, .int x, .int (nI k), .int (nI (cnt (rsB D x) (nc D))), .int (nI (haN D (rsB D x) (nc D))), .int (nI (nc D))] [] (S sl p I J) := by
        intro I J h
        obtain ⟨⟨u, v⟩, e1, h1, h2⟩ := for_ex (M := Int32 × Int32) (fun j y => ev (d + 40) 271 33 [.ref 46, .int x, .int (nI k), .int y.1, .int y.2, .int j] [] (S sl p I J)) (nc D) (fun j y => y.1 = nI (cnt (rsB D x) j) ∧ y.2 = nI (haN D (rsB D x) j))
          (by
            rintro j ⟨u, v⟩ hj ⟨g1, g2⟩
            simp only at g1 g2
            simp only
            subst g1 g2
            refine ⟨(nI (cnt (rsB D x) (j + 1)), nI (haN D (rsB D x) (j + 1))), ?_, rfl, rfl⟩
            rw [E271_33, d2 hD h, if_pos (lt_n hj (by omega)), ck_if (ixb_n (by omega) (by decide)), cl_n (by omega), dr h (by omega), dr h (by omega), haN_s, cnt_s]
            by_cases q : D 52 j = 0
            · have hb : ¬ rsB D x j = true := by unfold rsB; simp [q]
              rw [if_pos q, nI_1, if_neg hb, if_neg hb]
              rfl
            · rw [if_neg q, ck_if (ixb_n (by omega) (by decide)), ck_if (ixb_n (by omega) (by decide)), sp_plainDirection, evK_s, E271_69]
              by_cases q2 : (plD (D 51 j) (D 52 j) + 90 - (plD (D 51 j) (D 52 j) + 90) / 180 * 180) / 10 = x
              · have hb : rsB D x j = true := by unfold rsB; simp [q, q2]
                rw [if_pos q2, M_wt hD h hj, evK_s, E271_97, (hD.wn hj).1, nI_add, nI_1, nI_1, if_pos hb, if_pos hb]
              · have hb : ¬ rsB D x j = true := by unfold rsB; simp [q2]
                rw [if_neg q2, nI_1, if_neg hb, if_neg hb]
                rfl)
          (0, 0) ⟨rfl, rfl⟩
        simp only at e1 h1 h2
        rw [E271_0, sp_isFrom, wx, evK_s, E271_7, if_neg (by decide), sp_isFrom, w, evK_s, E271_16, if_neg (by decide), e1, h1, h2]
      have hC : ∀ I J (b : Int32), CK p I J D e → den (d + 39) 75 [.ref 4, .int x, .int b] (S sl p I J) = some (some (.int (if b = 0 then nI (cnt (rsB D x) (nc D)) else nI (haN D (rsB D x) (nc D)))), S sl p I J) := by
        intro I J b h
        obtain ⟨u, e1, h1⟩ := for_ex (M := Int32) (fun j y => ev (d + 39) 75 5 [.ref 4, .int x, .int b, .int y, .int j, .retAddr 0] [] (S sl p I J)) (nc D) (fun j y => y = if b = 0 then nI (cnt (rsB D x) j) else nI (haN D (rsB D x) j))
          (by
            intro j y hj hy
            subst hy
            refine ⟨if b = 0 then nI (cnt (rsB D x) (j + 1)) else nI (haN D (rsB D x) (j + 1)), ?_, rfl⟩
            rw [E75_5 _ _ _ _ h.sv.p60, h.sv.count, if_pos (lt_n hj (by omega)), ck_if (ixb_n (by omega) (by decide)), ck_if (ixb_n (by omega) (by decide)), cl_n (by omega), (h.sv.ck j hj).2.2.1, (h.sv.ck j hj).2.2.2.2.1, haN_s, cnt_s]
            by_cases q : D 52 j = 0
            · have hb : ¬ rsB D x j = true := by unfold rsB; simp [q]
              rw [if_pos q, nI_1, if_neg hb, if_neg hb]
              rfl
            · rw [if_neg q]
              by_cases q2 : (plD (D 51 j) (D 52 j) + 90 - (plD (D 51 j) (D 52 j) + 90) / 180 * 180) / 10 = x
              · have hb : rsB D x j = true := by unfold rsB; simp [q, q2]
                rw [if_pos q2, if_pos hb, if_pos hb]
                by_cases q3 : b = 0
                · rw [if_pos q3, if_pos q3, if_pos q3, nI_1, nI_1]
                · rw [if_neg q3, if_neg q3, if_neg q3, ck_if (ixb_n (by omega) (by decide)), (h.sv.ck j hj).2.2.2.2.2.2, (hD.wn hj).1, nI_add, nI_1]
              · have hb : ¬ rsB D x j = true := by unfold rsB; simp [q2]
                rw [if_neg q2, nI_1, if_neg hb, if_neg hb]
                rfl)
          0 (by split <;> rfl)
        rw [E75_0, e1, E75_5 _ _ _ _ h.sv.p60, h.sv.count, if_neg (nlt_n (by omega)), h1]
      have hk2 : k = 0 ∨ k = 1 := by omega
      rcases hk2 with rfl | rfl
      · refine ⟨.int (nI (cnt (rsB D x) (nc D))), 0, fun I J h => QC.mk1 (I' := I) (J' := J) ?_ h Fc.refl, fun I J h => QM.mk1 (I' := I) (J' := J) ?_ rfl Fm.refl⟩
        · rw [E147_0, sp_within, wx, evK_s, E147_7, if_neg (by decide), sp_within, w, evK_s, E147_16, if_neg (by decide), if_neg (by decide), E147_41, hC I J 0 h, if_pos rfl, evK_s, E147_44, E163_0, evK_s, E147_47]
        · rw [hM I J h, E271_33, d2 hD h, if_neg (nlt_n (by omega)), if_pos (by decide), E271_117, E179_0, evK_s, E271_120]
      · refine ⟨.int (nI (haN D (rsB D x) (nc D))), 0, fun I J h => QC.mk1 (I' := I) (J' := J) ?_ h Fc.refl, fun I J h => QM.mk1 (I' := I) (J' := J) ?_ rfl Fm.refl⟩
        · rw [E147_0, sp_within, wx, evK_s, E147_7, if_neg (by decide), sp_within, w, evK_s, E147_16, if_neg (by decide), if_pos (by decide), E147_41, hC I J 1 h, if_neg (by decide), evK_s, E147_44, E163_0, evK_s, E147_47]
        · rw [hM I J h, E271_33, d2 hD h, if_neg (nlt_n (by omega)), if_neg (by decide), E271_117, E179_0, evK_s, E271_120]
    · have w : (if w < 0 then (0 : Int32) else if w ≤ 1 then 1 else 0) = 0 := wi_n (n := 1) (by decide) ha
      refine ⟨.int (-1), 1, fun I J h => QC.mk1 (I' := I) (J' := J) ?_ h Fc.refl, fun I J h => QM.mk1 (I' := I) (J' := J) ?_ rfl Fm.refl⟩
      · simp only [E147_0, E147_7, E147_16, E147_19, E147_24, E147_41, E147_44, E147_47, wx, w, evK_s, evK_v, E163_0, E164_0, E178_0, E179_0, E180_0, sp_within, sp_isFrom, n10, eq_self, if_true, if_false]
      · simp only [E271_0, E271_7, E271_16, E271_19, E271_24, E271_69, E271_97, E271_117, E271_120, wx, w, evK_s, evK_v, E163_0, E164_0, E178_0, E179_0, E180_0, sp_within, sp_isFrom, n10, eq_self, if_true, if_false]
  · have wx : (if x < 0 then (0 : Int32) else if x ≤ 17 then 1 else 0) = 0 := wi_n (n := 17) (by decide) hx
    refine ⟨.int (-1), 1, fun I J h => QC.mk1 (I' := I) (J' := J) ?_ h Fc.refl, fun I J h => QM.mk1 (I' := I) (J' := J) ?_ rfl Fm.refl⟩
    · simp only [E147_0, E147_7, E147_16, E147_19, E147_24, E147_41, E147_44, E147_47, wx, evK_s, evK_v, E163_0, E164_0, E178_0, E179_0, E180_0, sp_within, sp_isFrom, n10, eq_self, if_true, if_false]
    · simp only [E271_0, E271_7, E271_16, E271_19, E271_24, E271_69, E271_97, E271_117, E271_120, wx, evK_s, evK_v, E163_0, E164_0, E178_0, E179_0, E180_0, sp_within, sp_isFrom, n10, eq_self, if_true, if_false]
def blN (D : Nat → Nat → Int32) (v : V3) (k : Nat) : Nat → Int32
  | 0 => 0
  | n + 1 => if va2 v (av D n) ≤ k then blN D v k n else blN D v k n ||| (1 <<< (nI n &&& 31))
theorem A_blind (hD : GD D) (x y z : Int32) : Agr (d + 40) sl p D e 151 277 [.int x, .int y, .int z] := by
  have m6 := hD.m6
  by_cases hl : Lie x y
  · by_cases hz : ∃ s, s ≤ 90 ∧ z = nI s
    · obtain ⟨k, hk, rfl⟩ := hz
      have w : (if nI k < 0 then (0 : Int32) else if nI k ≤ 90 then 1 else 0) = 1 := wi_y (n := 90) hk (by decide)
      have e90 : (90 : Int32) - nI k = nI (90 - k) := nI_sub (a := 90) hk (by decide)
      obtain ⟨t, q, ht, hq, rfl, rfl⟩ := id hl
      have hb := poV_b (nI t) (nI q)
      refine ⟨.int (blN D (poV (nI t) (nI q)) (90 - k) (nl D)), 0, fun I J h => ?_, fun I J h => ?_⟩
      · refine QC.mk1 (I' := I) (J' := setV J 45 (poV (nI t) (nI q))) ?_ (h.ask _ (by omega)) (Fc.ask (by omega))
        have h2 := (h.ask (poV (nI t) (nI q)) (a := 45) (by omega)).sv
        obtain ⟨u, e1, h1⟩ := for_ex (M := Int32) (fun j u => ev (d + 39) 76 5 [.ref 4, .ref 45, .int (nI k), .int u, .int j] [] (S sl p I (setV J 45 (poV (nI t) (nI q))))) (nl D) (fun j u => u = blN D (poV (nI t) (nI q)) (90 - k) j)
          (by
            intro j u hj hu
            subst hu
            refine ⟨blN D (poV (nI t) (nI q)) (90 - k) (j + 1), ?_, rfl⟩
            rw [E76_5 _ _ _ ob_45, h.sv.lines, if_pos (lt_n hj (by omega)), ck_if (ixb_n (by omega) (by decide)), cl_n (by omega), e90, sp_areNearC ob_45 (ob100 (by omega)) (by omega) h2.sn (by rw [vec_setV]; exact hb) (by rw [(h2.tr j hj).2.2.2]; exact hD.ba hj), vec_setV, (h2.tr j hj).2.2.2, evK_s, E76_33 _ _ _ _ ob_45, nI_1]
            show _ = ev (d + 39) 76 5 [.ref 4, .ref 45, .int (nI k), .int (if va2 (poV (nI t) (nI q)) (av D j) ≤ 90 - k then blN D (poV (nI t) (nI q)) (90 - k) j else blN D (poV (nI t) (nI q)) (90 - k) j ||| (1 <<< (nI j &&& 31))), .int (nI (j + 1))] [] (S sl p I (setV J 45 (poV (nI t) (nI q))))
            by_cases r : va2 (poV (nI t) (nI q)) (av D j) ≤ 90 - k
            · rw [if_pos r, if_neg (by decide), if_pos r]
            · rw [if_neg r, if_pos rfl, if_neg r])
          0 rfl
        rw [E151_0, C_lie _ _ 1 (Or.inl ⟨hl, rfl⟩), evK_s, E151_5, if_neg (by decide), sp_within, w, evK_s, E151_15, if_neg (by decide), sp_poleInto ht hq ob_45 h.sv.sn, evK_v, E151_37, E76_0 _ ob_45, e1, E76_5 _ _ _ ob_45, h.sv.lines, if_neg (nlt_n (by omega)), evK_s, E151_50, E163_0, evK_s, E151_53, h1]
      · refine QM.mk1 (I' := set3 I (poX (nI t) (nI q)) (poY (nI t) (nI q)) (poZ (nI q))) (J' := J) ?_ dat_set3 Fm.set3
        have hd : dat (set3 I (poX (nI t) (nI q)) (poY (nI t) (nI q)) (poZ (nI q))) = D := by rw [dat_set3]; exact h
        have g1 := (set3_r (I := I) (x := poX (nI t) (nI q)) (y := poY (nI t) (nI q)) (z := poZ (nI q))).1
        have g2 := (set3_r (I := I) (x := poX (nI t) (nI q)) (y := poY (nI t) (nI q)) (z := poZ (nI q))).2.1
        have g3 := (set3_r (I := I) (x := poX (nI t) (nI q)) (y := poY (nI t) (nI q)) (z := poZ (nI q))).2.2
        rw [E277_0, M_lieQ _ _ 1 (Or.inl ⟨hl, rfl⟩), evK_s, E277_5, if_neg (by decide), sp_isFrom, w, evK_s, E277_15, if_neg (by decide), sp_laysPole, evK_v, E277_30]
        generalize set3 I (poX (nI t) (nI q)) (poY (nI t) (nI q)) (poZ (nI q)) = I1 at hd g1 g2 g3
        obtain ⟨u, e1, h1⟩ := for_ex (M := Int32) (fun j u => ev (d + 40) 277 36 [.ref 46, .int (nI t), .int (nI q), .int (nI k), .int u, .int j] [] (S sl p I1 J)) (nl D) (fun j u => u = blN D (poV (nI t) (nI q)) (90 - k) j)
          (by
            intro j u hj hu
            subst hu
            refine ⟨blN D (poV (nI t) (nI q)) (90 - k) (j + 1), ?_, rfl⟩
            have ed : vd ((I1 57 j).toInt64, (I1 58 j).toInt64, (I1 59 j).toInt64) ((poX (nI t) (nI q)).toInt64, (poY (nI t) (nI q)).toInt64, (poZ (nI q)).toInt64) = vd (av D j) (poV (nI t) (nI q)) := by
              unfold av poV
              rw [dr hd (by omega), dr hd (by omega), dr hd (by omega)]
            have eq1 : vq ((I1 57 j).toInt64, (I1 58 j).toInt64, (I1 59 j).toInt64) = vq (av D j) := by
              unfold av
              rw [dr hd (by omega), dr hd (by omega), dr hd (by omega)]
            rw [E277_36, d1 hD hd, if_pos (lt_n hj (by omega)), ck_if (ixb_n (by omega) (by decide)), ck_if (ixb_n (by omega) (by decide)), ck_if (ixb_n (by omega) (by decide)), cl_n (by omega), sp_dot, evK_s, E277_89, ck_if (ixb_n (by omega) (by decide)), ck_if (ixb_n (by omega) (by decide)), ck_if (ixb_n (by omega) (by decide)), cl_n (by omega), sp_square, evK_s, E277_116, sp_square, evK_s, E277_134, g1, g2, g3, ed, eq1, show vq ((poX (nI t) (nI q)).toInt64, (poY (nI t) (nI q)).toInt64, (poZ (nI q)).toInt64) = vq (poV (nI t) (nI q)) from rfl, e90, sp_isNear, evK_s, E277_142, near_if (okN_v (hD.ba hj) hb) (by omega), nI_1]
            show _ = ev (d + 40) 277 36 [.ref 46, .int (nI t), .int (nI q), .int (nI k), .int (if va2 (poV (nI t) (nI q)) (av D j) ≤ 90 - k then blN D (poV (nI t) (nI q)) (90 - k) j else blN D (poV (nI t) (nI q)) (90 - k) j ||| (1 <<< (nI j &&& 31))), .int (nI (j + 1))] [] (S sl p I1 J)
            by_cases r : va2 (poV (nI t) (nI q)) (av D j) ≤ 90 - k
            · have r' : ag (vd (av D j) (poV (nI t) (nI q))) (vq (av D j) * vq (poV (nI t) (nI q))) ≤ 90 - k := by
                have := va2_sy (poV (nI t) (nI q)) (av D j)
                rw [this] at r
                exact r
              rw [if_pos r', if_neg (by decide), if_pos r, Int32.or_zero]
            · have r' : ¬ ag (vd (av D j) (poV (nI t) (nI q))) (vq (av D j) * vq (poV (nI t) (nI q))) ≤ 90 - k := by
                have := va2_sy (poV (nI t) (nI q)) (av D j)
                rw [this] at r
                exact r
              rw [if_neg r', if_pos rfl, if_neg r])
          0 rfl
        rw [e1, E277_36, d1 hD hd, if_neg (nlt_n (by omega)), E179_0, evK_s, E277_168, h1]
    · have w : (if z < 0 then (0 : Int32) else if z ≤ 90 then 1 else 0) = 0 := wi_n (n := 90) (by decide) hz
      refine ⟨.int (-1), 1, fun I J h => QC.mk1 (I' := I) (J' := J) ?_ h Fc.refl, fun I J h => QM.mk1 (I' := I) (J' := J) ?_ rfl Fm.refl⟩
      · simp only [E151_0, E151_5, E151_15, E151_18, E151_23, E151_37, E151_50, E151_53, C_lie x y 1 (Or.inl ⟨hl, rfl⟩), w, evK_s, evK_v, E163_0, E164_0, E178_0, E179_0, E180_0, sp_within, sp_isFrom, n10, eq_self, if_true, if_false]
      · simp only [E277_0, E277_5, E277_15, E277_18, E277_23, E277_30, E277_89, E277_116, E277_134, E277_142, E277_168, M_lieQ x y 1 (Or.inl ⟨hl, rfl⟩), w, evK_s, evK_v, E163_0, E164_0, E178_0, E179_0, E180_0, sp_within, sp_isFrom, n10, eq_self, if_true, if_false]
  · refine ⟨.int (-1), 1, fun I J h => QC.mk1 (I' := I) (J' := J) ?_ h Fc.refl, fun I J h => QM.mk1 (I' := I) (J' := J) ?_ rfl Fm.refl⟩
    · simp only [E151_0, E151_5, E151_15, E151_18, E151_23, E151_37, E151_50, E151_53, C_lie x y 0 (Or.inr ⟨hl, rfl⟩), evK_s, evK_v, E163_0, E164_0, E178_0, E179_0, E180_0, sp_within, sp_isFrom, n10, eq_self, if_true, if_false]
    · simp only [E277_0, E277_5, E277_15, E277_18, E277_23, E277_30, E277_89, E277_116, E277_134, E277_142, E277_168, M_lieQ x y 0 (Or.inr ⟨hl, rfl⟩), evK_s, evK_v, E163_0, E164_0, E178_0, E179_0, E180_0, sp_within, sp_isFrom, n10, eq_self, if_true, if_false]
end AG10
