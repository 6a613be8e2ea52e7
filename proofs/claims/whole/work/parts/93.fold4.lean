section FLG
variable {d sl : Nat} {p : Nat → Nat} {I I' : Nat → Nat → Int32} {J J' : Nat → Nat → Int64} {D : Nat → Nat → Int32} {e n : Nat}
theorem CK.fold (h : CK p I J D e) (f : ∀ a k, ¬ (39 ≤ a ∧ a < 45) → J' a k = J a k) : CK p I J' D e := h.scr (fun _ _ _ _ _ _ => rfl) (fun b k w => f _ _ (by omega)) (fun b k _ _ => f _ _ (by omega))
/-- between a bound below 0 and one above -/
theorem wm_y {k : Nat} (h : k ≤ 360) : (if nI k - 180 < -180 then (0 : Int32) else if nI k - 180 ≤ 180 then 1 else 0) = 1 := by
  have e : (nI k - 180).toInt = (k : Int) - 180 := nI_sub_t (y := 180) (by omega) (by decide)
  rw [if_neg, if_pos]
  · rw [Int32.le_iff_toInt_le, e]
    have : (180 : Int32).toInt = 180 := rfl
    omega
  · rw [Int32.lt_iff_toInt_lt, e]
    have : (-180 : Int32).toInt = -180 := rfl
    omega
theorem wm_n {x : Int32} (h : ¬ ∃ k, k ≤ 360 ∧ x = nI k - 180) : (if x < -180 then (0 : Int32) else if x ≤ 180 then 1 else 0) = 0 := by
  by_cases q : x < -180
  · rw [if_pos q]
  · rw [if_neg q, if_neg]
    intro w
    rw [Int32.lt_iff_toInt_lt] at q
    rw [Int32.le_iff_toInt_le] at w
    have e1 : (-180 : Int32).toInt = -180 := rfl
    have e2 : (180 : Int32).toInt = 180 := rfl
    refine h ⟨(x.toInt + 180).toNat, by omega, Int32.toInt_inj.mp ?_⟩
    have e3 : (nI (x.toInt + 180).toNat - 180).toInt = ((x.toInt + 180).toNat : Int) - 180 := nI_sub_t (y := 180) (by omega) (by decide)
    rw [e3]
    omega
theorem MeanAt.fr (h : MeanAt I D n) (f : ∀ a k, 64 ≤ a ∧ a < 67 → I' a k = I a k) : MeanAt I' D n := ⟨fun s hs => by rw [f _ _ (by omega)]; exact h.x s hs, fun s hs => by rw [f _ _ (by omega)]; exact h.y s hs, fun s hs => by rw [f _ _ (by omega)]; exact h.z s hs⟩
theorem tgO_nn {m : V3 × Int64} (h0 : 0 ≤ m.2.toInt) (h1 : m.2.toInt ≤ 2000000) : ¬ tgO m ≤ -1 := by
  have hl := lgO_b m
  have k6 : (1000000 : Int64).toInt = 1000000 := rfl
  have km : (-1 : Int32).toInt = -1 := rfl
  rw [Int32.le_iff_toInt_le, km]
  unfold tgO
  split
  · decide
  · rename_i w
    rw [Int64.le_iff_toInt_le] at w
    have e1 : (m.2 - lgO m).toInt = m.2.toInt - (lgO m).toInt := sub64 (by omega) (by omega)
    have k1 : (100 : Int64).toInt = 100 := rfl
    have e2 : (100 * m.2).toInt = 100 * m.2.toInt := by rw [mul64 (by rw [k1]; omega) (by rw [k1]; omega), k1]
    have e3 : (100 * m.2 / (m.2 - lgO m)).toInt = (100 * m.2.toInt).tdiv (m.2.toInt - (lgO m).toInt) := by rw [div64 (by rw [e1]; omega), e1, e2]
    have p0 : 0 ≤ (100 * m.2.toInt).tdiv (m.2.toInt - (lgO m).toInt) := Int.tdiv_nonneg (by omega) (by omega)
    split
    · rename_i w2
      rw [Int64.lt_iff_toInt_lt, e3, k6] at w2
      rw [Int64.toInt_toInt32, e3, Int.bmod_eq_of_le (by omega) (by omega)]
      omega
    · decide
theorem A_fold (hD : GD D) (hL : LabD D) (x y a g : Int32) : Agr (d + 40) sl p D e 161 306 [.int x, .int y, .int a, .int g] := by
  have n60 := hD.n60
  have h30 := nst_30 hD hL
  by_cases ha : ∃ t, t ≤ 359 ∧ a = nI t
  · obtain ⟨t, ht, rfl⟩ := ha
    have w1 : (if nI t < 0 then (0 : Int32) else if nI t ≤ 359 then 1 else 0) = 1 := wi_y (n := 359) ht (by decide)
    by_cases hg : ∃ k, k ≤ 360 ∧ g = nI k - 180
    · obtain ⟨k, hk, rfl⟩ := hg
      have w2 := wm_y hk
      by_cases hT : Two D x y
      · obtain ⟨s, u, hs, hu, hne, rfl, rfl⟩ := id hT
        refine ⟨.int (foO D s u t (nI k - 180)), 0, fun I J h => ?_, fun I J h => ?_⟩
        · obtain ⟨I1, a1, a2, a3⟩ := C_two (d := d + 34) (sl := sl) h hL _ _ 1 (Or.inl ⟨hT, rfl⟩)
          obtain ⟨I2, J2, b1, b2, b3, b4, b5, -⟩ := C_measureAll (d := d + 34) (sl := sl) a2
          obtain ⟨J3, c1, c2⟩ := C_tightBy (d := d + 36) (sl := sl) b2 b3.pl (s := s) (u := u) (by omega) (b4 s hs).mean (show t < 360 by omega) hk
          refine QC.mk1 (I' := I2) (J' := J3) ?_ (b2.fold c2) (a3.trans (b5.trans ⟨fun _ _ _ _ => rfl, fun a k _ _ => c2 _ _ (by omega)⟩))
          rw [E161_0, sp_within, w1, evK_s, E161_8, if_neg (by decide), sp_within, w2, evK_s, E161_22, if_neg (by decide), a1, evK_s, E161_37, if_neg (by decide), b1, evK_v, E161_53, c1, evK_s, E161_66, E163_0, evK_s, E161_69]
        · obtain ⟨I1, J1, a1, a2, a3, a4, a5⟩ := M_means (d := d + 29) (sl := sl) (p := p) (J := J) hD h
          obtain ⟨v, m, b1⟩ := M_folded (d := d + 33) (sl := sl) (p := p) (J := J1) hD hL a2 a3 a4 (u := u) hs (show t < 360 by omega) hk
          refine QM.mk1 (I' := set3v I1 v) (J' := setS J1 m) ?_ (by rw [dat_set3v]; exact a2.trans h.symm) (a5.trans ⟨fun a k _ => set3v_n (by omega), fun a k _ => setS_n (by omega)⟩)
          rw [E306_0, sp_isFrom, w1, evK_s, E306_8, if_neg (by decide), sp_isFrom, w2, evK_s, E306_22, if_neg (by decide), a1, evK_v, E306_35, M_two hD hL a3 _ _ 1 (Or.inl ⟨hT, rfl⟩), evK_s, E306_41, if_neg (by decide), b1, evK_s, E306_54, E179_0, evK_s, E306_57]
      · refine ⟨.int (-1), 2, fun I J h => ?_, fun I J h => ?_⟩
        · obtain ⟨I1, a1, a2, a3⟩ := C_two (d := d + 34) (sl := sl) h hL x y 0 (Or.inr ⟨hT, rfl⟩)
          refine QC.mk1 (I' := I1) (J' := J) ?_ a2 a3
          rw [E161_0, sp_within, w1, evK_s, E161_8, if_neg (by decide), sp_within, w2, evK_s, E161_22, if_neg (by decide), a1, evK_s, E161_37, if_pos rfl, E164_0, evK_s, E161_45]
        · obtain ⟨I1, J1, a1, a2, a3, a4, a5⟩ := M_means (d := d + 29) (sl := sl) (p := p) (J := J) hD h
          refine QM.mk1 (I' := I1) (J' := J1) ?_ (a2.trans h.symm) a5
          rw [E306_0, sp_isFrom, w1, evK_s, E306_8, if_neg (by decide), sp_isFrom, w2, evK_s, E306_22, if_neg (by decide), a1, evK_v, E306_35, M_two hD hL a3 _ _ 0 (Or.inr ⟨hT, rfl⟩), evK_s, E306_41, if_pos rfl, E178_0, evK_s, E306_65]
    · have w2 := wm_n hg
      refine ⟨.int (-1), 1, fun I J h => QC.mk1 (I' := I) (J' := J) ?_ h Fc.refl, fun I J h => QM.mk1 (I' := I) (J' := J) ?_ rfl Fm.refl⟩
      · rw [E161_0, sp_within, w1, evK_s, E161_8, if_neg (by decide), sp_within, w2, evK_s, E161_22, if_pos rfl, E161_25, E164_0, evK_s, E161_30]
      · rw [E306_0, sp_isFrom, w1, evK_s, E306_8, if_neg (by decide), sp_isFrom, w2, evK_s, E306_22, if_pos rfl, E306_25, E178_0, evK_s, E306_30]
  · have w1 : (if a < 0 then (0 : Int32) else if a ≤ 359 then 1 else 0) = 0 := wi_n (n := 359) (by decide) ha
    refine ⟨.int (-1), 1, fun I J h => QC.mk1 (I' := I) (J' := J) ?_ h Fc.refl, fun I J h => QM.mk1 (I' := I) (J' := J) ?_ rfl Fm.refl⟩
    · rw [E161_0, sp_within, w1, evK_s, E161_8, if_pos rfl, E161_25, E164_0, evK_s, E161_30]
    · rw [E306_0, sp_isFrom, w1, evK_s, E306_8, if_pos rfl, E306_25, E178_0, evK_s, E306_30]
/-- how much two limbs are turned back, and how tight they get -/
noncomputable def unf (D : Nat → Nat → Int32) (s u t : Nat) : Nat → Int32 × Int32
  | 0 => (0, foO D s u t (nI 0))
  | n + 1 => if foO D s u t (nI (n + 1)) ≤ (unf D s u t n).2 then unf D s u t n else (nI (n + 1), foO D s u t (nI (n + 1)))
theorem unf_s {s u t n : Nat} : unf D s u t (n + 1) = if foO D s u t (nI (n + 1)) ≤ (unf D s u t n).2 then unf D s u t n else (nI (n + 1), foO D s u t (nI (n + 1))) := rfl
theorem A_unfold (hD : GD D) (hL : LabD D) (x y a w : Int32) : Agr (d + 40) sl p D e 162 307 [.int x, .int y, .int a, .int w] := by
  have n60 := hD.n60
  have h30 := nst_30 hD hL
  by_cases ha : ∃ t, t ≤ 359 ∧ a = nI t
  · obtain ⟨t, ht, rfl⟩ := ha
    have w1 : (if nI t < 0 then (0 : Int32) else if nI t ≤ 359 then 1 else 0) = 1 := wi_y (n := 359) ht (by decide)
    by_cases hg : ∃ k, k ≤ 1 ∧ w = nI k
    · obtain ⟨k, hk, rfl⟩ := hg
      have w2 : (if nI k < 0 then (0 : Int32) else if nI k ≤ 1 then 1 else 0) = 1 := wi_y (n := 1) hk (by decide)
      by_cases hT : Two D x y
      · obtain ⟨s, u, hs, hu, hne, rfl, rfl⟩ := id hT
        refine ⟨.int (if nI k = 0 then (unf D s u t 90).1 else (unf D s u t 90).2), 0, fun I J h => ?_, fun I J h => ?_⟩
        · obtain ⟨I1, a1, a2, a3⟩ := C_two (d := d + 34) (sl := sl) h hL _ _ 1 (Or.inl ⟨hT, rfl⟩)
          obtain ⟨I2, J2, b1, b2, b3, b4, b5, -⟩ := C_measureAll (d := d + 34) (sl := sl) a2
          have go : ∀ i x, i ≤ 90 → (∀ a k, ¬ (39 ≤ a ∧ a < 45) → x a k = J2 a k) → ∀ y z, ∃ x', ev (d + 40) 162 58 [.ref 1, .int (nI s), .int (nI u), .int (nI t), .int (nI k), .int y, .int z, .int (nI i), .retAddr 0] [] (S sl p I2 x) = ev (d + 40) 162 58 [.ref 1, .int (nI s), .int (nI u), .int (nI t), .int (nI k), .int (if foO D s u t (nI i) ≤ z then y else nI i), .int (if foO D s u t (nI i) ≤ z then z else foO D s u t (nI i)), .int (nI (i + 1)), .retAddr 0] [] (S sl p I2 x') ∧ ∀ a k, ¬ (39 ≤ a ∧ a < 45) → x' a k = J2 a k := by
            intro i x hi hx y z
            have k2 := b2.fold hx
            have hm : vec x (800 + s) = meO D s := by
              rw [← (b4 s hs).mean]
              unfold vec
              rw [hx _ _ (by omega), hx _ _ (by omega), hx _ _ (by omega)]
            obtain ⟨x', c1, c2⟩ := C_tightBy (d := d + 36) (sl := sl) k2 b3.pl (s := s) (u := u) (by omega) hm (show t < 360 by omega) (k := i + 180) (by omega)
            rw [← sub180] at c1
            refine ⟨x', ?_, fun a k w => (c2 a k w).trans (hx a k w)⟩
            rw [E162_58, if_pos (show nI i ≤ 90 from (nI_le_iff (b := 90) (by omega) (by omega)).mpr hi), c1, evK_s, E162_77, nI_1]
            by_cases q : foO D s u t (nI i) ≤ z
            · rw [if_pos q, if_pos q, if_pos q]
            · rw [if_neg q, if_neg q, if_neg q]
          obtain ⟨x0, f1, f2⟩ := go 0 J2 (by omega) (fun _ _ _ => rfl) 0 (-1)
          have hneg : ¬ foO D s u t (nI 0) ≤ -1 := by
            have fb := fol_f hD (s := s) (u := u) (show t < 360 by omega) (k := 180) (by omega) (nc D) (Nat.le_refl _)
            obtain ⟨-, o2, o3⟩ := fB_ok n60 fb
            exact tgO_nn o2 o3
          rw [if_neg hneg, if_neg hneg] at f1
          obtain ⟨N, hN⟩ : ∃ N, N = 90 := ⟨_, rfl⟩
          obtain ⟨⟨y, z, x⟩, e1, g1, g2⟩ := for_exk (M := Int32 × Int32 × (Nat → Nat → Int64)) (fun j m => ev (d + 40) 162 58 [.ref 1, .int (nI s), .int (nI u), .int (nI t), .int (nI k), .int m.1, .int m.2.1, .int j, .retAddr 0] [] (S sl p I2 m.2.2)) 1 N (fun j m => (m.1, m.2.1) = unf D s u t j ∧ ∀ a k, ¬ (39 ≤ a ∧ a < 45) → m.2.2 a k = J2 a k)
            (by
              rintro i ⟨y, z, x⟩ hi ⟨g1, g2⟩
              simp only at g1 g2
              simp only
              obtain ⟨x', c1, c2⟩ := go (1 + i) x (by omega) g2 y z
              refine ⟨(if foO D s u t (nI (1 + i)) ≤ z then y else nI (1 + i), if foO D s u t (nI (1 + i)) ≤ z then z else foO D s u t (nI (1 + i)), x'), c1, ?_, c2⟩
              simp only
              rw [unf_s, ← g1, show 1 + i = i + 1 by omega]
              simp only
              by_cases q : foO D s u t (nI (i + 1)) ≤ z
              · rw [if_pos q, if_pos q, if_pos q]
              · rw [if_neg q, if_neg q, if_neg q])
            (nI 0, foO D s u t (nI 0), x0) ⟨rfl, f2⟩
          simp only at e1 g1 g2
          subst hN
          have hy : y = (unf D s u t 90).1 := congrArg (fun q : Int32 × Int32 => q.1) g1
          have hz : z = (unf D s u t 90).2 := congrArg (fun q : Int32 × Int32 => q.2) g1
          refine QC.mk1 (I' := I2) (J' := x) ?_ (b2.fold g2) (a3.trans (b5.trans ⟨fun _ _ _ _ => rfl, fun a k _ _ => g2 _ _ (by omega)⟩))
          rw [E162_0, sp_within, w1, evK_s, E162_8, if_neg (by decide), sp_within, w2, evK_s, E162_18, if_neg (by decide), a1, evK_s, E162_33, if_neg (by decide), b1, evK_v, E162_49]
          refine f1.trans (e1.trans ?_)
          rw [E162_58, if_neg (by decide), ← hy, ← hz]
          by_cases q : nI k = 0
          · rw [if_pos q, if_pos q, E162_113, E163_0, evK_s, E162_116]
          · rw [if_neg q, if_neg q, E162_113, E163_0, evK_s, E162_116]
        · obtain ⟨I1, J1, a1, a2, a3, a4, a5⟩ := M_means (d := d + 29) (sl := sl) (p := p) (J := J) hD h
          obtain ⟨v0, m0, c0⟩ := M_folded (d := d + 33) (sl := sl) (p := p) (J := J1) hD hL a2 a3 a4 (u := u) hs (show t < 360 by omega) (k := 180) (by omega)
          rw [show nI 180 - 180 = nI 0 from rfl] at c0
          obtain ⟨N, hN⟩ : ∃ N, N = 90 := ⟨_, rfl⟩
          obtain ⟨⟨y, z, v, m⟩, e1, g1⟩ := for_exk (M := Int32 × Int32 × V3 × (V3 × Int64)) (fun j m => ev (d + 40) 307 62 [.ref 46, .int (nI s), .int (nI u), .int (nI t), .int (nI k), .int m.1, .int m.2.1, .int j, .retAddr 0] [] (S sl p (set3v I1 m.2.2.1) (setS J1 m.2.2.2))) 1 N (fun j m => (m.1, m.2.1) = unf D s u t j)
            (by
              rintro i ⟨y, z, v, m⟩ hi g1
              simp only at g1
              simp only
              obtain ⟨v', m', c1⟩ := M_folded (d := d + 33) (sl := sl) (p := p) (I := set3v I1 v) (J := setS J1 m) hD hL (by rw [dat_set3v]; exact a2) (a3.fr (set3v_n (by omega)) (fun k => set3v_n (by omega))) (MeanAt.fr a4 (fun a k w => set3v_n (by omega))) (u := u) hs (show t < 360 by omega) (k := i + 1 + 180) (by omega)
              rw [← sub180, set3v_2, setS_2] at c1
              refine ⟨(if foO D s u t (nI (i + 1)) ≤ z then y else nI (i + 1), if foO D s u t (nI (i + 1)) ≤ z then z else foO D s u t (nI (i + 1)), v', m'), ?_, ?_⟩
              · simp only
                rw [show 1 + i = i + 1 by omega, E307_62, if_pos (show nI (i + 1) ≤ 90 from (nI_le_iff (b := 90) (by omega) (by omega)).mpr (by omega)), c1, evK_s, E307_78, nI_1]
                by_cases q : foO D s u t (nI (i + 1)) ≤ z
                · rw [if_pos q, if_pos q, if_pos q, if_neg (Int32.not_lt.mpr q)]
                · rw [if_neg q, if_neg q, if_neg q, if_pos (Int32.not_le.mp q)]
              · simp only
                rw [unf_s, ← g1]
                simp only
                by_cases q : foO D s u t (nI (i + 1)) ≤ z
                · rw [if_pos q, if_pos q, if_pos q]
                · rw [if_neg q, if_neg q, if_neg q])
            (0, foO D s u t (nI 0), v0, m0) rfl
          simp only at e1 g1
          subst hN
          have hy : y = (unf D s u t 90).1 := congrArg (fun q : Int32 × Int32 => q.1) g1
          have hz : z = (unf D s u t 90).2 := congrArg (fun q : Int32 × Int32 => q.2) g1
          refine QM.mk1 (I' := set3v I1 v) (J' := setS J1 m) ?_ (by rw [dat_set3v]; exact a2.trans h.symm) (a5.trans ⟨fun a k _ => set3v_n (by omega), fun a k _ => setS_n (by omega)⟩)
          rw [E307_0, sp_isFrom, w1, evK_s, E307_8, if_neg (by decide), sp_isFrom, w2, evK_s, E307_18, if_neg (by decide), a1, evK_v, E307_31, M_two hD hL a3 _ _ 1 (Or.inl ⟨hT, rfl⟩), evK_s, E307_37, if_neg (by decide), show den (d + 39) 305 [.ref 46, .int (nI s), .int (nI u), .int (nI t), .int 0] (S sl p I1 J1) = _ from c0, evK_s, E307_57]
          refine e1.trans ?_
          rw [E307_62, if_neg (by decide), ← hy, ← hz]
          by_cases q : nI k = 0
          · rw [if_pos q, if_pos q, E307_124, E179_0, evK_s, E307_127]
          · rw [if_neg q, if_neg q, E307_124, E179_0, evK_s, E307_127]
      · refine ⟨.int (-1), 2, fun I J h => ?_, fun I J h => ?_⟩
        · obtain ⟨I1, a1, a2, a3⟩ := C_two (d := d + 34) (sl := sl) h hL x y 0 (Or.inr ⟨hT, rfl⟩)
          refine QC.mk1 (I' := I1) (J' := J) ?_ a2 a3
          rw [E162_0, sp_within, w1, evK_s, E162_8, if_neg (by decide), sp_within, w2, evK_s, E162_18, if_neg (by decide), a1, evK_s, E162_33, if_pos rfl, E164_0, evK_s, E162_41]
        · obtain ⟨I1, J1, a1, a2, a3, a4, a5⟩ := M_means (d := d + 29) (sl := sl) (p := p) (J := J) hD h
          refine QM.mk1 (I' := I1) (J' := J1) ?_ (a2.trans h.symm) a5
          rw [E307_0, sp_isFrom, w1, evK_s, E307_8, if_neg (by decide), sp_isFrom, w2, evK_s, E307_18, if_neg (by decide), a1, evK_v, E307_31, M_two hD hL a3 _ _ 0 (Or.inr ⟨hT, rfl⟩), evK_s, E307_37, if_pos rfl, E178_0, evK_s, E307_45]
    · have w2 : (if w < 0 then (0 : Int32) else if w ≤ 1 then 1 else 0) = 0 := wi_n (n := 1) (by decide) hg
      refine ⟨.int (-1), 1, fun I J h => QC.mk1 (I' := I) (J' := J) ?_ h Fc.refl, fun I J h => QM.mk1 (I' := I) (J' := J) ?_ rfl Fm.refl⟩
      · rw [E162_0, sp_within, w1, evK_s, E162_8, if_neg (by decide), sp_within, w2, evK_s, E162_18, if_pos rfl, E162_21, E164_0, evK_s, E162_26]
      · rw [E307_0, sp_isFrom, w1, evK_s, E307_8, if_neg (by decide), sp_isFrom, w2, evK_s, E307_18, if_pos rfl, E307_21, E178_0, evK_s, E307_26]
  · have w1 : (if a < 0 then (0 : Int32) else if a ≤ 359 then 1 else 0) = 0 := wi_n (n := 359) (by decide) ha
    refine ⟨.int (-1), 1, fun I J h => QC.mk1 (I' := I) (J' := J) ?_ h Fc.refl, fun I J h => QM.mk1 (I' := I) (J' := J) ?_ rfl Fm.refl⟩
    · rw [E162_0, sp_within, w1, evK_s, E162_8, if_pos rfl, E162_21, E164_0, evK_s, E162_26]
    · rw [E307_0, sp_isFrom, w1, evK_s, E307_8, if_pos rfl, E307_21, E178_0, evK_s, E307_26]
end FLG
