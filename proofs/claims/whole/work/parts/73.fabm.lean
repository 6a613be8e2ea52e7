section FABM
variable {d sl : Nat} {p : Nat → Nat} {I I' : Nat → Nat → Int32} {J J' : Nat → Nat → Int64} {D : Nat → Nat → Int32} {e : Nat}
def fcm (w : Int64) (v : V3) (k : Nat) : Int64 := if k = 0 then w * v.1 * v.1 else if k = 1 then w * v.2.1 * v.2.1 else if k = 2 then w * v.2.2 * v.2.2 else if k = 3 then w * v.1 * v.2.1 else if k = 4 then w * v.1 * v.2.2 else w * v.2.1 * v.2.2
theorem fcm_p (w : Int64) (v : V3) (k : Nat) : fcm w v k = fcp v k * w := by
  have h : ∀ x y : Int64, w * x * y = x * y * w := fun x y => by rw [Int64.mul_assoc, Int64.mul_comm]
  unfold fcm fcp
  rw [h, h, h, h, h, h]
  repeat' split
  all_goals rfl
theorem M_fabric (hD : GD D) (h : dat I = D) (h0 : 0 < nc D) : ∃ J', den (d + 6) 272 [.ref 46] (S sl p I J) = some (none, S sl p I J') ∧ (∀ k, k < 6 → J' 68 k = fab D k) ∧ ∀ a k, a ≠ 68 → J' a k = J a k := by
  have n60 := hD.n60
  obtain ⟨J1, a1, a2, a3⟩ := row0 (J := J) (b := 68) (fun k y => ev (d + 6) 272 2 [.ref 46, .int k, .retAddr 0, .retAddr 0] [] (S sl p I y)) (fun k y hk => by rw [E272_2, if_pos (show nI k < 6 from lt_n (n := 6) hk (by decide)), ck_if (ixb_n hk (by decide)), cl_n (by omega), nI_1])
  obtain ⟨J2, b1, b2, b3⟩ := for_ex (M := Nat → Nat → Int64) (fun k y => ev (d + 6) 272 23 [.ref 46, .int k, .retAddr 0, .retAddr 0] [] (S sl p I y)) (nc D) (fun n y => (∀ k, k < 6 → y 68 k = faS D k n) ∧ ∀ a k, a ≠ 68 → y a k = J a k)
    (by
      rintro n y hn ⟨g1, g2⟩
      have ep : ((I 54 n).toInt64, (I 55 n).toInt64, (I 56 n).toInt64) = pv D n := by
        unfold pv
        rw [dr h (by omega), dr h (by omega), dr h (by omega)]
      have e36 : ev (d + 6) 272 36 [.ref 46, .int (nI n), .retAddr 0, .retAddr 0] [.int (wt D n)] (S sl p I y) = ev (d + 6) 272 23 [.ref 46, .int (nI (n + 1)), .retAddr 0, .retAddr 0] [] (S sl p I (six y 68 (fcm (wt D n).toInt64 ((I 54 n).toInt64, (I 55 n).toInt64, (I 56 n).toInt64)))) := by
        rw [E272_36]
        simp only [ixb_n (show n < 60 by omega) (by decide), ck_t, cl_n (show n < 2 ^ 31 by omega), nI_1]
        rfl
      rw [E272_23, d2 hD h, if_pos (lt_n hn (by omega)), M_wt hD h hn, evK_s, e36, ep]
      exact ⟨_, rfl, fun k hk => by rw [six_r hk, g1 k hk, fcm_p]; rfl, fun a k w => by rw [six_n w]; exact g2 a k w⟩)
    J1 ⟨fun k hk => a2 k hk, a3⟩
  have hm := maA_pos hD h0
  have hb := maA_b hD
  have hm0 : ¬ lN (maA D) = 0 := fun w => by
    have := congrArg Int64.toInt w
    rw [lN_tI (by omega)] at this
    have e0 : (0 : Int64).toInt = 0 := rfl
    omega
  obtain ⟨J3, c1, c2, c3⟩ := rowD (J := J2) (b := 68) (fun k y => ev (d + 6) 272 207 [.ref 46, .long (lN (maA D)), .retAddr 0, .int k] [] (S sl p I y)) (lN (maA D)) (fun k y hk => by
    rw [E272_207, if_pos (show nI k < 6 from lt_n (n := 6) hk (by decide)), ck_if (ixb_n hk (by decide)), ck_if (by simpa using hm0), ck_if (ixb_n hk (by decide)), cl_n (by omega), nI_1])
  refine ⟨J3, ?_, fun k hk => by rw [c2 k hk, b2 k hk]; rfl, fun a k w => (c3 a k w).trans (b3 a k w)⟩
  rw [E272_0, a1, E272_2, if_neg (by decide), b1, E272_23, d2 hD h, if_neg (nlt_n (by omega)), M_weights hD h, evK_s, E272_204, c1, E272_207, if_neg (by decide)]
theorem A_fabric (hD : GD D) (w : Int32) : Agr (d + 40) sl p D e 148 273 [.int w] := by
  have n60 := hD.n60
  by_cases ha : ∃ s, s ≤ 5 ∧ w = nI s
  · obtain ⟨k, hk, rfl⟩ := ha
    have w : (if nI k < 0 then (0 : Int32) else if nI k ≤ 5 then 1 else 0) = 1 := wi_y (n := 5) hk (by decide)
    by_cases q : nc D = 0
    · have q' : nI (nc D) = 0 := by rw [q]; rfl
      refine ⟨.int (-1), 5, fun I J h => QC.mk1 (I' := I) (J' := J) ?_ h Fc.refl, fun I J h => QM.mk1 (I' := I) (J' := J) ?_ rfl Fm.refl⟩
      · rw [E148_0, sp_within, w, evK_s, E148_6, if_neg (by decide), h.sv.count, if_pos q', E164_0, evK_s, E148_30]
      · rw [E273_0, sp_isFrom, w, evK_s, E273_6, if_neg (by decide), d2 hD h, if_pos q', E178_0, evK_s, E273_27]
    · have q' : ¬ nI (nc D) = 0 := fun w => q (nI_ij (b := 0) (by omega) (by omega) w)
      refine ⟨.int (fab D k).toInt32, 0, fun I J h => ?_, fun I J h => ?_⟩
      · obtain ⟨I1, J1, a1, a2, a3, a4, a5⟩ := C_weave (d := d + 38) (sl := sl) h (by omega)
        refine QC.mk1 (I' := I1) (J' := J1) ?_ a2 ⟨fun a k _ _ => a4 _ _ (by omega), fun a k _ _ => a5 _ _ (by omega)⟩
        rw [E148_0, sp_within, w, evK_s, E148_6, if_neg (by decide), h.sv.count, if_neg q', a1, evK_v, E148_38, ck_if (ixb_n (by omega) (by decide)), cl_n (by omega), a3 k (by omega), E163_0, evK_s, E148_52]
      · obtain ⟨J1, a1, a2, a3⟩ := M_fabric (d := d + 33) (sl := sl) (p := p) (J := J) hD h (by omega)
        refine QM.mk1 (I' := I) (J' := J1) ?_ rfl ⟨fun _ _ _ => rfl, fun a k _ => a3 _ _ (by omega)⟩
        rw [E273_0, sp_isFrom, w, evK_s, E273_6, if_neg (by decide), d2 hD h, if_neg q', a1, evK_v, E273_32, ck_if (ixb_n (by omega) (by decide)), cl_n (by omega), a2 k (by omega), E179_0, evK_s, E273_43]
  · have w : (if w < 0 then (0 : Int32) else if w ≤ 5 then 1 else 0) = 0 := wi_n (n := 5) (by decide) ha
    refine ⟨.int (-1), 1, fun I J h => QC.mk1 (I' := I) (J' := J) ?_ h Fc.refl, fun I J h => QM.mk1 (I' := I) (J' := J) ?_ rfl Fm.refl⟩
    · simp only [E148_0, E148_6, E148_14, E148_30, E148_38, E148_52, w, evK_s, evK_v, E163_0, E164_0, E178_0, E179_0, E180_0, sp_within, sp_isFrom, n10, eq_self, if_true, if_false]
    · simp only [E273_0, E273_6, E273_14, E273_27, E273_32, E273_43, w, evK_s, evK_v, E163_0, E164_0, E178_0, E179_0, E180_0, sp_within, sp_isFrom, n10, eq_self, if_true, if_false]
end FABM
