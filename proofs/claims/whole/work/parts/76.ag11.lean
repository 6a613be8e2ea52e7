section AG11
variable {d sl : Nat} {p : Nat → Nat} {I I' : Nat → Nat → Int32} {J J' : Nat → Nat → Int64} {D : Nat → Nat → Int32} {e : Nat}
theorem M_has (hf : ∀ k, k < 6 → J 68 k = fab D k) (r q : Int32) : den d 274 [.ref 46] (S sl p (set3 I (poX r q) (poY r q) (poZ q)) J) = some (some (.long (shO D (poV r q))), S sl p (set3 I (poX r q) (poY r q) (poZ q)) J) := by
  rw [E274_0, hf 0 (by omega), hf 1 (by omega), hf 2 (by omega), hf 3 (by omega), hf 4 (by omega), hf 5 (by omega), set3_r.1, set3_r.2.1, set3_r.2.2]
  rfl
theorem M_axRow (hf : ∀ k, k < 6 → J 68 k = fab D k) {q n : Nat} (hq : q ≤ 90) (most w x y z : Int32) (b : Bool) (hb : (b = true ∧ ¬ most = 0) ∨ (b = false ∧ most = 0)) (X0 : Int64 × Int64 × Nat × Nat) (hn : n ≤ 360) : ∃ x' y' z', ev (d + 5) 275 82 [.ref 46, .int most, .int w, .long X0.1, .retAddr 0, .long X0.2.1, .retAddr 0, .int (nI X0.2.2.2), .int (nI X0.2.2.1), .int (nI q), .int 0, .retAddr 0, .retAddr 0, .retAddr 0, .retAddr 0] [] (S sl p (set3 I x y z) J) = ev (d + 5) 275 82 [.ref 46, .int most, .int w, .long (axR D b q X0 n).1, .retAddr 0, .long (axR D b q X0 n).2.1, .retAddr 0, .int (nI (axR D b q X0 n).2.2.2), .int (nI (axR D b q X0 n).2.2.1), .int (nI q), .int (nI n), .retAddr 0, .retAddr 0, .retAddr 0, .retAddr 0] [] (S sl p (set3 I x' y' z') J) := by
  obtain ⟨⟨X, x', y', z'⟩, e1, h1⟩ := for_ex (M := (Int64 × Int64 × Nat × Nat) × Int32 × Int32 × Int32) (fun k m => ev (d + 5) 275 82 [.ref 46, .int most, .int w, .long m.1.1, .retAddr 0, .long m.1.2.1, .retAddr 0, .int (nI m.1.2.2.2), .int (nI m.1.2.2.1), .int (nI q), .int k, .retAddr 0, .retAddr 0, .retAddr 0, .retAddr 0] [] (S sl p (set3 I m.2.1 m.2.2.1 m.2.2.2) J)) n (fun k m => m.1 = axR D b q X0 k)
    (by
      rintro k ⟨X, x, y, z⟩ hk g1
      simp only at g1
      simp only
      rw [E275_82, if_pos (show nI k < 360 from lt_n (n := 360) (by omega) (by decide)), sp_laysPole, evK_v, set3_2, E275_98, M_has hf, evK_s, E275_102, sp_square, evK_s, E275_122, set3_r.1, set3_r.2.1, set3_r.2.2, nI_1, show vq ((poX (nI k) (nI q)).toInt64, (poY (nI k) (nI q)).toInt64, (poZ (nI q)).toInt64) = vq (poV (nI k) (nI q)) from rfl]
      refine ⟨(axS D b q X k, poX (nI k) (nI q), poY (nI k) (nI q), poZ (nI q)), ?_, by rw [axR_s, ← g1]⟩
      show _ = ev (d + 5) 275 82 [.ref 46, .int most, .int w, .long (axS D b q X k).1, .retAddr 0, .long (axS D b q X k).2.1, .retAddr 0, .int (nI (axS D b q X k).2.2.2), .int (nI (axS D b q X k).2.2.1), .int (nI q), .int (nI (k + 1)), .retAddr 0, .retAddr 0, .retAddr 0, .retAddr 0] [] (S sl p (set3 I (poX (nI k) (nI q)) (poY (nI k) (nI q)) (poZ (nI q))) J)
      rcases hb with ⟨rfl, hm⟩ | ⟨rfl, hm⟩
      · rw [if_neg hm]
        by_cases c : shO D (poV (nI k) (nI q)) * X.2.1 ≤ X.1 * vq (poV (nI k) (nI q))
        · have eS : axS D true q X k = X := by
            unfold axS axB
            rw [if_pos rfl, if_neg (by simpa [Int64.not_lt] using c)]
          rw [if_pos c, eS]
        · have eS : axS D true q X k = (shO D (poV (nI k) (nI q)), vq (poV (nI k) (nI q)), k, q) := by
            unfold axS axB
            rw [if_pos rfl, if_pos (by simpa [Int64.not_le] using c)]
          rw [if_neg c, eS]
      · rw [if_pos hm]
        by_cases c : shO D (poV (nI k) (nI q)) * X.2.1 < X.1 * vq (poV (nI k) (nI q))
        · have eS : axS D false q X k = (shO D (poV (nI k) (nI q)), vq (poV (nI k) (nI q)), k, q) := by
            unfold axS axB
            rw [if_neg (show ¬ (false = true) by decide), if_pos (decide_eq_true c)]
          rw [if_pos c, eS]
        · have eS : axS D false q X k = X := by
            unfold axS axB
            rw [if_neg (show ¬ (false = true) by decide), if_neg (by simpa using c)]
          rw [if_neg c, eS])
    (X0, x, y, z) rfl
  simp only at e1 h1
  subst h1
  exact ⟨x', y', z', e1⟩
theorem M_axes (hD : GD D) (h0 : 0 < nc D) (hf : ∀ k, k < 6 → J 68 k = fab D k) (most w : Int32) (b : Bool) (hb : (b = true ∧ ¬ most = 0) ∨ (b = false ∧ most = 0)) {N : Nat} (hN : N ≤ 90) (x y z : Int32) : ∃ x' y' z', ev (d + 5) 275 72 [.ref 46, .int most, .int w, .long (shO D (poV 0 0)), .retAddr 0, .long (vq (poV 0 0)), .retAddr 0, .int 0, .int 0, .int 1, .retAddr 0, .retAddr 0, .retAddr 0, .retAddr 0, .retAddr 0] [] (S sl p (set3 I x y z) J) = ev (d + 5) 275 72 [.ref 46, .int most, .int w, .long (axQ D b N).1, .retAddr 0, .long (axQ D b N).2.1, .retAddr 0, .int (nI (axQ D b N).2.2.2), .int (nI (axQ D b N).2.2.1), .int (nI (1 + N)), .retAddr 0, .retAddr 0, .retAddr 0, .retAddr 0, .retAddr 0] [] (S sl p (set3 I x' y' z') J) := by
  obtain ⟨⟨X, x', y', z'⟩, e1, h1⟩ := for_exk (M := (Int64 × Int64 × Nat × Nat) × Int32 × Int32 × Int32) (fun k m => ev (d + 5) 275 72 [.ref 46, .int most, .int w, .long m.1.1, .retAddr 0, .long m.1.2.1, .retAddr 0, .int (nI m.1.2.2.2), .int (nI m.1.2.2.1), .int k, .retAddr 0, .retAddr 0, .retAddr 0, .retAddr 0, .retAddr 0] [] (S sl p (set3 I m.2.1 m.2.2.1 m.2.2.2) J)) 1 N (fun k m => m.1 = axQ D b k)
    (by
      rintro k ⟨X, x, y, z⟩ hk g1
      simp only at g1
      simp only
      obtain ⟨x', y', z', b1⟩ := M_axRow (d := d) (sl := sl) (p := p) (I := I) (D := D) hf (q := 1 + k) (n := 360) (by omega) most w x y z b hb X (Nat.le_refl _)
      rw [E275_72, if_pos (show nI (1 + k) ≤ 90 from (nI_le_iff (b := 90) (by omega) (by omega)).mpr (by omega)), b1, E275_82, if_neg (by decide), nI_1]
      have ex : axR D b (1 + k) X 360 = axQ D b (k + 1) := by
        rw [g1, Nat.add_comm 1 k, axQ_s]
        by_cases z : k + 1 = 90
        · rw [if_pos z, z]
          exact axR_180 hD h0 (axQ_ok hD h0 k (by omega)) 180 (Nat.le_refl _)
        · rw [if_neg z]
      rw [ex]
      exact ⟨(axQ D b (k + 1), x', y', z'), rfl, rfl⟩)
    ((shO D (poV 0 0), vq (poV 0 0), 0, 0), x, y, z) axQ_0.symm
  simp only at e1 h1
  subst h1
  exact ⟨x', y', z', e1⟩
theorem A_axis (hD : GD D) (m w : Int32) : Agr (d + 40) sl p D e 149 275 [.int m, .int w] := by
  have n60 := hD.n60
  by_cases ha : ∃ s, s ≤ 1 ∧ w = nI s
  · obtain ⟨k, hk, rfl⟩ := ha
    have w : (if nI k < 0 then (0 : Int32) else if nI k ≤ 1 then 1 else 0) = 1 := wi_y (n := 1) hk (by decide)
    by_cases q : nc D = 0
    · have q' : nI (nc D) = 0 := by rw [q]; rfl
      refine ⟨.int (-1), 5, fun I J h => QC.mk1 (I' := I) (J' := J) ?_ h Fc.refl, fun I J h => QM.mk1 (I' := I) (J' := J) ?_ rfl Fm.refl⟩
      · rw [E149_0, sp_within, w, evK_s, E149_6, if_neg (by decide), h.sv.count, if_pos q', E164_0, evK_s, E149_30]
      · rw [E275_0, sp_isFrom, w, evK_s, E275_6, if_neg (by decide), d2 hD h, if_pos q', E178_0, evK_s, E275_27]
    · have q' : ¬ nI (nc D) = 0 := fun w => q (nI_ij (b := 0) (by omega) (by omega) w)
      have h0 : 0 < nc D := by omega
      obtain ⟨b, hb⟩ : ∃ b : Bool, (b = true ∧ ¬ m = 0) ∨ (b = false ∧ m = 0) := by
        by_cases z : m = 0
        · exact ⟨false, Or.inr ⟨rfl, z⟩⟩
        · exact ⟨true, Or.inl ⟨rfl, z⟩⟩
      obtain ⟨N, hN⟩ : ∃ N, N = 90 := ⟨90, rfl⟩
      have hpl : plA (axQ D b N) N := axQ_pl N
      have hO : axO D b = (axQ D b N).2.2 := axO_e hN
      obtain ⟨p1, p2, p3, p4⟩ := hpl
      rw [← hO] at p1 p2 p3 p4
      have epl : plD (nI (axO D b).1) (nI (axO D b).2) = nI (axO D b).1 := by
        rw [plD_n p1 (by omega)]
        unfold plN
        split
        · rename_i z; rw [p3 z]
        · split
          · rename_i z; rw [Nat.mod_eq_of_lt (p4 z)]
          · rfl
      refine ⟨.int (if k = 0 then nI (axO D b).1 else nI (axO D b).2), 0, fun I J h => ?_, fun I J h => ?_⟩
      · obtain ⟨I1, J1, a1, a2, a3, a4⟩ := C_findAxes (d := d + 36) (sl := sl) h h0
        refine QC.mk1 (I' := I1) (J' := J1) ?_ a2 a4
        rw [E149_0, sp_within, w, evK_s, E149_6, if_neg (by decide), h.sv.count, if_neg q', a1, evK_v, E149_38, ck_if (ixb_n (by omega) (by decide)), ck_if (ixb_n (by omega) (by decide)), cl_n (by omega)]
        have hk2 : k = 0 ∨ k = 1 := by omega
        rcases hb with ⟨rfl, hm⟩ | ⟨rfl, hm⟩
        · rw [if_neg hm]
          rcases hk2 with rfl | rfl
          · rw [a3.2.2.1, E149_64, E163_0, evK_s, E149_67, if_pos rfl]
          · rw [a3.2.2.2, E149_64, E163_0, evK_s, E149_67, if_neg (by decide)]
        · rw [if_pos hm]
          rcases hk2 with rfl | rfl
          · rw [a3.1, E149_64, E163_0, evK_s, E149_67, if_pos rfl]
          · rw [a3.2.1, E149_64, E163_0, evK_s, E149_67, if_neg (by decide)]
      · obtain ⟨J1, a1, a2, a3⟩ := M_fabric (d := d + 33) (sl := sl) (p := p) (J := J) hD h h0
        obtain ⟨x', y', z', b1⟩ := M_axes (d := d + 35) (sl := sl) (p := p) (I := I) hD h0 a2 m (nI k) b hb (N := N) (by omega) (poX 0 0) (poY 0 0) (poZ 0)
        rw [← hO] at b1
        refine QM.mk1 (I' := set3 I x' y' z') (J' := J1) ?_ dat_set3 (Fm.trans (I' := I) (J' := J1) ⟨fun _ _ _ => rfl, fun a k _ => a3 _ _ (by omega)⟩ Fm.set3)
        rw [E275_0, sp_isFrom, w, evK_s, E275_6, if_neg (by decide), d2 hD h, if_neg q', a1, evK_v, E275_32, sp_laysPole, evK_v, E275_38, M_has a2, evK_s, E275_42, sp_square, evK_s, E275_61, set3_r.1, set3_r.2.1, set3_r.2.2, show vq ((poX 0 0).toInt64, (poY 0 0).toInt64, (poZ 0).toInt64) = vq (poV 0 0) from rfl, b1, E275_72, if_neg (by rw [hN]; decide)]
        have hk2 : k = 0 ∨ k = 1 := by omega
        rcases hk2 with rfl | rfl
        · rw [if_pos (by decide), sp_plainDirection, evK_s, E275_199, E275_204, E179_0, evK_s, E275_207, epl, if_pos rfl]
        · rw [if_neg (by decide), E275_204, E179_0, evK_s, E275_207, if_neg (by decide)]
  · have w : (if w < 0 then (0 : Int32) else if w ≤ 1 then 1 else 0) = 0 := wi_n (n := 1) (by decide) ha
    refine ⟨.int (-1), 1, fun I J h => QC.mk1 (I' := I) (J' := J) ?_ h Fc.refl, fun I J h => QM.mk1 (I' := I) (J' := J) ?_ rfl Fm.refl⟩
    · simp only [E149_0, E149_6, E149_14, E149_30, E149_38, E149_64, E149_67, w, evK_s, evK_v, E163_0, E164_0, E178_0, E179_0, E180_0, sp_within, sp_isFrom, n10, eq_self, if_true, if_false]
    · simp only [E275_0, E275_6, E275_14, E275_27, E275_32, E275_38, E275_42, E275_61, E275_98, E275_102, E275_122, E275_199, E275_204, E275_207, w, evK_s, evK_v, E163_0, E164_0, E178_0, E179_0, E180_0, sp_within, sp_isFrom, n10, eq_self, if_true, if_false]
end AG11
