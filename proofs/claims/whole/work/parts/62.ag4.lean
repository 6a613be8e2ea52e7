section AG4
variable {d sl : Nat} {p : Nat → Nat} {I I' : Nat → Nat → Int32} {J J' : Nat → Nat → Int64} {D : Nat → Nat → Int32} {e : Nat}
/-- the k-th of a set -/
noncomputable def ntB (D : Nat → Nat → Int32) (s : Int32) (k i : Nat) : Bool := decide (stn D i = s) && decide (cnt (fun j => decide (stn D j = s)) i = k)
noncomputable def ntN (D : Nat → Nat → Int32) (s : Int32) (k : Nat) : Nat := fsq (ntB D s k) (nc D)
noncomputable def ntO (D : Nat → Nat → Int32) (s : Int32) (k : Nat) : Int32 := if ntN D s k = nc D then -1 else nI (ntN D s k)
theorem cnt_s {P : Nat → Bool} {n : Nat} : cnt P (n + 1) = cnt P n + if P n = true then 1 else 0 := rfl
theorem C_placed (h : SV p I J D) (hpl : ∀ j, j < nc D → I 12 j = stn D j) (s : Int32) {k : Nat} (hk : k < 2 ^ 31) : den d 101 [.ref 11, .int s, .int (nI k)] (S sl p I J) = some (some (.int (ntO D s k)), S sl p I J) := by
  have n60 := h.gd.n60
  have hf : ntN D s k ≤ nc D := fsq_le _ _
  obtain ⟨x, e1, hx⟩ := for_ex (M := Int32) (fun j x => ev d 101 5 [.ref 11, .int s, .int (nI k), .int x, .int j] [] (S sl p I J)) (ntN D s k) (fun j x => x = nI (cnt (fun j => decide (stn D j = s)) j))
    (by
      intro j x hj hx
      have hn : ntB D s k j = false := fsq_no _ _ _ hj
      have hc := cnt_le (P := fun j => decide (stn D j = s)) j
      rw [E101_5, h.count, if_pos (lt_n (by omega) (by omega)), ck_if (ixb_n (by omega) (by decide)), cl_n (by omega), hpl j (by omega), hx, nI_1, cnt_s]
      by_cases q : stn D j = s
      · rw [if_pos q, if_neg (fun w => by
          have := nI_ij (by omega) hk w
          unfold ntB at hn
          simp [q, this] at hn), if_pos (decide_eq_true q), nI_1]
        exact ⟨_, rfl, rfl⟩
      · rw [if_neg q, if_neg (by simpa using q), nI_1]
        exact ⟨_, rfl, rfl⟩)
    0 rfl
  rw [E101_0, e1]
  unfold ntO
  by_cases q : ntN D s k = nc D
  · rw [if_pos q, q, E101_5, h.count, if_neg (nlt_n (by omega))]
  · have hy : ntB D s k (ntN D s k) = true := fsq_yes _ _ (show ntN D s k < nc D by omega)
    generalize ntN D s k = m at hf hy q hx
    unfold ntB at hy
    simp only [Bool.and_eq_true, decide_eq_true_eq] at hy
    rw [if_neg q, E101_5, h.count, if_pos (lt_n (by omega) (by omega)), ck_if (ixb_n (by omega) (by decide)), cl_n (by omega), hpl m (by omega), if_pos hy.1, hx, hy.2, if_pos rfl]
theorem M_nth (hD : GD D) (h : dat I = D) (hS : SetAt I D) (s : Int32) {k : Nat} (hk : k < 2 ^ 31) : den d 245 [.ref 46, .int s, .int (nI k)] (S sl p I J) = some (some (.int (ntO D s k)), S sl p I J) := by
  have n60 := hD.n60
  have hf : ntN D s k ≤ nc D := fsq_le _ _
  obtain ⟨x, e1, hx1, hx2⟩ := for_ex (M := Int32) (fun j x => ev d 245 5 [.ref 46, .int s, .int (nI k), .int x, .int j] [] (S sl p I J)) (ntN D s k) (fun j x => cnt (fun j => decide (stn D j = s)) j ≤ k ∧ x = nI (k - cnt (fun j => decide (stn D j = s)) j))
    (by
      rintro j x hj ⟨hc, hx⟩
      have hn : ntB D s k j = false := fsq_no _ _ _ hj
      rw [E245_5, d2 hD h, if_pos (lt_n (by omega) (by omega)), ck_if (ixb_n (by omega) (by decide)), cl_n (by omega), hS.e61 j (by omega), hx, nI_1, cnt_s]
      by_cases q : stn D j = s
      · have hne : cnt (fun j => decide (stn D j = s)) j ≠ k := fun w => by
          unfold ntB at hn
          simp [q, w] at hn
        rw [if_pos q, if_neg (fun w => by
          have := nI_ij (a := k - cnt (fun j => decide (stn D j = s)) j) (b := 0) (by omega) (by omega) w
          omega), if_pos (decide_eq_true q)]
        refine ⟨nI (k - cnt (fun j => decide (stn D j = s)) j) + (-1), rfl, by omega, ?_⟩
        apply Int32.toInt_inj.mp
        rw [add32 (by rw [tI (by omega)]; show _ ≤ _ + (-1 : Int); omega) (by rw [tI (by omega)]; show _ + (-1 : Int) ≤ _; omega), tI (by omega), tI (by omega)]
        show _ + (-1 : Int) = _
        omega
      · rw [if_neg q, if_neg (by simpa using q)]
        exact ⟨_, rfl, hc, rfl⟩)
    (nI k) ⟨Nat.zero_le _, rfl⟩
  rw [E245_0, e1]
  unfold ntO
  by_cases q : ntN D s k = nc D
  · rw [if_pos q, q, E245_5, d2 hD h, if_neg (nlt_n (by omega))]
  · have hy : ntB D s k (ntN D s k) = true := fsq_yes _ _ (show ntN D s k < nc D by omega)
    generalize ntN D s k = m at hf hy q hx1 hx2
    unfold ntB at hy
    simp only [Bool.and_eq_true, decide_eq_true_eq] at hy
    rw [if_neg q, E245_5, d2 hD h, if_pos (lt_n (by omega) (by omega)), ck_if (ixb_n (by omega) (by decide)), cl_n (by omega), hS.e61 m (by omega), if_pos hy.1, hx2, hy.2, Nat.sub_self, if_pos (show nI 0 = 0 from rfl)]
theorem ntO_c (hD : GD D) (s : Int32) (k : Nat) : (ntO D s k = -1) ∨ ∃ i, i < nc D ∧ ntO D s k = nI i := by
  have hf : ntN D s k ≤ nc D := fsq_le _ _
  unfold ntO
  split
  · exact Or.inl rfl
  · exact Or.inr ⟨_, by omega, rfl⟩
theorem C_orNothing_n : den (d + 1) 165 [.ref 1, .int (-1)] (S sl p I J) = some (some (.int (-1)), S sl p (up2 I 1 8 5) J) := by
  rw [E165_0, if_pos (by decide), E164_0, evK_s, E165_9]
theorem C_orNothing_y {i : Nat} (hi : i < 2 ^ 31) : den (d + 1) 165 [.ref 1, .int (nI i)] (S sl p I J) = some (some (.int (nI i)), S sl p (up2 I 1 8 0) J) := by
  rw [E165_0, if_neg (nI_pos (by omega)), E163_0, evK_s, E165_17]
theorem A_member (hD : GD D) (hL : LabD D) (x y : Int32) : Agr (d + 40) sl p D e 131 246 [.int x, .int y] := by
  have n60 := hD.n60
  by_cases hy : y < 0
  · refine ⟨.int (-1), 1, fun I J h => QC.mk1 (I' := I) (J' := J) ?_ h Fc.refl, fun I J h => QM.mk1 (I' := I) (J' := J) ?_ rfl Fm.refl⟩
    · rw [E131_0, if_pos hy, E164_0, evK_s, E131_9]
    · rw [E246_0, if_pos hy, E178_0, evK_s, E246_9]
  · obtain ⟨k, hk, rfl⟩ := nI_of hy
    by_cases hx : ∃ i, i < nst D ∧ x = nI i
    · obtain ⟨s, hs, rfl⟩ := hx
      have key : ∀ v st, (∀ I J, CK p I J D e → GrC I J D → den (d + 39) 165 [.ref 1, .int (ntO D (nI s) k)] (S sl p I J) = some (some (.int v), S sl p (up2 I 1 8 st) J)) → (∀ I J, ev (d + 40) 246 34 [.ref 46, .int (nI s), .int (nI k), .retAddr 0] [.int (ntO D (nI s) k)] (S sl p I J) = some (some (.int v), S sl p (up2 I 46 0 st) J)) → Agr (d + 40) sl p D e 131 246 [.int (nI s), .int (nI k)] := by
        intro v st h1 h2
        refine ⟨.int v, st, fun I J h => ?_, fun I J h => ?_⟩
        · obtain ⟨I', e1, e2, e3, e4⟩ := C_hasSet (d := d + 35) (sl := sl) h (nI s)
          refine QC.mk1 (I' := I') (J' := J) ?_ e2 e4
          rw [E131_0, if_neg hy, e1, st_y hD hL hs, evK_s, E131_18, if_neg (by decide), C_placed e2.sv e3.pl _ hk, evK_s, E131_37, h1 I' J e2 e3, evK_s, E131_40]
        · obtain ⟨I', e1, e2, e3, e4⟩ := M_sets (d := d + 32) (sl := sl) (p := p) (J := J) hD h
          refine QM.mk1 (I' := I') (J' := J) ?_ (e2.trans h.symm) e4
          rw [E246_0, if_neg hy, e1, evK_v, E246_14, sp_isSet hD e3, st_y hD hL hs, evK_s, E246_19, if_neg (by decide), M_nth hD e2 e3 _ hk, evK_s, h2]
      rcases ntO_c hD (nI s) k with w | ⟨i, hi, w⟩
      · exact key (-1) 5 (fun I J h hG => by rw [w, C_orNothing_n]) (fun I J => by rw [w, E246_34, if_pos rfl, E178_0, evK_s, E246_45])
      · exact key (nI i) 0 (fun I J h hG => by rw [w, C_orNothing_y (by omega)]) (fun I J => by rw [w, E246_34, if_neg (nI_m1 (by omega)), E179_0, evK_s, E246_53])
    · refine ⟨.int (-1), 2, fun I J h => ?_, fun I J h => ?_⟩
      · obtain ⟨I', e1, e2, e3, e4⟩ := C_hasSet (d := d + 35) (sl := sl) h x
        refine QC.mk1 (I' := I') (J' := J) ?_ e2 e4
        rw [E131_0, if_neg hy, e1, st_n hD hL hx, evK_s, E131_18, if_pos rfl, E164_0, evK_s, E131_26]
      · obtain ⟨I', e1, e2, e3, e4⟩ := M_sets (d := d + 32) (sl := sl) (p := p) (J := J) hD h
        refine QM.mk1 (I' := I') (J' := J) ?_ (e2.trans h.symm) e4
        rw [E246_0, if_neg hy, e1, evK_v, E246_14, sp_isSet hD e3, st_n hD hL hx, evK_s, E246_19, if_pos rfl, E178_0, evK_s, E246_27]
theorem A_stray (hD : GD D) (y : Int32) : Agr (d + 40) sl p D e 132 247 [.int y] := by
  have n60 := hD.n60
  by_cases hy : y < 0
  · refine ⟨.int (-1), 1, fun I J h => QC.mk1 (I' := I) (J' := J) ?_ h Fc.refl, fun I J h => QM.mk1 (I' := I) (J' := J) ?_ rfl Fm.refl⟩
    · rw [E132_0, if_pos hy, E164_0, evK_s, E132_9]
    · rw [E247_0, if_pos hy, E178_0, evK_s, E247_9]
  · obtain ⟨k, hk, rfl⟩ := nI_of hy
    have key : ∀ v st, (∀ I J, CK p I J D e → GrC I J D → den (d + 39) 165 [.ref 1, .int (ntO D (-1) k)] (S sl p I J) = some (some (.int v), S sl p (up2 I 1 8 st) J)) → (∀ I J, ev (d + 40) 247 20 [.ref 46, .int (nI k), .retAddr 0] [.int (ntO D (-1) k)] (S sl p I J) = some (some (.int v), S sl p (up2 I 46 0 st) J)) → Agr (d + 40) sl p D e 132 247 [.int (nI k)] := by
      intro v st h1 h2
      refine ⟨.int v, st, fun I J h => ?_, fun I J h => ?_⟩
      · obtain ⟨I', e1, e2, e3, e4⟩ := C_refresh (d := d + 36) (sl := sl) h
        refine QC.mk1 (I' := I') (J' := J) ?_ e2 e4
        rw [E132_0, if_neg hy, e1, evK_v, E132_17, C_placed e2.sv e3.pl _ hk, evK_s, E132_27, h1 I' J e2 e3, evK_s, E132_30]
      · obtain ⟨I', e1, e2, e3, e4⟩ := M_sets (d := d + 32) (sl := sl) (p := p) (J := J) hD h
        refine QM.mk1 (I' := I') (J' := J) ?_ (e2.trans h.symm) e4
        rw [E247_0, if_neg hy, e1, evK_v, E247_14, M_nth hD e2 e3 _ hk, evK_s, h2]
    rcases ntO_c hD (-1) k with w | ⟨i, hi, w⟩
    · exact key (-1) 5 (fun I J h hG => by rw [w, C_orNothing_n]) (fun I J => by rw [w, E247_20, if_pos rfl, E178_0, evK_s, E247_31])
    · exact key (nI i) 0 (fun I J h hG => by rw [w, C_orNothing_y (by omega)]) (fun I J => by rw [w, E247_20, if_neg (nI_m1 (by omega)), E179_0, evK_s, E247_39])
/-- two sets -/
def Two (D : Nat → Nat → Int32) (x y : Int32) : Prop := ∃ s t, s < nst D ∧ t < nst D ∧ s ≠ t ∧ x = nI s ∧ y = nI t
theorem C_two (h : CK p I J D e) (hL : LabD D) (x y : Int32) (b : Int32) (hb : (Two D x y ∧ b = 1) ∨ (¬ Two D x y ∧ b = 0)) : ∃ I', den (d + 5) 166 [.ref 1, .int x, .int y] (S sl p I J) = some (some (.int b), S sl p I' J) ∧ CK p I' J D e ∧ Fc I J I' J := by
  have hD := h.sv.gd
  have n60 := hD.n60
  have h30 := nst_30 hD hL
  by_cases q : x = y
  · refine ⟨I, ?_, h, Fc.refl⟩
    rcases hb with ⟨⟨s, t, hs, ht, hne, rfl, rfl⟩, -⟩ | ⟨-, rfl⟩
    · exact absurd (nI_ij (by omega) (by omega) q) hne
    · rw [E166_0, if_pos q]
  · obtain ⟨I1, a1, a2, a3, a4⟩ := C_hasSet (d := d) (sl := sl) h x
    rw [E166_0, if_neg q, a1, evK_s, E166_13]
    by_cases hx : ∃ i, i < nst D ∧ x = nI i
    · obtain ⟨s, hs, rfl⟩ := hx
      obtain ⟨I2, b1, b2, b3, b4⟩ := C_hasSet (d := d) (sl := sl) a2 y
      refine ⟨I2, ?_, b2, a4.trans b4⟩
      rw [st_y hD hL hs, if_neg (by decide), b1, evK_s, E166_24]
      by_cases hy : ∃ i, i < nst D ∧ y = nI i
      · obtain ⟨t, ht, rfl⟩ := hy
        rw [st_y hD hL ht, if_neg (by decide)]
        rcases hb with ⟨-, rfl⟩ | ⟨w, -⟩
        · rfl
        · exact absurd ⟨s, t, hs, ht, fun w => q (by rw [w]), rfl, rfl⟩ w
      · rw [st_n hD hL hy, if_pos rfl]
        rcases hb with ⟨⟨s, t, hs, ht, hne, w1, w2⟩, -⟩ | ⟨-, rfl⟩
        · exact absurd ⟨t, ht, w2⟩ hy
        · rfl
    · refine ⟨I1, ?_, a2, a4⟩
      rw [st_n hD hL hx, if_pos rfl]
      rcases hb with ⟨⟨s, t, hs, ht, hne, w1, w2⟩, -⟩ | ⟨-, rfl⟩
      · exact absurd ⟨s, hs, w1⟩ hx
      · rfl
theorem M_two (hD : GD D) (hL : LabD D) (hS : SetAt I D) (x y : Int32) (b : Int32) (hb : (Two D x y ∧ b = 1) ∨ (¬ Two D x y ∧ b = 0)) : den (d + 2) 236 [.ref 46, .int x, .int y] (S sl p I J) = some (some (.int b), S sl p I J) := by
  have n60 := hD.n60
  have h30 := nst_30 hD hL
  rw [E236_0, sp_isSet hD hS, evK_s, E236_5]
  by_cases hx : ∃ i, i < nst D ∧ x = nI i
  · obtain ⟨s, hs, rfl⟩ := hx
    rw [st_y hD hL hs, if_neg (by decide), sp_isSet hD hS, evK_s, E236_13]
    by_cases hy : ∃ i, i < nst D ∧ y = nI i
    · obtain ⟨t, ht, rfl⟩ := hy
      rw [st_y hD hL ht, if_neg (by decide)]
      by_cases q : nI s = nI t
      · rw [if_pos q]
        rcases hb with ⟨⟨s', t', hs', ht', hne, w1, w2⟩, -⟩ | ⟨-, rfl⟩
        · exact absurd (nI_ij (by omega) (by omega) (w1.symm.trans (q.trans w2))) hne
        · rfl
      · rw [if_neg q]
        rcases hb with ⟨-, rfl⟩ | ⟨w, -⟩
        · rfl
        · exact absurd ⟨s, t, hs, ht, fun w => q (by rw [w]), rfl, rfl⟩ w
    · rw [st_n hD hL hy, if_pos rfl]
      rcases hb with ⟨⟨s, t, hs, ht, hne, w1, w2⟩, -⟩ | ⟨-, rfl⟩
      · exact absurd ⟨t, ht, w2⟩ hy
      · rfl
  · rw [st_n hD hL hx, if_pos rfl]
    rcases hb with ⟨⟨s, t, hs, ht, hne, w1, w2⟩, -⟩ | ⟨-, rfl⟩
    · exact absurd ⟨s, hs, w1⟩ hx
    · rfl
end AG4
