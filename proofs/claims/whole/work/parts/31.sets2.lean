/-- sets lie in the model -/
def SetAt (I : Nat → Nat → Int32) (D : Nat → Nat → Int32) : Prop := (Lab (nc D) (nearA D (lk D)) (-1) (lb D (lk D) (-1)) (gr D (lk D) (-1))) ∧ (I 46 31 = nI (nst D)) ∧ (∀ j, j < nc D → I 61 j = stn D j)
theorem SetAt.lab {I : Nat → Nat → Int32} {D : Nat → Nat → Int32} (h : SetAt I D) : Lab (nc D) (nearA D (lk D)) (-1) (lb D (lk D) (-1)) (gr D (lk D) (-1)) := h.1
theorem SetAt.e31 {I : Nat → Nat → Int32} {D : Nat → Nat → Int32} (h : SetAt I D) : I 46 31 = nI (nst D) := h.2.1
theorem SetAt.e61 {I : Nat → Nat → Int32} {D : Nat → Nat → Int32} (h : SetAt I D) : ∀ j, j < nc D → I 61 j = stn D j := h.2.2
theorem lb_c {D : Nat → Nat → Int32} (h : Lab (nc D) (nearA D (lk D)) (-1) (lb D (lk D) (-1)) (gr D (lk D) (-1))) (hn : nc D ≤ 60) {k : Nat} (hk : k < nc D) : ∃ c, c < gr D (lk D) (-1) ∧ lb D (lk D) (-1) k = nI c ∧ stn D k = sno D c := by
  obtain ⟨c, hc, e⟩ := (h.2.2.1 k hk).resolve_left (h.2.2.2.1 k hk (nI_m1 (by omega)))
  have := h.1
  refine ⟨c, hc, e, ?_⟩
  unfold stn
  rw [e, cl_n (by omega)]
section SETS
variable {d sl : Nat} {p : Nat → Nat} {I : Nat → Nat → Int32} {J : Nat → Nat → Int64}
theorem sets_h (hD : GD (dat I)) (hg : GrpAt I (dat I) (lk (dat I)) (-1)) {k c : Nat} (hk : k < 60) (hc : c < gr (dat I) (lk (dat I)) (-1)) (l : Nat → Int32) : ev d 210 73 [.ref 46, .int (nI k), .int (nI c), .int 0] [] (S sl p (row I 61 (up1 l k 0)) J) = ev d 210 19 [.ref 46, .int (nI (k + 1)), .retAddr 0, .retAddr 0] [] (S sl p (row I 61 (up1 l k (nI (cnt (bef (dat I) c) (gr (dat I) (lk (dat I)) (-1)))))) J) := by
  have es : I 46 4 = nI (lst (dat I)) := by rw [← hD.es, dat_6 (by omega)]
  have hgn : gr (dat I) (lk (dat I)) (-1) ≤ nc (dat I) := hg.lab.1
  have n60 := hD.n60
  have s20 := hD.s20
  rw [for_cnt (fun h v => ev d 210 73 [.ref 46, .int (nI k), .int (nI c), .int h] [] (S sl p (row I 61 (up1 l k v)) J)) (bef (dat I) c) (gr (dat I) (lk (dat I)) (-1))
    (by
      intro h v hh
      have hz := gz_le (dat I) (lk (dat I)) (-1) c
      have hz2 := gz_le (dat I) (lk (dat I)) (-1) h
      have r30 : row I 61 (up1 l k v) 46 30 = I 46 30 := row_n (by omega)
      have r4 : row I 61 (up1 l k v) 46 4 = I 46 4 := row_n (by omega)
      have r62 : ∀ x, row I 61 (up1 l k v) 62 x = I 62 x := fun x => row_n (by omega)
      have r63 : ∀ x, row I 61 (up1 l k v) 63 x = I 63 x := fun x => row_n (by omega)
      rw [E210_73]
      simp only [r30, r4, r62, r63, hg.e30, if_pos (lt_n hh (show _ < 2 ^ 31 by omega)), ck_if (ixb_n hk (by decide)), ck_if (ixb_n (show h < 60 by omega) (by decide)), ck_if (ixb_n (show c < 60 by omega) (by decide)), cl_n (show k < 2 ^ 31 by omega), cl_n (show h < 2 ^ 31 by omega), cl_n (show c < 2 ^ 31 by omega), hg.e62 h hh, hg.e62 c hc, hg.e63 h hh, hg.e63 c hc, es, row_up, up1_up, row_s, up1_s, nI_1, Int32.add_zero]
      unfold bef
      by_cases q1 : gz (dat I) (lk (dat I)) (-1) h < lst (dat I)
      · rw [if_pos ((nI_lt_iff (by omega) (by omega)).mpr q1), decide_eq_false (by omega), Bool.false_and, if_neg (by decide)]
      · rw [if_neg (fun w => q1 ((nI_lt_iff (by omega) (by omega)).mp w)), decide_eq_true (by omega), Bool.true_and]
        by_cases q2 : gz (dat I) (lk (dat I)) (-1) h ≤ gz (dat I) (lk (dat I)) (-1) c
        · rw [if_pos ((nI_le_iff (by omega) (by omega)).mpr q2), decide_eq_false (by omega), Bool.false_or]
          by_cases q3 : gz (dat I) (lk (dat I)) (-1) h = gz (dat I) (lk (dat I)) (-1) c
          · rw [if_pos (by rw [q3]), decide_eq_true q3, Bool.true_and]
            by_cases q4 : gll (dat I) (lk (dat I)) (-1) h < gll (dat I) (lk (dat I)) (-1) c
            · rw [if_pos q4, if_pos (decide_eq_true q4)]
            · rw [if_neg q4, if_neg (by simpa using q4)]
          · rw [if_neg (fun w => q3 (nI_ij (by omega) (by omega) w)), decide_eq_false q3, Bool.false_and, if_neg (by decide)]
        · rw [if_neg (fun w => q2 ((nI_le_iff (by omega) (by omega)).mp w)), decide_eq_true (by omega), Bool.true_or, if_pos rfl]), E210_73, row_n (by omega), hg.e30, if_neg (nlt_n (by omega)), nI_1]
theorem sp_laysSets (hD : GD (dat I)) : ∃ I', den (d + 7) 210 [.ref 46] (S sl p I J) = some (none, S sl p I' J) ∧ SetAt I' (dat I) ∧ ∀ a k, ¬ (a = 46 ∧ (k = 30 ∨ k = 31)) → a ≠ 60 → a ≠ 61 → a ≠ 62 → a ≠ 63 → I' a k = I a k := by
  have el : I 46 3 = nI (lk (dat I)) := by rw [← hD.ek, dat_6 (by omega)]
  have k45 := hD.k45
  have n60 := hD.n60
  obtain ⟨I1, e1, g1, f1⟩ := sp_groups (d := d) (sl := sl) (p := p) (J := J) (an := lk (dat I)) (bt := -1) hD (by omega)
  have d1 : dat I1 = dat I := by
    funext a k
    unfold dat
    split
    · exact f1 a k (by omega) (by omega) (by omega) (by omega)
    · rfl
  have hgn : gr (dat I) (lk (dat I)) (-1) ≤ nc (dat I) := g1.lab.1
  rw [E210_0, el, e1, evK_v, E210_9, sp_bigGroups (by rw [d1]; exact hD) (by rw [d1]; exact g1), evK_s, E210_14, d1]
  have d2 : dat (up2 I1 46 31 (nI (nbig (dat I) (lk (dat I)) (-1)))) = dat I := by rw [dat_up (by unfold isD; omega), d1]
  have g2 : GrpAt (up2 I1 46 31 (nI (nbig (dat I) (lk (dat I)) (-1)))) (dat I) (lk (dat I)) (-1) := ⟨g1.lab, by rw [up_n (by omega)]; exact g1.e30, fun j hj => by rw [up_n (by omega)]; exact g1.e60 j hj, fun j hj => by rw [up_n (by omega)]; exact g1.e62 j hj, fun j hj => by rw [up_n (by omega)]; exact g1.e63 j hj⟩
  have f2 : ∀ a k, ¬ (a = 46 ∧ (k = 30 ∨ k = 31)) → a ≠ 60 → a ≠ 61 → a ≠ 62 → a ≠ 63 → up2 I1 46 31 (nI (nbig (dat I) (lk (dat I)) (-1))) a k = I a k := by
    intro a k h0 h1 h2 h3 h4
    rw [up_n (by omega)]
    exact f1 a k (by omega) h1 h3 h4
  have e31 : up2 I1 46 31 (nI (nbig (dat I) (lk (dat I)) (-1))) 46 31 = nI (nst (dat I)) := up_s
  generalize up2 I1 46 31 (nI (nbig (dat I) (lk (dat I)) (-1))) = I2 at d2 g2 f2 e31
  have en : I2 46 2 = nI (nc (dat I)) := by rw [← d2, ← (by rw [d2]; exact hD : GD (dat I2)).en, dat_6 (by omega)]
  have es : I2 46 4 = nI (lst (dat I)) := by rw [← d2, ← (by rw [d2]; exact hD : GD (dat I2)).es, dat_6 (by omega)]
  obtain ⟨l, e3, h3⟩ := for_ex (M := Nat → Int32) (fun k l => ev (d + 7) 210 19 [.ref 46, .int k, .retAddr 0, .retAddr 0] [] (S sl p (row I2 61 l) J)) (nc (dat I)) (fun k l => ∀ j, j < k → l j = stn (dat I) j)
    (by
      intro k l hk h
      obtain ⟨c, hc, ec, es2⟩ := lb_c g2.lab n60 hk
      have hz := gz_le (dat I) (lk (dat I)) (-1) c
      have s20 := hD.s20
      refine ⟨up1 l k (stn (dat I) k), ?_, fun j hj => ?_⟩
      · rw [E210_19, row_n (by omega), en, if_pos (lt_n hk (by omega)), ck_if (ixb_n (by omega) (by decide)), cl_n (by omega), row_n (by omega), g2.e60 k hk, ec, ck_if (ixb_n (by omega) (by decide)), cl_n (by omega), row_n (by omega), row_n (by omega), g2.e62 c hc, es, es2]
        unfold sno
        by_cases q : gz (dat I) (lk (dat I)) (-1) c < lst (dat I)
        · rw [if_pos ((nI_lt_iff (by omega) (by omega)).mpr q), if_pos q, E210_57, ck_if (ixb_n (by omega) (by decide)), ck_if (ixb_n (by omega) (by decide)), cl_n (by omega), up_s, if_pos rfl, row_up, nI_1]
        · rw [if_neg (fun w => q ((nI_lt_iff (by omega) (by omega)).mp w)), if_neg q, E210_57, ck_if (ixb_n (by omega) (by decide)), ck_if (ixb_n (by omega) (by decide)), cl_n (by omega), up_s, if_neg (by decide), row_up]
          have := sets_h (d := d + 7) (sl := sl) (p := p) (I := I2) (J := J) (by rw [d2]; exact hD) (by rw [d2]; exact g2) (k := k) (c := c) (by omega) (by rw [d2]; exact hc) l
          rw [d2] at this
          exact this
      · by_cases e : j = k
        · rw [e, up1_s]
        · rw [up1_n e]; exact h j (by omega))
    (I2 61) (fun _ h => absurd h (Nat.not_lt_zero _))
  rw [row_id] at e3
  refine ⟨row I2 61 l, ?_, ⟨g2.lab, by rw [row_n (by omega)]; exact e31, fun j hj => by rw [row_s]; exact h3 j hj⟩, ?_⟩
  · rw [e3, E210_19, row_n (by omega), en, if_neg (nlt_n (by omega))]
  · intro a k h0 h1 h2 h4 h5
    rw [row_n h2]
    exact f2 a k h0 h1 h2 h4 h5
end SETS
