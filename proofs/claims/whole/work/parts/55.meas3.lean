section MEAS
variable {d sl : Nat} {p : Nat → Nat} {I I' : Nat → Nat → Int32} {J J' : Nat → Nat → Int64} {D : Nat → Nat → Int32}
theorem Msd.fr {s : Nat} (h : Msd I J D s) (h1 : ∀ k, 6 ≤ k → I' (400 + s) k = I (400 + s) k) (h5 : ∀ k, J' (500 + s) k = J (500 + s) k) (h6 : ∀ k, J' (600 + s) k = J (600 + s) k) (h8 : ∀ k, J' (800 + s) k = J (800 + s) k) : Msd I' J' D s := by
  refine ⟨by rw [h1 _ (by omega)]; exact h.seed, by rw [h1 _ (by omega)]; exact h.dir, by rw [h1 _ (by omega)]; exact h.dip, by rw [h1 _ (by omega)]; exact h.cone, by rw [h1 _ (by omega)]; exact h.half, ?_, ?_, by rw [h5]; exact h.mass⟩
  · unfold vec
    rw [h8, h8, h8]
    exact h.mean
  · unfold vec
    rw [h6, h6, h6]
    exact h.sum
theorem GrC.n30 (h : GrC I J D) (hD : GD D) : nst D ≤ 30 := by
  have := nst_30 hD h.lab
  have := hD.n60
  omega
theorem GrC.fr (h : GrC I J D) (hD : GD D) (h1 : ∀ a k, (a = 11 ∧ k = 14) ∨ a = 12 ∨ a = 20 ∨ (400 ≤ a ∧ a < 430) → I' a k = I a k) (h2 : ∀ a k, 500 ≤ a → a < 900 → J' a k = J a k) : GrC I' J' D := by
  have n30 := h.n30 hD
  exact ⟨h.lab, by rw [h1 _ _ (by omega)]; exact h.sets, fun j hj => by rw [h1 _ _ (by omega)]; exact h.pl j hj, fun s hs => by rw [h1 _ _ (by omega)]; exact h.gsz s hs, fun s hs => by rw [h1 _ _ (by omega)]; exact h.gl s hs, fun k hk => by rw [h1 _ _ (by omega)]; exact h.by45 k hk, fun s hs w => by rw [h1 _ _ (by omega)] at w; exact (h.ms s hs w).fr (fun k _ => h1 _ _ (by omega)) (fun k => h2 _ _ (by omega) (by omega)) (fun k => h2 _ _ (by omega) (by omega)) (fun k => h2 _ _ (by omega) (by omega))⟩
theorem sp_measured (h : SV p I J D) (hG : GrC I J D) {s : Nat} (hs : s < nst D) : ∃ I' J', den (d + 4) 105 [.ref 11, .int (nI s)] (S sl p I J) = some (some (.ref (400 + s)), S sl p I' J') ∧ GrC I' J' D ∧ ¬ I' (400 + s) 5 = 0 ∧ (∀ s', s' < nst D → ¬ I (400 + s') 5 = 0 → ¬ I' (400 + s') 5 = 0) ∧ (∀ a k, a ≠ 21 → ¬ (400 ≤ a ∧ a < 430) → I' a k = I a k) ∧ ∀ a k, ¬ (500 ≤ a ∧ a < 900) → J' a k = J a k := by
  have n30 := hG.n30 h.gd
  have hs3 : s < 30 := by omega
  rw [E105_0, ck_if (ixb_n hs3 (by decide)), cl_n (by omega)]
  by_cases q : I (400 + s) 5 = 0
  · obtain ⟨I1, J1, e1, m1, f1, f2⟩ := sp_measure (d := d) (sl := sl) h hG.lab hG.pl hs
    rw [if_pos q, e1, evK_v, E105_20 _ hs3]
    refine ⟨_, _, rfl, ⟨hG.lab, ?_, fun j hj => ?_, fun s hs => ?_, fun s hs => ?_, fun k hk => ?_, fun s' hs' w => ?_⟩, ?_, fun s' hs' w => ?_, fun a k w1 w2 => ?_, fun a k w => f2 a k (by omega) (by omega) (by omega) (by omega)⟩
    · rw [up_na (by omega), f1 _ _ (by omega) (by omega)]; exact hG.sets
    · rw [up_na (by omega), f1 _ _ (by omega) (by omega)]; exact hG.pl j hj
    · rw [up_n (by omega), f1 _ _ (by omega) (by omega)]; exact hG.gsz s hs
    · rw [up_n (by omega), f1 _ _ (by omega) (by omega)]; exact hG.gl s hs
    · rw [up_na (by omega), f1 _ _ (by omega) (by omega)]; exact hG.by45 k hk
    · by_cases c : s' = s
      · subst c
        exact m1.fr (fun k hk => up_nk (by omega)) (fun _ => rfl) (fun _ => rfl) (fun _ => rfl)
      · rw [up_na (by omega), f1 _ _ (by omega) (by omega)] at w
        exact (hG.ms s' hs' w).fr (fun k hk => by rw [up_na (by omega), f1 _ _ (by omega) (by omega)]) (fun k => f2 _ _ (by omega) (by omega) (by omega) (by omega)) (fun k => f2 _ _ (by omega) (by omega) (by omega) (by omega)) (fun k => f2 _ _ (by omega) (by omega) (by omega) (by omega))
    · rw [up_s]; decide
    · by_cases c : s' = s
      · subst c
        rw [up_s]; decide
      · rw [up_na (by omega), f1 _ _ (by omega) (by omega)]
        exact w
    · rw [up_na (by omega), f1 _ _ w1 (by omega)]
  · exact ⟨I, J, by rw [if_neg q], hG, q, fun _ _ w => w, fun _ _ _ _ => rfl, fun _ _ _ => rfl⟩
theorem sp_measureAll (h : SV p I J D) (hc : I 11 15 = I 4 10 → GrC I J D) : ∃ I' J', den (d + 5) 104 [.ref 11] (S sl p I J) = some (none, S sl p I' J') ∧ GrC I' J' D ∧ (∀ s, s < nst D → Msd I' J' D s) ∧ I' 11 15 = I 4 10 ∧ (∀ a k, ¬ (a = 11 ∧ 14 ≤ k ∧ k < 16) → ¬ (12 ≤ a ∧ a < 22) → ¬ (400 ≤ a ∧ a < 430) → I' a k = I a k) ∧ ∀ a k, ¬ (500 ≤ a ∧ a < 900) → J' a k = J a k := by
  obtain ⟨I1, e1, G1, h1, f1⟩ := sp_refresh (d := d + 1) (sl := sl) h hc
  have n30 := G1.n30 h.gd
  obtain ⟨⟨I2, J2⟩, e2, G2, m2, f2, f3⟩ := for_ex (M := (Nat → Nat → Int32) × (Nat → Nat → Int64)) (fun k x => ev (d + 5) 104 6 [.ref 11, .int k] [] (S sl p x.1 x.2)) (nst D)
    (fun k x => GrC x.1 x.2 D ∧ (∀ s, s < k → ¬ x.1 (400 + s) 5 = 0) ∧ (∀ a k, a ≠ 21 → ¬ (400 ≤ a ∧ a < 430) → x.1 a k = I1 a k) ∧ ∀ a k, ¬ (500 ≤ a ∧ a < 900) → x.2 a k = J a k)
    (by
      rintro k ⟨x, y⟩ hk ⟨g1, g2, g3, g4⟩
      simp only at g1 g2 g3 g4
      simp only
      have hsv : SV p x y D := h.fr (fun a k _ => by rw [g3 _ _ (by omega) (by omega), f1 _ _ (by omega) (by omega) (by omega)]) (by rw [g3 _ _ (by omega) (by omega), f1 _ _ (by omega) (by omega) (by omega)]) (by rw [g3 _ _ (by omega) (by omega), f1 _ _ (by omega) (by omega) (by omega)]) (fun a k _ _ => by rw [g3 _ _ (by omega) (by omega), f1 _ _ (by omega) (by omega) (by omega)]) (fun a k _ _ => g4 _ _ (by omega)) (fun a k _ _ => g4 _ _ (by omega))
      obtain ⟨x', y', t1, t2, t3, t4, t5, t6⟩ := sp_measured (d := d) (sl := sl) hsv g1 hk
      rw [E104_6, g1.sets, if_pos (lt_n hk (by omega)), t1, evK_s, E104_19 _ (by omega), nI_1]
      refine ⟨(x', y'), rfl, t2, fun s hs => ?_, fun a k w1 w2 => (t5 a k w1 w2).trans (g3 a k w1 w2), fun a k w => (t6 a k w).trans (g4 a k w)⟩
      by_cases c : s = k
      · subst c; exact t3
      · exact t4 s (by omega) (g2 s (by omega)))
    (I1, J) ⟨G1, fun _ w => absurd w (Nat.not_lt_zero _), fun _ _ _ _ => rfl, fun _ _ _ => rfl⟩
  simp only at e2 G2 m2 f2 f3
  refine ⟨I2, J2, ?_, G2, fun s hs => G2.ms s hs (m2 s hs), ?_, fun a k w1 w2 w3 => ?_, f3⟩
  · rw [E104_0, e1, evK_v, E104_4, e2, E104_6, G2.sets, if_neg (nlt_n (by omega))]
  · rw [f2 _ _ (by omega) (by omega)]; exact h1
  · rw [f2 _ _ (by omega) (by omega), f1 _ _ w1 w2 w3]
theorem sp_hasSet (h : SV p I J D) (hc : I 11 15 = I 4 10 → GrC I J D) (x : Int32) : ∃ I', den (d + 4) 100 [.ref 11, .int x] (S sl p I J) = some (some (.int (if x < 0 then 0 else if x < nI (nst D) then 1 else 0)), S sl p I' J) ∧ GrC I' J D ∧ I' 11 15 = I 4 10 ∧ ∀ a k, ¬ (a = 11 ∧ 14 ≤ k ∧ k < 16) → ¬ (12 ≤ a ∧ a < 22) → ¬ (400 ≤ a ∧ a < 430) → I' a k = I a k := by
  obtain ⟨I1, e1, G1, h1, f1⟩ := sp_refresh (d := d) (sl := sl) h hc
  refine ⟨I1, ?_, G1, h1, f1⟩
  rw [E100_0, e1, evK_v, E100_4, G1.sets]
  by_cases q : x < 0
  · rw [if_pos q, if_pos q]
  · rw [if_neg q, if_neg q]
    by_cases r : x < nI (nst D)
    · rw [if_pos r, if_pos r]
    · rw [if_neg r, if_neg r]
theorem sp_countBy (h : SV p I J D) (hG : GrC I J D) {k : Nat} (hk : k ≤ 45) : ∃ I', den (d + 4) 92 [.ref 11, .int (nI k)] (S sl p I J) = some (some (.int (nI (nbig D k (-1)))), S sl p I' J) ∧ GrC I' J D ∧ ∀ a j, ¬ (15 ≤ a ∧ a < 21) → I' a j = I a j := by
  rw [E92_0, ck_if (ixb_n (by omega) (by decide)), cl_n (by omega)]
  by_cases q : I 20 k = -1
  · obtain ⟨l, z, u, e⟩ := sp_countSets (d := d) (sl := sl) h (an := k) (bt := -1) (by omega)
    rw [if_pos q, e, evK_s, E92_21, ck_if (ixb_n (by omega) (by decide)), ck_if (ixb_n (by omega) (by decide)), cl_n (by omega), up_s]
    refine ⟨_, rfl, ⟨hG.lab, ?_, fun j hj => ?_, fun s hs => ?_, fun s hs => ?_, fun j hj => ?_, fun s hs w => ?_⟩, fun a j w => ?_⟩
    · rw [up_na (by omega), row_n (by omega), row_n (by omega), row_n (by omega)]; exact hG.sets
    · rw [up_na (by omega), row_n (by omega), row_n (by omega), row_n (by omega)]; exact hG.pl j hj
    · rw [up_na (by omega), row_n (by omega), row_n (by omega), row_n (by omega)]; exact hG.gsz s hs
    · rw [up_na (by omega), row_n (by omega), row_n (by omega), row_n (by omega)]; exact hG.gl s hs
    · by_cases c : j = k
      · subst c
        exact Or.inr up_s
      · rw [up_nk c, row_n (by omega), row_n (by omega), row_n (by omega)]
        exact hG.by45 j hj
    · rw [up_na (by omega), row_n (by omega), row_n (by omega), row_n (by omega)] at w
      exact (hG.ms s hs w).fr (fun k _ => by rw [up_na (by omega), row_n (by omega), row_n (by omega), row_n (by omega)]) (fun _ => rfl) (fun _ => rfl) (fun _ => rfl)
    · rw [up_na (by omega), row_n (by omega), row_n (by omega), row_n (by omega)]
  · rw [if_neg q, ck_if (ixb_n (by omega) (by decide))]
    rcases hG.by45 k hk with w | w
    · exact absurd w q
    · rw [w]
      exact ⟨I, rfl, hG, fun _ _ _ => rfl⟩
end MEAS
