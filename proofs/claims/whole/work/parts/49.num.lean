section REF
variable {d sl : Nat} {p : Nat → Nat} {I I' : Nat → Nat → Int32} {J J' : Nat → Nat → Int64} {D : Nat → Nat → Int32}
theorem SV.fr (h : SV p I J D) (h1 : ∀ a k, a < 11 → I' a k = I a k) (h2 : I' 11 12 = I 11 12) (h3 : I' 11 13 = I 11 13) (h4 : ∀ a k, 200 ≤ a → a < 260 → I' a k = I a k) (h5 : ∀ a k, 100 ≤ a → a < 106 → J' a k = J a k) (h6 : ∀ a k, 300 ≤ a → a < 360 → J' a k = J a k) : SV p I' J' D := by
  have m6 := h.gd.m6
  have hp := h.p60
  refine ⟨h.gd, fun k hk => by rw [h1 _ _ (by omega)]; exact h.sn k hk, h.p60, h.pij, by rw [h1 _ _ (by omega)]; exact h.lines, by rw [h1 _ _ (by omega)]; exact h.count, by rw [h1 _ _ (by omega)]; exact h.cap, fun l hl => ?_, fun j hj => by rw [h4 _ _ (by omega) (by omega)]; exact h.slot j hj, fun i hi => ?_, fun i hi => ?_, fun i j hi hj => by rw [h1 _ _ (by omega)]; exact h.ang i j hi hj, by rw [h2]; exact h.link, by rw [h3]; exact h.least⟩
  · rw [h1 _ _ (by omega), h1 _ _ (by omega), h1 _ _ (by omega)]
    refine ⟨(h.tr l hl).1, (h.tr l hl).2.1, (h.tr l hl).2.2.1, ?_⟩
    rw [← (h.tr l hl).2.2.2]
    unfold vec
    rw [h5 _ _ (by omega) (by omega), h5 _ _ (by omega) (by omega), h5 _ _ (by omega) (by omega)]
  · have := hp i
    rw [h4 _ _ (by omega) (by omega), h4 _ _ (by omega) (by omega), h4 _ _ (by omega) (by omega), h4 _ _ (by omega) (by omega), h4 _ _ (by omega) (by omega), h4 _ _ (by omega) (by omega), h4 _ _ (by omega) (by omega)]
    exact h.ck i hi
  · have := hp i
    rw [← h.pole i hi]
    unfold vec
    rw [h6 _ _ (by omega) (by omega), h6 _ _ (by omega) (by omega), h6 _ _ (by omega) (by omega)]
/-- the number of a big heap -/
noncomputable def rk (D : Nat → Nat → Int32) (c : Nat) : Nat := cnt (bef D c) (gr D (lk D) (-1))
theorem rk_cnt {c : Nat} (hc : lst D ≤ gz D (lk D) (-1) c) : rk D c = cnt (fun h => befR D h c) (gr D (lk D) (-1)) := by
  unfold rk
  refine cnt_c _ (fun j _ => ?_)
  rw [bef_eq]
  by_cases q : befR D j c = true
  · have : bigB D j = true := by
      refine decide_eq_true ?_
      rcases befR_t.mp q with w | w <;> omega
    simp only [this, q, Bool.and_true]
  · have q' : befR D j c = false := by simpa using q
    simp only [q', Bool.and_false]
theorem number_1 (h : SV p I J D) (hH : HpAt I D) (h17 : ∀ c, c < gr D (lk D) (-1) → I 17 c = gll D (lk D) (-1) c) {c : Nat} (hc : c < gr D (lk D) (-1)) (hb : lst D ≤ gz D (lk D) (-1) c) : ev (d + 1) 99 5 [.ref 11, .int (nI c), .int (nI (gr D (lk D) (-1))), .int 0, .int 0, .retAddr 0] [] (S sl p I J) = ev (d + 1) 99 83 [.ref 11, .int (nI c), .int (nI (gr D (lk D) (-1))), .int (nI (rk D c)), .int 0, .retAddr 0] [] (S sl p I J) := by
  have n60 := h.gd.n60
  have hgn : gr D (lk D) (-1) ≤ nc D := hH.lab.1
  have hz := gz_le D (lk D) (-1) c
  rw [for_cnt (fun j x => ev (d + 1) 99 5 [.ref 11, .int (nI c), .int (nI (gr D (lk D) (-1))), .int x, .int j, .retAddr 0] [] (S sl p I J)) (fun j => befR D j c) (gr D (lk D) (-1))
    (by
      intro j x hj
      have hz2 := gz_le D (lk D) (-1) j
      rw [E99_5, if_pos (lt_n hj (by omega))]
      simp only [E99_32, ck_if (ixb_n (show j < 60 by omega) (by decide)), ck_if (ixb_n (show c < 60 by omega) (by decide)), cl_n (show j < 2 ^ 31 by omega), cl_n (show c < 2 ^ 31 by omega), hH.e16 j hj, hH.e16 c hc, h17 j hj, h17 c hc, nI_1]
      simp only [if_true, if_neg (show ¬ (1 : Int32) = 0 by decide)]
      by_cases q2 : gz D (lk D) (-1) j ≤ gz D (lk D) (-1) c
      · rw [if_pos ((nI_le_iff (by omega) (by omega)).mpr q2)]
        by_cases q3 : gz D (lk D) (-1) j = gz D (lk D) (-1) c
        · rw [if_pos (by rw [q3])]
          by_cases q4 : gll D (lk D) (-1) j < gll D (lk D) (-1) c
          · rw [if_pos q4, if_pos (befR_t.mpr (Or.inr ⟨q3, q4⟩))]
          · rw [if_neg q4, if_neg (fun w => by rcases befR_t.mp w with w | w; omega; exact q4 w.2)]
        · have q5 : ¬ befR D j c = true := fun w => by rcases befR_t.mp w with w | w; omega; exact q3 w.1
          rw [if_neg (fun w => q3 (nI_ij (by omega) (by omega) w)), if_pos ((nI_le_iff (by omega) (by omega)).mpr q2), if_neg q5]
      · rw [if_neg (fun w => q2 ((nI_le_iff (by omega) (by omega)).mp w)), if_neg (fun w => q2 ((nI_le_iff (by omega) (by omega)).mp w)), if_pos (befR_t.mpr (Or.inl (by omega)))]
        split <;> rfl), E99_5, if_neg (nlt_n (by omega)), rk_cnt hb]
end REF
