section HEAP
variable {d sl : Nat} {p : Nat → Nat} {I : Nat → Nat → Int32} {J : Nat → Nat → Int64} {D : Nat → Nat → Int32}
theorem sp_scatter (h : SV p I J D) : ∃ l, den d 89 [.ref 11] (S sl p I J) = some (none, S sl p (row I 15 l) J) ∧ ∀ j, j < nc D → l j = -1 := by
  have n60 := h.gd.n60
  obtain ⟨l, e, hl⟩ := for_ex (M := Nat → Int32) (fun k x => ev d 89 2 [.ref 11, .int k] [] (S sl p (row I 15 x) J)) (nc D) (fun k x => ∀ j, j < k → x j = -1)
    (by
      intro k x hk hx
      rw [E89_2, row_n (by omega), h.count, if_pos (lt_n hk (by omega)), ck_if (ixb_n (by omega) (by decide)), cl_n (by omega), row_up, nI_1]
      refine ⟨_, rfl, fun j hj => ?_⟩
      by_cases e : j = k
      · rw [e, up1_s]
      · rw [up1_n e]; exact hx j (by omega))
    (I 15) (fun _ w => absurd w (Nat.not_lt_zero _))
  rw [row_id] at e
  exact ⟨l, by rw [E89_0, e, E89_2, row_n (by omega), h.count, if_neg (nlt_n (by omega))], hl⟩
/-- heaps are the labelling, their sizes stand in the row 16 -/
theorem sp_heapUp (h : SV p I J D) {an : Nat} {bt : Int32} (han : an ≤ 90) : ∃ l z q, den (d + 2) 90 [.ref 11, .int (nI an), .int bt] (S sl p I J) = some (some (.int (nI (gr D an bt))), S sl p (row (row (row I 15 l) 16 z) 18 q) J) ∧ Lab (nc D) (nearA D an) bt (lb D an bt) (gr D an bt) ∧ (∀ j, j < nc D → l j = lb D an bt j) ∧ ∀ c, c < gr D an bt → z c = nI (gz D an bt c) := by
  have n60 := h.gd.n60
  obtain ⟨l0, e0, hl0⟩ := sp_scatter (d := d + 1) (sl := sl) h
  obtain ⟨⟨g, l, z, q⟩, e1, h1, h2⟩ := for_ex (M := Nat × (Nat → Int32) × (Nat → Int32) × (Nat → Int32)) (fun k x => ev (d + 2) 90 9 [.ref 11, .int (nI an), .int bt, .int (nI x.1), .int k] [] (S sl p (row (row (row I 15 x.2.1) 16 x.2.2.1) 18 x.2.2.2) J)) (nc D)
    (fun k x => LabK (nc D) (nearA D an) bt x.2.1 x.1 k ∧ ∀ c, c < x.1 → x.2.2.1 c = nI (cnt (fun j => decide (x.2.1 j = nI c)) (nc D)))
    (by
      rintro k ⟨g, l, z, q⟩ hk ⟨g1, g2⟩
      simp only at g1 g2 ⊢
      have hgk := g1.1
      have r15 : ∀ j, row (row (row I 15 l) 16 z) 18 q 15 j = l j := fun j => by rw [row_n (by omega), row_n (by omega), row_s]
      rw [E90_9, row_n (by omega), row_n (by omega), row_n (by omega), h.count, if_pos (lt_n hk (by omega)), ck_if (ixb_n (by omega) (by decide)), cl_n (by omega), r15]
      have keep : (l k = -1 → nI k = bt) → LabK (nc D) (nearA D an) bt l g (k + 1) := by
        intro hq
        obtain ⟨a0, a1, a2, a3, a4, a5, a6⟩ := g1
        refine ⟨by omega, a1, a2, ?_, a4, a5, ?_⟩
        · intro j hj hb
          rcases Nat.lt_or_ge j k with w | w
          · exact a3 j w hb
          · have : j = k := by omega
            subst this
            exact fun w => hb (hq w)
        · intro c hc
          obtain ⟨r, r1, r2⟩ := a6 c hc
          exact ⟨r, by omega, r2⟩
      by_cases c1 : l k = -1
      · rw [if_pos c1]
        by_cases c2 : nI k = bt
        · rw [if_pos c2, nI_1]
          exact ⟨(g, l, z, q), rfl, keep (fun _ => c2), g2⟩
        · rw [if_neg c2]
          have hsv : SV p (row (row (row I 15 l) 16 z) 18 q) J D := SV_row (by omega) (SV_row (by omega) (SV_row (by omega) h))
          have e15 : row (row (row I 15 l) 16 z) 18 q 15 = l := funext r15
          obtain ⟨l', q', e, f1, f2, f3⟩ := sp_spread (d := d) (sl := sl) (bt := bt) (k := k) (g := g) hsv (by omega) (by rw [e15]; exact g1.2.2.1) han hk c2 (by rw [e15]; exact c1)
          rw [e15] at f1
          have em : row (row (row (row (row I 15 l) 16 z) 18 q) 15 l') 18 q' = row (row (row I 15 l') 16 z) 18 q' := by
            funext a j
            unfold row
            split
            · rfl
            · split
              · split
                · omega
                · rfl
              · rfl
          have hn := Lab_next (fun i j w => by unfold nearA; rw [nb_sy]; exact w) (show nc D < 2 ^ 30 by omega) hk c2 g1 c1 f1 f2 f3
          rw [e, evK_s, E90_52, ck_if (ixb_n (by omega) (by decide)), cl_n (by omega), em, row_un (by omega), row_up, nI_1, nI_1]
          refine ⟨(g + 1, l', up1 z g (nI (cnt (fun j => decide (l' j = nI g)) (nc D))), q'), rfl, hn, ?_⟩
          intro c hc
          simp only at hc ⊢
          by_cases ec : c = g
          · rw [ec, up1_s]
          · rw [up1_n ec, g2 c (by omega)]
            congr 1
            refine cnt_c (P := fun j => decide (l j = nI c)) (Q := fun j => decide (l' j = nI c)) _ (fun j hj => ?_)
            rcases f1 j with w | w
            · simp only [w]
            · rw [decide_eq_false, decide_eq_false]
              · rw [w.2.1]
                intro y
                have := nI_ij (by omega) (by omega) y
                omega
              · rw [w.1]
                exact fun y => nI_m1 (by omega) y.symm
      · rw [if_neg c1, nI_1]
        exact ⟨(g, l, z, q), rfl, keep (fun w => absurd w c1), g2⟩)
    (0, l0, I 16, I 18) ⟨⟨Nat.le_refl 0, fun j hj _ => hl0 j hj, fun j hj => Or.inl (hl0 j hj), fun _ w => absurd w (Nat.not_lt_zero _), fun i _ hi _ _ _ _ w => absurd (hl0 i hi) w, fun i _ hi _ w => absurd (hl0 i hi) w, fun _ w => absurd w (Nat.not_lt_zero _)⟩, fun _ w => absurd w (Nat.not_lt_zero _)⟩
  simp only at e1 h1 h2
  obtain ⟨w1, w2⟩ := lb_of n60 h1
  subst w1
  refine ⟨l, z, q, ?_, GL_lab h1, w2, ?_⟩
  · have em : row (row (row I 15 l0) 16 (I 16)) 18 (I 18) = row I 15 l0 := by
      funext a j
      unfold row
      split
      · rename_i w; subst w; rfl
      · split
        · rename_i w; subst w; rfl
        · rfl
    rw [em, nI_0] at e1
    rw [E90_0, e0, evK_v, E90_4, e1, E90_9, row_n (by omega), row_n (by omega), row_n (by omega), h.count, if_neg (nlt_n (by omega))]
  · intro c hc
    rw [h2 c hc]
    unfold gz
    rw [cnt_c (P := fun j => decide (l j = nI c)) (Q := fun j => decide (lb D an bt j = nI c)) _ (fun j hj => by simp only [w2 j hj])]
end HEAP
