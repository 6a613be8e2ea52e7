section LAYS
variable {d sl : Nat} {p : Nat → Nat} {I : Nat → Nat → Int32} {J : Nat → Nat → Int64}
/-- the inner turn over b -/
theorem lays_b {n g an k a : Nat} {bt : Int32} {l0 lp : Nat → Int32} (hn : n ≤ 60) (hI : I 46 2 = nI n) (hg : I 46 30 = nI g) (hgk : g ≤ k) (hkn : k < n) (han : an ≤ 90) (hb : ∀ i, i < n → bv (pv (dat I) i)) (h0 : ∀ j, j < n → l0 j = -1 ∨ ∃ c, c < g ∧ l0 j = nI c) (ha : a < n) (mo : Int32) (l : Nat → Int32)
    (hf : Fl n (fun i j => nb (dat I) i j ≤ an) bt k g l0 l) (hla : l a = nI g) (hm : ∀ j, l j = -1 → lp j = -1)
    (hx : (mo = 0 ∧ l = lp ∧ ∀ a', a' < a → lp a' = nI g → ∀ b', b' < n → ¬ nI b' = bt → lp b' = -1 → ¬ nb (dat I) a' b' ≤ an) ∨ (mo = 1 ∧ ∃ j, j < n ∧ lp j = -1 ∧ ¬ l j = -1)) :
    ∃ mo' l', ev (d + 6) 208 109 [.ref 46, .int (nI an), .int bt, .int (nI k), .int mo, .int (nI a), .int 0] [] (S sl p (row I 60 l) J) = ev (d + 6) 208 80 [.ref 46, .int (nI an), .int bt, .int (nI k), .int mo', .int (nI a + 1), .retAddr 0] [] (S sl p (row I 60 l') J) ∧ Fl n (fun i j => nb (dat I) i j ≤ an) bt k g l0 l' ∧ (∀ j, l' j = -1 → lp j = -1) ∧ ((mo' = 0 ∧ l' = lp ∧ ∀ a', a' < a + 1 → lp a' = nI g → ∀ b', b' < n → ¬ nI b' = bt → lp b' = -1 → ¬ nb (dat I) a' b' ≤ an) ∨ (mo' = 1 ∧ ∃ j, j < n ∧ lp j = -1 ∧ ¬ l' j = -1)) := by
  have hgm : ¬ nI g = -1 := nI_m1 (by omega)
  have hA : ∀ l : Nat → Int32, Fl n (fun i j => nb (dat I) i j ≤ an) bt k g l0 l → l a = nI g → ¬ nI a = bt ∧ Con n (fun i j => nb (dat I) i j ≤ an) bt k a := by
    intro l hf hla
    rcases hf a with q | q
    · rw [hla] at q
      rcases h0 a ha with w | ⟨c, hc, w⟩
      · rw [w] at q; exact absurd q hgm
      · rw [w] at q
        have := nI_ij (by omega) (by omega) q
        omega
    · exact ⟨q.2.2.2.1, q.2.2.2.2⟩
  obtain ⟨⟨mo', l'⟩, e, h1, h2, h3, h4⟩ := for_ex (M := Int32 × (Nat → Int32)) (fun b x => ev (d + 6) 208 109 [.ref 46, .int (nI an), .int bt, .int (nI k), .int x.1, .int (nI a), .int b] [] (S sl p (row I 60 x.2) J)) n
    (fun b x => Fl n (fun i j => nb (dat I) i j ≤ an) bt k g l0 x.2 ∧ x.2 a = nI g ∧ (∀ j, x.2 j = -1 → lp j = -1) ∧ ((x.1 = 0 ∧ x.2 = lp ∧ (∀ a', a' < a → lp a' = nI g → ∀ b', b' < n → ¬ nI b' = bt → lp b' = -1 → ¬ nb (dat I) a' b' ≤ an) ∧ ∀ b', b' < b → ¬ nI b' = bt → lp b' = -1 → ¬ nb (dat I) a b' ≤ an) ∨ (x.1 = 1 ∧ ∃ j, j < n ∧ lp j = -1 ∧ ¬ x.2 j = -1)))
    (by
      rintro b ⟨mo, l⟩ hbn ⟨h1, h2, h3, h4⟩
      simp only at h1 h2 h3 h4 ⊢
      have hd : dat (row I 60 l) = dat I := dat_row (by omega) (by omega)
      rw [E208_109, row_n (by omega), hI, if_pos (lt_n hbn (by omega)), nI_1]
      by_cases c1 : nI b = bt
      · refine ⟨(mo, l), by rw [if_pos c1], h1, h2, h3, ?_⟩
        rcases h4 with ⟨q1, q2, q3, q4⟩ | q
        · refine Or.inl ⟨q1, q2, q3, fun b' hb' w1 w2 => ?_⟩
          rcases Nat.lt_or_ge b' b with w | w
          · exact q4 b' w w1 w2
          · have : b' = b := by omega
            exact absurd (this ▸ c1) w1
        · exact Or.inr q
      · rw [if_neg c1, ck_if (ixb_n (by omega) (by decide)), cl_n (by omega), row_s]
        by_cases c2 : l b = -1
        · rw [if_pos c2, sp_areNearM (by omega) (by omega) han (by rw [hd]; exact hb a ha) (by rw [hd]; exact hb b hbn), evK_s, E208_144, hd]
          by_cases c3 : nb (dat I) a b ≤ an
          · rw [if_pos c3, if_neg (by decide), ck_if (ixb_n (by omega) (by decide)), cl_n (by omega), row_n (by omega), hg, row_up, nI_1]
            have hab : b ≠ a := fun q => by rw [q, h2] at c2; exact hgm c2
            obtain ⟨w1, w2⟩ := hA l h1 h2
            refine ⟨(1, up1 l b (nI g)), rfl, ?_, (up1_n (Ne.symm hab)).trans h2, ?_, Or.inr ⟨rfl, b, hbn, h3 b c2, fun q => hgm (up1_s.symm.trans q)⟩⟩
            · intro j
              by_cases ej : j = b
              · subst ej
                refine Or.inr ⟨?_, up1_s, hbn, c1, w2.tr (Con.one ha hbn w1 c1 c3)⟩
                rcases h1 j with q | q
                · rw [← q, c2]
                · exact q.1
              · simp only [up1_n ej]; exact h1 j
            · intro j hj
              by_cases ej : j = b
              · subst ej; exact h3 j c2
              · exact h3 j ((up1_n ej).symm.trans hj)
          · rw [if_neg c3, if_pos rfl, nI_1]
            refine ⟨(mo, l), rfl, h1, h2, h3, ?_⟩
            rcases h4 with ⟨q1, q2, q3, q4⟩ | q
            · refine Or.inl ⟨q1, q2, q3, fun b' hb' w1 w2 => ?_⟩
              rcases Nat.lt_or_ge b' b with w | w
              · exact q4 b' w w1 w2
              · have : b' = b := by omega
                exact this ▸ c3
            · exact Or.inr q
        · refine ⟨(mo, l), by rw [if_neg c2], h1, h2, h3, ?_⟩
          rcases h4 with ⟨q1, q2, q3, q4⟩ | q
          · refine Or.inl ⟨q1, q2, q3, fun b' hb' w1 w2 => ?_⟩
            rcases Nat.lt_or_ge b' b with w | w
            · exact q4 b' w w1 w2
            · have : b' = b := by omega
              exact absurd (by rw [q2, ← this]; exact w2) c2
          · exact Or.inr q)
    (mo, l) ⟨hf, hla, hm, by
      rcases hx with ⟨q1, q2, q3⟩ | q
      · exact Or.inl ⟨q1, q2, q3, fun _ h => absurd h (Nat.not_lt_zero _)⟩
      · exact Or.inr q⟩
  refine ⟨mo', l', ?_, h1, h3, ?_⟩
  · refine e.trans ?_
    simp only
    rw [E208_109, row_n (by omega), hI, if_neg (nlt_n (by omega))]
  · rcases h4 with ⟨q1, q2, q3, q4⟩ | q
    · refine Or.inl ⟨q1, q2, fun a' ha' w1 b' hb' w2 w3 => ?_⟩
      rcases Nat.lt_or_ge a' a with w | w
      · exact q3 a' w w1 b' hb' w2 w3
      · have : a' = a := by omega
        exact this ▸ q4 b' hb' w2 w3
    · exact Or.inr q
/-- one pass -/
theorem lays_a {n g an k : Nat} {bt : Int32} {l0 lp : Nat → Int32} (hn : n ≤ 60) (hI : I 46 2 = nI n) (hg : I 46 30 = nI g) (hgk : g ≤ k) (hkn : k < n) (han : an ≤ 90) (hb : ∀ i, i < n → bv (pv (dat I) i)) (h0 : ∀ j, j < n → l0 j = -1 ∨ ∃ c, c < g ∧ l0 j = nI c)
    (hf : Fl n (fun i j => nb (dat I) i j ≤ an) bt k g l0 lp) :
    ∃ mo' l', ev (d + 6) 208 80 [.ref 46, .int (nI an), .int bt, .int (nI k), .int 0, .int 0, .retAddr 0] [] (S sl p (row I 60 lp) J) = ev (d + 6) 208 69 [.ref 46, .int (nI an), .int bt, .int (nI k), .int mo', .retAddr 0, .retAddr 0] [] (S sl p (row I 60 l') J) ∧ Fl n (fun i j => nb (dat I) i j ≤ an) bt k g l0 l' ∧ (∀ j, l' j = -1 → lp j = -1) ∧ ((mo' = 0 ∧ l' = lp ∧ ∀ a', a' < n → lp a' = nI g → ∀ b', b' < n → ¬ nI b' = bt → lp b' = -1 → ¬ nb (dat I) a' b' ≤ an) ∨ (mo' = 1 ∧ ∃ j, j < n ∧ lp j = -1 ∧ ¬ l' j = -1)) := by
  obtain ⟨⟨mo', l'⟩, e, h1, h3, h4⟩ := for_ex (M := Int32 × (Nat → Int32)) (fun a x => ev (d + 6) 208 80 [.ref 46, .int (nI an), .int bt, .int (nI k), .int x.1, .int a, .retAddr 0] [] (S sl p (row I 60 x.2) J)) n
    (fun a x => Fl n (fun i j => nb (dat I) i j ≤ an) bt k g l0 x.2 ∧ (∀ j, x.2 j = -1 → lp j = -1) ∧ ((x.1 = 0 ∧ x.2 = lp ∧ (∀ a', a' < a → lp a' = nI g → ∀ b', b' < n → ¬ nI b' = bt → lp b' = -1 → ¬ nb (dat I) a' b' ≤ an)) ∨ (x.1 = 1 ∧ ∃ j, j < n ∧ lp j = -1 ∧ ¬ x.2 j = -1)))
    (by
      rintro a ⟨mo, l⟩ ha ⟨h1, h3, h4⟩
      simp only at h1 h3 h4 ⊢
      rw [E208_80, row_n (by omega), hI, if_pos (lt_n ha (by omega)), ck_if (ixb_n (by omega) (by decide)), cl_n (by omega), row_s, row_n (by omega), hg]
      by_cases c1 : l a = nI g
      · rw [if_pos c1]
        obtain ⟨mo', l', e, h5⟩ := lays_b (d := d) (sl := sl) (p := p) (J := J) hn hI hg hgk hkn han hb h0 ha mo l h1 c1 h3 h4
        exact ⟨(mo', l'), by rw [e, nI_1], h5⟩
      · rw [if_neg c1, nI_1]
        refine ⟨(mo, l), rfl, h1, h3, ?_⟩
        rcases h4 with ⟨q1, q2, q3⟩ | q
        · refine Or.inl ⟨q1, q2, fun a' ha' w1 => ?_⟩
          rcases Nat.lt_or_ge a' a with w | w
          · exact q3 a' w w1
          · have : a' = a := by omega
            exact absurd (by rw [q2, ← this]; exact w1) c1
        · exact Or.inr q)
    (0, lp) ⟨hf, fun _ h => h, Or.inl ⟨rfl, rfl, fun _ h => absurd h (Nat.not_lt_zero _)⟩⟩
  refine ⟨mo', l', ?_, h1, h3, h4⟩
  refine e.trans ?_
  simp only
  rw [E208_80, row_n (by omega), hI, if_neg (nlt_n (by omega))]
/-- until nothing more is met -/
theorem lays_w {n g an k : Nat} {bt : Int32} {l0 : Nat → Int32} (hn : n ≤ 60) (hI : I 46 2 = nI n) (hg : I 46 30 = nI g) (hgk : g ≤ k) (hkn : k < n) (han : an ≤ 90) (hb : ∀ i, i < n → bv (pv (dat I) i)) (h0 : ∀ j, j < n → l0 j = -1 ∨ ∃ c, c < g ∧ l0 j = nI c) :
    ∀ u lp, cnt (fun j => decide (lp j = -1)) n < u → Fl n (fun i j => nb (dat I) i j ≤ an) bt k g l0 lp →
    ∃ l', ev (d + 6) 208 69 [.ref 46, .int (nI an), .int bt, .int (nI k), .int 1, .retAddr 0, .retAddr 0] [] (S sl p (row I 60 lp) J) = ev (d + 6) 208 30 [.ref 46, .int (nI an), .int bt, .int (nI (k + 1)), .retAddr 0, .retAddr 0, .retAddr 0] [] (S sl p (row (up2 I 46 30 (nI (g + 1))) 60 l') J) ∧ Fl n (fun i j => nb (dat I) i j ≤ an) bt k g l0 l' ∧ (∀ j, l' j = -1 → lp j = -1) ∧ ∀ a', a' < n → l' a' = nI g → ∀ b', b' < n → ¬ nI b' = bt → l' b' = -1 → ¬ nb (dat I) a' b' ≤ an := by
  intro u
  induction u with
  | zero => intro _ h; exact absurd h (Nat.not_lt_zero _)
  | succ u ih =>
    intro lp hu hf
    obtain ⟨mo', l', e, h1, h2, h3⟩ := lays_a (d := d) (sl := sl) (p := p) (J := J) hn hI hg hgk hkn han hb h0 hf
    rw [E208_69, if_neg (by decide), e]
    rcases h3 with ⟨q1, q2, q3⟩ | ⟨q1, j, q2, q3, q4⟩
    · refine ⟨l', ?_, h1, h2, by rw [q2]; exact q3⟩
      rw [q1, E208_69, if_pos rfl, nI_1, row_n (by omega), hg, nI_1, row_un (by omega)]
    · rw [q1]
      obtain ⟨l'', e2, g1, g2, g3⟩ := ih l' (by
        have := cnt_lt (P := fun j => decide (l' j = -1)) (Q := fun j => decide (lp j = -1)) n (fun i _ w => by simpa using h2 i (by simpa using w)) ⟨j, q2, by simpa using q3, by simpa using q4⟩
        omega) h1
      exact ⟨l'', e2, g1, fun j hj => h2 j (g2 j hj), g3⟩
end LAYS
