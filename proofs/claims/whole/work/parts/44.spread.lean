/-! the class's HEAPS -/
theorem cnt_up {P Q : Nat → Bool} {b : Nat} : ∀ n, b < n → P b = false → Q b = true → (∀ j, j ≠ b → P j = Q j) → cnt Q n = cnt P n + 1
  | 0, h, _, _, _ => absurd h (Nat.not_lt_zero _)
  | n + 1, h, hp, hq, he => by
    show cnt Q n + (if Q n then 1 else 0) = cnt P n + (if P n then 1 else 0) + 1
    by_cases e : n = b
    · subst e
      rw [hp, hq, cnt_c n (fun j hj => (he j (by omega)).symm)]
      rfl
    · rw [cnt_up n (by omega) hp hq he, he n e]
      omega
/-- the queue and the labels as cracks are met -/
def SpI (n : Nat) (A : Nat → Nat → Prop) (bt : Int32) (k g : Nat) (l0 : Nat → Int32) (f : Nat) (l q : Nat → Int32) : Prop :=
  Fl n A bt k g l0 l ∧ f = cnt (fun j => decide (l j = nI g)) n ∧ (∀ t, t < f → ∃ j, j < n ∧ q t = nI j ∧ l j = nI g) ∧ ∀ j, j < n → l j = nI g → ∃ t, t < f ∧ q t = nI j
def SpC (n : Nat) (A : Nat → Nat → Prop) (bt : Int32) (x : Nat) (l q : Nat → Int32) : Prop := ∀ t, t < x → ∀ a, a < n → q t = nI a → ∀ b, b < n → ¬ nI b = bt → l b = -1 → ¬ A a b
section SPR
variable {d sl : Nat} {p : Nat → Nat} {I : Nat → Nat → Int32} {J : Nat → Nat → Int64} {D : Nat → Nat → Int32}
theorem SV_row {a : Nat} {l : Nat → Int32} (ha : a = 15 ∨ a = 16 ∨ a = 17 ∨ a = 18 ∨ a = 19 ∨ a = 12 ∨ a = 20 ∨ a = 21) (h : SV p I J D) : SV p (row I a l) J D := by
  refine ⟨h.gd, fun k hk => by rw [row_n (by omega)]; exact h.sn k hk, h.p60, h.pij, by rw [row_n (by omega)]; exact h.lines, by rw [row_n (by omega)]; exact h.count, by rw [row_n (by omega)]; exact h.cap, fun l hl => ?_, fun j hj => by rw [row_n (by omega)]; exact h.slot j hj, fun i hi => ?_, h.pole, fun i j hi hj => by rw [row_n (by omega)]; exact h.ang i j hi hj, by rw [row_n (by omega)]; exact h.link, by rw [row_n (by omega)]; exact h.least⟩
  · rw [row_n (by omega), row_n (by omega), row_n (by omega)]
    exact h.tr l hl
  · rw [row_n (by omega), row_n (by omega), row_n (by omega), row_n (by omega), row_n (by omega), row_n (by omega), row_n (by omega)]
    exact h.ck i hi
/-- the turn over i -/
theorem spread_i (h : SV p I J D) {an k g x a : Nat} {bt st : Int32} {l0 : Nat → Int32} (hgn : g < 60) (h0 : ∀ j, j < nc D → l0 j = -1 ∨ ∃ c, c < g ∧ l0 j = nI c) (han : an ≤ 90) (ha : a < nc D) (f : Nat) (l q : Nat → Int32) (hx : x < f) (hqx : q x = nI a) (hI : SpI (nc D) (nearA D an) bt k g l0 f l q) (hC : SpC (nc D) (nearA D an) bt x l q) :
    ∃ f' l' q', ev (d + 1) 88 37 [.ref 11, .int st, .int (nI g), .int (nI an), .int bt, .int (nI f), .int (nI x), .int 0, .retAddr 0] [] (S sl p (row (row I 15 l) 18 q) J) = ev (d + 1) 88 20 [.ref 11, .int st, .int (nI g), .int (nI an), .int bt, .int (nI f'), .int (nI (x + 1)), .retAddr 0, .retAddr 0] [] (S sl p (row (row I 15 l') 18 q') J) ∧ SpI (nc D) (nearA D an) bt k g l0 f' l' q' ∧ SpC (nc D) (nearA D an) bt (x + 1) l' q' ∧ x + 1 ≤ f' ∧ (∀ j, l' j = -1 → l j = -1) := by
  have n60 := h.gd.n60
  have hgm : ¬ nI g = -1 := nI_m1 (by omega)
  obtain ⟨⟨f', l', q'⟩, e, h1, h2, h3, h4, h5, h6⟩ := for_ex (M := Nat × (Nat → Int32) × (Nat → Int32)) (fun b y => ev (d + 1) 88 37 [.ref 11, .int st, .int (nI g), .int (nI an), .int bt, .int (nI y.1), .int (nI x), .int b, .retAddr 0] [] (S sl p (row (row I 15 y.2.1) 18 y.2.2) J)) (nc D)
    (fun b y => SpI (nc D) (nearA D an) bt k g l0 y.1 y.2.1 y.2.2 ∧ SpC (nc D) (nearA D an) bt x y.2.1 y.2.2 ∧ x < y.1 ∧ y.2.2 x = nI a ∧ (∀ j, y.2.1 j = -1 → l j = -1) ∧ ∀ b', b' < b → ¬ nI b' = bt → y.2.1 b' = -1 → ¬ nb D a b' ≤ an)
    (by
      rintro b ⟨f, l1, q⟩ hb ⟨g1, g2, g3, g4, g5, g6⟩
      simp only at g1 g2 g3 g4 g5 g6 ⊢
      obtain ⟨i1, i2, i3, i4⟩ := g1
      have hf60 : f ≤ nc D := by rw [i2]; exact cnt_le _
      have skip : (¬ nI b = bt → l1 b = -1 → ¬ nb D a b ≤ an) → ∀ b', b' < b + 1 → ¬ nI b' = bt → l1 b' = -1 → ¬ nb D a b' ≤ an := by
        intro w b' hb' w1 w2
        rcases Nat.lt_or_ge b' b with z | z
        · exact g6 b' z w1 w2
        · have : b' = b := by omega
          subst this
          exact w w1 w2
      rw [E88_37, row_n (by omega), row_n (by omega), h.count, if_pos (lt_n hb (by omega)), ck_if (ixb_n (by omega) (by decide)), cl_n (by omega), row_n (by omega), row_s]
      by_cases c1 : l1 b = -1
      · rw [if_pos c1]
        by_cases c2 : nI b = bt
        · rw [if_pos c2, E88_78, E88_79, if_pos rfl, nI_1]
          exact ⟨(f, l1, q), rfl, ⟨i1, i2, i3, i4⟩, g2, g3, g4, g5, skip (fun w => absurd c2 w)⟩
        · have hlt : f < nc D := by
            rw [i2]
            have := cnt_lt (P := fun j => decide (l1 j = nI g)) (Q := fun _ => true) (nc D) (fun _ _ _ => rfl) ⟨b, hb, rfl, by simp [c1]; exact fun w => hgm w.symm⟩
            have := cnt_le (P := fun _ => true) (nc D)
            omega
          rw [if_neg c2, if_pos (show nI f < 60 from lt_n (n := 60) (by omega) (by decide)), E88_79, if_neg (by decide), ck_if (ixb_n (by omega) (by decide)), cl_n (by omega), row_s, g4, sp_angC (SV_row (by omega) (SV_row (by omega) h)) ha hb, evK_s, E88_102, nI_1]
          have b90 := nb_90 h.gd ha hb
          by_cases c3 : nb D a b ≤ an
          · rw [if_pos ((nI_le_iff (by omega) (by omega)).mpr c3), ck_if (ixb_n (by omega) (by decide)), ck_if (ixb_n (by omega) (by decide)), cl_n (by omega), cl_n (by omega), row_un (by omega), row_up, row_up, nI_1]
            have hla : l1 a = nI g := by
              obtain ⟨j, j1, j2, j3⟩ := i3 x g3
              rw [g4] at j2
              rw [nI_ij (by omega) (by omega) j2]
              exact j3
            have hA : ¬ nI a = bt ∧ Con (nc D) (nearA D an) bt k a := by
              rcases i1 a with w | w
              · rw [hla] at w
                rcases h0 a ha with z | ⟨c, hc, z⟩
                · rw [z] at w; exact absurd w hgm
                · rw [z] at w
                  have := nI_ij (by omega) (by omega) w
                  omega
              · exact ⟨w.2.2.2.1, w.2.2.2.2⟩
            have nb1 : ∀ j, up1 l1 b (nI g) j = -1 → j ≠ b ∧ l1 j = -1 := by
              intro j w
              have hj : j ≠ b := fun z => by rw [z, up1_s] at w; exact hgm w
              rw [up1_n hj] at w
              exact ⟨hj, w⟩
            refine ⟨(f + 1, up1 l1 b (nI g), up1 q f (nI b)), rfl, ⟨?_, ?_, ?_, ?_⟩, ?_, by simp only; omega, ?_, ?_, ?_⟩
            · intro j
              by_cases ej : j = b
              · subst ej
                refine Or.inr ⟨?_, up1_s, hb, c2, hA.2.tr (Con.one ha hb hA.1 c2 c3)⟩
                rcases i1 j with w | w
                · rw [← w, c1]
                · exact w.1
              · simp only [up1_n ej]; exact i1 j
            · simp only
              rw [i2]
              exact (cnt_up (nc D) hb (by simp [c1]; exact fun w => hgm w.symm) (by simp [up1_s]) (fun j hj => by simp only [up1_n hj])).symm
            · intro t ht
              by_cases et : t = f
              · exact ⟨b, hb, by rw [et]; exact up1_s, up1_s⟩
              · obtain ⟨j, j1, j2, j3⟩ := i3 t (by simp only at ht; omega)
                refine ⟨j, j1, (up1_n et).trans j2, ?_⟩
                by_cases ej : j = b
                · rw [ej]; exact up1_s
                · exact (up1_n ej).trans j3
            · intro j hj w
              by_cases ej : j = b
              · exact ⟨f, by simp only; omega, by rw [ej]; exact up1_s⟩
              · obtain ⟨t, t1, t2⟩ := i4 j hj ((up1_n ej).symm.trans w)
                exact ⟨t, by simp only; omega, (up1_n (by omega)).trans t2⟩
            · intro t ht a' ha' hq b' hb' w1 w2
              exact g2 t ht a' ha' ((up1_n (show t ≠ f by omega)).symm.trans hq) b' hb' w1 (nb1 b' w2).2
            · exact (up1_n (show x ≠ f by omega)).trans g4
            · intro j w
              exact g5 j (nb1 j w).2
            · intro b' hb' w1 w2
              have z := nb1 b' w2
              exact g6 b' (by omega) w1 z.2
          · rw [if_neg (fun w => c3 ((nI_le_iff (by omega) (by omega)).mp w)), nI_1]
            exact ⟨(f, l1, q), rfl, ⟨i1, i2, i3, i4⟩, g2, g3, g4, g5, skip (fun _ _ => c3)⟩
      · rw [if_neg c1, E88_78, E88_79, if_pos rfl, nI_1]
        exact ⟨(f, l1, q), rfl, ⟨i1, i2, i3, i4⟩, g2, g3, g4, g5, skip (fun _ w => absurd w c1)⟩)
    (f, l, q) ⟨hI, hC, hx, hqx, fun _ w => w, fun _ w => absurd w (Nat.not_lt_zero _)⟩
  simp only at h1 h2 h3 h4 h5 h6
  refine ⟨f', l', q', ?_, h1, ?_, by omega, h5⟩
  · refine e.trans ?_
    simp only
    rw [E88_37, row_n (by omega), row_n (by omega), h.count, if_neg (nlt_n (by omega)), nI_1]
  · intro t ht a' ha' hq b hb w1 w2
    rcases Nat.lt_or_ge t x with z | z
    · exact h2 t z a' ha' hq b hb w1 w2
    · have : t = x := by omega
      subst this
      rw [h4] at hq
      have := nI_ij (by omega) (by omega) hq
      subst this
      exact h6 b hb w1 w2
end SPR
