section SPR
variable {d sl : Nat} {p : Nat → Nat} {I : Nat → Nat → Int32} {J : Nat → Nat → Int64} {D : Nat → Nat → Int32}
theorem spread_x (h : SV p I J D) {an k g : Nat} {bt st : Int32} {l0 : Nat → Int32} (hgn : g < 60) (h0 : ∀ j, j < nc D → l0 j = -1 ∨ ∃ c, c < g ∧ l0 j = nI c) (han : an ≤ 90) : ∀ u f x l q, nc D < u + x → x ≤ f → SpI (nc D) (nearA D an) bt k g l0 f l q → SpC (nc D) (nearA D an) bt x l q →
    ∃ f' l' q', ev (d + 1) 88 20 [.ref 11, .int st, .int (nI g), .int (nI an), .int bt, .int (nI f), .int (nI x), .retAddr 0, .retAddr 0] [] (S sl p (row (row I 15 l) 18 q) J) = some (some (.int (nI f')), S sl p (row (row I 15 l') 18 q') J) ∧ SpI (nc D) (nearA D an) bt k g l0 f' l' q' ∧ SpC (nc D) (nearA D an) bt f' l' q' ∧ (∀ j, l' j = -1 → l j = -1) := by
  have n60 := h.gd.n60
  intro u
  induction u with
  | zero =>
    intro f x l q hu hx hI _
    have : f ≤ nc D := by rw [hI.2.1]; exact cnt_le _
    omega
  | succ u ih =>
    intro f x l q hu hx hI hC
    have hf : f ≤ nc D := by rw [hI.2.1]; exact cnt_le _
    rw [E88_20]
    by_cases c : x < f
    · rw [if_pos (lt_n c (by omega)), if_pos (show nI x < 60 from lt_n (n := 60) (by omega) (by decide))]
      obtain ⟨a, a1, a2, a3⟩ := hI.2.2.1 x c
      obtain ⟨f', l', q', e, b1, b2, b3, b4⟩ := spread_i (d := d) (sl := sl) (st := st) h hgn h0 han a1 f l q c a2 hI hC
      obtain ⟨f'', l'', q'', e2, d1, d2, d3⟩ := ih f' (x + 1) l' q' (by omega) b3 b1 b2
      exact ⟨f'', l'', q'', e.trans e2, d1, d2, fun j w => b4 j (d3 j w)⟩
    · have : x = f := by omega
      subst this
      rw [if_neg (nlt_n (by omega))]
      exact ⟨x, l, q, rfl, hI, hC, fun _ w => w⟩
theorem row2 {s v w : Nat → Int32} {x y : Int32} {a b : Nat} : up2 (up2 I 15 a x) 18 b y = row (row I 15 (up1 (I 15) a x)) 18 (up1 (I 18) b y) := by
  have e1 : up2 I 15 a x = row I 15 (up1 (I 15) a x) := by
    have := row_up (I := I) (a := 15) (l := I 15) (k := a) (v := x)
    rw [row_id] at this
    exact this
  have e2 : row I 15 (up1 (I 15) a x) 18 = I 18 := by
    funext k
    exact row_n (by omega)
  have := row_up (I := row I 15 (up1 (I 15) a x)) (a := 18) (l := I 18) (k := b) (v := y)
  rw [e1, ← this, ← e2, row_id]
theorem sp_spread (h : SV p I J D) {an k g : Nat} {bt : Int32} (hgn : g < 60) (h0 : ∀ j, j < nc D → I 15 j = -1 ∨ ∃ c, c < g ∧ I 15 j = nI c) (han : an ≤ 90) (hk : k < nc D) (hkb : ¬ nI k = bt) (hk0 : I 15 k = -1) :
    ∃ l q, den (d + 1) 88 [.ref 11, .int (nI k), .int (nI g), .int (nI an), .int bt] (S sl p I J) = some (some (.int (nI (cnt (fun j => decide (l j = nI g)) (nc D)))), S sl p (row (row I 15 l) 18 q) J) ∧ Fl (nc D) (nearA D an) bt k g (I 15) l ∧ l k = nI g ∧ ∀ a, a < nc D → l a = nI g → ∀ b, b < nc D → ¬ nI b = bt → l b = -1 → ¬ nearA D an a b := by
  have n60 := h.gd.n60
  have hgm : ¬ nI g = -1 := nI_m1 (by omega)
  have nog : ∀ j, j < nc D → ¬ I 15 j = nI g := by
    intro j hj w
    rcases h0 j hj with z | ⟨c, hc, z⟩
    · rw [z] at w; exact hgm w.symm
    · rw [z] at w
      have := nI_ij (by omega) (by omega) w
      omega
  have hI : SpI (nc D) (nearA D an) bt k g (I 15) 1 (up1 (I 15) k (nI g)) (up1 (I 18) 0 (nI k)) := by
    refine ⟨?_, ?_, ?_, ?_⟩
    · intro j
      by_cases e : j = k
      · subst e; exact Or.inr ⟨hk0, up1_s, hk, hkb, Con.rf j⟩
      · exact Or.inl (up1_n e)
    · have := cnt_up (P := fun j => decide (I 15 j = nI g)) (Q := fun j => decide (up1 (I 15) k (nI g) j = nI g)) (b := k) (nc D) hk (decide_eq_false (nog k hk)) (decide_eq_true up1_s) (fun j hj => by simp only [up1_n hj])
      rw [this, cnt_0 (nc D) (fun j hj => by simpa using nog j hj)]
    · intro t ht
      have : t = 0 := by omega
      subst this
      exact ⟨k, hk, up1_s, up1_s⟩
    · intro j hj w
      by_cases e : j = k
      · exact ⟨0, by omega, by rw [e]; exact up1_s⟩
      · exact absurd ((up1_n e).symm.trans w) (nog j hj)
  obtain ⟨f, l, q, e, b1, b2, b3⟩ := spread_x (d := d) (sl := sl) (st := nI k) h hgn h0 han (nc D + 1) 1 0 _ _ (by omega) (by omega) hI (fun _ w => absurd w (Nat.not_lt_zero _))
  refine ⟨l, q, ?_, b1.1, ?_, ?_⟩
  · rw [E88_0, ck_if (ixb_n (by omega) (by decide)), cl_n (by omega), row2 (s := I 15) (v := I 15) (w := I 15), ← b1.2.1]
    exact e
  · rcases b1.1 k with w | w
    · rw [hk0] at w
      have := b3 k w
      rw [up1_s] at this
      exact absurd this hgm
    · exact w.2.1
  · intro a ha w b hb w1 w2
    obtain ⟨t, t1, t2⟩ := b1.2.2.2 a ha w
    exact b2 t t1 a ha t2 b hb w1 w2
end SPR
