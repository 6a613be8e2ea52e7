/-! the law runs through -/
section LOP
variable {d sl : Nat} {p : Nat → Nat} {I : Nat → Nat → Int32} {J : Nat → Nat → Int64} {e : Nat} {i : Int32}
theorem LC_all (a : Int32) (hx : ∀ c : Nat, c < 7 → ixb sl (i + nI c) = true) (he : e < 1000) (c : CK p I J (dat I) e) (hq : I 1 8 = I 46 0) : ∃ p' I' J' e', e' ≤ e + 1 ∧ CK p' I' J' (dat I') e' ∧ I' 1 8 = I' 46 0 ∧ ev (d + 41) 309 33 [.ref 0, .ref 1, .ref 46, .int i] [.int a] (S sl p I J) = ev (d + 41) 309 1763 [.ref 0, .ref 1, .ref 46, .int i] [] (S sl p' I' J') := by
  by_cases h0 : a = 0
  · subst h0
    obtain ⟨p', I', J', e', h1, h2, h3, h4⟩ := LC_0 (d := d) hx he c hq
    exact ⟨p', I', J', e', h1, h2, h3, (sw_0 (sl := sl)).trans h4⟩
  by_cases h1 : a = 1
  · subst h1
    obtain ⟨p', I', J', e', h1, h2, h3, h4⟩ := LC_1 (d := d) hx he c hq
    exact ⟨p', I', J', e', h1, h2, h3, (sw_1 (sl := sl)).trans h4⟩
  by_cases h2 : a = 2
  · subst h2
    obtain ⟨p', I', J', e', h1, h2, h3, h4⟩ := LC_2 (d := d) hx he c hq
    exact ⟨p', I', J', e', h1, h2, h3, (sw_2 (sl := sl)).trans h4⟩
  by_cases h3 : a = 3
  · subst h3
    obtain ⟨p', I', J', e', h1, h2, h3, h4⟩ := LC_3 (d := d) hx he c hq
    exact ⟨p', I', J', e', h1, h2, h3, (sw_3 (sl := sl)).trans h4⟩
  by_cases h4 : a = 4
  · subst h4
    obtain ⟨p', I', J', e', h1, h2, h3, h4⟩ := LC_4 (d := d) hx he c hq
    exact ⟨p', I', J', e', h1, h2, h3, (sw_4 (sl := sl)).trans h4⟩
  by_cases h5 : a = 5
  · subst h5
    obtain ⟨p', I', J', e', h1, h2, h3, h4⟩ := LC_5 (d := d) hx he c hq
    exact ⟨p', I', J', e', h1, h2, h3, (sw_5 (sl := sl)).trans h4⟩
  by_cases h6 : a = 6
  · subst h6
    obtain ⟨p', I', J', e', h1, h2, h3, h4⟩ := LC_6 (d := d) hx he c hq
    exact ⟨p', I', J', e', h1, h2, h3, (sw_6 (sl := sl)).trans h4⟩
  by_cases h7 : a = 7
  · subst h7
    obtain ⟨p', I', J', e', h1, h2, h3, h4⟩ := LC_7 (d := d) hx he c hq
    exact ⟨p', I', J', e', h1, h2, h3, (sw_7 (sl := sl)).trans h4⟩
  by_cases h8 : a = 8
  · subst h8
    obtain ⟨p', I', J', e', h1, h2, h3, h4⟩ := LC_8 (d := d) hx he c hq
    exact ⟨p', I', J', e', h1, h2, h3, (sw_8 (sl := sl)).trans h4⟩
  by_cases h9 : a = 9
  · subst h9
    obtain ⟨p', I', J', e', h1, h2, h3, h4⟩ := LC_9 (d := d) hx he c hq
    exact ⟨p', I', J', e', h1, h2, h3, (sw_9 (sl := sl)).trans h4⟩
  by_cases h10 : a = 10
  · subst h10
    obtain ⟨p', I', J', e', h1, h2, h3, h4⟩ := LC_10 (d := d) hx he c hq
    exact ⟨p', I', J', e', h1, h2, h3, (sw_10 (sl := sl)).trans h4⟩
  by_cases h11 : a = 11
  · subst h11
    obtain ⟨p', I', J', e', h1, h2, h3, h4⟩ := LC_11 (d := d) hx he c hq
    exact ⟨p', I', J', e', h1, h2, h3, (sw_11 (sl := sl)).trans h4⟩
  by_cases h12 : a = 12
  · subst h12
    obtain ⟨p', I', J', e', h1, h2, h3, h4⟩ := LC_12 (d := d) hx he c hq
    exact ⟨p', I', J', e', h1, h2, h3, (sw_12 (sl := sl)).trans h4⟩
  by_cases h13 : a = 13
  · subst h13
    obtain ⟨p', I', J', e', h1, h2, h3, h4⟩ := LC_13 (d := d) hx he c hq
    exact ⟨p', I', J', e', h1, h2, h3, (sw_13 (sl := sl)).trans h4⟩
  by_cases h14 : a = 14
  · subst h14
    obtain ⟨p', I', J', e', h1, h2, h3, h4⟩ := LC_14 (d := d) hx he c hq
    exact ⟨p', I', J', e', h1, h2, h3, (sw_14 (sl := sl)).trans h4⟩
  by_cases h15 : a = 15
  · subst h15
    obtain ⟨p', I', J', e', h1, h2, h3, h4⟩ := LC_15 (d := d) hx he c hq
    exact ⟨p', I', J', e', h1, h2, h3, (sw_15 (sl := sl)).trans h4⟩
  by_cases h16 : a = 16
  · subst h16
    obtain ⟨p', I', J', e', h1, h2, h3, h4⟩ := LC_16 (d := d) hx he c hq
    exact ⟨p', I', J', e', h1, h2, h3, (sw_16 (sl := sl)).trans h4⟩
  by_cases h17 : a = 17
  · subst h17
    obtain ⟨p', I', J', e', h1, h2, h3, h4⟩ := LC_17 (d := d) hx he c hq
    exact ⟨p', I', J', e', h1, h2, h3, (sw_17 (sl := sl)).trans h4⟩
  by_cases h18 : a = 18
  · subst h18
    obtain ⟨p', I', J', e', h1, h2, h3, h4⟩ := LC_18 (d := d) hx he c hq
    exact ⟨p', I', J', e', h1, h2, h3, (sw_18 (sl := sl)).trans h4⟩
  by_cases h19 : a = 19
  · subst h19
    obtain ⟨p', I', J', e', h1, h2, h3, h4⟩ := LC_19 (d := d) hx he c hq
    exact ⟨p', I', J', e', h1, h2, h3, (sw_19 (sl := sl)).trans h4⟩
  by_cases h20 : a = 20
  · subst h20
    obtain ⟨p', I', J', e', h1, h2, h3, h4⟩ := LC_20 (d := d) hx he c hq
    exact ⟨p', I', J', e', h1, h2, h3, (sw_20 (sl := sl)).trans h4⟩
  by_cases h21 : a = 21
  · subst h21
    obtain ⟨p', I', J', e', h1, h2, h3, h4⟩ := LC_21 (d := d) hx he c hq
    exact ⟨p', I', J', e', h1, h2, h3, (sw_21 (sl := sl)).trans h4⟩
  by_cases h22 : a = 22
  · subst h22
    obtain ⟨p', I', J', e', h1, h2, h3, h4⟩ := LC_22 (d := d) hx he c hq
    exact ⟨p', I', J', e', h1, h2, h3, (sw_22 (sl := sl)).trans h4⟩
  by_cases h23 : a = 23
  · subst h23
    obtain ⟨p', I', J', e', h1, h2, h3, h4⟩ := LC_23 (d := d) hx he c hq
    exact ⟨p', I', J', e', h1, h2, h3, (sw_23 (sl := sl)).trans h4⟩
  by_cases h24 : a = 24
  · subst h24
    obtain ⟨p', I', J', e', h1, h2, h3, h4⟩ := LC_24 (d := d) hx he c hq
    exact ⟨p', I', J', e', h1, h2, h3, (sw_24 (sl := sl)).trans h4⟩
  by_cases h25 : a = 25
  · subst h25
    obtain ⟨p', I', J', e', h1, h2, h3, h4⟩ := LC_25 (d := d) hx he c hq
    exact ⟨p', I', J', e', h1, h2, h3, (sw_25 (sl := sl)).trans h4⟩
  by_cases h26 : a = 26
  · subst h26
    obtain ⟨p', I', J', e', h1, h2, h3, h4⟩ := LC_26 (d := d) hx he c hq
    exact ⟨p', I', J', e', h1, h2, h3, (sw_26 (sl := sl)).trans h4⟩
  by_cases h27 : a = 27
  · subst h27
    obtain ⟨p', I', J', e', h1, h2, h3, h4⟩ := LC_27 (d := d) hx he c hq
    exact ⟨p', I', J', e', h1, h2, h3, (sw_27 (sl := sl)).trans h4⟩
  by_cases h28 : a = 28
  · subst h28
    obtain ⟨p', I', J', e', h1, h2, h3, h4⟩ := LC_28 (d := d) hx he c hq
    exact ⟨p', I', J', e', h1, h2, h3, (sw_28 (sl := sl)).trans h4⟩
  by_cases h29 : a = 29
  · subst h29
    obtain ⟨p', I', J', e', h1, h2, h3, h4⟩ := LC_29 (d := d) hx he c hq
    exact ⟨p', I', J', e', h1, h2, h3, (sw_29 (sl := sl)).trans h4⟩
  by_cases h30 : a = 30
  · subst h30
    obtain ⟨p', I', J', e', h1, h2, h3, h4⟩ := LC_30 (d := d) hx he c hq
    exact ⟨p', I', J', e', h1, h2, h3, (sw_30 (sl := sl)).trans h4⟩
  by_cases h31 : a = 31
  · subst h31
    obtain ⟨p', I', J', e', h1, h2, h3, h4⟩ := LC_31 (d := d) hx he c hq
    exact ⟨p', I', J', e', h1, h2, h3, (sw_31 (sl := sl)).trans h4⟩
  by_cases h32 : a = 32
  · subst h32
    obtain ⟨p', I', J', e', h1, h2, h3, h4⟩ := LC_32 (d := d) hx he c hq
    exact ⟨p', I', J', e', h1, h2, h3, (sw_32 (sl := sl)).trans h4⟩
  by_cases h33 : a = 33
  · subst h33
    obtain ⟨p', I', J', e', h1, h2, h3, h4⟩ := LC_33 (d := d) hx he c hq
    exact ⟨p', I', J', e', h1, h2, h3, (sw_33 (sl := sl)).trans h4⟩
  by_cases h34 : a = 34
  · subst h34
    obtain ⟨p', I', J', e', h1, h2, h3, h4⟩ := LC_34 (d := d) hx he c hq
    exact ⟨p', I', J', e', h1, h2, h3, (sw_34 (sl := sl)).trans h4⟩
  by_cases h35 : a = 35
  · subst h35
    obtain ⟨p', I', J', e', h1, h2, h3, h4⟩ := LC_35 (d := d) hx he c hq
    exact ⟨p', I', J', e', h1, h2, h3, (sw_35 (sl := sl)).trans h4⟩
  by_cases h36 : a = 36
  · subst h36
    obtain ⟨p', I', J', e', h1, h2, h3, h4⟩ := LC_36 (d := d) hx he c hq
    exact ⟨p', I', J', e', h1, h2, h3, (sw_36 (sl := sl)).trans h4⟩
  by_cases h37 : a = 37
  · subst h37
    obtain ⟨p', I', J', e', h1, h2, h3, h4⟩ := LC_37 (d := d) hx he c hq
    exact ⟨p', I', J', e', h1, h2, h3, (sw_37 (sl := sl)).trans h4⟩
  by_cases h38 : a = 38
  · subst h38
    obtain ⟨p', I', J', e', h1, h2, h3, h4⟩ := LC_38 (d := d) hx he c hq
    exact ⟨p', I', J', e', h1, h2, h3, (sw_38 (sl := sl)).trans h4⟩
  by_cases h39 : a = 39
  · subst h39
    obtain ⟨p', I', J', e', h1, h2, h3, h4⟩ := LC_39 (d := d) hx he c hq
    exact ⟨p', I', J', e', h1, h2, h3, (sw_39 (sl := sl)).trans h4⟩
  by_cases h40 : a = 40
  · subst h40
    obtain ⟨p', I', J', e', h1, h2, h3, h4⟩ := LC_40 (d := d) hx he c hq
    exact ⟨p', I', J', e', h1, h2, h3, (sw_40 (sl := sl)).trans h4⟩
  by_cases h41 : a = 41
  · subst h41
    obtain ⟨p', I', J', e', h1, h2, h3, h4⟩ := LC_41 (d := d) hx he c hq
    exact ⟨p', I', J', e', h1, h2, h3, (sw_41 (sl := sl)).trans h4⟩
  by_cases h42 : a = 42
  · subst h42
    obtain ⟨p', I', J', e', h1, h2, h3, h4⟩ := LC_42 (d := d) hx he c hq
    exact ⟨p', I', J', e', h1, h2, h3, (sw_42 (sl := sl)).trans h4⟩
  by_cases h43 : a = 43
  · subst h43
    obtain ⟨p', I', J', e', h1, h2, h3, h4⟩ := LC_43 (d := d) hx he c hq
    exact ⟨p', I', J', e', h1, h2, h3, (sw_43 (sl := sl)).trans h4⟩
  by_cases h44 : a = 44
  · subst h44
    obtain ⟨p', I', J', e', h1, h2, h3, h4⟩ := LC_44 (d := d) hx he c hq
    exact ⟨p', I', J', e', h1, h2, h3, (sw_44 (sl := sl)).trans h4⟩
  have g0 : a.toInt ≠ 0 := fun q => h0 (Int32.toInt_inj.mp q)
  have g1 : a.toInt ≠ 1 := fun q => h1 (Int32.toInt_inj.mp q)
  have g2 : a.toInt ≠ 2 := fun q => h2 (Int32.toInt_inj.mp q)
  have g3 : a.toInt ≠ 3 := fun q => h3 (Int32.toInt_inj.mp q)
  have g4 : a.toInt ≠ 4 := fun q => h4 (Int32.toInt_inj.mp q)
  have g5 : a.toInt ≠ 5 := fun q => h5 (Int32.toInt_inj.mp q)
  have g6 : a.toInt ≠ 6 := fun q => h6 (Int32.toInt_inj.mp q)
  have g7 : a.toInt ≠ 7 := fun q => h7 (Int32.toInt_inj.mp q)
  have g8 : a.toInt ≠ 8 := fun q => h8 (Int32.toInt_inj.mp q)
  have g9 : a.toInt ≠ 9 := fun q => h9 (Int32.toInt_inj.mp q)
  have g10 : a.toInt ≠ 10 := fun q => h10 (Int32.toInt_inj.mp q)
  have g11 : a.toInt ≠ 11 := fun q => h11 (Int32.toInt_inj.mp q)
  have g12 : a.toInt ≠ 12 := fun q => h12 (Int32.toInt_inj.mp q)
  have g13 : a.toInt ≠ 13 := fun q => h13 (Int32.toInt_inj.mp q)
  have g14 : a.toInt ≠ 14 := fun q => h14 (Int32.toInt_inj.mp q)
  have g15 : a.toInt ≠ 15 := fun q => h15 (Int32.toInt_inj.mp q)
  have g16 : a.toInt ≠ 16 := fun q => h16 (Int32.toInt_inj.mp q)
  have g17 : a.toInt ≠ 17 := fun q => h17 (Int32.toInt_inj.mp q)
  have g18 : a.toInt ≠ 18 := fun q => h18 (Int32.toInt_inj.mp q)
  have g19 : a.toInt ≠ 19 := fun q => h19 (Int32.toInt_inj.mp q)
  have g20 : a.toInt ≠ 20 := fun q => h20 (Int32.toInt_inj.mp q)
  have g21 : a.toInt ≠ 21 := fun q => h21 (Int32.toInt_inj.mp q)
  have g22 : a.toInt ≠ 22 := fun q => h22 (Int32.toInt_inj.mp q)
  have g23 : a.toInt ≠ 23 := fun q => h23 (Int32.toInt_inj.mp q)
  have g24 : a.toInt ≠ 24 := fun q => h24 (Int32.toInt_inj.mp q)
  have g25 : a.toInt ≠ 25 := fun q => h25 (Int32.toInt_inj.mp q)
  have g26 : a.toInt ≠ 26 := fun q => h26 (Int32.toInt_inj.mp q)
  have g27 : a.toInt ≠ 27 := fun q => h27 (Int32.toInt_inj.mp q)
  have g28 : a.toInt ≠ 28 := fun q => h28 (Int32.toInt_inj.mp q)
  have g29 : a.toInt ≠ 29 := fun q => h29 (Int32.toInt_inj.mp q)
  have g30 : a.toInt ≠ 30 := fun q => h30 (Int32.toInt_inj.mp q)
  have g31 : a.toInt ≠ 31 := fun q => h31 (Int32.toInt_inj.mp q)
  have g32 : a.toInt ≠ 32 := fun q => h32 (Int32.toInt_inj.mp q)
  have g33 : a.toInt ≠ 33 := fun q => h33 (Int32.toInt_inj.mp q)
  have g34 : a.toInt ≠ 34 := fun q => h34 (Int32.toInt_inj.mp q)
  have g35 : a.toInt ≠ 35 := fun q => h35 (Int32.toInt_inj.mp q)
  have g36 : a.toInt ≠ 36 := fun q => h36 (Int32.toInt_inj.mp q)
  have g37 : a.toInt ≠ 37 := fun q => h37 (Int32.toInt_inj.mp q)
  have g38 : a.toInt ≠ 38 := fun q => h38 (Int32.toInt_inj.mp q)
  have g39 : a.toInt ≠ 39 := fun q => h39 (Int32.toInt_inj.mp q)
  have g40 : a.toInt ≠ 40 := fun q => h40 (Int32.toInt_inj.mp q)
  have g41 : a.toInt ≠ 41 := fun q => h41 (Int32.toInt_inj.mp q)
  have g42 : a.toInt ≠ 42 := fun q => h42 (Int32.toInt_inj.mp q)
  have g43 : a.toInt ≠ 43 := fun q => h43 (Int32.toInt_inj.mp q)
  have g44 : a.toInt ≠ 44 := fun q => h44 (Int32.toInt_inj.mp q)
  exact ⟨p, I, J, e, by omega, c, hq, sw_d (by omega)⟩
theorem law_loop (hsl : sl ≤ 3584) : ∀ (f m : Nat) (p : Nat → Nat) (I : Nat → Nat → Int32) (J : Nat → Nat → Int64) (e : Nat), sl < 7 * (m + f) + 7 → 7 * m ≤ sl → e ≤ m → CK p I J (dat I) e → I 1 8 = I 46 0 → ∃ σ', ev (d + 41) 309 18 [.ref 0, .ref 1, .ref 46, .int (nI (7 * m))] [] (S sl p I J) = some (some (.int 1), σ') := by
  intro f
  induction f with
  | zero =>
    intro m p I J e h1 h2 h3 c hq
    have hc : ¬ nI (7 * m) ≤ nI sl - 7 := by
      show ¬ nI (7 * m) ≤ nI sl - nI 7
      rw [Int32.le_iff_toInt_le, nI_sub_t (by omega) (by omega), tI (by omega)]
      omega
    exact ⟨_, by rw [E309_18, if_neg hc]⟩
  | succ f ih =>
    intro m p I J e h1 h2 h3 c hq
    by_cases hm : 7 * m + 7 ≤ sl
    · have hc : nI (7 * m) ≤ nI sl - 7 := by
        show nI (7 * m) ≤ nI sl - nI 7
        rw [Int32.le_iff_toInt_le, nI_sub_t (by omega) (by omega), tI (by omega)]
        omega
      have hx : ∀ c : Nat, c < 7 → ixb sl (nI (7 * m) + nI c) = true := fun c hc => by
        rw [nI_add]
        exact ixb_n (by omega) (by omega)
      obtain ⟨p', I', J', e', a1, a2, a3, a4⟩ := LC_all (d := d) (sl := sl) (I 0 (Int32.toNatClampNeg (nI (7 * m))) &&& 63) hx (by omega) c hq
      obtain ⟨σ', b⟩ := ih (m + 1) p' I' J' e' (by omega) (by omega) (by omega) a2 a3
      have e7 : nI (7 * m) + 7 = nI (7 * (m + 1)) := by
        show nI (7 * m) + nI 7 = _
        rw [nI_add]
        rfl
      refine ⟨σ', ?_⟩
      rw [E309_18, if_pos hc, ck_if (ixb_n (by omega) (by omega)), a4, E309_1763, e7, b]
    · have hc : ¬ nI (7 * m) ≤ nI sl - 7 := by
        show ¬ nI (7 * m) ≤ nI sl - nI 7
        rw [Int32.le_iff_toInt_le, nI_sub_t (by omega) (by omega), tI (by omega)]
        omega
      exact ⟨_, by rw [E309_18, if_neg hc]⟩
theorem law_runs (L : Nat) (xs : Nat → Int32) (hL : L ≤ 3584) : ∃ σ', Ev 100 309 0 (enL 309 [.ref 0]) [] (sg0 L xs) (some (.int 1), σ') := by
  obtain ⟨I, J, e1, c, hq⟩ := begun (d := 94) L xs
  obtain ⟨σ', h⟩ := law_loop (d := 59) hL (L + 1) 0 p0 I J 0 (by omega) (by omega) (by omega) c hq
  exact ⟨σ', ev_iff.mp (Eq.trans e1 h)⟩
end LOP
