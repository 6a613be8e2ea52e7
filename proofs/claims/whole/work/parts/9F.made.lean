/-! the class and the model are made: where the law's loop begins -/
section CT4
variable {d sl : Nat} {R : Nat → Nat → Option Nat} {I : Nat → Nat → Int32} {J : Nat → Nat → Int64}
def clP (a : Nat) : Prop := (1 ≤ a ∧ a < 46) ∨ (100 ≤ a ∧ a < 106) ∨ (200 ≤ a ∧ a < 260) ∨ (300 ≤ a ∧ a < 360) ∨ (400 ≤ a ∧ a < 430) ∨ (500 ≤ a ∧ a < 530) ∨ (600 ≤ a ∧ a < 630) ∨ (700 ≤ a ∧ a < 730) ∨ (800 ≤ a ∧ a < 830) ∨ (900 ≤ a ∧ a < 930)
theorem sp_class : ∃ R' I' J', den (d + 5) 117 [.ref 1] (G sl (zr2 R 1 none) 1 I J) = some (none, G sl R' 351 I' J') ∧ (∀ a k, clP a → R' a k = RF id a k) ∧ (∀ a k, ¬ clP a → R' a k = R a k) ∧ (∀ k, I' 0 k = I 0 k) ∧ I' 1 8 = 0 ∧ (∀ k, k < 630 → I' 3 k = sn (nI k)) ∧ (I' 4 7 = 0 ∧ I' 4 8 = 0 ∧ I' 4 9 = 1 ∧ I' 4 10 = 0) ∧ (∀ j, j < 60 → I' (200 + j) 0 = nI j) ∧ (I' 11 12 = 10 ∧ I' 11 13 = 3 ∧ I' 11 15 = -1 ∧ I' 11 16 = -1) ∧ I' 22 8 = -1 ∧ (I' 27 8 = -1 ∧ I' 27 9 = -1 ∧ I' 27 10 = -1 ∧ I' 27 11 = -1) ∧ I' 34 5 = 0 ∧ I' 34 6 = 60 ∧ I' 34 7 = 30 ∧ I' 34 8 = 20 ∧ I' 34 9 = -1 := by
  obtain ⟨I1, e1, s1, g1⟩ := sp_circle (d := d) (sl := sl) (R := zr2 R 1 none) (I := zr2 I 2 0) (J := zr2 J 2 0)
  obtain ⟨R1, hR1⟩ : ∃ R1, R1 = up2 (zr2 (zr2 (zr2 R 1 none) 2 none) 3 none) 2 0 (some 3) := ⟨_, rfl⟩
  rw [← hR1] at e1
  obtain ⟨R2, I2, J2, e2, f2, g2, t1, t2, t3, t4, t5⟩ := sp_survey (d := d) (sl := sl) (R := up2 R1 1 0 (some 2)) (I := I1) (J := zr2 (zr2 (zr2 J 2 0) 3 0) 4 0)
  obtain ⟨R3, I3, J3, e3, f3, g3, u1, u2, u3, u4⟩ := sp_grouping (d := d) (sl := sl) (R := up2 R2 1 1 (some 4)) (I := zr2 I2 11 0) (J := zr2 J2 11 0)
  obtain ⟨R4, I4, J4, e4, f4, g4, v1⟩ := sp_settling (d := d) (sl := sl) (R := up2 R3 1 2 (some 11)) (I := zr2 I3 22 0) (J := zr2 J3 22 0)
  obtain ⟨R5, I5, J5, e5, f5, g5, w1, w2, w3, w4⟩ := sp_scan (d := d) (sl := sl) (R := up2 R4 1 3 (some 22)) (I := zr2 I4 27 0) (J := zr2 J4 27 0)
  obtain ⟨R6, I6, J6, e6, f6, g6, x1, x2, x3, x4, x5⟩ := sp_hazards (d := d) (sl := sl) (R := up2 R5 1 4 (some 27)) (I := zr2 I5 34 0) (J := zr2 J5 34 0)
  obtain ⟨R7, I7, J7, e7, f7, g7⟩ := sp_folding (d := d) (sl := sl) (R := up2 R6 1 5 (some 34)) (I := zr2 I6 38 0) (J := zr2 J6 38 0)
  have o1 : ∀ k, R2 1 k = up2 R1 1 0 (some 2) 1 k := fun k => by rw [f2, if_neg (by omega)]
  have o2 : ∀ k, R3 1 k = up2 R2 1 1 (some 4) 1 k := fun k => by rw [f3, if_neg (by omega)]
  have o3 : ∀ k, R4 1 k = up2 R3 1 2 (some 11) 1 k := fun k => by rw [f4, if_neg (by omega)]
  have o4 : ∀ k, R5 1 k = up2 R4 1 3 (some 22) 1 k := fun k => by rw [f5, if_neg (by omega)]
  have o5 : ∀ k, R6 1 k = up2 R5 1 4 (some 27) 1 k := fun k => by rw [f6, if_neg (by omega)]
  have o6 : ∀ k, R7 1 k = up2 R6 1 5 (some 34) 1 k := fun k => by rw [f7, if_neg (by omega)]
  have o0 : ∀ k, R1 1 k = none := fun k => by rw [hR1, up_na (by omega), zr_n (by omega), zr_n (by omega), zr_s]
  have a20 : R2 1 0 = some 2 := by rw [o1, up_s]
  have a30 : R3 1 0 = some 2 := by rw [o2, up_nk (by omega), a20]
  have a31 : R3 1 1 = some 4 := by rw [o2, up_s]
  have a40 : R4 1 0 = some 2 := by rw [o3, up_nk (by omega), a30]
  have a41 : R4 1 1 = some 4 := by rw [o3, up_nk (by omega), a31]
  have a42 : R4 1 2 = some 11 := by rw [o3, up_s]
  have a50 : R5 1 0 = some 2 := by rw [o4, up_nk (by omega), a40]
  have a51 : R5 1 1 = some 4 := by rw [o4, up_nk (by omega), a41]
  have a52 : R5 1 2 = some 11 := by rw [o4, up_nk (by omega), a42]
  have a60 : R6 1 0 = some 2 := by rw [o5, up_nk (by omega), a50]
  have a61 : R6 1 1 = some 4 := by rw [o5, up_nk (by omega), a51]
  have a62 : R6 1 2 = some 11 := by rw [o5, up_nk (by omega), a52]
  have i7 : ∀ a k, ¬ (38 ≤ a ∧ a < 45) → I7 a k = I6 a k := fun a k q => by rw [g7 a k q, zr_n (by omega)]
  have i6 : ∀ a k, ¬ (34 ≤ a ∧ a < 38) → I6 a k = I5 a k := fun a k q => by rw [g6 a k q, zr_n (by omega)]
  have i5 : ∀ a k, ¬ (27 ≤ a ∧ a < 34) → I5 a k = I4 a k := fun a k q => by rw [g5 a k q, zr_n (by omega)]
  have i4 : ∀ a k, ¬ (22 ≤ a ∧ a < 27) → ¬ (900 ≤ a ∧ a < 930) → I4 a k = I3 a k := fun a k q q2 => by rw [g4 a k (by omega), zr_n (by omega)]
  have i3 : ∀ a k, ¬ (11 ≤ a ∧ a < 22) → ¬ (400 ≤ a ∧ a < 900) → I3 a k = I2 a k := fun a k q q2 => by rw [g3 a k q q2, zr_n (by omega)]
  have iF : ∀ a k, a ≠ 1 → a ≠ 45 → up2 (zr2 I7 45 0) 1 8 0 a k = I7 a k := fun a k q q2 => by rw [up_na q, zr_n q2]
  refine ⟨up2 (zr2 (up2 R7 1 6 (some 38)) 45 none) 1 7 (some 45), up2 (zr2 I7 45 0) 1 8 0, zr2 J7 45 0, ?_, fun a k hP => ?_, fun a k hP => ?_, fun k => ?_, up_s, fun k hk => ?_, ⟨?_, ?_, ?_, ?_⟩, fun j hj => ?_, ⟨?_, ?_, ?_, ?_⟩, ?_, ⟨?_, ?_, ?_, ?_⟩, ?_, ?_, ?_, ?_, ?_⟩
  · rw [K117_0, e1, evK_v, K117_12, e2, evK_v, K117_27 a20, e3, evK_v, K117_46 a30 a31, e4, evK_v, K117_69 a40 a41, e5, evK_v, K117_88 a50 a52, e6, evK_v, K117_107 a60 a61 a62, e7, evK_v, K117_130]
  · unfold clP at hP
    by_cases c1 : a = 1
    · subst c1
      rcases k with _ | _ | _ | _ | _ | _ | _ | _ | k
      · rw [up_nk (by omega), zr_n (by omega), up_nk (by omega), o6, up_nk (by omega), a60]; rfl
      · rw [up_nk (by omega), zr_n (by omega), up_nk (by omega), o6, up_nk (by omega), a61]; rfl
      · rw [up_nk (by omega), zr_n (by omega), up_nk (by omega), o6, up_nk (by omega), a62]; rfl
      · rw [up_nk (by omega), zr_n (by omega), up_nk (by omega), o6, up_nk (by omega), o5, up_nk (by omega), o4, up_s]; rfl
      · rw [up_nk (by omega), zr_n (by omega), up_nk (by omega), o6, up_nk (by omega), o5, up_s]; rfl
      · rw [up_nk (by omega), zr_n (by omega), up_nk (by omega), o6, up_s]; rfl
      · rw [up_nk (by omega), zr_n (by omega), up_s]; rfl
      · rw [up_s]; rfl
      · rw [up_nk (by omega), zr_n (by omega), up_nk (by omega), o6, up_nk (by omega), o5, up_nk (by omega), o4, up_nk (by omega), o3, up_nk (by omega), o2, up_nk (by omega), o1, up_nk (by omega), o0]
        rfl
    · rw [up_na c1]
      by_cases c2 : a = 45
      · subst c2
        rw [zr_s]
        rfl
      · rw [zr_n c2, up_na c1, f7]
        by_cases d7 : 38 ≤ a ∧ a < 45
        · rw [if_pos d7]
        · rw [if_neg d7, up_na c1, f6]
          by_cases d6 : 34 ≤ a ∧ a < 38
          · rw [if_pos d6]
          · rw [if_neg d6, up_na c1, f5]
            by_cases d5 : 27 ≤ a ∧ a < 34
            · rw [if_pos d5]
            · rw [if_neg d5, up_na c1, f4]
              by_cases d4 : (22 ≤ a ∧ a < 27) ∨ (900 ≤ a ∧ a < 930)
              · rw [if_pos d4]
              · rw [if_neg d4, up_na c1, f3]
                by_cases d3 : (11 ≤ a ∧ a < 22) ∨ (400 ≤ a ∧ a < 430) ∨ (500 ≤ a ∧ a < 530) ∨ (600 ≤ a ∧ a < 630) ∨ (700 ≤ a ∧ a < 730) ∨ (800 ≤ a ∧ a < 830)
                · rw [if_pos d3]
                · rw [if_neg d3, up_na c1, f2]
                  by_cases d2 : (4 ≤ a ∧ a < 11) ∨ (100 ≤ a ∧ a < 106) ∨ (200 ≤ a ∧ a < 260) ∨ (300 ≤ a ∧ a < 360)
                  · rw [if_pos d2]
                  · rw [if_neg d2, up_na c1, hR1]
                    have c3 : a = 2 ∨ a = 3 := by omega
                    rcases c3 with rfl | rfl
                    · rcases k with _ | k
                      · rfl
                      · rw [up_nk (by omega), zr_n (by omega), zr_s]; rfl
                    · rw [up_na (by omega), zr_s]; rfl
  · unfold clP at hP
    rw [up_na (by omega), zr_n (by omega), up_na (by omega), f7, if_neg (by omega), up_na (by omega), f6, if_neg (by omega), up_na (by omega), f5, if_neg (by omega), up_na (by omega), f4, if_neg (by omega), up_na (by omega), f3, if_neg (by omega), up_na (by omega), f2, if_neg (by omega), up_na (by omega), hR1, up_na (by omega), zr_n (by omega), zr_n (by omega), zr_n (by omega)]
  · rw [iF _ _ (by omega) (by omega), i7 _ _ (by omega), i6 _ _ (by omega), i5 _ _ (by omega), i4 _ _ (by omega) (by omega), i3 _ _ (by omega) (by omega), g2 _ _ (by omega), g1 _ _ (by omega), zr_n (by omega)]
  · rw [iF _ _ (by omega) (by omega), i7 _ _ (by omega), i6 _ _ (by omega), i5 _ _ (by omega), i4 _ _ (by omega) (by omega), i3 _ _ (by omega) (by omega), g2 _ _ (by omega)]
    exact s1 k hk
  · rw [iF _ _ (by omega) (by omega), i7 _ _ (by omega), i6 _ _ (by omega), i5 _ _ (by omega), i4 _ _ (by omega) (by omega), i3 _ _ (by omega) (by omega)]; exact t1
  · rw [iF _ _ (by omega) (by omega), i7 _ _ (by omega), i6 _ _ (by omega), i5 _ _ (by omega), i4 _ _ (by omega) (by omega), i3 _ _ (by omega) (by omega)]; exact t2
  · rw [iF _ _ (by omega) (by omega), i7 _ _ (by omega), i6 _ _ (by omega), i5 _ _ (by omega), i4 _ _ (by omega) (by omega), i3 _ _ (by omega) (by omega)]; exact t3
  · rw [iF _ _ (by omega) (by omega), i7 _ _ (by omega), i6 _ _ (by omega), i5 _ _ (by omega), i4 _ _ (by omega) (by omega), i3 _ _ (by omega) (by omega)]; exact t4
  · rw [iF _ _ (by omega) (by omega), i7 _ _ (by omega), i6 _ _ (by omega), i5 _ _ (by omega), i4 _ _ (by omega) (by omega), i3 _ _ (by omega) (by omega)]; exact t5 j hj
  · rw [iF _ _ (by omega) (by omega), i7 _ _ (by omega), i6 _ _ (by omega), i5 _ _ (by omega), i4 _ _ (by omega) (by omega)]; exact u1
  · rw [iF _ _ (by omega) (by omega), i7 _ _ (by omega), i6 _ _ (by omega), i5 _ _ (by omega), i4 _ _ (by omega) (by omega)]; exact u2
  · rw [iF _ _ (by omega) (by omega), i7 _ _ (by omega), i6 _ _ (by omega), i5 _ _ (by omega), i4 _ _ (by omega) (by omega)]; exact u3
  · rw [iF _ _ (by omega) (by omega), i7 _ _ (by omega), i6 _ _ (by omega), i5 _ _ (by omega), i4 _ _ (by omega) (by omega)]; exact u4
  · rw [iF _ _ (by omega) (by omega), i7 _ _ (by omega), i6 _ _ (by omega), i5 _ _ (by omega)]; exact v1
  · rw [iF _ _ (by omega) (by omega), i7 _ _ (by omega), i6 _ _ (by omega)]; exact w1
  · rw [iF _ _ (by omega) (by omega), i7 _ _ (by omega), i6 _ _ (by omega)]; exact w2
  · rw [iF _ _ (by omega) (by omega), i7 _ _ (by omega), i6 _ _ (by omega)]; exact w3
  · rw [iF _ _ (by omega) (by omega), i7 _ _ (by omega), i6 _ _ (by omega)]; exact w4
  · rw [iF _ _ (by omega) (by omega), i7 _ _ (by omega)]; exact x1
  · rw [iF _ _ (by omega) (by omega), i7 _ _ (by omega)]; exact x2
  · rw [iF _ _ (by omega) (by omega), i7 _ _ (by omega)]; exact x3
  · rw [iF _ _ (by omega) (by omega), i7 _ _ (by omega)]; exact x4
  · rw [iF _ _ (by omega) (by omega), i7 _ _ (by omega)]; exact x5
theorem sp_model : ∃ R' I' J', den (d + 2) 176 [.ref 46] (G sl (zr2 R 46 none) 352 (zr2 I 46 0) J) = some (none, G sl R' 378 I' J') ∧ (∀ a k, R' a k = if 46 ≤ a ∧ a < 73 then RF id a k else R a k) ∧ (∀ a k, ¬ (46 ≤ a ∧ a < 73) → I' a k = I a k) ∧ I' 46 0 = 0 ∧ I' 46 1 = 0 ∧ I' 46 2 = 0 ∧ I' 46 3 = 10 ∧ I' 46 4 = 3 ∧ I' 46 5 = 1 ∧ I' 46 6 = 0 ∧ I' 46 7 = 60 ∧ I' 46 8 = 30 ∧ I' 46 9 = 20 := by
  refine ⟨_, _, _, K176_0, fun a k => ?_, fun a k w => ?_, rfl, rfl, rfl, rfl, rfl, rfl, rfl, rfl, rfl, rfl⟩
  · by_cases h : 46 ≤ a ∧ a < 73
    · rw [if_pos h]
      by_cases c : a = 46
      · subst c
        rcases k with _ | _ | _ | _ | _ | _ | _ | _ | _ | _ | _ | _ | _ | _ | _ | _ | _ | _ | _ | _ | _ | _ | _ | _ | _ | _ | _ | _ | _ | _ | _ | _ | _ | _ | _ | _ | _ | _ | _ | _ | _ | _ | _ | _ | _ | _ | _ | _ | _ | k
        all_goals rfl
      · have hc : a = 47 ∨ a = 48 ∨ a = 49 ∨ a = 50 ∨ a = 51 ∨ a = 52 ∨ a = 53 ∨ a = 54 ∨ a = 55 ∨ a = 56 ∨ a = 57 ∨ a = 58 ∨ a = 59 ∨ a = 60 ∨ a = 61 ∨ a = 62 ∨ a = 63 ∨ a = 64 ∨ a = 65 ∨ a = 66 ∨ a = 67 ∨ a = 68 ∨ a = 69 ∨ a = 70 ∨ a = 71 ∨ a = 72 := by omega
        rcases hc with rfl | rfl | rfl | rfl | rfl | rfl | rfl | rfl | rfl | rfl | rfl | rfl | rfl | rfl | rfl | rfl | rfl | rfl | rfl | rfl | rfl | rfl | rfl | rfl | rfl | rfl <;> rfl
    · rw [if_neg h]
      repeat (first | rw [up_na (by omega)] | rw [zr_n (by omega)])
  · repeat (first | rw [up_na (by omega)] | rw [zr_n (by omega)])
end CT4
