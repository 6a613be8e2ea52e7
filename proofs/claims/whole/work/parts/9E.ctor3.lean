/-! the constructors of the class's parts: what they refer to, what they begin with -/
section CT3
variable {d sl : Nat} {R : Nat → Nat → Option Nat} {I : Nat → Nat → Int32} {J : Nat → Nat → Int64}
theorem sp_hazards : ∃ R' I' J', den (d + 4) 46 [.ref 34, .ref 11, .ref 2] (G sl (zr2 R 34 none) 340 I J) = some (none, G sl R' 343 I' J') ∧ (∀ a k, R' a k = if 34 ≤ a ∧ a < 38 then RF id a k else R a k) ∧ (∀ a k, ¬ (34 ≤ a ∧ a < 38) → I' a k = I a k) ∧ I' 34 5 = 0 ∧ I' 34 6 = 60 ∧ I' 34 7 = 30 ∧ I' 34 8 = 20 ∧ I' 34 9 = -1 := by
  refine ⟨_, _, _, K46_0, fun a k => ?_, fun a k w => ?_, rfl, rfl, rfl, rfl, rfl⟩
  · by_cases h : 34 ≤ a ∧ a < 38
    · rw [if_pos h]
      have hc : a = 34 ∨ a = 35 ∨ a = 36 ∨ a = 37 := by omega
      rcases hc with rfl | rfl | rfl | rfl
      · rcases k with _ | _ | _ | _ | _ | k <;> first | rfl | simp [up2, zr2, RF, rfRow]
      · first | rfl | simp [up2, zr2, RF, rfRow]
      · first | rfl | simp [up2, zr2, RF, rfRow]
      · first | rfl | simp [up2, zr2, RF, rfRow]
    · rw [if_neg h]
      repeat (first | rw [up_na (by omega)] | rw [zr_n (by omega)])
  · repeat (first | rw [up_na (by omega)] | rw [zr_n (by omega)])
theorem sp_scan : ∃ R' I' J', den (d + 4) 77 [.ref 27, .ref 4, .ref 2] (G sl (zr2 R 27 none) 333 I J) = some (none, G sl R' 339 I' J') ∧ (∀ a k, R' a k = if 27 ≤ a ∧ a < 34 then RF id a k else R a k) ∧ (∀ a k, ¬ (27 ≤ a ∧ a < 34) → I' a k = I a k) ∧ I' 27 8 = -1 ∧ I' 27 9 = -1 ∧ I' 27 10 = -1 ∧ I' 27 11 = -1 := by
  refine ⟨_, _, _, K77_0, fun a k => ?_, fun a k w => ?_, rfl, rfl, rfl, rfl⟩
  · by_cases h : 27 ≤ a ∧ a < 34
    · rw [if_pos h]
      have hc : a = 27 ∨ a = 28 ∨ a = 29 ∨ a = 30 ∨ a = 31 ∨ a = 32 ∨ a = 33 := by omega
      rcases hc with rfl | rfl | rfl | rfl | rfl | rfl | rfl
      · rcases k with _ | _ | _ | _ | _ | _ | _ | _ | k <;> first | rfl | simp [up2, zr2, RF, rfRow]
      · first | rfl | simp [up2, zr2, RF, rfRow]
      · first | rfl | simp [up2, zr2, RF, rfRow]
      · first | rfl | simp [up2, zr2, RF, rfRow]
      · first | rfl | simp [up2, zr2, RF, rfRow]
      · first | rfl | simp [up2, zr2, RF, rfRow]
      · first | rfl | simp [up2, zr2, RF, rfRow]
    · rw [if_neg h]
      repeat (first | rw [up_na (by omega)] | rw [zr_n (by omega)])
  · repeat (first | rw [up_na (by omega)] | rw [zr_n (by omega)])
theorem sp_folding : ∃ R' I' J', den (d + 4) 21 [.ref 38, .ref 4, .ref 11, .ref 2] (G sl (zr2 R 38 none) 344 I J) = some (none, G sl R' 350 I' J') ∧ (∀ a k, R' a k = if 38 ≤ a ∧ a < 45 then RF id a k else R a k) ∧ (∀ a k, ¬ (38 ≤ a ∧ a < 45) → I' a k = I a k) := by
  have h43 : obn 349 43 3 := by unfold obn; decide +kernel
  have h44 : nwo 349 44 0 := by unfold nwo; decide +kernel
  refine ⟨_, _, _, by rw [K21_0, K15_0 h43 h44, evK_v, K21_71], fun a k => ?_, fun a k w => ?_⟩
  · by_cases h : 38 ≤ a ∧ a < 45
    · rw [if_pos h]
      have hc : a = 38 ∨ a = 39 ∨ a = 40 ∨ a = 41 ∨ a = 42 ∨ a = 43 ∨ a = 44 := by omega
      rcases hc with rfl | rfl | rfl | rfl | rfl | rfl | rfl
      · rcases k with _ | _ | _ | _ | _ | _ | _ | _ | k <;> first | rfl | simp [up2, zr2, RF, rfRow]
      · first | rfl | simp [up2, zr2, RF, rfRow]
      · first | rfl | simp [up2, zr2, RF, rfRow]
      · first | rfl | simp [up2, zr2, RF, rfRow]
      · first | rfl | simp [up2, zr2, RF, rfRow]
      · rcases k with _ | k <;> first | rfl | simp [up2, zr2, RF, rfRow]
      · first | rfl | simp [up2, zr2, RF, rfRow]
    · rw [if_neg h]
      repeat (first | rw [up_na (by omega)] | rw [zr_n (by omega)])
  · repeat (first | rw [up_na (by omega)] | rw [zr_n (by omega)])
theorem sp_settling : ∃ R' I' J', den (d + 4) 38 [.ref 22, .ref 4, .ref 11, .ref 2] (G sl (zr2 R 22 none) 298 I J) = some (none, G sl R' 332 I' J') ∧ (∀ a k, R' a k = if (22 ≤ a ∧ a < 27) ∨ (900 ≤ a ∧ a < 930) then RF id a k else R a k) ∧ (∀ a k, ¬ ((22 ≤ a ∧ a < 27) ∨ (900 ≤ a ∧ a < 930)) → I' a k = I a k) ∧ I' 22 8 = -1 := by
  have h25 : obn 331 25 3 := by unfold obn; decide +kernel
  have h26 : nwo 331 26 0 := by unfold nwo; decide +kernel
  obtain ⟨R1, I1, J1, e1, f1, g1⟩ := sp_fill24 (d := d) (sl := sl) (R := up2 (zr2 (up2 (zr2 (up2 (up2 (up2 (zr2 R 22 none) 22 0 (some 4)) 22 1 (some 11)) 22 2 (some 2)) 23 none) 22 3 (some 23)) 24 none) 22 4 (some 24)) (I := zr2 (zr2 I 23 0) 24 0) (J := zr2 (zr2 J 23 0) 24 0) up_s
  refine ⟨_, _, _, by rw [K38_0, e1, K38_39, if_neg (show ¬ nI 30 < 30 from nlt_n (n := 30) (by decide)), K38_66, K15_0 h25 h26, evK_v, K38_74], fun a k => ?_, fun a k w => ?_, rfl⟩
  · by_cases h : 22 ≤ a ∧ a < 27
    · rw [if_pos (Or.inl h)]
      have hc : a = 22 ∨ a = 23 ∨ a = 24 ∨ a = 25 ∨ a = 26 := by omega
      rcases hc with rfl | rfl | rfl | rfl | rfl
      · rcases k with _ | _ | _ | _ | _ | _ | k <;> first | rfl | simp [up2, zr2, RF, rfRow, f1]
      · first | rfl | simp [up2, zr2, RF, rfRow, f1]
      · first | rfl | simp [up2, zr2, RF, rfRow, f1]
      · rcases k with _ | k <;> first | rfl | simp [up2, zr2, RF, rfRow, f1]
      · first | rfl | simp [up2, zr2, RF, rfRow, f1]
    · rw [up_na (by omega), up_na (by omega), zr_n (by omega), zr_n (by omega), f1, if_neg (by omega)]
      by_cases h9 : 900 ≤ a ∧ a < 930
      · rw [if_pos h9, if_pos (Or.inr h9), RF_v (by omega) (by omega) (by omega) (by omega)]
      · rw [if_neg h9, if_neg (by omega)]
        repeat (first | rw [up_na (by omega)] | rw [zr_n (by omega)])
  · rw [up_na (by omega), zr_n (by omega), zr_n (by omega), g1 _ _ (by omega)]
    repeat (first | rw [up_na (by omega)] | rw [zr_n (by omega)])
theorem sp_survey : ∃ R' I' J', den (d + 4) 58 [.ref 4, .ref 2] (G sl (zr2 R 4 none) 4 (zr2 I 4 0) J) = some (none, G sl R' 136 I' J') ∧ (∀ a k, R' a k = if (4 ≤ a ∧ a < 11) ∨ (100 ≤ a ∧ a < 106) ∨ (200 ≤ a ∧ a < 260) ∨ (300 ≤ a ∧ a < 360) then RF id a k else R a k) ∧ (∀ a k, ¬ ((4 ≤ a ∧ a < 11) ∨ (100 ≤ a ∧ a < 106) ∨ (200 ≤ a ∧ a < 260) ∨ (300 ≤ a ∧ a < 360)) → I' a k = I a k) ∧ I' 4 7 = 0 ∧ I' 4 8 = 0 ∧ I' 4 9 = 1 ∧ I' 4 10 = 0 ∧ ∀ j, j < 60 → I' (200 + j) 0 = nI j := by
  obtain ⟨R1, I1, J1, e1, f1, g1⟩ := sp_fill8 (d := d) (sl := sl) (R := up2 (zr2 (up2 (zr2 (up2 (zr2 (up2 (zr2 (up2 (zr2 R 4 none) 4 0 (some 2)) 5 none) 4 1 (some 5)) 6 none) 4 2 (some 6)) 7 none) 4 3 (some 7)) 8 none) 4 4 (some 8)) (I := zr2 (zr2 (zr2 (zr2 (zr2 I 4 0) 5 0) 6 0) 7 0) 8 0) (J := zr2 (zr2 (zr2 (zr2 J 5 0) 6 0) 7 0) 8 0) up_s
  obtain ⟨R2, I2, J2, e2, z1, z2, z3⟩ := sp_cracks (d := d) (sl := sl) (R := up2 (zr2 R1 9 none) 4 5 (some 9)) (I := zr2 I1 9 0) (J := zr2 J1 9 0) up_s
  have i4 : ∀ k, I2 4 k = 0 := fun k => by
    rw [z2 _ _ (by omega) (by omega), zr_n (by omega), g1 _ _ (by omega), zr_n (by omega), zr_n (by omega), zr_n (by omega), zr_n (by omega), zr_s]
  refine ⟨_, _, _, by rw [K58_0, e1, K58_44, if_neg (show ¬ nI 6 < 6 from nlt_n (n := 6) (by decide)), K58_69, e2, K58_80, if_neg (show ¬ nI 60 < 60 from nlt_n (n := 60) (by decide)), K58_106], fun a k => ?_, fun a k w => ?_, ?_, ?_, up_s, ?_, fun j hj => ?_⟩
  · by_cases h : 4 ≤ a ∧ a < 11
    · rw [if_pos (Or.inl h)]
      have hc : a = 4 ∨ a = 5 ∨ a = 6 ∨ a = 7 ∨ a = 8 ∨ a = 9 ∨ a = 10 := by omega
      rcases hc with rfl | rfl | rfl | rfl | rfl | rfl | rfl
      · rcases k with _ | _ | _ | _ | _ | _ | _ | k <;> first | rfl | simp [up2, zr2, RF, rfRow, f1, z1]
      · first | rfl | simp [up2, zr2, RF, rfRow, f1, z1]
      · first | rfl | simp [up2, zr2, RF, rfRow, f1, z1]
      · first | rfl | simp [up2, zr2, RF, rfRow, f1, z1]
      · rcases k with _ | _ | _ | _ | _ | _ | k <;> first | rfl | simp [up2, zr2, RF, rfRow, f1, z1]
      · first | rfl | simp [up2, zr2, RF, rfRow, f1, z1]
      · first | rfl | simp [up2, zr2, RF, rfRow, f1, z1]
    · rw [up_na (by omega), zr_n (by omega), z1]
      by_cases h2 : 200 ≤ a ∧ a < 260
      · rw [if_pos h2, if_pos (Or.inr (Or.inr (Or.inl h2))), RF_c h2]
      · rw [if_neg h2]
        by_cases h3 : 300 ≤ a ∧ a < 360
        · rw [if_pos h3, if_pos (Or.inr (Or.inr (Or.inr h3))), RF_v (by omega) (by omega) (by omega) (by omega)]
        · rw [if_neg h3, if_neg (by omega), up_na (by omega), zr_n (by omega), f1, if_neg (by omega)]
          by_cases h1 : 100 ≤ a ∧ a < 106
          · rw [if_pos h1, if_pos (Or.inr (Or.inl h1)), RF_v (by omega) (by omega) (by omega) (by omega)]
          · rw [if_neg h1, if_neg (by omega)]
            repeat (first | rw [up_na (by omega)] | rw [zr_n (by omega)])
  · rw [up_na (by omega), zr_n (by omega), z2 _ _ (by omega) (by omega), zr_n (by omega), g1 _ _ (by omega)]
    repeat (first | rw [up_na (by omega)] | rw [zr_n (by omega)])
  · rw [up_nk (by omega), zr_n (by omega)]; exact i4 _
  · rw [up_nk (by omega), zr_n (by omega)]; exact i4 _
  · rw [up_nk (by omega), zr_n (by omega)]; exact i4 _
  · rw [up_na (by omega), zr_n (by omega)]; exact z3 j hj
theorem sp_grouping : ∃ R' I' J', den (d + 4) 86 [.ref 11, .ref 4, .ref 2] (G sl (zr2 R 11 none) 137 I J) = some (none, G sl R' 297 I' J') ∧ (∀ a k, R' a k = if (11 ≤ a ∧ a < 22) ∨ (400 ≤ a ∧ a < 430) ∨ (500 ≤ a ∧ a < 530) ∨ (600 ≤ a ∧ a < 630) ∨ (700 ≤ a ∧ a < 730) ∨ (800 ≤ a ∧ a < 830) then RF id a k else R a k) ∧ (∀ a k, ¬ (11 ≤ a ∧ a < 22) → ¬ (400 ≤ a ∧ a < 900) → I' a k = I a k) ∧ I' 11 12 = 10 ∧ I' 11 13 = 3 ∧ I' 11 15 = -1 ∧ I' 11 16 = -1 := by
  obtain ⟨R1, I1, J1, e1, f1, g1⟩ := sp_groups0 (d := d) (sl := sl) (R := up2 (zr2 (up2 (zr2 (up2 (zr2 (up2 (up2 (zr2 R 11 none) 11 0 (some 4)) 11 1 (some 2)) 12 none) 11 2 (some 12)) 13 none) 11 3 (some 13)) 14 none) 11 4 (some 14)) (I := zr2 (zr2 (zr2 I 12 0) 13 0) 14 0) (J := zr2 (zr2 (zr2 J 12 0) 13 0) 14 0) rfl up_s
  refine ⟨_, _, _, by rw [K86_0, e1, K86_42, if_neg (show ¬ nI 30 < 30 from nlt_n (n := 30) (by decide)), K86_82], fun a k => ?_, fun a k w w2 => ?_, rfl, rfl, rfl, rfl⟩
  · by_cases h : 11 ≤ a ∧ a < 22
    · rw [if_pos (Or.inl h)]
      have hc : a = 11 ∨ a = 12 ∨ a = 13 ∨ a = 14 ∨ a = 15 ∨ a = 16 ∨ a = 17 ∨ a = 18 ∨ a = 19 ∨ a = 20 ∨ a = 21 := by omega
      rcases hc with rfl | rfl | rfl | rfl | rfl | rfl | rfl | rfl | rfl | rfl | rfl
      · rcases k with _ | _ | _ | _ | _ | _ | _ | _ | _ | _ | _ | _ | k <;> first | rfl | simp [up2, zr2, RF, rfRow, f1]
      · first | rfl | simp [up2, zr2, RF, rfRow, f1]
      · first | rfl | simp [up2, zr2, RF, rfRow, f1]
      · first | rfl | simp [up2, zr2, RF, rfRow, f1]
      · first | rfl | simp [up2, zr2, RF, rfRow, f1]
      · first | rfl | simp [up2, zr2, RF, rfRow, f1]
      · first | rfl | simp [up2, zr2, RF, rfRow, f1]
      · first | rfl | simp [up2, zr2, RF, rfRow, f1]
      · first | rfl | simp [up2, zr2, RF, rfRow, f1]
      · first | rfl | simp [up2, zr2, RF, rfRow, f1]
      · first | rfl | simp [up2, zr2, RF, rfRow, f1]
    · repeat (first | rw [up_na (by omega)] | rw [zr_n (by omega)])
      rw [f1]
      by_cases h4 : 400 ≤ a ∧ a < 430
      · rw [if_pos h4, if_pos (Or.inr (Or.inl h4)), RF_g h4]
      · rw [if_neg h4]
        by_cases h5 : 500 ≤ a ∧ a < 530
        · rw [if_pos h5, if_pos (Or.inr (Or.inr (Or.inl h5))), RF_h h5]
        · rw [if_neg h5]
          by_cases h6 : (600 ≤ a ∧ a < 630) ∨ (700 ≤ a ∧ a < 730) ∨ (800 ≤ a ∧ a < 830)
          · rw [if_pos h6, if_pos (by omega), RF_v (by omega) (by omega) (by omega) (by omega)]
          · rw [if_neg h6, if_neg (show ¬ (a = 13 ∧ k < 30) by omega), if_neg (show ¬ (a = 14 ∧ k < 30) by omega), if_neg (by omega)]
            repeat (first | rw [up_na (by omega)] | rw [zr_n (by omega)])
  · repeat (first | rw [up_na (by omega)] | rw [zr_n (by omega)])
    rw [g1 _ _ (by omega)]
    repeat (first | rw [up_na (by omega)] | rw [zr_n (by omega)])
end CT3
