/-! groups; the whole constructors -/
section CT2
variable {d sl : Nat} {R : Nat → Nat → Option Nat} {I : Nat → Nat → Int32} {J : Nat → Nat → Int64}
theorem pr_group {i : Nat} (h : i < 30) : nwo (140 + 5 * i) (400 + i) 2 ∧ nwo (140 + 5 * i + 1) (500 + i) 3 ∧ nwo (140 + 5 * i + 2) (600 + i) 0 ∧ nwo (140 + 5 * i + 3) (700 + i) 0 ∧ nwo (140 + 5 * i + 4) (800 + i) 0 ∧ obn (140 + 5 * i) 11 10 ∧ arn (140 + 5 * i + 5) 13 6 30 ∧ arn (140 + 5 * i + 5) 14 4 30 := by
  have : ((List.range 30).all fun i => decide ((140 + 5 * i < NT ∧ ADR (140 + 5 * i) = 400 + i ∧ SH (400 + i) = (1, 2)) ∧ (140 + 5 * i + 1 < NT ∧ ADR (140 + 5 * i + 1) = 500 + i ∧ SH (500 + i) = (1, 3)) ∧ (140 + 5 * i + 2 < NT ∧ ADR (140 + 5 * i + 2) = 600 + i ∧ SH (600 + i) = (1, 0)) ∧ (140 + 5 * i + 3 < NT ∧ ADR (140 + 5 * i + 3) = 700 + i ∧ SH (700 + i) = (1, 0)) ∧ (140 + 5 * i + 4 < NT ∧ ADR (140 + 5 * i + 4) = 800 + i ∧ SH (800 + i) = (1, 0)) ∧ (SH 11 = (1, 10) ∧ pos 11 < 140 + 5 * i) ∧ (SH 13 = (6, 30) ∧ pos 13 < 140 + 5 * i + 5 ∧ 13 ≠ 0) ∧ SH 14 = (4, 30) ∧ pos 14 < 140 + 5 * i + 5 ∧ 14 ≠ 0)) = true := by decide +kernel
  have h2 := of_decide_eq_true (List.all_eq_true.mp this i (List.mem_range.mpr h))
  exact h2
/-- what a new group's cells hold -/
def gR (R : Nat → Nat → Option Nat) (g h s b c : Nat) : Nat → Nat → Option Nat := up2 (zr2 (up2 (zr2 (up2 (up2 (zr2 (zr2 (zr2 R g none) h none) s none) h 0 (some s)) g 0 (some h)) b none) g 1 (some b)) c none) g 2 (some c)
def gZ {α : Type} (f : Nat → Nat → α) (v : α) (g h s b c : Nat) : Nat → Nat → α := zr2 (zr2 (zr2 (zr2 (zr2 f g v) h v) s v) b v) c v
theorem sp_group {n g h s b c : Nat} (hg : nwo n g 2) (hh : nwo (n + 1) h 3) (hs : nwo (n + 2) s 0) (hb : nwo (n + 3) b 0) (hc : nwo (n + 4) c 0) : den (d + 3) 12 [.ref g] (G sl (zr2 R g none) (n + 1) (zr2 I g 0) (zr2 J g 0)) = some (none, G sl (gR R g h s b c) (n + 5) (gZ I 0 g h s b c) (gZ J 0 g h s b c)) := by
  rw [K12_0 (nwo_ob hg) hh, K15_0 (nwo_ob hh) hs, evK_v, K12_12 (obn_s (obn_s (nwo_ob hg))) hb hc]
  rfl
theorem gR_e {g h s b c i : Nat} (hi : i < 30) (eg : g = 400 + i) (eh : h = 500 + i) (es : s = 600 + i) (eb : b = 700 + i) (ec : c = 800 + i) (a k : Nat) : gR R g h s b c a k = if a = g then (if k = 0 then some h else if k = 1 then some b else if k = 2 then some c else none) else if a = h then (if k = 0 then some s else none) else if a = s ∨ a = b ∨ a = c then none else R a k := by
  unfold gR
  by_cases c1 : a = g
  · subst c1
    rw [if_pos rfl]
    by_cases k2 : k = 2
    · subst k2; rw [up_s]; rfl
    · rw [up_nk k2, zr_n (by omega)]
      by_cases k1 : k = 1
      · subst k1; rw [up_s]; rfl
      · rw [up_nk k1, zr_n (by omega)]
        by_cases k0 : k = 0
        · subst k0; rw [up_s]; rfl
        · rw [up_nk k0, up_na (by omega), zr_n (by omega), zr_n (by omega), zr_s, if_neg k0, if_neg k1, if_neg k2]
  · rw [if_neg c1, up_na c1]
    by_cases c2 : a = h
    · subst c2
      rw [if_pos rfl, zr_n (by omega), up_na c1, zr_n (by omega), up_na c1]
      by_cases k0 : k = 0
      · subst k0; rw [up_s]; rfl
      · rw [up_nk k0, zr_n (by omega), zr_s, if_neg k0]
    · rw [if_neg c2]
      by_cases c3 : a = c
      · subst c3
        rw [zr_s, if_pos (Or.inr (Or.inr rfl))]
      · rw [zr_n c3, up_na c1]
        by_cases c4 : a = b
        · subst c4
          rw [zr_s, if_pos (Or.inr (Or.inl rfl))]
        · rw [zr_n c4, up_na c1, up_na c2]
          by_cases c5 : a = s
          · subst c5
            rw [zr_s, if_pos (Or.inl rfl)]
          · rw [zr_n c5, zr_n c2, zr_n c1, if_neg (by omega)]
/-- the row of groups -/
theorem sp_groups0 (hr3 : R 11 3 = some 13) (hr4 : R 11 4 = some 14) : ∃ R' I' J', ev (d + 4) 86 42 [.ref 11, .ref 4, .ref 2, .int 0] [] (G sl R 140 I J) = ev (d + 4) 86 42 [.ref 11, .ref 4, .ref 2, .int (nI 30)] [] (G sl R' 290 I' J') ∧ (∀ a k, R' a k = if 400 ≤ a ∧ a < 430 then (if k = 0 then some (a + 100) else if k = 1 then some (a + 300) else if k = 2 then some (a + 400) else none) else if 500 ≤ a ∧ a < 530 then (if k = 0 then some (a + 100) else none) else if (600 ≤ a ∧ a < 630) ∨ (700 ≤ a ∧ a < 730) ∨ (800 ≤ a ∧ a < 830) then none else if a = 13 ∧ k < 30 then some (400 + k) else if a = 14 ∧ k < 30 then some (800 + k) else R a k) ∧ ∀ a k, ¬ (400 ≤ a ∧ a < 900) → I' a k = I a k := by
  obtain ⟨⟨R1, n1, I1, J1⟩, e1, en, z1, z2⟩ := for_ex (M := (Nat → Nat → Option Nat) × Nat × (Nat → Nat → Int32) × (Nat → Nat → Int64)) (fun j x => ev (d + 4) 86 42 [.ref 11, .ref 4, .ref 2, .int j] [] (G sl x.1 x.2.1 x.2.2.1 x.2.2.2)) 30 (fun i x => x.2.1 = 140 + 5 * i ∧ (∀ a k, x.1 a k = if 400 ≤ a ∧ a < 400 + i then (if k = 0 then some (a + 100) else if k = 1 then some (a + 300) else if k = 2 then some (a + 400) else none) else if 500 ≤ a ∧ a < 500 + i then (if k = 0 then some (a + 100) else none) else if (600 ≤ a ∧ a < 600 + i) ∨ (700 ≤ a ∧ a < 700 + i) ∨ (800 ≤ a ∧ a < 800 + i) then none else if a = 13 ∧ k < i then some (400 + k) else if a = 14 ∧ k < i then some (800 + k) else R a k) ∧ ∀ a k, ¬ (400 ≤ a ∧ a < 900) → x.2.2.1 a k = I a k)
    (by
      rintro i ⟨R1, n1, I1, J1⟩ hi ⟨en, z1, z2⟩
      simp only at en z1 z2
      subst en
      obtain ⟨q1, q2, q3, q4, q5, q6, q7, q8⟩ := pr_group hi
      have eR := gR_e (R := R1) (g := 400 + i) (h := 500 + i) (s := 600 + i) (b := 700 + i) (c := 800 + i) hi rfl rfl rfl rfl rfl
      have y3 : R1 11 3 = some 13 := by rw [z1, if_neg (by omega), if_neg (by omega), if_neg (by omega), if_neg (by omega), if_neg (by omega)]; exact hr3
      have y4 : R1 11 4 = some 14 := by rw [z1, if_neg (by omega), if_neg (by omega), if_neg (by omega), if_neg (by omega), if_neg (by omega)]; exact hr4
      have eN : ∀ k, gR R1 (400 + i) (500 + i) (600 + i) (700 + i) (800 + i) 11 k = R1 11 k := fun k => by rw [eR, if_neg (by omega), if_neg (by omega), if_neg (by omega)]
      refine ⟨(up2 (up2 (gR R1 (400 + i) (500 + i) (600 + i) (700 + i) (800 + i)) 13 i (some (400 + i))) 14 i (some (800 + i)), 140 + 5 * i + 5, gZ I1 0 (400 + i) (500 + i) (600 + i) (700 + i) (800 + i), gZ J1 0 (400 + i) (500 + i) (600 + i) (700 + i) (800 + i)), ?_, rfl, fun a k => ?_, fun a k w => ?_⟩
      · show ev (d + 4) 86 42 [.ref 11, .ref 4, .ref 2, .int (nI i)] [] (G sl R1 (140 + 5 * i) I1 J1) = _
        rw [K86_42, if_pos (show nI i < 30 from lt_n (n := 30) hi (by decide)), K86_48 q6 y3 q1, sp_group q1 q2 q3 q4 q5, evK_v, K86_60 (obn_s (obn_s (obn_s (obn_s (obn_s q6))))) (obn_s (obn_s (obn_s (obn_s (nwo_ob q1))))) (nwo_ob q5) q7 q8 hi (by rw [up_na (by omega), eN]; exact y3) (by rw [up_na (by omega), eN]; exact y4) (by rw [up_na (by omega), eR, if_pos rfl]; rfl), nI_1]
      · show up2 (up2 (gR R1 (400 + i) (500 + i) (600 + i) (700 + i) (800 + i)) 13 i (some (400 + i))) 14 i (some (800 + i)) a k = _
        by_cases c14 : a = 14
        · subst c14
          rw [if_neg (by omega), if_neg (by omega), if_neg (by omega), if_neg (by omega)]
          by_cases c : k = i
          · rw [c, up_s, if_pos (by omega)]
          · rw [up_nk c, up_na (by omega), eR, if_neg (by omega), if_neg (by omega), if_neg (by omega), z1, if_neg (by omega), if_neg (by omega), if_neg (by omega), if_neg (by omega)]
            by_cases c' : k < i
            · rw [if_pos (show 14 = 14 ∧ k < i by omega), if_pos (show 14 = 14 ∧ k < i + 1 by omega)]
            · rw [if_neg (show ¬ (14 = 14 ∧ k < i) by omega), if_neg (show ¬ (14 = 14 ∧ k < i + 1) by omega)]
        · rw [up_na c14]
          by_cases c13 : a = 13
          · subst c13
            rw [if_neg (by omega), if_neg (by omega), if_neg (by omega)]
            by_cases c : k = i
            · rw [c, up_s, if_pos (by omega)]
            · rw [up_nk c, eR, if_neg (by omega), if_neg (by omega), if_neg (by omega), z1, if_neg (by omega), if_neg (by omega), if_neg (by omega)]
              by_cases c' : k < i
              · rw [if_pos (show 13 = 13 ∧ k < i by omega), if_pos (show 13 = 13 ∧ k < i + 1 by omega)]
              · rw [if_neg (show ¬ (13 = 13 ∧ k < i) by omega), if_neg (show ¬ (13 = 13 ∧ k < i + 1) by omega), if_neg (show ¬ (13 = 14 ∧ k < i) by omega), if_neg (show ¬ (13 = 14 ∧ k < i + 1) by omega)]
          · rw [up_na c13, eR]
            by_cases c1 : a = 400 + i
            · rw [if_pos c1, if_pos (show 400 ≤ a ∧ a < 400 + (i + 1) by omega), c1, show 400 + i + 100 = 500 + i by omega, show 400 + i + 300 = 700 + i by omega, show 400 + i + 400 = 800 + i by omega]
            · rw [if_neg c1]
              by_cases c2 : a = 500 + i
              · rw [if_pos c2, if_neg (show ¬ (400 ≤ a ∧ a < 400 + (i + 1)) by omega), if_pos (show 500 ≤ a ∧ a < 500 + (i + 1) by omega), c2, show 500 + i + 100 = 600 + i by omega]
              · rw [if_neg c2]
                by_cases c3 : a = 600 + i ∨ a = 700 + i ∨ a = 800 + i
                · rw [if_pos c3, if_neg (show ¬ (400 ≤ a ∧ a < 400 + (i + 1)) by omega), if_neg (show ¬ (500 ≤ a ∧ a < 500 + (i + 1)) by omega), if_pos (show (600 ≤ a ∧ a < 600 + (i + 1)) ∨ (700 ≤ a ∧ a < 700 + (i + 1)) ∨ (800 ≤ a ∧ a < 800 + (i + 1)) by omega)]
                · rw [if_neg c3, z1]
                  by_cases c4 : 400 ≤ a ∧ a < 400 + i
                  · rw [if_pos c4, if_pos (show 400 ≤ a ∧ a < 400 + (i + 1) by omega)]
                  · rw [if_neg c4, if_neg (show ¬ (400 ≤ a ∧ a < 400 + (i + 1)) by omega)]
                    by_cases c5 : 500 ≤ a ∧ a < 500 + i
                    · rw [if_pos c5, if_pos (show 500 ≤ a ∧ a < 500 + (i + 1) by omega)]
                    · rw [if_neg c5, if_neg (show ¬ (500 ≤ a ∧ a < 500 + (i + 1)) by omega)]
                      by_cases c6 : (600 ≤ a ∧ a < 600 + i) ∨ (700 ≤ a ∧ a < 700 + i) ∨ (800 ≤ a ∧ a < 800 + i)
                      · rw [if_pos c6, if_pos (show (600 ≤ a ∧ a < 600 + (i + 1)) ∨ (700 ≤ a ∧ a < 700 + (i + 1)) ∨ (800 ≤ a ∧ a < 800 + (i + 1)) by omega)]
                      · rw [if_neg c6, if_neg (show ¬ ((600 ≤ a ∧ a < 600 + (i + 1)) ∨ (700 ≤ a ∧ a < 700 + (i + 1)) ∨ (800 ≤ a ∧ a < 800 + (i + 1))) by omega), if_neg (fun w => c13 w.1), if_neg (fun w => c14 w.1), if_neg (fun w => c13 w.1), if_neg (fun w => c14 w.1)]
      · show gZ I1 0 (400 + i) (500 + i) (600 + i) (700 + i) (800 + i) a k = _
        unfold gZ
        rw [zr_n (by omega), zr_n (by omega), zr_n (by omega), zr_n (by omega), zr_n (by omega)]
        exact z2 a k w)
    (R, 140, I, J) ⟨rfl, fun a k => by rw [if_neg (by omega), if_neg (by omega), if_neg (by omega), if_neg (by omega), if_neg (by omega)], fun _ _ _ => rfl⟩
  simp only at en z1 z2 e1
  subst en
  exact ⟨R1, I1, J1, e1, z1, z2⟩
end CT2
