/-! the constructors' runs -/
theorem zr_s {α : Type} {f : Nat → Nat → α} {a k : Nat} {v : α} : zr2 f a v a k = v := if_pos rfl
theorem zr_n {α : Type} {f : Nat → Nat → α} {a a' k : Nat} {v : α} (h : a' ≠ a) : zr2 f a v a' k = f a' k := if_neg h
theorem RF_c {a k : Nat} (h : 200 ≤ a ∧ a < 260) : RF id a k = if k = 1 then some (a + 100) else none := by
  unfold RF
  rw [if_neg (by omega), if_pos h]
theorem RF_g {a k : Nat} (h : 400 ≤ a ∧ a < 430) : RF id a k = if k = 0 then some (a + 100) else if k = 1 then some (a + 300) else if k = 2 then some (a + 400) else none := by
  unfold RF
  rw [if_neg (by omega), if_neg (by omega), if_pos h]
theorem RF_h {a k : Nat} (h : 500 ≤ a ∧ a < 530) : RF id a k = if k = 0 then some (a + 100) else none := by
  unfold RF
  rw [if_neg (by omega), if_neg (by omega), if_neg (by omega), if_pos h]
theorem RF_v {a k : Nat} (h : 100 ≤ a) (h2 : ¬ (200 ≤ a ∧ a < 260)) (h4 : ¬ (400 ≤ a ∧ a < 430)) (h5 : ¬ (500 ≤ a ∧ a < 530)) : RF id a k = none := by
  unfold RF
  rw [if_neg (by omega), if_neg h2, if_neg h4, if_neg h5]
section CTO
variable {d sl : Nat} {R : Nat → Nat → Option Nat} {I : Nat → Nat → Int32} {J : Nat → Nat → Int64} {σ : Mm}
theorem bow_ok : ((List.range 181).all fun k => decide (¬ Int32.toInt64 (40500 - nI k * (180 - nI k)) = 0 ∧ Int64.toInt32 (4000 * Int32.toInt64 (nI k * (180 - nI k)) / Int32.toInt64 (40500 - nI k * (180 - nI k))) = snB (nI k))) = true := by decide +kernel
theorem rem_ok : ((List.range 630).all fun i => decide (nI i - nI i / 360 * 360 = fmod (nI i))) = true := by decide +kernel
theorem sp_bow {k : Nat} (h : k ≤ 180) : den (d + 1) 25 [.int (nI k)] σ = some (some (.int (snB (nI k))), σ) := by
  obtain ⟨h1, h2⟩ := of_decide_eq_true (List.all_eq_true.mp bow_ok k (List.mem_range.mpr (by omega)))
  rw [K25_0, K170_0, if_neg h1, ck_if (by simpa using h1), evK_s, K25_22, h2]
theorem sp_circle : ∃ I', den (d + 4) 24 [.ref 2] (G sl (zr2 R 2 none) 2 I J) = some (none, G sl (up2 (zr2 (zr2 R 2 none) 3 none) 2 0 (some 3)) 3 I' (zr2 J 3 0)) ∧ (∀ k, k < 630 → I' 3 k = sn (nI k)) ∧ ∀ a k, a ≠ 3 → I' a k = I a k := by
  have hr : up2 (zr2 (zr2 R 2 none) 3 none) 2 0 (some 3) 2 0 = some 3 := up_s
  obtain ⟨x, e1, z1, z2⟩ := for_ex (M := (Nat → Nat → Int32) × Value) (fun j x => ev (d + 4) 24 15 [.ref 2, .int j, x.2] [] (G sl (up2 (zr2 (zr2 R 2 none) 3 none) 2 0 (some 3)) 3 x.1 (zr2 J 3 0))) 630 (fun i x => (∀ k, k < i → x.1 3 k = sn (nI k)) ∧ ∀ a k, a ≠ 3 → x.1 a k = I a k)
    (by
      rintro i ⟨I1, u⟩ hi ⟨z1, z2⟩
      have e := of_decide_eq_true (List.all_eq_true.mp rem_ok i (List.mem_range.mpr hi))
      obtain ⟨q, hq, e2⟩ := fmod_r (nI i)
      have key : ∀ v : Int32, v = sn (nI i) → (∀ k, k < i + 1 → up2 I1 3 i v 3 k = sn (nI k)) ∧ ∀ a k, a ≠ 3 → up2 I1 3 i v a k = I a k := fun v hv => ⟨fun k hk => by
          by_cases c : k = i
          · rw [c, up_s, hv]
          · rw [up_nk c]
            exact z1 k (by omega), fun a k w => by rw [up_na w]; exact z2 a k w⟩
      by_cases c : q ≤ 180
      · refine ⟨(up2 I1 3 i (snB (nI q)), .int (nI q)), ?_, key _ ?_⟩
        · show ev (d + 4) 24 15 [.ref 2, .int (nI i), u] [] (G sl _ 3 I1 _) = _
          rw [K24_15 u hr, if_pos (lt_n hi (by decide)), e, e2, if_pos (show nI q ≤ 180 from nI_le c (by decide)), sp_bow c, evK_s, K24_46 _ _ hi, nI_1]
        · unfold sn
          rw [e2, if_pos (show nI q ≤ 180 from nI_le c (by decide))]
      · have hn : ¬ nI q ≤ 180 := fun w => c ((nI_leI (by omega) (by decide)).mp w)
        have e3 : nI q - 180 = nI (q - 180) := pk_sub (b := 180) (by omega)
        refine ⟨(up2 I1 3 i (-snB (nI (q - 180))), .int (nI q)), ?_, key _ ?_⟩
        · show ev (d + 4) 24 15 [.ref 2, .int (nI i), u] [] (G sl _ 3 I1 _) = _
          rw [K24_15 u hr, if_pos (lt_n hi (by decide)), e, e2, if_neg hn, e3, sp_bow (by omega), evK_s, K24_57 _ _ hi, nI_1]
        · unfold sn
          rw [e2, if_neg hn, e3])
    (zr2 I 3 0, .retAddr 0) ⟨fun k hk => absurd hk (Nat.not_lt_zero k), fun a k w => zr_n w⟩
  refine ⟨x.1, ?_, z1, z2⟩
  rw [K24_0]
  refine Eq.trans e1 ?_
  show ev (d + 4) 24 15 [.ref 2, .int (nI 630), x.2] [] (G sl _ 3 x.1 _) = _
  rw [K24_15 x.2 hr, if_neg (nlt_n (by decide))]
/-- a row of new vectors: any loop whose turn makes the next one and puts it into the row a, which the place (o, w) refers to -/
theorem sp_fill {n a m b o w : Nat} (E : Int32 → Mm → Option (Option Value × Mm)) (hE : ∀ i R1 I1 J1, i < m → R1 o w = some a → E (nI i) (G sl R1 (n + i) I1 J1) = E (nI i + 1) (G sl (up2 (zr2 R1 (b + i) none) a i (some (b + i))) (n + i + 1) (zr2 I1 (b + i) 0) (zr2 J1 (b + i) 0))) (hR : R o w = some a) (hoa : o < a) (hab : a < b) (hm : m < 1000) : ∃ R' I' J', E 0 (G sl R n I J) = E (nI m) (G sl R' (n + m) I' J') ∧ (∀ a' k, R' a' k = if a' = a ∧ k < m then some (b + k) else if b ≤ a' ∧ a' < b + m then none else R a' k) ∧ ∀ a' k, ¬ (b ≤ a' ∧ a' < b + m) → I' a' k = I a' k := by
  obtain ⟨⟨R1, n1, I1, J1⟩, e1, en, z1, z2⟩ := for_ex (M := (Nat → Nat → Option Nat) × Nat × (Nat → Nat → Int32) × (Nat → Nat → Int64)) (fun j x => E j (G sl x.1 x.2.1 x.2.2.1 x.2.2.2)) m (fun i x => x.2.1 = n + i ∧ (∀ a' k, x.1 a' k = if a' = a ∧ k < i then some (b + k) else if b ≤ a' ∧ a' < b + i then none else R a' k) ∧ ∀ a' k, ¬ (b ≤ a' ∧ a' < b + i) → x.2.2.1 a' k = I a' k)
    (by
      rintro i ⟨R1, n1, I1, J1⟩ hi ⟨en, z1, z2⟩
      simp only at en z1 z2
      subst en
      refine ⟨(up2 (zr2 R1 (b + i) none) a i (some (b + i)), n + i + 1, zr2 I1 (b + i) 0, zr2 J1 (b + i) 0), ?_, rfl, fun a' k => ?_, fun a' k w => ?_⟩
      · show E (nI i) (G sl R1 (n + i) I1 J1) = _
        rw [hE i R1 I1 J1 hi (by rw [z1, if_neg (by omega), if_neg (by omega)]; exact hR), nI_1]
      · show up2 (zr2 R1 (b + i) none) a i (some (b + i)) a' k = _
        by_cases c1 : a' = a ∧ k = i
        · rw [c1.1, c1.2, up_s, if_pos (by omega)]
        · rw [up_n c1]
          by_cases c2 : a' = b + i
          · rw [c2, zr_s, if_neg (by omega), if_pos (by omega)]
          · rw [zr_n c2, z1]
            by_cases c3 : a' = a ∧ k < i
            · rw [if_pos c3, if_pos (show a' = a ∧ k < i + 1 by omega)]
            · rw [if_neg c3, if_neg (show ¬ (a' = a ∧ k < i + 1) by omega)]
              by_cases c4 : b ≤ a' ∧ a' < b + i
              · rw [if_pos c4, if_pos (show b ≤ a' ∧ a' < b + (i + 1) by omega)]
              · rw [if_neg c4, if_neg (show ¬ (b ≤ a' ∧ a' < b + (i + 1)) by omega)]
      · show zr2 I1 (b + i) 0 a' k = _
        rw [zr_n (by omega)]
        exact z2 a' k (by omega))
    (R, n, I, J) ⟨rfl, fun a' k => by rw [if_neg (by omega), if_neg (by omega)], fun _ _ _ => rfl⟩
  simp only at en z1 z2 e1
  subst en
  exact ⟨R1, I1, J1, e1, z1, z2⟩
theorem pr_fill8 : (∀ i, i ≤ 6 → arn (8 + i) 8 4 6 ∧ obn (8 + i) 4 8) ∧ ∀ i, i < 6 → nwo (8 + i) (100 + i) 0 := by
  have h1 : ((List.range 7).all fun i => decide ((SH 8 = (4, 6) ∧ pos 8 < 8 + i ∧ 8 ≠ 0) ∧ SH 4 = (1, 8) ∧ pos 4 < 8 + i)) = true := by decide +kernel
  have h2 : ((List.range 6).all fun i => decide (8 + i < NT ∧ ADR (8 + i) = 100 + i ∧ SH (100 + i) = (1, 0))) = true := by decide +kernel
  refine ⟨fun i hi => ?_, fun i hi => ?_⟩
  · have := of_decide_eq_true (List.all_eq_true.mp h1 i (List.mem_range.mpr (by omega)))
    exact this
  · have := of_decide_eq_true (List.all_eq_true.mp h2 i (List.mem_range.mpr (by omega)))
    exact this
theorem pr_fill24 : (∀ i, i ≤ 30 → arn (300 + i) 24 4 30 ∧ obn (300 + i) 22 6) ∧ ∀ i, i < 30 → nwo (300 + i) (900 + i) 0 := by
  have h1 : ((List.range 31).all fun i => decide ((SH 24 = (4, 30) ∧ pos 24 < 300 + i ∧ 24 ≠ 0) ∧ SH 22 = (1, 6) ∧ pos 22 < 300 + i)) = true := by decide +kernel
  have h2 : ((List.range 30).all fun i => decide (300 + i < NT ∧ ADR (300 + i) = 900 + i ∧ SH (900 + i) = (1, 0))) = true := by decide +kernel
  refine ⟨fun i hi => ?_, fun i hi => ?_⟩
  · have := of_decide_eq_true (List.all_eq_true.mp h1 i (List.mem_range.mpr (by omega)))
    exact this
  · have := of_decide_eq_true (List.all_eq_true.mp h2 i (List.mem_range.mpr (by omega)))
    exact this
theorem sp_fill8 (hR : R 4 4 = some 8) : ∃ R' I' J', ev (d + 4) 58 44 [.ref 4, .ref 2, .int 0] [] (G sl R 8 I J) = ev (d + 4) 58 44 [.ref 4, .ref 2, .int (nI 6)] [] (G sl R' 14 I' J') ∧ (∀ a' k, R' a' k = if a' = 8 ∧ k < 6 then some (100 + k) else if 100 ≤ a' ∧ a' < 100 + 6 then none else R a' k) ∧ ∀ a' k, ¬ (100 ≤ a' ∧ a' < 100 + 6) → I' a' k = I a' k :=
  sp_fill (n := 8) (a := 8) (m := 6) (b := 100) (o := 4) (w := 4) (fun j σ => ev (d + 4) 58 44 [.ref 4, .ref 2, .int j] [] σ) (fun i R1 I1 J1 hi hr => by
    show ev (d + 4) 58 44 [.ref 4, .ref 2, .int (nI i)] [] _ = _
    rw [K58_44, if_pos (show nI i < 6 from lt_n (n := 6) hi (by decide)), K58_50 (pr_fill8.1 i (by omega)).2 (show arn (8 + i + 1) 8 4 6 from (pr_fill8.1 (i + 1) (by omega)).1) hi hr (pr_fill8.2 i hi)]) hR (by decide) (by decide) (by decide)
theorem sp_fill24 (hR : R 22 4 = some 24) : ∃ R' I' J', ev (d + 4) 38 39 [.ref 22, .ref 4, .ref 11, .ref 2, .int 0] [] (G sl R 300 I J) = ev (d + 4) 38 39 [.ref 22, .ref 4, .ref 11, .ref 2, .int (nI 30)] [] (G sl R' 330 I' J') ∧ (∀ a' k, R' a' k = if a' = 24 ∧ k < 30 then some (900 + k) else if 900 ≤ a' ∧ a' < 900 + 30 then none else R a' k) ∧ ∀ a' k, ¬ (900 ≤ a' ∧ a' < 900 + 30) → I' a' k = I a' k :=
  sp_fill (n := 300) (a := 24) (m := 30) (b := 900) (o := 22) (w := 4) (fun j σ => ev (d + 4) 38 39 [.ref 22, .ref 4, .ref 11, .ref 2, .int j] [] σ) (fun i R1 I1 J1 hi hr => by
    show ev (d + 4) 38 39 [.ref 22, .ref 4, .ref 11, .ref 2, .int (nI i)] [] _ = _
    rw [K38_39, if_pos (show nI i < 30 from lt_n (n := 30) hi (by decide)), K38_46 (pr_fill24.1 i (by omega)).2 (show arn (300 + i + 1) 24 4 30 from (pr_fill24.1 (i + 1) (by omega)).1) hi hr (pr_fill24.2 i hi)]) hR (by decide) (by decide) (by decide)
/-- the row of cracks -/
theorem sp_cracks (hr : R 4 5 = some 9) : ∃ R' I' J', ev (d + 4) 58 80 [.ref 4, .ref 2, .int 0] [] (G sl R 15 I J) = ev (d + 4) 58 80 [.ref 4, .ref 2, .int (nI 60)] [] (G sl R' 135 I' J') ∧ (∀ a k, R' a k = if 200 ≤ a ∧ a < 260 then (if k = 1 then some (a + 100) else none) else if 300 ≤ a ∧ a < 360 then none else if a = 9 ∧ k < 60 then some (200 + k) else R a k) ∧ (∀ a k, ¬ (200 ≤ a ∧ a < 260) → ¬ (300 ≤ a ∧ a < 360) → I' a k = I a k) ∧ ∀ j, j < 60 → I' (200 + j) 0 = nI j := by
  obtain ⟨⟨R1, n1, I1, J1⟩, e1, en, z1, z2, z3⟩ := for_ex (M := (Nat → Nat → Option Nat) × Nat × (Nat → Nat → Int32) × (Nat → Nat → Int64)) (fun j x => ev (d + 4) 58 80 [.ref 4, .ref 2, .int j] [] (G sl x.1 x.2.1 x.2.2.1 x.2.2.2)) 60 (fun i x => x.2.1 = 15 + 2 * i ∧ (∀ a k, x.1 a k = if 200 ≤ a ∧ a < 200 + i then (if k = 1 then some (a + 100) else none) else if 300 ≤ a ∧ a < 300 + i then none else if a = 9 ∧ k < i then some (200 + k) else R a k) ∧ (∀ a k, ¬ (200 ≤ a ∧ a < 260) → ¬ (300 ≤ a ∧ a < 360) → x.2.2.1 a k = I a k) ∧ ∀ j, j < i → x.2.2.1 (200 + j) 0 = nI j)
    (by
      rintro i ⟨R1, n1, I1, J1⟩ hi ⟨en, z1, z2, z3⟩
      simp only at en z1 z2 z3
      subst en
      obtain ⟨q1, q2, q3, q4⟩ := pr_crack hi
      refine ⟨(up2 (up2 (zr2 (zr2 R1 (200 + i) none) (300 + i) none) (200 + i) 1 (some (300 + i))) 9 i (some (200 + i)), 15 + 2 * i + 1 + 1, zr2 (up2 (zr2 I1 (200 + i) 0) (200 + i) 0 (nI i)) (300 + i) 0, zr2 (zr2 J1 (200 + i) 0) (300 + i) 0), ?_, rfl, fun a k => ?_, fun a k w1 w2 => ?_, fun j hj => ?_⟩
      · show ev (d + 4) 58 80 [.ref 4, .ref 2, .int (nI i)] [] (G sl R1 (15 + 2 * i) I1 J1) = _
        rw [K58_80, if_pos (show nI i < 60 from lt_n (n := 60) hi (by decide)), K58_86 q3 (by rw [z1, if_neg (by omega), if_neg (by omega), if_neg (by omega)]; exact hr) q1, K9_0 _ (nwo_ob q1) q2, evK_v, K58_99 (obn_s (nwo_ob q1)) q4 hi, nI_1]
      · show up2 (up2 (zr2 (zr2 R1 (200 + i) none) (300 + i) none) (200 + i) 1 (some (300 + i))) 9 i (some (200 + i)) a k = _
        by_cases c0 : a = 9
        · subst c0
          rw [if_neg (by omega), if_neg (by omega)]
          by_cases c : k = i
          · rw [c, up_s, if_pos (by omega)]
          · rw [up_nk c, up_na (by omega), zr_n (by omega), zr_n (by omega), z1, if_neg (by omega), if_neg (by omega)]
            by_cases c' : k < i
            · rw [if_pos (show 9 = 9 ∧ k < i by omega), if_pos (show 9 = 9 ∧ k < i + 1 by omega)]
            · rw [if_neg (show ¬ (9 = 9 ∧ k < i) by omega), if_neg (show ¬ (9 = 9 ∧ k < i + 1) by omega)]
        · rw [up_na c0]
          by_cases c1 : a = 200 + i
          · subst c1
            rw [if_pos (by omega)]
            by_cases c : k = 1
            · rw [c, up_s, if_pos rfl]
              congr 1
              omega
            · rw [up_nk c, if_neg c, zr_n (by omega), zr_s]
          · rw [up_na c1]
            by_cases c2 : a = 300 + i
            · rw [c2, zr_s, if_neg (by omega), if_pos (by omega)]
            · rw [zr_n c2, zr_n c1, z1]
              by_cases c3 : 200 ≤ a ∧ a < 200 + i
              · rw [if_pos c3, if_pos (show 200 ≤ a ∧ a < 200 + (i + 1) by omega)]
              · rw [if_neg c3, if_neg (show ¬ (200 ≤ a ∧ a < 200 + (i + 1)) by omega)]
                by_cases c4 : 300 ≤ a ∧ a < 300 + i
                · rw [if_pos c4, if_pos (show 300 ≤ a ∧ a < 300 + (i + 1) by omega)]
                · rw [if_neg c4, if_neg (show ¬ (300 ≤ a ∧ a < 300 + (i + 1)) by omega), if_neg (show ¬ (a = 9 ∧ k < i) by omega), if_neg (show ¬ (a = 9 ∧ k < i + 1) by omega)]
      · show zr2 (up2 (zr2 I1 (200 + i) 0) (200 + i) 0 (nI i)) (300 + i) 0 a k = _
        rw [zr_n (by omega), up_na (by omega), zr_n (by omega)]
        exact z2 a k w1 w2
      · show zr2 (up2 (zr2 I1 (200 + i) 0) (200 + i) 0 (nI i)) (300 + i) 0 (200 + j) 0 = _
        rw [zr_n (by omega)]
        by_cases c : j = i
        · rw [c, up_s]
        · rw [up_na (by omega), zr_n (by omega)]
          exact z3 j (by omega))
    (R, 15, I, J) ⟨rfl, fun a k => by rw [if_neg (by omega), if_neg (by omega), if_neg (by omega)], fun _ _ _ _ => rfl, fun j hj => absurd hj (Nat.not_lt_zero j)⟩
  simp only at en z1 z2 z3 e1
  subst en
  exact ⟨R1, I1, J1, e1, z1, z2, z3⟩
end CTO
