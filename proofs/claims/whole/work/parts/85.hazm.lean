/-! hazards in the model -/
def V46 (I : Nat → Nat → Int32) (v : V3) : Prop := I 46 23 = v.1.toInt32 ∧ I 46 24 = v.2.1.toInt32 ∧ I 46 25 = v.2.2.toInt32
theorem V46_s {I : Nat → Nat → Int32} {v : V3} (h : V46 I v) : set3v I v = I := by
  unfold set3v set3
  rw [← h.1, ← h.2.1, ← h.2.2, up_id, up_id, up_id]
section HAZM
variable {d sl : Nat} {p : Nat → Nat} {I I' : Nat → Nat → Int32} {J J' : Nat → Nat → Int64} {D : Nat → Nat → Int32} {e : Nat}
theorem M_dip46 {v : V3} (h : V46 I v) (hw : bw v) : den (d + 5) 225 [.ref 46] (S sl p I J) = some (some (.int (nI (dpv v))), S sl p I J) := by
  have := sp_dipOf (d := d) (sl := sl) (p := p) (I := I) (J := J) hw
  rw [V46_s h] at this
  exact this
theorem M_dir46 {v : V3} (h : V46 I v) (hw : bw v) : den (d + 6) 226 [.ref 46] (S sl p I J) = some (some (.int (nI (drv v))), S sl p I J) := by
  have := sp_directionOf (d := d) (sl := sl) (p := p) (I := I) (J := J) hw
  rw [V46_s h] at this
  exact this
theorem M_trd46 {v : V3} (h : V46 I v) (hw : bw v) : den (d + 4) 223 [.ref 46] (S sl p I J) = some (some (.int (nI (trd v))), S sl p I J) := by
  have := sp_trendOf (d := d) (sl := sl) (p := p) (I := I) (J := J) hw
  rw [V46_s h] at this
  exact this
theorem M_pg46 {v : V3} (h : V46 I v) (hw : bw v) : den (d + 5) 288 [.ref 46] (S sl p I J) = some (some (.int (nI (pgv v))), S sl p I J) := by
  have := sp_plungeOfM (d := d) (sl := sl) (p := p) (I := I) (J := J) hw
  rw [V46_s h] at this
  exact this
def MzC (I : Nat → Nat → Int32) (D : Nat → Nat → Int32) (P : Nat → Nat → Prop) : Prop := ∀ a b, a < b → b < nst D → P a b → ((wdV D a b).1 = 0 ∧ (wdV D a b).2.1 = 0 ∧ (wdV D a b).2.2 = 0 ∧ I 71 (30 * a + b) = -1) ∨ (¬ ((wdV D a b).1 = 0 ∧ (wdV D a b).2.1 = 0 ∧ (wdV D a b).2.2 = 0) ∧ I 71 (30 * a + b) = nI (trd (wdV D a b)) ∧ I 72 (30 * a + b) = nI (pgv (wdV D a b)))
def LsA (I : Nat → Nat → Int32) (D : Nat → Nat → Int32) : Prop := (SetAt I D) ∧ (∀ s, s < nst D → I 69 s = nI (drv (meO D s)) ∧ I 70 s = nI (dpv (meO D s))) ∧ (MzC I D (fun _ _ => True))
theorem LsA.st {I : Nat → Nat → Int32} {D : Nat → Nat → Int32} (h : LsA I D) : SetAt I D := h.1
theorem LsA.li {I : Nat → Nat → Int32} {D : Nat → Nat → Int32} (h : LsA I D) : ∀ s, s < nst D → I 69 s = nI (drv (meO D s)) ∧ I 70 s = nI (dpv (meO D s)) := h.2.1
theorem LsA.wd {I : Nat → Nat → Int32} {D : Nat → Nat → Int32} (h : LsA I D) : MzC I D (fun _ _ => True) := h.2.2
theorem M_lies (hD : GD D) (hL : LabD D) (h : dat I = D) : ∃ I' J', den (d + 11) 292 [.ref 46] (S sl p I J) = some (none, S sl p I' J') ∧ dat I' = D ∧ LsA I' D ∧ Fm I J I' J' := by
  have n60 := hD.n60
  have h30 := nst_30 hD hL
  obtain ⟨I1, J1, a1, a2, a3, a4, a5⟩ := M_means (d := d) (sl := sl) (p := p) (J := J) hD h
  obtain ⟨I2, b1, b2, b3⟩ := for_ex (M := Nat → Nat → Int32) (fun k x => ev (d + 11) 292 6 [.ref 46, .int k, .retAddr 0, .retAddr 0] [] (S sl p x J1)) (nst D) (fun k x => (∀ s, s < k → x 69 s = nI (drv (meO D s)) ∧ x 70 s = nI (dpv (meO D s))) ∧ ∀ a k, ¬ (a = 46 ∧ 23 ≤ k ∧ k < 26) → a ≠ 69 → a ≠ 70 → x a k = I1 a k)
    (by
      rintro k x hk ⟨g1, g2⟩
      have hw := bv_w (meO_b hD hL hk)
      have em : mvI x k = meO D k := by
        rw [← a4.v hk (meO_b hD hL hk)]
        unfold mvI
        rw [g2 _ _ (by omega) (by omega) (by omega), g2 _ _ (by omega) (by omega) (by omega), g2 _ _ (by omega) (by omega) (by omega)]
      rw [E292_6, g2 _ _ (by omega) (by omega) (by omega), a3.e31, if_pos (lt_n hk (by omega)), M_layMean (by omega), evK_v, em, E292_19, sp_directionOf hw, evK_s, E292_28, ck_if (ixb_n (by omega) (by decide)), cl_n (by omega)]
      have hv : V46 (up2 (set3v x (meO D k)) 69 k (nI (drv (meO D k)))) (meO D k) := ⟨by rw [up_na (by omega)]; exact set3v_r.1, by rw [up_na (by omega)]; exact set3v_r.2.1, by rw [up_na (by omega)]; exact set3v_r.2.2⟩
      rw [M_dip46 hv hw, evK_s, E292_38, ck_if (ixb_n (by omega) (by decide)), cl_n (by omega), nI_1]
      refine ⟨_, rfl, fun s hs => ?_, fun a j w1 w2 w3 => by rw [up_na w3, up_na w2, set3v_n w1]; exact g2 a j w1 w2 w3⟩
      by_cases q : s = k
      · rw [q, up_na (by omega), up_s, up_s]
        exact ⟨rfl, rfl⟩
      · rw [up_na (by omega), up_nk q, up_nk q, up_na (by omega), set3v_n (by omega), set3v_n (by omega)]
        exact g1 s (by omega))
    I1 ⟨fun _ w => absurd w (Nat.not_lt_zero _), fun _ _ _ _ _ => rfl⟩
  have hM2 : ∀ {x : Nat → Nat → Int32}, (∀ a k, ¬ (a = 46 ∧ 23 ≤ k ∧ k < 26) → a ≠ 69 → a ≠ 70 → a ≠ 71 → a ≠ 72 → x a k = I1 a k) → MeanAt x D (nst D) := fun hx => ⟨fun s hs => by rw [hx _ _ (by omega) (by omega) (by omega) (by omega) (by omega)]; exact a4.x s hs, fun s hs => by rw [hx _ _ (by omega) (by omega) (by omega) (by omega) (by omega)]; exact a4.y s hs, fun s hs => by rw [hx _ _ (by omega) (by omega) (by omega) (by omega) (by omega)]; exact a4.z s hs⟩
  obtain ⟨I3, c1, c2, c3, c4⟩ := dbl (M := Nat → Nat → Int32) (fun a x => ev (d + 11) 292 47 [.ref 46, .int a, .retAddr 0, .retAddr 0] [] (S sl p x J1)) (fun a b x => ev (d + 11) 292 59 [.ref 46, .int a, .int b, .retAddr 0] [] (S sl p x J1)) (nst D)
    (fun a j x => MzC x D (fun a' b' => a' < a ∨ (a' = a ∧ b' < a + 1 + j)) ∧ (∀ s, s < nst D → x 69 s = nI (drv (meO D s)) ∧ x 70 s = nI (dpv (meO D s))) ∧ ∀ a k, ¬ (a = 46 ∧ 23 ≤ k ∧ k < 26) → a ≠ 69 → a ≠ 70 → a ≠ 71 → a ≠ 72 → x a k = I1 a k)
    (by
      rintro a x ha ⟨g1, g2, g3⟩
      have e31 : x 46 31 = nI (nst D) := by rw [g3 _ _ (by omega) (by omega) (by omega) (by omega) (by omega)]; exact a3.e31
      rw [E292_47, e31, if_pos (lt_n ha (by omega)), nI_1])
    (by
      rintro a j x hj ⟨g1, g2, g3⟩
      have hw := wdV_w hD hL (show a < nst D by omega) hj
      have e31 : x 46 31 = nI (nst D) := by rw [g3 _ _ (by omega) (by omega) (by omega) (by omega) (by omega)]; exact a3.e31
      have el := M_wedgeL (d := d + 8) (sl := sl) (p := p) (J := J1) hD hL (hM2 g3) (show a < nst D by omega) hj
      rw [if_neg (show ¬ a + 1 + j < a by omega), if_pos (show a < a + 1 + j by omega)] at el
      have e30 : (30 : Int32) * nI a + nI (a + 1 + j) = nI (30 * a + (a + 1 + j)) := by rw [show (30 : Int32) = nI 30 from rfl, nI_mul, nI_add]
      rw [E292_59, e31, if_pos (lt_n hj (by omega)), el, evK_s, E292_73, e30]
      have hv : V46 (set3v x (wdV D a (a + 1 + j))) (wdV D a (a + 1 + j)) := set3v_r
      have hn : ∀ b k, ¬ (b = 46 ∧ 23 ≤ k ∧ k < 26) → set3v x (wdV D a (a + 1 + j)) b k = x b k := fun b k w => set3v_n w
      generalize set3v x (wdV D a (a + 1 + j)) = y at hv hn
      have fin : ∀ z : Nat → Nat → Int32, (∀ b k, ¬ (b = 46 ∧ 23 ≤ k ∧ k < 26) → ¬ ((b = 71 ∨ b = 72) ∧ k = 30 * a + (a + 1 + j)) → z b k = x b k) → (((wdV D a (a + 1 + j)).1 = 0 ∧ (wdV D a (a + 1 + j)).2.1 = 0 ∧ (wdV D a (a + 1 + j)).2.2 = 0 ∧ z 71 (30 * a + (a + 1 + j)) = -1) ∨ (¬ ((wdV D a (a + 1 + j)).1 = 0 ∧ (wdV D a (a + 1 + j)).2.1 = 0 ∧ (wdV D a (a + 1 + j)).2.2 = 0) ∧ z 71 (30 * a + (a + 1 + j)) = nI (trd (wdV D a (a + 1 + j))) ∧ z 72 (30 * a + (a + 1 + j)) = nI (pgv (wdV D a (a + 1 + j))))) → MzC z D (fun a' b' => a' < a ∨ (a' = a ∧ b' < a + 1 + (j + 1))) ∧ (∀ s, s < nst D → z 69 s = nI (drv (meO D s)) ∧ z 70 s = nI (dpv (meO D s))) ∧ ∀ a k, ¬ (a = 46 ∧ 23 ≤ k ∧ k < 26) → a ≠ 69 → a ≠ 70 → a ≠ 71 → a ≠ 72 → z a k = I1 a k := by
        intro z hz hzz
        refine ⟨fun a' b' h1 h2 h3 => ?_, fun s hs => by rw [hz _ _ (by omega) (by omega), hz _ _ (by omega) (by omega)]; exact g2 s hs, fun b k w1 w2 w3 w4 w5 => by rw [hz _ _ w1 (by omega)]; exact g3 b k w1 w2 w3 w4 w5⟩
        by_cases c : a' = a ∧ b' = a + 1 + j
        · rw [c.1, c.2]
          exact hzz
        · rw [hz 71 _ (by omega) (by omega), hz 72 _ (by omega) (by omega)]
          exact g1 a' b' h1 h2 (by omega)
      by_cases hz : (wdV D a (a + 1 + j)).1 = 0 ∧ (wdV D a (a + 1 + j)).2.1 = 0 ∧ (wdV D a (a + 1 + j)).2.2 = 0
      · have e0 := zr_0.mpr hz
        rw [e0, if_pos rfl, E292_96, ck_if (ixb_n (by omega) (by decide)), if_pos rfl, e30, ck_if (ixb_n (by omega) (by decide)), cl_n (by omega), nI_1]
        exact ⟨_, rfl, fin _ (fun b k w1 w2 => by rw [up_n (by omega), up_n (by omega)]; exact hn b k w1) (Or.inl ⟨hz.1, hz.2.1, hz.2.2, by rw [up_na (by omega), up_s]⟩)⟩
      · have e0 := zr_1 hz
        rw [e0, if_neg (by decide), M_trd46 hv hw, evK_s, E292_92, E292_96, ck_if (ixb_n (by omega) (by decide)), if_neg (by decide), e30, cl_n (by omega)]
        have hv2 : V46 (up2 y 71 (30 * a + (a + 1 + j)) (nI (trd (wdV D a (a + 1 + j))))) (wdV D a (a + 1 + j)) := ⟨by rw [up_na (by omega)]; exact hv.1, by rw [up_na (by omega)]; exact hv.2.1, by rw [up_na (by omega)]; exact hv.2.2⟩
        rw [M_pg46 hv2 hw, evK_s, E292_115, ck_if (ixb_n (by omega) (by decide)), cl_n (by omega), nI_1]
        exact ⟨_, rfl, fin _ (fun b k w1 w2 => by rw [up_n (by omega), up_n (by omega)]; exact hn b k w1) (Or.inr ⟨hz, by rw [up_na (by omega), up_s], up_s⟩)⟩)
    (by
      rintro a x ha ⟨g1, g2, g3⟩
      have e31 : x 46 31 = nI (nst D) := by rw [g3 _ _ (by omega) (by omega) (by omega) (by omega) (by omega)]; exact a3.e31
      exact ⟨by rw [E292_59, e31, if_neg (nlt_n (by omega)), nI_1], fun a' b' h1 h2 h3 => g1 a' b' h1 h2 (by omega), g2, g3⟩)
    I2 ⟨fun a' b' h1 h2 h3 => absurd h3 (by omega), b2, fun a k w1 w2 w3 w4 w5 => b3 a k w1 w2 w3⟩
  have e31 : I3 46 31 = nI (nst D) := by rw [c4 _ _ (by omega) (by omega) (by omega) (by omega) (by omega)]; exact a3.e31
  have e31' : I2 46 31 = nI (nst D) := by rw [b3 _ _ (by omega) (by omega) (by omega)]; exact a3.e31
  refine ⟨I3, J1, ?_, ?_, ⟨a3.fr (c4 _ _ (by omega) (by omega) (by omega) (by omega) (by omega)) (fun k => c4 _ _ (by omega) (by omega) (by omega) (by omega) (by omega)), c3, fun a b h1 h2 _ => c2 a b h1 h2 (Or.inl (by omega))⟩, a5.trans ⟨fun a k w => c4 _ _ (by omega) (by omega) (by omega) (by omega) (by omega), fun _ _ _ => rfl⟩⟩
  · rw [E292_0, a1, evK_v, E292_4, b1, E292_6, e31', if_neg (nlt_n (by omega)), c1, E292_47, e31, if_neg (nlt_n (by omega))]
  · rw [← a2]
    funext a k
    unfold dat
    split
    · exact c4 _ _ (by omega) (by omega) (by omega) (by omega) (by omega)
    · rfl
theorem or0 (x : Int32) : x ||| 0 = x := Int32.or_zero
theorem M_slidingBy (hD : GD D) (hL : LabD D) (h : dat I = D) (hA : LsA I D) {x : Nat} (hx : x ≤ 540) (y : Nat) : den (d + 2) 294 [.ref 46, .int (nI x), .int (nI y)] (S sl p I J) = some (some (.int (biN (slB D x y) (nst D))), S sl p I J) := by
  have n60 := hD.n60
  have h30 := nst_30 hD hL
  obtain ⟨u, e1, g1⟩ := for_ex (M := Int32) (fun k u => ev (d + 2) 294 5 [.ref 46, .int (nI x), .int (nI y), .int u, .int k] [] (S sl p I J)) (nst D) (fun k u => u = biN (slB D x y) k)
    (by
      intro k u hk hu
      refine ⟨biN (slB D x y) (k + 1), ?_, rfl⟩
      have es : biN (slB D x y) (k + 1) = if slB D x y k = true then biN (slB D x y) k ||| (1 <<< (nI k &&& 31)) else biN (slB D x y) k := rfl
      rw [E294_5, hA.st.e31, if_pos (lt_n hk (by omega)), ck_if (ixb_n (by omega) (by decide)), cl_n (by omega), (hA.li k hk).1, M_off (drv_lt _) hx, evK_s, E294_26, d6 h (by omega), d6 h (by omega), cl_n (by omega), (hA.li k hk).2, es, hu, or0, nI_1]
      by_cases q3 : ofV (nI (drv (meO D k))) (nI x) ≤ D 46 9
      · rw [if_pos q3, ck_if (ixb_n (by omega) (by decide))]
        by_cases q1 : nI (dpv (meO D k)) ≤ D 46 8
        · rw [if_pos q1, if_neg (by unfold slB; simp [q1])]
        · rw [if_neg q1, ck_if (ixb_n (by omega) (by decide))]
          by_cases q2 : nI (dpv (meO D k)) < nI y
          · rw [if_pos q2, if_pos (by unfold slB; simp [q1, q2, q3])]
          · rw [if_neg q2, if_neg (by unfold slB; simp [q2])]
      · rw [if_neg q3, if_neg (by unfold slB; simp [q3])])
    0 rfl
  rw [E294_0, e1, E294_5, hA.st.e31, if_neg (nlt_n (by omega)), g1]
theorem M_topplingBy (hD : GD D) (hL : LabD D) (h : dat I = D) (hA : LsA I D) {x : Nat} (hx : x < 360) (y : Nat) : den (d + 2) 295 [.ref 46, .int (nI x), .int (nI y)] (S sl p I J) = some (some (.int (biN (tpB D x y) (nst D))), S sl p I J) := by
  have n60 := hD.n60
  have h30 := nst_30 hD hL
  obtain ⟨u, e1, g1⟩ := for_ex (M := Int32) (fun k u => ev (d + 2) 295 5 [.ref 46, .int (nI x), .int (nI y), .int u, .int k] [] (S sl p I J)) (nst D) (fun k u => u = biN (tpB D x y) k)
    (by
      intro k u hk hu
      refine ⟨biN (tpB D x y) (k + 1), ?_, rfl⟩
      have es : biN (tpB D x y) (k + 1) = if tpB D x y k = true then biN (tpB D x y) k ||| (1 <<< (nI k &&& 31)) else biN (tpB D x y) k := rfl
      rw [E295_5, hA.st.e31, if_pos (lt_n hk (by omega)), ck_if (ixb_n (by omega) (by decide)), cl_n (by omega), (hA.li k hk).1, show nI x + 180 = nI (x + 180) from nI_add x 180, M_off (drv_lt _) (by omega), evK_s, E295_30, d6 h (by omega), d6 h (by omega), cl_n (by omega), (hA.li k hk).2, es, hu, or0, nI_1]
      by_cases q3 : ofV (nI (drv (meO D k))) (nI (x + 180)) ≤ D 46 9
      · rw [if_pos q3, ck_if (ixb_n (by omega) (by decide))]
        by_cases q1 : nI y - D 46 8 < 90 - nI (dpv (meO D k))
        · rw [if_pos q1, if_neg (by unfold tpB; simp [q1])]
        · rw [if_neg q1, if_pos (by unfold tpB; simp [q1, q3])]
      · rw [if_neg q3, if_neg (by unfold tpB; simp [q3])])
    0 rfl
  rw [E295_0, e1, E295_5, hA.st.e31, if_neg (nlt_n (by omega)), g1]
theorem mulc {a b : Int32} (ha : -1000 ≤ a.toInt ∧ a.toInt ≤ 1000) (hb : -1000 ≤ b.toInt ∧ b.toInt ≤ 1000) : (a * b).toInt64 = a.toInt64 * b.toInt64 := by
  have hp := prod_b ha hb
  apply Int64.toInt_inj.mp
  rw [i64_of, mul32 (by omega) (by omega), mul64 (by rw [i64_of, i64_of]; omega) (by rw [i64_of, i64_of]; omega), i64_of, i64_of]
theorem M_slides (hD : GD D) (hL : LabD D) (h : dat I = D) (hA : LsA I D) {a b x y : Nat} (hab : a < b) (hb : b < nst D) (hx : x < 360) (hy : y ≤ 90) : den (d + 4) 296 [.ref 46, .int (nI a), .int (nI b), .int (nI x), .int (nI y)] (S sl p I J) = some (some (.int (if wsB D x y a b = true then 1 else 0)), S sl p I J) := by
  have n60 := hD.n60
  have h30 := nst_30 hD hL
  have e30 : (30 : Int32) * nI a + nI b = nI (30 * a + b) := by rw [show (30 : Int32) = nI 30 from rfl, nI_mul, nI_add]
  rw [E296_0, e30, ck_if (ixb_n (by omega) (by decide)), ck_if (ixb_n (by omega) (by decide)), cl_n (by omega)]
  unfold wsB
  rcases hA.wd a b hab hb trivial with ⟨z1, z2, z3, z4⟩ | ⟨z1, z2, z3⟩
  · rw [z4, if_pos rfl, if_neg (by unfold wsP; simp [z1, z2, z3])]
  · have ht := trd_lt (wdV D a b)
    have hp := pgv_le (wdV D a b)
    rw [z2, if_neg (nI_m1 (by omega)), z3, M_off ht (by omega), evK_s, E296_40, d6 h (by omega)]
    by_cases q2 : ofV (nI (trd (wdV D a b))) (nI x) < 90
    · rw [if_pos q2]
      by_cases q1 : nI (pgv (wdV D a b)) ≤ D 46 8
      · rw [if_pos q1, if_neg (by unfold wsP; simp [q1])]
      · rw [if_neg q1, sp_sine, evK_s, E296_63, sp_cosine, evK_s, E296_68, sp_sine, evK_s, E296_79, sp_cosine, evK_s, E296_85, sp_cosine, evK_s, E296_92, mulc (sn_b _) (cs_b _)]
        by_cases q3 : (sn (nI (pgv (wdV D a b)))).toInt64 * (cs (nI y)).toInt64 * 1000 < (sn (nI y)).toInt64 * (cs (ofV (nI (trd (wdV D a b))) (nI x))).toInt64 * (cs (nI (pgv (wdV D a b)))).toInt64
        · have hT : wsP D x y (wdV D a b) = true := by
            unfold wsP
            rw [decide_eq_true q2, decide_eq_true q3, decide_eq_false q1, decide_eq_false z1]
            rfl
          rw [if_pos q3, if_pos hT]
        · have hT : ¬ wsP D x y (wdV D a b) = true := by
            unfold wsP
            rw [decide_eq_false q3, Bool.and_false]
            decide
          rw [if_neg q3, if_neg hT]
    · have hT : ¬ wsP D x y (wdV D a b) = true := by
        unfold wsP
        rw [decide_eq_false q2, Bool.and_false, Bool.false_and]
        decide
      rw [if_neg q2, if_neg hT]
theorem M_countW (hD : GD D) (hL : LabD D) (h : dat I = D) (hA : LsA I D) {x y : Nat} (hx : x < 360) (hy : y ≤ 90) : den (d + 5) 297 [.ref 46, .int (nI x), .int (nI y)] (S sl p I J) = some (some (.int (nI (smN (wcN D x y) (nst D)))), S sl p I J) := by
  have n60 := hD.n60
  have h30 := nst_30 hD hL
  obtain ⟨u, e1, g1⟩ := dbl (M := Int32) (fun a u => ev (d + 5) 297 5 [.ref 46, .int (nI x), .int (nI y), .int u, .int a, .retAddr 0] [] (S sl p I J)) (fun a b u => ev (d + 5) 297 20 [.ref 46, .int (nI x), .int (nI y), .int u, .int a, .int b] [] (S sl p I J)) (nst D) (fun a j u => u = nI (smN (wcN D x y) a + cnt (fun j => wsB D x y a (a + 1 + j)) j))
    (by
      intro a u ha _
      rw [E297_5, hA.st.e31, if_pos (lt_n ha (by omega)), nI_1])
    (by
      intro a j u hj hu
      rw [E297_20, hA.st.e31, if_pos (lt_n hj (by omega)), M_slides hD hL h hA (by omega) hj hx hy, evK_s, E297_40, nI_1]
      refine ⟨_, ?_, rfl⟩
      rw [hu, cnt_s, nI_1, Int32.add_zero]
      by_cases q : wsB D x y a (a + 1 + j) = true
      · rw [if_pos q, if_neg (by decide), if_pos q]
        rfl
      · rw [if_neg q, if_pos rfl, if_neg q]
        rfl)
    (by
      intro a u ha hu
      refine ⟨by rw [E297_20, hA.st.e31, if_neg (nlt_n (by omega)), nI_1], ?_⟩
      rw [hu, smN_s]
      rfl)
    0 rfl
  rw [E297_0, e1, E297_5, hA.st.e31, if_neg (nlt_n (by omega)), g1]
  rfl
theorem M_first (hD : GD D) (hL : LabD D) (h : dat I = D) (hA : LsA I D) {x y : Nat} (hx : x < 360) (hy : y ≤ 90) (ex : D 46 6 = nI x) (ey : D 46 7 = nI y) : den (d + 5) 298 [.ref 46] (S sl p I J) = some (some (.int (if fcA (wsB D x y) (nst D) = nst D then -1 else nI (100 * fcA (wsB D x y) (nst D) + (fcA (wsB D x y) (nst D) + 1 + fcB (wsB D x y) (nst D) (fcA (wsB D x y) (nst D)))))), S sl p I J) := by
  have n60 := hD.n60
  have h30 := nst_30 hD hL
  have s5 : I 46 6 = nI x := (d6 h (by omega)).trans ex
  have s6 : I 46 7 = nI y := (d6 h (by omega)).trans ey
  rw [E298_0, dbl1 (fun a => ev (d + 5) 298 2 [.ref 46, .int a, .retAddr 0] [] (S sl p I J)) (fun a b => ev (d + 5) 298 14 [.ref 46, .int a, .int b] [] (S sl p I J)) (wsB D x y) (nst D)
    (by
      intro a ha
      rw [E298_2, hA.st.e31, if_pos (lt_n ha (by omega)), nI_1])
    (by
      intro a j hj hh
      rw [E298_14, hA.st.e31, if_pos (lt_n hj (by omega)), s5, s6, M_slides hD hL h hA (by omega) hj hx hy, evK_s, E298_36, if_neg (show ¬ wsB D x y a (a + 1 + j) = true by rw [hh]; decide), if_pos rfl, nI_1])
    (by
      intro a ha
      rw [E298_14, hA.st.e31, if_neg (nlt_n (by omega)), nI_1])]
  by_cases q : fcA (wsB D x y) (nst D) = nst D
  · rw [if_pos q, if_pos q, E298_2, hA.st.e31, if_neg (nlt_n (by omega))]
  · have hA2 : fcA (wsB D x y) (nst D) ≤ nst D := fsq_le _ _
    have hy2 := fsq_yes (fun a => decide (fcB (wsB D x y) (nst D) a < nst D - (a + 1))) (nst D) (show fcA (wsB D x y) (nst D) < nst D by omega)
    have hlt : fcB (wsB D x y) (nst D) (fcA (wsB D x y) (nst D)) < nst D - (fcA (wsB D x y) (nst D) + 1) := of_decide_eq_true hy2
    have hh : wsB D x y (fcA (wsB D x y) (nst D)) (fcA (wsB D x y) (nst D) + 1 + fcB (wsB D x y) (nst D) (fcA (wsB D x y) (nst D))) = true := fsq_yes (fun j => wsB D x y (fcA (wsB D x y) (nst D)) (fcA (wsB D x y) (nst D) + 1 + j)) (nst D - (fcA (wsB D x y) (nst D) + 1)) hlt
    rw [if_neg q, if_neg q, E298_14, hA.st.e31, if_pos (lt_n (by omega) (by omega)), s5, s6, M_slides hD hL h hA (by omega) (by omega) hx hy, evK_s, E298_36, if_pos hh, if_neg (by decide), show (100 : Int32) = nI 100 from rfl, nI_mul, nI_add]
theorem M_risksBy (hD : GD D) (hL : LabD D) (h : dat I = D) (hA : LsA I D) {x y : Nat} (hx : x < 360) (hy : y ≤ 90) : den (d + 6) 301 [.ref 46, .int (nI x), .int (nI y)] (S sl p I J) = some (some (.int (nI (rkN D x y))), S sl p I J) := by
  have n60 := hD.n60
  have h30 := nst_30 hD hL
  rw [E301_0, M_slidingBy hD hL h hA (by omega), evK_s, E301_6, M_bits (by omega), evK_s, E301_9, M_topplingBy hD hL h hA hx, evK_s, E301_15, M_bits (by omega), evK_s, E301_18, M_countW hD hL h hA hx hy, evK_s, E301_25, nI_add, nI_add]
  rfl
end HAZM
