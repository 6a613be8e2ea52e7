/-! SETTLING in the model -/
section SETM
variable {d sl : Nat} {p : Nat → Nat} {I I' : Nat → Nat → Int32} {J J' : Nat → Nat → Int64} {D : Nat → Nat → Int32} {e : Nat}
theorem neg_b {x : Int64} (h : bJ x) : (-x).toInt = -x.toInt := neg64 (by have := h.1; omega)
theorem tup_tup {v : V3} (h : bw v) : tup (tup v) = tup v := by
  by_cases q : downV v
  · rw [tup_p q]
    refine tup_n (fun w => ?_)
    obtain ⟨h1, h2, h3⟩ := h
    unfold downV at q w
    simp only [l_lt, l_0, neg_b h1, neg_b h2, neg_b h3] at q w
    omega
  · rw [tup_n q, tup_n q]
theorem meV_up {k : Nat} {m : V3 × Int64} {v : V3} (hm : sB 1000 k m) (hv : bv v) : tup (meV m v) = meV m v := by
  unfold meV
  split
  · exact tup_tup (bv_w hv)
  · rename_i w
    exact tup_tup (bv_w (mnv_b hm (fun q => w (Or.inl q))))
theorem M_round (hD : GD D) (h : dat I = D) {r : Nat} (h31 : I 46 31 = nI (nst D)) (hn : nst D ≤ 30) (hr : r ≤ 90) {x : (Nat → Int32) × (Nat → V3)} (hx1 : ∀ j, j < nc D → I 67 j = x.1 j) (hx2 : ∀ s, s < nst D → mvI I s = x.2 s) (hb : ∀ s, s < nst D → bv (x.2 s)) (hu : ∀ s, s < nst D → tup (x.2 s) = x.2 s) : ∃ I' J', den (d + 8) 261 [.ref 46, .int (nI r)] (S sl p I J) = some (some (.int (if chO D r x (nc D) = 0 then 0 else 1)), S sl p I' J') ∧ (∀ j, j < nc D → I' 67 j = (rdO D r x).1 j) ∧ (∀ s, s < nst D → mvI I' s = (rdO D r x).2 s) ∧ (∀ a k, ¬ (a = 46 ∧ 23 ≤ k ∧ k < 26) → ¬ (64 ≤ a ∧ a < 68) → I' a k = I a k) ∧ ∀ a k, ¬ (a = 46 ∧ 32 ≤ k ∧ k < 36) → J' a k = J a k := by
  have n60 := hD.n60
  obtain ⟨⟨b, l⟩, e1, h1, h2⟩ := for_ex (M := Int32 × (Nat → Int32)) (fun k y => ev (d + 8) 261 4 [.ref 46, .int (nI r), .int y.1, .int k, .retAddr 0] [] (S sl p (row I 67 y.2) J)) (nc D) (fun k y => y.1 = (if chO D r x k = 0 then 0 else 1) ∧ ∀ j, j < nc D → y.2 j = if j < k then plO D r (nst D) x.2 j else x.1 j)
    (by
      rintro k ⟨b, l⟩ hk ⟨g1, g2⟩
      simp only at g1 g2
      simp only
      subst g1
      have hd : dat (row I 67 l) = D := by rw [dat_row (by omega) (by omega)]; exact h
      have hmv : ∀ s, s < nst D → mvI (row I 67 l) s = x.2 s := fun s hs => by
        rw [← hx2 s hs]
        unfold mvI
        rw [row_n (by omega), row_n (by omega), row_n (by omega)]
      have h31' : row I 67 l 46 31 = nI (nst D) := by rw [row_n (by omega)]; exact h31
      have hc : chO D r x (k + 1) = chO D r x k + if (!decide (plO D r (nst D) x.2 k = x.1 k)) = true then 1 else 0 := rfl
      have hl : ∀ v : Int32, v = plO D r (nst D) x.2 k → ∀ j, j < nc D → up1 l k v j = if j < k + 1 then plO D r (nst D) x.2 j else x.1 j := by
        intro v hv j hj
        by_cases q : j = k
        · rw [q, up1_s, if_pos (by omega), hv]
        · rw [up1_n q, g2 j hj]
          by_cases w : j < k
          · rw [if_pos w, if_pos (by omega)]
          · rw [if_neg w, if_neg (by omega)]
      have fin : ev (d + 8) 261 50 [.ref 46, .int (nI r), .int (if chO D r x k = 0 then 0 else 1), .int (nI k), .int (plO D r (nst D) x.2 k)] [] (S sl p (row I 67 l) J) = ev (d + 8) 261 4 [.ref 46, .int (nI r), .int (if chO D r x (k + 1) = 0 then 0 else 1), .int (nI (k + 1)), .retAddr 0] [] (S sl p (row I 67 (up1 l k (plO D r (nst D) x.2 k))) J) := by
        rw [E261_50, ck_if (ixb_n (by omega) (by decide)), ck_if (ixb_n (by omega) (by decide)), cl_n (by omega), row_s, row_up, nI_1, hc, g2 k hk, if_neg (show ¬ k < k by omega)]
        by_cases q : chO D r x k = 0
        · rw [if_pos q, if_pos rfl, q]
          by_cases w : plO D r (nst D) x.2 k = x.1 k
          · rw [if_pos w, if_pos]
            simp [w]
          · rw [if_neg w, ck_if (ixb_n (by omega) (by decide)), if_neg]
            simp [w]
        · rw [if_neg q, if_neg (by decide), ck_if (ixb_n (by omega) (by decide)), if_neg (by omega)]
      refine ⟨(if chO D r x (k + 1) = 0 then 0 else 1, up1 l k (plO D r (nst D) x.2 k)), ?_, rfl, hl _ rfl⟩
      refine Eq.trans ?_ fin
      rw [E261_4, d2 hD hd, if_pos (lt_n hk (by omega)), h31']
      unfold plO
      by_cases q : nst D = 0
      · rw [if_pos (by rw [q]; rfl), E261_28, if_pos rfl, if_pos q]
      · have hlt : neS x.2 (nst D) (pv D k) < nst D := neS_lt (by omega)
        have b1 := va2_le (hD.bp hk) (hb _ hlt)
        rw [if_neg (show ¬ nI (nst D) = 0 from fun w => q (nI_ij (b := 0) (by omega) (by omega) w)), M_nearest hD hd hk (by omega) hn h31' (fun s hs => by rw [hmv s hs]; exact hb s hs), evK_s, E261_28, neS_c (M' := x.2) (by omega) hmv, if_neg (nI_m1 (by omega)), M_angMean hD hd hk (by omega) (by rw [hmv _ hlt]; exact hb _ hlt), evK_s, E261_43, hmv _ hlt, if_neg q]
        by_cases w : r < va2 (pv D k) (x.2 (neS x.2 (nst D) (pv D k)))
        · rw [if_pos w, if_neg (fun z => by have := (nI_le_iff (by omega) (by omega)).mp z; omega)]
        · rw [if_neg w, if_pos ((nI_le_iff (by omega) (by omega)).mpr (by omega))])
    (0, I 67) ⟨rfl, fun j hj => by rw [if_neg (by omega)]; exact hx1 j hj⟩
  simp only [row_id] at e1 h1 h2
  obtain ⟨⟨I2, J2⟩, e2, c1, c2, c3, c4⟩ := for_ex (M := (Nat → Nat → Int32) × (Nat → Nat → Int64)) (fun k y => ev (d + 8) 261 87 [.ref 46, .int (nI r), .int b, .int k, .retAddr 0] [] (S sl p y.1 y.2)) (nst D)
    (fun k y => (∀ s, s < k → mvI y.1 s = (rdO D r x).2 s) ∧ (∀ s, k ≤ s → s < nst D → mvI y.1 s = x.2 s) ∧ (∀ a k, ¬ (a = 46 ∧ 23 ≤ k ∧ k < 26) → ¬ (64 ≤ a ∧ a < 67) → y.1 a k = row I 67 l a k) ∧ ∀ a k, ¬ (a = 46 ∧ 32 ≤ k ∧ k < 36) → y.2 a k = J a k)
    (by
      rintro k ⟨y, z⟩ hk ⟨g1, g2, g3, g4⟩
      simp only at g1 g2 g3 g4
      simp only
      have hk3 : k < 30 := by omega
      have hd : dat y = D := by
        rw [← h]
        funext a j
        unfold dat
        split
        · rw [g3 _ _ (by omega) (by omega), row_n (by omega)]
        · rfl
      have em : mvI y k = x.2 k := g2 k (Nat.le_refl k) hk
      have hB : sB 1000 (nc D) (smP D (fun j => decide (plO D r (nst D) x.2 j = nI k)) (x.2 k) (nc D)) := smP_B hD _ (Nat.le_refl _)
      have esum := sp_laysSum (d := d + 1) (sl := sl) (p := p) (I := y) (J := z) (by rw [hd]; exact hD) ar67 (nI k) (mvI y k)
      rw [hd, em, smP_c (Q := fun j => decide (plO D r (nst D) x.2 j = nI k)) (nc D) (fun j hj => by rw [g3 _ _ (by omega) (by omega), row_s, h2 j hj, if_pos hj])] at esum
      have ec : ∀ (o : Option (Option Value × Mm)), den (d + 7) 216 [.ref 46, .ref 67, .int (nI k), .long (Int32.toInt64 (y 64 k)), .long (Int32.toInt64 (y 65 k)), .long (Int32.toInt64 (y 66 k))] (S sl p y z) = den (d + 7) 216 [.ref 46, .ref 67, .int (nI k), .long (x.2 k).1, .long (x.2 k).2.1, .long (x.2 k).2.2] (S sl p y z) := fun _ => by rw [← em]; rfl
      rw [E261_87, g3 _ _ (by omega) (by omega), row_n (by omega), h31, if_pos (lt_n hk (by omega)), ck_if (ixb_n hk3 (by decide)), ck_if (ixb_n hk3 (by decide)), ck_if (ixb_n hk3 (by decide)), cl_n (by omega), ec none, esum, evK_v, E261_125]
      have er : (rdO D r x).2 k = meV (smP D (fun j => decide (plO D r (nst D) x.2 j = nI k)) (x.2 k) (nc D)) (x.2 k) := rfl
      generalize smP D (fun j => decide (plO D r (nst D) x.2 j = nI k)) (x.2 k) (nc D) = m at hB er
      obtain ⟨L1, L2, L3⟩ := sp_laysMean (d := d + 6) (sl := sl) (p := p) (I := y) (J := z) hB
      have stay : ∀ {y' : Nat → Nat → Int32}, (∀ a j, ¬ (a = 46 ∧ 23 ≤ j ∧ j < 26) → y' a j = y a j) → (m.2 = 0 ∨ zv (mnv m)) → (∀ s, s < k + 1 → mvI y' s = (rdO D r x).2 s) ∧ (∀ s, k + 1 ≤ s → s < nst D → mvI y' s = x.2 s) ∧ (∀ a k, ¬ (a = 46 ∧ 23 ≤ k ∧ k < 26) → ¬ (64 ≤ a ∧ a < 67) → y' a k = row I 67 l a k) ∧ ∀ a k, ¬ (a = 46 ∧ 32 ≤ k ∧ k < 36) → setS z m a k = J a k := by
        intro y' hy hm
        have e1 : ∀ s, mvI y' s = mvI y s := fun s => by
          unfold mvI
          rw [hy _ _ (by omega), hy _ _ (by omega), hy _ _ (by omega)]
        refine ⟨fun s hs => ?_, fun s hs1 hs2 => by rw [e1]; exact g2 s (by omega) hs2, fun a j w1 w2 => by rw [hy a j w1]; exact g3 a j w1 w2, fun a j w => by rw [setS_n w]; exact g4 a j w⟩
        rw [e1]
        by_cases q : s = k
        · rw [q, em, er]
          unfold meV
          rw [if_pos (show m.2 = 0 ∨ ((mnv m).1 = 0 ∧ (mnv m).2.1 = 0 ∧ (mnv m).2.2 = 0) from hm)]
          exact (hu k hk).symm
        · exact g1 s (by omega)
      by_cases q1 : m.2 = 0
      · rw [L1 q1, evK_s, E261_129, if_pos rfl, nI_1]
        exact ⟨(y, setS z m), rfl, stay (fun _ _ _ => rfl) (Or.inl q1)⟩
      · by_cases q2 : zv (mnv m)
        · rw [L2 q1 q2, evK_s, E261_129, if_pos rfl, nI_1]
          exact ⟨(set3v y (tup (mnv m)), setS z m), rfl, stay (fun a j w => set3v_n w) (Or.inr q2)⟩
        · have hw := bv_w (tup_b (mnv_b hB q1))
          rw [L3 q1 q2, evK_s, E261_129, if_neg (by decide), ck_if (ixb_n hk3 (by decide)), ck_if (ixb_n hk3 (by decide)), ck_if (ixb_n hk3 (by decide)), cl_n (by omega), nI_1, up_na (a' := 46) (by omega), up_na (a' := 46) (by omega), up_na (a' := 46) (by omega), set3v_r.1, set3v_r.2.1, set3v_r.2.2]
          have fy : ∀ a j, ¬ (64 ≤ a ∧ a < 67 ∧ j = k) → up2 (up2 (up2 (set3v y (tup (mnv m))) 64 k (tup (mnv m)).1.toInt32) 65 k (tup (mnv m)).2.1.toInt32) 66 k (tup (mnv m)).2.2.toInt32 a j = set3v y (tup (mnv m)) a j := fun a j w => by rw [up_n (by omega), up_n (by omega), up_n (by omega)]
          have q4 : up2 (up2 (up2 (set3v y (tup (mnv m))) 64 k (tup (mnv m)).1.toInt32) 65 k (tup (mnv m)).2.1.toInt32) 66 k (tup (mnv m)).2.2.toInt32 64 k = (tup (mnv m)).1.toInt32 := by rw [up_na (by omega), up_na (by omega), up_s]
          have q5 : up2 (up2 (up2 (set3v y (tup (mnv m))) 64 k (tup (mnv m)).1.toInt32) 65 k (tup (mnv m)).2.1.toInt32) 66 k (tup (mnv m)).2.2.toInt32 65 k = (tup (mnv m)).2.1.toInt32 := by rw [up_na (by omega), up_s]
          have q6 : up2 (up2 (up2 (set3v y (tup (mnv m))) 64 k (tup (mnv m)).1.toInt32) 65 k (tup (mnv m)).2.1.toInt32) 66 k (tup (mnv m)).2.2.toInt32 66 k = (tup (mnv m)).2.2.toInt32 := up_s
          generalize up2 (up2 (up2 (set3v y (tup (mnv m))) 64 k (tup (mnv m)).1.toInt32) 65 k (tup (mnv m)).2.1.toInt32) 66 k (tup (mnv m)).2.2.toInt32 = y2 at fy q4 q5 q6
          have ne : ∀ s, s ≠ k → mvI y2 s = mvI y s := fun s hs => by
            unfold mvI
            rw [fy _ _ (by omega), fy _ _ (by omega), fy _ _ (by omega), set3v_n (by omega), set3v_n (by omega), set3v_n (by omega)]
          refine ⟨(y2, setS z m), rfl, fun s hs => ?_, fun s hs1 hs2 => (ne s (by omega)).trans (g2 s (by omega) hs2), fun a j w1 w2 => (fy a j (by omega)).trans ((set3v_n w1).trans (g3 a j w1 w2)), fun a j w => (setS_n w).trans (g4 a j w)⟩
          show mvI y2 s = _
          by_cases q : s = k
          · rw [q, er]
            unfold meV mvI
            rw [if_neg (show ¬ (m.2 = 0 ∨ ((mnv m).1 = 0 ∧ (mnv m).2.1 = 0 ∧ (mnv m).2.2 = 0)) from fun w => w.elim q1 q2), q4, q5, q6, n32_64 hw.1, n32_64 hw.2.1, n32_64 hw.2.2]
          · rw [ne s q]
            exact g1 s (by omega))
    (row I 67 l, J) ⟨fun _ w => absurd w (Nat.not_lt_zero _), fun s _ hs => by
        show mvI (row I 67 l) s = _
        rw [← hx2 s hs]
        unfold mvI
        rw [row_n (by omega), row_n (by omega), row_n (by omega)], fun _ _ _ _ => rfl, fun _ _ _ => rfl⟩
  simp only at e2 c1 c2 c3 c4
  refine ⟨I2, J2, ?_, fun j hj => by rw [c3 _ _ (by omega) (by omega), row_s, h2 j hj, if_pos hj]; rfl, c1, fun a k w1 w2 => by rw [c3 _ _ w1 (by omega), row_n (by omega)], c4⟩
  have h31' : I2 46 31 = nI (nst D) := by rw [c3 _ _ (by omega) (by omega), row_n (by omega)]; exact h31
  rw [E261_0, e1, E261_4, row_n (by omega), d2 hD h, if_neg (nlt_n (by omega)), show (0 : Int32) = nI 0 from rfl]
  rw [show (0 : Int32) = nI 0 from rfl] at e2
  rw [e2, E261_87, h31', if_neg (nlt_n (by omega)), h1, ck_if]
  · rfl
  refine decide_eq_true ?_
  split
  · exact Or.inl rfl
  · exact Or.inr rfl
theorem M_rounds (hD : GD D) {r : Nat} (hn : nst D ≤ 30) (hr : r ≤ 90) : ∀ f n x I J, n + f = 12 → dat I = D → I 46 31 = nI (nst D) → I 46 40 = nI n → (∀ j, j < nc D → I 67 j = x.1 j) → (∀ s, s < nst D → mvI I s = x.2 s) → (∀ s, s < nst D → bv (x.2 s)) → (∀ s, s < nst D → tup (x.2 s) = x.2 s) → ∃ I' J', ev (d + 9) 262 39 [.ref 46, .int (nI r), .int 1] [] (S sl p I J) = some (none, S sl p I' J') ∧ I' 46 40 = nI (stR D r f n x).1 ∧ (∀ j, j < nc D → I' 67 j = (stR D r f n x).2.1 j) ∧ (∀ s, s < nst D → mvI I' s = (stR D r f n x).2.2 s) ∧ (∀ s, s < nst D → bv ((stR D r f n x).2.2 s)) ∧ (∀ a k, ¬ (a = 46 ∧ ((23 ≤ k ∧ k < 26) ∨ k = 40)) → ¬ (64 ≤ a ∧ a < 68) → I' a k = I a k) ∧ ∀ a k, ¬ (a = 46 ∧ 32 ≤ k ∧ k < 36) → J' a k = J a k := by
  intro f
  induction f with
  | zero =>
    intro n x I J hf h h31 h6 h1 h2 h3 h4
    refine ⟨I, J, ?_, h6, h1, h2, h3, fun _ _ _ _ => rfl, fun _ _ _ => rfl⟩
    rw [E262_39, if_neg (by decide), h6, if_neg (by rw [show n = 12 by omega]; decide)]
  | succ f ih =>
    intro n x I J hf h h31 h6 h1 h2 h3 h4
    obtain ⟨I1, J1, a1, a2, a3, a4, a5⟩ := M_round (d := d) (sl := sl) (p := p) (J := J) hD h h31 hn hr h1 h2 h3 h4
    have e6 : up2 I1 46 40 (I1 46 40 + 1) 46 40 = nI (n + 1) := by rw [up_s, a4 _ _ (by omega) (by omega), h6, nI_1]
    have f1 : ∀ a k, ¬ (a = 46 ∧ ((23 ≤ k ∧ k < 26) ∨ k = 40)) → ¬ (64 ≤ a ∧ a < 68) → up2 I1 46 40 (I1 46 40 + 1) a k = I a k := fun a k w1 w2 => by rw [up_n (by omega), a4 a k (by omega) w2]
    have f2 : ∀ j, j < nc D → up2 I1 46 40 (I1 46 40 + 1) 67 j = (rdO D r x).1 j := fun j hj => by rw [up_na (by omega)]; exact a2 j hj
    have f3 : ∀ s, s < nst D → mvI (up2 I1 46 40 (I1 46 40 + 1)) s = (rdO D r x).2 s := fun s hs => by
      rw [← a3 s hs]
      unfold mvI
      rw [up_na (by omega), up_na (by omega), up_na (by omega)]
    have es : stR D r (f + 1) n x = if chO D r x (nc D) = 0 then (n + 1, rdO D r x) else stR D r f (n + 1) (rdO D r x) := rfl
    have b3 : ∀ s, s < nst D → bv ((rdO D r x).2 s) := fun s hs => meV_b (smP_B hD _ (Nat.le_refl _)) (h3 s hs)
    rw [E262_39, if_neg (by decide), h6, if_pos (show nI n < 12 from lt_n (n := 12) (by omega) (by decide)), a1, evK_s, E262_57, es]
    generalize up2 I1 46 40 (I1 46 40 + 1) = I2 at e6 f1 f2 f3
    by_cases q : chO D r x (nc D) = 0
    · rw [if_pos q, if_pos q]
      refine ⟨I2, J1, ?_, e6, f2, f3, b3, f1, a5⟩
      rw [E262_39, if_pos rfl]
    · rw [if_neg q, if_neg q]
      have hd : dat I2 = D := by
        rw [← h]
        funext a j
        unfold dat
        split
        · exact f1 _ _ (by omega) (by omega)
        · rfl
      obtain ⟨I3, J3, c1, c2, c3, c4, c5, c6, c7⟩ := ih (n + 1) (rdO D r x) I2 J1 (by omega) hd (by rw [f1 _ _ (by omega) (by omega)]; exact h31) e6 f2 f3 b3 (fun s hs => meV_up (smP_B hD _ (Nat.le_refl _)) (h3 s hs))
      exact ⟨I3, J3, c1, c2, c3, c4, c5, fun a k w1 w2 => (c6 a k w1 w2).trans (f1 a k w1 w2), fun a k w => (c7 a k w).trans (a5 a k w)⟩
theorem meO_up (hD : GD D) (hL : LabD D) {s : Nat} (hs : s < nst D) : tup (meO D s) = meO D s := meV_up (smO_B hD s) (hD.bp (sd_of hD hL hs).2.1)
theorem M_settles (hD : GD D) (hL : LabD D) (h : dat I = D) {r : Nat} (hr : r ≤ 90) : ∃ I' J', den (d + 11) 262 [.ref 46, .int (nI r)] (S sl p I J) = some (none, S sl p I' J') ∧ dat I' = D ∧ SetAt I' D ∧ I' 46 40 = nI (seO D r).1 ∧ (∀ j, j < nc D → I' 67 j = (seO D r).2.1 j) ∧ (∀ s, s < nst D → mvI I' s = (seO D r).2.2 s) ∧ (∀ s, s < nst D → bv ((seO D r).2.2 s)) ∧ Fm I J I' J' := by
  have n60 := hD.n60
  have h30 := nst_30 hD hL
  obtain ⟨I1, J1, a1, a2, a3, a4, a5⟩ := M_means (d := d) (sl := sl) (p := p) (J := J) hD h
  obtain ⟨l, e1, h1⟩ := for_ex (M := Nat → Int32) (fun k x => ev (d + 11) 262 6 [.ref 46, .int (nI r), .int k] [] (S sl p (row I1 67 x) J1)) (nc D) (fun k x => ∀ j, j < k → x j = stn D j)
    (by
      intro k x hk hx
      rw [E262_6, row_n (by omega), d2 hD a2, if_pos (lt_n hk (by omega)), ck_if (ixb_n (by omega) (by decide)), ck_if (ixb_n (by omega) (by decide)), cl_n (by omega), row_n (by omega), a3.e61 k hk, row_up, nI_1]
      refine ⟨_, rfl, fun j hj => ?_⟩
      by_cases e : j = k
      · rw [e, up1_s]
      · rw [up1_n e]; exact hx j (by omega))
    (I1 67) (fun _ w => absurd w (Nat.not_lt_zero _))
  rw [row_id] at e1
  have f1 : ∀ a k, ¬ (a = 46 ∧ k = 40) → a ≠ 67 → up2 (row I1 67 l) 46 40 0 a k = I1 a k := fun a k w1 w2 => by rw [up_n w1, row_n w2]
  have g1 : up2 (row I1 67 l) 46 40 0 46 40 = nI 0 := up_s
  have g2 : ∀ j, j < nc D → up2 (row I1 67 l) 46 40 0 67 j = stn D j := fun j hj => by rw [up_na (by omega), row_s]; exact h1 j hj
  have eq : den (d + 11) 262 [.ref 46, .int (nI r)] (S sl p I J) = ev (d + 11) 262 39 [.ref 46, .int (nI r), .int 1] [] (S sl p (up2 (row I1 67 l) 46 40 0) J1) := by
    rw [E262_0, a1, evK_v, E262_4, e1, E262_6, row_n (by omega), d2 hD a2, if_neg (nlt_n (by omega))]
  rw [eq]
  generalize up2 (row I1 67 l) 46 40 0 = I2 at f1 g1 g2
  have hd : dat I2 = D := by
    rw [← a2]
    funext a j
    unfold dat
    split
    · exact f1 _ _ (by omega) (by omega)
    · rfl
  obtain ⟨I3, J3, c1, c2, c3, c4, c5, c6, c7⟩ := M_rounds (d := d + 2) (sl := sl) (p := p) hD (by omega) hr 12 0 (stn D, meO D) I2 J1 (by omega) hd (by rw [f1 _ _ (by omega) (by omega)]; exact a3.e31) g1 g2 (fun s hs => by
      show mvI I2 s = meO D s
      rw [← a4.v hs (meO_b hD hL hs)]
      unfold mvI
      rw [f1 _ _ (by omega) (by omega), f1 _ _ (by omega) (by omega), f1 _ _ (by omega) (by omega)]) (fun s hs => meO_b hD hL hs) (fun s hs => meO_up hD hL hs)
  refine ⟨I3, J3, c1, ?_, a3.fr (by rw [c6 _ _ (by omega) (by omega), f1 _ _ (by omega) (by omega)]) (fun k => by rw [c6 _ _ (by omega) (by omega), f1 _ _ (by omega) (by omega)]), c2, c3, c4, c5, a5.trans ⟨fun a k w => by rw [c6 _ _ (by omega) (by omega), f1 _ _ (by omega) (by omega)], fun a k w => c7 _ _ (by omega)⟩⟩
  rw [← hd]
  funext a j
  unfold dat
  split
  · exact c6 _ _ (by omega) (by omega)
  · rfl
end SETM
