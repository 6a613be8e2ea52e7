/-! SETTLING in the class -/
section SETT
variable {d sl : Nat} {p : Nat → Nat} {I I' : Nat → Nat → Int32} {J J' : Nat → Nat → Int64} {D : Nat → Nat → Int32} {e : Nat}
theorem plO_c {r n : Nat} {M M' : Nat → V3} {j : Nat} (h : ∀ s, s < n → M s = M' s) : plO D r n M j = plO D r n M' j := by
  unfold plO
  by_cases q : n = 0
  · rw [if_pos q, if_pos q]
  · rw [if_neg q, if_neg q, neS_c (M' := M') (by omega) h, h _ (neS_lt (by omega))]
theorem meV_b {k : Nat} {m : V3 × Int64} {v : V3} (hm : sB 1000 k m) (hv : bv v) : bv (meV m v) := by
  unfold meV
  split
  · exact tup_b hv
  · rename_i w
    exact tup_b (mnv_b hm (fun q => w (Or.inl q)))
theorem C_placeFor {a n r : Nat} (ha : ob a 0) (hs : SNS I) (va : bv (vec J a)) (h14 : I 11 14 = nI n) (hn : n ≤ 30) (h7 : I 22 7 = nI r) (hr : r ≤ 90) (hv : ∀ s, s < n → bv (vec J (900 + s))) : den (d + 3) 42 [.ref 22, .ref a] (S sl p I J) = some (some (.int (if n = 0 then -1 else if r < va2 (vec J a) (vec J (900 + neS (fun s => vec J (900 + s)) n (vec J a))) then -1 else nI (neS (fun s => vec J (900 + s)) n (vec J a)))), S sl p I J) := by
  rw [E42_0 ha, h14, C_nearb ha hs va hn hv, evK_s, E42_19 _ ha]
  by_cases q : n = 0
  · rw [if_pos q, if_pos q, if_pos (by decide)]
  · have hlt : neS (fun s => vec J (900 + s)) n (vec J a) < n := neS_lt (by omega)
    have b1 := va2_le va (hv _ hlt)
    rw [if_neg q, if_neg q, if_neg (nI_pos (by omega)), ck_if (ixb_n (by omega) (by decide)), cl_n (by omega), sp_angleOfC ha (ob900 (by omega)) hs va (hv _ hlt), evK_s, E42_38 _ _ ha, h7]
    by_cases w : r < va2 (vec J a) (vec J (900 + neS (fun s => vec J (900 + s)) n (vec J a)))
    · rw [if_pos w, if_neg (fun z => by have := (nI_le_iff (by omega) (by omega)).mp z; omega)]
    · rw [if_neg w, if_pos ((nI_le_iff (by omega) (by omega)).mpr (by omega))]
theorem C_move (h : SV p I J D) {r : Nat} (h14 : I 11 14 = nI (nst D)) (hn : nst D ≤ 30) (h7 : I 22 7 = nI r) (hr : r ≤ 90) {x : (Nat → Int32) × (Nat → V3)} (hx1 : ∀ j, j < nc D → I 23 j = x.1 j) (hx2 : ∀ s, s < nst D → vec J (900 + s) = x.2 s) (hb : ∀ s, s < nst D → bv (x.2 s)) : ∃ l, den (d + 4) 41 [.ref 22] (S sl p I J) = some (some (.int (if chO D r x (nc D) = 0 then 0 else 1)), S sl p (row I 23 l) J) ∧ ∀ j, j < nc D → l j = plO D r (nst D) x.2 j := by
  have n60 := h.gd.n60
  obtain ⟨⟨b, l⟩, e1, h1, h2⟩ := for_ex (M := Int32 × (Nat → Int32)) (fun k y => ev (d + 4) 41 4 [.ref 22, .int y.1, .int k, .retAddr 0] [] (S sl p (row I 23 y.2) J)) (nc D) (fun k y => y.1 = (if chO D r x k = 0 then 0 else 1) ∧ ∀ j, j < nc D → y.2 j = if j < k then plO D r (nst D) x.2 j else x.1 j)
    (by
      rintro k ⟨b, l⟩ hk ⟨g1, g2⟩
      simp only at g1 g2
      simp only
      subst g1
      have hp := h.p60 k
      have hsv : SV p (row I 23 l) J D := h.fr (fun a k _ => row_n (by omega)) (row_n (by omega)) (row_n (by omega)) (fun a k _ _ => row_n (by omega)) (fun _ _ _ _ => rfl) (fun _ _ _ _ => rfl)
      have hpl : (if nst D = 0 then (-1 : Int32) else if r < va2 (pv D k) (vec J (900 + neS (fun s => vec J (900 + s)) (nst D) (pv D k))) then -1 else nI (neS (fun s => vec J (900 + s)) (nst D) (pv D k))) = plO D r (nst D) x.2 k := plO_c (M := fun s => vec J (900 + s)) hx2
      have hc : chO D r x (k + 1) = chO D r x k + if (!decide (plO D r (nst D) x.2 k = x.1 k)) = true then 1 else 0 := rfl
      have hl : ∀ v : Int32, v = plO D r (nst D) x.2 k → ∀ j, j < nc D → up1 l k v j = if j < k + 1 then plO D r (nst D) x.2 j else x.1 j := by
        intro v hv j hj
        by_cases q : j = k
        · rw [q, up1_s, if_pos (by omega), hv]
        · rw [up1_n q, g2 j hj]
          by_cases w : j < k
          · rw [if_pos w, if_pos (by omega)]
          · rw [if_neg w, if_neg (by omega)]
      rw [E41_4 _ _ h.p60, hsv.count, if_pos (lt_n hk (by omega)), ck_if (ixb_n (by omega) (by decide)), cl_n (by omega), C_placeFor (obP hp) hsv.sn (by rw [h.pole k hk]; exact h.gd.bp hk) (by rw [row_n (by omega)]; exact h14) hn (by rw [row_n (by omega)]; exact h7) hr (fun s hs => by rw [hx2 s hs]; exact hb s hs), h.pole k hk, hpl, evK_s, E41_31, ck_if (ixb_n (by omega) (by decide)), ck_if (ixb_n (by omega) (by decide)), cl_n (by omega), row_s, row_up, nI_1, hc, g2 k hk, if_neg (show ¬ k < k by omega)]
      by_cases q : chO D r x k = 0
      · rw [if_pos q, if_pos rfl, q]
        by_cases w : plO D r (nst D) x.2 k = x.1 k
        · rw [if_pos w]
          refine ⟨(0, _), rfl, ?_, hl _ rfl⟩
          rw [if_pos]
          simp [w]
        · rw [if_neg w, ck_if (ixb_n (by omega) (by decide))]
          refine ⟨(1, _), rfl, ?_, hl _ rfl⟩
          rw [if_neg]
          simp [w]
      · rw [if_neg q, if_neg (by decide), ck_if (ixb_n (by omega) (by decide))]
        refine ⟨(1, _), rfl, ?_, hl _ rfl⟩
        rw [if_neg (by omega)])
    (0, I 23) ⟨rfl, fun j hj => by rw [if_neg (by omega)]; exact hx1 j hj⟩
  simp only [row_id] at e1 h1 h2
  refine ⟨l, ?_, fun j hj => by rw [h2 j hj, if_pos hj]⟩
  rw [E41_0, e1, E41_4 _ _ h.p60, row_n (by omega), h.count, if_neg (nlt_n (by omega)), h1, ck_if]
  refine decide_eq_true ?_
  split
  · exact Or.inl rfl
  · exact Or.inr rfl
theorem C_renew (h : SV p I J D) (h14 : I 11 14 = nI (nst D)) (hn : nst D ≤ 30) {P : Nat → Int32} (hP : ∀ j, j < nc D → I 23 j = P j) {M : Nat → V3} (hM : ∀ s, s < nst D → vec J (900 + s) = M s) : ∃ J', den (d + 3) 43 [.ref 22] (S sl p I J) = some (none, S sl p I J') ∧ (∀ s, s < nst D → vec J' (900 + s) = meV (smP D (fun k => decide (P k = nI s)) (M s) (nc D)) (M s)) ∧ ∀ a k, a ≠ 25 → a ≠ 26 → ¬ (900 ≤ a ∧ a < 930) → J' a k = J a k := by
  have n60 := h.gd.n60
  have rf : RF p 25 0 = some 26 := rfl
  obtain ⟨J', e1, h1, h2, h3⟩ := for_ex (M := Nat → Nat → Int64) (fun k y => ev (d + 3) 43 2 [.ref 22, .int k, .retAddr 0] [] (S sl p I y)) (nst D)
    (fun k y => (∀ s, s < k → vec y (900 + s) = meV (smP D (fun k => decide (P k = nI s)) (M s) (nc D)) (M s)) ∧ (∀ s, k ≤ s → s < nst D → vec y (900 + s) = M s) ∧ ∀ a k, a ≠ 25 → a ≠ 26 → ¬ (900 ≤ a ∧ a < 930) → y a k = J a k)
    (by
      rintro k y hk ⟨g1, g2, g3⟩
      have hk3 : k < 30 := by omega
      have hsv : SV p I y D := h.fr (fun a k _ => rfl) rfl rfl (fun a k _ _ => rfl) (fun _ _ _ _ => g3 _ _ (by omega) (by omega) (by omega)) (fun _ _ _ _ => g3 _ _ (by omega) (by omega) (by omega))
      rw [E43_2, h14, if_pos (lt_n hk (by omega)), sp_gclear ob_25 ob_26 rf, evK_v, E43_20]
      obtain ⟨m, c1, c2⟩ := for_ex (M := V3 × Int64) (fun j m => ev (d + 3) 43 22 [.ref 22, .int (nI k), .int j] [] (S sl p I (setG y 25 26 m))) (nc D) (fun j m => m = smP D (fun i => decide (P i = nI k)) (M k) j)
        (by
          intro j m hj hm
          have hp := h.p60 j
          have em : smP D (fun i => decide (P i = nI k)) (M k) (j + 1) = if decide (P j = nI k) = true then addS (smP D (fun i => decide (P i = nI k)) (M k) j) (wt D j) (decide (vd (pv D j) (M k) < 0)) (pv D j) else smP D (fun i => decide (P i = nI k)) (M k) j := rfl
          rw [E43_22 _ _ h.p60, h.count, if_pos (lt_n hj (by omega)), ck_if (ixb_n (by omega) (by decide)), cl_n (by omega), hP j hj, em, hm]
          by_cases q : P j = nI k
          · rw [if_pos q, if_pos (decide_eq_true q), ck_if (ixb_n (by omega) (by decide)), ck_if (ixb_n (by omega) (by decide)), ck_if (ixb_n (by omega) (by decide)), cl_n (by omega), (h.ck j hj).2.2.2.2.2.2, sp_gadd ob_25 ob_26 (obP hp) (ob900 hk3) rf (by omega) (by omega) (by omega) (by omega) (by omega), evK_v, E43_80, hsv.pole j hj, g2 k (Nat.le_refl k) hk, nI_1]
            exact ⟨_, rfl, rfl⟩
          · rw [if_neg q, if_neg (by simpa using q), nI_1]
            exact ⟨_, rfl, rfl⟩)
        noS rfl
      rw [c1, E43_22 _ _ h.p60, h.count, if_neg (nlt_n (by omega)), ck_if (ixb_n (by omega) (by decide)), cl_n (by omega), sp_meanInto ob_25 ob_26 (ob900 hk3) rf, evK_v, E43_99, nI_1, setG_b (by omega), setG_m, setG_v (by omega) (by omega), g2 k (Nat.le_refl k) hk, c2]
      refine ⟨_, rfl, fun s hs => ?_, fun s hs1 hs2 => ?_, fun a j w1 w2 w3 => ?_⟩
      · by_cases q : s = k
        · rw [q, vec_setV]
        · rw [vec_setV_ne (by omega), setG_v (by omega) (by omega)]
          exact g1 s (by omega)
      · rw [vec_setV_ne (by omega), setG_v (by omega) (by omega)]
        exact g2 s (by omega) hs2
      · rw [setV_ne (by omega), setG_n w1 w2]
        exact g3 a j w1 w2 w3)
    J ⟨fun _ w => absurd w (Nat.not_lt_zero _), fun s _ hs => hM s hs, fun _ _ _ _ _ => rfl⟩
  exact ⟨J', by rw [E43_0, e1, E43_2, h14, if_neg (nlt_n (by omega))], h1, h3⟩
theorem C_rounds {r : Nat} (hn : nst D ≤ 30) (hr : r ≤ 90) : ∀ f n x I J, n + f = 12 → SV p I J D → I 11 14 = nI (nst D) → I 22 7 = nI r → I 22 6 = nI n → (∀ j, j < nc D → I 23 j = x.1 j) → (∀ s, s < nst D → vec J (900 + s) = x.2 s) → (∀ s, s < nst D → bv (x.2 s)) → ∃ I' J', ev (d + 5) 39 50 [.ref 22, .int (nI r), .int 1] [] (S sl p I J) = some (none, S sl p I' J') ∧ I' 22 6 = nI (stR D r f n x).1 ∧ (∀ j, j < nc D → I' 23 j = (stR D r f n x).2.1 j) ∧ (∀ s, s < nst D → vec J' (900 + s) = (stR D r f n x).2.2 s) ∧ (∀ a k, ¬ (a = 22 ∧ k = 6) → a ≠ 23 → I' a k = I a k) ∧ ∀ a k, a ≠ 25 → a ≠ 26 → ¬ (900 ≤ a ∧ a < 930) → J' a k = J a k := by
  intro f
  induction f with
  | zero =>
    intro n x I J hf h h14 h7 h6 h1 h2 h3
    refine ⟨I, J, ?_, h6, h1, h2, fun _ _ _ _ => rfl, fun _ _ _ _ _ => rfl⟩
    rw [E39_50, if_neg (by decide), h6, if_neg (by rw [show n = 12 by omega]; decide)]
  | succ f ih =>
    intro n x I J hf h h14 h7 h6 h1 h2 h3
    obtain ⟨l, a1, a2⟩ := C_move (d := d) (sl := sl) h h14 hn h7 hr h1 h2 h3
    have s1 : SV p (row I 23 l) J D := h.fr (fun a k _ => row_n (by omega)) (row_n (by omega)) (row_n (by omega)) (fun a k _ _ => row_n (by omega)) (fun _ _ _ _ => rfl) (fun _ _ _ _ => rfl)
    obtain ⟨J1, b1, b2, b3⟩ := C_renew (d := d + 1) (sl := sl) s1 (by rw [row_n (by omega)]; exact h14) hn (P := plO D r (nst D) x.2) (fun j hj => by rw [row_s]; exact a2 j hj) h2
    have e6 : up2 (row I 23 l) 22 6 (row I 23 l 22 6 + 1) 22 6 = nI (n + 1) := by rw [up_s, row_n (by omega), h6, nI_1]
    have f1 : ∀ a k, ¬ (a = 22 ∧ k = 6) → a ≠ 23 → up2 (row I 23 l) 22 6 (row I 23 l 22 6 + 1) a k = I a k := fun a k w1 w2 => by rw [up_n w1, row_n w2]
    have f2 : ∀ j, j < nc D → up2 (row I 23 l) 22 6 (row I 23 l 22 6 + 1) 23 j = (rdO D r x).1 j := fun j hj => by rw [up_na (by omega), row_s]; exact a2 j hj
    have es : stR D r (f + 1) n x = if chO D r x (nc D) = 0 then (n + 1, rdO D r x) else stR D r f (n + 1) (rdO D r x) := rfl
    rw [E39_50, if_neg (by decide), h6, if_pos (show nI n < 12 from lt_n (n := 12) (by omega) (by decide)), a1, evK_s, E39_67, b1, evK_v, E39_72, es]
    generalize up2 (row I 23 l) 22 6 (row I 23 l 22 6 + 1) = I1 at e6 f1 f2
    by_cases q : chO D r x (nc D) = 0
    · rw [if_pos q, if_pos q]
      refine ⟨I1, J1, ?_, e6, f2, b2, f1, b3⟩
      rw [E39_50, if_pos rfl]
    · rw [if_neg q, if_neg q]
      have s2 : SV p I1 J1 D := h.fr (fun a k _ => f1 _ _ (by omega) (by omega)) (f1 _ _ (by omega) (by omega)) (f1 _ _ (by omega) (by omega)) (fun a k _ _ => f1 _ _ (by omega) (by omega)) (fun _ _ _ _ => b3 _ _ (by omega) (by omega) (by omega)) (fun _ _ _ _ => b3 _ _ (by omega) (by omega) (by omega))
      obtain ⟨I2, J2, c1, c2, c3, c4, c5, c6⟩ := ih (n + 1) (rdO D r x) I1 J1 (by omega) s2 (by rw [f1 _ _ (by omega) (by omega)]; exact h14) (by rw [f1 _ _ (by omega) (by omega)]; exact h7) e6 f2 b2 (fun s hs => meV_b (smP_B h.gd _ (Nat.le_refl _)) (h3 s hs))
      exact ⟨I2, J2, c1, c2, c3, c4, fun a k w1 w2 => (c5 a k w1 w2).trans (f1 a k w1 w2), fun a k w1 w2 w3 => (c6 a k w1 w2 w3).trans (b3 a k w1 w2 w3)⟩
theorem C_begin (h : SV p I J D) (hG : GrC I J D) (hM : ∀ s, s < nst D → Msd I J D s) : ∃ I' J', den (d + 2) 40 [.ref 22] (S sl p I J) = some (none, S sl p I' J') ∧ (∀ j, j < nc D → I' 23 j = stn D j) ∧ (∀ s, s < nst D → vec J' (900 + s) = meO D s) ∧ (∀ a k, a ≠ 23 → I' a k = I a k) ∧ ∀ a k, ¬ (900 ≤ a ∧ a < 930) → J' a k = J a k := by
  have n60 := h.gd.n60
  have n30 := hG.n30 h.gd
  obtain ⟨l, e1, h1⟩ := for_ex (M := Nat → Int32) (fun k x => ev (d + 2) 40 2 [.ref 22, .int k] [] (S sl p (row I 23 x) J)) (nc D) (fun k x => ∀ j, j < k → x j = stn D j)
    (by
      intro k x hk hx
      rw [E40_2, row_n (by omega), h.count, if_pos (lt_n hk (by omega)), ck_if (ixb_n (by omega) (by decide)), ck_if (ixb_n (by omega) (by decide)), cl_n (by omega), row_n (by omega), hG.pl k hk, row_up, nI_1]
      refine ⟨_, rfl, fun j hj => ?_⟩
      by_cases e : j = k
      · rw [e, up1_s]
      · rw [up1_n e]; exact hx j (by omega))
    (I 23) (fun _ w => absurd w (Nat.not_lt_zero _))
  rw [row_id] at e1
  obtain ⟨J', e2, h2, h3⟩ := for_ex (M := Nat → Nat → Int64) (fun k y => ev (d + 2) 40 36 [.ref 22, .int k] [] (S sl p (row I 23 l) y)) (nst D) (fun k y => (∀ s, s < k → vec y (900 + s) = meO D s) ∧ ∀ a k, ¬ (900 ≤ a ∧ a < 930) → y a k = J a k)
    (by
      rintro k y hk ⟨g1, g2⟩
      have em : vec y (800 + k) = meO D k := by
        rw [← (hM k hk).mean]
        unfold vec
        rw [g2 _ _ (by omega), g2 _ _ (by omega), g2 _ _ (by omega)]
      rw [E40_36, row_n (by omega), hG.sets, if_pos (lt_n hk (by omega)), ck_if (ixb_n (by omega) (by decide)), ck_if (ixb_n (by omega) (by decide)), cl_n (by omega), sp_copyC (ob900 (by omega)) (ob800 (by omega)), evK_v, E40_65, nI_1, em]
      refine ⟨_, rfl, fun s hs => ?_, fun a j w => ?_⟩
      · by_cases q : s = k
        · rw [q, vec_setV]
        · rw [vec_setV_ne (by omega)]
          exact g1 s (by omega)
      · rw [setV_ne (by omega)]
        exact g2 a j w)
    J ⟨fun _ w => absurd w (Nat.not_lt_zero _), fun _ _ _ => rfl⟩
  refine ⟨row I 23 l, J', ?_, fun j hj => by rw [row_s]; exact h1 j hj, h2, fun a k w => row_n w, h3⟩
  rw [E40_0, e1, E40_2, row_n (by omega), h.count, if_neg (nlt_n (by omega)), e2, E40_36, row_n (by omega), hG.sets, if_neg (nlt_n (by omega))]
theorem C_settle (h : CK p I J D e) (hG : GrC I J D) (hM : ∀ s, s < nst D → Msd I J D s) {r : Nat} (hr1 : 1 ≤ r) (hr : r ≤ 90) : ∃ I' J', den (d + 5) 39 [.ref 22, .int (nI r)] (S sl p I J) = some (none, S sl p I' J') ∧ CK p I' J' D e ∧ StC I' J' D r ∧ (∀ a k, a ≠ 22 → a ≠ 23 → I' a k = I a k) ∧ ∀ a k, a ≠ 25 → a ≠ 26 → ¬ (900 ≤ a ∧ a < 930) → J' a k = J a k := by
  have n60 := h.sv.gd.n60
  have n30 := hG.n30 h.sv.gd
  by_cases q : I 22 8 = I 4 10 ∧ I 22 7 = nI r
  · obtain ⟨-, r', r1, r2, r3, r4⟩ := h.s.2 (q.1.trans h.ed)
    have : r' = r := nI_ij (by omega) (by omega) (r3.symm.trans q.2)
    subst this
    exact ⟨I, J, by rw [E39_0, if_pos q.1, if_pos q.2], h, r4, fun _ _ _ _ => rfl, fun _ _ _ _ _ => rfl⟩
  · have f1 : ∀ a k, a ≠ 22 → up2 (up2 I 22 8 (I 4 10)) 22 7 (nI r) a k = I a k := fun a k w => by rw [up_na w, up_na w]
    have g7 : up2 (up2 I 22 8 (I 4 10)) 22 7 (nI r) 22 7 = nI r := up_s
    have g8 : up2 (up2 I 22 8 (I 4 10)) 22 7 (nI r) 22 8 = I 4 10 := by rw [up_nk (by omega), up_s]
    have e0 : den (d + 5) 39 [.ref 22, .int (nI r)] (S sl p I J) = ev (d + 5) 39 23 [.ref 22, .int (nI r), .retAddr 0] [] (S sl p I J) := by
      rw [E39_0]
      by_cases q1 : I 22 8 = I 4 10
      · rw [if_pos q1, if_neg (fun w => q ⟨q1, w⟩)]
      · rw [if_neg q1]
    rw [e0, E39_23]
    generalize up2 (up2 I 22 8 (I 4 10)) 22 7 (nI r) = I1 at f1 g7 g8
    have s1 : SV p I1 J D := h.sv.fr (fun a k _ => f1 _ _ (by omega)) (f1 _ _ (by omega)) (f1 _ _ (by omega)) (fun a k _ _ => f1 _ _ (by omega)) (fun _ _ _ _ => rfl) (fun _ _ _ _ => rfl)
    have G1 : GrC I1 J D := hG.fr h.sv.gd (fun a k w => f1 _ _ (by omega)) (fun _ _ _ _ => rfl)
    obtain ⟨I2, J2, b1, b2, b3, b4, b5⟩ := C_begin (d := d + 2) (sl := sl) s1 G1 (fun s hs => (hM s hs).fr (fun k _ => f1 _ _ (by omega)) (fun _ => rfl) (fun _ => rfl) (fun _ => rfl))
    rw [b1, evK_v, E39_43]
    have f3 : ∀ a k, ¬ (a = 22 ∧ k = 6) → a ≠ 23 → up2 I2 22 6 0 a k = I1 a k := fun a k w1 w2 => by rw [up_n w1, b4 a k w2]
    have g6 : up2 I2 22 6 0 22 6 = nI 0 := up_s
    have g3 : ∀ j, j < nc D → up2 I2 22 6 0 23 j = stn D j := fun j hj => by rw [up_na (by omega)]; exact b2 j hj
    generalize up2 I2 22 6 0 = I3 at f3 g6 g3
    have s3 : SV p I3 J2 D := s1.fr (fun a k _ => f3 _ _ (by omega) (by omega)) (f3 _ _ (by omega) (by omega)) (f3 _ _ (by omega) (by omega)) (fun a k _ _ => f3 _ _ (by omega) (by omega)) (fun _ _ _ _ => b5 _ _ (by omega)) (fun _ _ _ _ => b5 _ _ (by omega))
    obtain ⟨I4, J4, c1, c2, c3, c4, c5, c6⟩ := C_rounds (d := d) (sl := sl) n30 hr 12 0 (stn D, meO D) I3 J2 (by omega) s3 (by rw [f3 _ _ (by omega) (by omega)]; exact G1.sets) (by rw [f3 _ _ (by omega) (by omega)]; exact g7) g6 g3 b3 (fun s hs => meO_b h.sv.gd hG.lab hs)
    have F : ∀ a k, a ≠ 22 → a ≠ 23 → I4 a k = I a k := fun a k w1 w2 => by rw [c5 a k (by omega) w2, f3 a k (by omega) w2, f1 a k w1]
    have K : ∀ a k, a ≠ 25 → a ≠ 26 → ¬ (900 ≤ a ∧ a < 930) → J4 a k = J a k := fun a k w1 w2 w3 => (c6 a k w1 w2 w3).trans (b5 a k w3)
    have hst : StC I4 J4 D r := ⟨c2, c3, c4⟩
    refine ⟨I4, J4, c1, ?_, hst, F, K⟩
    refine ⟨h.sv.fr (fun a k _ => F _ _ (by omega) (by omega)) (F _ _ (by omega) (by omega)) (F _ _ (by omega) (by omega)) (fun a k _ _ => F _ _ (by omega) (by omega)) (fun _ _ _ _ => K _ _ (by omega) (by omega) (by omega)) (fun _ _ _ _ => K _ _ (by omega) (by omega) (by omega)), by rw [F _ _ (by omega) (by omega)]; exact h.ed, fun k hk => by rw [F _ _ (by omega) (by omega)]; exact h.sl k hk, h.g.fr h.sv.gd (fun a k w => F _ _ (by omega) (by omega)) (fun a k _ _ => K _ _ (by omega) (by omega) (by omega)), h.b.fr (fun k _ _ => F _ _ (by omega) (by omega)), ?_, h.f.fr (F _ _ (by omega) (by omega)) (fun k => K _ _ (by omega) (by omega) (by omega)), h.x.fr (fun a k w => F _ _ (by omega) (by omega)), h.l.fr (fun a k w => F _ _ (by omega) (by omega)), h.t.fr (fun a k w => F _ _ (by omega) (by omega)), h.z.fr (fun a k w => F _ _ (by omega) (by omega))⟩
    have e8 : I4 22 8 = nI e := by rw [c5 _ _ (by omega) (by omega), f3 _ _ (by omega) (by omega), g8]; exact h.ed
    exact ⟨Or.inr ⟨e, Nat.le_refl e, e8⟩, fun _ => ⟨n30, r, hr1, hr, by rw [c5 _ _ (by omega) (by omega), f3 _ _ (by omega) (by omega)]; exact g7, hst⟩⟩
end SETT
