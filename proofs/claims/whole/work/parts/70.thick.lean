/-! how thick poles are, roses, what is blind -/
theorem sn_fm : ((List.range 721).all fun k => decide (sn (nI k - 180) = sn (fmod (nI k - 180)) ∧ cs (nI k - 180) = cs (fmod (nI k - 180)))) = true := by decide +kernel
theorem sn_f {k : Nat} (h : k ≤ 720) : sn (nI k - 180) = sn (fmod (nI k - 180)) ∧ cs (nI k - 180) = cs (fmod (nI k - 180)) := of_decide_eq_true (List.all_eq_true.mp sn_fm k (List.mem_range.mpr (by omega)))
theorem sub180 (k : Nat) : nI k = nI (k + 180) - 180 := by rw [← nI_add, show (180 : Int32) = nI 180 from rfl, Int32.add_sub_cancel]
section THK
variable {d sl : Nat} {p : Nat → Nat} {I I' : Nat → Nat → Int32} {J J' : Nat → Nat → Int64} {D : Nat → Nat → Int32} {e : Nat}
theorem C_sine (hs : SNS I) {x : Int32} (hx : ∃ k, k ≤ 720 ∧ x = nI k - 180) : den (d + 1) 26 [.ref 2, .int x] (S sl p I J) = some (some (.int (sn x)), S sl p I J) := by
  obtain ⟨j, hj, rfl⟩ := hx
  obtain ⟨k, hk, ek⟩ := fmod_r (nI j - 180)
  rw [E26_0, ek, ck_if (ixb_n (by omega) (by decide)), cl_n (by omega), hs k (by omega), (sn_f hj).1, ek]
theorem C_cosine (hs : SNS I) {x : Int32} (hx : ∃ k, k ≤ 720 ∧ x = nI k - 180) : den (d + 1) 27 [.ref 2, .int x] (S sl p I J) = some (some (.int (cs x)), S sl p I J) := by
  obtain ⟨j, hj, rfl⟩ := hx
  obtain ⟨k, hk, ek⟩ := fmod_r (nI j - 180)
  have := cos_at hs (k := k) (by omega)
  rw [E27_0, ek, ck_if this.2, this.1, (sn_f hj).2, ek]
theorem C_cos {k : Nat} (hs : SNS I) (hk : k ≤ 540) : den (d + 1) 27 [.ref 2, .int (nI k)] (S sl p I J) = some (some (.int (cs (nI k))), S sl p I J) := C_cosine hs ⟨k + 180, by omega, sub180 k⟩
theorem C_sin {k : Nat} (hs : SNS I) (hk : k ≤ 540) : den (d + 1) 26 [.ref 2, .int (nI k)] (S sl p I J) = some (some (.int (sn (nI k))), S sl p I J) := C_sine hs ⟨k + 180, by omega, sub180 k⟩
def Lie (x y : Int32) : Prop := ∃ t q, t < 360 ∧ q ≤ 90 ∧ x = nI t ∧ y = nI q
theorem C_lie (x y b : Int32) (hb : (Lie x y ∧ b = 1) ∨ (¬ Lie x y ∧ b = 0)) : den (d + 1) 168 [.int x, .int y] (S sl p I J) = some (some (.int b), S sl p I J) := by
  rw [E168_0, sp_within, evK_s, E168_8]
  by_cases hx : ∃ s, s ≤ 359 ∧ x = nI s
  · rw [show (if x < 0 then (0 : Int32) else if x ≤ 359 then 1 else 0) = 1 from by obtain ⟨s, hs, rfl⟩ := hx; exact wi_y (n := 359) hs (by decide), if_neg (by decide), sp_within, evK_s, E168_18]
    by_cases hy : ∃ s, s ≤ 90 ∧ y = nI s
    · rw [show (if y < 0 then (0 : Int32) else if y ≤ 90 then 1 else 0) = 1 from by obtain ⟨s, hs, rfl⟩ := hy; exact wi_y (n := 90) hs (by decide), if_neg (by decide)]
      rcases hb with ⟨-, rfl⟩ | ⟨w, -⟩
      · rfl
      · obtain ⟨s, hs, rfl⟩ := hx
        obtain ⟨q, hq, rfl⟩ := hy
        exact absurd ⟨s, q, by omega, hq, rfl, rfl⟩ w
    · rw [show (if y < 0 then (0 : Int32) else if y ≤ 90 then 1 else 0) = 0 from wi_n (n := 90) (by decide) hy, if_pos rfl]
      rcases hb with ⟨⟨t, q, h1, h2, h3, h4⟩, -⟩ | ⟨-, rfl⟩
      · exact absurd ⟨q, h2, h4⟩ hy
      · rfl
  · rw [show (if x < 0 then (0 : Int32) else if x ≤ 359 then 1 else 0) = 0 from wi_n (n := 359) (by decide) hx, if_pos rfl]
    rcases hb with ⟨⟨t, q, h1, h2, h3, h4⟩, -⟩ | ⟨-, rfl⟩
    · exact absurd ⟨t, by omega, h3⟩ hx
    · rfl
theorem M_lieQ (x y b : Int32) (hb : (Lie x y ∧ b = 1) ∨ (¬ Lie x y ∧ b = 0)) : den (d + 1) 199 [.int x, .int y] (S sl p I J) = some (some (.int b), S sl p I J) := by
  rw [E199_0, sp_isFrom, evK_s, E199_8]
  by_cases hx : ∃ s, s ≤ 359 ∧ x = nI s
  · rw [show (if x < 0 then (0 : Int32) else if x ≤ 359 then 1 else 0) = 1 from by obtain ⟨s, hs, rfl⟩ := hx; exact wi_y (n := 359) hs (by decide), if_neg (by decide), sp_isFrom, evK_s, E199_18]
    by_cases hy : ∃ s, s ≤ 90 ∧ y = nI s
    · rw [show (if y < 0 then (0 : Int32) else if y ≤ 90 then 1 else 0) = 1 from by obtain ⟨s, hs, rfl⟩ := hy; exact wi_y (n := 90) hs (by decide), if_neg (by decide)]
      rcases hb with ⟨-, rfl⟩ | ⟨w, -⟩
      · rfl
      · obtain ⟨s, hs, rfl⟩ := hx
        obtain ⟨q, hq, rfl⟩ := hy
        exact absurd ⟨s, q, by omega, hq, rfl, rfl⟩ w
    · rw [show (if y < 0 then (0 : Int32) else if y ≤ 90 then 1 else 0) = 0 from wi_n (n := 90) (by decide) hy, if_pos rfl]
      rcases hb with ⟨⟨t, q, h1, h2, h3, h4⟩, -⟩ | ⟨-, rfl⟩
      · exact absurd ⟨q, h2, h4⟩ hy
      · rfl
  · rw [show (if x < 0 then (0 : Int32) else if x ≤ 359 then 1 else 0) = 0 from wi_n (n := 359) (by decide) hx, if_pos rfl]
    rcases hb with ⟨⟨t, q, h1, h2, h3, h4⟩, -⟩ | ⟨-, rfl⟩
    · exact absurd ⟨t, by omega, h3⟩ hx
    · rfl
theorem haN_60 (hD : GD D) (P : Nat → Bool) : haN D P (nc D) ≤ 1200000 := by
  have := haN_b (P := P) hD _ (Nat.le_refl _)
  have := hD.n60
  omega
theorem C_thick (h : SV p I J D) {a k : Nat} (ha : ob a 0) (va : bv (vec J a)) (hk : k ≤ 90) : den (d + 2) 74 [.ref 4, .ref a, .int (nI k)] (S sl p I J) = some (some (.int (nI (thN D (vec J a) k))), S sl p I J) := by
  have n60 := h.gd.n60
  obtain ⟨x, e1, hx⟩ := for_ex (M := Nat) (fun j x => ev (d + 2) 74 5 [.ref 4, .ref a, .int (nI k), .int (nI x), .int j] [] (S sl p I J)) (nc D) (fun j x => x = haN D (fun i => decide (va2 (pv D i) (vec J a) ≤ k)) j)
    (by
      intro j x hj hx
      have hp := h.p60 j
      rw [E74_5 _ _ _ h.p60 ha, h.count, if_pos (lt_n hj (by omega)), ck_if (ixb_n (by omega) (by decide)), cl_n (by omega), sp_areNearC (obP hp) ha hk h.sn (by rw [h.pole j hj]; exact h.gd.bp hj) va, h.pole j hj, evK_s, E74_33 _ _ _ _ h.p60 ha, nI_1, haN_s, ck_if (ixb_n (by omega) (by decide)), cl_n (by omega), (h.ck j hj).2.2.2.2.2.2, (h.gd.wn hj).1, nI_add, hx]
      by_cases q : va2 (pv D j) (vec J a) ≤ k
      · rw [if_pos q, if_neg (by decide), if_pos (decide_eq_true q)]
        exact ⟨_, rfl, rfl⟩
      · rw [if_neg q, if_pos rfl, if_neg (by simpa using q)]
        exact ⟨_, rfl, rfl⟩)
    0 rfl
  rw [E74_0 _ ha, show (0 : Int32) = nI 0 from rfl]
  rw [show (0 : Int32) = nI 0 from rfl] at e1
  rw [e1, E74_5 _ _ _ h.p60 ha, h.count, if_neg (nlt_n (by omega)), hx]
  rfl
theorem C_massAll (h : SV p I J D) : den d 73 [.ref 4] (S sl p I J) = some (some (.long (lN (maA D))), S sl p I J) := by
  have n60 := h.gd.n60
  obtain ⟨x, e1, hx⟩ := for_ex (M := Nat) (fun j x => ev d 73 4 [.ref 4, .long (lN x), .retAddr 0, .int j] [] (S sl p I J)) (nc D) (fun j x => x = haN D (fun _ => true) j)
    (by
      intro j x hj hx
      obtain ⟨w1, w2⟩ := h.gd.wn hj
      rw [E73_4 _ _ h.p60, h.count, if_pos (lt_n hj (by omega)), ck_if (ixb_n (by omega) (by decide)), cl_n (by omega), (h.ck j hj).2.2.2.2.2.2, w1, nI_l (by omega), lN_add, nI_1, haN_s, hx]
      exact ⟨_, rfl, rfl⟩)
    0 rfl
  rw [E73_0]
  refine Eq.trans e1 ?_
  rw [E73_4 _ _ h.p60, h.count, if_neg (nlt_n (by omega)), hx]
  rfl
theorem M_weights (hD : GD D) (h : dat I = D) : den (d + 5) 267 [.ref 46] (S sl p I J) = some (some (.long (lN (maA D))), S sl p I J) := by
  have n60 := hD.n60
  obtain ⟨x, e1, hx⟩ := for_ex (M := Nat) (fun j x => ev (d + 5) 267 4 [.ref 46, .long (lN x), .retAddr 0, .int j] [] (S sl p I J)) (nc D) (fun j x => x = haN D (fun _ => true) j)
    (by
      intro j x hj hx
      obtain ⟨w1, w2⟩ := hD.wn hj
      rw [E267_4, d2 hD h, if_pos (lt_n hj (by omega)), M_wt hD h hj, evK_s, E267_18, w1, nI_l (by omega), lN_add, nI_1, haN_s, hx]
      exact ⟨_, rfl, rfl⟩)
    0 rfl
  rw [E267_0]
  refine Eq.trans e1 ?_
  rw [E267_4, d2 hD h, if_neg (nlt_n (by omega)), hx]
  rfl
theorem set3_r {x y z : Int32} : set3 I x y z 46 23 = x ∧ set3 I x y z 46 24 = y ∧ set3 I x y z 46 25 = z := by
  unfold set3
  exact ⟨by rw [up_nk (by omega), up_nk (by omega), up_s], by rw [up_nk (by omega), up_s], up_s⟩
theorem set3_n {x y z : Int32} {a k : Nat} (h : ¬ (a = 46 ∧ 23 ≤ k ∧ k < 26)) : set3 I x y z a k = I a k := by
  unfold set3
  rw [up_n (by omega), up_n (by omega), up_n (by omega)]
theorem M_thick (hD : GD D) (h : dat I = D) (r q : Int32) {k : Nat} (hk : k ≤ 90) : den (d + 6) 268 [.ref 46, .int r, .int q, .int (nI k)] (S sl p I J) = some (some (.int (nI (thN D (poV r q) k))), S sl p (set3 I (poX r q) (poY r q) (poZ q)) J) := by
  have n60 := hD.n60
  have hb := poV_b r q
  rw [E268_0, sp_laysPole, evK_v, E268_6, sp_square, evK_s, E268_24, set3_r.1, set3_r.2.1, set3_r.2.2]
  have hd : dat (set3 I (poX r q) (poY r q) (poZ q)) = D := by rw [dat_set3]; exact h
  have g1 := (set3_r (I := I) (x := poX r q) (y := poY r q) (z := poZ q)).1
  have g2 := (set3_r (I := I) (x := poX r q) (y := poY r q) (z := poZ q)).2.1
  have g3 := (set3_r (I := I) (x := poX r q) (y := poY r q) (z := poZ q)).2.2
  generalize set3 I (poX r q) (poY r q) (poZ q) = I1 at hd g1 g2 g3
  subst hd
  rw [show vq ((poX r q).toInt64, (poY r q).toInt64, (poZ q).toInt64) = vq (poV r q) from rfl]
  obtain ⟨x, e1, hx⟩ := for_ex (M := Int32) (fun j x => ev (d + 6) 268 32 [.ref 46, .int r, .int q, .int (nI k), .long (vq (poV r q)), .retAddr 0, .int x, .int j] [] (S sl p I1 J)) (nc (dat I1)) (fun j x => x = nI (haN (dat I1) (fun i => decide (va2 (pv (dat I1) i) (poV r q) ≤ k)) j))
    (by
      intro j x hj hx
      have ed : vd ((I1 54 j).toInt64, (I1 55 j).toInt64, (I1 56 j).toInt64) ((poX r q).toInt64, (poY r q).toInt64, (poZ q).toInt64) = vd (pv (dat I1) j) (poV r q) := by
        unfold pv poV
        rw [dat_r (by omega), dat_r (by omega), dat_r (by omega)]
      rw [E268_32, hD.i2, if_pos (lt_n hj (by omega)), ck_if (ixb_n (by omega) (by decide)), ck_if (ixb_n (by omega) (by decide)), ck_if (ixb_n (by omega) (by decide)), cl_n (by omega), sp_dot, evK_s, E268_85, sp_squareOf (by omega), evK_s, E268_91, g1, g2, g3, ed, sp_isNear, evK_s, E268_98, near_if (okN_v (hD.bp hj) hb) hk, haN_s, hx]
      by_cases w : va2 (pv (dat I1) j) (poV r q) ≤ k
      · have w' : ag (vd (pv (dat I1) j) (poV r q)) (vq (pv (dat I1) j) * vq (poV r q)) ≤ k := w
        rw [if_pos w', if_neg (by decide), sp_wt hD hj, evK_s, E268_107, (hD.wn hj).1, nI_add, nI_1, if_pos (decide_eq_true w)]
        exact ⟨_, rfl, rfl⟩
      · have w' : ¬ ag (vd (pv (dat I1) j) (poV r q)) (vq (pv (dat I1) j) * vq (poV r q)) ≤ k := w
        rw [if_neg w', if_pos rfl, nI_1, Int32.add_zero, if_neg (by simpa using w)]
        exact ⟨_, rfl, rfl⟩)
    0 rfl
  rw [e1, E268_32, hD.i2, if_neg (nlt_n (by omega)), hx]
  rfl
end THK
