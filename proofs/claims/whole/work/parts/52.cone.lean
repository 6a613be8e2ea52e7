/-! CONES, what is measured of a set -/
section CONE
variable {D : Nat → Nat → Int32} {P Q : Nat → Bool} {v : V3}
noncomputable def wtN (D : Nat → Nat → Int32) (i : Nat) : Nat := (wt D i).toInt.toNat
theorem GD.wn (hD : GD D) {i : Nat} (hi : i < nc D) : wt D i = nI (wtN D i) ∧ wtN D i ≤ 20000 := by
  obtain ⟨h1, h2⟩ := hD.wb hi
  have e : ((wtN D i : Nat) : Int) = (wt D i).toInt := by unfold wtN; exact Int.toNat_of_nonneg h1
  refine ⟨Int32.toInt_inj.mp ?_, by omega⟩
  rw [tI (by omega)]
  exact e.symm
noncomputable def haN (D : Nat → Nat → Int32) (P : Nat → Bool) (n : Nat) : Nat := smN (fun k => if P k = true then wtN D k else 0) n
theorem haN_s {n : Nat} : haN D P (n + 1) = haN D P n + if P n = true then wtN D n else 0 := rfl
theorem haN_c : ∀ n, (∀ j, j < n → P j = Q j) → haN D P n = haN D Q n
  | 0, _ => rfl
  | n + 1, h => by rw [haN_s, haN_s, haN_c n (fun j hj => h j (by omega)), h n (by omega)]
theorem haN_b (hD : GD D) : ∀ n, n ≤ nc D → haN D P n ≤ 20000 * n
  | 0, _ => Nat.le_refl 0
  | n + 1, h => by
    have ih := haN_b hD n (by omega)
    have := (hD.wn (i := n) (by omega)).2
    rw [haN_s]
    split <;> omega
theorem haN_add {R : Nat → Bool} : ∀ n, (∀ j, j < n → (R j = true ↔ P j = true ∨ Q j = true) ∧ ¬ (P j = true ∧ Q j = true)) → haN D R n = haN D P n + haN D Q n
  | 0, _ => rfl
  | n + 1, h => by
    have ih := haN_add n (fun j hj => h j (by omega))
    obtain ⟨h1, h2⟩ := h n (by omega)
    rw [haN_s, haN_s, haN_s, ih]
    by_cases p1 : P n = true
    · rw [if_pos (h1.mpr (Or.inl p1)), if_pos p1, if_neg (fun w => h2 ⟨p1, w⟩)]
      omega
    · by_cases p2 : Q n = true
      · rw [if_pos (h1.mpr (Or.inr p2)), if_neg p1, if_pos p2]
        omega
      · rw [if_neg (fun w => (h1.mp w).elim p1 p2), if_neg p1, if_neg p2]
        omega
theorem smP_m (hD : GD D) : ∀ n, n ≤ nc D → (smP D P v n).2 = lN (haN D P n)
  | 0, _ => rfl
  | n + 1, h => by
    have ih := smP_m hD n (by omega)
    obtain ⟨w1, w2⟩ := hD.wn (i := n) (by omega)
    have e : smP D P v (n + 1) = if P n = true then addS (smP D P v n) (wt D n) (decide (vd (pv D n) v < 0)) (pv D n) else smP D P v n := rfl
    rw [e, haN_s]
    by_cases q : P n = true
    · rw [if_pos q, if_pos q]
      show (smP D P v n).2 + (wt D n).toInt64 = _
      rw [ih, w1, nI_l (by omega), lN_add]
    · rw [if_neg q, if_neg q]
      exact ih
noncomputable def meB (D : Nat → Nat → Int32) (s : Nat) (k : Nat) : Bool := decide (stn D k = nI s)
noncomputable def maO (D : Nat → Nat → Int32) (s : Nat) : Nat := haN D (meB D s) (nc D)
theorem smO_m (hD : GD D) (s : Nat) : (smO D s).2 = lN (maO D s) := smP_m hD _ (Nat.le_refl _)
theorem maO_b (hD : GD D) (s : Nat) : maO D s ≤ 1200000 := by
  have := haN_b (P := meB D s) hD _ (Nat.le_refl _)
  have := hD.n60
  unfold maO
  omega
noncomputable def an2 (D : Nat → Nat → Int32) (s k : Nat) : Nat := va2 (pv D k) (meO D s)
theorem an2_90 (hD : GD D) (hl : LabD D) {s k : Nat} (hs : s < nst D) (hk : k < nc D) : an2 D s k ≤ 90 := va2_le (hD.bp hk) (meO_b hD hl hs)
def mxN (f : Nat → Nat) : Nat → Nat
  | 0 => 0
  | n + 1 => if mxN f n < f n then f n else mxN f n
theorem mxN_s {f : Nat → Nat} {n : Nat} : mxN f (n + 1) = if mxN f n < f n then f n else mxN f n := rfl
theorem mxN_b {f : Nat → Nat} {b : Nat} : ∀ n, (∀ j, j < n → f j ≤ b) → mxN f n ≤ b
  | 0, _ => Nat.zero_le _
  | n + 1, h => by
    have ih := mxN_b n (fun j hj => h j (by omega))
    have := h n (by omega)
    rw [mxN_s]
    split <;> omega
noncomputable def coF (D : Nat → Nat → Int32) (s k : Nat) : Nat := if stn D k = nI s then an2 D s k else 0
noncomputable def coO (D : Nat → Nat → Int32) (s : Nat) : Nat := mxN (coF D s) (nc D)
theorem coF_90 (hD : GD D) (hl : LabD D) {s k : Nat} (hs : s < nst D) (hk : k < nc D) : coF D s k ≤ 90 := by
  have := an2_90 hD hl hs hk
  unfold coF
  split <;> omega
theorem coO_90 (hD : GD D) (hl : LabD D) {s : Nat} (hs : s < nst D) : coO D s ≤ 90 := mxN_b _ (fun _ hj => coF_90 hD hl hs hj)
noncomputable def haO (D : Nat → Nat → Int32) (s a : Nat) : Nat := haN D (fun k => decide (stn D k = nI s) && decide (an2 D s k ≤ a)) (nc D)
noncomputable def atO (D : Nat → Nat → Int32) (s a : Nat) (n : Nat) : Nat := haN D (fun k => decide (stn D k = nI s) && decide (an2 D s k = a)) n
theorem atO_s {s a n : Nat} : atO D s a (n + 1) = atO D s a n + if (decide (stn D n = nI s) && decide (an2 D s n = a)) = true then wtN D n else 0 := rfl
theorem haO_0 (D : Nat → Nat → Int32) (s : Nat) : haO D s 0 = atO D s 0 (nc D) := haN_c _ (fun j _ => by simp only [Nat.le_zero_eq])
theorem haO_s (D : Nat → Nat → Int32) (s a : Nat) : haO D s (a + 1) = haO D s a + atO D s (a + 1) (nc D) := by
  refine haN_add _ (fun j _ => ?_)
  simp only [Bool.and_eq_true, decide_eq_true_eq]
  constructor
  · constructor
    · rintro ⟨h1, h2⟩
      rcases Nat.lt_or_ge (an2 D s j) (a + 1) with w | w
      · exact Or.inl ⟨h1, by omega⟩
      · exact Or.inr ⟨h1, by omega⟩
    · rintro (⟨h1, h2⟩ | ⟨h1, h2⟩)
      · exact ⟨h1, by omega⟩
      · exact ⟨h1, by omega⟩
  · rintro ⟨⟨_, h1⟩, ⟨_, h2⟩⟩
    omega
noncomputable def hfB (D : Nat → Nat → Int32) (s a : Nat) : Bool := decide (maO D s ≤ 2 * haO D s a)
noncomputable def hfO (D : Nat → Nat → Int32) (s : Nat) : Nat := fsq (hfB D s) 90
theorem haO_b (hD : GD D) (s a : Nat) : haO D s a ≤ 1200000 := by
  have := haN_b (P := fun k => decide (stn D k = nI s) && decide (an2 D s k ≤ a)) hD _ (Nat.le_refl _)
  have := hD.n60
  unfold haO
  omega
theorem atO_b (hD : GD D) (s a : Nat) {n : Nat} (hn : n ≤ nc D) : atO D s a n ≤ 1200000 := by
  have := haN_b (P := fun k => decide (stn D k = nI s) && decide (an2 D s k = a)) hD n hn
  have := hD.n60
  unfold atO
  omega
end CONE
def Msd (I : Nat → Nat → Int32) (J : Nat → Nat → Int64) (D : Nat → Nat → Int32) (s : Nat) : Prop := (I (400 + s) 6 = lv D (sd D (nI s))) ∧ (I (400 + s) 7 = nI (drv (meO D s))) ∧ (I (400 + s) 8 = nI (dpv (meO D s))) ∧ (I (400 + s) 9 = nI (coO D s)) ∧ (I (400 + s) 10 = nI (hfO D s)) ∧ (vec J (800 + s) = meO D s) ∧ (vec J (600 + s) = (smO D s).1) ∧ (J (500 + s) 1 = (smO D s).2)
theorem Msd.seed {I : Nat → Nat → Int32} {J : Nat → Nat → Int64} {D : Nat → Nat → Int32} {s : Nat} (h : Msd I J D s) : I (400 + s) 6 = lv D (sd D (nI s)) := h.1
theorem Msd.dir {I : Nat → Nat → Int32} {J : Nat → Nat → Int64} {D : Nat → Nat → Int32} {s : Nat} (h : Msd I J D s) : I (400 + s) 7 = nI (drv (meO D s)) := h.2.1
theorem Msd.dip {I : Nat → Nat → Int32} {J : Nat → Nat → Int64} {D : Nat → Nat → Int32} {s : Nat} (h : Msd I J D s) : I (400 + s) 8 = nI (dpv (meO D s)) := h.2.2.1
theorem Msd.cone {I : Nat → Nat → Int32} {J : Nat → Nat → Int64} {D : Nat → Nat → Int32} {s : Nat} (h : Msd I J D s) : I (400 + s) 9 = nI (coO D s) := h.2.2.2.1
theorem Msd.half {I : Nat → Nat → Int32} {J : Nat → Nat → Int64} {D : Nat → Nat → Int32} {s : Nat} (h : Msd I J D s) : I (400 + s) 10 = nI (hfO D s) := h.2.2.2.2.1
theorem Msd.mean {I : Nat → Nat → Int32} {J : Nat → Nat → Int64} {D : Nat → Nat → Int32} {s : Nat} (h : Msd I J D s) : vec J (800 + s) = meO D s := h.2.2.2.2.2.1
theorem Msd.sum {I : Nat → Nat → Int32} {J : Nat → Nat → Int64} {D : Nat → Nat → Int32} {s : Nat} (h : Msd I J D s) : vec J (600 + s) = (smO D s).1 := h.2.2.2.2.2.2.1
theorem Msd.mass {I : Nat → Nat → Int32} {J : Nat → Nat → Int64} {D : Nat → Nat → Int32} {s : Nat} (h : Msd I J D s) : J (500 + s) 1 = (smO D s).2 := h.2.2.2.2.2.2.2
def GrC (I : Nat → Nat → Int32) (J : Nat → Nat → Int64) (D : Nat → Nat → Int32) : Prop := (LabD D) ∧ (I 11 14 = nI (nst D)) ∧ (∀ j, j < nc D → I 12 j = stn D j) ∧ (∀ s, s < nst D → I (400 + s) 3 = nI (mem D (nI s))) ∧ (∀ s, s < nst D → I (400 + s) 4 = llS D s) ∧ (∀ k, k ≤ 45 → I 20 k = -1 ∨ I 20 k = nI (nbig D k (-1))) ∧ (∀ s, s < nst D → ¬ I (400 + s) 5 = 0 → Msd I J D s)
theorem GrC.lab {I : Nat → Nat → Int32} {J : Nat → Nat → Int64} {D : Nat → Nat → Int32} (h : GrC I J D) : LabD D := h.1
theorem GrC.sets {I : Nat → Nat → Int32} {J : Nat → Nat → Int64} {D : Nat → Nat → Int32} (h : GrC I J D) : I 11 14 = nI (nst D) := h.2.1
theorem GrC.pl {I : Nat → Nat → Int32} {J : Nat → Nat → Int64} {D : Nat → Nat → Int32} (h : GrC I J D) : ∀ j, j < nc D → I 12 j = stn D j := h.2.2.1
theorem GrC.gsz {I : Nat → Nat → Int32} {J : Nat → Nat → Int64} {D : Nat → Nat → Int32} (h : GrC I J D) : ∀ s, s < nst D → I (400 + s) 3 = nI (mem D (nI s)) := h.2.2.2.1
theorem GrC.gl {I : Nat → Nat → Int32} {J : Nat → Nat → Int64} {D : Nat → Nat → Int32} (h : GrC I J D) : ∀ s, s < nst D → I (400 + s) 4 = llS D s := h.2.2.2.2.1
theorem GrC.by45 {I : Nat → Nat → Int32} {J : Nat → Nat → Int64} {D : Nat → Nat → Int32} (h : GrC I J D) : ∀ k, k ≤ 45 → I 20 k = -1 ∨ I 20 k = nI (nbig D k (-1)) := h.2.2.2.2.2.1
theorem GrC.ms {I : Nat → Nat → Int32} {J : Nat → Nat → Int64} {D : Nat → Nat → Int32} (h : GrC I J D) : ∀ s, s < nst D → ¬ I (400 + s) 5 = 0 → Msd I J D s := h.2.2.2.2.2.2
section REF
variable {d sl : Nat} {p : Nat → Nat} {I I' : Nat → Nat → Int32} {J J' : Nat → Nat → Int64} {D : Nat → Nat → Int32}
theorem sp_refresh (h : SV p I J D) (hc : I 11 15 = I 4 10 → GrC I J D) : ∃ I', den (d + 3) 97 [.ref 11] (S sl p I J) = some (none, S sl p I' J) ∧ GrC I' J D ∧ I' 11 15 = I 4 10 ∧ ∀ a k, ¬ (a = 11 ∧ 14 ≤ k ∧ k < 16) → ¬ (12 ≤ a ∧ a < 22) → ¬ (400 ≤ a ∧ a < 430) → I' a k = I a k := by
  have n60 := h.gd.n60
  have k45 := h.gd.k45
  by_cases q : I 11 15 = I 4 10
  · exact ⟨I, by rw [E97_0, if_pos q], hc q, q, fun _ _ _ _ _ => rfl⟩
  rw [E97_0, if_neg q]
  have f1 : ∀ a k, ¬ (a = 11 ∧ 14 ≤ k ∧ k < 16) → up2 I 11 15 (I 4 10) a k = I a k := fun a k w => up_n (by omega)
  have g1 : up2 I 11 15 (I 4 10) 11 15 = I 4 10 := up_s
  generalize up2 I 11 15 (I 4 10) = I1 at f1 g1
  have h1 : SV p I1 J D := h.fr (fun a k w => f1 a k (by omega)) (f1 _ _ (by omega)) (f1 _ _ (by omega)) (fun a k _ _ => f1 a k (by omega)) (fun _ _ _ _ => rfl) (fun _ _ _ _ => rfl)
  obtain ⟨y, e2, hy⟩ := for_ex (M := Nat → Int32) (fun k x => ev (d + 3) 97 28 [.ref 11, .int k, .retAddr 0] [] (S sl p (row I1 20 x) J)) 46 (fun k x => ∀ j, j < k → x j = -1)
    (by
      intro k x hk hx
      rw [E97_28, if_pos (show nI k ≤ 45 from (nI_le_iff (b := 45) (by omega) (by omega)).mpr (by omega)), ck_if (ixb_n (by omega) (by decide)), cl_n (by omega), row_up, nI_1]
      refine ⟨_, rfl, fun j hj => ?_⟩
      by_cases e : j = k
      · rw [e, up1_s]
      · rw [up1_n e]; exact hx j (by omega))
    (I1 20) (fun _ w => absurd w (Nat.not_lt_zero _))
  rw [row_id] at e2
  have h2 : SV p (row I1 20 y) J D := SV_row (by omega) h1
  have f2 : ∀ a k, ¬ (12 ≤ a ∧ a < 22) → row I1 20 y a k = I1 a k := fun a k w => row_n (by omega)
  have g2 : ∀ j, j < 46 → row I1 20 y 20 j = -1 := fun j hj => by rw [row_s]; exact hy j hj
  rw [e2, E97_28, if_neg (show ¬ nI 46 ≤ 45 by decide), h2.link]
  generalize row I1 20 y = I2 at f2 g2 h2
  obtain ⟨l, z, u, e3, hl, l1, l2⟩ := sp_heapUp (d := d) (sl := sl) h2 (an := lk D) (bt := -1) (by omega)
  have h3 : SV p (row (row (row I2 15 l) 16 z) 18 u) J D := SV_row (by omega) (SV_row (by omega) (SV_row (by omega) h2))
  have f3 : ∀ a k, ¬ (15 ≤ a ∧ a < 19) → row (row (row I2 15 l) 16 z) 18 u a k = I2 a k := fun a k w => by rw [row_n (by omega), row_n (by omega), row_n (by omega)]
  have hH : HpAt (row (row (row I2 15 l) 16 z) 18 u) D := ⟨hl, fun j hj => by rw [row_n (by omega), row_n (by omega), row_s]; exact l1 j hj, fun c hc => by rw [row_n (by omega), row_s]; exact l2 c hc⟩
  rw [show d + 3 = (d + 2) + 1 from rfl, e3, evK_s, E97_56]
  generalize row (row (row I2 15 l) 16 z) 18 u = I3 at f3 h3 hH
  obtain ⟨w, e4, hw⟩ := sp_heapLies (d := d + 1) (sl := sl) h3 hH
  rw [e4, evK_v, E97_62]
  have f4 : ∀ a k, ¬ (15 ≤ a ∧ a < 19) → ¬ (a = 11 ∧ k = 14) → up2 (row I3 17 w) 11 14 0 a k = I3 a k := fun a k w1 w2 => by rw [up_n w2, row_n (by omega)]
  have g4 : up2 (row I3 17 w) 11 14 0 11 14 = 0 := up_s
  have g5 : ∀ c, c < gr D (lk D) (-1) → up2 (row I3 17 w) 11 14 0 17 c = gll D (lk D) (-1) c := fun c hc => by rw [up_n (by omega), row_s]; exact hw c hc
  have g6 : ∀ a k, a = 15 ∨ a = 16 → up2 (row I3 17 w) 11 14 0 a k = I3 a k := fun a k hk => by rw [up_n (by omega), row_n (by omega)]
  generalize up2 (row I3 17 w) 11 14 0 = I4 at f4 g4 g5 g6
  have hs4 : SV p I4 J D := h3.fr (fun a k w => f4 a k (by omega) (by omega)) (f4 _ _ (by omega) (by omega)) (f4 _ _ (by omega) (by omega)) (fun a k _ _ => f4 a k (by omega) (by omega)) (fun _ _ _ _ => rfl) (fun _ _ _ _ => rfl)
  obtain ⟨y5, e5, hy5⟩ := for_ex (M := Nat → Int32) (fun k x => ev (d + 2 + 1) 97 69 [.ref 11, .int (nI (gr D (lk D) (-1))), .int k] [] (S sl p (row I4 12 x) J)) (nc D) (fun k x => ∀ j, j < k → x j = -1)
    (by
      intro k x hk hx
      rw [E97_69, row_n (by omega), hs4.count, if_pos (lt_n hk (by omega)), ck_if (ixb_n (by omega) (by decide)), cl_n (by omega), row_up, nI_1]
      refine ⟨_, rfl, fun j hj => ?_⟩
      by_cases e : j = k
      · rw [e, up1_s]
      · rw [up1_n e]; exact hx j (by omega))
    (I4 12) (fun _ w => absurd w (Nat.not_lt_zero _))
  rw [row_id] at e5
  have h5 : SV p (row I4 12 y5) J D := SV_row (by omega) hs4
  have f5 : ∀ a k, a ≠ 12 → row I4 12 y5 a k = I4 a k := fun a k w => row_n w
  have g7 : ∀ j, j < nc D → row I4 12 y5 12 j = -1 := fun j hj => by rw [row_s]; exact hy5 j hj
  rw [e5, E97_69, h5.count, if_neg (nlt_n (by omega))]
  generalize row I4 12 y5 = I5 at f5 g7 h5
  have hH5 : HpAt I5 D := ⟨hl, fun j hj => by rw [f5 _ _ (by omega), g6 _ _ (by omega)]; exact hH.e15 j hj, fun c hc => by rw [f5 _ _ (by omega), g6 _ _ (by omega)]; exact hH.e16 c hc⟩
  obtain ⟨I6, e6, k1, k2, k3, k4⟩ := refr_95 (d := d + 1) (sl := sl) h5 hH5 (fun c hc => by rw [f5 _ _ (by omega)]; exact g5 c hc) (by rw [f5 _ _ (by omega)]; exact g4) g7
  have F : ∀ a k, ¬ (a = 11 ∧ 14 ≤ k ∧ k < 16) → ¬ (12 ≤ a ∧ a < 20) → ¬ (400 ≤ a ∧ a < 430) → I6 a k = I2 a k := fun a k w1 w2 w3 => by
    rw [k4 a k (by omega) (by omega) (by omega), f5 a k (by omega), f4 a k (by omega) (by omega), f3 a k (by omega)]
  refine ⟨I6, e6, ⟨hl, k1, k2, fun s hs => (k3 s hs).1, fun s hs => (k3 s hs).2.1, fun k hk => Or.inl ?_, fun s hs w => absurd (k3 s hs).2.2 w⟩, ?_, fun a k w1 w2 w3 => ?_⟩
  · rw [F _ _ (by omega) (by omega) (by omega)]; exact g2 k (by omega)
  · rw [k4 _ _ (by omega) (by omega) (by omega), f5 _ _ (by omega), f4 _ _ (by omega) (by omega), f3 _ _ (by omega), f2 _ _ (by omega)]
    exact g1
  · rw [F a k w1 (by omega) w3, f2 a k w2, f1 a k w1]
end REF
