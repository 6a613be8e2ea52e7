/-! bridges -/
theorem cnt_kth {P : Nat → Bool} {k : Nat} : ∀ n, k < cnt P n → ∃ i, i < n ∧ P i = true ∧ cnt P i = k
  | 0, h => absurd h (Nat.not_lt_zero _)
  | n + 1, h => by
    rw [cnt_s] at h
    by_cases q : k < cnt P n
    · obtain ⟨i, h1, h2, h3⟩ := cnt_kth n q
      exact ⟨i, by omega, h2, h3⟩
    · by_cases r : P n = true
      · rw [if_pos r] at h
        exact ⟨n, by omega, r, by omega⟩
      · rw [if_neg r] at h
        omega
section BRI
variable {d sl : Nat} {p : Nat → Nat} {I I' : Nat → Nat → Int32} {J J' : Nat → Nat → Int64} {D : Nat → Nat → Int32} {e : Nat}
theorem brC_t {c k : Nat} : brC D c k = true ↔ k ≠ c ∧ stn D k = stn D c := by
  unfold brC
  simp
theorem brB_t {c : Nat} (hc : ¬ stn D c = -1) : brB D c = true ↔ ∃ k k', k < nc D ∧ k' < nc D ∧ brC D c k = true ∧ brC D c k' = true ∧ ¬ lb D (lk D) (nI c) k = lb D (lk D) (nI c) k' := by
  unfold brB
  simp only [decide_eq_false hc, Bool.not_false, Bool.true_and, decide_eq_true_eq]
  constructor
  · intro h
    obtain ⟨k, hk, h1⟩ := cnt_ex h
    simp only [Bool.and_eq_true, decide_eq_true_eq] at h1
    obtain ⟨k', hk', h2⟩ := cnt_ex h1.2
    simp only [Bool.and_eq_true, Bool.not_eq_true', decide_eq_false_iff_not] at h2
    exact ⟨k, k', hk, hk', h1.1, h2.1, h2.2⟩
  · rintro ⟨k, k', hk, hk', h1, h2, h3⟩
    refine cnt_pos hk ?_
    simp only [Bool.and_eq_true, decide_eq_true_eq]
    refine ⟨h1, cnt_pos hk' ?_⟩
    simp only [Bool.and_eq_true, Bool.not_eq_true', decide_eq_false_iff_not]
    exact ⟨h2, h3⟩
/-- the places of a set -/
theorem nt_ok (hD : GD D) {s : Int32} {k : Nat} (h : k < mem D s) : ntN D s k < nc D ∧ stn D (ntN D s k) = s ∧ cnt (fun j => decide (stn D j = s)) (ntN D s k) = k ∧ ntO D s k = nI (ntN D s k) := by
  obtain ⟨i, h1, h2, h3⟩ := cnt_kth (nc D) h
  have hle : ntN D s k ≤ i := fsq_lt h1 (by unfold ntB; simp only [Bool.and_eq_true, decide_eq_true_eq]; exact ⟨of_decide_eq_true h2, h3⟩)
  have hlt : ntN D s k < nc D := by omega
  have hy : ntB D s k (ntN D s k) = true := fsq_yes _ _ hlt
  unfold ntB at hy
  simp only [Bool.and_eq_true, decide_eq_true_eq] at hy
  exact ⟨hlt, hy.1, hy.2, if_neg (by omega)⟩
/-- those that hang together without a crack are of one set -/
theorem con_set (hD : GD D) (hL : LabD D) {c i j : Nat} (hi : i < nc D) (hj : j < nc D) (h : Con (nc D) (nearA D (lk D)) (nI c) i j) : stn D i = stn D j := by
  have n60 := hD.n60
  obtain ⟨a0, a1, a2, a3, a4, a5, a6⟩ := id hL
  have e : lb D (lk D) (-1) i = lb D (lk D) (-1) j := h (lb D (lk D) (-1)) (fun x y hx hy _ _ hA => a4 x y hx hy (nI_m1 (by omega)) (nI_m1 (by omega)) hA (a3 x hx (nI_m1 (by omega))))
  unfold stn
  rw [e]
theorem cnt_rm {P : Nat → Bool} {c n : Nat} (hc : c < n) (h : P c = true) : cnt P n = cnt (fun k => !decide (k = c) && P k) n + 1 := cnt_up (P := fun k => !decide (k = c) && P k) (Q := P) (b := c) n hc (by simp) h (fun j hj => by simp [hj])
theorem C_isBridge (h : SV p I J D) (hG : GrC I J D) {c : Nat} (hc : c < nc D) : ∃ I', den (d + 3) 96 [.ref 11, .int (nI c)] (S sl p I J) = some (some (.int (if brB D c = true then 1 else 0)), S sl p I' J) ∧ ∀ a k, a ≠ 15 → a ≠ 18 → I' a k = I a k := by
  have hD := h.gd
  have hL := hG.lab
  have n60 := hD.n60
  have k45 := hD.k45
  have n30 := hG.n30 hD
  rw [E96_0, ck_if (ixb_n (by omega) (by decide)), cl_n (by omega), hG.pl c hc]
  rcases set_c hD hL hc with w | ⟨s, hs, w⟩
  · refine ⟨I, ?_, fun _ _ _ _ => rfl⟩
    rw [w, if_pos (by decide), if_neg (by unfold brB; simp [w])]
  · have hne : ¬ stn D c = -1 := by rw [w]; exact nI_m1 (by omega)
    have hm2 := mem_2 hD hL hs
    obtain ⟨q1, q2, q3, q4⟩ := nt_ok hD (s := nI s) (k := 0) (by omega)
    obtain ⟨r1, r2, r3, r4⟩ := nt_ok hD (s := nI s) (k := 1) (by omega)
    obtain ⟨st, st1, st2, st3, est⟩ : ∃ st, st < nc D ∧ stn D st = nI s ∧ st ≠ c ∧ evK (d + 3) 96 19 [.ref 11, .int (nI c), .int (nI s), .retAddr 0] [] (den (d + 2) 101 [.ref 11, .int (nI s), .int 0] (S sl p I J)) = ev (d + 3) 96 32 [.ref 11, .int (nI c), .int (nI s), .int (nI st)] [] (S sl p I J) := by
      have e0 := C_placed (d := d + 2) (sl := sl) h hG.pl (nI s) (k := 0) (by omega)
      have e1 := C_placed (d := d + 2) (sl := sl) h hG.pl (nI s) (k := 1) (by omega)
      rw [q4] at e0
      rw [r4] at e1
      by_cases z : ntN D (nI s) 0 = c
      · refine ⟨ntN D (nI s) 1, r1, r2, fun y => by rw [y, ← z, q3] at r3; omega, ?_⟩
        rw [show den (d + 2) 101 [.ref 11, .int (nI s), .int 0] (S sl p I J) = _ from e0, evK_s, E96_19, if_pos (by rw [z]), show den (d + 2) 101 [.ref 11, .int (nI s), .int 1] (S sl p I J) = _ from e1, evK_s, E96_31]
      · refine ⟨ntN D (nI s) 0, q1, q2, z, ?_⟩
        rw [show den (d + 2) 101 [.ref 11, .int (nI s), .int 0] (S sl p I J) = _ from e0, evK_s, E96_19, if_neg (fun y => z (nI_ij (by omega) (by omega) y))]
    rw [w, if_neg (nI_pos (by omega)), est, E96_32, if_neg (nI_pos (by omega))]
    obtain ⟨l0, a1, a2⟩ := sp_scatter (d := d + 2) (sl := sl) h
    have s1 : SV p (row I 15 l0) J D := SV_row (by omega) h
    have hcb : ¬ nI st = nI c := fun y => st3 (nI_ij (by omega) (by omega) y)
    have h15 : ∀ j, j < nc D → row I 15 l0 15 j = -1 := fun j hj => by rw [row_s]; exact a2 j hj
    obtain ⟨l, q, b1, b2, b3, b4⟩ := sp_spread (d := d + 1) (sl := sl) s1 (an := lk D) (k := st) (g := 0) (bt := nI c) (by omega) (fun j hj => Or.inl (h15 j hj)) (by omega) st1 hcb (h15 st st1)
    obtain ⟨l', z', q', -, hLab, -⟩ := sp_heapUp (d := 0) (sl := 0) h (an := lk D) (bt := nI c) (by omega)
    obtain ⟨L0, L1, L2, L3, L4, L5, L6⟩ := id hLab
    have hreach : ∀ j, j < nc D → (l j = nI 0 ↔ j ≠ c ∧ lb D (lk D) (nI c) j = lb D (lk D) (nI c) st) := by
      intro j hj
      constructor
      · intro hl
        rcases b2 j with y | ⟨y1, y2, y3, y4, y5⟩
        · rw [h15 j hj] at y
          rw [y] at hl
          exact absurd hl.symm (nI_m1 (by omega))
        · refine ⟨fun z => y4 (by rw [z]), ?_⟩
          exact (y5 (lb D (lk D) (nI c)) (fun x y hx hy bx bY hA => L4 x y hx hy bx bY hA (L3 x hx bx))).symm
      · rintro ⟨hjc, hl⟩
        have hb : ¬ nI j = nI c := fun y => hjc (nI_ij (by omega) (by omega) y)
        have hcon := L5 j st hj st1 (L3 j hj hb) hl
        have hf := hcon (fun x => if l x = nI 0 then 1 else 0) (fun x y hx hy bx bY hA => by
          have go : ∀ x y, x < nc D → y < nc D → ¬ nI y = nI c → nearA D (lk D) x y → l x = nI 0 → l y = nI 0 := by
            intro x y hx hy bY hA hx0
            rcases b2 y with v | ⟨v1, v2, v3, v4, v5⟩
            · rw [h15 y hy] at v
              exact absurd hA (b4 x hx hx0 y hy bY v)
            · exact v2
          have hA2 : nearA D (lk D) y x := by unfold nearA at *; rw [nb_sy]; exact hA
          by_cases q1 : l x = nI 0
          · rw [if_pos q1, if_pos (go x y hx hy bY hA q1)]
          · rw [if_neg q1, if_neg (fun q2 => q1 (go y x hy hx bx hA2 q2))])
        simp only [if_pos b3] at hf
        by_cases q1 : l j = nI 0
        · exact q1
        · rw [if_neg q1] at hf
          exact absurd hf (by decide)
    have hstb : brC D c st = true := brC_t.mpr ⟨st3, by rw [st2, w]⟩
    have hinset : ∀ j, j < nc D → l j = nI 0 → brC D c j = true := by
      intro j hj hl
      obtain ⟨h1, h2⟩ := (hreach j hj).mp hl
      have hb : ¬ nI j = nI c := fun y => h1 (nI_ij (by omega) (by omega) y)
      exact brC_t.mpr ⟨h1, by rw [con_set hD hL hj st1 (L5 j st hj st1 (L3 j hj hb) h2), st2, w]⟩
    have hmem : mem D (nI s) = cnt (brC D c) (nc D) + 1 := by
      unfold mem
      rw [cnt_rm hc (by simp [w])]
      congr 1
      exact cnt_c _ (fun j _ => by unfold brC; rw [w])
    have hle : cnt (fun j => decide (l j = nI 0)) (nc D) ≤ cnt (brC D c) (nc D) := cnt_mono _ (fun j hj y => hinset j hj (of_decide_eq_true y))
    have hbr : brB D c = true ↔ cnt (fun j => decide (l j = nI 0)) (nc D) < cnt (brC D c) (nc D) := by
      rw [brB_t hne]
      constructor
      · rintro ⟨k, k', hk, hk', c1, c2, c3⟩
        have hex : ∃ j, j < nc D ∧ brC D c j = true ∧ ¬ lb D (lk D) (nI c) j = lb D (lk D) (nI c) st := by
          by_cases z : lb D (lk D) (nI c) k = lb D (lk D) (nI c) st
          · exact ⟨k', hk', c2, fun y => c3 (z.trans y.symm)⟩
          · exact ⟨k, hk, c1, z⟩
        obtain ⟨j, hj, j1, j2⟩ := hex
        exact cnt_lt _ (fun j hj y => hinset j hj (of_decide_eq_true y)) ⟨j, hj, j1, fun y => j2 ((hreach j hj).mp (of_decide_eq_true y)).2⟩
      · intro hlt
        have hex : ∃ j, j < nc D ∧ brC D c j = true ∧ ¬ l j = nI 0 := Classical.byContradiction (fun hno => by
          have : cnt (brC D c) (nc D) ≤ cnt (fun j => decide (l j = nI 0)) (nc D) := cnt_mono _ (fun j hj y => decide_eq_true (Classical.byContradiction (fun z => hno ⟨j, hj, y, z⟩)))
          omega)
        obtain ⟨j, hj, j1, j2⟩ := hex
        exact ⟨j, st, hj, st1, j1, hstb, fun y => j2 ((hreach j hj).mpr ⟨(brC_t.mp j1).1, y⟩)⟩
    refine ⟨row (row (row I 15 l0) 15 l) 18 q, ?_, fun a k w1 w2 => by rw [row_n w2, row_n w1, row_n w1]⟩
    have b1' : den (d + 2) 88 [.ref 11, .int (nI st), .int 0, .int (nI (lk D)), .int (nI c)] (S sl p (row I 15 l0) J) = some (some (.int (nI (cnt (fun j => decide (l j = nI 0)) (nc D)))), S sl p (row (row (row I 15 l0) 15 l) 18 q) J) := b1
    have e3 : row (row (row I 15 l0) 15 l) 18 q (400 + s) 3 = nI (mem D (nI s)) := by rw [row_n (by omega), row_n (by omega), row_n (by omega)]; exact hG.gsz s hs
    have hml : mem D (nI s) ≤ nc D := mem_le _ _
    rw [a1, evK_v, E96_42, s1.link, b1', evK_s, E96_53, ck_if (ixb_n (by omega) (by decide)), cl_n (by omega), e3, show nI (mem D (nI s)) - 1 = nI (mem D (nI s) - 1) from nI_sub (b := 1) (by omega) (by omega), hmem, Nat.add_sub_cancel]
    by_cases z : cnt (fun j => decide (l j = nI 0)) (nc D) < cnt (brC D c) (nc D)
    · rw [if_pos ((nI_lt_iff (by omega) (by omega)).mpr z), if_pos (hbr.mpr z)]
    · rw [if_neg (fun y => z ((nI_lt_iff (by omega) (by omega)).mp y)), if_neg (fun y => z (hbr.mp y))]
/-- from above down -/
def fdN (P : Nat → Bool) (n : Nat) : Nat → Int32
  | 0 => -1
  | j + 1 => if P (n - (j + 1)) = true then nI (n - (j + 1)) else fdN P n j
theorem fiB_s {P : Nat → Bool} {n : Nat} : fiB P (n + 1) = if fiB P n = -1 then (if P n = true then nI n else -1) else fiB P n := rfl
theorem fd_fi {P : Nat → Bool} {n : Nat} (hn : n < 2 ^ 30) : ∀ j, j ≤ n → fiB P n = if fiB P (n - j) = -1 then fdN P n j else fiB P (n - j)
  | 0, _ => by
    rw [Nat.sub_zero]
    split
    · rename_i w; rw [w]; rfl
    · rfl
  | j + 1, h => by
    rw [fd_fi hn j (by omega), show n - j = (n - (j + 1)) + 1 by omega, fiB_s]
    have e : fdN P n (j + 1) = if P (n - (j + 1)) = true then nI (n - (j + 1)) else fdN P n j := rfl
    rw [e]
    by_cases q : fiB P (n - (j + 1)) = -1
    · rw [if_pos q, if_pos q]
      by_cases r : P (n - (j + 1)) = true
      · rw [if_pos r, if_pos r, if_neg (nI_m1 (by omega))]
      · rw [if_neg r, if_neg r, if_pos rfl]
    · rw [if_neg q, if_neg q, if_neg q]
theorem C_findBridges (h : CK p I J D e) (hG : GrC I J D) : ∃ I', den (d + 4) 95 [.ref 11] (S sl p I J) = some (none, S sl p I' J) ∧ CK p I' J D e ∧ I' 11 17 = nI (cnt (brB D) (nc D)) ∧ I' 11 18 = fiB (brB D) (nc D) ∧ Fc I J I' J := by
  have hD := h.sv.gd
  have n60 := hD.n60
  by_cases q : I 11 16 = I 4 10
  · obtain ⟨b1, b2⟩ := h.b.2 (q.trans h.ed)
    exact ⟨I, by rw [E95_0, if_pos q], h, b1, b2, Fc.refl⟩
  · have F0 : ∀ a k, ¬ (a = 11 ∧ 16 ≤ k ∧ k < 19) → up2 (up2 (up2 I 11 16 (I 4 10)) 11 17 0) 11 18 (-1) a k = I a k := fun a k w => by rw [up_n (by omega), up_n (by omega), up_n (by omega)]
    have g16 : up2 (up2 (up2 I 11 16 (I 4 10)) 11 17 0) 11 18 (-1) 11 16 = nI e := by rw [up_nk (by omega), up_nk (by omega), up_s]; exact h.ed
    have g17 : up2 (up2 (up2 I 11 16 (I 4 10)) 11 17 0) 11 18 (-1) 11 17 = 0 := by rw [up_nk (by omega), up_s]
    have g18 : up2 (up2 (up2 I 11 16 (I 4 10)) 11 17 0) 11 18 (-1) 11 18 = -1 := up_s
    rw [E95_0, if_neg q]
    generalize up2 (up2 (up2 I 11 16 (I 4 10)) 11 17 0) 11 18 (-1) = I1 at F0 g16 g17 g18
    have e48 : I1 4 8 = nI (nc D) := by rw [F0 _ _ (by omega)]; exact h.sv.count
    rw [e48]
    have lv1 : ∀ i, i < nc D → nI (nc D) - 1 - nI i = nI (nc D - 1 - i) := fun i hi => by
      rw [show nI (nc D) - 1 = nI (nc D - 1) from nI_sub (b := 1) (by omega) (by omega), nI_sub (by omega) (by omega)]
    have lv2 : ∀ i, i < nc D → nI (nc D - 1 - i) + (-1) = nI (nc D) - 1 - nI (i + 1) := fun i hi => by
      apply Int32.toInt_inj.mp
      have e1 : (-1 : Int32).toInt = -1 := rfl
      have e2 : (nI (nc D) - 1).toInt = (nc D : Int) - 1 := nI_sub_t (y := 1) (by omega) (by decide)
      rw [add32 (by rw [tI (by omega), e1]; omega) (by rw [tI (by omega), e1]; omega), tI (by omega), e1, sub32 (by rw [e2, tI (by omega)]; omega) (by rw [e2, tI (by omega)]; omega), e2, tI (by omega)]
      omega
    obtain ⟨I2, e1, k1, k2, k3⟩ := for_ex (M := Nat → Nat → Int32) (fun k x => ev (d + 4) 95 46 [.ref 11, .int (nI (nc D) - 1 - k)] [] (S sl p x J)) (nc D) (fun i x => x 11 17 = nI (cnt (brB D) (nc D) - cnt (brB D) (nc D - i)) ∧ x 11 18 = fdN (brB D) (nc D) i ∧ ∀ a k, ¬ (a = 11 ∧ 17 ≤ k ∧ k < 19) → a ≠ 15 → a ≠ 18 → x a k = I1 a k)
      (by
        rintro i x hi ⟨k1, k2, k3⟩
        have F : ∀ a k, ¬ (a = 11 ∧ 16 ≤ k ∧ k < 19) → a ≠ 15 → a ≠ 18 → x a k = I a k := fun a k w1 w2 w3 => by rw [k3 a k (by omega) w2 w3, F0 a k w1]
        have s2 : SV p x J D := h.sv.fr (fun a k _ => F _ _ (by omega) (by omega) (by omega)) (F _ _ (by omega) (by omega) (by omega)) (F _ _ (by omega) (by omega) (by omega)) (fun a k _ _ => F _ _ (by omega) (by omega) (by omega)) (fun _ _ _ _ => rfl) (fun _ _ _ _ => rfl)
        have G2 : GrC x J D := hG.fr hD (fun a k w => F _ _ (by omega) (by omega) (by omega)) (fun _ _ _ _ => rfl)
        obtain ⟨x2, c1, c2⟩ := C_isBridge (d := d) (sl := sl) s2 G2 (c := nc D - 1 - i) (by omega)
        have hs := cnt_s (P := brB D) (n := nc D - 1 - i)
        rw [show nc D - 1 - i + 1 = nc D - i by omega] at hs
        have hmono : cnt (brB D) (nc D - i) ≤ cnt (brB D) (nc D) := by
          have key : ∀ m, nc D - i ≤ m → cnt (brB D) (nc D - i) ≤ cnt (brB D) m := by
            intro m hm
            induction hm with
            | refl => exact Nat.le_refl _
            | step _ ih => exact Nat.le_trans ih (Nat.le_add_right _ _)
          exact key _ (by omega)
        have ed : fdN (brB D) (nc D) (i + 1) = if brB D (nc D - (i + 1)) = true then nI (nc D - (i + 1)) else fdN (brB D) (nc D) i := rfl
        rw [lv1 i hi, E95_46, if_neg (nI_pos (by omega)), c1, evK_s, E95_55, lv2 i hi]
        rw [show nc D - 1 - i = nc D - (i + 1) by omega] at *
        by_cases z : brB D (nc D - (i + 1)) = true
        · rw [if_pos z, if_neg (by decide)]
          rw [if_pos z] at hs ed
          refine ⟨_, rfl, ?_, ?_, fun a k w1 w2 w3 => by rw [up_n (by omega), up_n (by omega), c2 a k w2 w3]; exact k3 a k w1 w2 w3⟩
          · rw [up_nk (by omega), up_s, c2 _ _ (by omega) (by omega), k1, nI_1]
            congr 1
            omega
          · rw [up_s, ed]
        · rw [if_neg z, if_pos rfl]
          rw [if_neg z] at hs ed
          refine ⟨x2, rfl, ?_, ?_, fun a k w1 w2 w3 => (c2 a k w2 w3).trans (k3 a k w1 w2 w3)⟩
          · rw [c2 _ _ (by omega) (by omega), k1]
            congr 1
            omega
          · rw [c2 _ _ (by omega) (by omega), k2, ed])
      I1 ⟨by rw [g17, Nat.sub_zero, Nat.sub_self]; rfl, g18, fun _ _ _ _ _ => rfl⟩
    have F : ∀ a k, ¬ (a = 11 ∧ 16 ≤ k ∧ k < 19) → a ≠ 15 → a ≠ 18 → I2 a k = I a k := fun a k w1 w2 w3 => by rw [k3 a k (by omega) w2 w3, F0 a k w1]
    have r17 : I2 11 17 = nI (cnt (brB D) (nc D)) := by rw [k1, Nat.sub_self]; rfl
    have r18 : I2 11 18 = fiB (brB D) (nc D) := by
      rw [k2, fd_fi (P := brB D) (n := nc D) (by omega) (nc D) (Nat.le_refl _), Nat.sub_self]
      exact (if_pos rfl).symm
    refine ⟨I2, ?_, ?_, r17, r18, ⟨fun a k _ _ => F _ _ (by omega) (by omega) (by omega), fun _ _ _ _ => rfl⟩⟩
    · have e0 : nI (nc D) - 1 - 0 = nI (nc D) - 1 := Int32.sub_zero _
      rw [e0] at e1
      have hl : nI (nc D) - 1 - nI (nc D) < 0 := by
        have e2 : (nI (nc D) - 1).toInt = (nc D : Int) - 1 := nI_sub_t (y := 1) (by omega) (by decide)
        rw [Int32.lt_iff_toInt_lt, sub32 (by rw [e2, tI (by omega)]; omega) (by rw [e2, tI (by omega)]; omega), e2, tI (by omega)]
        have e0 : (0 : Int32).toInt = 0 := rfl
        omega
      rw [e1, E95_46, if_pos hl]
    · exact ⟨h.sv.fr (fun a k _ => F _ _ (by omega) (by omega) (by omega)) (F _ _ (by omega) (by omega) (by omega)) (F _ _ (by omega) (by omega) (by omega)) (fun a k _ _ => F _ _ (by omega) (by omega) (by omega)) (fun _ _ _ _ => rfl) (fun _ _ _ _ => rfl), by rw [F _ _ (by omega) (by omega) (by omega)]; exact h.ed, fun k hk => by rw [F _ _ (by omega) (by omega) (by omega)]; exact h.sl k hk, h.g.fr hD (fun a k w => F _ _ (by omega) (by omega) (by omega)) (fun _ _ _ _ => rfl), ⟨Or.inr ⟨e, Nat.le_refl e, by rw [k3 _ _ (by omega) (by omega) (by omega)]; exact g16⟩, fun _ => ⟨r17, r18⟩⟩, h.s.fr (fun a k w => F _ _ (by omega) (by omega) (by omega)) (fun _ _ _ _ => rfl), h.f.fr (F _ _ (by omega) (by omega) (by omega)) (fun _ => rfl), h.x.fr (fun a k w => F _ _ (by omega) (by omega) (by omega)), h.l.fr (fun a k w => F _ _ (by omega) (by omega) (by omega)), h.t.fr (fun a k w => F _ _ (by omega) (by omega) (by omega)), h.z.fr (fun a k w => F _ _ (by omega) (by omega) (by omega))⟩
/-- the model's bridge -/
theorem M_isBridge (hD : GD D) (h : dat I = D) (hS : SetAt I D) {c : Nat} (hc : c < nc D) (hne : ¬ stn D c = -1) : ∃ I', den (d + 7) 254 [.ref 46, .int (nI c)] (S sl p I J) = some (some (.int (if brB D c = true then 1 else 0)), S sl p I' J) ∧ dat I' = D ∧ SetAt I' D ∧ Fm I J I' J := by
  have n60 := hD.n60
  have k45 := hD.k45
  obtain ⟨I1, a1, a2, a3, a4, a5, a6⟩ := M_groups (d := d) (sl := sl) (p := p) (J := J) hD h (an := lk D) (bt := nI c) (by omega)
  have S1 : SetAt I1 D := hS.fr a6 a5
  obtain ⟨L0, L1, L2, L3, L4, L5, L6⟩ := id a3.lab
  have hit : Nat → Bool := fun k => brC D c k && decide (0 < cnt (fun j => brC D c j && !decide (lb D (lk D) (nI c) j = lb D (lk D) (nI c) k)) k)
  obtain ⟨hit, hhit⟩ : ∃ hit : Nat → Bool, ∀ k, hit k = (brC D c k && decide (0 < cnt (fun j => brC D c j && !decide (lb D (lk D) (nI c) j = lb D (lk D) (nI c) k)) k)) := ⟨_, fun _ => rfl⟩
  have hK : fsq hit (nc D) ≤ nc D := fsq_le _ _
  have hfa : ∀ k, k < fsq hit (nc D) → brC D c k = true → ∀ j, j < k → brC D c j = true → lb D (lk D) (nI c) j = lb D (lk D) (nI c) k := by
    intro k hk hb j hj hbj
    have hn := fsq_no _ _ _ hk
    rw [hhit, hb, Bool.true_and] at hn
    refine Classical.byContradiction (fun w => (of_decide_eq_false hn) (cnt_pos hj ?_))
    simp [hbj, w]
  obtain ⟨u, e1, g1⟩ := for_ex (M := Int32) (fun k u => ev (d + 7) 254 13 [.ref 46, .int (nI c), .int u, .int k] [] (S sl p I1 J)) (fsq hit (nc D)) (fun k u => (u = -1 ∧ ∀ j, j < k → brC D c j = false) ∨ ∃ m, m < k ∧ brC D c m = true ∧ u = lb D (lk D) (nI c) m ∧ ∀ j, j < k → brC D c j = true → lb D (lk D) (nI c) j = lb D (lk D) (nI c) m)
    (by
      intro k u hk hu
      have hkn : k < nc D := by omega
      rw [E254_13, d2 hD a2, if_pos (lt_n hkn (by omega)), nI_1]
      have no : brC D c k = false → ((u = -1 ∧ ∀ j, j < k + 1 → brC D c j = false) ∨ ∃ m, m < k + 1 ∧ brC D c m = true ∧ u = lb D (lk D) (nI c) m ∧ ∀ j, j < k + 1 → brC D c j = true → lb D (lk D) (nI c) j = lb D (lk D) (nI c) m) := by
        intro hb
        rcases hu with ⟨u1, u2⟩ | ⟨m, m1, m2, m3, m4⟩
        · refine Or.inl ⟨u1, fun j hj => ?_⟩
          by_cases z : j = k
          · rw [z]; exact hb
          · exact u2 j (by omega)
        · refine Or.inr ⟨m, by omega, m2, m3, fun j hj hbj => ?_⟩
          by_cases z : j = k
          · rw [z, hb] at hbj; cases hbj
          · exact m4 j (by omega) hbj
      by_cases q : k = c
      · rw [if_pos (by rw [q])]
        exact ⟨u, rfl, no (by unfold brC; simp [q])⟩
      · have hbk : ¬ nI k = nI c := fun w => q (nI_ij (by omega) (by omega) w)
        rw [if_neg hbk, ck_if (ixb_n (by omega) (by decide)), ck_if (ixb_n (by omega) (by decide)), cl_n (by omega), cl_n (by omega), S1.e61 k hkn, S1.e61 c hc, a3.e60 k hkn]
        by_cases r : stn D k = stn D c
        · have hb : brC D c k = true := brC_t.mpr ⟨q, r⟩
          rw [if_pos r]
          rcases hu with ⟨u1, u2⟩ | ⟨m, m1, m2, m3, m4⟩
          · rw [if_pos u1, ck_if (ixb_n (by omega) (by decide))]
            refine ⟨_, rfl, Or.inr ⟨k, by omega, hb, rfl, fun j hj hbj => ?_⟩⟩
            by_cases z : j = k
            · rw [z]
            · rw [u2 j (by omega)] at hbj; cases hbj
          · have hm : ¬ u = -1 := by rw [m3]; exact L3 m (by omega) (fun w => (brC_t.mp m2).1 (nI_ij (by omega) (by omega) w))
            have heq : lb D (lk D) (nI c) k = u := by rw [m3]; exact (hfa k hk hb m m1 m2).symm
            rw [if_neg hm, ck_if (ixb_n (by omega) (by decide)), if_pos heq, ck_if (ixb_n (by omega) (by decide))]
            refine ⟨_, rfl, Or.inr ⟨k, by omega, hb, rfl, fun j hj hbj => ?_⟩⟩
            by_cases z : j = k
            · rw [z]
            · exact hfa k hk hb j (by omega) hbj
        · rw [if_neg r]
          exact ⟨u, rfl, no (by unfold brC; simp [r])⟩)
    (-1) (Or.inl ⟨rfl, fun _ w => absurd w (Nat.not_lt_zero _)⟩)
  refine ⟨I1, ?_, a2, S1, a4⟩
  rw [E254_0, d3 hD h, a1, evK_v, E254_9, e1]
  by_cases q : fsq hit (nc D) = nc D
  · rw [q, E254_13, d2 hD a2, if_neg (nlt_n (by omega)), if_neg]
    intro hb
    obtain ⟨k, k', hk, hk', c1, c2, c3⟩ := (brB_t hne).mp hb
    rw [q] at hfa
    rcases Nat.lt_trichotomy k k' with w | w | w
    · exact c3 (hfa k' hk' c2 k w c1)
    · exact c3 (by rw [w])
    · exact c3 (hfa k hk c1 k' w c2).symm
  · have hy := fsq_yes hit (nc D) (by omega)
    generalize fsq hit (nc D) = k at *
    have hkn : k < nc D := by omega
    rw [hhit] at hy
    simp only [Bool.and_eq_true, decide_eq_true_eq] at hy
    obtain ⟨j, hj, hj2⟩ := cnt_ex hy.2
    simp only [Bool.and_eq_true, Bool.not_eq_true', decide_eq_false_iff_not] at hj2
    obtain ⟨kc, ks⟩ := brC_t.mp hy.1
    have hbk : ¬ nI k = nI c := fun w => kc (nI_ij (by omega) (by omega) w)
    have hB : brB D c = true := (brB_t hne).mpr ⟨j, k, by omega, hkn, hj2.1, hy.1, hj2.2⟩
    rcases g1 with ⟨u1, u2⟩ | ⟨m, m1, m2, m3, m4⟩
    · rw [u2 j hj] at hj2
      cases hj2.1
    · have hm : ¬ u = -1 := by rw [m3]; exact L3 m (by omega) (fun w => (brC_t.mp m2).1 (nI_ij (by omega) (by omega) w))
      have hneq : ¬ lb D (lk D) (nI c) k = u := by
        rw [m3]
        intro w
        exact hj2.2 ((m4 j hj hj2.1).trans w.symm)
      rw [E254_13, d2 hD a2, if_pos (lt_n hkn (by omega)), if_neg hbk, ck_if (ixb_n (by omega) (by decide)), ck_if (ixb_n (by omega) (by decide)), cl_n (by omega), cl_n (by omega), S1.e61 k hkn, S1.e61 c hc, a3.e60 k hkn, if_pos ks, if_neg hm, ck_if (ixb_n (by omega) (by decide)), if_neg hneq, if_pos hB]
theorem fi_cnt {P : Nat → Bool} : ∀ n, n < 2 ^ 30 → (cnt P n = 0 ↔ fiB P n = -1) ∧ (fiB P n = -1 ∨ ∃ i, i < n ∧ fiB P n = nI i)
  | 0, _ => ⟨⟨fun _ => rfl, fun _ => rfl⟩, Or.inl rfl⟩
  | n + 1, h => by
    obtain ⟨ih, ih2⟩ := fi_cnt (P := P) n (by omega)
    rw [cnt_s, fiB_s]
    by_cases q : fiB P n = -1
    · rw [if_pos q, ih.mpr q]
      by_cases r : P n = true
      · rw [if_pos r, if_pos r]
        exact ⟨⟨fun w => absurd w (by omega), fun w => absurd w (nI_m1 (by omega))⟩, Or.inr ⟨n, by omega, rfl⟩⟩
      · rw [if_neg r, if_neg r]
        exact ⟨⟨fun _ => rfl, fun _ => rfl⟩, Or.inl rfl⟩
    · rw [if_neg q]
      refine ⟨⟨fun w => absurd (ih.mp (by omega)) q, fun w => absurd w q⟩, ?_⟩
      rcases ih2 with w | ⟨i, hi, w⟩
      · exact absurd w q
      · exact Or.inr ⟨i, by omega, w⟩
theorem A_bridges (hD : GD D) (w : Int32) : Agr (d + 40) sl p D e 138 255 [.int w] := by
  have n60 := hD.n60
  by_cases ha : ∃ s, s ≤ 1 ∧ w = nI s
  · obtain ⟨k, hk, rfl⟩ := ha
    have w : (if nI k < 0 then (0 : Int32) else if nI k ≤ 1 then 1 else 0) = 1 := wi_y (n := 1) hk (by decide)
    obtain ⟨f1, f2⟩ := fi_cnt (P := brB D) (nc D) (by omega)
    have hcl : cnt (brB D) (nc D) ≤ nc D := cnt_le _
    have hC : ∀ I J, CK p I J D e → ∃ I1, den (d + 40) 138 [.ref 1, .int (nI k)] (S sl p I J) = ev (d + 40) 138 29 [.ref 1, .int (nI k)] [] (S sl p I1 J) ∧ CK p I1 J D e ∧ I1 11 17 = nI (cnt (brB D) (nc D)) ∧ I1 11 18 = fiB (brB D) (nc D) ∧ Fc I J I1 J := by
      intro I J h
      obtain ⟨I1, a1, a2, a3, a4⟩ := C_refresh (d := d + 36) (sl := sl) h
      obtain ⟨I2, b1, b2, b3, b4, b5⟩ := C_findBridges (d := d + 35) (sl := sl) a2 a3
      exact ⟨I2, by rw [E138_0, sp_within, w, evK_s, E138_6, if_neg (by decide), a1, evK_v, E138_22, b1, evK_v], b2, b3, b4, a4.trans b5⟩
    have hM : ∀ I J, dat I = D → ∃ I1, den (d + 40) 255 [.ref 46, .int (nI k)] (S sl p I J) = ev (d + 40) 255 26 [.ref 46, .int (nI k), .int (nI (cnt (brB D) (nc D))), .int (fiB (brB D) (nc D)), .int (nI (nc D))] [] (S sl p I1 J) ∧ dat I1 = D ∧ Fm I J I1 J := by
      intro I J h
      obtain ⟨I1, a1, a2, a3, a4⟩ := M_sets (d := d + 32) (sl := sl) (p := p) (J := J) hD h
      obtain ⟨⟨u, v, x⟩, e1, g1, g2, g3, g4, g5⟩ := for_ex (M := Int32 × Int32 × (Nat → Nat → Int32)) (fun j m => ev (d + 40) 255 26 [.ref 46, .int (nI k), .int m.1, .int m.2.1, .int j] [] (S sl p m.2.2 J)) (nc D) (fun j m => m.1 = nI (cnt (brB D) j) ∧ m.2.1 = fiB (brB D) j ∧ dat m.2.2 = D ∧ SetAt m.2.2 D ∧ Fm I J m.2.2 J)
        (by
          rintro j ⟨u, v, x⟩ hj ⟨g1, g2, g3, g4, g5⟩
          simp only at g1 g2 g3 g4 g5
          simp only
          have hcj : cnt (brB D) j ≤ j := cnt_le _
          obtain ⟨fj, -⟩ := fi_cnt (P := brB D) j (by omega)
          rw [E255_26, d2 hD g3, if_pos (lt_n hj (by omega)), ck_if (ixb_n (by omega) (by decide)), cl_n (by omega), g4.e61 j hj, nI_1]
          by_cases q : stn D j = -1
          · have hb : brB D j = false := by unfold brB; simp [q]
            rw [if_pos q]
            refine ⟨(u, v, x), rfl, ?_, ?_, g3, g4, g5⟩
            · show u = _
              rw [cnt_s, hb, g1]; rfl
            · show v = _
              rw [fiB_s, hb, g2]
              split
              · rename_i z; exact z
              · rfl
          · obtain ⟨x2, c1, c2, c3, c4⟩ := M_isBridge (d := d + 32) (sl := sl) (p := p) (J := J) hD g3 g4 hj q
            rw [if_neg q, c1, evK_s, E255_52, nI_1]
            by_cases hb : brB D j = true
            · rw [if_pos hb, if_neg (by decide), g1, nI_1]
              by_cases z : cnt (brB D) j = 0
              · rw [if_pos (by rw [z]; rfl)]
                refine ⟨(nI (cnt (brB D) j + 1), nI j, x2), rfl, ?_, ?_, c2, c3, g5.trans c4⟩
                · show nI (cnt (brB D) j + 1) = _
                  rw [cnt_s, if_pos hb]
                · show nI j = _
                  rw [fiB_s, if_pos (fj.mp z), if_pos hb]
              · rw [if_neg (show ¬ nI (cnt (brB D) j) = 0 from fun y => z (nI_ij (b := 0) (by omega) (by omega) y))]
                refine ⟨(nI (cnt (brB D) j + 1), v, x2), rfl, ?_, ?_, c2, c3, g5.trans c4⟩
                · show nI (cnt (brB D) j + 1) = _
                  rw [cnt_s, if_pos hb]
                · show v = _
                  rw [fiB_s, if_neg (fun y => z (fj.mpr y)), g2]
            · rw [if_neg hb, if_pos rfl]
              refine ⟨(u, v, x2), rfl, ?_, ?_, c2, c3, g5.trans c4⟩
              · show u = _
                rw [cnt_s, if_neg hb, g1]; rfl
              · show v = _
                rw [fiB_s, if_neg hb, g2]
                split
                · rename_i z; exact z
                · rfl)
        (0, -1, I1) ⟨rfl, rfl, a2, a3, a4⟩
      simp only at e1 g1 g2 g3 g4 g5
      exact ⟨x, by rw [E255_0, sp_isFrom, w, evK_s, E255_6, if_neg (by decide), a1, evK_v, E255_19, e1, g1, g2], g3, g5⟩
    have hk2 : k = 0 ∨ k = 1 := by omega
    rcases hk2 with rfl | rfl
    · refine ⟨.int (nI (cnt (brB D) (nc D))), 0, fun I J h => ?_, fun I J h => ?_⟩
      · obtain ⟨I1, a1, a2, a3, a4, a5⟩ := hC I J h
        exact QC.mk1 (I' := I1) (J' := J) (by rw [a1, E138_29, if_neg (by decide), a3, E163_0, evK_s, E138_57]) a2 a5
      · obtain ⟨I1, a1, a2, a3⟩ := hM I J h
        exact QM.mk1 (I' := I1) (J' := J) (by rw [a1, E255_26, d2 hD a2, if_neg (nlt_n (by omega)), if_pos (by decide), E179_0, evK_s, E255_87]) (a2.trans h.symm) a3
    · rcases f2 with z | ⟨i, hi, z⟩
      · have hc0 := f1.mpr z
        refine ⟨.int (-1), 5, fun I J h => ?_, fun I J h => ?_⟩
        · obtain ⟨I1, a1, a2, a3, a4, a5⟩ := hC I J h
          exact QC.mk1 (I' := I1) (J' := J) (by rw [a1, E138_29, if_pos (by decide), a4, z, C_orNothing_n, evK_s, E138_45]) a2 a5
        · obtain ⟨I1, a1, a2, a3⟩ := hM I J h
          exact QM.mk1 (I' := I1) (J' := J) (by rw [a1, E255_26, d2 hD a2, if_neg (nlt_n (by omega)), if_neg (by decide), hc0, if_pos (by decide), E178_0, evK_s, E255_99]) (a2.trans h.symm) a3
      · have hc0 : ¬ cnt (brB D) (nc D) = 0 := fun y => nI_m1 (c := i) (by omega) (z.symm.trans (f1.mp y))
        refine ⟨.int (nI i), 0, fun I J h => ?_, fun I J h => ?_⟩
        · obtain ⟨I1, a1, a2, a3, a4, a5⟩ := hC I J h
          exact QC.mk1 (I' := I1) (J' := J) (by rw [a1, E138_29, if_pos (by decide), a4, z, C_orNothing_y (by omega), evK_s, E138_45]) a2 a5
        · obtain ⟨I1, a1, a2, a3⟩ := hM I J h
          exact QM.mk1 (I' := I1) (J' := J) (by rw [a1, E255_26, d2 hD a2, if_neg (nlt_n (by omega)), if_neg (by decide), if_neg (show ¬ nI (cnt (brB D) (nc D)) = 0 from fun y => hc0 (nI_ij (b := 0) (by omega) (by omega) y)), z, E179_0, evK_s, E255_107]) (a2.trans h.symm) a3
  · have w : (if w < 0 then (0 : Int32) else if w ≤ 1 then 1 else 0) = 0 := wi_n (n := 1) (by decide) ha
    refine ⟨.int (-1), 1, fun I J h => QC.mk1 (I' := I) (J' := J) ?_ h Fc.refl, fun I J h => QM.mk1 (I' := I) (J' := J) ?_ rfl Fm.refl⟩
    · simp only [E138_0, E138_6, E138_14, E138_22, E138_29, E138_45, E138_57, w, evK_s, evK_v, E163_0, E164_0, E178_0, E179_0, E180_0, sp_within, sp_isFrom, n10, eq_self, if_true, if_false]
    · simp only [E255_0, E255_6, E255_14, E255_19, E255_52, E255_87, E255_99, E255_107, w, evK_s, evK_v, E163_0, E164_0, E178_0, E179_0, E180_0, sp_within, sp_isFrom, n10, eq_self, if_true, if_false]
end BRI
