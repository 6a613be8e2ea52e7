section NET2
variable {d sl : Nat} {p : Nat → Nat} {I I' : Nat → Nat → Int32} {J J' : Nat → Nat → Int64} {D : Nat → Nat → Int32} {e : Nat}
theorem C_findThick (h : CK p I J D e) {A : Nat} (hA : A ≤ 90) : ∃ I' J', den (d + 3) 85 [.ref 27, .int (nI A)] (S sl p I J) = some (none, S sl p I' J') ∧ CK p I' J' D e ∧ LiC I' 33 (pkO D A) ∧ Fc I J I' J' := by
  have n60 := h.sv.gd.n60
  by_cases q : I 27 11 = I 4 10 ∧ I 27 12 = nI A
  · obtain ⟨A', A1, A2, A3⟩ := h.t.2 (q.1.trans h.ed)
    have : A' = A := nI_ij (by omega) (by omega) (A2.symm.trans q.2)
    subst this
    exact ⟨I, J, by rw [E85_0, if_pos q.1, if_pos q.2], h, A3, Fc.refl⟩
  · have F0 : ∀ a k, ¬ (a = 27 ∧ (k = 11 ∨ k = 12)) → a ≠ 33 → up2 (up2 (up2 I 27 11 (I 4 10)) 27 12 (nI A)) 33 2 (-1) a k = I a k := fun a k w1 w2 => by rw [up_na w2, up_n (by omega), up_n (by omega)]
    have g10 : up2 (up2 (up2 I 27 11 (I 4 10)) 27 12 (nI A)) 33 2 (-1) 27 11 = nI e := by rw [up_na (by omega), up_nk (by omega), up_s]; exact h.ed
    have g12 : up2 (up2 (up2 I 27 11 (I 4 10)) 27 12 (nI A)) 33 2 (-1) 27 12 = nI A := by rw [up_na (by omega), up_s]
    have g2 : up2 (up2 (up2 I 27 11 (I 4 10)) 27 12 (nI A)) 33 2 (-1) 33 2 = -1 := up_s
    have e0 : den (d + 3) 85 [.ref 27, .int (nI A)] (S sl p I J) = ev (d + 3) 85 48 [.ref 27, .int (nI A), .int 0, .retAddr 0, .retAddr 0] [] (S sl p (up2 (up2 (up2 I 27 11 (I 4 10)) 27 12 (nI A)) 33 2 (-1)) J) := by
      rw [E85_0]
      by_cases q1 : I 27 11 = I 4 10
      · rw [if_pos q1, if_neg (fun w => q ⟨q1, w⟩)]
      · rw [if_neg q1]
    rw [e0]
    generalize up2 (up2 (up2 I 27 11 (I 4 10)) 27 12 (nI A)) 33 2 (-1) = I1 at F0 g10 g12 g2
    obtain ⟨⟨I2, J2⟩, e1, r1, r2, r3⟩ := net (M := (Nat → Nat → Int32) × (Nat → Nat → Int64)) (fun a b => decide (b < a)) (fun i j => thN D (poV (nI (10 * i)) (nI (10 * j))) A) (fun t q m => ev (d + 3) 85 56 [.ref 27, .int (nI A), .int q, .int t, .retAddr 0] [] (S sl p m.1 m.2)) (fun q m => ev (d + 3) 85 48 [.ref 27, .int (nI A), .int q, .retAddr 0, .retAddr 0] [] (S sl p m.1 m.2)) (fun o m => LiR m.1 33 (-1) o ∧ (∀ a k, a ≠ 33 → m.1 a k = I1 a k) ∧ ∀ a k, a ≠ 28 → m.2 a k = J a k)
      (by
        rintro i j o ⟨x, y⟩ hi hj ⟨r1, r2, r3⟩
        simp only at r1 r2 r3
        simp only
        have s1 : SV p x (setV y 28 (poV (nI (10 * i)) (nI (10 * j)))) D := h.sv.fr (fun a k _ => by rw [r2 _ _ (by omega), F0 _ _ (by omega) (by omega)]) (by rw [r2 _ _ (by omega), F0 _ _ (by omega) (by omega)]) (by rw [r2 _ _ (by omega), F0 _ _ (by omega) (by omega)]) (fun a k _ _ => by rw [r2 _ _ (by omega), F0 _ _ (by omega) (by omega)]) (fun a k _ _ => by rw [setV_ne (by omega), r3 _ _ (by omega)]) (fun a k _ _ => by rw [setV_ne (by omega), r3 _ _ (by omega)])
        have hwb : thN D (poV (nI (10 * i)) (nI (10 * j))) A ≤ 1200000 := haN_60 h.sv.gd _
        rw [E85_56, if_pos (show nI (10 * i) < 360 from lt_n (n := 360) (by omega) (by decide)), sp_poleInto (by omega) (by omega) ob_28 s1.sn, evK_v, E85_76, C_thick s1 ob_28 (by rw [vec_setV]; exact poV_b _ _) hA, vec_setV, evK_s, E85_88, show nI (10 * i) + 10 = nI (10 * (i + 1)) from by rw [show (10 : Int32) = nI 10 from rfl, nI_add]; rfl]
        generalize thN D (poV (nI (10 * i)) (nI (10 * j))) A = w at hwb
        have K : ∀ a k, a ≠ 28 → setV y 28 (poV (nI (10 * i)) (nI (10 * j))) a k = J a k := fun a k z => by rw [setV_ne z]; exact r3 a k z
        generalize setV y 28 (poV (nI (10 * i)) (nI (10 * j))) = y2 at K
        have upd : ∃ m' : (Nat → Nat → Int32) × (Nat → Nat → Int64), evK (d + 3) 85 110 [.ref 27, .int (nI A), .int (nI (10 * j)), .int (nI (10 * i)), .int (nI w)] [] (den (d + 2) 82 [.ref 33, .int (nI (10 * i)), .int (nI (10 * j))] (S sl p x y2)) = ev (d + 3) 85 56 [.ref 27, .int (nI A), .int (nI (10 * j)), .int (nI (10 * (i + 1))), .retAddr 0] [] (S sl p m'.1 m'.2) ∧ LiR m'.1 33 (-1) (some (w, i, j)) ∧ (∀ a k, a ≠ 33 → m'.1 a k = I1 a k) ∧ ∀ a k, a ≠ 28 → m'.2 a k = J a k := by
          rw [C_pair ar_33 (by omega) (by decide), evK_v, E85_110, show nI (10 * i) + 10 = nI (10 * (i + 1)) from by rw [show (10 : Int32) = nI 10 from rfl, nI_add]; rfl]
          have u0 : up2 (up2 (up2 x 33 0 (nI (10 * i))) 33 1 (nI (10 * j))) 33 2 (nI w) 33 0 = nI (10 * i) := by rw [up_nk (by omega), up_nk (by omega), up_s]
          have u1 : up2 (up2 (up2 x 33 0 (nI (10 * i))) 33 1 (nI (10 * j))) 33 2 (nI w) 33 1 = nI (10 * j) := by rw [up_nk (by omega), up_s]
          have u2 : up2 (up2 (up2 x 33 0 (nI (10 * i))) 33 1 (nI (10 * j))) 33 2 (nI w) 33 2 = nI w := up_s
          have uF : ∀ a k, a ≠ 33 → up2 (up2 (up2 x 33 0 (nI (10 * i))) 33 1 (nI (10 * j))) 33 2 (nI w) a k = I1 a k := fun a k z => by rw [up_na z, up_na z, up_na z]; exact r2 a k z
          generalize up2 (up2 (up2 x 33 0 (nI (10 * i))) 33 1 (nI (10 * j))) 33 2 (nI w) = x2 at u0 u1 u2 uF
          exact ⟨(x2, y2), rfl, LiR_s u0 u1 u2 hwb, uF, K⟩
        cases o with
        | none =>
          rw [r1.1 rfl, if_neg (show ¬ nI w ≤ -1 from fun z => by have := Int32.le_iff_toInt_le.mp z; rw [tI (by omega)] at this; have e1 : (-1 : Int32).toInt = -1 := rfl; omega)]
          exact upd
        | some z =>
          obtain ⟨w0, t0, q0⟩ := z
          obtain ⟨z0, z1, z2, z3⟩ := r1.2 w0 t0 q0 rfl
          rw [z2]
          by_cases c : w0 < w
          · rw [if_neg (fun z => by have := (nI_le_iff (by omega) (by omega)).mp z; omega)]
            have : stT (fun a b => decide (b < a)) w i j (some (w0, t0, q0)) = some (w, i, j) := if_pos (decide_eq_true c)
            rw [this]
            exact upd
          · rw [if_pos ((nI_le_iff (by omega) (by omega)).mpr (by omega))]
            have : stT (fun a b => decide (b < a)) w i j (some (w0, t0, q0)) = some (w0, t0, q0) := if_neg (by simpa using c)
            rw [this]
            exact ⟨(x, y2), rfl, r1, r2, K⟩)
      (by
        rintro j ⟨x, y⟩ hj
        simp only
        rw [E85_48, if_pos (show nI (10 * j) ≤ 90 from (nI_le_iff (b := 90) (by omega) (by omega)).mpr (by omega))])
      (by
        rintro j ⟨x, y⟩ hj
        simp only
        rw [E85_56, if_neg (by decide), show nI (10 * j) + 10 = nI (10 * (j + 1)) from by rw [show (10 : Int32) = nI 10 from rfl, nI_add]; rfl])
      (I1, J) ⟨⟨fun _ => g2, fun _ _ _ w => by cases w⟩, fun _ _ _ => rfl, fun _ _ _ => rfl⟩
    simp only at e1 r1 r2 r3
    have hne : ∃ w t q, pkO D A = some (w, t, q) := neA_some (n := 10) rfl
    obtain ⟨w, t, q', eo⟩ := hne
    have hli : LiC I2 33 (pkO D A) := by
      obtain ⟨z0, z1, z2, -⟩ := r1.2 w t q' eo
      exact ⟨w, t, q', eo, z0, z1, z2⟩
    have F : ∀ a k, ¬ (a = 27 ∧ (k = 11 ∨ k = 12)) → a ≠ 33 → I2 a k = I a k := fun a k w1 w2 => by rw [r2 a k w2, F0 a k w1 w2]
    refine ⟨I2, J2, ?_, ?_, hli, ⟨fun a k _ _ => F _ _ (by omega) (by omega), fun a k _ _ => r3 _ _ (by omega)⟩⟩
    · rw [e1, E85_48, if_neg (by decide)]
    · exact ⟨h.sv.fr (fun a k _ => F _ _ (by omega) (by omega)) (F _ _ (by omega) (by omega)) (F _ _ (by omega) (by omega)) (fun a k _ _ => F _ _ (by omega) (by omega)) (fun _ _ _ _ => r3 _ _ (by omega)) (fun _ _ _ _ => r3 _ _ (by omega)), by rw [F _ _ (by omega) (by omega)]; exact h.ed, fun k hk => by rw [F _ _ (by omega) (by omega)]; exact h.sl k hk, h.g.fr h.sv.gd (fun a k w => F _ _ (by omega) (by omega)) (fun a k _ _ => r3 _ _ (by omega)), h.b.fr (fun k _ _ => F _ _ (by omega) (by omega)), h.s.fr (fun a k w => F _ _ (by omega) (by omega)) (fun a k _ _ => r3 _ _ (by omega)), h.f.fr (F _ _ (by omega) (by omega)) (fun k => r3 _ _ (by omega)), h.x.fr (fun a k w => F _ _ (by omega) (by omega)), h.l.fr (fun a k w => F _ _ (by omega) (by omega)), ⟨Or.inr ⟨e, Nat.le_refl e, by rw [r2 _ _ (by omega)]; exact g10⟩, fun _ => ⟨A, hA, by rw [r2 _ _ (by omega)]; exact g12, hli⟩⟩, h.z.fr (fun a k w => F _ _ (by omega) (by omega))⟩
theorem M_nextLine (hD : GD D) (h : dat I = D) (k : Int32) : ∃ x y z w t q, nlO D = some (w, t, q) ∧ w ≤ 1200000 ∧ ev (d + 10) 276 41 [.ref 46, .int k, .long 9223372036854775807, .retAddr 0, .int 0, .int 0, .int 0, .retAddr 0, .retAddr 0, .retAddr 0, .retAddr 0] [] (S sl p I J) = ev (d + 10) 276 41 [.ref 46, .int k, .long (lN w), .retAddr 0, .int (nI (10 * t)), .int (nI (10 * q)), .int (nI 100), .retAddr 0, .retAddr 0, .retAddr 0, .retAddr 0] [] (S sl p (set3 I x y z) J) := by
  have n60 := hD.n60
  obtain ⟨⟨l2, l4, l5, x, y, z⟩, e1, r1, r2⟩ := net (M := Int64 × Int32 × Int32 × Int32 × Int32 × Int32) (fun a b => decide (a < b)) (fun i j => wbN D (arV (nI (10 * i)) (nI (10 * j))) (nc D)) (fun t q m => ev (d + 10) 276 51 [.ref 46, .int k, .long m.1, .retAddr 0, .int m.2.1, .int m.2.2.1, .int q, .int t, .retAddr 0, .retAddr 0, .retAddr 0] [] (S sl p (set3 I m.2.2.2.1 m.2.2.2.2.1 m.2.2.2.2.2) J)) (fun q m => ev (d + 10) 276 41 [.ref 46, .int k, .long m.1, .retAddr 0, .int m.2.1, .int m.2.2.1, .int q, .retAddr 0, .retAddr 0, .retAddr 0, .retAddr 0] [] (S sl p (set3 I m.2.2.2.1 m.2.2.2.2.1 m.2.2.2.2.2) J)) (fun o m => (o = none → m.1 = 9223372036854775807) ∧ ∀ w t q, o = some (w, t, q) → w ≤ 1200000 ∧ m.1 = lN w ∧ m.2.1 = nI (10 * t) ∧ m.2.2.1 = nI (10 * q))
    (by
      rintro i j o ⟨l2, l4, l5, x, y, z⟩ hi hj ⟨r1, r2⟩
      simp only at r1 r2
      simp only
      have hwb : wbN D (arV (nI (10 * i)) (nI (10 * j))) (nc D) ≤ 1200000 := by have := wbN_b hD (arV (nI (10 * i)) (nI (10 * j))) (nc D); omega
      rw [E276_51, if_pos (show nI (10 * i) < 360 from lt_n (n := 360) (by omega) (by decide)), sp_laysArrow, evK_v, set3_2, E276_67]
      have hd : dat (set3 I (arX (nI (10 * i)) (nI (10 * j))) (arY (nI (10 * i)) (nI (10 * j))) (arZ (nI (10 * j)))) = D := by rw [dat_set3]; exact h
      have g1 := (set3_r (I := I) (x := arX (nI (10 * i)) (nI (10 * j))) (y := arY (nI (10 * i)) (nI (10 * j))) (z := arZ (nI (10 * j)))).1
      have g2 := (set3_r (I := I) (x := arX (nI (10 * i)) (nI (10 * j))) (y := arY (nI (10 * i)) (nI (10 * j))) (z := arZ (nI (10 * j)))).2.1
      have g3 := (set3_r (I := I) (x := arX (nI (10 * i)) (nI (10 * j))) (y := arY (nI (10 * i)) (nI (10 * j))) (z := arZ (nI (10 * j)))).2.2
      have esum : ev (d + 10) 276 73 [.ref 46, .int k, .long l2, .retAddr 0, .int l4, .int l5, .int (nI (10 * j)), .int (nI (10 * i)), .long 0, .retAddr 0, .int 0] [] (S sl p (set3 I (arX (nI (10 * i)) (nI (10 * j))) (arY (nI (10 * i)) (nI (10 * j))) (arZ (nI (10 * j)))) J) = ev (d + 10) 276 73 [.ref 46, .int k, .long l2, .retAddr 0, .int l4, .int l5, .int (nI (10 * j)), .int (nI (10 * i)), .long (lN (wbN D (arV (nI (10 * i)) (nI (10 * j))) (nc D))), .retAddr 0, .int (nI (nc D))] [] (S sl p (set3 I (arX (nI (10 * i)) (nI (10 * j))) (arY (nI (10 * i)) (nI (10 * j))) (arZ (nI (10 * j)))) J) := by
        generalize set3 I (arX (nI (10 * i)) (nI (10 * j))) (arY (nI (10 * i)) (nI (10 * j))) (arZ (nI (10 * j))) = I1 at hd g1 g2 g3
        obtain ⟨u, c1, c2⟩ := for_ex (M := Int64) (fun n u => ev (d + 10) 276 73 [.ref 46, .int k, .long l2, .retAddr 0, .int l4, .int l5, .int (nI (10 * j)), .int (nI (10 * i)), .long u, .retAddr 0, .int n] [] (S sl p I1 J)) (nc D) (fun n u => u = lN (wbN D (arV (nI (10 * i)) (nI (10 * j))) n))
          (by
            intro n u hn hu
            subst hu
            have ew := sp_weightBy (d := d + 6) (sl := sl) (p := p) (I := I1) (J := J) (i := n) (a := arV (nI (10 * i)) (nI (10 * j))) (by omega) (by rw [hd]; exact hD.bp hn) (arV_b _ _)
            rw [hd] at ew
            have b2 := (wv_n hD (pv D n) (arV (nI (10 * i)) (nI (10 * j)))).2
            have e2 : den (d + 9) 196 [.ref 46, .int (nI n), .long (Int32.toInt64 (I1 46 23)), .long (Int32.toInt64 (I1 46 24)), .long (Int32.toInt64 (I1 46 25))] (S sl p I1 J) = den (d + 9) 196 [.ref 46, .int (nI n), .long (arV (nI (10 * i)) (nI (10 * j))).1, .long (arV (nI (10 * i)) (nI (10 * j))).2.1, .long (arV (nI (10 * i)) (nI (10 * j))).2.2] (S sl p I1 J) := by rw [g1, g2, g3]; rfl
            rw [E276_73, d2 hD hd, if_pos (lt_n hn (by omega)), e2, ew, evK_s, E276_105, nI_1, (wv_n hD (pv D n) (arV (nI (10 * i)) (nI (10 * j)))).1, nI_l (by omega), lN_add]
            exact ⟨_, rfl, by rw [wbN_s]⟩)
          0 rfl
        rw [c1, c2]
      rw [esum, E276_73, d2 hD hd, if_neg (nlt_n (by omega)), show nI (10 * i) + 10 = nI (10 * (i + 1)) from by rw [show (10 : Int32) = nI 10 from rfl, nI_add]; rfl]
      generalize wbN D (arV (nI (10 * i)) (nI (10 * j))) (nc D) = w at hwb
      have fin : (fun o (m : Int64 × Int32 × Int32 × Int32 × Int32 × Int32) => (o = none → m.1 = 9223372036854775807) ∧ ∀ w t q, o = some (w, t, q) → w ≤ 1200000 ∧ m.1 = lN w ∧ m.2.1 = nI (10 * t) ∧ m.2.2.1 = nI (10 * q)) (some (w, i, j)) (lN w, nI (10 * i), nI (10 * j), arX (nI (10 * i)) (nI (10 * j)), arY (nI (10 * i)) (nI (10 * j)), arZ (nI (10 * j))) := ⟨(fun z => by cases z), fun w' t' q' z => by cases z; exact ⟨hwb, rfl, rfl, rfl⟩⟩
      cases o with
      | none =>
        rw [r1 rfl, if_pos (show lN w < 9223372036854775807 from (pk_lLT (b := 9223372036854775807) (by omega) (by omega)).mpr (by omega))]
        exact ⟨(lN w, nI (10 * i), nI (10 * j), arX (nI (10 * i)) (nI (10 * j)), arY (nI (10 * i)) (nI (10 * j)), arZ (nI (10 * j))), rfl, fin⟩
      | some v =>
        obtain ⟨w0, t0, q0⟩ := v
        obtain ⟨z3, z0, z1, z2⟩ := r2 w0 t0 q0 rfl
        rw [z0]
        by_cases c : w < w0
        · rw [if_pos ((pk_lLT (by omega) (by omega)).mpr c)]
          have : stT (fun a b => decide (a < b)) w i j (some (w0, t0, q0)) = some (w, i, j) := if_pos (decide_eq_true c)
          rw [this]
          exact ⟨(lN w, nI (10 * i), nI (10 * j), arX (nI (10 * i)) (nI (10 * j)), arY (nI (10 * i)) (nI (10 * j)), arZ (nI (10 * j))), rfl, fin⟩
        · rw [if_neg (fun z => c ((pk_lLT (by omega) (by omega)).mp z))]
          have : stT (fun a b => decide (a < b)) w i j (some (w0, t0, q0)) = some (w0, t0, q0) := if_neg (by simpa using c)
          rw [this]
          refine ⟨(lN w0, l4, l5, arX (nI (10 * i)) (nI (10 * j)), arY (nI (10 * i)) (nI (10 * j)), arZ (nI (10 * j))), rfl, fun z => (by cases z), fun w' t' q' z => ?_⟩
          cases z
          exact ⟨z3, rfl, z1, z2⟩)
    (by
      rintro j ⟨l2, l4, l5, x, y, z⟩ hj
      simp only
      rw [E276_41, if_pos (show nI (10 * j) ≤ 90 from (nI_le_iff (b := 90) (by omega) (by omega)).mpr (by omega))])
    (by
      rintro j ⟨l2, l4, l5, x, y, z⟩ hj
      simp only
      rw [E276_51, if_neg (by decide), show nI (10 * j) + 10 = nI (10 * (j + 1)) from by rw [show (10 : Int32) = nI 10 from rfl, nI_add]; rfl])
    (9223372036854775807, 0, 0, I 46 23, I 46 24, I 46 25) ⟨fun _ => rfl, fun _ _ _ w => by cases w⟩
  simp only at e1 r1 r2
  rw [show set3 I (I 46 23) (I 46 24) (I 46 25) = I from by unfold set3; rw [up_id, up_id, up_id]] at e1
  obtain ⟨w, t, q, eo⟩ : ∃ w t q, nlO D = some (w, t, q) := neA_some (n := 10) rfl
  obtain ⟨z3, z0, z1, z2⟩ := r2 w t q eo
  refine ⟨x, y, z, w, t, q, eo, z3, ?_⟩
  rw [e1, z0, z1, z2]
theorem M_peak (hD : GD D) (h : dat I = D) {A : Nat} (hA : A ≤ 90) (k : Int32) : ∃ x y z w t q, pkO D A = some (w, t, q) ∧ ev (d + 10) 278 49 [.ref 46, .int (nI A), .int k, .int (-1), .int 0, .int 0, .int 0, .retAddr 0, .retAddr 0] [] (S sl p I J) = ev (d + 10) 278 49 [.ref 46, .int (nI A), .int k, .int (nI w), .int (nI (10 * t)), .int (nI (10 * q)), .int (nI 100), .retAddr 0, .retAddr 0] [] (S sl p (set3 I x y z) J) := by
  have n60 := hD.n60
  obtain ⟨⟨l3, l4, l5, x, y, z⟩, e1, r1, r2⟩ := net (M := Int32 × Int32 × Int32 × Int32 × Int32 × Int32) (fun a b => decide (b < a)) (fun i j => thN D (poV (nI (10 * i)) (nI (10 * j))) A) (fun t q m => ev (d + 10) 278 59 [.ref 46, .int (nI A), .int k, .int m.1, .int m.2.1, .int m.2.2.1, .int q, .int t, .retAddr 0] [] (S sl p (set3 I m.2.2.2.1 m.2.2.2.2.1 m.2.2.2.2.2) J)) (fun q m => ev (d + 10) 278 49 [.ref 46, .int (nI A), .int k, .int m.1, .int m.2.1, .int m.2.2.1, .int q, .retAddr 0, .retAddr 0] [] (S sl p (set3 I m.2.2.2.1 m.2.2.2.2.1 m.2.2.2.2.2) J)) (fun o m => (o = none → m.1 = -1) ∧ ∀ w t q, o = some (w, t, q) → w ≤ 1200000 ∧ m.1 = nI w ∧ m.2.1 = nI (10 * t) ∧ m.2.2.1 = nI (10 * q))
    (by
      rintro i j o ⟨l3, l4, l5, x, y, z⟩ hi hj ⟨r1, r2⟩
      simp only at r1 r2
      simp only
      have hwb : thN D (poV (nI (10 * i)) (nI (10 * j))) A ≤ 1200000 := haN_60 hD _
      rw [E278_59, if_pos (show nI (10 * i) < 360 from lt_n (n := 360) (by omega) (by decide)), M_thick hD (by rw [dat_set3]; exact h) _ _ hA, set3_2, evK_s, E278_76, show nI (10 * i) + 10 = nI (10 * (i + 1)) from by rw [show (10 : Int32) = nI 10 from rfl, nI_add]; rfl]
      generalize thN D (poV (nI (10 * i)) (nI (10 * j))) A = w at hwb
      have fin : (fun o (m : Int32 × Int32 × Int32 × Int32 × Int32 × Int32) => (o = none → m.1 = -1) ∧ ∀ w t q, o = some (w, t, q) → w ≤ 1200000 ∧ m.1 = nI w ∧ m.2.1 = nI (10 * t) ∧ m.2.2.1 = nI (10 * q)) (some (w, i, j)) (nI w, nI (10 * i), nI (10 * j), poX (nI (10 * i)) (nI (10 * j)), poY (nI (10 * i)) (nI (10 * j)), poZ (nI (10 * j))) := ⟨(fun z => by cases z), fun w' t' q' z => by cases z; exact ⟨hwb, rfl, rfl, rfl⟩⟩
      cases o with
      | none =>
        rw [r1 rfl, if_neg (show ¬ nI w ≤ -1 from fun z => by have := Int32.le_iff_toInt_le.mp z; rw [tI (by omega)] at this; have e1 : (-1 : Int32).toInt = -1 := rfl; omega)]
        exact ⟨(nI w, nI (10 * i), nI (10 * j), poX (nI (10 * i)) (nI (10 * j)), poY (nI (10 * i)) (nI (10 * j)), poZ (nI (10 * j))), rfl, fin⟩
      | some v =>
        obtain ⟨w0, t0, q0⟩ := v
        obtain ⟨z3, z0, z1, z2⟩ := r2 w0 t0 q0 rfl
        rw [z0]
        by_cases c : w0 < w
        · rw [if_neg (fun z => by have := (nI_le_iff (by omega) (by omega)).mp z; omega)]
          have : stT (fun a b => decide (b < a)) w i j (some (w0, t0, q0)) = some (w, i, j) := if_pos (decide_eq_true c)
          rw [this]
          exact ⟨(nI w, nI (10 * i), nI (10 * j), poX (nI (10 * i)) (nI (10 * j)), poY (nI (10 * i)) (nI (10 * j)), poZ (nI (10 * j))), rfl, fin⟩
        · rw [if_pos ((nI_le_iff (by omega) (by omega)).mpr (by omega))]
          have : stT (fun a b => decide (b < a)) w i j (some (w0, t0, q0)) = some (w0, t0, q0) := if_neg (by simpa using c)
          rw [this]
          refine ⟨(nI w0, l4, l5, poX (nI (10 * i)) (nI (10 * j)), poY (nI (10 * i)) (nI (10 * j)), poZ (nI (10 * j))), rfl, fun z => (by cases z), fun w' t' q' z => ?_⟩
          cases z
          exact ⟨z3, rfl, z1, z2⟩)
    (by
      rintro j ⟨l3, l4, l5, x, y, z⟩ hj
      simp only
      rw [E278_49, if_pos (show nI (10 * j) ≤ 90 from (nI_le_iff (b := 90) (by omega) (by omega)).mpr (by omega))])
    (by
      rintro j ⟨l3, l4, l5, x, y, z⟩ hj
      simp only
      rw [E278_59, if_neg (by decide), show nI (10 * j) + 10 = nI (10 * (j + 1)) from by rw [show (10 : Int32) = nI 10 from rfl, nI_add]; rfl])
    (-1, 0, 0, I 46 23, I 46 24, I 46 25) ⟨fun _ => rfl, fun _ _ _ w => by cases w⟩
  simp only at e1 r1 r2
  rw [show set3 I (I 46 23) (I 46 24) (I 46 25) = I from by unfold set3; rw [up_id, up_id, up_id]] at e1
  obtain ⟨w, t, q, eo⟩ : ∃ w t q, pkO D A = some (w, t, q) := neA_some (n := 10) rfl
  obtain ⟨z3, z0, z1, z2⟩ := r2 w t q eo
  refine ⟨x, y, z, w, t, q, eo, ?_⟩
  rw [e1, z0, z1, z2]
theorem A_nextLine (hD : GD D) (w : Int32) : Agr (d + 40) sl p D e 150 276 [.int w] := by
  have n60 := hD.n60
  by_cases ha : ∃ s, s ≤ 2 ∧ w = nI s
  · obtain ⟨k, hk, rfl⟩ := ha
    have w : (if nI k < 0 then (0 : Int32) else if nI k ≤ 2 then 1 else 0) = 1 := wi_y (n := 2) hk (by decide)
    by_cases q : nc D = 0
    · have q' : nI (nc D) = 0 := by rw [q]; rfl
      refine ⟨.int (-1), 5, fun I J h => QC.mk1 (I' := I) (J' := J) ?_ h Fc.refl, fun I J h => QM.mk1 (I' := I) (J' := J) ?_ rfl Fm.refl⟩
      · rw [E150_0, sp_within, w, evK_s, E150_6, if_neg (by decide), h.sv.count, if_pos q', E164_0, evK_s, E150_30]
      · rw [E276_0, sp_isFrom, w, evK_s, E276_6, if_neg (by decide), d2 hD h, if_pos q', E178_0, evK_s, E276_27]
    · have q' : ¬ nI (nc D) = 0 := fun w => q (nI_ij (b := 0) (by omega) (by omega) w)
      obtain ⟨w', t, r, eo⟩ : ∃ w t q, nlO D = some (w, t, q) := neA_some (n := 10) rfl
      refine ⟨.int (if k = 0 then nI (10 * t) else if k = 1 then nI (10 * r) else nI w'), 0, fun I J h => ?_, fun I J h => ?_⟩
      · obtain ⟨I1, J1, a1, a2, ⟨w2, t2, r2, eo2, c0, c1, c2⟩, a4⟩ := C_findBest (d := d + 36) (sl := sl) h (by omega)
        rw [eo] at eo2
        cases eo2
        refine QC.mk1 (I' := I1) (J' := J1) ?_ a2 a4
        rw [E150_0, sp_within, w, evK_s, E150_6, if_neg (by decide), h.sv.count, if_neg q', a1, evK_v, E150_38, ck_if (ixb_n (by omega) (by decide)), cl_n (by omega)]
        have hk2 : k = 0 ∨ k = 1 ∨ k = 2 := by omega
        rcases hk2 with rfl | rfl | rfl
        · rw [c0, E163_0, evK_s, E150_51, if_pos rfl]
        · rw [c1, E163_0, evK_s, E150_51, if_neg (by decide), if_pos rfl]
        · rw [c2, E163_0, evK_s, E150_51, if_neg (by decide), if_neg (by decide)]
      · obtain ⟨x, y, z, w2, t2, r2, eo2, hw2, e1⟩ := M_nextLine (d := d + 30) (sl := sl) (p := p) (J := J) hD h (nI k)
        rw [eo] at eo2
        cases eo2
        refine QM.mk1 (I' := set3 I x y z) (J' := J) ?_ dat_set3 Fm.set3
        rw [E276_0, sp_isFrom, w, evK_s, E276_6, if_neg (by decide), d2 hD h, if_neg q', e1, E276_41, if_neg (by decide)]
        have hk2 : k = 0 ∨ k = 1 ∨ k = 2 := by omega
        rcases hk2 with rfl | rfl | rfl
        · rw [if_pos (by decide), E276_170, E179_0, evK_s, E276_173, if_pos rfl]
        · rw [if_neg (by decide), if_pos (by decide), E276_170, E179_0, evK_s, E276_173, if_neg (by decide), if_pos rfl]
        · rw [if_neg (by decide), if_neg (by decide), E276_170, E179_0, evK_s, E276_173, if_neg (by decide), if_neg (by decide), show lN w' = (nI w').toInt64 from (nI_l (by omega)).symm, i64_i32]
  · have w : (if w < 0 then (0 : Int32) else if w ≤ 2 then 1 else 0) = 0 := wi_n (n := 2) (by decide) ha
    refine ⟨.int (-1), 1, fun I J h => QC.mk1 (I' := I) (J' := J) ?_ h Fc.refl, fun I J h => QM.mk1 (I' := I) (J' := J) ?_ rfl Fm.refl⟩
    · simp only [E150_0, E150_6, E150_14, E150_30, E150_38, E150_51, w, evK_s, evK_v, E163_0, E164_0, E178_0, E179_0, E180_0, sp_within, sp_isFrom, n10, eq_self, if_true, if_false]
    · simp only [E276_0, E276_6, E276_14, E276_27, E276_67, E276_105, E276_170, E276_173, w, evK_s, evK_v, E163_0, E164_0, E178_0, E179_0, E180_0, sp_within, sp_isFrom, n10, eq_self, if_true, if_false]
theorem A_peak (hD : GD D) (x w : Int32) : Agr (d + 40) sl p D e 152 278 [.int x, .int w] := by
  have n60 := hD.n60
  by_cases hx : ∃ s, s ≤ 90 ∧ x = nI s
  · obtain ⟨A, hA, rfl⟩ := hx
    have wx : (if nI A < 0 then (0 : Int32) else if nI A ≤ 90 then 1 else 0) = 1 := wi_y (n := 90) hA (by decide)
    by_cases ha : ∃ s, s ≤ 2 ∧ w = nI s
    · obtain ⟨k, hk, rfl⟩ := ha
      have w : (if nI k < 0 then (0 : Int32) else if nI k ≤ 2 then 1 else 0) = 1 := wi_y (n := 2) hk (by decide)
      by_cases q : nc D = 0
      · have q' : nI (nc D) = 0 := by rw [q]; rfl
        refine ⟨.int (-1), 5, fun I J h => QC.mk1 (I' := I) (J' := J) ?_ h Fc.refl, fun I J h => QM.mk1 (I' := I) (J' := J) ?_ rfl Fm.refl⟩
        · rw [E152_0, sp_within, wx, evK_s, E152_7, if_neg (by decide), sp_within, w, evK_s, E152_16, if_neg (by decide), h.sv.count, if_pos q', E164_0, evK_s, E152_40]
        · rw [E278_0, sp_isFrom, wx, evK_s, E278_7, if_neg (by decide), sp_isFrom, w, evK_s, E278_16, if_neg (by decide), d2 hD h, if_pos q', E178_0, evK_s, E278_37]
      · have q' : ¬ nI (nc D) = 0 := fun w => q (nI_ij (b := 0) (by omega) (by omega) w)
        obtain ⟨w', t, r, eo⟩ : ∃ w t q, pkO D A = some (w, t, q) := neA_some (n := 10) rfl
        refine ⟨.int (if k = 0 then nI (10 * t) else if k = 1 then nI (10 * r) else nI w'), 0, fun I J h => ?_, fun I J h => ?_⟩
        · obtain ⟨I1, J1, a1, a2, ⟨w2, t2, r2, eo2, c0, c1, c2⟩, a4⟩ := C_findThick (d := d + 36) (sl := sl) h hA
          rw [eo] at eo2
          cases eo2
          refine QC.mk1 (I' := I1) (J' := J1) ?_ a2 a4
          rw [E152_0, sp_within, wx, evK_s, E152_7, if_neg (by decide), sp_within, w, evK_s, E152_16, if_neg (by decide), h.sv.count, if_neg q', a1, evK_v, E152_49, ck_if (ixb_n (by omega) (by decide)), cl_n (by omega)]
          have hk2 : k = 0 ∨ k = 1 ∨ k = 2 := by omega
          rcases hk2 with rfl | rfl | rfl
          · rw [c0, E163_0, evK_s, E152_62, if_pos rfl]
          · rw [c1, E163_0, evK_s, E152_62, if_neg (by decide), if_pos rfl]
          · rw [c2, E163_0, evK_s, E152_62, if_neg (by decide), if_neg (by decide)]
        · obtain ⟨x, y, z, w2, t2, r2, eo2, e1⟩ := M_peak (d := d + 30) (sl := sl) (p := p) (J := J) hD h hA (nI k)
          rw [eo] at eo2
          cases eo2
          refine QM.mk1 (I' := set3 I x y z) (J' := J) ?_ dat_set3 Fm.set3
          rw [E278_0, sp_isFrom, wx, evK_s, E278_7, if_neg (by decide), sp_isFrom, w, evK_s, E278_16, if_neg (by decide), d2 hD h, if_neg q', e1, E278_49, if_neg (by decide)]
          have hk2 : k = 0 ∨ k = 1 ∨ k = 2 := by omega
          rcases hk2 with rfl | rfl | rfl
          · rw [if_pos (by decide), E278_131, E179_0, evK_s, E278_134, if_pos rfl]
          · rw [if_neg (by decide), if_pos (by decide), E278_131, E179_0, evK_s, E278_134, if_neg (by decide), if_pos rfl]
          · rw [if_neg (by decide), if_neg (by decide), E278_131, E179_0, evK_s, E278_134, if_neg (by decide), if_neg (by decide)]
    · have w : (if w < 0 then (0 : Int32) else if w ≤ 2 then 1 else 0) = 0 := wi_n (n := 2) (by decide) ha
      refine ⟨.int (-1), 1, fun I J h => QC.mk1 (I' := I) (J' := J) ?_ h Fc.refl, fun I J h => QM.mk1 (I' := I) (J' := J) ?_ rfl Fm.refl⟩
      · simp only [E152_0, E152_7, E152_16, E152_19, E152_24, E152_40, E152_49, E152_62, wx, w, evK_s, evK_v, E163_0, E164_0, E178_0, E179_0, E180_0, sp_within, sp_isFrom, n10, eq_self, if_true, if_false]
      · simp only [E278_0, E278_7, E278_16, E278_19, E278_24, E278_37, E278_76, E278_131, E278_134, wx, w, evK_s, evK_v, E163_0, E164_0, E178_0, E179_0, E180_0, sp_within, sp_isFrom, n10, eq_self, if_true, if_false]
  · have wx : (if x < 0 then (0 : Int32) else if x ≤ 90 then 1 else 0) = 0 := wi_n (n := 90) (by decide) hx
    refine ⟨.int (-1), 1, fun I J h => QC.mk1 (I' := I) (J' := J) ?_ h Fc.refl, fun I J h => QM.mk1 (I' := I) (J' := J) ?_ rfl Fm.refl⟩
    · simp only [E152_0, E152_7, E152_16, E152_19, E152_24, E152_40, E152_49, E152_62, wx, evK_s, evK_v, E163_0, E164_0, E178_0, E179_0, E180_0, sp_within, sp_isFrom, n10, eq_self, if_true, if_false]
    · simp only [E278_0, E278_7, E278_16, E278_19, E278_24, E278_37, E278_76, E278_131, E278_134, wx, evK_s, evK_v, E163_0, E164_0, E178_0, E179_0, E180_0, sp_within, sp_isFrom, n10, eq_self, if_true, if_false]
end NET2
