/-! axes -/
section AXES
variable {d sl : Nat} {p : Nat → Nat} {I I' : Nat → Nat → Int32} {J J' : Nat → Nat → Int64} {D : Nat → Nat → Int32} {e : Nat}
theorem C_share {a : Nat} (ha : ob a 0) (hf : ∀ k, k < 6 → J 29 k = fab D k) : den d 80 [.ref 27, .ref a] (S sl p I J) = some (some (.long (shO D (vec J a))), S sl p I J) := by
  rw [E80_0 ha, hf 0 (by omega), hf 1 (by omega), hf 2 (by omega), hf 3 (by omega), hf 4 (by omega), hf 5 (by omega)]
  rfl
theorem C_pair {a n : Nat} (ha : ar a 2 n) (hn : 2 ≤ n) (hn2 : n < 2 ^ 31) (x y : Int32) : den d 82 [.ref a, .int x, .int y] (S sl p I J) = some (none, S sl p (up2 (up2 I a 0 x) a 1 y) J) := by
  rw [E82_0 _ _ ha, ck_if (ixb_0 (by omega) hn2), ck_if (show ixb n 1 = true from ixb_n (i := 1) (by omega) hn2)]
  rfl
/-- where the axes so far lie in the class -/
def AxI (I : Nat → Nat → Int32) (X Y : Int64 × Int64 × Nat × Nat) : Prop := I 30 0 = nI X.2.2.1 ∧ I 30 1 = nI X.2.2.2 ∧ I 31 0 = nI Y.2.2.1 ∧ I 31 1 = nI Y.2.2.2
theorem axR_s {most : Bool} {d e : Nat} {x : Int64 × Int64 × Nat × Nat} : axR D most d x (e + 1) = axS D most d (axR D most d x e) e := rfl
theorem C_axRow (hs : SNS I) (hf : ∀ k, k < 6 → J 29 k = fab D k) {q n : Nat} (hq : q ≤ 90) (hn : n ≤ 360) (X0 Y0 : Int64 × Int64 × Nat × Nat) (hA : AxI I X0 Y0) : ∃ I' J', ev (d + 2) 81 115 [.ref 27, .long X0.1, .retAddr 0, .long X0.2.1, .retAddr 0, .long Y0.1, .retAddr 0, .long Y0.2.1, .retAddr 0, .int (nI q), .int (nI n), .int 0, .retAddr 0, .retAddr 0, .retAddr 0, .retAddr 0] [] (S sl p I J) = ev (d + 2) 81 87 [.ref 27, .long (axR D false q X0 n).1, .retAddr 0, .long (axR D false q X0 n).2.1, .retAddr 0, .long (axR D true q Y0 n).1, .retAddr 0, .long (axR D true q Y0 n).2.1, .retAddr 0, .int (nI (q + 1)), .retAddr 0, .retAddr 0, .retAddr 0, .retAddr 0, .retAddr 0, .retAddr 0] [] (S sl p I' J') ∧ AxI I' (axR D false q X0 n) (axR D true q Y0 n) ∧ (∀ a k, a ≠ 30 → a ≠ 31 → I' a k = I a k) ∧ ∀ a k, a ≠ 28 → J' a k = J a k := by
  obtain ⟨⟨I1, J1, X, Y⟩, e1, h1, h2, h3, h4, h5⟩ := for_ex (M := (Nat → Nat → Int32) × (Nat → Nat → Int64) × (Int64 × Int64 × Nat × Nat) × (Int64 × Int64 × Nat × Nat)) (fun k m => ev (d + 2) 81 115 [.ref 27, .long m.2.2.1.1, .retAddr 0, .long m.2.2.1.2.1, .retAddr 0, .long m.2.2.2.1, .retAddr 0, .long m.2.2.2.2.1, .retAddr 0, .int (nI q), .int (nI n), .int k, .retAddr 0, .retAddr 0, .retAddr 0, .retAddr 0] [] (S sl p m.1 m.2.1)) n
    (fun k m => m.2.2.1 = axR D false q X0 k ∧ m.2.2.2 = axR D true q Y0 k ∧ AxI m.1 m.2.2.1 m.2.2.2 ∧ (∀ a k, a ≠ 30 → a ≠ 31 → m.1 a k = I a k) ∧ ∀ a k, a ≠ 28 → m.2.1 a k = J a k)
    (by
      rintro k ⟨I1, J1, X, Y⟩ hk ⟨g1, g2, g3, g4, g5⟩
      simp only at g1 g2 g3 g4 g5
      simp only
      have hs1 : SNS I1 := fun j hj => by rw [g4 _ _ (by omega) (by omega)]; exact hs j hj
      have hf1 : ∀ j, j < 6 → setV J1 28 (poV (nI k) (nI q)) 29 j = fab D j := fun j hj => by rw [setV_ne (by omega), g5 _ _ (by omega)]; exact hf j hj
      rw [E81_115, if_pos (lt_n hk (by omega)), sp_poleInto (by omega) hq ob_28 hs1, evK_v, E81_137, C_share ob_28 hf1, evK_s, E81_145, sp_vsq ob_28, evK_s, vec_setV, E81_154]
      have fin : ∀ (I2 : Nat → Nat → Int32) (X2 : Int64 × Int64 × Nat × Nat), X2 = axS D false q X k → AxI I2 X2 Y → (∀ a k, a ≠ 30 → a ≠ 31 → I2 a k = I a k) → ∃ x', ev (d + 2) 81 185 [.ref 27, .long X2.1, .retAddr 0, .long X2.2.1, .retAddr 0, .long Y.1, .retAddr 0, .long Y.2.1, .retAddr 0, .int (nI q), .int (nI n), .int (nI k), .long (shO D (poV (nI k) (nI q))), .retAddr 0, .long (vq (poV (nI k) (nI q))), .retAddr 0] [] (S sl p I2 (setV J1 28 (poV (nI k) (nI q)))) = (fun k (m : (Nat → Nat → Int32) × (Nat → Nat → Int64) × (Int64 × Int64 × Nat × Nat) × (Int64 × Int64 × Nat × Nat)) => ev (d + 2) 81 115 [.ref 27, .long m.2.2.1.1, .retAddr 0, .long m.2.2.1.2.1, .retAddr 0, .long m.2.2.2.1, .retAddr 0, .long m.2.2.2.2.1, .retAddr 0, .int (nI q), .int (nI n), .int k, .retAddr 0, .retAddr 0, .retAddr 0, .retAddr 0] [] (S sl p m.1 m.2.1)) (nI (k + 1)) x' ∧ x'.2.2.1 = axR D false q X0 (k + 1) ∧ x'.2.2.2 = axR D true q Y0 (k + 1) ∧ AxI x'.1 x'.2.2.1 x'.2.2.2 ∧ (∀ a k, a ≠ 30 → a ≠ 31 → x'.1 a k = I a k) ∧ ∀ a k, a ≠ 28 → x'.2.1 a k = J a k := by
        intro I2 X2 hX hA2 hF
        have hJ : ∀ a j, a ≠ 28 → setV J1 28 (poV (nI k) (nI q)) a j = J a j := fun a j w => by rw [setV_ne w]; exact g5 a j w
        have eX : X2 = axR D false q X0 (k + 1) := by rw [hX, g1, axR_s]
        rw [E81_185, nI_1]
        by_cases c : shO D (poV (nI k) (nI q)) * Y.2.1 ≤ Y.1 * vq (poV (nI k) (nI q))
        · rw [if_pos c]
          refine ⟨(I2, setV J1 28 (poV (nI k) (nI q)), X2, Y), rfl, eX, ?_, hA2, hF, hJ⟩
          show Y = _
          rw [axR_s, ← g2]
          unfold axS axB
          rw [if_pos rfl, if_neg (by simpa [Int64.not_lt] using c)]
        · rw [if_neg c, C_pair ar_31 (by omega) (by decide), evK_v, E81_218, nI_1]
          have r0 : up2 (up2 I2 31 0 (nI k)) 31 1 (nI q) 31 0 = nI k := by rw [up_nk (by omega), up_s]
          have r1 : up2 (up2 I2 31 0 (nI k)) 31 1 (nI q) 31 1 = nI q := up_s
          have rF : ∀ a j, a ≠ 31 → up2 (up2 I2 31 0 (nI k)) 31 1 (nI q) a j = I2 a j := fun a j w => by rw [up_na w, up_na w]
          generalize up2 (up2 I2 31 0 (nI k)) 31 1 (nI q) = I3 at r0 r1 rF
          refine ⟨(I3, setV J1 28 (poV (nI k) (nI q)), X2, (shO D (poV (nI k) (nI q)), vq (poV (nI k) (nI q)), k, q)), rfl, eX, ?_, ⟨(rF _ _ (by omega)).trans hA2.1, (rF _ _ (by omega)).trans hA2.2.1, r0, r1⟩, fun a j w1 w2 => (rF a j w2).trans (hF a j w1 w2), hJ⟩
          show _ = axR D true q Y0 (k + 1)
          rw [axR_s, ← g2]
          unfold axS axB
          rw [if_pos rfl, if_pos (by simpa [Int64.not_le] using c)]
      by_cases c : shO D (poV (nI k) (nI q)) * X.2.1 < X.1 * vq (poV (nI k) (nI q))
      · rw [if_pos c, C_pair ar_30 (by omega) (by decide), evK_v]
        have r0 : up2 (up2 I1 30 0 (nI k)) 30 1 (nI q) 30 0 = nI k := by rw [up_nk (by omega), up_s]
        have r1 : up2 (up2 I1 30 0 (nI k)) 30 1 (nI q) 30 1 = nI q := up_s
        have rF : ∀ a j, a ≠ 30 → up2 (up2 I1 30 0 (nI k)) 30 1 (nI q) a j = I1 a j := fun a j w => by rw [up_na w, up_na w]
        generalize up2 (up2 I1 30 0 (nI k)) 30 1 (nI q) = I3 at r0 r1 rF
        refine fin I3 (shO D (poV (nI k) (nI q)), vq (poV (nI k) (nI q)), k, q) ?_ ⟨r0, r1, by rw [rF _ _ (by omega)]; exact g3.2.2.1, by rw [rF _ _ (by omega)]; exact g3.2.2.2⟩ (fun a j w1 w2 => (rF a j w1).trans (g4 a j w1 w2))
        unfold axS axB
        rw [if_neg (show ¬ (false = true) by decide), if_pos (decide_eq_true c)]
      · rw [if_neg c]
        refine fin I1 X ?_ g3 g4
        unfold axS axB
        rw [if_neg (show ¬ (false = true) by decide), if_neg (by simpa using c)])
    (I, J, X0, Y0) ⟨rfl, rfl, hA, fun _ _ _ _ => rfl, fun _ _ _ => rfl⟩
  simp only at e1 h1 h2 h3 h4 h5
  refine ⟨I1, J1, ?_, by rw [← h1, ← h2]; exact h3, h4, h5⟩
  rw [e1, E81_115, if_neg (nlt_n (by omega)), nI_1, h1, h2]
theorem C_weave0 (h : SV p I J D) (hed : I 4 10 = nI e) (hfa : FaP I J D e) (h0 : 0 < nc D) : ∃ I' J', den (d + 1) 78 [.ref 27] (S sl p I J) = some (none, S sl p I' J') ∧ FaP I' J' D e ∧ (∀ k, k < 6 → J' 29 k = fab D k) ∧ (∀ a k, ¬ (a = 27 ∧ k = 8) → I' a k = I a k) ∧ ∀ a k, a ≠ 29 → J' a k = J a k := by
  have n60 := h.gd.n60
  by_cases q : I 27 8 = I 4 10
  · exact ⟨I, J, by rw [E78_0, if_pos q], hfa, hfa.2 (q.trans hed), fun _ _ _ => rfl, fun _ _ _ => rfl⟩
  · have F : ∀ a k, ¬ (a = 27 ∧ k = 8) → up2 I 27 8 (I 4 10) a k = I a k := fun a k w => up_n w
    have g8 : up2 I 27 8 (I 4 10) 27 8 = nI e := by rw [up_s]; exact hed
    rw [E78_0, if_neg q]
    generalize up2 I 27 8 (I 4 10) = I1 at F g8
    have s1 : SV p I1 J D := h.fr (fun a k _ => F _ _ (by omega)) (F _ _ (by omega)) (F _ _ (by omega)) (fun a k _ _ => F _ _ (by omega)) (fun _ _ _ _ => rfl) (fun _ _ _ _ => rfl)
    obtain ⟨J1, a1, a2, a3⟩ := row0 (J := J) (b := 29) (fun k y => ev (d + 1) 78 28 [.ref 27, .int k, .retAddr 0, .retAddr 0] [] (S sl p I1 y)) (fun k y hk => by rw [E78_28, if_pos (lt_n hk (by omega)), ck_if (ixb_n hk (by decide)), cl_n (by omega), nI_1])
    obtain ⟨J2, b1, b2, b3⟩ := for_ex (M := Nat → Nat → Int64) (fun k y => ev (d + 1) 78 52 [.ref 27, .int k, .retAddr 0, .retAddr 0] [] (S sl p I1 y)) (nc D) (fun n y => (∀ k, k < 6 → y 29 k = faS D k n) ∧ ∀ a k, a ≠ 29 → y a k = J a k)
      (by
        rintro n y hn ⟨g1, g2⟩
        have hp := h.p60 n
        have s2 : SV p I1 y D := s1.fr (fun _ _ _ => rfl) rfl rfl (fun _ _ _ _ => rfl) (fun _ _ _ _ => g2 _ _ (by omega)) (fun _ _ _ _ => g2 _ _ (by omega))
        rw [E78_52 _ h.p60, s1.count, if_pos (lt_n hn (by omega)), ck_if (ixb_n (by omega) (by decide)), ck_if (ixb_n (by omega) (by decide)), cl_n (by omega), C_addWeft (obP hp) (by omega), evK_v, E78_92, (s1.ck n hn).2.2.2.2.2.2, s2.pole n hn, nI_1]
        exact ⟨_, rfl, fun k hk => by rw [six_r hk, g1 k hk]; rfl, fun a k w => by rw [six_n w]; exact g2 a k w⟩)
      J1 ⟨fun k hk => a2 k hk, a3⟩
    have s2 : SV p I1 J2 D := s1.fr (fun _ _ _ => rfl) rfl rfl (fun _ _ _ _ => rfl) (fun _ _ _ _ => b3 _ _ (by omega)) (fun _ _ _ _ => b3 _ _ (by omega))
    have hm := maA_pos h.gd h0
    have hb := maA_b h.gd
    have hm0 : ¬ lN (maA D) = 0 := fun w => by
      have := congrArg Int64.toInt w
      rw [lN_tI (by omega)] at this
      have e0 : (0 : Int64).toInt = 0 := rfl
      omega
    obtain ⟨J3, c1, c2, c3⟩ := rowD (J := J2) (b := 29) (fun k y => ev (d + 1) 78 108 [.ref 27, .long (lN (maA D)), .retAddr 0, .int k] [] (S sl p I1 y)) (lN (maA D)) (fun k y hk => by
      rw [E78_108, if_pos (lt_n hk (by omega)), ck_if (ixb_n hk (by decide)), cl_n (by omega), sp_parted, evK_s, E78_132, ck_if (ixb_n hk (by decide)), cl_n (by omega), nI_1]
      unfold pt
      rw [if_neg hm0])
    have K : ∀ a k, a ≠ 29 → J3 a k = J a k := fun a k w => (c3 a k w).trans (b3 a k w)
    have hf : ∀ k, k < 6 → J3 29 k = fab D k := fun k hk => by rw [c2 k hk, b2 k hk]; rfl
    refine ⟨I1, J3, ?_, ?_, hf, F, K⟩
    · rw [a1, E78_28, if_neg (nlt_n (by omega)), b1, E78_52 _ h.p60, s1.count, if_neg (nlt_n (by omega)), C_massAll s2, evK_s, E78_105, c1, E78_108, if_neg (nlt_n (by omega))]
    · exact ⟨Or.inr ⟨e, Nat.le_refl e, g8⟩, fun _ => hf⟩
theorem axQ_0 {most : Bool} : axQ D most 0 = (shO D (poV 0 0), vq (poV 0 0), 0, 0) := rfl
theorem axQ_s {most : Bool} {k : Nat} : axQ D most (k + 1) = axR D most (k + 1) (axQ D most k) (if k + 1 = 90 then 180 else 360) := rfl
theorem C_axLoop {I2 : Nat → Nat → Int32} {J2 : Nat → Nat → Int64} (hs2 : SNS I2) (hf2 : ∀ k, k < 6 → J2 29 k = fab D k) (hA : AxI I2 (shO D (poV 0 0), vq (poV 0 0), 0, 0) (shO D (poV 0 0), vq (poV 0 0), 0, 0)) (N : Nat) (hN : N ≤ 90) : ∃ I3 J3, ev (d + 2 + 1) 81 87 [.ref 27, .long (shO D (poV 0 0)), .retAddr 0, .long (vq (poV 0 0)), .retAddr 0, .long (shO D (poV 0 0)), .retAddr 0, .long (vq (poV 0 0)), .retAddr 0, .int (nI 1), .retAddr 0, .retAddr 0, .retAddr 0, .retAddr 0, .retAddr 0, .retAddr 0] [] (S sl p I2 J2) = ev (d + 2 + 1) 81 87 [.ref 27, .long (axQ D false N).1, .retAddr 0, .long (axQ D false N).2.1, .retAddr 0, .long (axQ D true N).1, .retAddr 0, .long (axQ D true N).2.1, .retAddr 0, .int (nI (1 + N)), .retAddr 0, .retAddr 0, .retAddr 0, .retAddr 0, .retAddr 0, .retAddr 0] [] (S sl p I3 J3) ∧ AxI I3 (axQ D false N) (axQ D true N) ∧ (∀ a k, a ≠ 30 → a ≠ 31 → I3 a k = I2 a k) ∧ ∀ a k, a ≠ 28 → J3 a k = J2 a k := by
  obtain ⟨⟨I3, J3, X, Y⟩, e1, h1, h2, h3, h4, h5⟩ := for_exk (M := (Nat → Nat → Int32) × (Nat → Nat → Int64) × (Int64 × Int64 × Nat × Nat) × (Int64 × Int64 × Nat × Nat)) (fun k m => ev (d + 2 + 1) 81 87 [.ref 27, .long m.2.2.1.1, .retAddr 0, .long m.2.2.1.2.1, .retAddr 0, .long m.2.2.2.1, .retAddr 0, .long m.2.2.2.2.1, .retAddr 0, .int k, .retAddr 0, .retAddr 0, .retAddr 0, .retAddr 0, .retAddr 0, .retAddr 0] [] (S sl p m.1 m.2.1)) 1 N
    (fun k m => m.2.2.1 = axQ D false k ∧ m.2.2.2 = axQ D true k ∧ AxI m.1 m.2.2.1 m.2.2.2 ∧ (∀ a k, a ≠ 30 → a ≠ 31 → m.1 a k = I2 a k) ∧ ∀ a k, a ≠ 28 → m.2.1 a k = J2 a k)
    (by
      rintro k ⟨I3, J3, X, Y⟩ hk ⟨g1, g2, g3, g4, g5⟩
      simp only at g1 g2 g3 g4 g5
      simp only
      have hs3 : SNS I3 := fun j hj => by rw [g4 _ _ (by omega) (by omega)]; exact hs2 j hj
      have hf3 : ∀ j, j < 6 → J3 29 j = fab D j := fun j hj => by rw [g5 _ _ (by omega)]; exact hf2 j hj
      have en : (if nI (1 + k) = 90 then (180 : Int32) else 360) = nI (if k + 1 = 90 then 180 else 360) := by
        by_cases z : k + 1 = 90
        · rw [if_pos z, if_pos (by rw [Nat.add_comm, z]; rfl)]
          rfl
        · rw [if_neg z, if_neg (fun w => z (by have := nI_ij (a := 1 + k) (b := 90) (by omega) (by omega) w; omega))]
          rfl
      obtain ⟨I4, J4, b1, b2, b3, b4⟩ := C_axRow (d := d + 1) (sl := sl) (p := p) hs3 hf3 (q := 1 + k) (n := if k + 1 = 90 then 180 else 360) (by omega) (by split <;> omega) X Y g3
      have eq : ev (d + 2 + 1) 81 87 [.ref 27, .long X.1, .retAddr 0, .long X.2.1, .retAddr 0, .long Y.1, .retAddr 0, .long Y.2.1, .retAddr 0, .int (nI (1 + k)), .retAddr 0, .retAddr 0, .retAddr 0, .retAddr 0, .retAddr 0, .retAddr 0] [] (S sl p I3 J3) = ev (d + 2 + 1) 81 115 [.ref 27, .long X.1, .retAddr 0, .long X.2.1, .retAddr 0, .long Y.1, .retAddr 0, .long Y.2.1, .retAddr 0, .int (nI (1 + k)), .int (nI (if k + 1 = 90 then 180 else 360)), .int 0, .retAddr 0, .retAddr 0, .retAddr 0, .retAddr 0] [] (S sl p I3 J3) := by
        rw [E81_87, if_pos (show nI (1 + k) ≤ 90 from (nI_le_iff (b := 90) (by omega) (by omega)).mpr (by omega)), ← en]
        split <;> rfl
      rw [eq, b1]
      have x1 : axR D false (1 + k) X (if k + 1 = 90 then 180 else 360) = axQ D false (k + 1) := by rw [g1, Nat.add_comm 1 k, axQ_s]
      have x2 : axR D true (1 + k) Y (if k + 1 = 90 then 180 else 360) = axQ D true (k + 1) := by rw [g2, Nat.add_comm 1 k, axQ_s]
      rw [x1, x2]
      rw [x1, x2] at b2
      exact ⟨(I4, J4, axQ D false (k + 1), axQ D true (k + 1)), rfl, rfl, rfl, b2, fun a j w1 w2 => (b3 a j w1 w2).trans (g4 a j w1 w2), fun a j w => (b4 a j w).trans (g5 a j w)⟩)
    (I2, J2, (shO D (poV 0 0), vq (poV 0 0), 0, 0), (shO D (poV 0 0), vq (poV 0 0), 0, 0)) ⟨axQ_0.symm, axQ_0.symm, hA, fun _ _ _ _ => rfl, fun _ _ _ => rfl⟩
  simp only at e1 h1 h2 h3 h4 h5
  subst h1 h2
  exact ⟨I3, J3, e1, h3, h4, h5⟩
theorem axO_e {most : Bool} {N : Nat} (h : N = 90) : axO D most = (axQ D most N).2.2 := by rw [h]; unfold axO; rfl
theorem C_findAxes (h : CK p I J D e) (h0 : 0 < nc D) : ∃ I' J', den (d + 3) 81 [.ref 27] (S sl p I J) = some (none, S sl p I' J') ∧ CK p I' J' D e ∧ (I' 30 0 = nI (axO D false).1 ∧ I' 30 1 = nI (axO D false).2 ∧ I' 31 0 = nI (axO D true).1 ∧ I' 31 1 = nI (axO D true).2) ∧ Fc I J I' J' := by
  by_cases q : I 27 9 = I 4 10
  · exact ⟨I, J, by rw [E81_0, if_pos q], h, h.x.2 (q.trans h.ed), Fc.refl⟩
  · have F0 : ∀ a k, ¬ (a = 27 ∧ k = 9) → up2 I 27 9 (I 4 10) a k = I a k := fun a k w => up_n w
    have g9 : up2 I 27 9 (I 4 10) 27 9 = nI e := by rw [up_s]; exact h.ed
    rw [E81_0, if_neg q]
    generalize up2 I 27 9 (I 4 10) = I0 at F0 g9
    have s0 : SV p I0 J D := h.sv.fr (fun a k _ => F0 _ _ (by omega)) (F0 _ _ (by omega)) (F0 _ _ (by omega)) (fun a k _ _ => F0 _ _ (by omega)) (fun _ _ _ _ => rfl) (fun _ _ _ _ => rfl)
    obtain ⟨I1, J1, a1, a2, a3, a4, a5⟩ := C_weave0 (d := d + 1) (sl := sl) (e := e) s0 (by rw [F0 _ _ (by omega)]; exact h.ed) (h.f.fr (F0 _ _ (by omega)) (fun _ => rfl)) h0
    have hs1 : SNS I1 := fun j hj => by rw [a4 _ _ (by omega)]; exact s0.sn j hj
    have hf1 : ∀ k, k < 6 → setV J1 28 (poV 0 0) 29 k = fab D k := fun k hk => by rw [setV_ne (by omega)]; exact a3 k hk
    have epole := sp_poleInto (d := d + 1) (sl := sl) (p := p) (I := I1) (J := J1) (r := 0) (dp := 0) (a := 28) (by omega) (by omega) ob_28 hs1
    rw [nI_0] at epole
    rw [show d + 3 = d + 2 + 1 from rfl, a1, evK_v, E81_30, epole, evK_v, E81_43, C_share ob_28 hf1, evK_s, E81_51, sp_vsq ob_28, evK_s, vec_setV, E81_59, C_pair ar_30 (by omega) (by decide), evK_v, E81_75, C_pair ar_31 (by omega) (by decide), evK_v, E81_84]
    have FA : ∀ a k, a ≠ 30 → a ≠ 31 → up2 (up2 (up2 (up2 I1 30 0 0) 30 1 0) 31 0 0) 31 1 0 a k = I1 a k := fun a k w1 w2 => by rw [up_na w2, up_na w2, up_na w1, up_na w1]
    have hA : AxI (up2 (up2 (up2 (up2 I1 30 0 0) 30 1 0) 31 0 0) 31 1 0) (shO D (poV 0 0), vq (poV 0 0), 0, 0) (shO D (poV 0 0), vq (poV 0 0), 0, 0) := ⟨by rw [up_na (by omega), up_na (by omega), up_nk (by omega), up_s]; rfl, by rw [up_na (by omega), up_na (by omega), up_s]; rfl, by rw [up_nk (by omega), up_s]; rfl, by rw [up_s]; rfl⟩
    generalize up2 (up2 (up2 (up2 I1 30 0 0) 30 1 0) 31 0 0) 31 1 0 = I2 at FA hA
    obtain ⟨N, hN⟩ : ∃ N, N = 90 := ⟨90, rfl⟩
    obtain ⟨I3, J3, e1, h3, h4, h5⟩ := C_axLoop (d := d) (sl := sl) (p := p) (I2 := I2) (J2 := setV J1 28 (poV 0 0)) (fun j hj => by rw [FA _ _ (by omega) (by omega)]; exact hs1 j hj) hf1 hA N (by omega)
    have hx : I3 30 0 = nI (axO D false).1 ∧ I3 30 1 = nI (axO D false).2 ∧ I3 31 0 = nI (axO D true).1 ∧ I3 31 1 = nI (axO D true).2 := by
      rw [axO_e hN, axO_e hN]
      exact h3
    have F : ∀ a k, a ≠ 27 → a ≠ 30 → a ≠ 31 → I3 a k = I a k := fun a k w1 w2 w3 => by rw [h4 a k w2 w3, FA a k w2 w3, a4 a k (by omega), F0 a k (by omega)]
    have K : ∀ a k, a ≠ 28 → a ≠ 29 → J3 a k = J a k := fun a k w1 w2 => by rw [h5 a k w1, setV_ne w1, a5 a k w2]
    have G : ∀ k, k ≠ 8 → k ≠ 9 → I3 27 k = I 27 k := fun k w1 w2 => by rw [h4 _ _ (by omega) (by omega), FA _ _ (by omega) (by omega), a4 _ _ (by omega), F0 _ _ (by omega)]
    refine ⟨I3, J3, ?_, ?_, hx, ⟨fun a k _ _ => F _ _ (by omega) (by omega) (by omega), fun a k _ _ => K _ _ (by omega) (by omega)⟩⟩
    · refine Eq.trans e1 ?_
      rw [E81_87, if_neg (by rw [hN]; decide)]
    · exact ⟨h.sv.fr (fun a k _ => F _ _ (by omega) (by omega) (by omega)) (F _ _ (by omega) (by omega) (by omega)) (F _ _ (by omega) (by omega) (by omega)) (fun a k _ _ => F _ _ (by omega) (by omega) (by omega)) (fun _ _ _ _ => K _ _ (by omega) (by omega)) (fun _ _ _ _ => K _ _ (by omega) (by omega)), by rw [F _ _ (by omega) (by omega) (by omega)]; exact h.ed, fun k hk => by rw [F _ _ (by omega) (by omega) (by omega)]; exact h.sl k hk, h.g.fr h.sv.gd (fun a k w => F _ _ (by omega) (by omega) (by omega)) (fun a k _ _ => K _ _ (by omega) (by omega)), h.b.fr (fun k _ _ => F _ _ (by omega) (by omega) (by omega)), h.s.fr (fun a k w => F _ _ (by omega) (by omega) (by omega)) (fun a k _ _ => K _ _ (by omega) (by omega)), a2.fr (by rw [h4 _ _ (by omega) (by omega), FA _ _ (by omega) (by omega)]) (fun k => by rw [h5 _ _ (by omega), setV_ne (by omega)]), ⟨Or.inr ⟨e, Nat.le_refl e, by rw [h4 _ _ (by omega) (by omega), FA _ _ (by omega) (by omega), a4 _ _ (by omega)]; exact g9⟩, fun _ => hx⟩, h.l.fr (fun a k w => by
          by_cases z : a = 27
          · subst z
            exact G k (by omega) (by omega)
          · exact F _ _ (by omega) (by omega) (by omega)), h.t.fr (fun a k w => by
          by_cases z : a = 27
          · subst z
            exact G k (by omega) (by omega)
          · exact F _ _ (by omega) (by omega) (by omega)), h.z.fr (fun a k w => F _ _ (by omega) (by omega) (by omega))⟩
end AXES
