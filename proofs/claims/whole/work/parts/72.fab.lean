/-! the fabric -/
section FAB
variable {d sl : Nat} {p : Nat → Nat} {I I' : Nat → Nat → Int32} {J J' : Nat → Nat → Int64} {D : Nat → Nat → Int32} {e : Nat}
theorem sq_nn (a : Int) : 0 ≤ a * a := by
  rcases Int.le_total 0 a with h | h
  · exact Int.mul_nonneg h h
  · exact Int.mul_nonneg_of_nonpos_of_nonpos h h
theorem cs_i (a b c x y z : Int) : (a * x + b * y + c * z) * (a * x + b * y + c * z) ≤ (a * a + b * b + c * c) * (x * x + y * y + z * z) := by
  have h : (a * a + b * b + c * c) * (x * x + y * y + z * z) - (a * x + b * y + c * z) * (a * x + b * y + c * z) = (a * y - b * x) * (a * y - b * x) + (a * z - c * x) * (a * z - c * x) + (b * z - c * y) * (b * z - c * y) := by grind
  have h1 : 0 ≤ (a * y - b * x) * (a * y - b * x) := sq_nn _
  have h2 : 0 ≤ (a * z - c * x) * (a * z - c * x) := sq_nn _
  have h3 : 0 ≤ (b * z - c * y) * (b * z - c * y) := sq_nn _
  omega
theorem vd_cs {a b : V3} (ha : bv a) (hb : bv b) : (vd a b).toInt * (vd a b).toInt ≤ (vq a).toInt * (vq b).toInt := by
  rw [(vd_b ha hb).1, show vq a = vd a a from rfl, show vq b = vd b b from rfl, (vd_b ha ha).1, (vd_b hb hb).1]
  exact cs_i _ _ _ _ _ _
theorem isq_pos {n : Nat} (h : 0 < n) : 0 < isq n := isq_le.mpr (by omega)
theorem isq_self (n : Nat) : isq n ≤ n := by
  have h := (isq_ok n).1
  rcases Nat.eq_zero_or_pos (isq n) with w | w
  · omega
  · exact Nat.le_trans (Nat.le_mul_of_pos_left _ w) h
theorem wtv_pos {c : Nat} (h1 : 1 ≤ c) (h2 : c ≤ 20) {q a : V3} (hq : bv q) (ha : bv a) : 0 < (wtv (nI c) q a).toInt := by
  have e1 : (1000 : Int32) * nI c = nI (1000 * c) := nI_mul 1000 c
  unfold wtv
  by_cases h0 : vd q a = 0
  · rw [if_pos h0, e1, tI (by omega)]
    omega
  · rw [if_neg h0]
    obtain ⟨w1, w2, w3, w4, w5⟩ := ww_b hq ha h0
    have hcs := vd_cs hq ha
    have hz : 1 ≤ (1000000 * vq q * vq a / (vd q a * vd q a)).toInt := by
      rw [div64 (by rw [w4]; exact w5), w3, w4, Int.tdiv_eq_ediv_of_nonneg (by have := (qq_b hq ha).2.1; omega)]
      exact Int.le_ediv_of_mul_le w5 (by omega)
    generalize 1000000 * vq q * vq a / (vd q a * vd q a) = z at hz
    have e2 : (1000 : Int64) * (nI c).toInt64 = lN (1000 * c) := by rw [nI_l (by omega)]; exact lN_mul 1000 c
    rw [e2]
    have hp : 0 < isq z.toInt.toNat := isq_pos (by omega)
    have er : rt z = lN (isq z.toInt.toNat) := rfl
    by_cases q2 : rt z < lN (1000 * c)
    · rw [if_pos q2]
      have hlt : isq z.toInt.toNat < 1000 * c := by
        rw [er] at q2
        refine (pk_lLT (a := isq z.toInt.toNat) (b := 1000 * c) ?_ (by omega)).mp q2
        have := isq_self z.toInt.toNat
        have := t64 z
        omega
      rw [er, show lN (isq z.toInt.toNat) = (nI (isq z.toInt.toNat)).toInt64 from (nI_l (by omega)).symm, i64_i32, tI (by omega)]
      omega
    · rw [if_neg q2, show lN (1000 * c) = (nI (1000 * c)).toInt64 from (nI_l (by omega)).symm, i64_i32, tI (by omega)]
      omega
theorem GD.wpos (hD : GD D) {i : Nat} (hi : i < nc D) : 0 < wtN D i := by
  obtain ⟨l, hl, el⟩ := hD.on hi
  have m6 := hD.m6
  have h := wtv_pos hD.c1 hD.c20 (hD.bp hi) (hD.ba hl)
  have e1 : (wt D i).toInt = (wtv (nI (cp D)) (pv D i) (av D l)).toInt := by
    unfold wt
    rw [el, cl_n (by omega), hD.ec]
  have e2 := (hD.wn hi).1
  have e3 := (hD.wn hi).2
  rw [e2, tI (by omega)] at e1
  omega
theorem maA_pos (hD : GD D) (h0 : 0 < nc D) : 0 < maA D := by
  have h := hD.wpos (i := nc D - 1) (by omega)
  have e : maA D = haN D (fun _ => true) (nc D - 1 + 1) := by rw [Nat.sub_add_cancel h0]; rfl
  rw [e, haN_s, if_pos rfl]
  omega
theorem maA_b (hD : GD D) : maA D ≤ 1200000 := haN_60 hD _
/-- one number of the fabric goes up -/
def adF (J : Nat → Nat → Int64) (b k : Nat) (x : Int64) : Nat → Nat → Int64 := up2 J b k (J b k + x)
theorem adF_s {b k : Nat} {x : Int64} : adF J b k x b k = J b k + x := up_s
theorem adF_n {b k a m : Nat} {x : Int64} (h : ¬ (a = b ∧ m = k)) : adF J b k x a m = J a m := up_n h
def six (J : Nat → Nat → Int64) (b : Nat) (f : Nat → Int64) : Nat → Nat → Int64 := adF (adF (adF (adF (adF (adF J b 0 (f 0)) b 1 (f 1)) b 2 (f 2)) b 3 (f 3)) b 4 (f 4)) b 5 (f 5)
theorem six_r {b : Nat} {f : Nat → Int64} {k : Nat} (hk : k < 6) : six J b f b k = J b k + f k := by
  unfold six
  have : k = 0 ∨ k = 1 ∨ k = 2 ∨ k = 3 ∨ k = 4 ∨ k = 5 := by omega
  rcases this with rfl | rfl | rfl | rfl | rfl | rfl
  · rw [adF_n (by omega), adF_n (by omega), adF_n (by omega), adF_n (by omega), adF_n (by omega), adF_s]
  · rw [adF_n (by omega), adF_n (by omega), adF_n (by omega), adF_n (by omega), adF_s, adF_n (by omega)]
  · rw [adF_n (by omega), adF_n (by omega), adF_n (by omega), adF_s, adF_n (by omega), adF_n (by omega)]
  · rw [adF_n (by omega), adF_n (by omega), adF_s, adF_n (by omega), adF_n (by omega), adF_n (by omega)]
  · rw [adF_n (by omega), adF_s, adF_n (by omega), adF_n (by omega), adF_n (by omega), adF_n (by omega)]
  · rw [adF_s, adF_n (by omega), adF_n (by omega), adF_n (by omega), adF_n (by omega), adF_n (by omega)]
theorem six_n {b a m : Nat} {f : Nat → Int64} (h : a ≠ b) : six J b f a m = J a m := by
  unfold six
  rw [adF_n (by omega), adF_n (by omega), adF_n (by omega), adF_n (by omega), adF_n (by omega), adF_n (by omega)]
theorem C_addWeft {a : Nat} (ha : ob a 0) (h29 : a ≠ 29) (w : Int64) : den d 79 [.ref 27, .ref a, .long w] (S sl p I J) = some (none, S sl p I (six J 29 (fun k => fcp (vec J a) k * w))) := by
  rw [E79_0 _ ha]
  have e1 : ∀ (J' : Nat → Nat → Int64) k x m, adF J' 29 k x a m = J' a m := fun J' k x m => adF_n (by omega)
  have step : ∀ (J' : Nat → Nat → Int64) k i j, (∀ m, J' a m = J a m) → up2 J' 29 k (J' 29 k + J' a i * J' a j * w) = adF J' 29 k (J a i * J a j * w) ∧ ∀ m, adF J' 29 k (J a i * J a j * w) a m = J a m := fun J' k i j hJ => ⟨by rw [hJ i, hJ j]; rfl, fun m => (e1 _ _ _ _).trans (hJ m)⟩
  obtain ⟨s0, t0⟩ := step J 0 0 0 (fun _ => rfl)
  rw [s0]
  obtain ⟨s1, t1⟩ := step _ 1 1 1 t0
  rw [s1]
  obtain ⟨s2, t2⟩ := step _ 2 2 2 t1
  rw [s2]
  obtain ⟨s3, t3⟩ := step _ 3 0 1 t2
  rw [s3]
  obtain ⟨s4, t4⟩ := step _ 4 0 2 t3
  rw [s4]
  obtain ⟨s5, t5⟩ := step _ 5 1 2 t4
  rw [s5]
  rfl
theorem row0 {b : Nat} (F : Int32 → (Nat → Nat → Int64) → Option (Option Value × Mm)) (hs : ∀ k y, k < 6 → F (nI k) y = F (nI (k + 1)) (up2 y b k 0)) : ∃ J', F 0 J = F (nI 6) J' ∧ (∀ k, k < 6 → J' b k = 0) ∧ ∀ a m, a ≠ b → J' a m = J a m := by
  obtain ⟨J', e1, h1, h2⟩ := for_ex (M := Nat → Nat → Int64) F 6 (fun k y => (∀ j, j < k → y b j = 0) ∧ ∀ a m, a ≠ b → y a m = J a m)
    (by
      rintro k y hk ⟨g1, g2⟩
      refine ⟨up2 y b k 0, hs k y hk, fun j hj => ?_, fun a m w => by rw [up_na w]; exact g2 a m w⟩
      by_cases q : j = k
      · rw [q, up_s]
      · rw [up_nk q]; exact g1 j (by omega))
    J ⟨fun _ w => absurd w (Nat.not_lt_zero _), fun _ _ _ => rfl⟩
  exact ⟨J', e1, h1, h2⟩
theorem rowD {b : Nat} (F : Int32 → (Nat → Nat → Int64) → Option (Option Value × Mm)) (m : Int64) (hs : ∀ k y, k < 6 → F (nI k) y = F (nI (k + 1)) (up2 y b k (y b k / m))) : ∃ J', F 0 J = F (nI 6) J' ∧ (∀ k, k < 6 → J' b k = J b k / m) ∧ ∀ a j, a ≠ b → J' a j = J a j := by
  obtain ⟨J', e1, h1, h2, h3⟩ := for_ex (M := Nat → Nat → Int64) F 6 (fun k y => (∀ j, j < k → y b j = J b j / m) ∧ (∀ j, k ≤ j → y b j = J b j) ∧ ∀ a m, a ≠ b → y a m = J a m)
    (by
      rintro k y hk ⟨g1, g2, g3⟩
      refine ⟨up2 y b k (y b k / m), hs k y hk, fun j hj => ?_, fun j hj => by rw [up_nk (by omega)]; exact g2 j (by omega), fun a m w => by rw [up_na w]; exact g3 a m w⟩
      by_cases q : j = k
      · rw [q, up_s, g2 k (Nat.le_refl k)]
      · rw [up_nk q]; exact g1 j (by omega))
    J ⟨fun _ w => absurd w (Nat.not_lt_zero _), fun _ _ => rfl, fun _ _ _ => rfl⟩
  exact ⟨J', e1, h1, h3⟩
theorem C_weave (h : CK p I J D e) (h0 : 0 < nc D) : ∃ I' J', den (d + 1) 78 [.ref 27] (S sl p I J) = some (none, S sl p I' J') ∧ CK p I' J' D e ∧ (∀ k, k < 6 → J' 29 k = fab D k) ∧ (∀ a k, ¬ (a = 27 ∧ k = 8) → I' a k = I a k) ∧ ∀ a k, a ≠ 29 → J' a k = J a k := by
  have n60 := h.sv.gd.n60
  by_cases q : I 27 8 = I 4 10
  · exact ⟨I, J, by rw [E78_0, if_pos q], h, h.f.2 (q.trans h.ed), fun _ _ _ => rfl, fun _ _ _ => rfl⟩
  · have F : ∀ a k, ¬ (a = 27 ∧ k = 8) → up2 I 27 8 (I 4 10) a k = I a k := fun a k w => up_n w
    have g8 : up2 I 27 8 (I 4 10) 27 8 = nI e := by rw [up_s]; exact h.ed
    rw [E78_0, if_neg q]
    generalize up2 I 27 8 (I 4 10) = I1 at F g8
    have s1 : SV p I1 J D := h.sv.fr (fun a k _ => F _ _ (by omega)) (F _ _ (by omega)) (F _ _ (by omega)) (fun a k _ _ => F _ _ (by omega)) (fun _ _ _ _ => rfl) (fun _ _ _ _ => rfl)
    obtain ⟨J1, a1, a2, a3⟩ := row0 (J := J) (b := 29) (fun k y => ev (d + 1) 78 28 [.ref 27, .int k, .retAddr 0, .retAddr 0] [] (S sl p I1 y)) (fun k y hk => by rw [E78_28, if_pos (lt_n hk (by omega)), ck_if (ixb_n hk (by decide)), cl_n (by omega), nI_1])
    obtain ⟨J2, b1, b2, b3⟩ := for_ex (M := Nat → Nat → Int64) (fun k y => ev (d + 1) 78 52 [.ref 27, .int k, .retAddr 0, .retAddr 0] [] (S sl p I1 y)) (nc D) (fun n y => (∀ k, k < 6 → y 29 k = faS D k n) ∧ ∀ a k, a ≠ 29 → y a k = J a k)
      (by
        rintro n y hn ⟨g1, g2⟩
        have hp := h.sv.p60 n
        have s2 : SV p I1 y D := s1.fr (fun _ _ _ => rfl) rfl rfl (fun _ _ _ _ => rfl) (fun _ _ _ _ => g2 _ _ (by omega)) (fun _ _ _ _ => g2 _ _ (by omega))
        rw [E78_52 _ h.sv.p60, s1.count, if_pos (lt_n hn (by omega)), ck_if (ixb_n (by omega) (by decide)), ck_if (ixb_n (by omega) (by decide)), cl_n (by omega), C_addWeft (obP hp) (by omega), evK_v, E78_92, (s1.ck n hn).2.2.2.2.2.2, s2.pole n hn, nI_1]
        exact ⟨_, rfl, fun k hk => by rw [six_r hk, g1 k hk]; rfl, fun a k w => by rw [six_n w]; exact g2 a k w⟩)
      J1 ⟨fun k hk => a2 k hk, a3⟩
    have s2 : SV p I1 J2 D := s1.fr (fun _ _ _ => rfl) rfl rfl (fun _ _ _ _ => rfl) (fun _ _ _ _ => b3 _ _ (by omega)) (fun _ _ _ _ => b3 _ _ (by omega))
    have hm := maA_pos h.sv.gd h0
    have hb := maA_b h.sv.gd
    have hm0 : ¬ lN (maA D) = 0 := fun w => by
      have := congrArg Int64.toInt w
      rw [lN_tI (by omega)] at this
      have e0 : (0 : Int64).toInt = 0 := rfl
      omega
    obtain ⟨J3, c1, c2, c3⟩ := rowD (J := J2) (b := 29) (fun k y => ev (d + 1) 78 108 [.ref 27, .long (lN (maA D)), .retAddr 0, .int k] [] (S sl p I1 y)) (lN (maA D)) (fun k y hk => by
      rw [E78_108, if_pos (lt_n hk (by omega)), ck_if (ixb_n hk (by decide)), cl_n (by omega), sp_parted, evK_s, E78_132, ck_if (ixb_n hk (by decide)), cl_n (by omega), nI_1]
      unfold pt
      rw [if_neg hm0])
    have K : ∀ a k, a ≠ 29 → J3 a k = J a k := fun a k w => (c3 a k w).trans (b3 a k w)
    have hf : ∀ k, k < 6 → J3 29 k = fab D k := fun k hk => by rw [c2 k hk, b2 k hk]; rfl
    refine ⟨I1, J3, ?_, ?_, hf, F, K⟩
    · rw [a1, E78_28, if_neg (nlt_n (by omega)), b1, E78_52 _ h.sv.p60, s1.count, if_neg (nlt_n (by omega)), C_massAll s2, evK_s, E78_105, c1, E78_108, if_neg (nlt_n (by omega))]
    · exact ⟨s1.fr (fun _ _ _ => rfl) rfl rfl (fun _ _ _ _ => rfl) (fun _ _ _ _ => K _ _ (by omega)) (fun _ _ _ _ => K _ _ (by omega)), by rw [F _ _ (by omega)]; exact h.ed, fun k hk => by rw [F _ _ (by omega)]; exact h.sl k hk, h.g.fr h.sv.gd (fun a k w => F _ _ (by omega)) (fun a k _ _ => K _ _ (by omega)), h.b.fr (fun k _ _ => F _ _ (by omega)), h.s.fr (fun a k w => F _ _ (by omega)) (fun a k _ _ => K _ _ (by omega)), ⟨Or.inr ⟨e, Nat.le_refl e, g8⟩, fun _ => hf⟩, h.x.fr (fun a k w => F _ _ (by omega)), h.l.fr (fun a k w => F _ _ (by omega)), h.t.fr (fun a k w => F _ _ (by omega)), h.z.fr (fun a k w => F _ _ (by omega))⟩
end FAB
