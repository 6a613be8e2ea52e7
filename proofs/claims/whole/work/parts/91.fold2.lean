section FLD
variable {d sl : Nat} {p : Nat → Nat} {I I' : Nat → Nat → Int32} {J J' : Nat → Nat → Int64} {D : Nat → Nat → Int32} {e : Nat}
theorem C_turn {a b : Nat} {g : Int32} (ha : ob a 0) (hb : ob b 0) (h40 : a ≠ 40) (hs : SNS I) (hg : ∃ k, k ≤ 720 ∧ g = nI k - 180) : den (d + 2) 22 [.ref 38, .ref a, .int g, .ref b] (S sl p I J) = some (none, S sl p I (setV (setV J 40 (crs (vec J 39) (vec J a))) b (trn (vec J 39) (vec J a) (cs g).toInt64 (sn g).toInt64))) := by
  have w : ∀ k, setV J 40 (crs (vec J 39) (vec J a)) a k = J a k := fun k => setV_ne h40
  have w9 : ∀ k, setV J 40 (crs (vec J 39) (vec J a)) 39 k = J 39 k := fun k => setV_ne (by omega)
  have v4 : vec (setV J 40 (crs (vec J 39) (vec J a))) 40 = crs (vec J 39) (vec J a) := vec_setV
  have v0 : setV J 40 (crs (vec J 39) (vec J a)) 40 0 = (crs (vec J 39) (vec J a)).1 := congrArg (fun v : V3 => v.1) v4
  have v1 : setV J 40 (crs (vec J 39) (vec J a)) 40 1 = (crs (vec J 39) (vec J a)).2.1 := congrArg (fun v : V3 => v.2.1) v4
  have v2 : setV J 40 (crs (vec J 39) (vec J a)) 40 2 = (crs (vec J 39) (vec J a)).2.2 := congrArg (fun v : V3 => v.2.2) v4
  rw [E22_0 _ ha hb, C_cosine hs hg, evK_s, E22_8 _ _ ha hb, C_sine hs hg, evK_s, E22_19 _ _ _ ha hb, sp_vdot ob_39 ha, evK_s, E22_38 _ _ _ _ _ ha hb, C_cross ob_40 ob_39 ha, evK_v, E22_56 _ _ _ _ _ ha hb, sp_put hb, evK_v, E22_180 _ _ _ _ _ ha hb, w, w, w, w9, w9, w9, v0, v1, v2]
  rfl
theorem m32_64 {x : Int64} (h : -8000 ≤ x.toInt ∧ x.toInt ≤ 8000) : x.toInt32.toInt64 = x := Int64.toInt_inj.mp (by
  rw [i64_of, Int64.toInt_toInt32]
  exact Int.bmod_eq_of_le (by omega) (by omega))
theorem set3_u {I : Nat → Nat → Int32} (x : Int32) (f g : Int32 → Int32) : up2 (up2 (up2 I 46 23 x) 46 24 (f (up2 I 46 23 x 46 24))) 46 25 (g (up2 (up2 I 46 23 x) 46 24 (f (up2 I 46 23 x 46 24)) 46 25)) = set3 I x (f (I 46 24)) (g (I 46 25)) := by
  rw [up_nk (show 24 ≠ 23 by omega), up_nk (show 25 ≠ 24 by omega), up_nk (show 25 ≠ 23 by omega)]
  rfl
theorem M_turn {t : Nat} {g : Int32} {v : V3} (hv : bv v) : den (d + 4) 304 [.ref 46, .long v.1, .long v.2.1, .long v.2.2, .int (nI t), .int g] (S sl p I J) = some (none, S sl p (set3v I (tv t g v)) J) := by
  obtain ⟨w1, w2, w3⟩ := crs_w (u := axv t) (v := v) ⟨cs64 _, sn64 _, bI_0⟩ hv
  have e283 : den (d + 3) 283 [.ref 46, .long (cs (nI t)).toInt64, .long (sn (nI t)).toInt64, .long 0, .long v.1, .long v.2.1, .long v.2.2] (S sl p I J) = some (none, S sl p (set3v I (crs (axv t) v)) J) := E283_0 _ _ _ _ _ _
  have z : ((axv t).2.2 * (vd (axv t) v / 1000)) / 1000 * (1000 - (cs g).toInt64) = 0 := by
    rw [show (axv t).2.2 = 0 from rfl, Int64.zero_mul, show (0 : Int64) / 1000 = 0 from by decide, Int64.zero_mul]
  have r := set3v_r (I := I) (v := crs (axv t) v)
  rw [E304_0, sp_cosine, evK_s, E304_5, sp_sine, evK_s, E304_13, e283, evK_v, E304_29, sp_dot, evK_s, E304_41, sp_cosine, evK_s, E304_52, sp_sine, evK_s, E304_60]
  refine congrArg (fun q => some ((none : Option Value), S sl p q J)) ((set3_u _ (fun y => Int64.toInt32 (((v.2.1 * (cs g).toInt64 + y.toInt64 * (sn g).toInt64) + ((sn (nI t)).toInt64 * (vd ((cs (nI t)).toInt64, (sn (nI t)).toInt64, 0) (v.1, v.2.1, v.2.2) / 1000) / 1000) * (1000 - (cs g).toInt64)) / 1000)) (fun y => Int64.toInt32 ((v.2.2 * (cs g).toInt64 + y.toInt64 * (sn g).toInt64) / 1000))).trans ?_)
  rw [r.1, r.2.1, r.2.2, n32_64 w1, n32_64 w2, n32_64 w3]
  refine (set3_2 (I := I) (x := (crs (axv t) v).1.toInt32)).trans ?_
  have e : (tv t g v).2.2 = (v.2.2 * (cs g).toInt64 + (crs (axv t) v).2.2 * (sn g).toInt64) / 1000 := by
    unfold tv trn
    simp only
    rw [z, Int64.add_zero]
  unfold set3v
  rw [e]
  rfl
/-- the sum of the turned poles of two sets -/
noncomputable def fol (D : Nat → Nat → Int32) (s u t : Nat) (g : Int32) : Nat → V3 × Int64
  | 0 => noS
  | n + 1 => if stn D n = nI s then addS (fol D s u t g n) (wt D n) (decide (vd (tv t g (pv D n)) (tv t g (meO D s)) < 0)) (tv t g (pv D n)) else if stn D n = nI u then addS (fol D s u t g n) (wt D n) (decide (vd (tv t (-g) (pv D n)) (tv t g (meO D s)) < 0)) (tv t (-g) (pv D n)) else fol D s u t g n
noncomputable def foO (D : Nat → Nat → Int32) (s u t : Nat) (g : Int32) : Int32 := tgO (fol D s u t g (nc D))
theorem neg180 {k : Nat} (h : k ≤ 360) : -(nI k - 180) = nI (360 - k) - 180 := by
  apply Int32.toInt_inj.mp
  have e : (180 : Int32).toInt = 180 := rfl
  have e1 : (nI k - 180).toInt = (k : Int) - 180 := by rw [sub32 (by rw [tI (by omega), e]; omega) (by rw [tI (by omega), e]; omega), tI (by omega), e]
  have e2 : (nI (360 - k) - 180).toInt = ((360 - k : Nat) : Int) - 180 := by rw [sub32 (by rw [tI (by omega), e]; omega) (by rw [tI (by omega), e]; omega), tI (by omega), e]
  rw [neg32 (by rw [e1]; omega), e1, e2]
  omega
theorem GD.qu (hD : GD D) {i : Nat} (hi : i < nc D) : (vq (pv D i)).toInt ≤ 1020100 := by
  obtain ⟨l, t, q, a, -, h2, h3, -, -, -, -, -, e⟩ := hD.cr i hi
  rw [e]
  exact (vq_pole h2 h3).2
theorem fol_f (hD : GD D) {s u t k : Nat} (ht : t < 360) (hk : k ≤ 360) : ∀ n, n ≤ nc D → fB n (fol D s u t (nI k - 180) n)
  | 0, _ => noS_f
  | n + 1, h => by
    have n60 := hD.n60
    have ih := fol_f hD (s := s) (u := u) ht hk n (by omega)
    have w := hD.wb (i := n) (by omega)
    have b := hD.bp (i := n) (by omega)
    have q := hD.qu (i := n) (by omega)
    unfold fol
    split
    · exact addS_f (by omega) ih w.1 w.2 (tv_q ht hk b q)
    · split
      · rw [neg180 hk]
        exact addS_f (by omega) ih w.1 w.2 (tv_q ht (by omega) b q)
      · exact fB_up ih
end FLD
