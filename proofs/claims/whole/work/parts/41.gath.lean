/-! the class's sums and means -/
def setG (J : Nat → Nat → Int64) (g b : Nat) (m : V3 × Int64) : Nat → Nat → Int64 := up2 (setV J b m.1) g 1 m.2
theorem setG_b {J : Nat → Nat → Int64} {g b : Nat} {m : V3 × Int64} (h : g ≠ b) : vec (setG J g b m) b = m.1 := by
  unfold setG vec
  rw [up_na (Ne.symm h), up_na (Ne.symm h), up_na (Ne.symm h)]
  exact vec_setV
theorem setG_m {J : Nat → Nat → Int64} {g b : Nat} {m : V3 × Int64} : setG J g b m g 1 = m.2 := up_s
theorem setG_v {J : Nat → Nat → Int64} {g b a : Nat} {m : V3 × Int64} (h1 : a ≠ g) (h2 : a ≠ b) : vec (setG J g b m) a = vec J a := by
  unfold setG vec
  rw [up_na h1, up_na h1, up_na h1]
  exact vec_setV_ne h2
theorem setG_n {J : Nat → Nat → Int64} {g b a k : Nat} {m : V3 × Int64} (h1 : a ≠ g) (h2 : a ≠ b) : setG J g b m a k = J a k := by
  unfold setG
  rw [up_na h1, setV_ne h2]
theorem setV_2 {J : Nat → Nat → Int64} {a : Nat} {v w : V3} : setV (setV J a v) a w = setV J a w := by
  funext x k
  unfold setV
  simp only [up_a]
  split
  · rfl
  · split
    · rfl
    · split <;> rfl
theorem setG_2 {J : Nat → Nat → Int64} {g b : Nat} {m m' : V3 × Int64} (h : g ≠ b) : up2 (setV (setG J g b m) b m'.1) g 1 m'.2 = setG J g b m' := by
  funext x k
  unfold setG setV
  simp only [up_a]
  by_cases q : x = b
  · have : x ≠ g := fun w => h (w.symm.trans q)
    simp only [this, q]
    split
    · rfl
    · split
      · rfl
      · split
        · rfl
        · split <;> rfl
  · simp only [q]
    split <;> rfl
def lgO (m : V3 × Int64) : Int64 := rt (vq m.1) / 1000
def tgO (m : V3 × Int64) : Int32 := if m.2 ≤ lgO m then 1000000 else Int64.toInt32 (if 100 * m.2 / (m.2 - lgO m) < 1000000 then 100 * m.2 / (m.2 - lgO m) else 1000000)
theorem sqr_n {x : Int64} {B : Int} (hB : B * B ≤ 4000000000000000000) (h : -B ≤ x.toInt ∧ x.toInt ≤ B) : (x * x).toInt = x.toInt * x.toInt ∧ 0 ≤ x.toInt * x.toInt ∧ x.toInt * x.toInt ≤ B * B := by
  obtain ⟨e, g1, g2⟩ := mul_b (a := x) (b := x) (A := B) (B := B) h h hB
  exact ⟨e, by
    rcases Int.le_total 0 x.toInt with q | q
    · exact Int.mul_nonneg q q
    · exact Int.mul_nonneg_of_nonpos_of_nonpos q q, g2⟩
/-- a square, with no turn over -/
def okQ (v : V3) : Prop := 0 ≤ (vq v).toInt ∧ (vq v).toInt < 2 ^ 62
theorem okQ_B {v : V3} {B : Int} (hB : B * B ≤ 1440000000000000000) (h1 : -B ≤ v.1.toInt ∧ v.1.toInt ≤ B) (h2 : -B ≤ v.2.1.toInt ∧ v.2.1.toInt ≤ B) (h3 : -B ≤ v.2.2.toInt ∧ v.2.2.toInt ≤ B) : okQ v := by
  obtain ⟨e1, a1, b1⟩ := sqr_n (by omega) h1
  obtain ⟨e2, a2, b2⟩ := sqr_n (by omega) h2
  obtain ⟨e3, a3, b3⟩ := sqr_n (by omega) h3
  have s1 : (v.1 * v.1 + v.2.1 * v.2.1).toInt = v.1.toInt * v.1.toInt + v.2.1.toInt * v.2.1.toInt := by rw [add64 (by rw [e1, e2]; omega) (by rw [e1, e2]; omega), e1, e2]
  have s2 : (vq v).toInt = v.1.toInt * v.1.toInt + v.2.1.toInt * v.2.1.toInt + v.2.2.toInt * v.2.2.toInt := by
    unfold vq vd
    rw [add64 (by rw [s1, e3]; omega) (by rw [s1, e3]; omega), s1, e3]
  unfold okQ
  rw [s2]
  omega
theorem sB_okQ {k : Nat} {m : V3 × Int64} (hk : k ≤ 60) (h : sB 1000 k m) : okQ m.1 := by
  obtain ⟨h0, h1, h2, h3, h4⟩ := h
  exact okQ_B (B := 1200000000) (by decide) (by omega) (by omega) (by omega)
theorem rt_le {v : Int64} (h : (vq (0, 0, v)).toInt = 0 ∨ True) : (rt v).toInt ≤ 4000000000 := by
  unfold rt
  have h1 := (isq_ok v.toInt.toNat).1
  have h2 := (t64 v).2
  have h3 : isq v.toInt.toNat ≤ 4000000000 := by
    rcases Nat.lt_or_ge 4000000000 (isq v.toInt.toNat) with q | q
    · exfalso
      have : 4000000001 * 4000000001 ≤ isq v.toInt.toNat * isq v.toInt.toNat := Nat.mul_le_mul q q
      omega
    · exact q
  rw [lN_tI (by omega)]
  omega
theorem lgO_b (m : V3 × Int64) : 0 ≤ (lgO m).toInt ∧ (lgO m).toInt ≤ 4000000 := by
  unfold lgO
  have h1 := rt_nn (vq m.1)
  have h2 := rt_le (v := vq m.1) (Or.inr trivial)
  rw [div64 (show 0 < (1000 : Int64).toInt by decide), show (1000 : Int64).toInt = 1000 by decide]
  exact ⟨Int.tdiv_nonneg h1 (by omega), (tdiv_b (c := 4000000) (by omega) (by omega)).2⟩
section GATH
variable {d sl : Nat} {p : Nat → Nat} {I : Nat → Nat → Int32} {J : Nat → Nat → Int64}
theorem sp_gclear {g b : Nat} (hg : ob g 3) (hb : ob b 0) (hr : RF p g 0 = some b) : den (d + 1) 16 [.ref g] (S sl p I J) = some (none, S sl p I (setG J g b noS)) := by
  rw [E16_0 hr hb hg, sp_put hb, evK_v, E16_10 hg]
  rfl
theorem sp_gadd {g b x y : Nat} {m : V3 × Int64} {w : Int32} (hg : ob g 3) (hb : ob b 0) (hx : ob x 0) (hy : ob y 0) (hr : RF p g 0 = some b) (hgb : g ≠ b) (x1 : x ≠ g) (x2 : x ≠ b) (y1 : y ≠ g) (y2 : y ≠ b) : den (d + 1) 17 [.ref g, .int w, .ref x, .ref y] (S sl p I (setG J g b m)) = some (none, S sl p I (setG J g b (addS m w (decide (vd (vec J x) (vec J y) < 0)) (vec J x)))) := by
  have eb := setG_b (J := J) (m := m) hgb
  have ex := setG_v (J := J) (m := m) x1 x2
  have b0 : setG J g b m b 0 = m.1.1 := congrArg Prod.fst eb
  have b1 : setG J g b m b 1 = m.1.2.1 := congrArg (fun q => q.2.1) eb
  have b2 : setG J g b m b 2 = m.1.2.2 := congrArg (fun q => q.2.2) eb
  have c0 : setG J g b m x 0 = (vec J x).1 := congrArg Prod.fst ex
  have c1 : setG J g b m x 1 = (vec J x).2.1 := congrArg (fun q => q.2.1) ex
  have c2 : setG J g b m x 2 = (vec J x).2.2 := congrArg (fun q => q.2.2) ex
  rw [E17_0 _ hg hx hy, sp_vdot hx hy, evK_s, E17_5 _ _ hg hx hy, ex, setG_v y1 y2]
  have go : ∀ t : Bool, ev (d + 1) 17 18 [.ref g, .int w, .ref x, .ref y, .retAddr 0, .retAddr 0] [.long (Int32.toInt64 (if t then -w else w))] (S sl p I (setG J g b m)) = some (none, S sl p I (setG J g b (addS m w t (vec J x)))) := by
    intro t
    rw [E17_18 _ _ hr hb hg hx hy, sp_put hb, evK_v, E17_72 _ _ hg hx hy, setV_ne hgb, setG_m, b0, b1, b2, c0, c1, c2]
    exact congrArg (fun q => some (none, S sl p I q)) (setG_2 (m' := addS m w t (vec J x)) hgb)
  by_cases q : vd (vec J x) (vec J y) < 0
  · rw [if_pos q, decide_eq_true q]
    exact go true
  · rw [if_neg q, decide_eq_false q]
    exact go false
theorem sp_reach {g b : Nat} (hg : ob g 3) (hb : ob b 0) (hr : RF p g 0 = some b) (hq : okQ (vec J b)) : den (d + 1) 18 [.ref g] (S sl p I J) = some (some (.long (lgO (vec J b, J g 1))), S sl p I J) := by
  rw [E18_0 hr hb hg, sp_vsq hb, evK_s, E18_7 _ hg, sp_rootP hq.1 hq.2, evK_s, E18_10 _ hg]
  rfl
theorem sp_tightness {g b : Nat} (hg : ob g 3) (hb : ob b 0) (hr : RF p g 0 = some b) (hq : okQ (vec J b)) (hm : 0 ≤ (J g 1).toInt ∧ (J g 1).toInt ≤ 2000000) : den (d + 2) 19 [.ref g] (S sl p I J) = some (some (.int (tgO (vec J b, J g 1))), S sl p I J) := by
  have hl := lgO_b (vec J b, J g 1)
  have e : (J g 1 - lgO (vec J b, J g 1)).toInt = (J g 1).toInt - (lgO (vec J b, J g 1)).toInt := sub64 (by omega) (by omega)
  rw [E19_0 hg, sp_reach hg hb hr hq, evK_s, E19_8 _ _ hg]
  unfold tgO
  by_cases q : J g 1 ≤ lgO (vec J b, J g 1)
  · rw [if_pos q, if_pos]
    have := Int64.le_iff_toInt_le.mp q
    refine Int64.le_iff_toInt_le.mpr ?_
    rw [e]
    show _ ≤ (0 : Int)
    omega
  · have h1 : ¬ _ := fun w => q (Int64.le_iff_toInt_le.mpr w)
    have h2 : ¬ J g 1 - lgO (vec J b, J g 1) ≤ 0 := fun w => by
      have := Int64.le_iff_toInt_le.mp w
      rw [e] at this
      have h9 : (0 : Int64).toInt = 0 := rfl
      omega
    have h3 : pt (100 * J g 1) (J g 1 - lgO (vec J b, J g 1)) = 100 * J g 1 / (J g 1 - lgO (vec J b, J g 1)) := if_neg (fun w => h2 (by rw [w]; exact Int64.le_refl 0))
    rw [if_neg q, if_neg h2, sp_parted, evK_s, E19_34 _ _ _ hg, h3]
theorem sp_turnUpC {a : Nat} (ha : ob a 0) : den (d + 1) 8 [.ref a] (S sl p I J) = some (none, S sl p I (setV J a (tup (vec J a)))) := by
  have no : ¬ downV (vec J a) → ev (d + 1) 8 49 [.ref a, .retAddr 0] [] (S sl p I J) = some (none, S sl p I (setV J a (tup (vec J a)))) := by
    intro h
    rw [E8_49 ha, E8_50 _ ha, if_pos rfl, tup_n h]
    congr 3
    funext x k
    unfold setV vec
    simp only [up_a]
    split
    · rename_i q; rw [q.1, q.2]
    · split
      · rename_i q; rw [q.1, q.2]
      · split
        · rename_i q; rw [q.1, q.2]
        · rfl
  have yes : downV (vec J a) → ev (d + 1) 8 45 [.ref a, .retAddr 0] [] (S sl p I J) = some (none, S sl p I (setV J a (tup (vec J a)))) := by
    intro h
    rw [E8_45 ha, E8_50 _ ha, if_neg (by decide), sp_put ha, evK_v, E8_74 _ ha, tup_p h]
    rfl
  rw [E8_0 ha]
  by_cases z0 : J a 2 < 0
  · rw [if_pos z0]; exact yes (Or.inl z0)
  · rw [if_neg z0]
    by_cases z1 : J a 2 = 0
    · rw [if_pos z1]
      by_cases y0 : J a 1 < 0
      · rw [if_pos y0]; exact yes (Or.inr ⟨z1, Or.inl y0⟩)
      · rw [if_neg y0]
        by_cases y1 : J a 1 = 0
        · rw [if_pos y1]
          by_cases x0 : J a 0 < 0
          · rw [if_pos x0]; exact yes (Or.inr ⟨z1, Or.inr ⟨y1, x0⟩⟩)
          · rw [if_neg x0]
            refine no ?_
            rintro (h | ⟨-, h | ⟨-, h⟩⟩)
            · exact z0 h
            · exact y0 h
            · exact x0 h
        · rw [if_neg y1]
          refine no ?_
          rintro (h | ⟨-, h | ⟨h, -⟩⟩)
          · exact z0 h
          · exact y0 h
          · exact y1 h
    · rw [if_neg z1]
      refine no ?_
      rintro (h | ⟨h, -⟩)
      · exact z0 h
      · exact z1 h
end GATH
