/-! facts of the tables, by name; the objects that come in any number -/
theorem ck3 {b : Bool} {o o' : Option (Option Value × Mm)} (h : b = true → o = o') : ck b o = ck b o' := by
  cases b with
  | false => rfl
  | true => rw [h rfl]
theorem ixb_lt {n : Nat} {j : Int32} (h : ixb n j = true) : j.toNatClampNeg < n := Nat.not_le.mp fun q => (of_decide_eq_true h) (Or.inr q)
theorem obC {j : Nat} (h : j < 60) : ob (200 + j) 1 := by
  have : ((List.range 60).all fun j => decide (SH (200 + j) = (1, 1) ∧ pos (200 + j) < NT)) = true := by decide +kernel
  unfold ob
  exact of_decide_eq_true (List.all_eq_true.mp this j (List.mem_range.mpr h))
theorem obP {j : Nat} (h : j < 60) : ob (300 + j) 0 := by
  have : ((List.range 60).all fun j => decide (SH (300 + j) = (1, 0) ∧ pos (300 + j) < NT)) = true := by decide +kernel
  unfold ob
  exact of_decide_eq_true (List.all_eq_true.mp this j (List.mem_range.mpr h))
theorem obG {j : Nat} (h : j < 30) : ob (400 + j) 2 := by
  have : ((List.range 30).all fun j => decide (SH (400 + j) = (1, 2) ∧ pos (400 + j) < NT)) = true := by decide +kernel
  unfold ob
  exact of_decide_eq_true (List.all_eq_true.mp this j (List.mem_range.mpr h))
theorem ob500 {j : Nat} (h : j < 30) : ob (500 + j) 3 := by
  have : ((List.range 30).all fun j => decide (SH (500 + j) = (1, 3) ∧ pos (500 + j) < NT)) = true := by decide +kernel
  unfold ob
  exact of_decide_eq_true (List.all_eq_true.mp this j (List.mem_range.mpr h))
theorem ob600 {j : Nat} (h : j < 30) : ob (600 + j) 0 := by
  have : ((List.range 30).all fun j => decide (SH (600 + j) = (1, 0) ∧ pos (600 + j) < NT)) = true := by decide +kernel
  unfold ob
  exact of_decide_eq_true (List.all_eq_true.mp this j (List.mem_range.mpr h))
theorem ob700 {j : Nat} (h : j < 30) : ob (700 + j) 0 := by
  have : ((List.range 30).all fun j => decide (SH (700 + j) = (1, 0) ∧ pos (700 + j) < NT)) = true := by decide +kernel
  unfold ob
  exact of_decide_eq_true (List.all_eq_true.mp this j (List.mem_range.mpr h))
theorem ob800 {j : Nat} (h : j < 30) : ob (800 + j) 0 := by
  have : ((List.range 30).all fun j => decide (SH (800 + j) = (1, 0) ∧ pos (800 + j) < NT)) = true := by decide +kernel
  unfold ob
  exact of_decide_eq_true (List.all_eq_true.mp this j (List.mem_range.mpr h))
theorem ob900 {j : Nat} (h : j < 30) : ob (900 + j) 0 := by
  have : ((List.range 30).all fun j => decide (SH (900 + j) = (1, 0) ∧ pos (900 + j) < NT)) = true := by decide +kernel
  unfold ob
  exact of_decide_eq_true (List.all_eq_true.mp this j (List.mem_range.mpr h))
theorem ob100 {j : Nat} (h : j < 6) : ob (100 + j) 0 := by
  have : ((List.range 6).all fun j => decide (SH (100 + j) = (1, 0) ∧ pos (100 + j) < NT)) = true := by decide +kernel
  unfold ob
  exact of_decide_eq_true (List.all_eq_true.mp this j (List.mem_range.mpr h))
theorem rfC {p : Nat → Nat} {j : Nat} (h : j < 60) : RF p (200 + j) 1 = some (300 + j) := by
  unfold RF
  rw [if_neg (by omega), if_pos (by omega), if_pos rfl]
  congr 1
  omega
theorem rfG0 {p : Nat → Nat} {j : Nat} (h : j < 30) : RF p (400 + j) 0 = some (500 + j) := by
  unfold RF
  rw [if_neg (by omega), if_neg (by omega), if_pos (by omega), if_pos rfl]
  congr 1
  omega
theorem rfG1 {p : Nat → Nat} {j : Nat} (h : j < 30) : RF p (400 + j) 1 = some (700 + j) := by
  unfold RF
  rw [if_neg (by omega), if_neg (by omega), if_pos (by omega), if_neg (by omega), if_pos rfl]
  congr 1
  omega
theorem rfG2 {p : Nat → Nat} {j : Nat} (h : j < 30) : RF p (400 + j) 2 = some (800 + j) := by
  unfold RF
  rw [if_neg (by omega), if_neg (by omega), if_pos (by omega), if_neg (by omega), if_neg (by omega), if_pos rfl]
  congr 1
  omega
theorem rfS {p : Nat → Nat} {j : Nat} (h : j < 30) : RF p (500 + j) 0 = some (600 + j) := by
  unfold RF
  rw [if_neg (by omega), if_neg (by omega), if_neg (by omega), if_pos (by omega), if_pos rfl]
  congr 1
  omega
theorem rfA8 {p : Nat → Nat} : ∀ i, i < 6 → RF p 8 i = some (100 + i) := by
  intro i h
  have : i = 0 ∨ i = 1 ∨ i = 2 ∨ i = 3 ∨ i = 4 ∨ i = 5 := by omega
  rcases this with rfl | rfl | rfl | rfl | rfl | rfl <;> rfl
theorem rfA9 {p : Nat → Nat} : ∀ i, i < 60 → RF p 9 i = some (200 + p i) := by
  intro i h
  unfold RF
  rw [if_pos (by omega), if_pos rfl, if_pos h]
theorem rfA13 {p : Nat → Nat} : ∀ i, i < 30 → RF p 13 i = some (400 + i) := by
  intro i h
  unfold RF
  rw [if_pos (by omega), if_neg (by omega), if_pos rfl, if_pos h]
theorem rfA14 {p : Nat → Nat} : ∀ i, i < 30 → RF p 14 i = some (800 + i) := by
  intro i h
  unfold RF
  rw [if_pos (by omega), if_neg (by omega), if_neg (by omega), if_pos rfl, if_pos h]
theorem rfA24 {p : Nat → Nat} : ∀ i, i < 30 → RF p 24 i = some (900 + i) := by
  intro i h
  unfold RF
  rw [if_pos (by omega), if_neg (by omega), if_neg (by omega), if_neg (by omega), if_pos rfl, if_pos h]
section RU2
variable {d y pc : Nat} {L st : List Value} {σ : Mm} {sl : Nat} {p : Nat → Nat} {I : Nat → Nat → Int32} {J : Nat → Nat → Int64}
theorem r_ildc {a n k : Nat} {j : Int32} (hd : decode (mCode y) pc = .ok (.iaload, 1)) (ha : ar a 2 n) (hj : ixb n j = true) (hk : j.toNatClampNeg = k) : ev d y pc L (.int j :: .ref a :: st) (S sl p I J) = ev d y (pc + 1) L (.int (I a k) :: st) (S sl p I J) := by
  rw [r_ild hd ha, hj, hk]; rfl
theorem r_jldc {a n k : Nat} {j : Int32} (hd : decode (mCode y) pc = .ok (.laload, 1)) (ha : ar a 3 n) (hj : ixb n j = true) (hk : j.toNatClampNeg = k) : ev d y pc L (.int j :: .ref a :: st) (S sl p I J) = ev d y (pc + 1) L (.long (J a k) :: st) (S sl p I J) := by
  rw [r_jld hd ha, hj, hk]; rfl
theorem r_istc {a n k : Nat} {j v : Int32} (hd : decode (mCode y) pc = .ok (.iastore, 1)) (ha : ar a 2 n) (hj : ixb n j = true) (hk : j.toNatClampNeg = k) : ev d y pc L (.int v :: .int j :: .ref a :: st) (S sl p I J) = ev d y (pc + 1) L st (S sl p (up2 I a k v) J) := by
  rw [r_ist hd ha, hj, hk]; rfl
theorem r_jstc {a n k : Nat} {j : Int32} {v : Int64} (hd : decode (mCode y) pc = .ok (.lastore, 1)) (ha : ar a 3 n) (hj : ixb n j = true) (hk : j.toNatClampNeg = k) : ev d y pc L (.long v :: .int j :: .ref a :: st) (S sl p I J) = ev d y (pc + 1) L st (S sl p I (up2 J a k v)) := by
  rw [r_jst hd ha, hj, hk]; rfl
theorem r_scr {j : Int32} (hd : decode (mCode y) pc = .ok (.iaload, 1)) : ev d y pc L (.int j :: .ref 0 :: st) (S sl p I J) = ck (ixb sl j) (ev d y (pc + 1) L (.int (I 0 j.toNatClampNeg) :: st) (S sl p I J)) := by
  have e1 : aLn (S sl p I J) 0 = sl := rfl
  by_cases hj : j < 0 ∨ sl ≤ j.toNatClampNeg
  · rw [show ixb sl j = false from decide_eq_false (fun q => q hj)]
    refine ev_no hd rfl ?_
    simp only [stp, lnO, beq_self_eq_true, if_true, sIld]
    rw [if_neg (fun q => q.2.2 (by rw [e1]; exact hj))]
  · rw [show ixb sl j = true from decide_eq_true hj]
    refine ev_step hd rfl (q := (pc + 1, L, .int (I 0 j.toNatClampNeg) :: st, S sl p I J)) ?_
    simp only [stp, lnO, beq_self_eq_true, if_true, sIld]
    rw [if_pos ⟨by rw [SH0], Or.inl trivial, by rw [e1]; exact hj⟩]
    rfl
theorem r_scl (hd : decode (mCode y) pc = .ok (.arraylength, 1)) : ev d y pc L (.ref 0 :: st) (S sl p I J) = ev d y (pc + 1) L (.int (nI sl) :: st) (S sl p I J) := by
  refine ev_step hd rfl (q := (pc + 1, L, .int (nI sl) :: st, S sl p I J)) ?_
  simp only [stp, lnO, beq_self_eq_true, if_true, sLen]
  rw [if_pos ⟨by rw [SH0]; decide, by rw [SH0]; decide, Or.inl trivial⟩]
  rfl
theorem RF_up {p : Nat → Nat} {i v : Nat} (h : i < 60) : up2 (RF p) 9 i (some (200 + v)) = RF (va_up p i v) := by
  funext a k
  unfold up2
  by_cases ha : a = 9
  · subst ha
    by_cases hk : k = i
    · subst hk
      rw [if_pos ⟨rfl, rfl⟩, rfA9 k h]
      simp [va_up]
    · rw [if_neg (fun q => hk q.2)]
      unfold RF va_up
      simp [hk]
  · rw [if_neg (fun q => ha q.1)]
    unfold RF
    simp [ha]
theorem r_ast {j : Int32} {v : Nat} (hd : decode (mCode y) pc = .ok (.aastore, 1)) (hv : ob (200 + v) 1) : ev d y pc L (.ref (200 + v) :: .int j :: .ref 9 :: st) (S sl p I J) = ck (ixb 60 j) (ev d y (pc + 1) L st (S sl (va_up p j.toNatClampNeg v) I J)) := by
  have h9 : SH 9 = (5, 60) ∧ pos 9 < NT := by decide +kernel
  by_cases hj : j < 0 ∨ 60 ≤ j.toNatClampNeg
  · rw [show ixb 60 j = false from decide_eq_false (fun q => q hj)]
    refine ev_no hd rfl ?_
    simp only [stp, lnO, beq_self_eq_true, if_true, sAst]
    rw [if_neg (fun q => q.2.2.1 (by rw [h9.1]; exact hj))]
  · rw [show ixb 60 j = true from decide_eq_true hj]
    have hlt : j.toNatClampNeg < 60 := Nat.not_le.mp fun q => hj (Or.inr q)
    refine ev_step hd rfl (q := (pc + 1, L, st, S sl (va_up p j.toNatClampNeg v) I J)) ?_
    simp only [stp, lnO, beq_self_eq_true, if_true, sAst]
    rw [if_pos ⟨by rw [h9.1]; decide, h9.2, by rw [h9.1]; exact hj, by rw [h9.1]; exact hv.1, hv.2⟩]
    show some (pc + 1, L, st, (I, J, up2 (RF p) 9 j.toNatClampNeg (some (200 + v)), NT, sl)) = _
    rw [RF_up hlt]
    rfl
theorem r_swd {dd lo hi : Int} {offs : Array Int} {len : Nat} {a : Int32} {t : Nat} (hd : decode (mCode y) pc = .ok (.tableswitch dd lo hi offs, len)) (h : a.toInt < lo ∨ hi < a.toInt) (ht : tgt pc dd = some t) : ev d y pc L (.int a :: st) σ = ev d y t L st σ := r_sw hd (by simp [sSw, h, jmp, ht])
end RU2
theorem ob_1 : ob 1 11 := by unfold ob; decide +kernel
theorem ob_2 : ob 2 5 := by unfold ob; decide +kernel
theorem ar_3 : ar 3 2 630 := by unfold ar; decide +kernel
theorem ob_4 : ob 4 8 := by unfold ob; decide +kernel
theorem ar_5 : ar 5 2 6 := by unfold ar; decide +kernel
theorem ar_6 : ar 6 2 6 := by unfold ar; decide +kernel
theorem ar_7 : ar 7 2 6 := by unfold ar; decide +kernel
theorem ar_8 : ar 8 4 6 := by unfold ar; decide +kernel
theorem ar_9 : ar 9 5 60 := by unfold ar; decide +kernel
theorem ar_10 : ar 10 2 3600 := by unfold ar; decide +kernel
theorem ob_11 : ob 11 10 := by unfold ob; decide +kernel
theorem ar_12 : ar 12 2 60 := by unfold ar; decide +kernel
theorem ar_13 : ar 13 6 30 := by unfold ar; decide +kernel
theorem ar_14 : ar 14 4 30 := by unfold ar; decide +kernel
theorem ar_15 : ar 15 2 60 := by unfold ar; decide +kernel
theorem ar_16 : ar 16 2 60 := by unfold ar; decide +kernel
theorem ar_17 : ar 17 2 60 := by unfold ar; decide +kernel
theorem ar_18 : ar 18 2 60 := by unfold ar; decide +kernel
theorem ar_19 : ar 19 2 60 := by unfold ar; decide +kernel
theorem ar_20 : ar 20 2 46 := by unfold ar; decide +kernel
theorem ar_21 : ar 21 2 91 := by unfold ar; decide +kernel
theorem ob_22 : ob 22 6 := by unfold ob; decide +kernel
theorem ar_23 : ar 23 2 60 := by unfold ar; decide +kernel
theorem ar_24 : ar 24 4 30 := by unfold ar; decide +kernel
theorem ob_25 : ob 25 3 := by unfold ob; decide +kernel
theorem ob_26 : ob 26 0 := by unfold ob; decide +kernel
theorem ob_27 : ob 27 9 := by unfold ob; decide +kernel
theorem ob_28 : ob 28 0 := by unfold ob; decide +kernel
theorem ar_29 : ar 29 3 6 := by unfold ar; decide +kernel
theorem ar_30 : ar 30 2 2 := by unfold ar; decide +kernel
theorem ar_31 : ar 31 2 2 := by unfold ar; decide +kernel
theorem ar_32 : ar 32 2 3 := by unfold ar; decide +kernel
theorem ar_33 : ar 33 2 3 := by unfold ar; decide +kernel
theorem ob_34 : ob 34 7 := by unfold ob; decide +kernel
theorem ob_35 : ob 35 0 := by unfold ob; decide +kernel
theorem ar_36 : ar 36 2 900 := by unfold ar; decide +kernel
theorem ar_37 : ar 37 2 900 := by unfold ar; decide +kernel
theorem ob_38 : ob 38 4 := by unfold ob; decide +kernel
theorem ob_39 : ob 39 0 := by unfold ob; decide +kernel
theorem ob_40 : ob 40 0 := by unfold ob; decide +kernel
theorem ob_41 : ob 41 0 := by unfold ob; decide +kernel
theorem ob_42 : ob 42 0 := by unfold ob; decide +kernel
theorem ob_43 : ob 43 3 := by unfold ob; decide +kernel
theorem ob_44 : ob 44 0 := by unfold ob; decide +kernel
theorem ob_45 : ob 45 0 := by unfold ob; decide +kernel
theorem ob_46 : ob 46 12 := by unfold ob; decide +kernel
theorem ar_47 : ar 47 2 6 := by unfold ar; decide +kernel
theorem ar_48 : ar 48 2 6 := by unfold ar; decide +kernel
theorem ar_49 : ar 49 2 6 := by unfold ar; decide +kernel
theorem ar_50 : ar 50 2 60 := by unfold ar; decide +kernel
theorem ar_51 : ar 51 2 60 := by unfold ar; decide +kernel
theorem ar_52 : ar 52 2 60 := by unfold ar; decide +kernel
theorem ar_53 : ar 53 2 60 := by unfold ar; decide +kernel
theorem ar_54 : ar 54 2 60 := by unfold ar; decide +kernel
theorem ar_55 : ar 55 2 60 := by unfold ar; decide +kernel
theorem ar_56 : ar 56 2 60 := by unfold ar; decide +kernel
theorem ar_57 : ar 57 2 6 := by unfold ar; decide +kernel
theorem ar_58 : ar 58 2 6 := by unfold ar; decide +kernel
theorem ar_59 : ar 59 2 6 := by unfold ar; decide +kernel
theorem ar_60 : ar 60 2 60 := by unfold ar; decide +kernel
theorem ar_61 : ar 61 2 60 := by unfold ar; decide +kernel
theorem ar_62 : ar 62 2 60 := by unfold ar; decide +kernel
theorem ar_63 : ar 63 2 60 := by unfold ar; decide +kernel
theorem ar_64 : ar 64 2 30 := by unfold ar; decide +kernel
theorem ar_65 : ar 65 2 30 := by unfold ar; decide +kernel
theorem ar_66 : ar 66 2 30 := by unfold ar; decide +kernel
theorem ar_67 : ar 67 2 60 := by unfold ar; decide +kernel
theorem ar_68 : ar 68 3 6 := by unfold ar; decide +kernel
theorem ar_69 : ar 69 2 30 := by unfold ar; decide +kernel
theorem ar_70 : ar 70 2 30 := by unfold ar; decide +kernel
theorem ar_71 : ar 71 2 900 := by unfold ar; decide +kernel
theorem ar_72 : ar 72 2 900 := by unfold ar; decide +kernel
theorem ow1 : mOw 1 = 0 := by decide +kernel
theorem rt1 : mRt 1 = none := by decide +kernel
theorem ow2 : mOw 2 = 0 := by decide +kernel
theorem rt2 : mRt 2 = none := by decide +kernel
theorem ow3 : mOw 3 = 0 := by decide +kernel
theorem rt3 : mRt 3 = (some .long) := by decide +kernel
theorem ow4 : mOw 4 = 0 := by decide +kernel
theorem rt4 : mRt 4 = (some .long) := by decide +kernel
theorem ow5 : mOw 5 = 0 := by decide +kernel
theorem rt5 : mRt 5 = (some .long) := by decide +kernel
theorem ow6 : mOw 6 = 0 := by decide +kernel
theorem rt6 : mRt 6 = (some .boolean) := by decide +kernel
theorem ow7 : mOw 7 = 0 := by decide +kernel
theorem rt7 : mRt 7 = none := by decide +kernel
theorem ow8 : mOw 8 = 0 := by decide +kernel
theorem rt8 : mRt 8 = none := by decide +kernel
theorem ow10 : mOw 10 = 1 := by decide +kernel
theorem rt10 : mRt 10 = none := by decide +kernel
theorem ow11 : mOw 11 = 1 := by decide +kernel
theorem rt11 : mRt 11 = (some .int) := by decide +kernel
theorem ow13 : mOw 13 = 2 := by decide +kernel
theorem rt13 : mRt 13 = none := by decide +kernel
theorem ow14 : mOw 14 = 2 := by decide +kernel
theorem rt14 : mRt 14 = (some .long) := by decide +kernel
theorem ow16 : mOw 16 = 3 := by decide +kernel
theorem rt16 : mRt 16 = none := by decide +kernel
theorem ow17 : mOw 17 = 3 := by decide +kernel
theorem rt17 : mRt 17 = none := by decide +kernel
theorem ow18 : mOw 18 = 3 := by decide +kernel
theorem rt18 : mRt 18 = (some .long) := by decide +kernel
theorem ow19 : mOw 19 = 3 := by decide +kernel
theorem rt19 : mRt 19 = (some .int) := by decide +kernel
theorem ow20 : mOw 20 = 3 := by decide +kernel
theorem rt20 : mRt 20 = none := by decide +kernel
theorem ow22 : mOw 22 = 4 := by decide +kernel
theorem rt22 : mRt 22 = none := by decide +kernel
theorem ow23 : mOw 23 = 4 := by decide +kernel
theorem rt23 : mRt 23 = (some .int) := by decide +kernel
theorem ow25 : mOw 25 = 5 := by decide +kernel
theorem rt25 : mRt 25 = (some .int) := by decide +kernel
theorem ow26 : mOw 26 = 5 := by decide +kernel
theorem rt26 : mRt 26 = (some .int) := by decide +kernel
theorem ow27 : mOw 27 = 5 := by decide +kernel
theorem rt27 : mRt 27 = (some .int) := by decide +kernel
theorem ow28 : mOw 28 = 5 := by decide +kernel
theorem rt28 : mRt 28 = none := by decide +kernel
theorem ow29 : mOw 29 = 5 := by decide +kernel
theorem rt29 : mRt 29 = none := by decide +kernel
theorem ow30 : mOw 30 = 5 := by decide +kernel
theorem rt30 : mRt 30 = (some .boolean) := by decide +kernel
theorem ow31 : mOw 31 = 5 := by decide +kernel
theorem rt31 : mRt 31 = (some .int) := by decide +kernel
theorem ow32 : mOw 32 = 5 := by decide +kernel
theorem rt32 : mRt 32 = (some .int) := by decide +kernel
theorem ow33 : mOw 33 = 5 := by decide +kernel
theorem rt33 : mRt 33 = (some .int) := by decide +kernel
theorem ow34 : mOw 34 = 5 := by decide +kernel
theorem rt34 : mRt 34 = (some .long) := by decide +kernel
theorem ow35 : mOw 35 = 5 := by decide +kernel
theorem rt35 : mRt 35 = (some .int) := by decide +kernel
theorem ow36 : mOw 36 = 5 := by decide +kernel
theorem rt36 : mRt 36 = (some .int) := by decide +kernel
theorem ow37 : mOw 37 = 5 := by decide +kernel
theorem rt37 : mRt 37 = (some .int) := by decide +kernel
theorem ow39 : mOw 39 = 6 := by decide +kernel
theorem rt39 : mRt 39 = none := by decide +kernel
theorem ow40 : mOw 40 = 6 := by decide +kernel
theorem rt40 : mRt 40 = none := by decide +kernel
theorem ow41 : mOw 41 = 6 := by decide +kernel
theorem rt41 : mRt 41 = (some .boolean) := by decide +kernel
theorem ow42 : mOw 42 = 6 := by decide +kernel
theorem rt42 : mRt 42 = (some .int) := by decide +kernel
theorem ow43 : mOw 43 = 6 := by decide +kernel
theorem rt43 : mRt 43 = none := by decide +kernel
theorem ow44 : mOw 44 = 6 := by decide +kernel
theorem rt44 : mRt 44 = (some .int) := by decide +kernel
theorem ow45 : mOw 45 = 6 := by decide +kernel
theorem rt45 : mRt 45 = (some .int) := by decide +kernel
theorem ow47 : mOw 47 = 7 := by decide +kernel
theorem rt47 : mRt 47 = none := by decide +kernel
theorem ow48 : mOw 48 = 7 := by decide +kernel
theorem rt48 : mRt 48 = (some .int) := by decide +kernel
theorem ow49 : mOw 49 = 7 := by decide +kernel
theorem rt49 : mRt 49 = (some .int) := by decide +kernel
theorem ow50 : mOw 50 = 7 := by decide +kernel
theorem rt50 : mRt 50 = (some .int) := by decide +kernel
theorem ow51 : mOw 51 = 7 := by decide +kernel
theorem rt51 : mRt 51 = (some .boolean) := by decide +kernel
theorem ow52 : mOw 52 = 7 := by decide +kernel
theorem rt52 : mRt 52 = none := by decide +kernel
theorem ow53 : mOw 53 = 7 := by decide +kernel
theorem rt53 : mRt 53 = (some .boolean) := by decide +kernel
theorem ow54 : mOw 54 = 7 := by decide +kernel
theorem rt54 : mRt 54 = (some .int) := by decide +kernel
theorem ow55 : mOw 55 = 7 := by decide +kernel
theorem rt55 : mRt 55 = (some .int) := by decide +kernel
theorem ow56 : mOw 56 = 7 := by decide +kernel
theorem rt56 : mRt 56 = (some .int) := by decide +kernel
theorem ow57 : mOw 57 = 7 := by decide +kernel
theorem rt57 : mRt 57 = (some .int) := by decide +kernel
theorem ow59 : mOw 59 = 8 := by decide +kernel
theorem rt59 : mRt 59 = (some .boolean) := by decide +kernel
theorem ow60 : mOw 60 = 8 := by decide +kernel
theorem rt60 : mRt 60 = (some .boolean) := by decide +kernel
theorem ow61 : mOw 61 = 8 := by decide +kernel
theorem rt61 : mRt 61 = (some .int) := by decide +kernel
theorem ow62 : mOw 62 = 8 := by decide +kernel
theorem rt62 : mRt 62 = (some .int) := by decide +kernel
theorem ow63 : mOw 63 = 8 := by decide +kernel
theorem rt63 : mRt 63 = none := by decide +kernel
theorem ow64 : mOw 64 = 8 := by decide +kernel
theorem rt64 : mRt 64 = none := by decide +kernel
theorem ow65 : mOw 65 = 8 := by decide +kernel
theorem rt65 : mRt 65 = (some .int) := by decide +kernel
theorem ow66 : mOw 66 = 8 := by decide +kernel
theorem rt66 : mRt 66 = (some .int) := by decide +kernel
theorem ow67 : mOw 67 = 8 := by decide +kernel
theorem rt67 : mRt 67 = (some .int) := by decide +kernel
theorem ow68 : mOw 68 = 8 := by decide +kernel
theorem rt68 : mRt 68 = (some .int) := by decide +kernel
theorem ow69 : mOw 69 = 8 := by decide +kernel
theorem rt69 : mRt 69 = (some .int) := by decide +kernel
theorem ow70 : mOw 70 = 8 := by decide +kernel
theorem rt70 : mRt 70 = (some .boolean) := by decide +kernel
theorem ow71 : mOw 71 = 8 := by decide +kernel
theorem rt71 : mRt 71 = (some .int) := by decide +kernel
theorem ow72 : mOw 72 = 8 := by decide +kernel
theorem rt72 : mRt 72 = (some .int) := by decide +kernel
theorem ow73 : mOw 73 = 8 := by decide +kernel
theorem rt73 : mRt 73 = (some .long) := by decide +kernel
theorem ow74 : mOw 74 = 8 := by decide +kernel
theorem rt74 : mRt 74 = (some .int) := by decide +kernel
theorem ow75 : mOw 75 = 8 := by decide +kernel
theorem rt75 : mRt 75 = (some .int) := by decide +kernel
theorem ow76 : mOw 76 = 8 := by decide +kernel
theorem rt76 : mRt 76 = (some .int) := by decide +kernel
theorem ow78 : mOw 78 = 9 := by decide +kernel
theorem rt78 : mRt 78 = none := by decide +kernel
theorem ow79 : mOw 79 = 9 := by decide +kernel
theorem rt79 : mRt 79 = none := by decide +kernel
theorem ow80 : mOw 80 = 9 := by decide +kernel
theorem rt80 : mRt 80 = (some .long) := by decide +kernel
theorem ow81 : mOw 81 = 9 := by decide +kernel
theorem rt81 : mRt 81 = none := by decide +kernel
theorem ow82 : mOw 82 = 9 := by decide +kernel
theorem rt82 : mRt 82 = none := by decide +kernel
theorem ow83 : mOw 83 = 9 := by decide +kernel
theorem rt83 : mRt 83 = none := by decide +kernel
theorem ow84 : mOw 84 = 9 := by decide +kernel
theorem rt84 : mRt 84 = (some .int) := by decide +kernel
theorem ow85 : mOw 85 = 9 := by decide +kernel
theorem rt85 : mRt 85 = none := by decide +kernel
theorem ow87 : mOw 87 = 10 := by decide +kernel
theorem rt87 : mRt 87 = none := by decide +kernel
theorem ow88 : mOw 88 = 10 := by decide +kernel
theorem rt88 : mRt 88 = (some .int) := by decide +kernel
theorem ow89 : mOw 89 = 10 := by decide +kernel
theorem rt89 : mRt 89 = none := by decide +kernel
theorem ow90 : mOw 90 = 10 := by decide +kernel
theorem rt90 : mRt 90 = (some .int) := by decide +kernel
theorem ow91 : mOw 91 = 10 := by decide +kernel
theorem rt91 : mRt 91 = (some .int) := by decide +kernel
theorem ow92 : mOw 92 = 10 := by decide +kernel
theorem rt92 : mRt 92 = (some .int) := by decide +kernel
theorem ow93 : mOw 93 = 10 := by decide +kernel
theorem rt93 : mRt 93 = (some .int) := by decide +kernel
theorem ow94 : mOw 94 = 10 := by decide +kernel
theorem rt94 : mRt 94 = (some .int) := by decide +kernel
theorem ow95 : mOw 95 = 10 := by decide +kernel
theorem rt95 : mRt 95 = none := by decide +kernel
theorem ow96 : mOw 96 = 10 := by decide +kernel
theorem rt96 : mRt 96 = (some .boolean) := by decide +kernel
theorem ow97 : mOw 97 = 10 := by decide +kernel
theorem rt97 : mRt 97 = none := by decide +kernel
theorem ow98 : mOw 98 = 10 := by decide +kernel
theorem rt98 : mRt 98 = none := by decide +kernel
theorem ow99 : mOw 99 = 10 := by decide +kernel
theorem rt99 : mRt 99 = none := by decide +kernel
theorem ow100 : mOw 100 = 10 := by decide +kernel
theorem rt100 : mRt 100 = (some .boolean) := by decide +kernel
theorem ow101 : mOw 101 = 10 := by decide +kernel
theorem rt101 : mRt 101 = (some .int) := by decide +kernel
theorem ow102 : mOw 102 = 10 := by decide +kernel
theorem rt102 : mRt 102 = (some .int) := by decide +kernel
theorem ow103 : mOw 103 = 10 := by decide +kernel
theorem rt103 : mRt 103 = (some .int) := by decide +kernel
theorem ow104 : mOw 104 = 10 := by decide +kernel
theorem rt104 : mRt 104 = none := by decide +kernel
theorem ow105 : mOw 105 = 10 := by decide +kernel
theorem rt105 : isOb (mRt 105) = true := by decide +kernel
theorem ow106 : mOw 106 = 10 := by decide +kernel
theorem rt106 : mRt 106 = none := by decide +kernel
theorem ow107 : mOw 107 = 10 := by decide +kernel
theorem rt107 : mRt 107 = none := by decide +kernel
theorem ow108 : mOw 108 = 10 := by decide +kernel
theorem rt108 : mRt 108 = (some .int) := by decide +kernel
theorem ow109 : mOw 109 = 10 := by decide +kernel
theorem rt109 : mRt 109 = none := by decide +kernel
theorem ow110 : mOw 110 = 10 := by decide +kernel
theorem rt110 : mRt 110 = (some .int) := by decide +kernel
theorem ow111 : mOw 111 = 10 := by decide +kernel
theorem rt111 : mRt 111 = (some .boolean) := by decide +kernel
theorem ow112 : mOw 112 = 10 := by decide +kernel
theorem rt112 : mRt 112 = (some .int) := by decide +kernel
theorem ow113 : mOw 113 = 10 := by decide +kernel
theorem rt113 : mRt 113 = (some .boolean) := by decide +kernel
theorem ow114 : mOw 114 = 10 := by decide +kernel
theorem rt114 : mRt 114 = (some .int) := by decide +kernel
theorem ow115 : mOw 115 = 10 := by decide +kernel
theorem rt115 : mRt 115 = (some .int) := by decide +kernel
theorem ow116 : mOw 116 = 10 := by decide +kernel
theorem rt116 : mRt 116 = (some .int) := by decide +kernel
theorem ow118 : mOw 118 = 11 := by decide +kernel
theorem rt118 : mRt 118 = (some .int) := by decide +kernel
theorem ow119 : mOw 119 = 11 := by decide +kernel
theorem rt119 : mRt 119 = (some .int) := by decide +kernel
theorem ow120 : mOw 120 = 11 := by decide +kernel
theorem rt120 : mRt 120 = (some .int) := by decide +kernel
theorem ow121 : mOw 121 = 11 := by decide +kernel
theorem rt121 : mRt 121 = (some .int) := by decide +kernel
theorem ow122 : mOw 122 = 11 := by decide +kernel
theorem rt122 : mRt 122 = (some .int) := by decide +kernel
theorem ow123 : mOw 123 = 11 := by decide +kernel
theorem rt123 : mRt 123 = (some .int) := by decide +kernel
theorem ow124 : mOw 124 = 11 := by decide +kernel
theorem rt124 : mRt 124 = (some .int) := by decide +kernel
theorem ow125 : mOw 125 = 11 := by decide +kernel
theorem rt125 : mRt 125 = (some .int) := by decide +kernel
theorem ow126 : mOw 126 = 11 := by decide +kernel
theorem rt126 : mRt 126 = (some .int) := by decide +kernel
theorem ow127 : mOw 127 = 11 := by decide +kernel
theorem rt127 : mRt 127 = (some .int) := by decide +kernel
theorem ow128 : mOw 128 = 11 := by decide +kernel
theorem rt128 : mRt 128 = (some .int) := by decide +kernel
theorem ow129 : mOw 129 = 11 := by decide +kernel
theorem rt129 : mRt 129 = (some .int) := by decide +kernel
theorem ow130 : mOw 130 = 11 := by decide +kernel
theorem rt130 : mRt 130 = (some .long) := by decide +kernel
theorem ow131 : mOw 131 = 11 := by decide +kernel
theorem rt131 : mRt 131 = (some .int) := by decide +kernel
theorem ow132 : mOw 132 = 11 := by decide +kernel
theorem rt132 : mRt 132 = (some .int) := by decide +kernel
theorem ow133 : mOw 133 = 11 := by decide +kernel
theorem rt133 : mRt 133 = (some .int) := by decide +kernel
theorem ow134 : mOw 134 = 11 := by decide +kernel
theorem rt134 : mRt 134 = (some .int) := by decide +kernel
theorem ow135 : mOw 135 = 11 := by decide +kernel
theorem rt135 : mRt 135 = (some .int) := by decide +kernel
theorem ow136 : mOw 136 = 11 := by decide +kernel
theorem rt136 : mRt 136 = (some .int) := by decide +kernel
theorem ow137 : mOw 137 = 11 := by decide +kernel
theorem rt137 : mRt 137 = (some .int) := by decide +kernel
theorem ow138 : mOw 138 = 11 := by decide +kernel
theorem rt138 : mRt 138 = (some .int) := by decide +kernel
theorem ow139 : mOw 139 = 11 := by decide +kernel
theorem rt139 : mRt 139 = (some .int) := by decide +kernel
theorem ow140 : mOw 140 = 11 := by decide +kernel
theorem rt140 : mRt 140 = (some .int) := by decide +kernel
theorem ow141 : mOw 141 = 11 := by decide +kernel
theorem rt141 : mRt 141 = (some .int) := by decide +kernel
theorem ow142 : mOw 142 = 11 := by decide +kernel
theorem rt142 : mRt 142 = (some .int) := by decide +kernel
theorem ow143 : mOw 143 = 11 := by decide +kernel
theorem rt143 : mRt 143 = (some .int) := by decide +kernel
theorem ow144 : mOw 144 = 11 := by decide +kernel
theorem rt144 : mRt 144 = (some .int) := by decide +kernel
theorem ow145 : mOw 145 = 11 := by decide +kernel
theorem rt145 : mRt 145 = (some .int) := by decide +kernel
theorem ow146 : mOw 146 = 11 := by decide +kernel
theorem rt146 : mRt 146 = (some .int) := by decide +kernel
theorem ow147 : mOw 147 = 11 := by decide +kernel
theorem rt147 : mRt 147 = (some .int) := by decide +kernel
theorem ow148 : mOw 148 = 11 := by decide +kernel
theorem rt148 : mRt 148 = (some .int) := by decide +kernel
theorem ow149 : mOw 149 = 11 := by decide +kernel
theorem rt149 : mRt 149 = (some .int) := by decide +kernel
theorem ow150 : mOw 150 = 11 := by decide +kernel
theorem rt150 : mRt 150 = (some .int) := by decide +kernel
theorem ow151 : mOw 151 = 11 := by decide +kernel
theorem rt151 : mRt 151 = (some .int) := by decide +kernel
theorem ow152 : mOw 152 = 11 := by decide +kernel
theorem rt152 : mRt 152 = (some .int) := by decide +kernel
theorem ow153 : mOw 153 = 11 := by decide +kernel
theorem rt153 : mRt 153 = (some .int) := by decide +kernel
theorem ow154 : mOw 154 = 11 := by decide +kernel
theorem rt154 : mRt 154 = (some .int) := by decide +kernel
theorem ow155 : mOw 155 = 11 := by decide +kernel
theorem rt155 : mRt 155 = (some .long) := by decide +kernel
theorem ow156 : mOw 156 = 11 := by decide +kernel
theorem rt156 : mRt 156 = (some .int) := by decide +kernel
theorem ow157 : mOw 157 = 11 := by decide +kernel
theorem rt157 : mRt 157 = (some .int) := by decide +kernel
theorem ow158 : mOw 158 = 11 := by decide +kernel
theorem rt158 : mRt 158 = (some .int) := by decide +kernel
theorem ow159 : mOw 159 = 11 := by decide +kernel
theorem rt159 : mRt 159 = (some .int) := by decide +kernel
theorem ow160 : mOw 160 = 11 := by decide +kernel
theorem rt160 : mRt 160 = (some .int) := by decide +kernel
theorem ow161 : mOw 161 = 11 := by decide +kernel
theorem rt161 : mRt 161 = (some .int) := by decide +kernel
theorem ow162 : mOw 162 = 11 := by decide +kernel
theorem rt162 : mRt 162 = (some .int) := by decide +kernel
theorem ow163 : mOw 163 = 11 := by decide +kernel
theorem rt163 : mRt 163 = (some .int) := by decide +kernel
theorem ow164 : mOw 164 = 11 := by decide +kernel
theorem rt164 : mRt 164 = (some .int) := by decide +kernel
theorem ow165 : mOw 165 = 11 := by decide +kernel
theorem rt165 : mRt 165 = (some .int) := by decide +kernel
theorem ow166 : mOw 166 = 11 := by decide +kernel
theorem rt166 : mRt 166 = (some .boolean) := by decide +kernel
theorem ow167 : mOw 167 = 11 := by decide +kernel
theorem rt167 : mRt 167 = (some .boolean) := by decide +kernel
theorem ow168 : mOw 168 = 11 := by decide +kernel
theorem rt168 : mRt 168 = (some .boolean) := by decide +kernel
theorem ow169 : mOw 169 = 11 := by decide +kernel
theorem rt169 : mRt 169 = (some .boolean) := by decide +kernel
theorem ow170 : mOw 170 = 11 := by decide +kernel
theorem rt170 : mRt 170 = (some .long) := by decide +kernel
theorem ow171 : mOw 171 = 11 := by decide +kernel
theorem rt171 : mRt 171 = (some .long) := by decide +kernel
theorem ow172 : mOw 172 = 11 := by decide +kernel
theorem rt172 : mRt 172 = (some .long) := by decide +kernel
theorem ow173 : mOw 173 = 11 := by decide +kernel
theorem rt173 : mRt 173 = (some .int) := by decide +kernel
theorem ow174 : mOw 174 = 11 := by decide +kernel
theorem rt174 : mRt 174 = (some .int) := by decide +kernel
theorem ow177 : mOw 177 = 12 := by decide +kernel
theorem rt177 : mRt 177 = (some .int) := by decide +kernel
theorem ow178 : mOw 178 = 12 := by decide +kernel
theorem rt178 : mRt 178 = (some .int) := by decide +kernel
theorem ow179 : mOw 179 = 12 := by decide +kernel
theorem rt179 : mRt 179 = (some .int) := by decide +kernel
theorem ow180 : mOw 180 = 12 := by decide +kernel
theorem rt180 : mRt 180 = (some .long) := by decide +kernel
theorem ow181 : mOw 181 = 12 := by decide +kernel
theorem rt181 : mRt 181 = (some .boolean) := by decide +kernel
theorem ow182 : mOw 182 = 12 := by decide +kernel
theorem rt182 : mRt 182 = (some .int) := by decide +kernel
theorem ow183 : mOw 183 = 12 := by decide +kernel
theorem rt183 : mRt 183 = (some .int) := by decide +kernel
theorem ow184 : mOw 184 = 12 := by decide +kernel
theorem rt184 : mRt 184 = (some .long) := by decide +kernel
theorem ow185 : mOw 185 = 12 := by decide +kernel
theorem rt185 : mRt 185 = (some .int) := by decide +kernel
theorem ow186 : mOw 186 = 12 := by decide +kernel
theorem rt186 : mRt 186 = none := by decide +kernel
theorem ow187 : mOw 187 = 12 := by decide +kernel
theorem rt187 : mRt 187 = none := by decide +kernel
theorem ow188 : mOw 188 = 12 := by decide +kernel
theorem rt188 : mRt 188 = (some .long) := by decide +kernel
theorem ow189 : mOw 189 = 12 := by decide +kernel
theorem rt189 : mRt 189 = (some .long) := by decide +kernel
theorem ow190 : mOw 190 = 12 := by decide +kernel
theorem rt190 : mRt 190 = (some .boolean) := by decide +kernel
theorem ow191 : mOw 191 = 12 := by decide +kernel
theorem rt191 : mRt 191 = (some .int) := by decide +kernel
theorem ow192 : mOw 192 = 12 := by decide +kernel
theorem rt192 : mRt 192 = (some .long) := by decide +kernel
theorem ow193 : mOw 193 = 12 := by decide +kernel
theorem rt193 : mRt 193 = (some .long) := by decide +kernel
theorem ow194 : mOw 194 = 12 := by decide +kernel
theorem rt194 : mRt 194 = (some .int) := by decide +kernel
theorem ow195 : mOw 195 = 12 := by decide +kernel
theorem rt195 : mRt 195 = (some .boolean) := by decide +kernel
theorem ow196 : mOw 196 = 12 := by decide +kernel
theorem rt196 : mRt 196 = (some .int) := by decide +kernel
theorem ow197 : mOw 197 = 12 := by decide +kernel
theorem rt197 : mRt 197 = (some .int) := by decide +kernel
theorem ow198 : mOw 198 = 12 := by decide +kernel
theorem rt198 : mRt 198 = (some .int) := by decide +kernel
theorem ow199 : mOw 199 = 12 := by decide +kernel
theorem rt199 : mRt 199 = (some .boolean) := by decide +kernel
theorem ow200 : mOw 200 = 12 := by decide +kernel
theorem rt200 : mRt 200 = (some .boolean) := by decide +kernel
theorem ow201 : mOw 201 = 12 := by decide +kernel
theorem rt201 : mRt 201 = (some .boolean) := by decide +kernel
theorem ow202 : mOw 202 = 12 := by decide +kernel
theorem rt202 : mRt 202 = (some .int) := by decide +kernel
theorem ow203 : mOw 203 = 12 := by decide +kernel
theorem rt203 : mRt 203 = (some .int) := by decide +kernel
theorem ow204 : mOw 204 = 12 := by decide +kernel
theorem rt204 : mRt 204 = (some .int) := by decide +kernel
theorem ow205 : mOw 205 = 12 := by decide +kernel
theorem rt205 : mRt 205 = (some .int) := by decide +kernel
theorem ow206 : mOw 206 = 12 := by decide +kernel
theorem rt206 : mRt 206 = (some .int) := by decide +kernel
theorem ow207 : mOw 207 = 12 := by decide +kernel
theorem rt207 : mRt 207 = (some .int) := by decide +kernel
theorem ow208 : mOw 208 = 12 := by decide +kernel
theorem rt208 : mRt 208 = none := by decide +kernel
theorem ow209 : mOw 209 = 12 := by decide +kernel
theorem rt209 : mRt 209 = (some .int) := by decide +kernel
theorem ow210 : mOw 210 = 12 := by decide +kernel
theorem rt210 : mRt 210 = none := by decide +kernel
theorem ow211 : mOw 211 = 12 := by decide +kernel
theorem rt211 : mRt 211 = (some .int) := by decide +kernel
theorem ow212 : mOw 212 = 12 := by decide +kernel
theorem rt212 : mRt 212 = (some .int) := by decide +kernel
theorem ow213 : mOw 213 = 12 := by decide +kernel
theorem rt213 : mRt 213 = (some .int) := by decide +kernel
theorem ow214 : mOw 214 = 12 := by decide +kernel
theorem rt214 : mRt 214 = none := by decide +kernel
theorem ow215 : mOw 215 = 12 := by decide +kernel
theorem rt215 : mRt 215 = none := by decide +kernel
theorem ow216 : mOw 216 = 12 := by decide +kernel
theorem rt216 : mRt 216 = none := by decide +kernel
theorem ow217 : mOw 217 = 12 := by decide +kernel
theorem rt217 : mRt 217 = (some .boolean) := by decide +kernel
theorem ow218 : mOw 218 = 12 := by decide +kernel
theorem rt218 : mRt 218 = none := by decide +kernel
theorem ow219 : mOw 219 = 12 := by decide +kernel
theorem rt219 : mRt 219 = none := by decide +kernel
theorem ow220 : mOw 220 = 12 := by decide +kernel
theorem rt220 : mRt 220 = none := by decide +kernel
theorem ow221 : mOw 221 = 12 := by decide +kernel
theorem rt221 : mRt 221 = none := by decide +kernel
theorem ow222 : mOw 222 = 12 := by decide +kernel
theorem rt222 : mRt 222 = none := by decide +kernel
theorem ow223 : mOw 223 = 12 := by decide +kernel
theorem rt223 : mRt 223 = (some .int) := by decide +kernel
theorem ow224 : mOw 224 = 12 := by decide +kernel
theorem rt224 : mRt 224 = (some .int) := by decide +kernel
theorem ow225 : mOw 225 = 12 := by decide +kernel
theorem rt225 : mRt 225 = (some .int) := by decide +kernel
theorem ow226 : mOw 226 = 12 := by decide +kernel
theorem rt226 : mRt 226 = (some .int) := by decide +kernel
theorem ow227 : mOw 227 = 12 := by decide +kernel
theorem rt227 : mRt 227 = (some .long) := by decide +kernel
theorem ow228 : mOw 228 = 12 := by decide +kernel
theorem rt228 : mRt 228 = (some .int) := by decide +kernel
theorem ow229 : mOw 229 = 12 := by decide +kernel
theorem rt229 : mRt 229 = (some .long) := by decide +kernel
theorem ow230 : mOw 230 = 12 := by decide +kernel
theorem rt230 : mRt 230 = (some .long) := by decide +kernel
theorem ow231 : mOw 231 = 12 := by decide +kernel
theorem rt231 : mRt 231 = (some .int) := by decide +kernel
theorem ow232 : mOw 232 = 12 := by decide +kernel
theorem rt232 : mRt 232 = (some .boolean) := by decide +kernel
theorem ow233 : mOw 233 = 12 := by decide +kernel
theorem rt233 : mRt 233 = (some .int) := by decide +kernel
theorem ow234 : mOw 234 = 12 := by decide +kernel
theorem rt234 : mRt 234 = (some .int) := by decide +kernel
theorem ow235 : mOw 235 = 12 := by decide +kernel
theorem rt235 : mRt 235 = (some .boolean) := by decide +kernel
theorem ow236 : mOw 236 = 12 := by decide +kernel
theorem rt236 : mRt 236 = (some .boolean) := by decide +kernel
theorem ow237 : mOw 237 = 12 := by decide +kernel
theorem rt237 : mRt 237 = (some .int) := by decide +kernel
theorem ow238 : mOw 238 = 12 := by decide +kernel
theorem rt238 : mRt 238 = (some .int) := by decide +kernel
theorem ow239 : mOw 239 = 12 := by decide +kernel
theorem rt239 : mRt 239 = (some .int) := by decide +kernel
theorem ow240 : mOw 240 = 12 := by decide +kernel
theorem rt240 : mRt 240 = (some .int) := by decide +kernel
theorem ow241 : mOw 241 = 12 := by decide +kernel
theorem rt241 : mRt 241 = (some .int) := by decide +kernel
theorem ow242 : mOw 242 = 12 := by decide +kernel
theorem rt242 : mRt 242 = (some .int) := by decide +kernel
theorem ow243 : mOw 243 = 12 := by decide +kernel
theorem rt243 : mRt 243 = (some .int) := by decide +kernel
theorem ow244 : mOw 244 = 12 := by decide +kernel
theorem rt244 : mRt 244 = (some .long) := by decide +kernel
theorem ow245 : mOw 245 = 12 := by decide +kernel
theorem rt245 : mRt 245 = (some .int) := by decide +kernel
theorem ow246 : mOw 246 = 12 := by decide +kernel
theorem rt246 : mRt 246 = (some .int) := by decide +kernel
theorem ow247 : mOw 247 = 12 := by decide +kernel
theorem rt247 : mRt 247 = (some .int) := by decide +kernel
theorem ow248 : mOw 248 = 12 := by decide +kernel
theorem rt248 : mRt 248 = (some .int) := by decide +kernel
theorem ow249 : mOw 249 = 12 := by decide +kernel
theorem rt249 : mRt 249 = (some .int) := by decide +kernel
theorem ow250 : mOw 250 = 12 := by decide +kernel
theorem rt250 : mRt 250 = (some .int) := by decide +kernel
theorem ow251 : mOw 251 = 12 := by decide +kernel
theorem rt251 : mRt 251 = (some .int) := by decide +kernel
theorem ow252 : mOw 252 = 12 := by decide +kernel
theorem rt252 : mRt 252 = (some .int) := by decide +kernel
theorem ow253 : mOw 253 = 12 := by decide +kernel
theorem rt253 : mRt 253 = (some .int) := by decide +kernel
theorem ow254 : mOw 254 = 12 := by decide +kernel
theorem rt254 : mRt 254 = (some .boolean) := by decide +kernel
theorem ow255 : mOw 255 = 12 := by decide +kernel
theorem rt255 : mRt 255 = (some .int) := by decide +kernel
theorem ow256 : mOw 256 = 12 := by decide +kernel
theorem rt256 : mRt 256 = (some .int) := by decide +kernel
theorem ow257 : mOw 257 = 12 := by decide +kernel
theorem rt257 : mRt 257 = (some .int) := by decide +kernel
theorem ow258 : mOw 258 = 12 := by decide +kernel
theorem rt258 : mRt 258 = (some .int) := by decide +kernel
theorem ow259 : mOw 259 = 12 := by decide +kernel
theorem rt259 : mRt 259 = (some .int) := by decide +kernel
theorem ow260 : mOw 260 = 12 := by decide +kernel
theorem rt260 : mRt 260 = (some .int) := by decide +kernel
theorem ow261 : mOw 261 = 12 := by decide +kernel
theorem rt261 : mRt 261 = (some .boolean) := by decide +kernel
theorem ow262 : mOw 262 = 12 := by decide +kernel
theorem rt262 : mRt 262 = none := by decide +kernel
theorem ow263 : mOw 263 = 12 := by decide +kernel
theorem rt263 : mRt 263 = (some .boolean) := by decide +kernel
theorem ow264 : mOw 264 = 12 := by decide +kernel
theorem rt264 : mRt 264 = (some .int) := by decide +kernel
theorem ow265 : mOw 265 = 12 := by decide +kernel
theorem rt265 : mRt 265 = (some .int) := by decide +kernel
theorem ow266 : mOw 266 = 12 := by decide +kernel
theorem rt266 : mRt 266 = (some .int) := by decide +kernel
theorem ow267 : mOw 267 = 12 := by decide +kernel
theorem rt267 : mRt 267 = (some .long) := by decide +kernel
theorem ow268 : mOw 268 = 12 := by decide +kernel
theorem rt268 : mRt 268 = (some .int) := by decide +kernel
theorem ow269 : mOw 269 = 12 := by decide +kernel
theorem rt269 : mRt 269 = (some .int) := by decide +kernel
theorem ow270 : mOw 270 = 12 := by decide +kernel
theorem rt270 : mRt 270 = (some .int) := by decide +kernel
theorem ow271 : mOw 271 = 12 := by decide +kernel
theorem rt271 : mRt 271 = (some .int) := by decide +kernel
theorem ow272 : mOw 272 = 12 := by decide +kernel
theorem rt272 : mRt 272 = none := by decide +kernel
theorem ow273 : mOw 273 = 12 := by decide +kernel
theorem rt273 : mRt 273 = (some .int) := by decide +kernel
theorem ow274 : mOw 274 = 12 := by decide +kernel
theorem rt274 : mRt 274 = (some .long) := by decide +kernel
theorem ow275 : mOw 275 = 12 := by decide +kernel
theorem rt275 : mRt 275 = (some .int) := by decide +kernel
theorem ow276 : mOw 276 = 12 := by decide +kernel
theorem rt276 : mRt 276 = (some .int) := by decide +kernel
theorem ow277 : mOw 277 = 12 := by decide +kernel
theorem rt277 : mRt 277 = (some .int) := by decide +kernel
theorem ow278 : mOw 278 = 12 := by decide +kernel
theorem rt278 : mRt 278 = (some .int) := by decide +kernel
theorem ow279 : mOw 279 = 12 := by decide +kernel
theorem rt279 : mRt 279 = (some .long) := by decide +kernel
theorem ow280 : mOw 280 = 12 := by decide +kernel
theorem rt280 : mRt 280 = (some .boolean) := by decide +kernel
theorem ow281 : mOw 281 = 12 := by decide +kernel
theorem rt281 : mRt 281 = (some .int) := by decide +kernel
theorem ow282 : mOw 282 = 12 := by decide +kernel
theorem rt282 : mRt 282 = (some .int) := by decide +kernel
theorem ow283 : mOw 283 = 12 := by decide +kernel
theorem rt283 : mRt 283 = none := by decide +kernel
theorem ow284 : mOw 284 = 12 := by decide +kernel
theorem rt284 : mRt 284 = none := by decide +kernel
theorem ow285 : mOw 285 = 12 := by decide +kernel
theorem rt285 : mRt 285 = (some .boolean) := by decide +kernel
theorem ow286 : mOw 286 = 12 := by decide +kernel
theorem rt286 : mRt 286 = (some .long) := by decide +kernel
theorem ow287 : mOw 287 = 12 := by decide +kernel
theorem rt287 : mRt 287 = (some .boolean) := by decide +kernel
theorem ow288 : mOw 288 = 12 := by decide +kernel
theorem rt288 : mRt 288 = (some .int) := by decide +kernel
theorem ow289 : mOw 289 = 12 := by decide +kernel
theorem rt289 : mRt 289 = (some .int) := by decide +kernel
theorem ow290 : mOw 290 = 12 := by decide +kernel
theorem rt290 : mRt 290 = (some .int) := by decide +kernel
theorem ow291 : mOw 291 = 12 := by decide +kernel
theorem rt291 : mRt 291 = (some .int) := by decide +kernel
theorem ow292 : mOw 292 = 12 := by decide +kernel
theorem rt292 : mRt 292 = none := by decide +kernel
theorem ow293 : mOw 293 = 12 := by decide +kernel
theorem rt293 : mRt 293 = (some .int) := by decide +kernel
theorem ow294 : mOw 294 = 12 := by decide +kernel
theorem rt294 : mRt 294 = (some .int) := by decide +kernel
theorem ow295 : mOw 295 = 12 := by decide +kernel
theorem rt295 : mRt 295 = (some .int) := by decide +kernel
theorem ow296 : mOw 296 = 12 := by decide +kernel
theorem rt296 : mRt 296 = (some .boolean) := by decide +kernel
theorem ow297 : mOw 297 = 12 := by decide +kernel
theorem rt297 : mRt 297 = (some .int) := by decide +kernel
theorem ow298 : mOw 298 = 12 := by decide +kernel
theorem rt298 : mRt 298 = (some .int) := by decide +kernel
theorem ow299 : mOw 299 = 12 := by decide +kernel
theorem rt299 : mRt 299 = (some .int) := by decide +kernel
theorem ow300 : mOw 300 = 12 := by decide +kernel
theorem rt300 : mRt 300 = (some .int) := by decide +kernel
theorem ow301 : mOw 301 = 12 := by decide +kernel
theorem rt301 : mRt 301 = (some .int) := by decide +kernel
theorem ow302 : mOw 302 = 12 := by decide +kernel
theorem rt302 : mRt 302 = (some .int) := by decide +kernel
theorem ow303 : mOw 303 = 12 := by decide +kernel
theorem rt303 : mRt 303 = (some .int) := by decide +kernel
theorem ow304 : mOw 304 = 12 := by decide +kernel
theorem rt304 : mRt 304 = none := by decide +kernel
theorem ow305 : mOw 305 = 12 := by decide +kernel
theorem rt305 : mRt 305 = (some .int) := by decide +kernel
theorem ow306 : mOw 306 = 12 := by decide +kernel
theorem rt306 : mRt 306 = (some .int) := by decide +kernel
theorem ow307 : mOw 307 = 12 := by decide +kernel
theorem rt307 : mRt 307 = (some .int) := by decide +kernel
theorem ow308 : mOw 308 = 15 := by decide +kernel
theorem rt308 : mRt 308 = (some .int) := by decide +kernel
theorem ow309 : mOw 309 = 13 := by decide +kernel
theorem rt309 : mRt 309 = some .boolean := by decide +kernel
theorem w0_9 : fld 0 9 = some (0, 0) ∧ ftc 0 0 = 1 ∧ (fQ 0 0).2.2 = false := by decide +kernel
theorem w0_15 : fld 0 15 = some (0, 1) ∧ ftc 0 1 = 1 ∧ (fQ 0 1).2.2 = false := by decide +kernel
theorem w0_18 : fld 0 18 = some (0, 2) ∧ ftc 0 2 = 1 ∧ (fQ 0 2).2.2 = false := by decide +kernel
theorem q0_9 : fld 0 9 = some (0, 0) ∧ ftc 0 0 = 1 := by decide +kernel
theorem q0_15 : fld 0 15 = some (0, 1) ∧ ftc 0 1 = 1 := by decide +kernel
theorem q0_18 : fld 0 18 = some (0, 2) ∧ ftc 0 2 = 1 := by decide +kernel
theorem c0_21 : cal 0 21 = some 1 := by decide +kernel
theorem mf1 : mKd 1 = 0 ∧ mNp 1 = 3 ∧ mMx 1 = 7 ∧ mOw 1 = 0 := by decide +kernel
theorem ci1 : Int32.ofInt 1 = 1 := by decide +kernel
theorem nd3_25 : nds 3 25 = [] := by decide +kernel
theorem cl0 : Int64.ofNat ((0 : Fin 2) : Nat) = 0 := by decide +kernel
theorem nd6_32 : nds 6 32 = [] := by decide +kernel
theorem ci0 : Int32.ofInt 0 = 0 := by decide +kernel
theorem kk0_25 : kL 0 25 = some 1000 := by decide +kernel
theorem nd8_50 : nds 8 50 = [] := by decide +kernel
theorem w1_20 : fld 1 20 = some (1, 3) ∧ ftc 1 3 = 0 ∧ (fQ 1 3).2.2 = false := by decide +kernel
theorem w1_23 : fld 1 23 = some (1, 4) ∧ ftc 1 4 = 0 ∧ (fQ 1 4).2.2 = false := by decide +kernel
theorem c1_26 : cal 1 26 = some 173 := by decide +kernel
theorem pn1_26 : prm 1 26 = none := by decide +kernel
theorem mf173 : mKd 173 = 1 ∧ mNp 173 = 2 ∧ mMx 173 = 2 := by decide +kernel
theorem w1_32 : fld 1 32 = some (1, 6) ∧ ftc 1 6 = 0 ∧ (fQ 1 6).2.2 = false := by decide +kernel
theorem q1_32 : fld 1 32 = some (1, 6) ∧ (ftc 1 6 = 0 ∨ ftc 1 6 = 3) := by decide +kernel
theorem c1_35 : cal 1 35 = some 174 := by decide +kernel
theorem pn1_35 : prm 1 35 = none := by decide +kernel
theorem mf174 : mKd 174 = 1 ∧ mNp 174 = 2 ∧ mMx 174 = 2 := by decide +kernel
theorem w1_38 : fld 1 38 = some (1, 7) ∧ ftc 1 7 = 0 ∧ (fQ 1 7).2.2 = false := by decide +kernel
theorem q1_41 : fld 1 41 = some (1, 2) ∧ (ftc 1 2 = 0 ∨ ftc 1 2 = 3) := by decide +kernel
theorem q1_20 : fld 1 20 = some (1, 3) ∧ (ftc 1 3 = 0 ∨ ftc 1 3 = 3) := by decide +kernel
theorem q1_23 : fld 1 23 = some (1, 4) ∧ (ftc 1 4 = 0 ∨ ftc 1 4 = 3) := by decide +kernel
theorem q1_44 : fld 1 44 = some (1, 5) ∧ (ftc 1 5 = 0 ∨ ftc 1 5 = 3) := by decide +kernel
theorem q1_16 : fld 1 16 = some (1, 1) ∧ ftc 1 1 = 2 := by decide +kernel
theorem ci4 : Int32.ofInt 4 = 4 := by decide +kernel
theorem c1_50 : cal 1 50 = some 3 := by decide +kernel
theorem mf3 : mKd 3 = 0 ∧ mNp 3 = 1 ∧ mMx 3 = 2 ∧ mOw 3 = 0 := by decide +kernel
theorem q1_47 : fld 1 47 = some (1, 8) ∧ (ftc 1 8 = 0 ∨ ftc 1 8 = 3) := by decide +kernel
theorem swd_8 {a : Int32} (h0 : ¬ a = 0) (h1 : ¬ a = 1) (h2 : ¬ a = 2) (h3 : ¬ a = 3) (h4 : ¬ a = 4) (h5 : ¬ a = 5) (h6 : ¬ a = 6) (h7 : ¬ a = 7) : a.toInt < 0 ∨ 7 < a.toInt := by
  have g0 : a.toInt ≠ 0 := fun q => h0 (Int32.toInt_inj.mp q)
  have g1 : a.toInt ≠ 1 := fun q => h1 (Int32.toInt_inj.mp q)
  have g2 : a.toInt ≠ 2 := fun q => h2 (Int32.toInt_inj.mp q)
  have g3 : a.toInt ≠ 3 := fun q => h3 (Int32.toInt_inj.mp q)
  have g4 : a.toInt ≠ 4 := fun q => h4 (Int32.toInt_inj.mp q)
  have g5 : a.toInt ≠ 5 := fun q => h5 (Int32.toInt_inj.mp q)
  have g6 : a.toInt ≠ 6 := fun q => h6 (Int32.toInt_inj.mp q)
  have g7 : a.toInt ≠ 7 := fun q => h7 (Int32.toInt_inj.mp q)
  omega
theorem w2_26 : fld 2 26 = some (2, 3) ∧ ftc 2 3 = 0 ∧ (fQ 2 3).2.2 = false := by decide +kernel
theorem w2_30 : fld 2 30 = some (2, 4) ∧ ftc 2 4 = 0 ∧ (fQ 2 4).2.2 = false := by decide +kernel
theorem w2_33 : fld 2 33 = some (2, 5) ∧ ftc 2 5 = 3 ∧ (fQ 2 5).2.2 = false := by decide +kernel
theorem q2_26 : fld 2 26 = some (2, 3) ∧ (ftc 2 3 = 0 ∨ ftc 2 3 = 3) := by decide +kernel
theorem q2_10 : fld 2 10 = some (2, 0) ∧ ftc 2 0 = 2 := by decide +kernel
theorem q2_37 : fld 2 37 = some (3, 1) ∧ ftc 3 1 = 1 := by decide +kernel
theorem q2_41 : fld 2 41 = some (2, 7) ∧ (ftc 2 7 = 0 ∨ ftc 2 7 = 3) := by decide +kernel
theorem q2_44 : fld 2 44 = some (2, 8) ∧ (ftc 2 8 = 0 ∨ ftc 2 8 = 3) := by decide +kernel
theorem q2_23 : fld 2 23 = some (2, 2) ∧ ftc 2 2 = 2 := by decide +kernel
theorem c2_64 : cal 2 64 = some 3 := by decide +kernel
theorem c2_47 : cal 2 47 = some 18 := by decide +kernel
theorem mf18 : mKd 18 = 0 ∧ mNp 18 = 0 ∧ mMx 18 = 1 ∧ mOw 18 = 3 := by decide +kernel
theorem c2_51 : cal 2 51 = some 19 := by decide +kernel
theorem mf19 : mKd 19 = 0 ∧ mNp 19 = 0 ∧ mMx 19 = 3 ∧ mOw 19 = 3 := by decide +kernel
theorem q2_55 : fld 2 55 = some (2, 9) ∧ (ftc 2 9 = 0 ∨ ftc 2 9 = 3) := by decide +kernel
theorem q2_58 : fld 2 58 = some (2, 10) ∧ (ftc 2 10 = 0 ∨ ftc 2 10 = 3) := by decide +kernel
theorem q2_61 : fld 2 61 = some (2, 6) ∧ (ftc 2 6 = 0 ∨ ftc 2 6 = 3) := by decide +kernel
theorem swd_12 {a : Int32} (h0 : ¬ a = 0) (h1 : ¬ a = 1) (h2 : ¬ a = 2) (h3 : ¬ a = 3) (h4 : ¬ a = 4) (h5 : ¬ a = 5) (h6 : ¬ a = 6) (h7 : ¬ a = 7) (h8 : ¬ a = 8) (h9 : ¬ a = 9) (h10 : ¬ a = 10) (h11 : ¬ a = 11) : a.toInt < 0 ∨ 11 < a.toInt := by
  have g0 : a.toInt ≠ 0 := fun q => h0 (Int32.toInt_inj.mp q)
  have g1 : a.toInt ≠ 1 := fun q => h1 (Int32.toInt_inj.mp q)
  have g2 : a.toInt ≠ 2 := fun q => h2 (Int32.toInt_inj.mp q)
  have g3 : a.toInt ≠ 3 := fun q => h3 (Int32.toInt_inj.mp q)
  have g4 : a.toInt ≠ 4 := fun q => h4 (Int32.toInt_inj.mp q)
  have g5 : a.toInt ≠ 5 := fun q => h5 (Int32.toInt_inj.mp q)
  have g6 : a.toInt ≠ 6 := fun q => h6 (Int32.toInt_inj.mp q)
  have g7 : a.toInt ≠ 7 := fun q => h7 (Int32.toInt_inj.mp q)
  have g8 : a.toInt ≠ 8 := fun q => h8 (Int32.toInt_inj.mp q)
  have g9 : a.toInt ≠ 9 := fun q => h9 (Int32.toInt_inj.mp q)
  have g10 : a.toInt ≠ 10 := fun q => h10 (Int32.toInt_inj.mp q)
  have g11 : a.toInt ≠ 11 := fun q => h11 (Int32.toInt_inj.mp q)
  omega
theorem q3_12 : fld 3 12 = some (3, 0) ∧ ftc 3 0 = 2 := by decide +kernel
theorem c3_18 : cal 3 18 = some 1 := by decide +kernel
theorem w3_22 : fld 3 22 = some (3, 1) ∧ ftc 3 1 = 1 ∧ (fQ 3 1).2.2 = false := by decide +kernel
theorem c3_26 : cal 3 26 = some 4 := by decide +kernel
theorem mf4 : mKd 4 = 0 ∧ mNp 4 = 1 ∧ mMx 4 = 2 ∧ mOw 4 = 0 := by decide +kernel
theorem nd17_18 : nds 17 18 = [] := by decide +kernel
theorem q3_30 : fld 3 30 = some (0, 0) ∧ ftc 0 0 = 1 := by decide +kernel
theorem q3_33 : fld 3 33 = some (0, 1) ∧ ftc 0 1 = 1 := by decide +kernel
theorem q3_36 : fld 3 36 = some (0, 2) ∧ ftc 0 2 = 1 := by decide +kernel
theorem q3_22 : fld 3 22 = some (3, 1) ∧ ftc 3 1 = 1 := by decide +kernel
theorem c3_39 : cal 3 39 = some 5 := by decide +kernel
theorem mf5 : mKd 5 = 0 ∧ mNp 5 = 0 ∧ mMx 5 = 1 ∧ mOw 5 = 0 := by decide +kernel
theorem c3_43 : cal 3 43 = some 171 := by decide +kernel
theorem pn3_43 : prm 3 43 = none := by decide +kernel
theorem mf171 : mKd 171 = 1 ∧ mNp 171 = 1 ∧ mMx 171 = 8 := by decide +kernel
theorem kk3_47 : kL 3 47 = some 1000 := by decide +kernel
theorem c3_49 : cal 3 49 = some 18 := by decide +kernel
theorem k3_52 : kI 3 52 = some 1000000 := by decide +kernel
theorem kk3_53 : kL 3 53 = some 1000000 := by decide +kernel
theorem kk3_55 : kL 3 55 = some 100 := by decide +kernel
theorem c3_57 : cal 3 57 = some 170 := by decide +kernel
theorem pn3_57 : prm 3 57 = none := by decide +kernel
theorem mf170 : mKd 170 = 1 ∧ mNp 170 = 2 ∧ mMx 170 = 4 := by decide +kernel
theorem p3_61 : prm 3 61 = some 3 := by decide +kernel
theorem c3_66 : cal 3 66 = some 8 := by decide +kernel
theorem mf8 : mKd 8 = 0 ∧ mNp 8 = 0 ∧ mMx 8 = 2 ∧ mOw 8 = 0 := by decide +kernel
theorem q4_19 : fld 4 19 = some (4, 2) ∧ ftc 4 2 = 2 := by decide +kernel
theorem c4_46 : cal 4 46 = some 27 := by decide +kernel
theorem mf27 : mKd 27 = 0 ∧ mNp 27 = 1 ∧ mMx 27 = 2 ∧ mOw 27 = 5 := by decide +kernel
theorem c4_52 : cal 4 52 = some 26 := by decide +kernel
theorem mf26 : mKd 26 = 0 ∧ mNp 26 = 1 ∧ mMx 26 = 2 ∧ mOw 26 = 5 := by decide +kernel
theorem kk4_55 : kL 4 55 = some 1000 := by decide +kernel
theorem q4_26 : fld 4 26 = some (4, 3) ∧ ftc 4 3 = 2 := by decide +kernel
theorem c4_57 : cal 4 57 = some 4 := by decide +kernel
theorem q4_30 : fld 4 30 = some (4, 4) ∧ ftc 4 4 = 2 := by decide +kernel
theorem c4_61 : cal 4 61 = some 7 := by decide +kernel
theorem mf7 : mKd 7 = 0 ∧ mNp 7 = 2 ∧ mMx 7 = 3 ∧ mOw 7 = 0 := by decide +kernel
theorem q4_65 : fld 4 65 = some (0, 0) ∧ ftc 0 0 = 1 := by decide +kernel
theorem q4_69 : fld 4 69 = some (0, 1) ∧ ftc 0 1 = 1 := by decide +kernel
theorem q4_72 : fld 4 72 = some (0, 2) ∧ ftc 0 2 = 1 := by decide +kernel
theorem c4_75 : cal 4 75 = some 1 := by decide +kernel
theorem q4_15 : fld 4 15 = some (4, 1) ∧ ftc 4 1 = 2 := by decide +kernel
theorem q4_79 : fld 4 79 = some (10, 4) ∧ ftc 10 4 = 2 := by decide +kernel
theorem q4_36 : fld 4 36 = some (4, 6) ∧ ftc 4 6 = 2 := by decide +kernel
theorem c4_85 : cal 4 85 = some 22 := by decide +kernel
theorem mf22 : mKd 22 = 0 ∧ mNp 22 = 3 ∧ mMx 22 = 12 ∧ mOw 22 = 4 := by decide +kernel
theorem q4_42 : fld 4 42 = some (4, 7) ∧ ftc 4 7 = 2 := by decide +kernel
theorem c4_89 : cal 4 89 = some 16 := by decide +kernel
theorem mf16 : mKd 16 = 0 ∧ mNp 16 = 0 ∧ mMx 16 = 1 ∧ mOw 16 = 3 := by decide +kernel
theorem q4_9 : fld 4 9 = some (4, 0) ∧ ftc 4 0 = 2 := by decide +kernel
theorem q4_92 : fld 4 92 = some (8, 8) ∧ (ftc 8 8 = 0 ∨ ftc 8 8 = 3) := by decide +kernel
theorem q4_98 : fld 4 98 = some (10, 2) ∧ ftc 10 2 = 2 := by decide +kernel
theorem nd23_55 : nds 23 55 = [6] := by decide +kernel
theorem c4_118 : cal 4 118 = some 19 := by decide +kernel
theorem q4_102 : fld 4 102 = some (8, 5) ∧ ftc 8 5 = 2 := by decide +kernel
theorem q4_106 : fld 4 106 = some (1, 1) ∧ ftc 1 1 = 2 := by decide +kernel
theorem nd23_119 : nds 23 119 = [] := by decide +kernel
theorem q4_33 : fld 4 33 = some (4, 5) ∧ ftc 4 5 = 2 := by decide +kernel
theorem q4_111 : fld 4 111 = some (1, 8) ∧ (ftc 1 8 = 0 ∨ ftc 1 8 = 3) := by decide +kernel
theorem c4_114 : cal 4 114 = some 17 := by decide +kernel
theorem mf17 : mKd 17 = 0 ∧ mNp 17 = 3 ∧ mMx 17 = 6 ∧ mOw 17 = 3 := by decide +kernel
theorem cs180 : (Int16.ofInt 180).toInt32 = 180 := by decide +kernel
theorem kk5_19 : kL 5 19 = some 4000 := by decide +kernel
theorem k5_21 : kI 5 21 = some 40500 := by decide +kernel
theorem c5_22 : cal 5 22 = some 170 := by decide +kernel
theorem pn5_22 : prm 5 22 = none := by decide +kernel
theorem q5_9 : fld 5 9 = some (5, 0) ∧ ftc 5 0 = 2 := by decide +kernel
theorem cs360 : (Int16.ofInt 360).toInt32 = 360 := by decide +kernel
theorem p5_26 : prm 5 26 = some 5 := by decide +kernel
theorem cb90 : (Int8.ofInt 90).toInt32 = 90 := by decide +kernel
theorem c5_32 : cal 5 32 = some 173 := by decide +kernel
theorem pn5_32 : prm 5 32 = none := by decide +kernel
theorem cs1000 : (Int16.ofInt 1000).toInt32 = 1000 := by decide +kernel
theorem c5_35 : cal 5 35 = some 1 := by decide +kernel
theorem c5_41 : cal 5 41 = some 4 := by decide +kernel
theorem kk5_45 : kL 5 45 = some 1000000 := by decide +kernel
theorem c5_47 : cal 5 47 = some 5 := by decide +kernel
theorem nd30_52 : nds 30 52 = [] := by decide +kernel
theorem ci2 : Int32.ofInt 2 = 2 := by decide +kernel
theorem nd31_36 : nds 31 36 = [12, 13] := by decide +kernel
theorem nd31_99 : nds 31 99 = [] := by decide +kernel
theorem cim1 : Int32.ofInt (-1) = (-1) := by decide +kernel
theorem cb91 : (Int8.ofInt 91).toInt32 = 91 := by decide +kernel
theorem c5_51 : cal 5 51 = some 31 := by decide +kernel
theorem mf31 : mKd 31 = 0 ∧ mNp 31 = 2 ∧ mMx 31 = 15 ∧ mOw 31 = 5 := by decide +kernel
theorem nd32_10 : nds 32 10 = [7] := by decide +kernel
theorem kk5_55 : kL 5 55 = some (-1) := by decide +kernel
theorem q5_57 : fld 5 57 = some (0, 0) ∧ ftc 0 0 = 1 := by decide +kernel
theorem q5_61 : fld 5 61 = some (0, 1) ∧ ftc 0 1 = 1 := by decide +kernel
theorem nd33_9 : nds 33 9 = [6] := by decide +kernel
theorem kk5_64 : kL 5 64 = some 1000 := by decide +kernel
theorem nd35_11 : nds 35 11 = [9] := by decide +kernel
theorem q5_66 : fld 5 66 = some (0, 2) ∧ ftc 0 2 = 1 := by decide +kernel
theorem c5_69 : cal 5 69 = some 34 := by decide +kernel
theorem mf34 : mKd 34 = 0 ∧ mNp 34 = 2 ∧ mMx 34 = 3 ∧ mOw 34 = 5 := by decide +kernel
theorem c5_73 : cal 5 73 = some 35 := by decide +kernel
theorem mf35 : mKd 35 = 0 ∧ mNp 35 = 2 ∧ mMx 35 = 11 ∧ mOw 35 = 5 := by decide +kernel
theorem c5_77 : cal 5 77 = some 33 := by decide +kernel
theorem mf33 : mKd 33 = 0 ∧ mNp 33 = 1 ∧ mMx 33 = 8 ∧ mOw 33 = 5 := by decide +kernel
theorem c5_81 : cal 5 81 = some 174 := by decide +kernel
theorem pn5_81 : prm 5 81 = none := by decide +kernel
theorem q6_41 : fld 6 41 = some (6, 8) ∧ (ftc 6 8 = 0 ∨ ftc 6 8 = 3) := by decide +kernel
theorem q6_9 : fld 6 9 = some (6, 0) ∧ ftc 6 0 = 2 := by decide +kernel
theorem q6_45 : fld 6 45 = some (8, 10) ∧ (ftc 8 10 = 0 ∨ ftc 8 10 = 3) := by decide +kernel
theorem q6_48 : fld 6 48 = some (6, 7) ∧ (ftc 6 7 = 0 ∨ ftc 6 7 = 3) := by decide +kernel
theorem w6_41 : fld 6 41 = some (6, 8) ∧ ftc 6 8 = 0 ∧ (fQ 6 8).2.2 = false := by decide +kernel
theorem w6_48 : fld 6 48 = some (6, 7) ∧ ftc 6 7 = 0 ∧ (fQ 6 7).2.2 = false := by decide +kernel
theorem c6_51 : cal 6 51 = some 40 := by decide +kernel
theorem mf40 : mKd 40 = 0 ∧ mNp 40 = 0 ∧ mMx 40 = 2 ∧ mOw 40 = 6 := by decide +kernel
theorem w6_54 : fld 6 54 = some (6, 6) ∧ ftc 6 6 = 0 ∧ (fQ 6 6).2.2 = false := by decide +kernel
theorem q6_54 : fld 6 54 = some (6, 6) ∧ (ftc 6 6 = 0 ∨ ftc 6 6 = 3) := by decide +kernel
theorem cb12 : (Int8.ofInt 12).toInt32 = 12 := by decide +kernel
theorem c6_57 : cal 6 57 = some 41 := by decide +kernel
theorem mf41 : mKd 41 = 0 ∧ mNp 41 = 0 ∧ mMx 41 = 4 ∧ mOw 41 = 6 := by decide +kernel
theorem c6_61 : cal 6 61 = some 43 := by decide +kernel
theorem mf43 : mKd 43 = 0 ∧ mNp 43 = 0 ∧ mMx 43 = 3 ∧ mOw 43 = 6 := by decide +kernel
theorem nd39_50 : nds 39 50 = [] := by decide +kernel
theorem q6_64 : fld 6 64 = some (8, 8) ∧ (ftc 8 8 = 0 ∨ ftc 8 8 = 3) := by decide +kernel
theorem q6_23 : fld 6 23 = some (6, 3) ∧ ftc 6 3 = 2 := by decide +kernel
theorem q6_15 : fld 6 15 = some (6, 1) ∧ ftc 6 1 = 2 := by decide +kernel
theorem q6_67 : fld 6 67 = some (10, 2) ∧ ftc 10 2 = 2 := by decide +kernel
theorem nd40_2 : nds 40 2 = [] := by decide +kernel
theorem q6_70 : fld 6 70 = some (10, 14) ∧ (ftc 10 14 = 0 ∨ ftc 10 14 = 3) := by decide +kernel
theorem q6_29 : fld 6 29 = some (6, 4) ∧ ftc 6 4 = 2 := by decide +kernel
theorem q6_73 : fld 6 73 = some (10, 4) ∧ ftc 10 4 = 2 := by decide +kernel
theorem c6_74 : cal 6 74 = some 2 := by decide +kernel
theorem mf2 : mKd 2 = 0 ∧ mNp 2 = 1 ∧ mMx 2 = 2 ∧ mOw 2 = 0 := by decide +kernel
theorem nd40_36 : nds 40 36 = [] := by decide +kernel
theorem q6_78 : fld 6 78 = some (8, 5) ∧ ftc 8 5 = 2 := by decide +kernel
theorem q6_82 : fld 6 82 = some (1, 1) ∧ ftc 1 1 = 2 := by decide +kernel
theorem c6_88 : cal 6 88 = some 42 := by decide +kernel
theorem mf42 : mKd 42 = 0 ∧ mNp 42 = 1 ∧ mMx 42 = 3 ∧ mOw 42 = 6 := by decide +kernel
theorem nd41_4 : nds 41 4 = [3] := by decide +kernel
theorem nd41_51 : nds 41 51 = [] := by decide +kernel
theorem q6_19 : fld 6 19 = some (6, 2) ∧ ftc 6 2 = 2 := by decide +kernel
theorem c6_92 : cal 6 92 = some 32 := by decide +kernel
theorem mf32 : mKd 32 = 0 ∧ mNp 32 = 3 ∧ mMx 32 = 8 ∧ mOw 32 = 5 := by decide +kernel
theorem c6_98 : cal 6 98 = some 31 := by decide +kernel
theorem q6_37 : fld 6 37 = some (6, 5) ∧ ftc 6 5 = 2 := by decide +kernel
theorem c6_102 : cal 6 102 = some 16 := by decide +kernel
theorem q6_105 : fld 6 105 = some (1, 8) ∧ (ftc 1 8 = 0 ∨ ftc 1 8 = 3) := by decide +kernel
theorem c6_108 : cal 6 108 = some 17 := by decide +kernel
theorem nd43_22 : nds 43 22 = [] := by decide +kernel
theorem c6_112 : cal 6 112 = some 20 := by decide +kernel
theorem mf20 : mKd 20 = 0 ∧ mNp 20 = 1 ∧ mMx 20 = 8 ∧ mOw 20 = 3 := by decide +kernel
theorem nd43_2 : nds 43 2 = [2] := by decide +kernel
theorem nd44_4 : nds 44 4 = [] := by decide +kernel
theorem nd45_4 : nds 45 4 = [] := by decide +kernel
theorem w7_33 : fld 7 33 = some (7, 5) ∧ ftc 7 5 = 0 ∧ (fQ 7 5).2.2 = false := by decide +kernel
theorem w7_37 : fld 7 37 = some (7, 6) ∧ ftc 7 6 = 0 ∧ (fQ 7 6).2.2 = false := by decide +kernel
theorem w7_40 : fld 7 40 = some (7, 7) ∧ ftc 7 7 = 0 ∧ (fQ 7 7).2.2 = false := by decide +kernel
theorem w7_43 : fld 7 43 = some (7, 8) ∧ ftc 7 8 = 0 ∧ (fQ 7 8).2.2 = false := by decide +kernel
theorem p7_49 : prm 7 49 = some 5 := by decide +kernel
theorem p7_55 : prm 7 55 = some 1 := by decide +kernel
theorem q7_9 : fld 7 9 = some (7, 0) ∧ ftc 7 0 = 2 := by decide +kernel
theorem q7_58 : fld 7 58 = some (10, 14) ∧ (ftc 10 14 = 0 ∨ ftc 10 14 = 3) := by decide +kernel
theorem q7_63 : fld 7 63 = some (10, 3) ∧ ftc 10 3 = 2 := by decide +kernel
theorem q7_67 : fld 7 67 = some (2, 8) ∧ (ftc 2 8 = 0 ∨ ftc 2 8 = 3) := by decide +kernel
theorem q7_40 : fld 7 40 = some (7, 7) ∧ (ftc 7 7 = 0 ∨ ftc 7 7 = 3) := by decide +kernel
theorem nd49_55 : nds 49 55 = [] := by decide +kernel
theorem nd49_5 : nds 49 5 = [5, 6] := by decide +kernel
theorem q7_72 : fld 7 72 = some (2, 7) ∧ (ftc 2 7 = 0 ∨ ftc 2 7 = 3) := by decide +kernel
theorem c7_75 : cal 7 75 = some 48 := by decide +kernel
theorem pn7_75 : prm 7 75 = none := by decide +kernel
theorem mf48 : mKd 48 = 1 ∧ mNp 48 = 2 ∧ mMx 48 = 3 := by decide +kernel
theorem q7_43 : fld 7 43 = some (7, 8) ∧ (ftc 7 8 = 0 ∨ ftc 7 8 = 3) := by decide +kernel
theorem nd50_51 : nds 50 51 = [] := by decide +kernel
theorem nd50_5 : nds 50 5 = [5, 6] := by decide +kernel
theorem q7_78 : fld 7 78 = some (10, 4) ∧ ftc 10 4 = 2 := by decide +kernel
theorem c7_82 : cal 7 82 = some 7 := by decide +kernel
theorem c7_86 : cal 7 86 = some 8 := by decide +kernel
theorem c7_89 : cal 7 89 = some 6 := by decide +kernel
theorem mf6 : mKd 6 = 0 ∧ mNp 6 = 0 ∧ mMx 6 = 1 ∧ mOw 6 = 0 := by decide +kernel
theorem nd51_38 : nds 51 38 = [] := by decide +kernel
theorem q7_46 : fld 7 46 = some (7, 9) ∧ (ftc 7 9 = 0 ∨ ftc 7 9 = 3) := by decide +kernel
theorem q7_93 : fld 7 93 = some (10, 15) ∧ (ftc 10 15 = 0 ∨ ftc 10 15 = 3) := by decide +kernel
theorem w7_46 : fld 7 46 = some (7, 9) ∧ ftc 7 9 = 0 ∧ (fQ 7 9).2.2 = false := by decide +kernel
theorem cb30 : (Int8.ofInt 30).toInt32 = 30 := by decide +kernel
theorem q7_26 : fld 7 26 = some (7, 3) ∧ ftc 7 3 = 2 := by decide +kernel
theorem q7_22 : fld 7 22 = some (7, 2) ∧ ftc 7 2 = 2 := by decide +kernel
theorem c7_94 : cal 7 94 = some 51 := by decide +kernel
theorem mf51 : mKd 51 = 0 ∧ mNp 51 = 3 ∧ mMx 51 = 4 ∧ mOw 51 = 7 := by decide +kernel
theorem nd52_36 : nds 52 36 = [3] := by decide +kernel
theorem nd52_45 : nds 52 45 = [4] := by decide +kernel
theorem q7_15 : fld 7 15 = some (7, 1) ∧ ftc 7 1 = 2 := by decide +kernel
theorem c7_98 : cal 7 98 = some 33 := by decide +kernel
theorem q7_30 : fld 7 30 = some (7, 4) ∧ ftc 7 4 = 2 := by decide +kernel
theorem c7_104 : cal 7 104 = some 36 := by decide +kernel
theorem mf36 : mKd 36 = 0 ∧ mNp 36 = 2 ∧ mMx 36 = 3 ∧ mOw 36 = 5 := by decide +kernel
theorem c7_108 : cal 7 108 = some 26 := by decide +kernel
theorem c7_112 : cal 7 112 = some 27 := by decide +kernel
theorem kk7_115 : kL 7 115 = some 1000 := by decide +kernel
theorem nd53_117 : nds 53 117 = [] := by decide +kernel
theorem c7_117 : cal 7 117 = some 53 := by decide +kernel
theorem mf53 : mKd 53 = 0 ∧ mNp 53 = 3 ∧ mMx 53 = 9 ∧ mOw 53 = 7 := by decide +kernel
theorem nd54_14 : nds 54 14 = [6] := by decide +kernel
theorem nd54_26 : nds 54 26 = [] := by decide +kernel
theorem q7_33 : fld 7 33 = some (7, 5) ∧ (ftc 7 5 = 0 ∨ ftc 7 5 = 3) := by decide +kernel
theorem q7_37 : fld 7 37 = some (7, 6) ∧ (ftc 7 6 = 0 ∨ ftc 7 6 = 3) := by decide +kernel
theorem nd55_10 : nds 55 10 = [3] := by decide +kernel
theorem nd55_19 : nds 55 19 = [] := by decide +kernel
theorem cb100 : (Int8.ofInt 100).toInt32 = 100 := by decide +kernel
theorem c7_121 : cal 7 121 = some 49 := by decide +kernel
theorem mf49 : mKd 49 = 0 ∧ mNp 49 = 2 ∧ mMx 49 = 7 ∧ mOw 49 = 7 := by decide +kernel
theorem c7_124 : cal 7 124 = some 308 := by decide +kernel
theorem pn7_124 : prm 7 124 = none := by decide +kernel
theorem mf308 : mKd 308 = 1 ∧ mNp 308 = 1 ∧ mMx 308 = 1 := by decide +kernel
theorem c7_129 : cal 7 129 = some 50 := by decide +kernel
theorem mf50 : mKd 50 = 0 ∧ mNp 50 = 2 ∧ mMx 50 = 7 ∧ mOw 50 = 7 := by decide +kernel
theorem c7_132 : cal 7 132 = some 54 := by decide +kernel
theorem mf54 : mKd 54 = 0 ∧ mNp 54 = 2 ∧ mMx 54 = 7 ∧ mOw 54 = 7 := by decide +kernel
theorem kk7_135 : kL 7 135 = some 100 := by decide +kernel
theorem c7_137 : cal 7 137 = some 170 := by decide +kernel
theorem pn7_137 : prm 7 137 = none := by decide +kernel
theorem q8_48 : fld 8 48 = some (8, 7) ∧ (ftc 8 7 = 0 ∨ ftc 8 7 = 3) := by decide +kernel
theorem nd59_17 : nds 59 17 = [] := by decide +kernel
theorem q8_51 : fld 8 51 = some (8, 8) ∧ (ftc 8 8 = 0 ∨ ftc 8 8 = 3) := by decide +kernel
theorem nd60_17 : nds 60 17 = [] := by decide +kernel
theorem q8_15 : fld 8 15 = some (8, 1) ∧ ftc 8 1 = 2 := by decide +kernel
theorem q8_19 : fld 8 19 = some (8, 2) ∧ ftc 8 2 = 2 := by decide +kernel
theorem q8_22 : fld 8 22 = some (8, 3) ∧ ftc 8 3 = 2 := by decide +kernel
theorem q8_9 : fld 8 9 = some (8, 0) ∧ ftc 8 0 = 2 := by decide +kernel
theorem q8_27 : fld 8 27 = some (8, 4) ∧ ftc 8 4 = 2 := by decide +kernel
theorem c8_54 : cal 8 54 = some 29 := by decide +kernel
theorem mf29 : mKd 29 = 0 ∧ mNp 29 = 3 ∧ mMx 29 = 5 ∧ mOw 29 = 5 := by decide +kernel
theorem w8_48 : fld 8 48 = some (8, 7) ∧ ftc 8 7 = 0 ∧ (fQ 8 7).2.2 = false := by decide +kernel
theorem q8_34 : fld 8 34 = some (8, 5) ∧ ftc 8 5 = 2 := by decide +kernel
theorem w8_60 : fld 8 60 = some (1, 2) ∧ ftc 1 2 = 0 ∧ (fQ 1 2).2.2 = false := by decide +kernel
theorem w8_63 : fld 8 63 = some (1, 5) ∧ ftc 1 5 = 0 ∧ (fQ 1 5).2.2 = false := by decide +kernel
theorem c8_66 : cal 8 66 = some 10 := by decide +kernel
theorem mf10 : mKd 10 = 0 ∧ mNp 10 = 2 ∧ mMx 10 = 3 ∧ mOw 10 = 1 := by decide +kernel
theorem q8_70 : fld 8 70 = some (1, 1) ∧ ftc 1 1 = 2 := by decide +kernel
theorem c8_74 : cal 8 74 = some 28 := by decide +kernel
theorem mf28 : mKd 28 = 0 ∧ mNp 28 = 3 ∧ mMx 28 = 6 ∧ mOw 28 = 5 := by decide +kernel
theorem c8_77 : cal 8 77 = some 65 := by decide +kernel
theorem mf65 : mKd 65 = 0 ∧ mNp 65 = 2 ∧ mMx 65 = 9 ∧ mOw 65 = 8 := by decide +kernel
theorem w8_81 : fld 8 81 = some (1, 8) ∧ ftc 1 8 = 0 ∧ (fQ 1 8).2.2 = false := by decide +kernel
theorem c8_84 : cal 8 84 = some 31 := by decide +kernel
theorem q8_90 : fld 8 90 = some (8, 10) ∧ (ftc 8 10 = 0 ∨ ftc 8 10 = 3) := by decide +kernel
theorem w8_90 : fld 8 90 = some (8, 10) ∧ ftc 8 10 = 0 ∧ (fQ 8 10).2.2 = false := by decide +kernel
theorem w8_51 : fld 8 51 = some (8, 8) ∧ ftc 8 8 = 0 ∧ (fQ 8 8).2.2 = false := by decide +kernel
theorem q8_41 : fld 8 41 = some (8, 6) ∧ ftc 8 6 = 2 := by decide +kernel
theorem q8_87 : fld 8 87 = some (1, 0) ∧ (ftc 1 0 = 0 ∨ ftc 1 0 = 3) := by decide +kernel
theorem cb60 : (Int8.ofInt 60).toInt32 = 60 := by decide +kernel
theorem nd62_68 : nds 62 68 = [7] := by decide +kernel
theorem nd63_9 : nds 63 9 = [] := by decide +kernel
theorem w8_44 : fld 8 44 = some (8, 9) ∧ ftc 8 9 = 0 ∧ (fQ 8 9).2.2 = false := by decide +kernel
theorem q8_60 : fld 8 60 = some (1, 2) ∧ (ftc 1 2 = 0 ∨ ftc 1 2 = 3) := by decide +kernel
theorem nd64_7 : nds 64 7 = [] := by decide +kernel
theorem c8_93 : cal 8 93 = some 4 := by decide +kernel
theorem q8_44 : fld 8 44 = some (8, 9) ∧ (ftc 8 9 = 0 ∨ ftc 8 9 = 3) := by decide +kernel
theorem kk8_97 : kL 8 97 = some 1000000 := by decide +kernel
theorem c8_99 : cal 8 99 = some 5 := by decide +kernel
theorem c8_103 : cal 8 103 = some 170 := by decide +kernel
theorem pn8_103 : prm 8 103 = none := by decide +kernel
theorem c8_107 : cal 8 107 = some 171 := by decide +kernel
theorem pn8_107 : prm 8 107 = none := by decide +kernel
theorem nd65_69 : nds 65 69 = [] := by decide +kernel
theorem c8_111 : cal 8 111 = some 66 := by decide +kernel
theorem mf66 : mKd 66 = 0 ∧ mNp 66 = 2 ∧ mMx 66 = 3 ∧ mOw 66 = 8 := by decide +kernel
theorem nd67_5 : nds 67 5 = [] := by decide +kernel
theorem q8_115 : fld 8 115 = some (1, 7) ∧ (ftc 1 7 = 0 ∨ ftc 1 7 = 3) := by decide +kernel
theorem nd68_4 : nds 68 4 = [] := by decide +kernel
theorem c8_118 : cal 8 118 = some 70 := by decide +kernel
theorem mf70 : mKd 70 = 0 ∧ mNp 70 = 1 ∧ mMx 70 = 3 ∧ mOw 70 = 8 := by decide +kernel
theorem nd69_4 : nds 69 4 = [] := by decide +kernel
theorem nd70_2 : nds 70 2 = [] := by decide +kernel
theorem ci3 : Int32.ofInt 3 = 3 := by decide +kernel
theorem c8_126 : cal 8 126 = some 3 := by decide +kernel
theorem c8_122 : cal 8 122 = some 72 := by decide +kernel
theorem mf72 : mKd 72 = 0 ∧ mNp 72 = 1 ∧ mMx 72 = 4 ∧ mOw 72 = 8 := by decide +kernel
theorem swd_7 {a : Int32} (h0 : ¬ a = 0) (h1 : ¬ a = 1) (h2 : ¬ a = 2) (h3 : ¬ a = 3) (h4 : ¬ a = 4) (h5 : ¬ a = 5) (h6 : ¬ a = 6) : a.toInt < 0 ∨ 6 < a.toInt := by
  have g0 : a.toInt ≠ 0 := fun q => h0 (Int32.toInt_inj.mp q)
  have g1 : a.toInt ≠ 1 := fun q => h1 (Int32.toInt_inj.mp q)
  have g2 : a.toInt ≠ 2 := fun q => h2 (Int32.toInt_inj.mp q)
  have g3 : a.toInt ≠ 3 := fun q => h3 (Int32.toInt_inj.mp q)
  have g4 : a.toInt ≠ 4 := fun q => h4 (Int32.toInt_inj.mp q)
  have g5 : a.toInt ≠ 5 := fun q => h5 (Int32.toInt_inj.mp q)
  have g6 : a.toInt ≠ 6 := fun q => h6 (Int32.toInt_inj.mp q)
  omega
theorem nd72_4 : nds 72 4 = [] := by decide +kernel
theorem q8_81 : fld 8 81 = some (1, 8) ∧ (ftc 1 8 = 0 ∨ ftc 1 8 = 3) := by decide +kernel
theorem nd73_4 : nds 73 4 = [] := by decide +kernel
theorem c8_130 : cal 8 130 = some 30 := by decide +kernel
theorem mf30 : mKd 30 = 0 ∧ mNp 30 = 3 ∧ mMx 30 = 8 ∧ mOw 30 = 5 := by decide +kernel
theorem nd74_5 : nds 74 5 = [] := by decide +kernel
theorem q8_134 : fld 8 134 = some (1, 6) ∧ (ftc 1 6 = 0 ∨ ftc 1 6 = 3) := by decide +kernel
theorem q8_137 : fld 8 137 = some (1, 4) ∧ (ftc 1 4 = 0 ∨ ftc 1 4 = 3) := by decide +kernel
theorem nd75_5 : nds 75 5 = [5] := by decide +kernel
theorem cb10 : (Int8.ofInt 10).toInt32 = 10 := by decide +kernel
theorem nd75_74 : nds 75 74 = [] := by decide +kernel
theorem nd76_5 : nds 76 5 = [] := by decide +kernel
theorem q9_43 : fld 9 43 = some (9, 8) ∧ (ftc 9 8 = 0 ∨ ftc 9 8 = 3) := by decide +kernel
theorem q9_9 : fld 9 9 = some (9, 0) ∧ ftc 9 0 = 2 := by decide +kernel
theorem q9_56 : fld 9 56 = some (8, 10) ∧ (ftc 8 10 = 0 ∨ ftc 8 10 = 3) := by decide +kernel
theorem w9_43 : fld 9 43 = some (9, 8) ∧ ftc 9 8 = 0 ∧ (fQ 9 8).2.2 = false := by decide +kernel
theorem q9_26 : fld 9 26 = some (9, 3) ∧ ftc 9 3 = 2 := by decide +kernel
theorem nd78_28 : nds 78 28 = [] := by decide +kernel
theorem q9_61 : fld 9 61 = some (8, 8) ∧ (ftc 8 8 = 0 ∨ ftc 8 8 = 3) := by decide +kernel
theorem q9_64 : fld 9 64 = some (8, 5) ∧ ftc 8 5 = 2 := by decide +kernel
theorem q9_68 : fld 9 68 = some (1, 1) ∧ ftc 1 1 = 2 := by decide +kernel
theorem q9_73 : fld 9 73 = some (1, 8) ∧ (ftc 1 8 = 0 ∨ ftc 1 8 = 3) := by decide +kernel
theorem c9_76 : cal 9 76 = some 79 := by decide +kernel
theorem mf79 : mKd 79 = 0 ∧ mNp 79 = 2 ∧ mMx 79 = 4 ∧ mOw 79 = 9 := by decide +kernel
theorem c9_80 : cal 9 80 = some 73 := by decide +kernel
theorem mf73 : mKd 73 = 0 ∧ mNp 73 = 0 ∧ mMx 73 = 4 ∧ mOw 73 = 8 := by decide +kernel
theorem c9_84 : cal 9 84 = some 170 := by decide +kernel
theorem pn9_84 : prm 9 84 = none := by decide +kernel
theorem nd78_108 : nds 78 108 = [] := by decide +kernel
theorem nd78_52 : nds 78 52 = [] := by decide +kernel
theorem q9_88 : fld 9 88 = some (0, 0) ∧ ftc 0 0 = 1 := by decide +kernel
theorem q9_92 : fld 9 92 = some (0, 1) ∧ ftc 0 1 = 1 := by decide +kernel
theorem q9_95 : fld 9 95 = some (0, 2) ∧ ftc 0 2 = 1 := by decide +kernel
theorem ci5 : Int32.ofInt 5 = 5 := by decide +kernel
theorem kk9_98 : kL 9 98 = some 2 := by decide +kernel
theorem q9_47 : fld 9 47 = some (9, 9) ∧ (ftc 9 9 = 0 ∨ ftc 9 9 = 3) := by decide +kernel
theorem w9_47 : fld 9 47 = some (9, 9) ∧ ftc 9 9 = 0 ∧ (fQ 9 9).2.2 = false := by decide +kernel
theorem c9_100 : cal 9 100 = some 78 := by decide +kernel
theorem mf78 : mKd 78 = 0 ∧ mNp 78 = 0 ∧ mMx 78 = 4 ∧ mOw 78 = 9 := by decide +kernel
theorem q9_15 : fld 9 15 = some (9, 1) ∧ ftc 9 1 = 2 := by decide +kernel
theorem q9_22 : fld 9 22 = some (9, 2) ∧ ftc 9 2 = 2 := by decide +kernel
theorem c9_103 : cal 9 103 = some 28 := by decide +kernel
theorem c9_109 : cal 9 109 = some 80 := by decide +kernel
theorem mf80 : mKd 80 = 0 ∧ mNp 80 = 1 ∧ mMx 80 = 6 ∧ mOw 80 = 9 := by decide +kernel
theorem c9_113 : cal 9 113 = some 5 := by decide +kernel
theorem q9_30 : fld 9 30 = some (9, 4) ∧ ftc 9 4 = 2 := by decide +kernel
theorem c9_116 : cal 9 116 = some 82 := by decide +kernel
theorem pn9_116 : prm 9 116 = none := by decide +kernel
theorem mf82 : mKd 82 = 1 ∧ mNp 82 = 3 ∧ mMx 82 = 3 := by decide +kernel
theorem q9_34 : fld 9 34 = some (9, 5) ∧ ftc 9 5 = 2 := by decide +kernel
theorem nd81_110 : nds 81 110 = [] := by decide +kernel
theorem nd81_87 : nds 81 87 = [10, 11] := by decide +kernel
theorem nd81_115 : nds 81 115 = [12, 14] := by decide +kernel
theorem q9_50 : fld 9 50 = some (9, 10) ∧ (ftc 9 10 = 0 ∨ ftc 9 10 = 3) := by decide +kernel
theorem w9_50 : fld 9 50 = some (9, 10) ∧ ftc 9 10 = 0 ∧ (fQ 9 10).2.2 = false := by decide +kernel
theorem q9_37 : fld 9 37 = some (9, 6) ∧ ftc 9 6 = 2 := by decide +kernel
theorem k9_120 : kI 9 120 = some 1073741824 := by decide +kernel
theorem c9_121 : cal 9 121 = some 29 := by decide +kernel
theorem ci10 : Int32.ofInt 10 = 10 := by decide +kernel
theorem nd83_36 : nds 83 36 = [2] := by decide +kernel
theorem c9_124 : cal 9 124 = some 84 := by decide +kernel
theorem mf84 : mKd 84 = 0 ∧ mNp 84 = 1 ∧ mMx 84 = 4 ∧ mOw 84 = 9 := by decide +kernel
theorem nd83_44 : nds 83 44 = [3] := by decide +kernel
theorem c9_128 : cal 9 128 = some 65 := by decide +kernel
theorem nd84_4 : nds 84 4 = [] := by decide +kernel
theorem q9_53 : fld 9 53 = some (9, 11) ∧ (ftc 9 11 = 0 ∨ ftc 9 11 = 3) := by decide +kernel
theorem q9_132 : fld 9 132 = some (9, 12) ∧ (ftc 9 12 = 0 ∨ ftc 9 12 = 3) := by decide +kernel
theorem w9_53 : fld 9 53 = some (9, 11) ∧ ftc 9 11 = 0 ∧ (fQ 9 11).2.2 = false := by decide +kernel
theorem w9_132 : fld 9 132 = some (9, 12) ∧ ftc 9 12 = 0 ∧ (fQ 9 12).2.2 = false := by decide +kernel
theorem q9_40 : fld 9 40 = some (9, 7) ∧ ftc 9 7 = 2 := by decide +kernel
theorem nd85_48 : nds 85 48 = [3] := by decide +kernel
theorem c9_135 : cal 9 135 = some 74 := by decide +kernel
theorem mf74 : mKd 74 = 0 ∧ mNp 74 = 2 ∧ mMx 74 = 5 ∧ mOw 74 = 8 := by decide +kernel
theorem nd85_56 : nds 85 56 = [4] := by decide +kernel
theorem w10_61 : fld 10 61 = some (10, 12) ∧ ftc 10 12 = 0 ∧ (fQ 10 12).2.2 = false := by decide +kernel
theorem w10_65 : fld 10 65 = some (10, 13) ∧ ftc 10 13 = 0 ∧ (fQ 10 13).2.2 = false := by decide +kernel
theorem q10_9 : fld 10 9 = some (10, 0) ∧ ftc 10 0 = 2 := by decide +kernel
theorem q10_74 : fld 10 74 = some (8, 10) ∧ (ftc 8 10 = 0 ∨ ftc 8 10 = 3) := by decide +kernel
theorem w10_74 : fld 10 74 = some (8, 10) ∧ ftc 8 10 = 0 ∧ (fQ 8 10).2.2 = false := by decide +kernel
theorem q10_40 : fld 10 40 = some (10, 5) ∧ ftc 10 5 = 2 := by decide +kernel
theorem q10_49 : fld 10 49 = some (10, 8) ∧ ftc 10 8 = 2 := by decide +kernel
theorem q10_77 : fld 10 77 = some (8, 8) ∧ (ftc 8 8 = 0 ∨ ftc 8 8 = 3) := by decide +kernel
theorem nd88_79 : nds 88 79 = [] := by decide +kernel
theorem nd88_20 : nds 88 20 = [7] := by decide +kernel
theorem nd88_37 : nds 88 37 = [8] := by decide +kernel
theorem c10_80 : cal 10 80 = some 66 := by decide +kernel
theorem nd89_2 : nds 89 2 = [] := by decide +kernel
theorem c10_84 : cal 10 84 = some 89 := by decide +kernel
theorem mf89 : mKd 89 = 0 ∧ mNp 89 = 0 ∧ mMx 89 = 2 ∧ mOw 89 = 10 := by decide +kernel
theorem nd90_9 : nds 90 9 = [] := by decide +kernel
theorem q10_43 : fld 10 43 = some (10, 6) ∧ ftc 10 6 = 2 := by decide +kernel
theorem c10_87 : cal 10 87 = some 88 := by decide +kernel
theorem mf88 : mKd 88 = 0 ∧ mNp 88 = 4 ∧ mMx 88 = 9 ∧ mOw 88 = 10 := by decide +kernel
theorem c10_91 : cal 10 91 = some 90 := by decide +kernel
theorem mf90 : mKd 90 = 0 ∧ mNp 90 = 2 ∧ mMx 90 = 5 ∧ mOw 90 = 10 := by decide +kernel
theorem q10_65 : fld 10 65 = some (10, 13) ∧ (ftc 10 13 = 0 ∨ ftc 10 13 = 3) := by decide +kernel
theorem nd91_13 : nds 91 13 = [] := by decide +kernel
theorem q10_55 : fld 10 55 = some (10, 10) ∧ ftc 10 10 = 2 := by decide +kernel
theorem c10_94 : cal 10 94 = some 91 := by decide +kernel
theorem mf91 : mKd 91 = 0 ∧ mNp 91 = 2 ∧ mMx 91 = 6 ∧ mOw 91 = 10 := by decide +kernel
theorem q10_52 : fld 10 52 = some (10, 9) ∧ ftc 10 9 = 2 := by decide +kernel
theorem c10_97 : cal 10 97 = some 94 := by decide +kernel
theorem mf94 : mKd 94 = 0 ∧ mNp 94 = 1 ∧ mMx 94 = 4 ∧ mOw 94 = 10 := by decide +kernel
theorem nd93_50 : nds 93 50 = [4, 5] := by decide +kernel
theorem p10_101 : prm 10 101 = some 0 := by decide +kernel
theorem p10_106 : prm 10 106 = some 1 := by decide +kernel
theorem nd93_89 : nds 93 89 = [] := by decide +kernel
theorem nd93_2 : nds 93 2 = [] := by decide +kernel
theorem nd94_4 : nds 94 4 = [] := by decide +kernel
theorem q10_71 : fld 10 71 = some (10, 16) ∧ (ftc 10 16 = 0 ∨ ftc 10 16 = 3) := by decide +kernel
theorem w10_71 : fld 10 71 = some (10, 16) ∧ ftc 10 16 = 0 ∧ (fQ 10 16).2.2 = false := by decide +kernel
theorem w10_109 : fld 10 109 = some (10, 17) ∧ ftc 10 17 = 0 ∧ (fQ 10 17).2.2 = false := by decide +kernel
theorem w10_112 : fld 10 112 = some (10, 18) ∧ ftc 10 18 = 0 ∧ (fQ 10 18).2.2 = false := by decide +kernel
theorem c10_115 : cal 10 115 = some 96 := by decide +kernel
theorem mf96 : mKd 96 = 0 ∧ mNp 96 = 1 ∧ mMx 96 = 4 ∧ mOw 96 = 10 := by decide +kernel
theorem nd95_46 : nds 95 46 = [] := by decide +kernel
theorem q10_109 : fld 10 109 = some (10, 17) ∧ (ftc 10 17 = 0 ∨ ftc 10 17 = 3) := by decide +kernel
theorem q10_19 : fld 10 19 = some (10, 2) ∧ ftc 10 2 = 2 := by decide +kernel
theorem c10_119 : cal 10 119 = some 101 := by decide +kernel
theorem mf101 : mKd 101 = 0 ∧ mNp 101 = 2 ∧ mMx 101 = 5 ∧ mOw 101 = 10 := by decide +kernel
theorem q10_61 : fld 10 61 = some (10, 12) ∧ (ftc 10 12 = 0 ∨ ftc 10 12 = 3) := by decide +kernel
theorem q10_25 : fld 10 25 = some (10, 3) ∧ ftc 10 3 = 2 := by decide +kernel
theorem q10_122 : fld 10 122 = some (2, 3) ∧ (ftc 2 3 = 0 ∨ ftc 2 3 = 3) := by decide +kernel
theorem nd96_72 : nds 96 72 = [] := by decide +kernel
theorem q10_68 : fld 10 68 = some (10, 15) ∧ (ftc 10 15 = 0 ∨ ftc 10 15 = 3) := by decide +kernel
theorem w10_68 : fld 10 68 = some (10, 15) ∧ ftc 10 15 = 0 ∧ (fQ 10 15).2.2 = false := by decide +kernel
theorem cb45 : (Int8.ofInt 45).toInt32 = 45 := by decide +kernel
theorem nd97_28 : nds 97 28 = [] := by decide +kernel
theorem c10_125 : cal 10 125 = some 98 := by decide +kernel
theorem mf98 : mKd 98 = 0 ∧ mNp 98 = 1 ∧ mMx 98 = 4 ∧ mOw 98 = 10 := by decide +kernel
theorem w10_129 : fld 10 129 = some (10, 14) ∧ ftc 10 14 = 0 ∧ (fQ 10 14).2.2 = false := by decide +kernel
theorem nd97_69 : nds 97 69 = [] := by decide +kernel
theorem nd97_95 : nds 97 95 = [] := by decide +kernel
theorem q10_129 : fld 10 129 = some (10, 14) ∧ (ftc 10 14 = 0 ∨ ftc 10 14 = 3) := by decide +kernel
theorem c10_132 : cal 10 132 = some 99 := by decide +kernel
theorem mf99 : mKd 99 = 0 ∧ mNp 99 = 2 ∧ mMx 99 = 6 ∧ mOw 99 = 10 := by decide +kernel
theorem q10_46 : fld 10 46 = some (10, 7) ∧ ftc 10 7 = 2 := by decide +kernel
theorem k10_136 : kI 10 136 = some 1073741824 := by decide +kernel
theorem nd98_2 : nds 98 2 = [] := by decide +kernel
theorem nd98_23 : nds 98 23 = [3] := by decide +kernel
theorem q10_137 : fld 10 137 = some (8, 5) ∧ ftc 8 5 = 2 := by decide +kernel
theorem q10_141 : fld 10 141 = some (1, 7) ∧ (ftc 1 7 = 0 ∨ ftc 1 7 = 3) := by decide +kernel
theorem nd99_32 : nds 99 32 = [] := by decide +kernel
theorem nd99_83 : nds 99 83 = [] := by decide +kernel
theorem c10_146 : cal 10 146 = some 13 := by decide +kernel
theorem mf13 : mKd 13 = 0 ∧ mNp 13 = 2 ∧ mMx 13 = 3 ∧ mOw 13 = 2 := by decide +kernel
theorem nd99_5 : nds 99 5 = [5] := by decide +kernel
theorem c10_149 : cal 10 149 = some 97 := by decide +kernel
theorem mf97 : mKd 97 = 0 ∧ mNp 97 = 0 ∧ mMx 97 = 3 ∧ mOw 97 = 10 := by decide +kernel
theorem nd100_21 : nds 100 21 = [] := by decide +kernel
theorem nd101_5 : nds 101 5 = [] := by decide +kernel
theorem nd102_4 : nds 102 4 = [] := by decide +kernel
theorem cb17 : (Int8.ofInt 17).toInt32 = 17 := by decide +kernel
theorem cb31 : (Int8.ofInt 31).toInt32 = 31 := by decide +kernel
theorem q10_152 : fld 10 152 = some (2, 4) ∧ (ftc 2 4 = 0 ∨ ftc 2 4 = 3) := by decide +kernel
theorem nd103_5 : nds 103 5 = [] := by decide +kernel
theorem c10_155 : cal 10 155 = some 102 := by decide +kernel
theorem mf102 : mKd 102 = 0 ∧ mNp 102 = 0 ∧ mMx 102 = 3 ∧ mOw 102 = 10 := by decide +kernel
theorem c10_159 : cal 10 159 = some 105 := by decide +kernel
theorem mf105 : mKd 105 = 0 ∧ mNp 105 = 1 ∧ mMx 105 = 3 ∧ mOw 105 = 10 := by decide +kernel
theorem nd104_6 : nds 104 6 = [] := by decide +kernel
theorem q10_163 : fld 10 163 = some (2, 5) ∧ (ftc 2 5 = 0 ∨ ftc 2 5 = 3) := by decide +kernel
theorem c10_166 : cal 10 166 = some 106 := by decide +kernel
theorem mf106 : mKd 106 = 0 ∧ mNp 106 = 2 ∧ mMx 106 = 4 ∧ mOw 106 = 10 := by decide +kernel
theorem w10_163 : fld 10 163 = some (2, 5) ∧ ftc 2 5 = 3 ∧ (fQ 2 5).2.2 = false := by decide +kernel
theorem c10_170 : cal 10 170 = some 107 := by decide +kernel
theorem mf107 : mKd 107 = 0 ∧ mNp 107 = 2 ∧ mMx 107 = 7 ∧ mOw 107 = 10 := by decide +kernel
theorem q10_173 : fld 10 173 = some (2, 0) ∧ ftc 2 0 = 2 := by decide +kernel
theorem c10_177 : cal 10 177 = some 16 := by decide +kernel
theorem q10_182 : fld 10 182 = some (1, 8) ∧ (ftc 1 8 = 0 ∨ ftc 1 8 = 3) := by decide +kernel
theorem q10_185 : fld 10 185 = some (1, 1) ∧ ftc 1 1 = 2 := by decide +kernel
theorem q10_188 : fld 10 188 = some (2, 1) ∧ ftc 2 1 = 2 := by decide +kernel
theorem c10_191 : cal 10 191 = some 17 := by decide +kernel
theorem nd106_15 : nds 106 15 = [] := by decide +kernel
theorem q10_36 : fld 10 36 = some (2, 2) ∧ ftc 2 2 = 2 := by decide +kernel
theorem c10_195 : cal 10 195 = some 2 := by decide +kernel
theorem c10_199 : cal 10 199 = some 20 := by decide +kernel
theorem q10_15 : fld 10 15 = some (10, 1) ∧ ftc 10 1 = 2 := by decide +kernel
theorem c10_202 : cal 10 202 = some 37 := by decide +kernel
theorem mf37 : mKd 37 = 0 ∧ mNp 37 = 1 ∧ mMx 37 = 4 ∧ mOw 37 = 5 := by decide +kernel
theorem w10_208 : fld 10 208 = some (2, 7) ∧ ftc 2 7 = 0 ∧ (fQ 2 7).2.2 = false := by decide +kernel
theorem w10_211 : fld 10 211 = some (2, 8) ∧ ftc 2 8 = 0 ∧ (fQ 2 8).2.2 = false := by decide +kernel
theorem c10_214 : cal 10 214 = some 109 := by decide +kernel
theorem mf109 : mKd 109 = 0 ∧ mNp 109 = 2 ∧ mMx 109 = 6 ∧ mOw 109 = 10 := by decide +kernel
theorem c10_217 : cal 10 217 = some 108 := by decide +kernel
theorem mf108 : mKd 108 = 0 ∧ mNp 108 = 2 ∧ mMx 108 = 5 ∧ mOw 108 = 10 := by decide +kernel
theorem nd107_5 : nds 107 5 = [5, 6] := by decide +kernel
theorem q10_220 : fld 10 220 = some (2, 6) ∧ (ftc 2 6 = 0 ∨ ftc 2 6 = 3) := by decide +kernel
theorem w10_220 : fld 10 220 = some (2, 6) ∧ ftc 2 6 = 0 ∧ (fQ 2 6).2.2 = false := by decide +kernel
theorem nd108_5 : nds 108 5 = [] := by decide +kernel
theorem q10_58 : fld 10 58 = some (10, 11) ∧ ftc 10 11 = 2 := by decide +kernel
theorem nd109_2 : nds 109 2 = [] := by decide +kernel
theorem w10_223 : fld 10 223 = some (2, 9) ∧ ftc 2 9 = 0 ∧ (fQ 2 9).2.2 = false := by decide +kernel
theorem c10_226 : cal 10 226 = some 31 := by decide +kernel
theorem nd109_28 : nds 109 28 = [4] := by decide +kernel
theorem w10_230 : fld 10 230 = some (2, 10) ∧ ftc 2 10 = 0 ∧ (fQ 2 10).2.2 = false := by decide +kernel
theorem kk10_233 : kL 10 233 = some 2 := by decide +kernel
theorem q10_235 : fld 10 235 = some (3, 1) ∧ ftc 3 1 = 1 := by decide +kernel
theorem nd109_131 : nds 109 131 = [] := by decide +kernel
theorem q10_223 : fld 10 223 = some (2, 9) ∧ (ftc 2 9 = 0 ∨ ftc 2 9 = 3) := by decide +kernel
theorem q10_31 : fld 10 31 = some (10, 4) ∧ ftc 10 4 = 2 := by decide +kernel
theorem c10_239 : cal 10 239 = some 110 := by decide +kernel
theorem mf110 : mKd 110 = 0 ∧ mNp 110 = 2 ∧ mMx 110 = 3 ∧ mOw 110 = 10 := by decide +kernel
theorem nd111_33 : nds 111 33 = [] := by decide +kernel
theorem c10_242 : cal 10 242 = some 30 := by decide +kernel
theorem nd112_13 : nds 112 13 = [] := by decide +kernel
theorem q10_246 : fld 10 246 = some (1, 2) ∧ (ftc 1 2 = 0 ∨ ftc 1 2 = 3) := by decide +kernel
theorem nd113_31 : nds 113 31 = [] := by decide +kernel
theorem c10_249 : cal 10 249 = some 113 := by decide +kernel
theorem mf113 : mKd 113 = 0 ∧ mNp 113 = 3 ∧ mMx 113 = 4 ∧ mOw 113 = 10 := by decide +kernel
theorem nd114_5 : nds 114 5 = [] := by decide +kernel
theorem c10_253 : cal 10 253 = some 114 := by decide +kernel
theorem mf114 : mKd 114 = 0 ∧ mNp 114 = 2 ∧ mMx 114 = 5 ∧ mOw 114 = 10 := by decide +kernel
theorem k10_256 : kI 10 256 = some 100000 := by decide +kernel
theorem c10_260 : cal 10 260 = some 170 := by decide +kernel
theorem pn10_260 : prm 10 260 = none := by decide +kernel
theorem nd115_20 : nds 115 20 = [] := by decide +kernel
theorem q10_257 : fld 10 257 = some (1, 5) ∧ (ftc 1 5 = 0 ∨ ftc 1 5 = 3) := by decide +kernel
theorem q10_264 : fld 10 264 = some (8, 4) ∧ ftc 8 4 = 2 := by decide +kernel
theorem c10_267 : cal 10 267 = some 172 := by decide +kernel
theorem pn10_267 : prm 10 267 = none := by decide +kernel
theorem mf172 : mKd 172 = 1 ∧ mNp 172 = 2 ∧ mMx 172 = 4 := by decide +kernel
theorem c10_271 : cal 10 271 = some 115 := by decide +kernel
theorem mf115 : mKd 115 = 0 ∧ mNp 115 = 2 ∧ mMx 115 = 7 ∧ mOw 115 = 10 := by decide +kernel
theorem kk10_274 : kL 10 274 = some 1000 := by decide +kernel
theorem q11_73 : fld 11 73 = some (11, 8) ∧ (ftc 11 8 = 0 ∨ ftc 11 8 = 3) := by decide +kernel
theorem c11_77 : cal 11 77 = some 169 := by decide +kernel
theorem pn11_77 : prm 11 77 = none := by decide +kernel
theorem mf169 : mKd 169 = 1 ∧ mNp 169 = 3 ∧ mMx 169 = 3 := by decide +kernel
theorem c11_81 : cal 11 81 = some 164 := by decide +kernel
theorem mf164 : mKd 164 = 0 ∧ mNp 164 = 1 ∧ mMx 164 = 2 ∧ mOw 164 = 11 := by decide +kernel
theorem q11_21 : fld 11 21 = some (11, 1) ∧ ftc 11 1 = 2 := by decide +kernel
theorem q11_85 : fld 11 85 = some (8, 7) ∧ (ftc 8 7 = 0 ∨ ftc 8 7 = 3) := by decide +kernel
theorem cb6 : (Int8.ofInt 6).toInt32 = 6 := by decide +kernel
theorem c11_88 : cal 11 88 = some 61 := by decide +kernel
theorem mf61 : mKd 61 = 0 ∧ mNp 61 = 3 ∧ mMx 61 = 5 ∧ mOw 61 = 8 := by decide +kernel
theorem c11_92 : cal 11 92 = some 163 := by decide +kernel
theorem mf163 : mKd 163 = 0 ∧ mNp 163 = 1 ∧ mMx 163 = 2 ∧ mOw 163 = 11 := by decide +kernel
theorem c11_95 : cal 11 95 = some 168 := by decide +kernel
theorem pn11_95 : prm 11 95 = none := by decide +kernel
theorem mf168 : mKd 168 = 1 ∧ mNp 168 = 2 ∧ mMx 168 = 2 := by decide +kernel
theorem c11_99 : cal 11 99 = some 59 := by decide +kernel
theorem mf59 : mKd 59 = 0 ∧ mNp 59 = 1 ∧ mMx 59 = 2 ∧ mOw 59 = 8 := by decide +kernel
theorem q11_103 : fld 11 103 = some (8, 3) ∧ ftc 8 3 = 2 := by decide +kernel
theorem q11_107 : fld 11 107 = some (8, 8) ∧ (ftc 8 8 = 0 ∨ ftc 8 8 = 3) := by decide +kernel
theorem c11_110 : cal 11 110 = some 62 := by decide +kernel
theorem mf62 : mKd 62 = 0 ∧ mNp 62 = 4 ∧ mMx 62 = 8 ∧ mOw 62 = 8 := by decide +kernel
theorem c11_114 : cal 11 114 = some 60 := by decide +kernel
theorem mf60 : mKd 60 = 0 ∧ mNp 60 = 1 ∧ mMx 60 = 2 ∧ mOw 60 = 8 := by decide +kernel
theorem c11_117 : cal 11 117 = some 63 := by decide +kernel
theorem mf63 : mKd 63 = 0 ∧ mNp 63 = 1 ∧ mMx 63 = 4 ∧ mOw 63 = 8 := by decide +kernel
theorem c11_121 : cal 11 121 = some 167 := by decide +kernel
theorem pn11_121 : prm 11 121 = none := by decide +kernel
theorem mf167 : mKd 167 = 1 ∧ mNp 167 = 3 ∧ mMx 167 = 3 := by decide +kernel
theorem cb20 : (Int8.ofInt 20).toInt32 = 20 := by decide +kernel
theorem q11_30 : fld 11 30 = some (11, 2) ∧ ftc 11 2 = 2 := by decide +kernel
theorem q11_124 : fld 11 124 = some (10, 12) ∧ (ftc 10 12 = 0 ∨ ftc 10 12 = 3) := by decide +kernel
theorem q11_127 : fld 11 127 = some (10, 13) ∧ (ftc 10 13 = 0 ∨ ftc 10 13 = 3) := by decide +kernel
theorem c11_130 : cal 11 130 = some 87 := by decide +kernel
theorem mf87 : mKd 87 = 0 ∧ mNp 87 = 2 ∧ mMx 87 = 3 ∧ mOw 87 = 10 := by decide +kernel
theorem q11_134 : fld 11 134 = some (8, 9) ∧ (ftc 8 9 = 0 ∨ ftc 8 9 = 3) := by decide +kernel
theorem c11_137 : cal 11 137 = some 64 := by decide +kernel
theorem mf64 : mKd 64 = 0 ∧ mNp 64 = 1 ∧ mMx 64 = 3 ∧ mOw 64 = 8 := by decide +kernel
theorem cs359 : (Int16.ofInt 359).toInt32 = 359 := by decide +kernel
theorem cb89 : (Int8.ofInt 89).toInt32 = 89 := by decide +kernel
theorem q11_55 : fld 11 55 = some (11, 5) ∧ ftc 11 5 = 2 := by decide +kernel
theorem c11_140 : cal 11 140 = some 47 := by decide +kernel
theorem mf47 : mKd 47 = 0 ∧ mNp 47 = 4 ∧ mMx 47 = 5 ∧ mOw 47 = 7 := by decide +kernel
theorem c11_144 : cal 11 144 = some 104 := by decide +kernel
theorem mf104 : mKd 104 = 0 ∧ mNp 104 = 0 ∧ mMx 104 = 2 ∧ mOw 104 = 10 := by decide +kernel
theorem c11_147 : cal 11 147 = some 49 := by decide +kernel
theorem c11_151 : cal 11 151 = some 308 := by decide +kernel
theorem pn11_151 : prm 11 151 = none := by decide +kernel
theorem c11_156 : cal 11 156 = some 97 := by decide +kernel
theorem c11_159 : cal 11 159 = some 69 := by decide +kernel
theorem mf69 : mKd 69 = 0 ∧ mNp 69 = 0 ∧ mMx 69 = 3 ∧ mOw 69 = 8 := by decide +kernel
theorem q11_163 : fld 11 163 = some (10, 14) ∧ (ftc 10 14 = 0 ∨ ftc 10 14 = 3) := by decide +kernel
theorem c11_166 : cal 11 166 = some 102 := by decide +kernel
theorem swd_5 {a : Int32} (h0 : ¬ a = 0) (h1 : ¬ a = 1) (h2 : ¬ a = 2) (h3 : ¬ a = 3) (h4 : ¬ a = 4) : a.toInt < 0 ∨ 4 < a.toInt := by
  have g0 : a.toInt ≠ 0 := fun q => h0 (Int32.toInt_inj.mp q)
  have g1 : a.toInt ≠ 1 := fun q => h1 (Int32.toInt_inj.mp q)
  have g2 : a.toInt ≠ 2 := fun q => h2 (Int32.toInt_inj.mp q)
  have g3 : a.toInt ≠ 3 := fun q => h3 (Int32.toInt_inj.mp q)
  have g4 : a.toInt ≠ 4 := fun q => h4 (Int32.toInt_inj.mp q)
  omega
theorem cb9 : (Int8.ofInt 9).toInt32 = 9 := by decide +kernel
theorem cb8 : (Int8.ofInt 8).toInt32 = 8 := by decide +kernel
theorem c11_169 : cal 11 169 = some 68 := by decide +kernel
theorem mf68 : mKd 68 = 0 ∧ mNp 68 = 1 ∧ mMx 68 = 4 ∧ mOw 68 = 8 := by decide +kernel
theorem q11_175 : fld 11 175 = some (8, 5) ∧ ftc 8 5 = 2 := by decide +kernel
theorem c11_179 : cal 11 179 = some 11 := by decide +kernel
theorem mf11 : mKd 11 = 0 ∧ mNp 11 = 1 ∧ mMx 11 = 2 ∧ mOw 11 = 1 := by decide +kernel
theorem q11_172 : fld 11 172 = some (10, 2) ∧ ftc 10 2 = 2 := by decide +kernel
theorem c11_184 : cal 11 184 = some 71 := by decide +kernel
theorem mf71 : mKd 71 = 0 ∧ mNp 71 = 2 ∧ mMx 71 = 3 ∧ mOw 71 = 8 := by decide +kernel
theorem c11_187 : cal 11 187 = some 66 := by decide +kernel
theorem c11_190 : cal 11 190 = some 67 := by decide +kernel
theorem mf67 : mKd 67 = 0 ∧ mNp 67 = 2 ∧ mMx 67 = 5 ∧ mOw 67 = 8 := by decide +kernel
theorem cb11 : (Int8.ofInt 11).toInt32 = 11 := by decide +kernel
theorem c11_193 : cal 11 193 = some 100 := by decide +kernel
theorem mf100 : mKd 100 = 0 ∧ mNp 100 = 1 ∧ mMx 100 = 2 ∧ mOw 100 = 10 := by decide +kernel
theorem w11_73 : fld 11 73 = some (11, 8) ∧ ftc 11 8 = 0 ∧ (fQ 11 8).2.2 = false := by decide +kernel
theorem c11_196 : cal 11 196 = some 105 := by decide +kernel
theorem c11_200 : cal 11 200 = some 14 := by decide +kernel
theorem mf14 : mKd 14 = 0 ∧ mNp 14 = 1 ∧ mMx 14 = 2 ∧ mOw 14 = 2 := by decide +kernel
theorem c11_205 : cal 11 205 = some 101 := by decide +kernel
theorem c11_208 : cal 11 208 = some 165 := by decide +kernel
theorem mf165 : mKd 165 = 0 ∧ mNp 165 = 1 ∧ mMx 165 = 2 ∧ mOw 165 = 11 := by decide +kernel
theorem c11_211 : cal 11 211 = some 166 := by decide +kernel
theorem mf166 : mKd 166 = 0 ∧ mNp 166 = 2 ∧ mMx 166 = 3 ∧ mOw 166 = 11 := by decide +kernel
theorem c11_214 : cal 11 214 = some 110 := by decide +kernel
theorem c11_217 : cal 11 217 = some 93 := by decide +kernel
theorem mf93 : mKd 93 = 0 ∧ mNp 93 = 2 ∧ mMx 93 = 6 ∧ mOw 93 = 10 := by decide +kernel
theorem c11_220 : cal 11 220 = some 112 := by decide +kernel
theorem mf112 : mKd 112 = 0 ∧ mNp 112 = 2 ∧ mMx 112 = 6 ∧ mOw 112 = 10 := by decide +kernel
theorem c11_223 : cal 11 223 = some 111 := by decide +kernel
theorem mf111 : mKd 111 = 0 ∧ mNp 111 = 2 ∧ mMx 111 = 3 ∧ mOw 111 = 10 := by decide +kernel
theorem nd135_74 : nds 135 74 = [] := by decide +kernel
theorem c11_226 : cal 11 226 = some 103 := by decide +kernel
theorem mf103 : mKd 103 = 0 ∧ mNp 103 = 0 ∧ mMx 103 = 3 ∧ mOw 103 = 10 := by decide +kernel
theorem c11_229 : cal 11 229 = some 91 := by decide +kernel
theorem c11_232 : cal 11 232 = some 95 := by decide +kernel
theorem mf95 : mKd 95 = 0 ∧ mNp 95 = 0 ∧ mMx 95 = 2 ∧ mOw 95 = 10 := by decide +kernel
theorem q11_235 : fld 11 235 = some (10, 18) ∧ (ftc 10 18 = 0 ∨ ftc 10 18 = 3) := by decide +kernel
theorem q11_238 : fld 11 238 = some (10, 17) ∧ (ftc 10 17 = 0 ∨ ftc 10 17 = 3) := by decide +kernel
theorem q11_241 : fld 11 241 = some (1, 1) ∧ ftc 1 1 = 2 := by decide +kernel
theorem q11_10 : fld 11 10 = some (11, 0) ∧ ftc 11 0 = 2 := by decide +kernel
theorem q11_244 : fld 11 244 = some (10, 4) ∧ ftc 10 4 = 2 := by decide +kernel
theorem c11_248 : cal 11 248 = some 32 := by decide +kernel
theorem nd139_115 : nds 139 115 = [] := by decide +kernel
theorem c11_252 : cal 11 252 = some 31 := by decide +kernel
theorem c11_256 : cal 11 256 = some 92 := by decide +kernel
theorem mf92 : mKd 92 = 0 ∧ mNp 92 = 1 ∧ mMx 92 = 2 ∧ mOw 92 = 10 := by decide +kernel
theorem nd141_19 : nds 141 19 = [] := by decide +kernel
theorem q11_39 : fld 11 39 = some (11, 3) ∧ ftc 11 3 = 2 := by decide +kernel
theorem c11_259 : cal 11 259 = some 39 := by decide +kernel
theorem mf39 : mKd 39 = 0 ∧ mNp 39 = 1 ∧ mMx 39 = 3 ∧ mOw 39 = 6 := by decide +kernel
theorem q11_262 : fld 11 262 = some (6, 6) ∧ (ftc 6 6 = 0 ∨ ftc 6 6 = 3) := by decide +kernel
theorem c11_265 : cal 11 265 = some 44 := by decide +kernel
theorem mf44 : mKd 44 = 0 ∧ mNp 44 = 0 ∧ mMx 44 = 3 ∧ mOw 44 = 6 := by decide +kernel
theorem c11_268 : cal 11 268 = some 45 := by decide +kernel
theorem mf45 : mKd 45 = 0 ∧ mNp 45 = 0 ∧ mMx 45 = 3 ∧ mOw 45 = 6 := by decide +kernel
theorem nd142_79 : nds 142 79 = [] := by decide +kernel
theorem q11_271 : fld 11 271 = some (6, 3) ∧ ftc 6 3 = 2 := by decide +kernel
theorem q11_272 : fld 11 272 = some (6, 4) ∧ ftc 6 4 = 2 := by decide +kernel
theorem c11_273 : cal 11 273 = some 37 := by decide +kernel
theorem q11_69 : fld 11 69 = some (11, 7) ∧ ftc 11 7 = 2 := by decide +kernel
theorem c11_277 : cal 11 277 = some 28 := by decide +kernel
theorem c11_281 : cal 11 281 = some 74 := by decide +kernel
theorem c11_285 : cal 11 285 = some 73 := by decide +kernel
theorem c11_289 : cal 11 289 = some 27 := by decide +kernel
theorem kk11_292 : kL 11 292 = some 1000 := by decide +kernel
theorem nd147_41 : nds 147 41 = [] := by decide +kernel
theorem c11_294 : cal 11 294 = some 75 := by decide +kernel
theorem mf75 : mKd 75 = 0 ∧ mNp 75 = 2 ∧ mMx 75 = 6 ∧ mOw 75 = 8 := by decide +kernel
theorem q11_46 : fld 11 46 = some (11, 4) ∧ ftc 11 4 = 2 := by decide +kernel
theorem c11_298 : cal 11 298 = some 78 := by decide +kernel
theorem q11_301 : fld 11 301 = some (9, 3) ∧ ftc 9 3 = 2 := by decide +kernel
theorem c11_305 : cal 11 305 = some 81 := by decide +kernel
theorem mf81 : mKd 81 = 0 ∧ mNp 81 = 0 ∧ mMx 81 = 16 ∧ mOw 81 = 9 := by decide +kernel
theorem q11_311 : fld 11 311 = some (9, 4) ∧ ftc 9 4 = 2 := by decide +kernel
theorem q11_308 : fld 11 308 = some (9, 5) ∧ ftc 9 5 = 2 := by decide +kernel
theorem nd149_64 : nds 149 64 = [] := by decide +kernel
theorem c11_314 : cal 11 314 = some 83 := by decide +kernel
theorem mf83 : mKd 83 = 0 ∧ mNp 83 = 0 ∧ mMx 83 = 4 ∧ mOw 83 = 9 := by decide +kernel
theorem q11_317 : fld 11 317 = some (9, 6) ∧ ftc 9 6 = 2 := by decide +kernel
theorem c11_320 : cal 11 320 = some 76 := by decide +kernel
theorem mf76 : mKd 76 = 0 ∧ mNp 76 = 2 ∧ mMx 76 = 5 ∧ mOw 76 = 8 := by decide +kernel
theorem c11_323 : cal 11 323 = some 85 := by decide +kernel
theorem mf85 : mKd 85 = 0 ∧ mNp 85 = 1 ∧ mMx 85 = 5 ∧ mOw 85 = 9 := by decide +kernel
theorem q11_326 : fld 11 326 = some (9, 7) ∧ ftc 9 7 = 2 := by decide +kernel
theorem c11_329 : cal 11 329 = some 114 := by decide +kernel
theorem c11_332 : cal 11 332 = some 115 := by decide +kernel
theorem c11_335 : cal 11 335 = some 116 := by decide +kernel
theorem mf116 : mKd 116 = 0 ∧ mNp 116 = 2 ∧ mMx 116 = 5 ∧ mOw 116 = 10 := by decide +kernel
theorem nd153_106 : nds 153 106 = [] := by decide +kernel
theorem c11_338 : cal 11 338 = some 29 := by decide +kernel
theorem q11_341 : fld 11 341 = some (2, 2) ∧ ftc 2 2 = 2 := by decide +kernel
theorem c11_344 : cal 11 344 = some 172 := by decide +kernel
theorem pn11_344 : prm 11 344 = none := by decide +kernel
theorem c11_348 : cal 11 348 = some 170 := by decide +kernel
theorem pn11_348 : prm 11 348 = none := by decide +kernel
theorem k11_352 : kI 11 352 = some 100000 := by decide +kernel
theorem c11_353 : cal 11 353 = some 7 := by decide +kernel
theorem c11_357 : cal 11 357 = some 4 := by decide +kernel
theorem p11_361 : prm 11 361 = some 4 := by decide +kernel
theorem p11_367 : prm 11 367 = some 1 := by decide +kernel
theorem p11_370 : prm 11 370 = some 0 := by decide +kernel
theorem c11_373 : cal 11 373 = some 51 := by decide +kernel
theorem c11_380 : cal 11 380 = some 33 := by decide +kernel
theorem c11_377 : cal 11 377 = some 3 := by decide +kernel
theorem nd156_124 : nds 156 124 = [] := by decide +kernel
theorem c11_383 : cal 11 383 = some 36 := by decide +kernel
theorem c11_386 : cal 11 386 = some 52 := by decide +kernel
theorem mf52 : mKd 52 = 0 ∧ mNp 52 = 0 ∧ mMx 52 = 5 ∧ mOw 52 = 7 := by decide +kernel
theorem q11_389 : fld 11 389 = some (7, 5) ∧ (ftc 7 5 = 0 ∨ ftc 7 5 = 3) := by decide +kernel
theorem q11_392 : fld 11 392 = some (7, 6) ∧ (ftc 7 6 = 0 ∨ ftc 7 6 = 3) := by decide +kernel
theorem c11_395 : cal 11 395 = some 50 := by decide +kernel
theorem c11_398 : cal 11 398 = some 54 := by decide +kernel
theorem c11_401 : cal 11 401 = some 55 := by decide +kernel
theorem mf55 : mKd 55 = 0 ∧ mNp 55 = 0 ∧ mMx 55 = 4 ∧ mOw 55 = 7 := by decide +kernel
theorem swd_4 {a : Int32} (h0 : ¬ a = 0) (h1 : ¬ a = 1) (h2 : ¬ a = 2) (h3 : ¬ a = 3) : a.toInt < 0 ∨ 3 < a.toInt := by
  have g0 : a.toInt ≠ 0 := fun q => h0 (Int32.toInt_inj.mp q)
  have g1 : a.toInt ≠ 1 := fun q => h1 (Int32.toInt_inj.mp q)
  have g2 : a.toInt ≠ 2 := fun q => h2 (Int32.toInt_inj.mp q)
  have g3 : a.toInt ≠ 3 := fun q => h3 (Int32.toInt_inj.mp q)
  omega
theorem q11_404 : fld 11 404 = some (2, 8) ∧ (ftc 2 8 = 0 ∨ ftc 2 8 = 3) := by decide +kernel
theorem c11_407 : cal 11 407 = some 57 := by decide +kernel
theorem mf57 : mKd 57 = 0 ∧ mNp 57 = 1 ∧ mMx 57 = 4 ∧ mOw 57 = 7 := by decide +kernel
theorem k11_410 : kI 11 410 = some 1073741824 := by decide +kernel
theorem c11_411 : cal 11 411 = some 56 := by decide +kernel
theorem mf56 : mKd 56 = 0 ∧ mNp 56 = 2 ∧ mMx 56 = 5 ∧ mOw 56 = 7 := by decide +kernel
theorem nd159_92 : nds 159 92 = [] := by decide +kernel
theorem nd159_38 : nds 159 38 = [5] := by decide +kernel
theorem nd160_18 : nds 160 18 = [] := by decide +kernel
theorem nd160_53 : nds 160 53 = [] := by decide +kernel
theorem csm180 : (Int16.ofInt (-180)).toInt32 = (-180) := by decide +kernel
theorem q11_62 : fld 11 62 = some (11, 6) ∧ ftc 11 6 = 2 := by decide +kernel
theorem c11_414 : cal 11 414 = some 23 := by decide +kernel
theorem mf23 : mKd 23 = 0 ∧ mNp 23 = 4 ∧ mMx 23 = 7 ∧ mOw 23 = 4 := by decide +kernel
theorem nd162_113 : nds 162 113 = [] := by decide +kernel
theorem nd162_58 : nds 162 58 = [8] := by decide +kernel
theorem nd165_17 : nds 165 17 = [] := by decide +kernel
theorem nd166_32 : nds 166 32 = [] := by decide +kernel
theorem nd167_15 : nds 167 15 = [] := by decide +kernel
theorem nd168_26 : nds 168 26 = [] := by decide +kernel
theorem nd169_37 : nds 169 37 = [] := by decide +kernel
theorem nd170_13 : nds 170 13 = [] := by decide +kernel
theorem kk11_417 : kL 11 417 = some 4294967296 := by decide +kernel
theorem kk11_419 : kL 11 419 = some 32768 := by decide +kernel
theorem nd171_19 : nds 171 19 = [] := by decide +kernel
theorem kk11_421 : kL 11 421 = some 1073741824 := by decide +kernel
theorem nd171_21 : nds 171 21 = [6] := by decide +kernel
theorem kk11_423 : kL 11 423 = some 1000000 := by decide +kernel
theorem c11_425 : cal 11 425 = some 5 := by decide +kernel
theorem c11_428 : cal 11 428 = some 171 := by decide +kernel
theorem pn11_428 : prm 11 428 = none := by decide +kernel
theorem nd173_21 : nds 173 21 = [] := by decide +kernel
theorem q12_108 : fld 12 108 = some (12, 0) ∧ (ftc 12 0 = 0 ∨ ftc 12 0 = 3) := by decide +kernel
theorem w12_108 : fld 12 108 = some (12, 0) ∧ ftc 12 0 = 0 ∧ (fQ 12 0).2.2 = false := by decide +kernel
theorem nd181_15 : nds 181 15 = [] := by decide +kernel
theorem ci360 : Int32.ofInt 360 = 360 := by decide +kernel
theorem cs4000 : (Int16.ofInt 4000).toInt32 = 4000 := by decide +kernel
theorem k12_115 : kI 12 115 = some 40500 := by decide +kernel
theorem c12_111 : cal 12 111 = some 182 := by decide +kernel
theorem pn12_111 : prm 12 111 = none := by decide +kernel
theorem mf182 : mKd 182 = 1 ∧ mNp 182 = 1 ∧ mMx 182 = 3 := by decide +kernel
theorem kk12_116 : kL 12 116 = some 3037000499 := by decide +kernel
theorem cl1 : Int64.ofNat ((1 : Fin 2) : Nat) = 1 := by decide +kernel
theorem kk12_118 : kL 12 118 = some 2 := by decide +kernel
theorem nd184_48 : nds 184 48 = [] := by decide +kernel
theorem nd184_7 : nds 184 7 = [6] := by decide +kernel
theorem nd185_23 : nds 185 23 = [] := by decide +kernel
theorem c12_120 : cal 12 120 = some 185 := by decide +kernel
theorem pn12_120 : prm 12 120 = none := by decide +kernel
theorem mf185 : mKd 185 = 1 ∧ mNp 185 = 2 ∧ mMx 185 = 2 := by decide +kernel
theorem c12_124 : cal 12 124 = some 183 := by decide +kernel
theorem pn12_124 : prm 12 124 = none := by decide +kernel
theorem mf183 : mKd 183 = 1 ∧ mNp 183 = 1 ∧ mMx 183 = 1 := by decide +kernel
theorem w12_127 : fld 12 127 = some (12, 23) ∧ ftc 12 23 = 0 ∧ (fQ 12 23).2.2 = false := by decide +kernel
theorem w12_130 : fld 12 130 = some (12, 24) ∧ ftc 12 24 = 0 ∧ (fQ 12 24).2.2 = false := by decide +kernel
theorem w12_133 : fld 12 133 = some (12, 25) ∧ ftc 12 25 = 0 ∧ (fQ 12 25).2.2 = false := by decide +kernel
theorem c12_136 : cal 12 136 = some 188 := by decide +kernel
theorem pn12_136 : prm 12 136 = none := by decide +kernel
theorem mf188 : mKd 188 = 1 ∧ mNp 188 = 6 ∧ mMx 188 = 12 := by decide +kernel
theorem kk12_140 : kL 12 140 = some 1000000 := by decide +kernel
theorem nd190_30 : nds 190 30 = [] := by decide +kernel
theorem c12_142 : cal 12 142 = some 190 := by decide +kernel
theorem pn12_142 : prm 12 142 = none := by decide +kernel
theorem mf190 : mKd 190 = 1 ∧ mNp 190 = 3 ∧ mMx 190 = 5 := by decide +kernel
theorem nd191_3 : nds 191 3 = [] := by decide +kernel
theorem q12_50 : fld 12 50 = some (12, 17) ∧ ftc 12 17 = 2 := by decide +kernel
theorem q12_53 : fld 12 53 = some (12, 18) ∧ ftc 12 18 = 2 := by decide +kernel
theorem q12_56 : fld 12 56 = some (12, 19) ∧ ftc 12 19 = 2 := by decide +kernel
theorem c12_146 : cal 12 146 = some 189 := by decide +kernel
theorem pn12_146 : prm 12 146 = none := by decide +kernel
theorem mf189 : mKd 189 = 1 ∧ mNp 189 = 3 ∧ mMx 189 = 6 := by decide +kernel
theorem c12_150 : cal 12 150 = some 192 := by decide +kernel
theorem mf192 : mKd 192 = 0 ∧ mNp 192 = 2 ∧ mMx 192 = 3 ∧ mOw 192 = 12 := by decide +kernel
theorem c12_154 : cal 12 154 = some 193 := by decide +kernel
theorem mf193 : mKd 193 = 0 ∧ mNp 193 = 1 ∧ mMx 193 = 2 ∧ mOw 193 = 12 := by decide +kernel
theorem c12_158 : cal 12 158 = some 191 := by decide +kernel
theorem pn12_158 : prm 12 158 = none := by decide +kernel
theorem mf191 : mKd 191 = 1 ∧ mNp 191 = 2 ∧ mMx 191 = 5 := by decide +kernel
theorem q12_16 : fld 12 16 = some (12, 5) ∧ (ftc 12 5 = 0 ∨ ftc 12 5 = 3) := by decide +kernel
theorem kk12_162 : kL 12 162 = some 1000 := by decide +kernel
theorem c12_164 : cal 12 164 = some 184 := by decide +kernel
theorem pn12_164 : prm 12 164 = none := by decide +kernel
theorem mf184 : mKd 184 = 1 ∧ mNp 184 = 1 ∧ mMx 184 = 8 := by decide +kernel
theorem p12_168 : prm 12 168 = some 3 := by decide +kernel
theorem q12_38 : fld 12 38 = some (12, 13) ∧ ftc 12 13 = 2 := by decide +kernel
theorem q12_59 : fld 12 59 = some (12, 20) ∧ ftc 12 20 = 2 := by decide +kernel
theorem q12_62 : fld 12 62 = some (12, 21) ∧ ftc 12 21 = 2 := by decide +kernel
theorem q12_65 : fld 12 65 = some (12, 22) ∧ ftc 12 22 = 2 := by decide +kernel
theorem c12_174 : cal 12 174 = some 196 := by decide +kernel
theorem mf196 : mKd 196 = 0 ∧ mNp 196 = 4 ∧ mMx 196 = 10 ∧ mOw 196 = 12 := by decide +kernel
theorem c12_178 : cal 12 178 = some 181 := by decide +kernel
theorem pn12_178 : prm 12 178 = none := by decide +kernel
theorem mf181 : mKd 181 = 1 ∧ mNp 181 = 3 ∧ mMx 181 = 3 := by decide +kernel
theorem k12_182 : kI 12 182 = some 100000 := by decide +kernel
theorem q12_186 : fld 12 186 = some (12, 1) ∧ (ftc 12 1 = 0 ∨ ftc 12 1 = 3) := by decide +kernel
theorem c12_183 : cal 12 183 = some 178 := by decide +kernel
theorem mf178 : mKd 178 = 0 ∧ mNp 178 = 1 ∧ mMx 178 = 2 ∧ mOw 178 = 12 := by decide +kernel
theorem q12_28 : fld 12 28 = some (12, 10) ∧ ftc 12 10 = 2 := by decide +kernel
theorem q12_32 : fld 12 32 = some (12, 11) ∧ ftc 12 11 = 2 := by decide +kernel
theorem q12_35 : fld 12 35 = some (12, 12) ∧ ftc 12 12 = 2 := by decide +kernel
theorem c12_189 : cal 12 189 = some 187 := by decide +kernel
theorem mf187 : mKd 187 = 0 ∧ mNp 187 = 2 ∧ mMx 187 = 3 ∧ mOw 187 = 12 := by decide +kernel
theorem q12_127 : fld 12 127 = some (12, 23) ∧ (ftc 12 23 = 0 ∨ ftc 12 23 = 3) := by decide +kernel
theorem q12_130 : fld 12 130 = some (12, 24) ∧ (ftc 12 24 = 0 ∨ ftc 12 24 = 3) := by decide +kernel
theorem q12_133 : fld 12 133 = some (12, 25) ∧ (ftc 12 25 = 0 ∨ ftc 12 25 = 3) := by decide +kernel
theorem w12_186 : fld 12 186 = some (12, 1) ∧ ftc 12 1 = 0 ∧ (fQ 12 1).2.2 = false := by decide +kernel
theorem c12_193 : cal 12 193 = some 179 := by decide +kernel
theorem mf179 : mKd 179 = 0 ∧ mNp 179 = 1 ∧ mMx 179 = 2 ∧ mOw 179 = 12 := by decide +kernel
theorem nd199_26 : nds 199 26 = [] := by decide +kernel
theorem q12_196 : fld 12 196 = some (12, 2) ∧ (ftc 12 2 = 0 ∨ ftc 12 2 = 3) := by decide +kernel
theorem c12_199 : cal 12 199 = some 199 := by decide +kernel
theorem pn12_199 : prm 12 199 = none := by decide +kernel
theorem mf199 : mKd 199 = 1 ∧ mNp 199 = 2 ∧ mMx 199 = 2 := by decide +kernel
theorem c12_203 : cal 12 203 = some 200 := by decide +kernel
theorem mf200 : mKd 200 = 0 ∧ mNp 200 = 1 ∧ mMx 200 = 2 ∧ mOw 200 = 12 := by decide +kernel
theorem q12_41 : fld 12 41 = some (12, 14) ∧ ftc 12 14 = 2 := by decide +kernel
theorem q12_44 : fld 12 44 = some (12, 15) ∧ ftc 12 15 = 2 := by decide +kernel
theorem q12_47 : fld 12 47 = some (12, 16) ∧ ftc 12 16 = 2 := by decide +kernel
theorem c12_207 : cal 12 207 = some 186 := by decide +kernel
theorem mf186 : mKd 186 = 0 ∧ mNp 186 = 2 ∧ mMx 186 = 4 ∧ mOw 186 = 12 := by decide +kernel
theorem w12_196 : fld 12 196 = some (12, 2) ∧ ftc 12 2 = 0 ∧ (fQ 12 2).2.2 = false := by decide +kernel
theorem c12_210 : cal 12 210 = some 201 := by decide +kernel
theorem mf201 : mKd 201 = 0 ∧ mNp 201 = 1 ∧ mMx 201 = 2 ∧ mOw 201 = 12 := by decide +kernel
theorem nd203_26 : nds 203 26 = [] := by decide +kernel
theorem q12_7 : fld 12 7 = some (12, 3) ∧ (ftc 12 3 = 0 ∨ ftc 12 3 = 3) := by decide +kernel
theorem q12_13 : fld 12 13 = some (12, 4) ∧ (ftc 12 4 = 0 ∨ ftc 12 4 = 3) := by decide +kernel
theorem w12_7 : fld 12 7 = some (12, 3) ∧ ftc 12 3 = 0 ∧ (fQ 12 3).2.2 = false := by decide +kernel
theorem w12_13 : fld 12 13 = some (12, 4) ∧ ftc 12 4 = 0 ∧ (fQ 12 4).2.2 = false := by decide +kernel
theorem w12_16 : fld 12 16 = some (12, 5) ∧ ftc 12 5 = 0 ∧ (fQ 12 5).2.2 = false := by decide +kernel
theorem w12_213 : fld 12 213 = some (12, 6) ∧ ftc 12 6 = 0 ∧ (fQ 12 6).2.2 = false := by decide +kernel
theorem w12_19 : fld 12 19 = some (12, 7) ∧ ftc 12 7 = 0 ∧ (fQ 12 7).2.2 = false := by decide +kernel
theorem w12_22 : fld 12 22 = some (12, 8) ∧ ftc 12 8 = 0 ∧ (fQ 12 8).2.2 = false := by decide +kernel
theorem w12_25 : fld 12 25 = some (12, 9) ∧ ftc 12 9 = 0 ∧ (fQ 12 9).2.2 = false := by decide +kernel
theorem c12_216 : cal 12 216 = some 210 := by decide +kernel
theorem mf210 : mKd 210 = 0 ∧ mNp 210 = 0 ∧ mMx 210 = 4 ∧ mOw 210 = 12 := by decide +kernel
theorem c12_219 : cal 12 219 = some 293 := by decide +kernel
theorem mf293 : mKd 293 = 0 ∧ mNp 293 = 0 ∧ mMx 293 = 1 ∧ mOw 293 = 12 := by decide +kernel
theorem c12_223 : cal 12 223 = some 291 := by decide +kernel
theorem pn12_223 : prm 12 223 = none := by decide +kernel
theorem mf291 : mKd 291 = 1 ∧ mNp 291 = 1 ∧ mMx 291 = 3 := by decide +kernel
theorem w12_226 : fld 12 226 = some (12, 30) ∧ ftc 12 30 = 0 ∧ (fQ 12 30).2.2 = false := by decide +kernel
theorem q12_68 : fld 12 68 = some (12, 26) ∧ ftc 12 26 = 2 := by decide +kernel
theorem nd208_7 : nds 208 7 = [] := by decide +kernel
theorem nd208_30 : nds 208 30 = [4] := by decide +kernel
theorem q12_226 : fld 12 226 = some (12, 30) ∧ (ftc 12 30 = 0 ∨ ftc 12 30 = 3) := by decide +kernel
theorem nd208_189 : nds 208 189 = [] := by decide +kernel
theorem q12_74 : fld 12 74 = some (12, 28) ∧ ftc 12 28 = 2 := by decide +kernel
theorem q12_77 : fld 12 77 = some (12, 29) ∧ ftc 12 29 = 2 := by decide +kernel
theorem k12_232 : kI 12 232 = some 1000000 := by decide +kernel
theorem c12_233 : cal 12 233 = some 207 := by decide +kernel
theorem mf207 : mKd 207 = 0 ∧ mNp 207 = 1 ∧ mMx 207 = 2 ∧ mOw 207 = 12 := by decide +kernel
theorem nd208_277 : nds 208 277 = [] := by decide +kernel
theorem nd208_223 : nds 208 223 = [] := by decide +kernel
theorem nd208_197 : nds 208 197 = [4] := by decide +kernel
theorem p12_236 : prm 12 236 = some 1 := by decide +kernel
theorem nd208_170 : nds 208 170 = [] := by decide +kernel
theorem nd208_80 : nds 208 80 = [6] := by decide +kernel
theorem nd208_69 : nds 208 69 = [5] := by decide +kernel
theorem nd208_109 : nds 208 109 = [] := by decide +kernel
theorem c12_229 : cal 12 229 = some 195 := by decide +kernel
theorem mf195 : mKd 195 = 0 ∧ mNp 195 = 3 ∧ mMx 195 = 4 ∧ mOw 195 = 12 := by decide +kernel
theorem nd208_164 : nds 208 164 = [] := by decide +kernel
theorem nd209_4 : nds 209 4 = [] := by decide +kernel
theorem nd209_31 : nds 209 31 = [] := by decide +kernel
theorem c12_238 : cal 12 238 = some 208 := by decide +kernel
theorem mf208 : mKd 208 = 0 ∧ mNp 208 = 2 ∧ mMx 208 = 7 ∧ mOw 208 = 12 := by decide +kernel
theorem c12_241 : cal 12 241 = some 209 := by decide +kernel
theorem mf209 : mKd 209 = 0 ∧ mNp 209 = 0 ∧ mMx 209 = 3 ∧ mOw 209 = 12 := by decide +kernel
theorem w12_244 : fld 12 244 = some (12, 31) ∧ ftc 12 31 = 0 ∧ (fQ 12 31).2.2 = false := by decide +kernel
theorem q12_71 : fld 12 71 = some (12, 27) ∧ ftc 12 27 = 2 := by decide +kernel
theorem nd210_57 : nds 210 57 = [] := by decide +kernel
theorem nd210_159 : nds 210 159 = [] := by decide +kernel
theorem nd210_19 : nds 210 19 = [2, 3] := by decide +kernel
theorem nd210_73 : nds 210 73 = [] := by decide +kernel
theorem nd210_151 : nds 210 151 = [] := by decide +kernel
theorem nd211_28 : nds 211 28 = [] := by decide +kernel
theorem nd211_4 : nds 211 4 = [] := by decide +kernel
theorem nd212_5 : nds 212 5 = [] := by decide +kernel
theorem nd212_45 : nds 212 45 = [] := by decide +kernel
theorem nd213_47 : nds 213 47 = [] := by decide +kernel
theorem c12_247 : cal 12 247 = some 212 := by decide +kernel
theorem mf212 : mKd 212 = 0 ∧ mNp 212 = 2 ∧ mMx 212 = 5 ∧ mOw 212 = 12 := by decide +kernel
theorem nd213_78 : nds 213 78 = [] := by decide +kernel
theorem nd213_4 : nds 213 4 = [4] := by decide +kernel
theorem nd213_77 : nds 213 77 = [] := by decide +kernel
theorem w12_250 : fld 12 250 = some (12, 32) ∧ ftc 12 32 = 1 ∧ (fQ 12 32).2.2 = false := by decide +kernel
theorem w12_254 : fld 12 254 = some (12, 33) ∧ ftc 12 33 = 1 ∧ (fQ 12 33).2.2 = false := by decide +kernel
theorem w12_257 : fld 12 257 = some (12, 34) ∧ ftc 12 34 = 1 ∧ (fQ 12 34).2.2 = false := by decide +kernel
theorem w12_260 : fld 12 260 = some (12, 35) ∧ ftc 12 35 = 1 ∧ (fQ 12 35).2.2 = false := by decide +kernel
theorem nd215_13 : nds 215 13 = [] := by decide +kernel
theorem q12_250 : fld 12 250 = some (12, 32) ∧ ftc 12 32 = 1 := by decide +kernel
theorem q12_254 : fld 12 254 = some (12, 33) ∧ ftc 12 33 = 1 := by decide +kernel
theorem q12_257 : fld 12 257 = some (12, 34) ∧ ftc 12 34 = 1 := by decide +kernel
theorem q12_260 : fld 12 260 = some (12, 35) ∧ ftc 12 35 = 1 := by decide +kernel
theorem c12_263 : cal 12 263 = some 214 := by decide +kernel
theorem mf214 : mKd 214 = 0 ∧ mNp 214 = 0 ∧ mMx 214 = 1 ∧ mOw 214 = 12 := by decide +kernel
theorem c12_266 : cal 12 266 = some 197 := by decide +kernel
theorem mf197 : mKd 197 = 0 ∧ mNp 197 = 1 ∧ mMx 197 = 3 ∧ mOw 197 = 12 := by decide +kernel
theorem nd216_7 : nds 216 7 = [] := by decide +kernel
theorem nd216_97 : nds 216 97 = [] := by decide +kernel
theorem c12_269 : cal 12 269 = some 215 := by decide +kernel
theorem mf215 : mKd 215 = 0 ∧ mNp 215 = 5 ∧ mMx 215 = 10 ∧ mOw 215 = 12 := by decide +kernel
theorem c12_273 : cal 12 273 = some 218 := by decide +kernel
theorem mf218 : mKd 218 = 0 ∧ mNp 218 = 0 ∧ mMx 218 = 1 ∧ mOw 218 = 12 := by decide +kernel
theorem nd217_83 : nds 217 83 = [] := by decide +kernel
theorem c12_276 : cal 12 276 = some 213 := by decide +kernel
theorem mf213 : mKd 213 = 0 ∧ mNp 213 = 1 ∧ mMx 213 = 5 ∧ mOw 213 = 12 := by decide +kernel
theorem c12_279 : cal 12 279 = some 216 := by decide +kernel
theorem mf216 : mKd 216 = 0 ∧ mNp 216 = 5 ∧ mMx 216 = 10 ∧ mOw 216 = 12 := by decide +kernel
theorem c12_283 : cal 12 283 = some 219 := by decide +kernel
theorem mf219 : mKd 219 = 0 ∧ mNp 219 = 1 ∧ mMx 219 = 3 ∧ mOw 219 = 12 := by decide +kernel
theorem c12_287 : cal 12 287 = some 217 := by decide +kernel
theorem mf217 : mKd 217 = 0 ∧ mNp 217 = 0 ∧ mMx 217 = 1 ∧ mOw 217 = 12 := by decide +kernel
theorem q12_244 : fld 12 244 = some (12, 31) ∧ (ftc 12 31 = 0 ∨ ftc 12 31 = 3) := by decide +kernel
theorem c12_291 : cal 12 291 = some 220 := by decide +kernel
theorem mf220 : mKd 220 = 0 ∧ mNp 220 = 1 ∧ mMx 220 = 3 ∧ mOw 220 = 12 := by decide +kernel
theorem q12_80 : fld 12 80 = some (12, 36) ∧ ftc 12 36 = 2 := by decide +kernel
theorem q12_83 : fld 12 83 = some (12, 37) ∧ ftc 12 37 = 2 := by decide +kernel
theorem q12_86 : fld 12 86 = some (12, 38) ∧ ftc 12 38 = 2 := by decide +kernel
theorem nd221_6 : nds 221 6 = [] := by decide +kernel
theorem nd223_4 : nds 223 4 = [] := by decide +kernel
theorem nd223_57 : nds 223 57 = [] := by decide +kernel
theorem c12_294 : cal 12 294 = some 223 := by decide +kernel
theorem mf223 : mKd 223 = 0 ∧ mNp 223 = 0 ∧ mMx 223 = 3 ∧ mOw 223 = 12 := by decide +kernel
theorem c12_297 : cal 12 297 = some 224 := by decide +kernel
theorem mf224 : mKd 224 = 0 ∧ mNp 224 = 1 ∧ mMx 224 = 2 ∧ mOw 224 = 12 := by decide +kernel
theorem nd225_13 : nds 225 13 = [] := by decide +kernel
theorem nd225_59 : nds 225 59 = [] := by decide +kernel
theorem c12_300 : cal 12 300 = some 225 := by decide +kernel
theorem mf225 : mKd 225 = 0 ∧ mNp 225 = 0 ∧ mMx 225 = 4 ∧ mOw 225 = 12 := by decide +kernel
theorem c12_303 : cal 12 303 = some 227 := by decide +kernel
theorem mf227 : mKd 227 = 0 ∧ mNp 227 = 0 ∧ mMx 227 = 1 ∧ mOw 227 = 12 := by decide +kernel
theorem nd228_41 : nds 228 41 = [] := by decide +kernel
theorem kk12_307 : kL 12 307 = some 100 := by decide +kernel
theorem c12_309 : cal 12 309 = some 230 := by decide +kernel
theorem mf230 : mKd 230 = 0 ∧ mNp 230 = 2 ∧ mMx 230 = 3 ∧ mOw 230 = 12 := by decide +kernel
theorem c12_312 : cal 12 312 = some 229 := by decide +kernel
theorem mf229 : mKd 229 = 0 ∧ mNp 229 = 1 ∧ mMx 229 = 2 ∧ mOw 229 = 12 := by decide +kernel
theorem c12_315 : cal 12 315 = some 231 := by decide +kernel
theorem mf231 : mKd 231 = 0 ∧ mNp 231 = 2 ∧ mMx 231 = 3 ∧ mOw 231 = 12 := by decide +kernel
theorem nd233_4 : nds 233 4 = [] := by decide +kernel
theorem p12_318 : prm 12 318 = some 0 := by decide +kernel
theorem c12_321 : cal 12 321 = some 232 := by decide +kernel
theorem mf232 : mKd 232 = 0 ∧ mNp 232 = 3 ∧ mMx 232 = 4 ∧ mOw 232 = 12 := by decide +kernel
theorem nd234_18 : nds 234 18 = [] := by decide +kernel
theorem nd234_7 : nds 234 7 = [3, 5] := by decide +kernel
theorem nd234_61 : nds 234 61 = [] := by decide +kernel
theorem c12_324 : cal 12 324 = some 235 := by decide +kernel
theorem mf235 : mKd 235 = 0 ∧ mNp 235 = 1 ∧ mMx 235 = 2 ∧ mOw 235 = 12 := by decide +kernel
theorem nd236_26 : nds 236 26 = [] := by decide +kernel
theorem nd237_17 : nds 237 17 = [] := by decide +kernel
theorem nd237_4 : nds 237 4 = [3, 4] := by decide +kernel
theorem nd237_63 : nds 237 63 = [] := by decide +kernel
theorem nd237_46 : nds 237 46 = [] := by decide +kernel
theorem c12_327 : cal 12 327 = some 237 := by decide +kernel
theorem mf237 : mKd 237 = 0 ∧ mNp 237 = 0 ∧ mMx 237 = 5 ∧ mOw 237 = 12 := by decide +kernel
theorem c12_330 : cal 12 330 = some 211 := by decide +kernel
theorem mf211 : mKd 211 = 0 ∧ mNp 211 = 1 ∧ mMx 211 = 4 ∧ mOw 211 = 12 := by decide +kernel
theorem nd239_31 : nds 239 31 = [] := by decide +kernel
theorem nd239_4 : nds 239 4 = [] := by decide +kernel
theorem c12_333 : cal 12 333 = some 239 := by decide +kernel
theorem mf239 : mKd 239 = 0 ∧ mNp 239 = 1 ∧ mMx 239 = 4 ∧ mOw 239 = 12 := by decide +kernel
theorem swd_9 {a : Int32} (h0 : ¬ a = 0) (h1 : ¬ a = 1) (h2 : ¬ a = 2) (h3 : ¬ a = 3) (h4 : ¬ a = 4) (h5 : ¬ a = 5) (h6 : ¬ a = 6) (h7 : ¬ a = 7) (h8 : ¬ a = 8) : a.toInt < 0 ∨ 8 < a.toInt := by
  have g0 : a.toInt ≠ 0 := fun q => h0 (Int32.toInt_inj.mp q)
  have g1 : a.toInt ≠ 1 := fun q => h1 (Int32.toInt_inj.mp q)
  have g2 : a.toInt ≠ 2 := fun q => h2 (Int32.toInt_inj.mp q)
  have g3 : a.toInt ≠ 3 := fun q => h3 (Int32.toInt_inj.mp q)
  have g4 : a.toInt ≠ 4 := fun q => h4 (Int32.toInt_inj.mp q)
  have g5 : a.toInt ≠ 5 := fun q => h5 (Int32.toInt_inj.mp q)
  have g6 : a.toInt ≠ 6 := fun q => h6 (Int32.toInt_inj.mp q)
  have g7 : a.toInt ≠ 7 := fun q => h7 (Int32.toInt_inj.mp q)
  have g8 : a.toInt ≠ 8 := fun q => h8 (Int32.toInt_inj.mp q)
  omega
theorem nd241_61 : nds 241 61 = [] := by decide +kernel
theorem nd241_35 : nds 241 35 = [] := by decide +kernel
theorem swd_6 {a : Int32} (h0 : ¬ a = 0) (h1 : ¬ a = 1) (h2 : ¬ a = 2) (h3 : ¬ a = 3) (h4 : ¬ a = 4) (h5 : ¬ a = 5) : a.toInt < 0 ∨ 5 < a.toInt := by
  have g0 : a.toInt ≠ 0 := fun q => h0 (Int32.toInt_inj.mp q)
  have g1 : a.toInt ≠ 1 := fun q => h1 (Int32.toInt_inj.mp q)
  have g2 : a.toInt ≠ 2 := fun q => h2 (Int32.toInt_inj.mp q)
  have g3 : a.toInt ≠ 3 := fun q => h3 (Int32.toInt_inj.mp q)
  have g4 : a.toInt ≠ 4 := fun q => h4 (Int32.toInt_inj.mp q)
  have g5 : a.toInt ≠ 5 := fun q => h5 (Int32.toInt_inj.mp q)
  omega
theorem c12_336 : cal 12 336 = some 194 := by decide +kernel
theorem mf194 : mKd 194 = 0 ∧ mNp 194 = 2 ∧ mMx 194 = 3 ∧ mOw 194 = 12 := by decide +kernel
theorem nd242_34 : nds 242 34 = [] := by decide +kernel
theorem nd243_35 : nds 243 35 = [] := by decide +kernel
theorem nd243_61 : nds 243 61 = [] := by decide +kernel
theorem c12_339 : cal 12 339 = some 221 := by decide +kernel
theorem mf221 : mKd 221 = 0 ∧ mNp 221 = 0 ∧ mMx 221 = 2 ∧ mOw 221 = 12 := by decide +kernel
theorem c12_342 : cal 12 342 = some 222 := by decide +kernel
theorem mf222 : mKd 222 = 0 ∧ mNp 222 = 1 ∧ mMx 222 = 2 ∧ mOw 222 = 12 := by decide +kernel
theorem c12_345 : cal 12 345 = some 180 := by decide +kernel
theorem mf180 : mKd 180 = 0 ∧ mNp 180 = 1 ∧ mMx 180 = 3 ∧ mOw 180 = 12 := by decide +kernel
theorem c12_348 : cal 12 348 = some 226 := by decide +kernel
theorem mf226 : mKd 226 = 0 ∧ mNp 226 = 0 ∧ mMx 226 = 1 ∧ mOw 226 = 12 := by decide +kernel
theorem c12_351 : cal 12 351 = some 228 := by decide +kernel
theorem mf228 : mKd 228 = 0 ∧ mNp 228 = 0 ∧ mMx 228 = 3 ∧ mOw 228 = 12 := by decide +kernel
theorem c12_354 : cal 12 354 = some 233 := by decide +kernel
theorem mf233 : mKd 233 = 0 ∧ mNp 233 = 1 ∧ mMx 233 = 4 ∧ mOw 233 = 12 := by decide +kernel
theorem c12_357 : cal 12 357 = some 234 := by decide +kernel
theorem mf234 : mKd 234 = 0 ∧ mNp 234 = 1 ∧ mMx 234 = 6 ∧ mOw 234 = 12 := by decide +kernel
theorem swd_11 {a : Int32} (h0 : ¬ a = 0) (h1 : ¬ a = 1) (h2 : ¬ a = 2) (h3 : ¬ a = 3) (h4 : ¬ a = 4) (h5 : ¬ a = 5) (h6 : ¬ a = 6) (h7 : ¬ a = 7) (h8 : ¬ a = 8) (h9 : ¬ a = 9) (h10 : ¬ a = 10) : a.toInt < 0 ∨ 10 < a.toInt := by
  have g0 : a.toInt ≠ 0 := fun q => h0 (Int32.toInt_inj.mp q)
  have g1 : a.toInt ≠ 1 := fun q => h1 (Int32.toInt_inj.mp q)
  have g2 : a.toInt ≠ 2 := fun q => h2 (Int32.toInt_inj.mp q)
  have g3 : a.toInt ≠ 3 := fun q => h3 (Int32.toInt_inj.mp q)
  have g4 : a.toInt ≠ 4 := fun q => h4 (Int32.toInt_inj.mp q)
  have g5 : a.toInt ≠ 5 := fun q => h5 (Int32.toInt_inj.mp q)
  have g6 : a.toInt ≠ 6 := fun q => h6 (Int32.toInt_inj.mp q)
  have g7 : a.toInt ≠ 7 := fun q => h7 (Int32.toInt_inj.mp q)
  have g8 : a.toInt ≠ 8 := fun q => h8 (Int32.toInt_inj.mp q)
  have g9 : a.toInt ≠ 9 := fun q => h9 (Int32.toInt_inj.mp q)
  have g10 : a.toInt ≠ 10 := fun q => h10 (Int32.toInt_inj.mp q)
  omega
theorem nd245_5 : nds 245 5 = [] := by decide +kernel
theorem nd245_38 : nds 245 38 = [] := by decide +kernel
theorem c12_360 : cal 12 360 = some 245 := by decide +kernel
theorem mf245 : mKd 245 = 0 ∧ mNp 245 = 2 ∧ mMx 245 = 5 ∧ mOw 245 = 12 := by decide +kernel
theorem nd246_53 : nds 246 53 = [] := by decide +kernel
theorem nd247_39 : nds 247 39 = [] := by decide +kernel
theorem c12_363 : cal 12 363 = some 236 := by decide +kernel
theorem mf236 : mKd 236 = 0 ∧ mNp 236 = 2 ∧ mMx 236 = 3 ∧ mOw 236 = 12 := by decide +kernel
theorem c12_366 : cal 12 366 = some 248 := by decide +kernel
theorem mf248 : mKd 248 = 0 ∧ mNp 248 = 2 ∧ mMx 248 = 3 ∧ mOw 248 = 12 := by decide +kernel
theorem nd249_31 : nds 249 31 = [] := by decide +kernel
theorem nd250_41 : nds 250 41 = [] := by decide +kernel
theorem nd251_81 : nds 251 81 = [] := by decide +kernel
theorem nd251_120 : nds 251 120 = [] := by decide +kernel
theorem nd251_64 : nds 251 64 = [] := by decide +kernel
theorem nd252_23 : nds 252 23 = [] := by decide +kernel
theorem nd252_9 : nds 252 9 = [3, 4] := by decide +kernel
theorem nd252_57 : nds 252 57 = [] := by decide +kernel
theorem nd254_13 : nds 254 13 = [] := by decide +kernel
theorem nd254_68 : nds 254 68 = [] := by decide +kernel
theorem nd255_26 : nds 255 26 = [] := by decide +kernel
theorem c12_369 : cal 12 369 = some 254 := by decide +kernel
theorem mf254 : mKd 254 = 0 ∧ mNp 254 = 1 ∧ mMx 254 = 4 ∧ mOw 254 = 12 := by decide +kernel
theorem nd255_107 : nds 255 107 = [] := by decide +kernel
theorem nd255_72 : nds 255 72 = [] := by decide +kernel
theorem nd255_68 : nds 255 68 = [] := by decide +kernel
theorem nd256_32 : nds 256 32 = [] := by decide +kernel
theorem nd256_4 : nds 256 4 = [] := by decide +kernel
theorem c12_372 : cal 12 372 = some 256 := by decide +kernel
theorem mf256 : mKd 256 = 0 ∧ mNp 256 = 1 ∧ mMx 256 = 4 ∧ mOw 256 = 12 := by decide +kernel
theorem nd257_67 : nds 257 67 = [] := by decide +kernel
theorem c12_375 : cal 12 375 = some 258 := by decide +kernel
theorem mf258 : mKd 258 = 0 ∧ mNp 258 = 1 ∧ mMx 258 = 2 ∧ mOw 258 = 12 := by decide +kernel
theorem nd259_27 : nds 259 27 = [] := by decide +kernel
theorem nd260_12 : nds 260 12 = [] := by decide +kernel
theorem nd261_28 : nds 261 28 = [] := by decide +kernel
theorem q12_89 : fld 12 89 = some (12, 39) ∧ ftc 12 39 = 2 := by decide +kernel
theorem nd261_165 : nds 261 165 = [] := by decide +kernel
theorem nd261_87 : nds 261 87 = [] := by decide +kernel
theorem nd261_4 : nds 261 4 = [4] := by decide +kernel
theorem nd261_70 : nds 261 70 = [] := by decide +kernel
theorem nd262_6 : nds 262 6 = [] := by decide +kernel
theorem w12_378 : fld 12 378 = some (12, 40) ∧ ftc 12 40 = 0 ∧ (fQ 12 40).2.2 = false := by decide +kernel
theorem q12_378 : fld 12 378 = some (12, 40) ∧ (ftc 12 40 = 0 ∨ ftc 12 40 = 3) := by decide +kernel
theorem c12_381 : cal 12 381 = some 261 := by decide +kernel
theorem mf261 : mKd 261 = 0 ∧ mNp 261 = 1 ∧ mMx 261 = 5 ∧ mOw 261 = 12 := by decide +kernel
theorem nd262_39 : nds 262 39 = [] := by decide +kernel
theorem c12_384 : cal 12 384 = some 263 := by decide +kernel
theorem pn12_384 : prm 12 384 = none := by decide +kernel
theorem mf263 : mKd 263 = 1 ∧ mNp 263 = 1 ∧ mMx 263 = 1 := by decide +kernel
theorem c12_387 : cal 12 387 = some 262 := by decide +kernel
theorem mf262 : mKd 262 = 0 ∧ mNp 262 = 1 ∧ mMx 262 = 3 ∧ mOw 262 = 12 := by decide +kernel
theorem nd264_67 : nds 264 67 = [] := by decide +kernel
theorem nd264_119 : nds 264 119 = [] := by decide +kernel
theorem nd264_87 : nds 264 87 = [] := by decide +kernel
theorem nd264_35 : nds 264 35 = [] := by decide +kernel
theorem nd267_4 : nds 267 4 = [] := by decide +kernel
theorem nd268_32 : nds 268 32 = [] := by decide +kernel
theorem nd268_111 : nds 268 111 = [] := by decide +kernel
theorem c12_390 : cal 12 390 = some 268 := by decide +kernel
theorem mf268 : mKd 268 = 0 ∧ mNp 268 = 3 ∧ mMx 268 = 8 ∧ mOw 268 = 12 := by decide +kernel
theorem nd269_37 : nds 269 37 = [] := by decide +kernel
theorem c12_394 : cal 12 394 = some 267 := by decide +kernel
theorem mf267 : mKd 267 = 0 ∧ mNp 267 = 0 ∧ mMx 267 = 4 ∧ mOw 267 = 12 := by decide +kernel
theorem nd271_33 : nds 271 33 = [] := by decide +kernel
theorem nd271_117 : nds 271 117 = [] := by decide +kernel
theorem nd271_100 : nds 271 100 = [] := by decide +kernel
theorem q12_92 : fld 12 92 = some (12, 41) ∧ ftc 12 41 = 2 := by decide +kernel
theorem nd272_2 : nds 272 2 = [] := by decide +kernel
theorem nd272_207 : nds 272 207 = [] := by decide +kernel
theorem nd272_23 : nds 272 23 = [2] := by decide +kernel
theorem c12_397 : cal 12 397 = some 272 := by decide +kernel
theorem mf272 : mKd 272 = 0 ∧ mNp 272 = 0 ∧ mMx 272 = 4 ∧ mOw 272 = 12 := by decide +kernel
theorem c12_400 : cal 12 400 = some 274 := by decide +kernel
theorem mf274 : mKd 274 = 0 ∧ mNp 274 = 0 ∧ mMx 274 = 1 ∧ mOw 274 = 12 := by decide +kernel
theorem nd275_204 : nds 275 204 = [] := by decide +kernel
theorem nd275_72 : nds 275 72 = [10] := by decide +kernel
theorem nd275_82 : nds 275 82 = [11, 13] := by decide +kernel
theorem nd275_175 : nds 275 175 = [] := by decide +kernel
theorem kk12_405 : kL 12 405 = some 9223372036854775807 := by decide +kernel
theorem nd276_170 : nds 276 170 = [] := by decide +kernel
theorem nd276_41 : nds 276 41 = [7] := by decide +kernel
theorem nd276_51 : nds 276 51 = [8, 10] := by decide +kernel
theorem nd276_136 : nds 276 136 = [] := by decide +kernel
theorem nd276_73 : nds 276 73 = [] := by decide +kernel
theorem nd277_36 : nds 277 36 = [] := by decide +kernel
theorem nd277_153 : nds 277 153 = [] := by decide +kernel
theorem nd278_131 : nds 278 131 = [] := by decide +kernel
theorem nd278_49 : nds 278 49 = [7] := by decide +kernel
theorem nd278_98 : nds 278 98 = [] := by decide +kernel
theorem nd278_59 : nds 278 59 = [8] := by decide +kernel
theorem k12_407 : kI 12 407 = some 100001 := by decide +kernel
theorem w12_408 : fld 12 408 = some (12, 42) ∧ ftc 12 42 = 0 ∧ (fQ 12 42).2.2 = false := by decide +kernel
theorem q12_408 : fld 12 408 = some (12, 42) ∧ (ftc 12 42 = 0 ∨ ftc 12 42 = 3) := by decide +kernel
theorem nd280_15 : nds 280 15 = [] := by decide +kernel
theorem nd280_85 : nds 280 85 = [] := by decide +kernel
theorem w12_411 : fld 12 411 = some (12, 43) ∧ ftc 12 43 = 0 ∧ (fQ 12 43).2.2 = false := by decide +kernel
theorem q12_411 : fld 12 411 = some (12, 43) ∧ (ftc 12 43 = 0 ∨ ftc 12 43 = 3) := by decide +kernel
theorem c12_414 : cal 12 414 = some 279 := by decide +kernel
theorem mf279 : mKd 279 = 0 ∧ mNp 279 = 4 ∧ mMx 279 = 10 ∧ mOw 279 = 12 := by decide +kernel
theorem w12_418 : fld 12 418 = some (12, 44) ∧ ftc 12 44 = 0 ∧ (fQ 12 44).2.2 = false := by decide +kernel
theorem c12_421 : cal 12 421 = some 280 := by decide +kernel
theorem mf280 : mKd 280 = 0 ∧ mNp 280 = 2 ∧ mMx 280 = 6 ∧ mOw 280 = 12 := by decide +kernel
theorem nd281_84 : nds 281 84 = [] := by decide +kernel
theorem q12_418 : fld 12 418 = some (12, 44) ∧ (ftc 12 44 = 0 ∨ ftc 12 44 = 3) := by decide +kernel
theorem c12_424 : cal 12 424 = some 283 := by decide +kernel
theorem mf283 : mKd 283 = 0 ∧ mNp 283 = 6 ∧ mMx 283 = 13 ∧ mOw 283 = 12 := by decide +kernel
theorem c12_428 : cal 12 428 = some 285 := by decide +kernel
theorem pn12_428 : prm 12 428 = none := by decide +kernel
theorem mf285 : mKd 285 = 1 ∧ mNp 285 = 1 ∧ mMx 285 = 1 := by decide +kernel
theorem c12_431 : cal 12 431 = some 284 := by decide +kernel
theorem mf284 : mKd 284 = 0 ∧ mNp 284 = 2 ∧ mMx 284 = 3 ∧ mOw 284 = 12 := by decide +kernel
theorem p12_434 : prm 12 434 = some 4 := by decide +kernel
theorem nd286_157 : nds 286 157 = [] := by decide +kernel
theorem nd287_44 : nds 287 44 = [] := by decide +kernel
theorem nd288_13 : nds 288 13 = [] := by decide +kernel
theorem nd288_59 : nds 288 59 = [] := by decide +kernel
theorem c12_437 : cal 12 437 = some 287 := by decide +kernel
theorem mf287 : mKd 287 = 0 ∧ mNp 287 = 2 ∧ mMx 287 = 3 ∧ mOw 287 = 12 := by decide +kernel
theorem c12_440 : cal 12 440 = some 288 := by decide +kernel
theorem mf288 : mKd 288 = 0 ∧ mNp 288 = 0 ∧ mMx 288 = 4 ∧ mOw 288 = 12 := by decide +kernel
theorem p12_443 : prm 12 443 = some 2 := by decide +kernel
theorem nd291_4 : nds 291 4 = [] := by decide +kernel
theorem nd292_47 : nds 292 47 = [2] := by decide +kernel
theorem q12_102 : fld 12 102 = some (12, 47) ∧ ftc 12 47 = 2 := by decide +kernel
theorem nd292_96 : nds 292 96 = [] := by decide +kernel
theorem q12_105 : fld 12 105 = some (12, 48) ∧ ftc 12 48 = 2 := by decide +kernel
theorem nd292_59 : nds 292 59 = [3] := by decide +kernel
theorem nd292_119 : nds 292 119 = [] := by decide +kernel
theorem q12_96 : fld 12 96 = some (12, 45) ∧ ftc 12 45 = 2 := by decide +kernel
theorem q12_99 : fld 12 99 = some (12, 46) ∧ ftc 12 46 = 2 := by decide +kernel
theorem nd292_6 : nds 292 6 = [] := by decide +kernel
theorem c12_445 : cal 12 445 = some 292 := by decide +kernel
theorem mf292 : mKd 292 = 0 ∧ mNp 292 = 0 ∧ mMx 292 = 4 ∧ mOw 292 = 12 := by decide +kernel
theorem q12_213 : fld 12 213 = some (12, 6) ∧ (ftc 12 6 = 0 ∨ ftc 12 6 = 3) := by decide +kernel
theorem q12_19 : fld 12 19 = some (12, 7) ∧ (ftc 12 7 = 0 ∨ ftc 12 7 = 3) := by decide +kernel
theorem c12_448 : cal 12 448 = some 294 := by decide +kernel
theorem mf294 : mKd 294 = 0 ∧ mNp 294 = 2 ∧ mMx 294 = 5 ∧ mOw 294 = 12 := by decide +kernel
theorem c12_451 : cal 12 451 = some 290 := by decide +kernel
theorem pn12_451 : prm 12 451 = none := by decide +kernel
theorem mf290 : mKd 290 = 1 ∧ mNp 290 = 2 ∧ mMx 290 = 3 := by decide +kernel
theorem q12_25 : fld 12 25 = some (12, 9) ∧ (ftc 12 9 = 0 ∨ ftc 12 9 = 3) := by decide +kernel
theorem q12_22 : fld 12 22 = some (12, 8) ∧ (ftc 12 8 = 0 ∨ ftc 12 8 = 3) := by decide +kernel
theorem nd294_5 : nds 294 5 = [] := by decide +kernel
theorem nd294_66 : nds 294 66 = [] := by decide +kernel
theorem nd295_5 : nds 295 5 = [] := by decide +kernel
theorem nd295_64 : nds 295 64 = [] := by decide +kernel
theorem nd296_103 : nds 296 103 = [] := by decide +kernel
theorem c12_454 : cal 12 454 = some 296 := by decide +kernel
theorem mf296 : mKd 296 = 0 ∧ mNp 296 = 4 ∧ mMx 296 = 8 ∧ mOw 296 = 12 := by decide +kernel
theorem nd297_5 : nds 297 5 = [5] := by decide +kernel
theorem nd297_20 : nds 297 20 = [] := by decide +kernel
theorem nd297_48 : nds 297 48 = [] := by decide +kernel
theorem nd298_2 : nds 298 2 = [2] := by decide +kernel
theorem nd298_14 : nds 298 14 = [] := by decide +kernel
theorem c12_458 : cal 12 458 = some 295 := by decide +kernel
theorem mf295 : mKd 295 = 0 ∧ mNp 295 = 2 ∧ mMx 295 = 5 ∧ mOw 295 = 12 := by decide +kernel
theorem c12_461 : cal 12 461 = some 297 := by decide +kernel
theorem mf297 : mKd 297 = 0 ∧ mNp 297 = 2 ∧ mMx 297 = 6 ∧ mOw 297 = 12 := by decide +kernel
theorem c12_464 : cal 12 464 = some 298 := by decide +kernel
theorem mf298 : mKd 298 = 0 ∧ mNp 298 = 0 ∧ mMx 298 = 3 ∧ mOw 298 = 12 := by decide +kernel
theorem nd299_107 : nds 299 107 = [] := by decide +kernel
theorem c12_467 : cal 12 467 = some 301 := by decide +kernel
theorem mf301 : mKd 301 = 0 ∧ mNp 301 = 2 ∧ mMx 301 = 3 ∧ mOw 301 = 12 := by decide +kernel
theorem nd302_82 : nds 302 82 = [] := by decide +kernel
theorem nd302_57 : nds 302 57 = [] := by decide +kernel
theorem nd302_24 : nds 302 24 = [] := by decide +kernel
theorem nd303_6 : nds 303 6 = [] := by decide +kernel
theorem c12_470 : cal 12 470 = some 304 := by decide +kernel
theorem mf304 : mKd 304 = 0 ∧ mNp 304 = 5 ∧ mMx 304 = 19 ∧ mOw 304 = 12 := by decide +kernel
theorem nd305_197 : nds 305 197 = [] := by decide +kernel
theorem nd305_56 : nds 305 56 = [] := by decide +kernel
theorem nd305_135 : nds 305 135 = [] := by decide +kernel
theorem nd305_194 : nds 305 194 = [] := by decide +kernel
theorem c12_474 : cal 12 474 = some 305 := by decide +kernel
theorem mf305 : mKd 305 = 0 ∧ mNp 305 = 4 ∧ mMx 305 = 12 ∧ mOw 305 = 12 := by decide +kernel
theorem nd306_65 : nds 306 65 = [] := by decide +kernel
theorem nd307_124 : nds 307 124 = [] := by decide +kernel
theorem nd307_62 : nds 307 62 = [8] := by decide +kernel
theorem nd307_94 : nds 307 94 = [] := by decide +kernel
theorem k15_265 : kI 15 265 = some 1431655765 := by decide +kernel
theorem k15_266 : kI 15 266 = some 858993459 := by decide +kernel
theorem k15_267 : kI 15 267 = some 252645135 := by decide +kernel
theorem cb16 : (Int8.ofInt 16).toInt32 = 16 := by decide +kernel
theorem cb63 : (Int8.ofInt 63).toInt32 = 63 := by decide +kernel
