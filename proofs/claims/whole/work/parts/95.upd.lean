/-! calls that change what is told -/
def Upd (d sl : Nat) (p : Nat → Nat) (D : Nat → Nat → Int32) (e y y' : Nat) (as : List Value) : Prop := ∃ v st p' D' e', e' ≤ e + 1 ∧ (∀ I J, CK p I J D e → ∃ I' J', den d y (.ref 1 :: as) (S sl p I J) = some (some v, S sl p' I' J') ∧ CK p' I' J' D' e' ∧ Fc I J I' J' ∧ I' 1 8 = st) ∧ ∀ I J, dat I = D → ∃ I' J', den d y' (.ref 46 :: as) (S sl p' I J) = some (some v, S sl p' I' J') ∧ dat I' = D' ∧ Fm I J I' J' ∧ I' 46 0 = st
theorem dat_upD {I : Nat → Nat → Int32} {a k : Nat} {v : Int32} (h : isD a k) : dat (up2 I a k v) = up2 (dat I) a k v := by
  unfold isD at h
  funext b j
  by_cases q : b = a ∧ j = k
  · rw [q.1, q.2, up_s]
    unfold dat
    rw [if_pos h, up_s]
  · rw [up_n q]
    unfold dat
    rw [up_n q]
section UPD
variable {d sl : Nat} {p : Nat → Nat} {I I' : Nat → Nat → Int32} {J J' : Nat → Nat → Int64} {D D' : Nat → Nat → Int32} {e y y' : Nat} {as : List Value}
theorem Agr.upd (h : Agr d sl p D e y y' as) : Upd d sl p D e y y' as := by
  obtain ⟨v, st, h1, h2⟩ := h
  refine ⟨v, st, p, D, e, Nat.le_succ e, fun I J c => ?_, fun I J c => ?_⟩
  · exact h1 I J c
  · obtain ⟨I', J', a1, a2, a3, a4⟩ := h2 I J c
    exact ⟨I', J', a1, a2.trans c, a3, a4⟩
theorem SV.dat (h : SV p I J D) (gd : GD D') (r : ∀ a k, 47 ≤ a → a < 60 → D' a k = D a k) (r1 : D' 46 1 = D 46 1) (r2 : D' 46 2 = D 46 2) (r5 : D' 46 5 = D 46 5) (f : ∀ a k, a < 11 → a ≠ 1 → ¬ (a = 4 ∧ k = 10) → I' a k = I a k) (f4 : ∀ a k, 200 ≤ a → a < 260 → I' a k = I a k) (l1 : I' 11 12 = nI (lk D')) (l2 : I' 11 13 = nI (lst D')) : SV p I' J D' := by
  have hp := h.p60
  have en : nc D' = nc D := by unfold nc; rw [r2]
  have el : nl D' = nl D := by unfold nl; rw [r1]
  have ec : cp D' = cp D := by unfold cp; rw [r5]
  have ep : ∀ i, pv D' i = pv D i := fun i => by unfold pv; rw [r _ _ (by omega) (by omega), r _ _ (by omega) (by omega), r _ _ (by omega) (by omega)]
  have ea : ∀ i, av D' i = av D i := fun i => by unfold av; rw [r _ _ (by omega) (by omega), r _ _ (by omega) (by omega), r _ _ (by omega) (by omega)]
  have ew : ∀ i, wt D' i = wt D i := fun i => by unfold wt; rw [r5, ep, r _ _ (by omega) (by omega), ea]
  refine ⟨gd, fun k hk => by rw [f _ _ (by omega) (by omega) (by omega)]; exact h.sn k hk, hp, h.pij, by rw [f _ _ (by omega) (by omega) (by omega), el]; exact h.lines, by rw [f _ _ (by omega) (by omega) (by omega), en]; exact h.count, by rw [f _ _ (by omega) (by omega) (by omega), ec]; exact h.cap, fun l hl => ?_, fun j hj => by rw [f4 _ _ (by omega) (by omega)]; exact h.slot j hj, fun i hi => ?_, fun i hi => ?_, fun i j hi hj => ?_, l1, l2⟩
  · rw [el] at hl
    rw [f _ _ (by omega) (by omega) (by omega), f _ _ (by omega) (by omega) (by omega), f _ _ (by omega) (by omega) (by omega), r _ _ (by omega) (by omega), r _ _ (by omega) (by omega), r _ _ (by omega) (by omega), ea]
    exact h.tr l hl
  · rw [en] at hi
    have := hp i
    have lv' : lv D' i = lv D i := by unfold lv; rw [r _ _ (by omega) (by omega), r _ _ (by omega) (by omega)]
    rw [f4 _ _ (by omega) (by omega), f4 _ _ (by omega) (by omega), f4 _ _ (by omega) (by omega), f4 _ _ (by omega) (by omega), f4 _ _ (by omega) (by omega), f4 _ _ (by omega) (by omega), f4 _ _ (by omega) (by omega), r _ _ (by omega) (by omega), r _ _ (by omega) (by omega), r _ _ (by omega) (by omega), r _ _ (by omega) (by omega), lv', ew]
    exact h.ck i hi
  · rw [en] at hi
    rw [ep]
    exact h.pole i hi
  · rw [en] at hi hj
    rw [f _ _ (by omega) (by omega) (by omega), show nb D' i j = nb D i j from by unfold nb; rw [ep, ep]]
    exact h.ang i j hi hj
theorem GD.dat (h : GD D) (r : ∀ a k, 47 ≤ a → a < 60 → D' a k = D a k) (r1 : D' 46 1 = D 46 1) (r2 : D' 46 2 = D 46 2) (k3 : ∃ a, 1 ≤ a ∧ a ≤ 45 ∧ D' 46 3 = nI a) (k4 : ∃ a, 2 ≤ a ∧ a ≤ 20 ∧ D' 46 4 = nI a) (k5 : ∃ a, 1 ≤ a ∧ a ≤ 20 ∧ D' 46 5 = nI a) (k6 : ∃ x, x < 360 ∧ D' 46 6 = nI x) (k7 : ∃ x, 1 ≤ x ∧ x ≤ 90 ∧ D' 46 7 = nI x) (k8 : ∃ x, x ≤ 89 ∧ D' 46 8 = nI x) (k9 : ∃ x, x ≤ 45 ∧ D' 46 9 = nI x) : GD D' := by
  have en : nc D' = nc D := by unfold nc; rw [r2]
  have el : nl D' = nl D := by unfold nl; rw [r1]
  obtain ⟨a, a1, a2, a3⟩ := k3
  obtain ⟨b, b1, b2, b3⟩ := k4
  obtain ⟨c, c1, c2, c3⟩ := k5
  have ea : lk D' = a := by unfold lk; rw [a3]; exact cl_n (by omega)
  have eb : lst D' = b := by unfold lst; rw [b3]; exact cl_n (by omega)
  have ec : cp D' = c := by unfold cp; rw [c3]; exact cl_n (by omega)
  have ep : ∀ i, pv D' i = pv D i := fun i => by unfold pv; rw [r _ _ (by omega) (by omega), r _ _ (by omega) (by omega), r _ _ (by omega) (by omega)]
  have ev : ∀ i, av D' i = av D i := fun i => by unfold av; rw [r _ _ (by omega) (by omega), r _ _ (by omega) (by omega), r _ _ (by omega) (by omega)]
  refine ⟨by rw [en]; exact h.n60, by rw [en, r2]; exact h.en, by rw [el]; exact h.m6, by rw [el, r1]; exact h.em, by omega, by omega, by rw [ea]; exact a3, by omega, by omega, by rw [eb]; exact b3, by omega, by omega, by rw [ec]; exact c3, k6, k7, k8, k9, fun l hl => ?_, fun i hi => ?_⟩
  · rw [el] at hl
    rw [r _ _ (by omega) (by omega), r _ _ (by omega) (by omega), r _ _ (by omega) (by omega), ev]
    exact h.li l hl
  · rw [en] at hi
    rw [el, r _ _ (by omega) (by omega), r _ _ (by omega) (by omega), r _ _ (by omega) (by omega), r _ _ (by omega) (by omega), ep]
    exact h.cr i hi
theorem A_link (hD : GD D) (he : e < 1000) (x y : Int32) : Upd (d + 40) sl p D e 122 204 [.int x, .int y] := by
  have n60 := hD.n60
  by_cases hx : ∃ s, 1 ≤ s ∧ s ≤ 45 ∧ x = nI s
  · obtain ⟨a, a1, a2, rfl⟩ := hx
    have w1 : (if nI a < 1 then (0 : Int32) else if nI a ≤ 45 then 1 else 0) = 1 := wj_y (a := 1) (n := 45) a1 a2 (by decide)
    by_cases hy : ∃ s, 2 ≤ s ∧ s ≤ 20 ∧ y = nI s
    · obtain ⟨b, b1, b2, rfl⟩ := hy
      have w2 : (if nI b < 2 then (0 : Int32) else if nI b ≤ 20 then 1 else 0) = 1 := wj_y (a := 2) (n := 20) b1 b2 (by decide)
      obtain ⟨F, hF⟩ : ∃ F, F = up2 (up2 D 46 3 (nI a)) 46 4 (nI b) := ⟨_, rfl⟩
      have f3 : F 46 3 = nI a := by rw [hF, up_nk (by omega), up_s]
      have f4 : F 46 4 = nI b := by rw [hF, up_s]
      have fo : ∀ c k, ¬ (c = 46 ∧ 3 ≤ k ∧ k < 5) → F c k = D c k := fun c k w => by rw [hF, up_n (by omega), up_n (by omega)]
      have gF : GD F := hD.dat (fun c k _ _ => fo _ _ (by omega)) (fo _ _ (by omega)) (fo _ _ (by omega)) ⟨a, a1, a2, f3⟩ ⟨b, b1, b2, f4⟩ ⟨cp D, hD.c1, hD.c20, by rw [fo _ _ (by omega)]; exact hD.ec⟩ (by rw [fo _ _ (by omega)]; exact hD.sd) (by rw [fo _ _ (by omega)]; exact hD.sp) (by rw [fo _ _ (by omega)]; exact hD.sf) (by rw [fo _ _ (by omega)]; exact hD.ss)
      refine ⟨.int (100 * nI (lk D) + nI (lst D)), 0, p, F, e + 1, Nat.le_refl _, fun I J h => ?_, fun I J h => ?_⟩
      · have q1 : up2 (up2 (up2 (up2 I 11 12 (nI a)) 11 13 (nI b)) 4 10 (up2 (up2 I 11 12 (nI a)) 11 13 (nI b) 4 10 + 1)) 1 8 0 11 12 = nI a := by rw [up_na (by omega), up_na (by omega), up_nk (by omega), up_s]
        have q2 : up2 (up2 (up2 (up2 I 11 12 (nI a)) 11 13 (nI b)) 4 10 (up2 (up2 I 11 12 (nI a)) 11 13 (nI b) 4 10 + 1)) 1 8 0 11 13 = nI b := by rw [up_na (by omega), up_na (by omega), up_s]
        have q3 : up2 (up2 (up2 (up2 I 11 12 (nI a)) 11 13 (nI b)) 4 10 (up2 (up2 I 11 12 (nI a)) 11 13 (nI b) 4 10 + 1)) 1 8 0 4 10 = nI (e + 1) := by rw [up_na (by omega), up_s, up_na (by omega), up_na (by omega), h.ed, nI_1]
        have q4 : up2 (up2 (up2 (up2 I 11 12 (nI a)) 11 13 (nI b)) 4 10 (up2 (up2 I 11 12 (nI a)) 11 13 (nI b) 4 10 + 1)) 1 8 0 1 8 = 0 := up_s
        have q5 : ∀ c k, c ≠ 1 → ¬ (c = 11 ∧ 12 ≤ k ∧ k < 14) → ¬ (c = 4 ∧ k = 10) → up2 (up2 (up2 (up2 I 11 12 (nI a)) 11 13 (nI b)) 4 10 (up2 (up2 I 11 12 (nI a)) 11 13 (nI b) 4 10 + 1)) 1 8 0 c k = I c k := fun c k v1 v2 v3 => by rw [up_na v1, up_n v3, up_n (by omega), up_n (by omega)]
        refine ⟨up2 (up2 (up2 (up2 I 11 12 (nI a)) 11 13 (nI b)) 4 10 (up2 (up2 I 11 12 (nI a)) 11 13 (nI b) 4 10 + 1)) 1 8 0, J, ?_, ?_, ⟨fun c k _ _ => q5 _ _ (by omega) (by omega) (by omega), fun _ _ _ _ => rfl⟩, q4⟩
        · rw [E122_0, sp_within, w1, evK_s, E122_7, if_neg (by decide), sp_within, w2, evK_s, E122_17, if_neg (by decide), E87_0, evK_v, E122_54, h.sv.link, h.sv.least, E163_0, evK_s, E122_59]
        · generalize up2 (up2 (up2 (up2 I 11 12 (nI a)) 11 13 (nI b)) 4 10 (up2 (up2 I 11 12 (nI a)) 11 13 (nI b) 4 10 + 1)) 1 8 0 = I1 at q1 q2 q3 q4 q5
          refine h.new he (h.sv.dat gF (fun c k _ _ => fo _ _ (by omega)) (fo _ _ (by omega)) (fo _ _ (by omega)) (fo _ _ (by omega)) (fun c k _ _ _ => q5 _ _ (by omega) (by omega) (by omega)) (fun c k _ _ => q5 _ _ (by omega) (by omega) (by omega)) ?_ ?_) q3 (fun k hk => by rw [q5 _ _ (by omega) (by omega) (by omega), fo _ _ (by omega)]; exact h.sl k hk) (fun c k _ => q5 _ _ (by omega) (by omega) (by omega))
          · rw [q1, ← f3]; exact gF.ek
          · rw [q2, ← f4]; exact gF.es
      · refine ⟨up2 (up2 (up2 I 46 3 (nI a)) 46 4 (nI b)) 46 0 0, J, ?_, ?_, ⟨fun c k _ => by rw [up_na (by omega), up_na (by omega), up_na (by omega)], fun _ _ _ => rfl⟩, up_s⟩
        · rw [E204_0, sp_isFrom, w1, evK_s, E204_7, if_neg (by decide), sp_isFrom, w2, evK_s, E204_17, if_neg (by decide), d3 hD h, d4 hD h, E179_0, evK_s, E204_54]
        · rw [dat_up (by unfold isD; omega), dat_upD (by unfold isD; omega), dat_upD (by unfold isD; omega), h, hF]
    · have w2 : (if y < 2 then (0 : Int32) else if y ≤ 20 then 1 else 0) = 0 := wj_n (a := 2) (n := 20) (by decide) (by decide) hy
      refine Agr.upd ?_
      refine ⟨.int (-1), 1, fun I J h => QC.mk1 (I' := I) (J' := J) ?_ h Fc.refl, fun I J h => QM.mk1 (I' := I) (J' := J) ?_ rfl Fm.refl⟩
      · rw [E122_0, sp_within, w1, evK_s, E122_7, if_neg (by decide), sp_within, w2, evK_s, E122_17, if_pos rfl, E122_20, E164_0, evK_s, E122_25]
      · rw [E204_0, sp_isFrom, w1, evK_s, E204_7, if_neg (by decide), sp_isFrom, w2, evK_s, E204_17, if_pos rfl, E204_20, E178_0, evK_s, E204_25]
  · have w1 : (if x < 1 then (0 : Int32) else if x ≤ 45 then 1 else 0) = 0 := wj_n (a := 1) (n := 45) (by decide) (by decide) hx
    refine Agr.upd ?_
    refine ⟨.int (-1), 1, fun I J h => QC.mk1 (I' := I) (J' := J) ?_ h Fc.refl, fun I J h => QM.mk1 (I' := I) (J' := J) ?_ rfl Fm.refl⟩
    · rw [E122_0, sp_within, w1, evK_s, E122_7, if_pos rfl, E122_20, E164_0, evK_s, E122_25]
    · rw [E204_0, sp_isFrom, w1, evK_s, E204_7, if_pos rfl, E204_20, E178_0, evK_s, E204_25]
end UPD
