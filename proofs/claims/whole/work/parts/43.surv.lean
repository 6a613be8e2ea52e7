/-! the class's SURVEY holds what was told -/
def SV (p : Nat → Nat) (I : Nat → Nat → Int32) (J : Nat → Nat → Int64) (D : Nat → Nat → Int32) : Prop := (GD D) ∧ (SNS I) ∧ (∀ k, p k < 60) ∧ (∀ i j, i < 60 → j < 60 → p i = p j → i = j) ∧ (I 4 7 = nI (nl D)) ∧ (I 4 8 = nI (nc D)) ∧ (I 4 9 = nI (cp D)) ∧ (∀ l, l < nl D → I 5 l = D 47 l ∧ I 6 l = D 48 l ∧ I 7 l = D 49 l ∧ vec J (100 + l) = av D l) ∧ (∀ j, j < 60 → I (200 + j) 0 = nI j) ∧ (∀ i, i < nc D → I (200 + p i) 2 = D 50 i ∧ I (200 + p i) 3 = D 51 i ∧ I (200 + p i) 4 = D 52 i ∧ I (200 + p i) 5 = D 53 i ∧ I (200 + p i) 6 = plD (D 51 i) (D 52 i) ∧ I (200 + p i) 7 = lv D i ∧ I (200 + p i) 8 = wt D i) ∧ (∀ i, i < nc D → vec J (300 + p i) = pv D i) ∧ (∀ i j, i < nc D → j < nc D → I 10 (60 * p i + p j) = nI (nb D i j)) ∧ (I 11 12 = nI (lk D)) ∧ (I 11 13 = nI (lst D))
theorem SV.gd {p : Nat → Nat} {I : Nat → Nat → Int32} {J : Nat → Nat → Int64} {D : Nat → Nat → Int32} (h : SV p I J D) : GD D := h.1
theorem SV.sn {p : Nat → Nat} {I : Nat → Nat → Int32} {J : Nat → Nat → Int64} {D : Nat → Nat → Int32} (h : SV p I J D) : SNS I := h.2.1
theorem SV.p60 {p : Nat → Nat} {I : Nat → Nat → Int32} {J : Nat → Nat → Int64} {D : Nat → Nat → Int32} (h : SV p I J D) : ∀ k, p k < 60 := h.2.2.1
theorem SV.pij {p : Nat → Nat} {I : Nat → Nat → Int32} {J : Nat → Nat → Int64} {D : Nat → Nat → Int32} (h : SV p I J D) : ∀ i j, i < 60 → j < 60 → p i = p j → i = j := h.2.2.2.1
theorem SV.lines {p : Nat → Nat} {I : Nat → Nat → Int32} {J : Nat → Nat → Int64} {D : Nat → Nat → Int32} (h : SV p I J D) : I 4 7 = nI (nl D) := h.2.2.2.2.1
theorem SV.count {p : Nat → Nat} {I : Nat → Nat → Int32} {J : Nat → Nat → Int64} {D : Nat → Nat → Int32} (h : SV p I J D) : I 4 8 = nI (nc D) := h.2.2.2.2.2.1
theorem SV.cap {p : Nat → Nat} {I : Nat → Nat → Int32} {J : Nat → Nat → Int64} {D : Nat → Nat → Int32} (h : SV p I J D) : I 4 9 = nI (cp D) := h.2.2.2.2.2.2.1
theorem SV.tr {p : Nat → Nat} {I : Nat → Nat → Int32} {J : Nat → Nat → Int64} {D : Nat → Nat → Int32} (h : SV p I J D) : ∀ l, l < nl D → I 5 l = D 47 l ∧ I 6 l = D 48 l ∧ I 7 l = D 49 l ∧ vec J (100 + l) = av D l := h.2.2.2.2.2.2.2.1
theorem SV.slot {p : Nat → Nat} {I : Nat → Nat → Int32} {J : Nat → Nat → Int64} {D : Nat → Nat → Int32} (h : SV p I J D) : ∀ j, j < 60 → I (200 + j) 0 = nI j := h.2.2.2.2.2.2.2.2.1
theorem SV.ck {p : Nat → Nat} {I : Nat → Nat → Int32} {J : Nat → Nat → Int64} {D : Nat → Nat → Int32} (h : SV p I J D) : ∀ i, i < nc D → I (200 + p i) 2 = D 50 i ∧ I (200 + p i) 3 = D 51 i ∧ I (200 + p i) 4 = D 52 i ∧ I (200 + p i) 5 = D 53 i ∧ I (200 + p i) 6 = plD (D 51 i) (D 52 i) ∧ I (200 + p i) 7 = lv D i ∧ I (200 + p i) 8 = wt D i := h.2.2.2.2.2.2.2.2.2.1
theorem SV.pole {p : Nat → Nat} {I : Nat → Nat → Int32} {J : Nat → Nat → Int64} {D : Nat → Nat → Int32} (h : SV p I J D) : ∀ i, i < nc D → vec J (300 + p i) = pv D i := h.2.2.2.2.2.2.2.2.2.2.1
theorem SV.ang {p : Nat → Nat} {I : Nat → Nat → Int32} {J : Nat → Nat → Int64} {D : Nat → Nat → Int32} (h : SV p I J D) : ∀ i j, i < nc D → j < nc D → I 10 (60 * p i + p j) = nI (nb D i j) := h.2.2.2.2.2.2.2.2.2.2.2.1
theorem SV.link {p : Nat → Nat} {I : Nat → Nat → Int32} {J : Nat → Nat → Int64} {D : Nat → Nat → Int32} (h : SV p I J D) : I 11 12 = nI (lk D) := h.2.2.2.2.2.2.2.2.2.2.2.2.1
theorem SV.least {p : Nat → Nat} {I : Nat → Nat → Int32} {J : Nat → Nat → Int64} {D : Nat → Nat → Int32} (h : SV p I J D) : I 11 13 = nI (lst D) := h.2.2.2.2.2.2.2.2.2.2.2.2.2
section SURV
variable {d sl : Nat} {p : Nat → Nat} {I : Nat → Nat → Int32} {J : Nat → Nat → Int64} {D : Nat → Nat → Int32}
theorem nb_90 (hD : GD D) {i j : Nat} (hi : i < nc D) (hj : j < nc D) : nb D i j ≤ 90 := va2_le (hD.bp hi) (hD.bp hj)
theorem sp_angC (h : SV p I J D) {i j : Nat} (hi : i < nc D) (hj : j < nc D) : den d 66 [.ref 4, .int (nI i), .int (nI j)] (S sl p I J) = some (some (.int (nI (nb D i j))), S sl p I J) := by
  have n60 := h.gd.n60
  have p1 := h.p60 i
  have p2 := h.p60 j
  have e : nI (p i) * 60 + nI (p j) = nI (60 * p i + p j) := by rw [show (60 : Int32) = nI 60 from rfl, nI_mul, nI_add, Nat.mul_comm]
  rw [E66_0 _ _ h.p60, ck_if (ixb_n (by omega) (by decide)), ck_if (ixb_n (by omega) (by decide)), cl_n (by omega), cl_n (by omega), h.slot _ p1, h.slot _ p2, e, ck_if (ixb_n (by omega) (by decide)), cl_n (by omega), h.ang i j hi hj]
theorem sp_countNear (h : SV p I J D) {i k : Nat} (hi : i < nc D) (hk : k ≤ 90) : den (d + 1) 67 [.ref 4, .int (nI i), .int (nI k)] (S sl p I J) = some (some (.int (nI (cnt (fun j => decide (nb D i j ≤ k)) (nc D)))), S sl p I J) := by
  have n60 := h.gd.n60
  rw [E67_0, for_cnt (fun j x => ev (d + 1) 67 5 [.ref 4, .int (nI i), .int (nI k), .int x, .int j] [] (S sl p I J)) (fun j => decide (nb D i j ≤ k)) (nc D)
    (by
      intro j x hj
      have b := nb_90 h.gd hi hj
      rw [E67_5, h.count, if_pos (lt_n hj (by omega)), sp_angC h hi hj, evK_s, E67_21, nI_1]
      by_cases q : nb D i j ≤ k
      · rw [if_pos ((nI_le_iff (by omega) (by omega)).mpr q), if_pos (decide_eq_true q)]
      · rw [if_neg (fun w => q ((nI_le_iff (by omega) (by omega)).mp w)), if_neg (by simpa using q)]), E67_5, h.count, if_neg (nlt_n (by omega))]
theorem sp_countAlike (h : SV p I J D) {i : Nat} (hi : i < nc D) : den d 68 [.ref 4, .int (nI i)] (S sl p I J) = some (some (.int (nI (cnt (fun j => decide (lv D j = lv D i)) (nc D)))), S sl p I J) := by
  have n60 := h.gd.n60
  rw [E68_0, for_cnt (fun j x => ev d 68 4 [.ref 4, .int (nI i), .int x, .int j] [] (S sl p I J)) (fun j => decide (lv D j = lv D i)) (nc D)
    (by
      intro j x hj
      rw [E68_4 _ _ _ h.p60, h.count, if_pos (lt_n hj (by omega)), ck_if (ixb_n (by omega) (by decide)), ck_if (ixb_n (by omega) (by decide)), cl_n (by omega), cl_n (by omega), (h.ck j hj).2.2.2.2.2.1, (h.ck i hi).2.2.2.2.2.1, nI_1]
      by_cases q : lv D j = lv D i
      · rw [if_pos q, if_pos (decide_eq_true q)]
      · rw [if_neg q, if_neg (by simpa using q)]), E68_4 _ _ _ h.p60, h.count, if_neg (nlt_n (by omega))]
end SURV
