/-! MEASURE: the class's seed, sum, mean of a set -/
theorem up_id {α : Type} {I : Nat → Nat → α} {a k : Nat} : up2 I a k (I a k) = I := by
  funext a' k'
  rw [up_a]
  split
  · rename_i h; rw [h.1, h.2]
  · rfl
theorem setV_id {J : Nat → Nat → Int64} {a : Nat} : setV J a (vec J a) = J := by
  unfold setV vec
  rw [up_id]
  show up2 (up2 J a 1 (J a 1)) a 2 (J a 2) = J
  rw [up_id, up_id]
theorem nI_div {a b : Nat} (ha : a < 2 ^ 31) (hb : 0 < b) (hb2 : b < 2 ^ 31) : nI a / nI b = nI (a / b) := by
  apply Int32.toInt_inj.mp
  have := Nat.div_le_self a b
  rw [div32 (by rw [tI hb2]; omega), tI ha, tI hb2, tI (by omega)]
  exact (Int.ofNat_tdiv a b).symm
theorem nI_mod {a b : Nat} (ha : a < 2 ^ 31) (hb : 0 < b) (hb2 : b < 2 ^ 31) : nI a - nI a / nI b * nI b = nI (a % b) := by
  apply Int32.toInt_inj.mp
  have := Nat.mod_le a b
  rw [rem32 (by rw [tI hb2]; omega), tI ha, tI hb2, tI (by omega)]
  exact (Int.ofNat_tmod a b).symm
section MEAS
variable {d sl : Nat} {p : Nat → Nat} {I I' : Nat → Nat → Int32} {J J' : Nat → Nat → Int64} {D : Nat → Nat → Int32}
theorem sp_countAround (h : SV p I J D) (hpl : ∀ j, j < nc D → I 12 j = stn D j) {i : Nat} (hi : i < nc D) (s : Int32) : den (d + 1) 108 [.ref 11, .int s, .int (nI i)] (S sl p I J) = some (some (.int (nI (nin D s i))), S sl p I J) := by
  have n60 := h.gd.n60
  have k45 := h.gd.k45
  rw [E108_0, for_cnt (fun j x => ev (d + 1) 108 5 [.ref 11, .int s, .int (nI i), .int x, .int j] [] (S sl p I J)) (fun j => decide (stn D j = s) && decide (nb D i j ≤ lk D)) (nc D)
    (by
      intro j x hj
      have b := nb_90 h.gd hi hj
      rw [E108_5, h.count, if_pos (lt_n hj (by omega)), ck_if (ixb_n (by omega) (by decide)), cl_n (by omega), hpl j hj, sp_angC h hi hj, evK_s, E108_38, h.link, nI_1]
      by_cases q1 : stn D j = s
      · by_cases q : nb D i j ≤ lk D
        · rw [if_pos q1, if_pos ((nI_le_iff (by omega) (by omega)).mpr q), if_pos (by simp [q1, q])]
        · rw [if_pos q1, if_neg (fun w => q ((nI_le_iff (by omega) (by omega)).mp w)), if_neg (by simp [q])]
      · rw [if_neg q1, if_neg (by simp [q1])]), E108_5, h.count, if_neg (nlt_n (by omega))]
  rfl
def SdP (D : Nat → Nat → Int32) (s : Int32) (o : Option Nat) (x : Int32 × V3 × Int32) : Prop := (o = none → x.2.2 = 0) ∧ ∀ b, o = some b → x.2.2 = nI (nin D s b) ∧ x.1 = lv D b ∧ x.2.1 = pv D b
theorem SdP_s {s : Int32} {b : Nat} {x : Int32 × V3 × Int32} (h1 : x.2.2 = nI (nin D s b)) (h2 : x.1 = lv D b) (h3 : x.2.1 = pv D b) : SdP D s (some b) x := ⟨(fun w => by cases w), fun c hc => by cases hc; exact ⟨h1, h2, h3⟩⟩
theorem sp_findSeed (h : SV p I J D) (hl : LabD D) (hpl : ∀ j, j < nc D → I 12 j = stn D j) {s : Nat} (hs : s < nst D) : den (d + 2) 107 [.ref 11, .int (nI s), .ref (400 + s)] (S sl p I J) = some (none, S sl p (up2 I (400 + s) 6 (lv D (sd D (nI s)))) (setV J (700 + s) (pv D (sd D (nI s))))) := by
  have n60 := h.gd.n60
  have k45 := h.gd.k45
  have h30 := nst_30 h.gd hl
  have hs3 : s < 30 := by omega
  obtain ⟨x, e, hx1, hx2⟩ := for_ex (M := Int32 × V3 × Int32) (fun k x => ev (d + 2) 107 5 [.ref 11, .int (nI s), .ref (400 + s), .int x.2.2, .int k, .retAddr 0, .retAddr 0] [] (S sl p (up2 I (400 + s) 6 x.1) (setV J (700 + s) x.2.1))) (nc D)
    (fun k x => SdP D (nI s) (sdN D (nI s) k) x)
    (by
      rintro k ⟨v, w, m⟩ hk ⟨g1, g2⟩
      simp only at g1 g2
      have hp := h.p60 k
      have hsv : SV p (up2 I (400 + s) 6 v) (setV J (700 + s) w) D := h.fr (fun a k _ => up_na (by omega)) (up_na (by omega)) (up_na (by omega)) (fun a k _ _ => up_na (by omega)) (fun a k _ _ => setV_ne (by omega)) (fun a k _ _ => setV_ne (by omega))
      have hpl' : ∀ j, j < nc D → up2 I (400 + s) 6 v 12 j = stn D j := fun j hj => by rw [up_na (by omega)]; exact hpl j hj
      have n2 := nin_le D (nI s) k
      simp only
      rw [E107_5 _ _ _ h.p60 hs3, hsv.count, if_pos (lt_n hk (by omega)), ck_if (ixb_n (by omega) (by decide)), cl_n (by omega), hpl' k hk, sdN_s]
      by_cases q : stn D k = nI s
      · rw [if_pos q, if_pos q, ck_if (ixb_n (by omega) (by decide)), sp_countAround hsv hpl' hk, evK_s, E107_47 _ _ _ _ hs3 hp, (hsv.ck k hk).2.2.2.2.2.1, up_s, E107_73 _ _ _ _ hs3 hp, (hsv.ck k hk).2.2.2.2.2.1, sp_copyC (ob700 hs3) (obP hp), evK_v, E107_97 _ _ _ _ hs3 hp, hsv.pole k hk, up_up, setV_2, nI_1]
        have n1 : 0 < nin D (nI s) k := cnt_pos hk (by simp [q, nb_self])
        cases e : sdN D (nI s) k with
        | none =>
          have g := g1 e
          subst g
          rw [if_neg (fun w => by have := (nI_le_iff (a := nin D (nI s) k) (b := 0) (by omega) (by omega)).mp w; omega)]
          exact ⟨(lv D k, pv D k, nI (nin D (nI s) k)), rfl, SdP_s rfl rfl rfl⟩
        | some b =>
          obtain ⟨t1, t2, t3⟩ := g2 b e
          have n3 := nin_le D (nI s) b
          subst t1
          by_cases c1 : nin D (nI s) k ≤ nin D (nI s) b
          · rw [if_pos ((nI_le_iff (by omega) (by omega)).mpr c1)]
            by_cases c2 : nin D (nI s) k = nin D (nI s) b
            · rw [if_pos (by rw [c2]), t2]
              by_cases c3 : lv D k < lv D b
              · rw [if_pos c3]
                refine ⟨(lv D k, pv D k, nI (nin D (nI s) k)), rfl, ?_⟩
                show SdP D (nI s) (if nin D (nI s) b < nin D (nI s) k ∨ (nin D (nI s) k = nin D (nI s) b ∧ lv D k < lv D b) then some k else some b) _
                rw [if_pos (show nin D (nI s) b < nin D (nI s) k ∨ (nin D (nI s) k = nin D (nI s) b ∧ lv D k < lv D b) from Or.inr ⟨c2, c3⟩)]
                exact SdP_s rfl rfl rfl
              · rw [if_neg c3]
                refine ⟨(lv D b, w, nI (nin D (nI s) b)), rfl, ?_⟩
                show SdP D (nI s) (if nin D (nI s) b < nin D (nI s) k ∨ (nin D (nI s) k = nin D (nI s) b ∧ lv D k < lv D b) then some k else some b) _
                rw [if_neg (show ¬ (nin D (nI s) b < nin D (nI s) k ∨ (nin D (nI s) k = nin D (nI s) b ∧ lv D k < lv D b)) from fun w => by rcases w with w | w; omega; exact c3 w.2)]
                exact SdP_s rfl rfl t3
            · rw [if_neg (fun w => c2 (nI_ij (by omega) (by omega) w))]
              refine ⟨(v, w, nI (nin D (nI s) b)), rfl, ?_⟩
              show SdP D (nI s) (if nin D (nI s) b < nin D (nI s) k ∨ (nin D (nI s) k = nin D (nI s) b ∧ lv D k < lv D b) then some k else some b) _
              rw [if_neg (show ¬ (nin D (nI s) b < nin D (nI s) k ∨ (nin D (nI s) k = nin D (nI s) b ∧ lv D k < lv D b)) from fun w => by rcases w with w | w; omega; exact c2 w.1)]
              exact SdP_s rfl t2 t3
          · rw [if_neg (fun w => c1 ((nI_le_iff (by omega) (by omega)).mp w))]
            refine ⟨(lv D k, pv D k, nI (nin D (nI s) k)), rfl, ?_⟩
            show SdP D (nI s) (if nin D (nI s) b < nin D (nI s) k ∨ (nin D (nI s) k = nin D (nI s) b ∧ lv D k < lv D b) then some k else some b) _
            rw [if_pos (show nin D (nI s) b < nin D (nI s) k ∨ (nin D (nI s) k = nin D (nI s) b ∧ lv D k < lv D b) from Or.inl (by omega))]
            exact SdP_s rfl rfl rfl
      · rw [if_neg q, if_neg q, nI_1]
        exact ⟨(v, w, m), rfl, g1, g2⟩)
    (I (400 + s) 6, vec J (700 + s), 0) ⟨fun _ => rfl, fun b hb => by cases hb⟩
  obtain ⟨q1, q2, q3⟩ := sd_of h.gd hl hs
  obtain ⟨x1, x2, x3⟩ := hx2 _ q1
  simp only [up_id, setV_id] at e
  rw [E107_0 _ hs3, e, E107_5 _ _ _ h.p60 hs3, up_na (by omega), h.count, if_neg (nlt_n (by omega)), x2, x3]
end MEAS
