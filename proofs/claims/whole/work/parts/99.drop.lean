/-! a crack less -/
/-- which place a crack comes from -/
def sg (c n k : Nat) : Nat := if k < c then k else if k + 1 < n then k + 1 else if k + 1 = n then c else k
theorem sg_ij {c n i j : Nat} (hc : c < n) (h : sg c n i = sg c n j) : i = j := by
  unfold sg at h
  repeat' split at h
  all_goals omega
theorem sg_lt {c n i : Nat} (hc : c < n) (hn : n ≤ 60) (hi : i < 60) : sg c n i < 60 := by
  unfold sg
  split <;> (try split) <;> (try split) <;> omega
theorem sg_n {c n i : Nat} (hc : c < n) (hi : i + 1 < n) : sg c n i < n := by
  unfold sg
  split <;> (try split) <;> (try split) <;> omega
section DRP
variable {d sl : Nat} {p : Nat → Nat} {I I' : Nat → Nat → Int32} {J J' : Nat → Nat → Int64} {D D' : Nat → Nat → Int32} {e : Nat}
theorem va_s {p : Nat → Nat} {i v : Nat} : va_up p i v i = v := by unfold va_up; simp
theorem va_n {p : Nat → Nat} {i v k : Nat} (h : k ≠ i) : va_up p i v k = p k := by unfold va_up; simp [h]
theorem C_remove (h : CK p I J D e) {c : Nat} (hc : c < nc D) : den (d + 1) 63 [.ref 4, .int (nI c)] (S sl p I J) = some (none, S sl (fun k => p (sg c (nc D) k)) (up2 (up2 I 4 8 (nI (nc D - 1))) 4 10 (nI (e + 1))) J) := by
  have n60 := h.sv.gd.n60
  have hp := h.sv.p60
  obtain ⟨n, en⟩ : ∃ n, n = nc D := ⟨_, rfl⟩
  rw [← en] at hc n60 ⊢
  have cnt : I 4 8 = nI n := by rw [en]; exact h.sv.count
  have pr : nI n - 1 = nI (n - 1) := nI_sub (b := 1) (by omega) (by omega)
  obtain ⟨p', e1, z1⟩ := for_exk (M := Nat → Nat) (fun j x => ev (d + 1) 63 9 [.ref 4, .int (nI c), .ref (200 + p c), .int j] [] (S sl x I J)) c (n - 1 - c) (fun i x => ∀ k, x k = if c ≤ k ∧ k < c + i then p (k + 1) else p k)
    (by
      intro i x hi z1
      have hx : ∀ k, x k < 60 := fun k => by rw [z1]; split <;> exact hp _
      rw [E63_9 _ _ hx (hp c), cnt, pr, if_pos (lt_n (by omega) (by omega)), nI_1, ck_if (ixb_n (by omega) (by decide)), ck_if (ixb_n (by omega) (by decide)), cl_n (by omega), cl_n (by omega)]
      refine ⟨_, rfl, fun k => ?_⟩
      by_cases q : k = c + i
      · rw [q, va_s, z1, if_neg (by omega), if_pos (by omega)]
      · rw [va_n q, z1]
        by_cases r : c ≤ k ∧ k < c + i
        · rw [if_pos r, if_pos (by omega)]
        · rw [if_neg r, if_neg (by omega)])
    p (fun k => by rw [if_neg (by omega)])
  have hx : ∀ k, p' k < 60 := fun k => by rw [z1]; split <;> exact hp _
  rw [show c + (n - 1 - c) = n - 1 by omega] at e1
  rw [E63_0 _ hp, ck_if (ixb_n (by omega) (by decide)), cl_n (by omega), e1, E63_9 _ _ hx (hp c), cnt, pr, if_neg (nlt_n (by omega)), ck_if (ixb_n (by omega) (by decide)), cl_n (by omega), up_nk (by omega), h.ed, nI_1]
  have ep : va_up p' (n - 1) (p c) = fun k => p (sg c n k) := by
    funext k
    by_cases q : k = n - 1
    · rw [q, va_s]
      unfold sg
      rw [if_neg (by omega), if_neg (by omega), if_pos (by omega)]
    · rw [va_n q, z1]
      unfold sg
      by_cases r : k < c
      · rw [if_pos r, if_neg (by omega)]
      · rw [if_neg r]
        by_cases s : k + 1 < n
        · rw [if_pos s, if_pos (by omega)]
        · rw [if_neg s, if_neg (by omega), if_neg (by omega)]
  rw [ep]
/-- the rows moved down -/
def sh (I : Nat → Nat → Int32) (l : Nat) : Nat → Nat → Int32 := up2 (up2 (up2 (up2 (up2 (up2 (up2 I 50 l (I 50 (l + 1))) 51 l (I 51 (l + 1))) 52 l (I 52 (l + 1))) 53 l (I 53 (l + 1))) 54 l (I 54 (l + 1))) 55 l (I 55 (l + 1))) 56 l (I 56 (l + 1))
theorem sh_n {I : Nat → Nat → Int32} {l a k : Nat} (h : ¬ ((50 ≤ a ∧ a < 57) ∧ k = l)) : sh I l a k = I a k := by
  unfold sh
  rw [up_n (by omega), up_n (by omega), up_n (by omega), up_n (by omega), up_n (by omega), up_n (by omega), up_n (by omega)]
theorem sh_s {I : Nat → Nat → Int32} {l a : Nat} (h : 50 ≤ a ∧ a < 57) : sh I l a l = I a (l + 1) := by
  have h7 : a = 50 ∨ a = 51 ∨ a = 52 ∨ a = 53 ∨ a = 54 ∨ a = 55 ∨ a = 56 := by omega
  unfold sh
  rcases h7 with rfl | rfl | rfl | rfl | rfl | rfl | rfl
  · rw [up_na (by omega), up_na (by omega), up_na (by omega), up_na (by omega), up_na (by omega), up_na (by omega), up_s]
  · rw [up_na (by omega), up_na (by omega), up_na (by omega), up_na (by omega), up_na (by omega), up_s]
  · rw [up_na (by omega), up_na (by omega), up_na (by omega), up_na (by omega), up_s]
  · rw [up_na (by omega), up_na (by omega), up_na (by omega), up_s]
  · rw [up_na (by omega), up_na (by omega), up_s]
  · rw [up_na (by omega), up_s]
  · rw [up_s]
theorem M_move {c l n : Nat} (hn : I 46 2 = nI n) (hl : l < n) (h60 : n < 60) : ev (d + 1) 203 26 [.ref 46, .int (nI c), .int (nI l)] [] (S sl p I J) = ev (d + 1) 203 26 [.ref 46, .int (nI c), .int (nI (l + 1))] [] (S sl p (sh I l) J) := by
  rw [E203_26, hn, if_pos (lt_n hl (by omega)), nI_1, cl_n (by omega), cl_n (by omega)]
  simp only [up_na (show (51 : Nat) ≠ 50 by decide), up_na (show (52 : Nat) ≠ 50 by decide), up_na (show (52 : Nat) ≠ 51 by decide), up_na (show (53 : Nat) ≠ 50 by decide), up_na (show (53 : Nat) ≠ 51 by decide), up_na (show (53 : Nat) ≠ 52 by decide), up_na (show (54 : Nat) ≠ 50 by decide), up_na (show (54 : Nat) ≠ 51 by decide), up_na (show (54 : Nat) ≠ 52 by decide), up_na (show (54 : Nat) ≠ 53 by decide), up_na (show (55 : Nat) ≠ 50 by decide), up_na (show (55 : Nat) ≠ 51 by decide), up_na (show (55 : Nat) ≠ 52 by decide), up_na (show (55 : Nat) ≠ 53 by decide), up_na (show (55 : Nat) ≠ 54 by decide), up_na (show (56 : Nat) ≠ 50 by decide), up_na (show (56 : Nat) ≠ 51 by decide), up_na (show (56 : Nat) ≠ 52 by decide), up_na (show (56 : Nat) ≠ 53 by decide), up_na (show (56 : Nat) ≠ 54 by decide), up_na (show (56 : Nat) ≠ 55 by decide)]
  rw [ck_if (ixb_n (by omega) (by decide)), ck_if (ixb_n (by omega) (by decide)), ck_if (ixb_n (by omega) (by decide)), ck_if (ixb_n (by omega) (by decide)), ck_if (ixb_n (by omega) (by decide)), ck_if (ixb_n (by omega) (by decide)), ck_if (ixb_n (by omega) (by decide)), ck_if (ixb_n (by omega) (by decide)), ck_if (ixb_n (by omega) (by decide)), ck_if (ixb_n (by omega) (by decide)), ck_if (ixb_n (by omega) (by decide)), ck_if (ixb_n (by omega) (by decide)), ck_if (ixb_n (by omega) (by decide)), ck_if (ixb_n (by omega) (by decide))]
  rfl
theorem A_drop (hD : GD D) (he : e < 1000) (x : Int32) : Upd (d + 40) sl p D e 121 203 [.int x] := by
  have n60 := hD.n60
  have m6 := hD.m6
  by_cases hx : ∃ i, i < nc D ∧ x = nI i
  · obtain ⟨c, hc, rfl⟩ := hx
    obtain ⟨F, hF⟩ : ∃ F : Nat → Nat → Int32, F = fun a k => if (50 ≤ a ∧ a < 57) ∧ c ≤ k ∧ k + 1 < nc D then D a (k + 1) else if a = 46 ∧ k = 2 then nI (nc D - 1) else D a k := ⟨_, rfl⟩
    have f2 : F 46 2 = nI (nc D - 1) := by rw [hF]; rfl
    have fo : ∀ a k, ¬ (50 ≤ a ∧ a < 57) → ¬ (a = 46 ∧ k = 2) → F a k = D a k := fun a k v1 v2 => by rw [hF]; exact (if_neg (fun w => v1 w.1)).trans (if_neg v2)
    have fs : ∀ a k, 50 ≤ a → a < 57 → k + 1 < nc D → F a k = D a (sg c (nc D) k) := fun a k v1 v2 v3 => by
      rw [hF]
      unfold sg
      by_cases q : k < c
      · rw [if_pos q]
        exact (if_neg (by omega)).trans (if_neg (by omega))
      · rw [if_neg q, if_pos v3]
        exact if_pos (by omega)
    have enF : nc F = nc D - 1 := by
      have h1 : nc F = (F 46 2).toNatClampNeg := rfl
      rw [h1, f2]
      exact cl_n (by omega)
    have enl : nl F = nl D := by unfold nl; rw [fo _ _ (by omega) (by omega)]
    have ecp : cp F = cp D := by unfold cp; rw [fo _ _ (by omega) (by omega)]
    have elk : lk F = lk D := by unfold lk; rw [fo _ _ (by omega) (by omega)]
    have els : lst F = lst D := by unfold lst; rw [fo _ _ (by omega) (by omega)]
    have ep : ∀ i, i + 1 < nc D → pv F i = pv D (sg c (nc D) i) := fun i hi => by unfold pv; rw [fs _ _ (by omega) (by omega) hi, fs _ _ (by omega) (by omega) hi, fs _ _ (by omega) (by omega) hi]
    have ea : ∀ i, av F i = av D i := fun i => by unfold av; rw [fo _ _ (by omega) (by omega), fo _ _ (by omega) (by omega), fo _ _ (by omega) (by omega)]
    have gF : GD F := by
      refine ⟨by omega, by rw [enF]; exact f2, by rw [enl]; exact m6, by rw [enl, fo _ _ (by omega) (by omega)]; exact hD.em, by rw [elk]; exact hD.k1, by rw [elk]; exact hD.k45, by rw [elk, fo _ _ (by omega) (by omega)]; exact hD.ek, by rw [els]; exact hD.s2, by rw [els]; exact hD.s20, by rw [els, fo _ _ (by omega) (by omega)]; exact hD.es, by rw [ecp]; exact hD.c1, by rw [ecp]; exact hD.c20, by rw [ecp, fo _ _ (by omega) (by omega)]; exact hD.ec, by rw [fo _ _ (by omega) (by omega)]; exact hD.sd, by rw [fo _ _ (by omega) (by omega)]; exact hD.sp, by rw [fo _ _ (by omega) (by omega)]; exact hD.sf, by rw [fo _ _ (by omega) (by omega)]; exact hD.ss, fun l' hl' => ?_, fun i hi => ?_⟩
      · rw [enl] at hl'
        rw [fo _ _ (by omega) (by omega), fo _ _ (by omega) (by omega), fo _ _ (by omega) (by omega), ea]
        exact hD.li l' hl'
      · rw [enF] at hi
        have hi2 : i + 1 < nc D := by omega
        rw [enl, fs _ _ (by omega) (by omega) hi2, fs _ _ (by omega) (by omega) hi2, fs _ _ (by omega) (by omega) hi2, fs _ _ (by omega) (by omega) hi2, ep i hi2]
        exact hD.cr _ (sg_n hc hi2)
    refine ⟨.int (nI (nc D - 1)), 0, fun k => p (sg c (nc D) k), F, e + 1, Nat.le_refl _, fun I J h => ?_, fun I J h => ?_⟩
    · have hs := h.sv
      have q8 : up2 (up2 (up2 I 4 8 (nI (nc D - 1))) 4 10 (nI (e + 1))) 1 8 0 4 8 = nI (nc D - 1) := by rw [up_na (by omega), up_nk (by omega), up_s]
      have q0 : up2 (up2 (up2 I 4 8 (nI (nc D - 1))) 4 10 (nI (e + 1))) 1 8 0 4 10 = nI (e + 1) := by rw [up_na (by omega), up_s]
      have qo : ∀ b k, b ≠ 1 → ¬ (b = 4 ∧ (k = 8 ∨ k = 10)) → up2 (up2 (up2 I 4 8 (nI (nc D - 1))) 4 10 (nI (e + 1))) 1 8 0 b k = I b k := fun b k v1 v2 => by rw [up_na v1, up_n (by omega), up_n (by omega)]
      refine ⟨up2 (up2 (up2 I 4 8 (nI (nc D - 1))) 4 10 (nI (e + 1))) 1 8 0, J, ?_, ?_, ⟨fun b k _ _ => qo _ _ (by omega) (by omega), fun _ _ _ _ => rfl⟩, up_s⟩
      · rw [E121_0, C_hasCrack hs, cr_y hD hc, evK_s, E121_8, if_neg (by decide), C_remove (d := d + 38) h hc, evK_v, E121_25, up_nk (by omega), up_s, E163_0, evK_s, E121_36]
      · generalize up2 (up2 (up2 I 4 8 (nI (nc D - 1))) 4 10 (nI (e + 1))) 1 8 0 = I1 at q8 q0 qo
        refine h.new he ?_ q0 (fun k hk => by rw [qo _ _ (by omega) (by omega), fo _ _ (by omega) (by omega)]; exact h.sl k hk) (fun b k w => qo _ _ (by omega) (by omega))
        refine ⟨gF, fun k hk => by rw [qo _ _ (by omega) (by omega)]; exact hs.sn k hk, fun k => hs.p60 _, fun i j hi hj w => sg_ij hc (hs.pij _ _ (sg_lt hc n60 hi) (sg_lt hc n60 hj) w), by rw [qo _ _ (by omega) (by omega), enl]; exact hs.lines, by rw [q8, enF], by rw [qo _ _ (by omega) (by omega), ecp]; exact hs.cap, fun l' hl' => ?_, fun j hj => by rw [qo _ _ (by omega) (by omega)]; exact hs.slot j hj, fun i hi => ?_, fun i hi => ?_, fun i j hi hj => ?_, by rw [qo _ _ (by omega) (by omega), elk]; exact hs.link, by rw [qo _ _ (by omega) (by omega), els]; exact hs.least⟩
        · rw [enl] at hl'
          rw [qo _ _ (by omega) (by omega), qo _ _ (by omega) (by omega), qo _ _ (by omega) (by omega), fo _ _ (by omega) (by omega), fo _ _ (by omega) (by omega), fo _ _ (by omega) (by omega), ea]
          exact hs.tr l' hl'
        · rw [enF] at hi
          have hi2 : i + 1 < nc D := by omega
          have lvF : lv F i = lv D (sg c (nc D) i) := by unfold lv; rw [fs _ _ (by omega) (by omega) hi2, fs _ _ (by omega) (by omega) hi2]
          have wtF : wt F i = wt D (sg c (nc D) i) := by unfold wt; rw [fo _ _ (by omega) (by omega), ep i hi2, fs _ _ (by omega) (by omega) hi2, ea]
          rw [qo _ _ (by omega) (by omega), qo _ _ (by omega) (by omega), qo _ _ (by omega) (by omega), qo _ _ (by omega) (by omega), qo _ _ (by omega) (by omega), qo _ _ (by omega) (by omega), qo _ _ (by omega) (by omega), fs _ _ (by omega) (by omega) hi2, fs _ _ (by omega) (by omega) hi2, fs _ _ (by omega) (by omega) hi2, fs _ _ (by omega) (by omega) hi2, lvF, wtF]
          exact hs.ck _ (sg_n hc hi2)
        · rw [enF] at hi
          rw [ep i (by omega)]
          exact hs.pole _ (sg_n hc (by omega))
        · rw [enF] at hi hj
          rw [qo _ _ (by omega) (by omega), show nb F i j = nb D (sg c (nc D) i) (sg c (nc D) j) from by unfold nb; rw [ep i (by omega), ep j (by omega)]]
          exact hs.ang _ _ (sg_n hc (by omega)) (sg_n hc (by omega))
    · have cnt : I 46 2 = nI (nc D) := d2 hD h
      obtain ⟨I1, e1, z1⟩ := for_exk (M := Nat → Nat → Int32) (fun j y => ev (d + 40) 203 26 [.ref 46, .int (nI c), .int j] [] (S sl (fun k => p (sg c (nc D) k)) y J)) c (nc D - 1 - c) (fun i y => ∀ a k, y a k = if (50 ≤ a ∧ a < 57) ∧ c ≤ k ∧ k < c + i then I a (k + 1) else up2 I 46 2 (nI (nc D - 1)) a k)
        (by
          intro i y hi z1
          have y2 : y 46 2 = nI (nc D - 1) := by rw [z1, if_neg (by omega), up_s]
          refine ⟨sh y (c + i), M_move y2 (by omega) (by omega), fun a k => ?_⟩
          by_cases q : (50 ≤ a ∧ a < 57) ∧ k = c + i
          · obtain ⟨q1, rfl⟩ := q
            rw [sh_s q1, z1, if_neg (by omega), if_pos (by omega), up_na (by omega)]
          · rw [sh_n q, z1]
            by_cases r : (50 ≤ a ∧ a < 57) ∧ c ≤ k ∧ k < c + i
            · rw [if_pos r, if_pos (by omega)]
            · rw [if_neg r, if_neg (by omega)])
        (up2 I 46 2 (nI (nc D - 1))) (fun a k => by rw [if_neg (by omega)])
      have y2 : I1 46 2 = nI (nc D - 1) := by rw [z1, if_neg (by omega), up_s]
      rw [show c + (nc D - 1 - c) = nc D - 1 by omega] at e1
      refine ⟨up2 I1 46 0 0, J, ?_, ?_, ⟨fun a k w => by rw [up_na (by omega), z1, if_neg (by omega), up_na (by omega)], fun _ _ _ => rfl⟩, up_s⟩
      · rw [E203_0, M_isCrack hD h, cr_y hD hc, evK_s, E203_5, if_neg (by decide), cnt, show nI (nc D) - 1 = nI (nc D - 1) from nI_sub (b := 1) (by omega) (by omega), e1, E203_26, y2, if_neg (nlt_n (by omega)), E179_0, evK_s, E203_146]
      · rw [dat_up (by unfold isD; omega), hF]
        funext a k
        by_cases q : isD a k
        · unfold isD at q
          have e2 : dat I1 a k = I1 a k := if_pos q
          have e3 : ∀ k, 50 ≤ a ∧ a < 57 → D a k = I a k := fun k w => by rw [← h, dat_r (by omega)]
          rw [e2, z1]
          by_cases r : (50 ≤ a ∧ a < 57) ∧ c ≤ k ∧ k + 1 < nc D
          · rw [if_pos (by omega)]
            exact ((if_pos r).trans (e3 _ r.1)).symm
          · rw [if_neg (by omega)]
            refine Eq.trans ?_ (if_neg r).symm
            by_cases s : a = 46 ∧ k = 2
            · rw [if_pos s, s.1, s.2, up_s]
            · rw [if_neg s, up_n s, ← h]
              exact (if_pos q).symm
        · unfold isD at q
          have e2 : dat I1 a k = 0 := if_neg q
          have e3 : D a k = 0 := by rw [← h]; exact if_neg q
          rw [e2]
          refine Eq.trans ?_ (if_neg (by omega)).symm
          rw [if_neg (by omega), e3]
  · refine Agr.upd ?_
    refine ⟨.int (-1), 2, fun I J h => QC.mk1 (I' := I) (J' := J) ?_ h Fc.refl, fun I J h => QM.mk1 (I' := I) (J' := J) ?_ rfl Fm.refl⟩
    · rw [E121_0, C_hasCrack h.sv, cr_n hD hx, evK_s, E121_8, if_pos rfl, E164_0, evK_s, E121_16]
    · rw [E203_0, M_isCrack hD h, cr_n hD hx, evK_s, E203_5, if_pos rfl, E178_0, evK_s, E203_13]
end DRP
