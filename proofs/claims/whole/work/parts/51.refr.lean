/-! REFRESH -/
noncomputable def llS (D : Nat → Nat → Int32) (s : Nat) : Int32 := mnL (fun k => decide (stn D k = nI s)) (lv D) (nc D)
section REF
variable {d sl : Nat} {p : Nat → Nat} {I I' : Nat → Nat → Int32} {J J' : Nat → Nat → Int64} {D : Nat → Nat → Int32}
theorem sno_big {c : Nat} (hb : lst D ≤ gz D (lk D) (-1) c) : sno D c = nI (rk D c) := if_neg (by omega)
theorem refr_95 (h : SV p I J D) (hH : HpAt I D) (h17 : ∀ c, c < gr D (lk D) (-1) → I 17 c = gll D (lk D) (-1) c) (h14 : I 11 14 = 0) (h12 : ∀ j, j < nc D → I 12 j = -1) : ∃ I', ev (d + 2) 97 95 [.ref 11, .int (nI (gr D (lk D) (-1))), .int 0] [] (S sl p I J) = some (none, S sl p I' J) ∧ I' 11 14 = nI (nst D) ∧ (∀ j, j < nc D → I' 12 j = stn D j) ∧ (∀ s, s < nst D → I' (400 + s) 3 = nI (mem D (nI s)) ∧ I' (400 + s) 4 = llS D s ∧ I' (400 + s) 5 = 0) ∧ ∀ a k, ¬ (a = 11 ∧ k = 14) → a ≠ 12 → ¬ (400 ≤ a ∧ a < 430 ∧ 3 ≤ k ∧ k < 6) → I' a k = I a k := by
  have n60 := h.gd.n60
  have s20 := h.gd.s20
  have hgn : gr D (lk D) (-1) ≤ nc D := hH.lab.1
  have h30 := nst_30 h.gd hH.lab
  obtain ⟨r1, r2, r3⟩ := set_rank h.gd hH.lab
  obtain ⟨I', e, i1, i2, i3, i4⟩ := for_ex (M := Nat → Nat → Int32) (fun c x => ev (d + 2) 97 95 [.ref 11, .int (nI (gr D (lk D) (-1))), .int c] [] (S sl p x J)) (gr D (lk D) (-1))
    (fun c x => x 11 14 = nI (cnt (bigB D) c) ∧ (∀ j, j < nc D → ∀ c', lb D (lk D) (-1) j = nI c' → c' < gr D (lk D) (-1) → x 12 j = if c' < c then sno D c' else -1) ∧ (∀ c', c' < c → lst D ≤ gz D (lk D) (-1) c' → x (400 + rk D c') 3 = nI (gz D (lk D) (-1) c') ∧ x (400 + rk D c') 4 = gll D (lk D) (-1) c' ∧ x (400 + rk D c') 5 = 0) ∧ ∀ a k, ¬ (a = 11 ∧ k = 14) → a ≠ 12 → ¬ (400 ≤ a ∧ a < 430 ∧ 3 ≤ k ∧ k < 6) → x a k = I a k)
    (by
      rintro c x hc ⟨g1, g2, g3, g4⟩
      have hz := gz_le D (lk D) (-1) c
      have e16 : x 16 c = nI (gz D (lk D) (-1) c) := by rw [g4 _ _ (by omega) (by omega) (by omega)]; exact hH.e16 c hc
      have e13 : x 11 13 = nI (lst D) := by rw [g4 _ _ (by omega) (by omega) (by omega)]; exact h.least
      rw [E97_95, if_pos (lt_n hc (by omega)), ck_if (ixb_n (by omega) (by decide)), cl_n (by omega), e16, e13, nI_1]
      by_cases q : gz D (lk D) (-1) c < lst D
      · rw [if_pos ((nI_lt_iff (by omega) (by omega)).mpr q)]
        have hnb : bigB D c = false := decide_eq_false (by omega)
        refine ⟨x, rfl, ?_, ?_, ?_, g4⟩
        · rw [g1]
          show _ = nI (cnt (bigB D) c + if bigB D c = true then 1 else 0)
          rw [hnb]
          rfl
        · intro j hj c' hj2 hc'
          rw [g2 j hj c' hj2 hc']
          by_cases w : c' < c
          · rw [if_pos w, if_pos (by omega)]
          · rw [if_neg w]
            by_cases w2 : c' < c + 1
            · have : c' = c := by omega
              subst this
              rw [if_pos w2]
              exact (if_pos q).symm
            · rw [if_neg w2]
        · intro c' hc' hb'
          exact g3 c' (by
            rcases Nat.lt_or_ge c' c with w | w
            · exact w
            · have : c' = c := by omega
              subst this
              omega) hb'
      · have hb : lst D ≤ gz D (lk D) (-1) c := by omega
        have hbb : bigB D c = true := decide_eq_true hb
        have hrk := r1 c hc hbb
        have hcb : cnt (bigB D) c < nst D := by
          have : cnt (bigB D) (c + 1) ≤ nst D := by
            have key : ∀ m, c + 1 ≤ m → cnt (bigB D) (c + 1) ≤ cnt (bigB D) m := by
              intro m hm
              induction hm with
              | refl => exact Nat.le_refl _
              | step _ ih => exact Nat.le_trans ih (Nat.le_add_right _ _)
            exact key _ (by omega)
          have e2 : cnt (bigB D) (c + 1) = cnt (bigB D) c + if bigB D c = true then 1 else 0 := rfl
          rw [e2, if_pos hbb] at this
          omega
        rw [if_neg (fun w => q ((nI_lt_iff (by omega) (by omega)).mp w)), g1, if_pos (show nI (cnt (bigB D) c) < 30 from lt_n (n := 30) (by omega) (by decide))]
        have hsv : SV p x J D := h.fr (fun a k w => g4 a k (by omega) (by omega) (by omega)) (g4 _ _ (by omega) (by omega) (by omega)) (g4 _ _ (by omega) (by omega) (by omega)) (fun a k w1 w2 => g4 a k (by omega) (by omega) (by omega)) (fun _ _ _ _ => rfl) (fun _ _ _ _ => rfl)
        have hh : HpAt x D := ⟨hH.lab, fun j hj => by rw [g4 _ _ (by omega) (by omega) (by omega)]; exact hH.e15 j hj, fun j hj => by rw [g4 _ _ (by omega) (by omega) (by omega)]; exact hH.e16 j hj⟩
        obtain ⟨y, y0, y1, y2, y3, y4, y5⟩ := sp_numberHeap (d := d) (sl := sl) hsv hh (fun j hj => by rw [g4 _ _ (by omega) (by omega) (by omega)]; exact h17 j hj) hc hb
        rw [y0, evK_v, E97_128, nI_1, y1 _ _ (by omega) (by omega), g1, nI_1]
        have hrk2 : rk D c < nst D := hrk
        refine ⟨_, rfl, ?_, ?_, ?_, ?_⟩
        · rw [up_s]
          show _ = nI (cnt (bigB D) c + if bigB D c = true then 1 else 0)
          rw [if_pos hbb]
        · intro j hj c' hj2 hc'
          rw [up_na (by omega), y2 j hj, hj2, g2 j hj c' hj2 hc']
          by_cases w : c' = c
          · subst w
            rw [if_pos rfl, if_pos (by omega), sno_big hb]
          · rw [if_neg (fun z => w (nI_ij (by omega) (by omega) z))]
            by_cases w2 : c' < c
            · rw [if_pos w2, if_pos (by omega)]
            · rw [if_neg w2, if_neg (by omega)]
        · intro c' hc' hb'
          rw [up_na (by omega), up_na (by omega), up_na (by omega)]
          by_cases w : c' = c
          · subst w
            exact ⟨y3, y4, y5⟩
          · have hne : rk D c' ≠ rk D c := fun z => w (r2 c' c (by omega) hc (decide_eq_true hb') hbb z)
            rw [y1 _ _ (by omega) (by omega), y1 _ _ (by omega) (by omega), y1 _ _ (by omega) (by omega)]
            exact g3 c' (by omega) hb'
        · intro a k w1 w2 w3
          rw [up_n w1, y1 a k w2 (by omega)]
          exact g4 a k w1 w2 w3)
    I ⟨by rw [h14]; rfl, fun j hj c' _ _ => by rw [if_neg (by omega)]; exact h12 j hj, fun _ w => absurd w (Nat.not_lt_zero _), fun _ _ _ _ _ => rfl⟩
  refine ⟨I', ?_, i1, ?_, ?_, i4⟩
  · rw [e, E97_95, if_neg (nlt_n (by omega))]
  · intro j hj
    obtain ⟨c, hc, ec, es⟩ := lb_c hH.lab n60 hj
    rw [i2 j hj c ec hc, if_pos hc, es]
  · intro s hs
    obtain ⟨c, hc, hb, es, hm⟩ := set_of h.gd hH.lab hs
    rw [sno_big hb] at es
    have hrk := r1 c hc (decide_eq_true hb)
    have e2 : rk D c = s := nI_ij (by unfold rk; omega) (by omega) es
    obtain ⟨m1, m2⟩ := mem_gz hm
    have := i3 c hc hb
    rw [e2] at this
    unfold llS
    rw [m1, m2]
    exact this
end REF
