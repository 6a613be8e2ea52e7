/-- the sum of a set -/
noncomputable def smO (D : Nat → Nat → Int32) (s : Nat) : V3 × Int64 := smP D (fun k => decide (stn D k = nI s)) (pv D (sd D (nI s))) (nc D)
noncomputable def meO (D : Nat → Nat → Int32) (s : Nat) : V3 := if (smO D s).2 = 0 ∨ ((mnv (smO D s)).1 = 0 ∧ (mnv (smO D s)).2.1 = 0 ∧ (mnv (smO D s)).2.2 = 0) then tup (pv D (sd D (nI s))) else tup (mnv (smO D s))
theorem smO_B {D : Nat → Nat → Int32} (hD : GD D) (s : Nat) : sB 1000 (nc D) (smO D s) := smP_B hD _ (Nat.le_refl _)
theorem meO_b {D : Nat → Nat → Int32} (hD : GD D) (hl : LabD D) {s : Nat} (hs : s < nst D) : bv (meO D s) := by
  unfold meO
  split
  · exact tup_b (hD.bp (sd_of hD hl hs).2.1)
  · rename_i h
    exact tup_b (mnv_b (smO_B hD s) (fun q => h (Or.inl q)))
theorem SetAt.fr {I I' : Nat → Nat → Int32} {D : Nat → Nat → Int32} (h : SetAt I D) (h1 : I' 46 31 = I 46 31) (h2 : ∀ k, I' 61 k = I 61 k) : SetAt I' D := ⟨h.lab, by rw [h1]; exact h.e31, fun j hj => by rw [h2]; exact h.e61 j hj⟩
section MEAN
variable {d sl : Nat} {p : Nat → Nat} {I : Nat → Nat → Int32} {J : Nat → Nat → Int64}
theorem ar61 : ar 61 2 60 := by unfold ar; decide +kernel
theorem ar67 : ar 67 2 60 := by unfold ar; decide +kernel
theorem sp_laysSumOf (hD : GD (dat I)) (hS : SetAt I (dat I)) {s : Nat} (hs : s < nst (dat I)) : den (d + 8) 219 [.ref 46, .int (nI s)] (S sl p I J) = some (none, S sl p I (setS J (smO (dat I) s))) := by
  have n60 := hD.n60
  obtain ⟨-, h1, h2⟩ := sd_of hD hS.lab hs
  rw [E219_0, sp_seedOf hD hS hs, evK_s, E219_5, ck_if (ixb_n (by omega) (by decide)), ck_if (ixb_n (by omega) (by decide)), ck_if (ixb_n (by omega) (by decide)), cl_n (by omega)]
  have h := sp_laysSum (d := d + 1) (sl := sl) (p := p) (I := I) (J := J) hD ar61 (nI s) (pv (dat I) (sd (dat I) (nI s)))
  rw [show (pv (dat I) (sd (dat I) (nI s))).1 = Int32.toInt64 (I 54 (sd (dat I) (nI s))) from rfl, show (pv (dat I) (sd (dat I) (nI s))).2.1 = Int32.toInt64 (I 55 (sd (dat I) (nI s))) from rfl, show (pv (dat I) (sd (dat I) (nI s))).2.2 = Int32.toInt64 (I 56 (sd (dat I) (nI s))) from rfl] at h
  rw [h, evK_v, E219_36]
  unfold smO
  rw [smP_c (P := fun k => decide (I 61 k = nI s)) (Q := fun k => decide (stn (dat I) k = nI s)) _ (fun j hj => by rw [hS.e61 j hj])]
theorem sp_laysMeanOf (hD : GD (dat I)) (hS : SetAt I (dat I)) {s : Nat} (hs : s < nst (dat I)) : den (d + 9) 220 [.ref 46, .int (nI s)] (S sl p I J) = some (none, S sl p (set3v I (meO (dat I) s)) (setS J (smO (dat I) s))) := by
  have n60 := hD.n60
  obtain ⟨-, h1, h2⟩ := sd_of hD hS.lab hs
  obtain ⟨m1, m2, m3⟩ := sp_laysMean (d := d + 7) (sl := sl) (p := p) (I := I) (J := J) (smO_B hD s)
  rw [E220_0, sp_laysSumOf hD hS hs, evK_v, E220_5]
  have back : ∀ I', dat I' = dat I → SetAt I' (dat I) → (∀ v, set3v I' v = set3v I v) → ev (d + 9) 220 9 [.ref 46, .int (nI s), .retAddr 0] [.int 0] (S sl p I' (setS J (smO (dat I) s))) = some (none, S sl p (set3v I (tup (pv (dat I) (sd (dat I) (nI s))))) (setS J (smO (dat I) s))) := by
    intro I' d' S' hv
    have hb : bw (pv (dat I) (sd (dat I) (nI s))) := bv_w (hD.bp h1)
    rw [E220_9, if_pos rfl, sp_seedOf (by rw [d']; exact hD) (by rw [d']; exact S') (by rw [d']; exact hs), evK_s, d', E220_18, ck_if (ixb_n (by omega) (by decide)), ck_if (ixb_n (by omega) (by decide)), ck_if (ixb_n (by omega) (by decide)), cl_n (by omega), up_na (by omega), up_na (by omega), up_na (by omega)]
    have e : ∀ a, 47 ≤ a → a < 60 → I' a (sd (dat I) (nI s)) = dat I a (sd (dat I) (nI s)) := fun a g1 g2 => by rw [← d', dat_r ⟨g1, g2⟩]
    have e4 : I' 54 (sd (dat I) (nI s)) = (pv (dat I) (sd (dat I) (nI s))).1.toInt32 := by rw [e 54 (by omega) (by omega)]; exact (Int32.toInt32_toInt64 _).symm
    have e5 : I' 55 (sd (dat I) (nI s)) = (pv (dat I) (sd (dat I) (nI s))).2.1.toInt32 := by rw [e 55 (by omega) (by omega)]; exact (Int32.toInt32_toInt64 _).symm
    have e6 : I' 56 (sd (dat I) (nI s)) = (pv (dat I) (sd (dat I) (nI s))).2.2.toInt32 := by rw [e 56 (by omega) (by omega)]; exact (Int32.toInt32_toInt64 _).symm
    rw [e4, e5, e6]
    have h := sp_turnsUp (d := d + 8) (sl := sl) (p := p) (I := I') (J := setS J (smO (dat I) s)) hb
    rw [hv] at h
    rw [show up2 (up2 (up2 I' 46 23 (pv (dat I) (sd (dat I) (nI s))).1.toInt32) 46 24 (pv (dat I) (sd (dat I) (nI s))).2.1.toInt32) 46 25 (pv (dat I) (sd (dat I) (nI s))).2.2.toInt32 = set3v I (pv (dat I) (sd (dat I) (nI s))) from hv _, h, evK_v, E220_53, hv]
  by_cases c0 : (smO (dat I) s).2 = 0
  · rw [m1 c0, evK_s, back I rfl hS (fun _ => rfl)]
    unfold meO
    rw [if_pos (Or.inl c0)]
  · by_cases c1 : zv (mnv (smO (dat I) s))
    · rw [m2 c0 c1, evK_s, back _ dat_set3v (hS.fr (set3v_n (by omega)) (fun k => set3v_n (by omega))) (fun _ => set3v_2)]
      unfold meO
      rw [if_pos (Or.inr (show (mnv (smO (dat I) s)).1 = 0 ∧ (mnv (smO (dat I) s)).2.1 = 0 ∧ (mnv (smO (dat I) s)).2.2 = 0 from c1))]
    · rw [m3 c0 c1, evK_s, E220_9, if_neg (by decide)]
      unfold meO
      rw [if_neg (by rintro (q | q); exact c0 q; exact c1 q)]
def MeanAt (I : Nat → Nat → Int32) (D : Nat → Nat → Int32) (n : Nat) : Prop := (∀ s, s < n → I 64 s = (meO D s).1.toInt32) ∧ (∀ s, s < n → I 65 s = (meO D s).2.1.toInt32) ∧ (∀ s, s < n → I 66 s = (meO D s).2.2.toInt32)
theorem MeanAt.x {I : Nat → Nat → Int32} {D : Nat → Nat → Int32} {n : Nat} (h : MeanAt I D n) : ∀ s, s < n → I 64 s = (meO D s).1.toInt32 := h.1
theorem MeanAt.y {I : Nat → Nat → Int32} {D : Nat → Nat → Int32} {n : Nat} (h : MeanAt I D n) : ∀ s, s < n → I 65 s = (meO D s).2.1.toInt32 := h.2.1
theorem MeanAt.z {I : Nat → Nat → Int32} {D : Nat → Nat → Int32} {n : Nat} (h : MeanAt I D n) : ∀ s, s < n → I 66 s = (meO D s).2.2.toInt32 := h.2.2
theorem sp_laysMeans (hD : GD (dat I)) : ∃ I' J', den (d + 10) 221 [.ref 46] (S sl p I J) = some (none, S sl p I' J') ∧ SetAt I' (dat I) ∧ MeanAt I' (dat I) (nst (dat I)) ∧ (∀ a k, ¬ (a = 46 ∧ ((23 ≤ k ∧ k < 26) ∨ k = 30 ∨ k = 31)) → ¬ (60 ≤ a ∧ a < 67) → I' a k = I a k) ∧ ∀ a k, ¬ (a = 46 ∧ 32 ≤ k ∧ k < 36) → J' a k = J a k := by
  obtain ⟨I1, e1, S1, f1⟩ := sp_laysSets (d := d + 2) (sl := sl) (p := p) (J := J) hD
  have d1 : dat I1 = dat I := by
    funext a k
    unfold dat
    split
    · exact f1 a k (by omega) (by omega) (by omega) (by omega) (by omega)
    · rfl
  have h30 := nst_30 hD S1.lab
  have n60 := hD.n60
  obtain ⟨⟨I', J'⟩, e2, h1, h2, h3, h4, h5⟩ := for_ex (M := (Nat → Nat → Int32) × (Nat → Nat → Int64)) (fun k x => ev (d + 10) 221 6 [.ref 46, .int k] [] (S sl p x.1 x.2)) (nst (dat I))
    (fun k x => dat x.1 = dat I ∧ SetAt x.1 (dat I) ∧ MeanAt x.1 (dat I) k ∧ (∀ a k, ¬ (a = 46 ∧ ((23 ≤ k ∧ k < 26) ∨ k = 30 ∨ k = 31)) → ¬ (60 ≤ a ∧ a < 67) → x.1 a k = I a k) ∧ ∀ a k, ¬ (a = 46 ∧ 32 ≤ k ∧ k < 36) → x.2 a k = J a k)
    (by
      rintro s ⟨I2, J2⟩ hs ⟨h1, h2, h3, h4, h5⟩
      simp only at h1 h2 h3 h4 h5 ⊢
      have hs2 := h2
      rw [E221_6, h2.e31, if_pos (lt_n hs (by omega)), sp_laysMeanOf (by rw [h1]; exact hD) (by rw [h1]; exact h2) (by rw [h1]; exact hs), evK_v, h1, E221_19, ck_if (ixb_n (by omega) (by decide)), ck_if (ixb_n (by omega) (by decide)), ck_if (ixb_n (by omega) (by decide)), cl_n (by omega), up_na (by omega), up_na (by omega), up_na (by omega), nI_1]
      obtain ⟨v1, v2, v3⟩ := set3v_r (I := I2) (v := meO (dat I) s)
      rw [v1, v2, v3]
      refine ⟨(up2 (up2 (up2 (set3v I2 (meO (dat I) s)) 64 s (meO (dat I) s).1.toInt32) 65 s (meO (dat I) s).2.1.toInt32) 66 s (meO (dat I) s).2.2.toInt32, setS J2 (smO (dat I) s)), rfl, ?_, ?_, ⟨?_, ?_, ?_⟩, ?_, ?_⟩
      · simp only
        rw [dat_up (by unfold isD; omega), dat_up (by unfold isD; omega), dat_up (by unfold isD; omega), dat_set3v, h1]
      · exact h2.fr (by simp only; rw [up_na (by omega), up_na (by omega), up_na (by omega), set3v_n (by omega)]) (fun k => by simp only; rw [up_na (by omega), up_na (by omega), up_na (by omega), set3v_n (by omega)])
      · intro j hj
        simp only
        rw [up_na (by omega), up_na (by omega)]
        by_cases q : j = s
        · rw [q, up_s]
        · rw [up_nk q, set3v_n (by omega)]; exact h3.x j (by omega)
      · intro j hj
        simp only
        rw [up_na (by omega)]
        by_cases q : j = s
        · rw [q, up_s]
        · rw [up_nk q, up_na (by omega), set3v_n (by omega)]; exact h3.y j (by omega)
      · intro j hj
        simp only
        by_cases q : j = s
        · rw [q, up_s]
        · rw [up_nk q, up_na (by omega), up_na (by omega), set3v_n (by omega)]; exact h3.z j (by omega)
      · intro a k g1 g2
        simp only
        rw [up_na (by omega), up_na (by omega), up_na (by omega), set3v_n (by omega)]
        exact h4 a k g1 g2
      · intro a k g1
        simp only
        rw [setS_n g1]
        exact h5 a k g1)
    (I1, J) ⟨d1, S1, ⟨fun _ h => absurd h (Nat.not_lt_zero _), fun _ h => absurd h (Nat.not_lt_zero _), fun _ h => absurd h (Nat.not_lt_zero _)⟩, fun a k g1 g2 => f1 a k (by omega) (by omega) (by omega) (by omega) (by omega), fun _ _ _ => rfl⟩
  refine ⟨I', J', ?_, h2, h3, h4, h5⟩
  simp only at e2 h2
  rw [E221_0, e1, evK_v, E221_4, e2, E221_6, h2.e31, if_neg (nlt_n (by omega))]
end MEAN
