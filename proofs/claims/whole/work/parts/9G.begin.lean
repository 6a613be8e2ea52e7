/-! where the law's loop begins -/
section BEG
variable {d sl : Nat} {R : Nat → Nat → Option Nat} {I : Nat → Nat → Int32} {J : Nat → Nat → Int64}
theorem RF_o {a k : Nat} (h : a = 0 ∨ (73 ≤ a ∧ a < 100)) : RF id a k = none := by
  have e : rfRow a = [] := by
    unfold rfRow
    split <;> first | omega | rfl
  unfold RF
  rw [if_pos (by omega), if_neg (by omega), if_neg (by omega), if_neg (by omega), if_neg (by omega), if_neg (by omega), e]
  rfl
/-- the cracks' places at the start -/
def p0 (k : Nat) : Nat := if k < 60 then k else 0
theorem RF_p0 : RF id = RF p0 := by
  funext a k
  unfold RF
  by_cases h : k < 60
  · rw [show p0 k = id k from if_pos h]
  · simp only [if_neg h]
theorem begun (L : Nat) (xs : Nat → Int32) : ∃ I J, ev (d + 6) 309 0 (enL 309 [.ref 0]) [] (sg0 L xs) = ev (d + 6) 309 18 [.ref 0, .ref 1, .ref 46, .int 0] [] (S L p0 I J) ∧ CK p0 I J (dat I) 0 ∧ I 1 8 = I 46 0 := by
  obtain ⟨R1, I1, J1, e1, f1, g1, -, c18, c3, ⟨c47, c48, c49, c410⟩, c200, ⟨b12, b13, b15, b16⟩, s8, ⟨y8, y9, y10, y11⟩, h5, h6, h7, h8, h9⟩ := sp_class (d := d) (sl := L) (R := fun _ _ => none) (I := zr2 (fun a k => if a = 0 then xs k else 0) 1 0) (J := zr2 (fun _ _ => 0) 1 0)
  obtain ⟨R2, I2, J2, e2, f2, g2, m0, m1, m2, m3, m4, m5, m6, m7, m8, m9⟩ := sp_model (d := d + 3) (sl := L) (R := R1) (I := I1) (J := zr2 J1 46 0)
  have hR : R2 = RF p0 := by
    rw [← RF_p0]
    funext a k
    rw [f2]
    by_cases h : 46 ≤ a ∧ a < 73
    · rw [if_pos h]
    · rw [if_neg h]
      by_cases q : clP a
      · exact f1 a k q
      · rw [g1 a k q]
        unfold clP at q
        by_cases r : a < 100
        · rw [RF_o (by omega)]
        · rw [RF_v (by omega) (by omega) (by omega) (by omega)]
  have D6 : ∀ k, 1 ≤ k ∧ k < 10 → dat I2 46 k = I2 46 k := fun k hk => dat_6 hk
  have n0 : nc (dat I2) = 0 := by unfold nc; rw [D6 _ (by omega), m2]; rfl
  have l0 : nl (dat I2) = 0 := by unfold nl; rw [D6 _ (by omega), m1]; rfl
  have k0 : lk (dat I2) = 10 := by unfold lk; rw [D6 _ (by omega), m3]; rfl
  have t0 : lst (dat I2) = 3 := by unfold lst; rw [D6 _ (by omega), m4]; rfl
  have q0 : cp (dat I2) = 1 := by unfold cp; rw [D6 _ (by omega), m5]; rfl
  have gd : GD (dat I2) := ⟨by omega, by rw [n0, D6 _ (by omega), m2]; rfl, by omega, by rw [l0, D6 _ (by omega), m1]; rfl, by omega, by omega, by rw [k0, D6 _ (by omega), m3]; rfl, by omega, by omega, by rw [t0, D6 _ (by omega), m4]; rfl, by omega, by omega, by rw [q0, D6 _ (by omega), m5]; rfl, ⟨0, by omega, by rw [D6 _ (by omega), m6]; rfl⟩, ⟨60, by omega, by omega, by rw [D6 _ (by omega), m7]; rfl⟩, ⟨30, by omega, by rw [D6 _ (by omega), m8]; rfl⟩, ⟨20, by omega, by rw [D6 _ (by omega), m9]; rfl⟩, fun l hl => absurd hl (by omega), fun i hi => absurd hi (by omega)⟩
  have no : ∀ {x : Int32} {Q : Prop}, x = -1 → Ol 0 x ∧ (x = nI 0 → Q) := fun h => ⟨Or.inl h, fun w => absurd (h.symm.trans w) (by decide)⟩
  refine ⟨I2, J2, ?_, ⟨⟨gd, fun k hk => ?_, fun k => ?_, fun i j hi hj w => ?_, ?_, ?_, ?_, fun l hl => absurd hl (by omega), fun j hj => ?_, fun i hi => absurd hi (by omega), fun i hi => absurd hi (by omega), fun i j hi _ => absurd hi (by omega), ?_, ?_⟩, ?_, fun k hk => ?_, ?_, ?_, ?_, ?_, ?_, ?_, ?_, ?_⟩, ?_⟩
  · refine (show ev (d + 6) 309 0 (enL 309 [.ref 0]) [] (sg0 L xs) = ev (d + 6) 309 0 [.ref 0, .retAddr 0, .retAddr 0, .retAddr 0] [] (G L (fun _ _ => none) 0 (fun a k => if a = 0 then xs k else 0) (fun _ _ => 0)) from rfl).trans ?_
    rw [K309_0, e1, evK_v, K309_7, e2, evK_v, K309_15, hR]
    rfl
  · rw [g2 _ _ (by omega)]; exact c3 k hk
  · unfold p0; split <;> omega
  · unfold p0 at w; rw [if_pos hi, if_pos hj] at w; exact w
  · rw [g2 _ _ (by omega), c47, l0]; rfl
  · rw [g2 _ _ (by omega), c48, n0]; rfl
  · rw [g2 _ _ (by omega), c49, q0]; rfl
  · rw [g2 _ _ (by omega)]; exact c200 j hj
  · rw [g2 _ _ (by omega), b12, k0]; rfl
  · rw [g2 _ _ (by omega), b13, t0]; rfl
  · rw [g2 _ _ (by omega), c410]; rfl
  · rw [g2 _ _ (by omega), D6 _ (by omega)]
    have hk4 : k = 0 ∨ k = 1 ∨ k = 2 ∨ k = 3 := by omega
    rcases hk4 with rfl | rfl | rfl | rfl
    · exact h5.trans m6.symm
    · exact h6.trans m7.symm
    · exact h7.trans m8.symm
    · exact h8.trans m9.symm
  · exact no (by rw [g2 _ _ (by omega)]; exact b15)
  · exact no (by rw [g2 _ _ (by omega)]; exact b16)
  · exact no (by rw [g2 _ _ (by omega)]; exact s8)
  · exact no (by rw [g2 _ _ (by omega)]; exact y8)
  · exact no (by rw [g2 _ _ (by omega)]; exact y9)
  · exact no (by rw [g2 _ _ (by omega)]; exact y10)
  · exact no (by rw [g2 _ _ (by omega)]; exact y11)
  · exact no (by rw [g2 _ _ (by omega)]; exact h9)
  · rw [g2 _ _ (by omega), c18, m0]
end BEG
