/-! class and model, one call each -/
section TWO
variable {d sl : Nat} {p : Nat → Nat} {I I' : Nat → Nat → Int32} {J J' : Nat → Nat → Int64} {D : Nat → Nat → Int32} {e y y' : Nat} {as : List Value} {σ σ' : Mm} {v : Value}
theorem rt_run : ∀ (n d y pc : Nat) (L st : List Value) (σ : Mm) (x : Option Value × Mm), irun n d y pc L st σ = some x → ∃ i len st', rtV y i len st' = some x.1 := by
  intro n
  induction n with
  | zero => intro d y pc L st σ x h; simp [irun] at h
  | succ n ih =>
    intro d y pc L st σ x h
    unfold irun at h
    split at h
    · cases h
    · split at h
      · split at h
        · cases h
        · exact ih _ _ _ _ _ _ _ h
      · split at h
        · rename_i i len hd hc hc2
          obtain ⟨r, h1, rfl⟩ := Option.map_eq_some_iff.mp h
          exact ⟨i, len, st, h1⟩
        · split at h
          · split at h
            · cases h
            · split at h
              · exact ih _ _ _ _ _ _ _ h
              · split at h
                · cases h
                · split at h
                  · split at h
                    · cases h
                    · exact ih _ _ _ _ _ _ _ h
                  · cases h
          · cases h
theorem den_int (h : den d y as σ = some (some v, σ')) (hr : mRt y = some .int) : ∃ x, v = .int x := by
  obtain ⟨n, hn⟩ := ev_iff.mp h
  obtain ⟨i, len, st, e⟩ := rt_run _ _ _ _ _ _ _ _ hn
  unfold rtV at e
  split at e
  · split at e
    · split at e
      · cases e; exact ⟨_, rfl⟩
      · cases e
    · rw [hr] at e; simp at e
    · rw [hr] at e; simp [isOb] at e
    · rw [hr] at e; simp at e
    · cases e
  · cases e
theorem den_long (h : den d y as σ = some (some v, σ')) (hr : mRt y = some .long) : ∃ x, v = .long x := by
  obtain ⟨n, hn⟩ := ev_iff.mp h
  obtain ⟨i, len, st, e⟩ := rt_run _ _ _ _ _ _ _ _ hn
  unfold rtV at e
  split at e
  · split at e
    · rw [hr] at e; simp at e
    · cases e
      exact ⟨_, rfl⟩
    · rw [hr] at e; simp [isOb] at e
    · rw [hr] at e; simp at e
    · cases e
  · cases e
theorem CK.fm (h : CK p I J D e) (F : Fm I J I' J') : CK p I' J' D e := h.scr (fun a k w _ _ _ => F.1 a k w) (fun a k w => F.2 a k (by omega)) (fun a k w1 _ => F.2 a k (by omega))
theorem dat_fc (F : Fc I J I' J') : dat I' = dat I := by
  funext a k
  unfold dat
  split
  · exact F.1 a k (by omega) (by omega)
  · rfl
theorem labOf (hD : GD D) (h : dat I = D) : LabD D := by
  obtain ⟨I', -, -, h1, -⟩ := M_sets (d := 0) (sl := 0) (p := fun _ => 0) (J := fun _ _ => 0) hD h
  exact h1.lab
theorem Upd.two (h : Upd d sl p D e y y' as) (c : CK p I J D e) (hd : dat I = D) : ∃ v p' I1 J1 I2 J2 e', e' ≤ e + 1 ∧ den d y (.ref 1 :: as) (S sl p I J) = some (some v, S sl p' I1 J1) ∧ den d y' (.ref 46 :: as) (S sl p' I1 J1) = some (some v, S sl p' I2 J2) ∧ CK p' I2 J2 (dat I2) e' ∧ I2 1 8 = I2 46 0 ∧ ∀ k, I1 0 k = I 0 k := by
  obtain ⟨v, st, p', D', e', he, h1, h2⟩ := h
  obtain ⟨I1, J1, a1, a2, a3, a4⟩ := h1 I J c
  obtain ⟨I2, J2, b1, b2, b3, b4⟩ := h2 I1 J1 ((dat_fc a3).trans hd)
  refine ⟨v, p', I1, J1, I2, J2, e', he, a1, b1, by rw [b2]; exact a2.fm b3, by rw [b3.1 _ _ (by omega), a4, b4], fun k => ?_⟩
  obtain ⟨n, hn⟩ := ev_iff.mp a1
  exact congrFun (inv_run _ _ _ _ _ _ _ _ hn).2.1 k
end TWO
