/-! sets are NUMBERED one to one -/
theorem cnt_0 {P : Nat → Bool} : ∀ n, (∀ j, j < n → ¬ P j = true) → cnt P n = 0
  | 0, _ => rfl
  | n + 1, h => by
    show cnt P n + (if P n then 1 else 0) = 0
    rw [cnt_0 n (fun j hj => h j (by omega)), if_neg (h n (by omega))]
theorem cnt_pos {P : Nat → Bool} {n j : Nat} (hj : j < n) (h : P j = true) : 0 < cnt P n := by
  have := cnt_lt (P := fun _ => false) (Q := P) n (fun _ _ q => by simp at q) ⟨j, hj, h, by simp⟩
  omega
theorem cnt_ex {P : Nat → Bool} : ∀ {n : Nat}, 0 < cnt P n → ∃ j, j < n ∧ P j = true
  | 0, h => absurd h (Nat.lt_irrefl 0)
  | n + 1, h => by
    by_cases q : P n = true
    · exact ⟨n, by omega, q⟩
    · have h' : 0 < cnt P n + (if P n then 1 else 0) := h
      rw [if_neg q] at h'
      obtain ⟨j, hj, e⟩ := cnt_ex h'
      exact ⟨j, by omega, e⟩
/-- they differ in one at most -/
theorem cnt_1 {P Q : Nat → Bool} : ∀ n, (∀ i j, i < n → j < n → P i = true → ¬ Q i = true → P j = true → ¬ Q j = true → i = j) → cnt P n ≤ cnt Q n + 1
  | 0, _ => Nat.zero_le _
  | n + 1, h => by
    show cnt P n + (if P n then 1 else 0) ≤ cnt Q n + (if Q n then 1 else 0) + 1
    by_cases hp : P n = true
    · by_cases hq : Q n = true
      · have := cnt_1 n (fun i j hi hj => h i j (by omega) (by omega))
        rw [if_pos hp, if_pos hq]; omega
      · have := cnt_mono (P := P) (Q := Q) n (fun j hj hj2 => by
          by_cases w : Q j = true
          · exact w
          · have := h j n (by omega) (by omega) hj2 w hp hq
            omega)
        rw [if_pos hp, if_neg hq]; omega
    · have := cnt_1 n (fun i j hi hj => h i j (by omega) (by omega))
      rw [if_neg hp]; omega
/-- as many as fit -/
theorem cnt_inj {P : Nat → Bool} {n : Nat} {f : Nat → Nat} : ∀ t, (∀ j, j < n → P j = true → f j < t) → (∀ i j, i < n → j < n → P i = true → P j = true → f i = f j → i = j) → cnt P n ≤ t
  | 0, h, _ => Nat.le_of_eq (cnt_0 n (fun j hj q => absurd (h j hj q) (Nat.not_lt_zero _)))
  | t + 1, h, hi => by
    have h1 := cnt_1 (P := P) (Q := fun j => P j && decide (f j < t)) n (by
      intro i j h1 h2 p1 q1 p2 q2
      have a1 := h i h1 p1
      have a2 := h j h2 p2
      have b1 : ¬ f i < t := fun w => q1 (by simp [p1, w])
      have b2 : ¬ f j < t := fun w => q2 (by simp [p2, w])
      exact hi i j h1 h2 p1 p2 (by omega))
    have h2 := cnt_inj (P := fun j => P j && decide (f j < t)) (n := n) (f := f) t (fun j hj q => by
      have := (Bool.and_eq_true _ _).mp q
      exact of_decide_eq_true this.2) (fun i j a b c e w => hi i j a b ((Bool.and_eq_true _ _).mp c).1 ((Bool.and_eq_true _ _).mp e).1 w)
    omega
/-- what an order numbers, it numbers one to one -/
theorem rank_all {n : Nat} {B : Nat → Bool} {R : Nat → Nat → Bool} (hir : ∀ c, ¬ R c c = true) (htr : ∀ a b c, R a b = true → R b c = true → R a c = true) (hto : ∀ a b, a < n → b < n → B a = true → B b = true → a ≠ b → R a b = true ∨ R b a = true) :
    (∀ c, c < n → B c = true → cnt (fun h => B h && R h c) n < cnt B n) ∧ (∀ a b, a < n → b < n → B a = true → B b = true → cnt (fun h => B h && R h a) n = cnt (fun h => B h && R h b) n → a = b) ∧ ∀ s, s < cnt B n → ∃ c, c < n ∧ B c = true ∧ cnt (fun h => B h && R h c) n = s := by
  have h1 : ∀ c, c < n → B c = true → cnt (fun h => B h && R h c) n < cnt B n := fun c hc hb => cnt_lt n (fun j _ q => ((Bool.and_eq_true _ _).mp q).1) ⟨c, hc, hb, fun q => hir c ((Bool.and_eq_true _ _).mp q).2⟩
  have h0 : ∀ a b, a < n → B a = true → R a b = true → cnt (fun h => B h && R h a) n < cnt (fun h => B h && R h b) n := fun a b ha hb hr => cnt_lt n (fun j _ q => by
    have := (Bool.and_eq_true _ _).mp q
    exact (Bool.and_eq_true _ _).mpr ⟨this.1, htr _ _ _ this.2 hr⟩) ⟨a, ha, (Bool.and_eq_true _ _).mpr ⟨hb, hr⟩, fun q => hir a ((Bool.and_eq_true _ _).mp q).2⟩
  have h2 : ∀ a b, a < n → b < n → B a = true → B b = true → cnt (fun h => B h && R h a) n = cnt (fun h => B h && R h b) n → a = b := by
    intro a b ha hb ba bb e
    by_cases q : a = b
    · exact q
    · rcases hto a b ha hb ba bb q with w | w
      · have := h0 a b ha ba w
        omega
      · have := h0 b a hb bb w
        omega
  refine ⟨h1, h2, ?_⟩
  intro s hs
  by_cases hex : ∃ c, c < n ∧ B c = true ∧ cnt (fun h => B h && R h c) n = s
  · exact hex
  · exfalso
    have hne : ∀ c, c < n → B c = true → cnt (fun h => B h && R h c) n ≠ s := fun c hc hb e => hex ⟨c, hc, hb, e⟩
    have := cnt_inj (P := B) (n := n) (f := fun c => if cnt (fun h => B h && R h c) n < s then cnt (fun h => B h && R h c) n else cnt (fun h => B h && R h c) n - 1) (cnt B n - 1) (fun c hc hb => by
      have a1 := h1 c hc hb
      have a2 := hne c hc hb
      show (if cnt (fun h => B h && R h c) n < s then cnt (fun h => B h && R h c) n else cnt (fun h => B h && R h c) n - 1) < cnt B n - 1
      generalize cnt (fun h => B h && R h c) n = x at a1 a2
      split <;> omega) (fun a b ha hb ba bb e => by
      have a2 := hne a ha ba
      have b2 := hne b hb bb
      refine h2 a b ha hb ba bb ?_
      have e' : (if cnt (fun h => B h && R h a) n < s then cnt (fun h => B h && R h a) n else cnt (fun h => B h && R h a) n - 1) = (if cnt (fun h => B h && R h b) n < s then cnt (fun h => B h && R h b) n else cnt (fun h => B h && R h b) n - 1) := e
      split at e' <;> split at e' <;> omega)
    omega
def smN (f : Nat → Nat) : Nat → Nat
  | 0 => 0
  | n + 1 => smN f n + f n
theorem smN_le {f h : Nat → Nat} : ∀ n, (∀ j, j < n → f j ≤ h j) → smN f n ≤ smN h n
  | 0, _ => Nat.le_refl 0
  | n + 1, q => Nat.add_le_add (smN_le n (fun j hj => q j (by omega))) (q n (by omega))
/-- the sizes of all groups together -/
theorem smN_cnt {l : Nat → Int32} {g : Nat} (hg : g < 2 ^ 30) : ∀ n, smN (fun c => cnt (fun j => decide (l j = nI c)) n) g ≤ n
  | 0 => by
    have : ∀ g, smN (fun _ => 0) g = 0 := fun g => by
      induction g with
      | zero => rfl
      | succ g ih => show smN _ g + 0 = 0; rw [ih]
    exact Nat.le_of_eq (this g)
  | n + 1 => by
    have ih := smN_cnt (l := l) hg n
    have key : ∀ g', g' ≤ g → smN (fun c => cnt (fun j => decide (l j = nI c)) (n + 1)) g' ≤ smN (fun c => cnt (fun j => decide (l j = nI c)) n) g' + 1 ∧ ((∀ c, c < g' → ¬ l n = nI c) → smN (fun c => cnt (fun j => decide (l j = nI c)) (n + 1)) g' = smN (fun c => cnt (fun j => decide (l j = nI c)) n) g') := by
      intro g'
      induction g' with
      | zero => intro _; exact ⟨Nat.zero_le _, fun _ => rfl⟩
      | succ c ih =>
        intro hc
        obtain ⟨i1, i2⟩ := ih (by omega)
        have e : cnt (fun j => decide (l j = nI c)) (n + 1) = cnt (fun j => decide (l j = nI c)) n + (if decide (l n = nI c) = true then 1 else 0) := rfl
        show smN (fun c => cnt (fun j => decide (l j = nI c)) (n + 1)) c + cnt (fun j => decide (l j = nI c)) (n + 1) ≤ smN (fun c => cnt (fun j => decide (l j = nI c)) n) c + cnt (fun j => decide (l j = nI c)) n + 1 ∧ (_ → smN (fun c => cnt (fun j => decide (l j = nI c)) (n + 1)) c + cnt (fun j => decide (l j = nI c)) (n + 1) = smN (fun c => cnt (fun j => decide (l j = nI c)) n) c + cnt (fun j => decide (l j = nI c)) n)
        rw [e]
        by_cases q : l n = nI c
        · rw [if_pos (decide_eq_true q)]
          have := i2 (fun c' hc' w => by
            rw [q] at w
            have := nI_ij (by omega) (by omega) w
            omega)
          exact ⟨by omega, fun h => absurd q (h c (by omega))⟩
        · rw [if_neg (by simpa using q)]
          exact ⟨by omega, fun h => by rw [i2 (fun c' hc' => h c' (by omega))]; rfl⟩
    have := (key g (Nat.le_refl g)).1
    omega
