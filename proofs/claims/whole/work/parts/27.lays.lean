/-! the model's GROUPS -/
def cnt (P : Nat → Bool) : Nat → Nat
  | 0 => 0
  | n + 1 => cnt P n + (if P n then 1 else 0)
theorem cnt_le {P : Nat → Bool} : ∀ n, cnt P n ≤ n
  | 0 => Nat.le_refl 0
  | n + 1 => by
    have := cnt_le (P := P) n
    show cnt P n + (if P n then 1 else 0) ≤ n + 1
    split <;> omega
theorem cnt_mono {P Q : Nat → Bool} : ∀ n, (∀ j, j < n → P j = true → Q j = true) → cnt P n ≤ cnt Q n
  | 0, _ => Nat.le_refl 0
  | n + 1, h => by
    have h1 := cnt_mono n (fun j hj => h j (by omega))
    show cnt P n + (if P n then 1 else 0) ≤ cnt Q n + (if Q n then 1 else 0)
    by_cases hp : P n = true
    · rw [if_pos hp, if_pos (h n (by omega) hp)]; omega
    · rw [if_neg hp]; omega
theorem cnt_lt {P Q : Nat → Bool} : ∀ n, (∀ j, j < n → P j = true → Q j = true) → (∃ j, j < n ∧ Q j = true ∧ ¬ P j = true) → cnt P n < cnt Q n
  | 0, _, ⟨_, h, _⟩ => absurd h (Nat.not_lt_zero _)
  | n + 1, h, ⟨j, hj, hq, hp⟩ => by
    show cnt P n + (if P n then 1 else 0) < cnt Q n + (if Q n then 1 else 0)
    by_cases e : j = n
    · subst e
      have h1 := cnt_mono j (fun i hi => h i (by omega))
      rw [if_neg hp, if_pos hq]; omega
    · have h1 := cnt_lt n (fun i hi => h i (by omega)) ⟨j, by omega, hq, hp⟩
      by_cases hp2 : P n = true
      · rw [if_pos hp2, if_pos (h n (by omega) hp2)]; omega
      · rw [if_neg hp2]; omega
def up1 {α : Type} (l : Nat → α) (j : Nat) (v : α) : Nat → α := fun k => if k = j then v else l k
theorem up1_s {α : Type} {l : Nat → α} {j : Nat} {v : α} : up1 l j v j = v := if_pos rfl
theorem up1_n {α : Type} {l : Nat → α} {j k : Nat} {v : α} (h : k ≠ j) : up1 l j v k = l k := if_neg h
theorem up1_up {α : Type} {l : Nat → α} {j : Nat} {v w : α} : up1 (up1 l j v) j w = up1 l j w := by
  funext k
  unfold up1
  split <;> rfl
/-- a whole row in the place of another -/
def row {α : Type} (I : Nat → Nat → α) (a : Nat) (l : Nat → α) : Nat → Nat → α := fun a' k => if a' = a then l k else I a' k
theorem row_s {α : Type} {I : Nat → Nat → α} {a : Nat} {l : Nat → α} {k : Nat} : row I a l a k = l k := if_pos rfl
theorem row_n {α : Type} {I : Nat → Nat → α} {a a' : Nat} {l : Nat → α} {k : Nat} (h : a' ≠ a) : row I a l a' k = I a' k := if_neg h
theorem row_up {α : Type} {I : Nat → Nat → α} {a : Nat} {l : Nat → α} {k : Nat} {v : α} : up2 (row I a l) a k v = row I a (up1 l k v) := by
  funext a' k'
  unfold up2 row up1
  by_cases h : a' = a
  · simp [h]
  · simp [h]
theorem row_un {α : Type} {I : Nat → Nat → α} {a a' : Nat} {l : Nat → α} {k : Nat} {v : α} (h : a' ≠ a) : up2 (row I a l) a' k v = row (up2 I a' k v) a l := by
  funext b k'
  unfold up2 row
  by_cases h2 : b = a
  · rw [if_pos h2, if_neg (by omega), if_pos h2]
  · rw [if_neg h2, if_neg h2]
theorem row_id {α : Type} {I : Nat → Nat → α} {a : Nat} : row I a (I a) = I := by
  funext b k'
  unfold row
  split
  · rename_i h; rw [h]
  · rfl
theorem up_up {α : Type} {I : Nat → Nat → α} {a k : Nat} {v w : α} : up2 (up2 I a k v) a k w = up2 I a k w := by
  funext b k'
  unfold up2
  split <;> rfl
theorem dat_row {I : Nat → Nat → Int32} {a : Nat} {l : Nat → Int32} (h : a = 46 ∨ ¬ (47 ≤ a ∧ a < 60)) (h2 : a ≠ 46) : dat (row I a l) = dat I := by
  funext b k
  unfold dat
  split
  · exact row_n (by omega)
  · rfl
/-- the flood of a label g from k -/
def Fl (n : Nat) (A : Nat → Nat → Prop) (bt : Int32) (k g : Nat) (l0 l : Nat → Int32) : Prop := ∀ j, l j = l0 j ∨ (l0 j = -1 ∧ l j = nI g ∧ j < n ∧ ¬ nI j = bt ∧ Con n A bt k j)
theorem Lab_next {n : Nat} {A : Nat → Nat → Prop} {bt : Int32} {k g : Nat} {l0 l : Nat → Int32} (hA : ∀ i j, A i j → A j i) (hn : n < 2 ^ 30) (hk : k < n) (hkb : ¬ nI k = bt) (h : LabK n A bt l0 g k) (h0 : l0 k = -1) (hf : Fl n A bt k g l0 l) (hlk : l k = nI g) (hc : ∀ a, a < n → l a = nI g → ∀ b, b < n → ¬ nI b = bt → l b = -1 → ¬ A a b) : LabK n A bt l (g + 1) (k + 1) := by
  obtain ⟨a0, a1, a2, a3, a4, a5, a6⟩ := h
  have hg : ¬ nI g = -1 := nI_m1 (by omega)
  have old : ∀ j, ¬ l0 j = -1 → l j = l0 j := fun j hj => (hf j).resolve_right (fun q => hj q.1)
  refine ⟨by omega, ?_, ?_, ?_, ?_, ?_, ?_⟩
  · intro j hj hb
    rcases hf j with q | q
    · rw [q, a1 j hj hb]
    · exact absurd hb q.2.2.2.1
  · intro j hj
    rcases hf j with q | q
    · rcases a2 j hj with w | ⟨c, hc, w⟩
      · exact Or.inl (by rw [q, w])
      · exact Or.inr ⟨c, by omega, by rw [q, w]⟩
    · exact Or.inr ⟨g, by omega, q.2.1⟩
  · intro j hj hb
    by_cases e : j = k
    · rw [e, hlk]; exact hg
    · rw [old j (a3 j (by omega) hb)]; exact a3 j (by omega) hb
  · intro i j hi hj bi bj hij hli
    by_cases h1 : l0 i = -1
    · rcases hf i with q | q
      · rw [q] at hli; exact absurd h1 hli
      · by_cases h2 : l j = -1
        · exact absurd hij (hc i hi q.2.1 j hj bj h2)
        · rcases hf j with w | w
          · have h3 : ¬ l0 j = -1 := by rw [← w]; exact h2
            have := a4 j i hj hi bj bi (hA i j hij) h3
            rw [h1] at this
            exact absurd this h3
          · rw [q.2.1, w.2.1]
    · have h3 := a4 i j hi hj bi bj hij h1
      rw [old i h1, old j (by rw [← h3]; exact h1), h3]
  · intro i j hi hj hli hij
    have big : ∀ x, x < n → ¬ l0 x = -1 → ¬ l0 x = nI g := by
      intro x hx hx1 hx2
      obtain ⟨c, hc, w⟩ := (a2 x hx).resolve_left hx1
      rw [w] at hx2
      have := nI_ij (by omega) (by omega) hx2
      omega
    rcases hf i with q | q
    · have hi1 : ¬ l0 i = -1 := by rw [← q]; exact hli
      rcases hf j with w | w
      · exact a5 i j hi hj hi1 (by rw [← q, ← w, hij])
      · exact absurd (by rw [← q, hij, w.2.1]) (big i hi hi1)
    · rcases hf j with w | w
      · have hj1 : ¬ l0 j = -1 := by rw [← w, ← hij]; exact hli
        exact absurd (by rw [← w, ← hij, q.2.1]) (big j hj hj1)
      · exact q.2.2.2.2.sy.tr w.2.2.2.2
  · intro c hc
    rcases Nat.lt_or_ge c g with q | q
    · obtain ⟨r, r1, r2, r3, r4, r5⟩ := a6 c q
      refine ⟨r, by omega, r2, r3, by rw [old r (a3 r r1 r3), r4], ?_⟩
      intro j hj hb
      obtain ⟨c', hc', e⟩ := r5 j hj hb
      exact ⟨c', hc', by rw [old j (a3 j (by omega) hb), e]⟩
    · have : c = g := by omega
      subst this
      refine ⟨k, by omega, hk, hkb, hlk, ?_⟩
      intro j hj hb
      have h1 := a3 j hj hb
      obtain ⟨c', hc', e⟩ := (a2 j (by omega)).resolve_left h1
      exact ⟨c', hc', by rw [old j h1, e]⟩
theorem va2_sy (a b : V3) : va2 a b = va2 b a := by
  unfold va2 vd
  rw [Int64.mul_comm (vq a), Int64.mul_comm a.1, Int64.mul_comm a.2.1, Int64.mul_comm a.2.2]
theorem nb_sy {D : Nat → Nat → Int32} {i j : Nat} : nb D i j = nb D j i := va2_sy _ _
