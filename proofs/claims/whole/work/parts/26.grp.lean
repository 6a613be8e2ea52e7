/-! GROUPS: what hangs together, as labels in the order of the first ones -/
theorem for_ex {M β : Type} (F : Int32 → M → Option β) (n : Nat) (P : Nat → M → Prop) (hs : ∀ i x, i < n → P i x → ∃ x', F (nI i) x = F (nI (i + 1)) x' ∧ P (i + 1) x') (x : M) (h0 : P 0 x) : ∃ x', F 0 x = F (nI n) x' ∧ P n x' := by
  have key : ∀ i, i ≤ n → ∃ x', F 0 x = F (nI i) x' ∧ P i x' := by
    intro i
    induction i with
    | zero => intro _; exact ⟨x, by rw [nI_0], h0⟩
    | succ i ih =>
      intro hi
      obtain ⟨x', e, h⟩ := ih (by omega)
      obtain ⟨x'', e2, h2⟩ := hs i x' (by omega) h
      exact ⟨x'', e.trans e2, h2⟩
  exact key n (Nat.le_refl n)
/-- i and j hang together among the n but the one left out: nothing that near ones share tells them apart -/
def Con (n : Nat) (A : Nat → Nat → Prop) (bt : Int32) (i j : Nat) : Prop := ∀ f : Nat → Int32, (∀ x y, x < n → y < n → ¬ nI x = bt → ¬ nI y = bt → A x y → f x = f y) → f i = f j
theorem Con.rf {n : Nat} {A : Nat → Nat → Prop} {bt : Int32} (i : Nat) : Con n A bt i i := fun _ _ => rfl
theorem Con.tr {n : Nat} {A : Nat → Nat → Prop} {bt : Int32} {i j k : Nat} (h : Con n A bt i j) (h' : Con n A bt j k) : Con n A bt i k := fun f hf => (h f hf).trans (h' f hf)
theorem Con.sy {n : Nat} {A : Nat → Nat → Prop} {bt : Int32} {i j : Nat} (h : Con n A bt i j) : Con n A bt j i := fun f hf => (h f hf).symm
theorem Con.one {n : Nat} {A : Nat → Nat → Prop} {bt : Int32} {i j : Nat} (hi : i < n) (hj : j < n) (bi : ¬ nI i = bt) (bj : ¬ nI j = bt) (h : A i j) : Con n A bt i j := fun f hf => hf i j hi hj bi bj h
/-- labels of the first k turns: g are given -/
def LabK (n : Nat) (A : Nat → Nat → Prop) (bt : Int32) (lab : Nat → Int32) (g k : Nat) : Prop :=
  g ≤ k ∧ (∀ j, j < n → nI j = bt → lab j = -1) ∧ (∀ j, j < n → lab j = -1 ∨ ∃ c, c < g ∧ lab j = nI c) ∧ (∀ j, j < k → ¬ nI j = bt → ¬ lab j = -1) ∧
  (∀ i j, i < n → j < n → ¬ nI i = bt → ¬ nI j = bt → A i j → ¬ lab i = -1 → lab i = lab j) ∧ (∀ i j, i < n → j < n → ¬ lab i = -1 → lab i = lab j → Con n A bt i j) ∧
  ∀ c, c < g → ∃ r, r < k ∧ r < n ∧ ¬ nI r = bt ∧ lab r = nI c ∧ ∀ j, j < r → ¬ nI j = bt → ∃ c', c' < c ∧ lab j = nI c'
def Lab (n : Nat) (A : Nat → Nat → Prop) (bt : Int32) (lab : Nat → Int32) (g : Nat) : Prop := LabK n A bt lab g n
theorem nI_m1 {c : Nat} (h : c < 2 ^ 31) : ¬ nI c = -1 := by
  intro q
  have := congrArg Int32.toInt q
  rw [tI h] at this
  have h2 : (-1 : Int32).toInt = -1 := by decide
  omega
theorem nI_ij {a b : Nat} (ha : a < 2 ^ 31) (hb : b < 2 ^ 31) (h : nI a = nI b) : a = b := (nI_eq ha hb).mp h
theorem Lab_one {n : Nat} {A : Nat → Nat → Prop} {bt : Int32} {lab lab' : Nat → Int32} {g g' : Nat} (hn : n < 2 ^ 30) (h : Lab n A bt lab g) (h' : Lab n A bt lab' g') : ∀ j, j < n → lab j = lab' j := by
  obtain ⟨a0, a1, a2, a3, a4, a5, a6⟩ := id h
  obtain ⟨b0, b1, b2, b3, b4, b5, b6⟩ := id h'
  intro j
  induction j using Nat.strongRecOn with
  | ind j ih =>
    intro hj
    by_cases hb : nI j = bt
    · rw [a1 j hj hb, b1 j hj hb]
    · obtain ⟨c, hc, ec⟩ := (a2 j hj).resolve_left (a3 j hj hb)
      obtain ⟨c', hc', ec'⟩ := (b2 j hj).resolve_left (b3 j hj hb)
      obtain ⟨r, r1, r2, r3, r4, r5⟩ := a6 c hc
      obtain ⟨s, s1, s2, s3, s4, s5⟩ := b6 c' hc'
      have step : ∀ {f' : Nat → Int32} {r : Nat}, (∀ i j, i < n → j < n → ¬ nI i = bt → ¬ nI j = bt → A i j → ¬ f' i = -1 → f' i = f' j) → (∀ j, j < n → ¬ nI j = bt → ¬ f' j = -1) → Con n A bt r j → f' r = f' j := by
        intro f' r hcl hno hcon
        exact hcon f' (fun x y hx hy bx by' hA => hcl x y hx hy bx by' hA (hno x hx bx))
      rcases Nat.lt_or_ge r j with q | q
      · have hcon : Con n A bt r j := a5 r j r2 hj (a3 r r2 r3) (by rw [r4, ec])
        have e2 := step b4 b3 hcon
        rw [ec, ← r4, ih r q r2, e2]
      · rcases Nat.lt_or_ge s j with q2 | q2
        · have hcon : Con n A bt s j := b5 s j s2 hj (b3 s s2 s3) (by rw [s4, ec'])
          have e2 := step a4 a3 hcon
          rw [ec', ← s4, ← ih s q2 s2, e2]
        · -- j is the first of its label in both: as many labels stand before it
          have key : ∀ {f f' : Nat → Int32} {c c' g g' : Nat}, g ≤ n → g' ≤ n → c < g → c' < g' → (∀ i, i < j → f i = f' i) → f j = nI c → (∀ i, i < j → ¬ nI i = bt → ∃ x, x < c ∧ f i = nI x) → (∀ c, c < g' → ∃ r, r < n ∧ r < n ∧ ¬ nI r = bt ∧ f' r = nI c ∧ ∀ j, j < r → ¬ nI j = bt → ∃ c', c' < c ∧ f' j = nI c') → f' j = nI c' → ¬ c < c' := by
            intro f f' c c' g g' hg hg' hc hc' heq ej hl h6 ej' hlt
            -- label c of f' stands before j
            obtain ⟨t, -, t2, t3, t4, t5⟩ := h6 c (by omega)
            rcases Nat.lt_or_ge t j with w | w
            · obtain ⟨x, hx, ex⟩ := hl t w t3
              rw [heq t w, t4] at ex
              have := nI_ij (by omega) (by omega) ex
              omega
            · rcases Nat.lt_or_ge j t with w2 | w2
              · obtain ⟨x, hx, ex⟩ := t5 j w2 hb
                rw [ej'] at ex
                have := nI_ij (by omega) (by omega) ex
                omega
              · have : t = j := by omega
                subst this
                rw [ej'] at t4
                have := nI_ij (by omega) (by omega) t4
                omega
          have k1 := key a0 b0 hc hc' (fun i hi => ih i hi (by omega)) ec (fun i hi hbi => r5 i (by omega) hbi) b6 ec'
          have k2 := key b0 a0 hc' hc (fun i hi => (ih i hi (by omega)).symm) ec' (fun i hi hbi => s5 i (by omega) hbi) a6 ec
          rw [ec, ec', show c = c' by omega]
theorem Lab_gs {n : Nat} {A : Nat → Nat → Prop} {bt : Int32} {lab lab' : Nat → Int32} {g g' : Nat} (hn : n < 2 ^ 30) (h : Lab n A bt lab g) (h' : Lab n A bt lab' g') : g = g' := by
  have key : ∀ {lab lab' : Nat → Int32} {g g' : Nat}, Lab n A bt lab g → Lab n A bt lab' g' → g ≤ g' := by
    intro lab lab' g g' h h'
    have he := Lab_one hn h h'
    rcases Nat.lt_or_ge g' g with q | q
    · obtain ⟨r, r1, r2, r3, r4, -⟩ := h.2.2.2.2.2.2 g' q
      obtain ⟨c, hc, ec⟩ := (h'.2.2.1 r r2).resolve_left (h'.2.2.2.1 r r2 r3)
      rw [← he r r2, r4] at ec
      have b1 := h.1
      have b2 := h'.1
      have := nI_ij (by omega) (by omega) ec
      omega
    · exact q
  exact Nat.le_antisymm (key h h') (key h' h)
