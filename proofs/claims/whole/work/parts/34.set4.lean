/-! sets, their members -/
def LabD (D : Nat → Nat → Int32) : Prop := Lab (nc D) (nearA D (lk D)) (-1) (lb D (lk D) (-1)) (gr D (lk D) (-1))
noncomputable def bigB (D : Nat → Nat → Int32) (c : Nat) : Bool := decide (lst D ≤ gz D (lk D) (-1) c)
noncomputable def befR (D : Nat → Nat → Int32) (h c : Nat) : Bool := decide (gz D (lk D) (-1) c < gz D (lk D) (-1) h) || (decide (gz D (lk D) (-1) h = gz D (lk D) (-1) c) && decide (gll D (lk D) (-1) h < gll D (lk D) (-1) c))
theorem befR_t {D : Nat → Nat → Int32} {h c : Nat} : befR D h c = true ↔ gz D (lk D) (-1) c < gz D (lk D) (-1) h ∨ (gz D (lk D) (-1) h = gz D (lk D) (-1) c ∧ gll D (lk D) (-1) h < gll D (lk D) (-1) c) := by
  unfold befR
  simp
theorem bef_eq (D : Nat → Nat → Int32) (c : Nat) : bef D c = fun h => bigB D h && befR D h c := rfl
theorem set_rank {D : Nat → Nat → Int32} (hD : GD D) (hl : LabD D) : (∀ c, c < gr D (lk D) (-1) → bigB D c = true → cnt (bef D c) (gr D (lk D) (-1)) < nst D) ∧ (∀ a b, a < gr D (lk D) (-1) → b < gr D (lk D) (-1) → bigB D a = true → bigB D b = true → cnt (bef D a) (gr D (lk D) (-1)) = cnt (bef D b) (gr D (lk D) (-1)) → a = b) ∧ ∀ s, s < nst D → ∃ c, c < gr D (lk D) (-1) ∧ bigB D c = true ∧ cnt (bef D c) (gr D (lk D) (-1)) = s := by
  simp only [bef_eq]
  refine rank_all (B := bigB D) (R := befR D) ?_ ?_ ?_
  · intro c h
    rcases befR_t.mp h with h | ⟨-, h⟩
    · omega
    · exact Int32.lt_irrefl h
  · intro a b c h w
    refine befR_t.mpr ?_
    rcases befR_t.mp h with h | ⟨h, h'⟩
    · rcases befR_t.mp w with w | ⟨w, w'⟩
      · exact Or.inl (by omega)
      · exact Or.inl (by omega)
    · rcases befR_t.mp w with w | ⟨w, w'⟩
      · exact Or.inl (by omega)
      · exact Or.inr ⟨by omega, Int32.lt_trans h' w'⟩
  · intro a b ha hb _ _ hab
    rcases Nat.lt_trichotomy (gz D (lk D) (-1) a) (gz D (lk D) (-1) b) with h | h | h
    · exact Or.inr (befR_t.mpr (Or.inl h))
    · by_cases w : gll D (lk D) (-1) a < gll D (lk D) (-1) b
      · exact Or.inl (befR_t.mpr (Or.inr ⟨h, w⟩))
      · refine Or.inr (befR_t.mpr (Or.inr ⟨h.symm, ?_⟩))
        have h1 : ¬ gll D (lk D) (-1) a = gll D (lk D) (-1) b := fun q => hab (gll_ne hD hl ha hb q)
        have h2 : ¬ (gll D (lk D) (-1) a).toInt = (gll D (lk D) (-1) b).toInt := fun q => h1 (Int32.toInt_inj.mp q)
        have h3 : ¬ (gll D (lk D) (-1) a).toInt < (gll D (lk D) (-1) b).toInt := fun q => w (Int32.lt_iff_toInt_lt.mpr q)
        exact Int32.lt_iff_toInt_lt.mpr (by omega)
    · exact Or.inl (befR_t.mpr (Or.inl h))
theorem nst_30 {D : Nat → Nat → Int32} (hD : GD D) (hl : LabD D) : 2 * nst D ≤ nc D := by
  have hg := hl.1
  have n60 := hD.n60
  have s2 := hD.s2
  have h1 := smN_cnt (l := lb D (lk D) (-1)) (g := gr D (lk D) (-1)) (by omega) (nc D)
  have h2 : ∀ g, 2 * cnt (bigB D) g ≤ smN (gz D (lk D) (-1)) g := by
    intro g
    induction g with
    | zero => exact Nat.le_refl 0
    | succ g ih =>
      show 2 * (cnt (bigB D) g + if bigB D g then 1 else 0) ≤ smN (gz D (lk D) (-1)) g + gz D (lk D) (-1) g
      by_cases q : bigB D g = true
      · have : lst D ≤ gz D (lk D) (-1) g := of_decide_eq_true q
        rw [if_pos q]; omega
      · rw [if_neg q]; omega
  exact Nat.le_trans (h2 _) h1
theorem set_c {D : Nat → Nat → Int32} (hD : GD D) (hl : LabD D) {k : Nat} (hk : k < nc D) : stn D k = -1 ∨ ∃ s, s < nst D ∧ stn D k = nI s := by
  obtain ⟨c, hc, -, e2⟩ := lb_c hl hD.n60 hk
  rw [e2]
  unfold sno
  by_cases q : gz D (lk D) (-1) c < lst D
  · exact Or.inl (if_pos q)
  · exact Or.inr ⟨_, (set_rank hD hl).1 c hc (decide_eq_true (by omega)), if_neg q⟩
/-- a set is one group -/
theorem set_of {D : Nat → Nat → Int32} (hD : GD D) (hl : LabD D) {s : Nat} (hs : s < nst D) : ∃ c, c < gr D (lk D) (-1) ∧ lst D ≤ gz D (lk D) (-1) c ∧ sno D c = nI s ∧ ∀ k, k < nc D → (stn D k = nI s ↔ lb D (lk D) (-1) k = nI c) := by
  obtain ⟨r1, r2, r3⟩ := set_rank hD hl
  obtain ⟨c, hc, hb, e⟩ := r3 s hs
  have h30 := nst_30 hD hl
  have n60 := hD.n60
  have hg := hl.1
  have hb' : lst D ≤ gz D (lk D) (-1) c := of_decide_eq_true hb
  have es : sno D c = nI s := by
    unfold sno
    rw [if_neg (by omega), e]
  refine ⟨c, hc, hb', es, fun k hk => ?_⟩
  obtain ⟨c', hc', e1, e2⟩ := lb_c hl hD.n60 hk
  rw [e2, e1]
  constructor
  · intro w
    unfold sno at w
    by_cases q : gz D (lk D) (-1) c' < lst D
    · rw [if_pos q] at w
      exact absurd w.symm (nI_m1 (by omega))
    · rw [if_neg q] at w
      have hb2 : bigB D c' = true := decide_eq_true (by omega)
      have := r1 c' hc' hb2
      have := nI_ij (by omega) (by omega) w
      rw [r2 c' c hc' hc hb2 hb (by omega)]
  · intro w
    rw [nI_ij (by omega) (by omega) w]
    exact es
/-- how many a set has -/
noncomputable def mem (D : Nat → Nat → Int32) (s : Int32) : Nat := cnt (fun k => decide (stn D k = s)) (nc D)
theorem mem_gz {D : Nat → Nat → Int32} {s c : Nat} (h : ∀ k, k < nc D → (stn D k = nI s ↔ lb D (lk D) (-1) k = nI c)) : mem D (nI s) = gz D (lk D) (-1) c ∧ mnL (fun k => decide (stn D k = nI s)) (lv D) (nc D) = gll D (lk D) (-1) c := by
  have : ∀ k, k < nc D → decide (stn D k = nI s) = decide (lb D (lk D) (-1) k = nI c) := fun k hk => by
    by_cases q : stn D k = nI s
    · rw [decide_eq_true q, decide_eq_true ((h k hk).mp q)]
    · rw [decide_eq_false q, decide_eq_false (fun w => q ((h k hk).mpr w))]
  exact ⟨cnt_c _ this, mnL_c _ this⟩
theorem mem_2 {D : Nat → Nat → Int32} (hD : GD D) (hl : LabD D) {s : Nat} (hs : s < nst D) : 2 ≤ mem D (nI s) := by
  obtain ⟨c, -, h2, -, h3⟩ := set_of hD hl hs
  rw [(mem_gz h3).1]
  have := hD.s2
  omega
theorem mem_le (D : Nat → Nat → Int32) (s : Int32) : mem D s ≤ nc D := cnt_le _
/-- how many of a set are near a crack -/
noncomputable def nin (D : Nat → Nat → Int32) (s : Int32) (k : Nat) : Nat := cnt (fun j => decide (stn D j = s) && decide (nb D k j ≤ lk D)) (nc D)
theorem nin_le (D : Nat → Nat → Int32) (s : Int32) (k : Nat) : nin D s k ≤ nc D := cnt_le _
/-- the seed of a set among the first n -/
noncomputable def sdN (D : Nat → Nat → Int32) (s : Int32) : Nat → Option Nat
  | 0 => none
  | n + 1 => if stn D n = s then (match sdN D s n with
    | none => some n
    | some b => if nin D s b < nin D s n ∨ (nin D s n = nin D s b ∧ lv D n < lv D b) then some n else some b) else sdN D s n
def oI (o : Option Nat) : Int32 := match o with
  | none => -1
  | some b => nI b
theorem sdN_lt {D : Nat → Nat → Int32} {s : Int32} : ∀ n b, sdN D s n = some b → b < n ∧ stn D b = s
  | 0, _, h => by simp [sdN] at h
  | n + 1, b, h => by
    unfold sdN at h
    by_cases q : stn D n = s
    · rw [if_pos q] at h
      cases e : sdN D s n with
      | none =>
        rw [e] at h
        simp only [Option.some.injEq] at h
        subst h
        exact ⟨by omega, q⟩
      | some b' =>
        rw [e] at h
        simp only at h
        have ih := sdN_lt n b' e
        split at h
        · simp only [Option.some.injEq] at h
          subst h
          exact ⟨by omega, q⟩
        · simp only [Option.some.injEq] at h
          subst h
          exact ⟨by omega, ih.2⟩
    · rw [if_neg q] at h
      have ih := sdN_lt n b h
      exact ⟨by omega, ih.2⟩
theorem sdN_ex {D : Nat → Nat → Int32} {s : Int32} : ∀ n, (∃ k, k < n ∧ stn D k = s) → ∃ b, sdN D s n = some b
  | 0, ⟨_, h, _⟩ => absurd h (Nat.not_lt_zero _)
  | n + 1, ⟨k, hk, e⟩ => by
    unfold sdN
    by_cases q : stn D n = s
    · rw [if_pos q]
      cases h : sdN D s n with
      | none => exact ⟨n, rfl⟩
      | some b =>
        simp only
        split
        · exact ⟨n, rfl⟩
        · exact ⟨b, rfl⟩
    · rw [if_neg q]
      exact sdN_ex n ⟨k, by
        rcases Nat.lt_or_ge k n with w | w
        · exact w
        · exact absurd ((show k = n by omega) ▸ e) q, e⟩
/-- the seed -/
noncomputable def sd (D : Nat → Nat → Int32) (s : Int32) : Nat := (sdN D s (nc D)).getD 0
theorem sd_of {D : Nat → Nat → Int32} (hD : GD D) (hl : LabD D) {s : Nat} (hs : s < nst D) : sdN D (nI s) (nc D) = some (sd D (nI s)) ∧ sd D (nI s) < nc D ∧ stn D (sd D (nI s)) = nI s := by
  have h2 := mem_2 hD hl hs
  obtain ⟨k, hk, e⟩ := cnt_ex (show 0 < cnt (fun k => decide (stn D k = nI s)) (nc D) by unfold mem at h2; omega)
  obtain ⟨b, hb⟩ := sdN_ex (nc D) ⟨k, hk, of_decide_eq_true e⟩
  have e2 : sd D (nI s) = b := by unfold sd; rw [hb]; rfl
  rw [e2]
  exact ⟨hb, sdN_lt _ _ hb⟩
