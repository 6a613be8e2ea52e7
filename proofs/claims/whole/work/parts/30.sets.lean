/-! what was TOLD, as it may be; SETS -/
def nc (D : Nat → Nat → Int32) : Nat := (D 46 2).toNatClampNeg
def nl (D : Nat → Nat → Int32) : Nat := (D 46 1).toNatClampNeg
def lk (D : Nat → Nat → Int32) : Nat := (D 46 3).toNatClampNeg
def lst (D : Nat → Nat → Int32) : Nat := (D 46 4).toNatClampNeg
def cp (D : Nat → Nat → Int32) : Nat := (D 46 5).toNatClampNeg
def GD (D : Nat → Nat → Int32) : Prop := (nc D ≤ 60) ∧ (D 46 2 = nI (nc D)) ∧ (nl D ≤ 6) ∧ (D 46 1 = nI (nl D)) ∧ (1 ≤ lk D) ∧ (lk D ≤ 45) ∧ (D 46 3 = nI (lk D)) ∧ (2 ≤ lst D) ∧ (lst D ≤ 20) ∧ (D 46 4 = nI (lst D)) ∧ (1 ≤ cp D) ∧ (cp D ≤ 20) ∧ (D 46 5 = nI (cp D)) ∧ (∃ x, x < 360 ∧ D 46 6 = nI x) ∧ (∃ x, 1 ≤ x ∧ x ≤ 90 ∧ D 46 7 = nI x) ∧ (∃ x, x ≤ 89 ∧ D 46 8 = nI x) ∧ (∃ x, x ≤ 45 ∧ D 46 9 = nI x) ∧ (∀ l, l < nl D → ∃ t q h, t < 360 ∧ q ≤ 90 ∧ 1 ≤ h ∧ h ≤ 100000 ∧ D 47 l = nI t ∧ D 48 l = nI q ∧ D 49 l = nI h ∧ av D l = arV (nI t) (nI q)) ∧ (∀ i, i < nc D → ∃ l t q h, l < nl D ∧ t < 360 ∧ q ≤ 90 ∧ h ≤ 100000 ∧ D 50 i = nI l ∧ D 51 i = nI t ∧ D 52 i = nI q ∧ D 53 i = nI h ∧ pv D i = poV (nI t) (nI q))
theorem GD.n60 {D : Nat → Nat → Int32} (h : GD D) : nc D ≤ 60 := h.1
theorem GD.en {D : Nat → Nat → Int32} (h : GD D) : D 46 2 = nI (nc D) := h.2.1
theorem GD.m6 {D : Nat → Nat → Int32} (h : GD D) : nl D ≤ 6 := h.2.2.1
theorem GD.em {D : Nat → Nat → Int32} (h : GD D) : D 46 1 = nI (nl D) := h.2.2.2.1
theorem GD.k1 {D : Nat → Nat → Int32} (h : GD D) : 1 ≤ lk D := h.2.2.2.2.1
theorem GD.k45 {D : Nat → Nat → Int32} (h : GD D) : lk D ≤ 45 := h.2.2.2.2.2.1
theorem GD.ek {D : Nat → Nat → Int32} (h : GD D) : D 46 3 = nI (lk D) := h.2.2.2.2.2.2.1
theorem GD.s2 {D : Nat → Nat → Int32} (h : GD D) : 2 ≤ lst D := h.2.2.2.2.2.2.2.1
theorem GD.s20 {D : Nat → Nat → Int32} (h : GD D) : lst D ≤ 20 := h.2.2.2.2.2.2.2.2.1
theorem GD.es {D : Nat → Nat → Int32} (h : GD D) : D 46 4 = nI (lst D) := h.2.2.2.2.2.2.2.2.2.1
theorem GD.c1 {D : Nat → Nat → Int32} (h : GD D) : 1 ≤ cp D := h.2.2.2.2.2.2.2.2.2.2.1
theorem GD.c20 {D : Nat → Nat → Int32} (h : GD D) : cp D ≤ 20 := h.2.2.2.2.2.2.2.2.2.2.2.1
theorem GD.ec {D : Nat → Nat → Int32} (h : GD D) : D 46 5 = nI (cp D) := h.2.2.2.2.2.2.2.2.2.2.2.2.1
theorem GD.sd {D : Nat → Nat → Int32} (h : GD D) : ∃ x, x < 360 ∧ D 46 6 = nI x := h.2.2.2.2.2.2.2.2.2.2.2.2.2.1
theorem GD.sp {D : Nat → Nat → Int32} (h : GD D) : ∃ x, 1 ≤ x ∧ x ≤ 90 ∧ D 46 7 = nI x := h.2.2.2.2.2.2.2.2.2.2.2.2.2.2.1
theorem GD.sf {D : Nat → Nat → Int32} (h : GD D) : ∃ x, x ≤ 89 ∧ D 46 8 = nI x := h.2.2.2.2.2.2.2.2.2.2.2.2.2.2.2.1
theorem GD.ss {D : Nat → Nat → Int32} (h : GD D) : ∃ x, x ≤ 45 ∧ D 46 9 = nI x := h.2.2.2.2.2.2.2.2.2.2.2.2.2.2.2.2.1
theorem GD.li {D : Nat → Nat → Int32} (h : GD D) : ∀ l, l < nl D → ∃ t q h, t < 360 ∧ q ≤ 90 ∧ 1 ≤ h ∧ h ≤ 100000 ∧ D 47 l = nI t ∧ D 48 l = nI q ∧ D 49 l = nI h ∧ av D l = arV (nI t) (nI q) := h.2.2.2.2.2.2.2.2.2.2.2.2.2.2.2.2.2.1
theorem GD.cr {D : Nat → Nat → Int32} (h : GD D) : ∀ i, i < nc D → ∃ l t q h, l < nl D ∧ t < 360 ∧ q ≤ 90 ∧ h ≤ 100000 ∧ D 50 i = nI l ∧ D 51 i = nI t ∧ D 52 i = nI q ∧ D 53 i = nI h ∧ pv D i = poV (nI t) (nI q) := h.2.2.2.2.2.2.2.2.2.2.2.2.2.2.2.2.2.2
theorem GD.bp {D : Nat → Nat → Int32} (h : GD D) {i : Nat} (hi : i < nc D) : bv (pv D i) := by
  obtain ⟨l, t, q, a, -, -, -, -, -, -, -, -, e⟩ := h.cr i hi
  rw [e]
  exact poV_b _ _
theorem GD.ba {D : Nat → Nat → Int32} (h : GD D) {l : Nat} (hl : l < nl D) : bv (av D l) := by
  obtain ⟨t, q, a, -, -, -, -, -, -, -, e⟩ := h.li l hl
  rw [e]
  exact arV_b _ _
theorem GD.on {D : Nat → Nat → Int32} (h : GD D) {i : Nat} (hi : i < nc D) : ∃ l, l < nl D ∧ D 50 i = nI l := by
  obtain ⟨l, t, q, a, h1, -, -, -, e, -⟩ := h.cr i hi
  exact ⟨l, h1, e⟩
/-- the labelling -/
noncomputable def GL (n : Nat) (A : Nat → Nat → Prop) (bt : Int32) : (Nat → Int32) × Nat := Classical.epsilon fun x => Lab n A bt x.1 x.2
theorem GL_lab {n : Nat} {A : Nat → Nat → Prop} {bt : Int32} {l : Nat → Int32} {g : Nat} (h : Lab n A bt l g) : Lab n A bt (GL n A bt).1 (GL n A bt).2 := Classical.epsilon_spec (p := fun x : (Nat → Int32) × Nat => Lab n A bt x.1 x.2) ⟨(l, g), h⟩
def nearA (D : Nat → Nat → Int32) (an : Nat) : Nat → Nat → Prop := fun i j => nb D i j ≤ an
noncomputable def lb (D : Nat → Nat → Int32) (an : Nat) (bt : Int32) : Nat → Int32 := (GL (nc D) (nearA D an) bt).1
noncomputable def gr (D : Nat → Nat → Int32) (an : Nat) (bt : Int32) : Nat := (GL (nc D) (nearA D an) bt).2
theorem lb_of {D : Nat → Nat → Int32} {an : Nat} {bt : Int32} {l : Nat → Int32} {g : Nat} (hn : nc D ≤ 60) (h : Lab (nc D) (nearA D an) bt l g) : g = gr D an bt ∧ ∀ j, j < nc D → l j = lb D an bt j := ⟨Lab_gs (by omega) h (GL_lab h), Lab_one (by omega) h (GL_lab h)⟩
theorem cnt_c {P Q : Nat → Bool} : ∀ n, (∀ j, j < n → P j = Q j) → cnt P n = cnt Q n
  | 0, _ => rfl
  | n + 1, h => by
    show cnt P n + _ = cnt Q n + _
    rw [cnt_c n (fun j hj => h j (by omega)), h n (by omega)]
theorem mnL_c {P Q : Nat → Bool} {f : Nat → Int32} : ∀ n, (∀ j, j < n → P j = Q j) → mnL P f n = mnL Q f n
  | 0, _ => rfl
  | n + 1, h => by
    show (if P n then (if f n < mnL P f n then f n else mnL P f n) else mnL P f n) = _
    rw [mnL_c n (fun j hj => h j (by omega)), h n (by omega)]
    rfl
/-- size and least lie of a group -/
noncomputable def gz (D : Nat → Nat → Int32) (an : Nat) (bt : Int32) (c : Nat) : Nat := cnt (fun j => decide (lb D an bt j = nI c)) (nc D)
noncomputable def gll (D : Nat → Nat → Int32) (an : Nat) (bt : Int32) (c : Nat) : Int32 := mnL (fun j => decide (lb D an bt j = nI c)) (lv D) (nc D)
/-- how many groups are sets -/
noncomputable def nbig (D : Nat → Nat → Int32) (an : Nat) (bt : Int32) : Nat := cnt (fun c => decide (lst D ≤ gz D an bt c)) (gr D an bt)
noncomputable def bef (D : Nat → Nat → Int32) (c h : Nat) : Bool := decide (lst D ≤ gz D (lk D) (-1) h) && (decide (gz D (lk D) (-1) c < gz D (lk D) (-1) h) || (decide (gz D (lk D) (-1) h = gz D (lk D) (-1) c) && decide (gll D (lk D) (-1) h < gll D (lk D) (-1) c)))
/-- the number of a group among the sets -/
noncomputable def sno (D : Nat → Nat → Int32) (c : Nat) : Int32 := if gz D (lk D) (-1) c < lst D then -1 else nI (cnt (bef D c) (gr D (lk D) (-1)))
/-- the set of a crack -/
noncomputable def stn (D : Nat → Nat → Int32) (k : Nat) : Int32 := sno D (lb D (lk D) (-1) k).toNatClampNeg
noncomputable def nst (D : Nat → Nat → Int32) : Nat := nbig D (lk D) (-1)
/-- groups lie in the model -/
def GrpAt (I : Nat → Nat → Int32) (D : Nat → Nat → Int32) (an : Nat) (bt : Int32) : Prop := (Lab (nc D) (nearA D an) bt (lb D an bt) (gr D an bt)) ∧ (I 46 30 = nI (gr D an bt)) ∧ (∀ j, j < nc D → I 60 j = lb D an bt j) ∧ (∀ c, c < gr D an bt → I 62 c = nI (gz D an bt c)) ∧ (∀ c, c < gr D an bt → I 63 c = gll D an bt c)
theorem GrpAt.lab {I : Nat → Nat → Int32} {D : Nat → Nat → Int32} {an : Nat} {bt : Int32} (h : GrpAt I D an bt) : Lab (nc D) (nearA D an) bt (lb D an bt) (gr D an bt) := h.1
theorem GrpAt.e30 {I : Nat → Nat → Int32} {D : Nat → Nat → Int32} {an : Nat} {bt : Int32} (h : GrpAt I D an bt) : I 46 30 = nI (gr D an bt) := h.2.1
theorem GrpAt.e60 {I : Nat → Nat → Int32} {D : Nat → Nat → Int32} {an : Nat} {bt : Int32} (h : GrpAt I D an bt) : ∀ j, j < nc D → I 60 j = lb D an bt j := h.2.2.1
theorem GrpAt.e62 {I : Nat → Nat → Int32} {D : Nat → Nat → Int32} {an : Nat} {bt : Int32} (h : GrpAt I D an bt) : ∀ c, c < gr D an bt → I 62 c = nI (gz D an bt c) := h.2.2.2.1
theorem GrpAt.e63 {I : Nat → Nat → Int32} {D : Nat → Nat → Int32} {an : Nat} {bt : Int32} (h : GrpAt I D an bt) : ∀ c, c < gr D an bt → I 63 c = gll D an bt c := h.2.2.2.2
theorem for_cnt {β : Type} (F : Int32 → Int32 → Option β) (P : Nat → Bool) (n : Nat) (hs : ∀ i c, i < n → F (nI i) c = F (nI (i + 1)) (if P i = true then c + 1 else c)) : F 0 0 = F (nI n) (nI (cnt P n)) := by
  obtain ⟨x, e, h⟩ := for_ex F n (fun i c => c = nI (cnt P i)) (by
    rintro i c hi rfl
    refine ⟨_, hs i _ hi, ?_⟩
    show _ = nI (cnt P i + if P i = true then 1 else 0)
    by_cases q : P i = true
    · rw [if_pos q, if_pos q, nI_1]
    · rw [if_neg q, if_neg q, Nat.add_zero]) 0 rfl
  rw [e, h]
section SETS
variable {d sl : Nat} {p : Nat → Nat} {I : Nat → Nat → Int32} {J : Nat → Nat → Int64}
theorem sp_groups (hD : GD (dat I)) {an : Nat} {bt : Int32} (han : an ≤ 90) : ∃ I', den (d + 6) 208 [.ref 46, .int (nI an), .int bt] (S sl p I J) = some (none, S sl p I' J) ∧ GrpAt I' (dat I) an bt ∧ ∀ a k, ¬ (a = 46 ∧ k = 30) → a ≠ 60 → a ≠ 62 → a ≠ 63 → I' a k = I a k := by
  have en : I 46 2 = nI (nc (dat I)) := by rw [← hD.en, dat_6 (by omega)]
  obtain ⟨g, l, e, h⟩ := sp_laysGroups (d := d) (sl := sl) (p := p) (I := I) (J := J) (bt := bt) hD.n60 en han (fun i hi => hD.bp hi)
  obtain ⟨h1, h2⟩ := lb_of hD.n60 h
  refine ⟨_, e, ⟨GL_lab h, ?_, ?_, ?_, ?_⟩, ?_⟩
  · unfold layG
    rw [row_n (by omega), row_n (by omega), row_n (by omega), up_s, h1]
  · intro j hj
    unfold layG
    rw [row_n (by omega), row_n (by omega), row_s, h2 j hj]
  · intro c hc
    unfold layG
    rw [row_n (by omega), row_s, rto_t (by omega)]
    unfold szf gz
    rw [cnt_c _ (fun j hj => by rw [h2 j hj])]
  · intro c hc
    unfold layG
    rw [row_s, rto_t (by omega)]
    unfold llf gll
    rw [mnL_c _ (fun j hj => by rw [h2 j hj])]
  · intro a k h0 h1 h2 h3
    unfold layG
    rw [row_n h3, row_n h2, row_n h1, up_n h0]
theorem nI_le_iff {a b : Nat} (ha : a < 2 ^ 31) (hb : b < 2 ^ 31) : nI a ≤ nI b ↔ a ≤ b := nI_leI ha hb
theorem nI_lt_iff {a b : Nat} (ha : a < 2 ^ 31) (hb : b < 2 ^ 31) : nI a < nI b ↔ a < b := nI_ltI ha hb
theorem gz_le (D : Nat → Nat → Int32) (an : Nat) (bt : Int32) (c : Nat) : gz D an bt c ≤ nc D := cnt_le _
theorem sp_bigGroups (hD : GD (dat I)) {an : Nat} {bt : Int32} (hg : GrpAt I (dat I) an bt) : den d 209 [.ref 46] (S sl p I J) = some (some (.int (nI (nbig (dat I) an bt))), S sl p I J) := by
  have es : I 46 4 = nI (lst (dat I)) := by rw [← hD.es, dat_6 (by omega)]
  have hgn : gr (dat I) an bt ≤ nc (dat I) := hg.lab.1
  have n60 := hD.n60
  have s20 := hD.s20
  rw [E209_0, for_cnt (fun c x => ev d 209 4 [.ref 46, .int x, .int c] [] (S sl p I J)) (fun c => decide (lst (dat I) ≤ gz (dat I) an bt c)) (gr (dat I) an bt)
    (by
      intro c x hc
      have hz := gz_le (dat I) an bt c
      rw [E209_4, hg.e30, if_pos (lt_n hc (by omega)), ck_if (ixb_n (by omega) (by decide)), cl_n (by omega), hg.e62 c hc, es, nI_1]
      by_cases q : gz (dat I) an bt c < lst (dat I)
      · rw [if_pos ((nI_lt_iff (by omega) (by omega)).mpr q), Int32.add_zero, if_neg (by simp; omega)]
      · rw [if_neg (fun w => q ((nI_lt_iff (by omega) (by omega)).mp w)), if_pos (by simp; omega)]), E209_4, hg.e30, if_neg (nlt_n (by omega))]
  rfl
end SETS
