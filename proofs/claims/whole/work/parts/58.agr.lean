/-! class and model agree: the form of what is shown of each call -/
def Fc (I : Nat → Nat → Int32) (J : Nat → Nat → Int64) (I' : Nat → Nat → Int32) (J' : Nat → Nat → Int64) : Prop := (∀ a k, 46 ≤ a → a < 100 → I' a k = I a k) ∧ ∀ a k, 46 ≤ a → a < 100 → J' a k = J a k
def Fm (I : Nat → Nat → Int32) (J : Nat → Nat → Int64) (I' : Nat → Nat → Int32) (J' : Nat → Nat → Int64) : Prop := (∀ a k, a < 46 ∨ 100 ≤ a → I' a k = I a k) ∧ ∀ a k, a < 46 ∨ 100 ≤ a → J' a k = J a k
section AGR
variable {d sl : Nat} {p : Nat → Nat} {I I' I'' : Nat → Nat → Int32} {J J' J'' : Nat → Nat → Int64} {D : Nat → Nat → Int32} {e y : Nat} {as : List Value} {v : Value} {st : Int32}
theorem Fc.refl : Fc I J I J := ⟨fun _ _ _ _ => rfl, fun _ _ _ _ => rfl⟩
theorem Fc.trans (h : Fc I J I' J') (h' : Fc I' J' I'' J'') : Fc I J I'' J'' := ⟨fun a k w1 w2 => (h'.1 a k w1 w2).trans (h.1 a k w1 w2), fun a k w1 w2 => (h'.2 a k w1 w2).trans (h.2 a k w1 w2)⟩
theorem Fm.refl : Fm I J I J := ⟨fun _ _ _ => rfl, fun _ _ _ => rfl⟩
theorem Fm.trans (h : Fm I J I' J') (h' : Fm I' J' I'' J'') : Fm I J I'' J'' := ⟨fun a k w => (h'.1 a k w).trans (h.1 a k w), fun a k w => (h'.2 a k w).trans (h.2 a k w)⟩
def QC (d sl : Nat) (p : Nat → Nat) (I : Nat → Nat → Int32) (J : Nat → Nat → Int64) (D : Nat → Nat → Int32) (e y : Nat) (as : List Value) (v : Value) (st : Int32) : Prop := ∃ I' J', den d y as (S sl p I J) = some (some v, S sl p I' J') ∧ CK p I' J' D e ∧ Fc I J I' J' ∧ I' 1 8 = st
def QM (d sl : Nat) (p : Nat → Nat) (I : Nat → Nat → Int32) (J : Nat → Nat → Int64) (y : Nat) (as : List Value) (v : Value) (st : Int32) : Prop := ∃ I' J', den d y as (S sl p I J) = some (some v, S sl p I' J') ∧ dat I' = dat I ∧ Fm I J I' J' ∧ I' 46 0 = st
def Agr (d sl : Nat) (p : Nat → Nat) (D : Nat → Nat → Int32) (e y y' : Nat) (as : List Value) : Prop := ∃ v st, (∀ I J, CK p I J D e → QC d sl p I J D e y (.ref 1 :: as) v st) ∧ ∀ I J, dat I = D → QM d sl p I J y' (.ref 46 :: as) v st
theorem CK.grp (h : CK p I J D e) (f : ∀ a k, ¬ (a = 11 ∧ 14 ≤ k ∧ k < 16) → ¬ (12 ≤ a ∧ a < 22) → ¬ (400 ≤ a ∧ a < 430) → I' a k = I a k) (g : ∀ a k, ¬ (500 ≤ a ∧ a < 900) → J' a k = J a k) (G : GrC I' J' D) (q : I' 11 15 = I 4 10) : CK p I' J' D e :=
  ⟨h.sv.fr (fun a k w => f a k (by omega) (by omega) (by omega)) (f _ _ (by omega) (by omega) (by omega)) (f _ _ (by omega) (by omega) (by omega)) (fun a k _ _ => f _ _ (by omega) (by omega) (by omega)) (fun a k _ _ => g _ _ (by omega)) (fun a k _ _ => g _ _ (by omega)),
    by rw [f _ _ (by omega) (by omega) (by omega)]; exact h.ed, fun k hk => by rw [f _ _ (by omega) (by omega) (by omega)]; exact h.sl k hk, ⟨Or.inr ⟨e, Nat.le_refl e, by rw [q]; exact h.ed⟩, fun _ => G⟩,
    h.b.fr (fun k _ _ => f _ _ (by omega) (by omega) (by omega)), h.s.fr (fun a k w => f _ _ (by omega) (by omega) (by omega)) (fun a k _ _ => g _ _ (by omega)),
    h.f.fr (f _ _ (by omega) (by omega) (by omega)) (fun k => g _ _ (by omega)), h.x.fr (fun a k w => f _ _ (by omega) (by omega) (by omega)), h.l.fr (fun a k w => f _ _ (by omega) (by omega) (by omega)), h.t.fr (fun a k w => f _ _ (by omega) (by omega) (by omega)), h.z.fr (fun a k w => f _ _ (by omega) (by omega) (by omega))⟩
theorem CK.stat (h : CK p I J D e) (x : Int32) : CK p (up2 I 1 8 x) J D e := h.scr (fun a k _ w _ _ => up_na w) (fun _ _ _ => rfl) (fun _ _ _ _ => rfl)
theorem CK.gc (h : CK p I J D e) : I 11 15 = I 4 10 → GrC I J D := fun w => h.g.2 (w.trans h.ed)
theorem QC.mk1 (e1 : den d y as (S sl p I J) = some (some v, S sl p (up2 I' 1 8 st) J')) (h : CK p I' J' D e) (f : Fc I J I' J') : QC d sl p I J D e y as v st := ⟨_, _, e1, h.stat st, f.trans ⟨fun a k _ _ => up_na (by omega), fun _ _ _ _ => rfl⟩, up_s⟩
theorem QM.mk1 (e1 : den d y as (S sl p I J) = some (some v, S sl p (up2 I' 46 0 st) J')) (h : dat I' = dat I) (f : Fm I J I' J') : QM d sl p I J y as v st := ⟨_, _, e1, by rw [dat_up (by unfold isD; omega)]; exact h, f.trans ⟨fun a k _ => up_na (by omega), fun _ _ _ => rfl⟩, up_s⟩
theorem C_refresh (h : CK p I J D e) : ∃ I', den (d + 3) 97 [.ref 11] (S sl p I J) = some (none, S sl p I' J) ∧ CK p I' J D e ∧ GrC I' J D ∧ Fc I J I' J := by
  obtain ⟨I', e1, e2, e3, e4⟩ := sp_refresh (d := d) (sl := sl) h.sv h.gc
  exact ⟨I', e1, h.grp e4 (fun _ _ _ => rfl) e2 e3, e2, fun a k _ _ => e4 _ _ (by omega) (by omega) (by omega), fun _ _ _ _ => rfl⟩
theorem C_hasSet (h : CK p I J D e) (x : Int32) : ∃ I', den (d + 4) 100 [.ref 11, .int x] (S sl p I J) = some (some (.int (if x < 0 then 0 else if x < nI (nst D) then 1 else 0)), S sl p I' J) ∧ CK p I' J D e ∧ GrC I' J D ∧ Fc I J I' J := by
  obtain ⟨I', e1, e2, e3, e4⟩ := sp_hasSet (d := d) (sl := sl) h.sv h.gc x
  exact ⟨I', e1, h.grp e4 (fun _ _ _ => rfl) e2 e3, e2, fun a k _ _ => e4 _ _ (by omega) (by omega) (by omega), fun _ _ _ _ => rfl⟩
theorem C_measureAll (h : CK p I J D e) : ∃ I' J', den (d + 5) 104 [.ref 11] (S sl p I J) = some (none, S sl p I' J') ∧ CK p I' J' D e ∧ GrC I' J' D ∧ (∀ s, s < nst D → Msd I' J' D s) ∧ Fc I J I' J' ∧ (∀ a k, ¬ (a = 11 ∧ 14 ≤ k ∧ k < 16) → ¬ (12 ≤ a ∧ a < 22) → ¬ (400 ≤ a ∧ a < 430) → I' a k = I a k) ∧ I' 11 15 = I 4 10 := by
  obtain ⟨I', J', e1, e2, e3, e4, e5, e6⟩ := sp_measureAll (d := d) (sl := sl) h.sv h.gc
  exact ⟨I', J', e1, h.grp e5 e6 e2 e4, e2, e3, ⟨fun a k _ _ => e5 _ _ (by omega) (by omega) (by omega), fun _ _ _ _ => e6 _ _ (by omega)⟩, e5, e4⟩
theorem C_measured (h : CK p I J D e) (hG : GrC I J D) (hq : I 11 15 = I 4 10) {s : Nat} (hs : s < nst D) : ∃ I' J', den (d + 4) 105 [.ref 11, .int (nI s)] (S sl p I J) = some (some (.ref (400 + s)), S sl p I' J') ∧ CK p I' J' D e ∧ GrC I' J' D ∧ Msd I' J' D s ∧ I' 11 15 = I' 4 10 ∧ Fc I J I' J' := by
  obtain ⟨I', J', e1, e2, e3, e4, e5, e6⟩ := sp_measured (d := d) (sl := sl) h.sv hG hs
  exact ⟨I', J', e1, h.grp (fun a k _ _ _ => e5 _ _ (by omega) (by omega)) e6 e2 (by rw [e5 _ _ (by omega) (by omega)]; exact hq), e2, e2.ms s hs e3, by rw [e5 _ _ (by omega) (by omega), e5 _ _ (by omega) (by omega)]; exact hq, ⟨fun a k _ _ => e5 _ _ (by omega) (by omega), fun _ _ _ _ => e6 _ _ (by omega)⟩⟩
theorem M_sets (hD : GD D) (h : dat I = D) : ∃ I', den (d + 7) 210 [.ref 46] (S sl p I J) = some (none, S sl p I' J) ∧ dat I' = D ∧ SetAt I' D ∧ Fm I J I' J := by
  subst h
  obtain ⟨I', e1, e2, e3⟩ := sp_laysSets (d := d) (sl := sl) (p := p) (J := J) hD
  refine ⟨I', e1, ?_, e2, fun a k w => e3 a k (by omega) (by omega) (by omega) (by omega) (by omega), fun _ _ _ => rfl⟩
  funext a k
  unfold dat
  split
  · exact e3 a k (by omega) (by omega) (by omega) (by omega) (by omega)
  · rfl
theorem M_means (hD : GD D) (h : dat I = D) : ∃ I' J', den (d + 10) 221 [.ref 46] (S sl p I J) = some (none, S sl p I' J') ∧ dat I' = D ∧ SetAt I' D ∧ MeanAt I' D (nst D) ∧ Fm I J I' J' := by
  subst h
  obtain ⟨I', J', e1, e2, e3, e4, e5⟩ := sp_laysMeans (d := d) (sl := sl) (p := p) (J := J) hD
  refine ⟨I', J', e1, ?_, e2, e3, fun a k w => e4 a k (by omega) (by omega), fun a k w => e5 a k (by omega)⟩
  funext a k
  unfold dat
  split
  · exact e4 a k (by omega) (by omega)
  · rfl
theorem M_groups (hD : GD D) (h : dat I = D) {an : Nat} {bt : Int32} (han : an ≤ 90) : ∃ I', den (d + 6) 208 [.ref 46, .int (nI an), .int bt] (S sl p I J) = some (none, S sl p I' J) ∧ dat I' = D ∧ GrpAt I' D an bt ∧ Fm I J I' J ∧ (∀ k, I' 61 k = I 61 k) ∧ I' 46 31 = I 46 31 := by
  subst h
  obtain ⟨I', e1, e2, e3⟩ := sp_groups (d := d) (sl := sl) (p := p) (J := J) hD (bt := bt) han
  refine ⟨I', e1, ?_, e2, ⟨fun a k w => e3 a k (by omega) (by omega) (by omega) (by omega), fun _ _ _ => rfl⟩, fun k => e3 _ _ (by omega) (by omega) (by omega) (by omega), e3 _ _ (by omega) (by omega) (by omega) (by omega)⟩
  funext a k
  unfold dat
  split
  · exact e3 a k (by omega) (by omega) (by omega) (by omega)
  · rfl
/-- a number is in a row, or isn't -/
theorem in_y {n s : Nat} (h : s < n) (hn : n < 2 ^ 31) : (if nI s < 0 then (0 : Int32) else if nI s < nI n then 1 else 0) = 1 := by rw [if_neg (nI_pos (by omega)), if_pos (lt_n h hn)]
theorem in_n {x : Int32} {n : Nat} (hn : n < 2 ^ 31) (h : ¬ ∃ s, s < n ∧ x = nI s) : (if x < 0 then (0 : Int32) else if x < nI n then 1 else 0) = 0 := by
  by_cases q : x < 0
  · rw [if_pos q]
  · rw [if_neg q, if_neg (fun w => h (ex_nI q w hn))]
theorem le_pred {x : Int32} {n : Nat} (hn : n < 2 ^ 30) : x ≤ nI n - 1 ↔ x < nI n := by
  have h1 : (nI n - 1).toInt = (n : Int) - 1 := nI_sub_t (y := 1) hn (by decide)
  rw [Int32.le_iff_toInt_le, Int32.lt_iff_toInt_lt, h1, tI (by omega)]
  omega
/-- a number is within two bounds, or isn't -/
theorem wi_y {n s : Nat} (h : s ≤ n) (hn : n < 2 ^ 31) : (if nI s < 0 then (0 : Int32) else if nI s ≤ nI n then 1 else 0) = 1 := by rw [if_neg (nI_pos (by omega)), if_pos ((nI_le_iff (by omega) hn).mpr h)]
theorem wi_n {x : Int32} {n : Nat} (hn : n < 2 ^ 31) (h : ¬ ∃ s, s ≤ n ∧ x = nI s) : (if x < 0 then (0 : Int32) else if x ≤ nI n then 1 else 0) = 0 := by
  by_cases q : x < 0
  · rw [if_pos q]
  · rw [if_neg q, if_neg (fun w => h (ex_nIle q w hn))]
theorem sp_within (x a b : Int32) : den d 167 [.int x, .int a, .int b] (S sl p I J) = some (some (.int (if x < a then 0 else if x ≤ b then 1 else 0)), S sl p I J) := by
  rw [E167_0]
  by_cases q : x < a
  · rw [if_pos q, if_pos q]
  · rw [if_neg q, if_neg q]
    by_cases r : x ≤ b
    · rw [if_pos r, if_pos r]
    · rw [if_neg r, if_neg r]
theorem sp_isSet (hD : GD D) (hS : SetAt I D) (x : Int32) : den (d + 1) 235 [.ref 46, .int x] (S sl p I J) = some (some (.int (if x < 0 then 0 else if x < nI (nst D) then 1 else 0)), S sl p I J) := by
  have n60 := hD.n60
  have h30 := nst_30 hD hS.lab
  rw [E235_0, sp_isFrom, evK_s, E235_11, hS.e31, ck_if]
  · by_cases q : x < 0
    · rw [if_pos q, if_pos q]
    · rw [if_neg q, if_neg q]
      by_cases r : x < nI (nst D)
      · rw [if_pos r, if_pos ((le_pred (by omega)).mpr r)]
      · rw [if_neg r, if_neg (fun w => r ((le_pred (by omega)).mp w))]
  · refine decide_eq_true ?_
    split
    · exact Or.inl rfl
    · split
      · exact Or.inr rfl
      · exact Or.inl rfl
end AGR
