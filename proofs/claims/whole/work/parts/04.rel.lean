/-! HOW THE ABSTRACT MEMORY LIES IN THE HEAP: cell i of those that were made stands at B + i; the script at b -/
def ra (B b a : Nat) : Nat := if a = 0 then b else B + pos a
def rl (B b : Nat) : Value → Value
  | .ref a => .ref (ra B b a)
  | v => v
theorem rl_cat (B b : Nat) (v : Value) : (rl B b v).category = v.category := by cases v <;> rfl
theorem rl_rf (B b : Nat) (r : Option Nat) : rl B b (va_rf r) = va_rf (r.map (ra B b)) := by cases r <;> rfl
def ent (B b : Nat) (cA : Nat → ClassId) (σ : Mm) (a : Nat) : va_E :=
  if (SH a).1 = 1 then .inr ((SH a).2, (List.range (nf (SH a).2)).map fun k => rl B b (gV σ a (SH a).2 k))
  else if (SH a).1 = 2 then .inl (cA 2, (SH a).2, .inl (σ.1 a))
  else if (SH a).1 = 3 then .inl (cA 3, (SH a).2, .inr (.inl (σ.2.1 a)))
  else .inl (cA (SH a).1, (SH a).2, .inr (.inr (.inr (.inr fun j => (σ.2.2.1 a j).map (ra B b)))))
def wld (B b : Nat) (cA : Nat → ClassId) (σ : Mm) : va_W := (List.range σ.2.2.2.1).map fun i => (B + i, ent B b cA σ (ADR i))
def tyA (cA : Nat → ClassId) : List (ClassId × FieldType) := [(cA 2, .int), (cA 3, .long), (cA 4, .object (cName 0)), (cA 5, .object (cName 1)), (cA 6, .object (cName 2))]
def AA (B : Nat) : Nat → Prop := fun q => B ≤ q
def KX (dC : Nat → ClassId) (dI : Nat → Nat → Nat) (cA : Nat → ClassId) (U : State) : Prop := va_K (dC, dI) clsV (tyA cA) U ∧ (∀ w ∈ nestL, va_Nw w U) ∧ ∀ c, c < 3 → va_AO (cName c) U
theorem nest_form {w : Jvm.Cond} (h : w ∈ nestL) : ∃ a i x, w = .methodLinkNest a i x "PoleSets" := by
  unfold nestL at h
  obtain ⟨own, -, h⟩ := List.mem_flatMap.mp h
  obtain ⟨q, -, h⟩ := List.mem_filterMap.mp h
  split at h
  · cases h
  · cases h
    exact ⟨_, _, _, rfl⟩
theorem KX.warm {dC : Nat → ClassId} {dI : Nat → Nat → Nat} {cA : Nat → ClassId} {s U : State} (hW : s.WarmedH U.vm) (h : KX dC dI cA s) : KX dC dI cA U := by
  refine ⟨va_K.moved hW.alike h.1, fun w hw => ?_, fun c hc => va_AO.moved hW.alike (h.2.2 c hc)⟩
  obtain ⟨a, i, x, rfl⟩ := nest_form hw
  exact va_Nw.warmM hW (h.2.1 _ hw)
theorem lay1 {i : Nat} (h : i < NT) : pos (ADR i) = i ∧ ADR i ≠ 0 ∧ (SH (ADR i)).1 ≠ 0 ∧ ADR i < 1000 := of_decide_eq_true (List.all_eq_true.mp lay1_ok i (List.mem_range.mpr h))
theorem SH_big {a : Nat} (h : 1000 ≤ a) : (SH a).1 = 0 := by
  unfold SH
  rw [if_neg (by omega), if_neg (by omega), if_neg (by omega), if_neg (by omega), if_neg (by omega), if_neg (by omega), if_neg (by omega), if_neg (by omega), if_neg (by omega), if_neg (by omega)]
theorem lay2 {a : Nat} (h0 : a ≠ 0) (h : (SH a).1 ≠ 0) : pos a < NT ∧ ADR (pos a) = a := by
  have h1 : a < 1000 := by
    rcases Nat.lt_or_ge a 1000 with q | q
    · exact q
    · exact absurd (SH_big q) h
  have := of_decide_eq_true (List.all_eq_true.mp lay2_ok a (List.mem_range.mpr h1))
  rcases this with q | q | q
  · exact absurd q h0
  · exact absurd q h
  · exact q
theorem SH0 : SH 0 = (2, 0) := by decide +kernel
theorem obj0 {a c : Nat} (h : SH a = (1, c)) : a ≠ 0 := by
  intro e
  rw [e, SH0] at h
  cases h
theorem wld_at {B b : Nat} {cA : Nat → ClassId} {σ : Mm} {a : Nat} (h0 : a ≠ 0) (hs : (SH a).1 ≠ 0) (hp : pos a < σ.2.2.2.1) : (wld B b cA σ)[pos a]? = some (B + pos a, ent B b cA σ a) := by
  unfold wld
  rw [List.getElem?_map, List.getElem?_range hp]
  simp only [Option.map_some, (lay2 h0 hs).2]
theorem wld_D (B b : Nat) (cA : Nat → ClassId) (σ : Mm) : va_D (AA B) (wld B b cA σ) := by
  have key : ∀ (i : Nat) (q : Nat × va_E), (wld B b cA σ)[i]? = some q → q.1 = B + i := by
    intro i q h
    unfold wld at h
    rw [List.getElem?_map] at h
    cases hr : (List.range σ.2.2.2.1)[i]? with
    | none => rw [hr] at h; cases h
    | some j =>
      rw [hr] at h
      have : j = i := by
        have := List.getElem?_eq_some_iff.mp hr
        obtain ⟨h1, h2⟩ := this
        simpa using h2.symm
      subst this
      cases h
      rfl
  refine ⟨fun i j p q hi hj e => ?_, fun k q hk => ?_⟩
  · have h1 := key i p hi
    have h2 := key j q hj
    omega
  · have h1 := key k q hk
    show B ≤ q.1
    omega
/-- one cell's entry is set, the others' stay -/
theorem wld_set {B b : Nat} {cA : Nat → ClassId} {σ σ' : Mm} {a : Nat} (hn : σ'.2.2.2.1 = σ.2.2.2.1) (hN : σ.2.2.2.1 ≤ NT) (h0 : a ≠ 0) (hs : (SH a).1 ≠ 0) (hp : pos a < σ.2.2.2.1) (hoff : ∀ a', a' ≠ a → ent B b cA σ' a' = ent B b cA σ a') :
    (wld B b cA σ).set (pos a) (B + pos a, ent B b cA σ' a) = wld B b cA σ' := by
  apply List.ext_getElem?
  intro i
  rw [List.getElem?_set]
  unfold wld
  rw [List.getElem?_map, List.getElem?_map, hn]
  by_cases hi : i < σ.2.2.2.1
  · rw [List.getElem?_range hi]
    simp only [Option.map_some, List.length_map, List.length_range]
    split
    · rename_i e
      subst e
      rw [(lay2 h0 hs).2]
    · rename_i e
      rw [hoff]
      intro e2
      apply e
      rw [← e2]
      exact (lay1 (Nat.lt_of_lt_of_le hi hN)).1
  · have h1 : (List.range σ.2.2.2.1)[i]? = none := by simp; omega
    rw [h1]
    simp only [Option.map_none, List.length_map, List.length_range]
    split
    · rename_i e
      subst e
      exact absurd hp hi
    · rfl
theorem gV_I {σ : Mm} {a k : Nat} {v : Int32} {a' c k' : Nat} : gV (setI σ a k v) a' c k' = if a' = a ∧ k' = k ∧ (ftc c k' = 0 ∨ ftc c k' = 3) then .int v else gV σ a' c k' := by
  unfold gV setI up2
  by_cases h : a' = a ∧ k' = k
  · obtain ⟨rfl, rfl⟩ := h
    by_cases h0 : ftc c k' = 0
    · simp [h0]
    · by_cases h3 : ftc c k' = 3
      · simp [h3]
      · simp [h0, h3]
  · have h' : ¬ (a' = a ∧ k' = k ∧ (ftc c k' = 0 ∨ ftc c k' = 3)) := fun q => h ⟨q.1, q.2.1⟩
    rw [if_neg h']
    simp [h]
theorem gV_J {σ : Mm} {a k : Nat} {v : Int64} {a' c k' : Nat} : gV (setJ σ a k v) a' c k' = if a' = a ∧ k' = k ∧ ftc c k' = 1 then .long v else gV σ a' c k' := by
  unfold gV setJ up2
  by_cases h : a' = a ∧ k' = k
  · obtain ⟨rfl, rfl⟩ := h
    by_cases h0 : ftc c k' = 1
    · simp [h0]
    · simp [h0]
  · have h' : ¬ (a' = a ∧ k' = k ∧ ftc c k' = 1) := fun q => h ⟨q.1, q.2.1⟩
    rw [if_neg h']
    simp [h]
theorem gV_R {σ : Mm} {a k : Nat} {v : Option Nat} {a' c k' : Nat} : gV (setR σ a k v) a' c k' = if a' = a ∧ k' = k ∧ ¬ ftc c k' = 0 ∧ ¬ ftc c k' = 1 ∧ ¬ ftc c k' = 3 then va_rf v else gV σ a' c k' := by
  unfold gV setR up2
  by_cases h : a' = a ∧ k' = k
  · obtain ⟨rfl, rfl⟩ := h
    by_cases h0 : ftc c k' = 0
    · simp [h0]
    · by_cases h1 : ftc c k' = 1
      · simp [h1]
      · by_cases h3 : ftc c k' = 3
        · simp [h3]
        · simp [h0, h1, h3]
  · have h' : ¬ (a' = a ∧ k' = k ∧ ¬ ftc c k' = 0 ∧ ¬ ftc c k' = 1 ∧ ¬ ftc c k' = 3) := fun q => h ⟨q.1, q.2.1⟩
    rw [if_neg h']
    simp [h]
theorem up2_ne {α : Type} {f : Nat → Nat → α} {a k a' : Nat} {v : α} (h : a' ≠ a) : up2 f a k v a' = f a' := by
  funext k'
  unfold up2
  rw [if_neg (fun q => h q.1)]
theorem ent_I_off {B b : Nat} {cA : Nat → ClassId} {σ : Mm} {a k : Nat} {v : Int32} (a' : Nat) (h : a' ≠ a) : ent B b cA (setI σ a k v) a' = ent B b cA σ a' := by
  unfold ent
  simp only [gV_I, h, false_and, if_false]
  rw [show (setI σ a k v).1 a' = σ.1 a' from up2_ne h]
  rfl
theorem ent_J_off {B b : Nat} {cA : Nat → ClassId} {σ : Mm} {a k : Nat} {v : Int64} (a' : Nat) (h : a' ≠ a) : ent B b cA (setJ σ a k v) a' = ent B b cA σ a' := by
  unfold ent
  simp only [gV_J, h, false_and, if_false]
  rw [show (setJ σ a k v).2.1 a' = σ.2.1 a' from up2_ne h]
  rfl
theorem ent_R_off {B b : Nat} {cA : Nat → ClassId} {σ : Mm} {a k : Nat} {v : Option Nat} (a' : Nat) (h : a' ≠ a) : ent B b cA (setR σ a k v) a' = ent B b cA σ a' := by
  unfold ent
  simp only [gV_R, h, false_and, if_false]
  rw [show (setR σ a k v).2.2.1 a' = σ.2.2.1 a' from up2_ne h]
  rfl
/-! words -/
theorem gdL {w : Jvm.Cond} (h : w ∈ lw_tbl) (g : goodWord w = true) : w ∈ lw_gd := gd_mem h g
theorem in_fields {c : Nat} (hc : c < 13) : ∀ w ∈ u_ws (cName c) (fT c) (nf c), w ∈ lw_gd := by
  intro w hw
  obtain ⟨k, hk, rfl⟩ := List.mem_map.mp hw
  have h1 := List.all_eq_true.mp (List.all_eq_true.mp chkY_ok c (List.mem_range.mpr hc)) k hk
  simp only [Bool.and_eq_true] at h1
  refine gdL (atW_mem h1.1.1) ?_
  unfold u_lay
  split <;> rfl
theorem ty_fields {c : Nat} (hc : c < 13) : ∀ k, k < nf c → parseFieldDescriptor (fT c k).2.2.1 = some (fTy c k) := by
  intro k hk
  have h1 := List.all_eq_true.mp (List.all_eq_true.mp chkY_ok c (List.mem_range.mpr hc)) k (List.mem_range.mpr hk)
  simp only [Bool.and_eq_true, decide_eq_true_eq] at h1
  exact h1.1.2
theorem tc_fields {c : Nat} (hc : c < 13) {k : Nat} (hk : k < nf c) : ftc c k = (match fTy c k with | .int => 0 | .long => 1 | .boolean => 3 | .object _ => 2 | .array _ => 2 | _ => 9) := by
  have h1 := List.all_eq_true.mp (List.all_eq_true.mp chkY_ok c (List.mem_range.mpr hc)) k (List.mem_range.mpr hk)
  simp only [Bool.and_eq_true, decide_eq_true_eq] at h1
  exact h1.2
theorem nm_fields {c : Nat} (hc : c < 13) : ∀ a, a < nf c → ∀ b, b < nf c → a ≠ b → (fT c a).2.1 ≠ (fT c b).2.1 := by
  intro a ha b hb hne
  have h1 := of_decide_eq_true (List.all_eq_true.mp (List.all_eq_true.mp (List.all_eq_true.mp chkN_ok c (List.mem_range.mpr hc)) a (List.mem_range.mpr ha)) b (List.mem_range.mpr hb))
  rcases h1 with h | h
  · exact absurd h hne
  · exact h
theorem clsV_at {c : Nat} (hc : c < 13) : clsV[c]? = some (cName c, fT c, nf c) := by
  unfold clsV
  rw [List.getElem?_map, List.getElem?_range hc]
  rfl
theorem own_lt {α : Type} {L : List (List α)} {own : Nat} {x : α} (hL : L.length = 16) (h : x ∈ L.getD own []) : own < 16 := by
  rcases Nat.lt_or_ge own 16 with q | q
  · exact q
  · rw [List.getD_eq_getElem?_getD, List.getElem?_eq_none (by omega)] at h
    cases h
theorem fld_ok {own idx c k : Nat} (h : fld own idx = some (c, k)) : c < 13 ∧ k < nf c ∧ Jvm.Cond.fieldLink (cName own) idx (cName c) (fQ c k).1 (fQ c k).2.1 ∈ lw_gd := by
  unfold fld fldE at h
  obtain ⟨q, hq, e⟩ := Option.map_eq_some_iff.mp h
  cases e
  have hm := List.mem_of_find?_eq_some hq
  have hi : q.1 = idx := by simpa using List.find?_some hq
  have ho : own < 16 := own_lt (by decide +kernel) hm
  have h1 := List.all_eq_true.mp (List.all_eq_true.mp chkF_ok own (List.mem_range.mpr ho)) q hm
  simp only [Bool.and_eq_true, decide_eq_true_eq] at h1
  rw [hi] at h1
  exact ⟨h1.1.1, h1.1.2, gdL (atW_mem h1.2) rfl⟩
theorem clk_ok {own idx c : Nat} (h : clk own idx = some c) : c < 13 ∧ Jvm.Cond.classLink (cName own) idx (cName c) ∈ lw_gd ∧ Jvm.Cond.instantiable (cName c) (nf c) ∈ lw_gd ∧ Jvm.Cond.initialized (cName c) ∈ lw_gd := by
  unfold clk clkE at h
  obtain ⟨q, hq, e⟩ := Option.map_eq_some_iff.mp h
  cases e
  have hm := List.mem_of_find?_eq_some hq
  have hi : q.1 = idx := by simpa using List.find?_some hq
  have ho : own < 16 := own_lt (by decide +kernel) hm
  have h1 := List.all_eq_true.mp (List.all_eq_true.mp chkL_ok own (List.mem_range.mpr ho)) q hm
  simp only [Bool.and_eq_true, decide_eq_true_eq] at h1
  rw [hi] at h1
  have h2 := List.all_eq_true.mp chkW_ok q.2.1 (List.mem_range.mpr h1.1)
  simp only [Bool.and_eq_true] at h2
  exact ⟨h1.1, gdL (atW_mem h1.2) rfl, gdL (atW_mem h2.1) rfl, gdL (atW_mem h2.2) rfl⟩
theorem kI_ok {own idx : Nat} {v : Int32} (h : kI own idx = some v) : Jvm.Cond.constant (cName own) idx v ∈ lw_gd := by
  unfold kI kiE at h
  obtain ⟨q, hq, e⟩ := Option.map_eq_some_iff.mp h
  cases e
  have hm := List.mem_of_find?_eq_some hq
  have hi : q.1 = idx := by simpa using List.find?_some hq
  have ho : own < 16 := own_lt (by decide +kernel) hm
  have h1 := List.all_eq_true.mp chkK_ok own (List.mem_range.mpr ho)
  simp only [Bool.and_eq_true] at h1
  have h2 := List.all_eq_true.mp h1.1 q hm
  rw [hi] at h2
  exact gdL (atW_mem h2) rfl
theorem kL_ok {own idx : Nat} {v : Int64} (h : kL own idx = some v) : Jvm.Cond.constantLong (cName own) idx v ∈ lw_gd := by
  unfold kL klE at h
  obtain ⟨q, hq, e⟩ := Option.map_eq_some_iff.mp h
  cases e
  have hm := List.mem_of_find?_eq_some hq
  have hi : q.1 = idx := by simpa using List.find?_some hq
  have ho : own < 16 := own_lt (by decide +kernel) hm
  have h1 := List.all_eq_true.mp chkK_ok own (List.mem_range.mpr ho)
  simp only [Bool.and_eq_true] at h1
  have h2 := List.all_eq_true.mp h1.2 q hm
  rw [hi] at h2
  exact gdL (atW_mem h2) rfl
theorem arrI_ok : Jvm.Cond.arrayClass .int ∈ lw_gd ∧ Jvm.Cond.arrayClass .long ∈ lw_gd := by
  have h := chkA_ok
  unfold chkA at h
  simp only [Bool.and_eq_true] at h
  exact ⟨gdL (atW_mem h.1.2) rfl, gdL (atW_mem h.2) rfl⟩
/-! locals -/
def us : Value → Bool
  | .int _ => true
  | .long _ => true
  | .ref _ => true
  | _ => false
def prsF (B b : Nat) (L : List Value) (i : Nat) : Option (Nat × Value) := match L[i]? with
  | some v => if us v then some (i, rl B b v) else none
  | none => none
def prs (B b : Nat) (L : List Value) : List (Nat × Value) := (List.range L.length).filterMap (prsF B b L)
theorem prs_mem {B b : Nat} {L : List Value} {q : Nat × Value} : q ∈ prs B b L ↔ ∃ v, L[q.1]? = some v ∧ us v = true ∧ q.2 = rl B b v := by
  unfold prs
  rw [List.mem_filterMap]
  constructor
  · rintro ⟨i, -, h⟩
    unfold prsF at h
    split at h
    · rename_i v hv
      split at h
      · rename_i hu
        cases h
        exact ⟨v, hv, hu, rfl⟩
      · cases h
    · cases h
  · rintro ⟨v, hv, hu, e⟩
    refine ⟨q.1, List.mem_range.mpr (List.getElem?_eq_some_iff.mp hv).1, ?_⟩
    unfold prsF
    rw [hv]
    simp only [hu, if_true]
    rw [← e]
def lvL (B b : Nat) (ls : Array Slot) (nL : Nat) (L : List Value) : Prop := L.length = nL ∧ lv_has ls nL (prs B b L)
theorem lvL.get {B b : Nat} {ls : Array Slot} {nL : Nat} {L : List Value} (h : lvL B b ls nL L) {x : Nat} {v : Value} (hx : L[x]? = some v) (hu : us v = true) : ls[x]? = some (.val (rl B b v)) :=
  h.2.2.2 (x, rl B b v) (prs_mem.mpr ⟨v, hx, hu, rfl⟩)
theorem us_cat {v : Value} (hu : us v = true) : isLg v = decide (v.category = 2) := by cases v <;> first | rfl | cases hu
theorem clr_at {L : List Value} {x i : Nat} {v : Value} (h : (clr L x)[i]? = some v) (hu : us v = true) : L[i]? = some v ∧ ¬ (i + 1 = x ∧ v.category = 2) := by
  unfold clr at h
  split at h
  · exact ⟨h, fun q => by omega⟩
  · split at h
    · rename_i w hw
      split at h
      · rename_i hl
        rw [List.getElem?_set] at h
        split at h
        · split at h
          · cases h
            cases hu
          · cases h
        · rename_i hne
          exact ⟨h, fun q => by omega⟩
      · rename_i hl
        refine ⟨h, fun q => ?_⟩
        have e : x - 1 = i := by omega
        rw [e, h] at hw
        cases hw
        rw [us_cat hu] at hl
        exact hl (decide_eq_true q.2)
    · rename_i hw
      refine ⟨h, fun q => ?_⟩
      have e : x - 1 = i := by omega
      rw [e, h] at hw
      cases hw
theorem clr_len (L : List Value) (x : Nat) : (clr L x).length = L.length := by
  unfold clr
  split
  · rfl
  · split
    · split <;> simp
    · rfl
theorem lvL_st1 {B b : Nat} {ls ls' : Array Slot} {nL : Nat} {L : List Value} {x : Nat} {v : Value} (h : lvL B b ls nL L)
    (h' : lv_has ls' nL ((x, rl B b v) :: (prs B b L).filter (fun q => !(q.1 == x) && !(q.1 + 1 == x && q.2.category == 2)))) : lvL B b ls' nL (st1 L x v) := by
  refine ⟨by unfold st1; rw [clr_len, List.length_set]; exact h.1, h'.1, h'.2.1, fun q hq => h'.2.2 q ?_⟩
  obtain ⟨w, hw, hu, e⟩ := prs_mem.mp hq
  unfold st1 at hw
  obtain ⟨h1, h2⟩ := clr_at hw hu
  rw [List.getElem?_set] at h1
  split at h1
  · rename_i e2
    split at h1
    · cases h1
      refine List.mem_cons.mpr (Or.inl ?_)
      rw [e2, ← e]
    · cases h1
  · rename_i e2
    refine List.mem_cons.mpr (Or.inr (List.mem_filter.mpr ⟨prs_mem.mpr ⟨w, h1, hu, e⟩, ?_⟩))
    have e3 : (q.1 == x) = false := by simpa using fun q => e2 q.symm
    rw [e3]
    simp only [Bool.not_false, Bool.true_and, Bool.not_eq_true', Bool.and_eq_false_iff, beq_eq_false_iff_ne, ne_eq]
    rw [e, rl_cat]
    by_cases hx : q.1 + 1 = x
    · exact Or.inr fun hc => h2 ⟨hx, hc⟩
    · exact Or.inl hx
theorem lvL_st2 {B b : Nat} {ls ls' : Array Slot} {nL : Nat} {L : List Value} {x : Nat} {v : Value} (h : lvL B b ls nL L)
    (h' : lv_has ls' nL ((x, rl B b v) :: (prs B b L).filter (fun q => !(q.1 == x) && (!(q.1 == x + 1) && !(q.1 + 1 == x && q.2.category == 2))))) : lvL B b ls' nL (st2 L x v) := by
  refine ⟨by unfold st2; rw [List.length_set, clr_len, List.length_set]; exact h.1, h'.1, h'.2.1, fun q hq => h'.2.2 q ?_⟩
  obtain ⟨w, hw, hu, e⟩ := prs_mem.mp hq
  unfold st2 at hw
  rw [List.getElem?_set] at hw
  split at hw
  · split at hw
    · cases hw
      cases hu
    · cases hw
  · rename_i e4
    obtain ⟨h1, h2⟩ := clr_at hw hu
    rw [List.getElem?_set] at h1
    split at h1
    · rename_i e2
      split at h1
      · cases h1
        refine List.mem_cons.mpr (Or.inl ?_)
        rw [e2, ← e]
      · cases h1
    · rename_i e2
      refine List.mem_cons.mpr (Or.inr (List.mem_filter.mpr ⟨prs_mem.mpr ⟨w, h1, hu, e⟩, ?_⟩))
      have e3 : (q.1 == x) = false := by simpa using fun q => e2 q.symm
      have e5 : (q.1 == x + 1) = false := by simpa using fun q => e4 q.symm
      rw [e3, e5]
      simp only [Bool.not_false, Bool.true_and, Bool.not_eq_true', Bool.and_eq_false_iff, beq_eq_false_iff_ne, ne_eq]
      rw [e, rl_cat]
      by_cases hx : q.1 + 1 = x
      · exact Or.inr fun hc => h2 ⟨hx, hc⟩
      · exact Or.inl hx
theorem ftc_rng : ((List.range 13).all fun c => (List.range (nf c)).all fun k => decide (ftc c k < 4)) = true := by decide +kernel
theorem lvL_clr {B b : Nat} {ls : Array Slot} {nL : Nat} : ∀ (s : List Nat) {L : List Value}, lvL B b ls nL L → lvL B b ls nL (clrs s L) := by
  intro s
  induction s with
  | nil => intro L h; exact h
  | cons i s ih =>
    intro L h
    refine ih (L := L.set i (.retAddr 0)) ⟨by rw [List.length_set]; exact h.1, h.2.1, h.2.2.1, fun q hq => h.2.2.2 q ?_⟩
    obtain ⟨v, hv, hu, e⟩ := prs_mem.mp hq
    rw [List.getElem?_set] at hv
    split at hv
    · split at hv
      · cases hv
        cases hu
      · cases hv
    · exact prs_mem.mpr ⟨v, hv, hu, e⟩
