/-! what a run never does to the memory; Math's rows; the entry of a method -/
def Inv0 (σ σ' : Mm) : Prop := σ.2.2.2.1 ≤ σ'.2.2.2.1 ∧ σ'.1 0 = σ.1 0 ∧ σ'.2.2.2.2 = σ.2.2.2.2 ∧ (σ.2.2.2.1 ≤ NT → σ'.2.2.2.1 ≤ NT)
theorem Inv0.rf (σ : Mm) : Inv0 σ σ := ⟨Nat.le_refl _, rfl, rfl, id⟩
theorem Inv0.tr {σ σ' σ'' : Mm} (h : Inv0 σ σ') (h' : Inv0 σ' σ'') : Inv0 σ σ'' := ⟨Nat.le_trans h.1 h'.1, h'.2.1.trans h.2.1, h'.2.2.1.trans h.2.2.1, fun q => h'.2.2.2 (h.2.2.2 q)⟩
theorem Inv0.I {σ : Mm} {a k : Nat} {v : Int32} (h : a ≠ 0) : Inv0 σ (setI σ a k v) := ⟨Nat.le_refl _, X_up h, rfl, id⟩
theorem Inv0.J {σ : Mm} {a k : Nat} {v : Int64} : Inv0 σ (setJ σ a k v) := ⟨Nat.le_refl _, rfl, rfl, id⟩
theorem Inv0.R {σ : Mm} {a k : Nat} {v : Option Nat} : Inv0 σ (setR σ a k v) := ⟨Nat.le_refl _, rfl, rfl, id⟩
theorem Inv0.N {σ : Mm} (h : σ.2.2.2.1 < NT) : Inv0 σ (newC σ) := ⟨Nat.le_succ _, zr2_ne (fun q => (lay1 h).2.1 q.symm), rfl, fun _ => h⟩
theorem Inv0.V {σ σ' : Mm} {a c k : Nat} {v : Value} (h0 : a ≠ 0) (h : sV σ a c k v = some σ') : Inv0 σ σ' := by
  unfold sV at h
  split at h
  · split at h
    · cases h; exact Inv0.I h0
    · split at h
      · cases h; exact Inv0.I h0
      · cases h
  · split at h
    · cases h; exact Inv0.J
    · cases h
  · split at h
    · cases h; exact Inv0.R
    · cases h
  · cases h
theorem inv_stO {pc : Nat} {L : List Value} {σ : Mm} {o : Option (List Value)} {q : Nx} (h : stO pc L σ o = some q) : Inv0 σ q.2.2.2 := by
  obtain ⟨r, -, rfl⟩ := stO_spec h
  exact Inv0.rf σ
theorem inv_map {α : Type} {pc : Nat} {L : List Value} {st : α → List Value} {σ : Mm} {o : Option α} {q : Nx} (h : (o.map fun v => (pc, L, st v, σ)) = some q) : Inv0 σ q.2.2.2 := by
  obtain ⟨r, -, rfl⟩ := Option.map_eq_some_iff.mp h
  exact Inv0.rf σ
theorem inv_nra {k pc : Nat} {L st : List Value} {σ : Mm} {q : Nx} (h : sNra k pc L st σ = some q) : Inv0 σ q.2.2.2 := by
  unfold sNra at h
  split at h
  · split at h
    · rename_i hc
      cases h; exact Inv0.N hc.2.1
    · cases h
  · cases h
theorem inv_jmp {pc : Nat} {off : Int} {L st : List Value} {σ : Mm} {q : Nx} (h : jmp pc off L st σ = some q) : Inv0 σ q.2.2.2 := by
  obtain ⟨t, -, rfl⟩ := jmp_spec h
  exact Inv0.rf σ
theorem inv_stp {y pc len : Nat} {i : Instr} {L st : List Value} {σ : Mm} {q : Nx} (hs : stp y i pc len L st σ = some q) : Inv0 σ q.2.2.2 := by
  unfold stp at hs
  split at hs
  rotate_left
  · cases hs
  rename_i hln
  cases i
  case ldc => exact inv_map hs
  case ldc_w => exact inv_map hs
  case ldc2_w => exact inv_map hs
  case iload => exact inv_map hs
  case iload_n => exact inv_map hs
  case lload => exact inv_map hs
  case lload_n => exact inv_map hs
  case aload => exact inv_map hs
  case aload_n => exact inv_map hs
  case getfield x =>
    change sGet y x (pc + len) L st σ = some q at hs
    unfold sGet at hs
    repeat' split at hs
    all_goals first | (cases hs; exact Inv0.rf σ) | cases hs
  case putfield x =>
    change sPut y x (pc + len) L st σ = some q at hs
    unfold sPut at hs
    split at hs
    · split at hs
      · split at hs
        · rename_i hc
          obtain ⟨s', h1, rfl⟩ := Option.map_eq_some_iff.mp hs
          exact Inv0.V (obj0 hc.1) h1
        · cases hs
      · cases hs
    · cases hs
  case iastore =>
    change sIst (pc + len) L st σ = some q at hs
    unfold sIst at hs
    split at hs
    · split at hs
      · rename_i hc
        cases hs; exact Inv0.I hc.2.1
      · cases hs
    · cases hs
  case lastore =>
    change sJst (pc + len) L st σ = some q at hs
    unfold sJst at hs
    repeat' split at hs
    all_goals first | (cases hs; exact Inv0.J) | cases hs
  case aastore =>
    change sAst (pc + len) L st σ = some q at hs
    unfold sAst at hs
    repeat' split at hs
    all_goals first | (cases hs; exact Inv0.R) | cases hs
  case newarray t => cases t <;> first | exact inv_nra hs | cases hs
  case anewarray x =>
    change sAna y x (pc + len) L st σ = some q at hs
    unfold sAna at hs
    repeat' split at hs
    all_goals first | exact inv_nra hs | cases hs
  case new x =>
    change sNew y x (pc + len) L st σ = some q at hs
    unfold sNew at hs
    split at hs
    · split at hs
      · rename_i hc
        cases hs; exact Inv0.N hc.1
      · cases hs
    · cases hs
  case goto off =>
    obtain ⟨t, ht, e1⟩ := Option.map_eq_some_iff.mp (show jmpN y pc off L st σ = some q from hs)
    cases e1
    exact Inv0.rf σ
  case tableswitch d lo hi offs =>
    change sSw d lo hi offs pc L st σ = some q at hs
    unfold sSw at hs
    repeat' split at hs
    all_goals first | exact inv_jmp hs | cases hs
  case ifCond cn off =>
    change sIf cn off pc L st σ = some q at hs
    unfold sIf at hs
    split at hs
    · obtain ⟨r, -, rfl⟩ := Option.map_eq_some_iff.mp hs
      exact Inv0.rf σ
    · cases hs
  case if_icmp cn off =>
    change sIc cn off pc L st σ = some q at hs
    unfold sIc at hs
    split at hs
    · obtain ⟨r, -, rfl⟩ := Option.map_eq_some_iff.mp hs
      exact Inv0.rf σ
    · cases hs
  all_goals first
    | (exact inv_stO hs)
    | (simp only [sI, sJ, sA, sInc, sDup, sDup2, sPop, sIld, sJld, sAld, sLen] at hs; (repeat' split at hs) <;> first | (cases hs; exact Inv0.rf σ) | cases hs)
theorem inv_run : ∀ (n d y pc : Nat) (L st : List Value) (σ : Mm) (x : Option Value × Mm), irun n d y pc L st σ = some x → Inv0 σ x.2 := by
  intro n
  induction n with
  | zero => intro d y pc L st σ x h; simp [irun] at h
  | succ n ih =>
    intro d y pc L st σ x h
    unfold irun at h
    split at h
    · cases h
    · split at h
      · split at h
        · cases h
        · rename_i q hq
          exact (inv_stp hq).tr (ih _ _ _ _ _ _ _ h)
      · split at h
        · obtain ⟨r, -, rfl⟩ := Option.map_eq_some_iff.mp h
          exact Inv0.rf σ
        · split at h
          · split at h
            · cases h
            · split at h
              · exact ih _ _ _ _ _ _ _ h
              · split at h
                · cases h
                · split at h
                  · split at h
                    · cases h
                    · rename_i u hu
                      exact (ih _ _ _ _ _ _ _ hu).tr (ih _ _ _ _ _ _ _ h)
                  · cases h
          · cases h
section MTH
variable {p : Program} {l : Launch} {e : Env} {R : Room} {s : State} {m : MethodId} {args : Array Value} {below : List Frame} {meth : Method} {c : Code} {H : Heap} {locs : List Loc} {cells slots : Nat} {Q : State → Prop}
variable {pc : Nat} {ls : Array Slot} {rest : List Value}
theorem va_mfm {cc : ByteArray} (hexec : p.tables.exec = Jvm.exec) (hb : c.code = cc) (hml : c.maxLocals = ls.size) {own : String} {index : Nat} (hown : s.vm.findClass own = some m.cls) (hlink : (Cond.methodLink own index fmX).before args s = true) (hstat : (Cond.static fmX).before args s = true) (hini : (Cond.initialized "java/lang/Math").before args s = true) (hcode : (Cond.code fmX fmC 3 (some .int)).before args s = true)
    (hframes : 1 ≤ R.frames) (hlocals : (rest.map fun v => v.category).sum + 14 ≤ R.locals) (hc : cells ≤ R.cells) (hs : slots ≤ R.slots) {x : Int32} (hdg : decode cc pc = .ok (.invokestatic index, 3))
    (kk : W p l e R s m args below meth c H locs cells slots Q (F0 m (pc + 3) ls (.int (fmod x) :: rest))) : W p l e R s m args below meth c H locs cells slots Q (F0 m pc ls (.int 360 :: .int x :: rest)) := by
  intro T hT X
  obtain ⟨v, vm', X', ⟨first, t, hpost⟩, hstep⟩ := X.staticByContractV hexec hown hlink hstat hini hcode (by decide) (fm_meets l) rfl rfl rfl rfl
    (fun args' first o s₂ h => by
      cases o with
      | returned r => exact ⟨r, rfl⟩
      | threw y => exact absurd h (by simp [fmS, Cond.after, Cond.holds, Cond.value]))
    (g := F0 m pc ls (.int 360 :: .int x :: rest)) rfl (by rw [hml]) (argsL := [.int x, .int 360]) (rest := rest)
    (fun sig hs => by
      have h : parseMethodDescriptor "(II)I" = some { parameters := [.int, .int], returnType := some .int } := by decide +kernel
      rw [show fmX.desc = "(II)I" from rfl, h] at hs
      rw [← Option.some.inj hs]; rfl)
    rfl (by rw [hb]; exact hdg)
    (fun vm' hW => by
      simp only [fmS, Cond.before_and, Bool.and_eq_true]
      refine ⟨?_, rfl, rfl, rfl, rfl⟩
      have q := hcode
      rw [← Cond.code_setVm hW.alike] at q
      simp only [Cond.before, Cond.holds, Cond.value, State.methodNamed?, State.vm_setVm] at q ⊢
      exact q)
    (by show 0 + 1 ≤ R.frames; omega) (by show 2 * 0 + (rest.map fun v => v.category).sum + (3 + 11) + 0 ≤ R.locals; omega) (by show cells + 0 ≤ R.cells; omega) (by show slots + 0 ≤ R.slots; omega)
  obtain ⟨t2, a1, b1⟩ := kk (T.setVm vm') hT X'
  refine ⟨t2, hstep t2 ?_, b1⟩
  have hv : v = some (.int (fmod x)) := by
    have hrem : x % 360 = x - x / 360 * 360 := rem_eq x
    unfold fmod
    by_cases h1 : x - x / 360 * 360 < 0
    · rw [if_pos h1]
      rcases v with _ | w
      · simp [fmS, Cond.after, Cond.holds, Cond.value, Term.eval, hrem, h1] at hpost
      · cases w <;> simp [fmS, Cond.after, Cond.holds, Cond.value, Term.eval, hrem, h1] at hpost
        rename_i r
        by_cases hr : r = x - x / 360 * 360 + 360
        · rw [hr]
        · simp [hr] at hpost
    · rw [if_neg h1]
      rcases v with _ | w
      · simp [fmS, Cond.after, Cond.holds, Cond.value, Term.eval, hrem, h1] at hpost
      · cases w <;> simp [fmS, Cond.after, Cond.holds, Cond.value, Term.eval, hrem, h1] at hpost
        rename_i r
        by_cases hr : r = x - x / 360 * 360
        · rw [hr]
        · simp [hr] at hpost
  rw [hv]
  exact a1
end MTH
theorem flt_sl (B b : Nat) : ∀ (as : List Value), (flt as).length = (lg_sl (as.map (rl B b))).length ∧ ∀ (i : Nat) (v : Value), (flt as)[i]? = some v → us v = true → (lg_sl (as.map (rl B b)))[i]? = some (.val (rl B b v)) := by
  intro as
  induction as with
  | nil => exact ⟨rfl, fun i v h => by simp [flt] at h⟩
  | cons w t ih =>
    have e1 : flt (w :: t) = (if w.category = 2 then [w, .retAddr 0] else [w]) ++ flt t := by simp [flt]
    have e2 : lg_sl ((w :: t).map (rl B b)) = (if w.category = 2 then [.val (rl B b w), .second] else [.val (rl B b w)]) ++ lg_sl (t.map (rl B b)) := by simp [lg_sl, rl_cat]
    rw [e1, e2]
    by_cases hc : w.category = 2
    · rw [if_pos hc, if_pos hc]
      refine ⟨by simp [ih.1], fun i v h hu => ?_⟩
      match i, h with
      | 0, h => cases h; rfl
      | 1, h => cases h; cases hu
      | i + 2, h => exact ih.2 i v h hu
    · rw [if_neg hc, if_neg hc]
      refine ⟨by simp [ih.1], fun i v h hu => ?_⟩
      match i, h with
      | 0, h => cases h; rfl
      | i + 1, h => exact ih.2 i v h hu
theorem en_lvL {B b z : Nat} {as : List Value} (h : (flt as).length ≤ mMx z) : lvL B b ((lg_sl (as.map (rl B b)) ++ List.replicate (mMx z - (lg_sl (as.map (rl B b))).length) Slot.unset).toArray) (mMx z) (enL z as) := by
  obtain ⟨h1, h2⟩ := flt_sl B b as
  have h3 := lv_entry (as.map (rl B b)) (n := mMx z) (by rw [← h1]; exact h)
  refine ⟨?_, h3.1, h3.2.1, fun q hq => ?_⟩
  · unfold enL
    rw [List.length_append, List.length_replicate]
    omega
  · obtain ⟨v, hv, hu, hr⟩ := prs_mem.mp hq
    unfold enL at hv
    rw [hr]
    by_cases hi : q.1 < (flt as).length
    · rw [List.getElem?_append_left hi] at hv
      have h4 := h2 q.1 v hv hu
      simp only [List.getElem?_toArray]
      rw [List.getElem?_append_left (by omega)]
      exact h4
    · rw [List.getElem?_append_right (by omega), List.getElem?_replicate] at hv
      split at hv
      · cases hv; cases hu
      · cases hv
