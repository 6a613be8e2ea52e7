/-! any step that is no call and no return -/
section STP4
variable {p : Program} {l : Launch} {e : Env} {R : Room} {s : State} {m : MethodId} {args : Array Value} {below : List Frame} {meth : Method} {c : Code} {Q : State → Prop}
variable {B b n0 y : Nat} {dC : Nat → ClassId} {dI : Nat → Nat → Nat} {cA : Nat → ClassId}
theorem ww_stI {pc x : Nat} {L st : List Value} {σ : Mm} {q : Nx} (pc' : Nat) (hs : sI pc' L st σ x = some q)
    (row : ∀ {H : Heap} {locs : List Loc} {ls : Array Slot} {v : Int32} {r : List Value} {cells slots : Nat}, lv_has ls (mMx y) (prs B b L) → x < mMx y → (∀ ls' : Array Slot, lv_has ls' (mMx y) ((x, Value.int v) :: (prs B b L).filter (fun q => !(q.1 == x) && !(q.1 + 1 == x && q.2.category == 2))) → W p l e R s m args below meth c H locs cells slots Q (F0 m pc' ls' r)) → W p l e R s m args below meth c H locs cells slots Q (F0 m pc ls (.int v :: r)))
    (k : WW p l e R s m args below meth c Q B b n0 y dC dI cA q.1 q.2.1 q.2.2.1 q.2.2.2) : WW p l e R s m args below meth c Q B b n0 y dC dI cA pc L st σ := by
  intro H locs ls hR hl
  unfold sI at hs
  split at hs
  · rename_i v r
    split at hs
    · rename_i hx
      cases hs
      exact row hl.2 (by rw [← hl.1]; exact hx) fun ls' h' => k H locs ls' hR (lvL_st1 hl h')
    · cases hs
  · cases hs
theorem ww_stJ {pc x : Nat} {L st : List Value} {σ : Mm} {q : Nx} (pc' : Nat) (hs : sJ pc' L st σ x = some q)
    (row : ∀ {H : Heap} {locs : List Loc} {ls : Array Slot} {v : Int64} {r : List Value} {cells slots : Nat}, lv_has ls (mMx y) (prs B b L) → x + 1 < mMx y → (∀ ls' : Array Slot, lv_has ls' (mMx y) ((x, Value.long v) :: (prs B b L).filter (fun q => !(q.1 == x) && (!(q.1 == x + 1) && !(q.1 + 1 == x && q.2.category == 2)))) → W p l e R s m args below meth c H locs cells slots Q (F0 m pc' ls' r)) → W p l e R s m args below meth c H locs cells slots Q (F0 m pc ls (.long v :: r)))
    (k : WW p l e R s m args below meth c Q B b n0 y dC dI cA q.1 q.2.1 q.2.2.1 q.2.2.2) : WW p l e R s m args below meth c Q B b n0 y dC dI cA pc L st σ := by
  intro H locs ls hR hl
  unfold sJ at hs
  split at hs
  · rename_i v r
    split at hs
    · rename_i hx
      cases hs
      exact row hl.2 (by rw [← hl.1]; exact hx) fun ls' h' => k H locs ls' hR (lvL_st2 hl h')
    · cases hs
  · cases hs
theorem ww_stA {pc x : Nat} {L st : List Value} {σ : Mm} {q : Nx} (pc' : Nat) (hs : sA pc' L st σ x = some q)
    (row : ∀ {H : Heap} {locs : List Loc} {ls : Array Slot} {v : Nat} {r : List Value} {cells slots : Nat}, lv_has ls (mMx y) (prs B b L) → x < mMx y → (∀ ls' : Array Slot, lv_has ls' (mMx y) ((x, Value.ref v) :: (prs B b L).filter (fun q => !(q.1 == x) && !(q.1 + 1 == x && q.2.category == 2))) → W p l e R s m args below meth c H locs cells slots Q (F0 m pc' ls' r)) → W p l e R s m args below meth c H locs cells slots Q (F0 m pc ls (.ref v :: r)))
    (k : WW p l e R s m args below meth c Q B b n0 y dC dI cA q.1 q.2.1 q.2.2.1 q.2.2.2) : WW p l e R s m args below meth c Q B b n0 y dC dI cA pc L st σ := by
  intro H locs ls hR hl
  unfold sA at hs
  split at hs
  · rename_i v r
    split at hs
    · rename_i hx
      cases hs
      exact row (v := ra B b v) hl.2 (by rw [← hl.1]; exact hx) fun ls' h' => k H locs ls' hR (lvL_st1 (v := .ref v) hl h')
    · cases hs
  · cases hs
theorem ww_bin {pc : Nat} {L st : List Value} {σ : Mm} {q : Nx} {pc' : Nat} {f : Int32 → Int32 → Value} (hs : stO pc' L σ (pI2 f st) = some q)
    (row : ∀ {H : Heap} {locs : List Loc} {ls : Array Slot} {x z : Int32} {r : List Value} {cells slots : Nat}, W p l e R s m args below meth c H locs cells slots Q (F0 m pc' ls (rl B b (f x z) :: r)) → W p l e R s m args below meth c H locs cells slots Q (F0 m pc ls (.int z :: .int x :: r)))
    (k : WW p l e R s m args below meth c Q B b n0 y dC dI cA q.1 q.2.1 q.2.2.1 q.2.2.2) : WW p l e R s m args below meth c Q B b n0 y dC dI cA pc L st σ := by
  intro H locs ls hR hl
  obtain ⟨r, h1, rfl⟩ := stO_spec hs
  obtain ⟨x, z, t, rfl, rfl⟩ := pI2_spec h1
  exact row (k H locs ls hR hl)
theorem ww_binL {pc : Nat} {L st : List Value} {σ : Mm} {q : Nx} {pc' : Nat} {f : Int64 → Int64 → Value} (hs : stO pc' L σ (pJ2 f st) = some q)
    (row : ∀ {H : Heap} {locs : List Loc} {ls : Array Slot} {x z : Int64} {r : List Value} {cells slots : Nat}, W p l e R s m args below meth c H locs cells slots Q (F0 m pc' ls (rl B b (f x z) :: r)) → W p l e R s m args below meth c H locs cells slots Q (F0 m pc ls (.long z :: .long x :: r)))
    (k : WW p l e R s m args below meth c Q B b n0 y dC dI cA q.1 q.2.1 q.2.2.1 q.2.2.2) : WW p l e R s m args below meth c Q B b n0 y dC dI cA pc L st σ := by
  intro H locs ls hR hl
  obtain ⟨r, h1, rfl⟩ := stO_spec hs
  obtain ⟨x, z, t, rfl, rfl⟩ := pJ2_spec h1
  exact row (k H locs ls hR hl)
theorem ww_un {pc : Nat} {L st : List Value} {σ : Mm} {q : Nx} {pc' : Nat} {f : Int32 → Value} (hs : stO pc' L σ (pI1 f st) = some q)
    (row : ∀ {H : Heap} {locs : List Loc} {ls : Array Slot} {x : Int32} {r : List Value} {cells slots : Nat}, W p l e R s m args below meth c H locs cells slots Q (F0 m pc' ls (rl B b (f x) :: r)) → W p l e R s m args below meth c H locs cells slots Q (F0 m pc ls (.int x :: r)))
    (k : WW p l e R s m args below meth c Q B b n0 y dC dI cA q.1 q.2.1 q.2.2.1 q.2.2.2) : WW p l e R s m args below meth c Q B b n0 y dC dI cA pc L st σ := by
  intro H locs ls hR hl
  obtain ⟨r, h1, rfl⟩ := stO_spec hs
  obtain ⟨x, t, rfl, rfl⟩ := pI1_spec h1
  exact row (k H locs ls hR hl)
theorem ww_unL {pc : Nat} {L st : List Value} {σ : Mm} {q : Nx} {pc' : Nat} {f : Int64 → Value} (hs : stO pc' L σ (pJ1 f st) = some q)
    (row : ∀ {H : Heap} {locs : List Loc} {ls : Array Slot} {x : Int64} {r : List Value} {cells slots : Nat}, W p l e R s m args below meth c H locs cells slots Q (F0 m pc' ls (rl B b (f x) :: r)) → W p l e R s m args below meth c H locs cells slots Q (F0 m pc ls (.long x :: r)))
    (k : WW p l e R s m args below meth c Q B b n0 y dC dI cA q.1 q.2.1 q.2.2.1 q.2.2.2) : WW p l e R s m args below meth c Q B b n0 y dC dI cA pc L st σ := by
  intro H locs ls hR hl
  obtain ⟨r, h1, rfl⟩ := stO_spec hs
  obtain ⟨x, t, rfl, rfl⟩ := pJ1_spec h1
  exact row (k H locs ls hR hl)
theorem ww_if {pc : Nat} {cn : ClassFile.Cond} {off : Int} {L st : List Value} {σ : Mm} {q : Nx} (C : Cx p R s m args meth c y B b n0 dC dI cA) (hd : decode (mCode y) pc = .ok (.ifCond cn off, 3)) (hs : sIf cn off pc L st σ = some q)
    (k : WW p l e R s m args below meth c Q B b n0 y dC dI cA q.1 q.2.1 q.2.2.1 q.2.2.2) : WW p l e R s m args below meth c Q B b n0 y dC dI cA pc L st σ := by
  intro H locs ls hR hl
  obtain ⟨hx, hb, -⟩ := C
  unfold sIf at hs
  split at hs
  · rename_i x r
    obtain ⟨t, ht, e1⟩ := Option.map_eq_some_iff.mp hs
    cases e1
    have ht := tgt_spec ht
    have kk := k H locs ls hR hl
    show W p l e R s m args below meth c H locs _ _ Q (F0 m pc ls (.int x :: r.map (rl B b)))
    cases cn <;> simp only [cnd, decide_eq_true_eq] at kk
    · exact lv_if_eq hx hb hd ht (fun h => by rw [if_pos h] at kk; exact kk) (fun h => by rw [if_neg h] at kk; exact kk)
    · exact lv_if_ne hx hb hd ht (fun h => by rw [if_pos h] at kk; exact kk) (fun h => by rw [if_neg (fun q => q h)] at kk; exact kk)
    · exact lv_if_lt hx hb hd ht (fun h => by rw [if_pos h] at kk; exact kk) (fun h => by rw [if_neg h] at kk; exact kk)
    · exact lv_if_ge hx hb hd ht (fun h => by rw [if_pos h] at kk; exact kk) (fun h => by rw [if_neg h] at kk; exact kk)
    · exact lv_if_gt hx hb hd ht (fun h => by rw [if_pos h] at kk; exact kk) (fun h => by rw [if_neg h] at kk; exact kk)
    · exact lv_if_le hx hb hd ht (fun h => by rw [if_pos h] at kk; exact kk) (fun h => by rw [if_neg h] at kk; exact kk)
  · cases hs
theorem ww_ic {pc : Nat} {cn : ClassFile.Cond} {off : Int} {L st : List Value} {σ : Mm} {q : Nx} (C : Cx p R s m args meth c y B b n0 dC dI cA) (hd : decode (mCode y) pc = .ok (.if_icmp cn off, 3)) (hs : sIc cn off pc L st σ = some q)
    (k : WW p l e R s m args below meth c Q B b n0 y dC dI cA q.1 q.2.1 q.2.2.1 q.2.2.2) : WW p l e R s m args below meth c Q B b n0 y dC dI cA pc L st σ := by
  intro H locs ls hR hl
  obtain ⟨hx, hb, -⟩ := C
  unfold sIc at hs
  split at hs
  · rename_i z x r
    obtain ⟨t, ht, e1⟩ := Option.map_eq_some_iff.mp hs
    cases e1
    have ht := tgt_spec ht
    have kk := k H locs ls hR hl
    show W p l e R s m args below meth c H locs _ _ Q (F0 m pc ls (.int z :: .int x :: r.map (rl B b)))
    cases cn <;> simp only [cnd, decide_eq_true_eq] at kk
    · exact lv_icmp_eq hx hb hd ht (fun h => by rw [if_pos h] at kk; exact kk) (fun h => by rw [if_neg h] at kk; exact kk)
    · exact lv_icmp_ne hx hb hd ht (fun h => by rw [if_pos h] at kk; exact kk) (fun h => by rw [if_neg (fun q => q h)] at kk; exact kk)
    · exact lv_icmp_lt hx hb hd ht (fun h => by rw [if_pos h] at kk; exact kk) (fun h => by rw [if_neg h] at kk; exact kk)
    · exact lv_icmp_ge hx hb hd ht (fun h => by rw [if_pos h] at kk; exact kk) (fun h => by rw [if_neg h] at kk; exact kk)
    · exact lv_icmp_gt hx hb hd ht (fun h => by rw [if_pos h] at kk; exact kk) (fun h => by rw [if_neg h] at kk; exact kk)
    · exact lv_icmp_le hx hb hd ht (fun h => by rw [if_pos h] at kk; exact kk) (fun h => by rw [if_neg h] at kk; exact kk)
  · cases hs
theorem ww_stp {pc len : Nat} {i : Instr} {L st : List Value} {σ : Mm} {q : Nx} (C : Cx p R s m args meth c y B b n0 dC dI cA) (hd : decode (mCode y) pc = .ok (i, len)) (hs : stp y i pc len L st σ = some q) (hrm : q.2.2.2.2.2.2.1 - n0 ≤ R.cells ∧ slN q.2.2.2.2.2.2.1 - slN n0 ≤ R.slots)
    (k : WW p l e R s m args below meth c Q B b n0 y dC dI cA q.1 q.2.1 q.2.2.1 q.2.2.2) : WW p l e R s m args below meth c Q B b n0 y dC dI cA pc L st σ := by
  have hx := C.1
  have hb := C.2.1
  have hown := C.2.2.2.1
  have hts := C.2.2.2.2.1
  unfold stp at hs
  split at hs
  rotate_left
  · cases hs
  rename_i hln
  cases i
  case iconst n => have e1 : len = 1 := by simpa [lnO] using hln
                   subst e1; cases hs; intro H locs ls hR hl; exact lv_iconst hx hb hd rfl (k H locs ls hR hl)
  case bipush n => have e1 : len = 2 := by simpa [lnO] using hln
                   subst e1; cases hs; intro H locs ls hR hl; exact lv_bipush hx hb hd rfl (k H locs ls hR hl)
  case sipush n => have e1 : len = 3 := by simpa [lnO] using hln
                   subst e1; cases hs; intro H locs ls hR hl; exact lv_sipush hx hb hd rfl (k H locs ls hR hl)
  case lconst n => have e1 : len = 1 := by simpa [lnO] using hln
                   subst e1; cases hs; intro H locs ls hR hl; exact lv_lconst hx hb hd rfl (k H locs ls hR hl)
  case ldc x => have e1 : len = 2 := by simpa [lnO] using hln
                subst e1; obtain ⟨v, hv, e2⟩ := Option.map_eq_some_iff.mp hs
                cases e2; intro H locs ls hR hl; exact W.ldc hx hb hown (hts _ (kI_ok hv)) rfl hd (k H locs ls hR hl)
  case ldc_w x => have e1 : len = 3 := by simpa [lnO] using hln
                  subst e1; obtain ⟨v, hv, e2⟩ := Option.map_eq_some_iff.mp hs
                  cases e2; intro H locs ls hR hl; exact lv_ldcw hx hb hown (hts _ (kI_ok hv)) hd (k H locs ls hR hl)
  case ldc2_w x => have e1 : len = 3 := by simpa [lnO] using hln
                   subst e1; obtain ⟨v, hv, e2⟩ := Option.map_eq_some_iff.mp hs
                   cases e2; intro H locs ls hR hl; exact W.ldc2 hx hb hown (hts _ (kL_ok hv)) rfl hd (k H locs ls hR hl)
  case iload x => have e1 : len = 2 := by simpa [lnO] using hln
                  subst e1; obtain ⟨v, hv, e2⟩ := Option.map_eq_some_iff.mp hs
                  cases e2; intro H locs ls hR hl; exact lv_iload hx hb hd (hl.get (ldI_spec hv) rfl) (k H locs ls hR hl)
  case iload_n x => have e1 : len = 1 := by simpa [lnO] using hln
                    subst e1; obtain ⟨v, hv, e2⟩ := Option.map_eq_some_iff.mp hs
                    cases e2; intro H locs ls hR hl; exact lv_iload_n hx hb hd rfl (hl.get (ldI_spec hv) rfl) (k H locs ls hR hl)
  case lload x => have e1 : len = 2 := by simpa [lnO] using hln
                  subst e1; obtain ⟨v, hv, e2⟩ := Option.map_eq_some_iff.mp hs
                  cases e2; intro H locs ls hR hl; exact lv_lload hx hb hd (hl.get (ldJ_spec hv) rfl) (k H locs ls hR hl)
  case lload_n x => have e1 : len = 1 := by simpa [lnO] using hln
                    subst e1; obtain ⟨v, hv, e2⟩ := Option.map_eq_some_iff.mp hs
                    cases e2; intro H locs ls hR hl; exact lv_lload_n hx hb hd rfl (hl.get (ldJ_spec hv) rfl) (k H locs ls hR hl)
  case aload x => have e1 : len = 2 := by simpa [lnO] using hln
                  subst e1; obtain ⟨v, hv, e2⟩ := Option.map_eq_some_iff.mp hs
                  cases e2; intro H locs ls hR hl; exact lv_aload hx hb hd (hl.get (ldA_spec hv) rfl) (k H locs ls hR hl)
  case aload_n x => have e1 : len = 1 := by simpa [lnO] using hln
                    subst e1; obtain ⟨v, hv, e2⟩ := Option.map_eq_some_iff.mp hs
                    cases e2; intro H locs ls hR hl; exact lv_aload_n hx hb hd rfl (hl.get (ldA_spec hv) rfl) (k H locs ls hR hl)
  case istore x => have e1 : len = 2 := by simpa [lnO] using hln
                   subst e1; exact ww_stI (pc + 2) hs (fun h1 h2 h3 => lv_istore hx hb hd h1 h2 rfl h3) k
  case istore_n x => have e1 : len = 1 := by simpa [lnO] using hln
                     subst e1; exact ww_stI (pc + 1) hs (fun h1 h2 h3 => lv_istore_n hx hb hd rfl h1 h2 rfl h3) k
  case lstore x => have e1 : len = 2 := by simpa [lnO] using hln
                   subst e1; exact ww_stJ (pc + 2) hs (fun h1 h2 h3 => lv_lstore hx hb hd h1 h2 rfl h3) k
  case lstore_n x => have e1 : len = 1 := by simpa [lnO] using hln
                     subst e1; exact ww_stJ (pc + 1) hs (fun h1 h2 h3 => lv_lstore_n hx hb hd rfl h1 h2 rfl h3) k
  case astore x => have e1 : len = 2 := by simpa [lnO] using hln
                   subst e1; exact ww_stA (pc + 2) hs (fun h1 h2 h3 => lv_astore hx hb hd h1 h2 rfl h3) k
  case astore_n x => have e1 : len = 1 := by simpa [lnO] using hln
                     subst e1; exact ww_stA (pc + 1) hs (fun h1 h2 h3 => lv_astore_n hx hb hd rfl h1 h2 rfl h3) k
  case iinc x kk => change sInc x kk (pc + len) L st σ = some q at hs
                    intro H locs ls hR hl
                    unfold sInc at hs
                    split at hs
                    · rename_i v hv
                      split at hs
                      · rename_i hxl
                        cases hs
                        exact lv_iinc' hx hb hd hl.2 (hl.get (ldI_spec hv) rfl) (by rw [← hl.1]; exact hxl) fun ls' h' => k H locs ls' hR (lvL_st1 (v := .int (v + Int32.ofInt kk)) hl h')
                      · cases hs
                    · cases hs
  case iadd => have e1 : len = 1 := by simpa [lnO] using hln
               subst e1; exact ww_bin hs (fun h => lv_iadd hx hb hd h) k
  case isub => have e1 : len = 1 := by simpa [lnO] using hln
               subst e1; exact ww_bin hs (fun h => lv_isub hx hb hd h) k
  case imul => have e1 : len = 1 := by simpa [lnO] using hln
               subst e1; exact ww_bin hs (fun h => lv_imul hx hb hd h) k
  case iand => have e1 : len = 1 := by simpa [lnO] using hln
               subst e1; exact ww_bin hs (fun h => lv_iand hx hb hd h) k
  case ior => have e1 : len = 1 := by simpa [lnO] using hln
              subst e1; exact ww_bin hs (fun h => lv_ior hx hb hd h) k
  case ixor => have e1 : len = 1 := by simpa [lnO] using hln
               subst e1; exact ww_bin hs (fun h => lv_ixor hx hb hd h) k
  case ishl => have e1 : len = 1 := by simpa [lnO] using hln
               subst e1; exact ww_bin hs (fun h => lv_ishl hx hb hd h) k
  case ishr => have e1 : len = 1 := by simpa [lnO] using hln
               subst e1; exact ww_bin hs (fun h => lv_ishr hx hb hd h) k
  case iushr => have e1 : len = 1 := by simpa [lnO] using hln
                subst e1; exact ww_bin hs (fun h => lv_iushr hx hb hd rfl h) k
  case idiv => have e1 : len = 1 := by simpa [lnO] using hln
               subst e1; intro H locs ls hR hl
               obtain ⟨r, h1, rfl⟩ := stO_spec hs
               obtain ⟨x, z, t, h0, rfl, rfl⟩ := pD2_spec h1
               exact lv_idiv hx hb hd h0 (k H locs ls hR hl)
  case irem => have e1 : len = 1 := by simpa [lnO] using hln
               subst e1; intro H locs ls hR hl
               obtain ⟨r, h1, rfl⟩ := stO_spec hs
               obtain ⟨x, z, t, h0, rfl, rfl⟩ := pD2_spec h1
               exact lv_irem hx hb hd h0 (k H locs ls hR hl)
  case ineg => have e1 : len = 1 := by simpa [lnO] using hln
               subst e1; exact ww_un hs (fun h => lv_ineg hx hb hd h) k
  case i2l => have e1 : len = 1 := by simpa [lnO] using hln
              subst e1; exact ww_un hs (fun h => lv_i2l hx hb hd rfl h) k
  case l2i => have e1 : len = 1 := by simpa [lnO] using hln
              subst e1; exact ww_unL hs (fun h => lv_l2i hx hb hd rfl h) k
  case ladd => have e1 : len = 1 := by simpa [lnO] using hln
               subst e1; exact ww_binL hs (fun h => lv_ladd hx hb hd h) k
  case lsub => have e1 : len = 1 := by simpa [lnO] using hln
               subst e1; exact ww_binL hs (fun h => lv_lsub hx hb hd h) k
  case lmul => have e1 : len = 1 := by simpa [lnO] using hln
               subst e1; exact ww_binL hs (fun h => lv_lmul hx hb hd h) k
  case ldiv => have e1 : len = 1 := by simpa [lnO] using hln
               subst e1; intro H locs ls hR hl
               obtain ⟨r, h1, rfl⟩ := stO_spec hs
               obtain ⟨x, z, t, h0, rfl, rfl⟩ := pE2_spec h1
               exact lv_ldiv hx hb hd h0 (k H locs ls hR hl)
  case lneg => have e1 : len = 1 := by simpa [lnO] using hln
               subst e1; exact ww_unL hs (fun h => lv_lneg hx hb hd h) k
  case lshr => have e1 : len = 1 := by simpa [lnO] using hln
               subst e1; intro H locs ls hR hl
               obtain ⟨r, h1, rfl⟩ := stO_spec hs
               obtain ⟨x, z, t, rfl, rfl⟩ := pS2_spec h1
               exact lv_lshr hx hb hd rfl (k H locs ls hR hl)
  case lcmp => have e1 : len = 1 := by simpa [lnO] using hln
               subst e1; exact ww_binL hs (fun h => W.lcmp hx hb hd h) k
  case dup => have e1 : len = 1 := by simpa [lnO] using hln
              subst e1; intro H locs ls hR hl
              change sDup (pc + 1) L st σ = some q at hs
              unfold sDup at hs
              split at hs
              · split at hs
                · rename_i hc
                  cases hs
                  exact lv_dup hx hb hd (by rw [rl_cat]; exact hc) (k H locs ls hR hl)
                · cases hs
              · cases hs
  case dup2 => have e1 : len = 1 := by simpa [lnO] using hln
               subst e1; intro H locs ls hR hl
               change sDup2 (pc + 1) L st σ = some q at hs
               unfold sDup2 at hs
               split at hs
               · split at hs
                 · rename_i hc
                   cases hs
                   exact lv_dup2_11 hx hb hd (by rw [rl_cat]; exact hc.1) (by rw [rl_cat]; exact hc.2) (k H locs ls hR hl)
                 · cases hs
               · cases hs
  case pop => have e1 : len = 1 := by simpa [lnO] using hln
              subst e1; intro H locs ls hR hl
              change sPop (pc + 1) L st σ = some q at hs
              unfold sPop at hs
              split at hs
              · split at hs
                · rename_i hc
                  cases hs
                  exact lv_pop hx hb hd (by rw [rl_cat]; exact hc) (k H locs ls hR hl)
                · cases hs
              · cases hs
  case getfield x => have e1 : len = 3 := by simpa [lnO] using hln
                     subst e1; exact ww_get (len := 3) C hd hs k
  case putfield x => have e1 : len = 3 := by simpa [lnO] using hln
                     subst e1; exact ww_put C hd hs k
  case iaload => have e1 : len = 1 := by simpa [lnO] using hln
                 subst e1; exact ww_ild C hd hs k
  case iastore => have e1 : len = 1 := by simpa [lnO] using hln
                  subst e1; exact ww_ist C hd hs k
  case laload => have e1 : len = 1 := by simpa [lnO] using hln
                 subst e1; exact ww_jld C hd hs k
  case lastore => have e1 : len = 1 := by simpa [lnO] using hln
                  subst e1; exact ww_jst C hd hs k
  case aaload => have e1 : len = 1 := by simpa [lnO] using hln
                 subst e1; exact ww_ald C hd hs k
  case aastore => have e1 : len = 1 := by simpa [lnO] using hln
                  subst e1; exact ww_ast C hd hs k
  case arraylength => have e1 : len = 1 := by simpa [lnO] using hln
                      subst e1; exact ww_len C hd hs k
  case newarray t => have e1 : len = 2 := by simpa [lnO] using hln
                     subst e1
                     cases t <;> first | (exact ww_nrI C hd hs hrm k) | (exact ww_nrJ C hd hs hrm k) | (cases hs)
  case anewarray x => have e1 : len = 3 := by simpa [lnO] using hln
                      subst e1; exact ww_ana C hd hs hrm k
  case new x => have e1 : len = 3 := by simpa [lnO] using hln
                subst e1; exact ww_new C hd hs hrm k
  case goto off => have e1 : len = 3 := by simpa [lnO] using hln
                   subst e1; intro H locs ls hR hl
                   obtain ⟨t, ht, e1⟩ := Option.map_eq_some_iff.mp (show jmpN y pc off L st σ = some q from hs)
                   cases e1
                   exact lv_goto hx hb hd (tgt_spec ht) (k H locs ls hR (lvL_clr _ hl))
  case ifCond cn off => have e1 : len = 3 := by simpa [lnO] using hln
                        subst e1; exact ww_if C hd hs k
  case if_icmp cn off => have e1 : len = 3 := by simpa [lnO] using hln
                         subst e1; exact ww_ic C hd hs k
  case tableswitch d lo hi offs => intro H locs ls hR hl
                                   change sSw d lo hi offs pc L st σ = some q at hs
                                   unfold sSw at hs
                                   split at hs
                                   · split at hs
                                     · rename_i hc
                                       obtain ⟨t, ht, rfl⟩ := jmp_spec hs
                                       exact lv_tableOut hx hb hd hc ht (k H locs ls hR hl)
                                     · rename_i hc
                                       split at hs
                                       · rename_i off ho
                                         obtain ⟨t, ht, rfl⟩ := jmp_spec hs
                                         exact lv_tableIn hx hb hd (fun q => hc (Or.inl q)) (fun q => hc (Or.inr q)) ho ht (k H locs ls hR hl)
                                       · cases hs
                                   · cases hs
  all_goals cases hs
end STP4
