/-! ANY RUN of the abstract machine is a run of the machine -/
def rmD (d mc ms : Nat) : Room := { frames := d, cells := mc, slots := ms, locals := 60 * d }
def wsY (y : Nat) : List Jvm.Cond := codeW y :: lw_gd
theorem codeW_gd {y : Nat} (h : y < 309) : codeW y ∈ lw_gd := gdL (cd_ok y h) rfl
theorem gd_in {w : Jvm.Cond} (h : w ∈ lw_gd) : w ∈ lw_gd ∧ ((w.onTables && w.keeps) = true ∨ ∃ ty, w = .arrayClass ty) := ⟨h, good_of_word (List.mem_filter.mp h).2⟩
theorem wsY_in {y : Nat} (h : y < 309) : ∀ w ∈ wsY y, w ∈ lw_gd ∧ ((w.onTables && w.keeps) = true ∨ ∃ ty, w = .arrayClass ty) := by
  intro w hw
  rcases List.mem_cons.mp hw with rfl | hw
  · exact gd_in (codeW_gd h)
  · exact gd_in hw
def PcY (B b : Nat) (dC : Nat → ClassId) (dI : Nat → Nat → Nat) (cA : Nat → ClassId) (as : List Value) (σ : Mm) : Array Value → State → Prop := fun v U =>
  v = (as.map (rl B b)).toArray ∧ U.heap.size = B + σ.2.2.2.1 ∧ va_P (dC, dI) clsV (wld B b cA σ) U.heap ∧ va_X b σ.2.2.2.2 (σ.1 0) U U.heap ∧ KX dC dI cA U
def QcY (B b : Nat) (dC : Nat → ClassId) (dI : Nat → Nat → Nat) (cA : Nat → ClassId) (r : Option Value) (σ' : Mm) : Array Value → State → Outcome → State → Prop := fun _ st o t =>
  o = .returned (r.map (rl B b)) ∧ va_P (dC, dI) clsV (wld B b cA σ') t.heap ∧ va_F (AA B) st t
theorem PcY_blind {B b : Nat} {dC : Nat → ClassId} {dI : Nat → Nat → Nat} {cA : Nat → ClassId} {as : List Value} {σ : Mm} : FrameBlind (PcY B b dC dI cA as σ) := by
  intro a U g mk h
  obtain ⟨h1, h2, h3, h4, h5⟩ := h
  exact ⟨h1, h2, h3, va_X.moved (Vm.Alike.refl U.vm) h4, KX.warm (s := U) (U := U.calling g mk a) (State.WarmedH.refl U) h5⟩
def RunP (l : Launch) (n : Nat) : Prop := ∀ (p : Program) (e : Env) (R : Room) (s : State) (m : MethodId) (args : Array Value) (below : List Frame) (meth : Method) (c : Code) (Q : State → Prop) (B b n0 : Nat) (dC : Nat → ClassId) (dI : Nat → Nat → Nat) (cA : Nat → ClassId) (d y pc : Nat) (L st : List Value) (σ : Mm) (r : Option Value) (σ' : Mm),
  irun n d y pc L st σ = some (r, σ') → Cx p R s m args meth c y B b n0 dC dI cA → d ≤ R.frames → 60 * d ≤ R.locals → σ'.2.2.2.1 - n0 ≤ R.cells → slN σ'.2.2.2.1 - slN n0 ≤ R.slots →
  (∀ (pc : Nat) (L st : List Value) (i : Instr) (len : Nat), decode (mCode y) pc = .ok (i, len) → rtV y i len st = some r → WW p l e R s m args below meth c Q B b n0 y dC dI cA pc L st σ') →
  WW p l e R s m args below meth c Q B b n0 y dC dI cA pc L st σ
theorem m1 {y : Nat} (h : y < 309) : (mName y).cls = cName (mOw y) ∧ (mKd y = 1 → Jvm.Cond.static (mName y) ∈ lw_gd) ∧ (mKd y ≠ 1 → Jvm.Cond.instanceMethod (mName y) ∈ lw_gd) ∧ (mKd y = 0 → Jvm.Cond.selects (mName y).cls (mName y) (mName y) ∈ lw_gd) ∧ Jvm.Cond.initialized (mName y).cls ∈ lw_gd := by
  have h1 := chkM1_ok y h
  unfold chkM1 at h1
  simp only [Bool.and_eq_true, decide_eq_true_eq] at h1
  obtain ⟨⟨⟨a1, a2⟩, a3⟩, a4⟩ := h1
  refine ⟨a1, fun q => ?_, fun q => ?_, fun q => ?_, gdL (atW_mem a4) rfl⟩
  · rw [if_pos q] at a2
    exact gdL (atW_mem a2) rfl
  · rw [if_neg q] at a2
    exact gdL (atW_mem a2) rfl
  · rw [if_pos q] at a3
    exact gdL (atW_mem a3) rfl
theorem m2 {y : Nat} (h : y < 309) : ((mName y).cls ≠ "java/lang/invoke/MethodHandle" ∧ (mName y).cls ≠ "java/lang/invoke/VarHandle" ∧ (parseMethodDescriptor (mName y).desc).map (fun d => d.parameters.length) = some (mNp y)) ∧ Jvm.plainName (mName y).cls = true ∧ (mKd y = 2 → (mName y).name = "<init>" ∧ mRt y = none) ∧ mMx y ≤ 40 ∧ mOw y < 16 := by
  have h1 := chkM2_ok y h
  unfold chkM2 at h1
  simp only [Bool.and_eq_true, decide_eq_true_eq] at h1
  obtain ⟨⟨⟨⟨⟨a1, a2⟩, a3⟩, a4⟩, a5⟩, a6⟩ := h1
  exact ⟨a1, a2, a3, a4, a6⟩
section RUNS
variable {p : Program} {l : Launch} {e : Env} {R : Room} {s : State} {m : MethodId} {args : Array Value} {below : List Frame} {meth : Method} {c : Code} {Q : State → Prop}
variable {B b n0 y : Nat} {dC : Nat → ClassId} {dI : Nat → Nat → Nat} {cA : Nat → ClassId}
/-- the end of a method -/
theorem ww_ret {pc len mc ms : Nat} {i : Instr} {L st : List Value} {σ : Mm} {r : Option Value} (C : Cx p R s m args meth c y B b n0 dC dI cA) (hd : decode (mCode y) pc = .ok (i, len)) (hs : rtV y i len st = some r) (hmc : σ.2.2.2.1 - n0 = mc) (hms : slN σ.2.2.2.1 - slN n0 = ms) :
    WW p l e R s m args below meth c (MQ below (QcY B b dC dI cA r σ) args s mc ms (AA B)) B b n0 y dC dI cA pc L st σ := by
  intro H locs ls hR hl
  obtain ⟨hx, hb, hml, hown, hts, hK, hr, hlk, hin, hsz, hbB⟩ := C
  subst hmc; subst hms
  have hq : ∀ t : State, t.heap = H → s.WarmedH t.vm → QcY B b dC dI cA r σ args s (.returned (r.map (rl B b))) t := fun t ht hW => ⟨rfl, by rw [ht]; exact hR.1, hR.2.1.F ht⟩
  unfold rtV at hs
  split at hs
  · rename_i hl1
    subst hl1
    split at hs
    · rename_i v
      split at hs
      · rename_i hc
        cases hs
        rcases hc with hc | ⟨hc, hv⟩
        · exact W.iret hx hb (by rw [hr, hc]) hq hR.2.1.2.2 hd
        · exact W.zret (ty := .boolean) hx hb (by rw [hr, hc]) (by rcases hv with rfl | rfl <;> decide) hq hR.2.1.2.2 hd
      · cases hs
    · split at hs
      · rename_i hc
        cases hs
        exact W.lret hx hb (by rw [hr, hc]) hq hR.2.1.2.2 hd
      · cases hs
    · rename_i a
      split at hs
      · rename_i hc
        cases hs
        cases hm : mRt y with
        | none => rw [hm] at hc; cases hc
        | some t =>
          cases t <;> rw [hm] at hc <;> first | cases hc | skip
          rename_i nm
          exact W.aret (rt := .object nm) hx hb (by rw [hr, hm]) (Or.inl ⟨_, rfl⟩) (Or.inr ⟨_, rfl⟩) hq hR.2.1.2.2 hd
      · cases hs
    · split at hs
      · rename_i hc
        cases hs
        exact W.vret hx hb (by rw [hr, hc]) hq hR.2.1.2.2 hd
      · cases hs
    · cases hs
  · cases hs
theorem met_of_run {n d z : Nat} {as : List Value} {σ σ' : Mm} {r : Option Value} (ih : RunP l n) (hz : z < 309) (hf : (flt as).length ≤ mMx z) (h : irun n d z 0 (enL z as) [] σ = some (r, σ')) (hN : σ.2.2.2.1 ≤ NT) (hbB : b < B) :
    Met l (mName z) (wsY z) (rmD d (σ'.2.2.2.1 - σ.2.2.2.1) (slN σ'.2.2.2.1 - slN σ.2.2.2.1)) (PcY B b dC dI cA as σ) (QcY B b dC dI cA r σ') (σ'.2.2.2.1 - σ.2.2.2.1) (slN σ'.2.2.2.1 - slN σ.2.2.2.1) (AA B) := by
  refine Met.ofW (cc := mCode z) (maxL := mMx z) (ret := mRt z) (m2 hz).2.1 rfl ?_
  intro p e s m args below meth c s₁ BB hml hv
  obtain ⟨rfl, hsz, hP, hX, hK⟩ := hv
  have hts := atoms_spec (ws := wsY z) BB.pre
  have hown : s.vm.findClass (cName (mOw z)) = some m.cls := by rw [← (m1 hz).1]; exact findClass_of_methodNamed BB.named
  have hnm : mKd z = 2 → meth.name = "<init>" := fun q => by rw [← ((m2 hz).2.2.1 q).1]; exact (name_of_methodNamed BB.named BB.method).1
  have C : Cx p (rmD d (σ'.2.2.2.1 - σ.2.2.2.1) (slN σ'.2.2.2.1 - slN σ.2.2.2.1)) s m (as.map (rl B b)).toArray meth c z B b σ.2.2.2.1 dC dI cA := ⟨BB.exec, BB.bytes, hml, hown, fun w hw => hts w (List.mem_cons_of_mem _ hw), hK, BB.returns, BB.notSynchronized, hnm, hsz, hbB⟩
  have hW := ih p e (rmD d (σ'.2.2.2.1 - σ.2.2.2.1) (slN σ'.2.2.2.1 - slN σ.2.2.2.1)) s m (as.map (rl B b)).toArray below meth c (MQ below (QcY B b dC dI cA r σ') (as.map (rl B b)).toArray s (σ'.2.2.2.1 - σ.2.2.2.1) (slN σ'.2.2.2.1 - slN σ.2.2.2.1) (AA B)) B b σ.2.2.2.1 dC dI cA d z 0 (enL z as) [] σ r σ' h C (Nat.le_refl _) (Nat.le_refl _) (Nat.le_refl _) (Nat.le_refl _) (fun pc L st i len hd hs => ww_ret C hd hs rfl rfl) s.heap [] _ ⟨hP, va_S.rf, hX, Nat.le_refl _, hN⟩ (en_lvL hf)
  rw [Nat.sub_self, Nat.sub_self] at hW
  rw [lg_entry_eq]
  exact hW
/-- behind a call -/
theorem ww_back {pc z : Nat} {L st rest : List Value} {σ σ' : Mm} {r : Option Value} {H : Heap} {locs : List Loc} {ls : Array Slot} {a : Array Value} (hI : Inv0 σ σ') (hR : Rl B b dC dI cA s n0 σ H locs) (hl : lvL B b ls (mMx y) L)
    (hrun : va_Run p l e R s m args below meth c H locs (σ.2.2.2.1 - n0) (slN σ.2.2.2.1 - slN n0) (σ'.2.2.2.1 - σ.2.2.2.1) (slN σ'.2.2.2.1 - slN σ.2.2.2.1) (F0 m pc ls (st.map (rl B b))) (rest.map (rl B b)) (QcY B b dC dI cA r σ' a) (AA B))
    (k : WW p l e R s m args below meth c Q B b n0 y dC dI cA (pc + 3) L (r.toList ++ rest) σ') : W p l e R s m args below meth c H locs (σ.2.2.2.1 - n0) (slN σ.2.2.2.1 - slN n0) Q (F0 m pc ls (st.map (rl B b))) := by
  intro T hT X
  obtain ⟨v, st₀, t, T', Lc, h0, X', hL, e1, e2, ⟨hv, hP, hF⟩, hgo⟩ := hrun T hT X
  have hv : v = r.map (rl B b) := Outcome.returned.inj hv
  subst hv
  have hn0 := hR.2.2.2.1
  have e3 : σ.2.2.2.1 - n0 + (σ'.2.2.2.1 - σ.2.2.2.1) = σ'.2.2.2.1 - n0 := by have := hI.1; omega
  have e4 : slN σ.2.2.2.1 - slN n0 + (slN σ'.2.2.2.1 - slN σ.2.2.2.1) = slN σ'.2.2.2.1 - slN n0 := by
    have h1 := slN_le hn0
    have h2 := slN_le hI.1
    omega
  rw [e3, e4] at X'
  have hR' : Rl B b dC dI cA s n0 σ' T'.heap (locs ++ Lc) := by
    refine ⟨by rw [e1]; exact hP, ⟨?_, fun q h1 h2 => ?_, fun x hx => ?_⟩, ?_, Nat.le_trans hn0 hI.1, hI.2.2.2 hR.2.2.2.2⟩
    · rw [e1]
      exact Nat.le_trans hR.2.1.1 (by rw [← h0]; exact hF.1)
    · rw [e1, hF.2 q (by rw [h0]; exact Nat.lt_of_lt_of_le h1 hR.2.1.1) h2, h0]
      exact hR.2.1.2.1 q h1 h2
    · rcases List.mem_append.mp hx with hx | hx
      · exact hR.2.1.2.2 x hx
      · exact hL x hx
    · rw [hI.2.1, hI.2.2.1]
      exact hR.2.2.1
  obtain ⟨t2, a1, b1⟩ := k T'.heap (locs ++ Lc) ls hR' hl T' rfl X'
  refine ⟨t2, hgo t2 ?_, b1⟩
  have e5 : (r.toList ++ rest).map (rl B b) = (r.map (rl B b)).toList ++ rest.map (rl B b) := by cases r <;> simp
  rw [e5] at a1
  exact a1
end RUNS
