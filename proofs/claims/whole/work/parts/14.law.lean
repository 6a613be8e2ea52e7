-- ===== end of PART A; then your names; then what follows =====
/-! THE CLAIM OUT OF ONE WALK OF THE LAW'S BODY. Your part is whole_start (and what it stands on); all else here is the same for every law, but numbers. -/
def R_law : String := "PoleSetsLaw"
def lw_P (b : Addr) (xs : List Int32) (args : Array Value) (s : State) : Prop := args = #[.ref b] ∧ s.IntsAt b xs ∧ xs.length ≤ 3584 ∧ (Jvm.Cond.and given_1 narrow_1).before args s = true
def lw_Q (_ : Array Value) (s : State) (o : Outcome) (t : State) : Prop := o = .returned (some (.int 1)) ∧ Framed s o t [] 600000 7302250
def lw_Z (below : List Frame) (a : Array Value) (s : State) : State → Prop := fun t => ∃ o, t.status = .running ∧ Ended t below o ∧ lw_Q a s o t
/-- the law's own end, with 1 on the stack, nothing written that was there before, its room as the claim has it -/
theorem lw_ret {p : Program} {l : Launch} {e : Env} {s : State} {m : MethodId} {below : List Frame} {meth : Method} {c : Code} {b : Nat} (hx : p.tables.exec = Jvm.exec) (hb : c.code = code) (hr : meth.sig.returnType = ret) (hlocks : meth.locks = false) {pc : Nat} {H : Heap} {ls : Array Slot} (hdg : decode code pc = .ok (.ireturn, 1)) : W p l e room_1 s m #[Value.ref b] below meth c H [] 600000 7302250 (lw_Z below #[Value.ref b] s) (F0 m pc ls [.int 1]) := by
  intro T hT X
  obtain ⟨fs, hret, hrun, hended, hW, hframe⟩ := X.leave (v := some (.int 1)) (hlocks := hlocks) (fun h => by rw [hr] at h; cases h)
  have hmeth' : T.vm.method? m = some meth := X.method'
  refine ⟨T.setFrames fs, ?_, .returned (some (.int 1)), hrun, hended, rfl, ⟨_, rfl⟩, hW, hframe⟩
  jvm_step X.here [X.here.top, hx, hb, hdg, hmeth', hr, ret, narrow_b1]
  (try refine ⟨rfl, ?_⟩); (try refine ⟨rfl, ?_⟩)
  first | (intro acts; rw [hret _ acts rfl rfl rfl]) | rw [hret _ _ rfl rfl rfl]
  exact Steps.refl _
/-- what holds at the law's entry: the machine, the code, the tables' words (any of lw_tbl by 'hts w (by decide +kernel)'), the script of L ints xs at the cell b, what the Statement gives of the start (any of its parts by flat_of_before) -/
def lw_At (p : Program) (s : State) (m : MethodId) (meth : Method) (c : Code) (b L : Nat) (xs : Nat → Int32) : Prop :=
  p.tables.exec = Jvm.exec ∧ c.code = code ∧ meth.sig.returnType = ret ∧ c.maxLocals = 4 ∧ s.vm.findClass R_law = some m.cls ∧ (∀ w ∈ lw_tbl, w.before #[Value.ref b] s = true) ∧ va_X b L xs s s.heap ∧ b < s.heap.size ∧ meth.locks = false ∧ (Jvm.Cond.and given_1 narrow_1).before #[Value.ref b] s = true
/-! the law's run on the abstract machine gives the claim -/
def sg0 (L : Nat) (xs : Nat → Int32) : Mm := (fun a k => if a = 0 then xs k else 0, fun _ _ => 0, fun _ _ => none, 0, L)
theorem gd_sub {w : Jvm.Cond} (h : w ∈ lw_gd) : w ∈ lw_tbl := (List.mem_filter.mp h).1
theorem nest_tbl : nestL.all (fun w => decide (w ∈ lw_tbl)) = true := by
  rw [List.all_eq_true]
  intro w hw
  apply decide_eq_true
  unfold nestL at hw
  obtain ⟨own, ho, h⟩ := List.mem_flatMap.mp hw
  obtain ⟨q, hm, h⟩ := List.mem_filterMap.mp h
  have h1 := List.all_eq_true.mp (List.all_eq_true.mp chkC_ok own ho) q hm
  simp only [Bool.and_eq_true, decide_eq_true_eq] at h1
  split at h
  · cases h
  · rename_i h0
    cases h
    rw [if_neg h0] at h1
    exact atW_mem h1.2
theorem KX_init {args : Array Value} {s : State} (hts : ∀ w ∈ lw_tbl, w.before args s = true) : ∃ dC dI cA, KX dC dI cA s := by
  have hk : ∀ c, ∃ (q : ClassId × (Nat → Nat)), c < 13 → u_Kn s (cName c) (fT c) (nf c) q.1 q.2 := by
    intro c
    by_cases hc : c < 13
    · have h2 := List.all_eq_true.mp chkW_ok c (List.mem_range.mpr hc)
      simp only [Bool.and_eq_true] at h2
      obtain ⟨c0, iS, h⟩ := u_known (C := cName c) (T := fT c) (N := nf c) (n := nf c) hts (fun w hw => gd_sub (in_fields hc w hw)) (hts _ (atW_mem h2.1))
      exact ⟨(c0, iS), fun _ => h⟩
    · exact ⟨(0, fun _ => 0), fun q => absurd q hc⟩
  have hA := chkA_ok
  unfold chkA at hA
  simp only [Bool.and_eq_true] at hA
  have arrP : ∀ ty : FieldType, Jvm.Cond.arrayClass ty ∈ lw_tbl → ∃ cA : ClassId, ArrOfT s cA ty ∧ s.vm.findClass ("[" ++ ty.toString) = some cA := by
    intro ty h
    obtain ⟨c, k, comp, h1, h2, h3⟩ := Cond.arrayClass_spec (hts _ h)
    exact ⟨c, fun N z => ⟨(fun k h => by cases h), k, h2, comp, h3⟩, h1⟩
  have arrQ : ∀ c, c < 3 → ∃ cA : ClassId, ArrOfT s cA (.object (cName c)) ∧ va_RA s cA (.object (cName c)) ∧ va_AO (cName c) s := by
    intro c hc
    have hm : Jvm.Cond.arrayOver (.object (cName c)) ∈ lw_tbl := by
      have h1 := List.all_eq_true.mp hA.1.1
      have : c = 0 ∨ c = 1 ∨ c = 2 := by omega
      rcases this with rfl | rfl | rfl
      · exact atW_mem (h1 _ (List.mem_of_getElem? (i := 0) rfl))
      · exact atW_mem (h1 _ (List.mem_of_getElem? (i := 1) rfl))
      · exact atW_mem (h1 _ (List.mem_of_getElem? (i := 2) rfl))
    have h := hts _ hm
    obtain ⟨comp, cA, k, hcomp, hidx, hkk, hkind, hname⟩ := Cond.arrayOver_spec h
    exact ⟨cA, fun N z => ⟨(fun k h => by cases h), k, hkk, comp, hkind⟩, ⟨k, comp, hkk, hkind, hcomp, hname⟩, h⟩
  obtain ⟨a2, h2, h2'⟩ := arrP .int (atW_mem hA.1.2)
  obtain ⟨a3, h3, h3'⟩ := arrP .long (atW_mem hA.2)
  obtain ⟨a4, h4, h4', h4''⟩ := arrQ 0 (by omega)
  obtain ⟨a5, h5, h5', h5''⟩ := arrQ 1 (by omega)
  obtain ⟨a6, h6, h6', h6''⟩ := arrQ 2 (by omega)
  refine ⟨fun c => (hk c).choose.1, fun c => (hk c).choose.2, fun k => if k = 2 then a2 else if k = 3 then a3 else if k = 4 then a4 else if k = 5 then a5 else a6, ⟨fun c q hq => ?_, fun k q hq => ?_⟩, fun w hw => ?_, fun c hc => ?_⟩
  · have hc : c < 13 := by
      have := (List.getElem?_eq_some_iff.mp hq).1
      simpa [clsV] using this
    rw [clsV_at hc] at hq
    cases hq
    exact (hk c).choose_spec hc
  · match k, hq with
    | 0, hq => cases hq; exact ⟨h2, h2'⟩
    | 1, hq => cases hq; exact ⟨h3, h3'⟩
    | 2, hq => cases hq; exact ⟨h4, h4'⟩
    | 3, hq => cases hq; exact ⟨h5, h5'⟩
    | 4, hq => cases hq; exact ⟨h6, h6'⟩
    | k + 5, hq => simp [tyA] at hq
  · have hm := of_decide_eq_true (List.all_eq_true.mp nest_tbl w hw)
    obtain ⟨a, i, x, rfl⟩ := nest_form hw
    exact va_tabs rfl rfl (hts _ hm)
  · have : c = 0 ∨ c = 1 ∨ c = 2 := by omega
    rcases this with rfl | rfl | rfl
    · exact h4''
    · exact h5''
    · exact h6''
theorem slN_NT : slN NT ≤ 20000 := by decide +kernel
theorem law_mx : mMx 309 = 4 ∧ mRt 309 = some .boolean ∧ mKd 309 = 1 ∧ cName (mOw 309) = R_law := by decide +kernel
theorem whole_of (hev : ∀ (L : Nat) (xs : Nat → Int32), L ≤ 3584 → ∃ σ', Ev 100 309 0 (enL 309 [.ref 0]) [] (sg0 L xs) (some (.int 1), σ'))
    {p : Program} {e : Env} {s : State} {m : MethodId} {below : List Frame} {meth : Method} {c : Code} (l : Launch) {b L : Nat} {xs : Nat → Int32} (hL : L ≤ 3584) (C0 : lw_At p s m meth c b L xs) : W p l e room_1 s m #[Value.ref b] below meth c s.heap [] 0 0 (lw_Z below #[Value.ref b] s) (entryFrame m ([Value.ref b] : List Value).toArray 4) := by
  obtain ⟨hx, hb, hr, hml, hown, hts, hX, hbl, hlocks, hgv⟩ := C0
  obtain ⟨dC, dI, cA, hK⟩ := KX_init hts
  obtain ⟨σ', n, hrun⟩ := hev L xs hL
  have hI := inv_run _ _ _ _ _ _ _ _ hrun
  have hN : σ'.2.2.2.1 ≤ NT := hI.2.2.2 (Nat.zero_le _)
  have hS := slN_le hN
  have hS2 := slN_NT
  have hb' : c.code = mCode 309 := by rw [hb]; rfl
  have C : Cx p room_1 s m #[Value.ref b] meth c 309 s.heap.size b 0 dC dI cA := ⟨hx, hb', by rw [hml, law_mx.1], by rw [law_mx.2.2.2]; exact hown, fun w hw => hts w (gd_sub hw), hK, by rw [hr, law_mx.2.1]; rfl, hlocks, (fun q => by rw [law_mx.2.2.1] at q; cases q), rfl, hbl⟩
  have hK' : ∀ (pc : Nat) (L st : List Value) (i : Instr) (len : Nat), decode (mCode 309) pc = .ok (i, len) → rtV 309 i len st = some (some (.int 1)) → WW p l e room_1 s m #[Value.ref b] below meth c (lw_Z below #[Value.ref b] s) s.heap.size b 0 309 dC dI cA pc L st σ' := by
    intro pc L st i len hd hs H locs ls hR hl
    unfold rtV at hs
    split at hs
    · rename_i hl1
      subst hl1
      split at hs
      · rename_i v
        split at hs
        · cases hs
          refine va_forget (fun q hq => hR.2.1.2.2 q hq) ?_
          refine W.widen (k := 600000) (n := 7302250) (by have : NT = 378 := rfl; omega) (by omega) ?_
          exact lw_ret hx hb hr hlocks hd
        · cases hs
      · split at hs
        · cases hs
        · cases hs
      · split at hs
        · cases hs
        · cases hs
      · split at hs
        · cases hs
        · cases hs
      · cases hs
    · cases hs
  have hfin := run_ok l n p e room_1 s m #[Value.ref b] below meth c (lw_Z below #[Value.ref b] s) s.heap.size b 0 dC dI cA 100 309 0 (enL 309 [.ref 0]) [] (sg0 L xs) (some (.int 1)) σ' hrun C (Nat.le_of_ble_eq_true rfl) (Nat.le_of_ble_eq_true rfl) (by show σ'.2.2.2.1 - 0 ≤ 600000; have : NT = 378 := rfl; omega) (by show slN σ'.2.2.2.1 - slN 0 ≤ 7302250; omega) hK' s.heap [] _ ⟨fun k q h => by simp [wld, sg0] at h, va_S.rf, hX, Nat.le_refl _, Nat.zero_le _⟩ (en_lvL (z := 309) (as := [.ref 0]) (by decide +kernel))
  rw [lg_entry_eq]
  rw [law_mx.1] at hfin
  exact hfin
