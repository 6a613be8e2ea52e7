/-! calls, and the whole run -/
def pFm (st : List Value) : Option (List Value) := match st with
  | .int y :: .int x :: r => if y = 360 then some (.int (fmod x) :: r) else none
  | _ => none
theorem pFm_spec {st r : List Value} (h : pFm st = some r) : ∃ x t, st = .int 360 :: .int x :: t ∧ r = .int (fmod x) :: t := by
  unfold pFm at h
  split at h
  · split at h
    · rename_i h36
      subst h36
      cases h
      exact ⟨_, _, rfl, rfl⟩
    · cases h
  · cases h
section SND
variable {p : Program} {l : Launch} {e : Env} {R : Room} {s : State} {m : MethodId} {args : Array Value} {below : List Frame} {meth : Method} {c : Code} {Q : State → Prop}
variable {B b n0 y : Nat} {dC : Nat → ClassId} {dI : Nat → Nat → Nat} {cA : Nat → ClassId}
theorem ctS_cons (v : Value) (r : List Value) : ctS (v :: r) = v.category + ctS r := by simp [ctS]
theorem ctS_map (r : List Value) : ((r.map (rl B b)).map fun v => v.category).sum = ctS r := by
  unfold ctS
  rw [List.map_map]
  congr 1
  apply List.map_congr_left
  intro v _
  exact rl_cat B b v
theorem prm_ok {own idx q : Nat} (h : prm own idx = some q) : q < 6 ∧ Jvm.Cond.methodLink (cName own) idx (prNm.getD q x) ∈ lw_gd := by
  unfold prm prmE at h
  obtain ⟨q', hq, e⟩ := Option.map_eq_some_iff.mp h
  cases e
  have hm := List.mem_of_find?_eq_some hq
  have hi : q'.1 = idx := by simpa using List.find?_some hq
  have ho : own < 16 := own_lt (by decide +kernel) hm
  have h1 := List.all_eq_true.mp (List.all_eq_true.mp chkP_ok own (List.mem_range.mpr ho)) q' hm
  simp only [Bool.and_eq_true, decide_eq_true_eq] at h1
  rw [hi] at h1
  exact ⟨h1.1, gdL (atW_mem h1.2) rfl⟩
theorem obj_ok {own idx : Nat} {q : Nat × Nat} (h : objE own idx = some q) : Jvm.Cond.methodLink (cName own) idx objectInit ∈ lw_gd := by
  unfold objE at h
  have hm := List.mem_of_find?_eq_some h
  have hi : q.1 = idx := by simpa using List.find?_some h
  have ho : own < 16 := own_lt (by decide +kernel) hm
  have h1 := List.all_eq_true.mp (List.all_eq_true.mp chkO_ok own (List.mem_range.mpr ho)) q hm
  rw [hi] at h1
  exact gdL (atW_mem h1) rfl
theorem cal_ok {own idx z : Nat} (h : cal own idx = some z) : z < 309 ∧ (Jvm.Cond.methodLink (cName own) idx (mName z) ∈ lw_gd ∨ Jvm.Cond.methodLinkNest (cName own) idx (mName z) "PoleSets" ∈ nestL) := by
  unfold cal calE at h
  obtain ⟨q, hq, e⟩ := Option.map_eq_some_iff.mp h
  cases e
  have hm := List.mem_of_find?_eq_some hq
  have hi : q.1 = idx := by simpa using List.find?_some hq
  have ho : own < 16 := own_lt (by decide +kernel) hm
  have h1 := List.all_eq_true.mp (List.all_eq_true.mp chkC_ok own (List.mem_range.mpr ho)) q hm
  simp only [Bool.and_eq_true, decide_eq_true_eq] at h1
  refine ⟨h1.1, ?_⟩
  by_cases h0 : q.2.2.1 = 0
  · rw [if_pos h0, hi] at h1
    exact Or.inl (gdL (atW_mem h1.2) rfl)
  · refine Or.inr (List.mem_flatMap.mpr ⟨own, List.mem_range.mpr ho, List.mem_filterMap.mpr ⟨q, hm, ?_⟩⟩)
    rw [if_neg h0, hi]
theorem ww_spc {pc : Nat} {i : Instr} {L st st' : List Value} {σ : Mm} (C : Cx p R s m args meth c y B b n0 dC dI cA) (hd : decode (mCode y) pc = .ok (i, 3)) (hs : spc y i st = some st') (hfr : 1 ≤ R.frames) (hlo : 60 ≤ R.locals) (hce : σ.2.2.2.1 - n0 ≤ R.cells) (hsl : slN σ.2.2.2.1 - slN n0 ≤ R.slots)
    (k : WW p l e R s m args below meth c Q B b n0 y dC dI cA (pc + 3) L st' σ) : WW p l e R s m args below meth c Q B b n0 y dC dI cA pc L st σ := by
  intro H locs ls hR hl
  have kk := k H locs ls hR hl
  obtain ⟨hx, hb, hml, hown, hts, hK, hr, hlk, hin, hsz, hbB⟩ := C
  have hls : c.maxLocals = ls.size := by rw [hml]; exact hl.2.1.symm
  unfold spc at hs
  split at hs
  · rename_i hct
    split at hs
    · rename_i idx
      split at hs
      · rename_i q hq
        split at hs
        · rename_i a r
          cases hs
          rw [ctS_cons] at hct
          refine W.objInit hx hb hown (hts _ (obj_ok hq)) (hts _ (gdL objI_ok.1 rfl)) (hts _ (gdL objI_ok.2 rfl)) rfl hls.symm rfl hd hfr ?_ kk
          show 2 * 0 + ((st'.map (rl B b)).map fun v => v.category).sum + 12 ≤ R.locals
          rw [ctS_map]
          omega
        · cases hs
      · cases hs
    · rename_i idx
      split at hs
      · rename_i q hq
        obtain ⟨hq6, hlink⟩ := prm_ok hq
        have hini := hts _ (gdL pri_ok rfl)
        have hlink := hts _ hlink
        have hloc : ∀ (n : Nat) (r : List Value), ctS r ≤ 12 → n ≤ 40 → ((r.map (rl B b)).map fun v => v.category).sum + n ≤ R.locals := fun n r h1 h2 => by rw [ctS_map]; omega
        match q, hq6 with
        | 0, _ =>
          obtain ⟨u, v, t, rfl, rfl⟩ := pI2_spec hs
          simp only [ctS_cons, Value.category] at hct
          exact va_mmax hx hb hls hown hlink (hts _ (gdL prs0 rfl)) hini (hts _ (gdL prc0 rfl)) hfr (hloc 13 t (by omega) (by omega)) hce hsl hd kk
        | 1, _ =>
          obtain ⟨u, v, t, rfl, rfl⟩ := pI2_spec hs
          simp only [ctS_cons, Value.category] at hct
          exact va_mmin hx hb hls hown hlink (hts _ (gdL prs1 rfl)) hini (hts _ (gdL prc1 rfl)) hfr (hloc 13 t (by omega) (by omega)) hce hsl hd kk
        | 2, _ =>
          obtain ⟨u, t, rfl, rfl⟩ := pI1_spec hs
          simp only [ctS_cons, Value.category] at hct
          exact va_mabs hx hb hls hown hlink (hts _ (gdL prs2 rfl)) hini (hts _ (gdL prc2 rfl)) hfr (hloc 13 t (by omega) (by omega)) hce hsl hd kk
        | 3, _ =>
          obtain ⟨u, v, t, rfl, rfl⟩ := pJ2_spec hs
          simp only [ctS_cons, Value.category] at hct
          exact va_mmin_long hx hb hls hown hlink (hts _ (gdL prs3 rfl)) hini (hts _ (gdL prc3 rfl)) hfr (hloc 15 t (by omega) (by omega)) hce hsl hd kk
        | 4, _ =>
          obtain ⟨u, t, rfl, rfl⟩ := pJ1_spec hs
          simp only [ctS_cons, Value.category] at hct
          exact va_mabs_long hx hb hls hown hlink (hts _ (gdL prs4 rfl)) hini (hts _ (gdL prc4 rfl)) hfr (hloc 13 t (by omega) (by omega)) hce hsl hd kk
        | 5, _ =>
          obtain ⟨u, t, rfl, rfl⟩ := pFm_spec (show pFm st = some st' from hs)
          simp only [ctS_cons, Value.category] at hct
          exact va_mfm hx hb hls hown hlink (hts _ (gdL prs5 rfl)) hini (hts _ (gdL prc5 rfl)) hfr (hloc 14 t (by omega) (by omega)) hce hsl hd kk
      · cases hs
    · cases hs
  · cases hs
theorem take_drop_len {st : List Value} {k : Nat} (h : k ≤ st.length) : ((st.take k).reverse).length = k := by
  rw [List.length_reverse, List.length_take]
  omega
theorem stk_eq (st : List Value) (k : Nat) : st = ((st.take k).reverse).reverse ++ st.drop k := by
  rw [List.reverse_reverse, List.take_append_drop]
theorem ww_call {n d pc : Nat} {i : Instr} {L st : List Value} {σ σ' : Mm} {r : Option Value} {q : Nat × List Value × List Value} (C : Cx p R s m args meth c y B b n0 dC dI cA) (ih : RunP l n) (hd : decode (mCode y) pc = .ok (i, 3)) (hq : cinv y i st σ = some q) (hf : (flt q.2.1).length ≤ mMx q.1) (h : irun n d q.1 0 (enL q.1 q.2.1) [] σ = some (r, σ'))
    (hfr : d + 1 ≤ R.frames) (hlo : 60 * (d + 1) ≤ R.locals) (hce : σ'.2.2.2.1 - n0 ≤ R.cells) (hsl : slN σ'.2.2.2.1 - slN n0 ≤ R.slots)
    (k : WW p l e R s m args below meth c Q B b n0 y dC dI cA (pc + 3) L (r.toList ++ q.2.2) σ') : WW p l e R s m args below meth c Q B b n0 y dC dI cA pc L st σ := by
  intro H locs ls hR hl
  refine W_sz C hR fun hz => ?_
  have hI : Inv0 σ σ' := inv_run _ _ _ _ _ _ _ _ h
  obtain ⟨hx, hb, hml, hown, hts, hK, hr, hlk, hin, hsz, hbB⟩ := C
  have hls : ls.size = mMx y := hl.2.1
  have hn0 := hR.2.2.2.1
  have hcell : σ.2.2.2.1 - n0 + (σ'.2.2.2.1 - σ.2.2.2.1) ≤ R.cells ∧ slN σ.2.2.2.1 - slN n0 + (slN σ'.2.2.2.1 - slN σ.2.2.2.1) ≤ R.slots := by
    have h1 := slN_le hn0
    have h2 := slN_le hI.1
    have h3 := hI.1
    omega
  have hbel : ∀ U : State, U.heap = H → s.WarmedH U.vm → PcY B b dC dI cA q.2.1 σ (q.2.1.map (rl B b)).toArray U := fun U hU hW =>
    ⟨rfl, by rw [hU]; exact hz, by rw [hU]; exact hR.1, by
      rw [hU]
      refine va_X.moved hW.alike (hR.2.2.1.kept ?_)
      exact hR.2.1.2.1 b (by omega) (fun q => by have : B ≤ b := q; omega), hK.warm hW⟩
  have S : CallFix p m c (mCode y) (mMx y) s args lw_gd (cName (mOw y)) := ⟨hx, hb, hml, hown, hts⟩
  have cb : ∀ {z : Nat} (hz : z < 309), (rmD d (σ'.2.2.2.1 - σ.2.2.2.1) (slN σ'.2.2.2.1 - slN σ.2.2.2.1)).cells = σ'.2.2.2.1 - σ.2.2.2.1 ∧ (rmD d (σ'.2.2.2.1 - σ.2.2.2.1) (slN σ'.2.2.2.1 - slN σ.2.2.2.1)).slots = slN σ'.2.2.2.1 - slN σ.2.2.2.1 ∧ (rmD d (σ'.2.2.2.1 - σ.2.2.2.1) (slN σ'.2.2.2.1 - slN σ.2.2.2.1)).frames + 1 ≤ R.frames ∧ 8 + (mMx z + 11) + (rmD d (σ'.2.2.2.1 - σ.2.2.2.1) (slN σ'.2.2.2.1 - slN σ.2.2.2.1)).locals ≤ R.locals ∧ (∀ w ∈ wsY z, ∀ (a' : Array Value) (U : State), s.WarmedH U.vm → w.before a' U = true) ∧ Cond.code (mName z) (mCode z) (mMx z) (mRt z) ∈ wsY z ∧ (Cond.code (mName z) (mCode z) (mMx z) (mRt z)).before args s = true ∧ (Cond.initialized (mName z).cls).before args s = true ∧ ((mName z).cls ≠ "java/lang/invoke/MethodHandle" ∧ (mName z).cls ≠ "java/lang/invoke/VarHandle") ∧ ∀ sig, parseMethodDescriptor (mName z).desc = some sig → mNp z = sig.parameters.length := by
    intro z hz
    obtain ⟨⟨g1, g2, g3⟩, -, -, g4, -⟩ := m2 hz
    refine ⟨rfl, rfl, hfr, ?_, pay_in hts (wsY_in hz), List.mem_cons_self, hts _ (codeW_gd hz), hts _ (m1 hz).2.2.2.2, ⟨g1, g2⟩, fun sig hsig => ?_⟩
    · show 8 + (mMx z + 11) + 60 * d ≤ R.locals
      omega
    · rw [hsig] at g3
      exact (Option.some.inj g3).symm
  unfold cinv at hq
  split at hq
  · rename_i idx
    split at hq
    · rename_i z hzc
      split at hq
      · rename_i hc
        cases hq
        obtain ⟨hz9, hlink⟩ := cal_ok hzc
        obtain ⟨hkd, hnp, hct⟩ := hc
        have hM := met_of_run (dC := dC) (dI := dI) (cA := cA) ih hz9 hf h hR.2.2.2.2 hbB
        obtain ⟨c1, c2, c3, c4, c5, c6, c7, c8, c9, c10⟩ := cb hz9
        have hstk : st.map (rl B b) = ((((st.take (mNp z)).reverse).map (rl B b))).reverse ++ (st.drop (mNp z)).map (rl B b) := by
          rw [← List.map_reverse, ← List.map_append, ← stk_eq]
        have hct' : 2 * (F0 m pc ls (st.map (rl B b))).monitorRoom + (((st.drop (mNp z)).map (rl B b)).map fun v => v.category).sum ≤ 8 := by
          rw [ctS_map]
          show 2 * 0 + _ ≤ 8
          omega
        rcases hlink with hlink | hlink
        · exact ww_back (z := z) hI hR hl (va_runS (As := ((st.take (mNp z)).reverse).map (rl B b)) S hM ⟨⟨c1, c2, c3, c4, c5, c6, c7, c8, c9, c10, hts _ hlink⟩, hts _ ((m1 hz9).2.1 hkd)⟩ ⟨PcY_blind, fun U hU hW => hbel U hU hW⟩ rfl (by rw [List.length_map]; exact take_drop_len hnp) hls hstk hct' hd hcell) k
        · exact ww_back (z := z) hI hR hl (va_runSN (As := ((st.take (mNp z)).reverse).map (rl B b)) S hM ⟨⟨⟨c1, c2, c3, c4, c5, c6⟩, c7, c8, c9, c10, va_Nw.use rfl (hK.2.1 _ hlink)⟩, hts _ ((m1 hz9).2.1 hkd), trivial⟩ ⟨PcY_blind, fun U hU hW => hbel U hU hW⟩ rfl (by rw [List.length_map]; exact take_drop_len hnp) hls hstk hct' hd hcell) k
      · cases hq
    · cases hq
  · rename_i idx
    split at hq
    · rename_i z hzc
      split at hq
      · rename_i bb rr hdrop
        split at hq
        · rename_i hc
          cases hq
          obtain ⟨hz9, hlink⟩ := cal_ok hzc
          obtain ⟨hkd, hnp, hct, hSH, hpos⟩ := hc
          have hM := met_of_run (dC := dC) (dI := dI) (cA := cA) ih hz9 hf h hR.2.2.2.2 hbB
          obtain ⟨c1, c2, c3, c4, c5, c6, c7, c8, c9, c10⟩ := cb hz9
          have hstk : st.map (rl B b) = ((((st.take (mNp z)).reverse).map (rl B b))).reverse ++ .ref (ra B b bb) :: rr.map (rl B b) := by
            have h1 := stk_eq st (mNp z)
            rw [hdrop] at h1
            conv => lhs; rw [h1]
            rw [List.map_append, List.map_reverse]
            rfl
          have hct' : 2 * (F0 m pc ls (st.map (rl B b))).monitorRoom + ((rr.map (rl B b)).map fun v => v.category).sum ≤ 8 := by
            rw [ctS_map]
            show 2 * 0 + _ ≤ 8
            omega
          have h0 := obj0 hSH
          have hwb := wld_at (B := B) (b := b) (cA := cA) (σ := σ) h0 (by simp [hSH]) hpos
          have heb : ent B b cA σ bb = .inr (mOw z, (List.range (nf (mOw z))).map fun k => rl B b (gV σ bb (mOw z) k)) := by unfold ent; rw [hSH]; rfl
          rw [heb] at hwb
          have hcell2 : ∃ cellB : Cell, H[ra B b bb]? = some cellB ∧ cellB.vm.isStatics = false ∧ s.vm.findClass (mName z).cls = some cellB.cls := by
            obtain ⟨r0, hr0, cellB, g1, g2, g3, -⟩ := hR.1 _ _ hwb
            refine ⟨cellB, by rw [ra_ne h0]; exact g1, by rw [g3]; rfl, ?_⟩
            have h13 : mOw z < 13 := by
              have := (List.getElem?_eq_some_iff.mp hr0).1
              simpa [clsV] using this
            rw [(m1 hz9).1, g2]
            exact (hK.1.1 (mOw z) _ (clsV_at h13)).2.1
          rcases hlink with hlink | hlink
          · exact ww_back (z := z) hI hR hl (va_runV (C := (mName z).cls) (As := ((st.take (mNp z)).reverse).map (rl B b)) S hM ⟨⟨c1, c2, c3, c4, c5, c6, c7, c8, c9, c10, hts _ hlink⟩, hts _ ((m1 hz9).2.2.1 (by omega)), hts _ ((m1 hz9).2.2.2.1 hkd)⟩ ⟨PcY_blind, hcell2, fun U hU hW => hbel U hU hW⟩ rfl (by rw [List.length_map]; exact take_drop_len hnp) hls hstk hct' hd hcell) k
          · exact ww_back (z := z) hI hR hl (va_runVN (C := (mName z).cls) (As := ((st.take (mNp z)).reverse).map (rl B b)) S hM ⟨⟨⟨c1, c2, c3, c4, c5, c6⟩, c7, c8, c9, c10, va_Nw.use rfl (hK.2.1 _ hlink)⟩, hts _ ((m1 hz9).2.2.1 (by omega)), hts _ ((m1 hz9).2.2.2.1 hkd)⟩ ⟨PcY_blind, hcell2, fun U hU hW => hbel U hU hW⟩ rfl (by rw [List.length_map]; exact take_drop_len hnp) hls hstk hct' hd hcell) k
        · cases hq
      · cases hq
    · cases hq
  · rename_i idx
    split at hq
    · rename_i z hzc
      split at hq
      · rename_i bb rr hdrop
        split at hq
        · rename_i hc
          cases hq
          obtain ⟨hz9, hlink⟩ := cal_ok hzc
          obtain ⟨hkd, hnp, hct⟩ := hc
          obtain ⟨hnm, hrt⟩ := (m2 hz9).2.2.1 hkd
          have hM := met_of_run (dC := dC) (dI := dI) (cA := cA) ih hz9 hf h hR.2.2.2.2 hbB
          obtain ⟨c1, c2, c3, c4, c5, c6, c7, c8, c9, c10⟩ := cb hz9
          rw [hrt] at c6 c7
          have hstk : st.map (rl B b) = ((((st.take (mNp z)).reverse).map (rl B b))).reverse ++ .ref (ra B b bb) :: rr.map (rl B b) := by
            have h1 := stk_eq st (mNp z)
            rw [hdrop] at h1
            conv => lhs; rw [h1]
            rw [List.map_append, List.map_reverse]
            rfl
          have hct' : 2 * (F0 m pc ls (st.map (rl B b))).monitorRoom + ((rr.map (rl B b)).map fun v => v.category).sum ≤ 8 := by
            rw [ctS_map]
            show 2 * 0 + _ ≤ 8
            omega
          rcases hlink with hlink | hlink
          · exact ww_back (z := z) hI hR hl (va_runI (As := ((st.take (mNp z)).reverse).map (rl B b)) S hM ⟨⟨c1, c2, c3, c4, c5, c6, c7, c8, c9, c10, hts _ hlink⟩, hnm, hts _ ((m1 hz9).2.2.1 (by omega))⟩ ⟨PcY_blind, fun U hU hW => hbel U hU hW⟩ rfl (by rw [List.length_map]; exact take_drop_len hnp) hls hstk hct' hd hcell) k
          · exact ww_back (z := z) hI hR hl (va_runIN (As := ((st.take (mNp z)).reverse).map (rl B b)) S hM ⟨⟨⟨c1, c2, c3, c4, c5, c6⟩, c7, c8, c9, c10, va_Nw.use rfl (hK.2.1 _ hlink)⟩, hnm, hts _ ((m1 hz9).2.2.1 (by omega))⟩ ⟨PcY_blind, fun U hU hW => hbel U hU hW⟩ rfl (by rw [List.length_map]; exact take_drop_len hnp) hls hstk hct' hd hcell) k
        · cases hq
      · cases hq
    · cases hq
  · cases hq
end SND
theorem run_ok (l : Launch) : ∀ n, RunP l n := by
  intro n
  induction n with
  | zero => intro p e R s m args below meth c Q B b n0 dC dI cA d y pc L st σ r σ' h; simp [irun] at h
  | succ n ih =>
    intro p e R s m args below meth c Q B b n0 dC dI cA d y pc L st σ r σ' h C hfr hlo hce hsl hK
    unfold irun at h
    split at h
    · cases h
    · rename_i i len hd
      split at h
      · split at h
        · cases h
        · rename_i q hq
          have h1 := (inv_run _ _ _ _ _ _ _ _ h).1
          have h2 := slN_le h1
          exact ww_stp C hd hq ⟨by show q.2.2.2.2.2.2.1 - n0 ≤ _; have : q.2.2.2.2.2.2.1 ≤ σ'.2.2.2.1 := h1; omega, by have : slN q.2.2.2.2.2.2.1 ≤ slN σ'.2.2.2.1 := h2; omega⟩ (ih p e R s m args below meth c Q B b n0 dC dI cA d y _ _ _ _ r σ' h C hfr hlo hce hsl hK)
      · split at h
        · obtain ⟨r', hr, e1⟩ := Option.map_eq_some_iff.mp h
          cases e1
          exact hK pc L st i len hd hr
        · split at h
          · rename_i hl3
            subst hl3
            split at h
            · cases h
            · rename_i d'
              split at h
              · rename_i st' hst
                have h1 := (inv_run _ _ _ _ _ _ _ _ h).1
                have h2 := slN_le h1
                exact ww_spc C hd hst (by omega) (by omega) (by have : σ.2.2.2.1 ≤ σ'.2.2.2.1 := h1; omega) (by have : slN σ.2.2.2.1 ≤ slN σ'.2.2.2.1 := h2; omega) (ih p e R s m args below meth c Q B b n0 dC dI cA (d' + 1) y _ _ _ _ r σ' h C hfr hlo hce hsl hK)
              · split at h
                · cases h
                · rename_i q hq
                  split at h
                  · rename_i hf
                    split at h
                    · cases h
                    · rename_i u hu
                      have h1 := (inv_run _ _ _ _ _ _ _ _ h).1
                      have h2 := slN_le h1
                      exact ww_call (r := u.1) (σ' := u.2) C ih hd hq hf hu hfr hlo (by have : u.2.2.2.2.1 ≤ σ'.2.2.2.1 := h1; omega) (by have : slN u.2.2.2.2.1 ≤ slN σ'.2.2.2.1 := h2; omega) (ih p e R s m args below meth c Q B b n0 dC dI cA (d' + 1) y _ _ _ _ r σ' h C hfr hlo hce hsl hK)
                  · cases h
          · cases h
