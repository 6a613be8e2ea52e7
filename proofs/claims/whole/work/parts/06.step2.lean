/-! arrays, new cells, locals, numbers, branches -/
section STP2
variable {p : Program} {l : Launch} {e : Env} {R : Room} {s : State} {m : MethodId} {args : Array Value} {below : List Frame} {meth : Method} {c : Code} {Q : State → Prop}
variable {B b n0 y : Nat} {dC : Nat → ClassId} {dI : Nat → Nat → Nat} {cA : Nat → ClassId}
theorem ra_ne {a : Nat} (h : a ≠ 0) : ra B b a = B + pos a := by unfold ra; rw [if_neg h]
theorem ent2 {σ : Mm} {a : Nat} (h : (SH a).1 = 2) : ent B b cA σ a = .inl (cA 2, (SH a).2, .inl (σ.1 a)) := by unfold ent; rw [if_neg (by rw [h]; decide), if_pos h]
theorem ent3 {σ : Mm} {a : Nat} (h : (SH a).1 = 3) : ent B b cA σ a = .inl (cA 3, (SH a).2, .inr (.inl (σ.2.1 a))) := by unfold ent; rw [if_neg (by rw [h]; decide), if_neg (by rw [h]; decide), if_pos h]
theorem ent4 {σ : Mm} {a : Nat} (h : 4 ≤ (SH a).1) : ent B b cA σ a = .inl (cA (SH a).1, (SH a).2, .inr (.inr (.inr (.inr fun j => (σ.2.2.1 a j).map (ra B b))))) := by unfold ent; rw [if_neg (by omega), if_neg (by omega), if_neg (by omega)]
theorem ww_ild {pc : Nat} {L st : List Value} {σ : Mm} {q : Nx} (C : Cx p R s m args meth c y B b n0 dC dI cA) (hd : decode (mCode y) pc = .ok (.iaload, 1)) (hs : sIld (pc + 1) L st σ = some q)
    (k : WW p l e R s m args below meth c Q B b n0 y dC dI cA q.1 q.2.1 q.2.2.1 q.2.2.2) : WW p l e R s m args below meth c Q B b n0 y dC dI cA pc L st σ := by
  intro H locs ls hR hl
  obtain ⟨hx, hb, hml, hown, hts, hK, hr, hlk, hin, hsz, hbB⟩ := C
  unfold sIld at hs
  split at hs
  · rename_i j a r
    split at hs
    · rename_i hc
      cases hs
      obtain ⟨hSH, hp, hj⟩ := hc
      by_cases h0 : a = 0
      · subst h0
        exact va_sld (b := b) (L := σ.2.2.2.2) (xs := σ.1 0) hx hb hR.2.2.1 (bL hsz hbB).1 (bL hsz hbB).2 hR.2.1 (i := j) hj hd (k H locs ls hR hl)
      · have hp := hp.resolve_left h0
        have hw := wld_at (B := B) (b := b) (cA := cA) (σ := σ) h0 (by rw [hSH]; decide) hp
        rw [ent2 hSH] at hw
        show W p l e R s m args below meth c H locs _ _ Q (F0 m pc ls (.int j :: .ref (ra B b a) :: r.map (rl B b)))
        rw [ra_ne h0]
        have hj : vp_in j (SH a).2 := by unfold aLn at hj; rw [if_neg h0] at hj; exact hj
        exact va_iald (D := (dC, dI)) hx hb hK.1 hR.1 (pos a) 0 hw rfl hj hd (k H locs ls hR hl)
    · cases hs
  · cases hs
theorem ww_len {pc : Nat} {L st : List Value} {σ : Mm} {q : Nx} (C : Cx p R s m args meth c y B b n0 dC dI cA) (hd : decode (mCode y) pc = .ok (.arraylength, 1)) (hs : sLen (pc + 1) L st σ = some q)
    (k : WW p l e R s m args below meth c Q B b n0 y dC dI cA q.1 q.2.1 q.2.2.1 q.2.2.2) : WW p l e R s m args below meth c Q B b n0 y dC dI cA pc L st σ := by
  intro H locs ls hR hl
  obtain ⟨hx, hb, hml, hown, hts, hK, hr, hlk, hin, hsz, hbB⟩ := C
  unfold sLen at hs
  split at hs
  · rename_i a r
    split at hs
    · rename_i hc
      cases hs
      obtain ⟨h2, h6, hp⟩ := hc
      by_cases h0 : a = 0
      · subst h0
        exact va_slen (b := b) (L := σ.2.2.2.2) (xs := σ.1 0) hx hb hR.2.2.1 (bL hsz hbB).1 (bL hsz hbB).2 hR.2.1 hd (k H locs ls hR hl)
      · have hp := hp.resolve_left h0
        have hw := wld_at (B := B) (b := b) (cA := cA) (σ := σ) h0 (by omega) hp
        show W p l e R s m args below meth c H locs _ _ Q (F0 m pc ls (.ref (ra B b a) :: r.map (rl B b)))
        rw [ra_ne h0]
        have hv : Int32.ofNat (SH a).2 = nI (aLn σ a) := by unfold aLn; rw [if_neg h0]; rfl
        by_cases e2 : (SH a).1 = 2
        · rw [ent2 e2] at hw
          exact va_alen (D := (dC, dI)) hx hb hK.1 hR.1 (pos a) 0 hw (ty := .int) rfl hv hd (k H locs ls hR hl)
        by_cases e3 : (SH a).1 = 3
        · rw [ent3 e3] at hw
          exact va_alen (D := (dC, dI)) hx hb hK.1 hR.1 (pos a) 1 hw (ty := .long) rfl hv hd (k H locs ls hR hl)
        rw [ent4 (by omega)] at hw
        by_cases e4 : (SH a).1 = 4
        · rw [e4] at hw
          exact va_alen (D := (dC, dI)) hx hb hK.1 hR.1 (pos a) 2 hw (ty := .object (cName 0)) rfl hv hd (k H locs ls hR hl)
        by_cases e5 : (SH a).1 = 5
        · rw [e5] at hw
          exact va_alen (D := (dC, dI)) hx hb hK.1 hR.1 (pos a) 3 hw (ty := .object (cName 1)) rfl hv hd (k H locs ls hR hl)
        have e6 : (SH a).1 = 6 := by omega
        rw [e6] at hw
        exact va_alen (D := (dC, dI)) hx hb hK.1 hR.1 (pos a) 4 hw (ty := .object (cName 2)) rfl hv hd (k H locs ls hR hl)
    · cases hs
  · cases hs
theorem ww_ist {pc : Nat} {L st : List Value} {σ : Mm} {q : Nx} (C : Cx p R s m args meth c y B b n0 dC dI cA) (hd : decode (mCode y) pc = .ok (.iastore, 1)) (hs : sIst (pc + 1) L st σ = some q)
    (k : WW p l e R s m args below meth c Q B b n0 y dC dI cA q.1 q.2.1 q.2.2.1 q.2.2.2) : WW p l e R s m args below meth c Q B b n0 y dC dI cA pc L st σ := by
  intro H locs ls hR hl
  obtain ⟨hx, hb, hml, hown, hts, hK, hr, hlk, hin, hsz, hbB⟩ := C
  unfold sIst at hs
  split at hs
  · rename_i v j a r
    split at hs
    · rename_i hc
      cases hs
      obtain ⟨hSH, h0, hp, hj⟩ := hc
      have hw := wld_at (B := B) (b := b) (cA := cA) (σ := σ) h0 (by rw [hSH]; decide) hp
      rw [ent2 hSH] at hw
      have hset := wld_set (B := B) (b := b) (cA := cA) (σ := σ) (σ' := setI σ a j.toNatClampNeg v) rfl hR.2.2.2.2 h0 (by rw [hSH]; decide) hp (fun a' => ent_I_off a')
      rw [ent2 hSH] at hset
      show W p l e R s m args below meth c H locs _ _ Q (F0 m pc ls (.int v :: .int j :: .ref (ra B b a) :: r.map (rl B b)))
      rw [ra_ne h0]
      refine va_iast (D := (dC, dI)) hx hb hK.1 hR.1 (wld_D B b cA σ) hR.2.1 (pos a) 0 hw rfl (i := j) (x := v) hj hd fun H1 locs1 q1 q2 q3 => ?_
      have e1 : upd (σ.1 a) j.toNatClampNeg v = (setI σ a j.toNatClampNeg v).1 a := by
        funext t
        unfold upd setI up2
        simp
      rw [e1, hset] at q1
      exact k H1 locs1 ls ⟨q1, q3, by rw [X_up h0]; exact hR.2.2.1, hR.2.2.2.1, hR.2.2.2.2⟩ hl
    · cases hs
  · cases hs
theorem ww_jld {pc : Nat} {L st : List Value} {σ : Mm} {q : Nx} (C : Cx p R s m args meth c y B b n0 dC dI cA) (hd : decode (mCode y) pc = .ok (.laload, 1)) (hs : sJld (pc + 1) L st σ = some q)
    (k : WW p l e R s m args below meth c Q B b n0 y dC dI cA q.1 q.2.1 q.2.2.1 q.2.2.2) : WW p l e R s m args below meth c Q B b n0 y dC dI cA pc L st σ := by
  intro H locs ls hR hl
  obtain ⟨hx, hb, hml, hown, hts, hK, hr, hlk, hin, hsz, hbB⟩ := C
  unfold sJld at hs
  split at hs
  · rename_i j a r
    split at hs
    · rename_i hc
      cases hs
      obtain ⟨hSH, hp, hj⟩ := hc
      have h0 : a ≠ 0 := fun q => by rw [q, SH0] at hSH; cases hSH
      have hw := wld_at (B := B) (b := b) (cA := cA) (σ := σ) h0 (by rw [hSH]; decide) hp
      rw [ent3 hSH] at hw
      show W p l e R s m args below meth c H locs _ _ Q (F0 m pc ls (.int j :: .ref (ra B b a) :: r.map (rl B b)))
      rw [ra_ne h0]
      exact va_lald (D := (dC, dI)) hx hb hK.1 hR.1 (pos a) 1 hw rfl hj hd (k H locs ls hR hl)
    · cases hs
  · cases hs
theorem ww_jst {pc : Nat} {L st : List Value} {σ : Mm} {q : Nx} (C : Cx p R s m args meth c y B b n0 dC dI cA) (hd : decode (mCode y) pc = .ok (.lastore, 1)) (hs : sJst (pc + 1) L st σ = some q)
    (k : WW p l e R s m args below meth c Q B b n0 y dC dI cA q.1 q.2.1 q.2.2.1 q.2.2.2) : WW p l e R s m args below meth c Q B b n0 y dC dI cA pc L st σ := by
  intro H locs ls hR hl
  obtain ⟨hx, hb, hml, hown, hts, hK, hr, hlk, hin, hsz, hbB⟩ := C
  unfold sJst at hs
  split at hs
  · rename_i v j a r
    split at hs
    · rename_i hc
      cases hs
      obtain ⟨hSH, hp, hj⟩ := hc
      have h0 : a ≠ 0 := fun q => by rw [q, SH0] at hSH; cases hSH
      have hw := wld_at (B := B) (b := b) (cA := cA) (σ := σ) h0 (by rw [hSH]; decide) hp
      rw [ent3 hSH] at hw
      have hset := wld_set (B := B) (b := b) (cA := cA) (σ := σ) (σ' := setJ σ a j.toNatClampNeg v) rfl hR.2.2.2.2 h0 (by rw [hSH]; decide) hp (fun a' => ent_J_off a')
      rw [ent3 hSH] at hset
      show W p l e R s m args below meth c H locs _ _ Q (F0 m pc ls (.long v :: .int j :: .ref (ra B b a) :: r.map (rl B b)))
      rw [ra_ne h0]
      refine va_last (D := (dC, dI)) hx hb hK.1 hR.1 (wld_D B b cA σ) hR.2.1 (pos a) 1 hw rfl (i := j) (x := v) hj hd fun H1 locs1 q1 q2 q3 => ?_
      have e1 : vp_updL (σ.2.1 a) j.toNatClampNeg v = (setJ σ a j.toNatClampNeg v).2.1 a := by
        funext t
        unfold vp_updL setJ up2
        simp
      rw [e1, hset] at q1
      exact k H1 locs1 ls ⟨q1, q3, hR.2.2.1, hR.2.2.2.1, hR.2.2.2.2⟩ hl
    · cases hs
  · cases hs
theorem tyA_at {kk : Nat} (h4 : 4 ≤ kk) (h6 : kk ≤ 6) : (tyA cA)[kk - 2]? = some (cA kk, .object (cName (arkC kk))) := by
  have : kk = 4 ∨ kk = 5 ∨ kk = 6 := by omega
  rcases this with rfl | rfl | rfl <;> rfl
theorem ww_ald {pc : Nat} {L st : List Value} {σ : Mm} {q : Nx} (C : Cx p R s m args meth c y B b n0 dC dI cA) (hd : decode (mCode y) pc = .ok (.aaload, 1)) (hs : sAld (pc + 1) L st σ = some q)
    (k : WW p l e R s m args below meth c Q B b n0 y dC dI cA q.1 q.2.1 q.2.2.1 q.2.2.2) : WW p l e R s m args below meth c Q B b n0 y dC dI cA pc L st σ := by
  intro H locs ls hR hl
  obtain ⟨hx, hb, hml, hown, hts, hK, hr, hlk, hin, hsz, hbB⟩ := C
  unfold sAld at hs
  split at hs
  · rename_i j a r
    split at hs
    · rename_i hc
      cases hs
      obtain ⟨⟨h4, h6⟩, hp, hj⟩ := hc
      have h0 : a ≠ 0 := fun q => by rw [q, SH0] at h4; exact absurd h4 (by decide)
      have hw := wld_at (B := B) (b := b) (cA := cA) (σ := σ) h0 (by omega) hp
      rw [ent4 h4] at hw
      show W p l e R s m args below meth c H locs _ _ Q (F0 m pc ls (.int j :: .ref (ra B b a) :: r.map (rl B b)))
      rw [ra_ne h0]
      refine va_aldq (D := (dC, dI)) hx hb hK.1 hR.1 (pos a) ((SH a).1 - 2) hw (tyA_at h4 h6) hj hd ?_
      have := k H locs ls hR hl
      simp only [List.map_cons, rl_rf] at this
      exact this
    · cases hs
  · cases hs
theorem arkC_lt {kk : Nat} : arkC kk < 13 := by unfold arkC; split <;> first | decide | (split <;> decide)
theorem ww_ast {pc : Nat} {L st : List Value} {σ : Mm} {q : Nx} (C : Cx p R s m args meth c y B b n0 dC dI cA) (hd : decode (mCode y) pc = .ok (.aastore, 1)) (hs : sAst (pc + 1) L st σ = some q)
    (k : WW p l e R s m args below meth c Q B b n0 y dC dI cA q.1 q.2.1 q.2.2.1 q.2.2.2) : WW p l e R s m args below meth c Q B b n0 y dC dI cA pc L st σ := by
  intro H locs ls hR hl
  obtain ⟨hx, hb, hml, hown, hts, hK, hr, hlk, hin, hsz, hbB⟩ := C
  unfold sAst at hs
  split at hs
  · rename_i v j a r
    split at hs
    · rename_i hc
      cases hs
      obtain ⟨⟨h4, h6⟩, hp, hj, hv, hpv⟩ := hc
      have h0 : a ≠ 0 := fun q => by rw [q, SH0] at h4; exact absurd h4 (by decide)
      have hv0 := obj0 hv
      have hw := wld_at (B := B) (b := b) (cA := cA) (σ := σ) h0 (by omega) hp
      have hwv := wld_at (B := B) (b := b) (cA := cA) (σ := σ) hv0 (by simp [hv]) hpv
      have hev : ent B b cA σ v = .inr (arkC (SH a).1, (List.range (nf (arkC (SH a).1))).map fun k => rl B b (gV σ v (arkC (SH a).1) k)) := by unfold ent; rw [hv]; rfl
      rw [hev] at hwv
      rw [ent4 h4] at hw
      have hset := wld_set (B := B) (b := b) (cA := cA) (σ := σ) (σ' := setR σ a j.toNatClampNeg (some v)) rfl hR.2.2.2.2 h0 (by omega) hp (fun a' => ent_R_off a')
      rw [ent4 h4] at hset
      show W p l e R s m args below meth c H locs _ _ Q (F0 m pc ls (.ref (ra B b v) :: .int j :: .ref (ra B b a) :: r.map (rl B b)))
      rw [ra_ne h0, ra_ne hv0]
      refine va_astq (D := (dC, dI)) (r := (cName (arkC (SH a).1), fT (arkC (SH a).1), nf (arkC (SH a).1))) hx hb hK.1 hR.1 (wld_D B b cA σ) hR.2.1 (pos a) ((SH a).1 - 2) (pos v) (arkC (SH a).1) hw (tyA_at h4 h6) hwv (clsV_at arkC_lt) (i := j) hj hd fun H1 locs1 q1 q2 q3 => ?_
      have e1 : va_up (fun j => (σ.2.2.1 a j).map (ra B b)) j.toNatClampNeg (some (B + pos v)) = fun t => ((setR σ a j.toNatClampNeg (some v)).2.2.1 a t).map (ra B b) := by
        funext t
        unfold va_up setR up2
        by_cases ht : t = j.toNatClampNeg
        · simp [ht, ra_ne hv0]
        · simp [ht]
      rw [e1, hset] at q1
      exact k H1 locs1 ls ⟨q1, q3, hR.2.2.1, hR.2.2.2.1, hR.2.2.2.2⟩ hl
    · cases hs
  · cases hs
/-! new cells -/
theorem W_sz {H : Heap} {locs : List Loc} {σ : Mm} {g : JFrame} {slots : Nat} (C : Cx p R s m args meth c y B b n0 dC dI cA) (hR : Rl B b dC dI cA s n0 σ H locs) (k : H.size = B + σ.2.2.2.1 → W p l e R s m args below meth c H locs (σ.2.2.2.1 - n0) slots Q g) : W p l e R s m args below meth c H locs (σ.2.2.2.1 - n0) slots Q g := by
  intro T hT X
  refine k ?_ T hT X
  obtain ⟨hx, hb, hml, hown, hts, hK, hr, hlk, hin, hsz, hbB⟩ := C
  have h1 := X.heapSize
  rw [hT] at h1
  have h2 := hR.2.2.2.1
  have h3 := hR.2.1.1
  by_cases hn : σ.2.2.2.1 = n0
  · omega
  · have hlt : σ.2.2.2.1 - 1 < σ.2.2.2.1 := by omega
    have hw : (wld B b cA σ)[σ.2.2.2.1 - 1]? = some (B + (σ.2.2.2.1 - 1), ent B b cA σ (ADR (σ.2.2.2.1 - 1))) := by
      unfold wld
      rw [List.getElem?_map, List.getElem?_range hlt]
      rfl
    have h4 := va_at.lt (hR.1 _ _ hw)
    have h5 : B + (σ.2.2.2.1 - 1) < H.size := h4
    omega
theorem zr2_ne {α : Type} {f : Nat → Nat → α} {a a' : Nat} {v : α} (h : a' ≠ a) : zr2 f a v a' = f a' := by
  funext k'
  unfold zr2
  rw [if_neg h]
theorem ent_new_off {σ : Mm} {a' : Nat} (h : a' ≠ ADR σ.2.2.2.1) : ent B b cA (newC σ) a' = ent B b cA σ a' := by
  have e1 : (newC σ).1 a' = σ.1 a' := zr2_ne h
  have e2 : (newC σ).2.1 a' = σ.2.1 a' := zr2_ne h
  have e3 : (newC σ).2.2.1 a' = σ.2.2.1 a' := zr2_ne h
  unfold ent gV
  rw [e1, e2, e3]
theorem wld_new {σ : Mm} (h : σ.2.2.2.1 < NT) : wld B b cA (newC σ) = wld B b cA σ ++ [(B + σ.2.2.2.1, ent B b cA (newC σ) (ADR σ.2.2.2.1))] := by
  unfold wld
  rw [show (newC σ).2.2.2.1 = σ.2.2.2.1 + 1 from rfl, List.range_succ, List.map_append]
  congr 1
  apply List.map_congr_left
  intro i hi
  have hi := List.mem_range.mp hi
  rw [ent_new_off]
  intro e1
  have h1 := (lay1 (Nat.lt_trans hi h)).1
  have h2 := (lay1 h).1
  rw [e1] at h1
  omega
theorem Rl_new {σ : Mm} {H H' : Heap} {locs : List Loc} (hR : Rl B b dC dI cA s n0 σ H locs) (hn : σ.2.2.2.1 < NT) (hz : H.size = B + σ.2.2.2.1) (ho : ∀ q, q < B + σ.2.2.2.1 → H'[q]? = H[q]?) (hz' : H'.size = B + σ.2.2.2.1 + 1) (hnew : va_at (dC, dI) clsV (B + σ.2.2.2.1, ent B b cA (newC σ) (ADR σ.2.2.2.1)) H') : Rl B b dC dI cA s n0 (newC σ) H' locs := by
  refine ⟨?_, ⟨?_, fun q h1 h2 => ?_, hR.2.1.2.2⟩, ?_, ?_, hn⟩
  · rw [wld_new hn]
    refine (hR.1.kept fun k q hk => ho q.1 ?_).app ?_
    · have := va_at.lt (hR.1 k q hk)
      omega
    · intro k q hk
      have hz : k < 1 := (List.getElem?_eq_some_iff.mp hk).1
      rw [show k = 0 by omega] at hk
      cases hk
      exact hnew
  · have := hR.2.1.1
    omega
  · have h3 := hR.2.1.1
    rw [ho q (by omega)]
    exact hR.2.1.2.1 q h1 h2
  · have e1 : (newC σ).1 0 = σ.1 0 := zr2_ne (fun q => (lay1 hn).2.1 q.symm)
    rw [e1]
    exact hR.2.2.1
  · show n0 ≤ σ.2.2.2.1 + 1
    have := hR.2.2.2.1
    omega
theorem slN_le : ∀ {a b : Nat}, a ≤ b → slN a ≤ slN b := by
  intro a b h
  induction h with
  | refl => exact Nat.le_refl _
  | step _ ih => exact Nat.le_trans ih (Nat.le_add_right _ _)
theorem room_new {σ : Mm} (hn0 : n0 ≤ σ.2.2.2.1) (hc : σ.2.2.2.1 + 1 - n0 ≤ R.cells) (hsl : slN (σ.2.2.2.1 + 1) - slN n0 ≤ R.slots) : σ.2.2.2.1 - n0 + 1 ≤ R.cells ∧ slN σ.2.2.2.1 - slN n0 + szSh (SH (ADR σ.2.2.2.1)) ≤ R.slots := by
  have h1 := slN_le hn0
  have h2 : slN (σ.2.2.2.1 + 1) = slN σ.2.2.2.1 + szSh (SH (ADR σ.2.2.2.1)) := rfl
  omega
theorem WW_new {pc' : Nat} {L st : List Value} {σ : Mm} (k : WW p l e R s m args below meth c Q B b n0 y dC dI cA pc' L (.ref (ADR σ.2.2.2.1) :: st) (newC σ)) {H : Heap} {locs : List Loc} {ls : Array Slot} (hn : σ.2.2.2.1 < NT) (hn0 : n0 ≤ σ.2.2.2.1) (hR : Rl B b dC dI cA s n0 (newC σ) H locs) (hl : lvL B b ls (mMx y) L) : W p l e R s m args below meth c H locs (σ.2.2.2.1 - n0 + 1) (slN σ.2.2.2.1 - slN n0 + szSh (SH (ADR σ.2.2.2.1))) Q (F0 m pc' ls (.ref (B + σ.2.2.2.1) :: st.map (rl B b))) := by
  have h := k H locs ls hR hl
  have e1 : (newC σ).2.2.2.1 - n0 = σ.2.2.2.1 - n0 + 1 := by
    show σ.2.2.2.1 + 1 - n0 = _
    omega
  have e2 : slN (newC σ).2.2.2.1 - slN n0 = slN σ.2.2.2.1 - slN n0 + szSh (SH (ADR σ.2.2.2.1)) := by
    show slN σ.2.2.2.1 + szSh (SH (ADR σ.2.2.2.1)) - slN n0 = _
    have := slN_le hn0
    omega
  rw [e1, e2] at h
  have e3 : rl B b (.ref (ADR σ.2.2.2.1)) = .ref (B + σ.2.2.2.1) := by
    show Value.ref (ra B b (ADR σ.2.2.2.1)) = _
    rw [ra_ne (lay1 hn).2.1, (lay1 hn).1]
  rw [List.map_cons, e3] at h
  exact h
theorem ww_new {pc idx : Nat} {L st : List Value} {σ : Mm} {q : Nx} (C : Cx p R s m args meth c y B b n0 dC dI cA) (hd : decode (mCode y) pc = .ok (.new idx, 3)) (hs : sNew y idx (pc + 3) L st σ = some q) (hrm : q.2.2.2.2.2.2.1 - n0 ≤ R.cells ∧ slN q.2.2.2.2.2.2.1 - slN n0 ≤ R.slots)
    (k : WW p l e R s m args below meth c Q B b n0 y dC dI cA q.1 q.2.1 q.2.2.1 q.2.2.2) : WW p l e R s m args below meth c Q B b n0 y dC dI cA pc L st σ := by
  intro H locs ls hR hl
  refine W_sz C hR fun hz => ?_
  obtain ⟨hx, hb, hml, hown, hts, hK, hr, hlk, hin, hsz, hbB⟩ := C
  unfold sNew at hs
  split at hs
  · rename_i c1 hc1
    split at hs
    · rename_i hc
      cases hs
      obtain ⟨hn, hSH⟩ := hc
      obtain ⟨f1, f2, f3, f4⟩ := clk_ok hc1
      have hrm2 := room_new (R := R) hR.2.2.2.1 hrm.1 hrm.2
      have hsz2 : szSh (SH (ADR σ.2.2.2.1)) = nf c1 := by rw [hSH]; rfl
      rw [hsz2] at hrm2
      refine W.newcK hx hb hown (hts _ f2) (hts _ f3) (hts _ f4) rfl hd hrm2.1 hrm2.2 (hK.1.1 c1 _ (clsV_at f1)).2.1 hz fun H1 kC hkC e1 z1 o1 => ?_
      have h := WW_new k (H := H1) (locs := locs) (ls := ls) hn hR.2.2.2.1 (Rl_new hR hn hz o1 z1 ?_) hl
      · rw [hsz2] at h
        exact h
      · have he : ent B b cA (newC σ) (ADR σ.2.2.2.1) = .inr (c1, (List.range (nf c1)).map fun k => rl B b (gV (newC σ) (ADR σ.2.2.2.1) c1 k)) := by unfold ent; rw [hSH]; rfl
        rw [he]
        refine ⟨_, clsV_at f1, (u_born (fTy c1) hts (in_fields f1) (hK.1.1 c1 _ (clsV_at f1)) hkC e1 (ty_fields f1)).to fun j hj => ?_⟩
        have h1 : vp_V ((List.range (nf c1)).map fun k => rl B b (gV (newC σ) (ADR σ.2.2.2.1) c1 k)) j = rl B b (gV (newC σ) (ADR σ.2.2.2.1) c1 j) := by
          unfold vp_V
          rw [List.getD_eq_getElem?_getD, List.getElem?_map, List.getElem?_range hj]
          rfl
        rw [h1]
        have ht := tc_fields f1 hj
        have h9 : ftc c1 j = 0 ∨ ftc c1 j = 1 ∨ ftc c1 j = 2 ∨ ftc c1 j = 3 := by
          have := List.all_eq_true.mp (List.all_eq_true.mp ftc_rng c1 (List.mem_range.mpr f1)) j (List.mem_range.mpr hj)
          have := of_decide_eq_true this
          omega
        unfold gV newC zr2
        simp only [if_true]
        rcases h9 with h9 | h9 | h9 | h9 <;> rw [h9] at ht <;> split at ht <;> first | (rename_i e9; rw [e9, h9]; rfl) | cases ht
    · cases hs
  · cases hs
end STP2
