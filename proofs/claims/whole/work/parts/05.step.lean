/-! ONE STEP of the abstract machine is a step of the machine -/
section STP
variable {p : Program} {l : Launch} {e : Env} {R : Room} {s : State} {m : MethodId} {args : Array Value} {below : List Frame} {meth : Method} {c : Code} {Q : State → Prop}
variable {B b n0 y : Nat} {dC : Nat → ClassId} {dI : Nat → Nat → Nat} {cA : Nat → ClassId}
/-- a method's surroundings -/
def Cx (p : Program) (R : Room) (s : State) (m : MethodId) (args : Array Value) (meth : Method) (c : Code) (y B b n0 : Nat) (dC : Nat → ClassId) (dI : Nat → Nat → Nat) (cA : Nat → ClassId) : Prop :=
  p.tables.exec = Jvm.exec ∧ c.code = mCode y ∧ c.maxLocals = mMx y ∧ s.vm.findClass (cName (mOw y)) = some m.cls ∧ (∀ w ∈ lw_gd, w.before args s = true) ∧ KX dC dI cA s ∧ meth.sig.returnType = mRt y ∧ meth.locks = false ∧ (mKd y = 2 → meth.name = "<init>") ∧ s.heap.size = B + n0 ∧ b < B
/-- the memory as it stands in a heap -/
def Rl (B b : Nat) (dC : Nat → ClassId) (dI : Nat → Nat → Nat) (cA : Nat → ClassId) (s : State) (n0 : Nat) (σ : Mm) (H : Heap) (locs : List Loc) : Prop :=
  va_P (dC, dI) clsV (wld B b cA σ) H ∧ va_S (AA B) s.heap H locs ∧ va_X b σ.2.2.2.2 (σ.1 0) s s.heap ∧ n0 ≤ σ.2.2.2.1 ∧ σ.2.2.2.1 ≤ NT
abbrev WW (p : Program) (l : Launch) (e : Env) (R : Room) (s : State) (m : MethodId) (args : Array Value) (below : List Frame) (meth : Method) (c : Code) (Q : State → Prop) (B b n0 y : Nat) (dC : Nat → ClassId) (dI : Nat → Nat → Nat) (cA : Nat → ClassId) (pc : Nat) (L st : List Value) (σ : Mm) : Prop :=
  ∀ (H : Heap) (locs : List Loc) (ls : Array Slot), Rl B b dC dI cA s n0 σ H locs → lvL B b ls (mMx y) L → W p l e R s m args below meth c H locs (σ.2.2.2.1 - n0) (slN σ.2.2.2.1 - slN n0) Q (F0 m pc ls (st.map (rl B b)))
theorem ww_ld1 {pc len : Nat} {L st : List Value} {σ : Mm} {q : Nx} (hs : some (pc + len, L, st, σ) = some q) (k : WW p l e R s m args below meth c Q B b n0 y dC dI cA q.1 q.2.1 q.2.2.1 q.2.2.2) : WW p l e R s m args below meth c Q B b n0 y dC dI cA (pc + len) L st σ := by
  cases hs
  exact k
theorem bL {B n0 : Nat} {s : State} (h : s.heap.size = B + n0) (hb : b < B) : b < s.heap.size ∧ ¬ AA B b := ⟨by omega, fun q => by have : B ≤ b := q; omega⟩
theorem rl_w {x : Jvm.Cond} (C : Cx p R s m args meth c y B b n0 dC dI cA) (h : x ∈ lw_gd) : x.before args s = true := C.2.2.2.2.1 x h
/-! fields -/
theorem ww_get {pc len idx : Nat} {L st : List Value} {σ : Mm} {q : Nx} (C : Cx p R s m args meth c y B b n0 dC dI cA) (hd : decode (mCode y) pc = .ok (.getfield idx, 3)) (hs : sGet y idx (pc + 3) L st σ = some q)
    (k : WW p l e R s m args below meth c Q B b n0 y dC dI cA q.1 q.2.1 q.2.2.1 q.2.2.2) : WW p l e R s m args below meth c Q B b n0 y dC dI cA pc L st σ := by
  intro H locs ls hR hl
  obtain ⟨hx, hb, hml, hown, hts, hK, hr, hlk, hin, hsz, hbB⟩ := C
  unfold sGet at hs
  split at hs
  · rename_i a r
    split at hs
    · rename_i f hf
      obtain ⟨c1, k1⟩ := f
      split at hs
      · rename_i hc
        cases hs
        obtain ⟨hSH, hp⟩ := hc
        obtain ⟨f1, f2, f3⟩ := fld_ok hf
        have h0 := obj0 hSH
        have hw := wld_at (B := B) (b := b) (cA := cA) (σ := σ) h0 (by simp [hSH]) hp
        have he : ent B b cA σ a = .inr (c1, (List.range (nf c1)).map fun k => rl B b (gV σ a c1 k)) := by unfold ent; rw [hSH]; rfl
        rw [he] at hw
        show W p l e R s m args below meth c H locs _ _ Q (F0 m pc ls (.ref (ra B b a) :: r.map (rl B b)))
        rw [show ra B b a = B + pos a by unfold ra; rw [if_neg h0]]
        refine va_get (D := (dC, dI)) (C := cName c1) (T := fT c1) (N := nf c1) (own := cName (mOw y)) (ref := cName c1) hx hb hts (in_fields f1) hown hK.1 hR.1 (pos a) hw (clsV_at f1) k1 f2 (hts _ f3) (fun _ h => h) (v := rl B b (gV σ a c1 k1)) ?_ hd (k H locs ls hR hl)
        rw [List.getElem?_map, List.getElem?_range f2]
        rfl
      · cases hs
    · cases hs
  · cases hs
theorem X_up {σ : Mm} {a k : Nat} {v : Int32} (h : a ≠ 0) : (setI σ a k v).1 0 = σ.1 0 := up2_ne (fun q => h q.symm)
theorem nar_fit {c k : Nat} (hc : c < 13) (hk : k < nf c) {v : Value} {σ σ' : Mm} {a : Nat} (h : sV σ a c k v = some σ') : narrow (fTy c k) (rl B b v) = rl B b v ∧ fits (fTy c k) (rl B b v) = true := by
  have ht := tc_fields hc hk
  unfold sV at h
  split at h
  · rename_i x
    split at h
    · rename_i h0
      rw [ht] at h0
      split at h0 <;> first | (rename_i e; rw [e]; exact ⟨rfl, rfl⟩) | cases h0
    · split at h
      · rename_i h3
        obtain ⟨h3, hx⟩ := h3
        rw [ht] at h3
        split at h3 <;> first | cases h3 | skip
        rename_i e
        rw [e]
        rcases hx with rfl | rfl
        · exact ⟨show narrow .boolean (.int 0) = .int 0 by decide, show fits .boolean (.int 0) = true by decide⟩
        · exact ⟨show narrow .boolean (.int 1) = .int 1 by decide, show fits .boolean (.int 1) = true by decide⟩
      · cases h
  · split at h
    · rename_i h0
      rw [ht] at h0
      split at h0 <;> first | (rename_i e; rw [e]; exact ⟨rfl, rfl⟩) | cases h0
    · cases h
  · split at h
    · rename_i h0
      rw [ht] at h0
      split at h0 <;> first | (rename_i e; rw [e]; exact ⟨rfl, rfl⟩) | cases h0
    · cases h
  · cases h
theorem set_map_range {α : Type} {n k : Nat} {f g : Nat → α} (h : ∀ j, j ≠ k → g j = f j) : ((List.range n).map f).set k (g k) = (List.range n).map g := by
  apply List.ext_getElem?
  intro i
  rw [List.getElem?_set, List.getElem?_map, List.getElem?_map]
  by_cases hi : i < n
  · rw [List.getElem?_range hi]
    simp only [Option.map_some, List.length_map, List.length_range]
    split
    · rename_i e2
      subst e2
      first | rw [if_pos hi] | rfl
    · rename_i e2
      rw [h i (fun q => e2 q.symm)]
  · have h1 : (List.range n)[i]? = none := by simp; omega
    rw [h1]
    simp only [Option.map_none, List.length_map, List.length_range]
    split
    · rename_i e2
      subst e2
      first | rw [if_neg hi] | (exact absurd ‹_› hi)
    · rfl
theorem sV_ent {σ σ' : Mm} {a c1 k1 : Nat} {v : Value} (hc : c1 < 13) (hk : k1 < nf c1) (hSH : SH a = (1, c1)) (h : sV σ a c1 k1 v = some σ') :
    σ'.2.2.2 = σ.2.2.2 ∧ σ'.1 0 = σ.1 0 ∧ (∀ a', a' ≠ a → ent B b cA σ' a' = ent B b cA σ a') ∧ ent B b cA σ' a = .inr (c1, ((List.range (nf c1)).map fun k => rl B b (gV σ a c1 k)).set k1 (rl B b v)) := by
  have h0 := obj0 hSH
  have he : ∀ τ : Mm, ent B b cA τ a = .inr (c1, (List.range (nf c1)).map fun k => rl B b (gV τ a c1 k)) := fun τ => by unfold ent; rw [hSH]; rfl
  unfold sV at h
  split at h
  · rename_i x
    have key : (ftc c1 k1 = 0 ∨ ftc c1 k1 = 3) → (setI σ a k1 x).2.2.2 = σ.2.2.2 ∧ (setI σ a k1 x).1 0 = σ.1 0 ∧ (∀ a', a' ≠ a → ent B b cA (setI σ a k1 x) a' = ent B b cA σ a') ∧ ent B b cA (setI σ a k1 x) a = .inr (c1, ((List.range (nf c1)).map fun k => rl B b (gV σ a c1 k)).set k1 (rl B b (.int x))) := by
      intro ht
      refine ⟨rfl, X_up h0, fun a' => ent_I_off a', ?_⟩
      rw [he]
      congr 2
      have := set_map_range (n := nf c1) (k := k1) (f := fun k => rl B b (gV σ a c1 k)) (g := fun k => rl B b (gV (setI σ a k1 x) a c1 k)) (fun j hj => by simp only [gV_I]; rw [if_neg (fun q => hj q.2.1)])
      rw [← this]
      congr 1
      show rl B b (gV (setI σ a k1 x) a c1 k1) = _
      rw [gV_I, if_pos ⟨rfl, rfl, ht⟩]
    split at h
    · rename_i ht
      cases h
      exact key (Or.inl ht)
    · split at h
      · rename_i ht
        cases h
        exact key (Or.inr ht.1)
      · cases h
  · rename_i x
    split at h
    · rename_i ht
      cases h
      refine ⟨rfl, rfl, fun a' => ent_J_off a', ?_⟩
      rw [he]
      congr 2
      have := set_map_range (n := nf c1) (k := k1) (f := fun k => rl B b (gV σ a c1 k)) (g := fun k => rl B b (gV (setJ σ a k1 x) a c1 k)) (fun j hj => by simp only [gV_J]; rw [if_neg (fun q => hj q.2.1)])
      rw [← this]
      congr 1
      show rl B b (gV (setJ σ a k1 x) a c1 k1) = _
      rw [gV_J, if_pos ⟨rfl, rfl, ht⟩]
    · cases h
  · rename_i x
    split at h
    · rename_i ht
      cases h
      refine ⟨rfl, rfl, fun a' => ent_R_off a', ?_⟩
      rw [he]
      congr 2
      have := set_map_range (n := nf c1) (k := k1) (f := fun k => rl B b (gV σ a c1 k)) (g := fun k => rl B b (gV (setR σ a k1 (some x)) a c1 k)) (fun j hj => by simp only [gV_R]; rw [if_neg (fun q => hj q.2.1)])
      rw [← this]
      congr 1
      show rl B b (gV (setR σ a k1 (some x)) a c1 k1) = _
      rw [gV_R, if_pos ⟨rfl, rfl, by rw [ht]; decide, by rw [ht]; decide, by rw [ht]; decide⟩]
      rfl
    · cases h
  · cases h
theorem ww_put {pc idx : Nat} {L st : List Value} {σ : Mm} {q : Nx} (C : Cx p R s m args meth c y B b n0 dC dI cA) (hd : decode (mCode y) pc = .ok (.putfield idx, 3)) (hs : sPut y idx (pc + 3) L st σ = some q)
    (k : WW p l e R s m args below meth c Q B b n0 y dC dI cA q.1 q.2.1 q.2.2.1 q.2.2.2) : WW p l e R s m args below meth c Q B b n0 y dC dI cA pc L st σ := by
  intro H locs ls hR hl
  obtain ⟨hx, hb, hml, hown, hts, hK, hr, hlk, hin, hsz, hbB⟩ := C
  unfold sPut at hs
  split at hs
  · rename_i v a r
    split at hs
    · rename_i f hf
      obtain ⟨c1, k1⟩ := f
      split at hs
      · rename_i hc
        obtain ⟨σ', hv, e1⟩ := Option.map_eq_some_iff.mp hs
        cases e1
        obtain ⟨hSH, hp, hfin⟩ := hc
        obtain ⟨f1, f2, f3⟩ := fld_ok hf
        have h0 := obj0 hSH
        have hw := wld_at (B := B) (b := b) (cA := cA) (σ := σ) h0 (by simp [hSH]) hp
        have he : ent B b cA σ a = .inr (c1, (List.range (nf c1)).map fun k => rl B b (gV σ a c1 k)) := by unfold ent; rw [hSH]; rfl
        obtain ⟨g1, g2, g3, g4⟩ := sV_ent (B := B) (b := b) (cA := cA) f1 f2 hSH hv
        have hset := wld_set (B := B) (b := b) (cA := cA) (σ := σ) (σ' := σ') (by rw [g1]) hR.2.2.2.2 h0 (by simp [hSH]) hp g3
        rw [g4] at hset
        rw [he] at hw
        obtain ⟨n1, n2⟩ := nar_fit (B := B) (b := b) f1 f2 hv
        show W p l e R s m args below meth c H locs _ _ Q (F0 m pc ls (rl B b v :: .ref (ra B b a) :: r.map (rl B b)))
        rw [show ra B b a = B + pos a by unfold ra; rw [if_neg h0]]
        have fin : ∀ (H1 : Heap) (locs1 : List Loc), va_P (dC, dI) clsV ((wld B b cA σ).set (pos a) (B + pos a, .inr (c1, ((List.range (nf c1)).map fun k => rl B b (gV σ a c1 k)).set k1 (rl B b v)))) H1 → va_D (AA B) ((wld B b cA σ).set (pos a) (B + pos a, .inr (c1, ((List.range (nf c1)).map fun k => rl B b (gV σ a c1 k)).set k1 (rl B b v)))) → va_S (AA B) s.heap H1 locs1 → W p l e R s m args below meth c H1 locs1 (σ.2.2.2.1 - n0) (slN σ.2.2.2.1 - slN n0) Q (F0 m (pc + 3) ls (r.map (rl B b))) := by
          intro H1 locs1 q1 q2 q3
          rw [hset] at q1
          have := k H1 locs1 ls ⟨q1, q3, by rw [g1, g2]; exact hR.2.2.1, by rw [g1]; exact hR.2.2.2.1, by rw [g1]; exact hR.2.2.2.2⟩ hl
          rw [g1] at this
          exact this
        by_cases hf2 : (fQ c1 k1).2.2 = false
        · exact va_put (D := (dC, dI)) (C := cName c1) (T := fT c1) (N := nf c1) (own := cName (mOw y)) (ref := cName c1) hx hb hts (in_fields f1) (fTy c1) (ty_fields f1) (nm_fields f1) hown hK.1 hR.1 (wld_D B b cA σ) hR.2.1 (pos a) hw (clsV_at f1) k1 f2 (hts _ f3) (fun _ h => h) hf2 (ty := fTy c1 k1) (ty_fields f1 k1 f2) n1 n2 (by simp [f2]) hd fin
        · rcases hfin with q | ⟨q1, q2⟩
          · exact absurd q hf2
          · exact va_putF (D := (dC, dI)) (C := cName c1) (T := fT c1) (N := nf c1) (own := cName (mOw y)) (ref := cName c1) hx hb hts (in_fields f1) (fTy c1) (ty_fields f1) (nm_fields f1) hown hK.1 hR.1 (wld_D B b cA σ) hR.2.1 (pos a) hw (clsV_at f1) k1 f2 (hts _ f3) (fun _ h => h) (show (fQ c1 k1).2.2 = true by simpa using hf2) (hin q1) (by rw [q2]; rfl) (ty := fTy c1 k1) (ty_fields f1 k1 f2) n1 n2 (by simp [f2]) hd fin
      · cases hs
    · cases hs
  · cases hs
end STP
