/-! rows of numbers and of references that are made; locals; numbers; branches; then any step -/
section STP3
variable {p : Program} {l : Launch} {e : Env} {R : Room} {s : State} {m : MethodId} {args : Array Value} {below : List Frame} {meth : Method} {c : Code} {Q : State → Prop}
variable {B b n0 y : Nat} {dC : Nat → ClassId} {dI : Nat → Nat → Nat} {cA : Nat → ClassId}
theorem ww_nrI {pc : Nat} {L st : List Value} {σ : Mm} {q : Nx} (C : Cx p R s m args meth c y B b n0 dC dI cA) (hd : decode (mCode y) pc = .ok (.newarray .int, 2)) (hs : sNra 2 (pc + 2) L st σ = some q) (hrm : q.2.2.2.2.2.2.1 - n0 ≤ R.cells ∧ slN q.2.2.2.2.2.2.1 - slN n0 ≤ R.slots)
    (k : WW p l e R s m args below meth c Q B b n0 y dC dI cA q.1 q.2.1 q.2.2.1 q.2.2.2) : WW p l e R s m args below meth c Q B b n0 y dC dI cA pc L st σ := by
  intro H locs ls hR hl
  refine W_sz C hR fun hz => ?_
  obtain ⟨hx, hb, hml, hown, hts, hK, hr, hlk, hin, hsz, hbB⟩ := C
  unfold sNra at hs
  split at hs
  · rename_i n r
    split at hs
    · rename_i hc
      cases hs
      obtain ⟨hnn, hn, hSH, hbig⟩ := hc
      have hrm2 := room_new (R := R) hR.2.2.2.1 hrm.1 hrm.2
      have hsz2 : szSh (SH (ADR σ.2.2.2.1)) = n.toNatClampNeg := by rw [hSH]; rfl
      rw [hsz2] at hrm2
      refine va_newaK (atype := .int) hx hb (hts _ arrI_ok.1) rfl hd rfl hnn rfl (by show n.toNatClampNeg * 4 ≤ _; omega) hrm2.1 hrm2.2 hz fun H1 cA' e1 z1 o1 hA hN => ?_
      have hcA : cA' = cA 2 := Option.some.inj (hN.symm.trans (hK.1.2 0 _ rfl).2)
      subst hcA
      have h := WW_new k (H := H1) (locs := locs) (ls := ls) hn hR.2.2.2.1 (Rl_new hR hn hz o1 z1 ?_) hl
      · rw [hsz2] at h
        exact h
      · rw [ent2 (by rw [hSH])]
        show H1[B + σ.2.2.2.1]? = some (vp_cell _ _)
        rw [e1, hSH, vp_cell_i]
        congr 2
        funext t
        show Value.int 0 = .int (zr2 σ.1 (ADR σ.2.2.2.1) 0 (ADR σ.2.2.2.1) t)
        unfold zr2
        rw [if_pos rfl]
    · cases hs
  · cases hs
theorem ww_nrJ {pc : Nat} {L st : List Value} {σ : Mm} {q : Nx} (C : Cx p R s m args meth c y B b n0 dC dI cA) (hd : decode (mCode y) pc = .ok (.newarray .long, 2)) (hs : sNra 3 (pc + 2) L st σ = some q) (hrm : q.2.2.2.2.2.2.1 - n0 ≤ R.cells ∧ slN q.2.2.2.2.2.2.1 - slN n0 ≤ R.slots)
    (k : WW p l e R s m args below meth c Q B b n0 y dC dI cA q.1 q.2.1 q.2.2.1 q.2.2.2) : WW p l e R s m args below meth c Q B b n0 y dC dI cA pc L st σ := by
  intro H locs ls hR hl
  refine W_sz C hR fun hz => ?_
  obtain ⟨hx, hb, hml, hown, hts, hK, hr, hlk, hin, hsz, hbB⟩ := C
  unfold sNra at hs
  split at hs
  · rename_i n r
    split at hs
    · rename_i hc
      cases hs
      obtain ⟨hnn, hn, hSH, hbig⟩ := hc
      have hrm2 := room_new (R := R) hR.2.2.2.1 hrm.1 hrm.2
      have hsz2 : szSh (SH (ADR σ.2.2.2.1)) = n.toNatClampNeg := by rw [hSH]; rfl
      rw [hsz2] at hrm2
      refine va_newaK (atype := .long) hx hb (hts _ arrI_ok.2) rfl hd rfl hnn rfl (by show n.toNatClampNeg * 8 ≤ _; omega) hrm2.1 hrm2.2 hz fun H1 cA' e1 z1 o1 hA hN => ?_
      have hcA : cA' = cA 3 := Option.some.inj (hN.symm.trans (hK.1.2 1 _ rfl).2)
      subst hcA
      have h := WW_new k (H := H1) (locs := locs) (ls := ls) hn hR.2.2.2.1 (Rl_new hR hn hz o1 z1 ?_) hl
      · rw [hsz2] at h
        exact h
      · rw [ent3 (by rw [hSH])]
        show H1[B + σ.2.2.2.1]? = some (vp_cell _ _)
        rw [e1, hSH, vp_cell_l]
        congr 2
        funext t
        show Value.long 0 = .long (zr2 σ.2.1 (ADR σ.2.2.2.1) 0 (ADR σ.2.2.2.1) t)
        unfold zr2
        rw [if_pos rfl]
    · cases hs
  · cases hs
theorem ww_ana {pc idx : Nat} {L st : List Value} {σ : Mm} {q : Nx} (C : Cx p R s m args meth c y B b n0 dC dI cA) (hd : decode (mCode y) pc = .ok (.anewarray idx, 3)) (hs : sAna y idx (pc + 3) L st σ = some q) (hrm : q.2.2.2.2.2.2.1 - n0 ≤ R.cells ∧ slN q.2.2.2.2.2.2.1 - slN n0 ≤ R.slots)
    (k : WW p l e R s m args below meth c Q B b n0 y dC dI cA q.1 q.2.1 q.2.2.1 q.2.2.2) : WW p l e R s m args below meth c Q B b n0 y dC dI cA pc L st σ := by
  intro H locs ls hR hl
  refine W_sz C hR fun hz => ?_
  obtain ⟨hx, hb, hml, hown, hts, hK, hr, hlk, hin, hsz, hbB⟩ := C
  unfold sAna at hs
  split at hs
  · rename_i c1 hc1
    split at hs
    · rename_i h3
      obtain ⟨f1, f2, f3, f4⟩ := clk_ok hc1
      unfold sNra at hs
      split at hs
      · rename_i n r
        split at hs
        · rename_i hc
          cases hs
          obtain ⟨hnn, hn, hSH, hbig⟩ := hc
          have hrm2 := room_new (R := R) hR.2.2.2.1 hrm.1 hrm.2
          have hsz2 : szSh (SH (ADR σ.2.2.2.1)) = n.toNatClampNeg := by
            rw [hSH]
            unfold szSh
            rw [if_neg (by omega)]
          rw [hsz2] at hrm2
          have hty : (tyA cA)[2 + c1]? = some (cA (4 + c1), .object (cName c1)) := by
            have : c1 = 0 ∨ c1 = 1 ∨ c1 = 2 := by omega
            rcases this with rfl | rfl | rfl <;> rfl
          refine W.anew hx hb hown (hts _ f2) (va_AO.use (hK.2.2 c1 h3)) rfl hd rfl hnn (by omega) hrm2.1 hrm2.2 fun cA' kA comp g1 g2 g3 g4 => ?_
          obtain ⟨kA2, comp2, k1, k2, k3, k4⟩ := (hK.1.2 _ _ hty).2
          have hcA : cA' = cA (4 + c1) := Option.some.inj (g1.symm.trans k4)
          subst hcA
          have hz1 : (H.push ({ cls := cA (4 + c1), slots := Array.replicate n.toNatClampNeg .null, vm := .none } : Cell)).size = B + σ.2.2.2.1 + 1 := by rw [Array.size_push, hz]
          have e1 : (H.push ({ cls := cA (4 + c1), slots := Array.replicate n.toNatClampNeg .null, vm := .none } : Cell))[B + σ.2.2.2.1]? = some (arrV (cA (4 + c1)) n.toNatClampNeg (fun _ => .null)) := by rw [← hz, Array.getElem?_push_size, ← arrV_new]
          have o1 : ∀ q : Nat, q < B + σ.2.2.2.1 → (H.push ({ cls := cA (4 + c1), slots := Array.replicate n.toNatClampNeg .null, vm := .none } : Cell))[q]? = H[q]? := fun q hq => by rw [Array.getElem?_push, if_neg (by omega)]
          have h := WW_new k (H := H.push ({ cls := cA (4 + c1), slots := Array.replicate n.toNatClampNeg .null, vm := .none } : Cell)) (locs := locs) (ls := ls) hn hR.2.2.2.1 (Rl_new hR hn hz o1 hz1 ?_) hl
          · rw [hsz2, ← hz] at h
            exact h
          · rw [ent4 (by rw [hSH]; show 4 ≤ 4 + c1; omega)]
            show _ = some (vp_cell _ _)
            rw [e1, hSH, vp_cell_q]
            congr 2
            funext t
            show Value.null = va_rf ((zr2 σ.2.2.1 (ADR σ.2.2.2.1) none (ADR σ.2.2.2.1) t).map (ra B b))
            unfold zr2
            rw [if_pos rfl]
            rfl
        · cases hs
      · cases hs
    · cases hs
  · cases hs
/-! locals -/
theorem ldI_spec {L : List Value} {x : Nat} {v : Int32} (h : ldI L x = some v) : L[x]? = some (.int v) := by
  unfold ldI at h
  split at h
  · rename_i h1
    cases h
    exact h1
  · cases h
theorem ldJ_spec {L : List Value} {x : Nat} {v : Int64} (h : ldJ L x = some v) : L[x]? = some (.long v) := by
  unfold ldJ at h
  split at h
  · rename_i h1
    cases h
    exact h1
  · cases h
theorem ldA_spec {L : List Value} {x : Nat} {v : Nat} (h : ldA L x = some v) : L[x]? = some (.ref v) := by
  unfold ldA at h
  split at h
  · rename_i h1
    cases h
    exact h1
  · cases h
theorem lv_iinc' {H : Heap} {locs : List Loc} {cells slots : Nat} {cc : ByteArray} {pc : Nat} {ls : Array Slot} {rest : List Value} (hexec : p.tables.exec = Jvm.exec) (hb : c.code = cc) {i nL len : Nat} {n : Int} {x : Int32} {lv : List (Nat × Value)} (hdg : decode cc pc = .ok (.iinc i n, len)) (h : lv_has ls nL lv) (hg : ls[i]? = some (.val (.int x))) (hn : i < nL)
    (kk : ∀ ls' : Array Slot, lv_has ls' nL ((i, Value.int (x + Int32.ofInt n)) :: lv.filter (fun q => !(q.1 == i) && !(q.1 + 1 == i && q.2.category == 2))) → W p l e R s m args below meth c H locs cells slots Q (F0 m (pc + len) ls' rest)) : W p l e R s m args below meth c H locs cells slots Q (F0 m pc ls rest) := by
  obtain ⟨ls', e', h'⟩ := lv_store1 (v := .int (x + Int32.ofInt n)) h hn rfl
  intro T hT X
  obtain ⟨t, a, b⟩ := kk ls' h' T hT X
  refine ⟨t, ?_, b⟩
  jvm_step X.here [X.here.top, ↓top_set X.here.top, hexec, hb, hdg, hg, e']
  exact a
/-! any step -/
theorem tgt_spec {pc t : Nat} {off : Int} (h : tgt pc off = some t) : (pc : Int) + off = (t : Int) := by
  unfold tgt at h
  split at h
  · cases h
    omega
  · cases h
theorem jmp_spec {pc : Nat} {off : Int} {L st : List Value} {σ : Mm} {q : Nx} (h : jmp pc off L st σ = some q) : ∃ t : Nat, (pc : Int) + off = (t : Int) ∧ q = (t, L, st, σ) := by
  unfold jmp at h
  obtain ⟨t, ht, e1⟩ := Option.map_eq_some_iff.mp h
  exact ⟨t, tgt_spec ht, e1.symm⟩
theorem stO_spec {pc : Nat} {L : List Value} {σ : Mm} {o : Option (List Value)} {q : Nx} (h : stO pc L σ o = some q) : ∃ r, o = some r ∧ q = (pc, L, r, σ) := by
  unfold stO at h
  obtain ⟨t, ht, e1⟩ := Option.map_eq_some_iff.mp h
  exact ⟨t, ht, e1.symm⟩
theorem pI1_spec {f : Int32 → Value} {st r : List Value} (h : pI1 f st = some r) : ∃ x t, st = .int x :: t ∧ r = f x :: t := by
  unfold pI1 at h
  split at h
  · cases h; exact ⟨_, _, rfl, rfl⟩
  · cases h
theorem pI2_spec {f : Int32 → Int32 → Value} {st r : List Value} (h : pI2 f st = some r) : ∃ x y t, st = .int y :: .int x :: t ∧ r = f x y :: t := by
  unfold pI2 at h
  split at h
  · cases h; exact ⟨_, _, _, rfl, rfl⟩
  · cases h
theorem pJ1_spec {f : Int64 → Value} {st r : List Value} (h : pJ1 f st = some r) : ∃ x t, st = .long x :: t ∧ r = f x :: t := by
  unfold pJ1 at h
  split at h
  · cases h; exact ⟨_, _, rfl, rfl⟩
  · cases h
theorem pJ2_spec {f : Int64 → Int64 → Value} {st r : List Value} (h : pJ2 f st = some r) : ∃ x y t, st = .long y :: .long x :: t ∧ r = f x y :: t := by
  unfold pJ2 at h
  split at h
  · cases h; exact ⟨_, _, _, rfl, rfl⟩
  · cases h
theorem pD2_spec {f : Int32 → Int32 → Value} {st r : List Value} (h : pD2 f st = some r) : ∃ x y t, ¬ y = 0 ∧ st = .int y :: .int x :: t ∧ r = f x y :: t := by
  unfold pD2 at h
  split at h
  · split at h
    · cases h
    · rename_i h0
      cases h; exact ⟨_, _, _, h0, rfl, rfl⟩
  · cases h
theorem pE2_spec {f : Int64 → Int64 → Value} {st r : List Value} (h : pE2 f st = some r) : ∃ x y t, ¬ y = 0 ∧ st = .long y :: .long x :: t ∧ r = f x y :: t := by
  unfold pE2 at h
  split at h
  · split at h
    · cases h
    · rename_i h0
      cases h; exact ⟨_, _, _, h0, rfl, rfl⟩
  · cases h
theorem pS2_spec {f : Int64 → Int32 → Value} {st r : List Value} (h : pS2 f st = some r) : ∃ x y t, st = .int y :: .long x :: t ∧ r = f x y :: t := by
  unfold pS2 at h
  split at h
  · cases h; exact ⟨_, _, _, rfl, rfl⟩
  · cases h
end STP3
