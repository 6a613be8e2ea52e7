/-! THE RULES by which a run goes on, over a memory whose references are the fixed ones of the built objects (RF) -/
def rfRow (a : Nat) : List Nat := match a with
  | 1 => [2, 4, 11, 22, 27, 34, 38, 45]
  | 2 => [3]
  | 4 => [2, 5, 6, 7, 8, 9, 10]
  | 8 => [100, 101, 102, 103, 104, 105]
  | 11 => [4, 2, 12, 13, 14, 15, 16, 17, 18, 19, 20, 21]
  | 22 => [4, 11, 2, 23, 24, 25]
  | 25 => [26]
  | 27 => [4, 2, 28, 29, 30, 31, 32, 33]
  | 34 => [11, 2, 35, 36, 37]
  | 38 => [4, 11, 2, 39, 40, 41, 42, 43]
  | 43 => [44]
  | _ => []
def mdRow : List (Option Nat) := [none, none, none, none, none, none, none, none, none, none, some 47, some 48, some 49, some 50, some 51, some 52, some 53, some 54, some 55, some 56, some 57, some 58, some 59, none, none, none, some 60, some 61, some 62, some 63, none, none, none, none, none, none, some 64, some 65, some 66, some 67, none, some 68, none, none, none, some 69, some 70, some 71, some 72]
def RF (p : Nat → Nat) (a k : Nat) : Option Nat :=
  if a < 100 then (if a = 9 then (if k < 60 then some (200 + p k) else none) else if a = 13 then (if k < 30 then some (400 + k) else none) else if a = 14 then (if k < 30 then some (800 + k) else none) else if a = 24 then (if k < 30 then some (900 + k) else none) else if a = 46 then mdRow.getD k none else (rfRow a)[k]?)
  else if 200 ≤ a ∧ a < 260 then (if k = 1 then some (a + 100) else none)
  else if 400 ≤ a ∧ a < 430 then (if k = 0 then some (a + 100) else if k = 1 then some (a + 300) else if k = 2 then some (a + 400) else none)
  else if 500 ≤ a ∧ a < 530 then (if k = 0 then some (a + 100) else none)
  else none
def S (sl : Nat) (p : Nat → Nat) (I : Nat → Nat → Int32) (J : Nat → Nat → Int64) : Mm := (I, J, RF p, NT, sl)
def ob (a c : Nat) : Prop := SH a = (1, c) ∧ pos a < NT
def ar (a k n : Nat) : Prop := SH a = (k, n) ∧ pos a < NT ∧ a ≠ 0
def ixb (n : Nat) (j : Int32) : Bool := decide (¬ (j < 0 ∨ n ≤ j.toNatClampNeg))
def ck (b : Bool) (o : Option (Option Value × Mm)) : Option (Option Value × Mm) := match b with
  | true => o
  | false => none
theorem ck_t (o : Option (Option Value × Mm)) : ck true o = o := rfl
/-- what goes on behind a call -/
noncomputable def evK (d y pc : Nat) (L st : List Value) (o : Option (Option Value × Mm)) : Option (Option Value × Mm) := match o with
  | none => none
  | some (some v, σ) => ev d y pc L (v :: st) σ
  | some (none, σ) => ev d y pc L st σ
theorem evK_s {d y pc : Nat} {L st : List Value} {v : Value} {σ : Mm} : evK d y pc L st (some (some v, σ)) = ev d y pc L (v :: st) σ := rfl
theorem evK_v {d y pc : Nat} {L st : List Value} {σ : Mm} : evK d y pc L st (some (none, σ)) = ev d y pc L st σ := rfl
theorem ite2 {α : Type} {c : Prop} [Decidable c] {a a' b b' : α} (ha : a = a') (hb : b = b') : (if c then a else b) = if c then a' else b' := by rw [ha, hb]
theorem ck2 {b : Bool} {o o' : Option (Option Value × Mm)} (h : o = o') : ck b o = ck b o' := by rw [h]
def dOK (y : Nat) (l : List (Nat × Instr × Nat)) : Bool := l.all fun q => decide (decode (mCode y) q.1 = .ok (q.2.1, q.2.2))
theorem dk {y : Nat} {l : List (Nat × Instr × Nat)} (h : dOK y l = true) (k : Nat) {pc len : Nat} {i : Instr} (hk : l[k]? = some (pc, i, len)) : decode (mCode y) pc = .ok (i, len) := by
  have h1 := List.all_eq_true.mp h (pc, i, len) (List.mem_of_getElem? hk)
  generalize decode (mCode y) (pc, i, len).1 = o at h1
  exact of_decide_eq_true h1
theorem ev_go {d y pc len pc' : Nat} {i : Instr} {L st L' st' : List Value} {σ σ' : Mm} (hd : decode (mCode y) pc = .ok (i, len)) (hc : ctl i = 0) (hs : stp y i pc len L st σ = some (pc', L', st', σ')) : ev d y pc L st σ = ev d y pc' L' st' σ' := ev_step hd hc hs
theorem ev_no {d y pc len : Nat} {i : Instr} {L st : List Value} {σ : Mm} (hd : decode (mCode y) pc = .ok (i, len)) (hc : ctl i = 0) (hs : stp y i pc len L st σ = none) : ev d y pc L st σ = none := by
  cases h : ev d y pc L st σ with
  | none => rfl
  | some x =>
    obtain ⟨n, hn⟩ := ev_iff.mp h
    cases n with
    | zero => simp [irun] at hn
    | succ n => simp [irun, hd, hc, hs] at hn
section RUL
variable {d y pc : Nat} {L st : List Value} {σ : Mm} {sl : Nat} {p : Nat → Nat} {I : Nat → Nat → Int32} {J : Nat → Nat → Int64}
theorem r_ic {n : Int} {v : Int32} (hd : decode (mCode y) pc = .ok (.iconst n, 1)) (hv : Int32.ofInt n = v) : ev d y pc L st σ = ev d y (pc + 1) L (.int v :: st) σ := by subst hv; exact ev_go hd rfl rfl
theorem r_bp {n : Int} {v : Int32} (hd : decode (mCode y) pc = .ok (.bipush n, 2)) (hv : (Int8.ofInt n).toInt32 = v) : ev d y pc L st σ = ev d y (pc + 2) L (.int v :: st) σ := by subst hv; exact ev_go hd rfl rfl
theorem r_sp {n : Int} {v : Int32} (hd : decode (mCode y) pc = .ok (.sipush n, 3)) (hv : (Int16.ofInt n).toInt32 = v) : ev d y pc L st σ = ev d y (pc + 3) L (.int v :: st) σ := by subst hv; exact ev_go hd rfl rfl
theorem r_lc {n : Fin 2} {v : Int64} (hd : decode (mCode y) pc = .ok (.lconst n, 1)) (hv : Int64.ofNat (n : Nat) = v) : ev d y pc L st σ = ev d y (pc + 1) L (.long v :: st) σ := by subst hv; exact ev_go hd rfl rfl
theorem r_ldc {x own : Nat} {v : Int32} (hd : decode (mCode y) pc = .ok (.ldc x, 2)) (ho : mOw y = own) (h : kI own x = some v) : ev d y pc L st σ = ev d y (pc + 2) L (.int v :: st) σ := by subst ho; exact ev_go hd rfl (by simp [stp, lnO, h])
theorem r_ldcw {x own : Nat} {v : Int32} (hd : decode (mCode y) pc = .ok (.ldc_w x, 3)) (ho : mOw y = own) (h : kI own x = some v) : ev d y pc L st σ = ev d y (pc + 3) L (.int v :: st) σ := by subst ho; exact ev_go hd rfl (by simp [stp, lnO, h])
theorem r_ld2 {x own : Nat} {v : Int64} (hd : decode (mCode y) pc = .ok (.ldc2_w x, 3)) (ho : mOw y = own) (h : kL own x = some v) : ev d y pc L st σ = ev d y (pc + 3) L (.long v :: st) σ := by subst ho; exact ev_go hd rfl (by simp [stp, lnO, h])
theorem r_il {x : Nat} {v : Int32} (hd : decode (mCode y) pc = .ok (.iload x, 2)) (h : ldI L x = some v) : ev d y pc L st σ = ev d y (pc + 2) L (.int v :: st) σ := ev_go hd rfl (by simp [stp, lnO, h])
theorem r_iln {x : Fin 4} {v : Int32} (hd : decode (mCode y) pc = .ok (.iload_n x, 1)) (h : ldI L x = some v) : ev d y pc L st σ = ev d y (pc + 1) L (.int v :: st) σ := ev_go hd rfl (by simp [stp, lnO, h])
theorem r_ll {x : Nat} {v : Int64} (hd : decode (mCode y) pc = .ok (.lload x, 2)) (h : ldJ L x = some v) : ev d y pc L st σ = ev d y (pc + 2) L (.long v :: st) σ := ev_go hd rfl (by simp [stp, lnO, h])
theorem r_lln {x : Fin 4} {v : Int64} (hd : decode (mCode y) pc = .ok (.lload_n x, 1)) (h : ldJ L x = some v) : ev d y pc L st σ = ev d y (pc + 1) L (.long v :: st) σ := ev_go hd rfl (by simp [stp, lnO, h])
theorem r_al {x : Nat} {v : Nat} (hd : decode (mCode y) pc = .ok (.aload x, 2)) (h : ldA L x = some v) : ev d y pc L st σ = ev d y (pc + 2) L (.ref v :: st) σ := ev_go hd rfl (by simp [stp, lnO, h])
theorem r_aln {x : Fin 4} {v : Nat} (hd : decode (mCode y) pc = .ok (.aload_n x, 1)) (h : ldA L x = some v) : ev d y pc L st σ = ev d y (pc + 1) L (.ref v :: st) σ := ev_go hd rfl (by simp [stp, lnO, h])
theorem r_is {x : Nat} {v : Int32} {L' : List Value} (hd : decode (mCode y) pc = .ok (.istore x, 2)) (hx : x < L.length) (h : st1 L x (.int v) = L') : ev d y pc L (.int v :: st) σ = ev d y (pc + 2) L' st σ := by subst h; exact ev_go hd rfl (by simp [stp, lnO, sI, hx])
theorem r_isn {x : Fin 4} {v : Int32} {L' : List Value} (hd : decode (mCode y) pc = .ok (.istore_n x, 1)) (hx : (x : Nat) < L.length) (h : st1 L x (.int v) = L') : ev d y pc L (.int v :: st) σ = ev d y (pc + 1) L' st σ := by subst h; exact ev_go hd rfl (by simp [stp, lnO, sI, hx])
theorem r_ls {x : Nat} {v : Int64} {L' : List Value} (hd : decode (mCode y) pc = .ok (.lstore x, 2)) (hx : x + 1 < L.length) (h : st2 L x (.long v) = L') : ev d y pc L (.long v :: st) σ = ev d y (pc + 2) L' st σ := by subst h; exact ev_go hd rfl (by simp [stp, lnO, sJ, hx])
theorem r_lsn {x : Fin 4} {v : Int64} {L' : List Value} (hd : decode (mCode y) pc = .ok (.lstore_n x, 1)) (hx : (x : Nat) + 1 < L.length) (h : st2 L x (.long v) = L') : ev d y pc L (.long v :: st) σ = ev d y (pc + 1) L' st σ := by subst h; exact ev_go hd rfl (by simp [stp, lnO, sJ, hx])
theorem r_as {x : Nat} {v : Nat} {L' : List Value} (hd : decode (mCode y) pc = .ok (.astore x, 2)) (hx : x < L.length) (h : st1 L x (.ref v) = L') : ev d y pc L (.ref v :: st) σ = ev d y (pc + 2) L' st σ := by subst h; exact ev_go hd rfl (by simp [stp, lnO, sA, hx])
theorem r_asn {x : Fin 4} {v : Nat} {L' : List Value} (hd : decode (mCode y) pc = .ok (.astore_n x, 1)) (hx : (x : Nat) < L.length) (h : st1 L x (.ref v) = L') : ev d y pc L (.ref v :: st) σ = ev d y (pc + 1) L' st σ := by subst h; exact ev_go hd rfl (by simp [stp, lnO, sA, hx])
theorem r_inc {x len : Nat} {k : Int} {v w : Int32} {L' : List Value} (hd : decode (mCode y) pc = .ok (.iinc x k, len)) (hl : lnO (.iinc x k) len = true) (hv : ldI L x = some v) (hw : Int32.ofInt k = w) (hx : x < L.length) (h : st1 L x (.int (v + w)) = L') : ev d y pc L st σ = ev d y (pc + len) L' st σ := by subst h; subst hw; exact ev_go hd rfl (by simp [stp, hl, sInc, hx, hv])
theorem r_iadd {a b : Int32} (hd : decode (mCode y) pc = .ok (.iadd, 1)) : ev d y pc L (.int b :: .int a :: st) σ = ev d y (pc + 1) L (.int (a + b) :: st) σ := ev_go hd rfl rfl
theorem r_isub {a b : Int32} (hd : decode (mCode y) pc = .ok (.isub, 1)) : ev d y pc L (.int b :: .int a :: st) σ = ev d y (pc + 1) L (.int (a - b) :: st) σ := ev_go hd rfl rfl
theorem r_imul {a b : Int32} (hd : decode (mCode y) pc = .ok (.imul, 1)) : ev d y pc L (.int b :: .int a :: st) σ = ev d y (pc + 1) L (.int (a * b) :: st) σ := ev_go hd rfl rfl
theorem r_iand {a b : Int32} (hd : decode (mCode y) pc = .ok (.iand, 1)) : ev d y pc L (.int b :: .int a :: st) σ = ev d y (pc + 1) L (.int (a &&& b) :: st) σ := ev_go hd rfl rfl
theorem r_ior {a b : Int32} (hd : decode (mCode y) pc = .ok (.ior, 1)) : ev d y pc L (.int b :: .int a :: st) σ = ev d y (pc + 1) L (.int (a ||| b) :: st) σ := ev_go hd rfl rfl
theorem r_ishl {a b : Int32} (hd : decode (mCode y) pc = .ok (.ishl, 1)) : ev d y pc L (.int b :: .int a :: st) σ = ev d y (pc + 1) L (.int (a <<< (b &&& 31)) :: st) σ := ev_go hd rfl rfl
theorem r_ishr {a b : Int32} (hd : decode (mCode y) pc = .ok (.ishr, 1)) : ev d y pc L (.int b :: .int a :: st) σ = ev d y (pc + 1) L (.int (a >>> (b &&& 31)) :: st) σ := ev_go hd rfl rfl
theorem r_iushr {a b : Int32} (hd : decode (mCode y) pc = .ok (.iushr, 1)) : ev d y pc L (.int b :: .int a :: st) σ = ev d y (pc + 1) L (.int (a.toUInt32 >>> (b.toUInt32 &&& Int32.toUInt32 31)).toInt32 :: st) σ := ev_go hd rfl rfl
theorem r_ineg {a : Int32} (hd : decode (mCode y) pc = .ok (.ineg, 1)) : ev d y pc L (.int a :: st) σ = ev d y (pc + 1) L (.int (-a) :: st) σ := ev_go hd rfl rfl
theorem r_idiv {a b : Int32} (hd : decode (mCode y) pc = .ok (.idiv, 1)) (hb : ¬ b = 0) : ev d y pc L (.int b :: .int a :: st) σ = ev d y (pc + 1) L (.int (a / b) :: st) σ := ev_go hd rfl (by simp [stp, lnO, stO, pD2, hb])
theorem r_irem {a b : Int32} (hd : decode (mCode y) pc = .ok (.irem, 1)) (hb : ¬ b = 0) : ev d y pc L (.int b :: .int a :: st) σ = ev d y (pc + 1) L (.int (a - a / b * b) :: st) σ := ev_go hd rfl (by simp [stp, lnO, stO, pD2, hb])
theorem r_idivc {a b : Int32} (hd : decode (mCode y) pc = .ok (.idiv, 1)) : ev d y pc L (.int b :: .int a :: st) σ = ck (!decide (b = 0)) (ev d y (pc + 1) L (.int (a / b) :: st) σ) := by
  by_cases hb : b = 0
  · rw [show (!decide (b = 0)) = false by simp [hb]]
    exact ev_no hd rfl (by simp [stp, lnO, stO, pD2, hb])
  · rw [show (!decide (b = 0)) = true by simp [hb]]
    exact r_idiv hd hb
theorem r_ldiv {a b : Int64} (hd : decode (mCode y) pc = .ok (.ldiv, 1)) (hb : ¬ b = 0) : ev d y pc L (.long b :: .long a :: st) σ = ev d y (pc + 1) L (.long (a / b) :: st) σ := ev_go hd rfl (by simp [stp, lnO, stO, pE2, hb])
theorem r_ldivc {a b : Int64} (hd : decode (mCode y) pc = .ok (.ldiv, 1)) : ev d y pc L (.long b :: .long a :: st) σ = ck (!decide (b = 0)) (ev d y (pc + 1) L (.long (a / b) :: st) σ) := by
  by_cases hb : b = 0
  · rw [show (!decide (b = 0)) = false by simp [hb]]
    exact ev_no hd rfl (by simp [stp, lnO, stO, pE2, hb])
  · rw [show (!decide (b = 0)) = true by simp [hb]]
    exact r_ldiv hd hb
theorem r_i2l {a : Int32} (hd : decode (mCode y) pc = .ok (.i2l, 1)) : ev d y pc L (.int a :: st) σ = ev d y (pc + 1) L (.long a.toInt64 :: st) σ := ev_go hd rfl rfl
theorem r_l2i {a : Int64} (hd : decode (mCode y) pc = .ok (.l2i, 1)) : ev d y pc L (.long a :: st) σ = ev d y (pc + 1) L (.int a.toInt32 :: st) σ := ev_go hd rfl rfl
theorem r_ladd {a b : Int64} (hd : decode (mCode y) pc = .ok (.ladd, 1)) : ev d y pc L (.long b :: .long a :: st) σ = ev d y (pc + 1) L (.long (a + b) :: st) σ := ev_go hd rfl rfl
theorem r_lsub {a b : Int64} (hd : decode (mCode y) pc = .ok (.lsub, 1)) : ev d y pc L (.long b :: .long a :: st) σ = ev d y (pc + 1) L (.long (a - b) :: st) σ := ev_go hd rfl rfl
theorem r_lmul {a b : Int64} (hd : decode (mCode y) pc = .ok (.lmul, 1)) : ev d y pc L (.long b :: .long a :: st) σ = ev d y (pc + 1) L (.long (a * b) :: st) σ := ev_go hd rfl rfl
theorem r_lneg {a : Int64} (hd : decode (mCode y) pc = .ok (.lneg, 1)) : ev d y pc L (.long a :: st) σ = ev d y (pc + 1) L (.long (-a) :: st) σ := ev_go hd rfl rfl
theorem r_lshr {a : Int64} {b : Int32} (hd : decode (mCode y) pc = .ok (.lshr, 1)) : ev d y pc L (.int b :: .long a :: st) σ = ev d y (pc + 1) L (.long (a >>> (b.toInt64 &&& 63)) :: st) σ := ev_go hd rfl rfl
theorem r_dup {v : Value} (hd : decode (mCode y) pc = .ok (.dup, 1)) (hv : v.category = 1) : ev d y pc L (v :: st) σ = ev d y (pc + 1) L (v :: v :: st) σ := ev_go hd rfl (by simp [stp, lnO, sDup, hv])
theorem r_dup2 {v w : Value} (hd : decode (mCode y) pc = .ok (.dup2, 1)) (hv : v.category = 1) (hw : w.category = 1) : ev d y pc L (v :: w :: st) σ = ev d y (pc + 1) L (v :: w :: v :: w :: st) σ := ev_go hd rfl (by simp [stp, lnO, sDup2, hv, hw])
theorem r_pop {v : Value} (hd : decode (mCode y) pc = .ok (.pop, 1)) (hv : v.category = 1) : ev d y pc L (v :: st) σ = ev d y (pc + 1) L st σ := ev_go hd rfl (by simp [stp, lnO, sPop, hv])
theorem r_goto {off : Int} {t : Nat} {s : List Nat} {L' : List Value} (hd : decode (mCode y) pc = .ok (.goto off, 3)) (ht : tgt pc off = some t) (hn : nds y t = s) (hL : clrs s L = L') : ev d y pc L st σ = ev d y t L' st σ := by subst hn; subst hL; exact ev_go hd rfl (by simp [stp, lnO, jmpN, ht])
theorem r_ret {a : Int32} (hd : decode (mCode y) pc = .ok (.ireturn, 1)) (hr : mRt y = some .int) : ev d y pc L [.int a] σ = some (some (.int a), σ) := ev_ret hd rfl (by simp [rtV, hr])
theorem r_rez {a : Int32} (hd : decode (mCode y) pc = .ok (.ireturn, 1)) (hr : mRt y = some .boolean) (ha : a = 0 ∨ a = 1) : ev d y pc L [.int a] σ = some (some (.int a), σ) := ev_ret hd rfl (by simp [rtV, hr, ha])
theorem r_rezc {a : Int32} (hd : decode (mCode y) pc = .ok (.ireturn, 1)) (hr : mRt y = some .boolean) : ev d y pc L [.int a] σ = ck (decide (a = 0 ∨ a = 1)) (some (some (.int a), σ)) := by
  by_cases h : a = 0 ∨ a = 1
  · rw [show decide (a = 0 ∨ a = 1) = true by simp [h]]
    exact r_rez hd hr h
  · rw [show decide (a = 0 ∨ a = 1) = false by simpa using h]
    cases hh : ev d y pc L [.int a] σ with
    | none => rfl
    | some x =>
      obtain ⟨n, hn⟩ := ev_iff.mp hh
      cases n with
      | zero => simp [irun] at hn
      | succ n => simp [irun, hd, ctl, rtV, hr, h] at hn
theorem r_rel {a : Int64} (hd : decode (mCode y) pc = .ok (.lreturn, 1)) (hr : mRt y = some .long) : ev d y pc L [.long a] σ = some (some (.long a), σ) := ev_ret hd rfl (by simp [rtV, hr])
theorem r_rea {a : Nat} (hd : decode (mCode y) pc = .ok (.areturn, 1)) (hr : isOb (mRt y) = true) : ev d y pc L [.ref a] σ = some (some (.ref a), σ) := ev_ret hd rfl (by simp [rtV, hr])
theorem r_rev (hd : decode (mCode y) pc = .ok (.return_, 1)) (hr : mRt y = none) : ev d y pc L [] σ = some (none, σ) := ev_ret hd rfl (by simp [rtV, hr])
theorem r_if0 {c : ClassFile.Cond} {off : Int} {t : Nat} {a : Int32} (hd : decode (mCode y) pc = .ok (.ifCond c off, 3)) (ht : tgt pc off = some t) : ev d y pc L (.int a :: st) σ = if cnd c a 0 then ev d y t L st σ else ev d y (pc + 3) L st σ := by
  rw [ev_step hd rfl (q := (if cnd c a 0 then t else pc + 3, L, st, σ)) (by simp [stp, lnO, sIf, ht])]
  split <;> rfl
theorem r_if2 {c : ClassFile.Cond} {off : Int} {t : Nat} {a b : Int32} (hd : decode (mCode y) pc = .ok (.if_icmp c off, 3)) (ht : tgt pc off = some t) : ev d y pc L (.int b :: .int a :: st) σ = if cnd c a b then ev d y t L st σ else ev d y (pc + 3) L st σ := by
  rw [ev_step hd rfl (q := (if cnd c a b then t else pc + 3, L, st, σ)) (by simp [stp, lnO, sIc, ht])]
  split <;> rfl
theorem flip_if {α : Type} {c e : Prop} [Decidable c] [Decidable e] {a b : α} (h : c ↔ ¬ e) : (if c then a else b) = if e then b else a := by
  by_cases he : e
  · rw [if_pos he, if_neg (fun q => (h.mp q) he)]
  · rw [if_neg he, if_pos (h.mpr he)]
theorem same_if {α : Type} {c e : Prop} [Decidable c] [Decidable e] {a b : α} (h : c ↔ e) : (if c then a else b) = if e then a else b := by
  by_cases he : e
  · rw [if_pos he, if_pos (h.mpr he)]
  · rw [if_neg he, if_neg (fun q => he (h.mp q))]
theorem i32_nle {a b : Int32} : b ≤ a ↔ ¬ a < b := by rw [Int32.le_iff_toInt_le, Int32.lt_iff_toInt_lt]; omega
theorem i32_nlt {a b : Int32} : b < a ↔ ¬ a ≤ b := by rw [Int32.le_iff_toInt_le, Int32.lt_iff_toInt_lt]; omega
theorem i64_nle {a b : Int64} : b ≤ a ↔ ¬ a < b := by rw [Int64.le_iff_toInt_le, Int64.lt_iff_toInt_lt]; omega
theorem i64_nlt {a b : Int64} : b < a ↔ ¬ a ≤ b := by rw [Int64.le_iff_toInt_le, Int64.lt_iff_toInt_lt]; omega
/-! the six compares with 0, of two ints, of two longs: 'then' goes on, 'else' jumps, or the other way round -/
theorem r_eq0 {off : Int} {t : Nat} {a : Int32} (hd : decode (mCode y) pc = .ok (.ifCond .eq off, 3)) (ht : tgt pc off = some t) : ev d y pc L (.int a :: st) σ = if a = 0 then ev d y t L st σ else ev d y (pc + 3) L st σ := (r_if0 hd ht).trans (same_if (by simp [cnd]))
theorem r_ne0 {off : Int} {t : Nat} {a : Int32} (hd : decode (mCode y) pc = .ok (.ifCond .ne off, 3)) (ht : tgt pc off = some t) : ev d y pc L (.int a :: st) σ = if a = 0 then ev d y (pc + 3) L st σ else ev d y t L st σ := (r_if0 hd ht).trans (flip_if (by simp [cnd]))
theorem r_lt0 {off : Int} {t : Nat} {a : Int32} (hd : decode (mCode y) pc = .ok (.ifCond .lt off, 3)) (ht : tgt pc off = some t) : ev d y pc L (.int a :: st) σ = if a < 0 then ev d y t L st σ else ev d y (pc + 3) L st σ := (r_if0 hd ht).trans (same_if (by simp [cnd]))
theorem r_ge0 {off : Int} {t : Nat} {a : Int32} (hd : decode (mCode y) pc = .ok (.ifCond .ge off, 3)) (ht : tgt pc off = some t) : ev d y pc L (.int a :: st) σ = if a < 0 then ev d y (pc + 3) L st σ else ev d y t L st σ := (r_if0 hd ht).trans (flip_if (by simp only [cnd, decide_eq_true_eq]; exact i32_nle))
theorem r_gt0 {off : Int} {t : Nat} {a : Int32} (hd : decode (mCode y) pc = .ok (.ifCond .gt off, 3)) (ht : tgt pc off = some t) : ev d y pc L (.int a :: st) σ = if a ≤ 0 then ev d y (pc + 3) L st σ else ev d y t L st σ := (r_if0 hd ht).trans (flip_if (by simp only [cnd, decide_eq_true_eq]; exact i32_nlt))
theorem r_le0 {off : Int} {t : Nat} {a : Int32} (hd : decode (mCode y) pc = .ok (.ifCond .le off, 3)) (ht : tgt pc off = some t) : ev d y pc L (.int a :: st) σ = if a ≤ 0 then ev d y t L st σ else ev d y (pc + 3) L st σ := (r_if0 hd ht).trans (same_if (by simp [cnd]))
theorem r_eq {off : Int} {t : Nat} {a b : Int32} (hd : decode (mCode y) pc = .ok (.if_icmp .eq off, 3)) (ht : tgt pc off = some t) : ev d y pc L (.int b :: .int a :: st) σ = if a = b then ev d y t L st σ else ev d y (pc + 3) L st σ := (r_if2 hd ht).trans (same_if (by simp [cnd]))
theorem r_ne {off : Int} {t : Nat} {a b : Int32} (hd : decode (mCode y) pc = .ok (.if_icmp .ne off, 3)) (ht : tgt pc off = some t) : ev d y pc L (.int b :: .int a :: st) σ = if a = b then ev d y (pc + 3) L st σ else ev d y t L st σ := (r_if2 hd ht).trans (flip_if (by simp [cnd]))
theorem r_lt {off : Int} {t : Nat} {a b : Int32} (hd : decode (mCode y) pc = .ok (.if_icmp .lt off, 3)) (ht : tgt pc off = some t) : ev d y pc L (.int b :: .int a :: st) σ = if a < b then ev d y t L st σ else ev d y (pc + 3) L st σ := (r_if2 hd ht).trans (same_if (by simp [cnd]))
theorem r_ge {off : Int} {t : Nat} {a b : Int32} (hd : decode (mCode y) pc = .ok (.if_icmp .ge off, 3)) (ht : tgt pc off = some t) : ev d y pc L (.int b :: .int a :: st) σ = if a < b then ev d y (pc + 3) L st σ else ev d y t L st σ := (r_if2 hd ht).trans (flip_if (by simp only [cnd, decide_eq_true_eq]; exact i32_nle))
theorem r_gt {off : Int} {t : Nat} {a b : Int32} (hd : decode (mCode y) pc = .ok (.if_icmp .gt off, 3)) (ht : tgt pc off = some t) : ev d y pc L (.int b :: .int a :: st) σ = if a ≤ b then ev d y (pc + 3) L st σ else ev d y t L st σ := (r_if2 hd ht).trans (flip_if (by simp only [cnd, decide_eq_true_eq]; exact i32_nlt))
theorem r_le {off : Int} {t : Nat} {a b : Int32} (hd : decode (mCode y) pc = .ok (.if_icmp .le off, 3)) (ht : tgt pc off = some t) : ev d y pc L (.int b :: .int a :: st) σ = if a ≤ b then ev d y t L st σ else ev d y (pc + 3) L st σ := (r_if2 hd ht).trans (same_if (by simp [cnd]))
theorem r_lcmp {a b : Int64} (hd : decode (mCode y) pc = .ok (.lcmp, 1)) : ev d y pc L (.long b :: .long a :: st) σ = ev d y (pc + 1) L (.int (lg_cmp a b) :: st) σ := ev_go hd rfl rfl
theorem lgc_lt (a b : Int64) : lg_cmp a b < 0 ↔ a < b := by
  have h := lg_cmp_ge a b
  have h1 : ∀ x : Int32, x < 0 ↔ ¬ 0 ≤ x := fun x => i32_nlt
  rw [h1, h]
  exact (i64_nlt).symm
theorem lgc_eq (a b : Int64) : lg_cmp a b = 0 ↔ a = b := by
  unfold lg_cmp
  by_cases h1 : a > b
  · rw [if_pos h1]
    refine ⟨fun q => absurd q (by decide), fun q => ?_⟩
    subst q
    have h2 : a.toInt < a.toInt := Int64.lt_iff_toInt_lt.mp h1
    omega
  · rw [if_neg h1]
    by_cases h2 : a = b
    · simp [h2]
    · simp [h2]
theorem lgc_le (a b : Int64) : lg_cmp a b ≤ 0 ↔ a ≤ b := by
  unfold lg_cmp
  by_cases h1 : a > b
  · rw [if_pos h1]
    refine ⟨fun q => absurd q (by decide), fun q => ?_⟩
    have h2 : b.toInt < a.toInt := Int64.lt_iff_toInt_lt.mp h1
    have h3 : a.toInt ≤ b.toInt := Int64.le_iff_toInt_le.mp q
    omega
  · rw [if_neg h1]
    have h3 : a ≤ b := by
      have h4 : ¬ b.toInt < a.toInt := fun q => h1 (Int64.lt_iff_toInt_lt.mpr q)
      exact Int64.le_iff_toInt_le.mpr (by omega)
    by_cases h2 : a = b
    · simp [h2]
    · rw [if_neg h2]
      exact ⟨fun _ => h3, fun _ => by decide⟩
theorem r_jlt {off : Int} {t : Nat} {a b : Int64} (h0 : decode (mCode y) pc = .ok (.lcmp, 1)) (hd : decode (mCode y) (pc + 1) = .ok (.ifCond .lt off, 3)) (ht : tgt (pc + 1) off = some t) : ev d y pc L (.long b :: .long a :: st) σ = if a < b then ev d y t L st σ else ev d y (pc + 4) L st σ := (r_lcmp h0).trans ((r_lt0 hd ht).trans (same_if (lgc_lt a b)))
theorem r_jge {off : Int} {t : Nat} {a b : Int64} (h0 : decode (mCode y) pc = .ok (.lcmp, 1)) (hd : decode (mCode y) (pc + 1) = .ok (.ifCond .ge off, 3)) (ht : tgt (pc + 1) off = some t) : ev d y pc L (.long b :: .long a :: st) σ = if a < b then ev d y (pc + 4) L st σ else ev d y t L st σ := (r_lcmp h0).trans ((r_ge0 hd ht).trans (same_if (lgc_lt a b)))
theorem r_jgt {off : Int} {t : Nat} {a b : Int64} (h0 : decode (mCode y) pc = .ok (.lcmp, 1)) (hd : decode (mCode y) (pc + 1) = .ok (.ifCond .gt off, 3)) (ht : tgt (pc + 1) off = some t) : ev d y pc L (.long b :: .long a :: st) σ = if a ≤ b then ev d y (pc + 4) L st σ else ev d y t L st σ := (r_lcmp h0).trans ((r_gt0 hd ht).trans (same_if (lgc_le a b)))
theorem r_jle {off : Int} {t : Nat} {a b : Int64} (h0 : decode (mCode y) pc = .ok (.lcmp, 1)) (hd : decode (mCode y) (pc + 1) = .ok (.ifCond .le off, 3)) (ht : tgt (pc + 1) off = some t) : ev d y pc L (.long b :: .long a :: st) σ = if a ≤ b then ev d y t L st σ else ev d y (pc + 4) L st σ := (r_lcmp h0).trans ((r_le0 hd ht).trans (same_if (lgc_le a b)))
theorem r_jeq {off : Int} {t : Nat} {a b : Int64} (h0 : decode (mCode y) pc = .ok (.lcmp, 1)) (hd : decode (mCode y) (pc + 1) = .ok (.ifCond .eq off, 3)) (ht : tgt (pc + 1) off = some t) : ev d y pc L (.long b :: .long a :: st) σ = if a = b then ev d y t L st σ else ev d y (pc + 4) L st σ := (r_lcmp h0).trans ((r_eq0 hd ht).trans (same_if (lgc_eq a b)))
theorem r_jne {off : Int} {t : Nat} {a b : Int64} (h0 : decode (mCode y) pc = .ok (.lcmp, 1)) (hd : decode (mCode y) (pc + 1) = .ok (.ifCond .ne off, 3)) (ht : tgt (pc + 1) off = some t) : ev d y pc L (.long b :: .long a :: st) σ = if a = b then ev d y (pc + 4) L st σ else ev d y t L st σ := (r_lcmp h0).trans ((r_ne0 hd ht).trans (same_if (lgc_eq a b)))
/-! memory -/
theorem r_getI {own x c k a : Nat} (hd : decode (mCode y) pc = .ok (.getfield x, 3)) (ho : mOw y = own) (hf : fld own x = some (c, k) ∧ (ftc c k = 0 ∨ ftc c k = 3)) (ha : ob a c) : ev d y pc L (.ref a :: st) (S sl p I J) = ev d y (pc + 3) L (.int (I a k) :: st) (S sl p I J) := by
  subst ho
  refine ev_step hd rfl (q := (pc + 3, L, .int (I a k) :: st, S sl p I J)) ?_
  have h : gV (S sl p I J) a c k = .int (I a k) := by
    unfold gV
    rcases hf.2 with h | h <;> rw [h] <;> rfl
  simp only [stp, lnO, beq_self_eq_true, if_true, sGet, hf.1]
  rw [if_pos (show SH a = (1, c) ∧ pos a < (S sl p I J).2.2.2.1 from ha), h]
theorem r_getJ {own x c k a : Nat} (hd : decode (mCode y) pc = .ok (.getfield x, 3)) (ho : mOw y = own) (hf : fld own x = some (c, k) ∧ ftc c k = 1) (ha : ob a c) : ev d y pc L (.ref a :: st) (S sl p I J) = ev d y (pc + 3) L (.long (J a k) :: st) (S sl p I J) := by
  subst ho
  refine ev_step hd rfl (q := (pc + 3, L, .long (J a k) :: st, S sl p I J)) ?_
  have h : gV (S sl p I J) a c k = .long (J a k) := by
    unfold gV
    rw [hf.2]
    rfl
  simp only [stp, lnO, beq_self_eq_true, if_true, sGet, hf.1]
  rw [if_pos (show SH a = (1, c) ∧ pos a < (S sl p I J).2.2.2.1 from ha), h]
theorem r_getR {own x c k a b : Nat} (hd : decode (mCode y) pc = .ok (.getfield x, 3)) (ho : mOw y = own) (hf : fld own x = some (c, k) ∧ ftc c k = 2) (ha : ob a c) (hb : RF p a k = some b) : ev d y pc L (.ref a :: st) (S sl p I J) = ev d y (pc + 3) L (.ref b :: st) (S sl p I J) := by
  subst ho
  refine ev_step hd rfl (q := (pc + 3, L, .ref b :: st, S sl p I J)) ?_
  have h : gV (S sl p I J) a c k = .ref b := by
    unfold gV
    rw [hf.2]
    show va_rf (RF p a k) = _
    rw [hb]
    rfl
  simp only [stp, lnO, beq_self_eq_true, if_true, sGet, hf.1]
  rw [if_pos (show SH a = (1, c) ∧ pos a < (S sl p I J).2.2.2.1 from ha), h]
theorem r_putI {own x c k a : Nat} {v : Int32} (hd : decode (mCode y) pc = .ok (.putfield x, 3)) (ho : mOw y = own) (hf : fld own x = some (c, k) ∧ ftc c k = 0 ∧ (fQ c k).2.2 = false) (ha : ob a c) : ev d y pc L (.int v :: .ref a :: st) (S sl p I J) = ev d y (pc + 3) L st (S sl p (up2 I a k v) J) := by
  subst ho
  refine ev_step hd rfl (q := (pc + 3, L, st, S sl p (up2 I a k v) J)) ?_
  simp only [stp, lnO, beq_self_eq_true, if_true, sPut, hf.1]
  rw [if_pos (show SH a = (1, c) ∧ pos a < (S sl p I J).2.2.2.1 ∧ ((fQ c k).2.2 = false ∨ (mKd y = 2 ∧ mOw y = c)) from ⟨ha.1, ha.2, Or.inl hf.2.2⟩)]
  simp only [sV, hf.2.1, if_true, Option.map_some]
  rfl
theorem r_putZ {own x c k a : Nat} {v : Int32} (hd : decode (mCode y) pc = .ok (.putfield x, 3)) (ho : mOw y = own) (hf : fld own x = some (c, k) ∧ ftc c k = 3 ∧ (fQ c k).2.2 = false) (ha : ob a c) (hv : v = 0 ∨ v = 1) : ev d y pc L (.int v :: .ref a :: st) (S sl p I J) = ev d y (pc + 3) L st (S sl p (up2 I a k v) J) := by
  subst ho
  refine ev_step hd rfl (q := (pc + 3, L, st, S sl p (up2 I a k v) J)) ?_
  simp only [stp, lnO, beq_self_eq_true, if_true, sPut, hf.1]
  rw [if_pos (show SH a = (1, c) ∧ pos a < (S sl p I J).2.2.2.1 ∧ ((fQ c k).2.2 = false ∨ (mKd y = 2 ∧ mOw y = c)) from ⟨ha.1, ha.2, Or.inl hf.2.2⟩)]
  unfold sV
  simp only
  rw [if_neg (by rw [hf.2.1]; decide), if_pos ⟨hf.2.1, hv⟩]
  rfl
theorem r_putJ {own x c k a : Nat} {v : Int64} (hd : decode (mCode y) pc = .ok (.putfield x, 3)) (ho : mOw y = own) (hf : fld own x = some (c, k) ∧ ftc c k = 1 ∧ (fQ c k).2.2 = false) (ha : ob a c) : ev d y pc L (.long v :: .ref a :: st) (S sl p I J) = ev d y (pc + 3) L st (S sl p I (up2 J a k v)) := by
  subst ho
  refine ev_step hd rfl (q := (pc + 3, L, st, S sl p I (up2 J a k v))) ?_
  simp only [stp, lnO, beq_self_eq_true, if_true, sPut, hf.1]
  rw [if_pos (show SH a = (1, c) ∧ pos a < (S sl p I J).2.2.2.1 ∧ ((fQ c k).2.2 = false ∨ (mKd y = 2 ∧ mOw y = c)) from ⟨ha.1, ha.2, Or.inl hf.2.2⟩)]
  simp only [sV, hf.2.1, if_true, Option.map_some]
  rfl
theorem r_ild {a n : Nat} {j : Int32} (hd : decode (mCode y) pc = .ok (.iaload, 1)) (ha : ar a 2 n) : ev d y pc L (.int j :: .ref a :: st) (S sl p I J) = ck (ixb n j) (ev d y (pc + 1) L (.int (I a j.toNatClampNeg) :: st) (S sl p I J)) := by
  have e1 : aLn (S sl p I J) a = n := by unfold aLn; rw [if_neg ha.2.2, ha.1]
  by_cases hj : j < 0 ∨ n ≤ j.toNatClampNeg
  · rw [show ixb n j = false from decide_eq_false (fun q => q hj)]
    refine ev_no hd rfl ?_
    simp only [stp, lnO, beq_self_eq_true, if_true, sIld]
    rw [if_neg (fun q => q.2.2 (by rw [e1]; exact hj))]
  · rw [show ixb n j = true by unfold ixb; exact decide_eq_true hj]
    refine ev_step hd rfl (q := (pc + 1, L, .int (I a j.toNatClampNeg) :: st, S sl p I J)) ?_
    simp only [stp, lnO, beq_self_eq_true, if_true, sIld]
    rw [if_pos ⟨by rw [ha.1], Or.inr ha.2.1, by rw [e1]; exact hj⟩]
    rfl
theorem r_ist {a n : Nat} {j v : Int32} (hd : decode (mCode y) pc = .ok (.iastore, 1)) (ha : ar a 2 n) : ev d y pc L (.int v :: .int j :: .ref a :: st) (S sl p I J) = ck (ixb n j) (ev d y (pc + 1) L st (S sl p (up2 I a j.toNatClampNeg v) J)) := by
  by_cases hj : j < 0 ∨ n ≤ j.toNatClampNeg
  · rw [show ixb n j = false from decide_eq_false (fun q => q hj)]
    refine ev_no hd rfl ?_
    simp only [stp, lnO, beq_self_eq_true, if_true, sIst]
    rw [if_neg (fun q => q.2.2.2 (by rw [ha.1]; exact hj))]
  · rw [show ixb n j = true by unfold ixb; exact decide_eq_true hj]
    refine ev_step hd rfl (q := (pc + 1, L, st, S sl p (up2 I a j.toNatClampNeg v) J)) ?_
    simp only [stp, lnO, beq_self_eq_true, if_true, sIst]
    rw [if_pos ⟨by rw [ha.1], ha.2.2, ha.2.1, by rw [ha.1]; exact hj⟩]
    rfl
theorem r_jld {a n : Nat} {j : Int32} (hd : decode (mCode y) pc = .ok (.laload, 1)) (ha : ar a 3 n) : ev d y pc L (.int j :: .ref a :: st) (S sl p I J) = ck (ixb n j) (ev d y (pc + 1) L (.long (J a j.toNatClampNeg) :: st) (S sl p I J)) := by
  by_cases hj : j < 0 ∨ n ≤ j.toNatClampNeg
  · rw [show ixb n j = false from decide_eq_false (fun q => q hj)]
    refine ev_no hd rfl ?_
    simp only [stp, lnO, beq_self_eq_true, if_true, sJld]
    rw [if_neg (fun q => q.2.2 (by rw [ha.1]; exact hj))]
  · rw [show ixb n j = true by unfold ixb; exact decide_eq_true hj]
    refine ev_step hd rfl (q := (pc + 1, L, .long (J a j.toNatClampNeg) :: st, S sl p I J)) ?_
    simp only [stp, lnO, beq_self_eq_true, if_true, sJld]
    rw [if_pos ⟨by rw [ha.1], ha.2.1, by rw [ha.1]; exact hj⟩]
    rfl
theorem r_jst {a n : Nat} {j : Int32} {v : Int64} (hd : decode (mCode y) pc = .ok (.lastore, 1)) (ha : ar a 3 n) : ev d y pc L (.long v :: .int j :: .ref a :: st) (S sl p I J) = ck (ixb n j) (ev d y (pc + 1) L st (S sl p I (up2 J a j.toNatClampNeg v))) := by
  by_cases hj : j < 0 ∨ n ≤ j.toNatClampNeg
  · rw [show ixb n j = false from decide_eq_false (fun q => q hj)]
    refine ev_no hd rfl ?_
    simp only [stp, lnO, beq_self_eq_true, if_true, sJst]
    rw [if_neg (fun q => q.2.2 (by rw [ha.1]; exact hj))]
  · rw [show ixb n j = true by unfold ixb; exact decide_eq_true hj]
    refine ev_step hd rfl (q := (pc + 1, L, st, S sl p I (up2 J a j.toNatClampNeg v))) ?_
    simp only [stp, lnO, beq_self_eq_true, if_true, sJst]
    rw [if_pos ⟨by rw [ha.1], ha.2.1, by rw [ha.1]; exact hj⟩]
    rfl
theorem r_ald {a k n : Nat} {j : Int32} {f : Nat → Nat} (hd : decode (mCode y) pc = .ok (.aaload, 1)) (ha : ar a k n) (hk : 4 ≤ k ∧ k ≤ 6) (hf : ∀ i, i < n → RF p a i = some (f i)) : ev d y pc L (.int j :: .ref a :: st) (S sl p I J) = ck (ixb n j) (ev d y (pc + 1) L (.ref (f j.toNatClampNeg) :: st) (S sl p I J)) := by
  by_cases hj : j < 0 ∨ n ≤ j.toNatClampNeg
  · rw [show ixb n j = false from decide_eq_false (fun q => q hj)]
    refine ev_no hd rfl ?_
    simp only [stp, lnO, beq_self_eq_true, if_true, sAld]
    rw [if_neg (fun q => q.2.2 (by rw [ha.1]; exact hj))]
  · rw [show ixb n j = true by unfold ixb; exact decide_eq_true hj]
    refine ev_step hd rfl (q := (pc + 1, L, .ref (f j.toNatClampNeg) :: st, S sl p I J)) ?_
    simp only [stp, lnO, beq_self_eq_true, if_true, sAld]
    rw [if_pos ⟨by rw [ha.1]; exact hk, ha.2.1, by rw [ha.1]; exact hj⟩]
    have : (S sl p I J).2.2.1 a j.toNatClampNeg = some (f j.toNatClampNeg) := hf _ (Nat.not_le.mp fun q => hj (Or.inr q))
    rw [this]
    rfl
theorem r_len {a k n : Nat} (hd : decode (mCode y) pc = .ok (.arraylength, 1)) (ha : ar a k n) (hk : 2 ≤ k ∧ k ≤ 6) : ev d y pc L (.ref a :: st) (S sl p I J) = ev d y (pc + 1) L (.int (nI n) :: st) (S sl p I J) := by
  have e1 : aLn (S sl p I J) a = n := by unfold aLn; rw [if_neg ha.2.2, ha.1]
  refine ev_step hd rfl (q := (pc + 1, L, .int (nI n) :: st, S sl p I J)) ?_
  simp only [stp, lnO, beq_self_eq_true, if_true, sLen]
  rw [if_pos ⟨by rw [ha.1]; exact hk.1, by rw [ha.1]; exact hk.2, Or.inr ha.2.1⟩, e1]
/-! calls -/
theorem bnd_K {d y pc : Nat} {L st : List Value} (o : Option (Option Value × Mm)) : bnd o (fun r σ' => ev d y pc L (r.toList ++ st) σ') = evK d y pc L st o := by
  cases o with
  | none => rfl
  | some u =>
    obtain ⟨r, σ⟩ := u
    cases r <;> rfl
theorem r_cs {own x z n mx : Nat} {as rest st : List Value} (hd : decode (mCode y) pc = .ok (.invokestatic x, 3)) (ho : mOw y = own) (hp : prm own x = none) (hc : cal own x = some z) (hz : mKd z = 1 ∧ mNp z = n ∧ mMx z = mx) (hn : n ≤ st.length) (ht : (st.take n).reverse = as) (hr : st.drop n = rest) (h8 : ctS rest ≤ 8) (hf : (flt as).length ≤ mx) :
    ev (d + 1) y pc L st σ = evK (d + 1) y (pc + 3) L rest (den d z as σ) := by
  obtain ⟨z1, z2, z3⟩ := hz
  subst ho; subst z2; subst z3; subst hr; subst ht
  rw [ev_call (q := (z, (st.take (mNp z)).reverse, st.drop (mNp z))) hd rfl (by unfold spc; split <;> simp [hp]) (by simp only [cinv, hc]; rw [if_pos ⟨z1, hn, h8⟩]) hf, bnd_K]
theorem r_cv {own x z n mx c b : Nat} {as rest st : List Value} (hd : decode (mCode y) pc = .ok (.invokevirtual x, 3)) (ho : mOw y = own) (hc : cal own x = some z) (hz : mKd z = 0 ∧ mNp z = n ∧ mMx z = mx ∧ mOw z = c) (hn : n ≤ st.length) (ht : (st.take n).reverse = as) (hr : st.drop n = .ref b :: rest) (h8 : ctS rest ≤ 8) (hf : (flt (.ref b :: as)).length ≤ mx) (hb : ob b c) :
    ev (d + 1) y pc L st (S sl p I J) = evK (d + 1) y (pc + 3) L rest (den d z (.ref b :: as) (S sl p I J)) := by
  obtain ⟨z1, z2, z3, z4⟩ := hz
  subst ho; subst z2; subst z3; subst ht; subst z4
  rw [ev_call (q := (z, .ref b :: (st.take (mNp z)).reverse, rest)) hd rfl (by unfold spc; split <;> simp) (by simp only [cinv, hc, hr]; rw [if_pos ⟨z1, hn, h8, hb.1, hb.2⟩]) hf, bnd_K]
theorem r_obj {own x a : Nat} {q : Nat × Nat} (hd : decode (mCode y) pc = .ok (.invokespecial x, 3)) (ho : mOw y = own) (hq : objE own x = some q) (h8 : ctS (Value.ref a :: st) ≤ 12) : ev (d + 1) y pc L (.ref a :: st) σ = ev (d + 1) y (pc + 3) L st σ := by
  subst ho
  exact ev_spc hd rfl (by unfold spc; rw [if_pos h8]; simp [hq])
theorem r_prm {own x q : Nat} {st st' : List Value} (hd : decode (mCode y) pc = .ok (.invokestatic x, 3)) (ho : mOw y = own) (hq : prm own x = some q) (h8 : ctS st ≤ 12) (hs : prV q st = some st') : ev (d + 1) y pc L st σ = ev (d + 1) y (pc + 3) L st' σ := by
  subst ho
  exact ev_spc hd rfl (by unfold spc; rw [if_pos h8]; simp [hq, hs])
theorem r_sw {dd lo hi : Int} {offs : Array Int} {len : Nat} {a : Int32} {t : Nat} (hd : decode (mCode y) pc = .ok (.tableswitch dd lo hi offs, len)) (h : sSw dd lo hi offs pc L (.int a :: st) σ = some (t, L, st, σ)) : ev d y pc L (.int a :: st) σ = ev d y t L st σ := ev_go hd rfl (by simpa [stp, lnO] using h)
end RUL
