/-! what is worked out of the told data, without a machine -/
noncomputable def thN (D : Nat → Nat → Int32) (v : V3) (a : Nat) : Nat := haN D (fun k => decide (va2 (pv D k) v ≤ a)) (nc D)
noncomputable def maA (D : Nat → Nat → Int32) : Nat := haN D (fun _ => true) (nc D)
/-- the first least of 0 .. n -/
def amn (f : Nat → Nat) : Nat → Nat
  | 0 => 0
  | n + 1 => if f (n + 1) < f (amn f n) then n + 1 else amn f n
theorem amn_s {f : Nat → Nat} {n : Nat} : amn f (n + 1) = if f (n + 1) < f (amn f n) then n + 1 else amn f n := rfl
theorem amn_le {f : Nat → Nat} : ∀ n, amn f n ≤ n
  | 0 => Nat.le_refl 0
  | n + 1 => by
    have := amn_le (f := f) n
    rw [amn_s]
    split <;> omega
def neS (M : Nat → V3) (n : Nat) (v : V3) : Nat := amn (fun s => va2 v (M s)) (n - 1)
theorem neS_lt {M : Nat → V3} {n : Nat} {v : V3} (h : 0 < n) : neS M n v < n := by
  have : neS M n v ≤ n - 1 := amn_le _
  omega
/-- where a crack is settled -/
def plO (D : Nat → Nat → Int32) (r n : Nat) (M : Nat → V3) (j : Nat) : Int32 := if n = 0 then -1 else if r < va2 (pv D j) (M (neS M n (pv D j))) then -1 else nI (neS M n (pv D j))
noncomputable def rdO (D : Nat → Nat → Int32) (r : Nat) (x : (Nat → Int32) × (Nat → V3)) : (Nat → Int32) × (Nat → V3) := (plO D r (nst D) x.2, fun s => meV (smP D (fun k => decide (plO D r (nst D) x.2 k = nI s)) (x.2 s) (nc D)) (x.2 s))
noncomputable def chO (D : Nat → Nat → Int32) (r : Nat) (x : (Nat → Int32) × (Nat → V3)) (n : Nat) : Nat := cnt (fun j => !decide (plO D r (nst D) x.2 j = x.1 j)) n
noncomputable def stR (D : Nat → Nat → Int32) (r : Nat) : Nat → Nat → (Nat → Int32) × (Nat → V3) → Nat × ((Nat → Int32) × (Nat → V3))
  | 0, n, x => (n, x)
  | f + 1, n, x => if chO D r x (nc D) = 0 then (n + 1, rdO D r x) else stR D r f (n + 1) (rdO D r x)
noncomputable def seO (D : Nat → Nat → Int32) (r : Nat) : Nat × ((Nat → Int32) × (Nat → V3)) := stR D r 12 0 (stn D, meO D)
/-- two of a crack's set that don't hang together without it -/
noncomputable def brC (D : Nat → Nat → Int32) (c k : Nat) : Bool := !decide (k = c) && decide (stn D k = stn D c)
noncomputable def brB (D : Nat → Nat → Int32) (c : Nat) : Bool := !decide (stn D c = -1) && decide (0 < cnt (fun k => brC D c k && decide (0 < cnt (fun k' => brC D c k' && !decide (lb D (lk D) (nI c) k = lb D (lk D) (nI c) k')) (nc D))) (nc D))
noncomputable def fiB (P : Nat → Bool) : Nat → Int32
  | 0 => -1
  | n + 1 => if fiB P n = -1 then (if P n = true then nI n else -1) else fiB P n
/-- wedges -/
def crs (u v : V3) : V3 := ((u.2.1 * v.2.2 - u.2.2 * v.2.1) / 1000, (u.2.2 * v.1 - u.1 * v.2.2) / 1000, (u.1 * v.2.1 - u.2.1 * v.1) / 1000)
noncomputable def wdV (D : Nat → Nat → Int32) (a b : Nat) : V3 := tup (crs (meO D a) (meO D b))
/-- the fabric -/
def fcp (v : V3) (k : Nat) : Int64 := if k = 0 then v.1 * v.1 else if k = 1 then v.2.1 * v.2.1 else if k = 2 then v.2.2 * v.2.2 else if k = 3 then v.1 * v.2.1 else if k = 4 then v.1 * v.2.2 else v.2.1 * v.2.2
def faS (D : Nat → Nat → Int32) (k : Nat) : Nat → Int64
  | 0 => 0
  | n + 1 => faS D k n + fcp (pv D n) k * (wt D n).toInt64
noncomputable def fab (D : Nat → Nat → Int32) (k : Nat) : Int64 := faS D k (nc D) / lN (maA D)
noncomputable def shO (D : Nat → Nat → Int32) (v : V3) : Int64 := fab D 0 * v.1 * v.1 + fab D 1 * v.2.1 * v.2.1 + fab D 2 * v.2.2 * v.2.2 + 2 * (fab D 3 * v.1 * v.2.1 + fab D 4 * v.1 * v.2.2 + fab D 5 * v.2.1 * v.2.2)
/-- the best so far: share, square, direction, dip -/
noncomputable def axB (D : Nat → Nat → Int32) (most : Bool) (x : Int64 × Int64 × Nat × Nat) (e d : Nat) : Bool := if most then decide (x.1 * vq (poV (nI e) (nI d)) < shO D (poV (nI e) (nI d)) * x.2.1) else decide (shO D (poV (nI e) (nI d)) * x.2.1 < x.1 * vq (poV (nI e) (nI d)))
noncomputable def axS (D : Nat → Nat → Int32) (most : Bool) (d : Nat) (x : Int64 × Int64 × Nat × Nat) (e : Nat) : Int64 × Int64 × Nat × Nat := if axB D most x e d = true then (shO D (poV (nI e) (nI d)), vq (poV (nI e) (nI d)), e, d) else x
noncomputable def axR (D : Nat → Nat → Int32) (most : Bool) (d : Nat) (x : Int64 × Int64 × Nat × Nat) : Nat → Int64 × Int64 × Nat × Nat
  | 0 => x
  | e + 1 => axS D most d (axR D most d x e) e
noncomputable def axQ (D : Nat → Nat → Int32) (most : Bool) : Nat → Int64 × Int64 × Nat × Nat
  | 0 => (shO D (poV 0 0), vq (poV 0 0), 0, 0)
  | d + 1 => axR D most (d + 1) (axQ D most d) (if d + 1 = 90 then 180 else 360)
noncomputable def axO (D : Nat → Nat → Int32) (most : Bool) : Nat × Nat := (axQ D most 90).2.2
/-- the line that meets most, where poles are thickest: over a net of 10 by 36 -/
noncomputable def wbN (D : Nat → Nat → Int32) (v : V3) : Nat → Nat
  | 0 => 0
  | n + 1 => wbN D v n + (wtv (D 46 5) (pv D n) v).toInt.toNat
noncomputable def neT (better : Nat → Nat → Bool) (f : Nat → Nat → Nat) (j : Nat) (o : Option (Nat × Nat × Nat)) : Nat → Option (Nat × Nat × Nat)
  | 0 => o
  | i + 1 => match neT better f j o i with
    | none => some (f i j, i, j)
    | some x => if better (f i j) x.1 = true then some (f i j, i, j) else some x
noncomputable def neA (better : Nat → Nat → Bool) (f : Nat → Nat → Nat) : Nat → Option (Nat × Nat × Nat)
  | 0 => none
  | j + 1 => neT better f j (neA better f j) 36
noncomputable def nlO (D : Nat → Nat → Int32) : Option (Nat × Nat × Nat) := neA (fun a b => decide (a < b)) (fun i j => wbN D (arV (nI (10 * i)) (nI (10 * j))) (nc D)) 10
noncomputable def pkO (D : Nat → Nat → Int32) (a : Nat) : Option (Nat × Nat × Nat) := neA (fun a b => decide (b < a)) (fun i j => thN D (poV (nI (10 * i)) (nI (10 * j))) a) 10
/-! the class with what it keeps -/
def Ol (e : Nat) (x : Int32) : Prop := x = -1 ∨ ∃ k, k ≤ e ∧ x = nI k
theorem Ol_new {e : Nat} {x : Int32} (he : e < 1000) (h : Ol e x) : Ol (e + 1) x ∧ ¬ x = nI (e + 1) := by
  rcases h with h | ⟨k, hk, h⟩
  · exact ⟨Or.inl h, fun w => nI_m1 (c := e + 1) (by omega) (w.symm.trans h)⟩
  · exact ⟨Or.inr ⟨k, by omega, h⟩, fun w => by have := nI_ij (a := k) (b := e + 1) (by omega) (by omega) (h.symm.trans w); omega⟩
def GrP (I : Nat → Nat → Int32) (J : Nat → Nat → Int64) (D : Nat → Nat → Int32) (e : Nat) : Prop := Ol e (I 11 15) ∧ (I 11 15 = nI e → GrC I J D)
def BrP (I : Nat → Nat → Int32) (D : Nat → Nat → Int32) (e : Nat) : Prop := Ol e (I 11 16) ∧ (I 11 16 = nI e → I 11 17 = nI (cnt (brB D) (nc D)) ∧ I 11 18 = fiB (brB D) (nc D))
def StC (I : Nat → Nat → Int32) (J : Nat → Nat → Int64) (D : Nat → Nat → Int32) (r : Nat) : Prop := I 22 6 = nI (seO D r).1 ∧ (∀ j, j < nc D → I 23 j = (seO D r).2.1 j) ∧ ∀ s, s < nst D → vec J (900 + s) = (seO D r).2.2 s
def StP (I : Nat → Nat → Int32) (J : Nat → Nat → Int64) (D : Nat → Nat → Int32) (e : Nat) : Prop := Ol e (I 22 8) ∧ (I 22 8 = nI e → nst D ≤ 30 ∧ ∃ r, 1 ≤ r ∧ r ≤ 90 ∧ I 22 7 = nI r ∧ StC I J D r)
def FaP (I : Nat → Nat → Int32) (J : Nat → Nat → Int64) (D : Nat → Nat → Int32) (e : Nat) : Prop := Ol e (I 27 8) ∧ (I 27 8 = nI e → ∀ k, k < 6 → J 29 k = fab D k)
def AxP (I : Nat → Nat → Int32) (D : Nat → Nat → Int32) (e : Nat) : Prop := Ol e (I 27 9) ∧ (I 27 9 = nI e → I 30 0 = nI (axO D false).1 ∧ I 30 1 = nI (axO D false).2 ∧ I 31 0 = nI (axO D true).1 ∧ I 31 1 = nI (axO D true).2)
def LiC (I : Nat → Nat → Int32) (a : Nat) (o : Option (Nat × Nat × Nat)) : Prop := ∃ w t q, o = some (w, t, q) ∧ I a 0 = nI (10 * t) ∧ I a 1 = nI (10 * q) ∧ I a 2 = nI w
def LiP (I : Nat → Nat → Int32) (D : Nat → Nat → Int32) (e : Nat) : Prop := Ol e (I 27 10) ∧ (I 27 10 = nI e → LiC I 32 (nlO D))
def PkP (I : Nat → Nat → Int32) (D : Nat → Nat → Int32) (e : Nat) : Prop := Ol e (I 27 11) ∧ (I 27 11 = nI e → ∃ a, a ≤ 90 ∧ I 27 12 = nI a ∧ LiC I 33 (pkO D a))
def HzC (I : Nat → Nat → Int32) (D : Nat → Nat → Int32) : Prop := ∀ a b, a < b → b < nst D → ((wdV D a b).1 = 0 ∧ (wdV D a b).2.1 = 0 ∧ (wdV D a b).2.2 = 0 ∧ I 36 (30 * a + b) = -1) ∨ (¬ ((wdV D a b).1 = 0 ∧ (wdV D a b).2.1 = 0 ∧ (wdV D a b).2.2 = 0) ∧ I 36 (30 * a + b) = nI (trd (wdV D a b)) ∧ I 37 (30 * a + b) = nI (pgv (wdV D a b)))
def HzP (I : Nat → Nat → Int32) (D : Nat → Nat → Int32) (e : Nat) : Prop := Ol e (I 34 9) ∧ (I 34 9 = nI e → HzC I D)
def CK (p : Nat → Nat) (I : Nat → Nat → Int32) (J : Nat → Nat → Int64) (D : Nat → Nat → Int32) (e : Nat) : Prop := (SV p I J D) ∧ (I 4 10 = nI e) ∧ (∀ k, k < 4 → I 34 (5 + k) = D 46 (6 + k)) ∧ (GrP I J D e) ∧ (BrP I D e) ∧ (StP I J D e) ∧ (FaP I J D e) ∧ (AxP I D e) ∧ (LiP I D e) ∧ (PkP I D e) ∧ (HzP I D e)
theorem CK.sv {p : Nat → Nat} {I : Nat → Nat → Int32} {J : Nat → Nat → Int64} {D : Nat → Nat → Int32} {e : Nat} (h : CK p I J D e) : SV p I J D := h.1
theorem CK.ed {p : Nat → Nat} {I : Nat → Nat → Int32} {J : Nat → Nat → Int64} {D : Nat → Nat → Int32} {e : Nat} (h : CK p I J D e) : I 4 10 = nI e := h.2.1
theorem CK.sl {p : Nat → Nat} {I : Nat → Nat → Int32} {J : Nat → Nat → Int64} {D : Nat → Nat → Int32} {e : Nat} (h : CK p I J D e) : ∀ k, k < 4 → I 34 (5 + k) = D 46 (6 + k) := h.2.2.1
theorem CK.g {p : Nat → Nat} {I : Nat → Nat → Int32} {J : Nat → Nat → Int64} {D : Nat → Nat → Int32} {e : Nat} (h : CK p I J D e) : GrP I J D e := h.2.2.2.1
theorem CK.b {p : Nat → Nat} {I : Nat → Nat → Int32} {J : Nat → Nat → Int64} {D : Nat → Nat → Int32} {e : Nat} (h : CK p I J D e) : BrP I D e := h.2.2.2.2.1
theorem CK.s {p : Nat → Nat} {I : Nat → Nat → Int32} {J : Nat → Nat → Int64} {D : Nat → Nat → Int32} {e : Nat} (h : CK p I J D e) : StP I J D e := h.2.2.2.2.2.1
theorem CK.f {p : Nat → Nat} {I : Nat → Nat → Int32} {J : Nat → Nat → Int64} {D : Nat → Nat → Int32} {e : Nat} (h : CK p I J D e) : FaP I J D e := h.2.2.2.2.2.2.1
theorem CK.x {p : Nat → Nat} {I : Nat → Nat → Int32} {J : Nat → Nat → Int64} {D : Nat → Nat → Int32} {e : Nat} (h : CK p I J D e) : AxP I D e := h.2.2.2.2.2.2.2.1
theorem CK.l {p : Nat → Nat} {I : Nat → Nat → Int32} {J : Nat → Nat → Int64} {D : Nat → Nat → Int32} {e : Nat} (h : CK p I J D e) : LiP I D e := h.2.2.2.2.2.2.2.2.1
theorem CK.t {p : Nat → Nat} {I : Nat → Nat → Int32} {J : Nat → Nat → Int64} {D : Nat → Nat → Int32} {e : Nat} (h : CK p I J D e) : PkP I D e := h.2.2.2.2.2.2.2.2.2.1
theorem CK.z {p : Nat → Nat} {I : Nat → Nat → Int32} {J : Nat → Nat → Int64} {D : Nat → Nat → Int32} {e : Nat} (h : CK p I J D e) : HzP I D e := h.2.2.2.2.2.2.2.2.2.2
section CK
variable {p : Nat → Nat} {I I' : Nat → Nat → Int32} {J J' : Nat → Nat → Int64} {D D' : Nat → Nat → Int32} {e : Nat}
theorem GrP.fr (h : GrP I J D e) (hD : GD D) (h1 : ∀ a k, (a = 11 ∧ 14 ≤ k ∧ k < 16) ∨ a = 12 ∨ a = 20 ∨ (400 ≤ a ∧ a < 430) → I' a k = I a k) (h2 : ∀ a k, 500 ≤ a → a < 900 → J' a k = J a k) : GrP I' J' D e := by
  unfold GrP
  rw [h1 _ _ (by omega)]
  exact ⟨h.1, fun w => (h.2 w).fr hD (fun a k w => h1 a k (by omega)) h2⟩
theorem BrP.fr (h : BrP I D e) (h1 : ∀ k, 16 ≤ k → k < 19 → I' 11 k = I 11 k) : BrP I' D e := by
  unfold BrP
  rw [h1 _ (by omega) (by omega), h1 _ (by omega) (by omega), h1 _ (by omega) (by omega)]
  exact h
theorem StP.fr (h : StP I J D e) (h1 : ∀ a k, (a = 22 ∧ 6 ≤ k) ∨ a = 23 → I' a k = I a k) (h2 : ∀ a k, 900 ≤ a → a < 930 → J' a k = J a k) : StP I' J' D e := by
  unfold StP
  rw [h1 _ _ (by omega)]
  refine ⟨h.1, fun w => ?_⟩
  obtain ⟨h30, r, r1, r2, r3, r4, r5, r6⟩ := h.2 w
  refine ⟨h30, r, r1, r2, by rw [h1 _ _ (by omega)]; exact r3, by rw [h1 _ _ (by omega)]; exact r4, fun j hj => by rw [h1 _ _ (by omega)]; exact r5 j hj, fun s hs => ?_⟩
  rw [← r6 s hs]
  unfold vec
  rw [h2 _ _ (by omega) (by omega), h2 _ _ (by omega) (by omega), h2 _ _ (by omega) (by omega)]
theorem FaP.fr (h : FaP I J D e) (h1 : I' 27 8 = I 27 8) (h2 : ∀ k, J' 29 k = J 29 k) : FaP I' J' D e := by
  unfold FaP
  rw [h1]
  exact ⟨h.1, fun w k hk => by rw [h2]; exact h.2 w k hk⟩
theorem AxP.fr (h : AxP I D e) (h1 : ∀ a k, (a = 27 ∧ k = 9) ∨ a = 30 ∨ a = 31 → I' a k = I a k) : AxP I' D e := by
  unfold AxP
  rw [h1 _ _ (by omega), h1 _ _ (by omega), h1 _ _ (by omega), h1 _ _ (by omega), h1 _ _ (by omega)]
  exact h
theorem LiC.fr {a : Nat} {o : Option (Nat × Nat × Nat)} (h : LiC I a o) (h1 : ∀ k, I' a k = I a k) : LiC I' a o := by
  unfold LiC
  rw [h1, h1, h1]
  exact h
theorem LiP.fr (h : LiP I D e) (h1 : ∀ a k, (a = 27 ∧ k = 10) ∨ a = 32 → I' a k = I a k) : LiP I' D e := by
  unfold LiP
  rw [h1 _ _ (by omega)]
  exact ⟨h.1, fun w => (h.2 w).fr (fun k => h1 _ _ (by omega))⟩
theorem PkP.fr (h : PkP I D e) (h1 : ∀ a k, (a = 27 ∧ 11 ≤ k) ∨ a = 33 → I' a k = I a k) : PkP I' D e := by
  unfold PkP
  rw [h1 _ _ (by omega)]
  refine ⟨h.1, fun w => ?_⟩
  obtain ⟨a, a1, a2, a3⟩ := h.2 w
  exact ⟨a, a1, by rw [h1 _ _ (by omega)]; exact a2, a3.fr (fun k => h1 _ _ (by omega))⟩
theorem HzP.fr (h : HzP I D e) (h1 : ∀ a k, (a = 34 ∧ k = 9) ∨ a = 36 ∨ a = 37 → I' a k = I a k) : HzP I' D e := by
  unfold HzP HzC
  rw [h1 _ _ (by omega)]
  refine ⟨h.1, fun w a b ha hb => ?_⟩
  rw [h1 _ _ (by omega), h1 _ _ (by omega)]
  exact h.2 w a b ha hb
theorem SV.fr2 (h : SV p I J D) (h1 : ∀ a k, a < 11 → a ≠ 1 → I' a k = I a k) (h2 : I' 11 12 = I 11 12) (h3 : I' 11 13 = I 11 13) (h4 : ∀ a k, 200 ≤ a → a < 260 → I' a k = I a k) (h5 : ∀ a k, 100 ≤ a → a < 106 → J' a k = J a k) (h6 : ∀ a k, 300 ≤ a → a < 360 → J' a k = J a k) : SV p I' J' D := by
  have m6 := h.gd.m6
  have hp := h.p60
  refine ⟨h.gd, fun k hk => by rw [h1 _ _ (by omega) (by omega)]; exact h.sn k hk, h.p60, h.pij, by rw [h1 _ _ (by omega) (by omega)]; exact h.lines, by rw [h1 _ _ (by omega) (by omega)]; exact h.count, by rw [h1 _ _ (by omega) (by omega)]; exact h.cap, fun l hl => ?_, fun j hj => by rw [h4 _ _ (by omega) (by omega)]; exact h.slot j hj, fun i hi => ?_, fun i hi => ?_, fun i j hi hj => by rw [h1 _ _ (by omega) (by omega)]; exact h.ang i j hi hj, by rw [h2]; exact h.link, by rw [h3]; exact h.least⟩
  · rw [h1 _ _ (by omega) (by omega), h1 _ _ (by omega) (by omega), h1 _ _ (by omega) (by omega)]
    refine ⟨(h.tr l hl).1, (h.tr l hl).2.1, (h.tr l hl).2.2.1, ?_⟩
    rw [← (h.tr l hl).2.2.2]
    unfold vec
    rw [h5 _ _ (by omega) (by omega), h5 _ _ (by omega) (by omega), h5 _ _ (by omega) (by omega)]
  · have := hp i
    rw [h4 _ _ (by omega) (by omega), h4 _ _ (by omega) (by omega), h4 _ _ (by omega) (by omega), h4 _ _ (by omega) (by omega), h4 _ _ (by omega) (by omega), h4 _ _ (by omega) (by omega), h4 _ _ (by omega) (by omega)]
    exact h.ck i hi
  · have := hp i
    rw [← h.pole i hi]
    unfold vec
    rw [h6 _ _ (by omega) (by omega), h6 _ _ (by omega) (by omega), h6 _ _ (by omega) (by omega)]
/-- only scratch has changed -/
theorem CK.scr (h : CK p I J D e) (f : ∀ a k, (a < 46 ∨ 100 ≤ a) → a ≠ 1 → ¬ (15 ≤ a ∧ a < 20) → a ≠ 21 → I' a k = I a k) (g : ∀ a k, a = 29 ∨ (100 ≤ a ∧ ¬ (700 ≤ a ∧ a < 730)) → J' a k = J a k) (g7 : ∀ a k, 700 ≤ a → a < 730 → J' a k = J a k) : CK p I' J' D e :=
  ⟨h.sv.fr2 (fun a k w q => f a k (by omega) q (by omega) (by omega)) (f _ _ (by omega) (by omega) (by omega) (by omega)) (f _ _ (by omega) (by omega) (by omega) (by omega)) (fun a k _ _ => f _ _ (by omega) (by omega) (by omega) (by omega)) (fun a k _ _ => g _ _ (by omega)) (fun a k _ _ => g _ _ (by omega)),
    by rw [f _ _ (by omega) (by omega) (by omega) (by omega)]; exact h.ed, fun k hk => by rw [f _ _ (by omega) (by omega) (by omega) (by omega)]; exact h.sl k hk,
    h.g.fr h.sv.gd (fun a k w => f _ _ (by omega) (by omega) (by omega) (by omega)) (fun a k w1 w2 => by
      by_cases q : 700 ≤ a ∧ a < 730
      · exact g7 a k q.1 q.2
      · exact g _ _ (by omega)),
    h.b.fr (fun k _ _ => f _ _ (by omega) (by omega) (by omega) (by omega)), h.s.fr (fun a k w => f _ _ (by omega) (by omega) (by omega) (by omega)) (fun a k _ _ => g _ _ (by omega)),
    h.f.fr (f _ _ (by omega) (by omega) (by omega) (by omega)) (fun k => g _ _ (by omega)), h.x.fr (fun a k w => f _ _ (by omega) (by omega) (by omega) (by omega)), h.l.fr (fun a k w => f _ _ (by omega) (by omega) (by omega) (by omega)), h.t.fr (fun a k w => f _ _ (by omega) (by omega) (by omega) (by omega)), h.z.fr (fun a k w => f _ _ (by omega) (by omega) (by omega) (by omega))⟩
end CK
