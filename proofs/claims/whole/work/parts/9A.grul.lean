/-! MAKING the objects: rules over a memory of which only the first n cells are made -/
def G (sl : Nat) (R : Nat → Nat → Option Nat) (n : Nat) (I : Nat → Nat → Int32) (J : Nat → Nat → Int64) : Mm := (I, J, R, n, sl)
def obn (n a c : Nat) : Prop := SH a = (1, c) ∧ pos a < n
def arn (n a k m : Nat) : Prop := SH a = (k, m) ∧ pos a < n ∧ a ≠ 0
def nwo (n b c : Nat) : Prop := n < NT ∧ ADR n = b ∧ SH b = (1, c)
def nwa (n b k m : Nat) : Prop := n < NT ∧ ADR n = b ∧ SH b = (k, m) ∧ m ≤ 10000
theorem obn_s {n a c : Nat} (h : obn n a c) : obn (n + 1) a c := ⟨h.1, Nat.lt_succ_of_lt h.2⟩
theorem nwo_ob {n b c : Nat} (h : nwo n b c) : obn (n + 1) b c := ⟨h.2.2, by rw [← h.2.1, (lay1 h.1).1]; exact Nat.lt_succ_self n⟩
section GRU
variable {d y pc sl n : Nat} {L st : List Value} {R : Nat → Nat → Option Nat} {I : Nat → Nat → Int32} {J : Nat → Nat → Int64} {σ : Mm}
theorem g_new {own x c b : Nat} (hd : decode (mCode y) pc = .ok (.new x, 3)) (ho : mOw y = own) (hc : clk own x = some c) (hn : nwo n b c) : ev d y pc L st (G sl R n I J) = ev d y (pc + 3) L (.ref b :: st) (G sl (zr2 R b none) (n + 1) (zr2 I b 0) (zr2 J b 0)) := by
  obtain ⟨h1, h2, h3⟩ := hn
  subst ho; subst h2
  refine ev_go hd rfl ?_
  simp only [stp, lnO, beq_self_eq_true, if_true, sNew, hc]
  exact if_pos ⟨h1, h3⟩
theorem g_nra {b m k : Nat} {v : Int32} (hn : nwa n b k m) (hv : ¬ v < 0 ∧ v.toNatClampNeg = m) : sNra k pc L (.int v :: st) (G sl R n I J) = some (pc, L, .ref b :: st, G sl (zr2 R b none) (n + 1) (zr2 I b 0) (zr2 J b 0)) := by
  obtain ⟨h1, h2, h3, h4⟩ := hn
  obtain ⟨h5, h6⟩ := hv
  subst h2
  unfold sNra
  exact if_pos ⟨h5, h1, by rw [h6]; exact h3, by rw [h6]; exact h4⟩
theorem g_nai {b m : Nat} {v : Int32} (hd : decode (mCode y) pc = .ok (.newarray .int, 2)) (hn : nwa n b 2 m) (hv : ¬ v < 0 ∧ v.toNatClampNeg = m) : ev d y pc L (.int v :: st) (G sl R n I J) = ev d y (pc + 2) L (.ref b :: st) (G sl (zr2 R b none) (n + 1) (zr2 I b 0) (zr2 J b 0)) :=
  ev_go hd rfl (by simp only [stp, lnO, beq_self_eq_true, if_true]; exact g_nra hn hv)
theorem g_naj {b m : Nat} {v : Int32} (hd : decode (mCode y) pc = .ok (.newarray .long, 2)) (hn : nwa n b 3 m) (hv : ¬ v < 0 ∧ v.toNatClampNeg = m) : ev d y pc L (.int v :: st) (G sl R n I J) = ev d y (pc + 2) L (.ref b :: st) (G sl (zr2 R b none) (n + 1) (zr2 I b 0) (zr2 J b 0)) :=
  ev_go hd rfl (by simp only [stp, lnO, beq_self_eq_true, if_true]; exact g_nra hn hv)
theorem g_ana {own x c b m : Nat} {v : Int32} (hd : decode (mCode y) pc = .ok (.anewarray x, 3)) (ho : mOw y = own) (hc : clk own x = some c) (h3 : c < 3) (hn : nwa n b (4 + c) m) (hv : ¬ v < 0 ∧ v.toNatClampNeg = m) : ev d y pc L (.int v :: st) (G sl R n I J) = ev d y (pc + 3) L (.ref b :: st) (G sl (zr2 R b none) (n + 1) (zr2 I b 0) (zr2 J b 0)) := by
  subst ho
  refine ev_go hd rfl ?_
  simp only [stp, lnO, beq_self_eq_true, if_true, sAna, hc]
  rw [if_pos h3]
  exact g_nra hn hv
theorem g_putI {own x c k a : Nat} {v : Int32} (hd : decode (mCode y) pc = .ok (.putfield x, 3)) (ho : mOw y = own) (hq : fld own x = some (c, k) ∧ ftc c k = 0) (hk : (fQ c k).2.2 = false ∨ (mKd y = 2 ∧ mOw y = c)) (ha : obn n a c) : ev d y pc L (.int v :: .ref a :: st) (G sl R n I J) = ev d y (pc + 3) L st (G sl R n (up2 I a k v) J) := by
  subst ho
  refine ev_go hd rfl ?_
  simp only [stp, lnO, beq_self_eq_true, if_true, sPut, hq.1]
  refine (if_pos ⟨ha.1, ha.2, hk⟩).trans ?_
  simp only [sV, hq.2, if_true, Option.map_some]
  rfl
theorem g_putR {own x c k a v : Nat} (hd : decode (mCode y) pc = .ok (.putfield x, 3)) (ho : mOw y = own) (hq : fld own x = some (c, k) ∧ ftc c k = 2) (hk : (fQ c k).2.2 = false ∨ (mKd y = 2 ∧ mOw y = c)) (ha : obn n a c) : ev d y pc L (.ref v :: .ref a :: st) (G sl R n I J) = ev d y (pc + 3) L st (G sl (up2 R a k (some v)) n I J) := by
  subst ho
  refine ev_go hd rfl ?_
  simp only [stp, lnO, beq_self_eq_true, if_true, sPut, hq.1]
  refine (if_pos ⟨ha.1, ha.2, hk⟩).trans ?_
  simp only [sV, hq.2, if_true, Option.map_some]
  rfl
theorem g_getR {own x c k a b : Nat} (hd : decode (mCode y) pc = .ok (.getfield x, 3)) (ho : mOw y = own) (hq : fld own x = some (c, k) ∧ ftc c k = 2) (ha : obn n a c) (hr : R a k = some b) : ev d y pc L (.ref a :: st) (G sl R n I J) = ev d y (pc + 3) L (.ref b :: st) (G sl R n I J) := by
  subst ho
  refine ev_go hd rfl ?_
  simp only [stp, lnO, beq_self_eq_true, if_true, sGet, hq.1]
  refine (if_pos ⟨ha.1, ha.2⟩).trans ?_
  have e : gV (G sl R n I J) a c k = .ref b := by
    unfold gV
    rw [hq.2, if_neg (by decide), if_neg (by decide), if_neg (by decide)]
    show va_rf (R a k) = _
    rw [hr]
    rfl
  rw [e]
theorem nI_ix {j m : Nat} (h : j < m) (hm : m < 2 ^ 31) : ¬ (nI j < 0 ∨ m ≤ (nI j).toNatClampNeg) := nI_in h hm
theorem g_ast {a k m v j : Nat} (hd : decode (mCode y) pc = .ok (.aastore, 1)) (ha : arn n a k m) (hk : 4 ≤ k ∧ k ≤ 6) (hj : j < m) (hm : m < 2 ^ 31) (hv : obn n v (arkC k)) : ev d y pc L (.ref v :: .int (nI j) :: .ref a :: st) (G sl R n I J) = ev d y (pc + 1) L st (G sl (up2 R a j (some v)) n I J) := by
  refine ev_go hd rfl ?_
  simp only [stp, lnO, beq_self_eq_true, if_true, sAst]
  refine (if_pos ⟨by rw [ha.1]; exact hk, ha.2.1, by rw [ha.1]; exact nI_ix hj hm, by rw [ha.1]; exact hv.1, hv.2⟩).trans ?_
  rw [cl_n (by omega)]
  rfl
theorem g_ald {a k m j b : Nat} (hd : decode (mCode y) pc = .ok (.aaload, 1)) (ha : arn n a k m) (hk : 4 ≤ k ∧ k ≤ 6) (hj : j < m) (hm : m < 2 ^ 31) (hr : R a j = some b) : ev d y pc L (.int (nI j) :: .ref a :: st) (G sl R n I J) = ev d y (pc + 1) L (.ref b :: st) (G sl R n I J) := by
  refine ev_go hd rfl ?_
  simp only [stp, lnO, beq_self_eq_true, if_true, sAld]
  refine (if_pos ⟨by rw [ha.1]; exact hk, ha.2.1, by rw [ha.1]; exact nI_ix hj hm⟩).trans ?_
  rw [cl_n (by omega)]
  have e : (G sl R n I J).2.2.1 a j = some b := hr
  rw [e]
  rfl
theorem g_ist {a m j : Nat} {v : Int32} (hd : decode (mCode y) pc = .ok (.iastore, 1)) (ha : arn n a 2 m) (hj : j < m) (hm : m < 2 ^ 31) : ev d y pc L (.int v :: .int (nI j) :: .ref a :: st) (G sl R n I J) = ev d y (pc + 1) L st (G sl R n (up2 I a j v) J) := by
  refine ev_go hd rfl ?_
  simp only [stp, lnO, beq_self_eq_true, if_true, sIst]
  refine (if_pos ⟨by rw [ha.1], ha.2.2, ha.2.1, by rw [ha.1]; exact nI_ix hj hm⟩).trans ?_
  rw [cl_n (by omega)]
  rfl
theorem g_len {a k m : Nat} (hd : decode (mCode y) pc = .ok (.arraylength, 1)) (ha : arn n a k m) (hk : 2 ≤ k ∧ k ≤ 6) : ev d y pc L (.ref a :: st) (G sl R n I J) = ev d y (pc + 1) L (.int (nI m) :: st) (G sl R n I J) := by
  have e1 : aLn (G sl R n I J) a = m := by unfold aLn; rw [if_neg ha.2.2, ha.1]
  refine ev_go hd rfl ?_
  simp only [stp, lnO, beq_self_eq_true, if_true, sLen]
  refine (if_pos ⟨by rw [ha.1]; exact hk.1, by rw [ha.1]; exact hk.2, Or.inr ha.2.1⟩).trans ?_
  rw [e1]
theorem g_ci {own x z m mx b : Nat} {as rest st : List Value} (hd : decode (mCode y) pc = .ok (.invokespecial x, 3)) (ho : mOw y = own) (hob : objE own x = none) (hc : cal own x = some z) (hz : mKd z = 2 ∧ mNp z = m ∧ mMx z = mx) (hn : m ≤ st.length) (ht : (st.take m).reverse = as) (hr : st.drop m = .ref b :: rest) (h8 : ctS rest ≤ 8) (hf : (flt (.ref b :: as)).length ≤ mx) :
    ev (d + 1) y pc L st σ = evK (d + 1) y (pc + 3) L rest (den d z (.ref b :: as) σ) := by
  obtain ⟨z1, z2, z3⟩ := hz
  subst ho; subst z2; subst z3; subst ht
  rw [ev_call (q := (z, .ref b :: (st.take (mNp z)).reverse, rest)) hd rfl (by unfold spc; split <;> simp [hob]) (by simp only [cinv, hc, hr]; rw [if_pos ⟨z1, hn, h8⟩]) hf, bnd_K]
theorem g_rev (hd : decode (mCode y) pc = .ok (.return_, 1)) (hr : mRt y = none) : ev d y pc L [] σ = some (none, σ) := r_rev hd hr
end GRU
