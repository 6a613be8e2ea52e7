/-! over a net of 10 by 36 -/
def stT (better : Nat → Nat → Bool) (w i j : Nat) (o : Option (Nat × Nat × Nat)) : Option (Nat × Nat × Nat) := match o with
  | none => some (w, i, j)
  | some x => if better w x.1 = true then some (w, i, j) else some x
theorem net {M β : Type} (better : Nat → Nat → Bool) (f : Nat → Nat → Nat) (F : Int32 → Int32 → M → Option β) (O : Int32 → M → Option β) (R : Option (Nat × Nat × Nat) → M → Prop)
    (hin : ∀ i j o m, i < 36 → j < 10 → R o m → ∃ m', F (nI (10 * i)) (nI (10 * j)) m = F (nI (10 * (i + 1))) (nI (10 * j)) m' ∧ R (stT better (f i j) i j o) m')
    (hO : ∀ j m, j < 10 → O (nI (10 * j)) m = F 0 (nI (10 * j)) m) (hE : ∀ j m, j < 10 → F (nI 360) (nI (10 * j)) m = O (nI (10 * (j + 1))) m) (m : M) (h0 : R none m) : ∃ m', O 0 m = O (nI 100) m' ∧ R (neA better f 10) m' := by
  have inner : ∀ j o m, j < 10 → R o m → ∀ i, i ≤ 36 → ∃ m', F 0 (nI (10 * j)) m = F (nI (10 * i)) (nI (10 * j)) m' ∧ R (neT better f j o i) m' := by
    intro j o m hj hR i
    induction i with
    | zero => intro _; exact ⟨m, rfl, hR⟩
    | succ i ih =>
      intro hi
      obtain ⟨m1, e1, r1⟩ := ih (by omega)
      obtain ⟨m2, e2, r2⟩ := hin i j _ m1 (by omega) hj r1
      exact ⟨m2, e1.trans e2, r2⟩
  have outer : ∀ j, j ≤ 10 → ∃ m', O 0 m = O (nI (10 * j)) m' ∧ R (neA better f j) m' := by
    intro j
    induction j with
    | zero => intro _; exact ⟨m, rfl, h0⟩
    | succ j ih =>
      intro hj
      obtain ⟨m1, e1, r1⟩ := ih (by omega)
      obtain ⟨m2, e2, r2⟩ := inner j _ m1 (by omega) r1 36 (Nat.le_refl _)
      exact ⟨m2, (e1.trans (hO j m1 (by omega))).trans (e2.trans (hE j m2 (by omega))), r2⟩
  exact outer 10 (Nat.le_refl _)
theorem neT_some (better : Nat → Nat → Bool) (f : Nat → Nat → Nat) (j : Nat) (o : Option (Nat × Nat × Nat)) (i : Nat) : ∃ w t q, neT better f j o (i + 1) = some (w, t, q) := by
  show ∃ w t q, (match neT better f j o i with | none => some (f i j, i, j) | some x => if better (f i j) x.1 = true then some (f i j, i, j) else some x) = some (w, t, q)
  cases neT better f j o i with
  | none => exact ⟨_, _, _, rfl⟩
  | some x =>
    obtain ⟨a, b, c⟩ := x
    simp only
    split
    · exact ⟨_, _, _, rfl⟩
    · exact ⟨_, _, _, rfl⟩
theorem neA_s {better : Nat → Nat → Bool} {f : Nat → Nat → Nat} {j : Nat} : neA better f (j + 1) = neT better f j (neA better f j) 36 := rfl
theorem neA_some {better : Nat → Nat → Bool} {f : Nat → Nat → Nat} {n : Nat} (h : n = 10) : ∃ w t q, neA better f n = some (w, t, q) := by
  obtain ⟨j, rfl⟩ : ∃ j, n = j + 1 := ⟨9, h⟩
  rw [neA_s]
  exact neT_some better f j _ 35
section NET
variable {d sl : Nat} {p : Nat → Nat} {I I' : Nat → Nat → Int32} {J J' : Nat → Nat → Int64} {D : Nat → Nat → Int32} {e : Nat}
theorem wv_n (hD : GD D) (q v : V3) : wtv (D 46 5) q v = nI (wtv (D 46 5) q v).toInt.toNat ∧ (wtv (D 46 5) q v).toInt.toNat ≤ 20000 := by
  have h1 := hD.c1
  have h2 := hD.c20
  rw [hD.ec]
  obtain ⟨b1, b2⟩ := wtv_b h1 h2 q v
  have e : (((wtv (nI (cp D)) q v).toInt.toNat : Nat) : Int) = (wtv (nI (cp D)) q v).toInt := Int.toNat_of_nonneg b1
  refine ⟨Int32.toInt_inj.mp ?_, by omega⟩
  rw [tI (by omega)]
  exact e.symm
theorem wbN_s {v : V3} {n : Nat} : wbN D v (n + 1) = wbN D v n + (wtv (D 46 5) (pv D n) v).toInt.toNat := rfl
theorem wbN_b (hD : GD D) (v : V3) : ∀ n, wbN D v n ≤ 20000 * n
  | 0 => Nat.le_refl 0
  | n + 1 => by
    have := wbN_b hD v n
    have := (wv_n hD (pv D n) v).2
    rw [wbN_s]
    omega
theorem C_weightsBy (h : SV p I J D) {a : Nat} (ha : ob a 0) (va : bv (vec J a)) : den (d + 2) 84 [.ref 27, .ref a] (S sl p I J) = some (some (.int (nI (wbN D (vec J a) (nc D)))), S sl p I J) := by
  have n60 := h.gd.n60
  obtain ⟨x, e1, hx⟩ := for_ex (M := Int32) (fun j x => ev (d + 2) 84 4 [.ref 27, .ref a, .int x, .int j] [] (S sl p I J)) (nc D) (fun j x => x = nI (wbN D (vec J a) j))
    (by
      intro j x hj hx
      have hp := h.p60 j
      rw [E84_4 _ _ h.p60 ha, h.count, if_pos (lt_n hj (by omega)), ck_if (ixb_n (by omega) (by decide)), cl_n (by omega), sp_weightByC (obP hp) ha (by rw [h.pole j hj]; exact h.gd.bp hj) va h.cap h.gd.c20, evK_s, E84_36 _ _ _ _ ha, h.pole j hj, nI_1, wbN_s, hx, ← h.gd.ec]
      refine ⟨_, rfl, ?_⟩
      rw [(wv_n h.gd (pv D j) (vec J a)).1, nI_add, tI (by have := (wv_n h.gd (pv D j) (vec J a)).2; omega)]
      rfl)
    0 rfl
  rw [E84_0 ha, e1, E84_4 _ _ h.p60 ha, h.count, if_neg (nlt_n (by omega)), hx]
def LiR (I : Nat → Nat → Int32) (a : Nat) (s : Int32) (o : Option (Nat × Nat × Nat)) : Prop := (o = none → I a 2 = s) ∧ ∀ w t q, o = some (w, t, q) → I a 0 = nI (10 * t) ∧ I a 1 = nI (10 * q) ∧ I a 2 = nI w ∧ w ≤ 1200000
theorem LiR_s {a : Nat} {s : Int32} {w t q : Nat} (h0 : I a 0 = nI (10 * t)) (h1 : I a 1 = nI (10 * q)) (h2 : I a 2 = nI w) (hw : w ≤ 1200000) : LiR I a s (some (w, t, q)) := ⟨(fun w => by cases w), fun w' t' q' h => by cases h; exact ⟨h0, h1, h2, hw⟩⟩
theorem C_findBest (h : CK p I J D e) (h0 : 0 < nc D) : ∃ I' J', den (d + 3) 83 [.ref 27] (S sl p I J) = some (none, S sl p I' J') ∧ CK p I' J' D e ∧ LiC I' 32 (nlO D) ∧ Fc I J I' J' := by
  have n60 := h.sv.gd.n60
  by_cases q : I 27 10 = I 4 10
  · exact ⟨I, J, by rw [E83_0, if_pos q], h, h.l.2 (q.trans h.ed), Fc.refl⟩
  · have F0 : ∀ a k, ¬ (a = 27 ∧ k = 10) → a ≠ 32 → up2 (up2 I 27 10 (I 4 10)) 32 2 1073741824 a k = I a k := fun a k w1 w2 => by rw [up_na w2, up_n w1]
    have g10 : up2 (up2 I 27 10 (I 4 10)) 32 2 1073741824 27 10 = nI e := by rw [up_na (by omega), up_s]; exact h.ed
    have g2 : up2 (up2 I 27 10 (I 4 10)) 32 2 1073741824 32 2 = 1073741824 := up_s
    rw [E83_0, if_neg q]
    generalize up2 (up2 I 27 10 (I 4 10)) 32 2 1073741824 = I1 at F0 g10 g2
    obtain ⟨⟨I2, J2⟩, e1, r1, r2, r3⟩ := net (M := (Nat → Nat → Int32) × (Nat → Nat → Int64)) (fun a b => decide (a < b)) (fun i j => wbN D (arV (nI (10 * i)) (nI (10 * j))) (nc D)) (fun t q m => ev (d + 3) 83 44 [.ref 27, .int q, .int t, .retAddr 0] [] (S sl p m.1 m.2)) (fun q m => ev (d + 3) 83 36 [.ref 27, .int q, .retAddr 0, .retAddr 0] [] (S sl p m.1 m.2)) (fun o m => LiR m.1 32 1073741824 o ∧ (∀ a k, a ≠ 32 → m.1 a k = I1 a k) ∧ ∀ a k, a ≠ 28 → m.2 a k = J a k)
      (by
        rintro i j o ⟨x, y⟩ hi hj ⟨r1, r2, r3⟩
        simp only at r1 r2 r3
        simp only
        have s1 : SV p x (setV y 28 (arV (nI (10 * i)) (nI (10 * j)))) D := h.sv.fr (fun a k _ => by rw [r2 _ _ (by omega), F0 _ _ (by omega) (by omega)]) (by rw [r2 _ _ (by omega), F0 _ _ (by omega) (by omega)]) (by rw [r2 _ _ (by omega), F0 _ _ (by omega) (by omega)]) (fun a k _ _ => by rw [r2 _ _ (by omega), F0 _ _ (by omega) (by omega)]) (fun a k _ _ => by rw [setV_ne (by omega), r3 _ _ (by omega)]) (fun a k _ _ => by rw [setV_ne (by omega), r3 _ _ (by omega)])
        have hwb : wbN D (arV (nI (10 * i)) (nI (10 * j))) (nc D) ≤ 1200000 := by have := wbN_b h.sv.gd (arV (nI (10 * i)) (nI (10 * j))) (nc D); omega
        rw [E83_44, if_pos (show nI (10 * i) < 360 from lt_n (n := 360) (by omega) (by decide)), sp_arrowInto (by omega) (by omega) ob_28 s1.sn, evK_v, E83_64, C_weightsBy s1 ob_28 (by rw [vec_setV]; exact arV_b _ _), vec_setV, evK_s, E83_72, show nI (10 * i) + 10 = nI (10 * (i + 1)) from by rw [show (10 : Int32) = nI 10 from rfl, nI_add]; rfl]
        generalize wbN D (arV (nI (10 * i)) (nI (10 * j))) (nc D) = w at hwb
        have K : ∀ a k, a ≠ 28 → setV y 28 (arV (nI (10 * i)) (nI (10 * j))) a k = J a k := fun a k z => by rw [setV_ne z]; exact r3 a k z
        generalize setV y 28 (arV (nI (10 * i)) (nI (10 * j))) = y2 at K
        have upd : ∃ m' : (Nat → Nat → Int32) × (Nat → Nat → Int64), evK (d + 3) 83 92 [.ref 27, .int (nI (10 * j)), .int (nI (10 * i)), .int (nI w)] [] (den (d + 2) 82 [.ref 32, .int (nI (10 * i)), .int (nI (10 * j))] (S sl p x y2)) = ev (d + 3) 83 44 [.ref 27, .int (nI (10 * j)), .int (nI (10 * (i + 1))), .retAddr 0] [] (S sl p m'.1 m'.2) ∧ LiR m'.1 32 1073741824 (some (w, i, j)) ∧ (∀ a k, a ≠ 32 → m'.1 a k = I1 a k) ∧ ∀ a k, a ≠ 28 → m'.2 a k = J a k := by
          rw [C_pair ar_32 (by omega) (by decide), evK_v, E83_92, show nI (10 * i) + 10 = nI (10 * (i + 1)) from by rw [show (10 : Int32) = nI 10 from rfl, nI_add]; rfl]
          have u0 : up2 (up2 (up2 x 32 0 (nI (10 * i))) 32 1 (nI (10 * j))) 32 2 (nI w) 32 0 = nI (10 * i) := by rw [up_nk (by omega), up_nk (by omega), up_s]
          have u1 : up2 (up2 (up2 x 32 0 (nI (10 * i))) 32 1 (nI (10 * j))) 32 2 (nI w) 32 1 = nI (10 * j) := by rw [up_nk (by omega), up_s]
          have u2 : up2 (up2 (up2 x 32 0 (nI (10 * i))) 32 1 (nI (10 * j))) 32 2 (nI w) 32 2 = nI w := up_s
          have uF : ∀ a k, a ≠ 32 → up2 (up2 (up2 x 32 0 (nI (10 * i))) 32 1 (nI (10 * j))) 32 2 (nI w) a k = I1 a k := fun a k z => by rw [up_na z, up_na z, up_na z]; exact r2 a k z
          generalize up2 (up2 (up2 x 32 0 (nI (10 * i))) 32 1 (nI (10 * j))) 32 2 (nI w) = x2 at u0 u1 u2 uF
          exact ⟨(x2, y2), rfl, LiR_s u0 u1 u2 hwb, uF, K⟩
        cases o with
        | none =>
          rw [r1.1 rfl, if_pos (show nI w < 1073741824 from lt_n (n := 1073741824) (by omega) (by decide))]
          exact upd
        | some z =>
          obtain ⟨w0, t0, q0⟩ := z
          obtain ⟨z0, z1, z2, z3⟩ := r1.2 w0 t0 q0 rfl
          rw [z2]
          by_cases c : w < w0
          · rw [if_pos ((nI_lt_iff (by omega) (by omega)).mpr c)]
            have : stT (fun a b => decide (a < b)) w i j (some (w0, t0, q0)) = some (w, i, j) := if_pos (decide_eq_true c)
            rw [this]
            exact upd
          · rw [if_neg (fun z => c ((nI_lt_iff (by omega) (by omega)).mp z))]
            have : stT (fun a b => decide (a < b)) w i j (some (w0, t0, q0)) = some (w0, t0, q0) := if_neg (by simpa using c)
            rw [this]
            exact ⟨(x, y2), rfl, r1, r2, K⟩)
      (by
        rintro j ⟨x, y⟩ hj
        simp only
        rw [E83_36, if_pos (show nI (10 * j) ≤ 90 from (nI_le_iff (b := 90) (by omega) (by omega)).mpr (by omega))])
      (by
        rintro j ⟨x, y⟩ hj
        simp only
        rw [E83_44, if_neg (by decide), show nI (10 * j) + 10 = nI (10 * (j + 1)) from by rw [show (10 : Int32) = nI 10 from rfl, nI_add]; rfl])
      (I1, J) ⟨⟨fun _ => g2, fun _ _ _ w => by cases w⟩, fun _ _ _ => rfl, fun _ _ _ => rfl⟩
    simp only at e1 r1 r2 r3
    have hne : ∃ w t q, nlO D = some (w, t, q) := neA_some (n := 10) rfl
    obtain ⟨w, t, q', eo⟩ := hne
    have hli : LiC I2 32 (nlO D) := by
      obtain ⟨z0, z1, z2, -⟩ := r1.2 w t q' eo
      exact ⟨w, t, q', eo, z0, z1, z2⟩
    have F : ∀ a k, ¬ (a = 27 ∧ k = 10) → a ≠ 32 → I2 a k = I a k := fun a k w1 w2 => by rw [r2 a k w2, F0 a k w1 w2]
    refine ⟨I2, J2, ?_, ?_, hli, ⟨fun a k _ _ => F _ _ (by omega) (by omega), fun a k _ _ => r3 _ _ (by omega)⟩⟩
    · rw [e1, E83_36, if_neg (by decide)]
    · exact ⟨h.sv.fr (fun a k _ => F _ _ (by omega) (by omega)) (F _ _ (by omega) (by omega)) (F _ _ (by omega) (by omega)) (fun a k _ _ => F _ _ (by omega) (by omega)) (fun _ _ _ _ => r3 _ _ (by omega)) (fun _ _ _ _ => r3 _ _ (by omega)), by rw [F _ _ (by omega) (by omega)]; exact h.ed, fun k hk => by rw [F _ _ (by omega) (by omega)]; exact h.sl k hk, h.g.fr h.sv.gd (fun a k w => F _ _ (by omega) (by omega)) (fun a k _ _ => r3 _ _ (by omega)), h.b.fr (fun k _ _ => F _ _ (by omega) (by omega)), h.s.fr (fun a k w => F _ _ (by omega) (by omega)) (fun a k _ _ => r3 _ _ (by omega)), h.f.fr (F _ _ (by omega) (by omega)) (fun k => r3 _ _ (by omega)), h.x.fr (fun a k w => F _ _ (by omega) (by omega)), ⟨Or.inr ⟨e, Nat.le_refl e, by rw [r2 _ _ (by omega)]; exact g10⟩, fun _ => hli⟩, h.t.fr (fun a k w => F _ _ (by omega) (by omega)), h.z.fr (fun a k w => F _ _ (by omega) (by omega))⟩
end NET
