/-! hazards: what both sides reckon -/
def ofX (x : Int32) : Int32 := if 360 - fmod x < fmod x then 360 - fmod x else fmod x
def ofV (a b : Int32) : Int32 := ofX (a - b)
def ofM (x : Int32) : Int32 := if (360 - ((if 0 ≤ x then x else 0 - x) - (if 0 ≤ x then x else 0 - x) / 360 * 360)) < ((if 0 ≤ x then x else 0 - x) - (if 0 ≤ x then x else 0 - x) / 360 * 360) then (360 - ((if 0 ≤ x then x else 0 - x) - (if 0 ≤ x then x else 0 - x) / 360 * 360)) else ((if 0 ≤ x then x else 0 - x) - (if 0 ≤ x then x else 0 - x) / 360 * 360)
theorem of_tab : ((List.range 900).all fun k => decide (ofM (nI k - 540) = ofX (nI k - 540) ∧ 0 ≤ (ofX (nI k - 540)).toInt ∧ (ofX (nI k - 540)).toInt ≤ 180)) = true := by decide +kernel
theorem of_k {a b : Nat} (ha : a < 360) (hb : b ≤ 540) : nI a - nI b = nI (a + 540 - b) - 540 := by
  apply Int32.toInt_inj.mp
  rw [nI_sub_t (by omega) (by omega), show (540 : Int32) = nI 540 from rfl, nI_sub_t (by omega) (by omega)]
  omega
theorem of_b {a b : Nat} (ha : a < 360) (hb : b ≤ 540) : ofM (nI a - nI b) = ofV (nI a) (nI b) ∧ ∃ o, o ≤ 180 ∧ ofV (nI a) (nI b) = nI o := by
  obtain ⟨h1, h2, h3⟩ := of_decide_eq_true (List.all_eq_true.mp of_tab (a + 540 - b) (List.mem_range.mpr (by omega)))
  unfold ofV
  rw [of_k ha hb]
  refine ⟨h1, (ofX (nI (a + 540 - b) - 540)).toInt.toNat, by omega, Int32.toInt_inj.mp ?_⟩
  rw [tI (by omega)]
  omega
theorem dbl {M β : Type} (O : Int32 → M → Option β) (F : Int32 → Int32 → M → Option β) (n : Nat) (P : Nat → Nat → M → Prop) (hO : ∀ a m, a < n → P a 0 m → O (nI a) m = F (nI a) (nI (a + 1)) m) (hin : ∀ a j m, a + 1 + j < n → P a j m → ∃ m', F (nI a) (nI (a + 1 + j)) m = F (nI a) (nI (a + 1 + j + 1)) m' ∧ P a (j + 1) m') (hE : ∀ a m, a < n → P a (n - (a + 1)) m → F (nI a) (nI n) m = O (nI (a + 1)) m ∧ P (a + 1) 0 m) (m : M) (h0 : P 0 0 m) : ∃ m', O 0 m = O (nI n) m' ∧ P n 0 m' := by
  refine for_ex (M := M) O n (fun a m => P a 0 m) (fun a m ha hm => ?_) m h0
  obtain ⟨m', e1, h1⟩ := for_exk (M := M) (fun b m => F (nI a) b m) (a + 1) (n - (a + 1)) (fun j m => P a j m) (fun j m hj hm => hin a j m (by omega) hm) m hm
  rw [show a + 1 + (n - (a + 1)) = n by omega] at e1
  obtain ⟨e2, h2⟩ := hE a m' ha h1
  exact ⟨m', (hO a m ha hm).trans (e1.trans e2), h2⟩
/-- the first couple -/
def fcB (hit : Nat → Nat → Bool) (n a : Nat) : Nat := fsq (fun j => hit a (a + 1 + j)) (n - (a + 1))
def fcA (hit : Nat → Nat → Bool) (n : Nat) : Nat := fsq (fun a => decide (fcB hit n a < n - (a + 1))) n
theorem dbl1 {β : Type} (O : Int32 → Option β) (F : Int32 → Int32 → Option β) (hit : Nat → Nat → Bool) (n : Nat) (hO : ∀ a, a < n → O (nI a) = F (nI a) (nI (a + 1))) (hin : ∀ a j, a + 1 + j < n → hit a (a + 1 + j) = false → F (nI a) (nI (a + 1 + j)) = F (nI a) (nI (a + 1 + j + 1))) (hE : ∀ a, a < n → F (nI a) (nI n) = O (nI (a + 1))) : O 0 = if fcA hit n = n then O (nI n) else F (nI (fcA hit n)) (nI (fcA hit n + 1 + fcB hit n (fcA hit n))) := by
  have inn : ∀ a, a < n → F (nI a) (nI (a + 1)) = F (nI a) (nI (a + 1 + fcB hit n a)) := by
    intro a ha
    have hle : fcB hit n a ≤ n - (a + 1) := fsq_le _ _
    obtain ⟨-, e, -⟩ := for_exk (M := Unit) (fun b _ => F (nI a) b) (a + 1) (fcB hit n a) (fun _ _ => True) (fun j _ hj _ => ⟨(), hin a j (by omega) (fsq_no (fun j => hit a (a + 1 + j)) (n - (a + 1)) j hj), trivial⟩) () trivial
    exact e
  have hA : fcA hit n ≤ n := fsq_le _ _
  obtain ⟨-, e, -⟩ := for_ex (M := Unit) (fun a _ => O a) (fcA hit n) (fun _ _ => True) (fun a _ ha _ => by
    have hn := fsq_no (fun a => decide (fcB hit n a < n - (a + 1))) n a ha
    have hf : fcB hit n a = n - (a + 1) := by
      have h1 : fcB hit n a ≤ n - (a + 1) := fsq_le _ _
      have h2 : ¬ fcB hit n a < n - (a + 1) := of_decide_eq_false hn
      omega
    refine ⟨(), ?_, trivial⟩
    have e1 := inn a (by omega)
    rw [hf, show a + 1 + (n - (a + 1)) = n by omega] at e1
    exact (hO a (by omega)).trans (e1.trans (hE a (by omega)))) () trivial
  by_cases q : fcA hit n = n
  · rw [if_pos q, e, q]
  · rw [if_neg q, e, hO _ (by omega), inn _ (by omega)]
section HAZ
variable {d sl : Nat} {p : Nat → Nat} {I I' : Nat → Nat → Int32} {J J' : Nat → Nat → Int64} {D : Nat → Nat → Int32} {e : Nat}
theorem C_off (a b : Int32) : den (d + 1) 48 [.int a, .int b] (S sl p I J) = some (some (.int (ofV a b)), S sl p I J) := E48_0 a b
theorem M_off {a b : Nat} (ha : a < 360) (hb : b ≤ 540) : den (d + 1) 290 [.int (nI a), .int (nI b)] (S sl p I J) = some (some (.int (ofV (nI a) (nI b))), S sl p I J) := by
  rw [E290_0, ← (of_b ha hb).1]
  rfl
noncomputable def slB (D : Nat → Nat → Int32) (x y : Nat) (s : Nat) : Bool := !decide (nI (dpv (meO D s)) ≤ D 46 8) && decide (nI (dpv (meO D s)) < nI y) && decide (ofV (nI (drv (meO D s))) (nI x) ≤ D 46 9)
noncomputable def tpB (D : Nat → Nat → Int32) (x y : Nat) (s : Nat) : Bool := !decide (nI y - D 46 8 < 90 - nI (dpv (meO D s))) && decide (ofV (nI (drv (meO D s))) (nI (x + 180)) ≤ D 46 9)
noncomputable def wsP (D : Nat → Nat → Int32) (x y : Nat) (v : V3) : Bool := !decide (v.1 = 0 ∧ v.2.1 = 0 ∧ v.2.2 = 0) && !decide (nI (pgv v) ≤ D 46 8) && decide (ofV (nI (trd v)) (nI x) < 90) && decide ((sn (nI (pgv v))).toInt64 * (cs (nI y)).toInt64 * 1000 < (sn (nI y)).toInt64 * (cs (ofV (nI (trd v)) (nI x))).toInt64 * (cs (nI (pgv v))).toInt64)
noncomputable def wsB (D : Nat → Nat → Int32) (x y a b : Nat) : Bool := wsP D x y (wdV D a b)
noncomputable def wcN (D : Nat → Nat → Int32) (x y a : Nat) : Nat := cnt (fun j => wsB D x y a (a + 1 + j)) (nst D - (a + 1))
theorem drv_lt (v : V3) : drv v < 360 := plN_lt (Nat.mod_lt _ (by decide))
theorem C_sliding (h : CK p I J D e) (hG : GrC I J D) (hM : ∀ s, s < nst D → Msd I J D s) (x y : Nat) : den (d + 2) 49 [.ref 34, .int (nI x), .int (nI y)] (S sl p I J) = some (some (.int (biN (slB D x y) (nst D))), S sl p I J) := by
  have n30 := hG.n30 h.sv.gd
  have s7 : I 34 7 = D 46 8 := h.sl 2 (by omega)
  have s8 : I 34 8 = D 46 9 := h.sl 3 (by omega)
  obtain ⟨u, e1, g1⟩ := for_ex (M := Int32) (fun k u => ev (d + 2) 49 5 [.ref 34, .int (nI x), .int (nI y), .int u, .int k, .retAddr 0, .retAddr 0] [] (S sl p I J)) (nst D) (fun k u => u = biN (slB D x y) k)
    (by
      intro k u hk hu
      have hk3 : k < 30 := by omega
      refine ⟨biN (slB D x y) (k + 1), ?_, rfl⟩
      have es : biN (slB D x y) (k + 1) = if slB D x y k = true then biN (slB D x y) k ||| (1 <<< (nI k &&& 31)) else biN (slB D x y) k := rfl
      rw [E49_5, hG.sets, if_pos (lt_n hk (by omega)), ck_if (ixb_n (by omega) (by decide)), cl_n (by omega), (hM k hk).dip, s7, es, hu]
      by_cases q1 : nI (dpv (meO D k)) ≤ D 46 8
      · rw [if_pos q1, E49_54 _ _ _ _ hk3, E49_55 _ _ _ _ _ hk3, if_pos rfl, nI_1, if_neg (by unfold slB; simp [q1])]
      · rw [if_neg q1]
        by_cases q2 : nI (dpv (meO D k)) < nI y
        · rw [if_pos q2, E49_55 _ _ _ _ _ hk3, if_neg (by decide), (hM k hk).dir, C_off, evK_s, E49_71 _ _ _ _ _ _ hk3, s8, nI_1]
          by_cases q3 : ofV (nI (drv (meO D k))) (nI x) ≤ D 46 9
          · rw [if_pos q3, if_pos (by unfold slB; simp [q1, q2, q3])]
          · rw [if_neg q3, if_neg (by unfold slB; simp [q3])]
        · rw [if_neg q2, E49_54 _ _ _ _ hk3, E49_55 _ _ _ _ _ hk3, if_pos rfl, nI_1, if_neg (by unfold slB; simp [q2])])
    0 rfl
  rw [E49_0, e1, E49_5, hG.sets, if_neg (nlt_n (by omega)), g1]
theorem C_toppling (h : CK p I J D e) (hG : GrC I J D) (hM : ∀ s, s < nst D → Msd I J D s) (x y : Nat) : den (d + 2) 50 [.ref 34, .int (nI x), .int (nI y)] (S sl p I J) = some (some (.int (biN (tpB D x y) (nst D))), S sl p I J) := by
  have n30 := hG.n30 h.sv.gd
  have s7 : I 34 7 = D 46 8 := h.sl 2 (by omega)
  have s8 : I 34 8 = D 46 9 := h.sl 3 (by omega)
  obtain ⟨u, e1, g1⟩ := for_ex (M := Int32) (fun k u => ev (d + 2) 50 5 [.ref 34, .int (nI x), .int (nI y), .int u, .int k, .retAddr 0, .retAddr 0] [] (S sl p I J)) (nst D) (fun k u => u = biN (tpB D x y) k)
    (by
      intro k u hk hu
      have hk3 : k < 30 := by omega
      refine ⟨biN (tpB D x y) (k + 1), ?_, rfl⟩
      have es : biN (tpB D x y) (k + 1) = if tpB D x y k = true then biN (tpB D x y) k ||| (1 <<< (nI k &&& 31)) else biN (tpB D x y) k := rfl
      rw [E50_5, hG.sets, if_pos (lt_n hk (by omega)), ck_if (ixb_n (by omega) (by decide)), cl_n (by omega), (hM k hk).dip, s7, es, hu]
      by_cases q1 : nI y - D 46 8 < 90 - nI (dpv (meO D k))
      · rw [if_pos q1, E50_51 _ _ _ _ _ hk3, if_pos rfl, nI_1, if_neg (by unfold tpB; simp [q1])]
      · rw [if_neg q1, E50_51 _ _ _ _ _ hk3, if_neg (by decide), (hM k hk).dir, C_off, evK_s, E50_71 _ _ _ _ _ _ hk3, s8, nI_1, show nI x + 180 = nI (x + 180) from nI_add x 180]
        by_cases q3 : ofV (nI (drv (meO D k))) (nI (x + 180)) ≤ D 46 9
        · rw [if_pos q3, if_pos (by unfold tpB; simp [q1, q3])]
        · rw [if_neg q3, if_neg (by unfold tpB; simp [q3])])
    0 rfl
  rw [E50_0, e1, E50_5, hG.sets, if_neg (nlt_n (by omega)), g1]
/-- the wedges lie in the class -/
theorem C_slides (h : CK p I J D e) (hZ : HzC I D) {a b x y : Nat} (hab : a < b) (hb : b < nst D) (hb3 : nst D ≤ 30) (hx : x < 360) (hy : y ≤ 90) : den (d + 2) 53 [.ref 34, .int (nI (30 * a + b)), .int (nI x), .int (nI y)] (S sl p I J) = some (some (.int (if wsB D x y a b = true then 1 else 0)), S sl p I J) := by
  have s7 : I 34 7 = D 46 8 := h.sl 2 (by omega)
  rw [E53_0, ck_if (ixb_n (by omega) (by decide)), ck_if (ixb_n (by omega) (by decide)), cl_n (by omega), s7]
  unfold wsB
  rcases hZ a b hab hb with ⟨z1, z2, z3, z4⟩ | ⟨z1, z2, z3⟩
  · rw [z4, if_pos (by decide), if_neg (by unfold wsP; simp [z1, z2, z3])]
  · have ht := trd_lt (wdV D a b)
    have hp := pgv_le (wdV D a b)
    rw [z2, if_neg (nI_pos (by omega)), z3]
    by_cases q1 : nI (pgv (wdV D a b)) ≤ D 46 8
    · rw [if_pos q1, if_neg (by unfold wsP; simp [q1])]
    · rw [if_neg q1, C_off, evK_s, E53_38]
      by_cases q2 : ofV (nI (trd (wdV D a b))) (nI x) < 90
      · obtain ⟨o, ho, eo⟩ := (of_b ht (show x ≤ 540 by omega)).2
        have q2' := q2
        rw [eo] at q2'
        have ho9 : o < 90 := (nI_lt_iff (b := 90) (by omega) (by omega)).mp q2'
        rw [if_pos q2, C_sin h.sv.sn (by omega), evK_s, E53_58, C_cos h.sv.sn (by omega), evK_s, E53_67, C_sin h.sv.sn (by omega), evK_s, E53_85, eo, C_cos h.sv.sn (by omega), evK_s, E53_95, C_cos h.sv.sn (by omega), evK_s, E53_106]
        by_cases q3 : (sn (nI (pgv (wdV D a b)))).toInt64 * (cs (nI y)).toInt64 * 1000 < (sn (nI y)).toInt64 * (cs (nI o)).toInt64 * (cs (nI (pgv (wdV D a b)))).toInt64
        · have hT : wsP D x y (wdV D a b) = true := by
            unfold wsP
            rw [eo, decide_eq_true q2', decide_eq_true q3, decide_eq_false q1, decide_eq_false z1]
            rfl
          rw [if_pos q3, if_pos hT]
        · have hT : ¬ wsP D x y (wdV D a b) = true := by
            unfold wsP
            rw [eo, decide_eq_false q3, Bool.and_false]
            decide
          rw [if_neg q3, if_neg hT]
      · have hT : ¬ wsP D x y (wdV D a b) = true := by
          unfold wsP
          rw [decide_eq_false q2, Bool.and_false, Bool.false_and]
          decide
        rw [if_neg q2, if_neg hT]
theorem ix30 (a b : Nat) : nI a * 30 + nI b = nI (30 * a + b) := by rw [show (30 : Int32) = nI 30 from rfl, nI_mul, nI_add, Nat.mul_comm]
theorem C_countW (h : CK p I J D e) (hG : GrC I J D) (hZ : HzC I D) {x y : Nat} (hx : x < 360) (hy : y ≤ 90) : den (d + 3) 54 [.ref 34, .int (nI x), .int (nI y)] (S sl p I J) = some (some (.int (nI (smN (wcN D x y) (nst D)))), S sl p I J) := by
  have n30 := hG.n30 h.sv.gd
  obtain ⟨u, e1, g1⟩ := dbl (M := Int32) (fun a u => ev (d + 3) 54 14 [.ref 34, .int (nI x), .int (nI y), .int (nI (nst D)), .int u, .int a, .retAddr 0] [] (S sl p I J)) (fun a b u => ev (d + 3) 54 26 [.ref 34, .int (nI x), .int (nI y), .int (nI (nst D)), .int u, .int a, .int b] [] (S sl p I J)) (nst D) (fun a j u => u = nI (smN (wcN D x y) a + cnt (fun j => wsB D x y a (a + 1 + j)) j))
    (by
      intro a u ha _
      rw [E54_14, if_pos (lt_n ha (by omega)), nI_1])
    (by
      intro a j u hj hu
      rw [E54_26, if_pos (lt_n hj (by omega)), ix30, C_slides h hZ (by omega) hj n30 hx hy, evK_s, E54_46, nI_1]
      refine ⟨_, ?_, rfl⟩
      rw [hu, cnt_s, nI_1]
      by_cases q : wsB D x y a (a + 1 + j) = true
      · rw [if_pos q, if_neg (by decide), if_pos q]
        rfl
      · rw [if_neg q, if_pos rfl, if_neg q]
        rfl)
    (by
      intro a u ha hu
      refine ⟨by rw [E54_26, if_neg (nlt_n (by omega)), nI_1], ?_⟩
      rw [hu, smN_s]
      rfl)
    0 rfl
  rw [E54_0, hG.sets, e1, E54_14, if_neg (nlt_n (by omega)), g1]
  rfl
theorem C_first2 (h : CK p I J D e) (hG : GrC I J D) (hZ : HzC I D) {x y : Nat} (hx : x < 360) (hy : y ≤ 90) (ex : D 46 6 = nI x) (ey : D 46 7 = nI y) : den (d + 3) 55 [.ref 34] (S sl p I J) = some (some (.int (if fcA (wsB D x y) (nst D) = nst D then -1 else nI (100 * fcA (wsB D x y) (nst D) + (fcA (wsB D x y) (nst D) + 1 + fcB (wsB D x y) (nst D) (fcA (wsB D x y) (nst D)))))), S sl p I J) := by
  have n30 := hG.n30 h.sv.gd
  have s5 : I 34 5 = nI x := (h.sl 0 (by omega)).trans ex
  have s6 : I 34 6 = nI y := (h.sl 1 (by omega)).trans ey
  rw [E55_0, hG.sets, dbl1 (fun a => ev (d + 3) 55 10 [.ref 34, .int (nI (nst D)), .int a, .retAddr 0] [] (S sl p I J)) (fun a b => ev (d + 3) 55 19 [.ref 34, .int (nI (nst D)), .int a, .int b] [] (S sl p I J)) (wsB D x y) (nst D)
    (by
      intro a ha
      rw [E55_10, if_pos (lt_n ha (by omega)), nI_1])
    (by
      intro a j hj hh
      rw [E55_19, if_pos (lt_n hj (by omega)), ix30, s5, s6, C_slides h hZ (by omega) hj n30 hx hy, evK_s, E55_42, if_neg (show ¬ wsB D x y a (a + 1 + j) = true by rw [hh]; decide), if_pos rfl, nI_1])
    (by
      intro a ha
      rw [E55_19, if_neg (nlt_n (by omega)), nI_1])]
  by_cases q : fcA (wsB D x y) (nst D) = nst D
  · rw [if_pos q, if_pos q, E55_10, if_neg (nlt_n (by omega))]
  · have hA : fcA (wsB D x y) (nst D) ≤ nst D := fsq_le _ _
    have hy2 := fsq_yes (fun a => decide (fcB (wsB D x y) (nst D) a < nst D - (a + 1))) (nst D) (show fcA (wsB D x y) (nst D) < nst D by omega)
    have hlt : fcB (wsB D x y) (nst D) (fcA (wsB D x y) (nst D)) < nst D - (fcA (wsB D x y) (nst D) + 1) := of_decide_eq_true hy2
    have hh : wsB D x y (fcA (wsB D x y) (nst D)) (fcA (wsB D x y) (nst D) + 1 + fcB (wsB D x y) (nst D) (fcA (wsB D x y) (nst D))) = true := fsq_yes (fun j => wsB D x y (fcA (wsB D x y) (nst D)) (fcA (wsB D x y) (nst D) + 1 + j)) (nst D - (fcA (wsB D x y) (nst D) + 1)) hlt
    rw [if_neg q, if_neg q, E55_19, if_pos (lt_n (by omega) (by omega)), ix30, s5, s6, C_slides h hZ (by omega) (by omega) n30 hx hy, evK_s, E55_42, if_pos hh, if_neg (by decide), show (100 : Int32) = nI 100 from rfl, nI_mul, nI_add]
noncomputable def rkN (D : Nat → Nat → Int32) (x y : Nat) : Nat := cnt (slB D x y) (nst D) + cnt (tpB D x y) (nst D) + smN (wcN D x y) (nst D)
theorem C_countAll (h : CK p I J D e) (hG : GrC I J D) (hM : ∀ s, s < nst D → Msd I J D s) (hZ : HzC I D) {x y : Nat} (hx : x < 360) (hy : y ≤ 90) : den (d + 4) 56 [.ref 34, .int (nI x), .int (nI y)] (S sl p I J) = some (some (.int (nI (rkN D x y))), S sl p I J) := by
  have n30 := hG.n30 h.sv.gd
  rw [E56_0, C_sliding h hG hM, evK_s, E56_6, C_bits n30, evK_s, E56_9, C_toppling h hG hM, evK_s, E56_16, C_bits n30, evK_s, E56_19, C_countW h hG hZ hx hy, evK_s, E56_31, nI_add, nI_add]
  rfl
theorem C_findW (h : CK p I J D e) (hG : GrC I J D) (hM : ∀ s, s < nst D → Msd I J D s) (hq : I 11 15 = I 4 10) : ∃ I' J', den (d + 4) 52 [.ref 34] (S sl p I J) = some (none, S sl p I' J') ∧ CK p I' J' D e ∧ HzC I' D ∧ (∀ a k, ¬ (a = 34 ∧ k = 9) → a ≠ 36 → a ≠ 37 → I' a k = I a k) ∧ ∀ a k, a ≠ 35 → J' a k = J a k := by
  have n30 := hG.n30 h.sv.gd
  have hD := h.sv.gd
  by_cases q : I 34 9 = I 11 15
  · exact ⟨I, J, by rw [E52_0, if_pos q], h, h.z.2 (q.trans (hq.trans h.ed)), fun _ _ _ _ _ => rfl, fun _ _ _ => rfl⟩
  · have F0 : ∀ a k, ¬ (a = 34 ∧ k = 9) → up2 I 34 9 (I 11 15) a k = I a k := fun a k w => up_n w
    have g9 : up2 I 34 9 (I 11 15) 34 9 = nI e := by rw [up_s, hq]; exact h.ed
    rw [E52_0, if_neg q, hG.sets]
    generalize up2 I 34 9 (I 11 15) = I1 at F0 g9
    have mean : ∀ s, s < nst D → vec J (800 + s) = meO D s := fun s hs => (hM s hs).mean
    obtain ⟨⟨x, y⟩, e1, g1, g2, g3⟩ := dbl (M := (Nat → Nat → Int32) × (Nat → Nat → Int64)) (fun a m => ev (d + 4) 52 36 [.ref 34, .int (nI (nst D)), .int a, .retAddr 0, .retAddr 0] [] (S sl p m.1 m.2)) (fun a b m => ev (d + 4) 52 45 [.ref 34, .int (nI (nst D)), .int a, .int b, .retAddr 0] [] (S sl p m.1 m.2)) (nst D)
      (fun a j m => (∀ a' b', a' < b' → b' < nst D → (a' < a ∨ (a' = a ∧ b' < a + 1 + j)) → ((wdV D a' b').1 = 0 ∧ (wdV D a' b').2.1 = 0 ∧ (wdV D a' b').2.2 = 0 ∧ m.1 36 (30 * a' + b') = -1) ∨ (¬ ((wdV D a' b').1 = 0 ∧ (wdV D a' b').2.1 = 0 ∧ (wdV D a' b').2.2 = 0) ∧ m.1 36 (30 * a' + b') = nI (trd (wdV D a' b')) ∧ m.1 37 (30 * a' + b') = nI (pgv (wdV D a' b')))) ∧ (∀ a k, a ≠ 36 → a ≠ 37 → m.1 a k = I1 a k) ∧ ∀ a k, a ≠ 35 → m.2 a k = J a k)
      (by
        rintro a ⟨x, y⟩ ha _
        simp only
        rw [E52_36, if_pos (lt_n ha (by omega)), nI_1])
      (by
        rintro a j ⟨x, y⟩ hj ⟨g1, g2, g3⟩
        simp only at g1 g2 g3
        simp only
        have hw := wdV_w hD hG.lab (show a < nst D by omega) hj
        have hK : ∀ (x' : Nat → Nat → Int32), (∀ a k, a ≠ 36 → a ≠ 37 → x' a k = I1 a k) → SV p x' y D ∧ ∀ s, s < nst D → Msd x' y D s := by
          intro x' hx'
          refine ⟨h.sv.fr (fun a k _ => by rw [hx' _ _ (by omega) (by omega), F0 _ _ (by omega)]) (by rw [hx' _ _ (by omega) (by omega), F0 _ _ (by omega)]) (by rw [hx' _ _ (by omega) (by omega), F0 _ _ (by omega)]) (fun a k _ _ => by rw [hx' _ _ (by omega) (by omega), F0 _ _ (by omega)]) (fun a k _ _ => g3 _ _ (by omega)) (fun a k _ _ => g3 _ _ (by omega)), fun s hs => (hM s hs).fr (fun k _ => by rw [hx' _ _ (by omega) (by omega), F0 _ _ (by omega)]) (fun k => g3 _ _ (by omega)) (fun k => g3 _ _ (by omega)) (fun k => g3 _ _ (by omega))⟩
        have u0 : ∀ b k, b ≠ 36 → b ≠ 37 → up2 x 36 (30 * a + (a + 1 + j)) (-1) b k = I1 b k := fun b k w1 w2 => by rw [up_na w1]; exact g2 b k w1 w2
        have um : up2 x 36 (30 * a + (a + 1 + j)) (-1) 36 (30 * a + (a + 1 + j)) = -1 := up_s
        have un : ∀ b k, ¬ (b = 36 ∧ k = 30 * a + (a + 1 + j)) → up2 x 36 (30 * a + (a + 1 + j)) (-1) b k = x b k := fun b k w => up_n w
        rw [E52_45, if_pos (lt_n hj (by omega)), ix30, ck_if (ixb_n (by omega) (by decide)), cl_n (by omega)]
        generalize up2 x 36 (30 * a + (a + 1 + j)) (-1) = x2 at u0 um un
        obtain ⟨k1, k2⟩ := hK x2 u0
        have K3 : ∀ b k, b ≠ 35 → setV y 35 (wdV D a (a + 1 + j)) b k = J b k := fun b k w => by rw [setV_ne w]; exact g3 b k w
        have v35 : vec (setV y 35 (wdV D a (a + 1 + j))) 35 = wdV D a (a + 1 + j) := vec_setV
        rw [C_wedgeInto k1 hG.lab k2 (show a < nst D by omega) hj ob_35, evK_s, E52_76, nI_1]
        generalize setV y 35 (wdV D a (a + 1 + j)) = y2 at K3 v35
        by_cases hz : (wdV D a (a + 1 + j)).1 = 0 ∧ (wdV D a (a + 1 + j)).2.1 = 0 ∧ (wdV D a (a + 1 + j)).2.2 = 0
        · rw [if_pos (zr_0.mpr hz)]
          refine ⟨(x2, y2), rfl, fun a' b' h1 h2 h3 => ?_, u0, K3⟩
          by_cases c : a' = a ∧ b' = a + 1 + j
          · rw [c.1, c.2]
            exact Or.inl ⟨hz.1, hz.2.1, hz.2.2, um⟩
          · simp only
            rw [un 36 _ (by omega), un 37 _ (by omega)]
            exact g1 a' b' h1 h2 (by omega)
        · have s1 : SNS x2 := k1.sn
          rw [if_neg (fun w => hz (zr_0.mp w)), sp_trendOfC ob_35 s1 (by rw [v35]; exact hw), v35, evK_s, E52_96, ck_if (ixb_n (by omega) (by decide)), ck_if (ixb_n (by omega) (by decide)), cl_n (by omega), up_s]
          have s3 : SNS (up2 x2 36 (30 * a + (a + 1 + j)) (nI (trd (wdV D a (a + 1 + j))))) := fun k hk => by rw [up_na (by omega)]; exact s1 k hk
          have ep := sp_plungeOfC (d := d + 2) (sl := sl) (p := p) (I := up2 x2 36 (30 * a + (a + 1 + j)) (nI (trd (wdV D a (a + 1 + j))))) (J := y2) ob_35 s3 (by rw [v35]; exact hw)
          rw [v35] at ep
          rw [ep, evK_s, E52_121, ck_if (ixb_n (by omega) (by decide)), cl_n (by omega), nI_1]
          have w6 : up2 (up2 x2 36 (30 * a + (a + 1 + j)) (nI (trd (wdV D a (a + 1 + j))))) 37 (30 * a + (a + 1 + j)) (nI (pgv (wdV D a (a + 1 + j)))) 36 (30 * a + (a + 1 + j)) = nI (trd (wdV D a (a + 1 + j))) := by rw [up_na (by omega), up_s]
          have w7 : up2 (up2 x2 36 (30 * a + (a + 1 + j)) (nI (trd (wdV D a (a + 1 + j))))) 37 (30 * a + (a + 1 + j)) (nI (pgv (wdV D a (a + 1 + j)))) 37 (30 * a + (a + 1 + j)) = nI (pgv (wdV D a (a + 1 + j))) := up_s
          have wn : ∀ b k, ¬ ((b = 36 ∨ b = 37) ∧ k = 30 * a + (a + 1 + j)) → up2 (up2 x2 36 (30 * a + (a + 1 + j)) (nI (trd (wdV D a (a + 1 + j))))) 37 (30 * a + (a + 1 + j)) (nI (pgv (wdV D a (a + 1 + j)))) b k = x b k := fun b k w => by rw [up_n (by omega), up_n (by omega), un b k (by omega)]
          generalize up2 (up2 x2 36 (30 * a + (a + 1 + j)) (nI (trd (wdV D a (a + 1 + j))))) 37 (30 * a + (a + 1 + j)) (nI (pgv (wdV D a (a + 1 + j)))) = x3 at w6 w7 wn
          refine ⟨(x3, y2), rfl, fun a' b' h1 h2 h3 => ?_, fun b k w1 w2 => (wn b k (by omega)).trans (g2 b k w1 w2), K3⟩
          by_cases c : a' = a ∧ b' = a + 1 + j
          · rw [c.1, c.2]
            exact Or.inr ⟨hz, w6, w7⟩
          · simp only
            rw [wn 36 _ (by omega), wn 37 _ (by omega)]
            exact g1 a' b' h1 h2 (by omega))
      (by
        rintro a ⟨x, y⟩ ha ⟨g1, g2, g3⟩
        simp only at g1 g2 g3
        simp only
        refine ⟨by rw [E52_45, if_neg (nlt_n (by omega)), nI_1], fun a' b' h1 h2 h3 => g1 a' b' h1 h2 (by omega), g2, g3⟩)
      (I1, J) ⟨fun a' b' h1 h2 h3 => absurd h3 (by omega), fun _ _ _ _ => rfl, fun _ _ _ => rfl⟩
    simp only at e1 g1 g2 g3
    have hz : HzC x D := fun a b hab hb => g1 a b hab hb (Or.inl (by omega))
    have F : ∀ a k, ¬ (a = 34 ∧ k = 9) → a ≠ 36 → a ≠ 37 → x a k = I a k := fun a k w1 w2 w3 => by rw [g2 a k w2 w3, F0 a k w1]
    refine ⟨x, y, ?_, ?_, hz, F, g3⟩
    · rw [e1, E52_36, if_neg (nlt_n (by omega))]
    · exact ⟨h.sv.fr (fun a k _ => F _ _ (by omega) (by omega) (by omega)) (F _ _ (by omega) (by omega) (by omega)) (F _ _ (by omega) (by omega) (by omega)) (fun a k _ _ => F _ _ (by omega) (by omega) (by omega)) (fun _ _ _ _ => g3 _ _ (by omega)) (fun _ _ _ _ => g3 _ _ (by omega)), by rw [F _ _ (by omega) (by omega) (by omega)]; exact h.ed, fun k hk => by rw [F _ _ (by omega) (by omega) (by omega)]; exact h.sl k hk, h.g.fr h.sv.gd (fun a k w => F _ _ (by omega) (by omega) (by omega)) (fun a k _ _ => g3 _ _ (by omega)), h.b.fr (fun k _ _ => F _ _ (by omega) (by omega) (by omega)), h.s.fr (fun a k w => F _ _ (by omega) (by omega) (by omega)) (fun a k _ _ => g3 _ _ (by omega)), h.f.fr (F _ _ (by omega) (by omega) (by omega)) (fun k => g3 _ _ (by omega)), h.x.fr (fun a k w => F _ _ (by omega) (by omega) (by omega)), h.l.fr (fun a k w => F _ _ (by omega) (by omega) (by omega)), h.t.fr (fun a k w => F _ _ (by omega) (by omega) (by omega)), ⟨Or.inr ⟨e, Nat.le_refl e, by rw [g2 _ _ (by omega) (by omega)]; exact g9⟩, fun _ => hz⟩⟩
end HAZ
