/-! how a vector LIES: trend, dip, plunge -/
theorem for_exk {M β : Type} (F : Int32 → M → Option β) (k n : Nat) (P : Nat → M → Prop) (hs : ∀ i x, i < n → P i x → ∃ x', F (nI (k + i)) x = F (nI (k + i + 1)) x' ∧ P (i + 1) x') (x : M) (h0 : P 0 x) : ∃ x', F (nI k) x = F (nI (k + n)) x' ∧ P n x' := by
  have key : ∀ i, i ≤ n → ∃ x', F (nI k) x = F (nI (k + i)) x' ∧ P i x' := by
    intro i
    induction i with
    | zero => intro _; exact ⟨x, rfl, h0⟩
    | succ i ih =>
      intro hi
      obtain ⟨x', e, h⟩ := ih (by omega)
      obtain ⟨x'', e2, h2⟩ := hs i x' (by omega) h
      exact ⟨x'', e.trans e2, h2⟩
  exact key n (Nat.le_refl n)
def cZ (d : Nat) : Int := (cs (nI d)).toInt
def sZ (d : Nat) : Int := (sn (nI d)).toInt
/-- the first that is most, of 0 to n -/
def amx (f : Nat → Int) : Nat → Nat
  | 0 => 0
  | n + 1 => if f (amx f n) < f (n + 1) then n + 1 else amx f n
theorem amx_s {f : Nat → Int} {n : Nat} : amx f (n + 1) = if f (amx f n) < f (n + 1) then n + 1 else amx f n := rfl
theorem amx_le {f : Nat → Int} : ∀ n, amx f n ≤ n
  | 0 => Nat.le_refl 0
  | n + 1 => by
    have := amx_le (f := f) n
    rw [amx_s]
    split <;> omega
def trd (v : V3) : Nat := amx (fun d => v.1.toInt * cZ d + v.2.1.toInt * sZ d) 359
def outv (v : V3) (t : Nat) : Int := (v.1.toInt * cZ t + v.2.1.toInt * sZ t).tdiv 1000
def dpv (v : V3) : Nat := amx (fun d => outv v (trd v) * sZ d + v.2.2.toInt * cZ d) 90
def pgv (v : V3) : Nat := amx (fun d => outv v (trd v) * cZ d + v.2.2.toInt * sZ d) 90
def drv (v : V3) : Nat := plN ((trd v + 180) % 360) (dpv v)
theorem trd_lt (v : V3) : trd v < 360 := by
  have := amx_le (f := fun d => v.1.toInt * cZ d + v.2.1.toInt * sZ d) 359
  unfold trd
  omega
theorem dpv_le (v : V3) : dpv v ≤ 90 := amx_le _
theorem pgv_le (v : V3) : pgv v ≤ 90 := amx_le _
theorem prod_b {a c A C : Int} (ha : -A ≤ a ∧ a ≤ A) (hc : -C ≤ c ∧ c ≤ C) : -(A * C) ≤ a * c ∧ a * c ≤ A * C := by
  have hA : 0 ≤ A := by omega
  have hC : 0 ≤ C := by omega
  have h1 : a.natAbs ≤ A.toNat := by omega
  have h2 : c.natAbs ≤ C.toNat := by omega
  have h3 : (a * c).natAbs ≤ A.toNat * C.toNat := by rw [Int.natAbs_mul]; exact Nat.mul_le_mul h1 h2
  have h4 : ((A.toNat * C.toNat : Nat) : Int) = A * C := by rw [Int.natCast_mul, Int.toNat_of_nonneg hA, Int.toNat_of_nonneg hC]
  omega
/-- two products and their sum, in ints and in longs -/
theorem two32 {a b c s : Int32} (ha : -4000 ≤ a.toInt ∧ a.toInt ≤ 4000) (hb : -4000 ≤ b.toInt ∧ b.toInt ≤ 4000) (hc : -1000 ≤ c.toInt ∧ c.toInt ≤ 1000) (hs : -1000 ≤ s.toInt ∧ s.toInt ≤ 1000) : (a * c + b * s).toInt = a.toInt * c.toInt + b.toInt * s.toInt := by
  have h1 := prod_b (A := 4000) (C := 1000) ha hc
  have h2 := prod_b (A := 4000) (C := 1000) hb hs
  have e1 : (a * c).toInt = a.toInt * c.toInt := mul32 (by omega) (by omega)
  have e2 : (b * s).toInt = b.toInt * s.toInt := mul32 (by omega) (by omega)
  rw [add32 (by rw [e1, e2]; omega) (by rw [e1, e2]; omega), e1, e2]
theorem two64 {a b : Int64} {c s : Int32} (ha : -4000 ≤ a.toInt ∧ a.toInt ≤ 4000) (hb : -4000 ≤ b.toInt ∧ b.toInt ≤ 4000) (hc : -1000 ≤ c.toInt ∧ c.toInt ≤ 1000) (hs : -1000 ≤ s.toInt ∧ s.toInt ≤ 1000) : (a * c.toInt64 + b * s.toInt64).toInt = a.toInt * c.toInt + b.toInt * s.toInt := by
  have h1 := prod_b (A := 4000) (C := 1000) ha hc
  have h2 := prod_b (A := 4000) (C := 1000) hb hs
  have e1 : (a * c.toInt64).toInt = a.toInt * c.toInt := by rw [mul64 (by rw [i64_of]; omega) (by rw [i64_of]; omega), i64_of]
  have e2 : (b * s.toInt64).toInt = b.toInt * s.toInt := by rw [mul64 (by rw [i64_of]; omega) (by rw [i64_of]; omega), i64_of]
  rw [add64 (by rw [e1, e2]; omega) (by rw [e1, e2]; omega), e1, e2]
theorem outv_b {v : V3} (h : bw v) (t : Nat) : -4000 ≤ outv v t ∧ outv v t ≤ 4000 := by
  have h1 := prod_b (A := 2000) (C := 1000) h.1 (cs_b (nI t))
  have h2 := prod_b (A := 2000) (C := 1000) h.2.1 (sn_b (nI t))
  unfold outv cZ sZ
  exact tdiv_b (c := 4000) (by omega) (by omega)
section LIE
variable {d sl : Nat} {p : Nat → Nat} {I : Nat → Nat → Int32} {J : Nat → Nat → Int64}
theorem w32 {v : V3} (h : bw v) : (v.1.toInt32.toInt = v.1.toInt ∧ v.2.1.toInt32.toInt = v.2.1.toInt ∧ v.2.2.toInt32.toInt = v.2.2.toInt) ∧ (-4000 ≤ v.1.toInt ∧ v.1.toInt ≤ 4000) ∧ (-4000 ≤ v.2.1.toInt ∧ v.2.1.toInt ≤ 4000) ∧ -4000 ≤ v.2.2.toInt ∧ v.2.2.toInt ≤ 4000 := by
  refine ⟨⟨n32 h.1, n32 h.2.1, n32 h.2.2⟩, ?_⟩
  unfold bw bJ at h
  omega
theorem sp_trendOf {v : V3} (h : bw v) : den (d + 4) 223 [.ref 46] (S sl p (set3v I v) J) = some (some (.int (nI (trd v))), S sl p (set3v I v) J) := by
  obtain ⟨e1, e2, e3⟩ := set3v_r (I := I) (v := v)
  obtain ⟨⟨w1, w2, w3⟩, b1, b2, b3⟩ := w32 h
  obtain ⟨x, e, hx⟩ := for_exk (M := Int32) (fun k x => ev (d + 4) 223 4 [.ref 46, .int x, .int k] [] (S sl p (set3v I v) J)) 1 359 (fun k x => x = nI (amx (fun d => v.1.toInt * cZ d + v.2.1.toInt * sZ d) k))
    (by
      rintro k x hk rfl
      refine ⟨_, ?_, rfl⟩
      rw [E223_4, if_pos (show nI (1 + k) < 360 from lt_n (n := 360) (by omega) (by decide)), sp_cosine, evK_s, E223_19, sp_sine, evK_s, E223_28, sp_cosine, evK_s, E223_38, sp_sine, evK_s, E223_47, e1, e2, nI_1]
      rw [amx_s, Nat.add_comm k 1]
      have t1 : ∀ j, (v.1.toInt32 * cs (nI j) + v.2.1.toInt32 * sn (nI j)).toInt = v.1.toInt * cZ j + v.2.1.toInt * sZ j := fun j => by
        rw [two32 (by rw [w1]; exact b1) (by rw [w2]; exact b2) (cs_b _) (sn_b _), w1, w2]; rfl
      by_cases q : v.1.toInt32 * cs (nI (1 + k)) + v.2.1.toInt32 * sn (nI (1 + k)) ≤ v.1.toInt32 * cs (nI (amx (fun d => v.1.toInt * cZ d + v.2.1.toInt * sZ d) k)) + v.2.1.toInt32 * sn (nI (amx (fun d => v.1.toInt * cZ d + v.2.1.toInt * sZ d) k))
      · rw [if_pos q]
        have := Int32.le_iff_toInt_le.mp q
        rw [t1, t1] at this
        rw [if_neg (by omega)]
      · rw [if_neg q]
        have : ¬ _ := fun w => q (Int32.le_iff_toInt_le.mpr w)
        rw [t1, t1] at this
        rw [if_pos (by omega)])
    0 rfl
  rw [E223_0, show (1 : Int32) = nI 1 from rfl, e, hx, E223_4, if_neg (show ¬ nI (1 + 359) < 360 from nlt_n (n := 360) (by decide))]
  rfl
theorem sp_outOf {v : V3} (h : bw v) (t : Nat) : ∃ x : Int32, x.toInt = outv v t ∧ den (d + 4) 224 [.ref 46, .int (nI t)] (S sl p (set3v I v) J) = some (some (.int x), S sl p (set3v I v) J) := by
  obtain ⟨e1, e2, e3⟩ := set3v_r (I := I) (v := v)
  obtain ⟨⟨w1, w2, w3⟩, b1, b2, b3⟩ := w32 h
  refine ⟨_, ?_, by rw [E224_0, sp_cosine, evK_s, E224_8, sp_sine, evK_s, E224_17, e1, e2]⟩
  rw [div32 (show 0 < (1000 : Int32).toInt by decide), two32 (by rw [w1]; exact b1) (by rw [w2]; exact b2) (cs_b _) (sn_b _), w1, w2]
  rfl
theorem sp_dipOf {v : V3} (h : bw v) : den (d + 5) 225 [.ref 46] (S sl p (set3v I v) J) = some (some (.int (nI (dpv v))), S sl p (set3v I v) J) := by
  obtain ⟨e1, e2, e3⟩ := set3v_r (I := I) (v := v)
  obtain ⟨⟨w1, w2, w3⟩, b1, b2, b3⟩ := w32 h
  obtain ⟨o, o1, o2⟩ := sp_outOf (d := d) (sl := sl) (p := p) (I := I) (J := J) h (trd v)
  have ob := outv_b h (trd v)
  obtain ⟨x, e, hx⟩ := for_exk (M := Int32) (fun k x => ev (d + 5) 225 13 [.ref 46, .int o, .int x, .int k] [] (S sl p (set3v I v) J)) 1 90 (fun k x => x = nI (amx (fun d => outv v (trd v) * sZ d + v.2.2.toInt * cZ d) k))
    (by
      rintro k x hk rfl
      refine ⟨_, ?_, rfl⟩
      rw [E225_13, if_pos (show nI (1 + k) ≤ 90 from (nI_le_iff (b := 90) (by omega) (by decide)).mpr (by omega)), sp_sine, evK_s, E225_24, sp_cosine, evK_s, E225_33, sp_sine, evK_s, E225_40, sp_cosine, evK_s, E225_49, e3, nI_1]
      rw [amx_s, Nat.add_comm k 1]
      have t1 : ∀ j, (o * sn (nI j) + v.2.2.toInt32 * cs (nI j)).toInt = outv v (trd v) * sZ j + v.2.2.toInt * cZ j := fun j => by
        rw [two32 (by rw [o1]; exact ob) (by rw [w3]; exact b3) (sn_b _) (cs_b _), w3, o1]; rfl
      by_cases q : o * sn (nI (1 + k)) + v.2.2.toInt32 * cs (nI (1 + k)) ≤ o * sn (nI (amx (fun d => outv v (trd v) * sZ d + v.2.2.toInt * cZ d) k)) + v.2.2.toInt32 * cs (nI (amx (fun d => outv v (trd v) * sZ d + v.2.2.toInt * cZ d) k))
      · rw [if_pos q]
        have := Int32.le_iff_toInt_le.mp q
        rw [t1, t1] at this
        rw [if_neg (by omega)]
      · rw [if_neg q]
        have : ¬ _ := fun w => q (Int32.le_iff_toInt_le.mpr w)
        rw [t1, t1] at this
        rw [if_pos (by omega)])
    0 rfl
  rw [E225_0, sp_trendOf h, evK_s, E225_5, o2, evK_s, E225_8, show (1 : Int32) = nI 1 from rfl, e, hx, E225_13, if_neg (show ¬ nI (1 + 90) ≤ 90 from fun q => absurd ((nI_le_iff (a := 91) (b := 90) (by decide) (by decide)).mp q) (by decide))]
  rfl
theorem sp_plungeOfM {v : V3} (h : bw v) : den (d + 5) 288 [.ref 46] (S sl p (set3v I v) J) = some (some (.int (nI (pgv v))), S sl p (set3v I v) J) := by
  obtain ⟨e1, e2, e3⟩ := set3v_r (I := I) (v := v)
  obtain ⟨⟨w1, w2, w3⟩, b1, b2, b3⟩ := w32 h
  obtain ⟨o, o1, o2⟩ := sp_outOf (d := d) (sl := sl) (p := p) (I := I) (J := J) h (trd v)
  have ob := outv_b h (trd v)
  obtain ⟨x, e, hx⟩ := for_exk (M := Int32) (fun k x => ev (d + 5) 288 13 [.ref 46, .int o, .int x, .int k] [] (S sl p (set3v I v) J)) 1 90 (fun k x => x = nI (amx (fun d => outv v (trd v) * cZ d + v.2.2.toInt * sZ d) k))
    (by
      rintro k x hk rfl
      refine ⟨_, ?_, rfl⟩
      rw [E288_13, if_pos (show nI (1 + k) ≤ 90 from (nI_le_iff (b := 90) (by omega) (by decide)).mpr (by omega)), sp_cosine, evK_s, E288_24, sp_sine, evK_s, E288_33, sp_cosine, evK_s, E288_40, sp_sine, evK_s, E288_49, e3, nI_1]
      rw [amx_s, Nat.add_comm k 1]
      have t1 : ∀ j, (o * cs (nI j) + v.2.2.toInt32 * sn (nI j)).toInt = outv v (trd v) * cZ j + v.2.2.toInt * sZ j := fun j => by
        rw [two32 (by rw [o1]; exact ob) (by rw [w3]; exact b3) (cs_b _) (sn_b _), w3, o1]; rfl
      by_cases q : o * cs (nI (1 + k)) + v.2.2.toInt32 * sn (nI (1 + k)) ≤ o * cs (nI (amx (fun d => outv v (trd v) * cZ d + v.2.2.toInt * sZ d) k)) + v.2.2.toInt32 * sn (nI (amx (fun d => outv v (trd v) * cZ d + v.2.2.toInt * sZ d) k))
      · rw [if_pos q]
        have := Int32.le_iff_toInt_le.mp q
        rw [t1, t1] at this
        rw [if_neg (by omega)]
      · rw [if_neg q]
        have : ¬ _ := fun w => q (Int32.le_iff_toInt_le.mpr w)
        rw [t1, t1] at this
        rw [if_pos (by omega)])
    0 rfl
  rw [E288_0, sp_trendOf h, evK_s, E288_5, o2, evK_s, E288_8, show (1 : Int32) = nI 1 from rfl, e, hx, E288_13, if_neg (show ¬ nI (1 + 90) ≤ 90 from fun q => absurd ((nI_le_iff (a := 91) (b := 90) (by decide) (by decide)).mp q) (by decide))]
  rfl
theorem rem360 {t : Nat} (ht : t < 2 ^ 30) : nI t - nI t / 360 * 360 = nI (t % 360) := by
  apply Int32.toInt_inj.mp
  rw [rem32 (show 0 < (360 : Int32).toInt by decide), tI (by omega), tI (by omega), show (360 : Int32).toInt = ((360 : Nat) : Int) by decide]
  exact (Int.ofNat_tmod t 360).symm
theorem sp_directionOf {v : V3} (h : bw v) : den (d + 6) 226 [.ref 46] (S sl p (set3v I v) J) = some (some (.int (nI (drv v))), S sl p (set3v I v) J) := by
  have ht := trd_lt v
  have hd := dpv_le v
  rw [E226_0, sp_trendOf h, evK_s, E226_4, sp_dipOf h, evK_s, E226_16, sp_plainDirection, evK_s, E226_19, show nI (trd v) + 180 = nI (trd v + 180) from nI_add _ 180, rem360 (by omega), plD_n (by omega) (by omega)]
  rfl
end LIE
