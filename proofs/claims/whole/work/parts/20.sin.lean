/-! SINES, and the model's plain functions of numbers -/
def snB (d : Int32) : Int32 := (4000 * (d * (180 - d))) / (40500 - (d * (180 - d)))
def sn (x : Int32) : Int32 := if fmod x ≤ 180 then snB (fmod x) else -snB (fmod x - 180)
def cs (x : Int32) : Int32 := sn (x + 90)
theorem fmod_r (x : Int32) : ∃ k : Nat, k < 360 ∧ fmod x = nI k := by
  have h : (x - x / 360 * 360).toInt = x.toInt.tmod 360 := rem32 (by decide)
  have h1 : -360 < x.toInt.tmod 360 ∧ x.toInt.tmod 360 < 360 := tmod_bounds (by decide)
  unfold fmod
  by_cases hn : x - x / 360 * 360 < 0
  · rw [if_pos hn]
    have hn' : (x - x / 360 * 360).toInt < 0 := Int32.lt_iff_toInt_lt.mp hn
    refine ⟨(x.toInt.tmod 360 + 360).toNat, by omega, ?_⟩
    apply Int32.toInt_inj.mp
    rw [add32 (by rw [h]; show -2147483648 ≤ _ + 360; omega) (by rw [h]; show _ + 360 ≤ _; omega), h, tI (by omega)]
    show x.toInt.tmod 360 + 360 = _
    omega
  · rw [if_neg hn]
    have hn' : ¬ (x - x / 360 * 360).toInt < 0 := fun q => hn (Int32.lt_iff_toInt_lt.mpr q)
    refine ⟨(x.toInt.tmod 360).toNat, by omega, ?_⟩
    apply Int32.toInt_inj.mp
    rw [h, tI (by omega)]
    omega
theorem fmod_id : ((List.range 360).all fun k => decide (fmod (nI k) = nI k)) = true := by decide +kernel
theorem fmod_n {k : Nat} (h : k < 360) : fmod (nI k) = nI k := of_decide_eq_true (List.all_eq_true.mp fmod_id k (List.mem_range.mpr h))
theorem snB_ok : ((List.range 181).all fun k => decide (¬ 40500 - nI k * (180 - nI k) = 0)) = true := by decide +kernel
section SIN
variable {d sl : Nat} {p : Nat → Nat} {I : Nat → Nat → Int32} {J : Nat → Nat → Int64}
theorem sp_sine0 {k : Nat} (h : k ≤ 180) : den (d + 1) 182 [.int (nI k)] (S sl p I J) = some (some (.int (snB (nI k))), S sl p I J) := by
  have h1 : fmod (nI k) = nI k := fmod_n (by omega)
  have h2 : ¬ 40500 - nI k * (180 - nI k) = 0 := of_decide_eq_true (List.all_eq_true.mp snB_ok k (List.mem_range.mpr (by omega)))
  rw [E182_0]
  have e : ∀ x : Int32, (if (x - x / 360 * 360) < 0 then ev (d + 1) 182 16 [.int x, .int ((x - x / 360 * 360) + 360), .retAddr 0] [] (S sl p I J) else ev (d + 1) 182 16 [.int x, .int (x - x / 360 * 360), .retAddr 0] [] (S sl p I J)) = ev (d + 1) 182 16 [.int x, .int (fmod x), .retAddr 0] [] (S sl p I J) := by
    intro x
    unfold fmod
    split <;> rfl
  rw [e, h1, E182_16, if_pos (show nI k ≤ 180 from nI_le h (by decide)), ck_if (by simpa using h2)]
  rfl
theorem sp_sine (x : Int32) : den (d + 2) 182 [.int x] (S sl p I J) = some (some (.int (sn x)), S sl p I J) := by
  obtain ⟨k, hk, h1⟩ := fmod_r x
  rw [E182_0]
  have e : ∀ x : Int32, (if (x - x / 360 * 360) < 0 then ev (d + 2) 182 16 [.int x, .int ((x - x / 360 * 360) + 360), .retAddr 0] [] (S sl p I J) else ev (d + 2) 182 16 [.int x, .int (x - x / 360 * 360), .retAddr 0] [] (S sl p I J)) = ev (d + 2) 182 16 [.int x, .int (fmod x), .retAddr 0] [] (S sl p I J) := by
    intro x
    unfold fmod
    split <;> rfl
  rw [e, h1, E182_16]
  unfold sn
  rw [h1]
  by_cases h : k ≤ 180
  · have h2 : ¬ 40500 - nI k * (180 - nI k) = 0 := of_decide_eq_true (List.all_eq_true.mp snB_ok k (List.mem_range.mpr (by omega)))
    rw [if_pos (show nI k ≤ 180 from nI_le h (by decide)), if_pos (show nI k ≤ 180 from nI_le h (by decide)), ck_if (by simpa using h2)]
    rfl
  · have hn : ¬ nI k ≤ 180 := fun q => h ((nI_leI (by omega) (by decide)).mp q)
    have e2 : nI k - 180 = nI (k - 180) := pk_sub (b := 180) (by omega)
    rw [if_neg hn, if_neg hn, e2, sp_sine0 (by omega), evK_s, E182_31]
theorem sp_cosine (x : Int32) : den (d + 3) 183 [.int x] (S sl p I J) = some (some (.int (cs x)), S sl p I J) := by
  rw [E183_0, sp_sine, evK_s, E183_7]
  rfl
def inR (x a b : Int32) : Prop := ¬ x < a ∧ x ≤ b
theorem sp_isFrom (x a b : Int32) : den d 181 [.int x, .int a, .int b] (S sl p I J) = some (some (.int (if x < a then 0 else if x ≤ b then 1 else 0)), S sl p I J) := by
  rw [E181_0]
  split
  · rfl
  · split <;> rfl
def plD (x dp : Int32) : Int32 := if dp = 0 then 0 else if dp = 90 then x - x / 180 * 180 else x
theorem sp_plainDirection (x dp : Int32) : den d 185 [.int x, .int dp] (S sl p I J) = some (some (.int (plD x dp)), S sl p I J) := by
  rw [E185_0]
  unfold plD
  split
  · rfl
  · split <;> rfl
abbrev V3 : Type := Int64 × Int64 × Int64
def vd (a b : V3) : Int64 := a.1 * b.1 + a.2.1 * b.2.1 + a.2.2 * b.2.2
def vq (a : V3) : Int64 := vd a a
theorem sp_dot (a b c x y z : Int64) : den d 188 [.long a, .long b, .long c, .long x, .long y, .long z] (S sl p I J) = some (some (.long (vd (a, b, c) (x, y, z))), S sl p I J) := E188_0 a b c x y z
theorem sp_square (a b c : Int64) : den (d + 1) 189 [.long a, .long b, .long c] (S sl p I J) = some (some (.long (vq (a, b, c))), S sl p I J) := by
  rw [E189_0, sp_dot, evK_s, E189_11]
  rfl
/-- near by an angle -/
def nr (dt sq : Int64) (a : Int32) : Prop := ¬ dt * dt * 1000000 < (cs a * cs a).toInt64 * sq
theorem sp_isNear (dt sq : Int64) (a : Int32) : den (d + 4) 190 [.long dt, .long sq, .int a] (S sl p I J) = some (some (.int (if dt * dt * 1000000 < (cs a * cs a).toInt64 * sq then 0 else 1)), S sl p I J) := by
  rw [E190_0, sp_cosine, evK_s, E190_12, sp_cosine, evK_s, E190_17]
  split <;> rfl
end SIN
