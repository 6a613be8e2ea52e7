/-! the law's cases (made by gen_law.py) -/
section CAS
variable {d sl : Nat} {p : Nat → Nat} {I : Nat → Nat → Int32} {J : Nat → Nat → Int64} {e : Nat} {i : Int32}
def LGo (d sl : Nat) (p : Nat → Nat) (I : Nat → Nat → Int32) (J : Nat → Nat → Int64) (e pc : Nat) (i : Int32) : Prop := ∃ p' I' J' e', e' ≤ e + 1 ∧ CK p' I' J' (dat I') e' ∧ I' 1 8 = I' 46 0 ∧ ev (d + 41) 309 pc [.ref 0, .ref 1, .ref 46, .int i] [] (S sl p I J) = ev (d + 41) 309 1763 [.ref 0, .ref 1, .ref 46, .int i] [] (S sl p' I' J')
theorem LC_0 (hx : ∀ c : Nat, c < 7 → ixb sl (i + nI c) = true) (he : e < 1000) (c : CK p I J (dat I) e) (hq : I 1 8 = I 46 0) : LGo d sl p I J e 228 i := by
  refine ⟨p, I, J, e, by omega, c, hq, ?_⟩
  rw [E309_228, E118_0, evK_s, E309_232, E177_0, evK_s, E309_236, if_pos hq]
theorem LC_1 (hx : ∀ c : Nat, c < 7 → ixb sl (i + nI c) = true) (he : e < 1000) (c : CK p I J (dat I) e) (hq : I 1 8 = I 46 0) : LGo d sl p I J e 241 i := by
  have x1 : ixb sl (i + 1) = true := hx 1 (by decide)
  have x2 : ixb sl (i + 2) = true := hx 2 (by decide)
  have x3 : ixb sl (i + 3) = true := hx 3 (by decide)
  obtain ⟨v, p', I1, J1, I2, J2, e', h1, h2, h3, h4, h5, h6⟩ := (A_line (d := d) (sl := sl) (p := p) (e := e) c.sv.gd (I 0 (Int32.toNatClampNeg (i + 1))) (I 0 (Int32.toNatClampNeg (i + 2))) (I 0 (Int32.toNatClampNeg (i + 3)))).two c rfl
  obtain ⟨x, rfl⟩ := den_int h2 zt119
  refine ⟨p', I2, J2, e', h1, h4, h5, ?_⟩
  rw [E309_241]
  simp only [x1, x2, x3, ck_t]
  rw [h2, evK_s, E309_260]
  simp only [x1, x2, x3, ck_t, h6]
  rw [h3, evK_s, E309_279, if_pos rfl]
theorem LC_2 (hx : ∀ c : Nat, c < 7 → ixb sl (i + nI c) = true) (he : e < 1000) (c : CK p I J (dat I) e) (hq : I 1 8 = I 46 0) : LGo d sl p I J e 284 i := by
  have x1 : ixb sl (i + 1) = true := hx 1 (by decide)
  have x2 : ixb sl (i + 2) = true := hx 2 (by decide)
  have x3 : ixb sl (i + 3) = true := hx 3 (by decide)
  have x4 : ixb sl (i + 4) = true := hx 4 (by decide)
  obtain ⟨v, p', I1, J1, I2, J2, e', h1, h2, h3, h4, h5, h6⟩ := (A_crack (d := d) (sl := sl) (p := p) (e := e) c.sv.gd he (I 0 (Int32.toNatClampNeg (i + 1))) (I 0 (Int32.toNatClampNeg (i + 2))) (I 0 (Int32.toNatClampNeg (i + 3))) (I 0 (Int32.toNatClampNeg (i + 4)))).two c rfl
  obtain ⟨x, rfl⟩ := den_int h2 zt120
  refine ⟨p', I2, J2, e', h1, h4, h5, ?_⟩
  rw [E309_284]
  simp only [x1, x2, x3, x4, ck_t]
  rw [h2, evK_s, E309_308]
  simp only [x1, x2, x3, x4, ck_t, h6]
  rw [h3, evK_s, E309_332, if_pos rfl]
theorem LC_3 (hx : ∀ c : Nat, c < 7 → ixb sl (i + nI c) = true) (he : e < 1000) (c : CK p I J (dat I) e) (hq : I 1 8 = I 46 0) : LGo d sl p I J e 337 i := by
  have x1 : ixb sl (i + 1) = true := hx 1 (by decide)
  obtain ⟨v, p', I1, J1, I2, J2, e', h1, h2, h3, h4, h5, h6⟩ := (A_drop (d := d) (sl := sl) (p := p) (e := e) c.sv.gd he (I 0 (Int32.toNatClampNeg (i + 1)))).two c rfl
  obtain ⟨x, rfl⟩ := den_int h2 zt121
  refine ⟨p', I2, J2, e', h1, h4, h5, ?_⟩
  rw [E309_337]
  simp only [x1, ck_t]
  rw [h2, evK_s, E309_346]
  simp only [x1, ck_t, h6]
  rw [h3, evK_s, E309_355, if_pos rfl]
theorem LC_4 (hx : ∀ c : Nat, c < 7 → ixb sl (i + nI c) = true) (he : e < 1000) (c : CK p I J (dat I) e) (hq : I 1 8 = I 46 0) : LGo d sl p I J e 360 i := by
  have x1 : ixb sl (i + 1) = true := hx 1 (by decide)
  have x2 : ixb sl (i + 2) = true := hx 2 (by decide)
  obtain ⟨v, p', I1, J1, I2, J2, e', h1, h2, h3, h4, h5, h6⟩ := (A_link (d := d) (sl := sl) (p := p) (e := e) c.sv.gd he (I 0 (Int32.toNatClampNeg (i + 1))) (I 0 (Int32.toNatClampNeg (i + 2)))).two c rfl
  obtain ⟨x, rfl⟩ := den_int h2 zt122
  refine ⟨p', I2, J2, e', h1, h4, h5, ?_⟩
  rw [E309_360]
  simp only [x1, x2, ck_t]
  rw [h2, evK_s, E309_374]
  simp only [x1, x2, ck_t, h6]
  rw [h3, evK_s, E309_388, if_pos rfl]
theorem LC_5 (hx : ∀ c : Nat, c < 7 → ixb sl (i + nI c) = true) (he : e < 1000) (c : CK p I J (dat I) e) (hq : I 1 8 = I 46 0) : LGo d sl p I J e 393 i := by
  have x1 : ixb sl (i + 1) = true := hx 1 (by decide)
  obtain ⟨v, p', I1, J1, I2, J2, e', h1, h2, h3, h4, h5, h6⟩ := (A_cap (d := d) (sl := sl) (p := p) (e := e) c.sv.gd he (I 0 (Int32.toNatClampNeg (i + 1)))).two c rfl
  obtain ⟨x, rfl⟩ := den_int h2 zt123
  refine ⟨p', I2, J2, e', h1, h4, h5, ?_⟩
  rw [E309_393]
  simp only [x1, ck_t]
  rw [h2, evK_s, E309_402]
  simp only [x1, ck_t, h6]
  rw [h3, evK_s, E309_411, if_pos rfl]
theorem LC_6 (hx : ∀ c : Nat, c < 7 → ixb sl (i + nI c) = true) (he : e < 1000) (c : CK p I J (dat I) e) (hq : I 1 8 = I 46 0) : LGo d sl p I J e 416 i := by
  have x1 : ixb sl (i + 1) = true := hx 1 (by decide)
  have x2 : ixb sl (i + 2) = true := hx 2 (by decide)
  have x3 : ixb sl (i + 3) = true := hx 3 (by decide)
  have x4 : ixb sl (i + 4) = true := hx 4 (by decide)
  obtain ⟨v, p', I1, J1, I2, J2, e', h1, h2, h3, h4, h5, h6⟩ := (A_slope (d := d) (sl := sl) (p := p) (e := e) c.sv.gd (labOf c.sv.gd rfl) (I 0 (Int32.toNatClampNeg (i + 1))) (I 0 (Int32.toNatClampNeg (i + 2))) (I 0 (Int32.toNatClampNeg (i + 3))) (I 0 (Int32.toNatClampNeg (i + 4)))).two c rfl
  obtain ⟨x, rfl⟩ := den_int h2 zt124
  refine ⟨p', I2, J2, e', h1, h4, h5, ?_⟩
  rw [E309_416]
  simp only [x1, x2, x3, x4, ck_t]
  rw [h2, evK_s, E309_440]
  simp only [x1, x2, x3, x4, ck_t, h6]
  rw [h3, evK_s, E309_464, if_pos rfl]
theorem LC_7 (hx : ∀ c : Nat, c < 7 → ixb sl (i + nI c) = true) (he : e < 1000) (c : CK p I J (dat I) e) (hq : I 1 8 = I 46 0) : LGo d sl p I J e 469 i := by
  have x1 : ixb sl (i + 1) = true := hx 1 (by decide)
  obtain ⟨v, p', I1, J1, I2, J2, e', h1, h2, h3, h4, h5, h6⟩ := (A_many (d := d) (sl := sl) (p := p) (e := e) c.sv.gd (I 0 (Int32.toNatClampNeg (i + 1)))).upd.two c rfl
  obtain ⟨x, rfl⟩ := den_int h2 zt125
  refine ⟨p', I2, J2, e', h1, h4, h5, ?_⟩
  rw [E309_469]
  simp only [x1, ck_t]
  rw [h2, evK_s, E309_478]
  simp only [x1, ck_t, h6]
  rw [h3, evK_s, E309_487, if_pos rfl]
theorem LC_8 (hx : ∀ c : Nat, c < 7 → ixb sl (i + nI c) = true) (he : e < 1000) (c : CK p I J (dat I) e) (hq : I 1 8 = I 46 0) : LGo d sl p I J e 492 i := by
  have x1 : ixb sl (i + 1) = true := hx 1 (by decide)
  have x2 : ixb sl (i + 2) = true := hx 2 (by decide)
  obtain ⟨v, p', I1, J1, I2, J2, e', h1, h2, h3, h4, h5, h6⟩ := (A_of (d := d) (sl := sl) (p := p) (e := e) c.sv.gd (I 0 (Int32.toNatClampNeg (i + 1))) (I 0 (Int32.toNatClampNeg (i + 2)))).upd.two c rfl
  obtain ⟨x, rfl⟩ := den_int h2 zt126
  refine ⟨p', I2, J2, e', h1, h4, h5, ?_⟩
  rw [E309_492]
  simp only [x1, x2, ck_t]
  rw [h2, evK_s, E309_506]
  simp only [x1, x2, ck_t, h6]
  rw [h3, evK_s, E309_520, if_pos rfl]
theorem LC_9 (hx : ∀ c : Nat, c < 7 → ixb sl (i + nI c) = true) (he : e < 1000) (c : CK p I J (dat I) e) (hq : I 1 8 = I 46 0) : LGo d sl p I J e 525 i := by
  have x1 : ixb sl (i + 1) = true := hx 1 (by decide)
  have x2 : ixb sl (i + 2) = true := hx 2 (by decide)
  obtain ⟨v, p', I1, J1, I2, J2, e', h1, h2, h3, h4, h5, h6⟩ := (A_along (d := d) (sl := sl) (p := p) (e := e) c.sv.gd (I 0 (Int32.toNatClampNeg (i + 1))) (I 0 (Int32.toNatClampNeg (i + 2)))).upd.two c rfl
  obtain ⟨x, rfl⟩ := den_int h2 zt127
  refine ⟨p', I2, J2, e', h1, h4, h5, ?_⟩
  rw [E309_525]
  simp only [x1, x2, ck_t]
  rw [h2, evK_s, E309_539]
  simp only [x1, x2, ck_t, h6]
  rw [h3, evK_s, E309_553, if_pos rfl]
theorem LC_10 (hx : ∀ c : Nat, c < 7 → ixb sl (i + nI c) = true) (he : e < 1000) (c : CK p I J (dat I) e) (hq : I 1 8 = I 46 0) : LGo d sl p I J e 558 i := by
  have x1 : ixb sl (i + 1) = true := hx 1 (by decide)
  have x2 : ixb sl (i + 2) = true := hx 2 (by decide)
  obtain ⟨v, p', I1, J1, I2, J2, e', h1, h2, h3, h4, h5, h6⟩ := (A_angle (d := d) (sl := sl) (p := p) (e := e) c.sv.gd (I 0 (Int32.toNatClampNeg (i + 1))) (I 0 (Int32.toNatClampNeg (i + 2)))).upd.two c rfl
  obtain ⟨x, rfl⟩ := den_int h2 zt128
  refine ⟨p', I2, J2, e', h1, h4, h5, ?_⟩
  rw [E309_558]
  simp only [x1, x2, ck_t]
  rw [h2, evK_s, E309_572]
  simp only [x1, x2, ck_t, h6]
  rw [h3, evK_s, E309_586, if_pos rfl]
theorem LC_11 (hx : ∀ c : Nat, c < 7 → ixb sl (i + nI c) = true) (he : e < 1000) (c : CK p I J (dat I) e) (hq : I 1 8 = I 46 0) : LGo d sl p I J e 591 i := by
  have x1 : ixb sl (i + 1) = true := hx 1 (by decide)
  have x2 : ixb sl (i + 2) = true := hx 2 (by decide)
  obtain ⟨v, p', I1, J1, I2, J2, e', h1, h2, h3, h4, h5, h6⟩ := (A_near (d := d) (sl := sl) (p := p) (e := e) c.sv.gd (I 0 (Int32.toNatClampNeg (i + 1))) (I 0 (Int32.toNatClampNeg (i + 2)))).upd.two c rfl
  obtain ⟨x, rfl⟩ := den_int h2 zt129
  refine ⟨p', I2, J2, e', h1, h4, h5, ?_⟩
  rw [E309_591]
  simp only [x1, x2, ck_t]
  rw [h2, evK_s, E309_605]
  simp only [x1, x2, ck_t, h6]
  rw [h3, evK_s, E309_619, if_pos rfl]
theorem LC_12 (hx : ∀ c : Nat, c < 7 → ixb sl (i + nI c) = true) (he : e < 1000) (c : CK p I J (dat I) e) (hq : I 1 8 = I 46 0) : LGo d sl p I J e 624 i := by
  have x1 : ixb sl (i + 1) = true := hx 1 (by decide)
  have x2 : ixb sl (i + 2) = true := hx 2 (by decide)
  obtain ⟨v, p', I1, J1, I2, J2, e', h1, h2, h3, h4, h5, h6⟩ := (A_set (d := d) (sl := sl) (p := p) (e := e) c.sv.gd (labOf c.sv.gd rfl) (I 0 (Int32.toNatClampNeg (i + 1))) (I 0 (Int32.toNatClampNeg (i + 2)))).upd.two c rfl
  obtain ⟨x, rfl⟩ := den_long h2 zt130
  refine ⟨p', I2, J2, e', h1, h4, h5, ?_⟩
  rw [E309_624]
  simp only [x1, x2, ck_t]
  rw [h2, evK_s, E309_638]
  simp only [x1, x2, ck_t, h6]
  rw [h3, evK_s, E309_652, if_pos rfl]
theorem LC_13 (hx : ∀ c : Nat, c < 7 → ixb sl (i + nI c) = true) (he : e < 1000) (c : CK p I J (dat I) e) (hq : I 1 8 = I 46 0) : LGo d sl p I J e 658 i := by
  have x1 : ixb sl (i + 1) = true := hx 1 (by decide)
  have x2 : ixb sl (i + 2) = true := hx 2 (by decide)
  obtain ⟨v, p', I1, J1, I2, J2, e', h1, h2, h3, h4, h5, h6⟩ := (A_member (d := d) (sl := sl) (p := p) (e := e) c.sv.gd (labOf c.sv.gd rfl) (I 0 (Int32.toNatClampNeg (i + 1))) (I 0 (Int32.toNatClampNeg (i + 2)))).upd.two c rfl
  obtain ⟨x, rfl⟩ := den_int h2 zt131
  refine ⟨p', I2, J2, e', h1, h4, h5, ?_⟩
  rw [E309_658]
  simp only [x1, x2, ck_t]
  rw [h2, evK_s, E309_672]
  simp only [x1, x2, ck_t, h6]
  rw [h3, evK_s, E309_686, if_pos rfl]
theorem LC_14 (hx : ∀ c : Nat, c < 7 → ixb sl (i + nI c) = true) (he : e < 1000) (c : CK p I J (dat I) e) (hq : I 1 8 = I 46 0) : LGo d sl p I J e 691 i := by
  have x1 : ixb sl (i + 1) = true := hx 1 (by decide)
  obtain ⟨v, p', I1, J1, I2, J2, e', h1, h2, h3, h4, h5, h6⟩ := (A_stray (d := d) (sl := sl) (p := p) (e := e) c.sv.gd (I 0 (Int32.toNatClampNeg (i + 1)))).upd.two c rfl
  obtain ⟨x, rfl⟩ := den_int h2 zt132
  refine ⟨p', I2, J2, e', h1, h4, h5, ?_⟩
  rw [E309_691]
  simp only [x1, ck_t]
  rw [h2, evK_s, E309_700]
  simp only [x1, ck_t, h6]
  rw [h3, evK_s, E309_709, if_pos rfl]
theorem LC_15 (hx : ∀ c : Nat, c < 7 → ixb sl (i + nI c) = true) (he : e < 1000) (c : CK p I J (dat I) e) (hq : I 1 8 = I 46 0) : LGo d sl p I J e 714 i := by
  have x1 : ixb sl (i + 1) = true := hx 1 (by decide)
  have x2 : ixb sl (i + 2) = true := hx 2 (by decide)
  obtain ⟨v, p', I1, J1, I2, J2, e', h1, h2, h3, h4, h5, h6⟩ := (A_apart (d := d) (sl := sl) (p := p) (e := e) c.sv.gd (labOf c.sv.gd rfl) (I 0 (Int32.toNatClampNeg (i + 1))) (I 0 (Int32.toNatClampNeg (i + 2)))).upd.two c rfl
  obtain ⟨x, rfl⟩ := den_int h2 zt133
  refine ⟨p', I2, J2, e', h1, h4, h5, ?_⟩
  rw [E309_714]
  simp only [x1, x2, ck_t]
  rw [h2, evK_s, E309_728]
  simp only [x1, x2, ck_t, h6]
  rw [h3, evK_s, E309_742, if_pos rfl]
theorem LC_16 (hx : ∀ c : Nat, c < 7 → ixb sl (i + nI c) = true) (he : e < 1000) (c : CK p I J (dat I) e) (hq : I 1 8 = I 46 0) : LGo d sl p I J e 747 i := by
  have x1 : ixb sl (i + 1) = true := hx 1 (by decide)
  have x2 : ixb sl (i + 2) = true := hx 2 (by decide)
  obtain ⟨v, p', I1, J1, I2, J2, e', h1, h2, h3, h4, h5, h6⟩ := (A_hangs (d := d) (sl := sl) (p := p) (e := e) c.sv.gd (I 0 (Int32.toNatClampNeg (i + 1))) (I 0 (Int32.toNatClampNeg (i + 2)))).upd.two c rfl
  obtain ⟨x, rfl⟩ := den_int h2 zt134
  refine ⟨p', I2, J2, e', h1, h4, h5, ?_⟩
  rw [E309_747]
  simp only [x1, x2, ck_t]
  rw [h2, evK_s, E309_761]
  simp only [x1, x2, ck_t, h6]
  rw [h3, evK_s, E309_775, if_pos rfl]
theorem LC_17 (hx : ∀ c : Nat, c < 7 → ixb sl (i + nI c) = true) (he : e < 1000) (c : CK p I J (dat I) e) (hq : I 1 8 = I 46 0) : LGo d sl p I J e 780 i := by
  have x1 : ixb sl (i + 1) = true := hx 1 (by decide)
  have x2 : ixb sl (i + 2) = true := hx 2 (by decide)
  have x3 : ixb sl (i + 3) = true := hx 3 (by decide)
  obtain ⟨v, p', I1, J1, I2, J2, e', h1, h2, h3, h4, h5, h6⟩ := (A_overlap (d := d) (sl := sl) (p := p) (e := e) c.sv.gd (labOf c.sv.gd rfl) (I 0 (Int32.toNatClampNeg (i + 1))) (I 0 (Int32.toNatClampNeg (i + 2))) (I 0 (Int32.toNatClampNeg (i + 3)))).upd.two c rfl
  obtain ⟨x, rfl⟩ := den_int h2 zt135
  refine ⟨p', I2, J2, e', h1, h4, h5, ?_⟩
  rw [E309_780]
  simp only [x1, x2, x3, ck_t]
  rw [h2, evK_s, E309_799]
  simp only [x1, x2, x3, ck_t, h6]
  rw [h3, evK_s, E309_818, if_pos rfl]
theorem LC_18 (hx : ∀ c : Nat, c < 7 → ixb sl (i + nI c) = true) (he : e < 1000) (c : CK p I J (dat I) e) (hq : I 1 8 = I 46 0) : LGo d sl p I J e 823 i := by
  obtain ⟨v, p', I1, J1, I2, J2, e', h1, h2, h3, h4, h5, h6⟩ := (A_digest (d := d) (sl := sl) (p := p) (e := e) c.sv.gd (labOf c.sv.gd rfl) ).upd.two c rfl
  obtain ⟨x, rfl⟩ := den_int h2 zt136
  refine ⟨p', I2, J2, e', h1, h4, h5, ?_⟩
  rw [E309_823]
  rw [h2, evK_s, E309_827]
  rw [h3, evK_s, E309_831, if_pos rfl]
theorem LC_19 (hx : ∀ c : Nat, c < 7 → ixb sl (i + nI c) = true) (he : e < 1000) (c : CK p I J (dat I) e) (hq : I 1 8 = I 46 0) : LGo d sl p I J e 836 i := by
  have x1 : ixb sl (i + 1) = true := hx 1 (by decide)
  obtain ⟨v, p', I1, J1, I2, J2, e', h1, h2, h3, h4, h5, h6⟩ := (A_without (d := d) (sl := sl) (p := p) (e := e) c.sv.gd (I 0 (Int32.toNatClampNeg (i + 1)))).upd.two c rfl
  obtain ⟨x, rfl⟩ := den_int h2 zt137
  refine ⟨p', I2, J2, e', h1, h4, h5, ?_⟩
  rw [E309_836]
  simp only [x1, ck_t]
  rw [h2, evK_s, E309_845]
  simp only [x1, ck_t, h6]
  rw [h3, evK_s, E309_854, if_pos rfl]
theorem LC_20 (hx : ∀ c : Nat, c < 7 → ixb sl (i + nI c) = true) (he : e < 1000) (c : CK p I J (dat I) e) (hq : I 1 8 = I 46 0) : LGo d sl p I J e 859 i := by
  have x1 : ixb sl (i + 1) = true := hx 1 (by decide)
  obtain ⟨v, p', I1, J1, I2, J2, e', h1, h2, h3, h4, h5, h6⟩ := (A_bridges (d := d) (sl := sl) (p := p) (e := e) c.sv.gd (I 0 (Int32.toNatClampNeg (i + 1)))).upd.two c rfl
  obtain ⟨x, rfl⟩ := den_int h2 zt138
  refine ⟨p', I2, J2, e', h1, h4, h5, ?_⟩
  rw [E309_859]
  simp only [x1, ck_t]
  rw [h2, evK_s, E309_868]
  simp only [x1, ck_t, h6]
  rw [h3, evK_s, E309_877, if_pos rfl]
theorem LC_21 (hx : ∀ c : Nat, c < 7 → ixb sl (i + nI c) = true) (he : e < 1000) (c : CK p I J (dat I) e) (hq : I 1 8 = I 46 0) : LGo d sl p I J e 882 i := by
  have x1 : ixb sl (i + 1) = true := hx 1 (by decide)
  have x2 : ixb sl (i + 2) = true := hx 2 (by decide)
  obtain ⟨v, p', I1, J1, I2, J2, e', h1, h2, h3, h4, h5, h6⟩ := (A_nearestSet (d := d) (sl := sl) (p := p) (e := e) c.sv.gd (labOf c.sv.gd rfl) (I 0 (Int32.toNatClampNeg (i + 1))) (I 0 (Int32.toNatClampNeg (i + 2)))).upd.two c rfl
  obtain ⟨x, rfl⟩ := den_int h2 zt139
  refine ⟨p', I2, J2, e', h1, h4, h5, ?_⟩
  rw [E309_882]
  simp only [x1, x2, ck_t]
  rw [h2, evK_s, E309_896]
  simp only [x1, x2, ck_t, h6]
  rw [h3, evK_s, E309_910, if_pos rfl]
theorem LC_22 (hx : ∀ c : Nat, c < 7 → ixb sl (i + nI c) = true) (he : e < 1000) (c : CK p I J (dat I) e) (hq : I 1 8 = I 46 0) : LGo d sl p I J e 915 i := by
  have x1 : ixb sl (i + 1) = true := hx 1 (by decide)
  obtain ⟨v, p', I1, J1, I2, J2, e', h1, h2, h3, h4, h5, h6⟩ := (A_would (d := d) (sl := sl) (p := p) (e := e) c.sv.gd (I 0 (Int32.toNatClampNeg (i + 1)))).upd.two c rfl
  obtain ⟨x, rfl⟩ := den_int h2 zt140
  refine ⟨p', I2, J2, e', h1, h4, h5, ?_⟩
  rw [E309_915]
  simp only [x1, ck_t]
  rw [h2, evK_s, E309_924]
  simp only [x1, ck_t, h6]
  rw [h3, evK_s, E309_933, if_pos rfl]
theorem LC_23 (hx : ∀ c : Nat, c < 7 → ixb sl (i + nI c) = true) (he : e < 1000) (c : CK p I J (dat I) e) (hq : I 1 8 = I 46 0) : LGo d sl p I J e 938 i := by
  have x1 : ixb sl (i + 1) = true := hx 1 (by decide)
  obtain ⟨v, p', I1, J1, I2, J2, e', h1, h2, h3, h4, h5, h6⟩ := (A_linkFor (d := d) (sl := sl) (p := p) (e := e) c.sv.gd (I 0 (Int32.toNatClampNeg (i + 1)))).upd.two c rfl
  obtain ⟨x, rfl⟩ := den_int h2 zt141
  refine ⟨p', I2, J2, e', h1, h4, h5, ?_⟩
  rw [E309_938]
  simp only [x1, ck_t]
  rw [h2, evK_s, E309_947]
  simp only [x1, ck_t, h6]
  rw [h3, evK_s, E309_956, if_pos rfl]
theorem LC_24 (hx : ∀ c : Nat, c < 7 → ixb sl (i + nI c) = true) (he : e < 1000) (c : CK p I J (dat I) e) (hq : I 1 8 = I 46 0) : LGo d sl p I J e 961 i := by
  have x1 : ixb sl (i + 1) = true := hx 1 (by decide)
  have x2 : ixb sl (i + 2) = true := hx 2 (by decide)
  obtain ⟨v, p', I1, J1, I2, J2, e', h1, h2, h3, h4, h5, h6⟩ := (A_settled (d := d) (sl := sl) (p := p) (e := e) c.sv.gd (labOf c.sv.gd rfl) (I 0 (Int32.toNatClampNeg (i + 1))) (I 0 (Int32.toNatClampNeg (i + 2)))).upd.two c rfl
  obtain ⟨x, rfl⟩ := den_int h2 zt142
  refine ⟨p', I2, J2, e', h1, h4, h5, ?_⟩
  rw [E309_961]
  simp only [x1, x2, ck_t]
  rw [h2, evK_s, E309_975]
  simp only [x1, x2, ck_t, h6]
  rw [h3, evK_s, E309_989, if_pos rfl]
theorem LC_25 (hx : ∀ c : Nat, c < 7 → ixb sl (i + nI c) = true) (he : e < 1000) (c : CK p I J (dat I) e) (hq : I 1 8 = I 46 0) : LGo d sl p I J e 994 i := by
  have x1 : ixb sl (i + 1) = true := hx 1 (by decide)
  have x2 : ixb sl (i + 2) = true := hx 2 (by decide)
  obtain ⟨v, p', I1, J1, I2, J2, e', h1, h2, h3, h4, h5, h6⟩ := (A_settledIn (d := d) (sl := sl) (p := p) (e := e) c.sv.gd (labOf c.sv.gd rfl) (I 0 (Int32.toNatClampNeg (i + 1))) (I 0 (Int32.toNatClampNeg (i + 2)))).upd.two c rfl
  obtain ⟨x, rfl⟩ := den_int h2 zt143
  refine ⟨p', I2, J2, e', h1, h4, h5, ?_⟩
  rw [E309_994]
  simp only [x1, x2, ck_t]
  rw [h2, evK_s, E309_1008]
  simp only [x1, x2, ck_t, h6]
  rw [h3, evK_s, E309_1022, if_pos rfl]
theorem LC_26 (hx : ∀ c : Nat, c < 7 → ixb sl (i + nI c) = true) (he : e < 1000) (c : CK p I J (dat I) e) (hq : I 1 8 = I 46 0) : LGo d sl p I J e 1027 i := by
  have x1 : ixb sl (i + 1) = true := hx 1 (by decide)
  have x2 : ixb sl (i + 2) = true := hx 2 (by decide)
  obtain ⟨v, p', I1, J1, I2, J2, e', h1, h2, h3, h4, h5, h6⟩ := (A_settledLie (d := d) (sl := sl) (p := p) (e := e) c.sv.gd (labOf c.sv.gd rfl) (I 0 (Int32.toNatClampNeg (i + 1))) (I 0 (Int32.toNatClampNeg (i + 2)))).upd.two c rfl
  obtain ⟨x, rfl⟩ := den_int h2 zt144
  refine ⟨p', I2, J2, e', h1, h4, h5, ?_⟩
  rw [E309_1027]
  simp only [x1, x2, ck_t]
  rw [h2, evK_s, E309_1041]
  simp only [x1, x2, ck_t, h6]
  rw [h3, evK_s, E309_1055, if_pos rfl]
theorem LC_27 (hx : ∀ c : Nat, c < 7 → ixb sl (i + nI c) = true) (he : e < 1000) (c : CK p I J (dat I) e) (hq : I 1 8 = I 46 0) : LGo d sl p I J e 1060 i := by
  have x1 : ixb sl (i + 1) = true := hx 1 (by decide)
  have x2 : ixb sl (i + 2) = true := hx 2 (by decide)
  have x3 : ixb sl (i + 3) = true := hx 3 (by decide)
  obtain ⟨v, p', I1, J1, I2, J2, e', h1, h2, h3, h4, h5, h6⟩ := (A_thick (d := d) (sl := sl) (p := p) (e := e) c.sv.gd (I 0 (Int32.toNatClampNeg (i + 1))) (I 0 (Int32.toNatClampNeg (i + 2))) (I 0 (Int32.toNatClampNeg (i + 3)))).upd.two c rfl
  obtain ⟨x, rfl⟩ := den_int h2 zt145
  refine ⟨p', I2, J2, e', h1, h4, h5, ?_⟩
  rw [E309_1060]
  simp only [x1, x2, x3, ck_t]
  rw [h2, evK_s, E309_1079]
  simp only [x1, x2, x3, ck_t, h6]
  rw [h3, evK_s, E309_1098, if_pos rfl]
theorem LC_28 (hx : ∀ c : Nat, c < 7 → ixb sl (i + nI c) = true) (he : e < 1000) (c : CK p I J (dat I) e) (hq : I 1 8 = I 46 0) : LGo d sl p I J e 1103 i := by
  have x1 : ixb sl (i + 1) = true := hx 1 (by decide)
  have x2 : ixb sl (i + 2) = true := hx 2 (by decide)
  have x3 : ixb sl (i + 3) = true := hx 3 (by decide)
  obtain ⟨v, p', I1, J1, I2, J2, e', h1, h2, h3, h4, h5, h6⟩ := (A_excess (d := d) (sl := sl) (p := p) (e := e) c.sv.gd (I 0 (Int32.toNatClampNeg (i + 1))) (I 0 (Int32.toNatClampNeg (i + 2))) (I 0 (Int32.toNatClampNeg (i + 3)))).upd.two c rfl
  obtain ⟨x, rfl⟩ := den_int h2 zt146
  refine ⟨p', I2, J2, e', h1, h4, h5, ?_⟩
  rw [E309_1103]
  simp only [x1, x2, x3, ck_t]
  rw [h2, evK_s, E309_1122]
  simp only [x1, x2, x3, ck_t, h6]
  rw [h3, evK_s, E309_1141, if_pos rfl]
theorem LC_29 (hx : ∀ c : Nat, c < 7 → ixb sl (i + nI c) = true) (he : e < 1000) (c : CK p I J (dat I) e) (hq : I 1 8 = I 46 0) : LGo d sl p I J e 1146 i := by
  have x1 : ixb sl (i + 1) = true := hx 1 (by decide)
  have x2 : ixb sl (i + 2) = true := hx 2 (by decide)
  obtain ⟨v, p', I1, J1, I2, J2, e', h1, h2, h3, h4, h5, h6⟩ := (A_rose (d := d) (sl := sl) (p := p) (e := e) c.sv.gd (I 0 (Int32.toNatClampNeg (i + 1))) (I 0 (Int32.toNatClampNeg (i + 2)))).upd.two c rfl
  obtain ⟨x, rfl⟩ := den_int h2 zt147
  refine ⟨p', I2, J2, e', h1, h4, h5, ?_⟩
  rw [E309_1146]
  simp only [x1, x2, ck_t]
  rw [h2, evK_s, E309_1160]
  simp only [x1, x2, ck_t, h6]
  rw [h3, evK_s, E309_1174, if_pos rfl]
theorem LC_30 (hx : ∀ c : Nat, c < 7 → ixb sl (i + nI c) = true) (he : e < 1000) (c : CK p I J (dat I) e) (hq : I 1 8 = I 46 0) : LGo d sl p I J e 1179 i := by
  have x1 : ixb sl (i + 1) = true := hx 1 (by decide)
  obtain ⟨v, p', I1, J1, I2, J2, e', h1, h2, h3, h4, h5, h6⟩ := (A_fabric (d := d) (sl := sl) (p := p) (e := e) c.sv.gd (I 0 (Int32.toNatClampNeg (i + 1)))).upd.two c rfl
  obtain ⟨x, rfl⟩ := den_int h2 zt148
  refine ⟨p', I2, J2, e', h1, h4, h5, ?_⟩
  rw [E309_1179]
  simp only [x1, ck_t]
  rw [h2, evK_s, E309_1188]
  simp only [x1, ck_t, h6]
  rw [h3, evK_s, E309_1197, if_pos rfl]
theorem LC_31 (hx : ∀ c : Nat, c < 7 → ixb sl (i + nI c) = true) (he : e < 1000) (c : CK p I J (dat I) e) (hq : I 1 8 = I 46 0) : LGo d sl p I J e 1202 i := by
  have x1 : ixb sl (i + 1) = true := hx 1 (by decide)
  have x2 : ixb sl (i + 2) = true := hx 2 (by decide)
  by_cases hb : (I 0 (Int32.toNatClampNeg (i + 1))) = 0
  · obtain ⟨v, p', I1, J1, I2, J2, e', h1, h2, h3, h4, h5, h6⟩ := (A_axis (d := d) (sl := sl) (p := p) (e := e) c.sv.gd 0 (I 0 (Int32.toNatClampNeg (i + 2)))).upd.two c rfl
    obtain ⟨x, rfl⟩ := den_int h2 zt149
    refine ⟨p', I2, J2, e', h1, h4, h5, ?_⟩
    rw [E309_1202]
    simp only [x1, x2, ck_t]
    rw [if_pos hb, h2, evK_s, E309_1224]
    simp only [x1, x2, ck_t, h6]
    rw [if_pos hb, h3, evK_s, E309_1246, if_pos rfl]
  · obtain ⟨v, p', I1, J1, I2, J2, e', h1, h2, h3, h4, h5, h6⟩ := (A_axis (d := d) (sl := sl) (p := p) (e := e) c.sv.gd 1 (I 0 (Int32.toNatClampNeg (i + 2)))).upd.two c rfl
    obtain ⟨x, rfl⟩ := den_int h2 zt149
    refine ⟨p', I2, J2, e', h1, h4, h5, ?_⟩
    rw [E309_1202]
    simp only [x1, x2, ck_t]
    rw [if_neg hb, h2, evK_s, E309_1224]
    simp only [x1, x2, ck_t, h6]
    rw [if_neg hb, h3, evK_s, E309_1246, if_pos rfl]
theorem LC_32 (hx : ∀ c : Nat, c < 7 → ixb sl (i + nI c) = true) (he : e < 1000) (c : CK p I J (dat I) e) (hq : I 1 8 = I 46 0) : LGo d sl p I J e 1251 i := by
  have x1 : ixb sl (i + 1) = true := hx 1 (by decide)
  obtain ⟨v, p', I1, J1, I2, J2, e', h1, h2, h3, h4, h5, h6⟩ := (A_nextLine (d := d) (sl := sl) (p := p) (e := e) c.sv.gd (I 0 (Int32.toNatClampNeg (i + 1)))).upd.two c rfl
  obtain ⟨x, rfl⟩ := den_int h2 zt150
  refine ⟨p', I2, J2, e', h1, h4, h5, ?_⟩
  rw [E309_1251]
  simp only [x1, ck_t]
  rw [h2, evK_s, E309_1260]
  simp only [x1, ck_t, h6]
  rw [h3, evK_s, E309_1269, if_pos rfl]
theorem LC_33 (hx : ∀ c : Nat, c < 7 → ixb sl (i + nI c) = true) (he : e < 1000) (c : CK p I J (dat I) e) (hq : I 1 8 = I 46 0) : LGo d sl p I J e 1274 i := by
  have x1 : ixb sl (i + 1) = true := hx 1 (by decide)
  have x2 : ixb sl (i + 2) = true := hx 2 (by decide)
  have x3 : ixb sl (i + 3) = true := hx 3 (by decide)
  obtain ⟨v, p', I1, J1, I2, J2, e', h1, h2, h3, h4, h5, h6⟩ := (A_blind (d := d) (sl := sl) (p := p) (e := e) c.sv.gd (I 0 (Int32.toNatClampNeg (i + 1))) (I 0 (Int32.toNatClampNeg (i + 2))) (I 0 (Int32.toNatClampNeg (i + 3)))).upd.two c rfl
  obtain ⟨x, rfl⟩ := den_int h2 zt151
  refine ⟨p', I2, J2, e', h1, h4, h5, ?_⟩
  rw [E309_1274]
  simp only [x1, x2, x3, ck_t]
  rw [h2, evK_s, E309_1293]
  simp only [x1, x2, x3, ck_t, h6]
  rw [h3, evK_s, E309_1312, if_pos rfl]
theorem LC_34 (hx : ∀ c : Nat, c < 7 → ixb sl (i + nI c) = true) (he : e < 1000) (c : CK p I J (dat I) e) (hq : I 1 8 = I 46 0) : LGo d sl p I J e 1317 i := by
  have x1 : ixb sl (i + 1) = true := hx 1 (by decide)
  have x2 : ixb sl (i + 2) = true := hx 2 (by decide)
  obtain ⟨v, p', I1, J1, I2, J2, e', h1, h2, h3, h4, h5, h6⟩ := (A_peak (d := d) (sl := sl) (p := p) (e := e) c.sv.gd (I 0 (Int32.toNatClampNeg (i + 1))) (I 0 (Int32.toNatClampNeg (i + 2)))).upd.two c rfl
  obtain ⟨x, rfl⟩ := den_int h2 zt152
  refine ⟨p', I2, J2, e', h1, h4, h5, ?_⟩
  rw [E309_1317]
  simp only [x1, x2, ck_t]
  rw [h2, evK_s, E309_1331]
  simp only [x1, x2, ck_t, h6]
  rw [h3, evK_s, E309_1345, if_pos rfl]
theorem LC_35 (hx : ∀ c : Nat, c < 7 → ixb sl (i + nI c) = true) (he : e < 1000) (c : CK p I J (dat I) e) (hq : I 1 8 = I 46 0) : LGo d sl p I J e 1350 i := by
  have x1 : ixb sl (i + 1) = true := hx 1 (by decide)
  have x2 : ixb sl (i + 2) = true := hx 2 (by decide)
  have x3 : ixb sl (i + 3) = true := hx 3 (by decide)
  obtain ⟨v, p', I1, J1, I2, J2, e', h1, h2, h3, h4, h5, h6⟩ := (A_spacing (d := d) (sl := sl) (p := p) (e := e) c.sv.gd (labOf c.sv.gd rfl) (I 0 (Int32.toNatClampNeg (i + 1))) (I 0 (Int32.toNatClampNeg (i + 2))) (I 0 (Int32.toNatClampNeg (i + 3)))).upd.two c rfl
  obtain ⟨x, rfl⟩ := den_int h2 zt153
  refine ⟨p', I2, J2, e', h1, h4, h5, ?_⟩
  rw [E309_1350]
  simp only [x1, x2, x3, ck_t]
  rw [h2, evK_s, E309_1369]
  simp only [x1, x2, x3, ck_t, h6]
  rw [h3, evK_s, E309_1388, if_pos rfl]
theorem LC_36 (hx : ∀ c : Nat, c < 7 → ixb sl (i + nI c) = true) (he : e < 1000) (c : CK p I J (dat I) e) (hq : I 1 8 = I 46 0) : LGo d sl p I J e 1393 i := by
  have x1 : ixb sl (i + 1) = true := hx 1 (by decide)
  have x2 : ixb sl (i + 2) = true := hx 2 (by decide)
  have x3 : ixb sl (i + 3) = true := hx 3 (by decide)
  have x4 : ixb sl (i + 4) = true := hx 4 (by decide)
  have x5 : ixb sl (i + 5) = true := hx 5 (by decide)
  obtain ⟨v, p', I1, J1, I2, J2, e', h1, h2, h3, h4, h5, h6⟩ := (A_meets (d := d) (sl := sl) (p := p) (e := e) c.sv.gd (labOf c.sv.gd rfl) (I 0 (Int32.toNatClampNeg (i + 1))) (I 0 (Int32.toNatClampNeg (i + 2))) (I 0 (Int32.toNatClampNeg (i + 3))) (I 0 (Int32.toNatClampNeg (i + 4))) (I 0 (Int32.toNatClampNeg (i + 5)))).upd.two c rfl
  obtain ⟨x, rfl⟩ := den_int h2 zt154
  refine ⟨p', I2, J2, e', h1, h4, h5, ?_⟩
  rw [E309_1393]
  simp only [x1, x2, x3, x4, x5, ck_t]
  rw [h2, evK_s, E309_1422]
  simp only [x1, x2, x3, x4, x5, ck_t, h6]
  rw [h3, evK_s, E309_1451, if_pos rfl]
theorem LC_37 (hx : ∀ c : Nat, c < 7 → ixb sl (i + nI c) = true) (he : e < 1000) (c : CK p I J (dat I) e) (hq : I 1 8 = I 46 0) : LGo d sl p I J e 1456 i := by
  have x1 : ixb sl (i + 1) = true := hx 1 (by decide)
  have x2 : ixb sl (i + 2) = true := hx 2 (by decide)
  have x3 : ixb sl (i + 3) = true := hx 3 (by decide)
  have x4 : ixb sl (i + 4) = true := hx 4 (by decide)
  have x5 : ixb sl (i + 5) = true := hx 5 (by decide)
  have x6 : ixb sl (i + 6) = true := hx 6 (by decide)
  obtain ⟨v, p', I1, J1, I2, J2, e', h1, h2, h3, h4, h5, h6⟩ := (A_block (d := d) (sl := sl) (p := p) (e := e) c.sv.gd (labOf c.sv.gd rfl) (I 0 (Int32.toNatClampNeg (i + 1))) (I 0 (Int32.toNatClampNeg (i + 2))) (I 0 (Int32.toNatClampNeg (i + 3))) (I 0 (Int32.toNatClampNeg (i + 4))) (I 0 (Int32.toNatClampNeg (i + 5))) (I 0 (Int32.toNatClampNeg (i + 6)))).upd.two c rfl
  obtain ⟨x, rfl⟩ := den_long h2 zt155
  refine ⟨p', I2, J2, e', h1, h4, h5, ?_⟩
  rw [E309_1456]
  simp only [x1, x2, x3, x4, x5, x6, ck_t]
  rw [h2, evK_s, E309_1491]
  simp only [x1, x2, x3, x4, x5, x6, ck_t, h6]
  rw [h3, evK_s, E309_1526, if_pos rfl]
theorem LC_38 (hx : ∀ c : Nat, c < 7 → ixb sl (i + nI c) = true) (he : e < 1000) (c : CK p I J (dat I) e) (hq : I 1 8 = I 46 0) : LGo d sl p I J e 1532 i := by
  have x1 : ixb sl (i + 1) = true := hx 1 (by decide)
  have x2 : ixb sl (i + 2) = true := hx 2 (by decide)
  have x3 : ixb sl (i + 3) = true := hx 3 (by decide)
  obtain ⟨v, p', I1, J1, I2, J2, e', h1, h2, h3, h4, h5, h6⟩ := (A_wedge (d := d) (sl := sl) (p := p) (e := e) c.sv.gd (labOf c.sv.gd rfl) (I 0 (Int32.toNatClampNeg (i + 1))) (I 0 (Int32.toNatClampNeg (i + 2))) (I 0 (Int32.toNatClampNeg (i + 3)))).upd.two c rfl
  obtain ⟨x, rfl⟩ := den_int h2 zt156
  refine ⟨p', I2, J2, e', h1, h4, h5, ?_⟩
  rw [E309_1532]
  simp only [x1, x2, x3, ck_t]
  rw [h2, evK_s, E309_1551]
  simp only [x1, x2, x3, ck_t, h6]
  rw [h3, evK_s, E309_1570, if_pos rfl]
theorem LC_39 (hx : ∀ c : Nat, c < 7 → ixb sl (i + nI c) = true) (he : e < 1000) (c : CK p I J (dat I) e) (hq : I 1 8 = I 46 0) : LGo d sl p I J e 1575 i := by
  have x1 : ixb sl (i + 1) = true := hx 1 (by decide)
  obtain ⟨v, p', I1, J1, I2, J2, e', h1, h2, h3, h4, h5, h6⟩ := (A_risk (d := d) (sl := sl) (p := p) (e := e) c.sv.gd (labOf c.sv.gd rfl) (I 0 (Int32.toNatClampNeg (i + 1)))).upd.two c rfl
  obtain ⟨x, rfl⟩ := den_int h2 zt157
  refine ⟨p', I2, J2, e', h1, h4, h5, ?_⟩
  rw [E309_1575]
  simp only [x1, ck_t]
  rw [h2, evK_s, E309_1584]
  simp only [x1, ck_t, h6]
  rw [h3, evK_s, E309_1593, if_pos rfl]
theorem LC_40 (hx : ∀ c : Nat, c < 7 → ixb sl (i + nI c) = true) (he : e < 1000) (c : CK p I J (dat I) e) (hq : I 1 8 = I 46 0) : LGo d sl p I J e 1598 i := by
  have x1 : ixb sl (i + 1) = true := hx 1 (by decide)
  obtain ⟨v, p', I1, J1, I2, J2, e', h1, h2, h3, h4, h5, h6⟩ := (A_safety (d := d) (sl := sl) (p := p) (e := e) c.sv.gd (labOf c.sv.gd rfl) (I 0 (Int32.toNatClampNeg (i + 1)))).upd.two c rfl
  obtain ⟨x, rfl⟩ := den_int h2 zt158
  refine ⟨p', I2, J2, e', h1, h4, h5, ?_⟩
  rw [E309_1598]
  simp only [x1, ck_t]
  rw [h2, evK_s, E309_1607]
  simp only [x1, ck_t, h6]
  rw [h3, evK_s, E309_1616, if_pos rfl]
theorem LC_41 (hx : ∀ c : Nat, c < 7 → ixb sl (i + nI c) = true) (he : e < 1000) (c : CK p I J (dat I) e) (hq : I 1 8 = I 46 0) : LGo d sl p I J e 1621 i := by
  have x1 : ixb sl (i + 1) = true := hx 1 (by decide)
  obtain ⟨v, p', I1, J1, I2, J2, e', h1, h2, h3, h4, h5, h6⟩ := (A_safest (d := d) (sl := sl) (p := p) (e := e) c.sv.gd (labOf c.sv.gd rfl) (I 0 (Int32.toNatClampNeg (i + 1)))).upd.two c rfl
  obtain ⟨x, rfl⟩ := den_int h2 zt159
  refine ⟨p', I2, J2, e', h1, h4, h5, ?_⟩
  rw [E309_1621]
  simp only [x1, ck_t]
  rw [h2, evK_s, E309_1630]
  simp only [x1, ck_t, h6]
  rw [h3, evK_s, E309_1639, if_pos rfl]
theorem LC_42 (hx : ∀ c : Nat, c < 7 → ixb sl (i + nI c) = true) (he : e < 1000) (c : CK p I J (dat I) e) (hq : I 1 8 = I 46 0) : LGo d sl p I J e 1644 i := by
  obtain ⟨v, p', I1, J1, I2, J2, e', h1, h2, h3, h4, h5, h6⟩ := (A_steepest (d := d) (sl := sl) (p := p) (e := e) c.sv.gd (labOf c.sv.gd rfl) ).upd.two c rfl
  obtain ⟨x, rfl⟩ := den_int h2 zt160
  refine ⟨p', I2, J2, e', h1, h4, h5, ?_⟩
  rw [E309_1644]
  rw [h2, evK_s, E309_1648]
  rw [h3, evK_s, E309_1652, if_pos rfl]
theorem LC_43 (hx : ∀ c : Nat, c < 7 → ixb sl (i + nI c) = true) (he : e < 1000) (c : CK p I J (dat I) e) (hq : I 1 8 = I 46 0) : LGo d sl p I J e 1657 i := by
  have x1 : ixb sl (i + 1) = true := hx 1 (by decide)
  have x2 : ixb sl (i + 2) = true := hx 2 (by decide)
  have x3 : ixb sl (i + 3) = true := hx 3 (by decide)
  have x4 : ixb sl (i + 4) = true := hx 4 (by decide)
  obtain ⟨v, p', I1, J1, I2, J2, e', h1, h2, h3, h4, h5, h6⟩ := (A_fold (d := d) (sl := sl) (p := p) (e := e) c.sv.gd (labOf c.sv.gd rfl) (I 0 (Int32.toNatClampNeg (i + 1))) (I 0 (Int32.toNatClampNeg (i + 2))) (I 0 (Int32.toNatClampNeg (i + 3))) (I 0 (Int32.toNatClampNeg (i + 4)))).upd.two c rfl
  obtain ⟨x, rfl⟩ := den_int h2 zt161
  refine ⟨p', I2, J2, e', h1, h4, h5, ?_⟩
  rw [E309_1657]
  simp only [x1, x2, x3, x4, ck_t]
  rw [h2, evK_s, E309_1681]
  simp only [x1, x2, x3, x4, ck_t, h6]
  rw [h3, evK_s, E309_1705, if_pos rfl]
theorem LC_44 (hx : ∀ c : Nat, c < 7 → ixb sl (i + nI c) = true) (he : e < 1000) (c : CK p I J (dat I) e) (hq : I 1 8 = I 46 0) : LGo d sl p I J e 1710 i := by
  have x1 : ixb sl (i + 1) = true := hx 1 (by decide)
  have x2 : ixb sl (i + 2) = true := hx 2 (by decide)
  have x3 : ixb sl (i + 3) = true := hx 3 (by decide)
  have x4 : ixb sl (i + 4) = true := hx 4 (by decide)
  obtain ⟨v, p', I1, J1, I2, J2, e', h1, h2, h3, h4, h5, h6⟩ := (A_unfold (d := d) (sl := sl) (p := p) (e := e) c.sv.gd (labOf c.sv.gd rfl) (I 0 (Int32.toNatClampNeg (i + 1))) (I 0 (Int32.toNatClampNeg (i + 2))) (I 0 (Int32.toNatClampNeg (i + 3))) (I 0 (Int32.toNatClampNeg (i + 4)))).upd.two c rfl
  obtain ⟨x, rfl⟩ := den_int h2 zt162
  refine ⟨p', I2, J2, e', h1, h4, h5, ?_⟩
  rw [E309_1710]
  simp only [x1, x2, x3, x4, ck_t]
  rw [h2, evK_s, E309_1734]
  simp only [x1, x2, x3, x4, ck_t, h6]
  rw [h3, evK_s, E309_1758, if_pos rfl]
end CAS
