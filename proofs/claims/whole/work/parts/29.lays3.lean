/-- the lie of a crack as a number -/
def lv (D : Nat → Nat → Int32) (i : Nat) : Int32 := 100 * plD (D 51 i) (D 52 i) + D 52 i
def mnL (P : Nat → Bool) (f : Nat → Int32) : Nat → Int32
  | 0 => 1000000
  | n + 1 => if P n then (if f n < mnL P f n then f n else mnL P f n) else mnL P f n
def rto {α : Type} (c : Nat) (f r : Nat → α) : Nat → α := fun k => if k < c then f k else r k
theorem rto_0 {α : Type} {f r : Nat → α} : rto 0 f r = r := by
  funext k
  unfold rto
  rw [if_neg (Nat.not_lt_zero k)]
theorem rto_s {α : Type} {c : Nat} {f r : Nat → α} : up1 (rto c f r) c (f c) = rto (c + 1) f r := by
  funext k
  unfold rto up1
  by_cases h : k = c
  · rw [if_pos h, if_pos (by omega), h]
  · rw [if_neg h]
    show (if k < c then f k else r k) = _
    by_cases h2 : k < c
    · rw [if_pos h2, if_pos (by omega)]
    · rw [if_neg h2, if_neg (by omega)]
theorem rto_t {α : Type} {c k : Nat} {f r : Nat → α} (h : k < c) : rto c f r k = f k := if_pos h
def szf (lab : Nat → Int32) (n c : Nat) : Int32 := nI (cnt (fun j => decide (lab j = nI c)) n)
def llf (D : Nat → Nat → Int32) (lab : Nat → Int32) (n c : Nat) : Int32 := mnL (fun j => decide (lab j = nI c)) (lv D) n
/-- groups as they lie: how many, labels, sizes, least lies -/
def layG (I : Nat → Nat → Int32) (g : Nat) (l : Nat → Int32) (n : Nat) : Nat → Nat → Int32 := row (row (row (up2 I 46 30 (nI g)) 60 l) 62 (rto g (szf l n) (I 62))) 63 (rto g (llf (dat I) l n) (I 63))
section LAYS
variable {d sl : Nat} {p : Nat → Nat} {I : Nat → Nat → Int32} {J : Nat → Nat → Int64}
theorem sp_lieOf {i : Nat} (hi : i < 60) : den (d + 1) 207 [.ref 46, .int (nI i)] (S sl p I J) = some (some (.int (lv (dat I) i)), S sl p I J) := by
  rw [E207_0]
  simp only [ixb_n hi (by decide), ck_t, sp_plainDirection, evK_s, E207_17, cl_n (show i < 2 ^ 31 by omega)]
  rfl
/-- the turn over k -/
theorem lays_k {n an : Nat} {bt : Int32} (hn : n ≤ 60) (hI : I 46 2 = nI n) (han : an ≤ 90) (hb : ∀ i, i < n → bv (pv (dat I) i)) (l : Nat → Int32) (hl : ∀ j, j < n → l j = -1) :
    ∃ g l', ev (d + 6) 208 30 [.ref 46, .int (nI an), .int bt, .int 0, .retAddr 0, .retAddr 0, .retAddr 0] [] (S sl p (row (up2 I 46 30 0) 60 l) J) = ev (d + 6) 208 197 [.ref 46, .int (nI an), .int bt, .int 0, .retAddr 0, .retAddr 0, .retAddr 0] [] (S sl p (row (up2 I 46 30 (nI g)) 60 l') J) ∧ Lab n (fun i j => nb (dat I) i j ≤ an) bt l' g := by
  have hd : ∀ v, dat (up2 I 46 30 v) = dat I := fun v => dat_up (by unfold isD; omega)
  obtain ⟨⟨g, l'⟩, e, h1⟩ := for_ex (M := Nat × (Nat → Int32)) (fun k x => ev (d + 6) 208 30 [.ref 46, .int (nI an), .int bt, .int k, .retAddr 0, .retAddr 0, .retAddr 0] [] (S sl p (row (up2 I 46 30 (nI x.1)) 60 x.2) J)) n
    (fun k x => LabK n (fun i j => nb (dat I) i j ≤ an) bt x.2 x.1 k)
    (by
      rintro k ⟨g, l⟩ hk h
      simp only at h ⊢
      rw [E208_30, row_n (by omega), up_n (by omega), hI, if_pos (lt_n hk (by omega))]
      by_cases c1 : nI k = bt
      · refine ⟨(g, l), by rw [if_pos c1, nI_1], ?_⟩
        obtain ⟨a0, a1, a2, a3, a4, a5, a6⟩ := h
        refine ⟨by simp only; omega, a1, a2, ?_, a4, a5, ?_⟩
        · intro j hj hb
          rcases Nat.lt_or_ge j k with w | w
          · exact a3 j w hb
          · have : j = k := by omega
            exact absurd (this ▸ c1) hb
        · intro c hc
          obtain ⟨r, r1, r2⟩ := a6 c hc
          exact ⟨r, by omega, r2⟩
      · rw [if_neg c1, ck_if (ixb_n (by omega) (by decide)), cl_n (by omega), row_s]
        by_cases c2 : l k = -1
        · rw [if_pos c2, ck_if (ixb_n (by omega) (by decide)), row_n (by omega), up_s, row_up]
          have hf : Fl n (fun i j => nb (dat I) i j ≤ an) bt k g l (up1 l k (nI g)) := by
            intro j
            by_cases ej : j = k
            · subst ej; exact Or.inr ⟨c2, up1_s, hk, c1, Con.rf j⟩
            · exact Or.inl (up1_n ej)
          obtain ⟨l', e, g1, g2, g3⟩ := lays_w (d := d) (sl := sl) (p := p) (J := J) (I := up2 I 46 30 (nI g)) (n := n) (g := g) (an := an) (k := k) (bt := bt) (l0 := l) hn (by rw [up_n (by omega), hI]) up_s h.1 hk han (by rw [hd]; exact hb) h.2.2.1 (n + 1) (up1 l k (nI g)) (by have := cnt_le (P := fun j => decide (up1 l k (nI g) j = -1)) n; omega) (by rw [hd]; exact hf)
          rw [hd] at g1 g3
          refine ⟨(g + 1, l'), by rw [e, up_up], ?_⟩
          have hgm : ¬ nI g = -1 := nI_m1 (by have := h.1; omega)
          have hlk : l' k = nI g := by
            rcases g1 k with q | q
            · rw [c2] at q
              have := g2 k q
              rw [up1_s] at this
              exact absurd this hgm
            · exact q.2.1
          exact Lab_next (fun i j w => by rw [nb_sy]; exact w) (by omega) hk c1 h c2 g1 hlk g3
        · refine ⟨(g, l), by rw [if_neg c2, nI_1], ?_⟩
          obtain ⟨a0, a1, a2, a3, a4, a5, a6⟩ := h
          refine ⟨by simp only; omega, a1, a2, ?_, a4, a5, ?_⟩
          · intro j hj hb
            rcases Nat.lt_or_ge j k with w | w
            · exact a3 j w hb
            · have : j = k := by omega
              subst this
              exact c2
          · intro c hc
            obtain ⟨r, r1, r2⟩ := a6 c hc
            exact ⟨r, by omega, r2⟩)
    (0, l) ⟨Nat.le_refl 0, fun j hj _ => hl j hj, fun j hj => Or.inl (hl j hj), fun _ h => absurd h (Nat.not_lt_zero _), fun i _ hi _ _ _ _ w => absurd (hl i hi) w, fun i _ hi _ w => absurd (hl i hi) w, fun _ h => absurd h (Nat.not_lt_zero _)⟩
  refine ⟨g, l', ?_, h1⟩
  have e' := e
  simp only at e'
  rw [nI_0] at e'
  rw [e', E208_30, row_n (by omega), up_n (by omega), hI, if_neg (nlt_n (by omega))]
/-- the turn over the members of c -/
theorem lays_m {n g c an : Nat} {bt : Int32} {lab : Nat → Int32} (hn : n ≤ 60) (hI : I 46 2 = nI n) (hc : c < 60) (h60 : I 60 = lab) (sz ll : Nat → Int32) :
    ev (d + 6) 208 223 [.ref 46, .int (nI an), .int bt, .int (nI c), .int 0, .retAddr 0, .retAddr 0] [] (S sl p (row (row I 62 (up1 sz c 0)) 63 (up1 ll c 1000000)) J) = ev (d + 6) 208 197 [.ref 46, .int (nI an), .int bt, .int (nI (c + 1)), .retAddr 0, .retAddr 0, .retAddr 0] [] (S sl p (row (row I 62 (up1 sz c (szf lab n c))) 63 (up1 ll c (llf (dat I) lab n c))) J) := by
  obtain ⟨x, e, h1⟩ := for_ex (M := Int32 × Int32) (fun j x => ev (d + 6) 208 223 [.ref 46, .int (nI an), .int bt, .int (nI c), .int j, .retAddr 0, .retAddr 0] [] (S sl p (row (row I 62 (up1 sz c x.1)) 63 (up1 ll c x.2)) J)) n
    (fun j x => x = (szf lab j c, llf (dat I) lab j c))
    (by
      rintro j x hj rfl
      simp only
      rw [E208_223, row_n (by omega), row_n (by omega), hI, if_pos (lt_n hj (by omega)), ck_if (ixb_n (by omega) (by decide)), cl_n (by omega), row_n (by omega), row_n (by omega), h60]
      refine ⟨_, ?_, rfl⟩
      have hd : ∀ u v, dat (row (row I 62 u) 63 v) = dat I := fun u v => by rw [dat_row (by omega) (by omega), dat_row (by omega) (by omega)]
      by_cases c1 : lab j = nI c
      · rw [if_pos c1, ck_if (ixb_n hc (by decide)), ck_if (ixb_n hc (by decide)), ck_if (ixb_n hc (by decide)), cl_n (by omega), up_na (by omega), row_s, up1_s, row_n (by omega), row_s, up1_s, row_un (by omega), row_up, up1_up, sp_lieOf (by omega), evK_s, E208_273, ck_if (ixb_n hc (by decide)), cl_n (by omega), row_up, up1_up, hd, nI_1]
        simp only [szf, llf, cnt, mnL, c1, decide_true, if_true, nI_1]
        rfl
      · rw [if_neg c1, nI_1]
        simp only [szf, llf, cnt, mnL, c1, decide_false, if_false, Bool.false_eq_true, Nat.add_zero])
    (0, 1000000) rfl
  simp only [h1] at e
  rw [e, E208_223, row_n (by omega), row_n (by omega), hI, if_neg (nlt_n (by omega)), nI_1]
theorem sp_laysGroups {n an : Nat} {bt : Int32} (hn : n ≤ 60) (hI : I 46 2 = nI n) (han : an ≤ 90) (hb : ∀ i, i < n → bv (pv (dat I) i)) :
    ∃ g l, den (d + 6) 208 [.ref 46, .int (nI an), .int bt] (S sl p I J) = some (none, S sl p (layG I g l n) J) ∧ Lab n (fun i j => nb (dat I) i j ≤ an) bt l g := by
  obtain ⟨l0, e0, h0⟩ := for_ex (M := Nat → Int32) (fun k x => ev (d + 6) 208 7 [.ref 46, .int (nI an), .int bt, .int k, .retAddr 0, .retAddr 0, .retAddr 0] [] (S sl p (row (up2 I 46 30 0) 60 x) J)) n
    (fun k x => ∀ j, j < k → x j = -1)
    (by
      intro k x hk h
      rw [E208_7, row_n (by omega), up_n (by omega), hI, if_pos (lt_n hk (by omega)), ck_if (ixb_n (by omega) (by decide)), cl_n (by omega), row_up, nI_1]
      refine ⟨_, rfl, fun j hj => ?_⟩
      by_cases e : j = k
      · rw [e, up1_s]
      · rw [up1_n e]; exact h j (by omega))
    (up2 I 46 30 0 60) (fun _ h => absurd h (Nat.not_lt_zero _))
  rw [row_id] at e0
  obtain ⟨g, l, e1, hl⟩ := lays_k (d := d) (sl := sl) (p := p) (I := I) (J := J) (n := n) (an := an) (bt := bt) hn hI han hb l0 h0
  refine ⟨g, l, ?_, hl⟩
  rw [E208_0, e0, E208_7, row_n (by omega), up_n (by omega), hI, if_neg (nlt_n (by omega)), e1]
  have hg : g ≤ n := hl.1
  have hd : dat (row (up2 I 46 30 (nI g)) 60 l) = dat I := by rw [dat_row (by omega) (by omega), dat_up (by unfold isD; omega)]
  obtain ⟨x, e2, h2⟩ := for_ex (M := (Nat → Int32) × (Nat → Int32)) (fun c x => ev (d + 6) 208 197 [.ref 46, .int (nI an), .int bt, .int c, .retAddr 0, .retAddr 0, .retAddr 0] [] (S sl p (row (row (row (up2 I 46 30 (nI g)) 60 l) 62 x.1) 63 x.2) J)) g
    (fun c x => x = (rto c (szf l n) (I 62), rto c (llf (dat I) l n) (I 63)))
    (by
      rintro c x hc rfl
      simp only
      refine ⟨_, ?_, rfl⟩
      rw [E208_197, row_n (by omega), row_n (by omega), row_n (by omega), up_s, if_pos (lt_n hc (by omega)), ck_if (ixb_n (by omega) (by decide)), ck_if (ixb_n (by omega) (by decide)), cl_n (by omega), row_un (by omega), row_up, row_up]
      rw [lays_m (n := n) (g := g) (lab := l) hn (by rw [row_n (by omega), up_n (by omega), hI]) (by omega) (by funext k; rw [row_s]), hd, rto_s, rto_s])
    (I 62, I 63) (by rw [rto_0, rto_0])
  simp only [h2] at e2
  have h62 : row (up2 I 46 30 (nI g)) 60 l 62 = I 62 := by funext k; rw [row_n (by omega), up_na (by omega)]
  have h63 : row (row (up2 I 46 30 (nI g)) 60 l) 62 (I 62) 63 = I 63 := by funext k; rw [row_n (by omega), row_n (by omega), up_na (by omega)]
  have e3 : row (row (row (up2 I 46 30 (nI g)) 60 l) 62 (I 62)) 63 (I 63) = row (up2 I 46 30 (nI g)) 60 l := by
    rw [← h63, row_id, ← h62, row_id]
  rw [e3] at e2
  rw [e2, E208_197, row_n (by omega), row_n (by omega), row_n (by omega), up_s, if_neg (nlt_n (by omega))]
  rfl
end LAYS
