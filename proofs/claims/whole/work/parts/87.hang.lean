/-! what hangs together by how small a link -/
section HANG
variable {d sl : Nat} {p : Nat → Nat} {I I' : Nat → Nat → Int32} {J J' : Nat → Nat → Int64} {D : Nat → Nat → Int32} {e : Nat}
theorem con_mono {n a b i j : Nat} (h : a ≤ b) (hc : Con n (nearA D a) (-1) i j) : Con n (nearA D b) (-1) i j := fun f hf => hc f (fun x y hx hy bx bY hA => hf x y hx hy bx bY (Nat.le_trans hA h))
theorem lab_con {n : Nat} {A : Nat → Nat → Prop} {l : Nat → Int32} {g i j : Nat} (hn : n < 2 ^ 30) (h : Lab n A (-1) l g) (hi : i < n) (hj : j < n) : l i = l j ↔ Con n A (-1) i j := by
  obtain ⟨a0, a1, a2, a3, a4, a5, a6⟩ := id h
  exact ⟨fun w => a5 i j hi hj (a3 i hi (nI_m1 (by omega))) w, fun w => w l (fun x y hx hy bx bY hA => a4 x y hx hy bx bY hA (a3 x hx bx))⟩
noncomputable def hgO (D : Nat → Nat → Int32) (s t : Nat) : Nat := fsq (fun a => decide (lb D a (-1) s = lb D a (-1) t)) 90
theorem hgO_of (hD : GD D) (hlab : ∀ a, a ≤ 90 → Lab (nc D) (nearA D a) (-1) (lb D a (-1)) (gr D a (-1))) {s t a : Nat} (hs : s < nc D) (ht : t < nc D) (ha : a ≤ 90) (h1 : Con (nc D) (nearA D a) (-1) s t) (h2 : ∀ b, b < a → ¬ Con (nc D) (nearA D b) (-1) s t) : hgO D s t = a := by
  have n60 := hD.n60
  unfold hgO
  have hno : ∀ b, b < a → decide (lb D b (-1) s = lb D b (-1) t) = false := fun b hb => decide_eq_false (fun w => h2 b hb ((lab_con (by omega) (hlab b (by omega)) hs ht).mp w))
  rcases Nat.lt_or_ge a 90 with c | c
  · exact fsq_eq c (decide_eq_true ((lab_con (by omega) (hlab a ha) hs ht).mpr h1)) hno
  · have : a = 90 := by omega
    subst this
    have hle := fsq_le (fun a => decide (lb D a (-1) s = lb D a (-1) t)) 90
    rcases Nat.lt_or_ge (fsq (fun a => decide (lb D a (-1) s = lb D a (-1) t)) 90) 90 with z | z
    · have := fsq_yes _ _ z
      rw [hno _ z] at this
      cases this
    · omega
/-- links so far -/
def PR (D : Nat → Nat → Int32) (s : Nat) (L : Nat → Nat) (V : Nat → Bool) : Prop := (∀ j, j < nc D → L j ≤ 90) ∧ (∀ j, j < nc D → Con (nc D) (nearA D (L j)) (-1) s j) ∧ (∀ v, v < nc D → V v = true → ∀ a, a < L v → ¬ Con (nc D) (nearA D a) (-1) s v) ∧ (∀ v i, v < nc D → i < nc D → V v = true → L i ≤ max (L v) (nb D v i)) ∧ (L s = 0)
theorem PR.b90 {D : Nat → Nat → Int32} {s : Nat} {L : Nat → Nat} {V : Nat → Bool} (h : PR D s L V) : ∀ j, j < nc D → L j ≤ 90 := h.1
theorem PR.con {D : Nat → Nat → Int32} {s : Nat} {L : Nat → Nat} {V : Nat → Bool} (h : PR D s L V) : ∀ j, j < nc D → Con (nc D) (nearA D (L j)) (-1) s j := h.2.1
theorem PR.low {D : Nat → Nat → Int32} {s : Nat} {L : Nat → Nat} {V : Nat → Bool} (h : PR D s L V) : ∀ v, v < nc D → V v = true → ∀ a, a < L v → ¬ Con (nc D) (nearA D a) (-1) s v := h.2.2.1
theorem PR.tri {D : Nat → Nat → Int32} {s : Nat} {L : Nat → Nat} {V : Nat → Bool} (h : PR D s L V) : ∀ v i, v < nc D → i < nc D → V v = true → L i ≤ max (L v) (nb D v i) := h.2.2.2.1
theorem PR.zer {D : Nat → Nat → Int32} {s : Nat} {L : Nat → Nat} {V : Nat → Bool} (h : PR D s L V) : L s = 0 := h.2.2.2.2
theorem PR_next (hD : GD D) {s m : Nat} {L : Nat → Nat} {V : Nat → Bool} (h : PR D s L V) (hs : s < nc D) (hm : m < nc D) (hV : V m = false) (hmin : ∀ i, i < nc D → V i = false → L m ≤ L i) : PR D s (fun i => min (L i) (max (L m) (nb D m i))) (fun i => if i = m then true else V i) := by
  have n60 := hD.n60
  have hlow : ∀ a, a < L m → ¬ Con (nc D) (nearA D a) (-1) s m := by
    intro a ha hc
    have hf := hc (fun x => if V x = true ∧ L x ≤ a then 1 else 0) (fun x y hx hy _ _ hA => by
      have hA' : nb D x y ≤ a := hA
      have hA2 : nb D y x ≤ a := by rw [nb_sy]; exact hA'
      have go : ∀ x y, x < nc D → y < nc D → nb D x y ≤ a → V x = true ∧ L x ≤ a → V y = true ∧ L y ≤ a := by
        intro x y hx hy hxy ⟨v1, v2⟩
        have ht := h.tri x y hx hy v1
        have hly : L y ≤ a := by omega
        refine ⟨?_, hly⟩
        cases q : V y with
        | true => rfl
        | false =>
          have := hmin y hy q
          omega
      by_cases q1 : V x = true ∧ L x ≤ a
      · rw [if_pos q1, if_pos (go x y hx hy hA' q1)]
      · rw [if_neg q1, if_neg (fun q2 => q1 (go y x hy hx hA2 q2))])
    have q2 : ¬ (V m = true ∧ L m ≤ a) := fun w => by rw [hV] at w; cases w.1
    simp only [if_neg q2] at hf
    cases q : V s with
    | true =>
      rw [if_pos ⟨q, by rw [h.zer]; omega⟩] at hf
      exact absurd hf (by decide)
    | false =>
      have := hmin s hs q
      rw [h.zer] at this
      omega
  have hcon : ∀ j, j < nc D → Con (nc D) (nearA D (min (L j) (max (L m) (nb D m j)))) (-1) s j := by
    intro j hj
    rcases Nat.le_total (L j) (max (L m) (nb D m j)) with w | w
    · rw [Nat.min_eq_left w]
      exact h.con j hj
    · rw [Nat.min_eq_right w]
      exact (con_mono (Nat.le_max_left _ _) (h.con m hm)).tr (Con.one hm hj (nI_m1 (by omega)) (nI_m1 (by omega)) (Nat.le_max_right (L m) (nb D m j)))
  have heq : ∀ v, v < nc D → V v = true → min (L v) (max (L m) (nb D m v)) = L v := by
    intro v hv q
    rcases Nat.lt_or_ge (min (L v) (max (L m) (nb D m v))) (L v) with w | w
    · exact absurd (hcon v hv) (h.low v hv q _ w)
    · have := Nat.min_le_left (L v) (max (L m) (nb D m v))
      omega
  have hmm : min (L m) (max (L m) (nb D m m)) = L m := by rw [nb_self]; omega
  refine ⟨fun j hj => by show min (L j) (max (L m) (nb D m j)) ≤ 90; have := h.b90 j hj; omega, hcon, fun v hv q a ha => ?_, fun v i hv hi q => ?_, by show min (L s) (max (L m) (nb D m s)) = 0; rw [h.zer]; omega⟩
  · replace q : (if v = m then true else V v) = true := q
    replace ha : a < min (L v) (max (L m) (nb D m v)) := ha
    by_cases c : v = m
    · subst c
      rw [hmm] at ha
      exact hlow a ha
    · rw [if_neg c] at q
      rw [heq v hv q] at ha
      exact h.low v hv q a ha
  · replace q : (if v = m then true else V v) = true := q
    show min (L i) (max (L m) (nb D m i)) ≤ max (min (L v) (max (L m) (nb D m v))) (nb D v i)
    by_cases c : v = m
    · subst c
      rw [hmm]
      omega
    · rw [if_neg c] at q
      rw [heq v hv q]
      have := h.tri v i hv hi q
      omega
theorem cnt_full {P : Nat → Bool} {n : Nat} (h : cnt P n = n) {j : Nat} (hj : j < n) : P j = true := by
  cases q : P j with
  | true => rfl
  | false =>
    have h1 := cnt_lt (P := P) (Q := fun _ => true) n (fun _ _ _ => rfl) ⟨j, hj, rfl, by rw [q]; decide⟩
    have h2 := cnt_le (P := fun _ => true) n
    omega
theorem C_nearestOpen (h : SV p I J D) {t : Nat} {L : Nat → Nat} {V : Nat → Bool} (ht : t < nc D) (hVt : V t = false) (hL : ∀ j, j < nc D → I 19 j = nI (L j) ∧ L j ≤ 90) (hV : ∀ j, j < nc D → I 15 j = if V j = true then 0 else -1) : ∃ m, m < nc D ∧ V m = false ∧ (∀ i, i < nc D → V i = false → L m ≤ L i) ∧ den d 94 [.ref 11, .int (nI t)] (S sl p I J) = some (some (.int (nI m)), S sl p I J) := by
  have n60 := h.gd.n60
  obtain ⟨m, e1, g1, g2, g3, g4⟩ := for_ex (M := Nat) (fun k m => ev d 94 4 [.ref 11, .int (nI t), .int (nI m), .int k] [] (S sl p I J)) (nc D) (fun k m => m < nc D ∧ V m = false ∧ (∀ i, i < k → V i = false → L m ≤ L i) ∧ True)
    (by
      rintro k m hk ⟨g1, g2, g3, -⟩
      have bk := (hL k hk).2
      have bm := (hL m g1).2
      rw [E94_4, h.count, if_pos (lt_n hk (by omega)), ck_if (ixb_n (by omega) (by decide)), cl_n (by omega), hV k hk, nI_1]
      cases q : V k with
      | true =>
        rw [if_neg (by decide)]
        exact ⟨m, rfl, g1, g2, fun i hi hv => by
          by_cases c : i = k
          · subst c; rw [q] at hv; cases hv
          · exact g3 i (by omega) hv, trivial⟩
      | false =>
        rw [if_pos (by decide), ck_if (ixb_n (by omega) (by decide)), ck_if (ixb_n (by omega) (by decide)), cl_n (by omega), (hL k hk).1, (hL m g1).1]
        by_cases c : L k < L m
        · rw [if_pos ((nI_lt_iff (by omega) (by omega)).mpr c)]
          exact ⟨k, rfl, hk, q, fun i hi hv => by
            by_cases z : i = k
            · rw [z]; exact Nat.le_refl _
            · have := g3 i (by omega) hv; omega, trivial⟩
        · rw [if_neg (fun w => c ((nI_lt_iff (by omega) (by omega)).mp w))]
          exact ⟨m, rfl, g1, g2, fun i hi hv => by
            by_cases z : i = k
            · rw [z]; omega
            · exact g3 i (by omega) hv, trivial⟩)
    t ⟨ht, hVt, fun _ w => absurd w (Nat.not_lt_zero _), trivial⟩
  exact ⟨m, g1, g2, g3, by rw [E94_0, e1, E94_4, h.count, if_neg (nlt_n (by omega))]⟩
theorem C_prim (hlab : ∀ a, a ≤ 90 → Lab (nc D) (nearA D a) (-1) (lb D a (-1)) (gr D a (-1))) {s t : Nat} (hs : s < nc D) (ht : t < nc D) : ∀ f step L V I, step + f = nc D → cnt V (nc D) = step → PR D s L V → SV p I J D → (∀ j, j < nc D → I 19 j = nI (L j)) → (∀ j, j < nc D → I 15 j = if V j = true then 0 else -1) → ∃ I', ev (d + 2) 93 50 [.ref 11, .int (nI s), .int (nI t), .int (nI step), .retAddr 0, .retAddr 0] [] (S sl p I J) = some (some (.int (nI (hgO D s t))), S sl p I' J) ∧ ∀ a k, a ≠ 15 → a ≠ 19 → I' a k = I a k := by
  intro f
  have fin : ∀ L V (I : Nat → Nat → Int32), PR D s L V → SV p I J D → V t = true → (∀ j, j < nc D → I 19 j = nI (L j)) → I 19 t = nI (hgO D s t) := by
    intro L V I hP h hV hL
    rw [hL t ht, hgO_of h.gd hlab hs ht (hP.b90 t ht) (hP.con t ht) (hP.low t ht hV)]
  induction f with
  | zero =>
    intro step L V I hf hc hP h hL hV
    have n60 := h.gd.n60
    have hVt : V t = true := cnt_full (show cnt V (nc D) = nc D by omega) ht
    refine ⟨I, ?_, fun _ _ _ _ => rfl⟩
    rw [E93_50, h.count, show step = nc D by omega, if_neg (nlt_n (by omega)), ck_if (ixb_n (by omega) (by decide)), cl_n (by omega), fin L V I hP h hVt hL]
  | succ f ih =>
    intro step L V I hf hc hP h hL hV
    have n60 := h.gd.n60
    rw [E93_50, h.count, if_pos (lt_n (by omega) (by omega)), ck_if (ixb_n (by omega) (by decide)), cl_n (by omega), hV t ht]
    cases q : V t with
    | true =>
      refine ⟨I, ?_, fun _ _ _ _ => rfl⟩
      rw [if_neg (by decide), ck_if (ixb_n (by omega) (by decide)), fin L V I hP h q hL]
    | false =>
      obtain ⟨m, m1, m2, m3, m4⟩ := C_nearestOpen (d := d + 1) (sl := sl) h ht q (fun j hj => ⟨hL j hj, hP.b90 j hj⟩) hV
      rw [if_pos (by decide), m4, evK_s, E93_76, ck_if (ixb_n (by omega) (by decide)), cl_n (by omega)]
      have F1 : ∀ a k, ¬ (a = 15 ∧ k = m) → up2 I 15 m 0 a k = I a k := fun a k w => up_n w
      have g15 : up2 I 15 m 0 15 m = 0 := up_s
      generalize up2 I 15 m 0 = I1 at F1 g15
      have hP2 := PR_next h.gd hP hs m1 m2 m3
      obtain ⟨I2, e1, g1, g2⟩ := for_ex (M := Nat → Nat → Int32) (fun k x => ev (d + 2) 93 89 [.ref 11, .int (nI s), .int (nI t), .int (nI step), .int (nI m), .int k] [] (S sl p x J)) (nc D) (fun k x => (∀ j, j < nc D → x 19 j = if j < k then nI (min (L j) (max (L m) (nb D m j))) else nI (L j)) ∧ ∀ a k, a ≠ 19 → x a k = I1 a k)
        (by
          rintro k x hk ⟨g1, g2⟩
          have s2 : SV p x J D := h.fr (fun a k _ => by rw [g2 _ _ (by omega), F1 _ _ (by omega)]) (by rw [g2 _ _ (by omega), F1 _ _ (by omega)]) (by rw [g2 _ _ (by omega), F1 _ _ (by omega)]) (fun a k _ _ => by rw [g2 _ _ (by omega), F1 _ _ (by omega)]) (fun _ _ _ _ => rfl) (fun _ _ _ _ => rfl)
          have xm : x 19 m = nI (L m) := by
            rw [g1 m m1]
            split
            · rw [nb_self, show min (L m) (max (L m) 0) = L m by omega]
            · rfl
          have b1 := hP.b90 k hk
          have b2 := hP.b90 m m1
          have b3 := nb_90 h.gd m1 hk
          rw [E93_89, s2.count, if_pos (lt_n hk (by omega)), ck_if (ixb_n (by omega) (by decide)), ck_if (ixb_n (by omega) (by decide)), cl_n (by omega), cl_n (by omega), sp_angC s2 m1 hk, evK_s, E93_132, ck_if (ixb_n (by omega) (by decide)), cl_n (by omega), nI_1, xm, g1 k hk, if_neg (show ¬ k < k by omega)]
          have e1 : (if nI (L m) < nI (nb D m k) then nI (nb D m k) else nI (L m)) = nI (max (L m) (nb D m k)) := by
            by_cases c : L m < nb D m k
            · rw [if_pos ((nI_lt_iff (by omega) (by omega)).mpr c), Nat.max_eq_right (by omega)]
            · rw [if_neg (fun w => c ((nI_lt_iff (by omega) (by omega)).mp w)), Nat.max_eq_left (by omega)]
          have e2 : (if nI (max (L m) (nb D m k)) < nI (L k) then nI (max (L m) (nb D m k)) else nI (L k)) = nI (min (L k) (max (L m) (nb D m k))) := by
            by_cases c : max (L m) (nb D m k) < L k
            · rw [if_pos ((nI_lt_iff (by omega) (by omega)).mpr c), Nat.min_eq_right (by omega)]
            · rw [if_neg (fun w => c ((nI_lt_iff (by omega) (by omega)).mp w)), Nat.min_eq_left (by omega)]
          rw [e1, e2]
          refine ⟨_, rfl, fun j hj => ?_, fun a j w => by rw [up_na w]; exact g2 a j w⟩
          by_cases c : j = k
          · rw [c, up_s, if_pos (by omega)]
          · rw [up_nk c, g1 j hj]
            by_cases z : j < k
            · rw [if_pos z, if_pos (by omega)]
            · rw [if_neg z, if_neg (by omega)])
        I1 ⟨fun j hj => by rw [if_neg (by omega), F1 _ _ (by omega)]; exact hL j hj, fun _ _ _ => rfl⟩
      have s2 : SV p I2 J D := h.fr (fun a k _ => by rw [g2 _ _ (by omega), F1 _ _ (by omega)]) (by rw [g2 _ _ (by omega), F1 _ _ (by omega)]) (by rw [g2 _ _ (by omega), F1 _ _ (by omega)]) (fun a k _ _ => by rw [g2 _ _ (by omega), F1 _ _ (by omega)]) (fun _ _ _ _ => rfl) (fun _ _ _ _ => rfl)
      obtain ⟨I3, c1, c2⟩ := ih (step + 1) (fun i => min (L i) (max (L m) (nb D m i))) (fun i => if i = m then true else V i) I2 (by omega) (by
        rw [cnt_up (P := V) (b := m) (nc D) m1 m2 (if_pos rfl) (fun j hj => (if_neg hj).symm)]
        omega) hP2 s2 (fun j hj => by rw [g1 j hj, if_pos hj]) (fun j hj => by
        rw [g2 _ _ (by omega)]
        by_cases c : j = m
        · rw [c, g15, if_pos rfl, if_pos rfl]
        · rw [F1 _ _ (by omega), hV j hj, if_neg c])
      refine ⟨I3, ?_, fun a k w1 w2 => by rw [c2 a k w1 w2, g2 a k w2, F1 a k (by omega)]⟩
      rw [e1, E93_89, s2.count, if_neg (nlt_n (by omega)), nI_1, c1]
theorem C_lab (h : SV p I J D) {a : Nat} (ha : a ≤ 90) : Lab (nc D) (nearA D a) (-1) (lb D a (-1)) (gr D a (-1)) := by
  obtain ⟨l, z, q, -, hl, -⟩ := sp_heapUp (d := 0) (sl := 0) h (an := a) (bt := -1) ha
  exact hl
theorem C_leastLink (h : SV p I J D) {s t : Nat} (hs : s < nc D) (ht : t < nc D) : ∃ I', den (d + 2) 93 [.ref 11, .int (nI s), .int (nI t)] (S sl p I J) = some (some (.int (nI (hgO D s t))), S sl p I' J) ∧ ∀ a k, a ≠ 15 → a ≠ 19 → I' a k = I a k := by
  have n60 := h.gd.n60
  obtain ⟨I1, e1, g1, g2, g3⟩ := for_ex (M := Nat → Nat → Int32) (fun k x => ev (d + 2) 93 2 [.ref 11, .int (nI s), .int (nI t), .int k, .retAddr 0, .retAddr 0] [] (S sl p x J)) (nc D) (fun k x => (∀ j, j < k → x 19 j = nI (nb D s j)) ∧ (∀ j, j < k → x 15 j = -1) ∧ ∀ a k, a ≠ 15 → a ≠ 19 → x a k = I a k)
    (by
      rintro k x hk ⟨g1, g2, g3⟩
      have s2 : SV p x J D := h.fr (fun a k _ => g3 _ _ (by omega) (by omega)) (g3 _ _ (by omega) (by omega)) (g3 _ _ (by omega) (by omega)) (fun a k _ _ => g3 _ _ (by omega) (by omega)) (fun _ _ _ _ => rfl) (fun _ _ _ _ => rfl)
      rw [E93_2, s2.count, if_pos (lt_n hk (by omega)), sp_angC s2 hs hk, evK_s, E93_27, ck_if (ixb_n (by omega) (by decide)), ck_if (ixb_n (by omega) (by decide)), cl_n (by omega), nI_1]
      refine ⟨_, rfl, fun j hj => ?_, fun j hj => ?_, fun a j w1 w2 => by rw [up_na w1, up_na w2]; exact g3 a j w1 w2⟩
      · by_cases c : j = k
        · rw [c, up_na (by omega), up_s]
        · rw [up_na (by omega), up_nk c]; exact g1 j (by omega)
      · by_cases c : j = k
        · rw [c, up_s]
        · rw [up_nk c, up_na (by omega)]; exact g2 j (by omega))
    I ⟨fun _ w => absurd w (Nat.not_lt_zero _), fun _ w => absurd w (Nat.not_lt_zero _), fun _ _ _ _ => rfl⟩
  have F : ∀ a k, a ≠ 15 → a ≠ 19 → up2 I1 19 s 0 a k = I a k := fun a k w1 w2 => by rw [up_na w2]; exact g3 a k w1 w2
  have gL : ∀ j, j < nc D → up2 I1 19 s 0 19 j = nI (nb D s j) := fun j hj => by
    by_cases c : j = s
    · rw [c, up_s, nb_self]; rfl
    · rw [up_nk c]; exact g1 j hj
  have gV : ∀ j, j < nc D → up2 I1 19 s 0 15 j = if (fun _ => false : Nat → Bool) j = true then 0 else -1 := fun j hj => by rw [up_na (by omega), g2 j hj]; rfl
  have c1 : I1 4 8 = nI (nc D) := by rw [g3 _ _ (by omega) (by omega)]; exact h.count
  rw [E93_0, e1, E93_2, c1, if_neg (nlt_n (by omega)), ck_if (ixb_n (by omega) (by decide)), cl_n (by omega)]
  generalize up2 I1 19 s 0 = I2 at F gL gV
  have s2 : SV p I2 J D := h.fr (fun a k _ => F _ _ (by omega) (by omega)) (F _ _ (by omega) (by omega)) (F _ _ (by omega) (by omega)) (fun a k _ _ => F _ _ (by omega) (by omega)) (fun _ _ _ _ => rfl) (fun _ _ _ _ => rfl)
  have hP : PR D s (fun j => nb D s j) (fun _ => false) := ⟨fun j hj => nb_90 h.gd hs hj, fun j hj => Con.one hs hj (nI_m1 (by omega)) (nI_m1 (by omega)) (Nat.le_refl _), fun _ _ w => (by cases w), fun _ _ _ _ w => (by cases w), nb_self⟩
  obtain ⟨I3, b1, b2⟩ := C_prim (d := d) (sl := sl) (fun a ha => C_lab h ha) hs ht (nc D) 0 (fun j => nb D s j) (fun _ => false) I2 (by omega) (cnt_0 _ (fun _ _ w => by cases w)) hP s2 gL gV
  exact ⟨I3, b1, fun a k w1 w2 => (b2 a k w1 w2).trans (F a k w1 w2)⟩
theorem A_hangs (hD : GD D) (x y : Int32) : Agr (d + 40) sl p D e 134 250 [.int x, .int y] := by
  have n60 := hD.n60
  by_cases hx : ∃ i, i < nc D ∧ x = nI i
  · by_cases hy : ∃ i, i < nc D ∧ y = nI i
    · obtain ⟨s, hs, rfl⟩ := hx
      obtain ⟨t, ht, rfl⟩ := hy
      have hle : hgO D s t ≤ 90 := fsq_le _ _
      refine ⟨.int (nI (hgO D s t)), 0, fun I J h => ?_, fun I J h => ?_⟩
      · obtain ⟨I1, a1, a2⟩ := C_leastLink (d := d + 37) (sl := sl) h.sv hs ht
        refine QC.mk1 (I' := I1) (J' := J) ?_ (h.scr (fun a k _ _ w3 w4 => a2 _ _ (by omega) (by omega)) (fun _ _ _ => rfl) (fun _ _ _ _ => rfl)) ⟨fun a k _ _ => a2 _ _ (by omega) (by omega), fun _ _ _ _ => rfl⟩
        rw [E134_0, C_hasCrack h.sv, cr_y hD hs, evK_s, E134_8, if_neg (by decide), C_hasCrack h.sv, cr_y hD ht, evK_s, E134_19, if_neg (by decide), a1, evK_s, E134_38, E163_0, evK_s, E134_41]
      · by_cases q : s = t
        · subst q
          have h0 : hgO D s s = 0 := fsq_eq (by omega) (decide_eq_true rfl) (fun j w => absurd w (Nat.not_lt_zero _))
          refine QM.mk1 (I' := I) (J' := J) ?_ rfl Fm.refl
          rw [E250_0, M_isCrack hD h, cr_y hD hs, evK_s, E250_5, if_neg (by decide), M_isCrack hD h, cr_y hD hs, evK_s, E250_13, if_neg (by decide), if_pos rfl, E179_0, evK_s, E250_32, h0]
          rfl
        · have start : ∀ {I : Nat → Nat → Int32}, dat I = D → ∃ I', den (d + 39) 208 [.ref 46, .int 0, .int (-1)] (S sl p I J) = some (none, S sl p I' J) ∧ dat I' = D ∧ GrpAt I' D 0 (-1) ∧ Fm I J I' J := fun hd => by
            obtain ⟨I', e1, e2, e3, e4, -⟩ := M_groups (d := d + 33) (sl := sl) (p := p) (J := J) hD hd (an := 0) (bt := -1) (by omega)
            exact ⟨I', e1, e2, e3, e4⟩
          obtain ⟨I1, a1, a2, a3, a4⟩ := start h
          obtain ⟨I2, b1, b2, b3, b4⟩ := for_ex (M := Nat → Nat → Int32) (fun k x => ev (d + 40) 250 41 [.ref 46, .int (nI s), .int (nI t), .int k] [] (S sl p x J)) (hgO D s t) (fun k x => dat x = D ∧ GrpAt x D k (-1) ∧ Fm I J x J)
            (by
              rintro k x hk ⟨g1, g2, g3⟩
              have hn : ¬ lb D k (-1) s = lb D k (-1) t := of_decide_eq_false (fsq_no (fun a => decide (lb D a (-1) s = lb D a (-1) t)) 90 k hk)
              obtain ⟨x', e1, e2, e3, e4, -⟩ := M_groups (d := d + 33) (sl := sl) (p := p) (J := J) hD g1 (an := k + 1) (bt := -1) (by omega)
              refine ⟨x', ?_, e2, e3, g3.trans e4⟩
              rw [E250_41, ck_if (ixb_n (by omega) (by decide)), ck_if (ixb_n (by omega) (by decide)), cl_n (by omega), cl_n (by omega), g2.e60 s hs, g2.e60 t ht, if_neg hn, nI_1, e1, evK_v, E250_65])
            I1 ⟨a2, a3, a4⟩
          have hy : lb D (hgO D s t) (-1) s = lb D (hgO D s t) (-1) t := by
            rcases Nat.lt_or_ge (hgO D s t) 90 with w | w
            · exact of_decide_eq_true (fsq_yes (fun a => decide (lb D a (-1) s = lb D a (-1) t)) 90 w)
            · have h90 : hgO D s t = 90 := by omega
              rw [h90] at b3 ⊢
              exact (lab_con (by omega) b3.lab hs ht).mpr (Con.one hs ht (nI_m1 (by omega)) (nI_m1 (by omega)) (nb_90 hD hs ht))
          refine QM.mk1 (I' := I2) (J' := J) ?_ (b2.trans h.symm) b4
          rw [E250_0, M_isCrack hD h, cr_y hD hs, evK_s, E250_5, if_neg (by decide), M_isCrack hD h, cr_y hD ht, evK_s, E250_13, if_neg (by decide), if_neg (fun w => q (nI_ij (by omega) (by omega) w)), a1, evK_v, b1, E250_41, ck_if (ixb_n (by omega) (by decide)), ck_if (ixb_n (by omega) (by decide)), cl_n (by omega), cl_n (by omega), b3.e60 s hs, b3.e60 t ht, if_pos hy, E179_0, evK_s, E250_73]
    · obtain ⟨i, hi, rfl⟩ := hx
      refine ⟨.int (-1), 2, fun I J h => QC.mk1 (I' := I) (J' := J) ?_ h Fc.refl, fun I J h => QM.mk1 (I' := I) (J' := J) ?_ rfl Fm.refl⟩
      · simp only [E134_0, E134_8, E134_19, E134_22, E134_27, E134_38, E134_41, C_hasCrack h.sv, cr_y hD hi, cr_n hD hy, evK_s, evK_v, E163_0, E164_0, E178_0, E179_0, E180_0, sp_within, sp_isFrom, n10, eq_self, if_true, if_false]
      · simp only [E250_0, E250_5, E250_13, E250_16, E250_21, E250_32, E250_65, E250_73, M_isCrack hD h, cr_y hD hi, cr_n hD hy, evK_s, evK_v, E163_0, E164_0, E178_0, E179_0, E180_0, sp_within, sp_isFrom, n10, eq_self, if_true, if_false]
  · refine ⟨.int (-1), 2, fun I J h => QC.mk1 (I' := I) (J' := J) ?_ h Fc.refl, fun I J h => QM.mk1 (I' := I) (J' := J) ?_ rfl Fm.refl⟩
    · simp only [E134_0, E134_8, E134_19, E134_22, E134_27, E134_38, E134_41, C_hasCrack h.sv, cr_n hD hx, evK_s, evK_v, E163_0, E164_0, E178_0, E179_0, E180_0, sp_within, sp_isFrom, n10, eq_self, if_true, if_false]
    · simp only [E250_0, E250_5, E250_13, E250_16, E250_21, E250_32, E250_65, E250_73, M_isCrack hD h, cr_n hD hx, evK_s, evK_v, E163_0, E164_0, E178_0, E179_0, E180_0, sp_within, sp_isFrom, n10, eq_self, if_true, if_false]
end HANG
