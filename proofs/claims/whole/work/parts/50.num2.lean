section REF
variable {d sl : Nat} {p : Nat → Nat} {I I' : Nat → Nat → Int32} {J J' : Nat → Nat → Int64} {D : Nat → Nat → Int32}
theorem sp_numberHeap (h : SV p I J D) (hH : HpAt I D) (h17 : ∀ c, c < gr D (lk D) (-1) → I 17 c = gll D (lk D) (-1) c) {c : Nat} (hc : c < gr D (lk D) (-1)) (hb : lst D ≤ gz D (lk D) (-1) c) : ∃ I', den (d + 1) 99 [.ref 11, .int (nI c), .int (nI (gr D (lk D) (-1)))] (S sl p I J) = some (none, S sl p I' J) ∧ (∀ a k, a ≠ 12 → ¬ (a = 400 + rk D c ∧ 3 ≤ k ∧ k < 6) → I' a k = I a k) ∧ (∀ j, j < nc D → I' 12 j = if lb D (lk D) (-1) j = nI c then nI (rk D c) else I 12 j) ∧ I' (400 + rk D c) 3 = nI (gz D (lk D) (-1) c) ∧ I' (400 + rk D c) 4 = gll D (lk D) (-1) c ∧ I' (400 + rk D c) 5 = 0 := by
  have n60 := h.gd.n60
  have hgn : gr D (lk D) (-1) ≤ nc D := hH.lab.1
  have h30 := nst_30 h.gd hH.lab
  have hrk : rk D c < nst D := (set_rank h.gd hH.lab).1 c hc (decide_eq_true hb)
  obtain ⟨y, e, hy⟩ := for_ex (M := Nat → Int32) (fun k x => ev (d + 1) 99 83 [.ref 11, .int (nI c), .int (nI (gr D (lk D) (-1))), .int (nI (rk D c)), .int k, .retAddr 0] [] (S sl p (row I 12 x) J)) (nc D) (fun k x => ∀ j, x j = if j < k ∧ lb D (lk D) (-1) j = nI c then nI (rk D c) else I 12 j)
    (by
      intro k x hk hx
      rw [E99_83, row_n (by omega), h.count, if_pos (lt_n hk (by omega)), ck_if (ixb_n (by omega) (by decide)), cl_n (by omega), row_n (by omega), hH.e15 k hk, nI_1]
      by_cases q : lb D (lk D) (-1) k = nI c
      · rw [if_pos q, ck_if (ixb_n (by omega) (by decide)), row_up]
        refine ⟨_, rfl, fun j => ?_⟩
        by_cases e : j = k
        · rw [e, up1_s, if_pos ⟨by omega, q⟩]
        · rw [up1_n e, hx j]
          by_cases w : j < k ∧ lb D (lk D) (-1) j = nI c
          · rw [if_pos w, if_pos ⟨by omega, w.2⟩]
          · rw [if_neg w, if_neg (fun z => w ⟨by omega, z.2⟩)]
      · rw [if_neg q]
        refine ⟨x, rfl, fun j => ?_⟩
        rw [hx j]
        by_cases w : j < k ∧ lb D (lk D) (-1) j = nI c
        · rw [if_pos w, if_pos ⟨by omega, w.2⟩]
        · rw [if_neg w, if_neg (fun z => w ⟨by
            rcases Nat.lt_or_ge j k with y | y
            · exact y
            · exact absurd ((show j = k by omega) ▸ z.2) q, z.2⟩)])
    (I 12) (fun j => by rw [if_neg (by omega)])
  rw [row_id] at e
  refine ⟨up2 (up2 (up2 (row I 12 y) (400 + rk D c) 3 (nI (gz D (lk D) (-1) c))) (400 + rk D c) 4 (gll D (lk D) (-1) c)) (400 + rk D c) 5 0, ?_, ?_, ?_, ?_, ?_, up_s⟩
  · rw [E99_0, number_1 h hH h17 hc hb, e, E99_83, row_n (by omega), h.count, if_neg (nlt_n (by omega)), ck_if (ixb_n (by omega) (by decide)), ck_if (ixb_n (by omega) (by decide)), ck_if (ixb_n (by omega) (by decide)), cl_n (by omega), cl_n (by omega), row_n (by omega), row_n (by omega), hH.e16 c hc, h17 c hc, E13_0 _ _ (by omega), evK_v, E99_141]
  · intro a k h1 h2
    rw [up_n (by omega), up_n (by omega), up_n (by omega), row_n h1]
  · intro j hj
    rw [up_na (by omega), up_na (by omega), up_na (by omega), row_s, hy j]
    by_cases w : lb D (lk D) (-1) j = nI c
    · rw [if_pos ⟨hj, w⟩, if_pos w]
    · rw [if_neg (fun z => w z.2), if_neg w]
  · rw [up_n (by omega), up_n (by omega), up_s]
  · rw [up_n (by omega), up_s]
end REF
