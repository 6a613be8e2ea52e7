section REF
variable {d sl : Nat} {p : Nat → Nat} {I : Nat → Nat → Int32} {J : Nat → Nat → Int64} {D : Nat → Nat → Int32}
theorem sp_countSets (h : SV p I J D) {an : Nat} {bt : Int32} (han : an ≤ 90) : ∃ l z q, den (d + 3) 91 [.ref 11, .int (nI an), .int bt] (S sl p I J) = some (some (.int (nI (nbig D an bt))), S sl p (row (row (row I 15 l) 16 z) 18 q) J) := by
  have n60 := h.gd.n60
  have s20 := h.gd.s20
  obtain ⟨l, z, q, e, g1, g2, g3⟩ := sp_heapUp (d := d) (sl := sl) (bt := bt) h han
  have hgn : gr D an bt ≤ nc D := g1.1
  refine ⟨l, z, q, ?_⟩
  rw [E91_0, e, evK_s, E91_6, for_cnt (fun c x => ev (d + 3) 91 13 [.ref 11, .int (nI an), .int bt, .int (nI (gr D an bt)), .int x, .int c] [] (S sl p (row (row (row I 15 l) 16 z) 18 q) J)) (fun c => decide (lst D ≤ gz D an bt c)) (gr D an bt)
    (by
      intro c x hc
      have hz := gz_le D an bt c
      rw [E91_13, if_pos (lt_n hc (by omega)), ck_if (ixb_n (by omega) (by decide)), cl_n (by omega), row_n (by omega), row_s, g3 c hc, row_n (by omega), row_n (by omega), row_n (by omega), h.least, nI_1]
      by_cases q : gz D an bt c < lst D
      · rw [if_pos ((nI_lt_iff (by omega) (by omega)).mpr q), if_neg (by simp; omega)]
      · rw [if_neg (fun w => q ((nI_lt_iff (by omega) (by omega)).mp w)), if_pos (by simp; omega)]), E91_13, if_neg (nlt_n (by omega))]
  rfl
end REF
