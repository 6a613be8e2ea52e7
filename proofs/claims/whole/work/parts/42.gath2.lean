section GATH
variable {d sl : Nat} {p : Nat → Nat} {I : Nat → Nat → Int32} {J : Nat → Nat → Int64}
/-- a mean, with what stands if it is nothing -/
def meV (m : V3 × Int64) (v : V3) : V3 := if m.2 = 0 ∨ ((mnv m).1 = 0 ∧ (mnv m).2.1 = 0 ∧ (mnv m).2.2 = 0) then tup v else tup (mnv m)
theorem sp_meanInto {g b a : Nat} (hg : ob g 3) (hb : ob b 0) (ha : ob a 0) (hr : RF p g 0 = some b) : den (d + 2) 20 [.ref g, .ref a] (S sl p I J) = some (none, S sl p I (setV J a (meV (vec J b, J g 1) (vec J a)))) := by
  rw [E20_0 hr hb hg ha, sp_parted, evK_s, E20_14 _ hr hb hg ha, sp_parted, evK_s, E20_29 _ _ hr hb hg ha, sp_parted, evK_s, E20_45 _ _ _ hg ha]
  have stay : ∀ x y z, ev (d + 2) 20 76 [.ref g, .ref a, .long x, .retAddr 0, .long y, .retAddr 0, .long z, .retAddr 0] [] (S sl p I J) = some (none, S sl p I (setV J a (tup (vec J a)))) := by
    intro x y z
    rw [E20_76 _ _ _ hg ha, sp_turnUpC ha, evK_v, E20_80 _ _ _ hg ha]
  have move : ∀ x y z, ev (d + 2) 20 67 [.ref g, .ref a, .long x, .retAddr 0, .long y, .retAddr 0, .long z, .retAddr 0] [] (S sl p I J) = some (none, S sl p I (setV J a (tup (x, y, z)))) := by
    intro x y z
    rw [E20_67 _ _ _ hg ha, sp_put ha, evK_v, E20_76 _ _ _ hg ha, sp_turnUpC ha, evK_v, E20_80 _ _ _ hg ha, vec_setV, setV_2]
  unfold meV
  by_cases c0 : J g 1 = 0
  · have hp : ∀ x, pt x (J g 1) = 0 := fun x => if_pos c0
    rw [hp, hp, hp, if_pos rfl, if_pos rfl, if_pos rfl, stay, if_pos (Or.inl c0)]
  · have hp : ∀ x, pt x (J g 1) = x / J g 1 := fun x => if_neg c0
    rw [hp, hp, hp]
    by_cases q1 : J b 0 / J g 1 = 0
    · rw [if_pos q1]
      by_cases q2 : J b 1 / J g 1 = 0
      · rw [if_pos q2]
        by_cases q3 : J b 2 / J g 1 = 0
        · rw [if_pos q3, stay, if_pos (Or.inr ⟨q1, q2, q3⟩)]
        · rw [if_neg q3, move, if_neg (by rintro (h | ⟨-, -, h⟩); exact c0 h; exact q3 h)]
          rfl
      · rw [if_neg q2, move, if_neg (by rintro (h | ⟨-, h, -⟩); exact c0 h; exact q2 h)]
        rfl
    · rw [if_neg q1, move, if_neg (by rintro (h | ⟨h, -, -⟩); exact c0 h; exact q1 h)]
      rfl
theorem sp_longOf {m : V3 × Int64} (hq : okQ m.1) : den (d + 2) 227 [.ref 46] (S sl p I (setS J m)) = some (some (.long (lgO m)), S sl p I (setS J m)) := by
  obtain ⟨s1, s2, s3, s4⟩ := setS_r (J := J) (m := m)
  rw [E227_0, s1, s2, s3, sp_square, evK_s, E227_15, show vq (m.1.1, m.1.2.1, m.1.2.2) = vq m.1 from rfl, sp_rootM hq.1, evK_s, E227_18]
  rfl
theorem sp_tightM {m : V3 × Int64} (hq : okQ m.1) : den (d + 3) 228 [.ref 46] (S sl p I (setS J m)) = some (some (.int (tgO m)), S sl p I (setS J m)) := by
  obtain ⟨s1, s2, s3, s4⟩ := setS_r (J := J) (m := m)
  rw [E228_0, sp_longOf hq, evK_s, E228_4, s4]
  unfold tgO
  by_cases q : m.2 ≤ lgO m
  · rw [if_pos q, if_pos q]
  · rw [if_neg q, if_neg q, ck_if]
    rw [decide_eq_false]
    · rfl
    · intro w
      have h1 : m.2 = lgO m := by
        have h2 := congrArg (fun x => x + lgO m) w
        simpa using h2
      exact q (by rw [h1]; exact Int64.le_refl _)
/-- the mean of the class is the model's -/
theorem meO_meV (D : Nat → Nat → Int32) (s : Nat) : meO D s = meV (smO D s) (pv D (sd D (nI s))) := rfl
theorem sp_copyC {a b : Nat} (ha : ob a 0) (hb : ob b 0) : den (d + 1) 2 [.ref a, .ref b] (S sl p I J) = some (none, S sl p I (setV J a (vec J b))) := by
  rw [E2_0 ha hb, sp_put ha, evK_v, E2_16 ha hb]
  rfl
end GATH
