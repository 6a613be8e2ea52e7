/-! LOOPS and small tools -/
def itr {α : Type} (g : Nat → α → α) : Nat → α → α
  | 0, a => a
  | n + 1, a => g n (itr g n a)
theorem itr_s {α : Type} (g : Nat → α → α) (n : Nat) (a : α) : itr g (n + 1) a = g n (itr g n a) := rfl
theorem itr_c {α : Type} {g h : Nat → α → α} : ∀ {n : Nat} {a : α}, (∀ i b, i < n → g i b = h i b) → itr g n a = itr h n a
  | 0, _, _ => rfl
  | n + 1, a, H => by rw [itr_s, itr_s, itr_c (fun i b hi => H i b (Nat.lt_succ_of_lt hi)), H n _ (Nat.lt_succ_self n)]
theorem itr_P {α : Type} {g : Nat → α → α} {P : Nat → α → Prop} : ∀ {n : Nat} {a : α}, P 0 a → (∀ i b, i < n → P i b → P (i + 1) (g i b)) → P n (itr g n a)
  | 0, _, h0, _ => h0
  | n + 1, _, h0, H => H n _ (Nat.lt_succ_self n) (itr_P h0 fun i b hi => H i b (Nat.lt_succ_of_lt hi))
/-- two loops side by side -/
theorem itr_2 {α β : Type} {g : Nat → α → α} {h : Nat → β → β} {P : Nat → α → β → Prop} : ∀ {n : Nat} {a : α} {b : β}, P 0 a b → (∀ i x y, i < n → P i x y → P (i + 1) (g i x) (h i y)) → P n (itr g n a) (itr h n b)
  | 0, _, _, h0, _ => h0
  | n + 1, _, _, h0, H => H n _ _ (Nat.lt_succ_self n) (itr_2 h0 fun i x y hi => H i x y (Nat.lt_succ_of_lt hi))
/-- for (i = 0; i < n; i++), with what holds at each turn -/
theorem for_up {α β : Type} (F : Int32 → α → Option β) (K : α → Option β) (g : Nat → α → α) (n : Nat) (P : Nat → α → Prop) (hs : ∀ i a, i < n → P i a → F (nI i) a = F (nI (i + 1)) (g i a) ∧ P (i + 1) (g i a)) (hx : ∀ a, P n a → F (nI n) a = K a) (a : α) (h0 : P 0 a) : F 0 a = K (itr g n a) ∧ P n (itr g n a) := by
  have key : ∀ i, i ≤ n → F 0 a = F (nI i) (itr g i a) ∧ P i (itr g i a) := by
    intro i
    induction i with
    | zero => intro _; exact ⟨by rw [nI_0]; rfl, h0⟩
    | succ i ih =>
      intro hi
      obtain ⟨e, h⟩ := ih (by omega)
      obtain ⟨e2, h2⟩ := hs i _ (by omega) h
      exact ⟨e.trans e2, h2⟩
  obtain ⟨e, h⟩ := key n (Nat.le_refl n)
  exact ⟨e.trans (hx _ h), h⟩
theorem for_0 {α β : Type} (F : Int32 → α → Option β) (K : α → Option β) (g : Nat → α → α) (n : Nat) (hs : ∀ i a, i < n → F (nI i) a = F (nI (i + 1)) (g i a)) (hx : ∀ a, F (nI n) a = K a) (a : α) : F 0 a = K (itr g n a) :=
  (for_up F K g n (fun _ _ => True) (fun i a hi _ => ⟨hs i a hi, trivial⟩) (fun a _ => hx a) a trivial).1
/-- from k on -/
theorem for_k {α β : Type} (F : Int32 → α → Option β) (K : α → Option β) (g : Nat → α → α) (k n : Nat) (P : Nat → α → Prop) (hs : ∀ i a, i < n → P i a → F (nI (k + i)) a = F (nI (k + (i + 1))) (g i a) ∧ P (i + 1) (g i a)) (hx : ∀ a, P n a → F (nI (k + n)) a = K a) (a : α) (h0 : P 0 a) : F (nI k) a = K (itr g n a) ∧ P n (itr g n a) := by
  have key : ∀ i, i ≤ n → F (nI k) a = F (nI (k + i)) (itr g i a) ∧ P i (itr g i a) := by
    intro i
    induction i with
    | zero => intro _; exact ⟨rfl, h0⟩
    | succ i ih =>
      intro hi
      obtain ⟨e, h⟩ := ih (by omega)
      obtain ⟨e2, h2⟩ := hs i _ (by omega) h
      exact ⟨e.trans e2, h2⟩
  obtain ⟨e, h⟩ := key n (Nat.le_refl n)
  exact ⟨e.trans (hx _ h), h⟩
theorem ixb_n {n i : Nat} (h : i < n) (hn : n < 2 ^ 31) : ixb n (nI i) = true := decide_eq_true (nI_in h hn)
theorem ixb_0 {n : Nat} (h : 0 < n) (hn : n < 2 ^ 31) : ixb n 0 = true := by rw [← nI_0]; exact ixb_n h hn
theorem lt_n {i n : Nat} (h : i < n) (hn : n < 2 ^ 31) : nI i < nI n := nI_lt h hn
theorem nlt_n {n : Nat} (hn : n < 2 ^ 31) : ¬ nI n < nI n := nI_nlt (Nat.le_refl n) hn
theorem cl_n {i : Nat} (h : i < 2 ^ 31) : (nI i).toNatClampNeg = i := nI_clamp h
theorem ck_if {b : Bool} {o : Option (Option Value × Mm)} (h : b = true) : ck b o = o := by rw [h]; rfl
theorem up_a {α : Type} {f : Nat → Nat → α} {a k : Nat} {v : α} {a' k' : Nat} : up2 f a k v a' k' = if a' = a ∧ k' = k then v else f a' k' := rfl
theorem up_s {α : Type} {f : Nat → Nat → α} {a k : Nat} {v : α} : up2 f a k v a k = v := by rw [up_a, if_pos ⟨rfl, rfl⟩]
theorem up_n {α : Type} {f : Nat → Nat → α} {a k : Nat} {v : α} {a' k' : Nat} (h : ¬ (a' = a ∧ k' = k)) : up2 f a k v a' k' = f a' k' := by rw [up_a, if_neg h]
theorem up_na {α : Type} {f : Nat → Nat → α} {a k : Nat} {v : α} {a' k' : Nat} (h : a' ≠ a) : up2 f a k v a' k' = f a' k' := up_n (fun q => h q.1)
theorem up_nk {α : Type} {f : Nat → Nat → α} {a k : Nat} {v : α} {k' : Nat} (h : k' ≠ k) : up2 f a k v a k' = f a k' := up_n (fun q => h q.2)
theorem ite_f {α β : Type} {c : Prop} [Decidable c] (f : α → β) (a b : α) : (if c then f a else f b) = f (if c then a else b) := by split <;> rfl
theorem ex_nI {x : Int32} {n : Nat} (h0 : ¬ x < 0) (hn : x < nI n) (hb : n < 2 ^ 31) : ∃ i, i < n ∧ x = nI i := by
  obtain ⟨j, hj, rfl⟩ := nI_of h0
  exact ⟨j, (nI_ltI hj hb).mp hn, rfl⟩
theorem ex_nIle {x : Int32} {n : Nat} (h0 : ¬ x < 0) (hn : x ≤ nI n) (hb : n < 2 ^ 31) : ∃ i, i ≤ n ∧ x = nI i := by
  obtain ⟨j, hj, rfl⟩ := nI_of h0
  exact ⟨j, (nI_leI hj hb).mp hn, rfl⟩
theorem lit (n : Nat) : (OfNat.ofNat n : Int32) = nI n := rfl
theorem tI {n : Nat} (h : n < 2 ^ 31) : (nI n).toInt = n := nI_toInt h
