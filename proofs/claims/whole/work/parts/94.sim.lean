/-! told data that differ only in what the groups don't see -/
def Sim (D : Nat → Nat → Int32) (F : Nat → Nat → Int32) : Prop := (∀ k, 2 ≤ k → k < 6 → F 46 k = D 46 k) ∧ (∀ a k, 50 ≤ a → a < 57 → F a k = D a k) ∧ (∀ i, i < nc D → wt F i = wt D i)
theorem Sim.c6 {D : Nat → Nat → Int32} {F : Nat → Nat → Int32} (h : Sim D F) : ∀ k, 2 ≤ k → k < 6 → F 46 k = D 46 k := h.1
theorem Sim.cr {D : Nat → Nat → Int32} {F : Nat → Nat → Int32} (h : Sim D F) : ∀ a k, 50 ≤ a → a < 57 → F a k = D a k := h.2.1
theorem Sim.cw {D : Nat → Nat → Int32} {F : Nat → Nat → Int32} (h : Sim D F) : ∀ i, i < nc D → wt F i = wt D i := h.2.2
section SIM
variable {D D' : Nat → Nat → Int32} {P : Nat → Bool} {v : V3}
theorem Sim.t_nc (h : Sim D D') : nc D' = nc D := by unfold nc; rw [h.c6 _ (by omega) (by omega)]
theorem Sim.t_lk (h : Sim D D') : lk D' = lk D := by unfold lk; rw [h.c6 _ (by omega) (by omega)]
theorem Sim.t_lst (h : Sim D D') : lst D' = lst D := by unfold lst; rw [h.c6 _ (by omega) (by omega)]
theorem Sim.t_cp (h : Sim D D') : cp D' = cp D := by unfold cp; rw [h.c6 _ (by omega) (by omega)]
theorem Sim.t_pv (h : Sim D D') : pv D' = pv D := by funext i; unfold pv; rw [h.cr _ _ (by omega) (by omega), h.cr _ _ (by omega) (by omega), h.cr _ _ (by omega) (by omega)]
theorem Sim.t_lv (h : Sim D D') : lv D' = lv D := by funext i; unfold lv; rw [h.cr _ _ (by omega) (by omega), h.cr _ _ (by omega) (by omega)]
theorem Sim.t_nb (h : Sim D D') : nb D' = nb D := by funext i j; unfold nb; rw [h.t_pv]
theorem Sim.t_nearA (h : Sim D D') : nearA D' = nearA D := by funext a; unfold nearA; rw [h.t_nb]
theorem Sim.t_lb (h : Sim D D') : lb D' = lb D := by funext a b; unfold lb; rw [h.t_nc, h.t_nearA]
theorem Sim.t_gr (h : Sim D D') : gr D' = gr D := by funext a b; unfold gr; rw [h.t_nc, h.t_nearA]
theorem Sim.t_gz (h : Sim D D') : gz D' = gz D := by funext a b c; unfold gz; rw [h.t_nc, h.t_lb]
theorem Sim.t_gll (h : Sim D D') : gll D' = gll D := by funext a b c; unfold gll; rw [h.t_nc, h.t_lb, h.t_lv]
theorem Sim.t_nbig (h : Sim D D') : nbig D' = nbig D := by funext a b; unfold nbig; rw [h.t_lst, h.t_gz, h.t_gr]
theorem Sim.t_bef (h : Sim D D') : bef D' = bef D := by funext a b; unfold bef; rw [h.t_lst, h.t_gz, h.t_gll, h.t_lk]
theorem Sim.t_sno (h : Sim D D') : sno D' = sno D := by funext a; unfold sno; rw [h.t_lst, h.t_gz, h.t_gr, h.t_lk, h.t_bef]
theorem Sim.t_stn (h : Sim D D') : stn D' = stn D := by funext a; unfold stn; rw [h.t_sno, h.t_lb, h.t_lk]
theorem Sim.t_nst (h : Sim D D') : nst D' = nst D := by unfold nst; rw [h.t_nbig, h.t_lk]
theorem Sim.t_lab (h : Sim D D') (l : LabD D) : LabD D' := by unfold LabD at *; rw [h.t_nc, h.t_nearA, h.t_lk, h.t_lb, h.t_gr]; exact l
theorem Sim.t_mem (h : Sim D D') : mem D' = mem D := by funext a; unfold mem; rw [h.t_nc, h.t_stn]
theorem Sim.t_nin (h : Sim D D') : nin D' = nin D := by funext a b; unfold nin; rw [h.t_nc, h.t_stn, h.t_nb, h.t_lk]
theorem Sim.t_sdN (h : Sim D D') (s : Int32) : ∀ n, sdN D' s n = sdN D s n
  | 0 => rfl
  | n + 1 => by
    have ih := h.t_sdN s n
    unfold sdN
    rw [h.t_stn, h.t_nin, h.t_lv, ih]
theorem Sim.t_sd (h : Sim D D') : sd D' = sd D := by funext a; unfold sd; rw [h.t_nc, h.t_sdN]
theorem Sim.t_llS (h : Sim D D') : llS D' = llS D := by funext a; unfold llS; rw [h.t_nc, h.t_stn, h.t_lv]
theorem Sim.t_smP (h : Sim D D') : ∀ n, n ≤ nc D → smP D' P v n = smP D P v n
  | 0, _ => rfl
  | n + 1, hn => by
    have ih := h.t_smP n (by omega)
    unfold smP
    rw [h.cw n (by omega), h.t_pv, ih]
theorem Sim.t_smO (h : Sim D D') : smO D' = smO D := by funext s; unfold smO; rw [h.t_nc, h.t_stn, h.t_pv, h.t_sd]; exact h.t_smP _ (Nat.le_refl _)
theorem Sim.t_meO (h : Sim D D') : meO D' = meO D := by funext s; unfold meO; rw [h.t_smO, h.t_pv, h.t_sd]
theorem Sim.t_wtN (h : Sim D D') {k : Nat} (hk : k < nc D) : wtN D' k = wtN D k := congrArg (fun x : Int32 => x.toInt.toNat) (h.cw k hk)
theorem haN_e (F : Nat → Nat → Int32) {P : Nat → Bool} (n : Nat) (h : ∀ k, k < n → wtN F k = wtN D k) : haN F P n = haN D P n := by
  have z : ∀ G : Nat → Nat → Int32, haN G P 0 = 0 := fun _ => rfl
  induction n with
  | zero => rw [z, z]
  | succ n ih => rw [haN_s, haN_s, ih (fun k hk => h k (Nat.lt_succ_of_lt hk)), h n (Nat.lt_succ_self n)]
theorem Sim.t_haN (h : Sim D D') (n : Nat) (hn : n ≤ nc D) : haN D' P n = haN D P n := haN_e D' n (fun k hk => h.t_wtN (Nat.lt_of_lt_of_le hk hn))
theorem Sim.t_maO (h : Sim D D') : maO D' = maO D := by
  funext s
  unfold maO
  rw [h.t_nc, show meB D' s = meB D s from by funext k; unfold meB; rw [h.t_stn]]
  exact h.t_haN _ (Nat.le_refl _)
theorem Sim.t_an2 (h : Sim D D') : an2 D' = an2 D := by funext s k; unfold an2; rw [h.t_pv, h.t_meO]
theorem Sim.t_coO (h : Sim D D') : coO D' = coO D := by
  funext s
  unfold coO
  rw [h.t_nc, show coF D' s = coF D s from by funext k; unfold coF; rw [h.t_stn, h.t_an2]]
theorem Sim.t_haO (h : Sim D D') : haO D' = haO D := by funext s a; unfold haO; rw [h.t_nc, h.t_stn, h.t_an2]; exact h.t_haN _ (Nat.le_refl _)
theorem Sim.t_hfO (h : Sim D D') : hfO D' = hfO D := by
  funext s
  unfold hfO
  rw [show hfB D' s = hfB D s from by funext a; unfold hfB; rw [h.t_maO, h.t_haO]]
theorem Sim.t_thN (h : Sim D D') : thN D' = thN D := by funext w a; unfold thN; rw [h.t_nc, h.t_pv]; exact h.t_haN _ (Nat.le_refl _)
theorem Sim.t_maA (h : Sim D D') : maA D' = maA D := by unfold maA; rw [h.t_nc]; exact h.t_haN _ (Nat.le_refl _)
theorem Sim.t_plO (h : Sim D D') : plO D' = plO D := by funext r n M j; unfold plO; rw [h.t_pv]
theorem Sim.t_rdO (h : Sim D D') : rdO D' = rdO D := by
  funext r x
  unfold rdO
  rw [h.t_plO, h.t_nst, h.t_nc]
  congr 1
  funext s
  rw [h.t_smP _ (Nat.le_refl _)]
theorem Sim.t_chO (h : Sim D D') : chO D' = chO D := by funext r x n; unfold chO; rw [h.t_plO, h.t_nst]
theorem Sim.t_stR (h : Sim D D') (r : Nat) : ∀ f n x, stR D' r f n x = stR D r f n x
  | 0, _, _ => rfl
  | f + 1, n, x => by
    have ih := h.t_stR r f
    unfold stR
    rw [h.t_chO, h.t_rdO, h.t_nc, ih]
theorem Sim.t_seO (h : Sim D D') : seO D' = seO D := by funext r; unfold seO; rw [h.t_stR, h.t_stn, h.t_meO]
theorem Sim.t_brB (h : Sim D D') : brB D' = brB D := by
  funext c
  unfold brB
  rw [show brC D' c = brC D c from by funext k; unfold brC; rw [h.t_stn], h.t_stn, h.t_lb, h.t_lk, h.t_nc]
theorem Sim.t_wdV (h : Sim D D') : wdV D' = wdV D := by funext a b; unfold wdV; rw [h.t_meO]
theorem Sim.t_faS (h : Sim D D') (k : Nat) : ∀ n, n ≤ nc D → faS D' k n = faS D k n
  | 0, _ => rfl
  | n + 1, hn => by
    have ih := h.t_faS k n (by omega)
    unfold faS
    rw [h.cw n (by omega), h.t_pv, ih]
theorem Sim.t_fab (h : Sim D D') : fab D' = fab D := by funext k; unfold fab; rw [h.t_nc, h.t_maA, h.t_faS _ _ (Nat.le_refl _)]
theorem Sim.t_shO (h : Sim D D') : shO D' = shO D := by funext w; unfold shO; rw [h.t_fab]
theorem Sim.t_axS (h : Sim D D') : axS D' = axS D := by
  funext b d x e
  unfold axS
  rw [show axB D' b x e d = axB D b x e d from by unfold axB; rw [h.t_shO], h.t_shO]
theorem Sim.t_axR (h : Sim D D') (b : Bool) (d : Nat) (x : Int64 × Int64 × Nat × Nat) : ∀ n, axR D' b d x n = axR D b d x n
  | 0 => rfl
  | n + 1 => by
    have ih := h.t_axR b d x n
    unfold axR
    rw [h.t_axS, ih]
theorem Sim.t_axQ (h : Sim D D') (b : Bool) : ∀ n, axQ D' b n = axQ D b n
  | 0 => by unfold axQ; rw [h.t_shO]
  | n + 1 => by
    have ih := h.t_axQ b n
    unfold axQ
    rw [h.t_axR, ih]
theorem Sim.t_axO (h : Sim D D') : axO D' = axO D := by funext b; unfold axO; rw [h.t_axQ]
theorem Sim.t_wbN (h : Sim D D') (w : V3) : ∀ n, wbN D' w n = wbN D w n
  | 0 => rfl
  | n + 1 => by
    have ih := h.t_wbN w n
    unfold wbN
    rw [h.t_pv, h.c6 _ (by omega) (by omega), ih]
theorem Sim.t_nlO (h : Sim D D') : nlO D' = nlO D := by
  unfold nlO
  congr 1
  funext i j
  rw [h.t_nc, h.t_wbN]
theorem Sim.t_pkO (h : Sim D D') : pkO D' = pkO D := by funext a; unfold pkO; rw [h.t_thN]
variable {p : Nat → Nat} {I I' : Nat → Nat → Int32} {J J' : Nat → Nat → Int64} {e : Nat}
theorem Sim.t_grc (h : Sim D D') (g : GrC I J D) : GrC I J D' := by
  refine ⟨h.t_lab g.lab, by rw [h.t_nst]; exact g.sets, ?_, ?_, ?_, ?_, ?_⟩
  · rw [h.t_nc, h.t_stn]; exact g.pl
  · rw [h.t_nst, h.t_mem]; exact g.gsz
  · rw [h.t_nst, h.t_llS]; exact g.gl
  · rw [h.t_nbig]; exact g.by45
  · rw [h.t_nst]
    intro s hs w
    have m := g.ms s hs w
    exact ⟨by rw [h.t_lv, h.t_sd]; exact m.seed, by rw [h.t_meO]; exact m.dir, by rw [h.t_meO]; exact m.dip, by rw [h.t_coO]; exact m.cone, by rw [h.t_hfO]; exact m.half, by rw [h.t_meO]; exact m.mean, by rw [h.t_smO]; exact m.sum, by rw [h.t_smO]; exact m.mass⟩
/-- what is kept stays good -/
theorem CK.sim (c : CK p I J D e) (h : Sim D D') (f : ∀ a k, (11 ≤ a ∧ a < 46) ∨ 100 ≤ a → ¬ (a = 34 ∧ 5 ≤ k ∧ k < 9) → I' a k = I a k) (g : ∀ a k, a = 29 ∨ 300 ≤ a → J' a k = J a k) (ed : I' 4 10 = I 4 10) (sv : SV p I' J' D') (sl : ∀ k, k < 4 → I' 34 (5 + k) = D' 46 (6 + k)) : CK p I' J' D' e := by
  have cg := c.g.fr c.sv.gd (I' := I') (J' := J') (fun a k w => f _ _ (by omega) (by omega)) (fun a k _ _ => g _ _ (by omega))
  have cb := c.b.fr (I' := I') (fun k _ _ => f _ _ (by omega) (by omega))
  have cs := c.s.fr (I' := I') (J' := J') (fun a k w => f _ _ (by omega) (by omega)) (fun a k _ _ => g _ _ (by omega))
  have cf := c.f.fr (I' := I') (J' := J') (f _ _ (by omega) (by omega)) (fun k => g _ _ (by omega))
  have cx := c.x.fr (I' := I') (fun a k w => f _ _ (by omega) (by omega))
  have cl := c.l.fr (I' := I') (fun a k w => f _ _ (by omega) (by omega))
  have ct := c.t.fr (I' := I') (fun a k w => f _ _ (by omega) (by omega))
  have cz := c.z.fr (I' := I') (fun a k w => f _ _ (by omega) (by omega))
  refine ⟨sv, ed.trans c.ed, sl, ⟨cg.1, fun w => h.t_grc (cg.2 w)⟩, ?_, ?_, ?_, ?_, ?_, ?_, ?_⟩
  · unfold BrP; rw [h.t_brB, h.t_nc]; exact cb
  · unfold StP StC; rw [h.t_nst, h.t_seO, h.t_nc]; exact cs
  · unfold FaP; rw [h.t_fab]; exact cf
  · unfold AxP; rw [h.t_axO]; exact cx
  · unfold LiP; rw [h.t_nlO]; exact cl
  · unfold PkP; rw [h.t_pkO]; exact ct
  · unfold HzP HzC; rw [h.t_wdV, h.t_nst]; exact cz
/-- a new edition: nothing kept is good -/
theorem CK.new {p' : Nat → Nat} (c : CK p I J D e) (he : e < 1000) (sv : SV p' I' J' D') (ed : I' 4 10 = nI (e + 1)) (sl : ∀ k, k < 4 → I' 34 (5 + k) = D' 46 (6 + k)) (f : ∀ a k, (a = 11 ∧ 15 ≤ k ∧ k < 17) ∨ (a = 22 ∧ k = 8) ∨ (a = 27 ∧ 8 ≤ k ∧ k < 12) ∨ (a = 34 ∧ k = 9) → I' a k = I a k) : CK p' I' J' D' (e + 1) := by
  have go : ∀ {x : Int32} {Q : Prop}, Ol e x → Ol (e + 1) x ∧ (x = nI (e + 1) → Q) := fun h => ⟨(Ol_new he h).1, fun w => absurd w (Ol_new he h).2⟩
  refine ⟨sv, ed, sl, ?_, ?_, ?_, ?_, ?_, ?_, ?_, ?_⟩
  · unfold GrP; rw [f _ _ (by omega)]; exact go c.g.1
  · unfold BrP; rw [f 11 16 (by omega)]; exact go c.b.1
  · unfold StP; rw [f _ _ (by omega)]; exact go c.s.1
  · unfold FaP; rw [f _ _ (by omega)]; exact go c.f.1
  · unfold AxP; rw [f 27 9 (by omega)]; exact go c.x.1
  · unfold LiP; rw [f _ _ (by omega)]; exact go c.l.1
  · unfold PkP; rw [f 27 11 (by omega)]; exact go c.t.1
  · unfold HzP; rw [f _ _ (by omega)]; exact go c.z.1
end SIM
