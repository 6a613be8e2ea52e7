/-! Math.floorMod(a, 360), walked: its class has rows of its own for some names, not for this one -/
abbrev fmC : ByteArray := prog_16_method_50_code
theorem fm_0 : decode fmC 0 = .ok (.iload_n 0, 1) := by decide +kernel
theorem fm_1 : decode fmC 1 = .ok (.iload_n 1, 1) := by decide +kernel
theorem fm_2 : decode fmC 2 = .ok (.irem, 1) := by decide +kernel
theorem fm_3 : decode fmC 3 = .ok (.istore_n 2, 1) := by decide +kernel
theorem fm_4 : decode fmC 4 = .ok (.iload_n 0, 1) := by decide +kernel
theorem fm_5 : decode fmC 5 = .ok (.iload_n 1, 1) := by decide +kernel
theorem fm_6 : decode fmC 6 = .ok (.ixor, 1) := by decide +kernel
theorem fm_7 : decode fmC 7 = .ok (.ifCond .ge 11, 3) := by decide +kernel
theorem fm_10 : decode fmC 10 = .ok (.iload_n 2, 1) := by decide +kernel
theorem fm_11 : decode fmC 11 = .ok (.ifCond .eq 7, 3) := by decide +kernel
theorem fm_14 : decode fmC 14 = .ok (.iload_n 2, 1) := by decide +kernel
theorem fm_15 : decode fmC 15 = .ok (.iload_n 1, 1) := by decide +kernel
theorem fm_16 : decode fmC 16 = .ok (.iadd, 1) := by decide +kernel
theorem fm_17 : decode fmC 17 = .ok (.ireturn, 1) := by decide +kernel
theorem fm_18 : decode fmC 18 = .ok (.iload_n 2, 1) := by decide +kernel
theorem fm_19 : decode fmC 19 = .ok (.ireturn, 1) := by decide +kernel
def fmX : MethodName := ⟨"java/lang/Math", "floorMod", "(II)I"⟩
theorem fm_row0 : (NativeRow.find? natives fmX.cls fmX.name fmX.desc).isNone = true := by decide +kernel
theorem fm_row (p : Program) : NativeRow.find? p.tables.natives fmX.cls fmX.name fmX.desc = none := by
  cases p <;> exact Option.isNone_iff_eq_none.mp fm_row0
def fmS : Spec where
  pre := .and (.code fmX fmC 3 (some .int)) (.and (.count 2) (.and (.isInt (.arg 0)) (.and (.isInt (.arg 1)) (.eq (.arg 1) (.int 360)))))
  post := .and .returned (.or (.and (.lt (.rem (.arg 0) (.int 360)) (.int 0)) (.eq .result (.add (.rem (.arg 0) (.int 360)) (.int 360)))) (.and (.not (.lt (.rem (.arg 0) (.int 360)) (.int 0))) (.eq .result (.rem (.arg 0) (.int 360)))))
  changes := some []
theorem fm_meets (l : Launch) : MeetsLoose l fmX fmS := by
  refine MeetsLoose.of_body_ov (code := fmC) (maxLocals := 3) (ret := some .int) fm_row ?_ ?_
  · intro args s h
    simp only [fmS, Cond.before_and, Bool.and_eq_true] at h
    exact h.1
  · intro p e s m args below meth c s₁ B
    have hpre := B.pre
    simp only [fmS, Cond.before_and, Bool.and_eq_true] at hpre
    obtain ⟨a, b, rfl⟩ := Cond.two_ints hpre.2.1 hpre.2.2.1 hpre.2.2.2.1
    have hb36 : b = 360 := by
      have h := hpre.2.2.2.2
      simpa [Cond.before, Cond.holds, Cond.value, Term.eval] using h
    subst hb36
    have hloc : argsToLocals #[.int a, .int 360] 3 = #[.val (.int a), .val (.int 360), .unset] := rfl
    have fin : ∀ r : Int32, (∀ fs, Steps p.tables e below (s₁.setTop (entryFrame m #[.int a, .int 360] 3)) (s₁.setFrames fs) ∨ handOver s₁ (some (.int r)) below ≠ some fs) →
        (fmS.post.after #[.int a, .int 360] s (.returned (some (.int r))) = fun _ => true) →
        ∃ s₂ o, Steps p.tables e below (s₁.setTop (entryFrame m #[.int a, .int 360] 3)) s₂ ∧ s₂.status = .running ∧ Ended s₂ below o ∧
          fmS.ensures #[.int a, .int 360] s o s₂ := by
      intro r hwalk hpost
      obtain ⟨fs, hfs⟩ := handOver_isSome (s := s₁) (some (.int r)) B.hears₁
      refine ⟨s₁.setFrames fs, .returned (some (.int r)), (hwalk fs).resolve_right (fun h => h hfs), B.here.running, B.ended hfs (by intro h; cases h), ?_, State.sameBut_nil.mpr ?_⟩
      · rw [hpost]
      · rw [State.frames_setFrames _ B.cur₁, B.back]
    have hst : ∀ r : Int32, storeLocals #[.val (.int a), .val (.int 360), .unset] 2 (.int r) = some #[.val (.int a), .val (.int 360), .val (.int r)] := fun r => by simp [storeLocals, storeSelf, setAt, Value.category]
    have hrem : a % 360 = a - a / 360 * 360 := rem_eq a
    by_cases h1 : 0 ≤ a ^^^ 360
    · refine fin (a - a / 360 * 360) (fun fs => ?_) (by funext s'; simp [fmS, Cond.after, Cond.holds, Cond.value, Term.eval, hrem, fm_nn h1])
      by_cases hfs : handOver s₁ (some (.int (a - a / 360 * 360))) below = some fs
      · left
        unfold entryFrame; rw [hloc]
        refine Steps.instrAtOv (c := _) (by simpa using B.here) ?_
        simp [jvm, wpRun, exec, B.here.top, B.exec, B.bytes, fm_0]
        refine Steps.instrAtOv (c := _) (by simpa using B.here) ?_
        simp [jvm, wpRun, exec, B.here.top, B.exec, B.bytes, fm_1]
        refine Steps.instrAtOv (c := _) (by simpa using B.here) ?_
        simp [jvm, wpRun, exec, B.here.top, B.exec, B.bytes, fm_2]
        refine Steps.instrAtOv (c := _) (by simpa using B.here) ?_
        simp [jvm, wpRun, exec, B.here.top, B.exec, B.bytes, fm_3, hst]
        refine Steps.instrAtOv (c := _) (by simpa using B.here) ?_
        simp [jvm, wpRun, exec, B.here.top, B.exec, B.bytes, fm_4]
        refine Steps.instrAtOv (c := _) (by simpa using B.here) ?_
        simp [jvm, wpRun, exec, B.here.top, B.exec, B.bytes, fm_5]
        refine Steps.instrAtOv (c := _) (by simpa using B.here) ?_
        simp [jvm, wpRun, exec, B.here.top, B.exec, B.bytes, fm_6]
        refine Steps.instrAtOv (c := _) (by simpa using B.here) ?_
        simp [jvm, wpRun, exec, B.here.top, B.exec, B.bytes, fm_7, ifCond.holds, h1]
        refine Steps.instrAtOv (c := _) (by simpa using B.here) ?_
        simp [jvm, wpRun, exec, B.here.top, B.exec, B.bytes, fm_18]
        refine Steps.instrAtOv (c := _) (by simpa using B.here) ?_
        simp [jvm, wpRun, exec, B.here.top, B.exec, B.bytes, fm_19, B.method₁, B.returns, narrow]
        intro acts
        rw [ret_to B.frames₁ B.method₁ B.notSynchronized rfl rfl hfs]
        exact Steps.refl _
      · exact Or.inr hfs
    · by_cases h2 : a - a / 360 * 360 = 0
      · refine fin (0) (fun fs => ?_) (by funext s'; simp [fmS, Cond.after, Cond.holds, Cond.value, Term.eval, hrem, h2])
        by_cases hfs : handOver s₁ (some (.int (0))) below = some fs
        · left
          unfold entryFrame; rw [hloc]
          refine Steps.instrAtOv (c := _) (by simpa using B.here) ?_
          simp [jvm, wpRun, exec, B.here.top, B.exec, B.bytes, fm_0]
          refine Steps.instrAtOv (c := _) (by simpa using B.here) ?_
          simp [jvm, wpRun, exec, B.here.top, B.exec, B.bytes, fm_1]
          refine Steps.instrAtOv (c := _) (by simpa using B.here) ?_
          simp [jvm, wpRun, exec, B.here.top, B.exec, B.bytes, fm_2]
          refine Steps.instrAtOv (c := _) (by simpa using B.here) ?_
          simp [jvm, wpRun, exec, B.here.top, B.exec, B.bytes, fm_3, hst]
          refine Steps.instrAtOv (c := _) (by simpa using B.here) ?_
          simp [jvm, wpRun, exec, B.here.top, B.exec, B.bytes, fm_4]
          refine Steps.instrAtOv (c := _) (by simpa using B.here) ?_
          simp [jvm, wpRun, exec, B.here.top, B.exec, B.bytes, fm_5]
          refine Steps.instrAtOv (c := _) (by simpa using B.here) ?_
          simp [jvm, wpRun, exec, B.here.top, B.exec, B.bytes, fm_6]
          refine Steps.instrAtOv (c := _) (by simpa using B.here) ?_
          simp [jvm, wpRun, exec, B.here.top, B.exec, B.bytes, fm_7, ifCond.holds, h1]
          refine Steps.instrAtOv (c := _) (by simpa using B.here) ?_
          simp [jvm, wpRun, exec, B.here.top, B.exec, B.bytes, fm_10]
          refine Steps.instrAtOv (c := _) (by simpa using B.here) ?_
          simp [jvm, wpRun, exec, B.here.top, B.exec, B.bytes, fm_11, ifCond.holds, h2]
          refine Steps.instrAtOv (c := _) (by simpa using B.here) ?_
          simp [jvm, wpRun, exec, B.here.top, B.exec, B.bytes, fm_18]
          refine Steps.instrAtOv (c := _) (by simpa using B.here) ?_
          simp [jvm, wpRun, exec, B.here.top, B.exec, B.bytes, fm_19, B.method₁, B.returns, narrow]
          intro acts
          rw [ret_to B.frames₁ B.method₁ B.notSynchronized rfl rfl hfs]
          exact Steps.refl _
        · exact Or.inr hfs
      · refine fin (a - a / 360 * 360 + 360) (fun fs => ?_) (by funext s'; simp [fmS, Cond.after, Cond.holds, Cond.value, Term.eval, hrem, fm_neg h1 h2])
        by_cases hfs : handOver s₁ (some (.int (a - a / 360 * 360 + 360))) below = some fs
        · left
          unfold entryFrame; rw [hloc]
          refine Steps.instrAtOv (c := _) (by simpa using B.here) ?_
          simp [jvm, wpRun, exec, B.here.top, B.exec, B.bytes, fm_0]
          refine Steps.instrAtOv (c := _) (by simpa using B.here) ?_
          simp [jvm, wpRun, exec, B.here.top, B.exec, B.bytes, fm_1]
          refine Steps.instrAtOv (c := _) (by simpa using B.here) ?_
          simp [jvm, wpRun, exec, B.here.top, B.exec, B.bytes, fm_2]
          refine Steps.instrAtOv (c := _) (by simpa using B.here) ?_
          simp [jvm, wpRun, exec, B.here.top, B.exec, B.bytes, fm_3, hst]
          refine Steps.instrAtOv (c := _) (by simpa using B.here) ?_
          simp [jvm, wpRun, exec, B.here.top, B.exec, B.bytes, fm_4]
          refine Steps.instrAtOv (c := _) (by simpa using B.here) ?_
          simp [jvm, wpRun, exec, B.here.top, B.exec, B.bytes, fm_5]
          refine Steps.instrAtOv (c := _) (by simpa using B.here) ?_
          simp [jvm, wpRun, exec, B.here.top, B.exec, B.bytes, fm_6]
          refine Steps.instrAtOv (c := _) (by simpa using B.here) ?_
          simp [jvm, wpRun, exec, B.here.top, B.exec, B.bytes, fm_7, ifCond.holds, h1]
          refine Steps.instrAtOv (c := _) (by simpa using B.here) ?_
          simp [jvm, wpRun, exec, B.here.top, B.exec, B.bytes, fm_10]
          refine Steps.instrAtOv (c := _) (by simpa using B.here) ?_
          simp [jvm, wpRun, exec, B.here.top, B.exec, B.bytes, fm_11, ifCond.holds, h2]
          refine Steps.instrAtOv (c := _) (by simpa using B.here) ?_
          simp [jvm, wpRun, exec, B.here.top, B.exec, B.bytes, fm_14]
          refine Steps.instrAtOv (c := _) (by simpa using B.here) ?_
          simp [jvm, wpRun, exec, B.here.top, B.exec, B.bytes, fm_15]
          refine Steps.instrAtOv (c := _) (by simpa using B.here) ?_
          simp [jvm, wpRun, exec, B.here.top, B.exec, B.bytes, fm_16]
          refine Steps.instrAtOv (c := _) (by simpa using B.here) ?_
          simp [jvm, wpRun, exec, B.here.top, B.exec, B.bytes, fm_17, B.method₁, B.returns, narrow]
          intro acts
          rw [ret_to B.frames₁ B.method₁ B.notSynchronized rfl rfl hfs]
          exact Steps.refl _
        · exact Or.inr hfs
