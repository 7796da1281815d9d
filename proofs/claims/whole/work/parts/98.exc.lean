/-! the four exceptions at the law's entry: own text -/
theorem gOA_tbl : gOA.all (fun w => decide (w ∈ lw_tbl) || (decide (w = .isRef (.static "java/lang/Throwable" "UNASSIGNED_STACK" "[Ljava/lang/StackTraceElement;")) || decide (w = .isRef (.static "java/lang/Throwable" "SUPPRESSED_SENTINEL" "Ljava/util/List;")))) = true := by decide +kernel
theorem lw_gOA {args : Array Value} {s : State} (hts : ∀ w ∈ lw_tbl, w.before args s = true) (h1 : (Cond.isRef (.static "java/lang/Throwable" "UNASSIGNED_STACK" "[Ljava/lang/StackTraceElement;")).before args s = true) (h2 : (Cond.isRef (.static "java/lang/Throwable" "SUPPRESSED_SENTINEL" "Ljava/util/List;")).before args s = true) : ∀ w ∈ gOA, w.before #[] s = true := by
  intro w hw
  have h0 : w.before args s = true := by
    rcases Bool.or_eq_true_iff.mp (List.all_eq_true.mp gOA_tbl w hw) with h | h
    · exact hts w (of_decide_eq_true h)
    · rcases Bool.or_eq_true_iff.mp h with h | h
      · rw [of_decide_eq_true h]; exact h1
      · rw [of_decide_eq_true h]; exact h2
  rcases Bool.or_eq_true_iff.mp (List.all_eq_true.mp gOA_sort w hw) with h6 | h6
  · exact word_at (State.WarmedH.refl s) (gGood_one h6) h0
  · rcases Bool.or_eq_true_iff.mp h6 with h7 | h7
    · exact gSw_on h7 (Vm.Alike.refl _) (fun _ _ => rfl) h0
    · exact gVw_on h7 (Vm.Alike.refl _) h0
theorem lw_found {args : Array Value} {s : State} (hts : ∀ w ∈ lw_tbl, w.before args s = true) : ∀ i, i < 4 → ∃ c, s.vm.findClass (gXn i) = some c := by
  have h1 : ∀ {C : String} {n : Nat}, Cond.instantiable C n ∈ lw_tbl → ∃ c, s.vm.findClass C = some c := fun h => by
    obtain ⟨c, k, hf, _⟩ := Cond.instantiable_spec (hts _ h)
    exact ⟨c, hf⟩
  intro i hi
  match i, hi with
  | 0, _ => exact h1 (n := 6) (by decide +kernel)
  | 1, _ => exact h1 (n := 6) (by decide +kernel)
  | 2, _ => exact h1 (n := 6) (by decide +kernel)
  | 3, _ => exact h1 (n := 6) (by decide +kernel)
theorem lw_exc {args : Array Value} {s : State} (hts : ∀ w ∈ lw_tbl, w.before args s = true) (hn : ∀ i j, i < 4 → j < 4 → i ≠ j → (Cond.not (.castable (gXn i) (gXn j))).before args s = true) : ∃ xq : Nat → ClassId, (∀ i, i < 4 → s.vm.findClass (gXn i) = some (xq i)) ∧ ∀ i j, i < 4 → j < 4 → i ≠ j → s.vm.assignable (xq i) (xq j) = false := by
  have hf := lw_found hts
  refine ⟨fun i => (s.vm.findClass (gXn i)).getD 0, ?_, ?_⟩
  · intro i hi
    obtain ⟨c, hc⟩ := hf i hi
    show s.vm.findClass (gXn i) = some ((s.vm.findClass (gXn i)).getD 0)
    rw [hc]
    rfl
  · intro i j hi hj hij
    obtain ⟨c, hc⟩ := hf i hi
    obtain ⟨d, hd⟩ := hf j hj
    have h := hn i j hi hj hij
    simp only [hc, hd, Option.getD_some]
    simpa [Cond.before, Cond.holds, Cond.value, hc, hd] using h
