/-! what the throwing methods lean on: words on the exceptions, and static fields of old cells -/
def gOA : List Cond := Jvm.Bundle.ownAtoms0 "KeyHall" 73 "java/lang/IndexOutOfBoundsException" ["java/lang/RuntimeException", "java/lang/Exception"] ++ Jvm.Bundle.ownAtoms0 "KeyHall" 86 "java/lang/IllegalArgumentException" ["java/lang/RuntimeException", "java/lang/Exception"] ++
  Jvm.Bundle.ownAtoms0 "KeyHall" 104 "java/lang/IllegalStateException" ["java/lang/RuntimeException", "java/lang/Exception"] ++ Jvm.Bundle.ownAtoms0 "KeyHall" 259 "java/util/NoSuchElementException" ["java/lang/RuntimeException", "java/lang/Exception"]
def gSwB : Cond → Bool
  | .laysStatic _ _ _ => true
  | .isRef (.static _ _ _) => true
  | _ => false
def gVwB : Cond → Bool
  | .declares _ => true
  | .castable _ _ => true
  | _ => false
theorem gOA_sort : gOA.all (fun w => gGoodB w || (gSwB w || gVwB w)) = true := by decide +kernel
theorem gVw_on {U0 U : State} {args args' : Array Value} {w : Cond} (hw : gVwB w = true) (hA : U0.vm.Alike U.vm) (h : w.before args U0 = true) : w.before args' U = true := by
  have h1 : w.before args (U0.setVm U.vm) = true := by
    cases w <;> first | (simp [gVwB] at hw; done) | (rw [Cond.declares_setVm hA]; exact h) | (rw [Cond.castable_setVm hA]; exact h)
  have h2 : w.onTables = true := by
    cases w <;> first | rfl | (simp [gVwB] at hw; done)
  have h3 := Cond.onTables_vm (A := args) (A' := args') (U := U0) (U' := U) U.vm w h2
  rw [h1] at h3
  exact h3.symm
theorem gSw_on {U0 U : State} {args args' : Array Value} {w : Cond} (hw : gSwB w = true) (hA : U0.vm.Alike U.vm) (hh : ∀ p : Nat, p < U0.heap.size → U.heap[p]? = U0.heap[p]?) (h : w.before args U0 = true) : w.before args' U = true := by
  have hs : w.steady = true := by
    cases w <;> first | rfl | (simp [gSwB] at hw) | skip
    rename_i t
    cases t <;> first | rfl | (simp [gSwB] at hw)
  have h1 : w.value args (U0.setVm U.vm) none (U0.setVm U.vm) [] = some true := by
    rw [Cond.value_setVm hA w [] hs]
    simpa [Cond.before, Cond.holds] using h
  have hk : ∀ (z : Nat) (cell : Cell), U0.heap[z]? = some cell → U.heap[z]? = some cell := fun z cell hz => by
    rw [hh z (Array.getElem?_eq_some_iff.mp hz).1]; exact hz
  suffices h2 : w.value args' U none U [] = some true by simp [Cond.before, Cond.holds, h2]
  cases w <;> first | (simp [gSwB] at hw; done) | skip
  · rename_i t
    cases t <;> first | (simp [gSwB] at hw; done) | skip
    rename_i C f d
    simp only [Cond.value, Term.eval, Option.bind_eq_bind] at h1 ⊢
    have e1 : (U0.setVm U.vm).fieldNamed? C f d true = U.fieldNamed? C f d true := rfl
    have e2 : (U0.setVm U.vm).heap = U0.heap := rfl
    rw [e1, e2] at h1
    cases hf : U.fieldNamed? C f d true with
    | none => simp [hf] at h1
    | some x =>
      obtain ⟨c, k, sl⟩ := x
      simp only [hf, Option.bind_some] at h1 ⊢
      cases hz : k.statics with
      | none => simp [hz] at h1
      | some z =>
        simp only [hz, Option.bind_some] at h1 ⊢
        cases hc : U0.heap[z]? with
        | none => simp [hc] at h1
        | some cell =>
          rw [hk z cell hc]
          simp only [hc, Option.bind_some] at h1 ⊢
          exact h1
  · rename_i C f d
    simp only [Cond.value] at h1 ⊢
    have e1 : (U0.setVm U.vm).fieldFound? C f d = U.fieldFound? C f d := rfl
    have e2 : (U0.setVm U.vm).heap = U0.heap := rfl
    have e3 : (U0.setVm U.vm).vm = U.vm := rfl
    rw [e1, e2, e3] at h1
    cases hf : U.vm.findClass C with
    | none => simp [hf] at h1
    | some c =>
      cases hg : U.fieldFound? C f d with
      | none => simp [hf, hg] at h1
      | some x =>
        obtain ⟨c', k, i, fd⟩ := x
        simp only [hf, hg] at h1 ⊢
        cases hz : k.statics with
        | none => simp [hz] at h1
        | some z =>
          simp only [hz, Option.bind_some] at h1 ⊢
          cases hc : U0.heap[z]? with
          | none => simp [hc] at h1
          | some cell =>
            rw [hk z cell hc]
            rw [hc] at h1
            exact h1
/-- the state goes on from one whose cells lie below b, and they are as they were -/
def gEs (b : Nat) (U : State) : Prop := ∃ U0 : State, U0.heap.size ≤ b ∧ U0.WarmedH U.vm ∧ (∀ p : Nat, p < U0.heap.size → U.heap[p]? = U0.heap[p]?) ∧ ∀ w ∈ gOA, w.before #[] U0 = true
theorem gEs.word {b : Nat} {U : State} (h : gEs b U) {w : Cond} (hw : w ∈ gOA) (args : Array Value) : w.before args U = true := by
  obtain ⟨U0, h1, h2, h3, h4⟩ := h
  have h5 := List.all_eq_true.mp gOA_sort w hw
  rcases Bool.or_eq_true_iff.mp h5 with h6 | h6
  · exact word_at h2 (gGood_one h6) (h4 w hw)
  · rcases Bool.or_eq_true_iff.mp h6 with h7 | h7
    · exact gSw_on h7 h2.alike h3 (h4 w hw)
    · exact gVw_on h7 h2.alike (h4 w hw)
theorem gEs.on {b : Nat} {s V : State} {H : Heap} (h : gEs b s) (hH : ∀ p : Nat, p < b → H[p]? = s.heap[p]?) : V.heap = H → s.WarmedH V.vm → gEs b V := by
  intro hV hW
  obtain ⟨U0, h1, h2, h3, h4⟩ := h
  exact ⟨U0, h1, State.WarmedH.trans h2 hW, fun p hp => by rw [hV, hH p (by omega)]; exact h3 p hp, h4⟩
theorem gEs.blind (b : Nat) : gBlind (gEs b) := fun U g mk a h => h
theorem gEs.low {b : Nat} {U : State} (h : gEs b U) : ∀ (c0 : ClassId) (k0 : Class) (z : Nat), U.vm.findClass Jvm.Bundle.tN = some c0 → U.vm.classes[c0]? = some k0 → k0.statics = some z → z < b := by
  intro c0 k0 z hf hk hz
  obtain ⟨U0, h1, h2, h3, h4⟩ := h
  have hw : Cond.laysStatic Jvm.Bundle.tN "UNASSIGNED_STACK" Jvm.Bundle.steD ∈ gOA := by simp [gOA, Jvm.Bundle.ownAtoms0, Jvm.Bundle.throwableAtoms]
  have h5 : (Cond.laysStatic Jvm.Bundle.tN "UNASSIGNED_STACK" Jvm.Bundle.steD).holds #[] (U0.setVm U.vm) none (U0.setVm U.vm) [] = true := by
    have h6 := Cond.value_setVm (args := #[]) (o := none) h2.alike (Cond.laysStatic Jvm.Bundle.tN "UNASSIGNED_STACK" Jvm.Bundle.steD) [] rfl
    have h7 := h4 _ hw
    simp only [Cond.before, Cond.holds] at h7 ⊢
    rw [h6]; exact h7
  obtain ⟨c, k, i, f, a, cell, hc, hff, -, ha, hcell, -⟩ := Cond.laysStatic_spec h5
  have e1 : c = c0 := Option.some.inj (hc.symm.trans hf)
  have e2 : U.fieldFound? Jvm.Bundle.tN "UNASSIGNED_STACK" Jvm.Bundle.steD = some (c, k, i, f) := hff
  have e3 : U.vm.classes[c]? = some k := (State.fieldFound?_spec e2).1
  have e4 : k = k0 := by rw [e1] at e3; exact Option.some.inj (e3.symm.trans hk)
  have e5 : a = z := by rw [e4] at ha; exact Option.some.inj (ha.symm.trans hz)
  have e6 := (Array.getElem?_eq_some_iff.mp (show U0.heap[a]? = some cell from hcell)).1
  omega
