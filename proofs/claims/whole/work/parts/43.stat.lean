/-! what the throwing methods lean on: words on the exceptions, and static fields of old cells -/
def gOA : List Cond := Jvm.Bundle.ownAtoms0 "KeyHall" 73 "java/lang/IndexOutOfBoundsException" ["java/lang/RuntimeException", "java/lang/Exception"] ++ Jvm.Bundle.ownAtoms0 "KeyHall" 86 "java/lang/IllegalArgumentException" ["java/lang/RuntimeException", "java/lang/Exception"] ++
  Jvm.Bundle.ownAtoms0 "KeyHall" 104 "java/lang/IllegalStateException" ["java/lang/RuntimeException", "java/lang/Exception"] ++ Jvm.Bundle.ownAtoms0 "KeyHall" 259 "java/util/NoSuchElementException" ["java/lang/RuntimeException", "java/lang/Exception"]
def gSwB : Cond → Bool
  | .laysStatic _ _ _ => true
  | .isRef (.static _ _ _) => true
  | _ => false
def gVwB : Cond → Bool
  | .declares _ => true
  | .castable _ _ => true
  | _ => false
theorem gOA_sort : gOA.all (fun w => gGoodB w || (gSwB w || gVwB w)) = true := by decide +kernel
theorem gVw_on {U0 U : State} {args args' : Array Value} {w : Cond} (hw : gVwB w = true) (hA : U0.vm.Alike U.vm) (h : w.before args U0 = true) : w.before args' U = true := by
  have h1 : w.before args (U0.setVm U.vm) = true := by
    cases w <;> first | (simp [gVwB] at hw; done) | (rw [Cond.declares_setVm hA]; exact h) | (rw [Cond.castable_setVm hA]; exact h)
  have h2 : w.onTables = true := by
    cases w <;> first | rfl | (simp [gVwB] at hw; done)
  have h3 := Cond.onTables_vm (A := args) (A' := args') (U := U0) (U' := U) U.vm w h2
  rw [h1] at h3
  exact h3.symm
theorem gSw_on {U0 U : State} {args args' : Array Value} {w : Cond} (hw : gSwB w = true) (hA : U0.vm.Alike U.vm) (hh : ∀ p : Nat, p < U0.heap.size → U.heap[p]? = U0.heap[p]?) (h : w.before args U0 = true) : w.before args' U = true := by
  have hs : w.steady = true := by
    cases w <;> first | rfl | (simp [gSwB] at hw) | skip
    rename_i t
    cases t <;> first | rfl | (simp [gSwB] at hw)
  have h1 : w.value args (U0.setVm U.vm) none (U0.setVm U.vm) [] = some true := by
    rw [Cond.value_setVm hA w [] hs]
    simpa [Cond.before, Cond.holds] using h
  have hk : ∀ (z : Nat) (cell : Cell), U0.heap[z]? = some cell → U.heap[z]? = some cell := fun z cell hz => by
    rw [hh z (Array.getElem?_eq_some_iff.mp hz).1]; exact hz
  suffices h2 : w.value args' U none U [] = some true by simp [Cond.before, Cond.holds, h2]
  cases w <;> first | (simp [gSwB] at hw; done) | skip
  · rename_i t
    cases t <;> first | (simp [gSwB] at hw; done) | skip
    rename_i C f d
    simp only [Cond.value, Term.eval, Option.bind_eq_bind] at h1 ⊢
    have e1 : (U0.setVm U.vm).fieldNamed? C f d true = U.fieldNamed? C f d true := rfl
    have e2 : (U0.setVm U.vm).heap = U0.heap := rfl
    rw [e1, e2] at h1
    cases hf : U.fieldNamed? C f d true with
    | none => simp [hf] at h1
    | some x =>
      obtain ⟨c, k, sl⟩ := x
      simp only [hf, Option.bind_some] at h1 ⊢
      cases hz : k.statics with
      | none => simp [hz] at h1
      | some z =>
        simp only [hz, Option.bind_some] at h1 ⊢
        cases hc : U0.heap[z]? with
        | none => simp [hc] at h1
        | some cell =>
          rw [hk z cell hc]
          simp only [hc, Option.bind_some] at h1 ⊢
          exact h1
  · rename_i C f d
    simp only [Cond.value] at h1 ⊢
    have e1 : (U0.setVm U.vm).fieldFound? C f d = U.fieldFound? C f d := rfl
    have e2 : (U0.setVm U.vm).heap = U0.heap := rfl
    have e3 : (U0.setVm U.vm).vm = U.vm := rfl
    rw [e1, e2, e3] at h1
    cases hf : U.vm.findClass C with
    | none => simp [hf] at h1
    | some c =>
      cases hg : U.fieldFound? C f d with
      | none => simp [hf, hg] at h1
      | some x =>
        obtain ⟨c', k, i, fd⟩ := x
        simp only [hf, hg] at h1 ⊢
        cases hz : k.statics with
        | none => simp [hz] at h1
        | some z =>
          simp only [hz, Option.bind_some] at h1 ⊢
          cases hc : U0.heap[z]? with
          | none => simp [hc] at h1
          | some cell =>
            rw [hk z cell hc]
            rw [hc] at h1
            exact h1
/-- the state goes on from one whose cells lie below b, and they are as they were -/
def gXn : Nat → String
  | 0 => "java/lang/IndexOutOfBoundsException"
  | 1 => "java/lang/IllegalArgumentException"
  | 2 => "java/lang/IllegalStateException"
  | _ => "java/util/NoSuchElementException"
def gXi : Nat → Nat
  | 0 => 73
  | 1 => 86
  | 2 => 104
  | _ => 259
def gXl : Nat → Nat
  | 0 => 71
  | 1 => 84
  | 2 => 102
  | _ => 257
abbrev gXr : List String := ["java/lang/RuntimeException", "java/lang/Exception"]
theorem gOA_in : ∀ i, i < 4 → ∀ w ∈ Jvm.Bundle.ownAtoms0 "KeyHall" (gXi i) (gXn i) gXr, w ∈ gOA
  | 0, _, w, h => List.mem_append_left _ (List.mem_append_left _ (List.mem_append_left _ h))
  | 1, _, w, h => List.mem_append_left _ (List.mem_append_left _ (List.mem_append_right _ h))
  | 2, _, w, h => List.mem_append_left _ (List.mem_append_right _ h)
  | 3, _, w, h => List.mem_append_right _ h
def gEs (b : Nat) (xq : Nat → ClassId) (U : State) : Prop := (∃ U0 : State, U0.heap.size ≤ b ∧ U0.WarmedH U.vm ∧ (∀ p : Nat, p < U0.heap.size → U.heap[p]? = U0.heap[p]?) ∧ ∀ w ∈ gOA, w.before #[] U0 = true) ∧ ∀ i, i < 4 → U.vm.findClass (gXn i) = some (xq i)
theorem gEs.word {b : Nat} {xq : Nat → ClassId} {U : State} (h : gEs b xq U) {w : Cond} (hw : w ∈ gOA) (args : Array Value) : w.before args U = true := by
  obtain ⟨⟨U0, h1, h2, h3, h4⟩, hx⟩ := h
  have h5 := List.all_eq_true.mp gOA_sort w hw
  rcases Bool.or_eq_true_iff.mp h5 with h6 | h6
  · exact word_at h2 (gGood_one h6) (h4 w hw)
  · rcases Bool.or_eq_true_iff.mp h6 with h7 | h7
    · exact gSw_on h7 h2.alike h3 (h4 w hw)
    · exact gVw_on h7 h2.alike (h4 w hw)
theorem gEs.on {b : Nat} {xq : Nat → ClassId} {s V : State} {H : Heap} (h : gEs b xq s) (hH : ∀ p : Nat, p < b → H[p]? = s.heap[p]?) : V.heap = H → s.WarmedH V.vm → gEs b xq V := by
  intro hV hW
  obtain ⟨⟨U0, h1, h2, h3, h4⟩, hx⟩ := h
  exact ⟨⟨U0, h1, State.WarmedH.trans h2 hW, fun p hp => by rw [hV, hH p (by omega)]; exact h3 p hp, h4⟩, fun i hi => by rw [hW.alike.findClass]; exact hx i hi⟩
theorem gEs.blind (b : Nat) (xq : Nat → ClassId) : gBlind (gEs b xq) := fun U g mk a h => h
theorem gEs.low {b : Nat} {xq : Nat → ClassId} {U : State} (h : gEs b xq U) : ∀ (c0 : ClassId) (k0 : Class) (z : Nat), U.vm.findClass Jvm.Bundle.tN = some c0 → U.vm.classes[c0]? = some k0 → k0.statics = some z → z < b := by
  intro c0 k0 z hf hk hz
  obtain ⟨⟨U0, h1, h2, h3, h4⟩, hx⟩ := h
  have hw : Cond.laysStatic Jvm.Bundle.tN "UNASSIGNED_STACK" Jvm.Bundle.steD ∈ gOA := by simp [gOA, Jvm.Bundle.ownAtoms0, Jvm.Bundle.throwableAtoms]
  have h5 : (Cond.laysStatic Jvm.Bundle.tN "UNASSIGNED_STACK" Jvm.Bundle.steD).holds #[] (U0.setVm U.vm) none (U0.setVm U.vm) [] = true := by
    have h6 := Cond.value_setVm (args := #[]) (o := none) h2.alike (Cond.laysStatic Jvm.Bundle.tN "UNASSIGNED_STACK" Jvm.Bundle.steD) [] rfl
    have h7 := h4 _ hw
    simp only [Cond.before, Cond.holds] at h7 ⊢
    rw [h6]; exact h7
  obtain ⟨c, k, i, f, a, cell, hc, hff, -, ha, hcell, -⟩ := Cond.laysStatic_spec h5
  have e1 : c = c0 := Option.some.inj (hc.symm.trans hf)
  have e2 : U.fieldFound? Jvm.Bundle.tN "UNASSIGNED_STACK" Jvm.Bundle.steD = some (c, k, i, f) := hff
  have e3 : U.vm.classes[c]? = some k := (State.fieldFound?_spec e2).1
  have e4 : k = k0 := by rw [e1] at e3; exact Option.some.inj (e3.symm.trans hk)
  have e5 : a = z := by rw [e4] at ha; exact Option.some.inj (ha.symm.trans hz)
  have e6 := (Array.getElem?_eq_some_iff.mp (show U0.heap[a]? = some cell from hcell)).1
  rw [e5] at e6
  exact Nat.lt_of_lt_of_le e6 h1
theorem gX_ini : ∀ i, i < 4 → Cond.initialized (gXn i) ∈ gWS ∧ Cond.classLink R_Hall (gXl i) (gXn i) ∈ gWS
  | 0, _ => ⟨(gWS_at 52 (by decide +kernel) (by decide +kernel)), lk_Hall_71⟩
  | 1, _ => ⟨(gWS_at 54 (by decide +kernel) (by decide +kernel)), lk_Hall_84⟩
  | 2, _ => ⟨(gWS_at 55 (by decide +kernel) (by decide +kernel)), lk_Hall_102⟩
  | 3, _ => ⟨(gWS_at 56 (by decide +kernel) (by decide +kernel)), lk_Hall_257⟩
theorem gX_fit : ∀ i, i < 4 → Jvm.Bundle.fit (gXn i) = true
  | 0, _ => by decide +kernel
  | 1, _ => by decide +kernel
  | 2, _ => by decide +kernel
  | 3, _ => by decide +kernel
theorem gXr_fit : ∀ n ∈ gXr, Jvm.Bundle.fit n = true := by decide +kernel
section GTN
variable {p : Program} {l : Launch} {e : Env} {R : Room} {s : State} {m : MethodId} {args : Array Value} {below : List Frame} {meth : Method} {c : Code} {H : Heap} {locs : List Loc} {cells slots : Nat}
variable {cc : ByteArray} {nL pc : Nat} {ls : Array Slot} {D : va_G} {cl : List vw_C} {A : Nat → Prop} {tys : List (ClassId × FieldType)} {Post : Nat → Heap → Prop} {mc ms : Nat} {name : String}
/-- an exception is made and thrown out of the method -/
theorem g_throw (X : gX p m c cc nL s args R_Hall gWS D cl tys) {ret : Option FieldType} (B : gB meth ret name) (hne : c.exceptionTable.isEmpty = true) (htr : ∀ e', l.admits e' → e'.platform.stackTraces = false) {b : Nat} {xq : Nat → ClassId} (hE : gEs b xq s) (i : Nat) (hi : i < 4)
    (hLb : ∀ x ∈ locs, b ≤ x.base) (hls : ls.size = nL) {h : Nat} (hz : H.size = h) (hnew : s.heap.size ≤ h)
    (d0 : decode cc pc = .ok (.new (gXl i), 3)) (d1 : decode cc (pc + 3) = .ok (.dup, 1)) (d2 : decode cc (pc + 4) = .ok (.invokespecial (gXi i), 3)) (d3 : decode cc (pc + 7) = .ok (.athrow, 1))
    (hRf : 5 < R.frames) (hRl : 81 ≤ R.locals) (hRc : cells + 1 ≤ R.cells) (hRs : slots + 6 ≤ R.slots)
    (hP : ∀ (H1 : Heap) (ce : Cell), H1[h]? = some ce → ce.cls = xq i → ce.vm = .none → H1.size = h + 1 → (∀ z : Nat, z < h → H1[z]? = H[z]?) → Post h H1) (hL : ∀ x ∈ locs, A x.base) (hc : cells + 1 ≤ mc) (hs : slots + 6 ≤ ms) :
    W p l e R s m args below meth c H locs cells slots (gTQ below s Post mc ms A) (F0 m pc ls []) := by
  have hoa : ∀ w ∈ Jvm.Bundle.ownAtoms0 "KeyHall" (gXi i) (gXn i) gXr, w.before args s = true := fun w hw => hE.word (gOA_in i hi w hw) args
  have hins : (Cond.instantiable (gXn i) 6).before args s = true := hoa _ (by simp [Jvm.Bundle.ownAtoms0])
  refine W.newcK X.1.1 X.1.2.1 X.1.2.2.2.1 (X.1.2.2.2.2 _ (gX_ini i hi).2) hins (X.1.2.2.2.2 _ (gX_ini i hi).1) (g := F0 m pc ls []) rfl d0 hRc hRs (hE.2 i hi) hz (fun H' kC hk hcell hz' hold => ?_)
  refine lv_dup X.1.1 X.1.2.1 d1 rfl ?_
  refine g_exinit X htr (gX_fit i hi) gXr_fit hoa hLb hE.low (hE.2 i hi) hk (H := H') (a := h) (by rw [hcell]; rfl) hnew hls d2 hRf hRl (fun H1 ce h1 h2 h3 h4 h5 => ?_)
  exact g_athrow X B hne (hP H1 ce h1 h2 h3 (h4.trans hz') (fun z hz9 => (h5 z (by omega)).trans (hold z hz9))) hL d3 hc hs
end GTN
