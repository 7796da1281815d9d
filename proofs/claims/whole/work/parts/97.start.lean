/-! the machine's tables at the law's entry: own text -/
theorem lw_cls {args : Array Value} {s : State} (hts : ∀ w ∈ gWS, w.before args s = true) : ∀ c : Nat, ∃ z : ClassId × (Nat → Nat), ∀ q : vw_C, CL[c]? = some q → u_Kn s q.1 q.2.1 q.2.2 z.1 z.2 := by
  have h1 : ∀ {C : String} {T : u_T} {N : Nat} {n : Nat}, (∀ w ∈ u_ws C T N, w ∈ gWS) → Cond.instantiable C n ∈ gWS → ∃ z : ClassId × (Nat → Nat), ∀ q : vw_C, some (C, T, N) = some q → u_Kn s q.1 q.2.1 q.2.2 z.1 z.2 := by
    intro C T N n h2 h3
    obtain ⟨cC, iS, h4⟩ := u_known hts h2 (hts _ h3)
    refine ⟨(cC, iS), fun q e => ?_⟩
    injection e with e
    subst e
    exact h4
  intro c
  match c with
  | 0 => exact h1 kc_Key.1 ki_Key.1
  | 1 => exact h1 kc_KeyMap.1 ki_KeyMap.1
  | 2 => exact h1 kc_View.1 ki_View.1
  | 3 => exact h1 kc_Walker.1 ki_Walker.1
  | 4 => exact h1 kc_Edges.1 ki_Edges.1
  | 5 => exact h1 kc_Automaton.1 ki_Automaton.1
  | 6 => exact h1 kc_EditedText.1 ki_EditedText.1
  | 7 => exact h1 kc_History.1 ki_History.1
  | 8 => exact h1 kc_SuffixOrder.1 ki_SuffixOrder.1
  | 9 => exact h1 kc_Hall.1 ki_Hall.1
  | 10 => exact h1 kc_Model.1 ki_Model.1
  | c + 11 => exact ⟨(0, fun _ => 0), fun q e => nomatch e⟩
theorem lw_arr {args : Array Value} {s : State} {ty : FieldType} (h : (Cond.arrayClass ty).before args s = true) (hn : ∀ C, ty ≠ .object C) : ∃ cA, ArrOfT s cA ty ∧ va_RA s cA ty := by
  obtain ⟨cA, kA, comp, h1, h2, h3⟩ := Cond.arrayClass_spec h
  refine ⟨cA, fun n z => ⟨fun k h => (by cases h), kA, h2, comp, h3⟩, ?_⟩
  cases ty <;> first | exact h1 | exact absurd rfl (hn _)
theorem lw_arro {s : State} {C : String} (h : va_AO C s) : ∃ cA, ArrOfT s cA (.object C) ∧ va_RA s cA (.object C) := by
  obtain ⟨comp, cA, kA, f1, f0, f2, f3, f4⟩ := Cond.arrayOver_spec h
  exact ⟨cA, fun n z => ⟨fun k h => (by cases h), kA, f2, comp, f3⟩, kA, comp, f2, f3, f1, f4⟩
theorem lw_K {args : Array Value} {s : State} (hts : ∀ w ∈ gWS, w.before args s = true) (hk : va_AO R_Key s) (hv : va_AO R_View s) : ∃ (D : va_G) (q : Nat → ClassId), va_K D CL (gY q) s := by
  obtain ⟨q0, a0⟩ := lw_arr (hts _ ka_int) (fun _ h => nomatch h)
  obtain ⟨q1, a1⟩ := lw_arr (hts _ ka_boolean) (fun _ h => nomatch h)
  obtain ⟨q2, a2⟩ := lw_arr (hts _ ka_long) (fun _ h => nomatch h)
  obtain ⟨q3, a3⟩ := lw_arro hk
  obtain ⟨q4, a4⟩ := lw_arro hv
  refine ⟨(fun c => (Classical.choose (lw_cls hts c)).1, fun c => (Classical.choose (lw_cls hts c)).2), fun k => [q0, q1, q2, q3, q4].getD k 0, fun c q hq => Classical.choose_spec (lw_cls hts c) q hq, fun k q hq => ?_⟩
  match k, hq with
  | 0, hq => cases hq; exact a0
  | 1, hq => cases hq; exact a1
  | 2, hq => cases hq; exact a2
  | 3, hq => cases hq; exact a3
  | 4, hq => cases hq; exact a4
