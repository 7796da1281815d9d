/-! the two static arrays at the law's entry: own text -/
theorem lw_eqi {args : Array Value} {s : State} {t : Term} {z : Int32} (h : (Cond.eq t (.int z)).before args s = true) : t.eval args s none [] s = some (.int z) := by
  cases hv : t.eval args s none [] s with
  | none => simp [Cond.before, Cond.holds, Cond.value, Term.eval, hv] at h
  | some v => cases v <;> simp_all [Cond.before, Cond.holds, Cond.value, Term.eval]
theorem lw_fan {args : Array Value} {s : State} {t : Term} {F : Nat → Int32} (harr : (Cond.arrayOf t .int).before args s = true) (hlen : (Cond.eq (.length t) (.int 5)).before args s = true) (hel : ∀ j, j < 5 → (Cond.eq (.elem t (.int (nI j))) (.int (F j))).before args s = true) : ∃ z, t.eval args s none [] s = some (.ref z) ∧ va_X z 5 F s s.heap ∧ z < s.heap.size := by
  obtain ⟨z, cell, hz, hc, hn⟩ := Term.length_spec (lw_eqi hlen)
  have hcell := (State.arrayAt?_spec hc).1
  obtain ⟨h1, h2⟩ := Cond.arrayOf_spec harr hz hcell
  refine ⟨z, hz, ⟨cell, hcell, h1, h2, ?_, fun j hj => ?_⟩, (Array.getElem?_eq_some_iff.mp hcell).1⟩
  · have h9 := lw_eqi hlen
    by_cases hb : cell.slots.size < 2147483648
    · injection hn with hn
      have e2 := congrArg Int32.toInt hn
      rw [show cell.slots.size.toInt32 = nI cell.slots.size from rfl, nI_toInt (by omega), show (5 : Int32).toInt = 5 from rfl] at e2
      omega
    · simp [Term.eval, hz, hc, hb] at h9
  · obtain ⟨c2, e1, _, e2⟩ := elem_at (lw_eqi (hel j hj)) hz (show (Term.int (nI j)).eval args s none [] s = some (.int (nI j)) from rfl)
    cases hcell.symm.trans e1
    rw [nI_clamp (by omega)] at e2
    exact e2
