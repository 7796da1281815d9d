/-! pictures of the cells -/
/-- a Key at a, its letters' array right behind it: the text xs -/
def kA (D : va_G) (q : Nat → ClassId) (H : Heap) (a : Nat) (xs : List Nat) : Prop :=
  va_at D CL (a, .inr (0, [.ref (a + 1), .int (nI xs.length)])) H ∧ (∃ f : Nat → Int32, va_at D CL (a + 1, .inl (q 0, 8, .inl f)) H ∧ ∀ j, j < xs.length → f j = nI (xs.getD j 0)) ∧ xs.length ≤ 8 ∧ ∀ x ∈ xs, x < 65536
theorem kA.kept {D : va_G} {q : Nat → ClassId} {H H1 : Heap} {a : Nat} {xs : List Nat} (h : kA D q H a xs) (h0 : H1[a]? = H[a]?) (h1 : H1[a + 1]? = H[a + 1]?) : kA D q H1 a xs := by
  obtain ⟨ha, ⟨f, hf, e⟩, hl, hc⟩ := h
  exact ⟨ha.kept h0, ⟨f, va_at.kept hf h1, e⟩, hl, hc⟩
theorem kA.lt {D : va_G} {q : Nat → ClassId} {H : Heap} {a : Nat} {xs : List Nat} (h : kA D q H a xs) : a + 1 < H.size := by
  obtain ⟨ha, ⟨f, hf, e⟩, hl, hc⟩ := h
  exact va_at.lt hf
theorem gfr {A : Nat → Prop} {H H1 H2 : Heap} {a : Nat} (fr : ∀ q : Nat, ¬ A q → H1[q]? = H[q]?) (oq : ∀ q : Nat, q ≠ a → H2[q]? = H1[q]?) (ha : A a) : ∀ q : Nat, ¬ A q → H2[q]? = H[q]? := fun q hq => (oq q (fun e => hq (e ▸ ha))).trans (fr q hq)
theorem t_get_app {xs : List Nat} {x j : Nat} (h : j < xs.length) : (xs ++ [x]).getD j 0 = xs.getD j 0 := by
  rw [List.getD_eq_getElem?_getD, List.getD_eq_getElem?_getD, List.getElem?_append_left h]
theorem t_get_last {xs : List Nat} {x : Nat} : (xs ++ [x]).getD xs.length 0 = x := by
  rw [List.getD_eq_getElem?_getD]
  simp
