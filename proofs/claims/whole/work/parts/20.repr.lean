/-! pictures of the cells -/
/-- a Key at a, its letters' array right behind it: the text xs -/
def kA (D : va_G) (q : Nat → ClassId) (H : Heap) (a : Nat) (xs : List Nat) : Prop :=
  va_at D CL (a, .inr (0, [.ref (a + 1), .int (nI xs.length)])) H ∧ (∃ f : Nat → Int32, va_at D CL (a + 1, .inl (q 0, 8, .inl f)) H ∧ ∀ j, j < xs.length → f j = nI (xs.getD j 0)) ∧ xs.length ≤ 8 ∧ ∀ x ∈ xs, x < 65536
theorem kA.kept {D : va_G} {q : Nat → ClassId} {H H1 : Heap} {a : Nat} {xs : List Nat} (h : kA D q H a xs) (h0 : H1[a]? = H[a]?) (h1 : H1[a + 1]? = H[a + 1]?) : kA D q H1 a xs := by
  obtain ⟨ha, ⟨f, hf, e⟩, hl, hc⟩ := h
  exact ⟨ha.kept h0, ⟨f, va_at.kept hf h1, e⟩, hl, hc⟩
theorem kA.lt {D : va_G} {q : Nat → ClassId} {H : Heap} {a : Nat} {xs : List Nat} (h : kA D q H a xs) : a + 1 < H.size := by
  obtain ⟨ha, ⟨f, hf, e⟩, hl, hc⟩ := h
  exact va_at.lt hf
theorem gfr {A : Nat → Prop} {H H1 H2 : Heap} {a : Nat} (fr : ∀ q : Nat, ¬ A q → H1[q]? = H[q]?) (oq : ∀ q : Nat, q ≠ a → H2[q]? = H1[q]?) (ha : A a) : ∀ q : Nat, ¬ A q → H2[q]? = H[q]? := fun q hq => (oq q (fun e => hq (e ▸ ha))).trans (fr q hq)
theorem t_get_app {xs : List Nat} {x j : Nat} (h : j < xs.length) : (xs ++ [x]).getD j 0 = xs.getD j 0 := by
  rw [List.getD_eq_getElem?_getD, List.getD_eq_getElem?_getD, List.getElem?_append_left h]
theorem t_get_last {xs : List Nat} {x : Nat} : (xs ++ [x]).getD xs.length 0 = x := by
  rw [List.getD_eq_getElem?_getD]
  simp
theorem t_drop_eq {xs ys : List Nat} {i j : Nat} (hi : i ≤ xs.length) (hj : j ≤ ys.length) (hl : xs.length - i = ys.length - j) (h : ∀ k, i ≤ k → k < xs.length → xs.getD k 0 = ys.getD (k - i + j) 0) : xs.drop i = ys.drop j := by
  apply List.ext_getElem?
  intro k
  rw [List.getElem?_drop, List.getElem?_drop]
  by_cases hk : i + k < xs.length
  · have h1 := h (i + k) (by omega) hk
    rw [List.getD_eq_getElem?_getD, List.getD_eq_getElem?_getD, show i + k - i + j = j + k by omega, List.getElem?_eq_getElem hk, List.getElem?_eq_getElem (show j + k < ys.length by omega)] at h1
    rw [List.getElem?_eq_getElem hk, List.getElem?_eq_getElem (show j + k < ys.length by omega)]
    simpa using h1
  · rw [List.getElem?_eq_none (by omega), List.getElem?_eq_none (by omega)]
theorem t_drop_ne {xs ys : List Nat} {i j k : Nat} (hk : i ≤ k) (h : xs.getD k 0 ≠ ys.getD (k - i + j) 0) : xs.drop i ≠ ys.drop j := by
  intro e
  apply h
  have h1 : (xs.drop i).getD (k - i) 0 = (ys.drop j).getD (k - i) 0 := by rw [e]
  rw [List.getD_eq_getElem?_getD, List.getD_eq_getElem?_getD, List.getElem?_drop, List.getElem?_drop, show i + (k - i) = k by omega, show j + (k - i) = k - i + j by omega] at h1
  rw [List.getD_eq_getElem?_getD, List.getD_eq_getElem?_getD]
  exact h1
theorem t_drop_len {xs ys : List Nat} {i j : Nat} (h : xs.length - i ≠ ys.length - j) : xs.drop i ≠ ys.drop j := by
  intro e
  apply h
  rw [← List.length_drop, ← List.length_drop, e]
/-- in how many of the first places a key differs from a pattern -/
def t_diff (xs ys : List Nat) : Nat → Nat
  | 0 => 0
  | i + 1 => t_diff xs ys i + if xs.getD i 0 = 63 ∨ xs.getD i 0 = ys.getD i 0 then 0 else 1
theorem t_diff_le (xs ys : List Nat) : ∀ n, t_diff xs ys n ≤ n
  | 0 => Nat.le_refl 0
  | n + 1 => by
    have h := t_diff_le xs ys n
    unfold t_diff
    split <;> omega
theorem kf_zero {N : Nat} {ty : Nat → FieldType} {fs : List Value} (h : (List.range N).all (fun j => decide (defaultValue (ty j) = vp_V fs j)) = true) : ∀ j, j < N → defaultValue (ty j) = vp_V fs j := fun j hj => of_decide_eq_true (List.all_eq_true.mp h j (List.mem_range.mpr hj))
theorem kf_Key : ∀ j, j < 2 → defaultValue (t_Key j) = vp_V [.null, .int 0] j := kf_zero (by decide +kernel)
theorem kf_KeyMap : ∀ j, j < 4 → defaultValue (t_KeyMap j) = vp_V [.null, .null, .int 0, .int 0] j := kf_zero (by decide +kernel)
theorem kf_View : ∀ j, j < 8 → defaultValue (t_View j) = vp_V [.null, .null, .int 0, .null, .int 0, .null, .int 0, .int 0] j := kf_zero (by decide +kernel)
theorem kf_Walker : ∀ j, j < 4 → defaultValue (t_Walker j) = vp_V [.int 0, .int 0, .int 0, .int 0] j := kf_zero (by decide +kernel)
