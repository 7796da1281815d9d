/-! the edited text: picture, and what its arrays hold behind an edit -/
def txA (D : va_G) (q : Nat → ClassId) (H : Heap) (tb : Nat) (xs : List Nat) (us : List (List Nat)) (so : Nat) : Prop :=
  va_at D CL (tb, .inr (6, [.ref (tb + 1), .int (nI xs.length), .ref (tb + 2), .ref (tb + 5), .int (nI so)])) H ∧ (∃ f, va_at D CL (tb + 1, .inl (q 0, 120, .inl f)) H ∧ tX f xs) ∧ (xs.length ≤ 120 ∧ (∀ x ∈ xs, x < 65536) ∧ so ≤ 1) ∧ hisA D q H (tb + 2) us ∧
  va_at D CL (tb + 5, .inr (8, [.ref (tb + 6), .ref (tb + 7)])) H ∧ ∃ F K, va_at D CL (tb + 6, .inl (q 0, 120, .inl F)) H ∧ va_at D CL (tb + 7, .inl (q 0, 121, .inl K)) H ∧ (so ≠ 0 → ∃ st, sfP xs xs.length xs.length st ∧ ∀ j, j < xs.length → F j = nI (st j))
theorem txA.kept {D : va_G} {q : Nat → ClassId} {H H1 : Heap} {tb : Nat} {xs : List Nat} {us : List (List Nat)} {so : Nat} (h : txA D q H tb xs us so) (hk : ∀ p : Nat, tb ≤ p → p ≤ tb + 7 → H1[p]? = H[p]?) : txA D q H1 tb xs us so := by
  obtain ⟨h1, ⟨f, h2, h2'⟩, h3, h4, h5, F, K, h6, h7, h8⟩ := h
  exact ⟨h1.kept (hk _ (by omega) (by omega)), ⟨f, va_at.kept h2 (hk _ (by omega) (by omega)), h2'⟩, h3, h4.kept (fun p a b => hk p (by omega) (by omega)), h5.kept (hk _ (by omega) (by omega)), F, K, va_at.kept h6 (hk _ (by omega) (by omega)), va_at.kept h7 (hk _ (by omega) (by omega)), h8⟩
theorem t_getD_app_l {xs ys : List Nat} {j : Nat} (h : j < xs.length) : (xs ++ ys).getD j 0 = xs.getD j 0 := by
  rw [List.getD_eq_getElem?_getD, List.getD_eq_getElem?_getD, List.getElem?_append_left h]
theorem t_getD_app_r {xs ys : List Nat} {j : Nat} (h : xs.length ≤ j) : (xs ++ ys).getD j 0 = ys.getD (j - xs.length) 0 := by
  rw [List.getD_eq_getElem?_getD, List.getD_eq_getElem?_getD, List.getElem?_append_right h]
theorem t_getD_take {xs : List Nat} {i j : Nat} (h : j < i) : (xs.take i).getD j 0 = xs.getD j 0 := by
  rw [List.getD_eq_getElem?_getD, List.getD_eq_getElem?_getD, List.getElem?_take_of_lt h]
theorem t_getD_drop {xs : List Nat} {i j : Nat} : (xs.drop i).getD j 0 = xs.getD (i + j) 0 := by
  rw [List.getD_eq_getElem?_getD, List.getD_eq_getElem?_getD, List.getElem?_drop]
theorem t_ins_len {xs ys : List Nat} {i : Nat} (hi : i ≤ xs.length) : (xs.take i ++ ys ++ xs.drop i).length = xs.length + ys.length := by
  simp only [List.length_append, List.length_take, List.length_drop]
  omega
theorem t_del_len {xs : List Nat} {i k : Nat} (hi : i ≤ k) (hk : k ≤ xs.length) : (xs.take i ++ xs.drop k).length = xs.length - (k - i) := by
  simp only [List.length_append, List.length_take, List.length_drop]
  omega
theorem tX_ins {f g : Nat → Int32} {xs ys : List Nat} {i : Nat} (hf : tX f xs) (hg : tX g ys) (hi : i ≤ xs.length) : tX (va_cpy g (va_cpy f f i (i + ys.length) (xs.length - i)) 0 i ys.length) (xs.take i ++ ys ++ xs.drop i) := by
  intro j hj
  rw [t_ins_len hi] at hj
  have l1 : (xs.take i).length = i := by rw [List.length_take]; omega
  have l2 : (xs.take i ++ ys).length = i + ys.length := by rw [List.length_append, l1]
  by_cases h1 : j < i
  · rw [pk_cpy_out (Or.inl h1), pk_cpy_out (Or.inl (by omega)), t_getD_app_l (by omega), t_getD_app_l (by omega), t_getD_take h1]
    exact hf j (by omega)
  · by_cases h2 : j < i + ys.length
    · rw [pk_cpy_in (by omega) h2, t_getD_app_l (by omega), t_getD_app_r (by omega), l1, Nat.zero_add]
      exact hg _ (by omega)
    · rw [pk_cpy_out (Or.inr (by omega)), pk_cpy_in (by omega) (by omega), t_getD_app_r (by omega), l2, t_getD_drop]
      exact hf _ (by omega)
theorem tX_del {f : Nat → Int32} {xs : List Nat} {i k : Nat} (hf : tX f xs) (hi : i ≤ k) (hk : k ≤ xs.length) : tX (va_cpy f f k i (xs.length - k)) (xs.take i ++ xs.drop k) := by
  intro j hj
  rw [t_del_len hi hk] at hj
  have l1 : (xs.take i).length = i := by rw [List.length_take]; omega
  by_cases h1 : j < i
  · rw [pk_cpy_out (Or.inl h1), t_getD_app_l (by omega), t_getD_take h1]
    exact hf j (by omega)
  · rw [pk_cpy_in (by omega) (by omega), t_getD_app_r (by omega), l1, t_getD_drop]
    exact hf _ (by omega)
theorem t_ins_c {xs ys : List Nat} {i : Nat} (h1 : ∀ x ∈ xs, x < 65536) (h2 : ∀ x ∈ ys, x < 65536) : ∀ x ∈ xs.take i ++ ys ++ xs.drop i, x < 65536 := by
  intro x hx
  rcases List.mem_append.mp hx with h | h
  · rcases List.mem_append.mp h with h | h
    · exact h1 x (List.mem_of_mem_take h)
    · exact h2 x h
  · exact h1 x (List.mem_of_mem_drop h)
theorem t_del_c {xs : List Nat} {i k : Nat} (h1 : ∀ x ∈ xs, x < 65536) : ∀ x ∈ xs.take i ++ xs.drop k, x < 65536 := by
  intro x hx
  rcases List.mem_append.mp hx with h | h
  · exact h1 x (List.mem_of_mem_take h)
  · exact h1 x (List.mem_of_mem_drop h)
def t_hash (xs : List Nat) : Nat → Int32
  | 0 => nI 0
  | i + 1 => nI 31 * t_hash xs i + nI (xs.getD i 0)
/-- whether ys stands in xs at p -/
abbrev t_at (xs ys : List Nat) (p : Nat) : Prop := t_lcp (xs.drop p) ys = ys.length
theorem t_at_long {xs ys : List Nat} {p : Nat} (h : xs.length - p < ys.length) : ¬ t_at xs ys p := by
  intro h1
  have h2 := t_lcp_le1 (xs.drop p) ys
  rw [List.length_drop] at h2
  omega
theorem t_at_ne {xs ys : List Nat} {p i : Nat} (hi : i < ys.length) (h : xs.getD (p + i) 0 ≠ ys.getD i 0) : ¬ t_at xs ys p := by
  intro h1
  have h2 := t_lcp_same (xs.drop p) ys i (by omega)
  rw [t_getD_drop] at h2
  exact h h2
theorem t_at_all {xs ys : List Nat} {p : Nat} (hl : ys.length ≤ xs.length - p) (h : ∀ i, i < ys.length → xs.getD (p + i) 0 = ys.getD i 0) : t_at xs ys p := by
  refine t_lcp_eq _ _ _ (by rw [List.length_drop]; exact hl) (Nat.le_refl _) (fun j hj => ?_) (Or.inr (Or.inl rfl))
  rw [t_getD_drop]
  exact h j hj
theorem kf_EditedText : ∀ j, j < 5 → defaultValue (t_EditedText j) = vp_V [.null, .int 0, .null, .null, .int 0] j := kf_zero (by decide +kernel)
theorem kf_History : ∀ j, j < 4 → defaultValue (t_History j) = vp_V [.null, .null, .int 0, .int 0] j := kf_zero (by decide +kernel)
theorem kf_SuffixOrder : ∀ j, j < 2 → defaultValue (t_SuffixOrder j) = vp_V [.null, .null] j := kf_zero (by decide +kernel)
theorem kf_Edges : ∀ j, j < 2 → defaultValue (t_Edges j) = vp_V [.null, .null] j := kf_zero (by decide +kernel)
theorem kf_Automaton : ∀ j, j < 11 → defaultValue (t_Automaton j) = vp_V [.null, .int 0, .null, .null, .null, .null, .int 0, .null, .int 0, .int 0, .int 0] j := kf_zero (by decide +kernel)
theorem sf_exists (xs : List Nat) : True := trivial
