/-! the edited text and what was kept of it: pictures -/
theorem gn_min {a b : Nat} (ha : a < 2 ^ 31) (hb : b < 2 ^ 31) : (if nI b < nI a then nI b else nI a) = nI (if b < a then b else a) := by
  by_cases h : b < a
  · rw [if_pos h, if_pos ((nI_ltI hb ha).mpr h)]
  · rw [if_neg h, if_neg (fun h9 => h ((nI_ltI hb ha).mp h9))]
theorem gn_max {a b : Nat} (ha : a < 2 ^ 31) (hb : b < 2 ^ 31) : (if nI a < nI b then nI b else nI a) = nI (if a < b then b else a) := by
  by_cases h : a < b
  · rw [if_pos h, if_pos ((nI_ltI ha hb).mpr h)]
  · rw [if_neg h, if_neg (fun h9 => h ((nI_ltI ha hb).mp h9))]
/-- an int array that begins with the text xs -/
def tX (f : Nat → Int32) (xs : List Nat) : Prop := ∀ j, j < xs.length → f j = nI (xs.getD j 0)
def hisA (D : va_G) (q : Nat → ClassId) (H : Heap) (hb : Nat) (us : List (List Nat)) : Prop := ∃ (nw : Nat) (h ln : Nat → Int32),
  va_at D CL (hb, .inr (7, [.ref (hb + 1), .ref (hb + 2), .int (nI nw), .int (nI us.length)])) H ∧ va_at D CL (hb + 1, .inl (q 0, 2400, .inl h)) H ∧ va_at D CL (hb + 2, .inl (q 0, 20, .inl ln)) H ∧ nw < 20 ∧ us.length ≤ 20 ∧
  ∀ i, i < us.length → (us.getD i []).length ≤ 120 ∧ (∀ x ∈ us.getD i [], x < 65536) ∧ ln ((nw + 20 - i) % 20) = nI (us.getD i []).length ∧ ∀ j, j < (us.getD i []).length → h ((nw + 20 - i) % 20 * 120 + j) = nI ((us.getD i []).getD j 0)
theorem hisA.kept {D : va_G} {q : Nat → ClassId} {H H1 : Heap} {hb : Nat} {us : List (List Nat)} (hh : hisA D q H hb us) (hk : ∀ p : Nat, hb ≤ p → p ≤ hb + 2 → H1[p]? = H[p]?) : hisA D q H1 hb us := by
  obtain ⟨nw, h, ln, h1, h2, h3, h4⟩ := hh
  exact ⟨nw, h, ln, h1.kept (hk _ (by omega) (by omega)), va_at.kept h2 (hk _ (by omega) (by omega)), va_at.kept h3 (hk _ (by omega) (by omega)), h4⟩
/-- the rows of the ring behind a new one -/
theorem his_push {nw n : Nat} {h ln f : Nat → Int32} {us : List (List Nat)} {xs : List Nat} (hnw : nw < 20) (hus : us.length ≤ 20) (hn : n = xs.length) (hx : xs.length ≤ 120) (hxc : ∀ x ∈ xs, x < 65536) (hf : tX f xs)
    (hr : ∀ i, i < us.length → (us.getD i []).length ≤ 120 ∧ (∀ x ∈ us.getD i [], x < 65536) ∧ ln ((nw + 20 - i) % 20) = nI (us.getD i []).length ∧ ∀ j, j < (us.getD i []).length → h ((nw + 20 - i) % 20 * 120 + j) = nI ((us.getD i []).getD j 0))
    (nw' : Nat) (hnw' : nw' = (nw + 1) % 20) : ∀ i, i < ((xs :: us).take 20).length → (((xs :: us).take 20).getD i []).length ≤ 120 ∧ (∀ x ∈ ((xs :: us).take 20).getD i [], x < 65536) ∧ upd ln nw' (nI n) ((nw' + 20 - i) % 20) = nI (((xs :: us).take 20).getD i []).length ∧ ∀ j, j < (((xs :: us).take 20).getD i []).length → va_cpy f h 0 (nw' * 120) n ((nw' + 20 - i) % 20 * 120 + j) = nI ((((xs :: us).take 20).getD i []).getD j 0) := by
  intro i hi
  have hi20 : i < 20 := by simp at hi; omega
  cases i with
  | zero =>
    have e0 : ((xs :: us).take 20).getD 0 [] = xs := rfl
    rw [e0, show (nw' + 20 - 0) % 20 = nw' by omega]
    refine ⟨hx, hxc, ?_, fun j hj => ?_⟩
    · rw [pk_us, hn]
    · rw [pk_cpy_in (by omega) (by omega), show 0 + (nw' * 120 + j - nw' * 120) = j by omega]
      exact hf j hj
  | succ i =>
    have hlen : i < us.length := by simp at hi; omega
    have e1 : ((xs :: us).take 20).getD (i + 1) [] = us.getD i [] := by
      rw [List.getD_eq_getElem?_getD, List.getD_eq_getElem?_getD, List.getElem?_take_of_lt (by omega), List.getElem?_cons_succ]
    obtain ⟨a1, a2, a3, a4⟩ := hr i hlen
    have er : (nw' + 20 - (i + 1)) % 20 = (nw + 20 - i) % 20 := by omega
    have hne : (nw + 20 - i) % 20 ≠ nw' := by omega
    rw [e1, er]
    refine ⟨a1, a2, ?_, fun j hj => ?_⟩
    · rw [pk_un hne, a3]
    · rw [pk_cpy_out (by omega)]
      exact a4 j hj
theorem his_len {xs : List Nat} {us : List (List Nat)} : ((xs :: us).take 20).length = if 20 < us.length + 1 then 20 else us.length + 1 := by
  simp only [List.length_take, List.length_cons]
  split <;> omega
theorem his_pop {nw : Nat} {h ln : Nat → Int32} {u : List Nat} {us : List (List Nat)} (hnw : nw < 20) (hus : (u :: us).length ≤ 20)
    (hr : ∀ i, i < (u :: us).length → ((u :: us).getD i []).length ≤ 120 ∧ (∀ x ∈ (u :: us).getD i [], x < 65536) ∧ ln ((nw + 20 - i) % 20) = nI ((u :: us).getD i []).length ∧ ∀ j, j < ((u :: us).getD i []).length → h ((nw + 20 - i) % 20 * 120 + j) = nI (((u :: us).getD i []).getD j 0))
    (nw' : Nat) (hnw' : nw' = (nw + 19) % 20) : ∀ i, i < us.length → (us.getD i []).length ≤ 120 ∧ (∀ x ∈ us.getD i [], x < 65536) ∧ ln ((nw' + 20 - i) % 20) = nI (us.getD i []).length ∧ ∀ j, j < (us.getD i []).length → h ((nw' + 20 - i) % 20 * 120 + j) = nI ((us.getD i []).getD j 0) := by
  intro i hi
  have h1 := hr (i + 1) (by simp; omega)
  have e1 : (u :: us).getD (i + 1) [] = us.getD i [] := rfl
  have hl : (u :: us).length = us.length + 1 := rfl
  rw [e1, show (nw + 20 - (i + 1)) % 20 = (nw' + 20 - i) % 20 by omega] at h1
  exact h1
/-- the order of suffixes: starts and ranks as far as they are sorted -/
theorem kf_more : True := trivial
