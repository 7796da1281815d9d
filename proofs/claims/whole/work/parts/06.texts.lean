/-! texts: what two have in common, and their order -/
def t_lcp : List Nat → List Nat → Nat
  | x :: xs, y :: ys => if x = y then t_lcp xs ys + 1 else 0
  | _, _ => 0
theorem t_lcp_le1 : ∀ xs ys : List Nat, t_lcp xs ys ≤ xs.length
  | [], ys => by simp [t_lcp]
  | x :: xs, [] => by simp [t_lcp]
  | x :: xs, y :: ys => by
    have h := t_lcp_le1 xs ys
    unfold t_lcp
    split
    · simp; omega
    · simp
theorem t_lcp_le2 : ∀ xs ys : List Nat, t_lcp xs ys ≤ ys.length
  | [], ys => by simp [t_lcp]
  | x :: xs, [] => by simp [t_lcp]
  | x :: xs, y :: ys => by
    have h := t_lcp_le2 xs ys
    unfold t_lcp
    split
    · simp; omega
    · simp
theorem t_lcp_eq : ∀ (xs ys : List Nat) (i : Nat), i ≤ xs.length → i ≤ ys.length → (∀ j, j < i → xs.getD j 0 = ys.getD j 0) → (i = xs.length ∨ i = ys.length ∨ xs.getD i 0 ≠ ys.getD i 0) → t_lcp xs ys = i
  | [], ys, i, h1, h2, h3, h4 => by
    have : i = 0 := by simpa using h1
    simp [t_lcp, this]
  | x :: xs, [], i, h1, h2, h3, h4 => by
    have : i = 0 := by simpa using h2
    simp [t_lcp, this]
  | x :: xs, y :: ys, i, h1, h2, h3, h4 => by
    cases i with
    | zero =>
      have hne : x ≠ y := by
        rcases h4 with h | h | h
        · simp at h
        · simp at h
        · simpa using h
      simp [t_lcp, hne]
    | succ i =>
      have hxy : x = y := by simpa using h3 0 (by omega)
      have ih := t_lcp_eq xs ys i (by simpa using h1) (by simpa using h2) (fun j hj => by simpa using h3 (j + 1) (by omega)) (by
        rcases h4 with h | h | h
        · exact Or.inl (by simpa using h)
        · exact Or.inr (Or.inl (by simpa using h))
        · exact Or.inr (Or.inr (by simpa using h)))
      simp [t_lcp, hxy, ih]
theorem t_lcp_same : ∀ (xs ys : List Nat) (j : Nat), j < t_lcp xs ys → xs.getD j 0 = ys.getD j 0
  | [], ys, j, h => by simp [t_lcp] at h
  | x :: xs, [], j, h => by simp [t_lcp] at h
  | x :: xs, y :: ys, j, h => by
    unfold t_lcp at h
    split at h
    · rename_i hxy
      cases j with
      | zero => simpa using hxy
      | succ j => simpa using t_lcp_same xs ys j (by omega)
    · omega
theorem t_lcp_stop : ∀ (xs ys : List Nat), t_lcp xs ys < xs.length → t_lcp xs ys < ys.length → xs.getD (t_lcp xs ys) 0 ≠ ys.getD (t_lcp xs ys) 0
  | [], ys, h, _ => by simp at h
  | x :: xs, [], _, h => by simp at h
  | x :: xs, y :: ys, h1, h2 => by
    unfold t_lcp at h1 h2 ⊢
    split at h1
    · rename_i hxy
      rw [if_pos hxy] at h2 ⊢
      simpa using t_lcp_stop xs ys (by simpa using h1) (by simpa using h2)
    · rename_i hxy
      rw [if_neg hxy]
      simpa using hxy
def t_ord : List Nat → List Nat → Int
  | [], ys => -(ys.length : Int)
  | x :: xs, [] => ((x :: xs).length : Int)
  | x :: xs, y :: ys => if x = y then t_ord xs ys else (x : Int) - (y : Int)
theorem t_ord_end : ∀ (xs ys : List Nat), (t_lcp xs ys = xs.length ∨ t_lcp xs ys = ys.length) → t_ord xs ys = (xs.length : Int) - (ys.length : Int)
  | [], ys, _ => by simp [t_ord]
  | x :: xs, [], _ => by simp [t_ord]
  | x :: xs, y :: ys, h => by
    unfold t_lcp at h
    split at h
    · rename_i hxy
      have ih := t_ord_end xs ys (by rcases h with h | h; exact Or.inl (by simpa using h); exact Or.inr (by simpa using h))
      unfold t_ord
      rw [if_pos hxy, ih]
      simp
      omega
    · simp at h
theorem t_ord_mid : ∀ (xs ys : List Nat), t_lcp xs ys < xs.length → t_lcp xs ys < ys.length → t_ord xs ys = (xs.getD (t_lcp xs ys) 0 : Int) - (ys.getD (t_lcp xs ys) 0 : Int)
  | [], ys, h, _ => by simp at h
  | x :: xs, [], _, h => by simp at h
  | x :: xs, y :: ys, h1, h2 => by
    unfold t_lcp at h1 h2 ⊢
    split at h1
    · rename_i hxy
      rw [if_pos hxy] at h2 ⊢
      unfold t_ord
      rw [if_pos hxy, t_ord_mid xs ys (by simpa using h1) (by simpa using h2)]
      simp
    · rename_i hxy
      rw [if_neg hxy]
      unfold t_ord
      rw [if_neg hxy]
      simp
theorem t_ord_refl : ∀ xs : List Nat, t_ord xs xs = 0
  | [] => by simp [t_ord]
  | x :: xs => by simp [t_ord, t_ord_refl xs]
theorem t_ord_anti : ∀ xs ys : List Nat, t_ord ys xs = - t_ord xs ys
  | [], [] => by simp [t_ord]
  | [], y :: ys => by simp [t_ord]
  | x :: xs, [] => by simp [t_ord]
  | x :: xs, y :: ys => by
    unfold t_ord
    by_cases h : x = y
    · rw [if_pos h, if_pos h.symm, t_ord_anti xs ys]
    · rw [if_neg h, if_neg (fun q => h q.symm)]
      omega
theorem t_ord_eq : ∀ xs ys : List Nat, t_ord xs ys = 0 → xs = ys
  | [], [], _ => rfl
  | [], y :: ys, h => by simp [t_ord] at h; omega
  | x :: xs, [], h => by simp [t_ord] at h; omega
  | x :: xs, y :: ys, h => by
    unfold t_ord at h
    by_cases hxy : x = y
    · rw [if_pos hxy] at h
      rw [hxy, t_ord_eq xs ys h]
    · rw [if_neg hxy] at h
      omega
theorem t_ord_trans : ∀ xs ys zs : List Nat, t_ord xs ys < 0 → t_ord ys zs < 0 → t_ord xs zs < 0
  | [], [], zs, h, _ => by simp [t_ord] at h
  | [], y :: ys, [], _, h => by simp [t_ord] at h; omega
  | [], y :: ys, z :: zs, _, _ => by simp [t_ord]
  | x :: xs, [], zs, h, _ => by simp [t_ord] at h; omega
  | x :: xs, y :: ys, [], _, h => by simp [t_ord] at h; omega
  | x :: xs, y :: ys, z :: zs, h1, h2 => by
    unfold t_ord at h1 h2 ⊢
    by_cases hxy : x = y
    · rw [if_pos hxy] at h1
      by_cases hyz : y = z
      · rw [if_pos hyz] at h2
        rw [if_pos (hxy.trans hyz)]
        exact t_ord_trans xs ys zs h1 h2
      · rw [if_neg hyz] at h2
        rw [if_neg (fun q => hyz (hxy.symm.trans q))]
        omega
    · rw [if_neg hxy] at h1
      by_cases hyz : y = z
      · rw [if_neg (fun q => hxy (q.trans hyz.symm))]
        omega
      · rw [if_neg hyz] at h2
        rw [if_neg (fun q => by omega)]
        omega
theorem t_lt {xs : List Nat} (h : ∀ x ∈ xs, x < 65536) (i : Nat) : xs.getD i 0 < 65536 := by
  rw [List.getD_eq_getElem?_getD]
  cases hi : xs[i]? with
  | none => simp
  | some v => exact h v (List.mem_of_getElem? hi)
theorem t_ord_small {xs ys : List Nat} (h1 : xs.length ≤ 65535) (h2 : ys.length ≤ 65535) (h3 : ∀ x ∈ xs, x < 65536) (h4 : ∀ y ∈ ys, y < 65536) : -65536 < t_ord xs ys ∧ t_ord xs ys < 65536 := by
  by_cases ha : t_lcp xs ys < xs.length
  · by_cases hb : t_lcp xs ys < ys.length
    · rw [t_ord_mid xs ys ha hb]
      have e1 : xs.getD (t_lcp xs ys) 0 < 65536 := by
        exact t_lt h3 _
      have e2 : ys.getD (t_lcp xs ys) 0 < 65536 := by
        exact t_lt h4 _
      omega
    · have := t_lcp_le2 xs ys
      rw [t_ord_end xs ys (Or.inr (by omega))]
      omega
  · have := t_lcp_le1 xs ys
    rw [t_ord_end xs ys (Or.inl (by omega))]
    omega
