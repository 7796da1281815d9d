/-! counting over what is only ordered otherwise: pure -/
theorem v_cnt_congr {p q : Nat → Bool} {a b : Nat} : ∀ {n : Nat}, (∀ j, j < n → p (a + j) = q (b + j)) → v_cnt p a n = v_cnt q b n
  | 0, _ => rfl
  | n + 1, h => by
    show v_cnt p a n + _ = v_cnt q b n + _
    rw [v_cnt_congr (n := n) (fun j hj => h j (by omega)), h n (by omega)]
theorem v_cnt_upd {p : Nat → Bool} {a m : Nat} {c : Bool} : ∀ {n : Nat}, m < n → v_cnt (fun x => if x = a + m then c else p x) a n + (if p (a + m) = true then 1 else 0) = v_cnt p a n + if c = true then 1 else 0
  | 0, h => by omega
  | n + 1, h => by
    show v_cnt _ a n + (if (if a + n = a + m then c else p (a + n)) = true then 1 else 0) + _ = v_cnt p a n + _ + _
    by_cases e : m = n
    · subst e
      rw [if_pos rfl, v_cnt_congr (q := p) (b := a) (fun j hj => if_neg (by omega))]
      omega
    · have e2 : (if a + n = a + m then c else p (a + n)) = p (a + n) := if_neg (by omega)
      rw [e2]
      have ih := v_cnt_upd (p := p) (a := a) (m := m) (c := c) (n := n) (by omega)
      omega
theorem v_cnt_bij : ∀ {n : Nat} {p q : Nat → Bool} {a b : Nat} (f : Nat → Nat), (∀ j, j < n → f j < n) → (∀ i j, i < n → j < n → f i = f j → i = j) → (∀ j, j < n → q (b + j) = p (a + f j)) → v_cnt q b n = v_cnt p a n
  | 0, _, _, _, _, _, _, _, _ => rfl
  | n + 1, p, q, a, b, f, h1, h2, h3 => by
    show v_cnt q b n + _ = v_cnt p a n + _
    by_cases e : f n = n
    · rw [v_cnt_bij (n := n) (p := p) (a := a) f (fun j hj => by
        have a1 := h1 j (by omega)
        have a2 : f j ≠ n := fun h => by have := h2 j n (by omega) (by omega) (h.trans e.symm); omega
        omega) (fun i j hi hj h => h2 i j (by omega) (by omega) h) (fun j hj => h3 j (by omega)), h3 n (by omega), e]
    · have hm : f n < n := by have := h1 n (by omega); omega
      have ih := v_cnt_bij (n := n) (p := fun x => if x = a + f n then p (a + n) else p x) (q := q) (a := a) (b := b) (fun j => if f j = n then f n else f j) (fun j hj => by
        have a1 := h1 j (by omega)
        split <;> omega) (fun i j hi hj h => by
        by_cases c1 : f i = n
        · rw [if_pos c1] at h
          by_cases c2 : f j = n
          · exact h2 i j (by omega) (by omega) (c1.trans c2.symm)
          · rw [if_neg c2] at h
            have := h2 n j (by omega) (by omega) h
            omega
        · rw [if_neg c1] at h
          by_cases c2 : f j = n
          · rw [if_pos c2] at h
            have := h2 i n (by omega) (by omega) h
            omega
          · rw [if_neg c2] at h
            exact h2 i j (by omega) (by omega) h) (fun j hj => by
        rw [h3 j (by omega)]
        by_cases c1 : f j = n
        · rw [if_pos c1, if_pos rfl, c1]
        · rw [if_neg c1, if_neg (fun h => by have := h2 j n (by omega) (by omega) (by omega); omega)])
      have hu := v_cnt_upd (p := p) (a := a) (m := f n) (c := p (a + n)) hm
      rw [ih, h3 n (by omega)]
      exact hu
theorem v_cnt_lt (k : Nat) : ∀ n, v_cnt (fun j => decide (j < k)) 0 n = if n ≤ k then n else k
  | 0 => by rw [if_pos (Nat.zero_le _)]; rfl
  | n + 1 => by
    show v_cnt _ 0 n + (if decide (0 + n < k) = true then 1 else 0) = _
    rw [v_cnt_lt k n, Nat.zero_add]
    by_cases h : n < k
    · rw [if_pos (decide_eq_true h), if_pos (by omega), if_pos (by omega)]
    · rw [if_neg (fun h9 => h (of_decide_eq_true h9)), if_neg (show ¬ n + 1 ≤ k by omega)]
      split <;> omega
theorem v_cnt_zero {p : Nat → Bool} {a : Nat} : ∀ {n : Nat}, v_cnt p a n = 0 → ∀ x, x < n → ¬ p (a + x) = true
  | 0, _, x, hx => by omega
  | n + 1, h, x, hx => by
    have h1 : v_cnt p a n + (if p (a + n) = true then 1 else 0) = 0 := h
    by_cases e : x = n
    · subst e
      intro h2
      rw [if_pos h2] at h1
      omega
    · exact v_cnt_zero (n := n) (by omega) x (by omega)
theorem sf_inj {xs : List Nat} {n m : Nat} {st : Nat → Nat} (h : sfP xs n m st) {i j : Nat} (hi : i < m) (hj : j < m) (e : st i = st j) : i = j := by
  rcases Nat.lt_trichotomy i j with h1 | h1 | h1
  · have h2 := h.2.2 i j h1 hj
    rw [e, t_ord_refl] at h2
    omega
  · exact h1
  · have h2 := h.2.2 j i h1 hi
    rw [e, t_ord_refl] at h2
    omega
/-- as many suffixes lie before the one of rank k as k says -/
theorem sf_cnt {xs : List Nat} {n : Nat} {st : Nat → Nat} (h : sfP xs n n st) {k : Nat} (hk : k < n) : v_cnt (fun j => decide (t_ord (xs.drop j) (xs.drop (st k)) < 0)) 0 n = k := by
  rw [← v_cnt_bij (q := fun j => decide (j < k)) (b := 0) st (fun j hj => (h.1 j hj).2) (fun i j hi hj e => sf_inj h hi hj e) (fun j hj => ?_), v_cnt_lt, if_neg (by omega)]
  rw [Nat.zero_add, Nat.zero_add]
  by_cases e : j < k
  · rw [decide_eq_true e, decide_eq_true (h.2.2 j k e hk)]
  · rw [decide_eq_false e]
    refine (decide_eq_false (fun h9 => ?_)).symm
    by_cases e1 : j = k
    · rw [e1, t_ord_refl] at h9
      omega
    · have h8 := h.2.2 k j (by omega) hj
      rw [t_ord_anti] at h8
      omega
theorem t_lcp_dr {xs : List Nat} {a b t : Nat} (ha : a + t ≤ xs.length) (hb : b + t ≤ xs.length) (h : ∀ j, j < t → xs.getD (a + j) 0 = xs.getD (b + j) 0) (hs : a + t = xs.length ∨ b + t = xs.length ∨ xs.getD (a + t) 0 ≠ xs.getD (b + t) 0) : t_lcp (xs.drop a) (xs.drop b) = t := by
  have g : ∀ c j, (xs.drop c).getD j 0 = xs.getD (c + j) 0 := fun c j => by rw [List.getD_eq_getElem?_getD, List.getD_eq_getElem?_getD, List.getElem?_drop]
  refine t_lcp_eq _ _ t (by rw [List.length_drop]; omega) (by rw [List.length_drop]; omega) (fun j hj => by rw [g, g]; exact h j hj) ?_
  rw [g, g, List.length_drop, List.length_drop]
  rcases hs with h1 | h1 | h1
  · exact Or.inl (by omega)
  · exact Or.inr (Or.inl (by omega))
  · exact Or.inr (Or.inr h1)
