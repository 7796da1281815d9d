/-! bits of a text: pure -/
theorem e_hb_top (x : Nat) : ∀ s, x / 2 ^ (s + 1) = 0 → x / 2 ^ (e_hb x s + 1) = 0
  | 0, h => h
  | s + 1, h => by
    unfold e_hb
    split
    · rename_i h1
      exact e_hb_top x s h1
    · exact h
theorem e_hb_set {x : Nat} (h : x ≠ 0) : ∀ s, x / 2 ^ (e_hb x s) ≠ 0
  | 0 => by show x / 2 ^ 0 ≠ 0; rw [Nat.pow_zero, Nat.div_one]; exact h
  | s + 1 => by
    unfold e_hb
    split
    · exact e_hb_set h s
    · rename_i h1
      exact h1
theorem xor_bit (a b k : Nat) : ((a ^^^ b) / 2 ^ k % 2 = 1) ↔ ¬ (a / 2 ^ k % 2 = b / 2 ^ k % 2) := by
  have h := Nat.testBit_xor a b k
  rw [Nat.testBit_eq_decide_div_mod_eq, Nat.testBit_eq_decide_div_mod_eq, Nat.testBit_eq_decide_div_mod_eq] at h
  have h1 : a / 2 ^ k % 2 < 2 := Nat.mod_lt _ (by decide)
  have h2 : b / 2 ^ k % 2 < 2 := Nat.mod_lt _ (by decide)
  rcases (show a / 2 ^ k % 2 = 0 ∨ a / 2 ^ k % 2 = 1 by omega) with e1 | e1 <;> rcases (show b / 2 ^ k % 2 = 0 ∨ b / 2 ^ k % 2 = 1 by omega) with e2 | e2 <;> rw [e1, e2] at h ⊢ <;> simp at h ⊢ <;> omega
/-- bit i of a text: each letter has 17, the first of them set -/
def d_bt (xs : List Nat) (i : Nat) : Nat := if xs.length ≤ i / 17 then 0 else if i % 17 = 0 then 1 else xs.getD (i / 17) 0 / 2 ^ (16 - i % 17) % 2
theorem d_bt_lt (xs : List Nat) (i : Nat) : d_bt xs i < 2 := by
  unfold d_bt
  split
  · omega
  · split
    · omega
    · exact Nat.mod_lt _ (by decide)
theorem div_pow_0 {x a b : Nat} (h : x / 2 ^ a = 0) (hab : a ≤ b) : x / 2 ^ b = 0 := by
  obtain ⟨c, rfl⟩ : ∃ c, b = a + c := ⟨b - a, by omega⟩
  rw [Nat.pow_add, ← Nat.div_div_eq_div_mul, h, Nat.zero_div]
theorem xor_lt {x y : Nat} (hx : x < 65536) (hy : y < 65536) : x ^^^ y < 2 ^ 16 := Nat.xor_lt_two_pow hx hy
theorem xor_ne {x y : Nat} (h : x ≠ y) : x ^^^ y ≠ 0 := fun h1 => h (by
  have h2 := congrArg (· ^^^ y) h1
  simpa [Nat.xor_assoc] using h2)
theorem d_bt_same {xs ys : List Nat} (hx : ∀ z ∈ xs, z < 65536) (hy : ∀ z ∈ ys, z < 65536) {i : Nat} (hi : i < e_fdb xs ys) : d_bt xs i = d_bt ys i := by
  have l1 := t_lcp_le1 xs ys
  have l2 := t_lcp_le2 xs ys
  unfold e_fdb at hi
  by_cases hc : i / 17 < t_lcp xs ys
  · unfold d_bt
    rw [if_neg (show ¬ xs.length ≤ i / 17 by omega), if_neg (show ¬ ys.length ≤ i / 17 by omega), t_lcp_same xs ys _ hc]
  · split at hi
    · omega
    · rename_i hne
      have hcc : i / 17 = t_lcp xs ys := by omega
      unfold d_bt
      rw [if_neg (show ¬ xs.length ≤ i / 17 by omega), if_neg (show ¬ ys.length ≤ i / 17 by omega), hcc]
      by_cases hr : i % 17 = 0
      · rw [if_pos hr, if_pos hr]
      · rw [if_neg hr, if_neg hr]
        have b1 := xor_lt (t_lt hx (t_lcp xs ys)) (t_lt hy (t_lcp xs ys))
        have b2 := e_hb_top _ 15 (Nat.div_eq_of_lt b1)
        have b3 := div_pow_0 (b := 16 - i % 17) b2 (by omega)
        have b4 := xor_bit (xs.getD (t_lcp xs ys) 0) (ys.getD (t_lcp xs ys) 0) (16 - i % 17)
        rw [b3] at b4
        exact Decidable.not_not.mp (fun h9 => absurd (b4.mpr h9) (by decide))
theorem d_bt_diff {xs ys : List Nat} (hx : ∀ z ∈ xs, z < 65536) (hy : ∀ z ∈ ys, z < 65536) (hne : xs ≠ ys) : ¬ d_bt xs (e_fdb xs ys) = d_bt ys (e_fdb xs ys) := by
  have l1 := t_lcp_le1 xs ys
  have l2 := t_lcp_le2 xs ys
  unfold e_fdb
  split
  · rename_i h
    have hl : xs.length ≠ ys.length := fun h9 => hne (t_ord_eq xs ys (by rw [t_ord_end xs ys h, h9]; omega))
    unfold d_bt
    rw [Nat.mul_div_cancel _ (by decide : 0 < 17), Nat.mul_mod_left]
    simp only [if_true]
    split <;> split <;> omega
  · rename_i h
    have s1 := t_lcp_stop xs ys (by omega) (by omega)
    have b0 := e_hb_le (xs.getD (t_lcp xs ys) 0 ^^^ ys.getD (t_lcp xs ys) 0) 15
    have b1 := xor_lt (t_lt hx (t_lcp xs ys)) (t_lt hy (t_lcp xs ys))
    have b2 := e_hb_top _ 15 (Nat.div_eq_of_lt b1)
    have b3 := e_hb_set (xor_ne s1) 15
    have b4 := xor_bit (xs.getD (t_lcp xs ys) 0) (ys.getD (t_lcp xs ys) 0) (e_hb (xs.getD (t_lcp xs ys) 0 ^^^ ys.getD (t_lcp xs ys) 0) 15)
    rw [Nat.pow_succ, ← Nat.div_div_eq_div_mul] at b2
    have b5 := b4.mp (by omega)
    have e1 : (t_lcp xs ys * 17 + 16 - e_hb (xs.getD (t_lcp xs ys) 0 ^^^ ys.getD (t_lcp xs ys) 0) 15) / 17 = t_lcp xs ys := by omega
    have e2 : (t_lcp xs ys * 17 + 16 - e_hb (xs.getD (t_lcp xs ys) 0 ^^^ ys.getD (t_lcp xs ys) 0) 15) % 17 = 16 - e_hb (xs.getD (t_lcp xs ys) 0 ^^^ ys.getD (t_lcp xs ys) 0) 15 := by omega
    unfold d_bt
    rw [e1, e2, if_neg (show ¬ xs.length ≤ t_lcp xs ys by omega), if_neg (show ¬ ys.length ≤ t_lcp xs ys by omega), if_neg (by omega), if_neg (by omega), show 16 - (16 - e_hb (xs.getD (t_lcp xs ys) 0 ^^^ ys.getD (t_lcp xs ys) 0) 15) = e_hb (xs.getD (t_lcp xs ys) 0 ^^^ ys.getD (t_lcp xs ys) 0) 15 by omega]
    exact b5
