/-! maps: what stays in order -/
theorem mS_cut {n pl : Nat} {ks : Nat → List Nat} {z : List Nat} (hs : mS n ks) (hpl : pl < n) : mS (n - 1) (mCut ks pl n z) := by
  intro i j hij hj
  unfold mCut va_up sh_dn
  rw [if_neg (show ¬ i = n - 1 by omega), if_neg (show ¬ j = n - 1 by omega)]
  by_cases h1 : pl ≤ i ∧ i < n - 1
  · rw [if_pos h1, if_pos (by omega)]
    exact hs _ _ (by omega) (by omega)
  · rw [if_neg h1]
    by_cases h2 : pl ≤ j ∧ j < n - 1
    · rw [if_pos h2]
      exact hs _ _ (by omega) (by omega)
    · rw [if_neg h2]
      exact hs _ _ hij (by omega)
theorem mS_put {n r : Nat} {ks : Nat → List Nat} {ys : List Nat} (hs : mS n ks) (hr : r ≤ n) (h1 : ∀ j, j < r → t_ord (ks j) ys < 0) (h2 : r < n → 0 ≤ t_ord (ks r) ys) (h3 : ∀ j, j < n → ks j ≠ ys) : mS (n + 1) (mPut ks r n ys) := by
  have h4 : ∀ j, r ≤ j → j < n → t_ord ys (ks j) < 0 := by
    intro j hj hjn
    have a1 := h2 (by omega)
    have a2 : t_ord (ks r) ys ≠ 0 := fun h => h3 r (by omega) (t_ord_eq _ _ h)
    have a3 := t_ord_anti ys (ks r)
    by_cases h5 : j = r
    · rw [h5]; omega
    · exact t_ord_trans ys (ks r) (ks j) (by omega) (hs r j (by omega) hjn)
  intro i j hij hj
  unfold mPut va_up sh_up
  by_cases hi : i = r
  · rw [if_pos hi, if_neg (by omega), if_pos (by omega)]
    exact h4 _ (by omega) (by omega)
  · rw [if_neg hi]
    by_cases hjr : j = r
    · rw [if_pos hjr, if_neg (by omega)]
      exact h1 i (by omega)
    · rw [if_neg hjr]
      by_cases hi2 : r < i ∧ i ≤ n
      · rw [if_pos hi2, if_pos (by omega)]
        exact hs _ _ (by omega) (by omega)
      · rw [if_neg hi2]
        by_cases hj2 : r < j ∧ j ≤ n
        · rw [if_pos hj2]
          by_cases h6 : i = j - 1
          · omega
          · exact hs _ _ (by omega) (by omega)
        · rw [if_neg hj2]
          exact hs _ _ hij (by omega)
theorem mS_inj {n : Nat} {ks : Nat → List Nat} (hs : mS n ks) {i j : Nat} (hi : i < n) (hj : j < n) (h : ks i = ks j) : i = j := Classical.byContradiction (fun h9 => mS_ne hs hi hj h9 h)
/-- where a view has a text -/
def h_none (org : Nat → Option Nat) (srt : Nat → Nat) (bt : Nat → List Nat) (k n : Nat) (ks : Nat → List Nat) (xs : List Nat) : Prop := ¬ v_in org srt bt k xs = true ∨ ∀ j, j < n → ks j ≠ xs
def h_some (org : Nat → Option Nat) (srt : Nat → Nat) (bt : Nat → List Nat) (k n : Nat) (ks : Nat → List Nat) (xs : List Nat) (r : Nat) : Prop := v_in org srt bt k xs = true ∧ r < n ∧ ks r = xs
theorem h_not {org : Nat → Option Nat} {srt : Nat → Nat} {bt : Nat → List Nat} {k n : Nat} {ks : Nat → List Nat} {xs : List Nat} {r : Nat} (h1 : h_none org srt bt k n ks xs) (h2 : h_some org srt bt k n ks xs r) : False := by
  rcases h1 with h | h
  · exact h h2.1
  · exact h r h2.2.1 h2.2.2
theorem h_ok0 (v : Int32) : ¬ h_ok 0 v := fun h => by
  obtain ⟨k, hk, -⟩ := h_okN (by omega) h
  omega
theorem h_nok {c k : Nat} (hk : k < 2 ^ 31) (h : c ≤ k) : ¬ h_ok c (nI k) := fun h9 => by
  obtain ⟨j, hj, e⟩ := h_okN (by omega) h9
  have h1 := congrArg Int32.toInt e
  rw [nI_toInt hk, nI_toInt (by omega)] at h1
  omega
