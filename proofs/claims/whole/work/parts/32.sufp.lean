/-! sorting suffixes: pure -/
/-- the suffixes from n - m on, in order -/
def sfP (xs : List Nat) (n m : Nat) (st : Nat → Nat) : Prop := (∀ i, i < m → n - m ≤ st i ∧ st i < n) ∧ (∀ p, n - m ≤ p → p < n → ∃ i, i < m ∧ st i = p) ∧ ∀ i j, i < j → j < m → t_ord (xs.drop (st i)) (xs.drop (st j)) < 0
/-- the two arrays while a suffix is put in at r -/
def sfI (F K : Nat → Int32) (n m r : Nat) (st : Nat → Nat) : Prop := (∀ j, j < r → F j = nI (st j)) ∧ (∀ j, r ≤ j → j < m → F (j + 1) = nI (st j)) ∧ (∀ i, i < m → K (st i) = nI (if r ≤ i then i + 1 else i)) ∧ K n = -1
def sf_ins (st : Nat → Nat) (r a : Nat) : Nat → Nat := fun j => if j < r then st j else if j = r then a else st (j - 1)
theorem sfP_0 (xs : List Nat) (n : Nat) (st : Nat → Nat) : sfP xs n 0 st := ⟨fun i h => absurd h (Nat.not_lt_zero i), fun p h1 h2 => by omega, fun i j _ h => absurd h (Nat.not_lt_zero j)⟩
theorem sfP_inj {xs : List Nat} {n m : Nat} {st : Nat → Nat} (h : sfP xs n m st) {i j : Nat} (hi : i < m) (hj : j < m) (e : st i = st j) : i = j := by
  rcases Nat.lt_trichotomy i j with h1 | h1 | h1
  · have := h.2.2 i j h1 hj
    rw [e, t_ord_refl] at this
    omega
  · exact h1
  · have := h.2.2 j i h1 hi
    rw [e, t_ord_refl] at this
    omega
theorem sfP_lt {xs : List Nat} {n m : Nat} {st : Nat → Nat} (h : sfP xs n m st) {i j : Nat} (hi : i < m) (hj : j < m) : i < j ↔ t_ord (xs.drop (st i)) (xs.drop (st j)) < 0 := by
  constructor
  · intro h1
    exact h.2.2 i j h1 hj
  · intro h1
    rcases Nat.lt_trichotomy i j with h2 | h2 | h2
    · exact h2
    · subst h2
      rw [t_ord_refl] at h1
      omega
    · have h3 := h.2.2 j i h2 hi
      have h4 := t_ord_anti (xs.drop (st i)) (xs.drop (st j))
      omega
theorem sf_drop {xs : List Nat} {i : Nat} (h : i < xs.length) : xs.drop i = xs.getD i 0 :: xs.drop (i + 1) := by
  rw [List.drop_eq_getElem_cons h, List.getD_eq_getElem?_getD, List.getElem?_eq_getElem h]
  rfl
/-- what isLess compares -/
def sf_less (xs : List Nat) (K : Nat → Int32) (i j : Nat) : Prop := if xs.getD i 0 = xs.getD j 0 then K (i + 1) < K (j + 1) else xs.getD i 0 < xs.getD j 0
theorem sf_neg1 {k : Nat} (h : k < 2 ^ 31) : (-1 : Int32) < nI k ∧ ¬ nI k < (-1 : Int32) := by
  have e : ((-1 : Int32)).toInt = -1 := by decide
  rw [Int32.lt_iff_toInt_lt, Int32.lt_iff_toInt_lt, nI_toInt h, e]
  omega
theorem sf_less_iff {xs : List Nat} {F K : Nat → Int32} {n m r : Nat} {st : Nat → Nat} (hn : n = xs.length) (hn2 : n < 2 ^ 30) (hP : sfP xs n m st) (hI : sfI F K n m r st) (hm : m < n) {i : Nat} (hi : i < m) : sf_less xs K (n - m - 1) (st i) ↔ t_ord (xs.drop (n - m - 1)) (xs.drop (st i)) < 0 := by
  obtain ⟨b1, b2⟩ := hP.1 i hi
  rw [sf_drop (xs := xs) (i := n - m - 1) (by omega), sf_drop (xs := xs) (i := st i) (by omega), t_ord]
  unfold sf_less
  by_cases he : xs.getD (n - m - 1) 0 = xs.getD (st i) 0
  · rw [if_pos he, if_pos he, show n - m - 1 + 1 = n - m by omega]
    obtain ⟨a, ha, ea⟩ := hP.2.1 (n - m) (Nat.le_refl _) (by omega)
    have ka := hI.2.2.1 a ha
    by_cases hj : st i + 1 = n
    · rw [hj, hI.2.2.2, ← ea, ka, show xs.drop n = [] by rw [hn]; exact List.drop_length]
      constructor
      · intro h9
        exact absurd h9 (sf_neg1 (by split <;> omega)).2
      · intro h9
        rw [sf_drop (xs := xs) (i := st a) (by omega)] at h9
        simp [t_ord] at h9
        omega
    · obtain ⟨d, hd, ed⟩ := hP.2.1 (st i + 1) (by omega) (by omega)
      have kd := hI.2.2.1 d hd
      rw [← ea, ← ed, ka, kd, ← sfP_lt hP ha hd, nI_ltI (by split <;> omega) (by split <;> omega)]
      by_cases h1 : r ≤ a <;> by_cases h2 : r ≤ d <;> simp only [h1, h2, if_true, if_false] <;> omega
  · rw [if_neg he, if_neg he]
    omega
theorem sfI_step {xs : List Nat} {F K : Nat → Int32} {n m r : Nat} {st : Nat → Nat} (hP : sfP xs n m st) (hI : sfI F K n m r st) (h0 : 0 < r) (hr : r ≤ m) : sfI (upd F r (nI (st (r - 1)))) (upd K (st (r - 1)) (nI r)) n m (r - 1) st := by
  obtain ⟨i1, i2, i3, i4⟩ := hI
  refine ⟨fun j hj => ?_, fun j h1 h2 => ?_, fun i hi => ?_, ?_⟩
  · rw [pk_un (by omega)]
    exact i1 j (by omega)
  · by_cases h9 : j + 1 = r
    · rw [h9, pk_us, show r - 1 = j by omega]
    · rw [pk_un h9]
      exact i2 j (by omega) h2
  · by_cases h9 : i = r - 1
    · rw [h9, pk_us, if_pos (by omega)]
      congr 1
      omega
    · rw [pk_un (fun h8 => h9 (sfP_inj hP hi (by omega) h8)), i3 i hi]
      by_cases h8 : r ≤ i
      · rw [if_pos h8, if_pos (by omega)]
      · rw [if_neg h8, if_neg (by omega)]
  · rw [pk_un (fun h8 => by have := (hP.1 (r - 1) (by omega)).2; omega)]
    exact i4
theorem sfI_new {xs : List Nat} {F K : Nat → Int32} {n m r : Nat} {st : Nat → Nat} (hP : sfP xs n m st) (hI : sfI F K n m r st) (hr : r ≤ m) (hm : m < n) : sfI (upd F r (nI (n - m - 1))) (upd K (n - m - 1) (nI r)) n (m + 1) (m + 1) (sf_ins st r (n - m - 1)) := by
  obtain ⟨i1, i2, i3, i4⟩ := hI
  refine ⟨fun j hj => ?_, fun j h1 h2 => by omega, fun i hi => ?_, ?_⟩
  · unfold sf_ins
    by_cases h1 : j < r
    · rw [if_pos h1, pk_un (by omega)]
      exact i1 j h1
    · rw [if_neg h1]
      by_cases h2 : j = r
      · rw [if_pos h2, h2, pk_us]
      · rw [if_neg h2, pk_un h2]
        have := i2 (j - 1) (by omega) (by omega)
        rw [show j - 1 + 1 = j by omega] at this
        exact this
  · rw [if_neg (by omega)]
    unfold sf_ins
    by_cases h1 : i < r
    · rw [if_pos h1, pk_un (by have := (hP.1 i (by omega)).1; omega), i3 i (by omega), if_neg (by omega)]
    · rw [if_neg h1]
      by_cases h2 : i = r
      · rw [if_pos h2, pk_us, h2]
      · rw [if_neg h2, pk_un (by have := (hP.1 (i - 1) (by omega)).1; omega), i3 (i - 1) (by omega), if_pos (by omega)]
        congr 1
        omega
  · rw [pk_un (by omega)]
    exact i4
theorem sfP_new {xs : List Nat} {n m r : Nat} {st : Nat → Nat} (hn : n = xs.length) (hP : sfP xs n m st) (hr : r ≤ m) (hm : m < n) (h1 : ∀ i, r ≤ i → i < m → t_ord (xs.drop (n - m - 1)) (xs.drop (st i)) < 0) (h2 : 0 < r → ¬ t_ord (xs.drop (n - m - 1)) (xs.drop (st (r - 1))) < 0) : sfP xs n (m + 1) (sf_ins st r (n - m - 1)) := by
  have hlow : ∀ i, i < r → t_ord (xs.drop (st i)) (xs.drop (n - m - 1)) < 0 := by
    intro i hi
    have a1 := h2 (by omega)
    have a2 := t_ord_anti (xs.drop (n - m - 1)) (xs.drop (st (r - 1)))
    have a3 : t_ord (xs.drop (n - m - 1)) (xs.drop (st (r - 1))) ≠ 0 := by
      intro h9
      have h8 := congrArg List.length (t_ord_eq _ _ h9)
      have h7 := hP.1 (r - 1) (by omega)
      simp at h8
      omega
    have a4 : t_ord (xs.drop (st (r - 1))) (xs.drop (n - m - 1)) < 0 := by omega
    by_cases h9 : i = r - 1
    · rw [h9]
      exact a4
    · exact t_ord_trans _ _ _ (hP.2.2 i (r - 1) (by omega) (by omega)) a4
  refine ⟨fun i hi => ?_, fun p hp1 hp2 => ?_, fun i j hij hj => ?_⟩
  · unfold sf_ins
    by_cases h3 : i < r
    · rw [if_pos h3]
      have := hP.1 i (by omega)
      omega
    · rw [if_neg h3]
      by_cases h4 : i = r
      · rw [if_pos h4]
        omega
      · rw [if_neg h4]
        have := hP.1 (i - 1) (by omega)
        omega
  · by_cases h3 : p = n - m - 1
    · exact ⟨r, by omega, by unfold sf_ins; rw [if_neg (by omega), if_pos rfl, h3]⟩
    · obtain ⟨i, hi, ei⟩ := hP.2.1 p (by omega) hp2
      by_cases h4 : i < r
      · exact ⟨i, by omega, by unfold sf_ins; rw [if_pos h4, ei]⟩
      · exact ⟨i + 1, by omega, by unfold sf_ins; rw [if_neg (by omega), if_neg (by omega), show i + 1 - 1 = i by omega, ei]⟩
  · unfold sf_ins
    by_cases h3 : i < r
    · rw [if_pos h3]
      by_cases h4 : j < r
      · rw [if_pos h4]
        exact hP.2.2 i j hij (by omega)
      · rw [if_neg h4]
        by_cases h5 : j = r
        · rw [if_pos h5]
          exact hlow i h3
        · rw [if_neg h5]
          exact hP.2.2 i (j - 1) (by omega) (by omega)
    · rw [if_neg h3]
      by_cases h6 : i = r
      · rw [if_pos h6, if_neg (by omega), if_neg (by omega)]
        exact h1 (j - 1) (by omega) (by omega)
      · rw [if_neg h6, if_neg (by omega), if_neg (by omega)]
        exact hP.2.2 (i - 1) (j - 1) (by omega) (by omega)
theorem gs_pos {k : Nat} (h : 0 < k) : nI k - 1 = nI (k - 1) := pk_sub (a := k) (b := 1) h
theorem gs_lt {k : Nat} (hk : k < 2 ^ 30) (h : nI k - 1 < 0) : k = 0 := by
  rcases Nat.eq_zero_or_pos k with h9 | h9
  · exact h9
  · rw [gs_pos h9] at h
    exact absurd h (nI_pos (by omega))
theorem gs_nlt {k : Nat} (h : ¬ nI k - 1 < 0) : 0 < k := by
  rcases Nat.eq_zero_or_pos k with h9 | h9
  · rw [h9] at h
    exact absurd (by decide) h
  · exact h9
theorem gs_inc (x : Int32) : x + Int32.ofInt (-1) = x - 1 := by
  rw [Int32.sub_eq_add_neg]
  rfl
