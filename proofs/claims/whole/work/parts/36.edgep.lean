/-! edges: pure -/
theorem ex_sh : ∀ n, n < 32 → ((nI n &&& 31).toBitVec.smod 32).toNat = n := by decide +kernel
theorem ex_shr {a s : Nat} (ha : a < 2 ^ 31) (hs : s < 32) : nI a >>> (nI s &&& 31) = nI (a / 2 ^ s) := pk_shrN ha _ s (ex_sh s hs)
theorem ex_xor (a b : Nat) : nI a ^^^ nI b = nI (a ^^^ b) := by
  apply Int32.toBitVec_inj.1
  show BitVec.ofNat 32 a ^^^ BitVec.ofNat 32 b = BitVec.ofNat 32 (a ^^^ b)
  apply BitVec.eq_of_getLsbD_eq
  intro i hi
  simp [hi]
/-- how many bytes two texts have in common -/
def e_sb (xs ys : List Nat) : Nat := if t_lcp xs ys = xs.length ∨ t_lcp xs ys = ys.length then 2 * t_lcp xs ys else 2 * t_lcp xs ys + if xs.getD (t_lcp xs ys) 0 / 256 = ys.getD (t_lcp xs ys) 0 / 256 then 1 else 0
theorem e_sb_le {xs ys : List Nat} (h : xs.length ≤ 8) : e_sb xs ys ≤ 17 := by
  have h1 := t_lcp_le1 xs ys
  unfold e_sb
  split
  · omega
  · split <;> omega
/-- no pair ahead has the same text in common -/
def e_new (sb : Nat → Nat) (i : Nat) : Prop := ¬ ∃ j, j < i ∧ sb j = sb i ∧ ∀ t, j < t → t < i → sb i ≤ sb t
noncomputable def e_newd (sb : Nat → Nat) (i : Nat) : Decidable (e_new sb i) := Classical.propDecidable _
theorem e_new_t {sb : Nat → Nat} {i k : Nat} (hk : k ≤ i) (h : ∀ t, k ≤ t → t < i → sb i < sb t) (h2 : 0 < k → sb (k - 1) < sb i) : e_new sb i := by
  rintro ⟨j, h3, h4, h5⟩
  by_cases h6 : k ≤ j
  · have := h j h6 h3
    omega
  · have h7 := h2 (by omega)
    by_cases h8 : j = k - 1
    · rw [h8] at h4
      omega
    · have := h5 (k - 1) (by omega) (by omega)
      omega
theorem e_new_f {sb : Nat → Nat} {i k : Nat} (hk : k ≤ i) (h0 : 0 < k) (h : ∀ t, k ≤ t → t < i → sb i < sb t) (h2 : sb (k - 1) = sb i) : ¬ e_new sb i := by
  intro h3
  refine h3 ⟨k - 1, by omega, h2, fun t h4 h5 => ?_⟩
  have := h t (by omega) h5
  omega
def e_fc (sb : Nat → Nat) (len pairs : Nat) : Nat → Nat → Nat
  | 0, _ => 0
  | f + 1, t => if t < pairs ∧ len ≤ sb t then (if sb t = len then 1 else 0) + e_fc sb len pairs f (t + 1) else 0
theorem e_fc_le (sb : Nat → Nat) (len pairs : Nat) : ∀ f t, e_fc sb len pairs f t ≤ f
  | 0, _ => Nat.le_refl 0
  | f + 1, t => by
    have h := e_fc_le sb len pairs f (t + 1)
    unfold e_fc
    split
    · split <;> omega
    · omega
/-- the fan of what pair i has in common, of pairs in all; the first key of the pair has length k -/
def e_fan (sb : Nat → Nat) (pairs i k : Nat) : Nat := (if 2 * k = sb i then 0 else 1) + e_fc sb (sb i) pairs (pairs - i) i
theorem e_fan_le {sb : Nat → Nat} {pairs i k : Nat} : e_fan sb pairs i k ≤ pairs + 1 := by
  have := e_fc_le sb (sb i) pairs (pairs - i) i
  unfold e_fan
  split <;> omega
/-- the highest bit that is set, from bit s on down -/
def e_hb (x : Nat) : Nat → Nat
  | 0 => 0
  | s + 1 => if x / 2 ^ (s + 1) = 0 then e_hb x s else s + 1
theorem e_hb_le (x : Nat) : ∀ s, e_hb x s ≤ s
  | 0 => Nat.le_refl 0
  | s + 1 => by
    have := e_hb_le x s
    unfold e_hb
    split <;> omega
/-- the first place where two different texts differ, bit by bit -/
def e_fdb (xs ys : List Nat) : Nat := if t_lcp xs ys = xs.length ∨ t_lcp xs ys = ys.length then t_lcp xs ys * 17 else t_lcp xs ys * 17 + 16 - e_hb (xs.getD (t_lcp xs ys) 0 ^^^ ys.getD (t_lcp xs ys) 0) 15
theorem t_lcp_full {xs ys : List Nat} (h1 : t_lcp xs ys = xs.length) (h2 : xs.length = ys.length) : xs = ys := t_ord_eq xs ys (by rw [t_ord_end xs ys (Or.inl h1), h2]; omega)
theorem t_lcp_lt8 {xs ys : List Nat} (hx : xs.length ≤ 8) (hy : ys.length ≤ 8) (hne : xs ≠ ys) : t_lcp xs ys < 8 := by
  have h1 := t_lcp_le1 xs ys
  have h2 := t_lcp_le2 xs ys
  rcases Nat.lt_or_ge (t_lcp xs ys) 8 with h | h
  · exact h
  · exact absurd (t_lcp_full (by omega) (by omega)) hne
theorem e_fdb_lt {xs ys : List Nat} (hx : xs.length ≤ 8) (hy : ys.length ≤ 8) (hne : xs ≠ ys) : e_fdb xs ys < 136 := by
  have h1 := t_lcp_lt8 hx hy hne
  unfold e_fdb
  split <;> omega
def e_has (fd : Nat → Nat) (pl : Nat) : Nat → Nat → Bool
  | 0, _ => false
  | i + 1, b => e_has fd pl i b || (decide (i ≠ pl) && decide (fd i = b))
def e_dep (fd : Nat → Nat) (pl : Nat) : Nat → Nat
  | 0 => 0
  | i + 1 => e_dep fd pl i + if i = pl ∨ e_has fd pl i (fd i) = true then 0 else 1
theorem e_dep_le (fd : Nat → Nat) (pl : Nat) : ∀ n, e_dep fd pl n ≤ n
  | 0 => Nat.le_refl 0
  | n + 1 => by
    have := e_dep_le fd pl n
    unfold e_dep
    split <;> omega
theorem e_has_pl {fd : Nat → Nat} {pl i b : Nat} (h : i = pl) : e_has fd pl (i + 1) b = e_has fd pl i b := by
  rw [e_has]
  simp [h]
theorem e_has_s {fd : Nat → Nat} {pl i b : Nat} (h : i ≠ pl) : e_has fd pl (i + 1) b = (e_has fd pl i b || decide (fd i = b)) := by
  rw [e_has]
  simp [h]
