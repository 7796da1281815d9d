/-! a KeyMap: its cells and what they say -/
/-- the places of a map's keys: g i is the address of the Key at place i; texts ks, values vs, n of them in use -/
def mA (D : va_G) (q : Nat → ClassId) (H : Heap) (mb n : Nat) (ks : Nat → List Nat) (vs : Nat → Int32) (chg : Nat) : Prop :=
  va_at D CL (mb, .inr (1, [.ref (mb + 1), .ref (mb + 130), .int (nI n), .int (nI chg)])) H ∧ n ≤ 64 ∧
  (∃ (f : Nat → Option Nat) (g : Nat → Nat), va_at D CL (mb + 1, .inl (q 3, 64, .inr (.inr (.inr (.inr f))))) H ∧ (∀ i, i < 64 → f i = some (g i)) ∧ (∀ i, i < 64 → ∃ j, j < 64 ∧ g i = mb + 2 + 2 * j) ∧ (∀ i j, i < 64 → j < 64 → g i = g j → i = j) ∧ ∀ i, i < 64 → kA D q H (g i) (ks i)) ∧
  va_at D CL (mb + 130, .inl (q 0, 64, .inl vs)) H
theorem mA.kept {D : va_G} {q : Nat → ClassId} {H H1 : Heap} {mb n : Nat} {ks : Nat → List Nat} {vs : Nat → Int32} {chg : Nat} (h : mA D q H mb n ks vs chg) (hk : ∀ p : Nat, mb ≤ p → p ≤ mb + 130 → H1[p]? = H[p]?) : mA D q H1 mb n ks vs chg := by
  obtain ⟨ho, hn, ⟨f, g, hf, hfg, hg, hgi, hks⟩, hv⟩ := h
  refine ⟨ho.kept (hk _ (by omega) (by omega)), hn, ⟨f, g, va_at.kept hf (hk _ (by omega) (by omega)), hfg, hg, hgi, fun i hi => ?_⟩, va_at.kept hv (hk _ (by omega) (by omega))⟩
  obtain ⟨j, hj, hgj⟩ := hg i hi
  exact (hks i hi).kept (hk _ (by omega) (by omega)) (hk _ (by omega) (by omega))
/-- the keys in use stand in order -/
def mS (n : Nat) (ks : Nat → List Nat) : Prop := ∀ i j, i < j → j < n → t_ord (ks i) (ks j) < 0
theorem mS_none {n r : Nat} {ks : Nat → List Nat} {ys : List Nat} (hs : mS n ks) (h1 : ∀ j, j < r → t_ord (ks j) ys < 0) (h2 : r < n → 0 < t_ord (ks r) ys) : ∀ j, j < n → ks j ≠ ys := by
  intro j hj e
  rcases Nat.lt_trichotomy j r with h | h | h
  · have := h1 j h
    rw [e, t_ord_refl] at this
    omega
  · subst h
    have := h2 hj
    rw [e, t_ord_refl] at this
    omega
  · have a1 := h2 (by omega)
    have a2 := hs r j h hj
    have a3 := t_ord_anti ys (ks r)
    have a4 := t_ord_trans ys (ks r) (ks j) (by omega) a2
    rw [e, t_ord_refl] at a4
    omega
/-- places from i on, up to n, moved one on -/
def sh_up {α : Type} (f : Nat → α) (i n : Nat) : Nat → α := fun j => if i < j ∧ j ≤ n then f (j - 1) else f j
theorem sh_up_0 {α : Type} (f : Nat → α) (n : Nat) : sh_up f n n = f := by
  funext j
  unfold sh_up
  rw [if_neg (by omega)]
theorem sh_up_s {α : Type} (f : Nat → α) {i n : Nat} (h0 : 0 < i) (hi : i ≤ n) : va_up (sh_up f i n) i (f (i - 1)) = sh_up f (i - 1) n := by
  funext j
  unfold va_up sh_up
  by_cases h : j = i
  · subst h
    rw [if_pos rfl, if_pos (by omega)]
  · rw [if_neg h]
    by_cases h1 : i < j ∧ j ≤ n
    · rw [if_pos h1, if_pos (by omega)]
    · rw [if_neg h1, if_neg (by omega)]
theorem sh_upd (f : Nat → Int32) (k : Nat) (x : Int32) : upd f k x = va_up f k x := rfl
theorem sh_up_at {α : Type} (f : Nat → α) {i n : Nat} (h0 : 0 < i) : sh_up f i n (i - 1) = f (i - 1) := by
  unfold sh_up
  rw [if_neg (by omega)]
/-- places from p on, up to n, moved one back -/
def sh_dn {α : Type} (f : Nat → α) (p i : Nat) : Nat → α := fun j => if p ≤ j ∧ j < i then f (j + 1) else f j
theorem sh_dn_0 {α : Type} (f : Nat → α) (p : Nat) : sh_dn f p p = f := by
  funext j
  unfold sh_dn
  rw [if_neg (by omega)]
theorem sh_dn_s {α : Type} (f : Nat → α) {p i : Nat} (h : p ≤ i) : va_up (sh_dn f p i) i (f (i + 1)) = sh_dn f p (i + 1) := by
  funext j
  unfold va_up sh_dn
  by_cases h : j = i
  · subst h
    rw [if_pos rfl, if_pos (by omega)]
  · rw [if_neg h]
    by_cases h1 : p ≤ j ∧ j < i
    · rw [if_pos h1, if_pos (by omega)]
    · rw [if_neg h1, if_neg (by omega)]
theorem sh_dn_at {α : Type} (f : Nat → α) {p i : Nat} : sh_dn f p i (i + 1) = f (i + 1) := by
  unfold sh_dn
  rw [if_neg (by omega)]
/-- the map with a key put in at place r -/
def mPut {α : Type} (f : Nat → α) (r n : Nat) (x : α) : Nat → α := va_up (sh_up f r n) r x
/-- the map with place p taken out: it stands behind the others -/
def mCut {α : Type} (f : Nat → α) (p n : Nat) (x : α) : Nat → α := va_up (sh_dn f p (n - 1)) (n - 1) x
theorem gi_ge {r : Int32} (h : 0 ≤ r) : 0 ≤ r.toInt := by simpa using Int32.le_iff_toInt_le.mp h
theorem gi_nge {r : Int32} (h : ¬ 0 ≤ r) : r.toInt < 0 := by
  have := mt Int32.le_iff_toInt_le.mpr h
  simpa using this
theorem gi_eq {r : Int32} (h : r = 0) : r.toInt = 0 := by rw [h]; rfl
theorem gi_ne {r : Int32} (h : ¬ r = 0) : r.toInt ≠ 0 := fun q => h (Int32.toInt_inj.mp (by rw [q]; rfl))
theorem gi_lt {r : Int32} (h : r < 0) : r.toInt < 0 := by simpa using Int32.lt_iff_toInt_lt.mp h
theorem gi_nlt {r : Int32} (h : ¬ r < 0) : 0 ≤ r.toInt := by
  have := mt Int32.lt_iff_toInt_lt.mpr h
  simpa using this
