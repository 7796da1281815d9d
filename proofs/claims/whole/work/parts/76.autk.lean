/-! the automaton: the class and the model. wip/texts/ac*.txt -/
theorem a_seg_mem {i sh : Nat} {z : Nat × Nat} : ∀ {c : Nat}, z ∈ a_seg i sh c ↔ z.1 = i ∧ sh ≤ z.2 ∧ z.2 < sh + c
  | 0 => by simp [a_seg]
  | c + 1 => by
    rw [a_seg, List.mem_append, a_seg_mem, List.mem_singleton]
    constructor
    · rintro (⟨a, b, d⟩ | h)
      · exact ⟨a, b, by omega⟩
      · rw [h]; exact ⟨rfl, by show sh ≤ sh + c; omega, by show sh + c < _; omega⟩
    · rintro ⟨a, b, d⟩
      by_cases e : z.2 = sh + c
      · exact Or.inr (Prod.ext a e)
      · exact Or.inl ⟨a, b, by omega⟩
theorem a_pre_mem {ks : Nat → List Nat} {z : Nat × Nat} : ∀ {m : Nat}, z ∈ a_pre ks m ↔ z.1 < m ∧ a_sh ks z.1 ≤ z.2 ∧ z.2 ≤ (ks z.1).length
  | 0 => by simp [a_pre]
  | m + 1 => by
    rw [a_pre, List.mem_append, a_pre_mem, a_seg_mem]
    constructor
    · rintro (⟨a, b⟩ | ⟨a, b, d⟩)
      · exact ⟨by omega, b⟩
      · rw [a]; exact ⟨by omega, b, by omega⟩
    · rintro ⟨a, b, d⟩
      by_cases e : z.1 = m
      · exact Or.inr ⟨e, by rw [← e]; exact b, by rw [← e]; omega⟩
      · exact Or.inl ⟨by omega, b, d⟩
theorem es_mem {es : List (Nat × Nat)} {x : Nat} (h : x < es.length) : (a_f es x, a_n es x) ∈ es := by
  unfold a_f a_n
  rw [List.getD_eq_getElem?_getD, List.getElem?_eq_getElem h]
  exact List.getElem_mem h
theorem es_at {es : List (Nat × Nat)} {z : Nat × Nat} (h : z ∈ es) : ∃ x, x < es.length ∧ a_f es x = z.1 ∧ a_n es x = z.2 := by
  obtain ⟨x, hx, e⟩ := List.getElem_of_mem h
  refine ⟨x, hx, ?_, ?_⟩
  · unfold a_f
    rw [List.getD_eq_getElem?_getD, List.getElem?_eq_getElem hx]
    exact congrArg Prod.fst e
  · unfold a_n
    rw [List.getD_eq_getElem?_getD, List.getElem?_eq_getElem hx]
    exact congrArg Prod.snd e
/-- the text of an entry -/
abbrev a_u (ks : Nat → List Nat) (es : List (Nat × Nat)) (x : Nat) : List Nat := (ks (a_f es x)).take (a_n es x)
/-- the keys, as a set -/
def kS (ks : Nat → List Nat) (n : Nat) (u : List Nat) : Prop := ∃ i, i < n ∧ ks i = u
theorem t_lcp_comm : ∀ xs ys : List Nat, t_lcp xs ys = t_lcp ys xs
  | [], [] => rfl
  | [], y :: ys => by simp [t_lcp]
  | x :: xs, [] => by simp [t_lcp]
  | x :: xs, y :: ys => by
    unfold t_lcp
    by_cases h : x = y
    · rw [if_pos h, if_pos h.symm, t_lcp_comm xs ys]
    · rw [if_neg h, if_neg (fun q => h q.symm)]
/-- to have the first len letters in common -/
theorem t_lcp_ge {xs ys : List Nat} {len : Nat} (hx : len ≤ xs.length) : len ≤ t_lcp ys xs ↔ ys.take len = xs.take len := by
  have h := t_take_lcp ys (xs.take len)
  have hl : (xs.take len).length = len := by rw [List.length_take]; omega
  rw [hl] at h
  rw [← h]
  constructor
  · intro h1
    refine t_lcp_eq ys (xs.take len) len (by have := t_lcp_le1 ys xs; omega) (by omega) (fun j hj => ?_) (Or.inr (Or.inl hl.symm))
    rw [t_lcp_same ys xs j (by omega), List.getD_eq_getElem?_getD, List.getD_eq_getElem?_getD, List.getElem?_take_of_lt hj]
  · intro h1
    by_cases e : len ≤ t_lcp ys xs
    · exact e
    · have hlt : t_lcp ys xs < len := by omega
      have l1 := t_lcp_le1 ys (xs.take len)
      have hne := t_lcp_stop ys xs (by omega) (by omega)
      have hs := t_lcp_same ys (xs.take len) (t_lcp ys xs) (by omega)
      rw [List.getD_eq_getElem?_getD (l := xs.take len), List.getElem?_take_of_lt hlt, ← List.getD_eq_getElem?_getD] at hs
      exact absurd hs hne
section AC
variable {ks : Nat → List Nat} {n : Nat}
/-- the keys that begin with the text of an entry lie one behind another -/
theorem a_rng (hS : mS n ks) {x : Nat} (hx : x < (a_pre ks n).length) {j : Nat} (hj : j < n) : (ks j).take (a_n (a_pre ks n) x) = a_u ks (a_pre ks n) x ↔ a_f (a_pre ks n) x ≤ j ∧ j < a_t ks n (a_pre ks n) x := by
  obtain ⟨m1, m2, m3⟩ := a_pre_mem.mp (es_mem hx)
  obtain ⟨t1, t2, t3⟩ := a_to_ok (ks := ks) (n := n) (fr := a_f (a_pre ks n) x) (len := a_n (a_pre ks n) x) m1 m3
  have r1 := a_toF_run ks n (a_f (a_pre ks n) x) (a_n (a_pre ks n) x) (n - a_f (a_pre ks n) x) (a_f (a_pre ks n) x) (by have : a_f (a_pre ks n) x < n := m1; omega)
  show (ks j).take (a_n (a_pre ks n) x) = (ks (a_f (a_pre ks n) x)).take (a_n (a_pre ks n) x) ↔ _ ∧ j < a_to ks n (a_f (a_pre ks n) x) (a_n (a_pre ks n) x)
  generalize a_f (a_pre ks n) x = i at *
  generalize a_n (a_pre ks n) x = len at *
  have m1 : i < n := m1
  have m3 : len ≤ (ks i).length := m3
  -- convexity: what lies between has the same beginning
  have hconv : ∀ a b c, a ≤ b → b ≤ c → c < n → (ks a).take len = (ks i).take len → (ks c).take len = (ks i).take len → (ks b).take len = (ks i).take len := fun a b c h1 h2 h3 e1 e2 => by
    have hl : ((ks i).take len).length = len := by rw [List.length_take]; omega
    have c1 := (t_take_lcp (ks a) ((ks i).take len)).mpr (by rw [hl]; exact e1)
    have c2 := (t_take_lcp (ks c) ((ks i).take len)).mpr (by rw [hl]; exact e2)
    have c3 := v_ok_conv (s := 0) (b := (ks i).take len) (hS.le h1 (by omega)) (hS.le h2 h3) (decide_eq_true c1) (decide_eq_true c2)
    have c4 := (t_take_lcp (ks b) ((ks i).take len)).mp (of_decide_eq_true c3)
    rw [hl] at c4
    exact c4
  constructor
  · intro h
    refine ⟨?_, ?_⟩
    · by_cases e : i ≤ j
      · exact e
      · have e1 := hconv j (i - 1) i (by omega) (by omega) m1 h rfl
        have e2 := (t_lcp_ge m3).mpr e1
        have m2 : a_sh ks i ≤ len := m2
        unfold a_sh at m2
        rw [if_neg (by omega), t_lcp_comm] at m2
        omega
    · by_cases e : j < a_to ks n i len
      · exact e
      · have e1 := hconv i (a_to ks n i len) j (by omega) (by omega) hj rfl h
        have e2 := (t_lcp_ge m3).mpr e1
        -- but there the run ended
        have hend : ∀ f t, t ≤ n → n - t ≤ f → ¬ (a_toF ks n i len f t < n ∧ len ≤ t_lcp (ks (a_toF ks n i len f t)) (ks i)) := by
          intro f
          induction f with
          | zero => intro t h1 h2 h3; have : a_toF ks n i len 0 t = t := rfl; rw [this] at h3; omega
          | succ f ih =>
            intro t h1 h2
            unfold a_toF
            by_cases c : t < n ∧ len ≤ t_lcp (ks t) (ks i)
            · rw [if_pos c]
              exact ih (t + 1) (by omega) (by omega)
            · rw [if_neg c]
              exact c
        exact absurd ⟨by show a_toF ks n i len (n - i) i < n; have : a_to ks n i len = a_toF ks n i len (n - i) i := rfl; omega, e2⟩ (hend (n - i) i (by omega) (Nat.le_refl _))
  · rintro ⟨h1, h2⟩
    exact (t_lcp_ge m3).mp (r1.2.2 j h1 h2)
/-- every beginning of a key is the text of an entry -/
theorem a_cov {j len : Nat} (hj : j < n) (hl : len ≤ (ks j).length) : ∃ x, x < (a_pre ks n).length ∧ a_u ks (a_pre ks n) x = (ks j).take len ∧ a_n (a_pre ks n) x = len := by
  have key : ∀ j, j < n → len ≤ (ks j).length → ∃ i, i ≤ j ∧ (ks i).take len = (ks j).take len ∧ a_sh ks i ≤ len ∧ len ≤ (ks i).length := by
    intro j
    induction j with
    | zero => intro _ h; exact ⟨0, Nat.le_refl _, rfl, by unfold a_sh; rw [if_pos rfl]; omega, h⟩
    | succ j ih =>
      intro h1 h2
      by_cases e : (ks j).take len = (ks (j + 1)).take len
      · have hl2 : len ≤ (ks j).length := by
          have := congrArg List.length e
          rw [List.length_take, List.length_take] at this
          omega
        obtain ⟨i, a, b, c, d⟩ := ih (by omega) hl2
        exact ⟨i, by omega, b.trans e, c, d⟩
      · refine ⟨j + 1, Nat.le_refl _, rfl, ?_, h2⟩
        unfold a_sh
        rw [if_neg (by omega), show j + 1 - 1 = j by omega, t_lcp_comm]
        have := mt (t_lcp_ge h2).mp e
        omega
  obtain ⟨i, a, b, c, d⟩ := key j hj hl
  obtain ⟨x, x1, x2, x3⟩ := es_at (a_pre_mem (ks := ks) (z := (i, len)) (m := n) |>.mpr ⟨by show i < n; omega, c, d⟩)
  refine ⟨x, x1, ?_, x3⟩
  show (ks (a_f (a_pre ks n) x)).take (a_n (a_pre ks n) x) = _
  rw [x2, x3]
  exact b
/-- what goes on behind the text of an entry -/
theorem a_kS (hS : mS n ks) {x : Nat} (hx : x < (a_pre ks n).length) (v : List Nat) : kS ks n (a_u ks (a_pre ks n) x ++ v) ↔ ∃ j, a_f (a_pre ks n) x ≤ j ∧ j < a_t ks n (a_pre ks n) x ∧ (ks j).drop (a_n (a_pre ks n) x) = v := by
  obtain ⟨m1, m2, m3⟩ := a_pre_mem.mp (es_mem hx)
  have m3 : a_n (a_pre ks n) x ≤ (ks (a_f (a_pre ks n) x)).length := m3
  have ht : a_t ks n (a_pre ks n) x ≤ n := (a_to_ok (ks := ks) (n := n) m1 m3).2.1
  have hl : (a_u ks (a_pre ks n) x).length = a_n (a_pre ks n) x := by
    show ((ks (a_f (a_pre ks n) x)).take (a_n (a_pre ks n) x)).length = _
    rw [List.length_take]; omega
  constructor
  · rintro ⟨j, hj, e⟩
    have e1 : (ks j).take (a_n (a_pre ks n) x) = a_u ks (a_pre ks n) x := by
      rw [e, List.take_left' hl]
    obtain ⟨a, b⟩ := (a_rng hS hx hj).mp e1
    exact ⟨j, a, b, by rw [e, List.drop_left' hl]⟩
  · rintro ⟨j, a, b, e⟩
    refine ⟨j, by omega, ?_⟩
    rw [← (a_rng hS hx (by omega)).mpr ⟨a, b⟩, ← e, List.take_append_drop]
end AC
theorem t_ord_app : ∀ (u v w : List Nat), t_ord (u ++ v) (u ++ w) = t_ord v w
  | [], _, _ => rfl
  | x :: u, v, w => by
    show (if x = x then t_ord (u ++ v) (u ++ w) else (x : Int) - (x : Int)) = _
    rw [if_pos rfl]
    exact t_ord_app u v w
/-- what is sorted and has the same members is the same -/
theorem so_eq {A B : Nat → List Nat} {a b : Nat} (hA : ∀ i j, i < j → j < a → t_ord (A i) (A j) < 0) (hB : ∀ i j, i < j → j < b → t_ord (B i) (B j) < 0) (h1 : ∀ i, i < a → ∃ j, j < b ∧ B j = A i) (h2 : ∀ j, j < b → ∃ i, i < a ∧ A i = B j) : a = b ∧ ∀ i, i < a → A i = B i := by
  have hne : ∀ {C : Nat → List Nat} {c : Nat}, (∀ i j, i < j → j < c → t_ord (C i) (C j) < 0) → ∀ i j, i < c → j < c → C i = C j → i = j := fun {C c} hC i j hi hj e => by
    rcases Nat.lt_trichotomy i j with h | h | h
    · have := hC i j h hj
      rw [e, t_ord_refl] at this
      omega
    · exact h
    · have := hC j i h hi
      rw [e, t_ord_refl] at this
      omega
  have key : ∀ i, i < a → i < b → A i = B i := by
    intro i
    induction i using Nat.strongRecOn with
    | ind i ih =>
      intro ha hb
      obtain ⟨k, k1, k2⟩ := h1 i ha
      obtain ⟨l, l1, l2⟩ := h2 i hb
      have hk : i ≤ k := by
        by_cases e : i ≤ k
        · exact e
        · have e1 := ih k (by omega) (by omega) k1
          have := hne hA k i (by omega) ha (by rw [e1, k2])
          omega
      have hl : i ≤ l := by
        by_cases e : i ≤ l
        · exact e
        · have e1 := ih l (by omega) l1 (by omega)
          have := hne hB l i (by omega) hb (by rw [← e1, l2])
          omega
      by_cases e : k = i
      · rw [← k2, e]
      · have c1 := hB i k (by omega) k1
        rw [k2, ← l2] at c1
        by_cases e2 : l = i
        · rw [e2, t_ord_refl] at c1
          omega
        · have c2 := hA i l (by omega) l1
          rw [t_ord_anti] at c2
          omega
  have hab : a = b := by
    rcases Nat.lt_trichotomy a b with h | h | h
    · obtain ⟨i, i1, i2⟩ := h2 a h
      have := hne hB i a (by omega) h (by rw [← key i i1 (by omega), i2])
      omega
    · exact h
    · obtain ⟨j, j1, j2⟩ := h1 b h
      have := hne hA j b (by omega) h (by rw [key j (by omega) j1, j2])
      omega
  exact ⟨hab, fun i hi => key i hi (by omega)⟩
theorem a_hiF_run (ks : Nat → List Nat) (n fr len : Nat) : ∀ f t m, m ≤ a_hiF ks n fr len f t m ∧ (∀ j, t ≤ j → j < a_toF ks n fr len f t → (ks j).length ≤ a_hiF ks n fr len f t m) ∧ (a_hiF ks n fr len f t m = m ∨ ∃ j, t ≤ j ∧ j < a_toF ks n fr len f t ∧ (ks j).length = a_hiF ks n fr len f t m)
  | 0, t, m => ⟨Nat.le_refl _, fun j h1 h2 => by have : a_toF ks n fr len 0 t = t := rfl; omega, Or.inl rfl⟩
  | f + 1, t, m => by
    unfold a_hiF a_toF
    by_cases c : t < n ∧ len ≤ t_lcp (ks t) (ks fr)
    · rw [if_pos c, if_pos c]
      obtain ⟨h1, h2, h3⟩ := a_hiF_run ks n fr len f (t + 1) (if m < (ks t).length then (ks t).length else m)
      have hm : m ≤ (if m < (ks t).length then (ks t).length else m) ∧ (ks t).length ≤ (if m < (ks t).length then (ks t).length else m) ∧ ((if m < (ks t).length then (ks t).length else m) = m ∨ (if m < (ks t).length then (ks t).length else m) = (ks t).length) := by
        split <;> omega
      have hto : t + 1 ≤ a_toF ks n fr len f (t + 1) := (a_toF_run ks n fr len f (t + 1) (by omega)).1
      generalize (if m < (ks t).length then (ks t).length else m) = m' at *
      refine ⟨by omega, fun j a b => ?_, ?_⟩
      · by_cases e : j = t
        · rw [e]; omega
        · exact h2 j (by omega) b
      · rcases h3 with h | ⟨j, a, b, d⟩
        · rcases hm.2.2 with h4 | h4
          · exact Or.inl (by omega)
          · exact Or.inr ⟨t, Nat.le_refl _, by omega, by omega⟩
        · exact Or.inr ⟨j, by omega, b, d⟩
    · rw [if_neg c, if_neg c]
      exact ⟨Nat.le_refl _, fun j h1 h2 => by omega, Or.inl rfl⟩
section AD
variable {ks : Nat → List Nat} {n : Nat}
theorem a_ent {x : Nat} (hx : x < (a_pre ks n).length) : a_f (a_pre ks n) x < n ∧ a_n (a_pre ks n) x ≤ (ks (a_f (a_pre ks n) x)).length ∧ a_f (a_pre ks n) x < a_t ks n (a_pre ks n) x ∧ a_t ks n (a_pre ks n) x ≤ n ∧ ∀ j, a_f (a_pre ks n) x ≤ j → j < a_t ks n (a_pre ks n) x → a_n (a_pre ks n) x ≤ (ks j).length := by
  obtain ⟨m1, m2, m3⟩ := a_pre_mem.mp (es_mem hx)
  have := a_to_ok (ks := ks) (n := n) m1 m3
  exact ⟨m1, m3, this.1, this.2.1, this.2.2⟩
/-- the keys of an entry, behind its text, are sorted -/
theorem a_drop (hS : mS n ks) {x : Nat} (hx : x < (a_pre ks n).length) {i j : Nat} (hi : a_f (a_pre ks n) x ≤ i) (hij : i < j) (hj : j < a_t ks n (a_pre ks n) x) : t_ord ((ks i).drop (a_n (a_pre ks n) x)) ((ks j).drop (a_n (a_pre ks n) x)) < 0 := by
  obtain ⟨e1, e2, e3, e4, e5⟩ := a_ent hx
  have c1 := (a_rng hS hx (j := i) (by omega)).mpr ⟨hi, by omega⟩
  have c2 := (a_rng hS hx (j := j) (by omega)).mpr ⟨by omega, hj⟩
  have h := hS i j hij (by omega)
  rw [← List.take_append_drop (a_n (a_pre ks n) x) (ks i), ← List.take_append_drop (a_n (a_pre ks n) x) (ks j), c1, c2, t_ord_app] at h
  exact h
/-- two entries are alike just if the same goes on behind both -/
theorem a_al_iff (hS : mS n ks) {x y : Nat} (hx : x < (a_pre ks n).length) (hy : y < (a_pre ks n).length) : a_al ks n (a_pre ks n) x y = true ↔ k_eq (kS ks n) (a_u ks (a_pre ks n) x) (a_u ks (a_pre ks n) y) := by
  obtain ⟨e1, e2, e3, e4, e5⟩ := a_ent hx
  obtain ⟨g1, g2, g3, g4, g5⟩ := a_ent hy
  unfold a_al
  rw [a_alr_iff]
  constructor
  · rintro ⟨h1, h2⟩ v
    rw [a_kS hS hx, a_kS hS hy]
    constructor
    · rintro ⟨j, a, b, c⟩
      refine ⟨a_f (a_pre ks n) y + (j - a_f (a_pre ks n) x), by omega, by omega, ?_⟩
      rw [← h2 _ (by omega), show a_f (a_pre ks n) x + (j - a_f (a_pre ks n) x) = j by omega]
      exact c
    · rintro ⟨j, a, b, c⟩
      refine ⟨a_f (a_pre ks n) x + (j - a_f (a_pre ks n) y), by omega, by omega, ?_⟩
      rw [h2 _ (by omega), show a_f (a_pre ks n) y + (j - a_f (a_pre ks n) y) = j by omega]
      exact c
  · intro h
    have := so_eq (A := fun i => (ks (a_f (a_pre ks n) x + i)).drop (a_n (a_pre ks n) x)) (B := fun i => (ks (a_f (a_pre ks n) y + i)).drop (a_n (a_pre ks n) y)) (a := a_t ks n (a_pre ks n) x - a_f (a_pre ks n) x) (b := a_t ks n (a_pre ks n) y - a_f (a_pre ks n) y)
      (fun i j h1 h2 => a_drop hS hx (by omega) (by omega) (by omega)) (fun i j h1 h2 => a_drop hS hy (by omega) (by omega) (by omega))
      (fun i hi => by
        obtain ⟨j, a, b, c⟩ := (a_kS hS hy _).mp ((h _).mp ((a_kS hS hx ((ks (a_f (a_pre ks n) x + i)).drop (a_n (a_pre ks n) x))).mpr ⟨_, by omega, by omega, rfl⟩))
        exact ⟨j - a_f (a_pre ks n) y, by omega, by show (ks (a_f (a_pre ks n) y + (j - a_f (a_pre ks n) y))).drop _ = _; rw [show a_f (a_pre ks n) y + (j - a_f (a_pre ks n) y) = j by omega]; exact c⟩)
      (fun i hi => by
        obtain ⟨j, a, b, c⟩ := (a_kS hS hx _).mp ((h _).mpr ((a_kS hS hy ((ks (a_f (a_pre ks n) y + i)).drop (a_n (a_pre ks n) y))).mpr ⟨_, by omega, by omega, rfl⟩))
        exact ⟨j - a_f (a_pre ks n) x, by omega, by show (ks (a_f (a_pre ks n) x + (j - a_f (a_pre ks n) x))).drop _ = _; rw [show a_f (a_pre ks n) x + (j - a_f (a_pre ks n) x) = j by omega]; exact c⟩)
    exact this
theorem a_h_le' (hS : mS n ks) {x y : Nat} (hx : x < (a_pre ks n).length) (hy : y < (a_pre ks n).length) (h : k_eq (kS ks n) (a_u ks (a_pre ks n) x) (a_u ks (a_pre ks n) y)) : a_h ks n (a_pre ks n) x ≤ a_h ks n (a_pre ks n) y := by
  obtain ⟨e1, e2, e3, e4, e5⟩ := a_ent hx
  obtain ⟨g1, g2, g3, g4, g5⟩ := a_ent hy
  have r1 := a_hiF_run ks n (a_f (a_pre ks n) x) (a_n (a_pre ks n) x) (n - a_f (a_pre ks n) x) (a_f (a_pre ks n) x) (a_n (a_pre ks n) x)
  have r2 := a_hiF_run ks n (a_f (a_pre ks n) y) (a_n (a_pre ks n) y) (n - a_f (a_pre ks n) y) (a_f (a_pre ks n) y) (a_n (a_pre ks n) y)
  show a_hiF ks n (a_f (a_pre ks n) x) (a_n (a_pre ks n) x) (n - a_f (a_pre ks n) x) (a_f (a_pre ks n) x) (a_n (a_pre ks n) x) - a_n (a_pre ks n) x ≤ a_hiF ks n (a_f (a_pre ks n) y) (a_n (a_pre ks n) y) (n - a_f (a_pre ks n) y) (a_f (a_pre ks n) y) (a_n (a_pre ks n) y) - a_n (a_pre ks n) y
  rcases r1.2.2 with c | ⟨j, a, b, c⟩
  · omega
  · obtain ⟨j', a', b', c'⟩ := (a_kS hS hy _).mp ((h _).mp ((a_kS hS hx ((ks j).drop (a_n (a_pre ks n) x))).mpr ⟨j, a, b, rfl⟩))
    have l1 := congrArg List.length c'
    rw [List.length_drop, List.length_drop] at l1
    have l2 := r2.2.1 j' a' b'
    have l3 := g5 j' a' b'
    have l4 := e5 j a b
    omega
/-- the states of the class: one for each class of prefixes -/
theorem a_fin.two (hS : mS n ks) {us : List Nat} (h : a_fin ks n (a_pre ks n) us) : (∀ a b, a < us.length → b < us.length → k_eq (kS ks n) (a_u ks (a_pre ks n) (us.getD a 0)) (a_u ks (a_pre ks n) (us.getD b 0)) → a = b) ∧ (∀ u, k_pre (kS ks n) u → ∃ a, a < us.length ∧ k_eq (kS ks n) (a_u ks (a_pre ks n) (us.getD a 0)) u) ∧ ∀ a, a < us.length → us.getD a 0 < (a_pre ks n).length := by
  obtain ⟨h1, h2, h3, h4⟩ := h
  have hm : ∀ a, a < us.length → us.getD a 0 < (a_pre ks n).length := fun a ha => h2 _ (a_mem ha)
  have hlt : ∀ a b, a < b → b < us.length → ¬ k_eq (kS ks n) (a_u ks (a_pre ks n) (us.getD a 0)) (a_u ks (a_pre ks n) (us.getD b 0)) := fun a b hab hb he => by
    have hp := List.pairwise_iff_getElem.mp h3 a b (by omega) hb hab
    have ga : us.getD a 0 = us[a]'(by omega) := by rw [List.getD_eq_getElem?_getD, List.getElem?_eq_getElem (by omega)]; rfl
    have gb : us.getD b 0 = us[b]'hb := by rw [List.getD_eq_getElem?_getD, List.getElem?_eq_getElem hb]; rfl
    have ha := hm a (by omega)
    have hb' := hm b hb
    have eh := Nat.le_antisymm (a_h_le' hS ha hb' he) (a_h_le' hS hb' ha he.symm)
    have eal := (a_al_iff hS hb' ha).mpr he.symm
    rw [ga, gb] at eh eal
    exact hp eh eal
  refine ⟨fun a b ha hb he => ?_, fun u hu => ?_, hm⟩
  · rcases Nat.lt_trichotomy a b with h | h | h
    · exact absurd he (hlt a b h hb)
    · exact h
    · exact absurd he.symm (hlt b a h ha)
  · obtain ⟨v, j, hj, e⟩ := hu
    have hl : u.length ≤ (ks j).length := by rw [e, List.length_append]; omega
    obtain ⟨x, x1, x2, x3⟩ := a_cov hj hl
    rw [e, List.take_left] at x2
    obtain ⟨w, w1, w2, w3⟩ := h4 x x1
    obtain ⟨a, ha, ea⟩ := List.getElem_of_mem w1
    have ga : us.getD a 0 = w := by rw [List.getD_eq_getElem?_getD, List.getElem?_eq_getElem ha]; exact ea
    refine ⟨a, ha, ?_⟩
    rw [ga, ← x2]
    rcases w3 with w3 | w3
    · rw [w3]
      exact k_eq.refl _ _
    · exact ((a_al_iff hS x1 (h2 w w1)).mp w3).symm
end AD
def v_sum (w : Nat → Nat) : Nat → Nat
  | 0 => 0
  | n + 1 => v_sum w n + w n
theorem v_sum_congr {w w' : Nat → Nat} : ∀ {n : Nat}, (∀ i, i < n → w i = w' i) → v_sum w n = v_sum w' n
  | 0, _ => rfl
  | n + 1, h => by
    show v_sum w n + w n = v_sum w' n + w' n
    rw [v_sum_congr (n := n) (fun i hi => h i (by omega)), h n (by omega)]
theorem v_sum_upd {w : Nat → Nat} {m c : Nat} : ∀ {n : Nat}, m < n → v_sum (fun x => if x = m then c else w x) n + w m = v_sum w n + c
  | 0, h => by omega
  | n + 1, h => by
    show v_sum _ n + (if n = m then c else w n) + w m = v_sum w n + w n + c
    by_cases e : n = m
    · subst e
      rw [if_pos rfl, v_sum_congr (w' := w) (fun i hi => if_neg (by omega))]
      omega
    · rw [if_neg e]
      have := v_sum_upd (w := w) (m := m) (c := c) (n := n) (by omega)
      omega
theorem v_sum_bij : ∀ {n : Nat} {w w' : Nat → Nat} (f : Nat → Nat), (∀ j, j < n → f j < n) → (∀ i j, i < n → j < n → f i = f j → i = j) → (∀ j, j < n → w' j = w (f j)) → v_sum w' n = v_sum w n
  | 0, _, _, _, _, _, _ => rfl
  | n + 1, w, w', f, h1, h2, h3 => by
    show v_sum w' n + w' n = v_sum w n + w n
    by_cases e : f n = n
    · rw [v_sum_bij (n := n) (w := w) f (fun j hj => by
        have a1 := h1 j (by omega)
        have a2 : f j ≠ n := fun h => by have := h2 j n (by omega) (by omega) (h.trans e.symm); omega
        omega) (fun i j hi hj h => h2 i j (by omega) (by omega) h) (fun j hj => h3 j (by omega)), h3 n (by omega), e]
    · have hm : f n < n := by have := h1 n (by omega); omega
      have ih := v_sum_bij (n := n) (w := fun x => if x = f n then w n else w x) (w' := w') (fun j => if f j = n then f n else f j) (fun j hj => by
        have a1 := h1 j (by omega)
        split <;> omega) (fun i j hi hj h => by
        by_cases c1 : f i = n
        · rw [if_pos c1] at h
          by_cases c2 : f j = n
          · exact h2 i j (by omega) (by omega) (c1.trans c2.symm)
          · rw [if_neg c2] at h
            have := h2 n j (by omega) (by omega) h
            omega
        · rw [if_neg c1] at h
          by_cases c2 : f j = n
          · rw [if_pos c2] at h
            have := h2 i n (by omega) (by omega) h
            omega
          · rw [if_neg c2] at h
            exact h2 i j (by omega) (by omega) h) (fun j hj => by
        rw [h3 j (by omega)]
        by_cases c1 : f j = n
        · rw [if_pos c1, if_pos rfl, c1]
        · rw [if_neg c1, if_neg (fun h => by have := h2 j n (by omega) (by omega) h; omega)])
      have hu := v_sum_upd (w := w) (m := f n) (c := w n) hm
      rw [ih, h3 n (by omega)]
      exact hu
theorem v_sum_cons (w : Nat → Nat) : ∀ n, v_sum w (n + 1) = w 0 + v_sum (fun i => w (i + 1)) n
  | 0 => by show 0 + w 0 = w 0 + 0; omega
  | n + 1 => by
    show v_sum w (n + 1) + w (n + 1) = w 0 + (v_sum (fun i => w (i + 1)) n + w (n + 1))
    rw [v_sum_cons w n]
    omega
theorem a_sum_v (f : Nat → Nat) : ∀ us : List Nat, a_sum f us = v_sum (fun t => f (us.getD t 0)) us.length
  | [] => rfl
  | x :: us => by
    rw [List.length_cons, v_sum_cons]
    show (f x :: us.map f).sum = f x + v_sum (fun t => f (us.getD t 0)) us.length
    rw [List.sum_cons, ← a_sum_v f us]
    rfl
/-- parts of a whole -/
theorem v_part {m : Nat} (f : Nat → Nat) : ∀ {t : Nat}, (∀ k, k < t → f k < m) → t = v_sum (fun s => v_cnt (fun k => decide (f k = s)) 0 t) m
  | 0, _ => by
    have : ∀ m, v_sum (fun _ => 0) m = 0 := fun m => by
      induction m with
      | zero => rfl
      | succ m ih => show v_sum _ m + 0 = 0; rw [ih]
    exact (this m).symm
  | t + 1, h => by
    have ih := v_part f (t := t) (fun k hk => h k (by omega))
    have hu := v_sum_upd (w := fun s => v_cnt (fun k => decide (f k = s)) 0 t) (m := f t) (c := v_cnt (fun k => decide (f k = f t)) 0 t + 1) (n := m) (h t (by omega))
    have e : v_sum (fun s => v_cnt (fun k => decide (f k = s)) 0 (t + 1)) m = v_sum (fun x => if x = f t then v_cnt (fun k => decide (f k = f t)) 0 t + 1 else v_cnt (fun k => decide (f k = x)) 0 t) m := v_sum_congr (fun s _ => by
      rw [v_cnt_s0]
      by_cases c : s = f t
      · rw [if_pos c, c, if_pos (decide_eq_true rfl)]
      · rw [if_neg c, if_neg (fun h9 => c (of_decide_eq_true h9).symm), Nat.add_zero])
    rw [e]
    have hu' : v_sum (fun x => if x = f t then v_cnt (fun k => decide (f k = f t)) 0 t + 1 else v_cnt (fun k => decide (f k = x)) 0 t) m + v_cnt (fun k => decide (f k = f t)) 0 t = v_sum (fun s => v_cnt (fun k => decide (f k = s)) 0 t) m + (v_cnt (fun k => decide (f k = f t)) 0 t + 1) := hu
    omega
/-- how many letters can follow a text -/
noncomputable def k_deg (K : List Nat → Prop) (u : List Nat) : Nat := v_cnt (fun c => @decide (k_pre K (u ++ [c])) (Classical.propDecidable _)) 0 65536
theorem k_deg_eq {K : List Nat → Prop} {u v : List Nat} (h : k_eq K u v) : k_deg K u = k_deg K v := by
  unfold k_deg
  refine v_cnt_congr (fun c _ => ?_)
  have e : k_pre K (u ++ [0 + c]) ↔ k_pre K (v ++ [0 + c]) := ⟨fun h1 => (h.app _).pre h1, fun h1 => (h.symm.app _).pre h1⟩
  by_cases c1 : k_pre K (u ++ [0 + c])
  · rw [@decide_eq_true _ (Classical.propDecidable _) c1, @decide_eq_true _ (Classical.propDecidable _) (e.mp c1)]
  · rw [@decide_eq_false _ (Classical.propDecidable _) c1, @decide_eq_false _ (Classical.propDecidable _) (fun h9 => c1 (e.mpr h9))]
/-- two whole systems of texts, none alike within each: as many, with the same sums -/
theorem two_sys {K : List Nat → Prop} {A B : Nat → List Nat} {a b : Nat} (pA : ∀ i, i < a → k_pre K (A i)) (pB : ∀ i, i < b → k_pre K (B i)) (iA : ∀ i j, i < a → j < a → k_eq K (A i) (A j) → i = j) (iB : ∀ i j, i < b → j < b → k_eq K (B i) (B j) → i = j) (cA : ∀ u, k_pre K u → ∃ i, i < a ∧ k_eq K (A i) u) (cB : ∀ u, k_pre K u → ∃ i, i < b ∧ k_eq K (B i) u) : a = b ∧ ∀ W : List Nat → Nat, (∀ u v, k_eq K u v → W u = W v) → v_sum (fun i => W (A i)) a = v_sum (fun i => W (B i)) b := by
  obtain ⟨F, hF⟩ := k_choose (P := fun i => i < a) (fun i hi => cB _ (pA i hi))
  obtain ⟨G, hG⟩ := k_choose (P := fun i => i < b) (fun i hi => cA _ (pB i hi))
  have hFi : ∀ i j, i < a → j < a → F i = F j → i = j := fun i j hi hj e => iA i j hi hj ((hF i hi).2.symm.trans (by rw [e]; exact (hF j hj).2))
  have hGi : ∀ i j, i < b → j < b → G i = G j → i = j := fun i j hi hj e => iB i j hi hj ((hG i hi).2.symm.trans (by rw [e]; exact (hG j hj).2))
  have h1 := v_cnt_room (m := b) F (t := a) (p := fun _ => false) (fun k hk => ⟨(hF k hk).1, by decide⟩) hFi
  have h2 := v_cnt_room (m := a) G (t := b) (p := fun _ => false) (fun k hk => ⟨(hG k hk).1, by decide⟩) hGi
  have hab : a = b := by omega
  refine ⟨hab, fun W hW => ?_⟩
  subst hab
  exact v_sum_bij F (fun j hj => (hF j hj).1) hFi (fun j hj => hW _ _ (hF j hj).2.symm)
section AM5
variable {K : List Nat → Prop} {kk : Nat → List Nat} {pn : Nat} {pg pl : Nat → Nat}
theorem d_fo_deg (h : k_ps K kk pn pg pl) {x : Nat} (hx : x < pn) : v_cnt (d_fo kk pg pl x) 0 pn = k_deg K (d_pu kk pg pl x) := by
  apply Nat.le_antisymm
  · refine v_cnt_inj (fun y => (kk (pg y)).getD (pl x) 0) (fun y hy hp => ⟨d_let_lt h hy _, @decide_eq_true _ (Classical.propDecidable _) (d_fo_pre h hx hy hp)⟩) (fun i j hi hj h1 h2 e => d_fo_let h hx hi hj h1 h2 e)
  · have hc : ∀ c, @decide (k_pre K (d_pu kk pg pl x ++ [c])) (Classical.propDecidable _) = true → ∃ y, y < pn ∧ d_fo kk pg pl x y = true ∧ (kk (pg y)).getD (pl x) 0 = c := fun c hc => d_fo_c h hx (@of_decide_eq_true _ (Classical.propDecidable _) hc)
    obtain ⟨G, hG⟩ := k_choose (P := fun c => @decide (k_pre K (d_pu kk pg pl x ++ [c])) (Classical.propDecidable _) = true) hc
    exact v_cnt_inj G (fun c _ hp => ⟨(hG c hp).1, (hG c hp).2.1⟩) (fun i j _ _ h1 h2 e => by rw [← (hG i h1).2.2, e, (hG j h2).2.2])
theorem d_aI.sum {sN tN : Nat} {f1 f2 f3 f4 f5 : Nat → Int32} {rp sq : Nat → Nat} {pr : Nat → Prop} (hP : k_ps K kk pn pg pl) (h : d_aI K kk pn pg pl pr sN tN f1 f2 f3 f4 f5 rp sq) (hs : sN < 2 ^ 31) : tN = v_sum (fun s => k_deg K (d_pu kk pg pl (rp s))) sN := by
  obtain ⟨F, hF⟩ := k_choose (P := fun k => k < tN) (Q := fun k s => s < sN ∧ f3 k = nI s) (fun k hk => by
    obtain ⟨_, s, a, b, _⟩ := h.2.2.2.2.1 k hk
    exact ⟨s, a, b⟩)
  have e := v_part F (m := sN) (t := tN) (fun k hk => (hF k hk).1)
  rw [← v_sum_congr (w := fun s => v_cnt (fun k => decide (F k = s)) 0 tN) (fun s hs1 => ?_)]
  · exact e
  · show v_cnt (fun k => decide (F k = s)) 0 tN = _
    rw [← d_fo_deg hP (h.1 s hs1).1, ← h.cnt hP hs hs1]
    refine v_cnt_congr (fun k hk => ?_)
    show decide (F (0 + k) = s) = decide (f3 (0 + k) = nI s)
    rw [Nat.zero_add, Bool.eq_iff_iff, decide_eq_true_iff, decide_eq_true_iff, (hF k hk).2, nI_eq (by have := (hF k hk).1; omega) (by omega)]
end AM5
/-- whether one of the first k keys from f on goes on with letter c behind len letters -/
def a_hs (ks : Nat → List Nat) (f len c : Nat) : Nat → Bool
  | 0 => false
  | k + 1 => a_hs ks f len c k || (decide (len < (ks (f + k)).length) && decide ((ks (f + k)).getD len 0 = c))
theorem a_hs_iff {ks : Nat → List Nat} {f len c : Nat} : ∀ m, a_hs ks f len c m = true ↔ ∃ k, k < m ∧ len < (ks (f + k)).length ∧ (ks (f + k)).getD len 0 = c
  | 0 => ⟨fun h => (by cases h), fun ⟨k, h, _⟩ => absurd h (Nat.not_lt_zero k)⟩
  | m + 1 => by
    show (a_hs ks f len c m || _) = true ↔ _
    rw [Bool.or_eq_true, Bool.and_eq_true, decide_eq_true_iff, decide_eq_true_iff, a_hs_iff m]
    constructor
    · rintro (⟨k, a, b⟩ | ⟨a, b⟩)
      · exact ⟨k, by omega, b⟩
      · exact ⟨m, by omega, a, b⟩
    · rintro ⟨k, a, b, d⟩
      by_cases e : k = m
      · subst e
        exact Or.inr ⟨b, d⟩
      · exact Or.inl ⟨k, by omega, b, d⟩
theorem a_lat_run {ks : Nat → List Nat} {f len : Nat} : ∀ m, (a_lat ks len f (f + m) = none ∧ ∀ k, k < m → ¬ len < (ks (f + k)).length) ∨ ∃ k, k < m ∧ len < (ks (f + k)).length ∧ a_lat ks len f (f + m) = some ((ks (f + k)).getD len 0) ∧ ∀ j, k < j → j < m → ¬ len < (ks (f + j)).length
  | 0 => Or.inl ⟨a_lat_0, fun k h => absurd h (Nat.not_lt_zero k)⟩
  | m + 1 => by
    by_cases c : len < (ks (f + m)).length
    · exact Or.inr ⟨m, by omega, c, a_lat_t (i := f + m) (by omega) c, fun j h1 h2 => by omega⟩
    · have e : a_lat ks len f (f + (m + 1)) = a_lat ks len f (f + m) := a_lat_f (i := f + m) (by omega) (by omega)
      rw [e]
      rcases a_lat_run (ks := ks) (f := f) (len := len) m with ⟨a, b⟩ | ⟨k, a, b, d, g⟩
      · exact Or.inl ⟨a, fun k hk => by
          by_cases e1 : k = m
          · rw [e1]; exact c
          · exact b k (by omega)⟩
      · exact Or.inr ⟨k, by omega, b, d, fun j h1 h2 => by
          by_cases e1 : j = m
          · rw [e1]; exact c
          · exact g j h1 (by omega)⟩
theorem t_hd_le {xs ys : List Nat} {len : Nat} (hx : len < xs.length) (hy : len < ys.length) (h : t_ord (xs.drop len) (ys.drop len) < 0) : xs.getD len 0 ≤ ys.getD len 0 := by
  have ex : xs.drop len = xs.getD len 0 :: xs.drop (len + 1) := by
    rw [List.drop_eq_getElem_cons hx, List.getD_eq_getElem?_getD, List.getElem?_eq_getElem hx]
    rfl
  have ey : ys.drop len = ys.getD len 0 :: ys.drop (len + 1) := by
    rw [List.drop_eq_getElem_cons hy, List.getD_eq_getElem?_getD, List.getElem?_eq_getElem hy]
    rfl
  rw [ex, ey] at h
  unfold t_ord at h
  by_cases e : xs.getD len 0 = ys.getD len 0
  · omega
  · rw [if_neg e] at h
    omega
section AF
variable {ks : Nat → List Nat} {n : Nat}
theorem a_stp_deg (hS : mS n ks) (h16 : ∀ i, i < n → t16 (ks i)) {x : Nat} (hx : x < (a_pre ks n).length) : a_stp ks n (a_pre ks n) x = k_deg (kS ks n) (a_u ks (a_pre ks n) x) := by
  obtain ⟨e1, e2, e3, e4, e5⟩ := a_ent hx
  have hd := fun i j => a_drop hS hx (i := i) (j := j)
  have hk := a_kS hS hx
  show a_fol ks (a_n (a_pre ks n) x) (a_f (a_pre ks n) x) (a_t ks n (a_pre ks n) x) = _
  unfold k_deg
  generalize a_u ks (a_pre ks n) x = u at *
  generalize a_n (a_pre ks n) x = len at *
  generalize a_f (a_pre ks n) x = f at *
  generalize a_t ks n (a_pre ks n) x = t at *
  -- letters go up
  have hup : ∀ i j, i < j → f + j < t → len < (ks (f + i)).length → len < (ks (f + j)).length → (ks (f + i)).getD len 0 ≤ (ks (f + j)).getD len 0 := fun i j h1 h2 h3 h4 => t_hd_le h3 h4 (hd _ _ (by omega) (by omega) h2)
  have hq : ∀ m, a_fol ks len f (f + m) = v_cnt (fun k => decide (len < (ks (f + k)).length ∧ a_lat ks len f (f + k) ≠ some ((ks (f + k)).getD len 0))) 0 m := by
    intro m
    induction m with
    | zero => exact a_fol_0
    | succ m ih =>
      rw [v_cnt_s0, ← ih]
      show a_fol ks len f (f + m + 1) = _
      by_cases c : len < (ks (f + m)).length ∧ a_lat ks len f (f + m) ≠ some ((ks (f + m)).getD len 0)
      · rw [if_pos (decide_eq_true c)]
        exact a_fol_t (by omega) c.1 c.2
      · rw [if_neg (fun h9 => c (of_decide_eq_true h9)), Nat.add_zero]
        exact a_fol_f (by omega) c
  have hh := v_cnt_dist (M := 65536) (fun k => (ks (f + k)).getD len 0) (fun k => decide (len < (ks (f + k)).length)) (fun k => decide (len < (ks (f + k)).length ∧ a_lat ks len f (f + k) ≠ some ((ks (f + k)).getD len 0))) (fun c k => a_hs ks f len c k) (fun _ => rfl) (fun _ _ => rfl) (t - f) (fun k hk' hp => t_lt (h16 _ (by omega)) _) (fun k hk' => by
    rw [decide_eq_true_iff, decide_eq_true_iff, a_hs_iff]
    refine and_congr_right (fun hl => not_congr ⟨fun h => ?_, fun h => ?_⟩)
    · rcases a_lat_run (ks := ks) (f := f) (len := len) k with ⟨a, b⟩ | ⟨j, a, b, d, g⟩
      · rw [a] at h; cases h
      · exact ⟨j, a, b, Option.some.inj (d.symm.trans h)⟩
    · obtain ⟨i, i1, i2, i3⟩ := h
      rcases a_lat_run (ks := ks) (f := f) (len := len) k with ⟨a, b⟩ | ⟨j, a, b, d, g⟩
      · exact absurd i2 (b i i1)
      · rw [d]
        have c1 := hup j k a (by omega) b hl
        by_cases e : i = j
        · rw [← i3, e]
        · by_cases e' : j < i
          · exact absurd i2 (g i e' i1)
          · have c2 := hup i j (by omega) (by omega) i2 b
            exact congrArg some (by omega))
  have h0 := hq (t - f)
  rw [show f + (t - f) = t by omega] at h0
  rw [h0, ← hh]
  refine v_cnt_congr (fun c _ => ?_)
  rw [Nat.zero_add, Bool.eq_iff_iff, a_hs_iff]
  rw [show (@decide (k_pre (kS ks n) (u ++ [c])) (Classical.propDecidable _) = true) ↔ k_pre (kS ks n) (u ++ [c]) from ⟨fun h => @of_decide_eq_true _ (Classical.propDecidable _) h, fun h => @decide_eq_true _ (Classical.propDecidable _) h⟩]
  constructor
  · rintro ⟨k, a, b, d⟩
    refine ⟨(ks (f + k)).drop (len + 1), ?_⟩
    rw [List.append_assoc, hk]
    refine ⟨f + k, by omega, by omega, ?_⟩
    rw [List.drop_eq_getElem_cons b, ← d, List.getD_eq_getElem?_getD, List.getElem?_eq_getElem b]
    rfl
  · rintro ⟨v, hv⟩
    rw [List.append_assoc, hk] at hv
    obtain ⟨j, a, b, d⟩ := hv
    have hl := congrArg List.length d
    rw [List.length_drop] at hl
    have hl' : ([c] ++ v).length = v.length + 1 := by simp
    have hlen : len < (ks j).length := by omega
    refine ⟨j - f, by omega, ?_, ?_⟩
    · rw [show f + (j - f) = j by omega]; exact hlen
    · rw [show f + (j - f) = j by omega]
      rw [List.drop_eq_getElem_cons hlen] at d
      rw [List.getD_eq_getElem?_getD, List.getElem?_eq_getElem hlen]
      exact (List.cons.inj d).1
theorem a_fnl_K (hS : mS n ks) {x : Nat} (hx : x < (a_pre ks n).length) : (ks (a_f (a_pre ks n) x)).length = a_n (a_pre ks n) x ↔ kS ks n (a_u ks (a_pre ks n) x) := by
  obtain ⟨e1, e2, e3, e4, e5⟩ := a_ent hx
  constructor
  · intro h
    exact ⟨_, e1, by show _ = (ks _).take _; rw [← h, List.take_length]⟩
  · intro h
    have h' := (a_kS hS hx []).mp (by rw [List.append_nil]; exact h)
    obtain ⟨j, a, b, c⟩ := h'
    have l1 := congrArg List.length c
    rw [List.length_drop, List.length_nil] at l1
    have l2 := e5 j a b
    by_cases e : j = a_f (a_pre ks n) x
    · rw [e] at l1 l2
      omega
    · have d := a_drop hS hx (Nat.le_refl _) (show a_f (a_pre ks n) x < j by omega) b
      rw [c] at d
      have : 0 ≤ t_ord ((ks (a_f (a_pre ks n) x)).drop (a_n (a_pre ks n) x)) [] := by
        cases (ks (a_f (a_pre ks n) x)).drop (a_n (a_pre ks n) x) with
        | nil => simp [t_ord]
        | cons y ys => simp [t_ord]; omega
      omega
theorem a_rn_max {ys : List Nat} : ∀ m, (∀ i, i ≤ m → t_lcp (ks i) ys ≤ a_rn ks ys m) ∧ ∃ i, i ≤ m ∧ t_lcp (ks i) ys = a_rn ks ys m
  | 0 => ⟨fun i hi => by rw [show i = 0 by omega]; exact Nat.le_refl _, 0, Nat.le_refl _, rfl⟩
  | m + 1 => by
    obtain ⟨h1, j, h2, h3⟩ := a_rn_max (ys := ys) m
    unfold a_rn
    by_cases c : a_rn ks ys m < t_lcp (ks (m + 1)) ys
    · rw [if_pos c]
      refine ⟨fun i hi => ?_, m + 1, Nat.le_refl _, rfl⟩
      by_cases e : i = m + 1
      · rw [e]; exact Nat.le_refl _
      · have := h1 i (by omega); omega
    · rw [if_neg c]
      refine ⟨fun i hi => ?_, j, by omega, h3⟩
      by_cases e : i = m + 1
      · rw [e]; omega
      · exact h1 i (by omega)
theorem rv_ans {tp : List Nat} {k : Nat} (hn : 0 < n) (hk : k ≤ tp.length) (h1 : k_pre (kS ks n) (tp.take k)) (h2 : k = tp.length ∨ ¬ k_pre (kS ks n) (tp.take (k + 1))) : a_rv ks tp n = nI k := by
  obtain ⟨m, rfl⟩ : ∃ m, n = m + 1 := ⟨n - 1, by omega⟩
  obtain ⟨c1, j, c2, c3⟩ := a_rn_max (ks := ks) (ys := tp) m
  show nI (a_rn ks tp m) = nI k
  congr 1
  apply Nat.le_antisymm
  · by_cases e : a_rn ks tp m ≤ k
    · exact e
    · have hl := t_lcp_le2 (ks j) tp
      rcases h2 with h2 | h2
      · omega
      · refine absurd ⟨(ks j).drop (k + 1), j, by omega, ?_⟩ h2
        rw [← (t_lcp_ge (xs := tp) (ys := ks j) (len := k + 1) (by omega)).mp (by omega), List.take_append_drop]
  · obtain ⟨v, i, hi, e⟩ := h1
    have e1 : (ks i).take k = tp.take k := by
      rw [e, List.take_left' (by rw [List.length_take]; omega)]
    have := (t_lcp_ge (xs := tp) (ys := ks i) (len := k) hk).mpr e1
    have := c1 i (by omega)
    omega
end AF
/-- what the model froze -/
theorem am_pA {w : Nat → Int32} {ar : Nat → Nat → Int32} {K : List Nat → Prop} {kk : Nat → List Nat} {pn : Nat} {pg pl : Nat → Nat} {sN tN : Nat} {st : Int32} {f1 : Nat → Int32} {rp sq : Nat → Nat} (hP : k_ps K kk pn pg pl) (h : d_aI K kk pn pg pl (fun _ => True) sN tN f1 (ar 22) (ar 23) (ar 24) (ar 25) rp sq) (hs : d_sI pn pl (fun _ => True) f1 st) (hpn : pn ≤ 576) (hsN : sN < 2 ^ 31) (w26 : w 26 = nI sN) (w27 : w 27 = nI tN) (w28 : w 28 = st) : pA w ar K sN tN (fun s => d_pu kk pg pl (rp s)) ∧ tN = v_sum (fun s => k_deg K (d_pu kk pg pl (rp s))) sN := by
  have hroom := h.room hsN
  have htN : tN ≤ pn := by
    have := v_cnt_room (m := pn) sq (t := tN) (p := fun _ => false) (fun k hk => ⟨(h.2.2.2.2.1 k hk).1, by decide⟩) h.2.2.2.2.2.1
    omega
  refine ⟨⟨w26, w27, by omega, by omega, fun s hs1 => (hP.2.2 _).mp ⟨rp s, (h.1 s hs1).1, rfl⟩, h.2.2.1, fun u hu => ?_, h.2.2.2.1, fun s c hs1 hc => ?_, fun h0 => ?_⟩, h.sum hP hsN⟩
  · obtain ⟨y, y1, y2⟩ := (hP.2.2 u).mpr hu
    obtain ⟨s, s1, s2, s3⟩ := h.2.1 y y1 trivial
    rw [← y2]
    exact ⟨s, s1, s3⟩
  · rcases h.go hP hsN hs1 hc with ⟨y, y1, y2, y3, y4⟩ | ⟨y1, y2⟩
    · obtain ⟨t, t1, t2, t3⟩ := h.2.1 y y1 trivial
      refine Or.inl ⟨t, t1, ?_, by rw [y4, t2]⟩
      rw [((d_fo_iff hP (h.1 s hs1).1 y1).mp y2).1, y3] at t3
      exact t3
    · exact Or.inr ⟨y1, y2⟩
  · have hp0 := (hP.2.2 _).mp ⟨rp 0, (h.1 0 h0).1, rfl⟩
    obtain ⟨v, hv⟩ := hp0
    obtain ⟨y, y1, y2⟩ := (hP.2.2 []).mpr ⟨d_pu kk pg pl (rp 0) ++ v, hv⟩
    have hl := congrArg List.length y2
    rw [List.length_take, List.length_nil] at hl
    have hpl : pl y = 0 := by have := (hP.1 y y1).1; omega
    obtain ⟨s, s1, s2, s3⟩ := h.2.1 y y1 trivial
    rw [y2] at s3
    exact ⟨s, s1, by rw [w28, hs.1 y y1 trivial hpl, s2], s3⟩
