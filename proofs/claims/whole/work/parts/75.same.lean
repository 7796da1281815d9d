/-! the model and the class: the same keys, the same ranks. wip/texts/{pv,pr,pf,mu,eg}.txt -/
theorem t_le_trans {xs ys zs : List Nat} (h1 : t_ord xs ys ≤ 0) (h2 : t_ord ys zs ≤ 0) : t_ord xs zs ≤ 0 := by
  by_cases e1 : t_ord xs ys = 0
  · rw [t_ord_eq _ _ e1]; exact h2
  · by_cases e2 : t_ord ys zs = 0
    · rw [← t_ord_eq _ _ e2]; exact h1
    · have := t_ord_trans xs ys zs (by omega) (by omega)
      omega
theorem t_le_lt {xs ys zs : List Nat} (h1 : t_ord xs ys ≤ 0) (h2 : t_ord ys zs < 0) : t_ord xs zs < 0 := by
  by_cases e1 : t_ord xs ys = 0
  · rw [t_ord_eq _ _ e1]; exact h2
  · exact t_ord_trans xs ys zs (by omega) h2
theorem t_ord_pre {y b w : List Nat} (hw : t_lcp w b = b.length) (hL : t_lcp y b < b.length) : (t_lcp y b = y.length ∧ t_ord y w < 0) ∨ (t_lcp y b < y.length ∧ t_ord y w = (y.getD (t_lcp y b) 0 : Int) - (b.getD (t_lcp y b) 0 : Int)) := by
  have l1 := t_lcp_le1 y b
  have l3 := t_lcp_le1 w b
  have hwb : ∀ j, j < b.length → w.getD j 0 = b.getD j 0 := fun j hj => t_lcp_same w b j (by omega)
  have hs : ∀ j, j < t_lcp y b → y.getD j 0 = w.getD j 0 := fun j hj => by rw [hwb j (by omega)]; exact t_lcp_same y b j hj
  by_cases e : t_lcp y b = y.length
  · have e1 := t_lcp_eq y w (t_lcp y b) (by omega) (by omega) hs (Or.inl e)
    refine Or.inl ⟨e, ?_⟩
    rw [t_ord_end y w (Or.inl (by omega))]
    omega
  · have hne := t_lcp_stop y b (by omega) hL
    have e1 := t_lcp_eq y w (t_lcp y b) (by omega) (by omega) hs (Or.inr (Or.inr (by rw [hwb _ hL]; exact hne)))
    refine Or.inr ⟨by omega, ?_⟩
    rw [t_ord_mid y w (by omega) (by omega), e1, hwb _ hL]
theorem v_ok_conv {s : Nat} {b x y z : List Nat} (h1 : t_ord x y ≤ 0) (h2 : t_ord y z ≤ 0) (hx : v_ok s b x = true) (hz : v_ok s b z = true) : v_ok s b y = true := by
  match s, hx, hz with
  | 0, hx, hz =>
    have hx' := of_decide_eq_true hx
    have hz' := of_decide_eq_true hz
    refine decide_eq_true ?_
    have l2 := t_lcp_le2 y b
    by_cases e : t_lcp y b = b.length
    · exact e
    · have a := t_ord_anti x y
      rcases t_ord_pre hx' (y := y) (by omega) with ⟨c1, c2⟩ | ⟨c1, c2⟩
      · omega
      · have hne := t_lcp_stop y b c1 (by omega)
        rcases t_ord_pre hz' (y := y) (by omega) with ⟨d1, d2⟩ | ⟨d1, d2⟩
        · omega
        · omega
  | 1, hx, hz => exact decide_eq_true (t_le_lt h2 (of_decide_eq_true hz))
  | 2, hx, hz =>
    have hx' := of_decide_eq_true hx
    refine decide_eq_true ?_
    have a1 := t_ord_anti x b
    have a2 := t_ord_anti y b
    have := t_le_trans (xs := b) (ys := x) (zs := y) (by omega) h1
    omega
  | s + 3, hx, hz => rfl
theorem v_adm_conv {org : Nat → Option Nat} {srt : Nat → Nat} {bt : Nat → List Nat} {x y z : List Nat} (h1 : t_ord x y ≤ 0) (h2 : t_ord y z ≤ 0) : ∀ f k, v_adm org srt bt x f k = true → v_adm org srt bt z f k = true → v_adm org srt bt y f k = true
  | 0, _, _, _ => rfl
  | f + 1, k, hx, hz => by
    unfold v_adm at hx hz ⊢
    rw [Bool.and_eq_true] at hx hz ⊢
    refine ⟨v_ok_conv h1 h2 hx.1 hz.1, ?_⟩
    cases ho : org k with
    | none => rfl
    | some j =>
      rw [ho] at hx hz
      exact v_adm_conv h1 h2 f j hx.2 hz.2
theorem mS.le {n : Nat} {ks : Nat → List Nat} (h : mS n ks) {i j : Nat} (hij : i ≤ j) (hj : j < n) : t_ord (ks i) (ks j) ≤ 0 := by
  by_cases e : i = j
  · rw [e, t_ord_refl]
    exact Int.le_refl _
  · have := h i j (by omega) hj
    omega
theorem mS.inj {n : Nat} {ks : Nat → List Nat} (h : mS n ks) {i j : Nat} (hi : i < n) (hj : j < n) (e : ks i = ks j) : i = j := by
  rcases Nat.lt_trichotomy i j with h1 | h1 | h1
  · have := h i j h1 hj
    rw [e, t_ord_refl] at this
    omega
  · exact h1
  · have := h j i h1 hi
    rw [e, t_ord_refl] at this
    omega
/-- the keys of a measured view are just those between -/
theorem v_ms.iff {org : Nat → Option Nat} {srt : Nat → Nat} {bt : Nat → List Nat} {k n : Nat} {ks : Nat → List Nat} {f0 t0 : Nat} (h : v_ms org srt bt k n ks f0 t0) (hS : mS n ks) {j : Nat} (hj : j < n) : v_in org srt bt k (ks j) = true ↔ f0 ≤ j ∧ j < t0 := by
  obtain ⟨h1, h2, h3, h4, h5, h6⟩ := h
  constructor
  · intro hv
    refine ⟨?_, ?_⟩
    · by_cases e : f0 ≤ j
      · exact e
      · exact absurd hv (h3 j (by omega))
    · by_cases e : j < t0
      · exact e
      · exact absurd hv (h4 j (by omega) hj)
  · rintro ⟨a, b⟩
    exact v_adm_conv (hS.le (i := f0) (j := j) a (by omega)) (hS.le (i := j) (j := t0 - 1) (by omega) (by omega)) _ _ (h5 (by omega)) (h6 (by omega))
theorem v_cnt_add (p : Nat → Bool) (a m : Nat) : ∀ k, v_cnt p a (m + k) = v_cnt p a m + v_cnt p (a + m) k
  | 0 => rfl
  | k + 1 => by
    show v_cnt p a (m + k) + (if p (a + (m + k)) = true then 1 else 0) = v_cnt p a m + (v_cnt p (a + m) k + if p (a + m + k) = true then 1 else 0)
    rw [v_cnt_add p a m k, show a + (m + k) = a + m + k by omega]
    omega
theorem v_cnt_no {p : Nat → Bool} {a : Nat} : ∀ {k : Nat}, (∀ j, j < k → ¬ p (a + j) = true) → v_cnt p a k = 0
  | 0, _ => rfl
  | k + 1, h => by
    show v_cnt p a k + _ = 0
    rw [v_cnt_no (fun j hj => h j (by omega)), if_neg (h k (by omega))]
theorem v_cnt_all {p : Nat → Bool} {a : Nat} : ∀ {k : Nat}, (∀ j, j < k → p (a + j) = true) → v_cnt p a k = k
  | 0, _ => rfl
  | k + 1, h => by
    show v_cnt p a k + _ = k + 1
    rw [v_cnt_all (fun j hj => h j (by omega)), if_pos (h k (by omega))]
/-- counting over a view: only what lies between counts -/
theorem v_cnt_mid {p q : Nat → Bool} {n f0 t0 : Nat} (h1 : f0 ≤ t0) (h2 : t0 ≤ n) (h : ∀ j, j < n → (p j = true ↔ (f0 ≤ j ∧ j < t0) ∧ q j = true)) : v_cnt p 0 n = v_cnt q f0 (t0 - f0) := by
  have e1 := v_cnt_add p 0 f0 (n - f0)
  have e2 := v_cnt_add p (0 + f0) (t0 - f0) (n - t0)
  rw [show f0 + (n - f0) = n by omega] at e1
  rw [show t0 - f0 + (n - t0) = n - f0 by omega] at e2
  have z1 : v_cnt p 0 f0 = 0 := v_cnt_no (fun j hj h9 => by rw [Nat.zero_add] at h9; have := ((h j (by omega)).mp h9).1; omega)
  have z2 : v_cnt p (0 + f0 + (t0 - f0)) (n - t0) = 0 := v_cnt_no (fun j hj h9 => by have := ((h _ (by omega)).mp h9).1; omega)
  have z3 : v_cnt p 0 n = v_cnt p (0 + f0) (t0 - f0) := by omega
  rw [z3, Nat.zero_add]
  refine v_cnt_congr (fun j hj => ?_)
  have := h (f0 + j) (by omega)
  by_cases c : q (f0 + j) = true
  · rw [c, this.mpr ⟨by omega, c⟩]
  · rw [Bool.eq_false_iff.mpr c, Bool.eq_false_iff.mpr (fun h9 => c (this.mp h9).2)]
/-- the model's map and the class's: the same keys with the same values, in another order -/
def mR (n : Nat) (ks : Nat → List Nat) (vs : Nat → Int32) (kk : Nat → List Nat) (f6 : Nat → Int32) (lo : Nat) : Prop :=
  (∀ i, i < n → ∃ j, j < n ∧ kk (lo + i) = ks j ∧ f6 (lo + i) = vs j) ∧ (∀ j, j < n → ∃ i, i < n ∧ kk (lo + i) = ks j ∧ f6 (lo + i) = vs j) ∧ ∀ i j, i < n → j < n → kk (lo + i) = kk (lo + j) → i = j
theorem mR.cnt {n : Nat} {ks : Nat → List Nat} {vs : Nat → Int32} {kk : Nat → List Nat} {f6 : Nat → Int32} {lo : Nat} (h : mR n ks vs kk f6 lo) (P : List Nat → Bool) : v_cnt (fun i => P (kk i)) lo n = v_cnt (fun j => P (ks j)) 0 n := by
  obtain ⟨F, hF⟩ := k_choose (P := fun i => i < n) h.1
  refine v_cnt_bij F (fun i hi => (hF i hi).1) (fun i j hi hj e => h.2.2 i j hi hj (by rw [(hF i hi).2.1, (hF j hj).2.1, e])) (fun i hi => ?_)
  rw [Nat.zero_add, (hF i hi).2.1]
theorem d_nr_ex (ok : List Nat → Prop) (tn bh : Nat) (kk : Nat → List Nat) (lo : Nat) : ∀ n, ∃ o, d_nr ok tn bh kk lo n o
  | 0 => ⟨none, fun j hj => absurd hj (Nat.not_lt_zero j)⟩
  | n + 1 => by
    obtain ⟨o, ho⟩ := d_nr_ex ok tn bh kk lo n
    by_cases hk : ok (kk (lo + n))
    · cases o with
      | none => exact ⟨_, d_nr_first ho hk⟩
      | some r =>
        by_cases hb : bh = 0
        · by_cases hc : 0 < d_s tn (kk (lo + n)) (kk r)
          · exact ⟨_, d_nr_take ho hk (fun h => absurd hb h) (fun _ => hc)⟩
          · exact ⟨_, d_nr_keep ho (fun h => absurd hb h) (fun _ => by omega)⟩
        · by_cases hc : d_s tn (kk (lo + n)) (kk r) < 0
          · exact ⟨_, d_nr_take ho hk (fun _ => hc) (fun h => absurd h hb)⟩
          · exact ⟨_, d_nr_keep ho (fun _ => by omega) (fun h => absurd h hb)⟩
    · exact ⟨o, d_nr_skip ho hk⟩
theorem d_lg_ex (ok : List Nat → Prop) (kk : Nat → List Nat) (lo : Nat) : ∀ n, ∃ o, d_lg ok kk lo n o
  | 0 => ⟨none, fun j hj => absurd hj (Nat.not_lt_zero j)⟩
  | n + 1 => by
    obtain ⟨o, ho⟩ := d_lg_ex ok kk lo n
    by_cases hk : ok (kk (lo + n))
    · by_cases hr : ∃ r, o = some r ∧ (kk (lo + n)).length ≤ (kk r).length
      · exact ⟨o, d_lg_skip ho (fun _ => hr)⟩
      · exact ⟨_, d_lg_take ho hk (fun r h => by
          have : ¬ (kk (lo + n)).length ≤ (kk r).length := fun h9 => hr ⟨r, h, h9⟩
          omega)⟩
    · exact ⟨o, d_lg_skip ho (fun h => absurd h hk)⟩
theorem d_nr_two {ok : List Nat → Prop} {tn bh : Nat} {kk : Nat → List Nat} {lo n r : Nat} (h1 : d_nr ok tn bh kk lo n none) (h2 : d_nr ok tn bh kk lo n (some r)) : False := by
  obtain ⟨⟨j, a, b⟩, c, _⟩ := h2
  subst b
  exact h1 j a c
theorem d_lg_two {ok : List Nat → Prop} {kk : Nat → List Nat} {lo n r : Nat} (h1 : d_lg ok kk lo n none) (h2 : d_lg ok kk lo n (some r)) : False := by
  obtain ⟨⟨j, a, b⟩, c, _⟩ := h2
  subst b
  exact h1 j a c
theorem v_o_s (tn : Nat) (ks : Nat → List Nat) (ys : List Nat) (i : Nat) : v_o tn ks ys i = d_s tn (ks i) ys := by
  unfold v_o d_s
  rw [t_ord_anti (ks i) ys]
theorem v_pl_on {tn f0 t0 j : Nat} (h1 : f0 ≤ j) (h2 : j < t0) : ∃ r, r < t0 - f0 ∧ v_pl tn f0 t0 r = j := by
  unfold v_pl
  by_cases h : tn ≠ 0
  · exact ⟨t0 - 1 - j, by omega, by rw [if_pos h]; omega⟩
  · exact ⟨j - f0, by omega, by rw [if_neg h]; omega⟩
theorem v_pl_in' {tn f0 t0 r : Nat} (h : r < t0 - f0) : f0 ≤ v_pl tn f0 t0 r ∧ v_pl tn f0 t0 r < t0 := v_pl_in (by omega)
theorem v_pl_inj {tn f0 t0 r s : Nat} (hr : r < t0 - f0) (hs : s < t0 - f0) (h : v_pl tn f0 t0 r = v_pl tn f0 t0 s) : r = s := by
  unfold v_pl at h
  split at h <;> omega
/-- ranks go as the view has them -/
theorem rk_s {n : Nat} {ks : Nat → List Nat} (hS : mS n ks) {tn f0 t0 r s : Nat} (ht : t0 ≤ n) (hrs : r < s) (hs : s < t0 - f0) : d_s tn (ks (v_pl tn f0 t0 r)) (ks (v_pl tn f0 t0 s)) < 0 := by
  unfold d_s v_pl
  by_cases h : tn ≠ 0
  · rw [if_pos h, if_pos h, if_pos h]
    have h1 := hS (t0 - 1 - s) (t0 - 1 - r) (by omega) (by omega)
    rw [t_ord_anti] at h1
    exact h1
  · rw [if_neg h, if_neg h, if_neg h]
    exact hS _ _ (by omega) (by omega)
theorem v_cnt_thr {p : Nat → Bool} {m : Nat} (hm : ∀ r s, r < s → s < m → p s = true → p r = true) {r : Nat} (hr : r < m) : p r = true ↔ r < v_cnt p 0 m := by
  constructor
  · intro h
    have h1 : v_cnt p 0 (r + 1) = r + 1 := v_cnt_all (fun j hj => by
      rw [Nat.zero_add]
      by_cases e : j = r
      · rw [e]; exact h
      · exact hm j r (by omega) hr h)
    have := v_cnt_mono p 0 (x := r + 1) (y := m) (by omega)
    omega
  · intro h
    by_cases c : p r = true
    · exact c
    · have h1 := v_cnt_add p 0 r (m - r)
      rw [show r + (m - r) = m by omega] at h1
      have h2 : v_cnt p (0 + r) (m - r) = 0 := v_cnt_no (fun j hj h9 => by
        by_cases e : j = 0
        · rw [e] at h9
          exact c (by rw [show r = 0 + r + 0 by omega]; exact h9)
        · exact c (hm r (0 + r + j) (by omega) (by omega) h9))
      have h3 := v_cnt_le p 0 r
      omega
theorem v_cnt_rk (p : Nat → Bool) (tn : Nat) {f0 t0 : Nat} : v_cnt (fun r => p (v_pl tn f0 t0 r)) 0 (t0 - f0) = v_cnt p f0 (t0 - f0) := by
  refine v_cnt_bij (fun r => v_pl tn f0 t0 r - f0) (fun r hr => ?_) (fun r s hr hs e => ?_) (fun r hr => ?_)
  · have := v_pl_in' (tn := tn) hr
    show v_pl tn f0 t0 r - f0 < t0 - f0
    omega
  · have a := v_pl_in' (tn := tn) hr
    have b := v_pl_in' (tn := tn) hs
    exact v_pl_inj (tn := tn) hr hs (by have e' : v_pl tn f0 t0 r - f0 = v_pl tn f0 t0 s - f0 := e; omega)
  · have a := v_pl_in' (tn := tn) hr
    show p (v_pl tn f0 t0 (0 + r)) = p (f0 + (v_pl tn f0 t0 r - f0))
    rw [Nat.zero_add, show f0 + (v_pl tn f0 t0 r - f0) = v_pl tn f0 t0 r by omega]
/-- which ranks lie before a text -/
theorem v_bef_rk {n : Nat} {ks : Nat → List Nat} (hS : mS n ks) {tn sm f0 t0 : Nat} {ys : List Nat} (ht : t0 ≤ n) {r : Nat} (hr : r < t0 - f0) : v_bef tn sm ks ys (v_pl tn f0 t0 r) = true ↔ r < v_cnt (v_bef tn sm ks ys) f0 (t0 - f0) := by
  rw [← v_cnt_rk (v_bef tn sm ks ys) tn]
  refine v_cnt_thr (p := fun r => v_bef tn sm ks ys (v_pl tn f0 t0 r)) (fun a b hab hb h => ?_) hr
  have h1 := of_decide_eq_true h
  rw [v_o_s] at h1
  refine decide_eq_true (Or.inl ?_)
  rw [v_o_s]
  exact d_s_trans1 (rk_s hS ht hab hb) (by omega)
section NR
variable {n : Nat} {ks : Nat → List Nat} {vs : Nat → Int32} {kk : Nat → List Nat} {f6 : Nat → Int32} {lo : Nat} {tn f0 t0 C : Nat} {ok : List Nat → Prop} {o : Option Nat}
/-- the first key of a rank that is not below C -/
theorem nr_first (hS : mS n ks) (hM : mR n ks vs kk f6 lo) (ht : t0 ≤ n) (hok : ∀ j, j < n → (ok (ks j) ↔ ∃ r, r < t0 - f0 ∧ v_pl tn f0 t0 r = j ∧ C ≤ r)) (h : d_nr ok tn 1 kk lo n o) : (o = none ∧ t0 - f0 ≤ C) ∨ ∃ g, o = some g ∧ C < t0 - f0 ∧ kk g = ks (v_pl tn f0 t0 C) ∧ f6 g = vs (v_pl tn f0 t0 C) := by
  have key : C < t0 - f0 → ∃ i, i < n ∧ kk (lo + i) = ks (v_pl tn f0 t0 C) ∧ ok (kk (lo + i)) := fun hC => by
    have a := v_pl_in' (tn := tn) hC
    obtain ⟨i, i1, i2, i3⟩ := hM.2.1 (v_pl tn f0 t0 C) (by omega)
    exact ⟨i, i1, i2, by rw [i2]; exact (hok _ (by omega)).mpr ⟨C, hC, rfl, Nat.le_refl _⟩⟩
  cases o with
  | none =>
    refine Or.inl ⟨rfl, ?_⟩
    by_cases hC : C < t0 - f0
    · obtain ⟨i, i1, i2, i3⟩ := key hC
      exact absurd i3 (h i i1)
    · omega
  | some g =>
    obtain ⟨⟨i, i1, i2⟩, i3, i4⟩ := h
    subst i2
    obtain ⟨j, j1, j2, j3⟩ := hM.1 i i1
    rw [j2] at i3
    obtain ⟨r, r1, r2, r3⟩ := (hok j j1).mp i3
    obtain ⟨i', a1, a2, a3⟩ := key (by omega)
    have e : r = C := by
      by_cases e : r = C
      · exact e
      · have b := (i4 i' a1 a3).1 (by decide)
        rw [a2, j2, ← r2] at b
        have c := rk_s hS (tn := tn) ht (r := C) (s := r) (by omega) r1
        rw [d_s_anti] at c
        omega
    subst e
    exact Or.inr ⟨_, rfl, r1, by rw [j2, r2], by rw [j3, r2]⟩
/-- the last key of a rank below C -/
theorem nr_last (hS : mS n ks) (hM : mR n ks vs kk f6 lo) (ht : t0 ≤ n) (hC : C ≤ t0 - f0) (hok : ∀ j, j < n → (ok (ks j) ↔ ∃ r, r < t0 - f0 ∧ v_pl tn f0 t0 r = j ∧ r < C)) (h : d_nr ok tn 0 kk lo n o) : (o = none ∧ C = 0) ∨ ∃ g, o = some g ∧ 0 < C ∧ kk g = ks (v_pl tn f0 t0 (C - 1)) ∧ f6 g = vs (v_pl tn f0 t0 (C - 1)) := by
  have key : 0 < C → ∃ i, i < n ∧ kk (lo + i) = ks (v_pl tn f0 t0 (C - 1)) ∧ ok (kk (lo + i)) := fun h0 => by
    have a := v_pl_in' (tn := tn) (f0 := f0) (t0 := t0) (r := C - 1) (by omega)
    obtain ⟨i, i1, i2, i3⟩ := hM.2.1 (v_pl tn f0 t0 (C - 1)) (by omega)
    exact ⟨i, i1, i2, by rw [i2]; exact (hok _ (by omega)).mpr ⟨C - 1, by omega, rfl, by omega⟩⟩
  cases o with
  | none =>
    refine Or.inl ⟨rfl, ?_⟩
    by_cases h0 : 0 < C
    · obtain ⟨i, i1, i2, i3⟩ := key h0
      exact absurd i3 (h i i1)
    · omega
  | some g =>
    obtain ⟨⟨i, i1, i2⟩, i3, i4⟩ := h
    subst i2
    obtain ⟨j, j1, j2, j3⟩ := hM.1 i i1
    rw [j2] at i3
    obtain ⟨r, r1, r2, r3⟩ := (hok j j1).mp i3
    obtain ⟨i', a1, a2, a3⟩ := key (by omega)
    have e : r = C - 1 := by
      by_cases e : r = C - 1
      · exact e
      · have b := (i4 i' a1 a3).2 rfl
        rw [a2, j2, ← r2] at b
        have c := rk_s hS (tn := tn) (f0 := f0) ht (r := r) (s := C - 1) (by omega) (by omega)
        omega
    subst e
    exact Or.inr ⟨_, rfl, by omega, by rw [j2, r2], by rw [j3, r2]⟩
end NR
theorem rk_m1 {C m : Nat} (hC : C ≤ m) (hm : m < 2 ^ 30) : (C = 0 → ¬ h_ok m (nI C - 1)) ∧ (0 < C → h_ok m (nI C - 1)) ∧ ∀ rr, rr < m → nI rr = nI C - 1 → 0 < C ∧ rr = C - 1 := by
  have e : 0 < C → nI C - 1 = nI (C - 1) := fun h => pk_sub (a := C) (b := 1) h
  refine ⟨fun h h1 => ?_, fun h => ?_, fun rr hr h => ?_⟩
  · subst h
    exact h1.1 (by decide)
  · rw [e h]
    exact h_ok_of (by omega) (by omega)
  · by_cases h0 : 0 < C
    · rw [e h0] at h
      exact ⟨h0, (nI_eq (by omega) (by omega)).mp h⟩
    · have h1 : C = 0 := by omega
      subst h1
      have h2 := h_ok_of (c := m) (by omega) hr
      rw [h] at h2
      exact absurd (by decide) h2.1
theorem rk_0 {C m : Nat} (hC : C < 2 ^ 30) (hm : m < 2 ^ 30) : (m ≤ C → ¬ h_ok m (nI C)) ∧ (C < m → h_ok m (nI C)) ∧ ∀ rr, rr < m → nI rr = nI C → rr = C :=
  ⟨fun h h1 => h1.2 ((nI_leI (by omega) (by omega)).mpr h), fun h => h_ok_of (by omega) h, fun rr hr h => (nI_eq (by omega) (by omega)).mp h⟩
section FD
variable {org : Nat → Option Nat} {srt : Nat → Nat} {bt : Nat → List Nat} {v : Nat} {n : Nat} {ks : Nat → List Nat} {vs : Nat → Int32} {kk : Nat → List Nat} {f6 : Nat → Int32} {lo tn f0 t0 : Nat} {o : Option Nat} {ys : List Nat}
/-- the keys of a view by their ranks -/
theorem v_ms.rk (hS : mS n ks) (hV : v_ms org srt bt v n ks f0 t0) (tn : Nat) {j : Nat} (hj : j < n) : v_in org srt bt v (ks j) = true ↔ ∃ r, r < t0 - f0 ∧ v_pl tn f0 t0 r = j := by
  rw [hV.iff hS hj]
  constructor
  · rintro ⟨a, b⟩
    exact v_pl_on a b
  · rintro ⟨r, r1, r2⟩
    rw [← r2]
    exact v_pl_in' r1
theorem ok_bef (hS : mS n ks) (hV : v_ms org srt bt v n ks f0 t0) {ok : List Nat → Prop} {sm : Nat} (hok : ∀ j, j < n → (ok (ks j) ↔ v_in org srt bt v (ks j) = true ∧ v_bef tn sm ks ys j = true)) : ∀ j, j < n → (ok (ks j) ↔ ∃ r, r < t0 - f0 ∧ v_pl tn f0 t0 r = j ∧ r < v_cnt (v_bef tn sm ks ys) f0 (t0 - f0)) := fun j hj => by
  rw [hok j hj, hV.rk hS tn hj]
  constructor
  · rintro ⟨⟨r, r1, r2⟩, h⟩
    subst r2
    exact ⟨r, r1, rfl, (v_bef_rk hS hV.2.1 r1).mp h⟩
  · rintro ⟨r, r1, r2, r3⟩
    subst r2
    exact ⟨⟨r, r1, rfl⟩, (v_bef_rk hS hV.2.1 r1).mpr r3⟩
theorem ok_nbef (hS : mS n ks) (hV : v_ms org srt bt v n ks f0 t0) {ok : List Nat → Prop} {sm : Nat} (hok : ∀ j, j < n → (ok (ks j) ↔ v_in org srt bt v (ks j) = true ∧ ¬ v_bef tn sm ks ys j = true)) : ∀ j, j < n → (ok (ks j) ↔ ∃ r, r < t0 - f0 ∧ v_pl tn f0 t0 r = j ∧ v_cnt (v_bef tn sm ks ys) f0 (t0 - f0) ≤ r) := fun j hj => by
  rw [hok j hj, hV.rk hS tn hj]
  constructor
  · rintro ⟨⟨r, r1, r2⟩, h⟩
    subst r2
    refine ⟨r, r1, rfl, ?_⟩
    have := mt (v_bef_rk hS hV.2.1 r1).mpr h
    omega
  · rintro ⟨r, r1, r2, r3⟩
    subst r2
    refine ⟨⟨r, r1, rfl⟩, fun h => ?_⟩
    have := (v_bef_rk hS hV.2.1 r1).mp h
    omega
/-- the key behind a text -/
theorem fd_behind (hS : mS n ks) (hM : mR n ks vs kk f6 lo) (hV : v_ms org srt bt v n ks f0 t0) {sm s1 : Nat} (hs : (sm ≠ 0 ∧ s1 = 0) ∨ (sm = 0 ∧ s1 ≠ 0)) (h : d_nr (fun xs => v_in org srt bt v xs = true ∧ d_cd tn 1 sm (some ys) xs) tn 1 kk lo n o) : (o = none ∧ t0 - f0 ≤ v_cnt (v_bef tn s1 ks ys) f0 (t0 - f0)) ∨ ∃ g, o = some g ∧ v_cnt (v_bef tn s1 ks ys) f0 (t0 - f0) < t0 - f0 ∧ kk g = ks (v_pl tn f0 t0 (v_cnt (v_bef tn s1 ks ys) f0 (t0 - f0))) ∧ f6 g = vs (v_pl tn f0 t0 (v_cnt (v_bef tn s1 ks ys) f0 (t0 - f0))) := by
  refine nr_first hS hM hV.2.1 (ok_nbef hS hV (fun j hj => and_congr_right (fun _ => ?_))) h
  unfold v_bef d_cd
  rw [decide_eq_true_iff, v_o_s]
  dsimp only
  omega
theorem fd_before (hS : mS n ks) (hM : mR n ks vs kk f6 lo) (hV : v_ms org srt bt v n ks f0 t0) {sm : Nat} (h : d_nr (fun xs => v_in org srt bt v xs = true ∧ d_cd tn 0 sm (some ys) xs) tn 0 kk lo n o) : (o = none ∧ v_cnt (v_bef tn sm ks ys) f0 (t0 - f0) = 0) ∨ ∃ g, o = some g ∧ 0 < v_cnt (v_bef tn sm ks ys) f0 (t0 - f0) ∧ kk g = ks (v_pl tn f0 t0 (v_cnt (v_bef tn sm ks ys) f0 (t0 - f0) - 1)) ∧ f6 g = vs (v_pl tn f0 t0 (v_cnt (v_bef tn sm ks ys) f0 (t0 - f0) - 1)) := by
  refine nr_last hS hM hV.2.1 (v_cnt_le _ _ _) (ok_bef hS hV (fun j hj => and_congr_right (fun _ => ?_))) h
  unfold v_bef d_cd
  rw [decide_eq_true_iff, v_o_s]
  dsimp only
  omega
theorem fd_first (hS : mS n ks) (hM : mR n ks vs kk f6 lo) (hV : v_ms org srt bt v n ks f0 t0) {sm : Nat} (h : d_nr (fun xs => v_in org srt bt v xs = true ∧ d_cd tn 1 sm none xs) tn 1 kk lo n o) : (o = none ∧ t0 - f0 = 0) ∨ ∃ g, o = some g ∧ 0 < t0 - f0 ∧ kk g = ks (v_pl tn f0 t0 0) ∧ f6 g = vs (v_pl tn f0 t0 0) := by
  rcases nr_first (C := 0) hS hM hV.2.1 (fun j hj => by
    rw [show (v_in org srt bt v (ks j) = true ∧ d_cd tn 1 sm none (ks j)) ↔ v_in org srt bt v (ks j) = true from ⟨fun h => h.1, fun h => ⟨h, trivial⟩⟩, hV.rk hS tn hj]
    exact ⟨fun ⟨r, a, b⟩ => ⟨r, a, b, Nat.zero_le _⟩, fun ⟨r, a, b, _⟩ => ⟨r, a, b⟩⟩) h with ⟨a, b⟩ | h1
  · exact Or.inl ⟨a, by omega⟩
  · exact Or.inr h1
theorem fd_last (hS : mS n ks) (hM : mR n ks vs kk f6 lo) (hV : v_ms org srt bt v n ks f0 t0) {sm : Nat} (h : d_nr (fun xs => v_in org srt bt v xs = true ∧ d_cd tn 0 sm none xs) tn 0 kk lo n o) : (o = none ∧ t0 - f0 = 0) ∨ ∃ g, o = some g ∧ 0 < t0 - f0 ∧ kk g = ks (v_pl tn f0 t0 (t0 - f0 - 1)) ∧ f6 g = vs (v_pl tn f0 t0 (t0 - f0 - 1)) :=
  nr_last hS hM hV.2.1 (Nat.le_refl _) (fun j hj => by
    rw [show (v_in org srt bt v (ks j) = true ∧ d_cd tn 0 sm none (ks j)) ↔ v_in org srt bt v (ks j) = true from ⟨fun h => h.1, fun h => ⟨h, trivial⟩⟩, hV.rk hS tn hj]
    exact ⟨fun ⟨r, a, b⟩ => ⟨r, a, b, a⟩, fun ⟨r, a, b, _⟩ => ⟨r, a, b⟩⟩) h
theorem t_pre_eq {tp x y : List Nat} (hx : t_lcp tp x = x.length) (hy : t_lcp tp y = y.length) (h : x.length = y.length) : x = y := by
  rw [← (t_take_lcp tp x).mp hx, ← (t_take_lcp tp y).mp hy, h]
theorem fd_long (hS : mS n ks) (hM : mR n ks vs kk f6 lo) (hV : v_ms org srt bt v n ks f0 t0) {w : Option Nat} (hw : v_long tn f0 t0 ks ys (t0 - f0) w) (h : d_lg (fun xs => v_in org srt bt v xs = true ∧ t_lcp ys xs = xs.length) kk lo n o) : (o = none ∧ w = none) ∨ ∃ g r, o = some g ∧ w = some r ∧ r < t0 - f0 ∧ kk g = ks (v_pl tn f0 t0 r) ∧ f6 g = vs (v_pl tn f0 t0 r) := by
  have hin : ∀ r, r < t0 - f0 → v_pl tn f0 t0 r < n ∧ v_in org srt bt v (ks (v_pl tn f0 t0 r)) = true := fun r hr => by
    have a := v_pl_in' (tn := tn) hr
    have b := hV.2.1
    exact ⟨by omega, (hV.rk hS tn (by omega)).mpr ⟨r, hr, rfl⟩⟩
  cases o with
  | none =>
    refine Or.inl ⟨rfl, ?_⟩
    cases w with
    | none => rfl
    | some r =>
      obtain ⟨r1, r2, _⟩ := hw
      obtain ⟨i, i1, i2, _⟩ := hM.2.1 _ (hin r r1).1
      exact absurd ⟨by rw [i2]; exact (hin r r1).2, by rw [i2]; exact r2⟩ (h i i1)
  | some g =>
    obtain ⟨⟨i, i1, i2⟩, ⟨i3, i4⟩, i5⟩ := h
    subst i2
    obtain ⟨j, j1, j2, j3⟩ := hM.1 i i1
    rw [j2] at i3 i4
    obtain ⟨s, s1, s2⟩ := (hV.rk hS tn j1).mp i3
    cases w with
    | none => exact absurd (by rw [s2]; exact i4) (hw s s1)
    | some r =>
      obtain ⟨r1, r2, r3⟩ := hw
      obtain ⟨i', a1, a2, _⟩ := hM.2.1 _ (hin r r1).1
      have b1 := i5 i' a1 ⟨by rw [a2]; exact (hin r r1).2, by rw [a2]; exact r2⟩
      have b2 := r3 s s1 (by rw [s2]; exact i4)
      rw [a2, j2] at b1
      rw [s2] at b2
      have e := t_pre_eq i4 r2 (by omega)
      have e2 := hS.inj j1 (hin r r1).1 e
      exact Or.inr ⟨_, r, rfl, rfl, r1, by rw [j2, e], by rw [j3, e2]⟩
end FD
/-- what find answers, by the model and by the class -/
theorem fd_ans {org : Nat → Option Nat} {srt : Nat → Nat} {bt : Nat → List Nat} {v : Nat} {tn mp n : Nat → Nat} {ks : Nat → List Nat} {vs : Nat → Int32} {kk : Nat → List Nat} {f6 : Nat → Int32} {f0 t0 x : Nat} {o : Option Nat} {tp : List Nat} (hS : mS (n (mp v)) ks) (hM : mR (n (mp v)) ks vs kk f6 (64 * mp v)) (hn : n (mp v) ≤ 64) (hV : v_ms org srt bt v (n (mp v)) ks f0 t0) (h : d_fd org srt bt v tn mp kk n tp x o) : (o = none ∧ ∀ rk, v_rk (tn v) f0 t0 ks tp x rk → ¬ h_ok (t0 - f0) rk) ∨ ∃ g, o = some g ∧ (∀ rk, v_rk (tn v) f0 t0 ks tp x rk → h_ok (t0 - f0) rk) ∧ ∀ rr, rr < t0 - f0 → v_rk (tn v) f0 t0 ks tp x (nI rr) → kk g = ks (v_pl (tn v) f0 t0 rr) ∧ f6 g = vs (v_pl (tn v) f0 t0 rr) := by
  have hm : t0 - f0 ≤ 64 := by have := hV.2.1; omega
  match x, h with
  | 0, h =>
    have hc := v_cnt_le (v_bef (tn v) 1 ks tp) f0 (t0 - f0)
    obtain ⟨k1, k2, k3⟩ := rk_m1 hc (by omega)
    rcases fd_before hS hM hV h with ⟨a, b⟩ | ⟨g, a, b, c, d⟩
    · exact Or.inl ⟨a, fun rk hr => by rw [show rk = _ from hr]; exact k1 b⟩
    · exact Or.inr ⟨g, a, fun rk hr => by rw [show rk = _ from hr]; exact k2 b, fun rr h1 h2 => by rw [(k3 rr h1 h2).2]; exact ⟨c, d⟩⟩
  | 1, h =>
    have hc := v_cnt_le (v_bef (tn v) 0 ks tp) f0 (t0 - f0)
    obtain ⟨k1, k2, k3⟩ := rk_m1 hc (by omega)
    rcases fd_before hS hM hV h with ⟨a, b⟩ | ⟨g, a, b, c, d⟩
    · exact Or.inl ⟨a, fun rk hr => by rw [show rk = _ from hr]; exact k1 b⟩
    · exact Or.inr ⟨g, a, fun rk hr => by rw [show rk = _ from hr]; exact k2 b, fun rr h1 h2 => by rw [(k3 rr h1 h2).2]; exact ⟨c, d⟩⟩
  | 2, h =>
    have hc := v_cnt_le (v_bef (tn v) 0 ks tp) f0 (t0 - f0)
    obtain ⟨k1, k2, k3⟩ := rk_0 (C := v_cnt (v_bef (tn v) 0 ks tp) f0 (t0 - f0)) (m := t0 - f0) (by omega) (by omega)
    rcases fd_behind hS hM hV (s1 := 0) (Or.inl ⟨by decide, rfl⟩) h with ⟨a, b⟩ | ⟨g, a, b, c, d⟩
    · exact Or.inl ⟨a, fun rk hr => by rw [show rk = _ from hr]; exact k1 b⟩
    · exact Or.inr ⟨g, a, fun rk hr => by rw [show rk = _ from hr]; exact k2 b, fun rr h1 h2 => by rw [k3 rr h1 h2]; exact ⟨c, d⟩⟩
  | 3, h =>
    have hc := v_cnt_le (v_bef (tn v) 1 ks tp) f0 (t0 - f0)
    obtain ⟨k1, k2, k3⟩ := rk_0 (C := v_cnt (v_bef (tn v) 1 ks tp) f0 (t0 - f0)) (m := t0 - f0) (by omega) (by omega)
    rcases fd_behind hS hM hV (s1 := 1) (Or.inr ⟨rfl, by decide⟩) h with ⟨a, b⟩ | ⟨g, a, b, c, d⟩
    · exact Or.inl ⟨a, fun rk hr => by rw [show rk = _ from hr]; exact k1 b⟩
    · exact Or.inr ⟨g, a, fun rk hr => by rw [show rk = _ from hr]; exact k2 b, fun rr h1 h2 => by rw [k3 rr h1 h2]; exact ⟨c, d⟩⟩
  | 4, h =>
    obtain ⟨k1, k2, k3⟩ := rk_0 (C := 0) (m := t0 - f0) (by omega) (by omega)
    rcases fd_first hS hM hV h with ⟨a, b⟩ | ⟨g, a, b, c, d⟩
    · exact Or.inl ⟨a, fun rk hr => by rw [show rk = _ from hr]; exact k1 (by omega)⟩
    · exact Or.inr ⟨g, a, fun rk hr => by rw [show rk = _ from hr]; exact k2 b, fun rr h1 h2 => by rw [k3 rr h1 h2]; exact ⟨c, d⟩⟩
  | 5, h =>
    obtain ⟨k1, k2, k3⟩ := rk_m1 (C := t0 - f0) (m := t0 - f0) (Nat.le_refl _) (by omega)
    rcases fd_last hS hM hV h with ⟨a, b⟩ | ⟨g, a, b, c, d⟩
    · exact Or.inl ⟨a, fun rk hr => by rw [show rk = _ from hr]; exact k1 b⟩
    · exact Or.inr ⟨g, a, fun rk hr => by rw [show rk = _ from hr]; exact k2 b, fun rr h1 h2 => by rw [(k3 rr h1 h2).2]; exact ⟨c, d⟩⟩
  | x + 6, h =>
    have hl : ∀ rk, v_rk (tn v) f0 t0 ks tp (x + 6) rk → ∃ w, rk = gm1 w ∧ v_long (tn v) f0 t0 ks tp (t0 - f0) w := fun rk hr => hr
    have h : d_lg (fun xs => v_in org srt bt v xs = true ∧ t_lcp tp xs = xs.length) kk (64 * mp v) (n (mp v)) o := h
    cases o with
    | none =>
      refine Or.inl ⟨rfl, fun rk hr => ?_⟩
      obtain ⟨w, w1, w2⟩ := hl rk hr
      rcases fd_long hS hM hV w2 h with ⟨_, b⟩ | ⟨g, r, a, _⟩
      · rw [w1, b]
        exact fun h9 => h9.1 (by decide)
      · cases a
    | some g =>
      refine Or.inr ⟨g, rfl, fun rk hr => ?_, fun rr h1 h2 => ?_⟩
      · obtain ⟨w, w1, w2⟩ := hl rk hr
        rcases fd_long hS hM hV w2 h with ⟨a, _⟩ | ⟨g1, r, a, b, c, _⟩
        · cases a
        · rw [w1, b]
          exact h_ok_of (by omega) c
      · obtain ⟨w, w1, w2⟩ := hl _ h2
        rcases fd_long hS hM hV w2 h with ⟨a, _⟩ | ⟨g1, r, a, b, c, d⟩
        · cases a
        · cases a
          rw [b] at w1
          have e : rr = r := (nI_eq (by omega) (by omega)).mp w1
          rw [e]
          exact d
theorem mCut_lt {α : Type} {f : Nat → α} {r n j : Nat} {x : α} (h : j < r) (hj : j < n - 1) : mCut f r n x j = f j := by
  unfold mCut sh_dn
  rw [va_up_ne _ _ (by omega), if_neg (by omega)]
theorem mCut_ge {α : Type} {f : Nat → α} {r n j : Nat} {x : α} (h : r ≤ j) (hj : j < n - 1) : mCut f r n x j = f (j + 1) := by
  unfold mCut sh_dn
  rw [va_up_ne _ _ (by omega), if_pos (by omega)]
theorem sh_dn_lt {α : Type} {f : Nat → α} {r i j : Nat} (h : j < r) : sh_dn f r i j = f j := if_neg (by omega)
theorem sh_dn_ge {α : Type} {f : Nat → α} {r i j : Nat} (h : r ≤ j) (hj : j < i) : sh_dn f r i j = f (j + 1) := if_pos (by omega)
theorem mPut_lt {α : Type} {f : Nat → α} {r n j : Nat} {x : α} (h : j < r) : mPut f r n x j = f j := by
  unfold mPut sh_up
  rw [va_up_ne _ _ (by omega), if_neg (by omega)]
theorem mPut_eq {α : Type} {f : Nat → α} {r n : Nat} {x : α} : mPut f r n x r = x := va_up_self _ _ _
theorem mPut_gt {α : Type} {f : Nat → α} {r n j : Nat} {x : α} (h : r < j) (hj : j ≤ n) : mPut f r n x j = f (j - 1) := by
  unfold mPut sh_up
  rw [va_up_ne _ _ (by omega), if_pos (by omega)]
section MU
variable {n : Nat} {ks : Nat → List Nat} {vs : Nat → Int32} {kk : Nat → List Nat} {f6 : Nat → Int32} {lo : Nat}
/-- a key is taken out of both -/
theorem mR.cut (h : mR n ks vs kk f6 lo) {r i0 : Nat} (hr : r < n) (hi0 : i0 < n) (e0 : kk (lo + i0) = ks r) (hS : mS n ks) (x : List Nat) : mR (n - 1) (mCut ks r n x) (sh_dn vs r (n - 1)) (va_up kk (lo + i0) (kk (lo + n - 1))) (upd f6 (lo + i0) (f6 (lo + n - 1))) lo := by
  obtain ⟨h1, h2, h3⟩ := h
  have el : lo + n - 1 = lo + (n - 1) := by omega
  rw [el]
  -- a place of the model that is left, where it stood before
  have hk : ∀ i, i < n - 1 → ∃ i1, i1 < n ∧ i1 ≠ i0 ∧ va_up kk (lo + i0) (kk (lo + (n - 1))) (lo + i) = kk (lo + i1) ∧ upd f6 (lo + i0) (f6 (lo + (n - 1))) (lo + i) = f6 (lo + i1) ∧ (i1 = if i = i0 then n - 1 else i) := fun i hi => by
    by_cases e : i = i0
    · subst e
      exact ⟨n - 1, by omega, by omega, va_up_self _ _ _, pk_us, by rw [if_pos rfl]⟩
    · exact ⟨i, by omega, e, va_up_ne _ _ (by omega), pk_un (by omega), by rw [if_neg e]⟩
  have hc : ∀ j, j < n → j ≠ r → ∃ j1, j1 < n - 1 ∧ mCut ks r n x j1 = ks j ∧ sh_dn vs r (n - 1) j1 = vs j := fun j hj e => by
    by_cases e1 : j < r
    · exact ⟨j, by omega, mCut_lt e1 (by omega), sh_dn_lt e1⟩
    · refine ⟨j - 1, by omega, ?_, ?_⟩
      · rw [mCut_ge (by omega) (by omega), show j - 1 + 1 = j by omega]
      · rw [sh_dn_ge (by omega) (by omega), show j - 1 + 1 = j by omega]
  have hd : ∀ j, j < n - 1 → ∃ j1, j1 < n ∧ j1 ≠ r ∧ mCut ks r n x j = ks j1 ∧ sh_dn vs r (n - 1) j = vs j1 := fun j hj => by
    by_cases e1 : j < r
    · exact ⟨j, by omega, by omega, mCut_lt e1 hj, sh_dn_lt e1⟩
    · exact ⟨j + 1, by omega, by omega, mCut_ge (by omega) hj, sh_dn_ge (by omega) hj⟩
  refine ⟨fun i hi => ?_, fun j hj => ?_, fun i j hi hj e => ?_⟩
  · obtain ⟨i1, a1, a2, a3, a4, _⟩ := hk i hi
    obtain ⟨j, b1, b2, b3⟩ := h1 i1 a1
    obtain ⟨j1, c1, c2, c3⟩ := hc j b1 (fun e => a2 (h3 i1 i0 a1 hi0 (by rw [b2, e0, e])))
    exact ⟨j1, c1, by rw [a3, b2, c2], by rw [a4, b3, c3]⟩
  · obtain ⟨j1, a1, a2, a3, a4⟩ := hd j hj
    obtain ⟨i1, b1, b2, b3⟩ := h2 j1 a1
    have hne : i1 ≠ i0 := fun e => a2 (hS.inj a1 hr (by rw [← b2, e, e0]))
    by_cases e : i1 = n - 1
    · refine ⟨i0, by omega, ?_, ?_⟩
      · rw [va_up_self, a3, ← b2, e]
      · rw [pk_us, a4, ← b3, e]
    · refine ⟨i1, by omega, ?_, ?_⟩
      · rw [va_up_ne _ _ (by omega), a3, b2]
      · rw [pk_un (by omega), a4, b3]
  · obtain ⟨i1, a1, a2, a3, a4, a5⟩ := hk i hi
    obtain ⟨j1, b1, b2, b3, b4, b5⟩ := hk j hj
    rw [a3, b3] at e
    have e1 := h3 i1 j1 a1 b1 e
    by_cases c1 : i = i0 <;> by_cases c2 : j = i0
    · omega
    · rw [if_pos c1] at a5
      rw [if_neg c2] at b5
      omega
    · rw [if_neg c1] at a5
      rw [if_pos c2] at b5
      omega
    · rw [if_neg c1] at a5
      rw [if_neg c2] at b5
      omega
/-- a new key is put into both -/
theorem mR.put (h : mR n ks vs kk f6 lo) {r : Nat} (hr : r ≤ n) {x : List Nat} {y : Int32} (hx : ∀ j, j < n → ks j ≠ x) : mR (n + 1) (mPut ks r n x) (mPut vs r n y) (va_up kk (lo + n) x) (upd f6 (lo + n) y) lo := by
  obtain ⟨h1, h2, h3⟩ := h
  have hxk : ∀ i, i < n → kk (lo + i) ≠ x := fun i hi e => by
    obtain ⟨j, a, b, _⟩ := h1 i hi
    exact hx j a (by rw [← b, e])
  have ho : ∀ i, i < n → va_up kk (lo + n) x (lo + i) = kk (lo + i) ∧ upd f6 (lo + n) y (lo + i) = f6 (lo + i) := fun i hi => ⟨va_up_ne _ _ (by omega), pk_un (by omega)⟩
  refine ⟨fun i hi => ?_, fun j hj => ?_, fun i j hi hj e => ?_⟩
  · by_cases e : i = n
    · subst e
      exact ⟨r, by omega, by rw [va_up_self, mPut_eq], by rw [pk_us, mPut_eq]⟩
    · obtain ⟨j, b1, b2, b3⟩ := h1 i (by omega)
      rw [(ho i (by omega)).1, (ho i (by omega)).2]
      by_cases c : j < r
      · exact ⟨j, by omega, by rw [mPut_lt c, b2], by rw [mPut_lt c, b3]⟩
      · exact ⟨j + 1, by omega, by rw [mPut_gt (by omega) (by omega), b2]; rfl, by rw [mPut_gt (by omega) (by omega), b3]; rfl⟩
  · by_cases e : j = r
    · subst e
      exact ⟨n, by omega, by rw [va_up_self, mPut_eq], by rw [pk_us, mPut_eq]⟩
    · by_cases c : j < r
      · obtain ⟨i, b1, b2, b3⟩ := h2 j (by omega)
        exact ⟨i, by omega, by rw [(ho i b1).1, mPut_lt c, b2], by rw [(ho i b1).2, mPut_lt c, b3]⟩
      · obtain ⟨i, b1, b2, b3⟩ := h2 (j - 1) (by omega)
        exact ⟨i, by omega, by rw [(ho i b1).1, mPut_gt (by omega) (by omega), b2], by rw [(ho i b1).2, mPut_gt (by omega) (by omega), b3]⟩
  · by_cases c1 : i = n <;> by_cases c2 : j = n
    · omega
    · rw [c1, va_up_self, (ho j (by omega)).1] at e
      exact absurd e.symm (hxk j (by omega))
    · rw [c2, va_up_self, (ho i (by omega)).1] at e
      exact absurd e (hxk i (by omega))
    · rw [(ho i (by omega)).1, (ho j (by omega)).1] at e
      exact h3 i j (by omega) (by omega) e
/-- a value is changed in both -/
theorem mR.set (h : mR n ks vs kk f6 lo) (hS : mS n ks) {r i0 : Nat} (hr : r < n) (hi0 : i0 < n) (e0 : kk (lo + i0) = ks r) (y : Int32) : mR n ks (upd vs r y) kk (upd f6 (lo + i0) y) lo := by
  obtain ⟨h1, h2, h3⟩ := h
  refine ⟨fun i hi => ?_, fun j hj => ?_, h3⟩
  · obtain ⟨j, b1, b2, b3⟩ := h1 i hi
    by_cases e : i = i0
    · subst e
      have e1 : j = r := hS.inj b1 hr (by rw [← b2, e0])
      exact ⟨r, hr, e0, by rw [pk_us, pk_us]⟩
    · exact ⟨j, b1, b2, by rw [pk_un (by omega), pk_un (fun h9 => e (h3 i i0 hi hi0 (by rw [b2, e0, h9])))]; exact b3⟩
  · obtain ⟨i, b1, b2, b3⟩ := h2 j hj
    by_cases e : j = r
    · subst e
      exact ⟨i0, hi0, e0, by rw [pk_us, pk_us]⟩
    · exact ⟨i, b1, b2, by rw [pk_un (fun h9 => e (hS.inj hj hr (by rw [← b2, show i = i0 by omega, e0]))), pk_un e]; exact b3⟩
/-- counting where a key was taken out -/
theorem v_cnt_cut (P : List Nat → Bool) {r : Nat} (hr : r < n) (x : List Nat) : v_cnt (fun j => P (mCut ks r n x j)) 0 (n - 1) + (if P (ks r) = true then 1 else 0) = v_cnt (fun j => P (ks j)) 0 n := by
  have e1 := v_cnt_add (fun j => P (mCut ks r n x j)) 0 r (n - 1 - r)
  have e2 := v_cnt_add (fun j => P (ks j)) 0 r (n - r)
  have e3 := v_cnt_add (fun j => P (ks j)) (0 + r) 1 (n - r - 1)
  rw [show r + (n - 1 - r) = n - 1 by omega] at e1
  rw [show r + (n - r) = n by omega] at e2
  rw [show 1 + (n - r - 1) = n - r by omega] at e3
  have e4 : v_cnt (fun j => P (ks j)) (0 + r) 1 = if P (ks r) = true then 1 else 0 := by
    show 0 + (if P (ks (0 + r + 0)) = true then 1 else 0) = _
    rw [show 0 + r + 0 = r by omega, Nat.zero_add]
  have e5 : v_cnt (fun j => P (mCut ks r n x j)) 0 r = v_cnt (fun j => P (ks j)) 0 r := v_cnt_congr (fun j hj => by
    show P (mCut ks r n x (0 + j)) = _
    rw [mCut_lt (by omega) (by omega)])
  have e6 : v_cnt (fun j => P (mCut ks r n x j)) (0 + r) (n - 1 - r) = v_cnt (fun j => P (ks j)) (0 + r + 1) (n - r - 1) := by
    rw [show n - 1 - r = n - r - 1 by omega]
    exact v_cnt_congr (fun j hj => by
      show P (mCut ks r n x (0 + r + j)) = P (ks (0 + r + 1 + j))
      rw [mCut_ge (by omega) (by omega), show 0 + r + j + 1 = 0 + r + 1 + j by omega])
  omega
end MU
/-- the rank of a key is how many lie before it -/
theorem bef_self {n : Nat} {ks : Nat → List Nat} (hS : mS n ks) {tn f0 t0 k : Nat} (ht : t0 ≤ n) (hk : k < t0 - f0) : v_cnt (v_bef tn 1 ks (ks (v_pl tn f0 t0 k))) f0 (t0 - f0) = k + 1 := by
  have h1 := v_cnt_le (v_bef tn 1 ks (ks (v_pl tn f0 t0 k))) f0 (t0 - f0)
  have h2 := (v_bef_rk hS (tn := tn) (sm := 1) (ys := ks (v_pl tn f0 t0 k)) ht hk).mp (decide_eq_true (Or.inr ⟨by decide, by rw [v_o_s, d_s_refl]⟩))
  by_cases e : k + 1 < t0 - f0
  · have h3 := mt (v_bef_rk hS (tn := tn) (sm := 1) (ys := ks (v_pl tn f0 t0 k)) ht e).mpr (fun h9 => by
      have h8 := of_decide_eq_true h9
      rw [v_o_s] at h8
      have h7 := rk_s hS (tn := tn) (f0 := f0) ht (r := k) (s := k + 1) (by omega) e
      rw [d_s_anti] at h7
      omega)
    omega
  · omega
/-- keys one behind another have one rank after another -/
theorem it_ans {org : Nat → Option Nat} {srt : Nat → Nat} {bt : Nat → List Nat} {v : Nat} {n : Nat} {ks : Nat → List Nat} {vs : Nat → Int32} {kk : Nat → List Nat} {f6 : Nat → Int32} {lo tn f0 t0 : Nat} (hS : mS n ks) (hM : mR n ks vs kk f6 lo) (hV : v_ms org srt bt v n ks f0 t0) : ∀ (k : Nat) (o : Option Nat), k < t0 - f0 → d_it (fun ys o => d_nr (fun xs => v_in org srt bt v xs = true ∧ d_cd tn 1 0 (some ys) xs) tn 1 kk lo n o) (fun o => d_nr (fun xs => v_in org srt bt v xs = true ∧ d_cd tn 1 1 none xs) tn 1 kk lo n o) kk k o → ∃ g, o = some g ∧ kk g = ks (v_pl tn f0 t0 k) ∧ f6 g = vs (v_pl tn f0 t0 k)
  | 0, o, hk, h => by
    rcases fd_first hS hM hV h with ⟨_, b⟩ | ⟨g, a, _, c⟩
    · omega
    · exact ⟨g, a, c⟩
  | k + 1, o, hk, h => by
    obtain ⟨o1, h1, h2⟩ := h
    obtain ⟨g, a, b, c⟩ := it_ans hS hM hV k o1 (by omega) h1
    subst a
    have h3 : d_nr (fun xs => v_in org srt bt v xs = true ∧ d_cd tn 1 0 (some (kk g)) xs) tn 1 kk lo n o := h2
    rw [b] at h3
    have e := bef_self hS (tn := tn) (f0 := f0) hV.2.1 (k := k) (by omega)
    rcases fd_behind hS hM hV (s1 := 1) (Or.inr ⟨rfl, by decide⟩) h3 with ⟨_, d⟩ | ⟨g1, d1, d2, d3⟩
    · omega
    · rw [e] at d3
      exact ⟨g1, d1, d3⟩
/-- how many values there are: each is counted where it comes first -/
theorem v_cnt_dist {M : Nat} (f : Nat → Nat) (p q : Nat → Bool) (hs : Nat → Nat → Bool) (h0 : ∀ x, hs x 0 = false) (h1 : ∀ x k, hs x (k + 1) = (hs x k || (p k && decide (f k = x)))) : ∀ n, (∀ k, k < n → p k = true → f k < M) → (∀ k, k < n → (q k = true ↔ p k = true ∧ ¬ hs (f k) k = true)) → v_cnt (fun x => hs x n) 0 M = v_cnt q 0 n
  | 0, _, _ => by
    rw [v_cnt_no (fun x _ => by rw [h0]; decide)]
    rfl
  | n + 1, hf, hq => by
    have ih := v_cnt_dist f p q hs h0 h1 n (fun k hk => hf k (by omega)) (fun k hk => hq k (by omega))
    rw [v_cnt_s0, ← ih]
    by_cases hp : p n = true
    · by_cases hh : hs (f n) n = true
      · rw [if_neg (fun h9 => ((hq n (by omega)).mp h9).2 hh), Nat.add_zero]
        refine v_cnt_congr (fun x _ => ?_)
        show hs (0 + x) (n + 1) = hs (0 + x) n
        rw [h1, hp, Bool.true_and]
        by_cases e : f n = 0 + x
        · rw [← e, hh]
          rfl
        · rw [decide_eq_false e, Bool.or_false]
      · rw [if_pos ((hq n (by omega)).mpr ⟨hp, hh⟩)]
        have hu := v_cnt_upd (p := fun x => hs x n) (a := 0) (m := f n) (c := true) (hf n (by omega) hp)
        rw [Nat.zero_add, if_neg hh, if_pos rfl, Nat.add_zero] at hu
        rw [← hu]
        refine v_cnt_congr (fun x _ => ?_)
        show hs (0 + x) (n + 1) = if 0 + x = f n then true else hs (0 + x) n
        rw [h1, hp, Bool.true_and]
        by_cases e : f n = 0 + x
        · rw [decide_eq_true e, Bool.or_true, if_pos e.symm]
        · rw [decide_eq_false e, Bool.or_false, if_neg (fun h9 => e h9.symm)]
    · rw [if_neg (fun h9 => hp ((hq n (by omega)).mp h9).1), Nat.add_zero]
      refine v_cnt_congr (fun x _ => ?_)
      show hs (0 + x) (n + 1) = hs (0 + x) n
      rw [h1, Bool.eq_false_iff.mpr hp, Bool.false_and, Bool.or_false]
theorem e_dep_cnt {fd : Nat → Nat} {pl M : Nat} : ∀ n, (∀ i, i < n → i ≠ pl → fd i < M) → e_dep fd pl n = v_cnt (fun x => e_has fd pl n x) 0 M := fun n hn => by
  rw [v_cnt_dist fd (fun i => decide (i ≠ pl)) (fun i => !decide (i = pl) && !(e_has fd pl i (fd i))) (fun x k => e_has fd pl k x) (fun _ => rfl) (fun x k => rfl) n (fun k hk hp => hn k hk (of_decide_eq_true hp)) (fun k hk => by simp)]
  induction n with
  | zero => rfl
  | succ n ih =>
    rw [v_cnt_s0, ← ih (fun i hi => hn i (by omega))]
    show e_dep fd pl n + (if n = pl ∨ e_has fd pl n (fd n) = true then 0 else 1) = _
    by_cases e1 : n = pl
    · rw [if_pos (Or.inl e1), if_neg (by simp [e1])]
    · by_cases e2 : e_has fd pl n (fd n) = true
      · rw [if_pos (Or.inr e2), if_neg (by simp [e2])]
      · rw [if_neg (fun h => h.elim e1 e2), if_pos (by simp [e1, e2])]
theorem e_has_iff {fd : Nat → Nat} {pl x : Nat} : ∀ n, e_has fd pl n x = true ↔ ∃ i, i < n ∧ i ≠ pl ∧ fd i = x
  | 0 => ⟨fun h => (by cases h), fun ⟨i, h, _⟩ => absurd h (Nat.not_lt_zero i)⟩
  | n + 1 => by
    show (e_has fd pl n x || (decide (n ≠ pl) && decide (fd n = x))) = true ↔ _
    rw [Bool.or_eq_true, Bool.and_eq_true, decide_eq_true_iff, decide_eq_true_iff, e_has_iff n]
    constructor
    · rintro (⟨i, a, b⟩ | ⟨a, b⟩)
      · exact ⟨i, by omega, b⟩
      · exact ⟨n, by omega, a, b⟩
    · rintro ⟨i, a, b, c⟩
      by_cases e : i = n
      · subst e
        exact Or.inr ⟨b, c⟩
      · exact Or.inl ⟨i, by omega, b, c⟩
theorem d_hs_iff {kk : Nat → List Nat} {g x : Nat} : ∀ n, d_hs kk g x n = true ↔ ∃ i, i < n ∧ i ≠ g ∧ e_fdb (kk g) (kk i) = x
  | 0 => ⟨fun h => (by cases h), fun ⟨i, h, _⟩ => absurd h (Nat.not_lt_zero i)⟩
  | n + 1 => by
    show (d_hs kk g x n || (!decide (n = g) && decide (e_fdb (kk g) (kk n) = x))) = true ↔ _
    rw [Bool.or_eq_true, Bool.and_eq_true, Bool.not_eq_true', decide_eq_false_iff_not, decide_eq_true_iff, d_hs_iff n]
    constructor
    · rintro (⟨i, a, b⟩ | ⟨a, b⟩)
      · exact ⟨i, by omega, b⟩
      · exact ⟨n, by omega, a, b⟩
    · rintro ⟨i, a, b, c⟩
      by_cases e : i = n
      · subst e
        exact Or.inr ⟨b, c⟩
      · exact Or.inl ⟨i, by omega, b, c⟩
/-- the depth of a key, by the model and by the class -/
theorem dep_ans {n : Nat} {ks : Nat → List Nat} {vs : Nat → Int32} {kk : Nat → List Nat} {f6 : Nat → Int32} (hS : mS n ks) (hM : mR n ks vs kk f6 0) (h8 : ∀ j, j < n → (ks j).length ≤ 8) {g r : Nat} (hg : g < n) (hr : r < n) (e : kk g = ks r) : v_cnt (fun x => d_hs kk g x n) 0 140 = e_dep (fun j => e_fdb (ks r) (ks j)) r n := by
  rw [e_dep_cnt (M := 140) n (fun i hi hne => by
    have := e_fdb_lt (h8 r hr) (h8 i hi) (fun h9 => hne (hS.inj hi hr h9.symm))
    omega)]
  refine v_cnt_congr (fun x _ => ?_)
  rw [Bool.eq_iff_iff]
  show d_hs kk g (0 + x) n = true ↔ e_has _ r n (0 + x) = true
  rw [d_hs_iff, e_has_iff]
  constructor
  · rintro ⟨i, a, b, c⟩
    obtain ⟨j, j1, j2, _⟩ := hM.1 i a
    rw [Nat.zero_add] at j2
    refine ⟨j, j1, fun h9 => b (hM.2.2 i g a hg (by rw [Nat.zero_add, Nat.zero_add, j2, e, h9])), ?_⟩
    show e_fdb (ks r) (ks j) = _
    rw [← e, ← j2]
    exact c
  · rintro ⟨j, a, b, c⟩
    obtain ⟨i, i1, i2, _⟩ := hM.2.1 j a
    rw [Nat.zero_add] at i2
    refine ⟨i, i1, fun h9 => b (hS.inj a hr (by rw [← i2, h9, e])), ?_⟩
    rw [e, i2]
    exact c
