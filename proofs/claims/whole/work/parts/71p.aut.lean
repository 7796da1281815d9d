/-! the states of the model: pure. wip/texts/am*.txt -/
/-- keys are counted by what they go to -/
theorem v_cnt_inj {p : Nat → Bool} : ∀ {n m : Nat} {q : Nat → Bool} (f : Nat → Nat), (∀ i, i < n → p i = true → f i < m ∧ q (f i) = true) → (∀ i j, i < n → j < n → p i = true → p j = true → f i = f j → i = j) → v_cnt p 0 n ≤ v_cnt q 0 m
  | 0, _, _, _, _, _ => Nat.zero_le _
  | n + 1, m, q, f, h1, h2 => by
    rw [v_cnt_s0]
    by_cases e : p n = true
    · rw [if_pos e]
      obtain ⟨a1, a2⟩ := h1 n (by omega) e
      have hu := v_cnt_upd (p := q) (a := 0) (m := f n) (c := false) a1
      rw [Nat.zero_add, if_pos a2, if_neg (by decide)] at hu
      have ih := v_cnt_inj (p := p) (n := n) (m := m) (q := fun x => if x = f n then false else q x) f (fun i hi hp => by
        obtain ⟨b1, b2⟩ := h1 i (by omega) hp
        refine ⟨b1, ?_⟩
        rw [if_neg (fun h9 => by have := h2 i n (by omega) (by omega) hp e h9; omega)]
        exact b2) (fun i j hi hj => h2 i j (by omega) (by omega))
      omega
    · rw [if_neg e]
      exact v_cnt_inj f (fun i hi => h1 i (by omega)) (fun i j hi hj => h2 i j (by omega) (by omega))
/-- equal counts: every one is gone to -/
theorem v_cnt_onto {p q : Nat → Bool} {n m : Nat} (f : Nat → Nat) (h1 : ∀ i, i < n → p i = true → f i < m ∧ q (f i) = true) (h2 : ∀ i j, i < n → j < n → p i = true → p j = true → f i = f j → i = j) (h3 : v_cnt q 0 m ≤ v_cnt p 0 n) {y : Nat} (hy : y < m) (hq : q y = true) : ∃ i, i < n ∧ p i = true ∧ f i = y := by
  refine Classical.byContradiction (fun hno => ?_)
  have hu := v_cnt_upd (p := q) (a := 0) (m := y) (c := false) hy
  rw [Nat.zero_add, if_pos hq, if_neg (by decide)] at hu
  have := v_cnt_inj (p := p) (n := n) (m := m) (q := fun x => if x = y then false else q x) f (fun i hi hp => ⟨(h1 i hi hp).1, by
    rw [if_neg (fun h9 => hno ⟨i, hi, hp, h9⟩)]
    exact (h1 i hi hp).2⟩) h2
  omega
/-- places taken, and places of another kind, are no more than there are -/
theorem v_cnt_room {m : Nat} (f : Nat → Nat) : ∀ {t : Nat} {p : Nat → Bool}, (∀ k, k < t → f k < m ∧ ¬ p (f k) = true) → (∀ i j, i < t → j < t → f i = f j → i = j) → t + v_cnt p 0 m ≤ m
  | 0, p, _, _ => by
    have := v_cnt_le p 0 m
    omega
  | t + 1, p, h1, h2 => by
    obtain ⟨a1, a2⟩ := h1 t (by omega)
    have hu := v_cnt_upd (p := p) (a := 0) (m := f t) (c := true) a1
    rw [Nat.zero_add, if_neg a2, if_pos rfl] at hu
    have ih := v_cnt_room (m := m) f (t := t) (p := fun x => if x = f t then true else p x) (fun k hk => ⟨(h1 k (by omega)).1, by
      rw [if_neg (fun h9 => by have := h2 k t (by omega) (by omega) h9; omega)]
      exact (h1 k (by omega)).2⟩) (fun i j hi hj => h2 i j (by omega) (by omega))
    omega
/-- the place of number j among those of a kind -/
def v_nth (p : Nat → Bool) : Nat → Nat → Nat
  | 0, _ => 0
  | m + 1, j => if p m = true ∧ v_cnt p 0 m = j then m else v_nth p m j
theorem v_nth_at {p : Nat → Bool} {j : Nat} : ∀ {m : Nat}, j < v_cnt p 0 m → v_nth p m j < m ∧ p (v_nth p m j) = true ∧ v_cnt p 0 (v_nth p m j) = j
  | 0, h => absurd h (Nat.not_lt_zero j)
  | m + 1, h => by
    unfold v_nth
    by_cases e : p m = true ∧ v_cnt p 0 m = j
    · rw [if_pos e]
      exact ⟨by omega, e.1, e.2⟩
    · rw [if_neg e]
      rw [v_cnt_s0] at h
      have h1 : j < v_cnt p 0 m := by
        by_cases e1 : p m = true
        · rw [if_pos e1] at h
          have : ¬ v_cnt p 0 m = j := fun h9 => e ⟨e1, h9⟩
          omega
        · rw [if_neg e1] at h
          exact h
      obtain ⟨a1, a2, a3⟩ := v_nth_at h1
      exact ⟨by omega, a2, a3⟩
theorem v_cnt_lt' {p : Nat → Bool} {x y : Nat} (h : x < y) (hp : p x = true) : v_cnt p 0 x < v_cnt p 0 y := by
  have h1 : v_cnt p 0 (x + 1) = v_cnt p 0 x + 1 := by rw [v_cnt_s0, if_pos hp]
  have h2 := v_cnt_mono p 0 (x := x + 1) (y := y) (by omega)
  omega
theorem v_cnt_eq {p : Nat → Bool} {x y : Nat} (hx : p x = true) (hy : p y = true) (h : v_cnt p 0 x = v_cnt p 0 y) : x = y := by
  rcases Nat.lt_trichotomy x y with h1 | h1 | h1
  · have := v_cnt_lt' h1 hx
    omega
  · exact h1
  · have := v_cnt_lt' h1 hy
    omega
/-- whether a text is the beginning of a key -/
def k_pre (K : List Nat → Prop) (u : List Nat) : Prop := ∃ v, K (u ++ v)
/-- whether the same goes on behind two texts -/
def k_eq (K : List Nat → Prop) (u v : List Nat) : Prop := ∀ x, K (u ++ x) ↔ K (v ++ x)
theorem k_eq.refl (K : List Nat → Prop) (u : List Nat) : k_eq K u u := fun _ => Iff.rfl
theorem k_eq.symm {K : List Nat → Prop} {u v : List Nat} (h : k_eq K u v) : k_eq K v u := fun x => (h x).symm
theorem k_eq.trans {K : List Nat → Prop} {u v w : List Nat} (h : k_eq K u v) (h1 : k_eq K v w) : k_eq K u w := fun x => (h x).trans (h1 x)
theorem k_eq.pre {K : List Nat → Prop} {u v : List Nat} (h : k_eq K u v) (h1 : k_pre K u) : k_pre K v := by
  obtain ⟨x, hx⟩ := h1
  exact ⟨x, (h x).mp hx⟩
theorem k_eq.app {K : List Nat → Prop} {u v : List Nat} (h : k_eq K u v) (c : List Nat) : k_eq K (u ++ c) (v ++ c) := fun x => by
  rw [List.append_assoc, List.append_assoc]
  exact h (c ++ x)
/-- the prefixes are those of the keys, each once -/
def k_ps (K : List Nat → Prop) (kk : Nat → List Nat) (pn : Nat) (pg pl : Nat → Nat) : Prop := (∀ y, y < pn → pl y ≤ (kk (pg y)).length ∧ t16 (kk (pg y))) ∧ (∀ x y, x < pn → y < pn → d_pu kk pg pl x = d_pu kk pg pl y → x = y) ∧ ∀ u, (∃ y, y < pn ∧ d_pu kk pg pl y = u) ↔ k_pre K u
theorem t_take_s {xs : List Nat} {n : Nat} (h : n < xs.length) : xs.take (n + 1) = xs.take n ++ [xs.getD n 0] := by
  rw [List.take_add_one, List.getD_eq_getElem?_getD, List.getElem?_eq_getElem h]
  rfl
section AM
variable {K : List Nat → Prop} {kk : Nat → List Nat} {pn : Nat} {pg pl : Nat → Nat}
theorem d_fo_iff (h : k_ps K kk pn pg pl) {x y : Nat} (hx : x < pn) (hy : y < pn) : d_fo kk pg pl x y = true ↔ d_pu kk pg pl y = d_pu kk pg pl x ++ [(kk (pg y)).getD (pl x) 0] ∧ pl y = pl x + 1 := by
  unfold d_fo
  rw [Bool.and_eq_true, decide_eq_true_iff, decide_eq_true_iff]
  have h1 := (h.1 y hy).1
  have h2 := (h.1 x hx).1
  refine ⟨fun ⟨a, b⟩ => ⟨?_, a⟩, fun ⟨a, b⟩ => ⟨b, ?_⟩⟩
  · show (kk (pg y)).take (pl y) = (kk (pg x)).take (pl x) ++ _
    rw [a, t_take_s (by omega), b]
  · have a' : (kk (pg y)).take (pl y) = (kk (pg x)).take (pl x) ++ [(kk (pg y)).getD (pl x) 0] := a
    rw [b, t_take_s (by omega)] at a'
    exact List.append_inj_left a' (by rw [List.length_take, List.length_take]; omega)
theorem d_fo_c (h : k_ps K kk pn pg pl) {x : Nat} (hx : x < pn) {c : Nat} (hc : k_pre K (d_pu kk pg pl x ++ [c])) : ∃ y, y < pn ∧ d_fo kk pg pl x y = true ∧ (kk (pg y)).getD (pl x) 0 = c := by
  obtain ⟨y, hy, e⟩ := (h.2.2 _).mpr hc
  have l1 := congrArg List.length e
  have h1 := (h.1 y hy).1
  have h2 := (h.1 x hx).1
  rw [List.length_append, List.length_singleton, List.length_take, List.length_take] at l1
  have e1 : pl y = pl x + 1 := by omega
  have e2 : (kk (pg y)).take (pl x) ++ [(kk (pg y)).getD (pl x) 0] = (kk (pg x)).take (pl x) ++ [c] := by
    rw [← t_take_s (by omega), ← e1]
    exact e
  have e3 := List.append_inj e2 (by rw [List.length_take, List.length_take]; omega)
  refine ⟨y, hy, ?_, by simpa using e3.2⟩
  unfold d_fo
  rw [decide_eq_true e1, decide_eq_true e3.1]
  rfl
theorem d_fo_par (h : k_ps K kk pn pg pl) {x z y : Nat} (hx : x < pn) (hz : z < pn) (hy : y < pn) (h1 : d_fo kk pg pl x y = true) (h2 : d_fo kk pg pl z y = true) : x = z := by
  have a := (d_fo_iff h hx hy).mp h1
  have b := (d_fo_iff h hz hy).mp h2
  have e := a.1.symm.trans b.1
  exact h.2.1 x z hx hz (List.append_inj_left' e rfl)
theorem d_fo_let (h : k_ps K kk pn pg pl) {x : Nat} {y z : Nat} (hx : x < pn) (hy : y < pn) (hz : z < pn) (h1 : d_fo kk pg pl x y = true) (h2 : d_fo kk pg pl x z = true) (e : (kk (pg y)).getD (pl x) 0 = (kk (pg z)).getD (pl x) 0) : y = z := by
  have a := (d_fo_iff h hx hy).mp h1
  have b := (d_fo_iff h hx hz).mp h2
  exact h.2.1 y z hy hz (by rw [a.1, b.1, e])
theorem d_fo_pre (h : k_ps K kk pn pg pl) {x y : Nat} (hx : x < pn) (hy : y < pn) (h1 : d_fo kk pg pl x y = true) : k_pre K (d_pu kk pg pl x ++ [(kk (pg y)).getD (pl x) 0]) := by
  rw [← ((d_fo_iff h hx hy).mp h1).1]
  exact (h.2.2 _).mp ⟨y, hy, rfl⟩
theorem d_let_lt (h : k_ps K kk pn pg pl) {y : Nat} (hy : y < pn) (i : Nat) : (kk (pg y)).getD i 0 < 65536 := t_lt (h.1 y hy).2 i
theorem d_gof_two (f3 f4 f5 : Nat → Int32) (s c : Int32) : ∀ f k, (∃ i, k ≤ i ∧ i < k + f ∧ f3 i = s ∧ f4 i = c ∧ d_gof f3 f4 f5 s c f k = f5 i) ∨ ((∀ i, k ≤ i → i < k + f → ¬ (f3 i = s ∧ f4 i = c)) ∧ d_gof f3 f4 f5 s c f k = -1)
  | 0, k => Or.inr ⟨fun i h1 h2 => by omega, rfl⟩
  | f + 1, k => by
    unfold d_gof
    by_cases e : f3 k = s ∧ f4 k = c
    · rw [if_pos e]
      exact Or.inl ⟨k, Nat.le_refl _, by omega, e.1, e.2, rfl⟩
    · rw [if_neg e]
      rcases d_gof_two f3 f4 f5 s c f (k + 1) with ⟨i, a1, a2, a3⟩ | ⟨a1, a2⟩
      · exact Or.inl ⟨i, by omega, by omega, a3⟩
      · refine Or.inr ⟨fun i h1 h2 => ?_, a2⟩
        by_cases e1 : i = k
        · rw [e1]
          exact e
        · exact a1 i (by omega) (by omega)
theorem d_go_two (f3 f4 f5 : Nat → Int32) (s c : Int32) (m : Nat) : (∃ i, i < m ∧ f3 i = s ∧ f4 i = c ∧ d_go f3 f4 f5 s c m = f5 i) ∨ ((∀ i, i < m → ¬ (f3 i = s ∧ f4 i = c)) ∧ d_go f3 f4 f5 s c m = -1) := by
  rcases d_gof_two f3 f4 f5 s c m 0 with ⟨i, a1, a2, a3⟩ | ⟨a1, a2⟩
  · exact Or.inl ⟨i, by omega, a3⟩
  · exact Or.inr ⟨fun i h => a1 i (Nat.zero_le _) (by omega), a2⟩
end AM
theorem k_choose {P : Nat → Prop} {Q : Nat → Nat → Prop} (h : ∀ y, P y → ∃ z, Q y z) : ∃ G : Nat → Nat, ∀ y, P y → Q y (G y) := by
  have h1 : ∀ y, ∃ z, P y → Q y z := fun y => by
    by_cases hy : P y
    · obtain ⟨z, hz⟩ := h y hy
      exact ⟨z, fun _ => hz⟩
    · exact ⟨0, fun h9 => absurd h9 hy⟩
  exact ⟨fun y => Classical.choose (h1 y), fun y => Classical.choose_spec (h1 y)⟩
/-- the states so far: state s stands for prefix rp s; step k leads to prefix sq k -/
def d_aI (K : List Nat → Prop) (kk : Nat → List Nat) (pn : Nat) (pg pl : Nat → Nat) (pr : Nat → Prop) (sN tN : Nat) (f1 f2 f3 f4 f5 : Nat → Int32) (rp sq : Nat → Nat) : Prop :=
  (∀ s, s < sN → rp s < pn ∧ pr (rp s) ∧ f1 (rp s) = nI s) ∧
  (∀ y, y < pn → pr y → ∃ s, s < sN ∧ f1 y = nI s ∧ k_eq K (d_pu kk pg pl (rp s)) (d_pu kk pg pl y)) ∧
  (∀ s t, s < sN → t < sN → k_eq K (d_pu kk pg pl (rp s)) (d_pu kk pg pl (rp t)) → s = t) ∧
  (∀ s, s < sN → (K (d_pu kk pg pl (rp s)) → f2 s = nI 1) ∧ (¬ K (d_pu kk pg pl (rp s)) → f2 s = nI 0)) ∧
  (∀ k, k < tN → sq k < pn ∧ ∃ s, s < sN ∧ f3 k = nI s ∧ d_fo kk pg pl (rp s) (sq k) = true ∧ f4 k = nI ((kk (pg (sq k))).getD (pl (rp s)) 0) ∧ f5 k = f1 (sq k)) ∧
  (∀ i j, i < tN → j < tN → sq i = sq j → i = j) ∧
  (∀ s y, s < sN → y < pn → d_fo kk pg pl (rp s) y = true → ∃ k, k < tN ∧ sq k = y)
section AI
variable {K : List Nat → Prop} {kk : Nat → List Nat} {pn : Nat} {pg pl : Nat → Nat} {pr : Nat → Prop} {sN tN : Nat} {f1 f2 f3 f4 f5 : Nat → Int32} {rp sq : Nat → Nat}
theorem d_aI.rpi (h : d_aI K kk pn pg pl pr sN tN f1 f2 f3 f4 f5 rp sq) (hs : sN < 2 ^ 31) {s t : Nat} (h1 : s < sN) (h2 : t < sN) (e : rp s = rp t) : s = t := by
  have a := (h.1 s h1).2.2
  have b := (h.1 t h2).2.2
  rw [e] at a
  exact (nI_eq (by omega) (by omega)).mp (a.symm.trans b)
theorem d_aI.room (h : d_aI K kk pn pg pl pr sN tN f1 f2 f3 f4 f5 rp sq) (hs : sN < 2 ^ 31) : sN ≤ pn := by
  have := v_cnt_room (m := pn) rp (t := sN) (p := fun _ => false) (fun k hk => ⟨(h.1 k hk).1, by decide⟩) (fun i j hi hj e => h.rpi hs hi hj e)
  omega
/-- step k from s with letter c -/
theorem d_aI.stp (h : d_aI K kk pn pg pl pr sN tN f1 f2 f3 f4 f5 rp sq) (hs : sN < 2 ^ 31) {k s : Nat} (hk : k < tN) (hs1 : s < sN) (e : f3 k = nI s) : sq k < pn ∧ d_fo kk pg pl (rp s) (sq k) = true ∧ f4 k = nI ((kk (pg (sq k))).getD (pl (rp s)) 0) ∧ f5 k = f1 (sq k) := by
  obtain ⟨a1, t, a2, a3, a4, a5, a6⟩ := h.2.2.2.2.1 k hk
  have e1 : t = s := (nI_eq (by omega) (by omega)).mp (a3.symm.trans e)
  subst e1
  exact ⟨a1, a4, a5, a6⟩
theorem d_aI.stp' (hP : k_ps K kk pn pg pl) (h : d_aI K kk pn pg pl pr sN tN f1 f2 f3 f4 f5 rp sq) (hs : sN < 2 ^ 31) {s y : Nat} (hs1 : s < sN) (hy : y < pn) (hf : d_fo kk pg pl (rp s) y = true) : ∃ k, k < tN ∧ f3 k = nI s ∧ sq k = y := by
  obtain ⟨k, h1, h2⟩ := h.2.2.2.2.2.2 s y hs1 hy hf
  obtain ⟨a1, t, a2, a3, a4, a5, a6⟩ := h.2.2.2.2.1 k h1
  rw [h2] at a4
  have e := d_fo_par hP (h.1 s hs1).1 (h.1 t a2).1 hy hf a4
  have e1 := h.rpi hs hs1 a2 e
  subst e1
  exact ⟨k, h1, a3, h2⟩
theorem d_aI.cnt (hP : k_ps K kk pn pg pl) (h : d_aI K kk pn pg pl pr sN tN f1 f2 f3 f4 f5 rp sq) (hs : sN < 2 ^ 31) {s : Nat} (hs1 : s < sN) : v_cnt (fun k => decide (f3 k = nI s)) 0 tN = v_cnt (d_fo kk pg pl (rp s)) 0 pn := by
  apply Nat.le_antisymm
  · refine v_cnt_inj sq (fun i hi hp => ?_) (fun i j hi hj _ _ e => h.2.2.2.2.2.1 i j hi hj e)
    have := h.stp hs hi hs1 (of_decide_eq_true hp)
    exact ⟨this.1, this.2.1⟩
  · have hc : ∀ y, y < pn → d_fo kk pg pl (rp s) y = true → ∃ k, k < tN ∧ f3 k = nI s ∧ sq k = y := fun y hy hf => h.stp' hP hs hs1 hy hf
    refine v_cnt_inj (fun y => v_nth (fun k => decide (f3 k = nI s) && decide (sq k = y)) tN 0) (fun y hy hp => ?_) (fun x y hx hy hp1 hp2 e => ?_)
    · obtain ⟨k, k1, k2, k3⟩ := hc y hy hp
      have hpos : 0 < v_cnt (fun k => decide (f3 k = nI s) && decide (sq k = y)) 0 tN := Nat.lt_of_le_of_lt (Nat.zero_le _) (v_cnt_lt' (x := k) k1 (by rw [decide_eq_true k2, decide_eq_true k3]; rfl))
      obtain ⟨a1, a2, a3⟩ := v_nth_at hpos
      rw [Bool.and_eq_true] at a2
      exact ⟨a1, a2.1⟩
    · have g : ∀ y, y < pn → d_fo kk pg pl (rp s) y = true → sq (v_nth (fun k => decide (f3 k = nI s) && decide (sq k = y)) tN 0) = y := fun y hy hp => by
        obtain ⟨k, k1, k2, k3⟩ := hc y hy hp
        have hpos : 0 < v_cnt (fun k => decide (f3 k = nI s) && decide (sq k = y)) 0 tN := Nat.lt_of_le_of_lt (Nat.zero_le _) (v_cnt_lt' (x := k) k1 (by rw [decide_eq_true k2, decide_eq_true k3]; rfl))
        obtain ⟨a1, a2, a3⟩ := v_nth_at hpos
        rw [Bool.and_eq_true, decide_eq_true_iff, decide_eq_true_iff] at a2
        exact a2.2
      rw [← g x hx hp1, ← g y hy hp2]
      exact congrArg sq e
theorem d_aI.go (hP : k_ps K kk pn pg pl) (h : d_aI K kk pn pg pl pr sN tN f1 f2 f3 f4 f5 rp sq) (hs : sN < 2 ^ 31) {s c : Nat} (hs1 : s < sN) (hc : c < 65536) : (∃ y, y < pn ∧ d_fo kk pg pl (rp s) y = true ∧ (kk (pg y)).getD (pl (rp s)) 0 = c ∧ d_go f3 f4 f5 (nI s) (nI c) tN = f1 y) ∨ (¬ k_pre K (d_pu kk pg pl (rp s) ++ [c]) ∧ d_go f3 f4 f5 (nI s) (nI c) tN = -1) := by
  rcases d_go_two f3 f4 f5 (nI s) (nI c) tN with ⟨k, a1, a2, a3, a4⟩ | ⟨a1, a2⟩
  · obtain ⟨b1, b2, b3, b4⟩ := h.stp hs a1 hs1 a2
    have := d_let_lt hP b1 (pl (rp s))
    exact Or.inl ⟨sq k, b1, b2, (nI_eq (by omega) (by omega)).mp (b3.symm.trans a3), a4.trans b4⟩
  · refine Or.inr ⟨fun h9 => ?_, a2⟩
    obtain ⟨y, y1, y2, y3⟩ := d_fo_c hP (h.1 s hs1).1 h9
    obtain ⟨k, k1, k2, k3⟩ := h.stp' hP hs hs1 y1 y2
    obtain ⟨b1, b2, b3, b4⟩ := h.stp hs k1 hs1 k2
    exact a1 k k1 ⟨k2, by rw [b3, k3, y3]⟩
/-- a state is the one of a prefix just if the same goes on behind both -/
theorem d_aI.mt (hP : k_ps K kk pn pg pl) (h : d_aI K kk pn pg pl pr sN tN f1 f2 f3 f4 f5 rp sq) (hs : sN < 2 ^ 31) {x s : Nat} {fin : Int32} (hx : x < pn) (hs1 : s < sN) (hch : ∀ y, y < pn → d_fo kk pg pl x y = true → pr y) (hup : ∀ s y, s < sN → y < pn → d_fo kk pg pl (rp s) y = true → pr y) (hf1 : K (d_pu kk pg pl x) → fin = nI 1) (hf0 : ¬ K (d_pu kk pg pl x) → fin = nI 0) : d_mt kk pg pl f1 f2 f3 f4 f5 tN pn fin x s ↔ k_eq K (d_pu kk pg pl (rp s)) (d_pu kk pg pl x) := by
  have hne : ¬ nI 1 = nI 0 := fun h9 => absurd ((nI_eq (by decide) (by decide)).mp h9) (by decide)
  have hrs := (h.1 s hs1).1
  have hfin := h.2.2.2.1 s hs1
  have hall : d_ak kk pg pl f3 f4 f5 f1 tN (nI s) x pn = true ↔ ∀ y, y < pn → d_fo kk pg pl x y = true → d_go f3 f4 f5 (nI s) (nI ((kk (pg y)).getD (pl x) 0)) tN = f1 y := by
    unfold d_ak
    rw [List.all_eq_true]
    refine ⟨fun a y hy hf => ?_, fun a y hy => ?_⟩
    · have := a y (List.mem_range.mpr hy)
      rw [hf] at this
      simpa using this
    · by_cases hf : d_fo kk pg pl x y = true
      · rw [hf, decide_eq_true (a y (List.mem_range.mp hy) hf)]
        rfl
      · rw [Bool.eq_false_iff.mpr hf]
        rfl
  -- the state that a processed prefix has, is that of the same texts
  have hst : ∀ y z, y < pn → z < pn → pr y → pr z → (f1 y = f1 z ↔ k_eq K (d_pu kk pg pl y) (d_pu kk pg pl z)) := fun y z hy hz py pz => by
    obtain ⟨a, a1, a2, a3⟩ := h.2.1 y hy py
    obtain ⟨b, b1, b2, b3⟩ := h.2.1 z hz pz
    refine ⟨fun e => ?_, fun e => ?_⟩
    · have e1 : a = b := (nI_eq (by omega) (by omega)).mp (a2.symm.trans (e.trans b2))
      subst e1
      exact a3.symm.trans b3
    · have e1 := h.2.2.1 a b a1 b1 (a3.trans (e.trans b3.symm))
      rw [a2, b2, e1]
  have hpr : ∀ y, y < pn → pr y → ¬ f1 y = -1 := fun y hy py e => by
    obtain ⟨a, a1, a2, a3⟩ := h.2.1 y hy py
    exact d_m1 (j := a) (by omega) (a2.symm.trans e)
  unfold d_mt
  rw [hall, h.cnt hP hs hs1]
  constructor
  · rintro ⟨m1, m2, m3⟩
    -- where the children of x go
    have hg : ∀ y, y < pn → d_fo kk pg pl x y = true → ∃ z, z < pn ∧ d_fo kk pg pl (rp s) z = true ∧ (kk (pg z)).getD (pl (rp s)) 0 = (kk (pg y)).getD (pl x) 0 ∧ k_eq K (d_pu kk pg pl z) (d_pu kk pg pl y) := fun y hy hf => by
      have e := m3 y hy hf
      rcases h.go hP hs hs1 (d_let_lt hP hy (pl x)) with ⟨z, z1, z2, z3, z4⟩ | ⟨z1, z2⟩
      · exact ⟨z, z1, z2, z3, (hst z y z1 hy (hup s z hs1 z1 z2) (hch y hy hf)).mp (z4.symm.trans e)⟩
      · exact absurd (e.symm.trans z2) (hpr y hy (hch y hy hf))
    have hg2 : ∀ z, z < pn → d_fo kk pg pl (rp s) z = true → ∃ y, y < pn ∧ d_fo kk pg pl x y = true ∧ (kk (pg z)).getD (pl (rp s)) 0 = (kk (pg y)).getD (pl x) 0 ∧ k_eq K (d_pu kk pg pl z) (d_pu kk pg pl y) := fun z hz hf => by
      obtain ⟨G, hG⟩ : ∃ G : Nat → Nat, ∀ y, y < pn → d_fo kk pg pl x y = true → G y < pn ∧ d_fo kk pg pl (rp s) (G y) = true ∧ (kk (pg (G y))).getD (pl (rp s)) 0 = (kk (pg y)).getD (pl x) 0 ∧ k_eq K (d_pu kk pg pl (G y)) (d_pu kk pg pl y) := by
        obtain ⟨G, hG⟩ := k_choose (P := fun y => y < pn ∧ d_fo kk pg pl x y = true) (fun y hy => hg y hy.1 hy.2)
        exact ⟨G, fun y hy hf => hG y ⟨hy, hf⟩⟩
      obtain ⟨y, y1, y2, y3⟩ := v_cnt_onto (p := d_fo kk pg pl x) (q := d_fo kk pg pl (rp s)) (n := pn) (m := pn) G (fun i hi hp => ⟨(hG i hi hp).1, (hG i hi hp).2.1⟩) (fun i j hi hj hp1 hp2 e => by
        have a := (hG i hi hp1).2.2.1
        have b := (hG j hj hp2).2.2.1
        rw [e] at a
        exact d_fo_let hP hx hi hj hp1 hp2 (a.symm.trans b)) (by rw [m2]; exact Nat.le_refl _) hz hf
      have := hG y y1 y2
      rw [y3] at this
      exact ⟨y, y1, y2, this.2.2⟩
    intro v
    cases v with
    | nil =>
      rw [List.append_nil, List.append_nil]
      by_cases c1 : K (d_pu kk pg pl (rp s)) <;> by_cases c2 : K (d_pu kk pg pl x)
      · exact iff_of_true c1 c2
      · exact absurd ((hfin.1 c1).symm.trans (m1.trans (hf0 c2))) hne
      · exact absurd ((hf1 c2).symm.trans (m1.symm.trans (hfin.2 c1))) hne
      · exact iff_of_false c1 c2
    | cons c v =>
      have key : ∀ y z, y < pn → z < pn → d_fo kk pg pl x y = true → d_fo kk pg pl (rp s) z = true → (kk (pg z)).getD (pl (rp s)) 0 = c → (kk (pg y)).getD (pl x) 0 = c → k_eq K (d_pu kk pg pl z) (d_pu kk pg pl y) → (K (d_pu kk pg pl (rp s) ++ c :: v) ↔ K (d_pu kk pg pl x ++ c :: v)) := fun y z hy hz f1' f2' e1 e2 hk => by
        have a := hk v
        rw [((d_fo_iff hP hx hy).mp f1').1, ((d_fo_iff hP hrs hz).mp f2').1, e1, e2, List.append_assoc, List.append_assoc] at a
        exact a
      constructor
      · intro hv
        obtain ⟨z, z1, z2, z3⟩ := d_fo_c hP hrs (c := c) ⟨v, by rw [List.append_assoc]; exact hv⟩
        obtain ⟨y, y1, y2, y3, y4⟩ := hg2 z z1 z2
        exact (key y z y1 z1 y2 z2 z3 (y3.symm.trans z3) y4).mp hv
      · intro hv
        obtain ⟨y, y1, y2, y3⟩ := d_fo_c hP hx (c := c) ⟨v, by rw [List.append_assoc]; exact hv⟩
        obtain ⟨z, z1, z2, z3, z4⟩ := hg y y1 y2
        exact (key y z y1 z1 y2 z2 (z3.trans y3) y3 z4).mpr hv
  · intro he
    have hA : ∀ a b, a < pn → b < pn → k_eq K (d_pu kk pg pl a) (d_pu kk pg pl b) → ∀ y, y < pn → d_fo kk pg pl a y = true → ∃ z, z < pn ∧ d_fo kk pg pl b z = true ∧ (kk (pg z)).getD (pl b) 0 = (kk (pg y)).getD (pl a) 0 := fun a b ha hb hab y hy hf => by
      have h1 := (hab.app [(kk (pg y)).getD (pl a) 0]).pre (d_fo_pre hP ha hy hf)
      exact d_fo_c hP hb h1
    have hcnt : ∀ a b, a < pn → b < pn → k_eq K (d_pu kk pg pl a) (d_pu kk pg pl b) → v_cnt (d_fo kk pg pl a) 0 pn ≤ v_cnt (d_fo kk pg pl b) 0 pn := fun a b ha hb hab => by
      obtain ⟨G, hG⟩ : ∃ G : Nat → Nat, ∀ y, y < pn → d_fo kk pg pl a y = true → G y < pn ∧ d_fo kk pg pl b (G y) = true ∧ (kk (pg (G y))).getD (pl b) 0 = (kk (pg y)).getD (pl a) 0 := by
        obtain ⟨G, hG⟩ := k_choose (P := fun y => y < pn ∧ d_fo kk pg pl a y = true) (fun y hy => hA a b ha hb hab y hy.1 hy.2)
        exact ⟨G, fun y hy hf => hG y ⟨hy, hf⟩⟩
      refine v_cnt_inj G (fun i hi hp => ⟨(hG i hi hp).1, (hG i hi hp).2.1⟩) (fun i j hi hj hp1 hp2 e => ?_)
      have a1 := (hG i hi hp1).2.2
      have b1 := (hG j hj hp2).2.2
      rw [e] at a1
      exact d_fo_let hP ha hi hj hp1 hp2 (a1.symm.trans b1)
    refine ⟨?_, Nat.le_antisymm (hcnt _ _ hrs hx he) (hcnt _ _ hx hrs he.symm), fun y hy hf => ?_⟩
    · have e0 := he []
      rw [List.append_nil, List.append_nil] at e0
      by_cases c : K (d_pu kk pg pl x)
      · rw [hf1 c, hfin.1 (e0.mpr c)]
      · rw [hf0 c, hfin.2 (fun h9 => c (e0.mp h9))]
    · have hlt := d_let_lt hP hy (pl x)
      have hpre := (he.symm.app [(kk (pg y)).getD (pl x) 0]).pre (d_fo_pre hP hx hy hf)
      rcases h.go hP hs hs1 hlt with ⟨z, z1, z2, z3, z4⟩ | ⟨z1, z2⟩
      · rw [z4]
        refine (hst z y z1 hy (hup s z hs1 z1 z2) (hch y hy hf)).mpr ?_
        rw [((d_fo_iff hP hx hy).mp hf).1, ((d_fo_iff hP hrs z1).mp z2).1, z3]
        exact he.app _
      · exact absurd hpre z1
end AI
def d_sqn (sq : Nat → Nat) (p : Nat → Bool) (tN pn : Nat) (k : Nat) : Nat := if k < tN then sq k else v_nth p pn (k - tN)
section AS
variable {K : List Nat → Prop} {kk : Nat → List Nat} {pn : Nat} {pg pl : Nat → Nat} {pr : Nat → Prop} {sN tN : Nat} {f1 f2 f3 f4 f5 : Nat → Int32} {rp sq : Nat → Nat}
/-- a prefix of a state that is there -/
theorem d_aI.old (h : d_aI K kk pn pg pl pr sN tN f1 f2 f3 f4 f5 rp sq) {x r : Nat} (hr : r < sN) (hpx : ¬ pr x) (hk : k_eq K (d_pu kk pg pl (rp r)) (d_pu kk pg pl x)) (hup : ∀ s y, s < sN → y < pn → d_fo kk pg pl (rp s) y = true → pr y) {pr1 : Nat → Prop} (h1 : ∀ y, y < pn → (pr1 y ↔ pr y ∨ y = x)) : d_aI K kk pn pg pl pr1 sN tN (upd f1 x (nI r)) f2 f3 f4 f5 rp sq := by
  obtain ⟨a1, a2, a3, a4, a5, a6, a7⟩ := h
  have hn : ∀ y, pr y → y ≠ x := fun y hy e => hpx (e ▸ hy)
  refine ⟨fun s hs => ?_, fun y hy hp => ?_, a3, a4, fun k hk1 => ?_, a6, a7⟩
  · obtain ⟨b1, b2, b3⟩ := a1 s hs
    exact ⟨b1, (h1 _ b1).mpr (Or.inl b2), by rw [pk_un (hn _ b2)]; exact b3⟩
  · rcases (h1 y hy).mp hp with h2 | h2
    · obtain ⟨s, b1, b2, b3⟩ := a2 y hy h2
      exact ⟨s, b1, by rw [pk_un (hn _ h2)]; exact b2, b3⟩
    · subst h2
      exact ⟨r, hr, by rw [pk_us], hk⟩
  · obtain ⟨b1, s, b2, b3, b4, b5, b6⟩ := a5 k hk1
    exact ⟨b1, s, b2, b3, b4, b5, by rw [pk_un (hn _ (hup s _ b2 b1 b4))]; exact b6⟩
/-- a prefix of a new state -/
theorem d_aI.new (hP : k_ps K kk pn pg pl) (h : d_aI K kk pn pg pl pr sN tN f1 f2 f3 f4 f5 rp sq) {x : Nat} {fin : Int32} (hx : x < pn) (hpx : ¬ pr x) (hnk : ∀ s, s < sN → ¬ k_eq K (d_pu kk pg pl (rp s)) (d_pu kk pg pl x)) (hch : ∀ y, y < pn → d_fo kk pg pl x y = true → pr y) (hup : ∀ s y, s < sN → y < pn → d_fo kk pg pl (rp s) y = true → pr y) (hf1 : K (d_pu kk pg pl x) → fin = nI 1) (hf0 : ¬ K (d_pu kk pg pl x) → fin = nI 0) {pr1 : Nat → Prop} (h1 : ∀ y, y < pn → (pr1 y ↔ pr y ∨ y = x)) {F G E : Nat → Int32} (hsx : d_sx kk pg pl f1 f3 f4 f5 tN sN x pn F G E) : d_aI K kk pn pg pl pr1 (sN + 1) (tN + v_cnt (d_fo kk pg pl x) 0 pn) (upd f1 x (nI sN)) (upd f2 sN fin) F G E (va_up rp sN x) (d_sqn sq (d_fo kk pg pl x) tN pn) := by
  obtain ⟨a1, a2, a3, a4, a5, a6, a7⟩ := h
  have hn : ∀ y, pr y → y ≠ x := fun y hy e => hpx (e ▸ hy)
  have hrp : ∀ s, s < sN → va_up rp sN x s = rp s := fun s hs => va_up_ne _ _ (by omega)
  have hrx : va_up rp sN x sN = x := va_up_self _ _ _
  have hso : ∀ k, k < tN → d_sqn sq (d_fo kk pg pl x) tN pn k = sq k := fun k hk => if_pos hk
  have hsn : ∀ k, ¬ k < tN → d_sqn sq (d_fo kk pg pl x) tN pn k = v_nth (d_fo kk pg pl x) pn (k - tN) := fun k hk => if_neg hk
  have hpar : ∀ k, k < tN → ¬ d_fo kk pg pl x (sq k) = true := fun k hk h9 => by
    obtain ⟨b1, s, b2, b3, b4, b5⟩ := a5 k hk
    have e := d_fo_par hP (a1 s b2).1 hx b1 b4 h9
    exact hn _ (a1 s b2).2.1 e
  refine ⟨fun s hs => ?_, fun y hy hp => ?_, fun s t hs ht he => ?_, fun s hs => ?_, fun k hk => ?_, fun i j hi hj he => ?_, fun s y hs hy hf => ?_⟩
  · by_cases e : s = sN
    · subst e
      rw [hrx, pk_us]
      exact ⟨hx, (h1 x hx).mpr (Or.inr rfl), rfl⟩
    · rw [hrp s (by omega)]
      obtain ⟨b1, b2, b3⟩ := a1 s (by omega)
      exact ⟨b1, (h1 _ b1).mpr (Or.inl b2), by rw [pk_un (hn _ b2)]; exact b3⟩
  · rcases (h1 y hy).mp hp with h2 | h2
    · obtain ⟨s, b1, b2, b3⟩ := a2 y hy h2
      exact ⟨s, by omega, by rw [pk_un (hn _ h2)]; exact b2, by rw [hrp s b1]; exact b3⟩
    · subst h2
      exact ⟨sN, by omega, by rw [pk_us], by rw [hrx]; exact k_eq.refl K _⟩
  · by_cases e1 : s = sN <;> by_cases e2 : t = sN
    · rw [e1, e2]
    · rw [e1, hrx, hrp t (by omega)] at he
      exact absurd he.symm (hnk t (by omega))
    · rw [e2, hrx, hrp s (by omega)] at he
      exact absurd he (hnk s (by omega))
    · rw [hrp s (by omega), hrp t (by omega)] at he
      exact a3 s t (by omega) (by omega) he
  · by_cases e : s = sN
    · subst e
      rw [hrx, pk_us]
      exact ⟨hf1, hf0⟩
    · rw [hrp s (by omega), pk_un e]
      exact a4 s (by omega)
  · by_cases e : k < tN
    · rw [hso k e]
      obtain ⟨b1, s, b2, b3, b4, b5, b6⟩ := a5 k e
      obtain ⟨c1, c2, c3⟩ := hsx.1 k e
      refine ⟨b1, s, by omega, by rw [c1]; exact b3, by rw [hrp s b2]; exact b4, by rw [c2, hrp s b2]; exact b5, ?_⟩
      rw [c3, pk_un (hn _ (hup s _ b2 b1 b4))]
      exact b6
    · rw [hsn k e]
      obtain ⟨b1, b2, b3⟩ := v_nth_at (p := d_fo kk pg pl x) (m := pn) (j := k - tN) (by omega)
      have c := hsx.2 _ b1 b2
      rw [b3, show tN + (k - tN) = k by omega] at c
      refine ⟨b1, sN, by omega, c.1, by rw [hrx]; exact b2, by rw [hrx]; exact c.2.1, ?_⟩
      rw [pk_un (hn _ (hch _ b1 b2))]
      exact c.2.2
  · by_cases e1 : i < tN <;> by_cases e2 : j < tN
    · rw [hso i e1, hso j e2] at he
      exact a6 i j e1 e2 he
    · rw [hso i e1, hsn j e2] at he
      have b := (v_nth_at (p := d_fo kk pg pl x) (m := pn) (j := j - tN) (by omega)).2.1
      rw [← he] at b
      exact absurd b (hpar i e1)
    · rw [hsn i e1, hso j e2] at he
      have b := (v_nth_at (p := d_fo kk pg pl x) (m := pn) (j := i - tN) (by omega)).2.1
      rw [he] at b
      exact absurd b (hpar j e2)
    · rw [hsn i e1, hsn j e2] at he
      have b := (v_nth_at (p := d_fo kk pg pl x) (m := pn) (j := i - tN) (by omega)).2.2
      have c := (v_nth_at (p := d_fo kk pg pl x) (m := pn) (j := j - tN) (by omega)).2.2
      rw [he] at b
      omega
  · by_cases e : s = sN
    · subst e
      rw [hrx] at hf
      have b := v_cnt_lt' (p := d_fo kk pg pl x) hy hf
      refine ⟨tN + v_cnt (d_fo kk pg pl x) 0 y, by omega, ?_⟩
      rw [hsn _ (by omega), show tN + v_cnt (d_fo kk pg pl x) 0 y - tN = v_cnt (d_fo kk pg pl x) 0 y by omega]
      obtain ⟨c1, c2, c3⟩ := v_nth_at b
      exact v_cnt_eq c2 hf c3
    · rw [hrp s (by omega)] at hf
      obtain ⟨k, k1, k2⟩ := a7 s y (by omega) hy hf
      exact ⟨k, by omega, by rw [hso k k1]; exact k2⟩
theorem d_aI.steps (hP : k_ps K kk pn pg pl) (h : d_aI K kk pn pg pl pr sN tN f1 f2 f3 f4 f5 rp sq) {x : Nat} (hx : x < pn) (hpx : ¬ pr x) : tN + v_cnt (d_fo kk pg pl x) 0 pn ≤ pn := by
  obtain ⟨a1, a2, a3, a4, a5, a6, a7⟩ := h
  refine v_cnt_room sq (fun k hk => ⟨(a5 k hk).1, fun h9 => ?_⟩) a6
  obtain ⟨b1, s, b2, b3, b4, b5⟩ := a5 k hk
  have e := d_fo_par hP (a1 s b2).1 hx b1 b4 h9
  exact hpx (e ▸ (a1 s b2).2.1)
theorem d_aI.zero (hpr : ∀ y, y < pn → ¬ pr y) : d_aI K kk pn pg pl pr 0 0 f1 f2 f3 f4 f5 rp sq :=
  ⟨fun s h => absurd h (Nat.not_lt_zero s), fun y h1 h2 => absurd h2 (hpr y h1), fun s t h => absurd h (Nat.not_lt_zero s), fun s h => absurd h (Nat.not_lt_zero s), fun k h => absurd h (Nat.not_lt_zero k), fun i j h => absurd h (Nat.not_lt_zero i), fun s y h => absurd h (Nat.not_lt_zero s)⟩
theorem d_aI.prs (h : d_aI K kk pn pg pl pr sN tN f1 f2 f3 f4 f5 rp sq) {pr1 : Nat → Prop} (h1 : ∀ y, y < pn → (pr1 y ↔ pr y)) : d_aI K kk pn pg pl pr1 sN tN f1 f2 f3 f4 f5 rp sq := by
  obtain ⟨a1, a2, a3, a4, a5, a6, a7⟩ := h
  exact ⟨fun s hs => ⟨(a1 s hs).1, (h1 _ (a1 s hs).1).mpr (a1 s hs).2.1, (a1 s hs).2.2⟩, fun y hy hp => a2 y hy ((h1 y hy).mp hp), a3, a4, a5, a6, a7⟩
end AS
/-- the keys of a view among the first m of its map -/
def d_K (org : Nat → Option Nat) (srt : Nat → Nat) (bt : Nat → List Nat) (v lo : Nat) (kk : Nat → List Nat) (m : Nat) (u : List Nat) : Prop := ∃ j, j < m ∧ v_in org srt bt v (kk (lo + j)) = true ∧ kk (lo + j) = u
theorem d_ea_iff {org : Nat → Option Nat} {srt : Nat → Nat} {bt : Nat → List Nat} {v lo : Nat} {kk : Nat → List Nat} {m : Nat} {u : List Nat} : d_ea org srt bt v lo kk u m = true ↔ d_K org srt bt v lo kk m u := by
  unfold d_ea d_K
  rw [List.any_eq_true]
  constructor
  · rintro ⟨k, h1, h2⟩
    rw [Bool.and_eq_true, decide_eq_true_iff] at h2
    exact ⟨k, List.mem_range.mp h1, h2.1, h2.2⟩
  · rintro ⟨k, h1, h2, h3⟩
    exact ⟨k, List.mem_range.mpr h1, by rw [h2, decide_eq_true h3]; rfl⟩
theorem d_K_yes {org : Nat → Option Nat} {srt : Nat → Nat} {bt : Nat → List Nat} {v lo : Nat} {kk : Nat → List Nat} {m : Nat} (h : v_in org srt bt v (kk (lo + m)) = true) (u : List Nat) : d_K org srt bt v lo kk (m + 1) u ↔ d_K org srt bt v lo kk m u ∨ u = kk (lo + m) := by
  unfold d_K
  constructor
  · rintro ⟨j, h1, h2, h3⟩
    by_cases e : j = m
    · subst e
      exact Or.inr h3.symm
    · exact Or.inl ⟨j, by omega, h2, h3⟩
  · rintro (⟨j, h1, h2, h3⟩ | h1)
    · exact ⟨j, by omega, h2, h3⟩
    · exact ⟨m, by omega, h, h1.symm⟩
theorem d_K_no {org : Nat → Option Nat} {srt : Nat → Nat} {bt : Nat → List Nat} {v lo : Nat} {kk : Nat → List Nat} {m : Nat} (h : ¬ v_in org srt bt v (kk (lo + m)) = true) (u : List Nat) : d_K org srt bt v lo kk (m + 1) u ↔ d_K org srt bt v lo kk m u := by
  unfold d_K
  constructor
  · rintro ⟨j, h1, h2, h3⟩
    by_cases e : j = m
    · subst e
      exact absurd h2 h
    · exact ⟨j, by omega, h2, h3⟩
  · rintro ⟨j, h1, h2, h3⟩
    exact ⟨j, by omega, h2, h3⟩
/-- the prefixes so far -/
def d_pp (K : List Nat → Prop) (kk : Nat → List Nat) (pn : Nat) (pg pl : Nat → Nat) : Prop := (∀ y, y < pn → k_pre K (d_pu kk pg pl y)) ∧ (∀ u, k_pre K u → ∃ y, y < pn ∧ d_pu kk pg pl y = u) ∧ ∀ x y, x < y → y < pn → d_pu kk pg pl x ≠ d_pu kk pg pl y
theorem d_pp.same {K K1 : List Nat → Prop} {kk : Nat → List Nat} {pn : Nat} {pg pl : Nat → Nat} (h : d_pp K kk pn pg pl) (hK : ∀ u, K1 u ↔ K u) : d_pp K1 kk pn pg pl := by
  have e : K1 = K := funext (fun u => propext (hK u))
  rw [e]
  exact h
theorem d_pp.add {K K1 : List Nat → Prop} {kk : Nat → List Nat} {g pn pn1 : Nat} {pg pl pg1 pl1 : Nat → Nat} (h : d_pp K kk pn pg pl) (hx : d_px kk g pn pg pl ((kk g).length + 1) pn1 pg1 pl1) (hK : ∀ u, K1 u ↔ K u ∨ u = kk g) : d_pp K1 kk pn1 pg1 pl1 := by
  obtain ⟨a1, a2, a3⟩ := h
  obtain ⟨b1, b2, b3, b4, b5, b6⟩ := hx
  have hpu : ∀ y, y < pn → d_pu kk pg1 pl1 y = d_pu kk pg pl y := fun y hy => by
    show (kk (pg1 y)).take (pl1 y) = _
    rw [(b3 y hy).1, (b3 y hy).2]
  have hpre : ∀ u, k_pre K u → k_pre K1 u := fun u ⟨v, hv⟩ => ⟨v, (hK _).mpr (Or.inl hv)⟩
  refine ⟨fun y hy => ?_, fun u hu => ?_, fun x y hxy hy => ?_⟩
  · by_cases e : y < pn
    · rw [hpu y e]
      exact hpre _ (a1 y e)
    · obtain ⟨c1, c2⟩ := b4 y (by omega) hy
      refine ⟨(kk g).drop (pl1 y), (hK _).mpr (Or.inr ?_)⟩
      show (kk (pg1 y)).take (pl1 y) ++ _ = _
      rw [c1, List.take_append_drop]
  · obtain ⟨v, hv⟩ := hu
    rcases (hK _).mp hv with h1 | h1
    · obtain ⟨y, y1, y2⟩ := a2 u ⟨v, h1⟩
      exact ⟨y, by omega, by rw [hpu y y1]; exact y2⟩
    · have l1 := congrArg List.length h1
      rw [List.length_append] at l1
      obtain ⟨y, y1, y2⟩ := b5 u.length (by omega)
      refine ⟨y, y1, ?_⟩
      rw [y2, ← h1, List.take_left']
      rfl
  · by_cases e : y < pn
    · rw [hpu x (by omega), hpu y e]
      exact a3 x y hxy e
    · exact b6 x y hxy (by omega) hy
theorem d_pp.ps {K : List Nat → Prop} {kk : Nat → List Nat} {pn : Nat} {pg pl : Nat → Nat} (h : d_pp K kk pn pg pl) (h1 : ∀ y, y < pn → pl y ≤ (kk (pg y)).length ∧ t16 (kk (pg y))) : k_ps K kk pn pg pl := by
  refine ⟨h1, fun x y hx hy e => ?_, fun u => ⟨fun ⟨y, hy, e⟩ => e ▸ h.1 y hy, h.2.1 u⟩⟩
  rcases Nat.lt_trichotomy x y with h2 | h2 | h2
  · exact absurd e (h.2.2 x y h2 hy)
  · exact h2
  · exact absurd e.symm (h.2.2 y x h2 hx)
/-- the start among the states so far -/
def d_sI (pn : Nat) (pl : Nat → Nat) (pr : Nat → Prop) (f1 : Nat → Int32) (st : Int32) : Prop := (∀ y, y < pn → pr y → pl y = 0 → st = f1 y) ∧ ((∀ y, y < pn → pr y → pl y ≠ 0) → st = -1)
theorem d_sI.prs {pn : Nat} {pl : Nat → Nat} {pr pr1 : Nat → Prop} {f1 : Nat → Int32} {st : Int32} (h : d_sI pn pl pr f1 st) (h1 : ∀ y, y < pn → (pr1 y ↔ pr y)) : d_sI pn pl pr1 f1 st := ⟨fun y hy hp => h.1 y hy ((h1 y hy).mp hp), fun h2 => h.2 (fun y hy hp => h2 y hy ((h1 y hy).mpr hp))⟩

theorem d_sI.step {K : List Nat → Prop} {kk : Nat → List Nat} {pn : Nat} {pg pl : Nat → Nat} {pr pr1 : Nat → Prop} {f1 : Nat → Int32} {st : Int32} (hP : k_ps K kk pn pg pl) (h : d_sI pn pl pr f1 st) {x : Nat} (hx : x < pn) (hpx : ¬ pr x) (h1 : ∀ y, y < pn → (pr1 y ↔ pr y ∨ y = x)) (r : Int32) : d_sI pn pl pr1 (upd f1 x r) (d_st (pl x) r st) := by
  have hu : ∀ a b, a < pn → b < pn → pl a = 0 → pl b = 0 → a = b := fun a b ha hb e1 e2 => hP.2.1 a b ha hb (by
    show (kk (pg a)).take (pl a) = (kk (pg b)).take (pl b)
    rw [e1, e2, List.take_zero, List.take_zero])
  unfold d_st
  refine ⟨fun y hy hp e => ?_, fun h2 => ?_⟩
  · rcases (h1 y hy).mp hp with h3 | h3
    · have hne : y ≠ x := fun e9 => hpx (e9 ▸ h3)
      rw [if_neg (fun e9 => hne (hu y x hy hx e e9)), pk_un hne]
      exact h.1 y hy h3 e
    · subst h3
      rw [if_pos e, pk_us]
  · rw [if_neg (h2 x hx ((h1 x hx).mpr (Or.inr rfl)))]
    exact h.2 (fun y hy hp => h2 y hy ((h1 y hy).mpr (Or.inl hp)))
