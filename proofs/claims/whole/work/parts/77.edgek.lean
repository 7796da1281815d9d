/-! edges: the nodes of the class and of the model. wip/texts/ed*.txt -/
/-- the first T bytes are the same -/
def e_gp (xs ys : List Nat) (T : Nat) : Prop := T ≤ 2 * xs.length ∧ T ≤ 2 * ys.length ∧ ∀ i, i < T → d_oc xs i = d_oc ys i
theorem e_gp.refl {xs : List Nat} {T : Nat} (h : T ≤ 2 * xs.length) : e_gp xs xs T := ⟨h, h, fun _ _ => rfl⟩
theorem e_gp.symm {xs ys : List Nat} {T : Nat} (h : e_gp xs ys T) : e_gp ys xs T := ⟨h.2.1, h.1, fun i hi => (h.2.2 i hi).symm⟩
theorem e_gp.trans {xs ys zs : List Nat} {T : Nat} (h : e_gp xs ys T) (h1 : e_gp ys zs T) : e_gp xs zs T := ⟨h.1, h1.2.1, fun i hi => (h.2.2 i hi).trans (h1.2.2 i hi)⟩
theorem e_gp.le {xs ys : List Nat} {T S : Nat} (h : e_gp xs ys T) (hs : S ≤ T) : e_gp xs ys S := ⟨by have := h.1; omega, by have := h.2.1; omega, fun i hi => h.2.2 i (by omega)⟩
theorem e_gp_iff {xs ys : List Nat} {T : Nat} : e_gp xs ys T ↔ T ≤ e_sb xs ys := by
  have l1 := t_lcp_le1 xs ys
  have l2 := t_lcp_le2 xs ys
  have hs := t_lcp_same xs ys
  unfold e_sb
  by_cases c : t_lcp xs ys = xs.length ∨ t_lcp xs ys = ys.length
  · rw [if_pos c]
    constructor
    · rintro ⟨a, b, _⟩
      omega
    · intro h
      refine ⟨by omega, by omega, fun i hi => ?_⟩
      unfold d_oc
      rw [hs (i / 2) (by omega)]
  · rw [if_neg c]
    have hne := t_lcp_stop xs ys (by omega) (by omega)
    constructor
    · rintro ⟨a, b, d⟩
      by_cases e : T ≤ 2 * t_lcp xs ys
      · omega
      · have d1 := d (2 * t_lcp xs ys) (by omega)
        unfold d_oc at d1
        rw [if_pos (by omega), if_pos (by omega), show 2 * t_lcp xs ys / 2 = t_lcp xs ys by omega] at d1
        rw [if_pos d1]
        by_cases e2 : T ≤ 2 * t_lcp xs ys + 1
        · omega
        · have d2 := d (2 * t_lcp xs ys + 1) (by omega)
          unfold d_oc at d2
          rw [if_neg (by omega), if_neg (by omega), show (2 * t_lcp xs ys + 1) / 2 = t_lcp xs ys by omega] at d2
          exact absurd (by omega) hne
    · intro h
      have hle : T ≤ 2 * t_lcp xs ys + 1 := by
        split at h <;> omega
      refine ⟨by omega, by omega, fun i hi => ?_⟩
      by_cases e : i < 2 * t_lcp xs ys
      · unfold d_oc
        rw [hs (i / 2) (by omega)]
      · have ei : i = 2 * t_lcp xs ys := by omega
        have hc : xs.getD (t_lcp xs ys) 0 / 256 = ys.getD (t_lcp xs ys) 0 / 256 := by
          by_cases c1 : xs.getD (t_lcp xs ys) 0 / 256 = ys.getD (t_lcp xs ys) 0 / 256
          · exact c1
          · rw [if_neg c1] at h
            omega
        unfold d_oc
        rw [if_pos (by omega), if_pos (by omega), show i / 2 = t_lcp xs ys by omega]
        exact hc
/-- of two in order, the later one does not end first -/
theorem e_sb_end {xs ys : List Nat} (h : t_ord xs ys < 0) : e_sb xs ys < 2 * ys.length := by
  have g := (e_gp_iff (xs := xs) (ys := ys) (T := e_sb xs ys)).mpr (Nat.le_refl _)
  have l1 := t_lcp_le1 xs ys
  have l2 := t_lcp_le2 xs ys
  by_cases e : t_lcp xs ys = xs.length ∨ t_lcp xs ys = ys.length
  · rw [t_ord_end xs ys e] at h
    have : e_sb xs ys = 2 * t_lcp xs ys := by unfold e_sb; rw [if_pos e]
    omega
  · have : e_sb xs ys ≤ 2 * t_lcp xs ys + 1 := by
      unfold e_sb
      rw [if_neg e]
      split <;> omega
    omega
theorem e_oc_lt {xs ys : List Nat} (h : t_ord xs ys < 0) (hx : e_sb xs ys < 2 * xs.length) : d_oc xs (e_sb xs ys) < d_oc ys (e_sb xs ys) := by
  have l1 := t_lcp_le1 xs ys
  have l2 := t_lcp_le2 xs ys
  have he := e_sb_end h
  have c : ¬ (t_lcp xs ys = xs.length ∨ t_lcp xs ys = ys.length) := fun c => by
    have : e_sb xs ys = 2 * t_lcp xs ys := by unfold e_sb; rw [if_pos c]
    omega
  rw [t_ord_mid xs ys (by omega) (by omega)] at h
  have hlt : xs.getD (t_lcp xs ys) 0 < ys.getD (t_lcp xs ys) 0 := by omega
  by_cases d : xs.getD (t_lcp xs ys) 0 / 256 = ys.getD (t_lcp xs ys) 0 / 256
  · have e : e_sb xs ys = 2 * t_lcp xs ys + 1 := by unfold e_sb; rw [if_neg c, if_pos d]
    rw [e]
    unfold d_oc
    rw [if_neg (by omega), if_neg (by omega), show (2 * t_lcp xs ys + 1) / 2 = t_lcp xs ys by omega]
    omega
  · have e : e_sb xs ys = 2 * t_lcp xs ys := by unfold e_sb; rw [if_neg c, if_neg d]; omega
    rw [e]
    unfold d_oc
    rw [if_pos (by omega), if_pos (by omega), show 2 * t_lcp xs ys / 2 = t_lcp xs ys by omega]
    omega
/-- what lies between has the bytes of both -/
theorem e_gp_conv {a b c : List Nat} {T : Nat} (h1 : t_ord a b < 0) (h2 : t_ord b c < 0) (h : e_gp a c T) : e_gp a b T := by
  rw [e_gp_iff]
  by_cases e : T ≤ e_sb a b
  · exact e
  · have hp : e_sb a b < T := by omega
    have g := (e_gp_iff (xs := a) (ys := b) (T := e_sb a b)).mpr (Nat.le_refl _)
    have ha : e_sb a b < 2 * a.length := by have := h.1; omega
    have hlt := e_oc_lt h1 ha
    have gbc : e_gp b c (e_sb a b) := g.symm.trans (h.le (by omega))
    have hne : e_sb b c = e_sb a b := by
      have a1 := e_gp_iff.mp gbc
      by_cases e2 : e_sb b c = e_sb a b
      · exact e2
      · have g3 := (e_gp_iff (xs := b) (ys := c) (T := e_sb a b + 1)).mpr (by omega)
        have a2 := g3.2.2 (e_sb a b) (by omega)
        have a3 := h.2.2 (e_sb a b) hp
        omega
    have hb : e_sb b c < 2 * b.length := by rw [hne]; exact e_sb_end h1
    have hlt2 := e_oc_lt h2 hb
    rw [hne] at hlt2
    have a3 := h.2.2 (e_sb a b) hp
    omega
section EG
variable {ks : Nat → List Nat} {n : Nat}
theorem e_gp_mid (hS : mS n ks) {i j k T : Nat} (hij : i ≤ j) (hjk : j ≤ k) (hk : k < n) (h : e_gp (ks i) (ks k) T) : e_gp (ks i) (ks j) T := by
  by_cases e1 : i = j
  · rw [e1] at h ⊢
    exact e_gp.refl h.1
  · by_cases e2 : j = k
    · rw [e2]; exact h
    · exact e_gp_conv (hS i j (by omega) (by omega)) (hS j k (by omega) hk) h
/-- the group of a key at T bytes: it has a first, and all up to each member belong to it -/
theorem e_first (hS : mS n ks) {T : Nat} : ∀ i, i < n → T ≤ 2 * (ks i).length → ∃ a, a ≤ i ∧ e_gp (ks i) (ks a) T ∧ ∀ j, j < a → ¬ e_gp (ks i) (ks j) T
  | 0, _, h => ⟨0, Nat.le_refl _, e_gp.refl h, fun j hj => absurd hj (Nat.not_lt_zero j)⟩
  | i + 1, hi, h => by
    by_cases c : e_gp (ks (i + 1)) (ks i) T
    · obtain ⟨a, a1, a2, a3⟩ := e_first hS i (by omega) c.2.1
      exact ⟨a, by omega, c.trans a2, fun j hj h9 => a3 j hj (c.symm.trans h9)⟩
    · refine ⟨i + 1, Nat.le_refl _, e_gp.refl h, fun j hj h9 => c ?_⟩
      have := e_gp_mid hS (i := j) (j := i) (k := i + 1) (by omega) (by omega) hi h9.symm
      exact h9.trans this
end EG
theorem v_cnt_cons (p : Nat → Bool) (a k : Nat) : v_cnt p a (k + 1) = (if p a = true then 1 else 0) + v_cnt p (a + 1) k := by
  have h := v_cnt_add p a 1 k
  rw [show 1 + k = k + 1 by omega] at h
  have e : v_cnt p a 1 = if p a = true then 1 else 0 := by
    show 0 + (if p (a + 0) = true then 1 else 0) = _
    rw [Nat.add_zero, Nat.zero_add]
  rw [h, e]
theorem e_fc_cnt {sb : Nat → Nat} {T pairs : Nat} : ∀ f t0, t0 + f = pairs → e_fc sb T pairs f t0 = v_cnt (fun t => @decide ((∀ s, t0 ≤ s → s ≤ t → T ≤ sb s) ∧ sb t = T) (Classical.propDecidable _)) t0 f
  | 0, _, _ => rfl
  | f + 1, t0, h => by
    rw [v_cnt_cons]
    unfold e_fc
    by_cases c : t0 < pairs ∧ T ≤ sb t0
    · rw [if_pos c, e_fc_cnt f (t0 + 1) (by omega)]
      congr 1
      · by_cases d : sb t0 = T
        · rw [if_pos d, if_pos (@decide_eq_true _ (Classical.propDecidable _) ⟨fun s h1 h2 => by rw [show s = t0 by omega]; exact c.2, d⟩)]
        · rw [if_neg d, if_neg (fun h9 => d (@of_decide_eq_true _ (Classical.propDecidable _) h9).2)]
      · refine v_cnt_congr (fun j _ => ?_)
        rw [Bool.eq_iff_iff]
        constructor
        · intro h9
          have h8 := @of_decide_eq_true _ (Classical.propDecidable _) h9
          exact @decide_eq_true _ (Classical.propDecidable _) ⟨fun s h1 h2 => by
            by_cases e : s = t0
            · rw [e]; exact c.2
            · exact h8.1 s (by omega) h2, h8.2⟩
        · intro h9
          have h8 := @of_decide_eq_true _ (Classical.propDecidable _) h9
          exact @decide_eq_true _ (Classical.propDecidable _) ⟨fun s h1 h2 => h8.1 s (by omega) h2, h8.2⟩
    · rw [if_neg c, if_neg (fun h9 => c ⟨by omega, (@of_decide_eq_true _ (Classical.propDecidable _) h9).1 t0 (Nat.le_refl _) (Nat.le_refl _)⟩)]
      rw [v_cnt_no (fun j hj h9 => c ⟨by omega, (@of_decide_eq_true _ (Classical.propDecidable _) h9).1 t0 (Nat.le_refl _) (by omega)⟩)]
noncomputable def dc (p : Prop) : Bool := @decide p (Classical.propDecidable _)
theorem dc_iff {p : Prop} : dc p = true ↔ p := ⟨fun h => @of_decide_eq_true _ (Classical.propDecidable _) h, fun h => @decide_eq_true _ (Classical.propDecidable _) h⟩
noncomputable def e_hs (ks : Nat → List Nat) (i0 T x : Nat) : Nat → Bool
  | 0 => false
  | k + 1 => e_hs ks i0 T x k || (dc (e_gp (ks i0) (ks k) T ∧ T < 2 * (ks k).length) && decide (d_oc (ks k) T = x))
theorem e_hs_iff {ks : Nat → List Nat} {i0 T x : Nat} : ∀ m, e_hs ks i0 T x m = true ↔ ∃ k, k < m ∧ (e_gp (ks i0) (ks k) T ∧ T < 2 * (ks k).length) ∧ d_oc (ks k) T = x
  | 0 => ⟨fun h => (by cases h), fun ⟨k, h, _⟩ => absurd h (Nat.not_lt_zero k)⟩
  | m + 1 => by
    show (e_hs ks i0 T x m || _) = true ↔ _
    rw [Bool.or_eq_true, Bool.and_eq_true, dc_iff, decide_eq_true_iff, e_hs_iff m]
    constructor
    · rintro (⟨k, a, b⟩ | ⟨a, b⟩)
      · exact ⟨k, by omega, b⟩
      · exact ⟨m, by omega, a, b⟩
    · rintro ⟨k, a, b, d⟩
      by_cases e : k = m
      · subst e
        exact Or.inr ⟨b, d⟩
      · exact Or.inl ⟨k, by omega, b, d⟩
/-- how many bytes follow the first T bytes of key i0 -/
noncomputable def e_nb (ks : Nat → List Nat) (n i0 T : Nat) : Nat := v_cnt (fun x => e_hs ks i0 T x n) 0 65536
/-- where one byte changes to the next -/
noncomputable def e_bd (ks : Nat → List Nat) (i0 T : Nat) (t : Nat) : Bool := dc (e_gp (ks i0) (ks t) T ∧ e_gp (ks i0) (ks (t + 1)) T ∧ e_sb (ks t) (ks (t + 1)) = T)
section EH
variable {ks : Nat → List Nat} {n : Nat}
theorem e_gp_in (hS : mS n ks) {i0 j k l T : Nat} (hjk : j ≤ k) (hkl : k ≤ l) (hl : l < n) (h1 : e_gp (ks i0) (ks j) T) (h2 : e_gp (ks i0) (ks l) T) : e_gp (ks i0) (ks k) T := h1.trans (e_gp_mid hS hjk hkl hl (h1.symm.trans h2))
theorem e_nb_eq (hS : mS n ks) (h16 : ∀ j, j < n → t16 (ks j)) {i0 T a : Nat} (hi0 : i0 < n) (ha : a ≤ i0) (ha1 : e_gp (ks i0) (ks a) T) (ha2 : ∀ j, j < a → ¬ e_gp (ks i0) (ks j) T) : e_nb ks n i0 T = (if T < 2 * (ks a).length then 1 else 0) + v_cnt (e_bd ks i0 T) 0 (n - 1) := by
  have hq := v_cnt_dist (M := 65536) (fun j => d_oc (ks j) T) (fun k => dc (e_gp (ks i0) (ks k) T ∧ T < 2 * (ks k).length)) (fun j => dc ((e_gp (ks i0) (ks j) T ∧ T < 2 * (ks j).length) ∧ (j = 0 ∨ ¬ e_gp (ks i0) (ks (j - 1)) T ∨ e_sb (ks (j - 1)) (ks j) = T))) (fun x k => e_hs ks i0 T x k) (fun _ => rfl) (fun _ _ => rfl) n (fun k hk _ => d_oc_lt (h16 k hk) T) (fun j hj => by
    rw [dc_iff, dc_iff, e_hs_iff]
    refine and_congr_right (fun ⟨hp, hl⟩ => ?_)
    constructor
    · rintro h ⟨k, k1, ⟨k2, k3⟩, k4⟩
      rcases h with h | h | h
      · omega
      · exact h (e_gp_in hS (j := k) (k := j - 1) (l := j) (by omega) (by omega) hj k2 hp)
      · -- same byte behind: then also just before
        have g0 := k2.symm.trans hp
        have g : e_gp (ks k) (ks j) (T + 1) := ⟨by omega, by omega, fun i hi => by
          by_cases e : i = T
          · rw [e]; exact k4
          · exact g0.2.2 i (by omega)⟩
        have g1 := e_gp_mid hS (i := k) (j := j - 1) (k := j) (by omega) (by omega) hj g
        have g2 := e_gp_iff.mp (g1.symm.trans g)
        omega
    · intro h
      by_cases e0 : j = 0
      · exact Or.inl e0
      · by_cases e1 : e_gp (ks i0) (ks (j - 1)) T
        · refine Or.inr (Or.inr ?_)
          have g := e_gp_iff.mp (e1.symm.trans hp)
          by_cases e2 : e_sb (ks (j - 1)) (ks j) = T
          · exact e2
          · have g3 := (e_gp_iff (xs := ks (j - 1)) (ys := ks j) (T := T + 1)).mpr (by omega)
            exact absurd ⟨j - 1, by omega, ⟨e1, by have := g3.1; omega⟩, g3.2.2 T (by omega)⟩ h
        · exact Or.inr (Or.inl e1))
  unfold e_nb
  rw [hq]
  obtain ⟨n', rfl⟩ : ∃ n', n = n' + 1 := ⟨n - 1, by omega⟩
  rw [v_cnt_cons, show n' + 1 - 1 = n' by omega]
  -- what a pair says of its second key
  have hbd : ∀ t, t < n' → a ≤ t → (dc ((e_gp (ks i0) (ks (t + 1)) T ∧ T < 2 * (ks (t + 1)).length) ∧ (t + 1 = 0 ∨ ¬ e_gp (ks i0) (ks (t + 1 - 1)) T ∨ e_sb (ks (t + 1 - 1)) (ks (t + 1)) = T)) = e_bd ks i0 T t) := fun t ht hat => by
    rw [Bool.eq_iff_iff]
    unfold e_bd
    rw [dc_iff, dc_iff, show t + 1 - 1 = t by omega]
    constructor
    · rintro ⟨⟨h1, h2⟩, h3⟩
      have h4 := e_gp_in hS (j := a) (k := t) (l := t + 1) hat (by omega) (by omega) ha1 h1
      rcases h3 with h3 | h3 | h3
      · omega
      · exact absurd h4 h3
      · exact ⟨h4, h1, h3⟩
    · rintro ⟨h1, h2, h3⟩
      have := e_sb_end (hS t (t + 1) (by omega) (by omega))
      exact ⟨⟨h2, by omega⟩, Or.inr (Or.inr h3)⟩
  by_cases e : a = 0
  · subst e
    congr 1
    · by_cases c : T < 2 * (ks 0).length
      · rw [if_pos c, if_pos (dc_iff.mpr ⟨⟨ha1, c⟩, Or.inl rfl⟩)]
      · rw [if_neg c, if_neg (fun h9 => c (dc_iff.mp h9).1.2)]
    · refine v_cnt_congr (fun t ht => ?_)
      rw [show 0 + 1 + t = t + 1 by omega, Nat.zero_add]
      exact hbd t ht (Nat.zero_le _)
  · rw [if_neg (fun h9 => ha2 0 (by omega) (dc_iff.mp h9).1.1), Nat.zero_add]
    have hbf : ¬ e_bd ks i0 T (a - 1) = true := fun h9 => ha2 (a - 1) (by omega) (dc_iff.mp h9).1
    have hu := v_cnt_upd (p := e_bd ks i0 T) (a := 0) (m := a - 1) (c := decide (T < 2 * (ks a).length)) (n := n') (by omega)
    rw [Nat.zero_add, if_neg hbf, Nat.add_zero] at hu
    have e1 : v_cnt (fun j => dc ((e_gp (ks i0) (ks j) T ∧ T < 2 * (ks j).length) ∧ (j = 0 ∨ ¬ e_gp (ks i0) (ks (j - 1)) T ∨ e_sb (ks (j - 1)) (ks j) = T))) (0 + 1) n' = v_cnt (fun x => if x = a - 1 then decide (T < 2 * (ks a).length) else e_bd ks i0 T x) 0 n' := by
      refine v_cnt_congr (fun t ht => ?_)
      rw [show 0 + 1 + t = t + 1 by omega, Nat.zero_add]
      by_cases c : t = a - 1
      · rw [if_pos c, Bool.eq_iff_iff, dc_iff, decide_eq_true_iff, show t + 1 = a by omega]
        exact ⟨fun h9 => h9.1.2, fun h9 => ⟨⟨ha1, h9⟩, Or.inr (Or.inl (ha2 _ (by omega)))⟩⟩
      · rw [if_neg c]
        by_cases c1 : a ≤ t
        · exact hbd t ht c1
        · rw [Bool.eq_iff_iff]
          unfold e_bd
          rw [dc_iff, dc_iff]
          exact ⟨fun h9 => absurd h9.1.1 (ha2 _ (by omega)), fun h9 => absurd h9.1 (ha2 _ (by omega))⟩
    rw [e1, hu, Nat.add_comm]
    congr 1
    by_cases c : T < 2 * (ks a).length
    · rw [if_pos c, if_pos (decide_eq_true c)]
    · rw [if_neg c, if_neg (fun h9 => c (of_decide_eq_true h9))]
theorem e_chain {i t T : Nat} (hi : T ≤ 2 * (ks i).length) : ∀ d, t = i + d → (∀ s, i ≤ s → s < t → T ≤ e_sb (ks s) (ks (s + 1))) → e_gp (ks i) (ks t) T := by
  intro d
  induction d generalizing t with
  | zero => intro e _; rw [e]; exact e_gp.refl hi
  | succ d ih =>
    intro e h
    have h1 := ih (t := i + d) rfl (fun s a b => h s a (by omega))
    have h2 := e_gp_iff.mpr (h (i + d) (by omega) (by omega))
    rw [e, show i + (d + 1) = i + d + 1 by omega]
    exact h1.trans h2
/-- the fan of a pair that is the first of its kind -/
theorem e_fan_nb (hS : mS n ks) (h16 : ∀ j, j < n → t16 (ks j)) {i : Nat} (hi : i + 1 < n) (hnew : e_new (fun j => e_sb (ks j) (ks (j + 1))) i) : e_fan (fun j => e_sb (ks j) (ks (j + 1))) (n - 1) i (ks i).length = e_nb ks n i (e_sb (ks i) (ks (i + 1))) := by
  have gi := (e_gp_iff (xs := ks i) (ys := ks (i + 1)) (T := e_sb (ks i) (ks (i + 1)))).mpr (Nat.le_refl _)
  obtain ⟨a, a1, a2, a3⟩ := e_first hS (T := e_sb (ks i) (ks (i + 1))) i (by omega) gi.1
  rw [e_nb_eq hS h16 (by omega) a1 a2 a3]
  have hno : ∀ t, t < i → ¬ e_bd ks i (e_sb (ks i) (ks (i + 1))) t = true := fun t ht h9 => by
    obtain ⟨b1, b2, b3⟩ := dc_iff.mp h9
    refine hnew ⟨t, ht, b3, fun s h1 h2 => ?_⟩
    have c1 := e_gp_in hS (j := t) (k := s) (l := i) (by omega) (by omega) (by omega) b1 (e_gp.refl gi.1)
    have c2 := e_gp_in hS (j := t) (k := s + 1) (l := i) (by omega) (by omega) (by omega) b1 (e_gp.refl gi.1)
    exact e_gp_iff.mp (c1.symm.trans c2)
  unfold e_fan
  congr 1
  · show (if 2 * (ks i).length = e_sb (ks i) (ks (i + 1)) then 0 else 1) = _
    by_cases c : 2 * (ks i).length = e_sb (ks i) (ks (i + 1))
    · rw [if_pos c]
      have e : a = i := by
        by_cases e : a = i
        · exact e
        · have d1 := e_sb_end (hS a i (by omega) (by omega))
          have d2 := e_gp_iff.mp a2.symm
          omega
      rw [e, if_neg (by omega)]
    · rw [if_neg c]
      have hlt : e_sb (ks i) (ks (i + 1)) < 2 * (ks a).length := by
        by_cases e : a = i
        · rw [e]
          have := gi.1
          omega
        · by_cases e2 : e_sb (ks i) (ks (i + 1)) < 2 * (ks a).length
          · exact e2
          · have d1 := a2.2.1
            have d2 := e_gp_in hS (j := a) (k := a + 1) (l := i) (by omega) (by omega) (by omega) a2 (e_gp.refl gi.1)
            have d3 := e_gp_iff.mp (a2.symm.trans d2)
            have d4 := ((e_gp_iff (xs := ks a) (ys := ks (a + 1)) (T := e_sb (ks a) (ks (a + 1)))).mpr (Nat.le_refl _)).1
            exact absurd (dc_iff.mpr ⟨a2, d2, by omega⟩) (hno a (by omega))
      rw [if_pos hlt]
  · rw [e_fc_cnt (n - 1 - i) i (by omega)]
    have hz := v_cnt_add (e_bd ks i (e_sb (ks i) (ks (i + 1)))) 0 i (n - 1 - i)
    rw [show i + (n - 1 - i) = n - 1 by omega, v_cnt_no (k := i) (fun j hj => by rw [Nat.zero_add]; exact hno j hj), Nat.zero_add, Nat.zero_add] at hz
    rw [hz]
    refine v_cnt_congr (fun t ht => ?_)
    rw [Bool.eq_iff_iff]
    unfold e_bd
    rw [dc_iff]
    constructor
    · intro h9
      obtain ⟨h8, h7⟩ := @of_decide_eq_true _ (Classical.propDecidable _) h9
      have c1 := e_chain (ks := ks) (i := i) (t := i + t) gi.1 t rfl (fun s x y => h8 s x (by omega))
      exact ⟨c1, c1.trans (e_gp_iff.mpr (h8 (i + t) (by omega) (Nat.le_refl _))), h7⟩
    · rintro ⟨b1, b2, b3⟩
      refine @decide_eq_true _ (Classical.propDecidable _) ⟨fun s x y => ?_, b3⟩
      have c1 := e_gp_in hS (j := i) (k := s) (l := i + t + 1) (by omega) (by omega) (by omega) (e_gp.refl gi.1) b2
      have c2 := e_gp_in hS (j := i) (k := s + 1) (l := i + t + 1) (by omega) (by omega) (by omega) (e_gp.refl gi.1) b2
      exact e_gp_iff.mp (c1.symm.trans c2)
/-- a node, by the count of bytes and by its pairs -/
theorem e_node (hS : mS n ks) (h16 : ∀ j, j < n → t16 (ks j)) {i0 T : Nat} (hi0 : i0 < n) (hT : T ≤ 2 * (ks i0).length) : (0 < e_nb ks n i0 T ∧ (1 < e_nb ks n i0 T ∨ ∃ j, j < n ∧ e_gp (ks i0) (ks j) T ∧ 2 * (ks j).length = T)) ↔ ∃ t, t + 1 < n ∧ e_bd ks i0 T t = true := by
  obtain ⟨a, a1, a2, a3⟩ := e_first hS (T := T) i0 hi0 hT
  have hnb := e_nb_eq hS h16 hi0 a1 a2 a3
  have hE : (∃ j, j < n ∧ e_gp (ks i0) (ks j) T ∧ 2 * (ks j).length = T) ↔ 2 * (ks a).length = T := by
    constructor
    · rintro ⟨j, j1, j2, j3⟩
      have haj : a ≤ j := by
        by_cases e : a ≤ j
        · exact e
        · exact absurd j2 (a3 j (by omega))
      by_cases e : a = j
      · rw [e]; exact j3
      · have d1 := e_sb_end (hS a j (by omega) j1)
        have d2 := e_gp_iff.mp (a2.symm.trans j2)
        omega
    · intro h
      exact ⟨a, by omega, a2, h⟩
  rw [hE]
  have hle := a2.2.1
  have hbd : (∃ t, t + 1 < n ∧ e_bd ks i0 T t = true) ↔ 0 < v_cnt (e_bd ks i0 T) 0 (n - 1) := by
    constructor
    · rintro ⟨t, t1, t2⟩
      exact Nat.lt_of_le_of_lt (Nat.zero_le _) (v_cnt_lt' (p := e_bd ks i0 T) (x := t) (y := n - 1) (by omega) t2)
    · intro h
      refine Classical.byContradiction (fun hno => ?_)
      rw [v_cnt_no (fun t ht h9 => hno ⟨t, by omega, by rw [Nat.zero_add] at h9; exact h9⟩)] at h
      omega
  rw [hbd]
  by_cases c : T < 2 * (ks a).length
  · rw [if_pos c] at hnb
    omega
  · rw [if_neg c] at hnb
    omega
end EH
section EI
variable {ks : Nat → List Nat} {vs : Nat → Int32} {n : Nat} {kk : Nat → List Nat} {f6 : Nat → Int32}
theorem d_sb_gp {xs ys : List Nat} {T : Nat} (hx : T ≤ 2 * xs.length) : d_sb xs ys T = true ↔ e_gp xs ys T :=
  ⟨fun h => ⟨hx, (d_sb_m h).1, (d_sb_m h).2⟩, fun h => d_sb_t h.2.1 h.2.2⟩
/-- the model's count of bytes is the same -/
theorem d_fr_nb (hM : mR n ks vs kk f6 64) (h16 : ∀ j, j < n → t16 (ks j)) {g j0 T : Nat} (e : kk g = ks j0) (hT : T ≤ 2 * (ks j0).length) : v_cnt (d_fr (kk g) kk T) 64 n = e_nb ks n j0 T := by
  have hq := v_cnt_dist (M := 65536) (fun k => d_oc (kk (64 + k)) T) (fun k => d_sb (kk g) (kk (64 + k)) T && !decide (2 * (kk (64 + k)).length = T)) (fun k => d_fr (kk g) kk T (64 + k)) (fun x k => !(d_fz (kk g) kk T x k)) (fun x => by unfold d_fz; rfl) (fun x k => by
    rw [d_fz_s]
    unfold d_gb
    by_cases c : d_sb (kk g) (kk (64 + k)) T = true
    · have hl := (d_sb_m c).1
      rw [c]
      by_cases d : 2 * (kk (64 + k)).length = T
      · rw [decide_eq_true d, decide_eq_false (show ¬ T < 2 * (kk (64 + k)).length by omega)]
        simp
      · rw [decide_eq_false d, decide_eq_true (show T < 2 * (kk (64 + k)).length by omega)]
        simp
    · rw [Bool.eq_false_iff.mpr c]
      simp) n (fun k hk _ => by
    obtain ⟨j, j1, j2, _⟩ := hM.1 k hk
    show d_oc (kk (64 + k)) T < 65536
    rw [j2]
    exact d_oc_lt (h16 j j1) T) (fun k hk => by
    unfold d_fr
    rw [show 64 + k - 64 = k by omega]
    simp [and_assoc])
  have e1 : v_cnt (d_fr (kk g) kk T) 64 n = v_cnt (fun k => d_fr (kk g) kk T (64 + k)) 0 n := v_cnt_congr (fun k _ => by rw [Nat.zero_add])
  rw [e1, ← hq]
  unfold e_nb
  refine v_cnt_congr (fun x _ => ?_)
  rw [Nat.zero_add, Bool.eq_iff_iff, e_hs_iff]
  unfold d_fz
  rw [Bool.not_not, List.any_eq_true]
  constructor
  · rintro ⟨k, k1, k2⟩
    unfold d_gb at k2
    rw [Bool.and_eq_true, Bool.and_eq_true, decide_eq_true_iff, decide_eq_true_iff, e, d_sb_gp hT] at k2
    obtain ⟨j, j1, j2, _⟩ := hM.1 k (List.mem_range.mp k1)
    rw [j2] at k2
    exact ⟨j, j1, ⟨k2.1, k2.2.1⟩, k2.2.2⟩
  · rintro ⟨j, j1, ⟨j2, j3⟩, j4⟩
    obtain ⟨k, k1, k2, _⟩ := hM.2.1 j j1
    refine ⟨k, List.mem_range.mpr k1, ?_⟩
    unfold d_gb
    rw [Bool.and_eq_true, Bool.and_eq_true, decide_eq_true_iff, decide_eq_true_iff, e, d_sb_gp hT, k2]
    exact ⟨j2, j3, j4⟩
theorem d_ens_gp (hM : mR n ks vs kk f6 64) {g j0 T : Nat} (e : kk g = ks j0) (hT : T ≤ 2 * (ks j0).length) : d_ens (kk g) kk T n = true ↔ ∃ j, j < n ∧ e_gp (ks j0) (ks j) T ∧ 2 * (ks j).length = T := by
  unfold d_ens
  rw [List.any_eq_true]
  constructor
  · rintro ⟨k, k1, k2⟩
    unfold d_en at k2
    rw [Bool.and_eq_true, decide_eq_true_iff, e, d_sb_gp hT] at k2
    obtain ⟨j, j1, j2, _⟩ := hM.1 k (List.mem_range.mp k1)
    rw [j2] at k2
    exact ⟨j, j1, k2⟩
  · rintro ⟨j, j1, j2⟩
    obtain ⟨k, k1, k2, _⟩ := hM.2.1 j j1
    refine ⟨k, List.mem_range.mpr k1, ?_⟩
    unfold d_en
    rw [Bool.and_eq_true, decide_eq_true_iff, e, d_sb_gp hT, k2]
    exact j2
/-- the fan that the model finds: where it is one, there is a pair, and it is the count of bytes -/
theorem d_fan_pos (hS : mS n ks) (hM : mR n ks vs kk f6 64) (h16 : ∀ j, j < n → t16 (ks j)) {g j0 T : Nat} (hj0 : j0 < n) (e : kk g = ks j0) (hT : T ≤ 2 * (ks j0).length) : 0 < d_fan kk n g T ↔ ¬ d_old kk g T = true ∧ ∃ t, t + 1 < n ∧ e_bd ks j0 T t = true := by
  rw [← e_node hS h16 hj0 hT, ← d_fr_nb hM h16 e hT, ← d_ens_gp hM e hT]
  unfold d_fan
  by_cases c : d_old kk g T = true
  · rw [if_pos c]
    simp [c]
  · rw [if_neg c]
    by_cases d : 1 < v_cnt (d_fr (kk g) kk T) 64 n ∨ d_ens (kk g) kk T n = true
    · rw [if_pos d]
      exact ⟨fun h => ⟨c, h, d⟩, fun h => h.2.1⟩
    · rw [if_neg d]
      exact ⟨fun h => absurd h (Nat.lt_irrefl 0), fun h => absurd h.2.2 d⟩
theorem d_fan_val (hM : mR n ks vs kk f6 64) (h16 : ∀ j, j < n → t16 (ks j)) {g j0 T : Nat} (e : kk g = ks j0) (hT : T ≤ 2 * (ks j0).length) (h : 0 < d_fan kk n g T) : d_fan kk n g T = e_nb ks n j0 T := by
  rw [← d_fr_nb hM h16 e hT]
  unfold d_fan at h ⊢
  by_cases c : d_old kk g T = true
  · rw [if_pos c] at h
    omega
  · rw [if_neg c] at h ⊢
    by_cases d : 1 < v_cnt (d_fr (kk g) kk T) 64 n ∨ d_ens (kk g) kk T n = true
    · rw [if_pos d]
    · rw [if_neg d] at h
      omega
/-- the sum over keys and bytes, as one count -/
theorem d_inn_cnt {N x : Nat} (h8 : ∀ m, m < N → (kk (64 + m)).length ≤ 8) : ∀ m, m ≤ N → d_inn kk n x m = v_cnt (fun z => decide (z % 17 ≤ 2 * (kk (64 + z / 17)).length) && d_cl x (d_fan kk n (64 + z / 17) (z % 17))) 0 (17 * m)
  | 0, _ => rfl
  | m + 1, hm => by
    have h := h8 m (by omega)
    show d_inn kk n x m + _ = _
    rw [d_inn_cnt h8 m (by omega), show 17 * (m + 1) = 17 * m + 17 by omega, v_cnt_add _ 0 (17 * m) 17]
    congr 1
    have e1 := v_cnt_add (fun z => decide (z % 17 ≤ 2 * (kk (64 + z / 17)).length) && d_cl x (d_fan kk n (64 + z / 17) (z % 17))) (0 + 17 * m) (2 * (kk (64 + m)).length + 1) (17 - (2 * (kk (64 + m)).length + 1))
    rw [show 2 * (kk (64 + m)).length + 1 + (17 - (2 * (kk (64 + m)).length + 1)) = 17 by omega] at e1
    rw [e1, v_cnt_no (k := 17 - (2 * (kk (64 + m)).length + 1)) (fun j hj h9 => by
      rw [Bool.and_eq_true, decide_eq_true_iff] at h9
      have a1 : (0 + 17 * m + (2 * (kk (64 + m)).length + 1) + j) / 17 = m := by omega
      have a2 : (0 + 17 * m + (2 * (kk (64 + m)).length + 1) + j) % 17 = 2 * (kk (64 + m)).length + 1 + j := by omega
      rw [a1, a2] at h9
      omega), Nat.add_zero]
    refine v_cnt_congr (fun t ht => ?_)
    have a1 : (0 + 17 * m + t) / 17 = m := by omega
    have a2 : (0 + 17 * m + t) % 17 = t := by omega
    rw [a1, a2, Nat.zero_add, decide_eq_true (show t ≤ 2 * (kk (64 + m)).length by omega), Bool.true_and]
theorem d_cl_0 (x : Nat) : d_cl x 0 = false := by
  unfold d_cl
  split <;> rfl
/-- the nodes, by the model and by the class -/
theorem inn_ans (hS : mS n ks) (hM : mR n ks vs kk f6 64) (h16 : ∀ j, j < n → t16 (ks j)) (h8 : ∀ j, j < n → (ks j).length ≤ 8) {x lf mf : Nat} (hlm : ∀ f, 1 ≤ f → f ≤ 64 → ((lf ≤ f ∧ f ≤ mf) ↔ d_cl x f = true)) (hn : n ≤ 64) : d_inn kk n x n = v_cnt (fun i => dc (e_new (fun j => e_sb (ks j) (ks (j + 1))) i ∧ lf ≤ e_fan (fun j => e_sb (ks j) (ks (j + 1))) (n - 1) i (ks i).length ∧ e_fan (fun j => e_sb (ks j) (ks (j + 1))) (n - 1) i (ks i).length ≤ mf)) 0 (n - 1) := by
  have hk8 : ∀ m, m < n → (kk (64 + m)).length ≤ 8 := fun m hm => by
    obtain ⟨j, j1, j2, _⟩ := hM.1 m hm
    rw [j2]
    exact h8 j j1
  rw [d_inn_cnt (N := n) hk8 n (Nat.le_refl _)]
  apply Nat.le_antisymm
  · -- a node of the model has a first pair
    have hz : ∀ z, (z < 17 * n ∧ (decide (z % 17 ≤ 2 * (kk (64 + z / 17)).length) && d_cl x (d_fan kk n (64 + z / 17) (z % 17))) = true) → ∃ i, i + 1 < n ∧ e_sb (ks i) (ks (i + 1)) = z % 17 ∧ e_gp (kk (64 + z / 17)) (ks i) (z % 17) ∧ e_new (fun j => e_sb (ks j) (ks (j + 1))) i ∧ d_cl x (e_fan (fun j => e_sb (ks j) (ks (j + 1))) (n - 1) i (ks i).length) = true ∧ ¬ d_old kk (64 + z / 17) (z % 17) = true := fun z ⟨hz, hp⟩ => by
      rw [Bool.and_eq_true, decide_eq_true_iff] at hp
      obtain ⟨j0, j1, j2, _⟩ := hM.1 (z / 17) (by omega)
      have hT : z % 17 ≤ 2 * (ks j0).length := by rw [← j2]; exact hp.1
      have hpos : 0 < d_fan kk n (64 + z / 17) (z % 17) := by
        rcases Nat.eq_zero_or_pos (d_fan kk n (64 + z / 17) (z % 17)) with h0 | h0
        · rw [h0, d_cl_0] at hp
          cases hp.2
        · exact h0
      obtain ⟨hold, t, t1, t2⟩ := (d_fan_pos hS hM h16 j1 j2 hT).mp hpos
      -- the first pair
      have hmin : ∃ i, i + 1 < n ∧ e_bd ks j0 (z % 17) i = true ∧ ∀ s, s < i → ¬ e_bd ks j0 (z % 17) s = true := by
        have key : ∀ m, (∃ t, t < m ∧ t + 1 < n ∧ e_bd ks j0 (z % 17) t = true) → ∃ i, i + 1 < n ∧ e_bd ks j0 (z % 17) i = true ∧ ∀ s, s < i → ¬ e_bd ks j0 (z % 17) s = true := by
          intro m
          induction m with
          | zero => rintro ⟨t, h, _⟩; omega
          | succ m ih =>
            rintro ⟨t, h1, h2, h3⟩
            by_cases c : ∃ t, t < m ∧ t + 1 < n ∧ e_bd ks j0 (z % 17) t = true
            · exact ih c
            · by_cases e : t = m
              · subst e
                exact ⟨t, h2, h3, fun s hs h9 => c ⟨s, hs, by omega, h9⟩⟩
              · exact absurd ⟨t, by omega, h2, h3⟩ c
        exact key (t + 1) ⟨t, by omega, t1, t2⟩
      obtain ⟨i, i1, i2, i3⟩ := hmin
      obtain ⟨b1, b2, b3⟩ := dc_iff.mp i2
      have hnew : e_new (fun j => e_sb (ks j) (ks (j + 1))) i := by
        rintro ⟨s, s1, s2, s3⟩
        have s2 : e_sb (ks s) (ks (s + 1)) = e_sb (ks i) (ks (i + 1)) := s2
        have c1 := (e_gp_iff (xs := ks s) (ys := ks (s + 1)) (T := z % 17)).mpr (by omega)
        have c2 := e_chain (ks := ks) (i := s) (t := i) c1.1 (i - s) (by omega) (fun u u1 u2 => by
          by_cases e : u = s
          · rw [e]; omega
          · have : e_sb (ks i) (ks (i + 1)) ≤ e_sb (ks u) (ks (u + 1)) := s3 u (by omega) u2
            omega)
        have c3 := b1.trans c2.symm
        exact i3 s s1 (dc_iff.mpr ⟨c3, c3.trans c1, by omega⟩)
      have hv := d_fan_val hM h16 j2 hT hpos
      have hg : e_nb ks n j0 (z % 17) = e_nb ks n i (z % 17) := by
        unfold e_nb
        refine v_cnt_congr (fun x _ => ?_)
        rw [Bool.eq_iff_iff, e_hs_iff, e_hs_iff]
        exact ⟨fun ⟨k, k1, ⟨k2, k3⟩, k4⟩ => ⟨k, k1, ⟨b1.symm.trans k2, k3⟩, k4⟩, fun ⟨k, k1, ⟨k2, k3⟩, k4⟩ => ⟨k, k1, ⟨b1.trans k2, k3⟩, k4⟩⟩
      have hf := e_fan_nb hS h16 i1 hnew
      rw [b3] at hf
      exact ⟨i, i1, b3, by rw [j2]; exact b1, hnew, by rw [hf, ← hg, ← hv]; exact hp.2, hold⟩
    obtain ⟨G, hG⟩ := k_choose (P := fun z => z < 17 * n ∧ (decide (z % 17 ≤ 2 * (kk (64 + z / 17)).length) && d_cl x (d_fan kk n (64 + z / 17) (z % 17))) = true) hz
    refine v_cnt_inj G (fun z hz1 hp => ?_) (fun y z hy hz1 hp1 hp2 e => ?_)
    · obtain ⟨g1, g2, g3, g4, g5, g6⟩ := hG z ⟨hz1, hp⟩
      have hfl := e_fan_le (sb := fun j => e_sb (ks j) (ks (j + 1))) (pairs := n - 1) (i := G z) (k := (ks (G z)).length)
      have hf1 : 1 ≤ e_fan (fun j => e_sb (ks j) (ks (j + 1))) (n - 1) (G z) (ks (G z)).length := by
        rcases Nat.eq_zero_or_pos (e_fan (fun j => e_sb (ks j) (ks (j + 1))) (n - 1) (G z) (ks (G z)).length) with h0 | h0
        · rw [h0, d_cl_0] at g5
          cases g5
        · exact h0
      exact ⟨by omega, dc_iff.mpr ⟨g4, (hlm _ hf1 (by omega)).mpr g5⟩⟩
    · obtain ⟨g1, g2, g3, g4, g5, g6⟩ := hG y ⟨hy, hp1⟩
      obtain ⟨k1, k2, k3, k4, k5, k6⟩ := hG z ⟨hz1, hp2⟩
      rw [e] at g2 g3
      have eT : y % 17 = z % 17 := by omega
      rw [eT] at g3 g6
      have hgp : e_gp (kk (64 + y / 17)) (kk (64 + z / 17)) (z % 17) := g3.trans k3.symm
      have hyz : y / 17 = z / 17 := by
        rcases Nat.lt_trichotomy (y / 17) (z / 17) with h | h | h
        · exact absurd (d_old_t (g := 64 + z / 17) (k := 64 + y / 17) (by omega) (by omega) ((d_sb_gp hgp.2.1).mpr hgp.symm)) k6
        · exact h
        · exact absurd (d_old_t (g := 64 + y / 17) (k := 64 + z / 17) (by omega) (by omega) ((d_sb_gp hgp.1).mpr hgp)) g6
      omega
  · -- a pair of the class has a first key of the model
    have hz : ∀ i, (i < n - 1 ∧ dc (e_new (fun j => e_sb (ks j) (ks (j + 1))) i ∧ lf ≤ e_fan (fun j => e_sb (ks j) (ks (j + 1))) (n - 1) i (ks i).length ∧ e_fan (fun j => e_sb (ks j) (ks (j + 1))) (n - 1) i (ks i).length ≤ mf) = true) → ∃ z, z < 17 * n ∧ (decide (z % 17 ≤ 2 * (kk (64 + z / 17)).length) && d_cl x (d_fan kk n (64 + z / 17) (z % 17))) = true ∧ z % 17 = e_sb (ks i) (ks (i + 1)) ∧ e_gp (kk (64 + z / 17)) (ks i) (z % 17) := fun i ⟨hi, hp⟩ => by
      obtain ⟨p1, p2, p3⟩ := dc_iff.mp hp
      have gi := (e_gp_iff (xs := ks i) (ys := ks (i + 1)) (T := e_sb (ks i) (ks (i + 1)))).mpr (Nat.le_refl _)
      have h8i := h8 i (by omega)
      have hT16 : e_sb (ks i) (ks (i + 1)) < 17 := by have := gi.1; omega
      -- the first key of the model in the group
      have hmin : ∃ m, m < n ∧ e_gp (kk (64 + m)) (ks i) (e_sb (ks i) (ks (i + 1))) ∧ ∀ s, s < m → ¬ e_gp (kk (64 + s)) (ks i) (e_sb (ks i) (ks (i + 1))) := by
        have key : ∀ m, (∃ t, t < m ∧ t < n ∧ e_gp (kk (64 + t)) (ks i) (e_sb (ks i) (ks (i + 1)))) → ∃ m, m < n ∧ e_gp (kk (64 + m)) (ks i) (e_sb (ks i) (ks (i + 1))) ∧ ∀ s, s < m → ¬ e_gp (kk (64 + s)) (ks i) (e_sb (ks i) (ks (i + 1))) := by
          intro m
          induction m with
          | zero => rintro ⟨t, h, _⟩; omega
          | succ m ih =>
            rintro ⟨t, h1, h2, h3⟩
            by_cases c : ∃ t, t < m ∧ t < n ∧ e_gp (kk (64 + t)) (ks i) (e_sb (ks i) (ks (i + 1)))
            · exact ih c
            · by_cases e : t = m
              · subst e
                exact ⟨t, h2, h3, fun s hs h9 => c ⟨s, hs, by omega, h9⟩⟩
              · exact absurd ⟨t, by omega, h2, h3⟩ c
        obtain ⟨t, t1, t2, _⟩ := hM.2.1 i (by omega)
        exact key (t + 1) ⟨t, by omega, t1, by rw [t2]; exact e_gp.refl gi.1⟩
      obtain ⟨m, m1, m2, m3⟩ := hmin
      obtain ⟨j0, j1, j2, _⟩ := hM.1 m m1
      have b1 : e_gp (ks j0) (ks i) (e_sb (ks i) (ks (i + 1))) := by rw [← j2]; exact m2
      have hpos : 0 < d_fan kk n (64 + m) (e_sb (ks i) (ks (i + 1))) := (d_fan_pos hS hM h16 j1 j2 b1.1).mpr ⟨d_old_f (fun k k1 k2 h9 => by
        have h8' := (d_sb_gp m2.1).mp h9
        exact m3 (k - 64) (by omega) (by rw [show 64 + (k - 64) = k by omega]; exact h8'.symm.trans m2)), i, by omega, dc_iff.mpr ⟨b1, b1.trans gi, rfl⟩⟩
      have hv := d_fan_val hM h16 j2 b1.1 hpos
      have hg : e_nb ks n j0 (e_sb (ks i) (ks (i + 1))) = e_nb ks n i (e_sb (ks i) (ks (i + 1))) := by
        unfold e_nb
        refine v_cnt_congr (fun x _ => ?_)
        rw [Bool.eq_iff_iff, e_hs_iff, e_hs_iff]
        exact ⟨fun ⟨k, k1, ⟨k2, k3⟩, k4⟩ => ⟨k, k1, ⟨b1.symm.trans k2, k3⟩, k4⟩, fun ⟨k, k1, ⟨k2, k3⟩, k4⟩ => ⟨k, k1, ⟨b1.trans k2, k3⟩, k4⟩⟩
      have hf := e_fan_nb hS h16 (by omega) p1
      have hfl := e_fan_le (sb := fun j => e_sb (ks j) (ks (j + 1))) (pairs := n - 1) (i := i) (k := (ks i).length)
      have a1 : (17 * m + e_sb (ks i) (ks (i + 1))) / 17 = m := by omega
      have a2 : (17 * m + e_sb (ks i) (ks (i + 1))) % 17 = e_sb (ks i) (ks (i + 1)) := by omega
      refine ⟨17 * m + e_sb (ks i) (ks (i + 1)), by omega, ?_, a2, by rw [a1, a2]; exact m2⟩
      rw [a1, a2, decide_eq_true m2.1, Bool.true_and, hv, hg, ← hf]
      exact (hlm _ (by rw [hf, ← hg, ← hv]; exact hpos) (by omega)).mp ⟨p2, p3⟩
    obtain ⟨G, hG⟩ := k_choose (P := fun i => i < n - 1 ∧ dc (e_new (fun j => e_sb (ks j) (ks (j + 1))) i ∧ lf ≤ e_fan (fun j => e_sb (ks j) (ks (j + 1))) (n - 1) i (ks i).length ∧ e_fan (fun j => e_sb (ks j) (ks (j + 1))) (n - 1) i (ks i).length ≤ mf) = true) hz
    refine v_cnt_inj G (fun i hi hp => ⟨(hG i ⟨hi, hp⟩).1, (hG i ⟨hi, hp⟩).2.1⟩) (fun i j hi hj hp1 hp2 e => ?_)
    obtain ⟨_, _, g3, g4⟩ := hG i ⟨hi, hp1⟩
    obtain ⟨_, _, k3, k4⟩ := hG j ⟨hj, hp2⟩
    rw [e] at g3 g4
    have hgp : e_gp (ks i) (ks j) (G j % 17) := g4.symm.trans k4
    -- two first pairs of one group
    have key : ∀ a b T, a < b → b + 1 < n → e_gp (ks a) (ks b) T → e_sb (ks a) (ks (a + 1)) = T → e_sb (ks b) (ks (b + 1)) = T → ¬ e_new (fun j => e_sb (ks j) (ks (j + 1))) b := fun a b T hab hb hg ea eb hnew => by
      refine hnew ⟨a, hab, by show e_sb (ks a) (ks (a + 1)) = e_sb (ks b) (ks (b + 1)); omega, fun s s1 s2 => ?_⟩
      have c1 := e_gp_mid hS (i := a) (j := s) (k := b) (by omega) (by omega) (by omega) hg
      have c2 := e_gp_mid hS (i := a) (j := s + 1) (k := b) (by omega) (by omega) (by omega) hg
      have c3 := e_gp_iff.mp (c1.symm.trans c2)
      show e_sb (ks b) (ks (b + 1)) ≤ e_sb (ks s) (ks (s + 1))
      omega
    rcases Nat.lt_trichotomy i j with h | h | h
    · exact absurd (dc_iff.mp hp2).1 (key i j _ h (by omega) hgp g3.symm k3.symm)
    · exact h
    · exact absurd (dc_iff.mp hp1).1 (key j i _ h (by omega) hgp.symm k3.symm g3.symm)
end EI
theorem e_fc_congr {sb sb' : Nat → Nat} {T pairs : Nat} (h : ∀ t, t < pairs → sb t = sb' t) : ∀ f t, e_fc sb T pairs f t = e_fc sb' T pairs f t
  | 0, _ => rfl
  | f + 1, t => by
    unfold e_fc
    by_cases c : t < pairs
    · rw [h t c, e_fc_congr h f (t + 1)]
    · rw [if_neg (fun h9 => c h9.1), if_neg (fun h9 => c h9.1)]
theorem e_new_congr {sb sb' : Nat → Nat} {i : Nat} (h : ∀ t, t ≤ i → sb t = sb' t) : e_new sb i ↔ e_new sb' i := by
  unfold e_new
  refine not_congr ⟨fun ⟨j, a, b, c⟩ => ⟨j, a, ?_, fun t h1 h2 => ?_⟩, fun ⟨j, a, b, c⟩ => ⟨j, a, ?_, fun t h1 h2 => ?_⟩⟩
  · rw [← h j (by omega), ← h i (Nat.le_refl _)]; exact b
  · rw [← h i (Nat.le_refl _), ← h t (by omega)]; exact c t h1 h2
  · rw [h j (by omega), h i (Nat.le_refl _)]; exact b
  · rw [h i (Nat.le_refl _), h t (by omega)]; exact c t h1 h2
theorem inn_ans2 {ks : Nat → List Nat} {vs : Nat → Int32} {n : Nat} {kk : Nat → List Nat} {f6 : Nat → Int32} (hS : mS n ks) (hM : mR n ks vs kk f6 64) (h16 : ∀ j, j < n → t16 (ks j)) (h8 : ∀ j, j < n → (ks j).length ≤ 8) {x lf mf : Nat} (hlm : ∀ f, 1 ≤ f → f ≤ 64 → ((lf ≤ f ∧ f ≤ mf) ↔ d_cl x f = true)) (hn : n ≤ 64) : d_inn kk n x n = v_cnt (e_inn (e_sbk ks) ks (n - 1) lf mf) 0 (n - 1) := by
  rw [inn_ans hS hM h16 h8 hlm hn]
  have hsb : ∀ t, t < n → e_sbk ks t = e_sb (ks t) (ks (t + 1)) := fun t ht => if_pos (h8 t ht)
  refine v_cnt_congr (fun i hi => ?_)
  rw [Nat.zero_add]
  have e1 := e_new_congr (sb := fun j => e_sb (ks j) (ks (j + 1))) (sb' := e_sbk ks) (i := i) (fun t ht => (hsb t (by omega)).symm)
  have e2 : e_fan (fun j => e_sb (ks j) (ks (j + 1))) (n - 1) i (ks i).length = e_fan (e_sbk ks) (n - 1) i (ks i).length := by
    unfold e_fan
    rw [hsb i (by omega)]
    congr 1
    exact e_fc_congr (fun t ht => (hsb t (by omega)).symm) _ _
  rw [e2, Bool.eq_iff_iff, dc_iff]
  unfold e_inn
  constructor
  · intro h
    exact @decide_eq_true _ (Classical.propDecidable _) ⟨e1.mp h.1, h.2⟩
  · intro h
    have h1 := @of_decide_eq_true _ (Classical.propDecidable _) h
    exact ⟨e1.mpr h1.1, h1.2⟩
