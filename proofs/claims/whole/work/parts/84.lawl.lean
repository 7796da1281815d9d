/-! steps of the law without a wrapper: printed by wip/specs/lawl.py -/
theorem v_ms.cnt {org : Nat → Option Nat} {srt : Nat → Nat} {bt : Nat → List Nat} {k n : Nat} {ks : Nat → List Nat} {f0 t0 : Nat} (h : v_ms org srt bt k n ks f0 t0) (hS : mS n ks) : v_cnt (fun j => v_in org srt bt k (ks j)) 0 n = t0 - f0 := by
  rw [v_cnt_mid (p := fun j => v_in org srt bt k (ks j)) (q := fun _ => true) h.1 h.2.1 (fun j hj => by rw [h.iff hS hj]; exact ⟨fun h9 => ⟨h9, rfl⟩, fun h9 => h9.1⟩)]
  exact v_cnt_all (fun _ _ => rfl)
theorem sf_uniq {xs : List Nat} {st st1 : Nat → Nat} (h : sfP xs xs.length xs.length st) (h1 : sfP xs xs.length xs.length st1) {i : Nat} (hi : i < xs.length) : st i = st1 i := by
  have h2 := (so_eq (A := fun i => xs.drop (st i)) (B := fun i => xs.drop (st1 i)) h.2.2 h1.2.2 (fun i hi => by
      obtain ⟨j, hj, e⟩ := h1.2.1 (st i) (h.1 i hi).1 (h.1 i hi).2
      exact ⟨j, hj, by rw [e]⟩) (fun i hi => by
      obtain ⟨j, hj, e⟩ := h.2.1 (st1 i) (h1.1 i hi).1 (h1.1 i hi).2
      exact ⟨j, hj, by rw [e]⟩)).2 i hi
  have h3 := congrArg List.length h2
  simp only [List.length_drop] at h3
  have := (h.1 i hi).2
  have := (h1.1 i hi).2
  omega
theorem sf_least (P : Nat → Prop) (m : Nat) : ∃ r, r ≤ m ∧ (∀ i, r ≤ i → i < m → P i) ∧ (0 < r → ¬ P (r - 1)) := by
  induction m with
  | zero => exact ⟨0, Nat.le_refl _, fun i _ h => absurd h (Nat.not_lt_zero _), fun h => absurd h (Nat.lt_irrefl _)⟩
  | succ m ih =>
    by_cases hP : P m
    · obtain ⟨r, h1, h2, h3⟩ := ih
      refine ⟨r, by omega, fun i hi hm => ?_, h3⟩
      rcases Nat.lt_or_ge i m with h9 | h9
      · exact h2 i hi h9
      · rw [show i = m by omega]; exact hP
    · exact ⟨m + 1, Nat.le_refl _, fun i h1 h2 => by omega, fun _ => hP⟩
theorem sf_ex (xs : List Nat) : ∃ st, sfP xs xs.length xs.length st := by
  have h : ∀ m, m ≤ xs.length → ∃ st, sfP xs xs.length m st := by
    intro m
    induction m with
    | zero => exact fun _ => ⟨fun _ => 0, sfP_0 _ _ _⟩
    | succ m ih =>
      intro hm
      obtain ⟨st, h⟩ := ih (by omega)
      obtain ⟨r, h1, h2, h3⟩ := sf_least (fun i => t_ord (xs.drop (xs.length - m - 1)) (xs.drop (st i)) < 0) m
      exact ⟨_, sfP_new rfl h h1 (by omega) h2 h3⟩
  exact h _ (Nat.le_refl _)
theorem lWk.eq {ar ar1 : Nat → Nat → Int32} {P : List Nat → Bool} {tn : Nat} {u : Nat × Nat × Nat × Nat} {n : Nat} {ks : Nat → List Nat} {chg k : Nat} (h : lWk ar P tn u n ks chg k) (h1 : ar1 11 k = ar 11 k) (h2 : ar1 12 k = ar 12 k) (h3 : ar1 13 k = ar 13 k) (h4 : ar1 14 k = ar 14 k) (h5 : ar1 15 k = ar 15 k) (h6 : ∀ x, 8 * k ≤ x → x < 8 * k + 8 → ar1 16 x = ar 16 x) : lWk ar1 P tn u n ks chg k := by
  unfold lWk lWs lWt at h ⊢
  rw [h1, h2, h3, h4, h5]
  obtain ⟨a1, a2, a3, a4, a5⟩ := h
  refine ⟨a1, a2, a3, a4, fun b1 b2 => ?_⟩
  rcases a5 b1 b2 with c1 | ⟨c1, la, c2, c3, c4, c5, c6⟩
  · exact Or.inl c1
  · exact Or.inr ⟨c1, la, c2, fun j hj => by rw [h6 _ (by omega) (by omega)]; exact c3 j hj, c4, c5, c6⟩
theorem lW.up {ar ar1 : Nat → Nat → Int32} {c0 : Nat} {org : Nat → Option Nat} {srt : Nat → Nat} {bt : Nat → List Nat} {tn mp : Nat → Nat} {wk : Nat → Nat × Nat × Nat × Nat} {n : Nat → Nat} {ks : Nat → Nat → List Nat} {chg : Nat → Nat} (h : lW ar c0 org srt bt tn mp wk n ks chg) {k : Nat} (hkc : k < c0) {u : Nat × Nat × Nat × Nat} (hk : lWk ar1 (v_in org srt bt k) (tn k) u (n (mp k)) (ks (mp k)) (chg (mp k)) k)
    (h1 : ∀ j, j ≠ k → ar1 11 j = ar 11 j) (h2 : ∀ j, j ≠ k → ar1 12 j = ar 12 j) (h3 : ∀ j, j ≠ k → ar1 13 j = ar 13 j) (h4 : ∀ j, j ≠ k → ar1 14 j = ar 14 j) (h5 : ∀ j, j ≠ k → ar1 15 j = ar 15 j) (h6 : ∀ j x, j ≠ k → 8 * j ≤ x → x < 8 * j + 8 → ar1 16 x = ar 16 x) : lW ar1 c0 org srt bt tn mp (va_up wk k u) n ks chg := by
  refine ⟨fun j hj => ?_, fun j hj => ?_⟩
  · by_cases e : j = k
    · subst e
      rw [va_up_self]
      exact hk
    · rw [va_up_ne _ _ e]
      exact (h.1 j hj).eq (h1 j e) (h2 j e) (h3 j e) (h4 j e) (h5 j e) (fun x => h6 j x e)
  · have e : j ≠ k := by omega
    rw [h1 j e, h3 j e, h4 j e]
    exact h.2 j hj
theorem ty_ok {w : Int32} {t : Nat} (ht : t ≤ 8) (h : ¬ w < nI 1 ∧ ¬ nI 4 < w ∧ nI t + w ≤ nI 8) : ∃ nn, 1 ≤ nn ∧ nn ≤ 4 ∧ t + nn ≤ 8 ∧ w = nI nn := by
  obtain ⟨h1, h2, h3⟩ := h
  have a1 := Int32.le_iff_toInt_le.mp (gi_nltn h1)
  have a2 := Int32.le_iff_toInt_le.mp (gi_nltn h2)
  rw [nI_toInt (by decide)] at a1 a2
  have e : w = nI w.toInt.toNat := Int32.toInt_inj.mp (by rw [nI_toInt (by omega)]; omega)
  refine ⟨w.toInt.toNat, by omega, by omega, ?_, e⟩
  rw [e, nI_add] at h3
  have := (nI_leI (by omega) (by decide)).mp h3
  exact this
theorem sx_ans {xs : List Nat} {sti : Nat → Nat} {i y : Nat} (hst : sfP xs xs.length xs.length sti) (hi : i < xs.length) (h : (i = 0 ∧ y = 0) ∨ ∃ sti, sfP xs xs.length xs.length sti ∧ i ≠ 0 ∧ y = t_lcp (xs.drop (sti i)) (xs.drop (sti (i - 1)))) : (if i = 0 then 0 else t_lcp (xs.drop (sti i)) (xs.drop (sti (i - 1)))) = y := by
  rcases h with ⟨h1, h2⟩ | ⟨st, h1, h2, h3⟩
  · rw [if_pos h1, h2]
  · rw [if_neg h2, h3, sf_uniq hst h1 hi, sf_uniq hst h1 (i := i - 1) (by omega)]
theorem h01N {y : Int32} (h : y.toInt ≠ 0 ∧ y.toInt ≠ 1) (h1 : ¬ y < 0 ∧ y ≤ nI 1) : False := by
  have a1 := gi_nlt h1.1
  have a2 := Int32.le_iff_toInt_le.mp h1.2
  rw [nI_toInt (by decide)] at a2
  omega
theorem lo_ans {xs tp : List Nat} {sti : Nat → Nat} {a b : Option Nat} (h1 : match a with | none => ∀ j, j < xs.length → ¬ t_at xs tp (sti j) | some k => k < xs.length ∧ t_at xs tp (sti k) ∧ ∀ j, j < k → ¬ t_at xs tp (sti j)) (h2 : match b with | none => ∀ j, j < xs.length → ¬ t_at xs tp (sti j) | some k => k < xs.length ∧ t_at xs tp (sti k) ∧ ∀ j, j < k → ¬ t_at xs tp (sti j)) : a = b := by
  rcases a with _ | a <;> rcases b with _ | b
  · rfl
  · exact absurd h2.2.1 (h1 b h2.1)
  · exact absurd h1.2.1 (h2 a h1.1)
  · rcases Nat.lt_trichotomy a b with h | h | h
    · exact absurd h1.2.1 (h2.2.2 a h)
    · rw [h]
    · exact absurd h2.2.1 (h1.2.2 b h)

set_option maxHeartbeats 4000000 in
theorem l_letter (l : Launch) (D : va_G) (q : Nat → ClassId) (b z1 z2 : Nat) (F1 F2 : Nat → Int32) (T : Nat) (x0 : Int32) (H : Heap) (hJ : lJ D q b z1 z2 F1 F2 T x0 H) (i : Int32) : gC l y_Hall_letter (Cond.code y_Hall_letter b_Hall_letter 2 (some .int) :: gWS) (gR 10 200 5 22) D CL (gY q) (fun _ => True) [.ref b, .int i] H (lY l D q b z1 z2 F1 F2 T y_Model_letter (Cond.code y_Model_letter b_Model_letter 4 (some .int) :: gWS) [.int i] H) 5 22 (fun p => b ≤ p) := by
  obtain ⟨c0, ad, org, srt, bt, tn, mp, wk, n, ks, vs, chg, tp, ud, tl, an, aks, aus, xs, us, so, w, ar, G, hQ, hx0, hP⟩ := hJ
  have ha := hQ.1
  have hR := hQ.2.1
  obtain ⟨⟨kk, hG⟩, ht, ⟨hv, hN, h3⟩, hf, ⟨ed, hp, he⟩, hA, hW⟩ := hP
  refine gC.up (c_Hall_letter l D q H b c0 ad org srt bt tn mp wk n ks vs chg tp ud tl an aks aus xs us so ha i) (by decide) (by decide) (by decide) (by decide) (fun _ _ _ => trivial) ?_ (fun _ h => h)
  rintro r H1 ⟨rfl, h1, hz, fr⟩
  obtain ⟨hQ1, -, fb⟩ := lQ.hall hQ h1 (by omega) (fun k k1 k2 => Or.inl ⟨k2, rfl⟩) fr
  refine ⟨_, rfl, by omega, fb, ⟨_, hQ1.2.1.1⟩, ?_⟩
  refine gC.up (c_Model_letter l D q H1 (b + 559) w ar hQ1.2.1 xs us ed hp i) (by decide) (by decide) (by decide) (by decide) (fun _ _ _ => trivial) ?_ (fun p hp => by omega)
  rintro r H2 ⟨rfl, h2, hz2, fr2⟩
  exact ⟨rfl, ⟨_, _, _, _, _, _, _, _, _, _, _, _, _, _, _, _, _, _, _, _, _, _, _, _, _, hQ1.model h2 hz2 fr2, rfl, ⟨⟨kk, hG.eq (by omega) rfl rfl rfl rfl rfl⟩, ht.eq rfl rfl, ⟨hv.eq rfl rfl rfl rfl rfl, hN, h3⟩, hf.eq rfl rfl, ⟨ed, hp.eq rfl rfl rfl rfl rfl rfl, by omega⟩, hA.eq rfl rfl rfl rfl rfl rfl rfl, hW.eq rfl rfl rfl rfl rfl rfl⟩⟩, hz2, fun p hp => fr2 p (by omega)⟩

set_option maxHeartbeats 4000000 in
theorem l_size (l : Launch) (D : va_G) (q : Nat → ClassId) (b z1 z2 : Nat) (F1 F2 : Nat → Int32) (T : Nat) (x0 : Int32) (H : Heap) (hJ : lJ D q b z1 z2 F1 F2 T x0 H) (v : Int32) : gC l y_Hall_size (Cond.code y_Hall_size b_Hall_size 2 (some .int) :: gWS) (gR 10 200 5 22) D CL (gY q) (fun _ => True) [.ref b, .int v] H (lY l D q b z1 z2 F1 F2 T y_Model_size (Cond.code y_Model_size b_Model_size 4 (some .int) :: gWS) [.int v] H) 5 22 (fun p => b ≤ p) := by
  obtain ⟨c0, ad, org, srt, bt, tn, mp, wk, n, ks, vs, chg, tp, ud, tl, an, aks, aus, xs, us, so, w, ar, G, hQ, hx0, hP⟩ := hJ
  have ha := hQ.1
  have hR := hQ.2.1
  obtain ⟨⟨kk, hG⟩, ht, ⟨hv, hN, h3⟩, hf, ⟨ed, hp, he⟩, hA, hW⟩ := hP
  have h12 : c0 ≤ 12 := hv.2.2.1
  have hmS : ∀ m, m < 3 → mS (n m) (ks m) := fun m hm => (ha.2.2.2.2.2.2.1 m hm).2
  by_cases hok : h_ok c0 v
  · obtain ⟨k, hk, rfl⟩ := h_okN (by omega) hok
    have hm3 : mp k < 3 := (hN k hk).1
    refine gC.up (c_Hall_size l D q H b c0 ad org srt bt tn mp wk n ks vs chg tp ud tl an aks aus xs us so ha k hk) (by decide) (by decide) (by decide) (by decide) (fun _ _ _ => trivial) ?_ (fun _ h => h)
    rintro r H1 ⟨f0, t0, hV, rfl, h1, hz, fr⟩
    obtain ⟨hQ1, -, fb⟩ := lQ.hall hQ h1 (by omega) (fun k k1 k2 => Or.inl ⟨k2, rfl⟩) fr
    refine ⟨_, rfl, by omega, fb, ⟨_, hQ1.2.1.1⟩, ?_⟩
    refine gC.up (c_Model_size l D q H1 (b + 559) w ar hQ1.2.1 c0 org srt bt tn mp hv hN kk hG.1 n chg hG.2.1 k hk) (by decide) (by decide) (by decide) (by decide) (fun _ _ _ => trivial) ?_ (fun p hp => by omega)
    rintro r H2 ⟨rfl, h2, hz2, fr2⟩
    exact ⟨by rw [(hG.2.2.1 (mp k) hm3).cnt (v_in org srt bt k), hV.cnt (hmS _ hm3)], ⟨_, _, _, _, _, _, _, _, _, _, _, _, _, _, _, _, _, _, _, _, _, _, _, _, _, hQ1.model h2 hz2 fr2, rfl, ⟨⟨kk, hG.eq (by omega) rfl rfl rfl rfl rfl⟩, ht.eq rfl rfl, ⟨hv.eq rfl rfl rfl rfl rfl, hN, h3⟩, hf.eq rfl rfl, ⟨ed, hp.eq rfl rfl rfl rfl rfl rfl, by omega⟩, hA.eq rfl rfl rfl rfl rfl rfl rfl, hW.eq rfl rfl rfl rfl rfl rfl⟩⟩, hz2, fun p hp => fr2 p (by omega)⟩
  · refine gC.up (c_Hall_sizeN l D q H b c0 ad org srt bt tn mp wk n ks vs chg tp ud tl an aks aus xs us so ha v hok) (by decide) (by decide) (by decide) (by decide) (fun _ _ _ => trivial) ?_ (fun _ h => h)
    rintro r H1 ⟨rfl, h1, hz, fr⟩
    obtain ⟨hQ1, -, fb⟩ := lQ.hall hQ h1 (by omega) (fun k k1 k2 => Or.inl ⟨k2, rfl⟩) fr
    refine ⟨_, rfl, by omega, fb, ⟨_, hQ1.2.1.1⟩, ?_⟩
    refine gC.up (c_Model_sizeV l D q H1 (b + 559) w ar hQ1.2.1 c0 hv.1 v hok) (by decide) (by decide) (by decide) (by decide) (fun _ _ _ => trivial) ?_ (fun p hp => by omega)
    rintro r H2 ⟨rfl, h2, hz2, fr2⟩
    exact ⟨rfl, ⟨_, _, _, _, _, _, _, _, _, _, _, _, _, _, _, _, _, _, _, _, _, _, _, _, _, hQ1.model h2 hz2 fr2, rfl, ⟨⟨kk, hG.eq (by omega) rfl rfl rfl rfl rfl⟩, ht.eq rfl rfl, ⟨hv.eq rfl rfl rfl rfl rfl, hN, h3⟩, hf.eq rfl rfl, ⟨ed, hp.eq rfl rfl rfl rfl rfl rfl, by omega⟩, hA.eq rfl rfl rfl rfl rfl rfl rfl, hW.eq rfl rfl rfl rfl rfl rfl⟩⟩, hz2, fun p hp => fr2 p (by omega)⟩

set_option maxHeartbeats 4000000 in
theorem l_undo (l : Launch) (D : va_G) (q : Nat → ClassId) (b z1 z2 : Nat) (F1 F2 : Nat → Int32) (T : Nat) (x0 : Int32) (H : Heap) (hJ : lJ D q b z1 z2 F1 F2 T x0 H)  : gC l y_Hall_undo (Cond.code y_Hall_undo b_Hall_undo 1 (some .int) :: gWS) (gR 10 200 5 22) D CL (gY q) (fun _ => True) [.ref b] H (lY l D q b z1 z2 F1 F2 T y_Model_undo (Cond.code y_Model_undo b_Model_undo 3 (some .int) :: gWS) [] H) 5 22 (fun p => b ≤ p) := by
  obtain ⟨c0, ad, org, srt, bt, tn, mp, wk, n, ks, vs, chg, tp, ud, tl, an, aks, aus, xs, us, so, w, ar, G, hQ, hx0, hP⟩ := hJ
  have ha := hQ.1
  have hR := hQ.2.1
  obtain ⟨⟨kk, hG⟩, ht, ⟨hv, hN, h3⟩, hf, ⟨ed, hp, he⟩, hA, hW⟩ := hP
  rcases us with _ | ⟨u, us⟩
  · refine gC.up (c_Hall_undo0 l D q H b c0 ad org srt bt tn mp wk n ks vs chg tp ud tl an aks aus xs so ha ) (by decide) (by decide) (by decide) (by decide) (fun _ _ _ => trivial) ?_ (fun _ h => h)
    rintro r H1 ⟨rfl, h1, hz, fr⟩
    obtain ⟨hQ1, -, fb⟩ := lQ.hall hQ h1 (by omega) (fun k k1 k2 => Or.inl ⟨k2, rfl⟩) fr
    refine ⟨_, rfl, by omega, fb, ⟨_, hQ1.2.1.1⟩, ?_⟩
    refine gC.up (c_Model_undo0 l D q H1 (b + 559) w ar hQ1.2.1 hp.2.2.2.2.2.1) (by decide) (by decide) (by decide) (by decide) (fun _ _ _ => trivial) ?_ (fun p hp => by omega)
    rintro r H2 ⟨rfl, h2, hz2, fr2⟩
    exact ⟨rfl, ⟨_, _, _, _, _, _, _, _, _, _, _, _, _, _, _, _, _, _, _, _, _, _, _, _, _, hQ1.model h2 hz2 fr2, rfl, ⟨⟨kk, hG.eq (by omega) rfl rfl rfl rfl rfl⟩, ht.eq rfl rfl, ⟨hv.eq rfl rfl rfl rfl rfl, hN, h3⟩, hf.eq rfl rfl, ⟨ed, hp.eq rfl rfl rfl rfl rfl rfl, by omega⟩, hA.eq rfl rfl rfl rfl rfl rfl rfl, hW.eq rfl rfl rfl rfl rfl rfl⟩⟩, hz2, fun p hp => fr2 p (by omega)⟩
  · refine gC.up (c_Hall_undo l D q H b c0 ad org srt bt tn mp wk n ks vs chg tp ud tl an aks aus xs u us so ha ) (by decide) (by decide) (by decide) (by decide) (fun _ _ _ => trivial) ?_ (fun _ h => h)
    rintro r H1 ⟨rfl, h1, hz, fr⟩
    obtain ⟨hQ1, -, fb⟩ := lQ.hall hQ h1 (by omega) (fun k k1 k2 => Or.inl ⟨k2, rfl⟩) fr
    refine ⟨_, rfl, by omega, fb, ⟨_, hQ1.2.1.1⟩, ?_⟩
    refine gC.up (c_Model_undo l D q H1 (b + 559) w ar hQ1.2.1 xs u us ed hp) (by decide) (by decide) (by decide) (by decide) (fun _ _ _ => trivial) ?_ (fun p hp => by omega)
    rintro r H2 ⟨F, ⟨rfl, hF⟩, h2, hz2, fr2⟩
    exact ⟨rfl, ⟨_, _, _, _, _, _, _, _, _, _, _, _, _, _, _, _, _, _, _, _, _, _, _, _, _, hQ1.model h2 hz2 fr2, rfl, ⟨⟨kk, hG.eq (by omega) rfl rfl rfl rfl rfl⟩, ht.eq rfl rfl, ⟨hv.eq rfl rfl rfl rfl rfl, hN, h3⟩, hf.eq rfl rfl, ⟨ed - 1, ⟨rfl, hF, (hp.2.2.2.2.2.2.2.2.2 0 (Nat.succ_pos _)).2.1, (hp.2.2.2.2.2.2.2.2.2 0 (Nat.succ_pos _)).2.2.1, rfl, rfl, by have := hp.2.2.2.2.2.2.1; omega, hp.2.2.2.2.2.2.2.pop⟩, by omega⟩, hA.eq rfl rfl rfl rfl rfl rfl rfl, hW.eq rfl rfl rfl rfl rfl rfl⟩⟩, hz2, fun p hp => fr2 p (by omega)⟩

set_option maxHeartbeats 4000000 in
theorem l_iterate (l : Launch) (D : va_G) (q : Nat → ClassId) (b z1 z2 : Nat) (F1 F2 : Nat → Int32) (T : Nat) (x0 : Int32) (H : Heap) (hJ : lJ D q b z1 z2 F1 F2 T x0 H) (v : Int32) : gC l y_Hall_iterate (Cond.code y_Hall_iterate b_Hall_iterate 3 (some .boolean) :: gWS) (gR 10 200 5 22) D CL (gY q) (fun _ => True) [.ref b, .int v] H (lY l D q b z1 z2 F1 F2 T y_Model_iterate (Cond.code y_Model_iterate b_Model_iterate 2 (some .boolean) :: gWS) [.int v] H) 5 22 (fun p => b ≤ p) := by
  obtain ⟨c0, ad, org, srt, bt, tn, mp, wk, n, ks, vs, chg, tp, ud, tl, an, aks, aus, xs, us, so, w, ar, G, hQ, hx0, hP⟩ := hJ
  have ha := hQ.1
  have hR := hQ.2.1
  obtain ⟨⟨kk, hG⟩, ht, ⟨hv, hN, h3⟩, hf, ⟨ed, hp, he⟩, hA, hW⟩ := hP
  have h12 : c0 ≤ 12 := hv.2.2.1
  have hmS : ∀ m, m < 3 → mS (n m) (ks m) := fun m hm => (ha.2.2.2.2.2.2.1 m hm).2
  by_cases hok : h_ok c0 v
  · obtain ⟨k, hk, rfl⟩ := h_okN (by omega) hok
    have hm3 : mp k < 3 := (hN k hk).1
    refine gC.up (c_Hall_iterate l D q H b c0 ad org srt bt tn mp wk n ks vs chg tp ud tl an aks aus xs us so ha k hk) (by decide) (by decide) (by decide) (by decide) (fun _ _ _ => trivial) ?_ (fun _ h => h)
    rintro r H1 ⟨rfl, h1, hz, fr⟩
    obtain ⟨hQ1, -, fb⟩ := lQ.hall hQ h1 (by omega) (fun k k1 k2 => Or.inl ⟨k2, rfl⟩) fr
    refine ⟨_, rfl, by omega, fb, ⟨_, hQ1.2.1.1⟩, ?_⟩
    refine gC.up (c_Model_iterate l D q H1 (b + 559) w ar hQ1.2.1 c0 org srt bt tn mp hv hN k hk) (by decide) (by decide) (by decide) (by decide) (fun _ _ _ => trivial) ?_ (fun p hp => by omega)
    rintro r H2 ⟨rfl, h2, hz2, fr2⟩
    exact ⟨rfl, ⟨_, _, _, _, _, _, _, _, _, _, _, _, _, _, _, _, _, _, _, _, _, _, _, _, _, hQ1.model h2 hz2 fr2, rfl, ⟨⟨kk, hG.eq (by omega) rfl rfl rfl rfl rfl⟩, ht.eq rfl rfl, ⟨hv.eq rfl rfl rfl rfl rfl, hN, h3⟩, hf.eq rfl rfl, ⟨ed, hp.eq rfl rfl rfl rfl rfl rfl, by omega⟩, hA.eq rfl rfl rfl rfl rfl rfl rfl, hW.up hk ⟨⟨if_pos rfl, Nat.le_refl _⟩, ⟨if_pos rfl, Nat.zero_le _⟩, ⟨(if_pos rfl).trans (hG.2.1 (mp k) hm3).2.2, Nat.le_refl _⟩, Nat.zero_le _, fun _ _ => Or.inl ⟨if_pos rfl, rfl, rfl⟩⟩ (fun j e => if_neg e) (fun j e => if_neg e) (fun j e => if_neg e) (fun j e => if_neg e) (fun _ _ => rfl) (fun _ _ _ _ _ => rfl)⟩⟩, hz2, fun p hp => fr2 p (by omega)⟩
  · refine gC.up (c_Hall_iterateN l D q H b c0 ad org srt bt tn mp wk n ks vs chg tp ud tl an aks aus xs us so ha v hok) (by decide) (by decide) (by decide) (by decide) (fun _ _ _ => trivial) ?_ (fun _ h => h)
    rintro r H1 ⟨rfl, h1, hz, fr⟩
    obtain ⟨hQ1, -, fb⟩ := lQ.hall hQ h1 (by omega) (fun k k1 k2 => Or.inl ⟨k2, rfl⟩) fr
    refine ⟨_, rfl, by omega, fb, ⟨_, hQ1.2.1.1⟩, ?_⟩
    refine gC.up (c_Model_iterateV l D q H1 (b + 559) w ar hQ1.2.1 c0 hv.1 v hok) (by decide) (by decide) (by decide) (by decide) (fun _ _ _ => trivial) ?_ (fun p hp => by omega)
    rintro r H2 ⟨rfl, h2, hz2, fr2⟩
    exact ⟨rfl, ⟨_, _, _, _, _, _, _, _, _, _, _, _, _, _, _, _, _, _, _, _, _, _, _, _, _, hQ1.model h2 hz2 fr2, rfl, ⟨⟨kk, hG.eq (by omega) rfl rfl rfl rfl rfl⟩, ht.eq rfl rfl, ⟨hv.eq rfl rfl rfl rfl rfl, hN, h3⟩, hf.eq rfl rfl, ⟨ed, hp.eq rfl rfl rfl rfl rfl rfl, by omega⟩, hA.eq rfl rfl rfl rfl rfl rfl rfl, hW.eq rfl rfl rfl rfl rfl rfl⟩⟩, hz2, fun p hp => fr2 p (by omega)⟩

set_option maxHeartbeats 4000000 in
theorem l_type (l : Launch) (D : va_G) (q : Nat → ClassId) (b z1 z2 : Nat) (F1 F2 : Nat → Int32) (T : Nat) (x0 : Int32) (H : Heap) (hJ : lJ D q b z1 z2 F1 F2 T x0 H) (x : Int64) (v : Int32) : gC l y_Hall_type (Cond.code y_Hall_type b_Hall_type 5 (some .boolean) :: gWS) (gR 10 200 5 22) D CL (gY q) (fun _ => True) [.ref b, .long x, .int v] H (lY l D q b z1 z2 F1 F2 T y_Model_type (Cond.code y_Model_type b_Model_type 5 (some .boolean) :: gWS) [.long x, .int v] H) 5 22 (fun p => b ≤ p) := by
  obtain ⟨c0, ad, org, srt, bt, tn, mp, wk, n, ks, vs, chg, tp, ud, tl, an, aks, aus, xs, us, so, w, ar, G, hQ, hx0, hP⟩ := hJ
  have ha := hQ.1
  have hR := hQ.2.1
  obtain ⟨⟨kk, hG⟩, ht, ⟨hv, hN, h3⟩, hf, ⟨ed, hp, he⟩, hA, hW⟩ := hP
  by_cases hok : ¬ v < nI 1 ∧ ¬ nI 4 < v ∧ nI tp.length + v ≤ nI 8
  · obtain ⟨nn, n1, n4, nl, rfl⟩ := ty_ok ht.2.2.1 hok
    refine gC.up (c_Hall_type l D q H b c0 ad org srt bt tn mp wk n ks vs chg tp ud tl an aks aus xs us so ha x nn n1 n4 nl) (by decide) (by decide) (by decide) (by decide) (fun _ _ _ => trivial) ?_ (fun _ h => h)
    rintro r H1 ⟨rfl, h1, hz, fr⟩
    obtain ⟨hQ1, -, fb⟩ := lQ.hall hQ h1 (by omega) (fun k k1 k2 => Or.inl ⟨k2, rfl⟩) fr
    refine ⟨_, rfl, by omega, fb, ⟨_, hQ1.2.1.1⟩, ?_⟩
    refine gC.up (c_Model_type l D q H1 (b + 559) w ar hQ1.2.1 tp ht x nn n1 n4 nl) (by decide) (by decide) (by decide) (by decide) (fun _ _ _ => trivial) ?_ (fun p hp => by omega)
    rintro r H2 ⟨F, ⟨rfl, hF⟩, h2, hz2, fr2⟩
    exact ⟨rfl, ⟨_, _, _, _, _, _, _, _, _, _, _, _, _, _, _, _, _, _, _, _, _, _, _, _, _, hQ1.model h2 hz2 fr2, rfl, ⟨⟨kk, hG.eq (by omega) rfl rfl rfl rfl rfl⟩, ⟨by rw [List.length_append, h_ty_len]; rfl, hF, h1.2.2.2.2.2.2.2.2.1.2.2.1, h1.2.2.2.2.2.2.2.2.1.2.2.2⟩, ⟨hv.eq rfl rfl rfl rfl rfl, hN, h3⟩, hf.eq rfl rfl, ⟨ed, hp.eq rfl rfl rfl rfl rfl rfl, by omega⟩, hA.eq rfl rfl rfl rfl rfl rfl rfl, hW.eq rfl rfl rfl rfl rfl rfl⟩⟩, hz2, fun p hp => fr2 p (by omega)⟩
  · refine gC.up (c_Hall_typeN l D q H b c0 ad org srt bt tn mp wk n ks vs chg tp ud tl an aks aus xs us so ha x v hok) (by decide) (by decide) (by decide) (by decide) (fun _ _ _ => trivial) ?_ (fun _ h => h)
    rintro r H1 ⟨rfl, h1, hz, fr⟩
    obtain ⟨hQ1, -, fb⟩ := lQ.hall hQ h1 (by omega) (fun k k1 k2 => Or.inl ⟨k2, rfl⟩) fr
    refine ⟨_, rfl, by omega, fb, ⟨_, hQ1.2.1.1⟩, ?_⟩
    refine gC.up (c_Model_typeN l D q H1 (b + 559) w ar hQ1.2.1 tp ht x v hok) (by decide) (by decide) (by decide) (by decide) (fun _ _ _ => trivial) ?_ (fun p hp => by omega)
    rintro r H2 ⟨rfl, h2, hz2, fr2⟩
    exact ⟨rfl, ⟨_, _, _, _, _, _, _, _, _, _, _, _, _, _, _, _, _, _, _, _, _, _, _, _, _, hQ1.model h2 hz2 fr2, rfl, ⟨⟨kk, hG.eq (by omega) rfl rfl rfl rfl rfl⟩, ht.eq rfl rfl, ⟨hv.eq rfl rfl rfl rfl rfl, hN, h3⟩, hf.eq rfl rfl, ⟨ed, hp.eq rfl rfl rfl rfl rfl rfl, by omega⟩, hA.eq rfl rfl rfl rfl rfl rfl rfl, hW.eq rfl rfl rfl rfl rfl rfl⟩⟩, hz2, fun p hp => fr2 p (by omega)⟩

set_option maxHeartbeats 4000000 in
theorem l_suffix (l : Launch) (D : va_G) (q : Nat → ClassId) (b z1 z2 : Nat) (F1 F2 : Nat → Int32) (T : Nat) (x0 : Int32) (H : Heap) (hJ : lJ D q b z1 z2 F1 F2 T x0 H) (v : Int32) (y : Int32) : gC l y_Hall_suffix (Cond.code y_Hall_suffix b_Hall_suffix 3 (some .int) :: gWS) (gR 10 200 5 22) D CL (gY q) (fun _ => True) [.ref b, .int v, .int y] H (lY l D q b z1 z2 F1 F2 T y_Model_suffix (Cond.code y_Model_suffix b_Model_suffix 6 (some .int) :: gWS) [.int v, .int y] H) 5 22 (fun p => b ≤ p) := by
  obtain ⟨c0, ad, org, srt, bt, tn, mp, wk, n, ks, vs, chg, tp, ud, tl, an, aks, aus, xs, us, so, w, ar, G, hQ, hx0, hP⟩ := hJ
  have ha := hQ.1
  have hR := hQ.2.1
  obtain ⟨⟨kk, hG⟩, ht, ⟨hv, hN, h3⟩, hf, ⟨ed, hp, he⟩, hA, hW⟩ := hP
  have h01 : ∀ y : Int32, (y = nI 0 ∨ y = nI 1) ∨ (y.toInt ≠ 0 ∧ y.toInt ≠ 1) := fun y => by
    by_cases e0 : y = nI 0
    · exact Or.inl (Or.inl e0)
    · by_cases e1 : y = nI 1
      · exact Or.inl (Or.inr e1)
      · exact Or.inr ⟨fun h => e0 (Int32.toInt_inj.mp h), fun h => e1 (Int32.toInt_inj.mp h)⟩
  have hl : xs.length ≤ 120 := hp.2.2.1
  by_cases hok : h_ok xs.length v
  · obtain ⟨k, hk, rfl⟩ := h_okN (by omega) hok
    rcases h01 y with (rfl | rfl) | hy
    · refine gC.up (c_Hall_suffix0 l D q H b c0 ad org srt bt tn mp wk n ks vs chg tp ud tl an aks aus xs us so ha k hk) (by decide) (by decide) (by decide) (by decide) (fun _ _ _ => trivial) ?_ (fun _ h => h)
      rintro r H1 ⟨sti, hst, rfl, h1, hz, fr⟩
      obtain ⟨hQ1, -, fb⟩ := lQ.hall hQ h1 (by omega) (fun k k1 k2 => Or.inl ⟨k2, rfl⟩) fr
      refine ⟨_, rfl, by omega, fb, ⟨_, hQ1.2.1.1⟩, ?_⟩
      refine gC.up (c_Model_suffix0 l D q H1 (b + 559) w ar hQ1.2.1 xs us ed hp sti hst k hk) (by decide) (by decide) (by decide) (by decide) (fun _ _ _ => trivial) ?_ (fun p hp => by omega)
      rintro r H2 ⟨rfl, h2, hz2, fr2⟩
      exact ⟨rfl, ⟨_, _, _, _, _, _, _, _, _, _, _, _, _, _, _, _, _, _, _, _, _, _, _, _, _, hQ1.model h2 hz2 fr2, rfl, ⟨⟨kk, hG.eq (by omega) rfl rfl rfl rfl rfl⟩, ht.eq rfl rfl, ⟨hv.eq rfl rfl rfl rfl rfl, hN, h3⟩, hf.eq rfl rfl, ⟨ed, hp.eq rfl rfl rfl rfl rfl rfl, by omega⟩, hA.eq rfl rfl rfl rfl rfl rfl rfl, hW.eq rfl rfl rfl rfl rfl rfl⟩⟩, hz2, fun p hp => fr2 p (by omega)⟩
    · refine gC.up (c_Hall_suffix1 l D q H b c0 ad org srt bt tn mp wk n ks vs chg tp ud tl an aks aus xs us so ha k hk) (by decide) (by decide) (by decide) (by decide) (fun _ _ _ => trivial) ?_ (fun _ h => h)
      rintro r H1 ⟨yy, so1, hy1, rfl, h1, hz, fr⟩
      obtain ⟨hQ1, -, fb⟩ := lQ.hall hQ h1 (by omega) (fun k k1 k2 => Or.inl ⟨k2, rfl⟩) fr
      refine ⟨_, rfl, by omega, fb, ⟨_, hQ1.2.1.1⟩, ?_⟩
      refine gC.up (c_Model_suffix1 l D q H1 (b + 559) w ar hQ1.2.1 xs us ed hp (Classical.choose (sf_ex xs)) (Classical.choose_spec (sf_ex xs)) k hk) (by decide) (by decide) (by decide) (by decide) (fun _ _ _ => trivial) ?_ (fun p hp => by omega)
      rintro r H2 ⟨rfl, h2, hz2, fr2⟩
      exact ⟨by rw [sx_ans (Classical.choose_spec (sf_ex xs)) hk hy1], ⟨_, _, _, _, _, _, _, _, _, _, _, _, _, _, _, _, _, _, _, _, _, _, _, _, _, hQ1.model h2 hz2 fr2, rfl, ⟨⟨kk, hG.eq (by omega) rfl rfl rfl rfl rfl⟩, ht.eq rfl rfl, ⟨hv.eq rfl rfl rfl rfl rfl, hN, h3⟩, hf.eq rfl rfl, ⟨ed, hp.eq rfl rfl rfl rfl rfl rfl, by omega⟩, hA.eq rfl rfl rfl rfl rfl rfl rfl, hW.eq rfl rfl rfl rfl rfl rfl⟩⟩, hz2, fun p hp => fr2 p (by omega)⟩
    · refine gC.up (c_Hall_suffixW l D q H b c0 ad org srt bt tn mp wk n ks vs chg tp ud tl an aks aus xs us so ha k hk y hy) (by decide) (by decide) (by decide) (by decide) (fun _ _ _ => trivial) ?_ (fun _ h => h)
      rintro r H1 ⟨rfl, h1, hz, fr⟩
      obtain ⟨hQ1, -, fb⟩ := lQ.hall hQ h1 (by omega) (fun k k1 k2 => Or.inl ⟨k2, rfl⟩) fr
      refine ⟨_, rfl, by omega, fb, ⟨_, hQ1.2.1.1⟩, ?_⟩
      refine gC.up (c_Model_suffixN l D q H1 (b + 559) w ar hQ1.2.1 xs us ed hp (nI k) y (fun h9 => h01N hy h9.2)) (by decide) (by decide) (by decide) (by decide) (fun _ _ _ => trivial) ?_ (fun p hp => by omega)
      rintro r H2 ⟨rfl, h2, hz2, fr2⟩
      exact ⟨rfl, ⟨_, _, _, _, _, _, _, _, _, _, _, _, _, _, _, _, _, _, _, _, _, _, _, _, _, hQ1.model h2 hz2 fr2, rfl, ⟨⟨kk, hG.eq (by omega) rfl rfl rfl rfl rfl⟩, ht.eq rfl rfl, ⟨hv.eq rfl rfl rfl rfl rfl, hN, h3⟩, hf.eq rfl rfl, ⟨ed, hp.eq rfl rfl rfl rfl rfl rfl, by omega⟩, hA.eq rfl rfl rfl rfl rfl rfl rfl, hW.eq rfl rfl rfl rfl rfl rfl⟩⟩, hz2, fun p hp => fr2 p (by omega)⟩
  · refine gC.up (c_Hall_suffixN l D q H b c0 ad org srt bt tn mp wk n ks vs chg tp ud tl an aks aus xs us so ha v y hok) (by decide) (by decide) (by decide) (by decide) (fun _ _ _ => trivial) ?_ (fun _ h => h)
    rintro r H1 ⟨rfl, h1, hz, fr⟩
    obtain ⟨hQ1, -, fb⟩ := lQ.hall hQ h1 (by omega) (fun k k1 k2 => Or.inl ⟨k2, rfl⟩) fr
    refine ⟨_, rfl, by omega, fb, ⟨_, hQ1.2.1.1⟩, ?_⟩
    refine gC.up (c_Model_suffixN l D q H1 (b + 559) w ar hQ1.2.1 xs us ed hp v y (fun h9 => hok h9.1)) (by decide) (by decide) (by decide) (by decide) (fun _ _ _ => trivial) ?_ (fun p hp => by omega)
    rintro r H2 ⟨rfl, h2, hz2, fr2⟩
    exact ⟨rfl, ⟨_, _, _, _, _, _, _, _, _, _, _, _, _, _, _, _, _, _, _, _, _, _, _, _, _, hQ1.model h2 hz2 fr2, rfl, ⟨⟨kk, hG.eq (by omega) rfl rfl rfl rfl rfl⟩, ht.eq rfl rfl, ⟨hv.eq rfl rfl rfl rfl rfl, hN, h3⟩, hf.eq rfl rfl, ⟨ed, hp.eq rfl rfl rfl rfl rfl rfl, by omega⟩, hA.eq rfl rfl rfl rfl rfl rfl rfl, hW.eq rfl rfl rfl rfl rfl rfl⟩⟩, hz2, fun p hp => fr2 p (by omega)⟩

set_option maxHeartbeats 4000000 in
theorem l_locate (l : Launch) (D : va_G) (q : Nat → ClassId) (b z1 z2 : Nat) (F1 F2 : Nat → Int32) (T : Nat) (x0 : Int32) (H : Heap) (hJ : lJ D q b z1 z2 F1 F2 T x0 H) (y : Int32) : gC l y_Hall_locate (Cond.code y_Hall_locate b_Hall_locate 2 (some .int) :: gWS) (gR 10 200 5 22) D CL (gY q) (fun _ => True) [.ref b, .int y] H (lY l D q b z1 z2 F1 F2 T y_Model_locate (Cond.code y_Model_locate b_Model_locate 5 (some .int) :: gWS) [.int y] H) 5 22 (fun p => b ≤ p) := by
  obtain ⟨c0, ad, org, srt, bt, tn, mp, wk, n, ks, vs, chg, tp, ud, tl, an, aks, aus, xs, us, so, w, ar, G, hQ, hx0, hP⟩ := hJ
  have ha := hQ.1
  have hR := hQ.2.1
  obtain ⟨⟨kk, hG⟩, ht, ⟨hv, hN, h3⟩, hf, ⟨ed, hp, he⟩, hA, hW⟩ := hP
  have h01 : ∀ y : Int32, (y = nI 0 ∨ y = nI 1) ∨ (y.toInt ≠ 0 ∧ y.toInt ≠ 1) := fun y => by
    by_cases e0 : y = nI 0
    · exact Or.inl (Or.inl e0)
    · by_cases e1 : y = nI 1
      · exact Or.inl (Or.inr e1)
      · exact Or.inr ⟨fun h => e0 (Int32.toInt_inj.mp h), fun h => e1 (Int32.toInt_inj.mp h)⟩
  rcases h01 y with (rfl | rfl) | hy
  · refine gC.up (c_Hall_locate0 l D q H b c0 ad org srt bt tn mp wk n ks vs chg tp ud tl an aks aus xs us so ha ) (by decide) (by decide) (by decide) (by decide) (fun _ _ _ => trivial) ?_ (fun _ h => h)
    rintro r H1 ⟨rfl, h1, hz, fr⟩
    obtain ⟨hQ1, -, fb⟩ := lQ.hall hQ h1 (by omega) (fun k k1 k2 => Or.inl ⟨k2, rfl⟩) fr
    refine ⟨_, rfl, by omega, fb, ⟨_, hQ1.2.1.1⟩, ?_⟩
    refine gC.up (c_Model_locate0 l D q H1 (b + 559) w ar hQ1.2.1 xs us ed hp tp ht) (by decide) (by decide) (by decide) (by decide) (fun _ _ _ => trivial) ?_ (fun p hp => by omega)
    rintro r H2 ⟨rfl, h2, hz2, fr2⟩
    exact ⟨rfl, ⟨_, _, _, _, _, _, _, _, _, _, _, _, _, _, _, _, _, _, _, _, _, _, _, _, _, hQ1.model h2 hz2 fr2, rfl, ⟨⟨kk, hG.eq (by omega) rfl rfl rfl rfl rfl⟩, pT.nil rfl, ⟨hv.eq rfl rfl rfl rfl rfl, hN, h3⟩, hf.eq rfl rfl, ⟨ed, hp.eq rfl rfl rfl rfl rfl rfl, by omega⟩, hA.eq rfl rfl rfl rfl rfl rfl rfl, hW.eq rfl rfl rfl rfl rfl rfl⟩⟩, hz2, fun p hp => fr2 p (by omega)⟩
  · refine gC.up (c_Hall_locate1 l D q H b c0 ad org srt bt tn mp wk n ks vs chg tp ud tl an aks aus xs us so ha ) (by decide) (by decide) (by decide) (by decide) (fun _ _ _ => trivial) ?_ (fun _ h => h)
    rintro r H1 ⟨sti, ow, so1, hst, hw, rfl, h1, hz, fr⟩
    obtain ⟨hQ1, -, fb⟩ := lQ.hall hQ h1 (by omega) (fun k k1 k2 => Or.inl ⟨k2, rfl⟩) fr
    refine ⟨_, rfl, by omega, fb, ⟨_, hQ1.2.1.1⟩, ?_⟩
    refine gC.up (c_Model_locate1 l D q H1 (b + 559) w ar hQ1.2.1 xs us ed hp sti hst tp ht) (by decide) (by decide) (by decide) (by decide) (fun _ _ _ => trivial) ?_ (fun p hp => by omega)
    rintro r H2 ⟨⟨o1, rfl, ho1⟩, h2, hz2, fr2⟩
    exact ⟨by rw [lo_ans ho1 hw], ⟨_, _, _, _, _, _, _, _, _, _, _, _, _, _, _, _, _, _, _, _, _, _, _, _, _, hQ1.model h2 hz2 fr2, rfl, ⟨⟨kk, hG.eq (by omega) rfl rfl rfl rfl rfl⟩, pT.nil rfl, ⟨hv.eq rfl rfl rfl rfl rfl, hN, h3⟩, hf.eq rfl rfl, ⟨ed, hp.eq rfl rfl rfl rfl rfl rfl, by omega⟩, hA.eq rfl rfl rfl rfl rfl rfl rfl, hW.eq rfl rfl rfl rfl rfl rfl⟩⟩, hz2, fun p hp => fr2 p (by omega)⟩
  · refine gC.up (c_Hall_locateN l D q H b c0 ad org srt bt tn mp wk n ks vs chg tp ud tl an aks aus xs us so ha y hy) (by decide) (by decide) (by decide) (by decide) (fun _ _ _ => trivial) ?_ (fun _ h => h)
    rintro r H1 ⟨rfl, h1, hz, fr⟩
    obtain ⟨hQ1, -, fb⟩ := lQ.hall hQ h1 (by omega) (fun k k1 k2 => Or.inl ⟨k2, rfl⟩) fr
    refine ⟨_, rfl, by omega, fb, ⟨_, hQ1.2.1.1⟩, ?_⟩
    refine gC.up (c_Model_locateN l D q H1 (b + 559) w ar hQ1.2.1 y ⟨fun h => hy.1 (by rw [h]; rfl), fun h => hy.2 (by rw [h]; rfl)⟩) (by decide) (by decide) (by decide) (by decide) (fun _ _ _ => trivial) ?_ (fun p hp => by omega)
    rintro r H2 ⟨rfl, h2, hz2, fr2⟩
    exact ⟨rfl, ⟨_, _, _, _, _, _, _, _, _, _, _, _, _, _, _, _, _, _, _, _, _, _, _, _, _, hQ1.model h2 hz2 fr2, rfl, ⟨⟨kk, hG.eq (by omega) rfl rfl rfl rfl rfl⟩, ht.eq rfl rfl, ⟨hv.eq rfl rfl rfl rfl rfl, hN, h3⟩, hf.eq rfl rfl, ⟨ed, hp.eq rfl rfl rfl rfl rfl rfl, by omega⟩, hA.eq rfl rfl rfl rfl rfl rfl rfl, hW.eq rfl rfl rfl rfl rfl rfl⟩⟩, hz2, fun p hp => fr2 p (by omega)⟩
