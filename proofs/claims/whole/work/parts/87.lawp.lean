/-! find, freeze, edges, view: printed by wip/specs/lawp.py -/
section FD
variable {org : Nat → Option Nat} {srt : Nat → Nat} {bt : Nat → List Nat} {v : Nat} {tn mp : Nat → Nat} {kk : Nat → List Nat} {n : Nat → Nat} {tp : List Nat}
theorem fd_ex (org : Nat → Option Nat) (srt : Nat → Nat) (bt : Nat → List Nat) (v : Nat) (tn mp : Nat → Nat) (kk : Nat → List Nat) (n : Nat → Nat) (tp : List Nat) (x : Nat) : ∃ o, d_fd org srt bt v tn mp kk n tp x o := by
  match x with
  | 0 => exact d_nr_ex (fun xs => v_in org srt bt v xs = true ∧ d_cd (tn v) 0 1 (some tp) xs) (tn v) 0 kk (64 * mp v) (n (mp v))
  | 1 => exact d_nr_ex (fun xs => v_in org srt bt v xs = true ∧ d_cd (tn v) 0 0 (some tp) xs) (tn v) 0 kk (64 * mp v) (n (mp v))
  | 2 => exact d_nr_ex (fun xs => v_in org srt bt v xs = true ∧ d_cd (tn v) 1 1 (some tp) xs) (tn v) 1 kk (64 * mp v) (n (mp v))
  | 3 => exact d_nr_ex (fun xs => v_in org srt bt v xs = true ∧ d_cd (tn v) 1 0 (some tp) xs) (tn v) 1 kk (64 * mp v) (n (mp v))
  | 4 => exact d_nr_ex (fun xs => v_in org srt bt v xs = true ∧ d_cd (tn v) 1 1 none xs) (tn v) 1 kk (64 * mp v) (n (mp v))
  | 5 => exact d_nr_ex (fun xs => v_in org srt bt v xs = true ∧ d_cd (tn v) 0 1 none xs) (tn v) 0 kk (64 * mp v) (n (mp v))
  | x + 6 => exact d_lg_ex (fun xs => v_in org srt bt v xs = true ∧ t_lcp tp xs = xs.length) kk (64 * mp v) (n (mp v))
theorem fd_two {x r : Nat} (h1 : d_fd org srt bt v tn mp kk n tp x none) (h2 : d_fd org srt bt v tn mp kk n tp x (some r)) : False := by
  match x, h1, h2 with
  | 0, h1, h2 => exact d_nr_two (ok := (fun xs => v_in org srt bt v xs = true ∧ d_cd (tn v) 0 1 (some tp) xs)) (tn := tn v) (bh := 0) (kk := kk) (lo := 64 * mp v) (n := n (mp v)) h1 h2
  | 1, h1, h2 => exact d_nr_two (ok := (fun xs => v_in org srt bt v xs = true ∧ d_cd (tn v) 0 0 (some tp) xs)) (tn := tn v) (bh := 0) (kk := kk) (lo := 64 * mp v) (n := n (mp v)) h1 h2
  | 2, h1, h2 => exact d_nr_two (ok := (fun xs => v_in org srt bt v xs = true ∧ d_cd (tn v) 1 1 (some tp) xs)) (tn := tn v) (bh := 1) (kk := kk) (lo := 64 * mp v) (n := n (mp v)) h1 h2
  | 3, h1, h2 => exact d_nr_two (ok := (fun xs => v_in org srt bt v xs = true ∧ d_cd (tn v) 1 0 (some tp) xs)) (tn := tn v) (bh := 1) (kk := kk) (lo := 64 * mp v) (n := n (mp v)) h1 h2
  | 4, h1, h2 => exact d_nr_two (ok := (fun xs => v_in org srt bt v xs = true ∧ d_cd (tn v) 1 1 none xs)) (tn := tn v) (bh := 1) (kk := kk) (lo := 64 * mp v) (n := n (mp v)) h1 h2
  | 5, h1, h2 => exact d_nr_two (ok := (fun xs => v_in org srt bt v xs = true ∧ d_cd (tn v) 0 1 none xs)) (tn := tn v) (bh := 0) (kk := kk) (lo := 64 * mp v) (n := n (mp v)) h1 h2
  | x + 6, h1, h2 => exact d_lg_two (ok := (fun xs => v_in org srt bt v xs = true ∧ t_lcp tp xs = xs.length)) (kk := kk) (lo := 64 * mp v) (n := n (mp v)) h1 h2
end FD
theorem fz_K {org : Nat → Option Nat} {srt : Nat → Nat} {bt : Nat → List Nat} {k n : Nat} {ks ks1 : Nat → List Nat} {vs : Nat → Int32} {kk : Nat → List Nat} {f6 : Nat → Int32} {lo f0 t0 : Nat} (hM : mR n ks vs kk f6 lo) (hS : mS n ks) (hV : v_ms org srt bt k n ks f0 t0) (h1 : ∀ j, j < t0 - f0 → ks1 j = ks (f0 + j)) : d_K org srt bt k lo kk n = kS ks1 (t0 - f0) := by
  funext u
  refine propext ⟨?_, ?_⟩
  · rintro ⟨j, j1, j2, j3⟩
    obtain ⟨i, i1, i2, _⟩ := hM.1 j j1
    have h9 := (hV.iff hS i1).mp (by rw [← i2]; exact j2)
    refine ⟨i - f0, by omega, ?_⟩
    rw [h1 _ (by omega), show f0 + (i - f0) = i by omega, ← i2, j3]
  · rintro ⟨i, i1, i2⟩
    have h2 := hV.2.1
    obtain ⟨j, j1, j2, _⟩ := hM.2.1 (f0 + i) (by omega)
    have e : kk (lo + j) = u := by rw [j2, ← h1 i i1, i2]
    refine ⟨j, j1, ?_, e⟩
    rw [j2]
    exact (hV.iff hS (by omega)).mpr ⟨by omega, by omega⟩
theorem fz_S {org : Nat → Option Nat} {srt : Nat → Nat} {bt : Nat → List Nat} {k n : Nat} {ks ks1 : Nat → List Nat} {f0 t0 : Nat} (hS : mS n ks) (hV : v_ms org srt bt k n ks f0 t0) (h1 : ∀ j, j < t0 - f0 → ks1 j = ks (f0 + j)) : mS (t0 - f0) ks1 := by
  intro i j hij hj
  have := hV.2.1
  rw [h1 i (by omega), h1 j hj]
  exact hS _ _ (by omega) (by omega)
theorem mR.t16 {n : Nat} {ks : Nat → List Nat} {vs : Nat → Int32} {kk : Nat → List Nat} {ar : Nat → Nat → Int32} {m : Nat} (hM : mR n ks vs kk (ar 6) (64 * m)) (hm : m < 3) (hn : n ≤ 64) (hk : pK ar kk) {j : Nat} (hj : j < n) : t16 (ks j) ∧ (ks j).length ≤ 8 := by
  obtain ⟨i, i1, i2, _⟩ := hM.2.1 j hj
  have h9 := hk (64 * m + i) (by omega)
  rw [i2] at h9
  exact ⟨h9.2.2.2, h9.2.2.1⟩
def fanL : Nat → Nat
  | 0 => 0
  | 1 => 0
  | 2 => 5
  | 3 => 17
  | _ => 49
def fanM : Nat → Nat
  | 0 => 256
  | 1 => 4
  | 2 => 16
  | 3 => 48
  | _ => 256
theorem fan_cl {x : Nat} (hx : x ≤ 4) : ∀ f, 1 ≤ f → f ≤ 64 → ((fanL x ≤ f ∧ f ≤ fanM x) ↔ d_cl x f = true) := by
  intro f h1 h2
  have h3 : x = 0 ∨ x = 1 ∨ x = 2 ∨ x = 3 ∨ x = 4 := by omega
  rcases h3 with e | e | e | e | e <;> subst e <;> simp only [fanL, fanM, d_cl, decide_eq_true_eq] <;> omega
theorem fan_lt (x : Nat) : fanL x < 2 ^ 31 ∧ fanM x < 2 ^ 31 := by
  constructor
  · unfold fanL
    split <;> omega
  · unfold fanM
    split <;> omega
theorem v_in_up {org org1 : Nat → Option Nat} {srt srt1 : Nat → Nat} {bt bt1 : Nat → List Nat} {xs : List Nat} : ∀ (f k : Nat), (∀ a, a ≤ k → org1 a = org a ∧ srt1 a = srt a ∧ bt1 a = bt a) → (∀ a, a ≤ k → ∀ b, org a = some b → b < a) → v_adm org1 srt1 bt1 xs f k = v_adm org srt bt xs f k
  | 0, _, _, _ => rfl
  | f + 1, k, h, ho => by
    have h9 := h k (Nat.le_refl _)
    show (v_ok (srt1 k) (bt1 k) xs && (match org1 k with | none => true | some j => v_adm org1 srt1 bt1 xs f j)) = (v_ok (srt k) (bt k) xs && (match org k with | none => true | some j => v_adm org srt bt xs f j))
    rw [h9.1, h9.2.1, h9.2.2]
    cases e : org k with
    | none => rfl
    | some j =>
      have hj := ho k (Nat.le_refl _) j e
      show (_ && v_adm org1 srt1 bt1 xs f j) = (_ && v_adm org srt bt xs f j)
      rw [v_in_up f j (fun a ha => h a (by omega)) (fun a ha => ho a (by omega))]

set_option maxHeartbeats 4000000 in
theorem l_find (l : Launch) (D : va_G) (q : Nat → ClassId) (b z1 z2 : Nat) (F1 F2 : Nat → Int32) (T : Nat) (x0 : Int32) (H : Heap) (hJ : lJ D q b z1 z2 F1 F2 T x0 H) (htr : ∀ e, l.admits e → e.platform.stackTraces = false) (xq : Nat → ClassId) (v : Int32) (x : Int32) : gC l y_Law_find (Cond.codeWith y_Law_find b_Law_find 5 (some .int) hh_Law_find :: gWS) (gR 10 200 5 22) D CL (gY q) (lE b z1 z2 F1 F2 xq) [.ref b, .int v, .int x, .ref (b + 588)] H (lX l D q b z1 z2 F1 F2 T y_Model_find (Cond.code y_Model_find b_Model_find 4 (some .int) :: gWS) [.int v, .int x] H) 5 22 (fun p => b ≤ p) := by
  obtain ⟨c0, ad, org, srt, bt, tn, mp, wk, n, ks, vs, chg, tp, ud, tl, an, aks, aus, xs, us, so, w, ar, G, hQ, hx0, hP⟩ := hJ
  have ha := hQ.1
  have hR := hQ.2.1
  obtain ⟨⟨kk, hG⟩, ht, ⟨hv, hN, h3⟩, hf, ⟨ed, hp, he⟩, hA, hW⟩ := hP
  have h12 : c0 ≤ 12 := hv.2.2.1
  have hmS : ∀ m, m < 3 → mS (n m) (ks m) := fun m hm => (ha.2.2.2.2.2.2.1 m hm).2
  by_cases hok : h_ok c0 v
  · obtain ⟨k, hk, rfl⟩ := h_okN (by omega) hok
    have hm3 : mp k < 3 := (hN k hk).1
    by_cases hx : ¬ x < 0 ∧ x ≤ nI 6
    · obtain ⟨h, hh6, rfl⟩ := ix_le (by decide) hx
      obtain ⟨o, ho⟩ := fd_ex org srt bt k tn mp kk n tp h
      rcases o with _ | g0
      · refine gC.up (w_find_t3 l D q H b (b + 588) _ ha.1 G hQ.2.2.1 (nI k) (nI h) _ _ _ _ _ b xq _ (t_Hall_find3 l D q H b c0 ad org srt bt tn mp wk n ks vs chg tp ud tl an aks aus xs us so ha htr xq k hk h hh6 (fun f0 t0 rk hV hrk => by rcases fd_ans (hmS _ hm3) (hG.2.2.1 _ hm3) (hG.2.1 _ hm3).2.1 hV ho with ⟨_, e⟩ | ⟨g, e, _⟩; exact e rk hrk; cases e))) (by decide) (by decide) (by decide) (by decide) (fun _ _ h => h.1) ?_ (fun p hp => hp.elim (fun h => h) (fun h => by omega))
        rintro r0 H1 ⟨rfl, h1, hz, fr⟩
        obtain ⟨hQ1, ho1, fb⟩ := lQ.hall hQ h1 (by omega) (fun k k1 k2 => Or.inl ⟨k2, rfl⟩) fr
        refine ⟨2, G, by decide, rfl, hQ1.2.2.1, by omega, fb, ⟨_, hQ1.2.1.1⟩, ?_⟩
        refine gC.up (c_Model_find l D q H1 (b + 559) w ar hQ1.2.1 c0 org srt bt tn mp hv hN kk hG.1 n chg hG.2.1 tp ht k hk h hh6) (by decide) (by decide) (by decide) (by decide) (fun _ _ _ => trivial) ?_ (fun p hp => by omega)
        rintro r1 H3 ⟨(⟨h9, rfl, h2⟩ | ⟨g, F, h9, _⟩), hz2, fr2⟩
        · exact ⟨_, rfl, fun h => absurd h (by decide), fr2 _ (by omega), ⟨_, _, _, _, _, _, _, _, _, _, _, _, _, _, _, _, _, _, _, _, _, _, _, _, hQ1.model h2 hz2 fr2, rfl, ⟨⟨kk, hG.eq (by omega) rfl rfl rfl rfl rfl⟩, pT.nil rfl, ⟨hv.eq rfl rfl rfl rfl rfl, hN, h3⟩, hf.eq rfl rfl, ⟨ed, hp.eq rfl rfl rfl rfl rfl rfl, by omega⟩, hA.eq rfl rfl rfl rfl rfl rfl rfl, hW.eq rfl rfl rfl rfl rfl rfl⟩⟩, hz2, fun p hp => fr2 p (by omega)⟩
        · exact (fd_two ho h9).elim
      · refine gC.up (w_find l D q H b (b + 588) _ ha.1 G hQ.2.2.1 (nI k) (nI h) _ _ _ _ _ (fun _ => True) gBlind.tt (fun _ _ _ _ _ _ => trivial) _ ?_ (c_Hall_find l D q H b c0 ad org srt bt tn mp wk n ks vs chg tp ud tl an aks aus xs us so ha k hk h hh6 (fun f0 t0 rk hV hrk => by rcases fd_ans (hmS _ hm3) (hG.2.2.1 _ hm3) (hG.2.1 _ hm3).2.1 hV ho with ⟨e, _⟩ | ⟨g, _, e, _⟩; cases e; exact e rk hrk))) (by decide) (by decide) (by decide) (by decide) (fun _ _ _ => trivial) ?_ (fun p hp => hp.elim (fun h => h) (fun h => by omega))
        · rintro v0 H1 ⟨f0, t0, rr, hV, hrk, hrr, rfl, h1, hz, fr⟩
          exact ⟨_, rfl, (lQ.hall hQ h1 (by omega) (fun k k1 k2 => Or.inl ⟨k2, rfl⟩) fr).2.1⟩
        rintro r0 H2 ⟨zz, H1, ⟨f0, t0, rr, hV, hrk, hrr, hval, h1, hz, fr⟩, rfl, ho2, z2e, o2⟩
        injection hval with hval
        injection hval with hval
        subst hval
        obtain ⟨hQ1, ho1, fb⟩ := lQ.hall hQ h1 (by omega) (fun k k1 k2 => Or.inl ⟨k2, rfl⟩) fr
        have hQ2 := hQ1.out ho2 z2e o2
        refine ⟨0, _, Nat.zero_le _, rfl, ho2, by omega, fun p hp => (o2 p (by omega)).trans (fb p hp), ⟨_, hQ2.2.1.1⟩, ?_⟩
        refine gC.up (c_Model_find l D q H2 (b + 559) w ar hQ2.2.1 c0 org srt bt tn mp hv hN kk hG.1 n chg hG.2.1 tp ht k hk h hh6) (by decide) (by decide) (by decide) (by decide) (fun _ _ _ => trivial) ?_ (fun p hp => by omega)
        rintro r1 H3 ⟨(⟨h9, _⟩ | ⟨g, F, h9, rfl, hF, h2⟩), hz2, fr2⟩
        · exact (fd_two h9 ho).elim
        rcases fd_ans (hmS _ hm3) (hG.2.2.1 _ hm3) (hG.2.1 _ hm3).2.1 hV h9 with ⟨e, _⟩ | ⟨g1, e, _, e3⟩
        · cases e
        injection e with e
        subst e
        obtain ⟨e1, e2⟩ := e3 rr hrr hrk
        exact ⟨_, rfl, fun _ => (vp_at0 _ _).trans (by rw [e2]; rfl), fr2 _ (by omega), ⟨_, _, _, _, _, _, _, _, _, _, _, _, _, _, _, _, _, _, _, _, _, _, _, _, hQ2.model h2 hz2 fr2, rfl, ⟨⟨kk, hG.eq (by omega) rfl rfl rfl rfl rfl⟩, pT.nil rfl, ⟨hv.eq rfl rfl rfl rfl rfl, hN, h3⟩, pF.new h1.2.2.2.2.2.2.2.2.2.2.1 e1 rfl hF, ⟨ed, hp.eq rfl rfl rfl rfl rfl rfl, by omega⟩, hA.eq rfl rfl rfl rfl rfl rfl rfl, hW.eq rfl rfl rfl rfl rfl rfl⟩⟩, hz2, fun p hp => fr2 p (by omega)⟩
    · refine gC.up (w_find_t0 l D q H b (b + 588) _ ha.1 G hQ.2.2.1 (nI k) x _ _ _ _ _ b xq _ (t_Hall_find0 l D q H b c0 ad org srt bt tn mp wk n ks vs chg tp ud tl an aks aus xs us so ha htr xq k hk x hx)) (by decide) (by decide) (by decide) (by decide) (fun _ _ h => h.1) ?_ (fun p hp => hp.elim (fun h => h) (fun h => by omega))
      rintro r0 H1 ⟨rfl, h1, hz, fr⟩
      obtain ⟨hQ1, ho1, fb⟩ := lQ.hall hQ h1 (by omega) (fun k k1 k2 => Or.inl ⟨k2, rfl⟩) fr
      refine ⟨1, G, by decide, rfl, hQ1.2.2.1, by omega, fb, ⟨_, hQ1.2.1.1⟩, ?_⟩
      refine gC.up (c_Model_findV l D q H1 (b + 559) w ar hQ1.2.1 c0 hv.1 (nI k) x (fun h9 => hx h9.2)) (by decide) (by decide) (by decide) (by decide) (fun _ _ _ => trivial) ?_ (fun p hp => by omega)
      rintro r1 H3 ⟨rfl, h2, hz2, fr2⟩
      exact ⟨_, rfl, fun h => absurd h (by decide), fr2 _ (by omega), ⟨_, _, _, _, _, _, _, _, _, _, _, _, _, _, _, _, _, _, _, _, _, _, _, _, hQ1.model h2 hz2 fr2, rfl, ⟨⟨kk, hG.eq (by omega) rfl rfl rfl rfl rfl⟩, ht.eq rfl rfl, ⟨hv.eq rfl rfl rfl rfl rfl, hN, h3⟩, hf.eq rfl rfl, ⟨ed, hp.eq rfl rfl rfl rfl rfl rfl, by omega⟩, hA.eq rfl rfl rfl rfl rfl rfl rfl, hW.eq rfl rfl rfl rfl rfl rfl⟩⟩, hz2, fun p hp => fr2 p (by omega)⟩
  · refine gC.up (w_find_t0 l D q H b (b + 588) _ ha.1 G hQ.2.2.1 v x _ _ _ _ _ b xq _ (t_Hall_findV l D q H b c0 ad org srt bt tn mp wk n ks vs chg tp ud tl an aks aus xs us so ha htr xq v hok x)) (by decide) (by decide) (by decide) (by decide) (fun _ _ h => h.1) ?_ (fun p hp => hp.elim (fun h => h) (fun h => by omega))
    rintro r0 H1 ⟨rfl, h1, hz, fr⟩
    obtain ⟨hQ1, ho1, fb⟩ := lQ.hall hQ h1 (by omega) (fun k k1 k2 => Or.inl ⟨k2, rfl⟩) fr
    refine ⟨1, G, by decide, rfl, hQ1.2.2.1, by omega, fb, ⟨_, hQ1.2.1.1⟩, ?_⟩
    refine gC.up (c_Model_findV l D q H1 (b + 559) w ar hQ1.2.1 c0 hv.1 v x (fun h9 => hok h9.1)) (by decide) (by decide) (by decide) (by decide) (fun _ _ _ => trivial) ?_ (fun p hp => by omega)
    rintro r1 H3 ⟨rfl, h2, hz2, fr2⟩
    exact ⟨_, rfl, fun h => absurd h (by decide), fr2 _ (by omega), ⟨_, _, _, _, _, _, _, _, _, _, _, _, _, _, _, _, _, _, _, _, _, _, _, _, hQ1.model h2 hz2 fr2, rfl, ⟨⟨kk, hG.eq (by omega) rfl rfl rfl rfl rfl⟩, ht.eq rfl rfl, ⟨hv.eq rfl rfl rfl rfl rfl, hN, h3⟩, hf.eq rfl rfl, ⟨ed, hp.eq rfl rfl rfl rfl rfl rfl, by omega⟩, hA.eq rfl rfl rfl rfl rfl rfl rfl, hW.eq rfl rfl rfl rfl rfl rfl⟩⟩, hz2, fun p hp => fr2 p (by omega)⟩

set_option maxHeartbeats 4000000 in
theorem l_freeze (l : Launch) (D : va_G) (q : Nat → ClassId) (b z1 z2 : Nat) (F1 F2 : Nat → Int32) (T : Nat) (x0 : Int32) (H : Heap) (hJ : lJ D q b z1 z2 F1 F2 T x0 H) (htr : ∀ e, l.admits e → e.platform.stackTraces = false) (xq : Nat → ClassId) (v : Int32) : gC l y_Law_freeze (Cond.codeWith y_Law_freeze b_Law_freeze 4 (some .int) hh_Law_freeze :: gWS) (gR 10 200 5 22) D CL (gY q) (lE b z1 z2 F1 F2 xq) [.ref b, .int v, .ref (b + 588)] H (lX l D q b z1 z2 F1 F2 T y_Model_freeze (Cond.code y_Model_freeze b_Model_freeze 5 (some .int) :: gWS) [.int v] H) 5 22 (fun p => b ≤ p) := by
  obtain ⟨c0, ad, org, srt, bt, tn, mp, wk, n, ks, vs, chg, tp, ud, tl, an, aks, aus, xs, us, so, w, ar, G, hQ, hx0, hP⟩ := hJ
  have ha := hQ.1
  have hR := hQ.2.1
  obtain ⟨⟨kk, hG⟩, ht, ⟨hv, hN, h3⟩, hf, ⟨ed, hp, he⟩, hA, hW⟩ := hP
  have h12 : c0 ≤ 12 := hv.2.2.1
  have hmS : ∀ m, m < 3 → mS (n m) (ks m) := fun m hm => (ha.2.2.2.2.2.2.1 m hm).2
  by_cases hok : h_ok c0 v
  · obtain ⟨k, hk, rfl⟩ := h_okN (by omega) hok
    have hm3 : mp k < 3 := (hN k hk).1
    refine gC.up (w_freeze l D q H b (b + 588) _ ha.1 G hQ.2.2.1 (nI k) _ _ _ _ _ (fun _ => True) gBlind.tt (fun _ _ _ _ _ _ => trivial) _ ?_ (c_Hall_freeze l D q H b c0 ad org srt bt tn mp wk n ks vs chg tp ud tl an aks aus xs us so ha k hk)) (by decide) (by decide) (by decide) (by decide) (fun _ _ _ => trivial) ?_ (fun p hp => hp.elim (fun h => h) (fun h => by omega))
    · rintro v0 H1 ⟨f0, t0, ks1, us1, hV, hks, rfl, h1, hz, fr⟩
      exact ⟨_, rfl, (lQ.hall hQ h1 (by omega) (fun k k1 k2 => Or.inl ⟨k2, rfl⟩) fr).2.1⟩
    rintro r0 H2 ⟨zz, H1, ⟨f0, t0, ks1, us1, hV, hks, hval, h1, hz, fr⟩, rfl, ho2, z2e, o2⟩
    injection hval with hval
    injection hval with hval
    subst hval
    obtain ⟨hQ1, ho1, fb⟩ := lQ.hall hQ h1 (by omega) (fun k k1 k2 => Or.inl ⟨k2, rfl⟩) fr
    have hQ2 := hQ1.out ho2 z2e o2
    refine ⟨0, _, Nat.zero_le _, rfl, ho2, by omega, fun p hp => (o2 p (by omega)).trans (fb p hp), ⟨_, hQ2.2.1.1⟩, ?_⟩
    refine gC.up (c_Model_freeze l D q H2 (b + 559) w ar hQ2.2.1 c0 org srt bt tn mp hv hN kk hG.1 n chg hG.2.1 k hk) (by decide) (by decide) (by decide) (by decide) (fun _ _ _ => trivial) ?_ (fun p hp => by omega)
    rintro r1 H3 ⟨pn, pg, pl, sN, tN, st, rp, sq, Fz, Gz, A1, A2, A3, A4, A5, ⟨rfl, hps, haI, hsI, hpn⟩, h2, hz2, fr2⟩
    rw [fz_K (hG.2.2.1 _ hm3) (hmS _ hm3) hV hks] at hps haI
    have hsN := v_cnt_room (m := pn) rp (t := sN) (p := fun _ => false) (fun s hs => ⟨(haI.1 s hs).1, Bool.false_ne_true⟩) (fun i j hi hj e => haI.2.2.1 i j hi hj (by rw [e]; exact k_eq.refl _ _))
    have hzS := fz_S (hmS _ hm3) hV hks
    have hz16 : ∀ i, i < t0 - f0 → t16 (ks1 i) := fun i hi => by rw [hks i hi]; exact ((hG.2.2.1 _ hm3).t16 hm3 (hG.2.1 _ hm3).2.1 hG.1 (by have := hV.2.1; omega)).1
    have hpa := am_pA (w := upd (upd (upd (upd (upd w 0 (nI 0)) 22 (nI pn)) 26 (nI sN)) 27 (nI tN)) 28 st) (ar := va_up (va_up (va_up (va_up (va_up (va_up (va_up ar 19 Fz) 20 Gz) 21 A1) 22 A2) 23 A3) 24 A4) 25 A5) hps haI hsI hpn (by omega) rfl rfl rfl
    exact ⟨_, rfl, fun _ => (vp_at0 _ _).trans (by rw [(au_ans hzS hz16 h1.2.2.2.2.2.2.2.2.2.2.2.1.2.2.2.2 hpa.1 hpa.2).1]), fr2 _ (by omega), ⟨_, _, _, _, _, _, _, _, _, _, _, _, _, _, _, _, _, _, _, _, _, _, _, _, hQ2.model h2 hz2 fr2, rfl, ⟨⟨kk, hG.eq (by omega) rfl rfl rfl rfl rfl⟩, ht.eq rfl rfl, ⟨hv.eq rfl rfl rfl rfl rfl, hN, h3⟩, hf.eq rfl rfl, ⟨ed, hp.eq rfl rfl rfl rfl rfl rfl, by omega⟩, ⟨hzS, hz16, sN, tN, _, hpa.1, hpa.2⟩, hW.eq rfl rfl rfl rfl rfl rfl⟩⟩, hz2, fun p hp => fr2 p (by omega)⟩
  · refine gC.up (w_freeze_t0 l D q H b (b + 588) _ ha.1 G hQ.2.2.1 v _ _ _ _ _ b xq _ (t_Hall_freezeV l D q H b c0 ad org srt bt tn mp wk n ks vs chg tp ud tl an aks aus xs us so ha htr xq v hok)) (by decide) (by decide) (by decide) (by decide) (fun _ _ h => h.1) ?_ (fun p hp => hp.elim (fun h => h) (fun h => by omega))
    rintro r0 H1 ⟨rfl, h1, hz, fr⟩
    obtain ⟨hQ1, ho1, fb⟩ := lQ.hall hQ h1 (by omega) (fun k k1 k2 => Or.inl ⟨k2, rfl⟩) fr
    refine ⟨1, G, by decide, rfl, hQ1.2.2.1, by omega, fb, ⟨_, hQ1.2.1.1⟩, ?_⟩
    refine gC.up (c_Model_freezeV l D q H1 (b + 559) w ar hQ1.2.1 c0 hv.1 v hok) (by decide) (by decide) (by decide) (by decide) (fun _ _ _ => trivial) ?_ (fun p hp => by omega)
    rintro r1 H3 ⟨rfl, h2, hz2, fr2⟩
    exact ⟨_, rfl, fun h => absurd h (by decide), fr2 _ (by omega), ⟨_, _, _, _, _, _, _, _, _, _, _, _, _, _, _, _, _, _, _, _, _, _, _, _, hQ1.model h2 hz2 fr2, rfl, ⟨⟨kk, hG.eq (by omega) rfl rfl rfl rfl rfl⟩, ht.eq rfl rfl, ⟨hv.eq rfl rfl rfl rfl rfl, hN, h3⟩, hf.eq rfl rfl, ⟨ed, hp.eq rfl rfl rfl rfl rfl rfl, by omega⟩, hA.eq rfl rfl rfl rfl rfl rfl rfl, hW.eq rfl rfl rfl rfl rfl rfl⟩⟩, hz2, fun p hp => fr2 p (by omega)⟩
