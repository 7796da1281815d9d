/-! poll, next: printed by wip/specs/lawt.py -/
theorem v_least (P : Nat → Prop) (m : Nat) : ∃ f, f ≤ m ∧ (∀ i, i < f → ¬ P i) ∧ (f < m → P f) := by
  induction m with
  | zero => exact ⟨0, Nat.le_refl _, fun i h => absurd h (Nat.not_lt_zero _), fun h => absurd h (Nat.lt_irrefl _)⟩
  | succ m ih =>
    obtain ⟨f, h1, h2, h3⟩ := ih
    by_cases hf : f < m
    · exact ⟨f, by omega, h2, fun _ => h3 hf⟩
    · have e : f = m := by omega
      subst e
      by_cases hP : P f
      · exact ⟨f, by omega, h2, fun _ => hP⟩
      · refine ⟨f + 1, Nat.le_refl _, fun i hi => ?_, fun h => absurd h (Nat.lt_irrefl _)⟩
        rcases Nat.lt_or_ge i f with h9 | h9
        · exact h2 i h9
        · rw [show i = f by omega]; exact hP
theorem v_ms_ex (org : Nat → Option Nat) (srt : Nat → Nat) (bt : Nat → List Nat) (k n : Nat) (ks : Nat → List Nat) : ∃ f0 t0, v_ms org srt bt k n ks f0 t0 := by
  obtain ⟨t0, h1, h2, h3⟩ := sf_least (fun j => ¬ v_in org srt bt k (ks j) = true) n
  obtain ⟨f0, h4, h5, h6⟩ := v_least (fun j => v_in org srt bt k (ks j) = true) t0
  exact ⟨f0, t0, h4, h1, h5, fun j hj hn => h2 j hj hn, h6, fun h => Classical.byContradiction (h3 (by omega))⟩
theorem st_iff {a b c : Int32} {u1 u4 g : Nat} (h1 : a = nI u1) (h2 : u1 ≤ 1) (h3 : b = nI u4) (h4 : u4 ≤ g) (h5 : c = nI g) (hg : g < 2 ^ 31) : (a = 0 ∨ b ≠ c) ↔ ¬ (u1 ≠ 0 ∧ g = u4) := by
  subst h1 h3 h5
  have e1 : nI u1 = 0 ↔ u1 = 0 := ⟨fun h => by have h9 := congrArg Int32.toInt h; rw [nI_toInt (by omega), show (0 : Int32).toInt = 0 from rfl] at h9; omega, fun h => by rw [h]; rfl⟩
  have e2 : nI u4 = nI g ↔ u4 = g := ⟨fun h => by have h9 := congrArg Int32.toInt h; rw [nI_toInt (by omega), nI_toInt (by omega)] at h9; omega, fun h => by rw [h]⟩
  rw [e1, Ne, e2]
  omega
theorem wk_next {ar : Nat → Nat → Int32} {org : Nat → Option Nat} {srt : Nat → Nat} {bt : Nat → List Nat} {k tn n lo f0 t0 : Nat} {u : Nat × Nat × Nat × Nat} {ks : Nat → List Nat} {vs : Nat → Int32} {kk : Nat → List Nat} {f6 : Nat → Int32} {o : Option Nat} {la : List Nat} (hS : mS n ks) (hM : mR n ks vs kk f6 lo) (hV : v_ms org srt bt k n ks f0 t0) (hw : (ar 12 k = 0 ∧ u.2.1 = 0) ∨ (¬ ar 12 k = 0 ∧ lWt ar (v_in org srt bt k) tn u n ks k la))
    (h : (ar 12 k = 0 ∧ d_nr (fun xs => v_in org srt bt k xs = true ∧ d_cd tn 1 1 none xs) tn 1 kk lo n o) ∨ (¬ ar 12 k = 0 ∧ d_nr (fun xs => v_in org srt bt k xs = true ∧ d_cd tn 1 0 (some la) xs) tn 1 kk lo n o)) : (o = none ∧ t0 - f0 ≤ u.2.1) ∨ ∃ g, o = some g ∧ u.2.1 < t0 - f0 ∧ kk g = ks (v_pl tn f0 t0 u.2.1) ∧ f6 g = vs (v_pl tn f0 t0 u.2.1) := by
  rcases hw with ⟨w1, w2⟩ | ⟨w1, w2⟩
  · rcases h with ⟨_, h⟩ | ⟨h, _⟩
    · rw [w2]
      rcases fd_first hS hM hV h with ⟨a, b⟩ | ⟨g, a, b, c⟩
      · exact Or.inl ⟨a, by omega⟩
      · exact Or.inr ⟨g, a, b, c⟩
    · exact absurd w1 h
  · rcases h with ⟨h, _⟩ | ⟨_, h⟩
    · exact absurd h w1
    · have e : u.2.1 = v_cnt (v_bef tn 1 ks la) f0 (t0 - f0) := by
        rw [w2.2.2.2.2.1]
        refine v_cnt_mid hV.1 hV.2.1 (fun j hj => ?_)
        rw [Bool.and_eq_true, decide_eq_true_eq, hV.iff hS hj]
        unfold v_bef
        rw [decide_eq_true_eq, v_o_s]
        omega
      rw [e]
      exact fd_behind hS hM hV (sm := 0) (s1 := 1) (Or.inr ⟨rfl, by decide⟩) h
theorem wk_told {org : Nat → Option Nat} {srt : Nat → Nat} {bt : Nat → List Nat} {k tn n f0 t0 C : Nat} {ks : Nat → List Nat} (hS : mS n ks) (hV : v_ms org srt bt k n ks f0 t0) (hC : C < t0 - f0) : C + 1 = v_cnt (fun j => v_in org srt bt k (ks j) && decide (d_s tn (ks j) (ks (v_pl tn f0 t0 C)) ≤ 0)) 0 n := by
  rw [← bef_self hS hV.2.1 (tn := tn) hC]
  refine Eq.symm (v_cnt_mid hV.1 hV.2.1 (fun j hj => ?_))
  rw [Bool.and_eq_true, decide_eq_true_eq, hV.iff hS hj]
  unfold v_bef
  rw [decide_eq_true_eq, v_o_s]
  omega

set_option maxHeartbeats 4000000 in
theorem l_poll (l : Launch) (D : va_G) (q : Nat → ClassId) (b z1 z2 : Nat) (F1 F2 : Nat → Int32) (T : Nat) (x0 : Int32) (H : Heap) (hJ : lJ D q b z1 z2 F1 F2 T x0 H) (htr : ∀ e, l.admits e → e.platform.stackTraces = false) (xq : Nat → ClassId) (v : Int32) (e0 : Nat) (he0 : e0 ≤ 1) : gC l y_Law_poll (Cond.codeWith y_Law_poll b_Law_poll 5 (some .int) hh_Law_poll :: gWS) (gR 10 200 5 22) D CL (gY q) (lE b z1 z2 F1 F2 xq) [.ref b, .int v, .int (nI e0), .ref (b + 588)] H (lX l D q b z1 z2 F1 F2 T y_Model_poll (Cond.code y_Model_poll b_Model_poll 5 (some .int) :: gWS) [.int v, .int (nI e0)] H) 5 22 (fun p => b ≤ p) := by
  obtain ⟨c0, ad, org, srt, bt, tn, mp, wk, n, ks, vs, chg, tp, ud, tl, an, aks, aus, xs, us, so, w, ar, G, hQ, hx0, hP⟩ := hJ
  have ha := hQ.1
  have hR := hQ.2.1
  obtain ⟨⟨kk, hG⟩, ht, ⟨hv, hN, h3⟩, hf, ⟨ed, hp, he⟩, hA, hW⟩ := hP
  have h12 : c0 ≤ 12 := hv.2.2.1
  have hmS : ∀ m, m < 3 → mS (n m) (ks m) := fun m hm => (ha.2.2.2.2.2.2.1 m hm).2
  by_cases hok : h_ok c0 v
  · obtain ⟨k, hk, rfl⟩ := h_okN (by omega) hok
    have hm3 : mp k < 3 := (hN k hk).1
    have hcn : ∀ f0 t0, v_ms org srt bt k (n (mp k)) (ks (mp k)) f0 t0 → v_cnt (fun j => v_in org srt bt k (kk j)) (64 * mp k) (n (mp k)) = t0 - f0 := fun f0 t0 hV => by rw [(hG.2.2.1 (mp k) hm3).cnt (v_in org srt bt k), hV.cnt (hmS _ hm3)]
    rcases (show e0 = 0 ∨ e0 = 1 by omega) with rfl | rfl
    · by_cases hc0 : v_cnt (fun j => v_in org srt bt k (kk j)) (64 * mp k) (n (mp k)) = 0
      · refine gC.up (w_poll_t3 l D q H b (b + 588) _ ha.1 G hQ.2.2.1 (nI k) (nI 0) _ _ _ _ _ b xq _ (t_Hall_pollF3 l D q H b c0 ad org srt bt tn mp wk n ks vs chg tp ud tl an aks aus xs us so ha htr xq k hk (fun f0 t0 hV => by rw [← hcn f0 t0 hV]; exact hc0))) (by decide) (by decide) (by decide) (by decide) (fun _ _ h => h.1) ?_ (fun p hp => hp.elim (fun h => h) (fun h => by omega))
        rintro r0 H1 ⟨rfl, h1, hz, fr⟩
        obtain ⟨hQ1, ho1, fb⟩ := lQ.hall hQ h1 (by omega) (fun k k1 k2 => Or.inl ⟨k2, rfl⟩) fr
        refine ⟨2, G, by decide, rfl, hQ1.2.2.1, by omega, fb, ⟨_, hQ1.2.1.1⟩, ?_⟩
        refine gC.up (c_Model_poll l D q H1 (b + 559) w ar hQ1.2.1 c0 org srt bt tn mp hv hN kk hG.1 n chg hG.2.1 k hk 0 (by decide)) (by decide) (by decide) (by decide) (by decide) (fun _ _ _ => trivial) ?_ (fun p hp => by omega)
        rintro r1 H3 ⟨(⟨h9, rfl, h2⟩ | ⟨r0, F, Gx, h9, _⟩), hz2, fr2⟩
        · exact ⟨_, rfl, fun h => absurd h (by decide), fr2 _ (by omega), ⟨_, _, _, _, _, _, _, _, _, _, _, _, _, _, _, _, _, _, _, _, _, _, _, _, hQ1.model h2 hz2 fr2, rfl, ⟨⟨kk, hG.eq (by omega) rfl rfl rfl rfl rfl⟩, ht.eq rfl rfl, ⟨hv.eq rfl rfl rfl rfl rfl, hN, h3⟩, hf.eq rfl rfl, ⟨ed, hp.eq rfl rfl rfl rfl rfl rfl, by omega⟩, hA.eq rfl rfl rfl rfl rfl rfl rfl, hW.eq rfl rfl rfl rfl rfl rfl⟩⟩, hz2, fun p hp => fr2 p (by omega)⟩
        · obtain ⟨f0, t0, hV⟩ := v_ms_ex org srt bt k (n (mp k)) (ks (mp k))
          have h7 := hcn f0 t0 hV
          rcases fd_first (hmS _ hm3) (hG.2.2.1 _ hm3) hV h9 with ⟨e, _⟩ | ⟨g, _, e, _⟩
          · cases e
          · omega
      · refine gC.up (w_poll l D q H b (b + 588) _ ha.1 G hQ.2.2.1 (nI k) (nI 0) _ _ _ _ _ (fun _ => True) gBlind.tt (fun _ _ _ _ _ _ => trivial) _ ?_ (c_Hall_pollF l D q H b c0 ad org srt bt tn mp wk n ks vs chg tp ud tl an aks aus xs us so ha k hk (fun f0 t0 hV => by rw [← hcn f0 t0 hV]; exact Nat.pos_of_ne_zero hc0))) (by decide) (by decide) (by decide) (by decide) (fun _ _ _ => trivial) ?_ (fun p hp => hp.elim (fun h => h) (fun h => by omega))
        · rintro v0 H1 ⟨f0, t0, hV, hpos, rfl, h1, hz, fr⟩
          exact ⟨_, rfl, (lQ.hall hQ h1 (by omega) (fun k k1 k2 => Or.inl ⟨k2, rfl⟩) fr).2.1⟩
        rintro r0 H2 ⟨zz, H1, ⟨f0, t0, hV, hpos, hval, h1, hz, fr⟩, rfl, ho2, z2e, o2⟩
        injection hval with hval
        injection hval with hval
        subst hval
        obtain ⟨hQ1, ho1, fb⟩ := lQ.hall hQ h1 (by omega) (fun k k1 k2 => Or.inl ⟨k2, rfl⟩) fr
        have hQ2 := hQ1.out ho2 z2e o2
        refine ⟨0, _, Nat.zero_le _, rfl, ho2, by omega, fun p hp => (o2 p (by omega)).trans (fb p hp), ⟨_, hQ2.2.1.1⟩, ?_⟩
        refine gC.up (c_Model_poll l D q H2 (b + 559) w ar hQ2.2.1 c0 org srt bt tn mp hv hN kk hG.1 n chg hG.2.1 k hk 0 (by decide)) (by decide) (by decide) (by decide) (by decide) (fun _ _ _ => trivial) ?_ (fun p hp => by omega)
        rintro r1 H3 ⟨(⟨h9, _⟩ | ⟨r0, F, Gx, h9, rfl, hF, rfl, h2⟩), hz2, fr2⟩
        · rcases fd_first (hmS _ hm3) (hG.2.2.1 _ hm3) hV h9 with ⟨_, e⟩ | ⟨g, e, _⟩
          · omega
          · cases e
        · have hlt := d_nr.lt h9
          rcases fd_first (hmS _ hm3) (hG.2.2.1 _ hm3) hV h9 with ⟨e, _⟩ | ⟨g, e, e0, e1, e2⟩
          · cases e
          · injection e with e
            subst e
            exact ⟨_, rfl, fun _ => (vp_at0 _ _).trans (by rw [e2]; rfl), fr2 _ (by omega), ⟨_, _, _, _, _, _, _, _, _, _, _, _, _, _, _, _, _, _, _, _, _, _, _, _, hQ2.model h2 hz2 fr2, rfl, ⟨⟨_, hG.cut hm3 (hmS _ hm3) (Nat.lt_of_lt_of_le (v_pl_in' (tn := tn k) (r := 0) (by omega)).2 hV.2.1) hlt e1 _ rfl rfl rfl rfl rfl⟩, ht.eq rfl rfl, ⟨hv.eq rfl rfl rfl rfl rfl, hN, h3⟩, pF.new h1.2.2.2.2.2.2.2.2.2.2.1 e1 rfl hF, ⟨ed, hp.eq rfl rfl rfl rfl rfl rfl, by omega⟩, hA.eq rfl rfl rfl rfl rfl rfl rfl, (hW.chg _ _ _).eq rfl rfl rfl rfl rfl rfl⟩⟩, hz2, fun p hp => fr2 p (by omega)⟩
    · by_cases hc0 : v_cnt (fun j => v_in org srt bt k (kk j)) (64 * mp k) (n (mp k)) = 0
      · refine gC.up (w_poll_t3 l D q H b (b + 588) _ ha.1 G hQ.2.2.1 (nI k) (nI 1) _ _ _ _ _ b xq _ (t_Hall_pollL3 l D q H b c0 ad org srt bt tn mp wk n ks vs chg tp ud tl an aks aus xs us so ha htr xq k hk (fun f0 t0 hV => by rw [← hcn f0 t0 hV]; exact hc0))) (by decide) (by decide) (by decide) (by decide) (fun _ _ h => h.1) ?_ (fun p hp => hp.elim (fun h => h) (fun h => by omega))
        rintro r0 H1 ⟨rfl, h1, hz, fr⟩
        obtain ⟨hQ1, ho1, fb⟩ := lQ.hall hQ h1 (by omega) (fun k k1 k2 => Or.inl ⟨k2, rfl⟩) fr
        refine ⟨2, G, by decide, rfl, hQ1.2.2.1, by omega, fb, ⟨_, hQ1.2.1.1⟩, ?_⟩
        refine gC.up (c_Model_poll l D q H1 (b + 559) w ar hQ1.2.1 c0 org srt bt tn mp hv hN kk hG.1 n chg hG.2.1 k hk 1 (by decide)) (by decide) (by decide) (by decide) (by decide) (fun _ _ _ => trivial) ?_ (fun p hp => by omega)
        rintro r1 H3 ⟨(⟨h9, rfl, h2⟩ | ⟨r0, F, Gx, h9, _⟩), hz2, fr2⟩
        · exact ⟨_, rfl, fun h => absurd h (by decide), fr2 _ (by omega), ⟨_, _, _, _, _, _, _, _, _, _, _, _, _, _, _, _, _, _, _, _, _, _, _, _, hQ1.model h2 hz2 fr2, rfl, ⟨⟨kk, hG.eq (by omega) rfl rfl rfl rfl rfl⟩, ht.eq rfl rfl, ⟨hv.eq rfl rfl rfl rfl rfl, hN, h3⟩, hf.eq rfl rfl, ⟨ed, hp.eq rfl rfl rfl rfl rfl rfl, by omega⟩, hA.eq rfl rfl rfl rfl rfl rfl rfl, hW.eq rfl rfl rfl rfl rfl rfl⟩⟩, hz2, fun p hp => fr2 p (by omega)⟩
        · obtain ⟨f0, t0, hV⟩ := v_ms_ex org srt bt k (n (mp k)) (ks (mp k))
          have h7 := hcn f0 t0 hV
          rcases fd_last (hmS _ hm3) (hG.2.2.1 _ hm3) hV h9 with ⟨e, _⟩ | ⟨g, _, e, _⟩
          · cases e
          · omega
      · refine gC.up (w_poll l D q H b (b + 588) _ ha.1 G hQ.2.2.1 (nI k) (nI 1) _ _ _ _ _ (fun _ => True) gBlind.tt (fun _ _ _ _ _ _ => trivial) _ ?_ (c_Hall_pollL l D q H b c0 ad org srt bt tn mp wk n ks vs chg tp ud tl an aks aus xs us so ha k hk (fun f0 t0 hV => by rw [← hcn f0 t0 hV]; exact Nat.pos_of_ne_zero hc0))) (by decide) (by decide) (by decide) (by decide) (fun _ _ _ => trivial) ?_ (fun p hp => hp.elim (fun h => h) (fun h => by omega))
        · rintro v0 H1 ⟨f0, t0, hV, hpos, rfl, h1, hz, fr⟩
          exact ⟨_, rfl, (lQ.hall hQ h1 (by omega) (fun k k1 k2 => Or.inl ⟨k2, rfl⟩) fr).2.1⟩
        rintro r0 H2 ⟨zz, H1, ⟨f0, t0, hV, hpos, hval, h1, hz, fr⟩, rfl, ho2, z2e, o2⟩
        injection hval with hval
        injection hval with hval
        subst hval
        obtain ⟨hQ1, ho1, fb⟩ := lQ.hall hQ h1 (by omega) (fun k k1 k2 => Or.inl ⟨k2, rfl⟩) fr
        have hQ2 := hQ1.out ho2 z2e o2
        refine ⟨0, _, Nat.zero_le _, rfl, ho2, by omega, fun p hp => (o2 p (by omega)).trans (fb p hp), ⟨_, hQ2.2.1.1⟩, ?_⟩
        refine gC.up (c_Model_poll l D q H2 (b + 559) w ar hQ2.2.1 c0 org srt bt tn mp hv hN kk hG.1 n chg hG.2.1 k hk 1 (by decide)) (by decide) (by decide) (by decide) (by decide) (fun _ _ _ => trivial) ?_ (fun p hp => by omega)
        rintro r1 H3 ⟨(⟨h9, _⟩ | ⟨r0, F, Gx, h9, rfl, hF, rfl, h2⟩), hz2, fr2⟩
        · rcases fd_last (hmS _ hm3) (hG.2.2.1 _ hm3) hV h9 with ⟨_, e⟩ | ⟨g, e, _⟩
          · omega
          · cases e
        · have hlt := d_nr.lt h9
          rcases fd_last (hmS _ hm3) (hG.2.2.1 _ hm3) hV h9 with ⟨e, _⟩ | ⟨g, e, e0, e1, e2⟩
          · cases e
          · injection e with e
            subst e
            exact ⟨_, rfl, fun _ => (vp_at0 _ _).trans (by rw [e2]; rfl), fr2 _ (by omega), ⟨_, _, _, _, _, _, _, _, _, _, _, _, _, _, _, _, _, _, _, _, _, _, _, _, hQ2.model h2 hz2 fr2, rfl, ⟨⟨_, hG.cut hm3 (hmS _ hm3) (Nat.lt_of_lt_of_le (v_pl_in' (tn := tn k) (r := t0 - f0 - 1) (by omega)).2 hV.2.1) hlt e1 _ rfl rfl rfl rfl rfl⟩, ht.eq rfl rfl, ⟨hv.eq rfl rfl rfl rfl rfl, hN, h3⟩, pF.new h1.2.2.2.2.2.2.2.2.2.2.1 e1 rfl hF, ⟨ed, hp.eq rfl rfl rfl rfl rfl rfl, by omega⟩, hA.eq rfl rfl rfl rfl rfl rfl rfl, (hW.chg _ _ _).eq rfl rfl rfl rfl rfl rfl⟩⟩, hz2, fun p hp => fr2 p (by omega)⟩
  · refine gC.up (w_poll_t0 l D q H b (b + 588) _ ha.1 G hQ.2.2.1 v (nI e0) _ _ _ _ _ b xq _ (t_Hall_pollV l D q H b c0 ad org srt bt tn mp wk n ks vs chg tp ud tl an aks aus xs us so ha htr xq v hok (nI e0))) (by decide) (by decide) (by decide) (by decide) (fun _ _ h => h.1) ?_ (fun p hp => hp.elim (fun h => h) (fun h => by omega))
    rintro r0 H1 ⟨rfl, h1, hz, fr⟩
    obtain ⟨hQ1, ho1, fb⟩ := lQ.hall hQ h1 (by omega) (fun k k1 k2 => Or.inl ⟨k2, rfl⟩) fr
    refine ⟨1, G, by decide, rfl, hQ1.2.2.1, by omega, fb, ⟨_, hQ1.2.1.1⟩, ?_⟩
    refine gC.up (c_Model_pollV l D q H1 (b + 559) w ar hQ1.2.1 c0 hv.1 v hok (nI e0)) (by decide) (by decide) (by decide) (by decide) (fun _ _ _ => trivial) ?_ (fun p hp => by omega)
    rintro r1 H3 ⟨rfl, h2, hz2, fr2⟩
    exact ⟨_, rfl, fun h => absurd h (by decide), fr2 _ (by omega), ⟨_, _, _, _, _, _, _, _, _, _, _, _, _, _, _, _, _, _, _, _, _, _, _, _, hQ1.model h2 hz2 fr2, rfl, ⟨⟨kk, hG.eq (by omega) rfl rfl rfl rfl rfl⟩, ht.eq rfl rfl, ⟨hv.eq rfl rfl rfl rfl rfl, hN, h3⟩, hf.eq rfl rfl, ⟨ed, hp.eq rfl rfl rfl rfl rfl rfl, by omega⟩, hA.eq rfl rfl rfl rfl rfl rfl rfl, hW.eq rfl rfl rfl rfl rfl rfl⟩⟩, hz2, fun p hp => fr2 p (by omega)⟩

set_option maxHeartbeats 4000000 in
theorem l_next (l : Launch) (D : va_G) (q : Nat → ClassId) (b z1 z2 : Nat) (F1 F2 : Nat → Int32) (T : Nat) (x0 : Int32) (H : Heap) (hJ : lJ D q b z1 z2 F1 F2 T x0 H) (htr : ∀ e, l.admits e → e.platform.stackTraces = false) (xq : Nat → ClassId) (v : Int32) (hTb : T < 1048576) : gC l y_Law_next (Cond.codeWith y_Law_next b_Law_next 4 (some .int) hh_Law_next :: gWS) (gR 10 200 5 22) D CL (gY q) (lE b z1 z2 F1 F2 xq) [.ref b, .int v, .ref (b + 588)] H (lX l D q b z1 z2 F1 F2 T y_Model_next (Cond.code y_Model_next b_Model_next 5 (some .int) :: gWS) [.int v] H) 5 22 (fun p => b ≤ p) := by
  obtain ⟨c0, ad, org, srt, bt, tn, mp, wk, n, ks, vs, chg, tp, ud, tl, an, aks, aus, xs, us, so, w, ar, G, hQ, hx0, hP⟩ := hJ
  have ha := hQ.1
  have hR := hQ.2.1
  obtain ⟨⟨kk, hG⟩, ht, ⟨hv, hN, h3⟩, hf, ⟨ed, hp, he⟩, hA, hW⟩ := hP
  have h12 : c0 ≤ 12 := hv.2.2.1
  have hmS : ∀ m, m < 3 → mS (n m) (ks m) := fun m hm => (ha.2.2.2.2.2.2.1 m hm).2
  by_cases hok : h_ok c0 v
  · obtain ⟨k, hk, rfl⟩ := h_okN (by omega) hok
    have hm3 : mp k < 3 := (hN k hk).1
    have hcn : ∀ f0 t0, v_ms org srt bt k (n (mp k)) (ks (mp k)) f0 t0 → v_cnt (fun j => v_in org srt bt k (kk j)) (64 * mp k) (n (mp k)) = t0 - f0 := fun f0 t0 hV => by rw [(hG.2.2.1 (mp k) hm3).cnt (v_in org srt bt k), hV.cnt (hmS _ hm3)]
    obtain ⟨⟨k11, k11a⟩, ⟨k13, k13a⟩, ⟨k14, k14a⟩, k64, kgo⟩ := hW.1 k hk
    have hch : chg (mp k) < 2 ^ 31 := by have := hG.2.2.2 (mp k) hm3; omega
    have hst := st_iff k11 k11a k14 k14a (hG.2.1 (mp k) hm3).2.2 hch
    have hb2 : (wk k).1 < 2 ^ 31 ∧ (wk k).2.1 < 2 ^ 31 ∧ (wk k).2.2.1 < 2 ^ 31 ∧ (wk k).2.2.2 < 2 ^ 31 := ⟨by omega, by omega, by omega, by omega⟩
    by_cases hgo : (wk k).1 ≠ 0 ∧ chg (mp k) = (wk k).2.2.2
    · have hws := kgo hgo.1 hgo.2
      have hns : ¬ (ar 11 k = 0 ∨ ar 14 k ≠ ar 3 (mp k)) := fun h => hst.mp h hgo
      obtain ⟨la, hla⟩ : ∃ la, (ar 12 k = 0 ∧ (wk k).2.1 = 0) ∨ (¬ ar 12 k = 0 ∧ lWt ar (v_in org srt bt k) (tn k) (wk k) (n (mp k)) (ks (mp k)) k la) := by
        rcases hws with ⟨h1, h2, _⟩ | ⟨h1, la, h2⟩
        · exact ⟨[], Or.inl ⟨h1, h2⟩⟩
        · exact ⟨la, Or.inr ⟨h1, h2⟩⟩
      have hla2 : ¬ ar 12 k = 0 → ar 15 k = nI la.length ∧ tXo (ar 16) (8 * k) la ∧ la.length ≤ 8 ∧ t16 la := fun h => by
        rcases hla with ⟨h1, _⟩ | ⟨_, h2⟩
        · exact absurd h1 h
        · exact ⟨h2.1, h2.2.1, h2.2.2.1, h2.2.2.2.1⟩
      by_cases hlt : (wk k).2.1 < v_cnt (fun j => v_in org srt bt k (kk j)) (64 * mp k) (n (mp k))
      · refine gC.up (w_next l D q H b (b + 588) _ ha.1 G hQ.2.2.1 (nI k) _ _ _ _ _ (fun _ => True) gBlind.tt (fun _ _ _ _ _ _ => trivial) _ ?_ (c_Hall_next l D q H b c0 ad org srt bt tn mp wk n ks vs chg tp ud tl an aks aus xs us so ha k hk hch hb2 hgo (fun f0 t0 hV => by rw [← hcn f0 t0 hV]; exact hlt))) (by decide) (by decide) (by decide) (by decide) (fun _ _ _ => trivial) ?_ (fun p hp => hp.elim (fun h => h) (fun h => by omega))
        · rintro v0 H1 ⟨f0, t0, hV, rfl, h1, hz, fr⟩
          exact ⟨_, rfl, (lQ.hall hQ h1 (by omega) (fun k k1 k2 => Or.inl ⟨k2, rfl⟩) fr).2.1⟩
        rintro r0 H2 ⟨zz, H1, ⟨f0, t0, hV, hval, h1, hz, fr⟩, rfl, ho2, z2e, o2⟩
        injection hval with hval
        injection hval with hval
        subst hval
        obtain ⟨hQ1, ho1, fb⟩ := lQ.hall hQ h1 (by omega) (fun k k1 k2 => Or.inl ⟨k2, rfl⟩) fr
        have hQ2 := hQ1.out ho2 z2e o2
        refine ⟨0, _, Nat.zero_le _, rfl, ho2, by omega, fun p hp => (o2 p (by omega)).trans (fb p hp), ⟨_, hQ2.2.1.1⟩, ?_⟩
        refine gC.up (c_Model_next l D q H2 (b + 559) w ar hQ2.2.1 c0 org srt bt tn mp hv hN kk hG.1 n chg hG.2.1 k hk hns la hla2) (by decide) (by decide) (by decide) (by decide) (fun _ _ _ => trivial) ?_ (fun p hp => by omega)
        rintro r1 H3 ⟨(⟨h9, _⟩ | ⟨g, F, Gx, h9, rfl, hF, hG16, h2⟩), hz2, fr2⟩
        · have h7 := hcn f0 t0 hV
          rcases wk_next (u := wk k) (hmS _ hm3) (hG.2.2.1 _ hm3) hV hla h9 with ⟨_, e⟩ | ⟨g, e, _⟩
          · omega
          · cases e
        · have hg3 : g < 192 := by
            have h5 := (hG.2.1 (mp k) hm3).2.1
            rcases h9 with ⟨_, h9⟩ | ⟨_, h9⟩
            · have := d_nr.lt h9; omega
            · have := d_nr.lt h9; omega
          have hkr := hG.1 g hg3
          have hone : upd (ar 12) k (nI 1) k ≠ 0 := by
            rw [show upd (ar 12) k (nI 1) k = nI 1 from if_pos rfl]
            decide
          rcases wk_next (u := wk k) (hmS _ hm3) (hG.2.2.1 _ hm3) hV hla h9 with ⟨e, _⟩ | ⟨g1, e, e0, e1, e2⟩
          · cases e
          · injection e with e
            subst e
            exact ⟨_, rfl, fun _ => (vp_at0 _ _).trans (by rw [e2]; rfl), fr2 _ (by omega), ⟨_, _, _, _, _, _, _, _, _, _, _, _, _, _, _, _, _, _, _, _, _, _, _, _, hQ2.model h2 hz2 fr2, rfl, ⟨⟨kk, hG.eq (by omega) rfl rfl rfl rfl rfl⟩, ht.eq rfl rfl, ⟨hv.eq rfl rfl rfl rfl rfl, hN, h3⟩, pF.new h1.2.2.2.2.2.2.2.2.2.2.1 e1 rfl hF, ⟨ed, hp.eq rfl rfl rfl rfl rfl rfl, by omega⟩, hA.eq rfl rfl rfl rfl rfl rfl rfl, (hW.up hk ⟨⟨k11, k11a⟩, ⟨if_pos rfl, Nat.le_refl _⟩, ⟨k14, k14a⟩, (show (wk k).2.1 + 1 ≤ 64 by have := hV.2.1; have := (hG.2.1 (mp k) hm3).2.1; omega), fun _ _ => Or.inr ⟨hone, kk g, if_pos rfl, fun j hj => hG16.1 j hj, hkr.2.2.1, hkr.2.2.2, (by rw [e1]; exact wk_told (hmS _ hm3) hV e0), fun _ => ⟨by rw [e1]; exact (hV.iff (hmS _ hm3) (Nat.lt_of_lt_of_le (v_pl_in' e0).2 hV.2.1)).mpr (v_pl_in' e0), ⟨_, Nat.lt_of_lt_of_le (v_pl_in' e0).2 hV.2.1, e1.symm⟩⟩⟩⟩ (fun j e => rfl) (fun j e => if_neg e) (fun j e => if_neg e) (fun j e => rfl) (fun j e => if_neg e) (fun j x e x1 x2 => hG16.2 x (by have := hkr.2.2.1; omega)))⟩⟩, hz2, fun p hp => fr2 p (by omega)⟩
      · refine gC.up (w_next_t3 l D q H b (b + 588) _ ha.1 G hQ.2.2.1 (nI k) _ _ _ _ _ b xq _ (t_Hall_next3 l D q H b c0 ad org srt bt tn mp wk n ks vs chg tp ud tl an aks aus xs us so ha htr xq k hk hch hb2 hgo (fun f0 t0 hV => by rw [← hcn f0 t0 hV]; exact Nat.le_of_not_lt hlt))) (by decide) (by decide) (by decide) (by decide) (fun _ _ h => h.1) ?_ (fun p hp => hp.elim (fun h => h) (fun h => by omega))
        rintro r0 H1 ⟨rfl, h1, hz, fr⟩
        obtain ⟨hQ1, ho1, fb⟩ := lQ.hall hQ h1 (by omega) (fun k k1 k2 => Or.inl ⟨k2, rfl⟩) fr
        refine ⟨3, G, by decide, rfl, hQ1.2.2.1, by omega, fb, ⟨_, hQ1.2.1.1⟩, ?_⟩
        refine gC.up (c_Model_next l D q H1 (b + 559) w ar hQ1.2.1 c0 org srt bt tn mp hv hN kk hG.1 n chg hG.2.1 k hk hns la hla2) (by decide) (by decide) (by decide) (by decide) (fun _ _ _ => trivial) ?_ (fun p hp => by omega)
        rintro r1 H3 ⟨(⟨h9, rfl, h2⟩ | ⟨r0, F, Gx, h9, _⟩), hz2, fr2⟩
        · exact ⟨_, rfl, fun h => absurd h (by decide), fr2 _ (by omega), ⟨_, _, _, _, _, _, _, _, _, _, _, _, _, _, _, _, _, _, _, _, _, _, _, _, hQ1.model h2 hz2 fr2, rfl, ⟨⟨kk, hG.eq (by omega) rfl rfl rfl rfl rfl⟩, ht.eq rfl rfl, ⟨hv.eq rfl rfl rfl rfl rfl, hN, h3⟩, hf.eq rfl rfl, ⟨ed, hp.eq rfl rfl rfl rfl rfl rfl, by omega⟩, hA.eq rfl rfl rfl rfl rfl rfl rfl, hW.eq rfl rfl rfl rfl rfl rfl⟩⟩, hz2, fun p hp => fr2 p (by omega)⟩
        · obtain ⟨f0, t0, hV⟩ := v_ms_ex org srt bt k (n (mp k)) (ks (mp k))
          have h7 := hcn f0 t0 hV
          rcases wk_next (u := wk k) (hmS _ hm3) (hG.2.2.1 _ hm3) hV hla h9 with ⟨e, _⟩ | ⟨g, _, e, _⟩
          · cases e
          · omega
    · refine gC.up (w_next_t2 l D q H b (b + 588) _ ha.1 G hQ.2.2.1 (nI k) _ _ _ _ _ b xq _ (t_Hall_next2 l D q H b c0 ad org srt bt tn mp wk n ks vs chg tp ud tl an aks aus xs us so ha htr xq k hk hch hb2 hgo)) (by decide) (by decide) (by decide) (by decide) (fun _ _ h => h.1) ?_ (fun p hp => hp.elim (fun h => h) (fun h => by omega))
      rintro r0 H1 ⟨rfl, h1, hz, fr⟩
      obtain ⟨hQ1, ho1, fb⟩ := lQ.hall hQ h1 (by omega) (fun k k1 k2 => Or.inl ⟨k2, rfl⟩) fr
      refine ⟨2, G, by decide, rfl, hQ1.2.2.1, by omega, fb, ⟨_, hQ1.2.1.1⟩, ?_⟩
      refine gC.up (c_Model_nextS l D q H1 (b + 559) w ar hQ1.2.1 c0 org srt bt tn mp hv hN k hk (hst.mpr hgo)) (by decide) (by decide) (by decide) (by decide) (fun _ _ _ => trivial) ?_ (fun p hp => by omega)
      rintro r1 H3 ⟨rfl, h2, hz2, fr2⟩
      exact ⟨_, rfl, fun h => absurd h (by decide), fr2 _ (by omega), ⟨_, _, _, _, _, _, _, _, _, _, _, _, _, _, _, _, _, _, _, _, _, _, _, _, hQ1.model h2 hz2 fr2, rfl, ⟨⟨kk, hG.eq (by omega) rfl rfl rfl rfl rfl⟩, ht.eq rfl rfl, ⟨hv.eq rfl rfl rfl rfl rfl, hN, h3⟩, hf.eq rfl rfl, ⟨ed, hp.eq rfl rfl rfl rfl rfl rfl, by omega⟩, hA.eq rfl rfl rfl rfl rfl rfl rfl, hW.eq rfl rfl rfl rfl rfl rfl⟩⟩, hz2, fun p hp => fr2 p (by omega)⟩
  · refine gC.up (w_next_t0 l D q H b (b + 588) _ ha.1 G hQ.2.2.1 v _ _ _ _ _ b xq _ (t_Hall_nextV l D q H b c0 ad org srt bt tn mp wk n ks vs chg tp ud tl an aks aus xs us so ha htr xq v hok)) (by decide) (by decide) (by decide) (by decide) (fun _ _ h => h.1) ?_ (fun p hp => hp.elim (fun h => h) (fun h => by omega))
    rintro r0 H1 ⟨rfl, h1, hz, fr⟩
    obtain ⟨hQ1, ho1, fb⟩ := lQ.hall hQ h1 (by omega) (fun k k1 k2 => Or.inl ⟨k2, rfl⟩) fr
    refine ⟨1, G, by decide, rfl, hQ1.2.2.1, by omega, fb, ⟨_, hQ1.2.1.1⟩, ?_⟩
    refine gC.up (c_Model_nextV l D q H1 (b + 559) w ar hQ1.2.1 c0 hv.1 v hok) (by decide) (by decide) (by decide) (by decide) (fun _ _ _ => trivial) ?_ (fun p hp => by omega)
    rintro r1 H3 ⟨rfl, h2, hz2, fr2⟩
    exact ⟨_, rfl, fun h => absurd h (by decide), fr2 _ (by omega), ⟨_, _, _, _, _, _, _, _, _, _, _, _, _, _, _, _, _, _, _, _, _, _, _, _, hQ1.model h2 hz2 fr2, rfl, ⟨⟨kk, hG.eq (by omega) rfl rfl rfl rfl rfl⟩, ht.eq rfl rfl, ⟨hv.eq rfl rfl rfl rfl rfl, hN, h3⟩, hf.eq rfl rfl, ⟨ed, hp.eq rfl rfl rfl rfl rfl rfl, by omega⟩, hA.eq rfl rfl rfl rfl rfl rfl rfl, hW.eq rfl rfl rfl rfl rfl rfl⟩⟩, hz2, fun p hp => fr2 p (by omega)⟩
