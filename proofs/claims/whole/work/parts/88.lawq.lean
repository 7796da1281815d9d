/-! edges, view: printed by wip/specs/lawq.py -/
def lZ (b z1 z2 : Nat) (F1 F2 : Nat → Int32) (U : State) : Prop := va_Z "KeyHall" "LEAST_FAN" "[I" (.ref z1) (fun p => b ≤ p) U U.heap ∧ va_Z "KeyHall" "MOST_FAN" "[I" (.ref z2) (fun p => b ≤ p) U U.heap ∧ va_X z1 5 F1 U U.heap ∧ va_X z2 5 F2 U U.heap
theorem lZ.blind (b z1 z2 : Nat) (F1 F2 : Nat → Int32) : gBlind (lZ b z1 z2 F1 F2) := fun _ _ _ _ h => h
theorem lZ.st {b z1 z2 : Nat} {F1 F2 : Nat → Int32} {H : Heap} (U V : State) (h : lZ b z1 z2 F1 F2 U) (h1 : U.heap = H) (h2 : V.heap = H) (hW : U.WarmedH V.vm) : lZ b z1 z2 F1 F2 V := by
  have e : V.heap = U.heap := h2.trans h1.symm
  unfold lZ at h ⊢
  rw [e]
  exact ⟨va_Z.moved (State.WarmedH.alike hW) h.1, va_Z.moved (State.WarmedH.alike hW) h.2.1, va_X.moved (State.WarmedH.alike hW) h.2.2.1, va_X.moved (State.WarmedH.alike hW) h.2.2.2⟩

set_option maxHeartbeats 4000000 in
theorem l_edges (l : Launch) (D : va_G) (q : Nat → ClassId) (b z1 z2 : Nat) (F1 F2 : Nat → Int32) (T : Nat) (x0 : Int32) (H : Heap) (hJ : lJ D q b z1 z2 F1 F2 T x0 H) (htr : ∀ e, l.admits e → e.platform.stackTraces = false) (xq : Nat → ClassId) (x : Int32) (hFn : ∀ j, j ≤ 4 → F1 j = nI (fanL j) ∧ F2 j = nI (fanM j)) : gC l y_Law_edges (Cond.codeWith y_Law_edges b_Law_edges 4 (some .int) hh_Law_edges :: gWS) (gR 10 200 5 22) D CL (gY q) (lE b z1 z2 F1 F2 xq) [.ref b, .int x, .ref (b + 588)] H (lX l D q b z1 z2 F1 F2 T y_Model_edges (Cond.code y_Model_edges b_Model_edges 4 (some .int) :: gWS) [.int x] H) 5 22 (fun p => b ≤ p) := by
  obtain ⟨c0, ad, org, srt, bt, tn, mp, wk, n, ks, vs, chg, tp, ud, tl, an, aks, aus, xs, us, so, w, ar, G, hQ, hx0, hP⟩ := hJ
  have ha := hQ.1
  have hR := hQ.2.1
  obtain ⟨⟨kk, hG⟩, ht, ⟨hv, hN, h3⟩, hf, ⟨ed, hp, he⟩, hA, hW⟩ := hP
  have h12 : c0 ≤ 12 := hv.2.2.1
  have hmS : ∀ m, m < 3 → mS (n m) (ks m) := fun m hm => (ha.2.2.2.2.2.2.1 m hm).2
  have hmp0 : mp 0 = 0 := ((hN 0 (by have := hv.2.1; omega)).2.2.1 (h3 0 (by decide))).1
  have hmp1 : mp 1 = 1 := ((hN 1 (by have := hv.2.1; omega)).2.2.1 (h3 1 (by decide))).1
  have hM0 : mR (n 0) (ks 0) (vs 0) kk (ar 6) 0 := hG.2.2.1 0 (by decide)
  have hM1 : mR (n 1) (ks 1) (vs 1) kk (ar 6) 64 := hG.2.2.1 1 (by decide)
  by_cases hx : ¬ x < 0 ∧ x ≤ nI 5
  · obtain ⟨i, hi, rfl⟩ := ix_le (by decide) hx
    by_cases hi4 : i ≤ 4
    · by_cases hn0 : n 1 = 0
      · refine gC.up (w_edges l D q H b (b + 588) _ ha.1 G hQ.2.2.1 (nI i) _ _ _ _ _ (lZ b z1 z2 F1 F2) (lZ.blind b z1 z2 F1 F2) lZ.st _ ?_ (c_Hall_edgesE2 l D q H b c0 ad org srt bt tn mp wk n ks vs chg tp ud tl an aks aus xs us so ha i hi4 hmp1 z1 z2 F1 F2 hQ.2.2.2.1 hQ.2.2.2.2.1 (fanL i) (fanM i) (hFn i hi4).1 (hFn i hi4).2 (fan_lt i).1 (fan_lt i).2 hn0)) (by decide) (by decide) (by decide) (by decide) (fun _ _ h => h.2.2) ?_ (fun p hp => hp.elim (fun h => h) (fun h => by omega))
        · rintro v0 H1 ⟨rfl, h1, hz, fr⟩
          exact ⟨_, rfl, (lQ.hall hQ h1 (by omega) (fun k k1 k2 => Or.inl ⟨k2, rfl⟩) fr).2.1⟩
        rintro r0 H2 ⟨zz, H1, ⟨hval, h1, hz, fr⟩, rfl, ho2, z2e, o2⟩
        injection hval with hval
        injection hval with hval
        subst hval
        obtain ⟨hQ1, ho1, fb⟩ := lQ.hall hQ h1 (by omega) (fun k k1 k2 => Or.inl ⟨k2, rfl⟩) fr
        have hQ2 := hQ1.out ho2 z2e o2
        refine ⟨0, _, Nat.zero_le _, rfl, ho2, by omega, fun p hp => (o2 p (by omega)).trans (fb p hp), ⟨_, hQ2.2.1.1⟩, ?_⟩
        refine gC.up (c_Model_edges l D q H2 (b + 559) w ar hQ2.2.1 kk hG.1 n chg hG.2.1 i hi4) (by decide) (by decide) (by decide) (by decide) (fun _ _ _ => trivial) ?_ (fun p hp => by omega)
        rintro r1 H3 ⟨rfl, h2, hz2, fr2⟩
        exact ⟨_, rfl, fun _ => (vp_at0 _ _).trans (by rw [hn0]; rfl), fr2 _ (by omega), ⟨_, _, _, _, _, _, _, _, _, _, _, _, _, _, _, _, _, _, _, _, _, _, _, _, hQ2.model h2 hz2 fr2, rfl, ⟨⟨kk, hG.eq (by omega) rfl rfl rfl rfl rfl⟩, ht.eq rfl rfl, ⟨hv.eq rfl rfl rfl rfl rfl, hN, h3⟩, hf.eq rfl rfl, ⟨ed, hp.eq rfl rfl rfl rfl rfl rfl, by omega⟩, hA.eq rfl rfl rfl rfl rfl rfl rfl, hW.eq rfl rfl rfl rfl rfl rfl⟩⟩, hz2, fun p hp => fr2 p (by omega)⟩
      · refine gC.up (w_edges l D q H b (b + 588) _ ha.1 G hQ.2.2.1 (nI i) _ _ _ _ _ (lZ b z1 z2 F1 F2) (lZ.blind b z1 z2 F1 F2) lZ.st _ ?_ (c_Hall_edges2 l D q H b c0 ad org srt bt tn mp wk n ks vs chg tp ud tl an aks aus xs us so ha i hi4 hmp1 z1 z2 F1 F2 hQ.2.2.2.1 hQ.2.2.2.2.1 (fanL i) (fanM i) (hFn i hi4).1 (hFn i hi4).2 (fan_lt i).1 (fan_lt i).2 (Nat.pos_of_ne_zero hn0))) (by decide) (by decide) (by decide) (by decide) (fun _ _ h => h.2.2) ?_ (fun p hp => hp.elim (fun h => h) (fun h => by omega))
        · rintro v0 H1 ⟨rfl, h1, hz, fr⟩
          exact ⟨_, rfl, (lQ.hall hQ h1 (by omega) (fun k k1 k2 => Or.inl ⟨k2, rfl⟩) fr).2.1⟩
        rintro r0 H2 ⟨zz, H1, ⟨hval, h1, hz, fr⟩, rfl, ho2, z2e, o2⟩
        injection hval with hval
        injection hval with hval
        subst hval
        obtain ⟨hQ1, ho1, fb⟩ := lQ.hall hQ h1 (by omega) (fun k k1 k2 => Or.inl ⟨k2, rfl⟩) fr
        have hQ2 := hQ1.out ho2 z2e o2
        refine ⟨0, _, Nat.zero_le _, rfl, ho2, by omega, fun p hp => (o2 p (by omega)).trans (fb p hp), ⟨_, hQ2.2.1.1⟩, ?_⟩
        refine gC.up (c_Model_edges l D q H2 (b + 559) w ar hQ2.2.1 kk hG.1 n chg hG.2.1 i hi4) (by decide) (by decide) (by decide) (by decide) (fun _ _ _ => trivial) ?_ (fun p hp => by omega)
        rintro r1 H3 ⟨rfl, h2, hz2, fr2⟩
        exact ⟨_, rfl, fun _ => (vp_at0 _ _).trans (by rw [inn_ans2 (hmS 1 (by decide)) hM1 (fun j hj => (mR.t16 (m := 1) hM1 (by decide) (hG.2.1 1 (by decide)).2.1 hG.1 hj).1) (fun j hj => (mR.t16 (m := 1) hM1 (by decide) (hG.2.1 1 (by decide)).2.1 hG.1 hj).2) (fan_cl hi4) (hG.2.1 1 (by decide)).2.1]), fr2 _ (by omega), ⟨_, _, _, _, _, _, _, _, _, _, _, _, _, _, _, _, _, _, _, _, _, _, _, _, hQ2.model h2 hz2 fr2, rfl, ⟨⟨kk, hG.eq (by omega) rfl rfl rfl rfl rfl⟩, ht.eq rfl rfl, ⟨hv.eq rfl rfl rfl rfl rfl, hN, h3⟩, hf.eq rfl rfl, ⟨ed, hp.eq rfl rfl rfl rfl rfl rfl, by omega⟩, hA.eq rfl rfl rfl rfl rfl rfl rfl, hW.eq rfl rfl rfl rfl rfl rfl⟩⟩, hz2, fun p hp => fr2 p (by omega)⟩
    · have e5 : i = 5 := by omega
      subst e5
      by_cases hex : ∃ r, r < n 0 ∧ ks 0 r = tp
      · obtain ⟨r, hr1, hr2⟩ := hex
        refine gC.up (w_edges l D q H b (b + 588) _ ha.1 G hQ.2.2.1 (nI 5) _ _ _ _ _ (fun _ => True) gBlind.tt (fun _ _ _ _ _ _ => trivial) _ ?_ (c_Hall_edges5 l D q H b c0 ad org srt bt tn mp wk n ks vs chg tp ud tl an aks aus xs us so ha hmp0 r hr1 hr2)) (by decide) (by decide) (by decide) (by decide) (fun _ _ _ => trivial) ?_ (fun p hp => hp.elim (fun h => h) (fun h => by omega))
        · rintro v0 H1 ⟨rfl, h1, hz, fr⟩
          exact ⟨_, rfl, (lQ.hall hQ h1 (by omega) (fun k k1 k2 => Or.inl ⟨k2, rfl⟩) fr).2.1⟩
        rintro r0 H2 ⟨zz, H1, ⟨hval, h1, hz, fr⟩, rfl, ho2, z2e, o2⟩
        injection hval with hval
        injection hval with hval
        subst hval
        obtain ⟨hQ1, ho1, fb⟩ := lQ.hall hQ h1 (by omega) (fun k k1 k2 => Or.inl ⟨k2, rfl⟩) fr
        have hQ2 := hQ1.out ho2 z2e o2
        refine ⟨0, _, Nat.zero_le _, rfl, ho2, by omega, fun p hp => (o2 p (by omega)).trans (fb p hp), ⟨_, hQ2.2.1.1⟩, ?_⟩
        refine gC.up (c_Model_edges5 l D q H2 (b + 559) w ar hQ2.2.1 kk hG.1 n chg hG.2.1 tp ht (by obtain ⟨j, j1, j2, _⟩ := hM0.2.1 r hr1; rw [Nat.zero_add] at j2; exact ⟨j, j1, j2.trans hr2⟩) (fun a c ha hc hac e => hac (hM0.2.2 a c ha hc (by rw [Nat.zero_add, Nat.zero_add]; exact e)))) (by decide) (by decide) (by decide) (by decide) (fun _ _ _ => trivial) ?_ (fun p hp => by omega)
        rintro r1 H3 ⟨g, F, ⟨g1, g2, rfl⟩, h2, hz2, fr2⟩
        exact ⟨_, rfl, fun _ => (vp_at0 _ _).trans (by rw [dep_ans (hmS 0 (by decide)) hM0 (fun j hj => (mR.t16 (m := 0) hM0 (by decide) (hG.2.1 0 (by decide)).2.1 hG.1 hj).2) g1 hr1 (g2.trans hr2.symm)]), fr2 _ (by omega), ⟨_, _, _, _, _, _, _, _, _, _, _, _, _, _, _, _, _, _, _, _, _, _, _, _, hQ2.model h2 hz2 fr2, rfl, ⟨⟨kk, hG.eq (by omega) rfl rfl rfl rfl rfl⟩, pT.nil rfl, ⟨hv.eq rfl rfl rfl rfl rfl, hN, h3⟩, hf.eq rfl rfl, ⟨ed, hp.eq rfl rfl rfl rfl rfl rfl, by omega⟩, hA.eq rfl rfl rfl rfl rfl rfl rfl, hW.eq rfl rfl rfl rfl rfl rfl⟩⟩, hz2, fun p hp => fr2 p (by omega)⟩
      · refine gC.up (w_edges l D q H b (b + 588) _ ha.1 G hQ.2.2.1 (nI 5) _ _ _ _ _ (fun _ => True) gBlind.tt (fun _ _ _ _ _ _ => trivial) _ ?_ (c_Hall_edges5N l D q H b c0 ad org srt bt tn mp wk n ks vs chg tp ud tl an aks aus xs us so ha hmp0 (fun j hj e => hex ⟨j, hj, e⟩))) (by decide) (by decide) (by decide) (by decide) (fun _ _ _ => trivial) ?_ (fun p hp => hp.elim (fun h => h) (fun h => by omega))
        · rintro v0 H1 ⟨rfl, h1, hz, fr⟩
          exact ⟨_, rfl, (lQ.hall hQ h1 (by omega) (fun k k1 k2 => Or.inl ⟨k2, rfl⟩) fr).2.1⟩
        rintro r0 H2 ⟨zz, H1, ⟨hval, h1, hz, fr⟩, rfl, ho2, z2e, o2⟩
        injection hval with hval
        injection hval with hval
        subst hval
        obtain ⟨hQ1, ho1, fb⟩ := lQ.hall hQ h1 (by omega) (fun k k1 k2 => Or.inl ⟨k2, rfl⟩) fr
        have hQ2 := hQ1.out ho2 z2e o2
        refine ⟨0, _, Nat.zero_le _, rfl, ho2, by omega, fun p hp => (o2 p (by omega)).trans (fb p hp), ⟨_, hQ2.2.1.1⟩, ?_⟩
        refine gC.up (c_Model_edges5N l D q H2 (b + 559) w ar hQ2.2.1 kk hG.1 n chg hG.2.1 tp ht (fun j hj e => by obtain ⟨i, i1, i2, _⟩ := hM0.1 j hj; rw [Nat.zero_add] at i2; exact hex ⟨i, i1, i2.symm.trans e⟩)) (by decide) (by decide) (by decide) (by decide) (fun _ _ _ => trivial) ?_ (fun p hp => by omega)
        rintro r1 H3 ⟨rfl, h2, hz2, fr2⟩
        exact ⟨_, rfl, fun _ => (vp_at0 _ _).trans rfl, fr2 _ (by omega), ⟨_, _, _, _, _, _, _, _, _, _, _, _, _, _, _, _, _, _, _, _, _, _, _, _, hQ2.model h2 hz2 fr2, rfl, ⟨⟨kk, hG.eq (by omega) rfl rfl rfl rfl rfl⟩, pT.nil rfl, ⟨hv.eq rfl rfl rfl rfl rfl, hN, h3⟩, hf.eq rfl rfl, ⟨ed, hp.eq rfl rfl rfl rfl rfl rfl, by omega⟩, hA.eq rfl rfl rfl rfl rfl rfl rfl, hW.eq rfl rfl rfl rfl rfl rfl⟩⟩, hz2, fun p hp => fr2 p (by omega)⟩
  · refine gC.up (w_edges_t0 l D q H b (b + 588) _ ha.1 G hQ.2.2.1 x _ _ _ _ _ b xq _ (t_Hall_edges0 l D q H b c0 ad org srt bt tn mp wk n ks vs chg tp ud tl an aks aus xs us so ha htr xq x hx)) (by decide) (by decide) (by decide) (by decide) (fun _ _ h => h.1) ?_ (fun p hp => hp.elim (fun h => h) (fun h => by omega))
    rintro r0 H1 ⟨rfl, h1, hz, fr⟩
    obtain ⟨hQ1, ho1, fb⟩ := lQ.hall hQ h1 (by omega) (fun k k1 k2 => Or.inl ⟨k2, rfl⟩) fr
    refine ⟨1, G, by decide, rfl, hQ1.2.2.1, by omega, fb, ⟨_, hQ1.2.1.1⟩, ?_⟩
    refine gC.up (c_Model_edgesB l D q H1 (b + 559) w ar hQ1.2.1 x hx) (by decide) (by decide) (by decide) (by decide) (fun _ _ _ => trivial) ?_ (fun p hp => by omega)
    rintro r1 H3 ⟨rfl, h2, hz2, fr2⟩
    exact ⟨_, rfl, fun h => absurd h (by decide), fr2 _ (by omega), ⟨_, _, _, _, _, _, _, _, _, _, _, _, _, _, _, _, _, _, _, _, _, _, _, _, hQ1.model h2 hz2 fr2, rfl, ⟨⟨kk, hG.eq (by omega) rfl rfl rfl rfl rfl⟩, ht.eq rfl rfl, ⟨hv.eq rfl rfl rfl rfl rfl, hN, h3⟩, hf.eq rfl rfl, ⟨ed, hp.eq rfl rfl rfl rfl rfl rfl, by omega⟩, hA.eq rfl rfl rfl rfl rfl rfl rfl, hW.eq rfl rfl rfl rfl rfl rfl⟩⟩, hz2, fun p hp => fr2 p (by omega)⟩
