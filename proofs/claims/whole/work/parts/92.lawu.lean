/-! drop: printed by wip/specs/lawu.py -/
theorem wk_cut {P : List Nat → Bool} {tn n r C : Nat} {ks : Nat → List Nat} {la x : List Nat} (hr : r < n) (e : ks r = la) (hp : P la = true) (hC : C = v_cnt (fun j => P (ks j) && decide (d_s tn (ks j) la ≤ 0)) 0 n) : C - 1 = v_cnt (fun j => P (mCut ks r n x j) && decide (d_s tn (mCut ks r n x j) la ≤ 0)) 0 (n - 1) := by
  have h : v_cnt (fun j => P (mCut ks r n x j) && decide (d_s tn (mCut ks r n x j) la ≤ 0)) 0 (n - 1) + (if (P (ks r) && decide (d_s tn (ks r) la ≤ 0)) = true then 1 else 0) = v_cnt (fun j => P (ks j) && decide (d_s tn (ks j) la ≤ 0)) 0 n := v_cnt_cut (ks := ks) (fun y => P y && decide (d_s tn y la ≤ 0)) hr x
  rw [if_pos (by rw [e, hp, d_s_refl]; rfl), ← hC] at h
  omega
theorem wk_pos {ar : Nat → Nat → Int32} {org : Nat → Option Nat} {srt : Nat → Nat} {bt : Nat → List Nat} {k tn n f0 t0 : Nat} {u : Nat × Nat × Nat × Nat} {ks : Nat → List Nat} {la : List Nat} (hS : mS n ks) (hV : v_ms org srt bt k n ks f0 t0) (h : lWt ar (v_in org srt bt k) tn u n ks k la) (hu : u.2.2.1 ≠ 0) : (0 < u.2.1 ∧ u.2.1 ≤ t0 - f0) ∧ ks (v_pl tn f0 t0 (u.2.1 - 1)) = la := by
  obtain ⟨_, _, _, _, hc, ht⟩ := h
  obtain ⟨h1, r, hr, e⟩ := ht hu
  obtain ⟨x, x1, x2⟩ := (hV.rk hS tn hr).mp (by rw [e]; exact h1)
  have h2 := wk_told (tn := tn) hS hV x1
  rw [x2, e, ← hc] at h2
  refine ⟨⟨by omega, by omega⟩, ?_⟩
  rw [show u.2.1 - 1 = x by omega, x2, e]

set_option maxHeartbeats 4000000 in
theorem l_drop (l : Launch) (D : va_G) (q : Nat → ClassId) (b z1 z2 : Nat) (F1 F2 : Nat → Int32) (T : Nat) (x0 : Int32) (H : Heap) (hJ : lJ D q b z1 z2 F1 F2 T x0 H) (htr : ∀ e, l.admits e → e.platform.stackTraces = false) (xq : Nat → ClassId) (v : Int32) (hTb : T < 1048576) : gC l y_Law_drop (Cond.codeWith y_Law_drop b_Law_drop 4 (some .int) hh_Law_drop :: gWS) (gR 10 200 5 22) D CL (gY q) (lE b z1 z2 F1 F2 xq) [.ref b, .int v, .ref (b + 588)] H (lX l D q b z1 z2 F1 F2 T y_Model_drop (Cond.code y_Model_drop b_Model_drop 5 (some .int) :: gWS) [.int v] H) 5 22 (fun p => b ≤ p) := by
  obtain ⟨c0, ad, org, srt, bt, tn, mp, wk, n, ks, vs, chg, tp, ud, tl, an, aks, aus, xs, us, so, w, ar, G, hQ, hx0, hP⟩ := hJ
  have ha := hQ.1
  have hR := hQ.2.1
  obtain ⟨⟨kk, hG⟩, ht, ⟨hv, hN, h3⟩, hf, ⟨ed, hp, he⟩, hA, hW⟩ := hP
  have h12 : c0 ≤ 12 := hv.2.2.1
  have hmS : ∀ m, m < 3 → mS (n m) (ks m) := fun m hm => (ha.2.2.2.2.2.2.1 m hm).2
  by_cases hok : h_ok c0 v
  · obtain ⟨k, hk, rfl⟩ := h_okN (by omega) hok
    have hm3 : mp k < 3 := (hN k hk).1
    obtain ⟨⟨k11, k11a⟩, ⟨k13, k13a⟩, ⟨k14, k14a⟩, k64, kgo⟩ := hW.1 k hk
    have hch : chg (mp k) < 2 ^ 31 := by have := hG.2.2.2 (mp k) hm3; omega
    have hst := st_iff k11 k11a k14 k14a (hG.2.1 (mp k) hm3).2.2 hch
    have hb2 : (wk k).1 < 2 ^ 31 ∧ (wk k).2.1 < 2 ^ 31 ∧ (wk k).2.2.1 < 2 ^ 31 ∧ (wk k).2.2.2 < 2 ^ 31 := ⟨by omega, by omega, by omega, by omega⟩
    by_cases hall : ((wk k).1 ≠ 0 ∧ chg (mp k) = (wk k).2.2.2) ∧ (wk k).2.2.1 ≠ 0
    · obtain ⟨hgo, hu⟩ := hall
      have hns : ¬ ((ar 11 k = 0 ∨ ar 14 k ≠ ar 3 (mp k)) ∨ ar 13 k = 0) := by
        rintro (h | h)
        · exact hst.mp h hgo
        · rw [k13] at h
          have h9 := congrArg Int32.toInt h
          rw [nI_toInt (by omega), show (0 : Int32).toInt = 0 from rfl] at h9
          omega
      obtain ⟨h12, la, hla⟩ : ar 12 k ≠ 0 ∧ ∃ la, lWt ar (v_in org srt bt k) (tn k) (wk k) (n (mp k)) (ks (mp k)) k la := by
        rcases kgo hgo.1 hgo.2 with ⟨_, _, h2⟩ | h2
        · exact absurd h2 hu
        · exact h2
      have hin := hla.2.2.2.2.2 hu
      refine gC.up (w_drop l D q H b (b + 588) _ ha.1 G hQ.2.2.1 (nI k) _ _ _ _ _ (fun _ => True) gBlind.tt (fun _ _ _ _ _ _ => trivial) _ ?_ (c_Hall_drop l D q H b c0 ad org srt bt tn mp wk n ks vs chg tp ud tl an aks aus xs us so ha k hk hch hb2 hgo hu (fun f0 t0 hV => (wk_pos (hmS _ hm3) hV hla hu).1))) (by decide) (by decide) (by decide) (by decide) (fun _ _ _ => trivial) ?_ (fun p hp => hp.elim (fun h => h) (fun h => by omega))
      · rintro v0 H1 ⟨f0, t0, hV, rfl, h1, hz, fr⟩
        exact ⟨_, rfl, (lQ.hall hQ h1 (by omega) (fun k k1 k2 => Or.inl ⟨k2, rfl⟩) fr).2.1⟩
      rintro r0 H2 ⟨zz, H1, ⟨f0, t0, hV, hval, h1, hz, fr⟩, rfl, ho2, z2e, o2⟩
      injection hval with hval
      injection hval with hval
      subst hval
      obtain ⟨hQ1, ho1, fb⟩ := lQ.hall hQ h1 (by omega) (fun k k1 k2 => Or.inl ⟨k2, rfl⟩) fr
      have hQ2 := hQ1.out ho2 z2e o2
      refine ⟨0, _, Nat.zero_le _, rfl, ho2, by omega, fun p hp => (o2 p (by omega)).trans (fb p hp), ⟨_, hQ2.2.1.1⟩, ?_⟩
      refine gC.up (c_Model_drop l D q H2 (b + 559) w ar hQ2.2.1 c0 org srt bt tn mp hv hN kk hG.1 n chg hG.2.1 k hk hns la ⟨hla.1, hla.2.1, hla.2.2.1, hla.2.2.2.1⟩ (by obtain ⟨r, r1, r2⟩ := hin.2; obtain ⟨i, i1, i2, _⟩ := (hG.2.2.1 _ hm3).2.1 r r1; exact ⟨i, i1, i2.trans r2⟩)) (by decide) (by decide) (by decide) (by decide) (fun _ _ _ => trivial) ?_ (fun p hp => by omega)
      rintro r1 H3 ⟨r0, Gx, ⟨h9, rfl, rfl⟩, h2, hz2, fr2⟩
      have hpos := wk_pos (hmS _ hm3) hV hla hu
      have hr : v_pl (tn k) f0 t0 ((wk k).2.1 - 1) < n (mp k) := Nat.lt_of_lt_of_le (v_pl_in' (by omega)).2 hV.2.1
      obtain ⟨i, i1, e, e1, e2⟩ := ky_some (hG.2.2.1 _ hm3) (hmS _ hm3) hr hpos.2 h9
      injection e with e
      subst e
      exact ⟨_, rfl, fun _ => (vp_at0 _ _).trans (by rw [e2]; rfl), fr2 _ (by omega), ⟨_, _, _, _, _, _, _, _, _, _, _, _, _, _, _, _, _, _, _, _, _, _, _, _, hQ2.model h2 hz2 fr2, rfl, ⟨⟨_, hG.cut hm3 (hmS _ hm3) hr ⟨by omega, by omega⟩ e1 _ rfl rfl rfl rfl rfl⟩, ht.eq rfl rfl, ⟨hv.eq rfl rfl rfl rfl rfl, hN, h3⟩, hf.eq rfl rfl, ⟨ed, hp.eq rfl rfl rfl rfl rfl rfl, by omega⟩, hA.eq rfl rfl rfl rfl rfl rfl rfl, ((hW.chg (mp k) (n (mp k) - 1) _).up hk (by rw [va_up_self, va_up_self, va_up_self]; exact ⟨⟨k11, k11a⟩, ⟨if_pos rfl, Nat.zero_le _⟩, ⟨if_pos rfl, Nat.le_refl _⟩, (show (wk k).2.1 - 1 ≤ 64 by omega), fun _ _ => Or.inr ⟨h12, la, hla.1, hla.2.1, hla.2.2.1, hla.2.2.2.1, wk_cut hr hpos.2 hin.1 hla.2.2.2.2.1, fun h => absurd rfl h⟩⟩) (fun j e => rfl) (fun j e => rfl) (fun j e => if_neg e) (fun j e => if_neg e) (fun j e => rfl) (fun j x e x1 x2 => rfl))⟩⟩, hz2, fun p hp => fr2 p (by omega)⟩
    · refine gC.up (w_drop_t2 l D q H b (b + 588) _ ha.1 G hQ.2.2.1 (nI k) _ _ _ _ _ b xq _ (t_Hall_drop2 l D q H b c0 ad org srt bt tn mp wk n ks vs chg tp ud tl an aks aus xs us so ha htr xq k hk hch hb2 hall)) (by decide) (by decide) (by decide) (by decide) (fun _ _ h => h.1) ?_ (fun p hp => hp.elim (fun h => h) (fun h => by omega))
      rintro r0 H1 ⟨rfl, h1, hz, fr⟩
      obtain ⟨hQ1, ho1, fb⟩ := lQ.hall hQ h1 (by omega) (fun k k1 k2 => Or.inl ⟨k2, rfl⟩) fr
      refine ⟨2, G, by decide, rfl, hQ1.2.2.1, by omega, fb, ⟨_, hQ1.2.1.1⟩, ?_⟩
      refine gC.up (c_Model_dropS l D q H1 (b + 559) w ar hQ1.2.1 c0 org srt bt tn mp hv hN k hk (by by_cases hgo : (wk k).1 ≠ 0 ∧ chg (mp k) = (wk k).2.2.2; exact Or.inr (by rw [k13, Classical.byContradiction (fun h9 => hall ⟨hgo, h9⟩)]; rfl); exact Or.inl (hst.mpr hgo))) (by decide) (by decide) (by decide) (by decide) (fun _ _ _ => trivial) ?_ (fun p hp => by omega)
      rintro r1 H3 ⟨rfl, h2, hz2, fr2⟩
      exact ⟨_, rfl, fun h => absurd h (by decide), fr2 _ (by omega), ⟨_, _, _, _, _, _, _, _, _, _, _, _, _, _, _, _, _, _, _, _, _, _, _, _, hQ1.model h2 hz2 fr2, rfl, ⟨⟨kk, hG.eq (by omega) rfl rfl rfl rfl rfl⟩, ht.eq rfl rfl, ⟨hv.eq rfl rfl rfl rfl rfl, hN, h3⟩, hf.eq rfl rfl, ⟨ed, hp.eq rfl rfl rfl rfl rfl rfl, by omega⟩, hA.eq rfl rfl rfl rfl rfl rfl rfl, hW.eq rfl rfl rfl rfl rfl rfl⟩⟩, hz2, fun p hp => fr2 p (by omega)⟩
  · refine gC.up (w_drop_t0 l D q H b (b + 588) _ ha.1 G hQ.2.2.1 v _ _ _ _ _ b xq _ (t_Hall_dropV l D q H b c0 ad org srt bt tn mp wk n ks vs chg tp ud tl an aks aus xs us so ha htr xq v hok)) (by decide) (by decide) (by decide) (by decide) (fun _ _ h => h.1) ?_ (fun p hp => hp.elim (fun h => h) (fun h => by omega))
    rintro r0 H1 ⟨rfl, h1, hz, fr⟩
    obtain ⟨hQ1, ho1, fb⟩ := lQ.hall hQ h1 (by omega) (fun k k1 k2 => Or.inl ⟨k2, rfl⟩) fr
    refine ⟨1, G, by decide, rfl, hQ1.2.2.1, by omega, fb, ⟨_, hQ1.2.1.1⟩, ?_⟩
    refine gC.up (c_Model_dropV l D q H1 (b + 559) w ar hQ1.2.1 c0 hv.1 v hok) (by decide) (by decide) (by decide) (by decide) (fun _ _ _ => trivial) ?_ (fun p hp => by omega)
    rintro r1 H3 ⟨rfl, h2, hz2, fr2⟩
    exact ⟨_, rfl, fun h => absurd h (by decide), fr2 _ (by omega), ⟨_, _, _, _, _, _, _, _, _, _, _, _, _, _, _, _, _, _, _, _, _, _, _, _, hQ1.model h2 hz2 fr2, rfl, ⟨⟨kk, hG.eq (by omega) rfl rfl rfl rfl rfl⟩, ht.eq rfl rfl, ⟨hv.eq rfl rfl rfl rfl rfl, hN, h3⟩, hf.eq rfl rfl, ⟨ed, hp.eq rfl rfl rfl rfl rfl rfl, by omega⟩, hA.eq rfl rfl rfl rfl rfl rfl rfl, hW.eq rfl rfl rfl rfl rfl rfl⟩⟩, hz2, fun p hp => fr2 p (by omega)⟩
