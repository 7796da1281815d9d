/-! steps of the law through a wrapper: printed by wip/specs/lawo.py -/
def lE (b z1 z2 : Nat) (F1 F2 : Nat → Int32) (xq : Nat → ClassId) (U : State) : Prop := gEn b xq U ∧ va_Nw (.methodLinkNest R_View 36 y_Walker_init "KeyHall") U ∧ va_Z "KeyHall" "LEAST_FAN" "[I" (.ref z1) (fun p => b ≤ p) U U.heap ∧ va_Z "KeyHall" "MOST_FAN" "[I" (.ref z2) (fun p => b ≤ p) U U.heap ∧ va_X z1 5 F1 U U.heap ∧ va_X z2 5 F2 U U.heap
theorem vp_at0 (G : Nat → Int64) (x : Int64) : vp_updL G 0 x 0 = x := if_pos rfl
theorem ix_le {x : Int32} {m : Nat} (hm : m < 2 ^ 31) (h : ¬ x < 0 ∧ x ≤ nI m) : ∃ i, i ≤ m ∧ x = nI i := by
  have a1 := gi_nlt h.1
  have a2 := Int32.le_iff_toInt_le.mp h.2
  rw [nI_toInt hm] at a2
  exact ⟨x.toInt.toNat, by omega, Int32.toInt_inj.mp (by rw [nI_toInt (by omega)]; omega)⟩
theorem mR.at {n : Nat} {ks : Nat → List Nat} {vs : Nat → Int32} {kk : Nat → List Nat} {f6 : Nat → Int32} {lo : Nat} (h : mR n ks vs kk f6 lo) (hS : mS n ks) {i r : Nat} (hi : i < n) (hr : r < n) (e : kk (lo + i) = ks r) : f6 (lo + i) = vs r := by
  obtain ⟨j, j1, j2, j3⟩ := h.1 i hi
  rw [j3, hS.inj j1 hr (j2.symm.trans e)]
theorem us_dec (org : Nat → Option Nat) (srt : Nat → Nat) (bt : Nat → List Nat) (k n : Nat) (ks : Nat → List Nat) (xs : List Nat) : h_none org srt bt k n ks xs ∨ ∃ r, h_some org srt bt k n ks xs r := by
  by_cases h : v_in org srt bt k xs = true
  · by_cases h1 : ∃ r, r < n ∧ ks r = xs
    · obtain ⟨r, r1, r2⟩ := h1
      exact Or.inr ⟨r, h, r1, r2⟩
    · exact Or.inl (Or.inr (fun j hj e => h1 ⟨j, hj, e⟩))
  · exact Or.inl (Or.inl h)
section US
variable {n : Nat} {ks : Nat → List Nat} {vs : Nat → Int32} {kk : Nat → List Nat} {f6 : Nat → Int32} {m : Nat}
theorem ky_none {xs : List Nat} {o : Option Nat} (h : mR n ks vs kk f6 (64 * m)) (hno : ∀ j, j < n → ks j ≠ xs) (hk : d_ky kk m n xs o) : o = none := by
  rcases o with _ | g
  · rfl
  · obtain ⟨j, j1, j2, j3⟩ := hk
    subst j2
    obtain ⟨i, i1, i2, _⟩ := h.1 j j1
    exact absurd (i2.symm.trans j3) (hno i i1)
theorem ky_some {xs : List Nat} {o : Option Nat} {r : Nat} (h : mR n ks vs kk f6 (64 * m)) (hS : mS n ks) (hr : r < n) (e : ks r = xs) (hk : d_ky kk m n xs o) : ∃ i, i < n ∧ o = some (64 * m + i) ∧ kk (64 * m + i) = ks r ∧ f6 (64 * m + i) = vs r := by
  rcases o with _ | g
  · obtain ⟨i, i1, i2, _⟩ := h.2.1 r hr
    exact absurd (i2.trans e) (hk i i1)
  · obtain ⟨j, j1, j2, j3⟩ := hk
    subst j2
    exact ⟨j, j1, rfl, j3.trans e.symm, h.at hS j1 hr (j3.trans e.symm)⟩
theorem us_none {org : Nat → Option Nat} {srt : Nat → Nat} {bt : Nat → List Nat} {k : Nat} {xs : List Nat} {o : Option Nat} (h : mR n ks vs kk f6 (64 * m)) (hno : h_none org srt bt k n ks xs) (hu : d_us org srt bt k m n kk xs o) : o = none := by
  rcases hu with ⟨u1, u2⟩ | ⟨_, u2⟩
  · rcases hno with h9 | h9
    · exact absurd u1 h9
    · exact ky_none h h9 u2
  · exact u2
theorem us_some {org : Nat → Option Nat} {srt : Nat → Nat} {bt : Nat → List Nat} {k r : Nat} {xs : List Nat} {o : Option Nat} (h : mR n ks vs kk f6 (64 * m)) (hS : mS n ks) (hy : h_some org srt bt k n ks xs r) (hu : d_us org srt bt k m n kk xs o) : ∃ i, i < n ∧ o = some (64 * m + i) ∧ kk (64 * m + i) = ks r ∧ f6 (64 * m + i) = vs r := by
  rcases hu with ⟨_, u2⟩ | ⟨u1, _⟩
  · exact ky_some h hS hy.2.1 hy.2.2 u2
  · exact absurd hy.1 u1
end US
theorem mt_ans {org : Nat → Option Nat} {srt : Nat → Nat} {bt : Nat → List Nat} {k n : Nat} {ks : Nat → List Nat} {vs : Nat → Int32} {kk : Nat → List Nat} {f6 : Nat → Int32} {lo f0 t0 d : Nat} {tp : List Nat} (hM : mR n ks vs kk f6 lo) (hS : mS n ks) (hV : v_ms org srt bt k n ks f0 t0) : v_cnt (fun j => decide (v_in org srt bt k (kk j) = true ∧ (kk j).length = tp.length ∧ t_diff tp (kk j) tp.length ≤ d)) lo n = v_cnt (fun j => decide ((ks j).length = tp.length ∧ t_diff tp (ks j) tp.length ≤ d)) f0 (t0 - f0) := by
  rw [hM.cnt (fun x => decide (v_in org srt bt k x = true ∧ x.length = tp.length ∧ t_diff tp x tp.length ≤ d))]
  exact v_cnt_mid hV.1 hV.2.1 (fun j hj => by rw [decide_eq_true_iff, decide_eq_true_iff, hV.iff hS hj])
theorem pF.new {w : Nat → Int32} {ar : Nat → Nat → Int32} {tl : List Nat} {H : Heap} {D : va_G} {q : Nat → ClassId} {a : Nat} (hk : kA D q H a tl) {xs : List Nat} (e : xs = tl) (h1 : w 20 = nI xs.length) (h2 : tXo (ar 17) 0 xs) : pF w ar tl := by
  subst e
  exact ⟨h1, h2, hk.2.2.1, hk.2.2.2⟩
theorem tx_ins (xs tp : List Nat) {i : Nat} (h : i ≤ xs.length) : (xs.take i ++ tp ++ xs.drop i).length = xs.length + tp.length := by
  simp only [List.length_append, List.length_take, List.length_drop]
  omega
theorem tx_del (xs : List Nat) {i k : Nat} (h : i ≤ k) (hk : k ≤ xs.length) : (xs.take i ++ xs.drop k).length = xs.length - (k - i) := by
  simp only [List.length_append, List.length_take, List.length_drop]
  omega
theorem gi_lt_le {x y : Int32} (h : x ≤ y) (h1 : y < 0) : x < 0 := by
  have a1 := Int32.le_iff_toInt_le.mp h
  have a2 := gi_lt h1
  exact Int32.lt_iff_toInt_lt.mpr (by have : (0 : Int32).toInt = 0 := rfl; omega)

set_option maxHeartbeats 4000000 in
theorem l_get (l : Launch) (D : va_G) (q : Nat → ClassId) (b z1 z2 : Nat) (F1 F2 : Nat → Int32) (T : Nat) (x0 : Int32) (H : Heap) (hJ : lJ D q b z1 z2 F1 F2 T x0 H) (htr : ∀ e, l.admits e → e.platform.stackTraces = false) (xq : Nat → ClassId) (v : Int32) : gC l y_Law_get (Cond.codeWith y_Law_get b_Law_get 4 (some .int) hh_Law_get :: gWS) (gR 10 200 5 22) D CL (gY q) (lE b z1 z2 F1 F2 xq) [.ref b, .int v, .ref (b + 588)] H (lX l D q b z1 z2 F1 F2 T y_Model_get (Cond.code y_Model_get b_Model_get 3 (some .int) :: gWS) [.int v] H) 5 22 (fun p => b ≤ p) := by
  obtain ⟨c0, ad, org, srt, bt, tn, mp, wk, n, ks, vs, chg, tp, ud, tl, an, aks, aus, xs, us, so, w, ar, G, hQ, hx0, hP⟩ := hJ
  have ha := hQ.1
  have hR := hQ.2.1
  obtain ⟨⟨kk, hG⟩, ht, ⟨hv, hN, h3⟩, hf, ⟨ed, hp, he⟩, hA, hW⟩ := hP
  have h12 : c0 ≤ 12 := hv.2.2.1
  have hmS : ∀ m, m < 3 → mS (n m) (ks m) := fun m hm => (ha.2.2.2.2.2.2.1 m hm).2
  by_cases hok : h_ok c0 v
  · obtain ⟨k, hk, rfl⟩ := h_okN (by omega) hok
    have hm3 : mp k < 3 := (hN k hk).1
    rcases us_dec org srt bt k (n (mp k)) (ks (mp k)) tp with hno | ⟨r, hyes⟩
    · refine gC.up (w_get l D q H b (b + 588) _ ha.1 G hQ.2.2.1 (nI k) _ _ _ _ _ (fun _ => True) gBlind.tt (fun _ _ _ _ _ _ => trivial) _ ?_ (c_Hall_getN l D q H b c0 ad org srt bt tn mp wk n ks vs chg tp ud tl an aks aus xs us so ha k hk hno)) (by decide) (by decide) (by decide) (by decide) (fun _ _ _ => trivial) ?_ (fun p hp => hp.elim (fun h => h) (fun h => by omega))
      · rintro v0 H1 ⟨rfl, h1, hz, fr⟩
        exact ⟨_, rfl, (lQ.hall hQ h1 (by omega) (fun k k1 k2 => Or.inl ⟨k2, rfl⟩) fr).2.1⟩
      rintro r0 H2 ⟨zz, H1, ⟨hval, h1, hz, fr⟩, rfl, ho2, z2e, o2⟩
      injection hval with hval
      injection hval with hval
      subst hval
      obtain ⟨hQ1, ho1, fb⟩ := lQ.hall hQ h1 (by omega) (fun k k1 k2 => Or.inl ⟨k2, rfl⟩) fr
      have hQ2 := hQ1.out ho2 z2e o2
      refine ⟨0, _, Nat.zero_le _, rfl, ho2, by omega, fun p hp => (o2 p (by omega)).trans (fb p hp), ⟨_, hQ2.2.1.1⟩, ?_⟩
      refine gC.up (c_Model_get l D q H2 (b + 559) w ar hQ2.2.1 c0 org srt bt tn mp hv hN kk hG.1 n chg hG.2.1 tp ht k hk) (by decide) (by decide) (by decide) (by decide) (fun _ _ _ => trivial) ?_ (fun p hp => by omega)
      rintro r1 H3 ⟨⟨o1, rfl, hus⟩, h2, hz2, fr2⟩
      exact ⟨_, rfl, fun _ => (vp_at0 _ _).trans (by rw [us_none (hG.2.2.1 _ hm3) hno hus]; rfl), fr2 _ (by omega), ⟨_, _, _, _, _, _, _, _, _, _, _, _, _, _, _, _, _, _, _, _, _, _, _, _, hQ2.model h2 hz2 fr2, rfl, ⟨⟨kk, hG.eq (by omega) rfl rfl rfl rfl rfl⟩, pT.nil rfl, ⟨hv.eq rfl rfl rfl rfl rfl, hN, h3⟩, hf.eq rfl rfl, ⟨ed, hp.eq rfl rfl rfl rfl rfl rfl, by omega⟩, hA.eq rfl rfl rfl rfl rfl rfl rfl, hW.eq rfl rfl rfl rfl rfl rfl⟩⟩, hz2, fun p hp => fr2 p (by omega)⟩
    · refine gC.up (w_get l D q H b (b + 588) _ ha.1 G hQ.2.2.1 (nI k) _ _ _ _ _ (fun _ => True) gBlind.tt (fun _ _ _ _ _ _ => trivial) _ ?_ (c_Hall_get l D q H b c0 ad org srt bt tn mp wk n ks vs chg tp ud tl an aks aus xs us so ha k hk r hyes)) (by decide) (by decide) (by decide) (by decide) (fun _ _ _ => trivial) ?_ (fun p hp => hp.elim (fun h => h) (fun h => by omega))
      · rintro v0 H1 ⟨rfl, h1, hz, fr⟩
        exact ⟨_, rfl, (lQ.hall hQ h1 (by omega) (fun k k1 k2 => Or.inl ⟨k2, rfl⟩) fr).2.1⟩
      rintro r0 H2 ⟨zz, H1, ⟨hval, h1, hz, fr⟩, rfl, ho2, z2e, o2⟩
      injection hval with hval
      injection hval with hval
      subst hval
      obtain ⟨hQ1, ho1, fb⟩ := lQ.hall hQ h1 (by omega) (fun k k1 k2 => Or.inl ⟨k2, rfl⟩) fr
      have hQ2 := hQ1.out ho2 z2e o2
      refine ⟨0, _, Nat.zero_le _, rfl, ho2, by omega, fun p hp => (o2 p (by omega)).trans (fb p hp), ⟨_, hQ2.2.1.1⟩, ?_⟩
      refine gC.up (c_Model_get l D q H2 (b + 559) w ar hQ2.2.1 c0 org srt bt tn mp hv hN kk hG.1 n chg hG.2.1 tp ht k hk) (by decide) (by decide) (by decide) (by decide) (fun _ _ _ => trivial) ?_ (fun p hp => by omega)
      rintro r1 H3 ⟨⟨o1, rfl, hus⟩, h2, hz2, fr2⟩
      exact ⟨_, rfl, fun _ => (vp_at0 _ _).trans (by obtain ⟨i, _, e1, _, e2⟩ := us_some (hG.2.2.1 _ hm3) (hmS _ hm3) hyes hus; rw [e1, ← e2]; rfl), fr2 _ (by omega), ⟨_, _, _, _, _, _, _, _, _, _, _, _, _, _, _, _, _, _, _, _, _, _, _, _, hQ2.model h2 hz2 fr2, rfl, ⟨⟨kk, hG.eq (by omega) rfl rfl rfl rfl rfl⟩, pT.nil rfl, ⟨hv.eq rfl rfl rfl rfl rfl, hN, h3⟩, hf.eq rfl rfl, ⟨ed, hp.eq rfl rfl rfl rfl rfl rfl, by omega⟩, hA.eq rfl rfl rfl rfl rfl rfl rfl, hW.eq rfl rfl rfl rfl rfl rfl⟩⟩, hz2, fun p hp => fr2 p (by omega)⟩
  · refine gC.up (w_get_t0 l D q H b (b + 588) _ ha.1 G hQ.2.2.1 v _ _ _ _ _ b xq _ (t_Hall_getV l D q H b c0 ad org srt bt tn mp wk n ks vs chg tp ud tl an aks aus xs us so ha htr xq v hok)) (by decide) (by decide) (by decide) (by decide) (fun _ _ h => h.1) ?_ (fun p hp => hp.elim (fun h => h) (fun h => by omega))
    rintro r0 H1 ⟨rfl, h1, hz, fr⟩
    obtain ⟨hQ1, ho1, fb⟩ := lQ.hall hQ h1 (by omega) (fun k k1 k2 => Or.inl ⟨k2, rfl⟩) fr
    refine ⟨1, G, by decide, rfl, hQ1.2.2.1, by omega, fb, ⟨_, hQ1.2.1.1⟩, ?_⟩
    refine gC.up (c_Model_getV l D q H1 (b + 559) w ar hQ1.2.1 c0 hv.1 v hok) (by decide) (by decide) (by decide) (by decide) (fun _ _ _ => trivial) ?_ (fun p hp => by omega)
    rintro r1 H3 ⟨rfl, h2, hz2, fr2⟩
    exact ⟨_, rfl, fun h => absurd h (by decide), fr2 _ (by omega), ⟨_, _, _, _, _, _, _, _, _, _, _, _, _, _, _, _, _, _, _, _, _, _, _, _, hQ1.model h2 hz2 fr2, rfl, ⟨⟨kk, hG.eq (by omega) rfl rfl rfl rfl rfl⟩, ht.eq rfl rfl, ⟨hv.eq rfl rfl rfl rfl rfl, hN, h3⟩, hf.eq rfl rfl, ⟨ed, hp.eq rfl rfl rfl rfl rfl rfl, by omega⟩, hA.eq rfl rfl rfl rfl rfl rfl rfl, hW.eq rfl rfl rfl rfl rfl rfl⟩⟩, hz2, fun p hp => fr2 p (by omega)⟩

set_option maxHeartbeats 4000000 in
theorem l_match (l : Launch) (D : va_G) (q : Nat → ClassId) (b z1 z2 : Nat) (F1 F2 : Nat → Int32) (T : Nat) (x0 : Int32) (H : Heap) (hJ : lJ D q b z1 z2 F1 F2 T x0 H) (htr : ∀ e, l.admits e → e.platform.stackTraces = false) (xq : Nat → ClassId) (v : Int32) (x : Int32) : gC l y_Law_match (Cond.codeWith y_Law_match b_Law_match 5 (some .int) hh_Law_match :: gWS) (gR 10 200 5 22) D CL (gY q) (lE b z1 z2 F1 F2 xq) [.ref b, .int v, .int x, .ref (b + 588)] H (lX l D q b z1 z2 F1 F2 T y_Model_match (Cond.code y_Model_match b_Model_match 9 (some .int) :: gWS) [.int v, .int x] H) 5 22 (fun p => b ≤ p) := by
  obtain ⟨c0, ad, org, srt, bt, tn, mp, wk, n, ks, vs, chg, tp, ud, tl, an, aks, aus, xs, us, so, w, ar, G, hQ, hx0, hP⟩ := hJ
  have ha := hQ.1
  have hR := hQ.2.1
  obtain ⟨⟨kk, hG⟩, ht, ⟨hv, hN, h3⟩, hf, ⟨ed, hp, he⟩, hA, hW⟩ := hP
  have h12 : c0 ≤ 12 := hv.2.2.1
  have hmS : ∀ m, m < 3 → mS (n m) (ks m) := fun m hm => (ha.2.2.2.2.2.2.1 m hm).2
  by_cases hok : h_ok c0 v
  · obtain ⟨k, hk, rfl⟩ := h_okN (by omega) hok
    have hm3 : mp k < 3 := (hN k hk).1
    by_cases hx : x < 0
    · refine gC.up (w_match_t1 l D q H b (b + 588) _ ha.1 G hQ.2.2.1 (nI k) x _ _ _ _ _ b xq _ (t_Hall_match1 l D q H b c0 ad org srt bt tn mp wk n ks vs chg tp ud tl an aks aus xs us so ha htr xq k hk x hx)) (by decide) (by decide) (by decide) (by decide) (fun _ _ h => h.1) ?_ (fun p hp => hp.elim (fun h => h) (fun h => by omega))
      rintro r0 H1 ⟨rfl, h1, hz, fr⟩
      obtain ⟨hQ1, ho1, fb⟩ := lQ.hall hQ h1 (by omega) (fun k k1 k2 => Or.inl ⟨k2, rfl⟩) fr
      refine ⟨2, G, by decide, rfl, hQ1.2.2.1, by omega, fb, ⟨_, hQ1.2.1.1⟩, ?_⟩
      refine gC.up (c_Model_matchS l D q H1 (b + 559) w ar hQ1.2.1 c0 org srt bt tn mp hv hN tp ht k hk x hx) (by decide) (by decide) (by decide) (by decide) (fun _ _ _ => trivial) ?_ (fun p hp => by omega)
      rintro r1 H3 ⟨rfl, h2, hz2, fr2⟩
      exact ⟨_, rfl, fun h => absurd h (by decide), fr2 _ (by omega), ⟨_, _, _, _, _, _, _, _, _, _, _, _, _, _, _, _, _, _, _, _, _, _, _, _, hQ1.model h2 hz2 fr2, rfl, ⟨⟨kk, hG.eq (by omega) rfl rfl rfl rfl rfl⟩, pT.nil rfl, ⟨hv.eq rfl rfl rfl rfl rfl, hN, h3⟩, hf.eq rfl rfl, ⟨ed, hp.eq rfl rfl rfl rfl rfl rfl, by omega⟩, hA.eq rfl rfl rfl rfl rfl rfl rfl, hW.eq rfl rfl rfl rfl rfl rfl⟩⟩, hz2, fun p hp => fr2 p (by omega)⟩
    · obtain ⟨d, hd, rfl⟩ : ∃ d, d < 2 ^ 31 ∧ x = nI d := ⟨x.toInt.toNat, by have := Int32.toInt_lt x; have := gi_nlt hx; omega, Int32.toInt_inj.mp (by have := gi_nlt hx; have := Int32.toInt_lt x; rw [nI_toInt (by omega)]; omega)⟩
      refine gC.up (w_match l D q H b (b + 588) _ ha.1 G hQ.2.2.1 (nI k) (nI d) _ _ _ _ _ (fun _ => True) gBlind.tt (fun _ _ _ _ _ _ => trivial) _ ?_ (c_Hall_match l D q H b c0 ad org srt bt tn mp wk n ks vs chg tp ud tl an aks aus xs us so ha k hk d hd)) (by decide) (by decide) (by decide) (by decide) (fun _ _ _ => trivial) ?_ (fun p hp => hp.elim (fun h => h) (fun h => by omega))
      · rintro v0 H1 ⟨f0, t0, hV, rfl, h1, hz, fr⟩
        exact ⟨_, rfl, (lQ.hall hQ h1 (by omega) (fun k k1 k2 => Or.inl ⟨k2, rfl⟩) fr).2.1⟩
      rintro r0 H2 ⟨zz, H1, ⟨f0, t0, hV, hval, h1, hz, fr⟩, rfl, ho2, z2e, o2⟩
      injection hval with hval
      injection hval with hval
      subst hval
      obtain ⟨hQ1, ho1, fb⟩ := lQ.hall hQ h1 (by omega) (fun k k1 k2 => Or.inl ⟨k2, rfl⟩) fr
      have hQ2 := hQ1.out ho2 z2e o2
      refine ⟨0, _, Nat.zero_le _, rfl, ho2, by omega, fun p hp => (o2 p (by omega)).trans (fb p hp), ⟨_, hQ2.2.1.1⟩, ?_⟩
      refine gC.up (c_Model_match l D q H2 (b + 559) w ar hQ2.2.1 c0 org srt bt tn mp hv hN kk hG.1 n chg hG.2.1 tp ht k hk d hd) (by decide) (by decide) (by decide) (by decide) (fun _ _ _ => trivial) ?_ (fun p hp => by omega)
      rintro r1 H3 ⟨rfl, h2, hz2, fr2⟩
      exact ⟨_, rfl, fun _ => (vp_at0 _ _).trans (by rw [mt_ans (hG.2.2.1 _ hm3) (hmS _ hm3) hV]), fr2 _ (by omega), ⟨_, _, _, _, _, _, _, _, _, _, _, _, _, _, _, _, _, _, _, _, _, _, _, _, hQ2.model h2 hz2 fr2, rfl, ⟨⟨kk, hG.eq (by omega) rfl rfl rfl rfl rfl⟩, pT.nil rfl, ⟨hv.eq rfl rfl rfl rfl rfl, hN, h3⟩, hf.eq rfl rfl, ⟨ed, hp.eq rfl rfl rfl rfl rfl rfl, by omega⟩, hA.eq rfl rfl rfl rfl rfl rfl rfl, hW.eq rfl rfl rfl rfl rfl rfl⟩⟩, hz2, fun p hp => fr2 p (by omega)⟩
  · refine gC.up (w_match_t0 l D q H b (b + 588) _ ha.1 G hQ.2.2.1 v x _ _ _ _ _ b xq _ (t_Hall_matchV l D q H b c0 ad org srt bt tn mp wk n ks vs chg tp ud tl an aks aus xs us so ha htr xq v hok x)) (by decide) (by decide) (by decide) (by decide) (fun _ _ h => h.1) ?_ (fun p hp => hp.elim (fun h => h) (fun h => by omega))
    rintro r0 H1 ⟨rfl, h1, hz, fr⟩
    obtain ⟨hQ1, ho1, fb⟩ := lQ.hall hQ h1 (by omega) (fun k k1 k2 => Or.inl ⟨k2, rfl⟩) fr
    refine ⟨1, G, by decide, rfl, hQ1.2.2.1, by omega, fb, ⟨_, hQ1.2.1.1⟩, ?_⟩
    refine gC.up (c_Model_matchV l D q H1 (b + 559) w ar hQ1.2.1 c0 hv.1 v hok x) (by decide) (by decide) (by decide) (by decide) (fun _ _ _ => trivial) ?_ (fun p hp => by omega)
    rintro r1 H3 ⟨rfl, h2, hz2, fr2⟩
    exact ⟨_, rfl, fun h => absurd h (by decide), fr2 _ (by omega), ⟨_, _, _, _, _, _, _, _, _, _, _, _, _, _, _, _, _, _, _, _, _, _, _, _, hQ1.model h2 hz2 fr2, rfl, ⟨⟨kk, hG.eq (by omega) rfl rfl rfl rfl rfl⟩, ht.eq rfl rfl, ⟨hv.eq rfl rfl rfl rfl rfl, hN, h3⟩, hf.eq rfl rfl, ⟨ed, hp.eq rfl rfl rfl rfl rfl rfl, by omega⟩, hA.eq rfl rfl rfl rfl rfl rfl rfl, hW.eq rfl rfl rfl rfl rfl rfl⟩⟩, hz2, fun p hp => fr2 p (by omega)⟩

set_option maxHeartbeats 4000000 in
theorem l_insert (l : Launch) (D : va_G) (q : Nat → ClassId) (b z1 z2 : Nat) (F1 F2 : Nat → Int32) (T : Nat) (x0 : Int32) (H : Heap) (hJ : lJ D q b z1 z2 F1 F2 T x0 H) (htr : ∀ e, l.admits e → e.platform.stackTraces = false) (xq : Nat → ClassId) (v : Int32) (hTb : T < 1048576) : gC l y_Law_insert (Cond.codeWith y_Law_insert b_Law_insert 4 (some .int) hh_Law_insert :: gWS) (gR 10 200 5 22) D CL (gY q) (lE b z1 z2 F1 F2 xq) [.ref b, .int v, .ref (b + 588)] H (lX l D q b z1 z2 F1 F2 T y_Model_insert (Cond.code y_Model_insert b_Model_insert 4 (some .int) :: gWS) [.int v] H) 5 22 (fun p => b ≤ p) := by
  obtain ⟨c0, ad, org, srt, bt, tn, mp, wk, n, ks, vs, chg, tp, ud, tl, an, aks, aus, xs, us, so, w, ar, G, hQ, hx0, hP⟩ := hJ
  have ha := hQ.1
  have hR := hQ.2.1
  obtain ⟨⟨kk, hG⟩, ht, ⟨hv, hN, h3⟩, hf, ⟨ed, hp, he⟩, hA, hW⟩ := hP
  by_cases hok : ¬ v < 0 ∧ v ≤ nI xs.length
  · obtain ⟨i, hi, rfl⟩ := ix_le (by have := hp.2.2.1; omega) hok
    by_cases hlen : xs.length + tp.length ≤ 120
    · refine gC.up (w_insert l D q H b (b + 588) _ ha.1 G hQ.2.2.1 (nI i) _ _ _ _ _ (fun _ => True) gBlind.tt (fun _ _ _ _ _ _ => trivial) _ ?_ (c_Hall_insert l D q H b c0 ad org srt bt tn mp wk n ks vs chg tp ud tl an aks aus xs us so ha i hi hlen)) (by decide) (by decide) (by decide) (by decide) (fun _ _ _ => trivial) ?_ (fun p hp => hp.elim (fun h => h) (fun h => by omega))
      · rintro v0 H1 ⟨rfl, h1, hz, fr⟩
        exact ⟨_, rfl, (lQ.hall hQ h1 (by omega) (fun k k1 k2 => Or.inl ⟨k2, rfl⟩) fr).2.1⟩
      rintro r0 H2 ⟨zz, H1, ⟨hval, h1, hz, fr⟩, rfl, ho2, z2e, o2⟩
      injection hval with hval
      injection hval with hval
      subst hval
      obtain ⟨hQ1, ho1, fb⟩ := lQ.hall hQ h1 (by omega) (fun k k1 k2 => Or.inl ⟨k2, rfl⟩) fr
      have hQ2 := hQ1.out ho2 z2e o2
      refine ⟨0, _, Nat.zero_le _, rfl, ho2, by omega, fun p hp => (o2 p (by omega)).trans (fb p hp), ⟨_, hQ2.2.1.1⟩, ?_⟩
      refine gC.up (c_Model_insert l D q H2 (b + 559) w ar hQ2.2.1 xs us ed hp tp ht i hi hlen) (by decide) (by decide) (by decide) (by decide) (fun _ _ _ => trivial) ?_ (fun p hp => by omega)
      rintro r1 H3 ⟨F1, F2, ⟨rfl, hF1, hF2⟩, h2, hz2, fr2⟩
      exact ⟨_, rfl, fun _ => (vp_at0 _ _).trans (by rw [tx_ins xs tp hi]), fr2 _ (by omega), ⟨_, _, _, _, _, _, _, _, _, _, _, _, _, _, _, _, _, _, _, _, _, _, _, _, hQ2.model h2 hz2 fr2, rfl, ⟨⟨kk, hG.eq (by omega) rfl rfl rfl rfl rfl⟩, pT.nil rfl, ⟨hv.eq rfl rfl rfl rfl rfl, hN, h3⟩, hf.eq rfl rfl, ⟨ed + 1, ⟨(show nI (xs.length + tp.length) = _ by rw [tx_ins xs tp hi]), hF2, h1.2.2.2.2.2.2.2.2.2.2.2.2.2.2.1.1, h1.2.2.2.2.2.2.2.2.2.2.2.2.2.2.1.2.1, rfl, rfl, by have := hp.2.2.2.2.2.2.1; omega, hp.2.2.2.2.2.2.2.push hp.2.2.1 hp.2.2.2.1 hF1⟩, by omega⟩, hA.eq rfl rfl rfl rfl rfl rfl rfl, hW.eq rfl rfl rfl rfl rfl rfl⟩⟩, hz2, fun p hp => fr2 p (by omega)⟩
    · refine gC.up (w_insert_t2 l D q H b (b + 588) _ ha.1 G hQ.2.2.1 (nI i) _ _ _ _ _ b xq _ (t_Hall_insert2 l D q H b c0 ad org srt bt tn mp wk n ks vs chg tp ud tl an aks aus xs us so ha htr xq i hi (Nat.lt_of_not_le hlen))) (by decide) (by decide) (by decide) (by decide) (fun _ _ h => h.1) ?_ (fun p hp => hp.elim (fun h => h) (fun h => by omega))
      rintro r0 H1 ⟨rfl, h1, hz, fr⟩
      obtain ⟨hQ1, ho1, fb⟩ := lQ.hall hQ h1 (by omega) (fun k k1 k2 => Or.inl ⟨k2, rfl⟩) fr
      refine ⟨2, G, by decide, rfl, hQ1.2.2.1, by omega, fb, ⟨_, hQ1.2.1.1⟩, ?_⟩
      refine gC.up (c_Model_insertF l D q H1 (b + 559) w ar hQ1.2.1 xs us ed hp tp ht i hi (Nat.lt_of_not_le hlen)) (by decide) (by decide) (by decide) (by decide) (fun _ _ _ => trivial) ?_ (fun p hp => by omega)
      rintro r1 H3 ⟨rfl, h2, hz2, fr2⟩
      exact ⟨_, rfl, fun h => absurd h (by decide), fr2 _ (by omega), ⟨_, _, _, _, _, _, _, _, _, _, _, _, _, _, _, _, _, _, _, _, _, _, _, _, hQ1.model h2 hz2 fr2, rfl, ⟨⟨kk, hG.eq (by omega) rfl rfl rfl rfl rfl⟩, pT.nil rfl, ⟨hv.eq rfl rfl rfl rfl rfl, hN, h3⟩, hf.eq rfl rfl, ⟨ed, hp.eq rfl rfl rfl rfl rfl rfl, by omega⟩, hA.eq rfl rfl rfl rfl rfl rfl rfl, hW.eq rfl rfl rfl rfl rfl rfl⟩⟩, hz2, fun p hp => fr2 p (by omega)⟩
  · refine gC.up (w_insert_t0 l D q H b (b + 588) _ ha.1 G hQ.2.2.1 v _ _ _ _ _ b xq _ (t_Hall_insert0 l D q H b c0 ad org srt bt tn mp wk n ks vs chg tp ud tl an aks aus xs us so ha htr xq v hok)) (by decide) (by decide) (by decide) (by decide) (fun _ _ h => h.1) ?_ (fun p hp => hp.elim (fun h => h) (fun h => by omega))
    rintro r0 H1 ⟨rfl, h1, hz, fr⟩
    obtain ⟨hQ1, ho1, fb⟩ := lQ.hall hQ h1 (by omega) (fun k k1 k2 => Or.inl ⟨k2, rfl⟩) fr
    refine ⟨1, G, by decide, rfl, hQ1.2.2.1, by omega, fb, ⟨_, hQ1.2.1.1⟩, ?_⟩
    refine gC.up (c_Model_insertB l D q H1 (b + 559) w ar hQ1.2.1 xs us ed hp v hok) (by decide) (by decide) (by decide) (by decide) (fun _ _ _ => trivial) ?_ (fun p hp => by omega)
    rintro r1 H3 ⟨rfl, h2, hz2, fr2⟩
    exact ⟨_, rfl, fun h => absurd h (by decide), fr2 _ (by omega), ⟨_, _, _, _, _, _, _, _, _, _, _, _, _, _, _, _, _, _, _, _, _, _, _, _, hQ1.model h2 hz2 fr2, rfl, ⟨⟨kk, hG.eq (by omega) rfl rfl rfl rfl rfl⟩, ht.eq rfl rfl, ⟨hv.eq rfl rfl rfl rfl rfl, hN, h3⟩, hf.eq rfl rfl, ⟨ed, hp.eq rfl rfl rfl rfl rfl rfl, by omega⟩, hA.eq rfl rfl rfl rfl rfl rfl rfl, hW.eq rfl rfl rfl rfl rfl rfl⟩⟩, hz2, fun p hp => fr2 p (by omega)⟩

set_option maxHeartbeats 4000000 in
theorem l_delete (l : Launch) (D : va_G) (q : Nat → ClassId) (b z1 z2 : Nat) (F1 F2 : Nat → Int32) (T : Nat) (x0 : Int32) (H : Heap) (hJ : lJ D q b z1 z2 F1 F2 T x0 H) (htr : ∀ e, l.admits e → e.platform.stackTraces = false) (xq : Nat → ClassId) (v : Int32) (y : Int32) (hTb : T < 1048576) : gC l y_Law_delete (Cond.codeWith y_Law_delete b_Law_delete 5 (some .int) hh_Law_delete :: gWS) (gR 10 200 5 22) D CL (gY q) (lE b z1 z2 F1 F2 xq) [.ref b, .int v, .int y, .ref (b + 588)] H (lX l D q b z1 z2 F1 F2 T y_Model_delete (Cond.code y_Model_delete b_Model_delete 4 (some .int) :: gWS) [.int v, .int y] H) 5 22 (fun p => b ≤ p) := by
  obtain ⟨c0, ad, org, srt, bt, tn, mp, wk, n, ks, vs, chg, tp, ud, tl, an, aks, aus, xs, us, so, w, ar, G, hQ, hx0, hP⟩ := hJ
  have ha := hQ.1
  have hR := hQ.2.1
  obtain ⟨⟨kk, hG⟩, ht, ⟨hv, hN, h3⟩, hf, ⟨ed, hp, he⟩, hA, hW⟩ := hP
  by_cases hok : ¬ v < 0 ∧ v ≤ y ∧ y ≤ nI xs.length
  · have hl : xs.length ≤ 120 := hp.2.2.1
    obtain ⟨kx, hkx, rfl⟩ := ix_le (x := y) (m := xs.length) (by omega) ⟨fun h9 => hok.1 (gi_lt_le hok.2.1 h9), hok.2.2⟩
    obtain ⟨i, hi, rfl⟩ := ix_le (x := v) (m := kx) (by omega) ⟨hok.1, hok.2.1⟩
    refine gC.up (w_delete l D q H b (b + 588) _ ha.1 G hQ.2.2.1 (nI i) (nI kx) _ _ _ _ _ (fun _ => True) gBlind.tt (fun _ _ _ _ _ _ => trivial) _ ?_ (c_Hall_delete l D q H b c0 ad org srt bt tn mp wk n ks vs chg tp ud tl an aks aus xs us so ha i kx hi hkx)) (by decide) (by decide) (by decide) (by decide) (fun _ _ _ => trivial) ?_ (fun p hp => hp.elim (fun h => h) (fun h => by omega))
    · rintro v0 H1 ⟨rfl, h1, hz, fr⟩
      exact ⟨_, rfl, (lQ.hall hQ h1 (by omega) (fun k k1 k2 => Or.inl ⟨k2, rfl⟩) fr).2.1⟩
    rintro r0 H2 ⟨zz, H1, ⟨hval, h1, hz, fr⟩, rfl, ho2, z2e, o2⟩
    injection hval with hval
    injection hval with hval
    subst hval
    obtain ⟨hQ1, ho1, fb⟩ := lQ.hall hQ h1 (by omega) (fun k k1 k2 => Or.inl ⟨k2, rfl⟩) fr
    have hQ2 := hQ1.out ho2 z2e o2
    refine ⟨0, _, Nat.zero_le _, rfl, ho2, by omega, fun p hp => (o2 p (by omega)).trans (fb p hp), ⟨_, hQ2.2.1.1⟩, ?_⟩
    refine gC.up (c_Model_delete l D q H2 (b + 559) w ar hQ2.2.1 xs us ed hp i kx hi hkx) (by decide) (by decide) (by decide) (by decide) (fun _ _ _ => trivial) ?_ (fun p hp => by omega)
    rintro r1 H3 ⟨F1, F2, ⟨rfl, hF1, hF2⟩, h2, hz2, fr2⟩
    exact ⟨_, rfl, fun _ => (vp_at0 _ _).trans (by rw [tx_del xs hi hkx]), fr2 _ (by omega), ⟨_, _, _, _, _, _, _, _, _, _, _, _, _, _, _, _, _, _, _, _, _, _, _, _, hQ2.model h2 hz2 fr2, rfl, ⟨⟨kk, hG.eq (by omega) rfl rfl rfl rfl rfl⟩, ht.eq rfl rfl, ⟨hv.eq rfl rfl rfl rfl rfl, hN, h3⟩, hf.eq rfl rfl, ⟨ed + 1, ⟨(show nI (xs.length - (kx - i)) = _ by rw [tx_del xs hi hkx]), hF2, h1.2.2.2.2.2.2.2.2.2.2.2.2.2.2.1.1, h1.2.2.2.2.2.2.2.2.2.2.2.2.2.2.1.2.1, rfl, rfl, by have := hp.2.2.2.2.2.2.1; omega, hp.2.2.2.2.2.2.2.push hp.2.2.1 hp.2.2.2.1 hF1⟩, by omega⟩, hA.eq rfl rfl rfl rfl rfl rfl rfl, hW.eq rfl rfl rfl rfl rfl rfl⟩⟩, hz2, fun p hp => fr2 p (by omega)⟩
  · refine gC.up (w_delete_t0 l D q H b (b + 588) _ ha.1 G hQ.2.2.1 v y _ _ _ _ _ b xq _ (t_Hall_delete l D q H b c0 ad org srt bt tn mp wk n ks vs chg tp ud tl an aks aus xs us so ha htr xq v y hok)) (by decide) (by decide) (by decide) (by decide) (fun _ _ h => h.1) ?_ (fun p hp => hp.elim (fun h => h) (fun h => by omega))
    rintro r0 H1 ⟨rfl, h1, hz, fr⟩
    obtain ⟨hQ1, ho1, fb⟩ := lQ.hall hQ h1 (by omega) (fun k k1 k2 => Or.inl ⟨k2, rfl⟩) fr
    refine ⟨1, G, by decide, rfl, hQ1.2.2.1, by omega, fb, ⟨_, hQ1.2.1.1⟩, ?_⟩
    refine gC.up (c_Model_deleteB l D q H1 (b + 559) w ar hQ1.2.1 xs us ed hp v y (fun h9 => hok ⟨h9.1, gi_nltn h9.2.1, h9.2.2⟩)) (by decide) (by decide) (by decide) (by decide) (fun _ _ _ => trivial) ?_ (fun p hp => by omega)
    rintro r1 H3 ⟨rfl, h2, hz2, fr2⟩
    exact ⟨_, rfl, fun h => absurd h (by decide), fr2 _ (by omega), ⟨_, _, _, _, _, _, _, _, _, _, _, _, _, _, _, _, _, _, _, _, _, _, _, _, hQ1.model h2 hz2 fr2, rfl, ⟨⟨kk, hG.eq (by omega) rfl rfl rfl rfl rfl⟩, ht.eq rfl rfl, ⟨hv.eq rfl rfl rfl rfl rfl, hN, h3⟩, hf.eq rfl rfl, ⟨ed, hp.eq rfl rfl rfl rfl rfl rfl, by omega⟩, hA.eq rfl rfl rfl rfl rfl rfl rfl, hW.eq rfl rfl rfl rfl rfl rfl⟩⟩, hz2, fun p hp => fr2 p (by omega)⟩

set_option maxHeartbeats 4000000 in
theorem l_at (l : Launch) (D : va_G) (q : Nat → ClassId) (b z1 z2 : Nat) (F1 F2 : Nat → Int32) (T : Nat) (x0 : Int32) (H : Heap) (hJ : lJ D q b z1 z2 F1 F2 T x0 H) (htr : ∀ e, l.admits e → e.platform.stackTraces = false) (xq : Nat → ClassId) (v : Int32) (x : Int32) : gC l y_Law_at (Cond.codeWith y_Law_at b_Law_at 5 (some .int) hh_Law_at :: gWS) (gR 10 200 5 22) D CL (gY q) (lE b z1 z2 F1 F2 xq) [.ref b, .int v, .int x, .ref (b + 588)] H (lX l D q b z1 z2 F1 F2 T y_Model_at (Cond.code y_Model_at b_Model_at 5 (some .int) :: gWS) [.int v, .int x] H) 5 22 (fun p => b ≤ p) := by
  obtain ⟨c0, ad, org, srt, bt, tn, mp, wk, n, ks, vs, chg, tp, ud, tl, an, aks, aus, xs, us, so, w, ar, G, hQ, hx0, hP⟩ := hJ
  have ha := hQ.1
  have hR := hQ.2.1
  obtain ⟨⟨kk, hG⟩, ht, ⟨hv, hN, h3⟩, hf, ⟨ed, hp, he⟩, hA, hW⟩ := hP
  have h12 : c0 ≤ 12 := hv.2.2.1
  have hmS : ∀ m, m < 3 → mS (n m) (ks m) := fun m hm => (ha.2.2.2.2.2.2.1 m hm).2
  by_cases hok : h_ok c0 v
  · obtain ⟨k, hk, rfl⟩ := h_okN (by omega) hok
    have hm3 : mp k < 3 := (hN k hk).1
    have hcn : ∀ f0 t0, v_ms org srt bt k (n (mp k)) (ks (mp k)) f0 t0 → v_cnt (fun j => v_in org srt bt k (kk j)) (64 * mp k) (n (mp k)) = t0 - f0 := fun f0 t0 hV => by rw [(hG.2.2.1 (mp k) hm3).cnt (v_in org srt bt k), hV.cnt (hmS _ hm3)]
    have hc64 : v_cnt (fun j => v_in org srt bt k (kk j)) (64 * mp k) (n (mp k)) ≤ 64 := Nat.le_trans (v_cnt_le _ _ _) (hG.2.1 (mp k) hm3).2.1
    by_cases hr : h_ok (v_cnt (fun j => v_in org srt bt k (kk j)) (64 * mp k) (n (mp k))) x
    · obtain ⟨r, hr1, rfl⟩ := h_okN (by omega) hr
      refine gC.up (w_at l D q H b (b + 588) _ ha.1 G hQ.2.2.1 (nI k) (nI r) _ _ _ _ _ (fun _ => True) gBlind.tt (fun _ _ _ _ _ _ => trivial) _ ?_ (c_Hall_at l D q H b c0 ad org srt bt tn mp wk n ks vs chg tp ud tl an aks aus xs us so ha k hk r (fun f0 t0 hV => by rw [← hcn f0 t0 hV]; exact hr1))) (by decide) (by decide) (by decide) (by decide) (fun _ _ _ => trivial) ?_ (fun p hp => hp.elim (fun h => h) (fun h => by omega))
      · rintro v0 H1 ⟨f0, t0, hV, rfl, h1, hz, fr⟩
        exact ⟨_, rfl, (lQ.hall hQ h1 (by omega) (fun k k1 k2 => Or.inl ⟨k2, rfl⟩) fr).2.1⟩
      rintro r0 H2 ⟨zz, H1, ⟨f0, t0, hV, hval, h1, hz, fr⟩, rfl, ho2, z2e, o2⟩
      injection hval with hval
      injection hval with hval
      subst hval
      obtain ⟨hQ1, ho1, fb⟩ := lQ.hall hQ h1 (by omega) (fun k k1 k2 => Or.inl ⟨k2, rfl⟩) fr
      have hQ2 := hQ1.out ho2 z2e o2
      refine ⟨0, _, Nat.zero_le _, rfl, ho2, by omega, fun p hp => (o2 p (by omega)).trans (fb p hp), ⟨_, hQ2.2.1.1⟩, ?_⟩
      refine gC.up (c_Model_at l D q H2 (b + 559) w ar hQ2.2.1 c0 org srt bt tn mp hv hN kk hG.1 n chg hG.2.1 k hk r hr1) (by decide) (by decide) (by decide) (by decide) (fun _ _ _ => trivial) ?_ (fun p hp => by omega)
      rintro r1 H3 ⟨(⟨h9, _⟩ | ⟨g, F, h9, rfl, hF, h2⟩), hz2, fr2⟩
      · obtain ⟨g, e, _⟩ := it_ans (hmS _ hm3) (hG.2.2.1 _ hm3) hV r _ (by rw [← hcn f0 t0 hV]; exact hr1) h9
        cases e
      obtain ⟨g1, e, e1, e2⟩ := it_ans (hmS _ hm3) (hG.2.2.1 _ hm3) hV r _ (by rw [← hcn f0 t0 hV]; exact hr1) h9
      injection e with e
      subst e
      exact ⟨_, rfl, fun _ => (vp_at0 _ _).trans (by rw [e2]; rfl), fr2 _ (by omega), ⟨_, _, _, _, _, _, _, _, _, _, _, _, _, _, _, _, _, _, _, _, _, _, _, _, hQ2.model h2 hz2 fr2, rfl, ⟨⟨kk, hG.eq (by omega) rfl rfl rfl rfl rfl⟩, ht.eq rfl rfl, ⟨hv.eq rfl rfl rfl rfl rfl, hN, h3⟩, pF.new h1.2.2.2.2.2.2.2.2.2.2.1 e1 rfl hF, ⟨ed, hp.eq rfl rfl rfl rfl rfl rfl, by omega⟩, hA.eq rfl rfl rfl rfl rfl rfl rfl, hW.eq rfl rfl rfl rfl rfl rfl⟩⟩, hz2, fun p hp => fr2 p (by omega)⟩
    · refine gC.up (w_at_t3 l D q H b (b + 588) _ ha.1 G hQ.2.2.1 (nI k) x _ _ _ _ _ b xq _ (t_Hall_at3 l D q H b c0 ad org srt bt tn mp wk n ks vs chg tp ud tl an aks aus xs us so ha htr xq k hk x (fun f0 t0 hV => by rw [← hcn f0 t0 hV]; exact hr))) (by decide) (by decide) (by decide) (by decide) (fun _ _ h => h.1) ?_ (fun p hp => hp.elim (fun h => h) (fun h => by omega))
      rintro r0 H1 ⟨rfl, h1, hz, fr⟩
      obtain ⟨hQ1, ho1, fb⟩ := lQ.hall hQ h1 (by omega) (fun k k1 k2 => Or.inl ⟨k2, rfl⟩) fr
      refine ⟨2, G, by decide, rfl, hQ1.2.2.1, by omega, fb, ⟨_, hQ1.2.1.1⟩, ?_⟩
      refine gC.up (c_Model_atN l D q H1 (b + 559) w ar hQ1.2.1 c0 org srt bt tn mp hv hN kk hG.1 n chg hG.2.1 k hk x (by by_cases h0 : x < 0; exact Or.inl h0; exact Or.inr (Classical.byContradiction (fun h1 => hr ⟨h0, h1⟩)))) (by decide) (by decide) (by decide) (by decide) (fun _ _ _ => trivial) ?_ (fun p hp => by omega)
      rintro r1 H3 ⟨rfl, h2, hz2, fr2⟩
      exact ⟨_, rfl, fun h => absurd h (by decide), fr2 _ (by omega), ⟨_, _, _, _, _, _, _, _, _, _, _, _, _, _, _, _, _, _, _, _, _, _, _, _, hQ1.model h2 hz2 fr2, rfl, ⟨⟨kk, hG.eq (by omega) rfl rfl rfl rfl rfl⟩, ht.eq rfl rfl, ⟨hv.eq rfl rfl rfl rfl rfl, hN, h3⟩, hf.eq rfl rfl, ⟨ed, hp.eq rfl rfl rfl rfl rfl rfl, by omega⟩, hA.eq rfl rfl rfl rfl rfl rfl rfl, hW.eq rfl rfl rfl rfl rfl rfl⟩⟩, hz2, fun p hp => fr2 p (by omega)⟩
  · refine gC.up (w_at_t0 l D q H b (b + 588) _ ha.1 G hQ.2.2.1 v x _ _ _ _ _ b xq _ (t_Hall_atV l D q H b c0 ad org srt bt tn mp wk n ks vs chg tp ud tl an aks aus xs us so ha htr xq v hok x)) (by decide) (by decide) (by decide) (by decide) (fun _ _ h => h.1) ?_ (fun p hp => hp.elim (fun h => h) (fun h => by omega))
    rintro r0 H1 ⟨rfl, h1, hz, fr⟩
    obtain ⟨hQ1, ho1, fb⟩ := lQ.hall hQ h1 (by omega) (fun k k1 k2 => Or.inl ⟨k2, rfl⟩) fr
    refine ⟨1, G, by decide, rfl, hQ1.2.2.1, by omega, fb, ⟨_, hQ1.2.1.1⟩, ?_⟩
    refine gC.up (c_Model_atV l D q H1 (b + 559) w ar hQ1.2.1 c0 hv.1 v hok x) (by decide) (by decide) (by decide) (by decide) (fun _ _ _ => trivial) ?_ (fun p hp => by omega)
    rintro r1 H3 ⟨rfl, h2, hz2, fr2⟩
    exact ⟨_, rfl, fun h => absurd h (by decide), fr2 _ (by omega), ⟨_, _, _, _, _, _, _, _, _, _, _, _, _, _, _, _, _, _, _, _, _, _, _, _, hQ1.model h2 hz2 fr2, rfl, ⟨⟨kk, hG.eq (by omega) rfl rfl rfl rfl rfl⟩, ht.eq rfl rfl, ⟨hv.eq rfl rfl rfl rfl rfl, hN, h3⟩, hf.eq rfl rfl, ⟨ed, hp.eq rfl rfl rfl rfl rfl rfl, by omega⟩, hA.eq rfl rfl rfl rfl rfl rfl rfl, hW.eq rfl rfl rfl rfl rfl rfl⟩⟩, hz2, fun p hp => fr2 p (by omega)⟩
