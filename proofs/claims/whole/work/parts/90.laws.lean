/-! remove, put, poll: printed by wip/specs/laws.py -/
theorem va_up_id {α : Type} (f : Nat → α) (k : Nat) : va_up f k (f k) = f := by
  funext j
  by_cases e : j = k
  · subst e
    exact va_up_self _ _ _
  · exact va_up_ne _ _ e
theorem mR.congr {n : Nat} {ks : Nat → List Nat} {vs : Nat → Int32} {kk kk1 : Nat → List Nat} {f6 f7 : Nat → Int32} {lo : Nat} (h : mR n ks vs kk f6 lo) (h1 : ∀ i, i < n → kk1 (lo + i) = kk (lo + i) ∧ f7 (lo + i) = f6 (lo + i)) : mR n ks vs kk1 f7 lo := by
  refine ⟨fun i hi => ?_, fun j hj => ?_, fun i j hi hj e => ?_⟩
  · rw [(h1 i hi).1, (h1 i hi).2]
    exact h.1 i hi
  · obtain ⟨i, i1, i2⟩ := h.2.1 j hj
    exact ⟨i, i1, by rw [(h1 i i1).1, (h1 i i1).2]; exact i2⟩
  · rw [(h1 i hi).1, (h1 j hj).1] at e
    exact h.2.2 i j hi hj e
section LG
variable {T : Nat} {ar ar1 : Nat → Nat → Int32} {n : Nat → Nat} {ks : Nat → Nat → List Nat} {vs : Nat → Nat → Int32} {chg : Nat → Nat} {kk : Nat → List Nat} {m : Nat}
theorem lG.cut (h : lG T ar n ks vs chg kk) (hm : m < 3) (hS : mS (n m) (ks m)) {r g : Nat} (hr : r < n m) (hg : 64 * m ≤ g ∧ g < 64 * m + n m) (e0 : kk g = ks m r) (x : List Nat) (h2 : ar1 2 = upd (ar 2) m (nI (n m - 1))) (h3 : ar1 3 = upd (ar 3) m (nI (chg m + 1))) (h4 : ar1 4 = va_cpy (ar 4) (ar 4) (8 * (64 * m + n m - 1)) (8 * g) 8) (h5 : ar1 5 = upd (ar 5) g (nI (kk (64 * m + n m - 1)).length)) (h6 : ar1 6 = upd (ar 6) g (ar 6 (64 * m + n m - 1))) :
    lG (T + 1) ar1 (va_up n m (n m - 1)) (va_up ks m (mCut (ks m) r (n m) x)) (va_up vs m (sh_dn (vs m) r (n m - 1))) (va_up chg m (chg m + 1)) (va_up kk g (kk (64 * m + n m - 1))) := by
  obtain ⟨hK, hM, hR, hT⟩ := h
  have hn := (hM m hm).2.1
  obtain ⟨i0, rfl⟩ : ∃ i0, g = 64 * m + i0 := ⟨g - 64 * m, by omega⟩
  refine ⟨fun y hy => ?_, fun j hj => ?_, fun j hj => ?_, fun j hj => ?_⟩
  · by_cases e : y = 64 * m + i0
    · subst e
      have o := hK (64 * m + n m - 1) (by omega)
      rw [va_up_self]
      refine ⟨fun j hj => ?_, by rw [h5]; exact if_pos rfl, o.2.2⟩
      rw [h4]
      have := o.2.2.1
      refine (if_pos ⟨by omega, by omega⟩).trans ?_
      rw [show 8 * (64 * m + n m - 1) + (8 * (64 * m + i0) + j - 8 * (64 * m + i0)) = 8 * (64 * m + n m - 1) + j by omega]
      exact o.1 j hj
    · have o := hK y hy
      rw [va_up_ne _ _ e]
      refine ⟨fun j hj => ?_, by rw [h5]; exact (if_neg e).trans o.2.1, o.2.2⟩
      rw [h4]
      have := o.2.2.1
      exact (if_neg (by omega)).trans (o.1 j hj)
  · rw [h2, h3]
    by_cases e : j = m
    · subst e
      rw [va_up_self, va_up_self]
      exact ⟨if_pos rfl, by omega, if_pos rfl⟩
    · rw [va_up_ne _ _ e, va_up_ne _ _ e]
      have o := hM j hj
      exact ⟨(if_neg e).trans o.1, o.2.1, (if_neg e).trans o.2.2⟩
  · rw [h6]
    by_cases e : j = m
    · subst e
      rw [va_up_self, va_up_self, va_up_self]
      exact (hR j hj).cut hr (by omega) e0 hS x
    · rw [va_up_ne _ _ e, va_up_ne _ _ e, va_up_ne _ _ e]
      have o := (hM j hj).2.1
      exact (hR j hj).congr (fun i hi => ⟨va_up_ne _ _ (by omega), if_neg (by omega)⟩)
  · by_cases e : j = m
    · subst e
      rw [va_up_self]
      have := hT j hj
      omega
    · rw [va_up_ne _ _ e]
      have := hT j hj
      omega
theorem lG.put (h : lG T ar n ks vs chg kk) (hm : m < 3) (hn : n m < 64) {r : Nat} (hr : r ≤ n m) {tp : List Nat} {x : Int32} (hno : ∀ j, j < n m → ks m j ≠ tp) (ht8 : tp.length ≤ 8) (ht16 : t16 tp) (h2 : ar1 2 = upd (ar 2) m (nI (n m + 1))) (h3 : ar1 3 = upd (ar 3) m (nI (chg m + 1))) (h4 : tCp (ar1 4) (ar 4) (8 * (64 * m + n m)) tp tp.length) (h5 : ar1 5 = upd (ar 5) (64 * m + n m) (nI tp.length)) (h6 : ar1 6 = upd (ar 6) (64 * m + n m) x) :
    lG (T + 1) ar1 (va_up n m (n m + 1)) (va_up ks m (mPut (ks m) r (n m) tp)) (va_up vs m (mPut (vs m) r (n m) x)) (va_up chg m (chg m + 1)) (va_up kk (64 * m + n m) tp) := by
  obtain ⟨hK, hM, hR, hT⟩ := h
  refine ⟨fun y hy => ?_, fun j hj => ?_, fun j hj => ?_, fun j hj => ?_⟩
  · by_cases e : y = 64 * m + n m
    · subst e
      rw [va_up_self]
      exact ⟨h4.1, by rw [h5]; exact if_pos rfl, ht8, ht16⟩
    · have o := hK y hy
      rw [va_up_ne _ _ e]
      refine ⟨fun j hj => ?_, by rw [h5]; exact (if_neg e).trans o.2.1, o.2.2⟩
      have := o.2.2.1
      rw [h4.2 _ (by omega)]
      exact o.1 j hj
  · rw [h2, h3]
    by_cases e : j = m
    · subst e
      rw [va_up_self, va_up_self]
      exact ⟨if_pos rfl, by omega, if_pos rfl⟩
    · rw [va_up_ne _ _ e, va_up_ne _ _ e]
      have o := hM j hj
      exact ⟨(if_neg e).trans o.1, o.2.1, (if_neg e).trans o.2.2⟩
  · rw [h6]
    by_cases e : j = m
    · subst e
      rw [va_up_self, va_up_self, va_up_self]
      exact (hR j hj).put hr hno
    · rw [va_up_ne _ _ e, va_up_ne _ _ e, va_up_ne _ _ e]
      have o := (hM j hj).2.1
      exact (hR j hj).congr (fun i hi => ⟨va_up_ne _ _ (by omega), if_neg (by omega)⟩)
  · by_cases e : j = m
    · subst e
      rw [va_up_self]
      have := hT j hj
      omega
    · rw [va_up_ne _ _ e]
      have := hT j hj
      omega
theorem lG.set (h : lG T ar n ks vs chg kk) (hm : m < 3) (hS : mS (n m) (ks m)) {r i0 : Nat} (hr : r < n m) (hi : i0 < n m) (e0 : kk (64 * m + i0) = ks m r) (x : Int32) (h2 : ar1 2 = ar 2) (h3 : ar1 3 = ar 3) (h4 : ar1 4 = ar 4) (h5 : ar1 5 = ar 5) (h6 : ar1 6 = upd (ar 6) (64 * m + i0) x) :
    lG (T + 1) ar1 n ks (va_up vs m (upd (vs m) r x)) chg kk := by
  obtain ⟨hK, hM, hR, hT⟩ := h
  refine ⟨fun y hy => by rw [h4, h5]; exact hK y hy, fun j hj => by rw [h2, h3]; exact hM j hj, fun j hj => ?_, fun j hj => Nat.le_succ_of_le (hT j hj)⟩
  rw [h6]
  have hn := (hM m hm).2.1
  by_cases e : j = m
  · subst e
    rw [va_up_self]
    exact (hR j hj).set hS hr hi e0 x
  · rw [va_up_ne _ _ e]
    have o := (hM j hj).2.1
    exact (hR j hj).congr (fun i hi => ⟨rfl, if_neg (by omega)⟩)
end LG
theorem lW.chg {ar : Nat → Nat → Int32} {c0 : Nat} {org : Nat → Option Nat} {srt : Nat → Nat} {bt : Nat → List Nat} {tn mp : Nat → Nat} {wk : Nat → Nat × Nat × Nat × Nat} {n : Nat → Nat} {ks : Nat → Nat → List Nat} {chg : Nat → Nat} (h : lW ar c0 org srt bt tn mp wk n ks chg) (m : Nat) (a : Nat) (b : Nat → List Nat) : lW ar c0 org srt bt tn mp wk (va_up n m a) (va_up ks m b) (va_up chg m (chg m + 1)) := by
  refine ⟨fun j hj => ?_, h.2⟩
  have o := h.1 j hj
  by_cases e : mp j = m
  · rw [e, va_up_self, va_up_self, va_up_self]
    rw [e] at o
    obtain ⟨o1, o2, ⟨o3, o4⟩, o5, _⟩ := o
    exact ⟨o1, o2, ⟨o3, by omega⟩, o5, fun _ h9 => by omega⟩
  · rw [va_up_ne _ _ e, va_up_ne _ _ e, va_up_ne _ _ e]
    exact o

set_option maxHeartbeats 4000000 in
theorem l_remove (l : Launch) (D : va_G) (q : Nat → ClassId) (b z1 z2 : Nat) (F1 F2 : Nat → Int32) (T : Nat) (x0 : Int32) (H : Heap) (hJ : lJ D q b z1 z2 F1 F2 T x0 H) (htr : ∀ e, l.admits e → e.platform.stackTraces = false) (xq : Nat → ClassId) (v : Int32) : gC l y_Law_remove (Cond.codeWith y_Law_remove b_Law_remove 4 (some .int) hh_Law_remove :: gWS) (gR 10 200 5 22) D CL (gY q) (lE b z1 z2 F1 F2 xq) [.ref b, .int v, .ref (b + 588)] H (lX l D q b z1 z2 F1 F2 T y_Model_remove (Cond.code y_Model_remove b_Model_remove 4 (some .int) :: gWS) [.int v] H) 5 22 (fun p => b ≤ p) := by
  obtain ⟨c0, ad, org, srt, bt, tn, mp, wk, n, ks, vs, chg, tp, ud, tl, an, aks, aus, xs, us, so, w, ar, G, hQ, hx0, hP⟩ := hJ
  have ha := hQ.1
  have hR := hQ.2.1
  obtain ⟨⟨kk, hG⟩, ht, ⟨hv, hN, h3⟩, hf, ⟨ed, hp, he⟩, hA, hW⟩ := hP
  have h12 : c0 ≤ 12 := hv.2.2.1
  have hmS : ∀ m, m < 3 → mS (n m) (ks m) := fun m hm => (ha.2.2.2.2.2.2.1 m hm).2
  by_cases hok : h_ok c0 v
  · obtain ⟨k, hk, rfl⟩ := h_okN (by omega) hok
    have hm3 : mp k < 3 := (hN k hk).1
    rcases us_dec org srt bt k (n (mp k)) (ks (mp k)) tp with hno | ⟨r, hyes⟩
    · refine gC.up (w_remove l D q H b (b + 588) _ ha.1 G hQ.2.2.1 (nI k) _ _ _ _ _ (fun _ => True) gBlind.tt (fun _ _ _ _ _ _ => trivial) _ ?_ (c_Hall_removeN l D q H b c0 ad org srt bt tn mp wk n ks vs chg tp ud tl an aks aus xs us so ha k hk hno)) (by decide) (by decide) (by decide) (by decide) (fun _ _ _ => trivial) ?_ (fun p hp => hp.elim (fun h => h) (fun h => by omega))
      · rintro v0 H1 ⟨rfl, h1, hz, fr⟩
        exact ⟨_, rfl, (lQ.hall hQ h1 (by omega) (fun k k1 k2 => Or.inl ⟨k2, rfl⟩) fr).2.1⟩
      rintro r0 H2 ⟨zz, H1, ⟨hval, h1, hz, fr⟩, rfl, ho2, z2e, o2⟩
      injection hval with hval
      injection hval with hval
      subst hval
      obtain ⟨hQ1, ho1, fb⟩ := lQ.hall hQ h1 (by omega) (fun k k1 k2 => Or.inl ⟨k2, rfl⟩) fr
      have hQ2 := hQ1.out ho2 z2e o2
      refine ⟨0, _, Nat.zero_le _, rfl, ho2, by omega, fun p hp => (o2 p (by omega)).trans (fb p hp), ⟨_, hQ2.2.1.1⟩, ?_⟩
      refine gC.up (c_Model_remove l D q H2 (b + 559) w ar hQ2.2.1 c0 org srt bt tn mp hv hN kk hG.1 n chg hG.2.1 tp ht k hk) (by decide) (by decide) (by decide) (by decide) (fun _ _ _ => trivial) ?_ (fun p hp => by omega)
      rintro r1 H3 ⟨(⟨h9, rfl, h2⟩ | ⟨r0, F, h9, _⟩), hz2, fr2⟩
      · exact ⟨_, rfl, fun _ => (vp_at0 _ _).trans rfl, fr2 _ (by omega), ⟨_, _, _, _, _, _, _, _, _, _, _, _, _, _, _, _, _, _, _, _, _, _, _, _, hQ2.model h2 hz2 fr2, rfl, ⟨⟨kk, hG.eq (by omega) rfl rfl rfl rfl rfl⟩, pT.nil rfl, ⟨hv.eq rfl rfl rfl rfl rfl, hN, h3⟩, hf.eq rfl rfl, ⟨ed, hp.eq rfl rfl rfl rfl rfl rfl, by omega⟩, hA.eq rfl rfl rfl rfl rfl rfl rfl, hW.eq rfl rfl rfl rfl rfl rfl⟩⟩, hz2, fun p hp => fr2 p (by omega)⟩
      · cases us_none (hG.2.2.1 _ hm3) hno h9
    · refine gC.up (w_remove l D q H b (b + 588) _ ha.1 G hQ.2.2.1 (nI k) _ _ _ _ _ (fun _ => True) gBlind.tt (fun _ _ _ _ _ _ => trivial) _ ?_ (c_Hall_remove l D q H b c0 ad org srt bt tn mp wk n ks vs chg tp ud tl an aks aus xs us so ha k hk r hyes)) (by decide) (by decide) (by decide) (by decide) (fun _ _ _ => trivial) ?_ (fun p hp => hp.elim (fun h => h) (fun h => by omega))
      · rintro v0 H1 ⟨rfl, h1, hz, fr⟩
        exact ⟨_, rfl, (lQ.hall hQ h1 (by omega) (fun k k1 k2 => Or.inl ⟨k2, rfl⟩) fr).2.1⟩
      rintro r0 H2 ⟨zz, H1, ⟨hval, h1, hz, fr⟩, rfl, ho2, z2e, o2⟩
      injection hval with hval
      injection hval with hval
      subst hval
      obtain ⟨hQ1, ho1, fb⟩ := lQ.hall hQ h1 (by omega) (fun k k1 k2 => Or.inl ⟨k2, rfl⟩) fr
      have hQ2 := hQ1.out ho2 z2e o2
      refine ⟨0, _, Nat.zero_le _, rfl, ho2, by omega, fun p hp => (o2 p (by omega)).trans (fb p hp), ⟨_, hQ2.2.1.1⟩, ?_⟩
      refine gC.up (c_Model_remove l D q H2 (b + 559) w ar hQ2.2.1 c0 org srt bt tn mp hv hN kk hG.1 n chg hG.2.1 tp ht k hk) (by decide) (by decide) (by decide) (by decide) (fun _ _ _ => trivial) ?_ (fun p hp => by omega)
      rintro r1 H3 ⟨(⟨h9, _⟩ | ⟨r0, F, h9, rfl, rfl, h2⟩), hz2, fr2⟩
      · obtain ⟨i, _, e, _⟩ := us_some (hG.2.2.1 _ hm3) (hmS _ hm3) hyes h9
        cases e
      · obtain ⟨i, i1, e, e1, e2⟩ := us_some (hG.2.2.1 _ hm3) (hmS _ hm3) hyes h9
        injection e with e
        subst e
        exact ⟨_, rfl, fun _ => (vp_at0 _ _).trans (by rw [e2]), fr2 _ (by omega), ⟨_, _, _, _, _, _, _, _, _, _, _, _, _, _, _, _, _, _, _, _, _, _, _, _, hQ2.model h2 hz2 fr2, rfl, ⟨⟨_, hG.cut hm3 (hmS _ hm3) hyes.2.1 ⟨by omega, by omega⟩ e1 _ rfl rfl rfl rfl rfl⟩, pT.nil rfl, ⟨hv.eq rfl rfl rfl rfl rfl, hN, h3⟩, hf.eq rfl rfl, ⟨ed, hp.eq rfl rfl rfl rfl rfl rfl, by omega⟩, hA.eq rfl rfl rfl rfl rfl rfl rfl, (hW.chg _ _ _).eq rfl rfl rfl rfl rfl rfl⟩⟩, hz2, fun p hp => fr2 p (by omega)⟩
  · refine gC.up (w_remove_t0 l D q H b (b + 588) _ ha.1 G hQ.2.2.1 v _ _ _ _ _ b xq _ (t_Hall_removeV l D q H b c0 ad org srt bt tn mp wk n ks vs chg tp ud tl an aks aus xs us so ha htr xq v hok)) (by decide) (by decide) (by decide) (by decide) (fun _ _ h => h.1) ?_ (fun p hp => hp.elim (fun h => h) (fun h => by omega))
    rintro r0 H1 ⟨rfl, h1, hz, fr⟩
    obtain ⟨hQ1, ho1, fb⟩ := lQ.hall hQ h1 (by omega) (fun k k1 k2 => Or.inl ⟨k2, rfl⟩) fr
    refine ⟨1, G, by decide, rfl, hQ1.2.2.1, by omega, fb, ⟨_, hQ1.2.1.1⟩, ?_⟩
    refine gC.up (c_Model_removeV l D q H1 (b + 559) w ar hQ1.2.1 c0 hv.1 v hok) (by decide) (by decide) (by decide) (by decide) (fun _ _ _ => trivial) ?_ (fun p hp => by omega)
    rintro r1 H3 ⟨rfl, h2, hz2, fr2⟩
    exact ⟨_, rfl, fun h => absurd h (by decide), fr2 _ (by omega), ⟨_, _, _, _, _, _, _, _, _, _, _, _, _, _, _, _, _, _, _, _, _, _, _, _, hQ1.model h2 hz2 fr2, rfl, ⟨⟨kk, hG.eq (by omega) rfl rfl rfl rfl rfl⟩, ht.eq rfl rfl, ⟨hv.eq rfl rfl rfl rfl rfl, hN, h3⟩, hf.eq rfl rfl, ⟨ed, hp.eq rfl rfl rfl rfl rfl rfl, by omega⟩, hA.eq rfl rfl rfl rfl rfl rfl rfl, hW.eq rfl rfl rfl rfl rfl rfl⟩⟩, hz2, fun p hp => fr2 p (by omega)⟩

set_option maxHeartbeats 4000000 in
theorem l_put (l : Launch) (D : va_G) (q : Nat → ClassId) (b z1 z2 : Nat) (F1 F2 : Nat → Int32) (T : Nat) (x0 : Int32) (H : Heap) (hJ : lJ D q b z1 z2 F1 F2 T x0 H) (htr : ∀ e, l.admits e → e.platform.stackTraces = false) (xq : Nat → ClassId) (v : Int32) (x : Int32) : gC l y_Law_put (Cond.codeWith y_Law_put b_Law_put 5 (some .int) hh_Law_put :: gWS) (gR 10 200 5 22) D CL (gY q) (lE b z1 z2 F1 F2 xq) [.ref b, .int v, .int x, .ref (b + 588)] H (lX l D q b z1 z2 F1 F2 T y_Model_put (Cond.code y_Model_put b_Model_put 7 (some .int) :: gWS) [.int v, .int x] H) 5 22 (fun p => b ≤ p) := by
  obtain ⟨c0, ad, org, srt, bt, tn, mp, wk, n, ks, vs, chg, tp, ud, tl, an, aks, aus, xs, us, so, w, ar, G, hQ, hx0, hP⟩ := hJ
  have ha := hQ.1
  have hR := hQ.2.1
  obtain ⟨⟨kk, hG⟩, ht, ⟨hv, hN, h3⟩, hf, ⟨ed, hp, he⟩, hA, hW⟩ := hP
  have h12 : c0 ≤ 12 := hv.2.2.1
  have hmS : ∀ m, m < 3 → mS (n m) (ks m) := fun m hm => (ha.2.2.2.2.2.2.1 m hm).2
  by_cases hok : h_ok c0 v
  · obtain ⟨k, hk, rfl⟩ := h_okN (by omega) hok
    have hm3 : mp k < 3 := (hN k hk).1
    by_cases hx : ¬ x < 0 ∧ v_in org srt bt k tp = true
    · by_cases hex : ∃ r, r < n (mp k) ∧ ks (mp k) r = tp
      · obtain ⟨r, hr1, hr2⟩ := hex
        refine gC.up (w_put l D q H b (b + 588) _ ha.1 G hQ.2.2.1 (nI k) x _ _ _ _ _ (fun _ => True) gBlind.tt (fun _ _ _ _ _ _ => trivial) _ ?_ (c_Hall_putO l D q H b c0 ad org srt bt tn mp wk n ks vs chg tp ud tl an aks aus xs us so ha k hk x hx.1 hx.2 r hr1 hr2)) (by decide) (by decide) (by decide) (by decide) (fun _ _ _ => trivial) ?_ (fun p hp => hp.elim (fun h => h) (fun h => by omega))
        · rintro v0 H1 ⟨rfl, h1, hz, fr⟩
          exact ⟨_, rfl, (lQ.hall hQ h1 (by omega) (fun k k1 k2 => Or.inl ⟨k2, rfl⟩) fr).2.1⟩
        rintro r0 H2 ⟨zz, H1, ⟨hval, h1, hz, fr⟩, rfl, ho2, z2e, o2⟩
        injection hval with hval
        injection hval with hval
        subst hval
        rw [va_up_id, va_up_id, va_up_id] at h1
        obtain ⟨hQ1, ho1, fb⟩ := lQ.hall hQ h1 (by omega) (fun k k1 k2 => Or.inl ⟨k2, rfl⟩) fr
        have hQ2 := hQ1.out ho2 z2e o2
        refine ⟨0, _, Nat.zero_le _, rfl, ho2, by omega, fun p hp => (o2 p (by omega)).trans (fb p hp), ⟨_, hQ2.2.1.1⟩, ?_⟩
        refine gC.up (c_Model_put l D q H2 (b + 559) w ar hQ2.2.1 c0 org srt bt tn mp hv hN kk hG.1 n chg hG.2.1 tp ht k hk x hx.1 hx.2) (by decide) (by decide) (by decide) (by decide) (fun _ _ _ => trivial) ?_ (fun p hp => by omega)
        rintro r1 H3 ⟨(⟨r0, h9, rfl, h2⟩ | ⟨h9, h64, rfl, h2⟩ | ⟨F, h9, h64, rfl, hF, h2⟩), hz2, fr2⟩
        · obtain ⟨i, i1, e, e1, e2⟩ := ky_some (hG.2.2.1 _ hm3) (hmS _ hm3) hr1 hr2 h9
          injection e with e
          subst e
          exact ⟨_, rfl, fun _ => (vp_at0 _ _).trans (by rw [e2]), fr2 _ (by omega), ⟨_, _, _, _, _, _, _, _, _, _, _, _, _, _, _, _, _, _, _, _, _, _, _, _, hQ2.model h2 hz2 fr2, rfl, ⟨⟨kk, hG.set hm3 (hmS _ hm3) hr1 i1 e1 x rfl rfl rfl rfl rfl⟩, pT.nil rfl, ⟨hv.eq rfl rfl rfl rfl rfl, hN, h3⟩, hf.eq rfl rfl, ⟨ed, hp.eq rfl rfl rfl rfl rfl rfl, by omega⟩, hA.eq rfl rfl rfl rfl rfl rfl rfl, hW.eq rfl rfl rfl rfl rfl rfl⟩⟩, hz2, fun p hp => fr2 p (by omega)⟩
        · obtain ⟨i, _, e, _⟩ := ky_some (hG.2.2.1 _ hm3) (hmS _ hm3) hr1 hr2 h9
          cases e
        · obtain ⟨i, _, e, _⟩ := ky_some (hG.2.2.1 _ hm3) (hmS _ hm3) hr1 hr2 h9
          cases e
      · have hno : ∀ j, j < n (mp k) → ks (mp k) j ≠ tp := fun j hj e => hex ⟨j, hj, e⟩
        by_cases h64n : n (mp k) < 64
        · refine gC.up (w_put l D q H b (b + 588) _ ha.1 G hQ.2.2.1 (nI k) x _ _ _ _ _ (fun _ => True) gBlind.tt (fun _ _ _ _ _ _ => trivial) _ ?_ (c_Hall_putN l D q H b c0 ad org srt bt tn mp wk n ks vs chg tp ud tl an aks aus xs us so ha k hk x hx.1 hx.2 hno h64n)) (by decide) (by decide) (by decide) (by decide) (fun _ _ _ => trivial) ?_ (fun p hp => hp.elim (fun h => h) (fun h => by omega))
          · rintro v0 H1 ⟨r, q1, q2, q3, rfl, h1, hz, fr⟩
            exact ⟨_, rfl, (lQ.hall hQ h1 (by omega) (fun k k1 k2 => Or.inl ⟨k2, rfl⟩) fr).2.1⟩
          rintro r0 H2 ⟨zz, H1, ⟨r, q1, q2, q3, hval, h1, hz, fr⟩, rfl, ho2, z2e, o2⟩
          injection hval with hval
          injection hval with hval
          subst hval
          obtain ⟨hQ1, ho1, fb⟩ := lQ.hall hQ h1 (by omega) (fun k k1 k2 => Or.inl ⟨k2, rfl⟩) fr
          have hQ2 := hQ1.out ho2 z2e o2
          refine ⟨0, _, Nat.zero_le _, rfl, ho2, by omega, fun p hp => (o2 p (by omega)).trans (fb p hp), ⟨_, hQ2.2.1.1⟩, ?_⟩
          refine gC.up (c_Model_put l D q H2 (b + 559) w ar hQ2.2.1 c0 org srt bt tn mp hv hN kk hG.1 n chg hG.2.1 tp ht k hk x hx.1 hx.2) (by decide) (by decide) (by decide) (by decide) (fun _ _ _ => trivial) ?_ (fun p hp => by omega)
          rintro r1 H3 ⟨(⟨r0, h9, rfl, h2⟩ | ⟨h9, h64, rfl, h2⟩ | ⟨F, h9, h64, rfl, hF, h2⟩), hz2, fr2⟩
          · cases ky_none (hG.2.2.1 _ hm3) hno h9
          · exact absurd h64 (by omega)
          · exact ⟨_, rfl, fun _ => (vp_at0 _ _).trans rfl, fr2 _ (by omega), ⟨_, _, _, _, _, _, _, _, _, _, _, _, _, _, _, _, _, _, _, _, _, _, _, _, hQ2.model h2 hz2 fr2, rfl, ⟨⟨_, hG.put hm3 h64 q1 hno ht.2.2.1 ht.2.2.2 rfl rfl hF rfl rfl⟩, pT.nil rfl, ⟨hv.eq rfl rfl rfl rfl rfl, hN, h3⟩, hf.eq rfl rfl, ⟨ed, hp.eq rfl rfl rfl rfl rfl rfl, by omega⟩, hA.eq rfl rfl rfl rfl rfl rfl rfl, (hW.chg _ _ _).eq rfl rfl rfl rfl rfl rfl⟩⟩, hz2, fun p hp => fr2 p (by omega)⟩
        · refine gC.up (w_put_t2 l D q H b (b + 588) _ ha.1 G hQ.2.2.1 (nI k) x _ _ _ _ _ b xq _ (t_Hall_put2 l D q H b c0 ad org srt bt tn mp wk n ks vs chg tp ud tl an aks aus xs us so ha htr xq k hk x hx.1 hx.2 hno (Nat.le_of_not_lt h64n))) (by decide) (by decide) (by decide) (by decide) (fun _ _ h => h.1) ?_ (fun p hp => hp.elim (fun h => h) (fun h => by omega))
          rintro r0 H1 ⟨rfl, h1, hz, fr⟩
          obtain ⟨hQ1, ho1, fb⟩ := lQ.hall hQ h1 (by omega) (fun k k1 k2 => Or.inl ⟨k2, rfl⟩) fr
          refine ⟨3, G, by decide, rfl, hQ1.2.2.1, by omega, fb, ⟨_, hQ1.2.1.1⟩, ?_⟩
          refine gC.up (c_Model_put l D q H1 (b + 559) w ar hQ1.2.1 c0 org srt bt tn mp hv hN kk hG.1 n chg hG.2.1 tp ht k hk x hx.1 hx.2) (by decide) (by decide) (by decide) (by decide) (fun _ _ _ => trivial) ?_ (fun p hp => by omega)
          rintro r1 H3 ⟨(⟨r0, h9, rfl, h2⟩ | ⟨h9, h64, rfl, h2⟩ | ⟨F, h9, h64, rfl, hF, h2⟩), hz2, fr2⟩
          · cases ky_none (hG.2.2.1 _ hm3) hno h9
          · exact ⟨_, rfl, fun h => absurd h (by decide), fr2 _ (by omega), ⟨_, _, _, _, _, _, _, _, _, _, _, _, _, _, _, _, _, _, _, _, _, _, _, _, hQ1.model h2 hz2 fr2, rfl, ⟨⟨kk, hG.eq (by omega) rfl rfl rfl rfl rfl⟩, pT.nil rfl, ⟨hv.eq rfl rfl rfl rfl rfl, hN, h3⟩, hf.eq rfl rfl, ⟨ed, hp.eq rfl rfl rfl rfl rfl rfl, by omega⟩, hA.eq rfl rfl rfl rfl rfl rfl rfl, hW.eq rfl rfl rfl rfl rfl rfl⟩⟩, hz2, fun p hp => fr2 p (by omega)⟩
          · exact absurd h64 (by omega)
    · refine gC.up (w_put_t1 l D q H b (b + 588) _ ha.1 G hQ.2.2.1 (nI k) x _ _ _ _ _ b xq _ (t_Hall_put1 l D q H b c0 ad org srt bt tn mp wk n ks vs chg tp ud tl an aks aus xs us so ha htr xq k hk x hx)) (by decide) (by decide) (by decide) (by decide) (fun _ _ h => h.1) ?_ (fun p hp => hp.elim (fun h => h) (fun h => by omega))
      rintro r0 H1 ⟨rfl, h1, hz, fr⟩
      obtain ⟨hQ1, ho1, fb⟩ := lQ.hall hQ h1 (by omega) (fun k k1 k2 => Or.inl ⟨k2, rfl⟩) fr
      refine ⟨2, G, by decide, rfl, hQ1.2.2.1, by omega, fb, ⟨_, hQ1.2.1.1⟩, ?_⟩
      refine gC.up (c_Model_put1 l D q H1 (b + 559) w ar hQ1.2.1 c0 org srt bt tn mp hv hN tp ht k hk x (by by_cases h0 : x < 0; exact Or.inl h0; exact Or.inr (fun h1 => hx ⟨h0, h1⟩))) (by decide) (by decide) (by decide) (by decide) (fun _ _ _ => trivial) ?_ (fun p hp => by omega)
      rintro r1 H3 ⟨rfl, h2, hz2, fr2⟩
      exact ⟨_, rfl, fun h => absurd h (by decide), fr2 _ (by omega), ⟨_, _, _, _, _, _, _, _, _, _, _, _, _, _, _, _, _, _, _, _, _, _, _, _, hQ1.model h2 hz2 fr2, rfl, ⟨⟨kk, hG.eq (by omega) rfl rfl rfl rfl rfl⟩, pT.nil rfl, ⟨hv.eq rfl rfl rfl rfl rfl, hN, h3⟩, hf.eq rfl rfl, ⟨ed, hp.eq rfl rfl rfl rfl rfl rfl, by omega⟩, hA.eq rfl rfl rfl rfl rfl rfl rfl, hW.eq rfl rfl rfl rfl rfl rfl⟩⟩, hz2, fun p hp => fr2 p (by omega)⟩
  · refine gC.up (w_put_t0 l D q H b (b + 588) _ ha.1 G hQ.2.2.1 v x _ _ _ _ _ b xq _ (t_Hall_putV l D q H b c0 ad org srt bt tn mp wk n ks vs chg tp ud tl an aks aus xs us so ha htr xq v hok x)) (by decide) (by decide) (by decide) (by decide) (fun _ _ h => h.1) ?_ (fun p hp => hp.elim (fun h => h) (fun h => by omega))
    rintro r0 H1 ⟨rfl, h1, hz, fr⟩
    obtain ⟨hQ1, ho1, fb⟩ := lQ.hall hQ h1 (by omega) (fun k k1 k2 => Or.inl ⟨k2, rfl⟩) fr
    refine ⟨1, G, by decide, rfl, hQ1.2.2.1, by omega, fb, ⟨_, hQ1.2.1.1⟩, ?_⟩
    refine gC.up (c_Model_putV l D q H1 (b + 559) w ar hQ1.2.1 c0 hv.1 v hok x) (by decide) (by decide) (by decide) (by decide) (fun _ _ _ => trivial) ?_ (fun p hp => by omega)
    rintro r1 H3 ⟨rfl, h2, hz2, fr2⟩
    exact ⟨_, rfl, fun h => absurd h (by decide), fr2 _ (by omega), ⟨_, _, _, _, _, _, _, _, _, _, _, _, _, _, _, _, _, _, _, _, _, _, _, _, hQ1.model h2 hz2 fr2, rfl, ⟨⟨kk, hG.eq (by omega) rfl rfl rfl rfl rfl⟩, ht.eq rfl rfl, ⟨hv.eq rfl rfl rfl rfl rfl, hN, h3⟩, hf.eq rfl rfl, ⟨ed, hp.eq rfl rfl rfl rfl rfl rfl, by omega⟩, hA.eq rfl rfl rfl rfl rfl rfl rfl, hW.eq rfl rfl rfl rfl rfl rfl⟩⟩, hz2, fun p hp => fr2 p (by omega)⟩
