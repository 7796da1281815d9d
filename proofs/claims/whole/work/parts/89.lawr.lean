/-! view: printed by wip/specs/lawr.py -/
theorem pV_push {w w1 : Nat → Int32} {ar ar1 : Nat → Nat → Int32} {c0 k s1 : Nat} {org : Nat → Option Nat} {srt : Nat → Nat} {bt : Nat → List Nat} {tp : List Nat} (h : pV w ar c0 org srt bt) (hc : c0 < 12) (h8 : w1 8 = nI (c0 + 1)) (h7 : ar1 7 = upd (ar 7) c0 (nI k)) (h8a : ar1 8 = upd (ar 8) c0 (nI s1)) (h9 : ar1 9 = upd (ar 9) c0 (nI tp.length)) (h10 : tCp (ar1 10) (ar 10) (8 * c0) tp tp.length) (htp : tp.length ≤ 8) (h16 : t16 tp) : pV w1 ar1 (c0 + 1) (va_up org c0 (some k)) (va_up srt c0 s1) (va_up bt c0 tp) := by
  have h3 := h.2.1
  refine ⟨h8, by omega, by omega, fun j hj => ?_⟩
  by_cases e : j = c0
  · subst e
    rw [va_up_self, va_up_self, va_up_self]
    exact ⟨by rw [h7]; exact if_pos rfl, fun i hi => ⟨by rw [h8a]; exact if_pos rfl, by rw [h9]; exact if_pos rfl, h10.1⟩, htp, h16⟩
  · rw [va_up_ne _ _ e, va_up_ne _ _ e, va_up_ne _ _ e]
    have old := h.2.2.2 j (by omega)
    have o8 := old.2.2.1
    exact ⟨by rw [h7]; exact (if_neg e).trans old.1, fun i hi => ⟨by rw [h8a]; exact (if_neg e).trans (old.2.1 i hi).1, by rw [h9]; exact (if_neg e).trans (old.2.1 i hi).2.1, fun x hx => by rw [h10.2 _ (Or.inl (by omega))]; exact (old.2.1 i hi).2.2 x hx⟩, old.2.2⟩
theorem pN.push {c0 k s1 : Nat} {org : Nat → Option Nat} {srt tn mp : Nat → Nat} (h : pN c0 org srt tn mp) (hk : k < c0) (hs : s1 ≤ 3) : pN (c0 + 1) (va_up org c0 (some k)) (va_up srt c0 s1) (va_up tn c0 (v_tn s1 (tn k))) (va_up mp c0 (mp k)) := by
  intro j hj
  by_cases e : j = c0
  · subst e
    have hne : k ≠ j := by omega
    rw [va_up_self, va_up_self, va_up_self, va_up_self]
    refine ⟨(h k hk).1, v_tn_le _ _, (fun e => by cases e), fun i hi => ?_⟩
    injection hi with hi
    subst hi
    rw [va_up_ne _ _ hne, va_up_ne _ _ hne]
    exact ⟨hk, rfl, rfl, hs⟩
  · rw [va_up_ne _ _ e, va_up_ne _ _ e, va_up_ne _ _ e, va_up_ne _ _ e]
    have old := h j (by omega)
    refine ⟨old.1, old.2.1, old.2.2.1, fun i hi => ?_⟩
    have o2 := old.2.2.2 i hi
    have e2 : i ≠ c0 := by have := o2.1; omega
    rw [va_up_ne _ _ e2, va_up_ne _ _ e2]
    exact o2
theorem lW.push {ar : Nat → Nat → Int32} {c0 : Nat} {org : Nat → Option Nat} {srt : Nat → Nat} {bt : Nat → List Nat} {tn mp : Nat → Nat} {wk : Nat → Nat × Nat × Nat × Nat} {n : Nat → Nat} {ks : Nat → Nat → List Nat} {chg : Nat → Nat} (h : lW ar c0 org srt bt tn mp wk n ks chg) (hN : pN c0 org srt tn mp) (ov : Option Nat) (s1 tv mv : Nat) (tp : List Nat) : lW ar (c0 + 1) (va_up org c0 ov) (va_up srt c0 s1) (va_up bt c0 tp) (va_up tn c0 tv) (va_up mp c0 mv) (va_up wk c0 (0, 0, 0, 0)) n ks chg := by
  refine ⟨fun j hj => ?_, fun j hj => h.2 j (by omega)⟩
  by_cases e : j = c0
  · subst e
    rw [va_up_self wk]
    have h9 := h.2 j (Nat.le_refl _)
    exact ⟨⟨h9.1, Nat.zero_le _⟩, ⟨h9.2.1, Nat.zero_le _⟩, ⟨h9.2.2, Nat.zero_le _⟩, Nat.zero_le _, fun h8 => absurd rfl h8⟩
  · have hj2 : j < c0 := by omega
    have e1 : v_in (va_up org c0 ov) (va_up srt c0 s1) (va_up bt c0 tp) j = v_in org srt bt j := funext (fun xs => v_in_up (j + 1) j (fun a ha => ⟨va_up_ne _ _ (by omega), va_up_ne _ _ (by omega), va_up_ne _ _ (by omega)⟩) (hN.lt hj2))
    rw [e1, va_up_ne _ _ e, va_up_ne _ _ e, va_up_ne _ _ e]
    exact h.1 j hj2

set_option maxHeartbeats 4000000 in
theorem l_view (l : Launch) (D : va_G) (q : Nat → ClassId) (b z1 z2 : Nat) (F1 F2 : Nat → Int32) (T : Nat) (x0 : Int32) (H : Heap) (hJ : lJ D q b z1 z2 F1 F2 T x0 H) (htr : ∀ e, l.admits e → e.platform.stackTraces = false) (xq : Nat → ClassId) (v : Int32) (x : Int32) : gC l y_Law_view (Cond.codeWith y_Law_view b_Law_view 5 (some .int) hh_Law_view :: gWS) (gR 10 200 5 22) D CL (gY q) (lE b z1 z2 F1 F2 xq) [.ref b, .int v, .int x, .ref (b + 588)] H (lX l D q b z1 z2 F1 F2 T y_Model_view (Cond.code y_Model_view b_Model_view 6 (some .int) :: gWS) [.int v, .int x] H) 5 22 (fun p => b ≤ p) := by
  obtain ⟨c0, ad, org, srt, bt, tn, mp, wk, n, ks, vs, chg, tp, ud, tl, an, aks, aus, xs, us, so, w, ar, G, hQ, hx0, hP⟩ := hJ
  have ha := hQ.1
  have hR := hQ.2.1
  obtain ⟨⟨kk, hG⟩, ht, ⟨hv, hN, h3⟩, hf, ⟨ed, hp, he⟩, hA, hW⟩ := hP
  have h12 : c0 ≤ 12 := hv.2.2.1
  have hmS : ∀ m, m < 3 → mS (n m) (ks m) := fun m hm => (ha.2.2.2.2.2.2.1 m hm).2
  by_cases hok : h_ok c0 v
  · obtain ⟨k, hk, rfl⟩ := h_okN (by omega) hok
    have hm3 : mp k < 3 := (hN k hk).1
    by_cases hx : ¬ x < 0 ∧ x ≤ nI 3
    · obtain ⟨s1, hs1, rfl⟩ := ix_le (by decide) hx
      by_cases hc : c0 < 12
      · refine gC.up (w_view l D q H b (b + 588) _ ha.1 G hQ.2.2.1 (nI k) (nI s1) _ _ _ _ _ (fun U => va_Nw (.methodLinkNest R_View 36 y_Walker_init "KeyHall") U) gBlind.nw (fun _ _ h _ _ hW => va_Nw.warmM hW h) _ ?_ (c_Hall_view l D q H b c0 ad org srt bt tn mp wk n ks vs chg tp ud tl an aks aus xs us so ha k hk s1 hs1 hc H.size rfl)) (by decide) (by decide) (by decide) (by decide) (fun _ _ h => h.2.1) ?_ (fun p hp => hp.elim (fun h => h) (fun h => by omega))
        · rintro v0 H1 ⟨rfl, h1, hz, fr⟩
          exact ⟨_, rfl, (lQ.hall hQ h1 (by omega) (fun j j1 j2 => by by_cases e : j = c0; exact Or.inr (by rw [e, va_up_self]; exact Nat.le_refl _); exact Or.inl ⟨by omega, va_up_ne _ _ e⟩) fr).2.1⟩
        rintro r0 H2 ⟨zz, H1, ⟨hval, h1, hz, fr⟩, rfl, ho2, z2e, o2⟩
        injection hval with hval
        injection hval with hval
        subst hval
        obtain ⟨hQ1, ho1, fb⟩ := lQ.hall hQ h1 (by omega) (fun j j1 j2 => by by_cases e : j = c0; exact Or.inr (by rw [e, va_up_self]; exact Nat.le_refl _); exact Or.inl ⟨by omega, va_up_ne _ _ e⟩) fr
        have hQ2 := hQ1.out ho2 z2e o2
        refine ⟨0, _, Nat.zero_le _, rfl, ho2, by omega, fun p hp => (o2 p (by omega)).trans (fb p hp), ⟨_, hQ2.2.1.1⟩, ?_⟩
        refine gC.up (c_Model_view l D q H2 (b + 559) w ar hQ2.2.1 c0 org srt bt tn mp hv hN tp ht k hk s1 hs1 hc) (by decide) (by decide) (by decide) (by decide) (fun _ _ _ => trivial) ?_ (fun p hp => by omega)
        rintro r1 H3 ⟨F, ⟨rfl, hF⟩, h2, hz2, fr2⟩
        exact ⟨_, rfl, fun _ => (vp_at0 _ _).trans rfl, fr2 _ (by omega), ⟨_, _, _, _, _, _, _, _, _, _, _, _, _, _, _, _, _, _, _, _, _, _, _, _, hQ2.model h2 hz2 fr2, rfl, ⟨⟨kk, hG.eq (by omega) rfl rfl rfl rfl rfl⟩, pT.nil rfl, ⟨pV_push hv hc rfl rfl rfl rfl hF ht.2.2.1 ht.2.2.2, hN.push hk hs1, fun j hj => (va_up_ne _ _ (by have := hv.2.1; omega)).trans (h3 j hj)⟩, hf.eq rfl rfl, ⟨ed, hp.eq rfl rfl rfl rfl rfl rfl, by omega⟩, hA.eq rfl rfl rfl rfl rfl rfl rfl, (lW.push hW hN _ _ _ _ _).eq rfl rfl rfl rfl rfl rfl⟩⟩, hz2, fun p hp => fr2 p (by omega)⟩
      · refine gC.up (w_view l D q H b (b + 588) _ ha.1 G hQ.2.2.1 (nI k) (nI s1) _ _ _ _ _ (fun _ => True) gBlind.tt (fun _ _ _ _ _ _ => trivial) _ ?_ (c_Hall_viewF l D q H b c0 ad org srt bt tn mp wk n ks vs chg tp ud tl an aks aus xs us so ha k hk s1 hs1 (Nat.le_of_not_lt hc))) (by decide) (by decide) (by decide) (by decide) (fun _ _ _ => trivial) ?_ (fun p hp => hp.elim (fun h => h) (fun h => by omega))
        · rintro v0 H1 ⟨rfl, h1, hz, fr⟩
          exact ⟨_, rfl, (lQ.hall hQ h1 (by omega) (fun k k1 k2 => Or.inl ⟨k2, rfl⟩) fr).2.1⟩
        rintro r0 H2 ⟨zz, H1, ⟨hval, h1, hz, fr⟩, rfl, ho2, z2e, o2⟩
        injection hval with hval
        injection hval with hval
        subst hval
        obtain ⟨hQ1, ho1, fb⟩ := lQ.hall hQ h1 (by omega) (fun k k1 k2 => Or.inl ⟨k2, rfl⟩) fr
        have hQ2 := hQ1.out ho2 z2e o2
        refine ⟨0, _, Nat.zero_le _, rfl, ho2, by omega, fun p hp => (o2 p (by omega)).trans (fb p hp), ⟨_, hQ2.2.1.1⟩, ?_⟩
        refine gC.up (c_Model_viewF l D q H2 (b + 559) w ar hQ2.2.1 c0 org srt bt tn mp hv hN tp ht k hk s1 hs1 (by omega)) (by decide) (by decide) (by decide) (by decide) (fun _ _ _ => trivial) ?_ (fun p hp => by omega)
        rintro r1 H3 ⟨rfl, h2, hz2, fr2⟩
        exact ⟨_, rfl, fun _ => (vp_at0 _ _).trans rfl, fr2 _ (by omega), ⟨_, _, _, _, _, _, _, _, _, _, _, _, _, _, _, _, _, _, _, _, _, _, _, _, hQ2.model h2 hz2 fr2, rfl, ⟨⟨kk, hG.eq (by omega) rfl rfl rfl rfl rfl⟩, pT.nil rfl, ⟨hv.eq rfl rfl rfl rfl rfl, hN, h3⟩, hf.eq rfl rfl, ⟨ed, hp.eq rfl rfl rfl rfl rfl rfl, by omega⟩, hA.eq rfl rfl rfl rfl rfl rfl rfl, hW.eq rfl rfl rfl rfl rfl rfl⟩⟩, hz2, fun p hp => fr2 p (by omega)⟩
    · refine gC.up (w_view_t0 l D q H b (b + 588) _ ha.1 G hQ.2.2.1 (nI k) x _ _ _ _ _ b xq _ (t_Hall_view0 l D q H b c0 ad org srt bt tn mp wk n ks vs chg tp ud tl an aks aus xs us so ha htr xq k hk x hx)) (by decide) (by decide) (by decide) (by decide) (fun _ _ h => h.1) ?_ (fun p hp => hp.elim (fun h => h) (fun h => by omega))
      rintro r0 H1 ⟨rfl, h1, hz, fr⟩
      obtain ⟨hQ1, ho1, fb⟩ := lQ.hall hQ h1 (by omega) (fun k k1 k2 => Or.inl ⟨k2, rfl⟩) fr
      refine ⟨1, G, by decide, rfl, hQ1.2.2.1, by omega, fb, ⟨_, hQ1.2.1.1⟩, ?_⟩
      refine gC.up (c_Model_viewV l D q H1 (b + 559) w ar hQ1.2.1 c0 hv.1 (nI k) x (fun h9 => hx h9.2)) (by decide) (by decide) (by decide) (by decide) (fun _ _ _ => trivial) ?_ (fun p hp => by omega)
      rintro r1 H3 ⟨rfl, h2, hz2, fr2⟩
      exact ⟨_, rfl, fun h => absurd h (by decide), fr2 _ (by omega), ⟨_, _, _, _, _, _, _, _, _, _, _, _, _, _, _, _, _, _, _, _, _, _, _, _, hQ1.model h2 hz2 fr2, rfl, ⟨⟨kk, hG.eq (by omega) rfl rfl rfl rfl rfl⟩, ht.eq rfl rfl, ⟨hv.eq rfl rfl rfl rfl rfl, hN, h3⟩, hf.eq rfl rfl, ⟨ed, hp.eq rfl rfl rfl rfl rfl rfl, by omega⟩, hA.eq rfl rfl rfl rfl rfl rfl rfl, hW.eq rfl rfl rfl rfl rfl rfl⟩⟩, hz2, fun p hp => fr2 p (by omega)⟩
  · refine gC.up (w_view_t0 l D q H b (b + 588) _ ha.1 G hQ.2.2.1 v x _ _ _ _ _ b xq _ (t_Hall_viewV l D q H b c0 ad org srt bt tn mp wk n ks vs chg tp ud tl an aks aus xs us so ha htr xq v hok x)) (by decide) (by decide) (by decide) (by decide) (fun _ _ h => h.1) ?_ (fun p hp => hp.elim (fun h => h) (fun h => by omega))
    rintro r0 H1 ⟨rfl, h1, hz, fr⟩
    obtain ⟨hQ1, ho1, fb⟩ := lQ.hall hQ h1 (by omega) (fun k k1 k2 => Or.inl ⟨k2, rfl⟩) fr
    refine ⟨1, G, by decide, rfl, hQ1.2.2.1, by omega, fb, ⟨_, hQ1.2.1.1⟩, ?_⟩
    refine gC.up (c_Model_viewV l D q H1 (b + 559) w ar hQ1.2.1 c0 hv.1 v x (fun h9 => hok h9.1)) (by decide) (by decide) (by decide) (by decide) (fun _ _ _ => trivial) ?_ (fun p hp => by omega)
    rintro r1 H3 ⟨rfl, h2, hz2, fr2⟩
    exact ⟨_, rfl, fun h => absurd h (by decide), fr2 _ (by omega), ⟨_, _, _, _, _, _, _, _, _, _, _, _, _, _, _, _, _, _, _, _, _, _, _, _, hQ1.model h2 hz2 fr2, rfl, ⟨⟨kk, hG.eq (by omega) rfl rfl rfl rfl rfl⟩, ht.eq rfl rfl, ⟨hv.eq rfl rfl rfl rfl rfl, hN, h3⟩, hf.eq rfl rfl, ⟨ed, hp.eq rfl rfl rfl rfl rfl rfl, by omega⟩, hA.eq rfl rfl rfl rfl rfl rfl rfl, hW.eq rfl rfl rfl rfl rfl rfl⟩⟩, hz2, fun p hp => fr2 p (by omega)⟩
