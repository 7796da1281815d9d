/-! the class KeyHall: printed by wip/specs/hall.py -/
set_option maxHeartbeats 4000000 in
set_option maxRecDepth 100000 in
theorem c_Hall_useTape (l : Launch) (D : va_G) (q : Nat → ClassId) (H : Heap) (b c0 : Nat) (ho : hO D H b c0) (tp ud : List Nat) (htp : kA D q H (b + 1) tp) (hud : kA D q H (b + 3) ud) : gC l y_Hall_useTape (Cond.code y_Hall_useTape b_Hall_useTape 1 none :: gWS) (gR 2 39 0 0) D CL (gY q) (fun _ => True) [.ref b] H (fun v H1 => v = none ∧ kA D q H1 (b + 1) [] ∧ kA D q H1 (b + 3) tp ∧ H1.size = H.size ∧ ∀ p : Nat, ¬ (b + 1 ≤ p ∧ p ≤ b + 4) → H1[p]? = H[p]?) 0 0 (fun p => b + 1 ≤ p ∧ p ≤ b + 4) := by
  refine gC.ofW R_Hall "useTape" (by decide) rfl rfl ?_
  intro p e s m below meth c hadm X hE hH B hne
  refine g_entry [some (.ref b)] rfl rfl (Nat.le_of_ble_eq_true rfl) (fun ls hl => ?_)
  refine lv_aload_n X.1.1 X.1.2.1 d_Hall_useTape_0 rfl (gl_at hl rfl) ?_
  refine g_get X kc_Hall ho 1 (by decide) lk_Hall_16 rfl d_Hall_useTape_1 ?_
  refine lv_aload_n X.1.1 X.1.2.1 d_Hall_useTape_4 rfl (gl_at hl rfl) ?_
  refine g_get X kc_Hall ho 0 (by decide) lk_Hall_10 rfl d_Hall_useTape_5 ?_
  refine g_cv (A := (fun p => b + 1 ≤ p ∧ p ≤ b + 4)) X gWS_good mw_Hall_248 kc_Key hud.1 (c_Key_become l D q H (b + 3) (b + 1) ud tp hud htp (by omega)) (fun _ _ _ => trivial) gBlind.tt rfl rfl hl.1 (Nat.le_of_ble_eq_true rfl) rfl rfl ⟨by decide, by decide⟩ ⟨by decide, by decide⟩ d_Hall_useTape_8 (fun p h => show _ ∧ _ by omega) (fun _ h => by cases h) (fun v1 H2 locs hp3 hL => ?_)
  obtain ⟨rfl, hud1, hz1, fr1⟩ := hp3
  replace ho := va_at.kept ho (fr1 _ (by omega))
  replace htp := htp.kept (fr1 _ (by omega)) (fr1 _ (by omega))
  refine lv_aload_n X.1.1 X.1.2.1 d_Hall_useTape_11 rfl (gl_at hl rfl) ?_
  refine g_get X kc_Hall ho 0 (by decide) lk_Hall_10 rfl d_Hall_useTape_12 ?_
  refine g_cv (A := (fun p => b + 1 ≤ p ∧ p ≤ b + 4)) X gWS_good mw_Hall_251 kc_Key htp.1 (c_Key_clear l D q H2 (b + 1) tp htp) (fun _ _ _ => trivial) gBlind.tt rfl rfl hl.1 (Nat.le_of_ble_eq_true rfl) rfl rfl ⟨by decide, by decide⟩ ⟨by decide, by decide⟩ d_Hall_useTape_15 (fun p h => show _ ∧ _ by omega) hL (fun v4 H5 locs hp6 hL => ?_)
  obtain ⟨rfl, htp2, hz2, fr2⟩ := hp6
  exact g_vret X B ⟨rfl, htp2, hud1.kept (fr2 _ (by omega)) (fr2 _ (by omega)), hz2.trans hz1, fun p hp => (fr2 p (by omega)).trans (fr1 p (by omega))⟩ hL d_Hall_useTape_18 (by omega) (by omega)

set_option maxHeartbeats 4000000 in
set_option maxRecDepth 100000 in
theorem c_Hall_isView (l : Launch) (D : va_G) (q : Nat → ClassId) (H : Heap) (b c0 : Nat) (ho : hO D H b c0) (v : Int32) : gC l y_Hall_isView (Cond.code y_Hall_isView b_Hall_isView 2 (some .boolean) :: gWS) (gR 0 0 0 0) D CL (gY q) (fun _ => True) [.ref b, .int v] H (fun v1 H1 => v1 = some (.int (nI (if h_ok c0 v then 1 else 0))) ∧ H1 = H) 0 0 (fun _ => False) := by
  refine gC.ofW R_Hall "isView" (by decide) rfl rfl ?_
  intro p e s m below meth c hadm X hE hH B hne
  refine g_entry [some (.ref b), some (.int v)] rfl rfl (Nat.le_of_ble_eq_true rfl) (fun ls hl => ?_)
  refine lv_iload_n X.1.1 X.1.2.1 d_Hall_isView_0 rfl (gl_at hl rfl) ?_
  refine lv_if_lt X.1.1 X.1.2.1 d_Hall_isView_1 rfl (fun hc1 => ?_) (fun hc1 => ?_)
  · refine lv_iconst (v := nI 0) X.1.1 X.1.2.1 d_Hall_isView_16 (by decide) ?_
    exact g_zret X B (by decide) ⟨by rw [if_neg (fun h => by first | exact h.1 hc1 | exact h.2 hc9)], rfl⟩ (fun _ h => by cases h) d_Hall_isView_17 (by omega) (by omega)
  · refine lv_iload_n X.1.1 X.1.2.1 d_Hall_isView_4 rfl (gl_at hl rfl) ?_
    refine lv_aload_n X.1.1 X.1.2.1 d_Hall_isView_5 rfl (gl_at hl rfl) ?_
    refine g_get X kc_Hall ho 4 (by decide) lk_Hall_34 rfl d_Hall_isView_6 ?_
    refine lv_icmp_ge X.1.1 X.1.2.1 d_Hall_isView_9 rfl (fun hc9 => ?_) (fun hc9 => ?_)
    · refine lv_iconst (v := nI 0) X.1.1 X.1.2.1 d_Hall_isView_16 (by decide) ?_
      exact g_zret X B (by decide) ⟨by rw [if_neg (fun h => by first | exact h.1 hc1 | exact h.2 hc9)], rfl⟩ (fun _ h => by cases h) d_Hall_isView_17 (by omega) (by omega)
    · refine lv_iconst (v := nI 1) X.1.1 X.1.2.1 d_Hall_isView_12 (by decide) ?_
      refine lv_goto X.1.1 X.1.2.1 d_Hall_isView_13 rfl ?_
      exact g_zret X B (by decide) ⟨by rw [if_pos ⟨hc1, hc9⟩], rfl⟩ (fun _ h => by cases h) d_Hall_isView_17 (by omega) (by omega)

set_option maxHeartbeats 4000000 in
set_option maxRecDepth 100000 in
theorem c_Hall_viewNumbered (l : Launch) (D : va_G) (q : Nat → ClassId) (H : Heap) (b c0 : Nat) (ho : hO D H b c0) (ad : Nat → Nat) (hf : hF D q H b c0 ad) (hc12 : c0 ≤ 12) (k : Nat) (hk : k < c0) : gC l y_Hall_viewNumbered (Cond.code y_Hall_viewNumbered b_Hall_viewNumbered 2 (some (.object "KeyHall$View")) :: gWS) (gR 6 81 0 0) D CL (gY q) (fun _ => True) [.ref b, .int (nI k)] H (fun v1 H1 => v1 = some (.ref (ad k)) ∧ H1 = H) 0 0 (fun _ => False) := by
  refine gC.ofW R_Hall "viewNumbered" (by decide) rfl rfl ?_
  intro p e s m below meth c hadm X hE hH B hne
  refine g_entry [some (.ref b), some (.int (nI k))] rfl rfl (Nat.le_of_ble_eq_true rfl) (fun ls hl => ?_)
  obtain ⟨vf, hvf, hvg⟩ := hf
  refine lv_aload_n X.1.1 X.1.2.1 d_Hall_viewNumbered_0 rfl (gl_at hl rfl) ?_
  refine lv_iload_n X.1.1 X.1.2.1 d_Hall_viewNumbered_1 rfl (gl_at hl rfl) ?_
  refine g_cv (A := (fun _ => False)) X gWS_good mw_Hall_114 kc_Hall ho (c_Hall_isView l D q H b c0 ho (nI k)) (fun _ _ _ => trivial) gBlind.tt rfl rfl hl.1 (Nat.le_of_ble_eq_true rfl) rfl rfl ⟨by decide, by decide⟩ ⟨by decide, by decide⟩ d_Hall_viewNumbered_2 (fun _ h => h.elim) (fun _ h => by cases h) (fun v1 H2 locs hp3 hL => ?_)
  obtain ⟨rfl, hHe⟩ := hp3
  rw [hHe]
  refine lv_if_ne X.1.1 X.1.2.1 d_Hall_viewNumbered_5 rfl (fun hc5 => ?_) (fun hc5 => ?_)
  · replace hc5 := gz_t hc5
    refine lv_aload_n X.1.1 X.1.2.1 d_Hall_viewNumbered_16 rfl (gl_at hl rfl) ?_
    refine g_get X kc_Hall ho 3 (by decide) lk_Hall_24 rfl d_Hall_viewNumbered_17 ?_
    refine lv_iload_n X.1.1 X.1.2.1 d_Hall_viewNumbered_20 rfl (gl_at hl rfl) ?_
    refine g_aald X 4 hvf rfl k (by omega) (by decide) (v := .ref (ad k)) (by rw [hvg _ (by omega)]; rfl) d_Hall_viewNumbered_21 ?_
    exact g_aret X B ⟨rfl, rfl⟩ hL d_Hall_viewNumbered_22 (by omega) (by omega)
  · replace hc5 := gz_f hc5
    exact absurd (h_ok_of (by omega) hk) hc5

set_option maxHeartbeats 4000000 in
set_option maxRecDepth 100000 in
theorem t_Hall_viewNumbered (l : Launch) (D : va_G) (q : Nat → ClassId) (H : Heap) (b c0 : Nat) (ho : hO D H b c0) (htr : ∀ e, l.admits e → e.platform.stackTraces = false) (xq : Nat → ClassId) (v : Int32) (hv : ¬ h_ok c0 v) : gT l y_Hall_viewNumbered (Cond.code y_Hall_viewNumbered b_Hall_viewNumbered 2 (some (.object "KeyHall$View")) :: gWS) (gR 6 81 1 6) D CL (gY q) (fun U => gEs b xq U) [.ref b, .int v] H (fun x H1 => (∃ ce : Cell, H1[x]? = some ce ∧ ce.cls = xq 0 ∧ ce.vm = .none) ∧ x = H.size ∧ H1.size = H.size + 1 ∧ ∀ p : Nat, p < H.size → H1[p]? = H[p]?) 1 6 (fun p => b ≤ p) := by
  refine gT.ofW R_Hall "viewNumbered" (by decide) rfl rfl ?_
  intro p e s m below meth c hadm X hE hH B hne
  refine g_entry [some (.ref b), some (.int v)] rfl rfl (Nat.le_of_ble_eq_true rfl) (fun ls hl => ?_)
  refine lv_aload_n X.1.1 X.1.2.1 d_Hall_viewNumbered_0 rfl (gl_at hl rfl) ?_
  refine lv_iload_n X.1.1 X.1.2.1 d_Hall_viewNumbered_1 rfl (gl_at hl rfl) ?_
  refine g_cv (A := (fun p => b ≤ p)) X gWS_good mw_Hall_114 kc_Hall ho (c_Hall_isView l D q H b c0 ho v) (fun _ _ _ => trivial) gBlind.tt rfl rfl hl.1 (Nat.le_of_ble_eq_true rfl) rfl rfl ⟨by decide, by decide⟩ ⟨by decide, by decide⟩ d_Hall_viewNumbered_2 (fun _ h => h.elim) (fun _ h => by cases h) (fun v1 H2 locs hp3 hL => ?_)
  obtain ⟨rfl, hHe⟩ := hp3
  rw [hHe]
  refine lv_if_ne X.1.1 X.1.2.1 d_Hall_viewNumbered_5 rfl (fun hc5 => ?_) (fun hc5 => ?_)
  · replace hc5 := gz_t hc5
    exact absurd hc5 hv
  · replace hc5 := gz_f hc5
    exact g_throw X B hne htr hE 0 (by decide) hL hl.1 (h := H.size) rfl (by rw [hH]; exact Nat.le_refl _) d_Hall_viewNumbered_8 d_Hall_viewNumbered_11 d_Hall_viewNumbered_12 d_Hall_viewNumbered_15 (by decide) (by decide) (by decide) (by decide) (fun H1 ce h1 h2 h3 h4 h5 => ⟨⟨ce, h1, h2, h3⟩, rfl, h4, h5⟩) hL (by decide) (by decide)

set_option maxHeartbeats 4000000 in
set_option maxRecDepth 100000 in
theorem c_Hall_measured (l : Launch) (D : va_G) (q : Nat → ClassId) (H : Heap) (b c0 : Nat) (ho : hO D H b c0) (ad : Nat → Nat) (org : Nat → Option Nat) (srt : Nat → Nat) (bt : Nat → List Nat) (tn mp : Nat → Nat) (hd : hD H.size b c0 ad) (hf : hF D q H b c0 ad) (hNN : hN c0 org srt tn mp) (hVV : hV D q H b c0 ad org srt bt tn mp) (n : Nat → Nat) (ks : Nat → Nat → List Nat) (vs : Nat → Nat → Int32) (chg : Nat → Nat) (hmm : hM D q H b n ks vs chg) (k : Nat) (hk : k < c0) : gC l y_Hall_measured (Cond.code y_Hall_measured b_Hall_measured 3 (some (.object "KeyHall$View")) :: gWS) (gR 7 107 0 0) D CL (gY q) (fun _ => True) [.ref b, .int (nI k)] H (fun v1 H1 => ∃ f0 t0 : Nat, v1 = some (.ref (ad k)) ∧ hVc D H1 b ad org srt tn mp k f0 t0 ∧ v_ms org srt bt k (n (mp k)) (ks (mp k)) f0 t0 ∧ H1.size = H.size ∧ ∀ p : Nat, p ≠ ad k → H1[p]? = H[p]?) 0 0 (fun p => p = ad k) := by
  refine gC.ofW R_Hall "measured" (by decide) rfl rfl ?_
  intro p e s m below meth c hadm X hE hH B hne
  refine g_entry [some (.ref b), some (.int (nI k)), none] rfl rfl (Nat.le_of_ble_eq_true rfl) (fun ls hl => ?_)
  refine lv_aload_n X.1.1 X.1.2.1 d_Hall_measured_0 rfl (gl_at hl rfl) ?_
  refine lv_iload_n X.1.1 X.1.2.1 d_Hall_measured_1 rfl (gl_at hl rfl) ?_
  refine g_cv (A := (fun p => p = ad k)) X gWS_good mw_Hall_67 kc_Hall ho (c_Hall_viewNumbered l D q H b c0 ho ad hf hd.2.1 k hk) (fun _ _ _ => trivial) gBlind.tt rfl rfl hl.1 (Nat.le_of_ble_eq_true rfl) rfl rfl ⟨by decide, by decide⟩ ⟨by decide, by decide⟩ d_Hall_measured_2 (fun _ h => h.elim) (fun _ h => by cases h) (fun v1 H2 locs hp3 hL => ?_)
  obtain ⟨rfl, hHe⟩ := hp3
  rw [hHe]
  refine g_astn X.1.1 X.1.2.1 hl 2 d_Hall_measured_5 rfl (Nat.le_of_ble_eq_true rfl) rfl (fun ls hl => ?_)
  refine lv_aload_n X.1.1 X.1.2.1 d_Hall_measured_6 rfl (gl_at hl rfl) ?_
  obtain ⟨⟨f9, t9, hvc⟩, hbk9⟩ := hVV k hk
  refine g_cv (A := (fun p => p = ad k)) X gWS_good mw_Hall_254 kc_View hvc (c_View_measure l D q H k ad org srt (v_bk ad) bt (hVV.vV hNN hk) _ _ _ f9 t9 hvc (hd.vX hk) _ _ _ _ (hmm (mp k) (hNN k hk).2.2.2).1 (hd.far hk (hNN k hk).2.2.2)) (fun _ _ _ => trivial) gBlind.tt rfl rfl hl.1 (Nat.le_of_ble_eq_true rfl) rfl rfl ⟨by decide, by decide⟩ ⟨by decide, by decide⟩ d_Hall_measured_7 (fun p h => h) hL (fun v4 H5 locs hp6 hL => ?_)
  obtain ⟨f0, t0, rfl, hvc2, g1, g2, g3, g4, g5, g6, hz2, fr2⟩ := hp6
  refine lv_aload_n X.1.1 X.1.2.1 d_Hall_measured_10 rfl (gl_at hl rfl) ?_
  exact g_aret X B ⟨f0, t0, rfl, hvc2, ⟨g1, g2, g3, g4, g5, g6⟩, hz2, fr2⟩ hL d_Hall_measured_11 (by omega) (by omega)

set_option maxHeartbeats 4000000 in
set_option maxRecDepth 100000 in
theorem t_Hall_measured (l : Launch) (D : va_G) (q : Nat → ClassId) (H : Heap) (b c0 : Nat) (ho : hO D H b c0) (htr : ∀ e, l.admits e → e.platform.stackTraces = false) (xq : Nat → ClassId) (v : Int32) (hv : ¬ h_ok c0 v) : gT l y_Hall_measured (Cond.code y_Hall_measured b_Hall_measured 3 (some (.object "KeyHall$View")) :: gWS) (gR 7 107 1 6) D CL (gY q) (fun U => gEs b xq U) [.ref b, .int v] H (fun x H1 => (∃ ce : Cell, H1[x]? = some ce ∧ ce.cls = xq 0 ∧ ce.vm = .none) ∧ x = H.size ∧ H1.size = H.size + 1 ∧ ∀ p : Nat, p < H.size → H1[p]? = H[p]?) 1 6 (fun p => b ≤ p) := by
  refine gT.ofW R_Hall "measured" (by decide) rfl rfl ?_
  intro p e s m below meth c hadm X hE hH B hne
  refine g_entry [some (.ref b), some (.int v), none] rfl rfl (Nat.le_of_ble_eq_true rfl) (fun ls hl => ?_)
  refine lv_aload_n X.1.1 X.1.2.1 d_Hall_measured_0 rfl (gl_at hl rfl) ?_
  refine lv_iload_n X.1.1 X.1.2.1 d_Hall_measured_1 rfl (gl_at hl rfl) ?_
  exact g_leave B hne (g_tv X gWS_good mw_Hall_67 kc_Hall ho (t_Hall_viewNumbered l D q H b c0 ho htr xq v hv) (fun V h1 h2 => hE.on (fun p hp => by rw [hH]) h1 h2) (gEs.blind b xq) rfl rfl hl.1 (Nat.le_of_ble_eq_true rfl) rfl rfl ⟨by decide, by decide⟩ ⟨by decide, by decide⟩ d_Hall_measured_2) (fun x H1 hp => hp) (fun _ h => h) (fun _ h => by cases h) (by decide) (by decide)

set_option maxHeartbeats 4000000 in
set_option maxRecDepth 100000 in
theorem c_Hall_tell (l : Launch) (D : va_G) (q : Nat → ClassId) (H : Heap) (b c0 : Nat) (ho : hO D H b c0) (vb mb : Nat) (og : Option Nat) (srt bk tn wk f0 t0 : Nat) (hv : va_at D CL (vb, .inr (2, [.ref mb, va_rf og, .int (nI srt), .ref bk, .int (nI tn), .ref wk, .int (nI f0), .int (nI t0)])) H) (hft : f0 ≤ t0) (htn : tn ≤ 1) (n : Nat) (ks : Nat → List Nat) (vs : Nat → Int32) (chg : Nat) (hm : mA D q H mb n ks vs chg) (htn0 : t0 ≤ n) (hmb : b + 8 < mb) (hvb : b + 7 < vb) (tl : List Nat) (htl : kA D q H (b + 5) tl) (r pl : Nat) (hr : r < t0 - f0) (hpl : pl = if tn ≠ 0 then t0 - 1 - r else f0 + r) : gC l y_Hall_tell (Cond.code y_Hall_tell b_Hall_tell 4 (some .int) :: gWS) (gR 6 81 0 0) D CL (gY q) (fun _ => True) [.ref b, .ref vb, .int (nI r)] H (fun v1 H1 => v1 = some (.int (vs pl)) ∧ kA D q H1 (b + 5) (ks pl) ∧ H1.size = H.size ∧ ∀ p : Nat, ¬ (p = b + 5 ∨ p = b + 6) → H1[p]? = H[p]?) 0 0 (fun p => p = b + 5 ∨ p = b + 6) := by
  refine gC.ofW R_Hall "tell" (by decide) rfl rfl ?_
  intro p e s m below meth c hadm X hE hH B hne
  refine g_entry [some (.ref b), some (.ref vb), some (.int (nI r)), none] rfl rfl (Nat.le_of_ble_eq_true rfl) (fun ls hl => ?_)
  obtain ⟨hmo, hnm, ⟨mf, g, hmf, hfg, hg, hgi, hks⟩, hvv⟩ := hm
  have hpn : pl < t0 := by rw [hpl]; split <;> omega
  refine lv_iload_n X.1.1 X.1.2.1 d_Hall_tell_0 rfl (gl_at hl rfl) ?_
  refine lv_if_lt X.1.1 X.1.2.1 d_Hall_tell_1 rfl (fun hc1 => ?_) (fun hc1 => ?_)
  · exact absurd hc1 (h_ok_of (c := t0 - f0) (by omega) hr).1
  · refine lv_iload_n X.1.1 X.1.2.1 d_Hall_tell_4 rfl (gl_at hl rfl) ?_
    refine lv_aload_n X.1.1 X.1.2.1 d_Hall_tell_5 rfl (gl_at hl rfl) ?_
    refine g_cv (A := (fun p => p = b + 5 ∨ p = b + 6)) X gWS_good mw_Hall_121 kc_View hv (c_View_count l D q H vb mb og srt bk tn wk f0 t0 hv hft) (fun _ _ _ => trivial) gBlind.tt rfl rfl hl.1 (Nat.le_of_ble_eq_true rfl) rfl rfl ⟨by decide, by decide⟩ ⟨by decide, by decide⟩ d_Hall_tell_6 (fun _ h => h.elim) (fun _ h => by cases h) (fun v1 H2 locs hp3 hL => ?_)
    obtain ⟨rfl, hHe⟩ := hp3
    rw [hHe]
    refine gn_lt X.1.1 X.1.2.1 r (t0 - f0) (by omega) (by omega) d_Hall_tell_9 rfl (fun hc9 => ?_) (fun hc9 => ?_)
    · refine lv_aload_n X.1.1 X.1.2.1 d_Hall_tell_20 rfl (gl_at hl rfl) ?_
      refine lv_iload_n X.1.1 X.1.2.1 d_Hall_tell_21 rfl (gl_at hl rfl) ?_
      refine g_cv (A := (fun p => p = b + 5 ∨ p = b + 6)) X gWS_good mw_Hall_132 kc_View hv (c_View_placeRanked l D q H vb mb og srt bk tn wk f0 t0 hv r (by omega) (by omega)) (fun _ _ _ => trivial) gBlind.tt rfl rfl hl.1 (Nat.le_of_ble_eq_true rfl) rfl rfl ⟨by decide, by decide⟩ ⟨by decide, by decide⟩ d_Hall_tell_22 (fun _ h => h.elim) hL (fun v4 H5 locs hp6 hL => ?_)
      obtain ⟨rfl, hHe⟩ := hp6
      rw [hHe]
      refine g_top (nI pl) (by rw [hpl]) ?_
      refine g_istn X.1.1 X.1.2.1 hl 3 d_Hall_tell_25 rfl (Nat.le_of_ble_eq_true rfl) rfl (fun ls hl => ?_)
      refine lv_aload_n X.1.1 X.1.2.1 d_Hall_tell_26 rfl (gl_at hl rfl) ?_
      refine g_get X kc_Hall ho 2 (by decide) lk_Hall_19 rfl d_Hall_tell_27 ?_
      refine lv_aload_n X.1.1 X.1.2.1 d_Hall_tell_30 rfl (gl_at hl rfl) ?_
      refine g_get X kc_View hv 0 (by decide) lk_Hall_87 rfl d_Hall_tell_31 ?_
      refine g_get X kc_KeyMap hmo 0 (by decide) lk_Hall_172 rfl d_Hall_tell_34 ?_
      refine lv_iload_n X.1.1 X.1.2.1 d_Hall_tell_37 rfl (gl_at hl rfl) ?_
      refine g_aald X 3 hmf rfl pl (by omega) (by decide) (v := .ref (g pl)) (by rw [hfg _ (by omega)]; rfl) d_Hall_tell_38 ?_
      obtain ⟨j8, hj8, hgj8⟩ := hg pl (by omega)
      refine g_cv (A := (fun p => p = b + 5 ∨ p = b + 6)) X gWS_good mw_Hall_248 kc_Key htl.1 (c_Key_become l D q H (b + 5) (g pl) tl (ks pl) htl (hks pl (by omega)) (by omega)) (fun _ _ _ => trivial) gBlind.tt rfl rfl hl.1 (Nat.le_of_ble_eq_true rfl) rfl rfl ⟨by decide, by decide⟩ ⟨by decide, by decide⟩ d_Hall_tell_39 (fun p h => show _ ∨ _ by omega) hL (fun v7 H8 locs hp9 hL => ?_)
      obtain ⟨rfl, htl1, hz1, fr1⟩ := hp9
      replace ho := va_at.kept ho (fr1 _ (by omega))
      replace hv := va_at.kept hv (fr1 _ (by omega))
      replace hmo := va_at.kept hmo (fr1 _ (by omega))
      replace hmf := va_at.kept hmf (fr1 _ (by omega))
      replace hvv := va_at.kept hvv (fr1 _ (by omega))
      refine lv_aload_n X.1.1 X.1.2.1 d_Hall_tell_42 rfl (gl_at hl rfl) ?_
      refine g_get X kc_View hv 0 (by decide) lk_Hall_87 rfl d_Hall_tell_43 ?_
      refine g_get X kc_KeyMap hmo 1 (by decide) lk_Hall_95 rfl d_Hall_tell_46 ?_
      refine lv_iload_n X.1.1 X.1.2.1 d_Hall_tell_49 rfl (gl_at hl rfl) ?_
      refine g_iald X 0 hvv rfl pl (by omega) (by decide) d_Hall_tell_50 ?_
      exact g_iret X B ⟨rfl, htl1, hz1, fun p hp => fr1 p (by omega)⟩ hL d_Hall_tell_51 (by omega) (by omega)
    · omega

set_option maxHeartbeats 4000000 in
set_option maxRecDepth 100000 in
theorem t_Hall_tell (l : Launch) (D : va_G) (q : Nat → ClassId) (H : Heap) (b c0 : Nat) (ho : hO D H b c0) (vb mb : Nat) (og : Option Nat) (srt bk tn wk f0 t0 : Nat) (hv : va_at D CL (vb, .inr (2, [.ref mb, va_rf og, .int (nI srt), .ref bk, .int (nI tn), .ref wk, .int (nI f0), .int (nI t0)])) H) (hft : f0 ≤ t0) (htr : ∀ e, l.admits e → e.platform.stackTraces = false) (xq : Nat → ClassId) (r : Int32) (hr : ¬ h_ok (t0 - f0) r) : gT l y_Hall_tell (Cond.code y_Hall_tell b_Hall_tell 4 (some .int) :: gWS) (gR 6 81 1 6) D CL (gY q) (fun U => gEs b xq U) [.ref b, .ref vb, .int r] H (fun x H1 => (∃ ce : Cell, H1[x]? = some ce ∧ ce.cls = xq 3 ∧ ce.vm = .none) ∧ x = H.size ∧ H1.size = H.size + 1 ∧ ∀ p : Nat, p < H.size → H1[p]? = H[p]?) 1 6 (fun p => b ≤ p) := by
  refine gT.ofW R_Hall "tell" (by decide) rfl rfl ?_
  intro p e s m below meth c hadm X hE hH B hne
  refine g_entry [some (.ref b), some (.ref vb), some (.int r), none] rfl rfl (Nat.le_of_ble_eq_true rfl) (fun ls hl => ?_)
  refine lv_iload_n X.1.1 X.1.2.1 d_Hall_tell_0 rfl (gl_at hl rfl) ?_
  refine lv_if_lt X.1.1 X.1.2.1 d_Hall_tell_1 rfl (fun hc1 => ?_) (fun hc1 => ?_)
  · exact g_throw X B hne htr hE 3 (by decide) (fun _ h => by cases h) hl.1 (h := H.size) rfl (by rw [hH]; exact Nat.le_refl _) d_Hall_tell_12 d_Hall_tell_15 d_Hall_tell_16 d_Hall_tell_19 (by decide) (by decide) (by decide) (by decide) (fun H1 ce h1 h2 h3 h4 h5 => ⟨⟨ce, h1, h2, h3⟩, rfl, h4, h5⟩) (fun _ h => by cases h) (by decide) (by decide)
  · refine lv_iload_n X.1.1 X.1.2.1 d_Hall_tell_4 rfl (gl_at hl rfl) ?_
    refine lv_aload_n X.1.1 X.1.2.1 d_Hall_tell_5 rfl (gl_at hl rfl) ?_
    refine g_cv (A := (fun p => b ≤ p)) X gWS_good mw_Hall_121 kc_View hv (c_View_count l D q H vb mb og srt bk tn wk f0 t0 hv hft) (fun _ _ _ => trivial) gBlind.tt rfl rfl hl.1 (Nat.le_of_ble_eq_true rfl) rfl rfl ⟨by decide, by decide⟩ ⟨by decide, by decide⟩ d_Hall_tell_6 (fun _ h => h.elim) (fun _ h => by cases h) (fun v1 H2 locs hp3 hL => ?_)
    obtain ⟨rfl, hHe⟩ := hp3
    rw [hHe]
    refine lv_icmp_lt X.1.1 X.1.2.1 d_Hall_tell_9 rfl (fun hc9 => ?_) (fun hc9 => ?_)
    · exact absurd ⟨hc1, Int32.not_le.mpr hc9⟩ hr
    · exact g_throw X B hne htr hE 3 (by decide) hL hl.1 (h := H.size) rfl (by rw [hH]; exact Nat.le_refl _) d_Hall_tell_12 d_Hall_tell_15 d_Hall_tell_16 d_Hall_tell_19 (by decide) (by decide) (by decide) (by decide) (fun H1 ce h1 h2 h3 h4 h5 => ⟨⟨ce, h1, h2, h3⟩, rfl, h4, h5⟩) hL (by decide) (by decide)
