/-! the class KeyHall, 6: printed by wip/specs/hall6.py -/
set_option maxHeartbeats 4000000 in
set_option maxRecDepth 100000 in
theorem c_Hall_find (l : Launch) (D : va_G) (q : Nat → ClassId) (H : Heap) (b : Nat) (c0 : Nat) (ad : Nat → Nat) (org : Nat → Option Nat) (srt : Nat → Nat) (bt : Nat → List Nat) (tn : Nat → Nat) (mp : Nat → Nat) (wk : Nat → Nat × Nat × Nat × Nat) (n : Nat → Nat) (ks : Nat → Nat → List Nat) (vs : Nat → Nat → Int32) (chg : Nat → Nat) (tp : List Nat) (ud : List Nat) (tl : List Nat) (an : Nat) (aks : Nat → List Nat) (aus : List Nat) (xs : List Nat) (us : List (List Nat)) (so : Nat) (hh : hA D q H b c0 ad org srt bt tn mp wk n ks vs chg tp ud tl an aks aus xs us so) (k : Nat) (hk : k < c0) (h : Nat) (hh6 : h ≤ 6) (hr0 : ∀ f0 t0 rk, v_ms org srt bt k (n (mp k)) (ks (mp k)) f0 t0 → v_rk (tn k) f0 t0 (ks (mp k)) tp h rk → h_ok (t0 - f0) rk) : gC l y_Hall_find (Cond.code y_Hall_find b_Hall_find 4 (some .int) :: gWS) (gR 8 129 0 0) D CL (gY q) (fun _ => True) [.ref b, .int (nI k), .int (nI h)] H (fun v1 H1 => ∃ f0 t0 rr : Nat, v_ms org srt bt k (n (mp k)) (ks (mp k)) f0 t0 ∧ v_rk (tn k) f0 t0 (ks (mp k)) tp h (nI rr) ∧ rr < t0 - f0 ∧ v1 = some (.int (vs (mp k) (if tn k ≠ 0 then t0 - 1 - rr else f0 + rr))) ∧ hA D q H1 b c0 ad org srt bt tn mp wk n ks vs chg [] tp (ks (mp k) (if tn k ≠ 0 then t0 - 1 - rr else f0 + rr)) an aks aus xs us so ∧ H1.size = H.size ∧ ∀ p : Nat, p < H.size → ¬ hZ b c0 ad p → H1[p]? = H[p]?) 0 0 (fun p => b ≤ p) := by
  refine gC.ofW R_Hall "find" (by decide) rfl rfl ?_
  intro p e s m below meth c hadm X hE hH B hne
  refine g_entry [some (.ref b), some (.int (nI k)), some (.int (nI h)), none] rfl rfl (Nat.le_of_ble_eq_true rfl) (fun ls hl => ?_)
  have hh0 := hh
  obtain ⟨ho, hf, hd, hNN, hVV, hww, hmm, hgg, htp, hud, htl, haa, hxx⟩ := hh
  have hh := hh0
  have frA : ∀ p : Nat, p < H.size → ¬ hZ b c0 ad p → H[p]? = H[p]? := fun _ _ _ => rfl
  have zz : H.size = H.size := rfl
  refine lv_aload_n X.1.1 X.1.2.1 d_Hall_find_0 rfl (gl_at hl rfl) ?_
  refine lv_iload_n X.1.1 X.1.2.1 d_Hall_find_1 rfl (gl_at hl rfl) ?_
  refine g_cv (A := (fun p => b ≤ p)) X gWS_good mw_Hall_118 kc_Hall ho (c_Hall_measured l D q H b c0 ho ad org srt bt tn mp hd hf hNN hVV n ks vs chg hmm k hk) (fun _ _ _ => trivial) gBlind.tt rfl rfl hl.1 (Nat.le_of_ble_eq_true rfl) rfl rfl ⟨by decide, by decide⟩ ⟨by decide, by decide⟩ d_Hall_find_2 (fun p h => show b ≤ p by have h9 := hd.lt hk; omega) (fun _ h => by cases h) (fun v1 H2 locs hp3 hL => ?_)
  obtain ⟨f0, t0, rfl, hvc, hms, hz1, fr1⟩ := hp3
  replace frA : ∀ p : Nat, p < H.size → ¬ hZ b c0 ad p → H2[p]? = H[p]? := fun p hp hz => (fr1 p (by (have z1 := hZ_b hz); (have z2 := hZ_v hd hk hz); omega)).trans (frA p hp hz)
  replace zz := hz1.trans zz
  replace hh := hh.measure hk hvc hz1 fr1
  clear ho hf hd hNN hVV hww hmm hgg htp hud htl haa hxx
  have hh0 := hh
  obtain ⟨ho, hf, hd, hNN, hVV, hww, hmm, hgg, htp, hud, htl, haa, hxx⟩ := hh
  have hh := hh0
  obtain ⟨ms1, ms2, ms3, ms4, ms5, ms6⟩ := hms
  have hmk := hNN k hk
  have hmA := hmm (mp k) hmk.2.2.2
  have hdl := hd.lt hk
  have hnm := hmA.1.2.1
  have hfar := hd.far hk hmk.2.2.2
  refine g_astn X.1.1 X.1.2.1 hl 3 d_Hall_find_5 rfl (Nat.le_of_ble_eq_true rfl) rfl (fun ls hl => ?_)
  refine lv_iload_n X.1.1 X.1.2.1 d_Hall_find_6 rfl (gl_at hl rfl) ?_
  refine lv_if_lt X.1.1 X.1.2.1 d_Hall_find_7 rfl (fun hc7 => ?_) (fun hc7 => ?_)
  · exact absurd hc7 (h_ok_of (c := 7) (by omega) (by omega)).1
  · refine lv_iload_n X.1.1 X.1.2.1 d_Hall_find_10 rfl (gl_at hl rfl) ?_
    refine lv_bipush (v := nI 6) X.1.1 X.1.2.1 d_Hall_find_11 (by decide) ?_
    refine gn_le X.1.1 X.1.2.1 h 6 (by omega) (by omega) d_Hall_find_13 rfl (fun hc13 => ?_) (fun hc13 => ?_)
    · refine lv_aload_n X.1.1 X.1.2.1 d_Hall_find_24 rfl (gl_at hl rfl) ?_
      refine g_cv (A := (fun p => b ≤ p)) X gWS_good mw_Hall_74 kc_Hall ho (c_Hall_useTape l D q H2 b c0 ho tp ud htp hud) (fun _ _ _ => trivial) gBlind.tt rfl rfl hl.1 (Nat.le_of_ble_eq_true rfl) rfl rfl ⟨by decide, by decide⟩ ⟨by decide, by decide⟩ d_Hall_find_25 (fun p h => show b ≤ p by omega) hL (fun v4 H5 locs hp6 hL => ?_)
      obtain ⟨rfl, k1, k2, hz1, fr1⟩ := hp6
      replace hvc := va_at.kept hvc (fr1 _ (by omega))
      replace frA : ∀ p : Nat, p < H.size → ¬ hZ b c0 ad p → H5[p]? = H[p]? := fun p hp hz => (fr1 p (by (have z1 := hZ_b hz); omega)).trans (frA p hp hz)
      replace zz := hz1.trans zz
      replace hh := hh.tape k1 k2 hz1 fr1
      clear ho hf hd hNN hVV hww hmm hgg htp hud htl haa hxx
      have hh0 := hh
      obtain ⟨ho, hf, hd, hNN, hVV, hww, hmm, hgg, htp, hud, htl, haa, hxx⟩ := hh
      have hh := hh0
      replace hmA := hmm (mp k) hmk.2.2.2
      refine lv_aload_n X.1.1 X.1.2.1 d_Hall_find_28 rfl (gl_at hl rfl) ?_
      refine lv_aload_n X.1.1 X.1.2.1 d_Hall_find_29 rfl (gl_at hl rfl) ?_
      refine lv_aload_n X.1.1 X.1.2.1 d_Hall_find_30 rfl (gl_at hl rfl) ?_
      refine lv_iload_n X.1.1 X.1.2.1 d_Hall_find_31 rfl (gl_at hl rfl) ?_
      refine lv_aload_n X.1.1 X.1.2.1 d_Hall_find_32 rfl (gl_at hl rfl) ?_
      refine g_get X kc_Hall ho 1 (by decide) lk_Hall_16 rfl d_Hall_find_33 ?_
      refine g_cv (A := (fun p => b ≤ p)) X gWS_good mw_Hall_124 kc_View hvc (c_View_rankBy l D q H5 (ad k) _ _ _ _ _ _ f0 t0 hvc (by omega) _ _ _ _ hmA.1 ms1 ms2 (b + 3) tp hud h hh6) (fun _ _ _ => trivial) gBlind.tt rfl rfl hl.1 (Nat.le_of_ble_eq_true rfl) rfl rfl ⟨by decide, by decide⟩ ⟨by decide, by decide⟩ d_Hall_find_36 (fun _ h => h.elim) hL (fun v7 H8 locs hp9 hL => ?_)
      obtain ⟨⟨rk, rfl, hrk⟩, hHe⟩ := hp9
      rw [hHe]
      obtain ⟨rr, hr, rfl⟩ := h_okN (by omega) (hr0 f0 t0 rk ⟨ms1, ms2, ms3, ms4, ms5, ms6⟩ hrk)
      refine g_cv (A := (fun p => b ≤ p)) X gWS_good mw_Hall_128 kc_Hall ho (c_Hall_tell l D q H5 b c0 ho (ad k) _ _ _ _ _ _ f0 t0 hvc ms1 hmk.2.2.1 _ _ _ _ hmA.1 ms2 (by omega) (by omega) tl htl rr (if tn k ≠ 0 then t0 - 1 - rr else f0 + rr) hr rfl) (fun _ _ _ => trivial) gBlind.tt rfl rfl hl.1 (Nat.le_of_ble_eq_true rfl) rfl rfl ⟨by decide, by decide⟩ ⟨by decide, by decide⟩ d_Hall_find_39 (fun p h => show b ≤ p by omega) hL (fun v10 H11 locs hp12 hL => ?_)
      obtain ⟨rfl, k1, hz1, fr1⟩ := hp12
      replace hvc := va_at.kept hvc (fr1 _ (by omega))
      replace frA : ∀ p : Nat, p < H.size → ¬ hZ b c0 ad p → H11[p]? = H[p]? := fun p hp hz => (fr1 p (by (have z1 := hZ_b hz); omega)).trans (frA p hp hz)
      replace zz := hz1.trans zz
      replace hh := hh.told k1 hz1 fr1
      clear ho hf hd hNN hVV hww hmm hgg htp hud htl haa hxx
      have hh0 := hh
      obtain ⟨ho, hf, hd, hNN, hVV, hww, hmm, hgg, htp, hud, htl, haa, hxx⟩ := hh
      have hh := hh0
      replace hmA := hmm (mp k) hmk.2.2.2
      exact g_iret X B ⟨f0, t0, rr, ⟨ms1, ms2, ms3, ms4, ms5, ms6⟩, hrk, hr, rfl, hh, zz, frA⟩ hL d_Hall_find_42 (by omega) (by omega)
    · omega

set_option maxHeartbeats 4000000 in
set_option maxRecDepth 100000 in
theorem t_Hall_find3 (l : Launch) (D : va_G) (q : Nat → ClassId) (H : Heap) (b : Nat) (c0 : Nat) (ad : Nat → Nat) (org : Nat → Option Nat) (srt : Nat → Nat) (bt : Nat → List Nat) (tn : Nat → Nat) (mp : Nat → Nat) (wk : Nat → Nat × Nat × Nat × Nat) (n : Nat → Nat) (ks : Nat → Nat → List Nat) (vs : Nat → Nat → Int32) (chg : Nat → Nat) (tp : List Nat) (ud : List Nat) (tl : List Nat) (an : Nat) (aks : Nat → List Nat) (aus : List Nat) (xs : List Nat) (us : List (List Nat)) (so : Nat) (hh : hA D q H b c0 ad org srt bt tn mp wk n ks vs chg tp ud tl an aks aus xs us so) (htr : ∀ e, l.admits e → e.platform.stackTraces = false) (xq : Nat → ClassId) (k : Nat) (hk : k < c0) (h : Nat) (hh6 : h ≤ 6) (hr0 : ∀ f0 t0 rk, v_ms org srt bt k (n (mp k)) (ks (mp k)) f0 t0 → v_rk (tn k) f0 t0 (ks (mp k)) tp h rk → ¬ h_ok (t0 - f0) rk) : gT l y_Hall_find (Cond.code y_Hall_find b_Hall_find 4 (some .int) :: gWS) (gR 8 129 1 6) D CL (gY q) (fun U => gEs b xq U) [.ref b, .int (nI k), .int (nI h)] H (fun x H1 => (∃ ce : Cell, H1[x]? = some ce ∧ ce.cls = xq 3 ∧ ce.vm = .none) ∧ hA D q H1 b c0 ad org srt bt tn mp wk n ks vs chg [] tp tl an aks aus xs us so ∧ H1.size = H.size + 1 ∧ ∀ p : Nat, p < H.size → ¬ hZ b c0 ad p → H1[p]? = H[p]?) 1 6 (fun p => b ≤ p) := by
  refine gT.ofW R_Hall "find" (by decide) rfl rfl ?_
  intro p e s m below meth c hadm X hE hH B hne
  refine g_entry [some (.ref b), some (.int (nI k)), some (.int (nI h)), none] rfl rfl (Nat.le_of_ble_eq_true rfl) (fun ls hl => ?_)
  have hh0 := hh
  obtain ⟨ho, hf, hd, hNN, hVV, hww, hmm, hgg, htp, hud, htl, haa, hxx⟩ := hh
  have hh := hh0
  have frA : ∀ p : Nat, p < H.size → ¬ hZ b c0 ad p → H[p]? = H[p]? := fun _ _ _ => rfl
  have zz : H.size = H.size := rfl
  refine lv_aload_n X.1.1 X.1.2.1 d_Hall_find_0 rfl (gl_at hl rfl) ?_
  refine lv_iload_n X.1.1 X.1.2.1 d_Hall_find_1 rfl (gl_at hl rfl) ?_
  refine g_cv (A := (fun p => b ≤ p)) X gWS_good mw_Hall_118 kc_Hall ho (c_Hall_measured l D q H b c0 ho ad org srt bt tn mp hd hf hNN hVV n ks vs chg hmm k hk) (fun _ _ _ => trivial) gBlind.tt rfl rfl hl.1 (Nat.le_of_ble_eq_true rfl) rfl rfl ⟨by decide, by decide⟩ ⟨by decide, by decide⟩ d_Hall_find_2 (fun p h => show b ≤ p by have h9 := hd.lt hk; omega) (fun _ h => by cases h) (fun v1 H2 locs hp3 hL => ?_)
  obtain ⟨f0, t0, rfl, hvc, hms, hz1, fr1⟩ := hp3
  replace frA : ∀ p : Nat, p < H.size → ¬ hZ b c0 ad p → H2[p]? = H[p]? := fun p hp hz => (fr1 p (by (have z1 := hZ_b hz); (have z2 := hZ_v hd hk hz); omega)).trans (frA p hp hz)
  replace zz := hz1.trans zz
  replace hh := hh.measure hk hvc hz1 fr1
  clear ho hf hd hNN hVV hww hmm hgg htp hud htl haa hxx
  have hh0 := hh
  obtain ⟨ho, hf, hd, hNN, hVV, hww, hmm, hgg, htp, hud, htl, haa, hxx⟩ := hh
  have hh := hh0
  obtain ⟨ms1, ms2, ms3, ms4, ms5, ms6⟩ := hms
  have hmk := hNN k hk
  have hmA := hmm (mp k) hmk.2.2.2
  have hdl := hd.lt hk
  have hnm := hmA.1.2.1
  have hfar := hd.far hk hmk.2.2.2
  refine g_astn X.1.1 X.1.2.1 hl 3 d_Hall_find_5 rfl (Nat.le_of_ble_eq_true rfl) rfl (fun ls hl => ?_)
  refine lv_iload_n X.1.1 X.1.2.1 d_Hall_find_6 rfl (gl_at hl rfl) ?_
  refine lv_if_lt X.1.1 X.1.2.1 d_Hall_find_7 rfl (fun hc7 => ?_) (fun hc7 => ?_)
  · exact absurd hc7 (h_ok_of (c := 7) (by omega) (by omega)).1
  · refine lv_iload_n X.1.1 X.1.2.1 d_Hall_find_10 rfl (gl_at hl rfl) ?_
    refine lv_bipush (v := nI 6) X.1.1 X.1.2.1 d_Hall_find_11 (by decide) ?_
    refine gn_le X.1.1 X.1.2.1 h 6 (by omega) (by omega) d_Hall_find_13 rfl (fun hc13 => ?_) (fun hc13 => ?_)
    · refine lv_aload_n X.1.1 X.1.2.1 d_Hall_find_24 rfl (gl_at hl rfl) ?_
      refine g_cv (A := (fun p => b ≤ p)) X gWS_good mw_Hall_74 kc_Hall ho (c_Hall_useTape l D q H2 b c0 ho tp ud htp hud) (fun _ _ _ => trivial) gBlind.tt rfl rfl hl.1 (Nat.le_of_ble_eq_true rfl) rfl rfl ⟨by decide, by decide⟩ ⟨by decide, by decide⟩ d_Hall_find_25 (fun p h => show b ≤ p by omega) hL (fun v4 H5 locs hp6 hL => ?_)
      obtain ⟨rfl, k1, k2, hz1, fr1⟩ := hp6
      replace hvc := va_at.kept hvc (fr1 _ (by omega))
      replace frA : ∀ p : Nat, p < H.size → ¬ hZ b c0 ad p → H5[p]? = H[p]? := fun p hp hz => (fr1 p (by (have z1 := hZ_b hz); omega)).trans (frA p hp hz)
      replace zz := hz1.trans zz
      replace hh := hh.tape k1 k2 hz1 fr1
      clear ho hf hd hNN hVV hww hmm hgg htp hud htl haa hxx
      have hh0 := hh
      obtain ⟨ho, hf, hd, hNN, hVV, hww, hmm, hgg, htp, hud, htl, haa, hxx⟩ := hh
      have hh := hh0
      replace hmA := hmm (mp k) hmk.2.2.2
      refine lv_aload_n X.1.1 X.1.2.1 d_Hall_find_28 rfl (gl_at hl rfl) ?_
      refine lv_aload_n X.1.1 X.1.2.1 d_Hall_find_29 rfl (gl_at hl rfl) ?_
      refine lv_aload_n X.1.1 X.1.2.1 d_Hall_find_30 rfl (gl_at hl rfl) ?_
      refine lv_iload_n X.1.1 X.1.2.1 d_Hall_find_31 rfl (gl_at hl rfl) ?_
      refine lv_aload_n X.1.1 X.1.2.1 d_Hall_find_32 rfl (gl_at hl rfl) ?_
      refine g_get X kc_Hall ho 1 (by decide) lk_Hall_16 rfl d_Hall_find_33 ?_
      refine g_cv (A := (fun p => b ≤ p)) X gWS_good mw_Hall_124 kc_View hvc (c_View_rankBy l D q H5 (ad k) _ _ _ _ _ _ f0 t0 hvc (by omega) _ _ _ _ hmA.1 ms1 ms2 (b + 3) tp hud h hh6) (fun _ _ _ => trivial) gBlind.tt rfl rfl hl.1 (Nat.le_of_ble_eq_true rfl) rfl rfl ⟨by decide, by decide⟩ ⟨by decide, by decide⟩ d_Hall_find_36 (fun _ h => h.elim) hL (fun v7 H8 locs hp9 hL => ?_)
      obtain ⟨⟨rk, rfl, hrk⟩, hHe⟩ := hp9
      rw [hHe]
      exact g_leave B hne (g_tv X gWS_good mw_Hall_128 kc_Hall ho (t_Hall_tell l D q H5 b c0 ho (ad k) _ _ _ _ _ _ f0 t0 hvc ms1 htr xq rk (hr0 f0 t0 rk ⟨ms1, ms2, ms3, ms4, ms5, ms6⟩ hrk)) (fun V h1 h2 => hE.on (fun p hp => by rw [hH]; exact frA p (by omega) (fun h9 => by rcases h9 with h8 | ⟨j, j1, j2, j3, j4⟩; omega; (have h7 := hd.lt j2; omega))) h1 h2) (gEs.blind b xq) rfl rfl hl.1 (Nat.le_of_ble_eq_true rfl) rfl rfl ⟨by decide, by decide⟩ ⟨by decide, by decide⟩ d_Hall_find_39) (fun x H1 hp => (by obtain ⟨e1, e2, e3, e4⟩ := hp; exact ⟨e1, hh.grow (by omega) e4, by omega, fun p hp9 hz => (e4 p (by omega)).trans (frA p hp9 hz)⟩)) (fun _ h => h) hL (by decide) (by decide)
    · omega

set_option maxHeartbeats 4000000 in
set_option maxRecDepth 100000 in
theorem t_Hall_find0 (l : Launch) (D : va_G) (q : Nat → ClassId) (H : Heap) (b : Nat) (c0 : Nat) (ad : Nat → Nat) (org : Nat → Option Nat) (srt : Nat → Nat) (bt : Nat → List Nat) (tn : Nat → Nat) (mp : Nat → Nat) (wk : Nat → Nat × Nat × Nat × Nat) (n : Nat → Nat) (ks : Nat → Nat → List Nat) (vs : Nat → Nat → Int32) (chg : Nat → Nat) (tp : List Nat) (ud : List Nat) (tl : List Nat) (an : Nat) (aks : Nat → List Nat) (aus : List Nat) (xs : List Nat) (us : List (List Nat)) (so : Nat) (hh : hA D q H b c0 ad org srt bt tn mp wk n ks vs chg tp ud tl an aks aus xs us so) (htr : ∀ e, l.admits e → e.platform.stackTraces = false) (xq : Nat → ClassId) (k : Nat) (hk : k < c0) (x : Int32) (hbad : ¬ (¬ x < 0 ∧ x ≤ nI 6)) : gT l y_Hall_find (Cond.code y_Hall_find b_Hall_find 4 (some .int) :: gWS) (gR 8 129 1 6) D CL (gY q) (fun U => gEs b xq U) [.ref b, .int (nI k), .int x] H (fun x H1 => (∃ ce : Cell, H1[x]? = some ce ∧ ce.cls = xq 0 ∧ ce.vm = .none) ∧ hA D q H1 b c0 ad org srt bt tn mp wk n ks vs chg tp ud tl an aks aus xs us so ∧ H1.size = H.size + 1 ∧ ∀ p : Nat, p < H.size → ¬ hZ b c0 ad p → H1[p]? = H[p]?) 1 6 (fun p => b ≤ p) := by
  refine gT.ofW R_Hall "find" (by decide) rfl rfl ?_
  intro p e s m below meth c hadm X hE hH B hne
  refine g_entry [some (.ref b), some (.int (nI k)), some (.int x), none] rfl rfl (Nat.le_of_ble_eq_true rfl) (fun ls hl => ?_)
  have hh0 := hh
  obtain ⟨ho, hf, hd, hNN, hVV, hww, hmm, hgg, htp, hud, htl, haa, hxx⟩ := hh
  have hh := hh0
  have frA : ∀ p : Nat, p < H.size → ¬ hZ b c0 ad p → H[p]? = H[p]? := fun _ _ _ => rfl
  have zz : H.size = H.size := rfl
  refine lv_aload_n X.1.1 X.1.2.1 d_Hall_find_0 rfl (gl_at hl rfl) ?_
  refine lv_iload_n X.1.1 X.1.2.1 d_Hall_find_1 rfl (gl_at hl rfl) ?_
  refine g_cv (A := (fun p => b ≤ p)) X gWS_good mw_Hall_118 kc_Hall ho (c_Hall_measured l D q H b c0 ho ad org srt bt tn mp hd hf hNN hVV n ks vs chg hmm k hk) (fun _ _ _ => trivial) gBlind.tt rfl rfl hl.1 (Nat.le_of_ble_eq_true rfl) rfl rfl ⟨by decide, by decide⟩ ⟨by decide, by decide⟩ d_Hall_find_2 (fun p h => show b ≤ p by have h9 := hd.lt hk; omega) (fun _ h => by cases h) (fun v1 H2 locs hp3 hL => ?_)
  obtain ⟨f0, t0, rfl, hvc, hms, hz1, fr1⟩ := hp3
  replace frA : ∀ p : Nat, p < H.size → ¬ hZ b c0 ad p → H2[p]? = H[p]? := fun p hp hz => (fr1 p (by (have z1 := hZ_b hz); (have z2 := hZ_v hd hk hz); omega)).trans (frA p hp hz)
  replace zz := hz1.trans zz
  replace hh := hh.measure hk hvc hz1 fr1
  clear ho hf hd hNN hVV hww hmm hgg htp hud htl haa hxx
  have hh0 := hh
  obtain ⟨ho, hf, hd, hNN, hVV, hww, hmm, hgg, htp, hud, htl, haa, hxx⟩ := hh
  have hh := hh0
  obtain ⟨ms1, ms2, ms3, ms4, ms5, ms6⟩ := hms
  have hmk := hNN k hk
  have hmA := hmm (mp k) hmk.2.2.2
  have hdl := hd.lt hk
  have hnm := hmA.1.2.1
  have hfar := hd.far hk hmk.2.2.2
  refine g_astn X.1.1 X.1.2.1 hl 3 d_Hall_find_5 rfl (Nat.le_of_ble_eq_true rfl) rfl (fun ls hl => ?_)
  refine lv_iload_n X.1.1 X.1.2.1 d_Hall_find_6 rfl (gl_at hl rfl) ?_
  refine lv_if_lt X.1.1 X.1.2.1 d_Hall_find_7 rfl (fun hc7 => ?_) (fun hc7 => ?_)
  · exact g_throw X B hne htr hE 0 (by decide) hL hl.1 (h := H.size) zz (by rw [hH]; exact Nat.le_refl _) d_Hall_find_16 d_Hall_find_19 d_Hall_find_20 d_Hall_find_23 (by decide) (by decide) (by decide) (by decide) (fun H1 ce h1 h2 h3 h4 h5 => ⟨⟨ce, h1, h2, h3⟩, hh.grow (by omega) (fun p hp => h5 p (by omega)), h4, fun p hp hz => (h5 p hp).trans (frA p hp hz)⟩) hL (by decide) (by decide)
  · refine lv_iload_n X.1.1 X.1.2.1 d_Hall_find_10 rfl (gl_at hl rfl) ?_
    refine lv_bipush (v := nI 6) X.1.1 X.1.2.1 d_Hall_find_11 (by decide) ?_
    refine lv_icmp_le X.1.1 X.1.2.1 d_Hall_find_13 rfl (fun hc13 => ?_) (fun hc13 => ?_)
    · exact absurd ⟨hc7, hc13⟩ hbad
    · exact g_throw X B hne htr hE 0 (by decide) hL hl.1 (h := H.size) zz (by rw [hH]; exact Nat.le_refl _) d_Hall_find_16 d_Hall_find_19 d_Hall_find_20 d_Hall_find_23 (by decide) (by decide) (by decide) (by decide) (fun H1 ce h1 h2 h3 h4 h5 => ⟨⟨ce, h1, h2, h3⟩, hh.grow (by omega) (fun p hp => h5 p (by omega)), h4, fun p hp hz => (h5 p hp).trans (frA p hp hz)⟩) hL (by decide) (by decide)

set_option maxHeartbeats 4000000 in
set_option maxRecDepth 100000 in
theorem c_Hall_pollF (l : Launch) (D : va_G) (q : Nat → ClassId) (H : Heap) (b : Nat) (c0 : Nat) (ad : Nat → Nat) (org : Nat → Option Nat) (srt : Nat → Nat) (bt : Nat → List Nat) (tn : Nat → Nat) (mp : Nat → Nat) (wk : Nat → Nat × Nat × Nat × Nat) (n : Nat → Nat) (ks : Nat → Nat → List Nat) (vs : Nat → Nat → Int32) (chg : Nat → Nat) (tp : List Nat) (ud : List Nat) (tl : List Nat) (an : Nat) (aks : Nat → List Nat) (aus : List Nat) (xs : List Nat) (us : List (List Nat)) (so : Nat) (hh : hA D q H b c0 ad org srt bt tn mp wk n ks vs chg tp ud tl an aks aus xs us so) (k : Nat) (hk : k < c0) (hpos : ∀ f0 t0, v_ms org srt bt k (n (mp k)) (ks (mp k)) f0 t0 → 0 < t0 - f0) : gC l y_Hall_poll (Cond.code y_Hall_poll b_Hall_poll 5 (some .int) :: gWS) (gR 8 129 0 0) D CL (gY q) (fun _ => True) [.ref b, .int (nI k), .int (nI 0)] H (fun v1 H1 => ∃ f0 t0 : Nat, v_ms org srt bt k (n (mp k)) (ks (mp k)) f0 t0 ∧ 0 < t0 - f0 ∧ v1 = some (.int (vs (mp k) (if tn k ≠ 0 then t0 - 1 - 0 else f0 + 0))) ∧ hA D q H1 b c0 ad org srt bt tn mp wk (va_up n (mp k) (n (mp k) - 1)) (va_up ks (mp k) (mCut (ks (mp k)) (if tn k ≠ 0 then t0 - 1 - 0 else f0 + 0) (n (mp k)) (ks (mp k) (if tn k ≠ 0 then t0 - 1 - 0 else f0 + 0)))) (va_up vs (mp k) (sh_dn (vs (mp k)) (if tn k ≠ 0 then t0 - 1 - 0 else f0 + 0) (n (mp k) - 1))) (va_up chg (mp k) (chg (mp k) + 1)) tp ud (ks (mp k) (if tn k ≠ 0 then t0 - 1 - 0 else f0 + 0)) an aks aus xs us so ∧ H1.size = H.size ∧ ∀ p : Nat, p < H.size → ¬ hZ b c0 ad p → H1[p]? = H[p]?) 0 0 (fun p => b ≤ p) := by
  refine gC.ofW R_Hall "poll" (by decide) rfl rfl ?_
  intro p e s m below meth c hadm X hE hH B hne
  refine g_entry [some (.ref b), some (.int (nI k)), some (.int (nI 0)), none, none] rfl rfl (Nat.le_of_ble_eq_true rfl) (fun ls hl => ?_)
  have hh0 := hh
  obtain ⟨ho, hf, hd, hNN, hVV, hww, hmm, hgg, htp, hud, htl, haa, hxx⟩ := hh
  have hh := hh0
  have frA : ∀ p : Nat, p < H.size → ¬ hZ b c0 ad p → H[p]? = H[p]? := fun _ _ _ => rfl
  have zz : H.size = H.size := rfl
  refine lv_aload_n X.1.1 X.1.2.1 d_Hall_poll_0 rfl (gl_at hl rfl) ?_
  refine lv_iload_n X.1.1 X.1.2.1 d_Hall_poll_1 rfl (gl_at hl rfl) ?_
  refine g_cv (A := (fun p => b ≤ p)) X gWS_good mw_Hall_118 kc_Hall ho (c_Hall_measured l D q H b c0 ho ad org srt bt tn mp hd hf hNN hVV n ks vs chg hmm k hk) (fun _ _ _ => trivial) gBlind.tt rfl rfl hl.1 (Nat.le_of_ble_eq_true rfl) rfl rfl ⟨by decide, by decide⟩ ⟨by decide, by decide⟩ d_Hall_poll_2 (fun p h => show b ≤ p by have h9 := hd.lt hk; omega) (fun _ h => by cases h) (fun v1 H2 locs hp3 hL => ?_)
  obtain ⟨f0, t0, rfl, hvc, hms, hz1, fr1⟩ := hp3
  replace frA : ∀ p : Nat, p < H.size → ¬ hZ b c0 ad p → H2[p]? = H[p]? := fun p hp hz => (fr1 p (by (have z1 := hZ_b hz); (have z2 := hZ_v hd hk hz); omega)).trans (frA p hp hz)
  replace zz := hz1.trans zz
  replace hh := hh.measure hk hvc hz1 fr1
  clear ho hf hd hNN hVV hww hmm hgg htp hud htl haa hxx
  have hh0 := hh
  obtain ⟨ho, hf, hd, hNN, hVV, hww, hmm, hgg, htp, hud, htl, haa, hxx⟩ := hh
  have hh := hh0
  obtain ⟨ms1, ms2, ms3, ms4, ms5, ms6⟩ := hms
  have hmk := hNN k hk
  have hmA := hmm (mp k) hmk.2.2.2
  have hdl := hd.lt hk
  have hnm := hmA.1.2.1
  have hfar := hd.far hk hmk.2.2.2
  refine g_astn X.1.1 X.1.2.1 hl 3 d_Hall_poll_5 rfl (Nat.le_of_ble_eq_true rfl) rfl (fun ls hl => ?_)
  have hr9 := hpos f0 t0 ⟨ms1, ms2, ms3, ms4, ms5, ms6⟩
  have hr : 0 < t0 - f0 := by omega
  refine lv_iload_n X.1.1 X.1.2.1 d_Hall_poll_6 rfl (gl_at hl rfl) ?_
  refine gn_eq0 X.1.1 X.1.2.1 0 (by omega) d_Hall_poll_7 rfl (fun hc7 => ?_) (fun hc7 => ?_)
  · refine lv_iconst (v := nI 0) X.1.1 X.1.2.1 d_Hall_poll_19 (by decide) ?_
    refine g_ist X.1.1 X.1.2.1 hl 4 d_Hall_poll_20 (Nat.le_of_ble_eq_true rfl) rfl (fun ls hl => ?_)
    refine lv_aload_n X.1.1 X.1.2.1 d_Hall_poll_22 rfl (gl_at hl rfl) ?_
    refine lv_aload_n X.1.1 X.1.2.1 d_Hall_poll_23 rfl (gl_at hl rfl) ?_
    refine lv_iload X.1.1 X.1.2.1 d_Hall_poll_24 (gl_at hl rfl) ?_
    refine g_cv (A := (fun p => b ≤ p)) X gWS_good mw_Hall_128 kc_Hall ho (c_Hall_tell l D q H2 b c0 ho (ad k) _ _ _ _ _ _ f0 t0 hvc ms1 hmk.2.2.1 _ _ _ _ hmA.1 ms2 (by omega) (by omega) tl htl 0 (if tn k ≠ 0 then t0 - 1 - 0 else f0 + 0) hr rfl) (fun _ _ _ => trivial) gBlind.tt rfl rfl hl.1 (Nat.le_of_ble_eq_true rfl) rfl rfl ⟨by decide, by decide⟩ ⟨by decide, by decide⟩ d_Hall_poll_26 (fun p h => show b ≤ p by omega) hL (fun v4 H5 locs hp6 hL => ?_)
    obtain ⟨rfl, k1, hz1, fr1⟩ := hp6
    replace hvc := va_at.kept hvc (fr1 _ (by omega))
    replace frA : ∀ p : Nat, p < H.size → ¬ hZ b c0 ad p → H5[p]? = H[p]? := fun p hp hz => (fr1 p (by (have z1 := hZ_b hz); omega)).trans (frA p hp hz)
    replace zz := hz1.trans zz
    replace hh := hh.told k1 hz1 fr1
    clear ho hf hd hNN hVV hww hmm hgg htp hud htl haa hxx
    have hh0 := hh
    obtain ⟨ho, hf, hd, hNN, hVV, hww, hmm, hgg, htp, hud, htl, haa, hxx⟩ := hh
    have hh := hh0
    replace hmA := hmm (mp k) hmk.2.2.2
    refine lv_pop X.1.1 X.1.2.1 d_Hall_poll_29 rfl ?_
    refine lv_aload_n X.1.1 X.1.2.1 d_Hall_poll_30 rfl (gl_at hl rfl) ?_
    refine g_get X kc_View hvc 0 (by decide) lk_Hall_87 rfl d_Hall_poll_31 ?_
    refine lv_aload_n X.1.1 X.1.2.1 d_Hall_poll_34 rfl (gl_at hl rfl) ?_
    refine lv_iload X.1.1 X.1.2.1 d_Hall_poll_35 (gl_at hl rfl) ?_
    refine g_cv (A := (fun p => b ≤ p)) X gWS_good mw_Hall_132 kc_View hvc (c_View_placeRanked l D q H5 (ad k) _ _ _ _ _ _ f0 t0 hvc 0 (by omega) (by omega)) (fun _ _ _ => trivial) gBlind.tt rfl rfl hl.1 (Nat.le_of_ble_eq_true rfl) rfl rfl ⟨by decide, by decide⟩ ⟨by decide, by decide⟩ d_Hall_poll_37 (fun _ h => h.elim) hL (fun v7 H8 locs hp9 hL => ?_)
    obtain ⟨rfl, hHe⟩ := hp9
    rw [hHe]
    have hpn : (if tn k ≠ 0 then t0 - 1 - 0 else f0 + 0) < t0 := by split <;> omega
    refine g_cv (A := (fun p => b ≤ p)) X gWS_good mw_Hall_110 kc_KeyMap hmA.1.1 (c_KeyMap_takeOut l D q H5 _ _ _ _ _ hmA.1 (if tn k ≠ 0 then t0 - 1 - 0 else f0 + 0) (by omega)) (fun _ _ _ => trivial) gBlind.tt rfl rfl hl.1 (Nat.le_of_ble_eq_true rfl) rfl rfl ⟨by decide, by decide⟩ ⟨by decide, by decide⟩ d_Hall_poll_40 (fun p h => show b ≤ p by omega) hL (fun v10 H11 locs hp12 hL => ?_)
    obtain ⟨rfl, k1, hz1, fr1⟩ := hp12
    replace hvc := va_at.kept hvc (fr1 _ (by have h9 := hd.far hk hmk.2.2.2; omega))
    replace frA : ∀ p : Nat, p < H.size → ¬ hZ b c0 ad p → H11[p]? = H[p]? := fun p hp hz => (fr1 p (by (have z1 := hZ_b hz); omega)).trans (frA p hp hz)
    replace zz := hz1.trans zz
    replace hh := hh.map hmk.2.2.2 k1 (mS_cut hmA.2 (by omega)) hz1 fr1
    clear ho hf hd hNN hVV hww hmm hgg htp hud htl haa hxx
    have hh0 := hh
    obtain ⟨ho, hf, hd, hNN, hVV, hww, hmm, hgg, htp, hud, htl, haa, hxx⟩ := hh
    have hh := hh0
    exact g_iret X B ⟨f0, t0, ⟨ms1, ms2, ms3, ms4, ms5, ms6⟩, hr9, rfl, hh, zz, frA⟩ hL d_Hall_poll_43 (by omega) (by omega)
  · omega

set_option maxHeartbeats 4000000 in
set_option maxRecDepth 100000 in
theorem t_Hall_pollF3 (l : Launch) (D : va_G) (q : Nat → ClassId) (H : Heap) (b : Nat) (c0 : Nat) (ad : Nat → Nat) (org : Nat → Option Nat) (srt : Nat → Nat) (bt : Nat → List Nat) (tn : Nat → Nat) (mp : Nat → Nat) (wk : Nat → Nat × Nat × Nat × Nat) (n : Nat → Nat) (ks : Nat → Nat → List Nat) (vs : Nat → Nat → Int32) (chg : Nat → Nat) (tp : List Nat) (ud : List Nat) (tl : List Nat) (an : Nat) (aks : Nat → List Nat) (aus : List Nat) (xs : List Nat) (us : List (List Nat)) (so : Nat) (hh : hA D q H b c0 ad org srt bt tn mp wk n ks vs chg tp ud tl an aks aus xs us so) (htr : ∀ e, l.admits e → e.platform.stackTraces = false) (xq : Nat → ClassId) (k : Nat) (hk : k < c0) (hz0 : ∀ f0 t0, v_ms org srt bt k (n (mp k)) (ks (mp k)) f0 t0 → t0 - f0 = 0) : gT l y_Hall_poll (Cond.code y_Hall_poll b_Hall_poll 5 (some .int) :: gWS) (gR 8 129 1 6) D CL (gY q) (fun U => gEs b xq U) [.ref b, .int (nI k), .int (nI 0)] H (fun x H1 => (∃ ce : Cell, H1[x]? = some ce ∧ ce.cls = xq 3 ∧ ce.vm = .none) ∧ hA D q H1 b c0 ad org srt bt tn mp wk n ks vs chg tp ud tl an aks aus xs us so ∧ H1.size = H.size + 1 ∧ ∀ p : Nat, p < H.size → ¬ hZ b c0 ad p → H1[p]? = H[p]?) 1 6 (fun p => b ≤ p) := by
  refine gT.ofW R_Hall "poll" (by decide) rfl rfl ?_
  intro p e s m below meth c hadm X hE hH B hne
  refine g_entry [some (.ref b), some (.int (nI k)), some (.int (nI 0)), none, none] rfl rfl (Nat.le_of_ble_eq_true rfl) (fun ls hl => ?_)
  have hh0 := hh
  obtain ⟨ho, hf, hd, hNN, hVV, hww, hmm, hgg, htp, hud, htl, haa, hxx⟩ := hh
  have hh := hh0
  have frA : ∀ p : Nat, p < H.size → ¬ hZ b c0 ad p → H[p]? = H[p]? := fun _ _ _ => rfl
  have zz : H.size = H.size := rfl
  refine lv_aload_n X.1.1 X.1.2.1 d_Hall_poll_0 rfl (gl_at hl rfl) ?_
  refine lv_iload_n X.1.1 X.1.2.1 d_Hall_poll_1 rfl (gl_at hl rfl) ?_
  refine g_cv (A := (fun p => b ≤ p)) X gWS_good mw_Hall_118 kc_Hall ho (c_Hall_measured l D q H b c0 ho ad org srt bt tn mp hd hf hNN hVV n ks vs chg hmm k hk) (fun _ _ _ => trivial) gBlind.tt rfl rfl hl.1 (Nat.le_of_ble_eq_true rfl) rfl rfl ⟨by decide, by decide⟩ ⟨by decide, by decide⟩ d_Hall_poll_2 (fun p h => show b ≤ p by have h9 := hd.lt hk; omega) (fun _ h => by cases h) (fun v1 H2 locs hp3 hL => ?_)
  obtain ⟨f0, t0, rfl, hvc, hms, hz1, fr1⟩ := hp3
  replace frA : ∀ p : Nat, p < H.size → ¬ hZ b c0 ad p → H2[p]? = H[p]? := fun p hp hz => (fr1 p (by (have z1 := hZ_b hz); (have z2 := hZ_v hd hk hz); omega)).trans (frA p hp hz)
  replace zz := hz1.trans zz
  replace hh := hh.measure hk hvc hz1 fr1
  clear ho hf hd hNN hVV hww hmm hgg htp hud htl haa hxx
  have hh0 := hh
  obtain ⟨ho, hf, hd, hNN, hVV, hww, hmm, hgg, htp, hud, htl, haa, hxx⟩ := hh
  have hh := hh0
  obtain ⟨ms1, ms2, ms3, ms4, ms5, ms6⟩ := hms
  have hmk := hNN k hk
  have hmA := hmm (mp k) hmk.2.2.2
  have hdl := hd.lt hk
  have hnm := hmA.1.2.1
  have hfar := hd.far hk hmk.2.2.2
  refine g_astn X.1.1 X.1.2.1 hl 3 d_Hall_poll_5 rfl (Nat.le_of_ble_eq_true rfl) rfl (fun ls hl => ?_)
  refine lv_iload_n X.1.1 X.1.2.1 d_Hall_poll_6 rfl (gl_at hl rfl) ?_
  refine gn_eq0 X.1.1 X.1.2.1 0 (by omega) d_Hall_poll_7 rfl (fun hc7 => ?_) (fun hc7 => ?_)
  · refine lv_iconst (v := nI 0) X.1.1 X.1.2.1 d_Hall_poll_19 (by decide) ?_
    refine g_ist X.1.1 X.1.2.1 hl 4 d_Hall_poll_20 (Nat.le_of_ble_eq_true rfl) rfl (fun ls hl => ?_)
    refine lv_aload_n X.1.1 X.1.2.1 d_Hall_poll_22 rfl (gl_at hl rfl) ?_
    refine lv_aload_n X.1.1 X.1.2.1 d_Hall_poll_23 rfl (gl_at hl rfl) ?_
    refine lv_iload X.1.1 X.1.2.1 d_Hall_poll_24 (gl_at hl rfl) ?_
    exact g_leave B hne (g_tv X gWS_good mw_Hall_128 kc_Hall ho (t_Hall_tell l D q H2 b c0 ho (ad k) _ _ _ _ _ _ f0 t0 hvc ms1 htr xq _ (by rw [hz0 f0 t0 ⟨ms1, ms2, ms3, ms4, ms5, ms6⟩]; exact h_ok0 _)) (fun V h1 h2 => hE.on (fun p hp => by rw [hH]; exact frA p (by omega) (fun h9 => by rcases h9 with h8 | ⟨j, j1, j2, j3, j4⟩; omega; (have h7 := hd.lt j2; omega))) h1 h2) (gEs.blind b xq) rfl rfl hl.1 (Nat.le_of_ble_eq_true rfl) rfl rfl ⟨by decide, by decide⟩ ⟨by decide, by decide⟩ d_Hall_poll_26) (fun x H1 hp => (by obtain ⟨e1, e2, e3, e4⟩ := hp; exact ⟨e1, hh.grow (by omega) e4, by omega, fun p hp9 hz => (e4 p (by omega)).trans (frA p hp9 hz)⟩)) (fun _ h => h) hL (by decide) (by decide)
  · omega

set_option maxHeartbeats 4000000 in
set_option maxRecDepth 100000 in
theorem c_Hall_pollL (l : Launch) (D : va_G) (q : Nat → ClassId) (H : Heap) (b : Nat) (c0 : Nat) (ad : Nat → Nat) (org : Nat → Option Nat) (srt : Nat → Nat) (bt : Nat → List Nat) (tn : Nat → Nat) (mp : Nat → Nat) (wk : Nat → Nat × Nat × Nat × Nat) (n : Nat → Nat) (ks : Nat → Nat → List Nat) (vs : Nat → Nat → Int32) (chg : Nat → Nat) (tp : List Nat) (ud : List Nat) (tl : List Nat) (an : Nat) (aks : Nat → List Nat) (aus : List Nat) (xs : List Nat) (us : List (List Nat)) (so : Nat) (hh : hA D q H b c0 ad org srt bt tn mp wk n ks vs chg tp ud tl an aks aus xs us so) (k : Nat) (hk : k < c0) (hpos : ∀ f0 t0, v_ms org srt bt k (n (mp k)) (ks (mp k)) f0 t0 → 0 < t0 - f0) : gC l y_Hall_poll (Cond.code y_Hall_poll b_Hall_poll 5 (some .int) :: gWS) (gR 8 129 0 0) D CL (gY q) (fun _ => True) [.ref b, .int (nI k), .int (nI 1)] H (fun v1 H1 => ∃ f0 t0 : Nat, v_ms org srt bt k (n (mp k)) (ks (mp k)) f0 t0 ∧ 0 < t0 - f0 ∧ v1 = some (.int (vs (mp k) (if tn k ≠ 0 then t0 - 1 - (t0 - f0 - 1) else f0 + (t0 - f0 - 1)))) ∧ hA D q H1 b c0 ad org srt bt tn mp wk (va_up n (mp k) (n (mp k) - 1)) (va_up ks (mp k) (mCut (ks (mp k)) (if tn k ≠ 0 then t0 - 1 - (t0 - f0 - 1) else f0 + (t0 - f0 - 1)) (n (mp k)) (ks (mp k) (if tn k ≠ 0 then t0 - 1 - (t0 - f0 - 1) else f0 + (t0 - f0 - 1))))) (va_up vs (mp k) (sh_dn (vs (mp k)) (if tn k ≠ 0 then t0 - 1 - (t0 - f0 - 1) else f0 + (t0 - f0 - 1)) (n (mp k) - 1))) (va_up chg (mp k) (chg (mp k) + 1)) tp ud (ks (mp k) (if tn k ≠ 0 then t0 - 1 - (t0 - f0 - 1) else f0 + (t0 - f0 - 1))) an aks aus xs us so ∧ H1.size = H.size ∧ ∀ p : Nat, p < H.size → ¬ hZ b c0 ad p → H1[p]? = H[p]?) 0 0 (fun p => b ≤ p) := by
  refine gC.ofW R_Hall "poll" (by decide) rfl rfl ?_
  intro p e s m below meth c hadm X hE hH B hne
  refine g_entry [some (.ref b), some (.int (nI k)), some (.int (nI 1)), none, none] rfl rfl (Nat.le_of_ble_eq_true rfl) (fun ls hl => ?_)
  have hh0 := hh
  obtain ⟨ho, hf, hd, hNN, hVV, hww, hmm, hgg, htp, hud, htl, haa, hxx⟩ := hh
  have hh := hh0
  have frA : ∀ p : Nat, p < H.size → ¬ hZ b c0 ad p → H[p]? = H[p]? := fun _ _ _ => rfl
  have zz : H.size = H.size := rfl
  refine lv_aload_n X.1.1 X.1.2.1 d_Hall_poll_0 rfl (gl_at hl rfl) ?_
  refine lv_iload_n X.1.1 X.1.2.1 d_Hall_poll_1 rfl (gl_at hl rfl) ?_
  refine g_cv (A := (fun p => b ≤ p)) X gWS_good mw_Hall_118 kc_Hall ho (c_Hall_measured l D q H b c0 ho ad org srt bt tn mp hd hf hNN hVV n ks vs chg hmm k hk) (fun _ _ _ => trivial) gBlind.tt rfl rfl hl.1 (Nat.le_of_ble_eq_true rfl) rfl rfl ⟨by decide, by decide⟩ ⟨by decide, by decide⟩ d_Hall_poll_2 (fun p h => show b ≤ p by have h9 := hd.lt hk; omega) (fun _ h => by cases h) (fun v1 H2 locs hp3 hL => ?_)
  obtain ⟨f0, t0, rfl, hvc, hms, hz1, fr1⟩ := hp3
  replace frA : ∀ p : Nat, p < H.size → ¬ hZ b c0 ad p → H2[p]? = H[p]? := fun p hp hz => (fr1 p (by (have z1 := hZ_b hz); (have z2 := hZ_v hd hk hz); omega)).trans (frA p hp hz)
  replace zz := hz1.trans zz
  replace hh := hh.measure hk hvc hz1 fr1
  clear ho hf hd hNN hVV hww hmm hgg htp hud htl haa hxx
  have hh0 := hh
  obtain ⟨ho, hf, hd, hNN, hVV, hww, hmm, hgg, htp, hud, htl, haa, hxx⟩ := hh
  have hh := hh0
  obtain ⟨ms1, ms2, ms3, ms4, ms5, ms6⟩ := hms
  have hmk := hNN k hk
  have hmA := hmm (mp k) hmk.2.2.2
  have hdl := hd.lt hk
  have hnm := hmA.1.2.1
  have hfar := hd.far hk hmk.2.2.2
  refine g_astn X.1.1 X.1.2.1 hl 3 d_Hall_poll_5 rfl (Nat.le_of_ble_eq_true rfl) rfl (fun ls hl => ?_)
  have hr9 := hpos f0 t0 ⟨ms1, ms2, ms3, ms4, ms5, ms6⟩
  have hr : (t0 - f0 - 1) < t0 - f0 := by omega
  refine lv_iload_n X.1.1 X.1.2.1 d_Hall_poll_6 rfl (gl_at hl rfl) ?_
  refine gn_eq0 X.1.1 X.1.2.1 1 (by omega) d_Hall_poll_7 rfl (fun hc7 => ?_) (fun hc7 => ?_)
  · omega
  · refine lv_aload_n X.1.1 X.1.2.1 d_Hall_poll_10 rfl (gl_at hl rfl) ?_
    refine g_cv (A := (fun p => b ≤ p)) X gWS_good mw_Hall_121 kc_View hvc (c_View_count l D q H2 (ad k) _ _ _ _ _ _ f0 t0 hvc ms1) (fun _ _ _ => trivial) gBlind.tt rfl rfl hl.1 (Nat.le_of_ble_eq_true rfl) rfl rfl ⟨by decide, by decide⟩ ⟨by decide, by decide⟩ d_Hall_poll_11 (fun _ h => h.elim) hL (fun v4 H5 locs hp6 hL => ?_)
    obtain ⟨rfl, hHe⟩ := hp6
    rw [hHe]
    refine lv_iconst (v := nI 1) X.1.1 X.1.2.1 d_Hall_poll_14 (by decide) ?_
    refine lv_isub X.1.1 X.1.2.1 d_Hall_poll_15 ?_
    refine g_top (nI ((t0 - f0) - 1)) (pk_sub (by omega)) ?_
    refine lv_goto X.1.1 X.1.2.1 d_Hall_poll_16 rfl ?_
    refine g_ist X.1.1 X.1.2.1 hl 4 d_Hall_poll_20 (Nat.le_of_ble_eq_true rfl) rfl (fun ls hl => ?_)
    refine lv_aload_n X.1.1 X.1.2.1 d_Hall_poll_22 rfl (gl_at hl rfl) ?_
    refine lv_aload_n X.1.1 X.1.2.1 d_Hall_poll_23 rfl (gl_at hl rfl) ?_
    refine lv_iload X.1.1 X.1.2.1 d_Hall_poll_24 (gl_at hl rfl) ?_
    refine g_cv (A := (fun p => b ≤ p)) X gWS_good mw_Hall_128 kc_Hall ho (c_Hall_tell l D q H2 b c0 ho (ad k) _ _ _ _ _ _ f0 t0 hvc ms1 hmk.2.2.1 _ _ _ _ hmA.1 ms2 (by omega) (by omega) tl htl (t0 - f0 - 1) (if tn k ≠ 0 then t0 - 1 - (t0 - f0 - 1) else f0 + (t0 - f0 - 1)) hr rfl) (fun _ _ _ => trivial) gBlind.tt rfl rfl hl.1 (Nat.le_of_ble_eq_true rfl) rfl rfl ⟨by decide, by decide⟩ ⟨by decide, by decide⟩ d_Hall_poll_26 (fun p h => show b ≤ p by omega) hL (fun v7 H8 locs hp9 hL => ?_)
    obtain ⟨rfl, k1, hz1, fr1⟩ := hp9
    replace hvc := va_at.kept hvc (fr1 _ (by omega))
    replace frA : ∀ p : Nat, p < H.size → ¬ hZ b c0 ad p → H8[p]? = H[p]? := fun p hp hz => (fr1 p (by (have z1 := hZ_b hz); omega)).trans (frA p hp hz)
    replace zz := hz1.trans zz
    replace hh := hh.told k1 hz1 fr1
    clear ho hf hd hNN hVV hww hmm hgg htp hud htl haa hxx
    have hh0 := hh
    obtain ⟨ho, hf, hd, hNN, hVV, hww, hmm, hgg, htp, hud, htl, haa, hxx⟩ := hh
    have hh := hh0
    replace hmA := hmm (mp k) hmk.2.2.2
    refine lv_pop X.1.1 X.1.2.1 d_Hall_poll_29 rfl ?_
    refine lv_aload_n X.1.1 X.1.2.1 d_Hall_poll_30 rfl (gl_at hl rfl) ?_
    refine g_get X kc_View hvc 0 (by decide) lk_Hall_87 rfl d_Hall_poll_31 ?_
    refine lv_aload_n X.1.1 X.1.2.1 d_Hall_poll_34 rfl (gl_at hl rfl) ?_
    refine lv_iload X.1.1 X.1.2.1 d_Hall_poll_35 (gl_at hl rfl) ?_
    refine g_cv (A := (fun p => b ≤ p)) X gWS_good mw_Hall_132 kc_View hvc (c_View_placeRanked l D q H8 (ad k) _ _ _ _ _ _ f0 t0 hvc (t0 - f0 - 1) (by omega) (by omega)) (fun _ _ _ => trivial) gBlind.tt rfl rfl hl.1 (Nat.le_of_ble_eq_true rfl) rfl rfl ⟨by decide, by decide⟩ ⟨by decide, by decide⟩ d_Hall_poll_37 (fun _ h => h.elim) hL (fun v10 H11 locs hp12 hL => ?_)
    obtain ⟨rfl, hHe⟩ := hp12
    rw [hHe]
    have hpn : (if tn k ≠ 0 then t0 - 1 - (t0 - f0 - 1) else f0 + (t0 - f0 - 1)) < t0 := by split <;> omega
    refine g_cv (A := (fun p => b ≤ p)) X gWS_good mw_Hall_110 kc_KeyMap hmA.1.1 (c_KeyMap_takeOut l D q H8 _ _ _ _ _ hmA.1 (if tn k ≠ 0 then t0 - 1 - (t0 - f0 - 1) else f0 + (t0 - f0 - 1)) (by omega)) (fun _ _ _ => trivial) gBlind.tt rfl rfl hl.1 (Nat.le_of_ble_eq_true rfl) rfl rfl ⟨by decide, by decide⟩ ⟨by decide, by decide⟩ d_Hall_poll_40 (fun p h => show b ≤ p by omega) hL (fun v13 H14 locs hp15 hL => ?_)
    obtain ⟨rfl, k1, hz1, fr1⟩ := hp15
    replace hvc := va_at.kept hvc (fr1 _ (by have h9 := hd.far hk hmk.2.2.2; omega))
    replace frA : ∀ p : Nat, p < H.size → ¬ hZ b c0 ad p → H14[p]? = H[p]? := fun p hp hz => (fr1 p (by (have z1 := hZ_b hz); omega)).trans (frA p hp hz)
    replace zz := hz1.trans zz
    replace hh := hh.map hmk.2.2.2 k1 (mS_cut hmA.2 (by omega)) hz1 fr1
    clear ho hf hd hNN hVV hww hmm hgg htp hud htl haa hxx
    have hh0 := hh
    obtain ⟨ho, hf, hd, hNN, hVV, hww, hmm, hgg, htp, hud, htl, haa, hxx⟩ := hh
    have hh := hh0
    exact g_iret X B ⟨f0, t0, ⟨ms1, ms2, ms3, ms4, ms5, ms6⟩, hr9, rfl, hh, zz, frA⟩ hL d_Hall_poll_43 (by omega) (by omega)

set_option maxHeartbeats 4000000 in
set_option maxRecDepth 100000 in
theorem t_Hall_pollL3 (l : Launch) (D : va_G) (q : Nat → ClassId) (H : Heap) (b : Nat) (c0 : Nat) (ad : Nat → Nat) (org : Nat → Option Nat) (srt : Nat → Nat) (bt : Nat → List Nat) (tn : Nat → Nat) (mp : Nat → Nat) (wk : Nat → Nat × Nat × Nat × Nat) (n : Nat → Nat) (ks : Nat → Nat → List Nat) (vs : Nat → Nat → Int32) (chg : Nat → Nat) (tp : List Nat) (ud : List Nat) (tl : List Nat) (an : Nat) (aks : Nat → List Nat) (aus : List Nat) (xs : List Nat) (us : List (List Nat)) (so : Nat) (hh : hA D q H b c0 ad org srt bt tn mp wk n ks vs chg tp ud tl an aks aus xs us so) (htr : ∀ e, l.admits e → e.platform.stackTraces = false) (xq : Nat → ClassId) (k : Nat) (hk : k < c0) (hz0 : ∀ f0 t0, v_ms org srt bt k (n (mp k)) (ks (mp k)) f0 t0 → t0 - f0 = 0) : gT l y_Hall_poll (Cond.code y_Hall_poll b_Hall_poll 5 (some .int) :: gWS) (gR 8 129 1 6) D CL (gY q) (fun U => gEs b xq U) [.ref b, .int (nI k), .int (nI 1)] H (fun x H1 => (∃ ce : Cell, H1[x]? = some ce ∧ ce.cls = xq 3 ∧ ce.vm = .none) ∧ hA D q H1 b c0 ad org srt bt tn mp wk n ks vs chg tp ud tl an aks aus xs us so ∧ H1.size = H.size + 1 ∧ ∀ p : Nat, p < H.size → ¬ hZ b c0 ad p → H1[p]? = H[p]?) 1 6 (fun p => b ≤ p) := by
  refine gT.ofW R_Hall "poll" (by decide) rfl rfl ?_
  intro p e s m below meth c hadm X hE hH B hne
  refine g_entry [some (.ref b), some (.int (nI k)), some (.int (nI 1)), none, none] rfl rfl (Nat.le_of_ble_eq_true rfl) (fun ls hl => ?_)
  have hh0 := hh
  obtain ⟨ho, hf, hd, hNN, hVV, hww, hmm, hgg, htp, hud, htl, haa, hxx⟩ := hh
  have hh := hh0
  have frA : ∀ p : Nat, p < H.size → ¬ hZ b c0 ad p → H[p]? = H[p]? := fun _ _ _ => rfl
  have zz : H.size = H.size := rfl
  refine lv_aload_n X.1.1 X.1.2.1 d_Hall_poll_0 rfl (gl_at hl rfl) ?_
  refine lv_iload_n X.1.1 X.1.2.1 d_Hall_poll_1 rfl (gl_at hl rfl) ?_
  refine g_cv (A := (fun p => b ≤ p)) X gWS_good mw_Hall_118 kc_Hall ho (c_Hall_measured l D q H b c0 ho ad org srt bt tn mp hd hf hNN hVV n ks vs chg hmm k hk) (fun _ _ _ => trivial) gBlind.tt rfl rfl hl.1 (Nat.le_of_ble_eq_true rfl) rfl rfl ⟨by decide, by decide⟩ ⟨by decide, by decide⟩ d_Hall_poll_2 (fun p h => show b ≤ p by have h9 := hd.lt hk; omega) (fun _ h => by cases h) (fun v1 H2 locs hp3 hL => ?_)
  obtain ⟨f0, t0, rfl, hvc, hms, hz1, fr1⟩ := hp3
  replace frA : ∀ p : Nat, p < H.size → ¬ hZ b c0 ad p → H2[p]? = H[p]? := fun p hp hz => (fr1 p (by (have z1 := hZ_b hz); (have z2 := hZ_v hd hk hz); omega)).trans (frA p hp hz)
  replace zz := hz1.trans zz
  replace hh := hh.measure hk hvc hz1 fr1
  clear ho hf hd hNN hVV hww hmm hgg htp hud htl haa hxx
  have hh0 := hh
  obtain ⟨ho, hf, hd, hNN, hVV, hww, hmm, hgg, htp, hud, htl, haa, hxx⟩ := hh
  have hh := hh0
  obtain ⟨ms1, ms2, ms3, ms4, ms5, ms6⟩ := hms
  have hmk := hNN k hk
  have hmA := hmm (mp k) hmk.2.2.2
  have hdl := hd.lt hk
  have hnm := hmA.1.2.1
  have hfar := hd.far hk hmk.2.2.2
  refine g_astn X.1.1 X.1.2.1 hl 3 d_Hall_poll_5 rfl (Nat.le_of_ble_eq_true rfl) rfl (fun ls hl => ?_)
  refine lv_iload_n X.1.1 X.1.2.1 d_Hall_poll_6 rfl (gl_at hl rfl) ?_
  refine gn_eq0 X.1.1 X.1.2.1 1 (by omega) d_Hall_poll_7 rfl (fun hc7 => ?_) (fun hc7 => ?_)
  · omega
  · refine lv_aload_n X.1.1 X.1.2.1 d_Hall_poll_10 rfl (gl_at hl rfl) ?_
    refine g_cv (A := (fun p => b ≤ p)) X gWS_good mw_Hall_121 kc_View hvc (c_View_count l D q H2 (ad k) _ _ _ _ _ _ f0 t0 hvc ms1) (fun _ _ _ => trivial) gBlind.tt rfl rfl hl.1 (Nat.le_of_ble_eq_true rfl) rfl rfl ⟨by decide, by decide⟩ ⟨by decide, by decide⟩ d_Hall_poll_11 (fun _ h => h.elim) hL (fun v4 H5 locs hp6 hL => ?_)
    obtain ⟨rfl, hHe⟩ := hp6
    rw [hHe]
    refine lv_iconst (v := nI 1) X.1.1 X.1.2.1 d_Hall_poll_14 (by decide) ?_
    refine lv_isub X.1.1 X.1.2.1 d_Hall_poll_15 ?_
    refine lv_goto X.1.1 X.1.2.1 d_Hall_poll_16 rfl ?_
    refine g_ist X.1.1 X.1.2.1 hl 4 d_Hall_poll_20 (Nat.le_of_ble_eq_true rfl) rfl (fun ls hl => ?_)
    refine lv_aload_n X.1.1 X.1.2.1 d_Hall_poll_22 rfl (gl_at hl rfl) ?_
    refine lv_aload_n X.1.1 X.1.2.1 d_Hall_poll_23 rfl (gl_at hl rfl) ?_
    refine lv_iload X.1.1 X.1.2.1 d_Hall_poll_24 (gl_at hl rfl) ?_
    exact g_leave B hne (g_tv X gWS_good mw_Hall_128 kc_Hall ho (t_Hall_tell l D q H2 b c0 ho (ad k) _ _ _ _ _ _ f0 t0 hvc ms1 htr xq _ (by rw [hz0 f0 t0 ⟨ms1, ms2, ms3, ms4, ms5, ms6⟩]; exact h_ok0 _)) (fun V h1 h2 => hE.on (fun p hp => by rw [hH]; exact frA p (by omega) (fun h9 => by rcases h9 with h8 | ⟨j, j1, j2, j3, j4⟩; omega; (have h7 := hd.lt j2; omega))) h1 h2) (gEs.blind b xq) rfl rfl hl.1 (Nat.le_of_ble_eq_true rfl) rfl rfl ⟨by decide, by decide⟩ ⟨by decide, by decide⟩ d_Hall_poll_26) (fun x H1 hp => (by obtain ⟨e1, e2, e3, e4⟩ := hp; exact ⟨e1, hh.grow (by omega) e4, by omega, fun p hp9 hz => (e4 p (by omega)).trans (frA p hp9 hz)⟩)) (fun _ h => h) hL (by decide) (by decide)
