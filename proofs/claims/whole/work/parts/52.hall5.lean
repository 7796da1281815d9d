/-! the class KeyHall, 5: printed by wip/specs/hall5.py -/
set_option maxHeartbeats 4000000 in
set_option maxRecDepth 100000 in
theorem t_Hall_put1 (l : Launch) (D : va_G) (q : Nat → ClassId) (H : Heap) (b : Nat) (c0 : Nat) (ad : Nat → Nat) (org : Nat → Option Nat) (srt : Nat → Nat) (bt : Nat → List Nat) (tn : Nat → Nat) (mp : Nat → Nat) (wk : Nat → Nat × Nat × Nat × Nat) (n : Nat → Nat) (ks : Nat → Nat → List Nat) (vs : Nat → Nat → Int32) (chg : Nat → Nat) (tp : List Nat) (ud : List Nat) (tl : List Nat) (an : Nat) (aks : Nat → List Nat) (aus : List Nat) (xs : List Nat) (us : List (List Nat)) (so : Nat) (hh : hA D q H b c0 ad org srt bt tn mp wk n ks vs chg tp ud tl an aks aus xs us so) (htr : ∀ e, l.admits e → e.platform.stackTraces = false) (xq : Nat → ClassId) (k : Nat) (hk : k < c0) (x : Int32) (hbad : ¬ (¬ x < 0 ∧ v_in org srt bt k tp = true)) : gT l y_Hall_put (Cond.code y_Hall_put b_Hall_put 7 (some .int) :: gWS) (gR 7 102 1 6) D CL (gY q) (fun U => gEs b xq U) [.ref b, .int (nI k), .int x] H (fun x H1 => (∃ ce : Cell, H1[x]? = some ce ∧ ce.cls = xq 1 ∧ ce.vm = .none) ∧ hA D q H1 b c0 ad org srt bt tn mp wk n ks vs chg [] tp tl an aks aus xs us so ∧ H1.size = H.size + 1 ∧ ∀ p : Nat, p < H.size → ¬ hZ b c0 ad p → H1[p]? = H[p]?) 1 6 (fun p => b ≤ p) := by
  refine gT.ofW R_Hall "put" (by decide) rfl rfl ?_
  intro p e s m below meth c hadm X hE hH B hne
  refine g_entry [some (.ref b), some (.int (nI k)), some (.int x), none, none, none, none] rfl rfl (Nat.le_of_ble_eq_true rfl) (fun ls hl => ?_)
  have hh0 := hh
  obtain ⟨ho, hf, hd, hNN, hVV, hww, hmm, hgg, htp, hud, htl, haa, hxx⟩ := hh
  have hh := hh0
  have frA : ∀ p : Nat, p < H.size → ¬ hZ b c0 ad p → H[p]? = H[p]? := fun _ _ _ => rfl
  have zz : H.size = H.size := rfl
  refine lv_aload_n X.1.1 X.1.2.1 d_Hall_put_0 rfl (gl_at hl rfl) ?_
  refine lv_iload_n X.1.1 X.1.2.1 d_Hall_put_1 rfl (gl_at hl rfl) ?_
  refine g_cv (A := (fun p => b ≤ p)) X gWS_good mw_Hall_67 kc_Hall ho (c_Hall_viewNumbered l D q H b c0 ho ad hf hd.2.1 k hk) (fun _ _ _ => trivial) gBlind.tt rfl rfl hl.1 (Nat.le_of_ble_eq_true rfl) rfl rfl ⟨by decide, by decide⟩ ⟨by decide, by decide⟩ d_Hall_put_2 (fun _ h => h.elim) (fun _ h => by cases h) (fun v1 H2 locs hp3 hL => ?_)
  obtain ⟨rfl, hHe⟩ := hp3
  rw [hHe]
  refine g_astn X.1.1 X.1.2.1 hl 3 d_Hall_put_5 rfl (Nat.le_of_ble_eq_true rfl) rfl (fun ls hl => ?_)
  refine lv_aload_n X.1.1 X.1.2.1 d_Hall_put_6 rfl (gl_at hl rfl) ?_
  refine g_cv (A := (fun p => b ≤ p)) X gWS_good mw_Hall_74 kc_Hall ho (c_Hall_useTape l D q H b c0 ho tp ud htp hud) (fun _ _ _ => trivial) gBlind.tt rfl rfl hl.1 (Nat.le_of_ble_eq_true rfl) rfl rfl ⟨by decide, by decide⟩ ⟨by decide, by decide⟩ d_Hall_put_7 (fun p h => show b ≤ p by omega) hL (fun v4 H5 locs hp6 hL => ?_)
  obtain ⟨rfl, k1, k2, hz1, fr1⟩ := hp6
  replace frA : ∀ p : Nat, p < H.size → ¬ hZ b c0 ad p → H5[p]? = H[p]? := fun p hp hz => (fr1 p (by (have z1 := hZ_b hz); omega)).trans (frA p hp hz)
  replace zz := hz1.trans zz
  replace hh := hh.tape k1 k2 hz1 fr1
  clear ho hf hd hNN hVV hww hmm hgg htp hud htl haa hxx
  have hh0 := hh
  obtain ⟨ho, hf, hd, hNN, hVV, hww, hmm, hgg, htp, hud, htl, haa, hxx⟩ := hh
  have hh := hh0
  obtain ⟨⟨f0, t0, hvc⟩, hbk9⟩ := hVV k hk
  have hmk := hNN k hk
  have hmA := hmm (mp k) hmk.2.2.2
  have hdl := hd.lt hk
  have hnm := hmA.1.2.1
  have hfar := hd.far hk hmk.2.2.2
  refine lv_iload_n X.1.1 X.1.2.1 d_Hall_put_10 rfl (gl_at hl rfl) ?_
  refine lv_if_lt X.1.1 X.1.2.1 d_Hall_put_11 rfl (fun hc11 => ?_) (fun hc11 => ?_)
  · exact g_throw X B hne htr hE 1 (by decide) hL hl.1 (h := H.size) zz (by rw [hH]; exact Nat.le_refl _) d_Hall_put_25 d_Hall_put_28 d_Hall_put_29 d_Hall_put_32 (by decide) (by decide) (by decide) (by decide) (fun H1 ce h1 h2 h3 h4 h5 => ⟨⟨ce, h1, h2, h3⟩, hh.grow (by omega) (fun p hp => h5 p (by omega)), h4, fun p hp hz => (h5 p hp).trans (frA p hp hz)⟩) hL (by decide) (by decide)
  · refine lv_aload_n X.1.1 X.1.2.1 d_Hall_put_14 rfl (gl_at hl rfl) ?_
    refine lv_aload_n X.1.1 X.1.2.1 d_Hall_put_15 rfl (gl_at hl rfl) ?_
    refine g_get X kc_Hall ho 1 (by decide) lk_Hall_16 rfl d_Hall_put_16 ?_
    refine g_cv (A := (fun p => b ≤ p)) X gWS_good mw_Hall_80 kc_View hvc (c_View_admits l D q H5 k ad org srt (v_bk ad) bt (hVV.vV hNN hk) (b + 3) tp hud) (fun _ _ _ => trivial) gBlind.tt rfl rfl hl.1 (Nat.le_of_ble_eq_true rfl) rfl rfl ⟨by decide, by decide⟩ ⟨by decide, by decide⟩ d_Hall_put_19 (fun _ h => h.elim) hL (fun v7 H8 locs hp9 hL => ?_)
    obtain ⟨rfl, hHe⟩ := hp9
    rw [hHe]
    refine lv_if_ne X.1.1 X.1.2.1 d_Hall_put_22 rfl (fun hc22 => ?_) (fun hc22 => ?_)
    · replace hc22 := gz_t hc22
      exact absurd ⟨hc11, hc22⟩ hbad
    · replace hc22 := gz_f hc22
      exact g_throw X B hne htr hE 1 (by decide) hL hl.1 (h := H.size) zz (by rw [hH]; exact Nat.le_refl _) d_Hall_put_25 d_Hall_put_28 d_Hall_put_29 d_Hall_put_32 (by decide) (by decide) (by decide) (by decide) (fun H1 ce h1 h2 h3 h4 h5 => ⟨⟨ce, h1, h2, h3⟩, hh.grow (by omega) (fun p hp => h5 p (by omega)), h4, fun p hp hz => (h5 p hp).trans (frA p hp hz)⟩) hL (by decide) (by decide)

set_option maxHeartbeats 4000000 in
set_option maxRecDepth 100000 in
theorem c_Hall_putO (l : Launch) (D : va_G) (q : Nat → ClassId) (H : Heap) (b : Nat) (c0 : Nat) (ad : Nat → Nat) (org : Nat → Option Nat) (srt : Nat → Nat) (bt : Nat → List Nat) (tn : Nat → Nat) (mp : Nat → Nat) (wk : Nat → Nat × Nat × Nat × Nat) (n : Nat → Nat) (ks : Nat → Nat → List Nat) (vs : Nat → Nat → Int32) (chg : Nat → Nat) (tp : List Nat) (ud : List Nat) (tl : List Nat) (an : Nat) (aks : Nat → List Nat) (aus : List Nat) (xs : List Nat) (us : List (List Nat)) (so : Nat) (hh : hA D q H b c0 ad org srt bt tn mp wk n ks vs chg tp ud tl an aks aus xs us so) (k : Nat) (hk : k < c0) (x : Int32) (hx : ¬ x < 0) (hin : v_in org srt bt k tp = true) (r : Nat) (hrn : r < n (mp k)) (hrk : ks (mp k) r = tp) : gC l y_Hall_put (Cond.code y_Hall_put b_Hall_put 7 (some .int) :: gWS) (gR 7 102 0 0) D CL (gY q) (fun _ => True) [.ref b, .int (nI k), .int x] H (fun v1 H1 => v1 = some (.int (vs (mp k) r)) ∧ hA D q H1 b c0 ad org srt bt tn mp wk (va_up n (mp k) (n (mp k))) (va_up ks (mp k) (ks (mp k))) (va_up vs (mp k) (upd (vs (mp k)) r x)) (va_up chg (mp k) (chg (mp k))) [] tp tl an aks aus xs us so ∧ H1.size = H.size ∧ ∀ p : Nat, p < H.size → ¬ hZ b c0 ad p → H1[p]? = H[p]?) 0 0 (fun p => b ≤ p) := by
  refine gC.ofW R_Hall "put" (by decide) rfl rfl ?_
  intro p e s m below meth c hadm X hE hH B hne
  refine g_entry [some (.ref b), some (.int (nI k)), some (.int x), none, none, none, none] rfl rfl (Nat.le_of_ble_eq_true rfl) (fun ls hl => ?_)
  have hh0 := hh
  obtain ⟨ho, hf, hd, hNN, hVV, hww, hmm, hgg, htp, hud, htl, haa, hxx⟩ := hh
  have hh := hh0
  have frA : ∀ p : Nat, p < H.size → ¬ hZ b c0 ad p → H[p]? = H[p]? := fun _ _ _ => rfl
  have zz : H.size = H.size := rfl
  refine lv_aload_n X.1.1 X.1.2.1 d_Hall_put_0 rfl (gl_at hl rfl) ?_
  refine lv_iload_n X.1.1 X.1.2.1 d_Hall_put_1 rfl (gl_at hl rfl) ?_
  refine g_cv (A := (fun p => b ≤ p)) X gWS_good mw_Hall_67 kc_Hall ho (c_Hall_viewNumbered l D q H b c0 ho ad hf hd.2.1 k hk) (fun _ _ _ => trivial) gBlind.tt rfl rfl hl.1 (Nat.le_of_ble_eq_true rfl) rfl rfl ⟨by decide, by decide⟩ ⟨by decide, by decide⟩ d_Hall_put_2 (fun _ h => h.elim) (fun _ h => by cases h) (fun v1 H2 locs hp3 hL => ?_)
  obtain ⟨rfl, hHe⟩ := hp3
  rw [hHe]
  refine g_astn X.1.1 X.1.2.1 hl 3 d_Hall_put_5 rfl (Nat.le_of_ble_eq_true rfl) rfl (fun ls hl => ?_)
  refine lv_aload_n X.1.1 X.1.2.1 d_Hall_put_6 rfl (gl_at hl rfl) ?_
  refine g_cv (A := (fun p => b ≤ p)) X gWS_good mw_Hall_74 kc_Hall ho (c_Hall_useTape l D q H b c0 ho tp ud htp hud) (fun _ _ _ => trivial) gBlind.tt rfl rfl hl.1 (Nat.le_of_ble_eq_true rfl) rfl rfl ⟨by decide, by decide⟩ ⟨by decide, by decide⟩ d_Hall_put_7 (fun p h => show b ≤ p by omega) hL (fun v4 H5 locs hp6 hL => ?_)
  obtain ⟨rfl, k1, k2, hz1, fr1⟩ := hp6
  replace frA : ∀ p : Nat, p < H.size → ¬ hZ b c0 ad p → H5[p]? = H[p]? := fun p hp hz => (fr1 p (by (have z1 := hZ_b hz); omega)).trans (frA p hp hz)
  replace zz := hz1.trans zz
  replace hh := hh.tape k1 k2 hz1 fr1
  clear ho hf hd hNN hVV hww hmm hgg htp hud htl haa hxx
  have hh0 := hh
  obtain ⟨ho, hf, hd, hNN, hVV, hww, hmm, hgg, htp, hud, htl, haa, hxx⟩ := hh
  have hh := hh0
  obtain ⟨⟨f0, t0, hvc⟩, hbk9⟩ := hVV k hk
  have hmk := hNN k hk
  have hmA := hmm (mp k) hmk.2.2.2
  have hdl := hd.lt hk
  have hnm := hmA.1.2.1
  have hfar := hd.far hk hmk.2.2.2
  refine lv_iload_n X.1.1 X.1.2.1 d_Hall_put_10 rfl (gl_at hl rfl) ?_
  refine lv_if_lt X.1.1 X.1.2.1 d_Hall_put_11 rfl (fun hc11 => ?_) (fun hc11 => ?_)
  · exact absurd hc11 hx
  · refine lv_aload_n X.1.1 X.1.2.1 d_Hall_put_14 rfl (gl_at hl rfl) ?_
    refine lv_aload_n X.1.1 X.1.2.1 d_Hall_put_15 rfl (gl_at hl rfl) ?_
    refine g_get X kc_Hall ho 1 (by decide) lk_Hall_16 rfl d_Hall_put_16 ?_
    refine g_cv (A := (fun p => b ≤ p)) X gWS_good mw_Hall_80 kc_View hvc (c_View_admits l D q H5 k ad org srt (v_bk ad) bt (hVV.vV hNN hk) (b + 3) tp hud) (fun _ _ _ => trivial) gBlind.tt rfl rfl hl.1 (Nat.le_of_ble_eq_true rfl) rfl rfl ⟨by decide, by decide⟩ ⟨by decide, by decide⟩ d_Hall_put_19 (fun _ h => h.elim) hL (fun v7 H8 locs hp9 hL => ?_)
    obtain ⟨rfl, hHe⟩ := hp9
    rw [hHe]
    refine lv_if_ne X.1.1 X.1.2.1 d_Hall_put_22 rfl (fun hc22 => ?_) (fun hc22 => ?_)
    · replace hc22 := gz_t hc22
      refine lv_aload_n X.1.1 X.1.2.1 d_Hall_put_33 rfl (gl_at hl rfl) ?_
      refine g_get X kc_View hvc 0 (by decide) lk_Hall_87 rfl d_Hall_put_34 ?_
      refine g_ast X.1.1 X.1.2.1 hl 4 d_Hall_put_37 (Nat.le_of_ble_eq_true rfl) rfl (fun ls hl => ?_)
      refine lv_aload X.1.1 X.1.2.1 d_Hall_put_39 (gl_at hl rfl) ?_
      refine lv_aload_n X.1.1 X.1.2.1 d_Hall_put_41 rfl (gl_at hl rfl) ?_
      refine g_get X kc_Hall ho 1 (by decide) lk_Hall_16 rfl d_Hall_put_42 ?_
      refine g_cv (A := (fun p => b ≤ p)) X gWS_good mw_Hall_91 kc_KeyMap hmA.1.1 (c_KeyMap_placeOf l D q H5 _ _ _ _ _ hmA.1 hmA.2 (b + 3) tp hud) (fun _ _ _ => trivial) gBlind.tt rfl rfl hl.1 (Nat.le_of_ble_eq_true rfl) rfl rfl ⟨by decide, by decide⟩ ⟨by decide, by decide⟩ d_Hall_put_45 (fun _ h => h.elim) hL (fun v10 H11 locs hp12 hL => ?_)
      obtain ⟨hw, hHe⟩ := hp12
      rw [hHe]
      obtain rfl : v10 = some (.int (nI r)) := by
        rcases hw with ⟨r9, h1, h2, h3⟩ | ⟨h1, h2⟩
        · rw [h2, mS_inj hmA.2 h1 hrn (h3.trans hrk.symm)]
        · exact absurd hrk (h2 r hrn)
      refine g_ist X.1.1 X.1.2.1 hl 5 d_Hall_put_48 (Nat.le_of_ble_eq_true rfl) rfl (fun ls hl => ?_)
      refine lv_iload X.1.1 X.1.2.1 d_Hall_put_50 (gl_at hl rfl) ?_
      refine lv_iconst (v := (-1)) X.1.1 X.1.2.1 d_Hall_put_52 (by decide) ?_
      refine lv_icmp_eq X.1.1 X.1.2.1 d_Hall_put_53 rfl (fun hc53 => ?_) (fun hc53 => ?_)
      · exact absurd (congrArg Int32.toInt hc53) (by rw [nI_toInt (by omega)]; show (r : Int) ≠ -1; omega)
      · obtain ⟨hmo, hnm9, ⟨mf, g, hmf, hfg, hg, hgi, hks⟩, hvv⟩ := hmA.1
        refine lv_aload X.1.1 X.1.2.1 d_Hall_put_56 (gl_at hl rfl) ?_
        refine g_get X kc_KeyMap hmo 1 (by decide) lk_Hall_95 rfl d_Hall_put_58 ?_
        refine lv_iload X.1.1 X.1.2.1 d_Hall_put_61 (gl_at hl rfl) ?_
        refine g_iald X 0 hvv rfl r (by omega) (by decide) d_Hall_put_63 ?_
        refine g_ist X.1.1 X.1.2.1 hl 6 d_Hall_put_64 (Nat.le_of_ble_eq_true rfl) rfl (fun ls hl => ?_)
        refine lv_aload X.1.1 X.1.2.1 d_Hall_put_66 (gl_at hl rfl) ?_
        refine g_get X kc_KeyMap hmo 1 (by decide) lk_Hall_95 rfl d_Hall_put_68 ?_
        refine lv_iload X.1.1 X.1.2.1 d_Hall_put_71 (gl_at hl rfl) ?_
        refine lv_iload_n X.1.1 X.1.2.1 d_Hall_put_73 rfl (gl_at hl rfl) ?_
        refine g_iast (A := (fun p => b ≤ p)) X 0 hvv rfl r (by omega) (by decide) d_Hall_put_74 (show b ≤ _ by omega) hL (fun H13 locs h14 z15 oq16 hL => ?_)
        replace ho := ho.kept (oq16 _ (by omega))
        replace hvc := hvc.kept (oq16 _ (by omega))
        replace hmo := hmo.kept (oq16 _ (by omega))
        replace hmf := hmf.kept (oq16 _ (by omega))
        have hk1 : mA D q H13 (b + 9 + 135 * mp k) (n (mp k)) (ks (mp k)) (upd (vs (mp k)) r x) (chg (mp k)) := ⟨hmo, hnm9, ⟨mf, g, hmf, hfg, hg, hgi, fun i hi => by
          obtain ⟨j, hj, hgj⟩ := hg i hi
          exact (hks i hi).kept (oq16 _ (by omega)) (oq16 _ (by omega))⟩, h14⟩
        have fr1 : ∀ p : Nat, ¬ (b + 9 + 135 * mp k ≤ p ∧ p ≤ b + 9 + 135 * mp k + 130) → H13[p]? = _ := fun p hp => oq16 p (by omega)
        replace frA : ∀ p : Nat, p < H.size → ¬ hZ b c0 ad p → H13[p]? = H[p]? := fun p hp hz => (fr1 p (by (have z1 := hZ_b hz); omega)).trans (frA p hp hz)
        replace zz := z15.trans zz
        replace hh := hh.map hmk.2.2.2 hk1 hmA.2 z15 fr1
        clear ho hf hd hNN hVV hww hmm hgg htp hud htl haa hxx
        have hh0 := hh
        obtain ⟨ho, hf, hd, hNN, hVV, hww, hmm, hgg, htp, hud, htl, haa, hxx⟩ := hh
        have hh := hh0
        refine lv_iload X.1.1 X.1.2.1 d_Hall_put_75 (gl_at hl rfl) ?_
        exact g_iret X B ⟨rfl, hh, zz, frA⟩ hL d_Hall_put_77 (by omega) (by omega)
    · replace hc22 := gz_f hc22
      exact absurd hin hc22

set_option maxHeartbeats 4000000 in
set_option maxRecDepth 100000 in
theorem c_Hall_putN (l : Launch) (D : va_G) (q : Nat → ClassId) (H : Heap) (b : Nat) (c0 : Nat) (ad : Nat → Nat) (org : Nat → Option Nat) (srt : Nat → Nat) (bt : Nat → List Nat) (tn : Nat → Nat) (mp : Nat → Nat) (wk : Nat → Nat × Nat × Nat × Nat) (n : Nat → Nat) (ks : Nat → Nat → List Nat) (vs : Nat → Nat → Int32) (chg : Nat → Nat) (tp : List Nat) (ud : List Nat) (tl : List Nat) (an : Nat) (aks : Nat → List Nat) (aus : List Nat) (xs : List Nat) (us : List (List Nat)) (so : Nat) (hh : hA D q H b c0 ad org srt bt tn mp wk n ks vs chg tp ud tl an aks aus xs us so) (k : Nat) (hk : k < c0) (x : Int32) (hx : ¬ x < 0) (hin : v_in org srt bt k tp = true) (hno : ∀ j, j < n (mp k) → ks (mp k) j ≠ tp) (hn64 : n (mp k) < 64) : gC l y_Hall_put (Cond.code y_Hall_put b_Hall_put 7 (some .int) :: gWS) (gR 7 102 0 0) D CL (gY q) (fun _ => True) [.ref b, .int (nI k), .int x] H (fun v1 H1 => ∃ r : Nat, r ≤ n (mp k) ∧ (∀ j, j < r → t_ord (ks (mp k) j) tp < 0) ∧ (r < n (mp k) → 0 ≤ t_ord (ks (mp k) r) tp) ∧ v1 = some (.int (-1)) ∧ hA D q H1 b c0 ad org srt bt tn mp wk (va_up n (mp k) (n (mp k) + 1)) (va_up ks (mp k) (mPut (ks (mp k)) r (n (mp k)) tp)) (va_up vs (mp k) (mPut (vs (mp k)) r (n (mp k)) x)) (va_up chg (mp k) (chg (mp k) + 1)) [] tp tl an aks aus xs us so ∧ H1.size = H.size ∧ ∀ p : Nat, p < H.size → ¬ hZ b c0 ad p → H1[p]? = H[p]?) 0 0 (fun p => b ≤ p) := by
  refine gC.ofW R_Hall "put" (by decide) rfl rfl ?_
  intro p e s m below meth c hadm X hE hH B hne
  refine g_entry [some (.ref b), some (.int (nI k)), some (.int x), none, none, none, none] rfl rfl (Nat.le_of_ble_eq_true rfl) (fun ls hl => ?_)
  have hh0 := hh
  obtain ⟨ho, hf, hd, hNN, hVV, hww, hmm, hgg, htp, hud, htl, haa, hxx⟩ := hh
  have hh := hh0
  have frA : ∀ p : Nat, p < H.size → ¬ hZ b c0 ad p → H[p]? = H[p]? := fun _ _ _ => rfl
  have zz : H.size = H.size := rfl
  refine lv_aload_n X.1.1 X.1.2.1 d_Hall_put_0 rfl (gl_at hl rfl) ?_
  refine lv_iload_n X.1.1 X.1.2.1 d_Hall_put_1 rfl (gl_at hl rfl) ?_
  refine g_cv (A := (fun p => b ≤ p)) X gWS_good mw_Hall_67 kc_Hall ho (c_Hall_viewNumbered l D q H b c0 ho ad hf hd.2.1 k hk) (fun _ _ _ => trivial) gBlind.tt rfl rfl hl.1 (Nat.le_of_ble_eq_true rfl) rfl rfl ⟨by decide, by decide⟩ ⟨by decide, by decide⟩ d_Hall_put_2 (fun _ h => h.elim) (fun _ h => by cases h) (fun v1 H2 locs hp3 hL => ?_)
  obtain ⟨rfl, hHe⟩ := hp3
  rw [hHe]
  refine g_astn X.1.1 X.1.2.1 hl 3 d_Hall_put_5 rfl (Nat.le_of_ble_eq_true rfl) rfl (fun ls hl => ?_)
  refine lv_aload_n X.1.1 X.1.2.1 d_Hall_put_6 rfl (gl_at hl rfl) ?_
  refine g_cv (A := (fun p => b ≤ p)) X gWS_good mw_Hall_74 kc_Hall ho (c_Hall_useTape l D q H b c0 ho tp ud htp hud) (fun _ _ _ => trivial) gBlind.tt rfl rfl hl.1 (Nat.le_of_ble_eq_true rfl) rfl rfl ⟨by decide, by decide⟩ ⟨by decide, by decide⟩ d_Hall_put_7 (fun p h => show b ≤ p by omega) hL (fun v4 H5 locs hp6 hL => ?_)
  obtain ⟨rfl, k1, k2, hz1, fr1⟩ := hp6
  replace frA : ∀ p : Nat, p < H.size → ¬ hZ b c0 ad p → H5[p]? = H[p]? := fun p hp hz => (fr1 p (by (have z1 := hZ_b hz); omega)).trans (frA p hp hz)
  replace zz := hz1.trans zz
  replace hh := hh.tape k1 k2 hz1 fr1
  clear ho hf hd hNN hVV hww hmm hgg htp hud htl haa hxx
  have hh0 := hh
  obtain ⟨ho, hf, hd, hNN, hVV, hww, hmm, hgg, htp, hud, htl, haa, hxx⟩ := hh
  have hh := hh0
  obtain ⟨⟨f0, t0, hvc⟩, hbk9⟩ := hVV k hk
  have hmk := hNN k hk
  have hmA := hmm (mp k) hmk.2.2.2
  have hdl := hd.lt hk
  have hnm := hmA.1.2.1
  have hfar := hd.far hk hmk.2.2.2
  refine lv_iload_n X.1.1 X.1.2.1 d_Hall_put_10 rfl (gl_at hl rfl) ?_
  refine lv_if_lt X.1.1 X.1.2.1 d_Hall_put_11 rfl (fun hc11 => ?_) (fun hc11 => ?_)
  · exact absurd hc11 hx
  · refine lv_aload_n X.1.1 X.1.2.1 d_Hall_put_14 rfl (gl_at hl rfl) ?_
    refine lv_aload_n X.1.1 X.1.2.1 d_Hall_put_15 rfl (gl_at hl rfl) ?_
    refine g_get X kc_Hall ho 1 (by decide) lk_Hall_16 rfl d_Hall_put_16 ?_
    refine g_cv (A := (fun p => b ≤ p)) X gWS_good mw_Hall_80 kc_View hvc (c_View_admits l D q H5 k ad org srt (v_bk ad) bt (hVV.vV hNN hk) (b + 3) tp hud) (fun _ _ _ => trivial) gBlind.tt rfl rfl hl.1 (Nat.le_of_ble_eq_true rfl) rfl rfl ⟨by decide, by decide⟩ ⟨by decide, by decide⟩ d_Hall_put_19 (fun _ h => h.elim) hL (fun v7 H8 locs hp9 hL => ?_)
    obtain ⟨rfl, hHe⟩ := hp9
    rw [hHe]
    refine lv_if_ne X.1.1 X.1.2.1 d_Hall_put_22 rfl (fun hc22 => ?_) (fun hc22 => ?_)
    · replace hc22 := gz_t hc22
      refine lv_aload_n X.1.1 X.1.2.1 d_Hall_put_33 rfl (gl_at hl rfl) ?_
      refine g_get X kc_View hvc 0 (by decide) lk_Hall_87 rfl d_Hall_put_34 ?_
      refine g_ast X.1.1 X.1.2.1 hl 4 d_Hall_put_37 (Nat.le_of_ble_eq_true rfl) rfl (fun ls hl => ?_)
      refine lv_aload X.1.1 X.1.2.1 d_Hall_put_39 (gl_at hl rfl) ?_
      refine lv_aload_n X.1.1 X.1.2.1 d_Hall_put_41 rfl (gl_at hl rfl) ?_
      refine g_get X kc_Hall ho 1 (by decide) lk_Hall_16 rfl d_Hall_put_42 ?_
      refine g_cv (A := (fun p => b ≤ p)) X gWS_good mw_Hall_91 kc_KeyMap hmA.1.1 (c_KeyMap_placeOf l D q H5 _ _ _ _ _ hmA.1 hmA.2 (b + 3) tp hud) (fun _ _ _ => trivial) gBlind.tt rfl rfl hl.1 (Nat.le_of_ble_eq_true rfl) rfl rfl ⟨by decide, by decide⟩ ⟨by decide, by decide⟩ d_Hall_put_45 (fun _ h => h.elim) hL (fun v10 H11 locs hp12 hL => ?_)
      obtain ⟨hw, hHe⟩ := hp12
      rw [hHe]
      obtain rfl : v10 = some (.int (-1)) := by
        rcases hw with ⟨r9, h1, h2, h3⟩ | ⟨h1, h2⟩
        · exact absurd h3 (hno r9 h1)
        · exact h1
      refine g_ist X.1.1 X.1.2.1 hl 5 d_Hall_put_48 (Nat.le_of_ble_eq_true rfl) rfl (fun ls hl => ?_)
      refine lv_iload X.1.1 X.1.2.1 d_Hall_put_50 (gl_at hl rfl) ?_
      refine lv_iconst (v := (-1)) X.1.1 X.1.2.1 d_Hall_put_52 (by decide) ?_
      refine lv_icmp_eq X.1.1 X.1.2.1 d_Hall_put_53 rfl (fun hc53 => ?_) (fun hc53 => ?_)
      · obtain ⟨hmo, hnm9, ⟨mf, g, hmf, hfg, hg, hgi, hks⟩, hvv⟩ := hmA.1
        refine lv_aload X.1.1 X.1.2.1 d_Hall_put_78 (gl_at hl rfl) ?_
        refine g_get X kc_KeyMap hmo 2 (by decide) lk_Hall_99 rfl d_Hall_put_80 ?_
        refine lv_bipush (v := nI 64) X.1.1 X.1.2.1 d_Hall_put_83 (by decide) ?_
        refine gn_lt X.1.1 X.1.2.1 (n (mp k)) 64 (by omega) (by omega) d_Hall_put_85 rfl (fun hc85 => ?_) (fun hc85 => ?_)
        · refine lv_aload X.1.1 X.1.2.1 d_Hall_put_96 (gl_at hl rfl) ?_
          refine lv_aload_n X.1.1 X.1.2.1 d_Hall_put_98 rfl (gl_at hl rfl) ?_
          refine g_get X kc_Hall ho 1 (by decide) lk_Hall_16 rfl d_Hall_put_99 ?_
          refine lv_iload_n X.1.1 X.1.2.1 d_Hall_put_102 rfl (gl_at hl rfl) ?_
          refine g_cv (A := (fun p => b ≤ p)) X gWS_good mw_Hall_105 kc_KeyMap hmA.1.1 (c_KeyMap_add l D q H5 _ _ _ _ _ hmA.1 (by omega) (b + 3) tp hud (by omega) x) (fun _ _ _ => trivial) gBlind.tt rfl rfl hl.1 (Nat.le_of_ble_eq_true rfl) rfl rfl ⟨by decide, by decide⟩ ⟨by decide, by decide⟩ d_Hall_put_103 (fun p h => show b ≤ p by omega) hL (fun v13 H14 locs hp15 hL => ?_)
          obtain ⟨r, g1, g2, g3, rfl, k1, hz1, fr1⟩ := hp15
          replace frA : ∀ p : Nat, p < H.size → ¬ hZ b c0 ad p → H14[p]? = H[p]? := fun p hp hz => (fr1 p (by (have z1 := hZ_b hz); omega)).trans (frA p hp hz)
          replace zz := hz1.trans zz
          replace hh := hh.map hmk.2.2.2 k1 (mS_put hmA.2 g1 g2 g3 hno) hz1 fr1
          clear ho hf hd hNN hVV hww hmm hgg htp hud htl haa hxx
          have hh0 := hh
          obtain ⟨ho, hf, hd, hNN, hVV, hww, hmm, hgg, htp, hud, htl, haa, hxx⟩ := hh
          have hh := hh0
          refine lv_iconst (v := (-1)) X.1.1 X.1.2.1 d_Hall_put_106 (by decide) ?_
          exact g_iret X B ⟨r, g1, g2, g3, rfl, hh, zz, frA⟩ hL d_Hall_put_107 (by omega) (by omega)
        · omega
      · exact absurd rfl hc53
    · replace hc22 := gz_f hc22
      exact absurd hin hc22

set_option maxHeartbeats 4000000 in
set_option maxRecDepth 100000 in
theorem t_Hall_put2 (l : Launch) (D : va_G) (q : Nat → ClassId) (H : Heap) (b : Nat) (c0 : Nat) (ad : Nat → Nat) (org : Nat → Option Nat) (srt : Nat → Nat) (bt : Nat → List Nat) (tn : Nat → Nat) (mp : Nat → Nat) (wk : Nat → Nat × Nat × Nat × Nat) (n : Nat → Nat) (ks : Nat → Nat → List Nat) (vs : Nat → Nat → Int32) (chg : Nat → Nat) (tp : List Nat) (ud : List Nat) (tl : List Nat) (an : Nat) (aks : Nat → List Nat) (aus : List Nat) (xs : List Nat) (us : List (List Nat)) (so : Nat) (hh : hA D q H b c0 ad org srt bt tn mp wk n ks vs chg tp ud tl an aks aus xs us so) (htr : ∀ e, l.admits e → e.platform.stackTraces = false) (xq : Nat → ClassId) (k : Nat) (hk : k < c0) (x : Int32) (hx : ¬ x < 0) (hin : v_in org srt bt k tp = true) (hno : ∀ j, j < n (mp k) → ks (mp k) j ≠ tp) (hn64 : 64 ≤ n (mp k)) : gT l y_Hall_put (Cond.code y_Hall_put b_Hall_put 7 (some .int) :: gWS) (gR 7 102 1 6) D CL (gY q) (fun U => gEs b xq U) [.ref b, .int (nI k), .int x] H (fun x H1 => (∃ ce : Cell, H1[x]? = some ce ∧ ce.cls = xq 2 ∧ ce.vm = .none) ∧ hA D q H1 b c0 ad org srt bt tn mp wk n ks vs chg [] tp tl an aks aus xs us so ∧ H1.size = H.size + 1 ∧ ∀ p : Nat, p < H.size → ¬ hZ b c0 ad p → H1[p]? = H[p]?) 1 6 (fun p => b ≤ p) := by
  refine gT.ofW R_Hall "put" (by decide) rfl rfl ?_
  intro p e s m below meth c hadm X hE hH B hne
  refine g_entry [some (.ref b), some (.int (nI k)), some (.int x), none, none, none, none] rfl rfl (Nat.le_of_ble_eq_true rfl) (fun ls hl => ?_)
  have hh0 := hh
  obtain ⟨ho, hf, hd, hNN, hVV, hww, hmm, hgg, htp, hud, htl, haa, hxx⟩ := hh
  have hh := hh0
  have frA : ∀ p : Nat, p < H.size → ¬ hZ b c0 ad p → H[p]? = H[p]? := fun _ _ _ => rfl
  have zz : H.size = H.size := rfl
  refine lv_aload_n X.1.1 X.1.2.1 d_Hall_put_0 rfl (gl_at hl rfl) ?_
  refine lv_iload_n X.1.1 X.1.2.1 d_Hall_put_1 rfl (gl_at hl rfl) ?_
  refine g_cv (A := (fun p => b ≤ p)) X gWS_good mw_Hall_67 kc_Hall ho (c_Hall_viewNumbered l D q H b c0 ho ad hf hd.2.1 k hk) (fun _ _ _ => trivial) gBlind.tt rfl rfl hl.1 (Nat.le_of_ble_eq_true rfl) rfl rfl ⟨by decide, by decide⟩ ⟨by decide, by decide⟩ d_Hall_put_2 (fun _ h => h.elim) (fun _ h => by cases h) (fun v1 H2 locs hp3 hL => ?_)
  obtain ⟨rfl, hHe⟩ := hp3
  rw [hHe]
  refine g_astn X.1.1 X.1.2.1 hl 3 d_Hall_put_5 rfl (Nat.le_of_ble_eq_true rfl) rfl (fun ls hl => ?_)
  refine lv_aload_n X.1.1 X.1.2.1 d_Hall_put_6 rfl (gl_at hl rfl) ?_
  refine g_cv (A := (fun p => b ≤ p)) X gWS_good mw_Hall_74 kc_Hall ho (c_Hall_useTape l D q H b c0 ho tp ud htp hud) (fun _ _ _ => trivial) gBlind.tt rfl rfl hl.1 (Nat.le_of_ble_eq_true rfl) rfl rfl ⟨by decide, by decide⟩ ⟨by decide, by decide⟩ d_Hall_put_7 (fun p h => show b ≤ p by omega) hL (fun v4 H5 locs hp6 hL => ?_)
  obtain ⟨rfl, k1, k2, hz1, fr1⟩ := hp6
  replace frA : ∀ p : Nat, p < H.size → ¬ hZ b c0 ad p → H5[p]? = H[p]? := fun p hp hz => (fr1 p (by (have z1 := hZ_b hz); omega)).trans (frA p hp hz)
  replace zz := hz1.trans zz
  replace hh := hh.tape k1 k2 hz1 fr1
  clear ho hf hd hNN hVV hww hmm hgg htp hud htl haa hxx
  have hh0 := hh
  obtain ⟨ho, hf, hd, hNN, hVV, hww, hmm, hgg, htp, hud, htl, haa, hxx⟩ := hh
  have hh := hh0
  obtain ⟨⟨f0, t0, hvc⟩, hbk9⟩ := hVV k hk
  have hmk := hNN k hk
  have hmA := hmm (mp k) hmk.2.2.2
  have hdl := hd.lt hk
  have hnm := hmA.1.2.1
  have hfar := hd.far hk hmk.2.2.2
  refine lv_iload_n X.1.1 X.1.2.1 d_Hall_put_10 rfl (gl_at hl rfl) ?_
  refine lv_if_lt X.1.1 X.1.2.1 d_Hall_put_11 rfl (fun hc11 => ?_) (fun hc11 => ?_)
  · exact absurd hc11 hx
  · refine lv_aload_n X.1.1 X.1.2.1 d_Hall_put_14 rfl (gl_at hl rfl) ?_
    refine lv_aload_n X.1.1 X.1.2.1 d_Hall_put_15 rfl (gl_at hl rfl) ?_
    refine g_get X kc_Hall ho 1 (by decide) lk_Hall_16 rfl d_Hall_put_16 ?_
    refine g_cv (A := (fun p => b ≤ p)) X gWS_good mw_Hall_80 kc_View hvc (c_View_admits l D q H5 k ad org srt (v_bk ad) bt (hVV.vV hNN hk) (b + 3) tp hud) (fun _ _ _ => trivial) gBlind.tt rfl rfl hl.1 (Nat.le_of_ble_eq_true rfl) rfl rfl ⟨by decide, by decide⟩ ⟨by decide, by decide⟩ d_Hall_put_19 (fun _ h => h.elim) hL (fun v7 H8 locs hp9 hL => ?_)
    obtain ⟨rfl, hHe⟩ := hp9
    rw [hHe]
    refine lv_if_ne X.1.1 X.1.2.1 d_Hall_put_22 rfl (fun hc22 => ?_) (fun hc22 => ?_)
    · replace hc22 := gz_t hc22
      refine lv_aload_n X.1.1 X.1.2.1 d_Hall_put_33 rfl (gl_at hl rfl) ?_
      refine g_get X kc_View hvc 0 (by decide) lk_Hall_87 rfl d_Hall_put_34 ?_
      refine g_ast X.1.1 X.1.2.1 hl 4 d_Hall_put_37 (Nat.le_of_ble_eq_true rfl) rfl (fun ls hl => ?_)
      refine lv_aload X.1.1 X.1.2.1 d_Hall_put_39 (gl_at hl rfl) ?_
      refine lv_aload_n X.1.1 X.1.2.1 d_Hall_put_41 rfl (gl_at hl rfl) ?_
      refine g_get X kc_Hall ho 1 (by decide) lk_Hall_16 rfl d_Hall_put_42 ?_
      refine g_cv (A := (fun p => b ≤ p)) X gWS_good mw_Hall_91 kc_KeyMap hmA.1.1 (c_KeyMap_placeOf l D q H5 _ _ _ _ _ hmA.1 hmA.2 (b + 3) tp hud) (fun _ _ _ => trivial) gBlind.tt rfl rfl hl.1 (Nat.le_of_ble_eq_true rfl) rfl rfl ⟨by decide, by decide⟩ ⟨by decide, by decide⟩ d_Hall_put_45 (fun _ h => h.elim) hL (fun v10 H11 locs hp12 hL => ?_)
      obtain ⟨hw, hHe⟩ := hp12
      rw [hHe]
      obtain rfl : v10 = some (.int (-1)) := by
        rcases hw with ⟨r9, h1, h2, h3⟩ | ⟨h1, h2⟩
        · exact absurd h3 (hno r9 h1)
        · exact h1
      refine g_ist X.1.1 X.1.2.1 hl 5 d_Hall_put_48 (Nat.le_of_ble_eq_true rfl) rfl (fun ls hl => ?_)
      refine lv_iload X.1.1 X.1.2.1 d_Hall_put_50 (gl_at hl rfl) ?_
      refine lv_iconst (v := (-1)) X.1.1 X.1.2.1 d_Hall_put_52 (by decide) ?_
      refine lv_icmp_eq X.1.1 X.1.2.1 d_Hall_put_53 rfl (fun hc53 => ?_) (fun hc53 => ?_)
      · obtain ⟨hmo, hnm9, ⟨mf, g, hmf, hfg, hg, hgi, hks⟩, hvv⟩ := hmA.1
        refine lv_aload X.1.1 X.1.2.1 d_Hall_put_78 (gl_at hl rfl) ?_
        refine g_get X kc_KeyMap hmo 2 (by decide) lk_Hall_99 rfl d_Hall_put_80 ?_
        refine lv_bipush (v := nI 64) X.1.1 X.1.2.1 d_Hall_put_83 (by decide) ?_
        refine gn_lt X.1.1 X.1.2.1 (n (mp k)) 64 (by omega) (by omega) d_Hall_put_85 rfl (fun hc85 => ?_) (fun hc85 => ?_)
        · omega
        · exact g_throw X B hne htr hE 2 (by decide) hL hl.1 (h := H.size) zz (by rw [hH]; exact Nat.le_refl _) d_Hall_put_88 d_Hall_put_91 d_Hall_put_92 d_Hall_put_95 (by decide) (by decide) (by decide) (by decide) (fun H1 ce h1 h2 h3 h4 h5 => ⟨⟨ce, h1, h2, h3⟩, hh.grow (by omega) (fun p hp => h5 p (by omega)), h4, fun p hp hz => (h5 p hp).trans (frA p hp hz)⟩) hL (by decide) (by decide)
      · exact absurd rfl hc53
    · replace hc22 := gz_f hc22
      exact absurd hin hc22

set_option maxHeartbeats 4000000 in
set_option maxRecDepth 100000 in
theorem c_Hall_iterate (l : Launch) (D : va_G) (q : Nat → ClassId) (H : Heap) (b : Nat) (c0 : Nat) (ad : Nat → Nat) (org : Nat → Option Nat) (srt : Nat → Nat) (bt : Nat → List Nat) (tn : Nat → Nat) (mp : Nat → Nat) (wk : Nat → Nat × Nat × Nat × Nat) (n : Nat → Nat) (ks : Nat → Nat → List Nat) (vs : Nat → Nat → Int32) (chg : Nat → Nat) (tp : List Nat) (ud : List Nat) (tl : List Nat) (an : Nat) (aks : Nat → List Nat) (aus : List Nat) (xs : List Nat) (us : List (List Nat)) (so : Nat) (hh : hA D q H b c0 ad org srt bt tn mp wk n ks vs chg tp ud tl an aks aus xs us so) (k : Nat) (hk : k < c0) : gC l y_Hall_iterate (Cond.code y_Hall_iterate b_Hall_iterate 3 (some .boolean) :: gWS) (gR 1 21 0 0) D CL (gY q) (fun _ => True) [.ref b, .int (nI k)] H (fun v1 H1 => v1 = some (.int (nI 1)) ∧ hA D q H1 b c0 ad org srt bt tn mp (va_up wk k (1, 0, 0, chg (mp k))) n ks vs chg tp ud tl an aks aus xs us so ∧ H1.size = H.size ∧ ∀ p : Nat, p < H.size → ¬ hZ b c0 ad p → H1[p]? = H[p]?) 0 0 (fun p => b ≤ p) := by
  refine gC.ofW R_Hall "iterate" (by decide) rfl rfl ?_
  intro p e s m below meth c hadm X hE hH B hne
  refine g_entry [some (.ref b), some (.int (nI k)), none] rfl rfl (Nat.le_of_ble_eq_true rfl) (fun ls hl => ?_)
  have hh0 := hh
  obtain ⟨ho, hf, hd, hNN, hVV, hww, hmm, hgg, htp, hud, htl, haa, hxx⟩ := hh
  have hh := hh0
  have frA : ∀ p : Nat, p < H.size → ¬ hZ b c0 ad p → H[p]? = H[p]? := fun _ _ _ => rfl
  have zz : H.size = H.size := rfl
  refine lv_aload_n X.1.1 X.1.2.1 d_Hall_iterate_0 rfl (gl_at hl rfl) ?_
  refine lv_iload_n X.1.1 X.1.2.1 d_Hall_iterate_1 rfl (gl_at hl rfl) ?_
  refine g_cv (A := (fun p => b ≤ p)) X gWS_good mw_Hall_114 kc_Hall ho (c_Hall_isView l D q H b c0 ho (nI k)) (fun _ _ _ => trivial) gBlind.tt rfl rfl hl.1 (Nat.le_of_ble_eq_true rfl) rfl rfl ⟨by decide, by decide⟩ ⟨by decide, by decide⟩ d_Hall_iterate_2 (fun _ h => h.elim) (fun _ h => by cases h) (fun v1 H2 locs hp3 hL => ?_)
  obtain ⟨rfl, hHe⟩ := hp3
  rw [hHe]
  refine lv_if_ne X.1.1 X.1.2.1 d_Hall_iterate_5 rfl (fun hc5 => ?_) (fun hc5 => ?_)
  · replace hc5 := gz_t hc5
    obtain ⟨vf, hvf, hvg⟩ := hf
    obtain ⟨⟨f0, t0, hvc⟩, hbk9⟩ := hVV k hk
    have hmk := hNN k hk
    have hmA := hmm (mp k) hmk.2.2.2
    have hdl := hd.lt hk
    have hnm := hmA.1.2.1
    have hfar := hd.far hk hmk.2.2.2
    obtain ⟨hmo, hnm9, ⟨mf, g, hmf, hfg, hg, hgi, hks⟩, hvv⟩ := hmA.1
    have hc12 := hd.2.1
    have hf := (⟨vf, hvf, hvg⟩ : hF D q H b c0 ad)
    refine lv_aload_n X.1.1 X.1.2.1 d_Hall_iterate_10 rfl (gl_at hl rfl) ?_
    refine g_get X kc_Hall ho 3 (by decide) lk_Hall_24 rfl d_Hall_iterate_11 ?_
    refine lv_iload_n X.1.1 X.1.2.1 d_Hall_iterate_14 rfl (gl_at hl rfl) ?_
    refine g_aald X 4 hvf rfl k (by omega) (by decide) (v := .ref (ad k)) (by rw [hvg _ (by omega)]; rfl) d_Hall_iterate_15 ?_
    refine g_astn X.1.1 X.1.2.1 hl 2 d_Hall_iterate_16 rfl (Nat.le_of_ble_eq_true rfl) rfl (fun ls hl => ?_)
    refine lv_aload_n X.1.1 X.1.2.1 d_Hall_iterate_17 rfl (gl_at hl rfl) ?_
    refine g_get X kc_View hvc 5 (by decide) lk_Hall_138 rfl d_Hall_iterate_18 ?_
    refine lv_aload_n X.1.1 X.1.2.1 d_Hall_iterate_21 rfl (gl_at hl rfl) ?_
    refine g_get X kc_View hvc 0 (by decide) lk_Hall_87 rfl d_Hall_iterate_22 ?_
    refine g_get X kc_KeyMap hmo 3 (by decide) lk_Hall_142 rfl d_Hall_iterate_25 ?_
    refine g_cv (A := (fun p => b ≤ p)) X gWS_good mw_Hall_145 kc_Walker (hww k hk) (c_Walker_begin l D q H (v_wk ad k) _ _ _ _ (hww k hk) (chg (mp k))) (fun _ _ _ => trivial) gBlind.tt rfl rfl hl.1 (Nat.le_of_ble_eq_true rfl) rfl rfl ⟨by decide, by decide⟩ ⟨by decide, by decide⟩ d_Hall_iterate_28 (fun p h => show b ≤ p by have h9 := hd.cells hk; omega) hL (fun v4 H5 locs hp6 hL => ?_)
    obtain ⟨rfl, k1, hz1, fr1⟩ := hp6
    replace frA : ∀ p : Nat, p < H.size → ¬ hZ b c0 ad p → H5[p]? = H[p]? := fun p hp hz => (fr1 p (by (have z1 := hZ_b hz); (have z2 := hZ_v hd hk hz); omega)).trans (frA p hp hz)
    replace zz := hz1.trans zz
    replace hh := hh.walk (w1 := (1, 0, 0, chg (mp k))) hk k1 hz1 (fun p hp => fr1 p hp)
    clear ho hf hd hNN hVV hww hmm hgg htp hud htl haa hxx
    have hh0 := hh
    obtain ⟨ho, hf, hd, hNN, hVV, hww, hmm, hgg, htp, hud, htl, haa, hxx⟩ := hh
    have hh := hh0
    refine lv_iconst (v := nI 1) X.1.1 X.1.2.1 d_Hall_iterate_31 (by decide) ?_
    exact g_zret X B (by decide) ⟨rfl, hh, zz, frA⟩ hL d_Hall_iterate_32 (by omega) (by omega)
  · replace hc5 := gz_f hc5
    exact absurd (h_ok_of (by have := hd.2.1; omega) hk) hc5

set_option maxHeartbeats 4000000 in
set_option maxRecDepth 100000 in
theorem c_Hall_iterateN (l : Launch) (D : va_G) (q : Nat → ClassId) (H : Heap) (b : Nat) (c0 : Nat) (ad : Nat → Nat) (org : Nat → Option Nat) (srt : Nat → Nat) (bt : Nat → List Nat) (tn : Nat → Nat) (mp : Nat → Nat) (wk : Nat → Nat × Nat × Nat × Nat) (n : Nat → Nat) (ks : Nat → Nat → List Nat) (vs : Nat → Nat → Int32) (chg : Nat → Nat) (tp : List Nat) (ud : List Nat) (tl : List Nat) (an : Nat) (aks : Nat → List Nat) (aus : List Nat) (xs : List Nat) (us : List (List Nat)) (so : Nat) (hh : hA D q H b c0 ad org srt bt tn mp wk n ks vs chg tp ud tl an aks aus xs us so) (v : Int32) (hv : ¬ h_ok c0 v) : gC l y_Hall_iterate (Cond.code y_Hall_iterate b_Hall_iterate 3 (some .boolean) :: gWS) (gR 1 21 0 0) D CL (gY q) (fun _ => True) [.ref b, .int v] H (fun v1 H1 => v1 = some (.int (nI 0)) ∧ hA D q H1 b c0 ad org srt bt tn mp wk n ks vs chg tp ud tl an aks aus xs us so ∧ H1.size = H.size ∧ ∀ p : Nat, p < H.size → ¬ hZ b c0 ad p → H1[p]? = H[p]?) 0 0 (fun p => b ≤ p) := by
  refine gC.ofW R_Hall "iterate" (by decide) rfl rfl ?_
  intro p e s m below meth c hadm X hE hH B hne
  refine g_entry [some (.ref b), some (.int v), none] rfl rfl (Nat.le_of_ble_eq_true rfl) (fun ls hl => ?_)
  have hh0 := hh
  obtain ⟨ho, hf, hd, hNN, hVV, hww, hmm, hgg, htp, hud, htl, haa, hxx⟩ := hh
  have hh := hh0
  have frA : ∀ p : Nat, p < H.size → ¬ hZ b c0 ad p → H[p]? = H[p]? := fun _ _ _ => rfl
  have zz : H.size = H.size := rfl
  refine lv_aload_n X.1.1 X.1.2.1 d_Hall_iterate_0 rfl (gl_at hl rfl) ?_
  refine lv_iload_n X.1.1 X.1.2.1 d_Hall_iterate_1 rfl (gl_at hl rfl) ?_
  refine g_cv (A := (fun p => b ≤ p)) X gWS_good mw_Hall_114 kc_Hall ho (c_Hall_isView l D q H b c0 ho v) (fun _ _ _ => trivial) gBlind.tt rfl rfl hl.1 (Nat.le_of_ble_eq_true rfl) rfl rfl ⟨by decide, by decide⟩ ⟨by decide, by decide⟩ d_Hall_iterate_2 (fun _ h => h.elim) (fun _ h => by cases h) (fun v1 H2 locs hp3 hL => ?_)
  obtain ⟨rfl, hHe⟩ := hp3
  rw [hHe]
  refine lv_if_ne X.1.1 X.1.2.1 d_Hall_iterate_5 rfl (fun hc5 => ?_) (fun hc5 => ?_)
  · replace hc5 := gz_t hc5
    exact absurd hc5 hv
  · replace hc5 := gz_f hc5
    refine lv_iconst (v := nI 0) X.1.1 X.1.2.1 d_Hall_iterate_8 (by decide) ?_
    exact g_zret X B (by decide) ⟨rfl, hh, zz, frA⟩ hL d_Hall_iterate_9 (by omega) (by omega)
