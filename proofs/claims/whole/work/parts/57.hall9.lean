/-! the class KeyHall, 9: printed by wip/specs/hall9.py -/
theorem gBlind.nw {a : String} {i : Nat} {x : MethodName} {h : String} : gBlind (fun U => va_Nw (.methodLinkNest a i x h) U) := fun U g mk a h => va_Nw.same rfl rfl h

set_option maxHeartbeats 4000000 in
set_option maxRecDepth 100000 in
theorem t_Hall_view0 (l : Launch) (D : va_G) (q : Nat → ClassId) (H : Heap) (b : Nat) (c0 : Nat) (ad : Nat → Nat) (org : Nat → Option Nat) (srt : Nat → Nat) (bt : Nat → List Nat) (tn : Nat → Nat) (mp : Nat → Nat) (wk : Nat → Nat × Nat × Nat × Nat) (n : Nat → Nat) (ks : Nat → Nat → List Nat) (vs : Nat → Nat → Int32) (chg : Nat → Nat) (tp : List Nat) (ud : List Nat) (tl : List Nat) (an : Nat) (aks : Nat → List Nat) (aus : List Nat) (xs : List Nat) (us : List (List Nat)) (so : Nat) (hh : hA D q H b c0 ad org srt bt tn mp wk n ks vs chg tp ud tl an aks aus xs us so) (htr : ∀ e, l.admits e → e.platform.stackTraces = false) (xq : Nat → ClassId) (k : Nat) (hk : k < c0) (x : Int32) (hbad : ¬ (¬ x < 0 ∧ x ≤ nI 3)) : gT l y_Hall_view (Cond.code y_Hall_view b_Hall_view 4 (some .int) :: gWS) (gR 7 102 1 6) D CL (gY q) (fun U => gEs b xq U) [.ref b, .int (nI k), .int x] H (fun x H1 => (∃ ce : Cell, H1[x]? = some ce ∧ ce.cls = xq 0 ∧ ce.vm = .none) ∧ hA D q H1 b c0 ad org srt bt tn mp wk n ks vs chg tp ud tl an aks aus xs us so ∧ H1.size = H.size + 1 ∧ ∀ p : Nat, p < H.size → ¬ hZ b c0 ad p → H1[p]? = H[p]?) 1 6 (fun p => b ≤ p) := by
  refine gT.ofW R_Hall "view" (by decide) rfl rfl ?_
  intro p e s m below meth c hadm X hE hH B hne
  refine g_entry [some (.ref b), some (.int (nI k)), some (.int x), none] rfl rfl (Nat.le_of_ble_eq_true rfl) (fun ls hl => ?_)
  have hh0 := hh
  obtain ⟨ho, hf, hd, hNN, hVV, hww, hmm, hgg, htp, hud, htl, haa, hxx⟩ := hh
  have hh := hh0
  have frA : ∀ p : Nat, p < H.size → ¬ hZ b c0 ad p → H[p]? = H[p]? := fun _ _ _ => rfl
  have zz : H.size = H.size := rfl
  refine lv_aload_n X.1.1 X.1.2.1 d_Hall_view_0 rfl (gl_at hl rfl) ?_
  refine lv_iload_n X.1.1 X.1.2.1 d_Hall_view_1 rfl (gl_at hl rfl) ?_
  refine g_cv (A := (fun p => b ≤ p)) X gWS_good mw_Hall_67 kc_Hall ho (c_Hall_viewNumbered l D q H b c0 ho ad hf hd.2.1 k hk) (fun _ _ _ => trivial) gBlind.tt rfl rfl hl.1 (Nat.le_of_ble_eq_true rfl) rfl rfl ⟨by decide, by decide⟩ ⟨by decide, by decide⟩ d_Hall_view_2 (fun _ h => h.elim) (fun _ h => by cases h) (fun v1 H2 locs hp3 hL => ?_)
  obtain ⟨rfl, hHe⟩ := hp3
  rw [hHe]
  refine g_astn X.1.1 X.1.2.1 hl 3 d_Hall_view_5 rfl (Nat.le_of_ble_eq_true rfl) rfl (fun ls hl => ?_)
  refine lv_iload_n X.1.1 X.1.2.1 d_Hall_view_6 rfl (gl_at hl rfl) ?_
  refine lv_if_lt X.1.1 X.1.2.1 d_Hall_view_7 rfl (fun hc7 => ?_) (fun hc7 => ?_)
  · exact g_throw X B hne htr hE 0 (by decide) hL hl.1 (h := H.size) zz (by rw [hH]; exact Nat.le_refl _) d_Hall_view_15 d_Hall_view_18 d_Hall_view_19 d_Hall_view_22 (by decide) (by decide) (by decide) (by decide) (fun H1 ce h1 h2 h3 h4 h5 => ⟨⟨ce, h1, h2, h3⟩, hh.grow (by omega) (fun p hp => h5 p (by omega)), h4, fun p hp hz => (h5 p hp).trans (frA p hp hz)⟩) hL (by decide) (by decide)
  · refine lv_iload_n X.1.1 X.1.2.1 d_Hall_view_10 rfl (gl_at hl rfl) ?_
    refine lv_iconst (v := nI 3) X.1.1 X.1.2.1 d_Hall_view_11 (by decide) ?_
    refine lv_icmp_le X.1.1 X.1.2.1 d_Hall_view_12 rfl (fun hc12 => ?_) (fun hc12 => ?_)
    · exact absurd ⟨hc7, hc12⟩ hbad
    · exact g_throw X B hne htr hE 0 (by decide) hL hl.1 (h := H.size) zz (by rw [hH]; exact Nat.le_refl _) d_Hall_view_15 d_Hall_view_18 d_Hall_view_19 d_Hall_view_22 (by decide) (by decide) (by decide) (by decide) (fun H1 ce h1 h2 h3 h4 h5 => ⟨⟨ce, h1, h2, h3⟩, hh.grow (by omega) (fun p hp => h5 p (by omega)), h4, fun p hp hz => (h5 p hp).trans (frA p hp hz)⟩) hL (by decide) (by decide)

set_option maxHeartbeats 4000000 in
set_option maxRecDepth 100000 in
theorem c_Hall_viewF (l : Launch) (D : va_G) (q : Nat → ClassId) (H : Heap) (b : Nat) (c0 : Nat) (ad : Nat → Nat) (org : Nat → Option Nat) (srt : Nat → Nat) (bt : Nat → List Nat) (tn : Nat → Nat) (mp : Nat → Nat) (wk : Nat → Nat × Nat × Nat × Nat) (n : Nat → Nat) (ks : Nat → Nat → List Nat) (vs : Nat → Nat → Int32) (chg : Nat → Nat) (tp : List Nat) (ud : List Nat) (tl : List Nat) (an : Nat) (aks : Nat → List Nat) (aus : List Nat) (xs : List Nat) (us : List (List Nat)) (so : Nat) (hh : hA D q H b c0 ad org srt bt tn mp wk n ks vs chg tp ud tl an aks aus xs us so) (k : Nat) (hk : k < c0) (s1 : Nat) (hs1 : s1 ≤ 3) (hfull : 12 ≤ c0) : gC l y_Hall_view (Cond.code y_Hall_view b_Hall_view 4 (some .int) :: gWS) (gR 7 102 0 0) D CL (gY q) (fun _ => True) [.ref b, .int (nI k), .int (nI s1)] H (fun v1 H1 => v1 = some (.int (-1)) ∧ hA D q H1 b c0 ad org srt bt tn mp wk n ks vs chg [] tp tl an aks aus xs us so ∧ H1.size = H.size ∧ ∀ p : Nat, p < H.size → ¬ hZ b c0 ad p → H1[p]? = H[p]?) 0 0 (fun p => b ≤ p) := by
  refine gC.ofW R_Hall "view" (by decide) rfl rfl ?_
  intro p e s m below meth c hadm X hE hH B hne
  refine g_entry [some (.ref b), some (.int (nI k)), some (.int (nI s1)), none] rfl rfl (Nat.le_of_ble_eq_true rfl) (fun ls hl => ?_)
  have hh0 := hh
  obtain ⟨ho, hf, hd, hNN, hVV, hww, hmm, hgg, htp, hud, htl, haa, hxx⟩ := hh
  have hh := hh0
  have frA : ∀ p : Nat, p < H.size → ¬ hZ b c0 ad p → H[p]? = H[p]? := fun _ _ _ => rfl
  have zz : H.size = H.size := rfl
  have hc12 := hd.2.1
  refine lv_aload_n X.1.1 X.1.2.1 d_Hall_view_0 rfl (gl_at hl rfl) ?_
  refine lv_iload_n X.1.1 X.1.2.1 d_Hall_view_1 rfl (gl_at hl rfl) ?_
  refine g_cv (A := (fun p => b ≤ p)) X gWS_good mw_Hall_67 kc_Hall ho (c_Hall_viewNumbered l D q H b c0 ho ad hf hd.2.1 k hk) (fun _ _ _ => trivial) gBlind.tt rfl rfl hl.1 (Nat.le_of_ble_eq_true rfl) rfl rfl ⟨by decide, by decide⟩ ⟨by decide, by decide⟩ d_Hall_view_2 (fun _ h => h.elim) (fun _ h => by cases h) (fun v1 H2 locs hp3 hL => ?_)
  obtain ⟨rfl, hHe⟩ := hp3
  rw [hHe]
  refine g_astn X.1.1 X.1.2.1 hl 3 d_Hall_view_5 rfl (Nat.le_of_ble_eq_true rfl) rfl (fun ls hl => ?_)
  refine lv_iload_n X.1.1 X.1.2.1 d_Hall_view_6 rfl (gl_at hl rfl) ?_
  refine lv_if_lt X.1.1 X.1.2.1 d_Hall_view_7 rfl (fun hc7 => ?_) (fun hc7 => ?_)
  · exact absurd hc7 (h_ok_of (c := 4) (by omega) (by omega)).1
  · refine lv_iload_n X.1.1 X.1.2.1 d_Hall_view_10 rfl (gl_at hl rfl) ?_
    refine lv_iconst (v := nI 3) X.1.1 X.1.2.1 d_Hall_view_11 (by decide) ?_
    refine gn_le X.1.1 X.1.2.1 s1 3 (by omega) (by omega) d_Hall_view_12 rfl (fun hc12 => ?_) (fun hc12 => ?_)
    · refine lv_aload_n X.1.1 X.1.2.1 d_Hall_view_23 rfl (gl_at hl rfl) ?_
      refine g_cv (A := (fun p => b ≤ p)) X gWS_good mw_Hall_74 kc_Hall ho (c_Hall_useTape l D q H b c0 ho tp ud htp hud) (fun _ _ _ => trivial) gBlind.tt rfl rfl hl.1 (Nat.le_of_ble_eq_true rfl) rfl rfl ⟨by decide, by decide⟩ ⟨by decide, by decide⟩ d_Hall_view_24 (fun p h => show b ≤ p by omega) hL (fun v4 H5 locs hp6 hL => ?_)
      obtain ⟨rfl, k1, k2, hz1, fr1⟩ := hp6
      replace frA : ∀ p : Nat, p < H.size → ¬ hZ b c0 ad p → H5[p]? = H[p]? := fun p hp hz => (fr1 p (by (have z1 := hZ_b hz); omega)).trans (frA p hp hz)
      replace zz := hz1.trans zz
      replace hh := hh.tape k1 k2 hz1 fr1
      clear ho hf hd hNN hVV hww hmm hgg htp hud htl haa hxx
      have hh0 := hh
      obtain ⟨ho, hf, hd, hNN, hVV, hww, hmm, hgg, htp, hud, htl, haa, hxx⟩ := hh
      have hh := hh0
      refine lv_aload_n X.1.1 X.1.2.1 d_Hall_view_27 rfl (gl_at hl rfl) ?_
      refine g_get X kc_Hall ho 4 (by decide) lk_Hall_34 rfl d_Hall_view_28 ?_
      refine lv_bipush (v := nI 12) X.1.1 X.1.2.1 d_Hall_view_31 (by decide) ?_
      refine gn_lt X.1.1 X.1.2.1 c0 12 (by omega) (by omega) d_Hall_view_33 rfl (fun hc33 => ?_) (fun hc33 => ?_)
      · omega
      · refine lv_iconst (v := (-1)) X.1.1 X.1.2.1 d_Hall_view_36 (by decide) ?_
        exact g_iret X B ⟨rfl, hh, zz, frA⟩ hL d_Hall_view_37 (by omega) (by omega)
    · omega

set_option maxHeartbeats 4000000 in
set_option maxRecDepth 100000 in
theorem c_Hall_view (l : Launch) (D : va_G) (q : Nat → ClassId) (H : Heap) (b : Nat) (c0 : Nat) (ad : Nat → Nat) (org : Nat → Option Nat) (srt : Nat → Nat) (bt : Nat → List Nat) (tn : Nat → Nat) (mp : Nat → Nat) (wk : Nat → Nat × Nat × Nat × Nat) (n : Nat → Nat) (ks : Nat → Nat → List Nat) (vs : Nat → Nat → Int32) (chg : Nat → Nat) (tp : List Nat) (ud : List Nat) (tl : List Nat) (an : Nat) (aks : Nat → List Nat) (aus : List Nat) (xs : List Nat) (us : List (List Nat)) (so : Nat) (hh : hA D q H b c0 ad org srt bt tn mp wk n ks vs chg tp ud tl an aks aus xs us so) (k : Nat) (hk : k < c0) (s1 : Nat) (hs1 : s1 ≤ 3) (hc : c0 < 12) (z : Nat) (hz0 : H.size = z) : gC l y_Hall_view (Cond.code y_Hall_view b_Hall_view 4 (some .int) :: gWS) (gR 7 102 5 22) D CL (gY q) (fun U => va_Nw (.methodLinkNest R_View 36 y_Walker_init "KeyHall") U) [.ref b, .int (nI k), .int (nI s1)] H (fun v1 H1 => v1 = some (.int (nI c0)) ∧ hA D q H1 b (c0 + 1) (va_up ad c0 z) (va_up org c0 (some k)) (va_up srt c0 s1) (va_up bt c0 tp) (va_up tn c0 (v_tn s1 (tn k))) (va_up mp c0 (mp k)) (va_up wk c0 (0, 0, 0, 0)) n ks vs chg [] tp tl an aks aus xs us so ∧ H1.size = H.size + 4 ∧ ∀ p : Nat, p < H.size → ¬ hZ b c0 ad p → H1[p]? = H[p]?) 5 22 (fun p => b ≤ p) := by
  refine gC.ofW R_Hall "view" (by decide) rfl rfl ?_
  intro p e s m below meth c hadm X hE hH B hne
  refine g_entry [some (.ref b), some (.int (nI k)), some (.int (nI s1)), none] rfl rfl (Nat.le_of_ble_eq_true rfl) (fun ls hl => ?_)
  have hh0 := hh
  obtain ⟨ho, hf, hd, hNN, hVV, hww, hmm, hgg, htp, hud, htl, haa, hxx⟩ := hh
  have hh := hh0
  have frA : ∀ p : Nat, p < H.size → ¬ hZ b c0 ad p → H[p]? = H[p]? := fun _ _ _ => rfl
  have zz : H.size = H.size := rfl
  refine lv_aload_n X.1.1 X.1.2.1 d_Hall_view_0 rfl (gl_at hl rfl) ?_
  refine lv_iload_n X.1.1 X.1.2.1 d_Hall_view_1 rfl (gl_at hl rfl) ?_
  refine g_cv (A := (fun p => b ≤ p)) X gWS_good mw_Hall_67 kc_Hall ho (c_Hall_viewNumbered l D q H b c0 ho ad hf hd.2.1 k hk) (fun _ _ _ => trivial) gBlind.tt rfl rfl hl.1 (Nat.le_of_ble_eq_true rfl) rfl rfl ⟨by decide, by decide⟩ ⟨by decide, by decide⟩ d_Hall_view_2 (fun _ h => h.elim) (fun _ h => by cases h) (fun v1 H2 locs hp3 hL => ?_)
  obtain ⟨rfl, hHe⟩ := hp3
  rw [hHe]
  refine g_astn X.1.1 X.1.2.1 hl 3 d_Hall_view_5 rfl (Nat.le_of_ble_eq_true rfl) rfl (fun ls hl => ?_)
  refine lv_iload_n X.1.1 X.1.2.1 d_Hall_view_6 rfl (gl_at hl rfl) ?_
  refine lv_if_lt X.1.1 X.1.2.1 d_Hall_view_7 rfl (fun hc7 => ?_) (fun hc7 => ?_)
  · exact absurd hc7 (h_ok_of (c := 4) (by omega) (by omega)).1
  · refine lv_iload_n X.1.1 X.1.2.1 d_Hall_view_10 rfl (gl_at hl rfl) ?_
    refine lv_iconst (v := nI 3) X.1.1 X.1.2.1 d_Hall_view_11 (by decide) ?_
    refine gn_le X.1.1 X.1.2.1 s1 3 (by omega) (by omega) d_Hall_view_12 rfl (fun hc12 => ?_) (fun hc12 => ?_)
    · refine lv_aload_n X.1.1 X.1.2.1 d_Hall_view_23 rfl (gl_at hl rfl) ?_
      refine g_cv (A := (fun p => b ≤ p)) X gWS_good mw_Hall_74 kc_Hall ho (c_Hall_useTape l D q H b c0 ho tp ud htp hud) (fun _ _ _ => trivial) gBlind.tt rfl rfl hl.1 (Nat.le_of_ble_eq_true rfl) rfl rfl ⟨by decide, by decide⟩ ⟨by decide, by decide⟩ d_Hall_view_24 (fun p h => show b ≤ p by omega) hL (fun v4 H5 locs hp6 hL => ?_)
      obtain ⟨rfl, k1, k2, hz1, fr1⟩ := hp6
      replace frA : ∀ p : Nat, p < H.size → ¬ hZ b c0 ad p → H5[p]? = H[p]? := fun p hp hz => (fr1 p (by (have z1 := hZ_b hz); omega)).trans (frA p hp hz)
      replace zz := hz1.trans zz
      replace hh := hh.tape k1 k2 hz1 fr1
      clear ho hf hd hNN hVV hww hmm hgg htp hud htl haa hxx
      have hh0 := hh
      obtain ⟨ho, hf, hd, hNN, hVV, hww, hmm, hgg, htp, hud, htl, haa, hxx⟩ := hh
      have hh := hh0
      refine lv_aload_n X.1.1 X.1.2.1 d_Hall_view_27 rfl (gl_at hl rfl) ?_
      refine g_get X kc_Hall ho 4 (by decide) lk_Hall_34 rfl d_Hall_view_28 ?_
      refine lv_bipush (v := nI 12) X.1.1 X.1.2.1 d_Hall_view_31 (by decide) ?_
      refine gn_lt X.1.1 X.1.2.1 c0 12 (by omega) (by omega) d_Hall_view_33 rfl (fun hc33 => ?_) (fun hc33 => ?_)
      · obtain ⟨⟨f0, t0, hvc⟩, hbk9⟩ := hVV k hk
        have hmk := hNN k hk
        have hmA := hmm (mp k) hmk.2.2.2
        have hdl := hd.lt hk
        have hnm := hmA.1.2.1
        have hfar := hd.far hk hmk.2.2.2
        obtain ⟨vf, hvf, hvg⟩ := hf
        have hz559 := hd.2.2.1
        have hzc : H5.size = z := zz.trans hz0
        refine lv_aload_n X.1.1 X.1.2.1 d_Hall_view_38 rfl (gl_at hl rfl) ?_
        refine g_get X kc_Hall ho 3 (by decide) lk_Hall_24 rfl d_Hall_view_39 ?_
        refine lv_aload_n X.1.1 X.1.2.1 d_Hall_view_42 rfl (gl_at hl rfl) ?_
        refine g_get X kc_Hall ho 4 (by decide) lk_Hall_34 rfl d_Hall_view_43 ?_
        refine g_new X kc_View lk_Hall_22 ki_View.1 ki_View.2 (fs := [.null, .null, .int 0, .null, .int 0, .null, .int 0, .int 0]) kf_View (Nat.le_of_ble_eq_true rfl) (Nat.le_of_ble_eq_true rfl) d_Hall_view_46 (fun H7 h8 z9 o10 => ?_)
        rw [hzc] at h8 z9 o10 ⊢
        replace ho := ho.kept (o10 _ (by omega))
        replace hvc := hvc.kept (o10 _ (by omega))
        replace hvf := hvf.kept (o10 _ (by omega))
        replace hud := hud.kept (o10 _ (by omega)) (o10 _ (by omega))
        refine lv_dup X.1.1 X.1.2.1 d_Hall_view_49 rfl ?_
        refine lv_aload_n X.1.1 X.1.2.1 d_Hall_view_50 rfl (gl_at hl rfl) ?_
        refine lv_iload_n X.1.1 X.1.2.1 d_Hall_view_51 rfl (gl_at hl rfl) ?_
        refine lv_aload_n X.1.1 X.1.2.1 d_Hall_view_52 rfl (gl_at hl rfl) ?_
        refine g_get X kc_Hall ho 1 (by decide) lk_Hall_16 rfl d_Hall_view_53 ?_
        refine g_ci (A := (fun p => b ≤ p)) X gWS_good mw_Hall_77 (c_View_init2 l D q H7 z (by omega) h8 (ad k) _ _ _ _ _ _ _ _ hvc (by omega) hmk.2.2.1 s1 hs1 (b + 3) tp hud (by omega)) (fun V h1 h2 => va_Nw.warmM h2 hE) gBlind.nw rfl rfl hl.1 (Nat.le_of_ble_eq_true rfl) rfl rfl ⟨by decide, by decide⟩ ⟨by decide, by decide⟩ d_Hall_view_56 (fun p h => show b ≤ p by omega) hL (fun v11 H12 locs hp13 hL => ?_)
        obtain ⟨rfl, kv, kb, kw, hz4, fr4⟩ := hp13
        replace ho := va_at.kept ho (fr4 _ (by omega))
        replace hvc := va_at.kept hvc (fr4 _ (by omega))
        replace hvf := va_at.kept hvf (fr4 _ (by omega))
        replace hud := hud.kept (fr4 _ (by omega)) (fr4 _ (by omega))
        refine g_aast (A := (fun p => b ≤ p)) X 4 kc_View hvf rfl kv c0 (by omega) (by decide) d_Hall_view_59 (show b ≤ _ by omega) hL (fun H14 locs h15 z16 oq17 hL => ?_)
        replace ho := ho.kept (oq17 _ (by omega))
        replace hvc := hvc.kept (oq17 _ (by omega))
        replace kv := kv.kept (oq17 _ (by omega))
        replace kw := kw.kept (oq17 _ (by omega))
        replace hud := hud.kept (oq17 _ (by omega)) (oq17 _ (by omega))
        replace kb := kb.kept (oq17 _ (by omega)) (oq17 _ (by omega))
        have hz18 := z16.trans hz4
        refine lv_aload_n X.1.1 X.1.2.1 d_Hall_view_60 rfl (gl_at hl rfl) ?_
        refine lv_dup X.1.1 X.1.2.1 d_Hall_view_61 rfl ?_
        refine g_get X kc_Hall ho 4 (by decide) lk_Hall_34 rfl d_Hall_view_62 ?_
        refine lv_iconst (v := nI 1) X.1.1 X.1.2.1 d_Hall_view_65 (by decide) ?_
        refine lv_iadd X.1.1 X.1.2.1 d_Hall_view_66 ?_
        refine g_top (nI (c0 + 1)) (nI_add _ _) ?_
        refine g_put (A := (fun p => b ≤ p)) X kc_Hall ho 4 (by decide) lk_Hall_34 rfl rfl rfl (Nat.le_of_ble_eq_true rfl) d_Hall_view_67 (show b ≤ _ by omega) hL (fun H19 locs h20 z21 oq22 hL => ?_)
        replace hvc := hvc.kept (oq22 _ (by omega))
        replace h15 := h15.kept (oq22 _ (by omega))
        replace kv := kv.kept (oq22 _ (by omega))
        replace kw := kw.kept (oq22 _ (by omega))
        replace hud := hud.kept (oq22 _ (by omega)) (oq22 _ (by omega))
        replace kb := kb.kept (oq22 _ (by omega)) (oq22 _ (by omega))
        have hz23 := z21.trans hz18
        refine lv_aload_n X.1.1 X.1.2.1 d_Hall_view_70 rfl (gl_at hl rfl) ?_
        refine g_get X kc_Hall h20 4 (by decide) lk_Hall_34 rfl d_Hall_view_71 ?_
        refine lv_iconst (v := nI 1) X.1.1 X.1.2.1 d_Hall_view_74 (by decide) ?_
        refine lv_isub X.1.1 X.1.2.1 d_Hall_view_75 ?_
        refine g_top (nI ((c0 + 1) - 1)) (pk_sub (by omega)) ?_
        refine g_top (nI c0) (by rw [Nat.add_sub_cancel]) ?_
        have frN : ∀ p : Nat, p < z → ¬ (p = b ∨ p = b + 7) → H19[p]? = H5[p]? := fun p hp hp2 => ((oq22 p (by omega)).trans ((oq17 p (by omega)).trans ((fr4 p (by omega)).trans (o10 p (by omega)))))
        have hhN := hh.view (k := k) (s1 := s1) (z := z) (xs1 := tp) hzc hk (by omega) hs1 h20 ⟨_, h15, fun j hj => by
          unfold va_up
          by_cases h9 : j = c0
          · rw [if_pos h9, if_pos h9]
          · rw [if_neg h9, if_neg h9]
            exact hvg j (by omega)⟩ kv kb kw (by omega) frN
        exact g_iret X B ⟨rfl, hhN, by omega, fun p hp hz => (frN p (by omega) (by have z1 := hZ_b hz; omega)).trans (frA p hp hz)⟩ hL d_Hall_view_76 (by omega) (by omega)
      · omega
    · omega
