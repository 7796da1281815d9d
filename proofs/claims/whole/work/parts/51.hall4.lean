/-! the class KeyHall, 4: printed by wip/specs/hall4.py -/
set_option maxHeartbeats 4000000 in
set_option maxRecDepth 100000 in
theorem c_Hall_getN (l : Launch) (D : va_G) (q : Nat → ClassId) (H : Heap) (b : Nat) (c0 : Nat) (ad : Nat → Nat) (org : Nat → Option Nat) (srt : Nat → Nat) (bt : Nat → List Nat) (tn : Nat → Nat) (mp : Nat → Nat) (wk : Nat → Nat × Nat × Nat × Nat) (n : Nat → Nat) (ks : Nat → Nat → List Nat) (vs : Nat → Nat → Int32) (chg : Nat → Nat) (tp : List Nat) (ud : List Nat) (tl : List Nat) (an : Nat) (aks : Nat → List Nat) (aus : List Nat) (xs : List Nat) (us : List (List Nat)) (so : Nat) (hh : hA D q H b c0 ad org srt bt tn mp wk n ks vs chg tp ud tl an aks aus xs us so) (k : Nat) (hk : k < c0) (hno : h_none org srt bt k (n (mp k)) (ks (mp k)) tp) : gC l y_Hall_get (Cond.code y_Hall_get b_Hall_get 4 (some .int) :: gWS) (gR 7 109 0 0) D CL (gY q) (fun _ => True) [.ref b, .int (nI k)] H (fun v1 H1 => v1 = some (.int (-1)) ∧ hA D q H1 b c0 ad org srt bt tn mp wk n ks vs chg [] tp tl an aks aus xs us so ∧ H1.size = H.size ∧ ∀ p : Nat, p < H.size → ¬ hZ b c0 ad p → H1[p]? = H[p]?) 0 0 (fun p => b ≤ p) := by
  refine gC.ofW R_Hall "get" (by decide) rfl rfl ?_
  intro p e s m below meth c hadm X hE hH B hne
  refine g_entry [some (.ref b), some (.int (nI k)), none, none] rfl rfl (Nat.le_of_ble_eq_true rfl) (fun ls hl => ?_)
  have hh0 := hh
  obtain ⟨ho, hf, hd, hNN, hVV, hww, hmm, hgg, htp, hud, htl, haa, hxx⟩ := hh
  have hh := hh0
  have frA : ∀ p : Nat, p < H.size → ¬ hZ b c0 ad p → H[p]? = H[p]? := fun _ _ _ => rfl
  have zz : H.size = H.size := rfl
  refine lv_aload_n X.1.1 X.1.2.1 d_Hall_get_0 rfl (gl_at hl rfl) ?_
  refine lv_iload_n X.1.1 X.1.2.1 d_Hall_get_1 rfl (gl_at hl rfl) ?_
  refine g_cv (A := (fun p => b ≤ p)) X gWS_good mw_Hall_67 kc_Hall ho (c_Hall_viewNumbered l D q H b c0 ho ad hf hd.2.1 k hk) (fun _ _ _ => trivial) gBlind.tt rfl rfl hl.1 (Nat.le_of_ble_eq_true rfl) rfl rfl ⟨by decide, by decide⟩ ⟨by decide, by decide⟩ d_Hall_get_2 (fun _ h => h.elim) (fun _ h => by cases h) (fun v1 H2 locs hp3 hL => ?_)
  obtain ⟨rfl, hHe⟩ := hp3
  rw [hHe]
  refine g_astn X.1.1 X.1.2.1 hl 2 d_Hall_get_5 rfl (Nat.le_of_ble_eq_true rfl) rfl (fun ls hl => ?_)
  refine lv_aload_n X.1.1 X.1.2.1 d_Hall_get_6 rfl (gl_at hl rfl) ?_
  refine g_cv (A := (fun p => b ≤ p)) X gWS_good mw_Hall_74 kc_Hall ho (c_Hall_useTape l D q H b c0 ho tp ud htp hud) (fun _ _ _ => trivial) gBlind.tt rfl rfl hl.1 (Nat.le_of_ble_eq_true rfl) rfl rfl ⟨by decide, by decide⟩ ⟨by decide, by decide⟩ d_Hall_get_7 (fun p h => show b ≤ p by omega) hL (fun v4 H5 locs hp6 hL => ?_)
  obtain ⟨rfl, k1, k2, hz1, fr1⟩ := hp6
  replace frA : ∀ p : Nat, p < H.size → ¬ hZ b c0 ad p → H5[p]? = H[p]? := fun p hp hz => (fr1 p (by (have z1 := hZ_b hz); omega)).trans (frA p hp hz)
  replace zz := hz1.trans zz
  replace hh := hh.tape k1 k2 hz1 fr1
  clear ho hf hd hNN hVV hww hmm hgg htp hud htl haa hxx
  have hh0 := hh
  obtain ⟨ho, hf, hd, hNN, hVV, hww, hmm, hgg, htp, hud, htl, haa, hxx⟩ := hh
  have hh := hh0
  obtain ⟨⟨f0, t0, hvc⟩, hbk9⟩ := hVV k hk
  have hmk := hNN k hk
  have hmA := hmm (mp k) hmk.2.2.2
  have hdl := hd.lt hk
  have hnm := hmA.1.2.1
  have hfar := hd.far hk hmk.2.2.2
  refine lv_aload_n X.1.1 X.1.2.1 d_Hall_get_10 rfl (gl_at hl rfl) ?_
  refine lv_aload_n X.1.1 X.1.2.1 d_Hall_get_11 rfl (gl_at hl rfl) ?_
  refine g_get X kc_Hall ho 1 (by decide) lk_Hall_16 rfl d_Hall_get_12 ?_
  refine g_cv (A := (fun p => b ≤ p)) X gWS_good mw_Hall_109 kc_View hvc (c_View_placeOf l D q H5 k ad org srt (v_bk ad) bt (hVV.vV hNN hk) _ _ _ f0 t0 hvc _ _ _ _ hmA.1 hmA.2 (b + 3) tp hud) (fun _ _ _ => trivial) gBlind.tt rfl rfl hl.1 (Nat.le_of_ble_eq_true rfl) rfl rfl ⟨by decide, by decide⟩ ⟨by decide, by decide⟩ d_Hall_get_15 (fun _ h => h.elim) hL (fun v7 H8 locs hp9 hL => ?_)
  obtain ⟨⟨w, rfl, hw⟩, hHe⟩ := hp9
  rw [hHe]
  obtain rfl : w = none := by
    cases w with
    | none => rfl
    | some r9 => exact (h_not hno (show h_some org srt bt k (n (mp k)) (ks (mp k)) tp r9 from hw)).elim
  refine g_top (-1) rfl ?_
  refine g_istn X.1.1 X.1.2.1 hl 3 d_Hall_get_18 rfl (Nat.le_of_ble_eq_true rfl) rfl (fun ls hl => ?_)
  refine lv_iload_n X.1.1 X.1.2.1 d_Hall_get_19 rfl (gl_at hl rfl) ?_
  refine lv_iconst (v := (-1)) X.1.1 X.1.2.1 d_Hall_get_20 (by decide) ?_
  refine lv_icmp_ne X.1.1 X.1.2.1 d_Hall_get_21 rfl (fun hc21 => ?_) (fun hc21 => ?_)
  · exact absurd rfl hc21
  · refine lv_iconst (v := (-1)) X.1.1 X.1.2.1 d_Hall_get_24 (by decide) ?_
    refine lv_goto X.1.1 X.1.2.1 d_Hall_get_25 rfl ?_
    exact g_iret X B ⟨rfl, hh, zz, frA⟩ hL d_Hall_get_37 (by omega) (by omega)

set_option maxHeartbeats 4000000 in
set_option maxRecDepth 100000 in
theorem c_Hall_get (l : Launch) (D : va_G) (q : Nat → ClassId) (H : Heap) (b : Nat) (c0 : Nat) (ad : Nat → Nat) (org : Nat → Option Nat) (srt : Nat → Nat) (bt : Nat → List Nat) (tn : Nat → Nat) (mp : Nat → Nat) (wk : Nat → Nat × Nat × Nat × Nat) (n : Nat → Nat) (ks : Nat → Nat → List Nat) (vs : Nat → Nat → Int32) (chg : Nat → Nat) (tp : List Nat) (ud : List Nat) (tl : List Nat) (an : Nat) (aks : Nat → List Nat) (aus : List Nat) (xs : List Nat) (us : List (List Nat)) (so : Nat) (hh : hA D q H b c0 ad org srt bt tn mp wk n ks vs chg tp ud tl an aks aus xs us so) (k : Nat) (hk : k < c0) (r : Nat) (hyes : h_some org srt bt k (n (mp k)) (ks (mp k)) tp r) : gC l y_Hall_get (Cond.code y_Hall_get b_Hall_get 4 (some .int) :: gWS) (gR 7 109 0 0) D CL (gY q) (fun _ => True) [.ref b, .int (nI k)] H (fun v1 H1 => v1 = some (.int (vs (mp k) r)) ∧ hA D q H1 b c0 ad org srt bt tn mp wk n ks vs chg [] tp tl an aks aus xs us so ∧ H1.size = H.size ∧ ∀ p : Nat, p < H.size → ¬ hZ b c0 ad p → H1[p]? = H[p]?) 0 0 (fun p => b ≤ p) := by
  refine gC.ofW R_Hall "get" (by decide) rfl rfl ?_
  intro p e s m below meth c hadm X hE hH B hne
  refine g_entry [some (.ref b), some (.int (nI k)), none, none] rfl rfl (Nat.le_of_ble_eq_true rfl) (fun ls hl => ?_)
  have hh0 := hh
  obtain ⟨ho, hf, hd, hNN, hVV, hww, hmm, hgg, htp, hud, htl, haa, hxx⟩ := hh
  have hh := hh0
  have frA : ∀ p : Nat, p < H.size → ¬ hZ b c0 ad p → H[p]? = H[p]? := fun _ _ _ => rfl
  have zz : H.size = H.size := rfl
  refine lv_aload_n X.1.1 X.1.2.1 d_Hall_get_0 rfl (gl_at hl rfl) ?_
  refine lv_iload_n X.1.1 X.1.2.1 d_Hall_get_1 rfl (gl_at hl rfl) ?_
  refine g_cv (A := (fun p => b ≤ p)) X gWS_good mw_Hall_67 kc_Hall ho (c_Hall_viewNumbered l D q H b c0 ho ad hf hd.2.1 k hk) (fun _ _ _ => trivial) gBlind.tt rfl rfl hl.1 (Nat.le_of_ble_eq_true rfl) rfl rfl ⟨by decide, by decide⟩ ⟨by decide, by decide⟩ d_Hall_get_2 (fun _ h => h.elim) (fun _ h => by cases h) (fun v1 H2 locs hp3 hL => ?_)
  obtain ⟨rfl, hHe⟩ := hp3
  rw [hHe]
  refine g_astn X.1.1 X.1.2.1 hl 2 d_Hall_get_5 rfl (Nat.le_of_ble_eq_true rfl) rfl (fun ls hl => ?_)
  refine lv_aload_n X.1.1 X.1.2.1 d_Hall_get_6 rfl (gl_at hl rfl) ?_
  refine g_cv (A := (fun p => b ≤ p)) X gWS_good mw_Hall_74 kc_Hall ho (c_Hall_useTape l D q H b c0 ho tp ud htp hud) (fun _ _ _ => trivial) gBlind.tt rfl rfl hl.1 (Nat.le_of_ble_eq_true rfl) rfl rfl ⟨by decide, by decide⟩ ⟨by decide, by decide⟩ d_Hall_get_7 (fun p h => show b ≤ p by omega) hL (fun v4 H5 locs hp6 hL => ?_)
  obtain ⟨rfl, k1, k2, hz1, fr1⟩ := hp6
  replace frA : ∀ p : Nat, p < H.size → ¬ hZ b c0 ad p → H5[p]? = H[p]? := fun p hp hz => (fr1 p (by (have z1 := hZ_b hz); omega)).trans (frA p hp hz)
  replace zz := hz1.trans zz
  replace hh := hh.tape k1 k2 hz1 fr1
  clear ho hf hd hNN hVV hww hmm hgg htp hud htl haa hxx
  have hh0 := hh
  obtain ⟨ho, hf, hd, hNN, hVV, hww, hmm, hgg, htp, hud, htl, haa, hxx⟩ := hh
  have hh := hh0
  obtain ⟨⟨f0, t0, hvc⟩, hbk9⟩ := hVV k hk
  have hmk := hNN k hk
  have hmA := hmm (mp k) hmk.2.2.2
  have hdl := hd.lt hk
  have hnm := hmA.1.2.1
  have hfar := hd.far hk hmk.2.2.2
  refine lv_aload_n X.1.1 X.1.2.1 d_Hall_get_10 rfl (gl_at hl rfl) ?_
  refine lv_aload_n X.1.1 X.1.2.1 d_Hall_get_11 rfl (gl_at hl rfl) ?_
  refine g_get X kc_Hall ho 1 (by decide) lk_Hall_16 rfl d_Hall_get_12 ?_
  refine g_cv (A := (fun p => b ≤ p)) X gWS_good mw_Hall_109 kc_View hvc (c_View_placeOf l D q H5 k ad org srt (v_bk ad) bt (hVV.vV hNN hk) _ _ _ f0 t0 hvc _ _ _ _ hmA.1 hmA.2 (b + 3) tp hud) (fun _ _ _ => trivial) gBlind.tt rfl rfl hl.1 (Nat.le_of_ble_eq_true rfl) rfl rfl ⟨by decide, by decide⟩ ⟨by decide, by decide⟩ d_Hall_get_15 (fun _ h => h.elim) hL (fun v7 H8 locs hp9 hL => ?_)
  obtain ⟨⟨w, rfl, hw⟩, hHe⟩ := hp9
  rw [hHe]
  obtain rfl : w = some r := by
    cases w with
    | none => exact (h_not (show h_none org srt bt k (n (mp k)) (ks (mp k)) tp from hw) hyes).elim
    | some r9 => rw [mS_inj hmA.2 hw.2.1 hyes.2.1 (hw.2.2.trans hyes.2.2.symm)]
  refine g_top (nI r) rfl ?_
  have hrn := hyes.2.1
  refine g_istn X.1.1 X.1.2.1 hl 3 d_Hall_get_18 rfl (Nat.le_of_ble_eq_true rfl) rfl (fun ls hl => ?_)
  refine lv_iload_n X.1.1 X.1.2.1 d_Hall_get_19 rfl (gl_at hl rfl) ?_
  refine lv_iconst (v := (-1)) X.1.1 X.1.2.1 d_Hall_get_20 (by decide) ?_
  refine lv_icmp_ne X.1.1 X.1.2.1 d_Hall_get_21 rfl (fun hc21 => ?_) (fun hc21 => ?_)
  · obtain ⟨hmo, hnm9, ⟨mf, g, hmf, hfg, hg, hgi, hks⟩, hvv⟩ := hmA.1
    refine lv_aload_n X.1.1 X.1.2.1 d_Hall_get_28 rfl (gl_at hl rfl) ?_
    refine g_get X kc_View hvc 0 (by decide) lk_Hall_87 rfl d_Hall_get_29 ?_
    refine g_get X kc_KeyMap hmo 1 (by decide) lk_Hall_95 rfl d_Hall_get_32 ?_
    refine lv_iload_n X.1.1 X.1.2.1 d_Hall_get_35 rfl (gl_at hl rfl) ?_
    refine g_iald X 0 hvv rfl r (by omega) (by decide) d_Hall_get_36 ?_
    exact g_iret X B ⟨rfl, hh, zz, frA⟩ hL d_Hall_get_37 (by omega) (by omega)
  · exact absurd (congrArg Int32.toInt hc21) (by rw [nI_toInt (by omega)]; show (r : Int) ≠ -1; omega)

set_option maxHeartbeats 4000000 in
set_option maxRecDepth 100000 in
theorem c_Hall_removeN (l : Launch) (D : va_G) (q : Nat → ClassId) (H : Heap) (b : Nat) (c0 : Nat) (ad : Nat → Nat) (org : Nat → Option Nat) (srt : Nat → Nat) (bt : Nat → List Nat) (tn : Nat → Nat) (mp : Nat → Nat) (wk : Nat → Nat × Nat × Nat × Nat) (n : Nat → Nat) (ks : Nat → Nat → List Nat) (vs : Nat → Nat → Int32) (chg : Nat → Nat) (tp : List Nat) (ud : List Nat) (tl : List Nat) (an : Nat) (aks : Nat → List Nat) (aus : List Nat) (xs : List Nat) (us : List (List Nat)) (so : Nat) (hh : hA D q H b c0 ad org srt bt tn mp wk n ks vs chg tp ud tl an aks aus xs us so) (k : Nat) (hk : k < c0) (hno : h_none org srt bt k (n (mp k)) (ks (mp k)) tp) : gC l y_Hall_remove (Cond.code y_Hall_remove b_Hall_remove 4 (some .int) :: gWS) (gR 7 109 0 0) D CL (gY q) (fun _ => True) [.ref b, .int (nI k)] H (fun v1 H1 => v1 = some (.int (-1)) ∧ hA D q H1 b c0 ad org srt bt tn mp wk n ks vs chg [] tp tl an aks aus xs us so ∧ H1.size = H.size ∧ ∀ p : Nat, p < H.size → ¬ hZ b c0 ad p → H1[p]? = H[p]?) 0 0 (fun p => b ≤ p) := by
  refine gC.ofW R_Hall "remove" (by decide) rfl rfl ?_
  intro p e s m below meth c hadm X hE hH B hne
  refine g_entry [some (.ref b), some (.int (nI k)), none, none] rfl rfl (Nat.le_of_ble_eq_true rfl) (fun ls hl => ?_)
  have hh0 := hh
  obtain ⟨ho, hf, hd, hNN, hVV, hww, hmm, hgg, htp, hud, htl, haa, hxx⟩ := hh
  have hh := hh0
  have frA : ∀ p : Nat, p < H.size → ¬ hZ b c0 ad p → H[p]? = H[p]? := fun _ _ _ => rfl
  have zz : H.size = H.size := rfl
  refine lv_aload_n X.1.1 X.1.2.1 d_Hall_remove_0 rfl (gl_at hl rfl) ?_
  refine lv_iload_n X.1.1 X.1.2.1 d_Hall_remove_1 rfl (gl_at hl rfl) ?_
  refine g_cv (A := (fun p => b ≤ p)) X gWS_good mw_Hall_67 kc_Hall ho (c_Hall_viewNumbered l D q H b c0 ho ad hf hd.2.1 k hk) (fun _ _ _ => trivial) gBlind.tt rfl rfl hl.1 (Nat.le_of_ble_eq_true rfl) rfl rfl ⟨by decide, by decide⟩ ⟨by decide, by decide⟩ d_Hall_remove_2 (fun _ h => h.elim) (fun _ h => by cases h) (fun v1 H2 locs hp3 hL => ?_)
  obtain ⟨rfl, hHe⟩ := hp3
  rw [hHe]
  refine g_astn X.1.1 X.1.2.1 hl 2 d_Hall_remove_5 rfl (Nat.le_of_ble_eq_true rfl) rfl (fun ls hl => ?_)
  refine lv_aload_n X.1.1 X.1.2.1 d_Hall_remove_6 rfl (gl_at hl rfl) ?_
  refine g_cv (A := (fun p => b ≤ p)) X gWS_good mw_Hall_74 kc_Hall ho (c_Hall_useTape l D q H b c0 ho tp ud htp hud) (fun _ _ _ => trivial) gBlind.tt rfl rfl hl.1 (Nat.le_of_ble_eq_true rfl) rfl rfl ⟨by decide, by decide⟩ ⟨by decide, by decide⟩ d_Hall_remove_7 (fun p h => show b ≤ p by omega) hL (fun v4 H5 locs hp6 hL => ?_)
  obtain ⟨rfl, k1, k2, hz1, fr1⟩ := hp6
  replace frA : ∀ p : Nat, p < H.size → ¬ hZ b c0 ad p → H5[p]? = H[p]? := fun p hp hz => (fr1 p (by (have z1 := hZ_b hz); omega)).trans (frA p hp hz)
  replace zz := hz1.trans zz
  replace hh := hh.tape k1 k2 hz1 fr1
  clear ho hf hd hNN hVV hww hmm hgg htp hud htl haa hxx
  have hh0 := hh
  obtain ⟨ho, hf, hd, hNN, hVV, hww, hmm, hgg, htp, hud, htl, haa, hxx⟩ := hh
  have hh := hh0
  obtain ⟨⟨f0, t0, hvc⟩, hbk9⟩ := hVV k hk
  have hmk := hNN k hk
  have hmA := hmm (mp k) hmk.2.2.2
  have hdl := hd.lt hk
  have hnm := hmA.1.2.1
  have hfar := hd.far hk hmk.2.2.2
  refine lv_aload_n X.1.1 X.1.2.1 d_Hall_remove_10 rfl (gl_at hl rfl) ?_
  refine lv_aload_n X.1.1 X.1.2.1 d_Hall_remove_11 rfl (gl_at hl rfl) ?_
  refine g_get X kc_Hall ho 1 (by decide) lk_Hall_16 rfl d_Hall_remove_12 ?_
  refine g_cv (A := (fun p => b ≤ p)) X gWS_good mw_Hall_109 kc_View hvc (c_View_placeOf l D q H5 k ad org srt (v_bk ad) bt (hVV.vV hNN hk) _ _ _ f0 t0 hvc _ _ _ _ hmA.1 hmA.2 (b + 3) tp hud) (fun _ _ _ => trivial) gBlind.tt rfl rfl hl.1 (Nat.le_of_ble_eq_true rfl) rfl rfl ⟨by decide, by decide⟩ ⟨by decide, by decide⟩ d_Hall_remove_15 (fun _ h => h.elim) hL (fun v7 H8 locs hp9 hL => ?_)
  obtain ⟨⟨w, rfl, hw⟩, hHe⟩ := hp9
  rw [hHe]
  obtain rfl : w = none := by
    cases w with
    | none => rfl
    | some r9 => exact (h_not hno (show h_some org srt bt k (n (mp k)) (ks (mp k)) tp r9 from hw)).elim
  refine g_top (-1) rfl ?_
  refine g_istn X.1.1 X.1.2.1 hl 3 d_Hall_remove_18 rfl (Nat.le_of_ble_eq_true rfl) rfl (fun ls hl => ?_)
  refine lv_iload_n X.1.1 X.1.2.1 d_Hall_remove_19 rfl (gl_at hl rfl) ?_
  refine lv_iconst (v := (-1)) X.1.1 X.1.2.1 d_Hall_remove_20 (by decide) ?_
  refine lv_icmp_ne X.1.1 X.1.2.1 d_Hall_remove_21 rfl (fun hc21 => ?_) (fun hc21 => ?_)
  · exact absurd rfl hc21
  · refine lv_iconst (v := (-1)) X.1.1 X.1.2.1 d_Hall_remove_24 (by decide) ?_
    refine lv_goto X.1.1 X.1.2.1 d_Hall_remove_25 rfl ?_
    exact g_iret X B ⟨rfl, hh, zz, frA⟩ hL d_Hall_remove_36 (by omega) (by omega)

set_option maxHeartbeats 4000000 in
set_option maxRecDepth 100000 in
theorem c_Hall_remove (l : Launch) (D : va_G) (q : Nat → ClassId) (H : Heap) (b : Nat) (c0 : Nat) (ad : Nat → Nat) (org : Nat → Option Nat) (srt : Nat → Nat) (bt : Nat → List Nat) (tn : Nat → Nat) (mp : Nat → Nat) (wk : Nat → Nat × Nat × Nat × Nat) (n : Nat → Nat) (ks : Nat → Nat → List Nat) (vs : Nat → Nat → Int32) (chg : Nat → Nat) (tp : List Nat) (ud : List Nat) (tl : List Nat) (an : Nat) (aks : Nat → List Nat) (aus : List Nat) (xs : List Nat) (us : List (List Nat)) (so : Nat) (hh : hA D q H b c0 ad org srt bt tn mp wk n ks vs chg tp ud tl an aks aus xs us so) (k : Nat) (hk : k < c0) (r : Nat) (hyes : h_some org srt bt k (n (mp k)) (ks (mp k)) tp r) : gC l y_Hall_remove (Cond.code y_Hall_remove b_Hall_remove 4 (some .int) :: gWS) (gR 7 109 0 0) D CL (gY q) (fun _ => True) [.ref b, .int (nI k)] H (fun v1 H1 => v1 = some (.int (vs (mp k) r)) ∧ hA D q H1 b c0 ad org srt bt tn mp wk (va_up n (mp k) (n (mp k) - 1)) (va_up ks (mp k) (mCut (ks (mp k)) r (n (mp k)) (ks (mp k) r))) (va_up vs (mp k) (sh_dn (vs (mp k)) r (n (mp k) - 1))) (va_up chg (mp k) (chg (mp k) + 1)) [] tp tl an aks aus xs us so ∧ H1.size = H.size ∧ ∀ p : Nat, p < H.size → ¬ hZ b c0 ad p → H1[p]? = H[p]?) 0 0 (fun p => b ≤ p) := by
  refine gC.ofW R_Hall "remove" (by decide) rfl rfl ?_
  intro p e s m below meth c hadm X hE hH B hne
  refine g_entry [some (.ref b), some (.int (nI k)), none, none] rfl rfl (Nat.le_of_ble_eq_true rfl) (fun ls hl => ?_)
  have hh0 := hh
  obtain ⟨ho, hf, hd, hNN, hVV, hww, hmm, hgg, htp, hud, htl, haa, hxx⟩ := hh
  have hh := hh0
  have frA : ∀ p : Nat, p < H.size → ¬ hZ b c0 ad p → H[p]? = H[p]? := fun _ _ _ => rfl
  have zz : H.size = H.size := rfl
  refine lv_aload_n X.1.1 X.1.2.1 d_Hall_remove_0 rfl (gl_at hl rfl) ?_
  refine lv_iload_n X.1.1 X.1.2.1 d_Hall_remove_1 rfl (gl_at hl rfl) ?_
  refine g_cv (A := (fun p => b ≤ p)) X gWS_good mw_Hall_67 kc_Hall ho (c_Hall_viewNumbered l D q H b c0 ho ad hf hd.2.1 k hk) (fun _ _ _ => trivial) gBlind.tt rfl rfl hl.1 (Nat.le_of_ble_eq_true rfl) rfl rfl ⟨by decide, by decide⟩ ⟨by decide, by decide⟩ d_Hall_remove_2 (fun _ h => h.elim) (fun _ h => by cases h) (fun v1 H2 locs hp3 hL => ?_)
  obtain ⟨rfl, hHe⟩ := hp3
  rw [hHe]
  refine g_astn X.1.1 X.1.2.1 hl 2 d_Hall_remove_5 rfl (Nat.le_of_ble_eq_true rfl) rfl (fun ls hl => ?_)
  refine lv_aload_n X.1.1 X.1.2.1 d_Hall_remove_6 rfl (gl_at hl rfl) ?_
  refine g_cv (A := (fun p => b ≤ p)) X gWS_good mw_Hall_74 kc_Hall ho (c_Hall_useTape l D q H b c0 ho tp ud htp hud) (fun _ _ _ => trivial) gBlind.tt rfl rfl hl.1 (Nat.le_of_ble_eq_true rfl) rfl rfl ⟨by decide, by decide⟩ ⟨by decide, by decide⟩ d_Hall_remove_7 (fun p h => show b ≤ p by omega) hL (fun v4 H5 locs hp6 hL => ?_)
  obtain ⟨rfl, k1, k2, hz1, fr1⟩ := hp6
  replace frA : ∀ p : Nat, p < H.size → ¬ hZ b c0 ad p → H5[p]? = H[p]? := fun p hp hz => (fr1 p (by (have z1 := hZ_b hz); omega)).trans (frA p hp hz)
  replace zz := hz1.trans zz
  replace hh := hh.tape k1 k2 hz1 fr1
  clear ho hf hd hNN hVV hww hmm hgg htp hud htl haa hxx
  have hh0 := hh
  obtain ⟨ho, hf, hd, hNN, hVV, hww, hmm, hgg, htp, hud, htl, haa, hxx⟩ := hh
  have hh := hh0
  obtain ⟨⟨f0, t0, hvc⟩, hbk9⟩ := hVV k hk
  have hmk := hNN k hk
  have hmA := hmm (mp k) hmk.2.2.2
  have hdl := hd.lt hk
  have hnm := hmA.1.2.1
  have hfar := hd.far hk hmk.2.2.2
  refine lv_aload_n X.1.1 X.1.2.1 d_Hall_remove_10 rfl (gl_at hl rfl) ?_
  refine lv_aload_n X.1.1 X.1.2.1 d_Hall_remove_11 rfl (gl_at hl rfl) ?_
  refine g_get X kc_Hall ho 1 (by decide) lk_Hall_16 rfl d_Hall_remove_12 ?_
  refine g_cv (A := (fun p => b ≤ p)) X gWS_good mw_Hall_109 kc_View hvc (c_View_placeOf l D q H5 k ad org srt (v_bk ad) bt (hVV.vV hNN hk) _ _ _ f0 t0 hvc _ _ _ _ hmA.1 hmA.2 (b + 3) tp hud) (fun _ _ _ => trivial) gBlind.tt rfl rfl hl.1 (Nat.le_of_ble_eq_true rfl) rfl rfl ⟨by decide, by decide⟩ ⟨by decide, by decide⟩ d_Hall_remove_15 (fun _ h => h.elim) hL (fun v7 H8 locs hp9 hL => ?_)
  obtain ⟨⟨w, rfl, hw⟩, hHe⟩ := hp9
  rw [hHe]
  obtain rfl : w = some r := by
    cases w with
    | none => exact (h_not (show h_none org srt bt k (n (mp k)) (ks (mp k)) tp from hw) hyes).elim
    | some r9 => rw [mS_inj hmA.2 hw.2.1 hyes.2.1 (hw.2.2.trans hyes.2.2.symm)]
  refine g_top (nI r) rfl ?_
  have hrn := hyes.2.1
  refine g_istn X.1.1 X.1.2.1 hl 3 d_Hall_remove_18 rfl (Nat.le_of_ble_eq_true rfl) rfl (fun ls hl => ?_)
  refine lv_iload_n X.1.1 X.1.2.1 d_Hall_remove_19 rfl (gl_at hl rfl) ?_
  refine lv_iconst (v := (-1)) X.1.1 X.1.2.1 d_Hall_remove_20 (by decide) ?_
  refine lv_icmp_ne X.1.1 X.1.2.1 d_Hall_remove_21 rfl (fun hc21 => ?_) (fun hc21 => ?_)
  · refine lv_aload_n X.1.1 X.1.2.1 d_Hall_remove_28 rfl (gl_at hl rfl) ?_
    refine g_get X kc_View hvc 0 (by decide) lk_Hall_87 rfl d_Hall_remove_29 ?_
    refine lv_iload_n X.1.1 X.1.2.1 d_Hall_remove_32 rfl (gl_at hl rfl) ?_
    refine g_cv (A := (fun p => b ≤ p)) X gWS_good mw_Hall_110 kc_KeyMap hmA.1.1 (c_KeyMap_takeOut l D q H5 _ _ _ _ _ hmA.1 r (by omega)) (fun _ _ _ => trivial) gBlind.tt rfl rfl hl.1 (Nat.le_of_ble_eq_true rfl) rfl rfl ⟨by decide, by decide⟩ ⟨by decide, by decide⟩ d_Hall_remove_33 (fun p h => show b ≤ p by omega) hL (fun v10 H11 locs hp12 hL => ?_)
    obtain ⟨rfl, k1, hz1, fr1⟩ := hp12
    replace hvc := va_at.kept hvc (fr1 _ (by have h9 := hd.far hk hmk.2.2.2; omega))
    replace frA : ∀ p : Nat, p < H.size → ¬ hZ b c0 ad p → H11[p]? = H[p]? := fun p hp hz => (fr1 p (by (have z1 := hZ_b hz); omega)).trans (frA p hp hz)
    replace zz := hz1.trans zz
    replace hh := hh.map hmk.2.2.2 k1 (mS_cut hmA.2 (by omega)) hz1 fr1
    clear ho hf hd hNN hVV hww hmm hgg htp hud htl haa hxx
    have hh0 := hh
    obtain ⟨ho, hf, hd, hNN, hVV, hww, hmm, hgg, htp, hud, htl, haa, hxx⟩ := hh
    have hh := hh0
    exact g_iret X B ⟨rfl, hh, zz, frA⟩ hL d_Hall_remove_36 (by omega) (by omega)
  · exact absurd (congrArg Int32.toInt hc21) (by rw [nI_toInt (by omega)]; show (r : Int) ≠ -1; omega)
