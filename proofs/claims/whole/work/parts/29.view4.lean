/-! the class View, 4: printed by wip/specs/view4.py -/
set_option maxHeartbeats 4000000 in
set_option maxRecDepth 100000 in
theorem c_View_init (l : Launch) (D : va_G) (q : Nat → ClassId) (H : Heap) (vb mb z : Nat) (hz : H.size = z) (hvz : vb < z) (hv : va_at D CL (vb, .inr (2, [.null, .null, .int 0, .null, .int 0, .null, .int 0, .int 0])) H) : gC l y_View_init (Cond.code y_View_init b_View_init 2 none :: gWS) (gR 2 32 4 14) D CL (gY q) (fun U => va_Nw (.methodLinkNest R_View 36 y_Walker_init "KeyHall") U) [.ref vb, .ref mb] H (fun v H1 => v = none ∧ va_at D CL (vb, .inr (2, [.ref mb, .null, .int (nI 4), .ref z, .int (nI 0), .ref (z + 2), .int 0, .int 0])) H1 ∧ kA D q H1 z [] ∧ va_at D CL (z + 2, .inr (3, [.int 0, .int 0, .int 0, .int 0])) H1 ∧ H1.size = z + 3 ∧ ∀ p : Nat, p < z → p ≠ vb → H1[p]? = H[p]?) 4 14 (fun p => p = vb ∨ z ≤ p) := by
  refine gC.ofW R_View "<init>" (by decide) rfl rfl ?_
  intro p e s m below meth c hadm X hE hH B hne
  refine g_entry [some (.ref vb), some (.ref mb)] rfl rfl (Nat.le_of_ble_eq_true rfl) (fun ls hl => ?_)
  refine lv_aload_n X.1.1 X.1.2.1 d_View_init_0 rfl (gl_at hl rfl) ?_
  refine W.objInit X.1.1 X.1.2.1 X.1.2.2.2.1 (X.1.2.2.2.2 _ mo_View_3.1) (X.1.2.2.2.2 _ mo_View_3.2.1) (X.1.2.2.2.2 _ mo_View_3.2.2) rfl (by rw [X.1.2.2.1]; exact hl.1) rfl d_View_init_1 (Nat.le_of_ble_eq_true rfl) (Nat.le_of_ble_eq_true rfl) ?_
  refine W.eq (g2 := F0 m 4 ls []) rfl ?_
  refine lv_aload_n X.1.1 X.1.2.1 d_View_init_4 rfl (gl_at hl rfl) ?_
  refine lv_aload_n X.1.1 X.1.2.1 d_View_init_5 rfl (gl_at hl rfl) ?_
  refine g_putF (A := (fun p => p = vb ∨ z ≤ p)) X B.2.2 kc_View hv 0 (by decide) lk_View_9 rfl rfl rfl rfl (Nat.le_of_ble_eq_true rfl) d_View_init_6 (show _ ∨ _ by omega) (fun _ h => by cases h) (fun H1 locs h2 z3 oq4 hL => ?_)
  have hz5 := z3.trans hz
  refine lv_aload_n X.1.1 X.1.2.1 d_View_init_9 rfl (gl_at hl rfl) ?_
  refine lv_null X.1.1 X.1.2.1 d_View_init_10 ?_
  refine g_putF (A := (fun p => p = vb ∨ z ≤ p)) X B.2.2 kc_View h2 1 (by decide) lk_View_15 rfl rfl rfl rfl (Nat.le_of_ble_eq_true rfl) d_View_init_11 (show _ ∨ _ by omega) hL (fun H6 locs h7 z8 oq9 hL => ?_)
  have hz10 := z8.trans hz5
  refine lv_aload_n X.1.1 X.1.2.1 d_View_init_14 rfl (gl_at hl rfl) ?_
  refine lv_iconst (v := nI 4) X.1.1 X.1.2.1 d_View_init_15 (by decide) ?_
  refine g_putF (A := (fun p => p = vb ∨ z ≤ p)) X B.2.2 kc_View h7 2 (by decide) lk_View_19 rfl rfl rfl rfl (Nat.le_of_ble_eq_true rfl) d_View_init_16 (show _ ∨ _ by omega) hL (fun H11 locs h12 z13 oq14 hL => ?_)
  have hz15 := z13.trans hz10
  refine lv_aload_n X.1.1 X.1.2.1 d_View_init_19 rfl (gl_at hl rfl) ?_
  refine g_new X kc_Key lk_View_23 ki_Key.1 ki_Key.2 (fs := [.null, .int 0]) kf_Key (Nat.le_of_ble_eq_true rfl) (Nat.le_of_ble_eq_true rfl) d_View_init_20 (fun H16 h17 z18 o19 => ?_)
  rw [hz15] at h17 z18 o19 ⊢
  replace h12 := h12.kept (o19 _ (by omega))
  refine lv_dup X.1.1 X.1.2.1 d_View_init_23 rfl ?_
  refine g_ci (A := (fun p => p = vb ∨ z ≤ p)) X gWS_good mw_View_25 (c_Key_init l D q H16 (z) (by omega) h17) (fun _ _ _ => trivial) gBlind.tt rfl rfl hl.1 (Nat.le_of_ble_eq_true rfl) rfl rfl ⟨by decide, by decide⟩ ⟨by decide, by decide⟩ d_View_init_24 (fun p (h : _ ≤ p) => show _ ∨ _ by omega) hL (fun v20 H21 locs hp22 hL => ?_)
  obtain ⟨rfl, hkz, hzk, frk⟩ := hp22
  replace h12 := va_at.kept h12 (frk _ (by omega))
  refine g_putF (A := (fun p => p = vb ∨ z ≤ p)) X B.2.2 kc_View h12 3 (by decide) lk_View_26 rfl rfl rfl rfl (Nat.le_of_ble_eq_true rfl) d_View_init_27 (show _ ∨ _ by omega) hL (fun H23 locs h24 z25 oq26 hL => ?_)
  replace hkz := hkz.kept (oq26 _ (by omega)) (oq26 _ (by omega))
  have hz27 := z25.trans hzk
  refine lv_aload_n X.1.1 X.1.2.1 d_View_init_30 rfl (gl_at hl rfl) ?_
  refine lv_iconst (v := nI 0) X.1.1 X.1.2.1 d_View_init_31 (by decide) ?_
  refine g_putF (A := (fun p => p = vb ∨ z ≤ p)) X B.2.2 kc_View h24 4 (by decide) lk_View_30 rfl rfl rfl rfl (Nat.le_of_ble_eq_true rfl) d_View_init_32 (show _ ∨ _ by omega) hL (fun H28 locs h29 z30 oq31 hL => ?_)
  replace hkz := hkz.kept (oq31 _ (by omega)) (oq31 _ (by omega))
  have hz32 := z30.trans hz27
  refine lv_aload_n X.1.1 X.1.2.1 d_View_init_35 rfl (gl_at hl rfl) ?_
  refine g_new X kc_Walker lk_View_34 ki_Walker.1 ki_Walker.2 (fs := [.int 0, .int 0, .int 0, .int 0]) kf_Walker (Nat.le_of_ble_eq_true rfl) (Nat.le_of_ble_eq_true rfl) d_View_init_36 (fun H33 h34 z35 o36 => ?_)
  rw [hz32] at h34 z35 o36 ⊢
  replace h29 := h29.kept (o36 _ (by omega))
  replace hkz := hkz.kept (o36 _ (by omega)) (o36 _ (by omega))
  refine lv_dup X.1.1 X.1.2.1 d_View_init_39 rfl ?_
  refine g_cin (A := (fun p => p = vb ∨ z ≤ p)) (host := "KeyHall") X gWS_good hE mi_Walker_init.1 mi_Walker_init.2 mc_Walker_init rfl (by decide +kernel) (c_Walker_init l D q H33 (z + 2)) (fun _ _ _ => trivial) gBlind.tt rfl rfl hl.1 (Nat.le_of_ble_eq_true rfl) rfl rfl ⟨by decide, by decide⟩ ⟨Nat.le_of_ble_eq_true rfl, Nat.le_of_ble_eq_true rfl⟩ d_View_init_40 (fun _ h => h.elim) hL (fun v37 H38 locs hp39 hL => ?_)
  obtain ⟨rfl, hHe⟩ := hp39
  rw [hHe]
  refine g_putF (A := (fun p => p = vb ∨ z ≤ p)) X B.2.2 kc_View h29 5 (by decide) lk_View_37 rfl rfl rfl rfl (Nat.le_of_ble_eq_true rfl) d_View_init_43 (show _ ∨ _ by omega) hL (fun H40 locs h41 z42 oq43 hL => ?_)
  replace h34 := h34.kept (oq43 _ (by omega))
  replace hkz := hkz.kept (oq43 _ (by omega)) (oq43 _ (by omega))
  have hz44 := z42.trans z35
  exact g_vret X B ⟨rfl, h41, hkz, h34, by omega, fun p hp hv9 => ((oq43 p (by omega)).trans ((o36 p (by omega)).trans ((oq31 p (by omega)).trans ((oq26 p (by omega)).trans ((frk p (by omega)).trans ((o19 p (by omega)).trans ((oq14 p (by omega)).trans ((oq9 p (by omega)).trans (oq4 p (by omega))))))))))⟩ hL d_View_init_46 (by omega) (by omega)

set_option maxHeartbeats 4000000 in
set_option maxRecDepth 100000 in
theorem c_View_init2 (l : Launch) (D : va_G) (q : Nat → ClassId) (H : Heap) (vb : Nat) (hz : H.size = vb + 1) (hv : va_at D CL (vb, .inr (2, [.null, .null, .int 0, .null, .int 0, .null, .int 0, .int 0])) H) (ob mb : Nat) (oog : Option Nat) (osrt obk otn owk of0 ot0 : Nat) (hob : va_at D CL (ob, .inr (2, [.ref mb, va_rf oog, .int (nI osrt), .ref obk, .int (nI otn), .ref owk, .int (nI of0), .int (nI ot0)])) H) (hob1 : ob < vb) (hot : otn ≤ 1) (srt : Nat) (hsrt : srt ≤ 3) (b : Nat) (xs : List Nat) (hxs : kA D q H b xs) (hb1 : b + 1 < vb) : gC l y_View_init2 (Cond.code y_View_init2 b_View_init2 4 none :: gWS) (gR 2 39 4 14) D CL (gY q) (fun U => va_Nw (.methodLinkNest R_View 36 y_Walker_init "KeyHall") U) [.ref vb, .ref ob, .int (nI srt), .ref b] H (fun v H1 => v = none ∧ va_at D CL (vb, .inr (2, [.ref mb, .ref ob, .int (nI srt), .ref (vb + 1), .int (nI (v_tn srt otn)), .ref (vb + 3), .int 0, .int 0])) H1 ∧ kA D q H1 (vb + 1) xs ∧ va_at D CL (vb + 3, .inr (3, [.int 0, .int 0, .int 0, .int 0])) H1 ∧ H1.size = vb + 4 ∧ ∀ p : Nat, p < vb → H1[p]? = H[p]?) 4 14 (fun p => p = vb ∨ vb ≤ p) := by
  refine gC.ofW R_View "<init>" (by decide) rfl rfl ?_
  intro p e s m below meth c hadm X hE hH B hne
  refine g_entry [some (.ref vb), some (.ref ob), some (.int (nI srt)), some (.ref b)] rfl rfl (Nat.le_of_ble_eq_true rfl) (fun ls hl => ?_)
  refine lv_aload_n X.1.1 X.1.2.1 d_View_init2_0 rfl (gl_at hl rfl) ?_
  refine W.objInit X.1.1 X.1.2.1 X.1.2.2.2.1 (X.1.2.2.2.2 _ mo_View_3.1) (X.1.2.2.2.2 _ mo_View_3.2.1) (X.1.2.2.2.2 _ mo_View_3.2.2) rfl (by rw [X.1.2.2.1]; exact hl.1) rfl d_View_init2_1 (Nat.le_of_ble_eq_true rfl) (Nat.le_of_ble_eq_true rfl) ?_
  refine W.eq (g2 := F0 m 4 ls []) rfl ?_
  refine lv_aload_n X.1.1 X.1.2.1 d_View_init2_4 rfl (gl_at hl rfl) ?_
  refine lv_aload_n X.1.1 X.1.2.1 d_View_init2_5 rfl (gl_at hl rfl) ?_
  refine g_get X kc_View hob 0 (by decide) lk_View_9 rfl d_View_init2_6 ?_
  refine g_putF (A := (fun p => p = vb ∨ vb ≤ p)) X B.2.2 kc_View hv 0 (by decide) lk_View_9 rfl rfl rfl rfl (Nat.le_of_ble_eq_true rfl) d_View_init2_9 (show _ ∨ _ by omega) (fun _ h => by cases h) (fun H1 locs h2 z3 oq4 hL => ?_)
  replace hob := hob.kept (oq4 _ (by omega))
  replace hxs := hxs.kept (oq4 _ (by omega)) (oq4 _ (by omega))
  have hz5 := z3.trans hz
  refine lv_aload_n X.1.1 X.1.2.1 d_View_init2_12 rfl (gl_at hl rfl) ?_
  refine lv_aload_n X.1.1 X.1.2.1 d_View_init2_13 rfl (gl_at hl rfl) ?_
  refine g_putF (A := (fun p => p = vb ∨ vb ≤ p)) X B.2.2 kc_View h2 1 (by decide) lk_View_15 rfl rfl rfl rfl (Nat.le_of_ble_eq_true rfl) d_View_init2_14 (show _ ∨ _ by omega) hL (fun H6 locs h7 z8 oq9 hL => ?_)
  replace hob := hob.kept (oq9 _ (by omega))
  replace hxs := hxs.kept (oq9 _ (by omega)) (oq9 _ (by omega))
  have hz10 := z8.trans hz5
  refine lv_aload_n X.1.1 X.1.2.1 d_View_init2_17 rfl (gl_at hl rfl) ?_
  refine lv_iload_n X.1.1 X.1.2.1 d_View_init2_18 rfl (gl_at hl rfl) ?_
  refine g_putF (A := (fun p => p = vb ∨ vb ≤ p)) X B.2.2 kc_View h7 2 (by decide) lk_View_19 rfl rfl rfl rfl (Nat.le_of_ble_eq_true rfl) d_View_init2_19 (show _ ∨ _ by omega) hL (fun H11 locs h12 z13 oq14 hL => ?_)
  replace hob := hob.kept (oq14 _ (by omega))
  replace hxs := hxs.kept (oq14 _ (by omega)) (oq14 _ (by omega))
  have hz15 := z13.trans hz10
  refine lv_aload_n X.1.1 X.1.2.1 d_View_init2_22 rfl (gl_at hl rfl) ?_
  refine g_new X kc_Key lk_View_23 ki_Key.1 ki_Key.2 (fs := [.null, .int 0]) kf_Key (Nat.le_of_ble_eq_true rfl) (Nat.le_of_ble_eq_true rfl) d_View_init2_23 (fun H16 h17 z18 o19 => ?_)
  rw [hz15] at h17 z18 o19 ⊢
  replace h12 := h12.kept (o19 _ (by omega))
  replace hob := hob.kept (o19 _ (by omega))
  replace hxs := hxs.kept (o19 _ (by omega)) (o19 _ (by omega))
  refine lv_dup X.1.1 X.1.2.1 d_View_init2_26 rfl ?_
  refine g_ci (A := (fun p => p = vb ∨ vb ≤ p)) X gWS_good mw_View_25 (c_Key_init l D q H16 (vb + 1) (by omega) h17) (fun _ _ _ => trivial) gBlind.tt rfl rfl hl.1 (Nat.le_of_ble_eq_true rfl) rfl rfl ⟨by decide, by decide⟩ ⟨by decide, by decide⟩ d_View_init2_27 (fun p (h : _ ≤ p) => show _ ∨ _ by omega) hL (fun v20 H21 locs hp22 hL => ?_)
  obtain ⟨rfl, hkz, hzk, frk⟩ := hp22
  replace h12 := va_at.kept h12 (frk _ (by omega))
  replace hob := va_at.kept hob (frk _ (by omega))
  replace hxs := hxs.kept (frk _ (by omega)) (frk _ (by omega))
  refine g_putF (A := (fun p => p = vb ∨ vb ≤ p)) X B.2.2 kc_View h12 3 (by decide) lk_View_26 rfl rfl rfl rfl (Nat.le_of_ble_eq_true rfl) d_View_init2_30 (show _ ∨ _ by omega) hL (fun H23 locs h24 z25 oq26 hL => ?_)
  replace hob := hob.kept (oq26 _ (by omega))
  replace hxs := hxs.kept (oq26 _ (by omega)) (oq26 _ (by omega))
  replace hkz := hkz.kept (oq26 _ (by omega)) (oq26 _ (by omega))
  have hz27 := z25.trans hzk
  refine lv_aload_n X.1.1 X.1.2.1 d_View_init2_33 rfl (gl_at hl rfl) ?_
  refine g_get X kc_View h24 3 (by decide) lk_View_26 rfl d_View_init2_34 ?_
  refine lv_aload_n X.1.1 X.1.2.1 d_View_init2_37 rfl (gl_at hl rfl) ?_
  refine g_cv (A := (fun p => p = vb ∨ vb ≤ p)) X gWS_good mw_View_41 kc_Key hkz.1 (c_Key_become l D q H23 (vb + 1) b [] xs hkz hxs (by omega)) (fun _ _ _ => trivial) gBlind.tt rfl rfl hl.1 (Nat.le_of_ble_eq_true rfl) rfl rfl ⟨by decide, by decide⟩ ⟨by decide, by decide⟩ d_View_init2_38 (fun p h => show _ ∨ _ by omega) hL (fun v28 H29 locs hp30 hL => ?_)
  obtain ⟨rfl, hkz2, hz2, fr2⟩ := hp30
  replace h24 := va_at.kept h24 (fr2 _ (by omega))
  replace hob := va_at.kept hob (fr2 _ (by omega))
  replace hxs := hxs.kept (fr2 _ (by omega)) (fr2 _ (by omega))
  replace hkz := hkz2
  have hz5 : H29.size = vb + 1 + 2 := by omega
  refine lv_aload_n X.1.1 X.1.2.1 d_View_init2_41 rfl (gl_at hl rfl) ?_
  refine lv_iload_n X.1.1 X.1.2.1 d_View_init2_42 rfl (gl_at hl rfl) ?_
  refine lv_iconst (v := nI 3) X.1.1 X.1.2.1 d_View_init2_43 (by decide) ?_
  refine gn_ne X.1.1 X.1.2.1 srt 3 (by omega) (by omega) d_View_init2_44 rfl (fun hc44 => ?_) (fun hc44 => ?_)
  · refine lv_iconst (v := nI 0) X.1.1 X.1.2.1 d_View_init2_51 (by decide) ?_
    refine lv_aload_n X.1.1 X.1.2.1 d_View_init2_52 rfl (gl_at hl rfl) ?_
    refine g_get X kc_View hob 4 (by decide) lk_View_30 rfl d_View_init2_53 ?_
    refine gn_eq X.1.1 X.1.2.1 0 otn (by omega) (by omega) d_View_init2_56 rfl (fun hc56 => ?_) (fun hc56 => ?_)
    · refine lv_iconst (v := nI 0) X.1.1 X.1.2.1 d_View_init2_63 (by decide) ?_
      refine g_top (nI (v_tn srt otn)) (by unfold v_tn; have h1 := hc44; have h2 := hc56; first | (rw [if_pos h1]; first | rw [if_pos h2] | rw [if_neg h2]) | (rw [if_neg h1]; first | rw [if_pos h2] | rw [if_neg h2])) ?_
      refine g_putF (A := (fun p => p = vb ∨ vb ≤ p)) X B.2.2 kc_View h24 4 (by decide) lk_View_30 rfl rfl (gz_n (v_tn_le _ _)) (gz_fit (v_tn_le _ _)) (Nat.le_of_ble_eq_true rfl) d_View_init2_64 (show _ ∨ _ by omega) hL (fun H31 locs h32 z33 oq34 hL => ?_)
      replace hob := hob.kept (oq34 _ (by omega))
      replace hxs := hxs.kept (oq34 _ (by omega)) (oq34 _ (by omega))
      replace hkz := hkz.kept (oq34 _ (by omega)) (oq34 _ (by omega))
      have hz35 := z33.trans hz5
      refine lv_aload_n X.1.1 X.1.2.1 d_View_init2_67 rfl (gl_at hl rfl) ?_
      refine g_new X kc_Walker lk_View_34 ki_Walker.1 ki_Walker.2 (fs := [.int 0, .int 0, .int 0, .int 0]) kf_Walker (Nat.le_of_ble_eq_true rfl) (Nat.le_of_ble_eq_true rfl) d_View_init2_68 (fun H36 h37 z38 o39 => ?_)
      rw [hz35] at h37 z38 o39 ⊢
      replace h32 := h32.kept (o39 _ (by omega))
      replace hob := hob.kept (o39 _ (by omega))
      replace hxs := hxs.kept (o39 _ (by omega)) (o39 _ (by omega))
      replace hkz := hkz.kept (o39 _ (by omega)) (o39 _ (by omega))
      refine lv_dup X.1.1 X.1.2.1 d_View_init2_71 rfl ?_
      refine g_cin (A := (fun p => p = vb ∨ vb ≤ p)) (host := "KeyHall") X gWS_good hE mi_Walker_init.1 mi_Walker_init.2 mc_Walker_init rfl (by decide +kernel) (c_Walker_init l D q H36 (vb + 1 + 2)) (fun _ _ _ => trivial) gBlind.tt rfl rfl hl.1 (Nat.le_of_ble_eq_true rfl) rfl rfl ⟨by decide, by decide⟩ ⟨Nat.le_of_ble_eq_true rfl, Nat.le_of_ble_eq_true rfl⟩ d_View_init2_72 (fun _ h => h.elim) hL (fun v40 H41 locs hp42 hL => ?_)
      obtain ⟨rfl, hHe⟩ := hp42
      rw [hHe]
      refine g_putF (A := (fun p => p = vb ∨ vb ≤ p)) X B.2.2 kc_View h32 5 (by decide) lk_View_37 rfl rfl rfl rfl (Nat.le_of_ble_eq_true rfl) d_View_init2_75 (show _ ∨ _ by omega) hL (fun H43 locs h44 z45 oq46 hL => ?_)
      replace hob := hob.kept (oq46 _ (by omega))
      replace h37 := h37.kept (oq46 _ (by omega))
      replace hxs := hxs.kept (oq46 _ (by omega)) (oq46 _ (by omega))
      replace hkz := hkz.kept (oq46 _ (by omega)) (oq46 _ (by omega))
      have hz47 := z45.trans z38
      exact g_vret X B ⟨rfl, h44, hkz, h37, by omega, fun p hp => ((oq46 p (by omega)).trans ((o39 p (by omega)).trans ((oq34 p (by omega)).trans ((fr2 p (by omega)).trans ((oq26 p (by omega)).trans ((frk p (by omega)).trans ((o19 p (by omega)).trans ((oq14 p (by omega)).trans ((oq9 p (by omega)).trans (oq4 p (by omega)))))))))))⟩ hL d_View_init2_78 (by omega) (by omega)
    · refine lv_iconst (v := nI 1) X.1.1 X.1.2.1 d_View_init2_59 (by decide) ?_
      refine lv_goto X.1.1 X.1.2.1 d_View_init2_60 rfl ?_
      refine g_top (nI (v_tn srt otn)) (by unfold v_tn; have h1 := hc44; have h2 := hc56; first | (rw [if_pos h1]; first | rw [if_pos h2] | rw [if_neg h2]) | (rw [if_neg h1]; first | rw [if_pos h2] | rw [if_neg h2])) ?_
      refine g_putF (A := (fun p => p = vb ∨ vb ≤ p)) X B.2.2 kc_View h24 4 (by decide) lk_View_30 rfl rfl (gz_n (v_tn_le _ _)) (gz_fit (v_tn_le _ _)) (Nat.le_of_ble_eq_true rfl) d_View_init2_64 (show _ ∨ _ by omega) hL (fun H48 locs h49 z50 oq51 hL => ?_)
      replace hob := hob.kept (oq51 _ (by omega))
      replace hxs := hxs.kept (oq51 _ (by omega)) (oq51 _ (by omega))
      replace hkz := hkz.kept (oq51 _ (by omega)) (oq51 _ (by omega))
      have hz52 := z50.trans hz5
      refine lv_aload_n X.1.1 X.1.2.1 d_View_init2_67 rfl (gl_at hl rfl) ?_
      refine g_new X kc_Walker lk_View_34 ki_Walker.1 ki_Walker.2 (fs := [.int 0, .int 0, .int 0, .int 0]) kf_Walker (Nat.le_of_ble_eq_true rfl) (Nat.le_of_ble_eq_true rfl) d_View_init2_68 (fun H53 h54 z55 o56 => ?_)
      rw [hz52] at h54 z55 o56 ⊢
      replace h49 := h49.kept (o56 _ (by omega))
      replace hob := hob.kept (o56 _ (by omega))
      replace hxs := hxs.kept (o56 _ (by omega)) (o56 _ (by omega))
      replace hkz := hkz.kept (o56 _ (by omega)) (o56 _ (by omega))
      refine lv_dup X.1.1 X.1.2.1 d_View_init2_71 rfl ?_
      refine g_cin (A := (fun p => p = vb ∨ vb ≤ p)) (host := "KeyHall") X gWS_good hE mi_Walker_init.1 mi_Walker_init.2 mc_Walker_init rfl (by decide +kernel) (c_Walker_init l D q H53 (vb + 1 + 2)) (fun _ _ _ => trivial) gBlind.tt rfl rfl hl.1 (Nat.le_of_ble_eq_true rfl) rfl rfl ⟨by decide, by decide⟩ ⟨Nat.le_of_ble_eq_true rfl, Nat.le_of_ble_eq_true rfl⟩ d_View_init2_72 (fun _ h => h.elim) hL (fun v57 H58 locs hp59 hL => ?_)
      obtain ⟨rfl, hHe⟩ := hp59
      rw [hHe]
      refine g_putF (A := (fun p => p = vb ∨ vb ≤ p)) X B.2.2 kc_View h49 5 (by decide) lk_View_37 rfl rfl rfl rfl (Nat.le_of_ble_eq_true rfl) d_View_init2_75 (show _ ∨ _ by omega) hL (fun H60 locs h61 z62 oq63 hL => ?_)
      replace hob := hob.kept (oq63 _ (by omega))
      replace h54 := h54.kept (oq63 _ (by omega))
      replace hxs := hxs.kept (oq63 _ (by omega)) (oq63 _ (by omega))
      replace hkz := hkz.kept (oq63 _ (by omega)) (oq63 _ (by omega))
      have hz64 := z62.trans z55
      exact g_vret X B ⟨rfl, h61, hkz, h54, by omega, fun p hp => ((oq63 p (by omega)).trans ((o56 p (by omega)).trans ((oq51 p (by omega)).trans ((fr2 p (by omega)).trans ((oq26 p (by omega)).trans ((frk p (by omega)).trans ((o19 p (by omega)).trans ((oq14 p (by omega)).trans ((oq9 p (by omega)).trans (oq4 p (by omega)))))))))))⟩ hL d_View_init2_78 (by omega) (by omega)
  · refine lv_iconst (v := nI 1) X.1.1 X.1.2.1 d_View_init2_47 (by decide) ?_
    refine lv_goto X.1.1 X.1.2.1 d_View_init2_48 rfl ?_
    refine lv_aload_n X.1.1 X.1.2.1 d_View_init2_52 rfl (gl_at hl rfl) ?_
    refine g_get X kc_View hob 4 (by decide) lk_View_30 rfl d_View_init2_53 ?_
    refine gn_eq X.1.1 X.1.2.1 1 otn (by omega) (by omega) d_View_init2_56 rfl (fun hc56 => ?_) (fun hc56 => ?_)
    · refine lv_iconst (v := nI 0) X.1.1 X.1.2.1 d_View_init2_63 (by decide) ?_
      refine g_top (nI (v_tn srt otn)) (by unfold v_tn; have h1 := hc44; have h2 := hc56; first | (rw [if_pos h1]; first | rw [if_pos h2] | rw [if_neg h2]) | (rw [if_neg h1]; first | rw [if_pos h2] | rw [if_neg h2])) ?_
      refine g_putF (A := (fun p => p = vb ∨ vb ≤ p)) X B.2.2 kc_View h24 4 (by decide) lk_View_30 rfl rfl (gz_n (v_tn_le _ _)) (gz_fit (v_tn_le _ _)) (Nat.le_of_ble_eq_true rfl) d_View_init2_64 (show _ ∨ _ by omega) hL (fun H65 locs h66 z67 oq68 hL => ?_)
      replace hob := hob.kept (oq68 _ (by omega))
      replace hxs := hxs.kept (oq68 _ (by omega)) (oq68 _ (by omega))
      replace hkz := hkz.kept (oq68 _ (by omega)) (oq68 _ (by omega))
      have hz69 := z67.trans hz5
      refine lv_aload_n X.1.1 X.1.2.1 d_View_init2_67 rfl (gl_at hl rfl) ?_
      refine g_new X kc_Walker lk_View_34 ki_Walker.1 ki_Walker.2 (fs := [.int 0, .int 0, .int 0, .int 0]) kf_Walker (Nat.le_of_ble_eq_true rfl) (Nat.le_of_ble_eq_true rfl) d_View_init2_68 (fun H70 h71 z72 o73 => ?_)
      rw [hz69] at h71 z72 o73 ⊢
      replace h66 := h66.kept (o73 _ (by omega))
      replace hob := hob.kept (o73 _ (by omega))
      replace hxs := hxs.kept (o73 _ (by omega)) (o73 _ (by omega))
      replace hkz := hkz.kept (o73 _ (by omega)) (o73 _ (by omega))
      refine lv_dup X.1.1 X.1.2.1 d_View_init2_71 rfl ?_
      refine g_cin (A := (fun p => p = vb ∨ vb ≤ p)) (host := "KeyHall") X gWS_good hE mi_Walker_init.1 mi_Walker_init.2 mc_Walker_init rfl (by decide +kernel) (c_Walker_init l D q H70 (vb + 1 + 2)) (fun _ _ _ => trivial) gBlind.tt rfl rfl hl.1 (Nat.le_of_ble_eq_true rfl) rfl rfl ⟨by decide, by decide⟩ ⟨Nat.le_of_ble_eq_true rfl, Nat.le_of_ble_eq_true rfl⟩ d_View_init2_72 (fun _ h => h.elim) hL (fun v74 H75 locs hp76 hL => ?_)
      obtain ⟨rfl, hHe⟩ := hp76
      rw [hHe]
      refine g_putF (A := (fun p => p = vb ∨ vb ≤ p)) X B.2.2 kc_View h66 5 (by decide) lk_View_37 rfl rfl rfl rfl (Nat.le_of_ble_eq_true rfl) d_View_init2_75 (show _ ∨ _ by omega) hL (fun H77 locs h78 z79 oq80 hL => ?_)
      replace hob := hob.kept (oq80 _ (by omega))
      replace h71 := h71.kept (oq80 _ (by omega))
      replace hxs := hxs.kept (oq80 _ (by omega)) (oq80 _ (by omega))
      replace hkz := hkz.kept (oq80 _ (by omega)) (oq80 _ (by omega))
      have hz81 := z79.trans z72
      exact g_vret X B ⟨rfl, h78, hkz, h71, by omega, fun p hp => ((oq80 p (by omega)).trans ((o73 p (by omega)).trans ((oq68 p (by omega)).trans ((fr2 p (by omega)).trans ((oq26 p (by omega)).trans ((frk p (by omega)).trans ((o19 p (by omega)).trans ((oq14 p (by omega)).trans ((oq9 p (by omega)).trans (oq4 p (by omega)))))))))))⟩ hL d_View_init2_78 (by omega) (by omega)
    · refine lv_iconst (v := nI 1) X.1.1 X.1.2.1 d_View_init2_59 (by decide) ?_
      refine lv_goto X.1.1 X.1.2.1 d_View_init2_60 rfl ?_
      refine g_top (nI (v_tn srt otn)) (by unfold v_tn; have h1 := hc44; have h2 := hc56; first | (rw [if_pos h1]; first | rw [if_pos h2] | rw [if_neg h2]) | (rw [if_neg h1]; first | rw [if_pos h2] | rw [if_neg h2])) ?_
      refine g_putF (A := (fun p => p = vb ∨ vb ≤ p)) X B.2.2 kc_View h24 4 (by decide) lk_View_30 rfl rfl (gz_n (v_tn_le _ _)) (gz_fit (v_tn_le _ _)) (Nat.le_of_ble_eq_true rfl) d_View_init2_64 (show _ ∨ _ by omega) hL (fun H82 locs h83 z84 oq85 hL => ?_)
      replace hob := hob.kept (oq85 _ (by omega))
      replace hxs := hxs.kept (oq85 _ (by omega)) (oq85 _ (by omega))
      replace hkz := hkz.kept (oq85 _ (by omega)) (oq85 _ (by omega))
      have hz86 := z84.trans hz5
      refine lv_aload_n X.1.1 X.1.2.1 d_View_init2_67 rfl (gl_at hl rfl) ?_
      refine g_new X kc_Walker lk_View_34 ki_Walker.1 ki_Walker.2 (fs := [.int 0, .int 0, .int 0, .int 0]) kf_Walker (Nat.le_of_ble_eq_true rfl) (Nat.le_of_ble_eq_true rfl) d_View_init2_68 (fun H87 h88 z89 o90 => ?_)
      rw [hz86] at h88 z89 o90 ⊢
      replace h83 := h83.kept (o90 _ (by omega))
      replace hob := hob.kept (o90 _ (by omega))
      replace hxs := hxs.kept (o90 _ (by omega)) (o90 _ (by omega))
      replace hkz := hkz.kept (o90 _ (by omega)) (o90 _ (by omega))
      refine lv_dup X.1.1 X.1.2.1 d_View_init2_71 rfl ?_
      refine g_cin (A := (fun p => p = vb ∨ vb ≤ p)) (host := "KeyHall") X gWS_good hE mi_Walker_init.1 mi_Walker_init.2 mc_Walker_init rfl (by decide +kernel) (c_Walker_init l D q H87 (vb + 1 + 2)) (fun _ _ _ => trivial) gBlind.tt rfl rfl hl.1 (Nat.le_of_ble_eq_true rfl) rfl rfl ⟨by decide, by decide⟩ ⟨Nat.le_of_ble_eq_true rfl, Nat.le_of_ble_eq_true rfl⟩ d_View_init2_72 (fun _ h => h.elim) hL (fun v91 H92 locs hp93 hL => ?_)
      obtain ⟨rfl, hHe⟩ := hp93
      rw [hHe]
      refine g_putF (A := (fun p => p = vb ∨ vb ≤ p)) X B.2.2 kc_View h83 5 (by decide) lk_View_37 rfl rfl rfl rfl (Nat.le_of_ble_eq_true rfl) d_View_init2_75 (show _ ∨ _ by omega) hL (fun H94 locs h95 z96 oq97 hL => ?_)
      replace hob := hob.kept (oq97 _ (by omega))
      replace h88 := h88.kept (oq97 _ (by omega))
      replace hxs := hxs.kept (oq97 _ (by omega)) (oq97 _ (by omega))
      replace hkz := hkz.kept (oq97 _ (by omega)) (oq97 _ (by omega))
      have hz98 := z96.trans z89
      exact g_vret X B ⟨rfl, h95, hkz, h88, by omega, fun p hp => ((oq97 p (by omega)).trans ((o90 p (by omega)).trans ((oq85 p (by omega)).trans ((fr2 p (by omega)).trans ((oq26 p (by omega)).trans ((frk p (by omega)).trans ((o19 p (by omega)).trans ((oq14 p (by omega)).trans ((oq9 p (by omega)).trans (oq4 p (by omega)))))))))))⟩ hL d_View_init2_78 (by omega) (by omega)
