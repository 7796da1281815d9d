/-! the classes Walker and View: printed by wip/specs/view.py -/
set_option maxHeartbeats 4000000 in
set_option maxRecDepth 100000 in
theorem c_Walker_begin (l : Launch) (D : va_G) (q : Nat → ClassId) (H : Heap) (w : Nat) (bg bh ht ck : Nat) (hw : va_at D CL (w, .inr (3, [.int (nI bg), .int (nI bh), .int (nI ht), .int (nI ck)])) H) (cg : Nat) : gC l y_Walker_begin (Cond.code y_Walker_begin b_Walker_begin 2 none :: gWS) (gR 0 0 0 0) D CL (gY q) (fun _ => True) [.ref w, .int (nI cg)] H (fun v H1 => v = none ∧ va_at D CL (w, .inr (3, [.int (nI 1), .int (nI 0), .int (nI 0), .int (nI cg)])) H1 ∧ H1.size = H.size ∧ ∀ p : Nat, p ≠ w → H1[p]? = H[p]?) 0 0 (fun p => p = w) := by
  refine gC.ofW R_Walker "begin" (by decide) rfl rfl ?_
  intro p e s m below meth c hadm X hE hH B hne
  refine g_entry [some (.ref w), some (.int (nI cg))] rfl rfl (Nat.le_of_ble_eq_true rfl) (fun ls hl => ?_)
  refine lv_aload_n X.1.1 X.1.2.1 d_Walker_begin_0 rfl (gl_at hl rfl) ?_
  refine lv_iconst (v := nI 1) X.1.1 X.1.2.1 d_Walker_begin_1 (by decide) ?_
  refine g_put (A := (fun p => p = w)) X kc_Walker hw 0 (by decide) lk_Walker_7 rfl (by first | rfl | decide | exact gz_n (by assumption)) rfl (Nat.le_of_ble_eq_true rfl) d_Walker_begin_2 rfl (fun _ h => by cases h) (fun H1 locs h2 z3 oq4 hL => ?_)
  refine lv_aload_n X.1.1 X.1.2.1 d_Walker_begin_5 rfl (gl_at hl rfl) ?_
  refine lv_iconst (v := nI 0) X.1.1 X.1.2.1 d_Walker_begin_6 (by decide) ?_
  refine g_put (A := (fun p => p = w)) X kc_Walker h2 1 (by decide) lk_Walker_13 rfl rfl rfl (Nat.le_of_ble_eq_true rfl) d_Walker_begin_7 rfl hL (fun H5 locs h6 z7 oq8 hL => ?_)
  refine lv_aload_n X.1.1 X.1.2.1 d_Walker_begin_10 rfl (gl_at hl rfl) ?_
  refine lv_iconst (v := nI 0) X.1.1 X.1.2.1 d_Walker_begin_11 (by decide) ?_
  refine g_put (A := (fun p => p = w)) X kc_Walker h6 2 (by decide) lk_Walker_17 rfl (by first | rfl | decide | exact gz_n (by assumption)) rfl (Nat.le_of_ble_eq_true rfl) d_Walker_begin_12 rfl hL (fun H9 locs h10 z11 oq12 hL => ?_)
  refine lv_aload_n X.1.1 X.1.2.1 d_Walker_begin_15 rfl (gl_at hl rfl) ?_
  refine lv_iload_n X.1.1 X.1.2.1 d_Walker_begin_16 rfl (gl_at hl rfl) ?_
  refine g_put (A := (fun p => p = w)) X kc_Walker h10 3 (by decide) lk_Walker_20 rfl rfl rfl (Nat.le_of_ble_eq_true rfl) d_Walker_begin_17 rfl hL (fun H13 locs h14 z15 oq16 hL => ?_)
  exact g_vret X B ⟨rfl, h14, (z15.trans (z11.trans (z7.trans z3))), fun p hp => ((oq16 p hp).trans ((oq12 p hp).trans ((oq8 p hp).trans (oq4 p hp))))⟩ hL d_Walker_begin_20 (by omega) (by omega)

set_option maxHeartbeats 4000000 in
set_option maxRecDepth 100000 in
theorem c_Walker_step (l : Launch) (D : va_G) (q : Nat → ClassId) (H : Heap) (w : Nat) (bg bh ht ck : Nat) (hw : va_at D CL (w, .inr (3, [.int (nI bg), .int (nI bh), .int (nI ht), .int (nI ck)])) H) : gC l y_Walker_step (Cond.code y_Walker_step b_Walker_step 1 none :: gWS) (gR 0 0 0 0) D CL (gY q) (fun _ => True) [.ref w] H (fun v H1 => v = none ∧ va_at D CL (w, .inr (3, [.int (nI bg), .int (nI (bh + 1)), .int (nI 1), .int (nI ck)])) H1 ∧ H1.size = H.size ∧ ∀ p : Nat, p ≠ w → H1[p]? = H[p]?) 0 0 (fun p => p = w) := by
  refine gC.ofW R_Walker "step" (by decide) rfl rfl ?_
  intro p e s m below meth c hadm X hE hH B hne
  refine g_entry [some (.ref w)] rfl rfl (Nat.le_of_ble_eq_true rfl) (fun ls hl => ?_)
  refine lv_aload_n X.1.1 X.1.2.1 d_Walker_step_0 rfl (gl_at hl rfl) ?_
  refine lv_dup X.1.1 X.1.2.1 d_Walker_step_1 rfl ?_
  refine g_get X kc_Walker hw 1 (by decide) lk_Walker_13 rfl d_Walker_step_2 ?_
  refine lv_iconst (v := nI 1) X.1.1 X.1.2.1 d_Walker_step_5 (by decide) ?_
  refine lv_iadd X.1.1 X.1.2.1 d_Walker_step_6 ?_
  refine g_top (nI (bh + 1)) (nI_add _ _) ?_
  refine g_put (A := (fun p => p = w)) X kc_Walker hw 1 (by decide) lk_Walker_13 rfl rfl rfl (Nat.le_of_ble_eq_true rfl) d_Walker_step_7 rfl (fun _ h => by cases h) (fun H1 locs h2 z3 oq4 hL => ?_)
  refine lv_aload_n X.1.1 X.1.2.1 d_Walker_step_10 rfl (gl_at hl rfl) ?_
  refine lv_iconst (v := nI 1) X.1.1 X.1.2.1 d_Walker_step_11 (by decide) ?_
  refine g_put (A := (fun p => p = w)) X kc_Walker h2 2 (by decide) lk_Walker_17 rfl (by first | rfl | decide | exact gz_n (by assumption)) rfl (Nat.le_of_ble_eq_true rfl) d_Walker_step_12 rfl hL (fun H5 locs h6 z7 oq8 hL => ?_)
  exact g_vret X B ⟨rfl, h6, (z7.trans z3), fun p hp => ((oq8 p hp).trans (oq4 p hp))⟩ hL d_Walker_step_15 (by omega) (by omega)

set_option maxHeartbeats 4000000 in
set_option maxRecDepth 100000 in
theorem c_Walker_stepBack (l : Launch) (D : va_G) (q : Nat → ClassId) (H : Heap) (w : Nat) (bg bh ht ck : Nat) (hw : va_at D CL (w, .inr (3, [.int (nI bg), .int (nI bh), .int (nI ht), .int (nI ck)])) H) (cg : Nat) (hbh : 0 < bh) : gC l y_Walker_stepBack (Cond.code y_Walker_stepBack b_Walker_stepBack 2 none :: gWS) (gR 0 0 0 0) D CL (gY q) (fun _ => True) [.ref w, .int (nI cg)] H (fun v H1 => v = none ∧ va_at D CL (w, .inr (3, [.int (nI bg), .int (nI (bh - 1)), .int (nI 0), .int (nI cg)])) H1 ∧ H1.size = H.size ∧ ∀ p : Nat, p ≠ w → H1[p]? = H[p]?) 0 0 (fun p => p = w) := by
  refine gC.ofW R_Walker "stepBack" (by decide) rfl rfl ?_
  intro p e s m below meth c hadm X hE hH B hne
  refine g_entry [some (.ref w), some (.int (nI cg))] rfl rfl (Nat.le_of_ble_eq_true rfl) (fun ls hl => ?_)
  refine lv_aload_n X.1.1 X.1.2.1 d_Walker_stepBack_0 rfl (gl_at hl rfl) ?_
  refine lv_dup X.1.1 X.1.2.1 d_Walker_stepBack_1 rfl ?_
  refine g_get X kc_Walker hw 1 (by decide) lk_Walker_13 rfl d_Walker_stepBack_2 ?_
  refine lv_iconst (v := nI 1) X.1.1 X.1.2.1 d_Walker_stepBack_5 (by decide) ?_
  refine lv_isub X.1.1 X.1.2.1 d_Walker_stepBack_6 ?_
  refine g_top (nI (bh - 1)) (pk_sub (by omega)) ?_
  refine g_put (A := (fun p => p = w)) X kc_Walker hw 1 (by decide) lk_Walker_13 rfl rfl rfl (Nat.le_of_ble_eq_true rfl) d_Walker_stepBack_7 rfl (fun _ h => by cases h) (fun H1 locs h2 z3 oq4 hL => ?_)
  refine lv_aload_n X.1.1 X.1.2.1 d_Walker_stepBack_10 rfl (gl_at hl rfl) ?_
  refine lv_iconst (v := nI 0) X.1.1 X.1.2.1 d_Walker_stepBack_11 (by decide) ?_
  refine g_put (A := (fun p => p = w)) X kc_Walker h2 2 (by decide) lk_Walker_17 rfl (by first | rfl | decide | exact gz_n (by assumption)) rfl (Nat.le_of_ble_eq_true rfl) d_Walker_stepBack_12 rfl hL (fun H5 locs h6 z7 oq8 hL => ?_)
  refine lv_aload_n X.1.1 X.1.2.1 d_Walker_stepBack_15 rfl (gl_at hl rfl) ?_
  refine lv_iload_n X.1.1 X.1.2.1 d_Walker_stepBack_16 rfl (gl_at hl rfl) ?_
  refine g_put (A := (fun p => p = w)) X kc_Walker h6 3 (by decide) lk_Walker_20 rfl rfl rfl (Nat.le_of_ble_eq_true rfl) d_Walker_stepBack_17 rfl hL (fun H9 locs h10 z11 oq12 hL => ?_)
  exact g_vret X B ⟨rfl, h10, (z11.trans (z7.trans z3)), fun p hp => ((oq12 p hp).trans ((oq8 p hp).trans (oq4 p hp)))⟩ hL d_Walker_stepBack_20 (by omega) (by omega)

set_option maxHeartbeats 4000000 in
set_option maxRecDepth 100000 in
theorem c_Walker_mayGoOn (l : Launch) (D : va_G) (q : Nat → ClassId) (H : Heap) (w : Nat) (bg bh ht ck : Nat) (hw : va_at D CL (w, .inr (3, [.int (nI bg), .int (nI bh), .int (nI ht), .int (nI ck)])) H) (cg : Nat) (hc : cg < 2 ^ 31) (hck : ck < 2 ^ 31) (hbg : bg < 2 ^ 31) : gC l y_Walker_mayGoOn (Cond.code y_Walker_mayGoOn b_Walker_mayGoOn 2 (some .boolean) :: gWS) (gR 0 0 0 0) D CL (gY q) (fun _ => True) [.ref w, .int (nI cg)] H (fun v H1 => v = some (.int (nI (if bg ≠ 0 ∧ cg = ck then 1 else 0))) ∧ H1 = H) 0 0 (fun _ => False) := by
  refine gC.ofW R_Walker "mayGoOn" (by decide) rfl rfl ?_
  intro p e s m below meth c hadm X hE hH B hne
  refine g_entry [some (.ref w), some (.int (nI cg))] rfl rfl (Nat.le_of_ble_eq_true rfl) (fun ls hl => ?_)
  refine lv_aload_n X.1.1 X.1.2.1 d_Walker_mayGoOn_0 rfl (gl_at hl rfl) ?_
  refine g_get X kc_Walker hw 0 (by decide) lk_Walker_7 rfl d_Walker_mayGoOn_1 ?_
  refine gn_eq0 X.1.1 X.1.2.1 bg (by omega) d_Walker_mayGoOn_4 rfl (fun hc4 => ?_) (fun hc4 => ?_)
  · refine lv_iconst (v := nI 0) X.1.1 X.1.2.1 d_Walker_mayGoOn_19 (by decide) ?_
    exact g_zret X B (by decide) ⟨by first | rw [if_pos ⟨by assumption, by assumption⟩] | rw [if_neg (fun h => by have h1 := h.1; have h2 := h.2; first | exact h1 (by assumption) | exact absurd h2 (by assumption))], rfl⟩ (fun _ h => by cases h) d_Walker_mayGoOn_20 (by omega) (by omega)
  · refine lv_iload_n X.1.1 X.1.2.1 d_Walker_mayGoOn_7 rfl (gl_at hl rfl) ?_
    refine lv_aload_n X.1.1 X.1.2.1 d_Walker_mayGoOn_8 rfl (gl_at hl rfl) ?_
    refine g_get X kc_Walker hw 3 (by decide) lk_Walker_20 rfl d_Walker_mayGoOn_9 ?_
    refine gn_ne X.1.1 X.1.2.1 cg ck (by omega) (by omega) d_Walker_mayGoOn_12 rfl (fun hc12 => ?_) (fun hc12 => ?_)
    · refine lv_iconst (v := nI 0) X.1.1 X.1.2.1 d_Walker_mayGoOn_19 (by decide) ?_
      exact g_zret X B (by decide) ⟨by first | rw [if_pos ⟨by assumption, by assumption⟩] | rw [if_neg (fun h => by have h1 := h.1; have h2 := h.2; first | exact h1 (by assumption) | exact absurd h2 (by assumption))], rfl⟩ (fun _ h => by cases h) d_Walker_mayGoOn_20 (by omega) (by omega)
    · refine lv_iconst (v := nI 1) X.1.1 X.1.2.1 d_Walker_mayGoOn_15 (by decide) ?_
      refine lv_goto X.1.1 X.1.2.1 d_Walker_mayGoOn_16 rfl ?_
      exact g_zret X B (by decide) ⟨by first | rw [if_pos ⟨by assumption, by assumption⟩] | rw [if_neg (fun h => by have h1 := h.1; have h2 := h.2; first | exact h1 (by assumption) | exact absurd h2 (by assumption))], rfl⟩ (fun _ h => by cases h) d_Walker_mayGoOn_20 (by omega) (by omega)

set_option maxHeartbeats 4000000 in
set_option maxRecDepth 100000 in
theorem c_Walker_init (l : Launch) (D : va_G) (q : Nat → ClassId) (H : Heap) (w : Nat) : gC l y_Walker_init (Cond.code y_Walker_init b_Walker_init 1 none :: gWS) (gR 1 12 0 0) D CL (gY q) (fun _ => True) [.ref w] H (fun v H1 => v = none ∧ H1 = H) 0 0 (fun _ => False) := by
  refine gC.ofW R_Walker "<init>" (by decide) rfl rfl ?_
  intro p e s m below meth c hadm X hE hH B hne
  refine g_entry [some (.ref w)] rfl rfl (Nat.le_of_ble_eq_true rfl) (fun ls hl => ?_)
  refine lv_aload_n X.1.1 X.1.2.1 d_Walker_init_0 rfl (gl_at hl rfl) ?_
  refine W.objInit X.1.1 X.1.2.1 X.1.2.2.2.1 (X.1.2.2.2.2 _ mo_Walker_1.1) (X.1.2.2.2.2 _ mo_Walker_1.2.1) (X.1.2.2.2.2 _ mo_Walker_1.2.2) rfl (by rw [X.1.2.2.1]; exact hl.1) rfl d_Walker_init_1 (Nat.le_of_ble_eq_true rfl) (Nat.le_of_ble_eq_true rfl) ?_
  refine W.eq (g2 := F0 m 4 ls []) rfl ?_
  exact g_vret X B ⟨rfl, rfl⟩ (fun _ h => by cases h) d_Walker_init_4 (by omega) (by omega)

theorem v_ok_all {s : Nat} {b xs : List Nat} (h : 3 ≤ s) : v_ok s b xs = true := by
  match s, h with
  | s + 3, _ => rfl

set_option maxHeartbeats 4000000 in
set_option maxRecDepth 100000 in
theorem c_View_bounds (l : Launch) (D : va_G) (q : Nat → ClassId) (H : Heap) (vb mb : Nat) (og : Option Nat) (srt bk tn wk f0 t0 : Nat) (hv : va_at D CL (vb, .inr (2, [.ref mb, va_rf og, .int (nI srt), .ref bk, .int (nI tn), .ref wk, .int (nI f0), .int (nI t0)])) H) (hsrt : srt ≤ 4) (bd : List Nat) (hbd : kA D q H bk bd) (b : Nat) (xs : List Nat) (hxs : kA D q H b xs) : gC l y_View_bounds (Cond.code y_View_bounds b_View_bounds 2 (some .boolean) :: gWS) (gR 2 44 0 0) D CL (gY q) (fun _ => True) [.ref vb, .ref b] H (fun v H1 => v = some (.int (nI (if v_ok srt bd xs = true then 1 else 0))) ∧ H1 = H) 0 0 (fun _ => False) := by
  refine gC.ofW R_View "bounds" (by decide) rfl rfl ?_
  intro p e s m below meth c hadm X hE hH B hne
  refine g_entry [some (.ref vb), some (.ref b)] rfl rfl (Nat.le_of_ble_eq_true rfl) (fun ls hl => ?_)
  refine lv_aload_n X.1.1 X.1.2.1 d_View_bounds_0 rfl (gl_at hl rfl) ?_
  refine g_get X kc_View hv 2 (by decide) lk_View_19 rfl d_View_bounds_1 ?_
  rcases (show srt = 0 ∨ srt = 1 ∨ srt = 2 ∨ 3 ≤ srt by omega) with hs4 | hs4 | hs4 | hs4
  · subst hs4
    refine lv_tableIn X.1.1 X.1.2.1 d_View_bounds_4 (x := nI 0) (by decide) (by decide) rfl rfl ?_
    refine lv_aload_n X.1.1 X.1.2.1 d_View_bounds_32 rfl (gl_at hl rfl) ?_
    refine lv_aload_n X.1.1 X.1.2.1 d_View_bounds_33 rfl (gl_at hl rfl) ?_
    refine g_get X kc_View hv 3 (by decide) lk_View_26 rfl d_View_bounds_34 ?_
    refine g_cv (A := (fun _ => False)) X gWS_good mw_View_49 kc_Key hxs.1 (c_Key_beginsWith l D q H b bk xs bd hxs hbd) (fun _ _ _ => trivial) gBlind.tt rfl rfl hl.1 (Nat.le_of_ble_eq_true rfl) rfl rfl ⟨by decide, by decide⟩ ⟨by decide, by decide⟩ d_View_bounds_37 (fun _ h => h.elim) (fun _ h => by cases h) (fun v1 H2 locs hp3 hL => ?_)
    obtain ⟨rfl, hHe⟩ := hp3
    rw [hHe]
    exact g_zret X B (gz_if _) ⟨by simp [v_ok], rfl⟩ hL d_View_bounds_40 (by omega) (by omega)
  · subst hs4
    refine lv_tableIn X.1.1 X.1.2.1 d_View_bounds_4 (x := nI 1) (by decide) (by decide) rfl rfl ?_
    refine lv_aload_n X.1.1 X.1.2.1 d_View_bounds_41 rfl (gl_at hl rfl) ?_
    refine lv_aload_n X.1.1 X.1.2.1 d_View_bounds_42 rfl (gl_at hl rfl) ?_
    refine g_get X kc_View hv 3 (by decide) lk_View_26 rfl d_View_bounds_43 ?_
    refine g_cv (A := (fun _ => False)) X gWS_good mw_View_52 kc_Key hxs.1 (c_Key_order l D q H b bk xs bd hxs hbd) (fun _ _ _ => trivial) gBlind.tt rfl rfl hl.1 (Nat.le_of_ble_eq_true rfl) rfl rfl ⟨by decide, by decide⟩ ⟨by decide, by decide⟩ d_View_bounds_46 (fun _ h => h.elim) (fun _ h => by cases h) (fun v4 H5 locs hp6 hL => ?_)
    obtain ⟨r, rfl, hr, hHe⟩ := hp6
    rw [hHe]
    refine lv_if_ge X.1.1 X.1.2.1 d_View_bounds_49 rfl (fun hc49 => ?_) (fun hc49 => ?_)
    · refine lv_iconst (v := nI 0) X.1.1 X.1.2.1 d_View_bounds_56 (by decide) ?_
      exact g_zret X B (by decide) ⟨by rw [if_neg (by simp only [v_ok, decide_eq_true_eq]; rw [← hr]; have := gi_ge hc49; omega)], rfl⟩ hL d_View_bounds_57 (by omega) (by omega)
    · refine lv_iconst (v := nI 1) X.1.1 X.1.2.1 d_View_bounds_52 (by decide) ?_
      refine lv_goto X.1.1 X.1.2.1 d_View_bounds_53 rfl ?_
      exact g_zret X B (by decide) ⟨by rw [if_pos (by simp only [v_ok, decide_eq_true_eq]; rw [← hr]; exact gi_nge hc49)], rfl⟩ hL d_View_bounds_57 (by omega) (by omega)
  · subst hs4
    refine lv_tableIn X.1.1 X.1.2.1 d_View_bounds_4 (x := nI 2) (by decide) (by decide) rfl rfl ?_
    refine lv_aload_n X.1.1 X.1.2.1 d_View_bounds_58 rfl (gl_at hl rfl) ?_
    refine lv_aload_n X.1.1 X.1.2.1 d_View_bounds_59 rfl (gl_at hl rfl) ?_
    refine g_get X kc_View hv 3 (by decide) lk_View_26 rfl d_View_bounds_60 ?_
    refine g_cv (A := (fun _ => False)) X gWS_good mw_View_52 kc_Key hxs.1 (c_Key_order l D q H b bk xs bd hxs hbd) (fun _ _ _ => trivial) gBlind.tt rfl rfl hl.1 (Nat.le_of_ble_eq_true rfl) rfl rfl ⟨by decide, by decide⟩ ⟨by decide, by decide⟩ d_View_bounds_63 (fun _ h => h.elim) (fun _ h => by cases h) (fun v7 H8 locs hp9 hL => ?_)
    obtain ⟨r, rfl, hr, hHe⟩ := hp9
    rw [hHe]
    refine lv_if_lt X.1.1 X.1.2.1 d_View_bounds_66 rfl (fun hc66 => ?_) (fun hc66 => ?_)
    · refine lv_iconst (v := nI 0) X.1.1 X.1.2.1 d_View_bounds_73 (by decide) ?_
      exact g_zret X B (by decide) ⟨by rw [if_neg (by simp only [v_ok, decide_eq_true_eq]; rw [← hr]; have := gi_lt hc66; omega)], rfl⟩ hL d_View_bounds_74 (by omega) (by omega)
    · refine lv_iconst (v := nI 1) X.1.1 X.1.2.1 d_View_bounds_69 (by decide) ?_
      refine lv_goto X.1.1 X.1.2.1 d_View_bounds_70 rfl ?_
      exact g_zret X B (by decide) ⟨by rw [if_pos (by simp only [v_ok, decide_eq_true_eq]; rw [← hr]; exact gi_nlt hc66)], rfl⟩ hL d_View_bounds_74 (by omega) (by omega)
  · refine lv_tableOut X.1.1 X.1.2.1 d_View_bounds_4 (Or.inr (by rw [nI_toInt (by omega)]; omega)) rfl ?_
    refine lv_iconst (v := nI 1) X.1.1 X.1.2.1 d_View_bounds_75 (by decide) ?_
    exact g_zret X B (by decide) ⟨by rw [if_pos (v_ok_all hs4)], rfl⟩ (fun _ h => by cases h) d_View_bounds_76 (by omega) (by omega)

set_option maxHeartbeats 4000000 in
set_option maxRecDepth 100000 in
theorem c_View_admits (l : Launch) (D : va_G) (q : Nat → ClassId) (H : Heap) (v : Nat) (ad : Nat → Nat) (org : Nat → Option Nat) (srt bk : Nat → Nat) (bt : Nat → List Nat) (hV : vV D q H v ad org srt bk bt) (b : Nat) (xs : List Nat) (hxs : kA D q H b xs) : gC l y_View_admits (Cond.code y_View_admits b_View_admits 3 (some .boolean) :: gWS) (gR 3 65 0 0) D CL (gY q) (fun _ => True) [.ref (ad v), .ref b] H (fun v1 H1 => v1 = some (.int (nI (if v_in org srt bt v xs = true then 1 else 0))) ∧ H1 = H) 0 0 (fun _ => False) := by
  refine gC.ofW R_View "admits" (by decide) rfl rfl ?_
  intro p e s m below meth c hadm X hE hH B hne
  refine g_entry [some (.ref (ad v)), some (.ref b), none] rfl rfl (Nat.le_of_ble_eq_true rfl) (fun ls hl => ?_)
  have ho9 : ∀ k, k ≤ v → ∀ j, org k = some j → j < k := fun k hk => (hV k hk).2.2.1
  refine lv_aload_n X.1.1 X.1.2.1 d_View_admits_0 rfl (gl_at hl rfl) ?_
  refine g_astn X.1.1 X.1.2.1 hl 2 d_View_admits_1 rfl (Nat.le_of_ble_eq_true rfl) rfl (fun ls hl => ?_)
  have loop2 : ∀ (fu : Nat) (k : Nat) (locs : List Loc) (ls : Array Slot), k < fu → (k ≤ v) → (v_in org srt bt v xs = v_in org srt bt k xs) → (∀ x ∈ locs, (fun _ => False) x.base) → gl ls [some (.ref (ad v)), some (.ref b), some (.ref (ad k))] → W p l e (gR 3 65 0 0) s m ([.ref (ad v), .ref b] : List Value).toArray below meth c H locs 0 0 (gQ below ([.ref (ad v), .ref b] : List Value).toArray s (fun v1 H1 => v1 = some (.int (nI (if v_in org srt bt v xs = true then 1 else 0))) ∧ H1 = H) 0 0 (fun _ => False)) (F0 m 2 ls []) := by
    intro fu
    induction fu with
    | zero => intro k locs ls hmu; omega
    | succ fu ih2 =>
      intro k locs ls hmu2 hi2_0 hi2_1 hL hl
      obtain ⟨⟨mb, tn, wk, f0, t0, hvk⟩, hbk, hok9, hsk⟩ := hV k hi2_0
      refine lv_aload_n X.1.1 X.1.2.1 d_View_admits_2 rfl (gl_at hl rfl) ?_
      refine lv_ifnull X.1.1 X.1.2.1 d_View_admits_3 ?_
      refine lv_aload_n X.1.1 X.1.2.1 d_View_admits_6 rfl (gl_at hl rfl) ?_
      refine lv_aload_n X.1.1 X.1.2.1 d_View_admits_7 rfl (gl_at hl rfl) ?_
      refine g_cv (A := (fun _ => False)) X gWS_good mw_View_45 kc_View hvk (c_View_bounds l D q H (ad k) mb ((org k).map ad) (srt k) (bk k) tn wk f0 t0 hvk hsk (bt k) hbk b xs hxs) (fun _ _ _ => trivial) gBlind.tt rfl rfl hl.1 (Nat.le_of_ble_eq_true rfl) rfl rfl ⟨by decide, by decide⟩ ⟨by decide, by decide⟩ d_View_admits_8 (fun _ h => h.elim) hL (fun v1 H2 locs hp3 hL => ?_)
      obtain ⟨rfl, hHe⟩ := hp3
      rw [hHe]
      refine lv_if_ne X.1.1 X.1.2.1 d_View_admits_11 rfl (fun hc11 => ?_) (fun hc11 => ?_)
      · replace hc11 := gz_t hc11
        refine lv_aload_n X.1.1 X.1.2.1 d_View_admits_16 rfl (gl_at hl rfl) ?_
        refine g_get X kc_View hvk 1 (by decide) lk_View_15 rfl d_View_admits_17 ?_
        rcases hok : org k with _ | j
        · refine g_topv .null rfl ?_
          refine g_astnN X.1.1 X.1.2.1 hl 2 d_View_admits_20 rfl (Nat.le_of_ble_eq_true rfl) rfl (fun ls hl => ?_)
          refine lv_goto X.1.1 X.1.2.1 d_View_admits_21 rfl ?_
          refine lv_aload_nN X.1.1 X.1.2.1 d_View_admits_2 rfl (gl_at hl rfl) ?_
          refine lv_ifnullN X.1.1 X.1.2.1 d_View_admits_3 rfl ?_
          refine lv_iconst (v := nI 1) X.1.1 X.1.2.1 d_View_admits_24 (by decide) ?_
          exact g_zret X B (by decide) ⟨by rw [if_pos (by rw [hi2_1]; unfold v_in; rw [v_adm, hc11, hok]; rfl)], rfl⟩ hL d_View_admits_25 (by omega) (by omega)
        · refine g_topv (.ref (ad j)) rfl ?_
          have hjk := hok9 j hok
          refine g_astn X.1.1 X.1.2.1 hl 2 d_View_admits_20 rfl (Nat.le_of_ble_eq_true rfl) rfl (fun ls hl => ?_)
          refine lv_goto X.1.1 X.1.2.1 d_View_admits_21 rfl ?_
          exact ih2 j locs ls (by omega) (by omega) (by rw [hi2_1]; unfold v_in; rw [v_adm, hc11, hok]; exact v_adm_fuel ho9 _ _ j (by omega) (by omega) (by omega)) hL hl
      · replace hc11 := gz_f hc11
        refine lv_iconst (v := nI 0) X.1.1 X.1.2.1 d_View_admits_14 (by decide) ?_
        exact g_zret X B (by decide) ⟨by rw [if_neg (by rw [hi2_1]; unfold v_in; rw [v_adm]; simp [hc11])], rfl⟩ hL d_View_admits_15 (by omega) (by omega)
  exact loop2 _ v [] ls (Nat.lt_succ_self _) (Nat.le_refl _) rfl (fun _ h => by cases h) hl
