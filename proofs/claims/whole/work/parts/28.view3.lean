/-! the class View, 3: printed by wip/specs/view3.py -/
set_option maxHeartbeats 4000000 in
set_option maxRecDepth 100000 in
theorem c_View_countBefore (l : Launch) (D : va_G) (q : Nat → ClassId) (H : Heap) (vb mb : Nat) (og : Option Nat) (srt bk tn wk f0 t0 : Nat) (hv : va_at D CL (vb, .inr (2, [.ref mb, va_rf og, .int (nI srt), .ref bk, .int (nI tn), .ref wk, .int (nI f0), .int (nI t0)])) H) (htn : tn < 2 ^ 31) (n : Nat) (ks : Nat → List Nat) (vs : Nat → Int32) (chg : Nat) (hm : mA D q H mb n ks vs chg) (hft : f0 ≤ t0) (ht0 : t0 ≤ n) (b : Nat) (ys : List Nat) (hys : kA D q H b ys) (sm : Nat) (hsm : sm < 2 ^ 31) : gC l y_View_countBefore (Cond.code y_View_countBefore b_View_countBefore 7 (some .int) :: gWS) (gR 2 44 0 0) D CL (gY q) (fun _ => True) [.ref vb, .ref b, .int (nI sm)] H (fun v H1 => v = some (.int (nI (v_cnt (v_bef tn sm ks ys) f0 (t0 - f0)))) ∧ H1 = H) 0 0 (fun _ => False) := by
  refine gC.ofW R_View "countBefore" (by decide) rfl rfl ?_
  intro p e s m below meth c hadm X hE hH B hne
  refine g_entry [some (.ref vb), some (.ref b), some (.int (nI sm)), none, none, none, none] rfl rfl (Nat.le_of_ble_eq_true rfl) (fun ls hl => ?_)
  have hm0 := hm
  obtain ⟨ho, hn, ⟨f, g, hf, hfg, hg, hgi, hks⟩, hvv⟩ := hm
  have hm := hm0
  refine lv_iconst (v := nI 0) X.1.1 X.1.2.1 d_View_countBefore_0 (by decide) ?_
  refine g_istn X.1.1 X.1.2.1 hl 3 d_View_countBefore_1 rfl (Nat.le_of_ble_eq_true rfl) rfl (fun ls hl => ?_)
  refine lv_aload_n X.1.1 X.1.2.1 d_View_countBefore_2 rfl (gl_at hl rfl) ?_
  refine g_get X kc_View hv 6 (by decide) lk_View_56 rfl d_View_countBefore_3 ?_
  refine g_ist X.1.1 X.1.2.1 hl 4 d_View_countBefore_6 (Nat.le_of_ble_eq_true rfl) rfl (fun ls hl => ?_)
  have loop8 : ∀ (fu : Nat) (i : Nat) (k : Nat) (locs : List Loc) (ls : Array Slot), t0 - i < fu → (f0 ≤ i) → (i ≤ t0) → (k = v_cnt (v_bef tn sm ks ys) f0 (i - f0)) → (∀ x ∈ locs, (fun _ => False) x.base) → gl ls [some (.ref vb), some (.ref b), some (.int (nI sm)), some (.int (nI k)), some (.int (nI i)), none, none] → W p l e (gR 2 44 0 0) s m ([.ref vb, .ref b, .int (nI sm)] : List Value).toArray below meth c H locs 0 0 (gQ below ([.ref vb, .ref b, .int (nI sm)] : List Value).toArray s (fun v H1 => v = some (.int (nI (v_cnt (v_bef tn sm ks ys) f0 (t0 - f0)))) ∧ H1 = H) 0 0 (fun _ => False)) (F0 m 8 ls []) := by
    intro fu
    induction fu with
    | zero => intro i k locs ls hmu; omega
    | succ fu ih8 =>
      intro i k locs ls hmu8 hi8_0 hi8_1 hi8_2 hL hl
      have hk9 := v_cnt_le (v_bef tn sm ks ys) f0 (i - f0)
      refine lv_iload X.1.1 X.1.2.1 d_View_countBefore_8 (gl_at hl rfl) ?_
      refine lv_aload_n X.1.1 X.1.2.1 d_View_countBefore_10 rfl (gl_at hl rfl) ?_
      refine g_get X kc_View hv 7 (by decide) lk_View_71 rfl d_View_countBefore_11 ?_
      refine gn_ge X.1.1 X.1.2.1 i t0 (by omega) (by omega) d_View_countBefore_14 rfl (fun hc14 => ?_) (fun hc14 => ?_)
      · have e9 : t0 = i := by omega
        subst e9
        refine lv_iload_n X.1.1 X.1.2.1 d_View_countBefore_76 rfl (gl_at hl rfl) ?_
        exact g_iret X B ⟨by rw [hi8_2], rfl⟩ hL d_View_countBefore_77 (by omega) (by omega)
      · have hki := hks i (by omega)
        refine lv_aload_n X.1.1 X.1.2.1 d_View_countBefore_17 rfl (gl_at hl rfl) ?_
        refine g_get X kc_View hv 0 (by decide) lk_View_9 rfl d_View_countBefore_18 ?_
        refine g_get X kc_KeyMap ho 0 (by decide) lk_View_64 rfl d_View_countBefore_21 ?_
        refine lv_iload X.1.1 X.1.2.1 d_View_countBefore_24 (gl_at hl rfl) ?_
        refine g_aald X 3 hf rfl i (by omega) (by decide) (v := .ref (g i)) (by rw [hfg _ (by omega)]; rfl) d_View_countBefore_26 ?_
        refine g_ast X.1.1 X.1.2.1 hl 5 d_View_countBefore_27 (Nat.le_of_ble_eq_true rfl) rfl (fun ls hl => ?_)
        refine lv_aload_n X.1.1 X.1.2.1 d_View_countBefore_29 rfl (gl_at hl rfl) ?_
        refine g_get X kc_View hv 4 (by decide) lk_View_30 rfl d_View_countBefore_30 ?_
        refine gn_eq0 X.1.1 X.1.2.1 tn (by omega) d_View_countBefore_33 rfl (fun hc33 => ?_) (fun hc33 => ?_)
        · refine lv_aload X.1.1 X.1.2.1 d_View_countBefore_45 (gl_at hl rfl) ?_
          refine lv_aload_n X.1.1 X.1.2.1 d_View_countBefore_47 rfl (gl_at hl rfl) ?_
          refine g_cv (A := (fun _ => False)) X gWS_good mw_View_52 kc_Key hki.1 (c_Key_order l D q H (g i) b (ks i) ys hki hys) (fun _ _ _ => trivial) gBlind.tt rfl rfl hl.1 (Nat.le_of_ble_eq_true rfl) rfl rfl ⟨by decide, by decide⟩ ⟨by decide, by decide⟩ d_View_countBefore_48 (fun _ h => h.elim) hL (fun v1 H2 locs hp3 hL => ?_)
          obtain ⟨r, rfl, hr, hHe⟩ := hp3
          rw [hHe]
          have hvo : r.toInt = v_o tn ks ys i := by unfold v_o; rw [if_neg (fun h => h hc33)]; exact hr
          refine g_ist X.1.1 X.1.2.1 hl 6 d_View_countBefore_51 (Nat.le_of_ble_eq_true rfl) rfl (fun ls hl => ?_)
          refine lv_iload X.1.1 X.1.2.1 d_View_countBefore_53 (gl_at hl rfl) ?_
          refine lv_if_lt X.1.1 X.1.2.1 d_View_countBefore_55 rfl (fun hc55 => ?_) (fun hc55 => ?_)
          · refine g_iinc X.1.1 X.1.2.1 (nI (k + 1)) hl 3 d_View_countBefore_67 rfl (nI_1 _) rfl (fun ls hl => ?_)
            refine g_iinc X.1.1 X.1.2.1 (nI (i + 1)) hl 4 d_View_countBefore_70 rfl (nI_1 _) rfl (fun ls hl => ?_)
            refine lv_goto X.1.1 X.1.2.1 d_View_countBefore_73 rfl ?_
            exact ih8 (i + 1) (k + 1) locs ls (by omega) (by omega) (by omega) (by rw [v_cnt_s hi8_0]; first | (rw [v_bef_t1 hvo (by assumption), if_pos rfl]; omega) | (rw [v_bef_t2 hvo (by assumption) (by assumption), if_pos rfl]; omega) | (rw [v_bef_f1 hvo (by assumption) (by assumption), if_neg (by decide)]; omega) | (rw [v_bef_f2 hvo (by assumption) (by assumption), if_neg (by decide)]; omega)) hL (gl_forget (gl_forget hl 5) 6)
          · refine lv_iload_n X.1.1 X.1.2.1 d_View_countBefore_58 rfl (gl_at hl rfl) ?_
            refine gn_eq0 X.1.1 X.1.2.1 sm (by omega) d_View_countBefore_59 rfl (fun hc59 => ?_) (fun hc59 => ?_)
            · refine g_iinc X.1.1 X.1.2.1 (nI (i + 1)) hl 4 d_View_countBefore_70 rfl (nI_1 _) rfl (fun ls hl => ?_)
              refine lv_goto X.1.1 X.1.2.1 d_View_countBefore_73 rfl ?_
              exact ih8 (i + 1) k locs ls (by omega) (by omega) (by omega) (by rw [v_cnt_s hi8_0]; first | (rw [v_bef_t1 hvo (by assumption), if_pos rfl]; omega) | (rw [v_bef_t2 hvo (by assumption) (by assumption), if_pos rfl]; omega) | (rw [v_bef_f1 hvo (by assumption) (by assumption), if_neg (by decide)]; omega) | (rw [v_bef_f2 hvo (by assumption) (by assumption), if_neg (by decide)]; omega)) hL (gl_forget (gl_forget hl 5) 6)
            · refine lv_iload X.1.1 X.1.2.1 d_View_countBefore_62 (gl_at hl rfl) ?_
              refine lv_if_ne X.1.1 X.1.2.1 d_View_countBefore_64 rfl (fun hc64 => ?_) (fun hc64 => ?_)
              · refine g_iinc X.1.1 X.1.2.1 (nI (i + 1)) hl 4 d_View_countBefore_70 rfl (nI_1 _) rfl (fun ls hl => ?_)
                refine lv_goto X.1.1 X.1.2.1 d_View_countBefore_73 rfl ?_
                exact ih8 (i + 1) k locs ls (by omega) (by omega) (by omega) (by rw [v_cnt_s hi8_0]; first | (rw [v_bef_t1 hvo (by assumption), if_pos rfl]; omega) | (rw [v_bef_t2 hvo (by assumption) (by assumption), if_pos rfl]; omega) | (rw [v_bef_f1 hvo (by assumption) (by assumption), if_neg (by decide)]; omega) | (rw [v_bef_f2 hvo (by assumption) (by assumption), if_neg (by decide)]; omega)) hL (gl_forget (gl_forget hl 5) 6)
              · refine g_iinc X.1.1 X.1.2.1 (nI (k + 1)) hl 3 d_View_countBefore_67 rfl (nI_1 _) rfl (fun ls hl => ?_)
                refine g_iinc X.1.1 X.1.2.1 (nI (i + 1)) hl 4 d_View_countBefore_70 rfl (nI_1 _) rfl (fun ls hl => ?_)
                refine lv_goto X.1.1 X.1.2.1 d_View_countBefore_73 rfl ?_
                exact ih8 (i + 1) (k + 1) locs ls (by omega) (by omega) (by omega) (by rw [v_cnt_s hi8_0]; first | (rw [v_bef_t1 hvo (by assumption), if_pos rfl]; omega) | (rw [v_bef_t2 hvo (by assumption) (by assumption), if_pos rfl]; omega) | (rw [v_bef_f1 hvo (by assumption) (by assumption), if_neg (by decide)]; omega) | (rw [v_bef_f2 hvo (by assumption) (by assumption), if_neg (by decide)]; omega)) hL (gl_forget (gl_forget hl 5) 6)
        · refine lv_aload_n X.1.1 X.1.2.1 d_View_countBefore_36 rfl (gl_at hl rfl) ?_
          refine lv_aload X.1.1 X.1.2.1 d_View_countBefore_37 (gl_at hl rfl) ?_
          refine g_cv (A := (fun _ => False)) X gWS_good mw_View_52 kc_Key hys.1 (c_Key_order l D q H b (g i) ys (ks i) hys hki) (fun _ _ _ => trivial) gBlind.tt rfl rfl hl.1 (Nat.le_of_ble_eq_true rfl) rfl rfl ⟨by decide, by decide⟩ ⟨by decide, by decide⟩ d_View_countBefore_39 (fun _ h => h.elim) hL (fun v4 H5 locs hp6 hL => ?_)
          obtain ⟨r, rfl, hr, hHe⟩ := hp6
          rw [hHe]
          have hvo : r.toInt = v_o tn ks ys i := by unfold v_o; rw [if_pos hc33]; exact hr
          refine lv_goto X.1.1 X.1.2.1 d_View_countBefore_42 rfl ?_
          refine g_ist X.1.1 X.1.2.1 hl 6 d_View_countBefore_51 (Nat.le_of_ble_eq_true rfl) rfl (fun ls hl => ?_)
          refine lv_iload X.1.1 X.1.2.1 d_View_countBefore_53 (gl_at hl rfl) ?_
          refine lv_if_lt X.1.1 X.1.2.1 d_View_countBefore_55 rfl (fun hc55 => ?_) (fun hc55 => ?_)
          · refine g_iinc X.1.1 X.1.2.1 (nI (k + 1)) hl 3 d_View_countBefore_67 rfl (nI_1 _) rfl (fun ls hl => ?_)
            refine g_iinc X.1.1 X.1.2.1 (nI (i + 1)) hl 4 d_View_countBefore_70 rfl (nI_1 _) rfl (fun ls hl => ?_)
            refine lv_goto X.1.1 X.1.2.1 d_View_countBefore_73 rfl ?_
            exact ih8 (i + 1) (k + 1) locs ls (by omega) (by omega) (by omega) (by rw [v_cnt_s hi8_0]; first | (rw [v_bef_t1 hvo (by assumption), if_pos rfl]; omega) | (rw [v_bef_t2 hvo (by assumption) (by assumption), if_pos rfl]; omega) | (rw [v_bef_f1 hvo (by assumption) (by assumption), if_neg (by decide)]; omega) | (rw [v_bef_f2 hvo (by assumption) (by assumption), if_neg (by decide)]; omega)) hL (gl_forget (gl_forget hl 5) 6)
          · refine lv_iload_n X.1.1 X.1.2.1 d_View_countBefore_58 rfl (gl_at hl rfl) ?_
            refine gn_eq0 X.1.1 X.1.2.1 sm (by omega) d_View_countBefore_59 rfl (fun hc59 => ?_) (fun hc59 => ?_)
            · refine g_iinc X.1.1 X.1.2.1 (nI (i + 1)) hl 4 d_View_countBefore_70 rfl (nI_1 _) rfl (fun ls hl => ?_)
              refine lv_goto X.1.1 X.1.2.1 d_View_countBefore_73 rfl ?_
              exact ih8 (i + 1) k locs ls (by omega) (by omega) (by omega) (by rw [v_cnt_s hi8_0]; first | (rw [v_bef_t1 hvo (by assumption), if_pos rfl]; omega) | (rw [v_bef_t2 hvo (by assumption) (by assumption), if_pos rfl]; omega) | (rw [v_bef_f1 hvo (by assumption) (by assumption), if_neg (by decide)]; omega) | (rw [v_bef_f2 hvo (by assumption) (by assumption), if_neg (by decide)]; omega)) hL (gl_forget (gl_forget hl 5) 6)
            · refine lv_iload X.1.1 X.1.2.1 d_View_countBefore_62 (gl_at hl rfl) ?_
              refine lv_if_ne X.1.1 X.1.2.1 d_View_countBefore_64 rfl (fun hc64 => ?_) (fun hc64 => ?_)
              · refine g_iinc X.1.1 X.1.2.1 (nI (i + 1)) hl 4 d_View_countBefore_70 rfl (nI_1 _) rfl (fun ls hl => ?_)
                refine lv_goto X.1.1 X.1.2.1 d_View_countBefore_73 rfl ?_
                exact ih8 (i + 1) k locs ls (by omega) (by omega) (by omega) (by rw [v_cnt_s hi8_0]; first | (rw [v_bef_t1 hvo (by assumption), if_pos rfl]; omega) | (rw [v_bef_t2 hvo (by assumption) (by assumption), if_pos rfl]; omega) | (rw [v_bef_f1 hvo (by assumption) (by assumption), if_neg (by decide)]; omega) | (rw [v_bef_f2 hvo (by assumption) (by assumption), if_neg (by decide)]; omega)) hL (gl_forget (gl_forget hl 5) 6)
              · refine g_iinc X.1.1 X.1.2.1 (nI (k + 1)) hl 3 d_View_countBefore_67 rfl (nI_1 _) rfl (fun ls hl => ?_)
                refine g_iinc X.1.1 X.1.2.1 (nI (i + 1)) hl 4 d_View_countBefore_70 rfl (nI_1 _) rfl (fun ls hl => ?_)
                refine lv_goto X.1.1 X.1.2.1 d_View_countBefore_73 rfl ?_
                exact ih8 (i + 1) (k + 1) locs ls (by omega) (by omega) (by omega) (by rw [v_cnt_s hi8_0]; first | (rw [v_bef_t1 hvo (by assumption), if_pos rfl]; omega) | (rw [v_bef_t2 hvo (by assumption) (by assumption), if_pos rfl]; omega) | (rw [v_bef_f1 hvo (by assumption) (by assumption), if_neg (by decide)]; omega) | (rw [v_bef_f2 hvo (by assumption) (by assumption), if_neg (by decide)]; omega)) hL (gl_forget (gl_forget hl 5) 6)
  exact loop8 _ f0 0 [] ls (Nat.lt_succ_self _) (Nat.le_refl _) hft (by rw [Nat.sub_self]; rfl) (fun _ h => by cases h) hl

set_option maxHeartbeats 4000000 in
set_option maxRecDepth 100000 in
theorem c_View_rankOfLongestStart (l : Launch) (D : va_G) (q : Nat → ClassId) (H : Heap) (vb mb : Nat) (og : Option Nat) (srt bk tn wk f0 t0 : Nat) (hv : va_at D CL (vb, .inr (2, [.ref mb, va_rf og, .int (nI srt), .ref bk, .int (nI tn), .ref wk, .int (nI f0), .int (nI t0)])) H) (htn : tn < 2 ^ 31) (n : Nat) (ks : Nat → List Nat) (vs : Nat → Int32) (chg : Nat) (hm : mA D q H mb n ks vs chg) (hft : f0 ≤ t0) (ht0 : t0 ≤ n) (b : Nat) (ys : List Nat) (hys : kA D q H b ys) : gC l y_View_rankOfLongestStart (Cond.code y_View_rankOfLongestStart b_View_rankOfLongestStart 6 (some .int) :: gWS) (gR 2 43 0 0) D CL (gY q) (fun _ => True) [.ref vb, .ref b] H (fun v H1 => (∃ w, v = some (.int (gm1 w)) ∧ v_long tn f0 t0 ks ys (t0 - f0) w) ∧ H1 = H) 0 0 (fun _ => False) := by
  refine gC.ofW R_View "rankOfLongestStart" (by decide) rfl rfl ?_
  intro p e s m below meth c hadm X hE hH B hne
  refine g_entry [some (.ref vb), some (.ref b), none, none, none, none] rfl rfl (Nat.le_of_ble_eq_true rfl) (fun ls hl => ?_)
  have hm0 := hm
  obtain ⟨ho, hn, ⟨f, g, hf, hfg, hg, hgi, hks⟩, hvv⟩ := hm
  have hm := hm0
  refine lv_iconst (v := (-1)) X.1.1 X.1.2.1 d_View_rankOfLongestStart_0 (by decide) ?_
  refine g_istn X.1.1 X.1.2.1 hl 2 d_View_rankOfLongestStart_1 rfl (Nat.le_of_ble_eq_true rfl) rfl (fun ls hl => ?_)
  refine lv_iconst (v := (-1)) X.1.1 X.1.2.1 d_View_rankOfLongestStart_2 (by decide) ?_
  refine g_istn X.1.1 X.1.2.1 hl 3 d_View_rankOfLongestStart_3 rfl (Nat.le_of_ble_eq_true rfl) rfl (fun ls hl => ?_)
  refine lv_iconst (v := nI 0) X.1.1 X.1.2.1 d_View_rankOfLongestStart_4 (by decide) ?_
  refine g_ist X.1.1 X.1.2.1 hl 4 d_View_rankOfLongestStart_5 (Nat.le_of_ble_eq_true rfl) rfl (fun ls hl => ?_)
  have loop7 : ∀ (fu : Nat) (i : Nat) (w : Option Nat) (locs : List Loc) (ls : Array Slot), t0 - f0 - i < fu → (i ≤ t0 - f0) → (v_long tn f0 t0 ks ys i w) → (∀ x ∈ locs, (fun _ => False) x.base) → gl ls [some (.ref vb), some (.ref b), some (.int (gm1 w)), some (.int (gm1 (w.map (fun r => (ks (v_pl tn f0 t0 r)).length)))), some (.int (nI i)), none] → W p l e (gR 2 43 0 0) s m ([.ref vb, .ref b] : List Value).toArray below meth c H locs 0 0 (gQ below ([.ref vb, .ref b] : List Value).toArray s (fun v H1 => (∃ w, v = some (.int (gm1 w)) ∧ v_long tn f0 t0 ks ys (t0 - f0) w) ∧ H1 = H) 0 0 (fun _ => False)) (F0 m 7 ls []) := by
    intro fu
    induction fu with
    | zero => intro i w locs ls hmu; omega
    | succ fu ih7 =>
      intro i w locs ls hmu7 hi7_0 hi7_1 hL hl
      refine lv_iload X.1.1 X.1.2.1 d_View_rankOfLongestStart_7 (gl_at hl rfl) ?_
      refine lv_aload_n X.1.1 X.1.2.1 d_View_rankOfLongestStart_9 rfl (gl_at hl rfl) ?_
      refine g_cv (A := (fun _ => False)) X gWS_good mw_View_81 kc_View hv (c_View_count l D q H vb mb og srt bk tn wk f0 t0 hv hft) (fun _ _ _ => trivial) gBlind.tt rfl rfl hl.1 (Nat.le_of_ble_eq_true rfl) rfl rfl ⟨by decide, by decide⟩ ⟨by decide, by decide⟩ d_View_rankOfLongestStart_10 (fun _ h => h.elim) hL (fun v1 H2 locs hp3 hL => ?_)
      obtain ⟨rfl, hHe⟩ := hp3
      rw [hHe]
      refine gn_ge X.1.1 X.1.2.1 i (t0 - f0) (by omega) (by omega) d_View_rankOfLongestStart_13 rfl (fun hc13 => ?_) (fun hc13 => ?_)
      · have e9 : i = t0 - f0 := by omega
        refine lv_iload_n X.1.1 X.1.2.1 d_View_rankOfLongestStart_65 rfl (gl_at hl rfl) ?_
        exact g_iret X B ⟨⟨w, rfl, by rw [← e9]; exact hi7_1⟩, rfl⟩ hL d_View_rankOfLongestStart_66 (by omega) (by omega)
      · refine lv_aload_n X.1.1 X.1.2.1 d_View_rankOfLongestStart_16 rfl (gl_at hl rfl) ?_
        refine g_get X kc_View hv 0 (by decide) lk_View_9 rfl d_View_rankOfLongestStart_17 ?_
        refine g_get X kc_KeyMap ho 0 (by decide) lk_View_64 rfl d_View_rankOfLongestStart_20 ?_
        refine lv_aload_n X.1.1 X.1.2.1 d_View_rankOfLongestStart_23 rfl (gl_at hl rfl) ?_
        refine lv_iload X.1.1 X.1.2.1 d_View_rankOfLongestStart_24 (gl_at hl rfl) ?_
        refine g_cv (A := (fun _ => False)) X gWS_good mw_View_87 kc_View hv (c_View_placeRanked l D q H vb mb og srt bk tn wk f0 t0 hv i htn (by omega)) (fun _ _ _ => trivial) gBlind.tt rfl rfl hl.1 (Nat.le_of_ble_eq_true rfl) rfl rfl ⟨by decide, by decide⟩ ⟨by decide, by decide⟩ d_View_rankOfLongestStart_26 (fun _ h => h.elim) hL (fun v4 H5 locs hp6 hL => ?_)
        obtain ⟨rfl, hHe⟩ := hp6
        rw [hHe]
        refine g_top (nI (v_pl tn f0 t0 i)) rfl ?_
        have hpl := v_pl_in (tn := tn) (show f0 + i < t0 by omega)
        have hki := hks (v_pl tn f0 t0 i) (by omega)
        have hli := hki.2.2.1
        have hkc := hki.1
        refine g_aald X 3 hf rfl (v_pl tn f0 t0 i) (by omega) (by decide) (v := .ref (g (v_pl tn f0 t0 i))) (by rw [hfg _ (by omega)]; rfl) d_View_rankOfLongestStart_29 ?_
        refine g_ast X.1.1 X.1.2.1 hl 5 d_View_rankOfLongestStart_30 (Nat.le_of_ble_eq_true rfl) rfl (fun ls hl => ?_)
        refine lv_aload X.1.1 X.1.2.1 d_View_rankOfLongestStart_32 (gl_at hl rfl) ?_
        refine g_get X kc_Key hkc 1 (by decide) lk_View_91 rfl d_View_rankOfLongestStart_34 ?_
        refine lv_iload_n X.1.1 X.1.2.1 d_View_rankOfLongestStart_37 rfl (gl_at hl rfl) ?_
        refine lv_icmp_le X.1.1 X.1.2.1 d_View_rankOfLongestStart_38 rfl (fun hc38 => ?_) (fun hc38 => ?_)
        · refine g_iinc X.1.1 X.1.2.1 (nI (i + 1)) hl 4 d_View_rankOfLongestStart_59 rfl (nI_1 _) rfl (fun ls hl => ?_)
          refine lv_goto X.1.1 X.1.2.1 d_View_rankOfLongestStart_62 rfl ?_
          exact ih7 (i + 1) w locs ls (by omega) (by omega) (v_long_keep hi7_1 (fun h => by
            cases w with
            | none => exact absurd hc38 (gm1_le_none (by omega))
            | some r => exact ⟨r, rfl, (gm1_le_some (by omega) (by have h7 := (hks (v_pl tn f0 t0 r) (by have h8 := v_pl_in (tn := tn) (show f0 + r < t0 by have h6 := hi7_1.1; omega); omega)).2.2.1; omega)).mp hc38⟩)) hL (gl_forget hl 5)
        · refine lv_aload_n X.1.1 X.1.2.1 d_View_rankOfLongestStart_41 rfl (gl_at hl rfl) ?_
          refine lv_aload X.1.1 X.1.2.1 d_View_rankOfLongestStart_42 (gl_at hl rfl) ?_
          refine g_cv (A := (fun _ => False)) X gWS_good mw_View_49 kc_Key hys.1 (c_Key_beginsWith l D q H b (g (v_pl tn f0 t0 i)) ys (ks (v_pl tn f0 t0 i)) hys hki) (fun _ _ _ => trivial) gBlind.tt rfl rfl hl.1 (Nat.le_of_ble_eq_true rfl) rfl rfl ⟨by decide, by decide⟩ ⟨by decide, by decide⟩ d_View_rankOfLongestStart_44 (fun _ h => h.elim) hL (fun v7 H8 locs hp9 hL => ?_)
          obtain ⟨rfl, hHe⟩ := hp9
          rw [hHe]
          refine lv_if_eq X.1.1 X.1.2.1 d_View_rankOfLongestStart_47 rfl (fun hc47 => ?_) (fun hc47 => ?_)
          · replace hc47 := gz_f hc47
            refine g_iinc X.1.1 X.1.2.1 (nI (i + 1)) hl 4 d_View_rankOfLongestStart_59 rfl (nI_1 _) rfl (fun ls hl => ?_)
            refine lv_goto X.1.1 X.1.2.1 d_View_rankOfLongestStart_62 rfl ?_
            exact ih7 (i + 1) w locs ls (by omega) (by omega) (v_long_keep hi7_1 (fun h => absurd h hc47)) hL (gl_forget hl 5)
          · replace hc47 := gz_t hc47
            refine lv_aload X.1.1 X.1.2.1 d_View_rankOfLongestStart_50 (gl_at hl rfl) ?_
            refine g_get X kc_Key hkc 1 (by decide) lk_View_91 rfl d_View_rankOfLongestStart_52 ?_
            refine g_istn X.1.1 X.1.2.1 hl 3 d_View_rankOfLongestStart_55 rfl (Nat.le_of_ble_eq_true rfl) rfl (fun ls hl => ?_)
            refine lv_iload X.1.1 X.1.2.1 d_View_rankOfLongestStart_56 (gl_at hl rfl) ?_
            refine g_istn X.1.1 X.1.2.1 hl 2 d_View_rankOfLongestStart_58 rfl (Nat.le_of_ble_eq_true rfl) rfl (fun ls hl => ?_)
            refine g_iinc X.1.1 X.1.2.1 (nI (i + 1)) hl 4 d_View_rankOfLongestStart_59 rfl (nI_1 _) rfl (fun ls hl => ?_)
            refine lv_goto X.1.1 X.1.2.1 d_View_rankOfLongestStart_62 rfl ?_
            exact ih7 (i + 1) (some i) locs ls (by omega) (by omega) (v_long_new hi7_1 hc47 (fun r hr => by
              subst hr
              have h5 : ¬ nI (ks (v_pl tn f0 t0 i)).length ≤ gm1 (some (ks (v_pl tn f0 t0 r)).length) := hc38
              have h4 := mt (gm1_le_some (by omega) (by have h7 := (hks (v_pl tn f0 t0 r) (by have h8 := v_pl_in (tn := tn) (show f0 + r < t0 by have h6 := hi7_1.1; omega); omega)).2.2.1; omega)).mpr h5
              omega)) hL (gl_forget hl 5)
  exact loop7 _ 0 none [] ls (Nat.lt_succ_self _) (Nat.zero_le _) v_long_0 (fun _ h => by cases h) hl

set_option maxHeartbeats 4000000 in
set_option maxRecDepth 100000 in
theorem c_View_rankBy (l : Launch) (D : va_G) (q : Nat → ClassId) (H : Heap) (vb mb : Nat) (og : Option Nat) (srt bk tn wk f0 t0 : Nat) (hv : va_at D CL (vb, .inr (2, [.ref mb, va_rf og, .int (nI srt), .ref bk, .int (nI tn), .ref wk, .int (nI f0), .int (nI t0)])) H) (htn : tn < 2 ^ 31) (n : Nat) (ks : Nat → List Nat) (vs : Nat → Int32) (chg : Nat) (hm : mA D q H mb n ks vs chg) (hft : f0 ≤ t0) (ht0 : t0 ≤ n) (b : Nat) (ys : List Nat) (hys : kA D q H b ys) (h : Nat) (hh : h ≤ 6) : gC l y_View_rankBy (Cond.code y_View_rankBy b_View_rankBy 3 (some .int) :: gWS) (gR 3 70 0 0) D CL (gY q) (fun _ => True) [.ref vb, .int (nI h), .ref b] H (fun v H1 => (∃ r : Int32, v = some (.int r) ∧ v_rk tn f0 t0 ks ys h r) ∧ H1 = H) 0 0 (fun _ => False) := by
  refine gC.ofW R_View "rankBy" (by decide) rfl rfl ?_
  intro p e s m below meth c hadm X hE hH B hne
  refine g_entry [some (.ref vb), some (.int (nI h)), some (.ref b)] rfl rfl (Nat.le_of_ble_eq_true rfl) (fun ls hl => ?_)
  have hm0 := hm
  obtain ⟨ho, hn, ⟨f, g, hf, hfg, hg, hgi, hks⟩, hvv⟩ := hm
  have hm := hm0
  refine lv_iload_n X.1.1 X.1.2.1 d_View_rankBy_0 rfl (gl_at hl rfl) ?_
  rcases (show h = 0 ∨ h = 1 ∨ h = 2 ∨ h = 3 ∨ h = 4 ∨ h = 5 ∨ 6 ≤ h by omega) with hs1 | hs1 | hs1 | hs1 | hs1 | hs1 | hs1
  · subst hs1
    refine lv_tableIn X.1.1 X.1.2.1 d_View_rankBy_1 (x := nI 0) (by decide) (by decide) rfl rfl ?_
    refine lv_aload_n X.1.1 X.1.2.1 d_View_rankBy_40 rfl (gl_at hl rfl) ?_
    refine lv_aload_n X.1.1 X.1.2.1 d_View_rankBy_41 rfl (gl_at hl rfl) ?_
    refine lv_iconst (v := nI 1) X.1.1 X.1.2.1 d_View_rankBy_42 (by decide) ?_
    refine g_cv (A := (fun _ => False)) X gWS_good mw_View_77 kc_View hv (c_View_countBefore l D q H vb mb og srt bk tn wk f0 t0 hv htn n ks vs chg hm hft ht0 b ys hys 1 (by decide)) (fun _ _ _ => trivial) gBlind.tt rfl rfl hl.1 (Nat.le_of_ble_eq_true rfl) rfl rfl ⟨by decide, by decide⟩ ⟨by decide, by decide⟩ d_View_rankBy_43 (fun _ h => h.elim) (fun _ h => by cases h) (fun v1 H2 locs hp3 hL => ?_)
    obtain ⟨rfl, hHe⟩ := hp3
    rw [hHe]
    refine lv_iconst (v := nI 1) X.1.1 X.1.2.1 d_View_rankBy_46 (by decide) ?_
    refine lv_isub X.1.1 X.1.2.1 d_View_rankBy_47 ?_
    exact g_iret X B ⟨⟨_, rfl, rfl⟩, rfl⟩ hL d_View_rankBy_48 (by omega) (by omega)
  · subst hs1
    refine lv_tableIn X.1.1 X.1.2.1 d_View_rankBy_1 (x := nI 1) (by decide) (by decide) rfl rfl ?_
    refine lv_aload_n X.1.1 X.1.2.1 d_View_rankBy_49 rfl (gl_at hl rfl) ?_
    refine lv_aload_n X.1.1 X.1.2.1 d_View_rankBy_50 rfl (gl_at hl rfl) ?_
    refine lv_iconst (v := nI 0) X.1.1 X.1.2.1 d_View_rankBy_51 (by decide) ?_
    refine g_cv (A := (fun _ => False)) X gWS_good mw_View_77 kc_View hv (c_View_countBefore l D q H vb mb og srt bk tn wk f0 t0 hv htn n ks vs chg hm hft ht0 b ys hys 0 (by decide)) (fun _ _ _ => trivial) gBlind.tt rfl rfl hl.1 (Nat.le_of_ble_eq_true rfl) rfl rfl ⟨by decide, by decide⟩ ⟨by decide, by decide⟩ d_View_rankBy_52 (fun _ h => h.elim) (fun _ h => by cases h) (fun v4 H5 locs hp6 hL => ?_)
    obtain ⟨rfl, hHe⟩ := hp6
    rw [hHe]
    refine lv_iconst (v := nI 1) X.1.1 X.1.2.1 d_View_rankBy_55 (by decide) ?_
    refine lv_isub X.1.1 X.1.2.1 d_View_rankBy_56 ?_
    exact g_iret X B ⟨⟨_, rfl, rfl⟩, rfl⟩ hL d_View_rankBy_57 (by omega) (by omega)
  · subst hs1
    refine lv_tableIn X.1.1 X.1.2.1 d_View_rankBy_1 (x := nI 2) (by decide) (by decide) rfl rfl ?_
    refine lv_aload_n X.1.1 X.1.2.1 d_View_rankBy_58 rfl (gl_at hl rfl) ?_
    refine lv_aload_n X.1.1 X.1.2.1 d_View_rankBy_59 rfl (gl_at hl rfl) ?_
    refine lv_iconst (v := nI 0) X.1.1 X.1.2.1 d_View_rankBy_60 (by decide) ?_
    refine g_cv (A := (fun _ => False)) X gWS_good mw_View_77 kc_View hv (c_View_countBefore l D q H vb mb og srt bk tn wk f0 t0 hv htn n ks vs chg hm hft ht0 b ys hys 0 (by decide)) (fun _ _ _ => trivial) gBlind.tt rfl rfl hl.1 (Nat.le_of_ble_eq_true rfl) rfl rfl ⟨by decide, by decide⟩ ⟨by decide, by decide⟩ d_View_rankBy_61 (fun _ h => h.elim) (fun _ h => by cases h) (fun v7 H8 locs hp9 hL => ?_)
    obtain ⟨rfl, hHe⟩ := hp9
    rw [hHe]
    exact g_iret X B ⟨⟨_, rfl, rfl⟩, rfl⟩ hL d_View_rankBy_64 (by omega) (by omega)
  · subst hs1
    refine lv_tableIn X.1.1 X.1.2.1 d_View_rankBy_1 (x := nI 3) (by decide) (by decide) rfl rfl ?_
    refine lv_aload_n X.1.1 X.1.2.1 d_View_rankBy_65 rfl (gl_at hl rfl) ?_
    refine lv_aload_n X.1.1 X.1.2.1 d_View_rankBy_66 rfl (gl_at hl rfl) ?_
    refine lv_iconst (v := nI 1) X.1.1 X.1.2.1 d_View_rankBy_67 (by decide) ?_
    refine g_cv (A := (fun _ => False)) X gWS_good mw_View_77 kc_View hv (c_View_countBefore l D q H vb mb og srt bk tn wk f0 t0 hv htn n ks vs chg hm hft ht0 b ys hys 1 (by decide)) (fun _ _ _ => trivial) gBlind.tt rfl rfl hl.1 (Nat.le_of_ble_eq_true rfl) rfl rfl ⟨by decide, by decide⟩ ⟨by decide, by decide⟩ d_View_rankBy_68 (fun _ h => h.elim) (fun _ h => by cases h) (fun v10 H11 locs hp12 hL => ?_)
    obtain ⟨rfl, hHe⟩ := hp12
    rw [hHe]
    exact g_iret X B ⟨⟨_, rfl, rfl⟩, rfl⟩ hL d_View_rankBy_71 (by omega) (by omega)
  · subst hs1
    refine lv_tableIn X.1.1 X.1.2.1 d_View_rankBy_1 (x := nI 4) (by decide) (by decide) rfl rfl ?_
    refine lv_iconst (v := nI 0) X.1.1 X.1.2.1 d_View_rankBy_72 (by decide) ?_
    exact g_iret X B ⟨⟨_, rfl, rfl⟩, rfl⟩ (fun _ h => by cases h) d_View_rankBy_73 (by omega) (by omega)
  · subst hs1
    refine lv_tableIn X.1.1 X.1.2.1 d_View_rankBy_1 (x := nI 5) (by decide) (by decide) rfl rfl ?_
    refine lv_aload_n X.1.1 X.1.2.1 d_View_rankBy_74 rfl (gl_at hl rfl) ?_
    refine g_cv (A := (fun _ => False)) X gWS_good mw_View_81 kc_View hv (c_View_count l D q H vb mb og srt bk tn wk f0 t0 hv hft) (fun _ _ _ => trivial) gBlind.tt rfl rfl hl.1 (Nat.le_of_ble_eq_true rfl) rfl rfl ⟨by decide, by decide⟩ ⟨by decide, by decide⟩ d_View_rankBy_75 (fun _ h => h.elim) (fun _ h => by cases h) (fun v13 H14 locs hp15 hL => ?_)
    obtain ⟨rfl, hHe⟩ := hp15
    rw [hHe]
    refine lv_iconst (v := nI 1) X.1.1 X.1.2.1 d_View_rankBy_78 (by decide) ?_
    refine lv_isub X.1.1 X.1.2.1 d_View_rankBy_79 ?_
    exact g_iret X B ⟨⟨_, rfl, rfl⟩, rfl⟩ hL d_View_rankBy_80 (by omega) (by omega)
  · refine lv_tableOut X.1.1 X.1.2.1 d_View_rankBy_1 (Or.inr (by rw [nI_toInt (by omega)]; omega)) rfl ?_
    have e6 : 6 = h := by omega
    subst e6
    refine lv_aload_n X.1.1 X.1.2.1 d_View_rankBy_81 rfl (gl_at hl rfl) ?_
    refine lv_aload_n X.1.1 X.1.2.1 d_View_rankBy_82 rfl (gl_at hl rfl) ?_
    refine g_cv (A := (fun _ => False)) X gWS_good mw_View_84 kc_View hv (c_View_rankOfLongestStart l D q H vb mb og srt bk tn wk f0 t0 hv htn n ks vs chg hm hft ht0 b ys hys) (fun _ _ _ => trivial) gBlind.tt rfl rfl hl.1 (Nat.le_of_ble_eq_true rfl) rfl rfl ⟨by decide, by decide⟩ ⟨by decide, by decide⟩ d_View_rankBy_83 (fun _ h => h.elim) (fun _ h => by cases h) (fun v16 H17 locs hp18 hL => ?_)
    obtain ⟨⟨w, rfl, hw⟩, hHe⟩ := hp18
    rw [hHe]
    exact g_iret X B ⟨⟨_, rfl, ⟨w, rfl, hw⟩⟩, rfl⟩ hL d_View_rankBy_86 (by omega) (by omega)

set_option maxHeartbeats 4000000 in
set_option maxRecDepth 100000 in
theorem c_View_placeOf (l : Launch) (D : va_G) (q : Nat → ClassId) (H : Heap) (v : Nat) (ad : Nat → Nat) (org : Nat → Option Nat) (srt bk : Nat → Nat) (bt : Nat → List Nat) (hV : vV D q H v ad org srt bk bt) (mb tn wk f0 t0 : Nat) (hv : va_at D CL (ad v, .inr (2, [.ref mb, va_rf ((org v).map ad), .int (nI (srt v)), .ref (bk v), .int (nI tn), .ref wk, .int (nI f0), .int (nI t0)])) H) (n : Nat) (ks : Nat → List Nat) (vs : Nat → Int32) (chg : Nat) (hm : mA D q H mb n ks vs chg) (hs : mS n ks) (b : Nat) (xs : List Nat) (hxs : kA D q H b xs) : gC l y_View_placeOf (Cond.code y_View_placeOf b_View_placeOf 2 (some .int) :: gWS) (gR 4 88 0 0) D CL (gY q) (fun _ => True) [.ref (ad v), .ref b] H (fun v1 H1 => (∃ w, v1 = some (.int (gm1 w)) ∧ (match w with | none => ¬ v_in org srt bt v xs = true ∨ ∀ j, j < n → ks j ≠ xs | some r => v_in org srt bt v xs = true ∧ r < n ∧ ks r = xs)) ∧ H1 = H) 0 0 (fun _ => False) := by
  refine gC.ofW R_View "placeOf" (by decide) rfl rfl ?_
  intro p e s m below meth c hadm X hE hH B hne
  refine g_entry [some (.ref (ad v)), some (.ref b)] rfl rfl (Nat.le_of_ble_eq_true rfl) (fun ls hl => ?_)
  have hm0 := hm
  obtain ⟨ho, hn, ⟨f, g, hf, hfg, hg, hgi, hks⟩, hvv⟩ := hm
  have hm := hm0
  refine lv_aload_n X.1.1 X.1.2.1 d_View_placeOf_0 rfl (gl_at hl rfl) ?_
  refine lv_aload_n X.1.1 X.1.2.1 d_View_placeOf_1 rfl (gl_at hl rfl) ?_
  refine g_cv (A := (fun _ => False)) X gWS_good mw_View_68 kc_View hv (c_View_admits l D q H v ad org srt bk bt hV b xs hxs) (fun _ _ _ => trivial) gBlind.tt rfl rfl hl.1 (Nat.le_of_ble_eq_true rfl) rfl rfl ⟨by decide, by decide⟩ ⟨by decide, by decide⟩ d_View_placeOf_2 (fun _ h => h.elim) (fun _ h => by cases h) (fun v1 H2 locs hp3 hL => ?_)
  obtain ⟨rfl, hHe⟩ := hp3
  rw [hHe]
  refine lv_if_eq X.1.1 X.1.2.1 d_View_placeOf_5 rfl (fun hc5 => ?_) (fun hc5 => ?_)
  · replace hc5 := gz_f hc5
    refine lv_iconst (v := (-1)) X.1.1 X.1.2.1 d_View_placeOf_19 (by decide) ?_
    exact g_iret X B ⟨⟨none, rfl, Or.inl hc5⟩, rfl⟩ hL d_View_placeOf_20 (by omega) (by omega)
  · replace hc5 := gz_t hc5
    refine lv_aload_n X.1.1 X.1.2.1 d_View_placeOf_8 rfl (gl_at hl rfl) ?_
    refine g_get X kc_View hv 0 (by decide) lk_View_9 rfl d_View_placeOf_9 ?_
    refine lv_aload_n X.1.1 X.1.2.1 d_View_placeOf_12 rfl (gl_at hl rfl) ?_
    refine g_cv (A := (fun _ => False)) X gWS_good mw_View_74 kc_KeyMap ho (c_KeyMap_placeOf l D q H mb n ks vs chg hm hs b xs hxs) (fun _ _ _ => trivial) gBlind.tt rfl rfl hl.1 (Nat.le_of_ble_eq_true rfl) rfl rfl ⟨by decide, by decide⟩ ⟨by decide, by decide⟩ d_View_placeOf_13 (fun _ h => h.elim) hL (fun v4 H5 locs hp6 hL => ?_)
    obtain ⟨hres, hHe⟩ := hp6
    rw [hHe]
    obtain ⟨w, rfl, hw⟩ : ∃ w, v4 = some (.int (gm1 w)) ∧ (match w with | none => ∀ j, j < n → ks j ≠ xs | some r => r < n ∧ ks r = xs) := by
      rcases hres with ⟨r, h1, h2, h3⟩ | ⟨h1, h2⟩
      · exact ⟨some r, h2, h1, h3⟩
      · exact ⟨none, h1, h2⟩
    refine lv_goto X.1.1 X.1.2.1 d_View_placeOf_16 rfl ?_
    exact g_iret X B ⟨⟨w, rfl, by cases w with
      | none => exact Or.inr hw
      | some r => exact ⟨hc5, hw⟩⟩, rfl⟩ hL d_View_placeOf_20 (by omega) (by omega)
