/-! the class EditedText: printed by wip/specs/edited.py -/
set_option maxHeartbeats 4000000 in
set_option maxRecDepth 100000 in
theorem c_EditedText_open (l : Launch) (D : va_G) (q : Nat → ClassId) (H : Heap) (tb : Nat) (xs : List Nat) (us : List (List Nat)) (so : Nat) (ht : txA D q H tb xs us so) (i : Nat) (hi : i ≤ xs.length) (b : Nat) (ys : List Nat) (hys : kA D q H b ys) (hb1 : b + 1 < tb ∨ tb + 7 < b) (hlen : xs.length + ys.length ≤ 120) : gC l y_EditedText_open (Cond.code y_EditedText_open b_EditedText_open 3 none :: gWS) (gR 2 40 0 0) D CL (gY q) (fun _ => True) [.ref tb, .int (nI i), .ref b] H (fun v H1 => v = none ∧ txA D q H1 tb (xs.take i ++ ys ++ xs.drop i) ((xs :: us).take 20) 0 ∧ H1.size = H.size ∧ ∀ p : Nat, ¬ (tb ≤ p ∧ p ≤ tb + 7) → H1[p]? = H[p]?) 0 0 (fun p => tb ≤ p ∧ p ≤ tb + 7) := by
  refine gC.ofW R_EditedText "open" (by decide) rfl rfl ?_
  intro p e s m below meth c hadm X hE hH B hne
  refine g_entry [some (.ref tb), some (.int (nI i)), some (.ref b)] rfl rfl (Nat.le_of_ble_eq_true rfl) (fun ls hl => ?_)
  obtain ⟨ho, ⟨f, hlt, hf⟩, ⟨hxl, hxc, hso⟩, hh, hsu, F, K, hF, hK, hsrt⟩ := ht
  obtain ⟨hb, ⟨fb, hlb, hfb⟩, hyl, hyc⟩ := hys
  refine lv_aload_n X.1.1 X.1.2.1 d_EditedText_open_0 rfl (gl_at hl rfl) ?_
  refine g_get X kc_EditedText ho 2 (by decide) lk_EditedText_18 rfl d_EditedText_open_1 ?_
  refine lv_aload_n X.1.1 X.1.2.1 d_EditedText_open_4 rfl (gl_at hl rfl) ?_
  refine g_get X kc_EditedText ho 0 (by decide) lk_EditedText_9 rfl d_EditedText_open_5 ?_
  refine lv_aload_n X.1.1 X.1.2.1 d_EditedText_open_8 rfl (gl_at hl rfl) ?_
  refine g_get X kc_EditedText ho 1 (by decide) lk_EditedText_29 rfl d_EditedText_open_9 ?_
  refine g_cv (A := (fun p => tb ≤ p ∧ p ≤ tb + 7)) X gWS_good mw_EditedText_33 kc_History (Classical.choose_spec (Classical.choose_spec (Classical.choose_spec hh))).1 (c_History_keep l D q H (tb + 2) us hh (tb + 1) f hlt (by omega) xs hxl hxc hf) (fun _ _ _ => trivial) gBlind.tt rfl rfl hl.1 (Nat.le_of_ble_eq_true rfl) rfl rfl ⟨by decide, by decide⟩ ⟨by decide, by decide⟩ d_EditedText_open_12 (fun p h => show _ ∧ _ by omega) (fun _ h => by cases h) (fun v1 H2 locs hp3 hL => ?_)
  obtain ⟨rfl, hh2, hz2, fr2⟩ := hp3
  replace ho := va_at.kept ho (fr2 _ (by omega))
  replace hlt := va_at.kept hlt (fr2 _ (by omega))
  replace hsu := va_at.kept hsu (fr2 _ (by omega))
  replace hF := va_at.kept hF (fr2 _ (by omega))
  replace hK := va_at.kept hK (fr2 _ (by omega))
  replace hb := va_at.kept hb (fr2 _ (by omega))
  replace hlb := va_at.kept hlb (fr2 _ (by omega))
  replace hh := hh2
  refine lv_aload_n X.1.1 X.1.2.1 d_EditedText_open_15 rfl (gl_at hl rfl) ?_
  refine g_get X kc_EditedText ho 0 (by decide) lk_EditedText_9 rfl d_EditedText_open_16 ?_
  refine lv_iload_n X.1.1 X.1.2.1 d_EditedText_open_19 rfl (gl_at hl rfl) ?_
  refine lv_aload_n X.1.1 X.1.2.1 d_EditedText_open_20 rfl (gl_at hl rfl) ?_
  refine g_get X kc_EditedText ho 0 (by decide) lk_EditedText_9 rfl d_EditedText_open_21 ?_
  refine lv_iload_n X.1.1 X.1.2.1 d_EditedText_open_24 rfl (gl_at hl rfl) ?_
  refine lv_aload_n X.1.1 X.1.2.1 d_EditedText_open_25 rfl (gl_at hl rfl) ?_
  refine g_get X kc_Key hb 1 (by decide) lk_EditedText_37 rfl d_EditedText_open_26 ?_
  refine lv_iadd X.1.1 X.1.2.1 d_EditedText_open_29 ?_
  refine g_top (nI (i + ys.length)) (nI_add _ _) ?_
  refine lv_aload_n X.1.1 X.1.2.1 d_EditedText_open_30 rfl (gl_at hl rfl) ?_
  refine g_get X kc_EditedText ho 1 (by decide) lk_EditedText_29 rfl d_EditedText_open_31 ?_
  refine lv_iload_n X.1.1 X.1.2.1 d_EditedText_open_34 rfl (gl_at hl rfl) ?_
  refine lv_isub X.1.1 X.1.2.1 d_EditedText_open_35 ?_
  refine g_top (nI (xs.length - i)) (pk_sub (by omega)) ?_
  refine g_copyi (A := (fun p => tb ≤ p ∧ p ≤ tb + 7)) X hl.1 mq_EditedText_40.1 mq_EditedText_40.2.1 mq_EditedText_40.2.2.1 mq_EditedText_40.2.2.2 0 hlt hlt rfl i (i + ys.length) (xs.length - i) (by omega) (by omega) (by decide) (by decide) (by decide) (by decide) d_EditedText_open_36 (show _ ∧ _ by omega) hL (fun H4 locs h5 z6 oq7 hL => ?_)
  replace ho := ho.kept (oq7 _ (by omega))
  replace hsu := hsu.kept (oq7 _ (by omega))
  replace hF := hF.kept (oq7 _ (by omega))
  replace hK := hK.kept (oq7 _ (by omega))
  replace hb := hb.kept (oq7 _ (by omega))
  replace hlb := hlb.kept (oq7 _ (by omega))
  replace hh := hh.kept (fun p h1 h2 => oq7 p (by omega))
  refine lv_aload_n X.1.1 X.1.2.1 d_EditedText_open_39 rfl (gl_at hl rfl) ?_
  refine g_get X kc_Key hb 0 (by decide) lk_EditedText_46 rfl d_EditedText_open_40 ?_
  refine lv_iconst (v := nI 0) X.1.1 X.1.2.1 d_EditedText_open_43 (by decide) ?_
  refine lv_aload_n X.1.1 X.1.2.1 d_EditedText_open_44 rfl (gl_at hl rfl) ?_
  refine g_get X kc_EditedText ho 0 (by decide) lk_EditedText_9 rfl d_EditedText_open_45 ?_
  refine lv_iload_n X.1.1 X.1.2.1 d_EditedText_open_48 rfl (gl_at hl rfl) ?_
  refine lv_aload_n X.1.1 X.1.2.1 d_EditedText_open_49 rfl (gl_at hl rfl) ?_
  refine g_get X kc_Key hb 1 (by decide) lk_EditedText_37 rfl d_EditedText_open_50 ?_
  refine g_copyi (A := (fun p => tb ≤ p ∧ p ≤ tb + 7)) X hl.1 mq_EditedText_40.1 mq_EditedText_40.2.1 mq_EditedText_40.2.2.1 mq_EditedText_40.2.2.2 0 hlb h5 rfl 0 i ys.length (by omega) (by omega) (by decide) (by decide) (by decide) (by decide) d_EditedText_open_53 (show _ ∧ _ by omega) hL (fun H8 locs h9 z10 oq11 hL => ?_)
  replace ho := ho.kept (oq11 _ (by omega))
  replace hsu := hsu.kept (oq11 _ (by omega))
  replace hF := hF.kept (oq11 _ (by omega))
  replace hK := hK.kept (oq11 _ (by omega))
  replace hb := hb.kept (oq11 _ (by omega))
  replace hlb := hlb.kept (oq11 _ (by omega))
  replace hh := hh.kept (fun p h1 h2 => oq11 p (by omega))
  refine lv_aload_n X.1.1 X.1.2.1 d_EditedText_open_56 rfl (gl_at hl rfl) ?_
  refine lv_dup X.1.1 X.1.2.1 d_EditedText_open_57 rfl ?_
  refine g_get X kc_EditedText ho 1 (by decide) lk_EditedText_29 rfl d_EditedText_open_58 ?_
  refine lv_aload_n X.1.1 X.1.2.1 d_EditedText_open_61 rfl (gl_at hl rfl) ?_
  refine g_get X kc_Key hb 1 (by decide) lk_EditedText_37 rfl d_EditedText_open_62 ?_
  refine lv_iadd X.1.1 X.1.2.1 d_EditedText_open_65 ?_
  refine g_top (nI (xs.length + ys.length)) (nI_add _ _) ?_
  refine g_put (A := (fun p => tb ≤ p ∧ p ≤ tb + 7)) X kc_EditedText ho 1 (by decide) lk_EditedText_29 rfl rfl rfl (Nat.le_of_ble_eq_true rfl) d_EditedText_open_66 (show _ ∧ _ by omega) hL (fun H12 locs h13 z14 oq15 hL => ?_)
  replace h9 := h9.kept (oq15 _ (by omega))
  replace hsu := hsu.kept (oq15 _ (by omega))
  replace hF := hF.kept (oq15 _ (by omega))
  replace hK := hK.kept (oq15 _ (by omega))
  replace hb := hb.kept (oq15 _ (by omega))
  replace hlb := hlb.kept (oq15 _ (by omega))
  replace hh := hh.kept (fun p h1 h2 => oq15 p (by omega))
  refine lv_aload_n X.1.1 X.1.2.1 d_EditedText_open_69 rfl (gl_at hl rfl) ?_
  refine lv_iconst (v := nI 0) X.1.1 X.1.2.1 d_EditedText_open_70 (by decide) ?_
  refine g_put (A := (fun p => tb ≤ p ∧ p ≤ tb + 7)) X kc_EditedText h13 4 (by decide) lk_EditedText_47 rfl rfl rfl (Nat.le_of_ble_eq_true rfl) d_EditedText_open_71 (show _ ∧ _ by omega) hL (fun H16 locs h17 z18 oq19 hL => ?_)
  replace h9 := h9.kept (oq19 _ (by omega))
  replace hsu := hsu.kept (oq19 _ (by omega))
  replace hF := hF.kept (oq19 _ (by omega))
  replace hK := hK.kept (oq19 _ (by omega))
  replace hb := hb.kept (oq19 _ (by omega))
  replace hlb := hlb.kept (oq19 _ (by omega))
  replace hh := hh.kept (fun p h1 h2 => oq19 p (by omega))
  exact g_vret X B ⟨rfl, ⟨by rw [t_ins_len hi]; exact h17, ⟨_, h9, tX_ins hf hfb hi⟩, ⟨by rw [t_ins_len hi]; exact hlen, t_ins_c hxc hyc, by omega⟩, hh, hsu, F, K, hF, hK, fun h => absurd rfl h⟩, (z18.trans (z14.trans (z10.trans (z6.trans hz2)))), fun p hp => ((oq19 p (by omega)).trans ((oq15 p (by omega)).trans ((oq11 p (by omega)).trans ((oq7 p (by omega)).trans (fr2 p (by omega))))))⟩ hL d_EditedText_open_74 (by omega) (by omega)

set_option maxHeartbeats 4000000 in
set_option maxRecDepth 100000 in
theorem c_EditedText_close (l : Launch) (D : va_G) (q : Nat → ClassId) (H : Heap) (tb : Nat) (xs : List Nat) (us : List (List Nat)) (so : Nat) (ht : txA D q H tb xs us so) (i k : Nat) (hi : i ≤ k) (hk : k ≤ xs.length) : gC l y_EditedText_close (Cond.code y_EditedText_close b_EditedText_close 3 none :: gWS) (gR 2 40 0 0) D CL (gY q) (fun _ => True) [.ref tb, .int (nI i), .int (nI k)] H (fun v H1 => v = none ∧ txA D q H1 tb (xs.take i ++ xs.drop k) ((xs :: us).take 20) 0 ∧ H1.size = H.size ∧ ∀ p : Nat, ¬ (tb ≤ p ∧ p ≤ tb + 7) → H1[p]? = H[p]?) 0 0 (fun p => tb ≤ p ∧ p ≤ tb + 7) := by
  refine gC.ofW R_EditedText "close" (by decide) rfl rfl ?_
  intro p e s m below meth c hadm X hE hH B hne
  refine g_entry [some (.ref tb), some (.int (nI i)), some (.int (nI k))] rfl rfl (Nat.le_of_ble_eq_true rfl) (fun ls hl => ?_)
  obtain ⟨ho, ⟨f, hlt, hf⟩, ⟨hxl, hxc, hso⟩, hh, hsu, F, K, hF, hK, hsrt⟩ := ht
  refine lv_aload_n X.1.1 X.1.2.1 d_EditedText_close_0 rfl (gl_at hl rfl) ?_
  refine g_get X kc_EditedText ho 2 (by decide) lk_EditedText_18 rfl d_EditedText_close_1 ?_
  refine lv_aload_n X.1.1 X.1.2.1 d_EditedText_close_4 rfl (gl_at hl rfl) ?_
  refine g_get X kc_EditedText ho 0 (by decide) lk_EditedText_9 rfl d_EditedText_close_5 ?_
  refine lv_aload_n X.1.1 X.1.2.1 d_EditedText_close_8 rfl (gl_at hl rfl) ?_
  refine g_get X kc_EditedText ho 1 (by decide) lk_EditedText_29 rfl d_EditedText_close_9 ?_
  refine g_cv (A := (fun p => tb ≤ p ∧ p ≤ tb + 7)) X gWS_good mw_EditedText_33 kc_History (Classical.choose_spec (Classical.choose_spec (Classical.choose_spec hh))).1 (c_History_keep l D q H (tb + 2) us hh (tb + 1) f hlt (by omega) xs hxl hxc hf) (fun _ _ _ => trivial) gBlind.tt rfl rfl hl.1 (Nat.le_of_ble_eq_true rfl) rfl rfl ⟨by decide, by decide⟩ ⟨by decide, by decide⟩ d_EditedText_close_12 (fun p h => show _ ∧ _ by omega) (fun _ h => by cases h) (fun v1 H2 locs hp3 hL => ?_)
  obtain ⟨rfl, hh2, hz2, fr2⟩ := hp3
  replace ho := va_at.kept ho (fr2 _ (by omega))
  replace hlt := va_at.kept hlt (fr2 _ (by omega))
  replace hsu := va_at.kept hsu (fr2 _ (by omega))
  replace hF := va_at.kept hF (fr2 _ (by omega))
  replace hK := va_at.kept hK (fr2 _ (by omega))
  replace hh := hh2
  refine lv_aload_n X.1.1 X.1.2.1 d_EditedText_close_15 rfl (gl_at hl rfl) ?_
  refine g_get X kc_EditedText ho 0 (by decide) lk_EditedText_9 rfl d_EditedText_close_16 ?_
  refine lv_iload_n X.1.1 X.1.2.1 d_EditedText_close_19 rfl (gl_at hl rfl) ?_
  refine lv_aload_n X.1.1 X.1.2.1 d_EditedText_close_20 rfl (gl_at hl rfl) ?_
  refine g_get X kc_EditedText ho 0 (by decide) lk_EditedText_9 rfl d_EditedText_close_21 ?_
  refine lv_iload_n X.1.1 X.1.2.1 d_EditedText_close_24 rfl (gl_at hl rfl) ?_
  refine lv_aload_n X.1.1 X.1.2.1 d_EditedText_close_25 rfl (gl_at hl rfl) ?_
  refine g_get X kc_EditedText ho 1 (by decide) lk_EditedText_29 rfl d_EditedText_close_26 ?_
  refine lv_iload_n X.1.1 X.1.2.1 d_EditedText_close_29 rfl (gl_at hl rfl) ?_
  refine lv_isub X.1.1 X.1.2.1 d_EditedText_close_30 ?_
  refine g_top (nI (xs.length - k)) (pk_sub (by omega)) ?_
  refine g_copyi (A := (fun p => tb ≤ p ∧ p ≤ tb + 7)) X hl.1 mq_EditedText_40.1 mq_EditedText_40.2.1 mq_EditedText_40.2.2.1 mq_EditedText_40.2.2.2 0 hlt hlt rfl k i (xs.length - k) (by omega) (by omega) (by decide) (by decide) (by decide) (by decide) d_EditedText_close_31 (show _ ∧ _ by omega) hL (fun H4 locs h5 z6 oq7 hL => ?_)
  replace ho := ho.kept (oq7 _ (by omega))
  replace hsu := hsu.kept (oq7 _ (by omega))
  replace hF := hF.kept (oq7 _ (by omega))
  replace hK := hK.kept (oq7 _ (by omega))
  replace hh := hh.kept (fun p h1 h2 => oq7 p (by omega))
  refine lv_aload_n X.1.1 X.1.2.1 d_EditedText_close_34 rfl (gl_at hl rfl) ?_
  refine lv_dup X.1.1 X.1.2.1 d_EditedText_close_35 rfl ?_
  refine g_get X kc_EditedText ho 1 (by decide) lk_EditedText_29 rfl d_EditedText_close_36 ?_
  refine lv_iload_n X.1.1 X.1.2.1 d_EditedText_close_39 rfl (gl_at hl rfl) ?_
  refine lv_iload_n X.1.1 X.1.2.1 d_EditedText_close_40 rfl (gl_at hl rfl) ?_
  refine lv_isub X.1.1 X.1.2.1 d_EditedText_close_41 ?_
  refine g_top (nI (k - i)) (pk_sub (by omega)) ?_
  refine lv_isub X.1.1 X.1.2.1 d_EditedText_close_42 ?_
  refine g_top (nI (xs.length - (k - i))) (pk_sub (by omega)) ?_
  refine g_put (A := (fun p => tb ≤ p ∧ p ≤ tb + 7)) X kc_EditedText ho 1 (by decide) lk_EditedText_29 rfl rfl rfl (Nat.le_of_ble_eq_true rfl) d_EditedText_close_43 (show _ ∧ _ by omega) hL (fun H8 locs h9 z10 oq11 hL => ?_)
  replace h5 := h5.kept (oq11 _ (by omega))
  replace hsu := hsu.kept (oq11 _ (by omega))
  replace hF := hF.kept (oq11 _ (by omega))
  replace hK := hK.kept (oq11 _ (by omega))
  replace hh := hh.kept (fun p h1 h2 => oq11 p (by omega))
  refine lv_aload_n X.1.1 X.1.2.1 d_EditedText_close_46 rfl (gl_at hl rfl) ?_
  refine lv_iconst (v := nI 0) X.1.1 X.1.2.1 d_EditedText_close_47 (by decide) ?_
  refine g_put (A := (fun p => tb ≤ p ∧ p ≤ tb + 7)) X kc_EditedText h9 4 (by decide) lk_EditedText_47 rfl rfl rfl (Nat.le_of_ble_eq_true rfl) d_EditedText_close_48 (show _ ∧ _ by omega) hL (fun H12 locs h13 z14 oq15 hL => ?_)
  replace h5 := h5.kept (oq15 _ (by omega))
  replace hsu := hsu.kept (oq15 _ (by omega))
  replace hF := hF.kept (oq15 _ (by omega))
  replace hK := hK.kept (oq15 _ (by omega))
  replace hh := hh.kept (fun p h1 h2 => oq15 p (by omega))
  exact g_vret X B ⟨rfl, ⟨by rw [t_del_len hi hk]; exact h13, ⟨_, h5, tX_del hf hi hk⟩, ⟨by rw [t_del_len hi hk]; omega, t_del_c hxc, by omega⟩, hh, hsu, F, K, hF, hK, fun h => absurd rfl h⟩, (z14.trans (z10.trans (z6.trans hz2))), fun p hp => ((oq15 p (by omega)).trans ((oq11 p (by omega)).trans ((oq7 p (by omega)).trans (fr2 p (by omega)))))⟩ hL d_EditedText_close_51 (by omega) (by omega)

set_option maxHeartbeats 4000000 in
set_option maxRecDepth 100000 in
theorem c_EditedText_takeBack0 (l : Launch) (D : va_G) (q : Nat → ClassId) (H : Heap) (tb : Nat) (xs : List Nat) (so : Nat) (ht : txA D q H tb xs [] so) : gC l y_EditedText_takeBack (Cond.code y_EditedText_takeBack b_EditedText_takeBack 1 (some .boolean) :: gWS) (gR 2 40 0 0) D CL (gY q) (fun _ => True) [.ref tb] H (fun v H1 => v = some (.int (nI 0)) ∧ H1 = H) 0 0 (fun _ => False) := by
  refine gC.ofW R_EditedText "takeBack" (by decide) rfl rfl ?_
  intro p e s m below meth c hadm X hE hH B hne
  refine g_entry [some (.ref tb)] rfl rfl (Nat.le_of_ble_eq_true rfl) (fun ls hl => ?_)
  obtain ⟨ho, ⟨f, hlt, hf⟩, ⟨hxl, hxc, hso⟩, hh, hsu, F, K, hF, hK, hsrt⟩ := ht
  have hh0 := hh
  obtain ⟨nw, hq, ln, hho, hhr⟩ := hh0
  have hus1 : 0 ≤ 20 := hhr.2.2.2.1
  refine lv_aload_n X.1.1 X.1.2.1 d_EditedText_takeBack_0 rfl (gl_at hl rfl) ?_
  refine g_get X kc_EditedText ho 2 (by decide) lk_EditedText_18 rfl d_EditedText_takeBack_1 ?_
  refine g_get X kc_History hho 3 (by decide) lk_EditedText_51 rfl d_EditedText_takeBack_4 ?_
  refine gn_ne0 X.1.1 X.1.2.1 0 (by omega) d_EditedText_takeBack_7 rfl (fun hc7 => ?_) (fun hc7 => ?_)
  · exact absurd rfl hc7
  · refine lv_iconst (v := nI 0) X.1.1 X.1.2.1 d_EditedText_takeBack_10 (by decide) ?_
    exact g_zret X B (by decide) ⟨rfl, rfl⟩ (fun _ h => by cases h) d_EditedText_takeBack_11 (by omega) (by omega)

set_option maxHeartbeats 4000000 in
set_option maxRecDepth 100000 in
theorem c_EditedText_takeBack (l : Launch) (D : va_G) (q : Nat → ClassId) (H : Heap) (tb : Nat) (xs : List Nat) (u : List Nat) (us : List (List Nat)) (so : Nat) (ht : txA D q H tb xs (u :: us) so) : gC l y_EditedText_takeBack (Cond.code y_EditedText_takeBack b_EditedText_takeBack 1 (some .boolean) :: gWS) (gR 2 40 0 0) D CL (gY q) (fun _ => True) [.ref tb] H (fun v H1 => v = some (.int (nI 1)) ∧ txA D q H1 tb u us 0 ∧ H1.size = H.size ∧ ∀ p : Nat, ¬ (tb ≤ p ∧ p ≤ tb + 7) → H1[p]? = H[p]?) 0 0 (fun p => tb ≤ p ∧ p ≤ tb + 7) := by
  refine gC.ofW R_EditedText "takeBack" (by decide) rfl rfl ?_
  intro p e s m below meth c hadm X hE hH B hne
  refine g_entry [some (.ref tb)] rfl rfl (Nat.le_of_ble_eq_true rfl) (fun ls hl => ?_)
  obtain ⟨ho, ⟨f, hlt, hf⟩, ⟨hxl, hxc, hso⟩, hh, hsu, F, K, hF, hK, hsrt⟩ := ht
  have hh0 := hh
  obtain ⟨nw, hq, ln, hho, hhr⟩ := hh0
  have hus1 : us.length + 1 ≤ 20 := hhr.2.2.2.1
  refine lv_aload_n X.1.1 X.1.2.1 d_EditedText_takeBack_0 rfl (gl_at hl rfl) ?_
  refine g_get X kc_EditedText ho 2 (by decide) lk_EditedText_18 rfl d_EditedText_takeBack_1 ?_
  refine g_get X kc_History hho 3 (by decide) lk_EditedText_51 rfl d_EditedText_takeBack_4 ?_
  refine gn_ne0 X.1.1 X.1.2.1 (us.length + 1) (by omega) d_EditedText_takeBack_7 rfl (fun hc7 => ?_) (fun hc7 => ?_)
  · have hlen9 := hhr.2.2.2.1
    refine lv_aload_n X.1.1 X.1.2.1 d_EditedText_takeBack_12 rfl (gl_at hl rfl) ?_
    refine lv_aload_n X.1.1 X.1.2.1 d_EditedText_takeBack_13 rfl (gl_at hl rfl) ?_
    refine g_get X kc_EditedText ho 2 (by decide) lk_EditedText_18 rfl d_EditedText_takeBack_14 ?_
    refine lv_aload_n X.1.1 X.1.2.1 d_EditedText_takeBack_17 rfl (gl_at hl rfl) ?_
    refine g_get X kc_EditedText ho 0 (by decide) lk_EditedText_9 rfl d_EditedText_takeBack_18 ?_
    refine g_cv (A := (fun p => tb ≤ p ∧ p ≤ tb + 7)) X gWS_good mw_EditedText_54 kc_History (Classical.choose_spec (Classical.choose_spec (Classical.choose_spec hh))).1 (c_History_giveBack l D q H (tb + 2) u us hh (tb + 1) f hlt (by omega)) (fun _ _ _ => trivial) gBlind.tt rfl rfl hl.1 (Nat.le_of_ble_eq_true rfl) rfl rfl ⟨by decide, by decide⟩ ⟨by decide, by decide⟩ d_EditedText_takeBack_21 (fun p h => show _ ∧ _ by omega) (fun _ h => by cases h) (fun v1 H2 locs hp3 hL => ?_)
    obtain ⟨rfl, hul, huc, ⟨f1, hlt1, hf1⟩, hh2, hz2, fr2⟩ := hp3
    replace ho := va_at.kept ho (fr2 _ (by omega))
    replace hsu := va_at.kept hsu (fr2 _ (by omega))
    replace hF := va_at.kept hF (fr2 _ (by omega))
    replace hK := va_at.kept hK (fr2 _ (by omega))
    replace hh := hh2
    have hlt := hlt1
    refine g_put (A := (fun p => tb ≤ p ∧ p ≤ tb + 7)) X kc_EditedText ho 1 (by decide) lk_EditedText_29 rfl rfl rfl (Nat.le_of_ble_eq_true rfl) d_EditedText_takeBack_24 (show _ ∧ _ by omega) hL (fun H4 locs h5 z6 oq7 hL => ?_)
    replace hlt := hlt.kept (oq7 _ (by omega))
    replace hsu := hsu.kept (oq7 _ (by omega))
    replace hF := hF.kept (oq7 _ (by omega))
    replace hK := hK.kept (oq7 _ (by omega))
    replace hh := hh.kept (fun p h1 h2 => oq7 p (by omega))
    refine lv_aload_n X.1.1 X.1.2.1 d_EditedText_takeBack_27 rfl (gl_at hl rfl) ?_
    refine lv_iconst (v := nI 0) X.1.1 X.1.2.1 d_EditedText_takeBack_28 (by decide) ?_
    refine g_put (A := (fun p => tb ≤ p ∧ p ≤ tb + 7)) X kc_EditedText h5 4 (by decide) lk_EditedText_47 rfl rfl rfl (Nat.le_of_ble_eq_true rfl) d_EditedText_takeBack_29 (show _ ∧ _ by omega) hL (fun H8 locs h9 z10 oq11 hL => ?_)
    replace hlt := hlt.kept (oq11 _ (by omega))
    replace hsu := hsu.kept (oq11 _ (by omega))
    replace hF := hF.kept (oq11 _ (by omega))
    replace hK := hK.kept (oq11 _ (by omega))
    replace hh := hh.kept (fun p h1 h2 => oq11 p (by omega))
    refine lv_iconst (v := nI 1) X.1.1 X.1.2.1 d_EditedText_takeBack_32 (by decide) ?_
    exact g_zret X B (by decide) ⟨rfl, ⟨h9, ⟨f1, hlt, hf1⟩, ⟨hul, huc, by omega⟩, hh, hsu, F, K, hF, hK, fun h => absurd rfl h⟩, (z10.trans (z6.trans hz2)), fun p hp => ((oq11 p (by omega)).trans ((oq7 p (by omega)).trans (fr2 p (by omega))))⟩ hL d_EditedText_takeBack_33 (by omega) (by omega)
  · omega

set_option maxHeartbeats 4000000 in
set_option maxRecDepth 100000 in
theorem c_EditedText_hash (l : Launch) (D : va_G) (q : Nat → ClassId) (H : Heap) (tb : Nat) (xs : List Nat) (us : List (List Nat)) (so : Nat) (ht : txA D q H tb xs us so) : gC l y_EditedText_hash (Cond.code y_EditedText_hash b_EditedText_hash 3 (some .int) :: gWS) (gR 0 0 0 0) D CL (gY q) (fun _ => True) [.ref tb] H (fun v H1 => v = some (.int (t_hash xs xs.length)) ∧ H1 = H) 0 0 (fun _ => False) := by
  refine gC.ofW R_EditedText "hash" (by decide) rfl rfl ?_
  intro p e s m below meth c hadm X hE hH B hne
  refine g_entry [some (.ref tb), none, none] rfl rfl (Nat.le_of_ble_eq_true rfl) (fun ls hl => ?_)
  obtain ⟨ho, ⟨f, hlt, hf⟩, ⟨hxl, hxc, hso⟩, hh, hsu, F, K, hF, hK, hsrt⟩ := ht
  refine lv_iconst (v := nI 0) X.1.1 X.1.2.1 d_EditedText_hash_0 (by decide) ?_
  refine g_istn X.1.1 X.1.2.1 hl 1 d_EditedText_hash_1 rfl (Nat.le_of_ble_eq_true rfl) rfl (fun ls hl => ?_)
  refine lv_iconst (v := nI 0) X.1.1 X.1.2.1 d_EditedText_hash_2 (by decide) ?_
  refine g_istn X.1.1 X.1.2.1 hl 2 d_EditedText_hash_3 rfl (Nat.le_of_ble_eq_true rfl) rfl (fun ls hl => ?_)
  have loop4 : ∀ (fu : Nat) (i : Nat) (k : Int32) (ls : Array Slot), xs.length - i < fu → (i ≤ xs.length) → (k = t_hash xs i) →  gl ls [some (.ref tb), some (.int k), some (.int (nI i))] → W p l e (gR 0 0 0 0) s m ([.ref tb] : List Value).toArray below meth c H [] 0 0 (gQ below ([.ref tb] : List Value).toArray s (fun v H1 => v = some (.int (t_hash xs xs.length)) ∧ H1 = H) 0 0 (fun _ => False)) (F0 m 4 ls []) := by
    intro fu
    induction fu with
    | zero => intro i k ls hmu; omega
    | succ fu ih4 =>
      intro i k ls hmu4 hi4_0 hi4_1 hl
      refine lv_iload_n X.1.1 X.1.2.1 d_EditedText_hash_4 rfl (gl_at hl rfl) ?_
      refine lv_aload_n X.1.1 X.1.2.1 d_EditedText_hash_5 rfl (gl_at hl rfl) ?_
      refine g_get X kc_EditedText ho 1 (by decide) lk_EditedText_29 rfl d_EditedText_hash_6 ?_
      refine gn_ge X.1.1 X.1.2.1 i xs.length (by omega) (by omega) d_EditedText_hash_9 rfl (fun hc9 => ?_) (fun hc9 => ?_)
      · have e9 : i = xs.length := by omega
        refine lv_iload_n X.1.1 X.1.2.1 d_EditedText_hash_30 rfl (gl_at hl rfl) ?_
        exact g_iret X B ⟨by rw [hi4_1, e9], rfl⟩ (fun _ h => by cases h) d_EditedText_hash_31 (by omega) (by omega)
      · refine lv_bipush (v := nI 31) X.1.1 X.1.2.1 d_EditedText_hash_12 (by decide) ?_
        refine lv_iload_n X.1.1 X.1.2.1 d_EditedText_hash_14 rfl (gl_at hl rfl) ?_
        refine lv_imul X.1.1 X.1.2.1 d_EditedText_hash_15 ?_
        refine lv_aload_n X.1.1 X.1.2.1 d_EditedText_hash_16 rfl (gl_at hl rfl) ?_
        refine g_get X kc_EditedText ho 0 (by decide) lk_EditedText_9 rfl d_EditedText_hash_17 ?_
        refine lv_iload_n X.1.1 X.1.2.1 d_EditedText_hash_20 rfl (gl_at hl rfl) ?_
        refine g_iald X 0 hlt rfl i (by omega) (by decide) d_EditedText_hash_21 ?_
        refine g_top (nI (xs.getD i 0)) (hf i (by omega)) ?_
        refine lv_iadd X.1.1 X.1.2.1 d_EditedText_hash_22 ?_
        refine g_istn X.1.1 X.1.2.1 hl 1 d_EditedText_hash_23 rfl (Nat.le_of_ble_eq_true rfl) rfl (fun ls hl => ?_)
        refine g_iinc X.1.1 X.1.2.1 (nI (i + 1)) hl 2 d_EditedText_hash_24 rfl (nI_1 _) rfl (fun ls hl => ?_)
        refine lv_goto X.1.1 X.1.2.1 d_EditedText_hash_27 rfl ?_
        exact ih4 (i + 1) (((nI 31) * k) + (nI (xs.getD i 0))) ls (by omega) (by omega) (by rw [hi4_1]; rfl) hl
  exact loop4 _ 0 (nI 0) ls (Nat.lt_succ_self _) (Nat.zero_le _) rfl hl

set_option maxHeartbeats 4000000 in
set_option maxRecDepth 100000 in
theorem c_EditedText_standsAt (l : Launch) (D : va_G) (q : Nat → ClassId) (H : Heap) (tb : Nat) (xs : List Nat) (us : List (List Nat)) (so : Nat) (ht : txA D q H tb xs us so) (b : Nat) (ys : List Nat) (hys : kA D q H b ys) (pl : Nat) (hpl : pl ≤ xs.length) : gC l y_EditedText_standsAt (Cond.code y_EditedText_standsAt b_EditedText_standsAt 4 (some .boolean) :: gWS) (gR 0 0 0 0) D CL (gY q) (fun _ => True) [.ref tb, .int (nI pl), .ref b] H (fun v H1 => v = some (.int (nI (if t_at xs ys pl then 1 else 0))) ∧ H1 = H) 0 0 (fun _ => False) := by
  refine gC.ofW R_EditedText "standsAt" (by decide) rfl rfl ?_
  intro p e s m below meth c hadm X hE hH B hne
  refine g_entry [some (.ref tb), some (.int (nI pl)), some (.ref b), none] rfl rfl (Nat.le_of_ble_eq_true rfl) (fun ls hl => ?_)
  obtain ⟨ho, ⟨f, hlt, hf⟩, ⟨hxl, hxc, hso⟩, hh, hsu, F, K, hF, hK, hsrt⟩ := ht
  obtain ⟨hb, ⟨fb, hlb, hfb⟩, hyl, hyc⟩ := hys
  refine lv_aload_n X.1.1 X.1.2.1 d_EditedText_standsAt_0 rfl (gl_at hl rfl) ?_
  refine g_get X kc_Key hb 1 (by decide) lk_EditedText_37 rfl d_EditedText_standsAt_1 ?_
  refine lv_aload_n X.1.1 X.1.2.1 d_EditedText_standsAt_4 rfl (gl_at hl rfl) ?_
  refine g_get X kc_EditedText ho 1 (by decide) lk_EditedText_29 rfl d_EditedText_standsAt_5 ?_
  refine lv_iload_n X.1.1 X.1.2.1 d_EditedText_standsAt_8 rfl (gl_at hl rfl) ?_
  refine lv_isub X.1.1 X.1.2.1 d_EditedText_standsAt_9 ?_
  refine g_top (nI (xs.length - pl)) (pk_sub (by omega)) ?_
  refine gn_le X.1.1 X.1.2.1 ys.length (xs.length - pl) (by omega) (by omega) d_EditedText_standsAt_10 rfl (fun hc10 => ?_) (fun hc10 => ?_)
  · refine lv_iconst (v := nI 0) X.1.1 X.1.2.1 d_EditedText_standsAt_15 (by decide) ?_
    refine g_istn X.1.1 X.1.2.1 hl 3 d_EditedText_standsAt_16 rfl (Nat.le_of_ble_eq_true rfl) rfl (fun ls hl => ?_)
    have loop17 : ∀ (fu : Nat) (i : Nat) (ls : Array Slot), ys.length - i < fu → (i ≤ ys.length) → (∀ j, j < i → xs.getD (pl + j) 0 = ys.getD j 0) →  gl ls [some (.ref tb), some (.int (nI pl)), some (.ref b), some (.int (nI i))] → W p l e (gR 0 0 0 0) s m ([.ref tb, .int (nI pl), .ref b] : List Value).toArray below meth c H [] 0 0 (gQ below ([.ref tb, .int (nI pl), .ref b] : List Value).toArray s (fun v H1 => v = some (.int (nI (if t_at xs ys pl then 1 else 0))) ∧ H1 = H) 0 0 (fun _ => False)) (F0 m 17 ls []) := by
      intro fu
      induction fu with
      | zero => intro i ls hmu; omega
      | succ fu ih17 =>
        intro i ls hmu17 hi17_0 hi17_1 hl
        refine lv_iload_n X.1.1 X.1.2.1 d_EditedText_standsAt_17 rfl (gl_at hl rfl) ?_
        refine lv_aload_n X.1.1 X.1.2.1 d_EditedText_standsAt_18 rfl (gl_at hl rfl) ?_
        refine g_get X kc_Key hb 1 (by decide) lk_EditedText_37 rfl d_EditedText_standsAt_19 ?_
        refine gn_ge X.1.1 X.1.2.1 i ys.length (by omega) (by omega) d_EditedText_standsAt_22 rfl (fun hc22 => ?_) (fun hc22 => ?_)
        · refine lv_iconst (v := nI 1) X.1.1 X.1.2.1 d_EditedText_standsAt_50 (by decide) ?_
          exact g_zret X B (by decide) ⟨by rw [if_pos (t_at_all hc10 (fun j hj => hi17_1 j (by omega)))], rfl⟩ (fun _ h => by cases h) d_EditedText_standsAt_51 (by omega) (by omega)
        · refine lv_aload_n X.1.1 X.1.2.1 d_EditedText_standsAt_25 rfl (gl_at hl rfl) ?_
          refine g_get X kc_EditedText ho 0 (by decide) lk_EditedText_9 rfl d_EditedText_standsAt_26 ?_
          refine lv_iload_n X.1.1 X.1.2.1 d_EditedText_standsAt_29 rfl (gl_at hl rfl) ?_
          refine lv_iload_n X.1.1 X.1.2.1 d_EditedText_standsAt_30 rfl (gl_at hl rfl) ?_
          refine lv_iadd X.1.1 X.1.2.1 d_EditedText_standsAt_31 ?_
          refine g_top (nI (pl + i)) (nI_add _ _) ?_
          refine g_iald X 0 hlt rfl (pl + i) (by omega) (by decide) d_EditedText_standsAt_32 ?_
          have e1 := t_lt hxc (pl + i)
          refine g_top (nI (xs.getD (pl + i) 0)) (hf _ (by omega)) ?_
          refine lv_aload_n X.1.1 X.1.2.1 d_EditedText_standsAt_33 rfl (gl_at hl rfl) ?_
          refine g_get X kc_Key hb 0 (by decide) lk_EditedText_46 rfl d_EditedText_standsAt_34 ?_
          refine lv_iload_n X.1.1 X.1.2.1 d_EditedText_standsAt_37 rfl (gl_at hl rfl) ?_
          refine g_iald X 0 hlb rfl i (by omega) (by decide) d_EditedText_standsAt_38 ?_
          have e2 := t_lt hyc i
          refine g_top (nI (ys.getD i 0)) (hfb i (by omega)) ?_
          refine gn_eq X.1.1 X.1.2.1 (xs.getD (pl + i) 0) (ys.getD i 0) (by omega) (by omega) d_EditedText_standsAt_39 rfl (fun hc39 => ?_) (fun hc39 => ?_)
          · refine g_iinc X.1.1 X.1.2.1 (nI (i + 1)) hl 3 d_EditedText_standsAt_44 rfl (nI_1 _) rfl (fun ls hl => ?_)
            refine lv_goto X.1.1 X.1.2.1 d_EditedText_standsAt_47 rfl ?_
            exact ih17 (i + 1) ls (by omega) (by omega) (lt_s hi17_1 hc39) hl
          · refine lv_iconst (v := nI 0) X.1.1 X.1.2.1 d_EditedText_standsAt_42 (by decide) ?_
            exact g_zret X B (by decide) ⟨by rw [if_neg (t_at_ne (by omega) hc39)], rfl⟩ (fun _ h => by cases h) d_EditedText_standsAt_43 (by omega) (by omega)
    exact loop17 _ 0 ls (Nat.lt_succ_self _) (Nat.zero_le _) (fun j hj => absurd hj (Nat.not_lt_zero j)) hl
  · refine lv_iconst (v := nI 0) X.1.1 X.1.2.1 d_EditedText_standsAt_13 (by decide) ?_
    exact g_zret X B (by decide) ⟨by rw [if_neg (t_at_long hc10)], rfl⟩ (fun _ h => by cases h) d_EditedText_standsAt_14 (by omega) (by omega)

set_option maxHeartbeats 4000000 in
set_option maxRecDepth 100000 in
theorem c_EditedText_countPlaces (l : Launch) (D : va_G) (q : Nat → ClassId) (H : Heap) (tb : Nat) (xs : List Nat) (us : List (List Nat)) (so : Nat) (ht : txA D q H tb xs us so) (b : Nat) (ys : List Nat) (hys : kA D q H b ys) : gC l y_EditedText_countPlaces (Cond.code y_EditedText_countPlaces b_EditedText_countPlaces 4 (some .int) :: gWS) (gR 1 23 0 0) D CL (gY q) (fun _ => True) [.ref tb, .ref b] H (fun v H1 => v = some (.int (nI (v_cnt (fun p => decide (t_at xs ys p)) 0 xs.length))) ∧ H1 = H) 0 0 (fun _ => False) := by
  refine gC.ofW R_EditedText "countPlaces" (by decide) rfl rfl ?_
  intro p e s m below meth c hadm X hE hH B hne
  refine g_entry [some (.ref tb), some (.ref b), none, none] rfl rfl (Nat.le_of_ble_eq_true rfl) (fun ls hl => ?_)
  have ht0 := ht
  obtain ⟨ho, ⟨f, hlt, hf⟩, ⟨hxl, hxc, hso⟩, hh, hsu, F, K, hF, hK, hsrt⟩ := ht
  have ht := ht0
  refine lv_iconst (v := nI 0) X.1.1 X.1.2.1 d_EditedText_countPlaces_0 (by decide) ?_
  refine g_istn X.1.1 X.1.2.1 hl 2 d_EditedText_countPlaces_1 rfl (Nat.le_of_ble_eq_true rfl) rfl (fun ls hl => ?_)
  refine lv_iconst (v := nI 0) X.1.1 X.1.2.1 d_EditedText_countPlaces_2 (by decide) ?_
  refine g_istn X.1.1 X.1.2.1 hl 3 d_EditedText_countPlaces_3 rfl (Nat.le_of_ble_eq_true rfl) rfl (fun ls hl => ?_)
  have loop4 : ∀ (fu : Nat) (i : Nat) (k : Nat) (locs : List Loc) (ls : Array Slot), xs.length - i < fu → (i ≤ xs.length) → (k = v_cnt (fun p => decide (t_at xs ys p)) 0 i) → (∀ x ∈ locs, (fun _ => False) x.base) → gl ls [some (.ref tb), some (.ref b), some (.int (nI k)), some (.int (nI i))] → W p l e (gR 1 23 0 0) s m ([.ref tb, .ref b] : List Value).toArray below meth c H locs 0 0 (gQ below ([.ref tb, .ref b] : List Value).toArray s (fun v H1 => v = some (.int (nI (v_cnt (fun p => decide (t_at xs ys p)) 0 xs.length))) ∧ H1 = H) 0 0 (fun _ => False)) (F0 m 4 ls []) := by
    intro fu
    induction fu with
    | zero => intro i k locs ls hmu; omega
    | succ fu ih4 =>
      intro i k locs ls hmu4 hi4_0 hi4_1 hL hl
      have hk9 := v_cnt_le (fun p => decide (t_at xs ys p)) 0 i
      refine lv_iload_n X.1.1 X.1.2.1 d_EditedText_countPlaces_4 rfl (gl_at hl rfl) ?_
      refine lv_aload_n X.1.1 X.1.2.1 d_EditedText_countPlaces_5 rfl (gl_at hl rfl) ?_
      refine g_get X kc_EditedText ho 1 (by decide) lk_EditedText_29 rfl d_EditedText_countPlaces_6 ?_
      refine gn_ge X.1.1 X.1.2.1 i xs.length (by omega) (by omega) d_EditedText_countPlaces_9 rfl (fun hc9 => ?_) (fun hc9 => ?_)
      · have e9 : i = xs.length := by omega
        rw [e9] at hi4_1
        refine lv_iload_n X.1.1 X.1.2.1 d_EditedText_countPlaces_30 rfl (gl_at hl rfl) ?_
        exact g_iret X B ⟨by rw [hi4_1], rfl⟩ hL d_EditedText_countPlaces_31 (by omega) (by omega)
      · refine lv_aload_n X.1.1 X.1.2.1 d_EditedText_countPlaces_12 rfl (gl_at hl rfl) ?_
        refine lv_iload_n X.1.1 X.1.2.1 d_EditedText_countPlaces_13 rfl (gl_at hl rfl) ?_
        refine lv_aload_n X.1.1 X.1.2.1 d_EditedText_countPlaces_14 rfl (gl_at hl rfl) ?_
        refine g_cv (A := (fun _ => False)) X gWS_good mw_EditedText_68 kc_EditedText ho (c_EditedText_standsAt l D q H tb xs us so ht b ys hys i (by omega)) (fun _ _ _ => trivial) gBlind.tt rfl rfl hl.1 (Nat.le_of_ble_eq_true rfl) rfl rfl ⟨by decide, by decide⟩ ⟨by decide, by decide⟩ d_EditedText_countPlaces_15 (fun _ h => h.elim) hL (fun v1 H2 locs hp3 hL => ?_)
        obtain ⟨rfl, hHe⟩ := hp3
        rw [hHe]
        refine lv_if_eq X.1.1 X.1.2.1 d_EditedText_countPlaces_18 rfl (fun hc18 => ?_) (fun hc18 => ?_)
        · replace hc18 := gz_f hc18
          refine g_iinc X.1.1 X.1.2.1 (nI (i + 1)) hl 3 d_EditedText_countPlaces_24 rfl (nI_1 _) rfl (fun ls hl => ?_)
          refine lv_goto X.1.1 X.1.2.1 d_EditedText_countPlaces_27 rfl ?_
          exact ih4 (i + 1) k locs ls (by omega) (by omega) (by rw [v_cnt]; simp only [Nat.zero_add, decide_eq_true_eq]; first | (rw [if_pos hc18]; omega) | (rw [if_neg hc18]; omega)) hL hl
        · replace hc18 := gz_t hc18
          refine g_iinc X.1.1 X.1.2.1 (nI (k + 1)) hl 2 d_EditedText_countPlaces_21 rfl (nI_1 _) rfl (fun ls hl => ?_)
          refine g_iinc X.1.1 X.1.2.1 (nI (i + 1)) hl 3 d_EditedText_countPlaces_24 rfl (nI_1 _) rfl (fun ls hl => ?_)
          refine lv_goto X.1.1 X.1.2.1 d_EditedText_countPlaces_27 rfl ?_
          exact ih4 (i + 1) (k + 1) locs ls (by omega) (by omega) (by rw [v_cnt]; simp only [Nat.zero_add, decide_eq_true_eq]; first | (rw [if_pos hc18]; omega) | (rw [if_neg hc18]; omega)) hL hl
  exact loop4 _ 0 0 [] ls (Nat.lt_succ_self _) (Nat.zero_le _) rfl (fun _ h => by cases h) hl

set_option maxHeartbeats 4000000 in
set_option maxRecDepth 100000 in
theorem c_EditedText_sortedSuffixes (l : Launch) (D : va_G) (q : Nat → ClassId) (H : Heap) (tb : Nat) (xs : List Nat) (us : List (List Nat)) (so : Nat) (ht : txA D q H tb xs us so) : gC l y_EditedText_sortedSuffixes (Cond.code y_EditedText_sortedSuffixes b_EditedText_sortedSuffixes 1 (some (.object "KeyHall$SuffixOrder")) :: gWS) (gR 2 47 0 0) D CL (gY q) (fun _ => True) [.ref tb] H (fun v H1 => v = some (.ref (tb + 5)) ∧ txA D q H1 tb xs us 1 ∧ H1.size = H.size ∧ ∀ p : Nat, ¬ (tb ≤ p ∧ p ≤ tb + 7) → H1[p]? = H[p]?) 0 0 (fun p => tb ≤ p ∧ p ≤ tb + 7) := by
  refine gC.ofW R_EditedText "sortedSuffixes" (by decide) rfl rfl ?_
  intro p e s m below meth c hadm X hE hH B hne
  refine g_entry [some (.ref tb)] rfl rfl (Nat.le_of_ble_eq_true rfl) (fun ls hl => ?_)
  obtain ⟨ho, ⟨f, hlt, hf⟩, ⟨hxl, hxc, hso⟩, hh, hsu, F, K, hF, hK, hsrt⟩ := ht
  refine lv_aload_n X.1.1 X.1.2.1 d_EditedText_sortedSuffixes_0 rfl (gl_at hl rfl) ?_
  refine g_get X kc_EditedText ho 4 (by decide) lk_EditedText_47 rfl d_EditedText_sortedSuffixes_1 ?_
  refine gn_ne0 X.1.1 X.1.2.1 so (by omega) d_EditedText_sortedSuffixes_4 rfl (fun hc4 => ?_) (fun hc4 => ?_)
  · have e9 : so = 1 := by omega
    subst e9
    refine lv_aload_n X.1.1 X.1.2.1 d_EditedText_sortedSuffixes_27 rfl (gl_at hl rfl) ?_
    refine g_get X kc_EditedText ho 3 (by decide) lk_EditedText_25 rfl d_EditedText_sortedSuffixes_28 ?_
    exact g_aret X B ⟨rfl, ⟨ho, ⟨f, hlt, hf⟩, ⟨hxl, hxc, by omega⟩, hh, hsu, F, K, hF, hK, fun _ => hsrt (by omega)⟩, rfl, fun p hp => rfl⟩ (fun _ h => by cases h) d_EditedText_sortedSuffixes_31 (by omega) (by omega)
  · refine lv_aload_n X.1.1 X.1.2.1 d_EditedText_sortedSuffixes_7 rfl (gl_at hl rfl) ?_
    refine g_get X kc_EditedText ho 3 (by decide) lk_EditedText_25 rfl d_EditedText_sortedSuffixes_8 ?_
    refine lv_aload_n X.1.1 X.1.2.1 d_EditedText_sortedSuffixes_11 rfl (gl_at hl rfl) ?_
    refine g_get X kc_EditedText ho 0 (by decide) lk_EditedText_9 rfl d_EditedText_sortedSuffixes_12 ?_
    refine lv_aload_n X.1.1 X.1.2.1 d_EditedText_sortedSuffixes_15 rfl (gl_at hl rfl) ?_
    refine g_get X kc_EditedText ho 1 (by decide) lk_EditedText_29 rfl d_EditedText_sortedSuffixes_16 ?_
    refine g_cv (A := (fun p => tb ≤ p ∧ p ≤ tb + 7)) X gWS_good mw_EditedText_58 kc_SuffixOrder hsu (c_SuffixOrder_sort l D q H (tb + 5) F K hsu hF hK (tb + 1) f hlt (by omega) xs hxl hxc hf xs.length rfl) (fun _ _ _ => trivial) gBlind.tt rfl rfl hl.1 (Nat.le_of_ble_eq_true rfl) rfl rfl ⟨by decide, by decide⟩ ⟨by decide, by decide⟩ d_EditedText_sortedSuffixes_19 (fun p h => show _ ∧ _ by omega) (fun _ h => by cases h) (fun v1 H2 locs hp3 hL => ?_)
    obtain ⟨rfl, ⟨F1, K1, sti, hF1, hK1, hP1, hst1⟩, hz2, fr2⟩ := hp3
    replace ho := va_at.kept ho (fr2 _ (by omega))
    replace hlt := va_at.kept hlt (fr2 _ (by omega))
    replace hsu := va_at.kept hsu (fr2 _ (by omega))
    replace hh := hh.kept (fun p h1 h2 => fr2 p (by omega))
    have hF := hF1
    have hK := hK1
    refine lv_aload_n X.1.1 X.1.2.1 d_EditedText_sortedSuffixes_22 rfl (gl_at hl rfl) ?_
    refine lv_iconst (v := nI 1) X.1.1 X.1.2.1 d_EditedText_sortedSuffixes_23 (by decide) ?_
    refine g_put (A := (fun p => tb ≤ p ∧ p ≤ tb + 7)) X kc_EditedText ho 4 (by decide) lk_EditedText_47 rfl rfl rfl (Nat.le_of_ble_eq_true rfl) d_EditedText_sortedSuffixes_24 (show _ ∧ _ by omega) hL (fun H4 locs h5 z6 oq7 hL => ?_)
    replace hlt := hlt.kept (oq7 _ (by omega))
    replace hsu := hsu.kept (oq7 _ (by omega))
    replace hF := hF.kept (oq7 _ (by omega))
    replace hK := hK.kept (oq7 _ (by omega))
    replace hh := hh.kept (fun p h1 h2 => oq7 p (by omega))
    refine lv_aload_n X.1.1 X.1.2.1 d_EditedText_sortedSuffixes_27 rfl (gl_at hl rfl) ?_
    refine g_get X kc_EditedText h5 3 (by decide) lk_EditedText_25 rfl d_EditedText_sortedSuffixes_28 ?_
    exact g_aret X B ⟨rfl, ⟨h5, ⟨f, hlt, hf⟩, ⟨hxl, hxc, by omega⟩, hh, hsu, F1, K1, hF, hK, fun _ => ⟨sti, hP1, hst1⟩⟩, (z6.trans hz2), fun p hp => ((oq7 p (by omega)).trans (fr2 p (by omega)))⟩ hL d_EditedText_sortedSuffixes_31 (by omega) (by omega)

set_option maxHeartbeats 4000000 in
set_option maxRecDepth 100000 in
theorem c_EditedText_shared (l : Launch) (D : va_G) (q : Nat → ClassId) (H : Heap) (tb : Nat) (xs : List Nat) (us : List (List Nat)) (so : Nat) (ht : txA D q H tb xs us so) (k : Nat) (hk : k < xs.length) : gC l y_EditedText_sharedWithSuffixBefore (Cond.code y_EditedText_sharedWithSuffixBefore b_EditedText_sharedWithSuffixBefore 6 (some .int) :: gWS) (gR 3 67 0 0) D CL (gY q) (fun _ => True) [.ref tb, .int (nI k)] H (fun v H1 => ((k = 0 ∧ v = some (.int (nI 0))) ∨ ∃ sti, sfP xs xs.length xs.length sti ∧ k ≠ 0 ∧ v = some (.int (nI (t_lcp (xs.drop (sti k)) (xs.drop (sti (k - 1))))))) ∧ (∃ s1, txA D q H1 tb xs us s1) ∧ H1.size = H.size ∧ ∀ p : Nat, ¬ (tb ≤ p ∧ p ≤ tb + 7) → H1[p]? = H[p]?) 0 0 (fun p => tb ≤ p ∧ p ≤ tb + 7) := by
  refine gC.ofW R_EditedText "sharedWithSuffixBefore" (by decide) rfl rfl ?_
  intro p e s m below meth c hadm X hE hH B hne
  refine g_entry [some (.ref tb), some (.int (nI k)), none, none, none, none] rfl rfl (Nat.le_of_ble_eq_true rfl) (fun ls hl => ?_)
  have ht0 := ht
  obtain ⟨ho, ⟨f, hlt, hf⟩, ⟨hxl, hxc, hso⟩, hh, hsu, F, K, hF, hK, hsrt⟩ := ht
  have ht := ht0
  refine lv_iload_n X.1.1 X.1.2.1 d_EditedText_sharedWithSuffixBefore_0 rfl (gl_at hl rfl) ?_
  refine gn_ne0 X.1.1 X.1.2.1 k (by omega) d_EditedText_sharedWithSuffixBefore_1 rfl (fun hc1 => ?_) (fun hc1 => ?_)
  · refine lv_aload_n X.1.1 X.1.2.1 d_EditedText_sharedWithSuffixBefore_6 rfl (gl_at hl rfl) ?_
    refine g_cv (A := (fun p => tb ≤ p ∧ p ≤ tb + 7)) X gWS_good mw_EditedText_61 kc_EditedText ho (c_EditedText_sortedSuffixes l D q H tb xs us so ht) (fun _ _ _ => trivial) gBlind.tt rfl rfl hl.1 (Nat.le_of_ble_eq_true rfl) rfl rfl ⟨by decide, by decide⟩ ⟨by decide, by decide⟩ d_EditedText_sharedWithSuffixBefore_7 (fun p h => h) (fun _ h => by cases h) (fun v1 H2 locs hp3 hL => ?_)
    obtain ⟨rfl, ht1, hz2, fr2⟩ := hp3
    have ht9 := ht1
    obtain ⟨ho, ⟨f, hlt, hf⟩, -, -, hsu, F, K, hF, hK, hsrt⟩ := ht1
    obtain ⟨sti, hP, hst⟩ := hsrt (by decide)
    refine g_get X kc_SuffixOrder hsu 0 (by decide) lk_EditedText_65 rfl d_EditedText_sharedWithSuffixBefore_10 ?_
    refine g_astn X.1.1 X.1.2.1 hl 2 d_EditedText_sharedWithSuffixBefore_13 rfl (Nat.le_of_ble_eq_true rfl) rfl (fun ls hl => ?_)
    have hs1 := hP.1 k (by omega)
    have hs2 := hP.1 (k - 1) (by omega)
    refine lv_aload_n X.1.1 X.1.2.1 d_EditedText_sharedWithSuffixBefore_14 rfl (gl_at hl rfl) ?_
    refine lv_iload_n X.1.1 X.1.2.1 d_EditedText_sharedWithSuffixBefore_15 rfl (gl_at hl rfl) ?_
    refine g_iald X 0 hF rfl k (by omega) (by decide) d_EditedText_sharedWithSuffixBefore_16 ?_
    refine g_top (nI (sti k)) (hst k (by omega)) ?_
    refine g_istn X.1.1 X.1.2.1 hl 3 d_EditedText_sharedWithSuffixBefore_17 rfl (Nat.le_of_ble_eq_true rfl) rfl (fun ls hl => ?_)
    refine lv_aload_n X.1.1 X.1.2.1 d_EditedText_sharedWithSuffixBefore_18 rfl (gl_at hl rfl) ?_
    refine lv_iload_n X.1.1 X.1.2.1 d_EditedText_sharedWithSuffixBefore_19 rfl (gl_at hl rfl) ?_
    refine lv_iconst (v := nI 1) X.1.1 X.1.2.1 d_EditedText_sharedWithSuffixBefore_20 (by decide) ?_
    refine lv_isub X.1.1 X.1.2.1 d_EditedText_sharedWithSuffixBefore_21 ?_
    refine g_top (nI (k - 1)) (pk_sub (by omega)) ?_
    refine g_iald X 0 hF rfl (k - 1) (by omega) (by decide) d_EditedText_sharedWithSuffixBefore_22 ?_
    refine g_top (nI (sti (k - 1))) (hst (k - 1) (by omega)) ?_
    refine g_ist X.1.1 X.1.2.1 hl 4 d_EditedText_sharedWithSuffixBefore_23 (Nat.le_of_ble_eq_true rfl) rfl (fun ls hl => ?_)
    refine lv_iconst (v := nI 0) X.1.1 X.1.2.1 d_EditedText_sharedWithSuffixBefore_25 (by decide) ?_
    refine g_ist X.1.1 X.1.2.1 hl 5 d_EditedText_sharedWithSuffixBefore_26 (Nat.le_of_ble_eq_true rfl) rfl (fun ls hl => ?_)
    have loop28 : ∀ (fu : Nat) (i : Nat) (ls : Array Slot), xs.length - i < fu → (sti k + i ≤ xs.length) → (sti (k - 1) + i ≤ xs.length) → (∀ j, j < i → xs.getD (sti k + j) 0 = xs.getD (sti (k - 1) + j) 0) →  gl ls [some (.ref tb), some (.int (nI k)), some (.ref (tb + 6)), some (.int (nI (sti k))), some (.int (nI (sti (k - 1)))), some (.int (nI i))] → W p l e (gR 3 67 0 0) s m ([.ref tb, .int (nI k)] : List Value).toArray below meth c H2 locs 0 0 (gQ below ([.ref tb, .int (nI k)] : List Value).toArray s (fun v H1 => ((k = 0 ∧ v = some (.int (nI 0))) ∨ ∃ sti, sfP xs xs.length xs.length sti ∧ k ≠ 0 ∧ v = some (.int (nI (t_lcp (xs.drop (sti k)) (xs.drop (sti (k - 1))))))) ∧ (∃ s1, txA D q H1 tb xs us s1) ∧ H1.size = H.size ∧ ∀ p : Nat, ¬ (tb ≤ p ∧ p ≤ tb + 7) → H1[p]? = H[p]?) 0 0 (fun p => tb ≤ p ∧ p ≤ tb + 7)) (F0 m 28 ls []) := by
      intro fu
      induction fu with
      | zero => intro i ls hmu; omega
      | succ fu ih28 =>
        intro i ls hmu28 hi28_0 hi28_1 hi28_2 hl
        refine lv_iload_n X.1.1 X.1.2.1 d_EditedText_sharedWithSuffixBefore_28 rfl (gl_at hl rfl) ?_
        refine lv_iload X.1.1 X.1.2.1 d_EditedText_sharedWithSuffixBefore_29 (gl_at hl rfl) ?_
        refine lv_iadd X.1.1 X.1.2.1 d_EditedText_sharedWithSuffixBefore_31 ?_
        refine g_top (nI ((sti k) + i)) (nI_add _ _) ?_
        refine lv_aload_n X.1.1 X.1.2.1 d_EditedText_sharedWithSuffixBefore_32 rfl (gl_at hl rfl) ?_
        refine g_get X kc_EditedText ho 1 (by decide) lk_EditedText_29 rfl d_EditedText_sharedWithSuffixBefore_33 ?_
        refine gn_ge X.1.1 X.1.2.1 ((sti k) + i) xs.length (by omega) (by omega) d_EditedText_sharedWithSuffixBefore_36 rfl (fun hc36 => ?_) (fun hc36 => ?_)
        · refine lv_iload X.1.1 X.1.2.1 d_EditedText_sharedWithSuffixBefore_79 (gl_at hl rfl) ?_
          exact g_iret X B ⟨Or.inr ⟨sti, hP, hc1, by rw [t_lcp_eq (xs.drop (sti k)) (xs.drop (sti (k - 1))) i (by rw [List.length_drop]; omega) (by rw [List.length_drop]; omega) (fun j hj => by rw [t_getD_drop, t_getD_drop]; exact hi28_2 j hj) (by rw [List.length_drop, List.length_drop, t_getD_drop, t_getD_drop]; first | exact Or.inl (by omega) | exact Or.inr (Or.inl (by omega)) | exact Or.inr (Or.inr hc70))]⟩, ⟨1, ht9⟩, hz2, fr2⟩ hL d_EditedText_sharedWithSuffixBefore_81 (by omega) (by omega)
        · refine lv_iload X.1.1 X.1.2.1 d_EditedText_sharedWithSuffixBefore_39 (gl_at hl rfl) ?_
          refine lv_iload X.1.1 X.1.2.1 d_EditedText_sharedWithSuffixBefore_41 (gl_at hl rfl) ?_
          refine lv_iadd X.1.1 X.1.2.1 d_EditedText_sharedWithSuffixBefore_43 ?_
          refine g_top (nI ((sti (k - 1)) + i)) (nI_add _ _) ?_
          refine lv_aload_n X.1.1 X.1.2.1 d_EditedText_sharedWithSuffixBefore_44 rfl (gl_at hl rfl) ?_
          refine g_get X kc_EditedText ho 1 (by decide) lk_EditedText_29 rfl d_EditedText_sharedWithSuffixBefore_45 ?_
          refine gn_ge X.1.1 X.1.2.1 ((sti (k - 1)) + i) xs.length (by omega) (by omega) d_EditedText_sharedWithSuffixBefore_48 rfl (fun hc48 => ?_) (fun hc48 => ?_)
          · refine lv_iload X.1.1 X.1.2.1 d_EditedText_sharedWithSuffixBefore_79 (gl_at hl rfl) ?_
            exact g_iret X B ⟨Or.inr ⟨sti, hP, hc1, by rw [t_lcp_eq (xs.drop (sti k)) (xs.drop (sti (k - 1))) i (by rw [List.length_drop]; omega) (by rw [List.length_drop]; omega) (fun j hj => by rw [t_getD_drop, t_getD_drop]; exact hi28_2 j hj) (by rw [List.length_drop, List.length_drop, t_getD_drop, t_getD_drop]; first | exact Or.inl (by omega) | exact Or.inr (Or.inl (by omega)) | exact Or.inr (Or.inr hc70))]⟩, ⟨1, ht9⟩, hz2, fr2⟩ hL d_EditedText_sharedWithSuffixBefore_81 (by omega) (by omega)
          · refine lv_aload_n X.1.1 X.1.2.1 d_EditedText_sharedWithSuffixBefore_51 rfl (gl_at hl rfl) ?_
            refine g_get X kc_EditedText ho 0 (by decide) lk_EditedText_9 rfl d_EditedText_sharedWithSuffixBefore_52 ?_
            refine lv_iload_n X.1.1 X.1.2.1 d_EditedText_sharedWithSuffixBefore_55 rfl (gl_at hl rfl) ?_
            refine lv_iload X.1.1 X.1.2.1 d_EditedText_sharedWithSuffixBefore_56 (gl_at hl rfl) ?_
            refine lv_iadd X.1.1 X.1.2.1 d_EditedText_sharedWithSuffixBefore_58 ?_
            refine g_top (nI ((sti k) + i)) (nI_add _ _) ?_
            refine g_iald X 0 hlt rfl ((sti k) + i) (by omega) (by decide) d_EditedText_sharedWithSuffixBefore_59 ?_
            have e1 := t_lt hxc (sti k + i)
            refine g_top (nI (xs.getD (sti k + i) 0)) (hf _ (by omega)) ?_
            refine lv_aload_n X.1.1 X.1.2.1 d_EditedText_sharedWithSuffixBefore_60 rfl (gl_at hl rfl) ?_
            refine g_get X kc_EditedText ho 0 (by decide) lk_EditedText_9 rfl d_EditedText_sharedWithSuffixBefore_61 ?_
            refine lv_iload X.1.1 X.1.2.1 d_EditedText_sharedWithSuffixBefore_64 (gl_at hl rfl) ?_
            refine lv_iload X.1.1 X.1.2.1 d_EditedText_sharedWithSuffixBefore_66 (gl_at hl rfl) ?_
            refine lv_iadd X.1.1 X.1.2.1 d_EditedText_sharedWithSuffixBefore_68 ?_
            refine g_top (nI ((sti (k - 1)) + i)) (nI_add _ _) ?_
            refine g_iald X 0 hlt rfl ((sti (k - 1)) + i) (by omega) (by decide) d_EditedText_sharedWithSuffixBefore_69 ?_
            have e2 := t_lt hxc (sti (k - 1) + i)
            refine g_top (nI (xs.getD (sti (k - 1) + i) 0)) (hf _ (by omega)) ?_
            refine gn_ne X.1.1 X.1.2.1 (xs.getD (sti k + i) 0) (xs.getD (sti (k - 1) + i) 0) (by omega) (by omega) d_EditedText_sharedWithSuffixBefore_70 rfl (fun hc70 => ?_) (fun hc70 => ?_)
            · refine lv_iload X.1.1 X.1.2.1 d_EditedText_sharedWithSuffixBefore_79 (gl_at hl rfl) ?_
              exact g_iret X B ⟨Or.inr ⟨sti, hP, hc1, by rw [t_lcp_eq (xs.drop (sti k)) (xs.drop (sti (k - 1))) i (by rw [List.length_drop]; omega) (by rw [List.length_drop]; omega) (fun j hj => by rw [t_getD_drop, t_getD_drop]; exact hi28_2 j hj) (by rw [List.length_drop, List.length_drop, t_getD_drop, t_getD_drop]; first | exact Or.inl (by omega) | exact Or.inr (Or.inl (by omega)) | exact Or.inr (Or.inr hc70))]⟩, ⟨1, ht9⟩, hz2, fr2⟩ hL d_EditedText_sharedWithSuffixBefore_81 (by omega) (by omega)
            · refine g_iinc X.1.1 X.1.2.1 (nI (i + 1)) hl 5 d_EditedText_sharedWithSuffixBefore_73 rfl (nI_1 _) rfl (fun ls hl => ?_)
              refine lv_goto X.1.1 X.1.2.1 d_EditedText_sharedWithSuffixBefore_76 rfl ?_
              exact ih28 (i + 1) ls (by omega) (by omega) (by omega) (lt_s hi28_2 hc70) hl
    exact loop28 _ 0 ls (Nat.lt_succ_self _) (by omega) (by omega) (fun j hj => absurd hj (Nat.not_lt_zero j)) hl
  · refine lv_iconst (v := nI 0) X.1.1 X.1.2.1 d_EditedText_sharedWithSuffixBefore_4 (by decide) ?_
    exact g_iret X B ⟨Or.inl ⟨hc1, rfl⟩, ⟨so, ht⟩, rfl, fun _ _ => rfl⟩ (fun _ h => by cases h) d_EditedText_sharedWithSuffixBefore_5 (by omega) (by omega)

set_option maxHeartbeats 4000000 in
set_option maxRecDepth 100000 in
theorem c_EditedText_least (l : Launch) (D : va_G) (q : Nat → ClassId) (H : Heap) (tb : Nat) (xs : List Nat) (us : List (List Nat)) (so : Nat) (ht : txA D q H tb xs us so) (b : Nat) (ys : List Nat) (hys : kA D q H b ys) (hb1 : b + 1 < tb ∨ tb + 7 < b) : gC l y_EditedText_leastSuffixBeginning (Cond.code y_EditedText_leastSuffixBeginning b_EditedText_leastSuffixBeginning 4 (some .int) :: gWS) (gR 3 67 0 0) D CL (gY q) (fun _ => True) [.ref tb, .ref b] H (fun v H1 => (∃ sti w, sfP xs xs.length xs.length sti ∧ v = some (.int (gm1 w)) ∧ (match w with | none => ∀ j, j < xs.length → ¬ t_at xs ys (sti j) | some k => k < xs.length ∧ t_at xs ys (sti k) ∧ ∀ j, j < k → ¬ t_at xs ys (sti j))) ∧ (∃ s1, txA D q H1 tb xs us s1) ∧ H1.size = H.size ∧ ∀ p : Nat, ¬ (tb ≤ p ∧ p ≤ tb + 7) → H1[p]? = H[p]?) 0 0 (fun p => tb ≤ p ∧ p ≤ tb + 7) := by
  refine gC.ofW R_EditedText "leastSuffixBeginning" (by decide) rfl rfl ?_
  intro p e s m below meth c hadm X hE hH B hne
  refine g_entry [some (.ref tb), some (.ref b), none, none] rfl rfl (Nat.le_of_ble_eq_true rfl) (fun ls hl => ?_)
  have ht0 := ht
  obtain ⟨ho, ⟨f, hlt, hf⟩, ⟨hxl, hxc, hso⟩, hh, hsu, F, K, hF, hK, hsrt⟩ := ht
  have ht := ht0
  refine lv_aload_n X.1.1 X.1.2.1 d_EditedText_leastSuffixBeginning_0 rfl (gl_at hl rfl) ?_
  refine g_cv (A := (fun p => tb ≤ p ∧ p ≤ tb + 7)) X gWS_good mw_EditedText_61 kc_EditedText ho (c_EditedText_sortedSuffixes l D q H tb xs us so ht) (fun _ _ _ => trivial) gBlind.tt rfl rfl hl.1 (Nat.le_of_ble_eq_true rfl) rfl rfl ⟨by decide, by decide⟩ ⟨by decide, by decide⟩ d_EditedText_leastSuffixBeginning_1 (fun p h => h) (fun _ h => by cases h) (fun v1 H2 locs hp3 hL => ?_)
  obtain ⟨rfl, ht1, hz2, fr2⟩ := hp3
  have ht9 := ht1
  obtain ⟨ho, ⟨f, hlt, hf⟩, -, -, hsu, F, K, hF, hK, hsrt⟩ := ht1
  obtain ⟨sti, hP, hst⟩ := hsrt (by decide)
  replace hys := hys.kept (fr2 _ (by omega)) (fr2 _ (by omega))
  refine g_get X kc_SuffixOrder hsu 0 (by decide) lk_EditedText_65 rfl d_EditedText_leastSuffixBeginning_4 ?_
  refine g_astn X.1.1 X.1.2.1 hl 2 d_EditedText_leastSuffixBeginning_7 rfl (Nat.le_of_ble_eq_true rfl) rfl (fun ls hl => ?_)
  refine lv_iconst (v := nI 0) X.1.1 X.1.2.1 d_EditedText_leastSuffixBeginning_8 (by decide) ?_
  refine g_istn X.1.1 X.1.2.1 hl 3 d_EditedText_leastSuffixBeginning_9 rfl (Nat.le_of_ble_eq_true rfl) rfl (fun ls hl => ?_)
  have loop10 : ∀ (fu : Nat) (i : Nat) (locs : List Loc) (ls : Array Slot), xs.length - i < fu → (i ≤ xs.length) → (∀ j, j < i → ¬ t_at xs ys (sti j)) → (∀ x ∈ locs, (fun p => tb ≤ p ∧ p ≤ tb + 7) x.base) → gl ls [some (.ref tb), some (.ref b), some (.ref (tb + 6)), some (.int (nI i))] → W p l e (gR 3 67 0 0) s m ([.ref tb, .ref b] : List Value).toArray below meth c H2 locs 0 0 (gQ below ([.ref tb, .ref b] : List Value).toArray s (fun v H1 => (∃ sti w, sfP xs xs.length xs.length sti ∧ v = some (.int (gm1 w)) ∧ (match w with | none => ∀ j, j < xs.length → ¬ t_at xs ys (sti j) | some k => k < xs.length ∧ t_at xs ys (sti k) ∧ ∀ j, j < k → ¬ t_at xs ys (sti j))) ∧ (∃ s1, txA D q H1 tb xs us s1) ∧ H1.size = H.size ∧ ∀ p : Nat, ¬ (tb ≤ p ∧ p ≤ tb + 7) → H1[p]? = H[p]?) 0 0 (fun p => tb ≤ p ∧ p ≤ tb + 7)) (F0 m 10 ls []) := by
    intro fu
    induction fu with
    | zero => intro i locs ls hmu; omega
    | succ fu ih10 =>
      intro i locs ls hmu10 hi10_0 hi10_1 hL hl
      refine lv_iload_n X.1.1 X.1.2.1 d_EditedText_leastSuffixBeginning_10 rfl (gl_at hl rfl) ?_
      refine lv_aload_n X.1.1 X.1.2.1 d_EditedText_leastSuffixBeginning_11 rfl (gl_at hl rfl) ?_
      refine g_get X kc_EditedText ho 1 (by decide) lk_EditedText_29 rfl d_EditedText_leastSuffixBeginning_12 ?_
      refine gn_ge X.1.1 X.1.2.1 i xs.length (by omega) (by omega) d_EditedText_leastSuffixBeginning_15 rfl (fun hc15 => ?_) (fun hc15 => ?_)
      · refine lv_iconst (v := (-1)) X.1.1 X.1.2.1 d_EditedText_leastSuffixBeginning_37 (by decide) ?_
        exact g_iret X B ⟨⟨sti, none, hP, rfl, fun j hj => hi10_1 j (by omega)⟩, ⟨1, ht9⟩, hz2, fr2⟩ hL d_EditedText_leastSuffixBeginning_38 (by omega) (by omega)
      · have hs1 := hP.1 i (by omega)
        refine lv_aload_n X.1.1 X.1.2.1 d_EditedText_leastSuffixBeginning_18 rfl (gl_at hl rfl) ?_
        refine lv_aload_n X.1.1 X.1.2.1 d_EditedText_leastSuffixBeginning_19 rfl (gl_at hl rfl) ?_
        refine lv_iload_n X.1.1 X.1.2.1 d_EditedText_leastSuffixBeginning_20 rfl (gl_at hl rfl) ?_
        refine g_iald X 0 hF rfl i (by omega) (by decide) d_EditedText_leastSuffixBeginning_21 ?_
        refine g_top (nI (sti i)) (hst i (by omega)) ?_
        refine lv_aload_n X.1.1 X.1.2.1 d_EditedText_leastSuffixBeginning_22 rfl (gl_at hl rfl) ?_
        refine g_cv (A := (fun p => tb ≤ p ∧ p ≤ tb + 7)) X gWS_good mw_EditedText_68 kc_EditedText ho (c_EditedText_standsAt l D q H2 tb xs us 1 ht9 b ys hys (sti i) (by omega)) (fun _ _ _ => trivial) gBlind.tt rfl rfl hl.1 (Nat.le_of_ble_eq_true rfl) rfl rfl ⟨by decide, by decide⟩ ⟨by decide, by decide⟩ d_EditedText_leastSuffixBeginning_23 (fun _ h => h.elim) hL (fun v4 H5 locs hp6 hL => ?_)
        obtain ⟨rfl, hHe⟩ := hp6
        rw [hHe]
        refine lv_if_eq X.1.1 X.1.2.1 d_EditedText_leastSuffixBeginning_26 rfl (fun hc26 => ?_) (fun hc26 => ?_)
        · replace hc26 := gz_f hc26
          refine g_iinc X.1.1 X.1.2.1 (nI (i + 1)) hl 3 d_EditedText_leastSuffixBeginning_31 rfl (nI_1 _) rfl (fun ls hl => ?_)
          refine lv_goto X.1.1 X.1.2.1 d_EditedText_leastSuffixBeginning_34 rfl ?_
          exact ih10 (i + 1) locs ls (by omega) (by omega) (lt_s hi10_1 hc26) hL hl
        · replace hc26 := gz_t hc26
          refine lv_iload_n X.1.1 X.1.2.1 d_EditedText_leastSuffixBeginning_29 rfl (gl_at hl rfl) ?_
          exact g_iret X B ⟨⟨sti, some i, hP, rfl, by omega, hc26, hi10_1⟩, ⟨1, ht9⟩, hz2, fr2⟩ hL d_EditedText_leastSuffixBeginning_30 (by omega) (by omega)
  exact loop10 _ 0 locs ls (Nat.lt_succ_self _) (Nat.zero_le _) (fun j hj => absurd hj (Nat.not_lt_zero j)) hL hl

set_option maxHeartbeats 4000000 in
set_option maxRecDepth 100000 in
theorem c_EditedText_init (l : Launch) (D : va_G) (q : Nat → ClassId) (H : Heap) (tb : Nat) (hz : H.size = tb + 1) (ho : va_at D CL (tb, .inr (6, [.null, .int 0, .null, .null, .int 0])) H) : gC l y_EditedText_init (Cond.code y_EditedText_init b_EditedText_init 1 none :: gWS) (gR 2 32 7 2787) D CL (gY q) (fun _ => True) [.ref tb] H (fun v H1 => v = none ∧ txA D q H1 tb [] [] 0 ∧ H1.size = tb + 8 ∧ ∀ p : Nat, p < tb → H1[p]? = H[p]?) 7 2787 (fun p => tb ≤ p) := by
  refine gC.ofW R_EditedText "<init>" (by decide) rfl rfl ?_
  intro p e s m below meth c hadm X hE hH B hne
  refine g_entry [some (.ref tb)] rfl rfl (Nat.le_of_ble_eq_true rfl) (fun ls hl => ?_)
  refine lv_aload_n X.1.1 X.1.2.1 d_EditedText_init_0 rfl (gl_at hl rfl) ?_
  refine W.objInit X.1.1 X.1.2.1 X.1.2.2.2.1 (X.1.2.2.2.2 _ mo_EditedText_3.1) (X.1.2.2.2.2 _ mo_EditedText_3.2.1) (X.1.2.2.2.2 _ mo_EditedText_3.2.2) rfl (by rw [X.1.2.2.1]; exact hl.1) rfl d_EditedText_init_1 (Nat.le_of_ble_eq_true rfl) (Nat.le_of_ble_eq_true rfl) ?_
  refine W.eq (g2 := F0 m 4 ls []) rfl ?_
  refine lv_aload_n X.1.1 X.1.2.1 d_EditedText_init_4 rfl (gl_at hl rfl) ?_
  refine lv_bipush (v := nI 120) X.1.1 X.1.2.1 d_EditedText_init_5 (by decide) ?_
  refine g_newi X 0 rfl ka_int 120 (by decide) (Nat.le_of_ble_eq_true rfl) (Nat.le_of_ble_eq_true rfl) d_EditedText_init_7 (fun H1 h2 z3 o4 => ?_)
  rw [hz] at h2 z3 o4 ⊢
  replace ho := ho.kept (o4 _ (by omega))
  refine g_putF (A := (fun p => tb ≤ p)) X B.2.2 kc_EditedText ho 0 (by decide) lk_EditedText_9 rfl rfl rfl rfl (Nat.le_of_ble_eq_true rfl) d_EditedText_init_9 (show tb ≤ _ by omega) (fun _ h => by cases h) (fun H5 locs h6 z7 oq8 hL => ?_)
  replace h2 := h2.kept (oq8 _ (by omega))
  have hz9 := z7.trans z3
  refine lv_aload_n X.1.1 X.1.2.1 d_EditedText_init_12 rfl (gl_at hl rfl) ?_
  refine g_new X kc_History lk_EditedText_15 ki_History.1 ki_History.2 (fs := [.null, .null, .int 0, .int 0]) kf_History (Nat.le_of_ble_eq_true rfl) (Nat.le_of_ble_eq_true rfl) d_EditedText_init_13 (fun H10 h11 z12 o13 => ?_)
  rw [hz9] at h11 z12 o13 ⊢
  replace h6 := h6.kept (o13 _ (by omega))
  replace h2 := h2.kept (o13 _ (by omega))
  refine lv_dup X.1.1 X.1.2.1 d_EditedText_init_16 rfl ?_
  refine g_ci (A := (fun p => tb ≤ p)) X gWS_good mw_EditedText_17 (c_History_init l D q H10 (tb + 1 + 1) (by omega) h11) (fun _ _ _ => trivial) gBlind.tt rfl rfl hl.1 (Nat.le_of_ble_eq_true rfl) rfl rfl ⟨by decide, by decide⟩ ⟨Nat.le_of_ble_eq_true rfl, Nat.le_of_ble_eq_true rfl⟩ d_EditedText_init_17 (fun p (h : _ ≤ p) => show tb ≤ p by omega) hL (fun v14 H15 locs hp16 hL => ?_)
  obtain ⟨rfl, hh, hzh, frh⟩ := hp16
  replace h6 := va_at.kept h6 (frh _ (by omega))
  replace h2 := va_at.kept h2 (frh _ (by omega))
  have hzh2 : H15.size = tb + 5 := by omega
  refine g_putF (A := (fun p => tb ≤ p)) X B.2.2 kc_EditedText h6 2 (by decide) lk_EditedText_18 rfl rfl rfl rfl (Nat.le_of_ble_eq_true rfl) d_EditedText_init_20 (show tb ≤ _ by omega) hL (fun H17 locs h18 z19 oq20 hL => ?_)
  replace h2 := h2.kept (oq20 _ (by omega))
  replace hh := hh.kept (fun p h1 h2 => oq20 p (by omega))
  have hz21 := z19.trans hzh2
  refine lv_aload_n X.1.1 X.1.2.1 d_EditedText_init_23 rfl (gl_at hl rfl) ?_
  refine g_new X kc_SuffixOrder lk_EditedText_22 ki_SuffixOrder.1 ki_SuffixOrder.2 (fs := [.null, .null]) kf_SuffixOrder (Nat.le_of_ble_eq_true rfl) (Nat.le_of_ble_eq_true rfl) d_EditedText_init_24 (fun H22 h23 z24 o25 => ?_)
  rw [hz21] at h23 z24 o25 ⊢
  replace h18 := h18.kept (o25 _ (by omega))
  replace h2 := h2.kept (o25 _ (by omega))
  replace hh := hh.kept (fun p h1 h2 => o25 p (by omega))
  refine lv_dup X.1.1 X.1.2.1 d_EditedText_init_27 rfl ?_
  refine g_ci (A := (fun p => tb ≤ p)) X gWS_good mw_EditedText_24 (c_SuffixOrder_init l D q H22 (tb + 5) (by omega) h23) (fun _ _ _ => trivial) gBlind.tt rfl rfl hl.1 (Nat.le_of_ble_eq_true rfl) rfl rfl ⟨by decide, by decide⟩ ⟨Nat.le_of_ble_eq_true rfl, Nat.le_of_ble_eq_true rfl⟩ d_EditedText_init_28 (fun p (h : _ ≤ p) => show tb ≤ p by omega) hL (fun v26 H27 locs hp28 hL => ?_)
  obtain ⟨rfl, hsu, ⟨F, hF⟩, ⟨K, hK⟩, hzs, frs⟩ := hp28
  replace h18 := va_at.kept h18 (frs _ (by omega))
  replace h2 := va_at.kept h2 (frs _ (by omega))
  replace hh := hh.kept (fun p h1 h2 => frs p (by omega))
  refine g_putF (A := (fun p => tb ≤ p)) X B.2.2 kc_EditedText h18 3 (by decide) lk_EditedText_25 rfl rfl rfl rfl (Nat.le_of_ble_eq_true rfl) d_EditedText_init_31 (show tb ≤ _ by omega) hL (fun H29 locs h30 z31 oq32 hL => ?_)
  replace h2 := h2.kept (oq32 _ (by omega))
  replace hsu := hsu.kept (oq32 _ (by omega))
  replace hF := hF.kept (oq32 _ (by omega))
  replace hK := hK.kept (oq32 _ (by omega))
  replace hh := hh.kept (fun p h1 h2 => oq32 p (by omega))
  have hz33 := z31.trans hzs
  exact g_vret X B ⟨rfl, ⟨h30, ⟨_, h2, fun j hj => absurd hj (Nat.not_lt_zero j)⟩, ⟨by simp, by simp, by omega⟩, hh, hsu, F, K, hF, hK, fun h => absurd rfl h⟩, by omega, fun p hp => ((oq32 p (by omega)).trans ((frs p (by omega)).trans ((o25 p (by omega)).trans ((oq20 p (by omega)).trans ((frh p (by omega)).trans ((o13 p (by omega)).trans ((oq8 p (by omega)).trans (o4 p (by omega)))))))))⟩ hL d_EditedText_init_34 (by omega) (by omega)
