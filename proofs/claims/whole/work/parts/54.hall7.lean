/-! the class KeyHall, 7: printed by wip/specs/hall7.py -/
set_option maxHeartbeats 4000000 in
set_option maxRecDepth 100000 in
theorem c_Hall_next (l : Launch) (D : va_G) (q : Nat → ClassId) (H : Heap) (b : Nat) (c0 : Nat) (ad : Nat → Nat) (org : Nat → Option Nat) (srt : Nat → Nat) (bt : Nat → List Nat) (tn : Nat → Nat) (mp : Nat → Nat) (wk : Nat → Nat × Nat × Nat × Nat) (n : Nat → Nat) (ks : Nat → Nat → List Nat) (vs : Nat → Nat → Int32) (chg : Nat → Nat) (tp : List Nat) (ud : List Nat) (tl : List Nat) (an : Nat) (aks : Nat → List Nat) (aus : List Nat) (xs : List Nat) (us : List (List Nat)) (so : Nat) (hh : hA D q H b c0 ad org srt bt tn mp wk n ks vs chg tp ud tl an aks aus xs us so) (k : Nat) (hk : k < c0) (hb1 : chg (mp k) < 2 ^ 31) (hb2 : (wk k).1 < 2 ^ 31 ∧ (wk k).2.1 < 2 ^ 31 ∧ (wk k).2.2.1 < 2 ^ 31 ∧ (wk k).2.2.2 < 2 ^ 31) (hgo : (wk k).1 ≠ 0 ∧ chg (mp k) = (wk k).2.2.2) (hr0 : ∀ f0 t0, v_ms org srt bt k (n (mp k)) (ks (mp k)) f0 t0 → (wk k).2.1 < t0 - f0) : gC l y_Hall_next (Cond.code y_Hall_next b_Hall_next 4 (some .int) :: gWS) (gR 8 129 0 0) D CL (gY q) (fun _ => True) [.ref b, .int (nI k)] H (fun v1 H1 => ∃ f0 t0 : Nat, v_ms org srt bt k (n (mp k)) (ks (mp k)) f0 t0 ∧ v1 = some (.int (vs (mp k) (if tn k ≠ 0 then t0 - 1 - ((wk k).2.1) else f0 + ((wk k).2.1)))) ∧ hA D q H1 b c0 ad org srt bt tn mp (va_up wk k ((wk k).1, (wk k).2.1 + 1, 1, (wk k).2.2.2)) n ks vs chg tp ud (ks (mp k) (if tn k ≠ 0 then t0 - 1 - ((wk k).2.1) else f0 + ((wk k).2.1))) an aks aus xs us so ∧ H1.size = H.size ∧ ∀ p : Nat, p < H.size → ¬ hZ b c0 ad p → H1[p]? = H[p]?) 0 0 (fun p => b ≤ p) := by
  refine gC.ofW R_Hall "next" (by decide) rfl rfl ?_
  intro p e s m below meth c hadm X hE hH B hne
  refine g_entry [some (.ref b), some (.int (nI k)), none, none] rfl rfl (Nat.le_of_ble_eq_true rfl) (fun ls hl => ?_)
  have hh0 := hh
  obtain ⟨ho, hf, hd, hNN, hVV, hww, hmm, hgg, htp, hud, htl, haa, hxx⟩ := hh
  have hh := hh0
  have frA : ∀ p : Nat, p < H.size → ¬ hZ b c0 ad p → H[p]? = H[p]? := fun _ _ _ => rfl
  have zz : H.size = H.size := rfl
  refine lv_aload_n X.1.1 X.1.2.1 d_Hall_next_0 rfl (gl_at hl rfl) ?_
  refine lv_iload_n X.1.1 X.1.2.1 d_Hall_next_1 rfl (gl_at hl rfl) ?_
  refine g_cv (A := (fun p => b ≤ p)) X gWS_good mw_Hall_118 kc_Hall ho (c_Hall_measured l D q H b c0 ho ad org srt bt tn mp hd hf hNN hVV n ks vs chg hmm k hk) (fun _ _ _ => trivial) gBlind.tt rfl rfl hl.1 (Nat.le_of_ble_eq_true rfl) rfl rfl ⟨by decide, by decide⟩ ⟨by decide, by decide⟩ d_Hall_next_2 (fun p h => show b ≤ p by have h9 := hd.lt hk; omega) (fun _ h => by cases h) (fun v1 H2 locs hp3 hL => ?_)
  obtain ⟨f0, t0, rfl, hvc, hms, hz1, fr1⟩ := hp3
  replace frA : ∀ p : Nat, p < H.size → ¬ hZ b c0 ad p → H2[p]? = H[p]? := fun p hp hz => (fr1 p (by (have z1 := hZ_b hz); (have z2 := hZ_v hd hk hz); omega)).trans (frA p hp hz)
  replace zz := hz1.trans zz
  replace hh := hh.measure hk hvc hz1 fr1
  clear ho hf hd hNN hVV hww hmm hgg htp hud htl haa hxx
  have hh0 := hh
  obtain ⟨ho, hf, hd, hNN, hVV, hww, hmm, hgg, htp, hud, htl, haa, hxx⟩ := hh
  have hh := hh0
  obtain ⟨ms1, ms2, ms3, ms4, ms5, ms6⟩ := hms
  have hmk := hNN k hk
  have hmA := hmm (mp k) hmk.2.2.2
  have hdl := hd.lt hk
  have hnm := hmA.1.2.1
  have hfar := hd.far hk hmk.2.2.2
  refine g_astn X.1.1 X.1.2.1 hl 2 d_Hall_next_5 rfl (Nat.le_of_ble_eq_true rfl) rfl (fun ls hl => ?_)
  obtain ⟨hmo, hnm9, ⟨mf, g, hmf, hfg, hg, hgi, hks⟩, hvv⟩ := hmA.1
  have hwk := hww k hk
  have hr := hr0 f0 t0 ⟨ms1, ms2, ms3, ms4, ms5, ms6⟩
  refine lv_aload_n X.1.1 X.1.2.1 d_Hall_next_6 rfl (gl_at hl rfl) ?_
  refine g_get X kc_View hvc 5 (by decide) lk_Hall_138 rfl d_Hall_next_7 ?_
  refine lv_aload_n X.1.1 X.1.2.1 d_Hall_next_10 rfl (gl_at hl rfl) ?_
  refine g_get X kc_View hvc 0 (by decide) lk_Hall_87 rfl d_Hall_next_11 ?_
  refine g_get X kc_KeyMap hmo 3 (by decide) lk_Hall_142 rfl d_Hall_next_14 ?_
  refine g_cv (A := (fun p => b ≤ p)) X gWS_good mw_Hall_150 kc_Walker hwk (c_Walker_mayGoOn l D q H2 (v_wk ad k) _ _ _ _ hwk (chg (mp k)) hb1 hb2.2.2.2 hb2.1) (fun _ _ _ => trivial) gBlind.tt rfl rfl hl.1 (Nat.le_of_ble_eq_true rfl) rfl rfl ⟨by decide, by decide⟩ ⟨by decide, by decide⟩ d_Hall_next_17 (fun _ h => h.elim) hL (fun v4 H5 locs hp6 hL => ?_)
  obtain ⟨rfl, hHe⟩ := hp6
  rw [hHe]
  refine lv_if_ne X.1.1 X.1.2.1 d_Hall_next_20 rfl (fun hc20 => ?_) (fun hc20 => ?_)
  · replace hc20 := gz_t hc20
    refine lv_aload_n X.1.1 X.1.2.1 d_Hall_next_31 rfl (gl_at hl rfl) ?_
    refine lv_aload_n X.1.1 X.1.2.1 d_Hall_next_32 rfl (gl_at hl rfl) ?_
    refine lv_aload_n X.1.1 X.1.2.1 d_Hall_next_33 rfl (gl_at hl rfl) ?_
    refine g_get X kc_View hvc 5 (by decide) lk_Hall_138 rfl d_Hall_next_34 ?_
    refine g_get X kc_Walker hwk 1 (by decide) lk_Hall_153 rfl d_Hall_next_37 ?_
    refine g_cv (A := (fun p => b ≤ p)) X gWS_good mw_Hall_128 kc_Hall ho (c_Hall_tell l D q H2 b c0 ho (ad k) _ _ _ _ _ _ f0 t0 hvc ms1 hmk.2.2.1 _ _ _ _ hmA.1 ms2 (by omega) (by omega) tl htl ((wk k).2.1) (if tn k ≠ 0 then t0 - 1 - ((wk k).2.1) else f0 + ((wk k).2.1)) hr rfl) (fun _ _ _ => trivial) gBlind.tt rfl rfl hl.1 (Nat.le_of_ble_eq_true rfl) rfl rfl ⟨by decide, by decide⟩ ⟨by decide, by decide⟩ d_Hall_next_40 (fun p h => show b ≤ p by omega) hL (fun v7 H8 locs hp9 hL => ?_)
    obtain ⟨rfl, k1, hz1, fr1⟩ := hp9
    replace hvc := va_at.kept hvc (fr1 _ (by omega))
    replace frA : ∀ p : Nat, p < H.size → ¬ hZ b c0 ad p → H8[p]? = H[p]? := fun p hp hz => (fr1 p (by (have z1 := hZ_b hz); omega)).trans (frA p hp hz)
    replace zz := hz1.trans zz
    replace hh := hh.told k1 hz1 fr1
    clear ho hf hd hNN hVV hww hmm hgg htp hud htl haa hxx
    have hh0 := hh
    obtain ⟨ho, hf, hd, hNN, hVV, hww, hmm, hgg, htp, hud, htl, haa, hxx⟩ := hh
    have hh := hh0
    replace hmA := hmm (mp k) hmk.2.2.2
    refine g_istn X.1.1 X.1.2.1 hl 3 d_Hall_next_43 rfl (Nat.le_of_ble_eq_true rfl) rfl (fun ls hl => ?_)
    refine lv_aload_n X.1.1 X.1.2.1 d_Hall_next_44 rfl (gl_at hl rfl) ?_
    refine g_get X kc_View hvc 5 (by decide) lk_Hall_138 rfl d_Hall_next_45 ?_
    refine g_cv (A := (fun p => b ≤ p)) X gWS_good mw_Hall_156 kc_Walker (hww k hk) (c_Walker_step l D q H8 (v_wk ad k) _ _ _ _ (hww k hk)) (fun _ _ _ => trivial) gBlind.tt rfl rfl hl.1 (Nat.le_of_ble_eq_true rfl) rfl rfl ⟨by decide, by decide⟩ ⟨by decide, by decide⟩ d_Hall_next_48 (fun p h => show b ≤ p by have h9 := hd.cells hk; omega) hL (fun v10 H11 locs hp12 hL => ?_)
    obtain ⟨rfl, k1, hz1, fr1⟩ := hp12
    replace frA : ∀ p : Nat, p < H.size → ¬ hZ b c0 ad p → H11[p]? = H[p]? := fun p hp hz => (fr1 p (by (have z1 := hZ_b hz); (have z2 := hZ_v hd hk hz); omega)).trans (frA p hp hz)
    replace zz := hz1.trans zz
    replace hh := hh.walk (w1 := ((wk k).1, (wk k).2.1 + 1, 1, (wk k).2.2.2)) hk k1 hz1 (fun p hp => fr1 p hp)
    clear ho hf hd hNN hVV hww hmm hgg htp hud htl haa hxx
    have hh0 := hh
    obtain ⟨ho, hf, hd, hNN, hVV, hww, hmm, hgg, htp, hud, htl, haa, hxx⟩ := hh
    have hh := hh0
    refine lv_iload_n X.1.1 X.1.2.1 d_Hall_next_51 rfl (gl_at hl rfl) ?_
    exact g_iret X B ⟨f0, t0, ⟨ms1, ms2, ms3, ms4, ms5, ms6⟩, rfl, hh, zz, frA⟩ hL d_Hall_next_52 (by omega) (by omega)
  · replace hc20 := gz_f hc20
    exact absurd hgo hc20

set_option maxHeartbeats 4000000 in
set_option maxRecDepth 100000 in
theorem t_Hall_next2 (l : Launch) (D : va_G) (q : Nat → ClassId) (H : Heap) (b : Nat) (c0 : Nat) (ad : Nat → Nat) (org : Nat → Option Nat) (srt : Nat → Nat) (bt : Nat → List Nat) (tn : Nat → Nat) (mp : Nat → Nat) (wk : Nat → Nat × Nat × Nat × Nat) (n : Nat → Nat) (ks : Nat → Nat → List Nat) (vs : Nat → Nat → Int32) (chg : Nat → Nat) (tp : List Nat) (ud : List Nat) (tl : List Nat) (an : Nat) (aks : Nat → List Nat) (aus : List Nat) (xs : List Nat) (us : List (List Nat)) (so : Nat) (hh : hA D q H b c0 ad org srt bt tn mp wk n ks vs chg tp ud tl an aks aus xs us so) (htr : ∀ e, l.admits e → e.platform.stackTraces = false) (xq : Nat → ClassId) (k : Nat) (hk : k < c0) (hb1 : chg (mp k) < 2 ^ 31) (hb2 : (wk k).1 < 2 ^ 31 ∧ (wk k).2.1 < 2 ^ 31 ∧ (wk k).2.2.1 < 2 ^ 31 ∧ (wk k).2.2.2 < 2 ^ 31) (hgo : ¬ ((wk k).1 ≠ 0 ∧ chg (mp k) = (wk k).2.2.2)) : gT l y_Hall_next (Cond.code y_Hall_next b_Hall_next 4 (some .int) :: gWS) (gR 8 129 1 6) D CL (gY q) (fun U => gEs b xq U) [.ref b, .int (nI k)] H (fun x H1 => (∃ ce : Cell, H1[x]? = some ce ∧ ce.cls = xq 2 ∧ ce.vm = .none) ∧ hA D q H1 b c0 ad org srt bt tn mp wk n ks vs chg tp ud tl an aks aus xs us so ∧ H1.size = H.size + 1 ∧ ∀ p : Nat, p < H.size → ¬ hZ b c0 ad p → H1[p]? = H[p]?) 1 6 (fun p => b ≤ p) := by
  refine gT.ofW R_Hall "next" (by decide) rfl rfl ?_
  intro p e s m below meth c hadm X hE hH B hne
  refine g_entry [some (.ref b), some (.int (nI k)), none, none] rfl rfl (Nat.le_of_ble_eq_true rfl) (fun ls hl => ?_)
  have hh0 := hh
  obtain ⟨ho, hf, hd, hNN, hVV, hww, hmm, hgg, htp, hud, htl, haa, hxx⟩ := hh
  have hh := hh0
  have frA : ∀ p : Nat, p < H.size → ¬ hZ b c0 ad p → H[p]? = H[p]? := fun _ _ _ => rfl
  have zz : H.size = H.size := rfl
  refine lv_aload_n X.1.1 X.1.2.1 d_Hall_next_0 rfl (gl_at hl rfl) ?_
  refine lv_iload_n X.1.1 X.1.2.1 d_Hall_next_1 rfl (gl_at hl rfl) ?_
  refine g_cv (A := (fun p => b ≤ p)) X gWS_good mw_Hall_118 kc_Hall ho (c_Hall_measured l D q H b c0 ho ad org srt bt tn mp hd hf hNN hVV n ks vs chg hmm k hk) (fun _ _ _ => trivial) gBlind.tt rfl rfl hl.1 (Nat.le_of_ble_eq_true rfl) rfl rfl ⟨by decide, by decide⟩ ⟨by decide, by decide⟩ d_Hall_next_2 (fun p h => show b ≤ p by have h9 := hd.lt hk; omega) (fun _ h => by cases h) (fun v1 H2 locs hp3 hL => ?_)
  obtain ⟨f0, t0, rfl, hvc, hms, hz1, fr1⟩ := hp3
  replace frA : ∀ p : Nat, p < H.size → ¬ hZ b c0 ad p → H2[p]? = H[p]? := fun p hp hz => (fr1 p (by (have z1 := hZ_b hz); (have z2 := hZ_v hd hk hz); omega)).trans (frA p hp hz)
  replace zz := hz1.trans zz
  replace hh := hh.measure hk hvc hz1 fr1
  clear ho hf hd hNN hVV hww hmm hgg htp hud htl haa hxx
  have hh0 := hh
  obtain ⟨ho, hf, hd, hNN, hVV, hww, hmm, hgg, htp, hud, htl, haa, hxx⟩ := hh
  have hh := hh0
  obtain ⟨ms1, ms2, ms3, ms4, ms5, ms6⟩ := hms
  have hmk := hNN k hk
  have hmA := hmm (mp k) hmk.2.2.2
  have hdl := hd.lt hk
  have hnm := hmA.1.2.1
  have hfar := hd.far hk hmk.2.2.2
  refine g_astn X.1.1 X.1.2.1 hl 2 d_Hall_next_5 rfl (Nat.le_of_ble_eq_true rfl) rfl (fun ls hl => ?_)
  obtain ⟨hmo, hnm9, ⟨mf, g, hmf, hfg, hg, hgi, hks⟩, hvv⟩ := hmA.1
  have hwk := hww k hk
  refine lv_aload_n X.1.1 X.1.2.1 d_Hall_next_6 rfl (gl_at hl rfl) ?_
  refine g_get X kc_View hvc 5 (by decide) lk_Hall_138 rfl d_Hall_next_7 ?_
  refine lv_aload_n X.1.1 X.1.2.1 d_Hall_next_10 rfl (gl_at hl rfl) ?_
  refine g_get X kc_View hvc 0 (by decide) lk_Hall_87 rfl d_Hall_next_11 ?_
  refine g_get X kc_KeyMap hmo 3 (by decide) lk_Hall_142 rfl d_Hall_next_14 ?_
  refine g_cv (A := (fun p => b ≤ p)) X gWS_good mw_Hall_150 kc_Walker hwk (c_Walker_mayGoOn l D q H2 (v_wk ad k) _ _ _ _ hwk (chg (mp k)) hb1 hb2.2.2.2 hb2.1) (fun _ _ _ => trivial) gBlind.tt rfl rfl hl.1 (Nat.le_of_ble_eq_true rfl) rfl rfl ⟨by decide, by decide⟩ ⟨by decide, by decide⟩ d_Hall_next_17 (fun _ h => h.elim) hL (fun v4 H5 locs hp6 hL => ?_)
  obtain ⟨rfl, hHe⟩ := hp6
  rw [hHe]
  refine lv_if_ne X.1.1 X.1.2.1 d_Hall_next_20 rfl (fun hc20 => ?_) (fun hc20 => ?_)
  · replace hc20 := gz_t hc20
    exact absurd hc20 hgo
  · replace hc20 := gz_f hc20
    exact g_throw X B hne htr hE 2 (by decide) hL hl.1 (h := H.size) zz (by rw [hH]; exact Nat.le_refl _) d_Hall_next_23 d_Hall_next_26 d_Hall_next_27 d_Hall_next_30 (by decide) (by decide) (by decide) (by decide) (fun H1 ce h1 h2 h3 h4 h5 => ⟨⟨ce, h1, h2, h3⟩, hh.grow (by omega) (fun p hp => h5 p (by omega)), h4, fun p hp hz => (h5 p hp).trans (frA p hp hz)⟩) hL (by decide) (by decide)

set_option maxHeartbeats 4000000 in
set_option maxRecDepth 100000 in
theorem t_Hall_next3 (l : Launch) (D : va_G) (q : Nat → ClassId) (H : Heap) (b : Nat) (c0 : Nat) (ad : Nat → Nat) (org : Nat → Option Nat) (srt : Nat → Nat) (bt : Nat → List Nat) (tn : Nat → Nat) (mp : Nat → Nat) (wk : Nat → Nat × Nat × Nat × Nat) (n : Nat → Nat) (ks : Nat → Nat → List Nat) (vs : Nat → Nat → Int32) (chg : Nat → Nat) (tp : List Nat) (ud : List Nat) (tl : List Nat) (an : Nat) (aks : Nat → List Nat) (aus : List Nat) (xs : List Nat) (us : List (List Nat)) (so : Nat) (hh : hA D q H b c0 ad org srt bt tn mp wk n ks vs chg tp ud tl an aks aus xs us so) (htr : ∀ e, l.admits e → e.platform.stackTraces = false) (xq : Nat → ClassId) (k : Nat) (hk : k < c0) (hb1 : chg (mp k) < 2 ^ 31) (hb2 : (wk k).1 < 2 ^ 31 ∧ (wk k).2.1 < 2 ^ 31 ∧ (wk k).2.2.1 < 2 ^ 31 ∧ (wk k).2.2.2 < 2 ^ 31) (hgo : (wk k).1 ≠ 0 ∧ chg (mp k) = (wk k).2.2.2) (hr0 : ∀ f0 t0, v_ms org srt bt k (n (mp k)) (ks (mp k)) f0 t0 → t0 - f0 ≤ (wk k).2.1) : gT l y_Hall_next (Cond.code y_Hall_next b_Hall_next 4 (some .int) :: gWS) (gR 8 129 1 6) D CL (gY q) (fun U => gEs b xq U) [.ref b, .int (nI k)] H (fun x H1 => (∃ ce : Cell, H1[x]? = some ce ∧ ce.cls = xq 3 ∧ ce.vm = .none) ∧ hA D q H1 b c0 ad org srt bt tn mp wk n ks vs chg tp ud tl an aks aus xs us so ∧ H1.size = H.size + 1 ∧ ∀ p : Nat, p < H.size → ¬ hZ b c0 ad p → H1[p]? = H[p]?) 1 6 (fun p => b ≤ p) := by
  refine gT.ofW R_Hall "next" (by decide) rfl rfl ?_
  intro p e s m below meth c hadm X hE hH B hne
  refine g_entry [some (.ref b), some (.int (nI k)), none, none] rfl rfl (Nat.le_of_ble_eq_true rfl) (fun ls hl => ?_)
  have hh0 := hh
  obtain ⟨ho, hf, hd, hNN, hVV, hww, hmm, hgg, htp, hud, htl, haa, hxx⟩ := hh
  have hh := hh0
  have frA : ∀ p : Nat, p < H.size → ¬ hZ b c0 ad p → H[p]? = H[p]? := fun _ _ _ => rfl
  have zz : H.size = H.size := rfl
  refine lv_aload_n X.1.1 X.1.2.1 d_Hall_next_0 rfl (gl_at hl rfl) ?_
  refine lv_iload_n X.1.1 X.1.2.1 d_Hall_next_1 rfl (gl_at hl rfl) ?_
  refine g_cv (A := (fun p => b ≤ p)) X gWS_good mw_Hall_118 kc_Hall ho (c_Hall_measured l D q H b c0 ho ad org srt bt tn mp hd hf hNN hVV n ks vs chg hmm k hk) (fun _ _ _ => trivial) gBlind.tt rfl rfl hl.1 (Nat.le_of_ble_eq_true rfl) rfl rfl ⟨by decide, by decide⟩ ⟨by decide, by decide⟩ d_Hall_next_2 (fun p h => show b ≤ p by have h9 := hd.lt hk; omega) (fun _ h => by cases h) (fun v1 H2 locs hp3 hL => ?_)
  obtain ⟨f0, t0, rfl, hvc, hms, hz1, fr1⟩ := hp3
  replace frA : ∀ p : Nat, p < H.size → ¬ hZ b c0 ad p → H2[p]? = H[p]? := fun p hp hz => (fr1 p (by (have z1 := hZ_b hz); (have z2 := hZ_v hd hk hz); omega)).trans (frA p hp hz)
  replace zz := hz1.trans zz
  replace hh := hh.measure hk hvc hz1 fr1
  clear ho hf hd hNN hVV hww hmm hgg htp hud htl haa hxx
  have hh0 := hh
  obtain ⟨ho, hf, hd, hNN, hVV, hww, hmm, hgg, htp, hud, htl, haa, hxx⟩ := hh
  have hh := hh0
  obtain ⟨ms1, ms2, ms3, ms4, ms5, ms6⟩ := hms
  have hmk := hNN k hk
  have hmA := hmm (mp k) hmk.2.2.2
  have hdl := hd.lt hk
  have hnm := hmA.1.2.1
  have hfar := hd.far hk hmk.2.2.2
  refine g_astn X.1.1 X.1.2.1 hl 2 d_Hall_next_5 rfl (Nat.le_of_ble_eq_true rfl) rfl (fun ls hl => ?_)
  obtain ⟨hmo, hnm9, ⟨mf, g, hmf, hfg, hg, hgi, hks⟩, hvv⟩ := hmA.1
  have hwk := hww k hk
  refine lv_aload_n X.1.1 X.1.2.1 d_Hall_next_6 rfl (gl_at hl rfl) ?_
  refine g_get X kc_View hvc 5 (by decide) lk_Hall_138 rfl d_Hall_next_7 ?_
  refine lv_aload_n X.1.1 X.1.2.1 d_Hall_next_10 rfl (gl_at hl rfl) ?_
  refine g_get X kc_View hvc 0 (by decide) lk_Hall_87 rfl d_Hall_next_11 ?_
  refine g_get X kc_KeyMap hmo 3 (by decide) lk_Hall_142 rfl d_Hall_next_14 ?_
  refine g_cv (A := (fun p => b ≤ p)) X gWS_good mw_Hall_150 kc_Walker hwk (c_Walker_mayGoOn l D q H2 (v_wk ad k) _ _ _ _ hwk (chg (mp k)) hb1 hb2.2.2.2 hb2.1) (fun _ _ _ => trivial) gBlind.tt rfl rfl hl.1 (Nat.le_of_ble_eq_true rfl) rfl rfl ⟨by decide, by decide⟩ ⟨by decide, by decide⟩ d_Hall_next_17 (fun _ h => h.elim) hL (fun v4 H5 locs hp6 hL => ?_)
  obtain ⟨rfl, hHe⟩ := hp6
  rw [hHe]
  refine lv_if_ne X.1.1 X.1.2.1 d_Hall_next_20 rfl (fun hc20 => ?_) (fun hc20 => ?_)
  · replace hc20 := gz_t hc20
    refine lv_aload_n X.1.1 X.1.2.1 d_Hall_next_31 rfl (gl_at hl rfl) ?_
    refine lv_aload_n X.1.1 X.1.2.1 d_Hall_next_32 rfl (gl_at hl rfl) ?_
    refine lv_aload_n X.1.1 X.1.2.1 d_Hall_next_33 rfl (gl_at hl rfl) ?_
    refine g_get X kc_View hvc 5 (by decide) lk_Hall_138 rfl d_Hall_next_34 ?_
    refine g_get X kc_Walker hwk 1 (by decide) lk_Hall_153 rfl d_Hall_next_37 ?_
    exact g_leave B hne (g_tv X gWS_good mw_Hall_128 kc_Hall ho (t_Hall_tell l D q H2 b c0 ho (ad k) _ _ _ _ _ _ f0 t0 hvc ms1 htr xq _ (h_nok hb2.2.1 (hr0 f0 t0 ⟨ms1, ms2, ms3, ms4, ms5, ms6⟩))) (fun V h1 h2 => hE.on (fun p hp => by rw [hH]; exact frA p (by omega) (fun h9 => by rcases h9 with h8 | ⟨j, j1, j2, j3, j4⟩; omega; (have h7 := hd.lt j2; omega))) h1 h2) (gEs.blind b xq) rfl rfl hl.1 (Nat.le_of_ble_eq_true rfl) rfl rfl ⟨by decide, by decide⟩ ⟨by decide, by decide⟩ d_Hall_next_40) (fun x H1 hp => (by obtain ⟨e1, e2, e3, e4⟩ := hp; exact ⟨e1, hh.grow (by omega) e4, by omega, fun p hp9 hz => (e4 p (by omega)).trans (frA p hp9 hz)⟩)) (fun _ h => h) hL (by decide) (by decide)
  · replace hc20 := gz_f hc20
    exact absurd hgo hc20

set_option maxHeartbeats 4000000 in
set_option maxRecDepth 100000 in
theorem c_Hall_drop (l : Launch) (D : va_G) (q : Nat → ClassId) (H : Heap) (b : Nat) (c0 : Nat) (ad : Nat → Nat) (org : Nat → Option Nat) (srt : Nat → Nat) (bt : Nat → List Nat) (tn : Nat → Nat) (mp : Nat → Nat) (wk : Nat → Nat × Nat × Nat × Nat) (n : Nat → Nat) (ks : Nat → Nat → List Nat) (vs : Nat → Nat → Int32) (chg : Nat → Nat) (tp : List Nat) (ud : List Nat) (tl : List Nat) (an : Nat) (aks : Nat → List Nat) (aus : List Nat) (xs : List Nat) (us : List (List Nat)) (so : Nat) (hh : hA D q H b c0 ad org srt bt tn mp wk n ks vs chg tp ud tl an aks aus xs us so) (k : Nat) (hk : k < c0) (hb1 : chg (mp k) < 2 ^ 31) (hb2 : (wk k).1 < 2 ^ 31 ∧ (wk k).2.1 < 2 ^ 31 ∧ (wk k).2.2.1 < 2 ^ 31 ∧ (wk k).2.2.2 < 2 ^ 31) (hgo : (wk k).1 ≠ 0 ∧ chg (mp k) = (wk k).2.2.2) (hht : (wk k).2.2.1 ≠ 0) (hr0 : ∀ f0 t0, v_ms org srt bt k (n (mp k)) (ks (mp k)) f0 t0 → 0 < (wk k).2.1 ∧ (wk k).2.1 ≤ t0 - f0) : gC l y_Hall_drop (Cond.code y_Hall_drop b_Hall_drop 5 (some .int) :: gWS) (gR 8 129 0 0) D CL (gY q) (fun _ => True) [.ref b, .int (nI k)] H (fun v1 H1 => ∃ f0 t0 : Nat, v_ms org srt bt k (n (mp k)) (ks (mp k)) f0 t0 ∧ v1 = some (.int (vs (mp k) (if tn k ≠ 0 then t0 - 1 - ((wk k).2.1 - 1) else f0 + ((wk k).2.1 - 1)))) ∧ hA D q H1 b c0 ad org srt bt tn mp (va_up wk k ((wk k).1, (wk k).2.1 - 1, 0, chg (mp k) + 1)) (va_up n (mp k) (n (mp k) - 1)) (va_up ks (mp k) (mCut (ks (mp k)) (if tn k ≠ 0 then t0 - 1 - ((wk k).2.1 - 1) else f0 + ((wk k).2.1 - 1)) (n (mp k)) (ks (mp k) (if tn k ≠ 0 then t0 - 1 - ((wk k).2.1 - 1) else f0 + ((wk k).2.1 - 1))))) (va_up vs (mp k) (sh_dn (vs (mp k)) (if tn k ≠ 0 then t0 - 1 - ((wk k).2.1 - 1) else f0 + ((wk k).2.1 - 1)) (n (mp k) - 1))) (va_up chg (mp k) (chg (mp k) + 1)) tp ud tl an aks aus xs us so ∧ H1.size = H.size ∧ ∀ p : Nat, p < H.size → ¬ hZ b c0 ad p → H1[p]? = H[p]?) 0 0 (fun p => b ≤ p) := by
  refine gC.ofW R_Hall "drop" (by decide) rfl rfl ?_
  intro p e s m below meth c hadm X hE hH B hne
  refine g_entry [some (.ref b), some (.int (nI k)), none, none, none] rfl rfl (Nat.le_of_ble_eq_true rfl) (fun ls hl => ?_)
  have hh0 := hh
  obtain ⟨ho, hf, hd, hNN, hVV, hww, hmm, hgg, htp, hud, htl, haa, hxx⟩ := hh
  have hh := hh0
  have frA : ∀ p : Nat, p < H.size → ¬ hZ b c0 ad p → H[p]? = H[p]? := fun _ _ _ => rfl
  have zz : H.size = H.size := rfl
  refine lv_aload_n X.1.1 X.1.2.1 d_Hall_drop_0 rfl (gl_at hl rfl) ?_
  refine lv_iload_n X.1.1 X.1.2.1 d_Hall_drop_1 rfl (gl_at hl rfl) ?_
  refine g_cv (A := (fun p => b ≤ p)) X gWS_good mw_Hall_118 kc_Hall ho (c_Hall_measured l D q H b c0 ho ad org srt bt tn mp hd hf hNN hVV n ks vs chg hmm k hk) (fun _ _ _ => trivial) gBlind.tt rfl rfl hl.1 (Nat.le_of_ble_eq_true rfl) rfl rfl ⟨by decide, by decide⟩ ⟨by decide, by decide⟩ d_Hall_drop_2 (fun p h => show b ≤ p by have h9 := hd.lt hk; omega) (fun _ h => by cases h) (fun v1 H2 locs hp3 hL => ?_)
  obtain ⟨f0, t0, rfl, hvc, hms, hz1, fr1⟩ := hp3
  replace frA : ∀ p : Nat, p < H.size → ¬ hZ b c0 ad p → H2[p]? = H[p]? := fun p hp hz => (fr1 p (by (have z1 := hZ_b hz); (have z2 := hZ_v hd hk hz); omega)).trans (frA p hp hz)
  replace zz := hz1.trans zz
  replace hh := hh.measure hk hvc hz1 fr1
  clear ho hf hd hNN hVV hww hmm hgg htp hud htl haa hxx
  have hh0 := hh
  obtain ⟨ho, hf, hd, hNN, hVV, hww, hmm, hgg, htp, hud, htl, haa, hxx⟩ := hh
  have hh := hh0
  obtain ⟨ms1, ms2, ms3, ms4, ms5, ms6⟩ := hms
  have hmk := hNN k hk
  have hmA := hmm (mp k) hmk.2.2.2
  have hdl := hd.lt hk
  have hnm := hmA.1.2.1
  have hfar := hd.far hk hmk.2.2.2
  refine g_astn X.1.1 X.1.2.1 hl 2 d_Hall_drop_5 rfl (Nat.le_of_ble_eq_true rfl) rfl (fun ls hl => ?_)
  obtain ⟨hmo, hnm9, ⟨mf, g, hmf, hfg, hg, hgi, hks⟩, hvv⟩ := hmA.1
  have hwk := hww k hk
  have hr := hr0 f0 t0 ⟨ms1, ms2, ms3, ms4, ms5, ms6⟩
  refine lv_aload_n X.1.1 X.1.2.1 d_Hall_drop_6 rfl (gl_at hl rfl) ?_
  refine g_get X kc_View hvc 5 (by decide) lk_Hall_138 rfl d_Hall_drop_7 ?_
  refine g_astn X.1.1 X.1.2.1 hl 3 d_Hall_drop_10 rfl (Nat.le_of_ble_eq_true rfl) rfl (fun ls hl => ?_)
  refine lv_aload_n X.1.1 X.1.2.1 d_Hall_drop_11 rfl (gl_at hl rfl) ?_
  refine lv_aload_n X.1.1 X.1.2.1 d_Hall_drop_12 rfl (gl_at hl rfl) ?_
  refine g_get X kc_View hvc 0 (by decide) lk_Hall_87 rfl d_Hall_drop_13 ?_
  refine g_get X kc_KeyMap hmo 3 (by decide) lk_Hall_142 rfl d_Hall_drop_16 ?_
  refine g_cv (A := (fun p => b ≤ p)) X gWS_good mw_Hall_150 kc_Walker hwk (c_Walker_mayGoOn l D q H2 (v_wk ad k) _ _ _ _ hwk (chg (mp k)) hb1 hb2.2.2.2 hb2.1) (fun _ _ _ => trivial) gBlind.tt rfl rfl hl.1 (Nat.le_of_ble_eq_true rfl) rfl rfl ⟨by decide, by decide⟩ ⟨by decide, by decide⟩ d_Hall_drop_19 (fun _ h => h.elim) hL (fun v4 H5 locs hp6 hL => ?_)
  obtain ⟨rfl, hHe⟩ := hp6
  rw [hHe]
  refine lv_if_eq X.1.1 X.1.2.1 d_Hall_drop_22 rfl (fun hc22 => ?_) (fun hc22 => ?_)
  · replace hc22 := gz_f hc22
    exact absurd hgo hc22
  · replace hc22 := gz_t hc22
    refine lv_aload_n X.1.1 X.1.2.1 d_Hall_drop_25 rfl (gl_at hl rfl) ?_
    refine g_get X kc_Walker hwk 2 (by decide) lk_Hall_159 rfl d_Hall_drop_26 ?_
    refine gn_ne0 X.1.1 X.1.2.1 ((wk k).2.2.1) (by omega) d_Hall_drop_29 rfl (fun hc29 => ?_) (fun hc29 => ?_)
    · refine lv_aload_n X.1.1 X.1.2.1 d_Hall_drop_40 rfl (gl_at hl rfl) ?_
      refine g_get X kc_View hvc 0 (by decide) lk_Hall_87 rfl d_Hall_drop_41 ?_
      refine lv_aload_n X.1.1 X.1.2.1 d_Hall_drop_44 rfl (gl_at hl rfl) ?_
      refine lv_aload_n X.1.1 X.1.2.1 d_Hall_drop_45 rfl (gl_at hl rfl) ?_
      refine g_get X kc_Walker hwk 1 (by decide) lk_Hall_153 rfl d_Hall_drop_46 ?_
      refine lv_iconst (v := nI 1) X.1.1 X.1.2.1 d_Hall_drop_49 (by decide) ?_
      refine lv_isub X.1.1 X.1.2.1 d_Hall_drop_50 ?_
      refine g_top (nI (((wk k).2.1) - 1)) (pk_sub (by omega)) ?_
      refine g_cv (A := (fun p => b ≤ p)) X gWS_good mw_Hall_132 kc_View hvc (c_View_placeRanked l D q H2 (ad k) _ _ _ _ _ _ f0 t0 hvc ((wk k).2.1 - 1) (by omega) (by omega)) (fun _ _ _ => trivial) gBlind.tt rfl rfl hl.1 (Nat.le_of_ble_eq_true rfl) rfl rfl ⟨by decide, by decide⟩ ⟨by decide, by decide⟩ d_Hall_drop_51 (fun _ h => h.elim) hL (fun v7 H8 locs hp9 hL => ?_)
      obtain ⟨rfl, hHe⟩ := hp9
      rw [hHe]
      have hpn : (if tn k ≠ 0 then t0 - 1 - ((wk k).2.1 - 1) else f0 + ((wk k).2.1 - 1)) < t0 := by split <;> omega
      refine g_cv (A := (fun p => b ≤ p)) X gWS_good mw_Hall_110 kc_KeyMap hmA.1.1 (c_KeyMap_takeOut l D q H2 _ _ _ _ _ hmA.1 (if tn k ≠ 0 then t0 - 1 - ((wk k).2.1 - 1) else f0 + ((wk k).2.1 - 1)) (by omega)) (fun _ _ _ => trivial) gBlind.tt rfl rfl hl.1 (Nat.le_of_ble_eq_true rfl) rfl rfl ⟨by decide, by decide⟩ ⟨by decide, by decide⟩ d_Hall_drop_54 (fun p h => show b ≤ p by omega) hL (fun v10 H11 locs hp12 hL => ?_)
      obtain ⟨rfl, k1, hz1, fr1⟩ := hp12
      replace hvc := va_at.kept hvc (fr1 _ (by have h9 := hd.far hk hmk.2.2.2; omega))
      replace frA : ∀ p : Nat, p < H.size → ¬ hZ b c0 ad p → H11[p]? = H[p]? := fun p hp hz => (fr1 p (by (have z1 := hZ_b hz); omega)).trans (frA p hp hz)
      replace zz := hz1.trans zz
      replace hh := hh.map hmk.2.2.2 k1 (mS_cut hmA.2 (by omega)) hz1 fr1
      clear ho hf hd hNN hVV hww hmm hgg htp hud htl haa hxx
      have hh0 := hh
      obtain ⟨ho, hf, hd, hNN, hVV, hww, hmm, hgg, htp, hud, htl, haa, hxx⟩ := hh
      have hh := hh0
      refine g_ist X.1.1 X.1.2.1 hl 4 d_Hall_drop_57 (Nat.le_of_ble_eq_true rfl) rfl (fun ls hl => ?_)
      have hmo := k1.1
      refine lv_aload_n X.1.1 X.1.2.1 d_Hall_drop_59 rfl (gl_at hl rfl) ?_
      refine lv_aload_n X.1.1 X.1.2.1 d_Hall_drop_60 rfl (gl_at hl rfl) ?_
      refine g_get X kc_View hvc 0 (by decide) lk_Hall_87 rfl d_Hall_drop_61 ?_
      refine g_get X kc_KeyMap hmo 3 (by decide) lk_Hall_142 rfl d_Hall_drop_64 ?_
      refine g_cv (A := (fun p => b ≤ p)) X gWS_good mw_Hall_163 kc_Walker (hww k hk) (c_Walker_stepBack l D q H11 (v_wk ad k) _ _ _ _ (hww k hk) (chg (mp k) + 1) (by omega)) (fun _ _ _ => trivial) gBlind.tt rfl rfl hl.1 (Nat.le_of_ble_eq_true rfl) rfl rfl ⟨by decide, by decide⟩ ⟨by decide, by decide⟩ d_Hall_drop_67 (fun p h => show b ≤ p by have h9 := hd.cells hk; omega) hL (fun v13 H14 locs hp15 hL => ?_)
      obtain ⟨rfl, kw1, hz1, fr1⟩ := hp15
      replace frA : ∀ p : Nat, p < H.size → ¬ hZ b c0 ad p → H14[p]? = H[p]? := fun p hp hz => (fr1 p (by (have z1 := hZ_b hz); (have z2 := hZ_v hd hk hz); omega)).trans (frA p hp hz)
      replace zz := hz1.trans zz
      replace hh := hh.walk (w1 := ((wk k).1, (wk k).2.1 - 1, 0, chg (mp k) + 1)) hk kw1 hz1 (fun p hp => fr1 p hp)
      clear ho hf hd hNN hVV hww hmm hgg htp hud htl haa hxx
      have hh0 := hh
      obtain ⟨ho, hf, hd, hNN, hVV, hww, hmm, hgg, htp, hud, htl, haa, hxx⟩ := hh
      have hh := hh0
      refine lv_iload X.1.1 X.1.2.1 d_Hall_drop_70 (gl_at hl rfl) ?_
      exact g_iret X B ⟨f0, t0, ⟨ms1, ms2, ms3, ms4, ms5, ms6⟩, rfl, hh, zz, frA⟩ hL d_Hall_drop_72 (by omega) (by omega)
    · exact absurd hc29 hht

set_option maxHeartbeats 4000000 in
set_option maxRecDepth 100000 in
theorem t_Hall_drop2 (l : Launch) (D : va_G) (q : Nat → ClassId) (H : Heap) (b : Nat) (c0 : Nat) (ad : Nat → Nat) (org : Nat → Option Nat) (srt : Nat → Nat) (bt : Nat → List Nat) (tn : Nat → Nat) (mp : Nat → Nat) (wk : Nat → Nat × Nat × Nat × Nat) (n : Nat → Nat) (ks : Nat → Nat → List Nat) (vs : Nat → Nat → Int32) (chg : Nat → Nat) (tp : List Nat) (ud : List Nat) (tl : List Nat) (an : Nat) (aks : Nat → List Nat) (aus : List Nat) (xs : List Nat) (us : List (List Nat)) (so : Nat) (hh : hA D q H b c0 ad org srt bt tn mp wk n ks vs chg tp ud tl an aks aus xs us so) (htr : ∀ e, l.admits e → e.platform.stackTraces = false) (xq : Nat → ClassId) (k : Nat) (hk : k < c0) (hb1 : chg (mp k) < 2 ^ 31) (hb2 : (wk k).1 < 2 ^ 31 ∧ (wk k).2.1 < 2 ^ 31 ∧ (wk k).2.2.1 < 2 ^ 31 ∧ (wk k).2.2.2 < 2 ^ 31) (hbad : ¬ (((wk k).1 ≠ 0 ∧ chg (mp k) = (wk k).2.2.2) ∧ (wk k).2.2.1 ≠ 0)) : gT l y_Hall_drop (Cond.code y_Hall_drop b_Hall_drop 5 (some .int) :: gWS) (gR 8 129 1 6) D CL (gY q) (fun U => gEs b xq U) [.ref b, .int (nI k)] H (fun x H1 => (∃ ce : Cell, H1[x]? = some ce ∧ ce.cls = xq 2 ∧ ce.vm = .none) ∧ hA D q H1 b c0 ad org srt bt tn mp wk n ks vs chg tp ud tl an aks aus xs us so ∧ H1.size = H.size + 1 ∧ ∀ p : Nat, p < H.size → ¬ hZ b c0 ad p → H1[p]? = H[p]?) 1 6 (fun p => b ≤ p) := by
  refine gT.ofW R_Hall "drop" (by decide) rfl rfl ?_
  intro p e s m below meth c hadm X hE hH B hne
  refine g_entry [some (.ref b), some (.int (nI k)), none, none, none] rfl rfl (Nat.le_of_ble_eq_true rfl) (fun ls hl => ?_)
  have hh0 := hh
  obtain ⟨ho, hf, hd, hNN, hVV, hww, hmm, hgg, htp, hud, htl, haa, hxx⟩ := hh
  have hh := hh0
  have frA : ∀ p : Nat, p < H.size → ¬ hZ b c0 ad p → H[p]? = H[p]? := fun _ _ _ => rfl
  have zz : H.size = H.size := rfl
  refine lv_aload_n X.1.1 X.1.2.1 d_Hall_drop_0 rfl (gl_at hl rfl) ?_
  refine lv_iload_n X.1.1 X.1.2.1 d_Hall_drop_1 rfl (gl_at hl rfl) ?_
  refine g_cv (A := (fun p => b ≤ p)) X gWS_good mw_Hall_118 kc_Hall ho (c_Hall_measured l D q H b c0 ho ad org srt bt tn mp hd hf hNN hVV n ks vs chg hmm k hk) (fun _ _ _ => trivial) gBlind.tt rfl rfl hl.1 (Nat.le_of_ble_eq_true rfl) rfl rfl ⟨by decide, by decide⟩ ⟨by decide, by decide⟩ d_Hall_drop_2 (fun p h => show b ≤ p by have h9 := hd.lt hk; omega) (fun _ h => by cases h) (fun v1 H2 locs hp3 hL => ?_)
  obtain ⟨f0, t0, rfl, hvc, hms, hz1, fr1⟩ := hp3
  replace frA : ∀ p : Nat, p < H.size → ¬ hZ b c0 ad p → H2[p]? = H[p]? := fun p hp hz => (fr1 p (by (have z1 := hZ_b hz); (have z2 := hZ_v hd hk hz); omega)).trans (frA p hp hz)
  replace zz := hz1.trans zz
  replace hh := hh.measure hk hvc hz1 fr1
  clear ho hf hd hNN hVV hww hmm hgg htp hud htl haa hxx
  have hh0 := hh
  obtain ⟨ho, hf, hd, hNN, hVV, hww, hmm, hgg, htp, hud, htl, haa, hxx⟩ := hh
  have hh := hh0
  obtain ⟨ms1, ms2, ms3, ms4, ms5, ms6⟩ := hms
  have hmk := hNN k hk
  have hmA := hmm (mp k) hmk.2.2.2
  have hdl := hd.lt hk
  have hnm := hmA.1.2.1
  have hfar := hd.far hk hmk.2.2.2
  refine g_astn X.1.1 X.1.2.1 hl 2 d_Hall_drop_5 rfl (Nat.le_of_ble_eq_true rfl) rfl (fun ls hl => ?_)
  obtain ⟨hmo, hnm9, ⟨mf, g, hmf, hfg, hg, hgi, hks⟩, hvv⟩ := hmA.1
  have hwk := hww k hk
  refine lv_aload_n X.1.1 X.1.2.1 d_Hall_drop_6 rfl (gl_at hl rfl) ?_
  refine g_get X kc_View hvc 5 (by decide) lk_Hall_138 rfl d_Hall_drop_7 ?_
  refine g_astn X.1.1 X.1.2.1 hl 3 d_Hall_drop_10 rfl (Nat.le_of_ble_eq_true rfl) rfl (fun ls hl => ?_)
  refine lv_aload_n X.1.1 X.1.2.1 d_Hall_drop_11 rfl (gl_at hl rfl) ?_
  refine lv_aload_n X.1.1 X.1.2.1 d_Hall_drop_12 rfl (gl_at hl rfl) ?_
  refine g_get X kc_View hvc 0 (by decide) lk_Hall_87 rfl d_Hall_drop_13 ?_
  refine g_get X kc_KeyMap hmo 3 (by decide) lk_Hall_142 rfl d_Hall_drop_16 ?_
  refine g_cv (A := (fun p => b ≤ p)) X gWS_good mw_Hall_150 kc_Walker hwk (c_Walker_mayGoOn l D q H2 (v_wk ad k) _ _ _ _ hwk (chg (mp k)) hb1 hb2.2.2.2 hb2.1) (fun _ _ _ => trivial) gBlind.tt rfl rfl hl.1 (Nat.le_of_ble_eq_true rfl) rfl rfl ⟨by decide, by decide⟩ ⟨by decide, by decide⟩ d_Hall_drop_19 (fun _ h => h.elim) hL (fun v4 H5 locs hp6 hL => ?_)
  obtain ⟨rfl, hHe⟩ := hp6
  rw [hHe]
  refine lv_if_eq X.1.1 X.1.2.1 d_Hall_drop_22 rfl (fun hc22 => ?_) (fun hc22 => ?_)
  · replace hc22 := gz_f hc22
    exact g_throw X B hne htr hE 2 (by decide) hL hl.1 (h := H.size) zz (by rw [hH]; exact Nat.le_refl _) d_Hall_drop_32 d_Hall_drop_35 d_Hall_drop_36 d_Hall_drop_39 (by decide) (by decide) (by decide) (by decide) (fun H1 ce h1 h2 h3 h4 h5 => ⟨⟨ce, h1, h2, h3⟩, hh.grow (by omega) (fun p hp => h5 p (by omega)), h4, fun p hp hz => (h5 p hp).trans (frA p hp hz)⟩) hL (by decide) (by decide)
  · replace hc22 := gz_t hc22
    refine lv_aload_n X.1.1 X.1.2.1 d_Hall_drop_25 rfl (gl_at hl rfl) ?_
    refine g_get X kc_Walker hwk 2 (by decide) lk_Hall_159 rfl d_Hall_drop_26 ?_
    refine gn_ne0 X.1.1 X.1.2.1 ((wk k).2.2.1) (by omega) d_Hall_drop_29 rfl (fun hc29 => ?_) (fun hc29 => ?_)
    · exact absurd ⟨hc22, hc29⟩ hbad
    · exact g_throw X B hne htr hE 2 (by decide) hL hl.1 (h := H.size) zz (by rw [hH]; exact Nat.le_refl _) d_Hall_drop_32 d_Hall_drop_35 d_Hall_drop_36 d_Hall_drop_39 (by decide) (by decide) (by decide) (by decide) (fun H1 ce h1 h2 h3 h4 h5 => ⟨⟨ce, h1, h2, h3⟩, hh.grow (by omega) (fun p hp => h5 p (by omega)), h4, fun p hp hz => (h5 p hp).trans (frA p hp hz)⟩) hL (by decide) (by decide)

set_option maxHeartbeats 4000000 in
set_option maxRecDepth 100000 in
theorem c_Hall_freeze (l : Launch) (D : va_G) (q : Nat → ClassId) (H : Heap) (b : Nat) (c0 : Nat) (ad : Nat → Nat) (org : Nat → Option Nat) (srt : Nat → Nat) (bt : Nat → List Nat) (tn : Nat → Nat) (mp : Nat → Nat) (wk : Nat → Nat × Nat × Nat × Nat) (n : Nat → Nat) (ks : Nat → Nat → List Nat) (vs : Nat → Nat → Int32) (chg : Nat → Nat) (tp : List Nat) (ud : List Nat) (tl : List Nat) (an : Nat) (aks : Nat → List Nat) (aus : List Nat) (xs : List Nat) (us : List (List Nat)) (so : Nat) (hh : hA D q H b c0 ad org srt bt tn mp wk n ks vs chg tp ud tl an aks aus xs us so) (k : Nat) (hk : k < c0) : gC l y_Hall_freeze (Cond.code y_Hall_freeze b_Hall_freeze 2 (some .int) :: gWS) (gR 8 129 0 0) D CL (gY q) (fun _ => True) [.ref b, .int (nI k)] H (fun v1 H1 => ∃ (f0 t0 : Nat) (ks1 : Nat → List Nat) (us1 : List Nat), v_ms org srt bt k (n (mp k)) (ks (mp k)) f0 t0 ∧ (∀ j, j < t0 - f0 → ks1 j = ks (mp k) (f0 + j)) ∧ v1 = some (.int (nI us1.length)) ∧ hA D q H1 b c0 ad org srt bt tn mp wk n ks vs chg tp ud tl (t0 - f0) ks1 us1 xs us so ∧ H1.size = H.size ∧ ∀ p : Nat, p < H.size → ¬ hZ b c0 ad p → H1[p]? = H[p]?) 0 0 (fun p => b ≤ p) := by
  refine gC.ofW R_Hall "freeze" (by decide) rfl rfl ?_
  intro p e s m below meth c hadm X hE hH B hne
  refine g_entry [some (.ref b), some (.int (nI k))] rfl rfl (Nat.le_of_ble_eq_true rfl) (fun ls hl => ?_)
  have hh0 := hh
  obtain ⟨ho, hf, hd, hNN, hVV, hww, hmm, hgg, htp, hud, htl, haa, hxx⟩ := hh
  have hh := hh0
  have frA : ∀ p : Nat, p < H.size → ¬ hZ b c0 ad p → H[p]? = H[p]? := fun _ _ _ => rfl
  have zz : H.size = H.size := rfl
  refine lv_aload_n X.1.1 X.1.2.1 d_Hall_freeze_0 rfl (gl_at hl rfl) ?_
  refine g_get X kc_Hall ho 6 (by decide) lk_Hall_48 rfl d_Hall_freeze_1 ?_
  refine lv_aload_n X.1.1 X.1.2.1 d_Hall_freeze_4 rfl (gl_at hl rfl) ?_
  refine lv_iload_n X.1.1 X.1.2.1 d_Hall_freeze_5 rfl (gl_at hl rfl) ?_
  refine g_cv (A := (fun p => b ≤ p)) X gWS_good mw_Hall_118 kc_Hall ho (c_Hall_measured l D q H b c0 ho ad org srt bt tn mp hd hf hNN hVV n ks vs chg hmm k hk) (fun _ _ _ => trivial) gBlind.tt rfl rfl hl.1 (Nat.le_of_ble_eq_true rfl) rfl rfl ⟨by decide, by decide⟩ ⟨by decide, by decide⟩ d_Hall_freeze_6 (fun p h => show b ≤ p by have h9 := hd.lt hk; omega) (fun _ h => by cases h) (fun v1 H2 locs hp3 hL => ?_)
  obtain ⟨f0, t0, rfl, hvc, hms, hz1, fr1⟩ := hp3
  replace frA : ∀ p : Nat, p < H.size → ¬ hZ b c0 ad p → H2[p]? = H[p]? := fun p hp hz => (fr1 p (by (have z1 := hZ_b hz); (have z2 := hZ_v hd hk hz); omega)).trans (frA p hp hz)
  replace zz := hz1.trans zz
  replace hh := hh.measure hk hvc hz1 fr1
  clear ho hf hd hNN hVV hww hmm hgg htp hud htl haa hxx
  have hh0 := hh
  obtain ⟨ho, hf, hd, hNN, hVV, hww, hmm, hgg, htp, hud, htl, haa, hxx⟩ := hh
  have hh := hh0
  obtain ⟨ms1, ms2, ms3, ms4, ms5, ms6⟩ := hms
  have hmk := hNN k hk
  have hmA := hmm (mp k) hmk.2.2.2
  have hdl := hd.lt hk
  have hnm := hmA.1.2.1
  have hfar := hd.far hk hmk.2.2.2
  refine g_cv (A := (fun p => b ≤ p)) X gWS_good mw_Hall_194 kc_Automaton haa.1 (c_Automaton_become l D q H2 (b + 416) an aks aus haa (ad k) _ _ _ _ _ _ f0 t0 hvc _ _ _ _ hmA.1 ms1 ms2 (by have h9 := hd.cells hk; omega) (by omega)) (fun _ _ _ => trivial) gBlind.tt rfl rfl hl.1 (Nat.le_of_ble_eq_true rfl) rfl rfl ⟨by decide, by decide⟩ ⟨by decide, by decide⟩ d_Hall_freeze_9 (fun p h => show b ≤ p by omega) hL (fun v4 H5 locs hp6 hL => ?_)
  obtain ⟨rfl, ⟨ks1, us1, hk1, k1⟩, hz1, fr1⟩ := hp6
  replace frA : ∀ p : Nat, p < H.size → ¬ hZ b c0 ad p → H5[p]? = H[p]? := fun p hp hz => (fr1 p (by (have z1 := hZ_b hz); omega)).trans (frA p hp hz)
  replace zz := hz1.trans zz
  replace hh := hh.aut k1 hz1 fr1
  clear ho hf hd hNN hVV hww hmm hgg htp hud htl haa hxx
  have hh0 := hh
  obtain ⟨ho, hf, hd, hNN, hVV, hww, hmm, hgg, htp, hud, htl, haa, hxx⟩ := hh
  have hh := hh0
  have hao := haa.1
  refine lv_aload_n X.1.1 X.1.2.1 d_Hall_freeze_12 rfl (gl_at hl rfl) ?_
  refine g_get X kc_Hall ho 6 (by decide) lk_Hall_48 rfl d_Hall_freeze_13 ?_
  refine g_get X kc_Automaton hao 8 (by decide) lk_Hall_198 rfl d_Hall_freeze_16 ?_
  exact g_iret X B ⟨f0, t0, ks1, us1, ⟨ms1, ms2, ms3, ms4, ms5, ms6⟩, hk1, rfl, hh, zz, frA⟩ hL d_Hall_freeze_19 (by omega) (by omega)

set_option maxHeartbeats 4000000 in
set_option maxRecDepth 100000 in
theorem c_Hall_match (l : Launch) (D : va_G) (q : Nat → ClassId) (H : Heap) (b : Nat) (c0 : Nat) (ad : Nat → Nat) (org : Nat → Option Nat) (srt : Nat → Nat) (bt : Nat → List Nat) (tn : Nat → Nat) (mp : Nat → Nat) (wk : Nat → Nat × Nat × Nat × Nat) (n : Nat → Nat) (ks : Nat → Nat → List Nat) (vs : Nat → Nat → Int32) (chg : Nat → Nat) (tp : List Nat) (ud : List Nat) (tl : List Nat) (an : Nat) (aks : Nat → List Nat) (aus : List Nat) (xs : List Nat) (us : List (List Nat)) (so : Nat) (hh : hA D q H b c0 ad org srt bt tn mp wk n ks vs chg tp ud tl an aks aus xs us so) (k : Nat) (hk : k < c0) (d : Nat) (hd31 : d < 2 ^ 31) : gC l y_Hall_match (Cond.code y_Hall_match b_Hall_match 6 (some .int) :: gWS) (gR 8 129 0 0) D CL (gY q) (fun _ => True) [.ref b, .int (nI k), .int (nI d)] H (fun v1 H1 => ∃ f0 t0 : Nat, v_ms org srt bt k (n (mp k)) (ks (mp k)) f0 t0 ∧ v1 = some (.int (nI (v_cnt (fun j => decide ((ks (mp k) j).length = tp.length ∧ t_diff tp (ks (mp k) j) tp.length ≤ d)) f0 (t0 - f0)))) ∧ hA D q H1 b c0 ad org srt bt tn mp wk n ks vs chg [] tp tl an aks aus xs us so ∧ H1.size = H.size ∧ ∀ p : Nat, p < H.size → ¬ hZ b c0 ad p → H1[p]? = H[p]?) 0 0 (fun p => b ≤ p) := by
  refine gC.ofW R_Hall "match" (by decide) rfl rfl ?_
  intro p e s m below meth c hadm X hE hH B hne
  refine g_entry [some (.ref b), some (.int (nI k)), some (.int (nI d)), none, none, none] rfl rfl (Nat.le_of_ble_eq_true rfl) (fun ls hl => ?_)
  have hh0 := hh
  obtain ⟨ho, hf, hd, hNN, hVV, hww, hmm, hgg, htp, hud, htl, haa, hxx⟩ := hh
  have hh := hh0
  have frA : ∀ p : Nat, p < H.size → ¬ hZ b c0 ad p → H[p]? = H[p]? := fun _ _ _ => rfl
  have zz : H.size = H.size := rfl
  refine lv_aload_n X.1.1 X.1.2.1 d_Hall_match_0 rfl (gl_at hl rfl) ?_
  refine lv_iload_n X.1.1 X.1.2.1 d_Hall_match_1 rfl (gl_at hl rfl) ?_
  refine g_cv (A := (fun p => b ≤ p)) X gWS_good mw_Hall_118 kc_Hall ho (c_Hall_measured l D q H b c0 ho ad org srt bt tn mp hd hf hNN hVV n ks vs chg hmm k hk) (fun _ _ _ => trivial) gBlind.tt rfl rfl hl.1 (Nat.le_of_ble_eq_true rfl) rfl rfl ⟨by decide, by decide⟩ ⟨by decide, by decide⟩ d_Hall_match_2 (fun p h => show b ≤ p by have h9 := hd.lt hk; omega) (fun _ h => by cases h) (fun v1 H2 locs hp3 hL => ?_)
  obtain ⟨f0, t0, rfl, hvc, hms, hz1, fr1⟩ := hp3
  replace frA : ∀ p : Nat, p < H.size → ¬ hZ b c0 ad p → H2[p]? = H[p]? := fun p hp hz => (fr1 p (by (have z1 := hZ_b hz); (have z2 := hZ_v hd hk hz); omega)).trans (frA p hp hz)
  replace zz := hz1.trans zz
  replace hh := hh.measure hk hvc hz1 fr1
  clear ho hf hd hNN hVV hww hmm hgg htp hud htl haa hxx
  have hh0 := hh
  obtain ⟨ho, hf, hd, hNN, hVV, hww, hmm, hgg, htp, hud, htl, haa, hxx⟩ := hh
  have hh := hh0
  obtain ⟨ms1, ms2, ms3, ms4, ms5, ms6⟩ := hms
  have hmk := hNN k hk
  have hmA := hmm (mp k) hmk.2.2.2
  have hdl := hd.lt hk
  have hnm := hmA.1.2.1
  have hfar := hd.far hk hmk.2.2.2
  refine g_astn X.1.1 X.1.2.1 hl 3 d_Hall_match_5 rfl (Nat.le_of_ble_eq_true rfl) rfl (fun ls hl => ?_)
  refine lv_aload_n X.1.1 X.1.2.1 d_Hall_match_6 rfl (gl_at hl rfl) ?_
  refine g_cv (A := (fun p => b ≤ p)) X gWS_good mw_Hall_74 kc_Hall ho (c_Hall_useTape l D q H2 b c0 ho tp ud htp hud) (fun _ _ _ => trivial) gBlind.tt rfl rfl hl.1 (Nat.le_of_ble_eq_true rfl) rfl rfl ⟨by decide, by decide⟩ ⟨by decide, by decide⟩ d_Hall_match_7 (fun p h => show b ≤ p by omega) hL (fun v4 H5 locs hp6 hL => ?_)
  obtain ⟨rfl, k1, k2, hz1, fr1⟩ := hp6
  replace hvc := va_at.kept hvc (fr1 _ (by omega))
  replace frA : ∀ p : Nat, p < H.size → ¬ hZ b c0 ad p → H5[p]? = H[p]? := fun p hp hz => (fr1 p (by (have z1 := hZ_b hz); omega)).trans (frA p hp hz)
  replace zz := hz1.trans zz
  replace hh := hh.tape k1 k2 hz1 fr1
  clear ho hf hd hNN hVV hww hmm hgg htp hud htl haa hxx
  have hh0 := hh
  obtain ⟨ho, hf, hd, hNN, hVV, hww, hmm, hgg, htp, hud, htl, haa, hxx⟩ := hh
  have hh := hh0
  replace hmA := hmm (mp k) hmk.2.2.2
  refine lv_iload_n X.1.1 X.1.2.1 d_Hall_match_10 rfl (gl_at hl rfl) ?_
  refine lv_if_ge X.1.1 X.1.2.1 d_Hall_match_11 rfl (fun hc11 => ?_) (fun hc11 => ?_)
  · obtain ⟨hmo, hnm9, ⟨mf, g, hmf, hfg, hg, hgi, hks⟩, hvv⟩ := hmA.1
    refine lv_iconst (v := nI 0) X.1.1 X.1.2.1 d_Hall_match_22 (by decide) ?_
    refine g_ist X.1.1 X.1.2.1 hl 4 d_Hall_match_23 (Nat.le_of_ble_eq_true rfl) rfl (fun ls hl => ?_)
    refine lv_aload_n X.1.1 X.1.2.1 d_Hall_match_25 rfl (gl_at hl rfl) ?_
    refine g_get X kc_View hvc 6 (by decide) lk_Hall_166 rfl d_Hall_match_26 ?_
    refine g_ist X.1.1 X.1.2.1 hl 5 d_Hall_match_29 (Nat.le_of_ble_eq_true rfl) rfl (fun ls hl => ?_)
    have loop31 : ∀ (fu : Nat) (i : Nat) (ct : Nat) (locs : List Loc) (ls : Array Slot), t0 - i < fu → (f0 ≤ i) → (i ≤ t0) → (ct = v_cnt (fun j => decide ((ks (mp k) j).length = tp.length ∧ t_diff tp (ks (mp k) j) tp.length ≤ d)) f0 (i - f0)) → (∀ x ∈ locs, (fun p => b ≤ p) x.base) → gl ls [some (.ref b), some (.int (nI k)), some (.int (nI d)), some (.ref (ad k)), some (.int (nI ct)), some (.int (nI i))] → W p l e (gR 8 129 0 0) s m ([.ref b, .int (nI k), .int (nI d)] : List Value).toArray below meth c H5 locs 0 0 (gQ below ([.ref b, .int (nI k), .int (nI d)] : List Value).toArray s (fun v1 H1 => ∃ f0 t0 : Nat, v_ms org srt bt k (n (mp k)) (ks (mp k)) f0 t0 ∧ v1 = some (.int (nI (v_cnt (fun j => decide ((ks (mp k) j).length = tp.length ∧ t_diff tp (ks (mp k) j) tp.length ≤ d)) f0 (t0 - f0)))) ∧ hA D q H1 b c0 ad org srt bt tn mp wk n ks vs chg [] tp tl an aks aus xs us so ∧ H1.size = H.size ∧ ∀ p : Nat, p < H.size → ¬ hZ b c0 ad p → H1[p]? = H[p]?) 0 0 (fun p => b ≤ p)) (F0 m 31 ls []) := by
      intro fu
      induction fu with
      | zero => intro i ct locs ls hmu; omega
      | succ fu ih31 =>
        intro i ct locs ls hmu31 hi31_0 hi31_1 hi31_2 hL hl
        refine lv_iload X.1.1 X.1.2.1 d_Hall_match_31 (gl_at hl rfl) ?_
        refine lv_aload_n X.1.1 X.1.2.1 d_Hall_match_33 rfl (gl_at hl rfl) ?_
        refine g_get X kc_View hvc 7 (by decide) lk_Hall_169 rfl d_Hall_match_34 ?_
        refine gn_ge X.1.1 X.1.2.1 i t0 (by omega) (by omega) d_Hall_match_37 rfl (fun hc37 => ?_) (fun hc37 => ?_)
        · have e9 : i = t0 := by omega
          subst e9
          refine lv_iload X.1.1 X.1.2.1 d_Hall_match_70 (gl_at hl rfl) ?_
          exact g_iret X B ⟨f0, _, ⟨ms1, ms2, ms3, ms4, ms5, ms6⟩, by rw [hi31_2], hh, zz, frA⟩ hL d_Hall_match_72 (by omega) (by omega)
        · refine lv_aload_n X.1.1 X.1.2.1 d_Hall_match_40 rfl (gl_at hl rfl) ?_
          refine g_get X kc_Hall ho 1 (by decide) lk_Hall_16 rfl d_Hall_match_41 ?_
          refine lv_aload_n X.1.1 X.1.2.1 d_Hall_match_44 rfl (gl_at hl rfl) ?_
          refine g_get X kc_View hvc 0 (by decide) lk_Hall_87 rfl d_Hall_match_45 ?_
          refine g_get X kc_KeyMap hmo 0 (by decide) lk_Hall_172 rfl d_Hall_match_48 ?_
          refine lv_iload X.1.1 X.1.2.1 d_Hall_match_51 (gl_at hl rfl) ?_
          refine g_aald X 3 hmf rfl i (by omega) (by decide) (v := .ref (g i)) (by rw [hfg _ (by omega)]; rfl) d_Hall_match_53 ?_
          refine lv_iload_n X.1.1 X.1.2.1 d_Hall_match_54 rfl (gl_at hl rfl) ?_
          refine g_cv (A := (fun p => b ≤ p)) X gWS_good mw_Hall_176 kc_Key hud.1 (c_Key_matches l D q H5 (b + 3) (g i) tp (ks (mp k) i) hud (hks i (by omega)) d hd31) (fun _ _ _ => trivial) gBlind.tt rfl rfl hl.1 (Nat.le_of_ble_eq_true rfl) rfl rfl ⟨by decide, by decide⟩ ⟨by decide, by decide⟩ d_Hall_match_55 (fun _ h => h.elim) hL (fun v7 H8 locs hp9 hL => ?_)
          obtain ⟨rfl, hHe⟩ := hp9
          rw [hHe]
          refine lv_if_eq X.1.1 X.1.2.1 d_Hall_match_58 rfl (fun hc58 => ?_) (fun hc58 => ?_)
          · replace hc58 := gz_f hc58
            refine g_iinc X.1.1 X.1.2.1 (nI (i + 1)) hl 5 d_Hall_match_64 rfl (nI_1 _) rfl (fun ls hl => ?_)
            refine lv_goto X.1.1 X.1.2.1 d_Hall_match_67 rfl ?_
            exact ih31 (i + 1) ct locs ls (by omega) (by omega) (by omega) (by rw [show i + 1 - f0 = (i - f0) + 1 by omega, v_cnt, show f0 + (i - f0) = i by omega]; first | (rw [if_pos (decide_eq_true hc58)]; omega) | (rw [if_neg (fun h => hc58 (of_decide_eq_true h))]; omega)) hL hl
          · replace hc58 := gz_t hc58
            refine g_iinc X.1.1 X.1.2.1 (nI (ct + 1)) hl 4 d_Hall_match_61 rfl (nI_1 _) rfl (fun ls hl => ?_)
            refine g_iinc X.1.1 X.1.2.1 (nI (i + 1)) hl 5 d_Hall_match_64 rfl (nI_1 _) rfl (fun ls hl => ?_)
            refine lv_goto X.1.1 X.1.2.1 d_Hall_match_67 rfl ?_
            exact ih31 (i + 1) (ct + 1) locs ls (by omega) (by omega) (by omega) (by rw [show i + 1 - f0 = (i - f0) + 1 by omega, v_cnt, show f0 + (i - f0) = i by omega]; first | (rw [if_pos (decide_eq_true hc58)]; omega) | (rw [if_neg (fun h => hc58 (of_decide_eq_true h))]; omega)) hL hl
    exact loop31 _ f0 0 locs ls (Nat.lt_succ_self _) (Nat.le_refl _) ms1 (by rw [Nat.sub_self]; rfl) hL hl
  · exact absurd (Int32.le_iff_toInt_le.mpr (by rw [nI_toInt hd31]; show (0 : Int) ≤ _; omega)) hc11

set_option maxHeartbeats 4000000 in
set_option maxRecDepth 100000 in
theorem t_Hall_match1 (l : Launch) (D : va_G) (q : Nat → ClassId) (H : Heap) (b : Nat) (c0 : Nat) (ad : Nat → Nat) (org : Nat → Option Nat) (srt : Nat → Nat) (bt : Nat → List Nat) (tn : Nat → Nat) (mp : Nat → Nat) (wk : Nat → Nat × Nat × Nat × Nat) (n : Nat → Nat) (ks : Nat → Nat → List Nat) (vs : Nat → Nat → Int32) (chg : Nat → Nat) (tp : List Nat) (ud : List Nat) (tl : List Nat) (an : Nat) (aks : Nat → List Nat) (aus : List Nat) (xs : List Nat) (us : List (List Nat)) (so : Nat) (hh : hA D q H b c0 ad org srt bt tn mp wk n ks vs chg tp ud tl an aks aus xs us so) (htr : ∀ e, l.admits e → e.platform.stackTraces = false) (xq : Nat → ClassId) (k : Nat) (hk : k < c0) (x : Int32) (hx : x < 0) : gT l y_Hall_match (Cond.code y_Hall_match b_Hall_match 6 (some .int) :: gWS) (gR 8 129 1 6) D CL (gY q) (fun U => gEs b xq U) [.ref b, .int (nI k), .int x] H (fun x H1 => (∃ ce : Cell, H1[x]? = some ce ∧ ce.cls = xq 1 ∧ ce.vm = .none) ∧ hA D q H1 b c0 ad org srt bt tn mp wk n ks vs chg [] tp tl an aks aus xs us so ∧ H1.size = H.size + 1 ∧ ∀ p : Nat, p < H.size → ¬ hZ b c0 ad p → H1[p]? = H[p]?) 1 6 (fun p => b ≤ p) := by
  refine gT.ofW R_Hall "match" (by decide) rfl rfl ?_
  intro p e s m below meth c hadm X hE hH B hne
  refine g_entry [some (.ref b), some (.int (nI k)), some (.int x), none, none, none] rfl rfl (Nat.le_of_ble_eq_true rfl) (fun ls hl => ?_)
  have hh0 := hh
  obtain ⟨ho, hf, hd, hNN, hVV, hww, hmm, hgg, htp, hud, htl, haa, hxx⟩ := hh
  have hh := hh0
  have frA : ∀ p : Nat, p < H.size → ¬ hZ b c0 ad p → H[p]? = H[p]? := fun _ _ _ => rfl
  have zz : H.size = H.size := rfl
  refine lv_aload_n X.1.1 X.1.2.1 d_Hall_match_0 rfl (gl_at hl rfl) ?_
  refine lv_iload_n X.1.1 X.1.2.1 d_Hall_match_1 rfl (gl_at hl rfl) ?_
  refine g_cv (A := (fun p => b ≤ p)) X gWS_good mw_Hall_118 kc_Hall ho (c_Hall_measured l D q H b c0 ho ad org srt bt tn mp hd hf hNN hVV n ks vs chg hmm k hk) (fun _ _ _ => trivial) gBlind.tt rfl rfl hl.1 (Nat.le_of_ble_eq_true rfl) rfl rfl ⟨by decide, by decide⟩ ⟨by decide, by decide⟩ d_Hall_match_2 (fun p h => show b ≤ p by have h9 := hd.lt hk; omega) (fun _ h => by cases h) (fun v1 H2 locs hp3 hL => ?_)
  obtain ⟨f0, t0, rfl, hvc, hms, hz1, fr1⟩ := hp3
  replace frA : ∀ p : Nat, p < H.size → ¬ hZ b c0 ad p → H2[p]? = H[p]? := fun p hp hz => (fr1 p (by (have z1 := hZ_b hz); (have z2 := hZ_v hd hk hz); omega)).trans (frA p hp hz)
  replace zz := hz1.trans zz
  replace hh := hh.measure hk hvc hz1 fr1
  clear ho hf hd hNN hVV hww hmm hgg htp hud htl haa hxx
  have hh0 := hh
  obtain ⟨ho, hf, hd, hNN, hVV, hww, hmm, hgg, htp, hud, htl, haa, hxx⟩ := hh
  have hh := hh0
  obtain ⟨ms1, ms2, ms3, ms4, ms5, ms6⟩ := hms
  have hmk := hNN k hk
  have hmA := hmm (mp k) hmk.2.2.2
  have hdl := hd.lt hk
  have hnm := hmA.1.2.1
  have hfar := hd.far hk hmk.2.2.2
  refine g_astn X.1.1 X.1.2.1 hl 3 d_Hall_match_5 rfl (Nat.le_of_ble_eq_true rfl) rfl (fun ls hl => ?_)
  refine lv_aload_n X.1.1 X.1.2.1 d_Hall_match_6 rfl (gl_at hl rfl) ?_
  refine g_cv (A := (fun p => b ≤ p)) X gWS_good mw_Hall_74 kc_Hall ho (c_Hall_useTape l D q H2 b c0 ho tp ud htp hud) (fun _ _ _ => trivial) gBlind.tt rfl rfl hl.1 (Nat.le_of_ble_eq_true rfl) rfl rfl ⟨by decide, by decide⟩ ⟨by decide, by decide⟩ d_Hall_match_7 (fun p h => show b ≤ p by omega) hL (fun v4 H5 locs hp6 hL => ?_)
  obtain ⟨rfl, k1, k2, hz1, fr1⟩ := hp6
  replace hvc := va_at.kept hvc (fr1 _ (by omega))
  replace frA : ∀ p : Nat, p < H.size → ¬ hZ b c0 ad p → H5[p]? = H[p]? := fun p hp hz => (fr1 p (by (have z1 := hZ_b hz); omega)).trans (frA p hp hz)
  replace zz := hz1.trans zz
  replace hh := hh.tape k1 k2 hz1 fr1
  clear ho hf hd hNN hVV hww hmm hgg htp hud htl haa hxx
  have hh0 := hh
  obtain ⟨ho, hf, hd, hNN, hVV, hww, hmm, hgg, htp, hud, htl, haa, hxx⟩ := hh
  have hh := hh0
  replace hmA := hmm (mp k) hmk.2.2.2
  refine lv_iload_n X.1.1 X.1.2.1 d_Hall_match_10 rfl (gl_at hl rfl) ?_
  refine lv_if_ge X.1.1 X.1.2.1 d_Hall_match_11 rfl (fun hc11 => ?_) (fun hc11 => ?_)
  · exact absurd hc11 (Int32.not_le.mpr hx)
  · exact g_throw X B hne htr hE 1 (by decide) hL hl.1 (h := H.size) zz (by rw [hH]; exact Nat.le_refl _) d_Hall_match_14 d_Hall_match_17 d_Hall_match_18 d_Hall_match_21 (by decide) (by decide) (by decide) (by decide) (fun H1 ce h1 h2 h3 h4 h5 => ⟨⟨ce, h1, h2, h3⟩, hh.grow (by omega) (fun p hp => h5 p (by omega)), h4, fun p hp hz => (h5 p hp).trans (frA p hp hz)⟩) hL (by decide) (by decide)
