/-! the class KeyHall, 3: printed by wip/specs/hall3.py -/
set_option maxHeartbeats 4000000 in
set_option maxRecDepth 100000 in
theorem c_Hall_size (l : Launch) (D : va_G) (q : Nat → ClassId) (H : Heap) (b : Nat) (c0 : Nat) (ad : Nat → Nat) (org : Nat → Option Nat) (srt : Nat → Nat) (bt : Nat → List Nat) (tn : Nat → Nat) (mp : Nat → Nat) (wk : Nat → Nat × Nat × Nat × Nat) (n : Nat → Nat) (ks : Nat → Nat → List Nat) (vs : Nat → Nat → Int32) (chg : Nat → Nat) (tp : List Nat) (ud : List Nat) (tl : List Nat) (an : Nat) (aks : Nat → List Nat) (aus : List Nat) (xs : List Nat) (us : List (List Nat)) (so : Nat) (hh : hA D q H b c0 ad org srt bt tn mp wk n ks vs chg tp ud tl an aks aus xs us so) (k : Nat) (hk : k < c0) : gC l y_Hall_size (Cond.code y_Hall_size b_Hall_size 2 (some .int) :: gWS) (gR 8 129 0 0) D CL (gY q) (fun _ => True) [.ref b, .int (nI k)] H (fun v1 H1 => ∃ f0 t0, v_ms org srt bt k (n (mp k)) (ks (mp k)) f0 t0 ∧ v1 = some (.int (nI (t0 - f0))) ∧ hA D q H1 b c0 ad org srt bt tn mp wk n ks vs chg tp ud tl an aks aus xs us so ∧ H1.size = H.size ∧ ∀ p : Nat, p < H.size → ¬ hZ b c0 ad p → H1[p]? = H[p]?) 0 0 (fun p => b ≤ p) := by
  refine gC.ofW R_Hall "size" (by decide) rfl rfl ?_
  intro p e s m below meth c hadm X hE hH B hne
  refine g_entry [some (.ref b), some (.int (nI k))] rfl rfl (Nat.le_of_ble_eq_true rfl) (fun ls hl => ?_)
  have hh0 := hh
  obtain ⟨ho, hf, hd, hNN, hVV, hww, hmm, hgg, htp, hud, htl, haa, hxx⟩ := hh
  have hh := hh0
  have frA : ∀ p : Nat, p < H.size → ¬ hZ b c0 ad p → H[p]? = H[p]? := fun _ _ _ => rfl
  have zz : H.size = H.size := rfl
  refine lv_aload_n X.1.1 X.1.2.1 d_Hall_size_0 rfl (gl_at hl rfl) ?_
  refine lv_iload_n X.1.1 X.1.2.1 d_Hall_size_1 rfl (gl_at hl rfl) ?_
  refine g_cv (A := (fun p => b ≤ p)) X gWS_good mw_Hall_114 kc_Hall ho (c_Hall_isView l D q H b c0 ho (nI k)) (fun _ _ _ => trivial) gBlind.tt rfl rfl hl.1 (Nat.le_of_ble_eq_true rfl) rfl rfl ⟨by decide, by decide⟩ ⟨by decide, by decide⟩ d_Hall_size_2 (fun _ h => h.elim) (fun _ h => by cases h) (fun v1 H2 locs hp3 hL => ?_)
  obtain ⟨rfl, hHe⟩ := hp3
  rw [hHe]
  refine lv_if_eq X.1.1 X.1.2.1 d_Hall_size_5 rfl (fun hc5 => ?_) (fun hc5 => ?_)
  · replace hc5 := gz_f hc5
    exact absurd (h_ok_of (by have := hd.2.1; omega) hk) hc5
  · replace hc5 := gz_t hc5
    refine lv_aload_n X.1.1 X.1.2.1 d_Hall_size_8 rfl (gl_at hl rfl) ?_
    refine lv_iload_n X.1.1 X.1.2.1 d_Hall_size_9 rfl (gl_at hl rfl) ?_
    refine g_cv (A := (fun p => b ≤ p)) X gWS_good mw_Hall_118 kc_Hall ho (c_Hall_measured l D q H b c0 ho ad org srt bt tn mp hd hf hNN hVV n ks vs chg hmm k hk) (fun _ _ _ => trivial) gBlind.tt rfl rfl hl.1 (Nat.le_of_ble_eq_true rfl) rfl rfl ⟨by decide, by decide⟩ ⟨by decide, by decide⟩ d_Hall_size_10 (fun p h => show b ≤ p by have h9 := hd.lt hk; omega) hL (fun v4 H5 locs hp6 hL => ?_)
    obtain ⟨f0, t0, rfl, hvc, hms, hz1, fr1⟩ := hp6
    replace frA : ∀ p : Nat, p < H.size → ¬ hZ b c0 ad p → H5[p]? = H[p]? := fun p hp hz => (fr1 p (by (have z1 := hZ_b hz); (have z2 := hZ_v hd hk hz); omega)).trans (frA p hp hz)
    replace zz := hz1.trans zz
    replace hh := hh.measure hk hvc hz1 fr1
    clear ho hf hd hNN hVV hww hmm hgg htp hud htl haa hxx
    have hh0 := hh
    obtain ⟨ho, hf, hd, hNN, hVV, hww, hmm, hgg, htp, hud, htl, haa, hxx⟩ := hh
    have hh := hh0
    obtain ⟨ms1, ms2, ms3, ms4, ms5, ms6⟩ := hms
    have hmk := hNN k hk
    have hmA := hmm (mp k) hmk.2.2.2
    have hdl := hd.lt hk
    have hnm := hmA.1.2.1
    have hfar := hd.far hk hmk.2.2.2
    refine g_cv (A := (fun p => b ≤ p)) X gWS_good mw_Hall_121 kc_View hvc (c_View_count l D q H5 (ad k) _ _ _ _ _ _ f0 t0 hvc ms1) (fun _ _ _ => trivial) gBlind.tt rfl rfl hl.1 (Nat.le_of_ble_eq_true rfl) rfl rfl ⟨by decide, by decide⟩ ⟨by decide, by decide⟩ d_Hall_size_13 (fun _ h => h.elim) hL (fun v7 H8 locs hp9 hL => ?_)
    obtain ⟨rfl, hHe⟩ := hp9
    rw [hHe]
    refine lv_goto X.1.1 X.1.2.1 d_Hall_size_16 rfl ?_
    exact g_iret X B ⟨f0, t0, ⟨ms1, ms2, ms3, ms4, ms5, ms6⟩, rfl, hh, zz, frA⟩ hL d_Hall_size_20 (by omega) (by omega)

set_option maxHeartbeats 4000000 in
set_option maxRecDepth 100000 in
theorem c_Hall_sizeN (l : Launch) (D : va_G) (q : Nat → ClassId) (H : Heap) (b : Nat) (c0 : Nat) (ad : Nat → Nat) (org : Nat → Option Nat) (srt : Nat → Nat) (bt : Nat → List Nat) (tn : Nat → Nat) (mp : Nat → Nat) (wk : Nat → Nat × Nat × Nat × Nat) (n : Nat → Nat) (ks : Nat → Nat → List Nat) (vs : Nat → Nat → Int32) (chg : Nat → Nat) (tp : List Nat) (ud : List Nat) (tl : List Nat) (an : Nat) (aks : Nat → List Nat) (aus : List Nat) (xs : List Nat) (us : List (List Nat)) (so : Nat) (hh : hA D q H b c0 ad org srt bt tn mp wk n ks vs chg tp ud tl an aks aus xs us so) (v : Int32) (hv : ¬ h_ok c0 v) : gC l y_Hall_size (Cond.code y_Hall_size b_Hall_size 2 (some .int) :: gWS) (gR 8 129 0 0) D CL (gY q) (fun _ => True) [.ref b, .int v] H (fun v1 H1 => v1 = some (.int (-1)) ∧ hA D q H1 b c0 ad org srt bt tn mp wk n ks vs chg tp ud tl an aks aus xs us so ∧ H1.size = H.size ∧ ∀ p : Nat, p < H.size → ¬ hZ b c0 ad p → H1[p]? = H[p]?) 0 0 (fun p => b ≤ p) := by
  refine gC.ofW R_Hall "size" (by decide) rfl rfl ?_
  intro p e s m below meth c hadm X hE hH B hne
  refine g_entry [some (.ref b), some (.int v)] rfl rfl (Nat.le_of_ble_eq_true rfl) (fun ls hl => ?_)
  have hh0 := hh
  obtain ⟨ho, hf, hd, hNN, hVV, hww, hmm, hgg, htp, hud, htl, haa, hxx⟩ := hh
  have hh := hh0
  have frA : ∀ p : Nat, p < H.size → ¬ hZ b c0 ad p → H[p]? = H[p]? := fun _ _ _ => rfl
  have zz : H.size = H.size := rfl
  refine lv_aload_n X.1.1 X.1.2.1 d_Hall_size_0 rfl (gl_at hl rfl) ?_
  refine lv_iload_n X.1.1 X.1.2.1 d_Hall_size_1 rfl (gl_at hl rfl) ?_
  refine g_cv (A := (fun p => b ≤ p)) X gWS_good mw_Hall_114 kc_Hall ho (c_Hall_isView l D q H b c0 ho v) (fun _ _ _ => trivial) gBlind.tt rfl rfl hl.1 (Nat.le_of_ble_eq_true rfl) rfl rfl ⟨by decide, by decide⟩ ⟨by decide, by decide⟩ d_Hall_size_2 (fun _ h => h.elim) (fun _ h => by cases h) (fun v1 H2 locs hp3 hL => ?_)
  obtain ⟨rfl, hHe⟩ := hp3
  rw [hHe]
  refine lv_if_eq X.1.1 X.1.2.1 d_Hall_size_5 rfl (fun hc5 => ?_) (fun hc5 => ?_)
  · replace hc5 := gz_f hc5
    refine lv_iconst (v := (-1)) X.1.1 X.1.2.1 d_Hall_size_19 (by decide) ?_
    exact g_iret X B ⟨rfl, hh, zz, frA⟩ hL d_Hall_size_20 (by omega) (by omega)
  · replace hc5 := gz_t hc5
    exact absurd hc5 hv

set_option maxHeartbeats 4000000 in
set_option maxRecDepth 100000 in
theorem t_Hall_getV (l : Launch) (D : va_G) (q : Nat → ClassId) (H : Heap) (b : Nat) (c0 : Nat) (ad : Nat → Nat) (org : Nat → Option Nat) (srt : Nat → Nat) (bt : Nat → List Nat) (tn : Nat → Nat) (mp : Nat → Nat) (wk : Nat → Nat × Nat × Nat × Nat) (n : Nat → Nat) (ks : Nat → Nat → List Nat) (vs : Nat → Nat → Int32) (chg : Nat → Nat) (tp : List Nat) (ud : List Nat) (tl : List Nat) (an : Nat) (aks : Nat → List Nat) (aus : List Nat) (xs : List Nat) (us : List (List Nat)) (so : Nat) (hh : hA D q H b c0 ad org srt bt tn mp wk n ks vs chg tp ud tl an aks aus xs us so) (htr : ∀ e, l.admits e → e.platform.stackTraces = false) (xq : Nat → ClassId) (v : Int32) (hv : ¬ h_ok c0 v) : gT l y_Hall_get (Cond.code y_Hall_get b_Hall_get 4 (some .int) :: gWS) (gR 7 109 1 6) D CL (gY q) (fun U => gEs b xq U) [.ref b, .int v] H (fun x H1 => (∃ ce : Cell, H1[x]? = some ce ∧ ce.cls = xq 0 ∧ ce.vm = .none) ∧ hA D q H1 b c0 ad org srt bt tn mp wk n ks vs chg tp ud tl an aks aus xs us so ∧ H1.size = H.size + 1 ∧ ∀ p : Nat, p < H.size → ¬ hZ b c0 ad p → H1[p]? = H[p]?) 1 6 (fun p => b ≤ p) := by
  refine gT.ofW R_Hall "get" (by decide) rfl rfl ?_
  intro p e s m below meth c hadm X hE hH B hne
  refine g_entry [some (.ref b), some (.int v), none, none] rfl rfl (Nat.le_of_ble_eq_true rfl) (fun ls hl => ?_)
  have hh0 := hh
  obtain ⟨ho, hf, hd, hNN, hVV, hww, hmm, hgg, htp, hud, htl, haa, hxx⟩ := hh
  have hh := hh0
  have frA : ∀ p : Nat, p < H.size → ¬ hZ b c0 ad p → H[p]? = H[p]? := fun _ _ _ => rfl
  have zz : H.size = H.size := rfl
  refine lv_aload_n X.1.1 X.1.2.1 d_Hall_get_0 rfl (gl_at hl rfl) ?_
  refine lv_iload_n X.1.1 X.1.2.1 d_Hall_get_1 rfl (gl_at hl rfl) ?_
  exact g_leave B hne (g_tv X gWS_good mw_Hall_67 kc_Hall ho (t_Hall_viewNumbered l D q H b c0 ho htr xq v hv) (fun V h1 h2 => hE.on (fun p hp => by rw [hH]) h1 h2) (gEs.blind b xq) rfl rfl hl.1 (Nat.le_of_ble_eq_true rfl) rfl rfl ⟨by decide, by decide⟩ ⟨by decide, by decide⟩ d_Hall_get_2) (fun x H1 hp => (by obtain ⟨e1, e2, e3, e4⟩ := hp; exact ⟨e1, hh.grow (by omega) e4, by omega, fun p hp9 hz => (e4 p (by omega)).trans (frA p hp9 hz)⟩)) (fun _ h => h) (fun _ h => by cases h) (by decide) (by decide)

set_option maxHeartbeats 4000000 in
set_option maxRecDepth 100000 in
theorem t_Hall_removeV (l : Launch) (D : va_G) (q : Nat → ClassId) (H : Heap) (b : Nat) (c0 : Nat) (ad : Nat → Nat) (org : Nat → Option Nat) (srt : Nat → Nat) (bt : Nat → List Nat) (tn : Nat → Nat) (mp : Nat → Nat) (wk : Nat → Nat × Nat × Nat × Nat) (n : Nat → Nat) (ks : Nat → Nat → List Nat) (vs : Nat → Nat → Int32) (chg : Nat → Nat) (tp : List Nat) (ud : List Nat) (tl : List Nat) (an : Nat) (aks : Nat → List Nat) (aus : List Nat) (xs : List Nat) (us : List (List Nat)) (so : Nat) (hh : hA D q H b c0 ad org srt bt tn mp wk n ks vs chg tp ud tl an aks aus xs us so) (htr : ∀ e, l.admits e → e.platform.stackTraces = false) (xq : Nat → ClassId) (v : Int32) (hv : ¬ h_ok c0 v) : gT l y_Hall_remove (Cond.code y_Hall_remove b_Hall_remove 4 (some .int) :: gWS) (gR 7 109 1 6) D CL (gY q) (fun U => gEs b xq U) [.ref b, .int v] H (fun x H1 => (∃ ce : Cell, H1[x]? = some ce ∧ ce.cls = xq 0 ∧ ce.vm = .none) ∧ hA D q H1 b c0 ad org srt bt tn mp wk n ks vs chg tp ud tl an aks aus xs us so ∧ H1.size = H.size + 1 ∧ ∀ p : Nat, p < H.size → ¬ hZ b c0 ad p → H1[p]? = H[p]?) 1 6 (fun p => b ≤ p) := by
  refine gT.ofW R_Hall "remove" (by decide) rfl rfl ?_
  intro p e s m below meth c hadm X hE hH B hne
  refine g_entry [some (.ref b), some (.int v), none, none] rfl rfl (Nat.le_of_ble_eq_true rfl) (fun ls hl => ?_)
  have hh0 := hh
  obtain ⟨ho, hf, hd, hNN, hVV, hww, hmm, hgg, htp, hud, htl, haa, hxx⟩ := hh
  have hh := hh0
  have frA : ∀ p : Nat, p < H.size → ¬ hZ b c0 ad p → H[p]? = H[p]? := fun _ _ _ => rfl
  have zz : H.size = H.size := rfl
  refine lv_aload_n X.1.1 X.1.2.1 d_Hall_remove_0 rfl (gl_at hl rfl) ?_
  refine lv_iload_n X.1.1 X.1.2.1 d_Hall_remove_1 rfl (gl_at hl rfl) ?_
  exact g_leave B hne (g_tv X gWS_good mw_Hall_67 kc_Hall ho (t_Hall_viewNumbered l D q H b c0 ho htr xq v hv) (fun V h1 h2 => hE.on (fun p hp => by rw [hH]) h1 h2) (gEs.blind b xq) rfl rfl hl.1 (Nat.le_of_ble_eq_true rfl) rfl rfl ⟨by decide, by decide⟩ ⟨by decide, by decide⟩ d_Hall_remove_2) (fun x H1 hp => (by obtain ⟨e1, e2, e3, e4⟩ := hp; exact ⟨e1, hh.grow (by omega) e4, by omega, fun p hp9 hz => (e4 p (by omega)).trans (frA p hp9 hz)⟩)) (fun _ h => h) (fun _ h => by cases h) (by decide) (by decide)

set_option maxHeartbeats 4000000 in
set_option maxRecDepth 100000 in
theorem t_Hall_putV (l : Launch) (D : va_G) (q : Nat → ClassId) (H : Heap) (b : Nat) (c0 : Nat) (ad : Nat → Nat) (org : Nat → Option Nat) (srt : Nat → Nat) (bt : Nat → List Nat) (tn : Nat → Nat) (mp : Nat → Nat) (wk : Nat → Nat × Nat × Nat × Nat) (n : Nat → Nat) (ks : Nat → Nat → List Nat) (vs : Nat → Nat → Int32) (chg : Nat → Nat) (tp : List Nat) (ud : List Nat) (tl : List Nat) (an : Nat) (aks : Nat → List Nat) (aus : List Nat) (xs : List Nat) (us : List (List Nat)) (so : Nat) (hh : hA D q H b c0 ad org srt bt tn mp wk n ks vs chg tp ud tl an aks aus xs us so) (htr : ∀ e, l.admits e → e.platform.stackTraces = false) (xq : Nat → ClassId) (v : Int32) (hv : ¬ h_ok c0 v) (x : Int32) : gT l y_Hall_put (Cond.code y_Hall_put b_Hall_put 7 (some .int) :: gWS) (gR 7 102 1 6) D CL (gY q) (fun U => gEs b xq U) [.ref b, .int v, .int x] H (fun x H1 => (∃ ce : Cell, H1[x]? = some ce ∧ ce.cls = xq 0 ∧ ce.vm = .none) ∧ hA D q H1 b c0 ad org srt bt tn mp wk n ks vs chg tp ud tl an aks aus xs us so ∧ H1.size = H.size + 1 ∧ ∀ p : Nat, p < H.size → ¬ hZ b c0 ad p → H1[p]? = H[p]?) 1 6 (fun p => b ≤ p) := by
  refine gT.ofW R_Hall "put" (by decide) rfl rfl ?_
  intro p e s m below meth c hadm X hE hH B hne
  refine g_entry [some (.ref b), some (.int v), some (.int x), none, none, none, none] rfl rfl (Nat.le_of_ble_eq_true rfl) (fun ls hl => ?_)
  have hh0 := hh
  obtain ⟨ho, hf, hd, hNN, hVV, hww, hmm, hgg, htp, hud, htl, haa, hxx⟩ := hh
  have hh := hh0
  have frA : ∀ p : Nat, p < H.size → ¬ hZ b c0 ad p → H[p]? = H[p]? := fun _ _ _ => rfl
  have zz : H.size = H.size := rfl
  refine lv_aload_n X.1.1 X.1.2.1 d_Hall_put_0 rfl (gl_at hl rfl) ?_
  refine lv_iload_n X.1.1 X.1.2.1 d_Hall_put_1 rfl (gl_at hl rfl) ?_
  exact g_leave B hne (g_tv X gWS_good mw_Hall_67 kc_Hall ho (t_Hall_viewNumbered l D q H b c0 ho htr xq v hv) (fun V h1 h2 => hE.on (fun p hp => by rw [hH]) h1 h2) (gEs.blind b xq) rfl rfl hl.1 (Nat.le_of_ble_eq_true rfl) rfl rfl ⟨by decide, by decide⟩ ⟨by decide, by decide⟩ d_Hall_put_2) (fun x H1 hp => (by obtain ⟨e1, e2, e3, e4⟩ := hp; exact ⟨e1, hh.grow (by omega) e4, by omega, fun p hp9 hz => (e4 p (by omega)).trans (frA p hp9 hz)⟩)) (fun _ h => h) (fun _ h => by cases h) (by decide) (by decide)

set_option maxHeartbeats 4000000 in
set_option maxRecDepth 100000 in
theorem t_Hall_viewV (l : Launch) (D : va_G) (q : Nat → ClassId) (H : Heap) (b : Nat) (c0 : Nat) (ad : Nat → Nat) (org : Nat → Option Nat) (srt : Nat → Nat) (bt : Nat → List Nat) (tn : Nat → Nat) (mp : Nat → Nat) (wk : Nat → Nat × Nat × Nat × Nat) (n : Nat → Nat) (ks : Nat → Nat → List Nat) (vs : Nat → Nat → Int32) (chg : Nat → Nat) (tp : List Nat) (ud : List Nat) (tl : List Nat) (an : Nat) (aks : Nat → List Nat) (aus : List Nat) (xs : List Nat) (us : List (List Nat)) (so : Nat) (hh : hA D q H b c0 ad org srt bt tn mp wk n ks vs chg tp ud tl an aks aus xs us so) (htr : ∀ e, l.admits e → e.platform.stackTraces = false) (xq : Nat → ClassId) (v : Int32) (hv : ¬ h_ok c0 v) (x : Int32) : gT l y_Hall_view (Cond.code y_Hall_view b_Hall_view 4 (some .int) :: gWS) (gR 7 102 1 6) D CL (gY q) (fun U => gEs b xq U) [.ref b, .int v, .int x] H (fun x H1 => (∃ ce : Cell, H1[x]? = some ce ∧ ce.cls = xq 0 ∧ ce.vm = .none) ∧ hA D q H1 b c0 ad org srt bt tn mp wk n ks vs chg tp ud tl an aks aus xs us so ∧ H1.size = H.size + 1 ∧ ∀ p : Nat, p < H.size → ¬ hZ b c0 ad p → H1[p]? = H[p]?) 1 6 (fun p => b ≤ p) := by
  refine gT.ofW R_Hall "view" (by decide) rfl rfl ?_
  intro p e s m below meth c hadm X hE hH B hne
  refine g_entry [some (.ref b), some (.int v), some (.int x), none] rfl rfl (Nat.le_of_ble_eq_true rfl) (fun ls hl => ?_)
  have hh0 := hh
  obtain ⟨ho, hf, hd, hNN, hVV, hww, hmm, hgg, htp, hud, htl, haa, hxx⟩ := hh
  have hh := hh0
  have frA : ∀ p : Nat, p < H.size → ¬ hZ b c0 ad p → H[p]? = H[p]? := fun _ _ _ => rfl
  have zz : H.size = H.size := rfl
  refine lv_aload_n X.1.1 X.1.2.1 d_Hall_view_0 rfl (gl_at hl rfl) ?_
  refine lv_iload_n X.1.1 X.1.2.1 d_Hall_view_1 rfl (gl_at hl rfl) ?_
  exact g_leave B hne (g_tv X gWS_good mw_Hall_67 kc_Hall ho (t_Hall_viewNumbered l D q H b c0 ho htr xq v hv) (fun V h1 h2 => hE.on (fun p hp => by rw [hH]) h1 h2) (gEs.blind b xq) rfl rfl hl.1 (Nat.le_of_ble_eq_true rfl) rfl rfl ⟨by decide, by decide⟩ ⟨by decide, by decide⟩ d_Hall_view_2) (fun x H1 hp => (by obtain ⟨e1, e2, e3, e4⟩ := hp; exact ⟨e1, hh.grow (by omega) e4, by omega, fun p hp9 hz => (e4 p (by omega)).trans (frA p hp9 hz)⟩)) (fun _ h => h) (fun _ h => by cases h) (by decide) (by decide)

set_option maxHeartbeats 4000000 in
set_option maxRecDepth 100000 in
theorem t_Hall_atV (l : Launch) (D : va_G) (q : Nat → ClassId) (H : Heap) (b : Nat) (c0 : Nat) (ad : Nat → Nat) (org : Nat → Option Nat) (srt : Nat → Nat) (bt : Nat → List Nat) (tn : Nat → Nat) (mp : Nat → Nat) (wk : Nat → Nat × Nat × Nat × Nat) (n : Nat → Nat) (ks : Nat → Nat → List Nat) (vs : Nat → Nat → Int32) (chg : Nat → Nat) (tp : List Nat) (ud : List Nat) (tl : List Nat) (an : Nat) (aks : Nat → List Nat) (aus : List Nat) (xs : List Nat) (us : List (List Nat)) (so : Nat) (hh : hA D q H b c0 ad org srt bt tn mp wk n ks vs chg tp ud tl an aks aus xs us so) (htr : ∀ e, l.admits e → e.platform.stackTraces = false) (xq : Nat → ClassId) (v : Int32) (hv : ¬ h_ok c0 v) (x : Int32) : gT l y_Hall_at (Cond.code y_Hall_at b_Hall_at 3 (some .int) :: gWS) (gR 8 129 1 6) D CL (gY q) (fun U => gEs b xq U) [.ref b, .int v, .int x] H (fun x H1 => (∃ ce : Cell, H1[x]? = some ce ∧ ce.cls = xq 0 ∧ ce.vm = .none) ∧ hA D q H1 b c0 ad org srt bt tn mp wk n ks vs chg tp ud tl an aks aus xs us so ∧ H1.size = H.size + 1 ∧ ∀ p : Nat, p < H.size → ¬ hZ b c0 ad p → H1[p]? = H[p]?) 1 6 (fun p => b ≤ p) := by
  refine gT.ofW R_Hall "at" (by decide) rfl rfl ?_
  intro p e s m below meth c hadm X hE hH B hne
  refine g_entry [some (.ref b), some (.int v), some (.int x)] rfl rfl (Nat.le_of_ble_eq_true rfl) (fun ls hl => ?_)
  have hh0 := hh
  obtain ⟨ho, hf, hd, hNN, hVV, hww, hmm, hgg, htp, hud, htl, haa, hxx⟩ := hh
  have hh := hh0
  have frA : ∀ p : Nat, p < H.size → ¬ hZ b c0 ad p → H[p]? = H[p]? := fun _ _ _ => rfl
  have zz : H.size = H.size := rfl
  refine lv_aload_n X.1.1 X.1.2.1 d_Hall_at_0 rfl (gl_at hl rfl) ?_
  refine lv_aload_n X.1.1 X.1.2.1 d_Hall_at_1 rfl (gl_at hl rfl) ?_
  refine lv_iload_n X.1.1 X.1.2.1 d_Hall_at_2 rfl (gl_at hl rfl) ?_
  exact g_leave B hne (g_tv X gWS_good mw_Hall_118 kc_Hall ho (t_Hall_measured l D q H b c0 ho htr xq v hv) (fun V h1 h2 => hE.on (fun p hp => by rw [hH]) h1 h2) (gEs.blind b xq) rfl rfl hl.1 (Nat.le_of_ble_eq_true rfl) rfl rfl ⟨by decide, by decide⟩ ⟨by decide, by decide⟩ d_Hall_at_3) (fun x H1 hp => (by obtain ⟨e1, e2, e3, e4⟩ := hp; exact ⟨e1, hh.grow (by omega) e4, by omega, fun p hp9 hz => (e4 p (by omega)).trans (frA p hp9 hz)⟩)) (fun _ h => h) (fun _ h => by cases h) (by decide) (by decide)

set_option maxHeartbeats 4000000 in
set_option maxRecDepth 100000 in
theorem t_Hall_findV (l : Launch) (D : va_G) (q : Nat → ClassId) (H : Heap) (b : Nat) (c0 : Nat) (ad : Nat → Nat) (org : Nat → Option Nat) (srt : Nat → Nat) (bt : Nat → List Nat) (tn : Nat → Nat) (mp : Nat → Nat) (wk : Nat → Nat × Nat × Nat × Nat) (n : Nat → Nat) (ks : Nat → Nat → List Nat) (vs : Nat → Nat → Int32) (chg : Nat → Nat) (tp : List Nat) (ud : List Nat) (tl : List Nat) (an : Nat) (aks : Nat → List Nat) (aus : List Nat) (xs : List Nat) (us : List (List Nat)) (so : Nat) (hh : hA D q H b c0 ad org srt bt tn mp wk n ks vs chg tp ud tl an aks aus xs us so) (htr : ∀ e, l.admits e → e.platform.stackTraces = false) (xq : Nat → ClassId) (v : Int32) (hv : ¬ h_ok c0 v) (x : Int32) : gT l y_Hall_find (Cond.code y_Hall_find b_Hall_find 4 (some .int) :: gWS) (gR 8 129 1 6) D CL (gY q) (fun U => gEs b xq U) [.ref b, .int v, .int x] H (fun x H1 => (∃ ce : Cell, H1[x]? = some ce ∧ ce.cls = xq 0 ∧ ce.vm = .none) ∧ hA D q H1 b c0 ad org srt bt tn mp wk n ks vs chg tp ud tl an aks aus xs us so ∧ H1.size = H.size + 1 ∧ ∀ p : Nat, p < H.size → ¬ hZ b c0 ad p → H1[p]? = H[p]?) 1 6 (fun p => b ≤ p) := by
  refine gT.ofW R_Hall "find" (by decide) rfl rfl ?_
  intro p e s m below meth c hadm X hE hH B hne
  refine g_entry [some (.ref b), some (.int v), some (.int x), none] rfl rfl (Nat.le_of_ble_eq_true rfl) (fun ls hl => ?_)
  have hh0 := hh
  obtain ⟨ho, hf, hd, hNN, hVV, hww, hmm, hgg, htp, hud, htl, haa, hxx⟩ := hh
  have hh := hh0
  have frA : ∀ p : Nat, p < H.size → ¬ hZ b c0 ad p → H[p]? = H[p]? := fun _ _ _ => rfl
  have zz : H.size = H.size := rfl
  refine lv_aload_n X.1.1 X.1.2.1 d_Hall_find_0 rfl (gl_at hl rfl) ?_
  refine lv_iload_n X.1.1 X.1.2.1 d_Hall_find_1 rfl (gl_at hl rfl) ?_
  exact g_leave B hne (g_tv X gWS_good mw_Hall_118 kc_Hall ho (t_Hall_measured l D q H b c0 ho htr xq v hv) (fun V h1 h2 => hE.on (fun p hp => by rw [hH]) h1 h2) (gEs.blind b xq) rfl rfl hl.1 (Nat.le_of_ble_eq_true rfl) rfl rfl ⟨by decide, by decide⟩ ⟨by decide, by decide⟩ d_Hall_find_2) (fun x H1 hp => (by obtain ⟨e1, e2, e3, e4⟩ := hp; exact ⟨e1, hh.grow (by omega) e4, by omega, fun p hp9 hz => (e4 p (by omega)).trans (frA p hp9 hz)⟩)) (fun _ h => h) (fun _ h => by cases h) (by decide) (by decide)

set_option maxHeartbeats 4000000 in
set_option maxRecDepth 100000 in
theorem t_Hall_pollV (l : Launch) (D : va_G) (q : Nat → ClassId) (H : Heap) (b : Nat) (c0 : Nat) (ad : Nat → Nat) (org : Nat → Option Nat) (srt : Nat → Nat) (bt : Nat → List Nat) (tn : Nat → Nat) (mp : Nat → Nat) (wk : Nat → Nat × Nat × Nat × Nat) (n : Nat → Nat) (ks : Nat → Nat → List Nat) (vs : Nat → Nat → Int32) (chg : Nat → Nat) (tp : List Nat) (ud : List Nat) (tl : List Nat) (an : Nat) (aks : Nat → List Nat) (aus : List Nat) (xs : List Nat) (us : List (List Nat)) (so : Nat) (hh : hA D q H b c0 ad org srt bt tn mp wk n ks vs chg tp ud tl an aks aus xs us so) (htr : ∀ e, l.admits e → e.platform.stackTraces = false) (xq : Nat → ClassId) (v : Int32) (hv : ¬ h_ok c0 v) (x : Int32) : gT l y_Hall_poll (Cond.code y_Hall_poll b_Hall_poll 5 (some .int) :: gWS) (gR 8 129 1 6) D CL (gY q) (fun U => gEs b xq U) [.ref b, .int v, .int x] H (fun x H1 => (∃ ce : Cell, H1[x]? = some ce ∧ ce.cls = xq 0 ∧ ce.vm = .none) ∧ hA D q H1 b c0 ad org srt bt tn mp wk n ks vs chg tp ud tl an aks aus xs us so ∧ H1.size = H.size + 1 ∧ ∀ p : Nat, p < H.size → ¬ hZ b c0 ad p → H1[p]? = H[p]?) 1 6 (fun p => b ≤ p) := by
  refine gT.ofW R_Hall "poll" (by decide) rfl rfl ?_
  intro p e s m below meth c hadm X hE hH B hne
  refine g_entry [some (.ref b), some (.int v), some (.int x), none, none] rfl rfl (Nat.le_of_ble_eq_true rfl) (fun ls hl => ?_)
  have hh0 := hh
  obtain ⟨ho, hf, hd, hNN, hVV, hww, hmm, hgg, htp, hud, htl, haa, hxx⟩ := hh
  have hh := hh0
  have frA : ∀ p : Nat, p < H.size → ¬ hZ b c0 ad p → H[p]? = H[p]? := fun _ _ _ => rfl
  have zz : H.size = H.size := rfl
  refine lv_aload_n X.1.1 X.1.2.1 d_Hall_poll_0 rfl (gl_at hl rfl) ?_
  refine lv_iload_n X.1.1 X.1.2.1 d_Hall_poll_1 rfl (gl_at hl rfl) ?_
  exact g_leave B hne (g_tv X gWS_good mw_Hall_118 kc_Hall ho (t_Hall_measured l D q H b c0 ho htr xq v hv) (fun V h1 h2 => hE.on (fun p hp => by rw [hH]) h1 h2) (gEs.blind b xq) rfl rfl hl.1 (Nat.le_of_ble_eq_true rfl) rfl rfl ⟨by decide, by decide⟩ ⟨by decide, by decide⟩ d_Hall_poll_2) (fun x H1 hp => (by obtain ⟨e1, e2, e3, e4⟩ := hp; exact ⟨e1, hh.grow (by omega) e4, by omega, fun p hp9 hz => (e4 p (by omega)).trans (frA p hp9 hz)⟩)) (fun _ h => h) (fun _ h => by cases h) (by decide) (by decide)

set_option maxHeartbeats 4000000 in
set_option maxRecDepth 100000 in
theorem t_Hall_nextV (l : Launch) (D : va_G) (q : Nat → ClassId) (H : Heap) (b : Nat) (c0 : Nat) (ad : Nat → Nat) (org : Nat → Option Nat) (srt : Nat → Nat) (bt : Nat → List Nat) (tn : Nat → Nat) (mp : Nat → Nat) (wk : Nat → Nat × Nat × Nat × Nat) (n : Nat → Nat) (ks : Nat → Nat → List Nat) (vs : Nat → Nat → Int32) (chg : Nat → Nat) (tp : List Nat) (ud : List Nat) (tl : List Nat) (an : Nat) (aks : Nat → List Nat) (aus : List Nat) (xs : List Nat) (us : List (List Nat)) (so : Nat) (hh : hA D q H b c0 ad org srt bt tn mp wk n ks vs chg tp ud tl an aks aus xs us so) (htr : ∀ e, l.admits e → e.platform.stackTraces = false) (xq : Nat → ClassId) (v : Int32) (hv : ¬ h_ok c0 v) : gT l y_Hall_next (Cond.code y_Hall_next b_Hall_next 4 (some .int) :: gWS) (gR 8 129 1 6) D CL (gY q) (fun U => gEs b xq U) [.ref b, .int v] H (fun x H1 => (∃ ce : Cell, H1[x]? = some ce ∧ ce.cls = xq 0 ∧ ce.vm = .none) ∧ hA D q H1 b c0 ad org srt bt tn mp wk n ks vs chg tp ud tl an aks aus xs us so ∧ H1.size = H.size + 1 ∧ ∀ p : Nat, p < H.size → ¬ hZ b c0 ad p → H1[p]? = H[p]?) 1 6 (fun p => b ≤ p) := by
  refine gT.ofW R_Hall "next" (by decide) rfl rfl ?_
  intro p e s m below meth c hadm X hE hH B hne
  refine g_entry [some (.ref b), some (.int v), none, none] rfl rfl (Nat.le_of_ble_eq_true rfl) (fun ls hl => ?_)
  have hh0 := hh
  obtain ⟨ho, hf, hd, hNN, hVV, hww, hmm, hgg, htp, hud, htl, haa, hxx⟩ := hh
  have hh := hh0
  have frA : ∀ p : Nat, p < H.size → ¬ hZ b c0 ad p → H[p]? = H[p]? := fun _ _ _ => rfl
  have zz : H.size = H.size := rfl
  refine lv_aload_n X.1.1 X.1.2.1 d_Hall_next_0 rfl (gl_at hl rfl) ?_
  refine lv_iload_n X.1.1 X.1.2.1 d_Hall_next_1 rfl (gl_at hl rfl) ?_
  exact g_leave B hne (g_tv X gWS_good mw_Hall_118 kc_Hall ho (t_Hall_measured l D q H b c0 ho htr xq v hv) (fun V h1 h2 => hE.on (fun p hp => by rw [hH]) h1 h2) (gEs.blind b xq) rfl rfl hl.1 (Nat.le_of_ble_eq_true rfl) rfl rfl ⟨by decide, by decide⟩ ⟨by decide, by decide⟩ d_Hall_next_2) (fun x H1 hp => (by obtain ⟨e1, e2, e3, e4⟩ := hp; exact ⟨e1, hh.grow (by omega) e4, by omega, fun p hp9 hz => (e4 p (by omega)).trans (frA p hp9 hz)⟩)) (fun _ h => h) (fun _ h => by cases h) (by decide) (by decide)

set_option maxHeartbeats 4000000 in
set_option maxRecDepth 100000 in
theorem t_Hall_dropV (l : Launch) (D : va_G) (q : Nat → ClassId) (H : Heap) (b : Nat) (c0 : Nat) (ad : Nat → Nat) (org : Nat → Option Nat) (srt : Nat → Nat) (bt : Nat → List Nat) (tn : Nat → Nat) (mp : Nat → Nat) (wk : Nat → Nat × Nat × Nat × Nat) (n : Nat → Nat) (ks : Nat → Nat → List Nat) (vs : Nat → Nat → Int32) (chg : Nat → Nat) (tp : List Nat) (ud : List Nat) (tl : List Nat) (an : Nat) (aks : Nat → List Nat) (aus : List Nat) (xs : List Nat) (us : List (List Nat)) (so : Nat) (hh : hA D q H b c0 ad org srt bt tn mp wk n ks vs chg tp ud tl an aks aus xs us so) (htr : ∀ e, l.admits e → e.platform.stackTraces = false) (xq : Nat → ClassId) (v : Int32) (hv : ¬ h_ok c0 v) : gT l y_Hall_drop (Cond.code y_Hall_drop b_Hall_drop 5 (some .int) :: gWS) (gR 8 129 1 6) D CL (gY q) (fun U => gEs b xq U) [.ref b, .int v] H (fun x H1 => (∃ ce : Cell, H1[x]? = some ce ∧ ce.cls = xq 0 ∧ ce.vm = .none) ∧ hA D q H1 b c0 ad org srt bt tn mp wk n ks vs chg tp ud tl an aks aus xs us so ∧ H1.size = H.size + 1 ∧ ∀ p : Nat, p < H.size → ¬ hZ b c0 ad p → H1[p]? = H[p]?) 1 6 (fun p => b ≤ p) := by
  refine gT.ofW R_Hall "drop" (by decide) rfl rfl ?_
  intro p e s m below meth c hadm X hE hH B hne
  refine g_entry [some (.ref b), some (.int v), none, none, none] rfl rfl (Nat.le_of_ble_eq_true rfl) (fun ls hl => ?_)
  have hh0 := hh
  obtain ⟨ho, hf, hd, hNN, hVV, hww, hmm, hgg, htp, hud, htl, haa, hxx⟩ := hh
  have hh := hh0
  have frA : ∀ p : Nat, p < H.size → ¬ hZ b c0 ad p → H[p]? = H[p]? := fun _ _ _ => rfl
  have zz : H.size = H.size := rfl
  refine lv_aload_n X.1.1 X.1.2.1 d_Hall_drop_0 rfl (gl_at hl rfl) ?_
  refine lv_iload_n X.1.1 X.1.2.1 d_Hall_drop_1 rfl (gl_at hl rfl) ?_
  exact g_leave B hne (g_tv X gWS_good mw_Hall_118 kc_Hall ho (t_Hall_measured l D q H b c0 ho htr xq v hv) (fun V h1 h2 => hE.on (fun p hp => by rw [hH]) h1 h2) (gEs.blind b xq) rfl rfl hl.1 (Nat.le_of_ble_eq_true rfl) rfl rfl ⟨by decide, by decide⟩ ⟨by decide, by decide⟩ d_Hall_drop_2) (fun x H1 hp => (by obtain ⟨e1, e2, e3, e4⟩ := hp; exact ⟨e1, hh.grow (by omega) e4, by omega, fun p hp9 hz => (e4 p (by omega)).trans (frA p hp9 hz)⟩)) (fun _ h => h) (fun _ h => by cases h) (by decide) (by decide)

set_option maxHeartbeats 4000000 in
set_option maxRecDepth 100000 in
theorem t_Hall_matchV (l : Launch) (D : va_G) (q : Nat → ClassId) (H : Heap) (b : Nat) (c0 : Nat) (ad : Nat → Nat) (org : Nat → Option Nat) (srt : Nat → Nat) (bt : Nat → List Nat) (tn : Nat → Nat) (mp : Nat → Nat) (wk : Nat → Nat × Nat × Nat × Nat) (n : Nat → Nat) (ks : Nat → Nat → List Nat) (vs : Nat → Nat → Int32) (chg : Nat → Nat) (tp : List Nat) (ud : List Nat) (tl : List Nat) (an : Nat) (aks : Nat → List Nat) (aus : List Nat) (xs : List Nat) (us : List (List Nat)) (so : Nat) (hh : hA D q H b c0 ad org srt bt tn mp wk n ks vs chg tp ud tl an aks aus xs us so) (htr : ∀ e, l.admits e → e.platform.stackTraces = false) (xq : Nat → ClassId) (v : Int32) (hv : ¬ h_ok c0 v) (x : Int32) : gT l y_Hall_match (Cond.code y_Hall_match b_Hall_match 6 (some .int) :: gWS) (gR 8 129 1 6) D CL (gY q) (fun U => gEs b xq U) [.ref b, .int v, .int x] H (fun x H1 => (∃ ce : Cell, H1[x]? = some ce ∧ ce.cls = xq 0 ∧ ce.vm = .none) ∧ hA D q H1 b c0 ad org srt bt tn mp wk n ks vs chg tp ud tl an aks aus xs us so ∧ H1.size = H.size + 1 ∧ ∀ p : Nat, p < H.size → ¬ hZ b c0 ad p → H1[p]? = H[p]?) 1 6 (fun p => b ≤ p) := by
  refine gT.ofW R_Hall "match" (by decide) rfl rfl ?_
  intro p e s m below meth c hadm X hE hH B hne
  refine g_entry [some (.ref b), some (.int v), some (.int x), none, none, none] rfl rfl (Nat.le_of_ble_eq_true rfl) (fun ls hl => ?_)
  have hh0 := hh
  obtain ⟨ho, hf, hd, hNN, hVV, hww, hmm, hgg, htp, hud, htl, haa, hxx⟩ := hh
  have hh := hh0
  have frA : ∀ p : Nat, p < H.size → ¬ hZ b c0 ad p → H[p]? = H[p]? := fun _ _ _ => rfl
  have zz : H.size = H.size := rfl
  refine lv_aload_n X.1.1 X.1.2.1 d_Hall_match_0 rfl (gl_at hl rfl) ?_
  refine lv_iload_n X.1.1 X.1.2.1 d_Hall_match_1 rfl (gl_at hl rfl) ?_
  exact g_leave B hne (g_tv X gWS_good mw_Hall_118 kc_Hall ho (t_Hall_measured l D q H b c0 ho htr xq v hv) (fun V h1 h2 => hE.on (fun p hp => by rw [hH]) h1 h2) (gEs.blind b xq) rfl rfl hl.1 (Nat.le_of_ble_eq_true rfl) rfl rfl ⟨by decide, by decide⟩ ⟨by decide, by decide⟩ d_Hall_match_2) (fun x H1 hp => (by obtain ⟨e1, e2, e3, e4⟩ := hp; exact ⟨e1, hh.grow (by omega) e4, by omega, fun p hp9 hz => (e4 p (by omega)).trans (frA p hp9 hz)⟩)) (fun _ h => h) (fun _ h => by cases h) (by decide) (by decide)

set_option maxHeartbeats 4000000 in
set_option maxRecDepth 100000 in
theorem t_Hall_freezeV (l : Launch) (D : va_G) (q : Nat → ClassId) (H : Heap) (b : Nat) (c0 : Nat) (ad : Nat → Nat) (org : Nat → Option Nat) (srt : Nat → Nat) (bt : Nat → List Nat) (tn : Nat → Nat) (mp : Nat → Nat) (wk : Nat → Nat × Nat × Nat × Nat) (n : Nat → Nat) (ks : Nat → Nat → List Nat) (vs : Nat → Nat → Int32) (chg : Nat → Nat) (tp : List Nat) (ud : List Nat) (tl : List Nat) (an : Nat) (aks : Nat → List Nat) (aus : List Nat) (xs : List Nat) (us : List (List Nat)) (so : Nat) (hh : hA D q H b c0 ad org srt bt tn mp wk n ks vs chg tp ud tl an aks aus xs us so) (htr : ∀ e, l.admits e → e.platform.stackTraces = false) (xq : Nat → ClassId) (v : Int32) (hv : ¬ h_ok c0 v) : gT l y_Hall_freeze (Cond.code y_Hall_freeze b_Hall_freeze 2 (some .int) :: gWS) (gR 8 129 1 6) D CL (gY q) (fun U => gEs b xq U) [.ref b, .int v] H (fun x H1 => (∃ ce : Cell, H1[x]? = some ce ∧ ce.cls = xq 0 ∧ ce.vm = .none) ∧ hA D q H1 b c0 ad org srt bt tn mp wk n ks vs chg tp ud tl an aks aus xs us so ∧ H1.size = H.size + 1 ∧ ∀ p : Nat, p < H.size → ¬ hZ b c0 ad p → H1[p]? = H[p]?) 1 6 (fun p => b ≤ p) := by
  refine gT.ofW R_Hall "freeze" (by decide) rfl rfl ?_
  intro p e s m below meth c hadm X hE hH B hne
  refine g_entry [some (.ref b), some (.int v)] rfl rfl (Nat.le_of_ble_eq_true rfl) (fun ls hl => ?_)
  have hh0 := hh
  obtain ⟨ho, hf, hd, hNN, hVV, hww, hmm, hgg, htp, hud, htl, haa, hxx⟩ := hh
  have hh := hh0
  have frA : ∀ p : Nat, p < H.size → ¬ hZ b c0 ad p → H[p]? = H[p]? := fun _ _ _ => rfl
  have zz : H.size = H.size := rfl
  refine lv_aload_n X.1.1 X.1.2.1 d_Hall_freeze_0 rfl (gl_at hl rfl) ?_
  refine g_get X kc_Hall ho 6 (by decide) lk_Hall_48 rfl d_Hall_freeze_1 ?_
  refine lv_aload_n X.1.1 X.1.2.1 d_Hall_freeze_4 rfl (gl_at hl rfl) ?_
  refine lv_iload_n X.1.1 X.1.2.1 d_Hall_freeze_5 rfl (gl_at hl rfl) ?_
  exact g_leave B hne (g_tv X gWS_good mw_Hall_118 kc_Hall ho (t_Hall_measured l D q H b c0 ho htr xq v hv) (fun V h1 h2 => hE.on (fun p hp => by rw [hH]) h1 h2) (gEs.blind b xq) rfl rfl hl.1 (Nat.le_of_ble_eq_true rfl) rfl rfl ⟨by decide, by decide⟩ ⟨by decide, by decide⟩ d_Hall_freeze_6) (fun x H1 hp => (by obtain ⟨e1, e2, e3, e4⟩ := hp; exact ⟨e1, hh.grow (by omega) e4, by omega, fun p hp9 hz => (e4 p (by omega)).trans (frA p hp9 hz)⟩)) (fun _ h => h) (fun _ h => by cases h) (by decide) (by decide)

set_option maxHeartbeats 4000000 in
set_option maxRecDepth 100000 in
theorem c_Hall_at (l : Launch) (D : va_G) (q : Nat → ClassId) (H : Heap) (b : Nat) (c0 : Nat) (ad : Nat → Nat) (org : Nat → Option Nat) (srt : Nat → Nat) (bt : Nat → List Nat) (tn : Nat → Nat) (mp : Nat → Nat) (wk : Nat → Nat × Nat × Nat × Nat) (n : Nat → Nat) (ks : Nat → Nat → List Nat) (vs : Nat → Nat → Int32) (chg : Nat → Nat) (tp : List Nat) (ud : List Nat) (tl : List Nat) (an : Nat) (aks : Nat → List Nat) (aus : List Nat) (xs : List Nat) (us : List (List Nat)) (so : Nat) (hh : hA D q H b c0 ad org srt bt tn mp wk n ks vs chg tp ud tl an aks aus xs us so) (k : Nat) (hk : k < c0) (r : Nat) (hr0 : ∀ f0 t0, v_ms org srt bt k (n (mp k)) (ks (mp k)) f0 t0 → r < t0 - f0) : gC l y_Hall_at (Cond.code y_Hall_at b_Hall_at 3 (some .int) :: gWS) (gR 8 129 0 0) D CL (gY q) (fun _ => True) [.ref b, .int (nI k), .int (nI r)] H (fun v1 H1 => ∃ f0 t0, v_ms org srt bt k (n (mp k)) (ks (mp k)) f0 t0 ∧ v1 = some (.int (vs (mp k) (if tn k ≠ 0 then t0 - 1 - r else f0 + r))) ∧ hA D q H1 b c0 ad org srt bt tn mp wk n ks vs chg tp ud (ks (mp k) (if tn k ≠ 0 then t0 - 1 - r else f0 + r)) an aks aus xs us so ∧ H1.size = H.size ∧ ∀ p : Nat, p < H.size → ¬ hZ b c0 ad p → H1[p]? = H[p]?) 0 0 (fun p => b ≤ p) := by
  refine gC.ofW R_Hall "at" (by decide) rfl rfl ?_
  intro p e s m below meth c hadm X hE hH B hne
  refine g_entry [some (.ref b), some (.int (nI k)), some (.int (nI r))] rfl rfl (Nat.le_of_ble_eq_true rfl) (fun ls hl => ?_)
  have hh0 := hh
  obtain ⟨ho, hf, hd, hNN, hVV, hww, hmm, hgg, htp, hud, htl, haa, hxx⟩ := hh
  have hh := hh0
  have frA : ∀ p : Nat, p < H.size → ¬ hZ b c0 ad p → H[p]? = H[p]? := fun _ _ _ => rfl
  have zz : H.size = H.size := rfl
  refine lv_aload_n X.1.1 X.1.2.1 d_Hall_at_0 rfl (gl_at hl rfl) ?_
  refine lv_aload_n X.1.1 X.1.2.1 d_Hall_at_1 rfl (gl_at hl rfl) ?_
  refine lv_iload_n X.1.1 X.1.2.1 d_Hall_at_2 rfl (gl_at hl rfl) ?_
  refine g_cv (A := (fun p => b ≤ p)) X gWS_good mw_Hall_118 kc_Hall ho (c_Hall_measured l D q H b c0 ho ad org srt bt tn mp hd hf hNN hVV n ks vs chg hmm k hk) (fun _ _ _ => trivial) gBlind.tt rfl rfl hl.1 (Nat.le_of_ble_eq_true rfl) rfl rfl ⟨by decide, by decide⟩ ⟨by decide, by decide⟩ d_Hall_at_3 (fun p h => show b ≤ p by have h9 := hd.lt hk; omega) (fun _ h => by cases h) (fun v1 H2 locs hp3 hL => ?_)
  obtain ⟨f0, t0, rfl, hvc, hms, hz1, fr1⟩ := hp3
  replace frA : ∀ p : Nat, p < H.size → ¬ hZ b c0 ad p → H2[p]? = H[p]? := fun p hp hz => (fr1 p (by (have z1 := hZ_b hz); (have z2 := hZ_v hd hk hz); omega)).trans (frA p hp hz)
  replace zz := hz1.trans zz
  replace hh := hh.measure hk hvc hz1 fr1
  clear ho hf hd hNN hVV hww hmm hgg htp hud htl haa hxx
  have hh0 := hh
  obtain ⟨ho, hf, hd, hNN, hVV, hww, hmm, hgg, htp, hud, htl, haa, hxx⟩ := hh
  have hh := hh0
  obtain ⟨ms1, ms2, ms3, ms4, ms5, ms6⟩ := hms
  have hmk := hNN k hk
  have hmA := hmm (mp k) hmk.2.2.2
  have hdl := hd.lt hk
  have hnm := hmA.1.2.1
  have hfar := hd.far hk hmk.2.2.2
  have hr := hr0 f0 t0 ⟨ms1, ms2, ms3, ms4, ms5, ms6⟩
  refine lv_iload_n X.1.1 X.1.2.1 d_Hall_at_6 rfl (gl_at hl rfl) ?_
  refine g_cv (A := (fun p => b ≤ p)) X gWS_good mw_Hall_128 kc_Hall ho (c_Hall_tell l D q H2 b c0 ho (ad k) _ _ _ _ _ _ f0 t0 hvc ms1 hmk.2.2.1 _ _ _ _ hmA.1 ms2 (by omega) (by omega) tl htl r (if tn k ≠ 0 then t0 - 1 - r else f0 + r) hr rfl) (fun _ _ _ => trivial) gBlind.tt rfl rfl hl.1 (Nat.le_of_ble_eq_true rfl) rfl rfl ⟨by decide, by decide⟩ ⟨by decide, by decide⟩ d_Hall_at_7 (fun p h => show b ≤ p by omega) hL (fun v4 H5 locs hp6 hL => ?_)
  obtain ⟨rfl, k1, hz1, fr1⟩ := hp6
  replace hvc := va_at.kept hvc (fr1 _ (by omega))
  replace frA : ∀ p : Nat, p < H.size → ¬ hZ b c0 ad p → H5[p]? = H[p]? := fun p hp hz => (fr1 p (by (have z1 := hZ_b hz); omega)).trans (frA p hp hz)
  replace zz := hz1.trans zz
  replace hh := hh.told k1 hz1 fr1
  clear ho hf hd hNN hVV hww hmm hgg htp hud htl haa hxx
  have hh0 := hh
  obtain ⟨ho, hf, hd, hNN, hVV, hww, hmm, hgg, htp, hud, htl, haa, hxx⟩ := hh
  have hh := hh0
  replace hmA := hmm (mp k) hmk.2.2.2
  exact g_iret X B ⟨f0, t0, ⟨ms1, ms2, ms3, ms4, ms5, ms6⟩, rfl, hh, zz, frA⟩ hL d_Hall_at_10 (by omega) (by omega)

set_option maxHeartbeats 4000000 in
set_option maxRecDepth 100000 in
theorem t_Hall_at3 (l : Launch) (D : va_G) (q : Nat → ClassId) (H : Heap) (b : Nat) (c0 : Nat) (ad : Nat → Nat) (org : Nat → Option Nat) (srt : Nat → Nat) (bt : Nat → List Nat) (tn : Nat → Nat) (mp : Nat → Nat) (wk : Nat → Nat × Nat × Nat × Nat) (n : Nat → Nat) (ks : Nat → Nat → List Nat) (vs : Nat → Nat → Int32) (chg : Nat → Nat) (tp : List Nat) (ud : List Nat) (tl : List Nat) (an : Nat) (aks : Nat → List Nat) (aus : List Nat) (xs : List Nat) (us : List (List Nat)) (so : Nat) (hh : hA D q H b c0 ad org srt bt tn mp wk n ks vs chg tp ud tl an aks aus xs us so) (htr : ∀ e, l.admits e → e.platform.stackTraces = false) (xq : Nat → ClassId) (k : Nat) (hk : k < c0) (r : Int32) (hr0 : ∀ f0 t0, v_ms org srt bt k (n (mp k)) (ks (mp k)) f0 t0 → ¬ h_ok (t0 - f0) r) : gT l y_Hall_at (Cond.code y_Hall_at b_Hall_at 3 (some .int) :: gWS) (gR 8 129 1 6) D CL (gY q) (fun U => gEs b xq U) [.ref b, .int (nI k), .int r] H (fun x H1 => (∃ ce : Cell, H1[x]? = some ce ∧ ce.cls = xq 3 ∧ ce.vm = .none) ∧ hA D q H1 b c0 ad org srt bt tn mp wk n ks vs chg tp ud tl an aks aus xs us so ∧ H1.size = H.size + 1 ∧ ∀ p : Nat, p < H.size → ¬ hZ b c0 ad p → H1[p]? = H[p]?) 1 6 (fun p => b ≤ p) := by
  refine gT.ofW R_Hall "at" (by decide) rfl rfl ?_
  intro p e s m below meth c hadm X hE hH B hne
  refine g_entry [some (.ref b), some (.int (nI k)), some (.int r)] rfl rfl (Nat.le_of_ble_eq_true rfl) (fun ls hl => ?_)
  have hh0 := hh
  obtain ⟨ho, hf, hd, hNN, hVV, hww, hmm, hgg, htp, hud, htl, haa, hxx⟩ := hh
  have hh := hh0
  have frA : ∀ p : Nat, p < H.size → ¬ hZ b c0 ad p → H[p]? = H[p]? := fun _ _ _ => rfl
  have zz : H.size = H.size := rfl
  refine lv_aload_n X.1.1 X.1.2.1 d_Hall_at_0 rfl (gl_at hl rfl) ?_
  refine lv_aload_n X.1.1 X.1.2.1 d_Hall_at_1 rfl (gl_at hl rfl) ?_
  refine lv_iload_n X.1.1 X.1.2.1 d_Hall_at_2 rfl (gl_at hl rfl) ?_
  refine g_cv (A := (fun p => b ≤ p)) X gWS_good mw_Hall_118 kc_Hall ho (c_Hall_measured l D q H b c0 ho ad org srt bt tn mp hd hf hNN hVV n ks vs chg hmm k hk) (fun _ _ _ => trivial) gBlind.tt rfl rfl hl.1 (Nat.le_of_ble_eq_true rfl) rfl rfl ⟨by decide, by decide⟩ ⟨by decide, by decide⟩ d_Hall_at_3 (fun p h => show b ≤ p by have h9 := hd.lt hk; omega) (fun _ h => by cases h) (fun v1 H2 locs hp3 hL => ?_)
  obtain ⟨f0, t0, rfl, hvc, hms, hz1, fr1⟩ := hp3
  replace frA : ∀ p : Nat, p < H.size → ¬ hZ b c0 ad p → H2[p]? = H[p]? := fun p hp hz => (fr1 p (by (have z1 := hZ_b hz); (have z2 := hZ_v hd hk hz); omega)).trans (frA p hp hz)
  replace zz := hz1.trans zz
  replace hh := hh.measure hk hvc hz1 fr1
  clear ho hf hd hNN hVV hww hmm hgg htp hud htl haa hxx
  have hh0 := hh
  obtain ⟨ho, hf, hd, hNN, hVV, hww, hmm, hgg, htp, hud, htl, haa, hxx⟩ := hh
  have hh := hh0
  obtain ⟨ms1, ms2, ms3, ms4, ms5, ms6⟩ := hms
  have hmk := hNN k hk
  have hmA := hmm (mp k) hmk.2.2.2
  have hdl := hd.lt hk
  have hnm := hmA.1.2.1
  have hfar := hd.far hk hmk.2.2.2
  refine lv_iload_n X.1.1 X.1.2.1 d_Hall_at_6 rfl (gl_at hl rfl) ?_
  exact g_leave B hne (g_tv X gWS_good mw_Hall_128 kc_Hall ho (t_Hall_tell l D q H2 b c0 ho (ad k) _ _ _ _ _ _ f0 t0 hvc ms1 htr xq r (hr0 f0 t0 ⟨ms1, ms2, ms3, ms4, ms5, ms6⟩)) (fun V h1 h2 => hE.on (fun p hp => by rw [hH]; exact frA p (by omega) (fun h9 => by rcases h9 with h8 | ⟨j, j1, j2, j3, j4⟩; omega; (have h7 := hd.lt j2; omega))) h1 h2) (gEs.blind b xq) rfl rfl hl.1 (Nat.le_of_ble_eq_true rfl) rfl rfl ⟨by decide, by decide⟩ ⟨by decide, by decide⟩ d_Hall_at_7) (fun x H1 hp => (by obtain ⟨e1, e2, e3, e4⟩ := hp; exact ⟨e1, hh.grow (by omega) e4, by omega, fun p hp9 hz => (e4 p (by omega)).trans (frA p hp9 hz)⟩)) (fun _ h => h) hL (by decide) (by decide)
