/-! the class KeyHall, 12: printed by wip/specs/hall12.py -/
set_option maxHeartbeats 4000000 in
set_option maxRecDepth 100000 in
theorem t_Hall_edges0 (l : Launch) (D : va_G) (q : Nat → ClassId) (H : Heap) (b : Nat) (c0 : Nat) (ad : Nat → Nat) (org : Nat → Option Nat) (srt : Nat → Nat) (bt : Nat → List Nat) (tn : Nat → Nat) (mp : Nat → Nat) (wk : Nat → Nat × Nat × Nat × Nat) (n : Nat → Nat) (ks : Nat → Nat → List Nat) (vs : Nat → Nat → Int32) (chg : Nat → Nat) (tp : List Nat) (ud : List Nat) (tl : List Nat) (an : Nat) (aks : Nat → List Nat) (aus : List Nat) (xs : List Nat) (us : List (List Nat)) (so : Nat) (hh : hA D q H b c0 ad org srt bt tn mp wk n ks vs chg tp ud tl an aks aus xs us so) (htr : ∀ e, l.admits e → e.platform.stackTraces = false) (xq : Nat → ClassId) (x : Int32) (hbad : ¬ (¬ x < 0 ∧ x ≤ nI 5)) : gT l y_Hall_edges (Cond.code y_Hall_edges b_Hall_edges 4 (some .int) :: gWS) (gR 6 88 1 6) D CL (gY q) (fun U => gEs b xq U) [.ref b, .int x] H (fun x H1 => (∃ ce : Cell, H1[x]? = some ce ∧ ce.cls = xq 0 ∧ ce.vm = .none) ∧ hA D q H1 b c0 ad org srt bt tn mp wk n ks vs chg tp ud tl an aks aus xs us so ∧ H1.size = H.size + 1 ∧ ∀ p : Nat, p < H.size → ¬ hZ b c0 ad p → H1[p]? = H[p]?) 1 6 (fun p => b ≤ p) := by
  refine gT.ofW R_Hall "edges" (by decide) rfl rfl ?_
  intro p e s m below meth c hadm X hE hH B hne
  refine g_entry [some (.ref b), some (.int x), none, none] rfl rfl (Nat.le_of_ble_eq_true rfl) (fun ls hl => ?_)
  have hh0 := hh
  obtain ⟨ho, hf, hd, hNN, hVV, hww, hmm, hgg, htp, hud, htl, haa, hxx⟩ := hh
  have hh := hh0
  have frA : ∀ p : Nat, p < H.size → ¬ hZ b c0 ad p → H[p]? = H[p]? := fun _ _ _ => rfl
  have zz : H.size = H.size := rfl
  refine lv_iload_n X.1.1 X.1.2.1 d_Hall_edges_0 rfl (gl_at hl rfl) ?_
  refine lv_if_lt X.1.1 X.1.2.1 d_Hall_edges_1 rfl (fun hc1 => ?_) (fun hc1 => ?_)
  · exact g_throw X B hne htr hE 0 (by decide) (fun _ h => by cases h) hl.1 (h := H.size) zz (by rw [hH]; exact Nat.le_refl _) d_Hall_edges_9 d_Hall_edges_12 d_Hall_edges_13 d_Hall_edges_16 (by decide) (by decide) (by decide) (by decide) (fun H1 ce h1 h2 h3 h4 h5 => ⟨⟨ce, h1, h2, h3⟩, hh.grow (by omega) (fun p hp => h5 p (by omega)), h4, fun p hp hz => (h5 p hp).trans (frA p hp hz)⟩) (fun _ h => by cases h) (by decide) (by decide)
  · refine lv_iload_n X.1.1 X.1.2.1 d_Hall_edges_4 rfl (gl_at hl rfl) ?_
    refine lv_iconst (v := nI 5) X.1.1 X.1.2.1 d_Hall_edges_5 (by decide) ?_
    refine lv_icmp_le X.1.1 X.1.2.1 d_Hall_edges_6 rfl (fun hc6 => ?_) (fun hc6 => ?_)
    · exact absurd ⟨hc1, hc6⟩ hbad
    · exact g_throw X B hne htr hE 0 (by decide) (fun _ h => by cases h) hl.1 (h := H.size) zz (by rw [hH]; exact Nat.le_refl _) d_Hall_edges_9 d_Hall_edges_12 d_Hall_edges_13 d_Hall_edges_16 (by decide) (by decide) (by decide) (by decide) (fun H1 ce h1 h2 h3 h4 h5 => ⟨⟨ce, h1, h2, h3⟩, hh.grow (by omega) (fun p hp => h5 p (by omega)), h4, fun p hp hz => (h5 p hp).trans (frA p hp hz)⟩) (fun _ h => by cases h) (by decide) (by decide)

set_option maxHeartbeats 4000000 in
set_option maxRecDepth 100000 in
theorem c_Hall_edges5N (l : Launch) (D : va_G) (q : Nat → ClassId) (H : Heap) (b : Nat) (c0 : Nat) (ad : Nat → Nat) (org : Nat → Option Nat) (srt : Nat → Nat) (bt : Nat → List Nat) (tn : Nat → Nat) (mp : Nat → Nat) (wk : Nat → Nat × Nat × Nat × Nat) (n : Nat → Nat) (ks : Nat → Nat → List Nat) (vs : Nat → Nat → Int32) (chg : Nat → Nat) (tp : List Nat) (ud : List Nat) (tl : List Nat) (an : Nat) (aks : Nat → List Nat) (aus : List Nat) (xs : List Nat) (us : List (List Nat)) (so : Nat) (hh : hA D q H b c0 ad org srt bt tn mp wk n ks vs chg tp ud tl an aks aus xs us so) (hmp : mp 0 = 0) (hno : ∀ j, j < n 0 → ks 0 j ≠ tp) : gC l y_Hall_edges (Cond.code y_Hall_edges b_Hall_edges 4 (some .int) :: gWS) (gR 6 88 0 0) D CL (gY q) (fun _ => True) [.ref b, .int (nI 5)] H (fun v1 H1 => v1 = some (.int (-1)) ∧ hA D q H1 b c0 ad org srt bt tn mp wk n ks vs chg [] tp tl an aks aus xs us so ∧ H1.size = H.size ∧ ∀ p : Nat, p < H.size → ¬ hZ b c0 ad p → H1[p]? = H[p]?) 0 0 (fun p => b ≤ p) := by
  refine gC.ofW R_Hall "edges" (by decide) rfl rfl ?_
  intro p e s m below meth c hadm X hE hH B hne
  refine g_entry [some (.ref b), some (.int (nI 5)), none, none] rfl rfl (Nat.le_of_ble_eq_true rfl) (fun ls hl => ?_)
  have hh0 := hh
  obtain ⟨ho, hf, hd, hNN, hVV, hww, hmm, hgg, htp, hud, htl, haa, hxx⟩ := hh
  have hh := hh0
  have frA : ∀ p : Nat, p < H.size → ¬ hZ b c0 ad p → H[p]? = H[p]? := fun _ _ _ => rfl
  have zz : H.size = H.size := rfl
  refine lv_iload_n X.1.1 X.1.2.1 d_Hall_edges_0 rfl (gl_at hl rfl) ?_
  refine lv_if_lt X.1.1 X.1.2.1 d_Hall_edges_1 rfl (fun hc1 => ?_) (fun hc1 => ?_)
  · exact absurd hc1 (by decide)
  · refine lv_iload_n X.1.1 X.1.2.1 d_Hall_edges_4 rfl (gl_at hl rfl) ?_
    refine lv_iconst (v := nI 5) X.1.1 X.1.2.1 d_Hall_edges_5 (by decide) ?_
    refine gn_le X.1.1 X.1.2.1 5 5 (by omega) (by omega) d_Hall_edges_6 rfl (fun hc6 => ?_) (fun hc6 => ?_)
    · refine lv_iload_n X.1.1 X.1.2.1 d_Hall_edges_17 rfl (gl_at hl rfl) ?_
      refine lv_iconst (v := nI 5) X.1.1 X.1.2.1 d_Hall_edges_18 (by decide) ?_
      refine gn_eq X.1.1 X.1.2.1 5 5 (by omega) (by omega) d_Hall_edges_19 rfl (fun hc19 => ?_) (fun hc19 => ?_)
      · refine lv_aload_n X.1.1 X.1.2.1 d_Hall_edges_51 rfl (gl_at hl rfl) ?_
        refine g_cv (A := (fun p => b ≤ p)) X gWS_good mw_Hall_74 kc_Hall ho (c_Hall_useTape l D q H b c0 ho tp ud htp hud) (fun _ _ _ => trivial) gBlind.tt rfl rfl hl.1 (Nat.le_of_ble_eq_true rfl) rfl rfl ⟨by decide, by decide⟩ ⟨by decide, by decide⟩ d_Hall_edges_52 (fun p h => show b ≤ p by omega) (fun _ h => by cases h) (fun v1 H2 locs hp3 hL => ?_)
        obtain ⟨rfl, k1, k2, hz1, fr1⟩ := hp3
        replace frA : ∀ p : Nat, p < H.size → ¬ hZ b c0 ad p → H2[p]? = H[p]? := fun p hp hz => (fr1 p (by (have z1 := hZ_b hz); omega)).trans (frA p hp hz)
        replace zz := hz1.trans zz
        replace hh := hh.tape k1 k2 hz1 fr1
        clear ho hf hd hNN hVV hww hmm hgg htp hud htl haa hxx
        have hh0 := hh
        obtain ⟨ho, hf, hd, hNN, hVV, hww, hmm, hgg, htp, hud, htl, haa, hxx⟩ := hh
        have hh := hh0
        obtain ⟨vf, hvf, hvg⟩ := hf
        have hc3 := hd.1
        have hc12 := hd.2.1
        obtain ⟨⟨f0, t0, hvc⟩, hbk9⟩ := hVV 0 (by omega)
        have hm0 := hmm 0 (by omega)
        have had := hd.2.2.2.1 0 (by omega)
        have hnm := hm0.1.2.1
        have hmp0 := hmp
        unfold hVc at hvc
        rw [hmp] at hvc
        refine lv_aload_n X.1.1 X.1.2.1 d_Hall_edges_55 rfl (gl_at hl rfl) ?_
        refine g_get X kc_Hall ho 3 (by decide) lk_Hall_24 rfl d_Hall_edges_56 ?_
        refine lv_iconst (v := nI 0) X.1.1 X.1.2.1 d_Hall_edges_59 (by decide) ?_
        refine g_aald X 4 hvf rfl 0 (by omega) (by decide) (v := .ref (ad 0)) (by rw [hvg _ (by omega)]; rfl) d_Hall_edges_60 ?_
        refine g_get X kc_View hvc 0 (by decide) lk_Hall_87 rfl d_Hall_edges_61 ?_
        refine g_astn X.1.1 X.1.2.1 hl 2 d_Hall_edges_64 rfl (Nat.le_of_ble_eq_true rfl) rfl (fun ls hl => ?_)
        refine lv_aload_n X.1.1 X.1.2.1 d_Hall_edges_65 rfl (gl_at hl rfl) ?_
        refine lv_aload_n X.1.1 X.1.2.1 d_Hall_edges_66 rfl (gl_at hl rfl) ?_
        refine g_get X kc_Hall ho 1 (by decide) lk_Hall_16 rfl d_Hall_edges_67 ?_
        refine g_cv (A := (fun p => b ≤ p)) X gWS_good mw_Hall_91 kc_KeyMap hm0.1.1 (c_KeyMap_placeOf l D q H2 (b + 9 + 135 * 0) _ _ _ _ hm0.1 hm0.2 (b + 3) tp hud) (fun _ _ _ => trivial) gBlind.tt rfl rfl hl.1 (Nat.le_of_ble_eq_true rfl) rfl rfl ⟨by decide, by decide⟩ ⟨by decide, by decide⟩ d_Hall_edges_70 (fun _ h => h.elim) hL (fun v4 H5 locs hp6 hL => ?_)
        obtain ⟨hw, hHe⟩ := hp6
        rw [hHe]
        obtain rfl : v4 = some (.int (-1)) := by
          rcases hw with ⟨r9, h1, h2, h3⟩ | ⟨h1, h2⟩
          · exact absurd h3 (hno r9 h1)
          · exact h1
        refine g_istn X.1.1 X.1.2.1 hl 3 d_Hall_edges_73 rfl (Nat.le_of_ble_eq_true rfl) rfl (fun ls hl => ?_)
        refine lv_iload_n X.1.1 X.1.2.1 d_Hall_edges_74 rfl (gl_at hl rfl) ?_
        refine lv_iconst (v := (-1)) X.1.1 X.1.2.1 d_Hall_edges_75 (by decide) ?_
        refine lv_icmp_ne X.1.1 X.1.2.1 d_Hall_edges_76 rfl (fun hc76 => ?_) (fun hc76 => ?_)
        · exact absurd rfl hc76
        · refine lv_iconst (v := (-1)) X.1.1 X.1.2.1 d_Hall_edges_79 (by decide) ?_
          refine lv_goto X.1.1 X.1.2.1 d_Hall_edges_80 rfl ?_
          exact g_iret X B ⟨rfl, hh, zz, frA⟩ hL d_Hall_edges_92 (by omega) (by omega)
      · omega
    · omega

set_option maxHeartbeats 4000000 in
set_option maxRecDepth 100000 in
theorem c_Hall_edges5 (l : Launch) (D : va_G) (q : Nat → ClassId) (H : Heap) (b : Nat) (c0 : Nat) (ad : Nat → Nat) (org : Nat → Option Nat) (srt : Nat → Nat) (bt : Nat → List Nat) (tn : Nat → Nat) (mp : Nat → Nat) (wk : Nat → Nat × Nat × Nat × Nat) (n : Nat → Nat) (ks : Nat → Nat → List Nat) (vs : Nat → Nat → Int32) (chg : Nat → Nat) (tp : List Nat) (ud : List Nat) (tl : List Nat) (an : Nat) (aks : Nat → List Nat) (aus : List Nat) (xs : List Nat) (us : List (List Nat)) (so : Nat) (hh : hA D q H b c0 ad org srt bt tn mp wk n ks vs chg tp ud tl an aks aus xs us so) (hmp : mp 0 = 0) (r : Nat) (hrn : r < n 0) (hrk : ks 0 r = tp) : gC l y_Hall_edges (Cond.code y_Hall_edges b_Hall_edges 4 (some .int) :: gWS) (gR 6 88 0 0) D CL (gY q) (fun _ => True) [.ref b, .int (nI 5)] H (fun v1 H1 => v1 = some (.int (nI (e_dep (fun j => e_fdb (ks 0 r) (ks 0 j)) r (n 0)))) ∧ hA D q H1 b c0 ad org srt bt tn mp wk n ks vs chg [] tp tl an aks aus xs us so ∧ H1.size = H.size ∧ ∀ p : Nat, p < H.size → ¬ hZ b c0 ad p → H1[p]? = H[p]?) 0 0 (fun p => b ≤ p) := by
  refine gC.ofW R_Hall "edges" (by decide) rfl rfl ?_
  intro p e s m below meth c hadm X hE hH B hne
  refine g_entry [some (.ref b), some (.int (nI 5)), none, none] rfl rfl (Nat.le_of_ble_eq_true rfl) (fun ls hl => ?_)
  have hh0 := hh
  obtain ⟨ho, hf, hd, hNN, hVV, hww, hmm, hgg, htp, hud, htl, haa, hxx⟩ := hh
  have hh := hh0
  have frA : ∀ p : Nat, p < H.size → ¬ hZ b c0 ad p → H[p]? = H[p]? := fun _ _ _ => rfl
  have zz : H.size = H.size := rfl
  refine lv_iload_n X.1.1 X.1.2.1 d_Hall_edges_0 rfl (gl_at hl rfl) ?_
  refine lv_if_lt X.1.1 X.1.2.1 d_Hall_edges_1 rfl (fun hc1 => ?_) (fun hc1 => ?_)
  · exact absurd hc1 (by decide)
  · refine lv_iload_n X.1.1 X.1.2.1 d_Hall_edges_4 rfl (gl_at hl rfl) ?_
    refine lv_iconst (v := nI 5) X.1.1 X.1.2.1 d_Hall_edges_5 (by decide) ?_
    refine gn_le X.1.1 X.1.2.1 5 5 (by omega) (by omega) d_Hall_edges_6 rfl (fun hc6 => ?_) (fun hc6 => ?_)
    · refine lv_iload_n X.1.1 X.1.2.1 d_Hall_edges_17 rfl (gl_at hl rfl) ?_
      refine lv_iconst (v := nI 5) X.1.1 X.1.2.1 d_Hall_edges_18 (by decide) ?_
      refine gn_eq X.1.1 X.1.2.1 5 5 (by omega) (by omega) d_Hall_edges_19 rfl (fun hc19 => ?_) (fun hc19 => ?_)
      · refine lv_aload_n X.1.1 X.1.2.1 d_Hall_edges_51 rfl (gl_at hl rfl) ?_
        refine g_cv (A := (fun p => b ≤ p)) X gWS_good mw_Hall_74 kc_Hall ho (c_Hall_useTape l D q H b c0 ho tp ud htp hud) (fun _ _ _ => trivial) gBlind.tt rfl rfl hl.1 (Nat.le_of_ble_eq_true rfl) rfl rfl ⟨by decide, by decide⟩ ⟨by decide, by decide⟩ d_Hall_edges_52 (fun p h => show b ≤ p by omega) (fun _ h => by cases h) (fun v1 H2 locs hp3 hL => ?_)
        obtain ⟨rfl, k1, k2, hz1, fr1⟩ := hp3
        replace frA : ∀ p : Nat, p < H.size → ¬ hZ b c0 ad p → H2[p]? = H[p]? := fun p hp hz => (fr1 p (by (have z1 := hZ_b hz); omega)).trans (frA p hp hz)
        replace zz := hz1.trans zz
        replace hh := hh.tape k1 k2 hz1 fr1
        clear ho hf hd hNN hVV hww hmm hgg htp hud htl haa hxx
        have hh0 := hh
        obtain ⟨ho, hf, hd, hNN, hVV, hww, hmm, hgg, htp, hud, htl, haa, hxx⟩ := hh
        have hh := hh0
        obtain ⟨vf, hvf, hvg⟩ := hf
        have hc3 := hd.1
        have hc12 := hd.2.1
        obtain ⟨⟨f0, t0, hvc⟩, hbk9⟩ := hVV 0 (by omega)
        have hm0 := hmm 0 (by omega)
        have had := hd.2.2.2.1 0 (by omega)
        have hnm := hm0.1.2.1
        have hmp0 := hmp
        unfold hVc at hvc
        rw [hmp] at hvc
        refine lv_aload_n X.1.1 X.1.2.1 d_Hall_edges_55 rfl (gl_at hl rfl) ?_
        refine g_get X kc_Hall ho 3 (by decide) lk_Hall_24 rfl d_Hall_edges_56 ?_
        refine lv_iconst (v := nI 0) X.1.1 X.1.2.1 d_Hall_edges_59 (by decide) ?_
        refine g_aald X 4 hvf rfl 0 (by omega) (by decide) (v := .ref (ad 0)) (by rw [hvg _ (by omega)]; rfl) d_Hall_edges_60 ?_
        refine g_get X kc_View hvc 0 (by decide) lk_Hall_87 rfl d_Hall_edges_61 ?_
        refine g_astn X.1.1 X.1.2.1 hl 2 d_Hall_edges_64 rfl (Nat.le_of_ble_eq_true rfl) rfl (fun ls hl => ?_)
        refine lv_aload_n X.1.1 X.1.2.1 d_Hall_edges_65 rfl (gl_at hl rfl) ?_
        refine lv_aload_n X.1.1 X.1.2.1 d_Hall_edges_66 rfl (gl_at hl rfl) ?_
        refine g_get X kc_Hall ho 1 (by decide) lk_Hall_16 rfl d_Hall_edges_67 ?_
        refine g_cv (A := (fun p => b ≤ p)) X gWS_good mw_Hall_91 kc_KeyMap hm0.1.1 (c_KeyMap_placeOf l D q H2 (b + 9 + 135 * 0) _ _ _ _ hm0.1 hm0.2 (b + 3) tp hud) (fun _ _ _ => trivial) gBlind.tt rfl rfl hl.1 (Nat.le_of_ble_eq_true rfl) rfl rfl ⟨by decide, by decide⟩ ⟨by decide, by decide⟩ d_Hall_edges_70 (fun _ h => h.elim) hL (fun v4 H5 locs hp6 hL => ?_)
        obtain ⟨hw, hHe⟩ := hp6
        rw [hHe]
        obtain rfl : v4 = some (.int (nI r)) := by
          rcases hw with ⟨r9, h1, h2, h3⟩ | ⟨h1, h2⟩
          · rw [h2, mS_inj hm0.2 h1 hrn (h3.trans hrk.symm)]
          · exact absurd hrk (h2 r hrn)
        refine g_istn X.1.1 X.1.2.1 hl 3 d_Hall_edges_73 rfl (Nat.le_of_ble_eq_true rfl) rfl (fun ls hl => ?_)
        refine lv_iload_n X.1.1 X.1.2.1 d_Hall_edges_74 rfl (gl_at hl rfl) ?_
        refine lv_iconst (v := (-1)) X.1.1 X.1.2.1 d_Hall_edges_75 (by decide) ?_
        refine lv_icmp_ne X.1.1 X.1.2.1 d_Hall_edges_76 rfl (fun hc76 => ?_) (fun hc76 => ?_)
        · refine lv_aload_n X.1.1 X.1.2.1 d_Hall_edges_83 rfl (gl_at hl rfl) ?_
          refine g_get X kc_Hall ho 5 (by decide) lk_Hall_41 rfl d_Hall_edges_84 ?_
          refine lv_aload_n X.1.1 X.1.2.1 d_Hall_edges_87 rfl (gl_at hl rfl) ?_
          refine lv_iload_n X.1.1 X.1.2.1 d_Hall_edges_88 rfl (gl_at hl rfl) ?_
          obtain ⟨gg1, gg2, ⟨T9, gg3⟩⟩ := hgg
          have hgg : hG D q H2 b := ⟨gg1, gg2, ⟨T9, gg3⟩⟩
          have hf : hF D q H2 b c0 ad := ⟨vf, hvf, hvg⟩
          refine g_cv (A := (fun p => b ≤ p)) X gWS_good mw_Hall_190 kc_Edges gg1 (c_Edges_depth l D q H2 (b + 413) T9 gg1 gg3 (b + 9 + 135 * 0) _ _ _ _ hm0.1 hm0.2 (by omega) r hrn) (fun _ _ _ => trivial) gBlind.tt rfl rfl hl.1 (Nat.le_of_ble_eq_true rfl) rfl rfl ⟨by decide, by decide⟩ ⟨by decide, by decide⟩ d_Hall_edges_89 (fun p h => show b ≤ p by omega) hL (fun v7 H8 locs hp9 hL => ?_)
          obtain ⟨rfl, kT, hz1, fr1⟩ := hp9
          obtain ⟨S9, gS⟩ := gg2
          have kg : hG D q H8 b := ⟨va_at.kept gg1 (fr1 _ (by omega)), ⟨S9, va_at.kept gS (fr1 _ (by omega))⟩, kT⟩
          have fr2 : ∀ p : Nat, ¬ (b + 413 ≤ p ∧ p ≤ b + 415) → H8[p]? = H2[p]? := fun p hp => fr1 p (by omega)
          replace frA : ∀ p : Nat, p < H.size → ¬ hZ b c0 ad p → H8[p]? = H[p]? := fun p hp hz => (fr2 p (by (have z1 := hZ_b hz); omega)).trans (frA p hp hz)
          replace zz := hz1.trans zz
          replace hh := hh.edges kg hz1 fr2
          clear ho hf hd hNN hVV hww hmm hgg htp hud htl haa hxx
          have hh0 := hh
          obtain ⟨ho, hf, hd, hNN, hVV, hww, hmm, hgg, htp, hud, htl, haa, hxx⟩ := hh
          have hh := hh0
          exact g_iret X B ⟨rfl, hh, zz, frA⟩ hL d_Hall_edges_92 (by omega) (by omega)
        · exact absurd (congrArg Int32.toInt hc76) (by rw [nI_toInt (by omega)]; show (r : Int) ≠ -1; omega)
      · omega
    · omega
