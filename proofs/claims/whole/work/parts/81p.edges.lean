/-! edges once more, over old arrays: printed by wip/specs/hall14.py -/
set_option maxHeartbeats 4000000 in
set_option maxRecDepth 100000 in
theorem c_Hall_edgesE2 (l : Launch) (D : va_G) (q : Nat → ClassId) (H : Heap) (b : Nat) (c0 : Nat) (ad : Nat → Nat) (org : Nat → Option Nat) (srt : Nat → Nat) (bt : Nat → List Nat) (tn : Nat → Nat) (mp : Nat → Nat) (wk : Nat → Nat × Nat × Nat × Nat) (n : Nat → Nat) (ks : Nat → Nat → List Nat) (vs : Nat → Nat → Int32) (chg : Nat → Nat) (tp : List Nat) (ud : List Nat) (tl : List Nat) (an : Nat) (aks : Nat → List Nat) (aus : List Nat) (xs : List Nat) (us : List (List Nat)) (so : Nat) (hh : hA D q H b c0 ad org srt bt tn mp wk n ks vs chg tp ud tl an aks aus xs us so) (w : Nat) (hw : w ≤ 4) (hmp1 : mp 1 = 1) (z1 z2 : Nat) (F1 F2 : Nat → Int32) (hzb1 : z1 < b) (hzb2 : z2 < b) (lf mf : Nat) (hlf : F1 w = nI lf) (hmf : F2 w = nI mf) (hlf1 : lf < 2 ^ 31) (hmf1 : mf < 2 ^ 31) (hn0 : n 1 = 0) : gC l y_Hall_edges (Cond.code y_Hall_edges b_Hall_edges 4 (some .int) :: gWS) (gR 6 88 0 0) D CL (gY q) (fun U => va_Z "KeyHall" "LEAST_FAN" "[I" (.ref z1) (fun p => b ≤ p) U U.heap ∧ va_Z "KeyHall" "MOST_FAN" "[I" (.ref z2) (fun p => b ≤ p) U U.heap ∧ va_X z1 5 F1 U U.heap ∧ va_X z2 5 F2 U U.heap) [.ref b, .int (nI w)] H (fun v1 H1 => v1 = some (.int (nI 0)) ∧ hA D q H1 b c0 ad org srt bt tn mp wk n ks vs chg tp ud tl an aks aus xs us so ∧ H1.size = H.size ∧ ∀ p : Nat, p < H.size → ¬ hZ b c0 ad p → H1[p]? = H[p]?) 0 0 (fun p => b ≤ p) := by
  refine gC.ofW R_Hall "edges" (by decide) rfl rfl ?_
  intro p e s m below meth c hadm X hE hH B hne
  refine g_entry [some (.ref b), some (.int (nI w)), none, none] rfl rfl (Nat.le_of_ble_eq_true rfl) (fun ls hl => ?_)
  have hh0 := hh
  obtain ⟨ho, hf, hd, hNN, hVV, hww, hmm, hgg, htp, hud, htl, haa, hxx⟩ := hh
  have hh := hh0
  have frA : ∀ p : Nat, p < H.size → ¬ hZ b c0 ad p → H[p]? = H[p]? := fun _ _ _ => rfl
  have zz : H.size = H.size := rfl
  refine lv_iload_n X.1.1 X.1.2.1 d_Hall_edges_0 rfl (gl_at hl rfl) ?_
  refine lv_if_lt X.1.1 X.1.2.1 d_Hall_edges_1 rfl (fun hc1 => ?_) (fun hc1 => ?_)
  · exact absurd hc1 (h_ok_of (c := 5) (by omega) (by omega)).1
  · refine lv_iload_n X.1.1 X.1.2.1 d_Hall_edges_4 rfl (gl_at hl rfl) ?_
    refine lv_iconst (v := nI 5) X.1.1 X.1.2.1 d_Hall_edges_5 (by decide) ?_
    refine gn_le X.1.1 X.1.2.1 w 5 (by omega) (by omega) d_Hall_edges_6 rfl (fun hc6 => ?_) (fun hc6 => ?_)
    · refine lv_iload_n X.1.1 X.1.2.1 d_Hall_edges_17 rfl (gl_at hl rfl) ?_
      refine lv_iconst (v := nI 5) X.1.1 X.1.2.1 d_Hall_edges_18 (by decide) ?_
      refine gn_eq X.1.1 X.1.2.1 w 5 (by omega) (by omega) d_Hall_edges_19 rfl (fun hc19 => ?_) (fun hc19 => ?_)
      · omega
      · obtain ⟨vf, hvf, hvg⟩ := hf
        have hf : hF D q H b c0 ad := ⟨vf, hvf, hvg⟩
        have hc3 := hd.1
        have hc12 := hd.2.1
        obtain ⟨⟨f0, t0, hvc⟩, hbk9⟩ := hVV 1 (by omega)
        have hm1 := hmm 1 (by omega)
        have hnm := hm1.1.2.1
        unfold hVc at hvc
        rw [hmp1] at hvc
        refine lv_aload_n X.1.1 X.1.2.1 d_Hall_edges_22 rfl (gl_at hl rfl) ?_
        refine g_get X kc_Hall ho 3 (by decide) lk_Hall_24 rfl d_Hall_edges_23 ?_
        refine lv_iconst (v := nI 1) X.1.1 X.1.2.1 d_Hall_edges_26 (by decide) ?_
        refine g_aald X 4 hvf rfl 1 (by omega) (by decide) (v := .ref (ad 1)) (by rw [hvg _ (by omega)]; rfl) d_Hall_edges_27 ?_
        refine g_get X kc_View hvc 0 (by decide) lk_Hall_87 rfl d_Hall_edges_28 ?_
        refine g_astn X.1.1 X.1.2.1 hl 2 d_Hall_edges_31 rfl (Nat.le_of_ble_eq_true rfl) rfl (fun ls hl => ?_)
        refine lv_aload_n X.1.1 X.1.2.1 d_Hall_edges_32 rfl (gl_at hl rfl) ?_
        refine g_get X kc_Hall ho 5 (by decide) lk_Hall_41 rfl d_Hall_edges_33 ?_
        refine lv_aload_n X.1.1 X.1.2.1 d_Hall_edges_36 rfl (gl_at hl rfl) ?_
        refine va_gets X.1.1 X.1.2.1 hE.1 ⟨Nat.le_of_eq (by rw [hH]), fun q9 _ _ => by rw [hH], (fun _ h => by cases h)⟩ X.1.2.2.2.1 (X.1.2.2.2.2 _ lk_Hall_180) (fun _ h => h) d_Hall_edges_37 ?_
        refine lv_iload_n X.1.1 X.1.2.1 d_Hall_edges_40 rfl (gl_at hl rfl) ?_
        refine va_sld (A := (fun p => b ≤ p)) X.1.1 X.1.2.1 hE.2.2.1 (by obtain ⟨scr, h1, _⟩ := hE.2.2.1; exact (Array.getElem?_eq_some_iff.mp h1).1) (by omega) ⟨Nat.le_of_eq (by rw [hH]), fun q9 _ _ => by rw [hH], (fun _ h => by cases h)⟩ (vp_in_nI (show w < 5 by omega) (by decide)) d_Hall_edges_41 ?_
        rw [nI_clamp (show w < 2 ^ 31 by omega), hlf]
        refine va_gets X.1.1 X.1.2.1 hE.2.1 ⟨Nat.le_of_eq (by rw [hH]), fun q9 _ _ => by rw [hH], (fun _ h => by cases h)⟩ X.1.2.2.2.1 (X.1.2.2.2.2 _ lk_Hall_183) (fun _ h => h) d_Hall_edges_42 ?_
        refine lv_iload_n X.1.1 X.1.2.1 d_Hall_edges_45 rfl (gl_at hl rfl) ?_
        refine va_sld (A := (fun p => b ≤ p)) X.1.1 X.1.2.1 hE.2.2.2 (by obtain ⟨scr, h1, _⟩ := hE.2.2.2; exact (Array.getElem?_eq_some_iff.mp h1).1) (by omega) ⟨Nat.le_of_eq (by rw [hH]), fun q9 _ _ => by rw [hH], (fun _ h => by cases h)⟩ (vp_in_nI (show w < 5 by omega) (by decide)) d_Hall_edges_46 ?_
        rw [nI_clamp (show w < 2 ^ 31 by omega), hmf]
        refine g_cv (A := (fun p => b ≤ p)) X gWS_good mw_Hall_186 kc_Edges hgg.1 (c_Edges_countInner0 l D q H (b + 413) (b + 9 + 135 * 1) (chg 1) lf mf (by have h9 := hm1.1.1; rw [hn0] at h9; exact h9)) (fun _ _ _ => trivial) gBlind.tt rfl rfl hl.1 (Nat.le_of_ble_eq_true rfl) rfl rfl ⟨by decide, by decide⟩ ⟨by decide, by decide⟩ d_Hall_edges_47 (fun _ h => h.elim) (fun _ h => by cases h) (fun v1 H2 locs hp3 hL => ?_)
        obtain ⟨rfl, hHe⟩ := hp3
        rw [hHe]
        exact g_iret X B ⟨rfl, hh, zz, frA⟩ hL d_Hall_edges_50 (by omega) (by omega)
    · omega

set_option maxHeartbeats 4000000 in
set_option maxRecDepth 100000 in
theorem c_Hall_edges2 (l : Launch) (D : va_G) (q : Nat → ClassId) (H : Heap) (b : Nat) (c0 : Nat) (ad : Nat → Nat) (org : Nat → Option Nat) (srt : Nat → Nat) (bt : Nat → List Nat) (tn : Nat → Nat) (mp : Nat → Nat) (wk : Nat → Nat × Nat × Nat × Nat) (n : Nat → Nat) (ks : Nat → Nat → List Nat) (vs : Nat → Nat → Int32) (chg : Nat → Nat) (tp : List Nat) (ud : List Nat) (tl : List Nat) (an : Nat) (aks : Nat → List Nat) (aus : List Nat) (xs : List Nat) (us : List (List Nat)) (so : Nat) (hh : hA D q H b c0 ad org srt bt tn mp wk n ks vs chg tp ud tl an aks aus xs us so) (w : Nat) (hw : w ≤ 4) (hmp1 : mp 1 = 1) (z1 z2 : Nat) (F1 F2 : Nat → Int32) (hzb1 : z1 < b) (hzb2 : z2 < b) (lf mf : Nat) (hlf : F1 w = nI lf) (hmf : F2 w = nI mf) (hlf1 : lf < 2 ^ 31) (hmf1 : mf < 2 ^ 31) (hn0 : 0 < n 1) : gC l y_Hall_edges (Cond.code y_Hall_edges b_Hall_edges 4 (some .int) :: gWS) (gR 6 88 0 0) D CL (gY q) (fun U => va_Z "KeyHall" "LEAST_FAN" "[I" (.ref z1) (fun p => b ≤ p) U U.heap ∧ va_Z "KeyHall" "MOST_FAN" "[I" (.ref z2) (fun p => b ≤ p) U U.heap ∧ va_X z1 5 F1 U U.heap ∧ va_X z2 5 F2 U U.heap) [.ref b, .int (nI w)] H (fun v1 H1 => v1 = some (.int (nI (v_cnt (e_inn (e_sbk (ks 1)) (ks 1) (n 1 - 1) lf mf) 0 (n 1 - 1)))) ∧ hA D q H1 b c0 ad org srt bt tn mp wk n ks vs chg tp ud tl an aks aus xs us so ∧ H1.size = H.size ∧ ∀ p : Nat, p < H.size → ¬ hZ b c0 ad p → H1[p]? = H[p]?) 0 0 (fun p => b ≤ p) := by
  refine gC.ofW R_Hall "edges" (by decide) rfl rfl ?_
  intro p e s m below meth c hadm X hE hH B hne
  refine g_entry [some (.ref b), some (.int (nI w)), none, none] rfl rfl (Nat.le_of_ble_eq_true rfl) (fun ls hl => ?_)
  have hh0 := hh
  obtain ⟨ho, hf, hd, hNN, hVV, hww, hmm, hgg, htp, hud, htl, haa, hxx⟩ := hh
  have hh := hh0
  have frA : ∀ p : Nat, p < H.size → ¬ hZ b c0 ad p → H[p]? = H[p]? := fun _ _ _ => rfl
  have zz : H.size = H.size := rfl
  refine lv_iload_n X.1.1 X.1.2.1 d_Hall_edges_0 rfl (gl_at hl rfl) ?_
  refine lv_if_lt X.1.1 X.1.2.1 d_Hall_edges_1 rfl (fun hc1 => ?_) (fun hc1 => ?_)
  · exact absurd hc1 (h_ok_of (c := 5) (by omega) (by omega)).1
  · refine lv_iload_n X.1.1 X.1.2.1 d_Hall_edges_4 rfl (gl_at hl rfl) ?_
    refine lv_iconst (v := nI 5) X.1.1 X.1.2.1 d_Hall_edges_5 (by decide) ?_
    refine gn_le X.1.1 X.1.2.1 w 5 (by omega) (by omega) d_Hall_edges_6 rfl (fun hc6 => ?_) (fun hc6 => ?_)
    · refine lv_iload_n X.1.1 X.1.2.1 d_Hall_edges_17 rfl (gl_at hl rfl) ?_
      refine lv_iconst (v := nI 5) X.1.1 X.1.2.1 d_Hall_edges_18 (by decide) ?_
      refine gn_eq X.1.1 X.1.2.1 w 5 (by omega) (by omega) d_Hall_edges_19 rfl (fun hc19 => ?_) (fun hc19 => ?_)
      · omega
      · obtain ⟨vf, hvf, hvg⟩ := hf
        have hf : hF D q H b c0 ad := ⟨vf, hvf, hvg⟩
        have hc3 := hd.1
        have hc12 := hd.2.1
        obtain ⟨⟨f0, t0, hvc⟩, hbk9⟩ := hVV 1 (by omega)
        have hm1 := hmm 1 (by omega)
        have hnm := hm1.1.2.1
        unfold hVc at hvc
        rw [hmp1] at hvc
        refine lv_aload_n X.1.1 X.1.2.1 d_Hall_edges_22 rfl (gl_at hl rfl) ?_
        refine g_get X kc_Hall ho 3 (by decide) lk_Hall_24 rfl d_Hall_edges_23 ?_
        refine lv_iconst (v := nI 1) X.1.1 X.1.2.1 d_Hall_edges_26 (by decide) ?_
        refine g_aald X 4 hvf rfl 1 (by omega) (by decide) (v := .ref (ad 1)) (by rw [hvg _ (by omega)]; rfl) d_Hall_edges_27 ?_
        refine g_get X kc_View hvc 0 (by decide) lk_Hall_87 rfl d_Hall_edges_28 ?_
        refine g_astn X.1.1 X.1.2.1 hl 2 d_Hall_edges_31 rfl (Nat.le_of_ble_eq_true rfl) rfl (fun ls hl => ?_)
        refine lv_aload_n X.1.1 X.1.2.1 d_Hall_edges_32 rfl (gl_at hl rfl) ?_
        refine g_get X kc_Hall ho 5 (by decide) lk_Hall_41 rfl d_Hall_edges_33 ?_
        refine lv_aload_n X.1.1 X.1.2.1 d_Hall_edges_36 rfl (gl_at hl rfl) ?_
        refine va_gets X.1.1 X.1.2.1 hE.1 ⟨Nat.le_of_eq (by rw [hH]), fun q9 _ _ => by rw [hH], (fun _ h => by cases h)⟩ X.1.2.2.2.1 (X.1.2.2.2.2 _ lk_Hall_180) (fun _ h => h) d_Hall_edges_37 ?_
        refine lv_iload_n X.1.1 X.1.2.1 d_Hall_edges_40 rfl (gl_at hl rfl) ?_
        refine va_sld (A := (fun p => b ≤ p)) X.1.1 X.1.2.1 hE.2.2.1 (by obtain ⟨scr, h1, _⟩ := hE.2.2.1; exact (Array.getElem?_eq_some_iff.mp h1).1) (by omega) ⟨Nat.le_of_eq (by rw [hH]), fun q9 _ _ => by rw [hH], (fun _ h => by cases h)⟩ (vp_in_nI (show w < 5 by omega) (by decide)) d_Hall_edges_41 ?_
        rw [nI_clamp (show w < 2 ^ 31 by omega), hlf]
        refine va_gets X.1.1 X.1.2.1 hE.2.1 ⟨Nat.le_of_eq (by rw [hH]), fun q9 _ _ => by rw [hH], (fun _ h => by cases h)⟩ X.1.2.2.2.1 (X.1.2.2.2.2 _ lk_Hall_183) (fun _ h => h) d_Hall_edges_42 ?_
        refine lv_iload_n X.1.1 X.1.2.1 d_Hall_edges_45 rfl (gl_at hl rfl) ?_
        refine va_sld (A := (fun p => b ≤ p)) X.1.1 X.1.2.1 hE.2.2.2 (by obtain ⟨scr, h1, _⟩ := hE.2.2.2; exact (Array.getElem?_eq_some_iff.mp h1).1) (by omega) ⟨Nat.le_of_eq (by rw [hH]), fun q9 _ _ => by rw [hH], (fun _ h => by cases h)⟩ (vp_in_nI (show w < 5 by omega) (by decide)) d_Hall_edges_46 ?_
        rw [nI_clamp (show w < 2 ^ 31 by omega), hmf]
        obtain ⟨gg1, ⟨S9, gg2⟩, gg3⟩ := hgg
        have hgg : hG D q H b := ⟨gg1, ⟨S9, gg2⟩, gg3⟩
        refine g_cv (A := (fun p => b ≤ p)) X gWS_good mw_Hall_186 kc_Edges gg1 (c_Edges_countInner l D q H (b + 413) S9 gg1 gg2 (b + 9 + 135 * 1) _ _ _ _ hm1.1 (by omega) hn0 lf mf hlf1 hmf1) (fun _ _ _ => trivial) gBlind.tt rfl rfl hl.1 (Nat.le_of_ble_eq_true rfl) rfl rfl ⟨by decide, by decide⟩ ⟨by decide, by decide⟩ d_Hall_edges_47 (fun p h => show b ≤ p by omega) (fun _ h => by cases h) (fun v1 H2 locs hp3 hL => ?_)
        obtain ⟨rfl, kS, hz1, fr1⟩ := hp3
        obtain ⟨T9, gT9⟩ := gg3
        have kg : hG D q H2 b := ⟨va_at.kept gg1 (fr1 _ (by omega)), kS, ⟨T9, va_at.kept gT9 (fr1 _ (by omega))⟩⟩
        have fr2 : ∀ p : Nat, ¬ (b + 413 ≤ p ∧ p ≤ b + 415) → H2[p]? = H[p]? := fun p hp => fr1 p (by omega)
        replace frA : ∀ p : Nat, p < H.size → ¬ hZ b c0 ad p → H2[p]? = H[p]? := fun p hp hz => (fr2 p (by (have z1 := hZ_b hz); omega)).trans (frA p hp hz)
        replace zz := hz1.trans zz
        replace hh := hh.edges kg hz1 fr2
        clear ho hf hd hNN hVV hww hmm hgg htp hud htl haa hxx
        have hh0 := hh
        obtain ⟨ho, hf, hd, hNN, hVV, hww, hmm, hgg, htp, hud, htl, haa, hxx⟩ := hh
        have hh := hh0
        exact g_iret X B ⟨rfl, hh, zz, frA⟩ hL d_Hall_edges_50 (by omega) (by omega)
    · omega
