/-! the class KeyHall, 8: printed by wip/specs/hall8.py -/
set_option maxHeartbeats 4000000 in
set_option maxRecDepth 100000 in
theorem c_Hall_automaton0 (l : Launch) (D : va_G) (q : Nat → ClassId) (H : Heap) (b : Nat) (c0 : Nat) (ad : Nat → Nat) (org : Nat → Option Nat) (srt : Nat → Nat) (bt : Nat → List Nat) (tn : Nat → Nat) (mp : Nat → Nat) (wk : Nat → Nat × Nat × Nat × Nat) (n : Nat → Nat) (ks : Nat → Nat → List Nat) (vs : Nat → Nat → Int32) (chg : Nat → Nat) (tp : List Nat) (ud : List Nat) (tl : List Nat) (an : Nat) (aks : Nat → List Nat) (aus : List Nat) (xs : List Nat) (us : List (List Nat)) (so : Nat) (hh : hA D q H b c0 ad org srt bt tn mp wk n ks vs chg tp ud tl an aks aus xs us so) : gC l y_Hall_automaton (Cond.code y_Hall_automaton b_Hall_automaton 2 (some .int) :: gWS) (gR 3 66 0 0) D CL (gY q) (fun _ => True) [.ref b, .int (nI 0)] H (fun v1 H1 => v1 = some (.int (nI aus.length)) ∧ hA D q H1 b c0 ad org srt bt tn mp wk n ks vs chg tp ud tl an aks aus xs us so ∧ H1.size = H.size ∧ ∀ p : Nat, p < H.size → ¬ hZ b c0 ad p → H1[p]? = H[p]?) 0 0 (fun p => b ≤ p) := by
  refine gC.ofW R_Hall "automaton" (by decide) rfl rfl ?_
  intro p e s m below meth c hadm X hE hH B hne
  refine g_entry [some (.ref b), some (.int (nI 0))] rfl rfl (Nat.le_of_ble_eq_true rfl) (fun ls hl => ?_)
  have hh0 := hh
  obtain ⟨ho, hf, hd, hNN, hVV, hww, hmm, hgg, htp, hud, htl, haa, hxx⟩ := hh
  have hh := hh0
  have frA : ∀ p : Nat, p < H.size → ¬ hZ b c0 ad p → H[p]? = H[p]? := fun _ _ _ => rfl
  have zz : H.size = H.size := rfl
  refine lv_iload_n X.1.1 X.1.2.1 d_Hall_automaton_0 rfl (gl_at hl rfl) ?_
  refine lv_tableIn X.1.1 X.1.2.1 d_Hall_automaton_1 (x := nI 0) (by decide) (by decide) rfl rfl ?_
  have hao := haa.1
  refine lv_aload_n X.1.1 X.1.2.1 d_Hall_automaton_36 rfl (gl_at hl rfl) ?_
  refine g_get X kc_Hall ho 6 (by decide) lk_Hall_48 rfl d_Hall_automaton_37 ?_
  refine g_get X kc_Automaton hao 8 (by decide) lk_Hall_198 rfl d_Hall_automaton_40 ?_
  exact g_iret X B ⟨rfl, hh, zz, frA⟩ (fun _ h => by cases h) d_Hall_automaton_43 (by omega) (by omega)

set_option maxHeartbeats 4000000 in
set_option maxRecDepth 100000 in
theorem c_Hall_automaton1 (l : Launch) (D : va_G) (q : Nat → ClassId) (H : Heap) (b : Nat) (c0 : Nat) (ad : Nat → Nat) (org : Nat → Option Nat) (srt : Nat → Nat) (bt : Nat → List Nat) (tn : Nat → Nat) (mp : Nat → Nat) (wk : Nat → Nat × Nat × Nat × Nat) (n : Nat → Nat) (ks : Nat → Nat → List Nat) (vs : Nat → Nat → Int32) (chg : Nat → Nat) (tp : List Nat) (ud : List Nat) (tl : List Nat) (an : Nat) (aks : Nat → List Nat) (aus : List Nat) (xs : List Nat) (us : List (List Nat)) (so : Nat) (hh : hA D q H b c0 ad org srt bt tn mp wk n ks vs chg tp ud tl an aks aus xs us so) : gC l y_Hall_automaton (Cond.code y_Hall_automaton b_Hall_automaton 2 (some .int) :: gWS) (gR 3 66 0 0) D CL (gY q) (fun _ => True) [.ref b, .int (nI 1)] H (fun v1 H1 => v1 = some (.int (nI (a_sum (a_stp aks an (a_pre aks an)) aus))) ∧ hA D q H1 b c0 ad org srt bt tn mp wk n ks vs chg tp ud tl an aks aus xs us so ∧ H1.size = H.size ∧ ∀ p : Nat, p < H.size → ¬ hZ b c0 ad p → H1[p]? = H[p]?) 0 0 (fun p => b ≤ p) := by
  refine gC.ofW R_Hall "automaton" (by decide) rfl rfl ?_
  intro p e s m below meth c hadm X hE hH B hne
  refine g_entry [some (.ref b), some (.int (nI 1))] rfl rfl (Nat.le_of_ble_eq_true rfl) (fun ls hl => ?_)
  have hh0 := hh
  obtain ⟨ho, hf, hd, hNN, hVV, hww, hmm, hgg, htp, hud, htl, haa, hxx⟩ := hh
  have hh := hh0
  have frA : ∀ p : Nat, p < H.size → ¬ hZ b c0 ad p → H[p]? = H[p]? := fun _ _ _ => rfl
  have zz : H.size = H.size := rfl
  refine lv_iload_n X.1.1 X.1.2.1 d_Hall_automaton_0 rfl (gl_at hl rfl) ?_
  refine lv_tableIn X.1.1 X.1.2.1 d_Hall_automaton_1 (x := nI 1) (by decide) (by decide) rfl rfl ?_
  have hao := haa.1
  refine lv_aload_n X.1.1 X.1.2.1 d_Hall_automaton_44 rfl (gl_at hl rfl) ?_
  refine g_get X kc_Hall ho 6 (by decide) lk_Hall_48 rfl d_Hall_automaton_45 ?_
  refine g_get X kc_Automaton hao 9 (by decide) lk_Hall_201 rfl d_Hall_automaton_48 ?_
  exact g_iret X B ⟨rfl, hh, zz, frA⟩ (fun _ h => by cases h) d_Hall_automaton_51 (by omega) (by omega)

set_option maxHeartbeats 4000000 in
set_option maxRecDepth 100000 in
theorem c_Hall_automaton2 (l : Launch) (D : va_G) (q : Nat → ClassId) (H : Heap) (b : Nat) (c0 : Nat) (ad : Nat → Nat) (org : Nat → Option Nat) (srt : Nat → Nat) (bt : Nat → List Nat) (tn : Nat → Nat) (mp : Nat → Nat) (wk : Nat → Nat × Nat × Nat × Nat) (n : Nat → Nat) (ks : Nat → Nat → List Nat) (vs : Nat → Nat → Int32) (chg : Nat → Nat) (tp : List Nat) (ud : List Nat) (tl : List Nat) (an : Nat) (aks : Nat → List Nat) (aus : List Nat) (xs : List Nat) (us : List (List Nat)) (so : Nat) (hh : hA D q H b c0 ad org srt bt tn mp wk n ks vs chg tp ud tl an aks aus xs us so) : gC l y_Hall_automaton (Cond.code y_Hall_automaton b_Hall_automaton 2 (some .int) :: gWS) (gR 3 66 0 0) D CL (gY q) (fun _ => True) [.ref b, .int (nI 2)] H (fun v1 H1 => v1 = some (.int (nI (a_sum (a_fnl aks (a_pre aks an)) aus))) ∧ hA D q H1 b c0 ad org srt bt tn mp wk n ks vs chg tp ud tl an aks aus xs us so ∧ H1.size = H.size ∧ ∀ p : Nat, p < H.size → ¬ hZ b c0 ad p → H1[p]? = H[p]?) 0 0 (fun p => b ≤ p) := by
  refine gC.ofW R_Hall "automaton" (by decide) rfl rfl ?_
  intro p e s m below meth c hadm X hE hH B hne
  refine g_entry [some (.ref b), some (.int (nI 2))] rfl rfl (Nat.le_of_ble_eq_true rfl) (fun ls hl => ?_)
  have hh0 := hh
  obtain ⟨ho, hf, hd, hNN, hVV, hww, hmm, hgg, htp, hud, htl, haa, hxx⟩ := hh
  have hh := hh0
  have frA : ∀ p : Nat, p < H.size → ¬ hZ b c0 ad p → H[p]? = H[p]? := fun _ _ _ => rfl
  have zz : H.size = H.size := rfl
  refine lv_iload_n X.1.1 X.1.2.1 d_Hall_automaton_0 rfl (gl_at hl rfl) ?_
  refine lv_tableIn X.1.1 X.1.2.1 d_Hall_automaton_1 (x := nI 2) (by decide) (by decide) rfl rfl ?_
  have hao := haa.1
  refine lv_aload_n X.1.1 X.1.2.1 d_Hall_automaton_52 rfl (gl_at hl rfl) ?_
  refine g_get X kc_Hall ho 6 (by decide) lk_Hall_48 rfl d_Hall_automaton_53 ?_
  refine g_get X kc_Automaton hao 10 (by decide) lk_Hall_204 rfl d_Hall_automaton_56 ?_
  exact g_iret X B ⟨rfl, hh, zz, frA⟩ (fun _ h => by cases h) d_Hall_automaton_59 (by omega) (by omega)

set_option maxHeartbeats 4000000 in
set_option maxRecDepth 100000 in
theorem c_Hall_automatonN (l : Launch) (D : va_G) (q : Nat → ClassId) (H : Heap) (b : Nat) (c0 : Nat) (ad : Nat → Nat) (org : Nat → Option Nat) (srt : Nat → Nat) (bt : Nat → List Nat) (tn : Nat → Nat) (mp : Nat → Nat) (wk : Nat → Nat × Nat × Nat × Nat) (n : Nat → Nat) (ks : Nat → Nat → List Nat) (vs : Nat → Nat → Int32) (chg : Nat → Nat) (tp : List Nat) (ud : List Nat) (tl : List Nat) (an : Nat) (aks : Nat → List Nat) (aus : List Nat) (xs : List Nat) (us : List (List Nat)) (so : Nat) (hh : hA D q H b c0 ad org srt bt tn mp wk n ks vs chg tp ud tl an aks aus xs us so) (w : Int32) (hw : w.toInt < 0 ∨ 4 < w.toInt) : gC l y_Hall_automaton (Cond.code y_Hall_automaton b_Hall_automaton 2 (some .int) :: gWS) (gR 3 66 0 0) D CL (gY q) (fun _ => True) [.ref b, .int w] H (fun v1 H1 => v1 = some (.int (-1)) ∧ hA D q H1 b c0 ad org srt bt tn mp wk n ks vs chg tp ud tl an aks aus xs us so ∧ H1.size = H.size ∧ ∀ p : Nat, p < H.size → ¬ hZ b c0 ad p → H1[p]? = H[p]?) 0 0 (fun p => b ≤ p) := by
  refine gC.ofW R_Hall "automaton" (by decide) rfl rfl ?_
  intro p e s m below meth c hadm X hE hH B hne
  refine g_entry [some (.ref b), some (.int w)] rfl rfl (Nat.le_of_ble_eq_true rfl) (fun ls hl => ?_)
  have hh0 := hh
  obtain ⟨ho, hf, hd, hNN, hVV, hww, hmm, hgg, htp, hud, htl, haa, hxx⟩ := hh
  have hh := hh0
  have frA : ∀ p : Nat, p < H.size → ¬ hZ b c0 ad p → H[p]? = H[p]? := fun _ _ _ => rfl
  have zz : H.size = H.size := rfl
  refine lv_iload_n X.1.1 X.1.2.1 d_Hall_automaton_0 rfl (gl_at hl rfl) ?_
  refine lv_tableOut X.1.1 X.1.2.1 d_Hall_automaton_1 hw rfl ?_
  refine lv_iconst (v := (-1)) X.1.1 X.1.2.1 d_Hall_automaton_100 (by decide) ?_
  exact g_iret X B ⟨rfl, hh, zz, frA⟩ (fun _ h => by cases h) d_Hall_automaton_101 (by omega) (by omega)

set_option maxHeartbeats 4000000 in
set_option maxRecDepth 100000 in
theorem c_Hall_automaton3 (l : Launch) (D : va_G) (q : Nat → ClassId) (H : Heap) (b : Nat) (c0 : Nat) (ad : Nat → Nat) (org : Nat → Option Nat) (srt : Nat → Nat) (bt : Nat → List Nat) (tn : Nat → Nat) (mp : Nat → Nat) (wk : Nat → Nat × Nat × Nat × Nat) (n : Nat → Nat) (ks : Nat → Nat → List Nat) (vs : Nat → Nat → Int32) (chg : Nat → Nat) (tp : List Nat) (ud : List Nat) (tl : List Nat) (an : Nat) (aks : Nat → List Nat) (aus : List Nat) (xs : List Nat) (us : List (List Nat)) (so : Nat) (hh : hA D q H b c0 ad org srt bt tn mp wk n ks vs chg tp ud tl an aks aus xs us so) : gC l y_Hall_automaton (Cond.code y_Hall_automaton b_Hall_automaton 2 (some .int) :: gWS) (gR 3 66 0 0) D CL (gY q) (fun _ => True) [.ref b, .int (nI 3)] H (fun v1 H1 => v1 = some (.int (a_rv aks tp an)) ∧ hA D q H1 b c0 ad org srt bt tn mp wk n ks vs chg [] tp tl an aks aus xs us so ∧ H1.size = H.size ∧ ∀ p : Nat, p < H.size → ¬ hZ b c0 ad p → H1[p]? = H[p]?) 0 0 (fun p => b ≤ p) := by
  refine gC.ofW R_Hall "automaton" (by decide) rfl rfl ?_
  intro p e s m below meth c hadm X hE hH B hne
  refine g_entry [some (.ref b), some (.int (nI 3))] rfl rfl (Nat.le_of_ble_eq_true rfl) (fun ls hl => ?_)
  have hh0 := hh
  obtain ⟨ho, hf, hd, hNN, hVV, hww, hmm, hgg, htp, hud, htl, haa, hxx⟩ := hh
  have hh := hh0
  have frA : ∀ p : Nat, p < H.size → ¬ hZ b c0 ad p → H[p]? = H[p]? := fun _ _ _ => rfl
  have zz : H.size = H.size := rfl
  refine lv_iload_n X.1.1 X.1.2.1 d_Hall_automaton_0 rfl (gl_at hl rfl) ?_
  refine lv_tableIn X.1.1 X.1.2.1 d_Hall_automaton_1 (x := nI 3) (by decide) (by decide) rfl rfl ?_
  have hao := haa.1
  refine lv_aload_n X.1.1 X.1.2.1 d_Hall_automaton_60 rfl (gl_at hl rfl) ?_
  refine g_cv (A := (fun p => b ≤ p)) X gWS_good mw_Hall_74 kc_Hall ho (c_Hall_useTape l D q H b c0 ho tp ud htp hud) (fun _ _ _ => trivial) gBlind.tt rfl rfl hl.1 (Nat.le_of_ble_eq_true rfl) rfl rfl ⟨by decide, by decide⟩ ⟨by decide, by decide⟩ d_Hall_automaton_61 (fun p h => show b ≤ p by omega) (fun _ h => by cases h) (fun v1 H2 locs hp3 hL => ?_)
  obtain ⟨rfl, k1, k2, hz1, fr1⟩ := hp3
  replace frA : ∀ p : Nat, p < H.size → ¬ hZ b c0 ad p → H2[p]? = H[p]? := fun p hp hz => (fr1 p (by (have z1 := hZ_b hz); omega)).trans (frA p hp hz)
  replace zz := hz1.trans zz
  replace hh := hh.tape k1 k2 hz1 fr1
  clear ho hf hd hNN hVV hww hmm hgg htp hud htl haa hxx
  have hh0 := hh
  obtain ⟨ho, hf, hd, hNN, hVV, hww, hmm, hgg, htp, hud, htl, haa, hxx⟩ := hh
  have hh := hh0
  refine lv_aload_n X.1.1 X.1.2.1 d_Hall_automaton_64 rfl (gl_at hl rfl) ?_
  refine g_get X kc_Hall ho 6 (by decide) lk_Hall_48 rfl d_Hall_automaton_65 ?_
  refine lv_aload_n X.1.1 X.1.2.1 d_Hall_automaton_68 rfl (gl_at hl rfl) ?_
  refine g_get X kc_Hall ho 1 (by decide) lk_Hall_16 rfl d_Hall_automaton_69 ?_
  refine g_cv (A := (fun p => b ≤ p)) X gWS_good mw_Hall_207 kc_Automaton haa.1 (c_Automaton_reach l D q H2 (b + 416) an _ _ _ _ aks haa.1 haa.2.1 haa.2.2.1 (b + 3) tp hud) (fun _ _ _ => trivial) gBlind.tt rfl rfl hl.1 (Nat.le_of_ble_eq_true rfl) rfl rfl ⟨by decide, by decide⟩ ⟨by decide, by decide⟩ d_Hall_automaton_72 (fun _ h => h.elim) hL (fun v4 H5 locs hp6 hL => ?_)
  obtain ⟨rfl, hHe⟩ := hp6
  rw [hHe]
  exact g_iret X B ⟨rfl, hh, zz, frA⟩ hL d_Hall_automaton_75 (by omega) (by omega)

set_option maxHeartbeats 4000000 in
set_option maxRecDepth 100000 in
theorem c_Hall_automaton4 (l : Launch) (D : va_G) (q : Nat → ClassId) (H : Heap) (b : Nat) (c0 : Nat) (ad : Nat → Nat) (org : Nat → Option Nat) (srt : Nat → Nat) (bt : Nat → List Nat) (tn : Nat → Nat) (mp : Nat → Nat) (wk : Nat → Nat × Nat × Nat × Nat) (n : Nat → Nat) (ks : Nat → Nat → List Nat) (vs : Nat → Nat → Int32) (chg : Nat → Nat) (tp : List Nat) (ud : List Nat) (tl : List Nat) (an : Nat) (aks : Nat → List Nat) (aus : List Nat) (xs : List Nat) (us : List (List Nat)) (so : Nat) (hh : hA D q H b c0 ad org srt bt tn mp wk n ks vs chg tp ud tl an aks aus xs us so) : gC l y_Hall_automaton (Cond.code y_Hall_automaton b_Hall_automaton 2 (some .int) :: gWS) (gR 3 66 0 0) D CL (gY q) (fun _ => True) [.ref b, .int (nI 4)] H (fun v1 H1 => v1 = some (.int (nI (if a_ac aks an tp = true then 1 else 0))) ∧ hA D q H1 b c0 ad org srt bt tn mp wk n ks vs chg [] tp tl an aks aus xs us so ∧ H1.size = H.size ∧ ∀ p : Nat, p < H.size → ¬ hZ b c0 ad p → H1[p]? = H[p]?) 0 0 (fun p => b ≤ p) := by
  refine gC.ofW R_Hall "automaton" (by decide) rfl rfl ?_
  intro p e s m below meth c hadm X hE hH B hne
  refine g_entry [some (.ref b), some (.int (nI 4))] rfl rfl (Nat.le_of_ble_eq_true rfl) (fun ls hl => ?_)
  have hh0 := hh
  obtain ⟨ho, hf, hd, hNN, hVV, hww, hmm, hgg, htp, hud, htl, haa, hxx⟩ := hh
  have hh := hh0
  have frA : ∀ p : Nat, p < H.size → ¬ hZ b c0 ad p → H[p]? = H[p]? := fun _ _ _ => rfl
  have zz : H.size = H.size := rfl
  refine lv_iload_n X.1.1 X.1.2.1 d_Hall_automaton_0 rfl (gl_at hl rfl) ?_
  refine lv_tableIn X.1.1 X.1.2.1 d_Hall_automaton_1 (x := nI 4) (by decide) (by decide) rfl rfl ?_
  have hao := haa.1
  refine lv_aload_n X.1.1 X.1.2.1 d_Hall_automaton_76 rfl (gl_at hl rfl) ?_
  refine g_cv (A := (fun p => b ≤ p)) X gWS_good mw_Hall_74 kc_Hall ho (c_Hall_useTape l D q H b c0 ho tp ud htp hud) (fun _ _ _ => trivial) gBlind.tt rfl rfl hl.1 (Nat.le_of_ble_eq_true rfl) rfl rfl ⟨by decide, by decide⟩ ⟨by decide, by decide⟩ d_Hall_automaton_77 (fun p h => show b ≤ p by omega) (fun _ h => by cases h) (fun v1 H2 locs hp3 hL => ?_)
  obtain ⟨rfl, k1, k2, hz1, fr1⟩ := hp3
  replace frA : ∀ p : Nat, p < H.size → ¬ hZ b c0 ad p → H2[p]? = H[p]? := fun p hp hz => (fr1 p (by (have z1 := hZ_b hz); omega)).trans (frA p hp hz)
  replace zz := hz1.trans zz
  replace hh := hh.tape k1 k2 hz1 fr1
  clear ho hf hd hNN hVV hww hmm hgg htp hud htl haa hxx
  have hh0 := hh
  obtain ⟨ho, hf, hd, hNN, hVV, hww, hmm, hgg, htp, hud, htl, haa, hxx⟩ := hh
  have hh := hh0
  refine lv_aload_n X.1.1 X.1.2.1 d_Hall_automaton_80 rfl (gl_at hl rfl) ?_
  refine g_get X kc_Hall ho 6 (by decide) lk_Hall_48 rfl d_Hall_automaton_81 ?_
  refine lv_aload_n X.1.1 X.1.2.1 d_Hall_automaton_84 rfl (gl_at hl rfl) ?_
  refine g_get X kc_Hall ho 1 (by decide) lk_Hall_16 rfl d_Hall_automaton_85 ?_
  refine g_cv (A := (fun p => b ≤ p)) X gWS_good mw_Hall_210 kc_Automaton haa.1 (c_Automaton_accepts l D q H2 (b + 416) an _ _ _ _ aks haa.1 haa.2.1 haa.2.2.1 (b + 3) tp hud) (fun _ _ _ => trivial) gBlind.tt rfl rfl hl.1 (Nat.le_of_ble_eq_true rfl) rfl rfl ⟨by decide, by decide⟩ ⟨by decide, by decide⟩ d_Hall_automaton_88 (fun _ h => h.elim) hL (fun v4 H5 locs hp6 hL => ?_)
  obtain ⟨rfl, hHe⟩ := hp6
  rw [hHe]
  refine lv_if_eq X.1.1 X.1.2.1 d_Hall_automaton_91 rfl (fun hc91 => ?_) (fun hc91 => ?_)
  · replace hc91 := gz_f hc91
    refine lv_iconst (v := nI 0) X.1.1 X.1.2.1 d_Hall_automaton_98 (by decide) ?_
    exact g_iret X B ⟨by first | rw [if_pos hc91] | rw [if_neg hc91], hh, zz, frA⟩ hL d_Hall_automaton_99 (by omega) (by omega)
  · replace hc91 := gz_t hc91
    refine lv_iconst (v := nI 1) X.1.1 X.1.2.1 d_Hall_automaton_94 (by decide) ?_
    refine lv_goto X.1.1 X.1.2.1 d_Hall_automaton_95 rfl ?_
    exact g_iret X B ⟨by first | rw [if_pos hc91] | rw [if_neg hc91], hh, zz, frA⟩ hL d_Hall_automaton_99 (by omega) (by omega)

theorem h_look {x : Int32} {a b : Int} {d : Int} (h : x.toInt ≠ 0 ∧ x.toInt ≠ 1) : Op.lookupswitch.offset [((0 : Int), a), (1, b)] d x.toInt = d := by
  have h0 : ((0 : Int) == x.toInt) = false := by simp; omega
  have h1 : ((1 : Int) == x.toInt) = false := by simp; omega
  have h2 : (x.toInt == (0 : Int)) = false := by simp; omega
  have h3 : (x.toInt == (1 : Int)) = false := by simp; omega
  simp [Op.lookupswitch.offset, List.find?, h0, h1, h2, h3, h.1, h.2, Ne.symm h.1, Ne.symm h.2]

set_option maxHeartbeats 4000000 in
set_option maxRecDepth 100000 in
theorem c_Hall_locate0 (l : Launch) (D : va_G) (q : Nat → ClassId) (H : Heap) (b : Nat) (c0 : Nat) (ad : Nat → Nat) (org : Nat → Option Nat) (srt : Nat → Nat) (bt : Nat → List Nat) (tn : Nat → Nat) (mp : Nat → Nat) (wk : Nat → Nat × Nat × Nat × Nat) (n : Nat → Nat) (ks : Nat → Nat → List Nat) (vs : Nat → Nat → Int32) (chg : Nat → Nat) (tp : List Nat) (ud : List Nat) (tl : List Nat) (an : Nat) (aks : Nat → List Nat) (aus : List Nat) (xs : List Nat) (us : List (List Nat)) (so : Nat) (hh : hA D q H b c0 ad org srt bt tn mp wk n ks vs chg tp ud tl an aks aus xs us so) : gC l y_Hall_locate (Cond.code y_Hall_locate b_Hall_locate 2 (some .int) :: gWS) (gR 4 90 0 0) D CL (gY q) (fun _ => True) [.ref b, .int (nI 0)] H (fun v1 H1 => v1 = some (.int (nI (v_cnt (fun p => decide (t_at xs tp p)) 0 xs.length))) ∧ hA D q H1 b c0 ad org srt bt tn mp wk n ks vs chg [] tp tl an aks aus xs us so ∧ H1.size = H.size ∧ ∀ p : Nat, p < H.size → ¬ hZ b c0 ad p → H1[p]? = H[p]?) 0 0 (fun p => b ≤ p) := by
  refine gC.ofW R_Hall "locate" (by decide) rfl rfl ?_
  intro p e s m below meth c hadm X hE hH B hne
  refine g_entry [some (.ref b), some (.int (nI 0))] rfl rfl (Nat.le_of_ble_eq_true rfl) (fun ls hl => ?_)
  have hh0 := hh
  obtain ⟨ho, hf, hd, hNN, hVV, hww, hmm, hgg, htp, hud, htl, haa, hxx⟩ := hh
  have hh := hh0
  have frA : ∀ p : Nat, p < H.size → ¬ hZ b c0 ad p → H[p]? = H[p]? := fun _ _ _ => rfl
  have zz : H.size = H.size := rfl
  refine lv_iload_n X.1.1 X.1.2.1 d_Hall_locate_0 rfl (gl_at hl rfl) ?_
  refine lv_lookup X.1.1 X.1.2.1 (x := nI 0) (off := 27) (tgt := 28) d_Hall_locate_1 (by decide) (by decide) rfl ?_
  refine lv_aload_n X.1.1 X.1.2.1 d_Hall_locate_28 rfl (gl_at hl rfl) ?_
  refine g_cv (A := (fun p => b ≤ p)) X gWS_good mw_Hall_74 kc_Hall ho (c_Hall_useTape l D q H b c0 ho tp ud htp hud) (fun _ _ _ => trivial) gBlind.tt rfl rfl hl.1 (Nat.le_of_ble_eq_true rfl) rfl rfl ⟨by decide, by decide⟩ ⟨by decide, by decide⟩ d_Hall_locate_29 (fun p h => show b ≤ p by omega) (fun _ h => by cases h) (fun v1 H2 locs hp3 hL => ?_)
  obtain ⟨rfl, k1, k2, hz1, fr1⟩ := hp3
  replace frA : ∀ p : Nat, p < H.size → ¬ hZ b c0 ad p → H2[p]? = H[p]? := fun p hp hz => (fr1 p (by (have z1 := hZ_b hz); omega)).trans (frA p hp hz)
  replace zz := hz1.trans zz
  replace hh := hh.tape k1 k2 hz1 fr1
  clear ho hf hd hNN hVV hww hmm hgg htp hud htl haa hxx
  have hh0 := hh
  obtain ⟨ho, hf, hd, hNN, hVV, hww, hmm, hgg, htp, hud, htl, haa, hxx⟩ := hh
  have hh := hh0
  refine lv_aload_n X.1.1 X.1.2.1 d_Hall_locate_32 rfl (gl_at hl rfl) ?_
  refine g_get X kc_Hall ho 7 (by decide) lk_Hall_55 rfl d_Hall_locate_33 ?_
  refine lv_aload_n X.1.1 X.1.2.1 d_Hall_locate_36 rfl (gl_at hl rfl) ?_
  refine g_get X kc_Hall ho 1 (by decide) lk_Hall_16 rfl d_Hall_locate_37 ?_
  refine g_cv (A := (fun p => b ≤ p)) X gWS_good mw_Hall_242 kc_EditedText hxx.1 (c_EditedText_countPlaces l D q H2 (b + 551) xs us so hxx (b + 3) tp hud) (fun _ _ _ => trivial) gBlind.tt rfl rfl hl.1 (Nat.le_of_ble_eq_true rfl) rfl rfl ⟨by decide, by decide⟩ ⟨by decide, by decide⟩ d_Hall_locate_40 (fun _ h => h.elim) hL (fun v4 H5 locs hp6 hL => ?_)
  obtain ⟨rfl, hHe⟩ := hp6
  rw [hHe]
  exact g_iret X B ⟨rfl, hh, zz, frA⟩ hL d_Hall_locate_43 (by omega) (by omega)

set_option maxHeartbeats 4000000 in
set_option maxRecDepth 100000 in
theorem c_Hall_locate1 (l : Launch) (D : va_G) (q : Nat → ClassId) (H : Heap) (b : Nat) (c0 : Nat) (ad : Nat → Nat) (org : Nat → Option Nat) (srt : Nat → Nat) (bt : Nat → List Nat) (tn : Nat → Nat) (mp : Nat → Nat) (wk : Nat → Nat × Nat × Nat × Nat) (n : Nat → Nat) (ks : Nat → Nat → List Nat) (vs : Nat → Nat → Int32) (chg : Nat → Nat) (tp : List Nat) (ud : List Nat) (tl : List Nat) (an : Nat) (aks : Nat → List Nat) (aus : List Nat) (xs : List Nat) (us : List (List Nat)) (so : Nat) (hh : hA D q H b c0 ad org srt bt tn mp wk n ks vs chg tp ud tl an aks aus xs us so) : gC l y_Hall_locate (Cond.code y_Hall_locate b_Hall_locate 2 (some .int) :: gWS) (gR 4 90 0 0) D CL (gY q) (fun _ => True) [.ref b, .int (nI 1)] H (fun v1 H1 => ∃ (sti : Nat → Nat) (w : Option Nat) (so1 : Nat), sfP xs xs.length xs.length sti ∧ (match w with | none => ∀ j, j < xs.length → ¬ t_at xs tp (sti j) | some k => k < xs.length ∧ t_at xs tp (sti k) ∧ ∀ j, j < k → ¬ t_at xs tp (sti j)) ∧ v1 = some (.int (gm1 w)) ∧ hA D q H1 b c0 ad org srt bt tn mp wk n ks vs chg [] tp tl an aks aus xs us so1 ∧ H1.size = H.size ∧ ∀ p : Nat, p < H.size → ¬ hZ b c0 ad p → H1[p]? = H[p]?) 0 0 (fun p => b ≤ p) := by
  refine gC.ofW R_Hall "locate" (by decide) rfl rfl ?_
  intro p e s m below meth c hadm X hE hH B hne
  refine g_entry [some (.ref b), some (.int (nI 1))] rfl rfl (Nat.le_of_ble_eq_true rfl) (fun ls hl => ?_)
  have hh0 := hh
  obtain ⟨ho, hf, hd, hNN, hVV, hww, hmm, hgg, htp, hud, htl, haa, hxx⟩ := hh
  have hh := hh0
  have frA : ∀ p : Nat, p < H.size → ¬ hZ b c0 ad p → H[p]? = H[p]? := fun _ _ _ => rfl
  have zz : H.size = H.size := rfl
  refine lv_iload_n X.1.1 X.1.2.1 d_Hall_locate_0 rfl (gl_at hl rfl) ?_
  refine lv_lookup X.1.1 X.1.2.1 (x := nI 1) (off := 43) (tgt := 44) d_Hall_locate_1 (by decide) (by decide) rfl ?_
  refine lv_aload_n X.1.1 X.1.2.1 d_Hall_locate_44 rfl (gl_at hl rfl) ?_
  refine g_cv (A := (fun p => b ≤ p)) X gWS_good mw_Hall_74 kc_Hall ho (c_Hall_useTape l D q H b c0 ho tp ud htp hud) (fun _ _ _ => trivial) gBlind.tt rfl rfl hl.1 (Nat.le_of_ble_eq_true rfl) rfl rfl ⟨by decide, by decide⟩ ⟨by decide, by decide⟩ d_Hall_locate_45 (fun p h => show b ≤ p by omega) (fun _ h => by cases h) (fun v1 H2 locs hp3 hL => ?_)
  obtain ⟨rfl, k1, k2, hz1, fr1⟩ := hp3
  replace frA : ∀ p : Nat, p < H.size → ¬ hZ b c0 ad p → H2[p]? = H[p]? := fun p hp hz => (fr1 p (by (have z1 := hZ_b hz); omega)).trans (frA p hp hz)
  replace zz := hz1.trans zz
  replace hh := hh.tape k1 k2 hz1 fr1
  clear ho hf hd hNN hVV hww hmm hgg htp hud htl haa hxx
  have hh0 := hh
  obtain ⟨ho, hf, hd, hNN, hVV, hww, hmm, hgg, htp, hud, htl, haa, hxx⟩ := hh
  have hh := hh0
  refine lv_aload_n X.1.1 X.1.2.1 d_Hall_locate_48 rfl (gl_at hl rfl) ?_
  refine g_get X kc_Hall ho 7 (by decide) lk_Hall_55 rfl d_Hall_locate_49 ?_
  refine lv_aload_n X.1.1 X.1.2.1 d_Hall_locate_52 rfl (gl_at hl rfl) ?_
  refine g_get X kc_Hall ho 1 (by decide) lk_Hall_16 rfl d_Hall_locate_53 ?_
  refine g_cv (A := (fun p => b ≤ p)) X gWS_good mw_Hall_245 kc_EditedText hxx.1 (c_EditedText_least l D q H2 (b + 551) xs us so hxx (b + 3) tp hud (by omega)) (fun _ _ _ => trivial) gBlind.tt rfl rfl hl.1 (Nat.le_of_ble_eq_true rfl) rfl rfl ⟨by decide, by decide⟩ ⟨by decide, by decide⟩ d_Hall_locate_56 (fun p h => show b ≤ p by omega) hL (fun v4 H5 locs hp6 hL => ?_)
  obtain ⟨⟨sti, w, hsf, rfl, hw⟩, ⟨so1, k1⟩, hz1, fr1⟩ := hp6
  replace frA : ∀ p : Nat, p < H.size → ¬ hZ b c0 ad p → H5[p]? = H[p]? := fun p hp hz => (fr1 p (by (have z1 := hZ_b hz); omega)).trans (frA p hp hz)
  replace zz := hz1.trans zz
  replace hh := hh.text k1 hz1 fr1
  clear ho hf hd hNN hVV hww hmm hgg htp hud htl haa hxx
  have hh0 := hh
  obtain ⟨ho, hf, hd, hNN, hVV, hww, hmm, hgg, htp, hud, htl, haa, hxx⟩ := hh
  have hh := hh0
  exact g_iret X B ⟨sti, w, so1, hsf, hw, rfl, hh, zz, frA⟩ hL d_Hall_locate_59 (by omega) (by omega)

set_option maxHeartbeats 4000000 in
set_option maxRecDepth 100000 in
theorem c_Hall_locateN (l : Launch) (D : va_G) (q : Nat → ClassId) (H : Heap) (b : Nat) (c0 : Nat) (ad : Nat → Nat) (org : Nat → Option Nat) (srt : Nat → Nat) (bt : Nat → List Nat) (tn : Nat → Nat) (mp : Nat → Nat) (wk : Nat → Nat × Nat × Nat × Nat) (n : Nat → Nat) (ks : Nat → Nat → List Nat) (vs : Nat → Nat → Int32) (chg : Nat → Nat) (tp : List Nat) (ud : List Nat) (tl : List Nat) (an : Nat) (aks : Nat → List Nat) (aus : List Nat) (xs : List Nat) (us : List (List Nat)) (so : Nat) (hh : hA D q H b c0 ad org srt bt tn mp wk n ks vs chg tp ud tl an aks aus xs us so) (w : Int32) (hw : w.toInt ≠ 0 ∧ w.toInt ≠ 1) : gC l y_Hall_locate (Cond.code y_Hall_locate b_Hall_locate 2 (some .int) :: gWS) (gR 4 90 0 0) D CL (gY q) (fun _ => True) [.ref b, .int w] H (fun v1 H1 => v1 = some (.int (-1)) ∧ hA D q H1 b c0 ad org srt bt tn mp wk n ks vs chg tp ud tl an aks aus xs us so ∧ H1.size = H.size ∧ ∀ p : Nat, p < H.size → ¬ hZ b c0 ad p → H1[p]? = H[p]?) 0 0 (fun p => b ≤ p) := by
  refine gC.ofW R_Hall "locate" (by decide) rfl rfl ?_
  intro p e s m below meth c hadm X hE hH B hne
  refine g_entry [some (.ref b), some (.int w)] rfl rfl (Nat.le_of_ble_eq_true rfl) (fun ls hl => ?_)
  have hh0 := hh
  obtain ⟨ho, hf, hd, hNN, hVV, hww, hmm, hgg, htp, hud, htl, haa, hxx⟩ := hh
  have hh := hh0
  have frA : ∀ p : Nat, p < H.size → ¬ hZ b c0 ad p → H[p]? = H[p]? := fun _ _ _ => rfl
  have zz : H.size = H.size := rfl
  refine lv_iload_n X.1.1 X.1.2.1 d_Hall_locate_0 rfl (gl_at hl rfl) ?_
  refine lv_lookup X.1.1 X.1.2.1 (off := 59) (tgt := 60) d_Hall_locate_1 (by decide) (h_look hw) rfl ?_
  refine lv_iconst (v := (-1)) X.1.1 X.1.2.1 d_Hall_locate_60 (by decide) ?_
  exact g_iret X B ⟨rfl, hh, zz, frA⟩ (fun _ h => by cases h) d_Hall_locate_61 (by omega) (by omega)

set_option maxHeartbeats 4000000 in
set_option maxRecDepth 100000 in
theorem c_Hall_suffix0 (l : Launch) (D : va_G) (q : Nat → ClassId) (H : Heap) (b : Nat) (c0 : Nat) (ad : Nat → Nat) (org : Nat → Option Nat) (srt : Nat → Nat) (bt : Nat → List Nat) (tn : Nat → Nat) (mp : Nat → Nat) (wk : Nat → Nat × Nat × Nat × Nat) (n : Nat → Nat) (ks : Nat → Nat → List Nat) (vs : Nat → Nat → Int32) (chg : Nat → Nat) (tp : List Nat) (ud : List Nat) (tl : List Nat) (an : Nat) (aks : Nat → List Nat) (aus : List Nat) (xs : List Nat) (us : List (List Nat)) (so : Nat) (hh : hA D q H b c0 ad org srt bt tn mp wk n ks vs chg tp ud tl an aks aus xs us so) (i : Nat) (hi : i < xs.length) : gC l y_Hall_suffix (Cond.code y_Hall_suffix b_Hall_suffix 3 (some .int) :: gWS) (gR 4 92 0 0) D CL (gY q) (fun _ => True) [.ref b, .int (nI i), .int (nI 0)] H (fun v1 H1 => ∃ sti : Nat → Nat, sfP xs xs.length xs.length sti ∧ v1 = some (.int (nI (sti i))) ∧ hA D q H1 b c0 ad org srt bt tn mp wk n ks vs chg tp ud tl an aks aus xs us 1 ∧ H1.size = H.size ∧ ∀ p : Nat, p < H.size → ¬ hZ b c0 ad p → H1[p]? = H[p]?) 0 0 (fun p => b ≤ p) := by
  refine gC.ofW R_Hall "suffix" (by decide) rfl rfl ?_
  intro p e s m below meth c hadm X hE hH B hne
  refine g_entry [some (.ref b), some (.int (nI i)), some (.int (nI 0))] rfl rfl (Nat.le_of_ble_eq_true rfl) (fun ls hl => ?_)
  have hh0 := hh
  obtain ⟨ho, hf, hd, hNN, hVV, hww, hmm, hgg, htp, hud, htl, haa, hxx⟩ := hh
  have hh := hh0
  have frA : ∀ p : Nat, p < H.size → ¬ hZ b c0 ad p → H[p]? = H[p]? := fun _ _ _ => rfl
  have zz : H.size = H.size := rfl
  have hxx0 := hxx
  obtain ⟨hx1, ⟨xf, hx2, hx3⟩, ⟨hxl, hxc, hso⟩, hx4⟩ := hxx0
  refine lv_iload_n X.1.1 X.1.2.1 d_Hall_suffix_0 rfl (gl_at hl rfl) ?_
  refine lv_if_lt X.1.1 X.1.2.1 d_Hall_suffix_1 rfl (fun hc1 => ?_) (fun hc1 => ?_)
  · exact absurd hc1 (h_ok_of (c := xs.length) (by omega) hi).1
  · refine lv_iload_n X.1.1 X.1.2.1 d_Hall_suffix_4 rfl (gl_at hl rfl) ?_
    refine lv_aload_n X.1.1 X.1.2.1 d_Hall_suffix_5 rfl (gl_at hl rfl) ?_
    refine g_get X kc_Hall ho 7 (by decide) lk_Hall_55 rfl d_Hall_suffix_6 ?_
    refine g_get X kc_EditedText hx1 1 (by decide) lk_Hall_213 rfl d_Hall_suffix_9 ?_
    refine gn_lt X.1.1 X.1.2.1 i xs.length (by omega) (by omega) d_Hall_suffix_12 rfl (fun hc12 => ?_) (fun hc12 => ?_)
    · refine lv_iload_n X.1.1 X.1.2.1 d_Hall_suffix_17 rfl (gl_at hl rfl) ?_
      refine lv_lookup X.1.1 X.1.2.1 (x := nI 0) (off := 26) (tgt := 44) d_Hall_suffix_18 (by decide) (by decide) rfl ?_
      refine lv_aload_n X.1.1 X.1.2.1 d_Hall_suffix_44 rfl (gl_at hl rfl) ?_
      refine g_get X kc_Hall ho 7 (by decide) lk_Hall_55 rfl d_Hall_suffix_45 ?_
      refine g_cv (A := (fun p => b ≤ p)) X gWS_good mw_Hall_230 kc_EditedText hxx.1 (c_EditedText_sortedSuffixes l D q H (b + 551) xs us so hxx) (fun _ _ _ => trivial) gBlind.tt rfl rfl hl.1 (Nat.le_of_ble_eq_true rfl) rfl rfl ⟨by decide, by decide⟩ ⟨by decide, by decide⟩ d_Hall_suffix_48 (fun p h => show b ≤ p by omega) (fun _ h => by cases h) (fun v1 H2 locs hp3 hL => ?_)
      obtain ⟨rfl, k1, hz1, fr1⟩ := hp3
      replace frA : ∀ p : Nat, p < H.size → ¬ hZ b c0 ad p → H2[p]? = H[p]? := fun p hp hz => (fr1 p (by (have z1 := hZ_b hz); omega)).trans (frA p hp hz)
      replace zz := hz1.trans zz
      replace hh := hh.text k1 hz1 fr1
      clear ho hf hd hNN hVV hww hmm hgg htp hud htl haa hxx
      have hh0 := hh
      obtain ⟨ho, hf, hd, hNN, hVV, hww, hmm, hgg, htp, hud, htl, haa, hxx⟩ := hh
      have hh := hh0
      have hxx0 := hxx
      obtain ⟨hx1, hx2, hx3, hx4, hx5, F, K, hx6, hx7, hx8⟩ := hxx0
      obtain ⟨sti, hsf, hst⟩ := hx8 (by decide)
      refine g_get X kc_SuffixOrder hx5 0 (by decide) lk_Hall_234 rfl d_Hall_suffix_51 ?_
      refine lv_iload_n X.1.1 X.1.2.1 d_Hall_suffix_54 rfl (gl_at hl rfl) ?_
      refine g_iald X 0 hx6 rfl i (by omega) (by decide) d_Hall_suffix_55 ?_
      refine g_top (nI (sti i)) (hst i hi) ?_
      exact g_iret X B ⟨sti, hsf, rfl, hh, zz, frA⟩ hL d_Hall_suffix_56 (by omega) (by omega)
    · omega

set_option maxHeartbeats 4000000 in
set_option maxRecDepth 100000 in
theorem c_Hall_suffix1 (l : Launch) (D : va_G) (q : Nat → ClassId) (H : Heap) (b : Nat) (c0 : Nat) (ad : Nat → Nat) (org : Nat → Option Nat) (srt : Nat → Nat) (bt : Nat → List Nat) (tn : Nat → Nat) (mp : Nat → Nat) (wk : Nat → Nat × Nat × Nat × Nat) (n : Nat → Nat) (ks : Nat → Nat → List Nat) (vs : Nat → Nat → Int32) (chg : Nat → Nat) (tp : List Nat) (ud : List Nat) (tl : List Nat) (an : Nat) (aks : Nat → List Nat) (aus : List Nat) (xs : List Nat) (us : List (List Nat)) (so : Nat) (hh : hA D q H b c0 ad org srt bt tn mp wk n ks vs chg tp ud tl an aks aus xs us so) (i : Nat) (hi : i < xs.length) : gC l y_Hall_suffix (Cond.code y_Hall_suffix b_Hall_suffix 3 (some .int) :: gWS) (gR 4 92 0 0) D CL (gY q) (fun _ => True) [.ref b, .int (nI i), .int (nI 1)] H (fun v1 H1 => ∃ y so1 : Nat, ((i = 0 ∧ y = 0) ∨ ∃ sti, sfP xs xs.length xs.length sti ∧ i ≠ 0 ∧ y = t_lcp (xs.drop (sti i)) (xs.drop (sti (i - 1)))) ∧ v1 = some (.int (nI y)) ∧ hA D q H1 b c0 ad org srt bt tn mp wk n ks vs chg tp ud tl an aks aus xs us so1 ∧ H1.size = H.size ∧ ∀ p : Nat, p < H.size → ¬ hZ b c0 ad p → H1[p]? = H[p]?) 0 0 (fun p => b ≤ p) := by
  refine gC.ofW R_Hall "suffix" (by decide) rfl rfl ?_
  intro p e s m below meth c hadm X hE hH B hne
  refine g_entry [some (.ref b), some (.int (nI i)), some (.int (nI 1))] rfl rfl (Nat.le_of_ble_eq_true rfl) (fun ls hl => ?_)
  have hh0 := hh
  obtain ⟨ho, hf, hd, hNN, hVV, hww, hmm, hgg, htp, hud, htl, haa, hxx⟩ := hh
  have hh := hh0
  have frA : ∀ p : Nat, p < H.size → ¬ hZ b c0 ad p → H[p]? = H[p]? := fun _ _ _ => rfl
  have zz : H.size = H.size := rfl
  have hxx0 := hxx
  obtain ⟨hx1, ⟨xf, hx2, hx3⟩, ⟨hxl, hxc, hso⟩, hx4⟩ := hxx0
  refine lv_iload_n X.1.1 X.1.2.1 d_Hall_suffix_0 rfl (gl_at hl rfl) ?_
  refine lv_if_lt X.1.1 X.1.2.1 d_Hall_suffix_1 rfl (fun hc1 => ?_) (fun hc1 => ?_)
  · exact absurd hc1 (h_ok_of (c := xs.length) (by omega) hi).1
  · refine lv_iload_n X.1.1 X.1.2.1 d_Hall_suffix_4 rfl (gl_at hl rfl) ?_
    refine lv_aload_n X.1.1 X.1.2.1 d_Hall_suffix_5 rfl (gl_at hl rfl) ?_
    refine g_get X kc_Hall ho 7 (by decide) lk_Hall_55 rfl d_Hall_suffix_6 ?_
    refine g_get X kc_EditedText hx1 1 (by decide) lk_Hall_213 rfl d_Hall_suffix_9 ?_
    refine gn_lt X.1.1 X.1.2.1 i xs.length (by omega) (by omega) d_Hall_suffix_12 rfl (fun hc12 => ?_) (fun hc12 => ?_)
    · refine lv_iload_n X.1.1 X.1.2.1 d_Hall_suffix_17 rfl (gl_at hl rfl) ?_
      refine lv_lookup X.1.1 X.1.2.1 (x := nI 1) (off := 39) (tgt := 57) d_Hall_suffix_18 (by decide) (by decide) rfl ?_
      refine lv_aload_n X.1.1 X.1.2.1 d_Hall_suffix_57 rfl (gl_at hl rfl) ?_
      refine g_get X kc_Hall ho 7 (by decide) lk_Hall_55 rfl d_Hall_suffix_58 ?_
      refine lv_iload_n X.1.1 X.1.2.1 d_Hall_suffix_61 rfl (gl_at hl rfl) ?_
      refine g_cv (A := (fun p => b ≤ p)) X gWS_good mw_Hall_239 kc_EditedText hxx.1 (c_EditedText_shared l D q H (b + 551) xs us so hxx i hi) (fun _ _ _ => trivial) gBlind.tt rfl rfl hl.1 (Nat.le_of_ble_eq_true rfl) rfl rfl ⟨by decide, by decide⟩ ⟨by decide, by decide⟩ d_Hall_suffix_62 (fun p h => show b ≤ p by omega) (fun _ h => by cases h) (fun v1 H2 locs hp3 hL => ?_)
      obtain ⟨hw, ⟨so1, k1⟩, hz1, fr1⟩ := hp3
      obtain ⟨y9, rfl, hy9⟩ : ∃ y : Nat, v1 = some (.int (nI y)) ∧ ((i = 0 ∧ y = 0) ∨ ∃ sti, sfP xs xs.length xs.length sti ∧ i ≠ 0 ∧ y = t_lcp (xs.drop (sti i)) (xs.drop (sti (i - 1)))) := by
        rcases hw with ⟨h1, h2⟩ | ⟨sti, h1, h2, h3⟩
        · exact ⟨0, h2, Or.inl ⟨h1, rfl⟩⟩
        · exact ⟨_, h3, Or.inr ⟨sti, h1, h2, rfl⟩⟩
      replace frA : ∀ p : Nat, p < H.size → ¬ hZ b c0 ad p → H2[p]? = H[p]? := fun p hp hz => (fr1 p (by (have z1 := hZ_b hz); omega)).trans (frA p hp hz)
      replace zz := hz1.trans zz
      replace hh := hh.text k1 hz1 fr1
      clear ho hf hd hNN hVV hww hmm hgg htp hud htl haa hxx
      have hh0 := hh
      obtain ⟨ho, hf, hd, hNN, hVV, hww, hmm, hgg, htp, hud, htl, haa, hxx⟩ := hh
      have hh := hh0
      exact g_iret X B ⟨y9, so1, hy9, rfl, hh, zz, frA⟩ hL d_Hall_suffix_65 (by omega) (by omega)
    · omega

set_option maxHeartbeats 4000000 in
set_option maxRecDepth 100000 in
theorem c_Hall_suffixW (l : Launch) (D : va_G) (q : Nat → ClassId) (H : Heap) (b : Nat) (c0 : Nat) (ad : Nat → Nat) (org : Nat → Option Nat) (srt : Nat → Nat) (bt : Nat → List Nat) (tn : Nat → Nat) (mp : Nat → Nat) (wk : Nat → Nat × Nat × Nat × Nat) (n : Nat → Nat) (ks : Nat → Nat → List Nat) (vs : Nat → Nat → Int32) (chg : Nat → Nat) (tp : List Nat) (ud : List Nat) (tl : List Nat) (an : Nat) (aks : Nat → List Nat) (aus : List Nat) (xs : List Nat) (us : List (List Nat)) (so : Nat) (hh : hA D q H b c0 ad org srt bt tn mp wk n ks vs chg tp ud tl an aks aus xs us so) (i : Nat) (hi : i < xs.length) (w : Int32) (hw : w.toInt ≠ 0 ∧ w.toInt ≠ 1) : gC l y_Hall_suffix (Cond.code y_Hall_suffix b_Hall_suffix 3 (some .int) :: gWS) (gR 4 92 0 0) D CL (gY q) (fun _ => True) [.ref b, .int (nI i), .int w] H (fun v1 H1 => v1 = some (.int (-1)) ∧ hA D q H1 b c0 ad org srt bt tn mp wk n ks vs chg tp ud tl an aks aus xs us so ∧ H1.size = H.size ∧ ∀ p : Nat, p < H.size → ¬ hZ b c0 ad p → H1[p]? = H[p]?) 0 0 (fun p => b ≤ p) := by
  refine gC.ofW R_Hall "suffix" (by decide) rfl rfl ?_
  intro p e s m below meth c hadm X hE hH B hne
  refine g_entry [some (.ref b), some (.int (nI i)), some (.int w)] rfl rfl (Nat.le_of_ble_eq_true rfl) (fun ls hl => ?_)
  have hh0 := hh
  obtain ⟨ho, hf, hd, hNN, hVV, hww, hmm, hgg, htp, hud, htl, haa, hxx⟩ := hh
  have hh := hh0
  have frA : ∀ p : Nat, p < H.size → ¬ hZ b c0 ad p → H[p]? = H[p]? := fun _ _ _ => rfl
  have zz : H.size = H.size := rfl
  have hxx0 := hxx
  obtain ⟨hx1, ⟨xf, hx2, hx3⟩, ⟨hxl, hxc, hso⟩, hx4⟩ := hxx0
  refine lv_iload_n X.1.1 X.1.2.1 d_Hall_suffix_0 rfl (gl_at hl rfl) ?_
  refine lv_if_lt X.1.1 X.1.2.1 d_Hall_suffix_1 rfl (fun hc1 => ?_) (fun hc1 => ?_)
  · exact absurd hc1 (h_ok_of (c := xs.length) (by omega) hi).1
  · refine lv_iload_n X.1.1 X.1.2.1 d_Hall_suffix_4 rfl (gl_at hl rfl) ?_
    refine lv_aload_n X.1.1 X.1.2.1 d_Hall_suffix_5 rfl (gl_at hl rfl) ?_
    refine g_get X kc_Hall ho 7 (by decide) lk_Hall_55 rfl d_Hall_suffix_6 ?_
    refine g_get X kc_EditedText hx1 1 (by decide) lk_Hall_213 rfl d_Hall_suffix_9 ?_
    refine gn_lt X.1.1 X.1.2.1 i xs.length (by omega) (by omega) d_Hall_suffix_12 rfl (fun hc12 => ?_) (fun hc12 => ?_)
    · refine lv_iload_n X.1.1 X.1.2.1 d_Hall_suffix_17 rfl (gl_at hl rfl) ?_
      refine lv_lookup X.1.1 X.1.2.1 (off := 48) (tgt := 66) d_Hall_suffix_18 (by decide) (h_look hw) rfl ?_
      refine lv_iconst (v := (-1)) X.1.1 X.1.2.1 d_Hall_suffix_66 (by decide) ?_
      exact g_iret X B ⟨rfl, hh, zz, frA⟩ (fun _ h => by cases h) d_Hall_suffix_67 (by omega) (by omega)
    · omega

set_option maxHeartbeats 4000000 in
set_option maxRecDepth 100000 in
theorem c_Hall_suffixN (l : Launch) (D : va_G) (q : Nat → ClassId) (H : Heap) (b : Nat) (c0 : Nat) (ad : Nat → Nat) (org : Nat → Option Nat) (srt : Nat → Nat) (bt : Nat → List Nat) (tn : Nat → Nat) (mp : Nat → Nat) (wk : Nat → Nat × Nat × Nat × Nat) (n : Nat → Nat) (ks : Nat → Nat → List Nat) (vs : Nat → Nat → Int32) (chg : Nat → Nat) (tp : List Nat) (ud : List Nat) (tl : List Nat) (an : Nat) (aks : Nat → List Nat) (aus : List Nat) (xs : List Nat) (us : List (List Nat)) (so : Nat) (hh : hA D q H b c0 ad org srt bt tn mp wk n ks vs chg tp ud tl an aks aus xs us so) (i w : Int32) (hi : ¬ h_ok xs.length i) : gC l y_Hall_suffix (Cond.code y_Hall_suffix b_Hall_suffix 3 (some .int) :: gWS) (gR 4 92 0 0) D CL (gY q) (fun _ => True) [.ref b, .int i, .int w] H (fun v1 H1 => v1 = some (.int (-1)) ∧ hA D q H1 b c0 ad org srt bt tn mp wk n ks vs chg tp ud tl an aks aus xs us so ∧ H1.size = H.size ∧ ∀ p : Nat, p < H.size → ¬ hZ b c0 ad p → H1[p]? = H[p]?) 0 0 (fun p => b ≤ p) := by
  refine gC.ofW R_Hall "suffix" (by decide) rfl rfl ?_
  intro p e s m below meth c hadm X hE hH B hne
  refine g_entry [some (.ref b), some (.int i), some (.int w)] rfl rfl (Nat.le_of_ble_eq_true rfl) (fun ls hl => ?_)
  have hh0 := hh
  obtain ⟨ho, hf, hd, hNN, hVV, hww, hmm, hgg, htp, hud, htl, haa, hxx⟩ := hh
  have hh := hh0
  have frA : ∀ p : Nat, p < H.size → ¬ hZ b c0 ad p → H[p]? = H[p]? := fun _ _ _ => rfl
  have zz : H.size = H.size := rfl
  have hxx0 := hxx
  obtain ⟨hx1, ⟨xf, hx2, hx3⟩, ⟨hxl, hxc, hso⟩, hx4⟩ := hxx0
  refine lv_iload_n X.1.1 X.1.2.1 d_Hall_suffix_0 rfl (gl_at hl rfl) ?_
  refine lv_if_lt X.1.1 X.1.2.1 d_Hall_suffix_1 rfl (fun hc1 => ?_) (fun hc1 => ?_)
  · refine lv_iconst (v := (-1)) X.1.1 X.1.2.1 d_Hall_suffix_15 (by decide) ?_
    exact g_iret X B ⟨rfl, hh, zz, frA⟩ (fun _ h => by cases h) d_Hall_suffix_16 (by omega) (by omega)
  · refine lv_iload_n X.1.1 X.1.2.1 d_Hall_suffix_4 rfl (gl_at hl rfl) ?_
    refine lv_aload_n X.1.1 X.1.2.1 d_Hall_suffix_5 rfl (gl_at hl rfl) ?_
    refine g_get X kc_Hall ho 7 (by decide) lk_Hall_55 rfl d_Hall_suffix_6 ?_
    refine g_get X kc_EditedText hx1 1 (by decide) lk_Hall_213 rfl d_Hall_suffix_9 ?_
    refine lv_icmp_lt X.1.1 X.1.2.1 d_Hall_suffix_12 rfl (fun hc12 => ?_) (fun hc12 => ?_)
    · exact absurd ⟨hc1, Int32.not_le.mpr hc12⟩ hi
    · refine lv_iconst (v := (-1)) X.1.1 X.1.2.1 d_Hall_suffix_15 (by decide) ?_
      exact g_iret X B ⟨rfl, hh, zz, frA⟩ (fun _ h => by cases h) d_Hall_suffix_16 (by omega) (by omega)
