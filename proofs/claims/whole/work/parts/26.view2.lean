/-! the class View, 2: printed by wip/specs/view2.py -/
set_option maxHeartbeats 4000000 in
set_option maxRecDepth 100000 in
/-- measure: where the keys of a view begin and end -/
theorem c_View_measure (l : Launch) (D : va_G) (q : Nat → ClassId) (H : Heap) (v : Nat) (ad : Nat → Nat) (org : Nat → Option Nat) (srt bk : Nat → Nat) (bt : Nat → List Nat) (hV : vV D q H v ad org srt bk bt) (mb tn wk f0 t0 : Nat) (hv : va_at D CL (ad v, .inr (2, [.ref mb, va_rf ((org v).map ad), .int (nI (srt v)), .ref (bk v), .int (nI tn), .ref wk, .int (nI f0), .int (nI t0)])) H) (hx : vX v ad bk) (n : Nat) (ks : Nat → List Nat) (vs : Nat → Int32) (chg : Nat) (hm : mA D q H mb n ks vs chg) (hav : ad v < mb ∨ mb + 130 < ad v) : gC l y_View_measure (Cond.code y_View_measure b_View_measure 1 none :: gWS) (gR 4 87 0 0) D CL (gY q) (fun _ => True) [.ref (ad v)] H (fun v1 H1 => ∃ i t : Nat, v1 = none ∧ va_at D CL (ad v, .inr (2, [.ref mb, va_rf ((org v).map ad), .int (nI (srt v)), .ref (bk v), .int (nI tn), .ref wk, .int (nI i), .int (nI t)])) H1 ∧ i ≤ t ∧ t ≤ n ∧ (∀ j, j < i → ¬ v_in org srt bt v (ks j) = true) ∧ (∀ j, t ≤ j → j < n → ¬ v_in org srt bt v (ks j) = true) ∧ (i < t → v_in org srt bt v (ks i) = true) ∧ (i < t → v_in org srt bt v (ks (t - 1)) = true) ∧ H1.size = H.size ∧ ∀ p : Nat, p ≠ ad v → H1[p]? = H[p]?) 0 0 (fun p => p = ad v) := by
  refine gC.ofW R_View "measure" (by decide) rfl rfl ?_
  intro p e s m below meth c hadm X hE hH B hne
  refine g_entry [some (.ref (ad v))] rfl rfl (Nat.le_of_ble_eq_true rfl) (fun ls hl => ?_)
  obtain ⟨ho0, hn, ⟨f, g, hf0, hfg, hg, hgi, hks⟩, hvv⟩ := hm
  have ho := ho0
  have hf := hf0
  refine lv_aload_n X.1.1 X.1.2.1 d_View_measure_0 rfl (gl_at hl rfl) ?_
  refine lv_iconst (v := nI 0) X.1.1 X.1.2.1 d_View_measure_1 (by decide) ?_
  refine g_put (A := (fun p => p = ad v)) X kc_View hv 6 (by decide) lk_View_56 rfl rfl rfl (Nat.le_of_ble_eq_true rfl) d_View_measure_2 rfl (fun _ h => by cases h) (fun H1 locs h2 z3 oq4 hL => ?_)
  replace ho := ho.kept (oq4 _ (by omega))
  replace hf := hf.kept (oq4 _ (by omega))
  have loop5 : ∀ (fu : Nat) (i : Nat) (Hn : Heap) (locs : List Loc) (ls : Array Slot), n - i < fu → (i ≤ n) → (∀ j, j < i → ¬ v_in org srt bt v (ks j) = true) → (va_at D CL (ad v, .inr (2, [.ref mb, va_rf ((org v).map ad), .int (nI (srt v)), .ref (bk v), .int (nI tn), .ref wk, .int (nI i), .int (nI t0)])) Hn) → (∀ p : Nat, p ≠ ad v → Hn[p]? = H[p]?) → (Hn.size = H.size) → (∀ x ∈ locs, (fun p => p = ad v) x.base) → gl ls [some (.ref (ad v))] → W p l e (gR 4 87 0 0) s m ([.ref (ad v)] : List Value).toArray below meth c Hn locs 0 0 (gQ below ([.ref (ad v)] : List Value).toArray s (fun v1 H1 => ∃ i t : Nat, v1 = none ∧ va_at D CL (ad v, .inr (2, [.ref mb, va_rf ((org v).map ad), .int (nI (srt v)), .ref (bk v), .int (nI tn), .ref wk, .int (nI i), .int (nI t)])) H1 ∧ i ≤ t ∧ t ≤ n ∧ (∀ j, j < i → ¬ v_in org srt bt v (ks j) = true) ∧ (∀ j, t ≤ j → j < n → ¬ v_in org srt bt v (ks j) = true) ∧ (i < t → v_in org srt bt v (ks i) = true) ∧ (i < t → v_in org srt bt v (ks (t - 1)) = true) ∧ H1.size = H.size ∧ ∀ p : Nat, p ≠ ad v → H1[p]? = H[p]?) 0 0 (fun p => p = ad v)) (F0 m 5 ls []) := by
    intro fu
    induction fu with
    | zero => intro i Hn locs ls hmu; omega
    | succ fu ih5 =>
      intro i Hn locs ls hmu5 hi5_0 hi5_1 hv fr zz hL hl
      have ho := ho0.kept (fr mb (by omega))
      have hf := va_at.kept hf0 (fr (mb + 1) (by omega))
      refine lv_aload_n X.1.1 X.1.2.1 d_View_measure_5 rfl (gl_at hl rfl) ?_
      refine g_get X kc_View hv 6 (by decide) lk_View_56 rfl d_View_measure_6 ?_
      refine lv_aload_n X.1.1 X.1.2.1 d_View_measure_9 rfl (gl_at hl rfl) ?_
      refine g_get X kc_View hv 0 (by decide) lk_View_9 rfl d_View_measure_10 ?_
      refine g_get X kc_KeyMap ho 2 (by decide) lk_View_59 rfl d_View_measure_13 ?_
      refine gn_ge X.1.1 X.1.2.1 i n (by omega) (by omega) d_View_measure_16 rfl (fun hc16 => ?_) (fun hc16 => ?_)
      · have hin : i < n → v_in org srt bt v (ks i) = true := by first | (intro h9; omega) | exact fun _ => hc35
        refine lv_aload_n X.1.1 X.1.2.1 d_View_measure_51 rfl (gl_at hl rfl) ?_
        refine lv_aload_n X.1.1 X.1.2.1 d_View_measure_52 rfl (gl_at hl rfl) ?_
        refine g_get X kc_View hv 0 (by decide) lk_View_9 rfl d_View_measure_53 ?_
        refine g_get X kc_KeyMap ho 2 (by decide) lk_View_59 rfl d_View_measure_56 ?_
        refine g_put (A := (fun p => p = ad v)) X kc_View hv 7 (by decide) lk_View_71 rfl rfl rfl (Nat.le_of_ble_eq_true rfl) d_View_measure_59 rfl hL (fun H5 locs h6 z7 oq8 hL => ?_)
        replace ho := ho.kept (oq8 _ (by omega))
        replace hf := hf.kept (oq8 _ (by omega))
        have loop62 : ∀ (fu : Nat) (t : Nat) (Hn : Heap) (locs : List Loc) (ls : Array Slot), t < fu → (i ≤ t) → (t ≤ n) → (∀ j, t ≤ j → j < n → ¬ v_in org srt bt v (ks j) = true) → (va_at D CL (ad v, .inr (2, [.ref mb, va_rf ((org v).map ad), .int (nI (srt v)), .ref (bk v), .int (nI tn), .ref wk, .int (nI i), .int (nI t)])) Hn) → (∀ p : Nat, p ≠ ad v → Hn[p]? = H[p]?) → (Hn.size = H.size) → (∀ x ∈ locs, (fun p => p = ad v) x.base) → gl ls [some (.ref (ad v))] → W p l e (gR 4 87 0 0) s m ([.ref (ad v)] : List Value).toArray below meth c Hn locs 0 0 (gQ below ([.ref (ad v)] : List Value).toArray s (fun v1 H1 => ∃ i t : Nat, v1 = none ∧ va_at D CL (ad v, .inr (2, [.ref mb, va_rf ((org v).map ad), .int (nI (srt v)), .ref (bk v), .int (nI tn), .ref wk, .int (nI i), .int (nI t)])) H1 ∧ i ≤ t ∧ t ≤ n ∧ (∀ j, j < i → ¬ v_in org srt bt v (ks j) = true) ∧ (∀ j, t ≤ j → j < n → ¬ v_in org srt bt v (ks j) = true) ∧ (i < t → v_in org srt bt v (ks i) = true) ∧ (i < t → v_in org srt bt v (ks (t - 1)) = true) ∧ H1.size = H.size ∧ ∀ p : Nat, p ≠ ad v → H1[p]? = H[p]?) 0 0 (fun p => p = ad v)) (F0 m 62 ls []) := by
          intro fu
          induction fu with
          | zero => intro t Hn locs ls hmu; omega
          | succ fu ih62 =>
            intro t Hn locs ls hmu62 hi62_0 hi62_1 hi62_2 hv fr zz hL hl
            have ho := ho0.kept (fr mb (by omega))
            have hf := va_at.kept hf0 (fr (mb + 1) (by omega))
            refine lv_aload_n X.1.1 X.1.2.1 d_View_measure_62 rfl (gl_at hl rfl) ?_
            refine g_get X kc_View hv 7 (by decide) lk_View_71 rfl d_View_measure_63 ?_
            refine lv_aload_n X.1.1 X.1.2.1 d_View_measure_66 rfl (gl_at hl rfl) ?_
            refine g_get X kc_View hv 6 (by decide) lk_View_56 rfl d_View_measure_67 ?_
            refine gn_le X.1.1 X.1.2.1 t i (by omega) (by omega) d_View_measure_70 rfl (fun hc70 => ?_) (fun hc70 => ?_)
            · exact g_vret X B ⟨i, t, rfl, hv, hi62_0, hi62_1, hi5_1, hi62_2, fun h => hin (by omega), (by first | (intro h9; omega) | exact fun _ => hc91), zz, fr⟩ hL d_View_measure_107 (by omega) (by omega)
            · obtain ⟨j9, hj9, hgj9⟩ := hg (t - 1) (by omega)
              have hki := (hks (t - 1) (by omega)).kept (fr _ (by omega)) (fr _ (by omega))
              refine lv_aload_n X.1.1 X.1.2.1 d_View_measure_73 rfl (gl_at hl rfl) ?_
              refine lv_aload_n X.1.1 X.1.2.1 d_View_measure_74 rfl (gl_at hl rfl) ?_
              refine g_get X kc_View hv 0 (by decide) lk_View_9 rfl d_View_measure_75 ?_
              refine g_get X kc_KeyMap ho 0 (by decide) lk_View_64 rfl d_View_measure_78 ?_
              refine lv_aload_n X.1.1 X.1.2.1 d_View_measure_81 rfl (gl_at hl rfl) ?_
              refine g_get X kc_View hv 7 (by decide) lk_View_71 rfl d_View_measure_82 ?_
              refine lv_iconst (v := nI 1) X.1.1 X.1.2.1 d_View_measure_85 (by decide) ?_
              refine lv_isub X.1.1 X.1.2.1 d_View_measure_86 ?_
              refine g_top (nI (t - 1)) (pk_sub (by omega)) ?_
              refine g_aald X 3 hf rfl (t - 1) (by omega) (by decide) (v := .ref (g (t - 1))) (by rw [hfg _ (by omega)]; rfl) d_View_measure_87 ?_
              refine g_cv (A := (fun p => p = ad v)) X gWS_good mw_View_68 kc_View hv (c_View_admits l D q Hn v ad org srt bk bt (hV.put hx hv fr) (g (t - 1)) (ks (t - 1)) hki) (fun _ _ _ => trivial) gBlind.tt rfl rfl hl.1 (Nat.le_of_ble_eq_true rfl) rfl rfl ⟨by decide, by decide⟩ ⟨by decide, by decide⟩ d_View_measure_88 (fun _ h => h.elim) hL (fun v9 H10 locs hp11 hL => ?_)
              obtain ⟨rfl, hHe⟩ := hp11
              rw [hHe]
              refine lv_if_ne X.1.1 X.1.2.1 d_View_measure_91 rfl (fun hc91 => ?_) (fun hc91 => ?_)
              · replace hc91 := gz_t hc91
                exact g_vret X B ⟨i, t, rfl, hv, hi62_0, hi62_1, hi5_1, hi62_2, fun h => hin (by omega), (by first | (intro h9; omega) | exact fun _ => hc91), zz, fr⟩ hL d_View_measure_107 (by omega) (by omega)
              · replace hc91 := gz_f hc91
                refine lv_aload_n X.1.1 X.1.2.1 d_View_measure_94 rfl (gl_at hl rfl) ?_
                refine lv_dup X.1.1 X.1.2.1 d_View_measure_95 rfl ?_
                refine g_get X kc_View hv 7 (by decide) lk_View_71 rfl d_View_measure_96 ?_
                refine lv_iconst (v := nI 1) X.1.1 X.1.2.1 d_View_measure_99 (by decide) ?_
                refine lv_isub X.1.1 X.1.2.1 d_View_measure_100 ?_
                refine g_top (nI (t - 1)) (pk_sub (by omega)) ?_
                refine g_put (A := (fun p => p = ad v)) X kc_View hv 7 (by decide) lk_View_71 rfl rfl rfl (Nat.le_of_ble_eq_true rfl) d_View_measure_101 rfl hL (fun H12 locs h13 z14 oq15 hL => ?_)
                replace ho := ho.kept (oq15 _ (by omega))
                replace hf := hf.kept (oq15 _ (by omega))
                refine lv_goto X.1.1 X.1.2.1 d_View_measure_104 rfl ?_
                exact ih62 (t - 1) H12 locs ls (by omega) (by omega) (by omega) (fun j h1 h2 => by
                  by_cases h9 : j = t - 1
                  · rw [h9]
                    exact hc91
                  · exact hi62_2 j (by omega) h2) h13 (fun p hp => ((oq15 p hp).trans (fr p hp))) (z14.trans zz) hL hl
        exact loop62 _ n H5 locs ls (Nat.lt_succ_self _) (by omega) (Nat.le_refl _) (fun j h1 h2 => by omega) h6 (fun p hp => ((oq8 p hp).trans (fr p hp))) (z7.trans zz) hL hl
      · obtain ⟨j9, hj9, hgj9⟩ := hg i (by omega)
        have hki := (hks i (by omega)).kept (fr _ (by omega)) (fr _ (by omega))
        refine lv_aload_n X.1.1 X.1.2.1 d_View_measure_19 rfl (gl_at hl rfl) ?_
        refine lv_aload_n X.1.1 X.1.2.1 d_View_measure_20 rfl (gl_at hl rfl) ?_
        refine g_get X kc_View hv 0 (by decide) lk_View_9 rfl d_View_measure_21 ?_
        refine g_get X kc_KeyMap ho 0 (by decide) lk_View_64 rfl d_View_measure_24 ?_
        refine lv_aload_n X.1.1 X.1.2.1 d_View_measure_27 rfl (gl_at hl rfl) ?_
        refine g_get X kc_View hv 6 (by decide) lk_View_56 rfl d_View_measure_28 ?_
        refine g_aald X 3 hf rfl i (by omega) (by decide) (v := .ref (g i)) (by rw [hfg _ (by omega)]; rfl) d_View_measure_31 ?_
        refine g_cv (A := (fun p => p = ad v)) X gWS_good mw_View_68 kc_View hv (c_View_admits l D q Hn v ad org srt bk bt (hV.put hx hv fr) (g i) (ks i) hki) (fun _ _ _ => trivial) gBlind.tt rfl rfl hl.1 (Nat.le_of_ble_eq_true rfl) rfl rfl ⟨by decide, by decide⟩ ⟨by decide, by decide⟩ d_View_measure_32 (fun _ h => h.elim) hL (fun v16 H17 locs hp18 hL => ?_)
        obtain ⟨rfl, hHe⟩ := hp18
        rw [hHe]
        refine lv_if_ne X.1.1 X.1.2.1 d_View_measure_35 rfl (fun hc35 => ?_) (fun hc35 => ?_)
        · replace hc35 := gz_t hc35
          have hin : i < n → v_in org srt bt v (ks i) = true := by first | (intro h9; omega) | exact fun _ => hc35
          refine lv_aload_n X.1.1 X.1.2.1 d_View_measure_51 rfl (gl_at hl rfl) ?_
          refine lv_aload_n X.1.1 X.1.2.1 d_View_measure_52 rfl (gl_at hl rfl) ?_
          refine g_get X kc_View hv 0 (by decide) lk_View_9 rfl d_View_measure_53 ?_
          refine g_get X kc_KeyMap ho 2 (by decide) lk_View_59 rfl d_View_measure_56 ?_
          refine g_put (A := (fun p => p = ad v)) X kc_View hv 7 (by decide) lk_View_71 rfl rfl rfl (Nat.le_of_ble_eq_true rfl) d_View_measure_59 rfl hL (fun H19 locs h20 z21 oq22 hL => ?_)
          replace ho := ho.kept (oq22 _ (by omega))
          replace hf := hf.kept (oq22 _ (by omega))
          have loop62 : ∀ (fu : Nat) (t : Nat) (Hn : Heap) (locs : List Loc) (ls : Array Slot), t < fu → (i ≤ t) → (t ≤ n) → (∀ j, t ≤ j → j < n → ¬ v_in org srt bt v (ks j) = true) → (va_at D CL (ad v, .inr (2, [.ref mb, va_rf ((org v).map ad), .int (nI (srt v)), .ref (bk v), .int (nI tn), .ref wk, .int (nI i), .int (nI t)])) Hn) → (∀ p : Nat, p ≠ ad v → Hn[p]? = H[p]?) → (Hn.size = H.size) → (∀ x ∈ locs, (fun p => p = ad v) x.base) → gl ls [some (.ref (ad v))] → W p l e (gR 4 87 0 0) s m ([.ref (ad v)] : List Value).toArray below meth c Hn locs 0 0 (gQ below ([.ref (ad v)] : List Value).toArray s (fun v1 H1 => ∃ i t : Nat, v1 = none ∧ va_at D CL (ad v, .inr (2, [.ref mb, va_rf ((org v).map ad), .int (nI (srt v)), .ref (bk v), .int (nI tn), .ref wk, .int (nI i), .int (nI t)])) H1 ∧ i ≤ t ∧ t ≤ n ∧ (∀ j, j < i → ¬ v_in org srt bt v (ks j) = true) ∧ (∀ j, t ≤ j → j < n → ¬ v_in org srt bt v (ks j) = true) ∧ (i < t → v_in org srt bt v (ks i) = true) ∧ (i < t → v_in org srt bt v (ks (t - 1)) = true) ∧ H1.size = H.size ∧ ∀ p : Nat, p ≠ ad v → H1[p]? = H[p]?) 0 0 (fun p => p = ad v)) (F0 m 62 ls []) := by
            intro fu
            induction fu with
            | zero => intro t Hn locs ls hmu; omega
            | succ fu ih62 =>
              intro t Hn locs ls hmu62 hi62_0 hi62_1 hi62_2 hv fr zz hL hl
              have ho := ho0.kept (fr mb (by omega))
              have hf := va_at.kept hf0 (fr (mb + 1) (by omega))
              refine lv_aload_n X.1.1 X.1.2.1 d_View_measure_62 rfl (gl_at hl rfl) ?_
              refine g_get X kc_View hv 7 (by decide) lk_View_71 rfl d_View_measure_63 ?_
              refine lv_aload_n X.1.1 X.1.2.1 d_View_measure_66 rfl (gl_at hl rfl) ?_
              refine g_get X kc_View hv 6 (by decide) lk_View_56 rfl d_View_measure_67 ?_
              refine gn_le X.1.1 X.1.2.1 t i (by omega) (by omega) d_View_measure_70 rfl (fun hc70 => ?_) (fun hc70 => ?_)
              · exact g_vret X B ⟨i, t, rfl, hv, hi62_0, hi62_1, hi5_1, hi62_2, fun h => hin (by omega), (by first | (intro h9; omega) | exact fun _ => hc91), zz, fr⟩ hL d_View_measure_107 (by omega) (by omega)
              · obtain ⟨j9, hj9, hgj9⟩ := hg (t - 1) (by omega)
                have hki := (hks (t - 1) (by omega)).kept (fr _ (by omega)) (fr _ (by omega))
                refine lv_aload_n X.1.1 X.1.2.1 d_View_measure_73 rfl (gl_at hl rfl) ?_
                refine lv_aload_n X.1.1 X.1.2.1 d_View_measure_74 rfl (gl_at hl rfl) ?_
                refine g_get X kc_View hv 0 (by decide) lk_View_9 rfl d_View_measure_75 ?_
                refine g_get X kc_KeyMap ho 0 (by decide) lk_View_64 rfl d_View_measure_78 ?_
                refine lv_aload_n X.1.1 X.1.2.1 d_View_measure_81 rfl (gl_at hl rfl) ?_
                refine g_get X kc_View hv 7 (by decide) lk_View_71 rfl d_View_measure_82 ?_
                refine lv_iconst (v := nI 1) X.1.1 X.1.2.1 d_View_measure_85 (by decide) ?_
                refine lv_isub X.1.1 X.1.2.1 d_View_measure_86 ?_
                refine g_top (nI (t - 1)) (pk_sub (by omega)) ?_
                refine g_aald X 3 hf rfl (t - 1) (by omega) (by decide) (v := .ref (g (t - 1))) (by rw [hfg _ (by omega)]; rfl) d_View_measure_87 ?_
                refine g_cv (A := (fun p => p = ad v)) X gWS_good mw_View_68 kc_View hv (c_View_admits l D q Hn v ad org srt bk bt (hV.put hx hv fr) (g (t - 1)) (ks (t - 1)) hki) (fun _ _ _ => trivial) gBlind.tt rfl rfl hl.1 (Nat.le_of_ble_eq_true rfl) rfl rfl ⟨by decide, by decide⟩ ⟨by decide, by decide⟩ d_View_measure_88 (fun _ h => h.elim) hL (fun v23 H24 locs hp25 hL => ?_)
                obtain ⟨rfl, hHe⟩ := hp25
                rw [hHe]
                refine lv_if_ne X.1.1 X.1.2.1 d_View_measure_91 rfl (fun hc91 => ?_) (fun hc91 => ?_)
                · replace hc91 := gz_t hc91
                  exact g_vret X B ⟨i, t, rfl, hv, hi62_0, hi62_1, hi5_1, hi62_2, fun h => hin (by omega), (by first | (intro h9; omega) | exact fun _ => hc91), zz, fr⟩ hL d_View_measure_107 (by omega) (by omega)
                · replace hc91 := gz_f hc91
                  refine lv_aload_n X.1.1 X.1.2.1 d_View_measure_94 rfl (gl_at hl rfl) ?_
                  refine lv_dup X.1.1 X.1.2.1 d_View_measure_95 rfl ?_
                  refine g_get X kc_View hv 7 (by decide) lk_View_71 rfl d_View_measure_96 ?_
                  refine lv_iconst (v := nI 1) X.1.1 X.1.2.1 d_View_measure_99 (by decide) ?_
                  refine lv_isub X.1.1 X.1.2.1 d_View_measure_100 ?_
                  refine g_top (nI (t - 1)) (pk_sub (by omega)) ?_
                  refine g_put (A := (fun p => p = ad v)) X kc_View hv 7 (by decide) lk_View_71 rfl rfl rfl (Nat.le_of_ble_eq_true rfl) d_View_measure_101 rfl hL (fun H26 locs h27 z28 oq29 hL => ?_)
                  replace ho := ho.kept (oq29 _ (by omega))
                  replace hf := hf.kept (oq29 _ (by omega))
                  refine lv_goto X.1.1 X.1.2.1 d_View_measure_104 rfl ?_
                  exact ih62 (t - 1) H26 locs ls (by omega) (by omega) (by omega) (fun j h1 h2 => by
                    by_cases h9 : j = t - 1
                    · rw [h9]
                      exact hc91
                    · exact hi62_2 j (by omega) h2) h27 (fun p hp => ((oq29 p hp).trans (fr p hp))) (z28.trans zz) hL hl
          exact loop62 _ n H19 locs ls (Nat.lt_succ_self _) (by omega) (Nat.le_refl _) (fun j h1 h2 => by omega) h20 (fun p hp => ((oq22 p hp).trans (fr p hp))) (z21.trans zz) hL hl
        · replace hc35 := gz_f hc35
          refine lv_aload_n X.1.1 X.1.2.1 d_View_measure_38 rfl (gl_at hl rfl) ?_
          refine lv_dup X.1.1 X.1.2.1 d_View_measure_39 rfl ?_
          refine g_get X kc_View hv 6 (by decide) lk_View_56 rfl d_View_measure_40 ?_
          refine lv_iconst (v := nI 1) X.1.1 X.1.2.1 d_View_measure_43 (by decide) ?_
          refine lv_iadd X.1.1 X.1.2.1 d_View_measure_44 ?_
          refine g_top (nI (i + 1)) (nI_add _ _) ?_
          refine g_put (A := (fun p => p = ad v)) X kc_View hv 6 (by decide) lk_View_56 rfl rfl rfl (Nat.le_of_ble_eq_true rfl) d_View_measure_45 rfl hL (fun H30 locs h31 z32 oq33 hL => ?_)
          replace ho := ho.kept (oq33 _ (by omega))
          replace hf := hf.kept (oq33 _ (by omega))
          refine lv_goto X.1.1 X.1.2.1 d_View_measure_48 rfl ?_
          exact ih5 (i + 1) H30 locs ls (by omega) (by omega) (lt_s hi5_1 hc35) h31 (fun p hp => ((oq33 p hp).trans (fr p hp))) (z32.trans zz) hL hl
  exact loop5 _ 0 H1 locs ls (Nat.lt_succ_self _) (Nat.zero_le _) (fun j hj => absurd hj (Nat.not_lt_zero j)) h2 (fun p hp => (oq4 p hp)) z3 hL hl

set_option maxHeartbeats 4000000 in
set_option maxRecDepth 100000 in
theorem c_View_count (l : Launch) (D : va_G) (q : Nat → ClassId) (H : Heap) (vb mb : Nat) (og : Option Nat) (srt bk tn wk f0 t0 : Nat) (hv : va_at D CL (vb, .inr (2, [.ref mb, va_rf og, .int (nI srt), .ref bk, .int (nI tn), .ref wk, .int (nI f0), .int (nI t0)])) H) (hft : f0 ≤ t0) : gC l y_View_count (Cond.code y_View_count b_View_count 1 (some .int) :: gWS) (gR 0 0 0 0) D CL (gY q) (fun _ => True) [.ref vb] H (fun v H1 => v = some (.int (nI (t0 - f0))) ∧ H1 = H) 0 0 (fun _ => False) := by
  refine gC.ofW R_View "count" (by decide) rfl rfl ?_
  intro p e s m below meth c hadm X hE hH B hne
  refine g_entry [some (.ref vb)] rfl rfl (Nat.le_of_ble_eq_true rfl) (fun ls hl => ?_)
  refine lv_aload_n X.1.1 X.1.2.1 d_View_count_0 rfl (gl_at hl rfl) ?_
  refine g_get X kc_View hv 7 (by decide) lk_View_71 rfl d_View_count_1 ?_
  refine lv_aload_n X.1.1 X.1.2.1 d_View_count_4 rfl (gl_at hl rfl) ?_
  refine g_get X kc_View hv 6 (by decide) lk_View_56 rfl d_View_count_5 ?_
  refine lv_isub X.1.1 X.1.2.1 d_View_count_8 ?_
  refine g_top (nI (t0 - f0)) (pk_sub (by omega)) ?_
  exact g_iret X B ⟨rfl, rfl⟩ (fun _ h => by cases h) d_View_count_9 (by omega) (by omega)

set_option maxHeartbeats 4000000 in
set_option maxRecDepth 100000 in
theorem c_View_placeRanked (l : Launch) (D : va_G) (q : Nat → ClassId) (H : Heap) (vb mb : Nat) (og : Option Nat) (srt bk tn wk f0 t0 : Nat) (hv : va_at D CL (vb, .inr (2, [.ref mb, va_rf og, .int (nI srt), .ref bk, .int (nI tn), .ref wk, .int (nI f0), .int (nI t0)])) H) (k : Nat) (htn : tn < 2 ^ 31) (hk : f0 + k < t0) : gC l y_View_placeRanked (Cond.code y_View_placeRanked b_View_placeRanked 2 (some .int) :: gWS) (gR 0 0 0 0) D CL (gY q) (fun _ => True) [.ref vb, .int (nI k)] H (fun v H1 => v = some (.int (nI (if tn ≠ 0 then t0 - 1 - k else f0 + k))) ∧ H1 = H) 0 0 (fun _ => False) := by
  refine gC.ofW R_View "placeRanked" (by decide) rfl rfl ?_
  intro p e s m below meth c hadm X hE hH B hne
  refine g_entry [some (.ref vb), some (.int (nI k))] rfl rfl (Nat.le_of_ble_eq_true rfl) (fun ls hl => ?_)
  refine lv_aload_n X.1.1 X.1.2.1 d_View_placeRanked_0 rfl (gl_at hl rfl) ?_
  refine g_get X kc_View hv 4 (by decide) lk_View_30 rfl d_View_placeRanked_1 ?_
  refine gn_eq0 X.1.1 X.1.2.1 tn (by omega) d_View_placeRanked_4 rfl (fun hc4 => ?_) (fun hc4 => ?_)
  · refine lv_aload_n X.1.1 X.1.2.1 d_View_placeRanked_18 rfl (gl_at hl rfl) ?_
    refine g_get X kc_View hv 6 (by decide) lk_View_56 rfl d_View_placeRanked_19 ?_
    refine lv_iload_n X.1.1 X.1.2.1 d_View_placeRanked_22 rfl (gl_at hl rfl) ?_
    refine lv_iadd X.1.1 X.1.2.1 d_View_placeRanked_23 ?_
    refine g_top (nI (f0 + k)) (nI_add _ _) ?_
    exact g_iret X B ⟨by first | rw [if_pos (by assumption)] | rw [if_neg (fun h => h (by assumption))], rfl⟩ (fun _ h => by cases h) d_View_placeRanked_24 (by omega) (by omega)
  · refine lv_aload_n X.1.1 X.1.2.1 d_View_placeRanked_7 rfl (gl_at hl rfl) ?_
    refine g_get X kc_View hv 7 (by decide) lk_View_71 rfl d_View_placeRanked_8 ?_
    refine lv_iconst (v := nI 1) X.1.1 X.1.2.1 d_View_placeRanked_11 (by decide) ?_
    refine lv_isub X.1.1 X.1.2.1 d_View_placeRanked_12 ?_
    refine g_top (nI (t0 - 1)) (pk_sub (by omega)) ?_
    refine lv_iload_n X.1.1 X.1.2.1 d_View_placeRanked_13 rfl (gl_at hl rfl) ?_
    refine lv_isub X.1.1 X.1.2.1 d_View_placeRanked_14 ?_
    refine g_top (nI ((t0 - 1) - k)) (pk_sub (by omega)) ?_
    refine lv_goto X.1.1 X.1.2.1 d_View_placeRanked_15 rfl ?_
    exact g_iret X B ⟨by first | rw [if_pos (by assumption)] | rw [if_neg (fun h => h (by assumption))], rfl⟩ (fun _ h => by cases h) d_View_placeRanked_24 (by omega) (by omega)
