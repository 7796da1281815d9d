/-! the class KeyHallModel, 9: printed by wip/specs/m9.py -/
set_option maxHeartbeats 4000000 in
set_option maxRecDepth 100000 in
/-- freeze -/
theorem c_Model_freeze (l : Launch) (D : va_G) (q : Nat → ClassId) (H : Heap) (d : Nat) (w : Nat → Int32) (ar : Nat → Nat → Int32) (hR : dR D q H d w ar) (c0 : Nat) (org : Nat → Option Nat) (srt : Nat → Nat) (bt : Nat → List Nat) (tn mp : Nat → Nat) (hv : pV w ar c0 org srt bt) (hN : pN c0 org srt tn mp) (kk : Nat → List Nat) (hk : pK ar kk) (n chg : Nat → Nat) (hm : pM ar n chg) (v : Nat) (hvc : v < c0) : gC l y_Model_freeze (Cond.code y_Model_freeze b_Model_freeze 5 (some .int) :: gWS) (gR 6 150 0 0) D CL (gY q) (fun _ => True) [.ref d, .int (nI v)] H (fun v1 H1 => ∃ (pn : Nat) (pg pl : Nat → Nat) (sN tN : Nat) (st : Int32) (rp sq : Nat → Nat) (F G A1 A2 A3 A4 A5 : Nat → Int32), (v1 = some (.int (nI sN)) ∧ k_ps (d_K org srt bt v (64 * mp v) kk (n (mp v))) kk pn pg pl ∧ d_aI (d_K org srt bt v (64 * mp v) kk (n (mp v))) kk pn pg pl (fun _ => True) sN tN A1 A2 A3 A4 A5 rp sq ∧ d_sI pn pl (fun _ => True) A1 st ∧ pn ≤ 576) ∧ dR D q H1 d (upd (upd (upd (upd (upd w 0 (nI 0)) 22 (nI pn)) 26 (nI sN)) 27 (nI tN)) 28 st) (va_up (va_up (va_up (va_up (va_up (va_up (va_up ar 19 F) 20 G) 21 A1) 22 A2) 23 A3) 24 A4) 25 A5) ∧ H1.size = H.size ∧ ∀ p : Nat, (p < d ∨ d + 28 < p) → H1[p]? = H[p]?) 0 0 (fun p => d ≤ p ∧ p ≤ d + 28) := by
  refine gC.ofW R_Model "freeze" (by decide) rfl rfl ?_
  intro p e s m below meth c hadm X hE hH B hne
  refine g_entry [some (.ref d), some (.int (nI v)), none, none, none] rfl rfl (Nat.le_of_ble_eq_true rfl) (fun ls hl => ?_)
  have h12 := hv.2.2.1
  have hmp := (hN v hvc).1
  obtain ⟨hm1a, hm2, hm3⟩ := hm (mp v) hmp
  refine lv_aload_n X.1.1 X.1.2.1 d_Model_freeze_0 rfl (gl_at hl rfl) ?_
  refine lv_iload_n X.1.1 X.1.2.1 d_Model_freeze_1 rfl (gl_at hl rfl) ?_
  have mo1 : va_at D CL (d, .inr (10, [.int (w 0), .ref (d + 1), .int (w 2), .ref (d + 2), .ref (d + 3), .ref (d + 4), .ref (d + 5), .ref (d + 6), .int (w 8), .ref (d + 7), .ref (d + 8), .ref (d + 9), .ref (d + 10), .ref (d + 11), .ref (d + 12), .ref (d + 13), .ref (d + 14), .ref (d + 15), .ref (d + 16), .ref (d + 17), .int (w 20), .ref (d + 18), .int (w 22), .ref (d + 19), .ref (d + 20), .ref (d + 21), .int (w 26), .int (w 27), .int (w 28), .ref (d + 22), .ref (d + 23), .ref (d + 24), .ref (d + 25), .ref (d + 26), .int (w 34), .ref (d + 27), .ref (d + 28), .int (w 37), .int (w 38)])) H := hR.1
  refine g_cv (A := (fun p => d ≤ p ∧ p ≤ d + 28)) X gWS_good mw_Model_122 kc_Model mo1 (c_Model_isView l D q H d w ar hR c0 hv.1 (nI v)) (fun _ _ _ => trivial) gBlind.tt rfl rfl hl.1 (Nat.le_of_ble_eq_true rfl) rfl rfl ⟨by decide, by decide⟩ ⟨by decide, by decide⟩ d_Model_freeze_2 (fun _ h => h.elim) (fun _ h => by cases h) (fun v2 H3 locs hp4 hL => ?_)
  obtain ⟨rfl, hHe⟩ := hp4
  rw [hHe]
  refine lv_if_ne X.1.1 X.1.2.1 d_Model_freeze_5 rfl (fun hc5 => ?_) (fun hc5 => ?_)
  · replace hc5 := gz_t hc5
    refine lv_aload_n X.1.1 X.1.2.1 d_Model_freeze_14 rfl (gl_at hl rfl) ?_
    refine lv_iconst (v := nI 0) X.1.1 X.1.2.1 d_Model_freeze_15 (by decide) ?_
    refine g_put (A := (fun p => d ≤ p ∧ p ≤ d + 28)) X kc_Model mo1 0 (by decide) lk_Model_99 rfl rfl rfl (Nat.le_of_ble_eq_true rfl) d_Model_freeze_16 ⟨by omega, by omega⟩ hL (fun H5 locs h6 z7 oq8 hL => ?_)
    have hR9 : dR D q H5 d (upd w 0 (nI 0)) ar := hR.putO h6 oq8
    refine lv_aload_n X.1.1 X.1.2.1 d_Model_freeze_19 rfl (gl_at hl rfl) ?_
    refine lv_iconst (v := nI 0) X.1.1 X.1.2.1 d_Model_freeze_20 (by decide) ?_
    have mo10 : va_at D CL (d, .inr (10, [.int (nI 0), .ref (d + 1), .int (w 2), .ref (d + 2), .ref (d + 3), .ref (d + 4), .ref (d + 5), .ref (d + 6), .int (w 8), .ref (d + 7), .ref (d + 8), .ref (d + 9), .ref (d + 10), .ref (d + 11), .ref (d + 12), .ref (d + 13), .ref (d + 14), .ref (d + 15), .ref (d + 16), .ref (d + 17), .int (w 20), .ref (d + 18), .int (w 22), .ref (d + 19), .ref (d + 20), .ref (d + 21), .int (w 26), .int (w 27), .int (w 28), .ref (d + 22), .ref (d + 23), .ref (d + 24), .ref (d + 25), .ref (d + 26), .int (w 34), .ref (d + 27), .ref (d + 28), .int (w 37), .int (w 38)])) H5 := hR9.1
    refine g_put (A := (fun p => d ≤ p ∧ p ≤ d + 28)) X kc_Model mo10 22 (by decide) lk_Model_193 rfl rfl rfl (Nat.le_of_ble_eq_true rfl) d_Model_freeze_21 ⟨by omega, by omega⟩ hL (fun H11 locs h12 z13 oq14 hL => ?_)
    have hR15 : dR D q H11 d (upd (upd w 0 (nI 0)) 22 (nI 0)) ar := hR9.putO h12 oq14
    refine lv_aload_n X.1.1 X.1.2.1 d_Model_freeze_24 rfl (gl_at hl rfl) ?_
    refine lv_iconst (v := nI 0) X.1.1 X.1.2.1 d_Model_freeze_25 (by decide) ?_
    have mo16 : va_at D CL (d, .inr (10, [.int (nI 0), .ref (d + 1), .int (w 2), .ref (d + 2), .ref (d + 3), .ref (d + 4), .ref (d + 5), .ref (d + 6), .int (w 8), .ref (d + 7), .ref (d + 8), .ref (d + 9), .ref (d + 10), .ref (d + 11), .ref (d + 12), .ref (d + 13), .ref (d + 14), .ref (d + 15), .ref (d + 16), .ref (d + 17), .int (w 20), .ref (d + 18), .int (nI 0), .ref (d + 19), .ref (d + 20), .ref (d + 21), .int (w 26), .int (w 27), .int (w 28), .ref (d + 22), .ref (d + 23), .ref (d + 24), .ref (d + 25), .ref (d + 26), .int (w 34), .ref (d + 27), .ref (d + 28), .int (w 37), .int (w 38)])) H11 := hR15.1
    refine g_put (A := (fun p => d ≤ p ∧ p ≤ d + 28)) X kc_Model mo16 26 (by decide) lk_Model_196 rfl rfl rfl (Nat.le_of_ble_eq_true rfl) d_Model_freeze_26 ⟨by omega, by omega⟩ hL (fun H17 locs h18 z19 oq20 hL => ?_)
    have hR21 : dR D q H17 d (upd (upd (upd w 0 (nI 0)) 22 (nI 0)) 26 (nI 0)) ar := hR15.putO h18 oq20
    refine lv_aload_n X.1.1 X.1.2.1 d_Model_freeze_29 rfl (gl_at hl rfl) ?_
    refine lv_iconst (v := nI 0) X.1.1 X.1.2.1 d_Model_freeze_30 (by decide) ?_
    have mo22 : va_at D CL (d, .inr (10, [.int (nI 0), .ref (d + 1), .int (w 2), .ref (d + 2), .ref (d + 3), .ref (d + 4), .ref (d + 5), .ref (d + 6), .int (w 8), .ref (d + 7), .ref (d + 8), .ref (d + 9), .ref (d + 10), .ref (d + 11), .ref (d + 12), .ref (d + 13), .ref (d + 14), .ref (d + 15), .ref (d + 16), .ref (d + 17), .int (w 20), .ref (d + 18), .int (nI 0), .ref (d + 19), .ref (d + 20), .ref (d + 21), .int (nI 0), .int (w 27), .int (w 28), .ref (d + 22), .ref (d + 23), .ref (d + 24), .ref (d + 25), .ref (d + 26), .int (w 34), .ref (d + 27), .ref (d + 28), .int (w 37), .int (w 38)])) H17 := hR21.1
    refine g_put (A := (fun p => d ≤ p ∧ p ≤ d + 28)) X kc_Model mo22 27 (by decide) lk_Model_199 rfl rfl rfl (Nat.le_of_ble_eq_true rfl) d_Model_freeze_31 ⟨by omega, by omega⟩ hL (fun H23 locs h24 z25 oq26 hL => ?_)
    have hR27 : dR D q H23 d (upd (upd (upd (upd w 0 (nI 0)) 22 (nI 0)) 26 (nI 0)) 27 (nI 0)) ar := hR21.putO h24 oq26
    refine lv_aload_n X.1.1 X.1.2.1 d_Model_freeze_34 rfl (gl_at hl rfl) ?_
    refine lv_iconst (v := (-1)) X.1.1 X.1.2.1 d_Model_freeze_35 (by decide) ?_
    have mo28 : va_at D CL (d, .inr (10, [.int (nI 0), .ref (d + 1), .int (w 2), .ref (d + 2), .ref (d + 3), .ref (d + 4), .ref (d + 5), .ref (d + 6), .int (w 8), .ref (d + 7), .ref (d + 8), .ref (d + 9), .ref (d + 10), .ref (d + 11), .ref (d + 12), .ref (d + 13), .ref (d + 14), .ref (d + 15), .ref (d + 16), .ref (d + 17), .int (w 20), .ref (d + 18), .int (nI 0), .ref (d + 19), .ref (d + 20), .ref (d + 21), .int (nI 0), .int (nI 0), .int (w 28), .ref (d + 22), .ref (d + 23), .ref (d + 24), .ref (d + 25), .ref (d + 26), .int (w 34), .ref (d + 27), .ref (d + 28), .int (w 37), .int (w 38)])) H23 := hR27.1
    refine g_put (A := (fun p => d ≤ p ∧ p ≤ d + 28)) X kc_Model mo28 28 (by decide) lk_Model_202 rfl rfl rfl (Nat.le_of_ble_eq_true rfl) d_Model_freeze_36 ⟨by omega, by omega⟩ hL (fun H29 locs h30 z31 oq32 hL => ?_)
    have hR33 : dR D q H29 d (upd (upd (upd (upd (upd w 0 (nI 0)) 22 (nI 0)) 26 (nI 0)) 27 (nI 0)) 28 (-1)) ar := hR27.putO h30 oq32
    refine lv_aload_n X.1.1 X.1.2.1 d_Model_freeze_39 rfl (gl_at hl rfl) ?_
    refine lv_iload_n X.1.1 X.1.2.1 d_Model_freeze_40 rfl (gl_at hl rfl) ?_
    have mo34 : va_at D CL (d, .inr (10, [.int (nI 0), .ref (d + 1), .int (w 2), .ref (d + 2), .ref (d + 3), .ref (d + 4), .ref (d + 5), .ref (d + 6), .int (w 8), .ref (d + 7), .ref (d + 8), .ref (d + 9), .ref (d + 10), .ref (d + 11), .ref (d + 12), .ref (d + 13), .ref (d + 14), .ref (d + 15), .ref (d + 16), .ref (d + 17), .int (w 20), .ref (d + 18), .int (nI 0), .ref (d + 19), .ref (d + 20), .ref (d + 21), .int (nI 0), .int (nI 0), .int (-1), .ref (d + 22), .ref (d + 23), .ref (d + 24), .ref (d + 25), .ref (d + 26), .int (w 34), .ref (d + 27), .ref (d + 28), .int (w 37), .int (w 38)])) H29 := hR33.1
    refine g_cv (A := (fun p => d ≤ p ∧ p ≤ d + 28)) X gWS_good mw_Model_114 kc_Model mo34 (c_Model_mapOf l D q H29 d (upd (upd (upd (upd (upd w 0 (nI 0)) 22 (nI 0)) 26 (nI 0)) 27 (nI 0)) 28 (-1)) ar hR33 c0 org srt bt tn mp hv hN v hvc) (fun _ _ _ => trivial) gBlind.tt rfl rfl hl.1 (Nat.le_of_ble_eq_true rfl) rfl rfl ⟨by decide, by decide⟩ ⟨by decide, by decide⟩ d_Model_freeze_41 (fun _ h => h.elim) hL (fun v35 H36 locs hp37 hL => ?_)
    obtain ⟨rfl, hHe⟩ := hp37
    rw [hHe]
    refine g_istn X.1.1 X.1.2.1 hl 2 d_Model_freeze_44 rfl (Nat.le_of_ble_eq_true rfl) rfl (fun ls hl => ?_)
    refine lv_iconst (v := nI 0) X.1.1 X.1.2.1 d_Model_freeze_45 (by decide) ?_
    refine g_istn X.1.1 X.1.2.1 hl 3 d_Model_freeze_46 rfl (Nat.le_of_ble_eq_true rfl) rfl (fun ls hl => ?_)
    have loop47 : ∀ (fu : Nat) (k : Nat) (pg : Nat → Nat) (pl : Nat → Nat) (F : Nat → Int32) (G : Nat → Int32) (pn : Nat) (Hn : Heap) (locs : List Loc) (ls : Array Slot), n (mp v) - k < fu → (k ≤ n (mp v)) → (pn ≤ 9 * k) → (∀ x, x < pn → F x = nI (pg x) ∧ G x = nI (pl x) ∧ pg x < 192 ∧ pl x ≤ (kk (pg x)).length) → (d_pp (d_K org srt bt v (64 * mp v) kk k) kk pn pg pl) → (dR D q Hn d (upd (upd (upd (upd (upd w 0 (nI 0)) 22 (nI pn)) 26 (nI 0)) 27 (nI 0)) 28 (-1)) (va_up (va_up ar 19 F) 20 G)) → (Hn.size = H.size) → (∀ p : Nat, (p < d ∨ d + 28 < p) → Hn[p]? = H[p]?) → (∀ x ∈ locs, (fun p => d ≤ p ∧ p ≤ d + 28) x.base) → gl ls [some (.ref d), some (.int (nI v)), some (.int (nI (mp v))), some (.int (nI k)), none] → W p l e (gR 6 150 0 0) s m ([.ref d, .int (nI v)] : List Value).toArray below meth c Hn locs 0 0 (gQ below ([.ref d, .int (nI v)] : List Value).toArray s (fun v1 H1 => ∃ (pn : Nat) (pg pl : Nat → Nat) (sN tN : Nat) (st : Int32) (rp sq : Nat → Nat) (F G A1 A2 A3 A4 A5 : Nat → Int32), (v1 = some (.int (nI sN)) ∧ k_ps (d_K org srt bt v (64 * mp v) kk (n (mp v))) kk pn pg pl ∧ d_aI (d_K org srt bt v (64 * mp v) kk (n (mp v))) kk pn pg pl (fun _ => True) sN tN A1 A2 A3 A4 A5 rp sq ∧ d_sI pn pl (fun _ => True) A1 st ∧ pn ≤ 576) ∧ dR D q H1 d (upd (upd (upd (upd (upd w 0 (nI 0)) 22 (nI pn)) 26 (nI sN)) 27 (nI tN)) 28 st) (va_up (va_up (va_up (va_up (va_up (va_up (va_up ar 19 F) 20 G) 21 A1) 22 A2) 23 A3) 24 A4) 25 A5) ∧ H1.size = H.size ∧ ∀ p : Nat, (p < d ∨ d + 28 < p) → H1[p]? = H[p]?) 0 0 (fun p => d ≤ p ∧ p ≤ d + 28)) (F0 m 47 ls []) := by
      intro fu
      induction fu with
      | zero => intro k pg pl F G pn Hn locs ls hmu; omega
      | succ fu ih47 =>
        intro k pg pl F G pn Hn locs ls hmu47 hi47_0 hi47_1 hi47_2 hi47_3 hRl hzl frl hL hl
        refine lv_iload_n X.1.1 X.1.2.1 d_Model_freeze_47 rfl (gl_at hl rfl) ?_
        refine lv_aload_n X.1.1 X.1.2.1 d_Model_freeze_48 rfl (gl_at hl rfl) ?_
        have mo38 : va_at D CL (d, .inr (10, [.int (nI 0), .ref (d + 1), .int (w 2), .ref (d + 2), .ref (d + 3), .ref (d + 4), .ref (d + 5), .ref (d + 6), .int (w 8), .ref (d + 7), .ref (d + 8), .ref (d + 9), .ref (d + 10), .ref (d + 11), .ref (d + 12), .ref (d + 13), .ref (d + 14), .ref (d + 15), .ref (d + 16), .ref (d + 17), .int (w 20), .ref (d + 18), .int (nI pn), .ref (d + 19), .ref (d + 20), .ref (d + 21), .int (nI 0), .int (nI 0), .int (-1), .ref (d + 22), .ref (d + 23), .ref (d + 24), .ref (d + 25), .ref (d + 26), .int (w 34), .ref (d + 27), .ref (d + 28), .int (w 37), .int (w 38)])) Hn := hRl.1
        refine g_get X kc_Model mo38 3 (by decide) lk_Model_13 rfl d_Model_freeze_49 ?_
        refine lv_iload_n X.1.1 X.1.2.1 d_Model_freeze_52 rfl (gl_at hl rfl) ?_
        have ma39 : va_at D CL (d + 2, .inl (q 0, 3, .inl (ar 2))) Hn := hRl.a2
        refine g_iald X 0 ma39 rfl (mp v) (by omega) (by omega) d_Model_freeze_53 ?_
        refine g_top (nI (n (mp v))) hm1a ?_
        refine gn_ge X.1.1 X.1.2.1 k (n (mp v)) (by omega) (by omega) d_Model_freeze_54 rfl (fun hc54 => ?_) (fun hc54 => ?_)
        · refine lv_bipush (v := nI 8) X.1.1 X.1.2.1 d_Model_freeze_83 (by decide) ?_
          refine g_istn X.1.1 X.1.2.1 hl 3 d_Model_freeze_85 rfl (Nat.le_of_ble_eq_true rfl) rfl (fun ls hl => ?_)
          rw [show nI 8 = nI 9 - 1 from by decide] at hl
          have hPS : k_ps (d_K org srt bt v (64 * mp v) kk (n (mp v))) kk pn pg pl := d_pp.ps (by rw [show n (mp v) = k by omega]; exact hi47_3) (fun y hy => ⟨(hi47_2 y hy).2.2.2, (hk (pg y) (hi47_2 y hy).2.2.1).2.2.2⟩)
          have hqQ := hi47_2
          have loop86 : ∀ (fu : Nat) (kx : Nat) (rp : Nat → Nat) (sq : Nat → Nat) (A1 : Nat → Int32) (A2 : Nat → Int32) (A3 : Nat → Int32) (A4 : Nat → Int32) (A5 : Nat → Int32) (sN : Nat) (tN : Nat) (st : Int32) (Hn : Heap) (locs : List Loc) (ls : Array Slot), kx < fu → (kx ≤ 9) → (sN ≤ pn) → (d_aI (d_K org srt bt v (64 * mp v) kk (n (mp v))) kk pn pg pl (fun y => kx ≤ pl y) sN tN A1 A2 A3 A4 A5 rp sq) → (d_sI pn pl (fun y => kx ≤ pl y) A1 st) → (dR D q Hn d (upd (upd (upd (upd (upd w 0 (nI 0)) 22 (nI pn)) 26 (nI sN)) 27 (nI tN)) 28 st) (va_up (va_up (va_up (va_up (va_up (va_up (va_up ar 19 F) 20 G) 21 A1) 22 A2) 23 A3) 24 A4) 25 A5)) → (Hn.size = H.size) → (∀ p : Nat, (p < d ∨ d + 28 < p) → Hn[p]? = H[p]?) → (∀ x ∈ locs, (fun p => d ≤ p ∧ p ≤ d + 28) x.base) → gl ls [some (.ref d), some (.int (nI v)), some (.int (nI (mp v))), some (.int (nI kx - 1)), none] → W p l e (gR 6 150 0 0) s m ([.ref d, .int (nI v)] : List Value).toArray below meth c Hn locs 0 0 (gQ below ([.ref d, .int (nI v)] : List Value).toArray s (fun v1 H1 => ∃ (pn : Nat) (pg pl : Nat → Nat) (sN tN : Nat) (st : Int32) (rp sq : Nat → Nat) (F G A1 A2 A3 A4 A5 : Nat → Int32), (v1 = some (.int (nI sN)) ∧ k_ps (d_K org srt bt v (64 * mp v) kk (n (mp v))) kk pn pg pl ∧ d_aI (d_K org srt bt v (64 * mp v) kk (n (mp v))) kk pn pg pl (fun _ => True) sN tN A1 A2 A3 A4 A5 rp sq ∧ d_sI pn pl (fun _ => True) A1 st ∧ pn ≤ 576) ∧ dR D q H1 d (upd (upd (upd (upd (upd w 0 (nI 0)) 22 (nI pn)) 26 (nI sN)) 27 (nI tN)) 28 st) (va_up (va_up (va_up (va_up (va_up (va_up (va_up ar 19 F) 20 G) 21 A1) 22 A2) 23 A3) 24 A4) 25 A5) ∧ H1.size = H.size ∧ ∀ p : Nat, (p < d ∨ d + 28 < p) → H1[p]? = H[p]?) 0 0 (fun p => d ≤ p ∧ p ≤ d + 28)) (F0 m 86 ls []) := by
            intro fu
            induction fu with
            | zero => intro kx rp sq A1 A2 A3 A4 A5 sN tN st Hn locs ls hmu; omega
            | succ fu ih86 =>
              intro kx rp sq A1 A2 A3 A4 A5 sN tN st Hn locs ls hmu86 hi86_0 hi86_1 hi86_2 hi86_3 hRl hzl frl hL hl
              refine lv_iload_n X.1.1 X.1.2.1 d_Model_freeze_86 rfl (gl_at hl rfl) ?_
              refine lv_if_lt X.1.1 X.1.2.1 d_Model_freeze_87 rfl (fun hc87 => ?_) (fun hc87 => ?_)
              · have e9 := gs_lt (by omega) hc87
                subst e9
                refine lv_aload_n X.1.1 X.1.2.1 d_Model_freeze_132 rfl (gl_at hl rfl) ?_
                have mo40 : va_at D CL (d, .inr (10, [.int (nI 0), .ref (d + 1), .int (w 2), .ref (d + 2), .ref (d + 3), .ref (d + 4), .ref (d + 5), .ref (d + 6), .int (w 8), .ref (d + 7), .ref (d + 8), .ref (d + 9), .ref (d + 10), .ref (d + 11), .ref (d + 12), .ref (d + 13), .ref (d + 14), .ref (d + 15), .ref (d + 16), .ref (d + 17), .int (w 20), .ref (d + 18), .int (nI pn), .ref (d + 19), .ref (d + 20), .ref (d + 21), .int (nI sN), .int (nI tN), .int st, .ref (d + 22), .ref (d + 23), .ref (d + 24), .ref (d + 25), .ref (d + 26), .int (w 34), .ref (d + 27), .ref (d + 28), .int (w 37), .int (w 38)])) Hn := hRl.1
                refine g_get X kc_Model mo40 26 (by decide) lk_Model_196 rfl d_Model_freeze_133 ?_
                exact g_iret X B ⟨pn, pg, pl, sN, tN, st, rp, sq, F, G, A1, A2, A3, A4, A5, ⟨rfl, hPS, hi86_2.prs (fun y hy => by simp), hi86_3.prs (fun y hy => by simp), by omega⟩, hRl, hzl, fun p hp => (frl p (by omega))⟩ hL d_Model_freeze_136 (by omega) (by omega)
              · have hk0 := gs_nlt hc87
                rw [gs_pos hk0] at hl
                refine lv_iconst (v := nI 0) X.1.1 X.1.2.1 d_Model_freeze_90 (by decide) ?_
                refine g_ist X.1.1 X.1.2.1 hl 4 d_Model_freeze_91 (Nat.le_of_ble_eq_true rfl) rfl (fun ls hl => ?_)
                have loop93 : ∀ (fu : Nat) (x0 : Nat) (rp1 : Nat → Nat) (sq1 : Nat → Nat) (B1 : Nat → Int32) (B2 : Nat → Int32) (B3 : Nat → Int32) (B4 : Nat → Int32) (B5 : Nat → Int32) (sM : Nat) (tM : Nat) (su : Int32) (Hn : Heap) (locs : List Loc) (ls : Array Slot), pn - x0 < fu → (x0 ≤ pn) → (sM ≤ pn) → (d_aI (d_K org srt bt v (64 * mp v) kk (n (mp v))) kk pn pg pl (fun y => kx ≤ pl y ∨ (pl y = kx - 1 ∧ y < x0)) sM tM B1 B2 B3 B4 B5 rp1 sq1) → (d_sI pn pl (fun y => kx ≤ pl y ∨ (pl y = kx - 1 ∧ y < x0)) B1 su) → (dR D q Hn d (upd (upd (upd (upd (upd w 0 (nI 0)) 22 (nI pn)) 26 (nI sM)) 27 (nI tM)) 28 su) (va_up (va_up (va_up (va_up (va_up (va_up (va_up ar 19 F) 20 G) 21 B1) 22 B2) 23 B3) 24 B4) 25 B5)) → (Hn.size = H.size) → (∀ p : Nat, (p < d ∨ d + 28 < p) → Hn[p]? = H[p]?) → (∀ x ∈ locs, (fun p => d ≤ p ∧ p ≤ d + 28) x.base) → gl ls [some (.ref d), some (.int (nI v)), some (.int (nI (mp v))), some (.int (nI (kx - 1))), some (.int (nI x0))] → W p l e (gR 6 150 0 0) s m ([.ref d, .int (nI v)] : List Value).toArray below meth c Hn locs 0 0 (gQ below ([.ref d, .int (nI v)] : List Value).toArray s (fun v1 H1 => ∃ (pn : Nat) (pg pl : Nat → Nat) (sN tN : Nat) (st : Int32) (rp sq : Nat → Nat) (F G A1 A2 A3 A4 A5 : Nat → Int32), (v1 = some (.int (nI sN)) ∧ k_ps (d_K org srt bt v (64 * mp v) kk (n (mp v))) kk pn pg pl ∧ d_aI (d_K org srt bt v (64 * mp v) kk (n (mp v))) kk pn pg pl (fun _ => True) sN tN A1 A2 A3 A4 A5 rp sq ∧ d_sI pn pl (fun _ => True) A1 st ∧ pn ≤ 576) ∧ dR D q H1 d (upd (upd (upd (upd (upd w 0 (nI 0)) 22 (nI pn)) 26 (nI sN)) 27 (nI tN)) 28 st) (va_up (va_up (va_up (va_up (va_up (va_up (va_up ar 19 F) 20 G) 21 A1) 22 A2) 23 A3) 24 A4) 25 A5) ∧ H1.size = H.size ∧ ∀ p : Nat, (p < d ∨ d + 28 < p) → H1[p]? = H[p]?) 0 0 (fun p => d ≤ p ∧ p ≤ d + 28)) (F0 m 93 ls []) := by
                  intro fu
                  induction fu with
                  | zero => intro x0 rp1 sq1 B1 B2 B3 B4 B5 sM tM su Hn locs ls hmu; omega
                  | succ fu ih93 =>
                    intro x0 rp1 sq1 B1 B2 B3 B4 B5 sM tM su Hn locs ls hmu93 hi93_0 hi93_1 hi93_2 hi93_3 hRl hzl frl hL hl
                    refine lv_iload X.1.1 X.1.2.1 d_Model_freeze_93 (gl_at hl rfl) ?_
                    refine lv_aload_n X.1.1 X.1.2.1 d_Model_freeze_95 rfl (gl_at hl rfl) ?_
                    have mo41 : va_at D CL (d, .inr (10, [.int (nI 0), .ref (d + 1), .int (w 2), .ref (d + 2), .ref (d + 3), .ref (d + 4), .ref (d + 5), .ref (d + 6), .int (w 8), .ref (d + 7), .ref (d + 8), .ref (d + 9), .ref (d + 10), .ref (d + 11), .ref (d + 12), .ref (d + 13), .ref (d + 14), .ref (d + 15), .ref (d + 16), .ref (d + 17), .int (w 20), .ref (d + 18), .int (nI pn), .ref (d + 19), .ref (d + 20), .ref (d + 21), .int (nI sM), .int (nI tM), .int su, .ref (d + 22), .ref (d + 23), .ref (d + 24), .ref (d + 25), .ref (d + 26), .int (w 34), .ref (d + 27), .ref (d + 28), .int (w 37), .int (w 38)])) Hn := hRl.1
                    refine g_get X kc_Model mo41 22 (by decide) lk_Model_193 rfl d_Model_freeze_96 ?_
                    refine gn_ge X.1.1 X.1.2.1 x0 pn (by omega) (by omega) d_Model_freeze_99 rfl (fun hc99 => ?_) (fun hc99 => ?_)
                    · refine g_iinc X.1.1 X.1.2.1 (nI (kx - 1) - 1) hl 3 d_Model_freeze_126 rfl (gs_inc _) rfl (fun ls hl => ?_)
                      refine lv_goto X.1.1 X.1.2.1 d_Model_freeze_129 rfl ?_
                      exact ih86 (kx - 1) rp1 sq1 B1 B2 B3 B4 B5 sM tM su Hn locs ls (by omega) (by omega) (by omega) (hi93_2.prs (fun y hy => by omega)) (hi93_3.prs (fun y hy => by omega)) hRl hzl (fun p hp => (frl p (by omega))) hL (gl_forget hl 4)
                    · refine lv_aload_n X.1.1 X.1.2.1 d_Model_freeze_102 rfl (gl_at hl rfl) ?_
                      refine g_get X kc_Model mo41 24 (by decide) lk_Model_72 rfl d_Model_freeze_103 ?_
                      refine lv_iload X.1.1 X.1.2.1 d_Model_freeze_106 (gl_at hl rfl) ?_
                      have ma42 : va_at D CL (d + 20, .inl (q 0, 580, .inl G)) Hn := hRl.a20
                      refine g_iald X 0 ma42 rfl x0 (by omega) (by omega) d_Model_freeze_108 ?_
                      have hpl8 : pl x0 ≤ 8 := by
                        have e1 := hqQ x0 (by omega)
                        have e2 := (hk (pg x0) e1.2.2.1).2.2.1
                        omega
                      refine g_top (nI (pl x0)) (hqQ x0 (by omega)).2.1 ?_
                      refine lv_iload_n X.1.1 X.1.2.1 d_Model_freeze_109 rfl (gl_at hl rfl) ?_
                      refine gn_ne X.1.1 X.1.2.1 (pl x0) (kx - 1) (by omega) (by omega) d_Model_freeze_110 rfl (fun hc110 => ?_) (fun hc110 => ?_)
                      · refine g_iinc X.1.1 X.1.2.1 (nI (x0 + 1)) hl 4 d_Model_freeze_120 rfl (nI_1 _) rfl (fun ls hl => ?_)
                        refine lv_goto X.1.1 X.1.2.1 d_Model_freeze_123 rfl ?_
                        exact ih93 (x0 + 1) rp1 sq1 B1 B2 B3 B4 B5 sM tM su Hn locs ls (by omega) (by omega) (by omega) (hi93_2.prs (fun y hy => by
                          by_cases e : y = x0
                          · subst e; omega
                          · omega)) (hi93_3.prs (fun y hy => by
                          by_cases e : y = x0
                          · subst e; omega
                          · omega)) hRl hzl (fun p hp => (frl p (by omega))) hL hl
                      · refine lv_aload_n X.1.1 X.1.2.1 d_Model_freeze_113 rfl (gl_at hl rfl) ?_
                        refine lv_iload_n X.1.1 X.1.2.1 d_Model_freeze_114 rfl (gl_at hl rfl) ?_
                        refine lv_iload X.1.1 X.1.2.1 d_Model_freeze_115 (gl_at hl rfl) ?_
                        have hx0 : x0 < pn := by omega
                        have hstp := hi93_2.steps hPS hx0 (show ¬ (kx ≤ pl x0 ∨ (pl x0 = kx - 1 ∧ x0 < x0)) by omega)
                        refine g_cv (A := (fun p => d ≤ p ∧ p ≤ d + 28)) X gWS_good mw_Model_208 kc_Model mo41 (c_Model_state l D q Hn d (upd (upd (upd (upd (upd w 0 (nI 0)) 22 (nI pn)) 26 (nI sM)) 27 (nI tM)) 28 su) (va_up (va_up (va_up (va_up (va_up (va_up (va_up ar 19 F) 20 G) 21 B1) 22 B2) 23 B3) 24 B4) 25 B5) hRl c0 org srt bt tn mp hv hN kk hk n chg hm pn pg pl ⟨rfl, by omega, hqQ⟩ tM rfl (by omega) v hvc sM rfl (by omega) x0 hx0 (by omega)) (fun _ _ _ => trivial) gBlind.tt rfl rfl hl.1 (Nat.le_of_ble_eq_true rfl) rfl rfl ⟨by decide, by decide⟩ ⟨by decide, by decide⟩ d_Model_freeze_117 (fun _ h => h) hL (fun v43 H44 locs hp45 hL => ?_)
                        obtain ⟨⟨rfl, hor⟩, hz0, fr0⟩ := hp45
                        have hchd : ∀ y, y < pn → d_fo kk pg pl x0 y = true → (kx ≤ pl y ∨ (pl y = kx - 1 ∧ y < x0)) := fun y hy hf => Or.inl (by have := ((d_fo_iff hPS hx0 hy).mp hf).2; omega)
                        have hupp : ∀ s y, s < sM → y < pn → d_fo kk pg pl (rp1 s) y = true → (kx ≤ pl y ∨ (pl y = kx - 1 ∧ y < x0)) := fun s y h1 h2 hf => Or.inl (by
                          have e1 := (hi93_2.1 s h1).1
                          have e2 := (hi93_2.1 s h1).2.1
                          have e3 := ((d_fo_iff hPS e1 h2).mp hf).2
                          omega)
                        have hpx0 : ¬ (kx ≤ pl x0 ∨ (pl x0 = kx - 1 ∧ x0 < x0)) := by omega
                        have hprx : ∀ y, y < pn → ((kx ≤ pl y ∨ (pl y = kx - 1 ∧ y < x0 + 1)) ↔ (kx ≤ pl y ∨ (pl y = kx - 1 ∧ y < x0)) ∨ y = x0) := fun y hy => by
                          by_cases e : y = x0
                          · subst e; omega
                          · omega
                        have hf1 : (d_K org srt bt v (64 * mp v) kk (n (mp v))) (d_pu kk pg pl x0) → nI (if d_ea org srt bt v (64 * mp v) kk (d_pu kk pg pl x0) (n (mp v)) = true then 1 else 0) = nI 1 := fun h9 => by rw [if_pos (d_ea_iff.mpr h9)]
                        have hf0 : ¬ (d_K org srt bt v (64 * mp v) kk (n (mp v))) (d_pu kk pg pl x0) → nI (if d_ea org srt bt v (64 * mp v) kk (d_pu kk pg pl x0) (n (mp v)) = true then 1 else 0) = nI 0 := fun h9 => by rw [if_neg (fun h8 => h9 (d_ea_iff.mp h8))]
                        rcases hor with ⟨r0, hr0, hmt, hp9⟩ | ⟨F2, G2, E2, hnm, hsx, hp9⟩
                        · have hke := (hi93_2.mt hPS (by omega) hx0 hr0 hchd hupp hf1 hf0).mp hmt
                          have hAI := hi93_2.old hr0 hpx0 hke hupp hprx
                          have hSI := hi93_3.step hPS hx0 hpx0 hprx (nI r0)
                          have hp8 := And.intro hp9 (And.intro hz0 fr0)
                          obtain ⟨hR46, z47, fr48⟩ := hp8
                          replace hR46 : dR D q H44 d (upd (upd (upd (upd (upd w 0 (nI 0)) 22 (nI pn)) 26 (nI sM)) 27 (nI tM)) 28 (d_st (pl x0) (nI r0) su)) (va_up (va_up (va_up (va_up (va_up (va_up (va_up ar 19 F) 20 G) 21 (upd B1 x0 (nI r0))) 22 B2) 23 B3) 24 B4) 25 B5) := hR46.as (fun j => by first | rfl | (simp only [upd]; (repeat' split) <;> first | rfl | omega)) (fun j => by first | rfl | (simp only [va_up]; (repeat' split) <;> first | rfl | omega))
                          refine g_iinc X.1.1 X.1.2.1 (nI (x0 + 1)) hl 4 d_Model_freeze_120 rfl (nI_1 _) rfl (fun ls hl => ?_)
                          refine lv_goto X.1.1 X.1.2.1 d_Model_freeze_123 rfl ?_
                          exact ih93 (x0 + 1) rp1 sq1 (upd B1 x0 (nI r0)) B2 B3 B4 B5 sM tM (d_st (pl x0) (nI r0) su) H44 locs ls (by omega) (by omega) (by omega) hAI hSI hR46 (z47.trans hzl) (fun p hp => ((fr48 p (by omega)).trans (frl p (by omega)))) hL hl
                        · have hAI := hi93_2.new hPS hx0 hpx0 (fun s1 h1 h2 => hnm s1 h1 ((hi93_2.mt hPS (by omega) hx0 h1 hchd hupp hf1 hf0).mpr h2)) hchd hupp hf1 hf0 hprx hsx
                          have hSI := hi93_3.step hPS hx0 hpx0 hprx (nI sM)
                          have hrm := hAI.room (by omega)
                          have hp8 := And.intro hp9 (And.intro hz0 fr0)
                          obtain ⟨hR49, z50, fr51⟩ := hp8
                          replace hR49 : dR D q H44 d (upd (upd (upd (upd (upd w 0 (nI 0)) 22 (nI pn)) 26 (nI (sM + 1))) 27 (nI (tM + v_cnt (d_fo kk pg pl x0) 0 pn))) 28 (d_st (pl x0) (nI sM) su)) (va_up (va_up (va_up (va_up (va_up (va_up (va_up ar 19 F) 20 G) 21 (upd B1 x0 (nI sM))) 22 (upd B2 sM (nI (if d_ea org srt bt v (64 * mp v) kk (d_pu kk pg pl x0) (n (mp v)) = true then 1 else 0)))) 23 F2) 24 G2) 25 E2) := hR49.as (fun j => by first | rfl | (simp only [upd]; (repeat' split) <;> first | rfl | omega)) (fun j => by first | rfl | (simp only [va_up]; (repeat' split) <;> first | rfl | omega))
                          refine g_iinc X.1.1 X.1.2.1 (nI (x0 + 1)) hl 4 d_Model_freeze_120 rfl (nI_1 _) rfl (fun ls hl => ?_)
                          refine lv_goto X.1.1 X.1.2.1 d_Model_freeze_123 rfl ?_
                          exact ih93 (x0 + 1) (va_up rp1 sM x0) (d_sqn sq1 (d_fo kk pg pl x0) tM pn) (upd B1 x0 (nI sM)) (upd B2 sM (nI (if d_ea org srt bt v (64 * mp v) kk (d_pu kk pg pl x0) (n (mp v)) = true then 1 else 0))) F2 G2 E2 (sM + 1) (tM + v_cnt (d_fo kk pg pl x0) 0 pn) (d_st (pl x0) (nI sM) su) H44 locs ls (by omega) (by omega) (by omega) hAI hSI hR49 (z50.trans hzl) (fun p hp => ((fr51 p (by omega)).trans (frl p (by omega)))) hL hl
                exact loop93 _ 0 rp sq A1 A2 A3 A4 A5 sN tN st Hn locs ls (Nat.lt_succ_self _) (Nat.zero_le _) hi86_1 (hi86_2.prs (fun y hy => by omega)) (hi86_3.prs (fun y hy => by omega)) hRl hzl (fun p hp => (frl p (by omega))) hL hl
          exact loop86 _ 9 (fun _ => 0) (fun _ => 0) (ar 21) (ar 22) (ar 23) (ar 24) (ar 25) 0 0 (-1) Hn locs ls (Nat.lt_succ_self _) (by omega) (Nat.zero_le _) (d_aI.zero (fun y hy => by have e1 := hqQ y hy; have e2 := (hk (pg y) e1.2.2.1).2.2.1; omega)) ⟨fun y hy hp e => by omega, fun _ => rfl⟩ (hRl.as (fun j => by first | rfl | (simp only [upd]; (repeat' split) <;> first | rfl | omega | (subst_vars; rfl))) (fun j => by first | rfl | (simp only [va_up]; (repeat' split) <;> first | rfl | omega | (subst_vars; rfl)))) hzl (fun p hp => (frl p (by omega))) hL hl
        · have hl8 := (hk (64 * mp v + k) (by omega)).2.2.1
          refine lv_aload_n X.1.1 X.1.2.1 d_Model_freeze_57 rfl (gl_at hl rfl) ?_
          refine lv_iload_n X.1.1 X.1.2.1 d_Model_freeze_58 rfl (gl_at hl rfl) ?_
          refine lv_iload_n X.1.1 X.1.2.1 d_Model_freeze_59 rfl (gl_at hl rfl) ?_
          refine g_cv (A := (fun p => d ≤ p ∧ p ≤ d + 28)) X gWS_good mw_Model_143 kc_Model mo38 (c_Model_has l D q Hn d (upd (upd (upd (upd (upd w 0 (nI 0)) 22 (nI pn)) 26 (nI 0)) 27 (nI 0)) 28 (-1)) (va_up (va_up ar 19 F) 20 G) hRl c0 org srt bt tn mp hv hN kk hk v hvc k (by omega)) (fun _ _ _ => trivial) gBlind.tt rfl rfl hl.1 (Nat.le_of_ble_eq_true rfl) rfl rfl ⟨by decide, by decide⟩ ⟨by decide, by decide⟩ d_Model_freeze_60 (fun _ h => h.elim) hL (fun v52 H53 locs hp54 hL => ?_)
          obtain ⟨rfl, hHe⟩ := hp54
          rw [hHe]
          refine lv_if_eq X.1.1 X.1.2.1 d_Model_freeze_63 rfl (fun hc63 => ?_) (fun hc63 => ?_)
          · replace hc63 := gz_f hc63
            refine g_iinc X.1.1 X.1.2.1 (nI (k + 1)) hl 3 d_Model_freeze_77 rfl (nI_1 _) rfl (fun ls hl => ?_)
            refine lv_goto X.1.1 X.1.2.1 d_Model_freeze_80 rfl ?_
            exact ih47 (k + 1) pg pl F G pn Hn locs ls (by omega) (by omega) (by omega) hi47_2 (hi47_3.same (d_K_no hc63)) hRl hzl (fun p hp => (frl p (by omega))) hL hl
          · replace hc63 := gz_t hc63
            refine lv_aload_n X.1.1 X.1.2.1 d_Model_freeze_66 rfl (gl_at hl rfl) ?_
            refine lv_iload_n X.1.1 X.1.2.1 d_Model_freeze_67 rfl (gl_at hl rfl) ?_
            refine lv_bipush (v := nI 64) X.1.1 X.1.2.1 d_Model_freeze_68 (by decide) ?_
            refine lv_iload_n X.1.1 X.1.2.1 d_Model_freeze_70 rfl (gl_at hl rfl) ?_
            refine lv_imul X.1.1 X.1.2.1 d_Model_freeze_71 ?_
            refine g_top (nI (64 * (mp v))) (pk_mul _ _) ?_
            refine lv_iload_n X.1.1 X.1.2.1 d_Model_freeze_72 rfl (gl_at hl rfl) ?_
            refine lv_iadd X.1.1 X.1.2.1 d_Model_freeze_73 ?_
            refine g_top (nI ((64 * (mp v)) + k)) (nI_add _ _) ?_
            refine g_cv (A := (fun p => d ≤ p ∧ p ≤ d + 28)) X gWS_good mw_Model_205 kc_Model mo38 (c_Model_prefixesOf l D q Hn d (upd (upd (upd (upd (upd w 0 (nI 0)) 22 (nI pn)) 26 (nI 0)) 27 (nI 0)) 28 (-1)) (va_up (va_up ar 19 F) 20 G) hRl kk hk pn pg pl ⟨rfl, by omega, hi47_2⟩ v (64 * mp v + k) (by omega) (by omega)) (fun _ _ _ => trivial) gBlind.tt rfl rfl hl.1 (Nat.le_of_ble_eq_true rfl) rfl rfl ⟨by decide, by decide⟩ ⟨by decide, by decide⟩ d_Model_freeze_74 (fun _ h => h) hL (fun v55 H56 locs hp57 hL => ?_)
            obtain ⟨pn1, pg1, pl1, F1, G1, ⟨rfl, hpx, hqf⟩, hp9⟩ := hp57
            obtain ⟨hR58, z59, fr60⟩ := hp9
            replace hR58 : dR D q H56 d (upd (upd (upd (upd (upd w 0 (nI 0)) 22 (nI pn1)) 26 (nI 0)) 27 (nI 0)) 28 (-1)) (va_up (va_up ar 19 F1) 20 G1) := hR58.as (fun j => by first | rfl | (simp only [upd]; (repeat' split) <;> first | rfl | omega)) (fun j => by first | rfl | (simp only [va_up]; (repeat' split) <;> first | rfl | omega))
            refine g_iinc X.1.1 X.1.2.1 (nI (k + 1)) hl 3 d_Model_freeze_77 rfl (nI_1 _) rfl (fun ls hl => ?_)
            refine lv_goto X.1.1 X.1.2.1 d_Model_freeze_80 rfl ?_
            exact ih47 (k + 1) pg1 pl1 F1 G1 pn1 H56 locs ls (by omega) (by omega) (by have := hpx.2.1; omega) hqf (hi47_3.add hpx (d_K_yes hc63)) hR58 (z59.trans hzl) (fun p hp => ((fr60 p (by omega)).trans (frl p (by omega)))) hL hl
    exact loop47 _ 0 (fun _ => 0) (fun _ => 0) (ar 19) (ar 20) 0 H29 locs ls (Nat.lt_succ_self _) (Nat.zero_le _) (by omega) (fun x hx => absurd hx (Nat.not_lt_zero x)) ⟨fun y hy => absurd hy (Nat.not_lt_zero y), fun u hu => by obtain ⟨v9, j, hj, _⟩ := hu; omega, fun x y h1 h2 => by omega⟩ (hR33.as (fun j => by first | rfl | (simp only [upd]; (repeat' split) <;> first | rfl | omega | (subst_vars; rfl))) (fun j => by first | rfl | (simp only [va_up]; (repeat' split) <;> first | rfl | omega | (subst_vars; rfl)))) (z31.trans (z25.trans (z19.trans (z13.trans z7)))) (fun p hp => ((oq32 p (by omega)).trans ((oq26 p (by omega)).trans ((oq20 p (by omega)).trans ((oq14 p (by omega)).trans (oq8 p (by omega))))))) hL hl
  · replace hc5 := gz_f hc5
    exact absurd (h_ok_of (by omega) hvc) hc5
