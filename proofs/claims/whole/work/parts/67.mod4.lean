/-! the class KeyHallModel, 4: printed by wip/specs/m4.py -/
/-- what find seeks -/
def d_fd (org : Nat → Option Nat) (srt : Nat → Nat) (bt : Nat → List Nat) (v : Nat) (tn mp : Nat → Nat) (kk : Nat → List Nat) (n : Nat → Nat) (tp : List Nat) (x : Nat) (o : Option Nat) : Prop := match x with
  | 0 => d_nr (fun xs => v_in org srt bt v xs = true ∧ d_cd (tn v) 0 1 (some tp) xs) (tn v) 0 kk (64 * mp v) (n (mp v)) o
  | 1 => d_nr (fun xs => v_in org srt bt v xs = true ∧ d_cd (tn v) 0 0 (some tp) xs) (tn v) 0 kk (64 * mp v) (n (mp v)) o
  | 2 => d_nr (fun xs => v_in org srt bt v xs = true ∧ d_cd (tn v) 1 1 (some tp) xs) (tn v) 1 kk (64 * mp v) (n (mp v)) o
  | 3 => d_nr (fun xs => v_in org srt bt v xs = true ∧ d_cd (tn v) 1 0 (some tp) xs) (tn v) 1 kk (64 * mp v) (n (mp v)) o
  | 4 => d_nr (fun xs => v_in org srt bt v xs = true ∧ d_cd (tn v) 1 1 none xs) (tn v) 1 kk (64 * mp v) (n (mp v)) o
  | 5 => d_nr (fun xs => v_in org srt bt v xs = true ∧ d_cd (tn v) 0 1 none xs) (tn v) 0 kk (64 * mp v) (n (mp v)) o
  | _ => d_lg (fun xs => v_in org srt bt v xs = true ∧ t_lcp tp xs = xs.length) kk (64 * mp v) (n (mp v)) o
theorem d_nr.lt {ok : List Nat → Prop} {tn bh : Nat} {kk : Nat → List Nat} {lo n r : Nat} (h : d_nr ok tn bh kk lo n (some r)) : lo ≤ r ∧ r < lo + n := by
  obtain ⟨⟨j, h1, h2⟩, _⟩ := h
  omega
theorem d_lg.lt {ok : List Nat → Prop} {kk : Nat → List Nat} {lo n r : Nat} (h : d_lg ok kk lo n (some r)) : lo ≤ r ∧ r < lo + n := by
  obtain ⟨⟨j, h1, h2⟩, _⟩ := h
  omega
/-- keys one behind another -/
def d_it (nx : List Nat → Option Nat → Prop) (fi : Option Nat → Prop) (kk : Nat → List Nat) : Nat → Option Nat → Prop
  | 0, o => fi o
  | k + 1, o => ∃ o1, d_it nx fi kk k o1 ∧ (match o1 with
    | none => o = none
    | some r => nx (kk r) o)
theorem d_it_none {nx : List Nat → Option Nat → Prop} {fi : Option Nat → Prop} {kk : Nat → List Nat} {i : Nat} (h : d_it nx fi kk i none) : ∀ e, d_it nx fi kk (i + e) none
  | 0 => h
  | e + 1 => ⟨none, d_it_none h e, rfl⟩

set_option maxHeartbeats 4000000 in
set_option maxRecDepth 100000 in
/-- find -/
theorem c_Model_find (l : Launch) (D : va_G) (q : Nat → ClassId) (H : Heap) (d : Nat) (w : Nat → Int32) (ar : Nat → Nat → Int32) (hR : dR D q H d w ar) (c0 : Nat) (org : Nat → Option Nat) (srt : Nat → Nat) (bt : Nat → List Nat) (tn mp : Nat → Nat) (hv : pV w ar c0 org srt bt) (hN : pN c0 org srt tn mp) (kk : Nat → List Nat) (hk : pK ar kk) (n chg : Nat → Nat) (hm : pM ar n chg) (tp : List Nat) (ht : pT w ar tp) (v : Nat) (hvc : v < c0) (x : Nat) (hx : x ≤ 6) : gC l y_Model_find (Cond.code y_Model_find b_Model_find 4 (some .int) :: gWS) (gR 5 132 0 0) D CL (gY q) (fun _ => True) [.ref d, .int (nI v), .int (nI x)] H (fun v1 H1 => ((d_fd org srt bt v tn mp kk n tp x none ∧ v1 = some (.int 0) ∧ dR D q H1 d (upd (upd w 0 (nI 2)) 2 (nI 0)) ar) ∨ ∃ r0 F, d_fd org srt bt v tn mp kk n tp x (some r0) ∧ v1 = some (.int (ar 6 r0)) ∧ tXo F 0 (kk r0) ∧ dR D q H1 d (upd (upd (upd w 0 (nI 0)) 2 (nI 0)) 20 (nI ((kk r0).length))) (va_up ar 17 F)) ∧ H1.size = H.size ∧ ∀ p : Nat, (p < d ∨ d + 28 < p) → H1[p]? = H[p]?) 0 0 (fun p => d ≤ p ∧ p ≤ d + 28) := by
  refine gC.ofW R_Model "find" (by decide) rfl rfl ?_
  intro p e s m below meth c hadm X hE hH B hne
  refine g_entry [some (.ref d), some (.int (nI v)), some (.int (nI x)), none] rfl rfl (Nat.le_of_ble_eq_true rfl) (fun ls hl => ?_)
  have h12 := hv.2.2.1
  have hmp := (hN v hvc).1
  obtain ⟨hm1a, hm2, hm3⟩ := hm (mp v) hmp
  have ht8 := ht.2.2.1
  refine lv_aload_n X.1.1 X.1.2.1 d_Model_find_0 rfl (gl_at hl rfl) ?_
  refine lv_iload_n X.1.1 X.1.2.1 d_Model_find_1 rfl (gl_at hl rfl) ?_
  have mo1 : va_at D CL (d, .inr (10, [.int (w 0), .ref (d + 1), .int (w 2), .ref (d + 2), .ref (d + 3), .ref (d + 4), .ref (d + 5), .ref (d + 6), .int (w 8), .ref (d + 7), .ref (d + 8), .ref (d + 9), .ref (d + 10), .ref (d + 11), .ref (d + 12), .ref (d + 13), .ref (d + 14), .ref (d + 15), .ref (d + 16), .ref (d + 17), .int (w 20), .ref (d + 18), .int (w 22), .ref (d + 19), .ref (d + 20), .ref (d + 21), .int (w 26), .int (w 27), .int (w 28), .ref (d + 22), .ref (d + 23), .ref (d + 24), .ref (d + 25), .ref (d + 26), .int (w 34), .ref (d + 27), .ref (d + 28), .int (w 37), .int (w 38)])) H := hR.1
  refine g_cv (A := (fun p => d ≤ p ∧ p ≤ d + 28)) X gWS_good mw_Model_122 kc_Model mo1 (c_Model_isView l D q H d w ar hR c0 hv.1 (nI v)) (fun _ _ _ => trivial) gBlind.tt rfl rfl hl.1 (Nat.le_of_ble_eq_true rfl) rfl rfl ⟨by decide, by decide⟩ ⟨by decide, by decide⟩ d_Model_find_2 (fun _ h => h.elim) (fun _ h => by cases h) (fun v2 H3 locs hp4 hL => ?_)
  obtain ⟨rfl, hHe⟩ := hp4
  rw [hHe]
  refine lv_if_eq X.1.1 X.1.2.1 d_Model_find_5 rfl (fun hc5 => ?_) (fun hc5 => ?_)
  · replace hc5 := gz_f hc5
    exact absurd (h_ok_of (by omega) hvc) hc5
  · replace hc5 := gz_t hc5
    refine lv_iload_n X.1.1 X.1.2.1 d_Model_find_8 rfl (gl_at hl rfl) ?_
    refine lv_if_lt X.1.1 X.1.2.1 d_Model_find_9 rfl (fun hc9 => ?_) (fun hc9 => ?_)
    · exact absurd hc9 (nI_nneg (by omega))
    · refine lv_iload_n X.1.1 X.1.2.1 d_Model_find_12 rfl (gl_at hl rfl) ?_
      refine lv_bipush (v := nI 6) X.1.1 X.1.2.1 d_Model_find_13 (by decide) ?_
      refine gn_le X.1.1 X.1.2.1 x 6 (by omega) (by omega) d_Model_find_15 rfl (fun hc15 => ?_) (fun hc15 => ?_)
      · refine lv_aload_n X.1.1 X.1.2.1 d_Model_find_24 rfl (gl_at hl rfl) ?_
        refine g_get X kc_Model mo1 2 (by decide) lk_Model_102 rfl d_Model_find_25 ?_
        refine g_top (nI tp.length) ht.1 ?_
        refine g_istn X.1.1 X.1.2.1 hl 3 d_Model_find_28 rfl (Nat.le_of_ble_eq_true rfl) rfl (fun ls hl => ?_)
        refine lv_aload_n X.1.1 X.1.2.1 d_Model_find_29 rfl (gl_at hl rfl) ?_
        refine lv_iconst (v := nI 0) X.1.1 X.1.2.1 d_Model_find_30 (by decide) ?_
        refine g_put (A := (fun p => d ≤ p ∧ p ≤ d + 28)) X kc_Model mo1 2 (by decide) lk_Model_102 rfl rfl rfl (Nat.le_of_ble_eq_true rfl) d_Model_find_31 ⟨by omega, by omega⟩ hL (fun H5 locs h6 z7 oq8 hL => ?_)
        have hR9 : dR D q H5 d (upd w 2 (nI 0)) ar := hR.putO h6 oq8
        refine lv_iload_n X.1.1 X.1.2.1 d_Model_find_34 rfl (gl_at hl rfl) ?_
        rcases (show x = 0 ∨ x = 1 ∨ x = 2 ∨ x = 3 ∨ x = 4 ∨ x = 5 ∨ 6 ≤ x by omega) with hs35 | hs35 | hs35 | hs35 | hs35 | hs35 | hs35
        · subst hs35
          refine lv_tableIn X.1.1 X.1.2.1 d_Model_find_35 (x := nI 0) (by decide) (by decide) rfl rfl ?_
          refine lv_aload_n X.1.1 X.1.2.1 d_Model_find_72 rfl (gl_at hl rfl) ?_
          refine lv_aload_n X.1.1 X.1.2.1 d_Model_find_73 rfl (gl_at hl rfl) ?_
          refine lv_iload_n X.1.1 X.1.2.1 d_Model_find_74 rfl (gl_at hl rfl) ?_
          refine lv_iconst (v := nI 0) X.1.1 X.1.2.1 d_Model_find_75 (by decide) ?_
          refine lv_iload_n X.1.1 X.1.2.1 d_Model_find_76 rfl (gl_at hl rfl) ?_
          refine gn_ne0 X.1.1 X.1.2.1 0 (by omega) d_Model_find_77 rfl (fun hc77 => ?_) (fun hc77 => ?_)
          · omega
          · refine lv_iconst (v := nI 1) X.1.1 X.1.2.1 d_Model_find_80 (by decide) ?_
            refine lv_goto X.1.1 X.1.2.1 d_Model_find_81 rfl ?_
            refine lv_aload_n X.1.1 X.1.2.1 d_Model_find_85 rfl (gl_at hl rfl) ?_
            have mo10 : va_at D CL (d, .inr (10, [.int (w 0), .ref (d + 1), .int (nI 0), .ref (d + 2), .ref (d + 3), .ref (d + 4), .ref (d + 5), .ref (d + 6), .int (w 8), .ref (d + 7), .ref (d + 8), .ref (d + 9), .ref (d + 10), .ref (d + 11), .ref (d + 12), .ref (d + 13), .ref (d + 14), .ref (d + 15), .ref (d + 16), .ref (d + 17), .int (w 20), .ref (d + 18), .int (w 22), .ref (d + 19), .ref (d + 20), .ref (d + 21), .int (w 26), .int (w 27), .int (w 28), .ref (d + 22), .ref (d + 23), .ref (d + 24), .ref (d + 25), .ref (d + 26), .int (w 34), .ref (d + 27), .ref (d + 28), .int (w 37), .int (w 38)])) H5 := hR9.1
            refine g_get X kc_Model mo10 1 (by decide) lk_Model_7 rfl d_Model_find_86 ?_
            refine lv_iconst (v := nI 0) X.1.1 X.1.2.1 d_Model_find_89 (by decide) ?_
            refine lv_iload_n X.1.1 X.1.2.1 d_Model_find_90 rfl (gl_at hl rfl) ?_
            refine g_cv (A := (fun p => d ≤ p ∧ p ≤ d + 28)) X gWS_good mw_Model_157 kc_Model mo10 (c_Model_nearest l D q H5 d (upd w 2 (nI 0)) ar hR9 c0 org srt bt tn mp hv hN kk hk n chg hm v hvc 0 1 (by omega) (by omega) (d + 1) 8 (ar 1) hR9.a1 0 _ tp rfl ht.2.1 (by omega) (by omega) ht.2.2.2) (fun _ _ _ => trivial) gBlind.tt rfl rfl hl.1 (Nat.le_of_ble_eq_true rfl) rfl rfl ⟨by decide, by decide⟩ ⟨by decide, by decide⟩ d_Model_find_91 (fun _ h => h.elim) hL (fun v11 H12 locs hp13 hL => ?_)
            obtain ⟨⟨o, rfl, ho⟩, hHe⟩ := hp13
            rw [hHe]
            refine lv_iconst (v := nI 2) X.1.1 X.1.2.1 d_Model_find_94 (by decide) ?_
            cases o with
            | none =>
                refine g_cv (A := (fun p => d ≤ p ∧ p ≤ d + 28)) X gWS_good mw_Model_161 kc_Model mo10 (c_Model_tellN l D q H5 d (upd w 2 (nI 0)) ar hR9 (nI 2)) (fun _ _ _ => trivial) gBlind.tt rfl rfl hl.1 (Nat.le_of_ble_eq_true rfl) rfl rfl ⟨by decide, by decide⟩ ⟨by decide, by decide⟩ d_Model_find_95 (fun _ h => h) hL (fun v14 H15 locs hp16 hL => ?_)
                obtain ⟨rfl, hR17, z18, fr19⟩ := hp16
                replace hR17 : dR D q H15 d (upd (upd w 0 (nI 2)) 2 (nI 0)) ar := hR17.as (fun j => by first | rfl | (simp only [upd]; (repeat' split) <;> first | rfl | omega)) (fun j => by first | rfl | (simp only [va_up]; (repeat' split) <;> first | rfl | omega))
                exact g_iret X B ⟨Or.inl ⟨ho, rfl, hR17⟩, (z18.trans z7), fun p hp => ((fr19 p (by omega)).trans (oq8 p (by omega)))⟩ hL d_Model_find_98 (by omega) (by omega)
            | some r0 =>
                have hr0 := ho.lt
                refine g_cv (A := (fun p => d ≤ p ∧ p ≤ d + 28)) X gWS_good mw_Model_161 kc_Model mo10 (c_Model_tell l D q H5 d (upd w 2 (nI 0)) ar hR9 kk hk r0 (by omega) (nI 2)) (fun _ _ _ => trivial) gBlind.tt rfl rfl hl.1 (Nat.le_of_ble_eq_true rfl) rfl rfl ⟨by decide, by decide⟩ ⟨by decide, by decide⟩ d_Model_find_95 (fun _ h => h) hL (fun v20 H21 locs hp22 hL => ?_)
                obtain ⟨F, ⟨rfl, hF⟩, hp9⟩ := hp22
                obtain ⟨hR23, z24, fr25⟩ := hp9
                replace hR23 : dR D q H21 d (upd (upd (upd w 0 (nI 0)) 2 (nI 0)) 20 (nI ((kk r0).length))) (va_up ar 17 F) := hR23.as (fun j => by first | rfl | (simp only [upd]; (repeat' split) <;> first | rfl | omega)) (fun j => by first | rfl | (simp only [va_up]; (repeat' split) <;> first | rfl | omega))
                exact g_iret X B ⟨Or.inr ⟨r0, F, ho, rfl, hF, hR23⟩, (z24.trans z7), fun p hp => ((fr25 p (by omega)).trans (oq8 p (by omega)))⟩ hL d_Model_find_98 (by omega) (by omega)
        · subst hs35
          refine lv_tableIn X.1.1 X.1.2.1 d_Model_find_35 (x := nI 1) (by decide) (by decide) rfl rfl ?_
          refine lv_aload_n X.1.1 X.1.2.1 d_Model_find_72 rfl (gl_at hl rfl) ?_
          refine lv_aload_n X.1.1 X.1.2.1 d_Model_find_73 rfl (gl_at hl rfl) ?_
          refine lv_iload_n X.1.1 X.1.2.1 d_Model_find_74 rfl (gl_at hl rfl) ?_
          refine lv_iconst (v := nI 0) X.1.1 X.1.2.1 d_Model_find_75 (by decide) ?_
          refine lv_iload_n X.1.1 X.1.2.1 d_Model_find_76 rfl (gl_at hl rfl) ?_
          refine gn_ne0 X.1.1 X.1.2.1 1 (by omega) d_Model_find_77 rfl (fun hc77 => ?_) (fun hc77 => ?_)
          · refine lv_iconst (v := nI 0) X.1.1 X.1.2.1 d_Model_find_84 (by decide) ?_
            refine lv_aload_n X.1.1 X.1.2.1 d_Model_find_85 rfl (gl_at hl rfl) ?_
            have mo26 : va_at D CL (d, .inr (10, [.int (w 0), .ref (d + 1), .int (nI 0), .ref (d + 2), .ref (d + 3), .ref (d + 4), .ref (d + 5), .ref (d + 6), .int (w 8), .ref (d + 7), .ref (d + 8), .ref (d + 9), .ref (d + 10), .ref (d + 11), .ref (d + 12), .ref (d + 13), .ref (d + 14), .ref (d + 15), .ref (d + 16), .ref (d + 17), .int (w 20), .ref (d + 18), .int (w 22), .ref (d + 19), .ref (d + 20), .ref (d + 21), .int (w 26), .int (w 27), .int (w 28), .ref (d + 22), .ref (d + 23), .ref (d + 24), .ref (d + 25), .ref (d + 26), .int (w 34), .ref (d + 27), .ref (d + 28), .int (w 37), .int (w 38)])) H5 := hR9.1
            refine g_get X kc_Model mo26 1 (by decide) lk_Model_7 rfl d_Model_find_86 ?_
            refine lv_iconst (v := nI 0) X.1.1 X.1.2.1 d_Model_find_89 (by decide) ?_
            refine lv_iload_n X.1.1 X.1.2.1 d_Model_find_90 rfl (gl_at hl rfl) ?_
            refine g_cv (A := (fun p => d ≤ p ∧ p ≤ d + 28)) X gWS_good mw_Model_157 kc_Model mo26 (c_Model_nearest l D q H5 d (upd w 2 (nI 0)) ar hR9 c0 org srt bt tn mp hv hN kk hk n chg hm v hvc 0 0 (by omega) (by omega) (d + 1) 8 (ar 1) hR9.a1 0 _ tp rfl ht.2.1 (by omega) (by omega) ht.2.2.2) (fun _ _ _ => trivial) gBlind.tt rfl rfl hl.1 (Nat.le_of_ble_eq_true rfl) rfl rfl ⟨by decide, by decide⟩ ⟨by decide, by decide⟩ d_Model_find_91 (fun _ h => h.elim) hL (fun v27 H28 locs hp29 hL => ?_)
            obtain ⟨⟨o, rfl, ho⟩, hHe⟩ := hp29
            rw [hHe]
            refine lv_iconst (v := nI 2) X.1.1 X.1.2.1 d_Model_find_94 (by decide) ?_
            cases o with
            | none =>
                refine g_cv (A := (fun p => d ≤ p ∧ p ≤ d + 28)) X gWS_good mw_Model_161 kc_Model mo26 (c_Model_tellN l D q H5 d (upd w 2 (nI 0)) ar hR9 (nI 2)) (fun _ _ _ => trivial) gBlind.tt rfl rfl hl.1 (Nat.le_of_ble_eq_true rfl) rfl rfl ⟨by decide, by decide⟩ ⟨by decide, by decide⟩ d_Model_find_95 (fun _ h => h) hL (fun v30 H31 locs hp32 hL => ?_)
                obtain ⟨rfl, hR33, z34, fr35⟩ := hp32
                replace hR33 : dR D q H31 d (upd (upd w 0 (nI 2)) 2 (nI 0)) ar := hR33.as (fun j => by first | rfl | (simp only [upd]; (repeat' split) <;> first | rfl | omega)) (fun j => by first | rfl | (simp only [va_up]; (repeat' split) <;> first | rfl | omega))
                exact g_iret X B ⟨Or.inl ⟨ho, rfl, hR33⟩, (z34.trans z7), fun p hp => ((fr35 p (by omega)).trans (oq8 p (by omega)))⟩ hL d_Model_find_98 (by omega) (by omega)
            | some r0 =>
                have hr0 := ho.lt
                refine g_cv (A := (fun p => d ≤ p ∧ p ≤ d + 28)) X gWS_good mw_Model_161 kc_Model mo26 (c_Model_tell l D q H5 d (upd w 2 (nI 0)) ar hR9 kk hk r0 (by omega) (nI 2)) (fun _ _ _ => trivial) gBlind.tt rfl rfl hl.1 (Nat.le_of_ble_eq_true rfl) rfl rfl ⟨by decide, by decide⟩ ⟨by decide, by decide⟩ d_Model_find_95 (fun _ h => h) hL (fun v36 H37 locs hp38 hL => ?_)
                obtain ⟨F, ⟨rfl, hF⟩, hp9⟩ := hp38
                obtain ⟨hR39, z40, fr41⟩ := hp9
                replace hR39 : dR D q H37 d (upd (upd (upd w 0 (nI 0)) 2 (nI 0)) 20 (nI ((kk r0).length))) (va_up ar 17 F) := hR39.as (fun j => by first | rfl | (simp only [upd]; (repeat' split) <;> first | rfl | omega)) (fun j => by first | rfl | (simp only [va_up]; (repeat' split) <;> first | rfl | omega))
                exact g_iret X B ⟨Or.inr ⟨r0, F, ho, rfl, hF, hR39⟩, (z40.trans z7), fun p hp => ((fr41 p (by omega)).trans (oq8 p (by omega)))⟩ hL d_Model_find_98 (by omega) (by omega)
          · omega
        · subst hs35
          refine lv_tableIn X.1.1 X.1.2.1 d_Model_find_35 (x := nI 2) (by decide) (by decide) rfl rfl ?_
          refine lv_aload_n X.1.1 X.1.2.1 d_Model_find_99 rfl (gl_at hl rfl) ?_
          refine lv_aload_n X.1.1 X.1.2.1 d_Model_find_100 rfl (gl_at hl rfl) ?_
          refine lv_iload_n X.1.1 X.1.2.1 d_Model_find_101 rfl (gl_at hl rfl) ?_
          refine lv_iconst (v := nI 1) X.1.1 X.1.2.1 d_Model_find_102 (by decide) ?_
          refine lv_iload_n X.1.1 X.1.2.1 d_Model_find_103 rfl (gl_at hl rfl) ?_
          refine lv_iconst (v := nI 2) X.1.1 X.1.2.1 d_Model_find_104 (by decide) ?_
          refine gn_ne X.1.1 X.1.2.1 2 2 (by omega) (by omega) d_Model_find_105 rfl (fun hc105 => ?_) (fun hc105 => ?_)
          · omega
          · refine lv_iconst (v := nI 1) X.1.1 X.1.2.1 d_Model_find_108 (by decide) ?_
            refine lv_goto X.1.1 X.1.2.1 d_Model_find_109 rfl ?_
            refine lv_aload_n X.1.1 X.1.2.1 d_Model_find_113 rfl (gl_at hl rfl) ?_
            have mo42 : va_at D CL (d, .inr (10, [.int (w 0), .ref (d + 1), .int (nI 0), .ref (d + 2), .ref (d + 3), .ref (d + 4), .ref (d + 5), .ref (d + 6), .int (w 8), .ref (d + 7), .ref (d + 8), .ref (d + 9), .ref (d + 10), .ref (d + 11), .ref (d + 12), .ref (d + 13), .ref (d + 14), .ref (d + 15), .ref (d + 16), .ref (d + 17), .int (w 20), .ref (d + 18), .int (w 22), .ref (d + 19), .ref (d + 20), .ref (d + 21), .int (w 26), .int (w 27), .int (w 28), .ref (d + 22), .ref (d + 23), .ref (d + 24), .ref (d + 25), .ref (d + 26), .int (w 34), .ref (d + 27), .ref (d + 28), .int (w 37), .int (w 38)])) H5 := hR9.1
            refine g_get X kc_Model mo42 1 (by decide) lk_Model_7 rfl d_Model_find_114 ?_
            refine lv_iconst (v := nI 0) X.1.1 X.1.2.1 d_Model_find_117 (by decide) ?_
            refine lv_iload_n X.1.1 X.1.2.1 d_Model_find_118 rfl (gl_at hl rfl) ?_
            refine g_cv (A := (fun p => d ≤ p ∧ p ≤ d + 28)) X gWS_good mw_Model_157 kc_Model mo42 (c_Model_nearest l D q H5 d (upd w 2 (nI 0)) ar hR9 c0 org srt bt tn mp hv hN kk hk n chg hm v hvc 1 1 (by omega) (by omega) (d + 1) 8 (ar 1) hR9.a1 0 _ tp rfl ht.2.1 (by omega) (by omega) ht.2.2.2) (fun _ _ _ => trivial) gBlind.tt rfl rfl hl.1 (Nat.le_of_ble_eq_true rfl) rfl rfl ⟨by decide, by decide⟩ ⟨by decide, by decide⟩ d_Model_find_119 (fun _ h => h.elim) hL (fun v43 H44 locs hp45 hL => ?_)
            obtain ⟨⟨o, rfl, ho⟩, hHe⟩ := hp45
            rw [hHe]
            refine lv_iconst (v := nI 2) X.1.1 X.1.2.1 d_Model_find_122 (by decide) ?_
            cases o with
            | none =>
                refine g_cv (A := (fun p => d ≤ p ∧ p ≤ d + 28)) X gWS_good mw_Model_161 kc_Model mo42 (c_Model_tellN l D q H5 d (upd w 2 (nI 0)) ar hR9 (nI 2)) (fun _ _ _ => trivial) gBlind.tt rfl rfl hl.1 (Nat.le_of_ble_eq_true rfl) rfl rfl ⟨by decide, by decide⟩ ⟨by decide, by decide⟩ d_Model_find_123 (fun _ h => h) hL (fun v46 H47 locs hp48 hL => ?_)
                obtain ⟨rfl, hR49, z50, fr51⟩ := hp48
                replace hR49 : dR D q H47 d (upd (upd w 0 (nI 2)) 2 (nI 0)) ar := hR49.as (fun j => by first | rfl | (simp only [upd]; (repeat' split) <;> first | rfl | omega)) (fun j => by first | rfl | (simp only [va_up]; (repeat' split) <;> first | rfl | omega))
                exact g_iret X B ⟨Or.inl ⟨ho, rfl, hR49⟩, (z50.trans z7), fun p hp => ((fr51 p (by omega)).trans (oq8 p (by omega)))⟩ hL d_Model_find_126 (by omega) (by omega)
            | some r0 =>
                have hr0 := ho.lt
                refine g_cv (A := (fun p => d ≤ p ∧ p ≤ d + 28)) X gWS_good mw_Model_161 kc_Model mo42 (c_Model_tell l D q H5 d (upd w 2 (nI 0)) ar hR9 kk hk r0 (by omega) (nI 2)) (fun _ _ _ => trivial) gBlind.tt rfl rfl hl.1 (Nat.le_of_ble_eq_true rfl) rfl rfl ⟨by decide, by decide⟩ ⟨by decide, by decide⟩ d_Model_find_123 (fun _ h => h) hL (fun v52 H53 locs hp54 hL => ?_)
                obtain ⟨F, ⟨rfl, hF⟩, hp9⟩ := hp54
                obtain ⟨hR55, z56, fr57⟩ := hp9
                replace hR55 : dR D q H53 d (upd (upd (upd w 0 (nI 0)) 2 (nI 0)) 20 (nI ((kk r0).length))) (va_up ar 17 F) := hR55.as (fun j => by first | rfl | (simp only [upd]; (repeat' split) <;> first | rfl | omega)) (fun j => by first | rfl | (simp only [va_up]; (repeat' split) <;> first | rfl | omega))
                exact g_iret X B ⟨Or.inr ⟨r0, F, ho, rfl, hF, hR55⟩, (z56.trans z7), fun p hp => ((fr57 p (by omega)).trans (oq8 p (by omega)))⟩ hL d_Model_find_126 (by omega) (by omega)
        · subst hs35
          refine lv_tableIn X.1.1 X.1.2.1 d_Model_find_35 (x := nI 3) (by decide) (by decide) rfl rfl ?_
          refine lv_aload_n X.1.1 X.1.2.1 d_Model_find_99 rfl (gl_at hl rfl) ?_
          refine lv_aload_n X.1.1 X.1.2.1 d_Model_find_100 rfl (gl_at hl rfl) ?_
          refine lv_iload_n X.1.1 X.1.2.1 d_Model_find_101 rfl (gl_at hl rfl) ?_
          refine lv_iconst (v := nI 1) X.1.1 X.1.2.1 d_Model_find_102 (by decide) ?_
          refine lv_iload_n X.1.1 X.1.2.1 d_Model_find_103 rfl (gl_at hl rfl) ?_
          refine lv_iconst (v := nI 2) X.1.1 X.1.2.1 d_Model_find_104 (by decide) ?_
          refine gn_ne X.1.1 X.1.2.1 3 2 (by omega) (by omega) d_Model_find_105 rfl (fun hc105 => ?_) (fun hc105 => ?_)
          · refine lv_iconst (v := nI 0) X.1.1 X.1.2.1 d_Model_find_112 (by decide) ?_
            refine lv_aload_n X.1.1 X.1.2.1 d_Model_find_113 rfl (gl_at hl rfl) ?_
            have mo58 : va_at D CL (d, .inr (10, [.int (w 0), .ref (d + 1), .int (nI 0), .ref (d + 2), .ref (d + 3), .ref (d + 4), .ref (d + 5), .ref (d + 6), .int (w 8), .ref (d + 7), .ref (d + 8), .ref (d + 9), .ref (d + 10), .ref (d + 11), .ref (d + 12), .ref (d + 13), .ref (d + 14), .ref (d + 15), .ref (d + 16), .ref (d + 17), .int (w 20), .ref (d + 18), .int (w 22), .ref (d + 19), .ref (d + 20), .ref (d + 21), .int (w 26), .int (w 27), .int (w 28), .ref (d + 22), .ref (d + 23), .ref (d + 24), .ref (d + 25), .ref (d + 26), .int (w 34), .ref (d + 27), .ref (d + 28), .int (w 37), .int (w 38)])) H5 := hR9.1
            refine g_get X kc_Model mo58 1 (by decide) lk_Model_7 rfl d_Model_find_114 ?_
            refine lv_iconst (v := nI 0) X.1.1 X.1.2.1 d_Model_find_117 (by decide) ?_
            refine lv_iload_n X.1.1 X.1.2.1 d_Model_find_118 rfl (gl_at hl rfl) ?_
            refine g_cv (A := (fun p => d ≤ p ∧ p ≤ d + 28)) X gWS_good mw_Model_157 kc_Model mo58 (c_Model_nearest l D q H5 d (upd w 2 (nI 0)) ar hR9 c0 org srt bt tn mp hv hN kk hk n chg hm v hvc 1 0 (by omega) (by omega) (d + 1) 8 (ar 1) hR9.a1 0 _ tp rfl ht.2.1 (by omega) (by omega) ht.2.2.2) (fun _ _ _ => trivial) gBlind.tt rfl rfl hl.1 (Nat.le_of_ble_eq_true rfl) rfl rfl ⟨by decide, by decide⟩ ⟨by decide, by decide⟩ d_Model_find_119 (fun _ h => h.elim) hL (fun v59 H60 locs hp61 hL => ?_)
            obtain ⟨⟨o, rfl, ho⟩, hHe⟩ := hp61
            rw [hHe]
            refine lv_iconst (v := nI 2) X.1.1 X.1.2.1 d_Model_find_122 (by decide) ?_
            cases o with
            | none =>
                refine g_cv (A := (fun p => d ≤ p ∧ p ≤ d + 28)) X gWS_good mw_Model_161 kc_Model mo58 (c_Model_tellN l D q H5 d (upd w 2 (nI 0)) ar hR9 (nI 2)) (fun _ _ _ => trivial) gBlind.tt rfl rfl hl.1 (Nat.le_of_ble_eq_true rfl) rfl rfl ⟨by decide, by decide⟩ ⟨by decide, by decide⟩ d_Model_find_123 (fun _ h => h) hL (fun v62 H63 locs hp64 hL => ?_)
                obtain ⟨rfl, hR65, z66, fr67⟩ := hp64
                replace hR65 : dR D q H63 d (upd (upd w 0 (nI 2)) 2 (nI 0)) ar := hR65.as (fun j => by first | rfl | (simp only [upd]; (repeat' split) <;> first | rfl | omega)) (fun j => by first | rfl | (simp only [va_up]; (repeat' split) <;> first | rfl | omega))
                exact g_iret X B ⟨Or.inl ⟨ho, rfl, hR65⟩, (z66.trans z7), fun p hp => ((fr67 p (by omega)).trans (oq8 p (by omega)))⟩ hL d_Model_find_126 (by omega) (by omega)
            | some r0 =>
                have hr0 := ho.lt
                refine g_cv (A := (fun p => d ≤ p ∧ p ≤ d + 28)) X gWS_good mw_Model_161 kc_Model mo58 (c_Model_tell l D q H5 d (upd w 2 (nI 0)) ar hR9 kk hk r0 (by omega) (nI 2)) (fun _ _ _ => trivial) gBlind.tt rfl rfl hl.1 (Nat.le_of_ble_eq_true rfl) rfl rfl ⟨by decide, by decide⟩ ⟨by decide, by decide⟩ d_Model_find_123 (fun _ h => h) hL (fun v68 H69 locs hp70 hL => ?_)
                obtain ⟨F, ⟨rfl, hF⟩, hp9⟩ := hp70
                obtain ⟨hR71, z72, fr73⟩ := hp9
                replace hR71 : dR D q H69 d (upd (upd (upd w 0 (nI 0)) 2 (nI 0)) 20 (nI ((kk r0).length))) (va_up ar 17 F) := hR71.as (fun j => by first | rfl | (simp only [upd]; (repeat' split) <;> first | rfl | omega)) (fun j => by first | rfl | (simp only [va_up]; (repeat' split) <;> first | rfl | omega))
                exact g_iret X B ⟨Or.inr ⟨r0, F, ho, rfl, hF, hR71⟩, (z72.trans z7), fun p hp => ((fr73 p (by omega)).trans (oq8 p (by omega)))⟩ hL d_Model_find_126 (by omega) (by omega)
          · omega
        · subst hs35
          refine lv_tableIn X.1.1 X.1.2.1 d_Model_find_35 (x := nI 4) (by decide) (by decide) rfl rfl ?_
          refine lv_aload_n X.1.1 X.1.2.1 d_Model_find_127 rfl (gl_at hl rfl) ?_
          refine lv_aload_n X.1.1 X.1.2.1 d_Model_find_128 rfl (gl_at hl rfl) ?_
          refine lv_iload_n X.1.1 X.1.2.1 d_Model_find_129 rfl (gl_at hl rfl) ?_
          refine lv_iload_n X.1.1 X.1.2.1 d_Model_find_130 rfl (gl_at hl rfl) ?_
          refine lv_iconst (v := nI 4) X.1.1 X.1.2.1 d_Model_find_131 (by decide) ?_
          refine gn_ne X.1.1 X.1.2.1 4 4 (by omega) (by omega) d_Model_find_132 rfl (fun hc132 => ?_) (fun hc132 => ?_)
          · omega
          · refine lv_iconst (v := nI 1) X.1.1 X.1.2.1 d_Model_find_135 (by decide) ?_
            refine lv_goto X.1.1 X.1.2.1 d_Model_find_136 rfl ?_
            refine lv_iconst (v := nI 1) X.1.1 X.1.2.1 d_Model_find_140 (by decide) ?_
            refine lv_aload_n X.1.1 X.1.2.1 d_Model_find_141 rfl (gl_at hl rfl) ?_
            have mo74 : va_at D CL (d, .inr (10, [.int (w 0), .ref (d + 1), .int (nI 0), .ref (d + 2), .ref (d + 3), .ref (d + 4), .ref (d + 5), .ref (d + 6), .int (w 8), .ref (d + 7), .ref (d + 8), .ref (d + 9), .ref (d + 10), .ref (d + 11), .ref (d + 12), .ref (d + 13), .ref (d + 14), .ref (d + 15), .ref (d + 16), .ref (d + 17), .int (w 20), .ref (d + 18), .int (w 22), .ref (d + 19), .ref (d + 20), .ref (d + 21), .int (w 26), .int (w 27), .int (w 28), .ref (d + 22), .ref (d + 23), .ref (d + 24), .ref (d + 25), .ref (d + 26), .int (w 34), .ref (d + 27), .ref (d + 28), .int (w 37), .int (w 38)])) H5 := hR9.1
            refine g_get X kc_Model mo74 1 (by decide) lk_Model_7 rfl d_Model_find_142 ?_
            refine lv_iconst (v := nI 0) X.1.1 X.1.2.1 d_Model_find_145 (by decide) ?_
            refine lv_iconst (v := (-1)) X.1.1 X.1.2.1 d_Model_find_146 (by decide) ?_
            refine g_cv (A := (fun p => d ≤ p ∧ p ≤ d + 28)) X gWS_good mw_Model_157 kc_Model mo74 (c_Model_nearestN l D q H5 d (upd w 2 (nI 0)) ar hR9 c0 org srt bt tn mp hv hN kk hk n chg hm v hvc 1 1 (by omega) (by omega) (d + 1) 0) (fun _ _ _ => trivial) gBlind.tt rfl rfl hl.1 (Nat.le_of_ble_eq_true rfl) rfl rfl ⟨by decide, by decide⟩ ⟨by decide, by decide⟩ d_Model_find_147 (fun _ h => h.elim) hL (fun v75 H76 locs hp77 hL => ?_)
            obtain ⟨⟨o, rfl, ho⟩, hHe⟩ := hp77
            rw [hHe]
            refine lv_iconst (v := nI 2) X.1.1 X.1.2.1 d_Model_find_150 (by decide) ?_
            cases o with
            | none =>
                refine g_cv (A := (fun p => d ≤ p ∧ p ≤ d + 28)) X gWS_good mw_Model_161 kc_Model mo74 (c_Model_tellN l D q H5 d (upd w 2 (nI 0)) ar hR9 (nI 2)) (fun _ _ _ => trivial) gBlind.tt rfl rfl hl.1 (Nat.le_of_ble_eq_true rfl) rfl rfl ⟨by decide, by decide⟩ ⟨by decide, by decide⟩ d_Model_find_151 (fun _ h => h) hL (fun v78 H79 locs hp80 hL => ?_)
                obtain ⟨rfl, hR81, z82, fr83⟩ := hp80
                replace hR81 : dR D q H79 d (upd (upd w 0 (nI 2)) 2 (nI 0)) ar := hR81.as (fun j => by first | rfl | (simp only [upd]; (repeat' split) <;> first | rfl | omega)) (fun j => by first | rfl | (simp only [va_up]; (repeat' split) <;> first | rfl | omega))
                exact g_iret X B ⟨Or.inl ⟨ho, rfl, hR81⟩, (z82.trans z7), fun p hp => ((fr83 p (by omega)).trans (oq8 p (by omega)))⟩ hL d_Model_find_154 (by omega) (by omega)
            | some r0 =>
                have hr0 := ho.lt
                refine g_cv (A := (fun p => d ≤ p ∧ p ≤ d + 28)) X gWS_good mw_Model_161 kc_Model mo74 (c_Model_tell l D q H5 d (upd w 2 (nI 0)) ar hR9 kk hk r0 (by omega) (nI 2)) (fun _ _ _ => trivial) gBlind.tt rfl rfl hl.1 (Nat.le_of_ble_eq_true rfl) rfl rfl ⟨by decide, by decide⟩ ⟨by decide, by decide⟩ d_Model_find_151 (fun _ h => h) hL (fun v84 H85 locs hp86 hL => ?_)
                obtain ⟨F, ⟨rfl, hF⟩, hp9⟩ := hp86
                obtain ⟨hR87, z88, fr89⟩ := hp9
                replace hR87 : dR D q H85 d (upd (upd (upd w 0 (nI 0)) 2 (nI 0)) 20 (nI ((kk r0).length))) (va_up ar 17 F) := hR87.as (fun j => by first | rfl | (simp only [upd]; (repeat' split) <;> first | rfl | omega)) (fun j => by first | rfl | (simp only [va_up]; (repeat' split) <;> first | rfl | omega))
                exact g_iret X B ⟨Or.inr ⟨r0, F, ho, rfl, hF, hR87⟩, (z88.trans z7), fun p hp => ((fr89 p (by omega)).trans (oq8 p (by omega)))⟩ hL d_Model_find_154 (by omega) (by omega)
        · subst hs35
          refine lv_tableIn X.1.1 X.1.2.1 d_Model_find_35 (x := nI 5) (by decide) (by decide) rfl rfl ?_
          refine lv_aload_n X.1.1 X.1.2.1 d_Model_find_127 rfl (gl_at hl rfl) ?_
          refine lv_aload_n X.1.1 X.1.2.1 d_Model_find_128 rfl (gl_at hl rfl) ?_
          refine lv_iload_n X.1.1 X.1.2.1 d_Model_find_129 rfl (gl_at hl rfl) ?_
          refine lv_iload_n X.1.1 X.1.2.1 d_Model_find_130 rfl (gl_at hl rfl) ?_
          refine lv_iconst (v := nI 4) X.1.1 X.1.2.1 d_Model_find_131 (by decide) ?_
          refine gn_ne X.1.1 X.1.2.1 5 4 (by omega) (by omega) d_Model_find_132 rfl (fun hc132 => ?_) (fun hc132 => ?_)
          · refine lv_iconst (v := nI 0) X.1.1 X.1.2.1 d_Model_find_139 (by decide) ?_
            refine lv_iconst (v := nI 1) X.1.1 X.1.2.1 d_Model_find_140 (by decide) ?_
            refine lv_aload_n X.1.1 X.1.2.1 d_Model_find_141 rfl (gl_at hl rfl) ?_
            have mo90 : va_at D CL (d, .inr (10, [.int (w 0), .ref (d + 1), .int (nI 0), .ref (d + 2), .ref (d + 3), .ref (d + 4), .ref (d + 5), .ref (d + 6), .int (w 8), .ref (d + 7), .ref (d + 8), .ref (d + 9), .ref (d + 10), .ref (d + 11), .ref (d + 12), .ref (d + 13), .ref (d + 14), .ref (d + 15), .ref (d + 16), .ref (d + 17), .int (w 20), .ref (d + 18), .int (w 22), .ref (d + 19), .ref (d + 20), .ref (d + 21), .int (w 26), .int (w 27), .int (w 28), .ref (d + 22), .ref (d + 23), .ref (d + 24), .ref (d + 25), .ref (d + 26), .int (w 34), .ref (d + 27), .ref (d + 28), .int (w 37), .int (w 38)])) H5 := hR9.1
            refine g_get X kc_Model mo90 1 (by decide) lk_Model_7 rfl d_Model_find_142 ?_
            refine lv_iconst (v := nI 0) X.1.1 X.1.2.1 d_Model_find_145 (by decide) ?_
            refine lv_iconst (v := (-1)) X.1.1 X.1.2.1 d_Model_find_146 (by decide) ?_
            refine g_cv (A := (fun p => d ≤ p ∧ p ≤ d + 28)) X gWS_good mw_Model_157 kc_Model mo90 (c_Model_nearestN l D q H5 d (upd w 2 (nI 0)) ar hR9 c0 org srt bt tn mp hv hN kk hk n chg hm v hvc 0 1 (by omega) (by omega) (d + 1) 0) (fun _ _ _ => trivial) gBlind.tt rfl rfl hl.1 (Nat.le_of_ble_eq_true rfl) rfl rfl ⟨by decide, by decide⟩ ⟨by decide, by decide⟩ d_Model_find_147 (fun _ h => h.elim) hL (fun v91 H92 locs hp93 hL => ?_)
            obtain ⟨⟨o, rfl, ho⟩, hHe⟩ := hp93
            rw [hHe]
            refine lv_iconst (v := nI 2) X.1.1 X.1.2.1 d_Model_find_150 (by decide) ?_
            cases o with
            | none =>
                refine g_cv (A := (fun p => d ≤ p ∧ p ≤ d + 28)) X gWS_good mw_Model_161 kc_Model mo90 (c_Model_tellN l D q H5 d (upd w 2 (nI 0)) ar hR9 (nI 2)) (fun _ _ _ => trivial) gBlind.tt rfl rfl hl.1 (Nat.le_of_ble_eq_true rfl) rfl rfl ⟨by decide, by decide⟩ ⟨by decide, by decide⟩ d_Model_find_151 (fun _ h => h) hL (fun v94 H95 locs hp96 hL => ?_)
                obtain ⟨rfl, hR97, z98, fr99⟩ := hp96
                replace hR97 : dR D q H95 d (upd (upd w 0 (nI 2)) 2 (nI 0)) ar := hR97.as (fun j => by first | rfl | (simp only [upd]; (repeat' split) <;> first | rfl | omega)) (fun j => by first | rfl | (simp only [va_up]; (repeat' split) <;> first | rfl | omega))
                exact g_iret X B ⟨Or.inl ⟨ho, rfl, hR97⟩, (z98.trans z7), fun p hp => ((fr99 p (by omega)).trans (oq8 p (by omega)))⟩ hL d_Model_find_154 (by omega) (by omega)
            | some r0 =>
                have hr0 := ho.lt
                refine g_cv (A := (fun p => d ≤ p ∧ p ≤ d + 28)) X gWS_good mw_Model_161 kc_Model mo90 (c_Model_tell l D q H5 d (upd w 2 (nI 0)) ar hR9 kk hk r0 (by omega) (nI 2)) (fun _ _ _ => trivial) gBlind.tt rfl rfl hl.1 (Nat.le_of_ble_eq_true rfl) rfl rfl ⟨by decide, by decide⟩ ⟨by decide, by decide⟩ d_Model_find_151 (fun _ h => h) hL (fun v100 H101 locs hp102 hL => ?_)
                obtain ⟨F, ⟨rfl, hF⟩, hp9⟩ := hp102
                obtain ⟨hR103, z104, fr105⟩ := hp9
                replace hR103 : dR D q H101 d (upd (upd (upd w 0 (nI 0)) 2 (nI 0)) 20 (nI ((kk r0).length))) (va_up ar 17 F) := hR103.as (fun j => by first | rfl | (simp only [upd]; (repeat' split) <;> first | rfl | omega)) (fun j => by first | rfl | (simp only [va_up]; (repeat' split) <;> first | rfl | omega))
                exact g_iret X B ⟨Or.inr ⟨r0, F, ho, rfl, hF, hR103⟩, (z104.trans z7), fun p hp => ((fr105 p (by omega)).trans (oq8 p (by omega)))⟩ hL d_Model_find_154 (by omega) (by omega)
          · omega
        · refine lv_tableOut X.1.1 X.1.2.1 d_Model_find_35 (Or.inr (by rw [nI_toInt (by omega)]; omega)) rfl ?_
          obtain rfl : x = 6 := by omega
          refine lv_aload_n X.1.1 X.1.2.1 d_Model_find_155 rfl (gl_at hl rfl) ?_
          refine lv_aload_n X.1.1 X.1.2.1 d_Model_find_156 rfl (gl_at hl rfl) ?_
          refine lv_iload_n X.1.1 X.1.2.1 d_Model_find_157 rfl (gl_at hl rfl) ?_
          refine lv_iload_n X.1.1 X.1.2.1 d_Model_find_158 rfl (gl_at hl rfl) ?_
          have mo106 : va_at D CL (d, .inr (10, [.int (w 0), .ref (d + 1), .int (nI 0), .ref (d + 2), .ref (d + 3), .ref (d + 4), .ref (d + 5), .ref (d + 6), .int (w 8), .ref (d + 7), .ref (d + 8), .ref (d + 9), .ref (d + 10), .ref (d + 11), .ref (d + 12), .ref (d + 13), .ref (d + 14), .ref (d + 15), .ref (d + 16), .ref (d + 17), .int (w 20), .ref (d + 18), .int (w 22), .ref (d + 19), .ref (d + 20), .ref (d + 21), .int (w 26), .int (w 27), .int (w 28), .ref (d + 22), .ref (d + 23), .ref (d + 24), .ref (d + 25), .ref (d + 26), .int (w 34), .ref (d + 27), .ref (d + 28), .int (w 37), .int (w 38)])) H5 := hR9.1
          refine g_cv (A := (fun p => d ≤ p ∧ p ≤ d + 28)) X gWS_good mw_Model_165 kc_Model mo106 (c_Model_longest l D q H5 d (upd w 2 (nI 0)) ar hR9 c0 org srt bt tn mp hv hN kk hk n chg hm tp ht.2.1 ht.2.2.1 ht.2.2.2 v hvc) (fun _ _ _ => trivial) gBlind.tt rfl rfl hl.1 (Nat.le_of_ble_eq_true rfl) rfl rfl ⟨by decide, by decide⟩ ⟨by decide, by decide⟩ d_Model_find_159 (fun _ h => h.elim) hL (fun v107 H108 locs hp109 hL => ?_)
          obtain ⟨⟨o, rfl, ho⟩, hHe⟩ := hp109
          rw [hHe]
          refine lv_iconst (v := nI 2) X.1.1 X.1.2.1 d_Model_find_162 (by decide) ?_
          cases o with
          | none =>
              refine g_cv (A := (fun p => d ≤ p ∧ p ≤ d + 28)) X gWS_good mw_Model_161 kc_Model mo106 (c_Model_tellN l D q H5 d (upd w 2 (nI 0)) ar hR9 (nI 2)) (fun _ _ _ => trivial) gBlind.tt rfl rfl hl.1 (Nat.le_of_ble_eq_true rfl) rfl rfl ⟨by decide, by decide⟩ ⟨by decide, by decide⟩ d_Model_find_163 (fun _ h => h) hL (fun v110 H111 locs hp112 hL => ?_)
              obtain ⟨rfl, hR113, z114, fr115⟩ := hp112
              replace hR113 : dR D q H111 d (upd (upd w 0 (nI 2)) 2 (nI 0)) ar := hR113.as (fun j => by first | rfl | (simp only [upd]; (repeat' split) <;> first | rfl | omega)) (fun j => by first | rfl | (simp only [va_up]; (repeat' split) <;> first | rfl | omega))
              exact g_iret X B ⟨Or.inl ⟨ho, rfl, hR113⟩, (z114.trans z7), fun p hp => ((fr115 p (by omega)).trans (oq8 p (by omega)))⟩ hL d_Model_find_166 (by omega) (by omega)
          | some r0 =>
              have hr0 := ho.lt
              refine g_cv (A := (fun p => d ≤ p ∧ p ≤ d + 28)) X gWS_good mw_Model_161 kc_Model mo106 (c_Model_tell l D q H5 d (upd w 2 (nI 0)) ar hR9 kk hk r0 (by omega) (nI 2)) (fun _ _ _ => trivial) gBlind.tt rfl rfl hl.1 (Nat.le_of_ble_eq_true rfl) rfl rfl ⟨by decide, by decide⟩ ⟨by decide, by decide⟩ d_Model_find_163 (fun _ h => h) hL (fun v116 H117 locs hp118 hL => ?_)
              obtain ⟨F, ⟨rfl, hF⟩, hp9⟩ := hp118
              obtain ⟨hR119, z120, fr121⟩ := hp9
              replace hR119 : dR D q H117 d (upd (upd (upd w 0 (nI 0)) 2 (nI 0)) 20 (nI ((kk r0).length))) (va_up ar 17 F) := hR119.as (fun j => by first | rfl | (simp only [upd]; (repeat' split) <;> first | rfl | omega)) (fun j => by first | rfl | (simp only [va_up]; (repeat' split) <;> first | rfl | omega))
              exact g_iret X B ⟨Or.inr ⟨r0, F, ho, rfl, hF, hR119⟩, (z120.trans z7), fun p hp => ((fr121 p (by omega)).trans (oq8 p (by omega)))⟩ hL d_Model_find_166 (by omega) (by omega)
      · omega

set_option maxHeartbeats 4000000 in
set_option maxRecDepth 100000 in
/-- at: refused -/
theorem c_Model_atN (l : Launch) (D : va_G) (q : Nat → ClassId) (H : Heap) (d : Nat) (w : Nat → Int32) (ar : Nat → Nat → Int32) (hR : dR D q H d w ar) (c0 : Nat) (org : Nat → Option Nat) (srt : Nat → Nat) (bt : Nat → List Nat) (tn mp : Nat → Nat) (hv : pV w ar c0 org srt bt) (hN : pN c0 org srt tn mp) (kk : Nat → List Nat) (hk : pK ar kk) (n chg : Nat → Nat) (hm : pM ar n chg) (v : Nat) (hvc : v < c0) (x : Int32) (hbd : x < 0 ∨ nI (v_cnt (fun j => v_in org srt bt v (kk j)) (64 * mp v) (n (mp v))) ≤ x) : gC l y_Model_at (Cond.code y_Model_at b_Model_at 5 (some .int) :: gWS) (gR 5 132 0 0) D CL (gY q) (fun _ => True) [.ref d, .int (nI v), .int x] H (fun v1 H1 => v1 = some (.int 0) ∧ dR D q H1 d (upd w 0 (nI 2)) ar ∧ H1.size = H.size ∧ ∀ p : Nat, (p < d ∨ d + 28 < p) → H1[p]? = H[p]?) 0 0 (fun p => d ≤ p ∧ p ≤ d + 28) := by
  refine gC.ofW R_Model "at" (by decide) rfl rfl ?_
  intro p e s m below meth c hadm X hE hH B hne
  refine g_entry [some (.ref d), some (.int (nI v)), some (.int x), none, none] rfl rfl (Nat.le_of_ble_eq_true rfl) (fun ls hl => ?_)
  have h12 := hv.2.2.1
  have hmp := (hN v hvc).1
  obtain ⟨hm1a, hm2, hm3⟩ := hm (mp v) hmp
  refine lv_aload_n X.1.1 X.1.2.1 d_Model_at_0 rfl (gl_at hl rfl) ?_
  refine lv_iload_n X.1.1 X.1.2.1 d_Model_at_1 rfl (gl_at hl rfl) ?_
  have mo1 : va_at D CL (d, .inr (10, [.int (w 0), .ref (d + 1), .int (w 2), .ref (d + 2), .ref (d + 3), .ref (d + 4), .ref (d + 5), .ref (d + 6), .int (w 8), .ref (d + 7), .ref (d + 8), .ref (d + 9), .ref (d + 10), .ref (d + 11), .ref (d + 12), .ref (d + 13), .ref (d + 14), .ref (d + 15), .ref (d + 16), .ref (d + 17), .int (w 20), .ref (d + 18), .int (w 22), .ref (d + 19), .ref (d + 20), .ref (d + 21), .int (w 26), .int (w 27), .int (w 28), .ref (d + 22), .ref (d + 23), .ref (d + 24), .ref (d + 25), .ref (d + 26), .int (w 34), .ref (d + 27), .ref (d + 28), .int (w 37), .int (w 38)])) H := hR.1
  refine g_cv (A := (fun p => d ≤ p ∧ p ≤ d + 28)) X gWS_good mw_Model_122 kc_Model mo1 (c_Model_isView l D q H d w ar hR c0 hv.1 (nI v)) (fun _ _ _ => trivial) gBlind.tt rfl rfl hl.1 (Nat.le_of_ble_eq_true rfl) rfl rfl ⟨by decide, by decide⟩ ⟨by decide, by decide⟩ d_Model_at_2 (fun _ h => h.elim) (fun _ h => by cases h) (fun v2 H3 locs hp4 hL => ?_)
  obtain ⟨rfl, hHe⟩ := hp4
  rw [hHe]
  refine lv_if_ne X.1.1 X.1.2.1 d_Model_at_5 rfl (fun hc5 => ?_) (fun hc5 => ?_)
  · replace hc5 := gz_t hc5
    refine lv_iload_n X.1.1 X.1.2.1 d_Model_at_14 rfl (gl_at hl rfl) ?_
    refine lv_if_lt X.1.1 X.1.2.1 d_Model_at_15 rfl (fun hc15 => ?_) (fun hc15 => ?_)
    · refine lv_iconst (v := (-1)) X.1.1 X.1.2.1 d_Model_at_27 (by decide) ?_
      refine lv_goto X.1.1 X.1.2.1 d_Model_at_28 rfl ?_
      refine g_istn X.1.1 X.1.2.1 hl 3 d_Model_at_44 rfl (Nat.le_of_ble_eq_true rfl) rfl (fun ls hl => ?_)
      refine lv_iconst (v := nI 0) X.1.1 X.1.2.1 d_Model_at_45 (by decide) ?_
      refine g_ist X.1.1 X.1.2.1 hl 4 d_Model_at_46 (Nat.le_of_ble_eq_true rfl) rfl (fun ls hl => ?_)
      refine lv_iload X.1.1 X.1.2.1 d_Model_at_48 (gl_at hl rfl) ?_
      refine lv_iload_n X.1.1 X.1.2.1 d_Model_at_50 rfl (gl_at hl rfl) ?_
      refine lv_icmp_ge X.1.1 X.1.2.1 d_Model_at_51 rfl (fun hc51 => ?_) (fun hc51 => ?_)
      · refine lv_aload_n X.1.1 X.1.2.1 d_Model_at_87 rfl (gl_at hl rfl) ?_
        refine lv_iload_n X.1.1 X.1.2.1 d_Model_at_88 rfl (gl_at hl rfl) ?_
        refine lv_iconst (v := nI 2) X.1.1 X.1.2.1 d_Model_at_89 (by decide) ?_
        refine g_cv (A := (fun p => d ≤ p ∧ p ≤ d + 28)) X gWS_good mw_Model_161 kc_Model mo1 (c_Model_tellN l D q H d w ar hR (nI 2)) (fun _ _ _ => trivial) gBlind.tt rfl rfl hl.1 (Nat.le_of_ble_eq_true rfl) rfl rfl ⟨by decide, by decide⟩ ⟨by decide, by decide⟩ d_Model_at_90 (fun _ h => h) hL (fun v5 H6 locs hp7 hL => ?_)
        obtain ⟨rfl, hR8, z9, fr10⟩ := hp7
        exact g_iret X B ⟨rfl, hR8, z9, fun p hp => (fr10 p (by omega))⟩ hL d_Model_at_93 (by omega) (by omega)
      · refine lv_iload_n X.1.1 X.1.2.1 d_Model_at_54 rfl (gl_at hl rfl) ?_
        refine lv_iconst (v := (-1)) X.1.1 X.1.2.1 d_Model_at_55 (by decide) ?_
        refine lv_icmp_eq X.1.1 X.1.2.1 d_Model_at_56 rfl (fun hc56 => ?_) (fun hc56 => ?_)
        · refine lv_aload_n X.1.1 X.1.2.1 d_Model_at_87 rfl (gl_at hl rfl) ?_
          refine lv_iload_n X.1.1 X.1.2.1 d_Model_at_88 rfl (gl_at hl rfl) ?_
          refine lv_iconst (v := nI 2) X.1.1 X.1.2.1 d_Model_at_89 (by decide) ?_
          refine g_cv (A := (fun p => d ≤ p ∧ p ≤ d + 28)) X gWS_good mw_Model_161 kc_Model mo1 (c_Model_tellN l D q H d w ar hR (nI 2)) (fun _ _ _ => trivial) gBlind.tt rfl rfl hl.1 (Nat.le_of_ble_eq_true rfl) rfl rfl ⟨by decide, by decide⟩ ⟨by decide, by decide⟩ d_Model_at_90 (fun _ h => h) hL (fun v11 H12 locs hp13 hL => ?_)
          obtain ⟨rfl, hR14, z15, fr16⟩ := hp13
          exact g_iret X B ⟨rfl, hR14, z15, fun p hp => (fr16 p (by omega))⟩ hL d_Model_at_93 (by omega) (by omega)
        · exact absurd rfl hc56
    · refine lv_iload_n X.1.1 X.1.2.1 d_Model_at_18 rfl (gl_at hl rfl) ?_
      refine lv_aload_n X.1.1 X.1.2.1 d_Model_at_19 rfl (gl_at hl rfl) ?_
      refine lv_iload_n X.1.1 X.1.2.1 d_Model_at_20 rfl (gl_at hl rfl) ?_
      refine g_cv (A := (fun p => d ≤ p ∧ p ≤ d + 28)) X gWS_good mw_Model_168 kc_Model mo1 (c_Model_size l D q H d w ar hR c0 org srt bt tn mp hv hN kk hk n chg hm v hvc) (fun _ _ _ => trivial) gBlind.tt rfl rfl hl.1 (Nat.le_of_ble_eq_true rfl) rfl rfl ⟨by decide, by decide⟩ ⟨by decide, by decide⟩ d_Model_at_21 (fun _ h => h) hL (fun v17 H18 locs hp19 hL => ?_)
      obtain ⟨rfl, hR20, z21, fr22⟩ := hp19
      refine lv_icmp_lt X.1.1 X.1.2.1 d_Model_at_24 rfl (fun hc24 => ?_) (fun hc24 => ?_)
      · exact (hbd.elim hc15 (fun h9 => gi_ltn hc24 h9)).elim
      · refine lv_iconst (v := (-1)) X.1.1 X.1.2.1 d_Model_at_27 (by decide) ?_
        refine lv_goto X.1.1 X.1.2.1 d_Model_at_28 rfl ?_
        refine g_istn X.1.1 X.1.2.1 hl 3 d_Model_at_44 rfl (Nat.le_of_ble_eq_true rfl) rfl (fun ls hl => ?_)
        refine lv_iconst (v := nI 0) X.1.1 X.1.2.1 d_Model_at_45 (by decide) ?_
        refine g_ist X.1.1 X.1.2.1 hl 4 d_Model_at_46 (Nat.le_of_ble_eq_true rfl) rfl (fun ls hl => ?_)
        refine lv_iload X.1.1 X.1.2.1 d_Model_at_48 (gl_at hl rfl) ?_
        refine lv_iload_n X.1.1 X.1.2.1 d_Model_at_50 rfl (gl_at hl rfl) ?_
        refine lv_icmp_ge X.1.1 X.1.2.1 d_Model_at_51 rfl (fun hc51 => ?_) (fun hc51 => ?_)
        · refine lv_aload_n X.1.1 X.1.2.1 d_Model_at_87 rfl (gl_at hl rfl) ?_
          refine lv_iload_n X.1.1 X.1.2.1 d_Model_at_88 rfl (gl_at hl rfl) ?_
          refine lv_iconst (v := nI 2) X.1.1 X.1.2.1 d_Model_at_89 (by decide) ?_
          have mo23 : va_at D CL (d, .inr (10, [.int (nI 0), .ref (d + 1), .int (w 2), .ref (d + 2), .ref (d + 3), .ref (d + 4), .ref (d + 5), .ref (d + 6), .int (w 8), .ref (d + 7), .ref (d + 8), .ref (d + 9), .ref (d + 10), .ref (d + 11), .ref (d + 12), .ref (d + 13), .ref (d + 14), .ref (d + 15), .ref (d + 16), .ref (d + 17), .int (w 20), .ref (d + 18), .int (w 22), .ref (d + 19), .ref (d + 20), .ref (d + 21), .int (w 26), .int (w 27), .int (w 28), .ref (d + 22), .ref (d + 23), .ref (d + 24), .ref (d + 25), .ref (d + 26), .int (w 34), .ref (d + 27), .ref (d + 28), .int (w 37), .int (w 38)])) H18 := hR20.1
          refine g_cv (A := (fun p => d ≤ p ∧ p ≤ d + 28)) X gWS_good mw_Model_161 kc_Model mo23 (c_Model_tellN l D q H18 d (upd w 0 (nI 0)) ar hR20 (nI 2)) (fun _ _ _ => trivial) gBlind.tt rfl rfl hl.1 (Nat.le_of_ble_eq_true rfl) rfl rfl ⟨by decide, by decide⟩ ⟨by decide, by decide⟩ d_Model_at_90 (fun _ h => h) hL (fun v24 H25 locs hp26 hL => ?_)
          obtain ⟨rfl, hR27, z28, fr29⟩ := hp26
          replace hR27 : dR D q H25 d (upd w 0 (nI 2)) ar := hR27.as (fun j => by first | rfl | (simp only [upd]; (repeat' split) <;> first | rfl | omega)) (fun j => by first | rfl | (simp only [va_up]; (repeat' split) <;> first | rfl | omega))
          exact g_iret X B ⟨rfl, hR27, (z28.trans z21), fun p hp => ((fr29 p (by omega)).trans (fr22 p (by omega)))⟩ hL d_Model_at_93 (by omega) (by omega)
        · refine lv_iload_n X.1.1 X.1.2.1 d_Model_at_54 rfl (gl_at hl rfl) ?_
          refine lv_iconst (v := (-1)) X.1.1 X.1.2.1 d_Model_at_55 (by decide) ?_
          refine lv_icmp_eq X.1.1 X.1.2.1 d_Model_at_56 rfl (fun hc56 => ?_) (fun hc56 => ?_)
          · refine lv_aload_n X.1.1 X.1.2.1 d_Model_at_87 rfl (gl_at hl rfl) ?_
            refine lv_iload_n X.1.1 X.1.2.1 d_Model_at_88 rfl (gl_at hl rfl) ?_
            refine lv_iconst (v := nI 2) X.1.1 X.1.2.1 d_Model_at_89 (by decide) ?_
            have mo30 : va_at D CL (d, .inr (10, [.int (nI 0), .ref (d + 1), .int (w 2), .ref (d + 2), .ref (d + 3), .ref (d + 4), .ref (d + 5), .ref (d + 6), .int (w 8), .ref (d + 7), .ref (d + 8), .ref (d + 9), .ref (d + 10), .ref (d + 11), .ref (d + 12), .ref (d + 13), .ref (d + 14), .ref (d + 15), .ref (d + 16), .ref (d + 17), .int (w 20), .ref (d + 18), .int (w 22), .ref (d + 19), .ref (d + 20), .ref (d + 21), .int (w 26), .int (w 27), .int (w 28), .ref (d + 22), .ref (d + 23), .ref (d + 24), .ref (d + 25), .ref (d + 26), .int (w 34), .ref (d + 27), .ref (d + 28), .int (w 37), .int (w 38)])) H18 := hR20.1
            refine g_cv (A := (fun p => d ≤ p ∧ p ≤ d + 28)) X gWS_good mw_Model_161 kc_Model mo30 (c_Model_tellN l D q H18 d (upd w 0 (nI 0)) ar hR20 (nI 2)) (fun _ _ _ => trivial) gBlind.tt rfl rfl hl.1 (Nat.le_of_ble_eq_true rfl) rfl rfl ⟨by decide, by decide⟩ ⟨by decide, by decide⟩ d_Model_at_90 (fun _ h => h) hL (fun v31 H32 locs hp33 hL => ?_)
            obtain ⟨rfl, hR34, z35, fr36⟩ := hp33
            replace hR34 : dR D q H32 d (upd w 0 (nI 2)) ar := hR34.as (fun j => by first | rfl | (simp only [upd]; (repeat' split) <;> first | rfl | omega)) (fun j => by first | rfl | (simp only [va_up]; (repeat' split) <;> first | rfl | omega))
            exact g_iret X B ⟨rfl, hR34, (z35.trans z21), fun p hp => ((fr36 p (by omega)).trans (fr22 p (by omega)))⟩ hL d_Model_at_93 (by omega) (by omega)
          · exact absurd rfl hc56
  · replace hc5 := gz_f hc5
    exact absurd (h_ok_of (by omega) hvc) hc5

set_option maxHeartbeats 4000000 in
set_option maxRecDepth 100000 in
/-- at -/
theorem c_Model_at (l : Launch) (D : va_G) (q : Nat → ClassId) (H : Heap) (d : Nat) (w : Nat → Int32) (ar : Nat → Nat → Int32) (hR : dR D q H d w ar) (c0 : Nat) (org : Nat → Option Nat) (srt : Nat → Nat) (bt : Nat → List Nat) (tn mp : Nat → Nat) (hv : pV w ar c0 org srt bt) (hN : pN c0 org srt tn mp) (kk : Nat → List Nat) (hk : pK ar kk) (n chg : Nat → Nat) (hm : pM ar n chg) (v : Nat) (hvc : v < c0) (kx : Nat) (hkx : kx < v_cnt (fun j => v_in org srt bt v (kk j)) (64 * mp v) (n (mp v))) : gC l y_Model_at (Cond.code y_Model_at b_Model_at 5 (some .int) :: gWS) (gR 5 132 0 0) D CL (gY q) (fun _ => True) [.ref d, .int (nI v), .int (nI kx)] H (fun v1 H1 => ((d_it (fun ys o => d_nr (fun xs => v_in org srt bt v xs = true ∧ d_cd (tn v) 1 0 (some ys) xs) (tn v) 1 kk (64 * mp v) (n (mp v)) o) (fun o => d_nr (fun xs => v_in org srt bt v xs = true ∧ d_cd (tn v) 1 1 none xs) (tn v) 1 kk (64 * mp v) (n (mp v)) o) kk kx none ∧ v1 = some (.int 0) ∧ dR D q H1 d (upd w 0 (nI 2)) ar) ∨ ∃ r0 F, d_it (fun ys o => d_nr (fun xs => v_in org srt bt v xs = true ∧ d_cd (tn v) 1 0 (some ys) xs) (tn v) 1 kk (64 * mp v) (n (mp v)) o) (fun o => d_nr (fun xs => v_in org srt bt v xs = true ∧ d_cd (tn v) 1 1 none xs) (tn v) 1 kk (64 * mp v) (n (mp v)) o) kk kx (some r0) ∧ v1 = some (.int (ar 6 r0)) ∧ tXo F 0 (kk r0) ∧ dR D q H1 d (upd (upd w 0 (nI 0)) 20 (nI ((kk r0).length))) (va_up ar 17 F)) ∧ H1.size = H.size ∧ ∀ p : Nat, (p < d ∨ d + 28 < p) → H1[p]? = H[p]?) 0 0 (fun p => d ≤ p ∧ p ≤ d + 28) := by
  refine gC.ofW R_Model "at" (by decide) rfl rfl ?_
  intro p e s m below meth c hadm X hE hH B hne
  refine g_entry [some (.ref d), some (.int (nI v)), some (.int (nI kx)), none, none] rfl rfl (Nat.le_of_ble_eq_true rfl) (fun ls hl => ?_)
  have h12 := hv.2.2.1
  have hmp := (hN v hvc).1
  obtain ⟨hm1a, hm2, hm3⟩ := hm (mp v) hmp
  have hcn := v_cnt_le (fun j => v_in org srt bt v (kk j)) (64 * mp v) (n (mp v))
  refine lv_aload_n X.1.1 X.1.2.1 d_Model_at_0 rfl (gl_at hl rfl) ?_
  refine lv_iload_n X.1.1 X.1.2.1 d_Model_at_1 rfl (gl_at hl rfl) ?_
  have mo1 : va_at D CL (d, .inr (10, [.int (w 0), .ref (d + 1), .int (w 2), .ref (d + 2), .ref (d + 3), .ref (d + 4), .ref (d + 5), .ref (d + 6), .int (w 8), .ref (d + 7), .ref (d + 8), .ref (d + 9), .ref (d + 10), .ref (d + 11), .ref (d + 12), .ref (d + 13), .ref (d + 14), .ref (d + 15), .ref (d + 16), .ref (d + 17), .int (w 20), .ref (d + 18), .int (w 22), .ref (d + 19), .ref (d + 20), .ref (d + 21), .int (w 26), .int (w 27), .int (w 28), .ref (d + 22), .ref (d + 23), .ref (d + 24), .ref (d + 25), .ref (d + 26), .int (w 34), .ref (d + 27), .ref (d + 28), .int (w 37), .int (w 38)])) H := hR.1
  refine g_cv (A := (fun p => d ≤ p ∧ p ≤ d + 28)) X gWS_good mw_Model_122 kc_Model mo1 (c_Model_isView l D q H d w ar hR c0 hv.1 (nI v)) (fun _ _ _ => trivial) gBlind.tt rfl rfl hl.1 (Nat.le_of_ble_eq_true rfl) rfl rfl ⟨by decide, by decide⟩ ⟨by decide, by decide⟩ d_Model_at_2 (fun _ h => h.elim) (fun _ h => by cases h) (fun v2 H3 locs hp4 hL => ?_)
  obtain ⟨rfl, hHe⟩ := hp4
  rw [hHe]
  refine lv_if_ne X.1.1 X.1.2.1 d_Model_at_5 rfl (fun hc5 => ?_) (fun hc5 => ?_)
  · replace hc5 := gz_t hc5
    refine lv_iload_n X.1.1 X.1.2.1 d_Model_at_14 rfl (gl_at hl rfl) ?_
    refine lv_if_lt X.1.1 X.1.2.1 d_Model_at_15 rfl (fun hc15 => ?_) (fun hc15 => ?_)
    · exact absurd hc15 (nI_nneg (by omega))
    · refine lv_iload_n X.1.1 X.1.2.1 d_Model_at_18 rfl (gl_at hl rfl) ?_
      refine lv_aload_n X.1.1 X.1.2.1 d_Model_at_19 rfl (gl_at hl rfl) ?_
      refine lv_iload_n X.1.1 X.1.2.1 d_Model_at_20 rfl (gl_at hl rfl) ?_
      refine g_cv (A := (fun p => d ≤ p ∧ p ≤ d + 28)) X gWS_good mw_Model_168 kc_Model mo1 (c_Model_size l D q H d w ar hR c0 org srt bt tn mp hv hN kk hk n chg hm v hvc) (fun _ _ _ => trivial) gBlind.tt rfl rfl hl.1 (Nat.le_of_ble_eq_true rfl) rfl rfl ⟨by decide, by decide⟩ ⟨by decide, by decide⟩ d_Model_at_21 (fun _ h => h) hL (fun v5 H6 locs hp7 hL => ?_)
      obtain ⟨rfl, hR8, z9, fr10⟩ := hp7
      refine gn_lt X.1.1 X.1.2.1 kx (v_cnt (fun j => v_in org srt bt v (kk j)) (64 * mp v) (n (mp v))) (by omega) (by omega) d_Model_at_24 rfl (fun hc24 => ?_) (fun hc24 => ?_)
      · refine lv_aload_n X.1.1 X.1.2.1 d_Model_at_31 rfl (gl_at hl rfl) ?_
        refine lv_iload_n X.1.1 X.1.2.1 d_Model_at_32 rfl (gl_at hl rfl) ?_
        refine lv_iconst (v := nI 1) X.1.1 X.1.2.1 d_Model_at_33 (by decide) ?_
        refine lv_iconst (v := nI 1) X.1.1 X.1.2.1 d_Model_at_34 (by decide) ?_
        refine lv_aload_n X.1.1 X.1.2.1 d_Model_at_35 rfl (gl_at hl rfl) ?_
        have mo11 : va_at D CL (d, .inr (10, [.int (nI 0), .ref (d + 1), .int (w 2), .ref (d + 2), .ref (d + 3), .ref (d + 4), .ref (d + 5), .ref (d + 6), .int (w 8), .ref (d + 7), .ref (d + 8), .ref (d + 9), .ref (d + 10), .ref (d + 11), .ref (d + 12), .ref (d + 13), .ref (d + 14), .ref (d + 15), .ref (d + 16), .ref (d + 17), .int (w 20), .ref (d + 18), .int (w 22), .ref (d + 19), .ref (d + 20), .ref (d + 21), .int (w 26), .int (w 27), .int (w 28), .ref (d + 22), .ref (d + 23), .ref (d + 24), .ref (d + 25), .ref (d + 26), .int (w 34), .ref (d + 27), .ref (d + 28), .int (w 37), .int (w 38)])) H6 := hR8.1
        refine g_get X kc_Model mo11 1 (by decide) lk_Model_7 rfl d_Model_at_36 ?_
        refine lv_iconst (v := nI 0) X.1.1 X.1.2.1 d_Model_at_39 (by decide) ?_
        refine lv_iconst (v := (-1)) X.1.1 X.1.2.1 d_Model_at_40 (by decide) ?_
        refine g_cv (A := (fun p => d ≤ p ∧ p ≤ d + 28)) X gWS_good mw_Model_157 kc_Model mo11 (c_Model_nearestN l D q H6 d (upd w 0 (nI 0)) ar hR8 c0 org srt bt tn mp hv hN kk hk n chg hm v hvc 1 1 (by omega) (by omega) (d + 1) 0) (fun _ _ _ => trivial) gBlind.tt rfl rfl hl.1 (Nat.le_of_ble_eq_true rfl) rfl rfl ⟨by decide, by decide⟩ ⟨by decide, by decide⟩ d_Model_at_41 (fun _ h => h.elim) hL (fun v12 H13 locs hp14 hL => ?_)
        obtain ⟨⟨o, rfl, ho⟩, hHe⟩ := hp14
        rw [hHe]
        refine g_istn X.1.1 X.1.2.1 hl 3 d_Model_at_44 rfl (Nat.le_of_ble_eq_true rfl) rfl (fun ls hl => ?_)
        refine lv_iconst (v := nI 0) X.1.1 X.1.2.1 d_Model_at_45 (by decide) ?_
        refine g_ist X.1.1 X.1.2.1 hl 4 d_Model_at_46 (Nat.le_of_ble_eq_true rfl) rfl (fun ls hl => ?_)
        have loop48 : ∀ (fu : Nat) (i : Nat) (o : Option Nat) (locs : List Loc) (ls : Array Slot), kx - i < fu → (i ≤ kx) → (d_it (fun ys o => d_nr (fun xs => v_in org srt bt v xs = true ∧ d_cd (tn v) 1 0 (some ys) xs) (tn v) 1 kk (64 * mp v) (n (mp v)) o) (fun o => d_nr (fun xs => v_in org srt bt v xs = true ∧ d_cd (tn v) 1 1 none xs) (tn v) 1 kk (64 * mp v) (n (mp v)) o) kk i o) → (∀ r, o = some r → r < 192) → (∀ x ∈ locs, (fun p => d ≤ p ∧ p ≤ d + 28) x.base) → gl ls [some (.ref d), some (.int (nI v)), some (.int (nI kx)), some (.int (gm1 o)), some (.int (nI i))] → W p l e (gR 5 132 0 0) s m ([.ref d, .int (nI v), .int (nI kx)] : List Value).toArray below meth c H6 locs 0 0 (gQ below ([.ref d, .int (nI v), .int (nI kx)] : List Value).toArray s (fun v1 H1 => ((d_it (fun ys o => d_nr (fun xs => v_in org srt bt v xs = true ∧ d_cd (tn v) 1 0 (some ys) xs) (tn v) 1 kk (64 * mp v) (n (mp v)) o) (fun o => d_nr (fun xs => v_in org srt bt v xs = true ∧ d_cd (tn v) 1 1 none xs) (tn v) 1 kk (64 * mp v) (n (mp v)) o) kk kx none ∧ v1 = some (.int 0) ∧ dR D q H1 d (upd w 0 (nI 2)) ar) ∨ ∃ r0 F, d_it (fun ys o => d_nr (fun xs => v_in org srt bt v xs = true ∧ d_cd (tn v) 1 0 (some ys) xs) (tn v) 1 kk (64 * mp v) (n (mp v)) o) (fun o => d_nr (fun xs => v_in org srt bt v xs = true ∧ d_cd (tn v) 1 1 none xs) (tn v) 1 kk (64 * mp v) (n (mp v)) o) kk kx (some r0) ∧ v1 = some (.int (ar 6 r0)) ∧ tXo F 0 (kk r0) ∧ dR D q H1 d (upd (upd w 0 (nI 0)) 20 (nI ((kk r0).length))) (va_up ar 17 F)) ∧ H1.size = H.size ∧ ∀ p : Nat, (p < d ∨ d + 28 < p) → H1[p]? = H[p]?) 0 0 (fun p => d ≤ p ∧ p ≤ d + 28)) (F0 m 48 ls []) := by
          intro fu
          induction fu with
          | zero => intro i o locs ls hmu; omega
          | succ fu ih48 =>
            intro i o locs ls hmu48 hi48_0 hi48_1 hi48_2 hL hl
            refine lv_iload X.1.1 X.1.2.1 d_Model_at_48 (gl_at hl rfl) ?_
            refine lv_iload_n X.1.1 X.1.2.1 d_Model_at_50 rfl (gl_at hl rfl) ?_
            refine gn_ge X.1.1 X.1.2.1 i kx (by omega) (by omega) d_Model_at_51 rfl (fun hc51 => ?_) (fun hc51 => ?_)
            · refine lv_aload_n X.1.1 X.1.2.1 d_Model_at_87 rfl (gl_at hl rfl) ?_
              refine lv_iload_n X.1.1 X.1.2.1 d_Model_at_88 rfl (gl_at hl rfl) ?_
              refine lv_iconst (v := nI 2) X.1.1 X.1.2.1 d_Model_at_89 (by decide) ?_
              cases o with
              | none =>
                  refine g_cv (A := (fun p => d ≤ p ∧ p ≤ d + 28)) X gWS_good mw_Model_161 kc_Model mo11 (c_Model_tellN l D q H6 d (upd w 0 (nI 0)) ar hR8 (nI 2)) (fun _ _ _ => trivial) gBlind.tt rfl rfl hl.1 (Nat.le_of_ble_eq_true rfl) rfl rfl ⟨by decide, by decide⟩ ⟨by decide, by decide⟩ d_Model_at_90 (fun _ h => h) hL (fun v15 H16 locs hp17 hL => ?_)
                  obtain ⟨rfl, hR18, z19, fr20⟩ := hp17
                  replace hR18 : dR D q H16 d (upd w 0 (nI 2)) ar := hR18.as (fun j => by first | rfl | (simp only [upd]; (repeat' split) <;> first | rfl | omega)) (fun j => by first | rfl | (simp only [va_up]; (repeat' split) <;> first | rfl | omega))
                  exact g_iret X B ⟨Or.inl ⟨(by have e9 := d_it_none hi48_1 (kx - i); rw [show i + (kx - i) = kx by omega] at e9; exact e9), rfl, hR18⟩, (z19.trans z9), fun p hp => ((fr20 p (by omega)).trans (fr10 p (by omega)))⟩ hL d_Model_at_93 (by omega) (by omega)
              | some r0 =>
                  have hr0 := hi48_2 r0 rfl
                  refine g_cv (A := (fun p => d ≤ p ∧ p ≤ d + 28)) X gWS_good mw_Model_161 kc_Model mo11 (c_Model_tell l D q H6 d (upd w 0 (nI 0)) ar hR8 kk hk r0 (by omega) (nI 2)) (fun _ _ _ => trivial) gBlind.tt rfl rfl hl.1 (Nat.le_of_ble_eq_true rfl) rfl rfl ⟨by decide, by decide⟩ ⟨by decide, by decide⟩ d_Model_at_90 (fun _ h => h) hL (fun v21 H22 locs hp23 hL => ?_)
                  obtain ⟨F, ⟨rfl, hF⟩, hp9⟩ := hp23
                  obtain ⟨hR24, z25, fr26⟩ := hp9
                  exact g_iret X B ⟨Or.inr ⟨r0, F, (by rw [show kx = i by omega]; exact hi48_1), rfl, hF, hR24⟩, (z25.trans z9), fun p hp => ((fr26 p (by omega)).trans (fr10 p (by omega)))⟩ hL d_Model_at_93 (by omega) (by omega)
            · cases o with
              | none =>
                  refine lv_iload_n X.1.1 X.1.2.1 d_Model_at_54 rfl (gl_at hl rfl) ?_
                  refine lv_iconst (v := (-1)) X.1.1 X.1.2.1 d_Model_at_55 (by decide) ?_
                  refine lv_icmp_eq X.1.1 X.1.2.1 d_Model_at_56 rfl (fun hc56 => ?_) (fun hc56 => ?_)
                  · refine lv_aload_n X.1.1 X.1.2.1 d_Model_at_87 rfl (gl_at hl rfl) ?_
                    refine lv_iload_n X.1.1 X.1.2.1 d_Model_at_88 rfl (gl_at hl rfl) ?_
                    refine lv_iconst (v := nI 2) X.1.1 X.1.2.1 d_Model_at_89 (by decide) ?_
                    refine g_cv (A := (fun p => d ≤ p ∧ p ≤ d + 28)) X gWS_good mw_Model_161 kc_Model mo11 (c_Model_tellN l D q H6 d (upd w 0 (nI 0)) ar hR8 (nI 2)) (fun _ _ _ => trivial) gBlind.tt rfl rfl hl.1 (Nat.le_of_ble_eq_true rfl) rfl rfl ⟨by decide, by decide⟩ ⟨by decide, by decide⟩ d_Model_at_90 (fun _ h => h) hL (fun v27 H28 locs hp29 hL => ?_)
                    obtain ⟨rfl, hR30, z31, fr32⟩ := hp29
                    replace hR30 : dR D q H28 d (upd w 0 (nI 2)) ar := hR30.as (fun j => by first | rfl | (simp only [upd]; (repeat' split) <;> first | rfl | omega)) (fun j => by first | rfl | (simp only [va_up]; (repeat' split) <;> first | rfl | omega))
                    exact g_iret X B ⟨Or.inl ⟨(by have e9 := d_it_none hi48_1 (kx - i); rw [show i + (kx - i) = kx by omega] at e9; exact e9), rfl, hR30⟩, (z31.trans z9), fun p hp => ((fr32 p (by omega)).trans (fr10 p (by omega)))⟩ hL d_Model_at_93 (by omega) (by omega)
                  · exact absurd rfl hc56
              | some r0 =>
                  have hr0 := hi48_2 r0 rfl
                  obtain ⟨hb1, hb2, hb3, hb4⟩ := hk r0 hr0
                  refine lv_iload_n X.1.1 X.1.2.1 d_Model_at_54 rfl (gl_at hl rfl) ?_
                  refine lv_iconst (v := (-1)) X.1.1 X.1.2.1 d_Model_at_55 (by decide) ?_
                  refine lv_icmp_eq X.1.1 X.1.2.1 d_Model_at_56 rfl (fun hc56 => ?_) (fun hc56 => ?_)
                  · exact absurd hc56 (d_m1 (by omega))
                  · refine lv_aload_n X.1.1 X.1.2.1 d_Model_at_59 rfl (gl_at hl rfl) ?_
                    refine lv_iload_n X.1.1 X.1.2.1 d_Model_at_60 rfl (gl_at hl rfl) ?_
                    refine lv_iconst (v := nI 1) X.1.1 X.1.2.1 d_Model_at_61 (by decide) ?_
                    refine lv_iconst (v := nI 0) X.1.1 X.1.2.1 d_Model_at_62 (by decide) ?_
                    refine lv_aload_n X.1.1 X.1.2.1 d_Model_at_63 rfl (gl_at hl rfl) ?_
                    refine g_get X kc_Model mo11 5 (by decide) lk_Model_19 rfl d_Model_at_64 ?_
                    refine lv_bipush (v := nI 8) X.1.1 X.1.2.1 d_Model_at_67 (by decide) ?_
                    refine lv_iload_n X.1.1 X.1.2.1 d_Model_at_69 rfl (gl_at hl rfl) ?_
                    refine lv_imul X.1.1 X.1.2.1 d_Model_at_70 ?_
                    refine g_top (nI (8 * r0)) (pk_mul _ _) ?_
                    refine lv_aload_n X.1.1 X.1.2.1 d_Model_at_71 rfl (gl_at hl rfl) ?_
                    refine g_get X kc_Model mo11 6 (by decide) lk_Model_22 rfl d_Model_at_72 ?_
                    refine lv_iload_n X.1.1 X.1.2.1 d_Model_at_75 rfl (gl_at hl rfl) ?_
                    have ma33 : va_at D CL (d + 5, .inl (q 0, 192, .inl (ar 5))) H6 := hR8.a5
                    refine g_iald X 0 ma33 rfl r0 (by omega) (by omega) d_Model_at_76 ?_
                    refine g_top (nI ((kk r0).length)) hb2 ?_
                    refine g_cv (A := (fun p => d ≤ p ∧ p ≤ d + 28)) X gWS_good mw_Model_157 kc_Model mo11 (c_Model_nearest l D q H6 d (upd w 0 (nI 0)) ar hR8 c0 org srt bt tn mp hv hN kk hk n chg hm v hvc 1 0 (by omega) (by omega) (d + 4) 1536 (ar 4) hR8.a4 (8 * r0) _ (kk r0) rfl hb1 (by omega) (by omega) hb4) (fun _ _ _ => trivial) gBlind.tt rfl rfl hl.1 (Nat.le_of_ble_eq_true rfl) rfl rfl ⟨by decide, by decide⟩ ⟨by decide, by decide⟩ d_Model_at_77 (fun _ h => h.elim) hL (fun v34 H35 locs hp36 hL => ?_)
                    obtain ⟨⟨o2, rfl, ho2⟩, hHe⟩ := hp36
                    rw [hHe]
                    refine g_istn X.1.1 X.1.2.1 hl 3 d_Model_at_80 rfl (Nat.le_of_ble_eq_true rfl) rfl (fun ls hl => ?_)
                    refine g_iinc X.1.1 X.1.2.1 (nI (i + 1)) hl 4 d_Model_at_81 rfl (nI_1 _) rfl (fun ls hl => ?_)
                    refine lv_goto X.1.1 X.1.2.1 d_Model_at_84 rfl ?_
                    exact ih48 (i + 1) o2 locs ls (by omega) (by omega) ⟨some r0, hi48_1, ho2⟩ (fun r hr => by subst hr; have := ho2.lt; omega) hL hl
        exact loop48 _ 0 o locs ls (Nat.lt_succ_self _) (Nat.zero_le _) ho (fun r hr => by subst hr; have := ho.lt; omega) hL hl
      · omega
  · replace hc5 := gz_f hc5
    exact absurd (h_ok_of (by omega) hvc) hc5

set_option maxHeartbeats 4000000 in
set_option maxRecDepth 100000 in
/-- poll -/
theorem c_Model_poll (l : Launch) (D : va_G) (q : Nat → ClassId) (H : Heap) (d : Nat) (w : Nat → Int32) (ar : Nat → Nat → Int32) (hR : dR D q H d w ar) (c0 : Nat) (org : Nat → Option Nat) (srt : Nat → Nat) (bt : Nat → List Nat) (tn mp : Nat → Nat) (hv : pV w ar c0 org srt bt) (hN : pN c0 org srt tn mp) (kk : Nat → List Nat) (hk : pK ar kk) (n chg : Nat → Nat) (hm : pM ar n chg) (v : Nat) (hvc : v < c0) (e0 : Nat) (he0 : e0 ≤ 1) : gC l y_Model_poll (Cond.code y_Model_poll b_Model_poll 5 (some .int) :: gWS) (gR 5 132 0 0) D CL (gY q) (fun _ => True) [.ref d, .int (nI v), .int (nI e0)] H (fun v1 H1 => ((d_nr (fun xs => v_in org srt bt v xs = true ∧ d_cd (tn v) (1 - e0) 1 none xs) (tn v) (1 - e0) kk (64 * mp v) (n (mp v)) none ∧ v1 = some (.int 0) ∧ dR D q H1 d (upd w 0 (nI 2)) ar) ∨ ∃ r0 F G, d_nr (fun xs => v_in org srt bt v xs = true ∧ d_cd (tn v) (1 - e0) 1 none xs) (tn v) (1 - e0) kk (64 * mp v) (n (mp v)) (some r0) ∧ v1 = some (.int (ar 6 r0)) ∧ tXo F 0 (kk r0) ∧ G = va_cpy (ar 4) (ar 4) (8 * (64 * mp v + n (mp v) - 1)) (8 * r0) 8 ∧ dR D q H1 d (upd (upd w 0 (nI 0)) 20 (nI ((kk r0).length))) (va_up (va_up (va_up (va_up (va_up (va_up ar 2 (upd (ar 2) (mp v) (nI (n (mp v) - 1)))) 3 (upd (ar 3) (mp v) (nI (chg (mp v) + 1)))) 4 G) 5 (upd (ar 5) r0 (nI (kk (64 * mp v + n (mp v) - 1)).length))) 6 (upd (ar 6) r0 (ar 6 (64 * mp v + n (mp v) - 1)))) 17 F)) ∧ H1.size = H.size ∧ ∀ p : Nat, (p < d ∨ d + 28 < p) → H1[p]? = H[p]?) 0 0 (fun p => d ≤ p ∧ p ≤ d + 28) := by
  refine gC.ofW R_Model "poll" (by decide) rfl rfl ?_
  intro p e s m below meth c hadm X hE hH B hne
  refine g_entry [some (.ref d), some (.int (nI v)), some (.int (nI e0)), none, none] rfl rfl (Nat.le_of_ble_eq_true rfl) (fun ls hl => ?_)
  have h12 := hv.2.2.1
  have hmp := (hN v hvc).1
  obtain ⟨hm1a, hm2, hm3⟩ := hm (mp v) hmp
  refine lv_aload_n X.1.1 X.1.2.1 d_Model_poll_0 rfl (gl_at hl rfl) ?_
  refine lv_iload_n X.1.1 X.1.2.1 d_Model_poll_1 rfl (gl_at hl rfl) ?_
  have mo1 : va_at D CL (d, .inr (10, [.int (w 0), .ref (d + 1), .int (w 2), .ref (d + 2), .ref (d + 3), .ref (d + 4), .ref (d + 5), .ref (d + 6), .int (w 8), .ref (d + 7), .ref (d + 8), .ref (d + 9), .ref (d + 10), .ref (d + 11), .ref (d + 12), .ref (d + 13), .ref (d + 14), .ref (d + 15), .ref (d + 16), .ref (d + 17), .int (w 20), .ref (d + 18), .int (w 22), .ref (d + 19), .ref (d + 20), .ref (d + 21), .int (w 26), .int (w 27), .int (w 28), .ref (d + 22), .ref (d + 23), .ref (d + 24), .ref (d + 25), .ref (d + 26), .int (w 34), .ref (d + 27), .ref (d + 28), .int (w 37), .int (w 38)])) H := hR.1
  refine g_cv (A := (fun p => d ≤ p ∧ p ≤ d + 28)) X gWS_good mw_Model_122 kc_Model mo1 (c_Model_isView l D q H d w ar hR c0 hv.1 (nI v)) (fun _ _ _ => trivial) gBlind.tt rfl rfl hl.1 (Nat.le_of_ble_eq_true rfl) rfl rfl ⟨by decide, by decide⟩ ⟨by decide, by decide⟩ d_Model_poll_2 (fun _ h => h.elim) (fun _ h => by cases h) (fun v2 H3 locs hp4 hL => ?_)
  obtain ⟨rfl, hHe⟩ := hp4
  rw [hHe]
  refine lv_if_ne X.1.1 X.1.2.1 d_Model_poll_5 rfl (fun hc5 => ?_) (fun hc5 => ?_)
  · replace hc5 := gz_t hc5
    refine lv_aload_n X.1.1 X.1.2.1 d_Model_poll_14 rfl (gl_at hl rfl) ?_
    refine lv_iload_n X.1.1 X.1.2.1 d_Model_poll_15 rfl (gl_at hl rfl) ?_
    refine lv_iload_n X.1.1 X.1.2.1 d_Model_poll_16 rfl (gl_at hl rfl) ?_
    refine gn_ne0 X.1.1 X.1.2.1 e0 (by omega) d_Model_poll_17 rfl (fun hc17 => ?_) (fun hc17 => ?_)
    · obtain rfl : e0 = 1 := by omega
      refine lv_iconst (v := nI 0) X.1.1 X.1.2.1 d_Model_poll_24 (by decide) ?_
      refine lv_iconst (v := nI 1) X.1.1 X.1.2.1 d_Model_poll_25 (by decide) ?_
      refine lv_aload_n X.1.1 X.1.2.1 d_Model_poll_26 rfl (gl_at hl rfl) ?_
      refine g_get X kc_Model mo1 1 (by decide) lk_Model_7 rfl d_Model_poll_27 ?_
      refine lv_iconst (v := nI 0) X.1.1 X.1.2.1 d_Model_poll_30 (by decide) ?_
      refine lv_iconst (v := (-1)) X.1.1 X.1.2.1 d_Model_poll_31 (by decide) ?_
      refine g_cv (A := (fun p => d ≤ p ∧ p ≤ d + 28)) X gWS_good mw_Model_157 kc_Model mo1 (c_Model_nearestN l D q H d w ar hR c0 org srt bt tn mp hv hN kk hk n chg hm v hvc 0 1 (by omega) (by omega) (d + 1) 0) (fun _ _ _ => trivial) gBlind.tt rfl rfl hl.1 (Nat.le_of_ble_eq_true rfl) rfl rfl ⟨by decide, by decide⟩ ⟨by decide, by decide⟩ d_Model_poll_32 (fun _ h => h.elim) hL (fun v5 H6 locs hp7 hL => ?_)
      obtain ⟨⟨o, rfl, ho⟩, hHe⟩ := hp7
      rw [hHe]
      refine g_istn X.1.1 X.1.2.1 hl 3 d_Model_poll_35 rfl (Nat.le_of_ble_eq_true rfl) rfl (fun ls hl => ?_)
      refine lv_aload_n X.1.1 X.1.2.1 d_Model_poll_36 rfl (gl_at hl rfl) ?_
      refine lv_iload_n X.1.1 X.1.2.1 d_Model_poll_37 rfl (gl_at hl rfl) ?_
      refine lv_iconst (v := nI 2) X.1.1 X.1.2.1 d_Model_poll_38 (by decide) ?_
      cases o with
      | none =>
          refine g_cv (A := (fun p => d ≤ p ∧ p ≤ d + 28)) X gWS_good mw_Model_161 kc_Model mo1 (c_Model_tellN l D q H d w ar hR (nI 2)) (fun _ _ _ => trivial) gBlind.tt rfl rfl hl.1 (Nat.le_of_ble_eq_true rfl) rfl rfl ⟨by decide, by decide⟩ ⟨by decide, by decide⟩ d_Model_poll_39 (fun _ h => h) hL (fun v8 H9 locs hp10 hL => ?_)
          obtain ⟨rfl, hR11, z12, fr13⟩ := hp10
          refine g_ist X.1.1 X.1.2.1 hl 4 d_Model_poll_42 (Nat.le_of_ble_eq_true rfl) rfl (fun ls hl => ?_)
          refine lv_aload_n X.1.1 X.1.2.1 d_Model_poll_44 rfl (gl_at hl rfl) ?_
          have mo14 : va_at D CL (d, .inr (10, [.int (nI 2), .ref (d + 1), .int (w 2), .ref (d + 2), .ref (d + 3), .ref (d + 4), .ref (d + 5), .ref (d + 6), .int (w 8), .ref (d + 7), .ref (d + 8), .ref (d + 9), .ref (d + 10), .ref (d + 11), .ref (d + 12), .ref (d + 13), .ref (d + 14), .ref (d + 15), .ref (d + 16), .ref (d + 17), .int (w 20), .ref (d + 18), .int (w 22), .ref (d + 19), .ref (d + 20), .ref (d + 21), .int (w 26), .int (w 27), .int (w 28), .ref (d + 22), .ref (d + 23), .ref (d + 24), .ref (d + 25), .ref (d + 26), .int (w 34), .ref (d + 27), .ref (d + 28), .int (w 37), .int (w 38)])) H9 := hR11.1
          refine g_get X kc_Model mo14 0 (by decide) lk_Model_99 rfl d_Model_poll_45 ?_
          refine gn_ne0 X.1.1 X.1.2.1 2 (by omega) d_Model_poll_48 rfl (fun hc48 => ?_) (fun hc48 => ?_)
          · refine lv_iload X.1.1 X.1.2.1 d_Model_poll_61 (gl_at hl rfl) ?_
            exact g_iret X B ⟨Or.inl ⟨ho, rfl, hR11⟩, z12, fun p hp => (fr13 p (by omega))⟩ hL d_Model_poll_63 (by omega) (by omega)
          · omega
      | some r0 =>
          have hr0 := ho.lt
          refine g_cv (A := (fun p => d ≤ p ∧ p ≤ d + 28)) X gWS_good mw_Model_161 kc_Model mo1 (c_Model_tell l D q H d w ar hR kk hk r0 (by omega) (nI 2)) (fun _ _ _ => trivial) gBlind.tt rfl rfl hl.1 (Nat.le_of_ble_eq_true rfl) rfl rfl ⟨by decide, by decide⟩ ⟨by decide, by decide⟩ d_Model_poll_39 (fun _ h => h) hL (fun v15 H16 locs hp17 hL => ?_)
          obtain ⟨F, ⟨rfl, hF⟩, hp9⟩ := hp17
          obtain ⟨hR18, z19, fr20⟩ := hp9
          refine g_ist X.1.1 X.1.2.1 hl 4 d_Model_poll_42 (Nat.le_of_ble_eq_true rfl) rfl (fun ls hl => ?_)
          refine lv_aload_n X.1.1 X.1.2.1 d_Model_poll_44 rfl (gl_at hl rfl) ?_
          have mo21 : va_at D CL (d, .inr (10, [.int (nI 0), .ref (d + 1), .int (w 2), .ref (d + 2), .ref (d + 3), .ref (d + 4), .ref (d + 5), .ref (d + 6), .int (w 8), .ref (d + 7), .ref (d + 8), .ref (d + 9), .ref (d + 10), .ref (d + 11), .ref (d + 12), .ref (d + 13), .ref (d + 14), .ref (d + 15), .ref (d + 16), .ref (d + 17), .int (nI ((kk r0).length)), .ref (d + 18), .int (w 22), .ref (d + 19), .ref (d + 20), .ref (d + 21), .int (w 26), .int (w 27), .int (w 28), .ref (d + 22), .ref (d + 23), .ref (d + 24), .ref (d + 25), .ref (d + 26), .int (w 34), .ref (d + 27), .ref (d + 28), .int (w 37), .int (w 38)])) H16 := hR18.1
          refine g_get X kc_Model mo21 0 (by decide) lk_Model_99 rfl d_Model_poll_45 ?_
          refine gn_ne0 X.1.1 X.1.2.1 0 (by omega) d_Model_poll_48 rfl (fun hc48 => ?_) (fun hc48 => ?_)
          · omega
          · refine lv_aload_n X.1.1 X.1.2.1 d_Model_poll_51 rfl (gl_at hl rfl) ?_
            refine lv_aload_n X.1.1 X.1.2.1 d_Model_poll_52 rfl (gl_at hl rfl) ?_
            refine lv_iload_n X.1.1 X.1.2.1 d_Model_poll_53 rfl (gl_at hl rfl) ?_
            refine g_cv (A := (fun p => d ≤ p ∧ p ≤ d + 28)) X gWS_good mw_Model_114 kc_Model mo21 (c_Model_mapOf l D q H16 d (upd (upd w 0 (nI 0)) 20 (nI ((kk r0).length))) (va_up ar 17 F) hR18 c0 org srt bt tn mp hv hN v hvc) (fun _ _ _ => trivial) gBlind.tt rfl rfl hl.1 (Nat.le_of_ble_eq_true rfl) rfl rfl ⟨by decide, by decide⟩ ⟨by decide, by decide⟩ d_Model_poll_54 (fun _ h => h.elim) hL (fun v22 H23 locs hp24 hL => ?_)
            obtain ⟨rfl, hHe⟩ := hp24
            rw [hHe]
            refine lv_iload_n X.1.1 X.1.2.1 d_Model_poll_57 rfl (gl_at hl rfl) ?_
            refine g_cv (A := (fun p => d ≤ p ∧ p ≤ d + 28)) X gWS_good mw_Model_139 kc_Model mo21 (c_Model_clear l D q H16 d (upd (upd w 0 (nI 0)) 20 (nI ((kk r0).length))) (va_up ar 17 F) hR18 kk hk n chg hm (mp v) r0 hmp (by omega) (by omega)) (fun _ _ _ => trivial) gBlind.tt rfl rfl hl.1 (Nat.le_of_ble_eq_true rfl) rfl rfl ⟨by decide, by decide⟩ ⟨by decide, by decide⟩ d_Model_poll_58 (fun _ h => h) hL (fun v25 H26 locs hp27 hL => ?_)
            obtain ⟨G, ⟨rfl, hG⟩, hp9⟩ := hp27
            obtain ⟨hR28, z29, fr30⟩ := hp9
            replace hR28 : dR D q H26 d (upd (upd w 0 (nI 0)) 20 (nI ((kk r0).length))) (va_up (va_up (va_up (va_up (va_up (va_up ar 2 (upd (ar 2) (mp v) (nI (n (mp v) - 1)))) 3 (upd (ar 3) (mp v) (nI (chg (mp v) + 1)))) 4 G) 5 (upd (ar 5) r0 (nI (kk (64 * mp v + n (mp v) - 1)).length))) 6 (upd (ar 6) r0 (ar 6 (64 * mp v + n (mp v) - 1)))) 17 F) := hR28.as (fun j => by first | rfl | (simp only [upd]; (repeat' split) <;> first | rfl | omega)) (fun j => by first | rfl | (simp only [va_up]; (repeat' split) <;> first | rfl | omega))
            refine lv_iload X.1.1 X.1.2.1 d_Model_poll_61 (gl_at hl rfl) ?_
            exact g_iret X B ⟨Or.inr ⟨r0, F, G, ho, rfl, hF, hG, hR28⟩, (z29.trans z19), fun p hp => ((fr30 p (by omega)).trans (fr20 p (by omega)))⟩ hL d_Model_poll_63 (by omega) (by omega)
    · obtain rfl : e0 = 0 := by omega
      refine lv_iconst (v := nI 1) X.1.1 X.1.2.1 d_Model_poll_20 (by decide) ?_
      refine lv_goto X.1.1 X.1.2.1 d_Model_poll_21 rfl ?_
      refine lv_iconst (v := nI 1) X.1.1 X.1.2.1 d_Model_poll_25 (by decide) ?_
      refine lv_aload_n X.1.1 X.1.2.1 d_Model_poll_26 rfl (gl_at hl rfl) ?_
      refine g_get X kc_Model mo1 1 (by decide) lk_Model_7 rfl d_Model_poll_27 ?_
      refine lv_iconst (v := nI 0) X.1.1 X.1.2.1 d_Model_poll_30 (by decide) ?_
      refine lv_iconst (v := (-1)) X.1.1 X.1.2.1 d_Model_poll_31 (by decide) ?_
      refine g_cv (A := (fun p => d ≤ p ∧ p ≤ d + 28)) X gWS_good mw_Model_157 kc_Model mo1 (c_Model_nearestN l D q H d w ar hR c0 org srt bt tn mp hv hN kk hk n chg hm v hvc 1 1 (by omega) (by omega) (d + 1) 0) (fun _ _ _ => trivial) gBlind.tt rfl rfl hl.1 (Nat.le_of_ble_eq_true rfl) rfl rfl ⟨by decide, by decide⟩ ⟨by decide, by decide⟩ d_Model_poll_32 (fun _ h => h.elim) hL (fun v31 H32 locs hp33 hL => ?_)
      obtain ⟨⟨o, rfl, ho⟩, hHe⟩ := hp33
      rw [hHe]
      refine g_istn X.1.1 X.1.2.1 hl 3 d_Model_poll_35 rfl (Nat.le_of_ble_eq_true rfl) rfl (fun ls hl => ?_)
      refine lv_aload_n X.1.1 X.1.2.1 d_Model_poll_36 rfl (gl_at hl rfl) ?_
      refine lv_iload_n X.1.1 X.1.2.1 d_Model_poll_37 rfl (gl_at hl rfl) ?_
      refine lv_iconst (v := nI 2) X.1.1 X.1.2.1 d_Model_poll_38 (by decide) ?_
      cases o with
      | none =>
          refine g_cv (A := (fun p => d ≤ p ∧ p ≤ d + 28)) X gWS_good mw_Model_161 kc_Model mo1 (c_Model_tellN l D q H d w ar hR (nI 2)) (fun _ _ _ => trivial) gBlind.tt rfl rfl hl.1 (Nat.le_of_ble_eq_true rfl) rfl rfl ⟨by decide, by decide⟩ ⟨by decide, by decide⟩ d_Model_poll_39 (fun _ h => h) hL (fun v34 H35 locs hp36 hL => ?_)
          obtain ⟨rfl, hR37, z38, fr39⟩ := hp36
          refine g_ist X.1.1 X.1.2.1 hl 4 d_Model_poll_42 (Nat.le_of_ble_eq_true rfl) rfl (fun ls hl => ?_)
          refine lv_aload_n X.1.1 X.1.2.1 d_Model_poll_44 rfl (gl_at hl rfl) ?_
          have mo40 : va_at D CL (d, .inr (10, [.int (nI 2), .ref (d + 1), .int (w 2), .ref (d + 2), .ref (d + 3), .ref (d + 4), .ref (d + 5), .ref (d + 6), .int (w 8), .ref (d + 7), .ref (d + 8), .ref (d + 9), .ref (d + 10), .ref (d + 11), .ref (d + 12), .ref (d + 13), .ref (d + 14), .ref (d + 15), .ref (d + 16), .ref (d + 17), .int (w 20), .ref (d + 18), .int (w 22), .ref (d + 19), .ref (d + 20), .ref (d + 21), .int (w 26), .int (w 27), .int (w 28), .ref (d + 22), .ref (d + 23), .ref (d + 24), .ref (d + 25), .ref (d + 26), .int (w 34), .ref (d + 27), .ref (d + 28), .int (w 37), .int (w 38)])) H35 := hR37.1
          refine g_get X kc_Model mo40 0 (by decide) lk_Model_99 rfl d_Model_poll_45 ?_
          refine gn_ne0 X.1.1 X.1.2.1 2 (by omega) d_Model_poll_48 rfl (fun hc48 => ?_) (fun hc48 => ?_)
          · refine lv_iload X.1.1 X.1.2.1 d_Model_poll_61 (gl_at hl rfl) ?_
            exact g_iret X B ⟨Or.inl ⟨ho, rfl, hR37⟩, z38, fun p hp => (fr39 p (by omega))⟩ hL d_Model_poll_63 (by omega) (by omega)
          · omega
      | some r0 =>
          have hr0 := ho.lt
          refine g_cv (A := (fun p => d ≤ p ∧ p ≤ d + 28)) X gWS_good mw_Model_161 kc_Model mo1 (c_Model_tell l D q H d w ar hR kk hk r0 (by omega) (nI 2)) (fun _ _ _ => trivial) gBlind.tt rfl rfl hl.1 (Nat.le_of_ble_eq_true rfl) rfl rfl ⟨by decide, by decide⟩ ⟨by decide, by decide⟩ d_Model_poll_39 (fun _ h => h) hL (fun v41 H42 locs hp43 hL => ?_)
          obtain ⟨F, ⟨rfl, hF⟩, hp9⟩ := hp43
          obtain ⟨hR44, z45, fr46⟩ := hp9
          refine g_ist X.1.1 X.1.2.1 hl 4 d_Model_poll_42 (Nat.le_of_ble_eq_true rfl) rfl (fun ls hl => ?_)
          refine lv_aload_n X.1.1 X.1.2.1 d_Model_poll_44 rfl (gl_at hl rfl) ?_
          have mo47 : va_at D CL (d, .inr (10, [.int (nI 0), .ref (d + 1), .int (w 2), .ref (d + 2), .ref (d + 3), .ref (d + 4), .ref (d + 5), .ref (d + 6), .int (w 8), .ref (d + 7), .ref (d + 8), .ref (d + 9), .ref (d + 10), .ref (d + 11), .ref (d + 12), .ref (d + 13), .ref (d + 14), .ref (d + 15), .ref (d + 16), .ref (d + 17), .int (nI ((kk r0).length)), .ref (d + 18), .int (w 22), .ref (d + 19), .ref (d + 20), .ref (d + 21), .int (w 26), .int (w 27), .int (w 28), .ref (d + 22), .ref (d + 23), .ref (d + 24), .ref (d + 25), .ref (d + 26), .int (w 34), .ref (d + 27), .ref (d + 28), .int (w 37), .int (w 38)])) H42 := hR44.1
          refine g_get X kc_Model mo47 0 (by decide) lk_Model_99 rfl d_Model_poll_45 ?_
          refine gn_ne0 X.1.1 X.1.2.1 0 (by omega) d_Model_poll_48 rfl (fun hc48 => ?_) (fun hc48 => ?_)
          · omega
          · refine lv_aload_n X.1.1 X.1.2.1 d_Model_poll_51 rfl (gl_at hl rfl) ?_
            refine lv_aload_n X.1.1 X.1.2.1 d_Model_poll_52 rfl (gl_at hl rfl) ?_
            refine lv_iload_n X.1.1 X.1.2.1 d_Model_poll_53 rfl (gl_at hl rfl) ?_
            refine g_cv (A := (fun p => d ≤ p ∧ p ≤ d + 28)) X gWS_good mw_Model_114 kc_Model mo47 (c_Model_mapOf l D q H42 d (upd (upd w 0 (nI 0)) 20 (nI ((kk r0).length))) (va_up ar 17 F) hR44 c0 org srt bt tn mp hv hN v hvc) (fun _ _ _ => trivial) gBlind.tt rfl rfl hl.1 (Nat.le_of_ble_eq_true rfl) rfl rfl ⟨by decide, by decide⟩ ⟨by decide, by decide⟩ d_Model_poll_54 (fun _ h => h.elim) hL (fun v48 H49 locs hp50 hL => ?_)
            obtain ⟨rfl, hHe⟩ := hp50
            rw [hHe]
            refine lv_iload_n X.1.1 X.1.2.1 d_Model_poll_57 rfl (gl_at hl rfl) ?_
            refine g_cv (A := (fun p => d ≤ p ∧ p ≤ d + 28)) X gWS_good mw_Model_139 kc_Model mo47 (c_Model_clear l D q H42 d (upd (upd w 0 (nI 0)) 20 (nI ((kk r0).length))) (va_up ar 17 F) hR44 kk hk n chg hm (mp v) r0 hmp (by omega) (by omega)) (fun _ _ _ => trivial) gBlind.tt rfl rfl hl.1 (Nat.le_of_ble_eq_true rfl) rfl rfl ⟨by decide, by decide⟩ ⟨by decide, by decide⟩ d_Model_poll_58 (fun _ h => h) hL (fun v51 H52 locs hp53 hL => ?_)
            obtain ⟨G, ⟨rfl, hG⟩, hp9⟩ := hp53
            obtain ⟨hR54, z55, fr56⟩ := hp9
            replace hR54 : dR D q H52 d (upd (upd w 0 (nI 0)) 20 (nI ((kk r0).length))) (va_up (va_up (va_up (va_up (va_up (va_up ar 2 (upd (ar 2) (mp v) (nI (n (mp v) - 1)))) 3 (upd (ar 3) (mp v) (nI (chg (mp v) + 1)))) 4 G) 5 (upd (ar 5) r0 (nI (kk (64 * mp v + n (mp v) - 1)).length))) 6 (upd (ar 6) r0 (ar 6 (64 * mp v + n (mp v) - 1)))) 17 F) := hR54.as (fun j => by first | rfl | (simp only [upd]; (repeat' split) <;> first | rfl | omega)) (fun j => by first | rfl | (simp only [va_up]; (repeat' split) <;> first | rfl | omega))
            refine lv_iload X.1.1 X.1.2.1 d_Model_poll_61 (gl_at hl rfl) ?_
            exact g_iret X B ⟨Or.inr ⟨r0, F, G, ho, rfl, hF, hG, hR54⟩, (z55.trans z45), fun p hp => ((fr56 p (by omega)).trans (fr46 p (by omega)))⟩ hL d_Model_poll_63 (by omega) (by omega)
  · replace hc5 := gz_f hc5
    exact absurd (h_ok_of (by omega) hvc) hc5

set_option maxHeartbeats 4000000 in
set_option maxRecDepth 100000 in
/-- next: stale -/
theorem c_Model_nextS (l : Launch) (D : va_G) (q : Nat → ClassId) (H : Heap) (d : Nat) (w : Nat → Int32) (ar : Nat → Nat → Int32) (hR : dR D q H d w ar) (c0 : Nat) (org : Nat → Option Nat) (srt : Nat → Nat) (bt : Nat → List Nat) (tn mp : Nat → Nat) (hv : pV w ar c0 org srt bt) (hN : pN c0 org srt tn mp) (v : Nat) (hvc : v < c0) (hst : (ar 11 v = 0 ∨ ar 14 v ≠ ar 3 (mp v))) : gC l y_Model_next (Cond.code y_Model_next b_Model_next 5 (some .int) :: gWS) (gR 5 132 0 0) D CL (gY q) (fun _ => True) [.ref d, .int (nI v)] H (fun v1 H1 => v1 = some (.int 0) ∧ dR D q H1 d (upd w 0 (nI 2)) ar ∧ H1.size = H.size ∧ ∀ p : Nat, (p < d ∨ d + 28 < p) → H1[p]? = H[p]?) 0 0 (fun p => d ≤ p ∧ p ≤ d + 28) := by
  refine gC.ofW R_Model "next" (by decide) rfl rfl ?_
  intro p e s m below meth c hadm X hE hH B hne
  refine g_entry [some (.ref d), some (.int (nI v)), none, none, none] rfl rfl (Nat.le_of_ble_eq_true rfl) (fun ls hl => ?_)
  have h12 := hv.2.2.1
  have hmp := (hN v hvc).1
  refine lv_aload_n X.1.1 X.1.2.1 d_Model_next_0 rfl (gl_at hl rfl) ?_
  refine lv_iload_n X.1.1 X.1.2.1 d_Model_next_1 rfl (gl_at hl rfl) ?_
  have mo1 : va_at D CL (d, .inr (10, [.int (w 0), .ref (d + 1), .int (w 2), .ref (d + 2), .ref (d + 3), .ref (d + 4), .ref (d + 5), .ref (d + 6), .int (w 8), .ref (d + 7), .ref (d + 8), .ref (d + 9), .ref (d + 10), .ref (d + 11), .ref (d + 12), .ref (d + 13), .ref (d + 14), .ref (d + 15), .ref (d + 16), .ref (d + 17), .int (w 20), .ref (d + 18), .int (w 22), .ref (d + 19), .ref (d + 20), .ref (d + 21), .int (w 26), .int (w 27), .int (w 28), .ref (d + 22), .ref (d + 23), .ref (d + 24), .ref (d + 25), .ref (d + 26), .int (w 34), .ref (d + 27), .ref (d + 28), .int (w 37), .int (w 38)])) H := hR.1
  refine g_cv (A := (fun p => d ≤ p ∧ p ≤ d + 28)) X gWS_good mw_Model_122 kc_Model mo1 (c_Model_isView l D q H d w ar hR c0 hv.1 (nI v)) (fun _ _ _ => trivial) gBlind.tt rfl rfl hl.1 (Nat.le_of_ble_eq_true rfl) rfl rfl ⟨by decide, by decide⟩ ⟨by decide, by decide⟩ d_Model_next_2 (fun _ h => h.elim) (fun _ h => by cases h) (fun v2 H3 locs hp4 hL => ?_)
  obtain ⟨rfl, hHe⟩ := hp4
  rw [hHe]
  refine lv_if_ne X.1.1 X.1.2.1 d_Model_next_5 rfl (fun hc5 => ?_) (fun hc5 => ?_)
  · replace hc5 := gz_t hc5
    refine lv_aload_n X.1.1 X.1.2.1 d_Model_next_14 rfl (gl_at hl rfl) ?_
    refine lv_iload_n X.1.1 X.1.2.1 d_Model_next_15 rfl (gl_at hl rfl) ?_
    refine g_cv (A := (fun p => d ≤ p ∧ p ≤ d + 28)) X gWS_good mw_Model_171 kc_Model mo1 (c_Model_stale l D q H d w ar hR c0 org srt bt tn mp hv hN v hvc) (fun _ _ _ => trivial) gBlind.tt rfl rfl hl.1 (Nat.le_of_ble_eq_true rfl) rfl rfl ⟨by decide, by decide⟩ ⟨by decide, by decide⟩ d_Model_next_16 (fun _ h => h.elim) hL (fun v5 H6 locs hp7 hL => ?_)
    obtain ⟨rfl, hHe⟩ := hp7
    rw [hHe]
    refine lv_if_eq X.1.1 X.1.2.1 d_Model_next_19 rfl (fun hc19 => ?_) (fun hc19 => ?_)
    · replace hc19 := gz_f hc19
      exact absurd hst hc19
    · replace hc19 := gz_t hc19
      refine lv_aload_n X.1.1 X.1.2.1 d_Model_next_22 rfl (gl_at hl rfl) ?_
      refine lv_iconst (v := nI 2) X.1.1 X.1.2.1 d_Model_next_23 (by decide) ?_
      refine g_cv (A := (fun p => d ≤ p ∧ p ≤ d + 28)) X gWS_good mw_Model_126 kc_Model mo1 (c_Model_raise l D q H d w ar hR (nI 2)) (fun _ _ _ => trivial) gBlind.tt rfl rfl hl.1 (Nat.le_of_ble_eq_true rfl) rfl rfl ⟨by decide, by decide⟩ ⟨by decide, by decide⟩ d_Model_next_24 (fun _ h => h) hL (fun v8 H9 locs hp10 hL => ?_)
      obtain ⟨rfl, hR11, z12, fr13⟩ := hp10
      exact g_iret X B ⟨rfl, hR11, z12, fun p hp => (fr13 p (by omega))⟩ hL d_Model_next_27 (by omega) (by omega)
  · replace hc5 := gz_f hc5
    exact absurd (h_ok_of (by omega) hvc) hc5

set_option maxHeartbeats 4000000 in
set_option maxRecDepth 100000 in
/-- next -/
theorem c_Model_next (l : Launch) (D : va_G) (q : Nat → ClassId) (H : Heap) (d : Nat) (w : Nat → Int32) (ar : Nat → Nat → Int32) (hR : dR D q H d w ar) (c0 : Nat) (org : Nat → Option Nat) (srt : Nat → Nat) (bt : Nat → List Nat) (tn mp : Nat → Nat) (hv : pV w ar c0 org srt bt) (hN : pN c0 org srt tn mp) (kk : Nat → List Nat) (hk : pK ar kk) (n chg : Nat → Nat) (hm : pM ar n chg) (v : Nat) (hvc : v < c0) (hst : ¬ (ar 11 v = 0 ∨ ar 14 v ≠ ar 3 (mp v))) (la : List Nat) (hla : ¬ ar 12 v = 0 → ar 15 v = nI la.length ∧ tXo (ar 16) (8 * v) la ∧ la.length ≤ 8 ∧ t16 la) : gC l y_Model_next (Cond.code y_Model_next b_Model_next 5 (some .int) :: gWS) (gR 5 132 0 0) D CL (gY q) (fun _ => True) [.ref d, .int (nI v)] H (fun v1 H1 => ((((ar 12 v = 0 ∧ d_nr (fun xs => v_in org srt bt v xs = true ∧ d_cd (tn v) 1 1 none xs) (tn v) 1 kk (64 * mp v) (n (mp v)) none) ∨ (¬ ar 12 v = 0 ∧ d_nr (fun xs => v_in org srt bt v xs = true ∧ d_cd (tn v) 1 0 (some la) xs) (tn v) 1 kk (64 * mp v) (n (mp v)) none)) ∧ v1 = some (.int 0) ∧ dR D q H1 d (upd w 0 (nI 3)) ar) ∨ ∃ r0 F G, ((ar 12 v = 0 ∧ d_nr (fun xs => v_in org srt bt v xs = true ∧ d_cd (tn v) 1 1 none xs) (tn v) 1 kk (64 * mp v) (n (mp v)) (some r0)) ∨ (¬ ar 12 v = 0 ∧ d_nr (fun xs => v_in org srt bt v xs = true ∧ d_cd (tn v) 1 0 (some la) xs) (tn v) 1 kk (64 * mp v) (n (mp v)) (some r0))) ∧ v1 = some (.int (ar 6 r0)) ∧ tXo F 0 (kk r0) ∧ tCp G (ar 16) (8 * v) (kk r0) (kk r0).length ∧ dR D q H1 d (upd (upd w 0 (nI 0)) 20 (nI ((kk r0).length))) (va_up (va_up (va_up (va_up (va_up ar 12 (upd (ar 12) v (nI 1))) 13 (upd (ar 13) v (nI 1))) 15 (upd (ar 15) v (nI (kk r0).length))) 16 G) 17 F)) ∧ H1.size = H.size ∧ ∀ p : Nat, (p < d ∨ d + 28 < p) → H1[p]? = H[p]?) 0 0 (fun p => d ≤ p ∧ p ≤ d + 28) := by
  refine gC.ofW R_Model "next" (by decide) rfl rfl ?_
  intro p e s m below meth c hadm X hE hH B hne
  refine g_entry [some (.ref d), some (.int (nI v)), none, none, none] rfl rfl (Nat.le_of_ble_eq_true rfl) (fun ls hl => ?_)
  have h12 := hv.2.2.1
  have hmp := (hN v hvc).1
  obtain ⟨hm1a, hm2, hm3⟩ := hm (mp v) hmp
  refine lv_aload_n X.1.1 X.1.2.1 d_Model_next_0 rfl (gl_at hl rfl) ?_
  refine lv_iload_n X.1.1 X.1.2.1 d_Model_next_1 rfl (gl_at hl rfl) ?_
  have mo1 : va_at D CL (d, .inr (10, [.int (w 0), .ref (d + 1), .int (w 2), .ref (d + 2), .ref (d + 3), .ref (d + 4), .ref (d + 5), .ref (d + 6), .int (w 8), .ref (d + 7), .ref (d + 8), .ref (d + 9), .ref (d + 10), .ref (d + 11), .ref (d + 12), .ref (d + 13), .ref (d + 14), .ref (d + 15), .ref (d + 16), .ref (d + 17), .int (w 20), .ref (d + 18), .int (w 22), .ref (d + 19), .ref (d + 20), .ref (d + 21), .int (w 26), .int (w 27), .int (w 28), .ref (d + 22), .ref (d + 23), .ref (d + 24), .ref (d + 25), .ref (d + 26), .int (w 34), .ref (d + 27), .ref (d + 28), .int (w 37), .int (w 38)])) H := hR.1
  refine g_cv (A := (fun p => d ≤ p ∧ p ≤ d + 28)) X gWS_good mw_Model_122 kc_Model mo1 (c_Model_isView l D q H d w ar hR c0 hv.1 (nI v)) (fun _ _ _ => trivial) gBlind.tt rfl rfl hl.1 (Nat.le_of_ble_eq_true rfl) rfl rfl ⟨by decide, by decide⟩ ⟨by decide, by decide⟩ d_Model_next_2 (fun _ h => h.elim) (fun _ h => by cases h) (fun v2 H3 locs hp4 hL => ?_)
  obtain ⟨rfl, hHe⟩ := hp4
  rw [hHe]
  refine lv_if_ne X.1.1 X.1.2.1 d_Model_next_5 rfl (fun hc5 => ?_) (fun hc5 => ?_)
  · replace hc5 := gz_t hc5
    refine lv_aload_n X.1.1 X.1.2.1 d_Model_next_14 rfl (gl_at hl rfl) ?_
    refine lv_iload_n X.1.1 X.1.2.1 d_Model_next_15 rfl (gl_at hl rfl) ?_
    refine g_cv (A := (fun p => d ≤ p ∧ p ≤ d + 28)) X gWS_good mw_Model_171 kc_Model mo1 (c_Model_stale l D q H d w ar hR c0 org srt bt tn mp hv hN v hvc) (fun _ _ _ => trivial) gBlind.tt rfl rfl hl.1 (Nat.le_of_ble_eq_true rfl) rfl rfl ⟨by decide, by decide⟩ ⟨by decide, by decide⟩ d_Model_next_16 (fun _ h => h.elim) hL (fun v5 H6 locs hp7 hL => ?_)
    obtain ⟨rfl, hHe⟩ := hp7
    rw [hHe]
    refine lv_if_eq X.1.1 X.1.2.1 d_Model_next_19 rfl (fun hc19 => ?_) (fun hc19 => ?_)
    · replace hc19 := gz_f hc19
      refine lv_aload_n X.1.1 X.1.2.1 d_Model_next_28 rfl (gl_at hl rfl) ?_
      refine g_get X kc_Model mo1 14 (by decide) lk_Model_48 rfl d_Model_next_29 ?_
      refine lv_iload_n X.1.1 X.1.2.1 d_Model_next_32 rfl (gl_at hl rfl) ?_
      have ma8 : va_at D CL (d + 12, .inl (q 1, 12, .inl (ar 12))) H := hR.a12
      refine g_zald X 1 ma8 rfl v (by omega) (by omega) d_Model_next_33 ?_
      refine lv_if_eq X.1.1 X.1.2.1 d_Model_next_34 rfl (fun hc34 => ?_) (fun hc34 => ?_)
      · refine lv_aload_n X.1.1 X.1.2.1 d_Model_next_61 rfl (gl_at hl rfl) ?_
        refine lv_iload_n X.1.1 X.1.2.1 d_Model_next_62 rfl (gl_at hl rfl) ?_
        refine lv_iconst (v := nI 1) X.1.1 X.1.2.1 d_Model_next_63 (by decide) ?_
        refine lv_iconst (v := nI 1) X.1.1 X.1.2.1 d_Model_next_64 (by decide) ?_
        refine lv_aload_n X.1.1 X.1.2.1 d_Model_next_65 rfl (gl_at hl rfl) ?_
        refine g_get X kc_Model mo1 1 (by decide) lk_Model_7 rfl d_Model_next_66 ?_
        refine lv_iconst (v := nI 0) X.1.1 X.1.2.1 d_Model_next_69 (by decide) ?_
        refine lv_iconst (v := (-1)) X.1.1 X.1.2.1 d_Model_next_70 (by decide) ?_
        refine g_cv (A := (fun p => d ≤ p ∧ p ≤ d + 28)) X gWS_good mw_Model_157 kc_Model mo1 (c_Model_nearestN l D q H d w ar hR c0 org srt bt tn mp hv hN kk hk n chg hm v hvc 1 1 (by omega) (by omega) (d + 1) 0) (fun _ _ _ => trivial) gBlind.tt rfl rfl hl.1 (Nat.le_of_ble_eq_true rfl) rfl rfl ⟨by decide, by decide⟩ ⟨by decide, by decide⟩ d_Model_next_71 (fun _ h => h.elim) hL (fun v9 H10 locs hp11 hL => ?_)
        obtain ⟨⟨o, rfl, ho⟩, hHe⟩ := hp11
        rw [hHe]
        refine g_istn X.1.1 X.1.2.1 hl 2 d_Model_next_74 rfl (Nat.le_of_ble_eq_true rfl) rfl (fun ls hl => ?_)
        refine lv_aload_n X.1.1 X.1.2.1 d_Model_next_75 rfl (gl_at hl rfl) ?_
        refine lv_iload_n X.1.1 X.1.2.1 d_Model_next_76 rfl (gl_at hl rfl) ?_
        refine lv_iconst (v := nI 3) X.1.1 X.1.2.1 d_Model_next_77 (by decide) ?_
        cases o with
        | none =>
            refine g_cv (A := (fun p => d ≤ p ∧ p ≤ d + 28)) X gWS_good mw_Model_161 kc_Model mo1 (c_Model_tellN l D q H d w ar hR (nI 3)) (fun _ _ _ => trivial) gBlind.tt rfl rfl hl.1 (Nat.le_of_ble_eq_true rfl) rfl rfl ⟨by decide, by decide⟩ ⟨by decide, by decide⟩ d_Model_next_78 (fun _ h => h) hL (fun v12 H13 locs hp14 hL => ?_)
            obtain ⟨rfl, hR15, z16, fr17⟩ := hp14
            refine g_istn X.1.1 X.1.2.1 hl 3 d_Model_next_81 rfl (Nat.le_of_ble_eq_true rfl) rfl (fun ls hl => ?_)
            refine lv_aload_n X.1.1 X.1.2.1 d_Model_next_82 rfl (gl_at hl rfl) ?_
            have mo18 : va_at D CL (d, .inr (10, [.int (nI 3), .ref (d + 1), .int (w 2), .ref (d + 2), .ref (d + 3), .ref (d + 4), .ref (d + 5), .ref (d + 6), .int (w 8), .ref (d + 7), .ref (d + 8), .ref (d + 9), .ref (d + 10), .ref (d + 11), .ref (d + 12), .ref (d + 13), .ref (d + 14), .ref (d + 15), .ref (d + 16), .ref (d + 17), .int (w 20), .ref (d + 18), .int (w 22), .ref (d + 19), .ref (d + 20), .ref (d + 21), .int (w 26), .int (w 27), .int (w 28), .ref (d + 22), .ref (d + 23), .ref (d + 24), .ref (d + 25), .ref (d + 26), .int (w 34), .ref (d + 27), .ref (d + 28), .int (w 37), .int (w 38)])) H13 := hR15.1
            refine g_get X kc_Model mo18 0 (by decide) lk_Model_99 rfl d_Model_next_83 ?_
            refine gn_eq0 X.1.1 X.1.2.1 3 (by omega) d_Model_next_86 rfl (fun hc86 => ?_) (fun hc86 => ?_)
            · omega
            · refine lv_iconst (v := nI 0) X.1.1 X.1.2.1 d_Model_next_89 (by decide) ?_
              exact g_iret X B ⟨Or.inl ⟨Or.inl ⟨hc34, ho⟩, rfl, hR15⟩, z16, fun p hp => (fr17 p (by omega))⟩ hL d_Model_next_90 (by omega) (by omega)
        | some r0 =>
            have hr0 := ho.lt
            obtain ⟨hb1, hb2, hb3, hb4⟩ := hk r0 (by omega)
            refine g_cv (A := (fun p => d ≤ p ∧ p ≤ d + 28)) X gWS_good mw_Model_161 kc_Model mo1 (c_Model_tell l D q H d w ar hR kk hk r0 (by omega) (nI 3)) (fun _ _ _ => trivial) gBlind.tt rfl rfl hl.1 (Nat.le_of_ble_eq_true rfl) rfl rfl ⟨by decide, by decide⟩ ⟨by decide, by decide⟩ d_Model_next_78 (fun _ h => h) hL (fun v19 H20 locs hp21 hL => ?_)
            obtain ⟨F, ⟨rfl, hF⟩, hp9⟩ := hp21
            obtain ⟨hR22, z23, fr24⟩ := hp9
            refine g_istn X.1.1 X.1.2.1 hl 3 d_Model_next_81 rfl (Nat.le_of_ble_eq_true rfl) rfl (fun ls hl => ?_)
            refine lv_aload_n X.1.1 X.1.2.1 d_Model_next_82 rfl (gl_at hl rfl) ?_
            have mo25 : va_at D CL (d, .inr (10, [.int (nI 0), .ref (d + 1), .int (w 2), .ref (d + 2), .ref (d + 3), .ref (d + 4), .ref (d + 5), .ref (d + 6), .int (w 8), .ref (d + 7), .ref (d + 8), .ref (d + 9), .ref (d + 10), .ref (d + 11), .ref (d + 12), .ref (d + 13), .ref (d + 14), .ref (d + 15), .ref (d + 16), .ref (d + 17), .int (nI ((kk r0).length)), .ref (d + 18), .int (w 22), .ref (d + 19), .ref (d + 20), .ref (d + 21), .int (w 26), .int (w 27), .int (w 28), .ref (d + 22), .ref (d + 23), .ref (d + 24), .ref (d + 25), .ref (d + 26), .int (w 34), .ref (d + 27), .ref (d + 28), .int (w 37), .int (w 38)])) H20 := hR22.1
            refine g_get X kc_Model mo25 0 (by decide) lk_Model_99 rfl d_Model_next_83 ?_
            refine gn_eq0 X.1.1 X.1.2.1 0 (by omega) d_Model_next_86 rfl (fun hc86 => ?_) (fun hc86 => ?_)
            · refine lv_aload_n X.1.1 X.1.2.1 d_Model_next_91 rfl (gl_at hl rfl) ?_
              refine g_get X kc_Model mo25 14 (by decide) lk_Model_48 rfl d_Model_next_92 ?_
              refine lv_iload_n X.1.1 X.1.2.1 d_Model_next_95 rfl (gl_at hl rfl) ?_
              refine lv_iconst (v := nI 1) X.1.1 X.1.2.1 d_Model_next_96 (by decide) ?_
              have ma26 : va_at D CL (d + 12, .inl (q 1, 12, .inl (ar 12))) H20 := hR22.a12
              refine g_zast (A := (fun p => d ≤ p ∧ p ≤ d + 28)) X 1 ma26 rfl v (by omega) (by decide) (by decide) d_Model_next_97 ⟨by omega, by omega⟩ hL (fun H27 locs h28 z29 oq30 hL => ?_)
              have hR31 : dR D q H27 d (upd (upd w 0 (nI 0)) 20 (nI ((kk r0).length))) (va_up (va_up ar 12 (upd (ar 12) v (nI 1))) 17 F) := hR22.putB 12 (by decide) h28 oq30 rfl (fun j hj => by simp only [va_up, if_neg hj])
              refine lv_aload_n X.1.1 X.1.2.1 d_Model_next_98 rfl (gl_at hl rfl) ?_
              have mo32 : va_at D CL (d, .inr (10, [.int (nI 0), .ref (d + 1), .int (w 2), .ref (d + 2), .ref (d + 3), .ref (d + 4), .ref (d + 5), .ref (d + 6), .int (w 8), .ref (d + 7), .ref (d + 8), .ref (d + 9), .ref (d + 10), .ref (d + 11), .ref (d + 12), .ref (d + 13), .ref (d + 14), .ref (d + 15), .ref (d + 16), .ref (d + 17), .int (nI ((kk r0).length)), .ref (d + 18), .int (w 22), .ref (d + 19), .ref (d + 20), .ref (d + 21), .int (w 26), .int (w 27), .int (w 28), .ref (d + 22), .ref (d + 23), .ref (d + 24), .ref (d + 25), .ref (d + 26), .int (w 34), .ref (d + 27), .ref (d + 28), .int (w 37), .int (w 38)])) H27 := hR31.1
              refine g_get X kc_Model mo32 15 (by decide) lk_Model_51 rfl d_Model_next_99 ?_
              refine lv_iload_n X.1.1 X.1.2.1 d_Model_next_102 rfl (gl_at hl rfl) ?_
              refine lv_iconst (v := nI 1) X.1.1 X.1.2.1 d_Model_next_103 (by decide) ?_
              have ma33 : va_at D CL (d + 13, .inl (q 1, 12, .inl (ar 13))) H27 := hR31.a13
              refine g_zast (A := (fun p => d ≤ p ∧ p ≤ d + 28)) X 1 ma33 rfl v (by omega) (by decide) (by decide) d_Model_next_104 ⟨by omega, by omega⟩ hL (fun H34 locs h35 z36 oq37 hL => ?_)
              have hR38 : dR D q H34 d (upd (upd w 0 (nI 0)) 20 (nI ((kk r0).length))) (va_up (va_up (va_up ar 12 (upd (ar 12) v (nI 1))) 13 (upd (ar 13) v (nI 1))) 17 F) := hR31.putB 13 (by decide) h35 oq37 rfl (fun j hj => by simp only [va_up, if_neg hj])
              refine lv_aload_n X.1.1 X.1.2.1 d_Model_next_105 rfl (gl_at hl rfl) ?_
              have mo39 : va_at D CL (d, .inr (10, [.int (nI 0), .ref (d + 1), .int (w 2), .ref (d + 2), .ref (d + 3), .ref (d + 4), .ref (d + 5), .ref (d + 6), .int (w 8), .ref (d + 7), .ref (d + 8), .ref (d + 9), .ref (d + 10), .ref (d + 11), .ref (d + 12), .ref (d + 13), .ref (d + 14), .ref (d + 15), .ref (d + 16), .ref (d + 17), .int (nI ((kk r0).length)), .ref (d + 18), .int (w 22), .ref (d + 19), .ref (d + 20), .ref (d + 21), .int (w 26), .int (w 27), .int (w 28), .ref (d + 22), .ref (d + 23), .ref (d + 24), .ref (d + 25), .ref (d + 26), .int (w 34), .ref (d + 27), .ref (d + 28), .int (w 37), .int (w 38)])) H34 := hR38.1
              refine g_get X kc_Model mo39 17 (by decide) lk_Model_57 rfl d_Model_next_106 ?_
              refine lv_iload_n X.1.1 X.1.2.1 d_Model_next_109 rfl (gl_at hl rfl) ?_
              refine lv_aload_n X.1.1 X.1.2.1 d_Model_next_110 rfl (gl_at hl rfl) ?_
              refine g_get X kc_Model mo39 6 (by decide) lk_Model_22 rfl d_Model_next_111 ?_
              refine lv_iload_n X.1.1 X.1.2.1 d_Model_next_114 rfl (gl_at hl rfl) ?_
              have ma40 : va_at D CL (d + 5, .inl (q 0, 192, .inl (ar 5))) H34 := hR38.a5
              refine g_iald X 0 ma40 rfl r0 (by omega) (by omega) d_Model_next_115 ?_
              refine g_top (nI ((kk r0).length)) hb2 ?_
              have ma41 : va_at D CL (d + 15, .inl (q 0, 12, .inl (ar 15))) H34 := hR38.a15
              refine g_iast (A := (fun p => d ≤ p ∧ p ≤ d + 28)) X 0 ma41 rfl v (by omega) (by decide) d_Model_next_116 ⟨by omega, by omega⟩ hL (fun H42 locs h43 z44 oq45 hL => ?_)
              have hR46 : dR D q H42 d (upd (upd w 0 (nI 0)) 20 (nI ((kk r0).length))) (va_up (va_up (va_up (va_up ar 12 (upd (ar 12) v (nI 1))) 13 (upd (ar 13) v (nI 1))) 15 (upd (ar 15) v (nI ((kk r0).length)))) 17 F) := hR38.putB 15 (by decide) h43 oq45 rfl (fun j hj => by simp only [va_up, if_neg hj])
              refine lv_iconst (v := nI 0) X.1.1 X.1.2.1 d_Model_next_117 (by decide) ?_
              refine g_ist X.1.1 X.1.2.1 hl 4 d_Model_next_118 (Nat.le_of_ble_eq_true rfl) rfl (fun ls hl => ?_)
              have loop120 : ∀ (fu : Nat) (i : Nat) (G : Nat → Int32) (Hn : Heap) (locs : List Loc) (ls : Array Slot), (kk r0).length - i < fu → (i ≤ (kk r0).length) → (tCp G (ar 16) (8 * v) (kk r0) i) → (dR D q Hn d (upd (upd w 0 (nI 0)) 20 (nI ((kk r0).length))) (va_up (va_up (va_up (va_up (va_up ar 12 (upd (ar 12) v (nI 1))) 13 (upd (ar 13) v (nI 1))) 15 (upd (ar 15) v (nI ((kk r0).length)))) 16 G) 17 F)) → (Hn.size = H.size) → (∀ p : Nat, (p < d ∨ d + 28 < p) → Hn[p]? = H[p]?) → (∀ x ∈ locs, (fun p => d ≤ p ∧ p ≤ d + 28) x.base) → gl ls [some (.ref d), some (.int (nI v)), some (.int (nI r0)), some (.int (ar 6 r0)), some (.int (nI i))] → W p l e (gR 5 132 0 0) s m ([.ref d, .int (nI v)] : List Value).toArray below meth c Hn locs 0 0 (gQ below ([.ref d, .int (nI v)] : List Value).toArray s (fun v1 H1 => ((((ar 12 v = 0 ∧ d_nr (fun xs => v_in org srt bt v xs = true ∧ d_cd (tn v) 1 1 none xs) (tn v) 1 kk (64 * mp v) (n (mp v)) none) ∨ (¬ ar 12 v = 0 ∧ d_nr (fun xs => v_in org srt bt v xs = true ∧ d_cd (tn v) 1 0 (some la) xs) (tn v) 1 kk (64 * mp v) (n (mp v)) none)) ∧ v1 = some (.int 0) ∧ dR D q H1 d (upd w 0 (nI 3)) ar) ∨ ∃ r0 F G, ((ar 12 v = 0 ∧ d_nr (fun xs => v_in org srt bt v xs = true ∧ d_cd (tn v) 1 1 none xs) (tn v) 1 kk (64 * mp v) (n (mp v)) (some r0)) ∨ (¬ ar 12 v = 0 ∧ d_nr (fun xs => v_in org srt bt v xs = true ∧ d_cd (tn v) 1 0 (some la) xs) (tn v) 1 kk (64 * mp v) (n (mp v)) (some r0))) ∧ v1 = some (.int (ar 6 r0)) ∧ tXo F 0 (kk r0) ∧ tCp G (ar 16) (8 * v) (kk r0) (kk r0).length ∧ dR D q H1 d (upd (upd w 0 (nI 0)) 20 (nI ((kk r0).length))) (va_up (va_up (va_up (va_up (va_up ar 12 (upd (ar 12) v (nI 1))) 13 (upd (ar 13) v (nI 1))) 15 (upd (ar 15) v (nI (kk r0).length))) 16 G) 17 F)) ∧ H1.size = H.size ∧ ∀ p : Nat, (p < d ∨ d + 28 < p) → H1[p]? = H[p]?) 0 0 (fun p => d ≤ p ∧ p ≤ d + 28)) (F0 m 120 ls []) := by
                intro fu
                induction fu with
                | zero => intro i G Hn locs ls hmu; omega
                | succ fu ih120 =>
                  intro i G Hn locs ls hmu120 hi120_0 hi120_1 hRl hzl frl hL hl
                  refine lv_iload X.1.1 X.1.2.1 d_Model_next_120 (gl_at hl rfl) ?_
                  refine lv_aload_n X.1.1 X.1.2.1 d_Model_next_122 rfl (gl_at hl rfl) ?_
                  have mo47 : va_at D CL (d, .inr (10, [.int (nI 0), .ref (d + 1), .int (w 2), .ref (d + 2), .ref (d + 3), .ref (d + 4), .ref (d + 5), .ref (d + 6), .int (w 8), .ref (d + 7), .ref (d + 8), .ref (d + 9), .ref (d + 10), .ref (d + 11), .ref (d + 12), .ref (d + 13), .ref (d + 14), .ref (d + 15), .ref (d + 16), .ref (d + 17), .int (nI ((kk r0).length)), .ref (d + 18), .int (w 22), .ref (d + 19), .ref (d + 20), .ref (d + 21), .int (w 26), .int (w 27), .int (w 28), .ref (d + 22), .ref (d + 23), .ref (d + 24), .ref (d + 25), .ref (d + 26), .int (w 34), .ref (d + 27), .ref (d + 28), .int (w 37), .int (w 38)])) Hn := hRl.1
                  refine g_get X kc_Model mo47 6 (by decide) lk_Model_22 rfl d_Model_next_123 ?_
                  refine lv_iload_n X.1.1 X.1.2.1 d_Model_next_126 rfl (gl_at hl rfl) ?_
                  have ma48 : va_at D CL (d + 5, .inl (q 0, 192, .inl (ar 5))) Hn := hRl.a5
                  refine g_iald X 0 ma48 rfl r0 (by omega) (by omega) d_Model_next_127 ?_
                  refine g_top (nI ((kk r0).length)) hb2 ?_
                  refine gn_ge X.1.1 X.1.2.1 i ((kk r0).length) (by omega) (by omega) d_Model_next_128 rfl (fun hc128 => ?_) (fun hc128 => ?_)
                  · refine lv_iload_n X.1.1 X.1.2.1 d_Model_next_161 rfl (gl_at hl rfl) ?_
                    exact g_iret X B ⟨Or.inr ⟨r0, F, G, Or.inl ⟨hc34, ho⟩, rfl, hF, by rw [show (kk r0).length = i by omega]; exact hi120_1, hRl⟩, hzl, fun p hp => (frl p (by omega))⟩ hL d_Model_next_162 (by omega) (by omega)
                  · refine lv_aload_n X.1.1 X.1.2.1 d_Model_next_131 rfl (gl_at hl rfl) ?_
                    refine g_get X kc_Model mo47 18 (by decide) lk_Model_60 rfl d_Model_next_132 ?_
                    refine lv_bipush (v := nI 8) X.1.1 X.1.2.1 d_Model_next_135 (by decide) ?_
                    refine lv_iload_n X.1.1 X.1.2.1 d_Model_next_137 rfl (gl_at hl rfl) ?_
                    refine lv_imul X.1.1 X.1.2.1 d_Model_next_138 ?_
                    refine g_top (nI (8 * v)) (pk_mul _ _) ?_
                    refine lv_iload X.1.1 X.1.2.1 d_Model_next_139 (gl_at hl rfl) ?_
                    refine lv_iadd X.1.1 X.1.2.1 d_Model_next_141 ?_
                    refine g_top (nI ((8 * v) + i)) (nI_add _ _) ?_
                    refine lv_aload_n X.1.1 X.1.2.1 d_Model_next_142 rfl (gl_at hl rfl) ?_
                    refine g_get X kc_Model mo47 5 (by decide) lk_Model_19 rfl d_Model_next_143 ?_
                    refine lv_bipush (v := nI 8) X.1.1 X.1.2.1 d_Model_next_146 (by decide) ?_
                    refine lv_iload_n X.1.1 X.1.2.1 d_Model_next_148 rfl (gl_at hl rfl) ?_
                    refine lv_imul X.1.1 X.1.2.1 d_Model_next_149 ?_
                    refine g_top (nI (8 * r0)) (pk_mul _ _) ?_
                    refine lv_iload X.1.1 X.1.2.1 d_Model_next_150 (gl_at hl rfl) ?_
                    refine lv_iadd X.1.1 X.1.2.1 d_Model_next_152 ?_
                    refine g_top (nI ((8 * r0) + i)) (nI_add _ _) ?_
                    have ma49 : va_at D CL (d + 4, .inl (q 0, 1536, .inl (ar 4))) Hn := hRl.a4
                    refine g_iald X 0 ma49 rfl ((8 * r0) + i) (by omega) (by omega) d_Model_next_153 ?_
                    refine g_top (nI ((kk r0).getD i 0)) (hb1 i (by omega)) ?_
                    have ma50 : va_at D CL (d + 16, .inl (q 0, 96, .inl G)) Hn := hRl.a16
                    refine g_iast (A := (fun p => d ≤ p ∧ p ≤ d + 28)) X 0 ma50 rfl ((8 * v) + i) (by omega) (by decide) d_Model_next_154 ⟨by omega, by omega⟩ hL (fun H51 locs h52 z53 oq54 hL => ?_)
                    have hR55 : dR D q H51 d (upd (upd w 0 (nI 0)) 20 (nI ((kk r0).length))) (va_up (va_up (va_up (va_up (va_up ar 12 (upd (ar 12) v (nI 1))) 13 (upd (ar 13) v (nI 1))) 15 (upd (ar 15) v (nI ((kk r0).length)))) 16 (upd G ((8 * v) + i) (nI ((kk r0).getD i 0)))) 17 F) := hRl.putB 16 (by decide) h52 oq54 rfl (fun j hj => by simp only [va_up, if_neg hj])
                    refine g_iinc X.1.1 X.1.2.1 (nI (i + 1)) hl 4 d_Model_next_155 rfl (nI_1 _) rfl (fun ls hl => ?_)
                    refine lv_goto X.1.1 X.1.2.1 d_Model_next_158 rfl ?_
                    exact ih120 (i + 1) (upd G ((8 * v) + i) (nI ((kk r0).getD i 0))) H51 locs ls (by omega) (by omega) (hi120_1.step rfl) hR55 (z53.trans hzl) (fun p hp => ((oq54 p (by omega)).trans (frl p (by omega)))) hL hl
              exact loop120 _ 0 (ar 16) H42 locs ls (Nat.lt_succ_self _) (Nat.zero_le _) tCp.zero (hR46.as (fun j => by first | rfl | (simp only [upd]; (repeat' split) <;> first | rfl | omega | (subst_vars; rfl))) (fun j => by first | rfl | (simp only [va_up]; (repeat' split) <;> first | rfl | omega | (subst_vars; rfl)))) (z44.trans (z36.trans (z29.trans z23))) (fun p hp => ((oq45 p (by omega)).trans ((oq37 p (by omega)).trans ((oq30 p (by omega)).trans (fr24 p (by omega)))))) hL hl
            · omega
      · have hla1 := hla hc34
        have hla8 := hla1.2.2.1
        refine lv_aload_n X.1.1 X.1.2.1 d_Model_next_37 rfl (gl_at hl rfl) ?_
        refine lv_iload_n X.1.1 X.1.2.1 d_Model_next_38 rfl (gl_at hl rfl) ?_
        refine lv_iconst (v := nI 1) X.1.1 X.1.2.1 d_Model_next_39 (by decide) ?_
        refine lv_iconst (v := nI 0) X.1.1 X.1.2.1 d_Model_next_40 (by decide) ?_
        refine lv_aload_n X.1.1 X.1.2.1 d_Model_next_41 rfl (gl_at hl rfl) ?_
        refine g_get X kc_Model mo1 18 (by decide) lk_Model_60 rfl d_Model_next_42 ?_
        refine lv_bipush (v := nI 8) X.1.1 X.1.2.1 d_Model_next_45 (by decide) ?_
        refine lv_iload_n X.1.1 X.1.2.1 d_Model_next_47 rfl (gl_at hl rfl) ?_
        refine lv_imul X.1.1 X.1.2.1 d_Model_next_48 ?_
        refine g_top (nI (8 * v)) (pk_mul _ _) ?_
        refine lv_aload_n X.1.1 X.1.2.1 d_Model_next_49 rfl (gl_at hl rfl) ?_
        refine g_get X kc_Model mo1 17 (by decide) lk_Model_57 rfl d_Model_next_50 ?_
        refine lv_iload_n X.1.1 X.1.2.1 d_Model_next_53 rfl (gl_at hl rfl) ?_
        have ma56 : va_at D CL (d + 15, .inl (q 0, 12, .inl (ar 15))) H := hR.a15
        refine g_iald X 0 ma56 rfl v (by omega) (by omega) d_Model_next_54 ?_
        refine g_top (nI la.length) hla1.1 ?_
        refine g_cv (A := (fun p => d ≤ p ∧ p ≤ d + 28)) X gWS_good mw_Model_157 kc_Model mo1 (c_Model_nearest l D q H d w ar hR c0 org srt bt tn mp hv hN kk hk n chg hm v hvc 1 0 (by omega) (by omega) (d + 16) 96 (ar 16) hR.a16 (8 * v) _ la rfl hla1.2.1 (by omega) (by omega) hla1.2.2.2) (fun _ _ _ => trivial) gBlind.tt rfl rfl hl.1 (Nat.le_of_ble_eq_true rfl) rfl rfl ⟨by decide, by decide⟩ ⟨by decide, by decide⟩ d_Model_next_55 (fun _ h => h.elim) hL (fun v57 H58 locs hp59 hL => ?_)
        obtain ⟨⟨o, rfl, ho⟩, hHe⟩ := hp59
        rw [hHe]
        refine lv_goto X.1.1 X.1.2.1 d_Model_next_58 rfl ?_
        refine g_istn X.1.1 X.1.2.1 hl 2 d_Model_next_74 rfl (Nat.le_of_ble_eq_true rfl) rfl (fun ls hl => ?_)
        refine lv_aload_n X.1.1 X.1.2.1 d_Model_next_75 rfl (gl_at hl rfl) ?_
        refine lv_iload_n X.1.1 X.1.2.1 d_Model_next_76 rfl (gl_at hl rfl) ?_
        refine lv_iconst (v := nI 3) X.1.1 X.1.2.1 d_Model_next_77 (by decide) ?_
        cases o with
        | none =>
            refine g_cv (A := (fun p => d ≤ p ∧ p ≤ d + 28)) X gWS_good mw_Model_161 kc_Model mo1 (c_Model_tellN l D q H d w ar hR (nI 3)) (fun _ _ _ => trivial) gBlind.tt rfl rfl hl.1 (Nat.le_of_ble_eq_true rfl) rfl rfl ⟨by decide, by decide⟩ ⟨by decide, by decide⟩ d_Model_next_78 (fun _ h => h) hL (fun v60 H61 locs hp62 hL => ?_)
            obtain ⟨rfl, hR63, z64, fr65⟩ := hp62
            refine g_istn X.1.1 X.1.2.1 hl 3 d_Model_next_81 rfl (Nat.le_of_ble_eq_true rfl) rfl (fun ls hl => ?_)
            refine lv_aload_n X.1.1 X.1.2.1 d_Model_next_82 rfl (gl_at hl rfl) ?_
            have mo66 : va_at D CL (d, .inr (10, [.int (nI 3), .ref (d + 1), .int (w 2), .ref (d + 2), .ref (d + 3), .ref (d + 4), .ref (d + 5), .ref (d + 6), .int (w 8), .ref (d + 7), .ref (d + 8), .ref (d + 9), .ref (d + 10), .ref (d + 11), .ref (d + 12), .ref (d + 13), .ref (d + 14), .ref (d + 15), .ref (d + 16), .ref (d + 17), .int (w 20), .ref (d + 18), .int (w 22), .ref (d + 19), .ref (d + 20), .ref (d + 21), .int (w 26), .int (w 27), .int (w 28), .ref (d + 22), .ref (d + 23), .ref (d + 24), .ref (d + 25), .ref (d + 26), .int (w 34), .ref (d + 27), .ref (d + 28), .int (w 37), .int (w 38)])) H61 := hR63.1
            refine g_get X kc_Model mo66 0 (by decide) lk_Model_99 rfl d_Model_next_83 ?_
            refine gn_eq0 X.1.1 X.1.2.1 3 (by omega) d_Model_next_86 rfl (fun hc86 => ?_) (fun hc86 => ?_)
            · omega
            · refine lv_iconst (v := nI 0) X.1.1 X.1.2.1 d_Model_next_89 (by decide) ?_
              exact g_iret X B ⟨Or.inl ⟨Or.inr ⟨hc34, ho⟩, rfl, hR63⟩, z64, fun p hp => (fr65 p (by omega))⟩ hL d_Model_next_90 (by omega) (by omega)
        | some r0 =>
            have hr0 := ho.lt
            obtain ⟨hb1, hb2, hb3, hb4⟩ := hk r0 (by omega)
            refine g_cv (A := (fun p => d ≤ p ∧ p ≤ d + 28)) X gWS_good mw_Model_161 kc_Model mo1 (c_Model_tell l D q H d w ar hR kk hk r0 (by omega) (nI 3)) (fun _ _ _ => trivial) gBlind.tt rfl rfl hl.1 (Nat.le_of_ble_eq_true rfl) rfl rfl ⟨by decide, by decide⟩ ⟨by decide, by decide⟩ d_Model_next_78 (fun _ h => h) hL (fun v67 H68 locs hp69 hL => ?_)
            obtain ⟨F, ⟨rfl, hF⟩, hp9⟩ := hp69
            obtain ⟨hR70, z71, fr72⟩ := hp9
            refine g_istn X.1.1 X.1.2.1 hl 3 d_Model_next_81 rfl (Nat.le_of_ble_eq_true rfl) rfl (fun ls hl => ?_)
            refine lv_aload_n X.1.1 X.1.2.1 d_Model_next_82 rfl (gl_at hl rfl) ?_
            have mo73 : va_at D CL (d, .inr (10, [.int (nI 0), .ref (d + 1), .int (w 2), .ref (d + 2), .ref (d + 3), .ref (d + 4), .ref (d + 5), .ref (d + 6), .int (w 8), .ref (d + 7), .ref (d + 8), .ref (d + 9), .ref (d + 10), .ref (d + 11), .ref (d + 12), .ref (d + 13), .ref (d + 14), .ref (d + 15), .ref (d + 16), .ref (d + 17), .int (nI ((kk r0).length)), .ref (d + 18), .int (w 22), .ref (d + 19), .ref (d + 20), .ref (d + 21), .int (w 26), .int (w 27), .int (w 28), .ref (d + 22), .ref (d + 23), .ref (d + 24), .ref (d + 25), .ref (d + 26), .int (w 34), .ref (d + 27), .ref (d + 28), .int (w 37), .int (w 38)])) H68 := hR70.1
            refine g_get X kc_Model mo73 0 (by decide) lk_Model_99 rfl d_Model_next_83 ?_
            refine gn_eq0 X.1.1 X.1.2.1 0 (by omega) d_Model_next_86 rfl (fun hc86 => ?_) (fun hc86 => ?_)
            · refine lv_aload_n X.1.1 X.1.2.1 d_Model_next_91 rfl (gl_at hl rfl) ?_
              refine g_get X kc_Model mo73 14 (by decide) lk_Model_48 rfl d_Model_next_92 ?_
              refine lv_iload_n X.1.1 X.1.2.1 d_Model_next_95 rfl (gl_at hl rfl) ?_
              refine lv_iconst (v := nI 1) X.1.1 X.1.2.1 d_Model_next_96 (by decide) ?_
              have ma74 : va_at D CL (d + 12, .inl (q 1, 12, .inl (ar 12))) H68 := hR70.a12
              refine g_zast (A := (fun p => d ≤ p ∧ p ≤ d + 28)) X 1 ma74 rfl v (by omega) (by decide) (by decide) d_Model_next_97 ⟨by omega, by omega⟩ hL (fun H75 locs h76 z77 oq78 hL => ?_)
              have hR79 : dR D q H75 d (upd (upd w 0 (nI 0)) 20 (nI ((kk r0).length))) (va_up (va_up ar 12 (upd (ar 12) v (nI 1))) 17 F) := hR70.putB 12 (by decide) h76 oq78 rfl (fun j hj => by simp only [va_up, if_neg hj])
              refine lv_aload_n X.1.1 X.1.2.1 d_Model_next_98 rfl (gl_at hl rfl) ?_
              have mo80 : va_at D CL (d, .inr (10, [.int (nI 0), .ref (d + 1), .int (w 2), .ref (d + 2), .ref (d + 3), .ref (d + 4), .ref (d + 5), .ref (d + 6), .int (w 8), .ref (d + 7), .ref (d + 8), .ref (d + 9), .ref (d + 10), .ref (d + 11), .ref (d + 12), .ref (d + 13), .ref (d + 14), .ref (d + 15), .ref (d + 16), .ref (d + 17), .int (nI ((kk r0).length)), .ref (d + 18), .int (w 22), .ref (d + 19), .ref (d + 20), .ref (d + 21), .int (w 26), .int (w 27), .int (w 28), .ref (d + 22), .ref (d + 23), .ref (d + 24), .ref (d + 25), .ref (d + 26), .int (w 34), .ref (d + 27), .ref (d + 28), .int (w 37), .int (w 38)])) H75 := hR79.1
              refine g_get X kc_Model mo80 15 (by decide) lk_Model_51 rfl d_Model_next_99 ?_
              refine lv_iload_n X.1.1 X.1.2.1 d_Model_next_102 rfl (gl_at hl rfl) ?_
              refine lv_iconst (v := nI 1) X.1.1 X.1.2.1 d_Model_next_103 (by decide) ?_
              have ma81 : va_at D CL (d + 13, .inl (q 1, 12, .inl (ar 13))) H75 := hR79.a13
              refine g_zast (A := (fun p => d ≤ p ∧ p ≤ d + 28)) X 1 ma81 rfl v (by omega) (by decide) (by decide) d_Model_next_104 ⟨by omega, by omega⟩ hL (fun H82 locs h83 z84 oq85 hL => ?_)
              have hR86 : dR D q H82 d (upd (upd w 0 (nI 0)) 20 (nI ((kk r0).length))) (va_up (va_up (va_up ar 12 (upd (ar 12) v (nI 1))) 13 (upd (ar 13) v (nI 1))) 17 F) := hR79.putB 13 (by decide) h83 oq85 rfl (fun j hj => by simp only [va_up, if_neg hj])
              refine lv_aload_n X.1.1 X.1.2.1 d_Model_next_105 rfl (gl_at hl rfl) ?_
              have mo87 : va_at D CL (d, .inr (10, [.int (nI 0), .ref (d + 1), .int (w 2), .ref (d + 2), .ref (d + 3), .ref (d + 4), .ref (d + 5), .ref (d + 6), .int (w 8), .ref (d + 7), .ref (d + 8), .ref (d + 9), .ref (d + 10), .ref (d + 11), .ref (d + 12), .ref (d + 13), .ref (d + 14), .ref (d + 15), .ref (d + 16), .ref (d + 17), .int (nI ((kk r0).length)), .ref (d + 18), .int (w 22), .ref (d + 19), .ref (d + 20), .ref (d + 21), .int (w 26), .int (w 27), .int (w 28), .ref (d + 22), .ref (d + 23), .ref (d + 24), .ref (d + 25), .ref (d + 26), .int (w 34), .ref (d + 27), .ref (d + 28), .int (w 37), .int (w 38)])) H82 := hR86.1
              refine g_get X kc_Model mo87 17 (by decide) lk_Model_57 rfl d_Model_next_106 ?_
              refine lv_iload_n X.1.1 X.1.2.1 d_Model_next_109 rfl (gl_at hl rfl) ?_
              refine lv_aload_n X.1.1 X.1.2.1 d_Model_next_110 rfl (gl_at hl rfl) ?_
              refine g_get X kc_Model mo87 6 (by decide) lk_Model_22 rfl d_Model_next_111 ?_
              refine lv_iload_n X.1.1 X.1.2.1 d_Model_next_114 rfl (gl_at hl rfl) ?_
              have ma88 : va_at D CL (d + 5, .inl (q 0, 192, .inl (ar 5))) H82 := hR86.a5
              refine g_iald X 0 ma88 rfl r0 (by omega) (by omega) d_Model_next_115 ?_
              refine g_top (nI ((kk r0).length)) hb2 ?_
              have ma89 : va_at D CL (d + 15, .inl (q 0, 12, .inl (ar 15))) H82 := hR86.a15
              refine g_iast (A := (fun p => d ≤ p ∧ p ≤ d + 28)) X 0 ma89 rfl v (by omega) (by decide) d_Model_next_116 ⟨by omega, by omega⟩ hL (fun H90 locs h91 z92 oq93 hL => ?_)
              have hR94 : dR D q H90 d (upd (upd w 0 (nI 0)) 20 (nI ((kk r0).length))) (va_up (va_up (va_up (va_up ar 12 (upd (ar 12) v (nI 1))) 13 (upd (ar 13) v (nI 1))) 15 (upd (ar 15) v (nI ((kk r0).length)))) 17 F) := hR86.putB 15 (by decide) h91 oq93 rfl (fun j hj => by simp only [va_up, if_neg hj])
              refine lv_iconst (v := nI 0) X.1.1 X.1.2.1 d_Model_next_117 (by decide) ?_
              refine g_ist X.1.1 X.1.2.1 hl 4 d_Model_next_118 (Nat.le_of_ble_eq_true rfl) rfl (fun ls hl => ?_)
              have loop120 : ∀ (fu : Nat) (i : Nat) (G : Nat → Int32) (Hn : Heap) (locs : List Loc) (ls : Array Slot), (kk r0).length - i < fu → (i ≤ (kk r0).length) → (tCp G (ar 16) (8 * v) (kk r0) i) → (dR D q Hn d (upd (upd w 0 (nI 0)) 20 (nI ((kk r0).length))) (va_up (va_up (va_up (va_up (va_up ar 12 (upd (ar 12) v (nI 1))) 13 (upd (ar 13) v (nI 1))) 15 (upd (ar 15) v (nI ((kk r0).length)))) 16 G) 17 F)) → (Hn.size = H.size) → (∀ p : Nat, (p < d ∨ d + 28 < p) → Hn[p]? = H[p]?) → (∀ x ∈ locs, (fun p => d ≤ p ∧ p ≤ d + 28) x.base) → gl ls [some (.ref d), some (.int (nI v)), some (.int (nI r0)), some (.int (ar 6 r0)), some (.int (nI i))] → W p l e (gR 5 132 0 0) s m ([.ref d, .int (nI v)] : List Value).toArray below meth c Hn locs 0 0 (gQ below ([.ref d, .int (nI v)] : List Value).toArray s (fun v1 H1 => ((((ar 12 v = 0 ∧ d_nr (fun xs => v_in org srt bt v xs = true ∧ d_cd (tn v) 1 1 none xs) (tn v) 1 kk (64 * mp v) (n (mp v)) none) ∨ (¬ ar 12 v = 0 ∧ d_nr (fun xs => v_in org srt bt v xs = true ∧ d_cd (tn v) 1 0 (some la) xs) (tn v) 1 kk (64 * mp v) (n (mp v)) none)) ∧ v1 = some (.int 0) ∧ dR D q H1 d (upd w 0 (nI 3)) ar) ∨ ∃ r0 F G, ((ar 12 v = 0 ∧ d_nr (fun xs => v_in org srt bt v xs = true ∧ d_cd (tn v) 1 1 none xs) (tn v) 1 kk (64 * mp v) (n (mp v)) (some r0)) ∨ (¬ ar 12 v = 0 ∧ d_nr (fun xs => v_in org srt bt v xs = true ∧ d_cd (tn v) 1 0 (some la) xs) (tn v) 1 kk (64 * mp v) (n (mp v)) (some r0))) ∧ v1 = some (.int (ar 6 r0)) ∧ tXo F 0 (kk r0) ∧ tCp G (ar 16) (8 * v) (kk r0) (kk r0).length ∧ dR D q H1 d (upd (upd w 0 (nI 0)) 20 (nI ((kk r0).length))) (va_up (va_up (va_up (va_up (va_up ar 12 (upd (ar 12) v (nI 1))) 13 (upd (ar 13) v (nI 1))) 15 (upd (ar 15) v (nI (kk r0).length))) 16 G) 17 F)) ∧ H1.size = H.size ∧ ∀ p : Nat, (p < d ∨ d + 28 < p) → H1[p]? = H[p]?) 0 0 (fun p => d ≤ p ∧ p ≤ d + 28)) (F0 m 120 ls []) := by
                intro fu
                induction fu with
                | zero => intro i G Hn locs ls hmu; omega
                | succ fu ih120 =>
                  intro i G Hn locs ls hmu120 hi120_0 hi120_1 hRl hzl frl hL hl
                  refine lv_iload X.1.1 X.1.2.1 d_Model_next_120 (gl_at hl rfl) ?_
                  refine lv_aload_n X.1.1 X.1.2.1 d_Model_next_122 rfl (gl_at hl rfl) ?_
                  have mo95 : va_at D CL (d, .inr (10, [.int (nI 0), .ref (d + 1), .int (w 2), .ref (d + 2), .ref (d + 3), .ref (d + 4), .ref (d + 5), .ref (d + 6), .int (w 8), .ref (d + 7), .ref (d + 8), .ref (d + 9), .ref (d + 10), .ref (d + 11), .ref (d + 12), .ref (d + 13), .ref (d + 14), .ref (d + 15), .ref (d + 16), .ref (d + 17), .int (nI ((kk r0).length)), .ref (d + 18), .int (w 22), .ref (d + 19), .ref (d + 20), .ref (d + 21), .int (w 26), .int (w 27), .int (w 28), .ref (d + 22), .ref (d + 23), .ref (d + 24), .ref (d + 25), .ref (d + 26), .int (w 34), .ref (d + 27), .ref (d + 28), .int (w 37), .int (w 38)])) Hn := hRl.1
                  refine g_get X kc_Model mo95 6 (by decide) lk_Model_22 rfl d_Model_next_123 ?_
                  refine lv_iload_n X.1.1 X.1.2.1 d_Model_next_126 rfl (gl_at hl rfl) ?_
                  have ma96 : va_at D CL (d + 5, .inl (q 0, 192, .inl (ar 5))) Hn := hRl.a5
                  refine g_iald X 0 ma96 rfl r0 (by omega) (by omega) d_Model_next_127 ?_
                  refine g_top (nI ((kk r0).length)) hb2 ?_
                  refine gn_ge X.1.1 X.1.2.1 i ((kk r0).length) (by omega) (by omega) d_Model_next_128 rfl (fun hc128 => ?_) (fun hc128 => ?_)
                  · refine lv_iload_n X.1.1 X.1.2.1 d_Model_next_161 rfl (gl_at hl rfl) ?_
                    exact g_iret X B ⟨Or.inr ⟨r0, F, G, Or.inr ⟨hc34, ho⟩, rfl, hF, by rw [show (kk r0).length = i by omega]; exact hi120_1, hRl⟩, hzl, fun p hp => (frl p (by omega))⟩ hL d_Model_next_162 (by omega) (by omega)
                  · refine lv_aload_n X.1.1 X.1.2.1 d_Model_next_131 rfl (gl_at hl rfl) ?_
                    refine g_get X kc_Model mo95 18 (by decide) lk_Model_60 rfl d_Model_next_132 ?_
                    refine lv_bipush (v := nI 8) X.1.1 X.1.2.1 d_Model_next_135 (by decide) ?_
                    refine lv_iload_n X.1.1 X.1.2.1 d_Model_next_137 rfl (gl_at hl rfl) ?_
                    refine lv_imul X.1.1 X.1.2.1 d_Model_next_138 ?_
                    refine g_top (nI (8 * v)) (pk_mul _ _) ?_
                    refine lv_iload X.1.1 X.1.2.1 d_Model_next_139 (gl_at hl rfl) ?_
                    refine lv_iadd X.1.1 X.1.2.1 d_Model_next_141 ?_
                    refine g_top (nI ((8 * v) + i)) (nI_add _ _) ?_
                    refine lv_aload_n X.1.1 X.1.2.1 d_Model_next_142 rfl (gl_at hl rfl) ?_
                    refine g_get X kc_Model mo95 5 (by decide) lk_Model_19 rfl d_Model_next_143 ?_
                    refine lv_bipush (v := nI 8) X.1.1 X.1.2.1 d_Model_next_146 (by decide) ?_
                    refine lv_iload_n X.1.1 X.1.2.1 d_Model_next_148 rfl (gl_at hl rfl) ?_
                    refine lv_imul X.1.1 X.1.2.1 d_Model_next_149 ?_
                    refine g_top (nI (8 * r0)) (pk_mul _ _) ?_
                    refine lv_iload X.1.1 X.1.2.1 d_Model_next_150 (gl_at hl rfl) ?_
                    refine lv_iadd X.1.1 X.1.2.1 d_Model_next_152 ?_
                    refine g_top (nI ((8 * r0) + i)) (nI_add _ _) ?_
                    have ma97 : va_at D CL (d + 4, .inl (q 0, 1536, .inl (ar 4))) Hn := hRl.a4
                    refine g_iald X 0 ma97 rfl ((8 * r0) + i) (by omega) (by omega) d_Model_next_153 ?_
                    refine g_top (nI ((kk r0).getD i 0)) (hb1 i (by omega)) ?_
                    have ma98 : va_at D CL (d + 16, .inl (q 0, 96, .inl G)) Hn := hRl.a16
                    refine g_iast (A := (fun p => d ≤ p ∧ p ≤ d + 28)) X 0 ma98 rfl ((8 * v) + i) (by omega) (by decide) d_Model_next_154 ⟨by omega, by omega⟩ hL (fun H99 locs h100 z101 oq102 hL => ?_)
                    have hR103 : dR D q H99 d (upd (upd w 0 (nI 0)) 20 (nI ((kk r0).length))) (va_up (va_up (va_up (va_up (va_up ar 12 (upd (ar 12) v (nI 1))) 13 (upd (ar 13) v (nI 1))) 15 (upd (ar 15) v (nI ((kk r0).length)))) 16 (upd G ((8 * v) + i) (nI ((kk r0).getD i 0)))) 17 F) := hRl.putB 16 (by decide) h100 oq102 rfl (fun j hj => by simp only [va_up, if_neg hj])
                    refine g_iinc X.1.1 X.1.2.1 (nI (i + 1)) hl 4 d_Model_next_155 rfl (nI_1 _) rfl (fun ls hl => ?_)
                    refine lv_goto X.1.1 X.1.2.1 d_Model_next_158 rfl ?_
                    exact ih120 (i + 1) (upd G ((8 * v) + i) (nI ((kk r0).getD i 0))) H99 locs ls (by omega) (by omega) (hi120_1.step rfl) hR103 (z101.trans hzl) (fun p hp => ((oq102 p (by omega)).trans (frl p (by omega)))) hL hl
              exact loop120 _ 0 (ar 16) H90 locs ls (Nat.lt_succ_self _) (Nat.zero_le _) tCp.zero (hR94.as (fun j => by first | rfl | (simp only [upd]; (repeat' split) <;> first | rfl | omega | (subst_vars; rfl))) (fun j => by first | rfl | (simp only [va_up]; (repeat' split) <;> first | rfl | omega | (subst_vars; rfl)))) (z92.trans (z84.trans (z77.trans z71))) (fun p hp => ((oq93 p (by omega)).trans ((oq85 p (by omega)).trans ((oq78 p (by omega)).trans (fr72 p (by omega)))))) hL hl
            · omega
    · replace hc19 := gz_t hc19
      exact absurd hc19 hst
  · replace hc5 := gz_f hc5
    exact absurd (h_ok_of (by omega) hvc) hc5

set_option maxHeartbeats 4000000 in
set_option maxRecDepth 100000 in
/-- drop: refused -/
theorem c_Model_dropS (l : Launch) (D : va_G) (q : Nat → ClassId) (H : Heap) (d : Nat) (w : Nat → Int32) (ar : Nat → Nat → Int32) (hR : dR D q H d w ar) (c0 : Nat) (org : Nat → Option Nat) (srt : Nat → Nat) (bt : Nat → List Nat) (tn mp : Nat → Nat) (hv : pV w ar c0 org srt bt) (hN : pN c0 org srt tn mp) (v : Nat) (hvc : v < c0) (hst : (ar 11 v = 0 ∨ ar 14 v ≠ ar 3 (mp v)) ∨ ar 13 v = 0) : gC l y_Model_drop (Cond.code y_Model_drop b_Model_drop 5 (some .int) :: gWS) (gR 3 75 0 0) D CL (gY q) (fun _ => True) [.ref d, .int (nI v)] H (fun v1 H1 => v1 = some (.int 0) ∧ dR D q H1 d (upd w 0 (nI 2)) ar ∧ H1.size = H.size ∧ ∀ p : Nat, (p < d ∨ d + 28 < p) → H1[p]? = H[p]?) 0 0 (fun p => d ≤ p ∧ p ≤ d + 28) := by
  refine gC.ofW R_Model "drop" (by decide) rfl rfl ?_
  intro p e s m below meth c hadm X hE hH B hne
  refine g_entry [some (.ref d), some (.int (nI v)), none, none, none] rfl rfl (Nat.le_of_ble_eq_true rfl) (fun ls hl => ?_)
  have h12 := hv.2.2.1
  have hmp := (hN v hvc).1
  refine lv_aload_n X.1.1 X.1.2.1 d_Model_drop_0 rfl (gl_at hl rfl) ?_
  refine lv_iload_n X.1.1 X.1.2.1 d_Model_drop_1 rfl (gl_at hl rfl) ?_
  have mo1 : va_at D CL (d, .inr (10, [.int (w 0), .ref (d + 1), .int (w 2), .ref (d + 2), .ref (d + 3), .ref (d + 4), .ref (d + 5), .ref (d + 6), .int (w 8), .ref (d + 7), .ref (d + 8), .ref (d + 9), .ref (d + 10), .ref (d + 11), .ref (d + 12), .ref (d + 13), .ref (d + 14), .ref (d + 15), .ref (d + 16), .ref (d + 17), .int (w 20), .ref (d + 18), .int (w 22), .ref (d + 19), .ref (d + 20), .ref (d + 21), .int (w 26), .int (w 27), .int (w 28), .ref (d + 22), .ref (d + 23), .ref (d + 24), .ref (d + 25), .ref (d + 26), .int (w 34), .ref (d + 27), .ref (d + 28), .int (w 37), .int (w 38)])) H := hR.1
  refine g_cv (A := (fun p => d ≤ p ∧ p ≤ d + 28)) X gWS_good mw_Model_122 kc_Model mo1 (c_Model_isView l D q H d w ar hR c0 hv.1 (nI v)) (fun _ _ _ => trivial) gBlind.tt rfl rfl hl.1 (Nat.le_of_ble_eq_true rfl) rfl rfl ⟨by decide, by decide⟩ ⟨by decide, by decide⟩ d_Model_drop_2 (fun _ h => h.elim) (fun _ h => by cases h) (fun v2 H3 locs hp4 hL => ?_)
  obtain ⟨rfl, hHe⟩ := hp4
  rw [hHe]
  refine lv_if_ne X.1.1 X.1.2.1 d_Model_drop_5 rfl (fun hc5 => ?_) (fun hc5 => ?_)
  · replace hc5 := gz_t hc5
    refine lv_aload_n X.1.1 X.1.2.1 d_Model_drop_14 rfl (gl_at hl rfl) ?_
    refine lv_iload_n X.1.1 X.1.2.1 d_Model_drop_15 rfl (gl_at hl rfl) ?_
    refine g_cv (A := (fun p => d ≤ p ∧ p ≤ d + 28)) X gWS_good mw_Model_171 kc_Model mo1 (c_Model_stale l D q H d w ar hR c0 org srt bt tn mp hv hN v hvc) (fun _ _ _ => trivial) gBlind.tt rfl rfl hl.1 (Nat.le_of_ble_eq_true rfl) rfl rfl ⟨by decide, by decide⟩ ⟨by decide, by decide⟩ d_Model_drop_16 (fun _ h => h.elim) hL (fun v5 H6 locs hp7 hL => ?_)
    obtain ⟨rfl, hHe⟩ := hp7
    rw [hHe]
    refine lv_if_ne X.1.1 X.1.2.1 d_Model_drop_19 rfl (fun hc19 => ?_) (fun hc19 => ?_)
    · replace hc19 := gz_t hc19
      refine lv_aload_n X.1.1 X.1.2.1 d_Model_drop_31 rfl (gl_at hl rfl) ?_
      refine lv_iconst (v := nI 2) X.1.1 X.1.2.1 d_Model_drop_32 (by decide) ?_
      refine g_cv (A := (fun p => d ≤ p ∧ p ≤ d + 28)) X gWS_good mw_Model_126 kc_Model mo1 (c_Model_raise l D q H d w ar hR (nI 2)) (fun _ _ _ => trivial) gBlind.tt rfl rfl hl.1 (Nat.le_of_ble_eq_true rfl) rfl rfl ⟨by decide, by decide⟩ ⟨by decide, by decide⟩ d_Model_drop_33 (fun _ h => h) hL (fun v8 H9 locs hp10 hL => ?_)
      obtain ⟨rfl, hR11, z12, fr13⟩ := hp10
      exact g_iret X B ⟨rfl, hR11, z12, fun p hp => (fr13 p (by omega))⟩ hL d_Model_drop_36 (by omega) (by omega)
    · replace hc19 := gz_f hc19
      refine lv_aload_n X.1.1 X.1.2.1 d_Model_drop_22 rfl (gl_at hl rfl) ?_
      refine g_get X kc_Model mo1 15 (by decide) lk_Model_51 rfl d_Model_drop_23 ?_
      refine lv_iload_n X.1.1 X.1.2.1 d_Model_drop_26 rfl (gl_at hl rfl) ?_
      have ma14 : va_at D CL (d + 13, .inl (q 1, 12, .inl (ar 13))) H := hR.a13
      refine g_zald X 1 ma14 rfl v (by omega) (by omega) d_Model_drop_27 ?_
      refine lv_if_ne X.1.1 X.1.2.1 d_Model_drop_28 rfl (fun hc28 => ?_) (fun hc28 => ?_)
      · exact (hst.elim hc19 hc28).elim
      · refine lv_aload_n X.1.1 X.1.2.1 d_Model_drop_31 rfl (gl_at hl rfl) ?_
        refine lv_iconst (v := nI 2) X.1.1 X.1.2.1 d_Model_drop_32 (by decide) ?_
        refine g_cv (A := (fun p => d ≤ p ∧ p ≤ d + 28)) X gWS_good mw_Model_126 kc_Model mo1 (c_Model_raise l D q H d w ar hR (nI 2)) (fun _ _ _ => trivial) gBlind.tt rfl rfl hl.1 (Nat.le_of_ble_eq_true rfl) rfl rfl ⟨by decide, by decide⟩ ⟨by decide, by decide⟩ d_Model_drop_33 (fun _ h => h) hL (fun v15 H16 locs hp17 hL => ?_)
        obtain ⟨rfl, hR18, z19, fr20⟩ := hp17
        exact g_iret X B ⟨rfl, hR18, z19, fun p hp => (fr20 p (by omega))⟩ hL d_Model_drop_36 (by omega) (by omega)
  · replace hc5 := gz_f hc5
    exact absurd (h_ok_of (by omega) hvc) hc5

set_option maxHeartbeats 4000000 in
set_option maxRecDepth 100000 in
/-- drop -/
theorem c_Model_drop (l : Launch) (D : va_G) (q : Nat → ClassId) (H : Heap) (d : Nat) (w : Nat → Int32) (ar : Nat → Nat → Int32) (hR : dR D q H d w ar) (c0 : Nat) (org : Nat → Option Nat) (srt : Nat → Nat) (bt : Nat → List Nat) (tn mp : Nat → Nat) (hv : pV w ar c0 org srt bt) (hN : pN c0 org srt tn mp) (kk : Nat → List Nat) (hk : pK ar kk) (n chg : Nat → Nat) (hm : pM ar n chg) (v : Nat) (hvc : v < c0) (hst : ¬ ((ar 11 v = 0 ∨ ar 14 v ≠ ar 3 (mp v)) ∨ ar 13 v = 0)) (la : List Nat) (hla : ar 15 v = nI la.length ∧ tXo (ar 16) (8 * v) la ∧ la.length ≤ 8 ∧ t16 la) (hex : ∃ j, j < n (mp v) ∧ kk (64 * mp v + j) = la) : gC l y_Model_drop (Cond.code y_Model_drop b_Model_drop 5 (some .int) :: gWS) (gR 3 75 0 0) D CL (gY q) (fun _ => True) [.ref d, .int (nI v)] H (fun v1 H1 => ∃ r0 G, (d_ky kk (mp v) (n (mp v)) la (some r0) ∧ v1 = some (.int (ar 6 r0)) ∧ G = va_cpy (ar 4) (ar 4) (8 * (64 * mp v + n (mp v) - 1)) (8 * r0) 8) ∧ dR D q H1 d (upd w 0 (nI 0)) (va_up (va_up (va_up (va_up (va_up (va_up (va_up ar 2 (upd (ar 2) (mp v) (nI (n (mp v) - 1)))) 3 (upd (ar 3) (mp v) (nI (chg (mp v) + 1)))) 4 G) 5 (upd (ar 5) r0 (nI (kk (64 * mp v + n (mp v) - 1)).length))) 6 (upd (ar 6) r0 (ar 6 (64 * mp v + n (mp v) - 1)))) 13 (upd (ar 13) v (nI 0))) 14 (upd (ar 14) v (nI (chg (mp v) + 1)))) ∧ H1.size = H.size ∧ ∀ p : Nat, (p < d ∨ d + 28 < p) → H1[p]? = H[p]?) 0 0 (fun p => d ≤ p ∧ p ≤ d + 28) := by
  refine gC.ofW R_Model "drop" (by decide) rfl rfl ?_
  intro p e s m below meth c hadm X hE hH B hne
  refine g_entry [some (.ref d), some (.int (nI v)), none, none, none] rfl rfl (Nat.le_of_ble_eq_true rfl) (fun ls hl => ?_)
  have h12 := hv.2.2.1
  have hmp := (hN v hvc).1
  obtain ⟨hm1a, hm2, hm3⟩ := hm (mp v) hmp
  have hla8 := hla.2.2.1
  refine lv_aload_n X.1.1 X.1.2.1 d_Model_drop_0 rfl (gl_at hl rfl) ?_
  refine lv_iload_n X.1.1 X.1.2.1 d_Model_drop_1 rfl (gl_at hl rfl) ?_
  have mo1 : va_at D CL (d, .inr (10, [.int (w 0), .ref (d + 1), .int (w 2), .ref (d + 2), .ref (d + 3), .ref (d + 4), .ref (d + 5), .ref (d + 6), .int (w 8), .ref (d + 7), .ref (d + 8), .ref (d + 9), .ref (d + 10), .ref (d + 11), .ref (d + 12), .ref (d + 13), .ref (d + 14), .ref (d + 15), .ref (d + 16), .ref (d + 17), .int (w 20), .ref (d + 18), .int (w 22), .ref (d + 19), .ref (d + 20), .ref (d + 21), .int (w 26), .int (w 27), .int (w 28), .ref (d + 22), .ref (d + 23), .ref (d + 24), .ref (d + 25), .ref (d + 26), .int (w 34), .ref (d + 27), .ref (d + 28), .int (w 37), .int (w 38)])) H := hR.1
  refine g_cv (A := (fun p => d ≤ p ∧ p ≤ d + 28)) X gWS_good mw_Model_122 kc_Model mo1 (c_Model_isView l D q H d w ar hR c0 hv.1 (nI v)) (fun _ _ _ => trivial) gBlind.tt rfl rfl hl.1 (Nat.le_of_ble_eq_true rfl) rfl rfl ⟨by decide, by decide⟩ ⟨by decide, by decide⟩ d_Model_drop_2 (fun _ h => h.elim) (fun _ h => by cases h) (fun v2 H3 locs hp4 hL => ?_)
  obtain ⟨rfl, hHe⟩ := hp4
  rw [hHe]
  refine lv_if_ne X.1.1 X.1.2.1 d_Model_drop_5 rfl (fun hc5 => ?_) (fun hc5 => ?_)
  · replace hc5 := gz_t hc5
    refine lv_aload_n X.1.1 X.1.2.1 d_Model_drop_14 rfl (gl_at hl rfl) ?_
    refine lv_iload_n X.1.1 X.1.2.1 d_Model_drop_15 rfl (gl_at hl rfl) ?_
    refine g_cv (A := (fun p => d ≤ p ∧ p ≤ d + 28)) X gWS_good mw_Model_171 kc_Model mo1 (c_Model_stale l D q H d w ar hR c0 org srt bt tn mp hv hN v hvc) (fun _ _ _ => trivial) gBlind.tt rfl rfl hl.1 (Nat.le_of_ble_eq_true rfl) rfl rfl ⟨by decide, by decide⟩ ⟨by decide, by decide⟩ d_Model_drop_16 (fun _ h => h.elim) hL (fun v5 H6 locs hp7 hL => ?_)
    obtain ⟨rfl, hHe⟩ := hp7
    rw [hHe]
    refine lv_if_ne X.1.1 X.1.2.1 d_Model_drop_19 rfl (fun hc19 => ?_) (fun hc19 => ?_)
    · replace hc19 := gz_t hc19
      exact absurd (Or.inl hc19) hst
    · replace hc19 := gz_f hc19
      refine lv_aload_n X.1.1 X.1.2.1 d_Model_drop_22 rfl (gl_at hl rfl) ?_
      refine g_get X kc_Model mo1 15 (by decide) lk_Model_51 rfl d_Model_drop_23 ?_
      refine lv_iload_n X.1.1 X.1.2.1 d_Model_drop_26 rfl (gl_at hl rfl) ?_
      have ma8 : va_at D CL (d + 13, .inl (q 1, 12, .inl (ar 13))) H := hR.a13
      refine g_zald X 1 ma8 rfl v (by omega) (by omega) d_Model_drop_27 ?_
      refine lv_if_ne X.1.1 X.1.2.1 d_Model_drop_28 rfl (fun hc28 => ?_) (fun hc28 => ?_)
      · refine lv_aload_n X.1.1 X.1.2.1 d_Model_drop_37 rfl (gl_at hl rfl) ?_
        refine lv_iconst (v := nI 0) X.1.1 X.1.2.1 d_Model_drop_38 (by decide) ?_
        refine g_put (A := (fun p => d ≤ p ∧ p ≤ d + 28)) X kc_Model mo1 0 (by decide) lk_Model_99 rfl rfl rfl (Nat.le_of_ble_eq_true rfl) d_Model_drop_39 ⟨by omega, by omega⟩ hL (fun H9 locs h10 z11 oq12 hL => ?_)
        have hR13 : dR D q H9 d (upd w 0 (nI 0)) ar := hR.putO h10 oq12
        refine lv_aload_n X.1.1 X.1.2.1 d_Model_drop_42 rfl (gl_at hl rfl) ?_
        refine lv_iload_n X.1.1 X.1.2.1 d_Model_drop_43 rfl (gl_at hl rfl) ?_
        have mo14 : va_at D CL (d, .inr (10, [.int (nI 0), .ref (d + 1), .int (w 2), .ref (d + 2), .ref (d + 3), .ref (d + 4), .ref (d + 5), .ref (d + 6), .int (w 8), .ref (d + 7), .ref (d + 8), .ref (d + 9), .ref (d + 10), .ref (d + 11), .ref (d + 12), .ref (d + 13), .ref (d + 14), .ref (d + 15), .ref (d + 16), .ref (d + 17), .int (w 20), .ref (d + 18), .int (w 22), .ref (d + 19), .ref (d + 20), .ref (d + 21), .int (w 26), .int (w 27), .int (w 28), .ref (d + 22), .ref (d + 23), .ref (d + 24), .ref (d + 25), .ref (d + 26), .int (w 34), .ref (d + 27), .ref (d + 28), .int (w 37), .int (w 38)])) H9 := hR13.1
        refine g_cv (A := (fun p => d ≤ p ∧ p ≤ d + 28)) X gWS_good mw_Model_114 kc_Model mo14 (c_Model_mapOf l D q H9 d (upd w 0 (nI 0)) ar hR13 c0 org srt bt tn mp hv hN v hvc) (fun _ _ _ => trivial) gBlind.tt rfl rfl hl.1 (Nat.le_of_ble_eq_true rfl) rfl rfl ⟨by decide, by decide⟩ ⟨by decide, by decide⟩ d_Model_drop_44 (fun _ h => h.elim) hL (fun v15 H16 locs hp17 hL => ?_)
        obtain ⟨rfl, hHe⟩ := hp17
        rw [hHe]
        refine g_istn X.1.1 X.1.2.1 hl 2 d_Model_drop_47 rfl (Nat.le_of_ble_eq_true rfl) rfl (fun ls hl => ?_)
        refine lv_aload_n X.1.1 X.1.2.1 d_Model_drop_48 rfl (gl_at hl rfl) ?_
        refine lv_iload_n X.1.1 X.1.2.1 d_Model_drop_49 rfl (gl_at hl rfl) ?_
        refine lv_aload_n X.1.1 X.1.2.1 d_Model_drop_50 rfl (gl_at hl rfl) ?_
        refine g_get X kc_Model mo14 18 (by decide) lk_Model_60 rfl d_Model_drop_51 ?_
        refine lv_bipush (v := nI 8) X.1.1 X.1.2.1 d_Model_drop_54 (by decide) ?_
        refine lv_iload_n X.1.1 X.1.2.1 d_Model_drop_56 rfl (gl_at hl rfl) ?_
        refine lv_imul X.1.1 X.1.2.1 d_Model_drop_57 ?_
        refine g_top (nI (8 * v)) (pk_mul _ _) ?_
        refine lv_aload_n X.1.1 X.1.2.1 d_Model_drop_58 rfl (gl_at hl rfl) ?_
        refine g_get X kc_Model mo14 17 (by decide) lk_Model_57 rfl d_Model_drop_59 ?_
        refine lv_iload_n X.1.1 X.1.2.1 d_Model_drop_62 rfl (gl_at hl rfl) ?_
        have ma18 : va_at D CL (d + 15, .inl (q 0, 12, .inl (ar 15))) H9 := hR13.a15
        refine g_iald X 0 ma18 rfl v (by omega) (by omega) d_Model_drop_63 ?_
        refine g_top (nI la.length) hla.1 ?_
        refine g_cv (A := (fun p => d ≤ p ∧ p ≤ d + 28)) X gWS_good mw_Model_133 kc_Model mo14 (c_Model_keyOf l D q H9 d (upd w 0 (nI 0)) ar hR13 kk hk n chg hm (mp v) hmp (d + 16) 96 (ar 16) hR13.a16 (8 * v) _ la rfl hla.2.1 (by omega) (by omega) hla.2.2.2) (fun _ _ _ => trivial) gBlind.tt rfl rfl hl.1 (Nat.le_of_ble_eq_true rfl) rfl rfl ⟨by decide, by decide⟩ ⟨by decide, by decide⟩ d_Model_drop_64 (fun _ h => h.elim) hL (fun v19 H20 locs hp21 hL => ?_)
        obtain ⟨⟨o, rfl, ho⟩, hHe⟩ := hp21
        rw [hHe]
        obtain ⟨r0, rfl⟩ : ∃ r0, o = some r0 := by
          cases o with
          | none => obtain ⟨j, h1, h2⟩ := hex; exact absurd h2 (ho j h1)
          | some r0 => exact ⟨r0, rfl⟩
        have hr0 := ho.lt
        refine g_istn X.1.1 X.1.2.1 hl 3 d_Model_drop_67 rfl (Nat.le_of_ble_eq_true rfl) rfl (fun ls hl => ?_)
        refine lv_aload_n X.1.1 X.1.2.1 d_Model_drop_68 rfl (gl_at hl rfl) ?_
        refine g_get X kc_Model mo14 7 (by decide) lk_Model_25 rfl d_Model_drop_69 ?_
        refine lv_iload_n X.1.1 X.1.2.1 d_Model_drop_72 rfl (gl_at hl rfl) ?_
        have ma22 : va_at D CL (d + 6, .inl (q 0, 192, .inl (ar 6))) H9 := hR13.a6
        refine g_iald X 0 ma22 rfl r0 (by omega) (by omega) d_Model_drop_73 ?_
        refine g_ist X.1.1 X.1.2.1 hl 4 d_Model_drop_74 (Nat.le_of_ble_eq_true rfl) rfl (fun ls hl => ?_)
        refine lv_aload_n X.1.1 X.1.2.1 d_Model_drop_76 rfl (gl_at hl rfl) ?_
        refine lv_iload_n X.1.1 X.1.2.1 d_Model_drop_77 rfl (gl_at hl rfl) ?_
        refine lv_iload_n X.1.1 X.1.2.1 d_Model_drop_78 rfl (gl_at hl rfl) ?_
        refine g_cv (A := (fun p => d ≤ p ∧ p ≤ d + 28)) X gWS_good mw_Model_139 kc_Model mo14 (c_Model_clear l D q H9 d (upd w 0 (nI 0)) ar hR13 kk hk n chg hm (mp v) r0 hmp (by omega) (by omega)) (fun _ _ _ => trivial) gBlind.tt rfl rfl hl.1 (Nat.le_of_ble_eq_true rfl) rfl rfl ⟨by decide, by decide⟩ ⟨by decide, by decide⟩ d_Model_drop_79 (fun _ h => h) hL (fun v23 H24 locs hp25 hL => ?_)
        obtain ⟨G, ⟨rfl, hG⟩, hp9⟩ := hp25
        obtain ⟨hR26, z27, fr28⟩ := hp9
        replace hR26 : dR D q H24 d (upd w 0 (nI 0)) (va_up (va_up (va_up (va_up (va_up ar 2 (upd (ar 2) (mp v) (nI (n (mp v) - 1)))) 3 (upd (ar 3) (mp v) (nI (chg (mp v) + 1)))) 4 G) 5 (upd (ar 5) r0 (nI (kk (64 * mp v + n (mp v) - 1)).length))) 6 (upd (ar 6) r0 (ar 6 (64 * mp v + n (mp v) - 1)))) := hR26.as (fun j => by first | rfl | (simp only [upd]; (repeat' split) <;> first | rfl | omega)) (fun j => by first | rfl | (simp only [va_up]; (repeat' split) <;> first | rfl | omega))
        refine lv_aload_n X.1.1 X.1.2.1 d_Model_drop_82 rfl (gl_at hl rfl) ?_
        have mo29 : va_at D CL (d, .inr (10, [.int (nI 0), .ref (d + 1), .int (w 2), .ref (d + 2), .ref (d + 3), .ref (d + 4), .ref (d + 5), .ref (d + 6), .int (w 8), .ref (d + 7), .ref (d + 8), .ref (d + 9), .ref (d + 10), .ref (d + 11), .ref (d + 12), .ref (d + 13), .ref (d + 14), .ref (d + 15), .ref (d + 16), .ref (d + 17), .int (w 20), .ref (d + 18), .int (w 22), .ref (d + 19), .ref (d + 20), .ref (d + 21), .int (w 26), .int (w 27), .int (w 28), .ref (d + 22), .ref (d + 23), .ref (d + 24), .ref (d + 25), .ref (d + 26), .int (w 34), .ref (d + 27), .ref (d + 28), .int (w 37), .int (w 38)])) H24 := hR26.1
        refine g_get X kc_Model mo29 15 (by decide) lk_Model_51 rfl d_Model_drop_83 ?_
        refine lv_iload_n X.1.1 X.1.2.1 d_Model_drop_86 rfl (gl_at hl rfl) ?_
        refine lv_iconst (v := nI 0) X.1.1 X.1.2.1 d_Model_drop_87 (by decide) ?_
        have ma30 : va_at D CL (d + 13, .inl (q 1, 12, .inl (ar 13))) H24 := hR26.a13
        refine g_zast (A := (fun p => d ≤ p ∧ p ≤ d + 28)) X 1 ma30 rfl v (by omega) (by decide) (by decide) d_Model_drop_88 ⟨by omega, by omega⟩ hL (fun H31 locs h32 z33 oq34 hL => ?_)
        have hR35 : dR D q H31 d (upd w 0 (nI 0)) (va_up (va_up (va_up (va_up (va_up (va_up ar 2 (upd (ar 2) (mp v) (nI (n (mp v) - 1)))) 3 (upd (ar 3) (mp v) (nI (chg (mp v) + 1)))) 4 G) 5 (upd (ar 5) r0 (nI (kk (64 * mp v + n (mp v) - 1)).length))) 6 (upd (ar 6) r0 (ar 6 (64 * mp v + n (mp v) - 1)))) 13 (upd (ar 13) v (nI 0))) := hR26.putB 13 (by decide) h32 oq34 rfl (fun j hj => by simp only [va_up, if_neg hj])
        refine lv_aload_n X.1.1 X.1.2.1 d_Model_drop_89 rfl (gl_at hl rfl) ?_
        have mo36 : va_at D CL (d, .inr (10, [.int (nI 0), .ref (d + 1), .int (w 2), .ref (d + 2), .ref (d + 3), .ref (d + 4), .ref (d + 5), .ref (d + 6), .int (w 8), .ref (d + 7), .ref (d + 8), .ref (d + 9), .ref (d + 10), .ref (d + 11), .ref (d + 12), .ref (d + 13), .ref (d + 14), .ref (d + 15), .ref (d + 16), .ref (d + 17), .int (w 20), .ref (d + 18), .int (w 22), .ref (d + 19), .ref (d + 20), .ref (d + 21), .int (w 26), .int (w 27), .int (w 28), .ref (d + 22), .ref (d + 23), .ref (d + 24), .ref (d + 25), .ref (d + 26), .int (w 34), .ref (d + 27), .ref (d + 28), .int (w 37), .int (w 38)])) H31 := hR35.1
        refine g_get X kc_Model mo36 16 (by decide) lk_Model_54 rfl d_Model_drop_90 ?_
        refine lv_iload_n X.1.1 X.1.2.1 d_Model_drop_93 rfl (gl_at hl rfl) ?_
        refine lv_aload_n X.1.1 X.1.2.1 d_Model_drop_94 rfl (gl_at hl rfl) ?_
        refine g_get X kc_Model mo36 4 (by decide) lk_Model_16 rfl d_Model_drop_95 ?_
        refine lv_iload_n X.1.1 X.1.2.1 d_Model_drop_98 rfl (gl_at hl rfl) ?_
        have ma37 : va_at D CL (d + 3, .inl (q 0, 3, .inl (upd (ar 3) (mp v) (nI (chg (mp v) + 1))))) H31 := hR35.a3
        refine g_iald X 0 ma37 rfl (mp v) (by omega) (by omega) d_Model_drop_99 ?_
        refine g_top (nI (chg (mp v) + 1)) pk_us ?_
        have ma38 : va_at D CL (d + 14, .inl (q 0, 12, .inl (ar 14))) H31 := hR35.a14
        refine g_iast (A := (fun p => d ≤ p ∧ p ≤ d + 28)) X 0 ma38 rfl v (by omega) (by decide) d_Model_drop_100 ⟨by omega, by omega⟩ hL (fun H39 locs h40 z41 oq42 hL => ?_)
        have hR43 : dR D q H39 d (upd w 0 (nI 0)) (va_up (va_up (va_up (va_up (va_up (va_up (va_up ar 2 (upd (ar 2) (mp v) (nI (n (mp v) - 1)))) 3 (upd (ar 3) (mp v) (nI (chg (mp v) + 1)))) 4 G) 5 (upd (ar 5) r0 (nI (kk (64 * mp v + n (mp v) - 1)).length))) 6 (upd (ar 6) r0 (ar 6 (64 * mp v + n (mp v) - 1)))) 13 (upd (ar 13) v (nI 0))) 14 (upd (ar 14) v (nI (chg (mp v) + 1)))) := hR35.putB 14 (by decide) h40 oq42 rfl (fun j hj => by simp only [va_up, if_neg hj])
        refine lv_iload X.1.1 X.1.2.1 d_Model_drop_101 (gl_at hl rfl) ?_
        exact g_iret X B ⟨r0, G, ⟨ho, rfl, hG⟩, hR43, (z41.trans (z33.trans (z27.trans z11))), fun p hp => ((oq42 p (by omega)).trans ((oq34 p (by omega)).trans ((fr28 p (by omega)).trans (oq12 p (by omega)))))⟩ hL d_Model_drop_103 (by omega) (by omega)
      · exact absurd (Or.inr hc28) hst
  · replace hc5 := gz_f hc5
    exact absurd (h_ok_of (by omega) hvc) hc5

set_option maxHeartbeats 4000000 in
set_option maxRecDepth 100000 in
/-- match: refused -/
theorem c_Model_matchS (l : Launch) (D : va_G) (q : Nat → ClassId) (H : Heap) (d : Nat) (w : Nat → Int32) (ar : Nat → Nat → Int32) (hR : dR D q H d w ar) (c0 : Nat) (org : Nat → Option Nat) (srt : Nat → Nat) (bt : Nat → List Nat) (tn mp : Nat → Nat) (hv : pV w ar c0 org srt bt) (hN : pN c0 org srt tn mp) (tp : List Nat) (ht : pT w ar tp) (v : Nat) (hvc : v < c0) (x : Int32) (hx0 : x < 0) : gC l y_Model_match (Cond.code y_Model_match b_Model_match 9 (some .int) :: gWS) (gR 4 100 0 0) D CL (gY q) (fun _ => True) [.ref d, .int (nI v), .int x] H (fun v1 H1 => v1 = some (.int 0) ∧ dR D q H1 d (upd (upd w 0 (nI 2)) 2 (nI 0)) ar ∧ H1.size = H.size ∧ ∀ p : Nat, (p < d ∨ d + 28 < p) → H1[p]? = H[p]?) 0 0 (fun p => d ≤ p ∧ p ≤ d + 28) := by
  refine gC.ofW R_Model "match" (by decide) rfl rfl ?_
  intro p e s m below meth c hadm X hE hH B hne
  refine g_entry [some (.ref d), some (.int (nI v)), some (.int x), none, none, none, none, none, none] rfl rfl (Nat.le_of_ble_eq_true rfl) (fun ls hl => ?_)
  have h12 := hv.2.2.1
  have hmp := (hN v hvc).1
  refine lv_aload_n X.1.1 X.1.2.1 d_Model_match_0 rfl (gl_at hl rfl) ?_
  refine lv_iload_n X.1.1 X.1.2.1 d_Model_match_1 rfl (gl_at hl rfl) ?_
  have mo1 : va_at D CL (d, .inr (10, [.int (w 0), .ref (d + 1), .int (w 2), .ref (d + 2), .ref (d + 3), .ref (d + 4), .ref (d + 5), .ref (d + 6), .int (w 8), .ref (d + 7), .ref (d + 8), .ref (d + 9), .ref (d + 10), .ref (d + 11), .ref (d + 12), .ref (d + 13), .ref (d + 14), .ref (d + 15), .ref (d + 16), .ref (d + 17), .int (w 20), .ref (d + 18), .int (w 22), .ref (d + 19), .ref (d + 20), .ref (d + 21), .int (w 26), .int (w 27), .int (w 28), .ref (d + 22), .ref (d + 23), .ref (d + 24), .ref (d + 25), .ref (d + 26), .int (w 34), .ref (d + 27), .ref (d + 28), .int (w 37), .int (w 38)])) H := hR.1
  refine g_cv (A := (fun p => d ≤ p ∧ p ≤ d + 28)) X gWS_good mw_Model_122 kc_Model mo1 (c_Model_isView l D q H d w ar hR c0 hv.1 (nI v)) (fun _ _ _ => trivial) gBlind.tt rfl rfl hl.1 (Nat.le_of_ble_eq_true rfl) rfl rfl ⟨by decide, by decide⟩ ⟨by decide, by decide⟩ d_Model_match_2 (fun _ h => h.elim) (fun _ h => by cases h) (fun v2 H3 locs hp4 hL => ?_)
  obtain ⟨rfl, hHe⟩ := hp4
  rw [hHe]
  refine lv_if_ne X.1.1 X.1.2.1 d_Model_match_5 rfl (fun hc5 => ?_) (fun hc5 => ?_)
  · replace hc5 := gz_t hc5
    refine lv_aload_n X.1.1 X.1.2.1 d_Model_match_14 rfl (gl_at hl rfl) ?_
    refine g_get X kc_Model mo1 2 (by decide) lk_Model_102 rfl d_Model_match_15 ?_
    refine g_top (nI tp.length) ht.1 ?_
    refine g_istn X.1.1 X.1.2.1 hl 3 d_Model_match_18 rfl (Nat.le_of_ble_eq_true rfl) rfl (fun ls hl => ?_)
    refine lv_aload_n X.1.1 X.1.2.1 d_Model_match_19 rfl (gl_at hl rfl) ?_
    refine lv_iconst (v := nI 0) X.1.1 X.1.2.1 d_Model_match_20 (by decide) ?_
    refine g_put (A := (fun p => d ≤ p ∧ p ≤ d + 28)) X kc_Model mo1 2 (by decide) lk_Model_102 rfl rfl rfl (Nat.le_of_ble_eq_true rfl) d_Model_match_21 ⟨by omega, by omega⟩ hL (fun H5 locs h6 z7 oq8 hL => ?_)
    have hR9 : dR D q H5 d (upd w 2 (nI 0)) ar := hR.putO h6 oq8
    refine lv_iload_n X.1.1 X.1.2.1 d_Model_match_24 rfl (gl_at hl rfl) ?_
    refine lv_if_ge X.1.1 X.1.2.1 d_Model_match_25 rfl (fun hc25 => ?_) (fun hc25 => ?_)
    · exact absurd (gi_ge hc25) (by have := gi_lt hx0; omega)
    · refine lv_aload_n X.1.1 X.1.2.1 d_Model_match_28 rfl (gl_at hl rfl) ?_
      refine lv_iconst (v := nI 2) X.1.1 X.1.2.1 d_Model_match_29 (by decide) ?_
      have mo10 : va_at D CL (d, .inr (10, [.int (w 0), .ref (d + 1), .int (nI 0), .ref (d + 2), .ref (d + 3), .ref (d + 4), .ref (d + 5), .ref (d + 6), .int (w 8), .ref (d + 7), .ref (d + 8), .ref (d + 9), .ref (d + 10), .ref (d + 11), .ref (d + 12), .ref (d + 13), .ref (d + 14), .ref (d + 15), .ref (d + 16), .ref (d + 17), .int (w 20), .ref (d + 18), .int (w 22), .ref (d + 19), .ref (d + 20), .ref (d + 21), .int (w 26), .int (w 27), .int (w 28), .ref (d + 22), .ref (d + 23), .ref (d + 24), .ref (d + 25), .ref (d + 26), .int (w 34), .ref (d + 27), .ref (d + 28), .int (w 37), .int (w 38)])) H5 := hR9.1
      refine g_cv (A := (fun p => d ≤ p ∧ p ≤ d + 28)) X gWS_good mw_Model_126 kc_Model mo10 (c_Model_raise l D q H5 d (upd w 2 (nI 0)) ar hR9 (nI 2)) (fun _ _ _ => trivial) gBlind.tt rfl rfl hl.1 (Nat.le_of_ble_eq_true rfl) rfl rfl ⟨by decide, by decide⟩ ⟨by decide, by decide⟩ d_Model_match_30 (fun _ h => h) hL (fun v11 H12 locs hp13 hL => ?_)
      obtain ⟨rfl, hR14, z15, fr16⟩ := hp13
      exact g_iret X B ⟨rfl, hR14, (z15.trans z7), fun p hp => ((fr16 p (by omega)).trans (oq8 p (by omega)))⟩ hL d_Model_match_33 (by omega) (by omega)
  · replace hc5 := gz_f hc5
    exact absurd (h_ok_of (by omega) hvc) hc5

set_option maxHeartbeats 4000000 in
set_option maxRecDepth 100000 in
/-- match -/
theorem c_Model_match (l : Launch) (D : va_G) (q : Nat → ClassId) (H : Heap) (d : Nat) (w : Nat → Int32) (ar : Nat → Nat → Int32) (hR : dR D q H d w ar) (c0 : Nat) (org : Nat → Option Nat) (srt : Nat → Nat) (bt : Nat → List Nat) (tn mp : Nat → Nat) (hv : pV w ar c0 org srt bt) (hN : pN c0 org srt tn mp) (kk : Nat → List Nat) (hk : pK ar kk) (n chg : Nat → Nat) (hm : pM ar n chg) (tp : List Nat) (ht : pT w ar tp) (v : Nat) (hvc : v < c0) (dd : Nat) (hdd : dd < 2 ^ 31) : gC l y_Model_match (Cond.code y_Model_match b_Model_match 9 (some .int) :: gWS) (gR 4 100 0 0) D CL (gY q) (fun _ => True) [.ref d, .int (nI v), .int (nI dd)] H (fun v1 H1 => v1 = some (.int (nI (v_cnt (fun j => decide (v_in org srt bt v (kk j) = true ∧ (kk j).length = tp.length ∧ t_diff tp (kk j) tp.length ≤ dd)) (64 * mp v) (n (mp v))))) ∧ dR D q H1 d (upd (upd w 0 (nI 0)) 2 (nI 0)) ar ∧ H1.size = H.size ∧ ∀ p : Nat, (p < d ∨ d + 28 < p) → H1[p]? = H[p]?) 0 0 (fun p => d ≤ p ∧ p ≤ d + 28) := by
  refine gC.ofW R_Model "match" (by decide) rfl rfl ?_
  intro p e s m below meth c hadm X hE hH B hne
  refine g_entry [some (.ref d), some (.int (nI v)), some (.int (nI dd)), none, none, none, none, none, none] rfl rfl (Nat.le_of_ble_eq_true rfl) (fun ls hl => ?_)
  have h12 := hv.2.2.1
  have hmp := (hN v hvc).1
  obtain ⟨hm1a, hm2, hm3⟩ := hm (mp v) hmp
  have ht8 := ht.2.2.1
  refine lv_aload_n X.1.1 X.1.2.1 d_Model_match_0 rfl (gl_at hl rfl) ?_
  refine lv_iload_n X.1.1 X.1.2.1 d_Model_match_1 rfl (gl_at hl rfl) ?_
  have mo1 : va_at D CL (d, .inr (10, [.int (w 0), .ref (d + 1), .int (w 2), .ref (d + 2), .ref (d + 3), .ref (d + 4), .ref (d + 5), .ref (d + 6), .int (w 8), .ref (d + 7), .ref (d + 8), .ref (d + 9), .ref (d + 10), .ref (d + 11), .ref (d + 12), .ref (d + 13), .ref (d + 14), .ref (d + 15), .ref (d + 16), .ref (d + 17), .int (w 20), .ref (d + 18), .int (w 22), .ref (d + 19), .ref (d + 20), .ref (d + 21), .int (w 26), .int (w 27), .int (w 28), .ref (d + 22), .ref (d + 23), .ref (d + 24), .ref (d + 25), .ref (d + 26), .int (w 34), .ref (d + 27), .ref (d + 28), .int (w 37), .int (w 38)])) H := hR.1
  refine g_cv (A := (fun p => d ≤ p ∧ p ≤ d + 28)) X gWS_good mw_Model_122 kc_Model mo1 (c_Model_isView l D q H d w ar hR c0 hv.1 (nI v)) (fun _ _ _ => trivial) gBlind.tt rfl rfl hl.1 (Nat.le_of_ble_eq_true rfl) rfl rfl ⟨by decide, by decide⟩ ⟨by decide, by decide⟩ d_Model_match_2 (fun _ h => h.elim) (fun _ h => by cases h) (fun v2 H3 locs hp4 hL => ?_)
  obtain ⟨rfl, hHe⟩ := hp4
  rw [hHe]
  refine lv_if_ne X.1.1 X.1.2.1 d_Model_match_5 rfl (fun hc5 => ?_) (fun hc5 => ?_)
  · replace hc5 := gz_t hc5
    refine lv_aload_n X.1.1 X.1.2.1 d_Model_match_14 rfl (gl_at hl rfl) ?_
    refine g_get X kc_Model mo1 2 (by decide) lk_Model_102 rfl d_Model_match_15 ?_
    refine g_top (nI tp.length) ht.1 ?_
    refine g_istn X.1.1 X.1.2.1 hl 3 d_Model_match_18 rfl (Nat.le_of_ble_eq_true rfl) rfl (fun ls hl => ?_)
    refine lv_aload_n X.1.1 X.1.2.1 d_Model_match_19 rfl (gl_at hl rfl) ?_
    refine lv_iconst (v := nI 0) X.1.1 X.1.2.1 d_Model_match_20 (by decide) ?_
    refine g_put (A := (fun p => d ≤ p ∧ p ≤ d + 28)) X kc_Model mo1 2 (by decide) lk_Model_102 rfl rfl rfl (Nat.le_of_ble_eq_true rfl) d_Model_match_21 ⟨by omega, by omega⟩ hL (fun H5 locs h6 z7 oq8 hL => ?_)
    have hR9 : dR D q H5 d (upd w 2 (nI 0)) ar := hR.putO h6 oq8
    refine lv_iload_n X.1.1 X.1.2.1 d_Model_match_24 rfl (gl_at hl rfl) ?_
    refine lv_if_ge X.1.1 X.1.2.1 d_Model_match_25 rfl (fun hc25 => ?_) (fun hc25 => ?_)
    · refine lv_aload_n X.1.1 X.1.2.1 d_Model_match_34 rfl (gl_at hl rfl) ?_
      refine lv_iconst (v := nI 0) X.1.1 X.1.2.1 d_Model_match_35 (by decide) ?_
      have mo10 : va_at D CL (d, .inr (10, [.int (w 0), .ref (d + 1), .int (nI 0), .ref (d + 2), .ref (d + 3), .ref (d + 4), .ref (d + 5), .ref (d + 6), .int (w 8), .ref (d + 7), .ref (d + 8), .ref (d + 9), .ref (d + 10), .ref (d + 11), .ref (d + 12), .ref (d + 13), .ref (d + 14), .ref (d + 15), .ref (d + 16), .ref (d + 17), .int (w 20), .ref (d + 18), .int (w 22), .ref (d + 19), .ref (d + 20), .ref (d + 21), .int (w 26), .int (w 27), .int (w 28), .ref (d + 22), .ref (d + 23), .ref (d + 24), .ref (d + 25), .ref (d + 26), .int (w 34), .ref (d + 27), .ref (d + 28), .int (w 37), .int (w 38)])) H5 := hR9.1
      refine g_put (A := (fun p => d ≤ p ∧ p ≤ d + 28)) X kc_Model mo10 0 (by decide) lk_Model_99 rfl rfl rfl (Nat.le_of_ble_eq_true rfl) d_Model_match_36 ⟨by omega, by omega⟩ hL (fun H11 locs h12 z13 oq14 hL => ?_)
      have hR15 : dR D q H11 d (upd (upd w 0 (nI 0)) 2 (nI 0)) ar := hR9.putO h12 oq14
      refine lv_iconst (v := nI 0) X.1.1 X.1.2.1 d_Model_match_39 (by decide) ?_
      refine g_ist X.1.1 X.1.2.1 hl 4 d_Model_match_40 (Nat.le_of_ble_eq_true rfl) rfl (fun ls hl => ?_)
      refine lv_iconst (v := nI 0) X.1.1 X.1.2.1 d_Model_match_42 (by decide) ?_
      refine g_ist X.1.1 X.1.2.1 hl 5 d_Model_match_43 (Nat.le_of_ble_eq_true rfl) rfl (fun ls hl => ?_)
      have loop45 : ∀ (fu : Nat) (i : Nat) (z0 : Nat) (locs : List Loc) (ls : Array Slot), n (mp v) - i < fu → (i ≤ n (mp v)) → (z0 = v_cnt (fun j => decide (v_in org srt bt v (kk j) = true ∧ (kk j).length = tp.length ∧ t_diff tp (kk j) tp.length ≤ dd)) (64 * mp v) i) → (∀ x ∈ locs, (fun p => d ≤ p ∧ p ≤ d + 28) x.base) → gl ls [some (.ref d), some (.int (nI v)), some (.int (nI dd)), some (.int (nI tp.length)), some (.int (nI z0)), some (.int (nI i)), none, none, none] → W p l e (gR 4 100 0 0) s m ([.ref d, .int (nI v), .int (nI dd)] : List Value).toArray below meth c H11 locs 0 0 (gQ below ([.ref d, .int (nI v), .int (nI dd)] : List Value).toArray s (fun v1 H1 => v1 = some (.int (nI (v_cnt (fun j => decide (v_in org srt bt v (kk j) = true ∧ (kk j).length = tp.length ∧ t_diff tp (kk j) tp.length ≤ dd)) (64 * mp v) (n (mp v))))) ∧ dR D q H1 d (upd (upd w 0 (nI 0)) 2 (nI 0)) ar ∧ H1.size = H.size ∧ ∀ p : Nat, (p < d ∨ d + 28 < p) → H1[p]? = H[p]?) 0 0 (fun p => d ≤ p ∧ p ≤ d + 28)) (F0 m 45 ls []) := by
        intro fu
        induction fu with
        | zero => intro i z0 locs ls hmu; omega
        | succ fu ih45 =>
          intro i z0 locs ls hmu45 hi45_0 hi45_1 hL hl
          have hz9 := v_cnt_le (fun j => decide (v_in org srt bt v (kk j) = true ∧ (kk j).length = tp.length ∧ t_diff tp (kk j) tp.length ≤ dd)) (64 * mp v) i
          refine lv_iload X.1.1 X.1.2.1 d_Model_match_45 (gl_at hl rfl) ?_
          refine lv_aload_n X.1.1 X.1.2.1 d_Model_match_47 rfl (gl_at hl rfl) ?_
          have mo16 : va_at D CL (d, .inr (10, [.int (nI 0), .ref (d + 1), .int (nI 0), .ref (d + 2), .ref (d + 3), .ref (d + 4), .ref (d + 5), .ref (d + 6), .int (w 8), .ref (d + 7), .ref (d + 8), .ref (d + 9), .ref (d + 10), .ref (d + 11), .ref (d + 12), .ref (d + 13), .ref (d + 14), .ref (d + 15), .ref (d + 16), .ref (d + 17), .int (w 20), .ref (d + 18), .int (w 22), .ref (d + 19), .ref (d + 20), .ref (d + 21), .int (w 26), .int (w 27), .int (w 28), .ref (d + 22), .ref (d + 23), .ref (d + 24), .ref (d + 25), .ref (d + 26), .int (w 34), .ref (d + 27), .ref (d + 28), .int (w 37), .int (w 38)])) H11 := hR15.1
          refine g_get X kc_Model mo16 3 (by decide) lk_Model_13 rfl d_Model_match_48 ?_
          refine lv_aload_n X.1.1 X.1.2.1 d_Model_match_51 rfl (gl_at hl rfl) ?_
          refine lv_iload_n X.1.1 X.1.2.1 d_Model_match_52 rfl (gl_at hl rfl) ?_
          refine g_cv (A := (fun p => d ≤ p ∧ p ≤ d + 28)) X gWS_good mw_Model_114 kc_Model mo16 (c_Model_mapOf l D q H11 d (upd (upd w 0 (nI 0)) 2 (nI 0)) ar hR15 c0 org srt bt tn mp hv hN v hvc) (fun _ _ _ => trivial) gBlind.tt rfl rfl hl.1 (Nat.le_of_ble_eq_true rfl) rfl rfl ⟨by decide, by decide⟩ ⟨by decide, by decide⟩ d_Model_match_53 (fun _ h => h.elim) hL (fun v17 H18 locs hp19 hL => ?_)
          obtain ⟨rfl, hHe⟩ := hp19
          rw [hHe]
          have ma20 : va_at D CL (d + 2, .inl (q 0, 3, .inl (ar 2))) H11 := hR15.a2
          refine g_iald X 0 ma20 rfl (mp v) (by omega) (by omega) d_Model_match_56 ?_
          refine g_top (nI (n (mp v))) hm1a ?_
          refine gn_ge X.1.1 X.1.2.1 i (n (mp v)) (by omega) (by omega) d_Model_match_57 rfl (fun hc57 => ?_) (fun hc57 => ?_)
          · refine lv_iload X.1.1 X.1.2.1 d_Model_match_182 (gl_at hl rfl) ?_
            exact g_iret X B ⟨by rw [hi45_1, show i = n (mp v) by omega], hR15, (z13.trans z7), fun p hp => ((oq14 p (by omega)).trans (oq8 p (by omega)))⟩ hL d_Model_match_184 (by omega) (by omega)
          · obtain ⟨hx1, hx2, hx3, hx4⟩ := hk (64 * mp v + i) (by omega)
            refine lv_bipush (v := nI 64) X.1.1 X.1.2.1 d_Model_match_60 (by decide) ?_
            refine lv_aload_n X.1.1 X.1.2.1 d_Model_match_62 rfl (gl_at hl rfl) ?_
            refine lv_iload_n X.1.1 X.1.2.1 d_Model_match_63 rfl (gl_at hl rfl) ?_
            refine g_cv (A := (fun p => d ≤ p ∧ p ≤ d + 28)) X gWS_good mw_Model_114 kc_Model mo16 (c_Model_mapOf l D q H11 d (upd (upd w 0 (nI 0)) 2 (nI 0)) ar hR15 c0 org srt bt tn mp hv hN v hvc) (fun _ _ _ => trivial) gBlind.tt rfl rfl hl.1 (Nat.le_of_ble_eq_true rfl) rfl rfl ⟨by decide, by decide⟩ ⟨by decide, by decide⟩ d_Model_match_64 (fun _ h => h.elim) hL (fun v21 H22 locs hp23 hL => ?_)
            obtain ⟨rfl, hHe⟩ := hp23
            rw [hHe]
            refine lv_imul X.1.1 X.1.2.1 d_Model_match_67 ?_
            refine g_top (nI (64 * (mp v))) (pk_mul _ _) ?_
            refine lv_iload X.1.1 X.1.2.1 d_Model_match_68 (gl_at hl rfl) ?_
            refine lv_iadd X.1.1 X.1.2.1 d_Model_match_70 ?_
            refine g_top (nI ((64 * (mp v)) + i)) (nI_add _ _) ?_
            refine g_ist X.1.1 X.1.2.1 hl 6 d_Model_match_71 (Nat.le_of_ble_eq_true rfl) rfl (fun ls hl => ?_)
            refine lv_aload_n X.1.1 X.1.2.1 d_Model_match_73 rfl (gl_at hl rfl) ?_
            refine lv_iload_n X.1.1 X.1.2.1 d_Model_match_74 rfl (gl_at hl rfl) ?_
            refine lv_iload X.1.1 X.1.2.1 d_Model_match_75 (gl_at hl rfl) ?_
            refine g_cv (A := (fun p => d ≤ p ∧ p ≤ d + 28)) X gWS_good mw_Model_143 kc_Model mo16 (c_Model_has l D q H11 d (upd (upd w 0 (nI 0)) 2 (nI 0)) ar hR15 c0 org srt bt tn mp hv hN kk hk v hvc i (by omega)) (fun _ _ _ => trivial) gBlind.tt rfl rfl hl.1 (Nat.le_of_ble_eq_true rfl) rfl rfl ⟨by decide, by decide⟩ ⟨by decide, by decide⟩ d_Model_match_77 (fun _ h => h.elim) hL (fun v24 H25 locs hp26 hL => ?_)
            obtain ⟨rfl, hHe⟩ := hp26
            rw [hHe]
            refine lv_if_eq X.1.1 X.1.2.1 d_Model_match_80 rfl (fun hc80 => ?_) (fun hc80 => ?_)
            · replace hc80 := gz_f hc80
              refine g_iinc X.1.1 X.1.2.1 (nI (i + 1)) hl 5 d_Model_match_176 rfl (nI_1 _) rfl (fun ls hl => ?_)
              refine lv_goto X.1.1 X.1.2.1 d_Model_match_179 rfl ?_
              exact ih45 (i + 1) z0 locs ls (by omega) (by omega) (by
                show _ = v_cnt _ _ i + _
                rw [if_neg (fun h9 => by have h8 := of_decide_eq_true h9; first | exact hc80 h8.1 | exact hc91 h8.2.1), ← hi45_1]
                rfl) hL (gl_forget hl 6)
            · replace hc80 := gz_t hc80
              refine lv_aload_n X.1.1 X.1.2.1 d_Model_match_83 rfl (gl_at hl rfl) ?_
              refine g_get X kc_Model mo16 6 (by decide) lk_Model_22 rfl d_Model_match_84 ?_
              refine lv_iload X.1.1 X.1.2.1 d_Model_match_87 (gl_at hl rfl) ?_
              have ma27 : va_at D CL (d + 5, .inl (q 0, 192, .inl (ar 5))) H11 := hR15.a5
              refine g_iald X 0 ma27 rfl ((64 * (mp v)) + i) (by omega) (by omega) d_Model_match_89 ?_
              refine g_top (nI ((kk (64 * mp v + i)).length)) hx2 ?_
              refine lv_iload_n X.1.1 X.1.2.1 d_Model_match_90 rfl (gl_at hl rfl) ?_
              refine gn_eq X.1.1 X.1.2.1 ((kk (64 * mp v + i)).length) tp.length (by omega) (by omega) d_Model_match_91 rfl (fun hc91 => ?_) (fun hc91 => ?_)
              · refine lv_iconst (v := nI 0) X.1.1 X.1.2.1 d_Model_match_97 (by decide) ?_
                refine g_ist X.1.1 X.1.2.1 hl 7 d_Model_match_98 (Nat.le_of_ble_eq_true rfl) rfl (fun ls hl => ?_)
                refine lv_iconst (v := nI 0) X.1.1 X.1.2.1 d_Model_match_100 (by decide) ?_
                refine g_ist X.1.1 X.1.2.1 hl 8 d_Model_match_101 (Nat.le_of_ble_eq_true rfl) rfl (fun ls hl => ?_)
                have loop103 : ∀ (fu : Nat) (t : Nat) (y0 : Nat) (ls : Array Slot), tp.length - t < fu → (t ≤ tp.length) → (y0 = t_diff tp (kk (64 * mp v + i)) t) →  gl ls [some (.ref d), some (.int (nI v)), some (.int (nI dd)), some (.int (nI tp.length)), some (.int (nI z0)), some (.int (nI i)), some (.int (nI ((64 * (mp v)) + i))), some (.int (nI y0)), some (.int (nI t))] → W p l e (gR 4 100 0 0) s m ([.ref d, .int (nI v), .int (nI dd)] : List Value).toArray below meth c H11 locs 0 0 (gQ below ([.ref d, .int (nI v), .int (nI dd)] : List Value).toArray s (fun v1 H1 => v1 = some (.int (nI (v_cnt (fun j => decide (v_in org srt bt v (kk j) = true ∧ (kk j).length = tp.length ∧ t_diff tp (kk j) tp.length ≤ dd)) (64 * mp v) (n (mp v))))) ∧ dR D q H1 d (upd (upd w 0 (nI 0)) 2 (nI 0)) ar ∧ H1.size = H.size ∧ ∀ p : Nat, (p < d ∨ d + 28 < p) → H1[p]? = H[p]?) 0 0 (fun p => d ≤ p ∧ p ≤ d + 28)) (F0 m 103 ls []) := by
                  intro fu
                  induction fu with
                  | zero => intro t y0 ls hmu; omega
                  | succ fu ih103 =>
                    intro t y0 ls hmu103 hi103_0 hi103_1 hl
                    have hk9 := t_diff_le tp (kk (64 * mp v + i)) t
                    refine lv_iload X.1.1 X.1.2.1 d_Model_match_103 (gl_at hl rfl) ?_
                    refine lv_iload_n X.1.1 X.1.2.1 d_Model_match_105 rfl (gl_at hl rfl) ?_
                    refine gn_ge X.1.1 X.1.2.1 t tp.length (by omega) (by omega) d_Model_match_106 rfl (fun hc106 => ?_) (fun hc106 => ?_)
                    · have e9 : t = tp.length := by omega
                      subst e9
                      refine lv_iload X.1.1 X.1.2.1 d_Model_match_160 (gl_at hl rfl) ?_
                      refine lv_iload X.1.1 X.1.2.1 d_Model_match_162 (gl_at hl rfl) ?_
                      refine lv_iload_n X.1.1 X.1.2.1 d_Model_match_164 rfl (gl_at hl rfl) ?_
                      refine gn_gt X.1.1 X.1.2.1 y0 dd (by omega) (by omega) d_Model_match_165 rfl (fun hc165 => ?_) (fun hc165 => ?_)
                      · refine lv_iconst (v := nI 0) X.1.1 X.1.2.1 d_Model_match_172 (by decide) ?_
                        refine lv_iadd X.1.1 X.1.2.1 d_Model_match_173 ?_
                        refine g_top (nI (z0 + 0)) (nI_add _ _) ?_
                        refine g_ist X.1.1 X.1.2.1 hl 4 d_Model_match_174 (Nat.le_of_ble_eq_true rfl) rfl (fun ls hl => ?_)
                        refine g_iinc X.1.1 X.1.2.1 (nI (i + 1)) hl 5 d_Model_match_176 rfl (nI_1 _) rfl (fun ls hl => ?_)
                        refine lv_goto X.1.1 X.1.2.1 d_Model_match_179 rfl ?_
                        exact ih45 (i + 1) (z0 + 0) locs ls (by omega) (by omega) (by
                          show _ = v_cnt _ _ i + _
                          first
                          | rw [if_neg (fun h9 => by have h8 := of_decide_eq_true h9; omega), ← hi45_1]
                          | rw [if_pos (decide_eq_true ⟨hc80, hc91, by omega⟩), ← hi45_1]) hL (gl_forget (gl_forget (gl_forget hl 6) 7) 8)
                      · refine lv_iconst (v := nI 1) X.1.1 X.1.2.1 d_Model_match_168 (by decide) ?_
                        refine lv_goto X.1.1 X.1.2.1 d_Model_match_169 rfl ?_
                        refine lv_iadd X.1.1 X.1.2.1 d_Model_match_173 ?_
                        refine g_top (nI (z0 + 1)) (nI_add _ _) ?_
                        refine g_ist X.1.1 X.1.2.1 hl 4 d_Model_match_174 (Nat.le_of_ble_eq_true rfl) rfl (fun ls hl => ?_)
                        refine g_iinc X.1.1 X.1.2.1 (nI (i + 1)) hl 5 d_Model_match_176 rfl (nI_1 _) rfl (fun ls hl => ?_)
                        refine lv_goto X.1.1 X.1.2.1 d_Model_match_179 rfl ?_
                        exact ih45 (i + 1) (z0 + 1) locs ls (by omega) (by omega) (by
                          show _ = v_cnt _ _ i + _
                          first
                          | rw [if_neg (fun h9 => by have h8 := of_decide_eq_true h9; omega), ← hi45_1]
                          | rw [if_pos (decide_eq_true ⟨hc80, hc91, by omega⟩), ← hi45_1]) hL (gl_forget (gl_forget (gl_forget hl 6) 7) 8)
                    · refine lv_iload X.1.1 X.1.2.1 d_Model_match_109 (gl_at hl rfl) ?_
                      refine lv_aload_n X.1.1 X.1.2.1 d_Model_match_111 rfl (gl_at hl rfl) ?_
                      refine g_get X kc_Model mo16 1 (by decide) lk_Model_7 rfl d_Model_match_112 ?_
                      refine lv_iload X.1.1 X.1.2.1 d_Model_match_115 (gl_at hl rfl) ?_
                      have ma28 : va_at D CL (d + 1, .inl (q 0, 8, .inl (ar 1))) H11 := hR15.a1
                      refine g_iald X 0 ma28 rfl t (by omega) (by omega) d_Model_match_117 ?_
                      have e1 := t_lt ht.2.2.2 t
                      refine g_top (nI (tp.getD t 0)) ((congrArg (ar 1) (by omega)).trans (ht.2.1 t (by omega))) ?_
                      refine lv_bipush (v := nI 63) X.1.1 X.1.2.1 d_Model_match_118 (by decide) ?_
                      refine gn_eq X.1.1 X.1.2.1 (tp.getD t 0) 63 (by omega) (by omega) d_Model_match_120 rfl (fun hc120 => ?_) (fun hc120 => ?_)
                      · refine lv_iconst (v := nI 0) X.1.1 X.1.2.1 d_Model_match_146 (by decide) ?_
                        refine lv_goto X.1.1 X.1.2.1 d_Model_match_147 rfl ?_
                        refine lv_iadd X.1.1 X.1.2.1 d_Model_match_151 ?_
                        refine g_top (nI (y0 + 0)) (nI_add _ _) ?_
                        refine g_ist X.1.1 X.1.2.1 hl 7 d_Model_match_152 (Nat.le_of_ble_eq_true rfl) rfl (fun ls hl => ?_)
                        refine g_iinc X.1.1 X.1.2.1 (nI (t + 1)) hl 8 d_Model_match_154 rfl (nI_1 _) rfl (fun ls hl => ?_)
                        refine lv_goto X.1.1 X.1.2.1 d_Model_match_157 rfl ?_
                        exact ih103 (t + 1) (y0 + 0) ls (by omega) (by omega) (by unfold t_diff; first | (rw [if_pos (by first | exact Or.inl (by assumption) | exact Or.inr (by assumption))]; omega) | (rw [if_neg (fun h => h.elim hc120 hc143)]; omega)) hl
                      · refine lv_aload_n X.1.1 X.1.2.1 d_Model_match_123 rfl (gl_at hl rfl) ?_
                        refine g_get X kc_Model mo16 1 (by decide) lk_Model_7 rfl d_Model_match_124 ?_
                        refine lv_iload X.1.1 X.1.2.1 d_Model_match_127 (gl_at hl rfl) ?_
                        refine g_iald X 0 ma28 rfl t (by omega) (by omega) d_Model_match_129 ?_
                        refine g_top (nI (tp.getD t 0)) ((congrArg (ar 1) (by omega)).trans (ht.2.1 t (by omega))) ?_
                        refine lv_aload_n X.1.1 X.1.2.1 d_Model_match_130 rfl (gl_at hl rfl) ?_
                        refine g_get X kc_Model mo16 5 (by decide) lk_Model_19 rfl d_Model_match_131 ?_
                        refine lv_bipush (v := nI 8) X.1.1 X.1.2.1 d_Model_match_134 (by decide) ?_
                        refine lv_iload X.1.1 X.1.2.1 d_Model_match_136 (gl_at hl rfl) ?_
                        refine lv_imul X.1.1 X.1.2.1 d_Model_match_138 ?_
                        refine g_top (nI (8 * ((64 * (mp v)) + i))) (pk_mul _ _) ?_
                        refine lv_iload X.1.1 X.1.2.1 d_Model_match_139 (gl_at hl rfl) ?_
                        refine lv_iadd X.1.1 X.1.2.1 d_Model_match_141 ?_
                        refine g_top (nI ((8 * ((64 * (mp v)) + i)) + t)) (nI_add _ _) ?_
                        have ma29 : va_at D CL (d + 4, .inl (q 0, 1536, .inl (ar 4))) H11 := hR15.a4
                        refine g_iald X 0 ma29 rfl ((8 * ((64 * (mp v)) + i)) + t) (by omega) (by omega) d_Model_match_142 ?_
                        have e2 := t_lt hx4 t
                        refine g_top (nI ((kk (64 * mp v + i)).getD t 0)) (hx1 t (by omega)) ?_
                        refine gn_ne X.1.1 X.1.2.1 (tp.getD t 0) ((kk (64 * mp v + i)).getD t 0) (by omega) (by omega) d_Model_match_143 rfl (fun hc143 => ?_) (fun hc143 => ?_)
                        · refine lv_iconst (v := nI 1) X.1.1 X.1.2.1 d_Model_match_150 (by decide) ?_
                          refine lv_iadd X.1.1 X.1.2.1 d_Model_match_151 ?_
                          refine g_top (nI (y0 + 1)) (nI_add _ _) ?_
                          refine g_ist X.1.1 X.1.2.1 hl 7 d_Model_match_152 (Nat.le_of_ble_eq_true rfl) rfl (fun ls hl => ?_)
                          refine g_iinc X.1.1 X.1.2.1 (nI (t + 1)) hl 8 d_Model_match_154 rfl (nI_1 _) rfl (fun ls hl => ?_)
                          refine lv_goto X.1.1 X.1.2.1 d_Model_match_157 rfl ?_
                          exact ih103 (t + 1) (y0 + 1) ls (by omega) (by omega) (by unfold t_diff; first | (rw [if_pos (by first | exact Or.inl (by assumption) | exact Or.inr (by assumption))]; omega) | (rw [if_neg (fun h => h.elim hc120 hc143)]; omega)) hl
                        · refine lv_iconst (v := nI 0) X.1.1 X.1.2.1 d_Model_match_146 (by decide) ?_
                          refine lv_goto X.1.1 X.1.2.1 d_Model_match_147 rfl ?_
                          refine lv_iadd X.1.1 X.1.2.1 d_Model_match_151 ?_
                          refine g_top (nI (y0 + 0)) (nI_add _ _) ?_
                          refine g_ist X.1.1 X.1.2.1 hl 7 d_Model_match_152 (Nat.le_of_ble_eq_true rfl) rfl (fun ls hl => ?_)
                          refine g_iinc X.1.1 X.1.2.1 (nI (t + 1)) hl 8 d_Model_match_154 rfl (nI_1 _) rfl (fun ls hl => ?_)
                          refine lv_goto X.1.1 X.1.2.1 d_Model_match_157 rfl ?_
                          exact ih103 (t + 1) (y0 + 0) ls (by omega) (by omega) (by unfold t_diff; first | (rw [if_pos (by first | exact Or.inl (by assumption) | exact Or.inr (by assumption))]; omega) | (rw [if_neg (fun h => h.elim hc120 hc143)]; omega)) hl
                exact loop103 _ 0 0 ls (Nat.lt_succ_self _) (Nat.zero_le _) rfl hl
              · refine lv_goto X.1.1 X.1.2.1 d_Model_match_94 rfl ?_
                refine g_iinc X.1.1 X.1.2.1 (nI (i + 1)) hl 5 d_Model_match_176 rfl (nI_1 _) rfl (fun ls hl => ?_)
                refine lv_goto X.1.1 X.1.2.1 d_Model_match_179 rfl ?_
                exact ih45 (i + 1) z0 locs ls (by omega) (by omega) (by
                  show _ = v_cnt _ _ i + _
                  rw [if_neg (fun h9 => by have h8 := of_decide_eq_true h9; first | exact hc80 h8.1 | exact hc91 h8.2.1), ← hi45_1]
                  rfl) hL (gl_forget hl 6)
      exact loop45 _ 0 0 locs ls (Nat.lt_succ_self _) (Nat.zero_le _) rfl hL hl
    · exact absurd (by rw [Int32.le_iff_toInt_le, nI_toInt (by omega)]; exact Int.natCast_nonneg _) hc25
  · replace hc5 := gz_f hc5
    exact absurd (h_ok_of (by omega) hvc) hc5
