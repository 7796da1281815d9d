/-! the class KeyHallModel, 7: printed by wip/specs/m7.py -/
/-- the prefixes that were found: of key pg p the first pl p letters -/
def pQ (w : Nat → Int32) (ar : Nat → Nat → Int32) (kk : Nat → List Nat) (pn : Nat) (pg pl : Nat → Nat) : Prop := w 22 = nI pn ∧ pn ≤ 580 ∧ ∀ x, x < pn → ar 19 x = nI (pg x) ∧ ar 20 x = nI (pl x) ∧ pg x < 192 ∧ pl x ≤ (kk (pg x)).length
abbrev d_pu (kk : Nat → List Nat) (pg pl : Nat → Nat) (x : Nat) : List Nat := (kk (pg x)).take (pl x)
/-- whether prefix y is prefix x and one letter more -/
def d_fo (kk : Nat → List Nat) (pg pl : Nat → Nat) (x y : Nat) : Bool := decide (pl y = pl x + 1) && decide ((kk (pg y)).take (pl x) = (kk (pg x)).take (pl x))
/-- whether prefix x is a key of the view -/
def d_ea (org : Nat → Option Nat) (srt : Nat → Nat) (bt : Nat → List Nat) (v lo : Nat) (kk : Nat → List Nat) (u : List Nat) (m : Nat) : Bool := (List.range m).any (fun k => v_in org srt bt v (kk (lo + k)) && decide (kk (lo + k) = u))
theorem d_ea_s {org : Nat → Option Nat} {srt : Nat → Nat} {bt : Nat → List Nat} {v lo : Nat} {kk : Nat → List Nat} {u : List Nat} {m : Nat} : d_ea org srt bt v lo kk u (m + 1) = (d_ea org srt bt v lo kk u m || (v_in org srt bt v (kk (lo + m)) && decide (kk (lo + m) = u))) := by
  unfold d_ea
  rw [List.range_succ, List.any_append]
  simp
theorem d_ea_t {org : Nat → Option Nat} {srt : Nat → Nat} {bt : Nat → List Nat} {v lo : Nat} {kk : Nat → List Nat} {u : List Nat} {m k : Nat} (hk : k < m) (h1 : v_in org srt bt v (kk (lo + k)) = true) (h2 : kk (lo + k) = u) : d_ea org srt bt v lo kk u m = true := by
  unfold d_ea
  rw [List.any_eq_true]
  exact ⟨k, List.mem_range.mpr hk, by rw [h1, decide_eq_true h2]; rfl⟩
/-- the step from s with c: the first one that is kept -/
def d_gof (f3 f4 f5 : Nat → Int32) (s c : Int32) : Nat → Nat → Int32
  | 0, _ => -1
  | f + 1, k => if f3 k = s ∧ f4 k = c then f5 k else d_gof f3 f4 f5 s c f (k + 1)
def d_go (f3 f4 f5 : Nat → Int32) (s c : Int32) (m : Nat) : Int32 := d_gof f3 f4 f5 s c m 0
/-- whether the steps of state s go where those of prefix x go -/
def d_ak (kk : Nat → List Nat) (pg pl : Nat → Nat) (f3 f4 f5 f1 : Nat → Int32) (m : Nat) (s : Int32) (x : Nat) (i : Nat) : Bool := (List.range i).all (fun y => !(d_fo kk pg pl x y) || decide (d_go f3 f4 f5 s (nI ((kk (pg y)).getD (pl x) 0)) m = f1 y))
theorem d_ak_s {kk : Nat → List Nat} {pg pl : Nat → Nat} {f3 f4 f5 f1 : Nat → Int32} {m : Nat} {s : Int32} {x i : Nat} : d_ak kk pg pl f3 f4 f5 f1 m s x (i + 1) = (d_ak kk pg pl f3 f4 f5 f1 m s x i && (!(d_fo kk pg pl x i) || decide (d_go f3 f4 f5 s (nI ((kk (pg i)).getD (pl x) 0)) m = f1 i))) := by
  unfold d_ak
  rw [List.range_succ, List.all_append]
  simp
theorem d_ak_f {kk : Nat → List Nat} {pg pl : Nat → Nat} {f3 f4 f5 f1 : Nat → Int32} {m : Nat} {s : Int32} {x i y : Nat} (hy : y < i) (h1 : d_fo kk pg pl x y = true) (h2 : ¬ d_go f3 f4 f5 s (nI ((kk (pg y)).getD (pl x) 0)) m = f1 y) : ¬ d_ak kk pg pl f3 f4 f5 f1 m s x i = true := by
  unfold d_ak
  rw [List.all_eq_true]
  intro h
  have h3 := h y (List.mem_range.mpr hy)
  rw [h1, decide_eq_false h2] at h3
  cases h3

set_option maxHeartbeats 4000000 in
set_option maxRecDepth 100000 in
/-- samePrefix -/
theorem c_Model_samePrefix (l : Launch) (D : va_G) (q : Nat → ClassId) (H : Heap) (d : Nat) (w : Nat → Int32) (ar : Nat → Nat → Int32) (hR : dR D q H d w ar) (kk : Nat → List Nat) (hk : pK ar kk) (a b n0 : Nat) (ha : a < 192) (hb : b < 192) (hna : n0 ≤ (kk a).length) (hnb : n0 ≤ (kk b).length) : gC l y_Model_samePrefix (Cond.code y_Model_samePrefix b_Model_samePrefix 4 (some .boolean) :: gWS) (gR 1 26 0 0) D CL (gY q) (fun _ => True) [.ref d, .int (nI a), .int (nI b), .int (nI n0)] H (fun v1 H1 => v1 = some (.int (nI (if (kk a).take n0 = (kk b).take n0 then 1 else 0))) ∧ H1 = H) 0 0 (fun _ => False) := by
  refine gC.ofW R_Model "samePrefix" (by decide) rfl rfl ?_
  intro p e s m below meth c hadm X hE hH B hne
  refine g_entry [some (.ref d), some (.int (nI a)), some (.int (nI b)), some (.int (nI n0))] rfl rfl (Nat.le_of_ble_eq_true rfl) (fun ls hl => ?_)
  have hka := hk a ha
  have hkb := hk b hb
  have ha8 := hka.2.2.1
  have hb8 := hkb.2.2.1
  refine lv_aload_n X.1.1 X.1.2.1 d_Model_samePrefix_0 rfl (gl_at hl rfl) ?_
  have mo1 : va_at D CL (d, .inr (10, [.int (w 0), .ref (d + 1), .int (w 2), .ref (d + 2), .ref (d + 3), .ref (d + 4), .ref (d + 5), .ref (d + 6), .int (w 8), .ref (d + 7), .ref (d + 8), .ref (d + 9), .ref (d + 10), .ref (d + 11), .ref (d + 12), .ref (d + 13), .ref (d + 14), .ref (d + 15), .ref (d + 16), .ref (d + 17), .int (w 20), .ref (d + 18), .int (w 22), .ref (d + 19), .ref (d + 20), .ref (d + 21), .int (w 26), .int (w 27), .int (w 28), .ref (d + 22), .ref (d + 23), .ref (d + 24), .ref (d + 25), .ref (d + 26), .int (w 34), .ref (d + 27), .ref (d + 28), .int (w 37), .int (w 38)])) H := hR.1
  refine g_get X kc_Model mo1 5 (by decide) lk_Model_19 rfl d_Model_samePrefix_1 ?_
  refine lv_bipush (v := nI 8) X.1.1 X.1.2.1 d_Model_samePrefix_4 (by decide) ?_
  refine lv_iload_n X.1.1 X.1.2.1 d_Model_samePrefix_6 rfl (gl_at hl rfl) ?_
  refine lv_imul X.1.1 X.1.2.1 d_Model_samePrefix_7 ?_
  refine g_top (nI (8 * a)) (pk_mul _ _) ?_
  refine lv_iload_n X.1.1 X.1.2.1 d_Model_samePrefix_8 rfl (gl_at hl rfl) ?_
  refine lv_aload_n X.1.1 X.1.2.1 d_Model_samePrefix_9 rfl (gl_at hl rfl) ?_
  refine g_get X kc_Model mo1 5 (by decide) lk_Model_19 rfl d_Model_samePrefix_10 ?_
  refine lv_bipush (v := nI 8) X.1.1 X.1.2.1 d_Model_samePrefix_13 (by decide) ?_
  refine lv_iload_n X.1.1 X.1.2.1 d_Model_samePrefix_15 rfl (gl_at hl rfl) ?_
  refine lv_imul X.1.1 X.1.2.1 d_Model_samePrefix_16 ?_
  refine g_top (nI (8 * b)) (pk_mul _ _) ?_
  refine lv_iload_n X.1.1 X.1.2.1 d_Model_samePrefix_17 rfl (gl_at hl rfl) ?_
  refine g_cs (A := (fun _ => False)) X gWS_good mw_Model_106 (c_Model_order l D q H (d + 4) 1536 (d + 4) 1536 (ar 4) (ar 4) hR.a4 hR.a4 (8 * a) (8 * b) n0 n0 ((kk a).take n0) ((kk b).take n0) (by rw [List.length_take]; omega) (by rw [List.length_take]; omega) (tXo_take hka.1 _) (tXo_take hkb.1 _) (by rw [List.length_take]; omega) (by rw [List.length_take]; omega) (by omega) (by omega) (t16_take hka.2.2.2 _) (t16_take hkb.2.2.2 _)) (fun _ _ _ => trivial) gBlind.tt rfl rfl hl.1 (Nat.le_of_ble_eq_true rfl) rfl rfl ⟨by decide, by decide⟩ ⟨by decide, by decide⟩ d_Model_samePrefix_18 (fun _ h => h.elim) (fun _ h => by cases h) (fun v2 H3 locs hp4 hL => ?_)
  obtain ⟨⟨r, rfl, hr⟩, hHe⟩ := hp4
  rw [hHe]
  refine lv_if_ne X.1.1 X.1.2.1 d_Model_samePrefix_21 rfl (fun hc21 => ?_) (fun hc21 => ?_)
  · refine lv_iconst (v := nI 0) X.1.1 X.1.2.1 d_Model_samePrefix_28 (by decide) ?_
    exact g_zret X B (by decide) ⟨by rw [if_neg (fun h9 => gi_ne hc21 (by rw [hr, h9, t_ord_refl]))], rfl⟩ hL d_Model_samePrefix_29 (by omega) (by omega)
  · refine lv_iconst (v := nI 1) X.1.1 X.1.2.1 d_Model_samePrefix_24 (by decide) ?_
    refine lv_goto X.1.1 X.1.2.1 d_Model_samePrefix_25 rfl ?_
    exact g_zret X B (by decide) ⟨by rw [if_pos (t_ord_eq _ _ (by rw [← hr, hc21]; rfl))], rfl⟩ hL d_Model_samePrefix_29 (by omega) (by omega)

set_option maxHeartbeats 4000000 in
set_option maxRecDepth 100000 in
/-- follows -/
theorem c_Model_follows (l : Launch) (D : va_G) (q : Nat → ClassId) (H : Heap) (d : Nat) (w : Nat → Int32) (ar : Nat → Nat → Int32) (hR : dR D q H d w ar) (kk : Nat → List Nat) (hk : pK ar kk) (pn : Nat) (pg pl : Nat → Nat) (hq : pQ w ar kk pn pg pl) (y x : Nat) (hy : y < pn) (hx : x < pn) : gC l y_Model_follows (Cond.code y_Model_follows b_Model_follows 3 (some .boolean) :: gWS) (gR 2 49 0 0) D CL (gY q) (fun _ => True) [.ref d, .int (nI y), .int (nI x)] H (fun v1 H1 => v1 = some (.int (nI (if d_fo kk pg pl x y = true then 1 else 0))) ∧ H1 = H) 0 0 (fun _ => False) := by
  refine gC.ofW R_Model "follows" (by decide) rfl rfl ?_
  intro p e s m below meth c hadm X hE hH B hne
  refine g_entry [some (.ref d), some (.int (nI y)), some (.int (nI x))] rfl rfl (Nat.le_of_ble_eq_true rfl) (fun ls hl => ?_)
  have hp5 := hq.2.1
  obtain ⟨hy1, hy2, hy3, hy4⟩ := hq.2.2 y hy
  obtain ⟨hx1, hx2, hx3, hx4⟩ := hq.2.2 x hx
  have ky8 := (hk (pg y) hy3).2.2.1
  have kx8 := (hk (pg x) hx3).2.2.1
  refine lv_aload_n X.1.1 X.1.2.1 d_Model_follows_0 rfl (gl_at hl rfl) ?_
  have mo1 : va_at D CL (d, .inr (10, [.int (w 0), .ref (d + 1), .int (w 2), .ref (d + 2), .ref (d + 3), .ref (d + 4), .ref (d + 5), .ref (d + 6), .int (w 8), .ref (d + 7), .ref (d + 8), .ref (d + 9), .ref (d + 10), .ref (d + 11), .ref (d + 12), .ref (d + 13), .ref (d + 14), .ref (d + 15), .ref (d + 16), .ref (d + 17), .int (w 20), .ref (d + 18), .int (w 22), .ref (d + 19), .ref (d + 20), .ref (d + 21), .int (w 26), .int (w 27), .int (w 28), .ref (d + 22), .ref (d + 23), .ref (d + 24), .ref (d + 25), .ref (d + 26), .int (w 34), .ref (d + 27), .ref (d + 28), .int (w 37), .int (w 38)])) H := hR.1
  refine g_get X kc_Model mo1 24 (by decide) lk_Model_72 rfl d_Model_follows_1 ?_
  refine lv_iload_n X.1.1 X.1.2.1 d_Model_follows_4 rfl (gl_at hl rfl) ?_
  have ma2 : va_at D CL (d + 20, .inl (q 0, 580, .inl (ar 20))) H := hR.a20
  refine g_iald X 0 ma2 rfl y (by omega) (by omega) d_Model_follows_5 ?_
  refine g_top (nI (pl y)) hy2 ?_
  refine lv_aload_n X.1.1 X.1.2.1 d_Model_follows_6 rfl (gl_at hl rfl) ?_
  refine g_get X kc_Model mo1 24 (by decide) lk_Model_72 rfl d_Model_follows_7 ?_
  refine lv_iload_n X.1.1 X.1.2.1 d_Model_follows_10 rfl (gl_at hl rfl) ?_
  refine g_iald X 0 ma2 rfl x (by omega) (by omega) d_Model_follows_11 ?_
  refine g_top (nI (pl x)) hx2 ?_
  refine lv_iconst (v := nI 1) X.1.1 X.1.2.1 d_Model_follows_12 (by decide) ?_
  refine lv_iadd X.1.1 X.1.2.1 d_Model_follows_13 ?_
  refine g_top (nI ((pl x) + 1)) (nI_add _ _) ?_
  refine gn_ne X.1.1 X.1.2.1 (pl y) ((pl x) + 1) (by omega) (by omega) d_Model_follows_14 rfl (fun hc14 => ?_) (fun hc14 => ?_)
  · refine lv_iconst (v := nI 0) X.1.1 X.1.2.1 d_Model_follows_46 (by decide) ?_
    exact g_zret X B (by decide) ⟨by rw [if_neg (fun h9 => by unfold d_fo at h9; rw [Bool.and_eq_true, decide_eq_true_iff, decide_eq_true_iff] at h9; first | exact hc14 h9.1 | exact hc39 h9.2)], rfl⟩ (fun _ h => by cases h) d_Model_follows_47 (by omega) (by omega)
  · refine lv_aload_n X.1.1 X.1.2.1 d_Model_follows_17 rfl (gl_at hl rfl) ?_
    refine lv_aload_n X.1.1 X.1.2.1 d_Model_follows_18 rfl (gl_at hl rfl) ?_
    refine g_get X kc_Model mo1 23 (by decide) lk_Model_69 rfl d_Model_follows_19 ?_
    refine lv_iload_n X.1.1 X.1.2.1 d_Model_follows_22 rfl (gl_at hl rfl) ?_
    have ma3 : va_at D CL (d + 19, .inl (q 0, 580, .inl (ar 19))) H := hR.a19
    refine g_iald X 0 ma3 rfl y (by omega) (by omega) d_Model_follows_23 ?_
    refine g_top (nI (pg y)) hy1 ?_
    refine lv_aload_n X.1.1 X.1.2.1 d_Model_follows_24 rfl (gl_at hl rfl) ?_
    refine g_get X kc_Model mo1 23 (by decide) lk_Model_69 rfl d_Model_follows_25 ?_
    refine lv_iload_n X.1.1 X.1.2.1 d_Model_follows_28 rfl (gl_at hl rfl) ?_
    refine g_iald X 0 ma3 rfl x (by omega) (by omega) d_Model_follows_29 ?_
    refine g_top (nI (pg x)) hx1 ?_
    refine lv_aload_n X.1.1 X.1.2.1 d_Model_follows_30 rfl (gl_at hl rfl) ?_
    refine g_get X kc_Model mo1 24 (by decide) lk_Model_72 rfl d_Model_follows_31 ?_
    refine lv_iload_n X.1.1 X.1.2.1 d_Model_follows_34 rfl (gl_at hl rfl) ?_
    refine g_iald X 0 ma2 rfl x (by omega) (by omega) d_Model_follows_35 ?_
    refine g_top (nI (pl x)) hx2 ?_
    refine g_cv (A := (fun _ => False)) X gWS_good mw_Model_211 kc_Model mo1 (c_Model_samePrefix l D q H d w ar hR kk hk (pg y) (pg x) (pl x) (by omega) (by omega) (by omega) (by omega)) (fun _ _ _ => trivial) gBlind.tt rfl rfl hl.1 (Nat.le_of_ble_eq_true rfl) rfl rfl ⟨by decide, by decide⟩ ⟨by decide, by decide⟩ d_Model_follows_36 (fun _ h => h.elim) (fun _ h => by cases h) (fun v4 H5 locs hp6 hL => ?_)
    obtain ⟨rfl, hHe⟩ := hp6
    rw [hHe]
    refine lv_if_eq X.1.1 X.1.2.1 d_Model_follows_39 rfl (fun hc39 => ?_) (fun hc39 => ?_)
    · replace hc39 := gz_f hc39
      refine lv_iconst (v := nI 0) X.1.1 X.1.2.1 d_Model_follows_46 (by decide) ?_
      exact g_zret X B (by decide) ⟨by rw [if_neg (fun h9 => by unfold d_fo at h9; rw [Bool.and_eq_true, decide_eq_true_iff, decide_eq_true_iff] at h9; first | exact hc14 h9.1 | exact hc39 h9.2)], rfl⟩ hL d_Model_follows_47 (by omega) (by omega)
    · replace hc39 := gz_t hc39
      refine lv_iconst (v := nI 1) X.1.1 X.1.2.1 d_Model_follows_42 (by decide) ?_
      refine lv_goto X.1.1 X.1.2.1 d_Model_follows_43 rfl ?_
      exact g_zret X B (by decide) ⟨by rw [if_pos (by unfold d_fo; rw [decide_eq_true hc14, decide_eq_true hc39]; rfl)], rfl⟩ hL d_Model_follows_47 (by omega) (by omega)

set_option maxHeartbeats 4000000 in
set_option maxRecDepth 100000 in
/-- endsAt -/
theorem c_Model_endsAt (l : Launch) (D : va_G) (q : Nat → ClassId) (H : Heap) (d : Nat) (w : Nat → Int32) (ar : Nat → Nat → Int32) (hR : dR D q H d w ar) (c0 : Nat) (org : Nat → Option Nat) (srt : Nat → Nat) (bt : Nat → List Nat) (tn mp : Nat → Nat) (hv : pV w ar c0 org srt bt) (hN : pN c0 org srt tn mp) (kk : Nat → List Nat) (hk : pK ar kk) (n chg : Nat → Nat) (hm : pM ar n chg) (pn : Nat) (pg pl : Nat → Nat) (hq : pQ w ar kk pn pg pl) (v : Nat) (hvc : v < c0) (x : Nat) (hx : x < pn) : gC l y_Model_endsAt (Cond.code y_Model_endsAt b_Model_endsAt 5 (some .boolean) :: gWS) (gR 4 100 0 0) D CL (gY q) (fun _ => True) [.ref d, .int (nI v), .int (nI x)] H (fun v1 H1 => v1 = some (.int (nI (if d_ea org srt bt v (64 * mp v) kk (d_pu kk pg pl x) (n (mp v)) = true then 1 else 0))) ∧ H1 = H) 0 0 (fun _ => False) := by
  refine gC.ofW R_Model "endsAt" (by decide) rfl rfl ?_
  intro p e s m below meth c hadm X hE hH B hne
  refine g_entry [some (.ref d), some (.int (nI v)), some (.int (nI x)), none, none] rfl rfl (Nat.le_of_ble_eq_true rfl) (fun ls hl => ?_)
  have h12 := hv.2.2.1
  have hmp := (hN v hvc).1
  obtain ⟨hm1a, hm2, hm3⟩ := hm (mp v) hmp
  have hp5 := hq.2.1
  obtain ⟨hx1, hx2, hx3, hx4⟩ := hq.2.2 x hx
  have hxk := hk (pg x) hx3
  have kx8 := hxk.2.2.1
  refine lv_aload_n X.1.1 X.1.2.1 d_Model_endsAt_0 rfl (gl_at hl rfl) ?_
  refine lv_iload_n X.1.1 X.1.2.1 d_Model_endsAt_1 rfl (gl_at hl rfl) ?_
  have mo1 : va_at D CL (d, .inr (10, [.int (w 0), .ref (d + 1), .int (w 2), .ref (d + 2), .ref (d + 3), .ref (d + 4), .ref (d + 5), .ref (d + 6), .int (w 8), .ref (d + 7), .ref (d + 8), .ref (d + 9), .ref (d + 10), .ref (d + 11), .ref (d + 12), .ref (d + 13), .ref (d + 14), .ref (d + 15), .ref (d + 16), .ref (d + 17), .int (w 20), .ref (d + 18), .int (w 22), .ref (d + 19), .ref (d + 20), .ref (d + 21), .int (w 26), .int (w 27), .int (w 28), .ref (d + 22), .ref (d + 23), .ref (d + 24), .ref (d + 25), .ref (d + 26), .int (w 34), .ref (d + 27), .ref (d + 28), .int (w 37), .int (w 38)])) H := hR.1
  refine g_cv (A := (fun _ => False)) X gWS_good mw_Model_114 kc_Model mo1 (c_Model_mapOf l D q H d w ar hR c0 org srt bt tn mp hv hN v hvc) (fun _ _ _ => trivial) gBlind.tt rfl rfl hl.1 (Nat.le_of_ble_eq_true rfl) rfl rfl ⟨by decide, by decide⟩ ⟨by decide, by decide⟩ d_Model_endsAt_2 (fun _ h => h.elim) (fun _ h => by cases h) (fun v2 H3 locs hp4 hL => ?_)
  obtain ⟨rfl, hHe⟩ := hp4
  rw [hHe]
  refine g_istn X.1.1 X.1.2.1 hl 3 d_Model_endsAt_5 rfl (Nat.le_of_ble_eq_true rfl) rfl (fun ls hl => ?_)
  refine lv_iconst (v := nI 0) X.1.1 X.1.2.1 d_Model_endsAt_6 (by decide) ?_
  refine g_ist X.1.1 X.1.2.1 hl 4 d_Model_endsAt_7 (Nat.le_of_ble_eq_true rfl) rfl (fun ls hl => ?_)
  have loop9 : ∀ (fu : Nat) (i : Nat) (locs : List Loc) (ls : Array Slot), n (mp v) - i < fu → (i ≤ n (mp v)) → (¬ d_ea org srt bt v (64 * mp v) kk (d_pu kk pg pl x) i = true) → (∀ x ∈ locs, (fun _ => False) x.base) → gl ls [some (.ref d), some (.int (nI v)), some (.int (nI x)), some (.int (nI (mp v))), some (.int (nI i))] → W p l e (gR 4 100 0 0) s m ([.ref d, .int (nI v), .int (nI x)] : List Value).toArray below meth c H locs 0 0 (gQ below ([.ref d, .int (nI v), .int (nI x)] : List Value).toArray s (fun v1 H1 => v1 = some (.int (nI (if d_ea org srt bt v (64 * mp v) kk (d_pu kk pg pl x) (n (mp v)) = true then 1 else 0))) ∧ H1 = H) 0 0 (fun _ => False)) (F0 m 9 ls []) := by
    intro fu
    induction fu with
    | zero => intro i locs ls hmu; omega
    | succ fu ih9 =>
      intro i locs ls hmu9 hi9_0 hi9_1 hL hl
      refine lv_iload X.1.1 X.1.2.1 d_Model_endsAt_9 (gl_at hl rfl) ?_
      refine lv_aload_n X.1.1 X.1.2.1 d_Model_endsAt_11 rfl (gl_at hl rfl) ?_
      refine g_get X kc_Model mo1 3 (by decide) lk_Model_13 rfl d_Model_endsAt_12 ?_
      refine lv_iload_n X.1.1 X.1.2.1 d_Model_endsAt_15 rfl (gl_at hl rfl) ?_
      have ma5 : va_at D CL (d + 2, .inl (q 0, 3, .inl (ar 2))) H := hR.a2
      refine g_iald X 0 ma5 rfl (mp v) (by omega) (by omega) d_Model_endsAt_16 ?_
      refine g_top (nI (n (mp v))) hm1a ?_
      refine gn_ge X.1.1 X.1.2.1 i (n (mp v)) (by omega) (by omega) d_Model_endsAt_17 rfl (fun hc17 => ?_) (fun hc17 => ?_)
      · refine lv_iconst (v := nI 0) X.1.1 X.1.2.1 d_Model_endsAt_71 (by decide) ?_
        exact g_zret X B (by decide) ⟨by rw [if_neg (by rw [show n (mp v) = i by omega]; exact hi9_1)], rfl⟩ hL d_Model_endsAt_72 (by omega) (by omega)
      · refine lv_aload_n X.1.1 X.1.2.1 d_Model_endsAt_20 rfl (gl_at hl rfl) ?_
        refine lv_iload_n X.1.1 X.1.2.1 d_Model_endsAt_21 rfl (gl_at hl rfl) ?_
        refine lv_iload X.1.1 X.1.2.1 d_Model_endsAt_22 (gl_at hl rfl) ?_
        refine g_cv (A := (fun _ => False)) X gWS_good mw_Model_143 kc_Model mo1 (c_Model_has l D q H d w ar hR c0 org srt bt tn mp hv hN kk hk v hvc i (by omega)) (fun _ _ _ => trivial) gBlind.tt rfl rfl hl.1 (Nat.le_of_ble_eq_true rfl) rfl rfl ⟨by decide, by decide⟩ ⟨by decide, by decide⟩ d_Model_endsAt_24 (fun _ h => h.elim) hL (fun v6 H7 locs hp8 hL => ?_)
        obtain ⟨rfl, hHe⟩ := hp8
        rw [hHe]
        refine lv_if_eq X.1.1 X.1.2.1 d_Model_endsAt_27 rfl (fun hc27 => ?_) (fun hc27 => ?_)
        · replace hc27 := gz_f hc27
          refine g_iinc X.1.1 X.1.2.1 (nI (i + 1)) hl 4 d_Model_endsAt_65 rfl (nI_1 _) rfl (fun ls hl => ?_)
          refine lv_goto X.1.1 X.1.2.1 d_Model_endsAt_68 rfl ?_
          exact ih9 (i + 1) locs ls (by omega) (by omega) (by
            rw [d_ea_s]
            intro h9
            rw [Bool.or_eq_true, Bool.and_eq_true, decide_eq_true_iff] at h9
            rcases h9 with h8 | h8
            · exact hi9_1 h8
            · first
              | exact hc27 h8.1
              | exact gi_ne hc60 (by rw [hr, h8.2, t_ord_refl])) hL hl
        · replace hc27 := gz_t hc27
          refine lv_aload_n X.1.1 X.1.2.1 d_Model_endsAt_30 rfl (gl_at hl rfl) ?_
          refine lv_bipush (v := nI 64) X.1.1 X.1.2.1 d_Model_endsAt_31 (by decide) ?_
          refine lv_iload_n X.1.1 X.1.2.1 d_Model_endsAt_33 rfl (gl_at hl rfl) ?_
          refine lv_imul X.1.1 X.1.2.1 d_Model_endsAt_34 ?_
          refine g_top (nI (64 * (mp v))) (pk_mul _ _) ?_
          refine lv_iload X.1.1 X.1.2.1 d_Model_endsAt_35 (gl_at hl rfl) ?_
          refine lv_iadd X.1.1 X.1.2.1 d_Model_endsAt_37 ?_
          refine g_top (nI ((64 * (mp v)) + i)) (nI_add _ _) ?_
          refine lv_aload_n X.1.1 X.1.2.1 d_Model_endsAt_38 rfl (gl_at hl rfl) ?_
          refine g_get X kc_Model mo1 5 (by decide) lk_Model_19 rfl d_Model_endsAt_39 ?_
          refine lv_bipush (v := nI 8) X.1.1 X.1.2.1 d_Model_endsAt_42 (by decide) ?_
          refine lv_aload_n X.1.1 X.1.2.1 d_Model_endsAt_44 rfl (gl_at hl rfl) ?_
          refine g_get X kc_Model mo1 23 (by decide) lk_Model_69 rfl d_Model_endsAt_45 ?_
          refine lv_iload_n X.1.1 X.1.2.1 d_Model_endsAt_48 rfl (gl_at hl rfl) ?_
          have ma9 : va_at D CL (d + 19, .inl (q 0, 580, .inl (ar 19))) H := hR.a19
          refine g_iald X 0 ma9 rfl x (by omega) (by omega) d_Model_endsAt_49 ?_
          refine g_top (nI (pg x)) hx1 ?_
          refine lv_imul X.1.1 X.1.2.1 d_Model_endsAt_50 ?_
          refine g_top (nI (8 * (pg x))) (pk_mul _ _) ?_
          refine lv_aload_n X.1.1 X.1.2.1 d_Model_endsAt_51 rfl (gl_at hl rfl) ?_
          refine g_get X kc_Model mo1 24 (by decide) lk_Model_72 rfl d_Model_endsAt_52 ?_
          refine lv_iload_n X.1.1 X.1.2.1 d_Model_endsAt_55 rfl (gl_at hl rfl) ?_
          have ma10 : va_at D CL (d + 20, .inl (q 0, 580, .inl (ar 20))) H := hR.a20
          refine g_iald X 0 ma10 rfl x (by omega) (by omega) d_Model_endsAt_56 ?_
          refine g_top (nI (pl x)) hx2 ?_
          refine g_cv (A := (fun _ => False)) X gWS_good mw_Model_129 kc_Model mo1 (c_Model_orderOf l D q H d w ar hR kk hk (64 * mp v + i) (by omega) (d + 4) 1536 (ar 4) hR.a4 (8 * pg x) _ ((kk (pg x)).take (pl x)) (by rw [List.length_take]; omega) (tXo_take hxk.1 _) (by rw [List.length_take]; omega) (by omega) (t16_take hxk.2.2.2 _)) (fun _ _ _ => trivial) gBlind.tt rfl rfl hl.1 (Nat.le_of_ble_eq_true rfl) rfl rfl ⟨by decide, by decide⟩ ⟨by decide, by decide⟩ d_Model_endsAt_57 (fun _ h => h.elim) hL (fun v11 H12 locs hp13 hL => ?_)
          obtain ⟨⟨r, rfl, hr⟩, hHe⟩ := hp13
          rw [hHe]
          refine lv_if_ne X.1.1 X.1.2.1 d_Model_endsAt_60 rfl (fun hc60 => ?_) (fun hc60 => ?_)
          · refine g_iinc X.1.1 X.1.2.1 (nI (i + 1)) hl 4 d_Model_endsAt_65 rfl (nI_1 _) rfl (fun ls hl => ?_)
            refine lv_goto X.1.1 X.1.2.1 d_Model_endsAt_68 rfl ?_
            exact ih9 (i + 1) locs ls (by omega) (by omega) (by
              rw [d_ea_s]
              intro h9
              rw [Bool.or_eq_true, Bool.and_eq_true, decide_eq_true_iff] at h9
              rcases h9 with h8 | h8
              · exact hi9_1 h8
              · first
                | exact hc27 h8.1
                | exact gi_ne hc60 (by rw [hr, h8.2, t_ord_refl])) hL hl
          · refine lv_iconst (v := nI 1) X.1.1 X.1.2.1 d_Model_endsAt_63 (by decide) ?_
            exact g_zret X B (by decide) ⟨by rw [if_pos (d_ea_t (k := i) (by omega) hc27 (t_ord_eq _ _ (by rw [← hr, hc60]; rfl)))], rfl⟩ hL d_Model_endsAt_64 (by omega) (by omega)
  exact loop9 _ 0 locs ls (Nat.lt_succ_self _) (Nat.zero_le _) (by unfold d_ea; simp) hL hl

set_option maxHeartbeats 4000000 in
set_option maxRecDepth 100000 in
/-- stepsOf -/
theorem c_Model_stepsOf (l : Launch) (D : va_G) (q : Nat → ClassId) (H : Heap) (d : Nat) (w : Nat → Int32) (ar : Nat → Nat → Int32) (hR : dR D q H d w ar) (tN : Nat) (ht1 : w 27 = nI tN) (ht2 : tN ≤ 580) (s0 : Nat) : gC l y_Model_stepsOf (Cond.code y_Model_stepsOf b_Model_stepsOf 4 (some .int) :: gWS) (gR 0 0 0 0) D CL (gY q) (fun _ => True) [.ref d, .int (nI s0)] H (fun v1 H1 => v1 = some (.int (nI (v_cnt (fun k => decide (ar 23 k = nI s0)) 0 tN))) ∧ H1 = H) 0 0 (fun _ => False) := by
  refine gC.ofW R_Model "stepsOf" (by decide) rfl rfl ?_
  intro p e s m below meth c hadm X hE hH B hne
  refine g_entry [some (.ref d), some (.int (nI s0)), none, none] rfl rfl (Nat.le_of_ble_eq_true rfl) (fun ls hl => ?_)
  refine lv_iconst (v := nI 0) X.1.1 X.1.2.1 d_Model_stepsOf_0 (by decide) ?_
  refine g_istn X.1.1 X.1.2.1 hl 2 d_Model_stepsOf_1 rfl (Nat.le_of_ble_eq_true rfl) rfl (fun ls hl => ?_)
  refine lv_iconst (v := nI 0) X.1.1 X.1.2.1 d_Model_stepsOf_2 (by decide) ?_
  refine g_istn X.1.1 X.1.2.1 hl 3 d_Model_stepsOf_3 rfl (Nat.le_of_ble_eq_true rfl) rfl (fun ls hl => ?_)
  have loop4 : ∀ (fu : Nat) (i : Nat) (z0 : Nat) (ls : Array Slot), tN - i < fu → (i ≤ tN) → (z0 = v_cnt (fun k => decide (ar 23 k = nI s0)) 0 i) →  gl ls [some (.ref d), some (.int (nI s0)), some (.int (nI z0)), some (.int (nI i))] → W p l e (gR 0 0 0 0) s m ([.ref d, .int (nI s0)] : List Value).toArray below meth c H [] 0 0 (gQ below ([.ref d, .int (nI s0)] : List Value).toArray s (fun v1 H1 => v1 = some (.int (nI (v_cnt (fun k => decide (ar 23 k = nI s0)) 0 tN))) ∧ H1 = H) 0 0 (fun _ => False)) (F0 m 4 ls []) := by
    intro fu
    induction fu with
    | zero => intro i z0 ls hmu; omega
    | succ fu ih4 =>
      intro i z0 ls hmu4 hi4_0 hi4_1 hl
      have hz9 := v_cnt_le (fun k => decide (ar 23 k = nI s0)) 0 i
      refine lv_iload_n X.1.1 X.1.2.1 d_Model_stepsOf_4 rfl (gl_at hl rfl) ?_
      refine lv_aload_n X.1.1 X.1.2.1 d_Model_stepsOf_5 rfl (gl_at hl rfl) ?_
      have mo1 : va_at D CL (d, .inr (10, [.int (w 0), .ref (d + 1), .int (w 2), .ref (d + 2), .ref (d + 3), .ref (d + 4), .ref (d + 5), .ref (d + 6), .int (w 8), .ref (d + 7), .ref (d + 8), .ref (d + 9), .ref (d + 10), .ref (d + 11), .ref (d + 12), .ref (d + 13), .ref (d + 14), .ref (d + 15), .ref (d + 16), .ref (d + 17), .int (w 20), .ref (d + 18), .int (w 22), .ref (d + 19), .ref (d + 20), .ref (d + 21), .int (w 26), .int (w 27), .int (w 28), .ref (d + 22), .ref (d + 23), .ref (d + 24), .ref (d + 25), .ref (d + 26), .int (w 34), .ref (d + 27), .ref (d + 28), .int (w 37), .int (w 38)])) H := hR.1
      refine g_get X kc_Model mo1 27 (by decide) lk_Model_199 rfl d_Model_stepsOf_6 ?_
      refine g_top (nI tN) ht1 ?_
      refine gn_ge X.1.1 X.1.2.1 i tN (by omega) (by omega) d_Model_stepsOf_9 rfl (fun hc9 => ?_) (fun hc9 => ?_)
      · refine lv_iload_n X.1.1 X.1.2.1 d_Model_stepsOf_36 rfl (gl_at hl rfl) ?_
        exact g_iret X B ⟨by rw [hi4_1, show i = tN by omega], rfl⟩ (fun _ h => by cases h) d_Model_stepsOf_37 (by omega) (by omega)
      · refine lv_iload_n X.1.1 X.1.2.1 d_Model_stepsOf_12 rfl (gl_at hl rfl) ?_
        refine lv_aload_n X.1.1 X.1.2.1 d_Model_stepsOf_13 rfl (gl_at hl rfl) ?_
        refine g_get X kc_Model mo1 30 (by decide) lk_Model_81 rfl d_Model_stepsOf_14 ?_
        refine lv_iload_n X.1.1 X.1.2.1 d_Model_stepsOf_17 rfl (gl_at hl rfl) ?_
        have ma2 : va_at D CL (d + 23, .inl (q 0, 580, .inl (ar 23))) H := hR.a23
        refine g_iald X 0 ma2 rfl i (by omega) (by omega) d_Model_stepsOf_18 ?_
        refine lv_iload_n X.1.1 X.1.2.1 d_Model_stepsOf_19 rfl (gl_at hl rfl) ?_
        refine lv_icmp_ne X.1.1 X.1.2.1 d_Model_stepsOf_20 rfl (fun hc20 => ?_) (fun hc20 => ?_)
        · refine lv_iconst (v := nI 0) X.1.1 X.1.2.1 d_Model_stepsOf_27 (by decide) ?_
          refine lv_iadd X.1.1 X.1.2.1 d_Model_stepsOf_28 ?_
          refine g_top (nI (z0 + 0)) (nI_add _ _) ?_
          refine g_istn X.1.1 X.1.2.1 hl 2 d_Model_stepsOf_29 rfl (Nat.le_of_ble_eq_true rfl) rfl (fun ls hl => ?_)
          refine g_iinc X.1.1 X.1.2.1 (nI (i + 1)) hl 3 d_Model_stepsOf_30 rfl (nI_1 _) rfl (fun ls hl => ?_)
          refine lv_goto X.1.1 X.1.2.1 d_Model_stepsOf_33 rfl ?_
          exact ih4 (i + 1) (z0 + 0) ls (by omega) (by omega) (by
            show _ = v_cnt _ 0 i + _
            rw [Nat.zero_add]
            first
            | rw [if_pos (decide_eq_true hc20), ← hi4_1]
            | rw [if_neg (fun h9 => hc20 (of_decide_eq_true h9)), ← hi4_1]) hl
        · refine lv_iconst (v := nI 1) X.1.1 X.1.2.1 d_Model_stepsOf_23 (by decide) ?_
          refine lv_goto X.1.1 X.1.2.1 d_Model_stepsOf_24 rfl ?_
          refine lv_iadd X.1.1 X.1.2.1 d_Model_stepsOf_28 ?_
          refine g_top (nI (z0 + 1)) (nI_add _ _) ?_
          refine g_istn X.1.1 X.1.2.1 hl 2 d_Model_stepsOf_29 rfl (Nat.le_of_ble_eq_true rfl) rfl (fun ls hl => ?_)
          refine g_iinc X.1.1 X.1.2.1 (nI (i + 1)) hl 3 d_Model_stepsOf_30 rfl (nI_1 _) rfl (fun ls hl => ?_)
          refine lv_goto X.1.1 X.1.2.1 d_Model_stepsOf_33 rfl ?_
          exact ih4 (i + 1) (z0 + 1) ls (by omega) (by omega) (by
            show _ = v_cnt _ 0 i + _
            rw [Nat.zero_add]
            first
            | rw [if_pos (decide_eq_true hc20), ← hi4_1]
            | rw [if_neg (fun h9 => hc20 (of_decide_eq_true h9)), ← hi4_1]) hl
  exact loop4 _ 0 0 ls (Nat.lt_succ_self _) (Nat.zero_le _) rfl hl

set_option maxHeartbeats 4000000 in
set_option maxRecDepth 100000 in
/-- go -/
theorem c_Model_go (l : Launch) (D : va_G) (q : Nat → ClassId) (H : Heap) (d : Nat) (w : Nat → Int32) (ar : Nat → Nat → Int32) (hR : dR D q H d w ar) (tN : Nat) (ht1 : w 27 = nI tN) (ht2 : tN ≤ 580) (x y : Int32) : gC l y_Model_go (Cond.code y_Model_go b_Model_go 4 (some .int) :: gWS) (gR 0 0 0 0) D CL (gY q) (fun _ => True) [.ref d, .int x, .int y] H (fun v1 H1 => v1 = some (.int (d_go (ar 23) (ar 24) (ar 25) x y tN)) ∧ H1 = H) 0 0 (fun _ => False) := by
  refine gC.ofW R_Model "go" (by decide) rfl rfl ?_
  intro p e s m below meth c hadm X hE hH B hne
  refine g_entry [some (.ref d), some (.int x), some (.int y), none] rfl rfl (Nat.le_of_ble_eq_true rfl) (fun ls hl => ?_)
  refine lv_iconst (v := nI 0) X.1.1 X.1.2.1 d_Model_go_0 (by decide) ?_
  refine g_istn X.1.1 X.1.2.1 hl 3 d_Model_go_1 rfl (Nat.le_of_ble_eq_true rfl) rfl (fun ls hl => ?_)
  have loop2 : ∀ (fu : Nat) (i : Nat) (ls : Array Slot), tN - i < fu → (i ≤ tN) → (d_go (ar 23) (ar 24) (ar 25) x y tN = d_gof (ar 23) (ar 24) (ar 25) x y (tN - i) i) →  gl ls [some (.ref d), some (.int x), some (.int y), some (.int (nI i))] → W p l e (gR 0 0 0 0) s m ([.ref d, .int x, .int y] : List Value).toArray below meth c H [] 0 0 (gQ below ([.ref d, .int x, .int y] : List Value).toArray s (fun v1 H1 => v1 = some (.int (d_go (ar 23) (ar 24) (ar 25) x y tN)) ∧ H1 = H) 0 0 (fun _ => False)) (F0 m 2 ls []) := by
    intro fu
    induction fu with
    | zero => intro i ls hmu; omega
    | succ fu ih2 =>
      intro i ls hmu2 hi2_0 hi2_1 hl
      refine lv_iload_n X.1.1 X.1.2.1 d_Model_go_2 rfl (gl_at hl rfl) ?_
      refine lv_aload_n X.1.1 X.1.2.1 d_Model_go_3 rfl (gl_at hl rfl) ?_
      have mo1 : va_at D CL (d, .inr (10, [.int (w 0), .ref (d + 1), .int (w 2), .ref (d + 2), .ref (d + 3), .ref (d + 4), .ref (d + 5), .ref (d + 6), .int (w 8), .ref (d + 7), .ref (d + 8), .ref (d + 9), .ref (d + 10), .ref (d + 11), .ref (d + 12), .ref (d + 13), .ref (d + 14), .ref (d + 15), .ref (d + 16), .ref (d + 17), .int (w 20), .ref (d + 18), .int (w 22), .ref (d + 19), .ref (d + 20), .ref (d + 21), .int (w 26), .int (w 27), .int (w 28), .ref (d + 22), .ref (d + 23), .ref (d + 24), .ref (d + 25), .ref (d + 26), .int (w 34), .ref (d + 27), .ref (d + 28), .int (w 37), .int (w 38)])) H := hR.1
      refine g_get X kc_Model mo1 27 (by decide) lk_Model_199 rfl d_Model_go_4 ?_
      refine g_top (nI tN) ht1 ?_
      refine gn_ge X.1.1 X.1.2.1 i tN (by omega) (by omega) d_Model_go_7 rfl (fun hc7 => ?_) (fun hc7 => ?_)
      · refine lv_iconst (v := (-1)) X.1.1 X.1.2.1 d_Model_go_43 (by decide) ?_
        exact g_iret X B ⟨by
          rw [hi2_1, show tN - i = 0 by omega]
          rfl, rfl⟩ (fun _ h => by cases h) d_Model_go_44 (by omega) (by omega)
      · refine lv_aload_n X.1.1 X.1.2.1 d_Model_go_10 rfl (gl_at hl rfl) ?_
        refine g_get X kc_Model mo1 30 (by decide) lk_Model_81 rfl d_Model_go_11 ?_
        refine lv_iload_n X.1.1 X.1.2.1 d_Model_go_14 rfl (gl_at hl rfl) ?_
        have ma2 : va_at D CL (d + 23, .inl (q 0, 580, .inl (ar 23))) H := hR.a23
        refine g_iald X 0 ma2 rfl i (by omega) (by omega) d_Model_go_15 ?_
        refine lv_iload_n X.1.1 X.1.2.1 d_Model_go_16 rfl (gl_at hl rfl) ?_
        refine lv_icmp_ne X.1.1 X.1.2.1 d_Model_go_17 rfl (fun hc17 => ?_) (fun hc17 => ?_)
        · refine g_iinc X.1.1 X.1.2.1 (nI (i + 1)) hl 3 d_Model_go_37 rfl (nI_1 _) rfl (fun ls hl => ?_)
          refine lv_goto X.1.1 X.1.2.1 d_Model_go_40 rfl ?_
          exact ih2 (i + 1) ls (by omega) (by omega) (by
            rw [hi2_1, show tN - i = (tN - (i + 1)) + 1 by omega]
            show (if _ then _ else _) = _
            rw [if_neg (fun h9 => by first | exact hc17 h9.1 | exact hc27 h9.2)]) hl
        · refine lv_aload_n X.1.1 X.1.2.1 d_Model_go_20 rfl (gl_at hl rfl) ?_
          refine g_get X kc_Model mo1 31 (by decide) lk_Model_84 rfl d_Model_go_21 ?_
          refine lv_iload_n X.1.1 X.1.2.1 d_Model_go_24 rfl (gl_at hl rfl) ?_
          have ma3 : va_at D CL (d + 24, .inl (q 0, 580, .inl (ar 24))) H := hR.a24
          refine g_iald X 0 ma3 rfl i (by omega) (by omega) d_Model_go_25 ?_
          refine lv_iload_n X.1.1 X.1.2.1 d_Model_go_26 rfl (gl_at hl rfl) ?_
          refine lv_icmp_ne X.1.1 X.1.2.1 d_Model_go_27 rfl (fun hc27 => ?_) (fun hc27 => ?_)
          · refine g_iinc X.1.1 X.1.2.1 (nI (i + 1)) hl 3 d_Model_go_37 rfl (nI_1 _) rfl (fun ls hl => ?_)
            refine lv_goto X.1.1 X.1.2.1 d_Model_go_40 rfl ?_
            exact ih2 (i + 1) ls (by omega) (by omega) (by
              rw [hi2_1, show tN - i = (tN - (i + 1)) + 1 by omega]
              show (if _ then _ else _) = _
              rw [if_neg (fun h9 => by first | exact hc17 h9.1 | exact hc27 h9.2)]) hl
          · refine lv_aload_n X.1.1 X.1.2.1 d_Model_go_30 rfl (gl_at hl rfl) ?_
            refine g_get X kc_Model mo1 32 (by decide) lk_Model_87 rfl d_Model_go_31 ?_
            refine lv_iload_n X.1.1 X.1.2.1 d_Model_go_34 rfl (gl_at hl rfl) ?_
            have ma4 : va_at D CL (d + 25, .inl (q 0, 580, .inl (ar 25))) H := hR.a25
            refine g_iald X 0 ma4 rfl i (by omega) (by omega) d_Model_go_35 ?_
            exact g_iret X B ⟨by
              rw [hi2_1, show tN - i = (tN - (i + 1)) + 1 by omega]
              show _ = some (Value.int (if _ then _ else _))
              rw [if_pos ⟨hc17, hc27⟩], rfl⟩ (fun _ h => by cases h) d_Model_go_36 (by omega) (by omega)
  exact loop2 _ 0 ls (Nat.lt_succ_self _) (Nat.zero_le _) rfl hl

set_option maxHeartbeats 4000000 in
set_option maxRecDepth 100000 in
/-- alike -/
theorem c_Model_alike (l : Launch) (D : va_G) (q : Nat → ClassId) (H : Heap) (d : Nat) (w : Nat → Int32) (ar : Nat → Nat → Int32) (hR : dR D q H d w ar) (kk : Nat → List Nat) (hk : pK ar kk) (pn : Nat) (pg pl : Nat → Nat) (hq : pQ w ar kk pn pg pl) (tN : Nat) (ht1 : w 27 = nI tN) (ht2 : tN ≤ 580) (s0 x : Nat) (hx : x < pn) : gC l y_Model_alike (Cond.code y_Model_alike b_Model_alike 4 (some .boolean) :: gWS) (gR 3 71 0 0) D CL (gY q) (fun _ => True) [.ref d, .int (nI s0), .int (nI x)] H (fun v1 H1 => v1 = some (.int (nI (if d_ak kk pg pl (ar 23) (ar 24) (ar 25) (ar 21) tN (nI s0) x pn = true then 1 else 0))) ∧ H1 = H) 0 0 (fun _ => False) := by
  refine gC.ofW R_Model "alike" (by decide) rfl rfl ?_
  intro p e s m below meth c hadm X hE hH B hne
  refine g_entry [some (.ref d), some (.int (nI s0)), some (.int (nI x)), none] rfl rfl (Nat.le_of_ble_eq_true rfl) (fun ls hl => ?_)
  have hp5 := hq.2.1
  obtain ⟨hx1, hx2, hx3, hx4⟩ := hq.2.2 x hx
  have kx8 := (hk (pg x) hx3).2.2.1
  refine lv_iconst (v := nI 0) X.1.1 X.1.2.1 d_Model_alike_0 (by decide) ?_
  refine g_istn X.1.1 X.1.2.1 hl 3 d_Model_alike_1 rfl (Nat.le_of_ble_eq_true rfl) rfl (fun ls hl => ?_)
  have loop2 : ∀ (fu : Nat) (i : Nat) (locs : List Loc) (ls : Array Slot), pn - i < fu → (i ≤ pn) → (d_ak kk pg pl (ar 23) (ar 24) (ar 25) (ar 21) tN (nI s0) x i = true) → (∀ x ∈ locs, (fun _ => False) x.base) → gl ls [some (.ref d), some (.int (nI s0)), some (.int (nI x)), some (.int (nI i))] → W p l e (gR 3 71 0 0) s m ([.ref d, .int (nI s0), .int (nI x)] : List Value).toArray below meth c H locs 0 0 (gQ below ([.ref d, .int (nI s0), .int (nI x)] : List Value).toArray s (fun v1 H1 => v1 = some (.int (nI (if d_ak kk pg pl (ar 23) (ar 24) (ar 25) (ar 21) tN (nI s0) x pn = true then 1 else 0))) ∧ H1 = H) 0 0 (fun _ => False)) (F0 m 2 ls []) := by
    intro fu
    induction fu with
    | zero => intro i locs ls hmu; omega
    | succ fu ih2 =>
      intro i locs ls hmu2 hi2_0 hi2_1 hL hl
      refine lv_iload_n X.1.1 X.1.2.1 d_Model_alike_2 rfl (gl_at hl rfl) ?_
      refine lv_aload_n X.1.1 X.1.2.1 d_Model_alike_3 rfl (gl_at hl rfl) ?_
      have mo1 : va_at D CL (d, .inr (10, [.int (w 0), .ref (d + 1), .int (w 2), .ref (d + 2), .ref (d + 3), .ref (d + 4), .ref (d + 5), .ref (d + 6), .int (w 8), .ref (d + 7), .ref (d + 8), .ref (d + 9), .ref (d + 10), .ref (d + 11), .ref (d + 12), .ref (d + 13), .ref (d + 14), .ref (d + 15), .ref (d + 16), .ref (d + 17), .int (w 20), .ref (d + 18), .int (w 22), .ref (d + 19), .ref (d + 20), .ref (d + 21), .int (w 26), .int (w 27), .int (w 28), .ref (d + 22), .ref (d + 23), .ref (d + 24), .ref (d + 25), .ref (d + 26), .int (w 34), .ref (d + 27), .ref (d + 28), .int (w 37), .int (w 38)])) H := hR.1
      refine g_get X kc_Model mo1 22 (by decide) lk_Model_193 rfl d_Model_alike_4 ?_
      refine g_top (nI pn) hq.1 ?_
      refine gn_ge X.1.1 X.1.2.1 i pn (by omega) (by omega) d_Model_alike_7 rfl (fun hc7 => ?_) (fun hc7 => ?_)
      · refine lv_iconst (v := nI 1) X.1.1 X.1.2.1 d_Model_alike_62 (by decide) ?_
        exact g_zret X B (by decide) ⟨by rw [if_pos (by rw [show pn = i by omega]; exact hi2_1)], rfl⟩ hL d_Model_alike_63 (by omega) (by omega)
      · refine lv_aload_n X.1.1 X.1.2.1 d_Model_alike_10 rfl (gl_at hl rfl) ?_
        refine lv_iload_n X.1.1 X.1.2.1 d_Model_alike_11 rfl (gl_at hl rfl) ?_
        refine lv_iload_n X.1.1 X.1.2.1 d_Model_alike_12 rfl (gl_at hl rfl) ?_
        refine g_cv (A := (fun _ => False)) X gWS_good mw_Model_217 kc_Model mo1 (c_Model_follows l D q H d w ar hR kk hk pn pg pl hq i x (by omega) (by omega)) (fun _ _ _ => trivial) gBlind.tt rfl rfl hl.1 (Nat.le_of_ble_eq_true rfl) rfl rfl ⟨by decide, by decide⟩ ⟨by decide, by decide⟩ d_Model_alike_13 (fun _ h => h.elim) hL (fun v2 H3 locs hp4 hL => ?_)
        obtain ⟨rfl, hHe⟩ := hp4
        rw [hHe]
        refine lv_if_eq X.1.1 X.1.2.1 d_Model_alike_16 rfl (fun hc16 => ?_) (fun hc16 => ?_)
        · replace hc16 := gz_f hc16
          refine g_iinc X.1.1 X.1.2.1 (nI (i + 1)) hl 3 d_Model_alike_56 rfl (nI_1 _) rfl (fun ls hl => ?_)
          refine lv_goto X.1.1 X.1.2.1 d_Model_alike_59 rfl ?_
          exact ih2 (i + 1) locs ls (by omega) (by omega) (by
            rw [d_ak_s, hi2_1, Bool.eq_false_iff.mpr hc16]
            rfl) hL hl
        · replace hc16 := gz_t hc16
          obtain ⟨hy1, hy2, hy3, hy4⟩ := hq.2.2 i (by omega)
          have hyk := hk (pg i) hy3
          have ky8 := hyk.2.2.1
          have hfl : pl i = pl x + 1 := by
            have h9 := hc16
            unfold d_fo at h9
            rw [Bool.and_eq_true, decide_eq_true_iff] at h9
            exact h9.1
          refine lv_aload_n X.1.1 X.1.2.1 d_Model_alike_19 rfl (gl_at hl rfl) ?_
          refine lv_iload_n X.1.1 X.1.2.1 d_Model_alike_20 rfl (gl_at hl rfl) ?_
          refine lv_aload_n X.1.1 X.1.2.1 d_Model_alike_21 rfl (gl_at hl rfl) ?_
          refine g_get X kc_Model mo1 5 (by decide) lk_Model_19 rfl d_Model_alike_22 ?_
          refine lv_bipush (v := nI 8) X.1.1 X.1.2.1 d_Model_alike_25 (by decide) ?_
          refine lv_aload_n X.1.1 X.1.2.1 d_Model_alike_27 rfl (gl_at hl rfl) ?_
          refine g_get X kc_Model mo1 23 (by decide) lk_Model_69 rfl d_Model_alike_28 ?_
          refine lv_iload_n X.1.1 X.1.2.1 d_Model_alike_31 rfl (gl_at hl rfl) ?_
          have ma5 : va_at D CL (d + 19, .inl (q 0, 580, .inl (ar 19))) H := hR.a19
          refine g_iald X 0 ma5 rfl i (by omega) (by omega) d_Model_alike_32 ?_
          refine g_top (nI (pg i)) hy1 ?_
          refine lv_imul X.1.1 X.1.2.1 d_Model_alike_33 ?_
          refine g_top (nI (8 * (pg i))) (pk_mul _ _) ?_
          refine lv_aload_n X.1.1 X.1.2.1 d_Model_alike_34 rfl (gl_at hl rfl) ?_
          refine g_get X kc_Model mo1 24 (by decide) lk_Model_72 rfl d_Model_alike_35 ?_
          refine lv_iload_n X.1.1 X.1.2.1 d_Model_alike_38 rfl (gl_at hl rfl) ?_
          have ma6 : va_at D CL (d + 20, .inl (q 0, 580, .inl (ar 20))) H := hR.a20
          refine g_iald X 0 ma6 rfl x (by omega) (by omega) d_Model_alike_39 ?_
          refine g_top (nI (pl x)) hx2 ?_
          refine lv_iadd X.1.1 X.1.2.1 d_Model_alike_40 ?_
          refine g_top (nI ((8 * (pg i)) + (pl x))) (nI_add _ _) ?_
          have ma7 : va_at D CL (d + 4, .inl (q 0, 1536, .inl (ar 4))) H := hR.a4
          refine g_iald X 0 ma7 rfl ((8 * (pg i)) + (pl x)) (by omega) (by omega) d_Model_alike_41 ?_
          refine g_top (nI ((kk (pg i)).getD (pl x) 0)) (hyk.1 (pl x) (by omega)) ?_
          refine g_cv (A := (fun _ => False)) X gWS_good mw_Model_226 kc_Model mo1 (c_Model_go l D q H d w ar hR tN ht1 ht2 (nI s0) (nI ((kk (pg i)).getD (pl x) 0))) (fun _ _ _ => trivial) gBlind.tt rfl rfl hl.1 (Nat.le_of_ble_eq_true rfl) rfl rfl ⟨by decide, by decide⟩ ⟨by decide, by decide⟩ d_Model_alike_42 (fun _ h => h.elim) hL (fun v8 H9 locs hp10 hL => ?_)
          obtain ⟨rfl, hHe⟩ := hp10
          rw [hHe]
          refine lv_aload_n X.1.1 X.1.2.1 d_Model_alike_45 rfl (gl_at hl rfl) ?_
          refine g_get X kc_Model mo1 25 (by decide) lk_Model_75 rfl d_Model_alike_46 ?_
          refine lv_iload_n X.1.1 X.1.2.1 d_Model_alike_49 rfl (gl_at hl rfl) ?_
          have ma11 : va_at D CL (d + 21, .inl (q 0, 580, .inl (ar 21))) H := hR.a21
          refine g_iald X 0 ma11 rfl i (by omega) (by omega) d_Model_alike_50 ?_
          refine lv_icmp_eq X.1.1 X.1.2.1 d_Model_alike_51 rfl (fun hc51 => ?_) (fun hc51 => ?_)
          · refine g_iinc X.1.1 X.1.2.1 (nI (i + 1)) hl 3 d_Model_alike_56 rfl (nI_1 _) rfl (fun ls hl => ?_)
            refine lv_goto X.1.1 X.1.2.1 d_Model_alike_59 rfl ?_
            exact ih2 (i + 1) locs ls (by omega) (by omega) (by
              rw [d_ak_s, hi2_1, decide_eq_true hc51]
              simp) hL hl
          · refine lv_iconst (v := nI 0) X.1.1 X.1.2.1 d_Model_alike_54 (by decide) ?_
            exact g_zret X B (by decide) ⟨by rw [if_neg (d_ak_f (y := i) (by omega) hc16 hc51)], rfl⟩ hL d_Model_alike_55 (by omega) (by omega)
  exact loop2 _ 0 [] ls (Nat.lt_succ_self _) (Nat.zero_le _) rfl (fun _ h => by cases h) hl

/-- what prefixesOf adds: the first i prefixes of key g, as far as they are new -/
def d_px (kk : Nat → List Nat) (g : Nat) (pn : Nat) (pg pl : Nat → Nat) (i pn1 : Nat) (pg1 pl1 : Nat → Nat) : Prop :=
  pn ≤ pn1 ∧ pn1 ≤ pn + i ∧ (∀ x, x < pn → pg1 x = pg x ∧ pl1 x = pl x) ∧ (∀ x, pn ≤ x → x < pn1 → pg1 x = g ∧ pl1 x < i) ∧ (∀ t, t < i → ∃ x, x < pn1 ∧ d_pu kk pg1 pl1 x = (kk g).take t) ∧ ∀ x y, x < y → pn ≤ y → y < pn1 → d_pu kk pg1 pl1 x ≠ d_pu kk pg1 pl1 y
def d_pe (kk : Nat → List Nat) (g : Nat) (pg1 pl1 : Nat → Nat) (pn1 i : Nat) : Prop := ∃ x, x < pn1 ∧ d_pu kk pg1 pl1 x = (kk g).take i
theorem d_px_skip {kk : Nat → List Nat} {g pn : Nat} {pg pl : Nat → Nat} {i pn1 : Nat} {pg1 pl1 : Nat → Nat} (h : d_px kk g pn pg pl i pn1 pg1 pl1) (hx : ∃ x, x < pn1 ∧ d_pu kk pg1 pl1 x = (kk g).take i) : d_px kk g pn pg pl (i + 1) pn1 pg1 pl1 := by
  obtain ⟨h1, h2, h3, h4, h5, h6⟩ := h
  exact ⟨h1, by omega, h3, fun x a b => ⟨(h4 x a b).1, by have := (h4 x a b).2; omega⟩, lt_s h5 hx, h6⟩
theorem d_px_add {kk : Nat → List Nat} {g pn : Nat} {pg pl : Nat → Nat} {i pn1 : Nat} {pg1 pl1 : Nat → Nat} (h : d_px kk g pn pg pl i pn1 pg1 pl1) (hx : ∀ x, x < pn1 → d_pu kk pg1 pl1 x ≠ (kk g).take i) : d_px kk g pn pg pl (i + 1) (pn1 + 1) (va_up pg1 pn1 g) (va_up pl1 pn1 i) := by
  obtain ⟨h1, h2, h3, h4, h5, h6⟩ := h
  have e0 : ∀ x, x < pn1 → va_up pg1 pn1 g x = pg1 x ∧ va_up pl1 pn1 i x = pl1 x := fun x hx => ⟨va_up_ne _ _ (by omega), va_up_ne _ _ (by omega)⟩
  have e1 : ∀ x, x < pn1 → d_pu kk (va_up pg1 pn1 g) (va_up pl1 pn1 i) x = d_pu kk pg1 pl1 x := fun x hx => by
    show (kk (va_up pg1 pn1 g x)).take (va_up pl1 pn1 i x) = _
    rw [(e0 x hx).1, (e0 x hx).2]
  have e2 : d_pu kk (va_up pg1 pn1 g) (va_up pl1 pn1 i) pn1 = (kk g).take i := by
    show (kk (va_up pg1 pn1 g pn1)).take (va_up pl1 pn1 i pn1) = _
    rw [va_up_self, va_up_self]
  refine ⟨by omega, by omega, fun x a => ?_, fun x a b => ?_, lt_s (fun t ht => ?_) ⟨pn1, by omega, e2⟩, fun x y a b c => ?_⟩
  · rw [(e0 x (by omega)).1, (e0 x (by omega)).2]
    exact h3 x a
  · by_cases e : x = pn1
    · subst e
      rw [va_up_self, va_up_self]
      exact ⟨rfl, by omega⟩
    · rw [(e0 x (by omega)).1, (e0 x (by omega)).2]
      exact ⟨(h4 x a (by omega)).1, by have := (h4 x a (by omega)).2; omega⟩
  · obtain ⟨x, a, b⟩ := h5 t ht
    exact ⟨x, by omega, by rw [e1 x a]; exact b⟩
  · by_cases e : y = pn1
    · subst e
      rw [e2, e1 x (by omega)]
      exact hx x (by omega)
    · rw [e1 x (by omega), e1 y (by omega)]
      exact h6 x y a b (by omega)
theorem pQ.add {w : Nat → Int32} {ar : Nat → Nat → Int32} {kk : Nat → List Nat} {pn : Nat} {pg pl : Nat → Nat} (h : ∀ x, x < pn → ar 19 x = nI (pg x) ∧ ar 20 x = nI (pl x) ∧ pg x < 192 ∧ pl x ≤ (kk (pg x)).length) {g i : Nat} (hg : g < 192) (hi : i ≤ (kk g).length) : ∀ x, x < pn + 1 → upd (ar 19) pn (nI g) x = nI (va_up pg pn g x) ∧ upd (ar 20) pn (nI i) x = nI (va_up pl pn i x) ∧ va_up pg pn g x < 192 ∧ va_up pl pn i x ≤ (kk (va_up pg pn g x)).length := by
  intro x hx
  by_cases e : x = pn
  · subst e
    rw [pk_us, pk_us, va_up_self, va_up_self]
    exact ⟨rfl, rfl, hg, hi⟩
  · rw [pk_un e, pk_un e, va_up_ne _ _ e, va_up_ne _ _ e]
    exact h x (by omega)

set_option maxHeartbeats 4000000 in
set_option maxRecDepth 100000 in
/-- prefixesOf -/
theorem c_Model_prefixesOf (l : Launch) (D : va_G) (q : Nat → ClassId) (H : Heap) (d : Nat) (w : Nat → Int32) (ar : Nat → Nat → Int32) (hR : dR D q H d w ar) (kk : Nat → List Nat) (hk : pK ar kk) (pn : Nat) (pg pl : Nat → Nat) (hq : pQ w ar kk pn pg pl) (v g : Nat) (hg : g < 192) (hpn : pn + (kk g).length < 580) : gC l y_Model_prefixesOf (Cond.code y_Model_prefixesOf b_Model_prefixesOf 6 none :: gWS) (gR 2 49 0 0) D CL (gY q) (fun _ => True) [.ref d, .int (nI v), .int (nI g)] H (fun v1 H1 => ∃ (pn1 : Nat) (pg1 pl1 : Nat → Nat) (F G : Nat → Int32), (v1 = none ∧ d_px kk g pn pg pl ((kk g).length + 1) pn1 pg1 pl1 ∧ ∀ x, x < pn1 → F x = nI (pg1 x) ∧ G x = nI (pl1 x) ∧ pg1 x < 192 ∧ pl1 x ≤ (kk (pg1 x)).length) ∧ dR D q H1 d (upd w 22 (nI pn1)) (va_up (va_up ar 19 F) 20 G) ∧ H1.size = H.size ∧ ∀ p : Nat, (p < d ∨ d + 28 < p) → H1[p]? = H[p]?) 0 0 (fun p => d ≤ p ∧ p ≤ d + 28) := by
  refine gC.ofW R_Model "prefixesOf" (by decide) rfl rfl ?_
  intro p e s m below meth c hadm X hE hH B hne
  refine g_entry [some (.ref d), some (.int (nI v)), some (.int (nI g)), none, none, none] rfl rfl (Nat.le_of_ble_eq_true rfl) (fun ls hl => ?_)
  obtain ⟨hg1, hg2, hg3, hg4⟩ := hk g hg
  refine lv_iconst (v := nI 0) X.1.1 X.1.2.1 d_Model_prefixesOf_0 (by decide) ?_
  refine g_istn X.1.1 X.1.2.1 hl 3 d_Model_prefixesOf_1 rfl (Nat.le_of_ble_eq_true rfl) rfl (fun ls hl => ?_)
  have loop2 : ∀ (fu : Nat) (i : Nat) (pg1 : Nat → Nat) (pl1 : Nat → Nat) (F : Nat → Int32) (G : Nat → Int32) (pn1 : Nat) (Hn : Heap) (locs : List Loc) (ls : Array Slot), (kk g).length + 1 - i < fu → (i ≤ (kk g).length + 1) → (pn1 ≤ pn + i) → (∀ x, x < pn1 → F x = nI (pg1 x) ∧ G x = nI (pl1 x) ∧ pg1 x < 192 ∧ pl1 x ≤ (kk (pg1 x)).length) → (d_px kk g pn pg pl i pn1 pg1 pl1) → (dR D q Hn d (upd w 22 (nI pn1)) (va_up (va_up ar 19 F) 20 G)) → (Hn.size = H.size) → (∀ p : Nat, (p < d ∨ d + 28 < p) → Hn[p]? = H[p]?) → (∀ x ∈ locs, (fun p => d ≤ p ∧ p ≤ d + 28) x.base) → gl ls [some (.ref d), some (.int (nI v)), some (.int (nI g)), some (.int (nI i)), none, none] → W p l e (gR 2 49 0 0) s m ([.ref d, .int (nI v), .int (nI g)] : List Value).toArray below meth c Hn locs 0 0 (gQ below ([.ref d, .int (nI v), .int (nI g)] : List Value).toArray s (fun v1 H1 => ∃ (pn1 : Nat) (pg1 pl1 : Nat → Nat) (F G : Nat → Int32), (v1 = none ∧ d_px kk g pn pg pl ((kk g).length + 1) pn1 pg1 pl1 ∧ ∀ x, x < pn1 → F x = nI (pg1 x) ∧ G x = nI (pl1 x) ∧ pg1 x < 192 ∧ pl1 x ≤ (kk (pg1 x)).length) ∧ dR D q H1 d (upd w 22 (nI pn1)) (va_up (va_up ar 19 F) 20 G) ∧ H1.size = H.size ∧ ∀ p : Nat, (p < d ∨ d + 28 < p) → H1[p]? = H[p]?) 0 0 (fun p => d ≤ p ∧ p ≤ d + 28)) (F0 m 2 ls []) := by
    intro fu
    induction fu with
    | zero => intro i pg1 pl1 F G pn1 Hn locs ls hmu; omega
    | succ fu ih2 =>
      intro i pg1 pl1 F G pn1 Hn locs ls hmu2 hi2_0 hi2_1 hi2_2 hi2_3 hRl hzl frl hL hl
      refine lv_iload_n X.1.1 X.1.2.1 d_Model_prefixesOf_2 rfl (gl_at hl rfl) ?_
      refine lv_aload_n X.1.1 X.1.2.1 d_Model_prefixesOf_3 rfl (gl_at hl rfl) ?_
      have mo1 : va_at D CL (d, .inr (10, [.int (w 0), .ref (d + 1), .int (w 2), .ref (d + 2), .ref (d + 3), .ref (d + 4), .ref (d + 5), .ref (d + 6), .int (w 8), .ref (d + 7), .ref (d + 8), .ref (d + 9), .ref (d + 10), .ref (d + 11), .ref (d + 12), .ref (d + 13), .ref (d + 14), .ref (d + 15), .ref (d + 16), .ref (d + 17), .int (w 20), .ref (d + 18), .int (nI pn1), .ref (d + 19), .ref (d + 20), .ref (d + 21), .int (w 26), .int (w 27), .int (w 28), .ref (d + 22), .ref (d + 23), .ref (d + 24), .ref (d + 25), .ref (d + 26), .int (w 34), .ref (d + 27), .ref (d + 28), .int (w 37), .int (w 38)])) Hn := hRl.1
      refine g_get X kc_Model mo1 6 (by decide) lk_Model_22 rfl d_Model_prefixesOf_4 ?_
      refine lv_iload_n X.1.1 X.1.2.1 d_Model_prefixesOf_7 rfl (gl_at hl rfl) ?_
      have ma2 : va_at D CL (d + 5, .inl (q 0, 192, .inl (ar 5))) Hn := hRl.a5
      refine g_iald X 0 ma2 rfl g (by omega) (by omega) d_Model_prefixesOf_8 ?_
      refine g_top (nI ((kk g).length)) hg2 ?_
      refine gn_gt X.1.1 X.1.2.1 i ((kk g).length) (by omega) (by omega) d_Model_prefixesOf_9 rfl (fun hc9 => ?_) (fun hc9 => ?_)
      · exact g_vret X B ⟨pn1, pg1, pl1, F, G, ⟨rfl, by rw [show (kk g).length + 1 = i by omega]; exact hi2_3, hi2_2⟩, hRl, hzl, fun p hp => (frl p (by omega))⟩ hL d_Model_prefixesOf_116 (by omega) (by omega)
      · refine lv_iconst (v := nI 1) X.1.1 X.1.2.1 d_Model_prefixesOf_12 (by decide) ?_
        refine g_ist X.1.1 X.1.2.1 hl 4 d_Model_prefixesOf_13 (Nat.le_of_ble_eq_true rfl) rfl (fun ls hl => ?_)
        refine lv_iconst (v := nI 0) X.1.1 X.1.2.1 d_Model_prefixesOf_15 (by decide) ?_
        refine g_ist X.1.1 X.1.2.1 hl 5 d_Model_prefixesOf_16 (Nat.le_of_ble_eq_true rfl) rfl (fun ls hl => ?_)
        have loop18 : ∀ (fu : Nat) (p0 : Nat) (f0 : Nat) (locs : List Loc) (ls : Array Slot), pn1 - p0 < fu → (p0 ≤ pn1) → (f0 = 1 → ∀ x, x < p0 → d_pu kk pg1 pl1 x ≠ (kk g).take i) → (f0 = 0 → d_pe kk g pg1 pl1 pn1 i) → (f0 ≤ 1) → (∀ x ∈ locs, (fun p => d ≤ p ∧ p ≤ d + 28) x.base) → gl ls [some (.ref d), some (.int (nI v)), some (.int (nI g)), some (.int (nI i)), some (.int (nI f0)), some (.int (nI p0))] → W p l e (gR 2 49 0 0) s m ([.ref d, .int (nI v), .int (nI g)] : List Value).toArray below meth c Hn locs 0 0 (gQ below ([.ref d, .int (nI v), .int (nI g)] : List Value).toArray s (fun v1 H1 => ∃ (pn1 : Nat) (pg1 pl1 : Nat → Nat) (F G : Nat → Int32), (v1 = none ∧ d_px kk g pn pg pl ((kk g).length + 1) pn1 pg1 pl1 ∧ ∀ x, x < pn1 → F x = nI (pg1 x) ∧ G x = nI (pl1 x) ∧ pg1 x < 192 ∧ pl1 x ≤ (kk (pg1 x)).length) ∧ dR D q H1 d (upd w 22 (nI pn1)) (va_up (va_up ar 19 F) 20 G) ∧ H1.size = H.size ∧ ∀ p : Nat, (p < d ∨ d + 28 < p) → H1[p]? = H[p]?) 0 0 (fun p => d ≤ p ∧ p ≤ d + 28)) (F0 m 18 ls []) := by
          intro fu
          induction fu with
          | zero => intro p0 f0 locs ls hmu; omega
          | succ fu ih18 =>
            intro p0 f0 locs ls hmu18 hi18_0 hi18_1 hi18_2 hi18_3 hL hl
            refine lv_iload X.1.1 X.1.2.1 d_Model_prefixesOf_18 (gl_at hl rfl) ?_
            refine lv_aload_n X.1.1 X.1.2.1 d_Model_prefixesOf_20 rfl (gl_at hl rfl) ?_
            refine g_get X kc_Model mo1 22 (by decide) lk_Model_193 rfl d_Model_prefixesOf_21 ?_
            refine gn_ge X.1.1 X.1.2.1 p0 pn1 (by omega) (by omega) d_Model_prefixesOf_24 rfl (fun hc24 => ?_) (fun hc24 => ?_)
            · refine lv_iload X.1.1 X.1.2.1 d_Model_prefixesOf_72 (gl_at hl rfl) ?_
              refine gn_ne0 X.1.1 X.1.2.1 f0 (by omega) d_Model_prefixesOf_74 rfl (fun hc74 => ?_) (fun hc74 => ?_)
              · refine lv_aload_n X.1.1 X.1.2.1 d_Model_prefixesOf_80 rfl (gl_at hl rfl) ?_
                refine g_get X kc_Model mo1 23 (by decide) lk_Model_69 rfl d_Model_prefixesOf_81 ?_
                refine lv_aload_n X.1.1 X.1.2.1 d_Model_prefixesOf_84 rfl (gl_at hl rfl) ?_
                refine g_get X kc_Model mo1 22 (by decide) lk_Model_193 rfl d_Model_prefixesOf_85 ?_
                refine lv_iload_n X.1.1 X.1.2.1 d_Model_prefixesOf_88 rfl (gl_at hl rfl) ?_
                have ma3 : va_at D CL (d + 19, .inl (q 0, 580, .inl F)) Hn := hRl.a19
                refine g_iast (A := (fun p => d ≤ p ∧ p ≤ d + 28)) X 0 ma3 rfl pn1 (by omega) (by decide) d_Model_prefixesOf_89 ⟨by omega, by omega⟩ hL (fun H4 locs h5 z6 oq7 hL => ?_)
                have hR8 : dR D q H4 d (upd w 22 (nI pn1)) (va_up (va_up ar 19 (upd F pn1 (nI g))) 20 G) := hRl.putB 19 (by decide) h5 oq7 rfl (fun j hj => by simp only [va_up, if_neg hj])
                refine lv_aload_n X.1.1 X.1.2.1 d_Model_prefixesOf_90 rfl (gl_at hl rfl) ?_
                have mo9 : va_at D CL (d, .inr (10, [.int (w 0), .ref (d + 1), .int (w 2), .ref (d + 2), .ref (d + 3), .ref (d + 4), .ref (d + 5), .ref (d + 6), .int (w 8), .ref (d + 7), .ref (d + 8), .ref (d + 9), .ref (d + 10), .ref (d + 11), .ref (d + 12), .ref (d + 13), .ref (d + 14), .ref (d + 15), .ref (d + 16), .ref (d + 17), .int (w 20), .ref (d + 18), .int (nI pn1), .ref (d + 19), .ref (d + 20), .ref (d + 21), .int (w 26), .int (w 27), .int (w 28), .ref (d + 22), .ref (d + 23), .ref (d + 24), .ref (d + 25), .ref (d + 26), .int (w 34), .ref (d + 27), .ref (d + 28), .int (w 37), .int (w 38)])) H4 := hR8.1
                refine g_get X kc_Model mo9 24 (by decide) lk_Model_72 rfl d_Model_prefixesOf_91 ?_
                refine lv_aload_n X.1.1 X.1.2.1 d_Model_prefixesOf_94 rfl (gl_at hl rfl) ?_
                refine g_get X kc_Model mo9 22 (by decide) lk_Model_193 rfl d_Model_prefixesOf_95 ?_
                refine lv_iload_n X.1.1 X.1.2.1 d_Model_prefixesOf_98 rfl (gl_at hl rfl) ?_
                have ma10 : va_at D CL (d + 20, .inl (q 0, 580, .inl G)) H4 := hR8.a20
                refine g_iast (A := (fun p => d ≤ p ∧ p ≤ d + 28)) X 0 ma10 rfl pn1 (by omega) (by decide) d_Model_prefixesOf_99 ⟨by omega, by omega⟩ hL (fun H11 locs h12 z13 oq14 hL => ?_)
                have hR15 : dR D q H11 d (upd w 22 (nI pn1)) (va_up (va_up ar 19 (upd F pn1 (nI g))) 20 (upd G pn1 (nI i))) := hR8.putB 20 (by decide) h12 oq14 rfl (fun j hj => by simp only [va_up, if_neg hj])
                refine lv_aload_n X.1.1 X.1.2.1 d_Model_prefixesOf_100 rfl (gl_at hl rfl) ?_
                refine lv_dup X.1.1 X.1.2.1 d_Model_prefixesOf_101 rfl ?_
                have mo16 : va_at D CL (d, .inr (10, [.int (w 0), .ref (d + 1), .int (w 2), .ref (d + 2), .ref (d + 3), .ref (d + 4), .ref (d + 5), .ref (d + 6), .int (w 8), .ref (d + 7), .ref (d + 8), .ref (d + 9), .ref (d + 10), .ref (d + 11), .ref (d + 12), .ref (d + 13), .ref (d + 14), .ref (d + 15), .ref (d + 16), .ref (d + 17), .int (w 20), .ref (d + 18), .int (nI pn1), .ref (d + 19), .ref (d + 20), .ref (d + 21), .int (w 26), .int (w 27), .int (w 28), .ref (d + 22), .ref (d + 23), .ref (d + 24), .ref (d + 25), .ref (d + 26), .int (w 34), .ref (d + 27), .ref (d + 28), .int (w 37), .int (w 38)])) H11 := hR15.1
                refine g_get X kc_Model mo16 22 (by decide) lk_Model_193 rfl d_Model_prefixesOf_102 ?_
                refine lv_iconst (v := nI 1) X.1.1 X.1.2.1 d_Model_prefixesOf_105 (by decide) ?_
                refine lv_iadd X.1.1 X.1.2.1 d_Model_prefixesOf_106 ?_
                refine g_top (nI (pn1 + 1)) (nI_add _ _) ?_
                refine g_put (A := (fun p => d ≤ p ∧ p ≤ d + 28)) X kc_Model mo16 22 (by decide) lk_Model_193 rfl rfl rfl (Nat.le_of_ble_eq_true rfl) d_Model_prefixesOf_107 ⟨by omega, by omega⟩ hL (fun H17 locs h18 z19 oq20 hL => ?_)
                have hR21 : dR D q H17 d (upd w 22 (nI (pn1 + 1))) (va_up (va_up ar 19 (upd F pn1 (nI g))) 20 (upd G pn1 (nI i))) := hR15.putO h18 oq20
                refine g_iinc X.1.1 X.1.2.1 (nI (i + 1)) hl 3 d_Model_prefixesOf_110 rfl (nI_1 _) rfl (fun ls hl => ?_)
                refine lv_goto X.1.1 X.1.2.1 d_Model_prefixesOf_113 rfl ?_
                exact ih2 (i + 1) (va_up pg1 pn1 g) (va_up pl1 pn1 i) (upd F pn1 (nI g)) (upd G pn1 (nI i)) (pn1 + 1) H17 locs ls (by omega) (by omega) (by omega) (pQ.add (w := w) (ar := va_up (va_up ar 19 F) 20 G) (pg := pg1) (pl := pl1) hi2_2 hg (by omega)) (d_px_add hi2_3 (fun x hx => hi18_1 (by omega) x (by omega))) hR21 (z19.trans (z13.trans (z6.trans hzl))) (fun p hp => ((oq20 p (by omega)).trans ((oq14 p (by omega)).trans ((oq7 p (by omega)).trans (frl p (by omega)))))) hL (gl_forget (gl_forget hl 4) 5)
              · refine lv_goto X.1.1 X.1.2.1 d_Model_prefixesOf_77 rfl ?_
                refine g_iinc X.1.1 X.1.2.1 (nI (i + 1)) hl 3 d_Model_prefixesOf_110 rfl (nI_1 _) rfl (fun ls hl => ?_)
                refine lv_goto X.1.1 X.1.2.1 d_Model_prefixesOf_113 rfl ?_
                exact ih2 (i + 1) pg1 pl1 F G pn1 Hn locs ls (by omega) (by omega) (by omega) hi2_2 (d_px_skip hi2_3 (hi18_2 (by omega))) hRl hzl (fun p hp => (frl p (by omega))) hL (gl_forget (gl_forget hl 4) 5)
            · refine lv_iload X.1.1 X.1.2.1 d_Model_prefixesOf_27 (gl_at hl rfl) ?_
              refine gn_eq0 X.1.1 X.1.2.1 f0 (by omega) d_Model_prefixesOf_29 rfl (fun hc29 => ?_) (fun hc29 => ?_)
              · refine lv_iload X.1.1 X.1.2.1 d_Model_prefixesOf_72 (gl_at hl rfl) ?_
                refine gn_ne0 X.1.1 X.1.2.1 f0 (by omega) d_Model_prefixesOf_74 rfl (fun hc74 => ?_) (fun hc74 => ?_)
                · refine lv_aload_n X.1.1 X.1.2.1 d_Model_prefixesOf_80 rfl (gl_at hl rfl) ?_
                  refine g_get X kc_Model mo1 23 (by decide) lk_Model_69 rfl d_Model_prefixesOf_81 ?_
                  refine lv_aload_n X.1.1 X.1.2.1 d_Model_prefixesOf_84 rfl (gl_at hl rfl) ?_
                  refine g_get X kc_Model mo1 22 (by decide) lk_Model_193 rfl d_Model_prefixesOf_85 ?_
                  refine lv_iload_n X.1.1 X.1.2.1 d_Model_prefixesOf_88 rfl (gl_at hl rfl) ?_
                  have ma22 : va_at D CL (d + 19, .inl (q 0, 580, .inl F)) Hn := hRl.a19
                  refine g_iast (A := (fun p => d ≤ p ∧ p ≤ d + 28)) X 0 ma22 rfl pn1 (by omega) (by decide) d_Model_prefixesOf_89 ⟨by omega, by omega⟩ hL (fun H23 locs h24 z25 oq26 hL => ?_)
                  have hR27 : dR D q H23 d (upd w 22 (nI pn1)) (va_up (va_up ar 19 (upd F pn1 (nI g))) 20 G) := hRl.putB 19 (by decide) h24 oq26 rfl (fun j hj => by simp only [va_up, if_neg hj])
                  refine lv_aload_n X.1.1 X.1.2.1 d_Model_prefixesOf_90 rfl (gl_at hl rfl) ?_
                  have mo28 : va_at D CL (d, .inr (10, [.int (w 0), .ref (d + 1), .int (w 2), .ref (d + 2), .ref (d + 3), .ref (d + 4), .ref (d + 5), .ref (d + 6), .int (w 8), .ref (d + 7), .ref (d + 8), .ref (d + 9), .ref (d + 10), .ref (d + 11), .ref (d + 12), .ref (d + 13), .ref (d + 14), .ref (d + 15), .ref (d + 16), .ref (d + 17), .int (w 20), .ref (d + 18), .int (nI pn1), .ref (d + 19), .ref (d + 20), .ref (d + 21), .int (w 26), .int (w 27), .int (w 28), .ref (d + 22), .ref (d + 23), .ref (d + 24), .ref (d + 25), .ref (d + 26), .int (w 34), .ref (d + 27), .ref (d + 28), .int (w 37), .int (w 38)])) H23 := hR27.1
                  refine g_get X kc_Model mo28 24 (by decide) lk_Model_72 rfl d_Model_prefixesOf_91 ?_
                  refine lv_aload_n X.1.1 X.1.2.1 d_Model_prefixesOf_94 rfl (gl_at hl rfl) ?_
                  refine g_get X kc_Model mo28 22 (by decide) lk_Model_193 rfl d_Model_prefixesOf_95 ?_
                  refine lv_iload_n X.1.1 X.1.2.1 d_Model_prefixesOf_98 rfl (gl_at hl rfl) ?_
                  have ma29 : va_at D CL (d + 20, .inl (q 0, 580, .inl G)) H23 := hR27.a20
                  refine g_iast (A := (fun p => d ≤ p ∧ p ≤ d + 28)) X 0 ma29 rfl pn1 (by omega) (by decide) d_Model_prefixesOf_99 ⟨by omega, by omega⟩ hL (fun H30 locs h31 z32 oq33 hL => ?_)
                  have hR34 : dR D q H30 d (upd w 22 (nI pn1)) (va_up (va_up ar 19 (upd F pn1 (nI g))) 20 (upd G pn1 (nI i))) := hR27.putB 20 (by decide) h31 oq33 rfl (fun j hj => by simp only [va_up, if_neg hj])
                  refine lv_aload_n X.1.1 X.1.2.1 d_Model_prefixesOf_100 rfl (gl_at hl rfl) ?_
                  refine lv_dup X.1.1 X.1.2.1 d_Model_prefixesOf_101 rfl ?_
                  have mo35 : va_at D CL (d, .inr (10, [.int (w 0), .ref (d + 1), .int (w 2), .ref (d + 2), .ref (d + 3), .ref (d + 4), .ref (d + 5), .ref (d + 6), .int (w 8), .ref (d + 7), .ref (d + 8), .ref (d + 9), .ref (d + 10), .ref (d + 11), .ref (d + 12), .ref (d + 13), .ref (d + 14), .ref (d + 15), .ref (d + 16), .ref (d + 17), .int (w 20), .ref (d + 18), .int (nI pn1), .ref (d + 19), .ref (d + 20), .ref (d + 21), .int (w 26), .int (w 27), .int (w 28), .ref (d + 22), .ref (d + 23), .ref (d + 24), .ref (d + 25), .ref (d + 26), .int (w 34), .ref (d + 27), .ref (d + 28), .int (w 37), .int (w 38)])) H30 := hR34.1
                  refine g_get X kc_Model mo35 22 (by decide) lk_Model_193 rfl d_Model_prefixesOf_102 ?_
                  refine lv_iconst (v := nI 1) X.1.1 X.1.2.1 d_Model_prefixesOf_105 (by decide) ?_
                  refine lv_iadd X.1.1 X.1.2.1 d_Model_prefixesOf_106 ?_
                  refine g_top (nI (pn1 + 1)) (nI_add _ _) ?_
                  refine g_put (A := (fun p => d ≤ p ∧ p ≤ d + 28)) X kc_Model mo35 22 (by decide) lk_Model_193 rfl rfl rfl (Nat.le_of_ble_eq_true rfl) d_Model_prefixesOf_107 ⟨by omega, by omega⟩ hL (fun H36 locs h37 z38 oq39 hL => ?_)
                  have hR40 : dR D q H36 d (upd w 22 (nI (pn1 + 1))) (va_up (va_up ar 19 (upd F pn1 (nI g))) 20 (upd G pn1 (nI i))) := hR34.putO h37 oq39
                  refine g_iinc X.1.1 X.1.2.1 (nI (i + 1)) hl 3 d_Model_prefixesOf_110 rfl (nI_1 _) rfl (fun ls hl => ?_)
                  refine lv_goto X.1.1 X.1.2.1 d_Model_prefixesOf_113 rfl ?_
                  exact ih2 (i + 1) (va_up pg1 pn1 g) (va_up pl1 pn1 i) (upd F pn1 (nI g)) (upd G pn1 (nI i)) (pn1 + 1) H36 locs ls (by omega) (by omega) (by omega) (pQ.add (w := w) (ar := va_up (va_up ar 19 F) 20 G) (pg := pg1) (pl := pl1) hi2_2 hg (by omega)) (d_px_add hi2_3 (fun x hx => hi18_1 (by omega) x (by omega))) hR40 (z38.trans (z32.trans (z25.trans hzl))) (fun p hp => ((oq39 p (by omega)).trans ((oq33 p (by omega)).trans ((oq26 p (by omega)).trans (frl p (by omega)))))) hL (gl_forget (gl_forget hl 4) 5)
                · refine lv_goto X.1.1 X.1.2.1 d_Model_prefixesOf_77 rfl ?_
                  refine g_iinc X.1.1 X.1.2.1 (nI (i + 1)) hl 3 d_Model_prefixesOf_110 rfl (nI_1 _) rfl (fun ls hl => ?_)
                  refine lv_goto X.1.1 X.1.2.1 d_Model_prefixesOf_113 rfl ?_
                  exact ih2 (i + 1) pg1 pl1 F G pn1 Hn locs ls (by omega) (by omega) (by omega) hi2_2 (d_px_skip hi2_3 (hi18_2 (by omega))) hRl hzl (fun p hp => (frl p (by omega))) hL (gl_forget (gl_forget hl 4) 5)
              · obtain ⟨hz1, hz2, hz3, hz4⟩ := hi2_2 p0 (by omega)
                have kz8 := (hk (pg1 p0) hz3).2.2.1
                refine lv_aload_n X.1.1 X.1.2.1 d_Model_prefixesOf_32 rfl (gl_at hl rfl) ?_
                refine g_get X kc_Model mo1 24 (by decide) lk_Model_72 rfl d_Model_prefixesOf_33 ?_
                refine lv_iload X.1.1 X.1.2.1 d_Model_prefixesOf_36 (gl_at hl rfl) ?_
                have ma41 : va_at D CL (d + 20, .inl (q 0, 580, .inl G)) Hn := hRl.a20
                refine g_iald X 0 ma41 rfl p0 (by omega) (by omega) d_Model_prefixesOf_38 ?_
                refine g_top (nI (pl1 p0)) (hi2_2 p0 (by omega)).2.1 ?_
                refine lv_iload_n X.1.1 X.1.2.1 d_Model_prefixesOf_39 rfl (gl_at hl rfl) ?_
                refine gn_ne X.1.1 X.1.2.1 (pl1 p0) i (by omega) (by omega) d_Model_prefixesOf_40 rfl (fun hc40 => ?_) (fun hc40 => ?_)
                · refine lv_iconst (v := nI 1) X.1.1 X.1.2.1 d_Model_prefixesOf_59 (by decide) ?_
                  refine lv_goto X.1.1 X.1.2.1 d_Model_prefixesOf_60 rfl ?_
                  refine g_ist X.1.1 X.1.2.1 hl 4 d_Model_prefixesOf_64 (Nat.le_of_ble_eq_true rfl) rfl (fun ls hl => ?_)
                  refine g_iinc X.1.1 X.1.2.1 (nI (p0 + 1)) hl 5 d_Model_prefixesOf_66 rfl (nI_1 _) rfl (fun ls hl => ?_)
                  refine lv_goto X.1.1 X.1.2.1 d_Model_prefixesOf_69 rfl ?_
                  exact ih18 (p0 + 1) 1 locs ls (by omega) (by omega) (fun _ => by
                    have hf1 : f0 = 1 := by
                      clear hi18_1 hi18_2
                      omega
                    refine lt_s (hi18_1 hf1) (fun h9 => ?_)
                    clear hi18_1 hi18_2
                    replace h9 : (kk (pg1 p0)).take (pl1 p0) = (kk g).take i := h9
                    first
                    | (rw [hc40] at h9
                       exact hc56 h9)
                    | (have h8 := congrArg List.length h9
                       rw [List.length_take, List.length_take] at h8
                       omega)) (fun h9 => absurd h9 (by decide)) (by omega) hL hl
                · refine lv_aload_n X.1.1 X.1.2.1 d_Model_prefixesOf_43 rfl (gl_at hl rfl) ?_
                  refine lv_aload_n X.1.1 X.1.2.1 d_Model_prefixesOf_44 rfl (gl_at hl rfl) ?_
                  refine g_get X kc_Model mo1 23 (by decide) lk_Model_69 rfl d_Model_prefixesOf_45 ?_
                  refine lv_iload X.1.1 X.1.2.1 d_Model_prefixesOf_48 (gl_at hl rfl) ?_
                  have ma42 : va_at D CL (d + 19, .inl (q 0, 580, .inl F)) Hn := hRl.a19
                  refine g_iald X 0 ma42 rfl p0 (by omega) (by omega) d_Model_prefixesOf_50 ?_
                  refine g_top (nI (pg1 p0)) (hi2_2 p0 (by omega)).1 ?_
                  refine lv_iload_n X.1.1 X.1.2.1 d_Model_prefixesOf_51 rfl (gl_at hl rfl) ?_
                  refine lv_iload_n X.1.1 X.1.2.1 d_Model_prefixesOf_52 rfl (gl_at hl rfl) ?_
                  refine g_cv (A := (fun p => d ≤ p ∧ p ≤ d + 28)) X gWS_good mw_Model_211 kc_Model mo1 (c_Model_samePrefix l D q Hn d (upd w 22 (nI pn1)) (va_up (va_up ar 19 F) 20 G) hRl kk hk (pg1 p0) g i (by omega) (by omega) (by omega) (by omega)) (fun _ _ _ => trivial) gBlind.tt rfl rfl hl.1 (Nat.le_of_ble_eq_true rfl) rfl rfl ⟨by decide, by decide⟩ ⟨by decide, by decide⟩ d_Model_prefixesOf_53 (fun _ h => h.elim) hL (fun v43 H44 locs hp45 hL => ?_)
                  obtain ⟨rfl, hHe⟩ := hp45
                  rw [hHe]
                  refine lv_if_ne X.1.1 X.1.2.1 d_Model_prefixesOf_56 rfl (fun hc56 => ?_) (fun hc56 => ?_)
                  · replace hc56 := gz_t hc56
                    refine lv_iconst (v := nI 0) X.1.1 X.1.2.1 d_Model_prefixesOf_63 (by decide) ?_
                    refine g_ist X.1.1 X.1.2.1 hl 4 d_Model_prefixesOf_64 (Nat.le_of_ble_eq_true rfl) rfl (fun ls hl => ?_)
                    refine g_iinc X.1.1 X.1.2.1 (nI (p0 + 1)) hl 5 d_Model_prefixesOf_66 rfl (nI_1 _) rfl (fun ls hl => ?_)
                    refine lv_goto X.1.1 X.1.2.1 d_Model_prefixesOf_69 rfl ?_
                    exact ih18 (p0 + 1) 0 locs ls (by omega) (by omega) (fun h9 => absurd h9 (by decide)) (fun _ => show ∃ x, x < pn1 ∧ d_pu kk pg1 pl1 x = (kk g).take i from ⟨p0, by omega, by show (kk (pg1 p0)).take (pl1 p0) = _; rw [hc40]; exact hc56⟩) (by omega) hL hl
                  · replace hc56 := gz_f hc56
                    refine lv_iconst (v := nI 1) X.1.1 X.1.2.1 d_Model_prefixesOf_59 (by decide) ?_
                    refine lv_goto X.1.1 X.1.2.1 d_Model_prefixesOf_60 rfl ?_
                    refine g_ist X.1.1 X.1.2.1 hl 4 d_Model_prefixesOf_64 (Nat.le_of_ble_eq_true rfl) rfl (fun ls hl => ?_)
                    refine g_iinc X.1.1 X.1.2.1 (nI (p0 + 1)) hl 5 d_Model_prefixesOf_66 rfl (nI_1 _) rfl (fun ls hl => ?_)
                    refine lv_goto X.1.1 X.1.2.1 d_Model_prefixesOf_69 rfl ?_
                    exact ih18 (p0 + 1) 1 locs ls (by omega) (by omega) (fun _ => by
                      have hf1 : f0 = 1 := by
                        clear hi18_1 hi18_2
                        omega
                      refine lt_s (hi18_1 hf1) (fun h9 => ?_)
                      clear hi18_1 hi18_2
                      replace h9 : (kk (pg1 p0)).take (pl1 p0) = (kk g).take i := h9
                      first
                      | (rw [hc40] at h9
                         exact hc56 h9)
                      | (have h8 := congrArg List.length h9
                         rw [List.length_take, List.length_take] at h8
                         omega)) (fun h9 => absurd h9 (by decide)) (by omega) hL hl
        exact loop18 _ 0 1 locs ls (Nat.lt_succ_self _) (Nat.zero_le _) (fun _ x hx => absurd hx (Nat.not_lt_zero x)) (fun h9 => absurd h9 (by decide)) (by omega) hL hl
  exact loop2 _ 0 pg pl (ar 19) (ar 20) pn H [] ls (Nat.lt_succ_self _) (Nat.zero_le _) (by omega) hq.2.2 ⟨Nat.le_refl _, Nat.le_refl _, fun _ _ => ⟨rfl, rfl⟩, fun x h1 h2 => by omega, fun t h1 => absurd h1 (Nat.not_lt_zero t), fun x y h1 h2 h3 => by omega⟩ (hR.as (fun j => by first | rfl | (simp only [upd]; (repeat' split) <;> first | rfl | omega | (subst_vars; rfl) | (subst_vars; exact hq.1.symm))) (fun j => by first | rfl | (simp only [va_up]; (repeat' split) <;> first | rfl | omega | (subst_vars; rfl)))) rfl (fun p hp => rfl) (fun _ h => by cases h) hl
