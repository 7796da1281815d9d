/-! the class KeyHallModel, 2: printed by wip/specs/m2.py -/
set_option maxHeartbeats 4000000 in
set_option maxRecDepth 100000 in
/-- thrown -/
theorem c_Model_thrown (l : Launch) (D : va_G) (q : Nat → ClassId) (H : Heap) (d : Nat) (w : Nat → Int32) (ar : Nat → Nat → Int32) (hR : dR D q H d w ar) : gC l y_Model_thrown (Cond.code y_Model_thrown b_Model_thrown 1 (some .int) :: gWS) (gR 0 0 0 0) D CL (gY q) (fun _ => True) [.ref d] H (fun v1 H1 => v1 = some (.int (w 0)) ∧ H1 = H) 0 0 (fun _ => False) := by
  refine gC.ofW R_Model "thrown" (by decide) rfl rfl ?_
  intro p e s m below meth c hadm X hE hH B hne
  refine g_entry [some (.ref d)] rfl rfl (Nat.le_of_ble_eq_true rfl) (fun ls hl => ?_)
  refine lv_aload_n X.1.1 X.1.2.1 d_Model_thrown_0 rfl (gl_at hl rfl) ?_
  have mo1 : va_at D CL (d, .inr (10, [.int (w 0), .ref (d + 1), .int (w 2), .ref (d + 2), .ref (d + 3), .ref (d + 4), .ref (d + 5), .ref (d + 6), .int (w 8), .ref (d + 7), .ref (d + 8), .ref (d + 9), .ref (d + 10), .ref (d + 11), .ref (d + 12), .ref (d + 13), .ref (d + 14), .ref (d + 15), .ref (d + 16), .ref (d + 17), .int (w 20), .ref (d + 18), .int (w 22), .ref (d + 19), .ref (d + 20), .ref (d + 21), .int (w 26), .int (w 27), .int (w 28), .ref (d + 22), .ref (d + 23), .ref (d + 24), .ref (d + 25), .ref (d + 26), .int (w 34), .ref (d + 27), .ref (d + 28), .int (w 37), .int (w 38)])) H := hR.1
  refine g_get X kc_Model mo1 0 (by decide) lk_Model_99 rfl d_Model_thrown_1 ?_
  exact g_iret X B ⟨rfl, rfl⟩ (fun _ h => by cases h) d_Model_thrown_4 (by omega) (by omega)

set_option maxHeartbeats 4000000 in
set_option maxRecDepth 100000 in
/-- raise -/
theorem c_Model_raise (l : Launch) (D : va_G) (q : Nat → ClassId) (H : Heap) (d : Nat) (w : Nat → Int32) (ar : Nat → Nat → Int32) (hR : dR D q H d w ar) (x : Int32) : gC l y_Model_raise (Cond.code y_Model_raise b_Model_raise 2 (some .int) :: gWS) (gR 0 0 0 0) D CL (gY q) (fun _ => True) [.ref d, .int x] H (fun v1 H1 => v1 = some (.int 0) ∧ dR D q H1 d (upd w 0 x) ar ∧ H1.size = H.size ∧ ∀ p : Nat, (p < d ∨ d + 28 < p) → H1[p]? = H[p]?) 0 0 (fun p => d ≤ p ∧ p ≤ d + 28) := by
  refine gC.ofW R_Model "raise" (by decide) rfl rfl ?_
  intro p e s m below meth c hadm X hE hH B hne
  refine g_entry [some (.ref d), some (.int x)] rfl rfl (Nat.le_of_ble_eq_true rfl) (fun ls hl => ?_)
  refine lv_aload_n X.1.1 X.1.2.1 d_Model_raise_0 rfl (gl_at hl rfl) ?_
  refine lv_iload_n X.1.1 X.1.2.1 d_Model_raise_1 rfl (gl_at hl rfl) ?_
  have mo1 : va_at D CL (d, .inr (10, [.int (w 0), .ref (d + 1), .int (w 2), .ref (d + 2), .ref (d + 3), .ref (d + 4), .ref (d + 5), .ref (d + 6), .int (w 8), .ref (d + 7), .ref (d + 8), .ref (d + 9), .ref (d + 10), .ref (d + 11), .ref (d + 12), .ref (d + 13), .ref (d + 14), .ref (d + 15), .ref (d + 16), .ref (d + 17), .int (w 20), .ref (d + 18), .int (w 22), .ref (d + 19), .ref (d + 20), .ref (d + 21), .int (w 26), .int (w 27), .int (w 28), .ref (d + 22), .ref (d + 23), .ref (d + 24), .ref (d + 25), .ref (d + 26), .int (w 34), .ref (d + 27), .ref (d + 28), .int (w 37), .int (w 38)])) H := hR.1
  refine g_put (A := (fun p => d ≤ p ∧ p ≤ d + 28)) X kc_Model mo1 0 (by decide) lk_Model_99 rfl rfl rfl (Nat.le_of_ble_eq_true rfl) d_Model_raise_2 ⟨by omega, by omega⟩ (fun _ h => by cases h) (fun H2 locs h3 z4 oq5 hL => ?_)
  have hR6 : dR D q H2 d (upd w 0 x) ar := hR.putO h3 oq5
  refine lv_iconst (v := nI 0) X.1.1 X.1.2.1 d_Model_raise_5 (by decide) ?_
  exact g_iret X B ⟨rfl, hR6, z4, fun p hp => (oq5 p (by omega))⟩ hL d_Model_raise_6 (by omega) (by omega)

set_option maxHeartbeats 4000000 in
set_option maxRecDepth 100000 in
/-- stale -/
theorem c_Model_stale (l : Launch) (D : va_G) (q : Nat → ClassId) (H : Heap) (d : Nat) (w : Nat → Int32) (ar : Nat → Nat → Int32) (hR : dR D q H d w ar) (c0 : Nat) (org : Nat → Option Nat) (srt : Nat → Nat) (bt : Nat → List Nat) (tn mp : Nat → Nat) (hv : pV w ar c0 org srt bt) (hN : pN c0 org srt tn mp) (v : Nat) (hvc : v < c0) : gC l y_Model_stale (Cond.code y_Model_stale b_Model_stale 2 (some .boolean) :: gWS) (gR 1 22 0 0) D CL (gY q) (fun _ => True) [.ref d, .int (nI v)] H (fun v1 H1 => v1 = some (.int (nI (if ar 11 v = 0 ∨ ar 14 v ≠ ar 3 (mp v) then 1 else 0))) ∧ H1 = H) 0 0 (fun _ => False) := by
  refine gC.ofW R_Model "stale" (by decide) rfl rfl ?_
  intro p e s m below meth c hadm X hE hH B hne
  refine g_entry [some (.ref d), some (.int (nI v))] rfl rfl (Nat.le_of_ble_eq_true rfl) (fun ls hl => ?_)
  have h12 := hv.2.2.1
  have hmp := (hN v hvc).1
  refine lv_aload_n X.1.1 X.1.2.1 d_Model_stale_0 rfl (gl_at hl rfl) ?_
  have mo1 : va_at D CL (d, .inr (10, [.int (w 0), .ref (d + 1), .int (w 2), .ref (d + 2), .ref (d + 3), .ref (d + 4), .ref (d + 5), .ref (d + 6), .int (w 8), .ref (d + 7), .ref (d + 8), .ref (d + 9), .ref (d + 10), .ref (d + 11), .ref (d + 12), .ref (d + 13), .ref (d + 14), .ref (d + 15), .ref (d + 16), .ref (d + 17), .int (w 20), .ref (d + 18), .int (w 22), .ref (d + 19), .ref (d + 20), .ref (d + 21), .int (w 26), .int (w 27), .int (w 28), .ref (d + 22), .ref (d + 23), .ref (d + 24), .ref (d + 25), .ref (d + 26), .int (w 34), .ref (d + 27), .ref (d + 28), .int (w 37), .int (w 38)])) H := hR.1
  refine g_get X kc_Model mo1 13 (by decide) lk_Model_44 rfl d_Model_stale_1 ?_
  refine lv_iload_n X.1.1 X.1.2.1 d_Model_stale_4 rfl (gl_at hl rfl) ?_
  have ma2 : va_at D CL (d + 11, .inl (q 1, 12, .inl (ar 11))) H := hR.a11
  refine g_zald X 1 ma2 rfl v (by omega) (by omega) d_Model_stale_5 ?_
  refine lv_if_eq X.1.1 X.1.2.1 d_Model_stale_6 rfl (fun hc6 => ?_) (fun hc6 => ?_)
  · refine lv_iconst (v := nI 1) X.1.1 X.1.2.1 d_Model_stale_28 (by decide) ?_
    refine lv_goto X.1.1 X.1.2.1 d_Model_stale_29 rfl ?_
    exact g_zret X B (by decide) ⟨by rw [if_pos (by first | exact Or.inl hc6 | exact Or.inr hc25)], rfl⟩ (fun _ h => by cases h) d_Model_stale_33 (by omega) (by omega)
  · refine lv_aload_n X.1.1 X.1.2.1 d_Model_stale_9 rfl (gl_at hl rfl) ?_
    refine g_get X kc_Model mo1 16 (by decide) lk_Model_54 rfl d_Model_stale_10 ?_
    refine lv_iload_n X.1.1 X.1.2.1 d_Model_stale_13 rfl (gl_at hl rfl) ?_
    have ma3 : va_at D CL (d + 14, .inl (q 0, 12, .inl (ar 14))) H := hR.a14
    refine g_iald X 0 ma3 rfl v (by omega) (by omega) d_Model_stale_14 ?_
    refine lv_aload_n X.1.1 X.1.2.1 d_Model_stale_15 rfl (gl_at hl rfl) ?_
    refine g_get X kc_Model mo1 4 (by decide) lk_Model_16 rfl d_Model_stale_16 ?_
    refine lv_aload_n X.1.1 X.1.2.1 d_Model_stale_19 rfl (gl_at hl rfl) ?_
    refine lv_iload_n X.1.1 X.1.2.1 d_Model_stale_20 rfl (gl_at hl rfl) ?_
    refine g_cv (A := (fun _ => False)) X gWS_good mw_Model_114 kc_Model mo1 (c_Model_mapOf l D q H d w ar hR c0 org srt bt tn mp hv hN v hvc) (fun _ _ _ => trivial) gBlind.tt rfl rfl hl.1 (Nat.le_of_ble_eq_true rfl) rfl rfl ⟨by decide, by decide⟩ ⟨by decide, by decide⟩ d_Model_stale_21 (fun _ h => h.elim) (fun _ h => by cases h) (fun v4 H5 locs hp6 hL => ?_)
    obtain ⟨rfl, hHe⟩ := hp6
    rw [hHe]
    have ma7 : va_at D CL (d + 3, .inl (q 0, 3, .inl (ar 3))) H := hR.a3
    refine g_iald X 0 ma7 rfl (mp v) (by omega) (by omega) d_Model_stale_24 ?_
    refine lv_icmp_eq X.1.1 X.1.2.1 d_Model_stale_25 rfl (fun hc25 => ?_) (fun hc25 => ?_)
    · refine lv_iconst (v := nI 0) X.1.1 X.1.2.1 d_Model_stale_32 (by decide) ?_
      exact g_zret X B (by decide) ⟨by rw [if_neg (fun h9 => h9.elim hc6 (fun h8 => h8 hc25))], rfl⟩ hL d_Model_stale_33 (by omega) (by omega)
    · refine lv_iconst (v := nI 1) X.1.1 X.1.2.1 d_Model_stale_28 (by decide) ?_
      refine lv_goto X.1.1 X.1.2.1 d_Model_stale_29 rfl ?_
      exact g_zret X B (by decide) ⟨by rw [if_pos (by first | exact Or.inl hc6 | exact Or.inr hc25)], rfl⟩ hL d_Model_stale_33 (by omega) (by omega)

theorem d_s_refl (tn : Nat) (xs : List Nat) : d_s tn xs xs = 0 := by
  unfold d_s
  rw [t_ord_refl]
  split <;> rfl
theorem d_s_anti (tn : Nat) (xs ys : List Nat) : d_s tn ys xs = - d_s tn xs ys := by
  unfold d_s
  rw [t_ord_anti xs ys]
  split <;> rfl
theorem d_s_eq {tn : Nat} {xs ys : List Nat} (h : d_s tn xs ys = 0) : xs = ys := by
  unfold d_s at h
  refine t_ord_eq xs ys ?_
  split at h <;> omega
theorem d_s_trans {tn : Nat} {xs ys zs : List Nat} (h1 : d_s tn xs ys < 0) (h2 : d_s tn ys zs < 0) : d_s tn xs zs < 0 := by
  unfold d_s at h1 h2 ⊢
  by_cases h : tn ≠ 0
  · rw [if_pos h] at h1 h2 ⊢
    have a1 := t_ord_anti xs ys
    have a2 := t_ord_anti ys zs
    have a3 := t_ord_anti xs zs
    have a4 := t_ord_trans zs ys xs (by omega) (by omega)
    omega
  · rw [if_neg h] at h1 h2 ⊢
    exact t_ord_trans xs ys zs h1 h2
theorem d_s_trans1 {tn : Nat} {xs ys zs : List Nat} (h1 : d_s tn xs ys < 0) (h2 : d_s tn ys zs ≤ 0) : d_s tn xs zs < 0 := by
  by_cases h : d_s tn ys zs = 0
  · rw [← d_s_eq h]
    exact h1
  · exact d_s_trans h1 (by omega)
/-- on which side of a text keys are sought -/
def d_cd (tn bh sm : Nat) (oy : Option (List Nat)) (xs : List Nat) : Prop := match oy with
  | none => True
  | some ys => (d_s tn xs ys = 0 ∧ sm ≠ 0) ∨ (0 < d_s tn xs ys ∧ bh ≠ 0) ∨ (d_s tn xs ys < 0 ∧ bh = 0)
/-- the first (or last) of those among n keys that are good -/
def d_nr (ok : List Nat → Prop) (tn bh : Nat) (kk : Nat → List Nat) (lo n : Nat) : Option Nat → Prop
  | none => ∀ j, j < n → ¬ ok (kk (lo + j))
  | some r => (∃ j, j < n ∧ r = lo + j) ∧ ok (kk r) ∧ ∀ j, j < n → ok (kk (lo + j)) → (bh ≠ 0 → d_s tn (kk r) (kk (lo + j)) ≤ 0) ∧ (bh = 0 → 0 ≤ d_s tn (kk r) (kk (lo + j)))
theorem d_nr_skip {ok : List Nat → Prop} {tn bh : Nat} {kk : Nat → List Nat} {lo n : Nat} {o : Option Nat} (h : d_nr ok tn bh kk lo n o) (hn : ¬ ok (kk (lo + n))) : d_nr ok tn bh kk lo (n + 1) o := by
  cases o with
  | none => exact lt_s h hn
  | some r =>
    obtain ⟨⟨j, h1, h2⟩, h3, h4⟩ := h
    exact ⟨⟨j, by omega, h2⟩, h3, lt_s h4 (fun h9 => absurd h9 hn)⟩
theorem d_nr_first {ok : List Nat → Prop} {tn bh : Nat} {kk : Nat → List Nat} {lo n : Nat} (h : d_nr ok tn bh kk lo n none) (hn : ok (kk (lo + n))) : d_nr ok tn bh kk lo (n + 1) (some (lo + n)) :=
  ⟨⟨n, by omega, rfl⟩, hn, lt_s (fun j hj h9 => absurd h9 (h j hj)) (fun _ => by rw [d_s_refl]; exact ⟨fun _ => Int.le_refl _, fun _ => Int.le_refl _⟩)⟩
theorem d_nr_keep {ok : List Nat → Prop} {tn bh : Nat} {kk : Nat → List Nat} {lo n r : Nat} (h : d_nr ok tn bh kk lo n (some r)) (h1 : bh ≠ 0 → 0 ≤ d_s tn (kk (lo + n)) (kk r)) (h2 : bh = 0 → d_s tn (kk (lo + n)) (kk r) ≤ 0) : d_nr ok tn bh kk lo (n + 1) (some r) := by
  obtain ⟨⟨j, a1, a2⟩, a3, a4⟩ := h
  refine ⟨⟨j, by omega, a2⟩, a3, lt_s a4 (fun _ => ?_)⟩
  rw [d_s_anti]
  exact ⟨fun h9 => by have := h1 h9; omega, fun h9 => by have := h2 h9; omega⟩
theorem d_nr_take {ok : List Nat → Prop} {tn bh : Nat} {kk : Nat → List Nat} {lo n r : Nat} (h : d_nr ok tn bh kk lo n (some r)) (hn : ok (kk (lo + n))) (h1 : bh ≠ 0 → d_s tn (kk (lo + n)) (kk r) < 0) (h2 : bh = 0 → 0 < d_s tn (kk (lo + n)) (kk r)) : d_nr ok tn bh kk lo (n + 1) (some (lo + n)) := by
  obtain ⟨⟨j, a1, a2⟩, a3, a4⟩ := h
  refine ⟨⟨n, by omega, rfl⟩, hn, lt_s (fun i hi h9 => ⟨fun hb => ?_, fun hb => ?_⟩) (fun _ => by rw [d_s_refl]; exact ⟨fun _ => Int.le_refl _, fun _ => Int.le_refl _⟩)⟩
  · have := d_s_trans1 (h1 hb) ((a4 i hi h9).1 hb)
    omega
  · have e1 := (a4 i hi h9).2 hb
    have e2 := h2 hb
    rw [d_s_anti] at e1 e2
    have := d_s_trans1 (xs := kk (lo + i)) (ys := kk r) (zs := kk (lo + n)) (tn := tn)
    by_cases e3 : d_s tn (kk (lo + i)) (kk r) = 0
    · rw [d_s_eq e3, d_s_anti]
      omega
    · have := this (by omega) (by omega)
      rw [d_s_anti]
      omega

set_option maxHeartbeats 4000000 in
set_option maxRecDepth 100000 in
/-- nearest -/
theorem c_Model_nearest (l : Launch) (D : va_G) (q : Nat → ClassId) (H : Heap) (d : Nat) (w : Nat → Int32) (ar : Nat → Nat → Int32) (hR : dR D q H d w ar) (c0 : Nat) (org : Nat → Option Nat) (srt : Nat → Nat) (bt : Nat → List Nat) (tn mp : Nat → Nat) (hv : pV w ar c0 org srt bt) (hN : pN c0 org srt tn mp) (kk : Nat → List Nat) (hk : pK ar kk) (n chg : Nat → Nat) (hm : pM ar n chg) (v : Nat) (hvc : v < c0) (bh sm : Nat) (hbh : bh ≤ 1) (hsm : sm ≤ 1) (pb lb : Nat) (fb : Nat → Int32) (hb : va_at D CL (pb, .inl (q 0, lb, .inl fb)) H) (ob m1 : Nat) (ys : List Nat) (hm1 : m1 = ys.length) (hyb : tXo fb ob ys) (hyl : ob + ys.length ≤ lb) (hlb : lb < 60000) (hyc : t16 ys) : gC l y_Model_nearest (Cond.code y_Model_nearest b_Model_nearest 13 (some .int) :: gWS) (gR 4 100 0 0) D CL (gY q) (fun _ => True) [.ref d, .int (nI v), .int (nI bh), .int (nI sm), .ref pb, .int (nI ob), .int (nI m1)] H (fun v1 H1 => (∃ o : Option Nat, v1 = some (.int (gm1 o)) ∧ d_nr (fun xs => v_in org srt bt v xs = true ∧ d_cd (tn v) bh sm (some ys) xs) (tn v) bh kk (64 * mp v) (n (mp v)) o) ∧ H1 = H) 0 0 (fun _ => False) := by
  refine gC.ofW R_Model "nearest" (by decide) rfl rfl ?_
  intro p e s m below meth c hadm X hE hH B hne
  refine g_entry [some (.ref d), some (.int (nI v)), some (.int (nI bh)), some (.int (nI sm)), some (.ref pb), some (.int (nI ob)), some (.int (nI m1)), none, none, none, none, none, none] rfl rfl (Nat.le_of_ble_eq_true rfl) (fun ls hl => ?_)
  have h12 := hv.2.2.1
  have hmp := (hN v hvc).1
  obtain ⟨hm1a, hm2, hm3⟩ := hm (mp v) hmp
  refine lv_aload_n X.1.1 X.1.2.1 d_Model_nearest_0 rfl (gl_at hl rfl) ?_
  refine lv_iload_n X.1.1 X.1.2.1 d_Model_nearest_1 rfl (gl_at hl rfl) ?_
  have mo1 : va_at D CL (d, .inr (10, [.int (w 0), .ref (d + 1), .int (w 2), .ref (d + 2), .ref (d + 3), .ref (d + 4), .ref (d + 5), .ref (d + 6), .int (w 8), .ref (d + 7), .ref (d + 8), .ref (d + 9), .ref (d + 10), .ref (d + 11), .ref (d + 12), .ref (d + 13), .ref (d + 14), .ref (d + 15), .ref (d + 16), .ref (d + 17), .int (w 20), .ref (d + 18), .int (w 22), .ref (d + 19), .ref (d + 20), .ref (d + 21), .int (w 26), .int (w 27), .int (w 28), .ref (d + 22), .ref (d + 23), .ref (d + 24), .ref (d + 25), .ref (d + 26), .int (w 34), .ref (d + 27), .ref (d + 28), .int (w 37), .int (w 38)])) H := hR.1
  refine g_cv (A := (fun _ => False)) X gWS_good mw_Model_114 kc_Model mo1 (c_Model_mapOf l D q H d w ar hR c0 org srt bt tn mp hv hN v hvc) (fun _ _ _ => trivial) gBlind.tt rfl rfl hl.1 (Nat.le_of_ble_eq_true rfl) rfl rfl ⟨by decide, by decide⟩ ⟨by decide, by decide⟩ d_Model_nearest_2 (fun _ h => h.elim) (fun _ h => by cases h) (fun v2 H3 locs hp4 hL => ?_)
  obtain ⟨rfl, hHe⟩ := hp4
  rw [hHe]
  refine g_ist X.1.1 X.1.2.1 hl 7 d_Model_nearest_5 (Nat.le_of_ble_eq_true rfl) rfl (fun ls hl => ?_)
  refine lv_iconst (v := (-1)) X.1.1 X.1.2.1 d_Model_nearest_7 (by decide) ?_
  refine g_ist X.1.1 X.1.2.1 hl 8 d_Model_nearest_8 (Nat.le_of_ble_eq_true rfl) rfl (fun ls hl => ?_)
  refine lv_iconst (v := nI 0) X.1.1 X.1.2.1 d_Model_nearest_10 (by decide) ?_
  refine g_ist X.1.1 X.1.2.1 hl 9 d_Model_nearest_11 (Nat.le_of_ble_eq_true rfl) rfl (fun ls hl => ?_)
  have loop13 : ∀ (fu : Nat) (i : Nat) (o : Option Nat) (locs : List Loc) (ls : Array Slot), n (mp v) - i < fu → (i ≤ n (mp v)) → (d_nr (fun xs => v_in org srt bt v xs = true ∧ d_cd (tn v) bh sm (some ys) xs) (tn v) bh kk (64 * mp v) i o) → (∀ x ∈ locs, (fun _ => False) x.base) → gl ls [some (.ref d), some (.int (nI v)), some (.int (nI bh)), some (.int (nI sm)), some (.ref pb), some (.int (nI ob)), some (.int (nI m1)), some (.int (nI (mp v))), some (.int (gm1 o)), some (.int (nI i)), none, none, none] → W p l e (gR 4 100 0 0) s m ([.ref d, .int (nI v), .int (nI bh), .int (nI sm), .ref pb, .int (nI ob), .int (nI m1)] : List Value).toArray below meth c H locs 0 0 (gQ below ([.ref d, .int (nI v), .int (nI bh), .int (nI sm), .ref pb, .int (nI ob), .int (nI m1)] : List Value).toArray s (fun v1 H1 => (∃ o : Option Nat, v1 = some (.int (gm1 o)) ∧ d_nr (fun xs => v_in org srt bt v xs = true ∧ d_cd (tn v) bh sm (some ys) xs) (tn v) bh kk (64 * mp v) (n (mp v)) o) ∧ H1 = H) 0 0 (fun _ => False)) (F0 m 13 ls []) := by
    intro fu
    induction fu with
    | zero => intro i o locs ls hmu; omega
    | succ fu ih13 =>
      intro i o locs ls hmu13 hi13_0 hi13_1 hL hl
      refine lv_iload X.1.1 X.1.2.1 d_Model_nearest_13 (gl_at hl rfl) ?_
      refine lv_aload_n X.1.1 X.1.2.1 d_Model_nearest_15 rfl (gl_at hl rfl) ?_
      refine g_get X kc_Model mo1 3 (by decide) lk_Model_13 rfl d_Model_nearest_16 ?_
      refine lv_iload X.1.1 X.1.2.1 d_Model_nearest_19 (gl_at hl rfl) ?_
      have ma5 : va_at D CL (d + 2, .inl (q 0, 3, .inl (ar 2))) H := hR.a2
      refine g_iald X 0 ma5 rfl (mp v) (by omega) (by omega) d_Model_nearest_21 ?_
      refine g_top (nI (n (mp v))) hm1a ?_
      refine gn_ge X.1.1 X.1.2.1 i (n (mp v)) (by omega) (by omega) d_Model_nearest_22 rfl (fun hc22 => ?_) (fun hc22 => ?_)
      · refine lv_iload X.1.1 X.1.2.1 d_Model_nearest_178 (gl_at hl rfl) ?_
        exact g_iret X B ⟨⟨o, rfl, by rw [show n (mp v) = i by omega]; exact hi13_1⟩, rfl⟩ hL d_Model_nearest_180 (by omega) (by omega)
      · refine lv_bipush (v := nI 64) X.1.1 X.1.2.1 d_Model_nearest_25 (by decide) ?_
        refine lv_iload X.1.1 X.1.2.1 d_Model_nearest_27 (gl_at hl rfl) ?_
        refine lv_imul X.1.1 X.1.2.1 d_Model_nearest_29 ?_
        refine g_top (nI (64 * (mp v))) (pk_mul _ _) ?_
        refine lv_iload X.1.1 X.1.2.1 d_Model_nearest_30 (gl_at hl rfl) ?_
        refine lv_iadd X.1.1 X.1.2.1 d_Model_nearest_32 ?_
        refine g_top (nI ((64 * (mp v)) + i)) (nI_add _ _) ?_
        refine g_ist X.1.1 X.1.2.1 hl 10 d_Model_nearest_33 (Nat.le_of_ble_eq_true rfl) rfl (fun ls hl => ?_)
        refine lv_aload_n X.1.1 X.1.2.1 d_Model_nearest_35 rfl (gl_at hl rfl) ?_
        refine lv_iload_n X.1.1 X.1.2.1 d_Model_nearest_36 rfl (gl_at hl rfl) ?_
        refine lv_iload X.1.1 X.1.2.1 d_Model_nearest_37 (gl_at hl rfl) ?_
        refine g_cv (A := (fun _ => False)) X gWS_good mw_Model_143 kc_Model mo1 (c_Model_has l D q H d w ar hR c0 org srt bt tn mp hv hN kk hk v hvc i (by omega)) (fun _ _ _ => trivial) gBlind.tt rfl rfl hl.1 (Nat.le_of_ble_eq_true rfl) rfl rfl ⟨by decide, by decide⟩ ⟨by decide, by decide⟩ d_Model_nearest_39 (fun _ h => h.elim) hL (fun v6 H7 locs hp8 hL => ?_)
        obtain ⟨rfl, hHe⟩ := hp8
        rw [hHe]
        refine lv_if_ne X.1.1 X.1.2.1 d_Model_nearest_42 rfl (fun hc42 => ?_) (fun hc42 => ?_)
        · replace hc42 := gz_t hc42
          refine lv_iload X.1.1 X.1.2.1 d_Model_nearest_48 (gl_at hl rfl) ?_
          refine lv_iconst (v := (-1)) X.1.1 X.1.2.1 d_Model_nearest_50 (by decide) ?_
          refine lv_icmp_ne X.1.1 X.1.2.1 d_Model_nearest_51 rfl (fun hc51 => ?_) (fun hc51 => ?_)
          · refine lv_aload_n X.1.1 X.1.2.1 d_Model_nearest_66 rfl (gl_at hl rfl) ?_
            refine lv_iload_n X.1.1 X.1.2.1 d_Model_nearest_67 rfl (gl_at hl rfl) ?_
            refine lv_iload X.1.1 X.1.2.1 d_Model_nearest_68 (gl_at hl rfl) ?_
            refine lv_aload X.1.1 X.1.2.1 d_Model_nearest_70 (gl_at hl rfl) ?_
            refine lv_iload X.1.1 X.1.2.1 d_Model_nearest_72 (gl_at hl rfl) ?_
            refine lv_iload X.1.1 X.1.2.1 d_Model_nearest_74 (gl_at hl rfl) ?_
            refine g_cv (A := (fun _ => False)) X gWS_good mw_Model_150 kc_Model mo1 (c_Model_side l D q H d w ar hR c0 org srt bt tn mp hv hN kk hk v hvc (64 * mp v + i) (by omega) pb lb fb hb ob m1 ys hm1 hyb hyl hlb hyc) (fun _ _ _ => trivial) gBlind.tt rfl rfl hl.1 (Nat.le_of_ble_eq_true rfl) rfl rfl ⟨by decide, by decide⟩ ⟨by decide, by decide⟩ d_Model_nearest_76 (fun _ h => h.elim) hL (fun v9 H10 locs hp11 hL => ?_)
            obtain ⟨⟨r, rfl, hr⟩, hHe⟩ := hp11
            rw [hHe]
            refine g_ist X.1.1 X.1.2.1 hl 11 d_Model_nearest_79 (Nat.le_of_ble_eq_true rfl) rfl (fun ls hl => ?_)
            refine lv_iload X.1.1 X.1.2.1 d_Model_nearest_81 (gl_at hl rfl) ?_
            refine lv_if_ne X.1.1 X.1.2.1 d_Model_nearest_83 rfl (fun hc83 => ?_) (fun hc83 => ?_)
            · refine lv_iload X.1.1 X.1.2.1 d_Model_nearest_93 (gl_at hl rfl) ?_
              refine lv_if_le X.1.1 X.1.2.1 d_Model_nearest_95 rfl (fun hc95 => ?_) (fun hc95 => ?_)
              · refine lv_iconst (v := nI 0) X.1.1 X.1.2.1 d_Model_nearest_102 (by decide) ?_
                refine lv_iload_n X.1.1 X.1.2.1 d_Model_nearest_103 rfl (gl_at hl rfl) ?_
                refine gn_eq X.1.1 X.1.2.1 0 bh (by omega) (by omega) d_Model_nearest_104 rfl (fun hc104 => ?_) (fun hc104 => ?_)
                · have hok : (fun xs => v_in org srt bt v xs = true ∧ d_cd (tn v) bh sm (some ys) xs) (kk (64 * mp v + i)) := ⟨hc42, Or.inr (Or.inr ⟨by rw [← hr]; have e1 := gi_le0 hc95; have e2 := gi_ne hc83; omega, by omega⟩)⟩
                  cases o with
                  | none =>
                      refine lv_iload X.1.1 X.1.2.1 d_Model_nearest_110 (gl_at hl rfl) ?_
                      refine lv_iconst (v := (-1)) X.1.1 X.1.2.1 d_Model_nearest_112 (by decide) ?_
                      refine lv_icmp_ne X.1.1 X.1.2.1 d_Model_nearest_113 rfl (fun hc113 => ?_) (fun hc113 => ?_)
                      · exact absurd rfl hc113
                      · refine lv_iconst (v := nI 0) X.1.1 X.1.2.1 d_Model_nearest_116 (by decide) ?_
                        refine lv_goto X.1.1 X.1.2.1 d_Model_nearest_117 rfl ?_
                        refine g_ist X.1.1 X.1.2.1 hl 12 d_Model_nearest_143 (Nat.le_of_ble_eq_true rfl) rfl (fun ls hl => ?_)
                        refine lv_iload X.1.1 X.1.2.1 d_Model_nearest_145 (gl_at hl rfl) ?_
                        refine lv_iconst (v := (-1)) X.1.1 X.1.2.1 d_Model_nearest_147 (by decide) ?_
                        refine lv_icmp_eq X.1.1 X.1.2.1 d_Model_nearest_148 rfl (fun hc148 => ?_) (fun hc148 => ?_)
                        · refine lv_iload X.1.1 X.1.2.1 d_Model_nearest_168 (gl_at hl rfl) ?_
                          refine g_ist X.1.1 X.1.2.1 hl 8 d_Model_nearest_170 (Nat.le_of_ble_eq_true rfl) rfl (fun ls hl => ?_)
                          refine g_iinc X.1.1 X.1.2.1 (nI (i + 1)) hl 9 d_Model_nearest_172 rfl (nI_1 _) rfl (fun ls hl => ?_)
                          refine lv_goto X.1.1 X.1.2.1 d_Model_nearest_175 rfl ?_
                          exact ih13 (i + 1) (some ((64 * (mp v)) + i)) locs ls (by omega) (by omega) (d_nr_first hi13_1 hok) hL (gl_forget (gl_forget (gl_forget hl 10) 11) 12)
                        · exact absurd rfl hc148
                  | some b0 =>
                      have hb192 : b0 < 192 := by
                        obtain ⟨⟨j, h1, h2⟩, _⟩ := hi13_1
                        omega
                      obtain ⟨hb1, hb2, hb3, hb4⟩ := hk b0 hb192
                      refine lv_iload X.1.1 X.1.2.1 d_Model_nearest_110 (gl_at hl rfl) ?_
                      refine lv_iconst (v := (-1)) X.1.1 X.1.2.1 d_Model_nearest_112 (by decide) ?_
                      refine lv_icmp_ne X.1.1 X.1.2.1 d_Model_nearest_113 rfl (fun hc113 => ?_) (fun hc113 => ?_)
                      · refine lv_aload_n X.1.1 X.1.2.1 d_Model_nearest_120 rfl (gl_at hl rfl) ?_
                        refine lv_iload_n X.1.1 X.1.2.1 d_Model_nearest_121 rfl (gl_at hl rfl) ?_
                        refine lv_iload X.1.1 X.1.2.1 d_Model_nearest_122 (gl_at hl rfl) ?_
                        refine lv_aload_n X.1.1 X.1.2.1 d_Model_nearest_124 rfl (gl_at hl rfl) ?_
                        refine g_get X kc_Model mo1 5 (by decide) lk_Model_19 rfl d_Model_nearest_125 ?_
                        refine lv_bipush (v := nI 8) X.1.1 X.1.2.1 d_Model_nearest_128 (by decide) ?_
                        refine lv_iload X.1.1 X.1.2.1 d_Model_nearest_130 (gl_at hl rfl) ?_
                        refine lv_imul X.1.1 X.1.2.1 d_Model_nearest_132 ?_
                        refine g_top (nI (8 * b0)) (pk_mul _ _) ?_
                        refine lv_aload_n X.1.1 X.1.2.1 d_Model_nearest_133 rfl (gl_at hl rfl) ?_
                        refine g_get X kc_Model mo1 6 (by decide) lk_Model_22 rfl d_Model_nearest_134 ?_
                        refine lv_iload X.1.1 X.1.2.1 d_Model_nearest_137 (gl_at hl rfl) ?_
                        have ma12 : va_at D CL (d + 5, .inl (q 0, 192, .inl (ar 5))) H := hR.a5
                        refine g_iald X 0 ma12 rfl b0 (by omega) (by omega) d_Model_nearest_139 ?_
                        refine g_top (nI ((kk b0).length)) hb2 ?_
                        refine g_cv (A := (fun _ => False)) X gWS_good mw_Model_150 kc_Model mo1 (c_Model_side l D q H d w ar hR c0 org srt bt tn mp hv hN kk hk v hvc (64 * mp v + i) (by omega) (d + 4) 1536 (ar 4) hR.a4 (8 * b0) _ (kk b0) rfl hb1 (by omega) (by omega) hb4) (fun _ _ _ => trivial) gBlind.tt rfl rfl hl.1 (Nat.le_of_ble_eq_true rfl) rfl rfl ⟨by decide, by decide⟩ ⟨by decide, by decide⟩ d_Model_nearest_140 (fun _ h => h.elim) hL (fun v13 H14 locs hp15 hL => ?_)
                        obtain ⟨⟨r2, rfl, hr2⟩, hHe⟩ := hp15
                        rw [hHe]
                        refine g_ist X.1.1 X.1.2.1 hl 12 d_Model_nearest_143 (Nat.le_of_ble_eq_true rfl) rfl (fun ls hl => ?_)
                        refine lv_iload X.1.1 X.1.2.1 d_Model_nearest_145 (gl_at hl rfl) ?_
                        refine lv_iconst (v := (-1)) X.1.1 X.1.2.1 d_Model_nearest_147 (by decide) ?_
                        refine lv_icmp_eq X.1.1 X.1.2.1 d_Model_nearest_148 rfl (fun hc148 => ?_) (fun hc148 => ?_)
                        · exact absurd hc148 (d_m1 (by omega))
                        · refine lv_iload_n X.1.1 X.1.2.1 d_Model_nearest_151 rfl (gl_at hl rfl) ?_
                          refine gn_eq0 X.1.1 X.1.2.1 bh (by omega) d_Model_nearest_152 rfl (fun hc152 => ?_) (fun hc152 => ?_)
                          · refine lv_iload X.1.1 X.1.2.1 d_Model_nearest_163 (gl_at hl rfl) ?_
                            refine lv_if_le X.1.1 X.1.2.1 d_Model_nearest_165 rfl (fun hc165 => ?_) (fun hc165 => ?_)
                            · refine g_iinc X.1.1 X.1.2.1 (nI (i + 1)) hl 9 d_Model_nearest_172 rfl (nI_1 _) rfl (fun ls hl => ?_)
                              refine lv_goto X.1.1 X.1.2.1 d_Model_nearest_175 rfl ?_
                              exact ih13 (i + 1) (some b0) locs ls (by omega) (by omega) (d_nr_keep hi13_1 (fun h9 => absurd hc152 h9) (fun _ => by rw [← hr2]; exact gi_le0 hc165)) hL (gl_forget (gl_forget (gl_forget hl 10) 11) 12)
                            · refine lv_iload X.1.1 X.1.2.1 d_Model_nearest_168 (gl_at hl rfl) ?_
                              refine g_ist X.1.1 X.1.2.1 hl 8 d_Model_nearest_170 (Nat.le_of_ble_eq_true rfl) rfl (fun ls hl => ?_)
                              refine g_iinc X.1.1 X.1.2.1 (nI (i + 1)) hl 9 d_Model_nearest_172 rfl (nI_1 _) rfl (fun ls hl => ?_)
                              refine lv_goto X.1.1 X.1.2.1 d_Model_nearest_175 rfl ?_
                              exact ih13 (i + 1) (some ((64 * (mp v)) + i)) locs ls (by omega) (by omega) (d_nr_take hi13_1 hok (fun h9 => absurd hc152 h9) (fun _ => by rw [← hr2]; exact gi_nle0 hc165)) hL (gl_forget (gl_forget (gl_forget hl 10) 11) 12)
                          · refine lv_iload X.1.1 X.1.2.1 d_Model_nearest_155 (gl_at hl rfl) ?_
                            refine lv_if_ge X.1.1 X.1.2.1 d_Model_nearest_157 rfl (fun hc157 => ?_) (fun hc157 => ?_)
                            · refine g_iinc X.1.1 X.1.2.1 (nI (i + 1)) hl 9 d_Model_nearest_172 rfl (nI_1 _) rfl (fun ls hl => ?_)
                              refine lv_goto X.1.1 X.1.2.1 d_Model_nearest_175 rfl ?_
                              exact ih13 (i + 1) (some b0) locs ls (by omega) (by omega) (d_nr_keep hi13_1 (fun _ => by rw [← hr2]; exact gi_ge hc157) (fun h9 => absurd h9 hc152)) hL (gl_forget (gl_forget (gl_forget hl 10) 11) 12)
                            · refine lv_goto X.1.1 X.1.2.1 d_Model_nearest_160 rfl ?_
                              refine lv_iload X.1.1 X.1.2.1 d_Model_nearest_168 (gl_at hl rfl) ?_
                              refine g_ist X.1.1 X.1.2.1 hl 8 d_Model_nearest_170 (Nat.le_of_ble_eq_true rfl) rfl (fun ls hl => ?_)
                              refine g_iinc X.1.1 X.1.2.1 (nI (i + 1)) hl 9 d_Model_nearest_172 rfl (nI_1 _) rfl (fun ls hl => ?_)
                              refine lv_goto X.1.1 X.1.2.1 d_Model_nearest_175 rfl ?_
                              exact ih13 (i + 1) (some ((64 * (mp v)) + i)) locs ls (by omega) (by omega) (d_nr_take hi13_1 hok (fun _ => by rw [← hr2]; exact gi_nge hc157) (fun h9 => absurd h9 hc152)) hL (gl_forget (gl_forget (gl_forget hl 10) 11) 12)
                      · exact absurd hc113 (d_m1 (by omega))
                · refine lv_goto X.1.1 X.1.2.1 d_Model_nearest_107 rfl ?_
                  refine g_iinc X.1.1 X.1.2.1 (nI (i + 1)) hl 9 d_Model_nearest_172 rfl (nI_1 _) rfl (fun ls hl => ?_)
                  refine lv_goto X.1.1 X.1.2.1 d_Model_nearest_175 rfl ?_
                  exact ih13 (i + 1) o locs ls (by omega) (by omega) (d_nr_skip hi13_1 (fun h9 => by
                    have e1 := h9.2
                    unfold d_cd at e1
                    dsimp only at e1
                    rw [← hr] at e1
                    first
                    | (have e2 := gi_eq hc83; omega)
                    | (have e2 := gi_ne hc83; have e3 := gi_le0 hc95; omega)
                    | (have e2 := gi_nle0 hc95; omega))) hL (gl_forget (gl_forget hl 10) 11)
              · refine lv_iconst (v := nI 1) X.1.1 X.1.2.1 d_Model_nearest_98 (by decide) ?_
                refine lv_goto X.1.1 X.1.2.1 d_Model_nearest_99 rfl ?_
                refine lv_iload_n X.1.1 X.1.2.1 d_Model_nearest_103 rfl (gl_at hl rfl) ?_
                refine gn_eq X.1.1 X.1.2.1 1 bh (by omega) (by omega) d_Model_nearest_104 rfl (fun hc104 => ?_) (fun hc104 => ?_)
                · have hok : (fun xs => v_in org srt bt v xs = true ∧ d_cd (tn v) bh sm (some ys) xs) (kk (64 * mp v + i)) := ⟨hc42, Or.inr (Or.inl ⟨by rw [← hr]; exact gi_nle0 hc95, by omega⟩)⟩
                  cases o with
                  | none =>
                      refine lv_iload X.1.1 X.1.2.1 d_Model_nearest_110 (gl_at hl rfl) ?_
                      refine lv_iconst (v := (-1)) X.1.1 X.1.2.1 d_Model_nearest_112 (by decide) ?_
                      refine lv_icmp_ne X.1.1 X.1.2.1 d_Model_nearest_113 rfl (fun hc113 => ?_) (fun hc113 => ?_)
                      · exact absurd rfl hc113
                      · refine lv_iconst (v := nI 0) X.1.1 X.1.2.1 d_Model_nearest_116 (by decide) ?_
                        refine lv_goto X.1.1 X.1.2.1 d_Model_nearest_117 rfl ?_
                        refine g_ist X.1.1 X.1.2.1 hl 12 d_Model_nearest_143 (Nat.le_of_ble_eq_true rfl) rfl (fun ls hl => ?_)
                        refine lv_iload X.1.1 X.1.2.1 d_Model_nearest_145 (gl_at hl rfl) ?_
                        refine lv_iconst (v := (-1)) X.1.1 X.1.2.1 d_Model_nearest_147 (by decide) ?_
                        refine lv_icmp_eq X.1.1 X.1.2.1 d_Model_nearest_148 rfl (fun hc148 => ?_) (fun hc148 => ?_)
                        · refine lv_iload X.1.1 X.1.2.1 d_Model_nearest_168 (gl_at hl rfl) ?_
                          refine g_ist X.1.1 X.1.2.1 hl 8 d_Model_nearest_170 (Nat.le_of_ble_eq_true rfl) rfl (fun ls hl => ?_)
                          refine g_iinc X.1.1 X.1.2.1 (nI (i + 1)) hl 9 d_Model_nearest_172 rfl (nI_1 _) rfl (fun ls hl => ?_)
                          refine lv_goto X.1.1 X.1.2.1 d_Model_nearest_175 rfl ?_
                          exact ih13 (i + 1) (some ((64 * (mp v)) + i)) locs ls (by omega) (by omega) (d_nr_first hi13_1 hok) hL (gl_forget (gl_forget (gl_forget hl 10) 11) 12)
                        · exact absurd rfl hc148
                  | some b0 =>
                      have hb192 : b0 < 192 := by
                        obtain ⟨⟨j, h1, h2⟩, _⟩ := hi13_1
                        omega
                      obtain ⟨hb1, hb2, hb3, hb4⟩ := hk b0 hb192
                      refine lv_iload X.1.1 X.1.2.1 d_Model_nearest_110 (gl_at hl rfl) ?_
                      refine lv_iconst (v := (-1)) X.1.1 X.1.2.1 d_Model_nearest_112 (by decide) ?_
                      refine lv_icmp_ne X.1.1 X.1.2.1 d_Model_nearest_113 rfl (fun hc113 => ?_) (fun hc113 => ?_)
                      · refine lv_aload_n X.1.1 X.1.2.1 d_Model_nearest_120 rfl (gl_at hl rfl) ?_
                        refine lv_iload_n X.1.1 X.1.2.1 d_Model_nearest_121 rfl (gl_at hl rfl) ?_
                        refine lv_iload X.1.1 X.1.2.1 d_Model_nearest_122 (gl_at hl rfl) ?_
                        refine lv_aload_n X.1.1 X.1.2.1 d_Model_nearest_124 rfl (gl_at hl rfl) ?_
                        refine g_get X kc_Model mo1 5 (by decide) lk_Model_19 rfl d_Model_nearest_125 ?_
                        refine lv_bipush (v := nI 8) X.1.1 X.1.2.1 d_Model_nearest_128 (by decide) ?_
                        refine lv_iload X.1.1 X.1.2.1 d_Model_nearest_130 (gl_at hl rfl) ?_
                        refine lv_imul X.1.1 X.1.2.1 d_Model_nearest_132 ?_
                        refine g_top (nI (8 * b0)) (pk_mul _ _) ?_
                        refine lv_aload_n X.1.1 X.1.2.1 d_Model_nearest_133 rfl (gl_at hl rfl) ?_
                        refine g_get X kc_Model mo1 6 (by decide) lk_Model_22 rfl d_Model_nearest_134 ?_
                        refine lv_iload X.1.1 X.1.2.1 d_Model_nearest_137 (gl_at hl rfl) ?_
                        have ma16 : va_at D CL (d + 5, .inl (q 0, 192, .inl (ar 5))) H := hR.a5
                        refine g_iald X 0 ma16 rfl b0 (by omega) (by omega) d_Model_nearest_139 ?_
                        refine g_top (nI ((kk b0).length)) hb2 ?_
                        refine g_cv (A := (fun _ => False)) X gWS_good mw_Model_150 kc_Model mo1 (c_Model_side l D q H d w ar hR c0 org srt bt tn mp hv hN kk hk v hvc (64 * mp v + i) (by omega) (d + 4) 1536 (ar 4) hR.a4 (8 * b0) _ (kk b0) rfl hb1 (by omega) (by omega) hb4) (fun _ _ _ => trivial) gBlind.tt rfl rfl hl.1 (Nat.le_of_ble_eq_true rfl) rfl rfl ⟨by decide, by decide⟩ ⟨by decide, by decide⟩ d_Model_nearest_140 (fun _ h => h.elim) hL (fun v17 H18 locs hp19 hL => ?_)
                        obtain ⟨⟨r2, rfl, hr2⟩, hHe⟩ := hp19
                        rw [hHe]
                        refine g_ist X.1.1 X.1.2.1 hl 12 d_Model_nearest_143 (Nat.le_of_ble_eq_true rfl) rfl (fun ls hl => ?_)
                        refine lv_iload X.1.1 X.1.2.1 d_Model_nearest_145 (gl_at hl rfl) ?_
                        refine lv_iconst (v := (-1)) X.1.1 X.1.2.1 d_Model_nearest_147 (by decide) ?_
                        refine lv_icmp_eq X.1.1 X.1.2.1 d_Model_nearest_148 rfl (fun hc148 => ?_) (fun hc148 => ?_)
                        · exact absurd hc148 (d_m1 (by omega))
                        · refine lv_iload_n X.1.1 X.1.2.1 d_Model_nearest_151 rfl (gl_at hl rfl) ?_
                          refine gn_eq0 X.1.1 X.1.2.1 bh (by omega) d_Model_nearest_152 rfl (fun hc152 => ?_) (fun hc152 => ?_)
                          · refine lv_iload X.1.1 X.1.2.1 d_Model_nearest_163 (gl_at hl rfl) ?_
                            refine lv_if_le X.1.1 X.1.2.1 d_Model_nearest_165 rfl (fun hc165 => ?_) (fun hc165 => ?_)
                            · refine g_iinc X.1.1 X.1.2.1 (nI (i + 1)) hl 9 d_Model_nearest_172 rfl (nI_1 _) rfl (fun ls hl => ?_)
                              refine lv_goto X.1.1 X.1.2.1 d_Model_nearest_175 rfl ?_
                              exact ih13 (i + 1) (some b0) locs ls (by omega) (by omega) (d_nr_keep hi13_1 (fun h9 => absurd hc152 h9) (fun _ => by rw [← hr2]; exact gi_le0 hc165)) hL (gl_forget (gl_forget (gl_forget hl 10) 11) 12)
                            · refine lv_iload X.1.1 X.1.2.1 d_Model_nearest_168 (gl_at hl rfl) ?_
                              refine g_ist X.1.1 X.1.2.1 hl 8 d_Model_nearest_170 (Nat.le_of_ble_eq_true rfl) rfl (fun ls hl => ?_)
                              refine g_iinc X.1.1 X.1.2.1 (nI (i + 1)) hl 9 d_Model_nearest_172 rfl (nI_1 _) rfl (fun ls hl => ?_)
                              refine lv_goto X.1.1 X.1.2.1 d_Model_nearest_175 rfl ?_
                              exact ih13 (i + 1) (some ((64 * (mp v)) + i)) locs ls (by omega) (by omega) (d_nr_take hi13_1 hok (fun h9 => absurd hc152 h9) (fun _ => by rw [← hr2]; exact gi_nle0 hc165)) hL (gl_forget (gl_forget (gl_forget hl 10) 11) 12)
                          · refine lv_iload X.1.1 X.1.2.1 d_Model_nearest_155 (gl_at hl rfl) ?_
                            refine lv_if_ge X.1.1 X.1.2.1 d_Model_nearest_157 rfl (fun hc157 => ?_) (fun hc157 => ?_)
                            · refine g_iinc X.1.1 X.1.2.1 (nI (i + 1)) hl 9 d_Model_nearest_172 rfl (nI_1 _) rfl (fun ls hl => ?_)
                              refine lv_goto X.1.1 X.1.2.1 d_Model_nearest_175 rfl ?_
                              exact ih13 (i + 1) (some b0) locs ls (by omega) (by omega) (d_nr_keep hi13_1 (fun _ => by rw [← hr2]; exact gi_ge hc157) (fun h9 => absurd h9 hc152)) hL (gl_forget (gl_forget (gl_forget hl 10) 11) 12)
                            · refine lv_goto X.1.1 X.1.2.1 d_Model_nearest_160 rfl ?_
                              refine lv_iload X.1.1 X.1.2.1 d_Model_nearest_168 (gl_at hl rfl) ?_
                              refine g_ist X.1.1 X.1.2.1 hl 8 d_Model_nearest_170 (Nat.le_of_ble_eq_true rfl) rfl (fun ls hl => ?_)
                              refine g_iinc X.1.1 X.1.2.1 (nI (i + 1)) hl 9 d_Model_nearest_172 rfl (nI_1 _) rfl (fun ls hl => ?_)
                              refine lv_goto X.1.1 X.1.2.1 d_Model_nearest_175 rfl ?_
                              exact ih13 (i + 1) (some ((64 * (mp v)) + i)) locs ls (by omega) (by omega) (d_nr_take hi13_1 hok (fun _ => by rw [← hr2]; exact gi_nge hc157) (fun h9 => absurd h9 hc152)) hL (gl_forget (gl_forget (gl_forget hl 10) 11) 12)
                      · exact absurd hc113 (d_m1 (by omega))
                · refine lv_goto X.1.1 X.1.2.1 d_Model_nearest_107 rfl ?_
                  refine g_iinc X.1.1 X.1.2.1 (nI (i + 1)) hl 9 d_Model_nearest_172 rfl (nI_1 _) rfl (fun ls hl => ?_)
                  refine lv_goto X.1.1 X.1.2.1 d_Model_nearest_175 rfl ?_
                  exact ih13 (i + 1) o locs ls (by omega) (by omega) (d_nr_skip hi13_1 (fun h9 => by
                    have e1 := h9.2
                    unfold d_cd at e1
                    dsimp only at e1
                    rw [← hr] at e1
                    first
                    | (have e2 := gi_eq hc83; omega)
                    | (have e2 := gi_ne hc83; have e3 := gi_le0 hc95; omega)
                    | (have e2 := gi_nle0 hc95; omega))) hL (gl_forget (gl_forget hl 10) 11)
            · refine lv_iload_n X.1.1 X.1.2.1 d_Model_nearest_86 rfl (gl_at hl rfl) ?_
              refine gn_ne0 X.1.1 X.1.2.1 sm (by omega) d_Model_nearest_87 rfl (fun hc87 => ?_) (fun hc87 => ?_)
              · have hok : (fun xs => v_in org srt bt v xs = true ∧ d_cd (tn v) bh sm (some ys) xs) (kk (64 * mp v + i)) := ⟨hc42, Or.inl ⟨by rw [← hr]; exact gi_eq hc83, hc87⟩⟩
                cases o with
                | none =>
                    refine lv_iload X.1.1 X.1.2.1 d_Model_nearest_110 (gl_at hl rfl) ?_
                    refine lv_iconst (v := (-1)) X.1.1 X.1.2.1 d_Model_nearest_112 (by decide) ?_
                    refine lv_icmp_ne X.1.1 X.1.2.1 d_Model_nearest_113 rfl (fun hc113 => ?_) (fun hc113 => ?_)
                    · exact absurd rfl hc113
                    · refine lv_iconst (v := nI 0) X.1.1 X.1.2.1 d_Model_nearest_116 (by decide) ?_
                      refine lv_goto X.1.1 X.1.2.1 d_Model_nearest_117 rfl ?_
                      refine g_ist X.1.1 X.1.2.1 hl 12 d_Model_nearest_143 (Nat.le_of_ble_eq_true rfl) rfl (fun ls hl => ?_)
                      refine lv_iload X.1.1 X.1.2.1 d_Model_nearest_145 (gl_at hl rfl) ?_
                      refine lv_iconst (v := (-1)) X.1.1 X.1.2.1 d_Model_nearest_147 (by decide) ?_
                      refine lv_icmp_eq X.1.1 X.1.2.1 d_Model_nearest_148 rfl (fun hc148 => ?_) (fun hc148 => ?_)
                      · refine lv_iload X.1.1 X.1.2.1 d_Model_nearest_168 (gl_at hl rfl) ?_
                        refine g_ist X.1.1 X.1.2.1 hl 8 d_Model_nearest_170 (Nat.le_of_ble_eq_true rfl) rfl (fun ls hl => ?_)
                        refine g_iinc X.1.1 X.1.2.1 (nI (i + 1)) hl 9 d_Model_nearest_172 rfl (nI_1 _) rfl (fun ls hl => ?_)
                        refine lv_goto X.1.1 X.1.2.1 d_Model_nearest_175 rfl ?_
                        exact ih13 (i + 1) (some ((64 * (mp v)) + i)) locs ls (by omega) (by omega) (d_nr_first hi13_1 hok) hL (gl_forget (gl_forget (gl_forget hl 10) 11) 12)
                      · exact absurd rfl hc148
                | some b0 =>
                    have hb192 : b0 < 192 := by
                      obtain ⟨⟨j, h1, h2⟩, _⟩ := hi13_1
                      omega
                    obtain ⟨hb1, hb2, hb3, hb4⟩ := hk b0 hb192
                    refine lv_iload X.1.1 X.1.2.1 d_Model_nearest_110 (gl_at hl rfl) ?_
                    refine lv_iconst (v := (-1)) X.1.1 X.1.2.1 d_Model_nearest_112 (by decide) ?_
                    refine lv_icmp_ne X.1.1 X.1.2.1 d_Model_nearest_113 rfl (fun hc113 => ?_) (fun hc113 => ?_)
                    · refine lv_aload_n X.1.1 X.1.2.1 d_Model_nearest_120 rfl (gl_at hl rfl) ?_
                      refine lv_iload_n X.1.1 X.1.2.1 d_Model_nearest_121 rfl (gl_at hl rfl) ?_
                      refine lv_iload X.1.1 X.1.2.1 d_Model_nearest_122 (gl_at hl rfl) ?_
                      refine lv_aload_n X.1.1 X.1.2.1 d_Model_nearest_124 rfl (gl_at hl rfl) ?_
                      refine g_get X kc_Model mo1 5 (by decide) lk_Model_19 rfl d_Model_nearest_125 ?_
                      refine lv_bipush (v := nI 8) X.1.1 X.1.2.1 d_Model_nearest_128 (by decide) ?_
                      refine lv_iload X.1.1 X.1.2.1 d_Model_nearest_130 (gl_at hl rfl) ?_
                      refine lv_imul X.1.1 X.1.2.1 d_Model_nearest_132 ?_
                      refine g_top (nI (8 * b0)) (pk_mul _ _) ?_
                      refine lv_aload_n X.1.1 X.1.2.1 d_Model_nearest_133 rfl (gl_at hl rfl) ?_
                      refine g_get X kc_Model mo1 6 (by decide) lk_Model_22 rfl d_Model_nearest_134 ?_
                      refine lv_iload X.1.1 X.1.2.1 d_Model_nearest_137 (gl_at hl rfl) ?_
                      have ma20 : va_at D CL (d + 5, .inl (q 0, 192, .inl (ar 5))) H := hR.a5
                      refine g_iald X 0 ma20 rfl b0 (by omega) (by omega) d_Model_nearest_139 ?_
                      refine g_top (nI ((kk b0).length)) hb2 ?_
                      refine g_cv (A := (fun _ => False)) X gWS_good mw_Model_150 kc_Model mo1 (c_Model_side l D q H d w ar hR c0 org srt bt tn mp hv hN kk hk v hvc (64 * mp v + i) (by omega) (d + 4) 1536 (ar 4) hR.a4 (8 * b0) _ (kk b0) rfl hb1 (by omega) (by omega) hb4) (fun _ _ _ => trivial) gBlind.tt rfl rfl hl.1 (Nat.le_of_ble_eq_true rfl) rfl rfl ⟨by decide, by decide⟩ ⟨by decide, by decide⟩ d_Model_nearest_140 (fun _ h => h.elim) hL (fun v21 H22 locs hp23 hL => ?_)
                      obtain ⟨⟨r2, rfl, hr2⟩, hHe⟩ := hp23
                      rw [hHe]
                      refine g_ist X.1.1 X.1.2.1 hl 12 d_Model_nearest_143 (Nat.le_of_ble_eq_true rfl) rfl (fun ls hl => ?_)
                      refine lv_iload X.1.1 X.1.2.1 d_Model_nearest_145 (gl_at hl rfl) ?_
                      refine lv_iconst (v := (-1)) X.1.1 X.1.2.1 d_Model_nearest_147 (by decide) ?_
                      refine lv_icmp_eq X.1.1 X.1.2.1 d_Model_nearest_148 rfl (fun hc148 => ?_) (fun hc148 => ?_)
                      · exact absurd hc148 (d_m1 (by omega))
                      · refine lv_iload_n X.1.1 X.1.2.1 d_Model_nearest_151 rfl (gl_at hl rfl) ?_
                        refine gn_eq0 X.1.1 X.1.2.1 bh (by omega) d_Model_nearest_152 rfl (fun hc152 => ?_) (fun hc152 => ?_)
                        · refine lv_iload X.1.1 X.1.2.1 d_Model_nearest_163 (gl_at hl rfl) ?_
                          refine lv_if_le X.1.1 X.1.2.1 d_Model_nearest_165 rfl (fun hc165 => ?_) (fun hc165 => ?_)
                          · refine g_iinc X.1.1 X.1.2.1 (nI (i + 1)) hl 9 d_Model_nearest_172 rfl (nI_1 _) rfl (fun ls hl => ?_)
                            refine lv_goto X.1.1 X.1.2.1 d_Model_nearest_175 rfl ?_
                            exact ih13 (i + 1) (some b0) locs ls (by omega) (by omega) (d_nr_keep hi13_1 (fun h9 => absurd hc152 h9) (fun _ => by rw [← hr2]; exact gi_le0 hc165)) hL (gl_forget (gl_forget (gl_forget hl 10) 11) 12)
                          · refine lv_iload X.1.1 X.1.2.1 d_Model_nearest_168 (gl_at hl rfl) ?_
                            refine g_ist X.1.1 X.1.2.1 hl 8 d_Model_nearest_170 (Nat.le_of_ble_eq_true rfl) rfl (fun ls hl => ?_)
                            refine g_iinc X.1.1 X.1.2.1 (nI (i + 1)) hl 9 d_Model_nearest_172 rfl (nI_1 _) rfl (fun ls hl => ?_)
                            refine lv_goto X.1.1 X.1.2.1 d_Model_nearest_175 rfl ?_
                            exact ih13 (i + 1) (some ((64 * (mp v)) + i)) locs ls (by omega) (by omega) (d_nr_take hi13_1 hok (fun h9 => absurd hc152 h9) (fun _ => by rw [← hr2]; exact gi_nle0 hc165)) hL (gl_forget (gl_forget (gl_forget hl 10) 11) 12)
                        · refine lv_iload X.1.1 X.1.2.1 d_Model_nearest_155 (gl_at hl rfl) ?_
                          refine lv_if_ge X.1.1 X.1.2.1 d_Model_nearest_157 rfl (fun hc157 => ?_) (fun hc157 => ?_)
                          · refine g_iinc X.1.1 X.1.2.1 (nI (i + 1)) hl 9 d_Model_nearest_172 rfl (nI_1 _) rfl (fun ls hl => ?_)
                            refine lv_goto X.1.1 X.1.2.1 d_Model_nearest_175 rfl ?_
                            exact ih13 (i + 1) (some b0) locs ls (by omega) (by omega) (d_nr_keep hi13_1 (fun _ => by rw [← hr2]; exact gi_ge hc157) (fun h9 => absurd h9 hc152)) hL (gl_forget (gl_forget (gl_forget hl 10) 11) 12)
                          · refine lv_goto X.1.1 X.1.2.1 d_Model_nearest_160 rfl ?_
                            refine lv_iload X.1.1 X.1.2.1 d_Model_nearest_168 (gl_at hl rfl) ?_
                            refine g_ist X.1.1 X.1.2.1 hl 8 d_Model_nearest_170 (Nat.le_of_ble_eq_true rfl) rfl (fun ls hl => ?_)
                            refine g_iinc X.1.1 X.1.2.1 (nI (i + 1)) hl 9 d_Model_nearest_172 rfl (nI_1 _) rfl (fun ls hl => ?_)
                            refine lv_goto X.1.1 X.1.2.1 d_Model_nearest_175 rfl ?_
                            exact ih13 (i + 1) (some ((64 * (mp v)) + i)) locs ls (by omega) (by omega) (d_nr_take hi13_1 hok (fun _ => by rw [← hr2]; exact gi_nge hc157) (fun h9 => absurd h9 hc152)) hL (gl_forget (gl_forget (gl_forget hl 10) 11) 12)
                    · exact absurd hc113 (d_m1 (by omega))
              · refine lv_goto X.1.1 X.1.2.1 d_Model_nearest_90 rfl ?_
                refine g_iinc X.1.1 X.1.2.1 (nI (i + 1)) hl 9 d_Model_nearest_172 rfl (nI_1 _) rfl (fun ls hl => ?_)
                refine lv_goto X.1.1 X.1.2.1 d_Model_nearest_175 rfl ?_
                exact ih13 (i + 1) o locs ls (by omega) (by omega) (d_nr_skip hi13_1 (fun h9 => by
                  have e1 := h9.2
                  unfold d_cd at e1
                  dsimp only at e1
                  rw [← hr] at e1
                  first
                  | (have e2 := gi_eq hc83; omega)
                  | (have e2 := gi_ne hc83; have e3 := gi_le0 hc95; omega)
                  | (have e2 := gi_nle0 hc95; omega))) hL (gl_forget (gl_forget hl 10) 11)
          · exact absurd hc51 (d_m1 (by omega))
        · replace hc42 := gz_f hc42
          refine lv_goto X.1.1 X.1.2.1 d_Model_nearest_45 rfl ?_
          refine g_iinc X.1.1 X.1.2.1 (nI (i + 1)) hl 9 d_Model_nearest_172 rfl (nI_1 _) rfl (fun ls hl => ?_)
          refine lv_goto X.1.1 X.1.2.1 d_Model_nearest_175 rfl ?_
          exact ih13 (i + 1) o locs ls (by omega) (by omega) (d_nr_skip hi13_1 (fun h9 => hc42 h9.1)) hL (gl_forget hl 10)
  exact loop13 _ 0 none locs ls (Nat.lt_succ_self _) (Nat.zero_le _) (fun j hj => absurd hj (Nat.not_lt_zero j)) hL hl

set_option maxHeartbeats 4000000 in
set_option maxRecDepth 100000 in
/-- nearest -/
theorem c_Model_nearestN (l : Launch) (D : va_G) (q : Nat → ClassId) (H : Heap) (d : Nat) (w : Nat → Int32) (ar : Nat → Nat → Int32) (hR : dR D q H d w ar) (c0 : Nat) (org : Nat → Option Nat) (srt : Nat → Nat) (bt : Nat → List Nat) (tn mp : Nat → Nat) (hv : pV w ar c0 org srt bt) (hN : pN c0 org srt tn mp) (kk : Nat → List Nat) (hk : pK ar kk) (n chg : Nat → Nat) (hm : pM ar n chg) (v : Nat) (hvc : v < c0) (bh sm : Nat) (hbh : bh ≤ 1) (hsm : sm ≤ 1) (pb ob : Nat) : gC l y_Model_nearest (Cond.code y_Model_nearest b_Model_nearest 13 (some .int) :: gWS) (gR 4 100 0 0) D CL (gY q) (fun _ => True) [.ref d, .int (nI v), .int (nI bh), .int (nI sm), .ref pb, .int (nI ob), .int (-1)] H (fun v1 H1 => (∃ o : Option Nat, v1 = some (.int (gm1 o)) ∧ d_nr (fun xs => v_in org srt bt v xs = true ∧ d_cd (tn v) bh sm none xs) (tn v) bh kk (64 * mp v) (n (mp v)) o) ∧ H1 = H) 0 0 (fun _ => False) := by
  refine gC.ofW R_Model "nearest" (by decide) rfl rfl ?_
  intro p e s m below meth c hadm X hE hH B hne
  refine g_entry [some (.ref d), some (.int (nI v)), some (.int (nI bh)), some (.int (nI sm)), some (.ref pb), some (.int (nI ob)), some (.int (-1)), none, none, none, none, none, none] rfl rfl (Nat.le_of_ble_eq_true rfl) (fun ls hl => ?_)
  have h12 := hv.2.2.1
  have hmp := (hN v hvc).1
  obtain ⟨hm1a, hm2, hm3⟩ := hm (mp v) hmp
  refine lv_aload_n X.1.1 X.1.2.1 d_Model_nearest_0 rfl (gl_at hl rfl) ?_
  refine lv_iload_n X.1.1 X.1.2.1 d_Model_nearest_1 rfl (gl_at hl rfl) ?_
  have mo1 : va_at D CL (d, .inr (10, [.int (w 0), .ref (d + 1), .int (w 2), .ref (d + 2), .ref (d + 3), .ref (d + 4), .ref (d + 5), .ref (d + 6), .int (w 8), .ref (d + 7), .ref (d + 8), .ref (d + 9), .ref (d + 10), .ref (d + 11), .ref (d + 12), .ref (d + 13), .ref (d + 14), .ref (d + 15), .ref (d + 16), .ref (d + 17), .int (w 20), .ref (d + 18), .int (w 22), .ref (d + 19), .ref (d + 20), .ref (d + 21), .int (w 26), .int (w 27), .int (w 28), .ref (d + 22), .ref (d + 23), .ref (d + 24), .ref (d + 25), .ref (d + 26), .int (w 34), .ref (d + 27), .ref (d + 28), .int (w 37), .int (w 38)])) H := hR.1
  refine g_cv (A := (fun _ => False)) X gWS_good mw_Model_114 kc_Model mo1 (c_Model_mapOf l D q H d w ar hR c0 org srt bt tn mp hv hN v hvc) (fun _ _ _ => trivial) gBlind.tt rfl rfl hl.1 (Nat.le_of_ble_eq_true rfl) rfl rfl ⟨by decide, by decide⟩ ⟨by decide, by decide⟩ d_Model_nearest_2 (fun _ h => h.elim) (fun _ h => by cases h) (fun v2 H3 locs hp4 hL => ?_)
  obtain ⟨rfl, hHe⟩ := hp4
  rw [hHe]
  refine g_ist X.1.1 X.1.2.1 hl 7 d_Model_nearest_5 (Nat.le_of_ble_eq_true rfl) rfl (fun ls hl => ?_)
  refine lv_iconst (v := (-1)) X.1.1 X.1.2.1 d_Model_nearest_7 (by decide) ?_
  refine g_ist X.1.1 X.1.2.1 hl 8 d_Model_nearest_8 (Nat.le_of_ble_eq_true rfl) rfl (fun ls hl => ?_)
  refine lv_iconst (v := nI 0) X.1.1 X.1.2.1 d_Model_nearest_10 (by decide) ?_
  refine g_ist X.1.1 X.1.2.1 hl 9 d_Model_nearest_11 (Nat.le_of_ble_eq_true rfl) rfl (fun ls hl => ?_)
  have loop13 : ∀ (fu : Nat) (i : Nat) (o : Option Nat) (locs : List Loc) (ls : Array Slot), n (mp v) - i < fu → (i ≤ n (mp v)) → (d_nr (fun xs => v_in org srt bt v xs = true ∧ d_cd (tn v) bh sm none xs) (tn v) bh kk (64 * mp v) i o) → (∀ x ∈ locs, (fun _ => False) x.base) → gl ls [some (.ref d), some (.int (nI v)), some (.int (nI bh)), some (.int (nI sm)), some (.ref pb), some (.int (nI ob)), some (.int (-1)), some (.int (nI (mp v))), some (.int (gm1 o)), some (.int (nI i)), none, none, none] → W p l e (gR 4 100 0 0) s m ([.ref d, .int (nI v), .int (nI bh), .int (nI sm), .ref pb, .int (nI ob), .int (-1)] : List Value).toArray below meth c H locs 0 0 (gQ below ([.ref d, .int (nI v), .int (nI bh), .int (nI sm), .ref pb, .int (nI ob), .int (-1)] : List Value).toArray s (fun v1 H1 => (∃ o : Option Nat, v1 = some (.int (gm1 o)) ∧ d_nr (fun xs => v_in org srt bt v xs = true ∧ d_cd (tn v) bh sm none xs) (tn v) bh kk (64 * mp v) (n (mp v)) o) ∧ H1 = H) 0 0 (fun _ => False)) (F0 m 13 ls []) := by
    intro fu
    induction fu with
    | zero => intro i o locs ls hmu; omega
    | succ fu ih13 =>
      intro i o locs ls hmu13 hi13_0 hi13_1 hL hl
      refine lv_iload X.1.1 X.1.2.1 d_Model_nearest_13 (gl_at hl rfl) ?_
      refine lv_aload_n X.1.1 X.1.2.1 d_Model_nearest_15 rfl (gl_at hl rfl) ?_
      refine g_get X kc_Model mo1 3 (by decide) lk_Model_13 rfl d_Model_nearest_16 ?_
      refine lv_iload X.1.1 X.1.2.1 d_Model_nearest_19 (gl_at hl rfl) ?_
      have ma5 : va_at D CL (d + 2, .inl (q 0, 3, .inl (ar 2))) H := hR.a2
      refine g_iald X 0 ma5 rfl (mp v) (by omega) (by omega) d_Model_nearest_21 ?_
      refine g_top (nI (n (mp v))) hm1a ?_
      refine gn_ge X.1.1 X.1.2.1 i (n (mp v)) (by omega) (by omega) d_Model_nearest_22 rfl (fun hc22 => ?_) (fun hc22 => ?_)
      · refine lv_iload X.1.1 X.1.2.1 d_Model_nearest_178 (gl_at hl rfl) ?_
        exact g_iret X B ⟨⟨o, rfl, by rw [show n (mp v) = i by omega]; exact hi13_1⟩, rfl⟩ hL d_Model_nearest_180 (by omega) (by omega)
      · refine lv_bipush (v := nI 64) X.1.1 X.1.2.1 d_Model_nearest_25 (by decide) ?_
        refine lv_iload X.1.1 X.1.2.1 d_Model_nearest_27 (gl_at hl rfl) ?_
        refine lv_imul X.1.1 X.1.2.1 d_Model_nearest_29 ?_
        refine g_top (nI (64 * (mp v))) (pk_mul _ _) ?_
        refine lv_iload X.1.1 X.1.2.1 d_Model_nearest_30 (gl_at hl rfl) ?_
        refine lv_iadd X.1.1 X.1.2.1 d_Model_nearest_32 ?_
        refine g_top (nI ((64 * (mp v)) + i)) (nI_add _ _) ?_
        refine g_ist X.1.1 X.1.2.1 hl 10 d_Model_nearest_33 (Nat.le_of_ble_eq_true rfl) rfl (fun ls hl => ?_)
        refine lv_aload_n X.1.1 X.1.2.1 d_Model_nearest_35 rfl (gl_at hl rfl) ?_
        refine lv_iload_n X.1.1 X.1.2.1 d_Model_nearest_36 rfl (gl_at hl rfl) ?_
        refine lv_iload X.1.1 X.1.2.1 d_Model_nearest_37 (gl_at hl rfl) ?_
        refine g_cv (A := (fun _ => False)) X gWS_good mw_Model_143 kc_Model mo1 (c_Model_has l D q H d w ar hR c0 org srt bt tn mp hv hN kk hk v hvc i (by omega)) (fun _ _ _ => trivial) gBlind.tt rfl rfl hl.1 (Nat.le_of_ble_eq_true rfl) rfl rfl ⟨by decide, by decide⟩ ⟨by decide, by decide⟩ d_Model_nearest_39 (fun _ h => h.elim) hL (fun v6 H7 locs hp8 hL => ?_)
        obtain ⟨rfl, hHe⟩ := hp8
        rw [hHe]
        refine lv_if_ne X.1.1 X.1.2.1 d_Model_nearest_42 rfl (fun hc42 => ?_) (fun hc42 => ?_)
        · replace hc42 := gz_t hc42
          refine lv_iload X.1.1 X.1.2.1 d_Model_nearest_48 (gl_at hl rfl) ?_
          refine lv_iconst (v := (-1)) X.1.1 X.1.2.1 d_Model_nearest_50 (by decide) ?_
          refine lv_icmp_ne X.1.1 X.1.2.1 d_Model_nearest_51 rfl (fun hc51 => ?_) (fun hc51 => ?_)
          · exact absurd rfl hc51
          · refine lv_iload_n X.1.1 X.1.2.1 d_Model_nearest_54 rfl (gl_at hl rfl) ?_
            refine gn_eq0 X.1.1 X.1.2.1 bh (by omega) d_Model_nearest_55 rfl (fun hc55 => ?_) (fun hc55 => ?_)
            · refine lv_iconst (v := (-1)) X.1.1 X.1.2.1 d_Model_nearest_62 (by decide) ?_
              refine lv_goto X.1.1 X.1.2.1 d_Model_nearest_63 rfl ?_
              refine g_ist X.1.1 X.1.2.1 hl 11 d_Model_nearest_79 (Nat.le_of_ble_eq_true rfl) rfl (fun ls hl => ?_)
              refine lv_iload X.1.1 X.1.2.1 d_Model_nearest_81 (gl_at hl rfl) ?_
              refine lv_if_ne X.1.1 X.1.2.1 d_Model_nearest_83 rfl (fun hc83 => ?_) (fun hc83 => ?_)
              · refine lv_iload X.1.1 X.1.2.1 d_Model_nearest_93 (gl_at hl rfl) ?_
                refine lv_if_le X.1.1 X.1.2.1 d_Model_nearest_95 rfl (fun hc95 => ?_) (fun hc95 => ?_)
                · refine lv_iconst (v := nI 0) X.1.1 X.1.2.1 d_Model_nearest_102 (by decide) ?_
                  refine lv_iload_n X.1.1 X.1.2.1 d_Model_nearest_103 rfl (gl_at hl rfl) ?_
                  refine gn_eq X.1.1 X.1.2.1 0 bh (by omega) (by omega) d_Model_nearest_104 rfl (fun hc104 => ?_) (fun hc104 => ?_)
                  · have hok : (fun xs => v_in org srt bt v xs = true ∧ d_cd (tn v) bh sm none xs) (kk (64 * mp v + i)) := ⟨hc42, trivial⟩
                    cases o with
                    | none =>
                        refine lv_iload X.1.1 X.1.2.1 d_Model_nearest_110 (gl_at hl rfl) ?_
                        refine lv_iconst (v := (-1)) X.1.1 X.1.2.1 d_Model_nearest_112 (by decide) ?_
                        refine lv_icmp_ne X.1.1 X.1.2.1 d_Model_nearest_113 rfl (fun hc113 => ?_) (fun hc113 => ?_)
                        · exact absurd rfl hc113
                        · refine lv_iconst (v := nI 0) X.1.1 X.1.2.1 d_Model_nearest_116 (by decide) ?_
                          refine lv_goto X.1.1 X.1.2.1 d_Model_nearest_117 rfl ?_
                          refine g_ist X.1.1 X.1.2.1 hl 12 d_Model_nearest_143 (Nat.le_of_ble_eq_true rfl) rfl (fun ls hl => ?_)
                          refine lv_iload X.1.1 X.1.2.1 d_Model_nearest_145 (gl_at hl rfl) ?_
                          refine lv_iconst (v := (-1)) X.1.1 X.1.2.1 d_Model_nearest_147 (by decide) ?_
                          refine lv_icmp_eq X.1.1 X.1.2.1 d_Model_nearest_148 rfl (fun hc148 => ?_) (fun hc148 => ?_)
                          · refine lv_iload X.1.1 X.1.2.1 d_Model_nearest_168 (gl_at hl rfl) ?_
                            refine g_ist X.1.1 X.1.2.1 hl 8 d_Model_nearest_170 (Nat.le_of_ble_eq_true rfl) rfl (fun ls hl => ?_)
                            refine g_iinc X.1.1 X.1.2.1 (nI (i + 1)) hl 9 d_Model_nearest_172 rfl (nI_1 _) rfl (fun ls hl => ?_)
                            refine lv_goto X.1.1 X.1.2.1 d_Model_nearest_175 rfl ?_
                            exact ih13 (i + 1) (some ((64 * (mp v)) + i)) locs ls (by omega) (by omega) (d_nr_first hi13_1 hok) hL (gl_forget (gl_forget (gl_forget hl 10) 11) 12)
                          · exact absurd rfl hc148
                    | some b0 =>
                        have hb192 : b0 < 192 := by
                          obtain ⟨⟨j, h1, h2⟩, _⟩ := hi13_1
                          omega
                        obtain ⟨hb1, hb2, hb3, hb4⟩ := hk b0 hb192
                        refine lv_iload X.1.1 X.1.2.1 d_Model_nearest_110 (gl_at hl rfl) ?_
                        refine lv_iconst (v := (-1)) X.1.1 X.1.2.1 d_Model_nearest_112 (by decide) ?_
                        refine lv_icmp_ne X.1.1 X.1.2.1 d_Model_nearest_113 rfl (fun hc113 => ?_) (fun hc113 => ?_)
                        · refine lv_aload_n X.1.1 X.1.2.1 d_Model_nearest_120 rfl (gl_at hl rfl) ?_
                          refine lv_iload_n X.1.1 X.1.2.1 d_Model_nearest_121 rfl (gl_at hl rfl) ?_
                          refine lv_iload X.1.1 X.1.2.1 d_Model_nearest_122 (gl_at hl rfl) ?_
                          refine lv_aload_n X.1.1 X.1.2.1 d_Model_nearest_124 rfl (gl_at hl rfl) ?_
                          refine g_get X kc_Model mo1 5 (by decide) lk_Model_19 rfl d_Model_nearest_125 ?_
                          refine lv_bipush (v := nI 8) X.1.1 X.1.2.1 d_Model_nearest_128 (by decide) ?_
                          refine lv_iload X.1.1 X.1.2.1 d_Model_nearest_130 (gl_at hl rfl) ?_
                          refine lv_imul X.1.1 X.1.2.1 d_Model_nearest_132 ?_
                          refine g_top (nI (8 * b0)) (pk_mul _ _) ?_
                          refine lv_aload_n X.1.1 X.1.2.1 d_Model_nearest_133 rfl (gl_at hl rfl) ?_
                          refine g_get X kc_Model mo1 6 (by decide) lk_Model_22 rfl d_Model_nearest_134 ?_
                          refine lv_iload X.1.1 X.1.2.1 d_Model_nearest_137 (gl_at hl rfl) ?_
                          have ma9 : va_at D CL (d + 5, .inl (q 0, 192, .inl (ar 5))) H := hR.a5
                          refine g_iald X 0 ma9 rfl b0 (by omega) (by omega) d_Model_nearest_139 ?_
                          refine g_top (nI ((kk b0).length)) hb2 ?_
                          refine g_cv (A := (fun _ => False)) X gWS_good mw_Model_150 kc_Model mo1 (c_Model_side l D q H d w ar hR c0 org srt bt tn mp hv hN kk hk v hvc (64 * mp v + i) (by omega) (d + 4) 1536 (ar 4) hR.a4 (8 * b0) _ (kk b0) rfl hb1 (by omega) (by omega) hb4) (fun _ _ _ => trivial) gBlind.tt rfl rfl hl.1 (Nat.le_of_ble_eq_true rfl) rfl rfl ⟨by decide, by decide⟩ ⟨by decide, by decide⟩ d_Model_nearest_140 (fun _ h => h.elim) hL (fun v10 H11 locs hp12 hL => ?_)
                          obtain ⟨⟨r2, rfl, hr2⟩, hHe⟩ := hp12
                          rw [hHe]
                          refine g_ist X.1.1 X.1.2.1 hl 12 d_Model_nearest_143 (Nat.le_of_ble_eq_true rfl) rfl (fun ls hl => ?_)
                          refine lv_iload X.1.1 X.1.2.1 d_Model_nearest_145 (gl_at hl rfl) ?_
                          refine lv_iconst (v := (-1)) X.1.1 X.1.2.1 d_Model_nearest_147 (by decide) ?_
                          refine lv_icmp_eq X.1.1 X.1.2.1 d_Model_nearest_148 rfl (fun hc148 => ?_) (fun hc148 => ?_)
                          · exact absurd hc148 (d_m1 (by omega))
                          · refine lv_iload_n X.1.1 X.1.2.1 d_Model_nearest_151 rfl (gl_at hl rfl) ?_
                            refine gn_eq0 X.1.1 X.1.2.1 bh (by omega) d_Model_nearest_152 rfl (fun hc152 => ?_) (fun hc152 => ?_)
                            · refine lv_iload X.1.1 X.1.2.1 d_Model_nearest_163 (gl_at hl rfl) ?_
                              refine lv_if_le X.1.1 X.1.2.1 d_Model_nearest_165 rfl (fun hc165 => ?_) (fun hc165 => ?_)
                              · refine g_iinc X.1.1 X.1.2.1 (nI (i + 1)) hl 9 d_Model_nearest_172 rfl (nI_1 _) rfl (fun ls hl => ?_)
                                refine lv_goto X.1.1 X.1.2.1 d_Model_nearest_175 rfl ?_
                                exact ih13 (i + 1) (some b0) locs ls (by omega) (by omega) (d_nr_keep hi13_1 (fun h9 => absurd hc152 h9) (fun _ => by rw [← hr2]; exact gi_le0 hc165)) hL (gl_forget (gl_forget (gl_forget hl 10) 11) 12)
                              · refine lv_iload X.1.1 X.1.2.1 d_Model_nearest_168 (gl_at hl rfl) ?_
                                refine g_ist X.1.1 X.1.2.1 hl 8 d_Model_nearest_170 (Nat.le_of_ble_eq_true rfl) rfl (fun ls hl => ?_)
                                refine g_iinc X.1.1 X.1.2.1 (nI (i + 1)) hl 9 d_Model_nearest_172 rfl (nI_1 _) rfl (fun ls hl => ?_)
                                refine lv_goto X.1.1 X.1.2.1 d_Model_nearest_175 rfl ?_
                                exact ih13 (i + 1) (some ((64 * (mp v)) + i)) locs ls (by omega) (by omega) (d_nr_take hi13_1 hok (fun h9 => absurd hc152 h9) (fun _ => by rw [← hr2]; exact gi_nle0 hc165)) hL (gl_forget (gl_forget (gl_forget hl 10) 11) 12)
                            · refine lv_iload X.1.1 X.1.2.1 d_Model_nearest_155 (gl_at hl rfl) ?_
                              refine lv_if_ge X.1.1 X.1.2.1 d_Model_nearest_157 rfl (fun hc157 => ?_) (fun hc157 => ?_)
                              · refine g_iinc X.1.1 X.1.2.1 (nI (i + 1)) hl 9 d_Model_nearest_172 rfl (nI_1 _) rfl (fun ls hl => ?_)
                                refine lv_goto X.1.1 X.1.2.1 d_Model_nearest_175 rfl ?_
                                exact ih13 (i + 1) (some b0) locs ls (by omega) (by omega) (d_nr_keep hi13_1 (fun _ => by rw [← hr2]; exact gi_ge hc157) (fun h9 => absurd h9 hc152)) hL (gl_forget (gl_forget (gl_forget hl 10) 11) 12)
                              · refine lv_goto X.1.1 X.1.2.1 d_Model_nearest_160 rfl ?_
                                refine lv_iload X.1.1 X.1.2.1 d_Model_nearest_168 (gl_at hl rfl) ?_
                                refine g_ist X.1.1 X.1.2.1 hl 8 d_Model_nearest_170 (Nat.le_of_ble_eq_true rfl) rfl (fun ls hl => ?_)
                                refine g_iinc X.1.1 X.1.2.1 (nI (i + 1)) hl 9 d_Model_nearest_172 rfl (nI_1 _) rfl (fun ls hl => ?_)
                                refine lv_goto X.1.1 X.1.2.1 d_Model_nearest_175 rfl ?_
                                exact ih13 (i + 1) (some ((64 * (mp v)) + i)) locs ls (by omega) (by omega) (d_nr_take hi13_1 hok (fun _ => by rw [← hr2]; exact gi_nge hc157) (fun h9 => absurd h9 hc152)) hL (gl_forget (gl_forget (gl_forget hl 10) 11) 12)
                        · exact absurd hc113 (d_m1 (by omega))
                  · omega
                · exact absurd (by decide) hc95
              · exact absurd hc83 (by decide)
            · refine lv_iconst (v := nI 1) X.1.1 X.1.2.1 d_Model_nearest_58 (by decide) ?_
              refine lv_goto X.1.1 X.1.2.1 d_Model_nearest_59 rfl ?_
              refine g_ist X.1.1 X.1.2.1 hl 11 d_Model_nearest_79 (Nat.le_of_ble_eq_true rfl) rfl (fun ls hl => ?_)
              refine lv_iload X.1.1 X.1.2.1 d_Model_nearest_81 (gl_at hl rfl) ?_
              refine gn_ne0 X.1.1 X.1.2.1 1 (by omega) d_Model_nearest_83 rfl (fun hc83 => ?_) (fun hc83 => ?_)
              · refine lv_iload X.1.1 X.1.2.1 d_Model_nearest_93 (gl_at hl rfl) ?_
                refine gn_le0 X.1.1 X.1.2.1 1 (by omega) d_Model_nearest_95 rfl (fun hc95 => ?_) (fun hc95 => ?_)
                · omega
                · refine lv_iconst (v := nI 1) X.1.1 X.1.2.1 d_Model_nearest_98 (by decide) ?_
                  refine lv_goto X.1.1 X.1.2.1 d_Model_nearest_99 rfl ?_
                  refine lv_iload_n X.1.1 X.1.2.1 d_Model_nearest_103 rfl (gl_at hl rfl) ?_
                  refine gn_eq X.1.1 X.1.2.1 1 bh (by omega) (by omega) d_Model_nearest_104 rfl (fun hc104 => ?_) (fun hc104 => ?_)
                  · have hok : (fun xs => v_in org srt bt v xs = true ∧ d_cd (tn v) bh sm none xs) (kk (64 * mp v + i)) := ⟨hc42, trivial⟩
                    cases o with
                    | none =>
                        refine lv_iload X.1.1 X.1.2.1 d_Model_nearest_110 (gl_at hl rfl) ?_
                        refine lv_iconst (v := (-1)) X.1.1 X.1.2.1 d_Model_nearest_112 (by decide) ?_
                        refine lv_icmp_ne X.1.1 X.1.2.1 d_Model_nearest_113 rfl (fun hc113 => ?_) (fun hc113 => ?_)
                        · exact absurd rfl hc113
                        · refine lv_iconst (v := nI 0) X.1.1 X.1.2.1 d_Model_nearest_116 (by decide) ?_
                          refine lv_goto X.1.1 X.1.2.1 d_Model_nearest_117 rfl ?_
                          refine g_ist X.1.1 X.1.2.1 hl 12 d_Model_nearest_143 (Nat.le_of_ble_eq_true rfl) rfl (fun ls hl => ?_)
                          refine lv_iload X.1.1 X.1.2.1 d_Model_nearest_145 (gl_at hl rfl) ?_
                          refine lv_iconst (v := (-1)) X.1.1 X.1.2.1 d_Model_nearest_147 (by decide) ?_
                          refine lv_icmp_eq X.1.1 X.1.2.1 d_Model_nearest_148 rfl (fun hc148 => ?_) (fun hc148 => ?_)
                          · refine lv_iload X.1.1 X.1.2.1 d_Model_nearest_168 (gl_at hl rfl) ?_
                            refine g_ist X.1.1 X.1.2.1 hl 8 d_Model_nearest_170 (Nat.le_of_ble_eq_true rfl) rfl (fun ls hl => ?_)
                            refine g_iinc X.1.1 X.1.2.1 (nI (i + 1)) hl 9 d_Model_nearest_172 rfl (nI_1 _) rfl (fun ls hl => ?_)
                            refine lv_goto X.1.1 X.1.2.1 d_Model_nearest_175 rfl ?_
                            exact ih13 (i + 1) (some ((64 * (mp v)) + i)) locs ls (by omega) (by omega) (d_nr_first hi13_1 hok) hL (gl_forget (gl_forget (gl_forget hl 10) 11) 12)
                          · exact absurd rfl hc148
                    | some b0 =>
                        have hb192 : b0 < 192 := by
                          obtain ⟨⟨j, h1, h2⟩, _⟩ := hi13_1
                          omega
                        obtain ⟨hb1, hb2, hb3, hb4⟩ := hk b0 hb192
                        refine lv_iload X.1.1 X.1.2.1 d_Model_nearest_110 (gl_at hl rfl) ?_
                        refine lv_iconst (v := (-1)) X.1.1 X.1.2.1 d_Model_nearest_112 (by decide) ?_
                        refine lv_icmp_ne X.1.1 X.1.2.1 d_Model_nearest_113 rfl (fun hc113 => ?_) (fun hc113 => ?_)
                        · refine lv_aload_n X.1.1 X.1.2.1 d_Model_nearest_120 rfl (gl_at hl rfl) ?_
                          refine lv_iload_n X.1.1 X.1.2.1 d_Model_nearest_121 rfl (gl_at hl rfl) ?_
                          refine lv_iload X.1.1 X.1.2.1 d_Model_nearest_122 (gl_at hl rfl) ?_
                          refine lv_aload_n X.1.1 X.1.2.1 d_Model_nearest_124 rfl (gl_at hl rfl) ?_
                          refine g_get X kc_Model mo1 5 (by decide) lk_Model_19 rfl d_Model_nearest_125 ?_
                          refine lv_bipush (v := nI 8) X.1.1 X.1.2.1 d_Model_nearest_128 (by decide) ?_
                          refine lv_iload X.1.1 X.1.2.1 d_Model_nearest_130 (gl_at hl rfl) ?_
                          refine lv_imul X.1.1 X.1.2.1 d_Model_nearest_132 ?_
                          refine g_top (nI (8 * b0)) (pk_mul _ _) ?_
                          refine lv_aload_n X.1.1 X.1.2.1 d_Model_nearest_133 rfl (gl_at hl rfl) ?_
                          refine g_get X kc_Model mo1 6 (by decide) lk_Model_22 rfl d_Model_nearest_134 ?_
                          refine lv_iload X.1.1 X.1.2.1 d_Model_nearest_137 (gl_at hl rfl) ?_
                          have ma13 : va_at D CL (d + 5, .inl (q 0, 192, .inl (ar 5))) H := hR.a5
                          refine g_iald X 0 ma13 rfl b0 (by omega) (by omega) d_Model_nearest_139 ?_
                          refine g_top (nI ((kk b0).length)) hb2 ?_
                          refine g_cv (A := (fun _ => False)) X gWS_good mw_Model_150 kc_Model mo1 (c_Model_side l D q H d w ar hR c0 org srt bt tn mp hv hN kk hk v hvc (64 * mp v + i) (by omega) (d + 4) 1536 (ar 4) hR.a4 (8 * b0) _ (kk b0) rfl hb1 (by omega) (by omega) hb4) (fun _ _ _ => trivial) gBlind.tt rfl rfl hl.1 (Nat.le_of_ble_eq_true rfl) rfl rfl ⟨by decide, by decide⟩ ⟨by decide, by decide⟩ d_Model_nearest_140 (fun _ h => h.elim) hL (fun v14 H15 locs hp16 hL => ?_)
                          obtain ⟨⟨r2, rfl, hr2⟩, hHe⟩ := hp16
                          rw [hHe]
                          refine g_ist X.1.1 X.1.2.1 hl 12 d_Model_nearest_143 (Nat.le_of_ble_eq_true rfl) rfl (fun ls hl => ?_)
                          refine lv_iload X.1.1 X.1.2.1 d_Model_nearest_145 (gl_at hl rfl) ?_
                          refine lv_iconst (v := (-1)) X.1.1 X.1.2.1 d_Model_nearest_147 (by decide) ?_
                          refine lv_icmp_eq X.1.1 X.1.2.1 d_Model_nearest_148 rfl (fun hc148 => ?_) (fun hc148 => ?_)
                          · exact absurd hc148 (d_m1 (by omega))
                          · refine lv_iload_n X.1.1 X.1.2.1 d_Model_nearest_151 rfl (gl_at hl rfl) ?_
                            refine gn_eq0 X.1.1 X.1.2.1 bh (by omega) d_Model_nearest_152 rfl (fun hc152 => ?_) (fun hc152 => ?_)
                            · refine lv_iload X.1.1 X.1.2.1 d_Model_nearest_163 (gl_at hl rfl) ?_
                              refine lv_if_le X.1.1 X.1.2.1 d_Model_nearest_165 rfl (fun hc165 => ?_) (fun hc165 => ?_)
                              · refine g_iinc X.1.1 X.1.2.1 (nI (i + 1)) hl 9 d_Model_nearest_172 rfl (nI_1 _) rfl (fun ls hl => ?_)
                                refine lv_goto X.1.1 X.1.2.1 d_Model_nearest_175 rfl ?_
                                exact ih13 (i + 1) (some b0) locs ls (by omega) (by omega) (d_nr_keep hi13_1 (fun h9 => absurd hc152 h9) (fun _ => by rw [← hr2]; exact gi_le0 hc165)) hL (gl_forget (gl_forget (gl_forget hl 10) 11) 12)
                              · refine lv_iload X.1.1 X.1.2.1 d_Model_nearest_168 (gl_at hl rfl) ?_
                                refine g_ist X.1.1 X.1.2.1 hl 8 d_Model_nearest_170 (Nat.le_of_ble_eq_true rfl) rfl (fun ls hl => ?_)
                                refine g_iinc X.1.1 X.1.2.1 (nI (i + 1)) hl 9 d_Model_nearest_172 rfl (nI_1 _) rfl (fun ls hl => ?_)
                                refine lv_goto X.1.1 X.1.2.1 d_Model_nearest_175 rfl ?_
                                exact ih13 (i + 1) (some ((64 * (mp v)) + i)) locs ls (by omega) (by omega) (d_nr_take hi13_1 hok (fun h9 => absurd hc152 h9) (fun _ => by rw [← hr2]; exact gi_nle0 hc165)) hL (gl_forget (gl_forget (gl_forget hl 10) 11) 12)
                            · refine lv_iload X.1.1 X.1.2.1 d_Model_nearest_155 (gl_at hl rfl) ?_
                              refine lv_if_ge X.1.1 X.1.2.1 d_Model_nearest_157 rfl (fun hc157 => ?_) (fun hc157 => ?_)
                              · refine g_iinc X.1.1 X.1.2.1 (nI (i + 1)) hl 9 d_Model_nearest_172 rfl (nI_1 _) rfl (fun ls hl => ?_)
                                refine lv_goto X.1.1 X.1.2.1 d_Model_nearest_175 rfl ?_
                                exact ih13 (i + 1) (some b0) locs ls (by omega) (by omega) (d_nr_keep hi13_1 (fun _ => by rw [← hr2]; exact gi_ge hc157) (fun h9 => absurd h9 hc152)) hL (gl_forget (gl_forget (gl_forget hl 10) 11) 12)
                              · refine lv_goto X.1.1 X.1.2.1 d_Model_nearest_160 rfl ?_
                                refine lv_iload X.1.1 X.1.2.1 d_Model_nearest_168 (gl_at hl rfl) ?_
                                refine g_ist X.1.1 X.1.2.1 hl 8 d_Model_nearest_170 (Nat.le_of_ble_eq_true rfl) rfl (fun ls hl => ?_)
                                refine g_iinc X.1.1 X.1.2.1 (nI (i + 1)) hl 9 d_Model_nearest_172 rfl (nI_1 _) rfl (fun ls hl => ?_)
                                refine lv_goto X.1.1 X.1.2.1 d_Model_nearest_175 rfl ?_
                                exact ih13 (i + 1) (some ((64 * (mp v)) + i)) locs ls (by omega) (by omega) (d_nr_take hi13_1 hok (fun _ => by rw [← hr2]; exact gi_nge hc157) (fun h9 => absurd h9 hc152)) hL (gl_forget (gl_forget (gl_forget hl 10) 11) 12)
                        · exact absurd hc113 (d_m1 (by omega))
                  · omega
              · omega
        · replace hc42 := gz_f hc42
          refine lv_goto X.1.1 X.1.2.1 d_Model_nearest_45 rfl ?_
          refine g_iinc X.1.1 X.1.2.1 (nI (i + 1)) hl 9 d_Model_nearest_172 rfl (nI_1 _) rfl (fun ls hl => ?_)
          refine lv_goto X.1.1 X.1.2.1 d_Model_nearest_175 rfl ?_
          exact ih13 (i + 1) o locs ls (by omega) (by omega) (d_nr_skip hi13_1 (fun h9 => hc42 h9.1)) hL (gl_forget hl 10)
  exact loop13 _ 0 none locs ls (Nat.lt_succ_self _) (Nat.zero_le _) (fun j hj => absurd hj (Nat.not_lt_zero j)) hL hl

/-- the longest of those among n keys that are good -/
def d_lg (ok : List Nat → Prop) (kk : Nat → List Nat) (lo n : Nat) : Option Nat → Prop
  | none => ∀ j, j < n → ¬ ok (kk (lo + j))
  | some r => (∃ j, j < n ∧ r = lo + j) ∧ ok (kk r) ∧ ∀ j, j < n → ok (kk (lo + j)) → (kk (lo + j)).length ≤ (kk r).length
theorem d_lg_skip {ok : List Nat → Prop} {kk : Nat → List Nat} {lo n : Nat} {o : Option Nat} (h : d_lg ok kk lo n o) (hn : ok (kk (lo + n)) → ∃ r, o = some r ∧ (kk (lo + n)).length ≤ (kk r).length) : d_lg ok kk lo (n + 1) o := by
  cases o with
  | none => exact lt_s h (fun h9 => by obtain ⟨r, h8, _⟩ := hn h9; cases h8)
  | some r =>
    obtain ⟨⟨j, h1, h2⟩, h3, h4⟩ := h
    exact ⟨⟨j, by omega, h2⟩, h3, lt_s h4 (fun h9 => by obtain ⟨r1, h8, h7⟩ := hn h9; cases h8; exact h7)⟩
theorem d_lg_take {ok : List Nat → Prop} {kk : Nat → List Nat} {lo n : Nat} {o : Option Nat} (h : d_lg ok kk lo n o) (hn : ok (kk (lo + n))) (h1 : ∀ r, o = some r → (kk r).length ≤ (kk (lo + n)).length) : d_lg ok kk lo (n + 1) (some (lo + n)) := by
  cases o with
  | none => exact ⟨⟨n, by omega, rfl⟩, hn, lt_s (fun j hj h9 => absurd h9 (h j hj)) (fun _ => Nat.le_refl _)⟩
  | some r =>
    obtain ⟨_, h3, h4⟩ := h
    exact ⟨⟨n, by omega, rfl⟩, hn, lt_s (fun j hj h9 => Nat.le_trans (h4 j hj h9) (h1 r rfl)) (fun _ => Nat.le_refl _)⟩
/-- what a text names in a view -/
def d_us (org : Nat → Option Nat) (srt : Nat → Nat) (bt : Nat → List Nat) (v m n : Nat) (kk : Nat → List Nat) (xs : List Nat) (o : Option Nat) : Prop := (v_in org srt bt v xs = true ∧ d_ky kk m n xs o) ∨ (¬ v_in org srt bt v xs = true ∧ o = none)

set_option maxHeartbeats 4000000 in
set_option maxRecDepth 100000 in
/-- longest -/
theorem c_Model_longest (l : Launch) (D : va_G) (q : Nat → ClassId) (H : Heap) (d : Nat) (w : Nat → Int32) (ar : Nat → Nat → Int32) (hR : dR D q H d w ar) (c0 : Nat) (org : Nat → Option Nat) (srt : Nat → Nat) (bt : Nat → List Nat) (tn mp : Nat → Nat) (hv : pV w ar c0 org srt bt) (hN : pN c0 org srt tn mp) (kk : Nat → List Nat) (hk : pK ar kk) (n chg : Nat → Nat) (hm : pM ar n chg) (tp : List Nat) (ht1 : tXo (ar 1) 0 tp) (ht2 : tp.length ≤ 8) (ht3 : t16 tp) (v : Nat) (hvc : v < c0) : gC l y_Model_longest (Cond.code y_Model_longest b_Model_longest 8 (some .int) :: gWS) (gR 4 100 0 0) D CL (gY q) (fun _ => True) [.ref d, .int (nI v), .int (nI tp.length)] H (fun v1 H1 => (∃ o : Option Nat, v1 = some (.int (gm1 o)) ∧ d_lg (fun xs => v_in org srt bt v xs = true ∧ t_lcp tp xs = xs.length) kk (64 * mp v) (n (mp v)) o) ∧ H1 = H) 0 0 (fun _ => False) := by
  refine gC.ofW R_Model "longest" (by decide) rfl rfl ?_
  intro p e s m below meth c hadm X hE hH B hne
  refine g_entry [some (.ref d), some (.int (nI v)), some (.int (nI tp.length)), none, none, none, none, none] rfl rfl (Nat.le_of_ble_eq_true rfl) (fun ls hl => ?_)
  have h12 := hv.2.2.1
  have hmp := (hN v hvc).1
  obtain ⟨hm1a, hm2, hm3⟩ := hm (mp v) hmp
  refine lv_aload_n X.1.1 X.1.2.1 d_Model_longest_0 rfl (gl_at hl rfl) ?_
  refine lv_iload_n X.1.1 X.1.2.1 d_Model_longest_1 rfl (gl_at hl rfl) ?_
  have mo1 : va_at D CL (d, .inr (10, [.int (w 0), .ref (d + 1), .int (w 2), .ref (d + 2), .ref (d + 3), .ref (d + 4), .ref (d + 5), .ref (d + 6), .int (w 8), .ref (d + 7), .ref (d + 8), .ref (d + 9), .ref (d + 10), .ref (d + 11), .ref (d + 12), .ref (d + 13), .ref (d + 14), .ref (d + 15), .ref (d + 16), .ref (d + 17), .int (w 20), .ref (d + 18), .int (w 22), .ref (d + 19), .ref (d + 20), .ref (d + 21), .int (w 26), .int (w 27), .int (w 28), .ref (d + 22), .ref (d + 23), .ref (d + 24), .ref (d + 25), .ref (d + 26), .int (w 34), .ref (d + 27), .ref (d + 28), .int (w 37), .int (w 38)])) H := hR.1
  refine g_cv (A := (fun _ => False)) X gWS_good mw_Model_114 kc_Model mo1 (c_Model_mapOf l D q H d w ar hR c0 org srt bt tn mp hv hN v hvc) (fun _ _ _ => trivial) gBlind.tt rfl rfl hl.1 (Nat.le_of_ble_eq_true rfl) rfl rfl ⟨by decide, by decide⟩ ⟨by decide, by decide⟩ d_Model_longest_2 (fun _ h => h.elim) (fun _ h => by cases h) (fun v2 H3 locs hp4 hL => ?_)
  obtain ⟨rfl, hHe⟩ := hp4
  rw [hHe]
  refine g_istn X.1.1 X.1.2.1 hl 3 d_Model_longest_5 rfl (Nat.le_of_ble_eq_true rfl) rfl (fun ls hl => ?_)
  refine lv_iconst (v := (-1)) X.1.1 X.1.2.1 d_Model_longest_6 (by decide) ?_
  refine g_ist X.1.1 X.1.2.1 hl 4 d_Model_longest_7 (Nat.le_of_ble_eq_true rfl) rfl (fun ls hl => ?_)
  refine lv_iconst (v := nI 0) X.1.1 X.1.2.1 d_Model_longest_9 (by decide) ?_
  refine g_ist X.1.1 X.1.2.1 hl 5 d_Model_longest_10 (Nat.le_of_ble_eq_true rfl) rfl (fun ls hl => ?_)
  have loop12 : ∀ (fu : Nat) (i : Nat) (o : Option Nat) (locs : List Loc) (ls : Array Slot), n (mp v) - i < fu → (i ≤ n (mp v)) → (d_lg (fun xs => v_in org srt bt v xs = true ∧ t_lcp tp xs = xs.length) kk (64 * mp v) i o) → (∀ x ∈ locs, (fun _ => False) x.base) → gl ls [some (.ref d), some (.int (nI v)), some (.int (nI tp.length)), some (.int (nI (mp v))), some (.int (gm1 o)), some (.int (nI i)), none, none] → W p l e (gR 4 100 0 0) s m ([.ref d, .int (nI v), .int (nI tp.length)] : List Value).toArray below meth c H locs 0 0 (gQ below ([.ref d, .int (nI v), .int (nI tp.length)] : List Value).toArray s (fun v1 H1 => (∃ o : Option Nat, v1 = some (.int (gm1 o)) ∧ d_lg (fun xs => v_in org srt bt v xs = true ∧ t_lcp tp xs = xs.length) kk (64 * mp v) (n (mp v)) o) ∧ H1 = H) 0 0 (fun _ => False)) (F0 m 12 ls []) := by
    intro fu
    induction fu with
    | zero => intro i o locs ls hmu; omega
    | succ fu ih12 =>
      intro i o locs ls hmu12 hi12_0 hi12_1 hL hl
      refine lv_iload X.1.1 X.1.2.1 d_Model_longest_12 (gl_at hl rfl) ?_
      refine lv_aload_n X.1.1 X.1.2.1 d_Model_longest_14 rfl (gl_at hl rfl) ?_
      refine g_get X kc_Model mo1 3 (by decide) lk_Model_13 rfl d_Model_longest_15 ?_
      refine lv_iload_n X.1.1 X.1.2.1 d_Model_longest_18 rfl (gl_at hl rfl) ?_
      have ma5 : va_at D CL (d + 2, .inl (q 0, 3, .inl (ar 2))) H := hR.a2
      refine g_iald X 0 ma5 rfl (mp v) (by omega) (by omega) d_Model_longest_19 ?_
      refine g_top (nI (n (mp v))) hm1a ?_
      refine gn_ge X.1.1 X.1.2.1 i (n (mp v)) (by omega) (by omega) d_Model_longest_20 rfl (fun hc20 => ?_) (fun hc20 => ?_)
      · refine lv_iload X.1.1 X.1.2.1 d_Model_longest_115 (gl_at hl rfl) ?_
        exact g_iret X B ⟨⟨o, rfl, by rw [show n (mp v) = i by omega]; exact hi12_1⟩, rfl⟩ hL d_Model_longest_117 (by omega) (by omega)
      · obtain ⟨hx1, hx2, hx3, hx4⟩ := hk (64 * mp v + i) (by omega)
        refine lv_bipush (v := nI 64) X.1.1 X.1.2.1 d_Model_longest_23 (by decide) ?_
        refine lv_iload_n X.1.1 X.1.2.1 d_Model_longest_25 rfl (gl_at hl rfl) ?_
        refine lv_imul X.1.1 X.1.2.1 d_Model_longest_26 ?_
        refine g_top (nI (64 * (mp v))) (pk_mul _ _) ?_
        refine lv_iload X.1.1 X.1.2.1 d_Model_longest_27 (gl_at hl rfl) ?_
        refine lv_iadd X.1.1 X.1.2.1 d_Model_longest_29 ?_
        refine g_top (nI ((64 * (mp v)) + i)) (nI_add _ _) ?_
        refine g_ist X.1.1 X.1.2.1 hl 6 d_Model_longest_30 (Nat.le_of_ble_eq_true rfl) rfl (fun ls hl => ?_)
        refine lv_aload_n X.1.1 X.1.2.1 d_Model_longest_32 rfl (gl_at hl rfl) ?_
        refine lv_iload_n X.1.1 X.1.2.1 d_Model_longest_33 rfl (gl_at hl rfl) ?_
        refine lv_iload X.1.1 X.1.2.1 d_Model_longest_34 (gl_at hl rfl) ?_
        refine g_cv (A := (fun _ => False)) X gWS_good mw_Model_143 kc_Model mo1 (c_Model_has l D q H d w ar hR c0 org srt bt tn mp hv hN kk hk v hvc i (by omega)) (fun _ _ _ => trivial) gBlind.tt rfl rfl hl.1 (Nat.le_of_ble_eq_true rfl) rfl rfl ⟨by decide, by decide⟩ ⟨by decide, by decide⟩ d_Model_longest_36 (fun _ h => h.elim) hL (fun v6 H7 locs hp8 hL => ?_)
        obtain ⟨rfl, hHe⟩ := hp8
        rw [hHe]
        refine lv_if_eq X.1.1 X.1.2.1 d_Model_longest_39 rfl (fun hc39 => ?_) (fun hc39 => ?_)
        · replace hc39 := gz_f hc39
          refine lv_iconst (v := nI 0) X.1.1 X.1.2.1 d_Model_longest_74 (by decide) ?_
          refine g_ist X.1.1 X.1.2.1 hl 7 d_Model_longest_75 (Nat.le_of_ble_eq_true rfl) rfl (fun ls hl => ?_)
          refine lv_iload X.1.1 X.1.2.1 d_Model_longest_77 (gl_at hl rfl) ?_
          refine gn_eq0 X.1.1 X.1.2.1 0 (by omega) d_Model_longest_79 rfl (fun hc79 => ?_) (fun hc79 => ?_)
          · refine g_iinc X.1.1 X.1.2.1 (nI (i + 1)) hl 5 d_Model_longest_109 rfl (nI_1 _) rfl (fun ls hl => ?_)
            refine lv_goto X.1.1 X.1.2.1 d_Model_longest_112 rfl ?_
            exact ih12 (i + 1) o locs ls (by omega) (by omega) (d_lg_skip hi12_1 (fun h9 => by first | exact absurd h9.1 hc39 | exact absurd h9.2 hc67)) hL (gl_forget (gl_forget hl 6) 7)
          · omega
        · replace hc39 := gz_t hc39
          refine lv_aload_n X.1.1 X.1.2.1 d_Model_longest_42 rfl (gl_at hl rfl) ?_
          refine g_get X kc_Model mo1 1 (by decide) lk_Model_7 rfl d_Model_longest_43 ?_
          refine lv_iconst (v := nI 0) X.1.1 X.1.2.1 d_Model_longest_46 (by decide) ?_
          refine lv_iload_n X.1.1 X.1.2.1 d_Model_longest_47 rfl (gl_at hl rfl) ?_
          refine lv_aload_n X.1.1 X.1.2.1 d_Model_longest_48 rfl (gl_at hl rfl) ?_
          refine g_get X kc_Model mo1 5 (by decide) lk_Model_19 rfl d_Model_longest_49 ?_
          refine lv_bipush (v := nI 8) X.1.1 X.1.2.1 d_Model_longest_52 (by decide) ?_
          refine lv_iload X.1.1 X.1.2.1 d_Model_longest_54 (gl_at hl rfl) ?_
          refine lv_imul X.1.1 X.1.2.1 d_Model_longest_56 ?_
          refine g_top (nI (8 * ((64 * (mp v)) + i))) (pk_mul _ _) ?_
          refine lv_aload_n X.1.1 X.1.2.1 d_Model_longest_57 rfl (gl_at hl rfl) ?_
          refine g_get X kc_Model mo1 6 (by decide) lk_Model_22 rfl d_Model_longest_58 ?_
          refine lv_iload X.1.1 X.1.2.1 d_Model_longest_61 (gl_at hl rfl) ?_
          have ma9 : va_at D CL (d + 5, .inl (q 0, 192, .inl (ar 5))) H := hR.a5
          refine g_iald X 0 ma9 rfl ((64 * (mp v)) + i) (by omega) (by omega) d_Model_longest_63 ?_
          refine g_top (nI ((kk (64 * mp v + i)).length)) hx2 ?_
          refine g_cs (A := (fun _ => False)) X gWS_good mw_Model_110 (c_Model_begins l D q H (d + 1) 8 (d + 4) 1536 (ar 1) (ar 4) hR.a1 hR.a4 0 (8 * (64 * mp v + i)) _ _ tp (kk (64 * mp v + i)) rfl rfl ht1 hx1 (by omega) (by omega) (by omega) (by omega) ht3 hx4) (fun _ _ _ => trivial) gBlind.tt rfl rfl hl.1 (Nat.le_of_ble_eq_true rfl) rfl rfl ⟨by decide, by decide⟩ ⟨by decide, by decide⟩ d_Model_longest_64 (fun _ h => h.elim) hL (fun v10 H11 locs hp12 hL => ?_)
          obtain ⟨rfl, hHe⟩ := hp12
          rw [hHe]
          refine lv_if_eq X.1.1 X.1.2.1 d_Model_longest_67 rfl (fun hc67 => ?_) (fun hc67 => ?_)
          · replace hc67 := gz_f hc67
            refine lv_iconst (v := nI 0) X.1.1 X.1.2.1 d_Model_longest_74 (by decide) ?_
            refine g_ist X.1.1 X.1.2.1 hl 7 d_Model_longest_75 (Nat.le_of_ble_eq_true rfl) rfl (fun ls hl => ?_)
            refine lv_iload X.1.1 X.1.2.1 d_Model_longest_77 (gl_at hl rfl) ?_
            refine gn_eq0 X.1.1 X.1.2.1 0 (by omega) d_Model_longest_79 rfl (fun hc79 => ?_) (fun hc79 => ?_)
            · refine g_iinc X.1.1 X.1.2.1 (nI (i + 1)) hl 5 d_Model_longest_109 rfl (nI_1 _) rfl (fun ls hl => ?_)
              refine lv_goto X.1.1 X.1.2.1 d_Model_longest_112 rfl ?_
              exact ih12 (i + 1) o locs ls (by omega) (by omega) (d_lg_skip hi12_1 (fun h9 => by first | exact absurd h9.1 hc39 | exact absurd h9.2 hc67)) hL (gl_forget (gl_forget hl 6) 7)
            · omega
          · replace hc67 := gz_t hc67
            refine lv_iconst (v := nI 1) X.1.1 X.1.2.1 d_Model_longest_70 (by decide) ?_
            refine lv_goto X.1.1 X.1.2.1 d_Model_longest_71 rfl ?_
            refine g_ist X.1.1 X.1.2.1 hl 7 d_Model_longest_75 (Nat.le_of_ble_eq_true rfl) rfl (fun ls hl => ?_)
            refine lv_iload X.1.1 X.1.2.1 d_Model_longest_77 (gl_at hl rfl) ?_
            refine gn_eq0 X.1.1 X.1.2.1 1 (by omega) d_Model_longest_79 rfl (fun hc79 => ?_) (fun hc79 => ?_)
            · omega
            · have hok : (fun xs => v_in org srt bt v xs = true ∧ t_lcp tp xs = xs.length) (kk (64 * mp v + i)) := ⟨hc39, hc67⟩
              cases o with
              | none =>
                  refine lv_iload X.1.1 X.1.2.1 d_Model_longest_82 (gl_at hl rfl) ?_
                  refine lv_iconst (v := (-1)) X.1.1 X.1.2.1 d_Model_longest_84 (by decide) ?_
                  refine lv_icmp_eq X.1.1 X.1.2.1 d_Model_longest_85 rfl (fun hc85 => ?_) (fun hc85 => ?_)
                  · refine lv_iload X.1.1 X.1.2.1 d_Model_longest_105 (gl_at hl rfl) ?_
                    refine g_ist X.1.1 X.1.2.1 hl 4 d_Model_longest_107 (Nat.le_of_ble_eq_true rfl) rfl (fun ls hl => ?_)
                    refine g_iinc X.1.1 X.1.2.1 (nI (i + 1)) hl 5 d_Model_longest_109 rfl (nI_1 _) rfl (fun ls hl => ?_)
                    refine lv_goto X.1.1 X.1.2.1 d_Model_longest_112 rfl ?_
                    exact ih12 (i + 1) (some ((64 * (mp v)) + i)) locs ls (by omega) (by omega) (d_lg_take hi12_1 hok (fun r hr => by cases hr <;> omega)) hL (gl_forget (gl_forget hl 6) 7)
                  · exact absurd rfl hc85
              | some b0 =>
                  have hb192 : b0 < 192 := by
                    obtain ⟨⟨j, h1, h2⟩, _⟩ := hi12_1
                    omega
                  obtain ⟨hb1, hb2, hb3, hb4⟩ := hk b0 hb192
                  refine lv_iload X.1.1 X.1.2.1 d_Model_longest_82 (gl_at hl rfl) ?_
                  refine lv_iconst (v := (-1)) X.1.1 X.1.2.1 d_Model_longest_84 (by decide) ?_
                  refine lv_icmp_eq X.1.1 X.1.2.1 d_Model_longest_85 rfl (fun hc85 => ?_) (fun hc85 => ?_)
                  · exact absurd hc85 (d_m1 (by omega))
                  · refine lv_aload_n X.1.1 X.1.2.1 d_Model_longest_88 rfl (gl_at hl rfl) ?_
                    refine g_get X kc_Model mo1 6 (by decide) lk_Model_22 rfl d_Model_longest_89 ?_
                    refine lv_iload X.1.1 X.1.2.1 d_Model_longest_92 (gl_at hl rfl) ?_
                    refine g_iald X 0 ma9 rfl ((64 * (mp v)) + i) (by omega) (by omega) d_Model_longest_94 ?_
                    refine g_top (nI ((kk (64 * mp v + i)).length)) hx2 ?_
                    refine lv_aload_n X.1.1 X.1.2.1 d_Model_longest_95 rfl (gl_at hl rfl) ?_
                    refine g_get X kc_Model mo1 6 (by decide) lk_Model_22 rfl d_Model_longest_96 ?_
                    refine lv_iload X.1.1 X.1.2.1 d_Model_longest_99 (gl_at hl rfl) ?_
                    refine g_iald X 0 ma9 rfl b0 (by omega) (by omega) d_Model_longest_101 ?_
                    refine g_top (nI ((kk b0).length)) hb2 ?_
                    refine gn_le X.1.1 X.1.2.1 ((kk (64 * mp v + i)).length) ((kk b0).length) (by omega) (by omega) d_Model_longest_102 rfl (fun hc102 => ?_) (fun hc102 => ?_)
                    · refine g_iinc X.1.1 X.1.2.1 (nI (i + 1)) hl 5 d_Model_longest_109 rfl (nI_1 _) rfl (fun ls hl => ?_)
                      refine lv_goto X.1.1 X.1.2.1 d_Model_longest_112 rfl ?_
                      exact ih12 (i + 1) (some b0) locs ls (by omega) (by omega) (d_lg_skip hi12_1 (fun _ => ⟨_, rfl, by omega⟩)) hL (gl_forget (gl_forget hl 6) 7)
                    · refine lv_iload X.1.1 X.1.2.1 d_Model_longest_105 (gl_at hl rfl) ?_
                      refine g_ist X.1.1 X.1.2.1 hl 4 d_Model_longest_107 (Nat.le_of_ble_eq_true rfl) rfl (fun ls hl => ?_)
                      refine g_iinc X.1.1 X.1.2.1 (nI (i + 1)) hl 5 d_Model_longest_109 rfl (nI_1 _) rfl (fun ls hl => ?_)
                      refine lv_goto X.1.1 X.1.2.1 d_Model_longest_112 rfl ?_
                      exact ih12 (i + 1) (some ((64 * (mp v)) + i)) locs ls (by omega) (by omega) (d_lg_take hi12_1 hok (fun r hr => by cases hr <;> omega)) hL (gl_forget (gl_forget hl 6) 7)
  exact loop12 _ 0 none locs ls (Nat.lt_succ_self _) (Nat.zero_le _) (fun j hj => absurd hj (Nat.not_lt_zero j)) hL hl

set_option maxHeartbeats 4000000 in
set_option maxRecDepth 100000 in
/-- tell: nothing -/
theorem c_Model_tellN (l : Launch) (D : va_G) (q : Nat → ClassId) (H : Heap) (d : Nat) (w : Nat → Int32) (ar : Nat → Nat → Int32) (hR : dR D q H d w ar) (x : Int32) : gC l y_Model_tell (Cond.code y_Model_tell b_Model_tell 4 (some .int) :: gWS) (gR 1 21 0 0) D CL (gY q) (fun _ => True) [.ref d, .int (-1), .int x] H (fun v1 H1 => v1 = some (.int 0) ∧ dR D q H1 d (upd w 0 x) ar ∧ H1.size = H.size ∧ ∀ p : Nat, (p < d ∨ d + 28 < p) → H1[p]? = H[p]?) 0 0 (fun p => d ≤ p ∧ p ≤ d + 28) := by
  refine gC.ofW R_Model "tell" (by decide) rfl rfl ?_
  intro p e s m below meth c hadm X hE hH B hne
  refine g_entry [some (.ref d), some (.int (-1)), some (.int x), none] rfl rfl (Nat.le_of_ble_eq_true rfl) (fun ls hl => ?_)
  refine lv_iload_n X.1.1 X.1.2.1 d_Model_tell_0 rfl (gl_at hl rfl) ?_
  refine lv_iconst (v := (-1)) X.1.1 X.1.2.1 d_Model_tell_1 (by decide) ?_
  refine lv_icmp_ne X.1.1 X.1.2.1 d_Model_tell_2 rfl (fun hc2 => ?_) (fun hc2 => ?_)
  · exact absurd rfl hc2
  · refine lv_aload_n X.1.1 X.1.2.1 d_Model_tell_5 rfl (gl_at hl rfl) ?_
    refine lv_iload_n X.1.1 X.1.2.1 d_Model_tell_6 rfl (gl_at hl rfl) ?_
    have mo1 : va_at D CL (d, .inr (10, [.int (w 0), .ref (d + 1), .int (w 2), .ref (d + 2), .ref (d + 3), .ref (d + 4), .ref (d + 5), .ref (d + 6), .int (w 8), .ref (d + 7), .ref (d + 8), .ref (d + 9), .ref (d + 10), .ref (d + 11), .ref (d + 12), .ref (d + 13), .ref (d + 14), .ref (d + 15), .ref (d + 16), .ref (d + 17), .int (w 20), .ref (d + 18), .int (w 22), .ref (d + 19), .ref (d + 20), .ref (d + 21), .int (w 26), .int (w 27), .int (w 28), .ref (d + 22), .ref (d + 23), .ref (d + 24), .ref (d + 25), .ref (d + 26), .int (w 34), .ref (d + 27), .ref (d + 28), .int (w 37), .int (w 38)])) H := hR.1
    refine g_cv (A := (fun p => d ≤ p ∧ p ≤ d + 28)) X gWS_good mw_Model_126 kc_Model mo1 (c_Model_raise l D q H d w ar hR x) (fun _ _ _ => trivial) gBlind.tt rfl rfl hl.1 (Nat.le_of_ble_eq_true rfl) rfl rfl ⟨by decide, by decide⟩ ⟨by decide, by decide⟩ d_Model_tell_7 (fun _ h => h) (fun _ h => by cases h) (fun v2 H3 locs hp4 hL => ?_)
    obtain ⟨rfl, hR5, z6, fr7⟩ := hp4
    exact g_iret X B ⟨rfl, hR5, z6, fun p hp => (fr7 p (by omega))⟩ hL d_Model_tell_10 (by omega) (by omega)

set_option maxHeartbeats 4000000 in
set_option maxRecDepth 100000 in
/-- tell: a key -/
theorem c_Model_tell (l : Launch) (D : va_G) (q : Nat → ClassId) (H : Heap) (d : Nat) (w : Nat → Int32) (ar : Nat → Nat → Int32) (hR : dR D q H d w ar) (kk : Nat → List Nat) (hk : pK ar kk) (j : Nat) (hj : j < 192) (x : Int32) : gC l y_Model_tell (Cond.code y_Model_tell b_Model_tell 4 (some .int) :: gWS) (gR 1 21 0 0) D CL (gY q) (fun _ => True) [.ref d, .int (nI j), .int x] H (fun v1 H1 => ∃ F : Nat → Int32, (v1 = some (.int (ar 6 j)) ∧ tXo F 0 (kk j)) ∧ dR D q H1 d (upd (upd w 0 (nI 0)) 20 (nI ((kk j).length))) (va_up ar 17 F) ∧ H1.size = H.size ∧ ∀ p : Nat, (p < d ∨ d + 28 < p) → H1[p]? = H[p]?) 0 0 (fun p => d ≤ p ∧ p ≤ d + 28) := by
  refine gC.ofW R_Model "tell" (by decide) rfl rfl ?_
  intro p e s m below meth c hadm X hE hH B hne
  refine g_entry [some (.ref d), some (.int (nI j)), some (.int x), none] rfl rfl (Nat.le_of_ble_eq_true rfl) (fun ls hl => ?_)
  obtain ⟨hk1, hk2, hk3, hk4⟩ := hk j hj
  refine lv_iload_n X.1.1 X.1.2.1 d_Model_tell_0 rfl (gl_at hl rfl) ?_
  refine lv_iconst (v := (-1)) X.1.1 X.1.2.1 d_Model_tell_1 (by decide) ?_
  refine lv_icmp_ne X.1.1 X.1.2.1 d_Model_tell_2 rfl (fun hc2 => ?_) (fun hc2 => ?_)
  · refine lv_aload_n X.1.1 X.1.2.1 d_Model_tell_11 rfl (gl_at hl rfl) ?_
    refine lv_iconst (v := nI 0) X.1.1 X.1.2.1 d_Model_tell_12 (by decide) ?_
    have mo1 : va_at D CL (d, .inr (10, [.int (w 0), .ref (d + 1), .int (w 2), .ref (d + 2), .ref (d + 3), .ref (d + 4), .ref (d + 5), .ref (d + 6), .int (w 8), .ref (d + 7), .ref (d + 8), .ref (d + 9), .ref (d + 10), .ref (d + 11), .ref (d + 12), .ref (d + 13), .ref (d + 14), .ref (d + 15), .ref (d + 16), .ref (d + 17), .int (w 20), .ref (d + 18), .int (w 22), .ref (d + 19), .ref (d + 20), .ref (d + 21), .int (w 26), .int (w 27), .int (w 28), .ref (d + 22), .ref (d + 23), .ref (d + 24), .ref (d + 25), .ref (d + 26), .int (w 34), .ref (d + 27), .ref (d + 28), .int (w 37), .int (w 38)])) H := hR.1
    refine g_put (A := (fun p => d ≤ p ∧ p ≤ d + 28)) X kc_Model mo1 0 (by decide) lk_Model_99 rfl rfl rfl (Nat.le_of_ble_eq_true rfl) d_Model_tell_13 ⟨by omega, by omega⟩ (fun _ h => by cases h) (fun H2 locs h3 z4 oq5 hL => ?_)
    have hR6 : dR D q H2 d (upd w 0 (nI 0)) ar := hR.putO h3 oq5
    refine lv_aload_n X.1.1 X.1.2.1 d_Model_tell_16 rfl (gl_at hl rfl) ?_
    refine lv_aload_n X.1.1 X.1.2.1 d_Model_tell_17 rfl (gl_at hl rfl) ?_
    have mo7 : va_at D CL (d, .inr (10, [.int (nI 0), .ref (d + 1), .int (w 2), .ref (d + 2), .ref (d + 3), .ref (d + 4), .ref (d + 5), .ref (d + 6), .int (w 8), .ref (d + 7), .ref (d + 8), .ref (d + 9), .ref (d + 10), .ref (d + 11), .ref (d + 12), .ref (d + 13), .ref (d + 14), .ref (d + 15), .ref (d + 16), .ref (d + 17), .int (w 20), .ref (d + 18), .int (w 22), .ref (d + 19), .ref (d + 20), .ref (d + 21), .int (w 26), .int (w 27), .int (w 28), .ref (d + 22), .ref (d + 23), .ref (d + 24), .ref (d + 25), .ref (d + 26), .int (w 34), .ref (d + 27), .ref (d + 28), .int (w 37), .int (w 38)])) H2 := hR6.1
    refine g_get X kc_Model mo7 6 (by decide) lk_Model_22 rfl d_Model_tell_18 ?_
    refine lv_iload_n X.1.1 X.1.2.1 d_Model_tell_21 rfl (gl_at hl rfl) ?_
    have ma8 : va_at D CL (d + 5, .inl (q 0, 192, .inl (ar 5))) H2 := hR6.a5
    refine g_iald X 0 ma8 rfl j (by omega) (by omega) d_Model_tell_22 ?_
    refine g_top (nI ((kk j).length)) hk2 ?_
    refine g_put (A := (fun p => d ≤ p ∧ p ≤ d + 28)) X kc_Model mo7 20 (by decide) lk_Model_154 rfl rfl rfl (Nat.le_of_ble_eq_true rfl) d_Model_tell_23 ⟨by omega, by omega⟩ hL (fun H9 locs h10 z11 oq12 hL => ?_)
    have hR13 : dR D q H9 d (upd (upd w 0 (nI 0)) 20 (nI ((kk j).length))) ar := hR6.putO h10 oq12
    refine lv_iconst (v := nI 0) X.1.1 X.1.2.1 d_Model_tell_26 (by decide) ?_
    refine g_istn X.1.1 X.1.2.1 hl 3 d_Model_tell_27 rfl (Nat.le_of_ble_eq_true rfl) rfl (fun ls hl => ?_)
    have loop28 : ∀ (fu : Nat) (i : Nat) (F : Nat → Int32) (Hn : Heap) (locs : List Loc) (ls : Array Slot), (kk j).length - i < fu → (i ≤ (kk j).length) → (tCp F (ar 17) 0 (kk j) i) → (dR D q Hn d (upd (upd w 0 (nI 0)) 20 (nI ((kk j).length))) (va_up ar 17 F)) → (Hn.size = H.size) → (∀ p : Nat, (p < d ∨ d + 28 < p) → Hn[p]? = H[p]?) → (∀ x ∈ locs, (fun p => d ≤ p ∧ p ≤ d + 28) x.base) → gl ls [some (.ref d), some (.int (nI j)), some (.int x), some (.int (nI i))] → W p l e (gR 1 21 0 0) s m ([.ref d, .int (nI j), .int x] : List Value).toArray below meth c Hn locs 0 0 (gQ below ([.ref d, .int (nI j), .int x] : List Value).toArray s (fun v1 H1 => ∃ F : Nat → Int32, (v1 = some (.int (ar 6 j)) ∧ tXo F 0 (kk j)) ∧ dR D q H1 d (upd (upd w 0 (nI 0)) 20 (nI ((kk j).length))) (va_up ar 17 F) ∧ H1.size = H.size ∧ ∀ p : Nat, (p < d ∨ d + 28 < p) → H1[p]? = H[p]?) 0 0 (fun p => d ≤ p ∧ p ≤ d + 28)) (F0 m 28 ls []) := by
      intro fu
      induction fu with
      | zero => intro i F Hn locs ls hmu; omega
      | succ fu ih28 =>
        intro i F Hn locs ls hmu28 hi28_0 hi28_1 hRl hzl frl hL hl
        refine lv_iload_n X.1.1 X.1.2.1 d_Model_tell_28 rfl (gl_at hl rfl) ?_
        refine lv_aload_n X.1.1 X.1.2.1 d_Model_tell_29 rfl (gl_at hl rfl) ?_
        have mo14 : va_at D CL (d, .inr (10, [.int (nI 0), .ref (d + 1), .int (w 2), .ref (d + 2), .ref (d + 3), .ref (d + 4), .ref (d + 5), .ref (d + 6), .int (w 8), .ref (d + 7), .ref (d + 8), .ref (d + 9), .ref (d + 10), .ref (d + 11), .ref (d + 12), .ref (d + 13), .ref (d + 14), .ref (d + 15), .ref (d + 16), .ref (d + 17), .int (nI ((kk j).length)), .ref (d + 18), .int (w 22), .ref (d + 19), .ref (d + 20), .ref (d + 21), .int (w 26), .int (w 27), .int (w 28), .ref (d + 22), .ref (d + 23), .ref (d + 24), .ref (d + 25), .ref (d + 26), .int (w 34), .ref (d + 27), .ref (d + 28), .int (w 37), .int (w 38)])) Hn := hRl.1
        refine g_get X kc_Model mo14 20 (by decide) lk_Model_154 rfl d_Model_tell_30 ?_
        refine gn_ge X.1.1 X.1.2.1 i ((kk j).length) (by omega) (by omega) d_Model_tell_33 rfl (fun hc33 => ?_) (fun hc33 => ?_)
        · refine lv_aload_n X.1.1 X.1.2.1 d_Model_tell_59 rfl (gl_at hl rfl) ?_
          refine g_get X kc_Model mo14 7 (by decide) lk_Model_25 rfl d_Model_tell_60 ?_
          refine lv_iload_n X.1.1 X.1.2.1 d_Model_tell_63 rfl (gl_at hl rfl) ?_
          have ma15 : va_at D CL (d + 6, .inl (q 0, 192, .inl (ar 6))) Hn := hRl.a6
          refine g_iald X 0 ma15 rfl j (by omega) (by omega) d_Model_tell_64 ?_
          exact g_iret X B ⟨F, ⟨rfl, fun j9 hj9 => hi28_1.1 j9 (by omega)⟩, hRl, hzl, fun p hp => (frl p (by omega))⟩ hL d_Model_tell_65 (by omega) (by omega)
        · refine lv_aload_n X.1.1 X.1.2.1 d_Model_tell_36 rfl (gl_at hl rfl) ?_
          refine g_get X kc_Model mo14 19 (by decide) lk_Model_63 rfl d_Model_tell_37 ?_
          refine lv_iload_n X.1.1 X.1.2.1 d_Model_tell_40 rfl (gl_at hl rfl) ?_
          refine lv_aload_n X.1.1 X.1.2.1 d_Model_tell_41 rfl (gl_at hl rfl) ?_
          refine g_get X kc_Model mo14 5 (by decide) lk_Model_19 rfl d_Model_tell_42 ?_
          refine lv_bipush (v := nI 8) X.1.1 X.1.2.1 d_Model_tell_45 (by decide) ?_
          refine lv_iload_n X.1.1 X.1.2.1 d_Model_tell_47 rfl (gl_at hl rfl) ?_
          refine lv_imul X.1.1 X.1.2.1 d_Model_tell_48 ?_
          refine g_top (nI (8 * j)) (pk_mul _ _) ?_
          refine lv_iload_n X.1.1 X.1.2.1 d_Model_tell_49 rfl (gl_at hl rfl) ?_
          refine lv_iadd X.1.1 X.1.2.1 d_Model_tell_50 ?_
          refine g_top (nI ((8 * j) + i)) (nI_add _ _) ?_
          have ma16 : va_at D CL (d + 4, .inl (q 0, 1536, .inl (ar 4))) Hn := hRl.a4
          refine g_iald X 0 ma16 rfl ((8 * j) + i) (by omega) (by omega) d_Model_tell_51 ?_
          refine g_top (nI ((kk j).getD i 0)) (hk1 i (by omega)) ?_
          have ma17 : va_at D CL (d + 17, .inl (q 0, 8, .inl F)) Hn := hRl.a17
          refine g_iast (A := (fun p => d ≤ p ∧ p ≤ d + 28)) X 0 ma17 rfl i (by omega) (by decide) d_Model_tell_52 ⟨by omega, by omega⟩ hL (fun H18 locs h19 z20 oq21 hL => ?_)
          have hR22 : dR D q H18 d (upd (upd w 0 (nI 0)) 20 (nI ((kk j).length))) (va_up ar 17 (upd F i (nI ((kk j).getD i 0)))) := hRl.putB 17 (by decide) h19 oq21 rfl (fun j hj => by simp only [va_up, if_neg hj])
          refine g_iinc X.1.1 X.1.2.1 (nI (i + 1)) hl 3 d_Model_tell_53 rfl (nI_1 _) rfl (fun ls hl => ?_)
          refine lv_goto X.1.1 X.1.2.1 d_Model_tell_56 rfl ?_
          exact ih28 (i + 1) (upd F i (nI ((kk j).getD i 0))) H18 locs ls (by omega) (by omega) (hi28_1.step (by omega)) hR22 (z20.trans hzl) (fun p hp => ((oq21 p (by omega)).trans (frl p (by omega)))) hL hl
    exact loop28 _ 0 (ar 17) H9 locs ls (Nat.lt_succ_self _) (Nat.zero_le _) tCp.zero (hR13.as (fun j => by first | rfl | (simp only [upd]; repeat' split <;> first | rfl | (subst_vars; rfl))) (fun j => by first | rfl | (simp only [va_up]; repeat' split <;> first | rfl | (subst_vars; rfl)))) (z11.trans z4) (fun p hp => ((oq12 p (by omega)).trans (oq5 p (by omega)))) hL hl
  · exact absurd hc2 (d_m1 (by omega))

theorem pM.cut {ar : Nat → Nat → Int32} {n chg : Nat → Nat} (h : pM ar n chg) {mm : Nat} {a2 a3 : Nat → Int32} {x y : Nat} (e2 : a2 = upd (ar 2) mm (nI x)) (e3 : a3 = upd (ar 3) mm (nI y)) (hx : x ≤ 64) {ar1 : Nat → Nat → Int32} (r2 : ar1 2 = a2) (r3 : ar1 3 = a3) : pM ar1 (va_up n mm x) (va_up chg mm y) := by
  intro m1 hm1
  rw [r2, r3, e2, e3]
  by_cases e : m1 = mm
  · subst e
    rw [va_up_self, va_up_self, pk_us, pk_us]
    exact ⟨rfl, hx, rfl⟩
  · rw [va_up_ne _ _ e, va_up_ne _ _ e, pk_un e, pk_un e]
    exact h m1 hm1
theorem cpy_step {f : Nat → Int32} {a b i : Nat} (h : a = b ∨ a + 8 ≤ b ∨ b + 8 ≤ a) (hi : i < 8) : upd (va_cpy f f a b i) (b + i) (va_cpy f f a b i (a + i)) = va_cpy f f a b (i + 1) := by
  have e0 : va_cpy f f a b i (a + i) = f (a + i) := pk_cpy_out (by omega)
  rw [e0]
  funext x
  by_cases e : x = b + i
  · rw [e, pk_us, pk_cpy_in (dp := b) (j := b + i) (by omega) (by omega)]
    congr 1
    omega
  · rw [pk_un e]
    by_cases e1 : b ≤ x ∧ x < b + i
    · rw [pk_cpy_in e1.1 e1.2, pk_cpy_in e1.1 (by omega)]
    · rw [pk_cpy_out (by omega), pk_cpy_out (by omega)]
theorem pK.mv {ar : Nat → Nat → Int32} {kk : Nat → List Nat} (h : pK ar kk) {j e0 : Nat} (he : e0 < 192) (ar1 : Nat → Nat → Int32) (h4 : ar1 4 = va_cpy (ar 4) (ar 4) (8 * e0) (8 * j) 8) (h5 : ar1 5 = upd (ar 5) j (nI (kk e0).length)) : pK ar1 (va_up kk j (kk e0)) := by
  intro g hg
  rw [h4, h5]
  by_cases e : g = j
  · subst e
    obtain ⟨a1, a2, a3, a4⟩ := h e0 he
    rw [va_up_self, pk_us]
    refine ⟨fun i hi => ?_, rfl, a3, a4⟩
    rw [pk_cpy_in (by omega) (by omega), ← a1 i hi]
    congr 1
    omega
  · obtain ⟨a1, a2, a3, a4⟩ := h g hg
    rw [va_up_ne _ _ e, pk_un e]
    refine ⟨fun i hi => ?_, a2, a3, a4⟩
    rw [pk_cpy_out (by omega)]
    exact a1 i hi

set_option maxHeartbeats 4000000 in
set_option maxRecDepth 100000 in
/-- clear -/
theorem c_Model_clear (l : Launch) (D : va_G) (q : Nat → ClassId) (H : Heap) (d : Nat) (w : Nat → Int32) (ar : Nat → Nat → Int32) (hR : dR D q H d w ar) (kk : Nat → List Nat) (hk : pK ar kk) (n chg : Nat → Nat) (hm : pM ar n chg) (mm j : Nat) (hmm : mm < 3) (hj1 : 64 * mm ≤ j) (hj2 : j < 64 * mm + n mm) : gC l y_Model_clear (Cond.code y_Model_clear b_Model_clear 5 none :: gWS) (gR 0 0 0 0) D CL (gY q) (fun _ => True) [.ref d, .int (nI mm), .int (nI j)] H (fun v1 H1 => ∃ F : Nat → Int32, (v1 = none ∧ F = va_cpy (ar 4) (ar 4) (8 * (64 * mm + n mm - 1)) (8 * j) 8) ∧ dR D q H1 d w (va_up (va_up (va_up (va_up (va_up ar 2 (upd (ar 2) mm (nI (n mm - 1)))) 3 (upd (ar 3) mm (nI (chg mm + 1)))) 4 F) 5 (upd (ar 5) j (nI (kk (64 * mm + n mm - 1)).length))) 6 (upd (ar 6) j (ar 6 (64 * mm + n mm - 1)))) ∧ H1.size = H.size ∧ ∀ p : Nat, (p < d ∨ d + 28 < p) → H1[p]? = H[p]?) 0 0 (fun p => d ≤ p ∧ p ≤ d + 28) := by
  refine gC.ofW R_Model "clear" (by decide) rfl rfl ?_
  intro p e s m below meth c hadm X hE hH B hne
  refine g_entry [some (.ref d), some (.int (nI mm)), some (.int (nI j)), none, none] rfl rfl (Nat.le_of_ble_eq_true rfl) (fun ls hl => ?_)
  obtain ⟨hm1a, hm2, hm3⟩ := hm mm hmm
  have he5 := (hk (64 * mm + n mm - 1) (by omega)).2.1
  refine lv_bipush (v := nI 64) X.1.1 X.1.2.1 d_Model_clear_0 (by decide) ?_
  refine lv_iload_n X.1.1 X.1.2.1 d_Model_clear_2 rfl (gl_at hl rfl) ?_
  refine lv_imul X.1.1 X.1.2.1 d_Model_clear_3 ?_
  refine g_top (nI (64 * mm)) (pk_mul _ _) ?_
  refine lv_aload_n X.1.1 X.1.2.1 d_Model_clear_4 rfl (gl_at hl rfl) ?_
  have mo1 : va_at D CL (d, .inr (10, [.int (w 0), .ref (d + 1), .int (w 2), .ref (d + 2), .ref (d + 3), .ref (d + 4), .ref (d + 5), .ref (d + 6), .int (w 8), .ref (d + 7), .ref (d + 8), .ref (d + 9), .ref (d + 10), .ref (d + 11), .ref (d + 12), .ref (d + 13), .ref (d + 14), .ref (d + 15), .ref (d + 16), .ref (d + 17), .int (w 20), .ref (d + 18), .int (w 22), .ref (d + 19), .ref (d + 20), .ref (d + 21), .int (w 26), .int (w 27), .int (w 28), .ref (d + 22), .ref (d + 23), .ref (d + 24), .ref (d + 25), .ref (d + 26), .int (w 34), .ref (d + 27), .ref (d + 28), .int (w 37), .int (w 38)])) H := hR.1
  refine g_get X kc_Model mo1 3 (by decide) lk_Model_13 rfl d_Model_clear_5 ?_
  refine lv_iload_n X.1.1 X.1.2.1 d_Model_clear_8 rfl (gl_at hl rfl) ?_
  have ma2 : va_at D CL (d + 2, .inl (q 0, 3, .inl (ar 2))) H := hR.a2
  refine g_iald X 0 ma2 rfl mm (by omega) (by omega) d_Model_clear_9 ?_
  refine g_top (nI (n mm)) hm1a ?_
  refine lv_iadd X.1.1 X.1.2.1 d_Model_clear_10 ?_
  refine g_top (nI ((64 * mm) + (n mm))) (nI_add _ _) ?_
  refine lv_iconst (v := nI 1) X.1.1 X.1.2.1 d_Model_clear_11 (by decide) ?_
  refine lv_isub X.1.1 X.1.2.1 d_Model_clear_12 ?_
  refine g_top (nI (((64 * mm) + (n mm)) - 1)) (pk_sub (by omega)) ?_
  refine g_istn X.1.1 X.1.2.1 hl 3 d_Model_clear_13 rfl (Nat.le_of_ble_eq_true rfl) rfl (fun ls hl => ?_)
  refine lv_iconst (v := nI 0) X.1.1 X.1.2.1 d_Model_clear_14 (by decide) ?_
  refine g_ist X.1.1 X.1.2.1 hl 4 d_Model_clear_15 (Nat.le_of_ble_eq_true rfl) rfl (fun ls hl => ?_)
  have loop17 : ∀ (fu : Nat) (i : Nat) (F : Nat → Int32) (Hn : Heap) (locs : List Loc) (ls : Array Slot), 8 - i < fu → (i ≤ 8) → (F = va_cpy (ar 4) (ar 4) (8 * (64 * mm + n mm - 1)) (8 * j) i) → (dR D q Hn d w (va_up ar 4 F)) → (Hn.size = H.size) → (∀ p : Nat, (p < d ∨ d + 28 < p) → Hn[p]? = H[p]?) → (∀ x ∈ locs, (fun p => d ≤ p ∧ p ≤ d + 28) x.base) → gl ls [some (.ref d), some (.int (nI mm)), some (.int (nI j)), some (.int (nI (((64 * mm) + (n mm)) - 1))), some (.int (nI i))] → W p l e (gR 0 0 0 0) s m ([.ref d, .int (nI mm), .int (nI j)] : List Value).toArray below meth c Hn locs 0 0 (gQ below ([.ref d, .int (nI mm), .int (nI j)] : List Value).toArray s (fun v1 H1 => ∃ F : Nat → Int32, (v1 = none ∧ F = va_cpy (ar 4) (ar 4) (8 * (64 * mm + n mm - 1)) (8 * j) 8) ∧ dR D q H1 d w (va_up (va_up (va_up (va_up (va_up ar 2 (upd (ar 2) mm (nI (n mm - 1)))) 3 (upd (ar 3) mm (nI (chg mm + 1)))) 4 F) 5 (upd (ar 5) j (nI (kk (64 * mm + n mm - 1)).length))) 6 (upd (ar 6) j (ar 6 (64 * mm + n mm - 1)))) ∧ H1.size = H.size ∧ ∀ p : Nat, (p < d ∨ d + 28 < p) → H1[p]? = H[p]?) 0 0 (fun p => d ≤ p ∧ p ≤ d + 28)) (F0 m 17 ls []) := by
    intro fu
    induction fu with
    | zero => intro i F Hn locs ls hmu; omega
    | succ fu ih17 =>
      intro i F Hn locs ls hmu17 hi17_0 hi17_1 hRl hzl frl hL hl
      refine lv_iload X.1.1 X.1.2.1 d_Model_clear_17 (gl_at hl rfl) ?_
      refine lv_bipush (v := nI 8) X.1.1 X.1.2.1 d_Model_clear_19 (by decide) ?_
      refine gn_ge X.1.1 X.1.2.1 i 8 (by omega) (by omega) d_Model_clear_21 rfl (fun hc21 => ?_) (fun hc21 => ?_)
      · refine lv_aload_n X.1.1 X.1.2.1 d_Model_clear_54 rfl (gl_at hl rfl) ?_
        have mo3 : va_at D CL (d, .inr (10, [.int (w 0), .ref (d + 1), .int (w 2), .ref (d + 2), .ref (d + 3), .ref (d + 4), .ref (d + 5), .ref (d + 6), .int (w 8), .ref (d + 7), .ref (d + 8), .ref (d + 9), .ref (d + 10), .ref (d + 11), .ref (d + 12), .ref (d + 13), .ref (d + 14), .ref (d + 15), .ref (d + 16), .ref (d + 17), .int (w 20), .ref (d + 18), .int (w 22), .ref (d + 19), .ref (d + 20), .ref (d + 21), .int (w 26), .int (w 27), .int (w 28), .ref (d + 22), .ref (d + 23), .ref (d + 24), .ref (d + 25), .ref (d + 26), .int (w 34), .ref (d + 27), .ref (d + 28), .int (w 37), .int (w 38)])) Hn := hRl.1
        refine g_get X kc_Model mo3 6 (by decide) lk_Model_22 rfl d_Model_clear_55 ?_
        refine lv_iload_n X.1.1 X.1.2.1 d_Model_clear_58 rfl (gl_at hl rfl) ?_
        refine lv_aload_n X.1.1 X.1.2.1 d_Model_clear_59 rfl (gl_at hl rfl) ?_
        refine g_get X kc_Model mo3 6 (by decide) lk_Model_22 rfl d_Model_clear_60 ?_
        refine lv_iload_n X.1.1 X.1.2.1 d_Model_clear_63 rfl (gl_at hl rfl) ?_
        have ma4 : va_at D CL (d + 5, .inl (q 0, 192, .inl (ar 5))) Hn := hRl.a5
        refine g_iald X 0 ma4 rfl (((64 * mm) + (n mm)) - 1) (by omega) (by omega) d_Model_clear_64 ?_
        refine g_top (nI ((kk (64 * mm + n mm - 1)).length)) he5 ?_
        refine g_iast (A := (fun p => d ≤ p ∧ p ≤ d + 28)) X 0 ma4 rfl j (by omega) (by decide) d_Model_clear_65 ⟨by omega, by omega⟩ hL (fun H5 locs h6 z7 oq8 hL => ?_)
        have hR9 : dR D q H5 d w (va_up (va_up ar 4 F) 5 (upd (ar 5) j (nI ((kk (64 * mm + n mm - 1)).length)))) := hRl.putB 5 (by decide) h6 oq8 rfl (fun j hj => by simp only [va_up, if_neg hj])
        refine lv_aload_n X.1.1 X.1.2.1 d_Model_clear_66 rfl (gl_at hl rfl) ?_
        have mo10 : va_at D CL (d, .inr (10, [.int (w 0), .ref (d + 1), .int (w 2), .ref (d + 2), .ref (d + 3), .ref (d + 4), .ref (d + 5), .ref (d + 6), .int (w 8), .ref (d + 7), .ref (d + 8), .ref (d + 9), .ref (d + 10), .ref (d + 11), .ref (d + 12), .ref (d + 13), .ref (d + 14), .ref (d + 15), .ref (d + 16), .ref (d + 17), .int (w 20), .ref (d + 18), .int (w 22), .ref (d + 19), .ref (d + 20), .ref (d + 21), .int (w 26), .int (w 27), .int (w 28), .ref (d + 22), .ref (d + 23), .ref (d + 24), .ref (d + 25), .ref (d + 26), .int (w 34), .ref (d + 27), .ref (d + 28), .int (w 37), .int (w 38)])) H5 := hR9.1
        refine g_get X kc_Model mo10 7 (by decide) lk_Model_25 rfl d_Model_clear_67 ?_
        refine lv_iload_n X.1.1 X.1.2.1 d_Model_clear_70 rfl (gl_at hl rfl) ?_
        refine lv_aload_n X.1.1 X.1.2.1 d_Model_clear_71 rfl (gl_at hl rfl) ?_
        refine g_get X kc_Model mo10 7 (by decide) lk_Model_25 rfl d_Model_clear_72 ?_
        refine lv_iload_n X.1.1 X.1.2.1 d_Model_clear_75 rfl (gl_at hl rfl) ?_
        have ma11 : va_at D CL (d + 6, .inl (q 0, 192, .inl (ar 6))) H5 := hR9.a6
        refine g_iald X 0 ma11 rfl (((64 * mm) + (n mm)) - 1) (by omega) (by omega) d_Model_clear_76 ?_
        refine g_iast (A := (fun p => d ≤ p ∧ p ≤ d + 28)) X 0 ma11 rfl j (by omega) (by decide) d_Model_clear_77 ⟨by omega, by omega⟩ hL (fun H12 locs h13 z14 oq15 hL => ?_)
        have hR16 : dR D q H12 d w (va_up (va_up (va_up ar 4 F) 5 (upd (ar 5) j (nI ((kk (64 * mm + n mm - 1)).length)))) 6 (upd (ar 6) j ((ar 6) (((64 * mm) + (n mm)) - 1)))) := hR9.putB 6 (by decide) h13 oq15 rfl (fun j hj => by simp only [va_up, if_neg hj])
        refine lv_aload_n X.1.1 X.1.2.1 d_Model_clear_78 rfl (gl_at hl rfl) ?_
        have mo17 : va_at D CL (d, .inr (10, [.int (w 0), .ref (d + 1), .int (w 2), .ref (d + 2), .ref (d + 3), .ref (d + 4), .ref (d + 5), .ref (d + 6), .int (w 8), .ref (d + 7), .ref (d + 8), .ref (d + 9), .ref (d + 10), .ref (d + 11), .ref (d + 12), .ref (d + 13), .ref (d + 14), .ref (d + 15), .ref (d + 16), .ref (d + 17), .int (w 20), .ref (d + 18), .int (w 22), .ref (d + 19), .ref (d + 20), .ref (d + 21), .int (w 26), .int (w 27), .int (w 28), .ref (d + 22), .ref (d + 23), .ref (d + 24), .ref (d + 25), .ref (d + 26), .int (w 34), .ref (d + 27), .ref (d + 28), .int (w 37), .int (w 38)])) H12 := hR16.1
        refine g_get X kc_Model mo17 3 (by decide) lk_Model_13 rfl d_Model_clear_79 ?_
        refine lv_iload_n X.1.1 X.1.2.1 d_Model_clear_82 rfl (gl_at hl rfl) ?_
        refine lv_dup2_11 X.1.1 X.1.2.1 d_Model_clear_83 rfl rfl ?_
        have ma18 : va_at D CL (d + 2, .inl (q 0, 3, .inl (ar 2))) H12 := hR16.a2
        refine g_iald X 0 ma18 rfl mm (by omega) (by omega) d_Model_clear_84 ?_
        refine g_top (nI (n mm)) hm1a ?_
        refine lv_iconst (v := nI 1) X.1.1 X.1.2.1 d_Model_clear_85 (by decide) ?_
        refine lv_isub X.1.1 X.1.2.1 d_Model_clear_86 ?_
        refine g_top (nI ((n mm) - 1)) (pk_sub (by omega)) ?_
        refine g_iast (A := (fun p => d ≤ p ∧ p ≤ d + 28)) X 0 ma18 rfl mm (by omega) (by decide) d_Model_clear_87 ⟨by omega, by omega⟩ hL (fun H19 locs h20 z21 oq22 hL => ?_)
        have hR23 : dR D q H19 d w (va_up (va_up (va_up (va_up ar 2 (upd (ar 2) mm (nI ((n mm) - 1)))) 4 F) 5 (upd (ar 5) j (nI ((kk (64 * mm + n mm - 1)).length)))) 6 (upd (ar 6) j ((ar 6) (((64 * mm) + (n mm)) - 1)))) := hR16.putB 2 (by decide) h20 oq22 rfl (fun j hj => by simp only [va_up, if_neg hj])
        refine lv_aload_n X.1.1 X.1.2.1 d_Model_clear_88 rfl (gl_at hl rfl) ?_
        have mo24 : va_at D CL (d, .inr (10, [.int (w 0), .ref (d + 1), .int (w 2), .ref (d + 2), .ref (d + 3), .ref (d + 4), .ref (d + 5), .ref (d + 6), .int (w 8), .ref (d + 7), .ref (d + 8), .ref (d + 9), .ref (d + 10), .ref (d + 11), .ref (d + 12), .ref (d + 13), .ref (d + 14), .ref (d + 15), .ref (d + 16), .ref (d + 17), .int (w 20), .ref (d + 18), .int (w 22), .ref (d + 19), .ref (d + 20), .ref (d + 21), .int (w 26), .int (w 27), .int (w 28), .ref (d + 22), .ref (d + 23), .ref (d + 24), .ref (d + 25), .ref (d + 26), .int (w 34), .ref (d + 27), .ref (d + 28), .int (w 37), .int (w 38)])) H19 := hR23.1
        refine g_get X kc_Model mo24 4 (by decide) lk_Model_16 rfl d_Model_clear_89 ?_
        refine lv_iload_n X.1.1 X.1.2.1 d_Model_clear_92 rfl (gl_at hl rfl) ?_
        refine lv_dup2_11 X.1.1 X.1.2.1 d_Model_clear_93 rfl rfl ?_
        have ma25 : va_at D CL (d + 3, .inl (q 0, 3, .inl (ar 3))) H19 := hR23.a3
        refine g_iald X 0 ma25 rfl mm (by omega) (by omega) d_Model_clear_94 ?_
        refine g_top (nI (chg mm)) hm3 ?_
        refine lv_iconst (v := nI 1) X.1.1 X.1.2.1 d_Model_clear_95 (by decide) ?_
        refine lv_iadd X.1.1 X.1.2.1 d_Model_clear_96 ?_
        refine g_top (nI ((chg mm) + 1)) (nI_add _ _) ?_
        refine g_iast (A := (fun p => d ≤ p ∧ p ≤ d + 28)) X 0 ma25 rfl mm (by omega) (by decide) d_Model_clear_97 ⟨by omega, by omega⟩ hL (fun H26 locs h27 z28 oq29 hL => ?_)
        have hR30 : dR D q H26 d w (va_up (va_up (va_up (va_up (va_up ar 2 (upd (ar 2) mm (nI ((n mm) - 1)))) 3 (upd (ar 3) mm (nI ((chg mm) + 1)))) 4 F) 5 (upd (ar 5) j (nI ((kk (64 * mm + n mm - 1)).length)))) 6 (upd (ar 6) j ((ar 6) (((64 * mm) + (n mm)) - 1)))) := hR23.putB 3 (by decide) h27 oq29 rfl (fun j hj => by simp only [va_up, if_neg hj])
        exact g_vret X B ⟨F, ⟨rfl, by rw [hi17_1, show i = 8 by omega]⟩, hR30, (z28.trans (z21.trans (z14.trans (z7.trans hzl)))), fun p hp => ((oq29 p (by omega)).trans ((oq22 p (by omega)).trans ((oq15 p (by omega)).trans ((oq8 p (by omega)).trans (frl p (by omega))))))⟩ hL d_Model_clear_98 (by omega) (by omega)
      · refine lv_aload_n X.1.1 X.1.2.1 d_Model_clear_24 rfl (gl_at hl rfl) ?_
        have mo31 : va_at D CL (d, .inr (10, [.int (w 0), .ref (d + 1), .int (w 2), .ref (d + 2), .ref (d + 3), .ref (d + 4), .ref (d + 5), .ref (d + 6), .int (w 8), .ref (d + 7), .ref (d + 8), .ref (d + 9), .ref (d + 10), .ref (d + 11), .ref (d + 12), .ref (d + 13), .ref (d + 14), .ref (d + 15), .ref (d + 16), .ref (d + 17), .int (w 20), .ref (d + 18), .int (w 22), .ref (d + 19), .ref (d + 20), .ref (d + 21), .int (w 26), .int (w 27), .int (w 28), .ref (d + 22), .ref (d + 23), .ref (d + 24), .ref (d + 25), .ref (d + 26), .int (w 34), .ref (d + 27), .ref (d + 28), .int (w 37), .int (w 38)])) Hn := hRl.1
        refine g_get X kc_Model mo31 5 (by decide) lk_Model_19 rfl d_Model_clear_25 ?_
        refine lv_bipush (v := nI 8) X.1.1 X.1.2.1 d_Model_clear_28 (by decide) ?_
        refine lv_iload_n X.1.1 X.1.2.1 d_Model_clear_30 rfl (gl_at hl rfl) ?_
        refine lv_imul X.1.1 X.1.2.1 d_Model_clear_31 ?_
        refine g_top (nI (8 * j)) (pk_mul _ _) ?_
        refine lv_iload X.1.1 X.1.2.1 d_Model_clear_32 (gl_at hl rfl) ?_
        refine lv_iadd X.1.1 X.1.2.1 d_Model_clear_34 ?_
        refine g_top (nI ((8 * j) + i)) (nI_add _ _) ?_
        refine lv_aload_n X.1.1 X.1.2.1 d_Model_clear_35 rfl (gl_at hl rfl) ?_
        refine g_get X kc_Model mo31 5 (by decide) lk_Model_19 rfl d_Model_clear_36 ?_
        refine lv_bipush (v := nI 8) X.1.1 X.1.2.1 d_Model_clear_39 (by decide) ?_
        refine lv_iload_n X.1.1 X.1.2.1 d_Model_clear_41 rfl (gl_at hl rfl) ?_
        refine lv_imul X.1.1 X.1.2.1 d_Model_clear_42 ?_
        refine g_top (nI (8 * (((64 * mm) + (n mm)) - 1))) (pk_mul _ _) ?_
        refine lv_iload X.1.1 X.1.2.1 d_Model_clear_43 (gl_at hl rfl) ?_
        refine lv_iadd X.1.1 X.1.2.1 d_Model_clear_45 ?_
        refine g_top (nI ((8 * (((64 * mm) + (n mm)) - 1)) + i)) (nI_add _ _) ?_
        have ma32 : va_at D CL (d + 4, .inl (q 0, 1536, .inl F)) Hn := hRl.a4
        refine g_iald X 0 ma32 rfl ((8 * (((64 * mm) + (n mm)) - 1)) + i) (by omega) (by omega) d_Model_clear_46 ?_
        refine g_iast (A := (fun p => d ≤ p ∧ p ≤ d + 28)) X 0 ma32 rfl ((8 * j) + i) (by omega) (by decide) d_Model_clear_47 ⟨by omega, by omega⟩ hL (fun H33 locs h34 z35 oq36 hL => ?_)
        have hR37 : dR D q H33 d w (va_up ar 4 (upd F ((8 * j) + i) (F ((8 * (((64 * mm) + (n mm)) - 1)) + i)))) := hRl.putB 4 (by decide) h34 oq36 rfl (fun j hj => by simp only [va_up, if_neg hj])
        refine g_iinc X.1.1 X.1.2.1 (nI (i + 1)) hl 4 d_Model_clear_48 rfl (nI_1 _) rfl (fun ls hl => ?_)
        refine lv_goto X.1.1 X.1.2.1 d_Model_clear_51 rfl ?_
        exact ih17 (i + 1) (upd F ((8 * j) + i) (F ((8 * (((64 * mm) + (n mm)) - 1)) + i))) H33 locs ls (by omega) (by omega) (by
          subst hi17_1
          exact cpy_step (by omega) (by omega)) hR37 (z35.trans hzl) (fun p hp => ((oq36 p (by omega)).trans (frl p (by omega)))) hL hl
  exact loop17 _ 0 (ar 4) H [] ls (Nat.lt_succ_self _) (by omega) (funext (fun x => by rw [pk_cpy_out (by omega)])) (hR.as (fun j => by first | rfl | (simp only [upd]; repeat' split <;> first | rfl | (subst_vars; rfl))) (fun j => by first | rfl | (simp only [va_up]; repeat' split <;> first | rfl | (subst_vars; rfl)))) rfl (fun p hp => rfl) (fun _ h => by cases h) hl

set_option maxHeartbeats 4000000 in
set_option maxRecDepth 100000 in
/-- used -/
theorem c_Model_used (l : Launch) (D : va_G) (q : Nat → ClassId) (H : Heap) (d : Nat) (w : Nat → Int32) (ar : Nat → Nat → Int32) (hR : dR D q H d w ar) (c0 : Nat) (org : Nat → Option Nat) (srt : Nat → Nat) (bt : Nat → List Nat) (tn mp : Nat → Nat) (hv : pV w ar c0 org srt bt) (hN : pN c0 org srt tn mp) (kk : Nat → List Nat) (hk : pK ar kk) (n chg : Nat → Nat) (hm : pM ar n chg) (tp : List Nat) (ht : pT w ar tp) (v : Nat) (hvc : v < c0) : gC l y_Model_used (Cond.code y_Model_used b_Model_used 3 (some .int) :: gWS) (gR 3 77 0 0) D CL (gY q) (fun _ => True) [.ref d, .int (nI v)] H (fun v1 H1 => (∃ o : Option Nat, v1 = some (.int (gm1 o)) ∧ d_us org srt bt v (mp v) (n (mp v)) kk tp o) ∧ dR D q H1 d (upd w 2 (nI 0)) ar ∧ H1.size = H.size ∧ ∀ p : Nat, (p < d ∨ d + 28 < p) → H1[p]? = H[p]?) 0 0 (fun p => d ≤ p ∧ p ≤ d + 28) := by
  refine gC.ofW R_Model "used" (by decide) rfl rfl ?_
  intro p e s m below meth c hadm X hE hH B hne
  refine g_entry [some (.ref d), some (.int (nI v)), none] rfl rfl (Nat.le_of_ble_eq_true rfl) (fun ls hl => ?_)
  have hmp := (hN v hvc).1
  have ht8 := ht.2.2.1
  refine lv_aload_n X.1.1 X.1.2.1 d_Model_used_0 rfl (gl_at hl rfl) ?_
  have mo1 : va_at D CL (d, .inr (10, [.int (w 0), .ref (d + 1), .int (w 2), .ref (d + 2), .ref (d + 3), .ref (d + 4), .ref (d + 5), .ref (d + 6), .int (w 8), .ref (d + 7), .ref (d + 8), .ref (d + 9), .ref (d + 10), .ref (d + 11), .ref (d + 12), .ref (d + 13), .ref (d + 14), .ref (d + 15), .ref (d + 16), .ref (d + 17), .int (w 20), .ref (d + 18), .int (w 22), .ref (d + 19), .ref (d + 20), .ref (d + 21), .int (w 26), .int (w 27), .int (w 28), .ref (d + 22), .ref (d + 23), .ref (d + 24), .ref (d + 25), .ref (d + 26), .int (w 34), .ref (d + 27), .ref (d + 28), .int (w 37), .int (w 38)])) H := hR.1
  refine g_get X kc_Model mo1 2 (by decide) lk_Model_102 rfl d_Model_used_1 ?_
  refine g_top (nI tp.length) ht.1 ?_
  refine g_istn X.1.1 X.1.2.1 hl 2 d_Model_used_4 rfl (Nat.le_of_ble_eq_true rfl) rfl (fun ls hl => ?_)
  refine lv_aload_n X.1.1 X.1.2.1 d_Model_used_5 rfl (gl_at hl rfl) ?_
  refine lv_iconst (v := nI 0) X.1.1 X.1.2.1 d_Model_used_6 (by decide) ?_
  refine g_put (A := (fun p => d ≤ p ∧ p ≤ d + 28)) X kc_Model mo1 2 (by decide) lk_Model_102 rfl rfl rfl (Nat.le_of_ble_eq_true rfl) d_Model_used_7 ⟨by omega, by omega⟩ (fun _ h => by cases h) (fun H2 locs h3 z4 oq5 hL => ?_)
  have hR6 : dR D q H2 d (upd w 2 (nI 0)) ar := hR.putO h3 oq5
  refine lv_aload_n X.1.1 X.1.2.1 d_Model_used_10 rfl (gl_at hl rfl) ?_
  refine lv_iload_n X.1.1 X.1.2.1 d_Model_used_11 rfl (gl_at hl rfl) ?_
  refine lv_aload_n X.1.1 X.1.2.1 d_Model_used_12 rfl (gl_at hl rfl) ?_
  have mo7 : va_at D CL (d, .inr (10, [.int (w 0), .ref (d + 1), .int (nI 0), .ref (d + 2), .ref (d + 3), .ref (d + 4), .ref (d + 5), .ref (d + 6), .int (w 8), .ref (d + 7), .ref (d + 8), .ref (d + 9), .ref (d + 10), .ref (d + 11), .ref (d + 12), .ref (d + 13), .ref (d + 14), .ref (d + 15), .ref (d + 16), .ref (d + 17), .int (w 20), .ref (d + 18), .int (w 22), .ref (d + 19), .ref (d + 20), .ref (d + 21), .int (w 26), .int (w 27), .int (w 28), .ref (d + 22), .ref (d + 23), .ref (d + 24), .ref (d + 25), .ref (d + 26), .int (w 34), .ref (d + 27), .ref (d + 28), .int (w 37), .int (w 38)])) H2 := hR6.1
  refine g_get X kc_Model mo7 1 (by decide) lk_Model_7 rfl d_Model_used_13 ?_
  refine lv_iconst (v := nI 0) X.1.1 X.1.2.1 d_Model_used_16 (by decide) ?_
  refine lv_iload_n X.1.1 X.1.2.1 d_Model_used_17 rfl (gl_at hl rfl) ?_
  refine g_cv (A := (fun p => d ≤ p ∧ p ≤ d + 28)) X gWS_good mw_Model_118 kc_Model mo7 (c_Model_within l D q H2 d (upd w 2 (nI 0)) ar hR6 c0 org srt bt tn mp hv hN v hvc (d + 1) 8 (ar 1) hR6.a1 0 _ tp rfl ht.2.1 (by omega) (by omega) ht.2.2.2) (fun _ _ _ => trivial) gBlind.tt rfl rfl hl.1 (Nat.le_of_ble_eq_true rfl) rfl rfl ⟨by decide, by decide⟩ ⟨by decide, by decide⟩ d_Model_used_18 (fun _ h => h.elim) hL (fun v8 H9 locs hp10 hL => ?_)
  obtain ⟨rfl, hHe⟩ := hp10
  rw [hHe]
  refine lv_if_eq X.1.1 X.1.2.1 d_Model_used_21 rfl (fun hc21 => ?_) (fun hc21 => ?_)
  · replace hc21 := gz_f hc21
    refine lv_iconst (v := (-1)) X.1.1 X.1.2.1 d_Model_used_42 (by decide) ?_
    exact g_iret X B ⟨⟨none, rfl, Or.inr ⟨hc21, rfl⟩⟩, hR6, z4, fun p hp => (oq5 p (by omega))⟩ hL d_Model_used_43 (by omega) (by omega)
  · replace hc21 := gz_t hc21
    refine lv_aload_n X.1.1 X.1.2.1 d_Model_used_24 rfl (gl_at hl rfl) ?_
    refine lv_aload_n X.1.1 X.1.2.1 d_Model_used_25 rfl (gl_at hl rfl) ?_
    refine lv_iload_n X.1.1 X.1.2.1 d_Model_used_26 rfl (gl_at hl rfl) ?_
    refine g_cv (A := (fun p => d ≤ p ∧ p ≤ d + 28)) X gWS_good mw_Model_114 kc_Model mo7 (c_Model_mapOf l D q H2 d (upd w 2 (nI 0)) ar hR6 c0 org srt bt tn mp hv hN v hvc) (fun _ _ _ => trivial) gBlind.tt rfl rfl hl.1 (Nat.le_of_ble_eq_true rfl) rfl rfl ⟨by decide, by decide⟩ ⟨by decide, by decide⟩ d_Model_used_27 (fun _ h => h.elim) hL (fun v11 H12 locs hp13 hL => ?_)
    obtain ⟨rfl, hHe⟩ := hp13
    rw [hHe]
    refine lv_aload_n X.1.1 X.1.2.1 d_Model_used_30 rfl (gl_at hl rfl) ?_
    refine g_get X kc_Model mo7 1 (by decide) lk_Model_7 rfl d_Model_used_31 ?_
    refine lv_iconst (v := nI 0) X.1.1 X.1.2.1 d_Model_used_34 (by decide) ?_
    refine lv_iload_n X.1.1 X.1.2.1 d_Model_used_35 rfl (gl_at hl rfl) ?_
    refine g_cv (A := (fun p => d ≤ p ∧ p ≤ d + 28)) X gWS_good mw_Model_133 kc_Model mo7 (c_Model_keyOf l D q H2 d (upd w 2 (nI 0)) ar hR6 kk hk n chg hm (mp v) hmp (d + 1) 8 (ar 1) hR6.a1 0 _ tp rfl ht.2.1 (by omega) (by omega) ht.2.2.2) (fun _ _ _ => trivial) gBlind.tt rfl rfl hl.1 (Nat.le_of_ble_eq_true rfl) rfl rfl ⟨by decide, by decide⟩ ⟨by decide, by decide⟩ d_Model_used_36 (fun _ h => h.elim) hL (fun v14 H15 locs hp16 hL => ?_)
    obtain ⟨⟨o, rfl, ho⟩, hHe⟩ := hp16
    rw [hHe]
    refine lv_goto X.1.1 X.1.2.1 d_Model_used_39 rfl ?_
    exact g_iret X B ⟨⟨o, rfl, Or.inl ⟨hc21, ho⟩⟩, hR6, z4, fun p hp => (oq5 p (by omega))⟩ hL d_Model_used_43 (by omega) (by omega)
