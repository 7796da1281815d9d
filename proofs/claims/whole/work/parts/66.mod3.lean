/-! the class KeyHallModel, 3: printed by wip/specs/m3.py -/
theorem nI_nneg {n : Nat} (h : n < 2 ^ 31) : ¬ nI n < 0 := by
  intro h1
  have h2 := gi_lt h1
  rw [nI_toInt h] at h2
  omega
theorem gi_ltn {x y : Int32} (h : x < y) : ¬ y ≤ x := by
  rw [Int32.le_iff_toInt_le]
  have := Int32.lt_iff_toInt_lt.mp h
  omega
theorem gi_nltn {x y : Int32} (h : ¬ x < y) : y ≤ x := by
  rw [Int32.le_iff_toInt_le]
  have := mt Int32.lt_iff_toInt_lt.mpr h
  omega
theorem h_letk {xs : List Nat} {k : Nat} (h : k < xs.length) (h8 : xs.length < 2 ^ 31) : h_let xs (nI k) = nI (xs.getD k 0) := by
  unfold h_let
  rw [if_neg (d_m1 (by omega)), if_pos (h_ok_of h8 h), nI_toInt (by omega)]
  rfl

set_option maxHeartbeats 4000000 in
set_option maxRecDepth 100000 in
/-- put: no view -/
theorem c_Model_putV (l : Launch) (D : va_G) (q : Nat → ClassId) (H : Heap) (d : Nat) (w : Nat → Int32) (ar : Nat → Nat → Int32) (hR : dR D q H d w ar) (c0 : Nat) (hv : w 8 = nI c0) (v : Int32) (hno : ¬ h_ok c0 v) (x : Int32) : gC l y_Model_put (Cond.code y_Model_put b_Model_put 7 (some .int) :: gWS) (gR 3 77 0 0) D CL (gY q) (fun _ => True) [.ref d, .int v, .int x] H (fun v1 H1 => v1 = some (.int 0) ∧ dR D q H1 d (upd w 0 (nI 1)) ar ∧ H1.size = H.size ∧ ∀ p : Nat, (p < d ∨ d + 28 < p) → H1[p]? = H[p]?) 0 0 (fun p => d ≤ p ∧ p ≤ d + 28) := by
  refine gC.ofW R_Model "put" (by decide) rfl rfl ?_
  intro p e s m below meth c hadm X hE hH B hne
  refine g_entry [some (.ref d), some (.int v), some (.int x), none, none, none, none] rfl rfl (Nat.le_of_ble_eq_true rfl) (fun ls hl => ?_)
  refine lv_aload_n X.1.1 X.1.2.1 d_Model_put_0 rfl (gl_at hl rfl) ?_
  refine lv_iload_n X.1.1 X.1.2.1 d_Model_put_1 rfl (gl_at hl rfl) ?_
  have mo1 : va_at D CL (d, .inr (10, [.int (w 0), .ref (d + 1), .int (w 2), .ref (d + 2), .ref (d + 3), .ref (d + 4), .ref (d + 5), .ref (d + 6), .int (w 8), .ref (d + 7), .ref (d + 8), .ref (d + 9), .ref (d + 10), .ref (d + 11), .ref (d + 12), .ref (d + 13), .ref (d + 14), .ref (d + 15), .ref (d + 16), .ref (d + 17), .int (w 20), .ref (d + 18), .int (w 22), .ref (d + 19), .ref (d + 20), .ref (d + 21), .int (w 26), .int (w 27), .int (w 28), .ref (d + 22), .ref (d + 23), .ref (d + 24), .ref (d + 25), .ref (d + 26), .int (w 34), .ref (d + 27), .ref (d + 28), .int (w 37), .int (w 38)])) H := hR.1
  refine g_cv (A := (fun p => d ≤ p ∧ p ≤ d + 28)) X gWS_good mw_Model_122 kc_Model mo1 (c_Model_isView l D q H d w ar hR c0 hv v) (fun _ _ _ => trivial) gBlind.tt rfl rfl hl.1 (Nat.le_of_ble_eq_true rfl) rfl rfl ⟨by decide, by decide⟩ ⟨by decide, by decide⟩ d_Model_put_2 (fun _ h => h.elim) (fun _ h => by cases h) (fun v2 H3 locs hp4 hL => ?_)
  obtain ⟨rfl, hHe⟩ := hp4
  rw [hHe]
  refine lv_if_ne X.1.1 X.1.2.1 d_Model_put_5 rfl (fun hc5 => ?_) (fun hc5 => ?_)
  · replace hc5 := gz_t hc5
    exact absurd hc5 hno
  · replace hc5 := gz_f hc5
    refine lv_aload_n X.1.1 X.1.2.1 d_Model_put_8 rfl (gl_at hl rfl) ?_
    refine lv_iconst (v := nI 1) X.1.1 X.1.2.1 d_Model_put_9 (by decide) ?_
    refine g_cv (A := (fun p => d ≤ p ∧ p ≤ d + 28)) X gWS_good mw_Model_126 kc_Model mo1 (c_Model_raise l D q H d w ar hR (nI 1)) (fun _ _ _ => trivial) gBlind.tt rfl rfl hl.1 (Nat.le_of_ble_eq_true rfl) rfl rfl ⟨by decide, by decide⟩ ⟨by decide, by decide⟩ d_Model_put_10 (fun _ h => h) hL (fun v5 H6 locs hp7 hL => ?_)
    obtain ⟨rfl, hR8, z9, fr10⟩ := hp7
    exact g_iret X B ⟨rfl, hR8, z9, fun p hp => (fr10 p (by omega))⟩ hL d_Model_put_13 (by omega) (by omega)

set_option maxHeartbeats 4000000 in
set_option maxRecDepth 100000 in
/-- get: no view -/
theorem c_Model_getV (l : Launch) (D : va_G) (q : Nat → ClassId) (H : Heap) (d : Nat) (w : Nat → Int32) (ar : Nat → Nat → Int32) (hR : dR D q H d w ar) (c0 : Nat) (hv : w 8 = nI c0) (v : Int32) (hno : ¬ h_ok c0 v) : gC l y_Model_get (Cond.code y_Model_get b_Model_get 3 (some .int) :: gWS) (gR 4 99 0 0) D CL (gY q) (fun _ => True) [.ref d, .int v] H (fun v1 H1 => v1 = some (.int 0) ∧ dR D q H1 d (upd w 0 (nI 1)) ar ∧ H1.size = H.size ∧ ∀ p : Nat, (p < d ∨ d + 28 < p) → H1[p]? = H[p]?) 0 0 (fun p => d ≤ p ∧ p ≤ d + 28) := by
  refine gC.ofW R_Model "get" (by decide) rfl rfl ?_
  intro p e s m below meth c hadm X hE hH B hne
  refine g_entry [some (.ref d), some (.int v), none] rfl rfl (Nat.le_of_ble_eq_true rfl) (fun ls hl => ?_)
  refine lv_aload_n X.1.1 X.1.2.1 d_Model_get_0 rfl (gl_at hl rfl) ?_
  refine lv_iload_n X.1.1 X.1.2.1 d_Model_get_1 rfl (gl_at hl rfl) ?_
  have mo1 : va_at D CL (d, .inr (10, [.int (w 0), .ref (d + 1), .int (w 2), .ref (d + 2), .ref (d + 3), .ref (d + 4), .ref (d + 5), .ref (d + 6), .int (w 8), .ref (d + 7), .ref (d + 8), .ref (d + 9), .ref (d + 10), .ref (d + 11), .ref (d + 12), .ref (d + 13), .ref (d + 14), .ref (d + 15), .ref (d + 16), .ref (d + 17), .int (w 20), .ref (d + 18), .int (w 22), .ref (d + 19), .ref (d + 20), .ref (d + 21), .int (w 26), .int (w 27), .int (w 28), .ref (d + 22), .ref (d + 23), .ref (d + 24), .ref (d + 25), .ref (d + 26), .int (w 34), .ref (d + 27), .ref (d + 28), .int (w 37), .int (w 38)])) H := hR.1
  refine g_cv (A := (fun p => d ≤ p ∧ p ≤ d + 28)) X gWS_good mw_Model_122 kc_Model mo1 (c_Model_isView l D q H d w ar hR c0 hv v) (fun _ _ _ => trivial) gBlind.tt rfl rfl hl.1 (Nat.le_of_ble_eq_true rfl) rfl rfl ⟨by decide, by decide⟩ ⟨by decide, by decide⟩ d_Model_get_2 (fun _ h => h.elim) (fun _ h => by cases h) (fun v2 H3 locs hp4 hL => ?_)
  obtain ⟨rfl, hHe⟩ := hp4
  rw [hHe]
  refine lv_if_ne X.1.1 X.1.2.1 d_Model_get_5 rfl (fun hc5 => ?_) (fun hc5 => ?_)
  · replace hc5 := gz_t hc5
    exact absurd hc5 hno
  · replace hc5 := gz_f hc5
    refine lv_aload_n X.1.1 X.1.2.1 d_Model_get_8 rfl (gl_at hl rfl) ?_
    refine lv_iconst (v := nI 1) X.1.1 X.1.2.1 d_Model_get_9 (by decide) ?_
    refine g_cv (A := (fun p => d ≤ p ∧ p ≤ d + 28)) X gWS_good mw_Model_126 kc_Model mo1 (c_Model_raise l D q H d w ar hR (nI 1)) (fun _ _ _ => trivial) gBlind.tt rfl rfl hl.1 (Nat.le_of_ble_eq_true rfl) rfl rfl ⟨by decide, by decide⟩ ⟨by decide, by decide⟩ d_Model_get_10 (fun _ h => h) hL (fun v5 H6 locs hp7 hL => ?_)
    obtain ⟨rfl, hR8, z9, fr10⟩ := hp7
    exact g_iret X B ⟨rfl, hR8, z9, fun p hp => (fr10 p (by omega))⟩ hL d_Model_get_13 (by omega) (by omega)

set_option maxHeartbeats 4000000 in
set_option maxRecDepth 100000 in
/-- remove: no view -/
theorem c_Model_removeV (l : Launch) (D : va_G) (q : Nat → ClassId) (H : Heap) (d : Nat) (w : Nat → Int32) (ar : Nat → Nat → Int32) (hR : dR D q H d w ar) (c0 : Nat) (hv : w 8 = nI c0) (v : Int32) (hno : ¬ h_ok c0 v) : gC l y_Model_remove (Cond.code y_Model_remove b_Model_remove 4 (some .int) :: gWS) (gR 4 99 0 0) D CL (gY q) (fun _ => True) [.ref d, .int v] H (fun v1 H1 => v1 = some (.int 0) ∧ dR D q H1 d (upd w 0 (nI 1)) ar ∧ H1.size = H.size ∧ ∀ p : Nat, (p < d ∨ d + 28 < p) → H1[p]? = H[p]?) 0 0 (fun p => d ≤ p ∧ p ≤ d + 28) := by
  refine gC.ofW R_Model "remove" (by decide) rfl rfl ?_
  intro p e s m below meth c hadm X hE hH B hne
  refine g_entry [some (.ref d), some (.int v), none, none] rfl rfl (Nat.le_of_ble_eq_true rfl) (fun ls hl => ?_)
  refine lv_aload_n X.1.1 X.1.2.1 d_Model_remove_0 rfl (gl_at hl rfl) ?_
  refine lv_iload_n X.1.1 X.1.2.1 d_Model_remove_1 rfl (gl_at hl rfl) ?_
  have mo1 : va_at D CL (d, .inr (10, [.int (w 0), .ref (d + 1), .int (w 2), .ref (d + 2), .ref (d + 3), .ref (d + 4), .ref (d + 5), .ref (d + 6), .int (w 8), .ref (d + 7), .ref (d + 8), .ref (d + 9), .ref (d + 10), .ref (d + 11), .ref (d + 12), .ref (d + 13), .ref (d + 14), .ref (d + 15), .ref (d + 16), .ref (d + 17), .int (w 20), .ref (d + 18), .int (w 22), .ref (d + 19), .ref (d + 20), .ref (d + 21), .int (w 26), .int (w 27), .int (w 28), .ref (d + 22), .ref (d + 23), .ref (d + 24), .ref (d + 25), .ref (d + 26), .int (w 34), .ref (d + 27), .ref (d + 28), .int (w 37), .int (w 38)])) H := hR.1
  refine g_cv (A := (fun p => d ≤ p ∧ p ≤ d + 28)) X gWS_good mw_Model_122 kc_Model mo1 (c_Model_isView l D q H d w ar hR c0 hv v) (fun _ _ _ => trivial) gBlind.tt rfl rfl hl.1 (Nat.le_of_ble_eq_true rfl) rfl rfl ⟨by decide, by decide⟩ ⟨by decide, by decide⟩ d_Model_remove_2 (fun _ h => h.elim) (fun _ h => by cases h) (fun v2 H3 locs hp4 hL => ?_)
  obtain ⟨rfl, hHe⟩ := hp4
  rw [hHe]
  refine lv_if_ne X.1.1 X.1.2.1 d_Model_remove_5 rfl (fun hc5 => ?_) (fun hc5 => ?_)
  · replace hc5 := gz_t hc5
    exact absurd hc5 hno
  · replace hc5 := gz_f hc5
    refine lv_aload_n X.1.1 X.1.2.1 d_Model_remove_8 rfl (gl_at hl rfl) ?_
    refine lv_iconst (v := nI 1) X.1.1 X.1.2.1 d_Model_remove_9 (by decide) ?_
    refine g_cv (A := (fun p => d ≤ p ∧ p ≤ d + 28)) X gWS_good mw_Model_126 kc_Model mo1 (c_Model_raise l D q H d w ar hR (nI 1)) (fun _ _ _ => trivial) gBlind.tt rfl rfl hl.1 (Nat.le_of_ble_eq_true rfl) rfl rfl ⟨by decide, by decide⟩ ⟨by decide, by decide⟩ d_Model_remove_10 (fun _ h => h) hL (fun v5 H6 locs hp7 hL => ?_)
    obtain ⟨rfl, hR8, z9, fr10⟩ := hp7
    exact g_iret X B ⟨rfl, hR8, z9, fun p hp => (fr10 p (by omega))⟩ hL d_Model_remove_13 (by omega) (by omega)

set_option maxHeartbeats 4000000 in
set_option maxRecDepth 100000 in
/-- at: no view -/
theorem c_Model_atV (l : Launch) (D : va_G) (q : Nat → ClassId) (H : Heap) (d : Nat) (w : Nat → Int32) (ar : Nat → Nat → Int32) (hR : dR D q H d w ar) (c0 : Nat) (hv : w 8 = nI c0) (v : Int32) (hno : ¬ h_ok c0 v) (x : Int32) : gC l y_Model_at (Cond.code y_Model_at b_Model_at 5 (some .int) :: gWS) (gR 5 132 0 0) D CL (gY q) (fun _ => True) [.ref d, .int v, .int x] H (fun v1 H1 => v1 = some (.int 0) ∧ dR D q H1 d (upd w 0 (nI 1)) ar ∧ H1.size = H.size ∧ ∀ p : Nat, (p < d ∨ d + 28 < p) → H1[p]? = H[p]?) 0 0 (fun p => d ≤ p ∧ p ≤ d + 28) := by
  refine gC.ofW R_Model "at" (by decide) rfl rfl ?_
  intro p e s m below meth c hadm X hE hH B hne
  refine g_entry [some (.ref d), some (.int v), some (.int x), none, none] rfl rfl (Nat.le_of_ble_eq_true rfl) (fun ls hl => ?_)
  refine lv_aload_n X.1.1 X.1.2.1 d_Model_at_0 rfl (gl_at hl rfl) ?_
  refine lv_iload_n X.1.1 X.1.2.1 d_Model_at_1 rfl (gl_at hl rfl) ?_
  have mo1 : va_at D CL (d, .inr (10, [.int (w 0), .ref (d + 1), .int (w 2), .ref (d + 2), .ref (d + 3), .ref (d + 4), .ref (d + 5), .ref (d + 6), .int (w 8), .ref (d + 7), .ref (d + 8), .ref (d + 9), .ref (d + 10), .ref (d + 11), .ref (d + 12), .ref (d + 13), .ref (d + 14), .ref (d + 15), .ref (d + 16), .ref (d + 17), .int (w 20), .ref (d + 18), .int (w 22), .ref (d + 19), .ref (d + 20), .ref (d + 21), .int (w 26), .int (w 27), .int (w 28), .ref (d + 22), .ref (d + 23), .ref (d + 24), .ref (d + 25), .ref (d + 26), .int (w 34), .ref (d + 27), .ref (d + 28), .int (w 37), .int (w 38)])) H := hR.1
  refine g_cv (A := (fun p => d ≤ p ∧ p ≤ d + 28)) X gWS_good mw_Model_122 kc_Model mo1 (c_Model_isView l D q H d w ar hR c0 hv v) (fun _ _ _ => trivial) gBlind.tt rfl rfl hl.1 (Nat.le_of_ble_eq_true rfl) rfl rfl ⟨by decide, by decide⟩ ⟨by decide, by decide⟩ d_Model_at_2 (fun _ h => h.elim) (fun _ h => by cases h) (fun v2 H3 locs hp4 hL => ?_)
  obtain ⟨rfl, hHe⟩ := hp4
  rw [hHe]
  refine lv_if_ne X.1.1 X.1.2.1 d_Model_at_5 rfl (fun hc5 => ?_) (fun hc5 => ?_)
  · replace hc5 := gz_t hc5
    exact absurd hc5 hno
  · replace hc5 := gz_f hc5
    refine lv_aload_n X.1.1 X.1.2.1 d_Model_at_8 rfl (gl_at hl rfl) ?_
    refine lv_iconst (v := nI 1) X.1.1 X.1.2.1 d_Model_at_9 (by decide) ?_
    refine g_cv (A := (fun p => d ≤ p ∧ p ≤ d + 28)) X gWS_good mw_Model_126 kc_Model mo1 (c_Model_raise l D q H d w ar hR (nI 1)) (fun _ _ _ => trivial) gBlind.tt rfl rfl hl.1 (Nat.le_of_ble_eq_true rfl) rfl rfl ⟨by decide, by decide⟩ ⟨by decide, by decide⟩ d_Model_at_10 (fun _ h => h) hL (fun v5 H6 locs hp7 hL => ?_)
    obtain ⟨rfl, hR8, z9, fr10⟩ := hp7
    exact g_iret X B ⟨rfl, hR8, z9, fun p hp => (fr10 p (by omega))⟩ hL d_Model_at_13 (by omega) (by omega)

set_option maxHeartbeats 4000000 in
set_option maxRecDepth 100000 in
/-- poll: no view -/
theorem c_Model_pollV (l : Launch) (D : va_G) (q : Nat → ClassId) (H : Heap) (d : Nat) (w : Nat → Int32) (ar : Nat → Nat → Int32) (hR : dR D q H d w ar) (c0 : Nat) (hv : w 8 = nI c0) (v : Int32) (hno : ¬ h_ok c0 v) (x : Int32) : gC l y_Model_poll (Cond.code y_Model_poll b_Model_poll 5 (some .int) :: gWS) (gR 5 132 0 0) D CL (gY q) (fun _ => True) [.ref d, .int v, .int x] H (fun v1 H1 => v1 = some (.int 0) ∧ dR D q H1 d (upd w 0 (nI 1)) ar ∧ H1.size = H.size ∧ ∀ p : Nat, (p < d ∨ d + 28 < p) → H1[p]? = H[p]?) 0 0 (fun p => d ≤ p ∧ p ≤ d + 28) := by
  refine gC.ofW R_Model "poll" (by decide) rfl rfl ?_
  intro p e s m below meth c hadm X hE hH B hne
  refine g_entry [some (.ref d), some (.int v), some (.int x), none, none] rfl rfl (Nat.le_of_ble_eq_true rfl) (fun ls hl => ?_)
  refine lv_aload_n X.1.1 X.1.2.1 d_Model_poll_0 rfl (gl_at hl rfl) ?_
  refine lv_iload_n X.1.1 X.1.2.1 d_Model_poll_1 rfl (gl_at hl rfl) ?_
  have mo1 : va_at D CL (d, .inr (10, [.int (w 0), .ref (d + 1), .int (w 2), .ref (d + 2), .ref (d + 3), .ref (d + 4), .ref (d + 5), .ref (d + 6), .int (w 8), .ref (d + 7), .ref (d + 8), .ref (d + 9), .ref (d + 10), .ref (d + 11), .ref (d + 12), .ref (d + 13), .ref (d + 14), .ref (d + 15), .ref (d + 16), .ref (d + 17), .int (w 20), .ref (d + 18), .int (w 22), .ref (d + 19), .ref (d + 20), .ref (d + 21), .int (w 26), .int (w 27), .int (w 28), .ref (d + 22), .ref (d + 23), .ref (d + 24), .ref (d + 25), .ref (d + 26), .int (w 34), .ref (d + 27), .ref (d + 28), .int (w 37), .int (w 38)])) H := hR.1
  refine g_cv (A := (fun p => d ≤ p ∧ p ≤ d + 28)) X gWS_good mw_Model_122 kc_Model mo1 (c_Model_isView l D q H d w ar hR c0 hv v) (fun _ _ _ => trivial) gBlind.tt rfl rfl hl.1 (Nat.le_of_ble_eq_true rfl) rfl rfl ⟨by decide, by decide⟩ ⟨by decide, by decide⟩ d_Model_poll_2 (fun _ h => h.elim) (fun _ h => by cases h) (fun v2 H3 locs hp4 hL => ?_)
  obtain ⟨rfl, hHe⟩ := hp4
  rw [hHe]
  refine lv_if_ne X.1.1 X.1.2.1 d_Model_poll_5 rfl (fun hc5 => ?_) (fun hc5 => ?_)
  · replace hc5 := gz_t hc5
    exact absurd hc5 hno
  · replace hc5 := gz_f hc5
    refine lv_aload_n X.1.1 X.1.2.1 d_Model_poll_8 rfl (gl_at hl rfl) ?_
    refine lv_iconst (v := nI 1) X.1.1 X.1.2.1 d_Model_poll_9 (by decide) ?_
    refine g_cv (A := (fun p => d ≤ p ∧ p ≤ d + 28)) X gWS_good mw_Model_126 kc_Model mo1 (c_Model_raise l D q H d w ar hR (nI 1)) (fun _ _ _ => trivial) gBlind.tt rfl rfl hl.1 (Nat.le_of_ble_eq_true rfl) rfl rfl ⟨by decide, by decide⟩ ⟨by decide, by decide⟩ d_Model_poll_10 (fun _ h => h) hL (fun v5 H6 locs hp7 hL => ?_)
    obtain ⟨rfl, hR8, z9, fr10⟩ := hp7
    exact g_iret X B ⟨rfl, hR8, z9, fun p hp => (fr10 p (by omega))⟩ hL d_Model_poll_13 (by omega) (by omega)

set_option maxHeartbeats 4000000 in
set_option maxRecDepth 100000 in
/-- next: no view -/
theorem c_Model_nextV (l : Launch) (D : va_G) (q : Nat → ClassId) (H : Heap) (d : Nat) (w : Nat → Int32) (ar : Nat → Nat → Int32) (hR : dR D q H d w ar) (c0 : Nat) (hv : w 8 = nI c0) (v : Int32) (hno : ¬ h_ok c0 v) : gC l y_Model_next (Cond.code y_Model_next b_Model_next 5 (some .int) :: gWS) (gR 5 132 0 0) D CL (gY q) (fun _ => True) [.ref d, .int v] H (fun v1 H1 => v1 = some (.int 0) ∧ dR D q H1 d (upd w 0 (nI 1)) ar ∧ H1.size = H.size ∧ ∀ p : Nat, (p < d ∨ d + 28 < p) → H1[p]? = H[p]?) 0 0 (fun p => d ≤ p ∧ p ≤ d + 28) := by
  refine gC.ofW R_Model "next" (by decide) rfl rfl ?_
  intro p e s m below meth c hadm X hE hH B hne
  refine g_entry [some (.ref d), some (.int v), none, none, none] rfl rfl (Nat.le_of_ble_eq_true rfl) (fun ls hl => ?_)
  refine lv_aload_n X.1.1 X.1.2.1 d_Model_next_0 rfl (gl_at hl rfl) ?_
  refine lv_iload_n X.1.1 X.1.2.1 d_Model_next_1 rfl (gl_at hl rfl) ?_
  have mo1 : va_at D CL (d, .inr (10, [.int (w 0), .ref (d + 1), .int (w 2), .ref (d + 2), .ref (d + 3), .ref (d + 4), .ref (d + 5), .ref (d + 6), .int (w 8), .ref (d + 7), .ref (d + 8), .ref (d + 9), .ref (d + 10), .ref (d + 11), .ref (d + 12), .ref (d + 13), .ref (d + 14), .ref (d + 15), .ref (d + 16), .ref (d + 17), .int (w 20), .ref (d + 18), .int (w 22), .ref (d + 19), .ref (d + 20), .ref (d + 21), .int (w 26), .int (w 27), .int (w 28), .ref (d + 22), .ref (d + 23), .ref (d + 24), .ref (d + 25), .ref (d + 26), .int (w 34), .ref (d + 27), .ref (d + 28), .int (w 37), .int (w 38)])) H := hR.1
  refine g_cv (A := (fun p => d ≤ p ∧ p ≤ d + 28)) X gWS_good mw_Model_122 kc_Model mo1 (c_Model_isView l D q H d w ar hR c0 hv v) (fun _ _ _ => trivial) gBlind.tt rfl rfl hl.1 (Nat.le_of_ble_eq_true rfl) rfl rfl ⟨by decide, by decide⟩ ⟨by decide, by decide⟩ d_Model_next_2 (fun _ h => h.elim) (fun _ h => by cases h) (fun v2 H3 locs hp4 hL => ?_)
  obtain ⟨rfl, hHe⟩ := hp4
  rw [hHe]
  refine lv_if_ne X.1.1 X.1.2.1 d_Model_next_5 rfl (fun hc5 => ?_) (fun hc5 => ?_)
  · replace hc5 := gz_t hc5
    exact absurd hc5 hno
  · replace hc5 := gz_f hc5
    refine lv_aload_n X.1.1 X.1.2.1 d_Model_next_8 rfl (gl_at hl rfl) ?_
    refine lv_iconst (v := nI 1) X.1.1 X.1.2.1 d_Model_next_9 (by decide) ?_
    refine g_cv (A := (fun p => d ≤ p ∧ p ≤ d + 28)) X gWS_good mw_Model_126 kc_Model mo1 (c_Model_raise l D q H d w ar hR (nI 1)) (fun _ _ _ => trivial) gBlind.tt rfl rfl hl.1 (Nat.le_of_ble_eq_true rfl) rfl rfl ⟨by decide, by decide⟩ ⟨by decide, by decide⟩ d_Model_next_10 (fun _ h => h) hL (fun v5 H6 locs hp7 hL => ?_)
    obtain ⟨rfl, hR8, z9, fr10⟩ := hp7
    exact g_iret X B ⟨rfl, hR8, z9, fun p hp => (fr10 p (by omega))⟩ hL d_Model_next_13 (by omega) (by omega)

set_option maxHeartbeats 4000000 in
set_option maxRecDepth 100000 in
/-- drop: no view -/
theorem c_Model_dropV (l : Launch) (D : va_G) (q : Nat → ClassId) (H : Heap) (d : Nat) (w : Nat → Int32) (ar : Nat → Nat → Int32) (hR : dR D q H d w ar) (c0 : Nat) (hv : w 8 = nI c0) (v : Int32) (hno : ¬ h_ok c0 v) : gC l y_Model_drop (Cond.code y_Model_drop b_Model_drop 5 (some .int) :: gWS) (gR 3 75 0 0) D CL (gY q) (fun _ => True) [.ref d, .int v] H (fun v1 H1 => v1 = some (.int 0) ∧ dR D q H1 d (upd w 0 (nI 1)) ar ∧ H1.size = H.size ∧ ∀ p : Nat, (p < d ∨ d + 28 < p) → H1[p]? = H[p]?) 0 0 (fun p => d ≤ p ∧ p ≤ d + 28) := by
  refine gC.ofW R_Model "drop" (by decide) rfl rfl ?_
  intro p e s m below meth c hadm X hE hH B hne
  refine g_entry [some (.ref d), some (.int v), none, none, none] rfl rfl (Nat.le_of_ble_eq_true rfl) (fun ls hl => ?_)
  refine lv_aload_n X.1.1 X.1.2.1 d_Model_drop_0 rfl (gl_at hl rfl) ?_
  refine lv_iload_n X.1.1 X.1.2.1 d_Model_drop_1 rfl (gl_at hl rfl) ?_
  have mo1 : va_at D CL (d, .inr (10, [.int (w 0), .ref (d + 1), .int (w 2), .ref (d + 2), .ref (d + 3), .ref (d + 4), .ref (d + 5), .ref (d + 6), .int (w 8), .ref (d + 7), .ref (d + 8), .ref (d + 9), .ref (d + 10), .ref (d + 11), .ref (d + 12), .ref (d + 13), .ref (d + 14), .ref (d + 15), .ref (d + 16), .ref (d + 17), .int (w 20), .ref (d + 18), .int (w 22), .ref (d + 19), .ref (d + 20), .ref (d + 21), .int (w 26), .int (w 27), .int (w 28), .ref (d + 22), .ref (d + 23), .ref (d + 24), .ref (d + 25), .ref (d + 26), .int (w 34), .ref (d + 27), .ref (d + 28), .int (w 37), .int (w 38)])) H := hR.1
  refine g_cv (A := (fun p => d ≤ p ∧ p ≤ d + 28)) X gWS_good mw_Model_122 kc_Model mo1 (c_Model_isView l D q H d w ar hR c0 hv v) (fun _ _ _ => trivial) gBlind.tt rfl rfl hl.1 (Nat.le_of_ble_eq_true rfl) rfl rfl ⟨by decide, by decide⟩ ⟨by decide, by decide⟩ d_Model_drop_2 (fun _ h => h.elim) (fun _ h => by cases h) (fun v2 H3 locs hp4 hL => ?_)
  obtain ⟨rfl, hHe⟩ := hp4
  rw [hHe]
  refine lv_if_ne X.1.1 X.1.2.1 d_Model_drop_5 rfl (fun hc5 => ?_) (fun hc5 => ?_)
  · replace hc5 := gz_t hc5
    exact absurd hc5 hno
  · replace hc5 := gz_f hc5
    refine lv_aload_n X.1.1 X.1.2.1 d_Model_drop_8 rfl (gl_at hl rfl) ?_
    refine lv_iconst (v := nI 1) X.1.1 X.1.2.1 d_Model_drop_9 (by decide) ?_
    refine g_cv (A := (fun p => d ≤ p ∧ p ≤ d + 28)) X gWS_good mw_Model_126 kc_Model mo1 (c_Model_raise l D q H d w ar hR (nI 1)) (fun _ _ _ => trivial) gBlind.tt rfl rfl hl.1 (Nat.le_of_ble_eq_true rfl) rfl rfl ⟨by decide, by decide⟩ ⟨by decide, by decide⟩ d_Model_drop_10 (fun _ h => h) hL (fun v5 H6 locs hp7 hL => ?_)
    obtain ⟨rfl, hR8, z9, fr10⟩ := hp7
    exact g_iret X B ⟨rfl, hR8, z9, fun p hp => (fr10 p (by omega))⟩ hL d_Model_drop_13 (by omega) (by omega)

set_option maxHeartbeats 4000000 in
set_option maxRecDepth 100000 in
/-- match: no view -/
theorem c_Model_matchV (l : Launch) (D : va_G) (q : Nat → ClassId) (H : Heap) (d : Nat) (w : Nat → Int32) (ar : Nat → Nat → Int32) (hR : dR D q H d w ar) (c0 : Nat) (hv : w 8 = nI c0) (v : Int32) (hno : ¬ h_ok c0 v) (x : Int32) : gC l y_Model_match (Cond.code y_Model_match b_Model_match 9 (some .int) :: gWS) (gR 4 100 0 0) D CL (gY q) (fun _ => True) [.ref d, .int v, .int x] H (fun v1 H1 => v1 = some (.int 0) ∧ dR D q H1 d (upd w 0 (nI 1)) ar ∧ H1.size = H.size ∧ ∀ p : Nat, (p < d ∨ d + 28 < p) → H1[p]? = H[p]?) 0 0 (fun p => d ≤ p ∧ p ≤ d + 28) := by
  refine gC.ofW R_Model "match" (by decide) rfl rfl ?_
  intro p e s m below meth c hadm X hE hH B hne
  refine g_entry [some (.ref d), some (.int v), some (.int x), none, none, none, none, none, none] rfl rfl (Nat.le_of_ble_eq_true rfl) (fun ls hl => ?_)
  refine lv_aload_n X.1.1 X.1.2.1 d_Model_match_0 rfl (gl_at hl rfl) ?_
  refine lv_iload_n X.1.1 X.1.2.1 d_Model_match_1 rfl (gl_at hl rfl) ?_
  have mo1 : va_at D CL (d, .inr (10, [.int (w 0), .ref (d + 1), .int (w 2), .ref (d + 2), .ref (d + 3), .ref (d + 4), .ref (d + 5), .ref (d + 6), .int (w 8), .ref (d + 7), .ref (d + 8), .ref (d + 9), .ref (d + 10), .ref (d + 11), .ref (d + 12), .ref (d + 13), .ref (d + 14), .ref (d + 15), .ref (d + 16), .ref (d + 17), .int (w 20), .ref (d + 18), .int (w 22), .ref (d + 19), .ref (d + 20), .ref (d + 21), .int (w 26), .int (w 27), .int (w 28), .ref (d + 22), .ref (d + 23), .ref (d + 24), .ref (d + 25), .ref (d + 26), .int (w 34), .ref (d + 27), .ref (d + 28), .int (w 37), .int (w 38)])) H := hR.1
  refine g_cv (A := (fun p => d ≤ p ∧ p ≤ d + 28)) X gWS_good mw_Model_122 kc_Model mo1 (c_Model_isView l D q H d w ar hR c0 hv v) (fun _ _ _ => trivial) gBlind.tt rfl rfl hl.1 (Nat.le_of_ble_eq_true rfl) rfl rfl ⟨by decide, by decide⟩ ⟨by decide, by decide⟩ d_Model_match_2 (fun _ h => h.elim) (fun _ h => by cases h) (fun v2 H3 locs hp4 hL => ?_)
  obtain ⟨rfl, hHe⟩ := hp4
  rw [hHe]
  refine lv_if_ne X.1.1 X.1.2.1 d_Model_match_5 rfl (fun hc5 => ?_) (fun hc5 => ?_)
  · replace hc5 := gz_t hc5
    exact absurd hc5 hno
  · replace hc5 := gz_f hc5
    refine lv_aload_n X.1.1 X.1.2.1 d_Model_match_8 rfl (gl_at hl rfl) ?_
    refine lv_iconst (v := nI 1) X.1.1 X.1.2.1 d_Model_match_9 (by decide) ?_
    refine g_cv (A := (fun p => d ≤ p ∧ p ≤ d + 28)) X gWS_good mw_Model_126 kc_Model mo1 (c_Model_raise l D q H d w ar hR (nI 1)) (fun _ _ _ => trivial) gBlind.tt rfl rfl hl.1 (Nat.le_of_ble_eq_true rfl) rfl rfl ⟨by decide, by decide⟩ ⟨by decide, by decide⟩ d_Model_match_10 (fun _ h => h) hL (fun v5 H6 locs hp7 hL => ?_)
    obtain ⟨rfl, hR8, z9, fr10⟩ := hp7
    exact g_iret X B ⟨rfl, hR8, z9, fun p hp => (fr10 p (by omega))⟩ hL d_Model_match_13 (by omega) (by omega)

set_option maxHeartbeats 4000000 in
set_option maxRecDepth 100000 in
/-- freeze: no view -/
theorem c_Model_freezeV (l : Launch) (D : va_G) (q : Nat → ClassId) (H : Heap) (d : Nat) (w : Nat → Int32) (ar : Nat → Nat → Int32) (hR : dR D q H d w ar) (c0 : Nat) (hv : w 8 = nI c0) (v : Int32) (hno : ¬ h_ok c0 v) : gC l y_Model_freeze (Cond.code y_Model_freeze b_Model_freeze 5 (some .int) :: gWS) (gR 6 150 0 0) D CL (gY q) (fun _ => True) [.ref d, .int v] H (fun v1 H1 => v1 = some (.int 0) ∧ dR D q H1 d (upd w 0 (nI 1)) ar ∧ H1.size = H.size ∧ ∀ p : Nat, (p < d ∨ d + 28 < p) → H1[p]? = H[p]?) 0 0 (fun p => d ≤ p ∧ p ≤ d + 28) := by
  refine gC.ofW R_Model "freeze" (by decide) rfl rfl ?_
  intro p e s m below meth c hadm X hE hH B hne
  refine g_entry [some (.ref d), some (.int v), none, none, none] rfl rfl (Nat.le_of_ble_eq_true rfl) (fun ls hl => ?_)
  refine lv_aload_n X.1.1 X.1.2.1 d_Model_freeze_0 rfl (gl_at hl rfl) ?_
  refine lv_iload_n X.1.1 X.1.2.1 d_Model_freeze_1 rfl (gl_at hl rfl) ?_
  have mo1 : va_at D CL (d, .inr (10, [.int (w 0), .ref (d + 1), .int (w 2), .ref (d + 2), .ref (d + 3), .ref (d + 4), .ref (d + 5), .ref (d + 6), .int (w 8), .ref (d + 7), .ref (d + 8), .ref (d + 9), .ref (d + 10), .ref (d + 11), .ref (d + 12), .ref (d + 13), .ref (d + 14), .ref (d + 15), .ref (d + 16), .ref (d + 17), .int (w 20), .ref (d + 18), .int (w 22), .ref (d + 19), .ref (d + 20), .ref (d + 21), .int (w 26), .int (w 27), .int (w 28), .ref (d + 22), .ref (d + 23), .ref (d + 24), .ref (d + 25), .ref (d + 26), .int (w 34), .ref (d + 27), .ref (d + 28), .int (w 37), .int (w 38)])) H := hR.1
  refine g_cv (A := (fun p => d ≤ p ∧ p ≤ d + 28)) X gWS_good mw_Model_122 kc_Model mo1 (c_Model_isView l D q H d w ar hR c0 hv v) (fun _ _ _ => trivial) gBlind.tt rfl rfl hl.1 (Nat.le_of_ble_eq_true rfl) rfl rfl ⟨by decide, by decide⟩ ⟨by decide, by decide⟩ d_Model_freeze_2 (fun _ h => h.elim) (fun _ h => by cases h) (fun v2 H3 locs hp4 hL => ?_)
  obtain ⟨rfl, hHe⟩ := hp4
  rw [hHe]
  refine lv_if_ne X.1.1 X.1.2.1 d_Model_freeze_5 rfl (fun hc5 => ?_) (fun hc5 => ?_)
  · replace hc5 := gz_t hc5
    exact absurd hc5 hno
  · replace hc5 := gz_f hc5
    refine lv_aload_n X.1.1 X.1.2.1 d_Model_freeze_8 rfl (gl_at hl rfl) ?_
    refine lv_iconst (v := nI 1) X.1.1 X.1.2.1 d_Model_freeze_9 (by decide) ?_
    refine g_cv (A := (fun p => d ≤ p ∧ p ≤ d + 28)) X gWS_good mw_Model_126 kc_Model mo1 (c_Model_raise l D q H d w ar hR (nI 1)) (fun _ _ _ => trivial) gBlind.tt rfl rfl hl.1 (Nat.le_of_ble_eq_true rfl) rfl rfl ⟨by decide, by decide⟩ ⟨by decide, by decide⟩ d_Model_freeze_10 (fun _ h => h) hL (fun v5 H6 locs hp7 hL => ?_)
    obtain ⟨rfl, hR8, z9, fr10⟩ := hp7
    exact g_iret X B ⟨rfl, hR8, z9, fun p hp => (fr10 p (by omega))⟩ hL d_Model_freeze_13 (by omega) (by omega)

set_option maxHeartbeats 4000000 in
set_option maxRecDepth 100000 in
/-- size: no view -/
theorem c_Model_sizeV (l : Launch) (D : va_G) (q : Nat → ClassId) (H : Heap) (d : Nat) (w : Nat → Int32) (ar : Nat → Nat → Int32) (hR : dR D q H d w ar) (c0 : Nat) (hv : w 8 = nI c0) (v : Int32) (hno : ¬ h_ok c0 v) : gC l y_Model_size (Cond.code y_Model_size b_Model_size 4 (some .int) :: gWS) (gR 4 100 0 0) D CL (gY q) (fun _ => True) [.ref d, .int v] H (fun v1 H1 => v1 = some (.int (-1)) ∧ dR D q H1 d (upd w 0 (nI 0)) ar ∧ H1.size = H.size ∧ ∀ p : Nat, (p < d ∨ d + 28 < p) → H1[p]? = H[p]?) 0 0 (fun p => d ≤ p ∧ p ≤ d + 28) := by
  refine gC.ofW R_Model "size" (by decide) rfl rfl ?_
  intro p e s m below meth c hadm X hE hH B hne
  refine g_entry [some (.ref d), some (.int v), none, none] rfl rfl (Nat.le_of_ble_eq_true rfl) (fun ls hl => ?_)
  refine lv_aload_n X.1.1 X.1.2.1 d_Model_size_0 rfl (gl_at hl rfl) ?_
  refine lv_iconst (v := nI 0) X.1.1 X.1.2.1 d_Model_size_1 (by decide) ?_
  have mo1 : va_at D CL (d, .inr (10, [.int (w 0), .ref (d + 1), .int (w 2), .ref (d + 2), .ref (d + 3), .ref (d + 4), .ref (d + 5), .ref (d + 6), .int (w 8), .ref (d + 7), .ref (d + 8), .ref (d + 9), .ref (d + 10), .ref (d + 11), .ref (d + 12), .ref (d + 13), .ref (d + 14), .ref (d + 15), .ref (d + 16), .ref (d + 17), .int (w 20), .ref (d + 18), .int (w 22), .ref (d + 19), .ref (d + 20), .ref (d + 21), .int (w 26), .int (w 27), .int (w 28), .ref (d + 22), .ref (d + 23), .ref (d + 24), .ref (d + 25), .ref (d + 26), .int (w 34), .ref (d + 27), .ref (d + 28), .int (w 37), .int (w 38)])) H := hR.1
  refine g_put (A := (fun p => d ≤ p ∧ p ≤ d + 28)) X kc_Model mo1 0 (by decide) lk_Model_99 rfl rfl rfl (Nat.le_of_ble_eq_true rfl) d_Model_size_2 ⟨by omega, by omega⟩ (fun _ h => by cases h) (fun H2 locs h3 z4 oq5 hL => ?_)
  have hR6 : dR D q H2 d (upd w 0 (nI 0)) ar := hR.putO h3 oq5
  refine lv_aload_n X.1.1 X.1.2.1 d_Model_size_5 rfl (gl_at hl rfl) ?_
  refine lv_iload_n X.1.1 X.1.2.1 d_Model_size_6 rfl (gl_at hl rfl) ?_
  have mo7 : va_at D CL (d, .inr (10, [.int (nI 0), .ref (d + 1), .int (w 2), .ref (d + 2), .ref (d + 3), .ref (d + 4), .ref (d + 5), .ref (d + 6), .int (w 8), .ref (d + 7), .ref (d + 8), .ref (d + 9), .ref (d + 10), .ref (d + 11), .ref (d + 12), .ref (d + 13), .ref (d + 14), .ref (d + 15), .ref (d + 16), .ref (d + 17), .int (w 20), .ref (d + 18), .int (w 22), .ref (d + 19), .ref (d + 20), .ref (d + 21), .int (w 26), .int (w 27), .int (w 28), .ref (d + 22), .ref (d + 23), .ref (d + 24), .ref (d + 25), .ref (d + 26), .int (w 34), .ref (d + 27), .ref (d + 28), .int (w 37), .int (w 38)])) H2 := hR6.1
  refine g_cv (A := (fun p => d ≤ p ∧ p ≤ d + 28)) X gWS_good mw_Model_122 kc_Model mo7 (c_Model_isView l D q H2 d (upd w 0 (nI 0)) ar hR6 c0 hv v) (fun _ _ _ => trivial) gBlind.tt rfl rfl hl.1 (Nat.le_of_ble_eq_true rfl) rfl rfl ⟨by decide, by decide⟩ ⟨by decide, by decide⟩ d_Model_size_7 (fun _ h => h.elim) hL (fun v8 H9 locs hp10 hL => ?_)
  obtain ⟨rfl, hHe⟩ := hp10
  rw [hHe]
  refine lv_if_ne X.1.1 X.1.2.1 d_Model_size_10 rfl (fun hc10 => ?_) (fun hc10 => ?_)
  · replace hc10 := gz_t hc10
    exact absurd hc10 hno
  · replace hc10 := gz_f hc10
    refine lv_iconst (v := (-1)) X.1.1 X.1.2.1 d_Model_size_13 (by decide) ?_
    exact g_iret X B ⟨rfl, hR6, z4, fun p hp => (oq5 p (by omega))⟩ hL d_Model_size_14 (by omega) (by omega)

set_option maxHeartbeats 4000000 in
set_option maxRecDepth 100000 in
/-- iterate: no view -/
theorem c_Model_iterateV (l : Launch) (D : va_G) (q : Nat → ClassId) (H : Heap) (d : Nat) (w : Nat → Int32) (ar : Nat → Nat → Int32) (hR : dR D q H d w ar) (c0 : Nat) (hv : w 8 = nI c0) (v : Int32) (hno : ¬ h_ok c0 v) : gC l y_Model_iterate (Cond.code y_Model_iterate b_Model_iterate 2 (some .boolean) :: gWS) (gR 1 22 0 0) D CL (gY q) (fun _ => True) [.ref d, .int v] H (fun v1 H1 => v1 = some (.int (nI 0)) ∧ dR D q H1 d (upd w 0 (nI 0)) ar ∧ H1.size = H.size ∧ ∀ p : Nat, (p < d ∨ d + 28 < p) → H1[p]? = H[p]?) 0 0 (fun p => d ≤ p ∧ p ≤ d + 28) := by
  refine gC.ofW R_Model "iterate" (by decide) rfl rfl ?_
  intro p e s m below meth c hadm X hE hH B hne
  refine g_entry [some (.ref d), some (.int v)] rfl rfl (Nat.le_of_ble_eq_true rfl) (fun ls hl => ?_)
  refine lv_aload_n X.1.1 X.1.2.1 d_Model_iterate_0 rfl (gl_at hl rfl) ?_
  refine lv_iconst (v := nI 0) X.1.1 X.1.2.1 d_Model_iterate_1 (by decide) ?_
  have mo1 : va_at D CL (d, .inr (10, [.int (w 0), .ref (d + 1), .int (w 2), .ref (d + 2), .ref (d + 3), .ref (d + 4), .ref (d + 5), .ref (d + 6), .int (w 8), .ref (d + 7), .ref (d + 8), .ref (d + 9), .ref (d + 10), .ref (d + 11), .ref (d + 12), .ref (d + 13), .ref (d + 14), .ref (d + 15), .ref (d + 16), .ref (d + 17), .int (w 20), .ref (d + 18), .int (w 22), .ref (d + 19), .ref (d + 20), .ref (d + 21), .int (w 26), .int (w 27), .int (w 28), .ref (d + 22), .ref (d + 23), .ref (d + 24), .ref (d + 25), .ref (d + 26), .int (w 34), .ref (d + 27), .ref (d + 28), .int (w 37), .int (w 38)])) H := hR.1
  refine g_put (A := (fun p => d ≤ p ∧ p ≤ d + 28)) X kc_Model mo1 0 (by decide) lk_Model_99 rfl rfl rfl (Nat.le_of_ble_eq_true rfl) d_Model_iterate_2 ⟨by omega, by omega⟩ (fun _ h => by cases h) (fun H2 locs h3 z4 oq5 hL => ?_)
  have hR6 : dR D q H2 d (upd w 0 (nI 0)) ar := hR.putO h3 oq5
  refine lv_aload_n X.1.1 X.1.2.1 d_Model_iterate_5 rfl (gl_at hl rfl) ?_
  refine lv_iload_n X.1.1 X.1.2.1 d_Model_iterate_6 rfl (gl_at hl rfl) ?_
  have mo7 : va_at D CL (d, .inr (10, [.int (nI 0), .ref (d + 1), .int (w 2), .ref (d + 2), .ref (d + 3), .ref (d + 4), .ref (d + 5), .ref (d + 6), .int (w 8), .ref (d + 7), .ref (d + 8), .ref (d + 9), .ref (d + 10), .ref (d + 11), .ref (d + 12), .ref (d + 13), .ref (d + 14), .ref (d + 15), .ref (d + 16), .ref (d + 17), .int (w 20), .ref (d + 18), .int (w 22), .ref (d + 19), .ref (d + 20), .ref (d + 21), .int (w 26), .int (w 27), .int (w 28), .ref (d + 22), .ref (d + 23), .ref (d + 24), .ref (d + 25), .ref (d + 26), .int (w 34), .ref (d + 27), .ref (d + 28), .int (w 37), .int (w 38)])) H2 := hR6.1
  refine g_cv (A := (fun p => d ≤ p ∧ p ≤ d + 28)) X gWS_good mw_Model_122 kc_Model mo7 (c_Model_isView l D q H2 d (upd w 0 (nI 0)) ar hR6 c0 hv v) (fun _ _ _ => trivial) gBlind.tt rfl rfl hl.1 (Nat.le_of_ble_eq_true rfl) rfl rfl ⟨by decide, by decide⟩ ⟨by decide, by decide⟩ d_Model_iterate_7 (fun _ h => h.elim) hL (fun v8 H9 locs hp10 hL => ?_)
  obtain ⟨rfl, hHe⟩ := hp10
  rw [hHe]
  refine lv_if_ne X.1.1 X.1.2.1 d_Model_iterate_10 rfl (fun hc10 => ?_) (fun hc10 => ?_)
  · replace hc10 := gz_t hc10
    exact absurd hc10 hno
  · replace hc10 := gz_f hc10
    refine lv_iconst (v := nI 0) X.1.1 X.1.2.1 d_Model_iterate_13 (by decide) ?_
    exact g_zret X B (by decide) ⟨rfl, hR6, z4, fun p hp => (oq5 p (by omega))⟩ hL d_Model_iterate_14 (by omega) (by omega)

set_option maxHeartbeats 4000000 in
set_option maxRecDepth 100000 in
/-- view: refused -/
theorem c_Model_viewV (l : Launch) (D : va_G) (q : Nat → ClassId) (H : Heap) (d : Nat) (w : Nat → Int32) (ar : Nat → Nat → Int32) (hR : dR D q H d w ar) (c0 : Nat) (hv : w 8 = nI c0) (v x : Int32) (hno : ¬ (h_ok c0 v ∧ ¬ x < 0 ∧ x ≤ nI 3)) : gC l y_Model_view (Cond.code y_Model_view b_Model_view 6 (some .int) :: gWS) (gR 1 21 0 0) D CL (gY q) (fun _ => True) [.ref d, .int v, .int x] H (fun v1 H1 => v1 = some (.int 0) ∧ dR D q H1 d (upd w 0 (nI 1)) ar ∧ H1.size = H.size ∧ ∀ p : Nat, (p < d ∨ d + 28 < p) → H1[p]? = H[p]?) 0 0 (fun p => d ≤ p ∧ p ≤ d + 28) := by
  refine gC.ofW R_Model "view" (by decide) rfl rfl ?_
  intro p e s m below meth c hadm X hE hH B hne
  refine g_entry [some (.ref d), some (.int v), some (.int x), none, none, none] rfl rfl (Nat.le_of_ble_eq_true rfl) (fun ls hl => ?_)
  refine lv_aload_n X.1.1 X.1.2.1 d_Model_view_0 rfl (gl_at hl rfl) ?_
  refine lv_iload_n X.1.1 X.1.2.1 d_Model_view_1 rfl (gl_at hl rfl) ?_
  have mo1 : va_at D CL (d, .inr (10, [.int (w 0), .ref (d + 1), .int (w 2), .ref (d + 2), .ref (d + 3), .ref (d + 4), .ref (d + 5), .ref (d + 6), .int (w 8), .ref (d + 7), .ref (d + 8), .ref (d + 9), .ref (d + 10), .ref (d + 11), .ref (d + 12), .ref (d + 13), .ref (d + 14), .ref (d + 15), .ref (d + 16), .ref (d + 17), .int (w 20), .ref (d + 18), .int (w 22), .ref (d + 19), .ref (d + 20), .ref (d + 21), .int (w 26), .int (w 27), .int (w 28), .ref (d + 22), .ref (d + 23), .ref (d + 24), .ref (d + 25), .ref (d + 26), .int (w 34), .ref (d + 27), .ref (d + 28), .int (w 37), .int (w 38)])) H := hR.1
  refine g_cv (A := (fun p => d ≤ p ∧ p ≤ d + 28)) X gWS_good mw_Model_122 kc_Model mo1 (c_Model_isView l D q H d w ar hR c0 hv v) (fun _ _ _ => trivial) gBlind.tt rfl rfl hl.1 (Nat.le_of_ble_eq_true rfl) rfl rfl ⟨by decide, by decide⟩ ⟨by decide, by decide⟩ d_Model_view_2 (fun _ h => h.elim) (fun _ h => by cases h) (fun v2 H3 locs hp4 hL => ?_)
  obtain ⟨rfl, hHe⟩ := hp4
  rw [hHe]
  refine lv_if_eq X.1.1 X.1.2.1 d_Model_view_5 rfl (fun hc5 => ?_) (fun hc5 => ?_)
  · replace hc5 := gz_f hc5
    refine lv_aload_n X.1.1 X.1.2.1 d_Model_view_17 rfl (gl_at hl rfl) ?_
    refine lv_iconst (v := nI 1) X.1.1 X.1.2.1 d_Model_view_18 (by decide) ?_
    refine g_cv (A := (fun p => d ≤ p ∧ p ≤ d + 28)) X gWS_good mw_Model_126 kc_Model mo1 (c_Model_raise l D q H d w ar hR (nI 1)) (fun _ _ _ => trivial) gBlind.tt rfl rfl hl.1 (Nat.le_of_ble_eq_true rfl) rfl rfl ⟨by decide, by decide⟩ ⟨by decide, by decide⟩ d_Model_view_19 (fun _ h => h) hL (fun v5 H6 locs hp7 hL => ?_)
    obtain ⟨rfl, hR8, z9, fr10⟩ := hp7
    exact g_iret X B ⟨rfl, hR8, z9, fun p hp => (fr10 p (by omega))⟩ hL d_Model_view_22 (by omega) (by omega)
  · replace hc5 := gz_t hc5
    refine lv_iload_n X.1.1 X.1.2.1 d_Model_view_8 rfl (gl_at hl rfl) ?_
    refine lv_if_lt X.1.1 X.1.2.1 d_Model_view_9 rfl (fun hc9 => ?_) (fun hc9 => ?_)
    · refine lv_aload_n X.1.1 X.1.2.1 d_Model_view_17 rfl (gl_at hl rfl) ?_
      refine lv_iconst (v := nI 1) X.1.1 X.1.2.1 d_Model_view_18 (by decide) ?_
      refine g_cv (A := (fun p => d ≤ p ∧ p ≤ d + 28)) X gWS_good mw_Model_126 kc_Model mo1 (c_Model_raise l D q H d w ar hR (nI 1)) (fun _ _ _ => trivial) gBlind.tt rfl rfl hl.1 (Nat.le_of_ble_eq_true rfl) rfl rfl ⟨by decide, by decide⟩ ⟨by decide, by decide⟩ d_Model_view_19 (fun _ h => h) hL (fun v11 H12 locs hp13 hL => ?_)
      obtain ⟨rfl, hR14, z15, fr16⟩ := hp13
      exact g_iret X B ⟨rfl, hR14, z15, fun p hp => (fr16 p (by omega))⟩ hL d_Model_view_22 (by omega) (by omega)
    · refine lv_iload_n X.1.1 X.1.2.1 d_Model_view_12 rfl (gl_at hl rfl) ?_
      refine lv_iconst (v := nI 3) X.1.1 X.1.2.1 d_Model_view_13 (by decide) ?_
      refine lv_icmp_le X.1.1 X.1.2.1 d_Model_view_14 rfl (fun hc14 => ?_) (fun hc14 => ?_)
      · exact absurd ⟨hc5, hc9, hc14⟩ hno
      · refine lv_aload_n X.1.1 X.1.2.1 d_Model_view_17 rfl (gl_at hl rfl) ?_
        refine lv_iconst (v := nI 1) X.1.1 X.1.2.1 d_Model_view_18 (by decide) ?_
        refine g_cv (A := (fun p => d ≤ p ∧ p ≤ d + 28)) X gWS_good mw_Model_126 kc_Model mo1 (c_Model_raise l D q H d w ar hR (nI 1)) (fun _ _ _ => trivial) gBlind.tt rfl rfl hl.1 (Nat.le_of_ble_eq_true rfl) rfl rfl ⟨by decide, by decide⟩ ⟨by decide, by decide⟩ d_Model_view_19 (fun _ h => h) hL (fun v17 H18 locs hp19 hL => ?_)
        obtain ⟨rfl, hR20, z21, fr22⟩ := hp19
        exact g_iret X B ⟨rfl, hR20, z21, fun p hp => (fr22 p (by omega))⟩ hL d_Model_view_22 (by omega) (by omega)

set_option maxHeartbeats 4000000 in
set_option maxRecDepth 100000 in
/-- find: refused -/
theorem c_Model_findV (l : Launch) (D : va_G) (q : Nat → ClassId) (H : Heap) (d : Nat) (w : Nat → Int32) (ar : Nat → Nat → Int32) (hR : dR D q H d w ar) (c0 : Nat) (hv : w 8 = nI c0) (v x : Int32) (hno : ¬ (h_ok c0 v ∧ ¬ x < 0 ∧ x ≤ nI 6)) : gC l y_Model_find (Cond.code y_Model_find b_Model_find 4 (some .int) :: gWS) (gR 5 132 0 0) D CL (gY q) (fun _ => True) [.ref d, .int v, .int x] H (fun v1 H1 => v1 = some (.int 0) ∧ dR D q H1 d (upd w 0 (nI 1)) ar ∧ H1.size = H.size ∧ ∀ p : Nat, (p < d ∨ d + 28 < p) → H1[p]? = H[p]?) 0 0 (fun p => d ≤ p ∧ p ≤ d + 28) := by
  refine gC.ofW R_Model "find" (by decide) rfl rfl ?_
  intro p e s m below meth c hadm X hE hH B hne
  refine g_entry [some (.ref d), some (.int v), some (.int x), none] rfl rfl (Nat.le_of_ble_eq_true rfl) (fun ls hl => ?_)
  refine lv_aload_n X.1.1 X.1.2.1 d_Model_find_0 rfl (gl_at hl rfl) ?_
  refine lv_iload_n X.1.1 X.1.2.1 d_Model_find_1 rfl (gl_at hl rfl) ?_
  have mo1 : va_at D CL (d, .inr (10, [.int (w 0), .ref (d + 1), .int (w 2), .ref (d + 2), .ref (d + 3), .ref (d + 4), .ref (d + 5), .ref (d + 6), .int (w 8), .ref (d + 7), .ref (d + 8), .ref (d + 9), .ref (d + 10), .ref (d + 11), .ref (d + 12), .ref (d + 13), .ref (d + 14), .ref (d + 15), .ref (d + 16), .ref (d + 17), .int (w 20), .ref (d + 18), .int (w 22), .ref (d + 19), .ref (d + 20), .ref (d + 21), .int (w 26), .int (w 27), .int (w 28), .ref (d + 22), .ref (d + 23), .ref (d + 24), .ref (d + 25), .ref (d + 26), .int (w 34), .ref (d + 27), .ref (d + 28), .int (w 37), .int (w 38)])) H := hR.1
  refine g_cv (A := (fun p => d ≤ p ∧ p ≤ d + 28)) X gWS_good mw_Model_122 kc_Model mo1 (c_Model_isView l D q H d w ar hR c0 hv v) (fun _ _ _ => trivial) gBlind.tt rfl rfl hl.1 (Nat.le_of_ble_eq_true rfl) rfl rfl ⟨by decide, by decide⟩ ⟨by decide, by decide⟩ d_Model_find_2 (fun _ h => h.elim) (fun _ h => by cases h) (fun v2 H3 locs hp4 hL => ?_)
  obtain ⟨rfl, hHe⟩ := hp4
  rw [hHe]
  refine lv_if_eq X.1.1 X.1.2.1 d_Model_find_5 rfl (fun hc5 => ?_) (fun hc5 => ?_)
  · replace hc5 := gz_f hc5
    refine lv_aload_n X.1.1 X.1.2.1 d_Model_find_18 rfl (gl_at hl rfl) ?_
    refine lv_iconst (v := nI 1) X.1.1 X.1.2.1 d_Model_find_19 (by decide) ?_
    refine g_cv (A := (fun p => d ≤ p ∧ p ≤ d + 28)) X gWS_good mw_Model_126 kc_Model mo1 (c_Model_raise l D q H d w ar hR (nI 1)) (fun _ _ _ => trivial) gBlind.tt rfl rfl hl.1 (Nat.le_of_ble_eq_true rfl) rfl rfl ⟨by decide, by decide⟩ ⟨by decide, by decide⟩ d_Model_find_20 (fun _ h => h) hL (fun v5 H6 locs hp7 hL => ?_)
    obtain ⟨rfl, hR8, z9, fr10⟩ := hp7
    exact g_iret X B ⟨rfl, hR8, z9, fun p hp => (fr10 p (by omega))⟩ hL d_Model_find_23 (by omega) (by omega)
  · replace hc5 := gz_t hc5
    refine lv_iload_n X.1.1 X.1.2.1 d_Model_find_8 rfl (gl_at hl rfl) ?_
    refine lv_if_lt X.1.1 X.1.2.1 d_Model_find_9 rfl (fun hc9 => ?_) (fun hc9 => ?_)
    · refine lv_aload_n X.1.1 X.1.2.1 d_Model_find_18 rfl (gl_at hl rfl) ?_
      refine lv_iconst (v := nI 1) X.1.1 X.1.2.1 d_Model_find_19 (by decide) ?_
      refine g_cv (A := (fun p => d ≤ p ∧ p ≤ d + 28)) X gWS_good mw_Model_126 kc_Model mo1 (c_Model_raise l D q H d w ar hR (nI 1)) (fun _ _ _ => trivial) gBlind.tt rfl rfl hl.1 (Nat.le_of_ble_eq_true rfl) rfl rfl ⟨by decide, by decide⟩ ⟨by decide, by decide⟩ d_Model_find_20 (fun _ h => h) hL (fun v11 H12 locs hp13 hL => ?_)
      obtain ⟨rfl, hR14, z15, fr16⟩ := hp13
      exact g_iret X B ⟨rfl, hR14, z15, fun p hp => (fr16 p (by omega))⟩ hL d_Model_find_23 (by omega) (by omega)
    · refine lv_iload_n X.1.1 X.1.2.1 d_Model_find_12 rfl (gl_at hl rfl) ?_
      refine lv_bipush (v := nI 6) X.1.1 X.1.2.1 d_Model_find_13 (by decide) ?_
      refine lv_icmp_le X.1.1 X.1.2.1 d_Model_find_15 rfl (fun hc15 => ?_) (fun hc15 => ?_)
      · exact absurd ⟨hc5, hc9, hc15⟩ hno
      · refine lv_aload_n X.1.1 X.1.2.1 d_Model_find_18 rfl (gl_at hl rfl) ?_
        refine lv_iconst (v := nI 1) X.1.1 X.1.2.1 d_Model_find_19 (by decide) ?_
        refine g_cv (A := (fun p => d ≤ p ∧ p ≤ d + 28)) X gWS_good mw_Model_126 kc_Model mo1 (c_Model_raise l D q H d w ar hR (nI 1)) (fun _ _ _ => trivial) gBlind.tt rfl rfl hl.1 (Nat.le_of_ble_eq_true rfl) rfl rfl ⟨by decide, by decide⟩ ⟨by decide, by decide⟩ d_Model_find_20 (fun _ h => h) hL (fun v17 H18 locs hp19 hL => ?_)
        obtain ⟨rfl, hR20, z21, fr22⟩ := hp19
        exact g_iret X B ⟨rfl, hR20, z21, fun p hp => (fr22 p (by omega))⟩ hL d_Model_find_23 (by omega) (by omega)

set_option maxHeartbeats 4000000 in
set_option maxRecDepth 100000 in
/-- size -/
theorem c_Model_size (l : Launch) (D : va_G) (q : Nat → ClassId) (H : Heap) (d : Nat) (w : Nat → Int32) (ar : Nat → Nat → Int32) (hR : dR D q H d w ar) (c0 : Nat) (org : Nat → Option Nat) (srt : Nat → Nat) (bt : Nat → List Nat) (tn mp : Nat → Nat) (hv : pV w ar c0 org srt bt) (hN : pN c0 org srt tn mp) (kk : Nat → List Nat) (hk : pK ar kk) (n chg : Nat → Nat) (hm : pM ar n chg) (v : Nat) (hvc : v < c0) : gC l y_Model_size (Cond.code y_Model_size b_Model_size 4 (some .int) :: gWS) (gR 4 100 0 0) D CL (gY q) (fun _ => True) [.ref d, .int (nI v)] H (fun v1 H1 => v1 = some (.int (nI (v_cnt (fun j => v_in org srt bt v (kk j)) (64 * mp v) (n (mp v))))) ∧ dR D q H1 d (upd w 0 (nI 0)) ar ∧ H1.size = H.size ∧ ∀ p : Nat, (p < d ∨ d + 28 < p) → H1[p]? = H[p]?) 0 0 (fun p => d ≤ p ∧ p ≤ d + 28) := by
  refine gC.ofW R_Model "size" (by decide) rfl rfl ?_
  intro p e s m below meth c hadm X hE hH B hne
  refine g_entry [some (.ref d), some (.int (nI v)), none, none] rfl rfl (Nat.le_of_ble_eq_true rfl) (fun ls hl => ?_)
  have h12 := hv.2.2.1
  have hmp := (hN v hvc).1
  obtain ⟨hm1a, hm2, hm3⟩ := hm (mp v) hmp
  refine lv_aload_n X.1.1 X.1.2.1 d_Model_size_0 rfl (gl_at hl rfl) ?_
  refine lv_iconst (v := nI 0) X.1.1 X.1.2.1 d_Model_size_1 (by decide) ?_
  have mo1 : va_at D CL (d, .inr (10, [.int (w 0), .ref (d + 1), .int (w 2), .ref (d + 2), .ref (d + 3), .ref (d + 4), .ref (d + 5), .ref (d + 6), .int (w 8), .ref (d + 7), .ref (d + 8), .ref (d + 9), .ref (d + 10), .ref (d + 11), .ref (d + 12), .ref (d + 13), .ref (d + 14), .ref (d + 15), .ref (d + 16), .ref (d + 17), .int (w 20), .ref (d + 18), .int (w 22), .ref (d + 19), .ref (d + 20), .ref (d + 21), .int (w 26), .int (w 27), .int (w 28), .ref (d + 22), .ref (d + 23), .ref (d + 24), .ref (d + 25), .ref (d + 26), .int (w 34), .ref (d + 27), .ref (d + 28), .int (w 37), .int (w 38)])) H := hR.1
  refine g_put (A := (fun p => d ≤ p ∧ p ≤ d + 28)) X kc_Model mo1 0 (by decide) lk_Model_99 rfl rfl rfl (Nat.le_of_ble_eq_true rfl) d_Model_size_2 ⟨by omega, by omega⟩ (fun _ h => by cases h) (fun H2 locs h3 z4 oq5 hL => ?_)
  have hR6 : dR D q H2 d (upd w 0 (nI 0)) ar := hR.putO h3 oq5
  refine lv_aload_n X.1.1 X.1.2.1 d_Model_size_5 rfl (gl_at hl rfl) ?_
  refine lv_iload_n X.1.1 X.1.2.1 d_Model_size_6 rfl (gl_at hl rfl) ?_
  have mo7 : va_at D CL (d, .inr (10, [.int (nI 0), .ref (d + 1), .int (w 2), .ref (d + 2), .ref (d + 3), .ref (d + 4), .ref (d + 5), .ref (d + 6), .int (w 8), .ref (d + 7), .ref (d + 8), .ref (d + 9), .ref (d + 10), .ref (d + 11), .ref (d + 12), .ref (d + 13), .ref (d + 14), .ref (d + 15), .ref (d + 16), .ref (d + 17), .int (w 20), .ref (d + 18), .int (w 22), .ref (d + 19), .ref (d + 20), .ref (d + 21), .int (w 26), .int (w 27), .int (w 28), .ref (d + 22), .ref (d + 23), .ref (d + 24), .ref (d + 25), .ref (d + 26), .int (w 34), .ref (d + 27), .ref (d + 28), .int (w 37), .int (w 38)])) H2 := hR6.1
  refine g_cv (A := (fun p => d ≤ p ∧ p ≤ d + 28)) X gWS_good mw_Model_122 kc_Model mo7 (c_Model_isView l D q H2 d (upd w 0 (nI 0)) ar hR6 c0 hv.1 (nI v)) (fun _ _ _ => trivial) gBlind.tt rfl rfl hl.1 (Nat.le_of_ble_eq_true rfl) rfl rfl ⟨by decide, by decide⟩ ⟨by decide, by decide⟩ d_Model_size_7 (fun _ h => h.elim) hL (fun v8 H9 locs hp10 hL => ?_)
  obtain ⟨rfl, hHe⟩ := hp10
  rw [hHe]
  refine lv_if_ne X.1.1 X.1.2.1 d_Model_size_10 rfl (fun hc10 => ?_) (fun hc10 => ?_)
  · replace hc10 := gz_t hc10
    refine lv_iconst (v := nI 0) X.1.1 X.1.2.1 d_Model_size_15 (by decide) ?_
    refine g_istn X.1.1 X.1.2.1 hl 2 d_Model_size_16 rfl (Nat.le_of_ble_eq_true rfl) rfl (fun ls hl => ?_)
    refine lv_iconst (v := nI 0) X.1.1 X.1.2.1 d_Model_size_17 (by decide) ?_
    refine g_istn X.1.1 X.1.2.1 hl 3 d_Model_size_18 rfl (Nat.le_of_ble_eq_true rfl) rfl (fun ls hl => ?_)
    have loop19 : ∀ (fu : Nat) (i : Nat) (z0 : Nat) (locs : List Loc) (ls : Array Slot), n (mp v) - i < fu → (i ≤ n (mp v)) → (z0 = v_cnt (fun j => v_in org srt bt v (kk j)) (64 * mp v) i) → (∀ x ∈ locs, (fun p => d ≤ p ∧ p ≤ d + 28) x.base) → gl ls [some (.ref d), some (.int (nI v)), some (.int (nI z0)), some (.int (nI i))] → W p l e (gR 4 100 0 0) s m ([.ref d, .int (nI v)] : List Value).toArray below meth c H2 locs 0 0 (gQ below ([.ref d, .int (nI v)] : List Value).toArray s (fun v1 H1 => v1 = some (.int (nI (v_cnt (fun j => v_in org srt bt v (kk j)) (64 * mp v) (n (mp v))))) ∧ dR D q H1 d (upd w 0 (nI 0)) ar ∧ H1.size = H.size ∧ ∀ p : Nat, (p < d ∨ d + 28 < p) → H1[p]? = H[p]?) 0 0 (fun p => d ≤ p ∧ p ≤ d + 28)) (F0 m 19 ls []) := by
      intro fu
      induction fu with
      | zero => intro i z0 locs ls hmu; omega
      | succ fu ih19 =>
        intro i z0 locs ls hmu19 hi19_0 hi19_1 hL hl
        refine lv_iload_n X.1.1 X.1.2.1 d_Model_size_19 rfl (gl_at hl rfl) ?_
        refine lv_aload_n X.1.1 X.1.2.1 d_Model_size_20 rfl (gl_at hl rfl) ?_
        refine g_get X kc_Model mo7 3 (by decide) lk_Model_13 rfl d_Model_size_21 ?_
        refine lv_aload_n X.1.1 X.1.2.1 d_Model_size_24 rfl (gl_at hl rfl) ?_
        refine lv_iload_n X.1.1 X.1.2.1 d_Model_size_25 rfl (gl_at hl rfl) ?_
        refine g_cv (A := (fun p => d ≤ p ∧ p ≤ d + 28)) X gWS_good mw_Model_114 kc_Model mo7 (c_Model_mapOf l D q H2 d (upd w 0 (nI 0)) ar hR6 c0 org srt bt tn mp hv hN v hvc) (fun _ _ _ => trivial) gBlind.tt rfl rfl hl.1 (Nat.le_of_ble_eq_true rfl) rfl rfl ⟨by decide, by decide⟩ ⟨by decide, by decide⟩ d_Model_size_26 (fun _ h => h.elim) hL (fun v11 H12 locs hp13 hL => ?_)
        obtain ⟨rfl, hHe⟩ := hp13
        rw [hHe]
        have ma14 : va_at D CL (d + 2, .inl (q 0, 3, .inl (ar 2))) H2 := hR6.a2
        refine g_iald X 0 ma14 rfl (mp v) (by omega) (by omega) d_Model_size_29 ?_
        refine g_top (nI (n (mp v))) hm1a ?_
        refine gn_ge X.1.1 X.1.2.1 i (n (mp v)) (by omega) (by omega) d_Model_size_30 rfl (fun hc30 => ?_) (fun hc30 => ?_)
        · refine lv_iload_n X.1.1 X.1.2.1 d_Model_size_56 rfl (gl_at hl rfl) ?_
          exact g_iret X B ⟨by rw [hi19_1, show i = n (mp v) by omega], hR6, z4, fun p hp => (oq5 p (by omega))⟩ hL d_Model_size_57 (by omega) (by omega)
        · refine lv_iload_n X.1.1 X.1.2.1 d_Model_size_33 rfl (gl_at hl rfl) ?_
          refine lv_aload_n X.1.1 X.1.2.1 d_Model_size_34 rfl (gl_at hl rfl) ?_
          refine lv_iload_n X.1.1 X.1.2.1 d_Model_size_35 rfl (gl_at hl rfl) ?_
          refine lv_iload_n X.1.1 X.1.2.1 d_Model_size_36 rfl (gl_at hl rfl) ?_
          refine g_cv (A := (fun p => d ≤ p ∧ p ≤ d + 28)) X gWS_good mw_Model_143 kc_Model mo7 (c_Model_has l D q H2 d (upd w 0 (nI 0)) ar hR6 c0 org srt bt tn mp hv hN kk hk v hvc i (by omega)) (fun _ _ _ => trivial) gBlind.tt rfl rfl hl.1 (Nat.le_of_ble_eq_true rfl) rfl rfl ⟨by decide, by decide⟩ ⟨by decide, by decide⟩ d_Model_size_37 (fun _ h => h.elim) hL (fun v15 H16 locs hp17 hL => ?_)
          obtain ⟨rfl, hHe⟩ := hp17
          rw [hHe]
          refine lv_if_eq X.1.1 X.1.2.1 d_Model_size_40 rfl (fun hc40 => ?_) (fun hc40 => ?_)
          · replace hc40 := gz_f hc40
            refine lv_iconst (v := nI 0) X.1.1 X.1.2.1 d_Model_size_47 (by decide) ?_
            refine lv_iadd X.1.1 X.1.2.1 d_Model_size_48 ?_
            refine g_top (nI (z0 + 0)) (nI_add _ _) ?_
            refine g_istn X.1.1 X.1.2.1 hl 2 d_Model_size_49 rfl (Nat.le_of_ble_eq_true rfl) rfl (fun ls hl => ?_)
            refine g_iinc X.1.1 X.1.2.1 (nI (i + 1)) hl 3 d_Model_size_50 rfl (nI_1 _) rfl (fun ls hl => ?_)
            refine lv_goto X.1.1 X.1.2.1 d_Model_size_53 rfl ?_
            exact ih19 (i + 1) (z0 + 0) locs ls (by omega) (by omega) (by
              show _ = v_cnt _ _ i + _
              first
              | rw [if_pos hc40, ← hi19_1]
              | rw [if_neg hc40, ← hi19_1]) hL hl
          · replace hc40 := gz_t hc40
            refine lv_iconst (v := nI 1) X.1.1 X.1.2.1 d_Model_size_43 (by decide) ?_
            refine lv_goto X.1.1 X.1.2.1 d_Model_size_44 rfl ?_
            refine lv_iadd X.1.1 X.1.2.1 d_Model_size_48 ?_
            refine g_top (nI (z0 + 1)) (nI_add _ _) ?_
            refine g_istn X.1.1 X.1.2.1 hl 2 d_Model_size_49 rfl (Nat.le_of_ble_eq_true rfl) rfl (fun ls hl => ?_)
            refine g_iinc X.1.1 X.1.2.1 (nI (i + 1)) hl 3 d_Model_size_50 rfl (nI_1 _) rfl (fun ls hl => ?_)
            refine lv_goto X.1.1 X.1.2.1 d_Model_size_53 rfl ?_
            exact ih19 (i + 1) (z0 + 1) locs ls (by omega) (by omega) (by
              show _ = v_cnt _ _ i + _
              first
              | rw [if_pos hc40, ← hi19_1]
              | rw [if_neg hc40, ← hi19_1]) hL hl
    exact loop19 _ 0 0 locs ls (Nat.lt_succ_self _) (Nat.zero_le _) rfl hL hl
  · replace hc10 := gz_f hc10
    exact absurd (h_ok_of (by omega) hvc) hc10

/-- the value at a place, or -1 -/
def d_val (f : Nat → Int32) : Option Nat → Int32
  | none => -1
  | some r => f r
theorem d_us.lt {org : Nat → Option Nat} {srt : Nat → Nat} {bt : Nat → List Nat} {v m n : Nat} {kk : Nat → List Nat} {xs : List Nat} {r : Nat} (h : d_us org srt bt v m n kk xs (some r)) : 64 * m ≤ r ∧ r < 64 * m + n := by
  rcases h with ⟨_, j, h1, h2, _⟩ | ⟨_, h⟩
  · omega
  · cases h

set_option maxHeartbeats 4000000 in
set_option maxRecDepth 100000 in
/-- get -/
theorem c_Model_get (l : Launch) (D : va_G) (q : Nat → ClassId) (H : Heap) (d : Nat) (w : Nat → Int32) (ar : Nat → Nat → Int32) (hR : dR D q H d w ar) (c0 : Nat) (org : Nat → Option Nat) (srt : Nat → Nat) (bt : Nat → List Nat) (tn mp : Nat → Nat) (hv : pV w ar c0 org srt bt) (hN : pN c0 org srt tn mp) (kk : Nat → List Nat) (hk : pK ar kk) (n chg : Nat → Nat) (hm : pM ar n chg) (tp : List Nat) (ht : pT w ar tp) (v : Nat) (hvc : v < c0) : gC l y_Model_get (Cond.code y_Model_get b_Model_get 3 (some .int) :: gWS) (gR 4 99 0 0) D CL (gY q) (fun _ => True) [.ref d, .int (nI v)] H (fun v1 H1 => (∃ o : Option Nat, v1 = some (.int (d_val (ar 6) o)) ∧ d_us org srt bt v (mp v) (n (mp v)) kk tp o) ∧ dR D q H1 d (upd (upd w 0 (nI 0)) 2 (nI 0)) ar ∧ H1.size = H.size ∧ ∀ p : Nat, (p < d ∨ d + 28 < p) → H1[p]? = H[p]?) 0 0 (fun p => d ≤ p ∧ p ≤ d + 28) := by
  refine gC.ofW R_Model "get" (by decide) rfl rfl ?_
  intro p e s m below meth c hadm X hE hH B hne
  refine g_entry [some (.ref d), some (.int (nI v)), none] rfl rfl (Nat.le_of_ble_eq_true rfl) (fun ls hl => ?_)
  have h12 := hv.2.2.1
  have hmp := (hN v hvc).1
  have hmn := (hm (mp v) hmp).2.1
  refine lv_aload_n X.1.1 X.1.2.1 d_Model_get_0 rfl (gl_at hl rfl) ?_
  refine lv_iload_n X.1.1 X.1.2.1 d_Model_get_1 rfl (gl_at hl rfl) ?_
  have mo1 : va_at D CL (d, .inr (10, [.int (w 0), .ref (d + 1), .int (w 2), .ref (d + 2), .ref (d + 3), .ref (d + 4), .ref (d + 5), .ref (d + 6), .int (w 8), .ref (d + 7), .ref (d + 8), .ref (d + 9), .ref (d + 10), .ref (d + 11), .ref (d + 12), .ref (d + 13), .ref (d + 14), .ref (d + 15), .ref (d + 16), .ref (d + 17), .int (w 20), .ref (d + 18), .int (w 22), .ref (d + 19), .ref (d + 20), .ref (d + 21), .int (w 26), .int (w 27), .int (w 28), .ref (d + 22), .ref (d + 23), .ref (d + 24), .ref (d + 25), .ref (d + 26), .int (w 34), .ref (d + 27), .ref (d + 28), .int (w 37), .int (w 38)])) H := hR.1
  refine g_cv (A := (fun p => d ≤ p ∧ p ≤ d + 28)) X gWS_good mw_Model_122 kc_Model mo1 (c_Model_isView l D q H d w ar hR c0 hv.1 (nI v)) (fun _ _ _ => trivial) gBlind.tt rfl rfl hl.1 (Nat.le_of_ble_eq_true rfl) rfl rfl ⟨by decide, by decide⟩ ⟨by decide, by decide⟩ d_Model_get_2 (fun _ h => h.elim) (fun _ h => by cases h) (fun v2 H3 locs hp4 hL => ?_)
  obtain ⟨rfl, hHe⟩ := hp4
  rw [hHe]
  refine lv_if_ne X.1.1 X.1.2.1 d_Model_get_5 rfl (fun hc5 => ?_) (fun hc5 => ?_)
  · replace hc5 := gz_t hc5
    refine lv_aload_n X.1.1 X.1.2.1 d_Model_get_14 rfl (gl_at hl rfl) ?_
    refine lv_iconst (v := nI 0) X.1.1 X.1.2.1 d_Model_get_15 (by decide) ?_
    refine g_put (A := (fun p => d ≤ p ∧ p ≤ d + 28)) X kc_Model mo1 0 (by decide) lk_Model_99 rfl rfl rfl (Nat.le_of_ble_eq_true rfl) d_Model_get_16 ⟨by omega, by omega⟩ hL (fun H5 locs h6 z7 oq8 hL => ?_)
    have hR9 : dR D q H5 d (upd w 0 (nI 0)) ar := hR.putO h6 oq8
    refine lv_aload_n X.1.1 X.1.2.1 d_Model_get_19 rfl (gl_at hl rfl) ?_
    refine lv_iload_n X.1.1 X.1.2.1 d_Model_get_20 rfl (gl_at hl rfl) ?_
    have mo10 : va_at D CL (d, .inr (10, [.int (nI 0), .ref (d + 1), .int (w 2), .ref (d + 2), .ref (d + 3), .ref (d + 4), .ref (d + 5), .ref (d + 6), .int (w 8), .ref (d + 7), .ref (d + 8), .ref (d + 9), .ref (d + 10), .ref (d + 11), .ref (d + 12), .ref (d + 13), .ref (d + 14), .ref (d + 15), .ref (d + 16), .ref (d + 17), .int (w 20), .ref (d + 18), .int (w 22), .ref (d + 19), .ref (d + 20), .ref (d + 21), .int (w 26), .int (w 27), .int (w 28), .ref (d + 22), .ref (d + 23), .ref (d + 24), .ref (d + 25), .ref (d + 26), .int (w 34), .ref (d + 27), .ref (d + 28), .int (w 37), .int (w 38)])) H5 := hR9.1
    refine g_cv (A := (fun p => d ≤ p ∧ p ≤ d + 28)) X gWS_good mw_Model_136 kc_Model mo10 (c_Model_used l D q H5 d (upd w 0 (nI 0)) ar hR9 c0 org srt bt tn mp hv hN kk hk n chg hm tp ht v hvc) (fun _ _ _ => trivial) gBlind.tt rfl rfl hl.1 (Nat.le_of_ble_eq_true rfl) rfl rfl ⟨by decide, by decide⟩ ⟨by decide, by decide⟩ d_Model_get_21 (fun _ h => h) hL (fun v11 H12 locs hp13 hL => ?_)
    obtain ⟨⟨o, rfl, ho⟩, hR14, z15, fr16⟩ := hp13
    refine g_istn X.1.1 X.1.2.1 hl 2 d_Model_get_24 rfl (Nat.le_of_ble_eq_true rfl) rfl (fun ls hl => ?_)
    cases o with
    | none =>
        refine lv_iload_n X.1.1 X.1.2.1 d_Model_get_25 rfl (gl_at hl rfl) ?_
        refine lv_iconst (v := (-1)) X.1.1 X.1.2.1 d_Model_get_26 (by decide) ?_
        refine lv_icmp_ne X.1.1 X.1.2.1 d_Model_get_27 rfl (fun hc27 => ?_) (fun hc27 => ?_)
        · exact absurd rfl hc27
        · refine lv_iconst (v := (-1)) X.1.1 X.1.2.1 d_Model_get_30 (by decide) ?_
          refine lv_goto X.1.1 X.1.2.1 d_Model_get_31 rfl ?_
          exact g_iret X B ⟨⟨none, rfl, ho⟩, hR14, (z15.trans z7), fun p hp => ((fr16 p (by omega)).trans (oq8 p (by omega)))⟩ hL d_Model_get_40 (by omega) (by omega)
    | some r0 =>
        have hr0 := ho.lt
        refine lv_iload_n X.1.1 X.1.2.1 d_Model_get_25 rfl (gl_at hl rfl) ?_
        refine lv_iconst (v := (-1)) X.1.1 X.1.2.1 d_Model_get_26 (by decide) ?_
        refine lv_icmp_ne X.1.1 X.1.2.1 d_Model_get_27 rfl (fun hc27 => ?_) (fun hc27 => ?_)
        · refine lv_aload_n X.1.1 X.1.2.1 d_Model_get_34 rfl (gl_at hl rfl) ?_
          have mo17 : va_at D CL (d, .inr (10, [.int (nI 0), .ref (d + 1), .int (nI 0), .ref (d + 2), .ref (d + 3), .ref (d + 4), .ref (d + 5), .ref (d + 6), .int (w 8), .ref (d + 7), .ref (d + 8), .ref (d + 9), .ref (d + 10), .ref (d + 11), .ref (d + 12), .ref (d + 13), .ref (d + 14), .ref (d + 15), .ref (d + 16), .ref (d + 17), .int (w 20), .ref (d + 18), .int (w 22), .ref (d + 19), .ref (d + 20), .ref (d + 21), .int (w 26), .int (w 27), .int (w 28), .ref (d + 22), .ref (d + 23), .ref (d + 24), .ref (d + 25), .ref (d + 26), .int (w 34), .ref (d + 27), .ref (d + 28), .int (w 37), .int (w 38)])) H12 := hR14.1
          refine g_get X kc_Model mo17 7 (by decide) lk_Model_25 rfl d_Model_get_35 ?_
          refine lv_iload_n X.1.1 X.1.2.1 d_Model_get_38 rfl (gl_at hl rfl) ?_
          have ma18 : va_at D CL (d + 6, .inl (q 0, 192, .inl (ar 6))) H12 := hR14.a6
          refine g_iald X 0 ma18 rfl r0 (by omega) (by omega) d_Model_get_39 ?_
          exact g_iret X B ⟨⟨some r0, rfl, ho⟩, hR14, (z15.trans z7), fun p hp => ((fr16 p (by omega)).trans (oq8 p (by omega)))⟩ hL d_Model_get_40 (by omega) (by omega)
        · exact absurd hc27 (d_m1 (by omega))
  · replace hc5 := gz_f hc5
    exact absurd (h_ok_of (by omega) hvc) hc5

set_option maxHeartbeats 4000000 in
set_option maxRecDepth 100000 in
/-- remove -/
theorem c_Model_remove (l : Launch) (D : va_G) (q : Nat → ClassId) (H : Heap) (d : Nat) (w : Nat → Int32) (ar : Nat → Nat → Int32) (hR : dR D q H d w ar) (c0 : Nat) (org : Nat → Option Nat) (srt : Nat → Nat) (bt : Nat → List Nat) (tn mp : Nat → Nat) (hv : pV w ar c0 org srt bt) (hN : pN c0 org srt tn mp) (kk : Nat → List Nat) (hk : pK ar kk) (n chg : Nat → Nat) (hm : pM ar n chg) (tp : List Nat) (ht : pT w ar tp) (v : Nat) (hvc : v < c0) : gC l y_Model_remove (Cond.code y_Model_remove b_Model_remove 4 (some .int) :: gWS) (gR 4 99 0 0) D CL (gY q) (fun _ => True) [.ref d, .int (nI v)] H (fun v1 H1 => ((d_us org srt bt v (mp v) (n (mp v)) kk tp none ∧ v1 = some (.int (-1)) ∧ dR D q H1 d (upd (upd w 0 (nI 0)) 2 (nI 0)) ar) ∨ ∃ r0 F, d_us org srt bt v (mp v) (n (mp v)) kk tp (some r0) ∧ v1 = some (.int (ar 6 r0)) ∧ F = va_cpy (ar 4) (ar 4) (8 * (64 * mp v + n (mp v) - 1)) (8 * r0) 8 ∧ dR D q H1 d (upd (upd w 0 (nI 0)) 2 (nI 0)) (va_up (va_up (va_up (va_up (va_up ar 2 (upd (ar 2) (mp v) (nI (n (mp v) - 1)))) 3 (upd (ar 3) (mp v) (nI (chg (mp v) + 1)))) 4 F) 5 (upd (ar 5) r0 (nI (kk (64 * mp v + n (mp v) - 1)).length))) 6 (upd (ar 6) r0 (ar 6 (64 * mp v + n (mp v) - 1))))) ∧ H1.size = H.size ∧ ∀ p : Nat, (p < d ∨ d + 28 < p) → H1[p]? = H[p]?) 0 0 (fun p => d ≤ p ∧ p ≤ d + 28) := by
  refine gC.ofW R_Model "remove" (by decide) rfl rfl ?_
  intro p e s m below meth c hadm X hE hH B hne
  refine g_entry [some (.ref d), some (.int (nI v)), none, none] rfl rfl (Nat.le_of_ble_eq_true rfl) (fun ls hl => ?_)
  have h12 := hv.2.2.1
  have hmp := (hN v hvc).1
  have hmn := (hm (mp v) hmp).2.1
  refine lv_aload_n X.1.1 X.1.2.1 d_Model_remove_0 rfl (gl_at hl rfl) ?_
  refine lv_iload_n X.1.1 X.1.2.1 d_Model_remove_1 rfl (gl_at hl rfl) ?_
  have mo1 : va_at D CL (d, .inr (10, [.int (w 0), .ref (d + 1), .int (w 2), .ref (d + 2), .ref (d + 3), .ref (d + 4), .ref (d + 5), .ref (d + 6), .int (w 8), .ref (d + 7), .ref (d + 8), .ref (d + 9), .ref (d + 10), .ref (d + 11), .ref (d + 12), .ref (d + 13), .ref (d + 14), .ref (d + 15), .ref (d + 16), .ref (d + 17), .int (w 20), .ref (d + 18), .int (w 22), .ref (d + 19), .ref (d + 20), .ref (d + 21), .int (w 26), .int (w 27), .int (w 28), .ref (d + 22), .ref (d + 23), .ref (d + 24), .ref (d + 25), .ref (d + 26), .int (w 34), .ref (d + 27), .ref (d + 28), .int (w 37), .int (w 38)])) H := hR.1
  refine g_cv (A := (fun p => d ≤ p ∧ p ≤ d + 28)) X gWS_good mw_Model_122 kc_Model mo1 (c_Model_isView l D q H d w ar hR c0 hv.1 (nI v)) (fun _ _ _ => trivial) gBlind.tt rfl rfl hl.1 (Nat.le_of_ble_eq_true rfl) rfl rfl ⟨by decide, by decide⟩ ⟨by decide, by decide⟩ d_Model_remove_2 (fun _ h => h.elim) (fun _ h => by cases h) (fun v2 H3 locs hp4 hL => ?_)
  obtain ⟨rfl, hHe⟩ := hp4
  rw [hHe]
  refine lv_if_ne X.1.1 X.1.2.1 d_Model_remove_5 rfl (fun hc5 => ?_) (fun hc5 => ?_)
  · replace hc5 := gz_t hc5
    refine lv_aload_n X.1.1 X.1.2.1 d_Model_remove_14 rfl (gl_at hl rfl) ?_
    refine lv_iconst (v := nI 0) X.1.1 X.1.2.1 d_Model_remove_15 (by decide) ?_
    refine g_put (A := (fun p => d ≤ p ∧ p ≤ d + 28)) X kc_Model mo1 0 (by decide) lk_Model_99 rfl rfl rfl (Nat.le_of_ble_eq_true rfl) d_Model_remove_16 ⟨by omega, by omega⟩ hL (fun H5 locs h6 z7 oq8 hL => ?_)
    have hR9 : dR D q H5 d (upd w 0 (nI 0)) ar := hR.putO h6 oq8
    refine lv_aload_n X.1.1 X.1.2.1 d_Model_remove_19 rfl (gl_at hl rfl) ?_
    refine lv_iload_n X.1.1 X.1.2.1 d_Model_remove_20 rfl (gl_at hl rfl) ?_
    have mo10 : va_at D CL (d, .inr (10, [.int (nI 0), .ref (d + 1), .int (w 2), .ref (d + 2), .ref (d + 3), .ref (d + 4), .ref (d + 5), .ref (d + 6), .int (w 8), .ref (d + 7), .ref (d + 8), .ref (d + 9), .ref (d + 10), .ref (d + 11), .ref (d + 12), .ref (d + 13), .ref (d + 14), .ref (d + 15), .ref (d + 16), .ref (d + 17), .int (w 20), .ref (d + 18), .int (w 22), .ref (d + 19), .ref (d + 20), .ref (d + 21), .int (w 26), .int (w 27), .int (w 28), .ref (d + 22), .ref (d + 23), .ref (d + 24), .ref (d + 25), .ref (d + 26), .int (w 34), .ref (d + 27), .ref (d + 28), .int (w 37), .int (w 38)])) H5 := hR9.1
    refine g_cv (A := (fun p => d ≤ p ∧ p ≤ d + 28)) X gWS_good mw_Model_136 kc_Model mo10 (c_Model_used l D q H5 d (upd w 0 (nI 0)) ar hR9 c0 org srt bt tn mp hv hN kk hk n chg hm tp ht v hvc) (fun _ _ _ => trivial) gBlind.tt rfl rfl hl.1 (Nat.le_of_ble_eq_true rfl) rfl rfl ⟨by decide, by decide⟩ ⟨by decide, by decide⟩ d_Model_remove_21 (fun _ h => h) hL (fun v11 H12 locs hp13 hL => ?_)
    obtain ⟨⟨o, rfl, ho⟩, hR14, z15, fr16⟩ := hp13
    refine g_istn X.1.1 X.1.2.1 hl 2 d_Model_remove_24 rfl (Nat.le_of_ble_eq_true rfl) rfl (fun ls hl => ?_)
    cases o with
    | none =>
        refine lv_iload_n X.1.1 X.1.2.1 d_Model_remove_25 rfl (gl_at hl rfl) ?_
        refine lv_iconst (v := (-1)) X.1.1 X.1.2.1 d_Model_remove_26 (by decide) ?_
        refine lv_icmp_ne X.1.1 X.1.2.1 d_Model_remove_27 rfl (fun hc27 => ?_) (fun hc27 => ?_)
        · exact absurd rfl hc27
        · refine lv_iconst (v := (-1)) X.1.1 X.1.2.1 d_Model_remove_30 (by decide) ?_
          exact g_iret X B ⟨Or.inl ⟨ho, rfl, hR14⟩, (z15.trans z7), fun p hp => ((fr16 p (by omega)).trans (oq8 p (by omega)))⟩ hL d_Model_remove_31 (by omega) (by omega)
    | some r0 =>
        have hr0 := ho.lt
        refine lv_iload_n X.1.1 X.1.2.1 d_Model_remove_25 rfl (gl_at hl rfl) ?_
        refine lv_iconst (v := (-1)) X.1.1 X.1.2.1 d_Model_remove_26 (by decide) ?_
        refine lv_icmp_ne X.1.1 X.1.2.1 d_Model_remove_27 rfl (fun hc27 => ?_) (fun hc27 => ?_)
        · refine lv_aload_n X.1.1 X.1.2.1 d_Model_remove_32 rfl (gl_at hl rfl) ?_
          have mo17 : va_at D CL (d, .inr (10, [.int (nI 0), .ref (d + 1), .int (nI 0), .ref (d + 2), .ref (d + 3), .ref (d + 4), .ref (d + 5), .ref (d + 6), .int (w 8), .ref (d + 7), .ref (d + 8), .ref (d + 9), .ref (d + 10), .ref (d + 11), .ref (d + 12), .ref (d + 13), .ref (d + 14), .ref (d + 15), .ref (d + 16), .ref (d + 17), .int (w 20), .ref (d + 18), .int (w 22), .ref (d + 19), .ref (d + 20), .ref (d + 21), .int (w 26), .int (w 27), .int (w 28), .ref (d + 22), .ref (d + 23), .ref (d + 24), .ref (d + 25), .ref (d + 26), .int (w 34), .ref (d + 27), .ref (d + 28), .int (w 37), .int (w 38)])) H12 := hR14.1
          refine g_get X kc_Model mo17 7 (by decide) lk_Model_25 rfl d_Model_remove_33 ?_
          refine lv_iload_n X.1.1 X.1.2.1 d_Model_remove_36 rfl (gl_at hl rfl) ?_
          have ma18 : va_at D CL (d + 6, .inl (q 0, 192, .inl (ar 6))) H12 := hR14.a6
          refine g_iald X 0 ma18 rfl r0 (by omega) (by omega) d_Model_remove_37 ?_
          refine g_istn X.1.1 X.1.2.1 hl 3 d_Model_remove_38 rfl (Nat.le_of_ble_eq_true rfl) rfl (fun ls hl => ?_)
          refine lv_aload_n X.1.1 X.1.2.1 d_Model_remove_39 rfl (gl_at hl rfl) ?_
          refine lv_aload_n X.1.1 X.1.2.1 d_Model_remove_40 rfl (gl_at hl rfl) ?_
          refine lv_iload_n X.1.1 X.1.2.1 d_Model_remove_41 rfl (gl_at hl rfl) ?_
          refine g_cv (A := (fun p => d ≤ p ∧ p ≤ d + 28)) X gWS_good mw_Model_114 kc_Model mo17 (c_Model_mapOf l D q H12 d (upd (upd w 0 (nI 0)) 2 (nI 0)) ar hR14 c0 org srt bt tn mp hv hN v hvc) (fun _ _ _ => trivial) gBlind.tt rfl rfl hl.1 (Nat.le_of_ble_eq_true rfl) rfl rfl ⟨by decide, by decide⟩ ⟨by decide, by decide⟩ d_Model_remove_42 (fun _ h => h.elim) hL (fun v19 H20 locs hp21 hL => ?_)
          obtain ⟨rfl, hHe⟩ := hp21
          rw [hHe]
          refine lv_iload_n X.1.1 X.1.2.1 d_Model_remove_45 rfl (gl_at hl rfl) ?_
          refine g_cv (A := (fun p => d ≤ p ∧ p ≤ d + 28)) X gWS_good mw_Model_139 kc_Model mo17 (c_Model_clear l D q H12 d (upd (upd w 0 (nI 0)) 2 (nI 0)) ar hR14 kk hk n chg hm (mp v) r0 hmp hr0.1 hr0.2) (fun _ _ _ => trivial) gBlind.tt rfl rfl hl.1 (Nat.le_of_ble_eq_true rfl) rfl rfl ⟨by decide, by decide⟩ ⟨by decide, by decide⟩ d_Model_remove_46 (fun _ h => h) hL (fun v22 H23 locs hp24 hL => ?_)
          obtain ⟨F, ⟨rfl, hF⟩, hp9⟩ := hp24
          obtain ⟨hR25, z26, fr27⟩ := hp9
          refine lv_iload_n X.1.1 X.1.2.1 d_Model_remove_49 rfl (gl_at hl rfl) ?_
          exact g_iret X B ⟨Or.inr ⟨r0, F, ho, rfl, hF, hR25⟩, (z26.trans (z15.trans z7)), fun p hp => ((fr27 p (by omega)).trans ((fr16 p (by omega)).trans (oq8 p (by omega))))⟩ hL d_Model_remove_50 (by omega) (by omega)
        · exact absurd hc27 (d_m1 (by omega))
  · replace hc5 := gz_f hc5
    exact absurd (h_ok_of (by omega) hvc) hc5

set_option maxHeartbeats 4000000 in
set_option maxRecDepth 100000 in
/-- put: refused -/
theorem c_Model_put1 (l : Launch) (D : va_G) (q : Nat → ClassId) (H : Heap) (d : Nat) (w : Nat → Int32) (ar : Nat → Nat → Int32) (hR : dR D q H d w ar) (c0 : Nat) (org : Nat → Option Nat) (srt : Nat → Nat) (bt : Nat → List Nat) (tn mp : Nat → Nat) (hv : pV w ar c0 org srt bt) (hN : pN c0 org srt tn mp) (tp : List Nat) (ht : pT w ar tp) (v : Nat) (hvc : v < c0) (x : Int32) (hbd : x < 0 ∨ ¬ v_in org srt bt v tp = true) : gC l y_Model_put (Cond.code y_Model_put b_Model_put 7 (some .int) :: gWS) (gR 3 77 0 0) D CL (gY q) (fun _ => True) [.ref d, .int (nI v), .int x] H (fun v1 H1 => v1 = some (.int 0) ∧ dR D q H1 d (upd (upd w 0 (nI 2)) 2 (nI 0)) ar ∧ H1.size = H.size ∧ ∀ p : Nat, (p < d ∨ d + 28 < p) → H1[p]? = H[p]?) 0 0 (fun p => d ≤ p ∧ p ≤ d + 28) := by
  refine gC.ofW R_Model "put" (by decide) rfl rfl ?_
  intro p e s m below meth c hadm X hE hH B hne
  refine g_entry [some (.ref d), some (.int (nI v)), some (.int x), none, none, none, none] rfl rfl (Nat.le_of_ble_eq_true rfl) (fun ls hl => ?_)
  have h12 := hv.2.2.1
  have hmp := (hN v hvc).1
  have ht8 := ht.2.2.1
  refine lv_aload_n X.1.1 X.1.2.1 d_Model_put_0 rfl (gl_at hl rfl) ?_
  refine lv_iload_n X.1.1 X.1.2.1 d_Model_put_1 rfl (gl_at hl rfl) ?_
  have mo1 : va_at D CL (d, .inr (10, [.int (w 0), .ref (d + 1), .int (w 2), .ref (d + 2), .ref (d + 3), .ref (d + 4), .ref (d + 5), .ref (d + 6), .int (w 8), .ref (d + 7), .ref (d + 8), .ref (d + 9), .ref (d + 10), .ref (d + 11), .ref (d + 12), .ref (d + 13), .ref (d + 14), .ref (d + 15), .ref (d + 16), .ref (d + 17), .int (w 20), .ref (d + 18), .int (w 22), .ref (d + 19), .ref (d + 20), .ref (d + 21), .int (w 26), .int (w 27), .int (w 28), .ref (d + 22), .ref (d + 23), .ref (d + 24), .ref (d + 25), .ref (d + 26), .int (w 34), .ref (d + 27), .ref (d + 28), .int (w 37), .int (w 38)])) H := hR.1
  refine g_cv (A := (fun p => d ≤ p ∧ p ≤ d + 28)) X gWS_good mw_Model_122 kc_Model mo1 (c_Model_isView l D q H d w ar hR c0 hv.1 (nI v)) (fun _ _ _ => trivial) gBlind.tt rfl rfl hl.1 (Nat.le_of_ble_eq_true rfl) rfl rfl ⟨by decide, by decide⟩ ⟨by decide, by decide⟩ d_Model_put_2 (fun _ h => h.elim) (fun _ h => by cases h) (fun v2 H3 locs hp4 hL => ?_)
  obtain ⟨rfl, hHe⟩ := hp4
  rw [hHe]
  refine lv_if_ne X.1.1 X.1.2.1 d_Model_put_5 rfl (fun hc5 => ?_) (fun hc5 => ?_)
  · replace hc5 := gz_t hc5
    refine lv_aload_n X.1.1 X.1.2.1 d_Model_put_14 rfl (gl_at hl rfl) ?_
    refine g_get X kc_Model mo1 2 (by decide) lk_Model_102 rfl d_Model_put_15 ?_
    refine g_top (nI tp.length) ht.1 ?_
    refine g_istn X.1.1 X.1.2.1 hl 3 d_Model_put_18 rfl (Nat.le_of_ble_eq_true rfl) rfl (fun ls hl => ?_)
    refine lv_aload_n X.1.1 X.1.2.1 d_Model_put_19 rfl (gl_at hl rfl) ?_
    refine lv_iconst (v := nI 0) X.1.1 X.1.2.1 d_Model_put_20 (by decide) ?_
    refine g_put (A := (fun p => d ≤ p ∧ p ≤ d + 28)) X kc_Model mo1 2 (by decide) lk_Model_102 rfl rfl rfl (Nat.le_of_ble_eq_true rfl) d_Model_put_21 ⟨by omega, by omega⟩ hL (fun H5 locs h6 z7 oq8 hL => ?_)
    have hR9 : dR D q H5 d (upd w 2 (nI 0)) ar := hR.putO h6 oq8
    refine lv_iload_n X.1.1 X.1.2.1 d_Model_put_24 rfl (gl_at hl rfl) ?_
    refine lv_if_lt X.1.1 X.1.2.1 d_Model_put_25 rfl (fun hc25 => ?_) (fun hc25 => ?_)
    · refine lv_aload_n X.1.1 X.1.2.1 d_Model_put_42 rfl (gl_at hl rfl) ?_
      refine lv_iconst (v := nI 2) X.1.1 X.1.2.1 d_Model_put_43 (by decide) ?_
      have mo10 : va_at D CL (d, .inr (10, [.int (w 0), .ref (d + 1), .int (nI 0), .ref (d + 2), .ref (d + 3), .ref (d + 4), .ref (d + 5), .ref (d + 6), .int (w 8), .ref (d + 7), .ref (d + 8), .ref (d + 9), .ref (d + 10), .ref (d + 11), .ref (d + 12), .ref (d + 13), .ref (d + 14), .ref (d + 15), .ref (d + 16), .ref (d + 17), .int (w 20), .ref (d + 18), .int (w 22), .ref (d + 19), .ref (d + 20), .ref (d + 21), .int (w 26), .int (w 27), .int (w 28), .ref (d + 22), .ref (d + 23), .ref (d + 24), .ref (d + 25), .ref (d + 26), .int (w 34), .ref (d + 27), .ref (d + 28), .int (w 37), .int (w 38)])) H5 := hR9.1
      refine g_cv (A := (fun p => d ≤ p ∧ p ≤ d + 28)) X gWS_good mw_Model_126 kc_Model mo10 (c_Model_raise l D q H5 d (upd w 2 (nI 0)) ar hR9 (nI 2)) (fun _ _ _ => trivial) gBlind.tt rfl rfl hl.1 (Nat.le_of_ble_eq_true rfl) rfl rfl ⟨by decide, by decide⟩ ⟨by decide, by decide⟩ d_Model_put_44 (fun _ h => h) hL (fun v11 H12 locs hp13 hL => ?_)
      obtain ⟨rfl, hR14, z15, fr16⟩ := hp13
      exact g_iret X B ⟨rfl, hR14, (z15.trans z7), fun p hp => ((fr16 p (by omega)).trans (oq8 p (by omega)))⟩ hL d_Model_put_47 (by omega) (by omega)
    · refine lv_aload_n X.1.1 X.1.2.1 d_Model_put_28 rfl (gl_at hl rfl) ?_
      refine lv_iload_n X.1.1 X.1.2.1 d_Model_put_29 rfl (gl_at hl rfl) ?_
      refine lv_aload_n X.1.1 X.1.2.1 d_Model_put_30 rfl (gl_at hl rfl) ?_
      have mo17 : va_at D CL (d, .inr (10, [.int (w 0), .ref (d + 1), .int (nI 0), .ref (d + 2), .ref (d + 3), .ref (d + 4), .ref (d + 5), .ref (d + 6), .int (w 8), .ref (d + 7), .ref (d + 8), .ref (d + 9), .ref (d + 10), .ref (d + 11), .ref (d + 12), .ref (d + 13), .ref (d + 14), .ref (d + 15), .ref (d + 16), .ref (d + 17), .int (w 20), .ref (d + 18), .int (w 22), .ref (d + 19), .ref (d + 20), .ref (d + 21), .int (w 26), .int (w 27), .int (w 28), .ref (d + 22), .ref (d + 23), .ref (d + 24), .ref (d + 25), .ref (d + 26), .int (w 34), .ref (d + 27), .ref (d + 28), .int (w 37), .int (w 38)])) H5 := hR9.1
      refine g_get X kc_Model mo17 1 (by decide) lk_Model_7 rfl d_Model_put_31 ?_
      refine lv_iconst (v := nI 0) X.1.1 X.1.2.1 d_Model_put_34 (by decide) ?_
      refine lv_iload_n X.1.1 X.1.2.1 d_Model_put_35 rfl (gl_at hl rfl) ?_
      refine g_cv (A := (fun p => d ≤ p ∧ p ≤ d + 28)) X gWS_good mw_Model_118 kc_Model mo17 (c_Model_within l D q H5 d (upd w 2 (nI 0)) ar hR9 c0 org srt bt tn mp hv hN v hvc (d + 1) 8 (ar 1) hR9.a1 0 _ tp rfl ht.2.1 (by omega) (by omega) ht.2.2.2) (fun _ _ _ => trivial) gBlind.tt rfl rfl hl.1 (Nat.le_of_ble_eq_true rfl) rfl rfl ⟨by decide, by decide⟩ ⟨by decide, by decide⟩ d_Model_put_36 (fun _ h => h.elim) hL (fun v18 H19 locs hp20 hL => ?_)
      obtain ⟨rfl, hHe⟩ := hp20
      rw [hHe]
      refine lv_if_ne X.1.1 X.1.2.1 d_Model_put_39 rfl (fun hc39 => ?_) (fun hc39 => ?_)
      · replace hc39 := gz_t hc39
        exact (hbd.elim hc25 (fun h9 => h9 hc39)).elim
      · replace hc39 := gz_f hc39
        refine lv_aload_n X.1.1 X.1.2.1 d_Model_put_42 rfl (gl_at hl rfl) ?_
        refine lv_iconst (v := nI 2) X.1.1 X.1.2.1 d_Model_put_43 (by decide) ?_
        refine g_cv (A := (fun p => d ≤ p ∧ p ≤ d + 28)) X gWS_good mw_Model_126 kc_Model mo17 (c_Model_raise l D q H5 d (upd w 2 (nI 0)) ar hR9 (nI 2)) (fun _ _ _ => trivial) gBlind.tt rfl rfl hl.1 (Nat.le_of_ble_eq_true rfl) rfl rfl ⟨by decide, by decide⟩ ⟨by decide, by decide⟩ d_Model_put_44 (fun _ h => h) hL (fun v21 H22 locs hp23 hL => ?_)
        obtain ⟨rfl, hR24, z25, fr26⟩ := hp23
        exact g_iret X B ⟨rfl, hR24, (z25.trans z7), fun p hp => ((fr26 p (by omega)).trans (oq8 p (by omega)))⟩ hL d_Model_put_47 (by omega) (by omega)
  · replace hc5 := gz_f hc5
    exact absurd (h_ok_of (by omega) hvc) hc5

theorem d_ky.lt {m n r : Nat} {kk : Nat → List Nat} {xs : List Nat} (h : d_ky kk m n xs (some r)) : 64 * m ≤ r ∧ r < 64 * m + n := by
  obtain ⟨j, h1, h2, _⟩ := h
  omega

set_option maxHeartbeats 4000000 in
set_option maxRecDepth 100000 in
/-- put -/
theorem c_Model_put (l : Launch) (D : va_G) (q : Nat → ClassId) (H : Heap) (d : Nat) (w : Nat → Int32) (ar : Nat → Nat → Int32) (hR : dR D q H d w ar) (c0 : Nat) (org : Nat → Option Nat) (srt : Nat → Nat) (bt : Nat → List Nat) (tn mp : Nat → Nat) (hv : pV w ar c0 org srt bt) (hN : pN c0 org srt tn mp) (kk : Nat → List Nat) (hk : pK ar kk) (n chg : Nat → Nat) (hm : pM ar n chg) (tp : List Nat) (ht : pT w ar tp) (v : Nat) (hvc : v < c0) (x : Int32) (hx0 : ¬ x < 0) (hin : v_in org srt bt v tp = true) : gC l y_Model_put (Cond.code y_Model_put b_Model_put 7 (some .int) :: gWS) (gR 3 77 0 0) D CL (gY q) (fun _ => True) [.ref d, .int (nI v), .int x] H (fun v1 H1 => ((∃ r0, d_ky kk (mp v) (n (mp v)) tp (some r0) ∧ v1 = some (.int (ar 6 r0)) ∧ dR D q H1 d (upd (upd w 0 (nI 0)) 2 (nI 0)) (va_up ar 6 (upd (ar 6) r0 x))) ∨ (d_ky kk (mp v) (n (mp v)) tp none ∧ n (mp v) = 64 ∧ v1 = some (.int 0) ∧ dR D q H1 d (upd (upd w 0 (nI 3)) 2 (nI 0)) ar) ∨ ∃ F : Nat → Int32, d_ky kk (mp v) (n (mp v)) tp none ∧ n (mp v) < 64 ∧ v1 = some (.int (-1)) ∧ tCp F (ar 4) (8 * (64 * mp v + n (mp v))) tp tp.length ∧ dR D q H1 d (upd (upd w 0 (nI 0)) 2 (nI 0)) (va_up (va_up (va_up (va_up (va_up ar 2 (upd (ar 2) (mp v) (nI (n (mp v) + 1)))) 3 (upd (ar 3) (mp v) (nI (chg (mp v) + 1)))) 4 F) 5 (upd (ar 5) (64 * mp v + n (mp v)) (nI tp.length))) 6 (upd (ar 6) (64 * mp v + n (mp v)) x))) ∧ H1.size = H.size ∧ ∀ p : Nat, (p < d ∨ d + 28 < p) → H1[p]? = H[p]?) 0 0 (fun p => d ≤ p ∧ p ≤ d + 28) := by
  refine gC.ofW R_Model "put" (by decide) rfl rfl ?_
  intro p e s m below meth c hadm X hE hH B hne
  refine g_entry [some (.ref d), some (.int (nI v)), some (.int x), none, none, none, none] rfl rfl (Nat.le_of_ble_eq_true rfl) (fun ls hl => ?_)
  have h12 := hv.2.2.1
  have hmp := (hN v hvc).1
  have ht8 := ht.2.2.1
  obtain ⟨hm1a, hm2, hm3⟩ := hm (mp v) hmp
  refine lv_aload_n X.1.1 X.1.2.1 d_Model_put_0 rfl (gl_at hl rfl) ?_
  refine lv_iload_n X.1.1 X.1.2.1 d_Model_put_1 rfl (gl_at hl rfl) ?_
  have mo1 : va_at D CL (d, .inr (10, [.int (w 0), .ref (d + 1), .int (w 2), .ref (d + 2), .ref (d + 3), .ref (d + 4), .ref (d + 5), .ref (d + 6), .int (w 8), .ref (d + 7), .ref (d + 8), .ref (d + 9), .ref (d + 10), .ref (d + 11), .ref (d + 12), .ref (d + 13), .ref (d + 14), .ref (d + 15), .ref (d + 16), .ref (d + 17), .int (w 20), .ref (d + 18), .int (w 22), .ref (d + 19), .ref (d + 20), .ref (d + 21), .int (w 26), .int (w 27), .int (w 28), .ref (d + 22), .ref (d + 23), .ref (d + 24), .ref (d + 25), .ref (d + 26), .int (w 34), .ref (d + 27), .ref (d + 28), .int (w 37), .int (w 38)])) H := hR.1
  refine g_cv (A := (fun p => d ≤ p ∧ p ≤ d + 28)) X gWS_good mw_Model_122 kc_Model mo1 (c_Model_isView l D q H d w ar hR c0 hv.1 (nI v)) (fun _ _ _ => trivial) gBlind.tt rfl rfl hl.1 (Nat.le_of_ble_eq_true rfl) rfl rfl ⟨by decide, by decide⟩ ⟨by decide, by decide⟩ d_Model_put_2 (fun _ h => h.elim) (fun _ h => by cases h) (fun v2 H3 locs hp4 hL => ?_)
  obtain ⟨rfl, hHe⟩ := hp4
  rw [hHe]
  refine lv_if_ne X.1.1 X.1.2.1 d_Model_put_5 rfl (fun hc5 => ?_) (fun hc5 => ?_)
  · replace hc5 := gz_t hc5
    refine lv_aload_n X.1.1 X.1.2.1 d_Model_put_14 rfl (gl_at hl rfl) ?_
    refine g_get X kc_Model mo1 2 (by decide) lk_Model_102 rfl d_Model_put_15 ?_
    refine g_top (nI tp.length) ht.1 ?_
    refine g_istn X.1.1 X.1.2.1 hl 3 d_Model_put_18 rfl (Nat.le_of_ble_eq_true rfl) rfl (fun ls hl => ?_)
    refine lv_aload_n X.1.1 X.1.2.1 d_Model_put_19 rfl (gl_at hl rfl) ?_
    refine lv_iconst (v := nI 0) X.1.1 X.1.2.1 d_Model_put_20 (by decide) ?_
    refine g_put (A := (fun p => d ≤ p ∧ p ≤ d + 28)) X kc_Model mo1 2 (by decide) lk_Model_102 rfl rfl rfl (Nat.le_of_ble_eq_true rfl) d_Model_put_21 ⟨by omega, by omega⟩ hL (fun H5 locs h6 z7 oq8 hL => ?_)
    have hR9 : dR D q H5 d (upd w 2 (nI 0)) ar := hR.putO h6 oq8
    refine lv_iload_n X.1.1 X.1.2.1 d_Model_put_24 rfl (gl_at hl rfl) ?_
    refine lv_if_lt X.1.1 X.1.2.1 d_Model_put_25 rfl (fun hc25 => ?_) (fun hc25 => ?_)
    · exact absurd hc25 hx0
    · refine lv_aload_n X.1.1 X.1.2.1 d_Model_put_28 rfl (gl_at hl rfl) ?_
      refine lv_iload_n X.1.1 X.1.2.1 d_Model_put_29 rfl (gl_at hl rfl) ?_
      refine lv_aload_n X.1.1 X.1.2.1 d_Model_put_30 rfl (gl_at hl rfl) ?_
      have mo10 : va_at D CL (d, .inr (10, [.int (w 0), .ref (d + 1), .int (nI 0), .ref (d + 2), .ref (d + 3), .ref (d + 4), .ref (d + 5), .ref (d + 6), .int (w 8), .ref (d + 7), .ref (d + 8), .ref (d + 9), .ref (d + 10), .ref (d + 11), .ref (d + 12), .ref (d + 13), .ref (d + 14), .ref (d + 15), .ref (d + 16), .ref (d + 17), .int (w 20), .ref (d + 18), .int (w 22), .ref (d + 19), .ref (d + 20), .ref (d + 21), .int (w 26), .int (w 27), .int (w 28), .ref (d + 22), .ref (d + 23), .ref (d + 24), .ref (d + 25), .ref (d + 26), .int (w 34), .ref (d + 27), .ref (d + 28), .int (w 37), .int (w 38)])) H5 := hR9.1
      refine g_get X kc_Model mo10 1 (by decide) lk_Model_7 rfl d_Model_put_31 ?_
      refine lv_iconst (v := nI 0) X.1.1 X.1.2.1 d_Model_put_34 (by decide) ?_
      refine lv_iload_n X.1.1 X.1.2.1 d_Model_put_35 rfl (gl_at hl rfl) ?_
      refine g_cv (A := (fun p => d ≤ p ∧ p ≤ d + 28)) X gWS_good mw_Model_118 kc_Model mo10 (c_Model_within l D q H5 d (upd w 2 (nI 0)) ar hR9 c0 org srt bt tn mp hv hN v hvc (d + 1) 8 (ar 1) hR9.a1 0 _ tp rfl ht.2.1 (by omega) (by omega) ht.2.2.2) (fun _ _ _ => trivial) gBlind.tt rfl rfl hl.1 (Nat.le_of_ble_eq_true rfl) rfl rfl ⟨by decide, by decide⟩ ⟨by decide, by decide⟩ d_Model_put_36 (fun _ h => h.elim) hL (fun v11 H12 locs hp13 hL => ?_)
      obtain ⟨rfl, hHe⟩ := hp13
      rw [hHe]
      refine lv_if_ne X.1.1 X.1.2.1 d_Model_put_39 rfl (fun hc39 => ?_) (fun hc39 => ?_)
      · replace hc39 := gz_t hc39
        refine lv_aload_n X.1.1 X.1.2.1 d_Model_put_48 rfl (gl_at hl rfl) ?_
        refine lv_iload_n X.1.1 X.1.2.1 d_Model_put_49 rfl (gl_at hl rfl) ?_
        refine g_cv (A := (fun p => d ≤ p ∧ p ≤ d + 28)) X gWS_good mw_Model_114 kc_Model mo10 (c_Model_mapOf l D q H5 d (upd w 2 (nI 0)) ar hR9 c0 org srt bt tn mp hv hN v hvc) (fun _ _ _ => trivial) gBlind.tt rfl rfl hl.1 (Nat.le_of_ble_eq_true rfl) rfl rfl ⟨by decide, by decide⟩ ⟨by decide, by decide⟩ d_Model_put_50 (fun _ h => h.elim) hL (fun v14 H15 locs hp16 hL => ?_)
        obtain ⟨rfl, hHe⟩ := hp16
        rw [hHe]
        refine g_ist X.1.1 X.1.2.1 hl 4 d_Model_put_53 (Nat.le_of_ble_eq_true rfl) rfl (fun ls hl => ?_)
        refine lv_aload_n X.1.1 X.1.2.1 d_Model_put_55 rfl (gl_at hl rfl) ?_
        refine lv_iload X.1.1 X.1.2.1 d_Model_put_56 (gl_at hl rfl) ?_
        refine lv_aload_n X.1.1 X.1.2.1 d_Model_put_58 rfl (gl_at hl rfl) ?_
        refine g_get X kc_Model mo10 1 (by decide) lk_Model_7 rfl d_Model_put_59 ?_
        refine lv_iconst (v := nI 0) X.1.1 X.1.2.1 d_Model_put_62 (by decide) ?_
        refine lv_iload_n X.1.1 X.1.2.1 d_Model_put_63 rfl (gl_at hl rfl) ?_
        refine g_cv (A := (fun p => d ≤ p ∧ p ≤ d + 28)) X gWS_good mw_Model_133 kc_Model mo10 (c_Model_keyOf l D q H5 d (upd w 2 (nI 0)) ar hR9 kk hk n chg hm (mp v) hmp (d + 1) 8 (ar 1) hR9.a1 0 _ tp rfl ht.2.1 (by omega) (by omega) ht.2.2.2) (fun _ _ _ => trivial) gBlind.tt rfl rfl hl.1 (Nat.le_of_ble_eq_true rfl) rfl rfl ⟨by decide, by decide⟩ ⟨by decide, by decide⟩ d_Model_put_64 (fun _ h => h.elim) hL (fun v17 H18 locs hp19 hL => ?_)
        obtain ⟨⟨o, rfl, ho⟩, hHe⟩ := hp19
        rw [hHe]
        refine g_ist X.1.1 X.1.2.1 hl 5 d_Model_put_67 (Nat.le_of_ble_eq_true rfl) rfl (fun ls hl => ?_)
        cases o with
        | none =>
            refine lv_iload X.1.1 X.1.2.1 d_Model_put_69 (gl_at hl rfl) ?_
            refine lv_iconst (v := (-1)) X.1.1 X.1.2.1 d_Model_put_71 (by decide) ?_
            refine lv_icmp_ne X.1.1 X.1.2.1 d_Model_put_72 rfl (fun hc72 => ?_) (fun hc72 => ?_)
            · exact absurd rfl hc72
            · refine lv_aload_n X.1.1 X.1.2.1 d_Model_put_75 rfl (gl_at hl rfl) ?_
              refine g_get X kc_Model mo10 3 (by decide) lk_Model_13 rfl d_Model_put_76 ?_
              refine lv_iload X.1.1 X.1.2.1 d_Model_put_79 (gl_at hl rfl) ?_
              have ma20 : va_at D CL (d + 2, .inl (q 0, 3, .inl (ar 2))) H5 := hR9.a2
              refine g_iald X 0 ma20 rfl (mp v) (by omega) (by omega) d_Model_put_81 ?_
              refine g_top (nI (n (mp v))) hm1a ?_
              refine lv_bipush (v := nI 64) X.1.1 X.1.2.1 d_Model_put_82 (by decide) ?_
              refine gn_ne X.1.1 X.1.2.1 (n (mp v)) 64 (by omega) (by omega) d_Model_put_84 rfl (fun hc84 => ?_) (fun hc84 => ?_)
              · refine lv_aload_n X.1.1 X.1.2.1 d_Model_put_93 rfl (gl_at hl rfl) ?_
                refine lv_iconst (v := nI 0) X.1.1 X.1.2.1 d_Model_put_94 (by decide) ?_
                refine g_put (A := (fun p => d ≤ p ∧ p ≤ d + 28)) X kc_Model mo10 0 (by decide) lk_Model_99 rfl rfl rfl (Nat.le_of_ble_eq_true rfl) d_Model_put_95 ⟨by omega, by omega⟩ hL (fun H21 locs h22 z23 oq24 hL => ?_)
                have hR25 : dR D q H21 d (upd (upd w 0 (nI 0)) 2 (nI 0)) ar := hR9.putO h22 oq24
                refine lv_iload X.1.1 X.1.2.1 d_Model_put_98 (gl_at hl rfl) ?_
                refine lv_iconst (v := (-1)) X.1.1 X.1.2.1 d_Model_put_100 (by decide) ?_
                refine lv_icmp_eq X.1.1 X.1.2.1 d_Model_put_101 rfl (fun hc101 => ?_) (fun hc101 => ?_)
                · refine lv_bipush (v := nI 64) X.1.1 X.1.2.1 d_Model_put_124 (by decide) ?_
                  refine lv_iload X.1.1 X.1.2.1 d_Model_put_126 (gl_at hl rfl) ?_
                  refine lv_imul X.1.1 X.1.2.1 d_Model_put_128 ?_
                  refine g_top (nI (64 * (mp v))) (pk_mul _ _) ?_
                  refine lv_aload_n X.1.1 X.1.2.1 d_Model_put_129 rfl (gl_at hl rfl) ?_
                  have mo26 : va_at D CL (d, .inr (10, [.int (nI 0), .ref (d + 1), .int (nI 0), .ref (d + 2), .ref (d + 3), .ref (d + 4), .ref (d + 5), .ref (d + 6), .int (w 8), .ref (d + 7), .ref (d + 8), .ref (d + 9), .ref (d + 10), .ref (d + 11), .ref (d + 12), .ref (d + 13), .ref (d + 14), .ref (d + 15), .ref (d + 16), .ref (d + 17), .int (w 20), .ref (d + 18), .int (w 22), .ref (d + 19), .ref (d + 20), .ref (d + 21), .int (w 26), .int (w 27), .int (w 28), .ref (d + 22), .ref (d + 23), .ref (d + 24), .ref (d + 25), .ref (d + 26), .int (w 34), .ref (d + 27), .ref (d + 28), .int (w 37), .int (w 38)])) H21 := hR25.1
                  refine g_get X kc_Model mo26 3 (by decide) lk_Model_13 rfl d_Model_put_130 ?_
                  refine lv_iload X.1.1 X.1.2.1 d_Model_put_133 (gl_at hl rfl) ?_
                  have ma27 : va_at D CL (d + 2, .inl (q 0, 3, .inl (ar 2))) H21 := hR25.a2
                  refine g_iald X 0 ma27 rfl (mp v) (by omega) (by omega) d_Model_put_135 ?_
                  refine g_top (nI (n (mp v))) hm1a ?_
                  refine lv_iadd X.1.1 X.1.2.1 d_Model_put_136 ?_
                  refine g_top (nI ((64 * (mp v)) + (n (mp v)))) (nI_add _ _) ?_
                  refine g_ist X.1.1 X.1.2.1 hl 5 d_Model_put_137 (Nat.le_of_ble_eq_true rfl) rfl (fun ls hl => ?_)
                  refine lv_iconst (v := nI 0) X.1.1 X.1.2.1 d_Model_put_139 (by decide) ?_
                  refine g_ist X.1.1 X.1.2.1 hl 6 d_Model_put_140 (Nat.le_of_ble_eq_true rfl) rfl (fun ls hl => ?_)
                  have loop142 : ∀ (fu : Nat) (i : Nat) (F : Nat → Int32) (Hn : Heap) (locs : List Loc) (ls : Array Slot), tp.length - i < fu → (i ≤ tp.length) → (tCp F (ar 4) (8 * (64 * mp v + n (mp v))) tp i) → (dR D q Hn d (upd (upd w 0 (nI 0)) 2 (nI 0)) (va_up ar 4 F)) → (Hn.size = H.size) → (∀ p : Nat, (p < d ∨ d + 28 < p) → Hn[p]? = H[p]?) → (∀ x ∈ locs, (fun p => d ≤ p ∧ p ≤ d + 28) x.base) → gl ls [some (.ref d), some (.int (nI v)), some (.int x), some (.int (nI tp.length)), some (.int (nI (mp v))), some (.int (nI ((64 * (mp v)) + (n (mp v))))), some (.int (nI i))] → W p l e (gR 3 77 0 0) s m ([.ref d, .int (nI v), .int x] : List Value).toArray below meth c Hn locs 0 0 (gQ below ([.ref d, .int (nI v), .int x] : List Value).toArray s (fun v1 H1 => ((∃ r0, d_ky kk (mp v) (n (mp v)) tp (some r0) ∧ v1 = some (.int (ar 6 r0)) ∧ dR D q H1 d (upd (upd w 0 (nI 0)) 2 (nI 0)) (va_up ar 6 (upd (ar 6) r0 x))) ∨ (d_ky kk (mp v) (n (mp v)) tp none ∧ n (mp v) = 64 ∧ v1 = some (.int 0) ∧ dR D q H1 d (upd (upd w 0 (nI 3)) 2 (nI 0)) ar) ∨ ∃ F : Nat → Int32, d_ky kk (mp v) (n (mp v)) tp none ∧ n (mp v) < 64 ∧ v1 = some (.int (-1)) ∧ tCp F (ar 4) (8 * (64 * mp v + n (mp v))) tp tp.length ∧ dR D q H1 d (upd (upd w 0 (nI 0)) 2 (nI 0)) (va_up (va_up (va_up (va_up (va_up ar 2 (upd (ar 2) (mp v) (nI (n (mp v) + 1)))) 3 (upd (ar 3) (mp v) (nI (chg (mp v) + 1)))) 4 F) 5 (upd (ar 5) (64 * mp v + n (mp v)) (nI tp.length))) 6 (upd (ar 6) (64 * mp v + n (mp v)) x))) ∧ H1.size = H.size ∧ ∀ p : Nat, (p < d ∨ d + 28 < p) → H1[p]? = H[p]?) 0 0 (fun p => d ≤ p ∧ p ≤ d + 28)) (F0 m 142 ls []) := by
                    intro fu
                    induction fu with
                    | zero => intro i F Hn locs ls hmu; omega
                    | succ fu ih142 =>
                      intro i F Hn locs ls hmu142 hi142_0 hi142_1 hRl hzl frl hL hl
                      refine lv_iload X.1.1 X.1.2.1 d_Model_put_142 (gl_at hl rfl) ?_
                      refine lv_iload_n X.1.1 X.1.2.1 d_Model_put_144 rfl (gl_at hl rfl) ?_
                      refine gn_ge X.1.1 X.1.2.1 i tp.length (by omega) (by omega) d_Model_put_145 rfl (fun hc145 => ?_) (fun hc145 => ?_)
                      · refine lv_aload_n X.1.1 X.1.2.1 d_Model_put_174 rfl (gl_at hl rfl) ?_
                        have mo28 : va_at D CL (d, .inr (10, [.int (nI 0), .ref (d + 1), .int (nI 0), .ref (d + 2), .ref (d + 3), .ref (d + 4), .ref (d + 5), .ref (d + 6), .int (w 8), .ref (d + 7), .ref (d + 8), .ref (d + 9), .ref (d + 10), .ref (d + 11), .ref (d + 12), .ref (d + 13), .ref (d + 14), .ref (d + 15), .ref (d + 16), .ref (d + 17), .int (w 20), .ref (d + 18), .int (w 22), .ref (d + 19), .ref (d + 20), .ref (d + 21), .int (w 26), .int (w 27), .int (w 28), .ref (d + 22), .ref (d + 23), .ref (d + 24), .ref (d + 25), .ref (d + 26), .int (w 34), .ref (d + 27), .ref (d + 28), .int (w 37), .int (w 38)])) Hn := hRl.1
                        refine g_get X kc_Model mo28 6 (by decide) lk_Model_22 rfl d_Model_put_175 ?_
                        refine lv_iload X.1.1 X.1.2.1 d_Model_put_178 (gl_at hl rfl) ?_
                        refine lv_iload_n X.1.1 X.1.2.1 d_Model_put_180 rfl (gl_at hl rfl) ?_
                        have ma29 : va_at D CL (d + 5, .inl (q 0, 192, .inl (ar 5))) Hn := hRl.a5
                        refine g_iast (A := (fun p => d ≤ p ∧ p ≤ d + 28)) X 0 ma29 rfl ((64 * (mp v)) + (n (mp v))) (by omega) (by decide) d_Model_put_181 ⟨by omega, by omega⟩ hL (fun H30 locs h31 z32 oq33 hL => ?_)
                        have hR34 : dR D q H30 d (upd (upd w 0 (nI 0)) 2 (nI 0)) (va_up (va_up ar 4 F) 5 (upd (ar 5) ((64 * (mp v)) + (n (mp v))) (nI tp.length))) := hRl.putB 5 (by decide) h31 oq33 rfl (fun j hj => by simp only [va_up, if_neg hj])
                        refine lv_aload_n X.1.1 X.1.2.1 d_Model_put_182 rfl (gl_at hl rfl) ?_
                        have mo35 : va_at D CL (d, .inr (10, [.int (nI 0), .ref (d + 1), .int (nI 0), .ref (d + 2), .ref (d + 3), .ref (d + 4), .ref (d + 5), .ref (d + 6), .int (w 8), .ref (d + 7), .ref (d + 8), .ref (d + 9), .ref (d + 10), .ref (d + 11), .ref (d + 12), .ref (d + 13), .ref (d + 14), .ref (d + 15), .ref (d + 16), .ref (d + 17), .int (w 20), .ref (d + 18), .int (w 22), .ref (d + 19), .ref (d + 20), .ref (d + 21), .int (w 26), .int (w 27), .int (w 28), .ref (d + 22), .ref (d + 23), .ref (d + 24), .ref (d + 25), .ref (d + 26), .int (w 34), .ref (d + 27), .ref (d + 28), .int (w 37), .int (w 38)])) H30 := hR34.1
                        refine g_get X kc_Model mo35 7 (by decide) lk_Model_25 rfl d_Model_put_183 ?_
                        refine lv_iload X.1.1 X.1.2.1 d_Model_put_186 (gl_at hl rfl) ?_
                        refine lv_iload_n X.1.1 X.1.2.1 d_Model_put_188 rfl (gl_at hl rfl) ?_
                        have ma36 : va_at D CL (d + 6, .inl (q 0, 192, .inl (ar 6))) H30 := hR34.a6
                        refine g_iast (A := (fun p => d ≤ p ∧ p ≤ d + 28)) X 0 ma36 rfl ((64 * (mp v)) + (n (mp v))) (by omega) (by decide) d_Model_put_189 ⟨by omega, by omega⟩ hL (fun H37 locs h38 z39 oq40 hL => ?_)
                        have hR41 : dR D q H37 d (upd (upd w 0 (nI 0)) 2 (nI 0)) (va_up (va_up (va_up ar 4 F) 5 (upd (ar 5) ((64 * (mp v)) + (n (mp v))) (nI tp.length))) 6 (upd (ar 6) ((64 * (mp v)) + (n (mp v))) x)) := hR34.putB 6 (by decide) h38 oq40 rfl (fun j hj => by simp only [va_up, if_neg hj])
                        refine lv_aload_n X.1.1 X.1.2.1 d_Model_put_190 rfl (gl_at hl rfl) ?_
                        have mo42 : va_at D CL (d, .inr (10, [.int (nI 0), .ref (d + 1), .int (nI 0), .ref (d + 2), .ref (d + 3), .ref (d + 4), .ref (d + 5), .ref (d + 6), .int (w 8), .ref (d + 7), .ref (d + 8), .ref (d + 9), .ref (d + 10), .ref (d + 11), .ref (d + 12), .ref (d + 13), .ref (d + 14), .ref (d + 15), .ref (d + 16), .ref (d + 17), .int (w 20), .ref (d + 18), .int (w 22), .ref (d + 19), .ref (d + 20), .ref (d + 21), .int (w 26), .int (w 27), .int (w 28), .ref (d + 22), .ref (d + 23), .ref (d + 24), .ref (d + 25), .ref (d + 26), .int (w 34), .ref (d + 27), .ref (d + 28), .int (w 37), .int (w 38)])) H37 := hR41.1
                        refine g_get X kc_Model mo42 3 (by decide) lk_Model_13 rfl d_Model_put_191 ?_
                        refine lv_iload X.1.1 X.1.2.1 d_Model_put_194 (gl_at hl rfl) ?_
                        refine lv_dup2_11 X.1.1 X.1.2.1 d_Model_put_196 rfl rfl ?_
                        have ma43 : va_at D CL (d + 2, .inl (q 0, 3, .inl (ar 2))) H37 := hR41.a2
                        refine g_iald X 0 ma43 rfl (mp v) (by omega) (by omega) d_Model_put_197 ?_
                        refine g_top (nI (n (mp v))) hm1a ?_
                        refine lv_iconst (v := nI 1) X.1.1 X.1.2.1 d_Model_put_198 (by decide) ?_
                        refine lv_iadd X.1.1 X.1.2.1 d_Model_put_199 ?_
                        refine g_top (nI ((n (mp v)) + 1)) (nI_add _ _) ?_
                        refine g_iast (A := (fun p => d ≤ p ∧ p ≤ d + 28)) X 0 ma43 rfl (mp v) (by omega) (by decide) d_Model_put_200 ⟨by omega, by omega⟩ hL (fun H44 locs h45 z46 oq47 hL => ?_)
                        have hR48 : dR D q H44 d (upd (upd w 0 (nI 0)) 2 (nI 0)) (va_up (va_up (va_up (va_up ar 2 (upd (ar 2) (mp v) (nI ((n (mp v)) + 1)))) 4 F) 5 (upd (ar 5) ((64 * (mp v)) + (n (mp v))) (nI tp.length))) 6 (upd (ar 6) ((64 * (mp v)) + (n (mp v))) x)) := hR41.putB 2 (by decide) h45 oq47 rfl (fun j hj => by simp only [va_up, if_neg hj])
                        refine lv_aload_n X.1.1 X.1.2.1 d_Model_put_201 rfl (gl_at hl rfl) ?_
                        have mo49 : va_at D CL (d, .inr (10, [.int (nI 0), .ref (d + 1), .int (nI 0), .ref (d + 2), .ref (d + 3), .ref (d + 4), .ref (d + 5), .ref (d + 6), .int (w 8), .ref (d + 7), .ref (d + 8), .ref (d + 9), .ref (d + 10), .ref (d + 11), .ref (d + 12), .ref (d + 13), .ref (d + 14), .ref (d + 15), .ref (d + 16), .ref (d + 17), .int (w 20), .ref (d + 18), .int (w 22), .ref (d + 19), .ref (d + 20), .ref (d + 21), .int (w 26), .int (w 27), .int (w 28), .ref (d + 22), .ref (d + 23), .ref (d + 24), .ref (d + 25), .ref (d + 26), .int (w 34), .ref (d + 27), .ref (d + 28), .int (w 37), .int (w 38)])) H44 := hR48.1
                        refine g_get X kc_Model mo49 4 (by decide) lk_Model_16 rfl d_Model_put_202 ?_
                        refine lv_iload X.1.1 X.1.2.1 d_Model_put_205 (gl_at hl rfl) ?_
                        refine lv_dup2_11 X.1.1 X.1.2.1 d_Model_put_207 rfl rfl ?_
                        have ma50 : va_at D CL (d + 3, .inl (q 0, 3, .inl (ar 3))) H44 := hR48.a3
                        refine g_iald X 0 ma50 rfl (mp v) (by omega) (by omega) d_Model_put_208 ?_
                        refine g_top (nI (chg (mp v))) hm3 ?_
                        refine lv_iconst (v := nI 1) X.1.1 X.1.2.1 d_Model_put_209 (by decide) ?_
                        refine lv_iadd X.1.1 X.1.2.1 d_Model_put_210 ?_
                        refine g_top (nI ((chg (mp v)) + 1)) (nI_add _ _) ?_
                        refine g_iast (A := (fun p => d ≤ p ∧ p ≤ d + 28)) X 0 ma50 rfl (mp v) (by omega) (by decide) d_Model_put_211 ⟨by omega, by omega⟩ hL (fun H51 locs h52 z53 oq54 hL => ?_)
                        have hR55 : dR D q H51 d (upd (upd w 0 (nI 0)) 2 (nI 0)) (va_up (va_up (va_up (va_up (va_up ar 2 (upd (ar 2) (mp v) (nI ((n (mp v)) + 1)))) 3 (upd (ar 3) (mp v) (nI ((chg (mp v)) + 1)))) 4 F) 5 (upd (ar 5) ((64 * (mp v)) + (n (mp v))) (nI tp.length))) 6 (upd (ar 6) ((64 * (mp v)) + (n (mp v))) x)) := hR48.putB 3 (by decide) h52 oq54 rfl (fun j hj => by simp only [va_up, if_neg hj])
                        refine lv_iconst (v := (-1)) X.1.1 X.1.2.1 d_Model_put_212 (by decide) ?_
                        exact g_iret X B ⟨Or.inr (Or.inr ⟨F, ho, by omega, rfl, by rw [show tp.length = i by omega]; exact hi142_1, hR55⟩), (z53.trans (z46.trans (z39.trans (z32.trans hzl)))), fun p hp => ((oq54 p (by omega)).trans ((oq47 p (by omega)).trans ((oq40 p (by omega)).trans ((oq33 p (by omega)).trans (frl p (by omega))))))⟩ hL d_Model_put_213 (by omega) (by omega)
                      · refine lv_aload_n X.1.1 X.1.2.1 d_Model_put_148 rfl (gl_at hl rfl) ?_
                        have mo56 : va_at D CL (d, .inr (10, [.int (nI 0), .ref (d + 1), .int (nI 0), .ref (d + 2), .ref (d + 3), .ref (d + 4), .ref (d + 5), .ref (d + 6), .int (w 8), .ref (d + 7), .ref (d + 8), .ref (d + 9), .ref (d + 10), .ref (d + 11), .ref (d + 12), .ref (d + 13), .ref (d + 14), .ref (d + 15), .ref (d + 16), .ref (d + 17), .int (w 20), .ref (d + 18), .int (w 22), .ref (d + 19), .ref (d + 20), .ref (d + 21), .int (w 26), .int (w 27), .int (w 28), .ref (d + 22), .ref (d + 23), .ref (d + 24), .ref (d + 25), .ref (d + 26), .int (w 34), .ref (d + 27), .ref (d + 28), .int (w 37), .int (w 38)])) Hn := hRl.1
                        refine g_get X kc_Model mo56 5 (by decide) lk_Model_19 rfl d_Model_put_149 ?_
                        refine lv_bipush (v := nI 8) X.1.1 X.1.2.1 d_Model_put_152 (by decide) ?_
                        refine lv_iload X.1.1 X.1.2.1 d_Model_put_154 (gl_at hl rfl) ?_
                        refine lv_imul X.1.1 X.1.2.1 d_Model_put_156 ?_
                        refine g_top (nI (8 * ((64 * (mp v)) + (n (mp v))))) (pk_mul _ _) ?_
                        refine lv_iload X.1.1 X.1.2.1 d_Model_put_157 (gl_at hl rfl) ?_
                        refine lv_iadd X.1.1 X.1.2.1 d_Model_put_159 ?_
                        refine g_top (nI ((8 * ((64 * (mp v)) + (n (mp v)))) + i)) (nI_add _ _) ?_
                        refine lv_aload_n X.1.1 X.1.2.1 d_Model_put_160 rfl (gl_at hl rfl) ?_
                        refine g_get X kc_Model mo56 1 (by decide) lk_Model_7 rfl d_Model_put_161 ?_
                        refine lv_iload X.1.1 X.1.2.1 d_Model_put_164 (gl_at hl rfl) ?_
                        have ma57 : va_at D CL (d + 1, .inl (q 0, 8, .inl (ar 1))) Hn := hRl.a1
                        refine g_iald X 0 ma57 rfl i (by omega) (by omega) d_Model_put_166 ?_
                        refine g_top (nI (tp.getD i 0)) ((congrArg (ar 1) (by omega)).trans (ht.2.1 i (by omega))) ?_
                        have ma58 : va_at D CL (d + 4, .inl (q 0, 1536, .inl F)) Hn := hRl.a4
                        refine g_iast (A := (fun p => d ≤ p ∧ p ≤ d + 28)) X 0 ma58 rfl ((8 * ((64 * (mp v)) + (n (mp v)))) + i) (by omega) (by decide) d_Model_put_167 ⟨by omega, by omega⟩ hL (fun H59 locs h60 z61 oq62 hL => ?_)
                        have hR63 : dR D q H59 d (upd (upd w 0 (nI 0)) 2 (nI 0)) (va_up ar 4 (upd F ((8 * ((64 * (mp v)) + (n (mp v)))) + i) (nI (tp.getD i 0)))) := hRl.putB 4 (by decide) h60 oq62 rfl (fun j hj => by simp only [va_up, if_neg hj])
                        refine g_iinc X.1.1 X.1.2.1 (nI (i + 1)) hl 6 d_Model_put_168 rfl (nI_1 _) rfl (fun ls hl => ?_)
                        refine lv_goto X.1.1 X.1.2.1 d_Model_put_171 rfl ?_
                        exact ih142 (i + 1) (upd F ((8 * ((64 * (mp v)) + (n (mp v)))) + i) (nI (tp.getD i 0))) H59 locs ls (by omega) (by omega) (hi142_1.step rfl) hR63 (z61.trans hzl) (fun p hp => ((oq62 p (by omega)).trans (frl p (by omega)))) hL hl
                  exact loop142 _ 0 (ar 4) H21 locs ls (Nat.lt_succ_self _) (Nat.zero_le _) tCp.zero (hR25.as (fun j => by first | rfl | (simp only [upd]; repeat' split <;> first | rfl | (subst_vars; rfl))) (fun j => by first | rfl | (simp only [va_up]; repeat' split <;> first | rfl | (subst_vars; rfl)))) (z23.trans z7) (fun p hp => ((oq24 p (by omega)).trans (oq8 p (by omega)))) hL hl
                · exact absurd rfl hc101
              · refine lv_aload_n X.1.1 X.1.2.1 d_Model_put_87 rfl (gl_at hl rfl) ?_
                refine lv_iconst (v := nI 3) X.1.1 X.1.2.1 d_Model_put_88 (by decide) ?_
                refine g_cv (A := (fun p => d ≤ p ∧ p ≤ d + 28)) X gWS_good mw_Model_126 kc_Model mo10 (c_Model_raise l D q H5 d (upd w 2 (nI 0)) ar hR9 (nI 3)) (fun _ _ _ => trivial) gBlind.tt rfl rfl hl.1 (Nat.le_of_ble_eq_true rfl) rfl rfl ⟨by decide, by decide⟩ ⟨by decide, by decide⟩ d_Model_put_89 (fun _ h => h) hL (fun v64 H65 locs hp66 hL => ?_)
                obtain ⟨rfl, hR67, z68, fr69⟩ := hp66
                exact g_iret X B ⟨Or.inr (Or.inl ⟨ho, hc84, rfl, hR67⟩), (z68.trans z7), fun p hp => ((fr69 p (by omega)).trans (oq8 p (by omega)))⟩ hL d_Model_put_92 (by omega) (by omega)
        | some r0 =>
            have hr0 := ho.lt
            refine lv_iload X.1.1 X.1.2.1 d_Model_put_69 (gl_at hl rfl) ?_
            refine lv_iconst (v := (-1)) X.1.1 X.1.2.1 d_Model_put_71 (by decide) ?_
            refine lv_icmp_ne X.1.1 X.1.2.1 d_Model_put_72 rfl (fun hc72 => ?_) (fun hc72 => ?_)
            · refine lv_aload_n X.1.1 X.1.2.1 d_Model_put_93 rfl (gl_at hl rfl) ?_
              refine lv_iconst (v := nI 0) X.1.1 X.1.2.1 d_Model_put_94 (by decide) ?_
              refine g_put (A := (fun p => d ≤ p ∧ p ≤ d + 28)) X kc_Model mo10 0 (by decide) lk_Model_99 rfl rfl rfl (Nat.le_of_ble_eq_true rfl) d_Model_put_95 ⟨by omega, by omega⟩ hL (fun H70 locs h71 z72 oq73 hL => ?_)
              have hR74 : dR D q H70 d (upd (upd w 0 (nI 0)) 2 (nI 0)) ar := hR9.putO h71 oq73
              refine lv_iload X.1.1 X.1.2.1 d_Model_put_98 (gl_at hl rfl) ?_
              refine lv_iconst (v := (-1)) X.1.1 X.1.2.1 d_Model_put_100 (by decide) ?_
              refine lv_icmp_eq X.1.1 X.1.2.1 d_Model_put_101 rfl (fun hc101 => ?_) (fun hc101 => ?_)
              · exact absurd hc101 (d_m1 (by omega))
              · refine lv_aload_n X.1.1 X.1.2.1 d_Model_put_104 rfl (gl_at hl rfl) ?_
                have mo75 : va_at D CL (d, .inr (10, [.int (nI 0), .ref (d + 1), .int (nI 0), .ref (d + 2), .ref (d + 3), .ref (d + 4), .ref (d + 5), .ref (d + 6), .int (w 8), .ref (d + 7), .ref (d + 8), .ref (d + 9), .ref (d + 10), .ref (d + 11), .ref (d + 12), .ref (d + 13), .ref (d + 14), .ref (d + 15), .ref (d + 16), .ref (d + 17), .int (w 20), .ref (d + 18), .int (w 22), .ref (d + 19), .ref (d + 20), .ref (d + 21), .int (w 26), .int (w 27), .int (w 28), .ref (d + 22), .ref (d + 23), .ref (d + 24), .ref (d + 25), .ref (d + 26), .int (w 34), .ref (d + 27), .ref (d + 28), .int (w 37), .int (w 38)])) H70 := hR74.1
                refine g_get X kc_Model mo75 7 (by decide) lk_Model_25 rfl d_Model_put_105 ?_
                refine lv_iload X.1.1 X.1.2.1 d_Model_put_108 (gl_at hl rfl) ?_
                have ma76 : va_at D CL (d + 6, .inl (q 0, 192, .inl (ar 6))) H70 := hR74.a6
                refine g_iald X 0 ma76 rfl r0 (by omega) (by omega) d_Model_put_110 ?_
                refine g_ist X.1.1 X.1.2.1 hl 6 d_Model_put_111 (Nat.le_of_ble_eq_true rfl) rfl (fun ls hl => ?_)
                refine lv_aload_n X.1.1 X.1.2.1 d_Model_put_113 rfl (gl_at hl rfl) ?_
                refine g_get X kc_Model mo75 7 (by decide) lk_Model_25 rfl d_Model_put_114 ?_
                refine lv_iload X.1.1 X.1.2.1 d_Model_put_117 (gl_at hl rfl) ?_
                refine lv_iload_n X.1.1 X.1.2.1 d_Model_put_119 rfl (gl_at hl rfl) ?_
                refine g_iast (A := (fun p => d ≤ p ∧ p ≤ d + 28)) X 0 ma76 rfl r0 (by omega) (by decide) d_Model_put_120 ⟨by omega, by omega⟩ hL (fun H77 locs h78 z79 oq80 hL => ?_)
                have hR81 : dR D q H77 d (upd (upd w 0 (nI 0)) 2 (nI 0)) (va_up ar 6 (upd (ar 6) r0 x)) := hR74.putB 6 (by decide) h78 oq80 rfl (fun j hj => by simp only [va_up, if_neg hj])
                refine lv_iload X.1.1 X.1.2.1 d_Model_put_121 (gl_at hl rfl) ?_
                exact g_iret X B ⟨Or.inl ⟨r0, ho, rfl, hR81⟩, (z79.trans (z72.trans z7)), fun p hp => ((oq80 p (by omega)).trans ((oq73 p (by omega)).trans (oq8 p (by omega))))⟩ hL d_Model_put_123 (by omega) (by omega)
            · exact absurd hc72 (d_m1 (by omega))
      · replace hc39 := gz_f hc39
        exact absurd hin hc39
  · replace hc5 := gz_f hc5
    exact absurd (h_ok_of (by omega) hvc) hc5

set_option maxHeartbeats 4000000 in
set_option maxRecDepth 100000 in
/-- view: full -/
theorem c_Model_viewF (l : Launch) (D : va_G) (q : Nat → ClassId) (H : Heap) (d : Nat) (w : Nat → Int32) (ar : Nat → Nat → Int32) (hR : dR D q H d w ar) (c0 : Nat) (org : Nat → Option Nat) (srt : Nat → Nat) (bt : Nat → List Nat) (tn mp : Nat → Nat) (hv : pV w ar c0 org srt bt) (hN : pN c0 org srt tn mp) (tp : List Nat) (ht : pT w ar tp) (v : Nat) (hvc : v < c0) (x : Nat) (hx : x ≤ 3) (h12e : c0 = 12) : gC l y_Model_view (Cond.code y_Model_view b_Model_view 6 (some .int) :: gWS) (gR 1 21 0 0) D CL (gY q) (fun _ => True) [.ref d, .int (nI v), .int (nI x)] H (fun v1 H1 => v1 = some (.int (-1)) ∧ dR D q H1 d (upd (upd w 0 (nI 0)) 2 (nI 0)) ar ∧ H1.size = H.size ∧ ∀ p : Nat, (p < d ∨ d + 28 < p) → H1[p]? = H[p]?) 0 0 (fun p => d ≤ p ∧ p ≤ d + 28) := by
  refine gC.ofW R_Model "view" (by decide) rfl rfl ?_
  intro p e s m below meth c hadm X hE hH B hne
  refine g_entry [some (.ref d), some (.int (nI v)), some (.int (nI x)), none, none, none] rfl rfl (Nat.le_of_ble_eq_true rfl) (fun ls hl => ?_)
  have h12 := hv.2.2.1
  have hmp := (hN v hvc).1
  refine lv_aload_n X.1.1 X.1.2.1 d_Model_view_0 rfl (gl_at hl rfl) ?_
  refine lv_iload_n X.1.1 X.1.2.1 d_Model_view_1 rfl (gl_at hl rfl) ?_
  have mo1 : va_at D CL (d, .inr (10, [.int (w 0), .ref (d + 1), .int (w 2), .ref (d + 2), .ref (d + 3), .ref (d + 4), .ref (d + 5), .ref (d + 6), .int (w 8), .ref (d + 7), .ref (d + 8), .ref (d + 9), .ref (d + 10), .ref (d + 11), .ref (d + 12), .ref (d + 13), .ref (d + 14), .ref (d + 15), .ref (d + 16), .ref (d + 17), .int (w 20), .ref (d + 18), .int (w 22), .ref (d + 19), .ref (d + 20), .ref (d + 21), .int (w 26), .int (w 27), .int (w 28), .ref (d + 22), .ref (d + 23), .ref (d + 24), .ref (d + 25), .ref (d + 26), .int (w 34), .ref (d + 27), .ref (d + 28), .int (w 37), .int (w 38)])) H := hR.1
  refine g_cv (A := (fun p => d ≤ p ∧ p ≤ d + 28)) X gWS_good mw_Model_122 kc_Model mo1 (c_Model_isView l D q H d w ar hR c0 hv.1 (nI v)) (fun _ _ _ => trivial) gBlind.tt rfl rfl hl.1 (Nat.le_of_ble_eq_true rfl) rfl rfl ⟨by decide, by decide⟩ ⟨by decide, by decide⟩ d_Model_view_2 (fun _ h => h.elim) (fun _ h => by cases h) (fun v2 H3 locs hp4 hL => ?_)
  obtain ⟨rfl, hHe⟩ := hp4
  rw [hHe]
  refine lv_if_eq X.1.1 X.1.2.1 d_Model_view_5 rfl (fun hc5 => ?_) (fun hc5 => ?_)
  · replace hc5 := gz_f hc5
    exact absurd (h_ok_of (by omega) hvc) hc5
  · replace hc5 := gz_t hc5
    refine lv_iload_n X.1.1 X.1.2.1 d_Model_view_8 rfl (gl_at hl rfl) ?_
    refine lv_if_lt X.1.1 X.1.2.1 d_Model_view_9 rfl (fun hc9 => ?_) (fun hc9 => ?_)
    · exact absurd hc9 (nI_nneg (by omega))
    · refine lv_iload_n X.1.1 X.1.2.1 d_Model_view_12 rfl (gl_at hl rfl) ?_
      refine lv_iconst (v := nI 3) X.1.1 X.1.2.1 d_Model_view_13 (by decide) ?_
      refine gn_le X.1.1 X.1.2.1 x 3 (by omega) (by omega) d_Model_view_14 rfl (fun hc14 => ?_) (fun hc14 => ?_)
      · refine lv_aload_n X.1.1 X.1.2.1 d_Model_view_23 rfl (gl_at hl rfl) ?_
        refine lv_iconst (v := nI 0) X.1.1 X.1.2.1 d_Model_view_24 (by decide) ?_
        refine g_put (A := (fun p => d ≤ p ∧ p ≤ d + 28)) X kc_Model mo1 0 (by decide) lk_Model_99 rfl rfl rfl (Nat.le_of_ble_eq_true rfl) d_Model_view_25 ⟨by omega, by omega⟩ hL (fun H5 locs h6 z7 oq8 hL => ?_)
        have hR9 : dR D q H5 d (upd w 0 (nI 0)) ar := hR.putO h6 oq8
        refine lv_aload_n X.1.1 X.1.2.1 d_Model_view_28 rfl (gl_at hl rfl) ?_
        have mo10 : va_at D CL (d, .inr (10, [.int (nI 0), .ref (d + 1), .int (w 2), .ref (d + 2), .ref (d + 3), .ref (d + 4), .ref (d + 5), .ref (d + 6), .int (w 8), .ref (d + 7), .ref (d + 8), .ref (d + 9), .ref (d + 10), .ref (d + 11), .ref (d + 12), .ref (d + 13), .ref (d + 14), .ref (d + 15), .ref (d + 16), .ref (d + 17), .int (w 20), .ref (d + 18), .int (w 22), .ref (d + 19), .ref (d + 20), .ref (d + 21), .int (w 26), .int (w 27), .int (w 28), .ref (d + 22), .ref (d + 23), .ref (d + 24), .ref (d + 25), .ref (d + 26), .int (w 34), .ref (d + 27), .ref (d + 28), .int (w 37), .int (w 38)])) H5 := hR9.1
        refine g_get X kc_Model mo10 2 (by decide) lk_Model_102 rfl d_Model_view_29 ?_
        refine g_top (nI tp.length) ht.1 ?_
        refine g_istn X.1.1 X.1.2.1 hl 3 d_Model_view_32 rfl (Nat.le_of_ble_eq_true rfl) rfl (fun ls hl => ?_)
        refine lv_aload_n X.1.1 X.1.2.1 d_Model_view_33 rfl (gl_at hl rfl) ?_
        refine lv_iconst (v := nI 0) X.1.1 X.1.2.1 d_Model_view_34 (by decide) ?_
        refine g_put (A := (fun p => d ≤ p ∧ p ≤ d + 28)) X kc_Model mo10 2 (by decide) lk_Model_102 rfl rfl rfl (Nat.le_of_ble_eq_true rfl) d_Model_view_35 ⟨by omega, by omega⟩ hL (fun H11 locs h12 z13 oq14 hL => ?_)
        have hR15 : dR D q H11 d (upd (upd w 0 (nI 0)) 2 (nI 0)) ar := hR9.putO h12 oq14
        refine lv_aload_n X.1.1 X.1.2.1 d_Model_view_38 rfl (gl_at hl rfl) ?_
        have mo16 : va_at D CL (d, .inr (10, [.int (nI 0), .ref (d + 1), .int (nI 0), .ref (d + 2), .ref (d + 3), .ref (d + 4), .ref (d + 5), .ref (d + 6), .int (w 8), .ref (d + 7), .ref (d + 8), .ref (d + 9), .ref (d + 10), .ref (d + 11), .ref (d + 12), .ref (d + 13), .ref (d + 14), .ref (d + 15), .ref (d + 16), .ref (d + 17), .int (w 20), .ref (d + 18), .int (w 22), .ref (d + 19), .ref (d + 20), .ref (d + 21), .int (w 26), .int (w 27), .int (w 28), .ref (d + 22), .ref (d + 23), .ref (d + 24), .ref (d + 25), .ref (d + 26), .int (w 34), .ref (d + 27), .ref (d + 28), .int (w 37), .int (w 38)])) H11 := hR15.1
        refine g_get X kc_Model mo16 8 (by decide) lk_Model_28 rfl d_Model_view_39 ?_
        refine g_top (nI c0) hv.1 ?_
        refine lv_bipush (v := nI 12) X.1.1 X.1.2.1 d_Model_view_42 (by decide) ?_
        refine gn_ne X.1.1 X.1.2.1 c0 12 (by omega) (by omega) d_Model_view_44 rfl (fun hc44 => ?_) (fun hc44 => ?_)
        · omega
        · refine lv_iconst (v := (-1)) X.1.1 X.1.2.1 d_Model_view_47 (by decide) ?_
          exact g_iret X B ⟨rfl, hR15, (z13.trans z7), fun p hp => ((oq14 p (by omega)).trans (oq8 p (by omega)))⟩ hL d_Model_view_48 (by omega) (by omega)
      · omega

set_option maxHeartbeats 4000000 in
set_option maxRecDepth 100000 in
/-- view -/
theorem c_Model_view (l : Launch) (D : va_G) (q : Nat → ClassId) (H : Heap) (d : Nat) (w : Nat → Int32) (ar : Nat → Nat → Int32) (hR : dR D q H d w ar) (c0 : Nat) (org : Nat → Option Nat) (srt : Nat → Nat) (bt : Nat → List Nat) (tn mp : Nat → Nat) (hv : pV w ar c0 org srt bt) (hN : pN c0 org srt tn mp) (tp : List Nat) (ht : pT w ar tp) (v : Nat) (hvc : v < c0) (x : Nat) (hx : x ≤ 3) (h12e : c0 < 12) : gC l y_Model_view (Cond.code y_Model_view b_Model_view 6 (some .int) :: gWS) (gR 1 21 0 0) D CL (gY q) (fun _ => True) [.ref d, .int (nI v), .int (nI x)] H (fun v1 H1 => ∃ F : Nat → Int32, (v1 = some (.int (nI c0)) ∧ tCp F (ar 10) (8 * c0) tp tp.length) ∧ dR D q H1 d (upd (upd (upd w 0 (nI 0)) 2 (nI 0)) 8 (nI (c0 + 1))) (va_up (va_up (va_up (va_up ar 7 (upd (ar 7) c0 (nI v))) 8 (upd (ar 8) c0 (nI x))) 9 (upd (ar 9) c0 (nI tp.length))) 10 F) ∧ H1.size = H.size ∧ ∀ p : Nat, (p < d ∨ d + 28 < p) → H1[p]? = H[p]?) 0 0 (fun p => d ≤ p ∧ p ≤ d + 28) := by
  refine gC.ofW R_Model "view" (by decide) rfl rfl ?_
  intro p e s m below meth c hadm X hE hH B hne
  refine g_entry [some (.ref d), some (.int (nI v)), some (.int (nI x)), none, none, none] rfl rfl (Nat.le_of_ble_eq_true rfl) (fun ls hl => ?_)
  have h12 := hv.2.2.1
  have hmp := (hN v hvc).1
  have ht8 := ht.2.2.1
  refine lv_aload_n X.1.1 X.1.2.1 d_Model_view_0 rfl (gl_at hl rfl) ?_
  refine lv_iload_n X.1.1 X.1.2.1 d_Model_view_1 rfl (gl_at hl rfl) ?_
  have mo1 : va_at D CL (d, .inr (10, [.int (w 0), .ref (d + 1), .int (w 2), .ref (d + 2), .ref (d + 3), .ref (d + 4), .ref (d + 5), .ref (d + 6), .int (w 8), .ref (d + 7), .ref (d + 8), .ref (d + 9), .ref (d + 10), .ref (d + 11), .ref (d + 12), .ref (d + 13), .ref (d + 14), .ref (d + 15), .ref (d + 16), .ref (d + 17), .int (w 20), .ref (d + 18), .int (w 22), .ref (d + 19), .ref (d + 20), .ref (d + 21), .int (w 26), .int (w 27), .int (w 28), .ref (d + 22), .ref (d + 23), .ref (d + 24), .ref (d + 25), .ref (d + 26), .int (w 34), .ref (d + 27), .ref (d + 28), .int (w 37), .int (w 38)])) H := hR.1
  refine g_cv (A := (fun p => d ≤ p ∧ p ≤ d + 28)) X gWS_good mw_Model_122 kc_Model mo1 (c_Model_isView l D q H d w ar hR c0 hv.1 (nI v)) (fun _ _ _ => trivial) gBlind.tt rfl rfl hl.1 (Nat.le_of_ble_eq_true rfl) rfl rfl ⟨by decide, by decide⟩ ⟨by decide, by decide⟩ d_Model_view_2 (fun _ h => h.elim) (fun _ h => by cases h) (fun v2 H3 locs hp4 hL => ?_)
  obtain ⟨rfl, hHe⟩ := hp4
  rw [hHe]
  refine lv_if_eq X.1.1 X.1.2.1 d_Model_view_5 rfl (fun hc5 => ?_) (fun hc5 => ?_)
  · replace hc5 := gz_f hc5
    exact absurd (h_ok_of (by omega) hvc) hc5
  · replace hc5 := gz_t hc5
    refine lv_iload_n X.1.1 X.1.2.1 d_Model_view_8 rfl (gl_at hl rfl) ?_
    refine lv_if_lt X.1.1 X.1.2.1 d_Model_view_9 rfl (fun hc9 => ?_) (fun hc9 => ?_)
    · exact absurd hc9 (nI_nneg (by omega))
    · refine lv_iload_n X.1.1 X.1.2.1 d_Model_view_12 rfl (gl_at hl rfl) ?_
      refine lv_iconst (v := nI 3) X.1.1 X.1.2.1 d_Model_view_13 (by decide) ?_
      refine gn_le X.1.1 X.1.2.1 x 3 (by omega) (by omega) d_Model_view_14 rfl (fun hc14 => ?_) (fun hc14 => ?_)
      · refine lv_aload_n X.1.1 X.1.2.1 d_Model_view_23 rfl (gl_at hl rfl) ?_
        refine lv_iconst (v := nI 0) X.1.1 X.1.2.1 d_Model_view_24 (by decide) ?_
        refine g_put (A := (fun p => d ≤ p ∧ p ≤ d + 28)) X kc_Model mo1 0 (by decide) lk_Model_99 rfl rfl rfl (Nat.le_of_ble_eq_true rfl) d_Model_view_25 ⟨by omega, by omega⟩ hL (fun H5 locs h6 z7 oq8 hL => ?_)
        have hR9 : dR D q H5 d (upd w 0 (nI 0)) ar := hR.putO h6 oq8
        refine lv_aload_n X.1.1 X.1.2.1 d_Model_view_28 rfl (gl_at hl rfl) ?_
        have mo10 : va_at D CL (d, .inr (10, [.int (nI 0), .ref (d + 1), .int (w 2), .ref (d + 2), .ref (d + 3), .ref (d + 4), .ref (d + 5), .ref (d + 6), .int (w 8), .ref (d + 7), .ref (d + 8), .ref (d + 9), .ref (d + 10), .ref (d + 11), .ref (d + 12), .ref (d + 13), .ref (d + 14), .ref (d + 15), .ref (d + 16), .ref (d + 17), .int (w 20), .ref (d + 18), .int (w 22), .ref (d + 19), .ref (d + 20), .ref (d + 21), .int (w 26), .int (w 27), .int (w 28), .ref (d + 22), .ref (d + 23), .ref (d + 24), .ref (d + 25), .ref (d + 26), .int (w 34), .ref (d + 27), .ref (d + 28), .int (w 37), .int (w 38)])) H5 := hR9.1
        refine g_get X kc_Model mo10 2 (by decide) lk_Model_102 rfl d_Model_view_29 ?_
        refine g_top (nI tp.length) ht.1 ?_
        refine g_istn X.1.1 X.1.2.1 hl 3 d_Model_view_32 rfl (Nat.le_of_ble_eq_true rfl) rfl (fun ls hl => ?_)
        refine lv_aload_n X.1.1 X.1.2.1 d_Model_view_33 rfl (gl_at hl rfl) ?_
        refine lv_iconst (v := nI 0) X.1.1 X.1.2.1 d_Model_view_34 (by decide) ?_
        refine g_put (A := (fun p => d ≤ p ∧ p ≤ d + 28)) X kc_Model mo10 2 (by decide) lk_Model_102 rfl rfl rfl (Nat.le_of_ble_eq_true rfl) d_Model_view_35 ⟨by omega, by omega⟩ hL (fun H11 locs h12 z13 oq14 hL => ?_)
        have hR15 : dR D q H11 d (upd (upd w 0 (nI 0)) 2 (nI 0)) ar := hR9.putO h12 oq14
        refine lv_aload_n X.1.1 X.1.2.1 d_Model_view_38 rfl (gl_at hl rfl) ?_
        have mo16 : va_at D CL (d, .inr (10, [.int (nI 0), .ref (d + 1), .int (nI 0), .ref (d + 2), .ref (d + 3), .ref (d + 4), .ref (d + 5), .ref (d + 6), .int (w 8), .ref (d + 7), .ref (d + 8), .ref (d + 9), .ref (d + 10), .ref (d + 11), .ref (d + 12), .ref (d + 13), .ref (d + 14), .ref (d + 15), .ref (d + 16), .ref (d + 17), .int (w 20), .ref (d + 18), .int (w 22), .ref (d + 19), .ref (d + 20), .ref (d + 21), .int (w 26), .int (w 27), .int (w 28), .ref (d + 22), .ref (d + 23), .ref (d + 24), .ref (d + 25), .ref (d + 26), .int (w 34), .ref (d + 27), .ref (d + 28), .int (w 37), .int (w 38)])) H11 := hR15.1
        refine g_get X kc_Model mo16 8 (by decide) lk_Model_28 rfl d_Model_view_39 ?_
        refine g_top (nI c0) hv.1 ?_
        refine lv_bipush (v := nI 12) X.1.1 X.1.2.1 d_Model_view_42 (by decide) ?_
        refine gn_ne X.1.1 X.1.2.1 c0 12 (by omega) (by omega) d_Model_view_44 rfl (fun hc44 => ?_) (fun hc44 => ?_)
        · refine lv_aload_n X.1.1 X.1.2.1 d_Model_view_49 rfl (gl_at hl rfl) ?_
          refine g_get X kc_Model mo16 8 (by decide) lk_Model_28 rfl d_Model_view_50 ?_
          refine g_top (nI c0) hv.1 ?_
          refine g_ist X.1.1 X.1.2.1 hl 4 d_Model_view_53 (Nat.le_of_ble_eq_true rfl) rfl (fun ls hl => ?_)
          refine lv_aload_n X.1.1 X.1.2.1 d_Model_view_55 rfl (gl_at hl rfl) ?_
          refine lv_dup X.1.1 X.1.2.1 d_Model_view_56 rfl ?_
          refine g_get X kc_Model mo16 8 (by decide) lk_Model_28 rfl d_Model_view_57 ?_
          refine g_top (nI c0) hv.1 ?_
          refine lv_iconst (v := nI 1) X.1.1 X.1.2.1 d_Model_view_60 (by decide) ?_
          refine lv_iadd X.1.1 X.1.2.1 d_Model_view_61 ?_
          refine g_top (nI (c0 + 1)) (nI_add _ _) ?_
          refine g_put (A := (fun p => d ≤ p ∧ p ≤ d + 28)) X kc_Model mo16 8 (by decide) lk_Model_28 rfl rfl rfl (Nat.le_of_ble_eq_true rfl) d_Model_view_62 ⟨by omega, by omega⟩ hL (fun H17 locs h18 z19 oq20 hL => ?_)
          have hR21 : dR D q H17 d (upd (upd (upd w 0 (nI 0)) 2 (nI 0)) 8 (nI (c0 + 1))) ar := hR15.putO h18 oq20
          refine lv_aload_n X.1.1 X.1.2.1 d_Model_view_65 rfl (gl_at hl rfl) ?_
          have mo22 : va_at D CL (d, .inr (10, [.int (nI 0), .ref (d + 1), .int (nI 0), .ref (d + 2), .ref (d + 3), .ref (d + 4), .ref (d + 5), .ref (d + 6), .int (nI (c0 + 1)), .ref (d + 7), .ref (d + 8), .ref (d + 9), .ref (d + 10), .ref (d + 11), .ref (d + 12), .ref (d + 13), .ref (d + 14), .ref (d + 15), .ref (d + 16), .ref (d + 17), .int (w 20), .ref (d + 18), .int (w 22), .ref (d + 19), .ref (d + 20), .ref (d + 21), .int (w 26), .int (w 27), .int (w 28), .ref (d + 22), .ref (d + 23), .ref (d + 24), .ref (d + 25), .ref (d + 26), .int (w 34), .ref (d + 27), .ref (d + 28), .int (w 37), .int (w 38)])) H17 := hR21.1
          refine g_get X kc_Model mo22 9 (by decide) lk_Model_32 rfl d_Model_view_66 ?_
          refine lv_iload X.1.1 X.1.2.1 d_Model_view_69 (gl_at hl rfl) ?_
          refine lv_iload_n X.1.1 X.1.2.1 d_Model_view_71 rfl (gl_at hl rfl) ?_
          have ma23 : va_at D CL (d + 7, .inl (q 0, 12, .inl (ar 7))) H17 := hR21.a7
          refine g_iast (A := (fun p => d ≤ p ∧ p ≤ d + 28)) X 0 ma23 rfl c0 (by omega) (by decide) d_Model_view_72 ⟨by omega, by omega⟩ hL (fun H24 locs h25 z26 oq27 hL => ?_)
          have hR28 : dR D q H24 d (upd (upd (upd w 0 (nI 0)) 2 (nI 0)) 8 (nI (c0 + 1))) (va_up ar 7 (upd (ar 7) c0 (nI v))) := hR21.putB 7 (by decide) h25 oq27 rfl (fun j hj => by simp only [va_up, if_neg hj])
          refine lv_aload_n X.1.1 X.1.2.1 d_Model_view_73 rfl (gl_at hl rfl) ?_
          have mo29 : va_at D CL (d, .inr (10, [.int (nI 0), .ref (d + 1), .int (nI 0), .ref (d + 2), .ref (d + 3), .ref (d + 4), .ref (d + 5), .ref (d + 6), .int (nI (c0 + 1)), .ref (d + 7), .ref (d + 8), .ref (d + 9), .ref (d + 10), .ref (d + 11), .ref (d + 12), .ref (d + 13), .ref (d + 14), .ref (d + 15), .ref (d + 16), .ref (d + 17), .int (w 20), .ref (d + 18), .int (w 22), .ref (d + 19), .ref (d + 20), .ref (d + 21), .int (w 26), .int (w 27), .int (w 28), .ref (d + 22), .ref (d + 23), .ref (d + 24), .ref (d + 25), .ref (d + 26), .int (w 34), .ref (d + 27), .ref (d + 28), .int (w 37), .int (w 38)])) H24 := hR28.1
          refine g_get X kc_Model mo29 10 (by decide) lk_Model_35 rfl d_Model_view_74 ?_
          refine lv_iload X.1.1 X.1.2.1 d_Model_view_77 (gl_at hl rfl) ?_
          refine lv_iload_n X.1.1 X.1.2.1 d_Model_view_79 rfl (gl_at hl rfl) ?_
          have ma30 : va_at D CL (d + 8, .inl (q 0, 12, .inl (ar 8))) H24 := hR28.a8
          refine g_iast (A := (fun p => d ≤ p ∧ p ≤ d + 28)) X 0 ma30 rfl c0 (by omega) (by decide) d_Model_view_80 ⟨by omega, by omega⟩ hL (fun H31 locs h32 z33 oq34 hL => ?_)
          have hR35 : dR D q H31 d (upd (upd (upd w 0 (nI 0)) 2 (nI 0)) 8 (nI (c0 + 1))) (va_up (va_up ar 7 (upd (ar 7) c0 (nI v))) 8 (upd (ar 8) c0 (nI x))) := hR28.putB 8 (by decide) h32 oq34 rfl (fun j hj => by simp only [va_up, if_neg hj])
          refine lv_aload_n X.1.1 X.1.2.1 d_Model_view_81 rfl (gl_at hl rfl) ?_
          have mo36 : va_at D CL (d, .inr (10, [.int (nI 0), .ref (d + 1), .int (nI 0), .ref (d + 2), .ref (d + 3), .ref (d + 4), .ref (d + 5), .ref (d + 6), .int (nI (c0 + 1)), .ref (d + 7), .ref (d + 8), .ref (d + 9), .ref (d + 10), .ref (d + 11), .ref (d + 12), .ref (d + 13), .ref (d + 14), .ref (d + 15), .ref (d + 16), .ref (d + 17), .int (w 20), .ref (d + 18), .int (w 22), .ref (d + 19), .ref (d + 20), .ref (d + 21), .int (w 26), .int (w 27), .int (w 28), .ref (d + 22), .ref (d + 23), .ref (d + 24), .ref (d + 25), .ref (d + 26), .int (w 34), .ref (d + 27), .ref (d + 28), .int (w 37), .int (w 38)])) H31 := hR35.1
          refine g_get X kc_Model mo36 11 (by decide) lk_Model_38 rfl d_Model_view_82 ?_
          refine lv_iload X.1.1 X.1.2.1 d_Model_view_85 (gl_at hl rfl) ?_
          refine lv_iload_n X.1.1 X.1.2.1 d_Model_view_87 rfl (gl_at hl rfl) ?_
          have ma37 : va_at D CL (d + 9, .inl (q 0, 12, .inl (ar 9))) H31 := hR35.a9
          refine g_iast (A := (fun p => d ≤ p ∧ p ≤ d + 28)) X 0 ma37 rfl c0 (by omega) (by decide) d_Model_view_88 ⟨by omega, by omega⟩ hL (fun H38 locs h39 z40 oq41 hL => ?_)
          have hR42 : dR D q H38 d (upd (upd (upd w 0 (nI 0)) 2 (nI 0)) 8 (nI (c0 + 1))) (va_up (va_up (va_up ar 7 (upd (ar 7) c0 (nI v))) 8 (upd (ar 8) c0 (nI x))) 9 (upd (ar 9) c0 (nI tp.length))) := hR35.putB 9 (by decide) h39 oq41 rfl (fun j hj => by simp only [va_up, if_neg hj])
          refine lv_iconst (v := nI 0) X.1.1 X.1.2.1 d_Model_view_89 (by decide) ?_
          refine g_ist X.1.1 X.1.2.1 hl 5 d_Model_view_90 (Nat.le_of_ble_eq_true rfl) rfl (fun ls hl => ?_)
          have loop92 : ∀ (fu : Nat) (i : Nat) (F : Nat → Int32) (Hn : Heap) (locs : List Loc) (ls : Array Slot), tp.length - i < fu → (i ≤ tp.length) → (tCp F (ar 10) (8 * c0) tp i) → (dR D q Hn d (upd (upd (upd w 0 (nI 0)) 2 (nI 0)) 8 (nI (c0 + 1))) (va_up (va_up (va_up (va_up ar 7 (upd (ar 7) c0 (nI v))) 8 (upd (ar 8) c0 (nI x))) 9 (upd (ar 9) c0 (nI tp.length))) 10 F)) → (Hn.size = H.size) → (∀ p : Nat, (p < d ∨ d + 28 < p) → Hn[p]? = H[p]?) → (∀ x ∈ locs, (fun p => d ≤ p ∧ p ≤ d + 28) x.base) → gl ls [some (.ref d), some (.int (nI v)), some (.int (nI x)), some (.int (nI tp.length)), some (.int (nI c0)), some (.int (nI i))] → W p l e (gR 1 21 0 0) s m ([.ref d, .int (nI v), .int (nI x)] : List Value).toArray below meth c Hn locs 0 0 (gQ below ([.ref d, .int (nI v), .int (nI x)] : List Value).toArray s (fun v1 H1 => ∃ F : Nat → Int32, (v1 = some (.int (nI c0)) ∧ tCp F (ar 10) (8 * c0) tp tp.length) ∧ dR D q H1 d (upd (upd (upd w 0 (nI 0)) 2 (nI 0)) 8 (nI (c0 + 1))) (va_up (va_up (va_up (va_up ar 7 (upd (ar 7) c0 (nI v))) 8 (upd (ar 8) c0 (nI x))) 9 (upd (ar 9) c0 (nI tp.length))) 10 F) ∧ H1.size = H.size ∧ ∀ p : Nat, (p < d ∨ d + 28 < p) → H1[p]? = H[p]?) 0 0 (fun p => d ≤ p ∧ p ≤ d + 28)) (F0 m 92 ls []) := by
            intro fu
            induction fu with
            | zero => intro i F Hn locs ls hmu; omega
            | succ fu ih92 =>
              intro i F Hn locs ls hmu92 hi92_0 hi92_1 hRl hzl frl hL hl
              refine lv_iload X.1.1 X.1.2.1 d_Model_view_92 (gl_at hl rfl) ?_
              refine lv_iload_n X.1.1 X.1.2.1 d_Model_view_94 rfl (gl_at hl rfl) ?_
              refine gn_ge X.1.1 X.1.2.1 i tp.length (by omega) (by omega) d_Model_view_95 rfl (fun hc95 => ?_) (fun hc95 => ?_)
              · refine lv_iload X.1.1 X.1.2.1 d_Model_view_124 (gl_at hl rfl) ?_
                exact g_iret X B ⟨F, ⟨rfl, by rw [show tp.length = i by omega]; exact hi92_1⟩, hRl, hzl, fun p hp => (frl p (by omega))⟩ hL d_Model_view_126 (by omega) (by omega)
              · refine lv_aload_n X.1.1 X.1.2.1 d_Model_view_98 rfl (gl_at hl rfl) ?_
                have mo43 : va_at D CL (d, .inr (10, [.int (nI 0), .ref (d + 1), .int (nI 0), .ref (d + 2), .ref (d + 3), .ref (d + 4), .ref (d + 5), .ref (d + 6), .int (nI (c0 + 1)), .ref (d + 7), .ref (d + 8), .ref (d + 9), .ref (d + 10), .ref (d + 11), .ref (d + 12), .ref (d + 13), .ref (d + 14), .ref (d + 15), .ref (d + 16), .ref (d + 17), .int (w 20), .ref (d + 18), .int (w 22), .ref (d + 19), .ref (d + 20), .ref (d + 21), .int (w 26), .int (w 27), .int (w 28), .ref (d + 22), .ref (d + 23), .ref (d + 24), .ref (d + 25), .ref (d + 26), .int (w 34), .ref (d + 27), .ref (d + 28), .int (w 37), .int (w 38)])) Hn := hRl.1
                refine g_get X kc_Model mo43 12 (by decide) lk_Model_41 rfl d_Model_view_99 ?_
                refine lv_bipush (v := nI 8) X.1.1 X.1.2.1 d_Model_view_102 (by decide) ?_
                refine lv_iload X.1.1 X.1.2.1 d_Model_view_104 (gl_at hl rfl) ?_
                refine lv_imul X.1.1 X.1.2.1 d_Model_view_106 ?_
                refine g_top (nI (8 * c0)) (pk_mul _ _) ?_
                refine lv_iload X.1.1 X.1.2.1 d_Model_view_107 (gl_at hl rfl) ?_
                refine lv_iadd X.1.1 X.1.2.1 d_Model_view_109 ?_
                refine g_top (nI ((8 * c0) + i)) (nI_add _ _) ?_
                refine lv_aload_n X.1.1 X.1.2.1 d_Model_view_110 rfl (gl_at hl rfl) ?_
                refine g_get X kc_Model mo43 1 (by decide) lk_Model_7 rfl d_Model_view_111 ?_
                refine lv_iload X.1.1 X.1.2.1 d_Model_view_114 (gl_at hl rfl) ?_
                have ma44 : va_at D CL (d + 1, .inl (q 0, 8, .inl (ar 1))) Hn := hRl.a1
                refine g_iald X 0 ma44 rfl i (by omega) (by omega) d_Model_view_116 ?_
                refine g_top (nI (tp.getD i 0)) ((congrArg (ar 1) (by omega)).trans (ht.2.1 i (by omega))) ?_
                have ma45 : va_at D CL (d + 10, .inl (q 0, 96, .inl F)) Hn := hRl.a10
                refine g_iast (A := (fun p => d ≤ p ∧ p ≤ d + 28)) X 0 ma45 rfl ((8 * c0) + i) (by omega) (by decide) d_Model_view_117 ⟨by omega, by omega⟩ hL (fun H46 locs h47 z48 oq49 hL => ?_)
                have hR50 : dR D q H46 d (upd (upd (upd w 0 (nI 0)) 2 (nI 0)) 8 (nI (c0 + 1))) (va_up (va_up (va_up (va_up ar 7 (upd (ar 7) c0 (nI v))) 8 (upd (ar 8) c0 (nI x))) 9 (upd (ar 9) c0 (nI tp.length))) 10 (upd F ((8 * c0) + i) (nI (tp.getD i 0)))) := hRl.putB 10 (by decide) h47 oq49 rfl (fun j hj => by simp only [va_up, if_neg hj])
                refine g_iinc X.1.1 X.1.2.1 (nI (i + 1)) hl 5 d_Model_view_118 rfl (nI_1 _) rfl (fun ls hl => ?_)
                refine lv_goto X.1.1 X.1.2.1 d_Model_view_121 rfl ?_
                exact ih92 (i + 1) (upd F ((8 * c0) + i) (nI (tp.getD i 0))) H46 locs ls (by omega) (by omega) (hi92_1.step rfl) hR50 (z48.trans hzl) (fun p hp => ((oq49 p (by omega)).trans (frl p (by omega)))) hL hl
          exact loop92 _ 0 (ar 10) H38 locs ls (Nat.lt_succ_self _) (Nat.zero_le _) tCp.zero (hR42.as (fun j => by first | rfl | (simp only [upd]; repeat' split <;> first | rfl | (subst_vars; rfl))) (fun j => by first | rfl | (simp only [va_up]; repeat' split <;> first | rfl | (subst_vars; rfl)))) (z40.trans (z33.trans (z26.trans (z19.trans (z13.trans z7))))) (fun p hp => ((oq41 p (by omega)).trans ((oq34 p (by omega)).trans ((oq27 p (by omega)).trans ((oq20 p (by omega)).trans ((oq14 p (by omega)).trans (oq8 p (by omega)))))))) hL hl
        · omega
      · omega


set_option maxHeartbeats 4000000 in
set_option maxRecDepth 100000 in
/-- found -/
theorem c_Model_found (l : Launch) (D : va_G) (q : Nat → ClassId) (H : Heap) (d : Nat) (w : Nat → Int32) (ar : Nat → Nat → Int32) (hR : dR D q H d w ar) (tl : List Nat) (hf : pF w ar tl) (x : Int32) : gC l y_Model_found (Cond.code y_Model_found b_Model_found 2 (some .int) :: gWS) (gR 0 0 0 0) D CL (gY q) (fun _ => True) [.ref d, .int x] H (fun v1 H1 => v1 = some (.int (h_let tl x)) ∧ dR D q H1 d (upd w 0 (nI 0)) ar ∧ H1.size = H.size ∧ ∀ p : Nat, (p < d ∨ d + 28 < p) → H1[p]? = H[p]?) 0 0 (fun p => d ≤ p ∧ p ≤ d + 28) := by
  refine gC.ofW R_Model "found" (by decide) rfl rfl ?_
  intro p e s m below meth c hadm X hE hH B hne
  refine g_entry [some (.ref d), some (.int x)] rfl rfl (Nat.le_of_ble_eq_true rfl) (fun ls hl => ?_)
  have hf8 := hf.2.2.1
  refine lv_aload_n X.1.1 X.1.2.1 d_Model_found_0 rfl (gl_at hl rfl) ?_
  refine lv_iconst (v := nI 0) X.1.1 X.1.2.1 d_Model_found_1 (by decide) ?_
  have mo1 : va_at D CL (d, .inr (10, [.int (w 0), .ref (d + 1), .int (w 2), .ref (d + 2), .ref (d + 3), .ref (d + 4), .ref (d + 5), .ref (d + 6), .int (w 8), .ref (d + 7), .ref (d + 8), .ref (d + 9), .ref (d + 10), .ref (d + 11), .ref (d + 12), .ref (d + 13), .ref (d + 14), .ref (d + 15), .ref (d + 16), .ref (d + 17), .int (w 20), .ref (d + 18), .int (w 22), .ref (d + 19), .ref (d + 20), .ref (d + 21), .int (w 26), .int (w 27), .int (w 28), .ref (d + 22), .ref (d + 23), .ref (d + 24), .ref (d + 25), .ref (d + 26), .int (w 34), .ref (d + 27), .ref (d + 28), .int (w 37), .int (w 38)])) H := hR.1
  refine g_put (A := (fun p => d ≤ p ∧ p ≤ d + 28)) X kc_Model mo1 0 (by decide) lk_Model_99 rfl rfl rfl (Nat.le_of_ble_eq_true rfl) d_Model_found_2 ⟨by omega, by omega⟩ (fun _ h => by cases h) (fun H2 locs h3 z4 oq5 hL => ?_)
  have hR6 : dR D q H2 d (upd w 0 (nI 0)) ar := hR.putO h3 oq5
  refine lv_iload_n X.1.1 X.1.2.1 d_Model_found_5 rfl (gl_at hl rfl) ?_
  refine lv_iconst (v := (-1)) X.1.1 X.1.2.1 d_Model_found_6 (by decide) ?_
  refine lv_icmp_ne X.1.1 X.1.2.1 d_Model_found_7 rfl (fun hc7 => ?_) (fun hc7 => ?_)
  · refine lv_iload_n X.1.1 X.1.2.1 d_Model_found_17 rfl (gl_at hl rfl) ?_
    refine lv_if_lt X.1.1 X.1.2.1 d_Model_found_18 rfl (fun hc18 => ?_) (fun hc18 => ?_)
    · refine lv_iconst (v := (-1)) X.1.1 X.1.2.1 d_Model_found_29 (by decide) ?_
      refine lv_goto X.1.1 X.1.2.1 d_Model_found_30 rfl ?_
      exact g_iret X B ⟨by
        refine congrArg (fun z => some (Value.int z)) ?_
        unfold h_let
        rw [if_neg hc7, if_neg (fun h9 => by first | exact h9.1 hc18 | exact h9.2 (by rw [← hf.1]; exact gi_nltn hc26))], hR6, z4, fun p hp => (oq5 p (by omega))⟩ hL d_Model_found_39 (by omega) (by omega)
    · refine lv_iload_n X.1.1 X.1.2.1 d_Model_found_21 rfl (gl_at hl rfl) ?_
      refine lv_aload_n X.1.1 X.1.2.1 d_Model_found_22 rfl (gl_at hl rfl) ?_
      have mo7 : va_at D CL (d, .inr (10, [.int (nI 0), .ref (d + 1), .int (w 2), .ref (d + 2), .ref (d + 3), .ref (d + 4), .ref (d + 5), .ref (d + 6), .int (w 8), .ref (d + 7), .ref (d + 8), .ref (d + 9), .ref (d + 10), .ref (d + 11), .ref (d + 12), .ref (d + 13), .ref (d + 14), .ref (d + 15), .ref (d + 16), .ref (d + 17), .int (w 20), .ref (d + 18), .int (w 22), .ref (d + 19), .ref (d + 20), .ref (d + 21), .int (w 26), .int (w 27), .int (w 28), .ref (d + 22), .ref (d + 23), .ref (d + 24), .ref (d + 25), .ref (d + 26), .int (w 34), .ref (d + 27), .ref (d + 28), .int (w 37), .int (w 38)])) H2 := hR6.1
      refine g_get X kc_Model mo7 20 (by decide) lk_Model_154 rfl d_Model_found_23 ?_
      refine lv_icmp_lt X.1.1 X.1.2.1 d_Model_found_26 rfl (fun hc26 => ?_) (fun hc26 => ?_)
      · obtain ⟨k, hk9, rfl⟩ := h_okN (c := tl.length) (by omega) ⟨hc18, by rw [← hf.1]; exact gi_ltn hc26⟩
        refine lv_aload_n X.1.1 X.1.2.1 d_Model_found_33 rfl (gl_at hl rfl) ?_
        refine g_get X kc_Model mo7 19 (by decide) lk_Model_63 rfl d_Model_found_34 ?_
        refine lv_iload_n X.1.1 X.1.2.1 d_Model_found_37 rfl (gl_at hl rfl) ?_
        have ma8 : va_at D CL (d + 17, .inl (q 0, 8, .inl (ar 17))) H2 := hR6.a17
        refine g_iald X 0 ma8 rfl k (by omega) (by omega) d_Model_found_38 ?_
        refine g_top (nI (tl.getD k 0)) ((congrArg (ar 17) (by omega)).trans (hf.2.1 k (by omega))) ?_
        exact g_iret X B ⟨by
          rw [h_letk hk9 (by omega)], hR6, z4, fun p hp => (oq5 p (by omega))⟩ hL d_Model_found_39 (by omega) (by omega)
      · refine lv_iconst (v := (-1)) X.1.1 X.1.2.1 d_Model_found_29 (by decide) ?_
        refine lv_goto X.1.1 X.1.2.1 d_Model_found_30 rfl ?_
        exact g_iret X B ⟨by
          refine congrArg (fun z => some (Value.int z)) ?_
          unfold h_let
          rw [if_neg hc7, if_neg (fun h9 => by first | exact h9.1 hc18 | exact h9.2 (by rw [← hf.1]; exact gi_nltn hc26))], hR6, z4, fun p hp => (oq5 p (by omega))⟩ hL d_Model_found_39 (by omega) (by omega)
  · refine lv_aload_n X.1.1 X.1.2.1 d_Model_found_10 rfl (gl_at hl rfl) ?_
    have mo9 : va_at D CL (d, .inr (10, [.int (nI 0), .ref (d + 1), .int (w 2), .ref (d + 2), .ref (d + 3), .ref (d + 4), .ref (d + 5), .ref (d + 6), .int (w 8), .ref (d + 7), .ref (d + 8), .ref (d + 9), .ref (d + 10), .ref (d + 11), .ref (d + 12), .ref (d + 13), .ref (d + 14), .ref (d + 15), .ref (d + 16), .ref (d + 17), .int (w 20), .ref (d + 18), .int (w 22), .ref (d + 19), .ref (d + 20), .ref (d + 21), .int (w 26), .int (w 27), .int (w 28), .ref (d + 22), .ref (d + 23), .ref (d + 24), .ref (d + 25), .ref (d + 26), .int (w 34), .ref (d + 27), .ref (d + 28), .int (w 37), .int (w 38)])) H2 := hR6.1
    refine g_get X kc_Model mo9 20 (by decide) lk_Model_154 rfl d_Model_found_11 ?_
    refine lv_goto X.1.1 X.1.2.1 d_Model_found_14 rfl ?_
    exact g_iret X B ⟨by
      subst hc7
      exact congrArg (fun z => some (Value.int z)) hf.1, hR6, z4, fun p hp => (oq5 p (by omega))⟩ hL d_Model_found_39 (by omega) (by omega)

set_option maxHeartbeats 4000000 in
set_option maxRecDepth 100000 in
/-- iterate -/
theorem c_Model_iterate (l : Launch) (D : va_G) (q : Nat → ClassId) (H : Heap) (d : Nat) (w : Nat → Int32) (ar : Nat → Nat → Int32) (hR : dR D q H d w ar) (c0 : Nat) (org : Nat → Option Nat) (srt : Nat → Nat) (bt : Nat → List Nat) (tn mp : Nat → Nat) (hv : pV w ar c0 org srt bt) (hN : pN c0 org srt tn mp) (v : Nat) (hvc : v < c0) : gC l y_Model_iterate (Cond.code y_Model_iterate b_Model_iterate 2 (some .boolean) :: gWS) (gR 1 22 0 0) D CL (gY q) (fun _ => True) [.ref d, .int (nI v)] H (fun v1 H1 => v1 = some (.int (nI 1)) ∧ dR D q H1 d (upd w 0 (nI 0)) (va_up (va_up (va_up (va_up ar 11 (upd (ar 11) v (nI 1))) 12 (upd (ar 12) v (nI 0))) 13 (upd (ar 13) v (nI 0))) 14 (upd (ar 14) v (ar 3 (mp v)))) ∧ H1.size = H.size ∧ ∀ p : Nat, (p < d ∨ d + 28 < p) → H1[p]? = H[p]?) 0 0 (fun p => d ≤ p ∧ p ≤ d + 28) := by
  refine gC.ofW R_Model "iterate" (by decide) rfl rfl ?_
  intro p e s m below meth c hadm X hE hH B hne
  refine g_entry [some (.ref d), some (.int (nI v))] rfl rfl (Nat.le_of_ble_eq_true rfl) (fun ls hl => ?_)
  have h12 := hv.2.2.1
  have hmp := (hN v hvc).1
  refine lv_aload_n X.1.1 X.1.2.1 d_Model_iterate_0 rfl (gl_at hl rfl) ?_
  refine lv_iconst (v := nI 0) X.1.1 X.1.2.1 d_Model_iterate_1 (by decide) ?_
  have mo1 : va_at D CL (d, .inr (10, [.int (w 0), .ref (d + 1), .int (w 2), .ref (d + 2), .ref (d + 3), .ref (d + 4), .ref (d + 5), .ref (d + 6), .int (w 8), .ref (d + 7), .ref (d + 8), .ref (d + 9), .ref (d + 10), .ref (d + 11), .ref (d + 12), .ref (d + 13), .ref (d + 14), .ref (d + 15), .ref (d + 16), .ref (d + 17), .int (w 20), .ref (d + 18), .int (w 22), .ref (d + 19), .ref (d + 20), .ref (d + 21), .int (w 26), .int (w 27), .int (w 28), .ref (d + 22), .ref (d + 23), .ref (d + 24), .ref (d + 25), .ref (d + 26), .int (w 34), .ref (d + 27), .ref (d + 28), .int (w 37), .int (w 38)])) H := hR.1
  refine g_put (A := (fun p => d ≤ p ∧ p ≤ d + 28)) X kc_Model mo1 0 (by decide) lk_Model_99 rfl rfl rfl (Nat.le_of_ble_eq_true rfl) d_Model_iterate_2 ⟨by omega, by omega⟩ (fun _ h => by cases h) (fun H2 locs h3 z4 oq5 hL => ?_)
  have hR6 : dR D q H2 d (upd w 0 (nI 0)) ar := hR.putO h3 oq5
  refine lv_aload_n X.1.1 X.1.2.1 d_Model_iterate_5 rfl (gl_at hl rfl) ?_
  refine lv_iload_n X.1.1 X.1.2.1 d_Model_iterate_6 rfl (gl_at hl rfl) ?_
  have mo7 : va_at D CL (d, .inr (10, [.int (nI 0), .ref (d + 1), .int (w 2), .ref (d + 2), .ref (d + 3), .ref (d + 4), .ref (d + 5), .ref (d + 6), .int (w 8), .ref (d + 7), .ref (d + 8), .ref (d + 9), .ref (d + 10), .ref (d + 11), .ref (d + 12), .ref (d + 13), .ref (d + 14), .ref (d + 15), .ref (d + 16), .ref (d + 17), .int (w 20), .ref (d + 18), .int (w 22), .ref (d + 19), .ref (d + 20), .ref (d + 21), .int (w 26), .int (w 27), .int (w 28), .ref (d + 22), .ref (d + 23), .ref (d + 24), .ref (d + 25), .ref (d + 26), .int (w 34), .ref (d + 27), .ref (d + 28), .int (w 37), .int (w 38)])) H2 := hR6.1
  refine g_cv (A := (fun p => d ≤ p ∧ p ≤ d + 28)) X gWS_good mw_Model_122 kc_Model mo7 (c_Model_isView l D q H2 d (upd w 0 (nI 0)) ar hR6 c0 hv.1 (nI v)) (fun _ _ _ => trivial) gBlind.tt rfl rfl hl.1 (Nat.le_of_ble_eq_true rfl) rfl rfl ⟨by decide, by decide⟩ ⟨by decide, by decide⟩ d_Model_iterate_7 (fun _ h => h.elim) hL (fun v8 H9 locs hp10 hL => ?_)
  obtain ⟨rfl, hHe⟩ := hp10
  rw [hHe]
  refine lv_if_ne X.1.1 X.1.2.1 d_Model_iterate_10 rfl (fun hc10 => ?_) (fun hc10 => ?_)
  · replace hc10 := gz_t hc10
    refine lv_aload_n X.1.1 X.1.2.1 d_Model_iterate_15 rfl (gl_at hl rfl) ?_
    refine g_get X kc_Model mo7 13 (by decide) lk_Model_44 rfl d_Model_iterate_16 ?_
    refine lv_iload_n X.1.1 X.1.2.1 d_Model_iterate_19 rfl (gl_at hl rfl) ?_
    refine lv_iconst (v := nI 1) X.1.1 X.1.2.1 d_Model_iterate_20 (by decide) ?_
    have ma11 : va_at D CL (d + 11, .inl (q 1, 12, .inl (ar 11))) H2 := hR6.a11
    refine g_zast (A := (fun p => d ≤ p ∧ p ≤ d + 28)) X 1 ma11 rfl v (by omega) (by decide) (by decide) d_Model_iterate_21 ⟨by omega, by omega⟩ hL (fun H12 locs h13 z14 oq15 hL => ?_)
    have hR16 : dR D q H12 d (upd w 0 (nI 0)) (va_up ar 11 (upd (ar 11) v (nI 1))) := hR6.putB 11 (by decide) h13 oq15 rfl (fun j hj => by simp only [va_up, if_neg hj])
    refine lv_aload_n X.1.1 X.1.2.1 d_Model_iterate_22 rfl (gl_at hl rfl) ?_
    have mo17 : va_at D CL (d, .inr (10, [.int (nI 0), .ref (d + 1), .int (w 2), .ref (d + 2), .ref (d + 3), .ref (d + 4), .ref (d + 5), .ref (d + 6), .int (w 8), .ref (d + 7), .ref (d + 8), .ref (d + 9), .ref (d + 10), .ref (d + 11), .ref (d + 12), .ref (d + 13), .ref (d + 14), .ref (d + 15), .ref (d + 16), .ref (d + 17), .int (w 20), .ref (d + 18), .int (w 22), .ref (d + 19), .ref (d + 20), .ref (d + 21), .int (w 26), .int (w 27), .int (w 28), .ref (d + 22), .ref (d + 23), .ref (d + 24), .ref (d + 25), .ref (d + 26), .int (w 34), .ref (d + 27), .ref (d + 28), .int (w 37), .int (w 38)])) H12 := hR16.1
    refine g_get X kc_Model mo17 14 (by decide) lk_Model_48 rfl d_Model_iterate_23 ?_
    refine lv_iload_n X.1.1 X.1.2.1 d_Model_iterate_26 rfl (gl_at hl rfl) ?_
    refine lv_iconst (v := nI 0) X.1.1 X.1.2.1 d_Model_iterate_27 (by decide) ?_
    have ma18 : va_at D CL (d + 12, .inl (q 1, 12, .inl (ar 12))) H12 := hR16.a12
    refine g_zast (A := (fun p => d ≤ p ∧ p ≤ d + 28)) X 1 ma18 rfl v (by omega) (by decide) (by decide) d_Model_iterate_28 ⟨by omega, by omega⟩ hL (fun H19 locs h20 z21 oq22 hL => ?_)
    have hR23 : dR D q H19 d (upd w 0 (nI 0)) (va_up (va_up ar 11 (upd (ar 11) v (nI 1))) 12 (upd (ar 12) v (nI 0))) := hR16.putB 12 (by decide) h20 oq22 rfl (fun j hj => by simp only [va_up, if_neg hj])
    refine lv_aload_n X.1.1 X.1.2.1 d_Model_iterate_29 rfl (gl_at hl rfl) ?_
    have mo24 : va_at D CL (d, .inr (10, [.int (nI 0), .ref (d + 1), .int (w 2), .ref (d + 2), .ref (d + 3), .ref (d + 4), .ref (d + 5), .ref (d + 6), .int (w 8), .ref (d + 7), .ref (d + 8), .ref (d + 9), .ref (d + 10), .ref (d + 11), .ref (d + 12), .ref (d + 13), .ref (d + 14), .ref (d + 15), .ref (d + 16), .ref (d + 17), .int (w 20), .ref (d + 18), .int (w 22), .ref (d + 19), .ref (d + 20), .ref (d + 21), .int (w 26), .int (w 27), .int (w 28), .ref (d + 22), .ref (d + 23), .ref (d + 24), .ref (d + 25), .ref (d + 26), .int (w 34), .ref (d + 27), .ref (d + 28), .int (w 37), .int (w 38)])) H19 := hR23.1
    refine g_get X kc_Model mo24 15 (by decide) lk_Model_51 rfl d_Model_iterate_30 ?_
    refine lv_iload_n X.1.1 X.1.2.1 d_Model_iterate_33 rfl (gl_at hl rfl) ?_
    refine lv_iconst (v := nI 0) X.1.1 X.1.2.1 d_Model_iterate_34 (by decide) ?_
    have ma25 : va_at D CL (d + 13, .inl (q 1, 12, .inl (ar 13))) H19 := hR23.a13
    refine g_zast (A := (fun p => d ≤ p ∧ p ≤ d + 28)) X 1 ma25 rfl v (by omega) (by decide) (by decide) d_Model_iterate_35 ⟨by omega, by omega⟩ hL (fun H26 locs h27 z28 oq29 hL => ?_)
    have hR30 : dR D q H26 d (upd w 0 (nI 0)) (va_up (va_up (va_up ar 11 (upd (ar 11) v (nI 1))) 12 (upd (ar 12) v (nI 0))) 13 (upd (ar 13) v (nI 0))) := hR23.putB 13 (by decide) h27 oq29 rfl (fun j hj => by simp only [va_up, if_neg hj])
    refine lv_aload_n X.1.1 X.1.2.1 d_Model_iterate_36 rfl (gl_at hl rfl) ?_
    have mo31 : va_at D CL (d, .inr (10, [.int (nI 0), .ref (d + 1), .int (w 2), .ref (d + 2), .ref (d + 3), .ref (d + 4), .ref (d + 5), .ref (d + 6), .int (w 8), .ref (d + 7), .ref (d + 8), .ref (d + 9), .ref (d + 10), .ref (d + 11), .ref (d + 12), .ref (d + 13), .ref (d + 14), .ref (d + 15), .ref (d + 16), .ref (d + 17), .int (w 20), .ref (d + 18), .int (w 22), .ref (d + 19), .ref (d + 20), .ref (d + 21), .int (w 26), .int (w 27), .int (w 28), .ref (d + 22), .ref (d + 23), .ref (d + 24), .ref (d + 25), .ref (d + 26), .int (w 34), .ref (d + 27), .ref (d + 28), .int (w 37), .int (w 38)])) H26 := hR30.1
    refine g_get X kc_Model mo31 16 (by decide) lk_Model_54 rfl d_Model_iterate_37 ?_
    refine lv_iload_n X.1.1 X.1.2.1 d_Model_iterate_40 rfl (gl_at hl rfl) ?_
    refine lv_aload_n X.1.1 X.1.2.1 d_Model_iterate_41 rfl (gl_at hl rfl) ?_
    refine g_get X kc_Model mo31 4 (by decide) lk_Model_16 rfl d_Model_iterate_42 ?_
    refine lv_aload_n X.1.1 X.1.2.1 d_Model_iterate_45 rfl (gl_at hl rfl) ?_
    refine lv_iload_n X.1.1 X.1.2.1 d_Model_iterate_46 rfl (gl_at hl rfl) ?_
    refine g_cv (A := (fun p => d ≤ p ∧ p ≤ d + 28)) X gWS_good mw_Model_114 kc_Model mo31 (c_Model_mapOf l D q H26 d (upd w 0 (nI 0)) (va_up (va_up (va_up ar 11 (upd (ar 11) v (nI 1))) 12 (upd (ar 12) v (nI 0))) 13 (upd (ar 13) v (nI 0))) hR30 c0 org srt bt tn mp hv hN v hvc) (fun _ _ _ => trivial) gBlind.tt rfl rfl hl.1 (Nat.le_of_ble_eq_true rfl) rfl rfl ⟨by decide, by decide⟩ ⟨by decide, by decide⟩ d_Model_iterate_47 (fun _ h => h.elim) hL (fun v32 H33 locs hp34 hL => ?_)
    obtain ⟨rfl, hHe⟩ := hp34
    rw [hHe]
    have ma35 : va_at D CL (d + 3, .inl (q 0, 3, .inl (ar 3))) H26 := hR30.a3
    refine g_iald X 0 ma35 rfl (mp v) (by omega) (by omega) d_Model_iterate_50 ?_
    have ma36 : va_at D CL (d + 14, .inl (q 0, 12, .inl (ar 14))) H26 := hR30.a14
    refine g_iast (A := (fun p => d ≤ p ∧ p ≤ d + 28)) X 0 ma36 rfl v (by omega) (by decide) d_Model_iterate_51 ⟨by omega, by omega⟩ hL (fun H37 locs h38 z39 oq40 hL => ?_)
    have hR41 : dR D q H37 d (upd w 0 (nI 0)) (va_up (va_up (va_up (va_up ar 11 (upd (ar 11) v (nI 1))) 12 (upd (ar 12) v (nI 0))) 13 (upd (ar 13) v (nI 0))) 14 (upd (ar 14) v ((ar 3) (mp v)))) := hR30.putB 14 (by decide) h38 oq40 rfl (fun j hj => by simp only [va_up, if_neg hj])
    refine lv_iconst (v := nI 1) X.1.1 X.1.2.1 d_Model_iterate_52 (by decide) ?_
    exact g_zret X B (by decide) ⟨rfl, hR41, (z39.trans (z28.trans (z21.trans (z14.trans z4)))), fun p hp => ((oq40 p (by omega)).trans ((oq29 p (by omega)).trans ((oq22 p (by omega)).trans ((oq15 p (by omega)).trans (oq5 p (by omega))))))⟩ hL d_Model_iterate_53 (by omega) (by omega)
  · replace hc10 := gz_f hc10
    exact absurd (h_ok_of (by omega) hvc) hc10

set_option maxHeartbeats 4000000 in
set_option maxRecDepth 100000 in
/-- type: refused -/
theorem c_Model_typeN (l : Launch) (D : va_G) (q : Nat → ClassId) (H : Heap) (d : Nat) (w : Nat → Int32) (ar : Nat → Nat → Int32) (hR : dR D q H d w ar) (tp : List Nat) (ht : pT w ar tp) (x : Int64) (y : Int32) (hbad : ¬ (¬ y < nI 1 ∧ ¬ nI 4 < y ∧ nI tp.length + y ≤ nI 8)) : gC l y_Model_type (Cond.code y_Model_type b_Model_type 5 (some .boolean) :: gWS) (gR 0 0 0 0) D CL (gY q) (fun _ => True) [.ref d, .long x, .int y] H (fun v1 H1 => v1 = some (.int (nI 0)) ∧ dR D q H1 d (upd w 0 (nI 0)) ar ∧ H1.size = H.size ∧ ∀ p : Nat, (p < d ∨ d + 28 < p) → H1[p]? = H[p]?) 0 0 (fun p => d ≤ p ∧ p ≤ d + 28) := by
  refine gC.ofW R_Model "type" (by decide) rfl rfl ?_
  intro p e s m below meth c hadm X hE hH B hne
  refine g_entry [some (.ref d), some (.long x), none, some (.int y), none] rfl rfl (Nat.le_of_ble_eq_true rfl) (fun ls hl => ?_)
  refine lv_aload_n X.1.1 X.1.2.1 d_Model_type_0 rfl (gl_at hl rfl) ?_
  refine lv_iconst (v := nI 0) X.1.1 X.1.2.1 d_Model_type_1 (by decide) ?_
  have mo1 : va_at D CL (d, .inr (10, [.int (w 0), .ref (d + 1), .int (w 2), .ref (d + 2), .ref (d + 3), .ref (d + 4), .ref (d + 5), .ref (d + 6), .int (w 8), .ref (d + 7), .ref (d + 8), .ref (d + 9), .ref (d + 10), .ref (d + 11), .ref (d + 12), .ref (d + 13), .ref (d + 14), .ref (d + 15), .ref (d + 16), .ref (d + 17), .int (w 20), .ref (d + 18), .int (w 22), .ref (d + 19), .ref (d + 20), .ref (d + 21), .int (w 26), .int (w 27), .int (w 28), .ref (d + 22), .ref (d + 23), .ref (d + 24), .ref (d + 25), .ref (d + 26), .int (w 34), .ref (d + 27), .ref (d + 28), .int (w 37), .int (w 38)])) H := hR.1
  refine g_put (A := (fun p => d ≤ p ∧ p ≤ d + 28)) X kc_Model mo1 0 (by decide) lk_Model_99 rfl rfl rfl (Nat.le_of_ble_eq_true rfl) d_Model_type_2 ⟨by omega, by omega⟩ (fun _ h => by cases h) (fun H2 locs h3 z4 oq5 hL => ?_)
  have hR6 : dR D q H2 d (upd w 0 (nI 0)) ar := hR.putO h3 oq5
  refine lv_iload_n X.1.1 X.1.2.1 d_Model_type_5 rfl (gl_at hl rfl) ?_
  refine lv_iconst (v := nI 1) X.1.1 X.1.2.1 d_Model_type_6 (by decide) ?_
  refine lv_icmp_lt X.1.1 X.1.2.1 d_Model_type_7 rfl (fun hc7 => ?_) (fun hc7 => ?_)
  · refine lv_iconst (v := nI 0) X.1.1 X.1.2.1 d_Model_type_26 (by decide) ?_
    exact g_zret X B (by decide) ⟨rfl, hR6, z4, fun p hp => (oq5 p (by omega))⟩ hL d_Model_type_27 (by omega) (by omega)
  · refine lv_iload_n X.1.1 X.1.2.1 d_Model_type_10 rfl (gl_at hl rfl) ?_
    refine lv_iconst (v := nI 4) X.1.1 X.1.2.1 d_Model_type_11 (by decide) ?_
    refine lv_icmp_gt X.1.1 X.1.2.1 d_Model_type_12 rfl (fun hc12 => ?_) (fun hc12 => ?_)
    · refine lv_iconst (v := nI 0) X.1.1 X.1.2.1 d_Model_type_26 (by decide) ?_
      exact g_zret X B (by decide) ⟨rfl, hR6, z4, fun p hp => (oq5 p (by omega))⟩ hL d_Model_type_27 (by omega) (by omega)
    · refine lv_aload_n X.1.1 X.1.2.1 d_Model_type_15 rfl (gl_at hl rfl) ?_
      have mo7 : va_at D CL (d, .inr (10, [.int (nI 0), .ref (d + 1), .int (w 2), .ref (d + 2), .ref (d + 3), .ref (d + 4), .ref (d + 5), .ref (d + 6), .int (w 8), .ref (d + 7), .ref (d + 8), .ref (d + 9), .ref (d + 10), .ref (d + 11), .ref (d + 12), .ref (d + 13), .ref (d + 14), .ref (d + 15), .ref (d + 16), .ref (d + 17), .int (w 20), .ref (d + 18), .int (w 22), .ref (d + 19), .ref (d + 20), .ref (d + 21), .int (w 26), .int (w 27), .int (w 28), .ref (d + 22), .ref (d + 23), .ref (d + 24), .ref (d + 25), .ref (d + 26), .int (w 34), .ref (d + 27), .ref (d + 28), .int (w 37), .int (w 38)])) H2 := hR6.1
      refine g_get X kc_Model mo7 2 (by decide) lk_Model_102 rfl d_Model_type_16 ?_
      refine g_top (nI tp.length) ht.1 ?_
      refine lv_iload_n X.1.1 X.1.2.1 d_Model_type_19 rfl (gl_at hl rfl) ?_
      refine lv_iadd X.1.1 X.1.2.1 d_Model_type_20 ?_
      refine lv_bipush (v := nI 8) X.1.1 X.1.2.1 d_Model_type_21 (by decide) ?_
      refine lv_icmp_le X.1.1 X.1.2.1 d_Model_type_23 rfl (fun hc23 => ?_) (fun hc23 => ?_)
      · exact absurd ⟨hc7, hc12, hc23⟩ hbad
      · refine lv_iconst (v := nI 0) X.1.1 X.1.2.1 d_Model_type_26 (by decide) ?_
        exact g_zret X B (by decide) ⟨rfl, hR6, z4, fun p hp => (oq5 p (by omega))⟩ hL d_Model_type_27 (by omega) (by omega)

theorem tXo_push {F : Nat → Int32} {o y z c : Nat} {xs : List Nat} (h : tXo F o xs) (hy : y = xs.length) (hz : z = o + y) : tXo (upd F z (nI c)) o (xs ++ [c]) := by
  subst hy hz
  intro j hj
  rw [List.length_append, List.length_singleton] at hj
  by_cases e : j = xs.length
  · rw [e, pk_us, t_get_last]
  · rw [pk_un (by omega), h j (by omega), t_get_app (by omega)]

theorem mk_Model_105 : Cond.constant R_Model 105 65535 ∈ gWS := (gWS_at 971 (by decide +kernel) (by decide +kernel))
def t_sa (x : Int64) (y : Int32) : Int64 := x >>> (y.toInt64 &&& 63)
theorem sa_bits (b : BitVec 64) {k : Nat} (hk : k ≤ 48) : ((b.sshiftRight k).signExtend 32).setWidth 16 = ((b >>> k).signExtend 32).setWidth 16 := by
  apply BitVec.eq_of_getLsbD_eq
  intro j hj
  simp only [BitVec.getLsbD_setWidth, BitVec.getLsbD_signExtend, BitVec.getLsbD_sshiftRight, BitVec.getLsbD_ushiftRight]
  have h1 : j < 32 := by omega
  have h2 : j < 64 := by omega
  have h3 : k + j < 64 := by omega
  have h4 : ¬ 64 ≤ j := by omega
  simp [h1, h2, h3, h4]
theorem t_sar (x : Int64) {i : Nat} (hi : i < 4) : (t_sa x (nI (16 * i))).toInt32 &&& 65535 = nI (t_ch x i) := by
  rw [pk_and _ 16 (by decide)]
  have h1 : (t_sa x (nI (16 * i))).toInt32.toBitVec = (x.toBitVec.sshiftRight (16 * i)).signExtend 32 := by
    rcases (show i = 0 ∨ i = 1 ∨ i = 2 ∨ i = 3 by omega) with e | e | e | e <;> subst e <;> rfl
  have h2 : (t_sh x (nI (16 * i))).toInt32.toBitVec = (x.toBitVec >>> (16 * i)).signExtend 32 := by
    rcases (show i = 0 ∨ i = 1 ∨ i = 2 ∨ i = 3 by omega) with e | e | e | e <;> subst e <;> rfl
  unfold t_ch
  rw [h1, h2]
  have h3 := congrArg BitVec.toNat (sa_bits x.toBitVec (k := 16 * i) (by omega))
  rw [BitVec.toNat_setWidth, BitVec.toNat_setWidth] at h3
  rw [h3]

set_option maxHeartbeats 4000000 in
set_option maxRecDepth 100000 in
/-- type -/
theorem c_Model_type (l : Launch) (D : va_G) (q : Nat → ClassId) (H : Heap) (d : Nat) (w : Nat → Int32) (ar : Nat → Nat → Int32) (hR : dR D q H d w ar) (tp : List Nat) (ht : pT w ar tp) (x : Int64) (nn : Nat) (hn1 : 1 ≤ nn) (hn4 : nn ≤ 4) (hlen : tp.length + nn ≤ 8) : gC l y_Model_type (Cond.code y_Model_type b_Model_type 5 (some .boolean) :: gWS) (gR 0 0 0 0) D CL (gY q) (fun _ => True) [.ref d, .long x, .int (nI nn)] H (fun v1 H1 => ∃ F : Nat → Int32, (v1 = some (.int (nI 1)) ∧ tXo F 0 (tp ++ h_ty x nn nn)) ∧ dR D q H1 d (upd (upd w 0 (nI 0)) 2 (nI (tp.length + nn))) (va_up ar 1 F) ∧ H1.size = H.size ∧ ∀ p : Nat, (p < d ∨ d + 28 < p) → H1[p]? = H[p]?) 0 0 (fun p => d ≤ p ∧ p ≤ d + 28) := by
  refine gC.ofW R_Model "type" (by decide) rfl rfl ?_
  intro p e s m below meth c hadm X hE hH B hne
  refine g_entry [some (.ref d), some (.long x), none, some (.int (nI nn)), none] rfl rfl (Nat.le_of_ble_eq_true rfl) (fun ls hl => ?_)
  refine lv_aload_n X.1.1 X.1.2.1 d_Model_type_0 rfl (gl_at hl rfl) ?_
  refine lv_iconst (v := nI 0) X.1.1 X.1.2.1 d_Model_type_1 (by decide) ?_
  have mo1 : va_at D CL (d, .inr (10, [.int (w 0), .ref (d + 1), .int (w 2), .ref (d + 2), .ref (d + 3), .ref (d + 4), .ref (d + 5), .ref (d + 6), .int (w 8), .ref (d + 7), .ref (d + 8), .ref (d + 9), .ref (d + 10), .ref (d + 11), .ref (d + 12), .ref (d + 13), .ref (d + 14), .ref (d + 15), .ref (d + 16), .ref (d + 17), .int (w 20), .ref (d + 18), .int (w 22), .ref (d + 19), .ref (d + 20), .ref (d + 21), .int (w 26), .int (w 27), .int (w 28), .ref (d + 22), .ref (d + 23), .ref (d + 24), .ref (d + 25), .ref (d + 26), .int (w 34), .ref (d + 27), .ref (d + 28), .int (w 37), .int (w 38)])) H := hR.1
  refine g_put (A := (fun p => d ≤ p ∧ p ≤ d + 28)) X kc_Model mo1 0 (by decide) lk_Model_99 rfl rfl rfl (Nat.le_of_ble_eq_true rfl) d_Model_type_2 ⟨by omega, by omega⟩ (fun _ h => by cases h) (fun H2 locs h3 z4 oq5 hL => ?_)
  have hR6 : dR D q H2 d (upd w 0 (nI 0)) ar := hR.putO h3 oq5
  refine lv_iload_n X.1.1 X.1.2.1 d_Model_type_5 rfl (gl_at hl rfl) ?_
  refine lv_iconst (v := nI 1) X.1.1 X.1.2.1 d_Model_type_6 (by decide) ?_
  refine gn_lt X.1.1 X.1.2.1 nn 1 (by omega) (by omega) d_Model_type_7 rfl (fun hc7 => ?_) (fun hc7 => ?_)
  · omega
  · refine lv_iload_n X.1.1 X.1.2.1 d_Model_type_10 rfl (gl_at hl rfl) ?_
    refine lv_iconst (v := nI 4) X.1.1 X.1.2.1 d_Model_type_11 (by decide) ?_
    refine gn_gt X.1.1 X.1.2.1 nn 4 (by omega) (by omega) d_Model_type_12 rfl (fun hc12 => ?_) (fun hc12 => ?_)
    · omega
    · refine lv_aload_n X.1.1 X.1.2.1 d_Model_type_15 rfl (gl_at hl rfl) ?_
      have mo7 : va_at D CL (d, .inr (10, [.int (nI 0), .ref (d + 1), .int (w 2), .ref (d + 2), .ref (d + 3), .ref (d + 4), .ref (d + 5), .ref (d + 6), .int (w 8), .ref (d + 7), .ref (d + 8), .ref (d + 9), .ref (d + 10), .ref (d + 11), .ref (d + 12), .ref (d + 13), .ref (d + 14), .ref (d + 15), .ref (d + 16), .ref (d + 17), .int (w 20), .ref (d + 18), .int (w 22), .ref (d + 19), .ref (d + 20), .ref (d + 21), .int (w 26), .int (w 27), .int (w 28), .ref (d + 22), .ref (d + 23), .ref (d + 24), .ref (d + 25), .ref (d + 26), .int (w 34), .ref (d + 27), .ref (d + 28), .int (w 37), .int (w 38)])) H2 := hR6.1
      refine g_get X kc_Model mo7 2 (by decide) lk_Model_102 rfl d_Model_type_16 ?_
      refine g_top (nI tp.length) ht.1 ?_
      refine lv_iload_n X.1.1 X.1.2.1 d_Model_type_19 rfl (gl_at hl rfl) ?_
      refine lv_iadd X.1.1 X.1.2.1 d_Model_type_20 ?_
      refine g_top (nI (tp.length + nn)) (nI_add _ _) ?_
      refine lv_bipush (v := nI 8) X.1.1 X.1.2.1 d_Model_type_21 (by decide) ?_
      refine gn_le X.1.1 X.1.2.1 (tp.length + nn) 8 (by omega) (by omega) d_Model_type_23 rfl (fun hc23 => ?_) (fun hc23 => ?_)
      · refine lv_iload_n X.1.1 X.1.2.1 d_Model_type_28 rfl (gl_at hl rfl) ?_
        refine lv_iconst (v := nI 1) X.1.1 X.1.2.1 d_Model_type_29 (by decide) ?_
        refine lv_isub X.1.1 X.1.2.1 d_Model_type_30 ?_
        refine g_ist X.1.1 X.1.2.1 hl 4 d_Model_type_31 (Nat.le_of_ble_eq_true rfl) rfl (fun ls hl => ?_)
        have loop33 : ∀ (fu : Nat) (k : Nat) (F : Nat → Int32) (y0 : Nat) (Hn : Heap) (locs : List Loc) (ls : Array Slot), k < fu → (k ≤ nn) → (y0 = tp.length + (nn - k)) → (tXo F 0 (tp ++ h_ty x nn (nn - k))) → (dR D q Hn d (upd (upd w 0 (nI 0)) 2 (nI y0)) (va_up ar 1 F)) → (Hn.size = H.size) → (∀ p : Nat, (p < d ∨ d + 28 < p) → Hn[p]? = H[p]?) → (∀ x ∈ locs, (fun p => d ≤ p ∧ p ≤ d + 28) x.base) → gl ls [some (.ref d), some (.long x), none, some (.int (nI nn)), some (.int (nI k - 1))] → W p l e (gR 0 0 0 0) s m ([.ref d, .long x, .int (nI nn)] : List Value).toArray below meth c Hn locs 0 0 (gQ below ([.ref d, .long x, .int (nI nn)] : List Value).toArray s (fun v1 H1 => ∃ F : Nat → Int32, (v1 = some (.int (nI 1)) ∧ tXo F 0 (tp ++ h_ty x nn nn)) ∧ dR D q H1 d (upd (upd w 0 (nI 0)) 2 (nI (tp.length + nn))) (va_up ar 1 F) ∧ H1.size = H.size ∧ ∀ p : Nat, (p < d ∨ d + 28 < p) → H1[p]? = H[p]?) 0 0 (fun p => d ≤ p ∧ p ≤ d + 28)) (F0 m 33 ls []) := by
          intro fu
          induction fu with
          | zero => intro k F y0 Hn locs ls hmu; omega
          | succ fu ih33 =>
            intro k F y0 Hn locs ls hmu33 hi33_0 hi33_1 hi33_2 hRl hzl frl hL hl
            refine lv_iload X.1.1 X.1.2.1 d_Model_type_33 (gl_at hl rfl) ?_
            refine lv_if_lt X.1.1 X.1.2.1 d_Model_type_35 rfl (fun hc35 => ?_) (fun hc35 => ?_)
            · have e9 := gs_lt (by omega) hc35
              subst e9
              refine lv_iconst (v := nI 1) X.1.1 X.1.2.1 d_Model_type_74 (by decide) ?_
              exact g_zret X B (by decide) ⟨F, ⟨rfl, hi33_2⟩, (by rw [← show y0 = tp.length + nn from hi33_1]; exact hRl), hzl, fun p hp => (frl p (by omega))⟩ hL d_Model_type_75 (by omega) (by omega)
            · have hk0 := gs_nlt hc35
              rw [gs_pos hk0] at hl
              refine lv_aload_n X.1.1 X.1.2.1 d_Model_type_38 rfl (gl_at hl rfl) ?_
              have mo8 : va_at D CL (d, .inr (10, [.int (nI 0), .ref (d + 1), .int (nI y0), .ref (d + 2), .ref (d + 3), .ref (d + 4), .ref (d + 5), .ref (d + 6), .int (w 8), .ref (d + 7), .ref (d + 8), .ref (d + 9), .ref (d + 10), .ref (d + 11), .ref (d + 12), .ref (d + 13), .ref (d + 14), .ref (d + 15), .ref (d + 16), .ref (d + 17), .int (w 20), .ref (d + 18), .int (w 22), .ref (d + 19), .ref (d + 20), .ref (d + 21), .int (w 26), .int (w 27), .int (w 28), .ref (d + 22), .ref (d + 23), .ref (d + 24), .ref (d + 25), .ref (d + 26), .int (w 34), .ref (d + 27), .ref (d + 28), .int (w 37), .int (w 38)])) Hn := hRl.1
              refine g_get X kc_Model mo8 1 (by decide) lk_Model_7 rfl d_Model_type_39 ?_
              refine lv_aload_n X.1.1 X.1.2.1 d_Model_type_42 rfl (gl_at hl rfl) ?_
              refine g_get X kc_Model mo8 2 (by decide) lk_Model_102 rfl d_Model_type_43 ?_
              refine lv_lload_n X.1.1 X.1.2.1 d_Model_type_46 rfl (gl_at hl rfl) ?_
              refine lv_bipush (v := nI 16) X.1.1 X.1.2.1 d_Model_type_47 (by decide) ?_
              refine lv_iload X.1.1 X.1.2.1 d_Model_type_49 (gl_at hl rfl) ?_
              refine lv_imul X.1.1 X.1.2.1 d_Model_type_51 ?_
              refine g_top (nI (16 * (k - 1))) (pk_mul _ _) ?_
              refine lv_lshr X.1.1 X.1.2.1 (v := t_sa x (nI (16 * (k - 1)))) d_Model_type_52 rfl ?_
              refine lv_l2i X.1.1 X.1.2.1 d_Model_type_53 rfl ?_
              refine lv_ldc X.1.1 X.1.2.1 X.1.2.2.2.1 (X.1.2.2.2.2 _ mk_Model_105) d_Model_type_54 ?_
              refine lv_iand X.1.1 X.1.2.1 d_Model_type_56 ?_
              refine g_top (nI (t_ch x (k - 1))) (t_sar x (by omega)) ?_
              have ma9 : va_at D CL (d + 1, .inl (q 0, 8, .inl F)) Hn := hRl.a1
              refine g_iast (A := (fun p => d ≤ p ∧ p ≤ d + 28)) X 0 ma9 rfl y0 (by omega) (by decide) d_Model_type_57 ⟨by omega, by omega⟩ hL (fun H10 locs h11 z12 oq13 hL => ?_)
              have hR14 : dR D q H10 d (upd (upd w 0 (nI 0)) 2 (nI y0)) (va_up ar 1 (upd F y0 (nI (t_ch x (k - 1))))) := hRl.putB 1 (by decide) h11 oq13 rfl (fun j hj => by simp only [va_up, if_neg hj])
              refine lv_aload_n X.1.1 X.1.2.1 d_Model_type_58 rfl (gl_at hl rfl) ?_
              refine lv_dup X.1.1 X.1.2.1 d_Model_type_59 rfl ?_
              have mo15 : va_at D CL (d, .inr (10, [.int (nI 0), .ref (d + 1), .int (nI y0), .ref (d + 2), .ref (d + 3), .ref (d + 4), .ref (d + 5), .ref (d + 6), .int (w 8), .ref (d + 7), .ref (d + 8), .ref (d + 9), .ref (d + 10), .ref (d + 11), .ref (d + 12), .ref (d + 13), .ref (d + 14), .ref (d + 15), .ref (d + 16), .ref (d + 17), .int (w 20), .ref (d + 18), .int (w 22), .ref (d + 19), .ref (d + 20), .ref (d + 21), .int (w 26), .int (w 27), .int (w 28), .ref (d + 22), .ref (d + 23), .ref (d + 24), .ref (d + 25), .ref (d + 26), .int (w 34), .ref (d + 27), .ref (d + 28), .int (w 37), .int (w 38)])) H10 := hR14.1
              refine g_get X kc_Model mo15 2 (by decide) lk_Model_102 rfl d_Model_type_60 ?_
              refine lv_iconst (v := nI 1) X.1.1 X.1.2.1 d_Model_type_63 (by decide) ?_
              refine lv_iadd X.1.1 X.1.2.1 d_Model_type_64 ?_
              refine g_top (nI (y0 + 1)) (nI_add _ _) ?_
              refine g_put (A := (fun p => d ≤ p ∧ p ≤ d + 28)) X kc_Model mo15 2 (by decide) lk_Model_102 rfl rfl rfl (Nat.le_of_ble_eq_true rfl) d_Model_type_65 ⟨by omega, by omega⟩ hL (fun H16 locs h17 z18 oq19 hL => ?_)
              have hR20 : dR D q H16 d (upd (upd w 0 (nI 0)) 2 (nI (y0 + 1))) (va_up ar 1 (upd F y0 (nI (t_ch x (k - 1))))) := hR14.putO h17 oq19
              refine g_iinc X.1.1 X.1.2.1 (nI (k - 1) - 1) hl 4 d_Model_type_68 rfl (gs_inc _) rfl (fun ls hl => ?_)
              refine lv_goto X.1.1 X.1.2.1 d_Model_type_71 rfl ?_
              exact ih33 (k - 1) (upd F y0 (nI (t_ch x (k - 1)))) (y0 + 1) H16 locs ls (by omega) (by omega) (by omega) (by rw [← h_ty_s hk0 hi33_0]; exact tXo_push hi33_2 (hi33_1.trans (by rw [List.length_append, h_ty_len])) (by omega)) hR20 (z18.trans (z12.trans hzl)) (fun p hp => ((oq19 p (by omega)).trans ((oq13 p (by omega)).trans (frl p (by omega))))) hL hl
        exact loop33 _ nn (ar 1) tp.length H2 locs ls (Nat.lt_succ_self _) (Nat.le_refl _) (by omega) (by rw [Nat.sub_self]; show tXo (ar 1) 0 (tp ++ []); rw [List.append_nil]; exact ht.2.1) (hR6.as (fun j => by first | rfl | (simp only [upd]; repeat' split <;> first | rfl | (subst_vars; rfl) | (subst_vars; exact ht.1.symm))) (fun j => by first | rfl | (simp only [va_up]; repeat' split <;> first | rfl | (subst_vars; rfl)))) z4 (fun p hp => (oq5 p (by omega))) hL hl
      · omega
